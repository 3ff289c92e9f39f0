/-! ===== the class's print ===== -/
section
variable {l : Launch} {D : ax_D} {S : ax_S} {E C : ax_C} {B pr p : Nat} {τ : Nat → Nat} {A : ab_A}
theorem s_isWhole {i k f : Nat} {Q : ab_P} {x y : Int32} {P : Int32 → ax_C → Prop} (hP0 : pA S C i) (hc : cP C i Q) (hx : x = nI k) (hk : k < Q.1) (hy : y = nI f) (hf : f < 7) (h1 : d2 Q.2.2 k f → P 1 C) (h0 : ¬ d2 Q.2.2 k f → P 0 C) : ax_CI l D mt_X5_isWhole [ax_r (some i), ax_i x, ax_i y] S C P := by
  have h12 := hc.1
  refine vc_X5_isWhole ((c_get hP0 hx (by omega) hy (by omega)).use ⟨by decide, ?_⟩)
  rw [hc.2.2.2 _ (by omega)]
  refine ⟨fun q => h0 fun w => q w.1, fun q => (c_get hP0 hx (by omega) (f := f + 1) (by rw [hy, n_succ]) (by omega)).use ⟨by decide, ?_⟩⟩
  rw [hc.2.2.2 _ (by omega)]
  exact ⟨fun q2 => h0 fun w => q2 w.2, fun q2 => h1 ⟨q, q2⟩⟩
theorem s_canShow {i : Nat} {Q : ab_P} {P : Int32 → ax_C → Prop} (hP0 : pA S C i) (hc : cP C i Q) (hn1 : 1 ≤ Q.1) (h1 : whP Q → P 1 C) (h0 : ¬ whP Q → P 0 C) : ax_CI l D mt_X5_canShow [ax_r (some i)] S C P := by
  have h12 := hc.1
  have h4 := hP0.1
  refine vc_X5_canShow fun P2 P19 P35 P58 P73 P99 h2 h19 h35 h58 h73 h99 => ?_
  have loop : ∀ (m k : Nat), k + m = Q.1 → (∀ j, j < k → d2 Q.2.2 j 0 ∧ (0 < j → d2 Q.2.2 j 2) ∧ (j + 1 < Q.1 → d2 Q.2.2 j 4)) → P2 (nI k) C := by
    intro m
    induction m with
    | zero =>
      intro k hk hall
      have : k = Q.1 := by omega
      subst this
      refine h2 _ _ ⟨h4, ?_⟩
      rw [hc.2.1, hc.2.2.1]
      refine ⟨fun _ => ⟨h4, ?_⟩, fun q => n_absurd (by simp (disch := omega) only [n_lit0, n_lit1, n_lit2, n_lit3, n_lit4, n_lit5, n_lit6, n_lit7, n_lit8, n_lit9, n_lit10, n_lit11, n_lit12, n_lit13, n_lit14, n_lit15, n_lit16, n_lit17, n_lit18, n_lit19, n_lit20, n_lit21, n_lit22, n_lit23, n_lit24, n_lit30, n_lit31, n_lit32, n_lit45, n_lit48, n_lit49, n_lit57, n_lit59, n_lit60, n_lit67, n_lit76, n_lit77, n_lit90, n_lit96, n_lit97, n_lit98, n_lit99, n_lit100, n_lit119, n_lit120, n_lit127, n_lit128, n_lit196, n_lit200, n_lit208, n_lit294, n_lit340, n_lit341, n_lit392, n_lit490, n_lit491, n_lit500, n_lit588, n_lit589, n_lit999, n_lit1178, n_lit5301, n_lit5890, n_lit46656, n_add, n_mul, n_sub, n_lt_t, n_lt_f, n_le_t, n_le_f, n_eq_t, n_eq_f, n_clamp, n_in_t, ax_sm_s, true_and, and_true, not_true_eq_false, not_false_eq_true, true_imp, false_imp, imp_true, and_self, ax_wI_2, ax_rI_2, ax_wI_t, ax_wI_n, ax_rI_t, ax_rI_n, n_up_t, n_up_n, ne_eq, or_true, true_or, false_or, or_false, some_ex, n_none1, n_none2, ite_true, ite_false]) q⟩
      cases hb : Q.2.1
      · exact ⟨fun _ => h99 _ (h1 ⟨hall, fun q => by rw [hb] at q; cases q⟩), fun q => absurd rfl q⟩
      · refine ⟨fun q => absurd q (by decide), fun _ => ⟨h4, (c_isStraight hP0 hc.2.1 h12 (k := Q.1 - 1) (by rw [n_lit1, n_sub hn1]) (by omega)).use ?_⟩⟩
        rw [sz_c hc.2.2.2 (by omega)]
        refine ⟨fun q => h0 fun w => ?_, fun q => h99 _ (h1 ⟨hall, fun _ => ?_⟩)⟩
        · rw [bI_0] at q
          have := w.2 hb
          rw [q] at this
          cases this
        · rw [bI_0] at q
          simpa using q
    | succ m ih =>
      intro k hk hall
      have nx : ∀ _ : d2 Q.2.2 k 0 ∧ (0 < k → d2 Q.2.2 k 2) ∧ (k + 1 < Q.1 → d2 Q.2.2 k 4), P73 (nI k) C := fun hd => h73 _ _ (by
        rw [n_succ]
        refine ih (k + 1) (by omega) fun j hj => ?_
        by_cases z : j = k
        · rw [z]; exact hd
        · exact hall j (by omega))
      have no : ¬ (d2 Q.2.2 k 0 ∧ (0 < k → d2 Q.2.2 k 2) ∧ (k + 1 < Q.1 → d2 Q.2.2 k 4)) → P 0 C := fun hd => h0 fun w => hd (w.1 k (by omega))
      have b58 : ∀ x3 : Int32, (x3 = 0 ∨ x3 = 1) → (x3 = 0 → ¬ k + 1 < Q.1) → (x3 = 1 → k + 1 < Q.1) → d2 Q.2.2 k 0 → (0 < k → d2 Q.2.2 k 2) → P58 (nI k) x3 C := by
        intro x3 hx0 hx hx' d0 d2'
        refine h58 _ _ _ ⟨fun q => nx ⟨d0, d2', fun w => absurd w (hx q)⟩, fun q => s_isWhole hP0 hc rfl (by omega) (f := 4) rfl (by omega) (fun w => ⟨fun _ => nx ⟨d0, d2', fun _ => w⟩, fun q => absurd q (by decide)⟩) fun w => ⟨fun q => absurd rfl q, fun _ => no fun u => w (u.2.2 (hx' ?_))⟩⟩
        rcases hx0 with z | z
        · exact absurd z q
        · exact z
      have b35 : ∀ x2 x3 : Int32, (x2 = 0 → ¬ 0 < k) → (¬ x2 = 0 → 0 < k) → (x3 = 0 ∨ x3 = 1) → (x3 = 0 → ¬ k + 1 < Q.1) → (x3 = 1 → k + 1 < Q.1) → P35 (nI k) x2 x3 C := by
        intro x2 x3 u1 u2 hx0 hx hx'
        refine h35 _ _ _ _ (s_isWhole hP0 hc rfl (by omega) (f := 0) rfl (by omega) (fun w => ⟨fun q => absurd q (by decide), fun _ => ⟨fun q => b58 x3 hx0 hx hx' w fun z => absurd z (u1 q), fun q => ?_⟩⟩) fun w => ⟨fun _ => no fun u => w u.1, fun q => absurd rfl q⟩)
        refine s_isWhole hP0 hc rfl (by omega) (f := 2) rfl (by omega) (fun w2 => ⟨fun q => absurd q (by decide), fun _ => b58 x3 hx0 hx hx' w fun _ => w2⟩) fun w2 => ⟨fun _ => no fun u => w2 (u.2.1 (u2 q)), fun q => absurd rfl q⟩
      have b19 : ∀ x2 : Int32, (x2 = 0 → ¬ 0 < k) → (¬ x2 = 0 → 0 < k) → P19 (nI k) x2 C := by
        intro x2 u1 u2
        refine h19 _ _ _ ⟨h4, ?_⟩
        rw [hc.2.1, n_lit1, n_sub hn1]
        refine ⟨fun q => b35 _ _ u1 u2 (Or.inl rfl) (fun _ w => nI_ge (show k < Q.1 - 1 by omega) (by omega) q) (fun q => absurd q (by decide)), fun q => b35 _ _ u1 u2 (Or.inr rfl) (fun q => absurd q (by decide)) fun _ => ?_⟩
        rcases Nat.lt_or_ge (k + 1) Q.1 with w | w
        · exact w
        · exact absurd (nI_le (by omega) (by omega)) q
      refine h2 _ _ ⟨h4, ?_⟩
      rw [hc.2.1]
      refine ⟨fun q => n_absurd q (by simp (disch := omega) only [n_lit0, n_lit1, n_lit2, n_lit3, n_lit4, n_lit5, n_lit6, n_lit7, n_lit8, n_lit9, n_lit10, n_lit11, n_lit12, n_lit13, n_lit14, n_lit15, n_lit16, n_lit17, n_lit18, n_lit19, n_lit20, n_lit21, n_lit22, n_lit23, n_lit24, n_lit30, n_lit31, n_lit32, n_lit45, n_lit48, n_lit49, n_lit57, n_lit59, n_lit60, n_lit67, n_lit76, n_lit77, n_lit90, n_lit96, n_lit97, n_lit98, n_lit99, n_lit100, n_lit119, n_lit120, n_lit127, n_lit128, n_lit196, n_lit200, n_lit208, n_lit294, n_lit340, n_lit341, n_lit392, n_lit490, n_lit491, n_lit500, n_lit588, n_lit589, n_lit999, n_lit1178, n_lit5301, n_lit5890, n_lit46656, n_add, n_mul, n_sub, n_lt_t, n_lt_f, n_le_t, n_le_f, n_eq_t, n_eq_f, n_clamp, n_in_t, ax_sm_s, true_and, and_true, not_true_eq_false, not_false_eq_true, true_imp, false_imp, imp_true, and_self, ax_wI_2, ax_rI_2, ax_wI_t, ax_wI_n, ax_rI_t, ax_rI_n, n_up_t, n_up_n, ne_eq, or_true, true_or, false_or, or_false, some_ex, n_none1, n_none2, ite_true, ite_false]), fun _ => ⟨fun q => b19 0 (fun _ w => nI_nle w (by omega) q) (fun q => absurd rfl q), fun q => b19 1 (fun q => absurd q (by decide)) fun _ => ?_⟩⟩
      rcases Nat.eq_zero_or_pos k with z | z
      · subst z; exact absurd (by decide) q
      · exact z
  exact loop Q.1 0 (by omega) (fun j hj => by omega)
theorem s_show {i : Nat} {Q : ab_P} {P : ax_C → Prop} (hS : S.1 p = 6 ∧ S.1 (p + 1) = 13 ∧ S.2.1 (p + 1) = 341 ∧ C.2.2 p 0 = some (p + 1)) (hP0 : pA S C i) (hi : i ≠ p ∧ i ≠ p + 1 ∧ i + 1 ≠ p ∧ i + 1 ≠ p + 1) (hc : cP C i Q) (hok : okP Q) (hP : ∀ C', tB S C' p (prB Q.2.2 Q.1 Q.2.1) → fB C C' p → P C') : ax_CV l D mt_X5_show [ax_r (some p), ax_r (some i)] S C P := by
  have h12 := hc.1
  have h4 := hP0.1
  have hn1 := hok.1
  have cq : ∀ C1, fB C C1 p → cP C1 i Q := fun C1 g => cP_fr hc (g.2 i hi.1 hi.2.1) (g.2 (i + 1) hi.2.2.1 hi.2.2.2)
  have pq : ∀ C1, fB C C1 p → pA S C1 i := fun C1 g => pA_2 hP0 (by rw [g.1])
  refine vc_X5_show hS.1 fun P20 P79 h20 h79 => ⟨hS.1, ?_⟩
  have f0 : fB C (ax_wI C p 1 0) p := ⟨rfl, fun b b1 b2 => ax_wI_n b1⟩
  have t0 : tB S (ax_wI C p 1 0) p ((fun _ => 0), 0) := ⟨hS.1, hS.2.1, hS.2.2.1, hS.2.2.2, by rw [ax_wI_t rfl, n_up_t rfl]; rfl, fun q hq => by have hq : q < 0 := hq; omega⟩
  have loop : ∀ (m k : Nat) (C1 : ax_C), k + m = Q.1 - 1 → tB S C1 p (sB Q.2.2 Q.1 k) → fB C C1 p → P20 (nI k) C1 := by
    intro m
    induction m with
    | zero =>
      intro k C1 hk t1 f1
      have : k = Q.1 - 1 := by omega
      subst this
      have hl := sB_len Q.2.2 Q.1 (Q.1 - 1)
      refine h20 _ _ ⟨h4, ?_⟩
      rw [(cq C1 f1).2.1, (cq C1 f1).2.2.1, n_lit1, n_sub hn1]
      refine ⟨fun _ => ⟨h4, ?_⟩, fun q => n_absurd (by simp (disch := omega) only [n_lit0, n_lit1, n_lit2, n_lit3, n_lit4, n_lit5, n_lit6, n_lit7, n_lit8, n_lit9, n_lit10, n_lit11, n_lit12, n_lit13, n_lit14, n_lit15, n_lit16, n_lit17, n_lit18, n_lit19, n_lit20, n_lit21, n_lit22, n_lit23, n_lit24, n_lit30, n_lit31, n_lit32, n_lit45, n_lit48, n_lit49, n_lit57, n_lit59, n_lit60, n_lit67, n_lit76, n_lit77, n_lit90, n_lit96, n_lit97, n_lit98, n_lit99, n_lit100, n_lit119, n_lit120, n_lit127, n_lit128, n_lit196, n_lit200, n_lit208, n_lit294, n_lit340, n_lit341, n_lit392, n_lit490, n_lit491, n_lit500, n_lit588, n_lit589, n_lit999, n_lit1178, n_lit5301, n_lit5890, n_lit46656, n_add, n_mul, n_sub, n_lt_t, n_lt_f, n_le_t, n_le_f, n_eq_t, n_eq_f, n_clamp, n_in_t, ax_sm_s, true_and, and_true, not_true_eq_false, not_false_eq_true, true_imp, false_imp, imp_true, and_self, ax_wI_2, ax_rI_2, ax_wI_t, ax_wI_n, ax_rI_t, ax_rI_n, n_up_t, n_up_n, ne_eq, or_true, true_or, false_or, or_false, some_ex, n_none1, n_none2, ite_true, ite_false]) q⟩
      unfold prB at hP
      cases hb : Q.2.1
      · rw [hb, if_neg (by decide)] at hP
        exact ⟨fun _ => hP C1 t1 f1, fun q => absurd rfl q⟩
      · rw [hb, if_pos rfl] at hP
        exact ⟨fun q => absurd q (by decide), fun _ => s_byte t1 f1 (c := 90) rfl (by omega) (by omega) hP⟩
    | succ m ih =>
      intro k C1 hk t1 f1
      have hl := sB_len Q.2.2 Q.1 k
      refine h20 _ _ ⟨h4, ?_⟩
      rw [(cq C1 f1).2.1, n_lit1, n_sub hn1]
      refine ⟨fun q => n_absurd q (by simp (disch := omega) only [n_lit0, n_lit1, n_lit2, n_lit3, n_lit4, n_lit5, n_lit6, n_lit7, n_lit8, n_lit9, n_lit10, n_lit11, n_lit12, n_lit13, n_lit14, n_lit15, n_lit16, n_lit17, n_lit18, n_lit19, n_lit20, n_lit21, n_lit22, n_lit23, n_lit24, n_lit30, n_lit31, n_lit32, n_lit45, n_lit48, n_lit49, n_lit57, n_lit59, n_lit60, n_lit67, n_lit76, n_lit77, n_lit90, n_lit96, n_lit97, n_lit98, n_lit99, n_lit100, n_lit119, n_lit120, n_lit127, n_lit128, n_lit196, n_lit200, n_lit208, n_lit294, n_lit340, n_lit341, n_lit392, n_lit490, n_lit491, n_lit500, n_lit588, n_lit589, n_lit999, n_lit1178, n_lit5301, n_lit5890, n_lit46656, n_add, n_mul, n_sub, n_lt_t, n_lt_f, n_le_t, n_le_f, n_eq_t, n_eq_f, n_clamp, n_in_t, ax_sm_s, true_and, and_true, not_true_eq_false, not_false_eq_true, true_imp, false_imp, imp_true, and_self, ax_wI_2, ax_rI_2, ax_wI_t, ax_wI_n, ax_rI_t, ax_rI_n, n_up_t, n_up_n, ne_eq, or_true, true_or, false_or, or_false, some_ex, n_none1, n_none2, ite_true, ite_false]), fun _ => (c_isStraight (pq C1 f1) (cq C1 f1).2.1 h12 rfl (by omega)).use ?_⟩
      rw [sz_c (cq C1 f1).2.2.2 (by omega)]
      have nx : ∀ C2, tB S C2 p (gB (sB Q.2.2 Q.1 k) Q.2.2 Q.1 k) → fB C C2 p → P20 (nI k + 1) C2 := fun C2 t2 f2 => by
        rw [n_succ]
        exact ih (k + 1) C2 (by omega) t2 f2
      unfold gB at nx
      generalize hs0 : sB Q.2.2 Q.1 k = s0 at *
      cases hz : sz Q.2.2 Q.1 k
      · rw [if_neg (by rw [hz]; decide)] at nx
        refine ⟨fun _ => ?_, fun q => absurd rfl q⟩
        refine s_byte t1 f1 (c := 67) rfl (by omega) (by omega) fun C2 t2 f2 => ?_
        have e1 := pB_len (pb s0 67) Q.2.2 Q.1 k 1
        have e1' : (pb s0 67).2 = s0.2 + 1 := rfl
        refine s_point t2 f2 (pq C2 f2) hi hc hok rfl (by omega) (w := 1) rfl (by omega) (by omega) fun C3 t3 f3 => ?_
        refine s_byte t3 f3 (c := 32) rfl (by omega) (by omega) fun C4 t4 f4 => ?_
        generalize pB (pb s0 67) Q.2.2 Q.1 k 1 = s1 at *
        have e2 := pB_len (pb s1 32) Q.2.2 Q.1 k 2
        have e2' : (pb s1 32).2 = s1.2 + 1 := rfl
        refine s_point t4 f4 (pq C4 f4) hi hc hok rfl (by omega) (w := 2) rfl (by omega) (by omega) fun C5 t5 f5 => ?_
        refine s_byte t5 f5 (c := 32) rfl (by omega) (by omega) fun C6 t6 f6 => ?_
        generalize pB (pb s1 32) Q.2.2 Q.1 k 2 = s2 at *
        have e3' : (pb s2 32).2 = s2.2 + 1 := rfl
        exact h79 _ _ (s_point t6 f6 (pq C6 f6) hi hc hok rfl (by omega) (w := 3) rfl (by omega) (by omega) nx)
      · rw [if_pos hz] at nx
        refine ⟨fun q => absurd q (by decide), fun _ => ?_⟩
        refine s_byte t1 f1 (c := 76) rfl (by omega) (by omega) fun C2 t2 f2 => ?_
        have e1' : (pb s0 76).2 = s0.2 + 1 := rfl
        exact h79 _ _ (s_point t2 f2 (pq C2 f2) hi hc hok rfl (by omega) (w := 3) rfl (by omega) (by omega) nx)
  refine s_byte t0 f0 (c := 77) rfl (by omega) (show 0 < 341 by omega) fun C2 t2 f2 => ?_
  exact s_point t2 f2 (pq C2 f2) hi hc hok (k := 0) rfl (by omega) (w := 0) rfl (by omega) (show 0 + 1 + 9 ≤ 341 by omega) fun C3 t3 f3 => loop (Q.1 - 1) 0 C3 (by omega) t3 f3
theorem prB_len (row : Nat → Int32) (n : Nat) (b : Bool) (hn : n ≤ 12) : (prB row n b).2 ≤ 341 := by
  have := sB_len row n (n - 1)
  unfold prB
  split
  · show (sB row n (n - 1)).2 + 1 ≤ 341
    omega
  · omega
theorem o_print {x : Int32} (h : cls S E C B A) (hok : okV (nw A)) : ax_CI l D mt_X7_print [ax_r (some B), ax_i x] S C (oQ S E B (F_print A x)) := by
  unfold F_print
  obtain ⟨τ, pr, hz⟩ := id h
  obtain ⟨z1, z2, z3, z4, z5, z6⟩ := id hz
  refine vc_X7_print (cls_8 h) ⟨cls_8 h, s_now h fun τ' pr' d σ hz' hp1 hp2 b1 b2 => (c_pathAt hp1 hp2).mono ?_⟩
  have hV := hp2.1
  rintro r C' ⟨rfl, ⟨k, hk, hx, rfl⟩ | ⟨rfl, hx⟩⟩
  · have hi : ix x (nw A).1 = some k := by rw [hx]; exact ix_some hk (by omega)
    rw [hi]
    have hc := hp2.2.2 k hk
    have hP := ps_4 hp1 (k := k) (by omega)
    have sk := ps_1 hp1 (k := k) (by omega)
    refine ⟨fun b hb => s_canShow hP hc (hok.2 k hk).1 (fun w => ?_) fun w => ?_, fun q => by cases q⟩
    · dsimp only
      rw [if_pos w]
      refine ⟨fun _ => ⟨cls_8 h, ?_⟩, fun q => absurd q (by decide)⟩
      rw [z2.1.2.2.2.2.2.2]
      refine s_show (p := B + 179) ⟨z1.2.2.2.2.2.2.2.2.2.2.2.2.2.1, z1.2.2.2.2.2.2.2.2.2.2.2.2.2.2.1, z1.2.2.2.2.2.2.2.2.2.2.2.2.2.2.2, z2.2.2.2.2.2.1⟩ hP ⟨by omega, by omega, by omega, by omega⟩ hc (hok.2 k hk) fun C8 t8 f8 => ⟨cls_8 h, ?_⟩
      rw [f8.1, z2.1.2.2.2.2.2.2]
      refine ⟨t8.1, t8.2.2.2.2.1, τ, pr, zS_x hz (fun b hb => f8.2 b (by omega) (by omega)) (by rw [f8.1]) ⟨?_, ?_, t8.2.2.2.2.1, t8.2.2.2.2.2, z5.2.2.2.2.1, prB_len _ _ _ hc.1⟩⟩
      · rw [f8.2 _ (by omega) (by omega)]; exact z5.1
      · rw [f8.2 _ (by omega) (by omega)]; exact z5.2.1
    · dsimp only
      rw [if_neg w]
      exact ⟨fun q => absurd rfl q, fun _ => ⟨rfl, h⟩⟩
  · rw [ix_none (by omega) hx]
    exact ⟨fun b hb => (by cases hb), fun _ => ⟨rfl, h⟩⟩
end
