/-! ===== the reference's print, whole ===== -/
theorem i_add1 (x y : Int32) : x = x + y ↔ y = 0 := by
  constructor
  · intro h
    have : x - x = (x + y) - x := congrArg (· - x) h
    rw [Int32.sub_self, Int32.add_comm, Int32.add_sub_cancel] at this
    exact this.symm
  · intro h
    rw [h, Int32.add_zero]
section
variable {l : Launch} {D : ax_D} {S : ax_S} {E C : ax_C} {M : Nat} {A : ab_A}
theorem wS_iff {cc : Nat → Int32} {s : ab_B} {W W' : Prop} (h : wS S E C M A cc s W) (e : W ↔ W') : wS S E C M A cc s W' := by
  rw [← propext e]
  exact h
theorem s_wpoint {cc g : Nat → Int32} {s : ab_B} {W : Prop} {n k w p : Nat} {y : Int32} {P : ax_C → Prop} (h : wS S E C M A cc s W) (hok : okP ((nw A).2 p)) (hg : ((nw A).2 p).2.2 = g) (hn : ((nw A).2 p).1 = n) (hk : k < n) (hy : y = nI w) (hw : w < 4) (hcc : ∀ ax w, ax < 2 → w < 4 → cc (4 * ax + w) = ct g n k w ax) (hs : s.2 + 9 ≤ 341) (hP : ∀ C', wS S E C' M A cc (pB s g n k w) (W ∧ dP g n k w) → P C') : ax_CV l D mt_X8_writesPoint [ax_r (some M), ax_i y] S C P := by
  subst hy hg hn
  have hK := h.1.1.1
  have k9 := hK.2.2.2.2.2.2.2.2.2.1
  have hl0 := nB_len s (ct ((nw A).2 p).2.2 ((nw A).2 p).1 k w 0 / 46656)
  have b0 := c_bd (w := w) (ax := 0) hok (fun _ _ => rfl) rfl hk (by omega)
  have b1 := c_bd (w := w) (ax := 1) hok (fun _ _ => rfl) rfl hk (by omega)
  refine vc_X8_writesPoint hK.1 ⟨hK.1, ?_⟩
  rw [k9.2.2, n_clamp (by omega)]
  refine ⟨k9.1, mc_in hK (by omega), ?_⟩
  have e0 := hcc 0 w (by omega) hw
  have e1 := hcc 1 w (by omega) hw
  rw [show 4 * 0 + w = w by omega] at e0
  rw [show 4 * 1 + w = 4 + w by omega] at e1
  rw [h.2.1, e0]
  refine s_writes h (by omega) b0 fun C1 g1 => ?_
  refine s_sign g1 (by omega) fun C2 g2 => ⟨hK.1, ?_⟩
  have k9' := g2.1.1.1.2.2.2.2.2.2.2.2.2.1
  rw [k9'.2.2, n_lit4, n_add]
  refine ⟨k9.1, mc_in hK (by omega), ?_⟩
  rw [n_clamp (by omega), g2.2.1, e1]
  refine s_writes g2 ?_ b1 fun C3 g3 => hP C3 (wS_iff g3 ?_)
  · show (nB s (ct ((nw A).2 p).2.2 ((nw A).2 p).1 k w 0 / 46656)).2 + 1 + 4 ≤ 341
    omega
  · unfold dP
    exact and_assoc
theorem s_isLine {cc : Nat → Int32} {s : ab_B} {W : Prop} {p k : Nat} {x y : Int32} {P : Int32 → ax_C → Prop} (h : wS S E C M A cc s W) (hx : x = nI p) (hp : p < (nw A).1) (hy : y = nI k) (hk : k < ((nw A).2 p).1) (hP : ∀ C' cc', wS S E C' M A cc' s W → (∀ ax w, ax < 2 → w < 4 → cc' (4 * ax + w) = ct ((nw A).2 p).2.2 ((nw A).2 p).1 k w ax) → P (bI (sz ((nw A).2 p).2.2 ((nw A).2 p).1 k)) C') : ax_CI l D mt_X8_isLine [ax_r (some M), ax_i x, ax_i y] S C P := by
  obtain ⟨h1, h2, h3, h4, h5⟩ := h
  have hK := h1.1.1
  have hV6 := h1.2.1
  obtain ⟨h12, w2, w3, w4⟩ := h1.2.2.2 p hp
  have k9 := hK.2.2.2.2.2.2.2.2.2.1
  refine vc_X8_isLine hK.1 ((c8_controls' hK hx (by omega) hy hk h12 w2).mono ?_)
  rintro C1 ⟨c2, rfl, hcc⟩
  have hct : ∀ ax w, ax < 2 → w < 4 → c2 (4 * ax + w) = ct ((nw A).2 p).2.2 ((nw A).2 p).1 k w ax := fun ax w a b => by
    rw [hcc ax w a b]; exact ct_c w4 hk a
  have hw : wS S E (ax_rI C (M + 9) c2) M A c2 s W := ⟨mdl_9c h1, ax_rI_t rfl, by rw [ax_rI_n (by omega)]; exact h3, fun q hq => by rw [ax_rI_n (by omega)]; exact h4 q hq, by rw [ax_rI_n (by omega)]; exact h5⟩
  have rd : (ax_rI C (M + 9) c2).1 (M + 9) = c2 := ax_rI_t rfl
  have r9 : (ax_rI C (M + 9) c2).2.2 M 13 = some (M + 9) := k9.2.2
  generalize hg : ((nw A).2 p).2.2 = g at *
  generalize hn : ((nw A).2 p).1 = n at *
  have a0 := hct 0 0 (by omega) (by omega)
  have a1 := hct 0 1 (by omega) (by omega)
  have a2 := hct 0 2 (by omega) (by omega)
  have a3 := hct 0 3 (by omega) (by omega)
  have a4 := hct 1 0 (by omega) (by omega)
  have a5 := hct 1 1 (by omega) (by omega)
  have a6 := hct 1 2 (by omega) (by omega)
  have a7 := hct 1 3 (by omega) (by omega)
  have z0 : (c2 0 = c2 1) = (g (8 * k + 4) = 0) := by
    rw [show c2 0 = _ from a0, show c2 1 = _ from a1]
    exact propext (i_add1 _ _)
  have z1 : (c2 4 = c2 5) = (g (8 * k + 5) = 0) := by
    rw [show c2 4 = _ from a4, show c2 5 = _ from a5]
    exact propext (i_add1 _ _)
  have z2 : (c2 2 = c2 3) = (g (8 * eo n k + 2) = 0) := by
    rw [show c2 2 = _ from a2, show c2 3 = _ from a3]
    exact propext ⟨fun q => (i_add1 _ _).mp q.symm, fun q => ((i_add1 _ _).mpr q).symm⟩
  have z3 : (c2 6 = c2 7) = (g (8 * eo n k + 3) = 0) := by
    rw [show c2 6 = _ from a6, show c2 7 = _ from a7]
    exact propext ⟨fun q => (i_add1 _ _).mp q.symm, fun q => ((i_add1 _ _).mpr q).symm⟩
  have no : ¬ (g (8 * k + 4) = 0 ∧ g (8 * k + 5) = 0 ∧ g (8 * eo n k + 2) = 0 ∧ g (8 * eo n k + 3) = 0) → P 0 (ax_rI C (M + 9) c2) := by
    intro w
    have := hP _ c2 hw hct
    have e : sz g n k = false := by
      cases hz : sz g n k
      · rfl
      · simp only [sz, Bool.and_eq_true, decide_eq_true_eq] at hz
        exact absurd ⟨hz.1.1.1, hz.1.1.2, hz.1.2, hz.2⟩ w
    rw [e] at this
    exact this
  have cl : ∀ m, m < 8 → (nI m).toNatClampNeg = m := fun m hm => n_clamp (by omega)
  refine ⟨hK.1, ?_⟩
  rw [r9, n_lit0, n_lit1, n_lit2, n_lit3, n_lit4, n_lit5, n_lit6, n_lit7, cl 0 (by omega), cl 1 (by omega), cl 2 (by omega), cl 3 (by omega), cl 4 (by omega), cl 5 (by omega), cl 6 (by omega), cl 7 (by omega)]
  refine ⟨k9.1, mc_in hK (by omega), hK.1, k9.1, mc_in hK (by omega), ?_⟩
  rw [rd, z0]
  refine ⟨fun q => no fun w => q w.1, fun q0 => ⟨hK.1, k9.1, mc_in hK (by omega), hK.1, k9.1, mc_in hK (by omega), ?_⟩⟩
  rw [rd, z1]
  refine ⟨fun q => no fun w => q w.2.1, fun q1 => ⟨hK.1, k9.1, mc_in hK (by omega), hK.1, k9.1, mc_in hK (by omega), ?_⟩⟩
  rw [rd, z2]
  refine ⟨fun q => no fun w => q w.2.2.1, fun q2 => ⟨hK.1, k9.1, mc_in hK (by omega), hK.1, k9.1, mc_in hK (by omega), ?_⟩⟩
  rw [rd, z3]
  refine ⟨fun q => no fun w => q w.2.2.2, fun q3 => ?_⟩
  have := hP _ c2 hw hct
  have e : sz g n k = true := by simp only [sz, Bool.and_eq_true, decide_eq_true_eq]; exact ⟨⟨⟨q0, q1⟩, q2⟩, q3⟩
  rw [e] at this
  exact this
theorem m_print {x : Int32} (h : mdl S E C M A) (hok : okV (nw A)) : ax_CI l D mt_X8_print [ax_r (some M), ax_i x] S C (pQ S E M (F_print A x)) := by
  unfold F_print
  have hK := h.1.1
  have hV6 := h.2.1
  refine vc_X8_print hK.1 fun P71 P99 P112 P114 P138 P181 P182 P191 P203 h71 h99 h112 h114 h138 h181 h182 h191 h203 => s8_path hK h.2 (fun p hp hx hi => ⟨fun _ => ⟨hK.1, Or.inr rfl, hK.1, ?_⟩, fun q => absurd q (by decide)⟩) fun hi => ⟨fun q => absurd rfl q, fun _ => ?_⟩
  · rw [hi] at h191 h203
    dsimp only at h191 h203
    have okp := hok.2 p hp
    have hn1 := okp.1
    have h12 := okp.2.1
    have hwi := whP_iff okp
    -- the copy
    have b203 : ∀ (C1 : ax_C) (cc : Nat → Int32) (W : Prop), wS S E C1 M A cc (prB ((nw A).2 p).2.2 ((nw A).2 p).1 ((nw A).2 p).2.1) W → whP ((nw A).2 p) → P203 0 C1 := by
      intro C1 cc W hw1 hwh
      obtain ⟨h1, h2, h3, h4, h5⟩ := hw1
      have hl := prB_len ((nw A).2 p).2.2 ((nw A).2 p).1 ((nw A).2 p).2.1 h12
      rw [if_pos hwh] at h203
      generalize hs : prB ((nw A).2 p).2.2 ((nw A).2 p).1 ((nw A).2 p).2.1 = s at *
      have k12 := h1.1.1.2.2.2.2.2.2.2.2.2.2.2.2
      have k8 := h1.1.1.2.2.2.2.2.2.2.2.1
      have loop : ∀ (m k : Nat) (G : Nat → Int32), k + m = s.2 → (∀ j, j < k → G j = s.1 j) → P203 (nI k) (ax_rI C1 (M + 8) G) := by
        intro m
        induction m with
        | zero =>
          intro k G hk hG
          have : k = s.2 := by omega
          subst this
          refine h203 _ _ ⟨hK.1, ?_⟩
          rw [ax_rI_n (show M ≠ M + 8 by omega), h3]
          refine ⟨fun _ => ⟨hK.1, hK.1, hK.1, ?_, ?_⟩, fun q => n_absurd (by simp (disch := omega) only [n_lit0, n_lit1, n_lit2, n_lit3, n_lit4, n_lit5, n_lit6, n_lit7, n_lit8, n_lit9, n_lit10, n_lit11, n_lit12, n_lit13, n_lit14, n_lit15, n_lit16, n_lit17, n_lit18, n_lit19, n_lit20, n_lit21, n_lit22, n_lit23, n_lit24, n_lit30, n_lit31, n_lit32, n_lit45, n_lit48, n_lit49, n_lit57, n_lit59, n_lit60, n_lit67, n_lit76, n_lit77, n_lit90, n_lit96, n_lit97, n_lit98, n_lit99, n_lit100, n_lit119, n_lit120, n_lit127, n_lit128, n_lit196, n_lit200, n_lit208, n_lit294, n_lit340, n_lit341, n_lit392, n_lit490, n_lit491, n_lit500, n_lit588, n_lit589, n_lit999, n_lit1178, n_lit5301, n_lit5890, n_lit46656, n_add, n_mul, n_sub, n_lt_t, n_lt_f, n_le_t, n_le_f, n_eq_t, n_eq_f, n_clamp, n_in_t, ax_sm_s, true_and, and_true, not_true_eq_false, not_false_eq_true, true_imp, false_imp, imp_true, and_self, ax_wI_2, ax_rI_2, ax_wI_t, ax_wI_n, ax_rI_t, ax_rI_n, n_up_t, n_up_n, ne_eq, or_true, true_or, false_or, or_false, some_ex, n_none1, n_none2, ite_true, ite_false]) q⟩
          · rw [ax_wI_t rfl, n_up_t rfl]
          · obtain ⟨⟨z1, z2, z3, z4, z5, z6, z7, z8, z9⟩, hv⟩ := h1
            refine ⟨⟨z1, ?_, ?_, ?_, ?_, ?_, ⟨?_, fun q hq => ?_⟩, ⟨z8.1, hl⟩, ?_⟩, ?_⟩
            · rw [ax_wI_t rfl, n_up_n (by omega), n_up_n (by omega), ax_rI_n (by omega)]; exact z2
            · rw [ax_wI_n (by omega), ax_rI_n (by omega)]; exact z3
            · rw [ax_wI_n (by omega), ax_rI_n (by omega)]; exact z4
            · rw [ax_wI_n (by omega), ax_rI_n (by omega), ax_wI_n (by omega), ax_rI_n (by omega)]; exact z5
            · rw [ax_wI_t rfl, n_up_n (by omega), ax_rI_n (by omega), ax_wI_n (by omega), ax_rI_n (by omega)]; exact z6
            · rw [ax_wI_t rfl, n_up_t rfl]
            · rw [ax_wI_n (by omega), ax_rI_t rfl]; exact hG q hq
            · intro b hb
              rw [ax_wI_n (by omega), ax_rI_n (by omega)]
              exact z9 b hb
            · rw [ax_wI_n (by omega), ax_rI_n (by omega)]; exact hv
        | succ m ih =>
          intro k G hk hG
          refine h203 _ _ ⟨hK.1, ?_⟩
          rw [ax_rI_n (show M ≠ M + 8 by omega), h3]
          refine ⟨fun q => n_absurd q (by simp (disch := omega) only [n_lit0, n_lit1, n_lit2, n_lit3, n_lit4, n_lit5, n_lit6, n_lit7, n_lit8, n_lit9, n_lit10, n_lit11, n_lit12, n_lit13, n_lit14, n_lit15, n_lit16, n_lit17, n_lit18, n_lit19, n_lit20, n_lit21, n_lit22, n_lit23, n_lit24, n_lit30, n_lit31, n_lit32, n_lit45, n_lit48, n_lit49, n_lit57, n_lit59, n_lit60, n_lit67, n_lit76, n_lit77, n_lit90, n_lit96, n_lit97, n_lit98, n_lit99, n_lit100, n_lit119, n_lit120, n_lit127, n_lit128, n_lit196, n_lit200, n_lit208, n_lit294, n_lit340, n_lit341, n_lit392, n_lit490, n_lit491, n_lit500, n_lit588, n_lit589, n_lit999, n_lit1178, n_lit5301, n_lit5890, n_lit46656, n_add, n_mul, n_sub, n_lt_t, n_lt_f, n_le_t, n_le_f, n_eq_t, n_eq_f, n_clamp, n_in_t, ax_sm_s, true_and, and_true, not_true_eq_false, not_false_eq_true, true_imp, false_imp, imp_true, and_self, ax_wI_2, ax_rI_2, ax_wI_t, ax_wI_n, ax_rI_t, ax_rI_n, n_up_t, n_up_n, ne_eq, or_true, true_or, false_or, or_false, some_ex, n_none1, n_none2, ite_true, ite_false]), fun _ => ⟨hK.1, hK.1, ?_⟩⟩
          show ax_sm (C1.2.2 M 22) (fun b25 => _ ∧ _ ∧ ax_sm (C1.2.2 M 10) _)
          rw [k12.2.2, k8.2.2]
          refine ⟨k12.1, by rw [k12.2.1]; exact vp_in_nI (by omega) (by omega), k8.1, by rw [k8.2.1]; exact vp_in_nI (by omega) (by omega), ?_⟩
          rw [n_clamp (by omega), ax_wI_rI, ax_rI_rI, ax_rI_t rfl, ax_rI_n (by omega), n_succ]
          refine ih (k + 1) _ (by omega) fun j hj => ?_
          by_cases z : j = k
          · rw [n_up_t z, h4 _ (by omega), z]
          · rw [n_up_n z]; exact hG j (by omega)
      have := loop s.2 0 (C1.1 (M + 8)) (by omega) (fun j hj => by omega)
      rw [ax_rI_id] at this
      exact this
    have b191 : ∀ (C1 : ax_C) (cc : Nat → Int32) (W : Prop), wS S E C1 M A cc (prB ((nw A).2 p).2.2 ((nw A).2 p).1 ((nw A).2 p).2.1) W → (W ↔ whP ((nw A).2 p)) → P191 C1 := by
      intro C1 cc W hw1 hwh
      refine h191 _ ⟨hK.1, fun q => b203 C1 cc W hw1 ?_, fun q => ?_⟩
      · rcases hw1.2.2.2.2 with z | z
        · exact absurd z.1 q
        · exact hwh.mp z.2
      · rcases hw1.2.2.2.2 with z | z
        · rw [if_neg (fun u => z.2 (hwh.mpr u))]
          exact ⟨rfl, hw1.1⟩
        · rw [z.1] at q; exact absurd q (by decide)
    have hl := sB_len ((nw A).2 p).2.2 ((nw A).2 p).1
    have loop : ∀ (m k : Nat) (C1 : ax_C) (cc : Nat → Int32), k + m = ((nw A).2 p).1 - 1 → wS S E C1 M A cc (sB ((nw A).2 p).2.2 ((nw A).2 p).1 k) (wK ((nw A).2 p).2.2 ((nw A).2 p).1 k) → P71 (nI ((nw A).2 p).1) (nI k) C1 := by
      intro m
      induction m with
      | zero =>
        intro k C1 cc hk hw1
        have : k = ((nw A).2 p).1 - 1 := by omega
        subst this
        refine h71 _ _ _ ?_
        rw [n_lit1, n_sub hn1]
        refine ⟨fun _ => (c8_isShut hw1.1.1.1 hx (by omega) (hw1.1.2.2.2 p hp).2.2.1).use ?_, fun q => n_absurd (by simp (disch := omega) only [n_lit0, n_lit1, n_lit2, n_lit3, n_lit4, n_lit5, n_lit6, n_lit7, n_lit8, n_lit9, n_lit10, n_lit11, n_lit12, n_lit13, n_lit14, n_lit15, n_lit16, n_lit17, n_lit18, n_lit19, n_lit20, n_lit21, n_lit22, n_lit23, n_lit24, n_lit30, n_lit31, n_lit32, n_lit45, n_lit48, n_lit49, n_lit57, n_lit59, n_lit60, n_lit67, n_lit76, n_lit77, n_lit90, n_lit96, n_lit97, n_lit98, n_lit99, n_lit100, n_lit119, n_lit120, n_lit127, n_lit128, n_lit196, n_lit200, n_lit208, n_lit294, n_lit340, n_lit341, n_lit392, n_lit490, n_lit491, n_lit500, n_lit588, n_lit589, n_lit999, n_lit1178, n_lit5301, n_lit5890, n_lit46656, n_add, n_mul, n_sub, n_lt_t, n_lt_f, n_le_t, n_le_f, n_eq_t, n_eq_f, n_clamp, n_in_t, ax_sm_s, true_and, and_true, not_true_eq_false, not_false_eq_true, true_imp, false_imp, imp_true, and_self, ax_wI_2, ax_rI_2, ax_wI_t, ax_wI_n, ax_rI_t, ax_rI_n, n_up_t, n_up_n, ne_eq, or_true, true_or, false_or, or_false, some_ex, n_none1, n_none2, ite_true, ite_false]) q⟩
        have hl' := hl (((nw A).2 p).1 - 1)
        unfold prB at b191
        cases hb : ((nw A).2 p).2.1
        · rw [hb] at hwi b191
          rw [if_neg (by decide)] at b191
          refine ⟨fun _ => b191 C1 cc _ hw1 ?_, fun q => absurd rfl q⟩
          rw [hwi]
          exact ⟨fun w => ⟨w, fun q => by cases q⟩, fun w => w.1⟩
        · rw [hb] at hwi b191
          rw [if_pos rfl] at b191
          refine ⟨fun q => absurd q (by decide), fun _ => ⟨hK.1, ?_⟩⟩
          have b182 : ∀ (t1 : Int32) (C2 : ax_C) (cc2 : Nat → Int32), wS S E C2 M A cc2 (sB ((nw A).2 p).2.2 ((nw A).2 p).1 (((nw A).2 p).1 - 1)) (wK ((nw A).2 p).2.2 ((nw A).2 p).1 (((nw A).2 p).1 - 1)) → ((t1 = 0 ∧ ¬ whP ((nw A).2 p)) ∨ (t1 = 1 ∧ whP ((nw A).2 p))) → P182 t1 C2 := by
            intro t1 C2 cc2 hw2 ht
            refine h182 _ _ ⟨by rcases ht with z | z; exact Or.inl z.1; exact Or.inr z.1, hK.1, ?_⟩
            have hw3 : wS S E (ax_wI C2 M 24 t1) M A cc2 (sB ((nw A).2 p).2.2 ((nw A).2 p).1 (((nw A).2 p).1 - 1)) (whP ((nw A).2 p)) := by
              obtain ⟨g1, g2, g3, g4, g5⟩ := hw2
              refine ⟨mdl_fr g1 (fun b b1 b2 b3 b4 b5 => by rw [ax_wI_n b1]) rfl fun k hk => by rw [ax_wI_t rfl, n_up_n (by omega)], ?_, ?_, fun q hq => ?_, ?_⟩
              · rw [ax_wI_n (by omega)]; exact g2
              · rw [ax_wI_t rfl, n_up_n (by omega)]; exact g3
              · rw [ax_wI_n (by omega)]; exact g4 q hq
              · rw [ax_wI_t rfl, n_up_t rfl]; exact ht
            exact s_sign hw3 (by omega) fun C3 g3 => b191 C3 cc2 _ g3 Iff.rfl
          refine ⟨fun q => h181 _ (b182 0 C1 cc hw1 (Or.inl ⟨rfl, fun w => ?_⟩)), fun q => s_isLine hw1 hx hp rfl (by omega) fun C2 cc2 hw2 hct2 => ?_⟩
          · rcases hw1.2.2.2.2 with z | z
            · exact z.2 (hwi.mp w).1
            · rw [z.1] at q; exact absurd q (by decide)
          · have hwk : wK ((nw A).2 p).2.2 ((nw A).2 p).1 (((nw A).2 p).1 - 1) := by
              rcases hw1.2.2.2.2 with z | z
              · exact absurd z.1 q
              · exact z.2
            cases hz : sz ((nw A).2 p).2.2 ((nw A).2 p).1 (((nw A).2 p).1 - 1)
            · refine ⟨fun _ => h181 _ (b182 0 C2 cc2 hw2 (Or.inl ⟨rfl, fun w => ?_⟩)), fun q => absurd rfl q⟩
              have := (hwi.mp w).2 rfl
              rw [hz] at this
              cases this
            · exact ⟨fun q => absurd q (by decide), fun _ => b182 1 C2 cc2 hw2 (Or.inr ⟨rfl, hwi.mpr ⟨hwk, fun _ => hz⟩⟩)⟩
      | succ m ih =>
        intro k C1 cc hk hw1
        refine h71 _ _ _ ?_
        rw [n_lit1, n_sub hn1]
        have hl' := hl k
        refine ⟨fun q => n_absurd q (by simp (disch := omega) only [n_lit0, n_lit1, n_lit2, n_lit3, n_lit4, n_lit5, n_lit6, n_lit7, n_lit8, n_lit9, n_lit10, n_lit11, n_lit12, n_lit13, n_lit14, n_lit15, n_lit16, n_lit17, n_lit18, n_lit19, n_lit20, n_lit21, n_lit22, n_lit23, n_lit24, n_lit30, n_lit31, n_lit32, n_lit45, n_lit48, n_lit49, n_lit57, n_lit59, n_lit60, n_lit67, n_lit76, n_lit77, n_lit90, n_lit96, n_lit97, n_lit98, n_lit99, n_lit100, n_lit119, n_lit120, n_lit127, n_lit128, n_lit196, n_lit200, n_lit208, n_lit294, n_lit340, n_lit341, n_lit392, n_lit490, n_lit491, n_lit500, n_lit588, n_lit589, n_lit999, n_lit1178, n_lit5301, n_lit5890, n_lit46656, n_add, n_mul, n_sub, n_lt_t, n_lt_f, n_le_t, n_le_f, n_eq_t, n_eq_f, n_clamp, n_in_t, ax_sm_s, true_and, and_true, not_true_eq_false, not_false_eq_true, true_imp, false_imp, imp_true, and_self, ax_wI_2, ax_rI_2, ax_wI_t, ax_wI_n, ax_rI_t, ax_rI_n, n_up_t, n_up_n, ne_eq, or_true, true_or, false_or, or_false, some_ex, n_none1, n_none2, ite_true, ite_false]), fun _ => s_isLine hw1 hx hp rfl (by omega) fun C2 cc2 hw2 hct2 => ?_⟩
        have nx : ∀ C3, wS S E C3 M A cc2 (gB (sB ((nw A).2 p).2.2 ((nw A).2 p).1 k) ((nw A).2 p).2.2 ((nw A).2 p).1 k) (wK ((nw A).2 p).2.2 ((nw A).2 p).1 k ∧ sW ((nw A).2 p).2.2 ((nw A).2 p).1 k) → P114 (nI ((nw A).2 p).1) (nI k) 4 C3 := fun C3 g3 => h114 _ _ _ _ ⟨fun _ => by
          rw [n_succ]
          exact ih (k + 1) C3 cc2 (by omega) g3, fun q => absurd (by decide) q⟩
        unfold gB sW at nx
        generalize hs0 : sB ((nw A).2 p).2.2 ((nw A).2 p).1 k = s0 at *
        generalize wK ((nw A).2 p).2.2 ((nw A).2 p).1 k = W0 at *
        -- one point
        have pt : ∀ (w : Nat) (X : Int32) (s1 : ab_B) (W1 : Prop) (C3 : ax_C), w < 4 → X = nI w → wS S E C3 M A cc2 s1 W1 → s1.2 + 10 ≤ 341 → (w < 3 → ∀ C4, wS S E C4 M A cc2 (pb (pB s1 ((nw A).2 p).2.2 ((nw A).2 p).1 k w) 32) (W1 ∧ dP ((nw A).2 p).2.2 ((nw A).2 p).1 k w) → P114 (nI ((nw A).2 p).1) (nI k) (X + 1) C4) → (w = 3 → ∀ C4, wS S E C4 M A cc2 (pB s1 ((nw A).2 p).2.2 ((nw A).2 p).1 k w) (W1 ∧ dP ((nw A).2 p).2.2 ((nw A).2 p).1 k w) → P114 (nI ((nw A).2 p).1) (nI k) (X + 1) C4) → P114 (nI ((nw A).2 p).1) (nI k) X C3 := by
          intro w X s1 W1 C3 hw hX g1 g2 g3 g4
          subst hX
          refine h114 _ _ _ _ ⟨fun q => n_absurd q (by simp (disch := omega) only [n_lit0, n_lit1, n_lit2, n_lit3, n_lit4, n_lit5, n_lit6, n_lit7, n_lit8, n_lit9, n_lit10, n_lit11, n_lit12, n_lit13, n_lit14, n_lit15, n_lit16, n_lit17, n_lit18, n_lit19, n_lit20, n_lit21, n_lit22, n_lit23, n_lit24, n_lit30, n_lit31, n_lit32, n_lit45, n_lit48, n_lit49, n_lit57, n_lit59, n_lit60, n_lit67, n_lit76, n_lit77, n_lit90, n_lit96, n_lit97, n_lit98, n_lit99, n_lit100, n_lit119, n_lit120, n_lit127, n_lit128, n_lit196, n_lit200, n_lit208, n_lit294, n_lit340, n_lit341, n_lit392, n_lit490, n_lit491, n_lit500, n_lit588, n_lit589, n_lit999, n_lit1178, n_lit5301, n_lit5890, n_lit46656, n_add, n_mul, n_sub, n_lt_t, n_lt_f, n_le_t, n_le_f, n_eq_t, n_eq_f, n_clamp, n_in_t, ax_sm_s, true_and, and_true, not_true_eq_false, not_false_eq_true, true_imp, false_imp, imp_true, and_self, ax_wI_2, ax_rI_2, ax_wI_t, ax_wI_n, ax_rI_t, ax_rI_n, n_up_t, n_up_n, ne_eq, or_true, true_or, false_or, or_false, some_ex, n_none1, n_none2, ite_true, ite_false]), fun _ => s_wpoint (p := p) g1 okp rfl rfl (by omega) rfl hw hct2 (by omega) fun C4 g5 => ⟨fun q => h138 _ _ _ _ ?_, fun q => ?_⟩⟩
          · have : w = 3 := by
              rcases Nat.lt_or_ge w 3 with z | z
              · exact absurd q (nI_ge (b := 3) z (by omega))
              · omega
            exact g4 this C4 g5
          · have h3 : w < 3 := by
              rcases Nat.lt_or_ge w 3 with z | z
              · exact z
              · exact absurd (nI_le (a := 3) z (by omega)) q
            have := pB_len s1 ((nw A).2 p).2.2 ((nw A).2 p).1 k w
            exact s_sign g5 (by omega) fun C5 g6 => h138 _ _ _ _ (g3 h3 C5 g6)
        cases hz : sz ((nw A).2 p).2.2 ((nw A).2 p).1 k
        · rw [hz, if_neg (by decide), if_neg (by decide)] at nx
          refine ⟨fun _ => h99 _ _ _ _ _ (s_sign hw2 (by omega) fun C3 g3 => ⟨fun _ => h112 _ _ _ _ ?_, fun q => absurd rfl q⟩), fun q => absurd rfl q⟩
          have e1' : (pb s0 67).2 = s0.2 + 1 := rfl
          refine pt 1 1 _ _ C3 (by omega) rfl g3 (by omega) (fun _ C4 g4 => ?_) fun q => by omega
          have e1 := pB_len (pb s0 67) ((nw A).2 p).2.2 ((nw A).2 p).1 k 1
          generalize pB (pb s0 67) ((nw A).2 p).2.2 ((nw A).2 p).1 k 1 = s1 at *
          have e2' : (pb s1 32).2 = s1.2 + 1 := rfl
          refine pt 2 2 _ _ C4 (by omega) rfl g4 (by omega) (fun _ C5 g5 => ?_) fun q => by omega
          have e2 := pB_len (pb s1 32) ((nw A).2 p).2.2 ((nw A).2 p).1 k 2
          generalize pB (pb s1 32) ((nw A).2 p).2.2 ((nw A).2 p).1 k 2 = s2 at *
          have e3' : (pb s2 32).2 = s2.2 + 1 := rfl
          refine pt 3 3 _ _ C5 (by omega) rfl g5 (by omega) (fun q => by omega) fun _ C6 g6 => nx C6 (wS_iff g6 ?_)
          exact ⟨fun w => ⟨w.1.1.1, w.1.1.2, w.1.2, w.2⟩, fun w => ⟨⟨⟨w.1, w.2.1⟩, w.2.2.1⟩, w.2.2.2⟩⟩
        · rw [hz, if_pos rfl, if_pos rfl] at nx
          refine ⟨fun q => absurd q (by decide), fun _ => h99 _ _ _ _ _ (s_sign hw2 (by omega) fun C3 g3 => ⟨fun q => absurd q (by decide), fun _ => h112 _ _ _ _ ?_⟩)⟩
          have e1' : (pb s0 76).2 = s0.2 + 1 := rfl
          exact pt 3 3 _ _ C3 (by omega) rfl g3 (by omega) (fun q => by omega) fun _ C6 g6 => nx C6 g6
    -- the beginning
    have hw0 : wS S E (ax_wI (ax_wI C M 23 0) M 24 1) M A (C.1 (M + 9)) ((fun _ => 0), 0) True := by
      refine ⟨mdl_fr h (fun b b1 b2 b3 b4 b5 => by rw [ax_wI_n b1, ax_wI_n b1]) rfl fun k hk => by rw [ax_wI_t rfl, n_up_n (by omega), ax_wI_t rfl, n_up_n (by omega)], ?_, ?_, fun q hq => ?_, Or.inr ⟨?_, trivial⟩⟩
      · rw [ax_wI_n (by omega), ax_wI_n (by omega)]
      · rw [ax_wI_t rfl, n_up_n (by omega), ax_wI_t rfl, n_up_t rfl]; rfl
      · have hq : q < 0 := hq
        omega
      · rw [ax_wI_t rfl, n_up_t rfl]
    have c0 : ∀ ax, ct ((nw A).2 p).2.2 ((nw A).2 p).1 0 0 ax = ((nw A).2 p).2.2 (8 * 0 + ax) := fun ax => by unfold ct; rw [if_pos rfl]
    have b0 := c_bd (P := (nw A).2 p) (k := 0) (w := 0) (ax := 0) okp (fun _ _ => rfl) rfl (by omega) (by omega)
    have b1 := c_bd (P := (nw A).2 p) (k := 0) (w := 0) (ax := 1) okp (fun _ _ => rfl) rfl (by omega) (by omega)
    refine s_sign hw0 (show 0 < 500 by omega) fun C1 g1 => ⟨hK.1, (c8_node hx (k := 0) rfl (w := 0) rfl).use ?_⟩
    rw [g1.1.1.1.2.1.2.2]
    refine ⟨hK.2.1.1, (mr_in hK (by omega)).2, ?_⟩
    rw [n_clamp (by omega), (g1.1.2.2.2 p hp).2.2.2 _ (by omega), ← c0]
    have hl0 := nB_len (pb ((fun _ => 0), 0) 77) (ct ((nw A).2 p).2.2 ((nw A).2 p).1 0 0 0 / 46656)
    have e0 : (pb ((fun _ => 0), 0) 77).2 = 0 + 1 := rfl
    refine s_writes g1 (by omega) b0 fun C2 g2 => s_sign g2 (by omega) fun C3 g3 => ⟨hK.1, (c8_node hx (k := 0) rfl (w := 1) rfl).use ?_⟩
    rw [g3.1.1.1.2.1.2.2]
    refine ⟨hK.2.1.1, (mr_in hK (by omega)).2, ?_⟩
    rw [n_clamp (by omega), (g3.1.2.2.2 p hp).2.2.2 _ (by omega), ← c0]
    refine s_writes g3 ?_ b1 fun C4 g4 => (c8_many g4.1.1.1 hx (by omega)).use ?_
    · show (nB (pb ((fun _ => 0), 0) 77) (ct ((nw A).2 p).2.2 ((nw A).2 p).1 0 0 0 / 46656)).2 + 1 + 4 ≤ 341
      omega
    · rw [(g4.1.2.2.2 p hp).2.1]
      refine loop (((nw A).2 p).1 - 1) 0 C4 _ (by omega) (wS_iff g4 ?_)
      exact ⟨fun w => ⟨w.1.2, w.2⟩, fun w => ⟨⟨trivial, w.1⟩, w.2⟩⟩
  · rw [hi]
    exact ⟨rfl, h⟩
end
