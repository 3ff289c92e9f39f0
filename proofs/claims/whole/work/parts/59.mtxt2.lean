/-! ===== the reference's text: paths told ===== -/
section
variable {l : Launch} {D : ax_D} {S : ax_S} {C0 C : ax_C} {M L : Nat} {T : Nat → Int32}
/-- what reading a text may change -/
def vF (C0 C : ax_C) (M : Nat) : Prop := C.2 = C0.2 ∧ (∀ b, b ≠ M → b ≠ M + 11 → C.1 b = C0.1 b) ∧ ∀ k, k ≠ 15 → (k < 17 ∨ 21 < k) → C.1 M k = C0.1 M k
def rL (C0 C : ax_C) (M L a : Nat) (P : ab_P) : Prop := vF C0 C M ∧ C.1 M 15 = nI a ∧ a ≤ L ∧ C.1 M 17 = nI P.1 ∧ C.1 M 18 = bI P.2.1 ∧ ∀ q, q < 8 * P.1 → C.1 (M + 11) q = P.2.2 q
theorem vF_w {C' : ax_C} {q : Nat} (h : vF C0 C M) (hw : wF C C' M q) : vF C0 C' M := by
  obtain ⟨f, rfl, g1, g2⟩ := hw
  refine ⟨h.1, fun b b1 b2 => by rw [ax_rI_n b1]; exact h.2.1 b b1 b2, fun k k1 k2 => ?_⟩
  rw [ax_rI_t rfl, g2 k k1 (by omega) (by omega) (by omega)]
  exact h.2.2 k k1 k2
theorem vF_r {g : Nat → Int32} (h : vF C0 C M) : vF C0 (ax_rI C (M + 11) g) M := by
  refine ⟨h.1, fun b b1 b2 => by rw [ax_rI_n b2]; exact h.2.1 b b1 b2, fun k k1 k2 => ?_⟩
  rw [ax_rI_n (by omega)]
  exact h.2.2 k k1 k2
theorem vF_k {k : Nat} {x : Int32} (h : vF C0 C M) (hk : k = 15 ∨ 17 ≤ k ∧ k ≤ 21) : vF C0 (ax_wI C M k x) M := by
  refine ⟨h.1, fun b b1 b2 => by rw [ax_wI_n b1]; exact h.2.1 b b1 b2, fun j k1 k2 => ?_⟩
  rw [ax_wI_t rfl, n_up_n (by omega)]
  exact h.2.2 j k1 k2
theorem tx1_v (h : tx1 S C0 M T L) (hv : vF C0 C M) : tx1 S C M T L := by
  obtain ⟨h1, h2, h3, h4, h5, h6, h7, h8, h9, h10⟩ := h
  obtain ⟨g1, g2, g3⟩ := hv
  refine ⟨h1, h2, h3, by rw [g1]; exact h4, by rw [g3 9 (by omega) (by omega)]; exact h5, h6, by rw [g2 _ (by omega) (by omega)]; exact h7, h8, h9, by rw [g1]; exact h10⟩
theorem r_tells {n : Nat} {x y : Int32} {P : ax_C → Prop} (h : tx1 S C M T L) (hn : C.1 M 17 = nI n) (h12 : n < 12) (hP : P (ax_wI (ax_rI C (M + 11) (nd (C.1 (M + 11)) n (cn x y))) M 17 (nI (n + 1)))) : ax_CV l D mt_X8_tells [ax_r (some M), ax_i x, ax_i y] S C P := by
  obtain ⟨h1, h2, h3, h4, h5, h6, h7, h8, h9, h10⟩ := h
  refine vc_X8_tells h1 fun P2 hp2 => ?_
  have loop : ∀ (m k : Nat) (g : Nat → Int32), k + m = 8 → (∀ q, g q = if 8 * n ≤ q ∧ q < 8 * n + k then 0 else C.1 (M + 11) q) → P2 (nI k) (ax_rI C (M + 11) g) := by
    intro m
    induction m with
    | zero =>
      intro k g hk hg
      have : k = 8 := by omega
      subst this
      refine hp2 _ _ ⟨fun _ => ⟨h1, h1, ?_⟩, fun q => n_absurd (by simp (disch := omega) only [n_lit0, n_lit1, n_lit2, n_lit3, n_lit4, n_lit5, n_lit6, n_lit7, n_lit8, n_lit9, n_lit10, n_lit11, n_lit12, n_lit13, n_lit14, n_lit15, n_lit16, n_lit17, n_lit18, n_lit19, n_lit20, n_lit21, n_lit22, n_lit23, n_lit24, n_lit30, n_lit31, n_lit32, n_lit45, n_lit48, n_lit49, n_lit57, n_lit59, n_lit60, n_lit67, n_lit76, n_lit77, n_lit90, n_lit96, n_lit97, n_lit98, n_lit99, n_lit100, n_lit119, n_lit120, n_lit127, n_lit128, n_lit196, n_lit200, n_lit208, n_lit294, n_lit340, n_lit341, n_lit392, n_lit490, n_lit491, n_lit500, n_lit588, n_lit589, n_lit999, n_lit1178, n_lit5301, n_lit5890, n_lit46656, n_add, n_mul, n_sub, n_lt_t, n_lt_f, n_le_t, n_le_f, n_eq_t, n_eq_f, n_clamp, n_in_t, ax_sm_s, true_and, and_true, not_true_eq_false, not_false_eq_true, true_imp, false_imp, imp_true, and_self, ax_wI_2, ax_rI_2, ax_wI_t, ax_wI_n, ax_rI_t, ax_rI_n, n_up_t, n_up_n, ne_eq, or_true, true_or, false_or, or_false, some_ex, n_none1, n_none2, ite_true, ite_false]) q⟩
      show ax_sm (C.2.2 M 16) _
      rw [h10]
      have e17 : (ax_rI C (M + 11) g).1 M 17 = nI n := by rw [ax_rI_n (by omega)]; exact hn
      have e17' : ∀ j z, (ax_wI (ax_rI C (M + 11) g) (M + 11) j z).1 M 17 = nI n := fun j z => by rw [ax_wI_n (by omega)]; exact e17
      have e17'' : ∀ j z i w, (ax_wI (ax_wI (ax_rI C (M + 11) g) (M + 11) j z) (M + 11) i w).1 M 17 = nI n := fun j z i w => by rw [ax_wI_n (by omega)]; exact e17' j z
      rw [e17, n_lit8, n_mul]
      refine ⟨h8, by rw [h9]; exact vp_in_nI (by omega) (by omega), h1, h1, ?_⟩
      show ax_sm (C.2.2 M 16) _
      rw [h10, n_clamp (by omega), e17', n_mul, n_succ]
      refine ⟨h8, by rw [h9]; exact vp_in_nI (by omega) (by omega), h1, h1, ?_⟩
      rw [n_clamp (by omega), e17'', n_succ]
      have e : ax_wI (ax_wI (ax_rI C (M + 11) g) (M + 11) (8 * n) x) (M + 11) (8 * n + 1) y = ax_rI C (M + 11) (nd (C.1 (M + 11)) n (cn x y)) := by
        rw [ax_wI_rI, ax_wI_rI, ax_rI_rI, ax_rI_rI]
        congr 1
        rw [ax_rI_t rfl, ax_rI_t rfl]
        funext q
        unfold nd cn
        by_cases z1 : q = 8 * n + 1
        · rw [n_up_t z1, if_pos (by omega), if_neg (by omega), if_pos (by omega)]
        rw [n_up_n z1]
        by_cases z0 : q = 8 * n
        · rw [n_up_t z0, if_pos (by omega), if_pos (by omega)]
        rw [n_up_n z0, hg]
        by_cases z : 8 * n ≤ q ∧ q < 8 * n + 8
        · rw [if_pos z, if_pos z, if_neg (by omega), if_neg (by omega)]
        · rw [if_neg z, if_neg z]
      rw [e]
      exact hP
    | succ m ih =>
      intro k g hk hg
      refine hp2 _ _ ⟨fun q => n_absurd q (by simp (disch := omega) only [n_lit0, n_lit1, n_lit2, n_lit3, n_lit4, n_lit5, n_lit6, n_lit7, n_lit8, n_lit9, n_lit10, n_lit11, n_lit12, n_lit13, n_lit14, n_lit15, n_lit16, n_lit17, n_lit18, n_lit19, n_lit20, n_lit21, n_lit22, n_lit23, n_lit24, n_lit30, n_lit31, n_lit32, n_lit45, n_lit48, n_lit49, n_lit57, n_lit59, n_lit60, n_lit67, n_lit76, n_lit77, n_lit90, n_lit96, n_lit97, n_lit98, n_lit99, n_lit100, n_lit119, n_lit120, n_lit127, n_lit128, n_lit196, n_lit200, n_lit208, n_lit294, n_lit340, n_lit341, n_lit392, n_lit490, n_lit491, n_lit500, n_lit588, n_lit589, n_lit999, n_lit1178, n_lit5301, n_lit5890, n_lit46656, n_add, n_mul, n_sub, n_lt_t, n_lt_f, n_le_t, n_le_f, n_eq_t, n_eq_f, n_clamp, n_in_t, ax_sm_s, true_and, and_true, not_true_eq_false, not_false_eq_true, true_imp, false_imp, imp_true, and_self, ax_wI_2, ax_rI_2, ax_wI_t, ax_wI_n, ax_rI_t, ax_rI_n, n_up_t, n_up_n, ne_eq, or_true, true_or, false_or, or_false, some_ex, n_none1, n_none2, ite_true, ite_false]), fun _ => ⟨h1, h1, ?_⟩⟩
      show ax_sm (C.2.2 M 16) _
      rw [h10, ax_rI_n (show M ≠ M + 11 by omega), hn, n_lit8, n_mul, n_add, n_succ]
      refine ⟨h8, by rw [h9]; exact vp_in_nI (by omega) (by omega), ?_⟩
      rw [n_clamp (by omega), ax_wI_rI, ax_rI_rI, ax_rI_t rfl]
      refine ih (k + 1) _ (by omega) fun q => ?_
      by_cases z : q = 8 * n + k
      · rw [n_up_t z, if_pos (by omega)]
      · rw [n_up_n z, hg]
        by_cases w : 8 * n ≤ q ∧ q < 8 * n + k
        · rw [if_pos w, if_pos (by omega)]
        · rw [if_neg w, if_neg (by omega)]
  have := loop 8 0 (C.1 (M + 11)) rfl fun q => by rw [if_neg (by omega)]
  rw [ax_rI_id] at this
  exact this
theorem r_curve {a : Nat} {P : ab_P} {K : Int32 → ax_C → Prop} (h : tx1 S C0 M T L) (hl : rL C0 C M L a P) (hu : uP P) (hn : P.1 < 12) (hn1 : 1 ≤ P.1) (h1 : ∀ P' q C', cv T L P a = (some P', q) → rL C0 C' M L q P' → K 1 C') (h0 : ∀ q C', cv T L P a = (none, q) → vF C0 C' M → C'.1 M 15 = nI q → K 0 C') : ax_CI l D mt_X8_curve [ax_r (some M)] S C K := by
  obtain ⟨hv, ha, hal, h17, h18, hrow⟩ := hl
  have ht := tx1_v h hv
  obtain ⟨t1, t2, t3, t4, t5, t6, t7, t8, t9, t10⟩ := id ht
  have hL := t6.1
  have hu1 := (hu.2.2 (P.1 - 1) (by omega)).1
  have c5 := hrow (8 * (P.1 - 1)) (by omega)
  have c6 := hrow (8 * (P.1 - 1) + 1) (by omega)
  refine vc_X8_curve t1 ⟨t1, t1, ?_⟩
  rw [t10, h17]
  rw [show (8 : Int32) * (nI P.1 - 1) = nI (8 * (P.1 - 1)) by rw [n_lit1, n_sub (by omega), n_lit8, n_mul]]
  rw [n_succ, n_lit4, n_add, n_succ]
  refine ⟨t8, by rw [t9]; exact vp_in_nI (by omega) (by omega), t1, t8, by rw [t9]; exact vp_in_nI (by omega) (by omega), ?_⟩
  rw [n_clamp (show 8 * (P.1 - 1) < 2 ^ 31 by omega), n_clamp (show 8 * (P.1 - 1) + 1 < 2 ^ 31 by omega), n_clamp (show 8 * (P.1 - 1) + 4 < 2 ^ 31 by omega), n_clamp (show 8 * (P.1 - 1) + 4 + 1 < 2 ^ 31 by omega), c5, c6]
  refine r_position ht ha (by omega) (hu1 0 (by omega)) (hu1 1 (by omega)) (fun w1 q1 C3 e1 f1 g1 g2 => ⟨fun _ => ?_, fun u => absurd u (by decide)⟩) fun q C3 e1 f1 => ⟨fun u => absurd rfl u, fun _ => h0 q C3 (cv_1 e1) (vF_w hv f1) (wF_15 f1)⟩
  have T3 := tx1_w ht f1
  have b1 := (nu_some (po_some e1).choose_spec.2.2).2.1
  rw [wF_2 f1, t10]
  have r3 : C3.1 (M + 11) = C.1 (M + 11) := wF_n f1 (by omega)
  refine ⟨t1, t1, t1, t8, by rw [t9]; exact vp_in_nI (by omega) (by omega), t8, by rw [t9]; exact vp_in_nI (by omega) (by omega), t1, t1, t1, ?_⟩
  have hc4 : ∀ x, (ax_wI C3 (M + 11) (8 * (P.1 - 1) + 4) x).1 M 21 = w1.2 := fun x => by rw [ax_wI_n (by omega)]; exact g2
  have hc4' : ∀ x, (ax_wI C3 (M + 11) (8 * (P.1 - 1) + 4) x).1 (M + 11) (8 * (P.1 - 1) + 1) = P.2.2 (8 * (P.1 - 1) + 1) := fun x => by rw [ax_wI_t rfl, n_up_n (by omega), r3]; exact c6
  have i4 : ∀ x, (ax_wI C3 (M + 11) (8 * (P.1 - 1) + 4) x).2.2 M 16 = some (M + 11) := fun x => by show C3.2.2 M 16 = _; rw [wF_2 f1]; exact t10
  rw [i4]
  refine ⟨t8, by rw [t9]; exact vp_in_nI (by omega) (by omega), t8, by rw [t9]; exact vp_in_nI (by omega) (by omega), ?_⟩
  rw [hc4, hc4', r3, c5, g1]
  generalize hC4 : ax_wI (ax_wI C3 (M + 11) (8 * (P.1 - 1) + 4) (w1.1 - P.2.2 (8 * (P.1 - 1)))) (M + 11) (8 * (P.1 - 1) + 4 + 1) (w1.2 - P.2.2 (8 * (P.1 - 1) + 1)) = C4
  have v4 : vF C0 C4 M := by
    rw [← hC4, ax_wI_rI, ax_wI_rI]
    exact vF_r (vF_r (vF_w hv f1))
  have m4 : C4.1 M = C3.1 M := by rw [← hC4, ax_wI_n (by omega), ax_wI_n (by omega)]
  have r4 : C4.1 (M + 11) = va_up (va_up (C.1 (M + 11)) (8 * (P.1 - 1) + 4) (w1.1 - P.2.2 (8 * (P.1 - 1)))) (8 * (P.1 - 1) + 5) (w1.2 - P.2.2 (8 * (P.1 - 1) + 1)) := by rw [← hC4, ax_wI_t rfl, ax_wI_t rfl, r3]
  have p4 : C4.1 M 15 = nI q1 := by rw [m4]; exact wF_15 f1
  have T4 := tx1_v h v4
  refine r_takes T4 p4 (by omega) (c := 32) rfl (fun s1 => ⟨fun u => absurd u (by decide), fun _ => ?_⟩) fun s1 => ⟨fun _ => h0 q1 C4 (cv_2 e1 s1) v4 p4, fun u => absurd rfl u⟩
  have s1 : hr T L q1 = 32 := s1
  have l1 := hr_lt s1 (by decide)
  have f5 := wF_w (b := q1 + 1) (wF_0 p4)
  refine r_position (tx1_w T4 f5) (wF_15 f5) (by omega) (by decide) (by decide) (fun w2 q2 C6 e2 f6 g3 g4 => ⟨fun _ => ⟨t1, t1, ?_⟩, fun u => absurd u (by decide)⟩) fun q C6 e2 f6 => ⟨fun u => absurd rfl u, fun _ => h0 q C6 (cv_3 e1 s1 e2) (vF_w v4 (wF_t f5 f6)) (wF_15 f6)⟩
  have f6 := wF_t f5 f6
  have T6 := tx1_w T4 f6
  have b2 := (nu_some (po_some e2).choose_spec.2.2).2.1
  have u2 : (-200 ≤ w2.1.toInt ∧ w2.1.toInt ≤ 200) ∧ -200 ≤ w2.2.toInt ∧ w2.2.toInt ≤ 200 := by
    obtain ⟨_, d1, _, d2⟩ := po_some e2
    exact ⟨nu_v d1, nu_v d2⟩
  refine r_takes T6 (wF_15 f6) (by omega) (c := 32) rfl (fun s2 => ⟨fun u => absurd u (by decide), fun _ => ?_⟩) fun s2 => ⟨fun _ => h0 q2 C6 (cv_4 e1 s1 e2 s2) (vF_w v4 f6) (wF_15 f6), fun u => absurd rfl u⟩
  have s2 : hr T L q2 = 32 := s2
  have l2 := hr_lt s2 (by decide)
  have f7 := wF_w (b := q2 + 1) f6
  rw [g3, g4]
  refine r_position (tx1_w T4 f7) (wF_15 f7) (by omega) u2.1 u2.2 (fun w3 q3 C8 e3 f8 g5 g6 => ⟨fun _ => ⟨t1, t1, ?_⟩, fun u => absurd u (by decide)⟩) fun q C8 e3 f8 => ⟨fun u => absurd rfl u, fun _ => h0 q C8 (cv_5 e1 s1 e2 s2 e3) (vF_w v4 (wF_t f7 f8)) (wF_15 f8)⟩
  have f8 := wF_t f7 f8
  have b3 := (nu_some (po_some e3).choose_spec.2.2).2.1
  have v8 := vF_w v4 f8
  have T8 := tx1_v h v8
  have n8 : C8.1 M 17 = nI P.1 := by rw [wF_k f8 (by omega) (by omega) (by omega) (by omega), m4, wF_k f1 (by omega) (by omega) (by omega) (by omega)]; exact h17
  have r8 : C8.1 (M + 11) = C4.1 (M + 11) := wF_n f8 (by omega)
  refine r_tells T8 n8 hn ⟨t1, t1, t1, ?_⟩
  generalize hC9 : ax_wI (ax_rI C8 (M + 11) (nd (C8.1 (M + 11)) P.1 (cn (C8.1 M 20) (C8.1 M 21)))) M 17 (nI (P.1 + 1)) = C9
  have v9 : vF C0 C9 M := by rw [← hC9]; exact vF_k (vF_r v8) (by omega)
  have m9 : ∀ k, k ≠ 17 → C9.1 M k = C8.1 M k := fun k hk => by rw [← hC9, ax_wI_t rfl, n_up_n hk, ax_rI_n (by omega)]
  have n9 : C9.1 M 17 = nI (P.1 + 1) := by rw [← hC9, ax_wI_t rfl, n_up_t rfl]
  have r9 : C9.1 (M + 11) = nd (C4.1 (M + 11)) P.1 (cn w3.1 w3.2) := by rw [← hC9, ax_wI_n (by omega), ax_rI_t rfl, r8, g5, g6]
  have i9 : C9.2.2 M 16 = some (M + 11) := by rw [v9.1]; exact h.2.2.2.2.2.2.2.2.2
  rw [i9, n9, m9 20 (by omega), g5]
  rw [show (8 : Int32) * (nI (P.1 + 1) - 1) = nI (8 * P.1) by rw [n_lit1, n_sub (by omega), n_lit8, n_mul]; rfl, n_lit2, n_add]
  refine ⟨t8, by rw [t9]; exact vp_in_nI (by omega) (by omega), t1, t1, t1, ?_⟩
  rw [n_clamp (show 8 * P.1 + 2 < 2 ^ 31 by omega)]
  have i9' : ∀ x, (ax_wI C9 (M + 11) (8 * P.1 + 2) x).2.2 M 16 = some (M + 11) := fun x => i9
  have n9' : ∀ x, (ax_wI C9 (M + 11) (8 * P.1 + 2) x).1 M 17 = nI (P.1 + 1) := fun x => by rw [ax_wI_n (by omega)]; exact n9
  have m9' : ∀ x, (ax_wI C9 (M + 11) (8 * P.1 + 2) x).1 M 21 = w3.2 := fun x => by rw [ax_wI_n (by omega), m9 21 (by omega)]; exact g6
  rw [i9', n9', m9']
  rw [show (8 : Int32) * (nI (P.1 + 1) - 1) = nI (8 * P.1) by rw [n_lit1, n_sub (by omega), n_lit8, n_mul]; rfl, n_add, n_succ]
  refine ⟨t8, by rw [t9]; exact vp_in_nI (by omega) (by omega), ?_⟩
  rw [n_clamp (by omega), ax_wI_rI, ax_wI_rI, ax_rI_rI, ax_rI_t rfl, r9, r4]
  refine h1 _ q3 _ (cv_6 e1 s1 e2 s2 e3) ⟨vF_r v9, ?_, b3, ?_, ?_, fun j hj => ?_⟩
  · rw [ax_rI_n (by omega), m9 15 (by omega)]; exact wF_15 f8
  · rw [ax_rI_n (by omega), n9]; rfl
  · rw [ax_rI_n (by omega), m9 18 (by omega), wF_k f8 (by omega) (by omega) (by omega) (by omega), m4, wF_k f1 (by omega) (by omega) (by omega) (by omega)]; exact h18
  · have hj : j < 8 * (P.1 + 1) := hj
    rw [ax_rI_t rfl]
    show _ = nd (va_up (va_up P.2.2 (8 * (P.1 - 1) + 4) (w1.1 - P.2.2 (8 * (P.1 - 1)))) (8 * (P.1 - 1) + 5) (w1.2 - P.2.2 (8 * (P.1 - 1) + 1))) P.1 (cuN w3.1 w3.2 (w2.1 - w3.1) (w2.2 - w3.2)) j
    unfold nd cuN cn
    by_cases z3 : j = 8 * P.1 + 3
    · rw [n_up_t z3, if_pos (by omega), if_neg (by omega), if_neg (by omega), if_neg (by omega), if_pos (by omega)]
    rw [n_up_n (show j ≠ 8 * P.1 + 2 + 1 from z3)]
    by_cases z2 : j = 8 * P.1 + 2
    · rw [n_up_t z2, if_pos (by omega), if_neg (by omega), if_neg (by omega), if_pos (by omega)]
    rw [n_up_n z2]
    by_cases zz : 8 * P.1 ≤ j ∧ j < 8 * P.1 + 8
    · rw [if_pos zz, if_pos zz]
      by_cases y0 : j - 8 * P.1 = 0
      · rw [if_pos y0, if_pos y0]
      · rw [if_neg y0, if_neg y0]
        by_cases y1 : j - 8 * P.1 = 1
        · rw [if_pos y1, if_pos y1]
        · rw [if_neg y1, if_neg y1, if_neg (by omega), if_neg (by omega)]
    · rw [if_neg zz, if_neg zz]
      by_cases z1 : j = 8 * (P.1 - 1) + 5
      · rw [n_up_t z1, n_up_t z1]
      rw [n_up_n z1, n_up_n z1]
      by_cases z0 : j = 8 * (P.1 - 1) + 4
      · rw [n_up_t z0, n_up_t z0]
      rw [n_up_n z0, n_up_n z0]
      exact hrow j (by omega)
end
