/-! ===== the reference's areas, boxes, points, sums ===== -/
def bz (n : Int32) : Nat → Int32
  | 0 => 1
  | k + 1 => (bz n k * (n - nI k)) / (nI k + 1)
theorem bz_wt {i j : Nat} (hi : i < 4) (hj : j < 3) : (30 * bz 3 i * bz 2 j) / bz 5 (i + j) = ax_wt (3 * i + j) := by
  have key : ∀ i : Fin 4, ∀ j : Fin 3, (30 * bz 3 i.1 * bz 2 j.1) / bz 5 (i.1 + j.1) = ax_wt (3 * i.1 + j.1) := by decide
  exact key ⟨i, hi⟩ ⟨j, hj⟩
theorem bz_n0 {k : Nat} (h : k < 6) : ¬ bz 5 k = 0 := by
  have key : ∀ k : Fin 6, ¬ bz 5 k.1 = 0 := by decide
  exact key ⟨k, h⟩
theorem a12_add {row : Nat → Int32} {n k : Nat} {acc : Int64} : ∀ m, a12 row n k acc m = acc + a12 row n k 0 m
  | 0 => (Int64.add_zero acc).symm
  | m + 1 => by
    unfold a12
    rw [a12_add m, Int64.add_assoc]
theorem e31 (h x y : Int64) : 31 * (31 * h + x) + y = (h * 31 + x) * 31 + y := by
  rw [Int64.mul_comm 31 h, Int64.mul_comm 31]
section
variable {l : Launch} {D : ax_D} {S : ax_S} {E C : ax_C} {M : Nat} {A : ab_A}
theorem c8_binomial {n : Int32} {k : Nat} {y : Int32} (hy : y = nI k) (hk : k < 100) : ax_CI l D mt_X8_binomial [ax_i n, ax_i y] S C (fun r C' => r = bz n k ∧ C' = C) := by
  subst hy
  refine vc_X8_binomial fun P4 h4 => ?_
  have loop : ∀ (m s : Nat), s + m = k → P4 (bz n s) (nI s) C := by
    intro m
    induction m with
    | zero =>
      intro s hs
      have : s = k := by omega
      subst this
      exact h4 _ _ _ ⟨fun _ => ⟨rfl, rfl⟩, fun q => n_absurd (by simp (disch := omega) only [n_lit0, n_lit1, n_lit2, n_lit3, n_lit4, n_lit5, n_lit6, n_lit7, n_lit8, n_lit9, n_lit10, n_lit11, n_lit12, n_lit13, n_lit14, n_lit15, n_lit16, n_lit17, n_lit18, n_lit19, n_lit20, n_lit21, n_lit22, n_lit23, n_lit24, n_lit30, n_lit31, n_lit32, n_lit45, n_lit48, n_lit49, n_lit57, n_lit59, n_lit60, n_lit67, n_lit76, n_lit77, n_lit90, n_lit96, n_lit97, n_lit98, n_lit99, n_lit100, n_lit119, n_lit120, n_lit127, n_lit128, n_lit196, n_lit200, n_lit208, n_lit294, n_lit340, n_lit341, n_lit392, n_lit490, n_lit491, n_lit500, n_lit588, n_lit589, n_lit999, n_lit1178, n_lit5301, n_lit5890, n_lit46656, n_add, n_mul, n_sub, n_lt_t, n_lt_f, n_le_t, n_le_f, n_eq_t, n_eq_f, n_clamp, n_in_t, ax_sm_s, true_and, and_true, not_true_eq_false, not_false_eq_true, true_imp, false_imp, imp_true, and_self, ax_wI_2, ax_rI_2, ax_wI_t, ax_wI_n, ax_rI_t, ax_rI_n, n_up_t, n_up_n, ne_eq, or_true, true_or, false_or, or_false, some_ex, n_none1, n_none2, ite_true, ite_false]) q⟩
    | succ m ih =>
      intro s hs
      refine h4 _ _ _ ⟨fun q => n_absurd q (by simp (disch := omega) only [n_lit0, n_lit1, n_lit2, n_lit3, n_lit4, n_lit5, n_lit6, n_lit7, n_lit8, n_lit9, n_lit10, n_lit11, n_lit12, n_lit13, n_lit14, n_lit15, n_lit16, n_lit17, n_lit18, n_lit19, n_lit20, n_lit21, n_lit22, n_lit23, n_lit24, n_lit30, n_lit31, n_lit32, n_lit45, n_lit48, n_lit49, n_lit57, n_lit59, n_lit60, n_lit67, n_lit76, n_lit77, n_lit90, n_lit96, n_lit97, n_lit98, n_lit99, n_lit100, n_lit119, n_lit120, n_lit127, n_lit128, n_lit196, n_lit200, n_lit208, n_lit294, n_lit340, n_lit341, n_lit392, n_lit490, n_lit491, n_lit500, n_lit588, n_lit589, n_lit999, n_lit1178, n_lit5301, n_lit5890, n_lit46656, n_add, n_mul, n_sub, n_lt_t, n_lt_f, n_le_t, n_le_f, n_eq_t, n_eq_f, n_clamp, n_in_t, ax_sm_s, true_and, and_true, not_true_eq_false, not_false_eq_true, true_imp, false_imp, imp_true, and_self, ax_wI_2, ax_rI_2, ax_wI_t, ax_wI_n, ax_rI_t, ax_rI_n, n_up_t, n_up_n, ne_eq, or_true, true_or, false_or, or_false, some_ex, n_none1, n_none2, ite_true, ite_false]), fun _ => ⟨?_, ?_⟩⟩
      · rw [n_succ]; exact nI_ne0 (by omega) (by omega)
      · have := ih (s + 1) (by omega)
        unfold bz at this
        rw [← n_succ] at this
        exact this
  exact loop k 0 (by omega)
theorem m_integral {p k : Nat} {x y : Int32} (h : mdl S E C M A) (hx : x = nI p) (hp : p < (nw A).1) (hy : y = nI k) (hk : k < ((nw A).2 p).1) : ax_CL l D mt_X8_integral [ax_r (some M), ax_i x, ax_i y] S C (fun r C' => r = a12 ((nw A).2 p).2.2 ((nw A).2 p).1 k 0 12 ∧ mdl S E C' M A) := by
  have hK := h.1.1
  have h6 := h.2.1
  obtain ⟨h12, w2, w3, w4⟩ := h.2.2.2 p hp
  have k9 := hK.2.2.2.2.2.2.2.2.2.1
  refine vc_X8_integral hK.1 fun P11 P20 h11 h20 => (c8_controls' hK hx (by omega) hy hk h12 w2).mono ?_
  rintro C1 ⟨cc, rfl, hcc⟩
  have hM := mdl_9c (f := cc) h
  have r9 : (ax_rI C (M + 9) cc).2.2 M 13 = some (M + 9) := k9.2.2
  have rd : (ax_rI C (M + 9) cc).1 (M + 9) = cc := ax_rI_t rfl
  have hct : ∀ ax w, ax < 2 → w < 4 → cc (4 * ax + w) = ct ((nw A).2 p).2.2 ((nw A).2 p).1 k w ax := fun ax w h1 h2 => by
    rw [hcc ax w h1 h2]; exact ct_c w4 hk h1
  generalize ((nw A).2 p).2.2 = g at *
  generalize ((nw A).2 p).1 = n at *
  have ph : ∀ (m i : Nat), i + m = 4 → P11 (a12 g n k 0 (3 * i)) (nI i) (ax_rI C (M + 9) cc) := by
    intro m
    induction m with
    | zero =>
      intro i hi
      have : i = 4 := by omega
      subst this
      exact h11 _ _ _ ⟨fun _ => ⟨rfl, hM⟩, fun q => n_absurd (by simp (disch := omega) only [n_lit0, n_lit1, n_lit2, n_lit3, n_lit4, n_lit5, n_lit6, n_lit7, n_lit8, n_lit9, n_lit10, n_lit11, n_lit12, n_lit13, n_lit14, n_lit15, n_lit16, n_lit17, n_lit18, n_lit19, n_lit20, n_lit21, n_lit22, n_lit23, n_lit24, n_lit30, n_lit31, n_lit32, n_lit45, n_lit48, n_lit49, n_lit57, n_lit59, n_lit60, n_lit67, n_lit76, n_lit77, n_lit90, n_lit96, n_lit97, n_lit98, n_lit99, n_lit100, n_lit119, n_lit120, n_lit127, n_lit128, n_lit196, n_lit200, n_lit208, n_lit294, n_lit340, n_lit341, n_lit392, n_lit490, n_lit491, n_lit500, n_lit588, n_lit589, n_lit999, n_lit1178, n_lit5301, n_lit5890, n_lit46656, n_add, n_mul, n_sub, n_lt_t, n_lt_f, n_le_t, n_le_f, n_eq_t, n_eq_f, n_clamp, n_in_t, ax_sm_s, true_and, and_true, not_true_eq_false, not_false_eq_true, true_imp, false_imp, imp_true, and_self, ax_wI_2, ax_rI_2, ax_wI_t, ax_wI_n, ax_rI_t, ax_rI_n, n_up_t, n_up_n, ne_eq, or_true, true_or, false_or, or_false, some_ex, n_none1, n_none2, ite_true, ite_false]) q⟩
    | succ m ih =>
      intro i hi
      refine h11 _ _ _ ⟨fun q => n_absurd q (by simp (disch := omega) only [n_lit0, n_lit1, n_lit2, n_lit3, n_lit4, n_lit5, n_lit6, n_lit7, n_lit8, n_lit9, n_lit10, n_lit11, n_lit12, n_lit13, n_lit14, n_lit15, n_lit16, n_lit17, n_lit18, n_lit19, n_lit20, n_lit21, n_lit22, n_lit23, n_lit24, n_lit30, n_lit31, n_lit32, n_lit45, n_lit48, n_lit49, n_lit57, n_lit59, n_lit60, n_lit67, n_lit76, n_lit77, n_lit90, n_lit96, n_lit97, n_lit98, n_lit99, n_lit100, n_lit119, n_lit120, n_lit127, n_lit128, n_lit196, n_lit200, n_lit208, n_lit294, n_lit340, n_lit341, n_lit392, n_lit490, n_lit491, n_lit500, n_lit588, n_lit589, n_lit999, n_lit1178, n_lit5301, n_lit5890, n_lit46656, n_add, n_mul, n_sub, n_lt_t, n_lt_f, n_le_t, n_le_f, n_eq_t, n_eq_f, n_clamp, n_in_t, ax_sm_s, true_and, and_true, not_true_eq_false, not_false_eq_true, true_imp, false_imp, imp_true, and_self, ax_wI_2, ax_rI_2, ax_wI_t, ax_wI_n, ax_rI_t, ax_rI_n, n_up_t, n_up_n, ne_eq, or_true, true_or, false_or, or_false, some_ex, n_none1, n_none2, ite_true, ite_false]), fun _ => ?_⟩
      have inner : ∀ (c j : Nat), j + c = 3 → P20 (a12 g n k 0 (3 * i + j)) (nI i) (nI j) (ax_rI C (M + 9) cc) := by
        intro c
        induction c with
        | zero =>
          intro j hj
          have : j = 3 := by omega
          subst this
          refine h20 _ _ _ _ ⟨fun _ => ?_, fun q => n_absurd (by simp (disch := omega) only [n_lit0, n_lit1, n_lit2, n_lit3, n_lit4, n_lit5, n_lit6, n_lit7, n_lit8, n_lit9, n_lit10, n_lit11, n_lit12, n_lit13, n_lit14, n_lit15, n_lit16, n_lit17, n_lit18, n_lit19, n_lit20, n_lit21, n_lit22, n_lit23, n_lit24, n_lit30, n_lit31, n_lit32, n_lit45, n_lit48, n_lit49, n_lit57, n_lit59, n_lit60, n_lit67, n_lit76, n_lit77, n_lit90, n_lit96, n_lit97, n_lit98, n_lit99, n_lit100, n_lit119, n_lit120, n_lit127, n_lit128, n_lit196, n_lit200, n_lit208, n_lit294, n_lit340, n_lit341, n_lit392, n_lit490, n_lit491, n_lit500, n_lit588, n_lit589, n_lit999, n_lit1178, n_lit5301, n_lit5890, n_lit46656, n_add, n_mul, n_sub, n_lt_t, n_lt_f, n_le_t, n_le_f, n_eq_t, n_eq_f, n_clamp, n_in_t, ax_sm_s, true_and, and_true, not_true_eq_false, not_false_eq_true, true_imp, false_imp, imp_true, and_self, ax_wI_2, ax_rI_2, ax_wI_t, ax_wI_n, ax_rI_t, ax_rI_n, n_up_t, n_up_n, ne_eq, or_true, true_or, false_or, or_false, some_ex, n_none1, n_none2, ite_true, ite_false]) q⟩
          rw [n_succ]
          exact ih (i + 1) (by omega)
        | succ c ih2 =>
          intro j hj
          refine h20 _ _ _ _ ⟨fun q => n_absurd q (by simp (disch := omega) only [n_lit0, n_lit1, n_lit2, n_lit3, n_lit4, n_lit5, n_lit6, n_lit7, n_lit8, n_lit9, n_lit10, n_lit11, n_lit12, n_lit13, n_lit14, n_lit15, n_lit16, n_lit17, n_lit18, n_lit19, n_lit20, n_lit21, n_lit22, n_lit23, n_lit24, n_lit30, n_lit31, n_lit32, n_lit45, n_lit48, n_lit49, n_lit57, n_lit59, n_lit60, n_lit67, n_lit76, n_lit77, n_lit90, n_lit96, n_lit97, n_lit98, n_lit99, n_lit100, n_lit119, n_lit120, n_lit127, n_lit128, n_lit196, n_lit200, n_lit208, n_lit294, n_lit340, n_lit341, n_lit392, n_lit490, n_lit491, n_lit500, n_lit588, n_lit589, n_lit999, n_lit1178, n_lit5301, n_lit5890, n_lit46656, n_add, n_mul, n_sub, n_lt_t, n_lt_f, n_le_t, n_le_f, n_eq_t, n_eq_f, n_clamp, n_in_t, ax_sm_s, true_and, and_true, not_true_eq_false, not_false_eq_true, true_imp, false_imp, imp_true, and_self, ax_wI_2, ax_rI_2, ax_wI_t, ax_wI_n, ax_rI_t, ax_rI_n, n_up_t, n_up_n, ne_eq, or_true, true_or, false_or, or_false, some_ex, n_none1, n_none2, ite_true, ite_false]), fun _ => (c8_binomial rfl (by omega)).use ((c8_binomial rfl (by omega)).use ?_)⟩
          rw [n_add]
          refine (c8_binomial rfl (by omega)).use ⟨bz_n0 (by omega), hK.1, ?_⟩
          rw [r9, n_lit5, n_add, n_lit4, n_add, n_succ]
          refine ⟨k9.1, mc_in hK (by omega), hK.1, k9.1, mc_in hK (by omega), hK.1, k9.1, mc_in hK (by omega), ?_⟩
          rw [n_clamp (by omega), n_clamp (by omega), n_clamp (by omega), rd, ← n_lit5, bz_wt (i := i) (j := j) (by omega) (by omega)]
          have e0 : cc i = ct g n k i 0 := by
            have := hct 0 i (by omega) (by omega)
            rw [show 4 * 0 + i = i by omega] at this
            exact this
          have e1 : cc (5 + j) = ct g n k (j + 1) 1 := by
            have := hct 1 (j + 1) (by omega) (by omega)
            rw [show 4 * 1 + (j + 1) = 5 + j by omega] at this
            exact this
          have e2 : cc (4 + j) = ct g n k j 1 := by
            have := hct 1 j (by omega) (by omega)
            rw [show 4 * 1 + j = 4 + j by omega] at this
            exact this
          rw [e0, e1, e2]
          have nx := ih2 (j + 1) (by omega)
          have et : a12 g n k 0 (3 * i + (j + 1)) = a12 g n k 0 (3 * i + j) + tm g n k (3 * i + j) := rfl
          rw [et] at nx
          unfold tm at nx
          rw [show (3 * i + j) % 3 = j by omega, show (3 * i + j) / 3 = i by omega, Int64.mul_assoc, Int64.mul_comm (_ - _ : Int32).toInt64, ← Int64.mul_assoc] at nx
          exact nx
      exact inner 3 0 rfl
  exact ph 4 0 rfl
theorem m_areaOf {p : Nat} {x : Int32} (h : mdl S E C M A) (hok : okV (nw A)) (hx : x = nI p) (hp : p < (nw A).1) : ax_CL l D mt_X8_areaOf [ax_r (some M), ax_i x] S C (fun r C' => r = aS ((nw A).2 p).2.2 ((nw A).2 p).1 (sg ((nw A).2 p).1 ((nw A).2 p).2.1) ∧ mdl S E C' M A) := by
  refine vc_X8_areaOf h.1.1.1 fun P5 h5 => ?_
  have hn1 := (hok.2 p hp).1
  have h6 := h.2.1
  have hsg : sg ((nw A).2 p).1 ((nw A).2 p).2.1 ≤ ((nw A).2 p).1 := by unfold sg; split <;> omega
  have loop : ∀ (m k : Nat) (C1 : ax_C), mdl S E C1 M A → k + m = sg ((nw A).2 p).1 ((nw A).2 p).2.1 → P5 (aS ((nw A).2 p).2.2 ((nw A).2 p).1 k) (nI k) C1 := by
    intro m
    induction m with
    | zero =>
      intro k C1 h1 hk
      obtain ⟨h12, w2, w3, w4⟩ := h1.2.2.2 p hp
      refine h5 _ _ _ ((c8_segments h1.1.1 hx (by omega) w2 w3 hn1).use ⟨fun _ => ⟨?_, h1⟩, fun q => n_absurd (by simp (disch := omega) only [n_lit0, n_lit1, n_lit2, n_lit3, n_lit4, n_lit5, n_lit6, n_lit7, n_lit8, n_lit9, n_lit10, n_lit11, n_lit12, n_lit13, n_lit14, n_lit15, n_lit16, n_lit17, n_lit18, n_lit19, n_lit20, n_lit21, n_lit22, n_lit23, n_lit24, n_lit30, n_lit31, n_lit32, n_lit45, n_lit48, n_lit49, n_lit57, n_lit59, n_lit60, n_lit67, n_lit76, n_lit77, n_lit90, n_lit96, n_lit97, n_lit98, n_lit99, n_lit100, n_lit119, n_lit120, n_lit127, n_lit128, n_lit196, n_lit200, n_lit208, n_lit294, n_lit340, n_lit341, n_lit392, n_lit490, n_lit491, n_lit500, n_lit588, n_lit589, n_lit999, n_lit1178, n_lit5301, n_lit5890, n_lit46656, n_add, n_mul, n_sub, n_lt_t, n_lt_f, n_le_t, n_le_f, n_eq_t, n_eq_f, n_clamp, n_in_t, ax_sm_s, true_and, and_true, not_true_eq_false, not_false_eq_true, true_imp, false_imp, imp_true, and_self, ax_wI_2, ax_rI_2, ax_wI_t, ax_wI_n, ax_rI_t, ax_rI_n, n_up_t, n_up_n, ne_eq, or_true, true_or, false_or, or_false, some_ex, n_none1, n_none2, ite_true, ite_false]) q⟩)
      rw [show k = sg ((nw A).2 p).1 ((nw A).2 p).2.1 by omega]
    | succ m ih =>
      intro k C1 h1 hk
      obtain ⟨h12, w2, w3, w4⟩ := h1.2.2.2 p hp
      refine h5 _ _ _ ((c8_segments h1.1.1 hx (by omega) w2 w3 hn1).use ⟨fun q => n_absurd q (by simp (disch := omega) only [n_lit0, n_lit1, n_lit2, n_lit3, n_lit4, n_lit5, n_lit6, n_lit7, n_lit8, n_lit9, n_lit10, n_lit11, n_lit12, n_lit13, n_lit14, n_lit15, n_lit16, n_lit17, n_lit18, n_lit19, n_lit20, n_lit21, n_lit22, n_lit23, n_lit24, n_lit30, n_lit31, n_lit32, n_lit45, n_lit48, n_lit49, n_lit57, n_lit59, n_lit60, n_lit67, n_lit76, n_lit77, n_lit90, n_lit96, n_lit97, n_lit98, n_lit99, n_lit100, n_lit119, n_lit120, n_lit127, n_lit128, n_lit196, n_lit200, n_lit208, n_lit294, n_lit340, n_lit341, n_lit392, n_lit490, n_lit491, n_lit500, n_lit588, n_lit589, n_lit999, n_lit1178, n_lit5301, n_lit5890, n_lit46656, n_add, n_mul, n_sub, n_lt_t, n_lt_f, n_le_t, n_le_f, n_eq_t, n_eq_f, n_clamp, n_in_t, ax_sm_s, true_and, and_true, not_true_eq_false, not_false_eq_true, true_imp, false_imp, imp_true, and_self, ax_wI_2, ax_rI_2, ax_wI_t, ax_wI_n, ax_rI_t, ax_rI_n, n_up_t, n_up_n, ne_eq, or_true, true_or, false_or, or_false, some_ex, n_none1, n_none2, ite_true, ite_false]), fun _ => (m_integral h1 hx hp rfl (by omega)).mono ?_⟩)
      rintro r C2 ⟨rfl, h2⟩
      rw [n_succ]
      have nx := ih (k + 1) C2 h2 (by omega)
      have et : aS ((nw A).2 p).2.2 ((nw A).2 p).1 (k + 1) = a12 ((nw A).2 p).2.2 ((nw A).2 p).1 k (aS ((nw A).2 p).2.2 ((nw A).2 p).1 k) 12 := rfl
      rw [et, a12_add] at nx
      exact nx
  exact loop (sg ((nw A).2 p).1 ((nw A).2 p).2.1) 0 C h (by omega)
theorem m_area {x : Int32} (h : mdl S E C M A) (hok : okV (nw A)) : ax_CL l D mt_X8_area [ax_r (some M), ax_i x] S C (pQ S E M (Q_area (nw A) x, A)) := by
  have hK := h.1.1
  have h6 := h.2.1
  refine vc_X8_area hK.1 (s8_path hK h.2 (fun p hp hx hi => ⟨fun _ => ?_, fun q => absurd q (by decide)⟩) fun hi => ?_)
  · simp only [Q_area, qP, hi]
    refine (c8_isShut hK hx (by omega) (h.2.2.2 p hp).2.2.1).use ?_
    cases hb : ((nw A).2 p).2.1
    · exact ⟨fun _ => ⟨rfl, h⟩, fun q => absurd rfl q⟩
    · refine ⟨fun q => absurd q (by decide), fun _ => (m_areaOf h hok hx hp).mono ?_⟩
      rintro r C' ⟨rfl, h'⟩
      refine ⟨?_, h'⟩
      rw [hb, if_pos rfl]
      rfl
  · simp only [Q_area, qP, hi]
    exact ⟨fun q => absurd trivial q, fun _ => ⟨rfl, h⟩⟩
theorem m_box {x s : Int32} (h : mdl S E C M A) (hok : okV (nw A)) : ax_CI l D mt_X8_box [ax_r (some M), ax_i x, ax_i s] S C (pQ S E M (Q_box (nw A) x s, A)) := by
  have hK := h.1.1
  have h6 := h.2.1
  refine vc_X8_box hK.1 fun P40 P60 P114 h40 h60 h114 => s8_path hK h.2 (fun p hp hx hi => ⟨fun _ => c8_in.use ?_, fun q => absurd q (by decide)⟩) fun hi => ?_
  · simp only [Q_box, qP, hi] at h40 ⊢
    have hn1 := (hok.2 p hp).1
    have hsg : sg ((nw A).2 p).1 ((nw A).2 p).2.1 ≤ ((nw A).2 p).1 := by unfold sg; split <;> omega
    cases hb : bt s 0 3
    · exact ⟨fun q => absurd rfl q, fun _ => ⟨rfl, h⟩⟩
    rw [if_neg (by rw [hb]; decide)] at h40
    obtain ⟨s1, s2, s3⟩ := bt_n (lo := 0) (hi := 3) (by omega) (by omega) hb
    generalize s.toInt.toNat = n at *
    subst s3
    have e1 : nI n - nI n / 2 * 2 = nI (n % 2) := by
      rw [show (2 : Int32) = nI 2 from rfl, pk_rem (by omega) (by omega) (by omega)]
    have e2 : nI n / 2 = nI (n / 2) := by
      rw [show (2 : Int32) = nI 2 from rfl, pk_div (by omega) (by omega) (by omega)]
    rw [e1, e2] at h60
    refine ⟨fun _ => ⟨hK.1, by decide, ?_⟩, fun q => absurd q (by decide)⟩
    rw [e2]
    refine (c8_node hx (k := 0) rfl rfl).use ?_
    obtain ⟨h12, w2, w3, w4⟩ := h.2.2.2 p hp
    rw [hK.2.1.2.2]
    refine ⟨hK.2.1.1, (mr_in hK (by omega)).2, ?_⟩
    rw [n_clamp (by omega), w4 _ (by omega), show 8 * 0 + n / 2 = n / 2 by omega]
    have loop : ∀ (m k : Nat) (C1 : ax_C), mdl S E C1 M A → k + m = sg ((nw A).2 p).1 ((nw A).2 p).2.1 → P40 (exS ((nw A).2 p).2.2 ((nw A).2 p).1 (n / 2) (decide (n % 2 = 1)) k) (nI k) C1 := by
      intro m
      induction m with
      | zero =>
        intro k C1 h1 hk
        obtain ⟨h12, w2, w3, w4⟩ := h1.2.2.2 p hp
        refine h40 _ _ _ ((c8_segments h1.1.1 hx (by omega) w2 w3 hn1).use ⟨fun _ => ⟨?_, h1⟩, fun q => n_absurd (by simp (disch := omega) only [n_lit0, n_lit1, n_lit2, n_lit3, n_lit4, n_lit5, n_lit6, n_lit7, n_lit8, n_lit9, n_lit10, n_lit11, n_lit12, n_lit13, n_lit14, n_lit15, n_lit16, n_lit17, n_lit18, n_lit19, n_lit20, n_lit21, n_lit22, n_lit23, n_lit24, n_lit30, n_lit31, n_lit32, n_lit45, n_lit48, n_lit49, n_lit57, n_lit59, n_lit60, n_lit67, n_lit76, n_lit77, n_lit90, n_lit96, n_lit97, n_lit98, n_lit99, n_lit100, n_lit119, n_lit120, n_lit127, n_lit128, n_lit196, n_lit200, n_lit208, n_lit294, n_lit340, n_lit341, n_lit392, n_lit490, n_lit491, n_lit500, n_lit588, n_lit589, n_lit999, n_lit1178, n_lit5301, n_lit5890, n_lit46656, n_add, n_mul, n_sub, n_lt_t, n_lt_f, n_le_t, n_le_f, n_eq_t, n_eq_f, n_clamp, n_in_t, ax_sm_s, true_and, and_true, not_true_eq_false, not_false_eq_true, true_imp, false_imp, imp_true, and_self, ax_wI_2, ax_rI_2, ax_wI_t, ax_wI_n, ax_rI_t, ax_rI_n, n_up_t, n_up_n, ne_eq, or_true, true_or, false_or, or_false, some_ex, n_none1, n_none2, ite_true, ite_false]) q⟩)
        rw [show k = sg ((nw A).2 p).1 ((nw A).2 p).2.1 by omega]
      | succ m ih =>
        intro k C1 h1 hk
        obtain ⟨h12, w2, w3, w4⟩ := h1.2.2.2 p hp
        refine h40 _ _ _ ((c8_segments h1.1.1 hx (by omega) w2 w3 hn1).use ⟨fun q => n_absurd q (by simp (disch := omega) only [n_lit0, n_lit1, n_lit2, n_lit3, n_lit4, n_lit5, n_lit6, n_lit7, n_lit8, n_lit9, n_lit10, n_lit11, n_lit12, n_lit13, n_lit14, n_lit15, n_lit16, n_lit17, n_lit18, n_lit19, n_lit20, n_lit21, n_lit22, n_lit23, n_lit24, n_lit30, n_lit31, n_lit32, n_lit45, n_lit48, n_lit49, n_lit57, n_lit59, n_lit60, n_lit67, n_lit76, n_lit77, n_lit90, n_lit96, n_lit97, n_lit98, n_lit99, n_lit100, n_lit119, n_lit120, n_lit127, n_lit128, n_lit196, n_lit200, n_lit208, n_lit294, n_lit340, n_lit341, n_lit392, n_lit490, n_lit491, n_lit500, n_lit588, n_lit589, n_lit999, n_lit1178, n_lit5301, n_lit5890, n_lit46656, n_add, n_mul, n_sub, n_lt_t, n_lt_f, n_le_t, n_le_f, n_eq_t, n_eq_f, n_clamp, n_in_t, ax_sm_s, true_and, and_true, not_true_eq_false, not_false_eq_true, true_imp, false_imp, imp_true, and_self, ax_wI_2, ax_rI_2, ax_wI_t, ax_wI_n, ax_rI_t, ax_rI_n, n_up_t, n_up_n, ne_eq, or_true, true_or, false_or, or_false, some_ex, n_none1, n_none2, ite_true, ite_false]), fun _ => (c8_controls' h1.1.1 hx (by omega) rfl (n := ((nw A).2 p).1) (by omega) h12 w2).mono ?_⟩)
        rintro C2 ⟨cc, rfl, hcc⟩
        have hM := mdl_9c (f := cc) h1
        have k9 := h1.1.1.2.2.2.2.2.2.2.2.2.1
        have hct : ∀ w, w < 4 → cc (4 * (n / 2) + w) = ct ((nw A).2 p).2.2 ((nw A).2 p).1 k w (n / 2) := fun w h2 => by
          rw [hcc _ w (by omega) h2]; exact ct_c w4 (by omega) (by omega)
        have inner : ∀ (c i : Nat), i + c = 4 → P60 (ex1 ((nw A).2 p).2.2 ((nw A).2 p).1 k (n / 2) (decide (n % 2 = 1)) (exS ((nw A).2 p).2.2 ((nw A).2 p).1 (n / 2) (decide (n % 2 = 1)) k) i) (nI k) (nI i) (ax_rI C1 (M + 9) cc) := by
          intro c
          induction c with
          | zero =>
            intro i hi
            have : i = 4 := by omega
            subst this
            refine h60 _ _ _ _ ⟨fun _ => ?_, fun q => n_absurd (by simp (disch := omega) only [n_lit0, n_lit1, n_lit2, n_lit3, n_lit4, n_lit5, n_lit6, n_lit7, n_lit8, n_lit9, n_lit10, n_lit11, n_lit12, n_lit13, n_lit14, n_lit15, n_lit16, n_lit17, n_lit18, n_lit19, n_lit20, n_lit21, n_lit22, n_lit23, n_lit24, n_lit30, n_lit31, n_lit32, n_lit45, n_lit48, n_lit49, n_lit57, n_lit59, n_lit60, n_lit67, n_lit76, n_lit77, n_lit90, n_lit96, n_lit97, n_lit98, n_lit99, n_lit100, n_lit119, n_lit120, n_lit127, n_lit128, n_lit196, n_lit200, n_lit208, n_lit294, n_lit340, n_lit341, n_lit392, n_lit490, n_lit491, n_lit500, n_lit588, n_lit589, n_lit999, n_lit1178, n_lit5301, n_lit5890, n_lit46656, n_add, n_mul, n_sub, n_lt_t, n_lt_f, n_le_t, n_le_f, n_eq_t, n_eq_f, n_clamp, n_in_t, ax_sm_s, true_and, and_true, not_true_eq_false, not_false_eq_true, true_imp, false_imp, imp_true, and_self, ax_wI_2, ax_rI_2, ax_wI_t, ax_wI_n, ax_rI_t, ax_rI_n, n_up_t, n_up_n, ne_eq, or_true, true_or, false_or, or_false, some_ex, n_none1, n_none2, ite_true, ite_false]) q⟩
            rw [n_succ]
            exact ih (k + 1) _ hM (by omega)
          | succ c ih2 =>
            intro i hi
            have nx := ih2 (i + 1) (by omega)
            unfold ex1 at nx
            refine h60 _ _ _ _ ⟨fun q => n_absurd q (by simp (disch := omega) only [n_lit0, n_lit1, n_lit2, n_lit3, n_lit4, n_lit5, n_lit6, n_lit7, n_lit8, n_lit9, n_lit10, n_lit11, n_lit12, n_lit13, n_lit14, n_lit15, n_lit16, n_lit17, n_lit18, n_lit19, n_lit20, n_lit21, n_lit22, n_lit23, n_lit24, n_lit30, n_lit31, n_lit32, n_lit45, n_lit48, n_lit49, n_lit57, n_lit59, n_lit60, n_lit67, n_lit76, n_lit77, n_lit90, n_lit96, n_lit97, n_lit98, n_lit99, n_lit100, n_lit119, n_lit120, n_lit127, n_lit128, n_lit196, n_lit200, n_lit208, n_lit294, n_lit340, n_lit341, n_lit392, n_lit490, n_lit491, n_lit500, n_lit588, n_lit589, n_lit999, n_lit1178, n_lit5301, n_lit5890, n_lit46656, n_add, n_mul, n_sub, n_lt_t, n_lt_f, n_le_t, n_le_f, n_eq_t, n_eq_f, n_clamp, n_in_t, ax_sm_s, true_and, and_true, not_true_eq_false, not_false_eq_true, true_imp, false_imp, imp_true, and_self, ax_wI_2, ax_rI_2, ax_wI_t, ax_wI_n, ax_rI_t, ax_rI_n, n_up_t, n_up_n, ne_eq, or_true, true_or, false_or, or_false, some_ex, n_none1, n_none2, ite_true, ite_false]), fun _ => ⟨hK.1, by decide, ?_⟩⟩
            show ax_sm (C1.2.2 M 13) _
            rw [k9.2.2, n_lit4, n_mul, n_add]
            refine ⟨k9.1, mc_in h1.1.1 (by omega), by decide, ?_⟩
            rw [n_clamp (by omega), ax_rI_t rfl, hct i (by omega)]
            generalize ex1 ((nw A).2 p).2.2 ((nw A).2 p).1 k (n / 2) (decide (n % 2 = 1)) (exS ((nw A).2 p).2.2 ((nw A).2 p).1 (n / 2) (decide (n % 2 = 1)) k) i = best at *
            generalize ct ((nw A).2 p).2.2 ((nw A).2 p).1 k i (n / 2) = z at *
            unfold mm at nx
            rcases (show n % 2 = 0 ∨ n % 2 = 1 by omega) with w | w
            · rw [w] at nx ⊢
              rw [if_neg (by decide)] at nx
              refine ⟨fun q => absurd rfl q, fun _ => ⟨fun q => h114 _ _ _ _ ?_, fun q => h114 _ _ _ _ ?_⟩⟩
              · rw [if_neg (Int32.not_lt.mpr q)] at nx
                rw [n_succ]; exact nx
              · rw [if_pos (Int32.not_le.mp q)] at nx
                rw [n_succ]; exact nx
            · rw [w] at nx ⊢
              rw [if_pos (by decide)] at nx
              refine ⟨fun _ => ⟨fun q => h114 _ _ _ _ ?_, fun q => h114 _ _ _ _ ?_⟩, fun q => absurd q (by decide)⟩
              · rw [if_neg (Int32.not_lt.mpr q)] at nx
                rw [n_succ]; exact nx
              · rw [if_pos (Int32.not_le.mp q)] at nx
                rw [n_succ]; exact nx
        exact inner 4 0 rfl
    exact loop (sg ((nw A).2 p).1 ((nw A).2 p).2.1) 0 C h (by omega)
  · simp only [Q_box, qP, hi]
    exact ⟨fun q => absurd trivial q, fun _ => ⟨rfl, h⟩⟩
end
