/-! ===== new objects ===== -/
def gS (S S' : ax_S) (t : Nat) : Prop := ∀ b, b < t → S'.1 b = S.1 b ∧ S'.2.1 b = S.2.1 b
def gC (C C' : ax_C) (t : Nat) : Prop := ∀ b, b < t → C'.1 b = C.1 b ∧ C'.2.2 b = C.2.2 b
theorem gS_t {S S' S'' : ax_S} {t : Nat} (h : gS S S' t) (h2 : gS S' S'' t) : gS S S'' t := fun b hb => ⟨(h2 b hb).1.trans (h b hb).1, (h2 b hb).2.trans (h b hb).2⟩
theorem gC_t {C C' C'' : ax_C} {t : Nat} (h : gC C C' t) (h2 : gC C' C'' t) : gC C C'' t := fun b hb => ⟨(h2 b hb).1.trans (h b hb).1, (h2 b hb).2.trans (h b hb).2⟩
theorem gS_m {S S' : ax_S} {t u : Nat} (h : gS S S' t) (hu : u ≤ t) : gS S S' u := fun b hb => h b (by omega)
theorem gC_m {C C' : ax_C} {t u : Nat} (h : gC C C' t) (hu : u ≤ t) : gC C C' u := fun b hb => h b (by omega)
theorem gS_n {S : ax_S} {k n m t : Nat} (h : t ≤ S.2.2.1) : gS S (ax_nS S k n m) t := fun b hb => ⟨n_up_n (by omega), n_up_n (by omega)⟩
theorem gC_n {C : ax_C} {t u : Nat} (h : t ≤ u) : gC C (ax_nC C u) t := fun b hb => ⟨n_up_n (by omega), n_up_n (by omega)⟩
theorem gC_w {C : ax_C} {t u k : Nat} {x : Option Nat} (h : t ≤ u) : gC C (ax_wR C u k x) t := fun b hb => ⟨rfl, n_up_n (by omega)⟩
theorem nS_1 (S : ax_S) (k n m : Nat) : (ax_nS S k n m).1 S.2.2.1 = k := n_up_t rfl
theorem nS_2 (S : ax_S) (k n m : Nat) : (ax_nS S k n m).2.1 S.2.2.1 = n := n_up_t rfl
theorem nC_1 (C : ax_C) (a : Nat) : (ax_nC C a).1 a = fun _ => 0 := n_up_t rfl
theorem wR_t (C : ax_C) (a k : Nat) (x : Option Nat) : (ax_wR C a k x).2.2 a k = x := by
  show va_up C.2.2 a (va_up (C.2.2 a) k x) a k = x
  rw [n_up_t rfl, n_up_t rfl]
theorem wR_k {C : ax_C} {a k j : Nat} {x : Option Nat} (h : j ≠ k) : (ax_wR C a k x).2.2 a j = C.2.2 a j := by
  show va_up C.2.2 a (va_up (C.2.2 a) k x) a j = _
  rw [n_up_t rfl, n_up_n h]
theorem wR_n {C : ax_C} {a b k : Nat} {x : Option Nat} (h : b ≠ a) : (ax_wR C a k x).2.2 b = C.2.2 b := n_up_n h
theorem nC_n {C : ax_C} {a b : Nat} (h : b ≠ a) : (ax_nC C a).2.2 b = C.2.2 b ∧ (ax_nC C a).1 b = C.1 b := ⟨n_up_n h, n_up_n h⟩
theorem pA_g {S S' : ax_S} {C C' : ax_C} {i : Nat} (h : pA S C i) (hs : ∀ b, i ≤ b → b < i + 2 → S'.1 b = S.1 b ∧ S'.2.1 b = S.2.1 b) (hc : C'.2.2 i = C.2.2 i) : pA S' C' i := by
  obtain ⟨h1, h2, h3, h4⟩ := h
  exact ⟨by rw [(hs i (by omega) (by omega)).1]; exact h1, by rw [(hs (i + 1) (by omega) (by omega)).1]; exact h2, by rw [(hs (i + 1) (by omega) (by omega)).2]; exact h3, by rw [hc]; exact h4⟩
theorem ps_g {S S' : ax_S} {C C' : ax_C} {p : Nat} {σ : Nat → Nat} (h : ps S C p σ) (hs : ∀ b, p ≤ b → b < p + 14 → S'.1 b = S.1 b ∧ S'.2.1 b = S.2.1 b) (hc : ∀ b, p ≤ b → b < p + 14 → C'.2.2 b = C.2.2 b) : ps S' C' p σ := by
  obtain ⟨h1, h2, h3, h4, h5, h6, h7⟩ := h
  refine ⟨by rw [(hs p (by omega) (by omega)).1]; exact h1, by rw [(hs (p + 1) (by omega) (by omega)).1]; exact h2, by rw [(hs (p + 1) (by omega) (by omega)).2]; exact h3, by rw [hc p (by omega) (by omega)]; exact h4, fun k hk => ⟨(h5 k hk).1, by rw [hc (p + 1) (by omega) (by omega)]; exact (h5 k hk).2⟩, h6, fun j hj => ?_⟩
  exact pA_g (h7 j hj) (fun b b1 b2 => hs b (by omega) (by omega)) (hc _ (by omega) (by omega))
section
variable {l : Launch} {D : ax_D} {S : ax_S} {C : ax_C}
theorem i_path {i : Nat} {P : ax_S → ax_C → Prop} (h : S.1 i = 4) (ht : S.2.2.1 = i + 1) (hP : ∀ S' C', S'.2.2.1 = i + 2 → S'.2.2.2 = S.2.2.2 + 96 → gS S S' (i + 1) → gC C C' i → C'.1 i = C.1 i → pA S' C' i → P S' C') : ax_CA l D mt_X3_init [ax_r (some i)] S C P := by
  have e96 : (96 : Int32).toNatClampNeg = 96 := by decide
  refine vc_X3_init h ?_
  rw [e96]
  refine ⟨by decide, by omega, Nat.le_refl _, Nat.le_refl _, ?_, rfl, rfl, ?_⟩
  · rw [((gS_n (t := i + 1) (by omega)) i (by omega)).1]; exact h
  have g := gS_n (S := S) (k := 11) (n := 96) (m := 96) (t := i + 1) (by omega)
  refine hP _ _ (by show S.2.2.1 + 1 = _; omega) rfl g ?_ ?_ ⟨?_, ?_, ?_, ?_⟩
  · exact gC_t (gC_n (by omega)) (gC_w (Nat.le_refl _))
  · show (ax_nC C S.2.2.1).1 i = _
    exact (nC_n (by omega)).2
  · rw [(g i (by omega)).1]; exact h
  · rw [← ht]; exact nS_1 _ _ _ _
  · rw [← ht]; exact nS_2 _ _ _ _
  · rw [← ht]; exact wR_t _ _ _ _
theorem i_pic {p : Nat} {P : ax_S → ax_C → Prop} (h : S.1 p = 5) (ht : S.2.2.1 = p + 1) (hP : ∀ S' C', S'.2.2.1 = p + 14 → S'.2.2.2 = S.2.2.2 + 600 → gS S S' (p + 1) → gC C C' p → C'.1 p = C.1 p → ps S' C' p (fun j => j) → P S' C') : ax_CA l D mt_X4_init [ax_r (some p)] S C P := by
  have e6 : (6 : Int32).toNatClampNeg = 6 := by decide
  refine vc_X4_init h fun P15 h15 => ?_
  rw [e6]
  have g0 := gS_n (S := S) (k := 14) (n := 6) (m := 6) (t := p + 1) (by omega)
  refine ⟨by decide, by omega, by omega, by omega, by rw [(g0 p (by omega)).1]; exact h, ?_⟩
  have loop : ∀ (m k : Nat) (S1 : ax_S) (C1 : ax_C), k + m = 6 → S1.2.2.1 = p + 2 + 2 * k → S1.2.2.2 = S.2.2.2 + 6 + 99 * k → gS S S1 (p + 1) → gC C C1 p → C1.1 p = C.1 p → S1.1 (p + 1) = 14 → S1.2.1 (p + 1) = 6 → C1.2.2 p 0 = some (p + 1) → (∀ j, j < k → C1.2.2 (p + 1) j = some (p + 2 + 2 * j) ∧ pA S1 C1 (p + 2 + 2 * j)) → P15 (nI k) S1 C1 := by
    intro m
    induction m with
    | zero =>
      intro k S1 C1 hk a1 a2 a3 a4 a5 a6 a7 a8 a9
      have : k = 6 := by omega
      subst this
      refine h15 _ _ _ ⟨fun _ => ⟨by omega, by omega, hP S1 C1 (by omega) (by omega) a3 a4 a5 ⟨?_, a6, a7, a8, fun k hk => ⟨hk, (a9 k hk).1⟩, fun j k _ _ e => e, fun j hj => (a9 j hj).2⟩⟩, fun q => n_absurd (by simp (disch := omega) only [n_lit0, n_lit1, n_lit2, n_lit3, n_lit4, n_lit5, n_lit6, n_lit7, n_lit8, n_lit9, n_lit10, n_lit11, n_lit12, n_lit13, n_lit14, n_lit15, n_lit16, n_lit17, n_lit18, n_lit19, n_lit20, n_lit21, n_lit22, n_lit23, n_lit24, n_lit30, n_lit31, n_lit32, n_lit45, n_lit48, n_lit49, n_lit57, n_lit59, n_lit60, n_lit67, n_lit76, n_lit77, n_lit90, n_lit96, n_lit97, n_lit98, n_lit99, n_lit100, n_lit119, n_lit120, n_lit127, n_lit128, n_lit196, n_lit200, n_lit208, n_lit294, n_lit340, n_lit341, n_lit392, n_lit490, n_lit491, n_lit500, n_lit588, n_lit589, n_lit999, n_lit1178, n_lit5301, n_lit5890, n_lit46656, n_add, n_mul, n_sub, n_lt_t, n_lt_f, n_le_t, n_le_f, n_eq_t, n_eq_f, n_clamp, n_in_t, ax_sm_s, true_and, and_true, not_true_eq_false, not_false_eq_true, true_imp, false_imp, imp_true, and_self, ax_wI_2, ax_rI_2, ax_wI_t, ax_wI_n, ax_rI_t, ax_rI_n, n_up_t, n_up_n, ne_eq, or_true, true_or, false_or, or_false, some_ex, n_none1, n_none2, ite_true, ite_false]) q⟩
      rw [(a3 p (by omega)).1]; exact h
    | succ m ih =>
      intro k S1 C1 hk a1 a2 a3 a4 a5 a6 a7 a8 a9
      refine h15 _ _ _ ⟨fun q => n_absurd q (by simp (disch := omega) only [n_lit0, n_lit1, n_lit2, n_lit3, n_lit4, n_lit5, n_lit6, n_lit7, n_lit8, n_lit9, n_lit10, n_lit11, n_lit12, n_lit13, n_lit14, n_lit15, n_lit16, n_lit17, n_lit18, n_lit19, n_lit20, n_lit21, n_lit22, n_lit23, n_lit24, n_lit30, n_lit31, n_lit32, n_lit45, n_lit48, n_lit49, n_lit57, n_lit59, n_lit60, n_lit67, n_lit76, n_lit77, n_lit90, n_lit96, n_lit97, n_lit98, n_lit99, n_lit100, n_lit119, n_lit120, n_lit127, n_lit128, n_lit196, n_lit200, n_lit208, n_lit294, n_lit340, n_lit341, n_lit392, n_lit490, n_lit491, n_lit500, n_lit588, n_lit589, n_lit999, n_lit1178, n_lit5301, n_lit5890, n_lit46656, n_add, n_mul, n_sub, n_lt_t, n_lt_f, n_le_t, n_le_f, n_eq_t, n_eq_f, n_clamp, n_in_t, ax_sm_s, true_and, and_true, not_true_eq_false, not_false_eq_true, true_imp, false_imp, imp_true, and_self, ax_wI_2, ax_rI_2, ax_wI_t, ax_wI_n, ax_rI_t, ax_rI_n, n_up_t, n_up_n, ne_eq, or_true, true_or, false_or, or_false, some_ex, n_none1, n_none2, ite_true, ite_false]), fun _ => ⟨by rw [(a3 p (by omega)).1]; exact h, by omega, by omega, by show S1.2.2.1 + 1 + 1 ≤ _; omega, by show S1.2.2.2 + 3 + 96 ≤ _; omega, ?_⟩⟩
      have g1 := gS_n (S := S1) (k := 4) (n := 0) (m := 3) (t := p + 2 + 2 * k) (by omega)
      refine i_path (by rw [nS_1]) (by rfl) fun S3 C3 b1 b2 b3 b4 b5 b6 => ?_
      rw [a8]
      have g2 : gS S1 S3 (p + 2 + 2 * k) := gS_t g1 (gS_m b3 (by omega))
      have c2 : gC C1 C3 (p + 2 + 2 * k) := gC_t (gC_n (by omega)) (gC_m b4 (by omega))
      refine ⟨by rw [(g2 _ (by omega)).1]; exact a6, by rw [(b3 _ (by omega)).1, nS_1], by rw [(g2 _ (by omega)).2, a7]; exact vp_in_nI (by omega) (by omega), ?_⟩
      rw [n_clamp (by omega), n_succ]
      have b2' : S3.2.2.2 = S1.2.2.2 + 3 + 96 := b2
      refine ih (k + 1) _ _ (by omega) (by omega) (by omega) (gS_t a3 (gS_m g2 (by omega))) (gC_t a4 (gC_t (gC_m c2 (by omega)) (gC_w (by omega)))) ?_ ?_ ?_ ?_ fun j hj => ?_
      · show C3.1 p = _
        rw [(c2 p (by omega)).1]; exact a5
      · rw [(g2 _ (by omega)).1]; exact a6
      · rw [(g2 _ (by omega)).2]; exact a7
      · rw [wR_n (by omega), (c2 p (by omega)).2]; exact a8
      · by_cases z : j = k
        · subst z
          refine ⟨by rw [wR_t, a1], ?_⟩
          rw [a1] at b6
          exact pA_2 b6 (wR_n (by omega))
        · obtain ⟨x1, x2⟩ := a9 j (by omega)
          refine ⟨by rw [wR_k z, (c2 _ (by omega)).2]; exact x1, pA_g x2 (fun b y1 y2 => g2 b (by omega)) ?_⟩
          rw [wR_n (by omega), (c2 _ (by omega)).2]
  have c0 : ∀ b, b ≠ S.2.2.1 → b ≠ p → (ax_wR (ax_nC C S.2.2.1) p 0 (some S.2.2.1)).1 b = C.1 b := fun b b1 _ => (nC_n b1).2
  refine loop 6 0 _ _ rfl (by show S.2.2.1 + 1 = _; omega) rfl g0 (gC_t (gC_n (by omega)) (gC_w (Nat.le_refl _))) ?_ ?_ ?_ ?_ fun j hj => absurd hj (Nat.not_lt_zero j)
  · exact (nC_n (by omega)).2
  · rw [← ht]; exact nS_1 _ _ _ _
  · rw [← ht]; exact nS_2 _ _ _ _
  · rw [← ht]; exact wR_t _ _ _ _
theorem i_his {h : Nat} {P : ax_S → ax_C → Prop} (h2 : S.1 h = 2) (ht : S.2.2.1 = h + 1) (hP : ∀ S' C', S'.2.2.1 = h + 170 → S'.2.2.2 = S.2.2.2 + 7235 → gS S S' (h + 1) → gC C C' h → C'.1 h = C.1 h → S'.1 (h + 1) = 15 → S'.2.1 (h + 1) = 11 → C'.2.2 h 0 = some (h + 1) → C'.2.2 h 1 = some (h + 2) → (∀ k, k < 11 → C'.2.2 (h + 1) k = some (h + 2 + 14 * (k + 1))) → (∀ k, k < 12 → ps S' C' (h + 2 + 14 * k) (fun j => j) ∧ C'.1 (h + 2 + 14 * k) 1 = 0) → P S' C') : ax_CA l D mt_X1_init [ax_r (some h)] S C P := by
  have e11 : (11 : Int32).toNatClampNeg = 11 := by decide
  refine vc_X1_init h2 fun P26 h26 => ?_
  rw [e11]
  generalize hS1 : ax_nS S 15 11 11 = S1
  have t1 : S1.2.2.1 = h + 2 := by rw [← hS1]; show S.2.2.1 + 1 = _; omega
  have sl1 : S1.2.2.2 = S.2.2.2 + 11 := by rw [← hS1]; rfl
  have g1 : gS S S1 (h + 1) := by rw [← hS1]; exact gS_n (by omega)
  have k1 : S1.1 (h + 1) = 15 ∧ S1.2.1 (h + 1) = 11 := by rw [← hS1, ← ht]; exact ⟨nS_1 _ _ _ _, nS_2 _ _ _ _⟩
  refine ⟨by decide, by omega, by omega, by omega, by rw [(g1 h (by omega)).1]; exact h2, by omega, by omega, by show S1.2.2.1 + 1 + 13 ≤ _; omega, by show S1.2.2.2 + 2 + 600 ≤ _; omega, ?_⟩
  generalize hC1 : ax_wR (ax_nC C S.2.2.1) h 0 (some S.2.2.1) = C1
  have c1 : gC C C1 h := by rw [← hC1]; exact gC_t (gC_n (by omega)) (gC_w (Nat.le_refl _))
  have c1h : C1.1 h = C.1 h ∧ C1.2.2 h 0 = some (h + 1) := by
    rw [← hC1]
    exact ⟨(nC_n (by omega)).2, by rw [wR_t, ht]⟩
  refine i_pic (by rw [nS_1]) rfl fun S2 C2 b1 b2 b3 b4 b5 b6 => ?_
  have b2 : S2.2.2.2 = S1.2.2.2 + 2 + 600 := b2
  rw [t1] at b1 b3 b4 b5 b6 ⊢
  have g2 : gS S1 S2 (h + 2) := gS_t (gS_n (by omega)) (gS_m b3 (by omega))
  have c2 : gC C1 C2 (h + 2) := gC_t (gC_n (by omega)) b4
  refine ⟨by rw [(g2 h (by omega)).1, (g1 h (by omega)).1]; exact h2, ?_⟩
  have loop : ∀ (m k : Nat) (S3 : ax_S) (C3 : ax_C), k + m = 11 → S3.2.2.1 = h + 16 + 14 * k → S3.2.2.2 = S.2.2.2 + 613 + 602 * k → gS S S3 (h + 1) → gC C C3 h → C3.1 h = C.1 h → S3.1 (h + 1) = 15 → S3.2.1 (h + 1) = 11 → C3.2.2 h 0 = some (h + 1) → C3.2.2 h 1 = some (h + 2) → (∀ j, j < k → C3.2.2 (h + 1) j = some (h + 2 + 14 * (j + 1))) → (∀ j, j < k + 1 → ps S3 C3 (h + 2 + 14 * j) (fun j => j) ∧ C3.1 (h + 2 + 14 * j) 1 = 0) → P26 (nI k) S3 C3 := by
    intro m
    induction m with
    | zero =>
      intro k S3 C3 hk a1 a2 a3 a4 a5 a6 a7 a8 a9 a10 a11
      have : k = 11 := by omega
      subst this
      exact h26 _ _ _ ⟨fun _ => ⟨by omega, by omega, hP S3 C3 (by omega) (by omega) a3 a4 a5 a6 a7 a8 a9 a10 a11⟩, fun q => n_absurd (by simp (disch := omega) only [n_lit0, n_lit1, n_lit2, n_lit3, n_lit4, n_lit5, n_lit6, n_lit7, n_lit8, n_lit9, n_lit10, n_lit11, n_lit12, n_lit13, n_lit14, n_lit15, n_lit16, n_lit17, n_lit18, n_lit19, n_lit20, n_lit21, n_lit22, n_lit23, n_lit24, n_lit30, n_lit31, n_lit32, n_lit45, n_lit48, n_lit49, n_lit57, n_lit59, n_lit60, n_lit67, n_lit76, n_lit77, n_lit90, n_lit96, n_lit97, n_lit98, n_lit99, n_lit100, n_lit119, n_lit120, n_lit127, n_lit128, n_lit196, n_lit200, n_lit208, n_lit294, n_lit340, n_lit341, n_lit392, n_lit490, n_lit491, n_lit500, n_lit588, n_lit589, n_lit999, n_lit1178, n_lit5301, n_lit5890, n_lit46656, n_add, n_mul, n_sub, n_lt_t, n_lt_f, n_le_t, n_le_f, n_eq_t, n_eq_f, n_clamp, n_in_t, ax_sm_s, true_and, and_true, not_true_eq_false, not_false_eq_true, true_imp, false_imp, imp_true, and_self, ax_wI_2, ax_rI_2, ax_wI_t, ax_wI_n, ax_rI_t, ax_rI_n, n_up_t, n_up_n, ne_eq, or_true, true_or, false_or, or_false, some_ex, n_none1, n_none2, ite_true, ite_false]) q⟩
    | succ m ih =>
      intro k S3 C3 hk a1 a2 a3 a4 a5 a6 a7 a8 a9 a10 a11
      refine h26 _ _ _ ⟨fun q => n_absurd q (by simp (disch := omega) only [n_lit0, n_lit1, n_lit2, n_lit3, n_lit4, n_lit5, n_lit6, n_lit7, n_lit8, n_lit9, n_lit10, n_lit11, n_lit12, n_lit13, n_lit14, n_lit15, n_lit16, n_lit17, n_lit18, n_lit19, n_lit20, n_lit21, n_lit22, n_lit23, n_lit24, n_lit30, n_lit31, n_lit32, n_lit45, n_lit48, n_lit49, n_lit57, n_lit59, n_lit60, n_lit67, n_lit76, n_lit77, n_lit90, n_lit96, n_lit97, n_lit98, n_lit99, n_lit100, n_lit119, n_lit120, n_lit127, n_lit128, n_lit196, n_lit200, n_lit208, n_lit294, n_lit340, n_lit341, n_lit392, n_lit490, n_lit491, n_lit500, n_lit588, n_lit589, n_lit999, n_lit1178, n_lit5301, n_lit5890, n_lit46656, n_add, n_mul, n_sub, n_lt_t, n_lt_f, n_le_t, n_le_f, n_eq_t, n_eq_f, n_clamp, n_in_t, ax_sm_s, true_and, and_true, not_true_eq_false, not_false_eq_true, true_imp, false_imp, imp_true, and_self, ax_wI_2, ax_rI_2, ax_wI_t, ax_wI_n, ax_rI_t, ax_rI_n, n_up_t, n_up_n, ne_eq, or_true, true_or, false_or, or_false, some_ex, n_none1, n_none2, ite_true, ite_false]), fun _ => ⟨by rw [(a3 h (by omega)).1]; exact h2, by omega, by omega, by show S3.2.2.1 + 1 + 13 ≤ _; omega, by show S3.2.2.2 + 2 + 600 ≤ _; omega, ?_⟩⟩
      refine i_pic (by rw [nS_1]) rfl fun S4 C4 d1 d2 d3 d4 d5 d6 => ?_
      have d2 : S4.2.2.2 = S3.2.2.2 + 2 + 600 := d2
      have d5k : C4.1 (h + 2 + 14 * (k + 1)) = fun _ => 0 := by
        rw [a1] at d5
        rw [show h + 2 + 14 * (k + 1) = h + 16 + 14 * k by omega, d5]
        exact nC_1 _ _
      rw [a8]
      have g3 : gS S3 S4 (h + 16 + 14 * k) := gS_t (gS_n (by omega)) (gS_m d3 (by omega))
      have c3 : gC C3 C4 (h + 16 + 14 * k) := gC_t (gC_n (by omega)) (gC_m d4 (by omega))
      refine ⟨by rw [(g3 _ (by omega)).1]; exact a6, by rw [(d3 _ (by omega)).1, nS_1], by rw [(g3 _ (by omega)).2, a7]; exact vp_in_nI (by omega) (by omega), ?_⟩
      rw [n_clamp (by omega), n_succ]
      refine ih (k + 1) _ _ (by omega) (by omega) (by rw [d2, a2]; omega) (gS_t a3 (gS_m g3 (by omega))) (gC_t a4 (gC_t (gC_m c3 (by omega)) (gC_w (by omega)))) ?_ ?_ ?_ ?_ ?_ (fun j hj => ?_) fun j hj => ?_
      · show C4.1 h = _
        rw [(c3 h (by omega)).1]; exact a5
      · rw [(g3 _ (by omega)).1]; exact a6
      · rw [(g3 _ (by omega)).2]; exact a7
      · rw [wR_n (by omega), (c3 h (by omega)).2]; exact a8
      · rw [wR_n (by omega), (c3 h (by omega)).2]; exact a9
      · by_cases z : j = k
        · subst z
          rw [wR_t, a1]
          exact congrArg some (by omega)
        · rw [wR_k z, (c3 _ (by omega)).2]; exact a10 j (by omega)
      · by_cases z : j = k + 1
        · subst z
          refine ⟨?_, ?_⟩
          · rw [a1] at d6
            rw [show h + 2 + 14 * (k + 1) = h + 16 + 14 * k by omega]
            exact ps_fr d6 fun b y1 y2 => wR_n (by omega)
          · show C4.1 _ 1 = 0
            rw [d5k]
        · obtain ⟨x1, x2⟩ := a11 j (by omega)
          refine ⟨ps_g x1 (fun b y1 y2 => g3 b (by omega)) fun b y1 y2 => ?_, ?_⟩
          · rw [wR_n (by omega), (c3 _ (by omega)).2]
          · show C4.1 _ 1 = 0
            rw [(c3 _ (by omega)).1]; exact x2
  refine loop 11 0 _ _ rfl (by omega) (by omega) (gS_t g1 (gS_m g2 (by omega))) (gC_t c1 (gC_t (gC_m c2 (by omega)) (gC_w (Nat.le_refl _)))) ?_ ?_ ?_ ?_ ?_ (fun j hj => absurd hj (Nat.not_lt_zero j)) fun j hj => ?_
  · show C2.1 h = _
    rw [(c2 h (by omega)).1]; exact c1h.1
  · rw [(g2 _ (by omega)).1]; exact k1.1
  · rw [(g2 _ (by omega)).2]; exact k1.2
  · rw [wR_k (by omega), (c2 h (by omega)).2]; exact c1h.2
  · rw [wR_t]
  · have : j = 0 := by omega
    subst this
    refine ⟨ps_fr b6 fun b y1 y2 => wR_n (by omega), ?_⟩
    show C2.1 (h + 2) 1 = 0
    rw [b5]
    rw [nC_1]
theorem i_text {x : Nat} {P : ax_S → ax_C → Prop} (h7 : S.1 x = 7) (ht : S.2.2.1 = x + 1) (hP : ∀ S' C', S'.2.2.1 = x + 4 → S'.2.2.2 = S.2.2.2 + 219 → gS S S' (x + 1) → gC C C' x → C'.1 x = C.1 x → S'.1 (x + 1) = 13 → S'.2.1 (x + 1) = 120 → C'.2.2 x 0 = some (x + 1) → C'.2.2 x 4 = some (x + 2) → pA S' C' (x + 2) → P S' C') : ax_CA l D mt_X6_init [ax_r (some x)] S C P := by
  have e120 : (120 : Int32).toNatClampNeg = 120 := by decide
  refine vc_X6_init h7 ?_
  rw [e120]
  generalize hS1 : ax_nS S 13 120 120 = S1
  have t1 : S1.2.2.1 = x + 2 := by rw [← hS1]; show S.2.2.1 + 1 = _; omega
  have sl1 : S1.2.2.2 = S.2.2.2 + 120 := by rw [← hS1]; rfl
  have g1 : gS S S1 (x + 1) := by rw [← hS1]; exact gS_n (by omega)
  have k1 : S1.1 (x + 1) = 13 ∧ S1.2.1 (x + 1) = 120 := by rw [← hS1, ← ht]; exact ⟨nS_1 _ _ _ _, nS_2 _ _ _ _⟩
  refine ⟨by decide, by omega, by omega, by omega, by rw [(g1 x (by omega)).1]; exact h7, by omega, by omega, by show S1.2.2.1 + 1 + 1 ≤ _; omega, by show S1.2.2.2 + 3 + 96 ≤ _; omega, ?_⟩
  generalize hC1 : ax_wR (ax_nC C S.2.2.1) x 0 (some S.2.2.1) = C1
  have c1 : gC C C1 x := by rw [← hC1]; exact gC_t (gC_n (by omega)) (gC_w (Nat.le_refl _))
  have c1h : C1.1 x = C.1 x ∧ C1.2.2 x 0 = some (x + 1) := by
    rw [← hC1]
    exact ⟨(nC_n (by omega)).2, by rw [wR_t, ht]⟩
  refine i_path (by rw [nS_1]) rfl fun S2 C2 b1 b2 b3 b4 b5 b6 => ?_
  have b2 : S2.2.2.2 = S1.2.2.2 + 3 + 96 := b2
  rw [t1] at b1 b3 b4 b5 b6 ⊢
  have g2 : gS S1 S2 (x + 2) := gS_t (gS_n (by omega)) (gS_m b3 (by omega))
  have c2 : gC C1 C2 (x + 2) := gC_t (gC_n (by omega)) b4
  refine ⟨by rw [(g2 x (by omega)).1, (g1 x (by omega)).1]; exact h7, by omega, by omega, hP _ _ (by omega) (by omega) (gS_t g1 (gS_m g2 (by omega))) (gC_t c1 (gC_t (gC_m c2 (by omega)) (gC_w (Nat.le_refl _)))) ?_ ?_ ?_ ?_ ?_ ?_⟩
  · show C2.1 x = _
    rw [(c2 x (by omega)).1]; exact c1h.1
  · rw [(g2 _ (by omega)).1]; exact k1.1
  · rw [(g2 _ (by omega)).2]; exact k1.2
  · rw [wR_k (by omega), (c2 x (by omega)).2]; exact c1h.2
  · rw [wR_t]
  · exact pA_2 b6 (wR_n (by omega))
theorem i_sheet {x : Nat} {P : ax_S → ax_C → Prop} (h6 : S.1 x = 6) (ht : S.2.2.1 = x + 1) (hP : ∀ S' C', S'.2.2.1 = x + 2 → S'.2.2.2 = S.2.2.2 + 341 → gS S S' (x + 1) → gC C C' x → C'.1 x = C.1 x → S'.1 (x + 1) = 13 → S'.2.1 (x + 1) = 341 → C'.2.2 x 0 = some (x + 1) → P S' C') : ax_CA l D mt_X5_init [ax_r (some x)] S C P := by
  have e341 : (341 : Int32).toNatClampNeg = 341 := by decide
  refine vc_X5_init h6 ?_
  rw [e341]
  have g1 := gS_n (S := S) (k := 13) (n := 341) (m := 341) (t := x + 1) (by omega)
  refine ⟨by decide, by omega, by omega, by omega, by rw [(g1 x (by omega)).1]; exact h6, rfl, rfl, hP _ _ (by show S.2.2.1 + 1 = _; omega) rfl g1 (gC_t (gC_n (by omega)) (gC_w (Nat.le_refl _))) ?_ ?_ ?_ ?_⟩
  · exact (nC_n (by omega)).2
  · rw [← ht]; exact nS_1 _ _ _ _
  · rw [← ht]; exact nS_2 _ _ _ _
  · rw [← ht]; exact wR_t _ _ _ _
end
