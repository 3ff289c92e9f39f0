/-! ===== the reference's state; a change begins, is made, fails ===== -/
def blk (w : Nat → Int32) (j : Nat) : Nat → Int32 := fun q => w (589 * j + q)
def mO (S : ax_S) (E C : ax_C) (M : Nat) (A : ab_A) : Prop := mK S C M ∧ (C.1 M 3 = nI A.2.1 ∧ C.1 M 5 = nI A.2.2.1 ∧ A.2.1 + A.2.2.1 ≤ 10) ∧ (∀ j, j < A.2.1 → vR (blk (C.1 (M + 3)) j) (A.1 j)) ∧ (∀ j, j < A.2.2.1 → vR (blk (C.1 (M + 4)) j) (A.1 (A.2.1 + A.2.2.1 - j))) ∧ (∀ s, s < 2 → C.1 (M + 6) s = bI (A.2.2.2.2.1 s) ∧ (A.2.2.2.2.1 s = true → vR (blk (C.1 (M + 5)) s) (A.2.2.2.1 s))) ∧ (C.1 M 9 = nI A.2.2.2.2.2.2.1 ∧ ∀ q, q < A.2.2.2.2.2.2.1 → C.1 (M + 7) q = A.2.2.2.2.2.1 q) ∧ (C.1 M 11 = nI A.2.2.2.2.2.2.2.2 ∧ ∀ q, q < A.2.2.2.2.2.2.2.2 → C.1 (M + 8) q = A.2.2.2.2.2.2.2.1 q) ∧ (A.2.2.2.2.2.2.1 ≤ 120 ∧ A.2.2.2.2.2.2.2.2 ≤ 341) ∧ ∀ b, b < M → C.1 b = E.1 b ∧ C.2.2 b = E.2.2 b
def mdl (S : ax_S) (E C : ax_C) (M : Nat) (A : ab_A) : Prop := mO S E C M A ∧ vR (C.1 (M + 1)) (nw A)
theorem mO_fr {S : ax_S} {E C C' : ax_C} {M : Nat} {A : ab_A} (h : mO S E C M A) (f1 : ∀ b, b ≠ M → b ≠ M + 1 → b ≠ M + 2 → b ≠ M + 9 → b ≠ M + 10 → b ≠ M + 11 → b ≠ M + 12 → C'.1 b = C.1 b) (f2 : C'.2.2 = C.2.2) (f3 : ∀ k, (k = 3 ∨ k = 5 ∨ k = 9 ∨ k = 11) → C'.1 M k = C.1 M k) : mO S E C' M A := by
  obtain ⟨z1, z2, z3, z4, z5, z6, z7, z8, z9⟩ := h
  have g : ∀ k, 3 ≤ k → k ≤ 8 → C'.1 (M + k) = C.1 (M + k) := fun k h1 h2 => f1 _ (by omega) (by omega) (by omega) (by omega) (by omega) (by omega) (by omega)
  refine ⟨?_, ?_, ?_, ?_, ?_, ?_, ?_, z8, ?_⟩
  · unfold mK
    rw [f2]; exact z1
  · rw [f3 3 (by omega), f3 5 (by omega)]; exact z2
  · rw [g 3 (by omega) (by omega)]; exact z3
  · rw [g 4 (by omega) (by omega)]; exact z4
  · rw [g 5 (by omega) (by omega), g 6 (by omega) (by omega)]; exact z5
  · rw [f3 9 (by omega), g 7 (by omega) (by omega)]; exact z6
  · rw [f3 11 (by omega), g 8 (by omega) (by omega)]; exact z7
  · intro b hb
    rw [f1 b (by omega) (by omega) (by omega) (by omega) (by omega) (by omega) (by omega), f2]
    exact z9 b hb
section
variable {l : Launch} {D : ax_D} {S : ax_S} {E C : ax_C} {M : Nat} {A : ab_A}
theorem c8_begins (h : mK S C M) : ax_CV l D mt_X8_begins [ax_r (some M)] S C (fun C' => ∃ f, C' = ax_rI C (M + 2) f ∧ ∀ j, j < 589 → f j = C.1 (M + 1) j) := by
  refine vc_X8_begins h.1 ⟨h.1, h.1, ?_⟩
  rw [h.2.1.2.2, h.2.2.1.2.2]
  refine (c8_copies (i1 := 0) (i2 := 0) h.1 h.2.1.1 h.2.2.1.1 (by omega) rfl rfl (by rw [h.2.1.2.1]; omega) (by rw [h.2.2.1.2.1]; omega) (by rw [h.2.1.2.1]; omega) (by rw [h.2.2.1.2.1]; omega)).use ?_
  refine ⟨_, rfl, fun j hj => ?_⟩
  rw [if_pos (by omega)]
  exact congrArg _ (by omega)
theorem c8_pushes {b a : Nat} {W : Nat → ab_V} (h : mK S C M) (ha : C.1 M 3 = nI a) (ha2 : a ≤ 10) (hb : S.1 b = 11) (hb2 : S.2.1 b = 589) (hbM : b ≠ M) (hb3 : b ≠ M + 3) (hp : ∀ j, j < a → vR (blk (C.1 (M + 3)) j) (W j)) (hv : vR (C.1 b) (W a)) : ax_CV l D mt_X8_pushes [ax_r (some M), ax_r (some b)] S C (fun C' => C'.2 = C.2 ∧ (∀ c, c ≠ M → c ≠ M + 3 → C'.1 c = C.1 c) ∧ (∀ k, k ≠ 3 → C'.1 M k = C.1 M k) ∧ C'.1 M 3 = nI (if a < 10 then a + 1 else 10) ∧ ∀ j, j < (if a < 10 then a + 1 else 10) → vR (blk (C'.1 (M + 3)) j) (W (if a < 10 then j else j + 1))) := by
  refine vc_X8_pushes h.1 fun P11 P46 h11 h46 => ⟨h.1, ?_⟩
  have h3 := h.2.2.2.1
  have mid : ∀ (C1 : ax_C) (a1 : Nat), a1 < 10 → C1.2 = C.2 → (∀ c, c ≠ M → c ≠ M + 3 → C1.1 c = C.1 c) → (∀ k, k ≠ 3 → C1.1 M k = C.1 M k) → C1.1 M 3 = nI a1 → (if a < 10 then a + 1 else 10) = a1 + 1 → (∀ j, j < a1 → vR (blk (C1.1 (M + 3)) j) (W (if a < 10 then j else j + 1))) → W (if a < 10 then a1 else a1 + 1) = W a → P46 C1 := by
    intro C1 a1 ha1 e2 e1 e3 e4 e5 e6 e7
    refine h46 _ ⟨h.1, h.1, ?_⟩
    rw [e2, h3.2.2, e4]
    refine (c8_copies (C := C1) (i1 := 0) (i2 := 589 * a1) h.1 hb h3.1 hb3 rfl (by simp (disch := omega) only [n_lit0, n_lit1, n_lit2, n_lit3, n_lit4, n_lit5, n_lit6, n_lit7, n_lit8, n_lit9, n_lit10, n_lit11, n_lit12, n_lit13, n_lit14, n_lit15, n_lit16, n_lit17, n_lit18, n_lit19, n_lit20, n_lit21, n_lit22, n_lit23, n_lit24, n_lit30, n_lit31, n_lit32, n_lit45, n_lit48, n_lit49, n_lit57, n_lit59, n_lit60, n_lit67, n_lit76, n_lit77, n_lit90, n_lit96, n_lit97, n_lit98, n_lit99, n_lit100, n_lit119, n_lit120, n_lit127, n_lit128, n_lit196, n_lit200, n_lit208, n_lit294, n_lit340, n_lit341, n_lit392, n_lit490, n_lit491, n_lit500, n_lit588, n_lit589, n_lit999, n_lit1178, n_lit5301, n_lit5890, n_lit46656, n_add, n_mul, n_sub, n_lt_t, n_lt_f, n_le_t, n_le_f, n_eq_t, n_eq_f, n_clamp, n_in_t, ax_sm_s, true_and, and_true, not_true_eq_false, not_false_eq_true, true_imp, false_imp, imp_true, and_self, ax_wI_2, ax_rI_2, ax_wI_t, ax_wI_n, ax_rI_t, ax_rI_n, n_up_t, n_up_n, ne_eq, or_true, true_or, false_or, or_false, some_ex, n_none1, n_none2, ite_true, ite_false]) (by rw [hb2]; omega) (by rw [h3.2.1]; omega) (by rw [hb2]; omega) (by rw [h3.2.1]; omega)).use ⟨h.1, h.1, ?_⟩
    refine ⟨e2, fun c hc1 hc2 => ?_, fun k hk => ?_, ?_, ?_⟩
    · rw [ax_wI_n hc1, ax_rI_n hc2]; exact e1 c hc1 hc2
    · rw [ax_wI_t rfl, n_up_n hk, ax_rI_n (by omega)]; exact e3 k hk
    · rw [ax_wI_t rfl, n_up_t rfl, ax_rI_n (by omega), e4, n_succ, e5]
    · rw [e5]
      intro j hj
      rw [ax_wI_n (by omega), ax_rI_t rfl]
      by_cases z : j = a1
      · subst z
        rw [e7]
        refine vR_fr hv fun q hq => ?_
        unfold blk
        dsimp only
        rw [if_pos (by omega), e1 b hbM hb3]
        exact congrArg _ (by omega)
      · refine vR_fr (e6 j (by omega)) fun q hq => ?_
        unfold blk
        dsimp only
        rw [if_neg (by omega)]
  rw [ha]
  refine ⟨fun q => ?_, fun q => ?_⟩
  · have hlt : a < 10 := by
      rcases Nat.lt_or_ge a 10 with w | w
      · exact w
      · exact absurd (by rw [show a = 10 by omega]; rfl) q
    refine mid C a hlt rfl (fun _ _ _ => rfl) (fun _ _ => rfl) ha (by rw [if_pos hlt]) (fun j hj => ?_) (by rw [if_pos hlt])
    rw [if_pos hlt]; exact hp j hj
  · have h10 : a = 10 := (nI_eq (b := 10) (by omega) (by omega)).mp q
    subst h10
    have loop : ∀ (m k : Nat) (g : Nat → Int32), k + m = 5301 → (∀ j, g j = if j < k then C.1 (M + 3) (j + 589) else C.1 (M + 3) j) → P11 (nI k) (ax_rI C (M + 3) g) := by
      intro m
      induction m with
      | zero =>
        intro k g hk hg
        have : k = 5301 := by omega
        subst this
        refine h11 _ _ ⟨fun _ => ⟨h.1, ?_⟩, fun q => n_absurd (by simp (disch := omega) only [n_lit0, n_lit1, n_lit2, n_lit3, n_lit4, n_lit5, n_lit6, n_lit7, n_lit8, n_lit9, n_lit10, n_lit11, n_lit12, n_lit13, n_lit14, n_lit15, n_lit16, n_lit17, n_lit18, n_lit19, n_lit20, n_lit21, n_lit22, n_lit23, n_lit24, n_lit30, n_lit31, n_lit32, n_lit45, n_lit48, n_lit49, n_lit57, n_lit59, n_lit60, n_lit67, n_lit76, n_lit77, n_lit90, n_lit96, n_lit97, n_lit98, n_lit99, n_lit100, n_lit119, n_lit120, n_lit127, n_lit128, n_lit196, n_lit200, n_lit208, n_lit294, n_lit340, n_lit341, n_lit392, n_lit490, n_lit491, n_lit500, n_lit588, n_lit589, n_lit999, n_lit1178, n_lit5301, n_lit5890, n_lit46656, n_add, n_mul, n_sub, n_lt_t, n_lt_f, n_le_t, n_le_f, n_eq_t, n_eq_f, n_clamp, n_in_t, ax_sm_s, true_and, and_true, not_true_eq_false, not_false_eq_true, true_imp, false_imp, imp_true, and_self, ax_wI_2, ax_rI_2, ax_wI_t, ax_wI_n, ax_rI_t, ax_rI_n, n_up_t, n_up_n, ne_eq, or_true, true_or, false_or, or_false, some_ex, n_none1, n_none2, ite_true, ite_false]) q⟩
        refine mid _ 9 (by omega) rfl (fun c hc1 hc2 => ?_) (fun k hk => ?_) ?_ (by simp) (fun j hj => ?_) (by simp)
        · rw [ax_wI_n hc1, ax_rI_n hc2]
        · rw [ax_wI_t rfl, n_up_n hk, ax_rI_n (by omega)]
        · rw [ax_wI_t rfl, n_up_t rfl]; rfl
        · rw [ax_wI_n (by omega), ax_rI_t rfl, if_neg (by omega)]
          refine vR_fr (hp (j + 1) (by omega)) fun q hq => ?_
          unfold blk
          rw [hg, if_pos (by omega)]
          exact congrArg _ (by omega)
      | succ m ih =>
        intro k g hk hg
        refine h11 _ _ ⟨fun q => n_absurd q (by simp (disch := omega) only [n_lit0, n_lit1, n_lit2, n_lit3, n_lit4, n_lit5, n_lit6, n_lit7, n_lit8, n_lit9, n_lit10, n_lit11, n_lit12, n_lit13, n_lit14, n_lit15, n_lit16, n_lit17, n_lit18, n_lit19, n_lit20, n_lit21, n_lit22, n_lit23, n_lit24, n_lit30, n_lit31, n_lit32, n_lit45, n_lit48, n_lit49, n_lit57, n_lit59, n_lit60, n_lit67, n_lit76, n_lit77, n_lit90, n_lit96, n_lit97, n_lit98, n_lit99, n_lit100, n_lit119, n_lit120, n_lit127, n_lit128, n_lit196, n_lit200, n_lit208, n_lit294, n_lit340, n_lit341, n_lit392, n_lit490, n_lit491, n_lit500, n_lit588, n_lit589, n_lit999, n_lit1178, n_lit5301, n_lit5890, n_lit46656, n_add, n_mul, n_sub, n_lt_t, n_lt_f, n_le_t, n_le_f, n_eq_t, n_eq_f, n_clamp, n_in_t, ax_sm_s, true_and, and_true, not_true_eq_false, not_false_eq_true, true_imp, false_imp, imp_true, and_self, ax_wI_2, ax_rI_2, ax_wI_t, ax_wI_n, ax_rI_t, ax_rI_n, n_up_t, n_up_n, ne_eq, or_true, true_or, false_or, or_false, some_ex, n_none1, n_none2, ite_true, ite_false]), fun _ => ⟨h.1, h.1, ?_⟩⟩
        show ax_sm (C.2.2 M 2) _
        rw [h3.2.2]
        refine ⟨h3.1, by rw [h3.2.1, n_lit589, n_add]; exact vp_in_nI (by omega) (by omega), ?_⟩
        show ax_sm (C.2.2 M 2) _
        rw [h3.2.2]
        refine ⟨h3.1, by rw [h3.2.1]; exact vp_in_nI (by omega) (by omega), ?_⟩
        rw [n_succ, n_lit589, n_add, n_clamp (by omega), n_clamp (by omega), ax_wI_rI, ax_rI_rI, ax_rI_t rfl]
        refine ih (k + 1) _ (by omega) fun j => ?_
        by_cases z : j = k
        · rw [n_up_t z, if_pos (by omega), hg, if_neg (by omega), z]
        · rw [n_up_n z, hg]
          by_cases z2 : j < k
          · rw [if_pos z2, if_pos (by omega)]
          · rw [if_neg z2, if_neg (by omega)]
    have := loop 5301 0 (C.1 (M + 3)) rfl (fun j => by rw [if_neg (by omega)])
    rw [ax_rI_id] at this
    exact this
theorem s8_made {x : Int32} {V : ab_V} {P : Int32 → ax_C → Prop} (h : mO S E C M A) (hs : vR (C.1 (M + 2)) (nw A)) (hv : vR (C.1 (M + 1)) V) (hp : ∀ C2, mdl S E C2 M (updA A (some V)) → P x C2) : ax_CI l D mt_X8_made [ax_r (some M), ax_i x] S C P := by
  obtain ⟨z1, z2, z3, z4, z5, z6, z7, z8, z9⟩ := h
  refine vc_X8_made z1.1 ⟨z1.1, ?_⟩
  rw [z1.2.2.1.2.2]
  refine (c8_pushes z1 z2.1 (by omega) z1.2.2.1.1 z1.2.2.1.2.1 (by omega) (by omega) z3 hs).mono ?_
  rintro C1 ⟨e2, e1, e3, e4, e5⟩
  refine ⟨z1.1, hp _ ⟨⟨?_, ⟨?_, ?_, ?_⟩, ?_, ?_, ?_, ?_, ?_, z8, ?_⟩, ?_⟩⟩
  · show mK S C1 M
    unfold mK
    rw [e2]; exact z1
  · rw [ax_wI_t rfl, n_up_n (by omega)]; exact e4
  · rw [ax_wI_t rfl, n_up_t rfl]; rfl
  · show (if A.2.1 < 10 then A.2.1 + 1 else 10) + 0 ≤ 10
    split <;> omega
  · intro j hj
    have hj : j < (if A.2.1 < 10 then A.2.1 + 1 else 10) := hj
    rw [ax_wI_n (by omega)]
    have := e5 j hj
    show vR _ (psW A.1 A.2.1 V j)
    unfold psW
    by_cases w : A.2.1 < 10
    · rw [if_pos w] at this hj ⊢
      rw [n_up_n (by omega)]; exact this
    · rw [if_neg w] at this hj ⊢
      rw [if_pos hj]; exact this
  · intro j hj
    have hj : j < 0 := hj
    omega
  · rw [ax_wI_n (by omega), ax_wI_n (by omega), e1 _ (by omega) (by omega), e1 _ (by omega) (by omega)]
    exact z5
  · rw [ax_wI_t rfl, n_up_n (by omega), e3 _ (by omega), ax_wI_n (by omega), e1 _ (by omega) (by omega)]
    exact z6
  · rw [ax_wI_t rfl, n_up_n (by omega), e3 _ (by omega), ax_wI_n (by omega), e1 _ (by omega) (by omega)]
    exact z7
  · intro b hb
    rw [ax_wI_n (by omega), e1 b (by omega) (by omega)]
    show C.1 b = _ ∧ C1.2.2 b = _
    rw [e2]
    exact z9 b hb
  · rw [ax_wI_n (by omega), e1 _ (by omega) (by omega)]
    have : nw (updA A (some V)) = V := by
      show psW A.1 A.2.1 V (if A.2.1 < 10 then A.2.1 + 1 else 10) = V
      unfold psW
      by_cases w : A.2.1 < 10
      · rw [if_pos w, if_pos w, n_up_t rfl]
      · rw [if_neg w, if_neg w, if_neg (by omega)]
    rw [this]
    exact hv
theorem s8_failed {x : Int32} {P : Int32 → ax_C → Prop} (h : mO S E C M A) (hs : vR (C.1 (M + 2)) (nw A)) (hp : ∀ C2, mdl S E C2 M A → P x C2) : ax_CI l D mt_X8_failed [ax_r (some M), ax_i x] S C P := by
  have z1 := h.1
  refine vc_X8_failed z1.1 ⟨z1.1, z1.1, ?_⟩
  rw [z1.2.1.2.2, z1.2.2.1.2.2]
  refine (c8_copies (i1 := 0) (i2 := 0) z1.1 z1.2.2.1.1 z1.2.1.1 (by omega) rfl rfl (by rw [z1.2.2.1.2.1]; omega) (by rw [z1.2.1.2.1]; omega) (by rw [z1.2.2.1.2.1]; omega) (by rw [z1.2.1.2.1]; omega)).use ?_
  refine hp _ ⟨mO_fr h (fun b b1 b2 b3 _ _ _ _ => ax_rI_n b2) rfl fun k _ => by rw [ax_rI_n (by omega)], ?_⟩
  rw [ax_rI_t rfl]
  refine vR_fr hs fun j hj => ?_
  rw [if_pos (by omega)]
  exact congrArg _ (by omega)
/-- a change has begun -/
def mC (S : ax_S) (E C : ax_C) (M : Nat) (A : ab_A) : Prop := mO S E C M A ∧ vR (C.1 (M + 2)) (nw A)
theorem s8_begins {P : ax_C → Prop} (h : mdl S E C M A) (hp : ∀ C1, mC S E C1 M A → C1.1 (M + 1) = C.1 (M + 1) → (∀ b, b ≠ M + 2 → C1.1 b = C.1 b) → P C1) : ax_CV l D mt_X8_begins [ax_r (some M)] S C P := by
  refine (c8_begins h.1.1).mono ?_
  rintro C1 ⟨f, rfl, hf⟩
  refine hp _ ⟨mO_fr h.1 (fun b b1 b2 b3 _ _ _ _ => ax_rI_n b3) rfl fun k _ => by rw [ax_rI_n (by omega)], ?_⟩ (ax_rI_n (by omega)) fun b hb => ax_rI_n hb
  rw [ax_rI_t rfl]
  exact vR_fr h.2 hf
theorem mC_fr {C' : ax_C} (h : mC S E C M A) (f1 : ∀ b, b ≠ M → b ≠ M + 1 → b ≠ M + 9 → b ≠ M + 10 → b ≠ M + 11 → b ≠ M + 12 → C'.1 b = C.1 b) (f2 : C'.2.2 = C.2.2) (f3 : ∀ k, (k = 3 ∨ k = 5 ∨ k = 9 ∨ k = 11) → C'.1 M k = C.1 M k) : mC S E C' M A := by
  refine ⟨mO_fr h.1 (fun b b1 b2 b3 b4 b5 b6 b7 => f1 b b1 b2 b4 b5 b6 b7) f2 f3, ?_⟩
  rw [f1 _ (by omega) (by omega) (by omega) (by omega) (by omega) (by omega)]
  exact h.2
theorem mC_W {v : Nat → Int32} {t : Int32} (h : mC S E C M A) : mC S E (mW C M v t) M A := mC_fr h (fun b b1 b2 _ _ _ _ => mW_n b1 b2) rfl fun k hk => mW_f (by omega)
/-- the end: made, or failed in trouble -/
theorem s8_end {x t : Int32} {v : Nat → Int32} {V : ab_V} {P : Int32 → ax_C → Prop} (h : mC S E C M A) (hv : t = 0 → vR v V) (ht : t = 0 ∨ t < 0) (hp : ∀ C2, mdl S E C2 M (updA A (tr t x V).2) → P (tr t x V).1 C2) : (t < 0 → ax_CI l D mt_X8_failed [ax_r (some M), ax_i t] S (mW C M v t) P) ∧ (¬ t < 0 → ax_CI l D mt_X8_made [ax_r (some M), ax_i x] S (mW C M v t) P) := by
  have hC := mC_W (v := v) (t := t) h
  unfold tr at hp
  refine ⟨fun w => ?_, fun w => ?_⟩
  · have : t ≠ 0 := fun z => by rw [z] at w; exact absurd w (by decide)
    rw [if_neg this] at hp
    exact s8_failed hC.1 hC.2 hp
  · have : t = 0 := by rcases ht with z | z; exact z; exact absurd z w
    rw [if_pos this] at hp
    exact s8_made hC.1 hC.2 (by rw [mW_v]; exact hv this) hp
theorem chk_s (t : Int32) (x y : Int64) (h : t = 0 ∨ t < 0) : chk t x y = 0 ∨ chk t x y < 0 := by
  unfold chk
  by_cases h1 : qe x y
  · rw [if_pos h1]
    by_cases h2 : qg x y ∧ t = 0
    · rw [if_pos h2]; exact Or.inr (by decide)
    · rw [if_neg h2]; exact h
  · rw [if_neg h1]; exact Or.inr (by decide)
end
