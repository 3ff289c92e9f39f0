/-! ===== Limits, Path: what the small methods do ===== -/
def bI (b : Bool) : Int32 := if b = true then 1 else 0
theorem bI_t : bI true = 1 := rfl
theorem bI_f : bI false = 0 := rfl
theorem bI_01 (b : Bool) : bI b = 0 ∨ bI b = 1 := by cases b <;> simp [bI]
theorem bI_0 (b : Bool) : (bI b = 0) = (b = false) := by cases b <;> simp [bI]
theorem one_ne : ((1 : Int32) = 0) = False := by decide
theorem nI_one_ne : (nI 1 = nI 0) = False := by decide
def nd (row : Nat → Int32) (n : Nat) (g : Nat → Int32) : Nat → Int32 := fun j => if 8 * n ≤ j ∧ j < 8 * n + 8 then g (j - 8 * n) else row j
/-- a quotient that must be whole and not too great -/
def qe (x y : Int64) : Prop := x - x / y * y = 0
def qg (x y : Int64) : Prop := 9331200 < x / y ∨ x / y < -9331200
section
variable {l : Launch} {D : ax_D} {S : ax_S} {C : ax_C}
/-- a Path and its row -/
def pA (S : ax_S) (C : ax_C) (i : Nat) : Prop := S.1 i = 4 ∧ S.1 (i + 1) = 11 ∧ S.2.1 (i + 1) = 96 ∧ C.2.2 i 0 = some (i + 1)
theorem c_get {i k f : Nat} {x y : Int32} (hP : pA S C i) (hx : x = nI k) (hk : k < 12) (hy : y = nI f) (hf : f < 8) : ax_CI l D mt_X3_get [ax_r (some i), ax_i x, ax_i y] S C (fun r C' => r = C.1 (i + 1) (8 * k + f) ∧ C' = C) := by
  subst hx hy
  obtain ⟨h1, h2, h3, h4⟩ := hP
  refine vc_X3_get h1 ?_
  simp (disch := omega) only [n_lit0, n_lit1, n_lit2, n_lit3, n_lit4, n_lit5, n_lit6, n_lit7, n_lit8, n_lit9, n_lit10, n_lit11, n_lit12, n_lit13, n_lit14, n_lit15, n_lit16, n_lit17, n_lit18, n_lit19, n_lit20, n_lit21, n_lit22, n_lit23, n_lit24, n_lit30, n_lit31, n_lit32, n_lit45, n_lit48, n_lit49, n_lit57, n_lit59, n_lit60, n_lit67, n_lit76, n_lit77, n_lit90, n_lit96, n_lit97, n_lit98, n_lit99, n_lit100, n_lit119, n_lit120, n_lit127, n_lit128, n_lit196, n_lit200, n_lit208, n_lit294, n_lit340, n_lit341, n_lit392, n_lit490, n_lit491, n_lit500, n_lit588, n_lit589, n_lit999, n_lit1178, n_lit5301, n_lit5890, n_lit46656, n_add, n_mul, n_sub, n_lt_t, n_lt_f, n_le_t, n_le_f, n_eq_t, n_eq_f, n_clamp, n_in_t, ax_sm_s, true_and, and_true, not_true_eq_false, not_false_eq_true, true_imp, false_imp, imp_true, and_self, ax_wI_2, ax_rI_2, ax_wI_t, ax_wI_n, ax_rI_t, ax_rI_n, n_up_t, n_up_n, ne_eq, or_true, true_or, false_or, or_false, some_ex, n_none1, n_none2, ite_true, ite_false, h1, h2, h3, h4]
  rw [Nat.mul_comm]
theorem c_put {i k f : Nat} {x y z : Int32} (hP : pA S C i) (hx : x = nI k) (hk : k < 12) (hy : y = nI f) (hf : f < 8) : ax_CV l D mt_X3_put [ax_r (some i), ax_i x, ax_i y, ax_i z] S C (fun C' => C' = ax_rI C (i + 1) (va_up (C.1 (i + 1)) (8 * k + f) z)) := by
  subst hx hy
  obtain ⟨h1, h2, h3, h4⟩ := hP
  refine vc_X3_put h1 ?_
  simp (disch := omega) only [n_lit0, n_lit1, n_lit2, n_lit3, n_lit4, n_lit5, n_lit6, n_lit7, n_lit8, n_lit9, n_lit10, n_lit11, n_lit12, n_lit13, n_lit14, n_lit15, n_lit16, n_lit17, n_lit18, n_lit19, n_lit20, n_lit21, n_lit22, n_lit23, n_lit24, n_lit30, n_lit31, n_lit32, n_lit45, n_lit48, n_lit49, n_lit57, n_lit59, n_lit60, n_lit67, n_lit76, n_lit77, n_lit90, n_lit96, n_lit97, n_lit98, n_lit99, n_lit100, n_lit119, n_lit120, n_lit127, n_lit128, n_lit196, n_lit200, n_lit208, n_lit294, n_lit340, n_lit341, n_lit392, n_lit490, n_lit491, n_lit500, n_lit588, n_lit589, n_lit999, n_lit1178, n_lit5301, n_lit5890, n_lit46656, n_add, n_mul, n_sub, n_lt_t, n_lt_f, n_le_t, n_le_f, n_eq_t, n_eq_f, n_clamp, n_in_t, ax_sm_s, true_and, and_true, not_true_eq_false, not_false_eq_true, true_imp, false_imp, imp_true, and_self, ax_wI_2, ax_rI_2, ax_wI_t, ax_wI_n, ax_rI_t, ax_rI_n, n_up_t, n_up_n, ne_eq, or_true, true_or, false_or, or_false, some_ex, n_none1, n_none2, ite_true, ite_false, h1, h2, h3, h4]
  rw [Nat.mul_comm]
  rfl
theorem c_hasNode {i n : Nat} {x : Int32} (hP : pA S C i) (hs : C.1 i 1 = nI n) (hn : n < 2 ^ 31) : ax_CI l D mt_X3_hasNode [ax_r (some i), ax_i x] S C (fun r C' => C' = C ∧ ((r = 1 ∧ ∃ k, k < n ∧ x = nI k) ∨ (r = 0 ∧ ¬ ∃ k, k < n ∧ x = nI k))) := by
  refine vc_X3_hasNode hP.1 ?_
  rw [hs]
  refine ⟨fun h => ⟨rfl, Or.inr ⟨rfl, ?_⟩⟩, fun h => ⟨hP.1, fun h0 => ⟨rfl, Or.inr ⟨rfl, ?_⟩⟩, fun h0 => ⟨rfl, Or.inl ⟨rfl, n_ix hn h (by rw [← n_nle]; exact h0)⟩⟩⟩⟩
  · rintro ⟨k, hk, rfl⟩
    exact nI_pos (by omega) h
  · rintro ⟨k, hk, rfl⟩
    exact nI_ge hk hn h0
/-- the number of segments -/
def sg (n : Nat) (b : Bool) : Nat := if b = true then n else n - 1
theorem c_segmentCount {i n : Nat} {b : Bool} (hP : pA S C i) (hs : C.1 i 1 = nI n) (hb : C.1 i 2 = bI b) (hn : 1 ≤ n) : ax_CI l D mt_X3_segmentCount [ax_r (some i)] S C (fun r C' => r = nI (sg n b) ∧ C' = C) := by
  refine vc_X3_segmentCount hP.1 ?_
  rw [hs, hb]
  cases b
  · exact ⟨hP.1, fun _ => ⟨hP.1, by rw [n_lit1, n_sub hn]; exact ⟨rfl, rfl⟩⟩, fun h => absurd rfl h⟩
  · exact ⟨hP.1, fun h => absurd h (by decide), fun _ => ⟨hP.1, rfl, rfl⟩⟩
theorem c_hasSegment {i n : Nat} {b : Bool} {x : Int32} (hP : pA S C i) (hs : C.1 i 1 = nI n) (hb : C.1 i 2 = bI b) (hn : 1 ≤ n) (hn2 : n < 2 ^ 31) : ax_CI l D mt_X3_hasSegment [ax_r (some i), ax_i x] S C (fun r C' => C' = C ∧ ((r = 1 ∧ ∃ k, k < sg n b ∧ x = nI k) ∨ (r = 0 ∧ ¬ ∃ k, k < sg n b ∧ x = nI k))) := by
  have hg : sg n b < 2 ^ 31 := by unfold sg; split <;> omega
  refine vc_X3_hasSegment hP.1 ⟨fun h => ⟨rfl, Or.inr ⟨rfl, ?_⟩⟩, fun h => (c_segmentCount hP hs hb hn).use ⟨fun h0 => ⟨rfl, Or.inr ⟨rfl, ?_⟩⟩, fun h0 => ⟨rfl, Or.inl ⟨rfl, n_ix hg h (by rw [← n_nle]; exact h0)⟩⟩⟩⟩
  · rintro ⟨k, hk, rfl⟩
    exact nI_pos (by omega) h
  · rintro ⟨k, hk, rfl⟩
    exact nI_ge hk hg h0
/-- a node with a segment on both sides -/
def ar (n : Nat) (b : Bool) (k : Nat) : Bool := b || (decide (0 < k) && decide (k + 1 < n))
theorem c_hasSegmentsAround {i n k : Nat} {b : Bool} {x : Int32} (hP : pA S C i) (hs : C.1 i 1 = nI n) (hb : C.1 i 2 = bI b) (hn2 : n < 2 ^ 31) (hx : x = nI k) (hk : k < n) : ax_CI l D mt_X3_hasSegmentsAround [ax_r (some i), ax_i x] S C (fun r C' => r = bI (ar n b k) ∧ C' = C) := by
  subst hx
  refine vc_X3_hasSegmentsAround hP.1 fun P21 h21 => ?_
  rw [hs, hb]
  cases b
  · refine ⟨hP.1, fun h => absurd rfl h, fun _ => ⟨fun h => ?_, fun h => ⟨hP.1, fun h0 => ?_, fun h0 => h21 _ ?_⟩⟩⟩
    · have h2 : ¬ 0 < k := fun q => nI_nle q (by omega) h
      simp [ar, bI, h2]
    · have h2 : ¬ k + 1 < n := by
        intro q
        rw [n_lit1, n_sub (by omega)] at h0
        exact nI_ge (by omega) (by omega) h0
      simp [ar, bI, h2]
    · have h1 : 0 < k := by
        rcases Nat.eq_zero_or_pos k with q | q
        · subst q; exact absurd (by decide) h
        · exact q
      have h2 : k + 1 < n := by
        rcases Nat.lt_or_ge (k + 1) n with q | q
        · exact q
        · rw [n_lit1, n_sub (by omega)] at h0
          exact absurd (nI_le (by omega) (by omega)) h0
      simp [ar, bI, h1, h2]
  · exact ⟨hP.1, fun _ => h21 _ ⟨rfl, rfl⟩, fun h => absurd h (by decide)⟩
def eo (n k : Nat) : Nat := if k + 1 < n then k + 1 else 0
theorem c_endOf {i n k : Nat} {x : Int32} (hP : pA S C i) (hs : C.1 i 1 = nI n) (hn2 : n ≤ 12) (hx : x = nI k) (hk : k < 12) : ax_CI l D mt_X3_endOf [ax_r (some i), ax_i x] S C (fun r C' => r = nI (eo n k) ∧ C' = C) := by
  subst hx
  refine vc_X3_endOf hP.1 ?_
  rw [hs]
  unfold eo
  by_cases h : k + 1 < n
  · simp (disch := omega) only [n_lit0, n_lit1, n_lit2, n_lit3, n_lit4, n_lit5, n_lit6, n_lit7, n_lit8, n_lit9, n_lit10, n_lit11, n_lit12, n_lit13, n_lit14, n_lit15, n_lit16, n_lit17, n_lit18, n_lit19, n_lit20, n_lit21, n_lit22, n_lit23, n_lit24, n_lit30, n_lit31, n_lit32, n_lit45, n_lit48, n_lit49, n_lit57, n_lit59, n_lit60, n_lit67, n_lit76, n_lit77, n_lit90, n_lit96, n_lit97, n_lit98, n_lit99, n_lit100, n_lit119, n_lit120, n_lit127, n_lit128, n_lit196, n_lit200, n_lit208, n_lit294, n_lit340, n_lit341, n_lit392, n_lit490, n_lit491, n_lit500, n_lit588, n_lit589, n_lit999, n_lit1178, n_lit5301, n_lit5890, n_lit46656, n_add, n_mul, n_sub, n_lt_t, n_lt_f, n_le_t, n_le_f, n_eq_t, n_eq_f, n_clamp, n_in_t, ax_sm_s, true_and, and_true, not_true_eq_false, not_false_eq_true, true_imp, false_imp, imp_true, and_self, ax_wI_2, ax_rI_2, ax_wI_t, ax_wI_n, ax_rI_t, ax_rI_n, n_up_t, n_up_n, ne_eq, or_true, true_or, false_or, or_false, some_ex, n_none1, n_none2, ite_true, ite_false, hP.1, h]
  · simp (disch := omega) only [n_lit0, n_lit1, n_lit2, n_lit3, n_lit4, n_lit5, n_lit6, n_lit7, n_lit8, n_lit9, n_lit10, n_lit11, n_lit12, n_lit13, n_lit14, n_lit15, n_lit16, n_lit17, n_lit18, n_lit19, n_lit20, n_lit21, n_lit22, n_lit23, n_lit24, n_lit30, n_lit31, n_lit32, n_lit45, n_lit48, n_lit49, n_lit57, n_lit59, n_lit60, n_lit67, n_lit76, n_lit77, n_lit90, n_lit96, n_lit97, n_lit98, n_lit99, n_lit100, n_lit119, n_lit120, n_lit127, n_lit128, n_lit196, n_lit200, n_lit208, n_lit294, n_lit340, n_lit341, n_lit392, n_lit490, n_lit491, n_lit500, n_lit588, n_lit589, n_lit999, n_lit1178, n_lit5301, n_lit5890, n_lit46656, n_add, n_mul, n_sub, n_lt_t, n_lt_f, n_le_t, n_le_f, n_eq_t, n_eq_f, n_clamp, n_in_t, ax_sm_s, true_and, and_true, not_true_eq_false, not_false_eq_true, true_imp, false_imp, imp_true, and_self, ax_wI_2, ax_rI_2, ax_wI_t, ax_wI_n, ax_rI_t, ax_rI_n, n_up_t, n_up_n, ne_eq, or_true, true_or, false_or, or_false, some_ex, n_none1, n_none2, ite_true, ite_false, hP.1, h]
theorem c_isZero {i k f : Nat} {x y : Int32} (hP : pA S C i) (hx : x = nI k) (hk : k < 12) (hy : y = nI f) (hf : f < 7) : ax_CI l D mt_X3_isZero [ax_r (some i), ax_i x, ax_i y] S C (fun r C' => r = (if C.1 (i + 1) (8 * k + f) = 0 ∧ C.1 (i + 1) (8 * k + f + 1) = 0 then 1 else 0) ∧ C' = C) := by
  subst hx hy
  refine vc_X3_isZero hP.1 ((c_get hP rfl hk rfl (by omega)).use ⟨fun h => ?_, fun h => (c_get hP rfl hk (nI_1 f) (by omega)).use ⟨fun h2 => ?_, fun h2 => ?_⟩⟩)
  · rw [if_neg (fun q => h q.1)]; exact ⟨rfl, rfl⟩
  · rw [if_neg (fun q => h2 q.2)]; exact ⟨rfl, rfl⟩
  · rw [if_pos ⟨h, h2⟩]; exact ⟨rfl, rfl⟩
theorem c_isSmooth {i k : Nat} {x : Int32} (hP : pA S C i) (hx : x = nI k) (hk : k < 12) : ax_CI l D mt_X3_isSmooth [ax_r (some i), ax_i x] S C (fun r C' => r = (if C.1 (i + 1) (8 * k + 6) = 0 then 0 else 1) ∧ C' = C) := by
  refine vc_X3_isSmooth hP.1 ((c_get hP hx hk (f := 6) rfl (by omega)).use ⟨fun h => ?_, fun h => ?_⟩)
  · rw [if_pos h]; exact ⟨rfl, rfl⟩
  · rw [if_neg h]; exact ⟨rfl, rfl⟩
theorem c_ratioNumber {i k f : Nat} {x y : Int32} (hP : pA S C i) (hx : x = nI k) (hk : k < 12) (hy : y = nI f) (hf : f < 8) : ax_CI l D mt_X3_ratioNumber [ax_r (some i), ax_i x, ax_i y] S C (fun r C' => r = (if C.1 (i + 1) (8 * k + 6) = 0 then (-100000007) else C.1 (i + 1) (8 * k + f)) ∧ C' = C) := by
  refine vc_X3_ratioNumber hP.1 ((c_isSmooth hP hx hk).use ?_)
  by_cases h : C.1 (i + 1) (8 * k + 6) = 0
  · rw [if_pos h, if_pos h]
    exact ⟨fun _ => ⟨rfl, rfl⟩, fun q => absurd rfl q⟩
  · rw [if_neg h, if_neg h]
    exact ⟨fun q => absurd q (by decide), fun _ => (c_get hP hx hk hy hf).use ⟨rfl, rfl⟩⟩
theorem c_makeCorner {i k : Nat} {x : Int32} (hP : pA S C i) (hx : x = nI k) (hk : k < 12) : ax_CV l D mt_X3_makeCorner [ax_r (some i), ax_i x] S C (fun C' => C' = ax_rI C (i + 1) (va_up (va_up (C.1 (i + 1)) (8 * k + 6) 0) (8 * k + 7) 0)) := by
  refine vc_X3_makeCorner hP.1 ((c_put hP hx hk (f := 6) rfl (by omega)).use ((c_put (C := ax_rI _ _ _) hP hx hk (f := 7) rfl (by omega)).use ?_))
  simp (disch := omega) only [n_lit0, n_lit1, n_lit2, n_lit3, n_lit4, n_lit5, n_lit6, n_lit7, n_lit8, n_lit9, n_lit10, n_lit11, n_lit12, n_lit13, n_lit14, n_lit15, n_lit16, n_lit17, n_lit18, n_lit19, n_lit20, n_lit21, n_lit22, n_lit23, n_lit24, n_lit30, n_lit31, n_lit32, n_lit45, n_lit48, n_lit49, n_lit57, n_lit59, n_lit60, n_lit67, n_lit76, n_lit77, n_lit90, n_lit96, n_lit97, n_lit98, n_lit99, n_lit100, n_lit119, n_lit120, n_lit127, n_lit128, n_lit196, n_lit200, n_lit208, n_lit294, n_lit340, n_lit341, n_lit392, n_lit490, n_lit491, n_lit500, n_lit588, n_lit589, n_lit999, n_lit1178, n_lit5301, n_lit5890, n_lit46656, n_add, n_mul, n_sub, n_lt_t, n_lt_f, n_le_t, n_le_f, n_eq_t, n_eq_f, n_clamp, n_in_t, ax_sm_s, true_and, and_true, not_true_eq_false, not_false_eq_true, true_imp, false_imp, imp_true, and_self, ax_wI_2, ax_rI_2, ax_wI_t, ax_wI_n, ax_rI_t, ax_rI_n, n_up_t, n_up_n, ne_eq, or_true, true_or, false_or, or_false, some_ex, n_none1, n_none2, ite_true, ite_false, ax_rI_rI]
theorem gcd_loop {P : Int32 → ax_C → Prop} {P7 : Int32 → Int32 → Int32 → ax_C → Prop} (h7 : ∀ x2 : Int32, ∀ x3 : Int32, ∀ x4 : Int32, ∀ C : ax_C, (((100 : Int32) ≤ x4 → P x2 C) ∧ (¬ (100 : Int32) ≤ x4 → (x3 = 0 → P x2 C) ∧ (¬ x3 = 0 → ¬ x3 = 0 ∧ (P7 x3 (x2 - x2 / x3 * x3) (x4 + (1 : Int32)) C)))) → P7 x2 x3 x4 C) : ∀ (m a b s : Nat), a < 2 ^ 31 → b < 2 ^ 31 → b < 2 ^ m → s + 2 * m + 1 ≤ 100 → P (nI (Nat.gcd a b)) C → P7 (nI a) (nI b) (nI s) C := by
  have st : ∀ (a b s : Nat), a < 2 ^ 31 → b < 2 ^ 31 → s < 100 → (b = 0 → P (nI a) C) → (b ≠ 0 → P7 (nI b) (nI (a % b)) (nI (s + 1)) C) → P7 (nI a) (nI b) (nI s) C := by
    intro a b s ha hb hs h0 h1
    refine h7 _ _ _ _ ⟨fun q => absurd q (by simp (disch := omega) only [n_lit0, n_lit1, n_lit2, n_lit3, n_lit4, n_lit5, n_lit6, n_lit7, n_lit8, n_lit9, n_lit10, n_lit11, n_lit12, n_lit13, n_lit14, n_lit15, n_lit16, n_lit17, n_lit18, n_lit19, n_lit20, n_lit21, n_lit22, n_lit23, n_lit24, n_lit30, n_lit31, n_lit32, n_lit45, n_lit48, n_lit49, n_lit57, n_lit59, n_lit60, n_lit67, n_lit76, n_lit77, n_lit90, n_lit96, n_lit97, n_lit98, n_lit99, n_lit100, n_lit119, n_lit120, n_lit127, n_lit128, n_lit196, n_lit200, n_lit208, n_lit294, n_lit340, n_lit341, n_lit392, n_lit490, n_lit491, n_lit500, n_lit588, n_lit589, n_lit999, n_lit1178, n_lit5301, n_lit5890, n_lit46656, n_add, n_mul, n_sub, n_lt_t, n_lt_f, n_le_t, n_le_f, n_eq_t, n_eq_f, n_clamp, n_in_t, ax_sm_s, true_and, and_true, not_true_eq_false, not_false_eq_true, true_imp, false_imp, imp_true, and_self, ax_wI_2, ax_rI_2, ax_wI_t, ax_wI_n, ax_rI_t, ax_rI_n, n_up_t, n_up_n, ne_eq, or_true, true_or, false_or, or_false, some_ex, n_none1, n_none2, ite_true, ite_false]), fun _ => ⟨fun q => h0 ((nI_eq hb (by decide)).mp q), fun q => ⟨q, ?_⟩⟩⟩
    have hb0 : b ≠ 0 := fun z => q (by rw [z]; rfl)
    rw [pk_rem ha (by omega) hb, nI_1]
    exact h1 hb0
  intro m
  induction m with
  | zero =>
    intro a b s ha hb hm hs h
    have hb0 : b = 0 := by simpa using hm
    subst hb0
    exact st a 0 s ha hb (by omega) (fun _ => by simpa using h) (fun q => absurd rfl q)
  | succ m ih =>
    intro a b s ha hb hm hs h
    refine st a b s ha hb (by omega) (fun q => by subst q; simpa using h) fun q => ?_
    have l1 : a % b < b := Nat.mod_lt _ (by omega)
    refine st b (a % b) (s + 1) hb (by omega) (by omega) (fun z => ?_) fun z => ?_
    · have : Nat.gcd a b = b := by rw [Nat.gcd_comm, Nat.gcd_rec, z]; simp
      rw [this] at h
      exact h
    · have l2 : b % (a % b) < a % b := Nat.mod_lt _ (by omega)
      have l3 : 2 * (b % (a % b)) < b := by
        have e := Nat.mod_add_div b (a % b)
        have hq : 1 ≤ b / (a % b) := (Nat.one_le_div_iff (by omega)).mpr (by omega)
        have := Nat.mul_le_mul_left (a % b) hq
        omega
      refine ih (a % b) (b % (a % b)) (s + 1 + 1) (by omega) (by omega) (by rw [Nat.pow_succ] at hm; omega) (by omega) ?_
      rw [Nat.gcd_comm (a % b), ← Nat.gcd_rec, ← Nat.gcd_rec, Nat.gcd_comm]
      exact h
theorem c_greatestDivisor {a b : Nat} {x y : Int32} (hx : x = nI a) (hy : y = nI b) (ha : a < 2 ^ 31) (hb : b < 2 ^ 31) : ax_CI l D mt_X3_greatestDivisor [ax_i x, ax_i y] S C (fun r C' => r = nI (Nat.gcd a b) ∧ C' = C) := by
  subst hx hy
  refine vc_X3_greatestDivisor fun P7 h7 => ?_
  exact gcd_loop h7 31 a b 0 ha hb hb (by omega) ⟨rfl, rfl⟩
/-- the ratio in lowest terms, or a corner -/
def rt (a b : Nat) : Bool := decide (a / Nat.gcd a b ≤ 999) && decide (b / Nat.gcd a b ≤ 999)
def rw2 (row : Nat → Int32) (k a b : Nat) : Nat → Int32 := va_up (va_up row (8 * k + 6) (if rt a b then nI (a / Nat.gcd a b) else 0)) (8 * k + 7) (if rt a b then nI (b / Nat.gcd a b) else 0)
theorem c_putRatio {i k a b : Nat} {x y z : Int32} (hP : pA S C i) (hx : x = nI k) (hk : k < 12) (hy : y = nI a) (hz : z = nI b) (ha : 0 < a) (ha2 : a < 2 ^ 31) (hb2 : b < 2 ^ 31) : ax_CV l D mt_X3_putRatio [ax_r (some i), ax_i x, ax_i y, ax_i z] S C (fun C' => C' = ax_rI C (i + 1) (rw2 (C.1 (i + 1)) k a b)) := by
  subst hy hz
  have hg : 0 < Nat.gcd a b := Nat.gcd_pos_of_pos_left _ ha
  have hg2 : Nat.gcd a b < 2 ^ 31 := Nat.lt_of_le_of_lt (Nat.gcd_le_left _ ha) ha2
  have hn : ¬ nI (Nat.gcd a b) = 0 := nI_ne0 hg hg2
  have e1 : nI a / nI (Nat.gcd a b) = nI (a / Nat.gcd a b) := pk_div ha2 hg hg2
  have e2 : nI b / nI (Nat.gcd a b) = nI (b / Nat.gcd a b) := pk_div hb2 hg hg2
  have l1 : a / Nat.gcd a b ≤ a := Nat.div_le_self _ _
  have l2 : b / Nat.gcd a b ≤ b := Nat.div_le_self _ _
  have fin : ∀ P32 : ax_C → Prop, (∀ C9 : ax_C, (ax_CV l D mt_X3_makeCorner [ax_r (some i), ax_i x] S C9 (fun C5 => C5 = ax_rI C (i + 1) (rw2 (C.1 (i + 1)) k a b))) → P32 C9) → rt a b = false → P32 C := by
    intro P32 h32 hr
    refine h32 _ ((c_makeCorner hP hx hk).use ?_)
    simp [rw2, hr]
  refine vc_X3_putRatio hP.1 fun P32 h32 => (c_greatestDivisor rfl rfl ha2 hb2).use ?_
  rw [e1, e2]
  refine ⟨fun q => absurd q hn, fun _ => ⟨hn, fun q => fin P32 h32 ?_, fun q => ⟨hn, fun q2 => ⟨hn, ?_⟩, fun q2 => fin P32 h32 ?_⟩⟩⟩
  · have : ¬ a / Nat.gcd a b ≤ 999 := fun z => by
      rw [n_lit999] at q
      exact nI_nlt z (by omega) q
    simp [rt, this]
  · refine (c_put hP hx hk (f := 6) rfl (by omega)).use ⟨hn, (c_put (C := ax_rI _ _ _) hP hx hk (f := 7) rfl (by omega)).use ?_⟩
    have h1 : a / Nat.gcd a b ≤ 999 := by
      rcases Nat.lt_or_ge 999 (a / Nat.gcd a b) with z | z
      · rw [n_lit999] at q; exact absurd (nI_lt z (by omega)) q
      · exact z
    have h2 : b / Nat.gcd a b ≤ 999 := by
      rcases Nat.lt_or_ge 999 (b / Nat.gcd a b) with z | z
      · rw [n_lit999] at q2; exact absurd q2 (nI_ge z (by omega))
      · exact z
    have hr : rt a b = true := by simp [rt, h1, h2]
    simp (disch := omega) only [n_lit0, n_lit1, n_lit2, n_lit3, n_lit4, n_lit5, n_lit6, n_lit7, n_lit8, n_lit9, n_lit10, n_lit11, n_lit12, n_lit13, n_lit14, n_lit15, n_lit16, n_lit17, n_lit18, n_lit19, n_lit20, n_lit21, n_lit22, n_lit23, n_lit24, n_lit30, n_lit31, n_lit32, n_lit45, n_lit48, n_lit49, n_lit57, n_lit59, n_lit60, n_lit67, n_lit76, n_lit77, n_lit90, n_lit96, n_lit97, n_lit98, n_lit99, n_lit100, n_lit119, n_lit120, n_lit127, n_lit128, n_lit196, n_lit200, n_lit208, n_lit294, n_lit340, n_lit341, n_lit392, n_lit490, n_lit491, n_lit500, n_lit588, n_lit589, n_lit999, n_lit1178, n_lit5301, n_lit5890, n_lit46656, n_add, n_mul, n_sub, n_lt_t, n_lt_f, n_le_t, n_le_f, n_eq_t, n_eq_f, n_clamp, n_in_t, ax_sm_s, true_and, and_true, not_true_eq_false, not_false_eq_true, true_imp, false_imp, imp_true, and_self, ax_wI_2, ax_rI_2, ax_wI_t, ax_wI_n, ax_rI_t, ax_rI_n, n_up_t, n_up_n, ne_eq, or_true, true_or, false_or, or_false, some_ex, n_none1, n_none2, ite_true, ite_false, ax_rI_rI, rw2, hr, if_true]
  · have : ¬ b / Nat.gcd a b ≤ 999 := fun z => by
      rw [n_lit999] at q2
      exact q2 (nI_le z (by omega))
    simp [rt, this]
/-! Limits -/
/-- the trouble that a quotient makes -/
def chk (t : Int32) (x y : Int64) : Int32 := @ite _ (qe x y) (inferInstanceAs (Decidable (_ = _))) (@ite _ (qg x y ∧ t = 0) (@instDecidableAnd _ _ (inferInstanceAs (Decidable (_ ∨ _))) inferInstance) (-100000006) t) (-100000005)
/-- its value, if there is none -/
def qr (x y : Int64) : Int32 := (x / y).toInt32
def er (f : Nat → Int32) : Int32 := if f 0 = 0 then (if f 1 = 0 then 0 else -100000006) else -100000005
/-- the object of class Limits, and the error that it tells -/
def lA (S : ax_S) (C : ax_C) (L : Nat) (t : Int32) : Prop := S.1 L = 3 ∧ er (C.1 L) = t ∧ (C.1 L 0 = 0 ∨ C.1 L 0 = 1) ∧ (C.1 L 1 = 0 ∨ C.1 L 1 = 1)
theorem c_start {L : Nat} (h : S.1 L = 3) : ax_CV l D mt_X2_start [ax_r (some L)] S C (fun C' => ∃ g, C' = ax_rI C L g ∧ lA S C' L 0) := by
  refine vc_X2_start h ⟨Or.inl rfl, h, Or.inl rfl, h, va_up (va_up (C.1 L) 0 0) 1 0, ?_, h, ?_, ?_, ?_⟩
  · simp (disch := omega) only [n_lit0, n_lit1, n_lit2, n_lit3, n_lit4, n_lit5, n_lit6, n_lit7, n_lit8, n_lit9, n_lit10, n_lit11, n_lit12, n_lit13, n_lit14, n_lit15, n_lit16, n_lit17, n_lit18, n_lit19, n_lit20, n_lit21, n_lit22, n_lit23, n_lit24, n_lit30, n_lit31, n_lit32, n_lit45, n_lit48, n_lit49, n_lit57, n_lit59, n_lit60, n_lit67, n_lit76, n_lit77, n_lit90, n_lit96, n_lit97, n_lit98, n_lit99, n_lit100, n_lit119, n_lit120, n_lit127, n_lit128, n_lit196, n_lit200, n_lit208, n_lit294, n_lit340, n_lit341, n_lit392, n_lit490, n_lit491, n_lit500, n_lit588, n_lit589, n_lit999, n_lit1178, n_lit5301, n_lit5890, n_lit46656, n_add, n_mul, n_sub, n_lt_t, n_lt_f, n_le_t, n_le_f, n_eq_t, n_eq_f, n_clamp, n_in_t, ax_sm_s, true_and, and_true, not_true_eq_false, not_false_eq_true, true_imp, false_imp, imp_true, and_self, ax_wI_2, ax_rI_2, ax_wI_t, ax_wI_n, ax_rI_t, ax_rI_n, n_up_t, n_up_n, ne_eq, or_true, true_or, false_or, or_false, some_ex, n_none1, n_none2, ite_true, ite_false, ax_wI_rI, ax_rI_rI]
  · simp [er, ax_wI, va_up]
  · simp [ax_wI, va_up]
  · simp [ax_wI, va_up]
theorem c_error {L : Nat} {t : Int32} (h : lA S C L t) : ax_CI l D mt_X2_error [ax_r (some L)] S C (fun r C' => r = t ∧ C' = C) := by
  obtain ⟨h1, h2, h3, h4⟩ := h
  refine vc_X2_error h1 ⟨h1, fun q => ⟨h1, fun q2 => ⟨?_, rfl⟩, fun q2 => ⟨?_, rfl⟩⟩, fun q => ⟨?_, rfl⟩⟩
  · rw [← h2]; simp [er, q, q2]
  · rw [← h2]; simp [er, q, q2]
  · rw [← h2]; simp [er, q]
/-- a quotient: its value (0 in trouble), and the trouble -/
theorem c_quotient {L : Nat} {t : Int32} {x y : Int64} (h : lA S C L t) (hy : ¬ y = 0) (hm : (-4611686018427387904 : Int64) ≤ x / y) : ax_CI l D mt_X2_quotient [ax_r (some L), ax_l x, ax_l y] S C (fun r C' => (chk t x y = 0 → r = qr x y) ∧ ∃ g, C' = ax_rI C L g ∧ lA S C' L (chk t x y)) := by
  obtain ⟨h1, h2, h3, h4⟩ := h
  have ab : ((if 0 < (x / y) then (x / y) else -(x / y)) ≤ (9331200 : Int64)) = ¬ qg x y := by
    have hmI : (-4611686018427387904 : Int) ≤ (x / y).toInt := Int64.le_iff_toInt_le.mp hm
    have hM : (x / y).toInt < 2 ^ 63 := Int64.toInt_lt _
    have e1 : (9331200 : Int64).toInt = 9331200 := rfl
    have e2 : (-9331200 : Int64).toInt = -9331200 := rfl
    have e3 : (-(x / y)).toInt = -(x / y).toInt := by
      rw [Int64.toInt_neg]
      exact Int.bmod_eq_of_le (by omega) (by omega)
    have e0 : (0 : Int64).toInt = 0 := rfl
    unfold qg
    by_cases hz : 0 < x / y
    · rw [if_pos hz]
      have := Int64.lt_iff_toInt_lt.mp hz
      simp only [Int64.le_iff_toInt_le, Int64.lt_iff_toInt_lt, e1, e2]
      apply propext
      omega
    · rw [if_neg hz]
      have := Int64.le_iff_toInt_le.mp (Int64.not_lt.mp hz)
      simp only [Int64.le_iff_toInt_le, Int64.lt_iff_toInt_lt, e1, e2, e3]
      apply propext
      omega
  refine vc_X2_quotient h1 fun P14 h14 => ⟨fun q => absurd q hy, fun _ => ⟨hy, fun q => ⟨hy, ?_⟩, fun q => h14 _ ?_⟩⟩
  · rw [ab]
    have q : qe x y := q
    refine ⟨fun z => ⟨fun _ => rfl, C.1 L, (ax_rI_id _ _).symm, h1, ?_, h3, h4⟩, fun z => ⟨Or.inr rfl, h1, fun e => ?_, va_up (C.1 L) 1 1, rfl, h1, ?_, ?_, ?_⟩⟩
    · rw [h2]; simp [chk, q, z]
    · exfalso
      have z : qg x y := Classical.not_not.mp z
      simp only [chk, if_pos q] at e
      by_cases ht : t = 0
      · rw [if_pos ⟨z, ht⟩] at e; exact absurd e (by decide)
      · rw [if_neg (fun w => ht w.2)] at e; exact ht e
    · have z : qg x y := Classical.not_not.mp z
      simp only [chk, if_pos q]
      rw [← h2]
      simp only [er, ax_wI, va_up, z, true_and]
      rcases h3 with h3 | h3 <;> rcases h4 with h4 | h4 <;> simp [va_up, h3, h4]
    · simpa [ax_wI, va_up] using h3
    · simp [ax_wI, va_up]
  · have q : ¬ qe x y := q
    refine ⟨Or.inr rfl, h1, fun e => ?_, va_up (C.1 L) 0 1, rfl, h1, ?_, ?_, ?_⟩
    · exfalso
      simp only [chk, if_neg q] at e
      exact absurd e (by decide)
    · simp [chk, if_neg q, er, ax_wI, va_up]
    · simp [ax_wI, va_up]
    · simpa [ax_wI, va_up] using h4
end
