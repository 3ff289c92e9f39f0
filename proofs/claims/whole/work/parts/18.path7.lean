/-! ===== Path: merged, cut ===== -/
/-- the two nodes at the ends of a segment and the new one, for an axis -/
def v_p1 (row : Nat → Int32) (k ax : Nat) : Int64 := (row (8 * k + (0 + ax))).toInt64 + (row (8 * k + (4 + ax))).toInt64
def v_p2 (row : Nat → Int32) (e ax : Nat) : Int64 := (row (8 * e + (0 + ax))).toInt64 + (row (8 * e + (2 + ax))).toInt64
def v_r0 (row : Nat → Int32) (k e ax : Nat) (a b : Int32) : Int64 := cR (row (8 * k + (0 + ax))).toInt64 (v_p1 row k ax) (v_p2 row e ax) (b - a).toInt64 a.toInt64
def v_r1 (row : Nat → Int32) (k e ax : Nat) (a b : Int32) : Int64 := cR (v_p1 row k ax) (v_p2 row e ax) (row (8 * e + (0 + ax))).toInt64 (b - a).toInt64 a.toInt64
def v_s (row : Nat → Int32) (k e ax : Nat) (a b : Int32) : Int64 := v_r0 row k e ax a b * (b - a).toInt64 + v_r1 row k e ax a b * a.toInt64
def cu (b : Int32) : Int64 := (b.toInt64 * b.toInt64) * b.toInt64
/-- one axis of a cut -/
def xA (row : Nat → Int32) (k e ax : Nat) (a b : Int32) : Nat → Int32 := va_up (va_up (va_up (va_up (va_up row (8 * (k + 1) + (0 + ax)) (qr (v_s row k e ax a b) (cu b))) (8 * (k + 1) + (2 + ax)) (qr (v_r0 row k e ax a b * b.toInt64 - v_s row k e ax a b) (cu b))) (8 * (k + 1) + (4 + ax)) (qr (v_r1 row k e ax a b * b.toInt64 - v_s row k e ax a b) (cu b))) (8 * k + (4 + ax)) (qr ((row (8 * k + (4 + ax))).toInt64 * a.toInt64) b.toInt64)) (8 * e + (2 + ax)) (qr ((row (8 * e + (2 + ax))).toInt64 * (b - a).toInt64) b.toInt64)
def xT (row : Nat → Int32) (k e ax : Nat) (a b t : Int32) : Int32 := chk (chk (chk (chk (chk t (v_s row k e ax a b) (cu b)) (v_r0 row k e ax a b * b.toInt64 - v_s row k e ax a b) (cu b)) (v_r1 row k e ax a b * b.toInt64 - v_s row k e ax a b) (cu b)) ((row (8 * k + (4 + ax))).toInt64 * a.toInt64) b.toInt64) ((row (8 * e + (2 + ax))).toInt64 * (b - a).toInt64) b.toInt64
section
variable {l : Launch} {D : ax_D} {S : ax_S} {C : ax_C}
theorem c_mergeStart {i j n : Nat} (hP : pA S C i) (hQ : pA S C j) (hij : j = i ∨ (j + 1 ≠ i + 1 ∧ j ≠ i + 1)) (hn : n ≤ 12) (hn1 : 1 ≤ n) (hn2 : j = i → 2 ≤ n) (hs : C.1 j 1 = nI n) : ax_CV l D mt_X3_mergeStart [ax_r (some i), ax_r (some j)] S C (fun C' => C' = ax_wI (ax_rI C (i + 1) (mg (C.1 (i + 1)) (C.1 (j + 1)) (n - 1))) j 1 (nI (n - 1))) := by
  have hji : j ≠ i + 1 := by rcases hij with z | z <;> omega
  have rd : ∀ (g : Nat → Int32) (f : Nat), f < 8 → (∀ q, 8 ≤ q → g q = C.1 (i + 1) q) → (ax_rI C (i + 1) g).1 (j + 1) (8 * (n - 1) + f) = C.1 (j + 1) (8 * (n - 1) + f) := by
    intro g f hf hg
    rcases hij with z | z
    · have := hn2 z
      subst z
      rw [ax_rI_t rfl]
      exact hg _ (by omega)
    · rw [ax_rI_n z.1]
  have fin : ∀ P88 : Int32 → ax_C → Prop, (∀ x2 : Int32, ∀ C9 : ax_C, (ax_CV l D mt_X3_dropNode [ax_r (some j), ax_i x2] S C9 (fun C18 => C18 = ax_wI (ax_rI C (i + 1) (mg (C.1 (i + 1)) (C.1 (j + 1)) (n - 1))) j 1 (nI (n - 1)))) → P88 x2 C9) → P88 (nI (n - 1)) (ax_rI C (i + 1) (mg (C.1 (i + 1)) (C.1 (j + 1)) (n - 1))) := by
    intro P88 h88
    refine h88 _ _ ((c_dropNode (C := ax_rI C (i + 1) _) hQ (n := n) (by rw [ax_rI_n hji, hs]) hn (k := n - 1) rfl (by omega)).use ?_)
    have e : ∀ row, dn row (n - 1) n = row := fun row => funext fun q => by unfold dn; rw [if_neg (by omega)]
    rw [e]
    have := pW_self (ax_rI C (i + 1) (mg (C.1 (i + 1)) (C.1 (j + 1)) (n - 1))) j
    conv => rhs; rw [← this]
    rw [pW_wI1]
  refine vc_X3_mergeStart hP.1 fun P69 P70 P83 P88 h69 h70 h83 h88 => ⟨hQ.1, ?_⟩
  rw [hs, n_lit1, n_sub hn1]
  have cor : ¬ (C.1 (i + 1) 6 = C.1 (j + 1) (8 * (n - 1) + 6) ∧ C.1 (i + 1) 7 = C.1 (j + 1) (8 * (n - 1) + 7) ∧ hf (mg1 (C.1 (i + 1)) (C.1 (j + 1)) (n - 1)) 0) → P83 (nI (n - 1)) (ax_rI C (i + 1) (mg1 (C.1 (i + 1)) (C.1 (j + 1)) (n - 1))) := by
    intro z
    refine h83 _ _ ((c_makeCorner (C := ax_rI C (i + 1) _) hP (k := 0) rfl (by omega)).use ?_)
    rw [ax_rI_rI, ax_rI_t rfl]
    have := fin P88 h88
    rw [show mg (C.1 (i + 1)) (C.1 (j + 1)) (n - 1) = va_up (va_up (mg1 (C.1 (i + 1)) (C.1 (j + 1)) (n - 1)) 6 0) 7 0 by unfold mg; rw [if_neg z]] at this
    exact this
  refine (c_get hQ rfl (by omega) (f := 2) rfl (by omega)).use ((c_put hP (k := 0) rfl (by omega) (f := 2) rfl (by omega)).use ?_)
  refine (c_get (C := ax_rI C (i + 1) _) hQ rfl (by omega) (f := 3) rfl (by omega)).use ?_
  rw [rd _ 3 (by omega) (fun q hq => n_up_n (by omega))]
  refine (c_put (C := ax_rI C (i + 1) _) hP (k := 0) rfl (by omega) (f := 3) rfl (by omega)).use ?_
  rw [ax_rI_rI, ax_rI_t rfl]
  have hg : ∀ q, 8 ≤ q → mg1 (C.1 (i + 1)) (C.1 (j + 1)) (n - 1) q = C.1 (i + 1) q := fun q hq => by unfold mg1; rw [n_up_n (by omega), n_up_n (by omega)]
  have e6 : mg1 (C.1 (i + 1)) (C.1 (j + 1)) (n - 1) 6 = C.1 (i + 1) 6 := by unfold mg1; rw [n_up_n (by omega), n_up_n (by omega)]
  have e7 : mg1 (C.1 (i + 1)) (C.1 (j + 1)) (n - 1) 7 = C.1 (i + 1) 7 := by unfold mg1; rw [n_up_n (by omega), n_up_n (by omega)]
  refine (c_get (C := ax_rI C (i + 1) (mg1 (C.1 (i + 1)) (C.1 (j + 1)) (n - 1))) hP (k := 0) rfl (by omega) (f := 6) rfl (by omega)).use ?_
  refine (c_get (C := ax_rI C (i + 1) (mg1 (C.1 (i + 1)) (C.1 (j + 1)) (n - 1))) hQ rfl (by omega) (f := 6) rfl (by omega)).use ?_
  rw [rd _ 6 (by omega) hg, ax_rI_t rfl, show 8 * 0 + 6 = 6 from rfl, e6]
  refine ⟨fun z => h69 _ _ (h70 _ _ _ ⟨fun _ => cor fun w => z w.1, fun z => absurd rfl z⟩), fun z1 => ?_⟩
  refine (c_get (C := ax_rI C (i + 1) (mg1 (C.1 (i + 1)) (C.1 (j + 1)) (n - 1))) hP (k := 0) rfl (by omega) (f := 7) rfl (by omega)).use ?_
  refine (c_get (C := ax_rI C (i + 1) (mg1 (C.1 (i + 1)) (C.1 (j + 1)) (n - 1))) hQ rfl (by omega) (f := 7) rfl (by omega)).use ?_
  rw [rd _ 7 (by omega) hg, ax_rI_t rfl, show 8 * 0 + 7 = 7 from rfl, e7]
  refine ⟨fun z => h69 _ _ (h70 _ _ _ ⟨fun _ => cor fun w => z w.2.1, fun z => absurd rfl z⟩), fun z2 => h70 _ _ _ ⟨fun z => absurd z (by decide), fun _ => ?_⟩⟩
  refine (c_handlesFit (C := ax_rI C (i + 1) (mg1 (C.1 (i + 1)) (C.1 (j + 1)) (n - 1))) hP (k := 0) rfl (by omega)).use ?_
  rw [ax_rI_t rfl]
  refine ⟨fun z => ?_, fun z => cor fun w => ?_⟩
  · have z3 : hf (mg1 (C.1 (i + 1)) (C.1 (j + 1)) (n - 1)) 0 := by
      apply Classical.byContradiction
      intro w
      rw [if_neg w] at z
      exact z rfl
    have := fin P88 h88
    rw [show mg (C.1 (i + 1)) (C.1 (j + 1)) (n - 1) = mg1 (C.1 (i + 1)) (C.1 (j + 1)) (n - 1) by unfold mg; rw [if_pos ⟨z1, z2, z3⟩]] at this
    exact this
  · rw [if_pos w.2.2] at z
    exact absurd z (by decide)
theorem c_make {i c k e ax : Nat} {x y z a b : Int32} (hP : pA S C i) (hc : S.1 c = 1) (hx : x = nI k) (hk : k < 12) (hy : y = nI e) (he : e < 12) (hz : z = nI ax) (ha : ax < 2) : ax_CV l D mt_X0_make [ax_r (some c), ax_r (some i), ax_i x, ax_i y, ax_i z, ax_i a, ax_i b] S C (fun C' => ∃ F, C' = lW C c F ∧ F 0 = v_r0 (C.1 (i + 1)) k e ax a b ∧ F 1 = v_r1 (C.1 (i + 1)) k e ax a b ∧ F 2 = v_s (C.1 (i + 1)) k e ax a b) := by
  subst hz
  refine vc_X0_make hc ?_
  refine (c_get hP hx hk (f := 0 + ax) (by simp (disch := omega) only [n_lit0, n_lit1, n_lit2, n_lit3, n_lit4, n_lit5, n_lit6, n_lit7, n_lit8, n_lit9, n_lit10, n_lit11, n_lit12, n_lit13, n_lit14, n_lit15, n_lit16, n_lit17, n_lit18, n_lit19, n_lit20, n_lit21, n_lit22, n_lit23, n_lit24, n_lit30, n_lit31, n_lit32, n_lit45, n_lit48, n_lit49, n_lit57, n_lit59, n_lit60, n_lit67, n_lit76, n_lit77, n_lit90, n_lit96, n_lit97, n_lit98, n_lit99, n_lit100, n_lit119, n_lit120, n_lit127, n_lit128, n_lit196, n_lit200, n_lit208, n_lit294, n_lit340, n_lit341, n_lit392, n_lit490, n_lit491, n_lit500, n_lit588, n_lit589, n_lit999, n_lit1178, n_lit5301, n_lit5890, n_lit46656, n_add, n_mul, n_sub, n_lt_t, n_lt_f, n_le_t, n_le_f, n_eq_t, n_eq_f, n_clamp, n_in_t, ax_sm_s, true_and, and_true, not_true_eq_false, not_false_eq_true, true_imp, false_imp, imp_true, and_self, ax_wI_2, ax_rI_2, ax_wI_t, ax_wI_n, ax_rI_t, ax_rI_n, n_up_t, n_up_n, ne_eq, or_true, true_or, false_or, or_false, some_ex, n_none1, n_none2, ite_true, ite_false]) (by omega)).use ((c_get hP hx hk (f := 4 + ax) (by simp (disch := omega) only [n_lit0, n_lit1, n_lit2, n_lit3, n_lit4, n_lit5, n_lit6, n_lit7, n_lit8, n_lit9, n_lit10, n_lit11, n_lit12, n_lit13, n_lit14, n_lit15, n_lit16, n_lit17, n_lit18, n_lit19, n_lit20, n_lit21, n_lit22, n_lit23, n_lit24, n_lit30, n_lit31, n_lit32, n_lit45, n_lit48, n_lit49, n_lit57, n_lit59, n_lit60, n_lit67, n_lit76, n_lit77, n_lit90, n_lit96, n_lit97, n_lit98, n_lit99, n_lit100, n_lit119, n_lit120, n_lit127, n_lit128, n_lit196, n_lit200, n_lit208, n_lit294, n_lit340, n_lit341, n_lit392, n_lit490, n_lit491, n_lit500, n_lit588, n_lit589, n_lit999, n_lit1178, n_lit5301, n_lit5890, n_lit46656, n_add, n_mul, n_sub, n_lt_t, n_lt_f, n_le_t, n_le_f, n_eq_t, n_eq_f, n_clamp, n_in_t, ax_sm_s, true_and, and_true, not_true_eq_false, not_false_eq_true, true_imp, false_imp, imp_true, and_self, ax_wI_2, ax_rI_2, ax_wI_t, ax_wI_n, ax_rI_t, ax_rI_n, n_up_t, n_up_n, ne_eq, or_true, true_or, false_or, or_false, some_ex, n_none1, n_none2, ite_true, ite_false]) (by omega)).use ((c_get hP hy he (f := 0 + ax) (by simp (disch := omega) only [n_lit0, n_lit1, n_lit2, n_lit3, n_lit4, n_lit5, n_lit6, n_lit7, n_lit8, n_lit9, n_lit10, n_lit11, n_lit12, n_lit13, n_lit14, n_lit15, n_lit16, n_lit17, n_lit18, n_lit19, n_lit20, n_lit21, n_lit22, n_lit23, n_lit24, n_lit30, n_lit31, n_lit32, n_lit45, n_lit48, n_lit49, n_lit57, n_lit59, n_lit60, n_lit67, n_lit76, n_lit77, n_lit90, n_lit96, n_lit97, n_lit98, n_lit99, n_lit100, n_lit119, n_lit120, n_lit127, n_lit128, n_lit196, n_lit200, n_lit208, n_lit294, n_lit340, n_lit341, n_lit392, n_lit490, n_lit491, n_lit500, n_lit588, n_lit589, n_lit999, n_lit1178, n_lit5301, n_lit5890, n_lit46656, n_add, n_mul, n_sub, n_lt_t, n_lt_f, n_le_t, n_le_f, n_eq_t, n_eq_f, n_clamp, n_in_t, ax_sm_s, true_and, and_true, not_true_eq_false, not_false_eq_true, true_imp, false_imp, imp_true, and_self, ax_wI_2, ax_rI_2, ax_wI_t, ax_wI_n, ax_rI_t, ax_rI_n, n_up_t, n_up_n, ne_eq, or_true, true_or, false_or, or_false, some_ex, n_none1, n_none2, ite_true, ite_false]) (by omega)).use ((c_get hP hy he (f := 2 + ax) (by simp (disch := omega) only [n_lit0, n_lit1, n_lit2, n_lit3, n_lit4, n_lit5, n_lit6, n_lit7, n_lit8, n_lit9, n_lit10, n_lit11, n_lit12, n_lit13, n_lit14, n_lit15, n_lit16, n_lit17, n_lit18, n_lit19, n_lit20, n_lit21, n_lit22, n_lit23, n_lit24, n_lit30, n_lit31, n_lit32, n_lit45, n_lit48, n_lit49, n_lit57, n_lit59, n_lit60, n_lit67, n_lit76, n_lit77, n_lit90, n_lit96, n_lit97, n_lit98, n_lit99, n_lit100, n_lit119, n_lit120, n_lit127, n_lit128, n_lit196, n_lit200, n_lit208, n_lit294, n_lit340, n_lit341, n_lit392, n_lit490, n_lit491, n_lit500, n_lit588, n_lit589, n_lit999, n_lit1178, n_lit5301, n_lit5890, n_lit46656, n_add, n_mul, n_sub, n_lt_t, n_lt_f, n_le_t, n_le_f, n_eq_t, n_eq_f, n_clamp, n_in_t, ax_sm_s, true_and, and_true, not_true_eq_false, not_false_eq_true, true_imp, false_imp, imp_true, and_self, ax_wI_2, ax_rI_2, ax_wI_t, ax_wI_n, ax_rI_t, ax_rI_n, n_up_t, n_up_n, ne_eq, or_true, true_or, false_or, or_false, some_ex, n_none1, n_none2, ite_true, ite_false]) (by omega)).use ?_)))
  refine ⟨hc, hc, hc, hc, hc, ?_⟩
  refine ⟨va_up (va_up (va_up (C.2.1 c) 0 (v_r0 (C.1 (i + 1)) k e ax a b)) 1 (v_r1 (C.1 (i + 1)) k e ax a b)) 2 (v_s (C.1 (i + 1)) k e ax a b), ?_, rfl, rfl, rfl⟩
  have w1 : ∀ (C : ax_C) (k : Nat) (x : Int64), ax_wL C c k x = lW C c (va_up (C.2.1 c) k x) := fun _ _ _ => rfl
  have w2 : ∀ (C : ax_C) (F : Nat → Int64), (lW C c F).2.1 c = F := fun C F => va_up_self _ _ _
  simp only [w1, w2, lW_lW]
  rfl
def bd (m : Int) (x : Int64) : Prop := -m ≤ x.toInt ∧ x.toInt ≤ m
theorem bd_i (x : Int32) : bd 2147483648 x.toInt64 := by
  have := q_in x
  exact ⟨by omega, by omega⟩
theorem bd_mul {a b : Int64} {m n : Int} (hm : 0 ≤ m) (hn : 0 ≤ n) (ha : bd m a) (hb : bd n b) (h : m * n < 2 ^ 63) : bd (m * n) (a * b) := (q_mul hm hn ha hb h).2
theorem bd_add {a b : Int64} {m n : Int} (ha : bd m a) (hb : bd n b) (h : m + n < 2 ^ 63) : bd (m + n) (a + b) := by
  unfold bd
  rw [q_add ha hb h]
  obtain ⟨h1, h2⟩ := ha
  obtain ⟨h3, h4⟩ := hb
  exact ⟨by omega, by omega⟩
theorem bd_sub {a b : Int64} {m n : Int} (ha : bd m a) (hb : bd n b) (h : m + n < 2 ^ 63) : bd (m + n) (a - b) := by
  obtain ⟨h1, h2⟩ := ha
  obtain ⟨h3, h4⟩ := hb
  have : (a - b).toInt = a.toInt - b.toInt := by
    rw [Int64.toInt_sub]
    exact Int.bmod_eq_of_le (by omega) (by omega)
  unfold bd
  rw [this]
  exact ⟨by omega, by omega⟩
theorem bd_mono {a : Int64} {m n : Int} (ha : bd m a) (h : m ≤ n) : bd n a := ⟨by have := ha.1; omega, by have := ha.2; omega⟩
theorem bd_n {n : Nat} {m : Int} (h : n < 2 ^ 31) (hm : (n : Int) ≤ m) : bd m (nI n).toInt64 := by
  unfold bd
  rw [Int32.toInt_toInt64, n_toInt h]
  exact ⟨by omega, hm⟩
theorem bd_hm {x y : Int64} {m : Int} (h : bd m x) (hm : m ≤ 4611686018427387904) : (-4611686018427387904 : Int64) ≤ x / y := q_hm (by have := h.1; omega) (by have := h.2; omega)
theorem bd_R {p0 p1 p2 r a : Int64} {m : Int} (hm : 0 ≤ m) (hm2 : m ≤ 4294967296) (h0 : bd m p0) (h1 : bd m p1) (h2 : bd m p2) (hr : bd 6 r) (ha : bd 6 a) : bd (144 * m) (cR p0 p1 p2 r a) := by
  have k1 := bd_add (bd_mul hm (by decide) h0 hr (by omega)) (bd_mul hm (by decide) h1 ha (by omega)) (by omega)
  have k2 := bd_add (bd_mul hm (by decide) h1 hr (by omega)) (bd_mul hm (by decide) h2 ha (by omega)) (by omega)
  exact bd_mono (bd_add (bd_mul (by omega) (by decide) k1 hr (by omega)) (bd_mul (by omega) (by decide) k2 ha (by omega)) (by omega)) (by omega)
theorem bd_p1 (row : Nat → Int32) (k ax : Nat) : bd 4294967296 (v_p1 row k ax) := bd_add (bd_i _) (bd_i _) (by decide)
theorem bd_p2 (row : Nat → Int32) (k ax : Nat) : bd 4294967296 (v_p2 row k ax) := bd_add (bd_i _) (bd_i _) (by decide)
theorem bd_r0 {row : Nat → Int32} {k e ax : Nat} {a b : Int32} (hr : bd 6 (b - a).toInt64) (ha : bd 6 a.toInt64) : bd 618475290624 (v_r0 row k e ax a b) := bd_R (by decide) (Int.le_refl _) (bd_mono (bd_i _) (by decide)) (bd_p1 _ _ _) (bd_p2 _ _ _) hr ha
theorem bd_r1 {row : Nat → Int32} {k e ax : Nat} {a b : Int32} (hr : bd 6 (b - a).toInt64) (ha : bd 6 a.toInt64) : bd 618475290624 (v_r1 row k e ax a b) := bd_R (by decide) (Int.le_refl _) (bd_p1 _ _ _) (bd_p2 _ _ _) (bd_mono (bd_i _) (by decide)) hr ha
theorem bd_s {row : Nat → Int32} {k e ax : Nat} {a b : Int32} (hr : bd 6 (b - a).toInt64) (ha : bd 6 a.toInt64) : bd 7421703487488 (v_s row k e ax a b) := bd_add (bd_mul (by decide) (by decide) (bd_r0 hr ha) hr (by decide)) (bd_mul (by decide) (by decide) (bd_r1 hr ha) ha (by decide)) (by decide)
/-- the row behind a cut -/
def cG (row : Nat → Int32) (k e na nb p1 q1 p2 q2 : Nat) : Nat → Int32 := sr (sr (rw2 (xA (xA row k e 0 (nI na) (nI nb)) k e 1 (nI na) (nI nb)) (k + 1) na (nb - na)) k (p1 * nb) (q1 * na) (decide (0 < p1))) e (p2 * (nb - na)) (q2 * nb) (decide (0 < p2))
def cT (row : Nat → Int32) (k e na nb : Nat) (t : Int32) : Int32 := xT row k e 1 (nI na) (nI nb) (xT row k e 0 (nI na) (nI nb) t)
theorem qW_qW {C : ax_C} {i L : Nat} {g h g' h' : Nat → Int32} (hL : L ≠ i + 1) : qW (qW C i g L h) i g' L h' = qW C i g' L h' := by
  show ax_rI (ax_rI (qW C i g L h) (i + 1) g') L h' = _
  rw [qW_g hL, qW_L]
theorem lW_F (C : ax_C) (i L c : Nat) (g h : Nat → Int32) (F : Nat → Int64) : (qW (lW C c F) i g L h).2.1 c = F := va_up_self _ _ _
/-- one axis of a cut -/
def x5 (g : Nat → Int32) (k e ax : Nat) (v1 v2 v3 v4 v5 : Int32) : Nat → Int32 := va_up (va_up (va_up (va_up (va_up g (8 * (k + 1) + (0 + ax)) v1) (8 * (k + 1) + (2 + ax)) v2) (8 * (k + 1) + (4 + ax)) v3) (8 * k + (4 + ax)) v4) (8 * e + (2 + ax)) v5
theorem x5_n {g : Nat → Int32} {k e ax j : Nat} {v1 v2 v3 v4 v5 : Int32} (h1 : j ≠ 8 * (k + 1) + (0 + ax)) (h2 : j ≠ 8 * (k + 1) + (2 + ax)) (h3 : j ≠ 8 * (k + 1) + (4 + ax)) (h4 : j ≠ 8 * k + (4 + ax)) (h5 : j ≠ 8 * e + (2 + ax)) : x5 g k e ax v1 v2 v3 v4 v5 j = g j := by
  unfold x5
  rw [n_up_n h5, n_up_n h4, n_up_n h3, n_up_n h2, n_up_n h1]
theorem cu_step {i k e L c na nb ax : Nat} {t x e1 e2 e3 : Int32} {g h : Nat → Int32} {F : Nat → Int64} {P : ax_C → Prop} (hP : pA S C i) (hL : L ≠ i + 1) (hc : S.1 c = 1) (hx : x = nI k) (hk : k + 1 < 12) (he : e < 12) (hek : e ≠ k) (hek1 : e ≠ k + 1) (h1 : 1 ≤ na) (h2 : na < nb) (h3 : nb ≤ 6) (hax : ax < 2) (q1 : e1 = nI (0 + ax)) (q2 : e2 = nI (2 + ax)) (q3 : e3 = nI (4 + ax)) (hl : lA S (qW (lW C c F) i g L h) L t) (hp : ∀ v1 v2 v3 v4 v5 h' F', lA S (qW (lW C c F') i (x5 g k e ax v1 v2 v3 v4 v5) L h') L (xT g k e ax (nI na) (nI nb) t) → (xT g k e ax (nI na) (nI nb) t = 0 → x5 g k e ax v1 v2 v3 v4 v5 = xA g k e ax (nI na) (nI nb)) → P (qW (lW C c F') i (x5 g k e ax v1 v2 v3 v4 v5) L h')) : ax_CV l D mt_X0_make [ax_r (some c), ax_r (some i), ax_i x, ax_i (nI e), ax_i (nI ax), ax_i (nI na), ax_i (nI nb)] S (qW (lW C c F) i g L h) (fun C7 => S.1 c = 1 ∧ (ax_CI l D mt_X2_quotient [ax_r (some L), ax_l (C7.2.1 c 2), ax_l (cu (nI nb))] S C7 (fun y9 C8 => ax_CV l D mt_X3_put [ax_r (some i), ax_i (nI (k + 1)), ax_i e1, ax_i y9] S C8 (fun C10 => S.1 c = 1 ∧ (S.1 c = 1 ∧ (ax_CI l D mt_X2_quotient [ax_r (some L), ax_l (((C10.2.1 c 0) * (nI nb).toInt64) - (C10.2.1 c 2)), ax_l (cu (nI nb))] S C10 (fun y12 C11 => ax_CV l D mt_X3_put [ax_r (some i), ax_i (nI (k + 1)), ax_i e2, ax_i y12] S C11 (fun C13 => S.1 c = 1 ∧ (S.1 c = 1 ∧ (ax_CI l D mt_X2_quotient [ax_r (some L), ax_l (((C13.2.1 c 1) * (nI nb).toInt64) - (C13.2.1 c 2)), ax_l (cu (nI nb))] S C13 (fun y15 C14 => ax_CV l D mt_X3_put [ax_r (some i), ax_i (nI (k + 1)), ax_i e3, ax_i y15] S C14 (fun C16 => ax_CV l D mt_X3_scaleHandle [ax_r (some i), ax_i x, ax_i e3, ax_i (nI na), ax_i (nI nb), ax_r (some L)] S C16 (fun C17 => ax_CV l D mt_X3_scaleHandle [ax_r (some i), ax_i (nI e), ax_i e2, ax_i (nI nb - nI na), ax_i (nI nb), ax_r (some L)] S C17 (fun C18 => P C18)))))))))))))) := by
  have hba : (nI nb - nI na) = nI (nb - na) := n_sub (by omega)
  have bb : bd 6 (nI nb).toInt64 := bd_n (by omega) (by omega)
  have ba : bd 6 (nI na).toInt64 := bd_n (by omega) (by omega)
  have br : bd 6 (nI nb - nI na).toInt64 := by rw [hba]; exact bd_n (by omega) (by omega)
  have hb0 : ¬ nI nb = 0 := nI_ne0 (by omega) (by omega)
  have hcu : ¬ cu (nI nb) = 0 := by
    have : nb = 2 ∨ nb = 3 ∨ nb = 4 ∨ nb = 5 ∨ nb = 6 := by omega
    rcases this with rfl | rfl | rfl | rfl | rfl <;> decide
  subst q1 q2 q3
  refine (c_make (C := qW (lW C c F) i g L h) (a := nI na) (b := nI nb) hP hc hx (by omega) rfl he rfl hax).mono ?_
  rintro C7 ⟨F', e7, f0, f1, f2⟩
  rw [lW_q] at e7
  subst e7
  rw [qW_row hL] at f0 f1 f2
  refine ⟨hc, ?_⟩
  rw [lW_F, f2]
  refine s_qput (k := k + 1) (f := 0 + ax) hP hL hl rfl (by omega) rfl (by omega) hcu (bd_hm (bd_s br ba) (by decide)) fun v1 h1 l1 w1 => ⟨hc, hc, ?_⟩
  rw [lW_F, f2, f0]
  refine s_qput (k := k + 1) (f := 2 + ax) hP hL l1 rfl (by omega) rfl (by omega) hcu (bd_hm (bd_sub (bd_mul (by decide) (by decide) (bd_r0 br ba) bb (by decide)) (bd_s br ba) (by decide)) (by decide)) fun v2 h2 l2 w2 => ⟨hc, hc, ?_⟩
  rw [lW_F, f2, f1]
  refine s_qput (k := k + 1) (f := 4 + ax) hP hL l2 rfl (by omega) rfl (by omega) hcu (bd_hm (bd_sub (bd_mul (by decide) (by decide) (bd_r1 br ba) bb (by decide)) (bd_s br ba) (by decide)) (by decide)) fun v3 h3 l3 w3 => ?_
  have s4 := c_scaleHandle (l := l) (D := D) (C := qW (lW C c F') i (va_up (va_up (va_up g (8 * (k + 1) + (0 + ax)) v1) (8 * (k + 1) + (2 + ax)) v2) (8 * (k + 1) + (4 + ax)) v3) L h3) (a := nI na) (k := k) (f := 4 + ax) hP hL l3 hx (by omega) rfl (by omega) hb0
  rw [qW_row hL, n_up_n (by omega), n_up_n (by omega), n_up_n (by omega)] at s4
  refine s4.mono ?_
  rintro C17 ⟨v4, h4, e17, l4, w4⟩
  rw [qW_qW hL] at e17
  subst e17
  have s5 := c_scaleHandle (l := l) (D := D) (C := qW (lW C c F') i (va_up (va_up (va_up (va_up g (8 * (k + 1) + (0 + ax)) v1) (8 * (k + 1) + (2 + ax)) v2) (8 * (k + 1) + (4 + ax)) v3) (8 * k + (4 + ax)) v4) L h4) (a := nI nb - nI na) (k := e) (f := 2 + ax) hP hL l4 rfl (by omega) rfl (by omega) hb0
  rw [qW_row hL, n_up_n (by omega), n_up_n (by omega), n_up_n (by omega), n_up_n (by omega)] at s5
  refine s5.mono ?_
  rintro C18 ⟨v5, h5, e18, l5, w5⟩
  rw [qW_qW hL] at e18
  subst e18
  refine hp v1 v2 v3 v4 v5 h5 F' l5 fun z => ?_
  have t4 := ((chk_0 _ _ _).mp z).1
  have t3 := ((chk_0 _ _ _).mp t4).1
  have t2 := ((chk_0 _ _ _).mp t3).1
  have t1 := ((chk_0 _ _ _).mp t2).1
  unfold x5
  rw [w1 t1, w2 t2, w3 t3, w4 t4, w5 z]
  rfl
theorem sr_n {row : Nat → Int32} {k p q : Nat} {b : Bool} {j : Nat} (z1 : j ≠ 8 * k + 6) (z2 : j ≠ 8 * k + 7) : sr row k p q b j = row j := by
  unfold sr rw2
  cases b
  · rfl
  · simp only [if_true]
    rw [n_up_n z2, n_up_n z1]
theorem rw2_n {row : Nat → Int32} {k p q : Nat} {j : Nat} (z1 : j ≠ 8 * k + 6) (z2 : j ≠ 8 * k + 7) : rw2 row k p q j = row j := by
  unfold rw2
  rw [n_up_n z2, n_up_n z1]
theorem cu_tail {i k e na nb p1 q1 p2 q2 : Nat} {x : Int32} {P : ax_C → Prop} (hP : pA S C i) (hx : x = nI k) (hk : k + 1 < 12) (he : e < 12) (hek : e ≠ k) (hek1 : e ≠ k + 1) (h1 : 1 ≤ na) (h2 : na < nb) (h3 : nb ≤ 6) (hp1 : C.1 (i + 1) (8 * k + 6) = nI p1) (hq1 : C.1 (i + 1) (8 * k + 7) = nI q1) (hp2 : C.1 (i + 1) (8 * e + 6) = nI p2) (hq2 : C.1 (i + 1) (8 * e + 7) = nI q2) (b1 : p1 ≤ 999) (b2 : q1 ≤ 999) (b3 : p2 ≤ 999) (b4 : q2 ≤ 999) (hp : P (ax_rI C (i + 1) (sr (sr (rw2 (C.1 (i + 1)) (k + 1) na (nb - na)) k (p1 * nb) (q1 * na) (decide (0 < p1))) e (p2 * (nb - na)) (q2 * nb) (decide (0 < p2))))) : ax_CV l D mt_X3_putRatio [ax_r (some i), ax_i (nI (k + 1)), ax_i (nI na), ax_i (nI nb - nI na)] S C (fun C4 => ax_CV l D mt_X3_scaleRatio [ax_r (some i), ax_i x, ax_i (nI nb), ax_i (nI na)] S C4 (fun C5 => ax_CV l D mt_X3_scaleRatio [ax_r (some i), ax_i (nI e), ax_i (nI nb - nI na), ax_i (nI nb)] S C5 (fun C6 => P C6))) := by
  rw [n_sub (by omega)]
  refine (c_putRatio hP rfl (by omega) rfl rfl (by omega) (by omega) (by omega)).use ?_
  have s1 := c_scaleRatio (l := l) (D := D) (C := ax_rI C (i + 1) (rw2 (C.1 (i + 1)) (k + 1) na (nb - na))) (p := p1) (q := q1) (u := nb) (v := na) hP hx (by omega) (by rw [ax_rI_t rfl, rw2_n (by omega) (by omega)]; exact hp1) (by rw [ax_rI_t rfl, rw2_n (by omega) (by omega)]; exact hq1) rfl rfl b1 b2 (by omega) (by omega) (by omega)
  rw [ax_rI_t rfl, ax_rI_rI] at s1
  refine s1.use ?_
  have s2 := c_scaleRatio (l := l) (D := D) (C := ax_rI C (i + 1) (sr (rw2 (C.1 (i + 1)) (k + 1) na (nb - na)) k (p1 * nb) (q1 * na) (decide (0 < p1)))) (p := p2) (q := q2) (u := nb - na) (v := nb) (x := nI e) hP rfl (by omega) (by rw [ax_rI_t rfl, sr_n (by omega) (by omega), rw2_n (by omega) (by omega)]; exact hp2) (by rw [ax_rI_t rfl, sr_n (by omega) (by omega), rw2_n (by omega) (by omega)]; exact hq2) rfl rfl b3 b4 (by omega) (by omega) (by omega)
  rw [ax_rI_t rfl, ax_rI_rI] at s2
  exact s2.use hp
theorem cu_mid {i k e L c na nb p1 q1 p2 q2 : Nat} {t x : Int32} {C0 : ax_C} (hP : pA S C0 i) (hL : L ≠ i + 1) (hc : S.1 c = 1) (hx : x = nI k) (hk : k + 1 < 12) (he : e < 12) (hek : e ≠ k) (hek1 : e ≠ k + 1) (h1 : 1 ≤ na) (h2 : na < nb) (h3 : nb ≤ 6) (hl : lA S C0 L t) (hp1 : C0.1 (i + 1) (8 * k + 6) = nI p1) (hq1 : C0.1 (i + 1) (8 * k + 7) = nI q1) (hp2 : C0.1 (i + 1) (8 * e + 6) = nI p2) (hq2 : C0.1 (i + 1) (8 * e + 7) = nI q2) (b1 : p1 ≤ 999) (b2 : q1 ≤ 999) (b3 : p2 ≤ 999) (b4 : q2 ≤ 999) {P : ax_C → Prop} {P40 : Int32 → Int32 → Int64 → Int32 → ax_C → Prop} (hp : ∀ F g h, lA S (qW (lW C0 c F) i g L h) L (cT (C0.1 (i + 1)) k e na nb t) → (cT (C0.1 (i + 1)) k e na nb t = 0 → g = cG (C0.1 (i + 1)) k e na nb p1 q1 p2 q2) → P (qW (lW C0 c F) i g L h)) (h40 : ∀ x6 : Int32, ∀ x7 : Int32, ∀ x8 : Int64, ∀ x10 : Int32, ∀ C : ax_C, (((2 : Int32) ≤ x10 → ax_CV l D mt_X3_putRatio [ax_r (some i), ax_i x6, ax_i (nI na), ax_i (nI nb - nI na)] S C (fun C4 => ax_CV l D mt_X3_scaleRatio [ax_r (some i), ax_i x, ax_i (nI nb), ax_i (nI na)] S C4 (fun C5 => ax_CV l D mt_X3_scaleRatio [ax_r (some i), ax_i x7, ax_i (nI nb - nI na), ax_i (nI nb)] S C5 (fun C6 => P C6)))) ∧ (¬ (2 : Int32) ≤ x10 → ax_CV l D mt_X0_make [ax_r (some c), ax_r (some i), ax_i x, ax_i x7, ax_i x10, ax_i (nI na), ax_i (nI nb)] S C (fun C7 => S.1 c = 1 ∧ (ax_CI l D mt_X2_quotient [ax_r (some L), ax_l (C7.2.1 c 2), ax_l x8] S C7 (fun y9 C8 => ax_CV l D mt_X3_put [ax_r (some i), ax_i x6, ax_i ((0 : Int32) + x10), ax_i y9] S C8 (fun C10 => S.1 c = 1 ∧ (S.1 c = 1 ∧ (ax_CI l D mt_X2_quotient [ax_r (some L), ax_l (((C10.2.1 c 0) * (nI nb).toInt64) - (C10.2.1 c 2)), ax_l x8] S C10 (fun y12 C11 => ax_CV l D mt_X3_put [ax_r (some i), ax_i x6, ax_i ((2 : Int32) + x10), ax_i y12] S C11 (fun C13 => S.1 c = 1 ∧ (S.1 c = 1 ∧ (ax_CI l D mt_X2_quotient [ax_r (some L), ax_l (((C13.2.1 c 1) * (nI nb).toInt64) - (C13.2.1 c 2)), ax_l x8] S C13 (fun y15 C14 => ax_CV l D mt_X3_put [ax_r (some i), ax_i x6, ax_i ((4 : Int32) + x10), ax_i y15] S C14 (fun C16 => ax_CV l D mt_X3_scaleHandle [ax_r (some i), ax_i x, ax_i ((4 : Int32) + x10), ax_i (nI na), ax_i (nI nb), ax_r (some L)] S C16 (fun C17 => ax_CV l D mt_X3_scaleHandle [ax_r (some i), ax_i x7, ax_i ((2 : Int32) + x10), ax_i (nI nb - nI na), ax_i (nI nb), ax_r (some L)] S C17 (fun C18 => P40 x6 x7 x8 (x10 + (1 : Int32)) C18)))))))))))))))) → P40 x6 x7 x8 x10 C) : P40 (nI (k + 1)) (nI e) (cu (nI nb)) 0 C0 := by
  have e0 : qW (lW C0 c (C0.2.1 c)) i (C0.1 (i + 1)) L (C0.1 L) = C0 := by rw [lW_self]; exact qW_self _ _ _
  have s0 : P40 (nI (k + 1)) (nI e) (cu (nI nb)) 0 (qW (lW C0 c (C0.2.1 c)) i (C0.1 (i + 1)) L (C0.1 L)) := by
    refine h40 _ _ _ _ _ ⟨fun z => absurd z (by decide), fun _ => ?_⟩
    refine cu_step (ax := 0) hP hL hc hx hk he hek hek1 h1 h2 h3 (by omega) rfl rfl rfl (by rw [e0]; exact hl) fun v1 v2 v3 v4 v5 h' F' l1 w1 => ?_
    refine h40 _ _ _ _ _ ⟨fun z => absurd z (by decide), fun _ => ?_⟩
    refine cu_step (ax := 1) hP hL hc hx hk he hek hek1 h1 h2 h3 (by omega) rfl rfl rfl l1 fun u1 u2 u3 u4 u5 h2' F2 l2 w2 => ?_
    have sx : ∀ t, xT (x5 (C0.1 (i + 1)) k e 0 v1 v2 v3 v4 v5) k e 1 (nI na) (nI nb) t = xT (C0.1 (i + 1)) k e 1 (nI na) (nI nb) t := by
      intro t
      have r : ∀ j, (j = 8 * k + (0 + 1) ∨ j = 8 * k + (4 + 1) ∨ j = 8 * e + (0 + 1) ∨ j = 8 * e + (2 + 1)) → (x5 (C0.1 (i + 1)) k e 0 v1 v2 v3 v4 v5) j = C0.1 (i + 1) j := fun j hj => x5_n (by omega) (by omega) (by omega) (by omega) (by omega)
      simp only [xT, v_s, v_r0, v_r1, v_p1, v_p2, r _ (Or.inl rfl), r _ (Or.inr (Or.inl rfl)), r _ (Or.inr (Or.inr (Or.inl rfl))), r _ (Or.inr (Or.inr (Or.inr rfl)))]
    rw [sx] at l2 w2
    have r2 : ∀ j, (j = 8 * k + 6 ∨ j = 8 * k + 7 ∨ j = 8 * e + 6 ∨ j = 8 * e + 7) → x5 (x5 (C0.1 (i + 1)) k e 0 v1 v2 v3 v4 v5) k e 1 u1 u2 u3 u4 u5 j = C0.1 (i + 1) j := by
      intro j hj
      rw [x5_n (by omega) (by omega) (by omega) (by omega) (by omega), x5_n (by omega) (by omega) (by omega) (by omega) (by omega)]
    refine h40 _ _ _ _ _ ⟨fun _ => ?_, fun z => absurd (by decide) z⟩
    refine cu_tail (C := qW (lW C0 c F2) i (x5 (x5 (C0.1 (i + 1)) k e 0 v1 v2 v3 v4 v5) k e 1 u1 u2 u3 u4 u5) L h2') hP hx hk he hek hek1 h1 h2 h3 (by rw [qW_row hL, r2 _ (by omega)]; exact hp1) (by rw [qW_row hL, r2 _ (by omega)]; exact hq1) (by rw [qW_row hL, r2 _ (by omega)]; exact hp2) (by rw [qW_row hL, r2 _ (by omega)]; exact hq2) b1 b2 b3 b4 ?_
    rw [qW_row hL, qW_g hL]
    refine hp _ _ _ ?_ fun z => ?_
    · obtain ⟨z1, z2, z3, z4⟩ := l2
      rw [qW_l] at z2 z3 z4
      exact ⟨z1, by rw [qW_l]; exact z2, by rw [qW_l]; exact z3, by rw [qW_l]; exact z4⟩
    · have w2' := w2 z
      have z1 : xT (C0.1 (i + 1)) k e 0 (nI na) (nI nb) t = 0 := by
        have t4 := ((chk_0 _ _ _).mp z).1
        have t3 := ((chk_0 _ _ _).mp t4).1
        have t2 := ((chk_0 _ _ _).mp t3).1
        have t1 := ((chk_0 _ _ _).mp t2).1
        exact ((chk_0 _ _ _).mp t1).1
      rw [w2', w1 z1]
      rfl
  rw [e0] at s0
  exact s0
theorem c_cutSegment {i n k L c na nb p1 q1 p2 q2 : Nat} {t x a b : Int32} (hP : pA S C i) (hL : L ≠ i + 1) (hL2 : L ≠ i) (hl : lA S C L t) (hc : S.1 c = 1) (hs : C.1 i 1 = nI n) (hn : n < 12) (hx : x = nI k) (hk : k < n) (hn1 : 2 ≤ n) (ha : a = nI na) (hb : b = nI nb) (h1 : 1 ≤ na) (h2 : na < nb) (h3 : nb ≤ 6) (hp1 : un (C.1 (i + 1)) k n (8 * k + 6) = nI p1) (hq1 : un (C.1 (i + 1)) k n (8 * k + 7) = nI q1) (hp2 : un (C.1 (i + 1)) k n (8 * (if eo n k = 0 then 0 else k + 2) + 6) = nI p2) (hq2 : un (C.1 (i + 1)) k n (8 * (if eo n k = 0 then 0 else k + 2) + 7) = nI q2) (b1 : p1 ≤ 999) (b2 : q1 ≤ 999) (b3 : p2 ≤ 999) (b4 : q2 ≤ 999) : ax_CV l D mt_X3_cutSegment [ax_r (some i), ax_i x, ax_i a, ax_i b, ax_r (some c), ax_r (some L)] S C (fun C' => ∃ F g h, C' = qW (lW (pW C i (un (C.1 (i + 1)) k n) (nI (n + 1)) (C.1 i 2)) c F) i g L h ∧ lA S C' L (cT (un (C.1 (i + 1)) k n) k (if eo n k = 0 then 0 else k + 2) na nb t) ∧ (cT (un (C.1 (i + 1)) k n) k (if eo n k = 0 then 0 else k + 2) na nb t = 0 → g = cG (un (C.1 (i + 1)) k n) k (if eo n k = 0 then 0 else k + 2) na nb p1 q1 p2 q2)) := by
  subst ha hb
  have he : ∃ e, (if eo n k = 0 then 0 else k + 2) = e ∧ e ≠ k ∧ e ≠ k + 1 ∧ e < 12 := by
    refine ⟨_, rfl, ?_⟩
    unfold eo
    by_cases z : k + 1 < n
    · rw [if_pos z, if_neg (by omega)]; omega
    · rw [if_neg z, if_pos rfl]; omega
  obtain ⟨e, he, hek, hek1, he12⟩ := he
  rw [he] at hp2 hq2
  rw [he]
  refine vc_X3_cutSegment hP.1 fun P20 P40 h20 h40 => ?_
  have hst : P20 (nI (k + 1)) (nI e) C := by
    refine h20 _ _ _ ((c_doubleNode hP hs hn hx hk).use ?_)
    have e1 : (pW C i (un (C.1 (i + 1)) k n) (nI (n + 1)) (C.1 i 2)).1 (i + 1) = un (C.1 (i + 1)) k n := pW_row _ _ _ _ _
    have hl' : lA S (pW C i (un (C.1 (i + 1)) k n) (nI (n + 1)) (C.1 i 2)) L t := by
      obtain ⟨z1, z2, z3, z4⟩ := hl
      refine ⟨z1, ?_, ?_, ?_⟩
      · rw [pW_n hL2 hL]; exact z2
      · rw [pW_n hL2 hL]; exact z3
      · rw [pW_n hL2 hL]; exact z4
    refine cu_mid (L := L) (c := c) (p1 := p1) (q1 := q1) (p2 := p2) (q2 := q2) (t := t) (C0 := pW C i (un (C.1 (i + 1)) k n) (nI (n + 1)) (C.1 i 2)) hP hL hc hx (by omega) he12 hek hek1 h1 h2 h3 hl' (by rw [e1]; exact hp1) (by rw [e1]; exact hq1) (by rw [e1]; exact hp2) (by rw [e1]; exact hq2) b1 b2 b3 b4 ?_ h40
    rw [e1]
    intro F g h l2 w2
    exact ⟨F, g, h, rfl, l2, w2⟩
  subst hx
  refine (c_endOf hP hs (by omega) rfl (by omega)).use ?_
  rw [n_succ, n_lit2, n_add]
  by_cases z : eo n k = 0
  · rw [if_pos z] at he
    rw [z]
    subst he
    exact ⟨fun w => absurd rfl w, fun _ => hst⟩
  · rw [if_neg z] at he
    subst he
    have : ¬ nI (eo n k) = 0 := nI_ne0 (by omega) (by have := eo_lt (k := k) (n := n) (by omega); omega)
    exact ⟨fun _ => hst, fun w => absurd w this⟩
end
