/-! ===== Path: rows with quotients; joins ===== -/
theorem chk_0 (t : Int32) (x y : Int64) : chk t x y = 0 ↔ t = 0 ∧ qe x y ∧ ¬ qg x y := by
  unfold chk
  by_cases h1 : qe x y
  · rw [if_pos h1]
    by_cases h2 : qg x y ∧ t = 0
    · rw [if_pos h2]
      exact ⟨fun q => absurd q (by decide), fun q => absurd h2.1 q.2.2⟩
    · rw [if_neg h2]
      exact ⟨fun q => ⟨q, h1, fun z => h2 ⟨z, q⟩⟩, fun q => q.1⟩
  · rw [if_neg h1]
    exact ⟨fun q => absurd q (by decide), fun q => absurd q.2.1 h1⟩
theorem q_hm {x y : Int64} (h : (-4611686018427387904 : Int) ≤ x.toInt) (h2 : x.toInt ≤ 4611686018427387904) : (-4611686018427387904 : Int64) ≤ x / y := by
  rw [Int64.le_iff_toInt_le, Int64.toInt_div]
  have e : (-4611686018427387904 : Int64).toInt = -4611686018427387904 := rfl
  have b1 : (x.toInt.tdiv y.toInt).natAbs ≤ x.toInt.natAbs := by
    rw [Int.natAbs_tdiv]
    exact Nat.div_le_self _ _
  have b2 : -4611686018427387904 ≤ x.toInt.tdiv y.toInt ∧ x.toInt.tdiv y.toInt ≤ 4611686018427387904 := by omega
  rw [e, Int.bmod_eq_of_le (by omega) (by omega)]
  exact b2.1
theorem q_in (x : Int32) : (-2147483648 : Int) ≤ x.toInt64.toInt ∧ x.toInt64.toInt ≤ 2147483647 := by
  rw [Int32.toInt_toInt64]
  have h1 := Int32.le_toInt x
  have h2 := Int32.toInt_lt x
  omega
theorem q_i1 (x : Int32) (y : Int64) : (-4611686018427387904 : Int64) ≤ x.toInt64 / y := by
  have := q_in x
  exact q_hm (by omega) (by omega)
theorem q_mul {a b : Int64} {m n : Int} (hm : 0 ≤ m) (hn : 0 ≤ n) (ha : -m ≤ a.toInt ∧ a.toInt ≤ m) (hb : -n ≤ b.toInt ∧ b.toInt ≤ n) (h : m * n < 2 ^ 63) : (a * b).toInt = a.toInt * b.toInt ∧ -(m * n) ≤ (a * b).toInt ∧ (a * b).toInt ≤ m * n := by
  have k1 : (a.toInt * b.toInt).natAbs ≤ (m * n).natAbs := by
    rw [Int.natAbs_mul, Int.natAbs_mul]
    exact Nat.mul_le_mul (by omega) (by omega)
  have k0 : 0 ≤ m * n := Int.mul_nonneg hm hn
  have k2 : -(m * n) ≤ a.toInt * b.toInt ∧ a.toInt * b.toInt ≤ m * n := by omega
  have e : (a * b).toInt = a.toInt * b.toInt := by
    rw [Int64.toInt_mul]
    exact Int.bmod_eq_of_le (by omega) (by omega)
  rw [e]
  exact ⟨rfl, k2⟩
theorem q_i2 (a b : Int32) (y : Int64) : (-4611686018427387904 : Int64) ≤ (-a.toInt64 * b.toInt64) / y := by
  have ha := q_in a
  have hb := q_in b
  have e : (-a.toInt64).toInt = -a.toInt64.toInt := by
    rw [Int64.toInt_neg]
    exact Int.bmod_eq_of_le (by omega) (by omega)
  have := q_mul (a := -a.toInt64) (b := b.toInt64) (m := 2147483648) (n := 2147483648) (by omega) (by omega) (by omega) (by omega) (by decide)
  exact q_hm (by omega) (by omega)
theorem q_i3 (a b : Int32) (y : Int64) : (-4611686018427387904 : Int64) ≤ (a.toInt64 * b.toInt64) / y := by
  have ha := q_in a
  have hb := q_in b
  have := q_mul (a := a.toInt64) (b := b.toInt64) (m := 2147483648) (n := 2147483648) (by omega) (by omega) (by omega) (by omega) (by decide)
  exact q_hm (by omega) (by omega)
theorem q_add {a b : Int64} {m n : Int} (ha : -m ≤ a.toInt ∧ a.toInt ≤ m) (hb : -n ≤ b.toInt ∧ b.toInt ≤ n) (h : m + n < 2 ^ 63) : (a + b).toInt = a.toInt + b.toInt := by
  rw [Int64.toInt_add]
  exact Int.bmod_eq_of_le (by omega) (by omega)
/-- a, b within 9: the sum of two products -/
theorem q_i4 {a b x y : Int32} {q : Int64} (ha : -9 ≤ a.toInt ∧ a.toInt ≤ 9) (hb : -9 ≤ b.toInt ∧ b.toInt ≤ 9) : (-4611686018427387904 : Int64) ≤ (a.toInt64 * x.toInt64 + b.toInt64 * y.toInt64) / q := by
  have hx := q_in x
  have hy := q_in y
  have h1 := q_mul (a := a.toInt64) (b := x.toInt64) (m := 9) (n := 2147483648) (by omega) (by omega) (by rw [Int32.toInt_toInt64]; exact ha) (by omega) (by decide)
  have h2 := q_mul (a := b.toInt64) (b := y.toInt64) (m := 9) (n := 2147483648) (by omega) (by omega) (by rw [Int32.toInt_toInt64]; exact hb) (by omega) (by decide)
  have h3 := q_add (a := a.toInt64 * x.toInt64) (b := b.toInt64 * y.toInt64) (m := 9 * 2147483648) (n := 9 * 2147483648) h1.2 h2.2 (by decide)
  exact q_hm (by omega) (by omega)
/-- row and limits, whole -/
def qW (C : ax_C) (i : Nat) (g : Nat → Int32) (L : Nat) (h : Nat → Int32) : ax_C := ax_rI (ax_rI C (i + 1) g) L h
theorem qW_self (C : ax_C) (i L : Nat) : qW C i (C.1 (i + 1)) L (C.1 L) = C := by
  unfold qW
  rw [ax_rI_id, ax_rI_id]
theorem qW_L (C : ax_C) (i L : Nat) (g h h' : Nat → Int32) : ax_rI (qW C i g L h) L h' = qW C i g L h' := ax_rI_rI _ _ _ _
theorem qW_g {C : ax_C} {i L : Nat} {g h : Nat → Int32} (hL : L ≠ i + 1) (g' : Nat → Int32) : ax_rI (qW C i g L h) (i + 1) g' = qW C i g' L h := by
  unfold qW
  rw [ax_rI_comm _ _ hL, ax_rI_rI]
theorem qW_row {C : ax_C} {i L : Nat} {g h : Nat → Int32} (hL : L ≠ i + 1) : (qW C i g L h).1 (i + 1) = g := by
  unfold qW
  rw [ax_rI_n (fun q => hL q.symm), ax_rI_t rfl]
theorem qW_l (C : ax_C) (i L : Nat) (g h : Nat → Int32) : (qW C i g L h).1 L = h := ax_rI_t rfl
theorem qW_n {C : ax_C} {i L b : Nat} {g h : Nat → Int32} (h1 : b ≠ i + 1) (h2 : b ≠ L) : (qW C i g L h).1 b = C.1 b := by
  unfold qW
  rw [ax_rI_n h2, ax_rI_n h1]
section
variable {l : Launch} {D : ax_D} {S : ax_S} {C : ax_C}
theorem pA_q {i j L : Nat} {g h : Nat → Int32} (hP : pA S C i) : pA S (qW C j g L h) i := hP
/-- one quotient that is put into a row -/
theorem s_qput {i L k f : Nat} {g h : Nat → Int32} {t : Int32} {x y : Int64} {P : ax_C → Prop} {X Y : Int32} (hP : pA S C i) (hL : L ≠ i + 1) (hl : lA S (qW C i g L h) L t) (hX : X = nI k) (hk : k < 12) (hY : Y = nI f) (hf : f < 8) (hy : ¬ y = 0) (hm : (-4611686018427387904 : Int64) ≤ x / y) (hp : ∀ v h', lA S (qW C i (va_up g (8 * k + f) v) L h') L (chk t x y) → (chk t x y = 0 → v = qr x y) → P (qW C i (va_up g (8 * k + f) v) L h')) : ax_CI l D mt_X2_quotient [ax_r (some L), ax_l x, ax_l y] S (qW C i g L h) (fun y4 C3 => ax_CV l D mt_X3_put [ax_r (some i), ax_i X, ax_i Y, ax_i y4] S C3 (fun C5 => P C5)) := by
  refine (c_quotient hl hy hm).mono fun v C1 ⟨h1, g1, h2, h3⟩ => ?_
  rw [qW_L] at h2
  subst h2
  refine (c_put (C := qW C i g L g1) hP hX hk hY hf).use ?_
  rw [qW_row hL, qW_g hL]
  refine hp v g1 ?_ h1
  obtain ⟨z1, z2, z3, z4⟩ := h3
  rw [qW_l] at z2 z3 z4
  exact ⟨z1, by rw [qW_l]; exact z2, by rw [qW_l]; exact z3, by rw [qW_l]; exact z4⟩
theorem c_moveBy {i L k : Nat} {t : Int32} {x dx dy : Int32} (hP : pA S C i) (hL : L ≠ i + 1) (hl : lA S C L t) (hx : x = nI k) (hk : k < 12) : ax_CV l D mt_X3_moveBy [ax_r (some i), ax_i x, ax_i dx, ax_i dy, ax_r (some L)] S C (fun C' => ∃ v0 v1 h, C' = qW C i (va_up (va_up (C.1 (i + 1)) (8 * k + 0) v0) (8 * k + 1) v1) L h ∧ lA S C' L (chk (chk t (C.1 (i + 1) (8 * k + 0) + dx).toInt64 1) (C.1 (i + 1) (8 * k + 1) + dy).toInt64 1) ∧ (chk (chk t (C.1 (i + 1) (8 * k + 0) + dx).toInt64 1) (C.1 (i + 1) (8 * k + 1) + dy).toInt64 1 = 0 → v0 = qr (C.1 (i + 1) (8 * k + 0) + dx).toInt64 1 ∧ v1 = qr (C.1 (i + 1) (8 * k + 1) + dy).toInt64 1)) := by
  refine vc_X3_moveBy hP.1 ((c_get hP hx hk (f := 0) rfl (by omega)).use ?_)
  have e := qW_self C i L
  rw [← e] at hl
  have key := s_qput (l := l) (D := D) (C := C) (f := 0) (t := t) (x := (C.1 (i + 1) (8 * k + 0) + dx).toInt64) (y := 1) (P := fun C5 => ax_CI l D mt_X3_get [ax_r (some i), ax_i x, ax_i (1 : Int32)] S C5 (fun y7 C6 => ax_CI l D mt_X2_quotient [ax_r (some L), ax_l (y7 + dy).toInt64, ax_l (1 : Int64)] S C6 (fun y9 C8 => ax_CV l D mt_X3_put [ax_r (some i), ax_i x, ax_i (1 : Int32), ax_i y9] S C8 (fun C10 => ∃ v0 v1 h, C10 = qW C i (va_up (va_up (C.1 (i + 1)) (8 * k + 0) v0) (8 * k + 1) v1) L h ∧ lA S C10 L (chk (chk t (C.1 (i + 1) (8 * k + 0) + dx).toInt64 1) (C.1 (i + 1) (8 * k + 1) + dy).toInt64 1) ∧ (chk (chk t (C.1 (i + 1) (8 * k + 0) + dx).toInt64 1) (C.1 (i + 1) (8 * k + 1) + dy).toInt64 1 = 0 → v0 = qr (C.1 (i + 1) (8 * k + 0) + dx).toInt64 1 ∧ v1 = qr (C.1 (i + 1) (8 * k + 1) + dy).toInt64 1))))) hP hL hl hx hk (Y := 0) rfl (by omega) (by decide) (q_i1 _ _) ?_
  · rw [e] at key; exact key
  · intro v0 h0 l0 e0
    refine (c_get (C := qW C i _ L h0) hP hx hk (f := 1) rfl (by omega)).use ?_
    rw [qW_row hL, n_up_n (by omega)]
    refine s_qput hP hL l0 hx hk (f := 1) rfl (by omega) (by decide) (q_i1 _ _) fun v1 h1 l1 e1 => ⟨v0, v1, h1, rfl, l1, fun z => ⟨e0 ((chk_0 _ _ _).mp z).1, e1 z⟩⟩
/-- what the ratio tells of the other handle -/
def ft (row : Nat → Int32) (k : Nat) (o : Bool) (ax : Nat) : Int64 := -(row (8 * k + (if o then 7 else 6))).toInt64 * (row (8 * k + ((if o then 2 else 4) + ax))).toInt64
def fb (row : Nat → Int32) (k : Nat) (o : Bool) : Int64 := (row (8 * k + (if o then 6 else 7))).toInt64
theorem c_fitHandle {i L k : Nat} {t : Int32} {x z : Int32} {o : Bool} (hP : pA S C i) (hL : L ≠ i + 1) (hl : lA S C L t) (hx : x = nI k) (hk : k < 12) (hz : z = bI o) (hr : ¬ C.1 (i + 1) (8 * k + (if o then 6 else 7)) = 0) : ax_CV l D mt_X3_fitHandle [ax_r (some i), ax_i x, ax_i z, ax_r (some L)] S C (fun C' => ∃ v0 v1 h, C' = qW C i (va_up (va_up (C.1 (i + 1)) (8 * k + ((if o then 4 else 2) + 0)) v0) (8 * k + ((if o then 4 else 2) + 1)) v1) L h ∧ lA S C' L (chk (chk t (ft (C.1 (i + 1)) k o 0) (fb (C.1 (i + 1)) k o)) (ft (C.1 (i + 1)) k o 1) (fb (C.1 (i + 1)) k o)) ∧ (chk (chk t (ft (C.1 (i + 1)) k o 0) (fb (C.1 (i + 1)) k o)) (ft (C.1 (i + 1)) k o 1) (fb (C.1 (i + 1)) k o) = 0 → v0 = qr (ft (C.1 (i + 1)) k o 0) (fb (C.1 (i + 1)) k o) ∧ v1 = qr (ft (C.1 (i + 1)) k o 1) (fb (C.1 (i + 1)) k o))) := by
  have hb : ¬ fb (C.1 (i + 1)) k o = 0 := by
    intro q
    apply hr
    have := congrArg Int64.toInt q
    unfold fb at this
    rw [Int32.toInt_toInt64] at this
    exact Int32.toInt_inj.mp this
  have ho1 : z = 0 → o = false := fun q => by rw [hz] at q; rwa [bI_0] at q
  have ho2 : ¬ z = 0 → o = true := fun q => by rw [hz, bI_0] at q; simpa using q
  refine vc_X3_fitHandle hP.1 fun P9 P20 P35 P54 P63 h9 h20 h35 h54 h63 => ?_
  have e := qW_self C i L
  have body : P63 (nI (if o then 4 else 2)) (nI (if o then 2 else 4)) (C.1 (i + 1) (8 * k + (if o then 7 else 6))).toInt64 (C.1 (i + 1) (8 * k + (if o then 6 else 7))).toInt64 0 C := by
    have hf : (if o = true then 4 else 2) < 6 ∧ (if o = true then 2 else 4) < 6 ∧ (if o = true then 2 else 4) + 2 ≠ (if o = true then 4 else 2) + 3 ∧ (if o = true then 2 else 4) + 1 ≠ (if o = true then 4 else 2) := by cases o <;> decide
    refine h63 _ _ _ _ _ _ ⟨fun q => absurd q (by decide), fun _ => (c_get hP hx hk (f := (if o then 2 else 4) + 0) (by simp (disch := omega) only [n_lit0, n_lit1, n_lit2, n_lit3, n_lit4, n_lit5, n_lit6, n_lit7, n_lit8, n_lit9, n_lit10, n_lit11, n_lit12, n_lit13, n_lit14, n_lit15, n_lit16, n_lit17, n_lit18, n_lit19, n_lit20, n_lit21, n_lit22, n_lit23, n_lit24, n_lit30, n_lit31, n_lit32, n_lit45, n_lit48, n_lit49, n_lit57, n_lit59, n_lit60, n_lit67, n_lit76, n_lit77, n_lit90, n_lit96, n_lit97, n_lit98, n_lit99, n_lit100, n_lit119, n_lit120, n_lit127, n_lit128, n_lit196, n_lit200, n_lit208, n_lit294, n_lit340, n_lit341, n_lit392, n_lit490, n_lit491, n_lit500, n_lit588, n_lit589, n_lit999, n_lit1178, n_lit5301, n_lit5890, n_lit46656, n_add, n_mul, n_sub, n_lt_t, n_lt_f, n_le_t, n_le_f, n_eq_t, n_eq_f, n_clamp, n_in_t, ax_sm_s, true_and, and_true, not_true_eq_false, not_false_eq_true, true_imp, false_imp, imp_true, and_self, ax_wI_2, ax_rI_2, ax_wI_t, ax_wI_n, ax_rI_t, ax_rI_n, n_up_t, n_up_n, ne_eq, or_true, true_or, false_or, or_false, some_ex, n_none1, n_none2, ite_true, ite_false]) (by omega)).use ?_⟩
    rw [← e] at hl
    have key := s_qput (l := l) (D := D) (C := C) (f := (if o then 4 else 2) + 0) (t := t) (x := ft (C.1 (i + 1)) k o 0) (y := fb (C.1 (i + 1)) k o) (P := fun C5 => P63 (nI (if o then 4 else 2)) (nI (if o then 2 else 4)) (C.1 (i + 1) (8 * k + (if o then 7 else 6))).toInt64 (C.1 (i + 1) (8 * k + (if o then 6 else 7))).toInt64 (0 + 1) C5) hP hL hl hx hk (Y := nI (if o then 4 else 2) + 0) (by simp (disch := omega) only [n_lit0, n_lit1, n_lit2, n_lit3, n_lit4, n_lit5, n_lit6, n_lit7, n_lit8, n_lit9, n_lit10, n_lit11, n_lit12, n_lit13, n_lit14, n_lit15, n_lit16, n_lit17, n_lit18, n_lit19, n_lit20, n_lit21, n_lit22, n_lit23, n_lit24, n_lit30, n_lit31, n_lit32, n_lit45, n_lit48, n_lit49, n_lit57, n_lit59, n_lit60, n_lit67, n_lit76, n_lit77, n_lit90, n_lit96, n_lit97, n_lit98, n_lit99, n_lit100, n_lit119, n_lit120, n_lit127, n_lit128, n_lit196, n_lit200, n_lit208, n_lit294, n_lit340, n_lit341, n_lit392, n_lit490, n_lit491, n_lit500, n_lit588, n_lit589, n_lit999, n_lit1178, n_lit5301, n_lit5890, n_lit46656, n_add, n_mul, n_sub, n_lt_t, n_lt_f, n_le_t, n_le_f, n_eq_t, n_eq_f, n_clamp, n_in_t, ax_sm_s, true_and, and_true, not_true_eq_false, not_false_eq_true, true_imp, false_imp, imp_true, and_self, ax_wI_2, ax_rI_2, ax_wI_t, ax_wI_n, ax_rI_t, ax_rI_n, n_up_t, n_up_n, ne_eq, or_true, true_or, false_or, or_false, some_ex, n_none1, n_none2, ite_true, ite_false]) (by omega) hb (q_i2 _ _ _) ?_
    · rw [e] at key; exact key
    · intro v0 h0 l0 e0
      refine h63 _ _ _ _ _ _ ⟨fun q => absurd q (by decide), fun _ => (c_get (C := qW C i _ L h0) hP hx hk (f := (if o then 2 else 4) + 1) (by simp (disch := omega) only [n_lit0, n_lit1, n_lit2, n_lit3, n_lit4, n_lit5, n_lit6, n_lit7, n_lit8, n_lit9, n_lit10, n_lit11, n_lit12, n_lit13, n_lit14, n_lit15, n_lit16, n_lit17, n_lit18, n_lit19, n_lit20, n_lit21, n_lit22, n_lit23, n_lit24, n_lit30, n_lit31, n_lit32, n_lit45, n_lit48, n_lit49, n_lit57, n_lit59, n_lit60, n_lit67, n_lit76, n_lit77, n_lit90, n_lit96, n_lit97, n_lit98, n_lit99, n_lit100, n_lit119, n_lit120, n_lit127, n_lit128, n_lit196, n_lit200, n_lit208, n_lit294, n_lit340, n_lit341, n_lit392, n_lit490, n_lit491, n_lit500, n_lit588, n_lit589, n_lit999, n_lit1178, n_lit5301, n_lit5890, n_lit46656, n_add, n_mul, n_sub, n_lt_t, n_lt_f, n_le_t, n_le_f, n_eq_t, n_eq_f, n_clamp, n_in_t, ax_sm_s, true_and, and_true, not_true_eq_false, not_false_eq_true, true_imp, false_imp, imp_true, and_self, ax_wI_2, ax_rI_2, ax_wI_t, ax_wI_n, ax_rI_t, ax_rI_n, n_up_t, n_up_n, ne_eq, or_true, true_or, false_or, or_false, some_ex, n_none1, n_none2, ite_true, ite_false]) (by omega)).use ?_⟩
      rw [qW_row hL, n_up_n (by cases o <;> simp)]
      refine s_qput (x := ft (C.1 (i + 1)) k o 1) (y := fb (C.1 (i + 1)) k o) hP hL l0 hx hk (f := (if o then 4 else 2) + 1) (by simp (disch := omega) only [n_lit0, n_lit1, n_lit2, n_lit3, n_lit4, n_lit5, n_lit6, n_lit7, n_lit8, n_lit9, n_lit10, n_lit11, n_lit12, n_lit13, n_lit14, n_lit15, n_lit16, n_lit17, n_lit18, n_lit19, n_lit20, n_lit21, n_lit22, n_lit23, n_lit24, n_lit30, n_lit31, n_lit32, n_lit45, n_lit48, n_lit49, n_lit57, n_lit59, n_lit60, n_lit67, n_lit76, n_lit77, n_lit90, n_lit96, n_lit97, n_lit98, n_lit99, n_lit100, n_lit119, n_lit120, n_lit127, n_lit128, n_lit196, n_lit200, n_lit208, n_lit294, n_lit340, n_lit341, n_lit392, n_lit490, n_lit491, n_lit500, n_lit588, n_lit589, n_lit999, n_lit1178, n_lit5301, n_lit5890, n_lit46656, n_add, n_mul, n_sub, n_lt_t, n_lt_f, n_le_t, n_le_f, n_eq_t, n_eq_f, n_clamp, n_in_t, ax_sm_s, true_and, and_true, not_true_eq_false, not_false_eq_true, true_imp, false_imp, imp_true, and_self, ax_wI_2, ax_rI_2, ax_wI_t, ax_wI_n, ax_rI_t, ax_rI_n, n_up_t, n_up_n, ne_eq, or_true, true_or, false_or, or_false, some_ex, n_none1, n_none2, ite_true, ite_false]) (by omega) hb (q_i2 _ _ _) fun v1 h1 l1 e1 => ?_
      exact h63 _ _ _ _ _ _ ⟨fun _ => ⟨v0, v1, h1, rfl, l1, fun z => ⟨e0 ((chk_0 _ _ _).mp z).1, e1 z⟩⟩, fun q => absurd (by decide) q⟩
  have b54 : P54 (nI (if o then 4 else 2)) (nI (if o then 2 else 4)) (C.1 (i + 1) (8 * k + (if o then 7 else 6))).toInt64 (if o then 6 else 7) C := by
    refine h54 _ _ _ _ _ ?_
    cases o
    · exact (c_get hP hx hk (f := 7) rfl (by omega)).use body
    · exact (c_get hP hx hk (f := 6) rfl (by omega)).use body
  have b35 : P35 (nI (if o then 4 else 2)) (nI (if o then 2 else 4)) (if o then 7 else 6) C := by
    refine h35 _ _ _ _ ?_
    cases o
    · exact (c_get hP hx hk (f := 6) rfl (by omega)).use ⟨fun _ => b54, fun q => by have := ho2 q; cases this⟩
    · exact (c_get hP hx hk (f := 7) rfl (by omega)).use ⟨fun q => (by have := ho1 q; cases this), fun _ => b54⟩
  cases o
  · exact ⟨fun _ => h9 _ _ ⟨fun _ => h20 _ _ _ ⟨fun _ => b35, fun q => by have := ho2 q; cases this⟩, fun q => by have := ho2 q; cases this⟩, fun q => by have := ho2 q; cases this⟩
  · exact ⟨fun q => by (have := ho1 q; cases this), fun _ => h9 _ _ ⟨fun q => by (have := ho1 q; cases this), fun _ => h20 _ _ _ ⟨fun q => by (have := ho1 q; cases this), fun _ => b35⟩⟩⟩
end
