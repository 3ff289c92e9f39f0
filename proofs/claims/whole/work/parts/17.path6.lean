/-! ===== Path: mapped, scaled, copied, split, joined ===== -/
/-- the two sums of a mapping, by field -/
def mn (row : Nat → Int32) (k : Nat) (a b c d : Int64) (f : Nat) : Int64 := if f % 2 = 0 then a * (row (8 * k + f)).toInt64 + b * (row (8 * k + (f + 1))).toInt64 else c * (row (8 * k + (f - 1))).toInt64 + d * (row (8 * k + f)).toInt64
def mT (row : Nat → Int32) (k : Nat) (a b c d q : Int64) (t : Int32) : Nat → Int32
  | 0 => t
  | f + 1 => chk (mT row k a b c d q t f) (mn row k a b c d f) q
theorem mT_0 {row : Nat → Int32} {k : Nat} {a b c d q : Int64} {t : Int32} : ∀ {m : Nat}, mT row k a b c d q t m = 0 → ∀ j, j ≤ m → mT row k a b c d q t j = 0
  | 0, h, j, hj => by
    have : j = 0 := by omega
    rw [this]; exact h
  | m + 1, h, j, hj => by
    by_cases z : j = m + 1
    · rw [z]; exact h
    · exact mT_0 ((chk_0 _ _ _).mp h).1 j (by omega)
/-- ints, longs of a Cut -/
def lW (C : ax_C) (c : Nat) (F : Nat → Int64) : ax_C := (C.1, va_up C.2.1 c F, C.2.2)
theorem lW_lW (C : ax_C) (c : Nat) (F G : Nat → Int64) : lW (lW C c F) c G = lW C c G := by
  show (C.1, va_up (va_up C.2.1 c F) c G, C.2.2) = (C.1, va_up C.2.1 c G, C.2.2)
  rw [bx_uu]
theorem lW_self (C : ax_C) (c : Nat) : lW C c (C.2.1 c) = C := by
  obtain ⟨x, y, z⟩ := C
  show (x, va_up y c (y c), z) = (x, y, z)
  have : va_up y c (y c) = y := by
    funext j
    by_cases h : j = c
    · subst h; exact va_up_self _ _ _
    · exact va_up_ne _ _ h
  rw [this]
theorem lW_q (C : ax_C) (i L c : Nat) (g h : Nat → Int32) (F G : Nat → Int64) : lW (qW (lW C c F) i g L h) c G = qW (lW C c G) i g L h := by
  show ((qW C i g L h).1, va_up (va_up C.2.1 c F) c G, C.2.2) = ((qW C i g L h).1, va_up C.2.1 c G, C.2.2)
  rw [bx_uu]
def cR (p0 p1 p2 r a : Int64) : Int64 := ((p0 * r) + (p1 * a)) * r + ((p1 * r) + (p2 * a)) * a
def cS (p0 p1 p2 p3 r a : Int64) : Int64 := cR p0 p1 p2 r a * r + cR p1 p2 p3 r a * a
section
variable {l : Launch} {D : ax_D} {S : ax_S} {C : ax_C}
theorem c_mapNode {i L k : Nat} {t : Int32} {x q : Int32} {a b c d : Int64} (hP : pA S C i) (hL : L ≠ i + 1) (hl : lA S C L t) (hx : x = nI k) (hk : k < 12) (hq : ¬ q = 0) (h1 : ∀ u v : Int32, (-4611686018427387904 : Int64) ≤ (a * u.toInt64 + b * v.toInt64) / q.toInt64) (h2 : ∀ u v : Int32, (-4611686018427387904 : Int64) ≤ (c * u.toInt64 + d * v.toInt64) / q.toInt64) : ax_CV l D mt_X3_mapNode [ax_r (some i), ax_i x, ax_l a, ax_l b, ax_l c, ax_l d, ax_i q, ax_r (some L)] S C (fun C' => ∃ g h, C' = qW C i g L h ∧ lA S C' L (mT (C.1 (i + 1)) k a b c d q.toInt64 t 6) ∧ (∀ j, (j < 8 * k ∨ 8 * k + 6 ≤ j) → g j = C.1 (i + 1) j) ∧ (mT (C.1 (i + 1)) k a b c d q.toInt64 t 6 = 0 → ∀ f, f < 6 → g (8 * k + f) = qr (mn (C.1 (i + 1)) k a b c d f) q.toInt64)) := by
  have hq2 : ¬ q.toInt64 = 0 := by
    intro z
    apply hq
    have := congrArg Int64.toInt z
    rw [Int32.toInt_toInt64] at this
    exact Int32.toInt_inj.mp this
  refine vc_X3_mapNode hP.1 fun P3 h3 => ?_
  have loop : ∀ (m s : Nat) (g h : Nat → Int32), s + m = 3 → lA S (qW C i g L h) L (mT (C.1 (i + 1)) k a b c d q.toInt64 t (2 * s)) → (∀ j, (j < 8 * k ∨ 8 * k + 2 * s ≤ j) → g j = C.1 (i + 1) j) → (mT (C.1 (i + 1)) k a b c d q.toInt64 t (2 * s) = 0 → ∀ f, f < 2 * s → g (8 * k + f) = qr (mn (C.1 (i + 1)) k a b c d f) q.toInt64) → P3 (nI (2 * s)) (qW C i g L h) := by
    intro m
    induction m with
    | zero =>
      intro s g h hs hl hg hv
      have : s = 3 := by omega
      subst this
      exact h3 _ _ ⟨fun _ => ⟨g, h, rfl, hl, hg, hv⟩, fun z => n_absurd (by simp (disch := omega) only [n_lit0, n_lit1, n_lit2, n_lit3, n_lit4, n_lit5, n_lit6, n_lit7, n_lit8, n_lit9, n_lit10, n_lit11, n_lit12, n_lit13, n_lit14, n_lit15, n_lit16, n_lit17, n_lit18, n_lit19, n_lit20, n_lit21, n_lit22, n_lit23, n_lit24, n_lit30, n_lit31, n_lit32, n_lit45, n_lit48, n_lit49, n_lit57, n_lit59, n_lit60, n_lit67, n_lit76, n_lit77, n_lit90, n_lit96, n_lit97, n_lit98, n_lit99, n_lit100, n_lit119, n_lit120, n_lit127, n_lit128, n_lit196, n_lit200, n_lit208, n_lit294, n_lit340, n_lit341, n_lit392, n_lit490, n_lit491, n_lit500, n_lit588, n_lit589, n_lit999, n_lit1178, n_lit5301, n_lit5890, n_lit46656, n_add, n_mul, n_sub, n_lt_t, n_lt_f, n_le_t, n_le_f, n_eq_t, n_eq_f, n_clamp, n_in_t, ax_sm_s, true_and, and_true, not_true_eq_false, not_false_eq_true, true_imp, false_imp, imp_true, and_self, ax_wI_2, ax_rI_2, ax_wI_t, ax_wI_n, ax_rI_t, ax_rI_n, n_up_t, n_up_n, ne_eq, or_true, true_or, false_or, or_false, some_ex, n_none1, n_none2, ite_true, ite_false]) z⟩
    | succ m ih =>
      intro s g h hs hl hg hv
      refine h3 _ _ ⟨fun z => n_absurd z (by simp (disch := omega) only [n_lit0, n_lit1, n_lit2, n_lit3, n_lit4, n_lit5, n_lit6, n_lit7, n_lit8, n_lit9, n_lit10, n_lit11, n_lit12, n_lit13, n_lit14, n_lit15, n_lit16, n_lit17, n_lit18, n_lit19, n_lit20, n_lit21, n_lit22, n_lit23, n_lit24, n_lit30, n_lit31, n_lit32, n_lit45, n_lit48, n_lit49, n_lit57, n_lit59, n_lit60, n_lit67, n_lit76, n_lit77, n_lit90, n_lit96, n_lit97, n_lit98, n_lit99, n_lit100, n_lit119, n_lit120, n_lit127, n_lit128, n_lit196, n_lit200, n_lit208, n_lit294, n_lit340, n_lit341, n_lit392, n_lit490, n_lit491, n_lit500, n_lit588, n_lit589, n_lit999, n_lit1178, n_lit5301, n_lit5890, n_lit46656, n_add, n_mul, n_sub, n_lt_t, n_lt_f, n_le_t, n_le_f, n_eq_t, n_eq_f, n_clamp, n_in_t, ax_sm_s, true_and, and_true, not_true_eq_false, not_false_eq_true, true_imp, false_imp, imp_true, and_self, ax_wI_2, ax_rI_2, ax_wI_t, ax_wI_n, ax_rI_t, ax_rI_n, n_up_t, n_up_n, ne_eq, or_true, true_or, false_or, or_false, some_ex, n_none1, n_none2, ite_true, ite_false]), fun _ => (c_get (C := qW C i g L h) hP hx hk (f := 2 * s) rfl (by omega)).use ((c_get (C := qW C i g L h) hP hx hk (f := 2 * s + 1) (by simp (disch := omega) only [n_lit0, n_lit1, n_lit2, n_lit3, n_lit4, n_lit5, n_lit6, n_lit7, n_lit8, n_lit9, n_lit10, n_lit11, n_lit12, n_lit13, n_lit14, n_lit15, n_lit16, n_lit17, n_lit18, n_lit19, n_lit20, n_lit21, n_lit22, n_lit23, n_lit24, n_lit30, n_lit31, n_lit32, n_lit45, n_lit48, n_lit49, n_lit57, n_lit59, n_lit60, n_lit67, n_lit76, n_lit77, n_lit90, n_lit96, n_lit97, n_lit98, n_lit99, n_lit100, n_lit119, n_lit120, n_lit127, n_lit128, n_lit196, n_lit200, n_lit208, n_lit294, n_lit340, n_lit341, n_lit392, n_lit490, n_lit491, n_lit500, n_lit588, n_lit589, n_lit999, n_lit1178, n_lit5301, n_lit5890, n_lit46656, n_add, n_mul, n_sub, n_lt_t, n_lt_f, n_le_t, n_le_f, n_eq_t, n_eq_f, n_clamp, n_in_t, ax_sm_s, true_and, and_true, not_true_eq_false, not_false_eq_true, true_imp, false_imp, imp_true, and_self, ax_wI_2, ax_rI_2, ax_wI_t, ax_wI_n, ax_rI_t, ax_rI_n, n_up_t, n_up_n, ne_eq, or_true, true_or, false_or, or_false, some_ex, n_none1, n_none2, ite_true, ite_false]) (by omega)).use ?_)⟩
      rw [qW_row hL, hg _ (by omega), hg (8 * k + (2 * s + 1)) (by omega)]
      have e1 : mn (C.1 (i + 1)) k a b c d (2 * s) = a * (C.1 (i + 1) (8 * k + 2 * s)).toInt64 + b * (C.1 (i + 1) (8 * k + (2 * s + 1))).toInt64 := by
        unfold mn; rw [if_pos (by omega)]
      have e2 : mn (C.1 (i + 1)) k a b c d (2 * s + 1) = c * (C.1 (i + 1) (8 * k + 2 * s)).toInt64 + d * (C.1 (i + 1) (8 * k + (2 * s + 1))).toInt64 := by
        unfold mn; rw [if_neg (by omega)]; rfl
      rw [← e1, ← e2]
      refine s_qput hP hL hl hx hk (f := 2 * s) rfl (by omega) hq2 (by rw [e1]; exact h1 _ _) fun v0 h0 l0 w0 => ?_
      refine s_qput hP hL l0 hx hk (f := 2 * s + 1) (by simp (disch := omega) only [n_lit0, n_lit1, n_lit2, n_lit3, n_lit4, n_lit5, n_lit6, n_lit7, n_lit8, n_lit9, n_lit10, n_lit11, n_lit12, n_lit13, n_lit14, n_lit15, n_lit16, n_lit17, n_lit18, n_lit19, n_lit20, n_lit21, n_lit22, n_lit23, n_lit24, n_lit30, n_lit31, n_lit32, n_lit45, n_lit48, n_lit49, n_lit57, n_lit59, n_lit60, n_lit67, n_lit76, n_lit77, n_lit90, n_lit96, n_lit97, n_lit98, n_lit99, n_lit100, n_lit119, n_lit120, n_lit127, n_lit128, n_lit196, n_lit200, n_lit208, n_lit294, n_lit340, n_lit341, n_lit392, n_lit490, n_lit491, n_lit500, n_lit588, n_lit589, n_lit999, n_lit1178, n_lit5301, n_lit5890, n_lit46656, n_add, n_mul, n_sub, n_lt_t, n_lt_f, n_le_t, n_le_f, n_eq_t, n_eq_f, n_clamp, n_in_t, ax_sm_s, true_and, and_true, not_true_eq_false, not_false_eq_true, true_imp, false_imp, imp_true, and_self, ax_wI_2, ax_rI_2, ax_wI_t, ax_wI_n, ax_rI_t, ax_rI_n, n_up_t, n_up_n, ne_eq, or_true, true_or, false_or, or_false, some_ex, n_none1, n_none2, ite_true, ite_false]) (by omega) hq2 (by rw [e2]; exact h2 _ _) fun v1 h1' l1 w1 => ?_
      rw [n_lit2, n_add]
      refine ih (s + 1) _ _ (by omega) l1 (fun j hj => ?_) fun z f hf => ?_
      · rw [n_up_n (by omega), n_up_n (by omega), hg _ (by omega)]
      · have z1 := w1 z
        have zz := ((chk_0 _ _ _).mp z).1
        have z0 := w0 zz
        have zv := hv ((chk_0 _ _ _).mp zz).1
        by_cases q1 : f = 2 * s + 1
        · rw [q1, n_up_t rfl]; exact z1
        · rw [n_up_n (by omega)]
          by_cases q0 : f = 2 * s
          · rw [q0, n_up_t rfl]; exact z0
          · rw [n_up_n (by omega)]; exact zv f (by omega)
  have := loop 3 0 (C.1 (i + 1)) (C.1 L) rfl (by rw [qW_self]; exact hl) (fun j _ => rfl) (fun _ f hf => by omega)
  rw [qW_self] at this
  exact this
theorem c_scaleHandle {i L k f : Nat} {t : Int32} {x y a b : Int32} (hP : pA S C i) (hL : L ≠ i + 1) (hl : lA S C L t) (hx : x = nI k) (hk : k < 12) (hy : y = nI f) (hf : f < 8) (hb : ¬ b = 0) : ax_CV l D mt_X3_scaleHandle [ax_r (some i), ax_i x, ax_i y, ax_i a, ax_i b, ax_r (some L)] S C (fun C' => ∃ v h, C' = qW C i (va_up (C.1 (i + 1)) (8 * k + f) v) L h ∧ lA S C' L (chk t ((C.1 (i + 1) (8 * k + f)).toInt64 * a.toInt64) b.toInt64) ∧ (chk t ((C.1 (i + 1) (8 * k + f)).toInt64 * a.toInt64) b.toInt64 = 0 → v = qr ((C.1 (i + 1) (8 * k + f)).toInt64 * a.toInt64) b.toInt64)) := by
  have hb2 : ¬ b.toInt64 = 0 := by
    intro z
    apply hb
    have := congrArg Int64.toInt z
    rw [Int32.toInt_toInt64] at this
    exact Int32.toInt_inj.mp this
  refine vc_X3_scaleHandle hP.1 ((c_get hP hx hk hy hf).use ?_)
  have e := qW_self C i L
  rw [← e] at hl
  have key := s_qput (l := l) (D := D) (C := C) (f := f) (t := t) (x := (C.1 (i + 1) (8 * k + f)).toInt64 * a.toInt64) (y := b.toInt64) (P := fun C' => ∃ v h, C' = qW C i (va_up (C.1 (i + 1)) (8 * k + f) v) L h ∧ lA S C' L (chk t ((C.1 (i + 1) (8 * k + f)).toInt64 * a.toInt64) b.toInt64) ∧ (chk t ((C.1 (i + 1) (8 * k + f)).toInt64 * a.toInt64) b.toInt64 = 0 → v = qr ((C.1 (i + 1) (8 * k + f)).toInt64 * a.toInt64) b.toInt64)) hP hL hl hx hk hy hf hb2 (q_i3 _ _ _) (fun v0 h0 l0 e0 => ⟨v0, h0, rfl, l0, e0⟩)
  rw [e] at key
  exact key
/-- a ratio that is scaled, or a corner -/
def sr (row : Nat → Int32) (k p q : Nat) (b : Bool) : Nat → Int32 := if b = true then rw2 row k p q else row
theorem c_scaleRatio {i k p q u v : Nat} {x y z : Int32} (hP : pA S C i) (hx : x = nI k) (hk : k < 12) (hp : C.1 (i + 1) (8 * k + 6) = nI p) (hq : C.1 (i + 1) (8 * k + 7) = nI q) (hy : y = nI u) (hz : z = nI v) (h1 : p ≤ 999) (h2 : q ≤ 999) (hu : 0 < u) (hu2 : u ≤ 6) (hv : v ≤ 6) : ax_CV l D mt_X3_scaleRatio [ax_r (some i), ax_i x, ax_i y, ax_i z] S C (fun C' => C' = ax_rI C (i + 1) (sr (C.1 (i + 1)) k (p * u) (q * v) (decide (0 < p)))) := by
  have m1 : p * u ≤ 999 * 6 := Nat.mul_le_mul h1 hu2
  have m2 : q * v ≤ 999 * 6 := Nat.mul_le_mul h2 hv
  refine vc_X3_scaleRatio hP.1 ((c_isSmooth hP hx hk).use ?_)
  rw [hp]
  by_cases z0 : p = 0
  · subst z0
    refine ⟨fun _ => ?_, fun w => absurd (by decide) w⟩
    simp only [sr, Nat.lt_irrefl, decide_false, Bool.false_eq_true, if_false]
    rw [ax_rI_id]
  · rw [if_neg (nI_ne0 (by omega) (by omega))]
    refine ⟨fun w => absurd w (by decide), fun _ => (c_get hP hx hk (f := 6) rfl (by omega)).use ((c_get hP hx hk (f := 7) rfl (by omega)).use ?_)⟩
    rw [hp, hq, hy, hz, n_mul, n_mul]
    refine (c_putRatio hP hx hk rfl rfl (Nat.mul_pos (by omega) hu) (by omega) (by omega)).use ?_
    rw [show decide (0 < p) = true by simp; omega]
    rfl
theorem c_makeEmpty {i : Nat} (h : S.1 i = 4) : ax_CV l D mt_X3_makeEmpty [ax_r (some i)] S C (fun C' => C' = pW C i (C.1 (i + 1)) 0 0) := by
  refine vc_X3_makeEmpty h ⟨h, Or.inl rfl, h, ?_⟩
  have := pW_self C i
  rw [← this, pW_wI1, pW_wI2, this]
theorem c_copyFromP {i j : Nat} (hP : pA S C i) (hQ : pA S C j) (h1 : j ≠ i) (h2 : j + 1 ≠ i) (h3 : j ≠ i + 1) (hc : C.1 j 2 = 0 ∨ C.1 j 2 = 1) : ax_CV l D mt_X3_copyFrom [ax_r (some i), ax_r (some j)] S C (fun C' => C' = pW C i (fun q => if q < 96 then C.1 (j + 1) q else C.1 (i + 1) q) (C.1 j 1) (C.1 j 2)) := by
  have e1 : ∀ G : Nat → Int32, (ax_rI C (i + 1) G).1 j = C.1 j := fun G => ax_rI_n h3
  have e2 : ∀ G : Nat → Int32, ∀ s : Int32, (ax_wI (ax_rI C (i + 1) G) i 1 s).1 j = C.1 j := fun G s => by rw [ax_wI_n h1]; exact e1 G
  refine vc_X3_copyFrom hP.1 ?_
  refine ⟨hQ.1, hP.1, ?_⟩
  rw [hP.2.2.2, hQ.2.2.2]
  refine ⟨hP.2.1, hQ.2.1, by decide, by decide, by decide, ?_, ?_, hQ.1, hP.1, hQ.1, ?_⟩
  · rw [hQ.2.2.1]; decide
  · rw [hP.2.2.1]; decide
  · rw [e1, e2]
    refine ⟨hc, hP.1, ?_⟩
    rw [pW_of, pW_wI1, pW_wI2]
    congr 1
    funext q
    show va_cpy _ _ 0 0 96 q = _
    unfold va_cpy
    by_cases z : q < 96
    · rw [if_pos (by omega), if_pos z]; exact congrArg _ (by omega)
    · rw [if_neg (by omega), if_neg z]
theorem c_addNodesOf {i j n m : Nat} (hP : pA S C i) (hQ : pA S C j) (h1 : j ≠ i) (h2 : j + 1 ≠ i) (h3 : j ≠ i + 1) (hs : C.1 i 1 = nI n) (ht : C.1 j 1 = nI m) (hn : n + m ≤ 12) : ax_CV l D mt_X3_addNodesOf [ax_r (some i), ax_r (some j)] S C (fun C' => C' = pW C i (fun q => if 8 * n ≤ q ∧ q < 8 * (n + m) then C.1 (j + 1) (q - 8 * n) else C.1 (i + 1) q) (nI (n + m)) (C.1 i 2)) := by
  refine vc_X3_addNodesOf hP.1 fun P2 h2' => ?_
  have loop : ∀ (r k : Nat) (g : Nat → Int32), k + r = m → (∀ q, g q = if 8 * n ≤ q ∧ q < 8 * (n + k) then C.1 (j + 1) (q - 8 * n) else C.1 (i + 1) q) → P2 (nI k) (pW C i g (nI (n + k)) (C.1 i 2)) := by
    intro r
    induction r with
    | zero =>
      intro k g hk hg
      have : k = m := by omega
      subst this
      refine h2' _ _ ⟨hQ.1, ?_⟩
      rw [pW_n h1 h3, ht]
      refine ⟨fun _ => ?_, fun z => n_absurd (by simp (disch := omega) only [n_lit0, n_lit1, n_lit2, n_lit3, n_lit4, n_lit5, n_lit6, n_lit7, n_lit8, n_lit9, n_lit10, n_lit11, n_lit12, n_lit13, n_lit14, n_lit15, n_lit16, n_lit17, n_lit18, n_lit19, n_lit20, n_lit21, n_lit22, n_lit23, n_lit24, n_lit30, n_lit31, n_lit32, n_lit45, n_lit48, n_lit49, n_lit57, n_lit59, n_lit60, n_lit67, n_lit76, n_lit77, n_lit90, n_lit96, n_lit97, n_lit98, n_lit99, n_lit100, n_lit119, n_lit120, n_lit127, n_lit128, n_lit196, n_lit200, n_lit208, n_lit294, n_lit340, n_lit341, n_lit392, n_lit490, n_lit491, n_lit500, n_lit588, n_lit589, n_lit999, n_lit1178, n_lit5301, n_lit5890, n_lit46656, n_add, n_mul, n_sub, n_lt_t, n_lt_f, n_le_t, n_le_f, n_eq_t, n_eq_f, n_clamp, n_in_t, ax_sm_s, true_and, and_true, not_true_eq_false, not_false_eq_true, true_imp, false_imp, imp_true, and_self, ax_wI_2, ax_rI_2, ax_wI_t, ax_wI_n, ax_rI_t, ax_rI_n, n_up_t, n_up_n, ne_eq, or_true, true_or, false_or, or_false, some_ex, n_none1, n_none2, ite_true, ite_false]) z⟩
      rw [show g = _ from funext hg]
    | succ r ih =>
      intro k g hk hg
      refine h2' _ _ ⟨hQ.1, ?_⟩
      rw [pW_n h1 h3, ht]
      refine ⟨fun z => n_absurd z (by simp (disch := omega) only [n_lit0, n_lit1, n_lit2, n_lit3, n_lit4, n_lit5, n_lit6, n_lit7, n_lit8, n_lit9, n_lit10, n_lit11, n_lit12, n_lit13, n_lit14, n_lit15, n_lit16, n_lit17, n_lit18, n_lit19, n_lit20, n_lit21, n_lit22, n_lit23, n_lit24, n_lit30, n_lit31, n_lit32, n_lit45, n_lit48, n_lit49, n_lit57, n_lit59, n_lit60, n_lit67, n_lit76, n_lit77, n_lit90, n_lit96, n_lit97, n_lit98, n_lit99, n_lit100, n_lit119, n_lit120, n_lit127, n_lit128, n_lit196, n_lit200, n_lit208, n_lit294, n_lit340, n_lit341, n_lit392, n_lit490, n_lit491, n_lit500, n_lit588, n_lit589, n_lit999, n_lit1178, n_lit5301, n_lit5890, n_lit46656, n_add, n_mul, n_sub, n_lt_t, n_lt_f, n_le_t, n_le_f, n_eq_t, n_eq_f, n_clamp, n_in_t, ax_sm_s, true_and, and_true, not_true_eq_false, not_false_eq_true, true_imp, false_imp, imp_true, and_self, ax_wI_2, ax_rI_2, ax_wI_t, ax_wI_n, ax_rI_t, ax_rI_n, n_up_t, n_up_n, ne_eq, or_true, true_or, false_or, or_false, some_ex, n_none1, n_none2, ite_true, ite_false]), fun _ => (c_addCopy (C := pW C i g _ _) hP hQ (Or.inr (by omega)) (pW_s _ _ _ _ _) (by omega) rfl (by omega)).use ?_⟩
      rw [pW_pW, pW_c, pW_row, pW_n (b := j + 1) h2 (by omega), n_succ]
      refine ih (k + 1) _ (by omega) fun q => ?_
      unfold nd
      by_cases z : 8 * (n + k) ≤ q ∧ q < 8 * (n + k) + 8
      · rw [if_pos z, if_pos (by omega)]; dsimp only; exact congrArg _ (by omega)
      · rw [if_neg z, hg]
        by_cases z2 : 8 * n ≤ q ∧ q < 8 * (n + k)
        · rw [if_pos z2, if_pos (by omega)]
        · rw [if_neg z2, if_neg (by omega)]
  have := loop m 0 (C.1 (i + 1)) (by omega) (fun q => by rw [if_neg (by omega)])
  rw [show nI (n + 0) = C.1 i 1 by rw [hs]; rfl, pW_self] at this
  exact this
theorem c_moveTail {i j n k : Nat} {x : Int32} (hP : pA S C i) (hQ : pA S C j) (h1 : j ≠ i) (h2 : j + 1 ≠ i) (h3 : j ≠ i + 1) (hs : C.1 i 1 = nI n) (hn : n ≤ 12) (ht : C.1 j 1 = nI 0) (hx : x = nI k) (hk : k < n) : ax_CV l D mt_X3_moveTail [ax_r (some i), ax_i x, ax_r (some j)] S C (fun C' => ∃ g, C' = ax_wI (pW C j g (nI (n - k)) (C.1 j 2)) i 1 (nI (k + 1)) ∧ ∀ q, q < 8 * (n - k) → g q = C.1 (i + 1) (8 * k + q)) := by
  subst hx
  refine vc_X3_moveTail hP.1 fun P2 h2' => ?_
  have loop : ∀ (r s : Nat) (g : Nat → Int32), k + s + r = n → (∀ q, q < 8 * s → g q = C.1 (i + 1) (8 * k + q)) → P2 (nI (k + s)) (pW C j g (nI s) (C.1 j 2)) := by
    intro r
    induction r with
    | zero =>
      intro s g hk hg
      have : s = n - k := by omega
      subst this
      refine h2' _ _ ⟨hP.1, ?_⟩
      rw [pW_n (b := i) (fun z => h1 z.symm) (fun z => h2 z.symm), hs]
      refine ⟨fun _ => ⟨hP.1, ?_⟩, fun z => n_absurd (by simp (disch := omega) only [n_lit0, n_lit1, n_lit2, n_lit3, n_lit4, n_lit5, n_lit6, n_lit7, n_lit8, n_lit9, n_lit10, n_lit11, n_lit12, n_lit13, n_lit14, n_lit15, n_lit16, n_lit17, n_lit18, n_lit19, n_lit20, n_lit21, n_lit22, n_lit23, n_lit24, n_lit30, n_lit31, n_lit32, n_lit45, n_lit48, n_lit49, n_lit57, n_lit59, n_lit60, n_lit67, n_lit76, n_lit77, n_lit90, n_lit96, n_lit97, n_lit98, n_lit99, n_lit100, n_lit119, n_lit120, n_lit127, n_lit128, n_lit196, n_lit200, n_lit208, n_lit294, n_lit340, n_lit341, n_lit392, n_lit490, n_lit491, n_lit500, n_lit588, n_lit589, n_lit999, n_lit1178, n_lit5301, n_lit5890, n_lit46656, n_add, n_mul, n_sub, n_lt_t, n_lt_f, n_le_t, n_le_f, n_eq_t, n_eq_f, n_clamp, n_in_t, ax_sm_s, true_and, and_true, not_true_eq_false, not_false_eq_true, true_imp, false_imp, imp_true, and_self, ax_wI_2, ax_rI_2, ax_wI_t, ax_wI_n, ax_rI_t, ax_rI_n, n_up_t, n_up_n, ne_eq, or_true, true_or, false_or, or_false, some_ex, n_none1, n_none2, ite_true, ite_false]) z⟩
      exact ⟨g, by rw [n_succ], hg⟩
    | succ r ih =>
      intro s g hk hg
      refine h2' _ _ ⟨hP.1, ?_⟩
      rw [pW_n (b := i) (fun z => h1 z.symm) (fun z => h2 z.symm), hs]
      refine ⟨fun z => n_absurd z (by simp (disch := omega) only [n_lit0, n_lit1, n_lit2, n_lit3, n_lit4, n_lit5, n_lit6, n_lit7, n_lit8, n_lit9, n_lit10, n_lit11, n_lit12, n_lit13, n_lit14, n_lit15, n_lit16, n_lit17, n_lit18, n_lit19, n_lit20, n_lit21, n_lit22, n_lit23, n_lit24, n_lit30, n_lit31, n_lit32, n_lit45, n_lit48, n_lit49, n_lit57, n_lit59, n_lit60, n_lit67, n_lit76, n_lit77, n_lit90, n_lit96, n_lit97, n_lit98, n_lit99, n_lit100, n_lit119, n_lit120, n_lit127, n_lit128, n_lit196, n_lit200, n_lit208, n_lit294, n_lit340, n_lit341, n_lit392, n_lit490, n_lit491, n_lit500, n_lit588, n_lit589, n_lit999, n_lit1178, n_lit5301, n_lit5890, n_lit46656, n_add, n_mul, n_sub, n_lt_t, n_lt_f, n_le_t, n_le_f, n_eq_t, n_eq_f, n_clamp, n_in_t, ax_sm_s, true_and, and_true, not_true_eq_false, not_false_eq_true, true_imp, false_imp, imp_true, and_self, ax_wI_2, ax_rI_2, ax_wI_t, ax_wI_n, ax_rI_t, ax_rI_n, n_up_t, n_up_n, ne_eq, or_true, true_or, false_or, or_false, some_ex, n_none1, n_none2, ite_true, ite_false]), fun _ => (c_addCopy (C := pW C j g _ _) hQ hP (Or.inr (by omega)) (pW_s _ _ _ _ _) (by omega) rfl (by omega)).use ?_⟩
      rw [pW_pW, pW_c, pW_row, pW_n (b := i + 1) (fun z => h3 z.symm) (by omega), n_succ]
      refine ih (s + 1) _ (by omega) fun q hq => ?_
      unfold nd
      by_cases z : 8 * s ≤ q ∧ q < 8 * s + 8
      · rw [if_pos z]; dsimp only; exact congrArg _ (by omega)
      · rw [if_neg z, hg _ (by omega)]
  have := loop (n - k) 0 (C.1 (j + 1)) (by omega) (fun q hq => by omega)
  rw [← ht, pW_self] at this
  exact this
theorem c_openAt {i n k : Nat} {x : Int32} (hP : pA S C i) (hs : C.1 i 1 = nI n) (hn : n < 12) (hx : x = nI k) (hk : k < n) : ax_CV l D mt_X3_openAt [ax_r (some i), ax_i x] S C (fun C' => ∃ g, C' = pW C i g (nI (n + 1)) 0 ∧ ∀ q, q < 8 * (n + 1) → g q = if q < 8 * n then ro (C.1 (i + 1)) n k q else C.1 (i + 1) (8 * k + (q - 8 * n))) := by
  subst hx
  refine vc_X3_openAt hP.1 fun P2 h2 => ?_
  have loop : ∀ (r t : Nat) (g : Nat → Int32), t + r = k → (∀ q, q < 8 * n → g q = ro (C.1 (i + 1)) n t q) → P2 (nI t) (pW C i g (nI n) (C.1 i 2)) := by
    intro r
    induction r with
    | zero =>
      intro t g ht hg
      have : t = k := by omega
      subst this
      refine h2 _ _ ⟨fun _ => (c_addCopy (C := pW C i g _ _) hP hP (Or.inl rfl) (pW_s _ _ _ _ _) (by omega) (k2 := 0) rfl (by omega)).use ⟨Or.inl rfl, hP.1, ?_⟩, fun z => n_absurd (by simp (disch := omega) only [n_lit0, n_lit1, n_lit2, n_lit3, n_lit4, n_lit5, n_lit6, n_lit7, n_lit8, n_lit9, n_lit10, n_lit11, n_lit12, n_lit13, n_lit14, n_lit15, n_lit16, n_lit17, n_lit18, n_lit19, n_lit20, n_lit21, n_lit22, n_lit23, n_lit24, n_lit30, n_lit31, n_lit32, n_lit45, n_lit48, n_lit49, n_lit57, n_lit59, n_lit60, n_lit67, n_lit76, n_lit77, n_lit90, n_lit96, n_lit97, n_lit98, n_lit99, n_lit100, n_lit119, n_lit120, n_lit127, n_lit128, n_lit196, n_lit200, n_lit208, n_lit294, n_lit340, n_lit341, n_lit392, n_lit490, n_lit491, n_lit500, n_lit588, n_lit589, n_lit999, n_lit1178, n_lit5301, n_lit5890, n_lit46656, n_add, n_mul, n_sub, n_lt_t, n_lt_f, n_le_t, n_le_f, n_eq_t, n_eq_f, n_clamp, n_in_t, ax_sm_s, true_and, and_true, not_true_eq_false, not_false_eq_true, true_imp, false_imp, imp_true, and_self, ax_wI_2, ax_rI_2, ax_wI_t, ax_wI_n, ax_rI_t, ax_rI_n, n_up_t, n_up_n, ne_eq, or_true, true_or, false_or, or_false, some_ex, n_none1, n_none2, ite_true, ite_false]) z⟩
      rw [pW_pW, pW_wI2, pW_row]
      refine ⟨_, rfl, fun q hq => ?_⟩
      unfold nd
      by_cases z : 8 * n ≤ q ∧ q < 8 * n + 8
      · rw [if_pos z, if_neg (by omega)]; dsimp only; rw [hg _ (by omega)]
        unfold ro
        rw [if_pos (by omega)]
        exact congrArg _ (by omega)
      · rw [if_neg z, if_pos (by omega), hg _ (by omega)]
    | succ r ih =>
      intro t g ht hg
      refine h2 _ _ ⟨fun z => n_absurd z (by simp (disch := omega) only [n_lit0, n_lit1, n_lit2, n_lit3, n_lit4, n_lit5, n_lit6, n_lit7, n_lit8, n_lit9, n_lit10, n_lit11, n_lit12, n_lit13, n_lit14, n_lit15, n_lit16, n_lit17, n_lit18, n_lit19, n_lit20, n_lit21, n_lit22, n_lit23, n_lit24, n_lit30, n_lit31, n_lit32, n_lit45, n_lit48, n_lit49, n_lit57, n_lit59, n_lit60, n_lit67, n_lit76, n_lit77, n_lit90, n_lit96, n_lit97, n_lit98, n_lit99, n_lit100, n_lit119, n_lit120, n_lit127, n_lit128, n_lit196, n_lit200, n_lit208, n_lit294, n_lit340, n_lit341, n_lit392, n_lit490, n_lit491, n_lit500, n_lit588, n_lit589, n_lit999, n_lit1178, n_lit5301, n_lit5890, n_lit46656, n_add, n_mul, n_sub, n_lt_t, n_lt_f, n_le_t, n_le_f, n_eq_t, n_eq_f, n_clamp, n_in_t, ax_sm_s, true_and, and_true, not_true_eq_false, not_false_eq_true, true_imp, false_imp, imp_true, and_self, ax_wI_2, ax_rI_2, ax_wI_t, ax_wI_n, ax_rI_t, ax_rI_n, n_up_t, n_up_n, ne_eq, or_true, true_or, false_or, or_false, some_ex, n_none1, n_none2, ite_true, ite_false]), fun _ => (c_addCopy (C := pW C i g _ _) hP hP (Or.inl rfl) (pW_s _ _ _ _ _) (by omega) (k2 := 0) rfl (by omega)).use ?_⟩
      rw [pW_pW, pW_row, pW_c]
      refine (c_dropNode (C := pW C i _ _ _) hP (pW_s _ _ _ _ _) (by omega) (k := 0) rfl (by omega)).use ?_
      rw [pW_pW, pW_row, pW_c, n_succ, Nat.add_sub_cancel]
      refine ih (t + 1) _ (by omega) fun q hq => ?_
      unfold dn
      rw [if_pos (by omega)]
      unfold nd
      by_cases z : 8 * n ≤ q + 8 ∧ q + 8 < 8 * n + 8
      · rw [if_pos z]; dsimp only; rw [hg _ (by omega)]
        unfold ro
        rw [if_pos (by omega), if_neg (by omega)]
        exact congrArg _ (by omega)
      · rw [if_neg z, hg _ (by omega)]
        unfold ro
        by_cases z2 : q + 8 + 8 * t < 8 * n
        · rw [if_pos z2, if_pos (by omega)]; exact congrArg _ (by omega)
        · rw [if_neg z2, if_neg (by omega)]; exact congrArg _ (by omega)
  have := loop k 0 (C.1 (i + 1)) (by omega) (fun q hq => by unfold ro; rw [if_pos (by omega)]; exact congrArg _ (by omega))
  rw [← hs, pW_self] at this
  exact this
/-- the last node of one row stands where the first of another does -/
def ms (row : Nat → Int32) (n : Nat) (row2 : Nat → Int32) : Bool := decide (row (8 * (n - 1)) = row2 0) && decide (row (8 * (n - 1) + 1) = row2 1)
theorem c_endsWhereStarts {i j n : Nat} (hP : pA S C i) (hQ : pA S C j) (hs : C.1 i 1 = nI n) (hn : n ≤ 12) (hn1 : 1 ≤ n) : ax_CI l D mt_X3_endsWhereStarts [ax_r (some i), ax_r (some j)] S C (fun r C' => r = bI (ms (C.1 (i + 1)) n (C.1 (j + 1))) ∧ C' = C) := by
  refine vc_X3_endsWhereStarts hP.1 ⟨hP.1, ?_⟩
  rw [hs, n_lit1, n_sub hn1]
  refine (c_get hP rfl (by omega) (f := 0) rfl (by omega)).use ((c_get hQ (k := 0) rfl (by omega) (f := 0) rfl (by omega)).use ⟨fun z => ⟨?_, rfl⟩, fun z => ⟨hP.1, ?_⟩⟩)
  · have z : ¬ C.1 (i + 1) (8 * (n - 1)) = C.1 (j + 1) 0 := z
    simp [ms, z, bI]
  · rw [hs, n_sub hn1]
    refine (c_get hP rfl (by omega) (f := 1) rfl (by omega)).use ((c_get hQ (k := 0) rfl (by omega) (f := 1) rfl (by omega)).use ⟨fun z2 => ⟨?_, rfl⟩, fun z2 => ⟨?_, rfl⟩⟩)
    · have z2 : ¬ C.1 (i + 1) (8 * (n - 1) + 1) = C.1 (j + 1) 1 := z2
      simp [ms, z2, bI]
    · have z : C.1 (i + 1) (8 * (n - 1)) = C.1 (j + 1) 0 := z
      have z2 : C.1 (i + 1) (8 * (n - 1) + 1) = C.1 (j + 1) 1 := z2
      simp [ms, z, z2, bI]
      rfl
theorem c_handlesFit {i k : Nat} {x : Int32} (hP : pA S C i) (hx : x = nI k) (hk : k < 12) : ax_CI l D mt_X3_handlesFit [ax_r (some i), ax_i x] S C (fun r C' => r = (@ite _ (hf (C.1 (i + 1)) k) (hfD _ _) 1 0) ∧ C' = C) := by
  refine vc_X3_handlesFit hP.1 ((c_get hP hx hk (f := 6) rfl (by omega)).use ((c_get hP hx hk (f := 7) rfl (by omega)).use ((c_get hP hx hk (f := 2) rfl (by omega)).use ((c_get hP hx hk (f := 4) rfl (by omega)).use ⟨fun z => ⟨?_, rfl⟩, fun z => (c_get hP hx hk (f := 3) rfl (by omega)).use ((c_get hP hx hk (f := 5) rfl (by omega)).use ⟨fun z2 => ⟨?_, rfl⟩, fun z2 => ⟨?_, rfl⟩⟩)⟩))))
  · rw [if_neg (fun w => z w.1)]
  · rw [if_neg (fun w => z2 w.2)]
  · rw [if_pos ⟨z, z2⟩]
/-- the first node with the in-handle of another row's last one -/
def mg1 (row row2 : Nat → Int32) (m : Nat) : Nat → Int32 := va_up (va_up row 2 (row2 (8 * m + 2))) 3 (row2 (8 * m + 3))
def mgD (row row2 : Nat → Int32) (m : Nat) : Decidable (row 6 = row2 (8 * m + 6) ∧ row 7 = row2 (8 * m + 7) ∧ hf (mg1 row row2 m) 0) := @instDecidableAnd _ _ inferInstance (@instDecidableAnd _ _ inferInstance (hfD _ _))
def mg (row row2 : Nat → Int32) (m : Nat) : Nat → Int32 := @ite _ (row 6 = row2 (8 * m + 6) ∧ row 7 = row2 (8 * m + 7) ∧ hf (mg1 row row2 m) 0) (mgD row row2 m) (mg1 row row2 m) (va_up (va_up (mg1 row row2 m) 6 0) 7 0)
end
