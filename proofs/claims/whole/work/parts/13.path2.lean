/-! ===== Path: nodes copied, added, dropped ===== -/
theorem n_succ (k : Nat) : nI k + 1 = nI (k + 1) := nI_1 k
theorem n_pred (k : Nat) : nI (k + 1) + (-1) = nI k := pk_m1 k
theorem n_absurd {p q : Prop} (h : p) (hn : ¬ p) : q := absurd h hn
/-- a Path's row, size and closed, whole -/
def pW (C : ax_C) (i : Nat) (g : Nat → Int32) (s c : Int32) : ax_C := ax_rI (ax_rI C (i + 1) g) i (va_up (va_up (C.1 i) 1 s) 2 c)
theorem pW_2 (C : ax_C) (i : Nat) (g : Nat → Int32) (s c : Int32) : (pW C i g s c).2 = C.2 := rfl
theorem pW_row (C : ax_C) (i : Nat) (g : Nat → Int32) (s c : Int32) : (pW C i g s c).1 (i + 1) = g := by
  show va_up (va_up C.1 (i + 1) g) i _ (i + 1) = g
  rw [va_up_ne _ _ (by omega), va_up_self]
theorem pW_s (C : ax_C) (i : Nat) (g : Nat → Int32) (s c : Int32) : (pW C i g s c).1 i 1 = s := by
  show va_up (va_up C.1 (i + 1) g) i _ i 1 = s
  rw [va_up_self]; rfl
theorem pW_c (C : ax_C) (i : Nat) (g : Nat → Int32) (s c : Int32) : (pW C i g s c).1 i 2 = c := by
  show va_up (va_up C.1 (i + 1) g) i _ i 2 = c
  rw [va_up_self]; rfl
theorem pW_n {C : ax_C} {i b : Nat} {g : Nat → Int32} {s c : Int32} (h1 : b ≠ i) (h2 : b ≠ i + 1) : (pW C i g s c).1 b = C.1 b := by
  show va_up (va_up C.1 (i + 1) g) i _ b = _
  rw [va_up_ne _ _ h1, va_up_ne _ _ h2]
theorem pW_self (C : ax_C) (i : Nat) : pW C i (C.1 (i + 1)) (C.1 i 1) (C.1 i 2) = C := by
  refine ax_C_ext ?_ rfl
  intro a
  by_cases h1 : a = i
  · subst h1
    show va_up _ a _ a = _
    rw [va_up_self]
    funext j
    simp only [va_up]
    split
    · next h => rw [h]
    · split
      · next h => rw [h]
      · rfl
  · by_cases h2 : a = i + 1
    · subst h2; exact pW_row _ _ _ _ _
    · exact pW_n h1 h2
theorem pW_pW (C : ax_C) (i : Nat) (g g' : Nat → Int32) (s c s' c' : Int32) : pW (pW C i g s c) i g' s' c' = pW C i g' s' c' := by
  refine ax_C_ext ?_ rfl
  intro a
  by_cases h1 : a = i
  · subst h1
    show va_up _ a (va_up (va_up ((pW C a g s c).1 a) 1 s') 2 c') a = va_up _ a (va_up (va_up (C.1 a) 1 s') 2 c') a
    rw [va_up_self, va_up_self]
    have e : (pW C a g s c).1 a = va_up (va_up (C.1 a) 1 s) 2 c := by
      show va_up _ a _ a = _
      rw [va_up_self]
    rw [e]
    funext j
    simp only [va_up]
    by_cases q1 : j = 2
    · simp [q1]
    · by_cases q2 : j = 1 <;> simp [q1, q2]
  · by_cases h2 : a = i + 1
    · subst h2; rw [pW_row, pW_row]
    · rw [pW_n h1 h2, pW_n h1 h2, pW_n h1 h2]
theorem pW_of (C : ax_C) (i : Nat) (g : Nat → Int32) : ax_rI C (i + 1) g = pW C i g (C.1 i 1) (C.1 i 2) := by
  refine ax_C_ext ?_ rfl
  intro a
  by_cases h1 : a = i
  · subst h1
    have e : (ax_rI C (a + 1) g).1 a = C.1 a := ax_rI_n (by omega)
    rw [e]
    show _ = va_up _ a (va_up (va_up (C.1 a) 1 (C.1 a 1)) 2 (C.1 a 2)) a
    rw [va_up_self]
    funext j
    simp only [va_up]
    by_cases q1 : j = 2
    · simp [q1]
    · by_cases q2 : j = 1 <;> simp [q1, q2]
  · by_cases h2 : a = i + 1
    · subst h2; rw [pW_row]; exact ax_rI_t rfl
    · rw [pW_n h1 h2]; exact ax_rI_n h2
theorem pW_rI (C : ax_C) (i : Nat) (g g' : Nat → Int32) (s c : Int32) : ax_rI (pW C i g s c) (i + 1) g' = pW C i g' s c := by
  rw [pW_of, pW_s, pW_c, pW_pW]
theorem pW_wI1 (C : ax_C) (i : Nat) (g : Nat → Int32) (s c s' : Int32) : ax_wI (pW C i g s c) i 1 s' = pW C i g s' c := by
  have e : ax_wI (pW C i g s c) i 1 s' = pW (pW C i g s c) i ((pW C i g s c).1 (i + 1)) s' ((pW C i g s c).1 i 2) := by
    refine ax_C_ext ?_ rfl
    intro a
    by_cases h1 : a = i
    · subst h1
      rw [ax_wI_t rfl]
      show _ = va_up _ a (va_up (va_up ((pW C a g s c).1 a) 1 s') 2 ((pW C a g s c).1 a 2)) a
      rw [va_up_self]
      funext j
      simp only [va_up]
      by_cases q1 : j = 2
      · subst q1; simp
      · by_cases q2 : j = 1 <;> simp [q1, q2]
    · rw [ax_wI_n h1]
      by_cases h2 : a = i + 1
      · subst h2; rw [pW_row, pW_row]
      · rw [pW_n h1 h2, pW_n h1 h2, pW_n h1 h2]
  rw [e, pW_pW, pW_row, pW_c]
theorem pW_wI2 (C : ax_C) (i : Nat) (g : Nat → Int32) (s c c' : Int32) : ax_wI (pW C i g s c) i 2 c' = pW C i g s c' := by
  have e : ax_wI (pW C i g s c) i 2 c' = pW (pW C i g s c) i ((pW C i g s c).1 (i + 1)) ((pW C i g s c).1 i 1) c' := by
    refine ax_C_ext ?_ rfl
    intro a
    by_cases h1 : a = i
    · subst h1
      rw [ax_wI_t rfl]
      show _ = va_up _ a (va_up (va_up ((pW C a g s c).1 a) 1 ((pW C a g s c).1 a 1)) 2 c') a
      rw [va_up_self]
      funext j
      simp only [va_up]
      by_cases q1 : j = 2
      · subst q1; simp
      · by_cases q2 : j = 1
        · subst q2; simp
        · simp [q1, q2]
    · rw [ax_wI_n h1]
      by_cases h2 : a = i + 1
      · subst h2; rw [pW_row, pW_row]
      · rw [pW_n h1 h2, pW_n h1 h2, pW_n h1 h2]
  rw [e, pW_pW, pW_row, pW_s]
section
variable {l : Launch} {D : ax_D} {S : ax_S} {C : ax_C}
theorem pA_W {i j : Nat} {g : Nat → Int32} {s c : Int32} (h : pA S C i) : pA S (pW C j g s c) i := h
theorem c_copyNode {i j k k2 : Nat} {x y : Int32} (hP : pA S C i) (hQ : pA S C j) (hij : j = i ∨ j + 1 ≠ i + 1) (hx : x = nI k) (hk : k < 12) (hy : y = nI k2) (hk2 : k2 < 12) : ax_CV l D mt_X3_copyNode [ax_r (some i), ax_i x, ax_r (some j), ax_i y] S C (fun C' => C' = ax_rI C (i + 1) (nd (C.1 (i + 1)) k (fun f => C.1 (j + 1) (8 * k2 + f)))) := by
  refine vc_X3_copyNode hP.1 fun P3 h3 => ?_
  have loop : ∀ (m t : Nat) (g : Nat → Int32), t + m = 8 → (∀ q, g q = if 8 * k ≤ q ∧ q < 8 * k + t then C.1 (j + 1) (8 * k2 + (q - 8 * k)) else C.1 (i + 1) q) → P3 (nI t) (ax_rI C (i + 1) g) := by
    intro m
    induction m with
    | zero =>
      intro t g ht hg
      have ht : t = 8 := by omega
      subst ht
      refine h3 _ _ ⟨fun _ => ?_, fun q => n_absurd (by simp (disch := omega) only [n_lit0, n_lit1, n_lit2, n_lit3, n_lit4, n_lit5, n_lit6, n_lit7, n_lit8, n_lit9, n_lit10, n_lit11, n_lit12, n_lit13, n_lit14, n_lit15, n_lit16, n_lit17, n_lit18, n_lit19, n_lit20, n_lit21, n_lit22, n_lit23, n_lit24, n_lit30, n_lit31, n_lit32, n_lit45, n_lit48, n_lit49, n_lit57, n_lit59, n_lit60, n_lit67, n_lit76, n_lit77, n_lit90, n_lit96, n_lit97, n_lit98, n_lit99, n_lit100, n_lit119, n_lit120, n_lit127, n_lit128, n_lit196, n_lit200, n_lit208, n_lit294, n_lit340, n_lit341, n_lit392, n_lit490, n_lit491, n_lit500, n_lit588, n_lit589, n_lit999, n_lit1178, n_lit5301, n_lit5890, n_lit46656, n_add, n_mul, n_sub, n_lt_t, n_lt_f, n_le_t, n_le_f, n_eq_t, n_eq_f, n_clamp, n_in_t, ax_sm_s, true_and, and_true, not_true_eq_false, not_false_eq_true, true_imp, false_imp, imp_true, and_self, ax_wI_2, ax_rI_2, ax_wI_t, ax_wI_n, ax_rI_t, ax_rI_n, n_up_t, n_up_n, ne_eq, or_true, true_or, false_or, or_false, some_ex, n_none1, n_none2, ite_true, ite_false]) q⟩
      rw [show g = nd (C.1 (i + 1)) k (fun f => C.1 (j + 1) (8 * k2 + f)) from funext hg]
    | succ m ih =>
      intro t g ht hg
      refine h3 _ _ ⟨fun q => n_absurd q (by simp (disch := omega) only [n_lit0, n_lit1, n_lit2, n_lit3, n_lit4, n_lit5, n_lit6, n_lit7, n_lit8, n_lit9, n_lit10, n_lit11, n_lit12, n_lit13, n_lit14, n_lit15, n_lit16, n_lit17, n_lit18, n_lit19, n_lit20, n_lit21, n_lit22, n_lit23, n_lit24, n_lit30, n_lit31, n_lit32, n_lit45, n_lit48, n_lit49, n_lit57, n_lit59, n_lit60, n_lit67, n_lit76, n_lit77, n_lit90, n_lit96, n_lit97, n_lit98, n_lit99, n_lit100, n_lit119, n_lit120, n_lit127, n_lit128, n_lit196, n_lit200, n_lit208, n_lit294, n_lit340, n_lit341, n_lit392, n_lit490, n_lit491, n_lit500, n_lit588, n_lit589, n_lit999, n_lit1178, n_lit5301, n_lit5890, n_lit46656, n_add, n_mul, n_sub, n_lt_t, n_lt_f, n_le_t, n_le_f, n_eq_t, n_eq_f, n_clamp, n_in_t, ax_sm_s, true_and, and_true, not_true_eq_false, not_false_eq_true, true_imp, false_imp, imp_true, and_self, ax_wI_2, ax_rI_2, ax_wI_t, ax_wI_n, ax_rI_t, ax_rI_n, n_up_t, n_up_n, ne_eq, or_true, true_or, false_or, or_false, some_ex, n_none1, n_none2, ite_true, ite_false]), fun _ => (c_get (C := ax_rI C (i + 1) g) hQ hy hk2 rfl (by omega)).use ((c_put (C := ax_rI C (i + 1) g) hP hx hk rfl (by omega)).use ?_)⟩
      rw [n_succ, ax_rI_rI]
      refine ih (t + 1) _ (by omega) fun q => ?_
      have e0 : (ax_rI C (i + 1) g).1 (i + 1) = g := ax_rI_t rfl
      have e1 : (ax_rI C (i + 1) g).1 (j + 1) (8 * k2 + t) = C.1 (j + 1) (8 * k2 + t) := by
        rcases hij with rfl | hij
        · rw [e0, hg]
          by_cases z : 8 * k ≤ 8 * k2 + t ∧ 8 * k2 + t < 8 * k + t
          · exfalso; omega
          · rw [if_neg z]
        · rw [ax_rI_n hij]
      rw [e0, e1]
      by_cases z : q = 8 * k + t
      · subst z
        rw [n_up_t rfl, if_pos (by omega)]
        exact congrArg _ (by omega)
      · rw [n_up_n z, hg]
        by_cases z2 : 8 * k ≤ q ∧ q < 8 * k + t
        · rw [if_pos z2, if_pos (by omega)]
        · rw [if_neg z2, if_neg (by omega)]
  have := loop 8 0 (C.1 (i + 1)) rfl (fun q => by rw [if_neg (by omega)])
  rw [ax_rI_id] at this
  exact this
theorem c_addCorner {i n : Nat} {x y : Int32} (hP : pA S C i) (hs : C.1 i 1 = nI n) (hn : n < 12) : ax_CV l D mt_X3_addCorner [ax_r (some i), ax_i x, ax_i y] S C (fun C' => C' = pW C i (nd (C.1 (i + 1)) n (fun f => if f = 0 then x else if f = 1 then y else 0)) (nI (n + 1)) (C.1 i 2)) := by
  refine vc_X3_addCorner hP.1 fun P12 h12 => ⟨hP.1, fun _ => ?_, fun q => n_absurd (by rw [hs]; simp (disch := omega) only [n_lit0, n_lit1, n_lit2, n_lit3, n_lit4, n_lit5, n_lit6, n_lit7, n_lit8, n_lit9, n_lit10, n_lit11, n_lit12, n_lit13, n_lit14, n_lit15, n_lit16, n_lit17, n_lit18, n_lit19, n_lit20, n_lit21, n_lit22, n_lit23, n_lit24, n_lit30, n_lit31, n_lit32, n_lit45, n_lit48, n_lit49, n_lit57, n_lit59, n_lit60, n_lit67, n_lit76, n_lit77, n_lit90, n_lit96, n_lit97, n_lit98, n_lit99, n_lit100, n_lit119, n_lit120, n_lit127, n_lit128, n_lit196, n_lit200, n_lit208, n_lit294, n_lit340, n_lit341, n_lit392, n_lit490, n_lit491, n_lit500, n_lit588, n_lit589, n_lit999, n_lit1178, n_lit5301, n_lit5890, n_lit46656, n_add, n_mul, n_sub, n_lt_t, n_lt_f, n_le_t, n_le_f, n_eq_t, n_eq_f, n_clamp, n_in_t, ax_sm_s, true_and, and_true, not_true_eq_false, not_false_eq_true, true_imp, false_imp, imp_true, and_self, ax_wI_2, ax_rI_2, ax_wI_t, ax_wI_n, ax_rI_t, ax_rI_n, n_up_t, n_up_n, ne_eq, or_true, true_or, false_or, or_false, some_ex, n_none1, n_none2, ite_true, ite_false]) q⟩
  have loop : ∀ (m t : Nat) (g : Nat → Int32), t + m = 8 → (∀ q, g q = if 8 * n ≤ q ∧ q < 8 * n + t then 0 else C.1 (i + 1) q) → P12 (nI t) (pW C i g (C.1 i 1) (C.1 i 2)) := by
    intro m
    induction m with
    | zero =>
      intro t g ht hg
      have ht : t = 8 := by omega
      subst ht
      refine h12 _ _ ⟨fun _ => ⟨hP.1, (c_put (C := pW C i g _ _) hP (k := n) (by rw [pW_s, hs]) hn (f := 0) rfl (by omega)).use ⟨hP.1, ?_⟩⟩, fun q => n_absurd (by simp (disch := omega) only [n_lit0, n_lit1, n_lit2, n_lit3, n_lit4, n_lit5, n_lit6, n_lit7, n_lit8, n_lit9, n_lit10, n_lit11, n_lit12, n_lit13, n_lit14, n_lit15, n_lit16, n_lit17, n_lit18, n_lit19, n_lit20, n_lit21, n_lit22, n_lit23, n_lit24, n_lit30, n_lit31, n_lit32, n_lit45, n_lit48, n_lit49, n_lit57, n_lit59, n_lit60, n_lit67, n_lit76, n_lit77, n_lit90, n_lit96, n_lit97, n_lit98, n_lit99, n_lit100, n_lit119, n_lit120, n_lit127, n_lit128, n_lit196, n_lit200, n_lit208, n_lit294, n_lit340, n_lit341, n_lit392, n_lit490, n_lit491, n_lit500, n_lit588, n_lit589, n_lit999, n_lit1178, n_lit5301, n_lit5890, n_lit46656, n_add, n_mul, n_sub, n_lt_t, n_lt_f, n_le_t, n_le_f, n_eq_t, n_eq_f, n_clamp, n_in_t, ax_sm_s, true_and, and_true, not_true_eq_false, not_false_eq_true, true_imp, false_imp, imp_true, and_self, ax_wI_2, ax_rI_2, ax_wI_t, ax_wI_n, ax_rI_t, ax_rI_n, n_up_t, n_up_n, ne_eq, or_true, true_or, false_or, or_false, some_ex, n_none1, n_none2, ite_true, ite_false]) q⟩
      rw [pW_rI, pW_row]
      refine (c_put (C := pW C i _ _ _) hP (k := n) (by rw [pW_s, hs]) hn (f := 1) rfl (by omega)).use ⟨hP.1, hP.1, ?_⟩
      rw [pW_rI, pW_row, pW_wI1, pW_s, hs, n_succ]
      congr 1
      funext q
      unfold nd
      by_cases z1 : q = 8 * n + 1
      · rw [n_up_t z1, if_pos (by omega)]; dsimp only; rw [if_neg (by omega), if_pos (by omega)]
      · rw [n_up_n z1]
        by_cases z0 : q = 8 * n + 0
        · rw [n_up_t z0, if_pos (by omega)]; dsimp only; rw [if_pos (by omega)]
        · rw [n_up_n z0, hg]
          by_cases z2 : 8 * n ≤ q ∧ q < 8 * n + 8
          · rw [if_pos z2, if_pos z2]; dsimp only; rw [if_neg (by omega), if_neg (by omega)]
          · rw [if_neg z2, if_neg z2]
    | succ m ih =>
      intro t g ht hg
      refine h12 _ _ ⟨fun q => n_absurd q (by simp (disch := omega) only [n_lit0, n_lit1, n_lit2, n_lit3, n_lit4, n_lit5, n_lit6, n_lit7, n_lit8, n_lit9, n_lit10, n_lit11, n_lit12, n_lit13, n_lit14, n_lit15, n_lit16, n_lit17, n_lit18, n_lit19, n_lit20, n_lit21, n_lit22, n_lit23, n_lit24, n_lit30, n_lit31, n_lit32, n_lit45, n_lit48, n_lit49, n_lit57, n_lit59, n_lit60, n_lit67, n_lit76, n_lit77, n_lit90, n_lit96, n_lit97, n_lit98, n_lit99, n_lit100, n_lit119, n_lit120, n_lit127, n_lit128, n_lit196, n_lit200, n_lit208, n_lit294, n_lit340, n_lit341, n_lit392, n_lit490, n_lit491, n_lit500, n_lit588, n_lit589, n_lit999, n_lit1178, n_lit5301, n_lit5890, n_lit46656, n_add, n_mul, n_sub, n_lt_t, n_lt_f, n_le_t, n_le_f, n_eq_t, n_eq_f, n_clamp, n_in_t, ax_sm_s, true_and, and_true, not_true_eq_false, not_false_eq_true, true_imp, false_imp, imp_true, and_self, ax_wI_2, ax_rI_2, ax_wI_t, ax_wI_n, ax_rI_t, ax_rI_n, n_up_t, n_up_n, ne_eq, or_true, true_or, false_or, or_false, some_ex, n_none1, n_none2, ite_true, ite_false]), fun _ => ⟨hP.1, (c_put (C := pW C i g _ _) hP (k := n) (by rw [pW_s, hs]) hn (f := t) rfl (by omega)).use ?_⟩⟩
      rw [n_succ, pW_rI, pW_row]
      refine ih (t + 1) _ (by omega) fun q => ?_
      by_cases z : q = 8 * n + t
      · rw [n_up_t z, if_pos (by omega)]
      · rw [n_up_n z, hg]
        by_cases z2 : 8 * n ≤ q ∧ q < 8 * n + t
        · rw [if_pos z2, if_pos (by omega)]
        · rw [if_neg z2, if_neg (by omega)]
  have := loop 8 0 (C.1 (i + 1)) rfl (fun q => by rw [if_neg (by omega)])
  rw [pW_self] at this
  exact this
theorem c_addCopy {i j n k2 : Nat} {y : Int32} (hP : pA S C i) (hQ : pA S C j) (hij : j = i ∨ j + 1 ≠ i + 1) (hs : C.1 i 1 = nI n) (hn : n < 12) (hy : y = nI k2) (hk2 : k2 < 12) : ax_CV l D mt_X3_addCopy [ax_r (some i), ax_r (some j), ax_i y] S C (fun C' => C' = pW C i (nd (C.1 (i + 1)) n (fun f => C.1 (j + 1) (8 * k2 + f))) (nI (n + 1)) (C.1 i 2)) := by
  refine vc_X3_addCopy hP.1 ⟨hP.1, fun q => n_absurd q (by rw [hs]; simp (disch := omega) only [n_lit0, n_lit1, n_lit2, n_lit3, n_lit4, n_lit5, n_lit6, n_lit7, n_lit8, n_lit9, n_lit10, n_lit11, n_lit12, n_lit13, n_lit14, n_lit15, n_lit16, n_lit17, n_lit18, n_lit19, n_lit20, n_lit21, n_lit22, n_lit23, n_lit24, n_lit30, n_lit31, n_lit32, n_lit45, n_lit48, n_lit49, n_lit57, n_lit59, n_lit60, n_lit67, n_lit76, n_lit77, n_lit90, n_lit96, n_lit97, n_lit98, n_lit99, n_lit100, n_lit119, n_lit120, n_lit127, n_lit128, n_lit196, n_lit200, n_lit208, n_lit294, n_lit340, n_lit341, n_lit392, n_lit490, n_lit491, n_lit500, n_lit588, n_lit589, n_lit999, n_lit1178, n_lit5301, n_lit5890, n_lit46656, n_add, n_mul, n_sub, n_lt_t, n_lt_f, n_le_t, n_le_f, n_eq_t, n_eq_f, n_clamp, n_in_t, ax_sm_s, true_and, and_true, not_true_eq_false, not_false_eq_true, true_imp, false_imp, imp_true, and_self, ax_wI_2, ax_rI_2, ax_wI_t, ax_wI_n, ax_rI_t, ax_rI_n, n_up_t, n_up_n, ne_eq, or_true, true_or, false_or, or_false, some_ex, n_none1, n_none2, ite_true, ite_false]), fun _ => ⟨hP.1, (c_copyNode hP hQ hij (by rw [hs]) hn hy hk2).use ⟨hP.1, hP.1, ?_⟩⟩⟩
  rw [pW_of, pW_wI1, pW_s, hs, n_succ]
/-- nodes k, k + 1 .. of a row go one place down -/
def dn (row : Nat → Int32) (k n : Nat) : Nat → Int32 := fun j => if 8 * k ≤ j ∧ j < 8 * n - 8 then row (j + 8) else row j
theorem c_dropNode {i n k : Nat} {x : Int32} (hP : pA S C i) (hs : C.1 i 1 = nI n) (hn : n ≤ 12) (hx : x = nI k) (hk : k < n) : ax_CV l D mt_X3_dropNode [ax_r (some i), ax_i x] S C (fun C' => C' = pW C i (dn (C.1 (i + 1)) k n) (nI (n - 1)) (C.1 i 2)) := by
  subst hx
  refine vc_X3_dropNode hP.1 fun P2 h2 => ?_
  have loop : ∀ (m t : Nat) (g : Nat → Int32), t + m = n - 1 → k ≤ t → (∀ q, g q = if 8 * k ≤ q ∧ q < 8 * t then C.1 (i + 1) (q + 8) else C.1 (i + 1) q) → P2 (nI t) (pW C i g (C.1 i 1) (C.1 i 2)) := by
    intro m
    induction m with
    | zero =>
      intro t g ht hkt hg
      have ht : t = n - 1 := by omega
      subst ht
      refine h2 _ _ ⟨hP.1, ?_⟩
      rw [pW_s, hs, n_lit1, n_sub (by omega)]
      refine ⟨fun _ => ⟨hP.1, hP.1, ?_⟩, fun q => n_absurd (by simp (disch := omega) only [n_lit0, n_lit1, n_lit2, n_lit3, n_lit4, n_lit5, n_lit6, n_lit7, n_lit8, n_lit9, n_lit10, n_lit11, n_lit12, n_lit13, n_lit14, n_lit15, n_lit16, n_lit17, n_lit18, n_lit19, n_lit20, n_lit21, n_lit22, n_lit23, n_lit24, n_lit30, n_lit31, n_lit32, n_lit45, n_lit48, n_lit49, n_lit57, n_lit59, n_lit60, n_lit67, n_lit76, n_lit77, n_lit90, n_lit96, n_lit97, n_lit98, n_lit99, n_lit100, n_lit119, n_lit120, n_lit127, n_lit128, n_lit196, n_lit200, n_lit208, n_lit294, n_lit340, n_lit341, n_lit392, n_lit490, n_lit491, n_lit500, n_lit588, n_lit589, n_lit999, n_lit1178, n_lit5301, n_lit5890, n_lit46656, n_add, n_mul, n_sub, n_lt_t, n_lt_f, n_le_t, n_le_f, n_eq_t, n_eq_f, n_clamp, n_in_t, ax_sm_s, true_and, and_true, not_true_eq_false, not_false_eq_true, true_imp, false_imp, imp_true, and_self, ax_wI_2, ax_rI_2, ax_wI_t, ax_wI_n, ax_rI_t, ax_rI_n, n_up_t, n_up_n, ne_eq, or_true, true_or, false_or, or_false, some_ex, n_none1, n_none2, ite_true, ite_false]) q⟩
      rw [pW_wI1]
      congr 1
      funext q
      rw [hg]
      unfold dn
      by_cases z : 8 * k ≤ q ∧ q < 8 * (n - 1)
      · rw [if_pos z, if_pos (by omega)]
      · rw [if_neg z, if_neg (by omega)]
    | succ m ih =>
      intro t g ht hkt hg
      refine h2 _ _ ⟨hP.1, ?_⟩
      rw [pW_s, hs, n_lit1, n_sub (by omega), n_add]
      refine ⟨fun q => n_absurd q (by simp (disch := omega) only [n_lit0, n_lit1, n_lit2, n_lit3, n_lit4, n_lit5, n_lit6, n_lit7, n_lit8, n_lit9, n_lit10, n_lit11, n_lit12, n_lit13, n_lit14, n_lit15, n_lit16, n_lit17, n_lit18, n_lit19, n_lit20, n_lit21, n_lit22, n_lit23, n_lit24, n_lit30, n_lit31, n_lit32, n_lit45, n_lit48, n_lit49, n_lit57, n_lit59, n_lit60, n_lit67, n_lit76, n_lit77, n_lit90, n_lit96, n_lit97, n_lit98, n_lit99, n_lit100, n_lit119, n_lit120, n_lit127, n_lit128, n_lit196, n_lit200, n_lit208, n_lit294, n_lit340, n_lit341, n_lit392, n_lit490, n_lit491, n_lit500, n_lit588, n_lit589, n_lit999, n_lit1178, n_lit5301, n_lit5890, n_lit46656, n_add, n_mul, n_sub, n_lt_t, n_lt_f, n_le_t, n_le_f, n_eq_t, n_eq_f, n_clamp, n_in_t, ax_sm_s, true_and, and_true, not_true_eq_false, not_false_eq_true, true_imp, false_imp, imp_true, and_self, ax_wI_2, ax_rI_2, ax_wI_t, ax_wI_n, ax_rI_t, ax_rI_n, n_up_t, n_up_n, ne_eq, or_true, true_or, false_or, or_false, some_ex, n_none1, n_none2, ite_true, ite_false]), fun _ => (c_copyNode (C := pW C i g _ _) hP hP (Or.inl rfl) rfl (by omega) (k2 := t + 1) rfl (by omega)).use ?_⟩
      rw [pW_rI, pW_row, ← hs]
      refine ih (t + 1) _ (by omega) (by omega) fun q => ?_
      unfold nd
      by_cases z : 8 * t ≤ q ∧ q < 8 * t + 8
      · rw [if_pos z, if_pos (by omega)]; dsimp only; rw [hg, if_neg (by omega)]
        exact congrArg _ (by omega)
      · rw [if_neg z, hg]
        by_cases z2 : 8 * k ≤ q ∧ q < 8 * t
        · rw [if_pos z2, if_pos (by omega)]
        · rw [if_neg z2, if_neg (by omega)]
  have := loop (n - 1 - k) k (C.1 (i + 1)) (by omega) (Nat.le_refl _) (fun q => by rw [if_neg (by omega)])
  rw [pW_self] at this
  exact this
/-- the nodes behind k go one place up -/
def un (row : Nat → Int32) (k n : Nat) : Nat → Int32 := fun j => if 8 * k + 8 ≤ j ∧ j < 8 * n + 8 then row (j - 8) else row j
theorem c_doubleNode {i n k : Nat} {x : Int32} (hP : pA S C i) (hs : C.1 i 1 = nI n) (hn : n < 12) (hx : x = nI k) (hk : k < n) : ax_CV l D mt_X3_doubleNode [ax_r (some i), ax_i x] S C (fun C' => C' = pW C i (un (C.1 (i + 1)) k n) (nI (n + 1)) (C.1 i 2)) := by
  subst hx
  refine vc_X3_doubleNode hP.1 fun P15 h15 => ⟨hP.1, fun _ => ⟨hP.1, ?_⟩, fun q => n_absurd (by rw [hs]; simp (disch := omega) only [n_lit0, n_lit1, n_lit2, n_lit3, n_lit4, n_lit5, n_lit6, n_lit7, n_lit8, n_lit9, n_lit10, n_lit11, n_lit12, n_lit13, n_lit14, n_lit15, n_lit16, n_lit17, n_lit18, n_lit19, n_lit20, n_lit21, n_lit22, n_lit23, n_lit24, n_lit30, n_lit31, n_lit32, n_lit45, n_lit48, n_lit49, n_lit57, n_lit59, n_lit60, n_lit67, n_lit76, n_lit77, n_lit90, n_lit96, n_lit97, n_lit98, n_lit99, n_lit100, n_lit119, n_lit120, n_lit127, n_lit128, n_lit196, n_lit200, n_lit208, n_lit294, n_lit340, n_lit341, n_lit392, n_lit490, n_lit491, n_lit500, n_lit588, n_lit589, n_lit999, n_lit1178, n_lit5301, n_lit5890, n_lit46656, n_add, n_mul, n_sub, n_lt_t, n_lt_f, n_le_t, n_le_f, n_eq_t, n_eq_f, n_clamp, n_in_t, ax_sm_s, true_and, and_true, not_true_eq_false, not_false_eq_true, true_imp, false_imp, imp_true, and_self, ax_wI_2, ax_rI_2, ax_wI_t, ax_wI_n, ax_rI_t, ax_rI_n, n_up_t, n_up_n, ne_eq, or_true, true_or, false_or, or_false, some_ex, n_none1, n_none2, ite_true, ite_false]) q⟩
  have loop : ∀ (m : Nat) (g : Nat → Int32), k + m ≤ n → (∀ q, g q = if 8 * (k + m) + 8 ≤ q ∧ q < 8 * n + 8 then C.1 (i + 1) (q - 8) else C.1 (i + 1) q) → P15 (nI (k + m)) (pW C i g (C.1 i 1) (C.1 i 2)) := by
    intro m
    induction m with
    | zero =>
      intro g hm hg
      refine h15 _ _ ⟨fun _ => ⟨hP.1, hP.1, ?_⟩, fun q => n_absurd (by simp (disch := omega) only [n_lit0, n_lit1, n_lit2, n_lit3, n_lit4, n_lit5, n_lit6, n_lit7, n_lit8, n_lit9, n_lit10, n_lit11, n_lit12, n_lit13, n_lit14, n_lit15, n_lit16, n_lit17, n_lit18, n_lit19, n_lit20, n_lit21, n_lit22, n_lit23, n_lit24, n_lit30, n_lit31, n_lit32, n_lit45, n_lit48, n_lit49, n_lit57, n_lit59, n_lit60, n_lit67, n_lit76, n_lit77, n_lit90, n_lit96, n_lit97, n_lit98, n_lit99, n_lit100, n_lit119, n_lit120, n_lit127, n_lit128, n_lit196, n_lit200, n_lit208, n_lit294, n_lit340, n_lit341, n_lit392, n_lit490, n_lit491, n_lit500, n_lit588, n_lit589, n_lit999, n_lit1178, n_lit5301, n_lit5890, n_lit46656, n_add, n_mul, n_sub, n_lt_t, n_lt_f, n_le_t, n_le_f, n_eq_t, n_eq_f, n_clamp, n_in_t, ax_sm_s, true_and, and_true, not_true_eq_false, not_false_eq_true, true_imp, false_imp, imp_true, and_self, ax_wI_2, ax_rI_2, ax_wI_t, ax_wI_n, ax_rI_t, ax_rI_n, n_up_t, n_up_n, ne_eq, or_true, true_or, false_or, or_false, some_ex, n_none1, n_none2, ite_true, ite_false]) q⟩
      rw [pW_wI1, pW_s, hs, n_succ]
      congr 1
      funext q
      rw [hg]
      rfl
    | succ m ih =>
      intro g hm hg
      refine h15 _ _ ⟨fun q => n_absurd q (by simp (disch := omega) only [n_lit0, n_lit1, n_lit2, n_lit3, n_lit4, n_lit5, n_lit6, n_lit7, n_lit8, n_lit9, n_lit10, n_lit11, n_lit12, n_lit13, n_lit14, n_lit15, n_lit16, n_lit17, n_lit18, n_lit19, n_lit20, n_lit21, n_lit22, n_lit23, n_lit24, n_lit30, n_lit31, n_lit32, n_lit45, n_lit48, n_lit49, n_lit57, n_lit59, n_lit60, n_lit67, n_lit76, n_lit77, n_lit90, n_lit96, n_lit97, n_lit98, n_lit99, n_lit100, n_lit119, n_lit120, n_lit127, n_lit128, n_lit196, n_lit200, n_lit208, n_lit294, n_lit340, n_lit341, n_lit392, n_lit490, n_lit491, n_lit500, n_lit588, n_lit589, n_lit999, n_lit1178, n_lit5301, n_lit5890, n_lit46656, n_add, n_mul, n_sub, n_lt_t, n_lt_f, n_le_t, n_le_f, n_eq_t, n_eq_f, n_clamp, n_in_t, ax_sm_s, true_and, and_true, not_true_eq_false, not_false_eq_true, true_imp, false_imp, imp_true, and_self, ax_wI_2, ax_rI_2, ax_wI_t, ax_wI_n, ax_rI_t, ax_rI_n, n_up_t, n_up_n, ne_eq, or_true, true_or, false_or, or_false, some_ex, n_none1, n_none2, ite_true, ite_false]), fun _ => (c_copyNode (C := pW C i g _ _) hP hP (Or.inl rfl) rfl (by omega) (k2 := k + m) (by simp (disch := omega) only [n_lit0, n_lit1, n_lit2, n_lit3, n_lit4, n_lit5, n_lit6, n_lit7, n_lit8, n_lit9, n_lit10, n_lit11, n_lit12, n_lit13, n_lit14, n_lit15, n_lit16, n_lit17, n_lit18, n_lit19, n_lit20, n_lit21, n_lit22, n_lit23, n_lit24, n_lit30, n_lit31, n_lit32, n_lit45, n_lit48, n_lit49, n_lit57, n_lit59, n_lit60, n_lit67, n_lit76, n_lit77, n_lit90, n_lit96, n_lit97, n_lit98, n_lit99, n_lit100, n_lit119, n_lit120, n_lit127, n_lit128, n_lit196, n_lit200, n_lit208, n_lit294, n_lit340, n_lit341, n_lit392, n_lit490, n_lit491, n_lit500, n_lit588, n_lit589, n_lit999, n_lit1178, n_lit5301, n_lit5890, n_lit46656, n_add, n_mul, n_sub, n_lt_t, n_lt_f, n_le_t, n_le_f, n_eq_t, n_eq_f, n_clamp, n_in_t, ax_sm_s, true_and, and_true, not_true_eq_false, not_false_eq_true, true_imp, false_imp, imp_true, and_self, ax_wI_2, ax_rI_2, ax_wI_t, ax_wI_n, ax_rI_t, ax_rI_n, n_up_t, n_up_n, ne_eq, or_true, true_or, false_or, or_false, some_ex, n_none1, n_none2, ite_true, ite_false]) (by omega)).use ?_⟩
      rw [pW_rI, pW_row, show k + (m + 1) = (k + m) + 1 by omega, n_pred]
      refine ih _ (by omega) fun q => ?_
      unfold nd
      by_cases z : 8 * (k + m + 1) ≤ q ∧ q < 8 * (k + m + 1) + 8
      · rw [if_pos z, if_pos (by omega)]; dsimp only; rw [hg, if_neg (by omega)]
        exact congrArg _ (by omega)
      · rw [if_neg z, hg]
        by_cases z2 : 8 * (k + (m + 1)) + 8 ≤ q ∧ q < 8 * n + 8
        · rw [if_pos z2, if_pos (by omega)]
        · rw [if_neg z2, if_neg (by omega)]
  have := loop (n - k) (C.1 (i + 1)) (by omega) (fun q => by rw [if_neg (by omega)])
  rw [pW_self, show k + (n - k) = n by omega] at this
  rw [hs]
  exact this
end
