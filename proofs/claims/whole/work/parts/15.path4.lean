/-! ===== Path: mapped, turned, joined, split ===== -/
def ct (row : Nat → Int32) (n k w a : Nat) : Int32 := if w = 0 then row (8 * k + a) else if w = 1 then row (8 * k + a) + row (8 * k + (4 + a)) else if w = 2 then row (8 * eo n k + a) + row (8 * eo n k + (2 + a)) else row (8 * eo n k + a)
theorem eo_lt {n k : Nat} (hn : n ≤ 12) : eo n k < 12 := by unfold eo; split <;> omega
def sw (row : Nat → Int32) (p q : Nat) : Nat → Int32 := va_up (va_up row p (row q)) q (row p)
/-- a node's fields, turned -/
def sf (f : Nat) : Nat := if f = 2 then 4 else if f = 4 then 2 else if f = 3 then 5 else if f = 5 then 3 else if f = 6 then 7 else if f = 7 then 6 else f
def ro (row : Nat → Int32) (n k q : Nat) : Int32 := if q + 8 * k < 8 * n then row (q + 8 * k) else row (q + 8 * k - 8 * n)
/-- the handles of node k fit its ratio -/
def hf (row : Nat → Int32) (k : Nat) : Prop := (row (8 * k + 2)).toInt64 * (row (8 * k + 7)).toInt64 = -(row (8 * k + 6)).toInt64 * (row (8 * k + 4)).toInt64 ∧ (row (8 * k + 3)).toInt64 * (row (8 * k + 7)).toInt64 = -(row (8 * k + 6)).toInt64 * (row (8 * k + 5)).toInt64
def hfD (row : Nat → Int32) (k : Nat) : Decidable (hf row k) := inferInstanceAs (Decidable (_ ∧ _))
section
variable {l : Launch} {D : ax_D} {S : ax_S} {C : ax_C}
theorem c_control {i n k w a : Nat} {x y z : Int32} (hP : pA S C i) (hs : C.1 i 1 = nI n) (hn : n ≤ 12) (hx : x = nI k) (hk : k < 12) (hy : y = nI w) (hw : w < 2 ^ 31) (hz : z = nI a) (ha : a < 2) : ax_CI l D mt_X3_control [ax_r (some i), ax_i x, ax_i y, ax_i z] S C (fun r C' => r = ct (C.1 (i + 1)) n k w a ∧ C' = C) := by
  subst hy hz
  have he := eo_lt (k := k) hn
  refine vc_X3_control hP.1 ⟨fun q => ?_, fun q0 => ⟨fun q => ?_, fun q1 => ⟨fun q => ?_, fun q2 => ?_⟩⟩⟩
  · have hw0 : w = 0 := (nI_eq hw (by decide)).mp q
    subst hw0
    exact (c_get hP hx hk (f := a) (by simp (disch := omega) only [n_lit0, n_lit1, n_lit2, n_lit3, n_lit4, n_lit5, n_lit6, n_lit7, n_lit8, n_lit9, n_lit10, n_lit11, n_lit12, n_lit13, n_lit14, n_lit15, n_lit16, n_lit17, n_lit18, n_lit19, n_lit20, n_lit21, n_lit22, n_lit23, n_lit24, n_lit30, n_lit31, n_lit32, n_lit45, n_lit48, n_lit49, n_lit57, n_lit59, n_lit60, n_lit67, n_lit76, n_lit77, n_lit90, n_lit96, n_lit97, n_lit98, n_lit99, n_lit100, n_lit119, n_lit120, n_lit127, n_lit128, n_lit196, n_lit200, n_lit208, n_lit294, n_lit340, n_lit341, n_lit392, n_lit490, n_lit491, n_lit500, n_lit588, n_lit589, n_lit999, n_lit1178, n_lit5301, n_lit5890, n_lit46656, n_add, n_mul, n_sub, n_lt_t, n_lt_f, n_le_t, n_le_f, n_eq_t, n_eq_f, n_clamp, n_in_t, ax_sm_s, true_and, and_true, not_true_eq_false, not_false_eq_true, true_imp, false_imp, imp_true, and_self, ax_wI_2, ax_rI_2, ax_wI_t, ax_wI_n, ax_rI_t, ax_rI_n, n_up_t, n_up_n, ne_eq, or_true, true_or, false_or, or_false, some_ex, n_none1, n_none2, ite_true, ite_false]) (by omega)).use ⟨by simp [ct], rfl⟩
  · have hw1 : w = 1 := (nI_eq hw (by decide)).mp q
    subst hw1
    exact (c_get hP hx hk (f := a) (by simp (disch := omega) only [n_lit0, n_lit1, n_lit2, n_lit3, n_lit4, n_lit5, n_lit6, n_lit7, n_lit8, n_lit9, n_lit10, n_lit11, n_lit12, n_lit13, n_lit14, n_lit15, n_lit16, n_lit17, n_lit18, n_lit19, n_lit20, n_lit21, n_lit22, n_lit23, n_lit24, n_lit30, n_lit31, n_lit32, n_lit45, n_lit48, n_lit49, n_lit57, n_lit59, n_lit60, n_lit67, n_lit76, n_lit77, n_lit90, n_lit96, n_lit97, n_lit98, n_lit99, n_lit100, n_lit119, n_lit120, n_lit127, n_lit128, n_lit196, n_lit200, n_lit208, n_lit294, n_lit340, n_lit341, n_lit392, n_lit490, n_lit491, n_lit500, n_lit588, n_lit589, n_lit999, n_lit1178, n_lit5301, n_lit5890, n_lit46656, n_add, n_mul, n_sub, n_lt_t, n_lt_f, n_le_t, n_le_f, n_eq_t, n_eq_f, n_clamp, n_in_t, ax_sm_s, true_and, and_true, not_true_eq_false, not_false_eq_true, true_imp, false_imp, imp_true, and_self, ax_wI_2, ax_rI_2, ax_wI_t, ax_wI_n, ax_rI_t, ax_rI_n, n_up_t, n_up_n, ne_eq, or_true, true_or, false_or, or_false, some_ex, n_none1, n_none2, ite_true, ite_false]) (by omega)).use ((c_get hP hx hk (f := 4 + a) (by simp (disch := omega) only [n_lit0, n_lit1, n_lit2, n_lit3, n_lit4, n_lit5, n_lit6, n_lit7, n_lit8, n_lit9, n_lit10, n_lit11, n_lit12, n_lit13, n_lit14, n_lit15, n_lit16, n_lit17, n_lit18, n_lit19, n_lit20, n_lit21, n_lit22, n_lit23, n_lit24, n_lit30, n_lit31, n_lit32, n_lit45, n_lit48, n_lit49, n_lit57, n_lit59, n_lit60, n_lit67, n_lit76, n_lit77, n_lit90, n_lit96, n_lit97, n_lit98, n_lit99, n_lit100, n_lit119, n_lit120, n_lit127, n_lit128, n_lit196, n_lit200, n_lit208, n_lit294, n_lit340, n_lit341, n_lit392, n_lit490, n_lit491, n_lit500, n_lit588, n_lit589, n_lit999, n_lit1178, n_lit5301, n_lit5890, n_lit46656, n_add, n_mul, n_sub, n_lt_t, n_lt_f, n_le_t, n_le_f, n_eq_t, n_eq_f, n_clamp, n_in_t, ax_sm_s, true_and, and_true, not_true_eq_false, not_false_eq_true, true_imp, false_imp, imp_true, and_self, ax_wI_2, ax_rI_2, ax_wI_t, ax_wI_n, ax_rI_t, ax_rI_n, n_up_t, n_up_n, ne_eq, or_true, true_or, false_or, or_false, some_ex, n_none1, n_none2, ite_true, ite_false]) (by omega)).use ⟨by simp [ct], rfl⟩)
  · have hw2 : w = 2 := (nI_eq hw (by decide)).mp q
    subst hw2
    exact (c_endOf hP hs hn hx hk).use ((c_get hP rfl he (f := a) (by simp (disch := omega) only [n_lit0, n_lit1, n_lit2, n_lit3, n_lit4, n_lit5, n_lit6, n_lit7, n_lit8, n_lit9, n_lit10, n_lit11, n_lit12, n_lit13, n_lit14, n_lit15, n_lit16, n_lit17, n_lit18, n_lit19, n_lit20, n_lit21, n_lit22, n_lit23, n_lit24, n_lit30, n_lit31, n_lit32, n_lit45, n_lit48, n_lit49, n_lit57, n_lit59, n_lit60, n_lit67, n_lit76, n_lit77, n_lit90, n_lit96, n_lit97, n_lit98, n_lit99, n_lit100, n_lit119, n_lit120, n_lit127, n_lit128, n_lit196, n_lit200, n_lit208, n_lit294, n_lit340, n_lit341, n_lit392, n_lit490, n_lit491, n_lit500, n_lit588, n_lit589, n_lit999, n_lit1178, n_lit5301, n_lit5890, n_lit46656, n_add, n_mul, n_sub, n_lt_t, n_lt_f, n_le_t, n_le_f, n_eq_t, n_eq_f, n_clamp, n_in_t, ax_sm_s, true_and, and_true, not_true_eq_false, not_false_eq_true, true_imp, false_imp, imp_true, and_self, ax_wI_2, ax_rI_2, ax_wI_t, ax_wI_n, ax_rI_t, ax_rI_n, n_up_t, n_up_n, ne_eq, or_true, true_or, false_or, or_false, some_ex, n_none1, n_none2, ite_true, ite_false]) (by omega)).use ((c_endOf hP hs hn hx hk).use ((c_get hP rfl he (f := 2 + a) (by simp (disch := omega) only [n_lit0, n_lit1, n_lit2, n_lit3, n_lit4, n_lit5, n_lit6, n_lit7, n_lit8, n_lit9, n_lit10, n_lit11, n_lit12, n_lit13, n_lit14, n_lit15, n_lit16, n_lit17, n_lit18, n_lit19, n_lit20, n_lit21, n_lit22, n_lit23, n_lit24, n_lit30, n_lit31, n_lit32, n_lit45, n_lit48, n_lit49, n_lit57, n_lit59, n_lit60, n_lit67, n_lit76, n_lit77, n_lit90, n_lit96, n_lit97, n_lit98, n_lit99, n_lit100, n_lit119, n_lit120, n_lit127, n_lit128, n_lit196, n_lit200, n_lit208, n_lit294, n_lit340, n_lit341, n_lit392, n_lit490, n_lit491, n_lit500, n_lit588, n_lit589, n_lit999, n_lit1178, n_lit5301, n_lit5890, n_lit46656, n_add, n_mul, n_sub, n_lt_t, n_lt_f, n_le_t, n_le_f, n_eq_t, n_eq_f, n_clamp, n_in_t, ax_sm_s, true_and, and_true, not_true_eq_false, not_false_eq_true, true_imp, false_imp, imp_true, and_self, ax_wI_2, ax_rI_2, ax_wI_t, ax_wI_n, ax_rI_t, ax_rI_n, n_up_t, n_up_n, ne_eq, or_true, true_or, false_or, or_false, some_ex, n_none1, n_none2, ite_true, ite_false]) (by omega)).use ⟨by simp [ct], rfl⟩)))
  · have w0 : w ≠ 0 := fun z => q0 (by rw [z]; rfl)
    have w1 : w ≠ 1 := fun z => q1 (by rw [z]; rfl)
    have w2 : w ≠ 2 := fun z => q2 (by rw [z]; rfl)
    exact (c_endOf hP hs hn hx hk).use ((c_get hP rfl he (f := a) (by simp (disch := omega) only [n_lit0, n_lit1, n_lit2, n_lit3, n_lit4, n_lit5, n_lit6, n_lit7, n_lit8, n_lit9, n_lit10, n_lit11, n_lit12, n_lit13, n_lit14, n_lit15, n_lit16, n_lit17, n_lit18, n_lit19, n_lit20, n_lit21, n_lit22, n_lit23, n_lit24, n_lit30, n_lit31, n_lit32, n_lit45, n_lit48, n_lit49, n_lit57, n_lit59, n_lit60, n_lit67, n_lit76, n_lit77, n_lit90, n_lit96, n_lit97, n_lit98, n_lit99, n_lit100, n_lit119, n_lit120, n_lit127, n_lit128, n_lit196, n_lit200, n_lit208, n_lit294, n_lit340, n_lit341, n_lit392, n_lit490, n_lit491, n_lit500, n_lit588, n_lit589, n_lit999, n_lit1178, n_lit5301, n_lit5890, n_lit46656, n_add, n_mul, n_sub, n_lt_t, n_lt_f, n_le_t, n_le_f, n_eq_t, n_eq_f, n_clamp, n_in_t, ax_sm_s, true_and, and_true, not_true_eq_false, not_false_eq_true, true_imp, false_imp, imp_true, and_self, ax_wI_2, ax_rI_2, ax_wI_t, ax_wI_n, ax_rI_t, ax_rI_n, n_up_t, n_up_n, ne_eq, or_true, true_or, false_or, or_false, some_ex, n_none1, n_none2, ite_true, ite_false]) (by omega)).use ⟨by simp [ct, w0, w1, w2], rfl⟩)
/-- both handles of segment k are 0 -/
def sz (row : Nat → Int32) (n k : Nat) : Bool := decide (row (8 * k + 4) = 0) && decide (row (8 * k + 5) = 0) && decide (row (8 * eo n k + 2) = 0) && decide (row (8 * eo n k + 3) = 0)
theorem c_isStraight {i n k : Nat} {x : Int32} (hP : pA S C i) (hs : C.1 i 1 = nI n) (hn : n ≤ 12) (hx : x = nI k) (hk : k < 12) : ax_CI l D mt_X3_isStraight [ax_r (some i), ax_i x] S C (fun r C' => r = bI (sz (C.1 (i + 1)) n k) ∧ C' = C) := by
  have he := eo_lt (k := k) hn
  refine vc_X3_isStraight hP.1 ((c_isZero hP hx hk (f := 4) rfl (by omega)).use ?_)
  by_cases h1 : C.1 (i + 1) (8 * k + 4) = 0 ∧ C.1 (i + 1) (8 * k + 4 + 1) = 0
  · rw [if_pos h1]
    refine ⟨fun q => absurd q (by decide), fun _ => (c_endOf hP hs hn hx hk).use ((c_isZero hP rfl he (f := 2) rfl (by omega)).use ?_)⟩
    by_cases h2 : C.1 (i + 1) (8 * eo n k + 2) = 0 ∧ C.1 (i + 1) (8 * eo n k + 2 + 1) = 0
    · rw [if_pos h2]
      exact ⟨fun q => absurd q (by decide), fun _ => ⟨by simp [sz, h1.1, show C.1 (i + 1) (8 * k + 5) = 0 from h1.2, h2.1, show C.1 (i + 1) (8 * eo n k + 3) = 0 from h2.2, bI], rfl⟩⟩
    · rw [if_neg h2]
      refine ⟨fun _ => ⟨?_, rfl⟩, fun q => absurd rfl q⟩
      have : sz (C.1 (i + 1)) n k = false := by
        cases hq : sz (C.1 (i + 1)) n k
        · rfl
        · simp only [sz, Bool.and_eq_true, decide_eq_true_eq] at hq
          exact absurd ⟨hq.1.2, hq.2⟩ h2
      rw [this]; rfl
  · rw [if_neg h1]
    refine ⟨fun _ => ⟨?_, rfl⟩, fun q => absurd rfl q⟩
    have : sz (C.1 (i + 1)) n k = false := by
      cases hq : sz (C.1 (i + 1)) n k
      · rfl
      · simp only [sz, Bool.and_eq_true, decide_eq_true_eq] at hq
        exact absurd ⟨hq.1.1.1, hq.1.1.2⟩ h1
    rw [this]; rfl
theorem c_exchange {i a b f1 f2 : Nat} {x y z w : Int32} (hP : pA S C i) (hx : x = nI a) (ha : a < 12) (hy : y = nI f1) (h1 : f1 < 8) (hz : z = nI b) (hb : b < 12) (hw : w = nI f2) (h2 : f2 < 8) : ax_CV l D mt_X3_exchange [ax_r (some i), ax_i x, ax_i y, ax_i z, ax_i w] S C (fun C' => C' = ax_rI C (i + 1) (sw (C.1 (i + 1)) (8 * a + f1) (8 * b + f2))) := by
  refine vc_X3_exchange hP.1 ((c_get hP hx ha hy h1).use ((c_get hP hz hb hw h2).use ((c_put hP hx ha hy h1).use ((c_put (C := ax_rI C _ _) hP hz hb hw h2).use ?_))))
  rw [ax_rI_rI, ax_rI_t rfl]
  rfl
theorem c_turnRound {i n : Nat} (hP : pA S C i) (hs : C.1 i 1 = nI n) (hn : n ≤ 12) (hn1 : 1 ≤ n) : ax_CV l D mt_X3_turnRound [ax_r (some i)] S C (fun C' => ∃ g, C' = pW C i g (nI n) (C.1 i 2) ∧ ∀ q, q < 8 * n → g q = C.1 (i + 1) (8 * (n - 1 - q / 8) + sf (q % 8))) := by
  refine vc_X3_turnRound hP.1 fun P2 P16 P51 h2 h16 h51 => ?_
  have ph2 : ∀ (m t : Nat) (g : Nat → Int32), t + m = n → (∀ q, q < 8 * n → g q = if q < 8 * t then C.1 (i + 1) (8 * (n - 1 - q / 8) + sf (q % 8)) else C.1 (i + 1) (8 * (n - 1 - q / 8) + q % 8)) → P51 (nI t) (pW C i g (nI n) (C.1 i 2)) := by
    intro m
    induction m with
    | zero =>
      intro t g ht hg
      refine h51 _ _ ⟨hP.1, ?_⟩
      rw [pW_s]
      refine ⟨fun _ => ⟨g, rfl, fun q hq => ?_⟩, fun q => n_absurd (by simp (disch := omega) only [n_lit0, n_lit1, n_lit2, n_lit3, n_lit4, n_lit5, n_lit6, n_lit7, n_lit8, n_lit9, n_lit10, n_lit11, n_lit12, n_lit13, n_lit14, n_lit15, n_lit16, n_lit17, n_lit18, n_lit19, n_lit20, n_lit21, n_lit22, n_lit23, n_lit24, n_lit30, n_lit31, n_lit32, n_lit45, n_lit48, n_lit49, n_lit57, n_lit59, n_lit60, n_lit67, n_lit76, n_lit77, n_lit90, n_lit96, n_lit97, n_lit98, n_lit99, n_lit100, n_lit119, n_lit120, n_lit127, n_lit128, n_lit196, n_lit200, n_lit208, n_lit294, n_lit340, n_lit341, n_lit392, n_lit490, n_lit491, n_lit500, n_lit588, n_lit589, n_lit999, n_lit1178, n_lit5301, n_lit5890, n_lit46656, n_add, n_mul, n_sub, n_lt_t, n_lt_f, n_le_t, n_le_f, n_eq_t, n_eq_f, n_clamp, n_in_t, ax_sm_s, true_and, and_true, not_true_eq_false, not_false_eq_true, true_imp, false_imp, imp_true, and_self, ax_wI_2, ax_rI_2, ax_wI_t, ax_wI_n, ax_rI_t, ax_rI_n, n_up_t, n_up_n, ne_eq, or_true, true_or, false_or, or_false, some_ex, n_none1, n_none2, ite_true, ite_false]) q⟩
      rw [hg q hq, if_pos (by omega)]
    | succ m ih =>
      intro t g ht hg
      refine h51 _ _ ⟨hP.1, ?_⟩
      rw [pW_s]
      refine ⟨fun q => n_absurd q (by simp (disch := omega) only [n_lit0, n_lit1, n_lit2, n_lit3, n_lit4, n_lit5, n_lit6, n_lit7, n_lit8, n_lit9, n_lit10, n_lit11, n_lit12, n_lit13, n_lit14, n_lit15, n_lit16, n_lit17, n_lit18, n_lit19, n_lit20, n_lit21, n_lit22, n_lit23, n_lit24, n_lit30, n_lit31, n_lit32, n_lit45, n_lit48, n_lit49, n_lit57, n_lit59, n_lit60, n_lit67, n_lit76, n_lit77, n_lit90, n_lit96, n_lit97, n_lit98, n_lit99, n_lit100, n_lit119, n_lit120, n_lit127, n_lit128, n_lit196, n_lit200, n_lit208, n_lit294, n_lit340, n_lit341, n_lit392, n_lit490, n_lit491, n_lit500, n_lit588, n_lit589, n_lit999, n_lit1178, n_lit5301, n_lit5890, n_lit46656, n_add, n_mul, n_sub, n_lt_t, n_lt_f, n_le_t, n_le_f, n_eq_t, n_eq_f, n_clamp, n_in_t, ax_sm_s, true_and, and_true, not_true_eq_false, not_false_eq_true, true_imp, false_imp, imp_true, and_self, ax_wI_2, ax_rI_2, ax_wI_t, ax_wI_n, ax_rI_t, ax_rI_n, n_up_t, n_up_n, ne_eq, or_true, true_or, false_or, or_false, some_ex, n_none1, n_none2, ite_true, ite_false]), fun _ => ?_⟩
      refine (c_exchange (C := pW C i g _ _) hP rfl (by omega) (f1 := 2) rfl (by omega) rfl (by omega) (f2 := 4) rfl (by omega)).use ?_
      rw [pW_rI, pW_row]
      refine (c_exchange (C := pW C i _ _ _) hP rfl (by omega) (f1 := 3) rfl (by omega) rfl (by omega) (f2 := 5) rfl (by omega)).use ?_
      rw [pW_rI, pW_row]
      refine (c_exchange (C := pW C i _ _ _) hP rfl (by omega) (f1 := 6) rfl (by omega) rfl (by omega) (f2 := 7) rfl (by omega)).use ?_
      rw [pW_rI, pW_row, n_succ]
      refine ih (t + 1) _ (by omega) fun q hq => ?_
      have key : sw (sw (sw g (8 * t + 2) (8 * t + 4)) (8 * t + 3) (8 * t + 5)) (8 * t + 6) (8 * t + 7) q = if 8 * t ≤ q ∧ q < 8 * t + 8 then g (8 * t + sf (q - 8 * t)) else g q := by
        by_cases z : 8 * t ≤ q ∧ q < 8 * t + 8
        · obtain ⟨f, rfl⟩ : ∃ f, q = 8 * t + f := ⟨q - 8 * t, by omega⟩
          rw [if_pos z, Nat.add_sub_cancel_left]
          have hf : f < 8 := by omega
          match f, hf with
          | 0, _ => simp [sw, va_up, sf]
          | 1, _ => simp [sw, va_up, sf]
          | 2, _ => simp [sw, va_up, sf]
          | 3, _ => simp [sw, va_up, sf]
          | 4, _ => simp [sw, va_up, sf]
          | 5, _ => simp [sw, va_up, sf]
          | 6, _ => simp [sw, va_up, sf]
          | 7, _ => simp [sw, va_up, sf]
        · rw [if_neg z]
          have d2 : q ≠ 8 * t + 2 := by omega
          have d3 : q ≠ 8 * t + 3 := by omega
          have d4 : q ≠ 8 * t + 4 := by omega
          have d5 : q ≠ 8 * t + 5 := by omega
          have d6 : q ≠ 8 * t + 6 := by omega
          have d7 : q ≠ 8 * t + 7 := by omega
          simp [sw, va_up, d2, d3, d4, d5, d6, d7]
      rw [key]
      by_cases z : 8 * t ≤ q ∧ q < 8 * t + 8
      · have hsf : sf (q - 8 * t) < 8 := by unfold sf; (repeat' split) <;> omega
        rw [if_pos z, if_pos (by omega), hg _ (by omega), if_neg (by omega)]
        have e1 : (8 * t + sf (q - 8 * t)) / 8 = q / 8 := by omega
        have e2 : (8 * t + sf (q - 8 * t)) % 8 = sf (q - 8 * t) := by omega
        have e3 : q - 8 * t = q % 8 := by omega
        rw [e1, e2, e3]
      · rw [if_neg z, hg q hq]
        by_cases z2 : q < 8 * t
        · rw [if_pos z2, if_pos (by omega)]
        · rw [if_neg z2, if_neg (by omega)]
  have ph1 : ∀ (m t : Nat), 2 * t + m = n → ∀ g : Nat → Int32, (∀ q, q < 8 * n → g q = if q < 8 * t ∨ 8 * (n - t) ≤ q then C.1 (i + 1) (8 * (n - 1 - q / 8) + q % 8) else C.1 (i + 1) q) → P2 (nI t) (pW C i g (nI n) (C.1 i 2)) := by
    intro m
    induction m using Nat.strongRecOn with
    | _ m ih =>
      intro t ht g hg
      refine h2 _ _ ⟨hP.1, ?_⟩
      rw [pW_s, n_lit1, n_sub hn1, n_sub (a := n - 1) (b := t) (by omega)]
      refine ⟨fun q0 => ?_, fun q0 => ?_⟩
      · have hle : n - 1 - t ≤ t := by
          rcases Nat.lt_or_ge t (n - 1 - t) with z | z
          · exact absurd q0 (nI_ge z (by omega))
          · exact z
        refine ph2 n 0 g (by omega) fun q hq => ?_
        rw [if_neg (by omega), hg q hq]
        by_cases z : q < 8 * t ∨ 8 * (n - t) ≤ q
        · rw [if_pos z]
        · rw [if_neg z]
          exact congrArg _ (by omega)
      · have hlt : t < n - 1 - t := by
          rcases Nat.lt_or_ge t (n - 1 - t) with z | z
          · exact z
          · exact absurd (nI_le z (by omega)) q0
        have inner : ∀ (m2 s : Nat) (g2 : Nat → Int32), s + m2 = 8 → (∀ q, q < 8 * n → g2 q = if q < 8 * t + s ∨ (8 * (n - 1 - t) ≤ q ∧ q < 8 * (n - 1 - t) + s) ∨ 8 * (n - t) ≤ q then C.1 (i + 1) (8 * (n - 1 - q / 8) + q % 8) else C.1 (i + 1) q) → P16 (nI t) (nI s) (pW C i g2 (nI n) (C.1 i 2)) := by
          intro m2
          induction m2 with
          | zero =>
            intro s g2 hs2 hg2
            have : s = 8 := by omega
            subst this
            refine h16 _ _ _ ⟨fun _ => ?_, fun q => n_absurd (by simp (disch := omega) only [n_lit0, n_lit1, n_lit2, n_lit3, n_lit4, n_lit5, n_lit6, n_lit7, n_lit8, n_lit9, n_lit10, n_lit11, n_lit12, n_lit13, n_lit14, n_lit15, n_lit16, n_lit17, n_lit18, n_lit19, n_lit20, n_lit21, n_lit22, n_lit23, n_lit24, n_lit30, n_lit31, n_lit32, n_lit45, n_lit48, n_lit49, n_lit57, n_lit59, n_lit60, n_lit67, n_lit76, n_lit77, n_lit90, n_lit96, n_lit97, n_lit98, n_lit99, n_lit100, n_lit119, n_lit120, n_lit127, n_lit128, n_lit196, n_lit200, n_lit208, n_lit294, n_lit340, n_lit341, n_lit392, n_lit490, n_lit491, n_lit500, n_lit588, n_lit589, n_lit999, n_lit1178, n_lit5301, n_lit5890, n_lit46656, n_add, n_mul, n_sub, n_lt_t, n_lt_f, n_le_t, n_le_f, n_eq_t, n_eq_f, n_clamp, n_in_t, ax_sm_s, true_and, and_true, not_true_eq_false, not_false_eq_true, true_imp, false_imp, imp_true, and_self, ax_wI_2, ax_rI_2, ax_wI_t, ax_wI_n, ax_rI_t, ax_rI_n, n_up_t, n_up_n, ne_eq, or_true, true_or, false_or, or_false, some_ex, n_none1, n_none2, ite_true, ite_false]) q⟩
            rw [n_succ]
            refine ih (m - 2) (by omega) (t + 1) (by omega) g2 fun q hq => ?_
            rw [hg2 q hq]
            by_cases z : q < 8 * (t + 1) ∨ 8 * (n - (t + 1)) ≤ q
            · rw [if_pos z, if_pos (by omega)]
            · rw [if_neg z, if_neg (by omega)]
          | succ m2 ih2 =>
            intro s g2 hs2 hg2
            refine h16 _ _ _ ⟨fun q => n_absurd q (by simp (disch := omega) only [n_lit0, n_lit1, n_lit2, n_lit3, n_lit4, n_lit5, n_lit6, n_lit7, n_lit8, n_lit9, n_lit10, n_lit11, n_lit12, n_lit13, n_lit14, n_lit15, n_lit16, n_lit17, n_lit18, n_lit19, n_lit20, n_lit21, n_lit22, n_lit23, n_lit24, n_lit30, n_lit31, n_lit32, n_lit45, n_lit48, n_lit49, n_lit57, n_lit59, n_lit60, n_lit67, n_lit76, n_lit77, n_lit90, n_lit96, n_lit97, n_lit98, n_lit99, n_lit100, n_lit119, n_lit120, n_lit127, n_lit128, n_lit196, n_lit200, n_lit208, n_lit294, n_lit340, n_lit341, n_lit392, n_lit490, n_lit491, n_lit500, n_lit588, n_lit589, n_lit999, n_lit1178, n_lit5301, n_lit5890, n_lit46656, n_add, n_mul, n_sub, n_lt_t, n_lt_f, n_le_t, n_le_f, n_eq_t, n_eq_f, n_clamp, n_in_t, ax_sm_s, true_and, and_true, not_true_eq_false, not_false_eq_true, true_imp, false_imp, imp_true, and_self, ax_wI_2, ax_rI_2, ax_wI_t, ax_wI_n, ax_rI_t, ax_rI_n, n_up_t, n_up_n, ne_eq, or_true, true_or, false_or, or_false, some_ex, n_none1, n_none2, ite_true, ite_false]), fun _ => ⟨hP.1, ?_⟩⟩
            rw [pW_s, n_lit1, n_sub hn1, n_sub (a := n - 1) (b := t) (by omega), n_add]
            refine (c_exchange (C := pW C i g2 _ _) hP rfl (by omega) rfl (by omega) rfl (by omega) rfl (by omega)).use ?_
            rw [pW_rI, pW_row]
            refine ih2 (s + 1) _ (by omega) fun q hq => ?_
            unfold sw
            by_cases z1 : q = 8 * (n - 1 - t) + s
            · rw [n_up_t z1, if_pos (by omega), hg2 _ (by omega), if_neg (by omega)]
              exact congrArg _ (by omega)
            · rw [n_up_n z1]
              by_cases z2 : q = 8 * t + s
              · rw [n_up_t z2, if_pos (by omega), hg2 _ (by omega), if_neg (by omega)]
                exact congrArg _ (by omega)
              · rw [n_up_n z2, hg2 q hq]
                by_cases z : q < 8 * t + s ∨ (8 * (n - 1 - t) ≤ q ∧ q < 8 * (n - 1 - t) + s) ∨ 8 * (n - t) ≤ q
                · rw [if_pos z, if_pos (by omega)]
                · rw [if_neg z, if_neg (by omega)]
        refine inner 8 0 g rfl fun q hq => ?_
        rw [hg q hq]
        by_cases z : q < 8 * t ∨ 8 * (n - t) ≤ q
        · rw [if_pos z, if_pos (by omega)]
        · rw [if_neg z, if_neg (by omega)]
  have := ph1 n 0 (by omega) (C.1 (i + 1)) (fun q hq => by rw [if_neg (by omega)])
  rw [← hs, pW_self] at this
  exact this
end
