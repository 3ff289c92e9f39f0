/-! ===== Path: areas, boxes, finds, hashes ===== -/
def tm (row : Nat → Int32) (n k q : Nat) : Int64 := ((ax_wt q).toInt64 * (ct row n k (q % 3 + 1) 1 - ct row n k (q % 3) 1).toInt64) * (ct row n k (q / 3) 0).toInt64
def a12 (row : Nat → Int32) (n k : Nat) (acc : Int64) : Nat → Int64
  | 0 => acc
  | q + 1 => a12 row n k acc q + tm row n k q
def aS (row : Nat → Int32) (n : Nat) : Nat → Int64
  | 0 => 0
  | k + 1 => a12 row n k (aS row n k) 12
def mm (gr : Bool) (b v : Int32) : Int32 := if gr = true then (if b < v then v else b) else (if v < b then v else b)
def ex1 (row : Nat → Int32) (n k a : Nat) (gr : Bool) (best : Int32) : Nat → Int32
  | 0 => best
  | w + 1 => mm gr (ex1 row n k a gr best w) (ct row n k w a)
def exS (row : Nat → Int32) (n a : Nat) (gr : Bool) : Nat → Int32
  | 0 => row a
  | k + 1 => ex1 row n k a gr (exS row n a gr k) 4
def nf (row : Nat → Int32) (x y : Int32) : Nat → Nat → Int32
  | 0, _ => -100000007
  | m + 1, k => if row (8 * k) = x ∧ row (8 * k + 1) = y then nI k else nf row x y m (k + 1)
def rn (row : Nat → Int32) (k f : Nat) : Int32 := if row (8 * k + 6) = 0 then (-100000007) else row (8 * k + f)
def h6 (row : Nat → Int32) (k : Nat) (h : Int64) : Nat → Int64
  | 0 => h
  | f + 1 => 31 * h6 row k h f + (row (8 * k + f)).toInt64
def hN (row : Nat → Int32) (k : Nat) (h : Int64) : Int64 := 31 * (31 * h6 row k h 6 + (rn row k 6).toInt64) + (rn row k 7).toInt64
def hS (row : Nat → Int32) (h : Int64) : Nat → Int64
  | 0 => h
  | k + 1 => hN row k (hS row h k)
def hP1 (row : Nat → Int32) (n : Nat) (b : Bool) (h : Int64) : Int64 := if b = true then 31 * hS row ((h * 31 + (nI n).toInt64) * 31 + (bI b).toInt64) n + aS row n n else hS row ((h * 31 + (nI n).toInt64) * 31 + (bI b).toInt64) n
section
variable {l : Launch} {D : ax_D} {S : ax_S} {C : ax_C}
theorem c_sixtyAreas {i n : Nat} {b : Bool} (hP : pA S C i) (hs : C.1 i 1 = nI n) (hb : C.1 i 2 = bI b) (hn1 : 1 ≤ n) (hn : n ≤ 12) : ax_CL l D mt_X3_sixtyAreas [ax_r (some i)] S C (fun r C' => r = aS (C.1 (i + 1)) n (sg n b) ∧ C' = C) := by
  have hg : sg n b ≤ 12 := by unfold sg; split <;> omega
  refine vc_X3_sixtyAreas hP.1 fun P4 P15 h4 h15 => ?_
  have loop : ∀ (m k : Nat), k + m = sg n b → P4 (aS (C.1 (i + 1)) n k) (nI k) C := by
    intro m
    induction m with
    | zero =>
      intro k hk
      have : k = sg n b := by omega
      subst this
      exact h4 _ _ _ ((c_segmentCount hP hs hb hn1).use ⟨fun _ => ⟨rfl, rfl⟩, fun q => n_absurd (by simp (disch := omega) only [n_lit0, n_lit1, n_lit2, n_lit3, n_lit4, n_lit5, n_lit6, n_lit7, n_lit8, n_lit9, n_lit10, n_lit11, n_lit12, n_lit13, n_lit14, n_lit15, n_lit16, n_lit17, n_lit18, n_lit19, n_lit20, n_lit21, n_lit22, n_lit23, n_lit24, n_lit30, n_lit31, n_lit32, n_lit45, n_lit48, n_lit49, n_lit57, n_lit59, n_lit60, n_lit67, n_lit76, n_lit77, n_lit90, n_lit96, n_lit97, n_lit98, n_lit99, n_lit100, n_lit119, n_lit120, n_lit127, n_lit128, n_lit196, n_lit200, n_lit208, n_lit294, n_lit340, n_lit341, n_lit392, n_lit490, n_lit491, n_lit500, n_lit588, n_lit589, n_lit999, n_lit1178, n_lit5301, n_lit5890, n_lit46656, n_add, n_mul, n_sub, n_lt_t, n_lt_f, n_le_t, n_le_f, n_eq_t, n_eq_f, n_clamp, n_in_t, ax_sm_s, true_and, and_true, not_true_eq_false, not_false_eq_true, true_imp, false_imp, imp_true, and_self, ax_wI_2, ax_rI_2, ax_wI_t, ax_wI_n, ax_rI_t, ax_rI_n, n_up_t, n_up_n, ne_eq, or_true, true_or, false_or, or_false, some_ex, n_none1, n_none2, ite_true, ite_false]) q⟩)
    | succ m ih =>
      intro k hk
      refine h4 _ _ _ ((c_segmentCount hP hs hb hn1).use ⟨fun q => n_absurd q (by simp (disch := omega) only [n_lit0, n_lit1, n_lit2, n_lit3, n_lit4, n_lit5, n_lit6, n_lit7, n_lit8, n_lit9, n_lit10, n_lit11, n_lit12, n_lit13, n_lit14, n_lit15, n_lit16, n_lit17, n_lit18, n_lit19, n_lit20, n_lit21, n_lit22, n_lit23, n_lit24, n_lit30, n_lit31, n_lit32, n_lit45, n_lit48, n_lit49, n_lit57, n_lit59, n_lit60, n_lit67, n_lit76, n_lit77, n_lit90, n_lit96, n_lit97, n_lit98, n_lit99, n_lit100, n_lit119, n_lit120, n_lit127, n_lit128, n_lit196, n_lit200, n_lit208, n_lit294, n_lit340, n_lit341, n_lit392, n_lit490, n_lit491, n_lit500, n_lit588, n_lit589, n_lit999, n_lit1178, n_lit5301, n_lit5890, n_lit46656, n_add, n_mul, n_sub, n_lt_t, n_lt_f, n_le_t, n_le_f, n_eq_t, n_eq_f, n_clamp, n_in_t, ax_sm_s, true_and, and_true, not_true_eq_false, not_false_eq_true, true_imp, false_imp, imp_true, and_self, ax_wI_2, ax_rI_2, ax_wI_t, ax_wI_n, ax_rI_t, ax_rI_n, n_up_t, n_up_n, ne_eq, or_true, true_or, false_or, or_false, some_ex, n_none1, n_none2, ite_true, ite_false]), fun _ => ?_⟩)
      have inner : ∀ (m2 q : Nat), q + m2 = 12 → P15 (a12 (C.1 (i + 1)) n k (aS (C.1 (i + 1)) n k) q) (nI k) (nI q) C := by
        intro m2
        induction m2 with
        | zero =>
          intro q hq
          have : q = 12 := by omega
          subst this
          refine h15 _ _ _ _ ⟨rfl, fun _ => ?_, fun z => n_absurd (by simp (disch := omega) only [n_lit0, n_lit1, n_lit2, n_lit3, n_lit4, n_lit5, n_lit6, n_lit7, n_lit8, n_lit9, n_lit10, n_lit11, n_lit12, n_lit13, n_lit14, n_lit15, n_lit16, n_lit17, n_lit18, n_lit19, n_lit20, n_lit21, n_lit22, n_lit23, n_lit24, n_lit30, n_lit31, n_lit32, n_lit45, n_lit48, n_lit49, n_lit57, n_lit59, n_lit60, n_lit67, n_lit76, n_lit77, n_lit90, n_lit96, n_lit97, n_lit98, n_lit99, n_lit100, n_lit119, n_lit120, n_lit127, n_lit128, n_lit196, n_lit200, n_lit208, n_lit294, n_lit340, n_lit341, n_lit392, n_lit490, n_lit491, n_lit500, n_lit588, n_lit589, n_lit999, n_lit1178, n_lit5301, n_lit5890, n_lit46656, n_add, n_mul, n_sub, n_lt_t, n_lt_f, n_le_t, n_le_f, n_eq_t, n_eq_f, n_clamp, n_in_t, ax_sm_s, true_and, and_true, not_true_eq_false, not_false_eq_true, true_imp, false_imp, imp_true, and_self, ax_wI_2, ax_rI_2, ax_wI_t, ax_wI_n, ax_rI_t, ax_rI_n, n_up_t, n_up_n, ne_eq, or_true, true_or, false_or, or_false, some_ex, n_none1, n_none2, ite_true, ite_false]) z⟩
          rw [n_succ]
          exact ih (k + 1) (by omega)
        | succ m2 ih2 =>
          intro q hq
          refine h15 _ _ _ _ ⟨rfl, fun z => n_absurd z (by simp (disch := omega) only [n_lit0, n_lit1, n_lit2, n_lit3, n_lit4, n_lit5, n_lit6, n_lit7, n_lit8, n_lit9, n_lit10, n_lit11, n_lit12, n_lit13, n_lit14, n_lit15, n_lit16, n_lit17, n_lit18, n_lit19, n_lit20, n_lit21, n_lit22, n_lit23, n_lit24, n_lit30, n_lit31, n_lit32, n_lit45, n_lit48, n_lit49, n_lit57, n_lit59, n_lit60, n_lit67, n_lit76, n_lit77, n_lit90, n_lit96, n_lit97, n_lit98, n_lit99, n_lit100, n_lit119, n_lit120, n_lit127, n_lit128, n_lit196, n_lit200, n_lit208, n_lit294, n_lit340, n_lit341, n_lit392, n_lit490, n_lit491, n_lit500, n_lit588, n_lit589, n_lit999, n_lit1178, n_lit5301, n_lit5890, n_lit46656, n_add, n_mul, n_sub, n_lt_t, n_lt_f, n_le_t, n_le_f, n_eq_t, n_eq_f, n_clamp, n_in_t, ax_sm_s, true_and, and_true, not_true_eq_false, not_false_eq_true, true_imp, false_imp, imp_true, and_self, ax_wI_2, ax_rI_2, ax_wI_t, ax_wI_n, ax_rI_t, ax_rI_n, n_up_t, n_up_n, ne_eq, or_true, true_or, false_or, or_false, some_ex, n_none1, n_none2, ite_true, ite_false]), fun _ => ⟨by decide, ?_⟩⟩
          rw [show (3 : Int32) = nI 3 from rfl, pk_rem (by omega) (by omega) (by omega), pk_div (by omega) (by omega) (by omega), n_succ]
          refine (c_control hP hs hn rfl (by omega) (w := q % 3 + 1) rfl (by omega) (a := 1) rfl (by omega)).use ((c_control hP hs hn rfl (by omega) (w := q % 3) rfl (by omega) (a := 1) rfl (by omega)).use ⟨rfl, vp_in_nI (by omega) (by omega), by decide, (c_control hP hs hn rfl (by omega) (w := q / 3) rfl (by omega) (a := 0) rfl (by omega)).use ?_⟩)
          rw [n_clamp (by omega), n_succ]
          exact ih2 (q + 1) (by omega)
      exact inner 12 0 rfl
  exact loop (sg n b) 0 (by omega)
theorem c_extreme {i n a : Nat} {b gr : Bool} {x y : Int32} (hP : pA S C i) (hs : C.1 i 1 = nI n) (hb : C.1 i 2 = bI b) (hn1 : 1 ≤ n) (hn : n ≤ 12) (hx : x = nI a) (ha : a < 2) (hy : y = bI gr) : ax_CI l D mt_X3_extreme [ax_r (some i), ax_i x, ax_i y] S C (fun r C' => r = exS (C.1 (i + 1)) n a gr (sg n b) ∧ C' = C) := by
  have hg : sg n b ≤ 12 := by unfold sg; split <;> omega
  refine vc_X3_extreme hP.1 fun P12 P24 P60 h12 h24 h60 => (c_get hP (k := 0) rfl (by omega) (f := a) (by rw [hx]; simp (disch := omega) only [n_lit0, n_lit1, n_lit2, n_lit3, n_lit4, n_lit5, n_lit6, n_lit7, n_lit8, n_lit9, n_lit10, n_lit11, n_lit12, n_lit13, n_lit14, n_lit15, n_lit16, n_lit17, n_lit18, n_lit19, n_lit20, n_lit21, n_lit22, n_lit23, n_lit24, n_lit30, n_lit31, n_lit32, n_lit45, n_lit48, n_lit49, n_lit57, n_lit59, n_lit60, n_lit67, n_lit76, n_lit77, n_lit90, n_lit96, n_lit97, n_lit98, n_lit99, n_lit100, n_lit119, n_lit120, n_lit127, n_lit128, n_lit196, n_lit200, n_lit208, n_lit294, n_lit340, n_lit341, n_lit392, n_lit490, n_lit491, n_lit500, n_lit588, n_lit589, n_lit999, n_lit1178, n_lit5301, n_lit5890, n_lit46656, n_add, n_mul, n_sub, n_lt_t, n_lt_f, n_le_t, n_le_f, n_eq_t, n_eq_f, n_clamp, n_in_t, ax_sm_s, true_and, and_true, not_true_eq_false, not_false_eq_true, true_imp, false_imp, imp_true, and_self, ax_wI_2, ax_rI_2, ax_wI_t, ax_wI_n, ax_rI_t, ax_rI_n, n_up_t, n_up_n, ne_eq, or_true, true_or, false_or, or_false, some_ex, n_none1, n_none2, ite_true, ite_false]) (by omega)).use ?_
  have loop : ∀ (m k : Nat), k + m = sg n b → P12 (exS (C.1 (i + 1)) n a gr k) (nI k) C := by
    intro m
    induction m with
    | zero =>
      intro k hk
      have : k = sg n b := by omega
      subst this
      exact h12 _ _ _ ((c_segmentCount hP hs hb hn1).use ⟨fun _ => ⟨rfl, rfl⟩, fun q => n_absurd (by simp (disch := omega) only [n_lit0, n_lit1, n_lit2, n_lit3, n_lit4, n_lit5, n_lit6, n_lit7, n_lit8, n_lit9, n_lit10, n_lit11, n_lit12, n_lit13, n_lit14, n_lit15, n_lit16, n_lit17, n_lit18, n_lit19, n_lit20, n_lit21, n_lit22, n_lit23, n_lit24, n_lit30, n_lit31, n_lit32, n_lit45, n_lit48, n_lit49, n_lit57, n_lit59, n_lit60, n_lit67, n_lit76, n_lit77, n_lit90, n_lit96, n_lit97, n_lit98, n_lit99, n_lit100, n_lit119, n_lit120, n_lit127, n_lit128, n_lit196, n_lit200, n_lit208, n_lit294, n_lit340, n_lit341, n_lit392, n_lit490, n_lit491, n_lit500, n_lit588, n_lit589, n_lit999, n_lit1178, n_lit5301, n_lit5890, n_lit46656, n_add, n_mul, n_sub, n_lt_t, n_lt_f, n_le_t, n_le_f, n_eq_t, n_eq_f, n_clamp, n_in_t, ax_sm_s, true_and, and_true, not_true_eq_false, not_false_eq_true, true_imp, false_imp, imp_true, and_self, ax_wI_2, ax_rI_2, ax_wI_t, ax_wI_n, ax_rI_t, ax_rI_n, n_up_t, n_up_n, ne_eq, or_true, true_or, false_or, or_false, some_ex, n_none1, n_none2, ite_true, ite_false]) q⟩)
    | succ m ih =>
      intro k hk
      refine h12 _ _ _ ((c_segmentCount hP hs hb hn1).use ⟨fun q => n_absurd q (by simp (disch := omega) only [n_lit0, n_lit1, n_lit2, n_lit3, n_lit4, n_lit5, n_lit6, n_lit7, n_lit8, n_lit9, n_lit10, n_lit11, n_lit12, n_lit13, n_lit14, n_lit15, n_lit16, n_lit17, n_lit18, n_lit19, n_lit20, n_lit21, n_lit22, n_lit23, n_lit24, n_lit30, n_lit31, n_lit32, n_lit45, n_lit48, n_lit49, n_lit57, n_lit59, n_lit60, n_lit67, n_lit76, n_lit77, n_lit90, n_lit96, n_lit97, n_lit98, n_lit99, n_lit100, n_lit119, n_lit120, n_lit127, n_lit128, n_lit196, n_lit200, n_lit208, n_lit294, n_lit340, n_lit341, n_lit392, n_lit490, n_lit491, n_lit500, n_lit588, n_lit589, n_lit999, n_lit1178, n_lit5301, n_lit5890, n_lit46656, n_add, n_mul, n_sub, n_lt_t, n_lt_f, n_le_t, n_le_f, n_eq_t, n_eq_f, n_clamp, n_in_t, ax_sm_s, true_and, and_true, not_true_eq_false, not_false_eq_true, true_imp, false_imp, imp_true, and_self, ax_wI_2, ax_rI_2, ax_wI_t, ax_wI_n, ax_rI_t, ax_rI_n, n_up_t, n_up_n, ne_eq, or_true, true_or, false_or, or_false, some_ex, n_none1, n_none2, ite_true, ite_false]), fun _ => ?_⟩)
      have inner : ∀ (m2 q : Nat), q + m2 = 4 → P24 (ex1 (C.1 (i + 1)) n k a gr (exS (C.1 (i + 1)) n a gr k) q) (nI k) (nI q) C := by
        intro m2
        induction m2 with
        | zero =>
          intro q hq
          have : q = 4 := by omega
          subst this
          refine h24 _ _ _ _ ⟨fun _ => ?_, fun z => n_absurd (by simp (disch := omega) only [n_lit0, n_lit1, n_lit2, n_lit3, n_lit4, n_lit5, n_lit6, n_lit7, n_lit8, n_lit9, n_lit10, n_lit11, n_lit12, n_lit13, n_lit14, n_lit15, n_lit16, n_lit17, n_lit18, n_lit19, n_lit20, n_lit21, n_lit22, n_lit23, n_lit24, n_lit30, n_lit31, n_lit32, n_lit45, n_lit48, n_lit49, n_lit57, n_lit59, n_lit60, n_lit67, n_lit76, n_lit77, n_lit90, n_lit96, n_lit97, n_lit98, n_lit99, n_lit100, n_lit119, n_lit120, n_lit127, n_lit128, n_lit196, n_lit200, n_lit208, n_lit294, n_lit340, n_lit341, n_lit392, n_lit490, n_lit491, n_lit500, n_lit588, n_lit589, n_lit999, n_lit1178, n_lit5301, n_lit5890, n_lit46656, n_add, n_mul, n_sub, n_lt_t, n_lt_f, n_le_t, n_le_f, n_eq_t, n_eq_f, n_clamp, n_in_t, ax_sm_s, true_and, and_true, not_true_eq_false, not_false_eq_true, true_imp, false_imp, imp_true, and_self, ax_wI_2, ax_rI_2, ax_wI_t, ax_wI_n, ax_rI_t, ax_rI_n, n_up_t, n_up_n, ne_eq, or_true, true_or, false_or, or_false, some_ex, n_none1, n_none2, ite_true, ite_false]) z⟩
          rw [n_succ]
          exact ih (k + 1) (by omega)
        | succ m2 ih2 =>
          intro q hq
          refine h24 _ _ _ _ ⟨fun z => n_absurd z (by simp (disch := omega) only [n_lit0, n_lit1, n_lit2, n_lit3, n_lit4, n_lit5, n_lit6, n_lit7, n_lit8, n_lit9, n_lit10, n_lit11, n_lit12, n_lit13, n_lit14, n_lit15, n_lit16, n_lit17, n_lit18, n_lit19, n_lit20, n_lit21, n_lit22, n_lit23, n_lit24, n_lit30, n_lit31, n_lit32, n_lit45, n_lit48, n_lit49, n_lit57, n_lit59, n_lit60, n_lit67, n_lit76, n_lit77, n_lit90, n_lit96, n_lit97, n_lit98, n_lit99, n_lit100, n_lit119, n_lit120, n_lit127, n_lit128, n_lit196, n_lit200, n_lit208, n_lit294, n_lit340, n_lit341, n_lit392, n_lit490, n_lit491, n_lit500, n_lit588, n_lit589, n_lit999, n_lit1178, n_lit5301, n_lit5890, n_lit46656, n_add, n_mul, n_sub, n_lt_t, n_lt_f, n_le_t, n_le_f, n_eq_t, n_eq_f, n_clamp, n_in_t, ax_sm_s, true_and, and_true, not_true_eq_false, not_false_eq_true, true_imp, false_imp, imp_true, and_self, ax_wI_2, ax_rI_2, ax_wI_t, ax_wI_n, ax_rI_t, ax_rI_n, n_up_t, n_up_n, ne_eq, or_true, true_or, false_or, or_false, some_ex, n_none1, n_none2, ite_true, ite_false]), fun _ => (c_control hP hs hn rfl (by omega) (w := q) rfl (by omega) hx ha).use ?_⟩
          have nxt := ih2 (q + 1) (by omega)
          rw [hy]
          cases gr
          · refine ⟨fun _ => h60 _ _ _ _ ?_, fun z => absurd rfl z⟩
            rw [n_succ]
            exact nxt
          · refine ⟨fun z => absurd z (by decide), fun _ => h60 _ _ _ _ ?_⟩
            rw [n_succ]
            exact nxt
      exact inner 4 0 rfl
  have := loop (sg n b) 0 (by omega)
  (rw [show 8 * 0 + a = a by omega]; rw [n_lit0]; exact this)
theorem c_nodeAt {i n : Nat} {x y : Int32} (hP : pA S C i) (hs : C.1 i 1 = nI n) (hn : n ≤ 12) : ax_CI l D mt_X3_nodeAt [ax_r (some i), ax_i x, ax_i y] S C (fun r C' => r = nf (C.1 (i + 1)) x y n 0 ∧ C' = C) := by
  refine vc_X3_nodeAt hP.1 fun P2 P32 h2 h32 => ?_
  have loop : ∀ (m k : Nat), k + m = n → nf (C.1 (i + 1)) x y m k = nf (C.1 (i + 1)) x y n 0 → P2 (nI k) C := by
    intro m
    induction m with
    | zero =>
      intro k hk hr
      refine h2 _ _ ⟨hP.1, ?_⟩
      rw [hs]
      exact ⟨fun _ => ⟨hr, rfl⟩, fun q => n_absurd (by simp (disch := omega) only [n_lit0, n_lit1, n_lit2, n_lit3, n_lit4, n_lit5, n_lit6, n_lit7, n_lit8, n_lit9, n_lit10, n_lit11, n_lit12, n_lit13, n_lit14, n_lit15, n_lit16, n_lit17, n_lit18, n_lit19, n_lit20, n_lit21, n_lit22, n_lit23, n_lit24, n_lit30, n_lit31, n_lit32, n_lit45, n_lit48, n_lit49, n_lit57, n_lit59, n_lit60, n_lit67, n_lit76, n_lit77, n_lit90, n_lit96, n_lit97, n_lit98, n_lit99, n_lit100, n_lit119, n_lit120, n_lit127, n_lit128, n_lit196, n_lit200, n_lit208, n_lit294, n_lit340, n_lit341, n_lit392, n_lit490, n_lit491, n_lit500, n_lit588, n_lit589, n_lit999, n_lit1178, n_lit5301, n_lit5890, n_lit46656, n_add, n_mul, n_sub, n_lt_t, n_lt_f, n_le_t, n_le_f, n_eq_t, n_eq_f, n_clamp, n_in_t, ax_sm_s, true_and, and_true, not_true_eq_false, not_false_eq_true, true_imp, false_imp, imp_true, and_self, ax_wI_2, ax_rI_2, ax_wI_t, ax_wI_n, ax_rI_t, ax_rI_n, n_up_t, n_up_n, ne_eq, or_true, true_or, false_or, or_false, some_ex, n_none1, n_none2, ite_true, ite_false]) q⟩
    | succ m ih =>
      intro k hk hr
      refine h2 _ _ ⟨hP.1, ?_⟩
      rw [hs]
      have nx : ¬ (C.1 (i + 1) (8 * k) = x ∧ C.1 (i + 1) (8 * k + 1) = y) → P32 (nI k) C := fun z => h32 _ _ (by
        rw [n_succ]
        refine ih (k + 1) (by omega) ?_
        rw [← hr]
        show _ = (if _ then _ else _)
        rw [if_neg z])
      refine ⟨fun q => n_absurd q (by simp (disch := omega) only [n_lit0, n_lit1, n_lit2, n_lit3, n_lit4, n_lit5, n_lit6, n_lit7, n_lit8, n_lit9, n_lit10, n_lit11, n_lit12, n_lit13, n_lit14, n_lit15, n_lit16, n_lit17, n_lit18, n_lit19, n_lit20, n_lit21, n_lit22, n_lit23, n_lit24, n_lit30, n_lit31, n_lit32, n_lit45, n_lit48, n_lit49, n_lit57, n_lit59, n_lit60, n_lit67, n_lit76, n_lit77, n_lit90, n_lit96, n_lit97, n_lit98, n_lit99, n_lit100, n_lit119, n_lit120, n_lit127, n_lit128, n_lit196, n_lit200, n_lit208, n_lit294, n_lit340, n_lit341, n_lit392, n_lit490, n_lit491, n_lit500, n_lit588, n_lit589, n_lit999, n_lit1178, n_lit5301, n_lit5890, n_lit46656, n_add, n_mul, n_sub, n_lt_t, n_lt_f, n_le_t, n_le_f, n_eq_t, n_eq_f, n_clamp, n_in_t, ax_sm_s, true_and, and_true, not_true_eq_false, not_false_eq_true, true_imp, false_imp, imp_true, and_self, ax_wI_2, ax_rI_2, ax_wI_t, ax_wI_n, ax_rI_t, ax_rI_n, n_up_t, n_up_n, ne_eq, or_true, true_or, false_or, or_false, some_ex, n_none1, n_none2, ite_true, ite_false]), fun _ => (c_get hP rfl (by omega) (f := 0) rfl (by omega)).use ⟨fun q => nx fun z => q z.1, fun q => (c_get hP rfl (by omega) (f := 1) rfl (by omega)).use ⟨fun q2 => nx fun z => q2 z.2, fun q2 => ⟨?_, rfl⟩⟩⟩⟩
      rw [← hr]
      show _ = (if _ then _ else _)
      rw [if_pos ⟨q, q2⟩]
  exact loop n 0 (by omega) rfl
theorem c_hashOnto {i n : Nat} {b : Bool} {h : Int64} (hP : pA S C i) (hs : C.1 i 1 = nI n) (hb : C.1 i 2 = bI b) (hn1 : 1 ≤ n) (hn : n ≤ 12) : ax_CL l D mt_X3_hashOnto [ax_r (some i), ax_l h] S C (fun r C' => r = hP1 (C.1 (i + 1)) n b h ∧ C' = C) := by
  refine vc_X3_hashOnto hP.1 fun P27 P33 P45 h27 h33 h45 => ?_
  have loop : ∀ (m k : Nat), k + m = n → P33 (hS (C.1 (i + 1)) ((h * 31 + (nI n).toInt64) * 31 + (bI b).toInt64) k) (nI k) C := by
    intro m
    induction m with
    | zero =>
      intro k hk
      have : k = n := by omega
      subst this
      refine h33 _ _ _ ⟨hP.1, ?_⟩
      rw [hs, hb]
      refine ⟨fun _ => ⟨hP.1, fun q => ?_, fun q => (c_sixtyAreas hP hs hb hn1 hn).use ?_⟩, fun q => n_absurd (by simp (disch := omega) only [n_lit0, n_lit1, n_lit2, n_lit3, n_lit4, n_lit5, n_lit6, n_lit7, n_lit8, n_lit9, n_lit10, n_lit11, n_lit12, n_lit13, n_lit14, n_lit15, n_lit16, n_lit17, n_lit18, n_lit19, n_lit20, n_lit21, n_lit22, n_lit23, n_lit24, n_lit30, n_lit31, n_lit32, n_lit45, n_lit48, n_lit49, n_lit57, n_lit59, n_lit60, n_lit67, n_lit76, n_lit77, n_lit90, n_lit96, n_lit97, n_lit98, n_lit99, n_lit100, n_lit119, n_lit120, n_lit127, n_lit128, n_lit196, n_lit200, n_lit208, n_lit294, n_lit340, n_lit341, n_lit392, n_lit490, n_lit491, n_lit500, n_lit588, n_lit589, n_lit999, n_lit1178, n_lit5301, n_lit5890, n_lit46656, n_add, n_mul, n_sub, n_lt_t, n_lt_f, n_le_t, n_le_f, n_eq_t, n_eq_f, n_clamp, n_in_t, ax_sm_s, true_and, and_true, not_true_eq_false, not_false_eq_true, true_imp, false_imp, imp_true, and_self, ax_wI_2, ax_rI_2, ax_wI_t, ax_wI_n, ax_rI_t, ax_rI_n, n_up_t, n_up_n, ne_eq, or_true, true_or, false_or, or_false, some_ex, n_none1, n_none2, ite_true, ite_false]) q⟩
      · rw [bI_0] at q; subst q
        exact ⟨rfl, rfl⟩
      · rw [bI_0] at q
        have : b = true := by simpa using q
        subst this
        exact ⟨rfl, rfl⟩
    | succ m ih =>
      intro k hk
      refine h33 _ _ _ ⟨hP.1, ?_⟩
      rw [hs]
      refine ⟨fun q => n_absurd q (by simp (disch := omega) only [n_lit0, n_lit1, n_lit2, n_lit3, n_lit4, n_lit5, n_lit6, n_lit7, n_lit8, n_lit9, n_lit10, n_lit11, n_lit12, n_lit13, n_lit14, n_lit15, n_lit16, n_lit17, n_lit18, n_lit19, n_lit20, n_lit21, n_lit22, n_lit23, n_lit24, n_lit30, n_lit31, n_lit32, n_lit45, n_lit48, n_lit49, n_lit57, n_lit59, n_lit60, n_lit67, n_lit76, n_lit77, n_lit90, n_lit96, n_lit97, n_lit98, n_lit99, n_lit100, n_lit119, n_lit120, n_lit127, n_lit128, n_lit196, n_lit200, n_lit208, n_lit294, n_lit340, n_lit341, n_lit392, n_lit490, n_lit491, n_lit500, n_lit588, n_lit589, n_lit999, n_lit1178, n_lit5301, n_lit5890, n_lit46656, n_add, n_mul, n_sub, n_lt_t, n_lt_f, n_le_t, n_le_f, n_eq_t, n_eq_f, n_clamp, n_in_t, ax_sm_s, true_and, and_true, not_true_eq_false, not_false_eq_true, true_imp, false_imp, imp_true, and_self, ax_wI_2, ax_rI_2, ax_wI_t, ax_wI_n, ax_rI_t, ax_rI_n, n_up_t, n_up_n, ne_eq, or_true, true_or, false_or, or_false, some_ex, n_none1, n_none2, ite_true, ite_false]), fun _ => ?_⟩
      have inner : ∀ (m2 q : Nat), q + m2 = 6 → P45 (h6 (C.1 (i + 1)) k (hS (C.1 (i + 1)) ((h * 31 + (nI n).toInt64) * 31 + (bI b).toInt64) k) q) (nI k) (nI q) C := by
        intro m2
        induction m2 with
        | zero =>
          intro q hq
          have : q = 6 := by omega
          subst this
          refine h45 _ _ _ _ ⟨fun _ => (c_ratioNumber hP rfl (by omega) (f := 6) rfl (by omega)).use ((c_ratioNumber hP rfl (by omega) (f := 7) rfl (by omega)).use ?_), fun z => n_absurd (by simp (disch := omega) only [n_lit0, n_lit1, n_lit2, n_lit3, n_lit4, n_lit5, n_lit6, n_lit7, n_lit8, n_lit9, n_lit10, n_lit11, n_lit12, n_lit13, n_lit14, n_lit15, n_lit16, n_lit17, n_lit18, n_lit19, n_lit20, n_lit21, n_lit22, n_lit23, n_lit24, n_lit30, n_lit31, n_lit32, n_lit45, n_lit48, n_lit49, n_lit57, n_lit59, n_lit60, n_lit67, n_lit76, n_lit77, n_lit90, n_lit96, n_lit97, n_lit98, n_lit99, n_lit100, n_lit119, n_lit120, n_lit127, n_lit128, n_lit196, n_lit200, n_lit208, n_lit294, n_lit340, n_lit341, n_lit392, n_lit490, n_lit491, n_lit500, n_lit588, n_lit589, n_lit999, n_lit1178, n_lit5301, n_lit5890, n_lit46656, n_add, n_mul, n_sub, n_lt_t, n_lt_f, n_le_t, n_le_f, n_eq_t, n_eq_f, n_clamp, n_in_t, ax_sm_s, true_and, and_true, not_true_eq_false, not_false_eq_true, true_imp, false_imp, imp_true, and_self, ax_wI_2, ax_rI_2, ax_wI_t, ax_wI_n, ax_rI_t, ax_rI_n, n_up_t, n_up_n, ne_eq, or_true, true_or, false_or, or_false, some_ex, n_none1, n_none2, ite_true, ite_false]) z⟩
          rw [n_succ]
          exact ih (k + 1) (by omega)
        | succ m2 ih2 =>
          intro q hq
          refine h45 _ _ _ _ ⟨fun z => n_absurd z (by simp (disch := omega) only [n_lit0, n_lit1, n_lit2, n_lit3, n_lit4, n_lit5, n_lit6, n_lit7, n_lit8, n_lit9, n_lit10, n_lit11, n_lit12, n_lit13, n_lit14, n_lit15, n_lit16, n_lit17, n_lit18, n_lit19, n_lit20, n_lit21, n_lit22, n_lit23, n_lit24, n_lit30, n_lit31, n_lit32, n_lit45, n_lit48, n_lit49, n_lit57, n_lit59, n_lit60, n_lit67, n_lit76, n_lit77, n_lit90, n_lit96, n_lit97, n_lit98, n_lit99, n_lit100, n_lit119, n_lit120, n_lit127, n_lit128, n_lit196, n_lit200, n_lit208, n_lit294, n_lit340, n_lit341, n_lit392, n_lit490, n_lit491, n_lit500, n_lit588, n_lit589, n_lit999, n_lit1178, n_lit5301, n_lit5890, n_lit46656, n_add, n_mul, n_sub, n_lt_t, n_lt_f, n_le_t, n_le_f, n_eq_t, n_eq_f, n_clamp, n_in_t, ax_sm_s, true_and, and_true, not_true_eq_false, not_false_eq_true, true_imp, false_imp, imp_true, and_self, ax_wI_2, ax_rI_2, ax_wI_t, ax_wI_n, ax_rI_t, ax_rI_n, n_up_t, n_up_n, ne_eq, or_true, true_or, false_or, or_false, some_ex, n_none1, n_none2, ite_true, ite_false]), fun _ => (c_get hP rfl (by omega) rfl (by omega)).use ?_⟩
          rw [n_succ]
          exact ih2 (q + 1) (by omega)
      exact inner 6 0 rfl
  have l0 := loop n 0 (by omega)
  refine ⟨hP.1, hP.1, ?_⟩
  rw [hs, hb]
  refine ⟨fun q => h27 _ _ _ ?_, fun q => h27 _ _ _ ?_⟩
  · rw [bI_0] at q; subst q
    exact l0
  · rw [bI_0] at q
    have : b = true := by simpa using q
    subst this
    exact l0
end
