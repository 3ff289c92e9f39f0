/-! ===== the reference's insert ===== -/
theorem chk_c (t : Int32) (a1 a2 b1 b2 : Int64) : chk (chk t a1 a2) b1 b2 = chk (chk t b1 b2) a1 a2 := by
  have n5 : ¬ ((-100000005 : Int32) = 0) := by decide
  have n6 : ¬ ((-100000006 : Int32) = 0) := by decide
  unfold chk
  by_cases ha : qe a1 a2 <;> by_cases hb : qe b1 b2 <;> by_cases ga : qg a1 a2 <;> by_cases gb : qg b1 b2 <;> by_cases ht : t = 0 <;> simp [ha, hb, ga, gb, ht, n5, n6]
theorem chk5 (t : Int32) (a1 a2 b1 b2 c1 c2 d1 d2 e1 e2 : Int64) : chk (chk (chk (chk (chk t a1 a2) b1 b2) c1 c2) d1 d2) e1 e2 = chk (chk (chk (chk (chk t c1 c2) d1 d2) e1 e2) a1 a2) b1 b2 := by
  rw [chk_c (chk t a1 a2) b1 b2 c1 c2, chk_c t a1 a2 c1 c2, chk_c (chk (chk t c1 c2) a1 a2) b1 b2 d1 d2, chk_c (chk t c1 c2) a1 a2 d1 d2, chk_c (chk (chk (chk t c1 c2) d1 d2) a1 a2) b1 b2 e1 e2, chk_c (chk (chk t c1 c2) d1 d2) a1 a2 e1 e2]
theorem r_A (p0 p1 h r a b : Int64) (hp : p1 = p0 + h) (hr : r = b - a) : (p0 * r + p1 * a) - b * p0 = h * a := by
  subst hp hr
  grind
theorem r_B (p2 p3 h r a b : Int64) (hp : p2 = p3 + h) (hr : r = b - a) : (p2 * r + p3 * a) - b * p3 = h * r := by
  subst hp hr
  grind
theorem b_add {x y : Int32} (hx : -9331200 ≤ x.toInt ∧ x.toInt ≤ 9331200) (hy : -9331200 ≤ y.toInt ∧ y.toInt ≤ 9331200) : (x + y).toInt64 = x.toInt64 + y.toInt64 := by
  apply Int64.toInt_inj.mp
  rw [Int32.toInt_toInt64, Int64.toInt_add, Int32.toInt_toInt64, Int32.toInt_toInt64, Int32.toInt_add]
  rw [Int.bmod_eq_of_le (n := x.toInt + y.toInt) (m := 2 ^ 32) (by omega) (by omega), Int.bmod_eq_of_le (n := x.toInt + y.toInt) (m := 2 ^ 64) (by omega) (by omega)]
theorem b_sub {a b : Nat} (h : a ≤ b) (hb : b < 2 ^ 31) : (nI b - nI a).toInt64 = (nI b).toInt64 - (nI a).toInt64 := by
  apply Int64.toInt_inj.mp
  rw [n_sub h, Int32.toInt_toInt64, Int64.toInt_sub, Int32.toInt_toInt64, Int32.toInt_toInt64, n_toInt (n := b - a) (by omega), n_toInt (n := b) hb, n_toInt (n := a) (by omega)]
  rw [Int.bmod_eq_of_le (by omega) (by omega)]
  omega
theorem lf_up2 {v g : Nat → Int32} {p j : Nat} {x : Int32} (h : j < 3 + 98 * p ∨ 99 + 98 * p ≤ j) : va_up (lf v p g) j x = lf (va_up v j x) p g := by
  funext i
  unfold lf va_up
  by_cases z : i = j
  · rw [if_pos z, if_neg (by omega), if_pos z]
  · rw [if_neg z]
    dsimp only
    by_cases z2 : 3 + 98 * p ≤ i ∧ i < 99 + 98 * p
    · rw [if_pos z2, if_pos z2]
    · rw [if_neg z2, if_neg z2, if_neg z]
/-- the nodes behind k + 1 go one place up -/
def unm (row : Nat → Int32) (k n : Nat) : Nat → Int32 := fun j => if 8 * (k + 1) + 8 ≤ j ∧ j < 8 * n + 8 then row (j - 8) else row j
section
variable {l : Launch} {D : ax_D} {S : ax_S} {E C : ax_C} {M : Nat} {A : ab_A}
theorem mW_9 (C : ax_C) (M : Nat) (v f : Nat → Int32) (t : Int32) : ax_rI (mW C M v t) (M + 9) f = mW (ax_rI C (M + 9) f) M v t := by
  unfold mW
  rw [ax_wI_rI, ax_wI_rI, ax_rI_comm _ _ (show M + 1 ≠ M + 9 by omega), ax_rI_comm _ _ (show M ≠ M + 9 by omega), ax_rI_n (show M ≠ M + 9 by omega)]
theorem mW_9r (C : ax_C) (M : Nat) (v f : Nat → Int32) (t : Int32) : (mW (ax_rI C (M + 9) f) M v t).1 (M + 9) = f := by
  rw [mW_n (by omega) (by omega), ax_rI_t rfl]
theorem mc_in (h : mK S C M) {j : Nat} (hj : j < 8) : vp_in (nI j) (S.2.1 (M + 9)) := by
  rw [h.2.2.2.2.2.2.2.2.2.1.2.1]; exact vp_in_nI hj (by omega)
theorem c8_controls {v g : Nat → Int32} {t : Int32} {p k n : Nat} {x y : Int32} (h : mK S C M) (hx : x = nI p) (hp : p < 6) (hy : y = nI k) (hk : k < n) (hn : n ≤ 12) (hv : v (1 + 98 * p) = nI n) : ax_CV l D mt_X8_controls [ax_r (some M), ax_i x, ax_i y] S (mW C M (lf v p g) t) (fun C' => ∃ cc, C' = mW (ax_rI C (M + 9) cc) M (lf v p g) t ∧ ∀ ax w, ax < 2 → w < 4 → cc (4 * ax + w) = ct g n k w ax) := by
  subst hy
  have e0 := h.2.1.2.2
  have k9 := h.2.2.2.2.2.2.2.2.2.1
  have he : eo n k < n := by unfold eo; split <;> omega
  refine vc_X8_controls h.1 fun P13 h13 => s8_many h hx hp (by rw [lf_n (by omega)]; exact hv) ⟨nI_ne0 (by omega) (by omega), ?_⟩
  have hnext : (nI k + 1) - (nI k + 1) / nI n * nI n = nI (eo n k) := by
    rw [n_succ, pk_rem (by omega) (by omega) (by omega)]
    congr 1
    unfold eo
    by_cases z : k + 1 < n
    · rw [if_pos z, Nat.mod_eq_of_lt z]
    · rw [if_neg z, show k + 1 = n by omega, Nat.mod_self]
  rw [hnext]
  have loop : ∀ (m s : Nat) (cc : Nat → Int32), s + m = 2 → (∀ ax w, ax < s → w < 4 → cc (4 * ax + w) = ct g n k w ax) → P13 (nI (eo n k)) (nI s) (mW (ax_rI C (M + 9) cc) M (lf v p g) t) := by
    intro m
    induction m with
    | zero =>
      intro s cc hs hc
      have : s = 2 := by omega
      subst this
      exact h13 _ _ _ ⟨fun _ => ⟨cc, rfl, hc⟩, fun q => n_absurd (by simp (disch := omega) only [n_lit0, n_lit1, n_lit2, n_lit3, n_lit4, n_lit5, n_lit6, n_lit7, n_lit8, n_lit9, n_lit10, n_lit11, n_lit12, n_lit13, n_lit14, n_lit15, n_lit16, n_lit17, n_lit18, n_lit19, n_lit20, n_lit21, n_lit22, n_lit23, n_lit24, n_lit30, n_lit31, n_lit32, n_lit45, n_lit48, n_lit49, n_lit57, n_lit59, n_lit60, n_lit67, n_lit76, n_lit77, n_lit90, n_lit96, n_lit97, n_lit98, n_lit99, n_lit100, n_lit119, n_lit120, n_lit127, n_lit128, n_lit196, n_lit200, n_lit208, n_lit294, n_lit340, n_lit341, n_lit392, n_lit490, n_lit491, n_lit500, n_lit588, n_lit589, n_lit999, n_lit1178, n_lit5301, n_lit5890, n_lit46656, n_add, n_mul, n_sub, n_lt_t, n_lt_f, n_le_t, n_le_f, n_eq_t, n_eq_f, n_clamp, n_in_t, ax_sm_s, true_and, and_true, not_true_eq_false, not_false_eq_true, true_imp, false_imp, imp_true, and_self, ax_wI_2, ax_rI_2, ax_wI_t, ax_wI_n, ax_rI_t, ax_rI_n, n_up_t, n_up_n, ne_eq, or_true, true_or, false_or, or_false, some_ex, n_none1, n_none2, ite_true, ite_false]) q⟩
    | succ m ih =>
      intro s cc hs hc
      have hK2 : ∀ f, mK S (ax_rI C (M + 9) f) M := fun f => h
      refine h13 _ _ _ ⟨fun q => n_absurd q (by simp (disch := omega) only [n_lit0, n_lit1, n_lit2, n_lit3, n_lit4, n_lit5, n_lit6, n_lit7, n_lit8, n_lit9, n_lit10, n_lit11, n_lit12, n_lit13, n_lit14, n_lit15, n_lit16, n_lit17, n_lit18, n_lit19, n_lit20, n_lit21, n_lit22, n_lit23, n_lit24, n_lit30, n_lit31, n_lit32, n_lit45, n_lit48, n_lit49, n_lit57, n_lit59, n_lit60, n_lit67, n_lit76, n_lit77, n_lit90, n_lit96, n_lit97, n_lit98, n_lit99, n_lit100, n_lit119, n_lit120, n_lit127, n_lit128, n_lit196, n_lit200, n_lit208, n_lit294, n_lit340, n_lit341, n_lit392, n_lit490, n_lit491, n_lit500, n_lit588, n_lit589, n_lit999, n_lit1178, n_lit5301, n_lit5890, n_lit46656, n_add, n_mul, n_sub, n_lt_t, n_lt_f, n_le_t, n_le_f, n_eq_t, n_eq_f, n_clamp, n_in_t, ax_sm_s, true_and, and_true, not_true_eq_false, not_false_eq_true, true_imp, false_imp, imp_true, and_self, ax_wI_2, ax_rI_2, ax_wI_t, ax_wI_n, ax_rI_t, ax_rI_n, n_up_t, n_up_n, ne_eq, or_true, true_or, false_or, or_false, some_ex, n_none1, n_none2, ite_true, ite_false]), fun _ => ⟨h.1, h.1, (c8_node hx rfl (w := s) rfl).use ?_⟩⟩
      show ax_sm (C.2.2 M 0) _
      rw [e0]
      refine ⟨h.2.1.1, (mr_in h (by omega)).2, ?_⟩
      show ax_sm (C.2.2 M 13) _
      rw [k9.2.2, n_lit4, n_mul]
      refine ⟨k9.1, mc_in h (by omega), h.1, h.1, ?_⟩
      rw [n_clamp (by omega), n_clamp (by omega), ax_wI_rI, mW_v, lf_at (by omega), mW_9, mW_9r]
      show ax_sm (C.2.2 M 13) _
      rw [k9.2.2]
      refine ⟨k9.1, mc_in h (by omega), h.1, (c8_node hx rfl (w := 4 + s) (by simp (disch := omega) only [n_lit0, n_lit1, n_lit2, n_lit3, n_lit4, n_lit5, n_lit6, n_lit7, n_lit8, n_lit9, n_lit10, n_lit11, n_lit12, n_lit13, n_lit14, n_lit15, n_lit16, n_lit17, n_lit18, n_lit19, n_lit20, n_lit21, n_lit22, n_lit23, n_lit24, n_lit30, n_lit31, n_lit32, n_lit45, n_lit48, n_lit49, n_lit57, n_lit59, n_lit60, n_lit67, n_lit76, n_lit77, n_lit90, n_lit96, n_lit97, n_lit98, n_lit99, n_lit100, n_lit119, n_lit120, n_lit127, n_lit128, n_lit196, n_lit200, n_lit208, n_lit294, n_lit340, n_lit341, n_lit392, n_lit490, n_lit491, n_lit500, n_lit588, n_lit589, n_lit999, n_lit1178, n_lit5301, n_lit5890, n_lit46656, n_add, n_mul, n_sub, n_lt_t, n_lt_f, n_le_t, n_le_f, n_eq_t, n_eq_f, n_clamp, n_in_t, ax_sm_s, true_and, and_true, not_true_eq_false, not_false_eq_true, true_imp, false_imp, imp_true, and_self, ax_wI_2, ax_rI_2, ax_wI_t, ax_wI_n, ax_rI_t, ax_rI_n, n_up_t, n_up_n, ne_eq, or_true, true_or, false_or, or_false, some_ex, n_none1, n_none2, ite_true, ite_false])).use ?_⟩
      show ax_sm (C.2.2 M 0) _
      rw [e0]
      refine ⟨h.2.1.1, (mr_in h (by omega)).2, ?_⟩
      show ax_sm (C.2.2 M 13) _
      rw [k9.2.2, n_succ]
      refine ⟨k9.1, mc_in h (by omega), h.1, h.1, (c8_node hx rfl (w := s) rfl).use ?_⟩
      rw [n_clamp (by omega), n_clamp (by omega), ax_wI_rI, mW_v, lf_at (by omega), ax_rI_rI, mW_9, mW_9r, n_up_t rfl, ax_rI_rI]
      show ax_sm (C.2.2 M 0) _
      rw [e0]
      refine ⟨h.2.1.1, (mr_in h (by omega)).2, ?_⟩
      show ax_sm (C.2.2 M 13) _
      rw [k9.2.2, n_lit3, n_add]
      refine ⟨k9.1, mc_in h (by omega), h.1, h.1, ?_⟩
      rw [n_clamp (by omega), n_clamp (by omega), ax_wI_rI, mW_v, lf_at (by omega), mW_9, mW_9r, ax_rI_rI]
      show ax_sm (C.2.2 M 13) _
      rw [k9.2.2]
      refine ⟨k9.1, mc_in h (by omega), h.1, (c8_node hx rfl (w := 2 + s) (by simp (disch := omega) only [n_lit0, n_lit1, n_lit2, n_lit3, n_lit4, n_lit5, n_lit6, n_lit7, n_lit8, n_lit9, n_lit10, n_lit11, n_lit12, n_lit13, n_lit14, n_lit15, n_lit16, n_lit17, n_lit18, n_lit19, n_lit20, n_lit21, n_lit22, n_lit23, n_lit24, n_lit30, n_lit31, n_lit32, n_lit45, n_lit48, n_lit49, n_lit57, n_lit59, n_lit60, n_lit67, n_lit76, n_lit77, n_lit90, n_lit96, n_lit97, n_lit98, n_lit99, n_lit100, n_lit119, n_lit120, n_lit127, n_lit128, n_lit196, n_lit200, n_lit208, n_lit294, n_lit340, n_lit341, n_lit392, n_lit490, n_lit491, n_lit500, n_lit588, n_lit589, n_lit999, n_lit1178, n_lit5301, n_lit5890, n_lit46656, n_add, n_mul, n_sub, n_lt_t, n_lt_f, n_le_t, n_le_f, n_eq_t, n_eq_f, n_clamp, n_in_t, ax_sm_s, true_and, and_true, not_true_eq_false, not_false_eq_true, true_imp, false_imp, imp_true, and_self, ax_wI_2, ax_rI_2, ax_wI_t, ax_wI_n, ax_rI_t, ax_rI_n, n_up_t, n_up_n, ne_eq, or_true, true_or, false_or, or_false, some_ex, n_none1, n_none2, ite_true, ite_false])).use ?_⟩
      show ax_sm (C.2.2 M 0) _
      rw [e0]
      refine ⟨h.2.1.1, (mr_in h (by omega)).2, ?_⟩
      show ax_sm (C.2.2 M 13) _
      rw [k9.2.2, n_lit2, n_add]
      refine ⟨k9.1, mc_in h (by omega), ?_⟩
      rw [n_clamp (by omega), n_clamp (by omega), ax_wI_rI, mW_v, lf_at (by omega), mW_9, mW_9r, ax_rI_rI, n_up_t rfl, n_succ]
      refine ih (s + 1) _ (by omega) fun ax w hax hw => ?_
      by_cases z : ax = s
      · subst z
        have : w = 0 ∨ w = 1 ∨ w = 2 ∨ w = 3 := by omega
        rcases this with rfl | rfl | rfl | rfl
        · rw [n_up_n (by omega), n_up_n (by omega), n_up_n (by omega), n_up_t (by omega)]
          unfold ct; rw [if_pos rfl]
        · rw [n_up_n (by omega), n_up_n (by omega), n_up_t (by omega)]
          unfold ct; rw [if_neg (by omega), if_pos rfl]
        · rw [n_up_t (by omega)]
          unfold ct; rw [if_neg (by omega), if_neg (by omega), if_pos rfl]
        · rw [n_up_n (by omega), n_up_t (by omega)]
          unfold ct; rw [if_neg (by omega), if_neg (by omega), if_neg (by omega)]
      · rw [n_up_n (by omega), n_up_n (by omega), n_up_n (by omega), n_up_n (by omega)]
        exact hc ax w (by omega) hw
  have h0 := loop 2 0 (C.1 (M + 9)) rfl (fun ax w hax hw => by omega)
  rw [ax_rI_id] at h0
  exact h0
theorem c8_makesRoom {v g : Nat → Int32} {t : Int32} {p k n : Nat} {x y : Int32} (h : mK S C M) (hx : x = nI p) (hp : p < 6) (hy : y = nI (k + 1)) (hk : k < n) (hn : n < 12) (hv : v (1 + 98 * p) = nI n) : ax_CV l D mt_X8_makesRoom [ax_r (some M), ax_i x, ax_i y] S (mW C M (lf v p g) t) (fun C' => C' = mW C M (lf (va_up v (1 + 98 * p) (nI (n + 1))) p (unm g k n)) t) := by
  subst hy
  have e0 := h.2.1.2.2
  refine vc_X8_makesRoom h.1 fun P6 h6 => s8_many h hx hp (by rw [lf_n (by omega)]; exact hv) ?_
  have loop : ∀ (m : Nat) (G : Nat → Int32), k + 1 + m ≤ n → (∀ q, G q = if 8 * (k + 1 + m) + 8 ≤ q ∧ q < 8 * n + 8 then g (q - 8) else g q) → P6 (nI (k + 1 + m)) (mW C M (lf v p G) t) := by
    intro m
    induction m with
    | zero =>
      intro G hm hG
      refine h6 _ _ ⟨fun _ => ⟨h.1, (c8_path hx).use ?_⟩, fun q => n_absurd (by simp (disch := omega) only [n_lit0, n_lit1, n_lit2, n_lit3, n_lit4, n_lit5, n_lit6, n_lit7, n_lit8, n_lit9, n_lit10, n_lit11, n_lit12, n_lit13, n_lit14, n_lit15, n_lit16, n_lit17, n_lit18, n_lit19, n_lit20, n_lit21, n_lit22, n_lit23, n_lit24, n_lit30, n_lit31, n_lit32, n_lit45, n_lit48, n_lit49, n_lit57, n_lit59, n_lit60, n_lit67, n_lit76, n_lit77, n_lit90, n_lit96, n_lit97, n_lit98, n_lit99, n_lit100, n_lit119, n_lit120, n_lit127, n_lit128, n_lit196, n_lit200, n_lit208, n_lit294, n_lit340, n_lit341, n_lit392, n_lit490, n_lit491, n_lit500, n_lit588, n_lit589, n_lit999, n_lit1178, n_lit5301, n_lit5890, n_lit46656, n_add, n_mul, n_sub, n_lt_t, n_lt_f, n_le_t, n_le_f, n_eq_t, n_eq_f, n_clamp, n_in_t, ax_sm_s, true_and, and_true, not_true_eq_false, not_false_eq_true, true_imp, false_imp, imp_true, and_self, ax_wI_2, ax_rI_2, ax_wI_t, ax_wI_n, ax_rI_t, ax_rI_n, n_up_t, n_up_n, ne_eq, or_true, true_or, false_or, or_false, some_ex, n_none1, n_none2, ite_true, ite_false]) q⟩
      rw [mr_r, e0]
      refine ⟨h.2.1.1, (mr_in h (by omega)).2, h.2.1.1, (mr_in h (by omega)).2, ?_⟩
      rw [n_clamp (by omega), ax_wI_rI, mW_v, mW_v2, lf_n (by omega), hv, n_succ, lf_up2 (by omega)]
      congr 1
      refine lf_e fun q _ => ?_
      rw [hG]
      rfl
    | succ m ih =>
      intro G hm hG
      refine h6 _ _ ⟨fun q => n_absurd q (by simp (disch := omega) only [n_lit0, n_lit1, n_lit2, n_lit3, n_lit4, n_lit5, n_lit6, n_lit7, n_lit8, n_lit9, n_lit10, n_lit11, n_lit12, n_lit13, n_lit14, n_lit15, n_lit16, n_lit17, n_lit18, n_lit19, n_lit20, n_lit21, n_lit22, n_lit23, n_lit24, n_lit30, n_lit31, n_lit32, n_lit45, n_lit48, n_lit49, n_lit57, n_lit59, n_lit60, n_lit67, n_lit76, n_lit77, n_lit90, n_lit96, n_lit97, n_lit98, n_lit99, n_lit100, n_lit119, n_lit120, n_lit127, n_lit128, n_lit196, n_lit200, n_lit208, n_lit294, n_lit340, n_lit341, n_lit392, n_lit490, n_lit491, n_lit500, n_lit588, n_lit589, n_lit999, n_lit1178, n_lit5301, n_lit5890, n_lit46656, n_add, n_mul, n_sub, n_lt_t, n_lt_f, n_le_t, n_le_f, n_eq_t, n_eq_f, n_clamp, n_in_t, ax_sm_s, true_and, and_true, not_true_eq_false, not_false_eq_true, true_imp, false_imp, imp_true, and_self, ax_wI_2, ax_rI_2, ax_wI_t, ax_wI_n, ax_rI_t, ax_rI_n, n_up_t, n_up_n, ne_eq, or_true, true_or, false_or, or_false, some_ex, n_none1, n_none2, ite_true, ite_false]), fun _ => (c8_copiesNode h hx hp (k := k + 1 + m) (by simp (disch := omega) only [n_lit0, n_lit1, n_lit2, n_lit3, n_lit4, n_lit5, n_lit6, n_lit7, n_lit8, n_lit9, n_lit10, n_lit11, n_lit12, n_lit13, n_lit14, n_lit15, n_lit16, n_lit17, n_lit18, n_lit19, n_lit20, n_lit21, n_lit22, n_lit23, n_lit24, n_lit30, n_lit31, n_lit32, n_lit45, n_lit48, n_lit49, n_lit57, n_lit59, n_lit60, n_lit67, n_lit76, n_lit77, n_lit90, n_lit96, n_lit97, n_lit98, n_lit99, n_lit100, n_lit119, n_lit120, n_lit127, n_lit128, n_lit196, n_lit200, n_lit208, n_lit294, n_lit340, n_lit341, n_lit392, n_lit490, n_lit491, n_lit500, n_lit588, n_lit589, n_lit999, n_lit1178, n_lit5301, n_lit5890, n_lit46656, n_add, n_mul, n_sub, n_lt_t, n_lt_f, n_le_t, n_le_f, n_eq_t, n_eq_f, n_clamp, n_in_t, ax_sm_s, true_and, and_true, not_true_eq_false, not_false_eq_true, true_imp, false_imp, imp_true, and_self, ax_wI_2, ax_rI_2, ax_wI_t, ax_wI_n, ax_rI_t, ax_rI_n, n_up_t, n_up_n, ne_eq, or_true, true_or, false_or, or_false, some_ex, n_none1, n_none2, ite_true, ite_false]) (by omega) rfl (by omega) (by omega)).use ?_⟩
      rw [show k + 1 + (m + 1) = (k + 1 + m) + 1 by omega, n_pred]
      refine ih _ (by omega) fun q => ?_
      unfold nd
      by_cases z : 8 * (k + 1 + m + 1) ≤ q ∧ q < 8 * (k + 1 + m + 1) + 8
      · rw [if_pos z, if_pos (by omega)]; dsimp only; rw [hG, if_neg (by omega)]
        exact congrArg _ (by omega)
      · rw [if_neg z, hG]
        by_cases z2 : 8 * (k + 1 + (m + 1)) + 8 ≤ q ∧ q < 8 * n + 8
        · rw [if_pos z2, if_pos (by omega)]
        · rw [if_neg z2, if_neg (by omega)]
  have := loop (n - (k + 1)) g (by omega) (fun q => by rw [if_neg (by omega)])
  rw [show k + 1 + (n - (k + 1)) = n by omega] at this
  exact this
end
