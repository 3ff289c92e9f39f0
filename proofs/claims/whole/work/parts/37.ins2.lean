/-! ===== the reference's insert, continued ===== -/
theorem x5_ord {g : Nat → Int32} {k e ax : Nat} {v1 v2 v3 v4 v5 : Int32} (he : e ≠ k) (he1 : e ≠ k + 1) (ha : ax < 2) : va_up (va_up (va_up (va_up (va_up g (8 * k + (4 + ax)) v4) (8 * e + (2 + ax)) v5) (8 * (k + 1) + (0 + ax)) v1) (8 * (k + 1) + (2 + ax)) v2) (8 * (k + 1) + (4 + ax)) v3 = x5 g k e ax v1 v2 v3 v4 v5 := by
  funext j
  unfold x5
  by_cases h5 : j = 8 * e + (2 + ax)
  · rw [n_up_n (by omega), n_up_n (by omega), n_up_n (by omega), n_up_t h5, n_up_t h5]
  · by_cases h4 : j = 8 * k + (4 + ax)
    · rw [n_up_n (by omega), n_up_n (by omega), n_up_n (by omega), n_up_n h5, n_up_t h4, n_up_n h5, n_up_t h4]
    · by_cases h3 : j = 8 * (k + 1) + (4 + ax)
      · rw [n_up_t h3, n_up_n h5, n_up_n h4, n_up_t h3]
      · by_cases h2 : j = 8 * (k + 1) + (2 + ax)
        · rw [n_up_n h3, n_up_t h2, n_up_n h5, n_up_n h4, n_up_n h3, n_up_t h2]
        · by_cases h1 : j = 8 * (k + 1) + (0 + ax)
          · rw [n_up_n h3, n_up_n h2, n_up_t h1, n_up_n h5, n_up_n h4, n_up_n h3, n_up_n h2, n_up_t h1]
          · rw [n_up_n h3, n_up_n h2, n_up_n h1, n_up_n h5, n_up_n h4, n_up_n h5, n_up_n h4, n_up_n h3, n_up_n h2, n_up_n h1]
theorem xA_f {R g : Nat → Int32} {k e ax q : Nat} {a b : Int32} (h1 : ∀ f, f < 8 → R (8 * k + f) = g (8 * k + f)) (h2 : ∀ f, f < 8 → R (8 * e + f) = g (8 * e + f)) (hax : ax < 2) (hek1 : e ≠ k + 1) (hq : q = 8 * (k + 1) + (0 + ax) ∨ q = 8 * (k + 1) + (2 + ax) ∨ q = 8 * (k + 1) + (4 + ax)) : xA R k e ax a b q = xA g k e ax a b q := by
  simp only [xA, v_s, v_r0, v_r1, v_p1, v_p2]
  simp only [h1 (0 + ax) (by omega), h1 (4 + ax) (by omega), h2 (0 + ax) (by omega), h2 (2 + ax) (by omega)]
  rw [n_up_n (j := q) (k := 8 * e + (2 + ax)) (by omega), n_up_n (j := q) (k := 8 * k + (4 + ax)) (by omega), n_up_n (j := q) (k := 8 * e + (2 + ax)) (by omega), n_up_n (j := q) (k := 8 * k + (4 + ax)) (by omega)]
  rcases hq with w | w | w
  · rw [n_up_n (by omega), n_up_n (by omega), n_up_t w, n_up_n (by omega), n_up_n (by omega), n_up_t w]
  · rw [n_up_n (by omega), n_up_t w, n_up_n (by omega), n_up_t w]
  · rw [n_up_t w, n_up_t w]
/-- the new node's numbers don't depend on what stood there -/
theorem cG_f {R g : Nat → Int32} {k e na nb p1 q1 p2 q2 q : Nat} (h1 : ∀ f, f < 8 → R (8 * k + f) = g (8 * k + f)) (h2 : ∀ f, f < 8 → R (8 * e + f) = g (8 * e + f)) (hek1 : e ≠ k + 1) (hq : 8 * (k + 1) ≤ q) (hq2 : q < 8 * (k + 1) + 8) : cG R k e na nb p1 q1 p2 q2 q = cG g k e na nb p1 q1 p2 q2 q := by
  unfold cG
  rw [sr_n (by omega) (by omega), sr_n (by omega) (by omega), sr_n (by omega) (by omega), sr_n (by omega) (by omega)]
  unfold rw2
  by_cases z7 : q = 8 * (k + 1) + 7
  · rw [n_up_t z7, n_up_t z7]
  rw [n_up_n z7, n_up_n z7]
  by_cases z6 : q = 8 * (k + 1) + 6
  · rw [n_up_t z6, n_up_t z6]
  rw [n_up_n z6, n_up_n z6]
  by_cases o1 : q = 8 * (k + 1) + (0 + 1) ∨ q = 8 * (k + 1) + (2 + 1) ∨ q = 8 * (k + 1) + (4 + 1)
  · exact xA_f (fun f hf => xA_c h1 h2 (by omega) (h1 f hf)) (fun f hf => xA_c h1 h2 (by omega) (h2 f hf)) (by omega) hek1 o1
  · have n1 : ∀ G : Nat → Int32, xA G k e 1 (nI na) (nI nb) q = G q := by
      intro G
      unfold xA
      rw [n_up_n (by omega), n_up_n (by omega), n_up_n (by omega), n_up_n (by omega), n_up_n (by omega)]
    rw [n1, n1]
    exact xA_f h1 h2 (by omega) hek1 (by omega)
section
variable {l : Launch} {D : ax_D} {S : ax_S} {E C : ax_C} {M : Nat} {A : ab_A}
theorem c8_splits {v g cc : Nat → Int32} {t : Int32} {p k e na nb ax : Nat} {x y z : Int32} {P : ax_C → Prop} (h : mK S C M) (hx : x = nI p) (hp : p < 6) (hy : y = nI k) (hk : k + 1 < 12) (hz : z = nI e) (he : e < 12) (hek : e ≠ k) (hek1 : e ≠ k + 1) (hax : ax < 2) (h1 : 1 ≤ na) (h2 : na < nb) (h3 : nb ≤ 6) (hcc : C.1 (M + 9) = cc) (c0 : (cc (4 * ax)).toInt64 = (g (8 * k + (0 + ax))).toInt64) (c1 : (cc (4 * ax + 1)).toInt64 = v_p1 g k ax) (c2 : (cc (4 * ax + 2)).toInt64 = v_p2 g e ax) (c3 : (cc (4 * ax + 3)).toInt64 = (g (8 * e + (0 + ax))).toInt64) (hP : ∀ v1 v2 v3 v4 v5, (xT g k e ax (nI na) (nI nb) t = 0 → x5 g k e ax v1 v2 v3 v4 v5 = xA g k e ax (nI na) (nI nb)) → P (mW C M (lf v p (x5 g k e ax v1 v2 v3 v4 v5)) (xT g k e ax (nI na) (nI nb) t))) : ax_CV l D mt_X8_splits [ax_r (some M), ax_i x, ax_i y, ax_i z, ax_i (nI ax), ax_i (nI na), ax_i (nI nb)] S (mW C M (lf v p g) t) P := by
  subst hy hz
  have k9 := h.2.2.2.2.2.2.2.2.2.1
  have hb0 : ¬ (nI nb).toInt64 = 0 := by
    intro z
    have := congrArg Int64.toInt z
    rw [Int32.toInt_toInt64] at this
    have : nI nb = 0 := Int32.toInt_inj.mp this
    exact nI_ne0 (by omega) (by omega) this
  have hcu : ¬ cu (nI nb) = 0 := by
    have : nb = 2 ∨ nb = 3 ∨ nb = 4 ∨ nb = 5 ∨ nb = 6 := by omega
    rcases this with rfl | rfl | rfl | rfl | rfl <;> decide
  have hr := b_sub (a := na) (b := nb) (by omega) (by omega)
  have rd : ∀ G s, (mW C M (lf v p G) s).1 (M + 9) = cc := fun G s => by rw [mW_n (by omega) (by omega), hcc]
  have r9 : ∀ G s, (mW C M (lf v p G) s).2.2 M 13 = some (M + 9) := fun _ _ => k9.2.2
  refine vc_X8_splits h.1 ((c8_node hx rfl (w := 4 + ax) (by simp (disch := omega) only [n_lit0, n_lit1, n_lit2, n_lit3, n_lit4, n_lit5, n_lit6, n_lit7, n_lit8, n_lit9, n_lit10, n_lit11, n_lit12, n_lit13, n_lit14, n_lit15, n_lit16, n_lit17, n_lit18, n_lit19, n_lit20, n_lit21, n_lit22, n_lit23, n_lit24, n_lit30, n_lit31, n_lit32, n_lit45, n_lit48, n_lit49, n_lit57, n_lit59, n_lit60, n_lit67, n_lit76, n_lit77, n_lit90, n_lit96, n_lit97, n_lit98, n_lit99, n_lit100, n_lit119, n_lit120, n_lit127, n_lit128, n_lit196, n_lit200, n_lit208, n_lit294, n_lit340, n_lit341, n_lit392, n_lit490, n_lit491, n_lit500, n_lit588, n_lit589, n_lit999, n_lit1178, n_lit5301, n_lit5890, n_lit46656, n_add, n_mul, n_sub, n_lt_t, n_lt_f, n_le_t, n_le_f, n_eq_t, n_eq_f, n_clamp, n_in_t, ax_sm_s, true_and, and_true, not_true_eq_false, not_false_eq_true, true_imp, false_imp, imp_true, and_self, ax_wI_2, ax_rI_2, ax_wI_t, ax_wI_n, ax_rI_t, ax_rI_n, n_up_t, n_up_n, ne_eq, or_true, true_or, false_or, or_false, some_ex, n_none1, n_none2, ite_true, ite_false])).use ((c8_node hx (by rw [n_succ]) (w := ax) rfl).use ⟨h.1, ?_⟩))
  rw [r9, n_lit4, n_mul, n_succ, n_lit2, n_add, n_lit3, n_add]
  refine ⟨k9.1, mc_in h (by omega), h.1, k9.1, mc_in h (by omega), ?_⟩
  rw [n_clamp (n := 4 * ax) (by omega), n_clamp (n := 4 * ax + 1) (by omega), n_clamp (n := 4 * ax + 2) (by omega), n_clamp (n := 4 * ax + 3) (by omega), rd, c0, c1]
  refine vc_X8_between ⟨h.1, ?_⟩
  rw [r9]
  refine ⟨k9.1, mc_in h (by omega), h.1, k9.1, mc_in h (by omega), ?_⟩
  rw [rd, c1, c2]
  refine vc_X8_between ⟨h.1, ?_⟩
  rw [r9]
  refine ⟨k9.1, mc_in h (by omega), h.1, k9.1, mc_in h (by omega), ?_⟩
  rw [rd, c2, c3]
  refine vc_X8_between (vc_X8_between (vc_X8_between (vc_X8_between ⟨h.1, ?_⟩)))
  rw [r9]
  refine ⟨k9.1, mc_in h (by omega), ?_⟩
  rw [rd, c0]
  have eA := r_A (g (8 * k + (0 + ax))).toInt64 (v_p1 g k ax) (g (8 * k + (4 + ax))).toInt64 (nI nb - nI na).toInt64 (nI na).toInt64 (nI nb).toInt64 rfl hr
  have eB := r_B (v_p2 g e ax) (g (8 * e + (0 + ax))).toInt64 (g (8 * e + (2 + ax))).toInt64 (nI nb - nI na).toInt64 (nI na).toInt64 (nI nb).toInt64 rfl hr
  rw [eA]
  refine s8_put (m := 8 * k + (4 + ax)) h hp (by omega) rfl hb0 fun w4 hw4 => ?_
  refine (c8_node hx rfl (w := 2 + ax) (by simp (disch := omega) only [n_lit0, n_lit1, n_lit2, n_lit3, n_lit4, n_lit5, n_lit6, n_lit7, n_lit8, n_lit9, n_lit10, n_lit11, n_lit12, n_lit13, n_lit14, n_lit15, n_lit16, n_lit17, n_lit18, n_lit19, n_lit20, n_lit21, n_lit22, n_lit23, n_lit24, n_lit30, n_lit31, n_lit32, n_lit45, n_lit48, n_lit49, n_lit57, n_lit59, n_lit60, n_lit67, n_lit76, n_lit77, n_lit90, n_lit96, n_lit97, n_lit98, n_lit99, n_lit100, n_lit119, n_lit120, n_lit127, n_lit128, n_lit196, n_lit200, n_lit208, n_lit294, n_lit340, n_lit341, n_lit392, n_lit490, n_lit491, n_lit500, n_lit588, n_lit589, n_lit999, n_lit1178, n_lit5301, n_lit5890, n_lit46656, n_add, n_mul, n_sub, n_lt_t, n_lt_f, n_le_t, n_le_f, n_eq_t, n_eq_f, n_clamp, n_in_t, ax_sm_s, true_and, and_true, not_true_eq_false, not_false_eq_true, true_imp, false_imp, imp_true, and_self, ax_wI_2, ax_rI_2, ax_wI_t, ax_wI_n, ax_rI_t, ax_rI_n, n_up_t, n_up_n, ne_eq, or_true, true_or, false_or, or_false, some_ex, n_none1, n_none2, ite_true, ite_false])).use ⟨h.1, ?_⟩
  rw [r9]
  refine ⟨k9.1, mc_in h (by omega), ?_⟩
  rw [rd, c3, eB]
  refine s8_put (m := 8 * e + (2 + ax)) h hp (by omega) rfl hb0 fun w5 hw5 => ?_
  refine s8_put (m := 8 * (k + 1) + (0 + ax)) (x := v_s g k e ax (nI na) (nI nb)) (y := cu (nI nb)) h hp (by omega) (by congr 1; omega) hcu fun w1 hw1 => ?_
  rw [Int64.mul_comm (nI nb).toInt64, Int64.mul_comm (nI nb).toInt64 (_ + _)]
  refine s8_put (m := 8 * (k + 1) + (2 + ax)) (x := v_r0 g k e ax (nI na) (nI nb) * (nI nb).toInt64 - v_s g k e ax (nI na) (nI nb)) (y := cu (nI nb)) h hp (by omega) (by rw [n_add]; congr 1; omega) hcu fun w2 hw2 => ?_
  refine s8_put (m := 8 * (k + 1) + (4 + ax)) (x := v_r1 g k e ax (nI na) (nI nb) * (nI nb).toInt64 - v_s g k e ax (nI na) (nI nb)) (y := cu (nI nb)) h hp (by omega) (by rw [n_add]; congr 1; omega) hcu fun w3 hw3 => ?_
  rw [chk5, x5_ord hek hek1 hax]
  refine hP w1 w2 w3 w4 w5 fun z => ?_
  simp only [xT, chk_0] at z
  simp only [chk_0] at hw1 hw2 hw3 hw4 hw5
  obtain ⟨⟨⟨⟨⟨t0, a1, a2⟩, b1, b2⟩, d1, d2⟩, f1, f2⟩, m1, m2⟩ := z
  rw [hw4 ⟨t0, f1, f2⟩, hw5 ⟨⟨t0, f1, f2⟩, m1, m2⟩, hw1 ⟨⟨⟨t0, f1, f2⟩, m1, m2⟩, a1, a2⟩, hw2 ⟨⟨⟨⟨t0, f1, f2⟩, m1, m2⟩, a1, a2⟩, b1, b2⟩, hw3 ⟨⟨⟨⟨⟨t0, f1, f2⟩, m1, m2⟩, a1, a2⟩, b1, b2⟩, d1, d2⟩]
  rfl
end
