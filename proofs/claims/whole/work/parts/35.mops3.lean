/-! ===== the reference's changes: turned, mapped, shifted ===== -/
section
variable {l : Launch} {D : ax_D} {S : ax_S} {E C : ax_C} {M : Nat} {A : ab_A}
theorem c8_swaps {v g : Nat → Int32} {t : Int32} {p a b : Nat} {x y : Int32} (h : mK S C M) (hp : p < 6) (hx : x = nI (3 + 98 * p + a)) (hy : y = nI (3 + 98 * p + b)) (ha : a < 96) (hb : b < 96) : ax_CV l D mt_X8_swaps [ax_r (some M), ax_i x, ax_i y] S (mW C M (lf v p g) t) (fun C' => C' = mW C M (lf v p (sw g a b)) t) := by
  subst hx hy
  have e0 := h.2.1.2.2
  refine vc_X8_swaps h.1 ⟨h.1, ?_⟩
  rw [mr_r, e0]
  refine ⟨h.2.1.1, (mr_in h (by omega)).2, h.1, h.1, h.2.1.1, (mr_in h (by omega)).2, h.2.1.1, (mr_in h (by omega)).2, h.1, ?_⟩
  rw [n_clamp (by omega), n_clamp (by omega), ax_wI_rI, mW_v, mW_v2, lf_up ha, lf_at hb, lf_at ha, mr_r, e0]
  refine ⟨h.2.1.1, (mr_in h (by omega)).2, ?_⟩
  rw [ax_wI_rI, mW_v, mW_v2, lf_up hb]
  rfl
theorem m_reverse {x1 : Int32} (h : mdl S E C M A) : ax_CI l D mt_X8_reverse [ax_r (some M), ax_i x1] S C (pP S E M A (F_reverse (nw A) x1)) := by
  unfold F_reverse
  refine vc_X8_reverse (mdl_9 h) fun P23 P33 P76 h23 h33 h76 => s8_pt h (fun e => by rw [e]; exact ⟨rfl, h⟩) fun p hp hx e => s8_begins h fun C1 hC1 ev e1 => ?_
  rw [e] at h76
  have hV6 := h.2.1
  obtain ⟨h12, w2, w3, w4⟩ := h.2.2.2 p hp
  have hR := vR_g h.2 hp
  have hK := hC1.1.1
  have e0 := hK.2.1.2.2
  generalize hn : ((nw A).2 p).1 = n at *
  generalize hv : C.1 (M + 1) = v at *
  rw [mW_c (p := p) ev]
  generalize C1.1 M 12 = t
  refine s8_many hK hx (by omega) (by rw [lf_n (by omega)]; exact w2) ?_
  generalize hr : bk v p = row at *
  have ph2 : ∀ (m s : Nat) (g : Nat → Int32), s + m = n → (∀ q, q < 8 * n → g q = if q < 8 * s then row (8 * (n - 1 - q / 8) + sf (q % 8)) else row (8 * (n - 1 - q / 8) + q % 8)) → P76 (nI n) (nI s) (mW C1 M (lf v p g) t) := by
    intro m
    induction m with
    | zero =>
      intro s g hs hg
      have : s = n := by omega
      subst this
      refine h76 _ _ _ ⟨fun _ => ?_, fun q => n_absurd (by simp (disch := omega) only [n_lit0, n_lit1, n_lit2, n_lit3, n_lit4, n_lit5, n_lit6, n_lit7, n_lit8, n_lit9, n_lit10, n_lit11, n_lit12, n_lit13, n_lit14, n_lit15, n_lit16, n_lit17, n_lit18, n_lit19, n_lit20, n_lit21, n_lit22, n_lit23, n_lit24, n_lit30, n_lit31, n_lit32, n_lit45, n_lit48, n_lit49, n_lit57, n_lit59, n_lit60, n_lit67, n_lit76, n_lit77, n_lit90, n_lit96, n_lit97, n_lit98, n_lit99, n_lit100, n_lit119, n_lit120, n_lit127, n_lit128, n_lit196, n_lit200, n_lit208, n_lit294, n_lit340, n_lit341, n_lit392, n_lit490, n_lit491, n_lit500, n_lit588, n_lit589, n_lit999, n_lit1178, n_lit5301, n_lit5890, n_lit46656, n_add, n_mul, n_sub, n_lt_t, n_lt_f, n_le_t, n_le_f, n_eq_t, n_eq_f, n_clamp, n_in_t, ax_sm_s, true_and, and_true, not_true_eq_false, not_false_eq_true, true_imp, false_imp, imp_true, and_self, ax_wI_2, ax_rI_2, ax_wI_t, ax_wI_n, ax_rI_t, ax_rI_n, n_up_t, n_up_n, ne_eq, or_true, true_or, false_or, or_false, some_ex, n_none1, n_none2, ite_true, ite_false]) q⟩
      refine s8_made (V := setP (nw A) p (s, ((nw A).2 p).2.1, fun q => ((nw A).2 p).2.2 (8 * (s - 1 - q / 8) + sf (q % 8)))) (mC_W hC1).1 (mC_W hC1).2 ?_ fun C2 hC => ⟨rfl, hC⟩
      rw [mW_v, ← hv]
      refine vR_lf h.2 hp hn.symm rfl fun q hq => ?_
      have hq : q < 8 * s := hq
      rw [hg q hq, if_pos hq]
      have hsf : sf (q % 8) < 8 := by unfold sf; (repeat' split) <;> omega
      exact hR _ (by omega)
    | succ m ih =>
      intro s g hs hg
      refine h76 _ _ _ ⟨fun q => n_absurd q (by simp (disch := omega) only [n_lit0, n_lit1, n_lit2, n_lit3, n_lit4, n_lit5, n_lit6, n_lit7, n_lit8, n_lit9, n_lit10, n_lit11, n_lit12, n_lit13, n_lit14, n_lit15, n_lit16, n_lit17, n_lit18, n_lit19, n_lit20, n_lit21, n_lit22, n_lit23, n_lit24, n_lit30, n_lit31, n_lit32, n_lit45, n_lit48, n_lit49, n_lit57, n_lit59, n_lit60, n_lit67, n_lit76, n_lit77, n_lit90, n_lit96, n_lit97, n_lit98, n_lit99, n_lit100, n_lit119, n_lit120, n_lit127, n_lit128, n_lit196, n_lit200, n_lit208, n_lit294, n_lit340, n_lit341, n_lit392, n_lit490, n_lit491, n_lit500, n_lit588, n_lit589, n_lit999, n_lit1178, n_lit5301, n_lit5890, n_lit46656, n_add, n_mul, n_sub, n_lt_t, n_lt_f, n_le_t, n_le_f, n_eq_t, n_eq_f, n_clamp, n_in_t, ax_sm_s, true_and, and_true, not_true_eq_false, not_false_eq_true, true_imp, false_imp, imp_true, and_self, ax_wI_2, ax_rI_2, ax_wI_t, ax_wI_n, ax_rI_t, ax_rI_n, n_up_t, n_up_n, ne_eq, or_true, true_or, false_or, or_false, some_ex, n_none1, n_none2, ite_true, ite_false]), fun _ => ?_⟩
      refine (c8_node hx rfl (w := 2) rfl).use ((c8_node hx rfl (w := 4) rfl).use ((c8_swaps hK (by omega) rfl rfl (by omega) (by omega)).use ?_))
      refine (c8_node hx rfl (w := 3) rfl).use ((c8_node hx rfl (w := 5) rfl).use ((c8_swaps hK (by omega) rfl rfl (by omega) (by omega)).use ?_))
      refine (c8_node hx rfl (w := 6) rfl).use ((c8_node hx rfl (w := 7) rfl).use ((c8_swaps hK (by omega) rfl rfl (by omega) (by omega)).use ?_))
      rw [n_succ]
      refine ih (s + 1) _ (by omega) fun q hq => ?_
      have key : sw (sw (sw g (8 * s + 2) (8 * s + 4)) (8 * s + 3) (8 * s + 5)) (8 * s + 6) (8 * s + 7) q = if 8 * s ≤ q ∧ q < 8 * s + 8 then g (8 * s + sf (q - 8 * s)) else g q := by
        by_cases z : 8 * s ≤ q ∧ q < 8 * s + 8
        · obtain ⟨f, rfl⟩ : ∃ f, q = 8 * s + f := ⟨q - 8 * s, by omega⟩
          rw [if_pos z, Nat.add_sub_cancel_left]
          have hf : f < 8 := by omega
          match f, hf with
          | 0, _ => simp [sw, va_up, sf]
          | 1, _ => simp [sw, va_up, sf]
          | 2, _ => simp [sw, va_up, sf]
          | 3, _ => simp [sw, va_up, sf]
          | 4, _ => simp [sw, va_up, sf]
          | 5, _ => simp [sw, va_up, sf]
          | 6, _ => simp [sw, va_up, sf]
          | 7, _ => simp [sw, va_up, sf]
        · rw [if_neg z]
          have d2 : q ≠ 8 * s + 2 := by omega
          have d3 : q ≠ 8 * s + 3 := by omega
          have d4 : q ≠ 8 * s + 4 := by omega
          have d5 : q ≠ 8 * s + 5 := by omega
          have d6 : q ≠ 8 * s + 6 := by omega
          have d7 : q ≠ 8 * s + 7 := by omega
          simp [sw, va_up, d2, d3, d4, d5, d6, d7]
      rw [key]
      by_cases z : 8 * s ≤ q ∧ q < 8 * s + 8
      · have hsf : sf (q - 8 * s) < 8 := by unfold sf; (repeat' split) <;> omega
        rw [if_pos z, if_pos (by omega), hg _ (by omega), if_neg (by omega)]
        have e1 : (8 * s + sf (q - 8 * s)) / 8 = q / 8 := by omega
        have e2 : (8 * s + sf (q - 8 * s)) % 8 = sf (q - 8 * s) := by omega
        have e3 : q - 8 * s = q % 8 := by omega
        rw [e1, e2, e3]
      · rw [if_neg z, hg q hq]
        by_cases z2 : q < 8 * s
        · rw [if_pos z2, if_pos (by omega)]
        · rw [if_neg z2, if_neg (by omega)]
  have ph1 : ∀ (m s : Nat), s + m = n / 2 → ∀ g : Nat → Int32, (∀ q, q < 8 * n → g q = if q < 8 * s ∨ 8 * (n - s) ≤ q then row (8 * (n - 1 - q / 8) + q % 8) else row q) → P23 (nI n) (nI s) (mW C1 M (lf v p g) t) := by
    intro m
    induction m with
    | zero =>
      intro s hs g hg
      have : s = n / 2 := by omega
      subst this
      refine h23 _ _ _ ⟨by decide, ?_⟩
      rw [show (2 : Int32) = nI 2 from rfl, pk_div (by omega) (by omega) (by omega)]
      refine ⟨fun _ => ph2 n 0 g (by omega) fun q hq => ?_, fun q => n_absurd (by simp (disch := omega) only [n_lit0, n_lit1, n_lit2, n_lit3, n_lit4, n_lit5, n_lit6, n_lit7, n_lit8, n_lit9, n_lit10, n_lit11, n_lit12, n_lit13, n_lit14, n_lit15, n_lit16, n_lit17, n_lit18, n_lit19, n_lit20, n_lit21, n_lit22, n_lit23, n_lit24, n_lit30, n_lit31, n_lit32, n_lit45, n_lit48, n_lit49, n_lit57, n_lit59, n_lit60, n_lit67, n_lit76, n_lit77, n_lit90, n_lit96, n_lit97, n_lit98, n_lit99, n_lit100, n_lit119, n_lit120, n_lit127, n_lit128, n_lit196, n_lit200, n_lit208, n_lit294, n_lit340, n_lit341, n_lit392, n_lit490, n_lit491, n_lit500, n_lit588, n_lit589, n_lit999, n_lit1178, n_lit5301, n_lit5890, n_lit46656, n_add, n_mul, n_sub, n_lt_t, n_lt_f, n_le_t, n_le_f, n_eq_t, n_eq_f, n_clamp, n_in_t, ax_sm_s, true_and, and_true, not_true_eq_false, not_false_eq_true, true_imp, false_imp, imp_true, and_self, ax_wI_2, ax_rI_2, ax_wI_t, ax_wI_n, ax_rI_t, ax_rI_n, n_up_t, n_up_n, ne_eq, or_true, true_or, false_or, or_false, some_ex, n_none1, n_none2, ite_true, ite_false]) q⟩
      rw [if_neg (by omega), hg q hq]
      by_cases z : q < 8 * (n / 2) ∨ 8 * (n - n / 2) ≤ q
      · rw [if_pos z]
      · rw [if_neg z]
        exact congrArg _ (by omega)
    | succ m ih =>
      intro s hs g hg
      refine h23 _ _ _ ⟨by decide, ?_⟩
      rw [show (2 : Int32) = nI 2 from rfl, pk_div (by omega) (by omega) (by omega)]
      refine ⟨fun q => n_absurd q (by simp (disch := omega) only [n_lit0, n_lit1, n_lit2, n_lit3, n_lit4, n_lit5, n_lit6, n_lit7, n_lit8, n_lit9, n_lit10, n_lit11, n_lit12, n_lit13, n_lit14, n_lit15, n_lit16, n_lit17, n_lit18, n_lit19, n_lit20, n_lit21, n_lit22, n_lit23, n_lit24, n_lit30, n_lit31, n_lit32, n_lit45, n_lit48, n_lit49, n_lit57, n_lit59, n_lit60, n_lit67, n_lit76, n_lit77, n_lit90, n_lit96, n_lit97, n_lit98, n_lit99, n_lit100, n_lit119, n_lit120, n_lit127, n_lit128, n_lit196, n_lit200, n_lit208, n_lit294, n_lit340, n_lit341, n_lit392, n_lit490, n_lit491, n_lit500, n_lit588, n_lit589, n_lit999, n_lit1178, n_lit5301, n_lit5890, n_lit46656, n_add, n_mul, n_sub, n_lt_t, n_lt_f, n_le_t, n_le_f, n_eq_t, n_eq_f, n_clamp, n_in_t, ax_sm_s, true_and, and_true, not_true_eq_false, not_false_eq_true, true_imp, false_imp, imp_true, and_self, ax_wI_2, ax_rI_2, ax_wI_t, ax_wI_n, ax_rI_t, ax_rI_n, n_up_t, n_up_n, ne_eq, or_true, true_or, false_or, or_false, some_ex, n_none1, n_none2, ite_true, ite_false]), fun _ => ?_⟩
      have inner : ∀ (m2 r : Nat) (g2 : Nat → Int32), r + m2 = 8 → (∀ q, q < 8 * n → g2 q = if q < 8 * s + r ∨ (8 * (n - 1 - s) ≤ q ∧ q < 8 * (n - 1 - s) + r) ∨ 8 * (n - s) ≤ q then row (8 * (n - 1 - q / 8) + q % 8) else row q) → P33 (nI n) (nI s) (nI r) (mW C1 M (lf v p g2) t) := by
        intro m2
        induction m2 with
        | zero =>
          intro r g2 hs2 hg2
          have : r = 8 := by omega
          subst this
          refine h33 _ _ _ _ ⟨fun _ => ?_, fun q => n_absurd (by simp (disch := omega) only [n_lit0, n_lit1, n_lit2, n_lit3, n_lit4, n_lit5, n_lit6, n_lit7, n_lit8, n_lit9, n_lit10, n_lit11, n_lit12, n_lit13, n_lit14, n_lit15, n_lit16, n_lit17, n_lit18, n_lit19, n_lit20, n_lit21, n_lit22, n_lit23, n_lit24, n_lit30, n_lit31, n_lit32, n_lit45, n_lit48, n_lit49, n_lit57, n_lit59, n_lit60, n_lit67, n_lit76, n_lit77, n_lit90, n_lit96, n_lit97, n_lit98, n_lit99, n_lit100, n_lit119, n_lit120, n_lit127, n_lit128, n_lit196, n_lit200, n_lit208, n_lit294, n_lit340, n_lit341, n_lit392, n_lit490, n_lit491, n_lit500, n_lit588, n_lit589, n_lit999, n_lit1178, n_lit5301, n_lit5890, n_lit46656, n_add, n_mul, n_sub, n_lt_t, n_lt_f, n_le_t, n_le_f, n_eq_t, n_eq_f, n_clamp, n_in_t, ax_sm_s, true_and, and_true, not_true_eq_false, not_false_eq_true, true_imp, false_imp, imp_true, and_self, ax_wI_2, ax_rI_2, ax_wI_t, ax_wI_n, ax_rI_t, ax_rI_n, n_up_t, n_up_n, ne_eq, or_true, true_or, false_or, or_false, some_ex, n_none1, n_none2, ite_true, ite_false]) q⟩
          rw [n_succ]
          refine ih (s + 1) (by omega) g2 fun q hq => ?_
          rw [hg2 q hq]
          by_cases z : q < 8 * (s + 1) ∨ 8 * (n - (s + 1)) ≤ q
          · rw [if_pos z, if_pos (by omega)]
          · rw [if_neg z, if_neg (by omega)]
        | succ m2 ih2 =>
          intro r g2 hs2 hg2
          refine h33 _ _ _ _ ⟨fun q => n_absurd q (by simp (disch := omega) only [n_lit0, n_lit1, n_lit2, n_lit3, n_lit4, n_lit5, n_lit6, n_lit7, n_lit8, n_lit9, n_lit10, n_lit11, n_lit12, n_lit13, n_lit14, n_lit15, n_lit16, n_lit17, n_lit18, n_lit19, n_lit20, n_lit21, n_lit22, n_lit23, n_lit24, n_lit30, n_lit31, n_lit32, n_lit45, n_lit48, n_lit49, n_lit57, n_lit59, n_lit60, n_lit67, n_lit76, n_lit77, n_lit90, n_lit96, n_lit97, n_lit98, n_lit99, n_lit100, n_lit119, n_lit120, n_lit127, n_lit128, n_lit196, n_lit200, n_lit208, n_lit294, n_lit340, n_lit341, n_lit392, n_lit490, n_lit491, n_lit500, n_lit588, n_lit589, n_lit999, n_lit1178, n_lit5301, n_lit5890, n_lit46656, n_add, n_mul, n_sub, n_lt_t, n_lt_f, n_le_t, n_le_f, n_eq_t, n_eq_f, n_clamp, n_in_t, ax_sm_s, true_and, and_true, not_true_eq_false, not_false_eq_true, true_imp, false_imp, imp_true, and_self, ax_wI_2, ax_rI_2, ax_wI_t, ax_wI_n, ax_rI_t, ax_rI_n, n_up_t, n_up_n, ne_eq, or_true, true_or, false_or, or_false, some_ex, n_none1, n_none2, ite_true, ite_false]), fun _ => ?_⟩
          rw [n_lit1, n_sub (by omega), n_sub (a := n - 1) (b := s) (by omega), n_add]
          refine (c8_node hx rfl (w := r) rfl).use ((c8_node hx rfl (w := r) rfl).use ((c8_swaps hK (by omega) rfl rfl (by omega) (by omega)).use ?_))
          refine ih2 (r + 1) _ (by omega) fun q hq => ?_
          unfold sw
          by_cases z1 : q = 8 * (n - 1 - s) + r
          · rw [n_up_t z1, if_pos (by omega), hg2 _ (by omega), if_neg (by omega)]
            exact congrArg _ (by omega)
          · rw [n_up_n z1]
            by_cases z2 : q = 8 * s + r
            · rw [n_up_t z2, if_pos (by omega), hg2 _ (by omega), if_neg (by omega)]
              exact congrArg _ (by omega)
            · rw [n_up_n z2, hg2 q hq]
              by_cases z : q < 8 * s + r ∨ (8 * (n - 1 - s) ≤ q ∧ q < 8 * (n - 1 - s) + r) ∨ 8 * (n - s) ≤ q
              · rw [if_pos z, if_pos (by omega)]
              · rw [if_neg z, if_neg (by omega)]
      refine inner 8 0 g rfl fun q hq => ?_
      rw [hg q hq]
      by_cases z : q < 8 * s ∨ 8 * (n - s) ≤ q
      · rw [if_pos z, if_pos (by omega)]
      · rw [if_neg z, if_neg (by omega)]
  exact ph1 (n / 2) 0 (by omega) row (fun q hq => by rw [if_neg (by omega)])
theorem chk_T {row : Nat → Int32} {k : Nat} {a b c d q : Int64} {t : Int32} (h : t = 0 ∨ t < 0) : ∀ f, mT row k a b c d q t f = 0 ∨ mT row k a b c d q t f < 0
  | 0 => h
  | f + 1 => chk_s _ _ _ (chk_T h f)
theorem tfT_s {g : Nat → Int32} {a b c d q : Int64} : ∀ k, tfT g a b c d q k = 0 ∨ tfT g a b c d q k < 0
  | 0 => Or.inl rfl
  | k + 1 => chk_T (tfT_s k) 6
theorem shT_s {g : Nat → Int32} {dx dy : Int32} : ∀ k, shT g dx dy k = 0 ∨ shT g dx dy k < 0
  | 0 => Or.inl rfl
  | k + 1 => chk_s _ _ _ (chk_s _ _ _ (shT_s k))
theorem m_shift {x1 dx dy : Int32} (h : mdl S E C M A) (hok : okV (nw A)) : ax_CI l D mt_X8_shift [ax_r (some M), ax_i x1, ax_i dx, ax_i dy] S C (pP S E M A (F_shift (nw A) x1 dx dy)) := by
  unfold F_shift
  refine vc_X8_shift (mdl_9 h) fun P34 h34 => s8_pt h (fun e => by rw [e]; exact ⟨rfl, h⟩) fun p hp hx e => ?_
  rw [e] at h34 ⊢
  refine c8_isUnits.use ?_
  cases hln : ln dx dy
  · rw [if_pos rfl]
    exact ⟨fun q => absurd rfl q, fun _ => ⟨rfl, h⟩⟩
  rw [hln, if_neg (by decide)] at h34
  refine ⟨fun _ => s8_begins h fun C1 hC1 ev e1 => ?_, fun q => absurd q (by decide)⟩
  have hV6 := h.2.1
  obtain ⟨h12, w2, w3, w4⟩ := h.2.2.2 p hp
  have hR := vR_g h.2 hp
  have hK := hC1.1.1
  have e0 := hK.2.1.2.2
  have hokp := hok.2 p hp
  unfold ln at hln
  rw [Bool.and_eq_true] at hln
  have hb0 : ∀ k, k < ((nw A).2 p).1 → _ := fun k hk => mv_b (ok_c hokp hk (f := 0) (by omega)) hln.1
  have hb1 : ∀ k, k < ((nw A).2 p).1 → _ := fun k hk => mv_b (ok_c hokp hk (f := 1) (by omega)) hln.2
  refine ⟨hK.1, ?_⟩
  rw [mW_b (p := p) ev]
  generalize hn : ((nw A).2 p).1 = n at *
  generalize hg : ((nw A).2 p).2.2 = g at *
  generalize hv : C.1 (M + 1) = v at *
  generalize hX : dx * 46656 = X at *
  generalize hY : dy * 46656 = Y at *
  have loop : ∀ (m s : Nat) (G : Nat → Int32), s + m = n → (∀ j, 8 * s ≤ j → G j = bk v p j) → (shT g X Y s = 0 → ∀ j, j < 8 * s → G j = if j % 8 < 2 then mvG g (j / 8) X Y j else g j) → P34 (nI s) (mW C1 M (lf v p G) (shT g X Y s)) := by
    intro m
    induction m with
    | zero =>
      intro s G hs hG hval
      have : s = n := by omega
      subst this
      refine h34 _ _ (s8_many hK hx (by omega) (by rw [lf_n (by omega)]; exact w2) ⟨fun _ => ?_, fun q => n_absurd (by simp (disch := omega) only [n_lit0, n_lit1, n_lit2, n_lit3, n_lit4, n_lit5, n_lit6, n_lit7, n_lit8, n_lit9, n_lit10, n_lit11, n_lit12, n_lit13, n_lit14, n_lit15, n_lit16, n_lit17, n_lit18, n_lit19, n_lit20, n_lit21, n_lit22, n_lit23, n_lit24, n_lit30, n_lit31, n_lit32, n_lit45, n_lit48, n_lit49, n_lit57, n_lit59, n_lit60, n_lit67, n_lit76, n_lit77, n_lit90, n_lit96, n_lit97, n_lit98, n_lit99, n_lit100, n_lit119, n_lit120, n_lit127, n_lit128, n_lit196, n_lit200, n_lit208, n_lit294, n_lit340, n_lit341, n_lit392, n_lit490, n_lit491, n_lit500, n_lit588, n_lit589, n_lit999, n_lit1178, n_lit5301, n_lit5890, n_lit46656, n_add, n_mul, n_sub, n_lt_t, n_lt_f, n_le_t, n_le_f, n_eq_t, n_eq_f, n_clamp, n_in_t, ax_sm_s, true_and, and_true, not_true_eq_false, not_false_eq_true, true_imp, false_imp, imp_true, and_self, ax_wI_2, ax_rI_2, ax_wI_t, ax_wI_n, ax_rI_t, ax_rI_n, n_up_t, n_up_n, ne_eq, or_true, true_or, false_or, or_false, some_ex, n_none1, n_none2, ite_true, ite_false]) q⟩)
      refine s8_end2 (x := nI s) (V := setP (nw A) p (s, ((nw A).2 p).2.1, fun j => if j % 8 < 2 then mvG g (j / 8) X Y j else g j)) hC1 (fun z => ?_) (shT_s s) (fun _ hm => s8_many hK hx (by omega) (by rw [lf_n (by omega)]; exact w2) hm) fun C2 hC => ⟨rfl, hC⟩
      rw [← hv]
      exact vR_lf h.2 hp hn.symm rfl fun q hq => hval z q hq
    | succ m ih =>
      intro s G hs hG hval
      refine h34 _ _ (s8_many hK hx (by omega) (by rw [lf_n (by omega)]; exact w2) ⟨fun q => n_absurd q (by simp (disch := omega) only [n_lit0, n_lit1, n_lit2, n_lit3, n_lit4, n_lit5, n_lit6, n_lit7, n_lit8, n_lit9, n_lit10, n_lit11, n_lit12, n_lit13, n_lit14, n_lit15, n_lit16, n_lit17, n_lit18, n_lit19, n_lit20, n_lit21, n_lit22, n_lit23, n_lit24, n_lit30, n_lit31, n_lit32, n_lit45, n_lit48, n_lit49, n_lit57, n_lit59, n_lit60, n_lit67, n_lit76, n_lit77, n_lit90, n_lit96, n_lit97, n_lit98, n_lit99, n_lit100, n_lit119, n_lit120, n_lit127, n_lit128, n_lit196, n_lit200, n_lit208, n_lit294, n_lit340, n_lit341, n_lit392, n_lit490, n_lit491, n_lit500, n_lit588, n_lit589, n_lit999, n_lit1178, n_lit5301, n_lit5890, n_lit46656, n_add, n_mul, n_sub, n_lt_t, n_lt_f, n_le_t, n_le_f, n_eq_t, n_eq_f, n_clamp, n_in_t, ax_sm_s, true_and, and_true, not_true_eq_false, not_false_eq_true, true_imp, false_imp, imp_true, and_self, ax_wI_2, ax_rI_2, ax_wI_t, ax_wI_n, ax_rI_t, ax_rI_n, n_up_t, n_up_n, ne_eq, or_true, true_or, false_or, or_false, some_ex, n_none1, n_none2, ite_true, ite_false]), fun _ => ?_⟩)
      refine (c8_node hx rfl (w := 0) rfl).use ⟨hK.1, (c8_node hx rfl (w := 0) rfl).use ?_⟩
      rw [mr_r, e0]
      refine ⟨hK.2.1.1, (mr_in hK (by omega)).2, ?_⟩
      rw [n_clamp (by omega), mW_v, lf_at (by omega), hG _ (by omega), hR _ (by omega), ← hb0 s (by omega)]
      refine s8_put hK (by omega) (by omega) rfl (by decide) fun u0 hu0 => ?_
      refine (c8_node hx rfl (w := 1) rfl).use ⟨hK.1, (c8_node hx rfl (w := 1) rfl).use ?_⟩
      rw [mr_r, e0]
      refine ⟨hK.2.1.1, (mr_in hK (by omega)).2, ?_⟩
      rw [n_clamp (by omega), mW_v, lf_at (by omega), n_up_n (by omega), hG _ (by omega), hR _ (by omega), ← hb1 s (by omega)]
      refine s8_put hK (by omega) (by omega) rfl (by decide) fun u1 hu1 => ?_
      rw [n_succ]
      refine ih (s + 1) _ (by omega) (fun j hj => ?_) fun z j hj => ?_
      · rw [n_up_n (by omega), n_up_n (by omega), hG j (by omega)]
      · have z1 : mvT g s X Y (shT g X Y s) = 0 := z
        rw [hu1 z1, hu0 ((chk_0 _ _ _).mp z1).1]
        by_cases w : j < 8 * s
        · rw [n_up_n (by omega), n_up_n (by omega)]; exact hval (mvT_0 z1) j w
        · by_cases w2 : j < 8 * s + 2
          · rw [if_pos (by omega), show j / 8 = s by omega]
            unfold mvG
            by_cases w3 : j = 8 * s + 1
            · rw [n_up_t w3, n_up_t w3]
            · rw [n_up_n w3, n_up_n w3, n_up_t (by omega), n_up_t (by omega)]
          · rw [n_up_n (by omega), n_up_n (by omega), hG j (by omega), if_neg (by omega)]; exact hR _ (by omega)
  exact loop n 0 (bk v p) (by omega) (fun _ _ => rfl) (fun _ j hj => by omega)
theorem m_transform {x1 a b c d' q : Int32} (h : mdl S E C M A) : ax_CI l D mt_X8_transform [ax_r (some M), ax_i x1, ax_i a, ax_i b, ax_i c, ax_i d', ax_i q] S C (pP S E M A (F_transform (nw A) x1 a b c d' q)) := by
  unfold F_transform fc
  refine vc_X8_transform (mdl_9 h) fun P83 P96 h83 h96 => s8_pt h (fun e => by rw [e]; exact ⟨rfl, h⟩) fun p hp hx e => ?_
  rw [e] at h83 ⊢
  refine c8_in.use ?_
  cases ha : bt a (-9) 9
  · exact ⟨fun _ => ⟨rfl, h⟩, fun w => absurd rfl w⟩
  refine ⟨fun w => absurd w (by decide), fun _ => c8_in.use ?_⟩
  cases hb : bt b (-9) 9
  · exact ⟨fun _ => ⟨rfl, h⟩, fun w => absurd rfl w⟩
  refine ⟨fun w => absurd w (by decide), fun _ => c8_in.use ?_⟩
  cases hcc : bt c (-9) 9
  · exact ⟨fun _ => ⟨rfl, h⟩, fun w => absurd rfl w⟩
  refine ⟨fun w => absurd w (by decide), fun _ => c8_in.use ?_⟩
  cases hdd' : bt d' (-9) 9
  · exact ⟨fun _ => ⟨rfl, h⟩, fun w => absurd rfl w⟩
  refine ⟨fun w => absurd w (by decide), fun _ => c8_in.use ?_⟩
  cases hq : bt q 1 6
  · exact ⟨fun w => absurd rfl w, fun _ => ⟨rfl, h⟩⟩
  rw [ha, hb, hcc, hdd', hq, if_neg (by decide)] at h83
  refine ⟨fun _ => s8_begins h fun C1 hC1 ev e1 => ?_, fun w => absurd w (by decide)⟩
  have hV6 := h.2.1
  obtain ⟨h12, w2, w3, w4⟩ := h.2.2.2 p hp
  have hR := vR_g h.2 hp
  have hK := hC1.1.1
  have e0 := hK.2.1.2.2
  obtain ⟨q1, q2, q3⟩ := bt_n (lo := 1) (hi := 6) (by omega) (by omega) hq
  have hq64 : ¬ q.toInt64 = 0 := by
    intro z
    have := congrArg Int64.toInt z
    rw [Int32.toInt_toInt64] at this
    have : q = 0 := Int32.toInt_inj.mp this
    rw [q3] at this
    exact nI_ne0 (by omega) (by omega) this
  refine ⟨hK.1, ?_⟩
  rw [mW_b (p := p) ev]
  generalize hn : ((nw A).2 p).1 = n at *
  generalize hg : ((nw A).2 p).2.2 = g at *
  generalize hv : C.1 (M + 1) = v at *
  generalize ea : a.toInt64 = a' at *
  generalize eb : b.toInt64 = b' at *
  generalize ec : c.toInt64 = c' at *
  generalize ed : d'.toInt64 = dd at *
  have loop : ∀ (m s : Nat) (G : Nat → Int32), s + m = n → (∀ j, 8 * s ≤ j → G j = bk v p j) → (tfT g a' b' c' dd q.toInt64 s = 0 → ∀ j, j < 8 * s → G j = if j % 8 < 6 then qr (mn g (j / 8) a' b' c' dd (j % 8)) q.toInt64 else g j) → P83 (nI s) (mW C1 M (lf v p G) (tfT g a' b' c' dd q.toInt64 s)) := by
    intro m
    induction m with
    | zero =>
      intro s G hs hG hval
      have : s = n := by omega
      subst this
      refine h83 _ _ (s8_many hK hx (by omega) (by rw [lf_n (by omega)]; exact w2) ⟨fun _ => ?_, fun q => n_absurd (by simp (disch := omega) only [n_lit0, n_lit1, n_lit2, n_lit3, n_lit4, n_lit5, n_lit6, n_lit7, n_lit8, n_lit9, n_lit10, n_lit11, n_lit12, n_lit13, n_lit14, n_lit15, n_lit16, n_lit17, n_lit18, n_lit19, n_lit20, n_lit21, n_lit22, n_lit23, n_lit24, n_lit30, n_lit31, n_lit32, n_lit45, n_lit48, n_lit49, n_lit57, n_lit59, n_lit60, n_lit67, n_lit76, n_lit77, n_lit90, n_lit96, n_lit97, n_lit98, n_lit99, n_lit100, n_lit119, n_lit120, n_lit127, n_lit128, n_lit196, n_lit200, n_lit208, n_lit294, n_lit340, n_lit341, n_lit392, n_lit490, n_lit491, n_lit500, n_lit588, n_lit589, n_lit999, n_lit1178, n_lit5301, n_lit5890, n_lit46656, n_add, n_mul, n_sub, n_lt_t, n_lt_f, n_le_t, n_le_f, n_eq_t, n_eq_f, n_clamp, n_in_t, ax_sm_s, true_and, and_true, not_true_eq_false, not_false_eq_true, true_imp, false_imp, imp_true, and_self, ax_wI_2, ax_rI_2, ax_wI_t, ax_wI_n, ax_rI_t, ax_rI_n, n_up_t, n_up_n, ne_eq, or_true, true_or, false_or, or_false, some_ex, n_none1, n_none2, ite_true, ite_false]) q⟩)
      refine s8_end2 (x := nI s) (V := setP (nw A) p (s, ((nw A).2 p).2.1, fun j => if j % 8 < 6 then qr (mn g (j / 8) a' b' c' dd (j % 8)) q.toInt64 else g j)) hC1 (fun z => ?_) (tfT_s s) (fun _ hm => s8_many hK hx (by omega) (by rw [lf_n (by omega)]; exact w2) hm) fun C2 hC => ⟨rfl, hC⟩
      rw [← hv]
      exact vR_lf h.2 hp hn.symm rfl fun q hq => hval z q hq
    | succ m ih =>
      intro s G hs hG hval
      refine h83 _ _ (s8_many hK hx (by omega) (by rw [lf_n (by omega)]; exact w2) ⟨fun q => n_absurd q (by simp (disch := omega) only [n_lit0, n_lit1, n_lit2, n_lit3, n_lit4, n_lit5, n_lit6, n_lit7, n_lit8, n_lit9, n_lit10, n_lit11, n_lit12, n_lit13, n_lit14, n_lit15, n_lit16, n_lit17, n_lit18, n_lit19, n_lit20, n_lit21, n_lit22, n_lit23, n_lit24, n_lit30, n_lit31, n_lit32, n_lit45, n_lit48, n_lit49, n_lit57, n_lit59, n_lit60, n_lit67, n_lit76, n_lit77, n_lit90, n_lit96, n_lit97, n_lit98, n_lit99, n_lit100, n_lit119, n_lit120, n_lit127, n_lit128, n_lit196, n_lit200, n_lit208, n_lit294, n_lit340, n_lit341, n_lit392, n_lit490, n_lit491, n_lit500, n_lit588, n_lit589, n_lit999, n_lit1178, n_lit5301, n_lit5890, n_lit46656, n_add, n_mul, n_sub, n_lt_t, n_lt_f, n_le_t, n_le_f, n_eq_t, n_eq_f, n_clamp, n_in_t, ax_sm_s, true_and, and_true, not_true_eq_false, not_false_eq_true, true_imp, false_imp, imp_true, and_self, ax_wI_2, ax_rI_2, ax_wI_t, ax_wI_n, ax_rI_t, ax_rI_n, n_up_t, n_up_n, ne_eq, or_true, true_or, false_or, or_false, some_ex, n_none1, n_none2, ite_true, ite_false]), fun _ => ?_⟩)
      have e8 : ∀ f, f < 8 → G (8 * s + f) = g (8 * s + f) := fun f hf => by rw [hG _ (by omega)]; exact hR _ (by omega)
      have inner : ∀ (m2 r : Nat) (G2 : Nat → Int32), r + m2 = 3 → (∀ j, (j < 8 * s ∨ 8 * s + 2 * r ≤ j) → G2 j = G j) → (mT g s a' b' c' dd q.toInt64 (tfT g a' b' c' dd q.toInt64 s) (2 * r) = 0 → ∀ f, f < 2 * r → G2 (8 * s + f) = qr (mn g s a' b' c' dd f) q.toInt64) → P96 (nI s) (nI (2 * r)) (mW C1 M (lf v p G2) (mT g s a' b' c' dd q.toInt64 (tfT g a' b' c' dd q.toInt64 s) (2 * r))) := by
        intro m2
        induction m2 with
        | zero =>
          intro r G2 hr hG2 hv2
          have : r = 3 := by omega
          subst this
          refine h96 _ _ _ ⟨fun _ => ?_, fun q => n_absurd (by simp (disch := omega) only [n_lit0, n_lit1, n_lit2, n_lit3, n_lit4, n_lit5, n_lit6, n_lit7, n_lit8, n_lit9, n_lit10, n_lit11, n_lit12, n_lit13, n_lit14, n_lit15, n_lit16, n_lit17, n_lit18, n_lit19, n_lit20, n_lit21, n_lit22, n_lit23, n_lit24, n_lit30, n_lit31, n_lit32, n_lit45, n_lit48, n_lit49, n_lit57, n_lit59, n_lit60, n_lit67, n_lit76, n_lit77, n_lit90, n_lit96, n_lit97, n_lit98, n_lit99, n_lit100, n_lit119, n_lit120, n_lit127, n_lit128, n_lit196, n_lit200, n_lit208, n_lit294, n_lit340, n_lit341, n_lit392, n_lit490, n_lit491, n_lit500, n_lit588, n_lit589, n_lit999, n_lit1178, n_lit5301, n_lit5890, n_lit46656, n_add, n_mul, n_sub, n_lt_t, n_lt_f, n_le_t, n_le_f, n_eq_t, n_eq_f, n_clamp, n_in_t, ax_sm_s, true_and, and_true, not_true_eq_false, not_false_eq_true, true_imp, false_imp, imp_true, and_self, ax_wI_2, ax_rI_2, ax_wI_t, ax_wI_n, ax_rI_t, ax_rI_n, n_up_t, n_up_n, ne_eq, or_true, true_or, false_or, or_false, some_ex, n_none1, n_none2, ite_true, ite_false]) q⟩
          rw [n_succ]
          refine ih (s + 1) G2 (by omega) (fun j hj => ?_) fun z j hj => ?_
          · rw [hG2 j (by omega), hG j (by omega)]
          · have z1 : mT g s a' b' c' dd q.toInt64 (tfT g a' b' c' dd q.toInt64 s) 6 = 0 := z
            by_cases w : j < 8 * s
            · rw [hG2 j (by omega)]; exact hval (mT_v z1) j w
            · by_cases w2 : j < 8 * s + 6
              · obtain ⟨f, rfl⟩ : ∃ f, j = 8 * s + f := ⟨j - 8 * s, by omega⟩
                rw [hv2 z1 f (by omega), if_pos (by omega), show (8 * s + f) / 8 = s by omega, show (8 * s + f) % 8 = f by omega]
              · rw [hG2 j (by omega), hG j (by omega), if_neg (by omega)]; exact hR _ (by omega)
        | succ m2 ih2 =>
          intro r G2 hr hG2 hv2
          refine h96 _ _ _ ⟨fun q => n_absurd q (by simp (disch := omega) only [n_lit0, n_lit1, n_lit2, n_lit3, n_lit4, n_lit5, n_lit6, n_lit7, n_lit8, n_lit9, n_lit10, n_lit11, n_lit12, n_lit13, n_lit14, n_lit15, n_lit16, n_lit17, n_lit18, n_lit19, n_lit20, n_lit21, n_lit22, n_lit23, n_lit24, n_lit30, n_lit31, n_lit32, n_lit45, n_lit48, n_lit49, n_lit57, n_lit59, n_lit60, n_lit67, n_lit76, n_lit77, n_lit90, n_lit96, n_lit97, n_lit98, n_lit99, n_lit100, n_lit119, n_lit120, n_lit127, n_lit128, n_lit196, n_lit200, n_lit208, n_lit294, n_lit340, n_lit341, n_lit392, n_lit490, n_lit491, n_lit500, n_lit588, n_lit589, n_lit999, n_lit1178, n_lit5301, n_lit5890, n_lit46656, n_add, n_mul, n_sub, n_lt_t, n_lt_f, n_le_t, n_le_f, n_eq_t, n_eq_f, n_clamp, n_in_t, ax_sm_s, true_and, and_true, not_true_eq_false, not_false_eq_true, true_imp, false_imp, imp_true, and_self, ax_wI_2, ax_rI_2, ax_wI_t, ax_wI_n, ax_rI_t, ax_rI_n, n_up_t, n_up_n, ne_eq, or_true, true_or, false_or, or_false, some_ex, n_none1, n_none2, ite_true, ite_false]), fun _ => (c8_node hx rfl (w := 2 * r) rfl).use (vc_X8_transforms hK.1 ⟨hK.1, ?_⟩)⟩
          rw [mr_r, e0, n_succ]
          refine ⟨hK.2.1.1, (mr_in hK (by omega)).2, hK.1, hK.2.1.1, (mr_in hK (by omega)).2, ?_⟩
          rw [n_clamp (by omega), n_clamp (by omega), mW_v, lf_at (by omega), show 3 + 98 * p + (8 * s + 2 * r) + 1 = 3 + 98 * p + (8 * s + (2 * r + 1)) by omega, lf_at (by omega), hG2 _ (by omega), hG2 (8 * s + (2 * r + 1)) (by omega), e8 _ (by omega), e8 (2 * r + 1) (by omega)]
          have e1 : mn g s a' b' c' dd (2 * r) = a' * (g (8 * s + 2 * r)).toInt64 + b' * (g (8 * s + (2 * r + 1))).toInt64 := by
            unfold mn; rw [if_pos (by omega)]
          have e2 : mn g s a' b' c' dd (2 * r + 1) = c' * (g (8 * s + 2 * r)).toInt64 + dd * (g (8 * s + (2 * r + 1))).toInt64 := by
            unfold mn; rw [if_neg (by omega)]; rfl
          rw [ea, eb, ec, ed, ← e1, ← e2]
          refine s8_put hK (by omega) (by omega) rfl hq64 fun u0 hu0 => ?_
          refine s8_put hK (by omega) (by omega) rfl hq64 fun u1 hu1 => ?_
          rw [n_lit2, n_add]
          refine ih2 (r + 1) _ (by omega) (fun j hj => ?_) fun z f hf => ?_
          · rw [n_up_n (by omega), n_up_n (by omega), hG2 j (by omega)]
          · have z1 := hu1 z
            have zz := ((chk_0 _ _ _).mp z).1
            have z0 := hu0 zz
            have zv := hv2 ((chk_0 _ _ _).mp zz).1
            by_cases y1 : f = 2 * r + 1
            · rw [y1, n_up_t rfl]; exact z1
            · rw [n_up_n (by omega)]
              by_cases y0 : f = 2 * r
              · rw [y0, n_up_t rfl]; exact z0
              · rw [n_up_n (by omega)]; exact zv f (by omega)
      exact inner 3 0 G rfl (fun _ _ => rfl) (fun _ f hf => by omega)
  exact loop n 0 (bk v p) (by omega) (fun _ _ => rfl) (fun _ j hj => by omega)
end
