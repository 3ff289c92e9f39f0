/-! ===== the class's changes: joins, maps, shifts; undo, redo ===== -/
theorem fc_b {x : Int32} (h : fc x = true) : -9 ≤ x.toInt ∧ x.toInt ≤ 9 := by
  unfold fc bt at h
  have e1 : (-9 : Int32).toInt = -9 := rfl
  have e2 : (9 : Int32).toInt = 9 := rfl
  simp only [Bool.and_eq_true, Bool.not_eq_true', decide_eq_false_iff_not, Int32.not_lt, Int32.le_iff_toInt_le, e1, e2] at h
  exact h
theorem tfT_0 {g : Nat → Int32} {a b c d q : Int64} : ∀ {m : Nat}, tfT g a b c d q m = 0 → ∀ j, j < m → mT g j a b c d q (tfT g a b c d q j) 6 = 0
  | 0, _, j, hj => by omega
  | m + 1, h, j, hj => by
    by_cases z : j = m
    · subst z; exact h
    · refine tfT_0 (m := m) ?_ j (by omega)
      exact mT_0 (m := 6) h 0 (by omega)
theorem mT_v {g : Nat → Int32} {k : Nat} {a b c d q : Int64} {t : Int32} (h : mT g k a b c d q t 6 = 0) : t = 0 := mT_0 (m := 6) h 0 (by omega)
theorem mvT_0 {g : Nat → Int32} {k : Nat} {dx dy t : Int32} (h : mvT g k dx dy t = 0) : t = 0 := ((chk_0 _ _ _).mp ((chk_0 _ _ _).mp h).1).1
section
variable {l : Launch} {D : ax_D} {S : ax_S} {E C : ax_C} {B pr : Nat} {τ : Nat → Nat} {A : ab_A}
theorem o_transform {x1 a b c d' q : Int32} (h : cls S E C B A) (hok : okV (nw A)) : ax_CI l D mt_X7_transform [ax_r (some B), ax_i x1, ax_i a, ax_i b, ax_i c, ax_i d', ax_i q] S C (oP S E B A (F_transform (nw A) x1 a b c d' q)) := by
  unfold F_transform
  refine vc_X7_transform (cls_8 h) fun P65 h65 => s_pt h (fun C' hC e => by rw [e]; exact ⟨rfl, hC⟩) fun C1 τ pr d σ p hd hp hx e => ?_
  obtain ⟨hP, hc, sk⟩ := dS_p hd hp
  have hdd := dS_d hd
  have hc12 := hc.1
  have hR := va_cp hc
  rw [e]
  rw [e] at h65
  refine c_isFactor.use ?_
  cases ha : fc a
  · exact ⟨fun _ => ⟨rfl, dS_cls hd⟩, fun w => absurd rfl w⟩
  refine ⟨fun w => absurd w (by decide), fun _ => c_isFactor.use ?_⟩
  cases hb : fc b
  · exact ⟨fun _ => ⟨rfl, dS_cls hd⟩, fun w => absurd rfl w⟩
  refine ⟨fun w => absurd w (by decide), fun _ => c_isFactor.use ?_⟩
  cases hcc : fc c
  · exact ⟨fun _ => ⟨rfl, dS_cls hd⟩, fun w => absurd rfl w⟩
  refine ⟨fun w => absurd w (by decide), fun _ => c_isFactor.use ?_⟩
  cases hdd' : fc d'
  · exact ⟨fun _ => ⟨rfl, dS_cls hd⟩, fun w => absurd rfl w⟩
  refine ⟨fun w => absurd w (by decide), fun _ => c_isBetween.use ?_⟩
  cases hq : bt q 1 6
  · exact ⟨fun w => absurd rfl w, fun _ => ⟨rfl, dS_cls hd⟩⟩
  obtain ⟨q1, q2, q3⟩ := bt_n (lo := 1) (hi := 6) (by omega) (by omega) hq
  have hq0 : ¬ q = 0 := by rw [q3]; exact nI_ne0 (by omega) (by omega)
  refine ⟨fun _ => ?_, fun w => absurd w (by decide)⟩
  rw [ha, hb, hcc, hdd', hq, if_neg (by decide)] at h65
  generalize hn : ((nw A).2 p).1 = n at *
  generalize hg : ((nw A).2 p).2.2 = g at *
  have loop : ∀ (m s : Nat) (G h' : Nat → Int32), s + m = n → lA S (qW C1 (d + 2 + 2 * σ p) G (B + 173) h') (B + 173) (tfT g a.toInt64 b.toInt64 c.toInt64 d'.toInt64 q.toInt64 s) → (∀ j, 8 * s ≤ j → G j = C1.1 (d + 2 + 2 * σ p + 1) j) → (tfT g a.toInt64 b.toInt64 c.toInt64 d'.toInt64 q.toInt64 s = 0 → ∀ j, j < 8 * s → G j = if j % 8 < 6 then qr (mn g (j / 8) a.toInt64 b.toInt64 c.toInt64 d'.toInt64 (j % 8)) q.toInt64 else g j) → P65 (some (d + 2 + 2 * σ p)) (nI s) (qW C1 (d + 2 + 2 * σ p) G (B + 173) h') := by
    intro m
    induction m with
    | zero =>
      intro s G h' hs hl hG hv
      have : s = n := by omega
      subst this
      refine h65 _ _ _ ⟨hP.1, ?_⟩
      rw [qW_n (by omega) (by omega), hc.2.1, hn]
      refine ⟨fun _ => ⟨hP.1, ?_⟩, fun w => n_absurd (by simp (disch := omega) only [n_lit0, n_lit1, n_lit2, n_lit3, n_lit4, n_lit5, n_lit6, n_lit7, n_lit8, n_lit9, n_lit10, n_lit11, n_lit12, n_lit13, n_lit14, n_lit15, n_lit16, n_lit17, n_lit18, n_lit19, n_lit20, n_lit21, n_lit22, n_lit23, n_lit24, n_lit30, n_lit31, n_lit32, n_lit45, n_lit48, n_lit49, n_lit57, n_lit59, n_lit60, n_lit67, n_lit76, n_lit77, n_lit90, n_lit96, n_lit97, n_lit98, n_lit99, n_lit100, n_lit119, n_lit120, n_lit127, n_lit128, n_lit196, n_lit200, n_lit208, n_lit294, n_lit340, n_lit341, n_lit392, n_lit490, n_lit491, n_lit500, n_lit588, n_lit589, n_lit999, n_lit1178, n_lit5301, n_lit5890, n_lit46656, n_add, n_mul, n_sub, n_lt_t, n_lt_f, n_le_t, n_le_f, n_eq_t, n_eq_f, n_clamp, n_in_t, ax_sm_s, true_and, and_true, not_true_eq_false, not_false_eq_true, true_imp, false_imp, imp_true, and_self, ax_wI_2, ax_rI_2, ax_wI_t, ax_wI_n, ax_rI_t, ax_rI_n, n_up_t, n_up_n, ne_eq, or_true, true_or, false_or, or_false, some_ex, n_none1, n_none2, ite_true, ite_false]) w⟩
      rw [qW_n (by omega) (by omega), hc.2.1, hn]
      refine s_end (Q := (s, ((nw A).2 p).2.1, fun j => if j % 8 < 6 then qr (mn g (j / 8) a.toInt64 b.toInt64 c.toInt64 d'.toInt64 (j % 8)) q.toInt64 else g j)) hd hp rfl (fun b b1 b2 b3 => qW_n b2 b3) rfl hl (fun z => ⟨hc12, ?_, ?_, fun j hj => ?_⟩) fun C2 hC => ⟨rfl, hC⟩
      · rw [qW_n (by omega) (by omega), hc.2.1, hn]
      · rw [qW_n (by omega) (by omega)]; exact hc.2.2.1
      · rw [qW_row (by omega)]; exact hv z j hj
    | succ m ih =>
      intro s G h' hs hl hG hv
      refine h65 _ _ _ ⟨hP.1, ?_⟩
      rw [qW_n (by omega) (by omega), hc.2.1, hn]
      refine ⟨fun w => n_absurd w (by simp (disch := omega) only [n_lit0, n_lit1, n_lit2, n_lit3, n_lit4, n_lit5, n_lit6, n_lit7, n_lit8, n_lit9, n_lit10, n_lit11, n_lit12, n_lit13, n_lit14, n_lit15, n_lit16, n_lit17, n_lit18, n_lit19, n_lit20, n_lit21, n_lit22, n_lit23, n_lit24, n_lit30, n_lit31, n_lit32, n_lit45, n_lit48, n_lit49, n_lit57, n_lit59, n_lit60, n_lit67, n_lit76, n_lit77, n_lit90, n_lit96, n_lit97, n_lit98, n_lit99, n_lit100, n_lit119, n_lit120, n_lit127, n_lit128, n_lit196, n_lit200, n_lit208, n_lit294, n_lit340, n_lit341, n_lit392, n_lit490, n_lit491, n_lit500, n_lit588, n_lit589, n_lit999, n_lit1178, n_lit5301, n_lit5890, n_lit46656, n_add, n_mul, n_sub, n_lt_t, n_lt_f, n_le_t, n_le_f, n_eq_t, n_eq_f, n_clamp, n_in_t, ax_sm_s, true_and, and_true, not_true_eq_false, not_false_eq_true, true_imp, false_imp, imp_true, and_self, ax_wI_2, ax_rI_2, ax_wI_t, ax_wI_n, ax_rI_t, ax_rI_n, n_up_t, n_up_n, ne_eq, or_true, true_or, false_or, or_false, some_ex, n_none1, n_none2, ite_true, ite_false]), fun _ => ⟨dS_8 hd, ?_⟩⟩
      show ax_CV l D mt_X3_mapNode [_, _, _, _, _, _, _, ax_r (C1.2.2 B 3)] S _ _
      rw [dS_L hd]
      refine (c_mapNode (C := qW C1 (d + 2 + 2 * σ p) G (B + 173) h') hP (by omega) hl rfl (by omega) hq0 (fun u v => q_i4 (fc_b ha) (fc_b hb)) (fun u v => q_i4 (fc_b hcc) (fc_b hdd'))).mono ?_
      rintro C2 ⟨G2, h2, rfl, hl2, hG2, hv2⟩
      have e8 : ∀ f, f < 8 → G (8 * s + f) = g (8 * s + f) := fun f hf => by rw [hG _ (by omega)]; exact hR _ (by omega)
      rw [qW_row (by omega), mT_l e8 6 (by omega)] at hl2 hv2
      rw [qW_row (by omega)] at hG2
      rw [qW_qW (by omega)] at hl2 ⊢
      rw [n_succ]
      refine ih (s + 1) G2 h2 (by omega) hl2 (fun j hj => ?_) fun z j hj => ?_
      · rw [hG2 j (by omega), hG j (by omega)]
      · have z1 : mT g s a.toInt64 b.toInt64 c.toInt64 d'.toInt64 q.toInt64 (tfT g a.toInt64 b.toInt64 c.toInt64 d'.toInt64 q.toInt64 s) 6 = 0 := z
        by_cases w : j < 8 * s
        · rw [hG2 j (by omega)]; exact hv (mT_v z1) j w
        · by_cases w2 : j < 8 * s + 6
          · obtain ⟨f, rfl⟩ : ∃ f, j = 8 * s + f := ⟨j - 8 * s, by omega⟩
            rw [hv2 z1 f (by omega), if_pos (by omega), mn_l e8 (by omega), show (8 * s + f) / 8 = s by omega, show (8 * s + f) % 8 = f by omega]
          · rw [hG2 j (by omega), hG j (by omega), if_neg (by omega)]; exact hR _ (by omega)
  have := loop n 0 (C1.1 (d + 2 + 2 * σ p + 1)) (C1.1 (B + 173)) (by omega) (by rw [qW_self]; exact hd.2.2.2.2.2) (fun _ _ => rfl) (fun _ j hj => by omega)
  rw [qW_self] at this
  exact this
theorem o_shift {x1 dx dy : Int32} (h : cls S E C B A) (hok : okV (nw A)) : ax_CI l D mt_X7_shift [ax_r (some B), ax_i x1, ax_i dx, ax_i dy] S C (oP S E B A (F_shift (nw A) x1 dx dy)) := by
  unfold F_shift
  refine vc_X7_shift (cls_8 h) fun P38 h38 => s_pt h (fun C' hC e => by rw [e]; exact ⟨rfl, hC⟩) fun C1 τ pr d σ p hd hp hx e => ?_
  obtain ⟨hP, hc, sk⟩ := dS_p hd hp
  have hdd := dS_d hd
  have hc12 := hc.1
  have hR := va_cp hc
  rw [e]
  rw [e] at h38
  refine c_isLength.use ?_
  unfold ln at h38 ⊢
  cases ha : bt dx (-200) 200
  · exact ⟨fun _ => ⟨rfl, dS_cls hd⟩, fun w => absurd rfl w⟩
  refine ⟨fun w => absurd w (by decide), fun _ => c_isLength.use ?_⟩
  cases hb : bt dy (-200) 200
  · exact ⟨fun w => absurd rfl w, fun _ => ⟨rfl, dS_cls hd⟩⟩
  refine ⟨fun _ => ?_, fun w => absurd w (by decide)⟩
  rw [ha, hb, if_neg (by decide)] at h38
  generalize hn : ((nw A).2 p).1 = n at *
  generalize hg : ((nw A).2 p).2.2 = g at *
  generalize dx * 46656 = X at *
  generalize dy * 46656 = Y at *
  have loop : ∀ (m s : Nat) (G h' : Nat → Int32), s + m = n → lA S (qW C1 (d + 2 + 2 * σ p) G (B + 173) h') (B + 173) (shT g X Y s) → (∀ j, 8 * s ≤ j → G j = C1.1 (d + 2 + 2 * σ p + 1) j) → (shT g X Y s = 0 → ∀ j, j < 8 * s → G j = if j % 8 < 2 then mvG g (j / 8) X Y j else g j) → P38 (some (d + 2 + 2 * σ p)) (nI s) (qW C1 (d + 2 + 2 * σ p) G (B + 173) h') := by
    intro m
    induction m with
    | zero =>
      intro s G h' hs hl hG hv
      have : s = n := by omega
      subst this
      refine h38 _ _ _ ⟨hP.1, ?_⟩
      rw [qW_n (by omega) (by omega), hc.2.1, hn]
      refine ⟨fun _ => ⟨hP.1, ?_⟩, fun w => n_absurd (by simp (disch := omega) only [n_lit0, n_lit1, n_lit2, n_lit3, n_lit4, n_lit5, n_lit6, n_lit7, n_lit8, n_lit9, n_lit10, n_lit11, n_lit12, n_lit13, n_lit14, n_lit15, n_lit16, n_lit17, n_lit18, n_lit19, n_lit20, n_lit21, n_lit22, n_lit23, n_lit24, n_lit30, n_lit31, n_lit32, n_lit45, n_lit48, n_lit49, n_lit57, n_lit59, n_lit60, n_lit67, n_lit76, n_lit77, n_lit90, n_lit96, n_lit97, n_lit98, n_lit99, n_lit100, n_lit119, n_lit120, n_lit127, n_lit128, n_lit196, n_lit200, n_lit208, n_lit294, n_lit340, n_lit341, n_lit392, n_lit490, n_lit491, n_lit500, n_lit588, n_lit589, n_lit999, n_lit1178, n_lit5301, n_lit5890, n_lit46656, n_add, n_mul, n_sub, n_lt_t, n_lt_f, n_le_t, n_le_f, n_eq_t, n_eq_f, n_clamp, n_in_t, ax_sm_s, true_and, and_true, not_true_eq_false, not_false_eq_true, true_imp, false_imp, imp_true, and_self, ax_wI_2, ax_rI_2, ax_wI_t, ax_wI_n, ax_rI_t, ax_rI_n, n_up_t, n_up_n, ne_eq, or_true, true_or, false_or, or_false, some_ex, n_none1, n_none2, ite_true, ite_false]) w⟩
      rw [qW_n (by omega) (by omega), hc.2.1, hn]
      refine s_end (Q := (s, ((nw A).2 p).2.1, fun j => if j % 8 < 2 then mvG g (j / 8) X Y j else g j)) hd hp rfl (fun b b1 b2 b3 => qW_n b2 b3) rfl hl (fun z => ⟨hc12, ?_, ?_, fun j hj => ?_⟩) fun C2 hC => ⟨rfl, hC⟩
      · rw [qW_n (by omega) (by omega), hc.2.1, hn]
      · rw [qW_n (by omega) (by omega)]; exact hc.2.2.1
      · rw [qW_row (by omega)]; exact hv z j hj
    | succ m ih =>
      intro s G h' hs hl hG hv
      refine h38 _ _ _ ⟨hP.1, ?_⟩
      rw [qW_n (by omega) (by omega), hc.2.1, hn]
      refine ⟨fun w => n_absurd w (by simp (disch := omega) only [n_lit0, n_lit1, n_lit2, n_lit3, n_lit4, n_lit5, n_lit6, n_lit7, n_lit8, n_lit9, n_lit10, n_lit11, n_lit12, n_lit13, n_lit14, n_lit15, n_lit16, n_lit17, n_lit18, n_lit19, n_lit20, n_lit21, n_lit22, n_lit23, n_lit24, n_lit30, n_lit31, n_lit32, n_lit45, n_lit48, n_lit49, n_lit57, n_lit59, n_lit60, n_lit67, n_lit76, n_lit77, n_lit90, n_lit96, n_lit97, n_lit98, n_lit99, n_lit100, n_lit119, n_lit120, n_lit127, n_lit128, n_lit196, n_lit200, n_lit208, n_lit294, n_lit340, n_lit341, n_lit392, n_lit490, n_lit491, n_lit500, n_lit588, n_lit589, n_lit999, n_lit1178, n_lit5301, n_lit5890, n_lit46656, n_add, n_mul, n_sub, n_lt_t, n_lt_f, n_le_t, n_le_f, n_eq_t, n_eq_f, n_clamp, n_in_t, ax_sm_s, true_and, and_true, not_true_eq_false, not_false_eq_true, true_imp, false_imp, imp_true, and_self, ax_wI_2, ax_rI_2, ax_wI_t, ax_wI_n, ax_rI_t, ax_rI_n, n_up_t, n_up_n, ne_eq, or_true, true_or, false_or, or_false, some_ex, n_none1, n_none2, ite_true, ite_false]), fun _ => ⟨dS_8 hd, ?_⟩⟩
      show ax_CV l D mt_X3_moveBy [_, _, _, _, ax_r (C1.2.2 B 3)] S _ _
      rw [dS_L hd]
      refine (c_moveBy (C := qW C1 (d + 2 + 2 * σ p) G (B + 173) h') hP (by omega) hl rfl (by omega)).mono ?_
      rintro C2 ⟨v0, v1, h2, rfl, hl2, hv2⟩
      have e0 : G (8 * s + 0) = g (8 * s + 0) := by rw [hG _ (by omega)]; exact hR _ (by omega)
      have e1 : G (8 * s + 1) = g (8 * s + 1) := by rw [hG _ (by omega)]; exact hR _ (by omega)
      rw [qW_row (by omega), e0, e1] at hl2 hv2
      rw [qW_qW (by omega)] at hl2
      rw [qW_row (by omega), qW_qW (by omega)]
      rw [n_succ]
      refine ih (s + 1) _ h2 (by omega) hl2 (fun j hj => ?_) fun z j hj => ?_
      · rw [n_up_n (by omega), n_up_n (by omega), hG j (by omega)]
      · have z1 : mvT g s X Y (shT g X Y s) = 0 := z
        have hv3 := hv2 z1
        rw [hv3.1, hv3.2]
        by_cases w : j < 8 * s
        · rw [n_up_n (by omega), n_up_n (by omega)]; exact hv (mvT_0 z1) j w
        · by_cases w2 : j < 8 * s + 2
          · rw [if_pos (by omega), show j / 8 = s by omega]
            unfold mvG
            by_cases w3 : j = 8 * s + 1
            · rw [n_up_t w3, n_up_t w3]
            · rw [n_up_n w3, n_up_n w3, n_up_t (by omega), n_up_t (by omega)]
          · rw [n_up_n (by omega), n_up_n (by omega), hG j (by omega), if_neg (by omega)]; exact hR _ (by omega)
  have := loop n 0 (C1.1 (d + 2 + 2 * σ p + 1)) (C1.1 (B + 173)) (by omega) (by rw [qW_self]; exact hd.2.2.2.2.2) (fun _ _ => rfl) (fun _ j hj => by omega)
  rw [qW_self] at this
  exact this
/-- two paths of a picture are changed -/
theorem sh_set2 {C' : ax_C} {d p o : Nat} {σ : Nat → Nat} {V : ab_V} {Q Q2 : ab_P} (h0 : ps S C d σ) (h : sh C d σ V) (hp : p < V.1) (ho : o < V.1) (hpo : p ≠ o) (hf : ∀ b, d ≤ b → b < d + 14 → b ≠ d + 2 + 2 * σ p → b ≠ d + 2 + 2 * σ p + 1 → b ≠ d + 2 + 2 * σ o → b ≠ d + 2 + 2 * σ o + 1 → C'.1 b = C.1 b) (hQ : cP C' (d + 2 + 2 * σ p) Q) (hQ2 : cP C' (d + 2 + 2 * σ o) Q2) : sh C' d σ (setP (setP V o Q2) p Q) := by
  have hV := h.1
  refine ⟨h.1, by rw [hf d (by omega) (by omega) (by omega) (by omega) (by omega) (by omega)]; exact h.2.1, fun j hj => ?_⟩
  have hj : j < V.1 := hj
  show cP C' _ (va_up (va_up V.2 o Q2) p Q j)
  by_cases z : j = p
  · rw [z, n_up_t rfl]; exact hQ
  · rw [n_up_n z]
    by_cases z2 : j = o
    · rw [z2, n_up_t rfl]; exact hQ2
    · rw [n_up_n z2]
      have a1 := ps_1 (k := j) h0 (by omega)
      have a2 := ps_3 h0 (j := j) (k := p) (by omega) (by omega) z
      have a3 := ps_3 h0 (j := j) (k := o) (by omega) (by omega) z2
      exact cP_fr (h.2.2 j hj) (hf _ (by omega) (by omega) (by omega) (by omega) (by omega) (by omega)) (hf _ (by omega) (by omega) (by omega) (by omega) (by omega) (by omega))
theorem o_join {x1 x2 : Int32} (h : cls S E C B A) (hok : okV (nw A)) : ax_CI l D mt_X7_join [ax_r (some B), ax_i x1, ax_i x2] S C (oP S E B A (F_join (nw A) x1 x2)) := by
  refine vc_X7_join (cls_8 h) fun P42 P77 P87 P120 P142 P168 h42 h77 h87 h120 h142 h168 => s_start h fun C1 τ pr d σ hd => s_path hd (fun p hp hx hi => s_path hd (fun o ho hx2 hi2 => ?_) fun hi2 => ?_) fun hi => s_path hd (fun o ho hx2 hi2 => ?_) fun hi2 => ?_
  · refine ⟨fun q => (by cases q), fun b hb => ⟨fun b2 hb2 => ?_, fun q => by cases q⟩⟩
    simp only [F_join, onP, hi, hi2] at h87 h120 h168
    obtain ⟨hP, hc, sk⟩ := dS_p hd hp
    obtain ⟨hQ, hc2, sk2⟩ := dS_p hd ho
    have hdd := dS_d hd
    have hc12 := hc.1
    have hc122 := hc2.1
    have hR := va_cp hc
    have hR2 := va_cp hc2
    have n1 := (hok.2 p hp).1
    have m1 := (hok.2 o ho).1
    have hV6 := hd.2.2.2.2.1.1
    have adr : p ≠ o → σ p ≠ σ o := ps_3 hd.2.2.2.1 (by omega) (by omega)
    have hms : ms (C1.1 (d + 2 + 2 * σ p + 1)) ((nw A).2 p).1 (C1.1 (d + 2 + 2 * σ o + 1)) = ms ((nw A).2 p).2.2 ((nw A).2 p).1 ((nw A).2 o).2.2 := ms_c hR hR2 n1 m1
    -- the end
    have b142 : ∀ Cm : ax_C, ((nw A).2 p).2.1 = false → ((nw A).2 o).2.1 = false → jn (nw A) p o ≤ 12 → (p = o → 2 ≤ jn (nw A) p o) → (∀ b, b ≠ d + 2 + 2 * σ p → b ≠ d + 2 + 2 * σ p + 1 → b ≠ d + 2 + 2 * σ o → b ≠ d + 2 + 2 * σ o + 1 → Cm.1 b = C1.1 b) → Cm.2 = C1.2 → Cm.1 (d + 2 + 2 * σ p) 1 = nI (j1 (nw A) p o) → (p ≠ o → Cm.1 (d + 2 + 2 * σ o) 1 = nI ((nw A).2 o).1) → Cm.1 (d + 2 + 2 * σ p) 2 = 0 → (p ≠ o → Cm.1 (d + 2 + 2 * σ o) 2 = 0) → (∀ q, q < 8 * (if p = o then j1 (nw A) p o else ((nw A).2 o).1) → Cm.1 (d + 2 + 2 * σ o + 1) q = jG (nw A) p o q) → (p ≠ o → Cm.1 (d + 2 + 2 * σ p + 1) = C1.1 (d + 2 + 2 * σ p + 1)) → P142 (some d) (some (d + 2 + 2 * σ p)) (some (d + 2 + 2 * σ o)) (if p = o then 1 else 0) (nI (jn (nw A) p o)) Cm := by
      intro Cm cl1 cl2 hle12 hle2 f1 f2 s1 s2 z1 z2 rw' r1
      have hnp : ¬ (((nw A).2 p).2.1 = true ∨ ((nw A).2 o).2.1 = true ∨ (p = o ∧ jn (nw A) p o < 2)) := by
        rw [cl1, cl2]
        rintro (w | w | w)
        · cases w
        · cases w
        · have := hle2 w.1; omega
      rw [if_neg hnp, if_neg (by omega)] at h168
      refine h142 _ _ _ _ _ _ ⟨fun w => ?_, fun w => ?_⟩
      · have hpo : p ≠ o := fun z => by rw [if_pos z] at w; exact absurd w (by decide)
        have hso := adr hpo
        have hjn : jn (nw A) p o = j1 (nw A) p o + ((nw A).2 o).1 := by
          unfold jn j1
          rw [if_neg hpo]
          split <;> omega
        have hj1 : j1 (nw A) p o ≤ ((nw A).2 p).1 := by unfold j1; split <;> omega
        rw [if_neg hpo] at rw' h168
        refine (c_addNodesOf (C := Cm) (pA_2 hP (by rw [f2])) (pA_2 hQ (by rw [f2])) (by omega) (by omega) (by omega) s1 (s2 hpo) (by omega)).use ?_
        generalize hG : (fun q => if 8 * j1 (nw A) p o ≤ q ∧ q < 8 * (j1 (nw A) p o + ((nw A).2 o).1) then Cm.1 (d + 2 + 2 * σ o + 1) (q - 8 * j1 (nw A) p o) else Cm.1 (d + 2 + 2 * σ p + 1) q) = G
        have psm : ps S (pW Cm (d + 2 + 2 * σ p) G (nI (j1 (nw A) p o + ((nw A).2 o).1)) (Cm.1 (d + 2 + 2 * σ p) 2)) d σ := ps_e hd.2.2.2.1 f2
        have shm : sh (pW Cm (d + 2 + 2 * σ p) G (nI (j1 (nw A) p o + ((nw A).2 o).1)) (Cm.1 (d + 2 + 2 * σ p) 2)) d σ (setP (setP (nw A) o (((nw A).2 o).1, false, jG (nw A) p o)) p (jn (nw A) p o, false, fun q => if q < 8 * j1 (nw A) p o then ((nw A).2 p).2.2 q else jG (nw A) p o (q - 8 * j1 (nw A) p o))) := by
          refine sh_set2 hd.2.2.2.1 hd.2.2.2.2.1 hp ho hpo (fun b b1 b2 b3 b4 b5 b6 => by rw [pW_n b3 b4]; exact f1 b b3 b4 b5 b6) ⟨hle12, by rw [pW_s, hjn], by rw [pW_c]; exact z1, fun q hq => ?_⟩ ⟨hc122, ?_, ?_, fun q hq => ?_⟩
          · have hq : q < 8 * jn (nw A) p o := hq
            rw [pW_row, ← hG]
            dsimp only
            by_cases y : q < 8 * j1 (nw A) p o
            · rw [if_pos y, if_neg (by omega), r1 hpo]; exact hR q (by omega)
            · rw [if_neg y, if_pos (by omega)]; exact rw' _ (by omega)
          · rw [pW_n (by omega) (by omega)]; exact s2 hpo
          · rw [pW_n (by omega) (by omega)]; exact z2 hpo
          · rw [pW_n (by omega) (by omega)]; exact rw' q hq
        refine (c_dropPath psm shm hx2 ho).mono ?_
        rintro C18 ⟨e1, e3, e2, σ', hps', hsh'⟩
        rw [rmP_set2 hpo] at hsh'
        refine h168 _ _ ?_
        refine s_end2 (pr := pr) ?_ hd.2.1 (lA_fr hd.2.2.2.2.2 ?_) ⟨σ', hps', hsh'⟩ fun C2 hC => ⟨rfl, hC⟩
        · refine dS_z hd (fun b b1 b2 => ?_) (fun b b1 => ?_) hps'
          · rw [e1 b (by omega), pW_n (by omega) (by omega)]; exact f1 b (by omega) (by omega) (by omega) (by omega)
          · rw [e2 b (by omega)]
            show Cm.2.2 b = _
            rw [f2]
        · rw [e1 _ (by omega), pW_n (by omega) (by omega)]; exact f1 _ (by omega) (by omega) (by omega) (by omega)
      · have hpo : p = o := Classical.byContradiction fun z => by rw [if_neg z] at w; exact w rfl
        subst hpo
        rw [if_pos rfl] at rw' h168
        have hjn : jn (nw A) p p = j1 (nw A) p p := by
          unfold jn j1
          rw [if_pos rfl]
          split <;> omega
        refine ⟨Or.inr rfl, hP.1, h168 _ _ ?_⟩
        refine s_end (t2 := 0) (Q := (jn (nw A) p p, true, jG (nw A) p p)) hd hp rfl (fun b b1 b2 b3 => ?_) (by show Cm.2.2 = _; rw [f2]) (lA_fr hd.2.2.2.2.2 ?_) (fun z => ⟨hle12, ?_, ?_, fun q hq => ?_⟩) fun C2 hC => ⟨rfl, hC⟩
        · rw [ax_wI_n b1]; exact f1 b b1 b2 b1 b2
        · rw [ax_wI_n (by omega)]; exact f1 _ (by omega) (by omega) (by omega) (by omega)
        · rw [ax_wI_t rfl, n_up_n (by omega), s1, hjn]
        · rw [ax_wI_t rfl, n_up_t rfl]; rfl
        · have hq : q < 8 * jn (nw A) p p := hq
          rw [ax_wI_n (by omega)]; exact rw' q (by omega)
    -- room; the merge
    have b120 : ((nw A).2 p).2.1 = false → ((nw A).2 o).2.1 = false → (p = o → 2 ≤ jn (nw A) p o) → P120 (some d) (some (d + 2 + 2 * σ p)) (some (d + 2 + 2 * σ o)) (if p = o then 1 else 0) (bI (ms ((nw A).2 p).2.2 ((nw A).2 p).1 ((nw A).2 o).2.2)) (nI (jn (nw A) p o)) C1 := by
      intro cl1 cl2 hle2
      have hjl : jn (nw A) p o ≤ 24 := by unfold jn; split <;> omega
      have hnp : ¬ (((nw A).2 p).2.1 = true ∨ ((nw A).2 o).2.1 = true ∨ (p = o ∧ jn (nw A) p o < 2)) := by
        rw [cl1, cl2]
        rintro (w | w | w)
        · cases w
        · cases w
        · have := hle2 w.1; omega
      rw [if_neg hnp] at h120
      refine h120 _ _ _ _ _ _ _ ⟨fun w => ⟨fun w2 => ?_, fun w2 => ?_⟩, fun w => ?_⟩
      · have hle12 : jn (nw A) p o ≤ 12 := by
          rcases Nat.lt_or_ge 12 (jn (nw A) p o) with y | y
          · exact absurd w (nI_ge (a := 12) y (by omega))
          · exact y
        have hmf : ms ((nw A).2 p).2.2 ((nw A).2 p).1 ((nw A).2 o).2.2 = false := by rw [bI_0] at w2; exact w2
        refine b142 C1 cl1 cl2 hle12 hle2 (fun _ _ _ _ _ => rfl) rfl ?_ (fun _ => hc2.2.1) (by rw [hc.2.2.1, cl1]; rfl) (fun _ => by rw [hc2.2.2.1, cl2]; rfl) (fun q hq => ?_) fun _ => rfl
        · rw [hc.2.1]; unfold j1; rw [if_neg (by rw [hmf]; decide)]
        · unfold jG
          rw [if_neg (by rw [hmf]; decide)]
          refine hR2 q ?_
          have hmf2 : ¬ ms ((nw A).2 p).2.2 ((nw A).2 p).1 ((nw A).2 o).2.2 = true := by rw [hmf]; decide
          unfold j1 at hq
          rw [if_neg hmf2] at hq
          by_cases y : p = o
          · subst y; rw [if_pos rfl] at hq; exact hq
          · rw [if_neg y] at hq; exact hq
      · have hle12 : jn (nw A) p o ≤ 12 := by
          rcases Nat.lt_or_ge 12 (jn (nw A) p o) with y | y
          · exact absurd w (nI_ge (a := 12) y (by omega))
          · exact y
        have hmt : ms ((nw A).2 p).2.2 ((nw A).2 p).1 ((nw A).2 o).2.2 = true := by rw [bI_0] at w2; simpa using w2
        have hn2 : d + 2 + 2 * σ p = d + 2 + 2 * σ o → 2 ≤ ((nw A).2 p).1 := by
          intro y
          have hpo : p = o := Classical.byContradiction fun z => by have := adr z; omega
          have := hle2 hpo
          unfold jn at this
          rw [if_pos hpo, if_pos hmt] at this
          omega
        have hij : d + 2 + 2 * σ p = d + 2 + 2 * σ o ∨ (d + 2 + 2 * σ p + 1 ≠ d + 2 + 2 * σ o + 1 ∧ d + 2 + 2 * σ p ≠ d + 2 + 2 * σ o + 1) := by omega
        refine (c_mergeStart hQ hP hij hc12 n1 hn2 hc.2.1).use ?_
        refine b142 _ cl1 cl2 hle12 hle2 (fun b b1 b2 b3 b4 => by rw [ax_wI_n b1, ax_rI_n b4]) rfl ?_ (fun hpo => ?_) ?_ (fun hpo => ?_) (fun q hq => ?_) fun hpo => ?_
        · rw [ax_wI_t rfl, n_up_t rfl]; unfold j1; rw [if_pos hmt]
        · have := adr hpo
          rw [ax_wI_n (by omega), ax_rI_n (by omega)]; exact hc2.2.1
        · rw [ax_wI_t rfl, n_up_n (by omega), ax_rI_n (by omega), hc.2.2.1, cl1]; rfl
        · have := adr hpo
          rw [ax_wI_n (by omega), ax_rI_n (by omega), hc2.2.2.1, cl2]; rfl
        · have hq : q < 8 * (if p = o then j1 (nw A) p o else ((nw A).2 o).1) := hq
          rw [ax_wI_n (by omega), ax_rI_t rfl]
          unfold jG
          rw [if_pos hmt]
          refine mg_c hR2 hR m1 n1 ?_
          unfold j1 at hq
          rw [if_pos hmt] at hq
          by_cases y : p = o
          · subst y; rw [if_pos rfl] at hq; omega
          · rw [if_neg y] at hq; exact hq
        · have := adr hpo
          rw [ax_wI_n (by omega), ax_rI_n (by omega)]
      · have : 12 < jn (nw A) p o := by
          rcases Nat.lt_or_ge 12 (jn (nw A) p o) with y | y
          · exact y
          · exact absurd (nI_le y (by omega)) w
        rw [if_pos this]
        exact ⟨rfl, dS_cls hd⟩
    have b87 : ∀ t0 t1 : Int32, t0 - t1 = nI (jn (nw A) p o) → P87 (some d) (some (d + 2 + 2 * σ p)) (some (d + 2 + 2 * σ o)) (if p = o then 1 else 0) (bI (ms ((nw A).2 p).2.2 ((nw A).2 p).1 ((nw A).2 o).2.2)) t0 t1 C1 := by
      intro t0 t1 ht
      have hjl : jn (nw A) p o ≤ 24 := by unfold jn; split <;> omega
      refine h87 _ _ _ _ _ _ _ _ ⟨hP.1, fun w => ?_, fun w => ⟨hQ.1, fun w2 => ?_, fun w2 => ?_⟩⟩
      · rw [hc.2.2.1, bI_0] at w
        rw [if_pos (Or.inl (by simpa using w))]
        exact ⟨rfl, dS_cls hd⟩
      · rw [hc2.2.2.1, bI_0] at w2
        rw [if_pos (Or.inr (Or.inl (by simpa using w2)))]
        exact ⟨rfl, dS_cls hd⟩
      · rw [hc.2.2.1, bI_0] at w
        rw [hc2.2.2.1, bI_0] at w2
        rw [ht]
        refine ⟨fun y => b120 w w2 fun z => ?_, fun y => ⟨fun y2 => b120 w w2 fun z => ?_, fun y2 => ?_⟩⟩
        · rw [if_pos z] at y; exact absurd y (by decide)
        · rcases Nat.lt_or_ge (jn (nw A) p o) 2 with v | v
          · exact absurd y2 (nI_ge (b := 2) v (by omega))
          · exact v
        · have hpo : p = o := Classical.byContradiction fun z => by rw [if_neg z] at y; exact y rfl
          have : jn (nw A) p o < 2 := by
            rcases Nat.lt_or_ge (jn (nw A) p o) 2 with v | v
            · exact v
            · exact absurd (nI_le (a := 2) v (by omega)) y2
          rw [if_pos (Or.inr (Or.inr ⟨hpo, this⟩))]
          exact ⟨rfl, dS_cls hd⟩
    have b77 : ∀ t0 : Int32, t0 = nI (if p = o then ((nw A).2 p).1 else ((nw A).2 p).1 + ((nw A).2 o).1) → P77 (some d) (some (d + 2 + 2 * σ p)) (some (d + 2 + 2 * σ o)) (if p = o then 1 else 0) (bI (ms ((nw A).2 p).2.2 ((nw A).2 p).1 ((nw A).2 o).2.2)) t0 C1 := by
      intro t0 ht
      refine h77 _ _ _ _ _ _ _ ⟨fun w => b87 _ _ ?_, fun w => b87 _ _ ?_⟩
      · rw [bI_0] at w
        have hmf2 : ¬ ms ((nw A).2 p).2.2 ((nw A).2 p).1 ((nw A).2 o).2.2 = true := by rw [w]; decide
        unfold jn
        rw [if_neg hmf2, ht, n_lit0, n_sub (Nat.zero_le _)]
      · have hmt : ms ((nw A).2 p).2.2 ((nw A).2 p).1 ((nw A).2 o).2.2 = true := by rw [bI_0] at w; simpa using w
        unfold jn
        rw [if_pos hmt, ht, n_lit1, n_sub (by split <;> omega)]
    have hpo32 : (nI p = nI o) = (p = o) := propext (nI_eq (by omega) (by omega))
    rw [hx, hx2, hpo32]
    refine ⟨fun w => h42 _ _ _ _ _ ((c_endsWhereStarts hP hQ hc.2.1 hc12 n1).use ⟨fun _ => ⟨hP.1, hQ.1, ?_⟩, fun y => absurd rfl y⟩), fun w => h42 _ _ _ _ _ ((c_endsWhereStarts hP hQ hc.2.1 hc12 n1).use ⟨fun y => absurd y (by decide), fun _ => ⟨hP.1, ?_⟩⟩)⟩
    · rw [hms, hc.2.1, hc2.2.1, n_add]
      have := b77 (nI (((nw A).2 p).1 + ((nw A).2 o).1)) (by rw [if_neg w])
      rw [if_neg w] at this
      exact this
    · rw [hms, hc.2.1]
      have := b77 (nI ((nw A).2 p).1) (by rw [if_pos w])
      rw [if_pos w] at this
      exact this
  · simp only [F_join, onP, hi, hi2]
    exact ⟨fun q => (by cases q), fun b hb => ⟨fun b2 hb2 => (by cases hb2), fun _ => ⟨rfl, dS_cls hd⟩⟩⟩
  · simp only [F_join, onP, hi]
    exact ⟨fun q => ⟨rfl, dS_cls hd⟩, fun b hb => by cases hb⟩
  · simp only [F_join, onP, hi]
    exact ⟨fun q => ⟨rfl, dS_cls hd⟩, fun b hb => by cases hb⟩
end
