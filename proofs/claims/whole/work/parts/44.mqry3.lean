/-! ===== the reference's points, checksum; undo, redo, text's ends, slots ===== -/
section
variable {l : Launch} {D : ax_D} {S : ax_S} {E C : ax_C} {M : Nat} {A : ab_A}
theorem m_point {x y a b z : Int32} {o : Bool} (h : mdl S E C M A) (hok : okV (nw A)) (hz : z = bI o) : ax_CI l D mt_X8_point [ax_r (some M), ax_i x, ax_i y, ax_i a, ax_i b, ax_i z] S C (pQ S E M (Q_point (nw A) x y a b o, A)) := by
  have hK := h.1.1
  have h6 := h.2.1
  refine vc_X8_point hK.1 fun P52 h52 => s8_seg hK h.2 hok (fun p k hp hk hx hx2 hi hi2 => ⟨fun _ => c8_in.use ?_, fun q => absurd q (by decide)⟩) (fun hi => ⟨fun q => absurd rfl q, fun _ => ?_⟩) fun p hi hi2 => ⟨fun q => absurd rfl q, fun _ => ?_⟩
  · simp only [Q_point, qP, hi, hi2] at h52 ⊢
    cases hb : bt b 1 6
    · rw [if_pos (Or.inl rfl)]
      exact ⟨fun _ => ⟨rfl, h⟩, fun q => absurd rfl q⟩
    refine ⟨fun q => absurd q (by decide), fun _ => c8_in.use ?_⟩
    cases hb2 : bt a 0 b
    · rw [if_pos (Or.inr rfl)]
      exact ⟨fun q => absurd rfl q, fun _ => ⟨rfl, h⟩⟩
    rw [if_neg (by rw [hb, hb2]; decide)] at h52
    obtain ⟨b1, b2, b3⟩ := bt_n (lo := 1) (hi := 6) (by omega) (by omega) hb
    have hcu : ¬ cu b = 0 := by
      have : b.toInt.toNat = 1 ∨ b.toInt.toNat = 2 ∨ b.toInt.toNat = 3 ∨ b.toInt.toNat = 4 ∨ b.toInt.toNat = 5 ∨ b.toInt.toNat = 6 := by omega
      rcases this with w | w | w | w | w | w <;> rw [b3, w] <;> decide
    obtain ⟨h12, w2, w3, w4⟩ := h.2.2.2 p hp
    have hkn : k < ((nw A).2 p).1 := by
      unfold sg at hk
      split at hk <;> omega
    have he : eo ((nw A).2 p).1 k < ((nw A).2 p).1 := by unfold eo; split <;> omega
    refine ⟨fun _ => (c8_controls' hK hx (by omega) hx2 hkn h12 w2).mono ?_, fun q => absurd q (by decide)⟩
    rintro C2 ⟨cc, rfl, hcc⟩
    have hM := mdl_9c (f := cc) h
    have k9 := hK.2.2.2.2.2.2.2.2.2.1
    have r9 : (ax_rI C (M + 9) cc).2.2 M 13 = some (M + 9) := k9.2.2
    have rd : (ax_rI C (M + 9) cc).1 (M + 9) = cc := ax_rI_t rfl
    have okp := hok.2 p hp
    have hct : ∀ ax w, ax < 2 → w < 4 → cc (4 * ax + w) = ct ((nw A).2 p).2.2 ((nw A).2 p).1 k w ax := fun ax w h1 h2 => by
      rw [hcc ax w h1 h2]; exact ct_c w4 hkn h1
    have b52 : ∀ ax X, ax < 2 → X = nI (4 * ax) → (if o = true then 1 else 0) = ax → P52 X (ax_rI C (M + 9) cc) := by
      intro ax X hax hX hO
      subst hX
      rw [hO] at h52
      have c0 : (cc (4 * ax)).toInt64 = (((nw A).2 p).2.2 (8 * k + (0 + ax))).toInt64 := by
        have := hct ax 0 hax (by omega)
        unfold ct at this
        rw [if_pos rfl] at this
        rw [show 4 * ax = 4 * ax + 0 from rfl, this, Nat.zero_add]
      have c1 : (cc (4 * ax + 1)).toInt64 = v_p1 ((nw A).2 p).2.2 k ax := by
        have := hct ax 1 hax (by omega)
        unfold ct at this
        rw [if_neg (by omega), if_pos rfl] at this
        unfold v_p1
        rw [this, b_add (ok_c okp hkn (by omega)) (ok_c okp hkn (by omega)), Nat.zero_add]
      have c2 : (cc (4 * ax + 2)).toInt64 = v_p2 ((nw A).2 p).2.2 (eo ((nw A).2 p).1 k) ax := by
        have := hct ax 2 hax (by omega)
        unfold ct at this
        rw [if_neg (by omega), if_neg (by omega), if_pos rfl] at this
        unfold v_p2
        rw [this, b_add (ok_c okp he (by omega)) (ok_c okp he (by omega)), Nat.zero_add]
      have c3 : (cc (4 * ax + 3)).toInt64 = (((nw A).2 p).2.2 (8 * eo ((nw A).2 p).1 k + (0 + ax))).toInt64 := by
        have := hct ax 3 hax (by omega)
        unfold ct at this
        rw [if_neg (by omega), if_neg (by omega), if_neg (by omega)] at this
        rw [this, Nat.zero_add]
      refine h52 _ _ ⟨hK.1, ?_⟩
      rw [r9, n_succ, n_lit2, n_lit3, n_add, n_add]
      refine ⟨k9.1, mc_in hK (by omega), hK.1, k9.1, mc_in hK (by omega), ?_⟩
      rw [n_clamp (n := 4 * ax) (by omega), n_clamp (n := 4 * ax + 1) (by omega), n_clamp (n := 4 * ax + 2) (by omega), n_clamp (n := 4 * ax + 3) (by omega), rd, c0, c1]
      refine vc_X8_between ⟨hK.1, ?_⟩
      rw [r9]
      refine ⟨k9.1, mc_in hK (by omega), hK.1, k9.1, mc_in hK (by omega), ?_⟩
      rw [rd, c1, c2]
      refine vc_X8_between ⟨hK.1, ?_⟩
      rw [r9]
      refine ⟨k9.1, mc_in hK (by omega), hK.1, k9.1, mc_in hK (by omega), ?_⟩
      rw [rd, c2, c3]
      refine vc_X8_between (vc_X8_between (vc_X8_between (vc_X8_between ⟨hcu, ?_⟩)))
      unfold ptS
      refine ⟨fun w => ⟨?_, hM⟩, fun w => ⟨hcu, ?_, hM⟩⟩
      · exact (if_neg w).symm
      · exact (if_pos w).symm
    rw [hz]
    cases o
    · exact ⟨fun _ => b52 0 0 (by omega) rfl rfl, fun q => absurd rfl q⟩
    · exact ⟨fun q => absurd q (by decide), fun _ => b52 1 4 (by omega) rfl rfl⟩
  · simp only [Q_point, qP, hi]
    exact ⟨rfl, h⟩
  · simp only [Q_point, qP, hi, hi2]
    exact ⟨rfl, h⟩
theorem m_checksum (h : mdl S E C M A) (hok : okV (nw A)) : ax_CL l D mt_X8_checksum [ax_r (some M)] S C (pQ S E M (ckS (nw A) (nw A).1, A)) := by
  have hK := h.1.1
  have hV6 := h.2.1
  refine vc_X8_checksum hK.1 fun P16 P55 P68 P153 h16 h55 h68 h153 => ⟨hK.1, ?_⟩
  rw [hK.2.1.2.2]
  refine ⟨hK.2.1.1, (mr_in (j := 0) hK (by omega)).2, ?_⟩
  rw [ez8, h.2.2.1]
  refine vc_X8_more ?_
  have loop : ∀ (m p : Nat) (C1 : ax_C), mdl S E C1 M A → p + m = (nw A).1 → P16 (ckS (nw A) p) (nI p) C1 := by
    intro m
    induction m with
    | zero =>
      intro p C1 h1 hp
      have : p = (nw A).1 := by omega
      subst this
      refine h16 _ _ _ ⟨hK.1, ?_⟩
      rw [h1.1.1.2.1.2.2]
      refine ⟨hK.2.1.1, (mr_in (j := 0) hK (by omega)).2, ?_⟩
      rw [ez8, h1.2.2.1]
      exact ⟨fun _ => ⟨rfl, h1⟩, fun q => n_absurd (by simp (disch := omega) only [n_lit0, n_lit1, n_lit2, n_lit3, n_lit4, n_lit5, n_lit6, n_lit7, n_lit8, n_lit9, n_lit10, n_lit11, n_lit12, n_lit13, n_lit14, n_lit15, n_lit16, n_lit17, n_lit18, n_lit19, n_lit20, n_lit21, n_lit22, n_lit23, n_lit24, n_lit30, n_lit31, n_lit32, n_lit45, n_lit48, n_lit49, n_lit57, n_lit59, n_lit60, n_lit67, n_lit76, n_lit77, n_lit90, n_lit96, n_lit97, n_lit98, n_lit99, n_lit100, n_lit119, n_lit120, n_lit127, n_lit128, n_lit196, n_lit200, n_lit208, n_lit294, n_lit340, n_lit341, n_lit392, n_lit490, n_lit491, n_lit500, n_lit588, n_lit589, n_lit999, n_lit1178, n_lit5301, n_lit5890, n_lit46656, n_add, n_mul, n_sub, n_lt_t, n_lt_f, n_le_t, n_le_f, n_eq_t, n_eq_f, n_clamp, n_in_t, ax_sm_s, true_and, and_true, not_true_eq_false, not_false_eq_true, true_imp, false_imp, imp_true, and_self, ax_wI_2, ax_rI_2, ax_wI_t, ax_wI_n, ax_rI_t, ax_rI_n, n_up_t, n_up_n, ne_eq, or_true, true_or, false_or, or_false, some_ex, n_none1, n_none2, ite_true, ite_false]) q⟩
    | succ m ih =>
      intro p C1 h1 hp
      have hn1 := (hok.2 p (by omega)).1
      have nx : ∀ C2, mdl S E C2 M A → P16 (hP1 ((nw A).2 p).2.2 ((nw A).2 p).1 ((nw A).2 p).2.1 (ckS (nw A) p)) (nI (p + 1)) C2 := fun C2 h2 => ih (p + 1) C2 h2 (by omega)
      unfold hP1 at nx
      generalize hst : ((ckS (nw A) p) * 31 + (nI ((nw A).2 p).1).toInt64) * 31 + (bI ((nw A).2 p).2.1).toInt64 = st at *
      have nodes : ∀ (c k : Nat) (C2 : ax_C), mdl S E C2 M A → k + c = ((nw A).2 p).1 → P55 (hS ((nw A).2 p).2.2 st k) (nI p) (nI k) C2 := by
        intro c
        induction c with
        | zero =>
          intro k C2 h2 hk
          have : k = ((nw A).2 p).1 := by omega
          subst this
          obtain ⟨h12, w2, w3, w4⟩ := h2.2.2.2 p (by omega)
          refine h55 _ _ _ _ ((c8_many h2.1.1 rfl (by omega)).use ?_)
          rw [w2]
          refine ⟨fun _ => (c8_isShut h2.1.1 rfl (by omega) w3).use ?_, fun q => n_absurd (by simp (disch := omega) only [n_lit0, n_lit1, n_lit2, n_lit3, n_lit4, n_lit5, n_lit6, n_lit7, n_lit8, n_lit9, n_lit10, n_lit11, n_lit12, n_lit13, n_lit14, n_lit15, n_lit16, n_lit17, n_lit18, n_lit19, n_lit20, n_lit21, n_lit22, n_lit23, n_lit24, n_lit30, n_lit31, n_lit32, n_lit45, n_lit48, n_lit49, n_lit57, n_lit59, n_lit60, n_lit67, n_lit76, n_lit77, n_lit90, n_lit96, n_lit97, n_lit98, n_lit99, n_lit100, n_lit119, n_lit120, n_lit127, n_lit128, n_lit196, n_lit200, n_lit208, n_lit294, n_lit340, n_lit341, n_lit392, n_lit490, n_lit491, n_lit500, n_lit588, n_lit589, n_lit999, n_lit1178, n_lit5301, n_lit5890, n_lit46656, n_add, n_mul, n_sub, n_lt_t, n_lt_f, n_le_t, n_le_f, n_eq_t, n_eq_f, n_clamp, n_in_t, ax_sm_s, true_and, and_true, not_true_eq_false, not_false_eq_true, true_imp, false_imp, imp_true, and_self, ax_wI_2, ax_rI_2, ax_wI_t, ax_wI_n, ax_rI_t, ax_rI_n, n_up_t, n_up_n, ne_eq, or_true, true_or, false_or, or_false, some_ex, n_none1, n_none2, ite_true, ite_false]) q⟩
          cases hb : ((nw A).2 p).2.1
          · rw [hb, if_neg (by decide)] at nx
            refine ⟨fun _ => h153 _ _ _ ?_, fun q => absurd rfl q⟩
            rw [n_succ]
            exact nx C2 h2
          · rw [hb, if_pos rfl] at nx
            refine ⟨fun q => absurd q (by decide), fun _ => (m_areaOf h2 hok rfl (by omega)).mono ?_⟩
            rintro r C3 ⟨rfl, h3⟩
            refine vc_X8_more (h153 _ _ _ ?_)
            rw [n_succ, hb]
            exact nx C3 h3
        | succ c ih2 =>
          intro k C2 h2 hk
          obtain ⟨h12, w2, w3, w4⟩ := h2.2.2.2 p (by omega)
          refine h55 _ _ _ _ ((c8_many h2.1.1 rfl (by omega)).use ?_)
          rw [w2]
          refine ⟨fun q => n_absurd q (by simp (disch := omega) only [n_lit0, n_lit1, n_lit2, n_lit3, n_lit4, n_lit5, n_lit6, n_lit7, n_lit8, n_lit9, n_lit10, n_lit11, n_lit12, n_lit13, n_lit14, n_lit15, n_lit16, n_lit17, n_lit18, n_lit19, n_lit20, n_lit21, n_lit22, n_lit23, n_lit24, n_lit30, n_lit31, n_lit32, n_lit45, n_lit48, n_lit49, n_lit57, n_lit59, n_lit60, n_lit67, n_lit76, n_lit77, n_lit90, n_lit96, n_lit97, n_lit98, n_lit99, n_lit100, n_lit119, n_lit120, n_lit127, n_lit128, n_lit196, n_lit200, n_lit208, n_lit294, n_lit340, n_lit341, n_lit392, n_lit490, n_lit491, n_lit500, n_lit588, n_lit589, n_lit999, n_lit1178, n_lit5301, n_lit5890, n_lit46656, n_add, n_mul, n_sub, n_lt_t, n_lt_f, n_le_t, n_le_f, n_eq_t, n_eq_f, n_clamp, n_in_t, ax_sm_s, true_and, and_true, not_true_eq_false, not_false_eq_true, true_imp, false_imp, imp_true, and_self, ax_wI_2, ax_rI_2, ax_wI_t, ax_wI_n, ax_rI_t, ax_rI_n, n_up_t, n_up_n, ne_eq, or_true, true_or, false_or, or_false, some_ex, n_none1, n_none2, ite_true, ite_false]), fun _ => ?_⟩
          have inner : ∀ (d f : Nat), f + d = 6 → P68 (h6 ((nw A).2 p).2.2 k (hS ((nw A).2 p).2.2 st k) f) (nI p) (nI k) (nI f) C2 := by
            intro d
            induction d with
            | zero =>
              intro f hf
              have : f = 6 := by omega
              subst this
              refine h68 _ _ _ _ _ ⟨fun _ => (m_ratio (o := false) h2 hok rfl).mono ?_, fun q => n_absurd (by simp (disch := omega) only [n_lit0, n_lit1, n_lit2, n_lit3, n_lit4, n_lit5, n_lit6, n_lit7, n_lit8, n_lit9, n_lit10, n_lit11, n_lit12, n_lit13, n_lit14, n_lit15, n_lit16, n_lit17, n_lit18, n_lit19, n_lit20, n_lit21, n_lit22, n_lit23, n_lit24, n_lit30, n_lit31, n_lit32, n_lit45, n_lit48, n_lit49, n_lit57, n_lit59, n_lit60, n_lit67, n_lit76, n_lit77, n_lit90, n_lit96, n_lit97, n_lit98, n_lit99, n_lit100, n_lit119, n_lit120, n_lit127, n_lit128, n_lit196, n_lit200, n_lit208, n_lit294, n_lit340, n_lit341, n_lit392, n_lit490, n_lit491, n_lit500, n_lit588, n_lit589, n_lit999, n_lit1178, n_lit5301, n_lit5890, n_lit46656, n_add, n_mul, n_sub, n_lt_t, n_lt_f, n_le_t, n_le_f, n_eq_t, n_eq_f, n_clamp, n_in_t, ax_sm_s, true_and, and_true, not_true_eq_false, not_false_eq_true, true_imp, false_imp, imp_true, and_self, ax_wI_2, ax_rI_2, ax_wI_t, ax_wI_n, ax_rI_t, ax_rI_n, n_up_t, n_up_n, ne_eq, or_true, true_or, false_or, or_false, some_ex, n_none1, n_none2, ite_true, ite_false]) q⟩
              rintro r C3 ⟨rfl, h3⟩
              refine vc_X8_more ((m_ratio (o := true) h3 hok rfl).mono ?_)
              rintro r C4 ⟨rfl, h4⟩
              refine vc_X8_more ?_
              rw [n_succ]
              have := ih2 (k + 1) C4 h4 (by omega)
              have er : ∀ o, Q_ratio (nw A) (nI p) (nI k) o = rn ((nw A).2 p).2.2 k (if o = true then 7 else 6) := fun o => by
                unfold Q_ratio qN qP
                rw [ix_some (show p < (nw A).1 by omega) (by omega)]
                dsimp only
                rw [ix_some (show k < ((nw A).2 p).1 by omega) (by omega)]
              rw [er, er]
              exact this
            | succ d ih3 =>
              intro f hf
              refine h68 _ _ _ _ _ ⟨fun q => n_absurd q (by simp (disch := omega) only [n_lit0, n_lit1, n_lit2, n_lit3, n_lit4, n_lit5, n_lit6, n_lit7, n_lit8, n_lit9, n_lit10, n_lit11, n_lit12, n_lit13, n_lit14, n_lit15, n_lit16, n_lit17, n_lit18, n_lit19, n_lit20, n_lit21, n_lit22, n_lit23, n_lit24, n_lit30, n_lit31, n_lit32, n_lit45, n_lit48, n_lit49, n_lit57, n_lit59, n_lit60, n_lit67, n_lit76, n_lit77, n_lit90, n_lit96, n_lit97, n_lit98, n_lit99, n_lit100, n_lit119, n_lit120, n_lit127, n_lit128, n_lit196, n_lit200, n_lit208, n_lit294, n_lit340, n_lit341, n_lit392, n_lit490, n_lit491, n_lit500, n_lit588, n_lit589, n_lit999, n_lit1178, n_lit5301, n_lit5890, n_lit46656, n_add, n_mul, n_sub, n_lt_t, n_lt_f, n_le_t, n_le_f, n_eq_t, n_eq_f, n_clamp, n_in_t, ax_sm_s, true_and, and_true, not_true_eq_false, not_false_eq_true, true_imp, false_imp, imp_true, and_self, ax_wI_2, ax_rI_2, ax_wI_t, ax_wI_n, ax_rI_t, ax_rI_n, n_up_t, n_up_n, ne_eq, or_true, true_or, false_or, or_false, some_ex, n_none1, n_none2, ite_true, ite_false]), fun _ => ⟨hK.1, (c8_node rfl rfl rfl).use ?_⟩⟩
              rw [h2.1.1.2.1.2.2]
              refine ⟨hK.2.1.1, (mr_in hK (by omega)).2, ?_⟩
              rw [n_clamp (by omega), w4 _ (by omega)]
              refine vc_X8_more ?_
              rw [n_succ]
              exact ih3 (f + 1) (by omega)
          exact inner 6 0 rfl
      obtain ⟨h12, w2, w3, w4⟩ := h1.2.2.2 p (by omega)
      refine h16 _ _ _ ⟨hK.1, ?_⟩
      rw [h1.1.1.2.1.2.2]
      refine ⟨hK.2.1.1, (mr_in (j := 0) hK (by omega)).2, ?_⟩
      rw [ez8, h1.2.2.1]
      refine ⟨fun q => n_absurd q (by simp (disch := omega) only [n_lit0, n_lit1, n_lit2, n_lit3, n_lit4, n_lit5, n_lit6, n_lit7, n_lit8, n_lit9, n_lit10, n_lit11, n_lit12, n_lit13, n_lit14, n_lit15, n_lit16, n_lit17, n_lit18, n_lit19, n_lit20, n_lit21, n_lit22, n_lit23, n_lit24, n_lit30, n_lit31, n_lit32, n_lit45, n_lit48, n_lit49, n_lit57, n_lit59, n_lit60, n_lit67, n_lit76, n_lit77, n_lit90, n_lit96, n_lit97, n_lit98, n_lit99, n_lit100, n_lit119, n_lit120, n_lit127, n_lit128, n_lit196, n_lit200, n_lit208, n_lit294, n_lit340, n_lit341, n_lit392, n_lit490, n_lit491, n_lit500, n_lit588, n_lit589, n_lit999, n_lit1178, n_lit5301, n_lit5890, n_lit46656, n_add, n_mul, n_sub, n_lt_t, n_lt_f, n_le_t, n_le_f, n_eq_t, n_eq_f, n_clamp, n_in_t, ax_sm_s, true_and, and_true, not_true_eq_false, not_false_eq_true, true_imp, false_imp, imp_true, and_self, ax_wI_2, ax_rI_2, ax_wI_t, ax_wI_n, ax_rI_t, ax_rI_n, n_up_t, n_up_n, ne_eq, or_true, true_or, false_or, or_false, some_ex, n_none1, n_none2, ite_true, ite_false]), fun _ => (c8_many h1.1.1 rfl (by omega)).use (vc_X8_more ⟨hK.1, (c8_path rfl).use ?_⟩)⟩
      rw [h1.1.1.2.1.2.2, n_succ]
      refine ⟨hK.2.1.1, (mr_in hK (by omega)).2, vc_X8_more ?_⟩
      rw [n_clamp (by omega), w2, show 1 + 98 * p + 1 = 2 + 98 * p by omega, w3, e31, hst]
      exact nodes ((nw A).2 p).1 0 C1 h1 (by omega)
  exact loop (nw A).1 0 C h (by omega)
theorem m_clearText (h : mdl S E C M A) : ax_CI l D mt_X8_clearText [ax_r (some M)] S C (pQ S E M (F_clear A)) := by
  obtain ⟨⟨z1, z2, z3, z4, z5, z6, z7, z8, z9⟩, hv⟩ := h
  refine vc_X8_clearText z1.1 ⟨z1.1, z1.1, z6.1, ⟨z1, ?_, ?_, ?_, ?_, ⟨?_, fun q hq => ?_⟩, ?_, ⟨?_, z8.2⟩, ?_⟩, ?_⟩
  · rw [ax_wI_t rfl, n_up_n (by omega), n_up_n (by omega)]; exact z2
  · rw [ax_wI_n (by omega)]; exact z3
  · rw [ax_wI_n (by omega)]; exact z4
  · rw [ax_wI_n (by omega), ax_wI_n (by omega)]; exact z5
  · rw [ax_wI_t rfl, n_up_t rfl]; rfl
  · have hq : q < 0 := hq
    omega
  · rw [ax_wI_t rfl, n_up_n (by omega), ax_wI_n (by omega)]; exact z7
  · show 0 ≤ 120
    omega
  · intro b hb
    rw [ax_wI_n (by omega)]
    exact z9 b hb
  · rw [ax_wI_n (by omega)]; exact hv
theorem m_append {x : Int32} (h : mdl S E C M A) : ax_CI l D mt_X8_append [ax_r (some M), ax_i x] S C (pQ S E M (F_append A x)) := by
  obtain ⟨⟨z1, z2, z3, z4, z5, z6, z7, z8, z9⟩, hv⟩ := id h
  unfold F_append
  have k7 := z1.2.2.2.2.2.2.2.1
  have h8 := z8.1
  refine vc_X8_append z1.1 (c8_in.use ?_)
  cases hb : bt x 0 127
  · exact ⟨fun q => absurd rfl q, fun _ => ⟨rfl, h⟩⟩
  rw [if_neg (by decide)]
  refine ⟨fun _ => ⟨z1.1, ?_⟩, fun q => absurd q (by decide)⟩
  rw [z6.1]
  by_cases z : A.2.2.2.2.2.2.1 = 120
  · rw [if_pos z, z]
    exact ⟨fun q => absurd rfl q, fun _ => ⟨rfl, h⟩⟩
  rw [if_neg z]
  refine ⟨fun _ => ⟨z1.1, z1.1, ?_⟩, fun q => absurd ((nI_eq (b := 120) (by omega) (by omega)).mp q) z⟩
  rw [k7.2.2]
  refine ⟨k7.1, by rw [k7.2.1]; exact vp_in_nI (by omega) (by omega), z1.1, z1.1, z1.1, ?_⟩
  rw [n_clamp (by omega), ax_wI_n (show M ≠ M + 7 by omega), z6.1, n_succ]
  refine ⟨by rw [ax_wI_t rfl, n_up_t rfl], ⟨z1, ?_, ?_, ?_, ?_, ⟨?_, fun q hq => ?_⟩, ?_, ⟨?_, z8.2⟩, ?_⟩, ?_⟩
  · rw [ax_wI_t rfl, n_up_n (by omega), n_up_n (by omega), ax_wI_n (by omega)]; exact z2
  · rw [ax_wI_n (by omega), ax_wI_n (by omega)]; exact z3
  · rw [ax_wI_n (by omega), ax_wI_n (by omega)]; exact z4
  · rw [ax_wI_n (by omega), ax_wI_n (by omega), ax_wI_n (by omega), ax_wI_n (by omega)]; exact z5
  · rw [ax_wI_t rfl, n_up_t rfl]
  · have hq : q < A.2.2.2.2.2.2.1 + 1 := hq
    rw [ax_wI_n (by omega), ax_wI_t rfl]
    show va_up _ _ _ q = va_up _ _ _ q
    by_cases w : q = A.2.2.2.2.2.2.1
    · rw [n_up_t w, n_up_t w]
    · rw [n_up_n w, n_up_n w]; exact z6.2 q (by omega)
  · rw [ax_wI_t rfl, n_up_n (by omega), ax_wI_n (by omega), ax_wI_n (by omega), ax_wI_n (by omega)]; exact z7
  · show A.2.2.2.2.2.2.1 + 1 ≤ 120
    omega
  · intro b hb
    rw [ax_wI_n (by omega), ax_wI_n (by omega)]
    exact z9 b hb
  · rw [ax_wI_n (by omega), ax_wI_n (by omega)]; exact hv
theorem m_printed {x : Int32} (h : mdl S E C M A) : ax_CI l D mt_X8_printed [ax_r (some M), ax_i x] S C (pQ S E M (Q_printed A x, A)) := by
  obtain ⟨⟨z1, z2, z3, z4, z5, z6, z7, z8, z9⟩, hv⟩ := id h
  have k8 := z1.2.2.2.2.2.2.2.2.1
  have hp := z8.2
  refine vc_X8_printed z1.1 ⟨z1.1, c8_in.use ?_⟩
  rw [z7.1, bt_ix (by omega)]
  unfold Q_printed
  cases hi : ix x A.2.2.2.2.2.2.2.2 with
  | none => exact ⟨fun _ => ⟨rfl, h⟩, fun q => absurd rfl q⟩
  | some k =>
    obtain ⟨w1, w2⟩ := ix_of (by omega) hi
    subst w2
    refine ⟨fun q => absurd q (show ¬ ((1 : Int32) = 0) by decide), fun _ => ⟨z1.1, ?_⟩⟩
    rw [k8.2.2]
    refine ⟨k8.1, by rw [k8.2.1]; exact vp_in_nI (by omega) (by omega), ?_, h⟩
    rw [n_clamp (by omega)]
    exact z7.2 k w1
end
