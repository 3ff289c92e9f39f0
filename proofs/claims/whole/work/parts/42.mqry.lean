/-! ===== the reference's other calls ===== -/
section
variable {l : Launch} {D : ax_D} {S : ax_S} {E C : ax_C} {M : Nat} {A : ab_A}
abbrev pQ {α : Type} (S : ax_S) (E : ax_C) (M : Nat) (R : α × ab_A) : α → ax_C → Prop := fun r C' => r = R.1 ∧ mdl S E C' M R.2
theorem c8_isSmooth' {p k : Nat} {x y : Int32} (h : mK S C M) (hx : x = nI p) (hp : p < 6) (hy : y = nI k) (hk : k < 12) (h0 : bk (C.1 (M + 1)) p (8 * k + 6) = 0 ∨ 0 < bk (C.1 (M + 1)) p (8 * k + 6)) : ax_CI l D mt_X8_isSmooth [ax_r (some M), ax_i x, ax_i y] S C (fun r C' => r = (if bk (C.1 (M + 1)) p (8 * k + 6) = 0 then 0 else 1) ∧ C' = C) := by
  have := c8_isSmooth (l := l) (D := D) (v := C.1 (M + 1)) (t := C.1 M 12) h hx hp hy hk h0
  rw [lf_bk, mW_self] at this
  exact this
theorem c8_controls' {p k n : Nat} {x y : Int32} (h : mK S C M) (hx : x = nI p) (hp : p < 6) (hy : y = nI k) (hk : k < n) (hn : n ≤ 12) (hv : C.1 (M + 1) (1 + 98 * p) = nI n) : ax_CV l D mt_X8_controls [ax_r (some M), ax_i x, ax_i y] S C (fun C' => ∃ cc, C' = ax_rI C (M + 9) cc ∧ ∀ ax w, ax < 2 → w < 4 → cc (4 * ax + w) = ct (bk (C.1 (M + 1)) p) n k w ax) := by
  have := c8_controls (l := l) (D := D) (v := C.1 (M + 1)) (g := bk (C.1 (M + 1)) p) (t := C.1 M 12) h hx hp hy hk hn hv
  rw [lf_bk, mW_self] at this
  refine this.mono ?_
  rintro C' ⟨cc, rfl, hcc⟩
  exact ⟨cc, by rw [← mW_9, mW_self], hcc⟩
theorem mdl_9c {f : Nat → Int32} (h : mdl S E C M A) : mdl S E (ax_rI C (M + 9) f) M A := by
  refine ⟨mO_fr h.1 (fun b b1 b2 b3 b4 b5 b6 b7 => ax_rI_n b4) rfl fun k _ => by rw [ax_rI_n (by omega)], ?_⟩
  rw [ax_rI_n (by omega)]
  exact h.2
theorem ez8 : (0 : Int32).toNatClampNeg = 0 := by decide
theorem m_paths (h : mdl S E C M A) : ax_CI l D mt_X8_paths [ax_r (some M)] S C (pQ S E M (nI (nw A).1, A)) := by
  have hK := h.1.1
  refine vc_X8_paths hK.1 ⟨hK.1, ?_⟩
  rw [hK.2.1.2.2]
  refine ⟨hK.2.1.1, (mr_in (j := 0) hK (by omega)).2, ?_, h⟩
  rw [ez8]
  exact h.2.2.1
theorem m_nodes {x : Int32} (h : mdl S E C M A) : ax_CI l D mt_X8_nodes [ax_r (some M), ax_i x] S C (pQ S E M (Q_nodes (nw A) x, A)) := by
  have hK := h.1.1
  have h6 := h.2.1
  refine vc_X8_nodes hK.1 (s8_path hK h.2 (fun p hp hx hi => ?_) fun hi => ?_)
  · simp only [Q_nodes, qP, hi]
    refine ⟨fun q => absurd q (by decide), fun _ => (c8_many hK hx (by omega)).use ⟨(h.2.2.2 p hp).2.1, h⟩⟩
  · simp only [Q_nodes, qP, hi]
    exact ⟨fun _ => ⟨rfl, h⟩, fun q => absurd trivial q⟩
theorem m_isClosed {x : Int32} (h : mdl S E C M A) : ax_CI l D mt_X8_isClosed [ax_r (some M), ax_i x] S C (pQ S E M (Q_isClosed (nw A) x, A)) := by
  have hK := h.1.1
  have h6 := h.2.1
  refine vc_X8_isClosed hK.1 (s8_path hK h.2 (fun p hp hx hi => ?_) fun hi => ?_)
  · simp only [Q_isClosed, qP, hi]
    refine ⟨fun _ => (c8_isShut hK hx (by omega) (h.2.2.2 p hp).2.2.1).use ?_, fun q => absurd q (by decide)⟩
    cases ((nw A).2 p).2.1
    · exact ⟨fun _ => ⟨rfl, h⟩, fun q => absurd rfl q⟩
    · exact ⟨fun q => absurd q (by decide), fun _ => ⟨rfl, h⟩⟩
  · simp only [Q_isClosed, qP, hi]
    exact ⟨fun q => absurd trivial q, fun _ => ⟨rfl, h⟩⟩
theorem m_coordinate {x y w : Int32} (h : mdl S E C M A) : ax_CI l D mt_X8_coordinate [ax_r (some M), ax_i x, ax_i y, ax_i w] S C (pQ S E M (Q_coordinate (nw A) x y w, A)) := by
  have hK := h.1.1
  have h6 := h.2.1
  refine vc_X8_coordinate hK.1 (s8_node hK h.2 (fun p k hp hk hx hy hi hi2 => ⟨fun _ => c8_in.use ?_, fun q => absurd q (by decide)⟩) (fun hi => ?_) fun p hi hi2 => ?_)
  · simp only [Q_coordinate, qN, qP, hi, hi2]
    obtain ⟨h12, w2, w3, w4⟩ := h.2.2.2 p hp
    cases hb : bt w 0 5
    · exact ⟨fun _ => ⟨rfl, h⟩, fun q => absurd rfl q⟩
    obtain ⟨u1, u2, u3⟩ := bt_n (lo := 0) (hi := 5) (by omega) (by omega) hb
    refine ⟨fun q => absurd q (by decide), fun _ => ⟨hK.1, (c8_node hx hy u3).use ?_⟩⟩
    rw [hK.2.1.2.2]
    refine ⟨hK.2.1.1, (mr_in hK (by omega)).2, ?_, h⟩
    rw [n_clamp (by omega), if_neg (by decide)]
    exact w4 _ (by omega)
  · simp only [Q_coordinate, qN, qP, hi]
    exact ⟨fun q => absurd trivial q, fun _ => ⟨rfl, h⟩⟩
  · simp only [Q_coordinate, qN, qP, hi, hi2]
    exact ⟨fun q => absurd trivial q, fun _ => ⟨rfl, h⟩⟩
theorem m_ratio {x y z : Int32} {o : Bool} (h : mdl S E C M A) (hok : okV (nw A)) (hz : z = bI o) : ax_CI l D mt_X8_ratio [ax_r (some M), ax_i x, ax_i y, ax_i z] S C (pQ S E M (Q_ratio (nw A) x y o, A)) := by
  have hK := h.1.1
  have h6 := h.2.1
  refine vc_X8_ratio hK.1 fun P38 h38 => s8_node hK h.2 (fun p k hp hk hx hy hi hi2 => ⟨fun _ => ?_, fun q => absurd q (by decide)⟩) (fun hi => ?_) fun p hi hi2 => ?_
  · simp only [Q_ratio, qN, qP, hi, hi2] at h38 ⊢
    obtain ⟨h12, w2, w3, w4⟩ := h.2.2.2 p hp
    have hs := ok_s (hok.2 p hp) hk
    have e6 : bk (C.1 (M + 1)) p (8 * k + 6) = ((nw A).2 p).2.2 (8 * k + 6) := w4 _ (by omega)
    refine (c8_isSmooth' hK hx (by omega) hy (by omega) (by rw [e6]; exact hs)).use ?_
    rw [e6]
    by_cases z0 : ((nw A).2 p).2.2 (8 * k + 6) = 0
    · rw [if_pos z0]
      refine ⟨fun _ => ⟨?_, h⟩, fun q => absurd rfl q⟩
      unfold rn
      rw [if_pos z0]
    · rw [if_neg z0]
      refine ⟨fun q => absurd q (by decide), fun _ => ⟨hK.1, ?_⟩⟩
      rw [hK.2.1.2.2, hz]
      have b38 : ∀ f, f < 8 → (if o = true then 7 else 6) = f → P38 (some (M + 1)) (nI f) C := by
        intro f hf hO
        rw [hO] at h38
        refine h38 _ _ _ ((c8_node hx hy rfl).use ?_)
        refine ⟨hK.2.1.1, (mr_in hK (by omega)).2, ?_, h⟩
        rw [n_clamp (by omega)]
        unfold rn
        rw [if_neg z0]
        exact w4 _ (by omega)
      cases o
      · exact ⟨fun _ => b38 6 (by omega) rfl, fun q => absurd rfl q⟩
      · exact ⟨fun q => absurd q (by decide), fun _ => b38 7 (by omega) rfl⟩
  · simp only [Q_ratio, qN, qP, hi]
    exact ⟨fun q => absurd trivial q, fun _ => ⟨rfl, h⟩⟩
  · simp only [Q_ratio, qN, qP, hi, hi2]
    exact ⟨fun q => absurd trivial q, fun _ => ⟨rfl, h⟩⟩
theorem m_find {x y : Int32} (h : mdl S E C M A) : ax_CI l D mt_X8_find [ax_r (some M), ax_i x, ax_i y] S C (pQ S E M (Q_find (nw A) x y, A)) := by
  have hK := h.1.1
  have h6 := h.2.1
  unfold Q_find
  refine vc_X8_find hK.1 fun P13 P26 P82 h13 h26 h82 => c8_isUnits.use ?_
  cases hl : ln x y
  · rw [if_pos rfl]
    exact ⟨fun q => absurd rfl q, fun _ => ⟨rfl, h⟩⟩
  rw [hl, if_neg (by decide)] at h13 h26
  refine ⟨fun _ => ?_, fun q => absurd q (by decide)⟩
  generalize x * 46656 = X at *
  generalize y * 46656 = Y at *
  have hnn : ∀ k, k < 2 ^ 31 → ¬ nI k = NO := fun k hk w => by
    have := congrArg Int32.toInt w
    rw [n_toInt hk] at this
    have e : NO.toInt = -100000007 := rfl
    omega
  have loop : ∀ (m p : Nat), p + m = (nw A).1 → fd (nw A) X Y (nw A).1 0 = fd (nw A) X Y m p → P13 (nI p) C := by
    intro m
    induction m with
    | zero =>
      intro p hp e
      refine h13 _ _ ⟨hK.1, ?_⟩
      rw [hK.2.1.2.2]
      refine ⟨hK.2.1.1, (mr_in (j := 0) hK (by omega)).2, ?_⟩
      rw [ez8, h.2.2.1]
      exact ⟨fun _ => ⟨e.symm, h⟩, fun w => n_absurd (by simp (disch := omega) only [n_lit0, n_lit1, n_lit2, n_lit3, n_lit4, n_lit5, n_lit6, n_lit7, n_lit8, n_lit9, n_lit10, n_lit11, n_lit12, n_lit13, n_lit14, n_lit15, n_lit16, n_lit17, n_lit18, n_lit19, n_lit20, n_lit21, n_lit22, n_lit23, n_lit24, n_lit30, n_lit31, n_lit32, n_lit45, n_lit48, n_lit49, n_lit57, n_lit59, n_lit60, n_lit67, n_lit76, n_lit77, n_lit90, n_lit96, n_lit97, n_lit98, n_lit99, n_lit100, n_lit119, n_lit120, n_lit127, n_lit128, n_lit196, n_lit200, n_lit208, n_lit294, n_lit340, n_lit341, n_lit392, n_lit490, n_lit491, n_lit500, n_lit588, n_lit589, n_lit999, n_lit1178, n_lit5301, n_lit5890, n_lit46656, n_add, n_mul, n_sub, n_lt_t, n_lt_f, n_le_t, n_le_f, n_eq_t, n_eq_f, n_clamp, n_in_t, ax_sm_s, true_and, and_true, not_true_eq_false, not_false_eq_true, true_imp, false_imp, imp_true, and_self, ax_wI_2, ax_rI_2, ax_wI_t, ax_wI_n, ax_rI_t, ax_rI_n, n_up_t, n_up_n, ne_eq, or_true, true_or, false_or, or_false, some_ex, n_none1, n_none2, ite_true, ite_false]) w⟩
    | succ m ih =>
      intro p hp e
      refine h13 _ _ ⟨hK.1, ?_⟩
      rw [hK.2.1.2.2]
      refine ⟨hK.2.1.1, (mr_in (j := 0) hK (by omega)).2, ?_⟩
      rw [ez8, h.2.2.1]
      refine ⟨fun w => n_absurd w (by simp (disch := omega) only [n_lit0, n_lit1, n_lit2, n_lit3, n_lit4, n_lit5, n_lit6, n_lit7, n_lit8, n_lit9, n_lit10, n_lit11, n_lit12, n_lit13, n_lit14, n_lit15, n_lit16, n_lit17, n_lit18, n_lit19, n_lit20, n_lit21, n_lit22, n_lit23, n_lit24, n_lit30, n_lit31, n_lit32, n_lit45, n_lit48, n_lit49, n_lit57, n_lit59, n_lit60, n_lit67, n_lit76, n_lit77, n_lit90, n_lit96, n_lit97, n_lit98, n_lit99, n_lit100, n_lit119, n_lit120, n_lit127, n_lit128, n_lit196, n_lit200, n_lit208, n_lit294, n_lit340, n_lit341, n_lit392, n_lit490, n_lit491, n_lit500, n_lit588, n_lit589, n_lit999, n_lit1178, n_lit5301, n_lit5890, n_lit46656, n_add, n_mul, n_sub, n_lt_t, n_lt_f, n_le_t, n_le_f, n_eq_t, n_eq_f, n_clamp, n_in_t, ax_sm_s, true_and, and_true, not_true_eq_false, not_false_eq_true, true_imp, false_imp, imp_true, and_self, ax_wI_2, ax_rI_2, ax_wI_t, ax_wI_n, ax_rI_t, ax_rI_n, n_up_t, n_up_n, ne_eq, or_true, true_or, false_or, or_false, some_ex, n_none1, n_none2, ite_true, ite_false]), fun _ => ?_⟩
      obtain ⟨h12, w2, w3, w4⟩ := h.2.2.2 p (by omega)
      have e2 : fd (nw A) X Y (m + 1) p = if nf ((nw A).2 p).2.2 X Y ((nw A).2 p).1 0 = NO then fd (nw A) X Y m (p + 1) else 100 * nI p + nf ((nw A).2 p).2.2 X Y ((nw A).2 p).1 0 := rfl
      rw [e2] at e
      have inner : ∀ (c k : Nat), k + c = ((nw A).2 p).1 → nf ((nw A).2 p).2.2 X Y ((nw A).2 p).1 0 = nf ((nw A).2 p).2.2 X Y c k → P26 (nI p) (nI k) C := by
        intro c
        induction c with
        | zero =>
          intro k hk e3
          refine h26 _ _ _ ((c8_many hK rfl (by omega)).use ?_)
          rw [w2]
          refine ⟨fun _ => ?_, fun w => n_absurd (by simp (disch := omega) only [n_lit0, n_lit1, n_lit2, n_lit3, n_lit4, n_lit5, n_lit6, n_lit7, n_lit8, n_lit9, n_lit10, n_lit11, n_lit12, n_lit13, n_lit14, n_lit15, n_lit16, n_lit17, n_lit18, n_lit19, n_lit20, n_lit21, n_lit22, n_lit23, n_lit24, n_lit30, n_lit31, n_lit32, n_lit45, n_lit48, n_lit49, n_lit57, n_lit59, n_lit60, n_lit67, n_lit76, n_lit77, n_lit90, n_lit96, n_lit97, n_lit98, n_lit99, n_lit100, n_lit119, n_lit120, n_lit127, n_lit128, n_lit196, n_lit200, n_lit208, n_lit294, n_lit340, n_lit341, n_lit392, n_lit490, n_lit491, n_lit500, n_lit588, n_lit589, n_lit999, n_lit1178, n_lit5301, n_lit5890, n_lit46656, n_add, n_mul, n_sub, n_lt_t, n_lt_f, n_le_t, n_le_f, n_eq_t, n_eq_f, n_clamp, n_in_t, ax_sm_s, true_and, and_true, not_true_eq_false, not_false_eq_true, true_imp, false_imp, imp_true, and_self, ax_wI_2, ax_rI_2, ax_wI_t, ax_wI_n, ax_rI_t, ax_rI_n, n_up_t, n_up_n, ne_eq, or_true, true_or, false_or, or_false, some_ex, n_none1, n_none2, ite_true, ite_false]) w⟩
          rw [n_succ]
          refine ih (p + 1) (by omega) ?_
          have e4 : nf ((nw A).2 p).2.2 X Y ((nw A).2 p).1 0 = NO := e3
          rw [e, if_pos e4]
        | succ c ih2 =>
          intro k hk e3
          refine h26 _ _ _ ((c8_many hK rfl (by omega)).use ?_)
          rw [w2]
          refine ⟨fun w => n_absurd w (by simp (disch := omega) only [n_lit0, n_lit1, n_lit2, n_lit3, n_lit4, n_lit5, n_lit6, n_lit7, n_lit8, n_lit9, n_lit10, n_lit11, n_lit12, n_lit13, n_lit14, n_lit15, n_lit16, n_lit17, n_lit18, n_lit19, n_lit20, n_lit21, n_lit22, n_lit23, n_lit24, n_lit30, n_lit31, n_lit32, n_lit45, n_lit48, n_lit49, n_lit57, n_lit59, n_lit60, n_lit67, n_lit76, n_lit77, n_lit90, n_lit96, n_lit97, n_lit98, n_lit99, n_lit100, n_lit119, n_lit120, n_lit127, n_lit128, n_lit196, n_lit200, n_lit208, n_lit294, n_lit340, n_lit341, n_lit392, n_lit490, n_lit491, n_lit500, n_lit588, n_lit589, n_lit999, n_lit1178, n_lit5301, n_lit5890, n_lit46656, n_add, n_mul, n_sub, n_lt_t, n_lt_f, n_le_t, n_le_f, n_eq_t, n_eq_f, n_clamp, n_in_t, ax_sm_s, true_and, and_true, not_true_eq_false, not_false_eq_true, true_imp, false_imp, imp_true, and_self, ax_wI_2, ax_rI_2, ax_wI_t, ax_wI_n, ax_rI_t, ax_rI_n, n_up_t, n_up_n, ne_eq, or_true, true_or, false_or, or_false, some_ex, n_none1, n_none2, ite_true, ite_false]), fun _ => ⟨hK.1, (c8_node rfl rfl (w := 0) rfl).use ?_⟩⟩
          rw [hK.2.1.2.2]
          refine ⟨hK.2.1.1, (mr_in hK (by omega)).2, ?_⟩
          rw [n_clamp (by omega), w4 _ (by omega)]
          have e4 : nf ((nw A).2 p).2.2 X Y (c + 1) k = if ((nw A).2 p).2.2 (8 * k) = X ∧ ((nw A).2 p).2.2 (8 * k + 1) = Y then nI k else nf ((nw A).2 p).2.2 X Y c (k + 1) := rfl
          have nx : ¬ (((nw A).2 p).2.2 (8 * k) = X ∧ ((nw A).2 p).2.2 (8 * k + 1) = Y) → P82 (nI p) (nI k) C := fun z => h82 _ _ _ (by
            rw [n_succ]
            refine ih2 (k + 1) (by omega) ?_
            rw [e3, e4, if_neg z])
          refine ⟨fun w => nx fun z => w z.1, fun w => ⟨hK.1, (c8_node rfl rfl (w := 1) rfl).use ?_⟩⟩
          refine ⟨hK.2.1.1, (mr_in hK (by omega)).2, ?_⟩
          rw [n_clamp (by omega), w4 _ (by omega)]
          refine ⟨fun w2 => nx fun z => w2 z.2, fun w2 => ⟨?_, h⟩⟩
          show _ = fd _ _ _ _ _
          have e5 : nf ((nw A).2 p).2.2 X Y ((nw A).2 p).1 0 = nI k := by rw [e3, e4, if_pos ⟨w, w2⟩]
          rw [e, e5, if_neg (hnn k (by omega))]
      exact inner ((nw A).2 p).1 0 (by omega) rfl
  exact loop (nw A).1 0 (by omega) rfl
theorem m_corners {x : Int32} (h : mdl S E C M A) (hok : okV (nw A)) : ax_CI l D mt_X8_corners [ax_r (some M), ax_i x] S C (pQ S E M (Q_corners (nw A) x, A)) := by
  have hK := h.1.1
  have h6 := h.2.1
  refine vc_X8_corners hK.1 fun P15 P47 P51 P52 P73 P74 h15 h47 h51 h52 h73 h74 => s8_path hK h.2 (fun p hp hx hi => ⟨fun _ => ?_, fun q => absurd q (by decide)⟩) fun hi => ?_
  · simp only [Q_corners, qP, hi] at h15
    obtain ⟨h12, w2, w3, w4⟩ := h.2.2.2 p hp
    have loop : ∀ (m k : Nat), k + m = ((nw A).2 p).1 → P15 (co ((nw A).2 p).2.2 ((nw A).2 p).1 ((nw A).2 p).2.1 k) (nI k) C := by
      intro m
      induction m with
      | zero =>
        intro k hk
        have : k = ((nw A).2 p).1 := by omega
        subst this
        refine h15 _ _ _ ((c8_many hK hx (by omega)).use ?_)
        rw [w2]
        exact ⟨fun _ => ⟨rfl, h⟩, fun w => n_absurd (by simp (disch := omega) only [n_lit0, n_lit1, n_lit2, n_lit3, n_lit4, n_lit5, n_lit6, n_lit7, n_lit8, n_lit9, n_lit10, n_lit11, n_lit12, n_lit13, n_lit14, n_lit15, n_lit16, n_lit17, n_lit18, n_lit19, n_lit20, n_lit21, n_lit22, n_lit23, n_lit24, n_lit30, n_lit31, n_lit32, n_lit45, n_lit48, n_lit49, n_lit57, n_lit59, n_lit60, n_lit67, n_lit76, n_lit77, n_lit90, n_lit96, n_lit97, n_lit98, n_lit99, n_lit100, n_lit119, n_lit120, n_lit127, n_lit128, n_lit196, n_lit200, n_lit208, n_lit294, n_lit340, n_lit341, n_lit392, n_lit490, n_lit491, n_lit500, n_lit588, n_lit589, n_lit999, n_lit1178, n_lit5301, n_lit5890, n_lit46656, n_add, n_mul, n_sub, n_lt_t, n_lt_f, n_le_t, n_le_f, n_eq_t, n_eq_f, n_clamp, n_in_t, ax_sm_s, true_and, and_true, not_true_eq_false, not_false_eq_true, true_imp, false_imp, imp_true, and_self, ax_wI_2, ax_rI_2, ax_wI_t, ax_wI_n, ax_rI_t, ax_rI_n, n_up_t, n_up_n, ne_eq, or_true, true_or, false_or, or_false, some_ex, n_none1, n_none2, ite_true, ite_false]) w⟩
      | succ m ih =>
        intro k hk
        have nx := ih (k + 1) (by omega)
        unfold co at nx
        have e6 : bk (C.1 (M + 1)) p (8 * k + 6) = ((nw A).2 p).2.2 (8 * k + 6) := w4 _ (by omega)
        have hs := ok_s (hok.2 p hp) (k := k) (by omega)
        have b52 : P52 (co ((nw A).2 p).2.2 ((nw A).2 p).1 ((nw A).2 p).2.1 k) (nI k) (bI (ar ((nw A).2 p).1 ((nw A).2 p).2.1 k)) C := by
          refine h52 _ _ _ _ ?_
          cases har : ar ((nw A).2 p).1 ((nw A).2 p).2.1 k
          · rw [if_neg (by rw [har]; simp)] at nx
            refine ⟨fun _ => h73 _ _ _ (h74 _ _ _ _ ?_), fun q => absurd rfl q⟩
            rw [n_succ, n_lit0]
            have : ∀ y : Int32, y + nI 0 = y := fun y => Int32.add_zero y
            rw [this]; exact nx
          · refine ⟨fun q => absurd q (by decide), fun _ => (c8_isSmooth' hK hx (by omega) rfl (by omega) (by rw [e6]; exact hs)).use ?_⟩
            rw [e6]
            by_cases w : ((nw A).2 p).2.2 (8 * k + 6) = 0
            · rw [if_pos ⟨w, har⟩] at nx
              rw [if_pos w]
              refine ⟨fun q => absurd rfl q, fun _ => h74 _ _ _ _ ?_⟩
              rw [n_succ]; exact nx
            · rw [if_neg (fun q => w q.1)] at nx
              rw [if_neg w]
              refine ⟨fun _ => h73 _ _ _ (h74 _ _ _ _ ?_), fun q => absurd q (by decide)⟩
              rw [n_succ, n_lit0]
              have : ∀ y : Int32, y + nI 0 = y := fun y => Int32.add_zero y
              rw [this]; exact nx
        refine h15 _ _ _ ((c8_many hK hx (by omega)).use ?_)
        rw [w2]
        refine ⟨fun w => n_absurd w (by simp (disch := omega) only [n_lit0, n_lit1, n_lit2, n_lit3, n_lit4, n_lit5, n_lit6, n_lit7, n_lit8, n_lit9, n_lit10, n_lit11, n_lit12, n_lit13, n_lit14, n_lit15, n_lit16, n_lit17, n_lit18, n_lit19, n_lit20, n_lit21, n_lit22, n_lit23, n_lit24, n_lit30, n_lit31, n_lit32, n_lit45, n_lit48, n_lit49, n_lit57, n_lit59, n_lit60, n_lit67, n_lit76, n_lit77, n_lit90, n_lit96, n_lit97, n_lit98, n_lit99, n_lit100, n_lit119, n_lit120, n_lit127, n_lit128, n_lit196, n_lit200, n_lit208, n_lit294, n_lit340, n_lit341, n_lit392, n_lit490, n_lit491, n_lit500, n_lit588, n_lit589, n_lit999, n_lit1178, n_lit5301, n_lit5890, n_lit46656, n_add, n_mul, n_sub, n_lt_t, n_lt_f, n_le_t, n_le_f, n_eq_t, n_eq_f, n_clamp, n_in_t, ax_sm_s, true_and, and_true, not_true_eq_false, not_false_eq_true, true_imp, false_imp, imp_true, and_self, ax_wI_2, ax_rI_2, ax_wI_t, ax_wI_n, ax_rI_t, ax_rI_n, n_up_t, n_up_n, ne_eq, or_true, true_or, false_or, or_false, some_ex, n_none1, n_none2, ite_true, ite_false]), fun _ => (c8_isShut hK hx (by omega) w3).use ?_⟩
        cases hb : ((nw A).2 p).2.1
        · rw [hb] at b52
          have har : ar ((nw A).2 p).1 false k = (decide (0 < k) && decide (k + 1 < ((nw A).2 p).1)) := by unfold ar; rw [Bool.false_or]
          rw [har] at b52
          refine ⟨fun q => absurd rfl q, fun _ => ⟨fun q => h51 _ _ _ ?_, fun q => (c8_many hK hx (by omega)).use ?_⟩⟩
          · have : ¬ 0 < k := fun z => nI_nle z (by omega) q
            rw [decide_eq_false this, Bool.false_and] at b52
            exact b52
          · have hk0 : 0 < k := by
              rcases Nat.eq_zero_or_pos k with z | z
              · subst z; exact absurd (by decide) q
              · exact z
            rw [w2, n_lit1, n_sub (by omega)]
            refine ⟨fun q2 => h51 _ _ _ ?_, fun q2 => h47 _ _ _ ?_⟩
            · have : ¬ k + 1 < ((nw A).2 p).1 := fun z => nI_ge (show k < ((nw A).2 p).1 - 1 by omega) (by omega) q2
              rw [decide_eq_false this, Bool.and_false] at b52
              exact b52
            · have : k + 1 < ((nw A).2 p).1 := by
                rcases Nat.lt_or_ge (k + 1) ((nw A).2 p).1 with z | z
                · exact z
                · exact absurd (nI_le (by omega) (by omega)) q2
              rw [decide_eq_true this, decide_eq_true hk0] at b52
              exact b52
        · rw [hb] at b52
          have har : ar ((nw A).2 p).1 true k = true := by unfold ar; rw [Bool.true_or]
          rw [har] at b52
          exact ⟨fun _ => h47 _ _ _ b52, fun q => absurd q (by decide)⟩
    exact loop ((nw A).2 p).1 0 (by omega)
  · simp only [Q_corners, qP, hi]
    exact ⟨fun q => absurd trivial q, fun _ => ⟨rfl, h⟩⟩
end
