/-! ===== the class's text: a curve ===== -/
section
variable {l : Launch} {D : ax_D} {S : ax_S} {C0 C : ax_C} {A L : Nat} {T : Nat → Int32}
theorem po_s {a q r : Nat} {fx fy x y : Int32} (h1 : nu T L fx a = (some x, q)) (h2 : hr T L q = 32) (h3 : nu T L fy (q + 1) = (some y, r)) : po T L fx fy a = (some (x, y), r) := by
  unfold po
  rw [h1]
  dsimp only
  rw [if_pos h2, h3]
theorem po_1 {a q : Nat} {fx fy : Int32} (h1 : nu T L fx a = (none, q)) : po T L fx fy a = (none, q) := by
  unfold po
  rw [h1]
theorem po_2 {a q : Nat} {fx fy x : Int32} (h1 : nu T L fx a = (some x, q)) (h2 : hr T L q ≠ 32) : po T L fx fy a = (none, q) := by
  unfold po
  rw [h1]
  dsimp only
  rw [if_neg h2]
theorem po_3 {a q r : Nat} {fx fy x : Int32} (h1 : nu T L fx a = (some x, q)) (h2 : hr T L q = 32) (h3 : nu T L fy (q + 1) = (none, r)) : po T L fx fy a = (none, r) := by
  unfold po
  rw [h1]
  dsimp only
  rw [if_pos h2, h3]
theorem cv_1 {P : ab_P} {a q : Nat} (h1 : po T L (P.2.2 (8 * (P.1 - 1))) (P.2.2 (8 * (P.1 - 1) + 1)) a = (none, q)) : cv T L P a = (none, q) := by
  unfold cv
  rw [h1]
theorem cv_2 {P : ab_P} {a q : Nat} {w : Int32 × Int32} (h1 : po T L (P.2.2 (8 * (P.1 - 1))) (P.2.2 (8 * (P.1 - 1) + 1)) a = (some w, q)) (h2 : hr T L q ≠ 32) : cv T L P a = (none, q) := by
  unfold cv
  rw [h1]
  dsimp only
  rw [if_neg h2]
theorem cv_3 {P : ab_P} {a q r : Nat} {w : Int32 × Int32} (h1 : po T L (P.2.2 (8 * (P.1 - 1))) (P.2.2 (8 * (P.1 - 1) + 1)) a = (some w, q)) (h2 : hr T L q = 32) (h3 : po T L 0 0 (q + 1) = (none, r)) : cv T L P a = (none, r) := by
  unfold cv
  rw [h1]
  dsimp only
  rw [if_pos h2, h3]
theorem cv_4 {P : ab_P} {a q r : Nat} {w v : Int32 × Int32} (h1 : po T L (P.2.2 (8 * (P.1 - 1))) (P.2.2 (8 * (P.1 - 1) + 1)) a = (some w, q)) (h2 : hr T L q = 32) (h3 : po T L 0 0 (q + 1) = (some v, r)) (h4 : hr T L r ≠ 32) : cv T L P a = (none, r) := by
  unfold cv
  rw [h1]
  dsimp only
  rw [if_pos h2, h3]
  dsimp only
  rw [if_neg h4]
theorem cv_5 {P : ab_P} {a q r s : Nat} {w v : Int32 × Int32} (h1 : po T L (P.2.2 (8 * (P.1 - 1))) (P.2.2 (8 * (P.1 - 1) + 1)) a = (some w, q)) (h2 : hr T L q = 32) (h3 : po T L 0 0 (q + 1) = (some v, r)) (h4 : hr T L r = 32) (h5 : po T L v.1 v.2 (r + 1) = (none, s)) : cv T L P a = (none, s) := by
  unfold cv
  rw [h1]
  dsimp only
  rw [if_pos h2, h3]
  dsimp only
  rw [if_pos h4, h5]
theorem cv_6 {P : ab_P} {a q r s : Nat} {w v u : Int32 × Int32} (h1 : po T L (P.2.2 (8 * (P.1 - 1))) (P.2.2 (8 * (P.1 - 1) + 1)) a = (some w, q)) (h2 : hr T L q = 32) (h3 : po T L 0 0 (q + 1) = (some v, r)) (h4 : hr T L r = 32) (h5 : po T L v.1 v.2 (r + 1) = (some u, s)) : cv T L P a = (some (cvN P w.1 w.2 v.1 v.2 u.1 u.2), s) := by
  unfold cv
  rw [h1]
  dsimp only
  rw [if_pos h2, h3]
  dsimp only
  rw [if_pos h4, h5]
theorem s_curve {a : Nat} {P : ab_P} {K : ax_C → Prop} (h : tL S C0 C A T L a P) (hu : uP P) (hn : P.1 < 12) (hn1 : 1 ≤ P.1) (h1 : ∀ P' q C', cv T L P a = (some P', q) → tL S C0 C' A T L q P' → K C') (h0 : ∀ q C', cv T L P a = (none, q) → tD S C0 C' A T L q → K C') : ax_CV l D mt_X6_takeCurve [ax_r (some A)] S C K := by
  obtain ⟨hF, ha, hf, hal, hc, hxy⟩ := h
  obtain ⟨x5, x6⟩ := hxy hn1
  have h7 := hF.1.1
  have hL := hF.1.2.2.2.2.2.1.1
  have S2 : ∀ k, tF S C0 (ax_wI C A 2 (nI k)) A T L := fun k => tF_w hF (by omega)
  have P2 : ∀ k, (ax_wI C A 2 (nI k)).1 A 2 = nI k := fun k => by rw [ax_wI_t rfl, n_up_t rfl]
  have N2 : ∀ k j, j ≠ 2 → (ax_wI C A 2 (nI k)).1 A j = C.1 A j := fun k j hj => by rw [ax_wI_t rfl, n_up_n hj]
  have hu1 := (hu.2.2 (P.1 - 1) (by omega)).1
  have u5 : -200 ≤ (C.1 A 5).toInt ∧ (C.1 A 5).toInt ≤ 200 := by rw [x5]; exact hu1 0 (by omega)
  have u6 : -200 ≤ (C.1 A 6).toInt ∧ (C.1 A 6).toInt ≤ 200 := by rw [x6]; exact hu1 1 (by omega)
  refine vc_X6_takeCurve h7 ⟨h7, ?_⟩
  rw [hF.2.2.1]
  refine ⟨hF.2.1.1, h7, ?_⟩
  refine L_tn hF ha (by omega) hf u5 (fun y1 q1 e1 => ?_) (fun q e _ C' d => have hz : ∀ C'', tD S C0 C'' A T L q → K C'' := fun C'' dd => h0 q C'' (by rw [x5] at e; exact cv_1 (po_1 e)) dd
    ⟨h7, D_tb d fun _ d => ⟨h7, D_tn d fun _ _ d => ⟨h7, D_tb d fun _ d => D_tn d fun _ _ d => D_tb d fun _ d => D_tn d fun _ _ d => D_tb d fun _ d => D_tn d fun _ _ d => ⟨h7, D_tb (tD_w d (by omega) (by omega)) fun _ d => D_tn d fun _ _ d => ⟨h7, h7, h7, h7, D_fin d hz⟩⟩⟩⟩⟩)
  rw [x5] at e1
  obtain ⟨b1, b2, b3, b4, b5⟩ := nu_some e1
  refine ⟨h7, L_tb (S2 q1) (P2 q1) (by omega) ((N2 q1 3 (by omega)).trans hf) (c := 32) rfl (fun s1 => ?_) (fun s1 C' d => have hz : ∀ C'', tD S C0 C'' A T L q1 → K C'' := fun C'' dd => h0 q1 C'' (cv_1 (po_2 e1 s1)) dd
    ⟨h7, D_tn d fun _ _ d => ⟨h7, D_tb d fun _ d => D_tn d fun _ _ d => D_tb d fun _ d => D_tn d fun _ _ d => D_tb d fun _ d => D_tn d fun _ _ d => ⟨h7, D_tb (tD_w d (by omega) (by omega)) fun _ d => D_tn d fun _ _ d => ⟨h7, h7, h7, h7, D_fin d hz⟩⟩⟩⟩)⟩
  have s1 : hr T L q1 = 32 := s1
  have l1 := hr_lt s1 (by decide)
  rw [wI_2]
  refine ⟨h7, L_tn (S2 _) (P2 _) (by omega) ((N2 _ 3 (by omega)).trans hf) (by rw [N2 _ 6 (by omega)]; exact u6) (fun y2 q2 e2 => ?_) (fun q e _ C' d => have hz : ∀ C'', tD S C0 C'' A T L q → K C'' := fun C'' dd => h0 q C'' (by rw [N2 _ 6 (by omega), x6] at e; exact cv_1 (po_3 e1 s1 e)) dd
    ⟨h7, D_tb d fun _ d => D_tn d fun _ _ d => D_tb d fun _ d => D_tn d fun _ _ d => D_tb d fun _ d => D_tn d fun _ _ d => ⟨h7, D_tb (tD_w d (by omega) (by omega)) fun _ d => D_tn d fun _ _ d => ⟨h7, h7, h7, h7, D_fin d hz⟩⟩⟩)⟩
  rw [N2 _ 6 (by omega), x6] at e2
  obtain ⟨c1, c2, c3, c4, c5⟩ := nu_some e2
  have w1 := po_s e1 s1 e2
  rw [wI_2]
  refine ⟨h7, L_tb (S2 q2) (P2 q2) (by omega) ((N2 q2 3 (by omega)).trans hf) (c := 32) rfl (fun s2 => ?_) (fun s2 C' d => have hz : ∀ C'', tD S C0 C'' A T L q2 → K C'' := fun C'' dd => h0 q2 C'' (cv_2 w1 s2) dd
    D_tn d fun _ _ d => D_tb d fun _ d => D_tn d fun _ _ d => D_tb d fun _ d => D_tn d fun _ _ d => ⟨h7, D_tb (tD_w d (by omega) (by omega)) fun _ d => D_tn d fun _ _ d => ⟨h7, h7, h7, h7, D_fin d hz⟩⟩)⟩
  have s2 : hr T L q2 = 32 := s2
  have l2 := hr_lt s2 (by decide)
  rw [wI_2]
  refine L_tn (S2 _) (P2 _) (by omega) ((N2 _ 3 (by omega)).trans hf) (by decide) (fun y3 q3 e3 => ?_) (fun q e _ C' d => have hz : ∀ C'', tD S C0 C'' A T L q → K C'' := fun C'' dd => h0 q C'' (cv_3 w1 s2 (po_1 e)) dd
    D_tb d fun _ d => D_tn d fun _ _ d => D_tb d fun _ d => D_tn d fun _ _ d => ⟨h7, D_tb (tD_w d (by omega) (by omega)) fun _ d => D_tn d fun _ _ d => ⟨h7, h7, h7, h7, D_fin d hz⟩⟩)
  obtain ⟨d1, d2, d3, d4, d5⟩ := nu_some e3
  rw [wI_2]
  refine L_tb (S2 q3) (P2 q3) (by omega) ((N2 q3 3 (by omega)).trans hf) (c := 32) rfl (fun s3 => ?_) (fun s3 C' d => have hz : ∀ C'', tD S C0 C'' A T L q3 → K C'' := fun C'' dd => h0 q3 C'' (cv_3 w1 s2 (po_2 e3 s3)) dd
    D_tn d fun _ _ d => D_tb d fun _ d => D_tn d fun _ _ d => ⟨h7, D_tb (tD_w d (by omega) (by omega)) fun _ d => D_tn d fun _ _ d => ⟨h7, h7, h7, h7, D_fin d hz⟩⟩)
  have s3 : hr T L q3 = 32 := s3
  have l3 := hr_lt s3 (by decide)
  rw [wI_2]
  refine L_tn (S2 _) (P2 _) (by omega) ((N2 _ 3 (by omega)).trans hf) (by decide) (fun y4 q4 e4 => ?_) (fun q e _ C' d => have hz : ∀ C'', tD S C0 C'' A T L q → K C'' := fun C'' dd => h0 q C'' (cv_3 w1 s2 (po_3 e3 s3 e)) dd
    D_tb d fun _ d => D_tn d fun _ _ d => ⟨h7, D_tb (tD_w d (by omega) (by omega)) fun _ d => D_tn d fun _ _ d => ⟨h7, h7, h7, h7, D_fin d hz⟩⟩)
  obtain ⟨g1, g2, g3, g4, g5⟩ := nu_some e4
  have w2 := po_s e3 s3 e4
  rw [wI_2]
  refine L_tb (S2 q4) (P2 q4) (by omega) ((N2 q4 3 (by omega)).trans hf) (c := 32) rfl (fun s4 => ?_) (fun s4 C' d => have hz : ∀ C'', tD S C0 C'' A T L q4 → K C'' := fun C'' dd => h0 q4 C'' (cv_4 w1 s2 w2 s4) dd
    D_tn d fun _ _ d => ⟨h7, D_tb (tD_w d (by omega) (by omega)) fun _ d => D_tn d fun _ _ d => ⟨h7, h7, h7, h7, D_fin d hz⟩⟩)
  have s4 : hr T L q4 = 32 := s4
  have l4 := hr_lt s4 (by decide)
  rw [wI_2]
  refine L_tn (S2 _) (P2 _) (by omega) ((N2 _ 3 (by omega)).trans hf) ⟨d3, d4⟩ (fun y5 q5 e5 => ?_) (fun q e _ C' d => have hz : ∀ C'', tD S C0 C'' A T L q → K C'' := fun C'' dd => h0 q C'' (cv_5 w1 s2 w2 s4 (po_1 e)) dd
    ⟨h7, D_tb (tD_w d (by omega) (by omega)) fun _ d => D_tn d fun _ _ d => ⟨h7, h7, h7, h7, D_fin d hz⟩⟩)
  obtain ⟨i1, i2, i3, i4, i5⟩ := nu_some e5
  rw [wI_2]
  generalize hCx : ax_wI (ax_wI C A 2 (nI q5)) A 5 y5 = Cx
  have Fx : tF S C0 Cx A T L := by rw [← hCx]; exact tF_w (S2 q5) (by omega)
  have px : Cx.1 A 2 = nI q5 := by rw [← hCx, ax_wI_t rfl, n_up_n (by omega)]; exact P2 q5
  have fx : Cx.1 A 3 = NO := by rw [← hCx, ax_wI_t rfl, n_up_n (by omega)]; exact (N2 q5 3 (by omega)).trans hf
  have vx : Cx.1 A 5 = y5 := by rw [← hCx, ax_wI_t rfl, n_up_t rfl]
  have nx : ∀ b, b ≠ A → Cx.1 b = C.1 b := fun b hb => by rw [← hCx, ax_wI_n hb, ax_wI_n hb]
  refine ⟨h7, L_tb Fx px (by omega) fx (c := 32) rfl (fun s5 => ?_) (fun s5 C' d => have hz : ∀ C'', tD S C0 C'' A T L q5 → K C'' := fun C'' dd => h0 q5 C'' (cv_5 w1 s2 w2 s4 (po_2 e5 s5)) dd
    D_tn d fun _ _ d => ⟨h7, h7, h7, h7, D_fin d hz⟩)⟩
  have s5 : hr T L q5 = 32 := s5
  have l5 := hr_lt s5 (by decide)
  refine L_tn (tF_w Fx (by omega)) (by rw [ax_wI_t rfl, n_up_t rfl]) (by omega) (by rw [ax_wI_t rfl, n_up_n (by omega)]; exact fx) ⟨g3, g4⟩ (fun y6 q6 e6 => ?_) (fun q e _ C' d => have hz : ∀ C'', tD S C0 C'' A T L q → K C'' := fun C'' dd => h0 q C'' (cv_5 w1 s2 w2 s4 (po_3 e5 s5 e)) dd
    ⟨h7, h7, h7, h7, D_fin d hz⟩)
  obtain ⟨j1, j2, j3, j4, j5⟩ := nu_some e6
  have w3 := po_s e5 s5 e6
  rw [wI_2]
  refine ⟨h7, h7, h7, h7, L_fin (P := P) (q := q6) (x3 := y5) (tF_w Fx (by omega)) (by rw [ax_wI_t rfl, n_up_t rfl]) (by rw [ax_wI_t rfl, n_up_n (by omega)]; exact fx) j2 (cP_fr hc (by rw [ax_wI_n (by omega)]; exact nx _ (by omega)) (by rw [ax_wI_n (by omega)]; exact nx _ (by omega))) (by rw [ax_wI_t rfl, n_up_n (by omega)]; exact vx) hn hn1 ?_ ?_ ?_ ?_ fun C' ht => h1 _ q6 C' (cv_6 w1 s2 w2 s4 w3) ht⟩
  · rw [hc.2.1]
    show nI P.1 - nI 1 = _
    rw [n_sub (by omega)]
  · rw [hc.2.1]
    show nI P.1 - nI 1 + nI 1 = _
    rw [n_sub (by omega), n_add]
    congr 1
    omega
  · rw [N2 _ 5 (by omega)]; exact x5
  · rw [N2 _ 6 (by omega)]; exact x6
end
