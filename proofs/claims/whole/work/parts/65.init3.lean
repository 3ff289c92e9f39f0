/-! ===== a new reference ===== -/
section
variable {l : Launch} {D : ax_D} {S : ax_S} {C : ax_C}
theorem nS_s {S S1 : ax_S} {t s k n m : Nat} (h : ax_nS S k n m = S1) (ht : S.2.2.1 = t) (hs : S.2.2.2 = s) : S1.2.2.1 = t + 1 ∧ S1.2.2.2 = s + m ∧ S1.1 t = k ∧ S1.2.1 t = n ∧ gS S S1 t := by
  subst h ht hs
  exact ⟨rfl, rfl, nS_1 _ _ _ _, nS_2 _ _ _ _, gS_n (Nat.le_refl _)⟩
theorem wN_s {C C' : ax_C} {M t f : Nat} (h : ax_wR (ax_nC C t) M f (some t) = C') (hM : M < t) : (∀ b, b ≠ M → b ≠ t → C'.1 b = C.1 b ∧ C'.2.2 b = C.2.2 b) ∧ C'.1 M = C.1 M ∧ (∀ j, j ≠ f → C'.2.2 M j = C.2.2 M j) ∧ C'.2.2 M f = some t ∧ C'.1 t = fun _ => 0 := by
  subst h
  refine ⟨fun b b1 b2 => ⟨(nC_n b2).2, by rw [wR_n b1, (nC_n b2).1]⟩, (nC_n (by omega)).2, fun j hj => by rw [wR_k hj, (nC_n (by omega)).1], wR_t _ _ _ _, nC_1 _ _⟩
theorem mC_chain {M : Nat} {C C1 C2 C3 C4 C5 C6 C7 C8 C9 C10 C11 C12 : ax_C} (h1 : ax_wR (ax_nC C (M + 1)) M 0 (some (M + 1)) = C1) (h2 : ax_wR (ax_nC C1 (M + 1 + 1)) M 1 (some (M + 1 + 1)) = C2) (h3 : ax_wR (ax_nC C2 (M + 1 + 1 + 1)) M 2 (some (M + 1 + 1 + 1)) = C3) (h4 : ax_wR (ax_nC C3 (M + 1 + 1 + 1 + 1)) M 4 (some (M + 1 + 1 + 1 + 1)) = C4) (h5 : ax_wR (ax_nC C4 (M + 1 + 1 + 1 + 1 + 1)) M 6 (some (M + 1 + 1 + 1 + 1 + 1)) = C5) (h6 : ax_wR (ax_nC C5 (M + 1 + 1 + 1 + 1 + 1 + 1)) M 7 (some (M + 1 + 1 + 1 + 1 + 1 + 1)) = C6) (h7 : ax_wR (ax_nC C6 (M + 1 + 1 + 1 + 1 + 1 + 1 + 1)) M 8 (some (M + 1 + 1 + 1 + 1 + 1 + 1 + 1)) = C7) (h8 : ax_wR (ax_nC C7 (M + 1 + 1 + 1 + 1 + 1 + 1 + 1 + 1)) M 10 (some (M + 1 + 1 + 1 + 1 + 1 + 1 + 1 + 1)) = C8) (h9 : ax_wR (ax_nC C8 (M + 1 + 1 + 1 + 1 + 1 + 1 + 1 + 1 + 1)) M 13 (some (M + 1 + 1 + 1 + 1 + 1 + 1 + 1 + 1 + 1)) = C9) (h10 : ax_wR (ax_nC C9 (M + 1 + 1 + 1 + 1 + 1 + 1 + 1 + 1 + 1 + 1)) M 14 (some (M + 1 + 1 + 1 + 1 + 1 + 1 + 1 + 1 + 1 + 1)) = C10) (h11 : ax_wR (ax_nC C10 (M + 1 + 1 + 1 + 1 + 1 + 1 + 1 + 1 + 1 + 1 + 1)) M 16 (some (M + 1 + 1 + 1 + 1 + 1 + 1 + 1 + 1 + 1 + 1 + 1)) = C11) (h12 : ax_wR (ax_nC C11 (M + 1 + 1 + 1 + 1 + 1 + 1 + 1 + 1 + 1 + 1 + 1 + 1)) M 22 (some (M + 1 + 1 + 1 + 1 + 1 + 1 + 1 + 1 + 1 + 1 + 1 + 1)) = C12) : gC C C12 M ∧ C12.1 M = C.1 M ∧ C12.2.2 M 0 = some (M + 1) ∧ C12.2.2 M 1 = some (M + 2) ∧ C12.2.2 M 2 = some (M + 3) ∧ C12.2.2 M 4 = some (M + 4) ∧ C12.2.2 M 6 = some (M + 5) ∧ C12.2.2 M 7 = some (M + 6) ∧ C12.2.2 M 8 = some (M + 7) ∧ C12.2.2 M 10 = some (M + 8) ∧ C12.2.2 M 13 = some (M + 9) ∧ C12.2.2 M 14 = some (M + 10) ∧ C12.2.2 M 16 = some (M + 11) ∧ C12.2.2 M 22 = some (M + 12) ∧ (C12.1 (M + 1) = fun _ => 0) ∧ (C12.1 (M + 6) = fun _ => 0) := by
  obtain ⟨w1, x1, u1, v1, y1⟩ := wN_s h1 (by omega)
  obtain ⟨w2, x2, u2, v2, y2⟩ := wN_s h2 (by omega)
  obtain ⟨w3, x3, u3, v3, y3⟩ := wN_s h3 (by omega)
  obtain ⟨w4, x4, u4, v4, y4⟩ := wN_s h4 (by omega)
  obtain ⟨w5, x5, u5, v5, y5⟩ := wN_s h5 (by omega)
  obtain ⟨w6, x6, u6, v6, y6⟩ := wN_s h6 (by omega)
  obtain ⟨w7, x7, u7, v7, y7⟩ := wN_s h7 (by omega)
  obtain ⟨w8, x8, u8, v8, y8⟩ := wN_s h8 (by omega)
  obtain ⟨w9, x9, u9, v9, y9⟩ := wN_s h9 (by omega)
  obtain ⟨w10, x10, u10, v10, y10⟩ := wN_s h10 (by omega)
  obtain ⟨w11, x11, u11, v11, y11⟩ := wN_s h11 (by omega)
  obtain ⟨w12, x12, u12, v12, y12⟩ := wN_s h12 (by omega)
  refine ⟨fun b hb => ?_, ?_, ?_, ?_, ?_, ?_, ?_, ?_, ?_, ?_, ?_, ?_, ?_, ?_, ?_, ?_⟩
  · have n1 : b ≠ M := by omega
    have q1 := w1 b n1 (by omega)
    have q2 := w2 b n1 (by omega)
    have q3 := w3 b n1 (by omega)
    have q4 := w4 b n1 (by omega)
    have q5 := w5 b n1 (by omega)
    have q6 := w6 b n1 (by omega)
    have q7 := w7 b n1 (by omega)
    have q8 := w8 b n1 (by omega)
    have q9 := w9 b n1 (by omega)
    have q10 := w10 b n1 (by omega)
    have q11 := w11 b n1 (by omega)
    have q12 := w12 b n1 (by omega)
    exact ⟨by rw [q12.1, q11.1, q10.1, q9.1, q8.1, q7.1, q6.1, q5.1, q4.1, q3.1, q2.1, q1.1], by rw [q12.2, q11.2, q10.2, q9.2, q8.2, q7.2, q6.2, q5.2, q4.2, q3.2, q2.2, q1.2]⟩
  · rw [x12, x11, x10, x9, x8, x7, x6, x5, x4, x3, x2, x1]
  · rw [u12 0 (by decide), u11 0 (by decide), u10 0 (by decide), u9 0 (by decide), u8 0 (by decide), u7 0 (by decide), u6 0 (by decide), u5 0 (by decide), u4 0 (by decide), u3 0 (by decide), u2 0 (by decide)]; exact v1
  · rw [u12 1 (by decide), u11 1 (by decide), u10 1 (by decide), u9 1 (by decide), u8 1 (by decide), u7 1 (by decide), u6 1 (by decide), u5 1 (by decide), u4 1 (by decide), u3 1 (by decide)]; exact v2
  · rw [u12 2 (by decide), u11 2 (by decide), u10 2 (by decide), u9 2 (by decide), u8 2 (by decide), u7 2 (by decide), u6 2 (by decide), u5 2 (by decide), u4 2 (by decide)]; exact v3
  · rw [u12 4 (by decide), u11 4 (by decide), u10 4 (by decide), u9 4 (by decide), u8 4 (by decide), u7 4 (by decide), u6 4 (by decide), u5 4 (by decide)]; exact v4
  · rw [u12 6 (by decide), u11 6 (by decide), u10 6 (by decide), u9 6 (by decide), u8 6 (by decide), u7 6 (by decide), u6 6 (by decide)]; exact v5
  · rw [u12 7 (by decide), u11 7 (by decide), u10 7 (by decide), u9 7 (by decide), u8 7 (by decide), u7 7 (by decide)]; exact v6
  · rw [u12 8 (by decide), u11 8 (by decide), u10 8 (by decide), u9 8 (by decide), u8 8 (by decide)]; exact v7
  · rw [u12 10 (by decide), u11 10 (by decide), u10 10 (by decide), u9 10 (by decide)]; exact v8
  · rw [u12 13 (by decide), u11 13 (by decide), u10 13 (by decide)]; exact v9
  · rw [u12 14 (by decide), u11 14 (by decide)]; exact v10
  · rw [u12 16 (by decide)]; exact v11
  · exact v12
  · rw [(w12 (M + 1) (by omega) (by omega)).1, (w11 (M + 1) (by omega) (by omega)).1, (w10 (M + 1) (by omega) (by omega)).1, (w9 (M + 1) (by omega) (by omega)).1, (w8 (M + 1) (by omega) (by omega)).1, (w7 (M + 1) (by omega) (by omega)).1, (w6 (M + 1) (by omega) (by omega)).1, (w5 (M + 1) (by omega) (by omega)).1, (w4 (M + 1) (by omega) (by omega)).1, (w3 (M + 1) (by omega) (by omega)).1, (w2 (M + 1) (by omega) (by omega)).1]; exact y1
  · rw [(w12 (M + 6) (by omega) (by omega)).1, (w11 (M + 6) (by omega) (by omega)).1, (w10 (M + 6) (by omega) (by omega)).1, (w9 (M + 6) (by omega) (by omega)).1, (w8 (M + 6) (by omega) (by omega)).1, (w7 (M + 6) (by omega) (by omega)).1]; exact y6
theorem mS_chain {M : Nat} {S S1 S2 S3 S4 S5 S6 S7 S8 S9 S10 S11 S12 : ax_S} (ht : S.2.2.1 = M + 1) (hk : S.1 M = 9) (h1 : ax_nS S 11 589 589 = S1) (h2 : ax_nS S1 11 589 589 = S2) (h3 : ax_nS S2 11 5890 5890 = S3) (h4 : ax_nS S3 11 5890 5890 = S4) (h5 : ax_nS S4 11 1178 1178 = S5) (h6 : ax_nS S5 12 2 2 = S6) (h7 : ax_nS S6 11 120 120 = S7) (h8 : ax_nS S7 11 500 500 = S8) (h9 : ax_nS S8 11 8 8 = S9) (h10 : ax_nS S9 11 208 208 = S10) (h11 : ax_nS S10 11 96 96 = S11) (h12 : ax_nS S11 11 500 500 = S12) : (S1.2.2.1 = M + 2 ∧ S2.2.2.1 = M + 3 ∧ S3.2.2.1 = M + 4 ∧ S4.2.2.1 = M + 5 ∧ S5.2.2.1 = M + 6 ∧ S6.2.2.1 = M + 7 ∧ S7.2.2.1 = M + 8 ∧ S8.2.2.1 = M + 9 ∧ S9.2.2.1 = M + 10 ∧ S10.2.2.1 = M + 11 ∧ S11.2.2.1 = M + 12 ∧ S12.2.2.1 = M + 13) ∧ (S1.2.2.2 = S.2.2.2 + 589 ∧ S2.2.2.2 = S.2.2.2 + 1178 ∧ S3.2.2.2 = S.2.2.2 + 7068 ∧ S4.2.2.2 = S.2.2.2 + 12958 ∧ S5.2.2.2 = S.2.2.2 + 14136 ∧ S6.2.2.2 = S.2.2.2 + 14138 ∧ S7.2.2.2 = S.2.2.2 + 14258 ∧ S8.2.2.2 = S.2.2.2 + 14758 ∧ S9.2.2.2 = S.2.2.2 + 14766 ∧ S10.2.2.2 = S.2.2.2 + 14974 ∧ S11.2.2.2 = S.2.2.2 + 15070 ∧ S12.2.2.2 = S.2.2.2 + 15570) ∧ (S1.1 M = 9 ∧ S2.1 M = 9 ∧ S3.1 M = 9 ∧ S4.1 M = 9 ∧ S5.1 M = 9 ∧ S6.1 M = 9 ∧ S7.1 M = 9 ∧ S8.1 M = 9 ∧ S9.1 M = 9 ∧ S10.1 M = 9 ∧ S11.1 M = 9 ∧ S12.1 M = 9) ∧ gS S S12 (M + 1) ∧ (S12.1 (M + 1) = 11 ∧ S12.2.1 (M + 1) = 589) ∧ (S12.1 (M + 2) = 11 ∧ S12.2.1 (M + 2) = 589) ∧ (S12.1 (M + 3) = 11 ∧ S12.2.1 (M + 3) = 5890) ∧ (S12.1 (M + 4) = 11 ∧ S12.2.1 (M + 4) = 5890) ∧ (S12.1 (M + 5) = 11 ∧ S12.2.1 (M + 5) = 1178) ∧ (S12.1 (M + 6) = 12 ∧ S12.2.1 (M + 6) = 2) ∧ (S12.1 (M + 7) = 11 ∧ S12.2.1 (M + 7) = 120) ∧ (S12.1 (M + 8) = 11 ∧ S12.2.1 (M + 8) = 500) ∧ (S12.1 (M + 9) = 11 ∧ S12.2.1 (M + 9) = 8) ∧ (S12.1 (M + 10) = 11 ∧ S12.2.1 (M + 10) = 208) ∧ (S12.1 (M + 11) = 11 ∧ S12.2.1 (M + 11) = 96) ∧ (S12.1 (M + 12) = 11 ∧ S12.2.1 (M + 12) = 500) := by
  obtain ⟨t1, s1, k1, n1, g1⟩ := nS_s h1 ht rfl
  have s1 : S1.2.2.2 = S.2.2.2 + 589 := by rw [s1]
  obtain ⟨t2, s2, k2, n2, g2⟩ := nS_s h2 t1 s1
  have s2 : S2.2.2.2 = S.2.2.2 + 1178 := by rw [s2, Nat.add_assoc]
  obtain ⟨t3, s3, k3, n3, g3⟩ := nS_s h3 t2 s2
  have s3 : S3.2.2.2 = S.2.2.2 + 7068 := by rw [s3, Nat.add_assoc]
  obtain ⟨t4, s4, k4, n4, g4⟩ := nS_s h4 t3 s3
  have s4 : S4.2.2.2 = S.2.2.2 + 12958 := by rw [s4, Nat.add_assoc]
  obtain ⟨t5, s5, k5, n5, g5⟩ := nS_s h5 t4 s4
  have s5 : S5.2.2.2 = S.2.2.2 + 14136 := by rw [s5, Nat.add_assoc]
  obtain ⟨t6, s6, k6, n6, g6⟩ := nS_s h6 t5 s5
  have s6 : S6.2.2.2 = S.2.2.2 + 14138 := by rw [s6, Nat.add_assoc]
  obtain ⟨t7, s7, k7, n7, g7⟩ := nS_s h7 t6 s6
  have s7 : S7.2.2.2 = S.2.2.2 + 14258 := by rw [s7, Nat.add_assoc]
  obtain ⟨t8, s8, k8, n8, g8⟩ := nS_s h8 t7 s7
  have s8 : S8.2.2.2 = S.2.2.2 + 14758 := by rw [s8, Nat.add_assoc]
  obtain ⟨t9, s9, k9, n9, g9⟩ := nS_s h9 t8 s8
  have s9 : S9.2.2.2 = S.2.2.2 + 14766 := by rw [s9, Nat.add_assoc]
  obtain ⟨t10, s10, k10, n10, g10⟩ := nS_s h10 t9 s9
  have s10 : S10.2.2.2 = S.2.2.2 + 14974 := by rw [s10, Nat.add_assoc]
  obtain ⟨t11, s11, k11, n11, g11⟩ := nS_s h11 t10 s10
  have s11 : S11.2.2.2 = S.2.2.2 + 15070 := by rw [s11, Nat.add_assoc]
  obtain ⟨t12, s12, k12, n12, g12⟩ := nS_s h12 t11 s11
  have s12 : S12.2.2.2 = S.2.2.2 + 15570 := by rw [s12, Nat.add_assoc]
  have q11 : gS S11 S12 (M + 12) := gS_m g12 (Nat.le_refl _)
  have q10 : gS S10 S12 (M + 11) := gS_t (gS_m g11 (Nat.le_refl _)) (gS_m q11 (Nat.le_succ _))
  have q9 : gS S9 S12 (M + 10) := gS_t (gS_m g10 (Nat.le_refl _)) (gS_m q10 (Nat.le_succ _))
  have q8 : gS S8 S12 (M + 9) := gS_t (gS_m g9 (Nat.le_refl _)) (gS_m q9 (Nat.le_succ _))
  have q7 : gS S7 S12 (M + 8) := gS_t (gS_m g8 (Nat.le_refl _)) (gS_m q8 (Nat.le_succ _))
  have q6 : gS S6 S12 (M + 7) := gS_t (gS_m g7 (Nat.le_refl _)) (gS_m q7 (Nat.le_succ _))
  have q5 : gS S5 S12 (M + 6) := gS_t (gS_m g6 (Nat.le_refl _)) (gS_m q6 (Nat.le_succ _))
  have q4 : gS S4 S12 (M + 5) := gS_t (gS_m g5 (Nat.le_refl _)) (gS_m q5 (Nat.le_succ _))
  have q3 : gS S3 S12 (M + 4) := gS_t (gS_m g4 (Nat.le_refl _)) (gS_m q4 (Nat.le_succ _))
  have q2 : gS S2 S12 (M + 3) := gS_t (gS_m g3 (Nat.le_refl _)) (gS_m q3 (Nat.le_succ _))
  have q1 : gS S1 S12 (M + 2) := gS_t (gS_m g2 (Nat.le_refl _)) (gS_m q2 (Nat.le_succ _))
  have b1 : S1.1 M = 9 := (g1 M (show M < M + 1 from Nat.lt_add_of_pos_right (by decide))).1.trans hk
  have b2 : S2.1 M = 9 := (g2 M (show M < M + 2 from Nat.lt_add_of_pos_right (by decide))).1.trans b1
  have b3 : S3.1 M = 9 := (g3 M (show M < M + 3 from Nat.lt_add_of_pos_right (by decide))).1.trans b2
  have b4 : S4.1 M = 9 := (g4 M (show M < M + 4 from Nat.lt_add_of_pos_right (by decide))).1.trans b3
  have b5 : S5.1 M = 9 := (g5 M (show M < M + 5 from Nat.lt_add_of_pos_right (by decide))).1.trans b4
  have b6 : S6.1 M = 9 := (g6 M (show M < M + 6 from Nat.lt_add_of_pos_right (by decide))).1.trans b5
  have b7 : S7.1 M = 9 := (g7 M (show M < M + 7 from Nat.lt_add_of_pos_right (by decide))).1.trans b6
  have b8 : S8.1 M = 9 := (g8 M (show M < M + 8 from Nat.lt_add_of_pos_right (by decide))).1.trans b7
  have b9 : S9.1 M = 9 := (g9 M (show M < M + 9 from Nat.lt_add_of_pos_right (by decide))).1.trans b8
  have b10 : S10.1 M = 9 := (g10 M (show M < M + 10 from Nat.lt_add_of_pos_right (by decide))).1.trans b9
  have b11 : S11.1 M = 9 := (g11 M (show M < M + 11 from Nat.lt_add_of_pos_right (by decide))).1.trans b10
  have b12 : S12.1 M = 9 := (g12 M (show M < M + 12 from Nat.lt_add_of_pos_right (by decide))).1.trans b11
  refine ⟨⟨t1, t2, t3, t4, t5, t6, t7, t8, t9, t10, t11, t12⟩, ⟨s1, s2, s3, s4, s5, s6, s7, s8, s9, s10, s11, s12⟩, ⟨b1, b2, b3, b4, b5, b6, b7, b8, b9, b10, b11, b12⟩, gS_t (gS_m g1 (Nat.le_refl _)) (gS_m q1 (Nat.le_succ _)), ⟨(q1 _ (Nat.lt_succ_self _)).1.trans k1, (q1 _ (Nat.lt_succ_self _)).2.trans n1⟩, ⟨(q2 _ (Nat.lt_succ_self _)).1.trans k2, (q2 _ (Nat.lt_succ_self _)).2.trans n2⟩, ⟨(q3 _ (Nat.lt_succ_self _)).1.trans k3, (q3 _ (Nat.lt_succ_self _)).2.trans n3⟩, ⟨(q4 _ (Nat.lt_succ_self _)).1.trans k4, (q4 _ (Nat.lt_succ_self _)).2.trans n4⟩, ⟨(q5 _ (Nat.lt_succ_self _)).1.trans k5, (q5 _ (Nat.lt_succ_self _)).2.trans n5⟩, ⟨(q6 _ (Nat.lt_succ_self _)).1.trans k6, (q6 _ (Nat.lt_succ_self _)).2.trans n6⟩, ⟨(q7 _ (Nat.lt_succ_self _)).1.trans k7, (q7 _ (Nat.lt_succ_self _)).2.trans n7⟩, ⟨(q8 _ (Nat.lt_succ_self _)).1.trans k8, (q8 _ (Nat.lt_succ_self _)).2.trans n8⟩, ⟨(q9 _ (Nat.lt_succ_self _)).1.trans k9, (q9 _ (Nat.lt_succ_self _)).2.trans n9⟩, ⟨(q10 _ (Nat.lt_succ_self _)).1.trans k10, (q10 _ (Nat.lt_succ_self _)).2.trans n10⟩, ⟨(q11 _ (Nat.lt_succ_self _)).1.trans k11, (q11 _ (Nat.lt_succ_self _)).2.trans n11⟩, ⟨k12, n12⟩⟩
set_option maxHeartbeats 4000000 in
theorem i_model {M : Nat} {P : ax_S → ax_C → Prop} (h9 : S.1 M = 9) (ht : S.2.2.1 = M + 1) (hz : ∀ k, C.1 M k = 0) (hP : ∀ S' C', S'.2.2.1 = M + 13 → S'.2.2.2 = S.2.2.2 + 15570 → gS S S' (M + 1) → gC C C' M → mdl S' C' C' M A0 → P S' C') : ax_CA l D mt_X8_init [ax_r (some M)] S C P := by
  have e2 : (2 : Int32).toNatClampNeg = 2 := by decide
  have e8 : (8 : Int32).toNatClampNeg = 8 := by decide
  have e96 : (96 : Int32).toNatClampNeg = 96 := by decide
  have e120 : (120 : Int32).toNatClampNeg = 120 := by decide
  have e208 : (208 : Int32).toNatClampNeg = 208 := by decide
  have e500 : (500 : Int32).toNatClampNeg = 500 := by decide
  have e589 : (589 : Int32).toNatClampNeg = 589 := by decide
  have e1178 : (1178 : Int32).toNatClampNeg = 1178 := by decide
  have e5890 : (5890 : Int32).toNatClampNeg = 5890 := by decide
  refine vc_X8_init h9 ?_
  rw [e2, e8, e96, e120, e208, e500, e589, e1178, e5890]
  generalize hS1 : ax_nS S 11 589 589 = S1
  generalize hS2 : ax_nS S1 11 589 589 = S2
  generalize hS3 : ax_nS S2 11 5890 5890 = S3
  generalize hS4 : ax_nS S3 11 5890 5890 = S4
  generalize hS5 : ax_nS S4 11 1178 1178 = S5
  generalize hS6 : ax_nS S5 12 2 2 = S6
  generalize hS7 : ax_nS S6 11 120 120 = S7
  generalize hS8 : ax_nS S7 11 500 500 = S8
  generalize hS9 : ax_nS S8 11 8 8 = S9
  generalize hS10 : ax_nS S9 11 208 208 = S10
  generalize hS11 : ax_nS S10 11 96 96 = S11
  generalize hS12 : ax_nS S11 11 500 500 = S12
  obtain ⟨⟨t1, t2, t3, t4, t5, t6, t7, t8, t9, t10, t11, t12⟩, ⟨s1, s2, s3, s4, s5, s6, s7, s8, s9, s10, s11, s12⟩, ⟨b1, b2, b3, b4, b5, b6, b7, b8, b9, b10, b11, b12⟩, gg, ⟨k1, n1⟩, ⟨k2, n2⟩, ⟨k3, n3⟩, ⟨k4, n4⟩, ⟨k5, n5⟩, ⟨k6, n6⟩, ⟨k7, n7⟩, ⟨k8, n8⟩, ⟨k9, n9⟩, ⟨k10, n10⟩, ⟨k11, n11⟩, ⟨k12, n12⟩⟩ := mS_chain ht h9 hS1 hS2 hS3 hS4 hS5 hS6 hS7 hS8 hS9 hS10 hS11 hS12
  rw [ht, t1, t2, t3, t4, t5, t6, t7, t8, t9, t10, t11, t12, s1, s2, s3, s4, s5, s6, s7, s8, s9, s10, s11, s12]
  generalize hC1 : ax_wR (ax_nC C (M + 1)) M 0 (some (M + 1)) = C1
  generalize hC2 : ax_wR (ax_nC C1 (M + 2)) M 1 (some (M + 2)) = C2
  generalize hC3 : ax_wR (ax_nC C2 (M + 3)) M 2 (some (M + 3)) = C3
  generalize hC4 : ax_wR (ax_nC C3 (M + 4)) M 4 (some (M + 4)) = C4
  generalize hC5 : ax_wR (ax_nC C4 (M + 5)) M 6 (some (M + 5)) = C5
  generalize hC6 : ax_wR (ax_nC C5 (M + 6)) M 7 (some (M + 6)) = C6
  generalize hC7 : ax_wR (ax_nC C6 (M + 7)) M 8 (some (M + 7)) = C7
  generalize hC8 : ax_wR (ax_nC C7 (M + 8)) M 10 (some (M + 8)) = C8
  generalize hC9 : ax_wR (ax_nC C8 (M + 9)) M 13 (some (M + 9)) = C9
  generalize hC10 : ax_wR (ax_nC C9 (M + 10)) M 14 (some (M + 10)) = C10
  generalize hC11 : ax_wR (ax_nC C10 (M + 11)) M 16 (some (M + 11)) = C11
  generalize hC12 : ax_wR (ax_nC C11 (M + 12)) M 22 (some (M + 12)) = C12
  obtain ⟨rr, rM, f1, f2, f3, f4, f5, f6, f7, f8, f9, f10, f11, f12, z1, z6⟩ := mC_chain hC1 hC2 hC3 hC4 hC5 hC6 hC7 hC8 hC9 hC10 hC11 hC12
  clear hC1 hS1 hC2 hS2 hC3 hS3 hC4 hS4 hC5 hS5 hC6 hS6 hC7 hS7 hC8 hS8 hC9 hS9 hC10 hS10 hC11 hS11 hC12 hS12
  have le : ∀ a b : Nat, a ≤ b → ∀ x, x + a ≤ x + b := fun a b h x => Nat.add_le_add_left h x
  refine ⟨by decide, by decide, le _ _ (by decide) (M + 1), le _ _ (by decide) S.2.2.2, b1, by decide, by decide, by omega, by omega, b2, by decide, by decide, by omega, by omega, b3, by decide, by decide, by omega, by omega, b4, by decide, by decide, by omega, by omega, b5, by decide, by decide, by omega, by omega, b6, by decide, by decide, by omega, by omega, b7, by decide, by decide, by omega, by omega, b8, by decide, by decide, by omega, by omega, b9, by decide, by decide, by omega, by omega, b10, by decide, by decide, by omega, by omega, b11, by decide, by decide, by omega, by omega, b12, rfl, by omega, ?_⟩
  refine hP S12 C12 t12 s12 gg rr ?_
  have hK : mK S12 C12 M := ⟨b12, ⟨k1, n1, f1⟩, ⟨k2, n2, f2⟩, ⟨k3, n3, f3⟩, ⟨k4, n4, f4⟩, ⟨k5, n5, f5⟩, ⟨k6, n6, f6⟩, ⟨k7, n7, f7⟩, ⟨k8, n8, f8⟩, ⟨k9, n9, f9⟩, ⟨k10, n10, f10⟩, ⟨k11, n11, f11⟩, ⟨k12, n12, f12⟩⟩
  have hM : ∀ k, C12.1 M k = 0 := fun k => by rw [rM]; exact hz k
  refine ⟨⟨hK, ⟨hM 3, hM 5, by decide⟩, fun j hj => absurd hj (Nat.not_lt_zero j), fun j hj => absurd hj (Nat.not_lt_zero j), fun s hs => ⟨?_, fun w => by cases w⟩, ⟨hM 9, fun q hq => absurd hq (Nat.not_lt_zero q)⟩, ⟨hM 11, fun q hq => absurd hq (Nat.not_lt_zero q)⟩, ⟨by decide, by decide⟩, fun b _ => ⟨rfl, rfl⟩⟩, by decide, ?_, fun p hp => absurd hp (Nat.not_lt_zero p)⟩
  · rw [z6]; rfl
  · rw [z1]; rfl
end
