/-! ===== a new editor ===== -/
def V0 : ab_V := (0, fun _ => (0, false, fun _ => 0))
def A0 : ab_A := (fun _ => V0, 0, 0, fun _ => V0, fun _ => false, fun _ => 0, 0, fun _ => 0, 0)
theorem okA_0 : okA A0 := ⟨fun j _ => ⟨Nat.zero_le _, fun p hp => absurd hp (Nat.not_lt_zero p)⟩, fun s _ h => (by cases h), Nat.zero_le _, fun q hq => absurd hq (Nat.not_lt_zero q)⟩
section
variable {l : Launch} {D : ax_D} {S : ax_S} {C : ax_C}
/-- the editor's cells as they are made, its slots' pictures aside -/
def eS (S : ax_S) (B : Nat) : Prop := S.1 B = 8 ∧ S.1 (B + 1) = 2 ∧ S.1 (B + 2) = 15 ∧ S.2.1 (B + 2) = 11 ∧ S.1 (B + 171) = 15 ∧ S.2.1 (B + 171) = 2 ∧ S.1 (B + 172) = 12 ∧ S.2.1 (B + 172) = 2 ∧ S.1 (B + 173) = 3 ∧ S.1 (B + 174) = 1 ∧ S.1 (B + 175) = 7 ∧ S.1 (B + 176) = 13 ∧ S.2.1 (B + 176) = 120 ∧ S.1 (B + 179) = 6 ∧ S.1 (B + 180) = 13 ∧ S.2.1 (B + 180) = 341
def eC (S : ax_S) (C : ax_C) (B : Nat) : Prop := (C.2.2 B 0 = some (B + 1) ∧ C.2.2 B 1 = some (B + 171) ∧ C.2.2 B 2 = some (B + 172) ∧ C.2.2 B 3 = some (B + 173) ∧ C.2.2 B 4 = some (B + 174) ∧ C.2.2 B 5 = some (B + 175) ∧ C.2.2 B 6 = some (B + 179)) ∧ (C.2.2 (B + 1) 0 = some (B + 2) ∧ C.2.2 (B + 1) 1 = some (B + 3) ∧ (∀ k, k < 11 → C.2.2 (B + 2) k = some (B + 3 + 14 * (k + 1))) ∧ C.2.2 (B + 175) 0 = some (B + 176) ∧ C.2.2 (B + 175) 4 = some (B + 177) ∧ C.2.2 (B + 179) 0 = some (B + 180) ∧ pA S C (B + 177)) ∧ (∀ k, k < 12 → ps S C (B + 3 + 14 * k) (fun j => j) ∧ C.1 (B + 3 + 14 * k) 1 = 0) ∧ (∀ k, C.1 (B + 1) k = 0) ∧ (∀ k, C.1 (B + 172) k = 0) ∧ C.1 (B + 175) 1 = 0 ∧ C.1 (B + 179) 1 = 0
theorem cls_0 {B : Nat} (h1 : eS S B) (h2 : eC S C B) (h3 : ∀ s, s < 2 → C.2.2 (B + 171) s = some (B + 181 + 14 * s) ∧ ps S C (B + 181 + 14 * s) (fun j => j)) : cls S C C B A0 := by
  obtain ⟨r1, ⟨r2, r3, r4, r5, r6, r7, r8⟩, p1, p2, p3, p4, p5⟩ := h2
  have t : ∀ k, k < 11 → (if k < 11 then k + 1 else 0) = k + 1 := fun k hk => if_pos hk
  have t11 : (if 11 < 11 then 11 + 1 else 0) = 0 := rfl
  refine ⟨fun k => if k < 11 then k + 1 else 0, 0, h1, ⟨r1, r2, fun s hs => (h3 s hs).1, r5, r6, r7, r8⟩, ⟨⟨by omega, by decide⟩, ⟨p2 2, p2 3, p2 4⟩, ⟨fun k hk => ?_, fun j k hj hk e => ?_⟩, fun k hk => ?_, ?_, fun k hk => ⟨_, (p1 k hk).1⟩, fun j hj => ?_⟩, fun s hs => ⟨p3 s, _, (h3 s hs).2, fun w => by cases w⟩, ⟨p4, fun q hq => absurd hq (Nat.not_lt_zero q), p5, fun q hq => absurd hq (Nat.not_lt_zero q), by decide, by decide⟩, fun b _ => ⟨rfl, rfl⟩⟩
  · show (if k < 11 then k + 1 else 0) < 12
    split <;> omega
  · have e : (if j < 11 then j + 1 else 0) = (if k < 11 then k + 1 else 0) := e
    split at e <;> split at e <;> omega
  · show C.2.2 (B + 2) k = some (B + 3 + 14 * (if k < 11 then k + 1 else 0))
    rw [t k hk]; exact r4 k hk
  · exact r3
  · have hj : j ≤ 0 := hj
    have : j = 0 := by omega
    subst this
    exact ⟨_, (p1 1 (by omega)).1, by decide, (p1 1 (by omega)).2, fun k hk => absurd hk (Nat.not_lt_zero k)⟩
theorem eS_g {S' : ax_S} {B : Nat} (h : eS S B) (z3 : gS S S' (B + 181)) : eS S' B := by
  obtain ⟨y1, y2, y3, y4, y5, y6, y7, y8, y9, y10, y11, y12, y13, y14, y15, y16⟩ := h
  refine ⟨?_, ?_, ?_, ?_, ?_, ?_, ?_, ?_, ?_, ?_, ?_, ?_, ?_, ?_, ?_, ?_⟩ <;> first | (rw [(z3 _ (by omega)).1]; assumption) | (rw [(z3 _ (by omega)).2]; assumption)
theorem eC_g {S' : ax_S} {C' : ax_C} {B : Nat} (h : eC S C B) (z3 : gS S S' (B + 181)) (z4 : ∀ b, b < B + 181 → C'.1 b = C.1 b ∧ (b ≠ B + 171 → C'.2.2 b = C.2.2 b)) : eC S' C' B := by
  obtain ⟨⟨y1, y2, y3, y4, y5, y6, y7⟩, ⟨y8, y9, y10, y11, y12, y13, y14⟩, y15, y16, y17, y18, y19⟩ := h
  have eB : C'.2.2 B = C.2.2 B := (z4 B (by omega)).2 (by omega)
  have e175 : C'.2.2 (B + 175) = C.2.2 (B + 175) := (z4 _ (by omega)).2 (by omega)
  have e1 : C'.2.2 (B + 1) = C.2.2 (B + 1) := (z4 _ (by omega)).2 (by omega)
  refine ⟨⟨?_, ?_, ?_, ?_, ?_, ?_, ?_⟩, ⟨?_, ?_, fun k hk => ?_, ?_, ?_, ?_, ?_⟩, fun k hk => ?_, fun k => ?_, fun k => ?_, ?_, ?_⟩
  · rw [eB]; exact y1
  · rw [eB]; exact y2
  · rw [eB]; exact y3
  · rw [eB]; exact y4
  · rw [eB]; exact y5
  · rw [eB]; exact y6
  · rw [eB]; exact y7
  · rw [e1]; exact y8
  · rw [e1]; exact y9
  · rw [(z4 _ (by omega)).2 (by omega)]; exact y10 k hk
  · rw [e175]; exact y11
  · rw [e175]; exact y12
  · rw [(z4 _ (by omega)).2 (by omega)]; exact y13
  · exact pA_g y14 (fun b i1 i2 => z3 b (by omega)) ((z4 _ (by omega)).2 (by omega))
  · obtain ⟨x1, x2⟩ := y15 k hk
    refine ⟨ps_g x1 (fun b i1 i2 => z3 b (by omega)) (fun b i1 i2 => (z4 b (by omega)).2 (by omega)), ?_⟩
    rw [(z4 _ (by omega)).1]; exact x2
  · rw [(z4 _ (by omega)).1]; exact y16 k
  · rw [(z4 _ (by omega)).1]; exact y17 k
  · rw [(z4 _ (by omega)).1]; exact y18
  · rw [(z4 _ (by omega)).1]; exact y19
theorem i_slots {B N : Nat} {S9 : ax_S} {C6 : ax_C} {P : ax_S → ax_C → Prop} {P76 : Int32 → ax_S → ax_C → Prop} (h76 : ∀ x1 : Int32, ∀ S : ax_S, ∀ C : ax_C, (((2 : Int32) ≤ x1 → S.2.2.1 = B + 1 + 208 ∧ S.2.2.2 = N + 9022 ∧ P S C) ∧ (¬ (2 : Int32) ≤ x1 → S.1 B = 8 ∧ (S.2.2.1 + 1 ≤ B + 1 + 208 ∧ S.2.2.2 + 2 ≤ N + 9022 ∧ ((ax_nS S 5 0 2).2.2.1 + 13 ≤ B + 1 + 208 ∧ (ax_nS S 5 0 2).2.2.2 + 600 ≤ N + 9022 ∧ ax_CA l D mt_X4_init [ax_r (some S.2.2.1)] (ax_nS S 5 0 2) (ax_nC C S.2.2.1) (fun S11 C12 => ax_sm (C.2.2 B 1) (fun b13 => S11.1 b13 = 15 ∧ S11.1 S.2.2.1 = 5 ∧ vp_in x1 (S11.2.1 b13) ∧ (P76 (x1 + 1) S11 (ax_wR C12 b13 x1.toNatClampNeg (some S.2.2.1))))))))) → P76 x1 S C) (eS9 : eS S9 B) (eC9 : eC S9 C6 B) (m1 : S9.2.2.1 = B + 181) (m2 : S9.2.2.2 = N + 7818) (hP : ∀ S' C', S'.2.2.1 = B + 209 → S'.2.2.2 = N + 9022 → gS S9 S' (B + 181) → (∀ b, b < B + 181 → C'.1 b = C6.1 b ∧ (b ≠ B + 171 → C'.2.2 b = C6.2.2 b)) → cls S' C' C' B A0 → P S' C') : P76 0 S9 C6 := by
  have e171 : C6.2.2 B 1 = some (B + 171) := eC9.1.2.1
  have b9 := eS9.1
  have s171 := eS9.2.2.2.2
  have loop : ∀ (m k : Nat) (S3 : ax_S) (C3 : ax_C), k + m = 2 → S3.2.2.1 = B + 181 + 14 * k → S3.2.2.2 = N + 7818 + 602 * k → gS S9 S3 (B + 181) → (∀ b, b < B + 181 → C3.1 b = C6.1 b ∧ (b ≠ B + 171 → C3.2.2 b = C6.2.2 b)) → (∀ s, s < k → C3.2.2 (B + 171) s = some (B + 181 + 14 * s) ∧ ps S3 C3 (B + 181 + 14 * s) (fun j => j)) → P76 (nI k) S3 C3 := by
    intro m
    induction m with
    | zero =>
      intro k S3 C3 hk z1 z2 z3 z4 z5
      have : k = 2 := by omega
      subst this
      refine h76 _ _ _ ⟨fun _ => ⟨by omega, by omega, hP S3 C3 (by omega) (by omega) z3 z4 (cls_0 (eS_g eS9 z3) (eC_g eC9 z3 z4) z5)⟩, fun q => n_absurd (by simp (disch := omega) only [n_lit0, n_lit1, n_lit2, n_lit3, n_lit4, n_lit5, n_lit6, n_lit7, n_lit8, n_lit9, n_lit10, n_lit11, n_lit12, n_lit13, n_lit14, n_lit15, n_lit16, n_lit17, n_lit18, n_lit19, n_lit20, n_lit21, n_lit22, n_lit23, n_lit24, n_lit30, n_lit31, n_lit32, n_lit45, n_lit48, n_lit49, n_lit57, n_lit59, n_lit60, n_lit67, n_lit76, n_lit77, n_lit90, n_lit96, n_lit97, n_lit98, n_lit99, n_lit100, n_lit119, n_lit120, n_lit127, n_lit128, n_lit196, n_lit200, n_lit208, n_lit294, n_lit340, n_lit341, n_lit392, n_lit490, n_lit491, n_lit500, n_lit588, n_lit589, n_lit999, n_lit1178, n_lit5301, n_lit5890, n_lit46656, n_add, n_mul, n_sub, n_lt_t, n_lt_f, n_le_t, n_le_f, n_eq_t, n_eq_f, n_clamp, n_in_t, ax_sm_s, true_and, and_true, not_true_eq_false, not_false_eq_true, true_imp, false_imp, imp_true, and_self, ax_wI_2, ax_rI_2, ax_wI_t, ax_wI_n, ax_rI_t, ax_rI_n, n_up_t, n_up_n, ne_eq, or_true, true_or, false_or, or_false, some_ex, n_none1, n_none2, ite_true, ite_false]) q⟩
    | succ m ih =>
      intro k S3 C3 hk z1 z2 z3 z4 z5
      have r171 : C3.2.2 B 1 = some (B + 171) := by rw [(z4 B (by omega)).2 (by omega)]; exact e171
      refine h76 _ _ _ ⟨fun q => n_absurd q (by simp (disch := omega) only [n_lit0, n_lit1, n_lit2, n_lit3, n_lit4, n_lit5, n_lit6, n_lit7, n_lit8, n_lit9, n_lit10, n_lit11, n_lit12, n_lit13, n_lit14, n_lit15, n_lit16, n_lit17, n_lit18, n_lit19, n_lit20, n_lit21, n_lit22, n_lit23, n_lit24, n_lit30, n_lit31, n_lit32, n_lit45, n_lit48, n_lit49, n_lit57, n_lit59, n_lit60, n_lit67, n_lit76, n_lit77, n_lit90, n_lit96, n_lit97, n_lit98, n_lit99, n_lit100, n_lit119, n_lit120, n_lit127, n_lit128, n_lit196, n_lit200, n_lit208, n_lit294, n_lit340, n_lit341, n_lit392, n_lit490, n_lit491, n_lit500, n_lit588, n_lit589, n_lit999, n_lit1178, n_lit5301, n_lit5890, n_lit46656, n_add, n_mul, n_sub, n_lt_t, n_lt_f, n_le_t, n_le_f, n_eq_t, n_eq_f, n_clamp, n_in_t, ax_sm_s, true_and, and_true, not_true_eq_false, not_false_eq_true, true_imp, false_imp, imp_true, and_self, ax_wI_2, ax_rI_2, ax_wI_t, ax_wI_n, ax_rI_t, ax_rI_n, n_up_t, n_up_n, ne_eq, or_true, true_or, false_or, or_false, some_ex, n_none1, n_none2, ite_true, ite_false]), fun _ => ⟨by rw [(z3 B (by omega)).1]; exact b9, by omega, by omega, by show S3.2.2.1 + 1 + 13 ≤ _; omega, by show S3.2.2.2 + 2 + 600 ≤ _; omega, ?_⟩⟩
      refine i_pic (by rw [nS_1]) rfl fun S4 C4 d1 d2 d3 d4 d5 d6 => ?_
      have d2 : S4.2.2.2 = S3.2.2.2 + 2 + 600 := d2
      rw [r171]
      have g3 : gS S3 S4 (B + 181 + 14 * k) := gS_t (gS_n (by omega)) (gS_m d3 (by omega))
      have c3 : gC C3 C4 (B + 181 + 14 * k) := gC_t (gC_n (by omega)) (gC_m d4 (by omega))
      refine ⟨by rw [(g3 _ (by omega)).1, (z3 _ (by omega)).1]; exact s171.1, by rw [(d3 _ (by omega)).1, nS_1], by rw [(g3 _ (by omega)).2, (z3 _ (by omega)).2, s171.2.1]; exact vp_in_nI (by omega) (by omega), ?_⟩
      rw [n_clamp (by omega), n_succ]
      refine ih (k + 1) _ _ (by omega) (by omega) (by rw [d2, z2]; omega) (gS_t z3 (gS_m g3 (by omega))) (fun b hb => ⟨?_, fun hn => ?_⟩) fun s hs => ?_
      · show C4.1 b = _
        rw [(c3 b (by omega)).1]; exact (z4 b hb).1
      · rw [wR_n hn, (c3 b (by omega)).2]; exact (z4 b hb).2 hn
      · by_cases z : s = k
        · subst z
          rw [z1] at d6
          exact ⟨by rw [wR_t, z1], ps_fr d6 fun b i1 i2 => wR_n (by omega)⟩
        · obtain ⟨x1, x2⟩ := z5 s (by omega)
          refine ⟨by rw [wR_k z, (c3 _ (by omega)).2]; exact x1, ps_g x2 (fun b i1 i2 => g3 b (by omega)) fun b i1 i2 => ?_⟩
          rw [wR_n (by omega), (c3 _ (by omega)).2]
  exact loop 2 0 S9 C6 rfl (by omega) (by omega) (fun b _ => ⟨rfl, rfl⟩) (fun b _ => ⟨rfl, fun _ => rfl⟩) fun s hs => absurd hs (Nat.not_lt_zero s)
theorem i_editor {B : Nat} {P : ax_S → ax_C → Prop} (h8 : S.1 B = 8) (ht : S.2.2.1 = B + 1) (hP : ∀ S' C', S'.2.2.1 = B + 209 → S'.2.2.2 = S.2.2.2 + 9022 → gS S S' (B + 1) → gC C C' B → cls S' C' C' B A0 → P S' C') : ax_CA l D mt_X7_init [ax_r (some B)] S C P := by
  have e2 : (2 : Int32).toNatClampNeg = 2 := by decide
  refine vc_X7_init h8 fun P76 h76 => ⟨by omega, by omega, by show S.2.2.1 + 1 + 169 ≤ _; omega, by show S.2.2.2 + 5 + 7235 ≤ _; omega, ?_⟩
  rw [e2]
  generalize hS0 : ax_nS S 2 0 5 = S0
  have g0 : gS S S0 (B + 1) := by rw [← hS0]; exact gS_n (by omega)
  have t0 : S0.2.2.1 = B + 2 ∧ S0.2.2.2 = S.2.2.2 + 5 ∧ S0.1 (B + 1) = 2 := by
    rw [← hS0]
    exact ⟨by show S.2.2.1 + 1 = _; omega, rfl, by rw [← ht]; exact nS_1 _ _ _ _⟩
  rw [ht] at h76 ⊢
  refine i_his (h := B + 1) t0.2.2 t0.1 fun S1 C2 a1 a2 a3 a4 a5 a6 a7 a8 a9 a10 a11 => ?_
  have a5 : C2.1 (B + 1) = fun _ => 0 := by rw [a5]; exact nC_1 _ _
  have a4 : gC C C2 (B + 1) := gC_t (gC_n (by omega)) a4
  have a3 : gS S0 S1 (B + 2) := a3
  have s1 : S1.2.2.2 = S.2.2.2 + 7240 := by rw [a2, t0.2.1]
  have a1 : S1.2.2.1 = B + 171 := by omega
  rw [a1]
  generalize hSa : ax_nS S1 15 2 2 = Sa
  have ga : gS S1 Sa (B + 171) := by rw [← hSa]; exact gS_n (by omega)
  have ta : Sa.2.2.1 = B + 172 ∧ Sa.2.2.2 = S.2.2.2 + 7242 ∧ Sa.1 (B + 171) = 15 ∧ Sa.2.1 (B + 171) = 2 := by
    rw [← hSa, ← a1]
    exact ⟨by show S1.2.2.1 + 1 = _; omega, by show S1.2.2.2 + 2 = _; omega, nS_1 _ _ _ _, nS_2 _ _ _ _⟩
  generalize hSb : ax_nS Sa 12 2 2 = Sb
  have gb : gS Sa Sb (B + 172) := by rw [← hSb]; exact gS_n (by omega)
  have tb : Sb.2.2.1 = B + 173 ∧ Sb.2.2.2 = S.2.2.2 + 7244 ∧ Sb.1 (B + 172) = 12 ∧ Sb.2.1 (B + 172) = 2 := by
    rw [← hSb, ← ta.1]
    exact ⟨by show Sa.2.2.1 + 1 = _; omega, by show Sa.2.2.2 + 2 = _; omega, nS_1 _ _ _ _, nS_2 _ _ _ _⟩
  generalize hSc : ax_nS Sb 3 0 2 = Sc
  have gc : gS Sb Sc (B + 173) := by rw [← hSc]; exact gS_n (by omega)
  have tc : Sc.2.2.1 = B + 174 ∧ Sc.2.2.2 = S.2.2.2 + 7246 ∧ Sc.1 (B + 173) = 3 := by
    rw [← hSc, ← tb.1]
    exact ⟨by show Sb.2.2.1 + 1 = _; omega, by show Sb.2.2.2 + 2 = _; omega, nS_1 _ _ _ _⟩
  have b1 : S1.1 B = 8 := by rw [(a3 B (by omega)).1, (g0 B (by omega)).1]; exact h8
  have ba : Sa.1 B = 8 := by rw [(ga B (by omega)).1]; exact b1
  have bb : Sb.1 B = 8 := by rw [(gb B (by omega)).1]; exact ba
  have bc : Sc.1 B = 8 := by rw [(gc B (by omega)).1]; exact bb
  rw [ta.1, ta.2.1, tb.1, tb.2.1, tc.1, tc.2.1, s1]
  refine ⟨b1, by decide, by omega, by omega, by omega, ba, by decide, by omega, by omega, by omega, bb, by omega, by omega, by omega, by omega, ?_⟩
  generalize hC3 : ax_nC (ax_wR (ax_nC (ax_wR (ax_nC (ax_wR C2 B 0 (some (B + 1))) (B + 171)) B 1 (some (B + 171))) (B + 172)) B 2 (some (B + 172))) (B + 173) = C3
  have c3 : ∀ b, b < B + 171 → C3.1 b = C2.1 b := fun b hb => by rw [← hC3]; simp (disch := omega) only [n_lit0, n_lit1, n_lit2, n_lit3, n_lit4, n_lit5, n_lit6, n_lit7, n_lit8, n_lit9, n_lit10, n_lit11, n_lit12, n_lit13, n_lit14, n_lit15, n_lit16, n_lit17, n_lit18, n_lit19, n_lit20, n_lit21, n_lit22, n_lit23, n_lit24, n_lit30, n_lit31, n_lit32, n_lit45, n_lit48, n_lit49, n_lit57, n_lit59, n_lit60, n_lit67, n_lit76, n_lit77, n_lit90, n_lit96, n_lit97, n_lit98, n_lit99, n_lit100, n_lit119, n_lit120, n_lit127, n_lit128, n_lit196, n_lit200, n_lit208, n_lit294, n_lit340, n_lit341, n_lit392, n_lit490, n_lit491, n_lit500, n_lit588, n_lit589, n_lit999, n_lit1178, n_lit5301, n_lit5890, n_lit46656, n_add, n_mul, n_sub, n_lt_t, n_lt_f, n_le_t, n_le_f, n_eq_t, n_eq_f, n_clamp, n_in_t, ax_sm_s, true_and, and_true, not_true_eq_false, not_false_eq_true, true_imp, false_imp, imp_true, and_self, ax_wI_2, ax_rI_2, ax_wI_t, ax_wI_n, ax_rI_t, ax_rI_n, n_up_t, n_up_n, ne_eq, or_true, true_or, false_or, or_false, some_ex, n_none1, n_none2, ite_true, ite_false, ax_wR, ax_nC]
  have c3r : ∀ b, b < B + 171 → b ≠ B → C3.2.2 b = C2.2.2 b := fun b hb hB => by rw [← hC3]; simp (disch := omega) only [n_lit0, n_lit1, n_lit2, n_lit3, n_lit4, n_lit5, n_lit6, n_lit7, n_lit8, n_lit9, n_lit10, n_lit11, n_lit12, n_lit13, n_lit14, n_lit15, n_lit16, n_lit17, n_lit18, n_lit19, n_lit20, n_lit21, n_lit22, n_lit23, n_lit24, n_lit30, n_lit31, n_lit32, n_lit45, n_lit48, n_lit49, n_lit57, n_lit59, n_lit60, n_lit67, n_lit76, n_lit77, n_lit90, n_lit96, n_lit97, n_lit98, n_lit99, n_lit100, n_lit119, n_lit120, n_lit127, n_lit128, n_lit196, n_lit200, n_lit208, n_lit294, n_lit340, n_lit341, n_lit392, n_lit490, n_lit491, n_lit500, n_lit588, n_lit589, n_lit999, n_lit1178, n_lit5301, n_lit5890, n_lit46656, n_add, n_mul, n_sub, n_lt_t, n_lt_f, n_le_t, n_le_f, n_eq_t, n_eq_f, n_clamp, n_in_t, ax_sm_s, true_and, and_true, not_true_eq_false, not_false_eq_true, true_imp, false_imp, imp_true, and_self, ax_wI_2, ax_rI_2, ax_wI_t, ax_wI_n, ax_rI_t, ax_rI_n, n_up_t, n_up_n, ne_eq, or_true, true_or, false_or, or_false, some_ex, n_none1, n_none2, ite_true, ite_false, ax_wR, ax_nC]
  have c3b : C3.2.2 B 0 = some (B + 1) ∧ C3.2.2 B 1 = some (B + 171) ∧ C3.2.2 B 2 = some (B + 172) := by rw [← hC3]; simp (disch := omega) only [n_lit0, n_lit1, n_lit2, n_lit3, n_lit4, n_lit5, n_lit6, n_lit7, n_lit8, n_lit9, n_lit10, n_lit11, n_lit12, n_lit13, n_lit14, n_lit15, n_lit16, n_lit17, n_lit18, n_lit19, n_lit20, n_lit21, n_lit22, n_lit23, n_lit24, n_lit30, n_lit31, n_lit32, n_lit45, n_lit48, n_lit49, n_lit57, n_lit59, n_lit60, n_lit67, n_lit76, n_lit77, n_lit90, n_lit96, n_lit97, n_lit98, n_lit99, n_lit100, n_lit119, n_lit120, n_lit127, n_lit128, n_lit196, n_lit200, n_lit208, n_lit294, n_lit340, n_lit341, n_lit392, n_lit490, n_lit491, n_lit500, n_lit588, n_lit589, n_lit999, n_lit1178, n_lit5301, n_lit5890, n_lit46656, n_add, n_mul, n_sub, n_lt_t, n_lt_f, n_le_t, n_le_f, n_eq_t, n_eq_f, n_clamp, n_in_t, ax_sm_s, true_and, and_true, not_true_eq_false, not_false_eq_true, true_imp, false_imp, imp_true, and_self, ax_wI_2, ax_rI_2, ax_wI_t, ax_wI_n, ax_rI_t, ax_rI_n, n_up_t, n_up_n, ne_eq, or_true, true_or, false_or, or_false, some_ex, n_none1, n_none2, ite_true, ite_false, ax_wR, ax_nC]
  have c3n : C3.1 (B + 172) = fun _ => 0 := by rw [← hC3]; simp (disch := omega) only [n_lit0, n_lit1, n_lit2, n_lit3, n_lit4, n_lit5, n_lit6, n_lit7, n_lit8, n_lit9, n_lit10, n_lit11, n_lit12, n_lit13, n_lit14, n_lit15, n_lit16, n_lit17, n_lit18, n_lit19, n_lit20, n_lit21, n_lit22, n_lit23, n_lit24, n_lit30, n_lit31, n_lit32, n_lit45, n_lit48, n_lit49, n_lit57, n_lit59, n_lit60, n_lit67, n_lit76, n_lit77, n_lit90, n_lit96, n_lit97, n_lit98, n_lit99, n_lit100, n_lit119, n_lit120, n_lit127, n_lit128, n_lit196, n_lit200, n_lit208, n_lit294, n_lit340, n_lit341, n_lit392, n_lit490, n_lit491, n_lit500, n_lit588, n_lit589, n_lit999, n_lit1178, n_lit5301, n_lit5890, n_lit46656, n_add, n_mul, n_sub, n_lt_t, n_lt_f, n_le_t, n_le_f, n_eq_t, n_eq_f, n_clamp, n_in_t, ax_sm_s, true_and, and_true, not_true_eq_false, not_false_eq_true, true_imp, false_imp, imp_true, and_self, ax_wI_2, ax_rI_2, ax_wI_t, ax_wI_n, ax_rI_t, ax_rI_n, n_up_t, n_up_n, ne_eq, or_true, true_or, false_or, or_false, some_ex, n_none1, n_none2, ite_true, ite_false, ax_wR, ax_nC]
  refine vc_X2_init (by rw [tc.2.2]) ⟨by rw [tc.1], by rw [tc.2.1], bc, ?_⟩
  rw [tc.1, tc.2.1]
  generalize hSd : ax_nS Sc 1 0 3 = Sd
  have gd : gS Sc Sd (B + 174) := by rw [← hSd]; exact gS_n (by omega)
  have td : Sd.2.2.1 = B + 175 ∧ Sd.2.2.2 = S.2.2.2 + 7249 ∧ Sd.1 (B + 174) = 1 := by
    rw [← hSd, ← tc.1]
    exact ⟨by show Sc.2.2.1 + 1 = _; omega, by show Sc.2.2.2 + 3 = _; omega, nS_1 _ _ _ _⟩
  rw [td.1, td.2.1]
  have bd' : Sd.1 B = 8 := by rw [(gd B (by omega)).1]; exact bc
  refine ⟨by omega, by omega, by omega, by omega, vc_X0_init (by rw [td.2.2]) ⟨by rw [td.1], by rw [td.2.1], bd', ?_⟩⟩
  rw [td.1, td.2.1]
  generalize hSe : ax_nS Sd 7 0 7 = Se
  have ge : gS Sd Se (B + 175) := by rw [← hSe]; exact gS_n (by omega)
  have te : Se.2.2.1 = B + 176 ∧ Se.2.2.2 = S.2.2.2 + 7256 ∧ Se.1 (B + 175) = 7 := by
    rw [← hSe, ← td.1]
    exact ⟨by show Sd.2.2.1 + 1 = _; omega, by show Sd.2.2.2 + 7 = _; omega, nS_1 _ _ _ _⟩
  rw [te.1, te.2.1]
  refine ⟨by omega, by omega, by omega, by omega, i_text te.2.2 te.1 fun S7 C8 k1 k2 k3 k4 k5 k6 k7 k8 k9 k10 => ?_⟩
  have k2 : S7.2.2.2 = S.2.2.2 + 7475 := by rw [k2, te.2.1]
  have k1 : S7.2.2.1 = B + 179 := by omega
  rw [k1, k2]
  generalize hSf : ax_nS S7 6 0 2 = Sf
  have gf : gS S7 Sf (B + 179) := by rw [← hSf]; exact gS_n (by omega)
  have tf : Sf.2.2.1 = B + 180 ∧ Sf.2.2.2 = S.2.2.2 + 7477 ∧ Sf.1 (B + 179) = 6 := by
    rw [← hSf, ← k1]
    exact ⟨by show S7.2.2.1 + 1 = _; omega, by show S7.2.2.2 + 2 = _; omega, nS_1 _ _ _ _⟩
  rw [tf.1, tf.2.1]
  have b7 : S7.1 B = 8 := by rw [(k3 B (by omega)).1, (ge B (by omega)).1]; exact bd'
  refine ⟨b7, by omega, by omega, by omega, by omega, i_sheet tf.2.2 tf.1 fun S9 C10 m1 m2 m3 m4 m5 m6 m7 m8 => ?_⟩
  have m2 : S9.2.2.2 = S.2.2.2 + 7818 := by rw [m2, tf.2.1]
  have m1 : S9.2.2.1 = B + 181 := by omega
  have b9 : S9.1 B = 8 := by rw [(m3 B (by omega)).1, (gf B (by omega)).1]; exact b7
  refine ⟨b9, ?_⟩
  -- what lies before the slots' pictures
  generalize hC4 : ax_nC (ax_wR (ax_nC (ax_wR C3 B 3 (some (B + 173))) (B + 174)) B 4 (some (B + 174))) (B + 175) = C4 at k4 k5
  have c4 : ∀ b, b < B + 174 → C4.1 b = C3.1 b := fun b hb => by rw [← hC4]; simp (disch := omega) only [n_lit0, n_lit1, n_lit2, n_lit3, n_lit4, n_lit5, n_lit6, n_lit7, n_lit8, n_lit9, n_lit10, n_lit11, n_lit12, n_lit13, n_lit14, n_lit15, n_lit16, n_lit17, n_lit18, n_lit19, n_lit20, n_lit21, n_lit22, n_lit23, n_lit24, n_lit30, n_lit31, n_lit32, n_lit45, n_lit48, n_lit49, n_lit57, n_lit59, n_lit60, n_lit67, n_lit76, n_lit77, n_lit90, n_lit96, n_lit97, n_lit98, n_lit99, n_lit100, n_lit119, n_lit120, n_lit127, n_lit128, n_lit196, n_lit200, n_lit208, n_lit294, n_lit340, n_lit341, n_lit392, n_lit490, n_lit491, n_lit500, n_lit588, n_lit589, n_lit999, n_lit1178, n_lit5301, n_lit5890, n_lit46656, n_add, n_mul, n_sub, n_lt_t, n_lt_f, n_le_t, n_le_f, n_eq_t, n_eq_f, n_clamp, n_in_t, ax_sm_s, true_and, and_true, not_true_eq_false, not_false_eq_true, true_imp, false_imp, imp_true, and_self, ax_wI_2, ax_rI_2, ax_wI_t, ax_wI_n, ax_rI_t, ax_rI_n, n_up_t, n_up_n, ne_eq, or_true, true_or, false_or, or_false, some_ex, n_none1, n_none2, ite_true, ite_false, ax_wR, ax_nC]
  have c4r : ∀ b, b < B + 174 → b ≠ B → C4.2.2 b = C3.2.2 b := fun b hb hB => by rw [← hC4]; simp (disch := omega) only [n_lit0, n_lit1, n_lit2, n_lit3, n_lit4, n_lit5, n_lit6, n_lit7, n_lit8, n_lit9, n_lit10, n_lit11, n_lit12, n_lit13, n_lit14, n_lit15, n_lit16, n_lit17, n_lit18, n_lit19, n_lit20, n_lit21, n_lit22, n_lit23, n_lit24, n_lit30, n_lit31, n_lit32, n_lit45, n_lit48, n_lit49, n_lit57, n_lit59, n_lit60, n_lit67, n_lit76, n_lit77, n_lit90, n_lit96, n_lit97, n_lit98, n_lit99, n_lit100, n_lit119, n_lit120, n_lit127, n_lit128, n_lit196, n_lit200, n_lit208, n_lit294, n_lit340, n_lit341, n_lit392, n_lit490, n_lit491, n_lit500, n_lit588, n_lit589, n_lit999, n_lit1178, n_lit5301, n_lit5890, n_lit46656, n_add, n_mul, n_sub, n_lt_t, n_lt_f, n_le_t, n_le_f, n_eq_t, n_eq_f, n_clamp, n_in_t, ax_sm_s, true_and, and_true, not_true_eq_false, not_false_eq_true, true_imp, false_imp, imp_true, and_self, ax_wI_2, ax_rI_2, ax_wI_t, ax_wI_n, ax_rI_t, ax_rI_n, n_up_t, n_up_n, ne_eq, or_true, true_or, false_or, or_false, some_ex, n_none1, n_none2, ite_true, ite_false, ax_wR, ax_nC]
  have c4b : C4.2.2 B 0 = some (B + 1) ∧ C4.2.2 B 1 = some (B + 171) ∧ C4.2.2 B 2 = some (B + 172) ∧ C4.2.2 B 3 = some (B + 173) ∧ C4.2.2 B 4 = some (B + 174) := by
    rw [← hC4]
    have := c3b
    refine ⟨?_, ?_, ?_, ?_, ?_⟩
    · simp (disch := omega) only [n_lit0, n_lit1, n_lit2, n_lit3, n_lit4, n_lit5, n_lit6, n_lit7, n_lit8, n_lit9, n_lit10, n_lit11, n_lit12, n_lit13, n_lit14, n_lit15, n_lit16, n_lit17, n_lit18, n_lit19, n_lit20, n_lit21, n_lit22, n_lit23, n_lit24, n_lit30, n_lit31, n_lit32, n_lit45, n_lit48, n_lit49, n_lit57, n_lit59, n_lit60, n_lit67, n_lit76, n_lit77, n_lit90, n_lit96, n_lit97, n_lit98, n_lit99, n_lit100, n_lit119, n_lit120, n_lit127, n_lit128, n_lit196, n_lit200, n_lit208, n_lit294, n_lit340, n_lit341, n_lit392, n_lit490, n_lit491, n_lit500, n_lit588, n_lit589, n_lit999, n_lit1178, n_lit5301, n_lit5890, n_lit46656, n_add, n_mul, n_sub, n_lt_t, n_lt_f, n_le_t, n_le_f, n_eq_t, n_eq_f, n_clamp, n_in_t, ax_sm_s, true_and, and_true, not_true_eq_false, not_false_eq_true, true_imp, false_imp, imp_true, and_self, ax_wI_2, ax_rI_2, ax_wI_t, ax_wI_n, ax_rI_t, ax_rI_n, n_up_t, n_up_n, ne_eq, or_true, true_or, false_or, or_false, some_ex, n_none1, n_none2, ite_true, ite_false, ax_wR, ax_nC]; exact c3b.1
    · simp (disch := omega) only [n_lit0, n_lit1, n_lit2, n_lit3, n_lit4, n_lit5, n_lit6, n_lit7, n_lit8, n_lit9, n_lit10, n_lit11, n_lit12, n_lit13, n_lit14, n_lit15, n_lit16, n_lit17, n_lit18, n_lit19, n_lit20, n_lit21, n_lit22, n_lit23, n_lit24, n_lit30, n_lit31, n_lit32, n_lit45, n_lit48, n_lit49, n_lit57, n_lit59, n_lit60, n_lit67, n_lit76, n_lit77, n_lit90, n_lit96, n_lit97, n_lit98, n_lit99, n_lit100, n_lit119, n_lit120, n_lit127, n_lit128, n_lit196, n_lit200, n_lit208, n_lit294, n_lit340, n_lit341, n_lit392, n_lit490, n_lit491, n_lit500, n_lit588, n_lit589, n_lit999, n_lit1178, n_lit5301, n_lit5890, n_lit46656, n_add, n_mul, n_sub, n_lt_t, n_lt_f, n_le_t, n_le_f, n_eq_t, n_eq_f, n_clamp, n_in_t, ax_sm_s, true_and, and_true, not_true_eq_false, not_false_eq_true, true_imp, false_imp, imp_true, and_self, ax_wI_2, ax_rI_2, ax_wI_t, ax_wI_n, ax_rI_t, ax_rI_n, n_up_t, n_up_n, ne_eq, or_true, true_or, false_or, or_false, some_ex, n_none1, n_none2, ite_true, ite_false, ax_wR, ax_nC]; exact c3b.2.1
    · simp (disch := omega) only [n_lit0, n_lit1, n_lit2, n_lit3, n_lit4, n_lit5, n_lit6, n_lit7, n_lit8, n_lit9, n_lit10, n_lit11, n_lit12, n_lit13, n_lit14, n_lit15, n_lit16, n_lit17, n_lit18, n_lit19, n_lit20, n_lit21, n_lit22, n_lit23, n_lit24, n_lit30, n_lit31, n_lit32, n_lit45, n_lit48, n_lit49, n_lit57, n_lit59, n_lit60, n_lit67, n_lit76, n_lit77, n_lit90, n_lit96, n_lit97, n_lit98, n_lit99, n_lit100, n_lit119, n_lit120, n_lit127, n_lit128, n_lit196, n_lit200, n_lit208, n_lit294, n_lit340, n_lit341, n_lit392, n_lit490, n_lit491, n_lit500, n_lit588, n_lit589, n_lit999, n_lit1178, n_lit5301, n_lit5890, n_lit46656, n_add, n_mul, n_sub, n_lt_t, n_lt_f, n_le_t, n_le_f, n_eq_t, n_eq_f, n_clamp, n_in_t, ax_sm_s, true_and, and_true, not_true_eq_false, not_false_eq_true, true_imp, false_imp, imp_true, and_self, ax_wI_2, ax_rI_2, ax_wI_t, ax_wI_n, ax_rI_t, ax_rI_n, n_up_t, n_up_n, ne_eq, or_true, true_or, false_or, or_false, some_ex, n_none1, n_none2, ite_true, ite_false, ax_wR, ax_nC]; exact c3b.2.2
    · simp (disch := omega) only [n_lit0, n_lit1, n_lit2, n_lit3, n_lit4, n_lit5, n_lit6, n_lit7, n_lit8, n_lit9, n_lit10, n_lit11, n_lit12, n_lit13, n_lit14, n_lit15, n_lit16, n_lit17, n_lit18, n_lit19, n_lit20, n_lit21, n_lit22, n_lit23, n_lit24, n_lit30, n_lit31, n_lit32, n_lit45, n_lit48, n_lit49, n_lit57, n_lit59, n_lit60, n_lit67, n_lit76, n_lit77, n_lit90, n_lit96, n_lit97, n_lit98, n_lit99, n_lit100, n_lit119, n_lit120, n_lit127, n_lit128, n_lit196, n_lit200, n_lit208, n_lit294, n_lit340, n_lit341, n_lit392, n_lit490, n_lit491, n_lit500, n_lit588, n_lit589, n_lit999, n_lit1178, n_lit5301, n_lit5890, n_lit46656, n_add, n_mul, n_sub, n_lt_t, n_lt_f, n_le_t, n_le_f, n_eq_t, n_eq_f, n_clamp, n_in_t, ax_sm_s, true_and, and_true, not_true_eq_false, not_false_eq_true, true_imp, false_imp, imp_true, and_self, ax_wI_2, ax_rI_2, ax_wI_t, ax_wI_n, ax_rI_t, ax_rI_n, n_up_t, n_up_n, ne_eq, or_true, true_or, false_or, or_false, some_ex, n_none1, n_none2, ite_true, ite_false, ax_wR, ax_nC]
    · simp (disch := omega) only [n_lit0, n_lit1, n_lit2, n_lit3, n_lit4, n_lit5, n_lit6, n_lit7, n_lit8, n_lit9, n_lit10, n_lit11, n_lit12, n_lit13, n_lit14, n_lit15, n_lit16, n_lit17, n_lit18, n_lit19, n_lit20, n_lit21, n_lit22, n_lit23, n_lit24, n_lit30, n_lit31, n_lit32, n_lit45, n_lit48, n_lit49, n_lit57, n_lit59, n_lit60, n_lit67, n_lit76, n_lit77, n_lit90, n_lit96, n_lit97, n_lit98, n_lit99, n_lit100, n_lit119, n_lit120, n_lit127, n_lit128, n_lit196, n_lit200, n_lit208, n_lit294, n_lit340, n_lit341, n_lit392, n_lit490, n_lit491, n_lit500, n_lit588, n_lit589, n_lit999, n_lit1178, n_lit5301, n_lit5890, n_lit46656, n_add, n_mul, n_sub, n_lt_t, n_lt_f, n_le_t, n_le_f, n_eq_t, n_eq_f, n_clamp, n_in_t, ax_sm_s, true_and, and_true, not_true_eq_false, not_false_eq_true, true_imp, false_imp, imp_true, and_self, ax_wI_2, ax_rI_2, ax_wI_t, ax_wI_n, ax_rI_t, ax_rI_n, n_up_t, n_up_n, ne_eq, or_true, true_or, false_or, or_false, some_ex, n_none1, n_none2, ite_true, ite_false, ax_wR, ax_nC]
  have c4t : C4.1 (B + 175) = fun _ => 0 := by rw [← hC4]; simp (disch := omega) only [n_lit0, n_lit1, n_lit2, n_lit3, n_lit4, n_lit5, n_lit6, n_lit7, n_lit8, n_lit9, n_lit10, n_lit11, n_lit12, n_lit13, n_lit14, n_lit15, n_lit16, n_lit17, n_lit18, n_lit19, n_lit20, n_lit21, n_lit22, n_lit23, n_lit24, n_lit30, n_lit31, n_lit32, n_lit45, n_lit48, n_lit49, n_lit57, n_lit59, n_lit60, n_lit67, n_lit76, n_lit77, n_lit90, n_lit96, n_lit97, n_lit98, n_lit99, n_lit100, n_lit119, n_lit120, n_lit127, n_lit128, n_lit196, n_lit200, n_lit208, n_lit294, n_lit340, n_lit341, n_lit392, n_lit490, n_lit491, n_lit500, n_lit588, n_lit589, n_lit999, n_lit1178, n_lit5301, n_lit5890, n_lit46656, n_add, n_mul, n_sub, n_lt_t, n_lt_f, n_le_t, n_le_f, n_eq_t, n_eq_f, n_clamp, n_in_t, ax_sm_s, true_and, and_true, not_true_eq_false, not_false_eq_true, true_imp, false_imp, imp_true, and_self, ax_wI_2, ax_rI_2, ax_wI_t, ax_wI_n, ax_rI_t, ax_rI_n, n_up_t, n_up_n, ne_eq, or_true, true_or, false_or, or_false, some_ex, n_none1, n_none2, ite_true, ite_false, ax_wR, ax_nC]
  generalize hC5 : ax_nC (ax_wR C8 B 5 (some (B + 175))) (B + 179) = C5 at m4 m5
  have c5 : ∀ b, b < B + 179 → C5.1 b = C8.1 b := fun b hb => by rw [← hC5]; simp (disch := omega) only [n_lit0, n_lit1, n_lit2, n_lit3, n_lit4, n_lit5, n_lit6, n_lit7, n_lit8, n_lit9, n_lit10, n_lit11, n_lit12, n_lit13, n_lit14, n_lit15, n_lit16, n_lit17, n_lit18, n_lit19, n_lit20, n_lit21, n_lit22, n_lit23, n_lit24, n_lit30, n_lit31, n_lit32, n_lit45, n_lit48, n_lit49, n_lit57, n_lit59, n_lit60, n_lit67, n_lit76, n_lit77, n_lit90, n_lit96, n_lit97, n_lit98, n_lit99, n_lit100, n_lit119, n_lit120, n_lit127, n_lit128, n_lit196, n_lit200, n_lit208, n_lit294, n_lit340, n_lit341, n_lit392, n_lit490, n_lit491, n_lit500, n_lit588, n_lit589, n_lit999, n_lit1178, n_lit5301, n_lit5890, n_lit46656, n_add, n_mul, n_sub, n_lt_t, n_lt_f, n_le_t, n_le_f, n_eq_t, n_eq_f, n_clamp, n_in_t, ax_sm_s, true_and, and_true, not_true_eq_false, not_false_eq_true, true_imp, false_imp, imp_true, and_self, ax_wI_2, ax_rI_2, ax_wI_t, ax_wI_n, ax_rI_t, ax_rI_n, n_up_t, n_up_n, ne_eq, or_true, true_or, false_or, or_false, some_ex, n_none1, n_none2, ite_true, ite_false, ax_wR, ax_nC]
  have c5r : ∀ b, b < B + 179 → b ≠ B → C5.2.2 b = C8.2.2 b := fun b hb hB => by rw [← hC5]; simp (disch := omega) only [n_lit0, n_lit1, n_lit2, n_lit3, n_lit4, n_lit5, n_lit6, n_lit7, n_lit8, n_lit9, n_lit10, n_lit11, n_lit12, n_lit13, n_lit14, n_lit15, n_lit16, n_lit17, n_lit18, n_lit19, n_lit20, n_lit21, n_lit22, n_lit23, n_lit24, n_lit30, n_lit31, n_lit32, n_lit45, n_lit48, n_lit49, n_lit57, n_lit59, n_lit60, n_lit67, n_lit76, n_lit77, n_lit90, n_lit96, n_lit97, n_lit98, n_lit99, n_lit100, n_lit119, n_lit120, n_lit127, n_lit128, n_lit196, n_lit200, n_lit208, n_lit294, n_lit340, n_lit341, n_lit392, n_lit490, n_lit491, n_lit500, n_lit588, n_lit589, n_lit999, n_lit1178, n_lit5301, n_lit5890, n_lit46656, n_add, n_mul, n_sub, n_lt_t, n_lt_f, n_le_t, n_le_f, n_eq_t, n_eq_f, n_clamp, n_in_t, ax_sm_s, true_and, and_true, not_true_eq_false, not_false_eq_true, true_imp, false_imp, imp_true, and_self, ax_wI_2, ax_rI_2, ax_wI_t, ax_wI_n, ax_rI_t, ax_rI_n, n_up_t, n_up_n, ne_eq, or_true, true_or, false_or, or_false, some_ex, n_none1, n_none2, ite_true, ite_false, ax_wR, ax_nC]
  have c5b : ∀ j, j ≠ 5 → C5.2.2 B j = C8.2.2 B j := fun j hj => by rw [← hC5]; simp (disch := omega) only [n_lit0, n_lit1, n_lit2, n_lit3, n_lit4, n_lit5, n_lit6, n_lit7, n_lit8, n_lit9, n_lit10, n_lit11, n_lit12, n_lit13, n_lit14, n_lit15, n_lit16, n_lit17, n_lit18, n_lit19, n_lit20, n_lit21, n_lit22, n_lit23, n_lit24, n_lit30, n_lit31, n_lit32, n_lit45, n_lit48, n_lit49, n_lit57, n_lit59, n_lit60, n_lit67, n_lit76, n_lit77, n_lit90, n_lit96, n_lit97, n_lit98, n_lit99, n_lit100, n_lit119, n_lit120, n_lit127, n_lit128, n_lit196, n_lit200, n_lit208, n_lit294, n_lit340, n_lit341, n_lit392, n_lit490, n_lit491, n_lit500, n_lit588, n_lit589, n_lit999, n_lit1178, n_lit5301, n_lit5890, n_lit46656, n_add, n_mul, n_sub, n_lt_t, n_lt_f, n_le_t, n_le_f, n_eq_t, n_eq_f, n_clamp, n_in_t, ax_sm_s, true_and, and_true, not_true_eq_false, not_false_eq_true, true_imp, false_imp, imp_true, and_self, ax_wI_2, ax_rI_2, ax_wI_t, ax_wI_n, ax_rI_t, ax_rI_n, n_up_t, n_up_n, ne_eq, or_true, true_or, false_or, or_false, some_ex, n_none1, n_none2, ite_true, ite_false, ax_wR, ax_nC]
  have c5b5 : C5.2.2 B 5 = some (B + 175) := by rw [← hC5]; simp (disch := omega) only [n_lit0, n_lit1, n_lit2, n_lit3, n_lit4, n_lit5, n_lit6, n_lit7, n_lit8, n_lit9, n_lit10, n_lit11, n_lit12, n_lit13, n_lit14, n_lit15, n_lit16, n_lit17, n_lit18, n_lit19, n_lit20, n_lit21, n_lit22, n_lit23, n_lit24, n_lit30, n_lit31, n_lit32, n_lit45, n_lit48, n_lit49, n_lit57, n_lit59, n_lit60, n_lit67, n_lit76, n_lit77, n_lit90, n_lit96, n_lit97, n_lit98, n_lit99, n_lit100, n_lit119, n_lit120, n_lit127, n_lit128, n_lit196, n_lit200, n_lit208, n_lit294, n_lit340, n_lit341, n_lit392, n_lit490, n_lit491, n_lit500, n_lit588, n_lit589, n_lit999, n_lit1178, n_lit5301, n_lit5890, n_lit46656, n_add, n_mul, n_sub, n_lt_t, n_lt_f, n_le_t, n_le_f, n_eq_t, n_eq_f, n_clamp, n_in_t, ax_sm_s, true_and, and_true, not_true_eq_false, not_false_eq_true, true_imp, false_imp, imp_true, and_self, ax_wI_2, ax_rI_2, ax_wI_t, ax_wI_n, ax_rI_t, ax_rI_n, n_up_t, n_up_n, ne_eq, or_true, true_or, false_or, or_false, some_ex, n_none1, n_none2, ite_true, ite_false, ax_wR, ax_nC]
  have c5t : C5.1 (B + 179) = fun _ => 0 := by rw [← hC5]; simp (disch := omega) only [n_lit0, n_lit1, n_lit2, n_lit3, n_lit4, n_lit5, n_lit6, n_lit7, n_lit8, n_lit9, n_lit10, n_lit11, n_lit12, n_lit13, n_lit14, n_lit15, n_lit16, n_lit17, n_lit18, n_lit19, n_lit20, n_lit21, n_lit22, n_lit23, n_lit24, n_lit30, n_lit31, n_lit32, n_lit45, n_lit48, n_lit49, n_lit57, n_lit59, n_lit60, n_lit67, n_lit76, n_lit77, n_lit90, n_lit96, n_lit97, n_lit98, n_lit99, n_lit100, n_lit119, n_lit120, n_lit127, n_lit128, n_lit196, n_lit200, n_lit208, n_lit294, n_lit340, n_lit341, n_lit392, n_lit490, n_lit491, n_lit500, n_lit588, n_lit589, n_lit999, n_lit1178, n_lit5301, n_lit5890, n_lit46656, n_add, n_mul, n_sub, n_lt_t, n_lt_f, n_le_t, n_le_f, n_eq_t, n_eq_f, n_clamp, n_in_t, ax_sm_s, true_and, and_true, not_true_eq_false, not_false_eq_true, true_imp, false_imp, imp_true, and_self, ax_wI_2, ax_rI_2, ax_wI_t, ax_wI_n, ax_rI_t, ax_rI_n, n_up_t, n_up_n, ne_eq, or_true, true_or, false_or, or_false, some_ex, n_none1, n_none2, ite_true, ite_false, ax_wR, ax_nC]
  generalize hC6 : ax_wR C10 B 6 (some (B + 179)) = C6
  have c6 : C6.1 = C10.1 := by rw [← hC6]; rfl
  have c6r : ∀ b, b ≠ B → C6.2.2 b = C10.2.2 b := fun b hb => by rw [← hC6]; exact wR_n hb
  have c6b : ∀ j, j ≠ 6 → C6.2.2 B j = C10.2.2 B j := fun j hj => by rw [← hC6]; exact wR_k hj
  have c6b6 : C6.2.2 B 6 = some (B + 179) := by rw [← hC6]; exact wR_t _ _ _ _
  -- cells from the history on
  have f1 : ∀ b, b < B + 171 → C6.1 b = C2.1 b := fun b hb => by rw [c6, (m4 b (by omega)).1, c5 b (by omega), (k4 b (by omega)).1, c4 b (by omega), c3 b hb]
  have f1r : ∀ b, b < B + 171 → b ≠ B → C6.2.2 b = C2.2.2 b := fun b hb hB => by rw [c6r b hB, (m4 b (by omega)).2, c5r b (by omega) hB, (k4 b (by omega)).2, c4r b (by omega) hB, c3r b hb hB]
  have gS9 : ∀ b, b < B + 171 → S9.1 b = S1.1 b ∧ S9.2.1 b = S1.2.1 b := fun b hb => (gS_t (gS_m ga (by omega)) (gS_t (gS_m gb (by omega)) (gS_t (gS_m gc (by omega)) (gS_t (gS_m gd (by omega)) (gS_t (gS_m ge (by omega)) (gS_t (gS_m k3 (by omega)) (gS_t (gS_m gf (by omega)) (gS_m m3 (by omega))))))))) b hb
  have q9 : gS S7 S9 (B + 179) := gS_t gf (gS_m m3 (by omega))
  have q7 : gS Sd S9 (B + 175) := gS_t ge (gS_t (gS_m k3 (by omega)) (gS_m q9 (by omega)))
  have eS9 : eS S9 B := by
    refine ⟨b9, ?_, ?_, ?_, ?_, ?_, ?_, ?_, ?_, ?_, ?_, ?_, ?_, ?_, m6, m7⟩
    · rw [(gS9 _ (by omega)).1, (a3 _ (by omega)).1]; exact t0.2.2
    · rw [(gS9 _ (by omega)).1]; exact a6
    · rw [(gS9 _ (by omega)).2]; exact a7
    · rw [(q7 _ (by omega)).1, (gd _ (by omega)).1, (gc _ (by omega)).1, (gb _ (by omega)).1]; exact ta.2.2.1
    · rw [(q7 _ (by omega)).2, (gd _ (by omega)).2, (gc _ (by omega)).2, (gb _ (by omega)).2]; exact ta.2.2.2
    · rw [(q7 _ (by omega)).1, (gd _ (by omega)).1, (gc _ (by omega)).1]; exact tb.2.2.1
    · rw [(q7 _ (by omega)).2, (gd _ (by omega)).2, (gc _ (by omega)).2]; exact tb.2.2.2
    · rw [(q7 _ (by omega)).1, (gd _ (by omega)).1]; exact tc.2.2
    · rw [(q7 _ (by omega)).1]; exact td.2.2
    · rw [(q9 _ (by omega)).1, (k3 _ (by omega)).1]; exact te.2.2
    · rw [(q9 _ (by omega)).1]; exact k6
    · rw [(q9 _ (by omega)).2]; exact k7
    · rw [(m3 _ (by omega)).1]; exact tf.2.2
  have eC9 : eC S9 C6 B := by
    refine ⟨⟨?_, ?_, ?_, ?_, ?_, ?_, c6b6⟩, ⟨?_, ?_, fun k hk => ?_, ?_, ?_, ?_, ?_⟩, fun k hk => ?_, fun k => ?_, fun k => ?_, ?_, ?_⟩
    · rw [c6b _ (by omega), (m4 B (by omega)).2, c5b _ (by omega), (k4 B (by omega)).2]; exact c4b.1
    · rw [c6b _ (by omega), (m4 B (by omega)).2, c5b _ (by omega), (k4 B (by omega)).2]; exact c4b.2.1
    · rw [c6b _ (by omega), (m4 B (by omega)).2, c5b _ (by omega), (k4 B (by omega)).2]; exact c4b.2.2.1
    · rw [c6b _ (by omega), (m4 B (by omega)).2, c5b _ (by omega), (k4 B (by omega)).2]; exact c4b.2.2.2.1
    · rw [c6b _ (by omega), (m4 B (by omega)).2, c5b _ (by omega), (k4 B (by omega)).2]; exact c4b.2.2.2.2
    · rw [c6b _ (by omega), (m4 B (by omega)).2]; exact c5b5
    · rw [f1r _ (by omega) (by omega)]; exact a8
    · rw [f1r _ (by omega) (by omega)]; exact a9
    · rw [f1r _ (by omega) (by omega)]; exact a10 k hk
    · rw [c6r _ (by omega), (m4 _ (by omega)).2, c5r _ (by omega) (by omega)]; exact k8
    · rw [c6r _ (by omega), (m4 _ (by omega)).2, c5r _ (by omega) (by omega)]; exact k9
    · rw [c6r _ (by omega)]; exact m8
    · refine pA_g k10 (fun b y1 y2 => q9 b (by omega)) ?_
      rw [c6r _ (by omega), (m4 _ (by omega)).2, c5r _ (by omega) (by omega)]
    · obtain ⟨x1, x2⟩ := a11 k hk
      refine ⟨ps_g x1 (fun b y1 y2 => gS9 b (by omega)) (fun b y1 y2 => f1r b (by omega) (by omega)), ?_⟩
      rw [f1 _ (by omega)]; exact x2
    · rw [f1 _ (by omega), a5]
    · rw [c6, (m4 _ (by omega)).1, c5 _ (by omega), (k4 _ (by omega)).1, c4 _ (by omega), c3n]
    · rw [c6, (m4 _ (by omega)).1, c5 _ (by omega), k5, c4t]
    · rw [c6, m5, c5t]
  have gSS : gS S S9 (B + 1) := fun b hb => ⟨by rw [(gS9 b (by omega)).1, (a3 b (by omega)).1, (g0 b hb).1], by rw [(gS9 b (by omega)).2, (a3 b (by omega)).2, (g0 b hb).2]⟩
  have gCC : gC C C6 B := fun b hb => ⟨by rw [f1 b (by omega), (a4 b (by omega)).1], by rw [f1r b (by omega) (by omega), (a4 b (by omega)).2]⟩
  have e171 : C6.2.2 B 1 = some (B + 171) := eC9.1.2.1
  exact i_slots h76 (S9 := S9) (C6 := C6) eS9 eC9 m1 m2 fun S' C' z1 z2 z3 z4 z5 => hP S' C' z1 z2 (gS_t gSS (gS_m z3 (by omega))) (gC_t gCC fun b hb => ⟨(z4 b (by omega)).1, (z4 b (by omega)).2 (by omega)⟩) z5
end
