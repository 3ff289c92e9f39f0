/-! ===== the class's text: lines, curves ===== -/
section
variable {l : Launch} {D : ax_D} {S : ax_S} {C0 C : ax_C} {A L : Nat} {T : Nat → Int32}
/-- the text's objects, whatever stands in them -/
def tF (S : ax_S) (C0 C : ax_C) (A : Nat) (T : Nat → Int32) (L : Nat) : Prop := tx0 S C A T L ∧ pA S C (A + 2) ∧ C.2.2 A 4 = some (A + 2) ∧ (∃ m, m ≤ 12 ∧ C.1 (A + 2) 1 = nI m) ∧ C.2.2 = C0.2.2 ∧ ∀ b, b ≠ A → b ≠ A + 2 → b ≠ A + 3 → C.1 b = C0.1 b
theorem tF_w {k : Nat} {x : Int32} (h : tF S C0 C A T L) (hk : k ≠ 1) : tF S C0 (ax_wI C A k x) A T L := by
  obtain ⟨h1, h2, h3, h4, h5, h6⟩ := h
  refine ⟨tx0_w h1 hk, h2, h3, ?_, h5, fun b b1 b2 b3 => by rw [ax_wI_n b1]; exact h6 b b1 b2 b3⟩
  rw [ax_wI_n (by omega)]; exact h4
theorem tF_d {C' : ax_C} {y : Int32} (h : tF S C0 C A T L) (hd : dF C C' A y) : tF S C0 C' A T L := by
  obtain ⟨g1, g2, g3, g4⟩ := dF_f hd
  obtain ⟨h1, h2, h3, h4, h5, h6⟩ := h
  refine ⟨tx0_d h1 hd, pA_2 h2 (by rw [g3]), by rw [g3]; exact h3, by rw [g4 _ (by omega)]; exact h4, by rw [g3]; exact h5, fun b b1 b2 b3 => by rw [g4 b b1]; exact h6 b b1 b2 b3⟩
theorem tF_p {g : Nat → Int32} {n : Nat} {c : Int32} (h : tF S C0 C A T L) (hn : n ≤ 12) : tF S C0 (pW C (A + 2) g (nI n) c) A T L := by
  obtain ⟨⟨a1, a2, a3, a4, a5, a6, a7⟩, h2, h3, h4, h5, h6⟩ := h
  refine ⟨⟨a1, a2, a3, a4, ?_, a6, ?_⟩, h2, h3, ⟨n, hn, pW_s _ _ _ _ _⟩, h5, fun b b1 b2 b3 => by rw [pW_n b2 b3]; exact h6 b b1 b2 b3⟩
  · rw [pW_n (by omega) (by omega)]; exact a5
  · rw [pW_n (by omega) (by omega)]; exact a7
theorem tF_r {g : Nat → Int32} (h : tF S C0 C A T L) : tF S C0 (ax_rI C (A + 2 + 1) g) A T L := by
  obtain ⟨m, hm, e⟩ := h.2.2.2.1
  rw [pW_of, e]
  exact tF_p h hm
/-- after a fault -/
def tD (S : ax_S) (C0 C : ax_C) (A : Nat) (T : Nat → Int32) (L q : Nat) : Prop := tF S C0 C A T L ∧ C.1 A 3 = nI q ∧ q < 1000
theorem tD_n {q : Nat} (h : tD S C0 C A T L q) : C.1 A 3 ≠ NO := by
  rw [h.2.1]
  exact NO_n q h.2.2
theorem tD_w {q k : Nat} {x : Int32} (h : tD S C0 C A T L q) (h1 : k ≠ 1) (h3 : k ≠ 3) : tD S C0 (ax_wI C A k x) A T L q := ⟨tF_w h.1 h1, by rw [ax_wI_t rfl, n_up_n (by omega)]; exact h.2.1, h.2.2⟩
theorem D_tn {q : Nat} {x : Int32} {K : Int32 → ax_C → Prop} (h : tD S C0 C A T L q) (hK : ∀ v C', tD S C0 C' A T L q → K v C') : ax_CI l D mt_X6_takeNumber [ax_r (some A), ax_i x] S C K := by
  refine s_tnD h.1.1 (tD_n h) fun v C' hd => hK v C' ⟨tF_d h.1 hd, ?_, h.2.2⟩
  rw [(dF_f hd).1]; exact h.2.1
theorem D_tb {q : Nat} {x : Int32} {K : ax_C → Prop} (h : tD S C0 C A T L q) (hK : ∀ C', tD S C0 C' A T L q → K C') : ax_CV l D mt_X6_takeByte [ax_r (some A), ax_i x] S C K :=
  s_tbD h.1.1 (tD_n h) fun y => hK _ (tD_w h (by omega) (by omega))
theorem D_ac {q : Nat} {x y : Int32} {K : ax_C → Prop} (h : tD S C0 C A T L q) (hK : ∀ C', tD S C0 C' A T L q → K C') : ax_CV l D mt_X3_addCorner [ax_r (some (A + 2)), ax_i x, ax_i y] S C K := by
  obtain ⟨m, hm, e⟩ := h.1.2.2.2.1
  have hP := h.1.2.1
  by_cases z : m = 12
  · refine vc_X3_addCorner hP.1 fun P12 h12 => ⟨hP.1, fun q => ?_, fun _ => hK C h⟩
    rw [e, z] at q
    exact absurd q (by decide)
  · refine (c_addCorner hP e (by omega)).use (hK _ ⟨tF_p h.1 (by omega), ?_, h.2.2⟩)
    rw [pW_n (by omega) (by omega)]; exact h.2.1
theorem D_put {q : Nat} {x y z : Int32} {K : ax_C → Prop} (h : tD S C0 C A T L q) (hK : ∀ C', tD S C0 C' A T L q → K C') : ax_CV l D mt_X3_put [ax_r (some (A + 2)), ax_i x, ax_i y, ax_i z] S C K := by
  have hP := h.1.2.1
  by_cases h1 : (∃ k, k < 12 ∧ x = nI k) ∧ ∃ f, f < 8 ∧ y = nI f
  · obtain ⟨⟨k, hk, hx⟩, f, hf, hy⟩ := h1
    refine (c_put hP hx hk hy hf).use (hK _ ⟨tF_r h.1, ?_, h.2.2⟩)
    rw [ax_rI_n (by omega)]; exact h.2.1
  · refine vc_X3_put hP.1 ?_
    have nx : ∀ (w : Int32) (n : Nat), n < 2 ^ 31 → ¬ w < 0 → w < nI n → ∃ k, k < n ∧ w = nI k := fun w n hn a b => n_ix hn a b
    exact ⟨fun _ => hK C h, fun q1 => ⟨fun _ => hK C h, fun q2 => ⟨fun _ => hK C h, fun q3 => ⟨fun _ => hK C h, fun q4 => absurd ⟨nx x 12 (by omega) q1 (Int32.not_le.mp q2), nx y 8 (by omega) q3 (Int32.not_le.mp q4)⟩ h1⟩⟩⟩⟩
theorem wI5 {C : ax_C} {A : Nat} {x : Int32} : (ax_wI C A 5 x).2.2 = C.2.2 := rfl
/-- the text, told so far without fault -/
def tL (S : ax_S) (C0 C : ax_C) (A : Nat) (T : Nat → Int32) (L a : Nat) (P : ab_P) : Prop := tF S C0 C A T L ∧ C.1 A 2 = nI a ∧ C.1 A 3 = NO ∧ a ≤ L ∧ cP C (A + 2) (prt P) ∧ (1 ≤ P.1 → C.1 A 5 = P.2.2 (8 * (P.1 - 1)) ∧ C.1 A 6 = P.2.2 (8 * (P.1 - 1) + 1))
theorem nu_none {a q : Nat} {x : Int32} (h : nu T L x a = (none, q)) : q ≤ a + 1 := by
  unfold nu at h
  split at h
  · split at h
    · have := congrArg Prod.snd h
      have : a + 1 = q := this
      omega
    · split at h
      · have := congrArg Prod.snd h
        have : a = q := this
        omega
      · cases h
  · split at h
    · have := congrArg Prod.snd h
      have : a = q := this
      omega
    · split at h
      · have := congrArg Prod.snd h
        have : a = q := this
        omega
      · cases h
/-- a number, alive or at its fault -/
theorem L_tn {a : Nat} {x : Int32} {K : Int32 → ax_C → Prop} (h : tF S C0 C A T L) (ha : C.1 A 2 = nI a) (hal : a ≤ 200) (hf : C.1 A 3 = NO) (hx : -200 ≤ x.toInt ∧ x.toInt ≤ 200) (h1 : ∀ v q, nu T L x a = (some v, q) → K v (ax_wI C A 2 (nI q))) (h0 : ∀ q, nu T L x a = (none, q) → ∀ v C', tD S C0 C' A T L q → K v C') : ax_CI l D mt_X6_takeNumber [ax_r (some A), ax_i x] S C K := by
  refine s_tn h.1 ha (by omega) hf hx h1 fun q hq v C' hd => h0 q hq v C' ⟨tF_d h hd, (dF_f hd).1, ?_⟩
  have := nu_none hq
  omega
theorem L_tb {a c : Nat} {x : Int32} {K : ax_C → Prop} (h : tF S C0 C A T L) (ha : C.1 A 2 = nI a) (hal : a ≤ 200) (hf : C.1 A 3 = NO) (hx : x = nI c) (h1 : hr T L a = nI c → K (ax_wI C A 2 (nI (a + 1)))) (h0 : hr T L a ≠ nI c → ∀ C', tD S C0 C' A T L a → K C') : ax_CV l D mt_X6_takeByte [ax_r (some A), ax_i x] S C K := by
  refine s_tb h.1 ha (by omega) hf hx h1 fun q => h0 q _ ⟨tF_w h (by omega), by rw [ax_wI_t rfl, n_up_t rfl], by omega⟩
theorem D_line {q : Nat} {K : ax_C → Prop} (h : tD S C0 C A T L q) (hK : ∀ C', tD S C0 C' A T L q → K C') : ax_CV l D mt_X6_takeLine [ax_r (some A)] S C K := by
  have h7 := h.1.1.1
  refine vc_X6_takeLine h7 (D_tn h fun v C1 d1 => ⟨h7, D_tb (tD_w d1 (by omega) (by omega)) fun C2 d2 => D_tn d2 fun v2 C3 d3 => ⟨h7, h7, h7, h7, ?_⟩⟩)
  have d4 := tD_w (x := v2) d3 (k := 6) (by omega) (by omega)
  rw [d4.1.2.2.1]
  exact D_ac d4 hK
theorem prt_at {P : ab_P} {k f : Nat} : (prt P).2.2 (8 * k + f) = P.2.2 (8 * k + f) * (if (8 * k + f) % 8 < 6 then 46656 else 1) := rfl
theorem s_line {a : Nat} {P : ab_P} {K : ax_C → Prop} (h : tL S C0 C A T L a P) (hn : P.1 < 12) (h1 : ∀ P' q C', li T L P a = (some P', q) → tL S C0 C' A T L q P' → K C') (h0 : ∀ q C', li T L P a = (none, q) → tD S C0 C' A T L q → K C') : ax_CV l D mt_X6_takeLine [ax_r (some A)] S C K := by
  obtain ⟨hF, ha, hf, hal, hc, hxy⟩ := h
  have h7 := hF.1.1
  have hL := hF.1.2.2.2.2.2.1.1
  have fin : ∀ q, (∀ C', tD S C0 C' A T L q → K C') → ∀ v2 C3, tD S C0 C3 A T L q → ax_CV l D mt_X3_addCorner [ax_r ((ax_wI C3 A 6 v2).2.2 A 4), ax_i (((ax_wI C3 A 6 v2).1 A 5) * 46656), ax_i (((ax_wI C3 A 6 v2).1 A 6) * 46656)] S (ax_wI C3 A 6 v2) K := by
    intro q hK v2 C3 d3
    have d4 := tD_w (x := v2) d3 (k := 6) (by omega) (by omega)
    rw [d4.1.2.2.1]
    exact D_ac d4 hK
  refine vc_X6_takeLine h7 (L_tn hF ha (by omega) hf (by decide) (fun x q hq => ⟨h7, ?_⟩) fun q hq v C1 d1 => ⟨h7, D_tb (tD_w d1 (by omega) (by omega)) fun C2 d2 => D_tn d2 fun v2 C3 d3 => ⟨h7, h7, h7, h7, fin q (fun C' hd => h0 q C' ?_ hd) v2 C3 d3⟩⟩)
  · obtain ⟨u1, u2, u3, u4, u5⟩ := nu_some hq
    have F1 : tF S C0 (ax_wI (ax_wI C A 2 (nI q)) A 5 x) A T L := tF_w (tF_w hF (by omega)) (by omega)
    have a1 : (ax_wI (ax_wI C A 2 (nI q)) A 5 x).1 A 2 = nI q := by rw [ax_wI_t rfl, n_up_n (by omega), ax_wI_t rfl, n_up_t rfl]
    have f1 : (ax_wI (ax_wI C A 2 (nI q)) A 5 x).1 A 3 = NO := by rw [ax_wI_t rfl, n_up_n (by omega), ax_wI_t rfl, n_up_n (by omega)]; exact hf
    refine L_tb F1 a1 (by omega) f1 (c := 32) rfl (fun hs => ?_) fun hs C2 d2 => D_tn d2 fun v2 C3 d3 => ⟨h7, h7, h7, h7, fin q (fun C' hd => h0 q C' ?_ hd) v2 C3 d3⟩
    · have hs' : hr T L q = 32 := hs
      have hql := hr_lt hs' (by decide)
      have F2 : tF S C0 (ax_wI (ax_wI (ax_wI C A 2 (nI q)) A 5 x) A 2 (nI (q + 1))) A T L := tF_w F1 (by omega)
      refine L_tn F2 (by rw [ax_wI_t rfl, n_up_t rfl]) (by omega) (by rw [ax_wI_t rfl, n_up_n (by omega)]; exact f1) (by decide) (fun y r hr' => ⟨h7, h7, h7, h7, ?_⟩) fun r hr' v C3 d3 => ⟨h7, h7, h7, h7, fin r (fun C' hd => h0 r C' ?_ hd) v C3 d3⟩
      · obtain ⟨w1, w2, w3, w4, w5⟩ := nu_some hr'
        generalize hC5 : ax_wI (ax_wI (ax_wI (ax_wI (ax_wI C A 2 (nI q)) A 5 x) A 2 (nI (q + 1))) A 2 (nI r)) A 6 y = C5
        have F5 : tF S C0 C5 A T L := by rw [← hC5]; exact tF_w (tF_w F2 (by omega)) (by omega)
        have e5 : C5.1 A 5 = x := by rw [← hC5, ax_wI_t rfl, n_up_n (by omega), ax_wI_t rfl, n_up_n (by omega), ax_wI_t rfl, n_up_n (by omega), ax_wI_t rfl, n_up_t rfl]
        have e6 : C5.1 A 6 = y := by rw [← hC5, ax_wI_t rfl, n_up_t rfl]
        have e2 : C5.1 A 2 = nI r := by rw [← hC5, ax_wI_t rfl, n_up_n (by omega), ax_wI_t rfl, n_up_t rfl]
        have e3 : C5.1 A 3 = NO := by rw [← hC5, ax_wI_t rfl, n_up_n (by omega), ax_wI_t rfl, n_up_n (by omega), ax_wI_t rfl, n_up_n (by omega)]; exact f1
        have en : ∀ b, b ≠ A → C5.1 b = C.1 b := fun b hb => by rw [← hC5, ax_wI_n hb, ax_wI_n hb, ax_wI_n hb, ax_wI_n hb, ax_wI_n hb]
        have c5 : cP C5 (A + 2) (prt P) := cP_fr hc (en _ (by omega)) (en _ (by omega))
        rw [F5.2.2.1, e5, e6]
        refine (c_addCorner F5.2.1 c5.2.1 (show P.1 < 12 from hn)).use ?_
        have hli : li T L P a = (some (P.1 + 1, P.2.1, nd P.2.2 P.1 (cn x y)), r) := by
          unfold li po
          rw [hq]
          dsimp only
          rw [if_pos hs', hr']
        refine h1 _ r _ hli ⟨tF_p F5 (show P.1 + 1 ≤ 12 by omega), ?_, ?_, w2, ⟨by show P.1 + 1 ≤ 12; omega, pW_s _ _ _ _ _, by rw [pW_c]; exact c5.2.2.1, fun j hj => ?_⟩, fun _ => ⟨?_, ?_⟩⟩
        · rw [pW_n (by omega) (by omega)]; exact e2
        · rw [pW_n (by omega) (by omega)]; exact e3
        · have hj : j < 8 * (P.1 + 1) := hj
          rw [pW_row]
          show nd _ _ _ j = nd P.2.2 P.1 (cn x y) j * _
          unfold nd
          by_cases z : 8 * P.1 ≤ j ∧ j < 8 * P.1 + 8
          · rw [if_pos (show 8 * (prt P).1 ≤ j ∧ j < 8 * (prt P).1 + 8 from z), if_pos z]
            dsimp only
            unfold cn
            by_cases y0 : j - 8 * P.1 = 0
            · rw [if_pos (show j - 8 * (prt P).1 = 0 from y0), if_pos y0, if_pos (by omega)]
            · rw [if_neg (show ¬ j - 8 * (prt P).1 = 0 from y0), if_neg y0]
              by_cases y1 : j - 8 * P.1 = 1
              · rw [if_pos (show j - 8 * (prt P).1 = 1 from y1), if_pos y1, if_pos (by omega)]
              · rw [if_neg (show ¬ j - 8 * (prt P).1 = 1 from y1), if_neg y1, Int32.zero_mul]
          · rw [if_neg (show ¬ (8 * (prt P).1 ≤ j ∧ j < 8 * (prt P).1 + 8) from z), if_neg z]
            exact c5.2.2.2 j (show j < 8 * P.1 by omega)
        · rw [pW_n (by omega) (by omega), e5]
          show x = nd _ _ _ (8 * (P.1 + 1 - 1))
          unfold nd
          rw [if_pos (by omega)]
          unfold cn
          rw [if_pos (by omega)]
        · rw [pW_n (by omega) (by omega), e6]
          show y = nd _ _ _ (8 * (P.1 + 1 - 1) + 1)
          unfold nd
          rw [if_pos (by omega)]
          unfold cn
          rw [if_neg (by omega), if_pos (by omega)]
      · unfold li po
        rw [hq]
        dsimp only
        rw [if_pos hs', hr']
    · have hs' : ¬ hr T L q = 32 := hs
      unfold li po
      rw [hq]
      dsimp only
      rw [if_neg hs']
  · unfold li po
    rw [hq]
end
