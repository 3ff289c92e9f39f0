/-! ===== the class's text: curves ===== -/
theorem bt_200 {x : Int32} : bt x (-200) 200 = true ↔ -200 ≤ x.toInt ∧ x.toInt ≤ 200 := by
  have e1 : (200 : Int32).toInt = 200 := rfl
  have e2 : (-200 : Int32).toInt = -200 := rfl
  unfold bt
  simp only [Bool.and_eq_true, Bool.not_eq_true', decide_eq_false_iff_not, Int32.not_lt, Int32.le_iff_toInt_le, e1, e2]
/-- a told path: nodes and handles within 200 -/
def uP (P : ab_P) : Prop := P.1 ≤ 12 ∧ (P.2.1 = true → 2 ≤ P.1) ∧ ∀ k, k < P.1 → (∀ f, f < 6 → -200 ≤ (P.2.2 (8 * k + f)).toInt ∧ (P.2.2 (8 * k + f)).toInt ≤ 200) ∧ P.2.2 (8 * k + 6) = 0 ∧ P.2.2 (8 * k + 7) = 0
section
variable {l : Launch} {D : ax_D} {S : ax_S} {C0 C : ax_C} {A L : Nat} {T : Nat → Int32}
theorem po_some {a q : Nat} {fx fy : Int32} {w : Int32 × Int32} (h : po T L fx fy a = (some w, q)) : ∃ q1, nu T L fx a = (some w.1, q1) ∧ hr T L q1 = 32 ∧ nu T L fy (q1 + 1) = (some w.2, q) := by
  unfold po at h
  cases h1 : nu T L fx a with
  | mk o1 q1 =>
    rw [h1] at h
    cases o1 with
    | none => cases h
    | some x =>
      dsimp only at h
      by_cases hs : hr T L q1 = 32
      · rw [if_pos hs] at h
        cases h2 : nu T L fy (q1 + 1) with
        | mk o2 q2 =>
          rw [h2] at h
          cases o2 with
          | none => cases h
          | some y =>
            dsimp only at h
            have e1 := Option.some.inj (congrArg Prod.fst h)
            have e2 : q2 = q := congrArg Prod.snd h
            subst e2
            rw [← e1]
            exact ⟨q1, rfl, hs, h2⟩
      · rw [if_neg hs] at h; cases h
theorem D_curve {q : Nat} {K : ax_C → Prop} (h : tD S C0 C A T L q) (hK : ∀ C', tD S C0 C' A T L q → K C') : ax_CV l D mt_X6_takeCurve [ax_r (some A)] S C K := by
  have h7 := h.1.1.1
  have hP := h.1.2.1
  refine vc_X6_takeCurve h7 ⟨h7, ?_⟩
  rw [h.1.2.2.1]
  refine ⟨hP.1, h7, D_tn h fun _ C1 d1 => ⟨h7, D_tb d1 fun C2 d2 => ⟨h7, D_tn d2 fun _ C3 d3 => ⟨h7, D_tb d3 fun C4 d4 => D_tn d4 fun _ C5 d5 => D_tb d5 fun C6 d6 => D_tn d6 fun _ C7 d7 => D_tb d7 fun C8 d8 => D_tn d8 fun v C9 d9 => ⟨h7, D_tb (tD_w d9 (by omega) (by omega)) fun C10 d10 => D_tn d10 fun v2 C11 d11 => ⟨h7, h7, h7, h7, ?_⟩⟩⟩⟩⟩⟩
  have d12 := tD_w (x := v2) d11 (k := 6) (by omega) (by omega)
  rw [d12.1.2.2.1]
  refine D_ac d12 fun C13 d13 => ⟨h7, ?_⟩
  rw [d13.1.2.2.1]
  refine D_put d13 fun C14 d14 => ⟨h7, ?_⟩
  rw [d14.1.2.2.1]
  refine D_put d14 fun C15 d15 => ⟨h7, h7, ?_⟩
  rw [d15.1.2.2.1]
  refine D_put d15 fun C16 d16 => ⟨h7, h7, ?_⟩
  rw [d16.1.2.2.1]
  exact D_put d16 hK
theorem D_fin {q : Nat} {F0 F1 y3 c5 y6 c6 y9 y12 v2 : Int32} {K : ax_C → Prop} (h : tD S C0 C A T L q) (hK : ∀ C', tD S C0 C' A T L q → K C') : ax_CV l D mt_X3_addCorner [ax_r ((ax_wI C A 6 v2).2.2 A 4), ax_i (((ax_wI C A 6 v2).1 A 5) * 46656), ax_i (((ax_wI C A 6 v2).1 A 6) * 46656)] S (ax_wI C A 6 v2) (fun C19 => S.1 A = 7 ∧ (ax_CV l D mt_X3_put [ax_r (C19.2.2 A 4), ax_i F0, ax_i (4 : Int32), ax_i ((y3 - c5) * 46656)] S C19 (fun C20 => S.1 A = 7 ∧ (ax_CV l D mt_X3_put [ax_r (C20.2.2 A 4), ax_i F0, ax_i (5 : Int32), ax_i ((y6 - c6) * 46656)] S C20 (fun C21 => S.1 A = 7 ∧ (S.1 A = 7 ∧ (ax_CV l D mt_X3_put [ax_r (C21.2.2 A 4), ax_i F1, ax_i (2 : Int32), ax_i ((y9 - (C21.1 A 5)) * 46656)] S C21 (fun C22 => S.1 A = 7 ∧ (S.1 A = 7 ∧ (ax_CV l D mt_X3_put [ax_r (C22.2.2 A 4), ax_i F1, ax_i (3 : Int32), ax_i ((y12 - (C22.1 A 6)) * 46656)] S C22 K)))))))))) := by
  have h7 := h.1.1.1
  have d12 := tD_w (x := v2) h (k := 6) (by omega) (by omega)
  rw [d12.1.2.2.1]
  refine D_ac d12 fun C13 d13 => ⟨h7, ?_⟩
  rw [d13.1.2.2.1]
  refine D_put d13 fun C14 d14 => ⟨h7, ?_⟩
  rw [d14.1.2.2.1]
  refine D_put d14 fun C15 d15 => ⟨h7, h7, ?_⟩
  rw [d15.1.2.2.1]
  refine D_put d15 fun C16 d16 => ⟨h7, h7, ?_⟩
  rw [d16.1.2.2.1]
  exact D_put d16 hK
/-- the end of a curve without fault -/
theorem L_fin {q : Nat} {P : ab_P} {F0 F1 y3 c5 y6 c6 y9 y12 x3 v2 : Int32} {K : ax_C → Prop} (hF : tF S C0 C A T L) (ha : C.1 A 2 = nI q) (hf : C.1 A 3 = NO) (hq : q ≤ L) (hc : cP C (A + 2) (prt P)) (h5 : C.1 A 5 = x3) (hn : P.1 < 12) (hn1 : 1 ≤ P.1) (hF0 : F0 = nI (P.1 - 1)) (hF1 : F1 = nI P.1) (hc5 : c5 = P.2.2 (8 * (P.1 - 1))) (hc6 : c6 = P.2.2 (8 * (P.1 - 1) + 1)) (hK : ∀ C', tL S C0 C' A T L q (cvN P y3 y6 y9 y12 x3 v2) → K C') : ax_CV l D mt_X3_addCorner [ax_r ((ax_wI C A 6 v2).2.2 A 4), ax_i (((ax_wI C A 6 v2).1 A 5) * 46656), ax_i (((ax_wI C A 6 v2).1 A 6) * 46656)] S (ax_wI C A 6 v2) (fun C19 => S.1 A = 7 ∧ (ax_CV l D mt_X3_put [ax_r (C19.2.2 A 4), ax_i F0, ax_i (4 : Int32), ax_i ((y3 - c5) * 46656)] S C19 (fun C20 => S.1 A = 7 ∧ (ax_CV l D mt_X3_put [ax_r (C20.2.2 A 4), ax_i F0, ax_i (5 : Int32), ax_i ((y6 - c6) * 46656)] S C20 (fun C21 => S.1 A = 7 ∧ (S.1 A = 7 ∧ (ax_CV l D mt_X3_put [ax_r (C21.2.2 A 4), ax_i F1, ax_i (2 : Int32), ax_i ((y9 - (C21.1 A 5)) * 46656)] S C21 (fun C22 => S.1 A = 7 ∧ (S.1 A = 7 ∧ (ax_CV l D mt_X3_put [ax_r (C22.2.2 A 4), ax_i F1, ax_i (3 : Int32), ax_i ((y12 - (C22.1 A 6)) * 46656)] S C22 K)))))))))) := by
  have h7 := hF.1.1
  subst hF0 hF1 hc5 hc6
  generalize hC1 : ax_wI C A 6 v2 = C1
  have F1 : tF S C0 C1 A T L := by rw [← hC1]; exact tF_w hF (by omega)
  have e5 : C1.1 A 5 = x3 := by rw [← hC1, ax_wI_t rfl, n_up_n (by omega)]; exact h5
  have e6 : C1.1 A 6 = v2 := by rw [← hC1, ax_wI_t rfl, n_up_t rfl]
  have e2 : C1.1 A 2 = nI q := by rw [← hC1, ax_wI_t rfl, n_up_n (by omega)]; exact ha
  have e3 : C1.1 A 3 = NO := by rw [← hC1, ax_wI_t rfl, n_up_n (by omega)]; exact hf
  have c1 : cP C1 (A + 2) (prt P) := cP_fr hc (by rw [← hC1, ax_wI_n (by omega)]) (by rw [← hC1, ax_wI_n (by omega)])
  rw [F1.2.2.1, e5, e6]
  refine (c_addCorner F1.2.1 c1.2.1 hn).use ⟨h7, ?_⟩
  generalize hC2 : pW C1 (A + 2) (nd (C1.1 (A + 2 + 1)) (prt P).1 (fun f => if f = 0 then x3 * 46656 else if f = 1 then v2 * 46656 else 0)) (nI ((prt P).1 + 1)) (C1.1 (A + 2) 2) = C2
  have F2 : tF S C0 C2 A T L := by rw [← hC2]; exact tF_p F1 (show P.1 + 1 ≤ 12 by omega)
  have a2 : C2.1 A = C1.1 A := by rw [← hC2]; exact pW_n (by omega) (by omega)
  have r2 : C2.1 (A + 2 + 1) = nd (C1.1 (A + 2 + 1)) P.1 (fun f => if f = 0 then x3 * 46656 else if f = 1 then v2 * 46656 else 0) := by rw [← hC2]; exact pW_row _ _ _ _ _
  have s2 : C2.1 (A + 2) 1 = nI (P.1 + 1) ∧ C2.1 (A + 2) 2 = bI P.2.1 := by rw [← hC2]; exact ⟨pW_s _ _ _ _ _, by rw [pW_c]; exact c1.2.2.1⟩
  rw [F2.2.2.1]
  refine (c_put F2.2.1 (k := P.1 - 1) rfl (by omega) (f := 4) rfl (by omega)).use ⟨h7, ?_⟩
  have F3 := tF_r (g := va_up (C2.1 (A + 2 + 1)) (8 * (P.1 - 1) + 4) ((y3 - P.2.2 (8 * (P.1 - 1))) * 46656)) F2
  rw [F3.2.2.1]
  refine (c_put F3.2.1 (k := P.1 - 1) rfl (by omega) (f := 5) rfl (by omega)).use ⟨h7, h7, ?_⟩
  rw [ax_rI_rI, ax_rI_t rfl]
  have F4 := tF_r (g := va_up (va_up (C2.1 (A + 2 + 1)) (8 * (P.1 - 1) + 4) ((y3 - P.2.2 (8 * (P.1 - 1))) * 46656)) (8 * (P.1 - 1) + 5) ((y6 - P.2.2 (8 * (P.1 - 1) + 1)) * 46656)) F2
  rw [F4.2.2.1, ax_rI_n (show A ≠ A + 2 + 1 by omega), a2, e5]
  refine (c_put F4.2.1 (k := P.1) rfl (by omega) (f := 2) rfl (by omega)).use ⟨h7, h7, ?_⟩
  rw [ax_rI_rI, ax_rI_t rfl]
  have F5 := tF_r (g := va_up (va_up (va_up (C2.1 (A + 2 + 1)) (8 * (P.1 - 1) + 4) ((y3 - P.2.2 (8 * (P.1 - 1))) * 46656)) (8 * (P.1 - 1) + 5) ((y6 - P.2.2 (8 * (P.1 - 1) + 1)) * 46656)) (8 * P.1 + 2) ((y9 - x3) * 46656)) F2
  rw [F5.2.2.1, ax_rI_n (show A ≠ A + 2 + 1 by omega), a2, e6]
  refine (c_put F5.2.1 (k := P.1) rfl (by omega) (f := 3) rfl (by omega)).use ?_
  rw [ax_rI_rI, ax_rI_t rfl]
  refine hK _ ⟨tF_r F2, ?_, ?_, hq, ⟨by show P.1 + 1 ≤ 12; omega, ?_, ?_, fun j hj => ?_⟩, fun _ => ⟨?_, ?_⟩⟩
  · rw [ax_rI_n (by omega), a2]; exact e2
  · rw [ax_rI_n (by omega), a2]; exact e3
  · rw [ax_rI_n (by omega)]; exact s2.1
  · rw [ax_rI_n (by omega)]; exact s2.2
  · have hj : j < 8 * (P.1 + 1) := hj
    rw [ax_rI_t rfl, r2]
    have hm : ∀ x : Int32, x * 1 = x := fun x => Int32.mul_one x
    show _ = nd (va_up (va_up P.2.2 (8 * (P.1 - 1) + 4) (y3 - P.2.2 (8 * (P.1 - 1)))) (8 * (P.1 - 1) + 5) (y6 - P.2.2 (8 * (P.1 - 1) + 1))) P.1 (cuN x3 v2 (y9 - x3) (y12 - v2)) j * (if j % 8 < 6 then 46656 else 1)
    unfold nd cuN
    by_cases z3 : j = 8 * P.1 + 3
    · rw [n_up_t z3, if_pos (by omega), if_neg (by omega), if_neg (by omega), if_neg (by omega), if_pos (by omega), if_pos (by omega)]
    rw [n_up_n z3]
    by_cases z2 : j = 8 * P.1 + 2
    · rw [n_up_t z2, if_pos (by omega), if_neg (by omega), if_neg (by omega), if_pos (by omega), if_pos (by omega)]
    rw [n_up_n z2]
    by_cases z1 : j = 8 * (P.1 - 1) + 5
    · rw [n_up_t z1, if_neg (by omega), n_up_t z1, if_pos (by omega)]
    rw [n_up_n z1]
    by_cases z0 : j = 8 * (P.1 - 1) + 4
    · rw [n_up_t z0, if_neg (by omega), n_up_n z1, n_up_t z0, if_pos (by omega)]
    rw [n_up_n z0]
    by_cases zz : 8 * P.1 ≤ j ∧ j < 8 * P.1 + 8
    · rw [if_pos zz, if_pos zz]
      dsimp only
      by_cases y0 : j - 8 * P.1 = 0
      · rw [if_pos y0, if_pos y0, if_pos (by omega)]
      · rw [if_neg y0, if_neg y0]
        by_cases y1 : j - 8 * P.1 = 1
        · rw [if_pos y1, if_pos y1, if_pos (by omega)]
        · rw [if_neg y1, if_neg y1, if_neg (by omega), if_neg (by omega), Int32.zero_mul]
    · rw [if_neg zz, if_neg zz, n_up_n z1, n_up_n z0]
      exact c1.2.2.2 j (show j < 8 * P.1 by omega)
  · rw [ax_rI_n (by omega), a2, e5]
    show x3 = nd _ _ _ (8 * (P.1 + 1 - 1))
    unfold nd cuN
    rw [if_pos (by omega), if_pos (by omega)]
  · rw [ax_rI_n (by omega), a2, e6]
    show v2 = nd _ _ _ (8 * (P.1 + 1 - 1) + 1)
    unfold nd cuN
    rw [if_pos (by omega), if_neg (by omega), if_pos (by omega)]
end
