/-! ===== the class's text: curves ===== -/
theorem bt_200 {x : Int32} : bt x (-200) 200 = true ↔ -200 ≤ x.toInt ∧ x.toInt ≤ 200 := by
  have e1 : (200 : Int32).toInt = 200 := rfl
  have e2 : (-200 : Int32).toInt = -200 := rfl
  unfold bt
  simp only [Bool.and_eq_true, Bool.not_eq_true', decide_eq_false_iff_not, Int32.not_lt, Int32.le_iff_toInt_le, e1, e2]
/-- a told path: nodes and handles within 200 -/
def uP (P : ab_P) : Prop := P.1 ≤ 12 ∧ (P.2.1 = true → 2 ≤ P.1) ∧ ∀ k, k < P.1 → (∀ f, f < 6 → -200 ≤ (P.2.2 (8 * k + f)).toInt ∧ (P.2.2 (8 * k + f)).toInt ≤ 200) ∧ P.2.2 (8 * k + 6) = 0 ∧ P.2.2 (8 * k + 7) = 0
section
variable {l : Launch} {D : ax_D} {S : ax_S} {C0 C : ax_C} {A L : Nat} {T : Nat → Int32}
theorem po_some {a q : Nat} {fx fy : Int32} {w : Int32 × Int32} (h : po T L fx fy a = (some w, q)) : ∃ q1, nu T L fx a = (some w.1, q1) ∧ hr T L q1 = 32 ∧ nu T L fy (q1 + 1) = (some w.2, q) := by
  unfold po at h
  cases h1 : nu T L fx a with
  | mk o1 q1 =>
    rw [h1] at h
    cases o1 with
    | none => cases h
    | some x =>
      dsimp only at h
      by_cases hs : hr T L q1 = 32
      · rw [if_pos hs] at h
        cases h2 : nu T L fy (q1 + 1) with
        | mk o2 q2 =>
          rw [h2] at h
          cases o2 with
          | none => cases h
          | some y =>
            dsimp only at h
            have e1 := Option.some.inj (congrArg Prod.fst h)
            have e2 : q2 = q := congrArg Prod.snd h
            subst e2
            rw [← e1]
            exact ⟨q1, rfl, hs, h2⟩
      · rw [if_neg hs] at h; cases h
theorem D_curve {q : Nat} {K : ax_C → Prop} (h : tD S C0 C A T L q) (hK : ∀ C', tD S C0 C' A T L q → K C') : ax_CV l D mt_X6_takeCurve [ax_r (some A)] S C K := by
  have h7 := h.1.1.1
  have hP := h.1.2.1
  refine vc_X6_takeCurve h7 ⟨h7, ?_⟩
  rw [h.1.2.2.1]
  refine ⟨hP.1, h7, D_tn h fun _ C1 d1 => ⟨h7, D_tb d1 fun C2 d2 => ⟨h7, D_tn d2 fun _ C3 d3 => ⟨h7, D_tb d3 fun C4 d4 => D_tn d4 fun _ C5 d5 => D_tb d5 fun C6 d6 => D_tn d6 fun _ C7 d7 => D_tb d7 fun C8 d8 => D_tn d8 fun v C9 d9 => ⟨h7, D_tb (tD_w d9 (by omega) (by omega)) fun C10 d10 => D_tn d10 fun v2 C11 d11 => ⟨h7, h7, h7, h7, ?_⟩⟩⟩⟩⟩⟩
  have d12 := tD_w (x := v2) d11 (k := 6) (by omega) (by omega)
  rw [d12.1.2.2.1]
  refine D_ac d12 fun C13 d13 => ⟨h7, ?_⟩
  rw [d13.1.2.2.1]
  refine D_put d13 fun C14 d14 => ⟨h7, ?_⟩
  rw [d14.1.2.2.1]
  refine D_put d14 fun C15 d15 => ⟨h7, h7, ?_⟩
  rw [d15.1.2.2.1]
  refine D_put d15 fun C16 d16 => ⟨h7, h7, ?_⟩
  rw [d16.1.2.2.1]
  exact D_put d16 hK
end
