/-! ===== the class's text: a number ===== -/
section
variable {l : Launch} {D : ax_D} {S : ax_S} {E C : ax_C} {A L : Nat} {T : Nat → Int32}
/-- after a fault: the place of the fault stands, the place in the text may be any -/
def dF (C C' : ax_C) (A : Nat) (y : Int32) : Prop := ∃ f, C' = ax_rI C A f ∧ f 3 = y ∧ ∀ k, k ≠ 2 → k ≠ 3 → f k = C.1 A k
theorem dF_self (C : ax_C) (A : Nat) : dF C C A (C.1 A 3) := ⟨C.1 A, (ax_rI_id C A).symm, rfl, fun _ _ _ => rfl⟩
theorem dF_2 {C C' : ax_C} {A : Nat} {y x : Int32} (h : dF C C' A y) : dF C (ax_wI C' A 2 x) A y := by
  obtain ⟨f, rfl, h1, h2⟩ := h
  refine ⟨va_up f 2 x, by rw [ax_wI_rI, ax_rI_rI, ax_rI_t rfl], by rw [n_up_n (by omega)]; exact h1, fun k k1 k2 => by rw [n_up_n k1]; exact h2 k k1 k2⟩
theorem dF_3 {C C' : ax_C} {A : Nat} {y x : Int32} (h : dF C C' A y) : dF C (ax_wI C' A 3 x) A x := by
  obtain ⟨f, rfl, h1, h2⟩ := h
  refine ⟨va_up f 3 x, by rw [ax_wI_rI, ax_rI_rI, ax_rI_t rfl], n_up_t rfl, fun k k1 k2 => by rw [n_up_n k2]; exact h2 k k1 k2⟩
theorem dF_f {C C' : ax_C} {A : Nat} {y : Int32} (h : dF C C' A y) : C'.1 A 3 = y ∧ (∀ k, k ≠ 2 → k ≠ 3 → C'.1 A k = C.1 A k) ∧ C'.2 = C.2 ∧ ∀ b, b ≠ A → C'.1 b = C.1 b := by
  obtain ⟨f, rfl, h1, h2⟩ := h
  exact ⟨by rw [ax_rI_t rfl]; exact h1, fun k k1 k2 => by rw [ax_rI_t rfl]; exact h2 k k1 k2, rfl, fun b hb => ax_rI_n hb⟩
theorem tx0_d {C' : ax_C} {y : Int32} (h : tx0 S C A T L) (hd : dF C C' A y) : tx0 S C' A T L := by
  obtain ⟨f, rfl, h1, h2⟩ := hd
  exact tx0_r h (h2 1 (by omega) (by omega))
theorem s_tnD {x : Int32} {P : Int32 → ax_C → Prop} (h : tx0 S C A T L) (hf : C.1 A 3 ≠ NO) (hP : ∀ v C', dF C C' A (C.1 A 3) → P v C') : ax_CI l D mt_X6_takeNumber [ax_r (some A), ax_i x] S C P := by
  refine vc_X6_takeNumber h.1 fun P19 P34 P62 P72 P100 P123 h19 h34 h62 h72 h100 h123 => ⟨h.1, ?_⟩
  have b34 : ∀ (x2 x3 : Int32) (C1 : ax_C), dF C C1 A (C.1 A 3) → P34 x2 x3 C1 := by
    intro x2 x3 C1 hd
    have hT := tx0_d h hd
    have h3 := (dF_f hd).1
    refine h34 _ _ _ (s_nbD hT fun y => ⟨h.1, fun _ => h72 _ ⟨h.1, s_stopD hT (by rw [h3]; exact hf) (hP _ _ hd)⟩, fun q => ?_⟩)
    rw [h3] at q
    exact absurd q hf
  have b19 : ∀ (x2 t0 : Int32), P19 x2 t0 C := fun x2 t0 => h19 _ _ _ ⟨fun _ => b34 _ _ _ (dF_self C A), fun _ => ⟨h.1, h.1, b34 _ _ _ (dF_2 (dF_self C A))⟩⟩
  exact s_nbD h fun y => ⟨fun _ => b19 _ _, fun _ => b19 _ _⟩
theorem nI_neg {m : Nat} (h : m ≤ 2000) : (-(nI m)).toInt = -(m : Int) := by
  rw [Int32.toInt_neg, n_toInt (by omega), Int.bmod_eq_of_le (by omega) (by omega)]
theorem s_tn {a : Nat} {x : Int32} {P : Int32 → ax_C → Prop} (h : tx0 S C A T L) (ha : C.1 A 2 = nI a) (hal : a < 400) (hf : C.1 A 3 = NO) (hx : -200 ≤ x.toInt ∧ x.toInt ≤ 200) (h1 : ∀ v q, nu T L x a = (some v, q) → P v (ax_wI C A 2 (nI q))) (h0 : ∀ q, nu T L x a = (none, q) → ∀ v C', dF C C' A (nI q) → P v C') : ax_CI l D mt_X6_takeNumber [ax_r (some A), ax_i x] S C P := by
  refine vc_X6_takeNumber h.1 fun P19 P34 P62 P72 P100 P123 h19 h34 h62 h72 h100 h123 => ⟨h.1, s_nb h ha (by omega) ?_⟩
  rw [ha]
  have fltP : ∀ (b : Nat) (C1 : ax_C), dF C C1 A NO → C1.1 A 2 = nI b → nu T L x a = (none, b) → P72 C1 := by
    intro b C1 hd hb hn
    refine h72 _ ⟨h.1, ?_⟩
    rw [hb]
    exact s_stop (tx0_d h hd) (dF_f hd).1 (h0 b hn 0 _ (dF_3 hd))
  have d0 : dF C C A NO := by have := dF_self C A; rw [hf] at this; exact this
  -- the digits and what comes behind
  have digits : ∀ (mi : Bool) (b : Nat) (C1 : ax_C), b < 450 → C1 = ax_wI C A 2 (nI b) → isd (hr T L b) = true → (∀ _ : Nat, (200 < (nuV T L b).1 ∨ bt ((if mi = true then -(nI (nuV T L b).1) else nI (nuV T L b).1) - x) (-200) 200 = false) → nu T L x a = (none, a)) → (¬ (200 < (nuV T L b).1 ∨ bt ((if mi = true then -(nI (nuV T L b).1) else nI (nuV T L b).1) - x) (-200) 200 = false) → nu T L x a = (some (if mi = true then -(nI (nuV T L b).1) else nI (nuV T L b).1), (nuV T L b).2)) → ax_CI l D mt_X6_takeDigits [ax_r (some A)] S C1 (fun y6 C5 => (bI mi = 0 → P100 (nI a) y6 y6 C5) ∧ (¬ bI mi = 0 → P100 (nI a) y6 (-y6) C5)) := by
    intro mi b C1 hb hC1 hd hbad hgood
    subst hC1
    have hT : tx0 S (ax_wI C A 2 (nI b)) A T L := tx0_w h (by omega)
    refine s_dig hT (by rw [ax_wI_t rfl, n_up_t rfl]) (by omega) hd ?_
    rw [wI_2]
    have b100 : ∀ t0 : Int32, t0 = (if mi = true then -(nI (min (nuV T L b).1 2000)) else nI (min (nuV T L b).1 2000)) → P100 (nI a) (nI (min (nuV T L b).1 2000)) t0 (ax_wI C A 2 (nI (nuV T L b).2)) := by
      intro t0 ht
      have b123 : ∀ t0, (200 < (nuV T L b).1 ∨ bt ((if mi = true then -(nI (nuV T L b).1) else nI (nuV T L b).1) - x) (-200) 200 = false) → P123 (nI a) t0 (ax_wI C A 2 (nI (nuV T L b).2)) := by
        intro t0 hbd
        refine h123 _ _ _ (s_stop (tx0_w h (by omega)) (by rw [ax_wI_t rfl, n_up_n (by omega)]; exact hf) ?_)
        exact h0 a (hbad 0 hbd) _ _ (dF_3 (dF_2 d0))
      refine h100 _ _ _ _ ⟨fun q => b123 _ (Or.inl ?_), fun q => ?_⟩
      · rcases Nat.lt_or_ge 200 (nuV T L b).1 with w | w
        · exact w
        · exact absurd q (nI_nlt (b := min (nuV T L b).1 2000) (a := 200) (by omega) (by omega))
      · have hv : (nuV T L b).1 ≤ 200 := by
          rcases Nat.lt_or_ge 200 (nuV T L b).1 with w | w
          · exact absurd (nI_lt (a := 200) (show 200 < min (nuV T L b).1 2000 by omega) (by omega)) q
          · exact w
        rw [show min (nuV T L b).1 2000 = (nuV T L b).1 by omega] at ht
        have hrange : -1000 ≤ (t0 - x).toInt ∧ (t0 - x).toInt ≤ 1000 := by
          have ht' : -200 ≤ t0.toInt ∧ t0.toInt ≤ 200 := by
            rw [ht]
            cases mi
            · rw [if_neg (by decide), n_toInt (by omega)]; omega
            · rw [if_pos rfl, nI_neg (by omega)]; omega
          rw [Int32.toInt_sub, Int.bmod_eq_of_le (by omega) (by omega)]
          omega
        rw [abs_bt hrange, ht]
        refine ⟨fun q2 => ?_, fun q2 => b123 _ (Or.inr (by simpa using q2))⟩
        refine h1 _ _ (hgood ?_)
        rintro (w | w)
        · omega
        · rw [w] at q2; cases q2
    cases mi
    · exact ⟨fun _ => b100 _ (by rw [if_neg (by decide)]), fun q => absurd rfl q⟩
    · exact ⟨fun q => absurd q (by decide), fun _ => b100 _ (by rw [if_pos rfl])⟩
  have eC : C = ax_wI C A 2 (nI a) := by
    rw [← ha, ax_wI_rI]
    have : va_up (C.1 A) 2 (C.1 A 2) = C.1 A := by
      funext j
      by_cases z : j = 2
      · rw [n_up_t z, z]
      · rw [n_up_n z]
    rw [this, ax_rI_id]
  have first : ∀ (mi : Bool) (b : Nat) (C1 : ax_C), b < 450 → C1 = ax_wI C A 2 (nI b) → (isd (hr T L b) = false ∨ (mi = true ∧ hr T L b = 48) → nu T L x a = (none, b)) → (¬ (isd (hr T L b) = false ∨ (mi = true ∧ hr T L b = 48)) → ∀ _ : Nat, (200 < (nuV T L b).1 ∨ bt ((if mi = true then -(nI (nuV T L b).1) else nI (nuV T L b).1) - x) (-200) 200 = false) → nu T L x a = (none, a)) → (¬ (isd (hr T L b) = false ∨ (mi = true ∧ hr T L b = 48)) → ¬ (200 < (nuV T L b).1 ∨ bt ((if mi = true then -(nI (nuV T L b).1) else nI (nuV T L b).1) - x) (-200) 200 = false) → nu T L x a = (some (if mi = true then -(nI (nuV T L b).1) else nI (nuV T L b).1), (nuV T L b).2)) → P34 (nI a) (bI mi) C1 := by
    intro mi b C1 hb hC1 hbad1 hbad2 hgood
    have hat : C1.1 A 2 = nI b := by rw [hC1, ax_wI_t rfl, n_up_t rfl]
    have hd1 : dF C C1 A NO := by rw [hC1]; exact dF_2 d0
    have hT := tx0_d h hd1
    refine h34 _ _ _ (s_nb hT hat (by omega) ⟨h.1, fun q => absurd (dF_f hd1).1 q, fun _ => ?_⟩)
    have b62 : ∀ lo : Int32, lo = (if mi = true then 49 else 48) → P62 (nI a) (bI mi) (hr T L b) (hr T L b) lo C1 := by
      intro lo hlo
      have bad : (isd (hr T L b) = false ∨ (mi = true ∧ hr T L b = 48)) → P72 C1 := fun w => fltP b C1 hd1 hat (hbad1 w)
      refine h62 _ _ _ _ _ _ ⟨fun q => bad ?_, fun q => ⟨fun q2 => ?_, fun q2 => bad ?_⟩⟩
      · cases mi
        · refine Or.inl ?_
          rw [hlo, if_neg (by decide)] at q
          unfold isd bt
          rw [decide_eq_true q]; rfl
        · rw [hlo, if_pos rfl] at q
          by_cases w : hr T L b < 48
          · refine Or.inl ?_
            unfold isd bt
            rw [decide_eq_true w]; rfl
          · refine Or.inr ⟨rfl, ?_⟩
            have e1 : (48 : Int32).toInt = 48 := rfl
            have e2 : (49 : Int32).toInt = 49 := rfl
            rw [Int32.lt_iff_toInt_lt, e2] at q
            rw [Int32.lt_iff_toInt_lt, e1] at w
            apply Int32.toInt_inj.mp
            rw [e1]; omega
      · have hnb : ¬ (isd (hr T L b) = false ∨ (mi = true ∧ hr T L b = 48)) := by
          rintro (w | w)
          · unfold isd bt at w
            have u1 : ¬ hr T L b < 48 := by
              cases mi
              · rw [hlo, if_neg (by decide)] at q; exact q
              · rw [hlo, if_pos rfl] at q
                intro u
                exact q (Int32.lt_trans u (by decide))
            have u2 : ¬ 57 < hr T L b := Int32.not_lt.mpr q2
            rw [decide_eq_false u1, decide_eq_false u2] at w
            cases w
          · rw [hlo, w.1, if_pos rfl, w.2] at q
            exact q (by decide)
        have hd : isd (hr T L b) = true := by
          cases hq : isd (hr T L b)
          · exact absurd (Or.inl hq) hnb
          · rfl
        exact digits mi b C1 hb hC1 hd (hbad2 hnb) (hgood hnb)
      · refine Or.inl ?_
        unfold isd bt
        rw [decide_eq_true (Int32.not_le.mp q2), Bool.not_true, Bool.and_false]
    cases mi
    · exact ⟨fun _ => b62 48 (by rw [if_neg (by decide)]), fun q => absurd rfl q⟩
    · exact ⟨fun q => absurd q (by decide), fun _ => b62 49 (by rw [if_pos rfl])⟩
  refine ⟨fun q => h19 _ _ _ ⟨fun _ => ?_, fun q2 => absurd rfl q2⟩, fun q => h19 _ _ _ ⟨fun q2 => absurd q2 (by decide), fun _ => ⟨h.1, h.1, ?_⟩⟩⟩
  · refine first false a C (by omega) eC (fun w => ?_) (fun w _ w2 => ?_) fun w w2 => ?_
    · have w : isd (hr T L a) = false := by
        rcases w with u | u
        · exact u
        · cases u.1
      unfold nu
      rw [if_neg q, if_pos w]
    · unfold nu
      rw [if_neg (show ¬ ((false : Bool) = true) by decide)] at w2
      rw [if_neg q, if_neg (fun u => w (Or.inl u)), if_pos w2]
    · unfold nu
      rw [if_neg (show ¬ ((false : Bool) = true) by decide)] at w2 ⊢
      rw [if_neg q, if_neg (fun u => w (Or.inl u)), if_neg w2]
  · rw [ha, n_succ]
    refine first true (a + 1) _ (by omega) rfl (fun w => ?_) (fun w _ w2 => ?_) fun w w2 => ?_
    · have w : isd (hr T L (a + 1)) = false ∨ hr T L (a + 1) = 48 := by
        rcases w with u | u
        · exact Or.inl u
        · exact Or.inr u.2
      unfold nu
      rw [if_pos q, if_pos w]
    · have w' : ¬ (isd (hr T L (a + 1)) = false ∨ hr T L (a + 1) = 48) := by
        rintro (u | u)
        · exact w (Or.inl u)
        · exact w (Or.inr ⟨rfl, u⟩)
      unfold nu
      rw [if_pos rfl] at w2
      rw [if_pos q, if_neg w', if_pos w2]
    · have w' : ¬ (isd (hr T L (a + 1)) = false ∨ hr T L (a + 1) = 48) := by
        rintro (u | u)
        · exact w (Or.inl u)
        · exact w (Or.inr ⟨rfl, u⟩)
      unfold nu
      rw [if_pos rfl] at w2 ⊢
      rw [if_pos q, if_neg w', if_neg w2]
end
