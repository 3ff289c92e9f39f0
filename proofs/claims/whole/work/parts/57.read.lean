/-! ===== faultPosition, read ===== -/
section
variable {l : Launch} {D : ax_D} {S : ax_S} {E C : ax_C} {B pr : Nat} {τ : Nat → Nat} {A : ab_A}
theorem c_startF (h : zS S E C B τ pr A) : ax_CR l D mt_X7_startChange [ax_r (some B)] S C (fun r C' => (∃ σ, r = some (B + 3 + 14 * τ 11) ∧ dS S E C' B τ pr A (B + 3 + 14 * τ 11) σ (nw A) 0) ∧ C'.2 = C.2 ∧ ∀ b, B + 175 ≤ b → C'.1 b = C.1 b) := by
  obtain ⟨z1, z2, z3, z4⟩ := id h
  have t11 := z3.2.2.1.1 11 (by omega)
  refine vc_X7_startChange z1.1 ⟨z1.1, ?_⟩
  rw [z2.1.2.2.2.1]
  refine (c_start z1.2.2.2.2.2.2.2.2.1).mono ?_
  rintro C1 ⟨g, e1, hl⟩
  subst e1
  have h1 : zS S E (ax_rI C (B + 173) g) B τ pr A := by
    refine zS_fr h (fun b b1 b2 => ax_rI_n b2) (fun b _ => rfl) ?_
    obtain ⟨σ, hσ⟩ := z3.2.2.2.2.2.1 (τ 11) t11
    exact ⟨σ, ps_e hσ rfl⟩
  refine ⟨z1.1, ?_⟩
  show ax_CR l D mt_X1_draftOfNow [ax_r (C.2.2 B 0)] S _ _
  rw [z2.1.1]
  refine (c_draftOfNow h1).mono ?_
  rintro r C2 ⟨e1, e2, e3, ⟨σ, e4, e5⟩⟩
  refine ⟨⟨σ, e1, ?_, rfl, t11, e4, e5, ?_⟩, e2, fun b hb => ?_⟩
  · exact zS_fr h1 (fun b b1 _ => e3 b b1) (fun b _ => by rw [e2]) ⟨σ, e4⟩
  · obtain ⟨y1, y2, y3, y4⟩ := hl
    refine ⟨y1, ?_, ?_, ?_⟩
    · rw [e3 _ (by omega)]; exact y2
    · rw [e3 _ (by omega)]; exact y3
    · rw [e3 _ (by omega)]; exact y4
  · rw [e3 b (by omega), ax_rI_n (by omega)]
/-- the text's object of the class -/
theorem zS_tx (h : zS S E C B τ pr A) (hb : byt A.2.2.2.2.2.1 A.2.2.2.2.2.2.1) : tx0 S C (B + 175) A.2.2.2.2.2.1 A.2.2.2.2.2.2.1 ∧ pA S C (B + 175 + 2) ∧ C.2.2 (B + 175) 4 = some (B + 175 + 2) := by
  obtain ⟨z1, z2, z3, z4, z5, z6⟩ := h
  exact ⟨⟨z1.2.2.2.2.2.2.2.2.2.2.1, z1.2.2.2.2.2.2.2.2.2.2.2.1, z1.2.2.2.2.2.2.2.2.2.2.2.2.1, z2.2.2.2.1, z5.1, hb, z5.2.1⟩, z2.2.2.2.2.2.2, z2.2.2.2.2.1⟩
theorem zS_pt {C' : ax_C} (h : zS S E C B τ pr A) (hF : tF S C C' (B + 175) A.2.2.2.2.2.1 A.2.2.2.2.2.2.1) : zS S E C' B τ pr A := by
  obtain ⟨t1, t2, t3, t4, t5, t6⟩ := hF
  obtain ⟨z1, z2, z3, z4, z5, z6⟩ := id h
  refine zS_x h (fun b hb => t6 b (by omega) (by omega) (by omega)) t5 ⟨t1.2.2.2.2.1, t1.2.2.2.2.2.2, ?_, ?_, z5.2.2.2.2⟩
  · rw [t6 _ (by omega) (by omega) (by omega)]; exact z5.2.2.1
  · rw [t6 _ (by omega) (by omega) (by omega)]; exact z5.2.2.2.1
theorem o_fault (h : cls S E C B A) (hb : byt A.2.2.2.2.2.1 A.2.2.2.2.2.2.1) : ax_CI l D mt_X7_faultPosition [ax_r (some B)] S C (oQ S E B (flt A.2.2.2.2.2.1 A.2.2.2.2.2.2.1, A)) := by
  obtain ⟨τ, pr, h⟩ := h
  obtain ⟨t1, t2, t3⟩ := zS_tx h hb
  have h8 := h.1.1
  have r5 := h.2.1.1.2.2.2.2.2.1
  refine vc_X7_faultPosition h8 ⟨h8, ?_⟩
  rw [r5]
  refine s_parse t1 t2 t3 (fun P C' e u hl => ⟨h8, ?_⟩) fun q C' e hd => ⟨h8, ?_⟩
  · rw [hl.1.2.2.2.2.1, r5]
    refine ⟨t1.1, ?_, τ, pr, zS_pt h hl.1⟩
    rw [hl.2.2.1]
    unfold flt
    rw [e]
  · rw [hd.1.2.2.2.2.1, r5]
    refine ⟨t1.1, ?_, τ, pr, zS_pt h hd.1⟩
    rw [hd.2.1]
    unfold flt
    rw [e]
theorem o_read (h : cls S E C B A) (hb : byt A.2.2.2.2.2.1 A.2.2.2.2.2.2.1) : ax_CI l D mt_X7_read [ax_r (some B)] S C (oP S E B A (F_read (nw A) A.2.2.2.2.2.1 A.2.2.2.2.2.2.1)) := by
  obtain ⟨τ, pr, h⟩ := h
  obtain ⟨t1, t2, t3⟩ := zS_tx h hb
  have h8 := h.1.1
  have r5 := h.2.1.1.2.2.2.2.2.1
  refine vc_X7_read h8 ⟨h8, ?_⟩
  rw [r5]
  refine s_parse t1 t2 t3 (fun P C' e u hl => ⟨h8, ?_⟩) fun q C' e hd => ⟨h8, ?_⟩
  · rw [hl.1.2.2.2.2.1, r5]
    refine ⟨t1.1, fun _ => ?_, fun w => absurd hl.2.2.1 w⟩
    have h1 := zS_pt h hl.1
    refine (c_startF h1).mono ?_
    rintro r C3 ⟨⟨σ, rfl, hd⟩, e3, f3⟩
    have hc : cP C3 (B + 177) (prt P) := cP_fr hl.2.2.2.2.1 (f3 _ (by omega)) (f3 _ (by omega))
    obtain ⟨g1, g2, g3, g4, g5, g6⟩ := id hd
    refine (c_newPath g4 g5).mono ?_
    rintro r C5 (⟨hV, rfl, rfl⟩ | ⟨hV, rfl, e5, f5, hs⟩)
    · refine ⟨fun b hb => (by cases hb), fun _ => ?_⟩
      unfold F_read
      rw [e]
      dsimp only
      rw [if_pos hV]
      exact ⟨rfl, τ, pr, g1⟩
    · refine ⟨fun b hb => ⟨h8, ?_⟩, fun hb => by cases hb⟩
      rw [e5, g1.2.1.1.2.2.2.2.2.1]
      have hps : ps S C5 (B + 3 + 14 * τ 11) σ := ps_e g4 e5
      have sk := ps_1 (k := (nw A).1) g4 (by omega)
      have hc5 : cP C5 (B + 177) (prt P) := cP_fr hc (f5 _ (by omega)) (f5 _ (by omega))
      refine ⟨t1.1, ?_⟩
      rw [g1.2.1.2.2.2.2.1]
      have hPi := ps_4 (k := (nw A).1) hps (by omega)
      have hQi : pA S C5 (B + 177) := pA_2 g1.2.1.2.2.2.2.2.2 (by rw [e5])
      refine (c_copyFromP hPi hQi (by omega) (by omega) (by omega) ?_).use ⟨h8, ?_⟩
      · rw [hc5.2.2.1]
        cases (prt P).2.1
        · exact Or.inl rfl
        · exact Or.inr rfl
      generalize hC6 : pW C5 (B + 3 + 14 * τ 11 + 2 + 2 * σ (nw A).1) (fun q => if q < 96 then C5.1 (B + 177 + 1) q else C5.1 (B + 3 + 14 * τ 11 + 2 + 2 * σ (nw A).1 + 1) q) (C5.1 (B + 177) 1) (C5.1 (B + 177) 2) = C6
      have e6 : C6.2 = C3.2 := by rw [← hC6, pW_2, e5]
      have f6 : ∀ b, b ≠ B + 3 + 14 * τ 11 + 2 + 2 * σ (nw A).1 → b ≠ B + 3 + 14 * τ 11 + 2 + 2 * σ (nw A).1 + 1 → C6.1 b = C5.1 b := fun b b1 b2 => by rw [← hC6]; exact pW_n b1 b2
      have hz : zS S E C6 B τ pr A := zS_fr g1 (fun b b1 b2 => by rw [f6 b (by omega) (by omega), f5 b (by omega)]) (fun b _ => by rw [e6]) ⟨σ, ps_e g4 e6⟩
      rw [e6, g1.2.1.1.1]
      refine (c_now hz).use ?_
      obtain ⟨σn, n1, n2⟩ := now_pc hz
      refine ⟨n1.1, ?_⟩
      rw [n2.2.1]
      have hc6 : cP C6 (B + 3 + 14 * τ 11 + 2 + 2 * σ (nw A).1) (prt P) := by
        rw [← hC6]
        refine ⟨hc5.1, by rw [pW_s]; exact hc5.2.1, by rw [pW_c]; exact hc5.2.2.1, fun q hq => ?_⟩
        rw [pW_row]
        have := hc5.1
        show (if q < 96 then C5.1 (B + 177 + 1) q else _) = _
        rw [if_pos (by omega)]
        exact hc5.2.2.2 q hq
      have hres : F_read (nw A) A.2.2.2.2.2.1 A.2.2.2.2.2.2.1 = (nI (nw A).1, some (addP (nw A) (prt P))) := by
        unfold F_read
        rw [e]
        dsimp only
        rw [if_neg (by omega)]
      rw [hres]
      refine s_end2 (V := addP (nw A) (prt P)) hz rfl ?_ ⟨σ, ps_e g4 e6, ?_⟩ fun C2 hC => ⟨rfl, hC⟩
      · exact lA_fr g6 (by rw [f6 _ (by omega) (by omega), f5 _ (by omega)])
      · have := sh_set (k := (nw A).1) (P := prt P) (C' := C6) hps hs (by show _ < _ + 1; omega) (fun b b1 b2 b3 b4 => f6 b b3 b4) hc6
        have e : va_up (va_up (nw A).2 (nw A).1 ((0, false, fun _ => 0) : ab_P)) (nw A).1 (prt P) = va_up (nw A).2 (nw A).1 (prt P) := bx_uu _ _ _ _
        unfold addP
        rw [← e]
        exact this
  · rw [hd.1.2.2.2.2.1, r5]
    refine ⟨t1.1, fun w => absurd w (tD_n hd), fun _ => ?_⟩
    unfold F_read
    rw [e]
    exact ⟨rfl, τ, pr, zS_pt h hd.1⟩
end
