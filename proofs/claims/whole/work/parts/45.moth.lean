/-! ===== the reference's undo, redo, slots ===== -/
section
variable {l : Launch} {D : ax_D} {S : ax_S} {E C : ax_C} {M : Nat} {A : ab_A}
theorem m_undo (h : mdl S E C M A) : ax_CI l D mt_X8_undo [ax_r (some M)] S C (pQ S E M (F_undo A)) := by
  obtain ⟨⟨z1, z2, z3, z4, z5, z6, z7, z8, z9⟩, hv⟩ := id h
  have k1 := z1.2.1
  have k3 := z1.2.2.2.1
  have k4 := z1.2.2.2.2.1
  have haf := z2.2.2
  unfold F_undo
  refine vc_X8_undo z1.1 ⟨z1.1, ?_⟩
  rw [z2.1]
  by_cases z : A.2.1 = 0
  · rw [if_pos z, z]
    exact ⟨fun q => absurd rfl q, fun _ => ⟨rfl, h⟩⟩
  rw [if_neg z]
  refine ⟨fun _ => ⟨z1.1, z1.1, z1.1, ?_⟩, fun q => absurd q (nI_ne0 (by omega) (by omega))⟩
  rw [k1.2.2, k4.2.2, z2.2.1, n_lit589, n_mul]
  refine (c8_copies (i1 := 0) z1.1 k1.1 k4.1 (by omega) rfl rfl (by rw [k1.2.1]; omega) (by rw [k4.2.1]; omega) (by rw [k1.2.1]; omega) (by rw [k4.2.1]; omega)).use ⟨z1.1, z1.1, z1.1, z1.1, z1.1, z1.1, z1.1, ?_⟩
  generalize hC1 : ax_rI C (M + 4) (fun j => if 589 * A.2.2.1 ≤ j ∧ j < 589 * A.2.2.1 + 589 then C.1 (M + 1) (0 + (j - 589 * A.2.2.1)) else C.1 (M + 4) j) = C1
  have g1 : ∀ b, b ≠ M + 4 → C1.1 b = C.1 b := fun b hb => by rw [← hC1]; exact ax_rI_n hb
  have g2 : C1.2 = C.2 := by rw [← hC1]; rfl
  have e5 : C1.1 M 5 + 1 = nI (A.2.2.1 + 1) := by rw [g1 _ (by omega), z2.2.1, n_succ]
  rw [e5]
  have e3 : (ax_wI C1 M 5 (nI (A.2.2.1 + 1))).1 M 3 - 1 = nI (A.2.1 - 1) := by
    rw [ax_wI_t rfl, n_up_n (by omega), g1 _ (by omega), z2.1, n_lit1, n_sub (by omega)]
  rw [e3]
  generalize hC2 : ax_wI (ax_wI C1 M 5 (nI (A.2.2.1 + 1))) M 3 (nI (A.2.1 - 1)) = C2
  have f1 : ∀ b, b ≠ M → b ≠ M + 4 → C2.1 b = C.1 b := fun b b1 b2 => by rw [← hC2, ax_wI_n b1, ax_wI_n b1]; exact g1 b b2
  have f2 : C2.2 = C.2 := by rw [← hC2]; exact g2
  have f3 : C2.1 M 3 = nI (A.2.1 - 1) := by rw [← hC2, ax_wI_t rfl, n_up_t rfl]
  have f5 : C2.1 M 5 = nI (A.2.2.1 + 1) := by rw [← hC2, ax_wI_t rfl, n_up_n (by omega), ax_wI_t rfl, n_up_t rfl]
  have fk : ∀ k, k ≠ 3 → k ≠ 5 → C2.1 M k = C.1 M k := fun k a b => by rw [← hC2, ax_wI_t rfl, n_up_n a, ax_wI_t rfl, n_up_n b, g1 _ (by omega)]
  have f4 : C2.1 (M + 4) = fun j => if 589 * A.2.2.1 ≤ j ∧ j < 589 * A.2.2.1 + 589 then C.1 (M + 1) (0 + (j - 589 * A.2.2.1)) else C.1 (M + 4) j := by
    rw [← hC2, ax_wI_n (by omega), ax_wI_n (by omega), ← hC1, ax_rI_t rfl]
  rw [f2, k3.2.2, k1.2.2, f3, n_mul]
  refine (c8_copies (C := C2) (i2 := 0) z1.1 k3.1 k1.1 (by omega) rfl rfl (by rw [k3.2.1]; omega) (by rw [k1.2.1]; omega) (by rw [k3.2.1]; omega) (by rw [k1.2.1]; omega)).use ⟨z1.1, ?_, ⟨?_, ⟨?_, ?_, ?_⟩, fun j hj => ?_, fun j hj => ?_, ?_, ?_, ?_, z8, ?_⟩, ?_⟩
  · rw [ax_rI_n (by omega)]; exact f3
  · show mK S C2 M
    unfold mK
    rw [f2]; exact z1
  · rw [ax_rI_n (by omega)]; exact f3
  · rw [ax_rI_n (by omega)]; exact f5
  · show A.2.1 - 1 + (A.2.2.1 + 1) ≤ 10
    omega
  · have hj : j < A.2.1 - 1 := hj
    rw [ax_rI_n (by omega), f1 _ (by omega) (by omega)]
    exact z3 j (by omega)
  · have hj : j < A.2.2.1 + 1 := hj
    rw [ax_rI_n (by omega), f4]
    show vR _ (A.1 (A.2.1 - 1 + (A.2.2.1 + 1) - j))
    by_cases w : j = A.2.2.1
    · subst w
      rw [show A.2.1 - 1 + (A.2.2.1 + 1) - A.2.2.1 = A.2.1 by omega]
      refine vR_fr hv fun q hq => ?_
      unfold blk
      dsimp only
      rw [if_pos (by omega)]
      exact congrArg _ (by omega)
    · rw [show A.2.1 - 1 + (A.2.2.1 + 1) - j = A.2.1 + A.2.2.1 - j by omega]
      refine vR_fr (z4 j (by omega)) fun q hq => ?_
      unfold blk
      dsimp only
      rw [if_neg (by omega)]
  · rw [ax_rI_n (by omega), ax_rI_n (by omega), f1 _ (by omega) (by omega), f1 _ (by omega) (by omega)]; exact z5
  · rw [ax_rI_n (by omega), ax_rI_n (by omega), fk _ (by omega) (by omega), f1 _ (by omega) (by omega)]; exact z6
  · rw [ax_rI_n (by omega), ax_rI_n (by omega), fk _ (by omega) (by omega), f1 _ (by omega) (by omega)]; exact z7
  · intro b hb
    rw [ax_rI_n (by omega), f1 b (by omega) (by omega)]
    show _ ∧ C2.2.2 b = _
    rw [f2]
    exact z9 b hb
  · rw [ax_rI_t rfl]
    show vR _ (A.1 (A.2.1 - 1))
    refine vR_fr (z3 (A.2.1 - 1) (by omega)) fun q hq => ?_
    rw [if_pos (by omega), f1 _ (by omega) (by omega)]
    unfold blk
    exact congrArg _ (by omega)
theorem m_redo (h : mdl S E C M A) : ax_CI l D mt_X8_redo [ax_r (some M)] S C (pQ S E M (F_redo A)) := by
  obtain ⟨⟨z1, z2, z3, z4, z5, z6, z7, z8, z9⟩, hv⟩ := id h
  have k1 := z1.2.1
  have k3 := z1.2.2.2.1
  have k4 := z1.2.2.2.2.1
  have haf := z2.2.2
  unfold F_redo
  refine vc_X8_redo z1.1 ⟨z1.1, ?_⟩
  rw [z2.2.1]
  by_cases z : A.2.2.1 = 0
  · rw [if_pos z, z]
    exact ⟨fun q => absurd rfl q, fun _ => ⟨rfl, h⟩⟩
  rw [if_neg z]
  refine ⟨fun _ => ⟨z1.1, ?_⟩, fun q => absurd q (nI_ne0 (by omega) (by omega))⟩
  rw [k1.2.2]
  have ha10 : A.2.1 < 10 := by omega
  refine (c8_pushes (W := A.1) z1 z2.1 (by omega) k1.1 k1.2.1 (by omega) (by omega) z3 hv).mono ?_
  rintro C1 ⟨e2, e1, e3, e4, e5⟩
  rw [if_pos ha10] at e4 e5
  refine ⟨z1.1, z1.1, z1.1, z1.1, z1.1, ?_⟩
  have q5 : C1.1 M 5 - 1 = nI (A.2.2.1 - 1) := by rw [e3 5 (by omega), z2.2.1, n_lit1, n_sub (by omega)]
  rw [q5]
  generalize hC2 : ax_wI C1 M 5 (nI (A.2.2.1 - 1)) = C2
  have f1 : ∀ b, b ≠ M → C2.1 b = C1.1 b := fun b b1 => by rw [← hC2, ax_wI_n b1]
  have f2 : C2.2 = C.2 := by rw [← hC2]; exact e2
  have f3 : C2.1 M 3 = nI (A.2.1 + 1) := by rw [← hC2, ax_wI_t rfl, n_up_n (by omega)]; exact e4
  have f5 : C2.1 M 5 = nI (A.2.2.1 - 1) := by rw [← hC2, ax_wI_t rfl, n_up_t rfl]
  have fk : ∀ k, k ≠ 3 → k ≠ 5 → C2.1 M k = C.1 M k := fun k a b => by rw [← hC2, ax_wI_t rfl, n_up_n b]; exact e3 k a
  rw [f2, k4.2.2, k1.2.2, f5, n_lit589, n_mul]
  refine (c8_copies (C := C2) (i2 := 0) z1.1 k4.1 k1.1 (by omega) rfl rfl (by rw [k4.2.1]; omega) (by rw [k1.2.1]; omega) (by rw [k4.2.1]; omega) (by rw [k1.2.1]; omega)).use ⟨z1.1, ?_, ⟨?_, ⟨?_, ?_, ?_⟩, fun j hj => ?_, fun j hj => ?_, ?_, ?_, ?_, z8, ?_⟩, ?_⟩
  · rw [ax_rI_n (by omega)]; exact f5
  · show mK S C2 M
    unfold mK
    rw [f2]; exact z1
  · rw [ax_rI_n (by omega)]; exact f3
  · rw [ax_rI_n (by omega)]; exact f5
  · show A.2.1 + 1 + (A.2.2.1 - 1) ≤ 10
    omega
  · have hj : j < A.2.1 + 1 := hj
    rw [ax_rI_n (by omega), f1 _ (by omega)]
    have := e5 j hj
    rw [if_pos ha10] at this
    exact this
  · have hj : j < A.2.2.1 - 1 := hj
    rw [ax_rI_n (by omega), f1 _ (by omega), e1 _ (by omega) (by omega)]
    show vR _ (A.1 (A.2.1 + 1 + (A.2.2.1 - 1) - j))
    rw [show A.2.1 + 1 + (A.2.2.1 - 1) - j = A.2.1 + A.2.2.1 - j by omega]
    exact z4 j (by omega)
  · rw [ax_rI_n (by omega), ax_rI_n (by omega), f1 _ (by omega), f1 _ (by omega), e1 _ (by omega) (by omega), e1 _ (by omega) (by omega)]; exact z5
  · rw [ax_rI_n (by omega), ax_rI_n (by omega), fk _ (by omega) (by omega), f1 _ (by omega), e1 _ (by omega) (by omega)]; exact z6
  · rw [ax_rI_n (by omega), ax_rI_n (by omega), fk _ (by omega) (by omega), f1 _ (by omega), e1 _ (by omega) (by omega)]; exact z7
  · intro b hb
    rw [ax_rI_n (by omega), f1 b (by omega), e1 b (by omega) (by omega)]
    show _ ∧ C2.2.2 b = _
    rw [f2]
    exact z9 b hb
  · rw [ax_rI_t rfl]
    show vR _ (A.1 (A.2.1 + 1))
    have := z4 (A.2.2.1 - 1) (by omega)
    rw [show A.2.1 + A.2.2.1 - (A.2.2.1 - 1) = A.2.1 + 1 by omega] at this
    refine vR_fr this fun q hq => ?_
    rw [if_pos (by omega), f1 _ (by omega), e1 _ (by omega) (by omega)]
    unfold blk
    exact congrArg _ (by omega)
theorem m_save {x : Int32} (h : mdl S E C M A) : ax_CI l D mt_X8_save [ax_r (some M), ax_i x] S C (pQ S E M (F_save A x)) := by
  obtain ⟨⟨z1, z2, z3, z4, z5, z6, z7, z8, z9⟩, hv⟩ := id h
  have k1 := z1.2.1
  have k5 := z1.2.2.2.2.2.1
  have k6 := z1.2.2.2.2.2.2.1
  unfold F_save
  refine vc_X8_save z1.1 (c8_in.use ?_)
  have hb : bt x 0 1 = (ix x 2).isSome := bt_ix (m := 2) (by omega)
  rw [hb]
  cases hi : ix x 2 with
  | none => exact ⟨fun q => absurd rfl q, fun _ => ⟨rfl, h⟩⟩
  | some s =>
    obtain ⟨hs, w2⟩ := ix_of (by omega) hi
    subst w2
    refine ⟨fun _ => ⟨z1.1, z1.1, ?_⟩, fun q => absurd q (show ¬ ((1 : Int32) = 0) by decide)⟩
    rw [k1.2.2, k5.2.2, n_lit589, n_mul]
    refine (c8_copies (i1 := 0) z1.1 k1.1 k5.1 (by omega) rfl rfl (by rw [k1.2.1]; omega) (by rw [k5.2.1]; omega) (by rw [k1.2.1]; omega) (by rw [k5.2.1]; omega)).use ⟨z1.1, ?_⟩
    show ax_sm (C.2.2 M 7) _
    rw [k6.2.2]
    refine ⟨k6.1, by rw [k6.2.1]; exact vp_in_nI hs (by omega), z1.1, ?_⟩
    show ax_sm (C.2.2 M 0) _
    rw [k1.2.2]
    have en : vp_nar .boolean 1 = 1 := by decide
    rw [en, ez8, n_clamp (by omega)]
    refine ⟨k1.1, (mr_in (j := 0) z1 (by omega)).2, ?_, ⟨z1, ?_, ?_, ?_, fun s' hs' => ?_, ?_, ?_, z8, ?_⟩, ?_⟩
    · rw [ax_wI_n (by omega), ax_rI_n (by omega)]; exact hv.2.1
    · rw [ax_wI_n (by omega), ax_rI_n (by omega)]; exact z2
    · rw [ax_wI_n (by omega), ax_rI_n (by omega)]; exact z3
    · rw [ax_wI_n (by omega), ax_rI_n (by omega)]; exact z4
    · have z5' := z5 s' hs'
      rw [ax_wI_t rfl, ax_wI_n (by omega), ax_rI_t rfl, ax_rI_n (by omega)]
      show _ = bI (va_up A.2.2.2.2.1 s true s') ∧ (va_up A.2.2.2.2.1 s true s' = true → vR _ (va_up A.2.2.2.1 s (nw A) s'))
      by_cases w : s' = s
      · subst w
        rw [n_up_t rfl, n_up_t rfl, n_up_t rfl]
        refine ⟨rfl, fun _ => vR_fr hv fun q hq => ?_⟩
        unfold blk
        dsimp only
        rw [if_pos (by omega)]
        exact congrArg _ (by omega)
      · rw [n_up_n w, n_up_n w, n_up_n w]
        refine ⟨z5'.1, fun u => vR_fr (z5'.2 u) fun q hq => ?_⟩
        unfold blk
        dsimp only
        rw [if_neg (by omega)]
    · rw [ax_wI_n (by omega), ax_wI_n (by omega), ax_rI_n (by omega), ax_rI_n (by omega)]; exact z6
    · rw [ax_wI_n (by omega), ax_wI_n (by omega), ax_rI_n (by omega), ax_rI_n (by omega)]; exact z7
    · intro b hb
      rw [ax_wI_n (by omega), ax_rI_n (by omega)]
      exact z9 b hb
    · rw [ax_wI_n (by omega), ax_rI_n (by omega)]; exact hv
theorem m_restore {x : Int32} (h : mdl S E C M A) : ax_CI l D mt_X8_restore [ax_r (some M), ax_i x] S C (pQ S E M (F_restore A x)) := by
  obtain ⟨⟨z1, z2, z3, z4, z5, z6, z7, z8, z9⟩, hv⟩ := id h
  have k1 := z1.2.1
  have k5 := z1.2.2.2.2.2.1
  have k6 := z1.2.2.2.2.2.2.1
  unfold F_restore
  refine vc_X8_restore z1.1 (c8_in.use ?_)
  have hb : bt x 0 1 = (ix x 2).isSome := bt_ix (m := 2) (by omega)
  rw [hb]
  cases hi : ix x 2 with
  | none => exact ⟨fun q => absurd rfl q, fun _ => ⟨rfl, h⟩⟩
  | some s =>
    obtain ⟨hs, w2⟩ := ix_of (by omega) hi
    subst w2
    refine ⟨fun _ => ⟨z1.1, ?_⟩, fun q => absurd q (show ¬ ((1 : Int32) = 0) by decide)⟩
    rw [k6.2.2]
    refine ⟨k6.1, by rw [k6.2.1]; exact vp_in_nI hs (by omega), ?_⟩
    have z5' := z5 s hs
    rw [n_clamp (by omega), z5'.1]
    dsimp only
    cases hk : A.2.2.2.2.1 s
    · rw [if_pos rfl]
      exact ⟨fun q => absurd rfl q, fun _ => ⟨rfl, h⟩⟩
    rw [if_neg (by decide)]
    refine ⟨fun _ => ⟨z1.1, z1.1, ?_⟩, fun q => absurd q (by decide)⟩
    rw [k1.2.2, k5.2.2, n_lit589, n_mul]
    refine (c8_copies (i2 := 0) z1.1 k5.1 k1.1 (by omega) rfl rfl (by rw [k5.2.1]; omega) (by rw [k1.2.1]; omega) (by rw [k5.2.1]; omega) (by rw [k1.2.1]; omega)).use ⟨z1.1, z1.1, z1.1, ?_⟩
    show ax_sm (C.2.2 M 0) _
    rw [k1.2.2]
    have hv' : vR (fun j => if 0 ≤ j ∧ j < 0 + 589 then C.1 (M + 5) (589 * s + (j - 0)) else C.1 (M + 1) j) (A.2.2.2.1 s) := by
      refine vR_fr (z5'.2 hk) fun q hq => ?_
      unfold blk
      rw [if_pos (by omega)]
      exact congrArg _ (by omega)
    rw [ez8]
    refine ⟨k1.1, (mr_in (j := 0) z1 (by omega)).2, ?_, ⟨z1, ⟨?_, ?_, ?_⟩, fun j hj => ?_, fun j hj => ?_, ?_, ?_, ?_, z8, ?_⟩, ?_⟩
    · rw [ax_wI_n (by omega), ax_wI_n (by omega), ax_rI_t rfl]; exact hv'.2.1
    · rw [ax_wI_t rfl, n_up_n (by omega), ax_wI_t rfl, n_up_t rfl]; rfl
    · rw [ax_wI_t rfl, n_up_t rfl]; rfl
    · show 0 + 0 ≤ 10
      omega
    · have hj : j < 0 := hj
      omega
    · have hj : j < 0 := hj
      omega
    · rw [ax_wI_n (by omega), ax_wI_n (by omega), ax_rI_n (by omega), ax_wI_n (by omega), ax_wI_n (by omega), ax_rI_n (by omega)]; exact z5
    · rw [ax_wI_t rfl, n_up_n (by omega), ax_wI_t rfl, n_up_n (by omega), ax_rI_n (by omega), ax_wI_n (by omega), ax_wI_n (by omega), ax_rI_n (by omega)]; exact z6
    · rw [ax_wI_t rfl, n_up_n (by omega), ax_wI_t rfl, n_up_n (by omega), ax_rI_n (by omega), ax_wI_n (by omega), ax_wI_n (by omega), ax_rI_n (by omega)]; exact z7
    · intro b hb
      rw [ax_wI_n (by omega), ax_wI_n (by omega), ax_rI_n (by omega)]
      exact z9 b hb
    · rw [ax_wI_n (by omega), ax_wI_n (by omega), ax_rI_t rfl]
      exact hv'
end
