/-! ===== undo, redo, text's ends, slots ===== -/
set_option maxRecDepth 100000 in
theorem by_nar {n : Nat} (h : n < 128) : vp_nar .byte ((nI n).toInt8.toInt32) = nI n := by
  have key : ∀ m : Fin 128, vp_nar .byte ((nI m.1).toInt8.toInt32) = nI m.1 := by decide
  exact key ⟨n, h⟩
section
variable {l : Launch} {D : ax_D} {S : ax_S} {E C : ax_C} {B pr : Nat} {τ : Nat → Nat} {A : ab_A}
/-- the history's numbers alone change -/
theorem zS_h {C' : ax_C} {W : Nat → ab_V} {pr' a f : Nat} (h : zS S E C B τ pr A) (f1 : ∀ b, b ≠ B + 1 → C'.1 b = C.1 b) (f2 : C'.2.2 = C.2.2) (hi : C'.1 (B + 1) 2 = nI pr' ∧ C'.1 (B + 1) 3 = nI a ∧ C'.1 (B + 1) 4 = nI f) (hpr : pr' < 11) (haf : a + f ≤ 10) (hW : ∀ j, j ≤ a + f → pc S C (B + 3 + 14 * τ ((pr' + 11 - a + j) % 11)) (W j)) : zS S E C' B τ pr' (W, a, f, A.2.2.2) := by
  obtain ⟨z1, ⟨r1, r2, r3, r4, r5, r6, r7⟩, ⟨k1, k2, k3, k4, k5, k6, k7⟩, z4, z5, z6⟩ := h
  refine ⟨z1, ⟨?_, ?_, ?_, ?_, ?_, ?_, ?_⟩, ⟨⟨hpr, haf⟩, hi, k3, ?_, ?_, ?_, ?_⟩, ?_, ?_, ?_⟩
  · rw [f2]; exact r1
  · rw [f2]; exact r2
  · rw [f2]; exact r3
  · rw [f2]; exact r4
  · rw [f2]; exact r5
  · rw [f2]; exact r6
  · exact pA_2 r7 (by rw [f2])
  · rw [f2]; exact k4
  · rw [f2]; exact k5
  · intro k hk
    obtain ⟨σ, hσ⟩ := k6 k hk
    exact ⟨σ, ps_fr hσ fun b _ _ => by rw [f2]⟩
  · intro j hj
    exact pc_fr (hW j hj) (fun b b1 b2 => f1 b (by omega)) (fun b _ _ => by rw [f2])
  · intro s hs
    obtain ⟨y1, σ, y2, y3⟩ := z4 s hs
    exact ⟨by rw [f1 _ (by omega)]; exact y1, σ, ps_fr y2 fun b _ _ => by rw [f2], fun w => sh_fr y2 (y3 w) fun b b1 b2 => f1 b (by omega)⟩
  · show kX C' B _ _ _ _
    unfold kX
    rw [f1 (B + 175) (by omega), f1 (B + 176) (by omega), f1 (B + 179) (by omega), f1 (B + 180) (by omega)]
    exact z5
  · intro b hb
    rw [f1 b (by omega), f2]
    exact z6 b hb
theorem o_undo (h : cls S E C B A) : ax_CI l D mt_X7_undo [ax_r (some B)] S C (oQ S E B (F_undo A)) := by
  obtain ⟨τ, pr, h⟩ := h
  obtain ⟨z1, z2, ⟨k1, k2, k3, k4, k5, k6, k7⟩, z4, z5, z6⟩ := id h
  have hpr := k1.1
  have haf := k1.2
  refine vc_X7_undo z1.1 ⟨z1.1, ?_⟩
  rw [z2.1.1]
  refine ⟨z1.2.1, ?_⟩
  rw [k2.2.1]
  unfold F_undo
  by_cases z : A.2.1 = 0
  · rw [if_pos z, z]
    exact ⟨fun q => absurd rfl q, fun _ => ⟨rfl, τ, pr, h⟩⟩
  rw [if_neg z]
  refine ⟨fun _ => ⟨z1.1, ?_⟩, fun q => absurd q (nI_ne0 (by omega) (by omega))⟩
  have hv := z1.2.1
  have e1 : (C.1 (B + 1) 2 + 11 - 1 - (C.1 (B + 1) 2 + 11 - 1) / 11 * 11) = nI ((pr + 10) % 11) := by
    rw [k2.1, show (11 : Int32) = nI 11 from rfl, n_lit1, n_add, n_sub (by omega), pk_rem (by omega) (by omega) (by omega)]
    rfl
  refine vc_X1_stepBack hv ⟨hv, by decide, hv, hv, hv, hv, hv, z1.1, ?_⟩
  rw [e1]
  show ax_sm (C.2.2 B 0) _
  rw [z2.1.1]
  have g2 : ∀ x y : Int32, (ax_wI (ax_wI (ax_wI C (B + 1) 2 (nI ((pr + 10) % 11))) (B + 1) 3 x) (B + 1) 4 y).1 (B + 1) 2 = nI ((pr + 10) % 11) := fun x y => by
    rw [ax_wI_t rfl, n_up_n (by omega), ax_wI_t rfl, n_up_n (by omega), ax_wI_t rfl, n_up_t rfl]
  have g3 : ∀ x y : Int32, (ax_wI (ax_wI (ax_wI C (B + 1) 2 (nI ((pr + 10) % 11))) (B + 1) 3 x) (B + 1) 4 y).1 (B + 1) 3 = x := fun x y => by
    rw [ax_wI_t rfl, n_up_n (by omega), ax_wI_t rfl, n_up_t rfl]
  have g4 : ∀ x y : Int32, (ax_wI (ax_wI (ax_wI C (B + 1) 2 (nI ((pr + 10) % 11))) (B + 1) 3 x) (B + 1) 4 y).1 (B + 1) 4 = y := fun x y => by
    rw [ax_wI_t rfl, n_up_t rfl]
  have q3 : (ax_wI C (B + 1) 2 (nI ((pr + 10) % 11))).1 (B + 1) 3 - 1 = nI (A.2.1 - 1) := by
    rw [ax_wI_t rfl, n_up_n (by omega), k2.2.1, n_lit1, n_sub (by omega)]
  have q4 : ∀ x, (ax_wI (ax_wI C (B + 1) 2 (nI ((pr + 10) % 11))) (B + 1) 3 x).1 (B + 1) 4 + 1 = nI (A.2.2.1 + 1) := fun x => by
    rw [ax_wI_t rfl, n_up_n (by omega), ax_wI_t rfl, n_up_n (by omega), k2.2.2, n_succ]
  rw [q3, q4]
  refine ⟨hv, ?_, τ, (pr + 10) % 11, ?_⟩
  · rw [g3]
  · refine zS_h h (fun b hb => ?_) rfl ⟨g2 _ _, g3 _ _, g4 _ _⟩ (Nat.mod_lt _ (by decide)) (by omega) fun j hj => ?_
    · rw [ax_wI_n hb, ax_wI_n hb, ax_wI_n hb]
    · have := k7 j (by omega)
      rw [show ((pr + 10) % 11 + 11 - (A.2.1 - 1) + j) % 11 = (pr + 11 - A.2.1 + j) % 11 by omega]
      exact this
theorem o_redo (h : cls S E C B A) : ax_CI l D mt_X7_redo [ax_r (some B)] S C (oQ S E B (F_redo A)) := by
  obtain ⟨τ, pr, h⟩ := h
  obtain ⟨z1, z2, ⟨k1, k2, k3, k4, k5, k6, k7⟩, z4, z5, z6⟩ := id h
  have hpr := k1.1
  have haf := k1.2
  refine vc_X7_redo z1.1 ⟨z1.1, ?_⟩
  rw [z2.1.1]
  refine ⟨z1.2.1, ?_⟩
  rw [k2.2.2]
  unfold F_redo
  by_cases z : A.2.2.1 = 0
  · rw [if_pos z, z]
    exact ⟨fun q => absurd rfl q, fun _ => ⟨rfl, τ, pr, h⟩⟩
  rw [if_neg z]
  refine ⟨fun _ => ⟨z1.1, ?_⟩, fun q => absurd q (nI_ne0 (by omega) (by omega))⟩
  have hv := z1.2.1
  have e1 : (C.1 (B + 1) 2 + 1 - (C.1 (B + 1) 2 + 1) / 11 * 11) = nI ((pr + 1) % 11) := by
    rw [k2.1, show (11 : Int32) = nI 11 from rfl, n_succ, pk_rem (by omega) (by omega) (by omega)]
  refine vc_X1_stepForward hv ⟨hv, by decide, hv, hv, hv, hv, hv, z1.1, ?_⟩
  rw [e1]
  show ax_sm (C.2.2 B 0) _
  rw [z2.1.1]
  have g2 : ∀ x y : Int32, (ax_wI (ax_wI (ax_wI C (B + 1) 2 (nI ((pr + 1) % 11))) (B + 1) 3 x) (B + 1) 4 y).1 (B + 1) 2 = nI ((pr + 1) % 11) := fun x y => by
    rw [ax_wI_t rfl, n_up_n (by omega), ax_wI_t rfl, n_up_n (by omega), ax_wI_t rfl, n_up_t rfl]
  have g3 : ∀ x y : Int32, (ax_wI (ax_wI (ax_wI C (B + 1) 2 (nI ((pr + 1) % 11))) (B + 1) 3 x) (B + 1) 4 y).1 (B + 1) 3 = x := fun x y => by
    rw [ax_wI_t rfl, n_up_n (by omega), ax_wI_t rfl, n_up_t rfl]
  have g4 : ∀ x y : Int32, (ax_wI (ax_wI (ax_wI C (B + 1) 2 (nI ((pr + 1) % 11))) (B + 1) 3 x) (B + 1) 4 y).1 (B + 1) 4 = y := fun x y => by
    rw [ax_wI_t rfl, n_up_t rfl]
  have q3 : (ax_wI C (B + 1) 2 (nI ((pr + 1) % 11))).1 (B + 1) 3 + 1 = nI (A.2.1 + 1) := by
    rw [ax_wI_t rfl, n_up_n (by omega), k2.2.1, n_succ]
  have q4 : ∀ x, (ax_wI (ax_wI C (B + 1) 2 (nI ((pr + 1) % 11))) (B + 1) 3 x).1 (B + 1) 4 - 1 = nI (A.2.2.1 - 1) := fun x => by
    rw [ax_wI_t rfl, n_up_n (by omega), ax_wI_t rfl, n_up_n (by omega), k2.2.2, n_lit1, n_sub (by omega)]
  rw [q3, q4]
  refine ⟨hv, ?_, τ, (pr + 1) % 11, ?_⟩
  · rw [g4]
  · refine zS_h h (fun b hb => ?_) rfl ⟨g2 _ _, g3 _ _, g4 _ _⟩ (Nat.mod_lt _ (by decide)) (by omega) fun j hj => ?_
    · rw [ax_wI_n hb, ax_wI_n hb, ax_wI_n hb]
    · have := k7 j (by omega)
      rw [show ((pr + 1) % 11 + 11 - (A.2.1 + 1) + j) % 11 = (pr + 11 - A.2.1 + j) % 11 by omega]
      exact this
/-- text and print alone change -/
theorem zS_x {C' : ax_C} {tx px : Nat → Int32} {tl pl : Nat} (h : zS S E C B τ pr A) (f1 : ∀ b, (b < B + 175 ∨ B + 181 ≤ b) → C'.1 b = C.1 b) (f2 : C'.2.2 = C.2.2) (hx : kX C' B tx tl px pl) : zS S E C' B τ pr (A.1, A.2.1, A.2.2.1, A.2.2.2.1, A.2.2.2.2.1, tx, tl, px, pl) := by
  obtain ⟨z1, ⟨r1, r2, r3, r4, r5, r6, r7⟩, ⟨k1, k2, k3, k4, k5, k6, k7⟩, z4, z5, z6⟩ := h
  refine ⟨z1, ⟨?_, ?_, ?_, ?_, ?_, ?_, ?_⟩, ⟨k1, ?_, k3, ?_, ?_, ?_, ?_⟩, ?_, hx, ?_⟩
  · rw [f2]; exact r1
  · rw [f2]; exact r2
  · rw [f2]; exact r3
  · rw [f2]; exact r4
  · rw [f2]; exact r5
  · rw [f2]; exact r6
  · exact pA_2 r7 (by rw [f2])
  · rw [f1 (B + 1) (by omega)]; exact k2
  · rw [f2]; exact k4
  · rw [f2]; exact k5
  · intro k hk
    obtain ⟨σ, hσ⟩ := k6 k hk
    exact ⟨σ, ps_fr hσ fun b _ _ => by rw [f2]⟩
  · intro j hj
    have k1 : pr < 11 ∧ A.2.1 + A.2.2.1 ≤ 10 := k1
    have t1 := k3.1 ((pr + 11 - A.2.1 + j) % 11) (by omega)
    exact pc_fr (k7 j hj) (fun b b1 b2 => f1 b (Or.inl (by have b2 : b < B + 3 + 14 * τ ((pr + 11 - A.2.1 + j) % 11) + 14 := b2; omega))) (fun b _ _ => by rw [f2])
  · intro s hs
    obtain ⟨y1, σ, y2, y3⟩ := z4 s hs
    exact ⟨by rw [f1 _ (by omega)]; exact y1, σ, ps_fr y2 fun b _ _ => by rw [f2], fun w => sh_fr y2 (y3 w) fun b b1 b2 => f1 b (by omega)⟩
  · intro b hb
    rw [f1 b (by omega), f2]
    exact z6 b hb
theorem o_clearText (h : cls S E C B A) : ax_CI l D mt_X7_clearText [ax_r (some B)] S C (oQ S E B (F_clear A)) := by
  obtain ⟨τ, pr, h⟩ := h
  obtain ⟨z1, z2, z3, z4, z5, z6⟩ := id h
  refine vc_X7_clearText z1.1 ⟨z1.1, ?_⟩
  rw [z2.1.2.2.2.2.2.1]
  refine ⟨z1.2.2.2.2.2.2.2.2.2.2.1, z1.1, ?_⟩
  refine ⟨z1.2.2.2.2.2.2.2.2.2.2.1, z5.1, τ, pr, ?_⟩
  refine zS_x h (fun b hb => ax_wI_n (by omega)) rfl ⟨?_, fun q hq => by omega, ?_, ?_, by omega, z5.2.2.2.2.2⟩
  · rw [ax_wI_t rfl, n_up_t rfl]; rfl
  · rw [ax_wI_n (by omega)]; exact z5.2.2.1
  · rw [ax_wI_n (by omega)]; exact z5.2.2.2.1
theorem o_append {x : Int32} (h : cls S E C B A) : ax_CI l D mt_X7_append [ax_r (some B), ax_i x] S C (oQ S E B (F_append A x)) := by
  obtain ⟨τ, pr, h⟩ := h
  obtain ⟨z1, z2, z3, z4, z5, z6⟩ := id h
  unfold F_append
  refine vc_X7_append z1.1 (c_isBetween.use ?_)
  have h7 := z1.2.2.2.2.2.2.2.2.2.2.1
  have htl := z5.2.2.2.2.1
  cases hb : bt x 0 127
  · exact ⟨fun q => absurd rfl q, fun _ => ⟨rfl, τ, pr, h⟩⟩
  obtain ⟨b1, b2, b3⟩ := bt_n (lo := 0) (hi := 127) (by omega) (by omega) hb
  rw [if_neg (by decide)]
  refine ⟨fun _ => ⟨z1.1, ?_⟩, fun q => absurd q (by decide)⟩
  rw [z2.1.2.2.2.2.2.1]
  refine ⟨h7, ?_⟩
  rw [z5.1]
  by_cases z : A.2.2.2.2.2.2.1 = 120
  · rw [if_pos z, z]
    exact ⟨fun q => absurd q (by decide), fun _ => ⟨rfl, τ, pr, h⟩⟩
  rw [if_neg z]
  refine ⟨fun _ => ⟨z1.1, vc_X6_addByte h7 ⟨h7, ?_⟩⟩, fun q => n_absurd (by simp (disch := omega) only [n_lit0, n_lit1, n_lit2, n_lit3, n_lit4, n_lit5, n_lit6, n_lit7, n_lit8, n_lit9, n_lit10, n_lit11, n_lit12, n_lit13, n_lit14, n_lit15, n_lit16, n_lit17, n_lit18, n_lit19, n_lit20, n_lit21, n_lit22, n_lit23, n_lit24, n_lit30, n_lit31, n_lit32, n_lit45, n_lit48, n_lit49, n_lit57, n_lit59, n_lit60, n_lit67, n_lit76, n_lit77, n_lit90, n_lit96, n_lit97, n_lit98, n_lit99, n_lit100, n_lit119, n_lit120, n_lit127, n_lit128, n_lit196, n_lit200, n_lit208, n_lit294, n_lit340, n_lit341, n_lit392, n_lit490, n_lit491, n_lit500, n_lit588, n_lit589, n_lit999, n_lit1178, n_lit5301, n_lit5890, n_lit46656, n_add, n_mul, n_sub, n_lt_t, n_lt_f, n_le_t, n_le_f, n_eq_t, n_eq_f, n_clamp, n_in_t, ax_sm_s, true_and, and_true, not_true_eq_false, not_false_eq_true, true_imp, false_imp, imp_true, and_self, ax_wI_2, ax_rI_2, ax_wI_t, ax_wI_n, ax_rI_t, ax_rI_n, n_up_t, n_up_n, ne_eq, or_true, true_or, false_or, or_false, some_ex, n_none1, n_none2, ite_true, ite_false]) q⟩
  rw [z5.1]
  refine ⟨fun q => n_absurd q (by simp (disch := omega) only [n_lit0, n_lit1, n_lit2, n_lit3, n_lit4, n_lit5, n_lit6, n_lit7, n_lit8, n_lit9, n_lit10, n_lit11, n_lit12, n_lit13, n_lit14, n_lit15, n_lit16, n_lit17, n_lit18, n_lit19, n_lit20, n_lit21, n_lit22, n_lit23, n_lit24, n_lit30, n_lit31, n_lit32, n_lit45, n_lit48, n_lit49, n_lit57, n_lit59, n_lit60, n_lit67, n_lit76, n_lit77, n_lit90, n_lit96, n_lit97, n_lit98, n_lit99, n_lit100, n_lit119, n_lit120, n_lit127, n_lit128, n_lit196, n_lit200, n_lit208, n_lit294, n_lit340, n_lit341, n_lit392, n_lit490, n_lit491, n_lit500, n_lit588, n_lit589, n_lit999, n_lit1178, n_lit5301, n_lit5890, n_lit46656, n_add, n_mul, n_sub, n_lt_t, n_lt_f, n_le_t, n_le_f, n_eq_t, n_eq_f, n_clamp, n_in_t, ax_sm_s, true_and, and_true, not_true_eq_false, not_false_eq_true, true_imp, false_imp, imp_true, and_self, ax_wI_2, ax_rI_2, ax_wI_t, ax_wI_n, ax_rI_t, ax_rI_n, n_up_t, n_up_n, ne_eq, or_true, true_or, false_or, or_false, some_ex, n_none1, n_none2, ite_true, ite_false]), fun _ => ⟨h7, h7, ?_⟩⟩
  rw [z2.2.2.2.1, n_clamp (by omega)]
  refine ⟨z1.2.2.2.2.2.2.2.2.2.2.2.1, by rw [z1.2.2.2.2.2.2.2.2.2.2.2.2.1]; exact vp_in_nI (by omega) (by omega), h7, h7, z1.1, ?_⟩
  have en : vp_nar .byte (x.toInt8.toInt32) = x := by rw [b3]; exact by_nar (by omega)
  rw [en]
  show ax_sm (C.2.2 B 5) _
  rw [z2.1.2.2.2.2.2.1]
  have e1 : (ax_wI C (B + 176) A.2.2.2.2.2.2.1 x).1 (B + 175) 1 + 1 = nI (A.2.2.2.2.2.2.1 + 1) := by
    rw [ax_wI_n (by omega), z5.1, n_succ]
  rw [e1]
  refine ⟨h7, ?_, τ, pr, ?_⟩
  · rw [ax_wI_t rfl, n_up_t rfl]
  refine zS_x h (fun b hb => by rw [ax_wI_n (by omega), ax_wI_n (by omega)]) rfl ⟨?_, fun q hq => ?_, ?_, ?_, by omega, z5.2.2.2.2.2⟩
  · rw [ax_wI_t rfl, n_up_t rfl]
  · rw [ax_wI_n (by omega), ax_wI_t rfl]
    by_cases w : q = A.2.2.2.2.2.2.1
    · rw [n_up_t w, n_up_t w]
    · rw [n_up_n w, n_up_n w]; exact z5.2.1 q (by omega)
  · rw [ax_wI_n (by omega), ax_wI_n (by omega)]; exact z5.2.2.1
  · rw [ax_wI_n (by omega), ax_wI_n (by omega)]; exact z5.2.2.2.1
theorem o_printed {x : Int32} (h : cls S E C B A) : ax_CI l D mt_X7_printed [ax_r (some B), ax_i x] S C (oQ S E B (Q_printed A x, A)) := by
  obtain ⟨τ, pr, h⟩ := h
  obtain ⟨z1, z2, z3, z4, z5, z6⟩ := id h
  have hpl := z5.2.2.2.2.2
  have h6 := z1.2.2.2.2.2.2.2.2.2.2.2.2.2.1
  have none_ : (¬ ∃ k, k < A.2.2.2.2.2.2.2.2 ∧ x = nI k) → Q_printed A x = BI := fun w => by
    simp only [Q_printed, ix_none (by omega) w]
  refine vc_X7_printed z1.1 fun P15 h15 => ⟨fun q => h15 _ ⟨(none_ ?_).symm, τ, pr, h⟩, fun q => ⟨z1.1, ?_⟩⟩
  · rintro ⟨k, hk, rfl⟩
    exact nI_pos (by omega) q
  · rw [z2.1.2.2.2.2.2.2]
    refine ⟨h6, ?_⟩
    rw [z5.2.2.1]
    refine ⟨fun w => ⟨z1.1, ?_⟩, fun w => h15 _ ⟨(none_ ?_).symm, τ, pr, h⟩⟩
    · refine ⟨h6, ?_⟩
      rw [z2.2.2.2.2.2.1]
      obtain ⟨k, hk, rfl⟩ := n_ix (by omega) q w
      refine ⟨z1.2.2.2.2.2.2.2.2.2.2.2.2.2.2.1, by rw [z1.2.2.2.2.2.2.2.2.2.2.2.2.2.2.2]; exact vp_in_nI (by omega) (by omega), ?_, τ, pr, h⟩
      simp only [Q_printed, ix_some hk (show A.2.2.2.2.2.2.2.2 < 2 ^ 31 by omega)]
      rw [n_clamp (by omega)]
      exact z5.2.2.2.1 k hk
    · rintro ⟨k, hk, rfl⟩
      exact w (nI_lt hk (by omega))
theorem o_save {x : Int32} (h : cls S E C B A) : ax_CI l D mt_X7_save [ax_r (some B), ax_i x] S C (oQ S E B (F_save A x)) := by
  obtain ⟨τ, pr, h⟩ := h
  obtain ⟨z1, z2, z3, z4, z5, z6⟩ := id h
  have none_ : (¬ ∃ k, k < 2 ∧ x = nI k) → F_save A x = (BI, A) := fun w => by
    simp only [F_save, ix_none (by omega) w]
  refine vc_X7_save z1.1 ⟨fun q => ?_, fun q => ⟨fun w => ⟨z1.1, ?_⟩, fun w => ?_⟩⟩
  · rw [none_ (by rintro ⟨k, hk, rfl⟩; exact nI_pos (by omega) q)]
    exact ⟨rfl, τ, pr, h⟩
  · obtain ⟨s, hs, rfl⟩ := n_ix (n := 2) (by omega) q w
    rw [z2.1.2.1, n_clamp (by omega)]
    refine ⟨z1.2.2.2.2.1, by rw [z1.2.2.2.2.2.1]; exact vp_in_nI hs (by omega), z1.1, ?_⟩
    rw [z2.1.1]
    refine (c_now h).use ?_
    rw [z2.2.2.1 s hs]
    obtain ⟨σn, n1, n2⟩ := now_pc h
    obtain ⟨y1, σs, y2, y3⟩ := z4 s hs
    have tpr := z3.2.2.1.1 pr (by have := z3.1.1; omega)
    refine (c_copyFromV y2 n1 n2 (by omega)).mono ?_
    rintro C4 ⟨e2, e1, hsh⟩
    refine ⟨z1.1, ?_⟩
    rw [e2, z2.1.2.2.1]
    have h12 := z1.2.2.2.2.2.2.1
    have hl2 := z1.2.2.2.2.2.2.2.1
    refine ⟨h12, by rw [hl2]; exact vp_in_nI hs (by omega), z1.1, ?_⟩
    show ax_sm (C4.2.2 B 1) _
    rw [e2, z2.1.2.1]
    refine ⟨z1.2.2.2.2.1, by rw [z1.2.2.2.2.2.1]; exact vp_in_nI hs (by omega), ?_⟩
    show ax_sm (C4.2.2 (B + 171) s) _
    rw [e2, z2.2.2.1 s hs]
    have en : vp_nar .boolean 1 = 1 := by decide
    rw [en]
    refine ⟨y2.1, ?_, τ, pr, ?_⟩
    · rw [ax_wI_n (by omega), hsh.2.1]
      simp only [F_save, ix_some hs (show 2 < 2 ^ 31 by omega)]
    · simp only [F_save, ix_some hs (show 2 < 2 ^ 31 by omega)]
      have g1 : ∀ b, b ≠ B + 172 → (b < B + 181 + 14 * s ∨ B + 181 + 14 * s + 14 ≤ b) → (ax_wI C4 (B + 172) s 1).1 b = C.1 b := fun b b1 b2 => by rw [ax_wI_n b1]; exact e1 b b2
      have g2 : ∀ b, (ax_wI C4 (B + 172) s 1).2.2 b = C.2.2 b := fun b => by show C4.2.2 b = _; rw [e2]
      obtain ⟨r1, r2, r3, r4, r5, r6, r7⟩ := z2
      refine ⟨z1, ⟨?_, ?_, ?_, ?_, ?_, ?_, ?_⟩, ?_, ?_, ?_, ?_⟩
      · simp only [g2]; exact r1
      · rw [g2]; exact r2
      · rw [g2]; exact r3
      · rw [g2]; exact r4
      · rw [g2]; exact r5
      · rw [g2]; exact r6
      · exact pA_2 r7 (g2 _)
      · obtain ⟨k1, k2, k3, k4, k5, k6, k7⟩ := z3
        refine ⟨k1, ?_, k3, ?_, ?_, ?_, ?_⟩
        · rw [g1 _ (by omega) (by omega)]; exact k2
        · rw [g2]; exact k4
        · rw [g2]; exact k5
        · intro k hk
          obtain ⟨σ, hσ⟩ := k6 k hk
          exact ⟨σ, ps_fr hσ fun b _ _ => g2 b⟩
        · intro j hj
          have k1 : pr < 11 ∧ A.2.1 + A.2.2.1 ≤ 10 := k1
          have t1 := k3.1 ((pr + 11 - A.2.1 + j) % 11) (by omega)
          exact pc_fr (k7 j hj) (fun b b1 b2 => g1 b (by have b2 : b < B + 3 + 14 * τ ((pr + 11 - A.2.1 + j) % 11) + 14 := b2; omega) (Or.inl (by have b2 : b < B + 3 + 14 * τ ((pr + 11 - A.2.1 + j) % 11) + 14 := b2; omega))) (fun b _ _ => g2 b)
      · intro s' hs'
        by_cases w : s' = s
        · subst w
          refine ⟨?_, σs, ps_fr y2 fun b _ _ => g2 b, fun _ => ?_⟩
          · rw [ax_wI_t rfl, n_up_t rfl]
            show _ = bI (va_up _ _ _ _)
            rw [n_up_t rfl]; rfl
          · show sh _ _ _ (va_up _ _ _ _)
            rw [n_up_t rfl]
            exact sh_fr (ps_e y2 e2) hsh fun b b1 b2 => ax_wI_n (by omega)
        · obtain ⟨y1', σ', y2', y3'⟩ := z4 s' hs'
          refine ⟨?_, σ', ps_fr y2' fun b _ _ => g2 b, fun w2 => ?_⟩
          · rw [ax_wI_t rfl, n_up_n w, e1 _ (by omega), y1']
            show _ = bI (va_up _ _ _ _)
            rw [n_up_n w]
          · have w2 : va_up A.2.2.2.2.1 s true s' = true := w2
            rw [n_up_n w] at w2
            show sh _ _ _ (va_up _ _ _ _)
            rw [n_up_n w]
            exact sh_fr y2' (y3' w2) fun b b1 b2 => g1 b (by omega) (by omega)
      · show kX _ B _ _ _ _
        unfold kX
        rw [g1 (B + 175) (by omega) (by omega), g1 (B + 176) (by omega) (by omega), g1 (B + 179) (by omega) (by omega), g1 (B + 180) (by omega) (by omega)]
        exact z5
      · intro b hb
        rw [g1 b (by omega) (by omega), g2]
        exact z6 b hb
  · rw [none_ (by rintro ⟨k, hk, rfl⟩; exact w (nI_lt (b := 2) hk (by omega)))]
    exact ⟨rfl, τ, pr, h⟩
theorem o_restore {x : Int32} (h : cls S E C B A) : ax_CI l D mt_X7_restore [ax_r (some B), ax_i x] S C (oQ S E B (F_restore A x)) := by
  obtain ⟨τ, pr, h⟩ := h
  obtain ⟨z1, z2, z3, z4, z5, z6⟩ := id h
  have none_ : (¬ ∃ k, k < 2 ∧ x = nI k) → F_restore A x = (BI, A) := fun w => by
    simp only [F_restore, ix_none (by omega) w]
  refine vc_X7_restore z1.1 ⟨fun q => ?_, fun q => ⟨fun w => ⟨z1.1, ?_⟩, fun w => ?_⟩⟩
  · rw [none_ (by rintro ⟨k, hk, rfl⟩; exact nI_pos (by omega) q)]
    exact ⟨rfl, τ, pr, h⟩
  · obtain ⟨s, hs, rfl⟩ := n_ix (n := 2) (by omega) q w
    rw [z2.1.2.2.1, n_clamp (by omega)]
    simp only [F_restore, ix_some hs (show 2 < 2 ^ 31 by omega)]
    obtain ⟨y1, σs, y2, y3⟩ := z4 s hs
    refine ⟨z1.2.2.2.2.2.2.1, by rw [z1.2.2.2.2.2.2.2.1]; exact vp_in_nI hs (by omega), ?_⟩
    rw [y1]
    cases hK : A.2.2.2.2.1 s
    · exact ⟨fun q => absurd rfl q, fun _ => ⟨rfl, τ, pr, h⟩⟩
    rw [if_neg (by decide)]
    refine ⟨fun _ => ⟨z1.1, z1.1, ?_⟩, fun q => absurd q (by decide)⟩
    rw [z2.1.2.1]
    refine ⟨z1.2.2.2.2.1, by rw [z1.2.2.2.2.2.1]; exact vp_in_nI hs (by omega), ?_⟩
    rw [z2.1.1, z2.2.2.1 s hs]
    have hv := z1.2.1
    refine vc_X1_startAnew hv ((c_now h).use ?_)
    obtain ⟨k1, k2, k3, k4, k5, k6, k7⟩ := id z3
    have tpr := k3.1 pr (by have := k1.1; omega)
    obtain ⟨σn, n1⟩ := k6 (τ pr) tpr
    refine (c_copyFromV n1 y2 (y3 hK) (by omega)).mono ?_
    rintro C4 ⟨e2, e1, hsh⟩
    have hz4 : zS S E C4 B τ pr (((fun _ => A.2.2.2.1 s), A.2.1, A.2.2.1, A.2.2.2) : ab_A) → True := fun _ => trivial
    refine ⟨hv, hv, z1.1, ?_⟩
    have f2 : ∀ b, (ax_wI (ax_wI C4 (B + 1) 3 0) (B + 1) 4 0).2.2 b = C.2.2 b := fun b => by show C4.2.2 b = _; rw [e2]
    have f1 : ∀ b, b ≠ B + 1 → (b < B + 3 + 14 * τ pr ∨ B + 3 + 14 * τ pr + 14 ≤ b) → (ax_wI (ax_wI C4 (B + 1) 3 0) (B + 1) 4 0).1 b = C.1 b := fun b b1 b2 => by
      rw [ax_wI_n b1, ax_wI_n b1]; exact e1 b b2
    have hzS : zS S E (ax_wI (ax_wI C4 (B + 1) 3 0) (B + 1) 4 0) B τ pr ((fun _ => A.2.2.2.1 s), 0, 0, A.2.2.2) := by
      obtain ⟨r1, r2, r3, r4, r5, r6, r7⟩ := z2
      refine ⟨z1, ⟨?_, ?_, ?_, ?_, ?_, ?_, ?_⟩, ⟨⟨k1.1, by show 0 + 0 ≤ 10; omega⟩, ⟨?_, ?_, ?_⟩, k3, ?_, ?_, ?_, ?_⟩, ?_, ?_, ?_⟩
      · simp only [f2]; exact r1
      · rw [f2]; exact r2
      · rw [f2]; exact r3
      · rw [f2]; exact r4
      · rw [f2]; exact r5
      · rw [f2]; exact r6
      · exact pA_2 r7 (f2 _)
      · rw [ax_wI_t rfl, n_up_n (by omega), ax_wI_t rfl, n_up_n (by omega), e1 _ (by omega)]; exact k2.1
      · rw [ax_wI_t rfl, n_up_n (by omega), ax_wI_t rfl, n_up_t rfl]; rfl
      · rw [ax_wI_t rfl, n_up_t rfl]; rfl
      · rw [f2]; exact k4
      · rw [f2]; exact k5
      · intro k hk
        obtain ⟨σ, hσ⟩ := k6 k hk
        exact ⟨σ, ps_fr hσ fun b _ _ => f2 b⟩
      · intro j hj
        have hj : j ≤ 0 + 0 := hj
        have hpr := k1.1
        show pc S _ (B + 3 + 14 * τ ((pr + 11 - 0 + j) % 11)) _
        rw [show (pr + 11 - 0 + j) % 11 = pr by omega]
        exact ⟨σn, ps_fr n1 fun b _ _ => f2 b, sh_fr (ps_e n1 e2) hsh fun b b1 b2 => by rw [ax_wI_n (by omega), ax_wI_n (by omega)]⟩
      · intro s' hs'
        obtain ⟨y1', σ', y2', y3'⟩ := z4 s' hs'
        exact ⟨by rw [f1 _ (by omega) (by omega)]; exact y1', σ', ps_fr y2' fun b _ _ => f2 b, fun w => sh_fr y2' (y3' w) fun b b1 b2 => f1 b (by omega) (by omega)⟩
      · show kX _ B _ _ _ _
        unfold kX
        rw [f1 (B + 175) (by omega) (by omega), f1 (B + 176) (by omega) (by omega), f1 (B + 179) (by omega) (by omega), f1 (B + 180) (by omega) (by omega)]
        exact z5
      · intro b hb
        rw [f1 b (by omega) (by omega), f2]
        exact z6 b hb
    refine s_now ⟨τ, pr, hzS⟩ fun τ' pr' d σ hz' h1 h2 b1 b2 => ⟨h1.1, h2.2.1, τ, pr, hzS⟩
  · rw [none_ (by rintro ⟨k, hk, rfl⟩; exact w (nI_lt (b := 2) hk (by omega)))]
    exact ⟨rfl, τ, pr, h⟩
end
