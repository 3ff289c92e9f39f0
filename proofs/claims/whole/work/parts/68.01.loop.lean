/-! ===== the law's loop ===== -/
def lw_of (k : Nat) : Int := ([155, 188, 231, 254, 307, 386, 439, 472, 525, 558, 591, 624, 647, 722, 765, 778, 791, 804, 827, 850, 893, 952, 1031, 1055, 1088, 1121, 1144, 1167, 1180, 1193, 1206, 1229, 1252, 1275, 1298] : List Int).getD k 0
def lw_tg (k : Nat) : Nat := ([188, 221, 264, 287, 340, 419, 472, 505, 558, 591, 624, 657, 680, 755, 798, 811, 824, 837, 860, 883, 926, 985, 1064, 1088, 1121, 1154, 1177, 1200, 1213, 1226, 1239, 1262, 1285, 1308, 1331] : List Nat).getD k 0
def ax_lwret (N : Nat) : ax_K := fun _ st S _ => st = [ax_i (1 : Int32)] ∧ S.2.2.1 ≤ N + 600000 ∧ S.2.2.2 ≤ 7302249
section
variable {p : Program} {l : Launch} {e : Env} {s : State} {m : MethodId} {below : List Frame} {meth : Method} {c : Code} {D : ax_D} {b L B : Nat} {xs : Nat → Int32} {S : ax_S}
theorem sx_lwret (X : ax_X D p s m #[Value.ref b] meth c RL cL_law 4) (hDs : D.2.2.2.1 = s.heap.size) (hr : meth.sig.returnType = ret) {pc : Nat} (hd : decode cL_law pc = .ok (.ireturn, 1)) : (∀ ls st C, ax_lwret s.heap.size ls st S C → ax_Z p l e room_1 s m #[Value.ref b] below meth c D 4 0 (lw_Z below #[Value.ref b] s) pc ls st S C) := fun ls st C hK H lsA locs cells slots h => by
  obtain ⟨rfl, h1, h2⟩ := hK
  have e1 := h.2.2.2.1
  have e2 := h.2.2.2.2.1
  refine va_forget (fun q hq => ?_) (W.widen (k := 600000) (n := 7302249) (by omega) (by omega) (lw_ret X.1 X.2.1 hr X.2.2.2.2.2.1 hd))
  have := h.2.2.1.2.2 q hq
  have this : D.2.2.2.1 ≤ q.base := this
  omega
set_option maxHeartbeats 4000000 in
set_option maxRecDepth 10000 in
theorem lw_head {i : Nat} {C : ax_C} (X : ax_X D p s m #[Value.ref b] meth c RL cL_law 4) (hDs : D.2.2.2.1 = s.heap.size) (hr : meth.sig.returnType = ret) (hX : va_X b L xs s s.heap) (hbl : b < s.heap.size) (hbA : ¬ ax_A D b) (hL : L ≤ 3584) (hS1 : S.2.2.1 ≤ s.heap.size + 600000) (hS2 : S.2.2.2 ≤ 7302249) (hi : i < 10000) (hb : i + 7 ≤ L → (∀ k, k < 35 → (xs (nI i).toNatClampNeg &&& (63 : Int32)) = nI k → ax_Z p l e room_1 s m #[Value.ref b] below meth c D 4 0 (lw_Z below #[Value.ref b] s) (lw_tg k) [some (ax_r (some b)), some (ax_r (some B)), some (ax_r (some (B + 209))), some (ax_i (nI i))] [] S C) ∧ ((∀ k, k < 35 → (xs (nI i).toNatClampNeg &&& (63 : Int32)) ≠ nI k) → ax_Z p l e room_1 s m #[Value.ref b] below meth c D 4 0 (lw_Z below #[Value.ref b] s) 1345 [some (ax_r (some b)), some (ax_r (some B)), some (ax_r (some (B + 209))), some (ax_i (nI i))] [] S C)) : ax_Z p l e room_1 s m #[Value.ref b] below meth c D 4 0 (lw_Z below #[Value.ref b] s) 18 [some (ax_r (some b)), some (ax_r (some B)), some (ax_r (some (B + 209))), some (ax_i (nI i))] [] S C := by
  have r : ∀ ls st C, _ → ax_Z p l e room_1 s m #[Value.ref b] below meth c D 4 0 (lw_Z below #[Value.ref b] s) 18 ls st S C := (sx_iload_n X dL_law_18 rfl (sx_aload_n X dL_law_19 rfl (sx_slen X hX hbl hbA dL_law_20 (sx_bipush X (v := (7 : Int32)) dL_law_21 (by decide) (sx_isub X dL_law_23 (sx_icgt X (tgt := 1351) dL_law_24 (by decide) (sx_iconst X (v := (1 : Int32)) dL_law_1351 (by decide) (sx_lwret X hDs hr dL_law_1352)) (sx_aload_n X dL_law_27 rfl (sx_iload_n X dL_law_28 rfl (sx_sld X hX hbl hbA dL_law_29 (sx_bipush X (v := (63 : Int32)) dL_law_30 (by decide) (sx_iand X dL_law_32 (sx_sw X (n := 35) (Ks := fun k ls st S C => ax_Z p l e room_1 s m #[Value.ref b] below meth c D 4 0 (lw_Z below #[Value.ref b] s) (lw_tg k) ls st S C) (of := lw_of) (tg := lw_tg) (td := 1345) (by decide) dL_law_33 (by decide) (by decide) (by decide) (fun k hk ls st C h => h) (fun _ _ _ h => h)))))))))))))
  have e7 : Int32.ofNat L - (7 : Int32) < nI i ↔ L < i + 7 := by
    have a1 : (7 : Int32).toInt = 7 := rfl
    rw [Int32.lt_iff_toInt_lt, Int32.toInt_sub, a1, n_toInt (by omega)]
    have a2 : (Int32.ofNat L).toInt = (L : Int) := n_toInt (n := L) (by omega)
    rw [a2, Int.bmod_eq_of_le (by omega) (by omega)]
    omega
  have f : some b = some b ∧ ((Int32.ofNat L - (7 : Int32) < nI i → [ax_i (1 : Int32)] = [ax_i (1 : Int32)] ∧ S.2.2.1 ≤ s.heap.size + 600000 ∧ S.2.2.2 ≤ 7302249) ∧ (¬ Int32.ofNat L - (7 : Int32) < nI i → some b = some b ∧ vp_in (nI i) L ∧ ((∀ k, k < 35 → (xs (nI i).toNatClampNeg &&& (63 : Int32)) = nI k → ax_Z p l e room_1 s m #[Value.ref b] below meth c D 4 0 (lw_Z below #[Value.ref b] s) (lw_tg k) [some (ax_r (some b)), some (ax_r (some B)), some (ax_r (some (B + 209))), some (ax_i (nI i))] [] S C) ∧ ((∀ k, k < 35 → (xs (nI i).toNatClampNeg &&& (63 : Int32)) ≠ nI k) → ax_Z p l e room_1 s m #[Value.ref b] below meth c D 4 0 (lw_Z below #[Value.ref b] s) 1345 [some (ax_r (some b)), some (ax_r (some B)), some (ax_r (some (B + 209))), some (ax_i (nI i))] [] S C)))) := by
    refine ⟨rfl, fun _ => ⟨rfl, hS1, hS2⟩, fun w => ?_⟩
    have w : i + 7 ≤ L := by
      rcases Nat.lt_or_ge L (i + 7) with u | u
      · exact absurd (e7.mpr u) w
      · exact u
    exact ⟨rfl, vp_in_nI (by omega) (by omega), hb w⟩
  exact r [some (ax_r (some b)), some (ax_r (some B)), some (ax_r (some (B + 209))), some (ax_i (nI i))] [] C f
set_option maxHeartbeats 4000000 in
set_option maxRecDepth 10000 in
theorem lw_loop (X : ax_X D p s m #[Value.ref b] meth c RL cL_law 4) (hDs : D.2.2.2.1 = s.heap.size) (hr : meth.sig.returnType = ret) (hX : va_X b L xs s s.heap) (hbl : b < s.heap.size) (hL : L ≤ 3584) (hS1 : S.2.2.1 ≤ s.heap.size + 600000) (hS2 : S.2.2.2 ≤ 7302249) : ∀ (n i : Nat) (A : ab_A) (C : ax_C), L < i + n → i < 10000 → bo S C B A → ax_Z p l e room_1 s m #[Value.ref b] below meth c D 4 0 (lw_Z below #[Value.ref b] s) 18 [some (ax_r (some b)), some (ax_r (some B)), some (ax_r (some (B + 209))), some (ax_i (nI i))] [] S C := by
  have hbA : ¬ ax_A D b := fun w => by
    have w : D.2.2.2.1 ≤ b := w
    omega
  intro n
  induction n with
  | zero =>
    intro i A C hn hi hI
    exact lw_head X hDs hr hX hbl hbA hL hS1 hS2 hi (fun w => by omega)
  | succ n ih =>
    intro i A C hn hi hI
    refine lw_head X hDs hr hX hbl hbA hL hS1 hS2 hi fun w => ?_
    have eA : ∀ j, nI i + nI j = nI (i + j) := fun j => n_add i j
    have v : ∀ j, j < 7 → vp_in (nI i + nI j) L := fun j hj => by
      rw [eA]
      exact vp_in_nI (by omega) (by omega)
    have hZ : ∀ A' C', bo S C' B A' → ax_Z p l e room_1 s m #[Value.ref b] below meth c D 4 0 (lw_Z below #[Value.ref b] s) 1345 [some (ax_r (some b)), some (ax_r (some B)), some (ax_r (some (B + 209))), some (ax_i (nI i))] [] S C' := by
      intro A' C' h'
      have r : ∀ ls st C, _ → ax_Z p l e room_1 s m #[Value.ref b] below meth c D 4 0 (lw_Z below #[Value.ref b] s) 1345 ls st S C := (sx_iinc X (v := (7 : Int32)) dL_law_1345 (by decide) (by decide) (sx_goto X (tgt := 18) dL_law_1348 (by decide) (fun _ _ _ h => h)))
      have f : ax_Z p l e room_1 s m #[Value.ref b] below meth c D 4 0 (lw_Z below #[Value.ref b] s) 18 [some (ax_r (some b)), some (ax_r (some B)), some (ax_r (some (B + 209))), some (ax_i (nI i + (7 : Int32)))] [] S C' := by
        rw [show (7 : Int32) = nI 7 from rfl, eA]
        exact ih (i + 7) A' C' (by omega) (by omega) h'
      exact r [some (ax_r (some b)), some (ax_r (some B)), some (ax_r (some (B + 209))), some (ax_i (nI i))] [] C' f
    have h1 : vp_in (nI i + (1 : Int32)) L := v 1 (by omega)
    have h2 : vp_in (nI i + (2 : Int32)) L := v 2 (by omega)
    have h3 : vp_in (nI i + (3 : Int32)) L := v 3 (by omega)
    have h4 : vp_in (nI i + (4 : Int32)) L := v 4 (by omega)
    have h5 : vp_in (nI i + (5 : Int32)) L := v 5 (by omega)
    have h6 : vp_in (nI i + (6 : Int32)) L := v 6 (by omega)
    refine ⟨fun k hk _ => ?_, fun _ => hZ A C hI⟩
    have : k = 0 ∨ k = 1 ∨ k = 2 ∨ k = 3 ∨ k = 4 ∨ k = 5 ∨ k = 6 ∨ k = 7 ∨ k = 8 ∨ k = 9 ∨ k = 10 ∨ k = 11 ∨ k = 12 ∨ k = 13 ∨ k = 14 ∨ k = 15 ∨ k = 16 ∨ k = 17 ∨ k = 18 ∨ k = 19 ∨ k = 20 ∨ k = 21 ∨ k = 22 ∨ k = 23 ∨ k = 24 ∨ k = 25 ∨ k = 26 ∨ k = 27 ∨ k = 28 ∨ k = 29 ∨ k = 30 ∨ k = 31 ∨ k = 32 ∨ k = 33 ∨ k = 34 := by omega
    rcases this with rfl | rfl | rfl | rfl | rfl | rfl | rfl | rfl | rfl | rfl | rfl | rfl | rfl | rfl | rfl | rfl | rfl | rfl | rfl | rfl | rfl | rfl | rfl | rfl | rfl | rfl | rfl | rfl | rfl | rfl | rfl | rfl | rfl | rfl | rfl
    · exact lc_0 X hX hbl hbA h1 h2 h3 h4 h5 h6 hI hZ
    · exact lc_1 X hX hbl hbA h1 h2 h3 h4 h5 h6 hI hZ
    · exact lc_2 X hX hbl hbA h1 h2 h3 h4 h5 h6 hI hZ
    · exact lc_3 X hX hbl hbA h1 h2 h3 h4 h5 h6 hI hZ
    · exact lc_4 X hX hbl hbA h1 h2 h3 h4 h5 h6 hI hZ
    · exact lc_5 X hX hbl hbA h1 h2 h3 h4 h5 h6 hI hZ
    · exact lc_6 X hX hbl hbA h1 h2 h3 h4 h5 h6 hI hZ
    · exact lc_7 X hX hbl hbA h1 h2 h3 h4 h5 h6 hI hZ
    · exact lc_8 X hX hbl hbA h1 h2 h3 h4 h5 h6 hI hZ
    · exact lc_9 X hX hbl hbA h1 h2 h3 h4 h5 h6 hI hZ
    · exact lc_10 X hX hbl hbA h1 h2 h3 h4 h5 h6 hI hZ
    · exact lc_11 X hX hbl hbA h1 h2 h3 h4 h5 h6 hI hZ
    · exact lc_12 X hX hbl hbA h1 h2 h3 h4 h5 h6 hI hZ
    · exact lc_13 X hX hbl hbA h1 h2 h3 h4 h5 h6 hI hZ
    · exact lc_14 X hX hbl hbA h1 h2 h3 h4 h5 h6 hI hZ
    · exact lc_15 X hX hbl hbA h1 h2 h3 h4 h5 h6 hI hZ
    · exact lc_16 X hX hbl hbA h1 h2 h3 h4 h5 h6 hI hZ
    · exact lc_17 X hX hbl hbA h1 h2 h3 h4 h5 h6 hI hZ
    · exact lc_18 X hX hbl hbA h1 h2 h3 h4 h5 h6 hI hZ
    · exact lc_19 X hX hbl hbA h1 h2 h3 h4 h5 h6 hI hZ
    · exact lc_20 X hX hbl hbA h1 h2 h3 h4 h5 h6 hI hZ
    · exact lc_21 X hX hbl hbA h1 h2 h3 h4 h5 h6 hI hZ
    · exact lc_22 X hX hbl hbA h1 h2 h3 h4 h5 h6 hI hZ
    · exact lc_23 X hX hbl hbA h1 h2 h3 h4 h5 h6 hI hZ
    · exact lc_24 X hX hbl hbA h1 h2 h3 h4 h5 h6 hI hZ
    · exact lc_25 X hX hbl hbA h1 h2 h3 h4 h5 h6 hI hZ
    · exact lc_26 X hX hbl hbA h1 h2 h3 h4 h5 h6 hI hZ
    · exact lc_27 X hX hbl hbA h1 h2 h3 h4 h5 h6 hI hZ
    · exact lc_28 X hX hbl hbA h1 h2 h3 h4 h5 h6 hI hZ
    · exact lc_29 X hX hbl hbA h1 h2 h3 h4 h5 h6 hI hZ
    · exact lc_30 X hX hbl hbA h1 h2 h3 h4 h5 h6 hI hZ
    · exact lc_31 X hX hbl hbA h1 h2 h3 h4 h5 h6 hI hZ
    · exact lc_32 X hX hbl hbA h1 h2 h3 h4 h5 h6 hI hZ
    · exact lc_33 X hX hbl hbA h1 h2 h3 h4 h5 h6 hI hZ
    · exact lc_34 X hX hbl hbA h1 h2 h3 h4 h5 h6 hI hZ
end
