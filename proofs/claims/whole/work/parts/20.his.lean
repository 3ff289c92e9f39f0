/-! ===== the class's state: what it shows; changes ===== -/
/-- states from the oldest to the last that can be made again; how many lie behind and before; slots; text; print -/
abbrev ab_A : Type := (Nat → ab_V) × Nat × Nat × (Nat → ab_V) × (Nat → Bool) × (Nat → Int32) × Nat × (Nat → Int32) × Nat
def kS (S : ax_S) (B : Nat) : Prop := S.1 B = 8 ∧ S.1 (B + 1) = 2 ∧ S.1 (B + 2) = 15 ∧ S.2.1 (B + 2) = 11 ∧ S.1 (B + 171) = 15 ∧ S.2.1 (B + 171) = 2 ∧ S.1 (B + 172) = 12 ∧ S.2.1 (B + 172) = 2 ∧ S.1 (B + 173) = 3 ∧ S.1 (B + 174) = 1 ∧ S.1 (B + 175) = 7 ∧ S.1 (B + 176) = 13 ∧ S.2.1 (B + 176) = 120 ∧ S.1 (B + 179) = 6 ∧ S.1 (B + 180) = 13 ∧ S.2.1 (B + 180) = 341
def kR (S : ax_S) (C : ax_C) (B : Nat) : Prop := (C.2.2 B 0 = some (B + 1) ∧ C.2.2 B 1 = some (B + 171) ∧ C.2.2 B 2 = some (B + 172) ∧ C.2.2 B 3 = some (B + 173) ∧ C.2.2 B 4 = some (B + 174) ∧ C.2.2 B 5 = some (B + 175) ∧ C.2.2 B 6 = some (B + 179)) ∧ C.2.2 (B + 1) 0 = some (B + 2) ∧ (∀ s, s < 2 → C.2.2 (B + 171) s = some (B + 181 + 14 * s)) ∧ C.2.2 (B + 175) 0 = some (B + 176) ∧ C.2.2 (B + 175) 4 = some (B + 177) ∧ C.2.2 (B + 179) 0 = some (B + 180) ∧ pA S C (B + 177)
/-- the ring's pictures and the draft -/
def kH (S : ax_S) (C : ax_C) (B : Nat) (τ : Nat → Nat) (pr : Nat) (W : Nat → ab_V) (a f : Nat) : Prop := (pr < 11 ∧ a + f ≤ 10) ∧ (C.1 (B + 1) 2 = nI pr ∧ C.1 (B + 1) 3 = nI a ∧ C.1 (B + 1) 4 = nI f) ∧ ((∀ k, k < 12 → τ k < 12) ∧ (∀ j k, j < 12 → k < 12 → τ j = τ k → j = k)) ∧ (∀ k, k < 11 → C.2.2 (B + 2) k = some (B + 3 + 14 * τ k)) ∧ C.2.2 (B + 1) 1 = some (B + 3 + 14 * τ 11) ∧ (∀ k, k < 12 → ∃ σ, ps S C (B + 3 + 14 * k) σ) ∧ ∀ j, j ≤ a + f → pc S C (B + 3 + 14 * τ ((pr + 11 - a + j) % 11)) (W j)
def kT (S : ax_S) (C : ax_C) (B : Nat) (kv : Nat → ab_V) (K : Nat → Bool) : Prop := ∀ s, s < 2 → C.1 (B + 172) s = bI (K s) ∧ ∃ σ, ps S C (B + 181 + 14 * s) σ ∧ (K s = true → sh C (B + 181 + 14 * s) σ (kv s))
def kX (C : ax_C) (B : Nat) (tx : Nat → Int32) (tl : Nat) (px : Nat → Int32) (pl : Nat) : Prop := C.1 (B + 175) 1 = nI tl ∧ (∀ q, q < tl → C.1 (B + 176) q = tx q) ∧ C.1 (B + 179) 1 = nI pl ∧ (∀ q, q < pl → C.1 (B + 180) q = px q) ∧ tl ≤ 120 ∧ pl ≤ 341
def kO (E C : ax_C) (B : Nat) : Prop := ∀ b, B + 209 ≤ b → C.1 b = E.1 b ∧ C.2.2 b = E.2.2 b
def k01 (C : ax_C) (B : Nat) : Prop := (C.1 (B + 173) 0 = 0 ∨ C.1 (B + 173) 0 = 1) ∧ (C.1 (B + 173) 1 = 0 ∨ C.1 (B + 173) 1 = 1)
/-- the class's object and all that it holds -/
def zS (S : ax_S) (E C : ax_C) (B : Nat) (τ : Nat → Nat) (pr : Nat) (A : ab_A) : Prop := kS S B ∧ kR S C B ∧ kH S C B τ pr A.1 A.2.1 A.2.2.1 ∧ kT S C B A.2.2.2.1 A.2.2.2.2.1 ∧ kX C B A.2.2.2.2.2.1 A.2.2.2.2.2.2.1 A.2.2.2.2.2.2.2.1 A.2.2.2.2.2.2.2.2 ∧ kO E C B
def cls (S : ax_S) (E C : ax_C) (B : Nat) (A : ab_A) : Prop := ∃ τ pr, zS S E C B τ pr A
/-- a new state -/
def psW (W : Nat → ab_V) (a : Nat) (V : ab_V) : Nat → ab_V := if a < 10 then va_up W (a + 1) V else fun j => if j < 10 then W (j + 1) else V
def psh (A : ab_A) (V : ab_V) : ab_A := (psW A.1 A.2.1 V, (if A.2.1 < 10 then A.2.1 + 1 else 10), 0, A.2.2.2)
/-- what is now -/
def nw (A : ab_A) : ab_V := A.1 A.2.1
/-- frames: the draft alone has changed -/
theorem kH_fr {S : ax_S} {C C' : ax_C} {B : Nat} {τ : Nat → Nat} {pr a f : Nat} {W : Nat → ab_V} (h : kH S C B τ pr W a f) (h1 : ∀ b, B ≤ b → b < B + 171 → (b < B + 3 + 14 * τ 11 ∨ B + 3 + 14 * τ 11 + 14 ≤ b) → C'.1 b = C.1 b ∧ C'.2.2 b = C.2.2 b) (h2 : ∃ σ, ps S C' (B + 3 + 14 * τ 11) σ) : kH S C' B τ pr W a f := by
  obtain ⟨z1, z2, z3, z4, z5, z6, z7⟩ := h
  have t11 := z3.1 11 (by omega)
  have tk : ∀ k, k < 11 → τ k < 12 ∧ τ k ≠ τ 11 := fun k hk => ⟨z3.1 k (by omega), fun w => by have := z3.2 k 11 (by omega) (by omega) w; omega⟩
  refine ⟨z1, by rw [(h1 (B + 1) (by omega) (by omega) (by omega)).1]; exact z2, z3, fun k hk => ?_, ?_, fun k hk => ?_, fun j hj => ?_⟩
  · rw [(h1 (B + 2) (by omega) (by omega) (by omega)).2]; exact z4 k hk
  · rw [(h1 (B + 1) (by omega) (by omega) (by omega)).2]; exact z5
  · by_cases w : k = τ 11
    · rw [w]; exact h2
    · obtain ⟨σ, hσ⟩ := z6 k hk
      exact ⟨σ, ps_fr hσ fun b b1 b2 => (h1 b (by omega) (by omega) (by omega)).2⟩
  · have := tk ((pr + 11 - a + j) % 11) (by omega)
    exact pc_fr (z7 j hj) (fun b b1 b2 => (h1 b (by omega) (by omega) (by omega)).1) (fun b b1 b2 => (h1 b (by omega) (by omega) (by omega)).2)
theorem zS_fr {S : ax_S} {E C C' : ax_C} {B : Nat} {τ : Nat → Nat} {pr : Nat} {A : ab_A} (h : zS S E C B τ pr A) (h1 : ∀ b, (b < B + 3 + 14 * τ 11 ∨ B + 3 + 14 * τ 11 + 14 ≤ b) → b ≠ B + 173 → C'.1 b = C.1 b) (h3 : ∀ b, (b < B + 3 + 14 * τ 11 ∨ B + 3 + 14 * τ 11 + 14 ≤ b) → C'.2.2 b = C.2.2 b) (h2 : ∃ σ, ps S C' (B + 3 + 14 * τ 11) σ) : zS S E C' B τ pr A := by
  obtain ⟨z1, ⟨r1, r2, r3, r4, r5, r6, r7⟩, z3, z4, z5, z6⟩ := h
  have t11 := z3.2.2.1.1 11 (by omega)
  have g : ∀ b, (b = B ∨ b = B + 1 ∨ B + 171 ≤ b) → C'.2.2 b = C.2.2 b := fun b hb => h3 b (by omega)
  have g1 : ∀ b, (b = B ∨ b = B + 1 ∨ B + 171 ≤ b) → b ≠ B + 173 → C'.1 b = C.1 b := fun b hb => h1 b (by omega)
  refine ⟨z1, ⟨?_, ?_, ?_, ?_, ?_, ?_, ?_⟩, kH_fr z3 (fun b b1 b2 b3 => ⟨h1 b b3 (by omega), h3 b b3⟩) h2, fun s hs => ?_, ?_, fun b hb => ?_⟩
  · rw [g B (by omega)]; exact r1
  · rw [g (B + 1) (by omega)]; exact r2
  · rw [g (B + 171) (by omega)]; exact r3
  · rw [g (B + 175) (by omega)]; exact r4
  · rw [g (B + 175) (by omega)]; exact r5
  · rw [g (B + 179) (by omega)]; exact r6
  · exact pA_2 r7 (g _ (by omega))
  · obtain ⟨y1, σ, y2, y3⟩ := z4 s hs
    exact ⟨by rw [g1 _ (by omega) (by omega)]; exact y1, σ, ps_fr y2 fun b b1 b2 => g b (by omega), fun w => sh_fr y2 (y3 w) fun b b1 b2 => g1 b (by omega) (by omega)⟩
  · unfold kX
    rw [g1 (B + 175) (by omega) (by omega), g1 (B + 176) (by omega) (by omega), g1 (B + 179) (by omega) (by omega), g1 (B + 180) (by omega) (by omega)]
    exact z5
  · rw [g1 b (by omega) (by omega), g b (by omega)]
    exact z6 b hb
section
variable {l : Launch} {D : ax_D} {S : ax_S} {E C : ax_C} {B pr : Nat} {τ : Nat → Nat} {A : ab_A}
theorem c_now (h : zS S E C B τ pr A) : ax_CR l D mt_X1_now [ax_r (some (B + 1))] S C (fun r C' => r = some (B + 3 + 14 * τ pr) ∧ C' = C) := by
  obtain ⟨z1, z2, z3, z4⟩ := h
  refine vc_X1_now z1.2.1 ⟨z1.2.1, z1.2.1, ?_⟩
  rw [z2.2.1, z3.2.1.1]
  have := z3.1.1
  refine ⟨z1.2.2.1, by rw [z1.2.2.2.1]; exact vp_in_nI this (by omega), ?_, rfl⟩
  rw [n_clamp (by omega)]
  exact z3.2.2.2.1 pr this
theorem now_pc (h : zS S E C B τ pr A) : pc S C (B + 3 + 14 * τ pr) (nw A) := by
  have z := h.2.2.1
  have := z.2.2.2.2.2.2 A.2.1 (by omega)
  have e : (pr + 11 - A.2.1 + A.2.1) % 11 = pr := by
    have := z.1
    omega
  rw [e] at this
  exact this
theorem c_draftOfNow (h : zS S E C B τ pr A) : ax_CR l D mt_X1_draftOfNow [ax_r (some (B + 1))] S C (fun r C' => r = some (B + 3 + 14 * τ 11) ∧ C'.2 = C.2 ∧ (∀ b, (b < B + 3 + 14 * τ 11 ∨ B + 3 + 14 * τ 11 + 14 ≤ b) → C'.1 b = C.1 b) ∧ pc S C' (B + 3 + 14 * τ 11) (nw A)) := by
  refine vc_X1_draftOfNow h.1.2.1 ⟨h.1.2.1, (c_now h).use ?_⟩
  obtain ⟨z1, z2, z3, z4⟩ := id h
  have hpr := z3.1.1
  rw [z3.2.2.2.2.1]
  obtain ⟨σ2, p1, p2⟩ := now_pc h
  obtain ⟨σ, p3⟩ := z3.2.2.2.2.2.1 (τ 11) (z3.2.2.1.1 11 (by omega))
  have hne : τ pr ≠ τ 11 := fun w => by
    have := z3.2.2.1.2 pr 11 (by omega) (by omega) w
    omega
  refine (c_copyFromV p3 p1 p2 (by omega)).mono ?_
  rintro C3 ⟨e2, e1, hs⟩
  rw [e2]
  exact ⟨z1.2.1, z3.2.2.2.2.1, rfl, e1, σ, ps_e p3 e2, hs⟩
theorem c_startChange (h : zS S E C B τ pr A) : ax_CR l D mt_X7_startChange [ax_r (some B)] S C (fun r C' => r = some (B + 3 + 14 * τ 11) ∧ zS S E C' B τ pr A ∧ pc S C' (B + 3 + 14 * τ 11) (nw A) ∧ lA S C' (B + 173) 0) := by
  obtain ⟨z1, z2, z3, z4⟩ := id h
  have t11 := z3.2.2.1.1 11 (by omega)
  refine vc_X7_startChange z1.1 ⟨z1.1, ?_⟩
  rw [z2.1.2.2.2.1]
  refine (c_start z1.2.2.2.2.2.2.2.2.1).mono ?_
  rintro C1 ⟨g, e1, hl⟩
  subst e1
  have h1 : zS S E (ax_rI C (B + 173) g) B τ pr A := by
    refine zS_fr h (fun b b1 b2 => ax_rI_n b2) (fun b _ => rfl) ?_
    obtain ⟨σ, hσ⟩ := z3.2.2.2.2.2.1 (τ 11) t11
    exact ⟨σ, ps_e hσ rfl⟩
  refine ⟨z1.1, ?_⟩
  show ax_CR l D mt_X1_draftOfNow [ax_r (C.2.2 B 0)] S _ _
  rw [z2.1.1]
  refine (c_draftOfNow h1).mono ?_
  rintro r C2 ⟨e1, e2, e3, e4⟩
  refine ⟨e1, ?_, e4, ?_⟩
  · refine zS_fr h1 (fun b b1 _ => e3 b b1) (fun b _ => by rw [e2]) ?_
    obtain ⟨σ, hσ, _⟩ := e4
    exact ⟨σ, hσ⟩
  · obtain ⟨y1, y2, y3, y4⟩ := hl
    refine ⟨y1, ?_, ?_, ?_⟩
    · rw [e3 _ (by omega)]; exact y2
    · rw [e3 _ (by omega)]; exact y3
    · rw [e3 _ (by omega)]; exact y4
theorem c_takeDraft {V : ab_V} (h : zS S E C B τ pr A) (hd : pc S C (B + 3 + 14 * τ 11) V) : ax_CV l D mt_X1_takeDraft [ax_r (some (B + 1))] S C (fun C' => cls S E C' B (psh A V)) := by
  obtain ⟨z1, ⟨r1, r2, r3, r4, r5, r6, r7⟩, ⟨k1, k2, k3, k4, k5, k6, k7⟩, z4, z5, z6⟩ := id h
  have hpr := k1.1
  have haf := k1.2
  have hv := z1.2.1
  have hq : (pr + 1) % 11 < 11 := Nat.mod_lt _ (by decide)
  refine vc_X1_takeDraft hv ⟨hv, by decide, hv, hv, hv, ?_⟩
  have e1 : (C.1 (B + 1) 2 + 1 - (C.1 (B + 1) 2 + 1) / 11 * 11) = nI ((pr + 1) % 11) := by
    rw [k2.1, n_succ, show (11 : Int32) = nI 11 from rfl, pk_rem (by omega) (by omega) (by omega)]
  rw [e1]
  have e2 : (ax_wI C (B + 1) 2 (nI ((pr + 1) % 11))).1 (B + 1) 2 = nI ((pr + 1) % 11) := by rw [ax_wI_t rfl]; exact n_up_t rfl
  rw [e2, n_clamp (by omega)]
  show ax_sm (C.2.2 (B + 1) 0) _
  rw [r2]
  refine ⟨z1.2.2.1, by rw [z1.2.2.2.1]; exact vp_in_nI hq (by omega), hv, hv, hv, ?_⟩
  show ax_sm (C.2.2 (B + 1) 0) (fun b2 => ax_sm (C.2.2 (B + 1) 1) _)
  rw [r2, k5]
  obtain ⟨σd, pd, sd⟩ := hd
  refine ⟨z1.2.2.1, pd.1, by rw [z1.2.2.2.1]; exact vp_in_nI hq (by omega), hv, hv, hv, hv, ?_⟩
  have e3 : (ax_wR (ax_wR (ax_wI C (B + 1) 2 (nI ((pr + 1) % 11))) (B + 2) ((pr + 1) % 11) (some (B + 3 + 14 * τ 11))) (B + 1) 1 ((ax_wI C (B + 1) 2 (nI ((pr + 1) % 11))).2.2 (B + 2) ((pr + 1) % 11))).1 (B + 1) 3 = nI A.2.1 := by
    show (ax_wI C (B + 1) 2 _).1 (B + 1) 3 = _
    rw [ax_wI_t rfl, n_up_n (by omega)]
    exact k2.2.1
  have e4 : (ax_wI C (B + 1) 2 (nI ((pr + 1) % 11))).2.2 (B + 2) ((pr + 1) % 11) = some (B + 3 + 14 * τ ((pr + 1) % 11)) := k4 _ hq
  rw [e3, e4]
  have e5 : (if (10 : Int32) < nI A.2.1 + 1 then 10 else nI A.2.1 + 1) = nI (if A.2.1 < 10 then A.2.1 + 1 else 10) := by
    rw [n_succ, show (10 : Int32) = nI 10 from rfl]
    by_cases z : A.2.1 < 10
    · rw [if_pos z, if_neg (by rw [n_lt_f (by omega) (by omega)]; exact id)]
    · rw [if_neg z, if_pos (nI_lt (by omega) (by omega))]
  rw [e5]
  -- the new state
  have tk : ∀ k, k < 12 → τ k < 12 := k3.1
  have tinj : ∀ j k, j < 12 → k < 12 → τ j = τ k → j = k := k3.2
  generalize hC' : (ax_wI (ax_wI (ax_wR (ax_wR (ax_wI C (B + 1) 2 (nI ((pr + 1) % 11))) (B + 2) ((pr + 1) % 11) (some (B + 3 + 14 * τ 11))) (B + 1) 1 (some (B + 3 + 14 * τ ((pr + 1) % 11)))) (B + 1) 3 (nI (if A.2.1 < 10 then A.2.1 + 1 else 10))) (B + 1) 4 0) = C'
  have f1 : ∀ b, b ≠ B + 1 → C'.1 b = C.1 b := by
    intro b hb
    rw [← hC', ax_wI_n hb, ax_wI_n hb]
    show (ax_wI C (B + 1) 2 _).1 b = _
    rw [ax_wI_n hb]
  have f2 : ∀ b, b ≠ B + 1 → b ≠ B + 2 → C'.2.2 b = C.2.2 b := by
    intro b hb hb2
    rw [← hC']
    show va_up (va_up C.2.2 (B + 2) _) (B + 1) _ b = _
    rw [va_up_ne _ _ hb, va_up_ne _ _ hb2]
  have f3 : C'.2.2 (B + 2) = va_up (C.2.2 (B + 2)) ((pr + 1) % 11) (some (B + 3 + 14 * τ 11)) := by
    rw [← hC']
    show va_up (va_up C.2.2 (B + 2) _) (B + 1) _ (B + 2) = _
    rw [va_up_ne _ _ (by omega), va_up_self]
    rfl
  have f4 : C'.2.2 (B + 1) = va_up (C.2.2 (B + 1)) 1 (some (B + 3 + 14 * τ ((pr + 1) % 11))) := by
    rw [← hC']
    show va_up (va_up C.2.2 (B + 2) _) (B + 1) (va_up ((va_up C.2.2 (B + 2) _) (B + 1)) 1 _) (B + 1) = _
    rw [va_up_self, va_up_ne _ _ (by omega)]
  have f5 : C'.1 (B + 1) 2 = nI ((pr + 1) % 11) ∧ C'.1 (B + 1) 3 = nI (if A.2.1 < 10 then A.2.1 + 1 else 10) ∧ C'.1 (B + 1) 4 = nI 0 := by
    rw [← hC']
    refine ⟨?_, ?_, ?_⟩
    · rw [ax_wI_t rfl, n_up_n (by omega), ax_wI_t rfl, n_up_n (by omega)]
      exact e2
    · rw [ax_wI_t rfl, n_up_n (by omega), ax_wI_t rfl, n_up_t rfl]
    · rw [ax_wI_t rfl, n_up_t rfl]
      rfl
  refine ⟨va_up (va_up τ ((pr + 1) % 11) (τ 11)) 11 (τ ((pr + 1) % 11)), (pr + 1) % 11, z1, ⟨?_, ?_, ?_, ?_, ?_, ?_, ?_⟩, ⟨⟨hq, ?_⟩, f5, ⟨?_, ?_⟩, ?_, ?_, ?_, ?_⟩, ?_, ?_, ?_⟩
  · rw [f2 B (by omega) (by omega)]; exact r1
  · rw [f4, n_up_n (by omega)]; exact r2
  · rw [f2 _ (by omega) (by omega)]; exact r3
  · rw [f2 _ (by omega) (by omega)]; exact r4
  · rw [f2 _ (by omega) (by omega)]; exact r5
  · rw [f2 _ (by omega) (by omega)]; exact r6
  · exact pA_2 r7 (f2 _ (by omega) (by omega))
  · show (if A.2.1 < 10 then A.2.1 + 1 else 10) + 0 ≤ 10
    split <;> omega
  · intro k hk
    by_cases w : k = 11
    · rw [n_up_t w]; exact tk _ (by omega)
    · rw [n_up_n w]
      by_cases w2 : k = (pr + 1) % 11
      · rw [n_up_t w2]; exact tk _ (by omega)
      · rw [n_up_n w2]; exact tk _ hk
  · intro j k hj hk
    have b1 := tinj ((pr + 1) % 11)
    have b2 := tinj 11
    by_cases w : j = 11
    · rw [n_up_t w]
      by_cases y : k = 11
      · rw [n_up_t y]; omega
      · rw [n_up_n y]
        by_cases y2 : k = (pr + 1) % 11
        · rw [n_up_t y2]; intro q; have := tinj _ _ (by omega) (by omega) q; omega
        · rw [n_up_n y2]; intro q; have := tinj _ _ (by omega) (by omega) q; omega
    · rw [n_up_n w]
      by_cases w2 : j = (pr + 1) % 11
      · rw [n_up_t w2]
        by_cases y : k = 11
        · rw [n_up_t y]; intro q; have := tinj _ _ (by omega) (by omega) q; omega
        · rw [n_up_n y]
          by_cases y2 : k = (pr + 1) % 11
          · rw [n_up_t y2]; omega
          · rw [n_up_n y2]; intro q; have := tinj _ _ (by omega) (by omega) q; omega
      · rw [n_up_n w2]
        by_cases y : k = 11
        · rw [n_up_t y]; intro q; have := tinj _ _ (by omega) (by omega) q; omega
        · rw [n_up_n y]
          by_cases y2 : k = (pr + 1) % 11
          · rw [n_up_t y2]; intro q; have := tinj _ _ (by omega) (by omega) q; omega
          · rw [n_up_n y2]; intro q; exact tinj _ _ (by omega) (by omega) q
  · intro k hk
    rw [f3, n_up_n (f := va_up τ ((pr + 1) % 11) (τ 11)) (by omega)]
    by_cases w2 : k = (pr + 1) % 11
    · rw [n_up_t w2, n_up_t w2]
    · rw [n_up_n w2, n_up_n w2]; exact k4 k hk
  · rw [f4, n_up_t rfl, n_up_t rfl]
  · intro k hk
    obtain ⟨σ, hσ⟩ := k6 k hk
    exact ⟨σ, ps_fr hσ fun b b1 b2 => f2 b (by omega) (by omega)⟩
  · have pf : ∀ (k : Nat) (V : ab_V), pc S C (B + 3 + 14 * k) V → pc S C' (B + 3 + 14 * k) V := fun k V hp => pc_fr hp (fun b b1 b2 => f1 b (by omega)) (fun b b1 b2 => f2 b (by omega) (by omega))
    intro j hj
    have hj : j ≤ (if A.2.1 < 10 then A.2.1 + 1 else 10) + 0 := hj
    show pc S C' (B + 3 + 14 * va_up (va_up τ ((pr + 1) % 11) (τ 11)) 11 (τ ((pr + 1) % 11)) (((pr + 1) % 11 + 11 - (if A.2.1 < 10 then A.2.1 + 1 else 10) + j) % 11)) (psW A.1 A.2.1 V j)
    rw [n_up_n (by omega)]
    unfold psW
    by_cases w : A.2.1 < 10
    · rw [if_pos w] at hj
      rw [if_pos w, if_pos w]
      by_cases y : j = A.2.1 + 1
      · rw [n_up_t y, n_up_t (by omega)]
        exact pf _ _ ⟨σd, pd, sd⟩
      · rw [n_up_n y, n_up_n (by omega)]
        have := pf _ _ (k7 j (by omega))
        rw [show (pr + 11 - A.2.1 + j) % 11 = ((pr + 1) % 11 + 11 - (A.2.1 + 1) + j) % 11 by omega] at this
        exact this
    · rw [if_neg w] at hj
      rw [if_neg w, if_neg w]
      have ha : A.2.1 = 10 := by omega
      by_cases y : j < 10
      · rw [if_pos y, n_up_n (by omega)]
        have := pf _ _ (k7 (j + 1) (by omega))
        rw [show (pr + 11 - A.2.1 + (j + 1)) % 11 = ((pr + 1) % 11 + 11 - 10 + j) % 11 by omega] at this
        exact this
      · rw [if_neg y, n_up_t (by omega)]
        exact pf _ _ ⟨σd, pd, sd⟩
  · intro s hs
    obtain ⟨y1, σ, y2, y3⟩ := z4 s hs
    exact ⟨by rw [f1 _ (by omega)]; exact y1, σ, ps_fr y2 fun b b1 b2 => f2 b (by omega) (by omega), fun w => sh_fr y2 (y3 w) fun b b1 b2 => f1 b (by omega)⟩
  · show kX C' B _ _ _ _
    unfold kX
    rw [f1 (B + 175) (by omega), f1 (B + 176) (by omega), f1 (B + 179) (by omega), f1 (B + 180) (by omega)]
    exact z5
  · intro b hb
    rw [f1 b (by omega), f2 b (by omega) (by omega)]
    exact z6 b hb
theorem c_endChange {V : ab_V} {t x : Int32} (h : zS S E C B τ pr A) (hd : t = 0 → pc S C (B + 3 + 14 * τ 11) V) (hl : lA S C (B + 173) t) : ax_CI l D mt_X7_endChange [ax_r (some B), ax_i x] S C (fun r C' => (t ≠ 0 → r = t ∧ cls S E C' B A) ∧ (t = 0 → r = x ∧ cls S E C' B (psh A V))) := by
  obtain ⟨z1, z2, z3, z4⟩ := id h
  refine vc_X7_endChange z1.1 ⟨z1.1, ?_⟩
  rw [z2.1.2.2.2.1]
  refine (c_error hl).use ⟨fun w => ⟨z1.1, ?_⟩, fun w => ⟨fun _ => ⟨rfl, τ, pr, h⟩, fun w2 => absurd w2 w⟩⟩
  rw [z2.1.1]
  exact (c_takeDraft h (hd w)).mono fun C' hc => ⟨fun w2 => absurd w w2, fun _ => ⟨rfl, hc⟩⟩
end
