/-! ===== the law: the editor beside the reference; rows of the law ===== -/
section
variable {l : Launch} {D : ax_D} {S : ax_S} {E C : ax_C} {B M : Nat} {A : ab_A}
/-- the editor stays as it is where its cells stay -/
theorem cls_g {S' : ax_S} {C' : ax_C} (h : cls S E C B A) (hs : ∀ b, B ≤ b → b < B + 209 → S'.1 b = S.1 b ∧ S'.2.1 b = S.2.1 b) (hc : ∀ b, B ≤ b → b < B + 209 → C'.1 b = C.1 b ∧ C'.2.2 b = C.2.2 b) : cls S' C' C' B A := by
  obtain ⟨τ, pr, z1, ⟨⟨r1, r2, r3, r4, r5, r6, r7⟩, q1, q2, q3, q4, q5, q6⟩, ⟨k1, k2, k3, k4, k5, k6, k7⟩, z4, z5, z6⟩ := h
  have s1 : ∀ b, B ≤ b → b < B + 209 → S'.1 b = S.1 b := fun b b1 b2 => (hs b b1 b2).1
  have s2 : ∀ b, B ≤ b → b < B + 209 → S'.2.1 b = S.2.1 b := fun b b1 b2 => (hs b b1 b2).2
  have c1 : ∀ b, B ≤ b → b < B + 209 → C'.1 b = C.1 b := fun b b1 b2 => (hc b b1 b2).1
  have c2 : ∀ b, B ≤ b → b < B + 209 → C'.2.2 b = C.2.2 b := fun b b1 b2 => (hc b b1 b2).2
  have eB : C'.2.2 B = C.2.2 B := c2 B (by omega) (by omega)
  refine ⟨τ, pr, ?_, ⟨⟨?_, ?_, ?_, ?_, ?_, ?_, ?_⟩, ?_, fun s hs' => ?_, ?_, ?_, ?_, ?_⟩, ⟨k1, ?_, k3, fun k hk => ?_, ?_, fun k hk => ?_, fun j hj => ?_⟩, fun s hs' => ?_, ?_, fun b _ => ⟨rfl, rfl⟩⟩
  · obtain ⟨y1, y2, y3, y4, y5, y6, y7, y8, y9, y10, y11, y12, y13, y14, y15, y16⟩ := z1
    refine ⟨?_, ?_, ?_, ?_, ?_, ?_, ?_, ?_, ?_, ?_, ?_, ?_, ?_, ?_, ?_, ?_⟩ <;> first | (rw [s1 _ (by omega) (by omega)]; assumption) | (rw [s2 _ (by omega) (by omega)]; assumption)
  · rw [eB]; exact r1
  · rw [eB]; exact r2
  · rw [eB]; exact r3
  · rw [eB]; exact r4
  · rw [eB]; exact r5
  · rw [eB]; exact r6
  · rw [eB]; exact r7
  · rw [c2 _ (by omega) (by omega)]; exact q1
  · rw [c2 _ (by omega) (by omega)]; exact q2 s hs'
  · rw [c2 _ (by omega) (by omega)]; exact q3
  · rw [c2 _ (by omega) (by omega)]; exact q4
  · rw [c2 _ (by omega) (by omega)]; exact q5
  · exact pA_g q6 (fun b b1 b2 => hs b (by omega) (by omega)) (c2 _ (by omega) (by omega))
  · rw [c1 (B + 1) (by omega) (by omega)]; exact k2
  · rw [c2 _ (by omega) (by omega)]; exact k4 k hk
  · rw [c2 _ (by omega) (by omega)]; exact k5
  · obtain ⟨σ, hσ⟩ := k6 k hk
    exact ⟨σ, ps_g hσ (fun b b1 b2 => hs b (by omega) (by omega)) fun b b1 b2 => c2 b (by omega) (by omega)⟩
  · have ht := k3.1 ((pr + 11 - A.2.1 + j) % 11) (by omega)
    obtain ⟨σ, p1, p2⟩ := k7 j hj
    exact ⟨σ, ps_g p1 (fun b b1 b2 => hs b (by omega) (by omega)) (fun b b1 b2 => c2 b (by omega) (by omega)), sh_fr p1 p2 fun b b1 b2 => c1 b (by omega) (by omega)⟩
  · obtain ⟨y1, σ, y2, y3⟩ := z4 s hs'
    exact ⟨by rw [c1 _ (by omega) (by omega)]; exact y1, σ, ps_g y2 (fun b b1 b2 => hs b (by omega) (by omega)) (fun b b1 b2 => c2 b (by omega) (by omega)), fun w => sh_fr y2 (y3 w) fun b b1 b2 => c1 b (by omega) (by omega)⟩
  · unfold kX
    rw [c1 (B + 175) (by omega) (by omega), c1 (B + 176) (by omega) (by omega), c1 (B + 179) (by omega) (by omega), c1 (B + 180) (by omega) (by omega)]
    exact z5
/-- the reference stays as it is where its cells stay -/
theorem mdl_g {C' : ax_C} (h : mdl S E C M A) (hc : ∀ b, M ≤ b → C'.1 b = C.1 b ∧ C'.2.2 b = C.2.2 b) : mdl S C' C' M A := by
  have c1 : ∀ b, M ≤ b → C'.1 b = C.1 b := fun b b1 => (hc b b1).1
  have eM : C'.2.2 M = C.2.2 M := (hc M (by omega)).2
  obtain ⟨⟨z1, z2, z3, z4, z5, z6, z7, z8, z9⟩, z10⟩ := h
  refine ⟨⟨?_, ?_, ?_, ?_, ?_, ?_, ?_, z8, fun b _ => ⟨rfl, rfl⟩⟩, ?_⟩
  · unfold mK
    rw [eM]; exact z1
  · rw [c1 M (by omega)]; exact z2
  · rw [c1 _ (by omega)]; exact z3
  · rw [c1 _ (by omega)]; exact z4
  · rw [c1 (M + 6) (by omega), c1 (M + 5) (by omega)]; exact z5
  · rw [c1 M (by omega), c1 (M + 7) (by omega)]; exact z6
  · rw [c1 M (by omega), c1 (M + 8) (by omega)]; exact z7
  · rw [c1 _ (by omega)]; exact z10
theorem cls_kO (h : cls S E C B A) : ∀ b, B + 209 ≤ b → C.1 b = E.1 b ∧ C.2.2 b = E.2.2 b := by
  obtain ⟨τ, pr, z1, z2, z3, z4, z5, z6⟩ := h
  exact z6
theorem mdl_kO (h : mdl S E C M A) : ∀ b, b < M → C.1 b = E.1 b ∧ C.2.2 b = E.2.2 b := h.1.2.2.2.2.2.2.2.2
/-- both sides show the same -/
def bo (S : ax_S) (C : ax_C) (B : Nat) (A : ab_A) : Prop := cls S C C B A ∧ mdl S C C (B + 209) A ∧ okA A
theorem lw_X {G : Int32 → ax_C → Prop} {mX : ax_M} {av : List ax_T} {v : Int32} {A' : ab_A} (hI : bo S C B A) (o : ax_CI l D mX av S C (fun r C' => r = v ∧ cls S C C' B A')) (hG : ∀ C1, cls S C1 C1 B A' → mdl S C1 C1 (B + 209) A → G v C1) : ax_CI l D mX av S C G := by
  refine o.mono fun r C1 ⟨h1, h2⟩ => ?_
  rw [h1]
  exact hG C1 (cls_g h2 (fun _ _ _ => ⟨rfl, rfl⟩) fun _ _ _ => ⟨rfl, rfl⟩) (mdl_g hI.2.1 (cls_kO h2))
theorem lw_M {Z : ax_C → Prop} {mM : ax_M} {av : List ax_T} {v : Int32} {A' : ab_A} (h1 : cls S C C B A') (m : ax_CI l D mM av S C (fun r C' => r = v ∧ mdl S C C' (B + 209) A')) (hk : okA A') (hZ : ∀ C2, bo S C2 B A' → Z C2) : ax_CI l D mM av S C (fun z C2 => (v = z → Z C2) ∧ (¬ v = z → False)) := by
  refine m.mono fun r C2 ⟨e, h2⟩ => ⟨fun _ => hZ C2 ⟨cls_g h1 (fun _ _ _ => ⟨rfl, rfl⟩) fun b b1 b2 => mdl_kO h2 b (by omega), mdl_g h2 fun _ _ => ⟨rfl, rfl⟩, hk⟩, fun q => q e.symm⟩
theorem lw_XL {G : Int64 → ax_C → Prop} {mX : ax_M} {av : List ax_T} {v : Int64} {A' : ab_A} (hI : bo S C B A) (o : ax_CL l D mX av S C (fun r C' => r = v ∧ cls S C C' B A')) (hG : ∀ C1, cls S C1 C1 B A' → mdl S C1 C1 (B + 209) A → G v C1) : ax_CL l D mX av S C G := by
  refine o.mono fun r C1 ⟨h1, h2⟩ => ?_
  rw [h1]
  exact hG C1 (cls_g h2 (fun _ _ _ => ⟨rfl, rfl⟩) fun _ _ _ => ⟨rfl, rfl⟩) (mdl_g hI.2.1 (cls_kO h2))
theorem lw_ML {Z : ax_C → Prop} {mM : ax_M} {av : List ax_T} {v : Int64} {A' : ab_A} (h1 : cls S C C B A') (m : ax_CL l D mM av S C (fun r C' => r = v ∧ mdl S C C' (B + 209) A')) (hk : okA A') (hZ : ∀ C2, bo S C2 B A' → Z C2) : ax_CL l D mM av S C (fun z C2 => (v = z → Z C2) ∧ (¬ v = z → False)) := by
  refine m.mono fun r C2 ⟨e, h2⟩ => ⟨fun _ => hZ C2 ⟨cls_g h1 (fun _ _ _ => ⟨rfl, rfl⟩) fun b b1 b2 => mdl_kO h2 b (by omega), mdl_g h2 fun _ _ => ⟨rfl, rfl⟩, hk⟩, fun q => q e.symm⟩
end
section
variable {p : Program} {l : Launch} {e : Env} {R : Room} {s : State} {m : MethodId} {args : Array Value} {below : List Frame} {meth : Method} {c : Code} {D : ax_D} {nL sl0 : Nat} {Q : State → Prop} {own : String} {cc : ByteArray} {pc : Nat} {S : ax_S} {K K1 K2 : ax_K}
def ax_slen (b L : Nat) (K : ax_K) : ax_K := fun ls st S C => ax_pr st fun o t => o = some b ∧ K ls (ax_i (Int32.ofNat L) :: t) S C
theorem sx_slen (X : ax_X D p s m args meth c own cc nL) {b L : Nat} {xs : Nat → Int32} (hX : va_X b L xs s s.heap) (hbl : b < s.heap.size) (hbA : ¬ ax_A D b) (hd : decode cc pc = .ok (.arraylength, 1)) (k : (∀ ls st C, K ls st S C → ax_Z p l e R s m args below meth c D nL sl0 Q (pc + 1) ls st S C)) : (∀ ls st C, ax_slen b L K ls st S C → ax_Z p l e R s m args below meth c D nL sl0 Q (pc) ls st S C) := fun ls st C hK H lsA locs cells slots h => by
  obtain ⟨o, t, rfl, rfl, hK1⟩ := ax_pr_e hK
  exact va_slen X.1 X.2.1 hX hbl hbA h.2.2.1 hd (k _ _ _ hK1 _ _ _ _ _ h)
def ax_sld (b L : Nat) (xs : Nat → Int32) (K : ax_K) : ax_K := fun ls st S C => ax_pi st fun i t => ax_pr t fun o t => o = some b ∧ vp_in i L ∧ K ls (ax_i (xs i.toNatClampNeg) :: t) S C
theorem sx_sld (X : ax_X D p s m args meth c own cc nL) {b L : Nat} {xs : Nat → Int32} (hX : va_X b L xs s s.heap) (hbl : b < s.heap.size) (hbA : ¬ ax_A D b) (hd : decode cc pc = .ok (.iaload, 1)) (k : (∀ ls st C, K ls st S C → ax_Z p l e R s m args below meth c D nL sl0 Q (pc + 1) ls st S C)) : (∀ ls st C, ax_sld b L xs K ls st S C → ax_Z p l e R s m args below meth c D nL sl0 Q (pc) ls st S C) := fun ls st C hK H lsA locs cells slots h => by
  obtain ⟨i, t, rfl, hK1⟩ := ax_pi_e hK
  obtain ⟨o, t, rfl, rfl, hin, hK2⟩ := ax_pr_e hK1
  exact va_sld X.1 X.2.1 hX hbl hbA h.2.2.1 hin hd (k _ _ _ hK2 _ _ _ _ _ h)
def ax_sw (n : Nat) (Ks : Nat → ax_K) (Kd : ax_K) : ax_K := fun ls st S C => ax_pi st fun x t => (∀ k, k < n → x = nI k → Ks k ls t S C) ∧ ((∀ k, k < n → x ≠ nI k) → Kd ls t S C)
theorem sx_sw (X : ax_X D p s m args meth c own cc nL) {n : Nat} {Ks : Nat → ax_K} {Kd : ax_K} {df hi : Int} {offs : Array Int} {of : Nat → Int} {tg : Nat → Nat} {len td : Nat} (hn2 : n < 1000) (hd : decode cc pc = .ok (.tableswitch df 0 hi offs, len)) (hhi : hi = (n : Int) - 1) (ho : ∀ k, k < n → offs[k]? = some (of k) ∧ (pc : Int) + of k = (tg k : Int)) (hf : (pc : Int) + df = (td : Int)) (kk : ∀ k, k < n → (∀ ls st C, Ks k ls st S C → ax_Z p l e R s m args below meth c D nL sl0 Q (tg k) ls st S C)) (kd : (∀ ls st C, Kd ls st S C → ax_Z p l e R s m args below meth c D nL sl0 Q (td) ls st S C)) : (∀ ls st C, ax_sw n Ks Kd ls st S C → ax_Z p l e R s m args below meth c D nL sl0 Q (pc) ls st S C) := fun ls st C hK H lsA locs cells slots h => by
  obtain ⟨x, st, rfl, hK1, hK2⟩ := ax_pi_e hK
  by_cases q : ∃ k, k < n ∧ x = nI k
  · obtain ⟨k, hk, rfl⟩ := q
    have e := n_toInt (n := k) (by omega)
    have g : offs[((nI k).toInt - 0).toNat]? = some (of k) := by
      rw [e, show ((k : Int) - 0).toNat = k by omega]
      exact (ho k hk).1
    exact lv_tableIn X.1 X.2.1 hd (by omega) (by omega) g (ho k hk).2 (kk k hk _ _ _ (hK1 k hk rfl) _ _ _ _ _ h)
  · have hq : ∀ k, k < n → x ≠ nI k := fun k hk w => q ⟨k, hk, w⟩
    refine lv_tableOut X.1 X.2.1 hd ?_ hf (kd _ _ _ (hK2 hq) _ _ _ _ _ h)
    by_cases z : x.toInt < 0 ∨ hi < x.toInt
    · exact z
    · exfalso
      refine hq x.toInt.toNat (by omega) ?_
      apply Int32.toInt_inj.mp
      rw [n_toInt (by omega)]
      omega
def ax_no : ax_K := fun _ _ _ _ => False
theorem sx_no : (∀ ls st C, ax_no ls st S C → ax_Z p l e R s m args below meth c D nL sl0 Q (pc) ls st S C) := fun _ _ _ h => h.elim
end
