/-! ===== the heap's steps ===== -/
def ax_wI (C : ax_C) (a k : Nat) (x : Int32) : ax_C := (va_up C.1 a (va_up (C.1 a) k x), C.2)
def ax_wL (C : ax_C) (a k : Nat) (x : Int64) : ax_C := (C.1, va_up C.2.1 a (va_up (C.2.1 a) k x), C.2.2)
def ax_wR (C : ax_C) (a k : Nat) (x : Option Nat) : ax_C := (C.1, C.2.1, va_up C.2.2 a (va_up (C.2.2 a) k x))
/-- a whole row of ints -/
def ax_rI (C : ax_C) (a : Nat) (f : Nat → Int32) : ax_C := (va_up C.1 a f, C.2)
/-- a class's words, by its number in vwCl -/
def ax_CF (ci : Nat) (N : String) (T : u_T) : Prop := vwCl[ci]? = some (N, T, ax_n ci) ∧ (∀ w ∈ u_ws N T (ax_n ci), w ∈ ax_big) ∧ (∀ k, k < ax_n ci → parseFieldDescriptor (T k).2.2.1 = some (ax_ty ci k)) ∧ (∀ a, a < ax_n ci → ∀ b, b < ax_n ci → a ≠ b → (T a).2.1 ≠ (T b).2.1) ∧ ci < 9
def ax_FL (own ref : String) (idx : Nat) (n d : String) : Prop := Cond.fieldLink own idx ref n d ∈ ax_big ∨ Cond.fieldLinkNest own idx ref n d "PathEditor" ∈ ax_nw
theorem ax_f_obj {D : ax_D} {S : ax_S} {C : ax_C} {a ci : Nat} (h : S.1 a = ci + 1) (hc : ci < 9) : ax_f D S C a = .inr (ci, ax_fl ci C a) := by
  unfold ax_f
  rw [if_pos (by omega), h]
  rfl
theorem ax_f_arr {D : ax_D} {S : ax_S} {C : ax_C} {a t : Nat} (h : S.1 a = t + 11) (ht : t < 3) : ax_f D S C a = .inl (D.2.2.1 t, S.2.1 a, .inl (C.1 a)) := by
  unfold ax_f
  rw [if_neg (by omega), if_pos (by omega), h]
  rfl
theorem ax_f_arq {D : ax_D} {S : ax_S} {C : ax_C} {a t : Nat} (h : S.1 a = t + 11) (ht : 3 ≤ t) : ax_f D S C a = .inl (D.2.2.1 t, S.2.1 a, .inr (.inr (.inr (.inr (C.2.2 a))))) := by
  unfold ax_f
  rw [if_neg (by omega), if_neg (by omega), h]
  rfl
theorem ax_fl_get {ci k : Nat} {C : ax_C} {a : Nat} (hk : k < ax_n ci) : (ax_fl ci C a)[k]? = some (ax_v ci C a k) := by
  simp [ax_fl, List.getElem?_range hk]
theorem ax_fl_set {ci k : Nat} {C C' : ax_C} {a : Nat} {v : Value} (hC : ∀ j, j < ax_n ci → ax_v ci C' a j = if j = k then v else ax_v ci C a j) : (ax_fl ci C a).set k v = ax_fl ci C' a := by
  apply List.ext_getElem?
  intro j
  by_cases hj : j < ax_n ci
  · rw [ax_fl_get hj, hC j hj, List.getElem?_set]
    by_cases hk : k = j
    · subst hk
      simp [ax_fl, hj]
    · rw [if_neg hk, if_neg (fun q => hk q.symm), ax_fl_get hj]
  · rw [List.getElem?_eq_none (by simp [ax_fl]; omega), List.getElem?_eq_none (by simp [ax_fl]; omega)]
theorem ax_tys_at {D : ax_D} {t : Nat} (h : t < 5) : (ax_tys D)[t]? = some (D.2.2.1 t, ax_aty t) := by
  simp [ax_tys, List.getElem?_range h]
/-- one cell changes -/
theorem ax_R_set {D : ax_D} {S : ax_S} {C C' : ax_C} {H H' : Heap} {a : Nat} (h : ax_R D S C H) (ha : S.1 a ≠ 0) (he : va_at (D.1, D.2.1) vwCl (a, ax_f D S C' a) H') (z : H'.size = H.size) (oq : ∀ q : Nat, q ≠ a → H'[q]? = H[q]?) (hC : ∀ b, b ≠ a → ax_f D S C' b = ax_f D S C b) : ax_R D S C' H' := by
  obtain ⟨k, hk⟩ := ax_at h ha
  obtain ⟨g1, g2⟩ := h.2.2.2 a ha
  refine ⟨z.trans h.1, h.2.1, ?_, h.2.2.2⟩
  have h1 := h.2.2.1.set (ax_apart D S C) hk he oq
  rw [ax_set g1 g2 hk, va_pl_congr (g := ax_f D S C')] at h1
  · exact h1
  · intro b
    by_cases hb : b = a
    · subst hb; rw [va_up_self]
    · rw [va_up_ne _ _ hb, hC b hb]
theorem ax_f_other {D : ax_D} {S : ax_S} {C C' : ax_C} {b : Nat} (h1 : C'.1 b = C.1 b) (h2 : C'.2.1 b = C.2.1 b) (h3 : C'.2.2 b = C.2.2 b) : ax_f D S C' b = ax_f D S C b := by
  have hv : ∀ ci k, ax_v ci C' b k = ax_v ci C b k := fun ci k => by simp only [ax_v, h1, h2, h3]
  have hl : ∀ ci, ax_fl ci C' b = ax_fl ci C b := fun ci => by
    unfold ax_fl
    rw [show ax_v ci C' b = ax_v ci C b from funext (hv ci)]
  simp only [ax_f, hl, h1, h3]
section AXH
variable {p : Program} {l : Launch} {e : Env} {R : Room} {s : State} {m : MethodId} {args : Array Value} {below : List Frame} {meth : Method} {c : Code} {D : ax_D} {nL sl0 : Nat} {Q : State → Prop} {own : String} {cc : ByteArray} {pc : Nat} {S : ax_S} {K K1 K2 : ax_K}
theorem ax_H.put {ls : ax_L} {S : ax_S} {C C' : ax_C} {H H' : Heap} {lsA : Array Slot} {locs : List Loc} {cells slots a k : Nat} (h : ax_H D s R nL sl0 ls S C H lsA locs cells slots) (ha : S.1 a ≠ 0) (he : va_at (D.1, D.2.1) vwCl (a, ax_f D S C' a) H') (z : H'.size = H.size) (oq : ∀ q : Nat, q ≠ a → H'[q]? = H[q]?) (hC : ∀ b, b ≠ a → ax_f D S C' b = ax_f D S C b) : ax_H D s R nL sl0 ls S C' H' lsA (locs ++ [⟨a, k⟩]) cells slots :=
  ⟨ax_R_set h.1 ha he z oq hC, h.2.1, h.2.2.1.put z oq (h.1.2.2.2 a ha).1, h.2.2.2⟩
theorem ax_getW (X : ax_X D p s m args meth c own cc nL) {ci k idx a : Nat} {N : String} {T : u_T} (hF : ax_CF ci N T) (hk : k < ax_n ci) (hl : ax_FL own (T k).1 idx (T k).2.1 (T k).2.2.1) (hd : decode cc pc = .ok (.getfield idx, 3)) {ls : ax_L} {S : ax_S} {C : ax_C} {H : Heap} {lsA : Array Slot} {locs : List Loc} {cells slots : Nat} {rest : List Value} (h : ax_H D s R nL sl0 ls S C H lsA locs cells slots) (ha : S.1 a = ci + 1) (kk : W p l e R s m args below meth c H locs cells slots Q (F0 m (pc + 3) lsA (ax_v ci C a k :: rest))) : W p l e R s m args below meth c H locs cells slots Q (F0 m pc lsA (.ref a :: rest)) := by
  obtain ⟨hc, hin, hty, hnm, h9⟩ := hF
  obtain ⟨k0, hk0⟩ := ax_at h.1 (by omega : S.1 a ≠ 0)
  rw [ax_f_obj ha h9] at hk0
  rcases hl with hl | hl
  · exact va_get X.1 X.2.1 X.2.2.2.2.1 hin X.2.2.2.1 X.2.2.2.2.2.2.1.1 h.1.2.2.1 k0 hk0 hc k hk (X.2.2.2.2.1 _ hl) (fun _ q => q) (ax_fl_get hk) hd kk
  · exact va_getN X.1 X.2.1 X.2.2.2.2.1 hin X.2.2.2.1 X.2.2.2.2.2.2.1.1 h.1.2.2.1 k0 hk0 hc k hk (va_Nw.use rfl (X.2.2.2.2.2.2.1.2.1 _ hl)) (fun _ q => q) (ax_fl_get hk) hd kk
theorem ax_putW (X : ax_X D p s m args meth c own cc nL) {ci k idx a : Nat} {N : String} {T : u_T} {v : Value} (hF : ax_CF ci N T) (hk : k < ax_n ci) (hl : ax_FL own (T k).1 idx (T k).2.1 (T k).2.2.1) (hfin : (T k).2.2.2 = false ∨ ((T k).2.2.2 = true ∧ meth.name = "<init>" ∧ (T k).1 = own ∧ Cond.fieldLink own idx (T k).1 (T k).2.1 (T k).2.2.1 ∈ ax_big)) (hd : decode cc pc = .ok (.putfield idx, 3)) (hn : narrow (ax_ty ci k) v = v) (hfit : fits (ax_ty ci k) v = true) {ls : ax_L} {S : ax_S} {C C' : ax_C} {H : Heap} {lsA : Array Slot} {locs : List Loc} {cells slots : Nat} {rest : List Value} (h : ax_H D s R nL sl0 ls S C H lsA locs cells slots) (ha : S.1 a = ci + 1) (hC1 : ∀ j, j < ax_n ci → ax_v ci C' a j = if j = k then v else ax_v ci C a j) (hC2 : ∀ b, b ≠ a → ax_f D S C' b = ax_f D S C b) (kk : ∀ H' locs', ax_H D s R nL sl0 ls S C' H' lsA locs' cells slots → W p l e R s m args below meth c H' locs' cells slots Q (F0 m (pc + 3) lsA rest)) : W p l e R s m args below meth c H locs cells slots Q (F0 m pc lsA (v :: .ref a :: rest)) := by
  obtain ⟨hc, hin, hty, hnm, h9⟩ := hF
  obtain ⟨k0, hk0⟩ := ax_at h.1 (by omega : S.1 a ≠ 0)
  rw [ax_f_obj ha h9] at hk0
  have hts := X.2.2.2.2.1
  have hK := X.2.2.2.2.2.2.1.1
  have hap := va_apart (own := own) hts hin (ax_ty ci) hty hnm hK hc
  obtain ⟨r, h1, cell, q1, q2, q3, q4⟩ := h.1.2.2.1 k0 _ hk0
  have hr : r = (N, T, ax_n ci) := Option.some.inj (h1.symm.trans hc)
  subst hr
  obtain ⟨hS, hfc, kC, hkC, hkind⟩ := hK.1 ci _ hc
  obtain ⟨cf, kf, fi, f, hi, hsl⟩ := hS k hk
  have hlay := u_lays hts hin hk
  have hst := (u_facts hfc hkC hlay hi).1
  have hlt : f.slot < cell.slots.size := by rw [hsl]; exact k2_hasslot (q4 k hk)
  have hlen : k < (ax_fl ci C a).length := by simp [ax_fl, hk]
  have fin : ∀ H' : Heap, H'[a]? = some (cell.setSlot f.slot v) → H'.size = H.size → (∀ q, q ≠ a → H'[q]? = H[q]?) → W p l e R s m args below meth c H' (locs ++ [⟨a, f.slot⟩]) cells slots Q (F0 m (pc + 3) lsA rest) := by
    intro H' e1 e2 e3
    refine kk H' _ (h.put (by omega) ?_ e2 e3 hC2)
    rw [ax_f_obj ha h9, ← ax_fl_set hC1]
    rw [hsl] at e1
    exact ⟨_, hc, t_OB.to (V := updV (vp_V (ax_fl ci C a)) k v) ⟨_, e1, q2, q3, t_set q4 hap hk v⟩ (fun j _ => vp_updV_set hlen v j)⟩
  rcases hfin with hfin | ⟨hfin, hinit, hdecl, hl⟩
  · have hlay2 := hts _ (hin _ (u_in_lay hk))
    unfold u_lay at hlay2
    rw [if_neg (by rw [hfin]; decide)] at hlay2
    have h6 := u_store hfc hkC hkind hlay2 hi (hty k hk) hn hfit
    rcases hl with hl | hl
    · exact W.putK X.1 X.2.1 (f := f) ⟨X.2.2.2.1, hts _ hl, ⟨_, _, _, hi⟩, hst⟩ (by rw [q2]; exact h6) q1 q3 hlt rfl rfl hd fin
    · exact va_WputK X.1 X.2.1 (f := f) X.2.2.2.1 (va_Nw.use rfl (X.2.2.2.2.2.2.1.2.1 _ hl)) hi hst (by rw [q2]; exact h6) q1 q3 hlt rfl rfl hd fin
  · have hlay2 := hts _ (hin _ (u_in_lay hk))
    unfold u_lay at hlay2
    rw [if_pos hfin] at hlay2
    have hcf : m.cls = cf := by
      obtain ⟨_, _, c', _, _, _, -, -, hf', -, -, -, hown2, -⟩ := Cond.laysFinal_spec hlay2
      have e1 : c' = cf := by have := hi.symm.trans hf'; simp at this; exact this.1.symm
      rw [hdecl] at hown2
      rw [← e1]; exact Option.some.inj (X.2.2.2.1.symm.trans hown2)
    have h6 := u_fits hfc hkC hkind hlay hi (hty k hk) hn hfit
    exact W.putFinK X.1 X.2.1 X.2.2.2.1 (hts _ hl) hi hst hcf hinit (by rw [q2]; exact h6) q1 q3 hlt rfl rfl hd fin
def ax_getI (kc k : Nat) (K : ax_K) : ax_K := fun ls st S C => ax_pr st fun o t => ax_sm o fun a => S.1 a = kc ∧ K ls (ax_i (C.1 a k) :: t) S C
theorem sx_getI (X : ax_X D p s m args meth c own cc nL) {ci k idx kc : Nat} {N : String} {T : u_T} (hF : ax_CF ci N T) (hk : k < ax_n ci) (hl : ax_FL own (T k).1 idx (T k).2.1 (T k).2.2.1) (hkc : kc = ci + 1) (ht : ax_fk (ax_ty ci k) = 0) (hd : decode cc pc = .ok (.getfield idx, 3)) (k2 : (∀ ls st C, K ls st S C → ax_Z p l e R s m args below meth c D nL sl0 Q (pc + 3) ls st S C)) : (∀ ls st C, ax_getI kc k K ls st S C → ax_Z p l e R s m args below meth c D nL sl0 Q (pc) ls st S C) := fun ls st C hK H lsA locs cells slots h => by
  subst hkc
  obtain ⟨o, st, rfl, hK1⟩ := ax_pr_e hK
  obtain ⟨a, rfl, ha, hK2⟩ := ax_sm_e hK1
  have k3 := k2 _ _ _ hK2 _ _ _ _ _ h
  have e1 : ax_v ci C a k = ax_cv (ax_i (C.1 a k)) := by simp [ax_v, ht, ax_cv]
  refine ax_getW X hF hk hl hd h ha ?_
  rw [e1]
  exact k3
def ax_getL (kc k : Nat) (K : ax_K) : ax_K := fun ls st S C => ax_pr st fun o t => ax_sm o fun a => S.1 a = kc ∧ K ls (ax_l (C.2.1 a k) :: t) S C
theorem sx_getL (X : ax_X D p s m args meth c own cc nL) {ci k idx kc : Nat} {N : String} {T : u_T} (hF : ax_CF ci N T) (hk : k < ax_n ci) (hl : ax_FL own (T k).1 idx (T k).2.1 (T k).2.2.1) (hkc : kc = ci + 1) (ht : ax_fk (ax_ty ci k) = 1) (hd : decode cc pc = .ok (.getfield idx, 3)) (k2 : (∀ ls st C, K ls st S C → ax_Z p l e R s m args below meth c D nL sl0 Q (pc + 3) ls st S C)) : (∀ ls st C, ax_getL kc k K ls st S C → ax_Z p l e R s m args below meth c D nL sl0 Q (pc) ls st S C) := fun ls st C hK H lsA locs cells slots h => by
  subst hkc
  obtain ⟨o, st, rfl, hK1⟩ := ax_pr_e hK
  obtain ⟨a, rfl, ha, hK2⟩ := ax_sm_e hK1
  have k3 := k2 _ _ _ hK2 _ _ _ _ _ h
  have e1 : ax_v ci C a k = ax_cv (ax_l (C.2.1 a k)) := by simp [ax_v, ht, ax_cv]
  refine ax_getW X hF hk hl hd h ha ?_
  rw [e1]
  exact k3
def ax_getR (kc k : Nat) (K : ax_K) : ax_K := fun ls st S C => ax_pr st fun o t => ax_sm o fun a => S.1 a = kc ∧ K ls (ax_r (C.2.2 a k) :: t) S C
theorem sx_getR (X : ax_X D p s m args meth c own cc nL) {ci k idx kc : Nat} {N : String} {T : u_T} (hF : ax_CF ci N T) (hk : k < ax_n ci) (hl : ax_FL own (T k).1 idx (T k).2.1 (T k).2.2.1) (hkc : kc = ci + 1) (ht : ax_fk (ax_ty ci k) = 2) (hd : decode cc pc = .ok (.getfield idx, 3)) (k2 : (∀ ls st C, K ls st S C → ax_Z p l e R s m args below meth c D nL sl0 Q (pc + 3) ls st S C)) : (∀ ls st C, ax_getR kc k K ls st S C → ax_Z p l e R s m args below meth c D nL sl0 Q (pc) ls st S C) := fun ls st C hK H lsA locs cells slots h => by
  subst hkc
  obtain ⟨o, st, rfl, hK1⟩ := ax_pr_e hK
  obtain ⟨a, rfl, ha, hK2⟩ := ax_sm_e hK1
  have k3 := k2 _ _ _ hK2 _ _ _ _ _ h
  have e1 : ax_v ci C a k = ax_cv (ax_r (C.2.2 a k)) := by simp [ax_v, ht, ax_cv]
  refine ax_getW X hF hk hl hd h ha ?_
  rw [e1]
  exact k3
def ax_putI (kc k : Nat) (K : ax_K) : ax_K := fun ls st S C => ax_pi st fun x t => ax_pr t fun o t => ax_sm o fun a => S.1 a = kc ∧ K ls t S (ax_wI C a k x)
theorem sx_putI (X : ax_X D p s m args meth c own cc nL) {ci k idx kc : Nat} {N : String} {T : u_T} (hF : ax_CF ci N T) (hk : k < ax_n ci) (hl : ax_FL own (T k).1 idx (T k).2.1 (T k).2.2.1) (hkc : kc = ci + 1) (hfin : (T k).2.2.2 = false ∨ ((T k).2.2.2 = true ∧ meth.name = "<init>" ∧ (T k).1 = own ∧ Cond.fieldLink own idx (T k).1 (T k).2.1 (T k).2.2.1 ∈ ax_big)) (hty : ax_ty ci k = .int) (hd : decode cc pc = .ok (.putfield idx, 3)) (k2 : (∀ ls st C, K ls st S C → ax_Z p l e R s m args below meth c D nL sl0 Q (pc + 3) ls st S C)) : (∀ ls st C, ax_putI kc k K ls st S C → ax_Z p l e R s m args below meth c D nL sl0 Q (pc) ls st S C) := fun ls st C hK H lsA locs cells slots h => by
  subst hkc
  obtain ⟨x, st, rfl, hK1⟩ := ax_pi_e hK
  obtain ⟨o, st, rfl, hK2⟩ := ax_pr_e hK1
  obtain ⟨a, rfl, ha, hK3⟩ := ax_sm_e hK2
  refine ax_putW (v := ax_cv (ax_i x)) (C' := ax_wI C a k x) X hF hk hl hfin hd (by rw [hty]; rfl) (by rw [hty]; rfl) h ha (fun j _ => ?_) (fun b hb => ?_) (fun H' locs' h' => k2 _ _ _ hK3 _ _ _ _ _ h')
  · by_cases hj : j = k
    · subst hj
      simp [ax_v, hty, ax_cv, ax_wI, ax_wL, ax_wR, va_up, ax_fk]
    · rw [if_neg hj]
      simp [ax_v, ax_wI, ax_wL, ax_wR, va_up, hj]
  · exact ax_f_other (by simp [ax_wI, ax_wL, ax_wR, va_up, hb]) (by simp [ax_wI, ax_wL, ax_wR, va_up, hb]) (by simp [ax_wI, ax_wL, ax_wR, va_up, hb])
def ax_putZ (kc k : Nat) (K : ax_K) : ax_K := fun ls st S C => ax_pi st fun x t => ax_pr t fun o t => ax_sm o fun a => (x = 0 ∨ x = 1) ∧ S.1 a = kc ∧ K ls t S (ax_wI C a k x)
theorem sx_putZ (X : ax_X D p s m args meth c own cc nL) {ci k idx kc : Nat} {N : String} {T : u_T} (hF : ax_CF ci N T) (hk : k < ax_n ci) (hl : ax_FL own (T k).1 idx (T k).2.1 (T k).2.2.1) (hkc : kc = ci + 1) (hfin : (T k).2.2.2 = false ∨ ((T k).2.2.2 = true ∧ meth.name = "<init>" ∧ (T k).1 = own ∧ Cond.fieldLink own idx (T k).1 (T k).2.1 (T k).2.2.1 ∈ ax_big)) (hty : ax_ty ci k = .boolean) (hd : decode cc pc = .ok (.putfield idx, 3)) (k2 : (∀ ls st C, K ls st S C → ax_Z p l e R s m args below meth c D nL sl0 Q (pc + 3) ls st S C)) : (∀ ls st C, ax_putZ kc k K ls st S C → ax_Z p l e R s m args below meth c D nL sl0 Q (pc) ls st S C) := fun ls st C hK H lsA locs cells slots h => by
  subst hkc
  obtain ⟨x, st, rfl, hK1⟩ := ax_pi_e hK
  obtain ⟨o, st, rfl, hK2⟩ := ax_pr_e hK1
  obtain ⟨a, rfl, hz, ha, hK3⟩ := ax_sm_e hK2
  refine ax_putW (v := ax_cv (ax_i x)) (C' := ax_wI C a k x) X hF hk hl hfin hd (by rw [hty]; rcases hz with rfl | rfl <;> rfl) (by rw [hty]; rcases hz with rfl | rfl <;> rfl) h ha (fun j _ => ?_) (fun b hb => ?_) (fun H' locs' h' => k2 _ _ _ hK3 _ _ _ _ _ h')
  · by_cases hj : j = k
    · subst hj
      simp [ax_v, hty, ax_cv, ax_wI, ax_wL, ax_wR, va_up, ax_fk]
    · rw [if_neg hj]
      simp [ax_v, ax_wI, ax_wL, ax_wR, va_up, hj]
  · exact ax_f_other (by simp [ax_wI, ax_wL, ax_wR, va_up, hb]) (by simp [ax_wI, ax_wL, ax_wR, va_up, hb]) (by simp [ax_wI, ax_wL, ax_wR, va_up, hb])
def ax_putL (kc k : Nat) (K : ax_K) : ax_K := fun ls st S C => ax_pl st fun x t => ax_pr t fun o t => ax_sm o fun a => S.1 a = kc ∧ K ls t S (ax_wL C a k x)
theorem sx_putL (X : ax_X D p s m args meth c own cc nL) {ci k idx kc : Nat} {N : String} {T : u_T} (hF : ax_CF ci N T) (hk : k < ax_n ci) (hl : ax_FL own (T k).1 idx (T k).2.1 (T k).2.2.1) (hkc : kc = ci + 1) (hfin : (T k).2.2.2 = false ∨ ((T k).2.2.2 = true ∧ meth.name = "<init>" ∧ (T k).1 = own ∧ Cond.fieldLink own idx (T k).1 (T k).2.1 (T k).2.2.1 ∈ ax_big)) (hty : ax_ty ci k = .long) (hd : decode cc pc = .ok (.putfield idx, 3)) (k2 : (∀ ls st C, K ls st S C → ax_Z p l e R s m args below meth c D nL sl0 Q (pc + 3) ls st S C)) : (∀ ls st C, ax_putL kc k K ls st S C → ax_Z p l e R s m args below meth c D nL sl0 Q (pc) ls st S C) := fun ls st C hK H lsA locs cells slots h => by
  subst hkc
  obtain ⟨x, st, rfl, hK1⟩ := ax_pl_e hK
  obtain ⟨o, st, rfl, hK2⟩ := ax_pr_e hK1
  obtain ⟨a, rfl, ha, hK3⟩ := ax_sm_e hK2
  refine ax_putW (v := ax_cv (ax_l x)) (C' := ax_wL C a k x) X hF hk hl hfin hd (by rw [hty]; rfl) (by rw [hty]; rfl) h ha (fun j _ => ?_) (fun b hb => ?_) (fun H' locs' h' => k2 _ _ _ hK3 _ _ _ _ _ h')
  · by_cases hj : j = k
    · subst hj
      simp [ax_v, hty, ax_cv, ax_wI, ax_wL, ax_wR, va_up, ax_fk]
    · rw [if_neg hj]
      simp [ax_v, ax_wI, ax_wL, ax_wR, va_up, hj]
  · exact ax_f_other (by simp [ax_wI, ax_wL, ax_wR, va_up, hb]) (by simp [ax_wI, ax_wL, ax_wR, va_up, hb]) (by simp [ax_wI, ax_wL, ax_wR, va_up, hb])
def ax_putR (kc k : Nat) (K : ax_K) : ax_K := fun ls st S C => ax_pr st fun x t => ax_pr t fun o t => ax_sm o fun a => S.1 a = kc ∧ K ls t S (ax_wR C a k x)
theorem sx_putR (X : ax_X D p s m args meth c own cc nL) {ci k idx kc : Nat} {N : String} {T : u_T} (hF : ax_CF ci N T) (hk : k < ax_n ci) (hl : ax_FL own (T k).1 idx (T k).2.1 (T k).2.2.1) (hkc : kc = ci + 1) (hfin : (T k).2.2.2 = false ∨ ((T k).2.2.2 = true ∧ meth.name = "<init>" ∧ (T k).1 = own ∧ Cond.fieldLink own idx (T k).1 (T k).2.1 (T k).2.2.1 ∈ ax_big)) (hty : ax_fk (ax_ty ci k) = 2) (hd : decode cc pc = .ok (.putfield idx, 3)) (k2 : (∀ ls st C, K ls st S C → ax_Z p l e R s m args below meth c D nL sl0 Q (pc + 3) ls st S C)) : (∀ ls st C, ax_putR kc k K ls st S C → ax_Z p l e R s m args below meth c D nL sl0 Q (pc) ls st S C) := fun ls st C hK H lsA locs cells slots h => by
  subst hkc
  obtain ⟨x, st, rfl, hK1⟩ := ax_pr_e hK
  obtain ⟨o, st, rfl, hK2⟩ := ax_pr_e hK1
  obtain ⟨a, rfl, ha, hK3⟩ := ax_sm_e hK2
  have hq : narrow (ax_ty ci k) (ax_cv (ax_r x)) = ax_cv (ax_r x) ∧ fits (ax_ty ci k) (ax_cv (ax_r x)) = true := by
    revert hty
    cases ax_ty ci k <;> cases x <;> simp [ax_fk, ax_cv, va_rf, narrow, fits]
  refine ax_putW (v := ax_cv (ax_r x)) (C' := ax_wR C a k x) X hF hk hl hfin hd hq.1 hq.2 h ha (fun j _ => ?_) (fun b hb => ?_) (fun H' locs' h' => k2 _ _ _ hK3 _ _ _ _ _ h')
  · by_cases hj : j = k
    · subst hj
      simp [ax_v, hty, ax_cv, ax_wI, ax_wL, ax_wR, va_up]
    · rw [if_neg hj]
      simp [ax_v, ax_wI, ax_wL, ax_wR, va_up, hj]
  · exact ax_f_other (by simp [ax_wI, ax_wL, ax_wR, va_up, hb]) (by simp [ax_wI, ax_wL, ax_wR, va_up, hb]) (by simp [ax_wI, ax_wL, ax_wR, va_up, hb])
def ax_iald (K : ax_K) : ax_K := fun ls st S C => ax_pi st fun i t => ax_pr t fun o t => ax_sm o fun a => S.1 a = 11 ∧ vp_in i (S.2.1 a) ∧ K ls (ax_i (C.1 a i.toNatClampNeg) :: t) S C
theorem sx_iald (X : ax_X D p s m args meth c own cc nL) (hd : decode cc pc = .ok (.iaload, 1)) (k2 : (∀ ls st C, K ls st S C → ax_Z p l e R s m args below meth c D nL sl0 Q (pc + 1) ls st S C)) : (∀ ls st C, ax_iald K ls st S C → ax_Z p l e R s m args below meth c D nL sl0 Q (pc) ls st S C) := fun ls st C hK H lsA locs cells slots h => by
  obtain ⟨i, st, rfl, hK1⟩ := ax_pi_e hK
  obtain ⟨o, st, rfl, hK2⟩ := ax_pr_e hK1
  obtain ⟨a, rfl, ha, hi, hK3⟩ := ax_sm_e hK2
  obtain ⟨k0, hk0⟩ := ax_at h.1 (by omega : S.1 a ≠ 0)
  rw [ax_f_arr (t := 0) ha (by omega)] at hk0
  exact va_iald X.1 X.2.1 X.2.2.2.2.2.2.1.1 h.1.2.2.1 k0 0 hk0 (ax_tys_at (by omega)) hi hd (k2 _ _ _ hK3 _ _ _ _ _ h)
def ax_zald (K : ax_K) : ax_K := fun ls st S C => ax_pi st fun i t => ax_pr t fun o t => ax_sm o fun a => S.1 a = 12 ∧ vp_in i (S.2.1 a) ∧ K ls (ax_i (C.1 a i.toNatClampNeg) :: t) S C
theorem sx_zald (X : ax_X D p s m args meth c own cc nL) (hd : decode cc pc = .ok (.baload, 1)) (k2 : (∀ ls st C, K ls st S C → ax_Z p l e R s m args below meth c D nL sl0 Q (pc + 1) ls st S C)) : (∀ ls st C, ax_zald K ls st S C → ax_Z p l e R s m args below meth c D nL sl0 Q (pc) ls st S C) := fun ls st C hK H lsA locs cells slots h => by
  obtain ⟨i, st, rfl, hK1⟩ := ax_pi_e hK
  obtain ⟨o, st, rfl, hK2⟩ := ax_pr_e hK1
  obtain ⟨a, rfl, ha, hi, hK3⟩ := ax_sm_e hK2
  obtain ⟨k0, hk0⟩ := ax_at h.1 (by omega : S.1 a ≠ 0)
  rw [ax_f_arr (t := 1) ha (by omega)] at hk0
  exact va_zald X.1 X.2.1 X.2.2.2.2.2.2.1.1 h.1.2.2.1 k0 1 hk0 (ax_tys_at (by omega)) hi hd (k2 _ _ _ hK3 _ _ _ _ _ h)
def ax_bald (K : ax_K) : ax_K := fun ls st S C => ax_pi st fun i t => ax_pr t fun o t => ax_sm o fun a => S.1 a = 13 ∧ vp_in i (S.2.1 a) ∧ K ls (ax_i (C.1 a i.toNatClampNeg) :: t) S C
theorem sx_bald (X : ax_X D p s m args meth c own cc nL) (hd : decode cc pc = .ok (.baload, 1)) (k2 : (∀ ls st C, K ls st S C → ax_Z p l e R s m args below meth c D nL sl0 Q (pc + 1) ls st S C)) : (∀ ls st C, ax_bald K ls st S C → ax_Z p l e R s m args below meth c D nL sl0 Q (pc) ls st S C) := fun ls st C hK H lsA locs cells slots h => by
  obtain ⟨i, st, rfl, hK1⟩ := ax_pi_e hK
  obtain ⟨o, st, rfl, hK2⟩ := ax_pr_e hK1
  obtain ⟨a, rfl, ha, hi, hK3⟩ := ax_sm_e hK2
  obtain ⟨k0, hk0⟩ := ax_at h.1 (by omega : S.1 a ≠ 0)
  rw [ax_f_arr (t := 2) ha (by omega)] at hk0
  exact va_bald X.1 X.2.1 X.2.2.2.2.2.2.1.1 h.1.2.2.1 k0 2 hk0 (ax_tys_at (by omega)) hi hd (k2 _ _ _ hK3 _ _ _ _ _ h)
def ax_aald (kd : Nat) (K : ax_K) : ax_K := fun ls st S C => ax_pi st fun i t => ax_pr t fun o t => ax_sm o fun a => S.1 a = kd ∧ vp_in i (S.2.1 a) ∧ K ls (ax_r (C.2.2 a i.toNatClampNeg) :: t) S C
theorem sx_aald (X : ax_X D p s m args meth c own cc nL) {kd : Nat} (hkd : kd = 14 ∨ kd = 15) (hd : decode cc pc = .ok (.aaload, 1)) (k2 : (∀ ls st C, K ls st S C → ax_Z p l e R s m args below meth c D nL sl0 Q (pc + 1) ls st S C)) : (∀ ls st C, ax_aald kd K ls st S C → ax_Z p l e R s m args below meth c D nL sl0 Q (pc) ls st S C) := fun ls st C hK H lsA locs cells slots h => by
  obtain ⟨i, st, rfl, hK1⟩ := ax_pi_e hK
  obtain ⟨o, st, rfl, hK2⟩ := ax_pr_e hK1
  obtain ⟨a, rfl, ha, hi, hK3⟩ := ax_sm_e hK2
  obtain ⟨k0, hk0⟩ := ax_at h.1 (by omega : S.1 a ≠ 0)
  rcases hkd with rfl | rfl
  · rw [ax_f_arq (t := 3) ha (by omega)] at hk0
    exact va_aldq (C := "PathEditor$Path") X.1 X.2.1 X.2.2.2.2.2.2.1.1 h.1.2.2.1 k0 3 hk0 (ax_tys_at (by omega)) hi hd (k2 _ _ _ hK3 _ _ _ _ _ h)
  · rw [ax_f_arq (t := 4) ha (by omega)] at hk0
    exact va_aldq (C := "PathEditor$Picture") X.1 X.2.1 X.2.2.2.2.2.2.1.1 h.1.2.2.1 k0 4 hk0 (ax_tys_at (by omega)) hi hd (k2 _ _ _ hK3 _ _ _ _ _ h)
def ax_alen (kd : Nat) (K : ax_K) : ax_K := fun ls st S C => ax_pr st fun o t => ax_sm o fun a => S.1 a = kd ∧ K ls (ax_i (Int32.ofNat (S.2.1 a)) :: t) S C
def ax_iast (K : ax_K) : ax_K := fun ls st S C => ax_pi st fun x t => ax_pi t fun i t => ax_pr t fun o t => ax_sm o fun a => S.1 a = 11 ∧ vp_in i (S.2.1 a) ∧ K ls t S (ax_wI C a i.toNatClampNeg x)
theorem sx_iast (X : ax_X D p s m args meth c own cc nL) (hd : decode cc pc = .ok (.iastore, 1)) (k2 : (∀ ls st C, K ls st S C → ax_Z p l e R s m args below meth c D nL sl0 Q (pc + 1) ls st S C)) : (∀ ls st C, ax_iast K ls st S C → ax_Z p l e R s m args below meth c D nL sl0 Q (pc) ls st S C) := fun ls st C hK H lsA locs cells slots h => by
  obtain ⟨x, st, rfl, hK1⟩ := ax_pi_e hK
  obtain ⟨i, st, rfl, hK2⟩ := ax_pi_e hK1
  obtain ⟨o, st, rfl, hK3⟩ := ax_pr_e hK2
  obtain ⟨a, rfl, ha, hi, hK4⟩ := ax_sm_e hK3
  obtain ⟨k0, hk0⟩ := ax_at h.1 (by omega : S.1 a ≠ 0)
  rw [ax_f_arr (t := 0) ha (by omega)] at hk0
  refine W.iast X.1 X.2.1 (h.1.2.2.1 k0 _ hk0) ((X.2.2.2.2.2.2.1.1.2 0 _ (ax_tys_at (by omega))).1 _ (fun j => .int (C.1 a j))) (fun q => by cases q) (by show ¬ (i < 0 ∨ (arrV _ _ _).slots.size ≤ _); rw [arrV_size]; exact hi) rfl rfl hd fun H1 e1 z oq => ?_
  refine k2 _ _ _ hK4 _ _ _ _ _ (h.put (a := a) (by omega) ?_ z oq (fun b hb => ax_f_other (by simp [ax_wI, va_up, hb]) (by simp [ax_wI]) (by simp [ax_wI])))
  rw [ax_f_arr (t := 0) ha (by omega)]
  show H1[a]? = some (vp_cell _ _)
  rw [e1]
  rw [vp_cell_i, vp_cell_i, arrV_store]
  congr 2
  funext q
  by_cases hq : q = i.toNatClampNeg
  · subst hq
    simp [updV, ax_wI, va_up, vp_nar]
    try rfl
  · simp [updV, ax_wI, va_up, hq]
def ax_zast (K : ax_K) : ax_K := fun ls st S C => ax_pi st fun x t => ax_pi t fun i t => ax_pr t fun o t => ax_sm o fun a => S.1 a = 12 ∧ vp_in i (S.2.1 a) ∧ K ls t S (ax_wI C a i.toNatClampNeg (vp_nar .boolean x))
theorem sx_zast (X : ax_X D p s m args meth c own cc nL) (hd : decode cc pc = .ok (.bastore, 1)) (k2 : (∀ ls st C, K ls st S C → ax_Z p l e R s m args below meth c D nL sl0 Q (pc + 1) ls st S C)) : (∀ ls st C, ax_zast K ls st S C → ax_Z p l e R s m args below meth c D nL sl0 Q (pc) ls st S C) := fun ls st C hK H lsA locs cells slots h => by
  obtain ⟨x, st, rfl, hK1⟩ := ax_pi_e hK
  obtain ⟨i, st, rfl, hK2⟩ := ax_pi_e hK1
  obtain ⟨o, st, rfl, hK3⟩ := ax_pr_e hK2
  obtain ⟨a, rfl, ha, hi, hK4⟩ := ax_sm_e hK3
  obtain ⟨k0, hk0⟩ := ax_at h.1 (by omega : S.1 a ≠ 0)
  rw [ax_f_arr (t := 1) ha (by omega)] at hk0
  refine W.zast X.1 X.2.1 (h.1.2.2.1 k0 _ hk0) ((X.2.2.2.2.2.2.1.1.2 1 _ (ax_tys_at (by omega))).1 _ (fun j => .int (C.1 a j))) (fun q => by cases q) (by show ¬ (i < 0 ∨ (arrV _ _ _).slots.size ≤ _); rw [arrV_size]; exact hi) rfl rfl hd fun H1 e1 z oq => ?_
  refine k2 _ _ _ hK4 _ _ _ _ _ (h.put (a := a) (by omega) ?_ z oq (fun b hb => ax_f_other (by simp [ax_wI, va_up, hb]) (by simp [ax_wI]) (by simp [ax_wI])))
  rw [ax_f_arr (t := 1) ha (by omega)]
  show H1[a]? = some (vp_cell _ _)
  rw [e1]
  rw [vp_cell_i, vp_cell_i, arrV_store]
  congr 2
  funext q
  by_cases hq : q = i.toNatClampNeg
  · subst hq
    simp [updV, ax_wI, va_up, vp_nar]
    try rfl
  · simp [updV, ax_wI, va_up, hq]
def ax_bast (K : ax_K) : ax_K := fun ls st S C => ax_pi st fun x t => ax_pi t fun i t => ax_pr t fun o t => ax_sm o fun a => S.1 a = 13 ∧ vp_in i (S.2.1 a) ∧ K ls t S (ax_wI C a i.toNatClampNeg (vp_nar .byte x))
theorem sx_bast (X : ax_X D p s m args meth c own cc nL) (hd : decode cc pc = .ok (.bastore, 1)) (k2 : (∀ ls st C, K ls st S C → ax_Z p l e R s m args below meth c D nL sl0 Q (pc + 1) ls st S C)) : (∀ ls st C, ax_bast K ls st S C → ax_Z p l e R s m args below meth c D nL sl0 Q (pc) ls st S C) := fun ls st C hK H lsA locs cells slots h => by
  obtain ⟨x, st, rfl, hK1⟩ := ax_pi_e hK
  obtain ⟨i, st, rfl, hK2⟩ := ax_pi_e hK1
  obtain ⟨o, st, rfl, hK3⟩ := ax_pr_e hK2
  obtain ⟨a, rfl, ha, hi, hK4⟩ := ax_sm_e hK3
  obtain ⟨k0, hk0⟩ := ax_at h.1 (by omega : S.1 a ≠ 0)
  rw [ax_f_arr (t := 2) ha (by omega)] at hk0
  refine W.bast X.1 X.2.1 (h.1.2.2.1 k0 _ hk0) ((X.2.2.2.2.2.2.1.1.2 2 _ (ax_tys_at (by omega))).1 _ (fun j => .int (C.1 a j))) (fun q => by cases q) (by show ¬ (i < 0 ∨ (arrV _ _ _).slots.size ≤ _); rw [arrV_size]; exact hi) rfl rfl hd fun H1 e1 z oq => ?_
  refine k2 _ _ _ hK4 _ _ _ _ _ (h.put (a := a) (by omega) ?_ z oq (fun b hb => ax_f_other (by simp [ax_wI, va_up, hb]) (by simp [ax_wI]) (by simp [ax_wI])))
  rw [ax_f_arr (t := 2) ha (by omega)]
  show H1[a]? = some (vp_cell _ _)
  rw [e1]
  rw [vp_cell_i, vp_cell_i, arrV_store]
  congr 2
  funext q
  by_cases hq : q = i.toNatClampNeg
  · subst hq
    simp [updV, ax_wI, va_up, vp_nar]
    try rfl
  · simp [updV, ax_wI, va_up, hq]
def ax_aast (kd kv : Nat) (K : ax_K) : ax_K := fun ls st S C => ax_pr st fun x t => ax_pi t fun i t => ax_pr t fun o t => ax_sm o fun a => ax_sm x fun b => S.1 a = kd ∧ S.1 b = kv ∧ vp_in i (S.2.1 a) ∧ K ls t S (ax_wR C a i.toNatClampNeg (some b))
theorem sx_aast (X : ax_X D p s m args meth c own cc nL) {kd kv ci : Nat} {N : String} {T : u_T} (hF : ax_CF ci N T) (hkv : kv = ci + 1) (hkd : (kd = 14 ∧ N = "PathEditor$Path") ∨ (kd = 15 ∧ N = "PathEditor$Picture")) (hd : decode cc pc = .ok (.aastore, 1)) (k2 : (∀ ls st C, K ls st S C → ax_Z p l e R s m args below meth c D nL sl0 Q (pc + 1) ls st S C)) : (∀ ls st C, ax_aast kd kv K ls st S C → ax_Z p l e R s m args below meth c D nL sl0 Q (pc) ls st S C) := fun ls st C hK H lsA locs cells slots h => by
  subst hkv
  obtain ⟨x, st, rfl, hK1⟩ := ax_pr_e hK
  obtain ⟨i, st, rfl, hK2⟩ := ax_pi_e hK1
  obtain ⟨o, st, rfl, hK3⟩ := ax_pr_e hK2
  obtain ⟨a, rfl, hK4⟩ := ax_sm_e hK3
  obtain ⟨b, rfl, ha, hb, hi, hK5⟩ := ax_sm_e hK4
  obtain ⟨hc, hin, hty, hnm, h9⟩ := hF
  obtain ⟨t, hat, ht3, ht5, hNt⟩ : ∃ t, S.1 a = t + 11 ∧ 3 ≤ t ∧ t < 5 ∧ ax_aty t = .object N := by
    rcases hkd with ⟨q1, q2⟩ | ⟨q1, q2⟩
    · exact ⟨3, by omega, by omega, by omega, by rw [q2]; rfl⟩
    · exact ⟨4, by omega, by omega, by omega, by rw [q2]; rfl⟩
  obtain ⟨k0, hk0⟩ := ax_at h.1 (by omega : S.1 a ≠ 0)
  obtain ⟨kb, hkb⟩ := ax_at h.1 (by omega : S.1 b ≠ 0)
  rw [ax_f_arq hat ht3] at hk0
  rw [ax_f_obj hb h9] at hkb
  have hlt : i.toNatClampNeg < S.2.1 a := Nat.not_le.mp fun q => hi (Or.inr q)
  have h0 : ¬ i < 0 := fun q => hi (Or.inl q)
  obtain ⟨r', hr', cellV, g1, g2, g3, -⟩ := h.1.2.2.1 kb _ hkb
  have hK := X.2.2.2.2.2.2.1.1
  have hcls := (hK.1 ci _ hc).2
  have hty2 := (hK.2 t _ (ax_tys_at ht5)).2
  rw [hNt] at hty2
  obtain ⟨kA, comp, q1, q2, q3, -⟩ := hty2
  have hcomp : comp = D.1 ci := Option.some.inj (q3.symm.trans hcls.1)
  subst hcomp
  obtain ⟨kC, hkC, -⟩ := hcls.2
  refine W.aast X.1 X.2.1 (h.1.2.2.1 k0 _ hk0) (fun q h => by cases h) (fun h => by cases h) q1 q2 rfl hkC ⟨h0, by show _ < (arrV _ _ _).slots.size; rw [arrV_size]; exact hlt⟩ g1 (fun q h => by rw [g3] at h; cases h) (by rw [g2]; exact hkC) (by rw [g2]; exact va_assign hcls) rfl rfl hd fun H1 e1 z oq => ?_
  refine k2 _ _ _ hK5 _ _ _ _ _ (h.put (a := a) (by omega) ?_ z oq (fun d hd => ax_f_other (by simp [ax_wR]) (by simp [ax_wR]) (by simp [ax_wR, va_up, hd])))
  rw [ax_f_arq hat ht3]
  show H1[a]? = some (vp_cell _ _)
  rw [e1]
  rw [vp_cell_q, vp_cell_q, arrV_store]
  congr 2
  funext q
  by_cases hq : q = i.toNatClampNeg
  · subst hq
    simp [updV, ax_wR, va_up, va_rf]
  · simp [updV, ax_wR, va_up, hq]
def ax_tw (tw : Nat) (K : ax_K) : ax_K := fun ls st S C => K ls (ax_r (some tw) :: st) S C
theorem ax_S0 {ls : ax_L} {S : ax_S} {C : ax_C} {H : Heap} {lsA : Array Slot} {locs : List Loc} {cells slots : Nat} (h : ax_H D s R nL sl0 ls S C H lsA locs cells slots) : va_S (ax_A D) s.heap H locs := h.2.2.1
theorem sx_tw (X : ax_X D p s m args meth c own cc nL) {idx : Nat} (hl : Cond.fieldLinkNest own idx "PathEditor" "AREA_WEIGHTS" "[I" "PathEditor" ∈ ax_nw) (hd : decode cc pc = .ok (.getstatic idx, 3)) (k2 : (∀ ls st C, K ls st S C → ax_Z p l e R s m args below meth c D nL sl0 Q (pc + 3) ls st S C)) : (∀ ls st C, ax_tw D.2.2.2.2 K ls st S C → ax_Z p l e R s m args below meth c D nL sl0 Q (pc) ls st S C) := fun ls st C hK H lsA locs cells slots h =>
  va_getsN X.1 X.2.1 X.2.2.2.2.2.2.1.2.2.2.2.1 h.2.2.1 X.2.2.2.1 (va_Nw.use rfl (X.2.2.2.2.2.2.1.2.1 _ hl)) (fun _ q => q) hd (k2 _ _ _ hK _ _ _ _ _ h)
def ax_twl (tw : Nat) (K : ax_K) : ax_K := fun ls st S C => ax_pr st fun o t => o = some tw ∧ K ls (ax_i 12 :: t) S C
theorem sx_twl (X : ax_X D p s m args meth c own cc nL) (hd : decode cc pc = .ok (.arraylength, 1)) (k2 : (∀ ls st C, K ls st S C → ax_Z p l e R s m args below meth c D nL sl0 Q (pc + 1) ls st S C)) : (∀ ls st C, ax_twl D.2.2.2.2 K ls st S C → ax_Z p l e R s m args below meth c D nL sl0 Q (pc) ls st S C) := fun ls st C hK H lsA locs cells slots h => by
  obtain ⟨o, st, rfl, rfl, hK1⟩ := ax_pr_e hK
  exact va_tlen X.1 X.2.1 X.2.2.2.2.2.2.1.2.2.2.2.2 h.2.2.1 (v := 12) rfl hd (k2 _ _ _ hK1 _ _ _ _ _ h)
def ax_twa (tw : Nat) (K : ax_K) : ax_K := fun ls st S C => ax_pi st fun i t => ax_pr t fun o t => o = some tw ∧ vp_in i 12 ∧ K ls (ax_i (ax_wt i.toNatClampNeg) :: t) S C
theorem sx_twa (X : ax_X D p s m args meth c own cc nL) (hd : decode cc pc = .ok (.iaload, 1)) (k2 : (∀ ls st C, K ls st S C → ax_Z p l e R s m args below meth c D nL sl0 Q (pc + 1) ls st S C)) : (∀ ls st C, ax_twa D.2.2.2.2 K ls st S C → ax_Z p l e R s m args below meth c D nL sl0 Q (pc) ls st S C) := fun ls st C hK H lsA locs cells slots h => by
  obtain ⟨i, st, rfl, hK0⟩ := ax_pi_e hK
  obtain ⟨o, st, rfl, rfl, hi, hK1⟩ := ax_pr_e hK0
  exact va_ti X.1 X.2.1 X.2.2.2.2.2.2.1.2.2.2.2.2 h.2.2.1 hi rfl hd (k2 _ _ _ hK1 _ _ _ _ _ h)
def ax_rs : List ax_T → Nat
  | [] => 0
  | .inr (.inl _) :: t => 2 + ax_rs t
  | _ :: t => 1 + ax_rs t
def ax_ok (b : Bool) (F : Prop) : Prop := match b with
  | true => F
  | false => False
theorem ax_ok_e {b : Bool} {F : Prop} (h : ax_ok b F) : b = true ∧ F := by
  cases b
  · exact h.elim
  · exact ⟨rfl, h⟩
theorem ax_rs_eq : ∀ st : List ax_T, (((st.map ax_cv).map fun v => v.category).sum) = ax_rs st
  | [] => rfl
  | .inl x :: t => by simp [ax_rs, ax_cv, Value.category, ← ax_rs_eq t]
  | .inr (.inl x) :: t => by simp [ax_rs, ax_cv, Value.category, ← ax_rs_eq t]
  | .inr (.inr none) :: t => by simp [ax_rs, ax_cv, va_rf, Value.category, ← ax_rs_eq t]
  | .inr (.inr (some x)) :: t => by simp [ax_rs, ax_cv, va_rf, Value.category, ← ax_rs_eq t]
def ax_max (K : ax_K) : ax_K := fun ls st S C => ax_pi st fun y t => ax_pi t fun x t => ax_ok (Nat.ble (ax_rs t) 8) (K ls (ax_i (if x < y then y else x) :: t) S C)
theorem sx_max (X : ax_X D p s m args meth c own cc nL) {idx : Nat} (h1 : Cond.methodLink own idx Lib.Math.max.name ∈ ax_big) (h2 : Cond.static Lib.Math.max.name ∈ ax_big) (h3 : Cond.initialized "java/lang/Math" ∈ ax_big) (h4 : Cond.code Lib.Math.max.name Lib.Math.max.code 2 (some .int) ∈ ax_big) (hR : 1 ≤ R.frames ∧ 21 ≤ R.locals) (hd : decode cc pc = .ok (.invokestatic idx, 3)) (k2 : (∀ ls st C, K ls st S C → ax_Z p l e R s m args below meth c D nL sl0 Q (pc + 3) ls st S C)) : (∀ ls st C, ax_max K ls st S C → ax_Z p l e R s m args below meth c D nL sl0 Q (pc) ls st S C) := fun ls st C hK H lsA locs cells slots h => by
  obtain ⟨y, st, rfl, hK1⟩ := ax_pi_e hK
  obtain ⟨x, st, rfl, hK2⟩ := ax_pi_e hK1
  obtain ⟨hr, hK3⟩ := ax_ok_e hK2
  have hr2 := Nat.le_of_ble_eq_true hr
  rw [← ax_rs_eq] at hr2
  exact va_mmax X.1 X.2.1 (X.2.2.1.trans h.2.1.1.symm) X.2.2.2.1 (X.2.2.2.2.1 _ h1) (X.2.2.2.2.1 _ h2) (X.2.2.2.2.1 _ h3) (X.2.2.2.2.1 _ h4) hR.1 (by omega) h.2.2.2.2.2.1 h.2.2.2.2.2.2 hd (k2 _ _ _ hK3 _ _ _ _ _ h)
def ax_min (K : ax_K) : ax_K := fun ls st S C => ax_pi st fun y t => ax_pi t fun x t => ax_ok (Nat.ble (ax_rs t) 8) (K ls (ax_i (if y < x then y else x) :: t) S C)
theorem sx_min (X : ax_X D p s m args meth c own cc nL) {idx : Nat} (h1 : Cond.methodLink own idx Lib.Math.min.name ∈ ax_big) (h2 : Cond.static Lib.Math.min.name ∈ ax_big) (h3 : Cond.initialized "java/lang/Math" ∈ ax_big) (h4 : Cond.code Lib.Math.min.name Lib.Math.min.code 2 (some .int) ∈ ax_big) (hR : 1 ≤ R.frames ∧ 21 ≤ R.locals) (hd : decode cc pc = .ok (.invokestatic idx, 3)) (k2 : (∀ ls st C, K ls st S C → ax_Z p l e R s m args below meth c D nL sl0 Q (pc + 3) ls st S C)) : (∀ ls st C, ax_min K ls st S C → ax_Z p l e R s m args below meth c D nL sl0 Q (pc) ls st S C) := fun ls st C hK H lsA locs cells slots h => by
  obtain ⟨y, st, rfl, hK1⟩ := ax_pi_e hK
  obtain ⟨x, st, rfl, hK2⟩ := ax_pi_e hK1
  obtain ⟨hr, hK3⟩ := ax_ok_e hK2
  have hr2 := Nat.le_of_ble_eq_true hr
  rw [← ax_rs_eq] at hr2
  exact va_mmin X.1 X.2.1 (X.2.2.1.trans h.2.1.1.symm) X.2.2.2.1 (X.2.2.2.2.1 _ h1) (X.2.2.2.2.1 _ h2) (X.2.2.2.2.1 _ h3) (X.2.2.2.2.1 _ h4) hR.1 (by omega) h.2.2.2.2.2.1 h.2.2.2.2.2.2 hd (k2 _ _ _ hK3 _ _ _ _ _ h)
def ax_abs (K : ax_K) : ax_K := fun ls st S C => ax_pi st fun x t => ax_ok (Nat.ble (ax_rs t) 8) (K ls (ax_i (if 0 ≤ x then x else 0 - x) :: t) S C)
def ax_absl (K : ax_K) : ax_K := fun ls st S C => ax_pl st fun x t => ax_ok (Nat.ble (ax_rs t) 8) (K ls (ax_l (if 0 < x then x else -x) :: t) S C)
theorem sx_abs (X : ax_X D p s m args meth c own cc nL) {idx : Nat} (h1 : Cond.methodLink own idx Lib.Math.abs.name ∈ ax_big) (h2 : Cond.static Lib.Math.abs.name ∈ ax_big) (h3 : Cond.initialized "java/lang/Math" ∈ ax_big) (h4 : Cond.code Lib.Math.abs.name Lib.Math.abs.code 1 (some .int) ∈ ax_big) (hR : 1 ≤ R.frames ∧ 21 ≤ R.locals) (hd : decode cc pc = .ok (.invokestatic idx, 3)) (k2 : (∀ ls st C, K ls st S C → ax_Z p l e R s m args below meth c D nL sl0 Q (pc + 3) ls st S C)) : (∀ ls st C, ax_abs K ls st S C → ax_Z p l e R s m args below meth c D nL sl0 Q (pc) ls st S C) := fun ls st C hK H lsA locs cells slots h => by
  obtain ⟨x, st, rfl, hK2⟩ := ax_pi_e hK
  obtain ⟨hr, hK3⟩ := ax_ok_e hK2
  have hr2 := Nat.le_of_ble_eq_true hr
  rw [← ax_rs_eq] at hr2
  exact va_mabs X.1 X.2.1 (X.2.2.1.trans h.2.1.1.symm) X.2.2.2.1 (X.2.2.2.2.1 _ h1) (X.2.2.2.2.1 _ h2) (X.2.2.2.2.1 _ h3) (X.2.2.2.2.1 _ h4) hR.1 (by omega) h.2.2.2.2.2.1 h.2.2.2.2.2.2 hd (k2 _ _ _ hK3 _ _ _ _ _ h)
theorem sx_absl (X : ax_X D p s m args meth c own cc nL) {idx : Nat} (h1 : Cond.methodLink own idx Lib.MathLoose.abs_long.x ∈ ax_big) (h2 : Cond.static Lib.MathLoose.abs_long.x ∈ ax_big) (h3 : Cond.initialized "java/lang/Math" ∈ ax_big) (h4 : Cond.code Lib.MathLoose.abs_long.x Lib.MathLoose.abs_long.code 2 (some .long) ∈ ax_big) (hR : 1 ≤ R.frames ∧ 21 ≤ R.locals) (hd : decode cc pc = .ok (.invokestatic idx, 3)) (k2 : (∀ ls st C, K ls st S C → ax_Z p l e R s m args below meth c D nL sl0 Q (pc + 3) ls st S C)) : (∀ ls st C, ax_absl K ls st S C → ax_Z p l e R s m args below meth c D nL sl0 Q (pc) ls st S C) := fun ls st C hK H lsA locs cells slots h => by
  obtain ⟨x, st, rfl, hK2⟩ := ax_pl_e hK
  obtain ⟨hr, hK3⟩ := ax_ok_e hK2
  have hr2 := Nat.le_of_ble_eq_true hr
  rw [← ax_rs_eq] at hr2
  exact va_mabs_long X.1 X.2.1 (X.2.2.1.trans h.2.1.1.symm) X.2.2.2.1 (X.2.2.2.2.1 _ h1) (X.2.2.2.2.1 _ h2) (X.2.2.2.2.1 _ h3) (X.2.2.2.2.1 _ h4) hR.1 (by omega) h.2.2.2.2.2.1 h.2.2.2.2.2.2 hd (k2 _ _ _ hK3 _ _ _ _ _ h)
def ax_oini (K : ax_K) : ax_K := fun ls st S C => ax_pr st fun o t => ax_sm o fun _ => ax_ok (Nat.ble (ax_rs t) 8) (K ls t S C)
theorem sx_oini (X : ax_X D p s m args meth c own cc nL) {idx : Nat} (h1 : Cond.methodLink own idx Lib.objectInit ∈ ax_big) (h2 : Cond.instanceMethod Lib.objectInit ∈ ax_big) (h3 : Cond.code Lib.objectInit ⟨#[0xb1]⟩ 1 none ∈ ax_big) (hR : 1 ≤ R.frames ∧ 21 ≤ R.locals) (hd : decode cc pc = .ok (.invokespecial idx, 3)) (k2 : (∀ ls st C, K ls st S C → ax_Z p l e R s m args below meth c D nL sl0 Q (pc + 3) ls st S C)) : (∀ ls st C, ax_oini K ls st S C → ax_Z p l e R s m args below meth c D nL sl0 Q (pc) ls st S C) := fun ls st C hK H lsA locs cells slots h => by
  obtain ⟨o, st, rfl, hK1⟩ := ax_pr_e hK
  obtain ⟨a, rfl, hK2⟩ := ax_sm_e hK1
  obtain ⟨hr, hK3⟩ := ax_ok_e hK2
  have hr2 := Nat.le_of_ble_eq_true hr
  rw [← ax_rs_eq] at hr2
  exact W.objInit X.1 X.2.1 X.2.2.2.1 (X.2.2.2.2.1 _ h1) (X.2.2.2.2.1 _ h2) (X.2.2.2.2.1 _ h3) rfl (h.2.1.1.trans X.2.2.1.symm) rfl hd hR.1 (by show 2 * 0 + _ + 12 ≤ _; omega) (k2 _ _ _ hK3 _ _ _ _ _ h)
def ax_cpy (K : ax_K) : ax_K := fun ls st S C => ax_pi st fun n t => ax_pi t fun dp t => ax_pr t fun d t => ax_pi t fun sp t => ax_pr t fun o t => ax_sm d fun a => ax_sm o fun b => S.1 a = 11 ∧ S.1 b = 11 ∧ ¬ sp < 0 ∧ ¬ dp < 0 ∧ ¬ n < 0 ∧ sp.toNatClampNeg + n.toNatClampNeg ≤ S.2.1 b ∧ dp.toNatClampNeg + n.toNatClampNeg ≤ S.2.1 a ∧ ax_ok (Nat.ble (ax_rs t) 8) (K ls t S (ax_rI C a (va_cpy (C.1 b) (C.1 a) sp.toNatClampNeg dp.toNatClampNeg n.toNatClampNeg)))
theorem sx_cpy (X : ax_X D p s m args meth c own cc nL) {idx : Nat} (g1 : Cond.methodLink own idx arraycopyName ∈ ax_big) (g2 : Cond.native arraycopyName ∈ ax_big) (g3 : Cond.static arraycopyName ∈ ax_big) (g4 : Cond.initialized "java/lang/System" ∈ ax_big) (hR : 1 ≤ R.frames ∧ 26 ≤ R.locals) (hd : decode cc pc = .ok (.invokestatic idx, 3)) (k2 : (∀ ls st C, K ls st S C → ax_Z p l e R s m args below meth c D nL sl0 Q (pc + 3) ls st S C)) : (∀ ls st C, ax_cpy K ls st S C → ax_Z p l e R s m args below meth c D nL sl0 Q (pc) ls st S C) := fun ls st C hK H lsA locs cells slots h => by
  obtain ⟨n, st, rfl, hK1⟩ := ax_pi_e hK
  obtain ⟨dp, st, rfl, hK2⟩ := ax_pi_e hK1
  obtain ⟨d, st, rfl, hK3⟩ := ax_pr_e hK2
  obtain ⟨sp, st, rfl, hK4⟩ := ax_pi_e hK3
  obtain ⟨o, st, rfl, hK5⟩ := ax_pr_e hK4
  obtain ⟨a, rfl, hK6⟩ := ax_sm_e hK5
  obtain ⟨b, rfl, ha, hb, h1, h2, h3, h4, h5, hK7⟩ := ax_sm_e hK6
  obtain ⟨hr, hK8⟩ := ax_ok_e hK7
  have hr2 := Nat.le_of_ble_eq_true hr
  rw [← ax_rs_eq] at hr2
  obtain ⟨ka, hka⟩ := ax_at h.1 (by omega : S.1 a ≠ 0)
  obtain ⟨kb, hkb⟩ := ax_at h.1 (by omega : S.1 b ≠ 0)
  rw [ax_f_arr (t := 0) ha (by omega)] at hka
  rw [ax_f_arr (t := 0) hb (by omega)] at hkb
  have hKt := X.2.2.2.2.2.2.1.1.2 0 _ (ax_tys_at (by omega))
  have ca := h.1.2.2.1 ka _ hka
  have cb := h.1.2.2.1 kb _ hkb
  obtain ⟨-, kA, hkA, cmA, hkkA⟩ := hKt.1 (S.2.1 a) (fun j => .int (C.1 a j))
  obtain ⟨-, kB, hkB, cmB, hkkB⟩ := hKt.1 (S.2.1 b) (fun j => .int (C.1 b j))
  have nn : ∀ z : Int32, ¬ z < 0 → z.toInt = (z.toNatClampNeg : Int) := by
    intro z hz
    have h0 := Int32.le_iff_toInt_le.mp (Int32.not_lt.mp hz)
    have h1 : (0 : Int32).toInt = 0 := rfl
    show z.toInt = ((z.toInt.toNat : Nat) : Int)
    omega
  intro T hT X0
  have dA : T.heap[a]? = some (arrV (D.2.2.1 0) (S.2.1 a) (fun j => .int (C.1 a j))) := by rw [hT]; exact ca
  have dB : T.heap[b]? = some (arrV (D.2.2.1 0) (S.2.1 b) (fun j => .int (C.1 b j))) := by rw [hT]; exact cb
  obtain ⟨vm', X', step⟩ := X0.arraycopy X.1 X.2.2.2.1 (X.2.2.2.2.1 _ g1) (X.2.2.2.2.1 _ g2) (X.2.2.2.2.1 _ g3) (X.2.2.2.2.1 _ g4) (srcPos := sp) (destPos := dp) (n := n) dB dA (fun _ q => by cases q) (fun _ q => by cases q) (fun q => by cases q) (fun q => by cases q) hkB hkA hkkB hkkA rfl h1 h2 h3
    (by rw [nn sp h1, nn n h3, arrV_size]; omega) (by rw [nn dp h2, nn n h3, arrV_size]; omega)
    (fun vm1 _ i hi => by
      have e : (arrV (D.2.2.1 0) (S.2.1 b) (fun j => .int (C.1 b j))).slots.getD (sp.toNatClampNeg + i) .null = .int (C.1 b (sp.toNatClampNeg + i)) := by
        rw [Array.getD_eq_getD_getElem?, arrV_read _ _ (by omega)]
        rfl
      rw [e]
      exact ⟨rfl, trivial⟩)
    (g := F0 m pc lsA (.int n :: .int dp :: .ref a :: .int sp :: .ref b :: st.map ax_cv)) rfl (h.2.1.1.trans X.2.2.1.symm) rfl (by rw [X.2.1]; exact hd) hR.1 (by show 2 * 0 + _ + (7 + 11) ≤ _; omega)
  have e1 : copied (arrV (D.2.2.1 0) (S.2.1 b) (fun j => .int (C.1 b j))) (arrV (D.2.2.1 0) (S.2.1 a) (fun j => .int (C.1 a j))) sp dp n = arrV (D.2.2.1 0) (S.2.1 a) (fun j => .int (va_cpy (C.1 b) (C.1 a) sp.toNatClampNeg dp.toNatClampNeg n.toNatClampNeg j)) := va_copied (fun z => .int z) _ _ (C.1 b) (C.1 a) h4
  rw [e1] at X' step
  have hl : a < H.size := (Array.getElem?_eq_some_iff.mp ca).1
  have hh : ((T.setVm vm').setCell a (arrV (D.2.2.1 0) (S.2.1 a) (fun j => .int (va_cpy (C.1 b) (C.1 a) sp.toNatClampNeg dp.toNatClampNeg n.toNatClampNeg j)))).heap = H.setIfInBounds a (arrV (D.2.2.1 0) (S.2.1 a) (fun j => .int (va_cpy (C.1 b) (C.1 a) sp.toNatClampNeg dp.toNatClampNeg n.toNatClampNeg j))) := by rw [← hT]; rfl
  have oq : ∀ q : Nat, q ≠ a → (H.setIfInBounds a (arrV (D.2.2.1 0) (S.2.1 a) (fun j => .int (va_cpy (C.1 b) (C.1 a) sp.toNatClampNeg dp.toNatClampNeg n.toNatClampNeg j))))[q]? = H[q]? := fun q hq => by simp [Array.getElem?_setIfInBounds, Ne.symm hq]
  have hnew : ax_R D S (ax_rI C a (va_cpy (C.1 b) (C.1 a) sp.toNatClampNeg dp.toNatClampNeg n.toNatClampNeg)) (H.setIfInBounds a (arrV (D.2.2.1 0) (S.2.1 a) (fun j => .int (va_cpy (C.1 b) (C.1 a) sp.toNatClampNeg dp.toNatClampNeg n.toNatClampNeg j)))) := by
    refine ax_R_set h.1 (a := a) (by omega) ?_ (by simp) oq (fun d hd => ax_f_other (by simp [ax_rI, va_up, hd]) rfl rfl)
    rw [ax_f_arr (t := 0) ha (by omega)]
    show (H.setIfInBounds a _)[a]? = some (vp_cell _ _)
    rw [vp_cell_i]
    simp [Array.getElem?_setIfInBounds, hl, ax_rI, va_up]
  have hS := h.2.2.1
  have aA := (h.1.2.2.2 a (by omega)).1
  obtain ⟨t, a1, b1⟩ := k2 _ _ _ hK8 _ _ _ cells slots ⟨hnew, h.2.1, ⟨by simp; exact hS.1, fun q z1 z2 => by
      rw [oq q (fun e => z2 (by rw [e]; exact aA))]
      exact hS.2.1 q z1 z2, fun q hq => by
      rcases List.mem_append.mp hq with z | z
      · exact hS.2.2 q z
      · obtain ⟨y, -, hy⟩ := List.mem_map.mp z
        rw [← hy]
        exact aA⟩, h.2.2.2⟩ _ hh X'
  exact ⟨t, step t a1, b1⟩
end AXH
