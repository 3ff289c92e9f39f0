/-! ===== making cells, calls, returns, methods ===== -/
/-- name, code, locals, answer, (frames, words, cells, slots), the receiver's kind (0: static) -/
abbrev ax_M : Type := MethodName × ByteArray × Nat × Option FieldType × (Nat × Nat × Nat × Nat) × Nat
def ax_rm (M : ax_M) : Room := { frames := M.2.2.2.2.1.1, cells := M.2.2.2.2.1.2.2.1, slots := M.2.2.2.2.1.2.2.2, locals := M.2.2.2.2.1.2.1 }
abbrev ax_cs (M : ax_M) : Nat := M.2.2.2.2.1.2.2.1
abbrev ax_sl (M : ax_M) : Nat := M.2.2.2.2.1.2.2.2
def ax_Q (D : ax_D) (S : ax_S) (mc ms : Nat) (Post : ax_P) : Array Value → State → Outcome → State → Prop := fun _ st o t => (∃ r S' C', o = .returned (r.map ax_cv) ∧ Post r S' C' ∧ ax_R D S' C' t.heap ∧ S'.2.2.1 = S.2.2.1 + mc ∧ S'.2.2.2 = S.2.2.2 + ms) ∧ va_F (ax_A D) st t
/-- a call of M comes back with what Post tells -/
def ax_Call (l : Launch) (D : ax_D) (M : ax_M) (av : List ax_T) (S : ax_S) (C : ax_C) (Post : ax_P) : Prop :=
  (M.2.2.2.2.2 ≠ 0 → ∃ b t, av = ax_r (some b) :: t ∧ S.1 b = M.2.2.2.2.2) ∧ Met l M.1 (Cond.code M.1 M.2.1 M.2.2.1 M.2.2.2.1 :: ax_big) (ax_rm M) (va_Pc (av.map ax_cv) (fun U => ax_R D S C U.heap ∧ ax_U D U)) (ax_Q D S (ax_cs M) (ax_sl M) Post) (ax_cs M) (ax_sl M) (ax_A D)
theorem ax_Call.mono {l : Launch} {D : ax_D} {M : ax_M} {av : List ax_T} {S : ax_S} {C : ax_C} {P P' : ax_P} (h : ax_Call l D M av S C P) (hP : ∀ r S' C', P r S' C' → P' r S' C') : ax_Call l D M av S C P' :=
  ⟨h.1, MetFree.mono h.2 (fun _ _ q => q) (fun _ _ _ _ _ q => q) (fun a st o t _ q => by
    obtain ⟨⟨⟨r, S', C', h1, h2, h3⟩, h4⟩, h5⟩ := q
    exact ⟨⟨⟨r, S', C', h1, hP _ _ _ h2, h3⟩, h4⟩, h5⟩)⟩
def ax_CI (l : Launch) (D : ax_D) (M : ax_M) (av : List ax_T) (S : ax_S) (C : ax_C) (P : Int32 → ax_C → Prop) : Prop := ax_Call l D M av S C fun r S' C' => ∃ x, r = some (ax_i x) ∧ S' = S ∧ P x C'
def ax_CL (l : Launch) (D : ax_D) (M : ax_M) (av : List ax_T) (S : ax_S) (C : ax_C) (P : Int64 → ax_C → Prop) : Prop := ax_Call l D M av S C fun r S' C' => ∃ x, r = some (ax_l x) ∧ S' = S ∧ P x C'
def ax_CR (l : Launch) (D : ax_D) (M : ax_M) (av : List ax_T) (S : ax_S) (C : ax_C) (P : Option Nat → ax_C → Prop) : Prop := ax_Call l D M av S C fun r S' C' => ∃ x, r = some (ax_r x) ∧ S' = S ∧ P x C'
def ax_CV (l : Launch) (D : ax_D) (M : ax_M) (av : List ax_T) (S : ax_S) (C : ax_C) (P : ax_C → Prop) : Prop := ax_Call l D M av S C fun r S' C' => r = none ∧ S' = S ∧ P C'
/-- a constructor's call -/
def ax_CA (l : Launch) (D : ax_D) (M : ax_M) (av : List ax_T) (S : ax_S) (C : ax_C) (P : ax_S → ax_C → Prop) : Prop := ax_Call l D M av S C fun r S' C' => r = none ∧ P S' C'
theorem ax_CI.mono {l : Launch} {D : ax_D} {M : ax_M} {av : List ax_T} {S : ax_S} {C : ax_C} {P P' : Int32 → ax_C → Prop} (h : ax_CI l D M av S C P) (hP : ∀ x C', P x C' → P' x C') : ax_CI l D M av S C P' := ax_Call.mono h fun _ _ _ ⟨x, h1, h2, h3⟩ => ⟨x, h1, h2, hP _ _ h3⟩
theorem ax_CL.mono {l : Launch} {D : ax_D} {M : ax_M} {av : List ax_T} {S : ax_S} {C : ax_C} {P P' : Int64 → ax_C → Prop} (h : ax_CL l D M av S C P) (hP : ∀ x C', P x C' → P' x C') : ax_CL l D M av S C P' := ax_Call.mono h fun _ _ _ ⟨x, h1, h2, h3⟩ => ⟨x, h1, h2, hP _ _ h3⟩
theorem ax_CR.mono {l : Launch} {D : ax_D} {M : ax_M} {av : List ax_T} {S : ax_S} {C : ax_C} {P P' : Option Nat → ax_C → Prop} (h : ax_CR l D M av S C P) (hP : ∀ x C', P x C' → P' x C') : ax_CR l D M av S C P' := ax_Call.mono h fun _ _ _ ⟨x, h1, h2, h3⟩ => ⟨x, h1, h2, hP _ _ h3⟩
theorem ax_CV.mono {l : Launch} {D : ax_D} {M : ax_M} {av : List ax_T} {S : ax_S} {C : ax_C} {P P' : ax_C → Prop} (h : ax_CV l D M av S C P) (hP : ∀ C', P C' → P' C') : ax_CV l D M av S C P' := ax_Call.mono h fun _ _ _ ⟨h1, h2, h3⟩ => ⟨h1, h2, hP _ h3⟩
theorem ax_CA.mono {l : Launch} {D : ax_D} {M : ax_M} {av : List ax_T} {S : ax_S} {C : ax_C} {P P' : ax_S → ax_C → Prop} (h : ax_CA l D M av S C P) (hP : ∀ S' C', P S' C' → P' S' C') : ax_CA l D M av S C P' := ax_Call.mono h fun _ _ _ ⟨h1, h3⟩ => ⟨h1, hP _ _ h3⟩
/-- an answer that is told, and nothing changed -/
theorem ax_CI.use {l : Launch} {D : ax_D} {M : ax_M} {av : List ax_T} {S : ax_S} {C C1 : ax_C} {v : Int32} {P : Int32 → ax_C → Prop} (h : ax_CI l D M av S C fun x C' => x = v ∧ C' = C1) (hP : P v C1) : ax_CI l D M av S C P := h.mono fun _ _ ⟨h1, h2⟩ => by rw [h1, h2]; exact hP
theorem ax_CL.use {l : Launch} {D : ax_D} {M : ax_M} {av : List ax_T} {S : ax_S} {C C1 : ax_C} {v : Int64} {P : Int64 → ax_C → Prop} (h : ax_CL l D M av S C fun x C' => x = v ∧ C' = C1) (hP : P v C1) : ax_CL l D M av S C P := h.mono fun _ _ ⟨h1, h2⟩ => by rw [h1, h2]; exact hP
theorem ax_CR.use {l : Launch} {D : ax_D} {M : ax_M} {av : List ax_T} {S : ax_S} {C C1 : ax_C} {v : Option Nat} {P : Option Nat → ax_C → Prop} (h : ax_CR l D M av S C fun x C' => x = v ∧ C' = C1) (hP : P v C1) : ax_CR l D M av S C P := h.mono fun _ _ ⟨h1, h2⟩ => by rw [h1, h2]; exact hP
theorem ax_CV.use {l : Launch} {D : ax_D} {M : ax_M} {av : List ax_T} {S : ax_S} {C C1 : ax_C} {P : ax_C → Prop} (h : ax_CV l D M av S C fun C' => C' = C1) (hP : P C1) : ax_CV l D M av S C P := h.mono fun _ h2 => by rw [h2]; exact hP
def ax_MF (M : ax_M) (n : Nat) : Prop := Cond.code M.1 M.2.1 M.2.2.1 M.2.2.2.1 ∈ ax_big ∧ Cond.initialized M.1.cls ∈ ax_big ∧ (M.1.cls ≠ "java/lang/invoke/MethodHandle" ∧ M.1.cls ≠ "java/lang/invoke/VarHandle" ∧ (parseMethodDescriptor M.1.desc).map (fun d => d.parameters.length) = some n)
def ax_MV (M : ax_M) (n : Nat) : Prop := ax_MF M n ∧ Cond.instanceMethod M.1 ∈ ax_big ∧ Cond.selects M.1.cls M.1 M.1 ∈ ax_big ∧ ∃ ci T, ax_CF ci M.1.cls T ∧ M.2.2.2.2.2 = ci + 1
def ax_MS (M : ax_M) (n : Nat) : Prop := ax_MF M n ∧ Cond.static M.1 ∈ ax_big
def ax_MI (M : ax_M) (n : Nat) : Prop := ax_MF M n ∧ Cond.instanceMethod M.1 ∈ ax_big ∧ M.1.name = "<init>" ∧ M.2.2.2.1 = none
def ax_ML (own : String) (idx : Nat) (M : ax_M) : Prop := Cond.methodLink own idx M.1 ∈ ax_big ∨ Cond.methodLinkNest own idx M.1 "PathEditor" ∈ ax_nw
def ax_RM (R : Room) (M : ax_M) : Prop := (ax_rm M).frames + 1 ≤ R.frames ∧ 8 + (M.2.2.1 + 11) + (ax_rm M).locals ≤ R.locals
theorem ax_big_good {w : Cond} (h : w ∈ ax_big) : (w.onTables && w.keeps) = true ∨ ∃ ty, w = .arrayClass ty := good_of_word (List.mem_filter.mp h).2
theorem ax_goodIn {M : ax_M} {n : Nat} (h : ax_MF M n) : GoodIn ax_big (Cond.code M.1 M.2.1 M.2.2.1 M.2.2.2.1 :: ax_big) := fun w hw => by
  rcases List.mem_cons.mp hw with rfl | hw
  · exact ⟨h.1, ax_big_good h.1⟩
  · exact ⟨hw, ax_big_good hw⟩
def ax_av : Nat → List ax_T → List ax_T → List ax_T × List ax_T
  | 0, acc, st => (acc, st)
  | _ + 1, acc, [] => (acc, [])
  | n + 1, acc, x :: st => ax_av n (x :: acc) st
theorem ax_av_eq : ∀ (n : Nat) (acc st : List ax_T), (ax_av n acc st).1.reverse ++ (ax_av n acc st).2 = acc.reverse ++ st
  | 0, acc, st => rfl
  | _ + 1, acc, [] => rfl
  | n + 1, acc, x :: st => by
    rw [ax_av, ax_av_eq n (x :: acc) st]
    simp
theorem ax_av_len : ∀ (n : Nat) (acc st : List ax_T), n ≤ st.length → (ax_av n acc st).1.length = acc.length + n
  | 0, acc, st, _ => rfl
  | _ + 1, acc, [], h => by simp at h
  | n + 1, acc, x :: st, h => by
    rw [ax_av, ax_av_len n (x :: acc) st (by simpa using h)]
    simp
    omega
theorem ax_av_rest : ∀ (n : Nat) (acc st t : List ax_T) (o : ax_T), (ax_av n acc st).2 = o :: t → n ≤ st.length
  | 0, _, _, _, _, _ => Nat.zero_le _
  | _ + 1, _, [], _, _, h => by simp [ax_av] at h
  | n + 1, acc, x :: st, t, o, h => by
    have := ax_av_rest n (x :: acc) st t o h
    simp; omega
theorem ax_blind {D : ax_D} {S : ax_S} {C : ax_C} {av : List Value} : FrameBlind (va_Pc av (fun U => ax_R D S C U.heap ∧ ax_U D U)) := fun a U g mk ⟨q1, q2, q3⟩ =>
  ⟨q1, q2, va_K.moved (u := U) (U := U.calling g mk a) (Vm.Alike.refl U.vm) q3.1, fun w hw => by
    have hw2 := (List.mem_filter.mp hw).2
    have h1 := q3.2.1 w hw
    cases w <;> first | (cases hw2; done) | exact va_Nw.same (U := U.calling g mk a) rfl rfl h1, va_AO.moved (u := U) (U := U.calling g mk a) (Vm.Alike.refl U.vm) q3.2.2.1, va_AO.moved (u := U) (U := U.calling g mk a) (Vm.Alike.refl U.vm) q3.2.2.2.1, va_Z.moved (u := U) (U := U.calling g mk a) (Vm.Alike.refl U.vm) q3.2.2.2.2.1, va_T.moved (u := U) (U := U.calling g mk a) (Vm.Alike.refl U.vm) q3.2.2.2.2.2⟩
section AXC
variable {p : Program} {l : Launch} {e : Env} {R : Room} {s : State} {m : MethodId} {args : Array Value} {below : List Frame} {meth : Method} {c : Code} {D : ax_D} {nL sl0 : Nat} {Q : State → Prop} {own : String} {cc : ByteArray} {pc : Nat} {S : ax_S} {K K1 K2 : ax_K}
theorem ax_pre (X : ax_X D p s m args meth c own cc nL) {av : List ax_T} {ls : ax_L} {C : ax_C} {H : Heap} {lsA : Array Slot} {locs : List Loc} {cells slots : Nat} (h : ax_H D s R nL sl0 ls S C H lsA locs cells slots) : ∀ U : State, U.heap = H → s.WarmedH U.vm → va_Pc (av.map ax_cv) (fun U => ax_R D S C U.heap ∧ ax_U D U) (av.map ax_cv).toArray U := fun U hU hW => ⟨rfl, by rw [hU]; exact h.1, ax_U_moved hW (fun a h1 h2 => by rw [hU]; exact h.2.2.1.2.1 a h1 h2) X.2.2.2.2.2.2.1⟩
theorem ax_cont {M : ax_M} {Post : ax_P} {ls : ax_L} {C : ax_C} {H : Heap} {lsA : Array Slot} {locs : List Loc} {cells slots : Nat} {rest st0 : List Value} {a : Array Value} (h : ax_H D s R nL sl0 ls S C H lsA locs cells slots) (hroom : cells + ax_cs M ≤ R.cells ∧ slots + ax_sl M ≤ R.slots) (hr : va_Run p l e R s m args below meth c H locs cells slots (ax_cs M) (ax_sl M) (F0 m pc lsA st0) rest (ax_Q D S (ax_cs M) (ax_sl M) Post a) (ax_A D))
    (kk : ∀ r S' C' H' locs', Post r S' C' → ax_H D s R nL sl0 ls S' C' H' lsA locs' (cells + ax_cs M) (slots + ax_sl M) → W p l e R s m args below meth c H' locs' (cells + ax_cs M) (slots + ax_sl M) Q (F0 m (pc + 3) lsA ((r.map ax_cv).toList ++ rest))) : W p l e R s m args below meth c H locs cells slots Q (F0 m pc lsA st0) := by
  intro T hT X
  obtain ⟨v, st₀, t, T', L, h0, X', hL, e1, e2, ⟨⟨r, S', C', hv, hp, hR, hz1, hz2⟩, hz, hk⟩, st⟩ := hr T hT X
  cases hv
  rw [h0] at hz hk
  have hS := h.2.2.1
  obtain ⟨t2, a1, b1⟩ := kk r S' C' T'.heap (locs ++ L) hp ⟨by rw [e1]; exact hR, h.2.1, ⟨Nat.le_trans hS.1 (by rw [e1]; exact hz), fun q h1 h2 => by rw [e1, hk q (Nat.lt_of_lt_of_le h1 hS.1) h2]; exact hS.2.1 q h1 h2, fun q hq => by
      rcases List.mem_append.mp hq with h | h
      · exact hS.2.2 q h
      · exact hL q h⟩, by have := h.2.2.2.1; omega, by have := h.2.2.2.2.1; omega, hroom⟩ T' rfl X'
  exact ⟨t2, st t2 a1, b1⟩
theorem ax_callV (X : ax_X D p s m args meth c own cc nL) {M : ax_M} {n idx b : Nat} {As st : List ax_T} {Post : ax_P} (hM : ax_MV M n) (hl : ax_ML own idx M) (hRM : ax_RM R M) (hd : decode cc pc = .ok (.invokevirtual idx, 3)) {ls : ax_L} {C : ax_C} {H : Heap} {lsA : Array Slot} {locs : List Loc} {cells slots : Nat} (h : ax_H D s R nL sl0 ls S C H lsA locs cells slots) (hn : As.length = n) (hst : ax_rs st ≤ 8) (hroom : cells + ax_cs M ≤ R.cells ∧ slots + ax_sl M ≤ R.slots) (hC : ax_Call l D M (ax_r (some b) :: As) S C Post) : va_Run p l e R s m args below meth c H locs cells slots (ax_cs M) (ax_sl M) (F0 m pc lsA ((As.map ax_cv).reverse ++ .ref b :: st.map ax_cv)) (st.map ax_cv) (ax_Q D S (ax_cs M) (ax_sl M) Post ((ax_r (some b) :: As).map ax_cv).toArray) (ax_A D) := by
  obtain ⟨hF, hin, hsel, ci, T, hCF, hk⟩ := hM
  obtain ⟨hrecv, hMet⟩ := hC
  obtain ⟨b', t', e1, e2⟩ := hrecv (by omega)
  cases e1
  have hcell : ∃ cellB : Cell, H[b]? = some cellB ∧ cellB.vm.isStatics = false ∧ s.vm.findClass M.1.cls = some cellB.cls := by
    obtain ⟨k0, hk0⟩ := ax_at h.1 (a := b) (by omega)
    rw [ax_f_obj (e2.trans hk) hCF.2.2.2.2] at hk0
    exact va_recv X.2.2.2.2.2.2.1.1 h.1.2.2.1 hCF.1 hk0
  have hst2 : ((st.map ax_cv).map fun v => v.category).sum ≤ 8 := by rw [ax_rs_eq]; exact hst
  have hp : PreV s H M.1.cls b (va_Pc ((ax_r (some b) :: As).map ax_cv) (fun U => ax_R D S C U.heap ∧ ax_U D U)) (As.map ax_cv) := ⟨ax_blind, hcell, ax_pre X (av := ax_r (some b) :: As) h⟩
  have hts := X.2.2.2.2.1
  rcases hl with hl | hl
  · exact va_runV (Ts := ax_big) (own := own) (C := M.1.cls) ⟨X.1, X.2.1, X.2.2.1, X.2.2.2.1, hts⟩ hMet ⟨callB_of n hts (ax_goodIn hF) rfl rfl rfl (hts _ hF.2.1) (hts _ hl) hF.2.2 hRM, hts _ hin, hts _ hsel⟩ hp rfl (by simpa using hn) h.2.1.1 rfl (lv_room hst2) hd hroom
  · exact va_runVN (Ts := ax_big) (own := own) (C := M.1.cls) (host := "PathEditor") ⟨X.1, X.2.1, X.2.2.1, X.2.2.2.1, hts⟩ hMet ⟨va_cnB n hts (ax_goodIn hF) rfl rfl rfl (X.2.2.2.2.2.2.1.2.1 _ hl) (hts _ hF.2.1) hF.2.2 hRM, hts _ hin, hts _ hsel⟩ hp rfl (by simpa using hn) h.2.1.1 rfl (lv_room hst2) hd hroom
theorem ax_callS (X : ax_X D p s m args meth c own cc nL) {M : ax_M} {n idx : Nat} {As st : List ax_T} {Post : ax_P} (hM : ax_MS M n) (hl : ax_ML own idx M) (hRM : ax_RM R M) (hd : decode cc pc = .ok (.invokestatic idx, 3)) {ls : ax_L} {C : ax_C} {H : Heap} {lsA : Array Slot} {locs : List Loc} {cells slots : Nat} (h : ax_H D s R nL sl0 ls S C H lsA locs cells slots) (hn : As.length = n) (hst : ax_rs st ≤ 8) (hroom : cells + ax_cs M ≤ R.cells ∧ slots + ax_sl M ≤ R.slots) (hC : ax_Call l D M As S C Post) : va_Run p l e R s m args below meth c H locs cells slots (ax_cs M) (ax_sl M) (F0 m pc lsA ((As.map ax_cv).reverse ++ st.map ax_cv)) (st.map ax_cv) (ax_Q D S (ax_cs M) (ax_sl M) Post (As.map ax_cv).toArray) (ax_A D) := by
  obtain ⟨hF, hstat⟩ := hM
  obtain ⟨-, hMet⟩ := hC
  have hst2 : ((st.map ax_cv).map fun v => v.category).sum ≤ 8 := by rw [ax_rs_eq]; exact hst
  have hp : PreS s H (va_Pc (As.map ax_cv) (fun U => ax_R D S C U.heap ∧ ax_U D U)) (As.map ax_cv) := ⟨ax_blind, ax_pre X h⟩
  have hts := X.2.2.2.2.1
  rcases hl with hl | hl
  · exact va_runS (Ts := ax_big) (own := own) ⟨X.1, X.2.1, X.2.2.1, X.2.2.2.1, hts⟩ hMet ⟨callB_of n hts (ax_goodIn hF) rfl rfl rfl (hts _ hF.2.1) (hts _ hl) hF.2.2 hRM, hts _ hstat⟩ hp rfl (by simpa using hn) h.2.1.1 rfl (lv_room hst2) hd hroom
  · exact va_runSN (Ts := ax_big) (own := own) (host := "PathEditor") ⟨X.1, X.2.1, X.2.2.1, X.2.2.2.1, hts⟩ hMet ⟨va_cnB n hts (ax_goodIn hF) rfl rfl rfl (X.2.2.2.2.2.2.1.2.1 _ hl) (hts _ hF.2.1) hF.2.2 hRM, hts _ hstat, trivial⟩ hp rfl (by simpa using hn) h.2.1.1 rfl (lv_room hst2) hd hroom
theorem ax_callI (X : ax_X D p s m args meth c own cc nL) {M : ax_M} {n idx b : Nat} {As st : List ax_T} {Post : ax_P} (hM : ax_MI M n) (hl : ax_ML own idx M) (hRM : ax_RM R M) (hd : decode cc pc = .ok (.invokespecial idx, 3)) {ls : ax_L} {C : ax_C} {H : Heap} {lsA : Array Slot} {locs : List Loc} {cells slots : Nat} (h : ax_H D s R nL sl0 ls S C H lsA locs cells slots) (hn : As.length = n) (hst : ax_rs st ≤ 8) (hroom : cells + ax_cs M ≤ R.cells ∧ slots + ax_sl M ≤ R.slots) (hC : ax_Call l D M (ax_r (some b) :: As) S C Post) : va_Run p l e R s m args below meth c H locs cells slots (ax_cs M) (ax_sl M) (F0 m pc lsA ((As.map ax_cv).reverse ++ .ref b :: st.map ax_cv)) (st.map ax_cv) (ax_Q D S (ax_cs M) (ax_sl M) Post ((ax_r (some b) :: As).map ax_cv).toArray) (ax_A D) := by
  obtain ⟨hF, hin, hnm, hret⟩ := hM
  obtain ⟨-, hMet⟩ := hC
  have hst2 : ((st.map ax_cv).map fun v => v.category).sum ≤ 8 := by rw [ax_rs_eq]; exact hst
  have hp : PreS s H (va_Pc ((ax_r (some b) :: As).map ax_cv) (fun U => ax_R D S C U.heap ∧ ax_U D U)) (.ref b :: As.map ax_cv) := ⟨ax_blind, ax_pre X (av := ax_r (some b) :: As) h⟩
  have hts := X.2.2.2.2.1
  have hG := ax_goodIn hF
  rw [hret] at hMet hG
  rcases hl with hl | hl
  · exact va_runI (Ts := ax_big) (own := own) ⟨X.1, X.2.1, X.2.2.1, X.2.2.2.1, hts⟩ hMet ⟨callB_of n hts hG rfl rfl rfl (hts _ hF.2.1) (hts _ hl) hF.2.2 hRM, hnm, hts _ hin⟩ hp rfl (by simpa using hn) h.2.1.1 rfl (lv_room hst2) hd hroom
  · exact va_runIN (Ts := ax_big) (own := own) (host := "PathEditor") ⟨X.1, X.2.1, X.2.2.1, X.2.2.2.1, hts⟩ hMet ⟨va_cnB n hts hG rfl rfl rfl (X.2.2.2.2.2.2.1.2.1 _ hl) (hts _ hF.2.1) hF.2.2 hRM, hnm, hts _ hin⟩ hp rfl (by simpa using hn) h.2.1.1 rfl (lv_room hst2) hd hroom
theorem ax_stk {n : Nat} {st : List ax_T} : st.map ax_cv = (((ax_av n [] st).1).map ax_cv).reverse ++ (ax_av n [] st).2.map ax_cv := by
  have := ax_av_eq n [] st
  simp at this
  rw [← List.map_reverse, ← List.map_append, this]
def ax_vci (l : Launch) (D : ax_D) (M : ax_M) (nA : Nat) (K : ax_K) : ax_K := fun ls st S C => ax_pr (ax_av nA [] st).2 fun o t => ax_ok (Nat.ble (ax_rs t) 8) (ax_CI l D M (ax_r o :: (ax_av nA [] st).1) S C (fun x C' => K ls (ax_i x :: t) S C'))
def ax_sci (l : Launch) (D : ax_D) (M : ax_M) (nA : Nat) (K : ax_K) : ax_K := fun ls st S C => ax_ok (Nat.ble nA st.length) (ax_ok (Nat.ble (ax_rs (ax_av nA [] st).2) 8) (ax_CI l D M (ax_av nA [] st).1 S C (fun x C' => K ls (ax_i x :: (ax_av nA [] st).2) S C')))
theorem sx_vci (X : ax_X D p s m args meth c own cc nL) {M : ax_M} {nA idx : Nat} (hM : ax_MV M nA) (hl : ax_ML own idx M) (hRM : ax_RM R M) (h0 : ax_cs M = 0 ∧ ax_sl M = 0) (hd : decode cc pc = .ok (.invokevirtual idx, 3)) (k2 : (∀ ls st C, K ls st S C → ax_Z p l e R s m args below meth c D nL sl0 Q (pc + 3) ls st S C)) : ∀ ls st C, ax_vci l D M nA K ls st S C → ax_Z p l e R s m args below meth c D nL sl0 Q pc ls st S C := fun ls st C hK H lsA locs cells slots h => by
  obtain ⟨o, t, e1, hK1⟩ := ax_pr_e hK
  have hlen := ax_av_rest nA [] st t _ e1
  obtain ⟨hr, hK2⟩ := ax_ok_e hK1
  have hk : M.2.2.2.2.2 ≠ 0 := by obtain ⟨-, -, -, ci, T, -, q⟩ := hM; omega
  obtain ⟨b, t', e2, e3⟩ := hK2.1 hk
  cases e2
  have hroom : cells + ax_cs M ≤ R.cells ∧ slots + ax_sl M ≤ R.slots := by have := h.2.2.2.2.2; omega
  rw [ax_stk (n := nA) (st := st), e1]
  refine ax_cont h hroom (ax_callV X hM hl hRM hd h (by rw [ax_av_len nA [] st hlen]; simp) (Nat.le_of_ble_eq_true hr) hroom hK2) ?_
  rintro r S' C' H' locs' ⟨x, rfl, rfl, hK3⟩ h'
  have k3 := k2 _ _ _ hK3 _ _ _ _ _ h'
  exact k3
theorem sx_sci (X : ax_X D p s m args meth c own cc nL) {M : ax_M} {nA idx : Nat} (hM : ax_MS M nA) (hl : ax_ML own idx M) (hRM : ax_RM R M) (h0 : ax_cs M = 0 ∧ ax_sl M = 0) (hd : decode cc pc = .ok (.invokestatic idx, 3)) (k2 : (∀ ls st C, K ls st S C → ax_Z p l e R s m args below meth c D nL sl0 Q (pc + 3) ls st S C)) : ∀ ls st C, ax_sci l D M nA K ls st S C → ax_Z p l e R s m args below meth c D nL sl0 Q pc ls st S C := fun ls st C hK H lsA locs cells slots h => by
  obtain ⟨hlen0, hK0⟩ := ax_ok_e hK
  have hlen := Nat.le_of_ble_eq_true hlen0
  obtain ⟨hr, hK2⟩ := ax_ok_e hK0
  have hroom : cells + ax_cs M ≤ R.cells ∧ slots + ax_sl M ≤ R.slots := by have := h.2.2.2.2.2; omega
  rw [ax_stk (n := nA) (st := st)]
  refine ax_cont h hroom (ax_callS X hM hl hRM hd h (by rw [ax_av_len nA [] st hlen]; simp) (Nat.le_of_ble_eq_true hr) hroom hK2) ?_
  rintro r S' C' H' locs' ⟨x, rfl, rfl, hK3⟩ h'
  have k3 := k2 _ _ _ hK3 _ _ _ _ _ h'
  exact k3
def ax_vcl (l : Launch) (D : ax_D) (M : ax_M) (nA : Nat) (K : ax_K) : ax_K := fun ls st S C => ax_pr (ax_av nA [] st).2 fun o t => ax_ok (Nat.ble (ax_rs t) 8) (ax_CL l D M (ax_r o :: (ax_av nA [] st).1) S C (fun x C' => K ls (ax_l x :: t) S C'))
def ax_scl (l : Launch) (D : ax_D) (M : ax_M) (nA : Nat) (K : ax_K) : ax_K := fun ls st S C => ax_ok (Nat.ble nA st.length) (ax_ok (Nat.ble (ax_rs (ax_av nA [] st).2) 8) (ax_CL l D M (ax_av nA [] st).1 S C (fun x C' => K ls (ax_l x :: (ax_av nA [] st).2) S C')))
theorem sx_vcl (X : ax_X D p s m args meth c own cc nL) {M : ax_M} {nA idx : Nat} (hM : ax_MV M nA) (hl : ax_ML own idx M) (hRM : ax_RM R M) (h0 : ax_cs M = 0 ∧ ax_sl M = 0) (hd : decode cc pc = .ok (.invokevirtual idx, 3)) (k2 : (∀ ls st C, K ls st S C → ax_Z p l e R s m args below meth c D nL sl0 Q (pc + 3) ls st S C)) : ∀ ls st C, ax_vcl l D M nA K ls st S C → ax_Z p l e R s m args below meth c D nL sl0 Q pc ls st S C := fun ls st C hK H lsA locs cells slots h => by
  obtain ⟨o, t, e1, hK1⟩ := ax_pr_e hK
  have hlen := ax_av_rest nA [] st t _ e1
  obtain ⟨hr, hK2⟩ := ax_ok_e hK1
  have hk : M.2.2.2.2.2 ≠ 0 := by obtain ⟨-, -, -, ci, T, -, q⟩ := hM; omega
  obtain ⟨b, t', e2, e3⟩ := hK2.1 hk
  cases e2
  have hroom : cells + ax_cs M ≤ R.cells ∧ slots + ax_sl M ≤ R.slots := by have := h.2.2.2.2.2; omega
  rw [ax_stk (n := nA) (st := st), e1]
  refine ax_cont h hroom (ax_callV X hM hl hRM hd h (by rw [ax_av_len nA [] st hlen]; simp) (Nat.le_of_ble_eq_true hr) hroom hK2) ?_
  rintro r S' C' H' locs' ⟨x, rfl, rfl, hK3⟩ h'
  have k3 := k2 _ _ _ hK3 _ _ _ _ _ h'
  exact k3
theorem sx_scl (X : ax_X D p s m args meth c own cc nL) {M : ax_M} {nA idx : Nat} (hM : ax_MS M nA) (hl : ax_ML own idx M) (hRM : ax_RM R M) (h0 : ax_cs M = 0 ∧ ax_sl M = 0) (hd : decode cc pc = .ok (.invokestatic idx, 3)) (k2 : (∀ ls st C, K ls st S C → ax_Z p l e R s m args below meth c D nL sl0 Q (pc + 3) ls st S C)) : ∀ ls st C, ax_scl l D M nA K ls st S C → ax_Z p l e R s m args below meth c D nL sl0 Q pc ls st S C := fun ls st C hK H lsA locs cells slots h => by
  obtain ⟨hlen0, hK0⟩ := ax_ok_e hK
  have hlen := Nat.le_of_ble_eq_true hlen0
  obtain ⟨hr, hK2⟩ := ax_ok_e hK0
  have hroom : cells + ax_cs M ≤ R.cells ∧ slots + ax_sl M ≤ R.slots := by have := h.2.2.2.2.2; omega
  rw [ax_stk (n := nA) (st := st)]
  refine ax_cont h hroom (ax_callS X hM hl hRM hd h (by rw [ax_av_len nA [] st hlen]; simp) (Nat.le_of_ble_eq_true hr) hroom hK2) ?_
  rintro r S' C' H' locs' ⟨x, rfl, rfl, hK3⟩ h'
  have k3 := k2 _ _ _ hK3 _ _ _ _ _ h'
  exact k3
def ax_vcr (l : Launch) (D : ax_D) (M : ax_M) (nA : Nat) (K : ax_K) : ax_K := fun ls st S C => ax_pr (ax_av nA [] st).2 fun o t => ax_ok (Nat.ble (ax_rs t) 8) (ax_CR l D M (ax_r o :: (ax_av nA [] st).1) S C (fun x C' => K ls (ax_r x :: t) S C'))
def ax_scr (l : Launch) (D : ax_D) (M : ax_M) (nA : Nat) (K : ax_K) : ax_K := fun ls st S C => ax_ok (Nat.ble nA st.length) (ax_ok (Nat.ble (ax_rs (ax_av nA [] st).2) 8) (ax_CR l D M (ax_av nA [] st).1 S C (fun x C' => K ls (ax_r x :: (ax_av nA [] st).2) S C')))
theorem sx_vcr (X : ax_X D p s m args meth c own cc nL) {M : ax_M} {nA idx : Nat} (hM : ax_MV M nA) (hl : ax_ML own idx M) (hRM : ax_RM R M) (h0 : ax_cs M = 0 ∧ ax_sl M = 0) (hd : decode cc pc = .ok (.invokevirtual idx, 3)) (k2 : (∀ ls st C, K ls st S C → ax_Z p l e R s m args below meth c D nL sl0 Q (pc + 3) ls st S C)) : ∀ ls st C, ax_vcr l D M nA K ls st S C → ax_Z p l e R s m args below meth c D nL sl0 Q pc ls st S C := fun ls st C hK H lsA locs cells slots h => by
  obtain ⟨o, t, e1, hK1⟩ := ax_pr_e hK
  have hlen := ax_av_rest nA [] st t _ e1
  obtain ⟨hr, hK2⟩ := ax_ok_e hK1
  have hk : M.2.2.2.2.2 ≠ 0 := by obtain ⟨-, -, -, ci, T, -, q⟩ := hM; omega
  obtain ⟨b, t', e2, e3⟩ := hK2.1 hk
  cases e2
  have hroom : cells + ax_cs M ≤ R.cells ∧ slots + ax_sl M ≤ R.slots := by have := h.2.2.2.2.2; omega
  rw [ax_stk (n := nA) (st := st), e1]
  refine ax_cont h hroom (ax_callV X hM hl hRM hd h (by rw [ax_av_len nA [] st hlen]; simp) (Nat.le_of_ble_eq_true hr) hroom hK2) ?_
  rintro r S' C' H' locs' ⟨x, rfl, rfl, hK3⟩ h'
  have k3 := k2 _ _ _ hK3 _ _ _ _ _ h'
  exact k3
theorem sx_scr (X : ax_X D p s m args meth c own cc nL) {M : ax_M} {nA idx : Nat} (hM : ax_MS M nA) (hl : ax_ML own idx M) (hRM : ax_RM R M) (h0 : ax_cs M = 0 ∧ ax_sl M = 0) (hd : decode cc pc = .ok (.invokestatic idx, 3)) (k2 : (∀ ls st C, K ls st S C → ax_Z p l e R s m args below meth c D nL sl0 Q (pc + 3) ls st S C)) : ∀ ls st C, ax_scr l D M nA K ls st S C → ax_Z p l e R s m args below meth c D nL sl0 Q pc ls st S C := fun ls st C hK H lsA locs cells slots h => by
  obtain ⟨hlen0, hK0⟩ := ax_ok_e hK
  have hlen := Nat.le_of_ble_eq_true hlen0
  obtain ⟨hr, hK2⟩ := ax_ok_e hK0
  have hroom : cells + ax_cs M ≤ R.cells ∧ slots + ax_sl M ≤ R.slots := by have := h.2.2.2.2.2; omega
  rw [ax_stk (n := nA) (st := st)]
  refine ax_cont h hroom (ax_callS X hM hl hRM hd h (by rw [ax_av_len nA [] st hlen]; simp) (Nat.le_of_ble_eq_true hr) hroom hK2) ?_
  rintro r S' C' H' locs' ⟨x, rfl, rfl, hK3⟩ h'
  have k3 := k2 _ _ _ hK3 _ _ _ _ _ h'
  exact k3
def ax_vcv (l : Launch) (D : ax_D) (M : ax_M) (nA : Nat) (K : ax_K) : ax_K := fun ls st S C => ax_pr (ax_av nA [] st).2 fun o t => ax_ok (Nat.ble (ax_rs t) 8) (ax_CV l D M (ax_r o :: (ax_av nA [] st).1) S C (fun C' => K ls (t) S C'))
def ax_scv (l : Launch) (D : ax_D) (M : ax_M) (nA : Nat) (K : ax_K) : ax_K := fun ls st S C => ax_ok (Nat.ble nA st.length) (ax_ok (Nat.ble (ax_rs (ax_av nA [] st).2) 8) (ax_CV l D M (ax_av nA [] st).1 S C (fun C' => K ls ((ax_av nA [] st).2) S C')))
theorem sx_vcv (X : ax_X D p s m args meth c own cc nL) {M : ax_M} {nA idx : Nat} (hM : ax_MV M nA) (hl : ax_ML own idx M) (hRM : ax_RM R M) (h0 : ax_cs M = 0 ∧ ax_sl M = 0) (hd : decode cc pc = .ok (.invokevirtual idx, 3)) (k2 : (∀ ls st C, K ls st S C → ax_Z p l e R s m args below meth c D nL sl0 Q (pc + 3) ls st S C)) : ∀ ls st C, ax_vcv l D M nA K ls st S C → ax_Z p l e R s m args below meth c D nL sl0 Q pc ls st S C := fun ls st C hK H lsA locs cells slots h => by
  obtain ⟨o, t, e1, hK1⟩ := ax_pr_e hK
  have hlen := ax_av_rest nA [] st t _ e1
  obtain ⟨hr, hK2⟩ := ax_ok_e hK1
  have hk : M.2.2.2.2.2 ≠ 0 := by obtain ⟨-, -, -, ci, T, -, q⟩ := hM; omega
  obtain ⟨b, t', e2, e3⟩ := hK2.1 hk
  cases e2
  have hroom : cells + ax_cs M ≤ R.cells ∧ slots + ax_sl M ≤ R.slots := by have := h.2.2.2.2.2; omega
  rw [ax_stk (n := nA) (st := st), e1]
  refine ax_cont h hroom (ax_callV X hM hl hRM hd h (by rw [ax_av_len nA [] st hlen]; simp) (Nat.le_of_ble_eq_true hr) hroom hK2) ?_
  rintro r S' C' H' locs' ⟨rfl, rfl, hK3⟩ h'
  have k3 := k2 _ _ _ hK3 _ _ _ _ _ h'
  exact k3
theorem sx_scv (X : ax_X D p s m args meth c own cc nL) {M : ax_M} {nA idx : Nat} (hM : ax_MS M nA) (hl : ax_ML own idx M) (hRM : ax_RM R M) (h0 : ax_cs M = 0 ∧ ax_sl M = 0) (hd : decode cc pc = .ok (.invokestatic idx, 3)) (k2 : (∀ ls st C, K ls st S C → ax_Z p l e R s m args below meth c D nL sl0 Q (pc + 3) ls st S C)) : ∀ ls st C, ax_scv l D M nA K ls st S C → ax_Z p l e R s m args below meth c D nL sl0 Q pc ls st S C := fun ls st C hK H lsA locs cells slots h => by
  obtain ⟨hlen0, hK0⟩ := ax_ok_e hK
  have hlen := Nat.le_of_ble_eq_true hlen0
  obtain ⟨hr, hK2⟩ := ax_ok_e hK0
  have hroom : cells + ax_cs M ≤ R.cells ∧ slots + ax_sl M ≤ R.slots := by have := h.2.2.2.2.2; omega
  rw [ax_stk (n := nA) (st := st)]
  refine ax_cont h hroom (ax_callS X hM hl hRM hd h (by rw [ax_av_len nA [] st hlen]; simp) (Nat.le_of_ble_eq_true hr) hroom hK2) ?_
  rintro r S' C' H' locs' ⟨rfl, rfl, hK3⟩ h'
  have k3 := k2 _ _ _ hK3 _ _ _ _ _ h'
  exact k3
/-- a constructor's call: the cells that it makes count -/
def ax_vca (l : Launch) (D : ax_D) (M : ax_M) (Z : Nat × Nat) (K : ax_K) : ax_K := fun ls st S C => ax_pr st fun o t => ax_sm o fun b => ax_ok (Nat.ble (ax_rs t) 8) (S.2.2.1 + ax_cs M ≤ Z.1 ∧ S.2.2.2 + ax_sl M ≤ Z.2 ∧ ax_CA l D M [ax_r (some b)] S C (fun S' C' => K ls t S' C'))
theorem sx_vca (X : ax_X D p s m args meth c own cc nL) {M : ax_M} {idx : Nat} {Z : Nat × Nat} (hZ : Z.1 ≤ s.heap.size + R.cells ∧ Z.2 ≤ sl0 + R.slots) (hM : ax_MI M 0) (hl : ax_ML own idx M) (hRM : ax_RM R M) (hd : decode cc pc = .ok (.invokespecial idx, 3)) (k2 : (∀ ls st S C, K ls st S C → ax_Z p l e R s m args below meth c D nL sl0 Q (pc + 3) ls st S C)) : (∀ ls st C, ax_vca l D M Z K ls st S C → ax_Z p l e R s m args below meth c D nL sl0 Q (pc) ls st S C) := fun ls st C hK H lsA locs cells slots h => by
  obtain ⟨o, t, rfl, hK1⟩ := ax_pr_e hK
  obtain ⟨b, rfl, hK2⟩ := ax_sm_e hK1
  obtain ⟨hr, hz1, hz2, hK3⟩ := ax_ok_e hK2
  have hroom : cells + ax_cs M ≤ R.cells ∧ slots + ax_sl M ≤ R.slots := by have h1 := h.2.2.2.1; have h2 := h.2.2.2.2.1; omega
  refine ax_cont h hroom (ax_callI X (As := []) hM hl hRM hd h rfl (Nat.le_of_ble_eq_true hr) hroom hK3) ?_
  rintro r S' C' H' locs' ⟨rfl, hK4⟩ h'
  have k3 := k2 _ _ _ _ hK4 _ _ _ _ _ h'
  exact k3
def ax_nS (S : ax_S) (kd n sl : Nat) : ax_S := (va_up S.1 S.2.2.1 kd, va_up S.2.1 S.2.2.1 n, S.2.2.1 + 1, S.2.2.2 + sl)
def ax_nC (C : ax_C) (a : Nat) : ax_C := (va_up C.1 a (fun _ => 0), va_up C.2.1 a (fun _ => 0), va_up C.2.2 a (fun _ => none))
theorem ax_R_push {C : ax_C} {H H' : Heap} {kd n sl : Nat} (h : ax_R D S C H) (hz : H'.size = H.size + 1) (ho : ∀ q, q < H.size → H'[q]? = H[q]?) (he : va_at (D.1, D.2.1) vwCl (H.size, ax_f D (ax_nS S kd n sl) (ax_nC C H.size) H.size) H') : ax_R D (ax_nS S kd n sl) (ax_nC C H.size) H' := by
  obtain ⟨h1, h2, h3, h4⟩ := h
  have hf : ∀ b, b ≠ H.size → ax_f D (ax_nS S kd n sl) (ax_nC C H.size) b = ax_f D S C b := by
    intro b hb
    have hv : ∀ ci k, ax_v ci (ax_nC C H.size) b k = ax_v ci C b k := fun ci k => by simp [ax_v, ax_nC, va_up, hb]
    have hl : ∀ ci, ax_fl ci (ax_nC C H.size) b = ax_fl ci C b := fun ci => by
      unfold ax_fl
      rw [show ax_v ci (ax_nC C H.size) b = ax_v ci C b from funext (hv ci)]
    have hb2 : b ≠ S.2.2.1 := by rw [← h1]; exact hb
    simp only [ax_f, hl]
    simp [ax_nS, ax_nC, va_up, hb, hb2]
  refine ⟨by simp [ax_nS]; omega, by simp [ax_nS]; omega, ?_, fun a ha => ?_⟩
  · have hw : ax_w D (ax_nS S kd n sl) (ax_nC C H.size) = ax_w D S C ++ [(H.size, ax_f D (ax_nS S kd n sl) (ax_nC C H.size) H.size)] := by
      have hr : ax_ad D (ax_nS S kd n sl) = ax_ad D S ++ [H.size] := by
        have e1 : (S.2.2.1 + 1) - D.2.2.2.1 = (S.2.2.1 - D.2.2.2.1) + 1 := by omega
        show List.range' D.2.2.2.1 ((S.2.2.1 + 1) - D.2.2.2.1) = _
        rw [e1, List.range'_concat, h1]
        simp only [ax_ad, Nat.one_mul]
        congr 2
        omega
      unfold ax_w va_pl
      rw [hr, List.map_append]
      congr 1
      apply List.map_congr_left
      intro b hb
      have hb2 : b < S.2.2.1 := by
        simp only [ax_ad, List.mem_range'_1] at hb
        omega
      rw [hf b (by omega)]
    rw [hw]
    refine (h3.kept fun k q hk => ho q.1 (h3 k q hk).lt).app fun k q hk => ?_
    have hz : k < 1 := (List.getElem?_eq_some_iff.mp hk).1
    rw [show k = 0 by omega] at hk
    cases hk
    exact he
  · by_cases hb : a = S.2.2.1
    · simp [ax_nS]; omega
    · have : S.1 a ≠ 0 := by simpa [ax_nS, va_up, hb] using ha
      have := h4 a this
      simp [ax_nS]; omega
theorem ax_H.push {ls : ax_L} {C : ax_C} {H H' : Heap} {lsA : Array Slot} {locs : List Loc} {cells slots kd n sl : Nat} (h : ax_H D s R nL sl0 ls S C H lsA locs cells slots) (hz : H'.size = H.size + 1) (ho : ∀ q, q < H.size → H'[q]? = H[q]?) (he : va_at (D.1, D.2.1) vwCl (H.size, ax_f D (ax_nS S kd n sl) (ax_nC C H.size) H.size) H') (hc : cells + 1 ≤ R.cells) (hs : slots + sl ≤ R.slots) : ax_H D s R nL sl0 ls (ax_nS S kd n sl) (ax_nC C H.size) H' lsA locs (cells + 1) (slots + sl) := by
  have hS := h.2.2.1
  have h1 := h.2.2.2.1
  have h2 := h.2.2.2.2.1
  exact ⟨ax_R_push h.1 hz ho he, h.2.1, ⟨by have := hS.1; omega, fun q g1 g2 => (ho q (Nat.lt_of_lt_of_le g1 hS.1)).trans (hS.2.1 q g1 g2), hS.2.2⟩, by simp [ax_nS]; omega, by simp [ax_nS]; omega, hc, hs⟩
def ax_new (kc n : Nat) (Z : Nat × Nat) (K : ax_K) : ax_K := fun ls st S C => S.2.2.1 + 1 ≤ Z.1 ∧ S.2.2.2 + n ≤ Z.2 ∧ K ls (ax_r (some S.2.2.1) :: st) (ax_nS S kc 0 n) (ax_nC C S.2.2.1)
theorem ax_tyk (ci j : Nat) : ax_ty ci j = .int ∨ ax_ty ci j = .boolean ∨ ax_ty ci j = .long ∨ (∃ n, ax_ty ci j = .object n) ∨ ∃ t, ax_ty ci j = .array t := by
  unfold ax_ty
  split <;> (first | unfold tyX0 | unfold tyX1 | unfold tyX2 | unfold tyX3 | unfold tyX4 | unfold tyX5 | unfold tyX6 | unfold tyX7 | unfold tyX8) <;> split <;> simp
theorem sx_new (X : ax_X D p s m args meth c own cc nL) {ci kc idx : Nat} {N : String} {T : u_T} {Z : Nat × Nat} (hZ : Z.1 ≤ s.heap.size + R.cells ∧ Z.2 ≤ sl0 + R.slots) (hF : ax_CF ci N T) (hkc : kc = ci + 1) (h1 : Cond.classLink own idx N ∈ ax_big) (h2 : Cond.instantiable N (ax_n ci) ∈ ax_big) (h3 : Cond.initialized N ∈ ax_big) (hd : decode cc pc = .ok (.new idx, 3)) (k2 : (∀ ls st S C, K ls st S C → ax_Z p l e R s m args below meth c D nL sl0 Q (pc + 3) ls st S C)) : (∀ ls st C, ax_new kc (ax_n ci) Z K ls st S C → ax_Z p l e R s m args below meth c D nL sl0 Q (pc) ls st S C) := fun ls st C hK H lsA locs cells slots h => by
  subst hkc
  obtain ⟨hz1, hz2, hK1⟩ := hK
  obtain ⟨hc, hin, hty, hnm, h9⟩ := hF
  have hts := X.2.2.2.2.1
  have hKn := X.2.2.2.2.2.2.1.1.1 ci _ hc
  have e1 := h.2.2.2.1
  have e2 := h.2.2.2.2.1
  refine W.newcK X.1 X.2.1 X.2.2.2.1 (hts _ h1) (hts _ h2) (hts _ h3) rfl hd (by omega) (by omega) hKn.2.1 rfl fun H1 kC hkC q1 q2 q3 => ?_
  have hsz : H.size = S.2.2.1 := h.1.1
  have h' := h.push (kd := ci + 1) (n := 0) (sl := ax_n ci) q2 q3 (by
    rw [ax_f_obj (by simp [ax_nS, va_up, hsz]) h9]
    refine ⟨_, hc, (u_born (ax_ty ci) hts hin hKn hkC q1 hty).to fun j hj => ?_⟩
    show defaultValue (ax_ty ci j) = vp_V (ax_fl ci (ax_nC C H.size) H.size) j
    have e3 : vp_V (ax_fl ci (ax_nC C H.size) H.size) j = ax_v ci (ax_nC C H.size) H.size j := by
      simp [vp_V, ax_fl_get hj]
    rw [e3]
    have key : ∀ ty : FieldType, (ty = .int ∨ ty = .boolean ∨ ty = .long ∨ (∃ n, ty = .object n) ∨ ∃ t, ty = .array t) → defaultValue ty = (if ax_fk ty = 0 then Value.int 0 else if ax_fk ty = 1 then .long 0 else .null) := by
      intro ty q
      rcases q with rfl | rfl | rfl | ⟨n, rfl⟩ | ⟨t, rfl⟩ <;> rfl
    rw [key _ (ax_tyk ci j)]
    simp only [ax_v, ax_nC, va_up_self, va_rf]) (by omega) (by omega)
  have k3 := k2 _ _ _ _ hK1
  rw [hsz] at h' ⊢
  exact k3 _ _ _ _ _ h'
def ax_sw3 (K0 K1 K2 Kd : ax_K) : ax_K := fun ls st S C => ax_pi st fun x t => (x = 0 → K0 ls t S C) ∧ (¬ x = 0 → (x = 1 → K1 ls t S C) ∧ (¬ x = 1 → (x = 2 → K2 ls t S C) ∧ (¬ x = 2 → Kd ls t S C)))
theorem sx_sw3 (X : ax_X D p s m args meth c own cc nL) {K0 Kd : ax_K} {df o0 o1 o2 : Int} {len t0 t1 t2 td : Nat} (hd : decode cc pc = .ok (.tableswitch df 0 2 #[o0, o1, o2], len)) (h0 : (pc : Int) + o0 = (t0 : Int)) (h1 : (pc : Int) + o1 = (t1 : Int)) (h2 : (pc : Int) + o2 = (t2 : Int)) (hf : (pc : Int) + df = (td : Int)) (k0 : (∀ ls st C, K0 ls st S C → ax_Z p l e R s m args below meth c D nL sl0 Q (t0) ls st S C)) (k1 : (∀ ls st C, K1 ls st S C → ax_Z p l e R s m args below meth c D nL sl0 Q (t1) ls st S C)) (k2 : (∀ ls st C, K2 ls st S C → ax_Z p l e R s m args below meth c D nL sl0 Q (t2) ls st S C)) (kd : (∀ ls st C, Kd ls st S C → ax_Z p l e R s m args below meth c D nL sl0 Q (td) ls st S C)) : (∀ ls st C, ax_sw3 K0 K1 K2 Kd ls st S C → ax_Z p l e R s m args below meth c D nL sl0 Q (pc) ls st S C) := fun ls st C hK H lsA locs cells slots h => by
  obtain ⟨x, st, rfl, hK1⟩ := ax_pi_e hK
  by_cases q0 : x = 0
  · subst q0
    exact lv_tableIn X.1 X.2.1 hd (by decide) (by decide) rfl h0 (k0 _ _ _ (hK1.1 rfl) _ _ _ _ _ h)
  · by_cases q1 : x = 1
    · subst q1
      exact lv_tableIn X.1 X.2.1 hd (by decide) (by decide) rfl h1 (k1 _ _ _ ((hK1.2 q0).1 rfl) _ _ _ _ _ h)
    · by_cases q2 : x = 2
      · subst q2
        exact lv_tableIn X.1 X.2.1 hd (by decide) (by decide) rfl h2 (k2 _ _ _ (((hK1.2 q0).2 q1).1 rfl) _ _ _ _ _ h)
      · have n0 := lv_neT q0 (a := 0) rfl
        have n1 := lv_neT q1 (a := 1) rfl
        have n2 := lv_neT q2 (a := 2) rfl
        exact lv_tableOut X.1 X.2.1 hd (by omega) hf (kd _ _ _ (((hK1.2 q0).2 q1).2 q2) _ _ _ _ _ h)
theorem ax_RA_name {cA : ClassId} {ty : FieldType} (h : va_RA s cA ty) : s.vm.findClass ("[" ++ ty.toString) = some cA := by
  cases ty with
  | object C => obtain ⟨_, _, -, -, -, q⟩ := h; exact q
  | _ => exact h
def ax_newa (kd : Nat) (Z : Nat × Nat) (K : ax_K) : ax_K := fun ls st S C => ax_pi st fun n t => ¬ n < 0 ∧ n.toNatClampNeg ≤ 100000 ∧ S.2.2.1 + 1 ≤ Z.1 ∧ S.2.2.2 + n.toNatClampNeg ≤ Z.2 ∧ K ls (ax_r (some S.2.2.1) :: t) (ax_nS S kd n.toNatClampNeg n.toNatClampNeg) (ax_nC C S.2.2.1)
theorem sx_newa (X : ax_X D p s m args meth c own cc nL) {t kd : Nat} {atype : ArrayType} {Z : Nat × Nat} (hZ : Z.1 ≤ s.heap.size + R.cells ∧ Z.2 ≤ sl0 + R.slots) (hkd : kd = t + 11) (ht : t < 3) (hat : newarray.typeOf atype = ax_aty t) (h1 : Cond.arrayClass (ax_aty t) ∈ ax_big) (hd : decode cc pc = .ok (.newarray atype, 2)) (k2 : (∀ ls st S C, K ls st S C → ax_Z p l e R s m args below meth c D nL sl0 Q (pc + 2) ls st S C)) : (∀ ls st C, ax_newa kd Z K ls st S C → ax_Z p l e R s m args below meth c D nL sl0 Q (pc) ls st S C) := fun ls st C hK H lsA locs cells slots h => by
  subst hkd
  obtain ⟨n, st, rfl, hn, hN, hz1, hz2, hK1⟩ := ax_pi_e hK
  have hts := X.2.2.2.2.1
  have e1 := h.2.2.2.1
  have e2 := h.2.2.2.2.1
  have hsz : H.size = S.2.2.1 := h.1.1
  have hb4 : componentBytes (ax_aty t) ≤ 8 := by
    match t, ht with
    | 0, _ => decide
    | 1, _ => decide
    | 2, _ => decide
  refine va_newaK X.1 X.2.1 (atype := atype) (by rw [hat]; exact hts _ h1) rfl hd rfl hn rfl (by rw [hat]; have := Nat.mul_le_mul hN hb4; omega) (by omega) (by omega) rfl fun H1 cA q1 q2 q3 q4 q5 => ?_
  have hcA : cA = D.2.2.1 t := by
    have := ax_RA_name (X.2.2.2.2.2.2.1.1.2 t _ (ax_tys_at (by omega))).2
    rw [hat] at q5
    exact Option.some.inj (q5.symm.trans this)
  have h' := h.push (kd := t + 11) (n := n.toNatClampNeg) (sl := n.toNatClampNeg) q2 q3 (by
    rw [ax_f_arr (t := t) (by simp [ax_nS, va_up, hsz]) ht]
    show H1[H.size]? = some (vp_cell _ _)
    rw [q1, vp_cell_i, hcA, hat]
    have e3 : defaultValue (ax_aty t) = .int 0 := by
      match t, ht with
      | 0, _ => rfl
      | 1, _ => rfl
      | 2, _ => rfl
    have e4 : (ax_nS S (t + 11) n.toNatClampNeg n.toNatClampNeg).2.1 H.size = n.toNatClampNeg := by simp [ax_nS, va_up, hsz]
    rw [e3, e4]
    simp [ax_nC, va_up]) (by omega) (by omega)
  have k3 := k2 _ _ _ _ hK1
  rw [hsz] at h' ⊢
  exact k3 _ _ _ _ _ h'
theorem sx_newq (X : ax_X D p s m args meth c own cc nL) {t kd idx : Nat} {N : String} {Z : Nat × Nat} (hZ : Z.1 ≤ s.heap.size + R.cells ∧ Z.2 ≤ sl0 + R.slots) (hkd : kd = t + 11) (ht : 3 ≤ t ∧ t < 5) (hat : ax_aty t = .object N) (hAO : ∀ U, ax_U D U → va_AO N U) (h1 : Cond.classLink own idx N ∈ ax_big) (hd : decode cc pc = .ok (.anewarray idx, 3)) (k2 : (∀ ls st S C, K ls st S C → ax_Z p l e R s m args below meth c D nL sl0 Q (pc + 3) ls st S C)) : (∀ ls st C, ax_newa kd Z K ls st S C → ax_Z p l e R s m args below meth c D nL sl0 Q (pc) ls st S C) := fun ls st C hK H lsA locs cells slots h => by
  subst hkd
  obtain ⟨n, st, rfl, hn, hN, hz1, hz2, hK1⟩ := ax_pi_e hK
  have hts := X.2.2.2.2.1
  have e1 := h.2.2.2.1
  have e2 := h.2.2.2.2.1
  have hsz : H.size = S.2.2.1 := h.1.1
  refine W.anew X.1 X.2.1 X.2.2.2.1 (hts _ h1) (va_AO.use (hAO _ X.2.2.2.2.2.2.1)) rfl hd rfl hn (by omega) (by omega) (by omega) fun cA kA comp f1 f2 f3 f4 => ?_
  have hcA : cA = D.2.2.1 t := by
    have := ax_RA_name (X.2.2.2.2.2.2.1.1.2 t _ (ax_tys_at (by omega))).2
    rw [hat] at this
    exact Option.some.inj (f1.symm.trans this)
  have h' := h.push (H' := H.push ({ cls := cA, slots := Array.replicate n.toNatClampNeg .null, vm := .none } : Cell)) (kd := t + 11) (n := n.toNatClampNeg) (sl := n.toNatClampNeg) (by simp) (fun q hq => by rw [Array.getElem?_push, if_neg (Nat.ne_of_lt hq)]) (by
    rw [ax_f_arq (t := t) (by simp [ax_nS, va_up, hsz]) ht.1]
    show (H.push _)[H.size]? = some (vp_cell _ _)
    have e4 : (ax_nS S (t + 11) n.toNatClampNeg n.toNatClampNeg).2.1 H.size = n.toNatClampNeg := by simp [ax_nS, va_up, hsz]
    rw [vp_cell_q, e4, Array.getElem?_push_size, ← hcA, arrV_new]
    simp [ax_nC, va_up, va_rf]) (by omega) (by omega)
  have k3 := k2 _ _ _ _ hK1
  rw [hsz] at h'
  show W p l e R s m args below meth c _ locs _ _ Q (F0 m (pc + 3) lsA (.ref H.size :: st.map ax_cv))
  rw [hsz]
  exact k3 _ _ _ _ _ h'
def ax_iret (P : Int32 → ax_C → Prop) : ax_K := fun _ st _ C => ax_pi st fun x t => ax_p0 t (P x C)
def ax_zret (P : Int32 → ax_C → Prop) : ax_K := fun _ st _ C => ax_pi st fun x t => ax_p0 t ((x = 0 ∨ x = 1) ∧ P x C)
def ax_lret (P : Int64 → ax_C → Prop) : ax_K := fun _ st _ C => ax_pl st fun x t => ax_p0 t (P x C)
def ax_aret (P : Option Nat → ax_C → Prop) : ax_K := fun _ st _ C => ax_pr st fun x t => ax_p0 t (P x C)
def ax_vret (P : ax_C → Prop) : ax_K := fun _ st _ C => ax_p0 st (P C)
def ax_nret (Z : Nat × Nat) (P : ax_S → ax_C → Prop) : ax_K := fun _ st S C => ax_p0 st (S.2.2.1 = Z.1 ∧ S.2.2.2 = Z.2 ∧ P S C)
/-- a literal 0 or 1 that is answered (by way of a join) -/
def ax_icz (v : Int32) (P : Int32 → ax_C → Prop) : ax_K := fun _ st _ C => ax_p0 st (P v C)
theorem sx_iret (X : ax_X D p s m args meth c own cc nL) {P : Int32 → ax_C → Prop} (hR : R.cells = 0 ∧ R.slots = 0) (hr : meth.sig.returnType = some .int) (hd : decode cc pc = .ok (.ireturn, 1)) : (∀ ls st C, ax_iret P ls st S C → ax_Z p l e R s m args below meth c D nL sl0 (MQ below (ax_Q D S 0 0 (fun r S' C' => ∃ x, r = some (ax_i x) ∧ S' = S ∧ P x C')) args s 0 0 (ax_A D)) (pc) ls st S C) := fun ls st C hK H lsA locs cells slots h => by
  obtain ⟨x, t, rfl, hK1⟩ := ax_pi_e hK
  obtain ⟨rfl, hK2⟩ := ax_p0_e hK1
  have hc : cells = 0 := by have := h.2.2.2.2.2; omega
  have hs : slots = 0 := by have := h.2.2.2.2.2; omega
  subst hc
  subst hs
  exact W.iret X.1 X.2.1 hr (fun t ht _ => ⟨⟨some (ax_i x), S, C, rfl, ⟨x, rfl, rfl, hK2⟩, by rw [ht]; exact h.1, rfl, rfl⟩, h.2.2.1.F ht⟩) h.2.2.1.2.2 hd X.2.2.2.2.2.1
theorem ax_zr (X : ax_X D p s m args meth c own cc nL) {P : Int32 → ax_C → Prop} (hR : R.cells = 0 ∧ R.slots = 0) (hr : meth.sig.returnType = some .boolean) (hd : decode cc pc = .ok (.ireturn, 1)) {x : Int32} (hx : x = 0 ∨ x = 1) : ∀ ls C, P x C → ax_Z p l e R s m args below meth c D nL sl0 (MQ below (ax_Q D S 0 0 (fun r S' C' => ∃ x, r = some (ax_i x) ∧ S' = S ∧ P x C')) args s 0 0 (ax_A D)) pc ls [ax_i x] S C := fun ls C hK2 H lsA locs cells slots h => by
  have hc : cells = 0 := by have := h.2.2.2.2.2; omega
  have hs : slots = 0 := by have := h.2.2.2.2.2; omega
  subst hc
  subst hs
  exact W.zret X.1 X.2.1 hr (by rcases hx with rfl | rfl <;> rfl) (fun t ht _ => ⟨⟨some (ax_i x), S, C, rfl, ⟨x, rfl, rfl, hK2⟩, by rw [ht]; exact h.1, rfl, rfl⟩, h.2.2.1.F ht⟩) h.2.2.1.2.2 hd X.2.2.2.2.2.1
theorem sx_zret (X : ax_X D p s m args meth c own cc nL) {P : Int32 → ax_C → Prop} (hR : R.cells = 0 ∧ R.slots = 0) (hr : meth.sig.returnType = some .boolean) (hd : decode cc pc = .ok (.ireturn, 1)) : (∀ ls st C, ax_zret P ls st S C → ax_Z p l e R s m args below meth c D nL sl0 (MQ below (ax_Q D S 0 0 (fun r S' C' => ∃ x, r = some (ax_i x) ∧ S' = S ∧ P x C')) args s 0 0 (ax_A D)) (pc) ls st S C) := fun ls st C hK => by
  obtain ⟨x, t, rfl, hK1⟩ := ax_pi_e hK
  obtain ⟨rfl, hx, hK2⟩ := ax_p0_e hK1
  exact ax_zr X hR hr hd hx ls C hK2
theorem sx_icz (X : ax_X D p s m args meth c own cc nL) {P : Int32 → ax_C → Prop} (hR : R.cells = 0 ∧ R.slots = 0) (hr : meth.sig.returnType = some .boolean) {n : Int} {v : Int32} (hv : Int32.ofInt n = v) (h01 : v = 0 ∨ v = 1) (hd0 : decode cc pc = .ok (.iconst n, 1)) (hd : decode cc (pc + 1) = .ok (.ireturn, 1)) : (∀ ls st C, ax_icz v P ls st S C → ax_Z p l e R s m args below meth c D nL sl0 (MQ below (ax_Q D S 0 0 (fun r S' C' => ∃ x, r = some (ax_i x) ∧ S' = S ∧ P x C')) args s 0 0 (ax_A D)) (pc) ls st S C) := fun ls st C hK => by
  obtain ⟨rfl, hK2⟩ := ax_p0_e hK
  exact fun H lsA locs cells slots h => lv_iconst X.1 X.2.1 hd0 hv (ax_zr X hR hr hd h01 ls C hK2 H lsA locs cells slots h)
theorem sx_iczg (X : ax_X D p s m args meth c own cc nL) {P : Int32 → ax_C → Prop} (hR : R.cells = 0 ∧ R.slots = 0) (hr : meth.sig.returnType = some .boolean) {n off : Int} {tgt : Nat} {v : Int32} (hv : Int32.ofInt n = v) (h01 : v = 0 ∨ v = 1) (hd0 : decode cc pc = .ok (.iconst n, 1)) (hd1 : decode cc (pc + 1) = .ok (.goto off, 3)) (ht : ((pc + 1 : Nat) : Int) + off = (tgt : Int)) (hd : decode cc tgt = .ok (.ireturn, 1)) : (∀ ls st C, ax_icz v P ls st S C → ax_Z p l e R s m args below meth c D nL sl0 (MQ below (ax_Q D S 0 0 (fun r S' C' => ∃ x, r = some (ax_i x) ∧ S' = S ∧ P x C')) args s 0 0 (ax_A D)) (pc) ls st S C) := fun ls st C hK => by
  obtain ⟨rfl, hK2⟩ := ax_p0_e hK
  exact fun H lsA locs cells slots h => lv_iconst X.1 X.2.1 hd0 hv (lv_goto X.1 X.2.1 hd1 ht (ax_zr X hR hr hd h01 ls C hK2 H lsA locs cells slots h))
theorem sx_lret (X : ax_X D p s m args meth c own cc nL) {P : Int64 → ax_C → Prop} (hR : R.cells = 0 ∧ R.slots = 0) (hr : meth.sig.returnType = some .long) (hd : decode cc pc = .ok (.lreturn, 1)) : (∀ ls st C, ax_lret P ls st S C → ax_Z p l e R s m args below meth c D nL sl0 (MQ below (ax_Q D S 0 0 (fun r S' C' => ∃ x, r = some (ax_l x) ∧ S' = S ∧ P x C')) args s 0 0 (ax_A D)) (pc) ls st S C) := fun ls st C hK H lsA locs cells slots h => by
  obtain ⟨x, t, rfl, hK1⟩ := ax_pl_e hK
  obtain ⟨rfl, hK2⟩ := ax_p0_e hK1
  have hc : cells = 0 := by have := h.2.2.2.2.2; omega
  have hs : slots = 0 := by have := h.2.2.2.2.2; omega
  subst hc
  subst hs
  exact W.lret X.1 X.2.1 hr (fun t ht _ => ⟨⟨some (ax_l x), S, C, rfl, ⟨x, rfl, rfl, hK2⟩, by rw [ht]; exact h.1, rfl, rfl⟩, h.2.2.1.F ht⟩) h.2.2.1.2.2 hd X.2.2.2.2.2.1
theorem sx_aret (X : ax_X D p s m args meth c own cc nL) {P : Option Nat → ax_C → Prop} (hR : R.cells = 0 ∧ R.slots = 0) {N : String} (hr : meth.sig.returnType = some (.object N)) (hd : decode cc pc = .ok (.areturn, 1)) : (∀ ls st C, ax_aret P ls st S C → ax_Z p l e R s m args below meth c D nL sl0 (MQ below (ax_Q D S 0 0 (fun r S' C' => ∃ x, r = some (ax_r x) ∧ S' = S ∧ P x C')) args s 0 0 (ax_A D)) (pc) ls st S C) := fun ls st C hK H lsA locs cells slots h => by
  obtain ⟨x, t, rfl, hK1⟩ := ax_pr_e hK
  obtain ⟨rfl, hK2⟩ := ax_p0_e hK1
  have hc : cells = 0 := by have := h.2.2.2.2.2; omega
  have hs : slots = 0 := by have := h.2.2.2.2.2; omega
  subst hc
  subst hs
  exact W.aret X.1 X.2.1 hr (Or.inl ⟨_, rfl⟩) (va_rf_or x) (fun t ht _ => ⟨⟨some (ax_r x), S, C, rfl, ⟨x, rfl, rfl, hK2⟩, by rw [ht]; exact h.1, rfl, rfl⟩, h.2.2.1.F ht⟩) h.2.2.1.2.2 hd X.2.2.2.2.2.1
theorem sx_vret (X : ax_X D p s m args meth c own cc nL) {P : ax_C → Prop} (hR : R.cells = 0 ∧ R.slots = 0) (hr : meth.sig.returnType = none) (hd : decode cc pc = .ok (.return_, 1)) : (∀ ls st C, ax_vret P ls st S C → ax_Z p l e R s m args below meth c D nL sl0 (MQ below (ax_Q D S 0 0 (fun r S' C' => r = none ∧ S' = S ∧ P C')) args s 0 0 (ax_A D)) (pc) ls st S C) := fun ls st C hK H lsA locs cells slots h => by
  obtain ⟨rfl, hK2⟩ := ax_p0_e hK
  have hc : cells = 0 := by have := h.2.2.2.2.2; omega
  have hs : slots = 0 := by have := h.2.2.2.2.2; omega
  subst hc
  subst hs
  exact W.vret X.1 X.2.1 hr (fun t ht _ => ⟨⟨none, S, C, rfl, ⟨rfl, rfl, hK2⟩, by rw [ht]; exact h.1, rfl, rfl⟩, h.2.2.1.F ht⟩) h.2.2.1.2.2 hd X.2.2.2.2.2.1
theorem sx_nret (X : ax_X D p s m args meth c own cc nL) {P : ax_S → ax_C → Prop} {S0 : ax_S} {mc ms : Nat} (hS0 : s.heap.size = S0.2.2.1 ∧ sl0 = S0.2.2.2) (hr : meth.sig.returnType = none) (hd : decode cc pc = .ok (.return_, 1)) : ∀ ls st C, ax_nret (S0.2.2.1 + mc, S0.2.2.2 + ms) P ls st S C → ax_Z p l e R s m args below meth c D nL sl0 (MQ below (ax_Q D S0 mc ms (fun r S' C' => r = none ∧ P S' C')) args s mc ms (ax_A D)) pc ls st S C := fun ls st C hK H lsA locs cells slots h => by
  obtain ⟨rfl, hz1, hz2, hK2⟩ := ax_p0_e hK
  have hc : cells = mc := by have := h.2.2.2.1; simp at hz1; omega
  have hs : slots = ms := by have := h.2.2.2.2.1; simp at hz2; omega
  subst hc
  subst hs
  exact W.vret X.1 X.2.1 hr (fun t ht _ => ⟨⟨none, S, C, rfl, ⟨rfl, hK2⟩, by rw [ht]; exact h.1, hz1, hz2⟩, h.2.2.1.F ht⟩) h.2.2.1.2.2 hd X.2.2.2.2.2.1
end AXC
def ax_unset : Nat → ax_L → ax_L
  | _, [] => []
  | 0, _ :: t => none :: t
  | n + 1, x :: t => x :: ax_unset n t
theorem ax_unset_get : ∀ (i : Nat) (ls : ax_L) (j : Nat) (v : ax_T), ax_get (ax_unset i ls) j = some v → ax_get ls j = some v
  | _, [], _, _, h => by simp [ax_unset, ax_get] at h
  | 0, _ :: _, 0, _, h => by simp [ax_unset, ax_get] at h
  | 0, _ :: _, _ + 1, _, h => by simpa [ax_unset, ax_get] using h
  | _ + 1, _ :: _, 0, _, h => by simpa [ax_unset, ax_get] using h
  | n + 1, _ :: t, j + 1, v, h => by
    have := ax_unset_get n t j v (by simpa [ax_unset, ax_get] using h)
    simpa [ax_get] using this
def ax_drp : List Nat → ax_L → ax_L
  | [], ls => ls
  | i :: is, ls => ax_drp is (ax_unset i ls)
theorem ax_has_drp {lsA : Array Slot} {nL : Nat} : ∀ (ds : List Nat) (ls : ax_L), ax_has lsA nL ls → ax_has lsA nL (ax_drp ds ls)
  | [], _, h => h
  | i :: is, ls, h => ax_has_drp is _ ⟨h.1, h.2.1, fun j v hj => h.2.2 j v (ax_unset_get i ls j v hj)⟩
/-- a jump to a place where less is known -/
def ax_jmp (ds : List Nat) (K : ax_K) : ax_K := fun ls st S C => K (ax_drp ds ls) st S C
theorem sx_jmp {p : Program} {l : Launch} {e : Env} {R : Room} {s : State} {m : MethodId} {args : Array Value} {below : List Frame} {meth : Method} {c : Code} {D : ax_D} {nL sl0 : Nat} {Q : State → Prop} {pc : Nat} {S : ax_S} (ds : List Nat) : ∀ ls st C, ax_jmp ds (ax_Z p l e R s m args below meth c D nL sl0 Q pc) ls st S C → ax_Z p l e R s m args below meth c D nL sl0 Q pc ls st S C := fun ls st C hK H lsA locs cells slots h => hK H lsA locs cells slots ⟨h.1, ax_has_drp ds ls h.2.1, h.2.2⟩
/-- a method's places -/
abbrev ax_E (l : Launch) (D : ax_D) (M : ax_M) (S : ax_S) (Post : ax_P) (p : Program) (e : Env) (s : State) (m : MethodId) (args : Array Value) (below : List Frame) (meth : Method) (c : Code) (pc : Nat) : ax_K := ax_Z p l e (ax_rm M) s m args below meth c D M.2.2.1 S.2.2.2 (MQ below (ax_Q D S (ax_cs M) (ax_sl M) Post) args s (ax_cs M) (ax_sl M) (ax_A D)) pc
/-! a method's entry -/
def ax_en : List ax_T → Nat → ax_L
  | [], n => List.replicate n none
  | .inl x :: t, n => some (.inl x) :: ax_en t (n - 1)
  | .inr (.inl x) :: t, n => some (.inr (.inl x)) :: none :: ax_en t (n - 2)
  | .inr (.inr x) :: t, n => some (.inr (.inr x)) :: ax_en t (n - 1)
theorem ax_get_rep : ∀ (n i : Nat), ax_get (List.replicate n none) i = none
  | 0, _ => rfl
  | _ + 1, 0 => rfl
  | n + 1, i + 1 => by simp only [List.replicate_succ, ax_get]; exact ax_get_rep n i
theorem ax_en_get : ∀ (av : List ax_T) (n i k : Nat) (v : ax_T), ax_get (ax_en av n) i = some v → (k + i, ax_cv v) ∈ lv_args k (av.map ax_cv)
  | [], n, i, k, v, h => by rw [ax_en, ax_get_rep] at h; cases h
  | .inl x :: t, n, 0, k, v, h => by
    simp [ax_en, ax_get] at h; subst h
    simp [lv_args, ax_cv]
  | .inl x :: t, n, i + 1, k, v, h => by
    have := ax_en_get t (n - 1) i (k + 1) v (by simpa [ax_en, ax_get] using h)
    have e : (ax_cv (.inl x)).category ≠ 2 := by simp [ax_cv, Value.category]
    simp only [List.map_cons, lv_args, if_neg e]
    rw [show k + (i + 1) = k + 1 + i by omega]
    exact List.mem_cons_of_mem _ this
  | .inr (.inl x) :: t, n, 0, k, v, h => by
    simp [ax_en, ax_get] at h; subst h
    simp [lv_args, ax_cv]
  | .inr (.inl x) :: t, n, 1, k, v, h => by
    simp [ax_en, ax_get] at h
  | .inr (.inl x) :: t, n, i + 2, k, v, h => by
    have := ax_en_get t (n - 2) i (k + 2) v (by simpa [ax_en, ax_get] using h)
    have e : (ax_cv (.inr (.inl x))).category = 2 := by simp [ax_cv, Value.category]
    simp only [List.map_cons, lv_args, if_pos e]
    rw [show k + (i + 2) = k + 2 + i by omega]
    exact List.mem_cons_of_mem _ this
  | .inr (.inr x) :: t, n, 0, k, v, h => by
    simp [ax_en, ax_get] at h; subst h
    simp [lv_args, ax_cv]
  | .inr (.inr x) :: t, n, i + 1, k, v, h => by
    have := ax_en_get t (n - 1) i (k + 1) v (by simpa [ax_en, ax_get] using h)
    have e : (ax_cv (.inr (.inr x))).category ≠ 2 := by cases x <;> simp [ax_cv, va_rf, Value.category]
    simp only [List.map_cons, lv_args, if_neg e]
    rw [show k + (i + 1) = k + 1 + i by omega]
    exact List.mem_cons_of_mem _ this
theorem ax_sl_len : ∀ av : List ax_T, (lg_sl (av.map ax_cv)).length = ax_rs av
  | [] => rfl
  | .inl x :: t => by simp [lg_sl, ax_rs, ax_cv, Value.category, ← ax_sl_len t]; omega
  | .inr (.inl x) :: t => by simp [lg_sl, ax_rs, ax_cv, Value.category, ← ax_sl_len t]; omega
  | .inr (.inr none) :: t => by simp [lg_sl, ax_rs, ax_cv, va_rf, Value.category, ← ax_sl_len t]; omega
  | .inr (.inr (some x)) :: t => by simp [lg_sl, ax_rs, ax_cv, va_rf, Value.category, ← ax_sl_len t]; omega
set_option maxHeartbeats 2000000 in
theorem ax_meth {l : Launch} {D : ax_D} {M : ax_M} {av : List ax_T} {S : ax_S} {C : ax_C} {Post : ax_P} (hpl : plainName M.1.cls = true) (hav : ax_rs av ≤ M.2.2.1) (hrecv : M.2.2.2.2.2 ≠ 0 → ∃ b t, av = ax_r (some b) :: t ∧ S.1 b = M.2.2.2.2.2)
    (body : ∀ (p : Program) (e : Env) (s : State) (m : MethodId) (args : Array Value) (below : List Frame) (meth : Method) (c : Code), ax_X D p s m args meth c M.1.cls M.2.1 M.2.2.1 → meth.sig.returnType = M.2.2.2.1 → meth.name = M.1.name → s.heap.size = S.2.2.1 → ax_Z p l e (ax_rm M) s m args below meth c D M.2.2.1 S.2.2.2 (MQ below (ax_Q D S (ax_cs M) (ax_sl M) Post) args s (ax_cs M) (ax_sl M) (ax_A D)) 0 (ax_en av M.2.2.1) [] S C) : ax_Call l D M av S C Post := by
  refine ⟨hrecv, ?_⟩
  refine Met.ofW (cc := M.2.1) (maxL := M.2.2.1) (ret := M.2.2.2.1) hpl rfl ?_
  intro p e s m args below meth c s₁ B hml hv
  obtain ⟨rfl, hR, hU⟩ := hv
  have hts := atoms_spec (ws := Cond.code M.1 M.2.1 M.2.2.1 M.2.2.2.1 :: ax_big) B.pre
  have hown : s.vm.findClass M.1.cls = some m.cls := findClass_of_methodNamed B.named
  have hin : meth.name = M.1.name := (name_of_methodNamed B.named B.method).1
  have hX : ax_X D p s m (av.map ax_cv).toArray meth c M.1.cls M.2.1 M.2.2.1 := ⟨B.exec, B.bytes, hml, hown, fun w hw => hts w (List.mem_cons_of_mem _ hw), B.notSynchronized, hU, by have := hR.1; have := hR.2.1; omega⟩
  have hl := lv_entry (av.map ax_cv) (n := M.2.2.1) (by rw [ax_sl_len]; exact hav)
  rw [lg_entry_eq]
  generalize (lg_sl (av.map ax_cv) ++ List.replicate (M.2.2.1 - (lg_sl (av.map ax_cv)).length) Slot.unset).toArray = lsA at hl ⊢
  exact body p e s m _ below meth c hX B.returns hin hR.1 s.heap lsA [] 0 0 ⟨hR, ⟨hl.1, hl.2.1, fun i v hv => hl.2.2 _ (by simpa using ax_en_get av M.2.2.1 i 0 v hv)⟩, va_S.rf, by have := hR.1; omega, by omega, Nat.zero_le _, Nat.zero_le _⟩
