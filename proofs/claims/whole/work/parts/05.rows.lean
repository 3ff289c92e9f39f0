/-! ===== steps as transformers of predicates; each is sound ===== -/
def ax_pi (st : List ax_T) (F : Int32 → List ax_T → Prop) : Prop := match st with
  | .inl x :: t => F x t
  | _ => False
def ax_pl (st : List ax_T) (F : Int64 → List ax_T → Prop) : Prop := match st with
  | .inr (.inl x) :: t => F x t
  | _ => False
def ax_pr (st : List ax_T) (F : Option Nat → List ax_T → Prop) : Prop := match st with
  | .inr (.inr x) :: t => F x t
  | _ => False
def ax_p0 (st : List ax_T) (F : Prop) : Prop := match st with
  | [] => F
  | _ => False
def ax_sm (o : Option Nat) (F : Nat → Prop) : Prop := match o with
  | some a => F a
  | none => False
def ax_li (x : Option ax_T) (F : Int32 → Prop) : Prop := match x with
  | some (.inl x) => F x
  | _ => False
def ax_ll (x : Option ax_T) (F : Int64 → Prop) : Prop := match x with
  | some (.inr (.inl x)) => F x
  | _ => False
def ax_lr (x : Option ax_T) (F : Option Nat → Prop) : Prop := match x with
  | some (.inr (.inr x)) => F x
  | _ => False
theorem ax_pi_e {st : List ax_T} {F : Int32 → List ax_T → Prop} (h : ax_pi st F) : ∃ x t, st = .inl x :: t ∧ F x t := by
  unfold ax_pi at h; split at h
  · exact ⟨_, _, rfl, h⟩
  · exact h.elim
theorem ax_pl_e {st : List ax_T} {F : Int64 → List ax_T → Prop} (h : ax_pl st F) : ∃ x t, st = .inr (.inl x) :: t ∧ F x t := by
  unfold ax_pl at h; split at h
  · exact ⟨_, _, rfl, h⟩
  · exact h.elim
theorem ax_pr_e {st : List ax_T} {F : Option Nat → List ax_T → Prop} (h : ax_pr st F) : ∃ x t, st = .inr (.inr x) :: t ∧ F x t := by
  unfold ax_pr at h; split at h
  · exact ⟨_, _, rfl, h⟩
  · exact h.elim
theorem ax_p0_e {st : List ax_T} {F : Prop} (h : ax_p0 st F) : st = [] ∧ F := by
  unfold ax_p0 at h; split at h
  · exact ⟨rfl, h⟩
  · exact h.elim
theorem ax_sm_e {o : Option Nat} {F : Nat → Prop} (h : ax_sm o F) : ∃ a, o = some a ∧ F a := by
  unfold ax_sm at h; split at h
  · exact ⟨_, rfl, h⟩
  · exact h.elim
theorem ax_li_e {o : Option ax_T} {F : Int32 → Prop} (h : ax_li o F) : ∃ x, o = some (.inl x) ∧ F x := by
  unfold ax_li at h; split at h
  · exact ⟨_, rfl, h⟩
  · exact h.elim
theorem ax_ll_e {o : Option ax_T} {F : Int64 → Prop} (h : ax_ll o F) : ∃ x, o = some (.inr (.inl x)) ∧ F x := by
  unfold ax_ll at h; split at h
  · exact ⟨_, rfl, h⟩
  · exact h.elim
theorem ax_lr_e {o : Option ax_T} {F : Option Nat → Prop} (h : ax_lr o F) : ∃ x, o = some (.inr (.inr x)) ∧ F x := by
  unfold ax_lr at h; split at h
  · exact ⟨_, rfl, h⟩
  · exact h.elim
theorem ax_sm_s {a : Nat} {F : Nat → Prop} : ax_sm (some a) F = F a := rfl
/-- what the machine has in common with the abstract state -/
def ax_H (D : ax_D) (s : State) (R : Room) (nL sl0 : Nat) (ls : ax_L) (S : ax_S) (C : ax_C) (H : Heap) (lsA : Array Slot) (locs : List Loc) (cells slots : Nat) : Prop :=
  ax_R D S C H ∧ ax_has lsA nL ls ∧ va_S (ax_A D) s.heap H locs ∧ cells + s.heap.size = S.2.2.1 ∧ slots + sl0 = S.2.2.2 ∧ cells ≤ R.cells ∧ slots ≤ R.slots
/-- the machine's fixed part -/
def ax_X (D : ax_D) (p : Program) (s : State) (m : MethodId) (args : Array Value) (meth : Method) (c : Code) (own : String) (cc : ByteArray) (nL : Nat) : Prop :=
  p.tables.exec = Jvm.exec ∧ c.code = cc ∧ c.maxLocals = nL ∧ s.vm.findClass own = some m.cls ∧ (∀ w ∈ ax_big, w.before args s = true) ∧ meth.locks = false ∧ ax_U D s ∧ D.2.2.2.1 ≤ s.heap.size
/-- from here the machine comes to an end that Q tells -/
def ax_Z (p : Program) (l : Launch) (e : Env) (R : Room) (s : State) (m : MethodId) (args : Array Value) (below : List Frame) (meth : Method) (c : Code) (D : ax_D) (nL sl0 : Nat) (Q : State → Prop) (pc : Nat) : ax_K := fun ls st S C =>
  ∀ (H : Heap) (lsA : Array Slot) (locs : List Loc) (cells slots : Nat), ax_H D s R nL sl0 ls S C H lsA locs cells slots → W p l e R s m args below meth c H locs cells slots Q (F0 m pc lsA (st.map ax_cv))
section AXR
variable {p : Program} {l : Launch} {e : Env} {R : Room} {s : State} {m : MethodId} {args : Array Value} {below : List Frame} {meth : Method} {c : Code} {D : ax_D} {nL sl0 : Nat} {Q : State → Prop} {own : String} {cc : ByteArray} {pc : Nat} {S : ax_S} {K K1 K2 : ax_K}
def ax_ic (v : Int32) (K : ax_K) : ax_K := fun ls st S C => K ls (ax_i v :: st) S C
theorem sx_iconst (X : ax_X D p s m args meth c own cc nL) {v : Int32} {n : Int} (hd : decode cc pc = .ok (.iconst n, 1)) (hv : Int32.ofInt n = v) (k : (∀ ls st C, K ls st S C → ax_Z p l e R s m args below meth c D nL sl0 Q (pc + 1) ls st S C)) : (∀ ls st C, ax_ic v K ls st S C → ax_Z p l e R s m args below meth c D nL sl0 Q (pc) ls st S C) := fun ls st C hK H lsA locs cells slots h => lv_iconst X.1 X.2.1 hd hv (k _ _ _ hK _ _ _ _ _ h)
theorem sx_bipush (X : ax_X D p s m args meth c own cc nL) {v : Int32} {n : Int} (hd : decode cc pc = .ok (.bipush n, 2)) (hv : (Int8.ofInt n).toInt32 = v) (k : (∀ ls st C, K ls st S C → ax_Z p l e R s m args below meth c D nL sl0 Q (pc + 2) ls st S C)) : (∀ ls st C, ax_ic v K ls st S C → ax_Z p l e R s m args below meth c D nL sl0 Q (pc) ls st S C) := fun ls st C hK H lsA locs cells slots h => lv_bipush X.1 X.2.1 hd hv (k _ _ _ hK _ _ _ _ _ h)
theorem sx_sipush (X : ax_X D p s m args meth c own cc nL) {v : Int32} {n : Int} (hd : decode cc pc = .ok (.sipush n, 3)) (hv : (Int16.ofInt n).toInt32 = v) (k : (∀ ls st C, K ls st S C → ax_Z p l e R s m args below meth c D nL sl0 Q (pc + 3) ls st S C)) : (∀ ls st C, ax_ic v K ls st S C → ax_Z p l e R s m args below meth c D nL sl0 Q (pc) ls st S C) := fun ls st C hK H lsA locs cells slots h => lv_sipush X.1 X.2.1 hd hv (k _ _ _ hK _ _ _ _ _ h)
theorem sx_ldc (X : ax_X D p s m args meth c own cc nL) {v : Int32} {n : Nat} (hd : decode cc pc = .ok (.ldc n, 2)) (hv : Jvm.Cond.constant own n v ∈ ax_big) (k : (∀ ls st C, K ls st S C → ax_Z p l e R s m args below meth c D nL sl0 Q (pc + 2) ls st S C)) : (∀ ls st C, ax_ic v K ls st S C → ax_Z p l e R s m args below meth c D nL sl0 Q (pc) ls st S C) := fun ls st C hK H lsA locs cells slots h => lv_ldc X.1 X.2.1 X.2.2.2.1 (X.2.2.2.2.1 _ hv) hd (k _ _ _ hK _ _ _ _ _ h)
def ax_lc (v : Int64) (K : ax_K) : ax_K := fun ls st S C => K ls (ax_l v :: st) S C
theorem sx_ldc2 (X : ax_X D p s m args meth c own cc nL) {v : Int64} {n : Nat} (hd : decode cc pc = .ok (.ldc2_w n, 3)) (hv : Jvm.Cond.constantLong own n v ∈ ax_big) (k : (∀ ls st C, K ls st S C → ax_Z p l e R s m args below meth c D nL sl0 Q (pc + 3) ls st S C)) : (∀ ls st C, ax_lc v K ls st S C → ax_Z p l e R s m args below meth c D nL sl0 Q (pc) ls st S C) := fun ls st C hK H lsA locs cells slots h => lv_ldc2 X.1 X.2.1 X.2.2.2.1 (X.2.2.2.2.1 _ hv) hd (k _ _ _ hK _ _ _ _ _ h)
theorem sx_lconst (X : ax_X D p s m args meth c own cc nL) {v : Int64} {n : Fin 2} (hd : decode cc pc = .ok (.lconst n, 1)) (hv : Int64.ofNat (n : Nat) = v) (k : (∀ ls st C, K ls st S C → ax_Z p l e R s m args below meth c D nL sl0 Q (pc + 1) ls st S C)) : (∀ ls st C, ax_lc v K ls st S C → ax_Z p l e R s m args below meth c D nL sl0 Q (pc) ls st S C) := fun ls st C hK H lsA locs cells slots h => lv_lconst X.1 X.2.1 hd hv (k _ _ _ hK _ _ _ _ _ h)
def ax_null (K : ax_K) : ax_K := fun ls st S C => K ls (ax_r none :: st) S C
theorem sx_null (X : ax_X D p s m args meth c own cc nL) (hd : decode cc pc = .ok (.aconst_null, 1)) (k : (∀ ls st C, K ls st S C → ax_Z p l e R s m args below meth c D nL sl0 Q (pc + 1) ls st S C)) : (∀ ls st C, ax_null K ls st S C → ax_Z p l e R s m args below meth c D nL sl0 Q (pc) ls st S C) := fun ls st C hK H lsA locs cells slots h => lv_null X.1 X.2.1 hd (k _ _ _ hK _ _ _ _ _ h)
def ax_ild (n : Nat) (K : ax_K) : ax_K := fun ls st S C => ax_li (ax_get ls n) fun x => K ls (ax_i x :: st) S C
def ax_lld (n : Nat) (K : ax_K) : ax_K := fun ls st S C => ax_ll (ax_get ls n) fun x => K ls (ax_l x :: st) S C
def ax_ald (n : Nat) (K : ax_K) : ax_K := fun ls st S C => ax_lr (ax_get ls n) fun x => K ls (ax_r x :: st) S C
theorem sx_iload (X : ax_X D p s m args meth c own cc nL) {n : Nat} (hd : decode cc pc = .ok (.iload n, 2)) (k : (∀ ls st C, K ls st S C → ax_Z p l e R s m args below meth c D nL sl0 Q (pc + 2) ls st S C)) : (∀ ls st C, ax_ild n K ls st S C → ax_Z p l e R s m args below meth c D nL sl0 Q (pc) ls st S C) := fun ls st C hK H lsA locs cells slots h => by
  obtain ⟨x, e1, hK⟩ := ax_li_e hK
  exact lv_iload X.1 X.2.1 hd (h.2.1.2.2 _ _ e1) (k _ _ _ hK _ _ _ _ _ h)
theorem sx_iload_n (X : ax_X D p s m args meth c own cc nL) {n : Nat} {q : Fin 4} (hd : decode cc pc = .ok (.iload_n q, 1)) (hq : (q : Nat) = n) (k : (∀ ls st C, K ls st S C → ax_Z p l e R s m args below meth c D nL sl0 Q (pc + 1) ls st S C)) : (∀ ls st C, ax_ild n K ls st S C → ax_Z p l e R s m args below meth c D nL sl0 Q (pc) ls st S C) := fun ls st C hK H lsA locs cells slots h => by
  obtain ⟨x, e1, hK⟩ := ax_li_e hK
  exact lv_iload_n X.1 X.2.1 hd hq (h.2.1.2.2 _ _ e1) (k _ _ _ hK _ _ _ _ _ h)
theorem sx_lload (X : ax_X D p s m args meth c own cc nL) {n : Nat} (hd : decode cc pc = .ok (.lload n, 2)) (k : (∀ ls st C, K ls st S C → ax_Z p l e R s m args below meth c D nL sl0 Q (pc + 2) ls st S C)) : (∀ ls st C, ax_lld n K ls st S C → ax_Z p l e R s m args below meth c D nL sl0 Q (pc) ls st S C) := fun ls st C hK H lsA locs cells slots h => by
  obtain ⟨x, e1, hK⟩ := ax_ll_e hK
  exact lv_lload X.1 X.2.1 hd (h.2.1.2.2 _ _ e1) (k _ _ _ hK _ _ _ _ _ h)
theorem sx_lload_n (X : ax_X D p s m args meth c own cc nL) {n : Nat} {q : Fin 4} (hd : decode cc pc = .ok (.lload_n q, 1)) (hq : (q : Nat) = n) (k : (∀ ls st C, K ls st S C → ax_Z p l e R s m args below meth c D nL sl0 Q (pc + 1) ls st S C)) : (∀ ls st C, ax_lld n K ls st S C → ax_Z p l e R s m args below meth c D nL sl0 Q (pc) ls st S C) := fun ls st C hK H lsA locs cells slots h => by
  obtain ⟨x, e1, hK⟩ := ax_ll_e hK
  exact lv_lload_n X.1 X.2.1 hd hq (h.2.1.2.2 _ _ e1) (k _ _ _ hK _ _ _ _ _ h)
theorem sx_aload (X : ax_X D p s m args meth c own cc nL) {n : Nat} (hd : decode cc pc = .ok (.aload n, 2)) (k : (∀ ls st C, K ls st S C → ax_Z p l e R s m args below meth c D nL sl0 Q (pc + 2) ls st S C)) : (∀ ls st C, ax_ald n K ls st S C → ax_Z p l e R s m args below meth c D nL sl0 Q (pc) ls st S C) := fun ls st C hK H lsA locs cells slots h => by
  obtain ⟨x, e1, hK⟩ := ax_lr_e hK
  have e2 := h.2.1.2.2 _ _ e1
  have k2 := k _ _ _ hK _ _ _ _ _ h
  cases x with
  | none => exact lv_aloadN X.1 X.2.1 hd e2 k2
  | some x => exact lv_aload X.1 X.2.1 hd e2 k2
theorem sx_aload_n (X : ax_X D p s m args meth c own cc nL) {n : Nat} {q : Fin 4} (hd : decode cc pc = .ok (.aload_n q, 1)) (hq : (q : Nat) = n) (k : (∀ ls st C, K ls st S C → ax_Z p l e R s m args below meth c D nL sl0 Q (pc + 1) ls st S C)) : (∀ ls st C, ax_ald n K ls st S C → ax_Z p l e R s m args below meth c D nL sl0 Q (pc) ls st S C) := fun ls st C hK H lsA locs cells slots h => by
  obtain ⟨x, e1, hK⟩ := ax_lr_e hK
  have e2 := h.2.1.2.2 _ _ e1
  have k2 := k _ _ _ hK _ _ _ _ _ h
  cases x with
  | none => exact lv_aload_nN X.1 X.2.1 hd hq e2 k2
  | some x => exact lv_aload_n X.1 X.2.1 hd hq e2 k2
theorem ax_H.loc {ls ls2 : ax_L} {S : ax_S} {C : ax_C} {H : Heap} {lsA lsA2 : Array Slot} {locs : List Loc} {cells slots : Nat} (h : ax_H D s R nL sl0 ls S C H lsA locs cells slots) (h2 : ax_has lsA2 nL ls2) : ax_H D s R nL sl0 ls2 S C H lsA2 locs cells slots := ⟨h.1, h2, h.2.2⟩
theorem ax_W1 {g g2 : JFrame} {H : Heap} {locs : List Loc} {cells slots : Nat} (hst : ∀ T, At T m c below → ∀ tg, Steps p.tables e below (T.setTop g2) tg → Steps p.tables e below (T.setTop g) tg) (k : W p l e R s m args below meth c H locs cells slots Q g2) : W p l e R s m args below meth c H locs cells slots Q g := W.go hst k
def ax_ist (n : Nat) (K : ax_K) : ax_K := fun ls st S C => ax_pi st fun x t => K (ax_st1 ls n (ax_i x)) t S C
theorem sx_istore_n (X : ax_X D p s m args meth c own cc nL) {n : Nat} {q : Fin 4} (hd : decode cc pc = .ok (.istore_n q, 1)) (hq : (q : Nat) = n) (hn : n < nL) (k : (∀ ls st C, K ls st S C → ax_Z p l e R s m args below meth c D nL sl0 Q (pc + 1) ls st S C)) : (∀ ls st C, ax_ist n K ls st S C → ax_Z p l e R s m args below meth c D nL sl0 Q (pc) ls st S C) := fun ls st C hK H lsA locs cells slots h => by
  subst hq
  obtain ⟨x, st, rfl, hK1⟩ := ax_pi_e hK
  obtain ⟨ls', e', h'⟩ := ax_has_st1 (v := ax_i x) h.2.1 hn rfl
  have e' : storeLocals lsA (q : Nat) (.int x) = some ls' := e'
  have k2 := k _ _ _ hK1 _ _ _ _ _ (h.loc h')
  intro T hT X0
  obtain ⟨t, a, b⟩ := k2 T hT X0
  refine ⟨t, ?_, b⟩
  have hexec := X.1
  have hb := X.2.1
  show Steps p.tables e below (T.setTop (F0 m pc lsA (.int x :: st.map ax_cv))) t
  jvm_step X0.here [X0.here.top, ↓top_set X0.here.top, hexec, hb, hd, e']
  exact a
theorem sx_istore (X : ax_X D p s m args meth c own cc nL) {n : Nat} (hd : decode cc pc = .ok (.istore n, 2)) (hn : n < nL) (k : (∀ ls st C, K ls st S C → ax_Z p l e R s m args below meth c D nL sl0 Q (pc + 2) ls st S C)) : (∀ ls st C, ax_ist n K ls st S C → ax_Z p l e R s m args below meth c D nL sl0 Q (pc) ls st S C) := fun ls st C hK H lsA locs cells slots h => by
  obtain ⟨x, st, rfl, hK1⟩ := ax_pi_e hK
  obtain ⟨ls', e', h'⟩ := ax_has_st1 (v := ax_i x) h.2.1 hn rfl
  have e' : storeLocals lsA n (.int x) = some ls' := e'
  have k2 := k _ _ _ hK1 _ _ _ _ _ (h.loc h')
  intro T hT X0
  obtain ⟨t, a, b⟩ := k2 T hT X0
  refine ⟨t, ?_, b⟩
  have hexec := X.1
  have hb := X.2.1
  show Steps p.tables e below (T.setTop (F0 m pc lsA (.int x :: st.map ax_cv))) t
  jvm_step X0.here [X0.here.top, ↓top_set X0.here.top, hexec, hb, hd, e']
  exact a
def ax_lst (n : Nat) (K : ax_K) : ax_K := fun ls st S C => ax_pl st fun x t => K (ax_st2 ls n (ax_l x)) t S C
theorem sx_lstore_n (X : ax_X D p s m args meth c own cc nL) {n : Nat} {q : Fin 4} (hd : decode cc pc = .ok (.lstore_n q, 1)) (hq : (q : Nat) = n) (hn : n + 1 < nL) (k : (∀ ls st C, K ls st S C → ax_Z p l e R s m args below meth c D nL sl0 Q (pc + 1) ls st S C)) : (∀ ls st C, ax_lst n K ls st S C → ax_Z p l e R s m args below meth c D nL sl0 Q (pc) ls st S C) := fun ls st C hK H lsA locs cells slots h => by
  subst hq
  obtain ⟨x, st, rfl, hK1⟩ := ax_pl_e hK
  obtain ⟨ls', e', h'⟩ := ax_has_st2 (v := ax_l x) h.2.1 hn rfl
  have e' : storeLocals lsA (q : Nat) (.long x) = some ls' := e'
  have k2 := k _ _ _ hK1 _ _ _ _ _ (h.loc h')
  intro T hT X0
  obtain ⟨t, a, b⟩ := k2 T hT X0
  refine ⟨t, ?_, b⟩
  have hexec := X.1
  have hb := X.2.1
  show Steps p.tables e below (T.setTop (F0 m pc lsA (.long x :: st.map ax_cv))) t
  jvm_step X0.here [X0.here.top, ↓top_set X0.here.top, hexec, hb, hd, e']
  exact a
theorem sx_lstore (X : ax_X D p s m args meth c own cc nL) {n : Nat} (hd : decode cc pc = .ok (.lstore n, 2)) (hn : n + 1 < nL) (k : (∀ ls st C, K ls st S C → ax_Z p l e R s m args below meth c D nL sl0 Q (pc + 2) ls st S C)) : (∀ ls st C, ax_lst n K ls st S C → ax_Z p l e R s m args below meth c D nL sl0 Q (pc) ls st S C) := fun ls st C hK H lsA locs cells slots h => by
  obtain ⟨x, st, rfl, hK1⟩ := ax_pl_e hK
  obtain ⟨ls', e', h'⟩ := ax_has_st2 (v := ax_l x) h.2.1 hn rfl
  have e' : storeLocals lsA n (.long x) = some ls' := e'
  have k2 := k _ _ _ hK1 _ _ _ _ _ (h.loc h')
  intro T hT X0
  obtain ⟨t, a, b⟩ := k2 T hT X0
  refine ⟨t, ?_, b⟩
  have hexec := X.1
  have hb := X.2.1
  show Steps p.tables e below (T.setTop (F0 m pc lsA (.long x :: st.map ax_cv))) t
  jvm_step X0.here [X0.here.top, ↓top_set X0.here.top, hexec, hb, hd, e']
  exact a
def ax_ast (n : Nat) (K : ax_K) : ax_K := fun ls st S C => ax_pr st fun x t => K (ax_st1 ls n (ax_r x)) t S C
theorem sx_astore_n (X : ax_X D p s m args meth c own cc nL) {n : Nat} {q : Fin 4} (hd : decode cc pc = .ok (.astore_n q, 1)) (hq : (q : Nat) = n) (hn : n < nL) (k : (∀ ls st C, K ls st S C → ax_Z p l e R s m args below meth c D nL sl0 Q (pc + 1) ls st S C)) : (∀ ls st C, ax_ast n K ls st S C → ax_Z p l e R s m args below meth c D nL sl0 Q (pc) ls st S C) := fun ls st C hK H lsA locs cells slots h => by
  subst hq
  obtain ⟨x, st, rfl, hK1⟩ := ax_pr_e hK
  cases x with
  | none =>
    obtain ⟨ls', e', h'⟩ := ax_has_st1 (v := ax_r none) h.2.1 hn rfl
    have e' : storeLocals lsA (q : Nat) (.null) = some ls' := e'
    have k2 := k _ _ _ hK1 _ _ _ _ _ (h.loc h')
    intro T hT X0
    obtain ⟨t, a, b⟩ := k2 T hT X0
    refine ⟨t, ?_, b⟩
    have hexec := X.1
    have hb := X.2.1
    show Steps p.tables e below (T.setTop (F0 m pc lsA (.null :: st.map ax_cv))) t
    jvm_step X0.here [X0.here.top, ↓top_set X0.here.top, hexec, hb, hd, e', Value.isRef]
    exact a
  | some x =>
    obtain ⟨ls', e', h'⟩ := ax_has_st1 (v := ax_r (some x)) h.2.1 hn rfl
    have e' : storeLocals lsA (q : Nat) (.ref x) = some ls' := e'
    have k2 := k _ _ _ hK1 _ _ _ _ _ (h.loc h')
    intro T hT X0
    obtain ⟨t, a, b⟩ := k2 T hT X0
    refine ⟨t, ?_, b⟩
    have hexec := X.1
    have hb := X.2.1
    show Steps p.tables e below (T.setTop (F0 m pc lsA (.ref x :: st.map ax_cv))) t
    jvm_step X0.here [X0.here.top, ↓top_set X0.here.top, hexec, hb, hd, e', Value.isRef]
    exact a
theorem sx_astore (X : ax_X D p s m args meth c own cc nL) {n : Nat} (hd : decode cc pc = .ok (.astore n, 2)) (hn : n < nL) (k : (∀ ls st C, K ls st S C → ax_Z p l e R s m args below meth c D nL sl0 Q (pc + 2) ls st S C)) : (∀ ls st C, ax_ast n K ls st S C → ax_Z p l e R s m args below meth c D nL sl0 Q (pc) ls st S C) := fun ls st C hK H lsA locs cells slots h => by
  obtain ⟨x, st, rfl, hK1⟩ := ax_pr_e hK
  cases x with
  | none =>
    obtain ⟨ls', e', h'⟩ := ax_has_st1 (v := ax_r none) h.2.1 hn rfl
    have e' : storeLocals lsA n (.null) = some ls' := e'
    have k2 := k _ _ _ hK1 _ _ _ _ _ (h.loc h')
    intro T hT X0
    obtain ⟨t, a, b⟩ := k2 T hT X0
    refine ⟨t, ?_, b⟩
    have hexec := X.1
    have hb := X.2.1
    show Steps p.tables e below (T.setTop (F0 m pc lsA (.null :: st.map ax_cv))) t
    jvm_step X0.here [X0.here.top, ↓top_set X0.here.top, hexec, hb, hd, e', Value.isRef]
    exact a
  | some x =>
    obtain ⟨ls', e', h'⟩ := ax_has_st1 (v := ax_r (some x)) h.2.1 hn rfl
    have e' : storeLocals lsA n (.ref x) = some ls' := e'
    have k2 := k _ _ _ hK1 _ _ _ _ _ (h.loc h')
    intro T hT X0
    obtain ⟨t, a, b⟩ := k2 T hT X0
    refine ⟨t, ?_, b⟩
    have hexec := X.1
    have hb := X.2.1
    show Steps p.tables e below (T.setTop (F0 m pc lsA (.ref x :: st.map ax_cv))) t
    jvm_step X0.here [X0.here.top, ↓top_set X0.here.top, hexec, hb, hd, e', Value.isRef]
    exact a
def ax_iinc (n : Nat) (v : Int32) (K : ax_K) : ax_K := fun ls st S C => ax_li (ax_get ls n) fun x => K (ax_st1 ls n (ax_i (x + v))) st S C
theorem sx_iinc (X : ax_X D p s m args meth c own cc nL) {n : Nat} {v : Int32} {z : Int} (hd : decode cc pc = .ok (.iinc n z, 3)) (hv : Int32.ofInt z = v) (hn : n < nL) (k : (∀ ls st C, K ls st S C → ax_Z p l e R s m args below meth c D nL sl0 Q (pc + 3) ls st S C)) : (∀ ls st C, ax_iinc n v K ls st S C → ax_Z p l e R s m args below meth c D nL sl0 Q (pc) ls st S C) := fun ls st C hK H lsA locs cells slots h => by
  subst hv
  obtain ⟨x, e1, hK⟩ := ax_li_e hK
  have hg : lsA[n]? = some (.val (.int x)) := h.2.1.2.2 _ _ e1
  obtain ⟨ls', e', h'⟩ := ax_has_st1 (v := ax_i (x + Int32.ofInt z)) h.2.1 hn rfl
  have e' : storeLocals lsA n (.int (x + Int32.ofInt z)) = some ls' := e'
  have k2 := k _ _ _ hK _ _ _ _ _ (h.loc h')
  intro T hT X0
  obtain ⟨t, a, b⟩ := k2 T hT X0
  refine ⟨t, ?_, b⟩
  have hexec := X.1
  have hb := X.2.1
  jvm_step X0.here [X0.here.top, ↓top_set X0.here.top, hexec, hb, hd, hg, e']
  exact a
def ax_iadd (K : ax_K) : ax_K := fun ls st S C => ax_pi st fun y t => ax_pi t fun x t => K ls (ax_i (x + y) :: t) S C
theorem sx_iadd (X : ax_X D p s m args meth c own cc nL) (hd : decode cc pc = .ok (.iadd, 1)) (k : (∀ ls st C, K ls st S C → ax_Z p l e R s m args below meth c D nL sl0 Q (pc + 1) ls st S C)) : (∀ ls st C, ax_iadd K ls st S C → ax_Z p l e R s m args below meth c D nL sl0 Q (pc) ls st S C) := fun ls st C hK H lsA locs cells slots h => by
  obtain ⟨y, st, rfl, hK1⟩ := ax_pi_e hK
  obtain ⟨x, st, rfl, hK2⟩ := ax_pi_e hK1
  exact lv_iadd X.1 X.2.1 hd (k _ _ _ hK2 _ _ _ _ _ h)
def ax_isub (K : ax_K) : ax_K := fun ls st S C => ax_pi st fun y t => ax_pi t fun x t => K ls (ax_i (x - y) :: t) S C
theorem sx_isub (X : ax_X D p s m args meth c own cc nL) (hd : decode cc pc = .ok (.isub, 1)) (k : (∀ ls st C, K ls st S C → ax_Z p l e R s m args below meth c D nL sl0 Q (pc + 1) ls st S C)) : (∀ ls st C, ax_isub K ls st S C → ax_Z p l e R s m args below meth c D nL sl0 Q (pc) ls st S C) := fun ls st C hK H lsA locs cells slots h => by
  obtain ⟨y, st, rfl, hK1⟩ := ax_pi_e hK
  obtain ⟨x, st, rfl, hK2⟩ := ax_pi_e hK1
  exact lv_isub X.1 X.2.1 hd (k _ _ _ hK2 _ _ _ _ _ h)
def ax_imul (K : ax_K) : ax_K := fun ls st S C => ax_pi st fun y t => ax_pi t fun x t => K ls (ax_i (x * y) :: t) S C
theorem sx_imul (X : ax_X D p s m args meth c own cc nL) (hd : decode cc pc = .ok (.imul, 1)) (k : (∀ ls st C, K ls st S C → ax_Z p l e R s m args below meth c D nL sl0 Q (pc + 1) ls st S C)) : (∀ ls st C, ax_imul K ls st S C → ax_Z p l e R s m args below meth c D nL sl0 Q (pc) ls st S C) := fun ls st C hK H lsA locs cells slots h => by
  obtain ⟨y, st, rfl, hK1⟩ := ax_pi_e hK
  obtain ⟨x, st, rfl, hK2⟩ := ax_pi_e hK1
  exact lv_imul X.1 X.2.1 hd (k _ _ _ hK2 _ _ _ _ _ h)
def ax_iand (K : ax_K) : ax_K := fun ls st S C => ax_pi st fun y t => ax_pi t fun x t => K ls (ax_i (x &&& y) :: t) S C
theorem sx_iand (X : ax_X D p s m args meth c own cc nL) (hd : decode cc pc = .ok (.iand, 1)) (k : (∀ ls st C, K ls st S C → ax_Z p l e R s m args below meth c D nL sl0 Q (pc + 1) ls st S C)) : (∀ ls st C, ax_iand K ls st S C → ax_Z p l e R s m args below meth c D nL sl0 Q (pc) ls st S C) := fun ls st C hK H lsA locs cells slots h => by
  obtain ⟨y, st, rfl, hK1⟩ := ax_pi_e hK
  obtain ⟨x, st, rfl, hK2⟩ := ax_pi_e hK1
  exact lv_iand X.1 X.2.1 hd (k _ _ _ hK2 _ _ _ _ _ h)
def ax_ladd (K : ax_K) : ax_K := fun ls st S C => ax_pl st fun y t => ax_pl t fun x t => K ls (ax_l (x + y) :: t) S C
theorem sx_ladd (X : ax_X D p s m args meth c own cc nL) (hd : decode cc pc = .ok (.ladd, 1)) (k : (∀ ls st C, K ls st S C → ax_Z p l e R s m args below meth c D nL sl0 Q (pc + 1) ls st S C)) : (∀ ls st C, ax_ladd K ls st S C → ax_Z p l e R s m args below meth c D nL sl0 Q (pc) ls st S C) := fun ls st C hK H lsA locs cells slots h => by
  obtain ⟨y, st, rfl, hK1⟩ := ax_pl_e hK
  obtain ⟨x, st, rfl, hK2⟩ := ax_pl_e hK1
  exact lv_ladd X.1 X.2.1 hd (k _ _ _ hK2 _ _ _ _ _ h)
def ax_lsub (K : ax_K) : ax_K := fun ls st S C => ax_pl st fun y t => ax_pl t fun x t => K ls (ax_l (x - y) :: t) S C
theorem sx_lsub (X : ax_X D p s m args meth c own cc nL) (hd : decode cc pc = .ok (.lsub, 1)) (k : (∀ ls st C, K ls st S C → ax_Z p l e R s m args below meth c D nL sl0 Q (pc + 1) ls st S C)) : (∀ ls st C, ax_lsub K ls st S C → ax_Z p l e R s m args below meth c D nL sl0 Q (pc) ls st S C) := fun ls st C hK H lsA locs cells slots h => by
  obtain ⟨y, st, rfl, hK1⟩ := ax_pl_e hK
  obtain ⟨x, st, rfl, hK2⟩ := ax_pl_e hK1
  exact lv_lsub X.1 X.2.1 hd (k _ _ _ hK2 _ _ _ _ _ h)
def ax_lmul (K : ax_K) : ax_K := fun ls st S C => ax_pl st fun y t => ax_pl t fun x t => K ls (ax_l (x * y) :: t) S C
theorem sx_lmul (X : ax_X D p s m args meth c own cc nL) (hd : decode cc pc = .ok (.lmul, 1)) (k : (∀ ls st C, K ls st S C → ax_Z p l e R s m args below meth c D nL sl0 Q (pc + 1) ls st S C)) : (∀ ls st C, ax_lmul K ls st S C → ax_Z p l e R s m args below meth c D nL sl0 Q (pc) ls st S C) := fun ls st C hK H lsA locs cells slots h => by
  obtain ⟨y, st, rfl, hK1⟩ := ax_pl_e hK
  obtain ⟨x, st, rfl, hK2⟩ := ax_pl_e hK1
  exact lv_lmul X.1 X.2.1 hd (k _ _ _ hK2 _ _ _ _ _ h)
def ax_idiv (K : ax_K) : ax_K := fun ls st S C => ax_pi st fun y t => ax_pi t fun x t => ¬ y = 0 ∧ K ls (ax_i (x / y) :: t) S C
theorem sx_idiv (X : ax_X D p s m args meth c own cc nL) (hd : decode cc pc = .ok (.idiv, 1)) (k : (∀ ls st C, K ls st S C → ax_Z p l e R s m args below meth c D nL sl0 Q (pc + 1) ls st S C)) : (∀ ls st C, ax_idiv K ls st S C → ax_Z p l e R s m args below meth c D nL sl0 Q (pc) ls st S C) := fun ls st C hK H lsA locs cells slots h => by
  obtain ⟨y, st, rfl, hK1⟩ := ax_pi_e hK
  obtain ⟨x, st, rfl, hK2⟩ := ax_pi_e hK1
  exact lv_idiv X.1 X.2.1 hd hK2.1 (k _ _ _ hK2.2 _ _ _ _ _ h)
def ax_irem (K : ax_K) : ax_K := fun ls st S C => ax_pi st fun y t => ax_pi t fun x t => ¬ y = 0 ∧ K ls (ax_i (x - x / y * y) :: t) S C
theorem sx_irem (X : ax_X D p s m args meth c own cc nL) (hd : decode cc pc = .ok (.irem, 1)) (k : (∀ ls st C, K ls st S C → ax_Z p l e R s m args below meth c D nL sl0 Q (pc + 1) ls st S C)) : (∀ ls st C, ax_irem K ls st S C → ax_Z p l e R s m args below meth c D nL sl0 Q (pc) ls st S C) := fun ls st C hK H lsA locs cells slots h => by
  obtain ⟨y, st, rfl, hK1⟩ := ax_pi_e hK
  obtain ⟨x, st, rfl, hK2⟩ := ax_pi_e hK1
  exact lv_irem X.1 X.2.1 hd hK2.1 (k _ _ _ hK2.2 _ _ _ _ _ h)
def ax_ldiv (K : ax_K) : ax_K := fun ls st S C => ax_pl st fun y t => ax_pl t fun x t => ¬ y = 0 ∧ K ls (ax_l (x / y) :: t) S C
theorem sx_ldiv (X : ax_X D p s m args meth c own cc nL) (hd : decode cc pc = .ok (.ldiv, 1)) (k : (∀ ls st C, K ls st S C → ax_Z p l e R s m args below meth c D nL sl0 Q (pc + 1) ls st S C)) : (∀ ls st C, ax_ldiv K ls st S C → ax_Z p l e R s m args below meth c D nL sl0 Q (pc) ls st S C) := fun ls st C hK H lsA locs cells slots h => by
  obtain ⟨y, st, rfl, hK1⟩ := ax_pl_e hK
  obtain ⟨x, st, rfl, hK2⟩ := ax_pl_e hK1
  exact lv_ldiv X.1 X.2.1 hd hK2.1 (k _ _ _ hK2.2 _ _ _ _ _ h)
def ax_lrem (K : ax_K) : ax_K := fun ls st S C => ax_pl st fun y t => ax_pl t fun x t => ¬ y = 0 ∧ K ls (ax_l (x - x / y * y) :: t) S C
theorem sx_lrem (X : ax_X D p s m args meth c own cc nL) (hd : decode cc pc = .ok (.lrem, 1)) (k : (∀ ls st C, K ls st S C → ax_Z p l e R s m args below meth c D nL sl0 Q (pc + 1) ls st S C)) : (∀ ls st C, ax_lrem K ls st S C → ax_Z p l e R s m args below meth c D nL sl0 Q (pc) ls st S C) := fun ls st C hK H lsA locs cells slots h => by
  obtain ⟨y, st, rfl, hK1⟩ := ax_pl_e hK
  obtain ⟨x, st, rfl, hK2⟩ := ax_pl_e hK1
  exact lv_lrem X.1 X.2.1 hd hK2.1 (k _ _ _ hK2.2 _ _ _ _ _ h)
def ax_ineg (K : ax_K) : ax_K := fun ls st S C => ax_pi st fun x t => K ls (ax_i (-x) :: t) S C
theorem sx_ineg (X : ax_X D p s m args meth c own cc nL) (hd : decode cc pc = .ok (.ineg, 1)) (k : (∀ ls st C, K ls st S C → ax_Z p l e R s m args below meth c D nL sl0 Q (pc + 1) ls st S C)) : (∀ ls st C, ax_ineg K ls st S C → ax_Z p l e R s m args below meth c D nL sl0 Q (pc) ls st S C) := fun ls st C hK H lsA locs cells slots h => by
  obtain ⟨x, st, rfl, hK1⟩ := ax_pi_e hK
  exact lv_ineg X.1 X.2.1 hd (k _ _ _ hK1 _ _ _ _ _ h)
def ax_lneg (K : ax_K) : ax_K := fun ls st S C => ax_pl st fun x t => K ls (ax_l (-x) :: t) S C
theorem sx_lneg (X : ax_X D p s m args meth c own cc nL) (hd : decode cc pc = .ok (.lneg, 1)) (k : (∀ ls st C, K ls st S C → ax_Z p l e R s m args below meth c D nL sl0 Q (pc + 1) ls st S C)) : (∀ ls st C, ax_lneg K ls st S C → ax_Z p l e R s m args below meth c D nL sl0 Q (pc) ls st S C) := fun ls st C hK H lsA locs cells slots h => by
  obtain ⟨x, st, rfl, hK1⟩ := ax_pl_e hK
  exact lv_lneg X.1 X.2.1 hd (k _ _ _ hK1 _ _ _ _ _ h)
def ax_i2l (K : ax_K) : ax_K := fun ls st S C => ax_pi st fun x t => K ls (ax_l x.toInt64 :: t) S C
theorem sx_i2l (X : ax_X D p s m args meth c own cc nL) (hd : decode cc pc = .ok (.i2l, 1)) (k : (∀ ls st C, K ls st S C → ax_Z p l e R s m args below meth c D nL sl0 Q (pc + 1) ls st S C)) : (∀ ls st C, ax_i2l K ls st S C → ax_Z p l e R s m args below meth c D nL sl0 Q (pc) ls st S C) := fun ls st C hK H lsA locs cells slots h => by
  obtain ⟨x, st, rfl, hK1⟩ := ax_pi_e hK
  exact lv_i2l X.1 X.2.1 hd rfl (k _ _ _ hK1 _ _ _ _ _ h)
def ax_l2i (K : ax_K) : ax_K := fun ls st S C => ax_pl st fun x t => K ls (ax_i x.toInt32 :: t) S C
theorem sx_l2i (X : ax_X D p s m args meth c own cc nL) (hd : decode cc pc = .ok (.l2i, 1)) (k : (∀ ls st C, K ls st S C → ax_Z p l e R s m args below meth c D nL sl0 Q (pc + 1) ls st S C)) : (∀ ls st C, ax_l2i K ls st S C → ax_Z p l e R s m args below meth c D nL sl0 Q (pc) ls st S C) := fun ls st C hK H lsA locs cells slots h => by
  obtain ⟨x, st, rfl, hK1⟩ := ax_pl_e hK
  exact lv_l2i X.1 X.2.1 hd rfl (k _ _ _ hK1 _ _ _ _ _ h)
def ax_i2b (K : ax_K) : ax_K := fun ls st S C => ax_pi st fun x t => K ls (ax_i x.toInt8.toInt32 :: t) S C
theorem sx_i2b (X : ax_X D p s m args meth c own cc nL) (hd : decode cc pc = .ok (.i2b, 1)) (k : (∀ ls st C, K ls st S C → ax_Z p l e R s m args below meth c D nL sl0 Q (pc + 1) ls st S C)) : (∀ ls st C, ax_i2b K ls st S C → ax_Z p l e R s m args below meth c D nL sl0 Q (pc) ls st S C) := fun ls st C hK H lsA locs cells slots h => by
  obtain ⟨x, st, rfl, hK1⟩ := ax_pi_e hK
  exact lv_i2b X.1 X.2.1 hd rfl (k _ _ _ hK1 _ _ _ _ _ h)
def ax_dup (K : ax_K) : ax_K := fun ls st S C => match st with
  | .inl x :: t => K ls (ax_i x :: ax_i x :: t) S C
  | .inr (.inr x) :: t => K ls (ax_r x :: ax_r x :: t) S C
  | _ => False
theorem sx_dup (X : ax_X D p s m args meth c own cc nL) (hd : decode cc pc = .ok (.dup, 1)) (k : (∀ ls st C, K ls st S C → ax_Z p l e R s m args below meth c D nL sl0 Q (pc + 1) ls st S C)) : (∀ ls st C, ax_dup K ls st S C → ax_Z p l e R s m args below meth c D nL sl0 Q (pc) ls st S C) := fun ls st C hK H lsA locs cells slots h => by
  unfold ax_dup at hK
  split at hK
  · exact lv_dup X.1 X.2.1 hd rfl (k _ _ _ hK _ _ _ _ _ h)
  · rename_i x t
    have k2 := k _ _ _ hK _ _ _ _ _ h
    cases x <;> exact lv_dup X.1 X.2.1 hd rfl k2
  · exact hK.elim
def ax_dup2 (K : ax_K) : ax_K := fun ls st S C => ax_pi st fun y t => ax_pr t fun x t => K ls (ax_i y :: ax_r x :: ax_i y :: ax_r x :: t) S C
theorem sx_dup2 (X : ax_X D p s m args meth c own cc nL) (hd : decode cc pc = .ok (.dup2, 1)) (k : (∀ ls st C, K ls st S C → ax_Z p l e R s m args below meth c D nL sl0 Q (pc + 1) ls st S C)) : (∀ ls st C, ax_dup2 K ls st S C → ax_Z p l e R s m args below meth c D nL sl0 Q (pc) ls st S C) := fun ls st C hK H lsA locs cells slots h => by
  obtain ⟨y, st, rfl, hK1⟩ := ax_pi_e hK
  obtain ⟨x, st, rfl, hK2⟩ := ax_pr_e hK1
  have k2 := k _ _ _ hK2 _ _ _ _ _ h
  cases x <;> exact lv_dup2_11 X.1 X.2.1 hd rfl rfl k2
def ax_ifeq (K1 K2 : ax_K) : ax_K := fun ls st S C => ax_pi st fun x t => (x = 0 → K1 ls t S C) ∧ (¬ x = 0 → K2 ls t S C)
theorem sx_ifeq (X : ax_X D p s m args meth c own cc nL) {off : Int} {tgt : Nat} (hd : decode cc pc = .ok (.ifCond .eq off, 3)) (ht : (pc : Int) + off = (tgt : Int)) (k1 : (∀ ls st C, K1 ls st S C → ax_Z p l e R s m args below meth c D nL sl0 Q (tgt) ls st S C)) (k2 : (∀ ls st C, K2 ls st S C → ax_Z p l e R s m args below meth c D nL sl0 Q (pc + 3) ls st S C)) : (∀ ls st C, ax_ifeq K1 K2 ls st S C → ax_Z p l e R s m args below meth c D nL sl0 Q (pc) ls st S C) := fun ls st C hK H lsA locs cells slots h => by
  obtain ⟨x, st, rfl, hK1⟩ := ax_pi_e hK
  exact lv_if_eq X.1 X.2.1 hd ht (fun q => k1 _ _ _ (hK1.1 q) _ _ _ _ _ h) (fun q => k2 _ _ _ (hK1.2 q) _ _ _ _ _ h)
def ax_iceq (K1 K2 : ax_K) : ax_K := fun ls st S C => ax_pi st fun y t => ax_pi t fun x t => (x = y → K1 ls t S C) ∧ (¬ x = y → K2 ls t S C)
theorem sx_iceq (X : ax_X D p s m args meth c own cc nL) {off : Int} {tgt : Nat} (hd : decode cc pc = .ok (.if_icmp .eq off, 3)) (ht : (pc : Int) + off = (tgt : Int)) (k1 : (∀ ls st C, K1 ls st S C → ax_Z p l e R s m args below meth c D nL sl0 Q (tgt) ls st S C)) (k2 : (∀ ls st C, K2 ls st S C → ax_Z p l e R s m args below meth c D nL sl0 Q (pc + 3) ls st S C)) : (∀ ls st C, ax_iceq K1 K2 ls st S C → ax_Z p l e R s m args below meth c D nL sl0 Q (pc) ls st S C) := fun ls st C hK H lsA locs cells slots h => by
  obtain ⟨y, st, rfl, hK1⟩ := ax_pi_e hK
  obtain ⟨x, st, rfl, hK2⟩ := ax_pi_e hK1
  exact lv_icmp_eq X.1 X.2.1 hd ht (fun q => k1 _ _ _ (hK2.1 q) _ _ _ _ _ h) (fun q => k2 _ _ _ (hK2.2 q) _ _ _ _ _ h)
def ax_ifne (K1 K2 : ax_K) : ax_K := fun ls st S C => ax_pi st fun x t => (¬ x = 0 → K1 ls t S C) ∧ (x = 0 → K2 ls t S C)
theorem sx_ifne (X : ax_X D p s m args meth c own cc nL) {off : Int} {tgt : Nat} (hd : decode cc pc = .ok (.ifCond .ne off, 3)) (ht : (pc : Int) + off = (tgt : Int)) (k1 : (∀ ls st C, K1 ls st S C → ax_Z p l e R s m args below meth c D nL sl0 Q (tgt) ls st S C)) (k2 : (∀ ls st C, K2 ls st S C → ax_Z p l e R s m args below meth c D nL sl0 Q (pc + 3) ls st S C)) : (∀ ls st C, ax_ifne K1 K2 ls st S C → ax_Z p l e R s m args below meth c D nL sl0 Q (pc) ls st S C) := fun ls st C hK H lsA locs cells slots h => by
  obtain ⟨x, st, rfl, hK1⟩ := ax_pi_e hK
  exact lv_if_ne X.1 X.2.1 hd ht (fun q => k1 _ _ _ (hK1.1 q) _ _ _ _ _ h) (fun q => k2 _ _ _ (hK1.2 q) _ _ _ _ _ h)
def ax_icne (K1 K2 : ax_K) : ax_K := fun ls st S C => ax_pi st fun y t => ax_pi t fun x t => (¬ x = y → K1 ls t S C) ∧ (x = y → K2 ls t S C)
theorem sx_icne (X : ax_X D p s m args meth c own cc nL) {off : Int} {tgt : Nat} (hd : decode cc pc = .ok (.if_icmp .ne off, 3)) (ht : (pc : Int) + off = (tgt : Int)) (k1 : (∀ ls st C, K1 ls st S C → ax_Z p l e R s m args below meth c D nL sl0 Q (tgt) ls st S C)) (k2 : (∀ ls st C, K2 ls st S C → ax_Z p l e R s m args below meth c D nL sl0 Q (pc + 3) ls st S C)) : (∀ ls st C, ax_icne K1 K2 ls st S C → ax_Z p l e R s m args below meth c D nL sl0 Q (pc) ls st S C) := fun ls st C hK H lsA locs cells slots h => by
  obtain ⟨y, st, rfl, hK1⟩ := ax_pi_e hK
  obtain ⟨x, st, rfl, hK2⟩ := ax_pi_e hK1
  exact lv_icmp_ne X.1 X.2.1 hd ht (fun q => k1 _ _ _ (hK2.1 q) _ _ _ _ _ h) (fun q => k2 _ _ _ (hK2.2 q) _ _ _ _ _ h)
def ax_iflt (K1 K2 : ax_K) : ax_K := fun ls st S C => ax_pi st fun x t => (x < 0 → K1 ls t S C) ∧ (¬ x < 0 → K2 ls t S C)
theorem sx_iflt (X : ax_X D p s m args meth c own cc nL) {off : Int} {tgt : Nat} (hd : decode cc pc = .ok (.ifCond .lt off, 3)) (ht : (pc : Int) + off = (tgt : Int)) (k1 : (∀ ls st C, K1 ls st S C → ax_Z p l e R s m args below meth c D nL sl0 Q (tgt) ls st S C)) (k2 : (∀ ls st C, K2 ls st S C → ax_Z p l e R s m args below meth c D nL sl0 Q (pc + 3) ls st S C)) : (∀ ls st C, ax_iflt K1 K2 ls st S C → ax_Z p l e R s m args below meth c D nL sl0 Q (pc) ls st S C) := fun ls st C hK H lsA locs cells slots h => by
  obtain ⟨x, st, rfl, hK1⟩ := ax_pi_e hK
  exact lv_if_lt X.1 X.2.1 hd ht (fun q => k1 _ _ _ (hK1.1 q) _ _ _ _ _ h) (fun q => k2 _ _ _ (hK1.2 q) _ _ _ _ _ h)
def ax_iclt (K1 K2 : ax_K) : ax_K := fun ls st S C => ax_pi st fun y t => ax_pi t fun x t => (x < y → K1 ls t S C) ∧ (¬ x < y → K2 ls t S C)
theorem sx_iclt (X : ax_X D p s m args meth c own cc nL) {off : Int} {tgt : Nat} (hd : decode cc pc = .ok (.if_icmp .lt off, 3)) (ht : (pc : Int) + off = (tgt : Int)) (k1 : (∀ ls st C, K1 ls st S C → ax_Z p l e R s m args below meth c D nL sl0 Q (tgt) ls st S C)) (k2 : (∀ ls st C, K2 ls st S C → ax_Z p l e R s m args below meth c D nL sl0 Q (pc + 3) ls st S C)) : (∀ ls st C, ax_iclt K1 K2 ls st S C → ax_Z p l e R s m args below meth c D nL sl0 Q (pc) ls st S C) := fun ls st C hK H lsA locs cells slots h => by
  obtain ⟨y, st, rfl, hK1⟩ := ax_pi_e hK
  obtain ⟨x, st, rfl, hK2⟩ := ax_pi_e hK1
  exact lv_icmp_lt X.1 X.2.1 hd ht (fun q => k1 _ _ _ (hK2.1 q) _ _ _ _ _ h) (fun q => k2 _ _ _ (hK2.2 q) _ _ _ _ _ h)
def ax_ifge (K1 K2 : ax_K) : ax_K := fun ls st S C => ax_pi st fun x t => (0 ≤ x → K1 ls t S C) ∧ (¬ 0 ≤ x → K2 ls t S C)
theorem sx_ifge (X : ax_X D p s m args meth c own cc nL) {off : Int} {tgt : Nat} (hd : decode cc pc = .ok (.ifCond .ge off, 3)) (ht : (pc : Int) + off = (tgt : Int)) (k1 : (∀ ls st C, K1 ls st S C → ax_Z p l e R s m args below meth c D nL sl0 Q (tgt) ls st S C)) (k2 : (∀ ls st C, K2 ls st S C → ax_Z p l e R s m args below meth c D nL sl0 Q (pc + 3) ls st S C)) : (∀ ls st C, ax_ifge K1 K2 ls st S C → ax_Z p l e R s m args below meth c D nL sl0 Q (pc) ls st S C) := fun ls st C hK H lsA locs cells slots h => by
  obtain ⟨x, st, rfl, hK1⟩ := ax_pi_e hK
  exact lv_if_ge X.1 X.2.1 hd ht (fun q => k1 _ _ _ (hK1.1 q) _ _ _ _ _ h) (fun q => k2 _ _ _ (hK1.2 q) _ _ _ _ _ h)
def ax_icge (K1 K2 : ax_K) : ax_K := fun ls st S C => ax_pi st fun y t => ax_pi t fun x t => (y ≤ x → K1 ls t S C) ∧ (¬ y ≤ x → K2 ls t S C)
theorem sx_icge (X : ax_X D p s m args meth c own cc nL) {off : Int} {tgt : Nat} (hd : decode cc pc = .ok (.if_icmp .ge off, 3)) (ht : (pc : Int) + off = (tgt : Int)) (k1 : (∀ ls st C, K1 ls st S C → ax_Z p l e R s m args below meth c D nL sl0 Q (tgt) ls st S C)) (k2 : (∀ ls st C, K2 ls st S C → ax_Z p l e R s m args below meth c D nL sl0 Q (pc + 3) ls st S C)) : (∀ ls st C, ax_icge K1 K2 ls st S C → ax_Z p l e R s m args below meth c D nL sl0 Q (pc) ls st S C) := fun ls st C hK H lsA locs cells slots h => by
  obtain ⟨y, st, rfl, hK1⟩ := ax_pi_e hK
  obtain ⟨x, st, rfl, hK2⟩ := ax_pi_e hK1
  exact lv_icmp_ge X.1 X.2.1 hd ht (fun q => k1 _ _ _ (hK2.1 q) _ _ _ _ _ h) (fun q => k2 _ _ _ (hK2.2 q) _ _ _ _ _ h)
def ax_ifgt (K1 K2 : ax_K) : ax_K := fun ls st S C => ax_pi st fun x t => (0 < x → K1 ls t S C) ∧ (¬ 0 < x → K2 ls t S C)
theorem sx_ifgt (X : ax_X D p s m args meth c own cc nL) {off : Int} {tgt : Nat} (hd : decode cc pc = .ok (.ifCond .gt off, 3)) (ht : (pc : Int) + off = (tgt : Int)) (k1 : (∀ ls st C, K1 ls st S C → ax_Z p l e R s m args below meth c D nL sl0 Q (tgt) ls st S C)) (k2 : (∀ ls st C, K2 ls st S C → ax_Z p l e R s m args below meth c D nL sl0 Q (pc + 3) ls st S C)) : (∀ ls st C, ax_ifgt K1 K2 ls st S C → ax_Z p l e R s m args below meth c D nL sl0 Q (pc) ls st S C) := fun ls st C hK H lsA locs cells slots h => by
  obtain ⟨x, st, rfl, hK1⟩ := ax_pi_e hK
  exact lv_if_gt X.1 X.2.1 hd ht (fun q => k1 _ _ _ (hK1.1 q) _ _ _ _ _ h) (fun q => k2 _ _ _ (hK1.2 q) _ _ _ _ _ h)
def ax_icgt (K1 K2 : ax_K) : ax_K := fun ls st S C => ax_pi st fun y t => ax_pi t fun x t => (y < x → K1 ls t S C) ∧ (¬ y < x → K2 ls t S C)
theorem sx_icgt (X : ax_X D p s m args meth c own cc nL) {off : Int} {tgt : Nat} (hd : decode cc pc = .ok (.if_icmp .gt off, 3)) (ht : (pc : Int) + off = (tgt : Int)) (k1 : (∀ ls st C, K1 ls st S C → ax_Z p l e R s m args below meth c D nL sl0 Q (tgt) ls st S C)) (k2 : (∀ ls st C, K2 ls st S C → ax_Z p l e R s m args below meth c D nL sl0 Q (pc + 3) ls st S C)) : (∀ ls st C, ax_icgt K1 K2 ls st S C → ax_Z p l e R s m args below meth c D nL sl0 Q (pc) ls st S C) := fun ls st C hK H lsA locs cells slots h => by
  obtain ⟨y, st, rfl, hK1⟩ := ax_pi_e hK
  obtain ⟨x, st, rfl, hK2⟩ := ax_pi_e hK1
  exact lv_icmp_gt X.1 X.2.1 hd ht (fun q => k1 _ _ _ (hK2.1 q) _ _ _ _ _ h) (fun q => k2 _ _ _ (hK2.2 q) _ _ _ _ _ h)
def ax_ifle (K1 K2 : ax_K) : ax_K := fun ls st S C => ax_pi st fun x t => (x ≤ 0 → K1 ls t S C) ∧ (¬ x ≤ 0 → K2 ls t S C)
theorem sx_ifle (X : ax_X D p s m args meth c own cc nL) {off : Int} {tgt : Nat} (hd : decode cc pc = .ok (.ifCond .le off, 3)) (ht : (pc : Int) + off = (tgt : Int)) (k1 : (∀ ls st C, K1 ls st S C → ax_Z p l e R s m args below meth c D nL sl0 Q (tgt) ls st S C)) (k2 : (∀ ls st C, K2 ls st S C → ax_Z p l e R s m args below meth c D nL sl0 Q (pc + 3) ls st S C)) : (∀ ls st C, ax_ifle K1 K2 ls st S C → ax_Z p l e R s m args below meth c D nL sl0 Q (pc) ls st S C) := fun ls st C hK H lsA locs cells slots h => by
  obtain ⟨x, st, rfl, hK1⟩ := ax_pi_e hK
  exact lv_if_le X.1 X.2.1 hd ht (fun q => k1 _ _ _ (hK1.1 q) _ _ _ _ _ h) (fun q => k2 _ _ _ (hK1.2 q) _ _ _ _ _ h)
def ax_icle (K1 K2 : ax_K) : ax_K := fun ls st S C => ax_pi st fun y t => ax_pi t fun x t => (x ≤ y → K1 ls t S C) ∧ (¬ x ≤ y → K2 ls t S C)
theorem sx_icle (X : ax_X D p s m args meth c own cc nL) {off : Int} {tgt : Nat} (hd : decode cc pc = .ok (.if_icmp .le off, 3)) (ht : (pc : Int) + off = (tgt : Int)) (k1 : (∀ ls st C, K1 ls st S C → ax_Z p l e R s m args below meth c D nL sl0 Q (tgt) ls st S C)) (k2 : (∀ ls st C, K2 ls st S C → ax_Z p l e R s m args below meth c D nL sl0 Q (pc + 3) ls st S C)) : (∀ ls st C, ax_icle K1 K2 ls st S C → ax_Z p l e R s m args below meth c D nL sl0 Q (pc) ls st S C) := fun ls st C hK H lsA locs cells slots h => by
  obtain ⟨y, st, rfl, hK1⟩ := ax_pi_e hK
  obtain ⟨x, st, rfl, hK2⟩ := ax_pi_e hK1
  exact lv_icmp_le X.1 X.2.1 hd ht (fun q => k1 _ _ _ (hK2.1 q) _ _ _ _ _ h) (fun q => k2 _ _ _ (hK2.2 q) _ _ _ _ _ h)
def ax_ifnull (K1 K2 : ax_K) : ax_K := fun ls st S C => ax_pr st fun x t => (x = none → K1 ls t S C) ∧ (∀ a, x = some a → K2 ls t S C)
theorem sx_ifnull (X : ax_X D p s m args meth c own cc nL) {off : Int} {tgt : Nat} (hd : decode cc pc = .ok (.ifnull off, 3)) (ht : (pc : Int) + off = (tgt : Int)) (k1 : (∀ ls st C, K1 ls st S C → ax_Z p l e R s m args below meth c D nL sl0 Q (tgt) ls st S C)) (k2 : (∀ ls st C, K2 ls st S C → ax_Z p l e R s m args below meth c D nL sl0 Q (pc + 3) ls st S C)) : (∀ ls st C, ax_ifnull K1 K2 ls st S C → ax_Z p l e R s m args below meth c D nL sl0 Q (pc) ls st S C) := fun ls st C hK H lsA locs cells slots h => by
  obtain ⟨x, st, rfl, hK1⟩ := ax_pr_e hK
  cases x with
  | none => exact lv_ifnullN X.1 X.2.1 hd ht (k1 _ _ _ (hK1.1 rfl) _ _ _ _ _ h)
  | some a => exact lv_ifnull X.1 X.2.1 hd (k2 _ _ _ (hK1.2 a rfl) _ _ _ _ _ h)
def ax_ifnonnull (K1 K2 : ax_K) : ax_K := fun ls st S C => ax_pr st fun x t => (∀ a, x = some a → K1 ls t S C) ∧ (x = none → K2 ls t S C)
theorem sx_ifnonnull (X : ax_X D p s m args meth c own cc nL) {off : Int} {tgt : Nat} (hd : decode cc pc = .ok (.ifnonnull off, 3)) (ht : (pc : Int) + off = (tgt : Int)) (k1 : (∀ ls st C, K1 ls st S C → ax_Z p l e R s m args below meth c D nL sl0 Q (tgt) ls st S C)) (k2 : (∀ ls st C, K2 ls st S C → ax_Z p l e R s m args below meth c D nL sl0 Q (pc + 3) ls st S C)) : (∀ ls st C, ax_ifnonnull K1 K2 ls st S C → ax_Z p l e R s m args below meth c D nL sl0 Q (pc) ls st S C) := fun ls st C hK H lsA locs cells slots h => by
  obtain ⟨x, st, rfl, hK1⟩ := ax_pr_e hK
  cases x with
  | none => exact lv_ifnonnullN X.1 X.2.1 hd (k2 _ _ _ (hK1.2 rfl) _ _ _ _ _ h)
  | some a => exact lv_ifnonnull X.1 X.2.1 hd ht (k1 _ _ _ (hK1.1 a rfl) _ _ _ _ _ h)
theorem sx_goto (X : ax_X D p s m args meth c own cc nL) {off : Int} {tgt : Nat} (hd : decode cc pc = .ok (.goto off, 3)) (ht : (pc : Int) + off = (tgt : Int)) (k : (∀ ls st C, K ls st S C → ax_Z p l e R s m args below meth c D nL sl0 Q (tgt) ls st S C)) : (∀ ls st C, K ls st S C → ax_Z p l e R s m args below meth c D nL sl0 Q (pc) ls st S C) := fun ls st C hK H lsA locs cells slots h => lv_goto X.1 X.2.1 hd ht (k _ _ _ hK _ _ _ _ _ h)
theorem ax_lcmp0 (x y : Int64) : (lg_cmp x y = 0 ↔ x = y) ∧ (lg_cmp x y < 0 ↔ x < y) ∧ (0 ≤ lg_cmp x y ↔ y ≤ x) ∧ (0 < lg_cmp x y ↔ y < x) ∧ (lg_cmp x y ≤ 0 ↔ x ≤ y) := by
  unfold lg_cmp
  by_cases h1 : y < x
  · have h2 : ¬ x = y := fun q => by subst q; exact Int64.lt_irrefl h1
    have h3 : ¬ x < y := fun q => Int64.lt_irrefl (Int64.lt_trans q h1)
    have h4 : y ≤ x := Int64.le_of_lt h1
    have h5 : ¬ x ≤ y := fun q => Int64.lt_irrefl (Int64.lt_of_lt_of_le h1 q)
    simp only [if_pos h1, h1, h2, h3, h4, h5]
    decide
  · by_cases h2 : x = y
    · subst h2
      simp only [if_neg h1, h1]
      have h4 : x ≤ x := Int64.le_refl x
      simp [h4]
    · have h4 : ¬ y ≤ x := fun q => h1 (Int64.lt_of_le_of_ne q (fun z => h2 z.symm))
      have h3 : x < y := Int64.not_le.mp h4
      have h5 : x ≤ y := Int64.le_of_lt h3
      simp only [if_neg h1, if_neg h2, h1, h2, h3, h4, h5]
      decide
def ax_lceq (K1 K2 : ax_K) : ax_K := fun ls st S C => ax_pl st fun y t => ax_pl t fun x t => (x = y → K1 ls t S C) ∧ (¬ x = y → K2 ls t S C)
theorem sx_lceq (X : ax_X D p s m args meth c own cc nL) {off : Int} {tgt : Nat} (hd0 : decode cc pc = .ok (.lcmp, 1)) (hd : decode cc (pc + 1) = .ok (.ifCond .eq off, 3)) (ht : ((pc + 1 : Nat) : Int) + off = (tgt : Int)) (k1 : (∀ ls st C, K1 ls st S C → ax_Z p l e R s m args below meth c D nL sl0 Q (tgt) ls st S C)) (k2 : (∀ ls st C, K2 ls st S C → ax_Z p l e R s m args below meth c D nL sl0 Q (pc + 1 + 3) ls st S C)) : (∀ ls st C, ax_lceq K1 K2 ls st S C → ax_Z p l e R s m args below meth c D nL sl0 Q (pc) ls st S C) := fun ls st C hK H lsA locs cells slots h => by
  obtain ⟨y, st, rfl, hK1⟩ := ax_pl_e hK
  obtain ⟨x, st, rfl, hK2⟩ := ax_pl_e hK1
  exact W.lcmp X.1 X.2.1 hd0 (lv_if_eq X.1 X.2.1 hd ht (fun q => k1 _ _ _ (hK2.1 ((ax_lcmp0 x y).1.mp q)) _ _ _ _ _ h) (fun q => k2 _ _ _ (hK2.2 (fun z => q ((ax_lcmp0 x y).1.mpr z))) _ _ _ _ _ h))
def ax_lcne (K1 K2 : ax_K) : ax_K := fun ls st S C => ax_pl st fun y t => ax_pl t fun x t => (¬ x = y → K1 ls t S C) ∧ (x = y → K2 ls t S C)
theorem sx_lcne (X : ax_X D p s m args meth c own cc nL) {off : Int} {tgt : Nat} (hd0 : decode cc pc = .ok (.lcmp, 1)) (hd : decode cc (pc + 1) = .ok (.ifCond .ne off, 3)) (ht : ((pc + 1 : Nat) : Int) + off = (tgt : Int)) (k1 : (∀ ls st C, K1 ls st S C → ax_Z p l e R s m args below meth c D nL sl0 Q (tgt) ls st S C)) (k2 : (∀ ls st C, K2 ls st S C → ax_Z p l e R s m args below meth c D nL sl0 Q (pc + 1 + 3) ls st S C)) : (∀ ls st C, ax_lcne K1 K2 ls st S C → ax_Z p l e R s m args below meth c D nL sl0 Q (pc) ls st S C) := fun ls st C hK H lsA locs cells slots h => by
  obtain ⟨y, st, rfl, hK1⟩ := ax_pl_e hK
  obtain ⟨x, st, rfl, hK2⟩ := ax_pl_e hK1
  exact W.lcmp X.1 X.2.1 hd0 (lv_if_ne X.1 X.2.1 hd ht (fun q => k1 _ _ _ (hK2.1 (fun z => q ((ax_lcmp0 x y).1.mpr z))) _ _ _ _ _ h) (fun q => k2 _ _ _ (hK2.2 ((ax_lcmp0 x y).1.mp q)) _ _ _ _ _ h))
def ax_lclt (K1 K2 : ax_K) : ax_K := fun ls st S C => ax_pl st fun y t => ax_pl t fun x t => (x < y → K1 ls t S C) ∧ (¬ x < y → K2 ls t S C)
theorem sx_lclt (X : ax_X D p s m args meth c own cc nL) {off : Int} {tgt : Nat} (hd0 : decode cc pc = .ok (.lcmp, 1)) (hd : decode cc (pc + 1) = .ok (.ifCond .lt off, 3)) (ht : ((pc + 1 : Nat) : Int) + off = (tgt : Int)) (k1 : (∀ ls st C, K1 ls st S C → ax_Z p l e R s m args below meth c D nL sl0 Q (tgt) ls st S C)) (k2 : (∀ ls st C, K2 ls st S C → ax_Z p l e R s m args below meth c D nL sl0 Q (pc + 1 + 3) ls st S C)) : (∀ ls st C, ax_lclt K1 K2 ls st S C → ax_Z p l e R s m args below meth c D nL sl0 Q (pc) ls st S C) := fun ls st C hK H lsA locs cells slots h => by
  obtain ⟨y, st, rfl, hK1⟩ := ax_pl_e hK
  obtain ⟨x, st, rfl, hK2⟩ := ax_pl_e hK1
  exact W.lcmp X.1 X.2.1 hd0 (lv_if_lt X.1 X.2.1 hd ht (fun q => k1 _ _ _ (hK2.1 ((ax_lcmp0 x y).2.1.mp q)) _ _ _ _ _ h) (fun q => k2 _ _ _ (hK2.2 (fun z => q ((ax_lcmp0 x y).2.1.mpr z))) _ _ _ _ _ h))
def ax_lcge (K1 K2 : ax_K) : ax_K := fun ls st S C => ax_pl st fun y t => ax_pl t fun x t => (y ≤ x → K1 ls t S C) ∧ (¬ y ≤ x → K2 ls t S C)
theorem sx_lcge (X : ax_X D p s m args meth c own cc nL) {off : Int} {tgt : Nat} (hd0 : decode cc pc = .ok (.lcmp, 1)) (hd : decode cc (pc + 1) = .ok (.ifCond .ge off, 3)) (ht : ((pc + 1 : Nat) : Int) + off = (tgt : Int)) (k1 : (∀ ls st C, K1 ls st S C → ax_Z p l e R s m args below meth c D nL sl0 Q (tgt) ls st S C)) (k2 : (∀ ls st C, K2 ls st S C → ax_Z p l e R s m args below meth c D nL sl0 Q (pc + 1 + 3) ls st S C)) : (∀ ls st C, ax_lcge K1 K2 ls st S C → ax_Z p l e R s m args below meth c D nL sl0 Q (pc) ls st S C) := fun ls st C hK H lsA locs cells slots h => by
  obtain ⟨y, st, rfl, hK1⟩ := ax_pl_e hK
  obtain ⟨x, st, rfl, hK2⟩ := ax_pl_e hK1
  exact W.lcmp X.1 X.2.1 hd0 (lv_if_ge X.1 X.2.1 hd ht (fun q => k1 _ _ _ (hK2.1 ((ax_lcmp0 x y).2.2.1.mp q)) _ _ _ _ _ h) (fun q => k2 _ _ _ (hK2.2 (fun z => q ((ax_lcmp0 x y).2.2.1.mpr z))) _ _ _ _ _ h))
def ax_lcgt (K1 K2 : ax_K) : ax_K := fun ls st S C => ax_pl st fun y t => ax_pl t fun x t => (y < x → K1 ls t S C) ∧ (¬ y < x → K2 ls t S C)
theorem sx_lcgt (X : ax_X D p s m args meth c own cc nL) {off : Int} {tgt : Nat} (hd0 : decode cc pc = .ok (.lcmp, 1)) (hd : decode cc (pc + 1) = .ok (.ifCond .gt off, 3)) (ht : ((pc + 1 : Nat) : Int) + off = (tgt : Int)) (k1 : (∀ ls st C, K1 ls st S C → ax_Z p l e R s m args below meth c D nL sl0 Q (tgt) ls st S C)) (k2 : (∀ ls st C, K2 ls st S C → ax_Z p l e R s m args below meth c D nL sl0 Q (pc + 1 + 3) ls st S C)) : (∀ ls st C, ax_lcgt K1 K2 ls st S C → ax_Z p l e R s m args below meth c D nL sl0 Q (pc) ls st S C) := fun ls st C hK H lsA locs cells slots h => by
  obtain ⟨y, st, rfl, hK1⟩ := ax_pl_e hK
  obtain ⟨x, st, rfl, hK2⟩ := ax_pl_e hK1
  exact W.lcmp X.1 X.2.1 hd0 (lv_if_gt X.1 X.2.1 hd ht (fun q => k1 _ _ _ (hK2.1 ((ax_lcmp0 x y).2.2.2.1.mp q)) _ _ _ _ _ h) (fun q => k2 _ _ _ (hK2.2 (fun z => q ((ax_lcmp0 x y).2.2.2.1.mpr z))) _ _ _ _ _ h))
def ax_lcle (K1 K2 : ax_K) : ax_K := fun ls st S C => ax_pl st fun y t => ax_pl t fun x t => (x ≤ y → K1 ls t S C) ∧ (¬ x ≤ y → K2 ls t S C)
theorem sx_lcle (X : ax_X D p s m args meth c own cc nL) {off : Int} {tgt : Nat} (hd0 : decode cc pc = .ok (.lcmp, 1)) (hd : decode cc (pc + 1) = .ok (.ifCond .le off, 3)) (ht : ((pc + 1 : Nat) : Int) + off = (tgt : Int)) (k1 : (∀ ls st C, K1 ls st S C → ax_Z p l e R s m args below meth c D nL sl0 Q (tgt) ls st S C)) (k2 : (∀ ls st C, K2 ls st S C → ax_Z p l e R s m args below meth c D nL sl0 Q (pc + 1 + 3) ls st S C)) : (∀ ls st C, ax_lcle K1 K2 ls st S C → ax_Z p l e R s m args below meth c D nL sl0 Q (pc) ls st S C) := fun ls st C hK H lsA locs cells slots h => by
  obtain ⟨y, st, rfl, hK1⟩ := ax_pl_e hK
  obtain ⟨x, st, rfl, hK2⟩ := ax_pl_e hK1
  exact W.lcmp X.1 X.2.1 hd0 (lv_if_le X.1 X.2.1 hd ht (fun q => k1 _ _ _ (hK2.1 ((ax_lcmp0 x y).2.2.2.2.mp q)) _ _ _ _ _ h) (fun q => k2 _ _ _ (hK2.2 (fun z => q ((ax_lcmp0 x y).2.2.2.2.mpr z))) _ _ _ _ _ h))
end AXR
