/-! ===== the abstract machine: a state of kinds, lengths, sizes and contents; a step is a transformer of predicates ===== -/
abbrev ax_S : Type := (Nat → Nat) × (Nat → Nat) × Nat × Nat
abbrev ax_C : Type := (Nat → Nat → Int32) × (Nat → Nat → Int64) × (Nat → Nat → Option Nat)
abbrev ax_T : Type := Int32 ⊕ Int64 ⊕ Option Nat
abbrev ax_L : Type := List (Option ax_T)
abbrev ax_K : Type := ax_L → List ax_T → ax_S → ax_C → Prop
abbrev ax_P : Type := Option ax_T → ax_S → ax_C → Prop
/-- class ids, slots, array classes, the first address of the world, the address of the static table -/
abbrev ax_D : Type := (Nat → ClassId) × (Nat → Nat → Nat) × (Nat → ClassId) × Nat × Nat
abbrev ax_i (x : Int32) : ax_T := .inl x
abbrev ax_l (x : Int64) : ax_T := .inr (.inl x)
abbrev ax_r (o : Option Nat) : ax_T := .inr (.inr o)
def ax_cv : ax_T → Value
  | .inl x => .int x
  | .inr (.inl x) => .long x
  | .inr (.inr o) => va_rf o
def ax_get : ax_L → Nat → Option ax_T
  | [], _ => none
  | x :: _, 0 => x
  | _ :: t, n + 1 => ax_get t n
def ax_kill : Option ax_T → Option ax_T
  | some (.inr (.inl _)) => none
  | x => x
def ax_st1 : ax_L → Nat → ax_T → ax_L
  | [], _, _ => []
  | _ :: t, 0, v => some v :: t
  | x :: t, 1, v => ax_kill x :: ax_st1 t 0 v
  | x :: t, n + 2, v => x :: ax_st1 t (n + 1) v
def ax_st2 : ax_L → Nat → ax_T → ax_L
  | [], _, _ => []
  | [_], 0, v => [some v]
  | _ :: _ :: t, 0, v => some v :: none :: t
  | x :: t, 1, v => ax_kill x :: ax_st2 t 0 v
  | x :: t, n + 2, v => x :: ax_st2 t (n + 1) v
theorem ax_kill_some {x : Option ax_T} {w : ax_T} (h : ax_kill x = some w) : x = some w ∧ ¬ (ax_cv w).category = 2 := by
  cases x with
  | none => cases h
  | some y =>
    rcases y with y | y | y
    · cases h; exact ⟨rfl, by simp [ax_cv, Value.category]⟩
    · cases h
    · cases h; refine ⟨rfl, ?_⟩; cases y <;> simp [ax_cv, va_rf, Value.category]
theorem ax_st1_get : ∀ (ls : ax_L) (i : Nat) (v : ax_T) (j : Nat) (w : ax_T), ax_get (ax_st1 ls i v) j = some w → (j = i ∧ w = v) ∨ (j ≠ i ∧ ax_get ls j = some w ∧ ¬ (j + 1 = i ∧ (ax_cv w).category = 2))
  | [], _, _, _, _, h => by simp [ax_st1, ax_get] at h
  | x :: t, 0, v, 0, w, h => by
    simp [ax_st1, ax_get] at h
    exact Or.inl ⟨rfl, h.symm⟩
  | x :: t, 0, v, j + 1, w, h => by
    simp [ax_st1, ax_get] at h
    exact Or.inr ⟨by omega, by simpa [ax_get] using h, by omega⟩
  | x :: t, 1, v, 0, w, h => by
    simp [ax_st1, ax_get] at h
    obtain ⟨h1, h2⟩ := ax_kill_some h
    exact Or.inr ⟨by omega, by simpa [ax_get] using h1, fun q => h2 q.2⟩
  | x :: t, 1, v, j + 1, w, h => by
    simp [ax_st1, ax_get] at h
    rcases ax_st1_get t 0 v j w h with ⟨h1, h2⟩ | ⟨h1, h2, h3⟩
    · exact Or.inl ⟨by omega, h2⟩
    · exact Or.inr ⟨by omega, by simpa [ax_get] using h2, by omega⟩
  | x :: t, n + 2, v, 0, w, h => by
    simp [ax_st1, ax_get] at h
    exact Or.inr ⟨by omega, by simpa [ax_get] using h, by omega⟩
  | x :: t, n + 2, v, j + 1, w, h => by
    simp [ax_st1, ax_get] at h
    rcases ax_st1_get t (n + 1) v j w h with ⟨h1, h2⟩ | ⟨h1, h2, h3⟩
    · exact Or.inl ⟨by omega, h2⟩
    · exact Or.inr ⟨by omega, by simpa [ax_get] using h2, fun q => h3 ⟨by omega, q.2⟩⟩
theorem ax_st2_get : ∀ (ls : ax_L) (i : Nat) (v : ax_T) (j : Nat) (w : ax_T), ax_get (ax_st2 ls i v) j = some w → (j = i ∧ w = v) ∨ (j ≠ i ∧ j ≠ i + 1 ∧ ax_get ls j = some w ∧ ¬ (j + 1 = i ∧ (ax_cv w).category = 2))
  | [], _, _, _, _, h => by simp [ax_st2, ax_get] at h
  | [_], 0, v, 0, w, h => by
    simp [ax_st2, ax_get] at h
    exact Or.inl ⟨rfl, h.symm⟩
  | [_], 0, v, j + 1, w, h => by
    simp [ax_st2, ax_get] at h
  | _ :: _ :: t, 0, v, 0, w, h => by
    simp [ax_st2, ax_get] at h
    exact Or.inl ⟨rfl, h.symm⟩
  | _ :: _ :: t, 0, v, 1, w, h => by
    simp [ax_st2, ax_get] at h
  | x :: y :: t, 0, v, j + 2, w, h => by
    simp [ax_st2, ax_get] at h
    exact Or.inr ⟨by omega, by omega, by simpa [ax_get] using h, by omega⟩
  | x :: t, 1, v, 0, w, h => by
    simp [ax_st2, ax_get] at h
    obtain ⟨h1, h2⟩ := ax_kill_some h
    exact Or.inr ⟨by omega, by omega, by simpa [ax_get] using h1, fun q => h2 q.2⟩
  | x :: t, 1, v, j + 1, w, h => by
    simp [ax_st2, ax_get] at h
    rcases ax_st2_get t 0 v j w h with ⟨h1, h2⟩ | ⟨h1, h0, h2, h3⟩
    · exact Or.inl ⟨by omega, h2⟩
    · exact Or.inr ⟨by omega, by omega, by simpa [ax_get] using h2, by omega⟩
  | x :: t, n + 2, v, 0, w, h => by
    simp [ax_st2, ax_get] at h
    exact Or.inr ⟨by omega, by omega, by simpa [ax_get] using h, by omega⟩
  | x :: t, n + 2, v, j + 1, w, h => by
    simp [ax_st2, ax_get] at h
    rcases ax_st2_get t (n + 1) v j w h with ⟨h1, h2⟩ | ⟨h1, h0, h2, h3⟩
    · exact Or.inl ⟨by omega, h2⟩
    · exact Or.inr ⟨by omega, by omega, by simpa [ax_get] using h2, fun q => h3 ⟨by omega, q.2⟩⟩
theorem ax_st1_len : ∀ (ls : ax_L) (i : Nat) (v : ax_T), (ax_st1 ls i v).length = ls.length
  | [], _, _ => rfl
  | _ :: _, 0, _ => rfl
  | _ :: t, 1, v => by simp [ax_st1, ax_st1_len t 0 v]
  | _ :: t, n + 2, v => by simp [ax_st1, ax_st1_len t (n + 1) v]
theorem ax_st2_len : ∀ (ls : ax_L) (i : Nat) (v : ax_T), (ax_st2 ls i v).length = ls.length
  | [], _, _ => rfl
  | [_], 0, _ => rfl
  | _ :: _ :: _, 0, _ => rfl
  | _ :: t, 1, v => by simp [ax_st2, ax_st2_len t 0 v]
  | _ :: t, n + 2, v => by simp [ax_st2, ax_st2_len t (n + 1) v]
theorem ax_get_lt : ∀ (ls : ax_L) (i : Nat) (w : ax_T), ax_get ls i = some w → i < ls.length
  | [], _, _, h => by simp [ax_get] at h
  | _ :: _, 0, _, _ => by simp
  | _ :: t, n + 1, w, h => by
    have := ax_get_lt t n w (by simpa [ax_get] using h)
    simp; omega
/-- the machine's locals hold the listed ones -/
def ax_has (lsA : Array Slot) (nL : Nat) (ls : ax_L) : Prop := lsA.size = nL ∧ lv_wf lsA ∧ ∀ (i : Nat) (v : ax_T), ax_get ls i = some v → lsA[i]? = some (.val (ax_cv v))
theorem ax_has_st1 {lsA : Array Slot} {nL : Nat} {ls : ax_L} {i : Nat} {v : ax_T} (h : ax_has lsA nL ls) (hi : i < nL) (hc : (ax_cv v).category = 1) : ∃ ls', storeLocals lsA i (ax_cv v) = some ls' ∧ ax_has ls' nL (ax_st1 ls i v) := by
  obtain ⟨h1, h2, h3⟩ := h
  obtain ⟨ls', e, g1, g2, g3⟩ := lv_store1 (l := []) (v := ax_cv v) ⟨h1, h2, fun q hq => by cases hq⟩ hi hc
  refine ⟨ls', e, g1, g2, fun j w hw => ?_⟩
  rcases ax_st1_get ls i v j w hw with ⟨rfl, rfl⟩ | ⟨a1, a2, a3⟩
  · exact g3 (j, ax_cv w) (by simp)
  · obtain ⟨ls2, e2, -, -, k3⟩ := lv_store1 (l := [(j, ax_cv w)]) (v := ax_cv v) (ls := lsA) ⟨h1, h2, fun q hq => by simp at hq; subst hq; exact h3 j w a2⟩ hi hc
    cases e.symm.trans e2
    refine k3 (j, ax_cv w) (List.mem_cons_of_mem _ (List.mem_filter.mpr ⟨by simp, ?_⟩))
    simp only [Bool.and_eq_true, Bool.not_eq_true', beq_eq_false_iff_ne, ne_eq, Bool.and_eq_false_iff]
    refine ⟨a1, ?_⟩
    by_cases hj : j + 1 = i
    · exact Or.inr fun q => a3 ⟨hj, q⟩
    · exact Or.inl hj
theorem ax_has_st2 {lsA : Array Slot} {nL : Nat} {ls : ax_L} {i : Nat} {v : ax_T} (h : ax_has lsA nL ls) (hi : i + 1 < nL) (hc : (ax_cv v).category = 2) : ∃ ls', storeLocals lsA i (ax_cv v) = some ls' ∧ ax_has ls' nL (ax_st2 ls i v) := by
  obtain ⟨h1, h2, h3⟩ := h
  obtain ⟨ls', e, g1, g2, g3⟩ := lv_store2 (l := []) (v := ax_cv v) ⟨h1, h2, fun q hq => by cases hq⟩ hi hc
  refine ⟨ls', e, g1, g2, fun j w hw => ?_⟩
  rcases ax_st2_get ls i v j w hw with ⟨rfl, rfl⟩ | ⟨a1, a0, a2, a3⟩
  · exact g3 (j, ax_cv w) (by simp)
  · obtain ⟨ls2, e2, -, -, k3⟩ := lv_store2 (l := [(j, ax_cv w)]) (v := ax_cv v) (ls := lsA) ⟨h1, h2, fun q hq => by simp at hq; subst hq; exact h3 j w a2⟩ hi hc
    cases e.symm.trans e2
    refine k3 (j, ax_cv w) (List.mem_cons_of_mem _ (List.mem_filter.mpr ⟨by simp, ?_⟩))
    simp only [Bool.and_eq_true, Bool.not_eq_true', beq_eq_false_iff_ne, ne_eq, Bool.and_eq_false_iff]
    refine ⟨a1, a0, ?_⟩
    by_cases hj : j + 1 = i
    · exact Or.inr fun q => a3 ⟨hj, q⟩
    · exact Or.inl hj
/-! the world's cells: kinds 1 .. 9 are objects of the classes of vwCl, 11 int[], 12 boolean[], 13 byte[], 14 Path[], 15 Picture[] -/
def ax_ty : Nat → Nat → FieldType
  | 0 => tyX0
  | 1 => tyX1
  | 2 => tyX2
  | 3 => tyX3
  | 4 => tyX4
  | 5 => tyX5
  | 6 => tyX6
  | 7 => tyX7
  | _ => tyX8
def ax_n : Nat → Nat
  | 0 => 3
  | 1 => 5
  | 2 => 2
  | 3 => 3
  | 4 => 2
  | 5 => 2
  | 6 => 7
  | 7 => 7
  | _ => 25
def ax_fk : FieldType → Nat
  | .long => 1
  | .object _ => 2
  | .array _ => 2
  | _ => 0
def ax_v (ci : Nat) (c : ax_C) (a k : Nat) : Value := if ax_fk (ax_ty ci k) = 0 then .int (c.1 a k) else if ax_fk (ax_ty ci k) = 1 then .long (c.2.1 a k) else va_rf (c.2.2 a k)
def ax_fl (ci : Nat) (c : ax_C) (a : Nat) : List Value := (List.range (ax_n ci)).map (ax_v ci c a)
def ax_f (D : ax_D) (S : ax_S) (c : ax_C) (a : Nat) : va_E :=
  if S.1 a < 10 then .inr (S.1 a - 1, ax_fl (S.1 a - 1) c a)
  else if S.1 a < 14 then .inl (D.2.2.1 (S.1 a - 11), S.2.1 a, .inl (c.1 a))
  else .inl (D.2.2.1 (S.1 a - 11), S.2.1 a, .inr (.inr (.inr (.inr (c.2.2 a)))))
def ax_A (D : ax_D) : Nat → Prop := fun q => D.2.2.2.1 ≤ q
def ax_ad (D : ax_D) (S : ax_S) : List Nat := List.range' D.2.2.2.1 (S.2.2.1 - D.2.2.2.1)
def ax_w (D : ax_D) (S : ax_S) (c : ax_C) : va_W := va_pl (ax_ad D S) (ax_f D S c)
def ax_R (D : ax_D) (S : ax_S) (c : ax_C) (H : Heap) : Prop := H.size = S.2.2.1 ∧ D.2.2.2.1 ≤ S.2.2.1 ∧ va_P (D.1, D.2.1) vwCl (ax_w D S c) H ∧ ∀ a, S.1 a ≠ 0 → D.2.2.2.1 ≤ a ∧ a < S.2.2.1
def ax_aty : Nat → FieldType
  | 0 => .int
  | 1 => .boolean
  | 2 => .byte
  | 3 => .object "PathEditor$Path"
  | _ => .object "PathEditor$Picture"
def ax_tys (D : ax_D) : List (ClassId × FieldType) := (List.range 5).map fun k => (D.2.2.1 k, ax_aty k)
def ax_wt (j : Nat) : Int32 := [30, 12, 3, 18, 18, 9, 9, 18, 18, 3, 12, 30].getD j 0
def ax_big : List Cond := lw_tbl.filter goodWord
def ax_isN : Cond → Bool
  | .fieldLinkNest .. => true
  | .methodLinkNest .. => true
  | _ => false
def ax_nw : List Cond := tables_1.filter ax_isN
/-- what is known of a state, whatever the world holds -/
def ax_U (D : ax_D) (U : State) : Prop := va_K (D.1, D.2.1) vwCl (ax_tys D) U ∧ (∀ w ∈ ax_nw, va_Nw w U) ∧ va_AO "PathEditor$Path" U ∧ va_AO "PathEditor$Picture" U ∧ va_Z "PathEditor" "AREA_WEIGHTS" "[I" (.ref D.2.2.2.2) (ax_A D) U U.heap ∧ va_T .int D.2.2.2.2 12 (fun j => .int (ax_wt j)) (ax_A D) U U.heap
theorem ax_Nw_moved {w : Cond} (h : ax_isN w = true) {s U : State} (hW : s.WarmedH U.vm) (hz : va_Nw w s) : va_Nw w U := by
  cases w <;> first | (cases h; done) | exact va_Nw.warmF hW hz | exact va_Nw.warmM hW hz
theorem ax_U_moved {D : ax_D} {s U : State} (hW : s.WarmedH U.vm) (hh : ∀ a : Nat, a < s.heap.size → ¬ ax_A D a → U.heap[a]? = s.heap[a]?) (h : ax_U D s) : ax_U D U := by
  obtain ⟨h1, h2, h3, h4, h5, h6⟩ := h
  exact ⟨va_K.moved hW.alike h1, fun w hw => ax_Nw_moved (List.mem_filter.mp hw).2 hW (h2 w hw), h3.moved hW.alike, h4.moved hW.alike, (h5.moved hW.alike).kept hh, (h6.moved hW.alike).kept hh⟩
theorem ax_ad_get {D : ax_D} {S : ax_S} {k a : Nat} (h : (ax_ad D S)[k]? = some a) : a = D.2.2.2.1 + k := by
  obtain ⟨h1, h2⟩ := List.getElem?_eq_some_iff.mp h
  rw [← h2]
  simp [ax_ad]
theorem ax_apart (D : ax_D) (S : ax_S) (c : ax_C) : va_D (ax_A D) (ax_w D S c) := by
  have key : ∀ (k : Nat) (q : Nat × va_E), (ax_w D S c)[k]? = some q → q.1 = D.2.2.2.1 + k := by
    intro k q h
    simp only [ax_w, va_pl, List.getElem?_map] at h
    cases hb : (ax_ad D S)[k]? with
    | none => rw [hb] at h; cases h
    | some b => rw [hb] at h; cases h; exact ax_ad_get hb
  refine ⟨fun i j p q hp hq h => ?_, fun k q h => ?_⟩
  · have := key i p hp
    have := key j q hq
    omega
  · rw [key k q h]; exact Nat.le_add_right _ _
theorem ax_mem {D : ax_D} {S : ax_S} {a : Nat} (h1 : D.2.2.2.1 ≤ a) (h2 : a < S.2.2.1) : a ∈ ax_ad D S := by
  simp only [ax_ad, List.mem_range'_1]
  omega
theorem ax_at {D : ax_D} {S : ax_S} {c : ax_C} {H : Heap} (h : ax_R D S c H) {a : Nat} (ha : S.1 a ≠ 0) : ∃ k : Nat, (ax_w D S c)[k]? = some (a, ax_f D S c a) := by
  obtain ⟨-, -, -, h4⟩ := h
  obtain ⟨g1, g2⟩ := h4 a ha
  obtain ⟨k, hk⟩ := va_pl_get (X := []) (f := ax_f D S c) (ax_mem (D := D) (S := S) g1 g2)
  exact ⟨k, hk⟩
theorem ax_set {D : ax_D} {S : ax_S} {c : ax_C} {a k : Nat} {e : va_E} (h1 : D.2.2.2.1 ≤ a) (h2 : a < S.2.2.1) (hk : (ax_w D S c)[k]? = some (a, ax_f D S c a)) : (ax_w D S c).set k (a, e) = va_pl (ax_ad D S) (va_up (ax_f D S c) a e) := va_pl_set (X := []) (ax_apart D S c) (ax_mem h1 h2) hk
