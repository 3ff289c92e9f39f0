/-! ===== what the calls answer, and what they change ===== -/
def bt (x lo hi : Int32) : Bool := !decide (x < lo) && !decide (hi < x)
def ln (x y : Int32) : Bool := bt x (-200) 200 && bt y (-200) 200
/-- an index below n -/
def ix (x : Int32) (n : Nat) : Option Nat := if 0 ≤ x.toInt ∧ x.toInt < n then some x.toInt.toNat else none
theorem ix_some {k n : Nat} (h : k < n) (hn : n < 2 ^ 31) : ix (nI k) n = some k := by
  unfold ix
  rw [n_toInt (by omega), if_pos (by omega)]
  simp
theorem ix_none {x : Int32} {n : Nat} (hn : n < 2 ^ 31) (h : ¬ ∃ k, k < n ∧ x = nI k) : ix x n = none := by
  unfold ix
  rw [if_neg]
  intro ⟨h1, h2⟩
  refine h ⟨x.toInt.toNat, by omega, ?_⟩
  apply Int32.toInt_inj.mp
  rw [n_toInt (by omega)]
  omega
theorem ix_of {x : Int32} {n k : Nat} (hn : n < 2 ^ 31) (h : ix x n = some k) : k < n ∧ x = nI k := by
  unfold ix at h
  by_cases z : 0 ≤ x.toInt ∧ x.toInt < n
  · rw [if_pos z] at h
    have e := Option.some.inj h
    refine ⟨by omega, ?_⟩
    apply Int32.toInt_inj.mp
    rw [n_toInt (by omega)]
    omega
  · rw [if_neg z] at h
    cases h
/-- a corner -/
def cn (x y : Int32) (f : Nat) : Int32 := if f = 0 then x else if f = 1 then y else 0
def setP (V : ab_V) (k : Nat) (P : ab_P) : ab_V := (V.1, va_up V.2 k P)
def addP (V : ab_V) (P : ab_P) : ab_V := (V.1 + 1, va_up V.2 V.1 P)
def updA (A : ab_A) (o : Option ab_V) : ab_A := match o with
  | none => A
  | some V => psh A V
abbrev ab_R : Type := Int32 × Option ab_V
def BI : Int32 := -100000001
def BV : Int32 := -100000002
def NP : Int32 := -100000003
def FU : Int32 := -100000004
/-- an answer unless there is trouble -/
def tr (t x : Int32) (V : ab_V) : ab_R := if t = 0 then (x, some V) else (t, none)
/-- path and node of an index each -/
def onP (V : ab_V) (x : Int32) (F : Nat → ab_R) : ab_R := match ix x V.1 with
  | none => (BI, none)
  | some p => F p
def onN (V : ab_V) (x y : Int32) (F : Nat → Nat → ab_R) : ab_R := onP V x fun p => match ix y (V.2 p).1 with
  | none => (BI, none)
  | some k => F p k
def F_addPath (V : ab_V) (x y : Int32) : ab_R := if ln x y = false then (BV, none) else if V.1 = 6 then (FU, none) else (nI V.1, some (addP V (1, false, cn (x * 46656) (y * 46656))))
def F_extend (V : ab_V) (x1 x y : Int32) : ab_R := onP V x1 fun p => if ln x y = false then (BV, none) else if (V.2 p).2.1 = true then (NP, none) else if (V.2 p).1 = 12 then (FU, none) else (nI ((V.2 p).1 + 1), some (setP V p ((V.2 p).1 + 1, false, nd (V.2 p).2.2 (V.2 p).1 (cn (x * 46656) (y * 46656)))))
def F_removePath (V : ab_V) (x1 : Int32) : ab_R := onP V x1 fun p => (nI (V.1 - 1), some (rmP V p))
def mvT (g : Nat → Int32) (k : Nat) (dx dy t : Int32) : Int32 := chk (chk t (g (8 * k + 0) + dx).toInt64 1) (g (8 * k + 1) + dy).toInt64 1
def mvG (g : Nat → Int32) (k : Nat) (dx dy : Int32) : Nat → Int32 := va_up (va_up g (8 * k + 0) (qr (g (8 * k + 0) + dx).toInt64 1)) (8 * k + 1) (qr (g (8 * k + 1) + dy).toInt64 1)
def F_moveNode (V : ab_V) (x1 x2 dx dy : Int32) : ab_R := onN V x1 x2 fun p k => if ln dx dy = false then (BV, none) else tr (mvT (V.2 p).2.2 k (dx * 46656) (dy * 46656) 0) (qr ((V.2 p).2.2 (8 * k + 0) + dx * 46656).toInt64 1) (setP V p ((V.2 p).1, (V.2 p).2.1, mvG (V.2 p).2.2 k (dx * 46656) (dy * 46656)))
def fT (g : Nat → Int32) (k : Nat) (o : Bool) (t : Int32) : Int32 := chk (chk t (ft g k o 0) (fb g k o)) (ft g k o 1) (fb g k o)
def fG (g : Nat → Int32) (k : Nat) (o : Bool) : Nat → Int32 := va_up (va_up g (8 * k + ((if o then 4 else 2) + 0)) (qr (ft g k o 0) (fb g k o))) (8 * k + ((if o then 4 else 2) + 1)) (qr (ft g k o 1) (fb g k o))
def hdG (g : Nat → Int32) (k : Nat) (o : Bool) (x y : Int32) : Nat → Int32 := va_up (va_up g (8 * k + (if o then 4 else 2)) x) (8 * k + ((if o then 4 else 2) + 1)) y
def F_setHandle (V : ab_V) (x1 x2 : Int32) (o : Bool) (dx dy : Int32) : ab_R := onN V x1 x2 fun p k => if ln dx dy = false then (BV, none) else if (V.2 p).2.2 (8 * k + 6) = 0 then (0, some (setP V p ((V.2 p).1, (V.2 p).2.1, hdG (V.2 p).2.2 k o (dx * 46656) (dy * 46656)))) else tr (fT (hdG (V.2 p).2.2 k o (dx * 46656) (dy * 46656)) k (!o) 0) 1 (setP V p ((V.2 p).1, (V.2 p).2.1, fG (hdG (V.2 p).2.2 k o (dx * 46656) (dy * 46656)) k (!o)))
def F_setSmooth (V : ab_V) (x1 x2 a b : Int32) : ab_R := onN V x1 x2 fun p k => if bt a 1 999 = false ∨ bt b 1 999 = false then (BV, none) else tr (fT (rw2 (V.2 p).2.2 k a.toInt.toNat b.toInt.toNat) k (decide ((V.2 p).2.2 (8 * k + 4) = 0 ∧ (V.2 p).2.2 (8 * k + 5) = 0)) 0) (if (V.2 p).2.2 (8 * k + 6) = 0 then 0 else 1) (setP V p ((V.2 p).1, (V.2 p).2.1, fG (rw2 (V.2 p).2.2 k a.toInt.toNat b.toInt.toNat) k (decide ((V.2 p).2.2 (8 * k + 4) = 0 ∧ (V.2 p).2.2 (8 * k + 5) = 0))))
def F_setCorner (V : ab_V) (x1 x2 : Int32) : ab_R := onN V x1 x2 fun p k => ((if (V.2 p).2.2 (8 * k + 6) = 0 then 0 else 1), some (setP V p ((V.2 p).1, (V.2 p).2.1, va_up (va_up (V.2 p).2.2 (8 * k + 6) 0) (8 * k + 7) 0)))
def sgX (P : ab_P) (k : Nat) : Nat := if eo P.1 k = 0 then 0 else k + 2
def F_insert (V : ab_V) (x1 x2 a b : Int32) : ab_R := onP V x1 fun p => match ix x2 (sg (V.2 p).1 (V.2 p).2.1) with
  | none => (BI, none)
  | some k => if bt b 2 6 = false ∨ bt a 1 (b - 1) = false then (BV, none) else if (V.2 p).1 = 12 then (FU, none) else
    tr (cT (un (V.2 p).2.2 k (V.2 p).1) k (sgX (V.2 p) k) a.toInt.toNat b.toInt.toNat 0) (nI (k + 1)) (setP V p ((V.2 p).1 + 1, (V.2 p).2.1, cG (un (V.2 p).2.2 k (V.2 p).1) k (sgX (V.2 p) k) a.toInt.toNat b.toInt.toNat ((un (V.2 p).2.2 k (V.2 p).1) (8 * k + 6)).toInt.toNat ((un (V.2 p).2.2 k (V.2 p).1) (8 * k + 7)).toInt.toNat ((un (V.2 p).2.2 k (V.2 p).1) (8 * sgX (V.2 p) k + 6)).toInt.toNat ((un (V.2 p).2.2 k (V.2 p).1) (8 * sgX (V.2 p) k + 7)).toInt.toNat))
def F_removeNode (V : ab_V) (x1 x2 : Int32) : ab_R := onN V x1 x2 fun p k => (nI ((V.2 p).1 - 1), some (if (V.2 p).1 = 1 then rmP V p else setP V p ((V.2 p).1 - 1, (V.2 p).2.1 && decide (3 ≤ (V.2 p).1), dn (V.2 p).2.2 k (V.2 p).1)))
def F_split (V : ab_V) (x1 x2 : Int32) : ab_R := onN V x1 x2 fun p k => if ar (V.2 p).1 (V.2 p).2.1 k = false then (NP, none) else if (V.2 p).2.1 = true then (if (V.2 p).1 = 12 then (FU, none) else (nI V.1, some (setP V p ((V.2 p).1 + 1, false, fun q => if q < 8 * (V.2 p).1 then ro (V.2 p).2.2 (V.2 p).1 k q else (V.2 p).2.2 (8 * k + (q - 8 * (V.2 p).1)))))) else if V.1 = 6 then (FU, none) else (nI (V.1 + 1), some (setP (addP V ((V.2 p).1 - k, false, fun q => (V.2 p).2.2 (8 * k + q))) p (k + 1, false, (V.2 p).2.2)))
def jn (V : ab_V) (p o : Nat) : Nat := (if p = o then (V.2 p).1 else (V.2 p).1 + (V.2 o).1) - (if ms (V.2 p).2.2 (V.2 p).1 (V.2 o).2.2 = true then 1 else 0)
def jG (V : ab_V) (p o : Nat) : Nat → Int32 := if ms (V.2 p).2.2 (V.2 p).1 (V.2 o).2.2 = true then mg (V.2 o).2.2 (V.2 p).2.2 ((V.2 p).1 - 1) else (V.2 o).2.2
def j1 (V : ab_V) (p o : Nat) : Nat := if ms (V.2 p).2.2 (V.2 p).1 (V.2 o).2.2 = true then (V.2 p).1 - 1 else (V.2 p).1
def F_join (V : ab_V) (x1 x2 : Int32) : ab_R := onP V x1 fun p => onP V x2 fun o => if (V.2 p).2.1 = true ∨ (V.2 o).2.1 = true ∨ (p = o ∧ jn V p o < 2) then (NP, none) else if 12 < jn V p o then (FU, none) else (nI (jn V p o), some (if p = o then setP V p (jn V p o, true, jG V p o) else rmP (setP V p (jn V p o, false, fun q => if q < 8 * j1 V p o then (V.2 p).2.2 q else jG V p o (q - 8 * j1 V p o))) o))
def F_reverse (V : ab_V) (x1 : Int32) : ab_R := onP V x1 fun p => (nI (V.2 p).1, some (setP V p ((V.2 p).1, (V.2 p).2.1, fun q => (V.2 p).2.2 (8 * ((V.2 p).1 - 1 - q / 8) + sf (q % 8)))))
def fc (x : Int32) : Bool := bt x (-9) 9
def tfT (g : Nat → Int32) (a b c d q : Int64) : Nat → Int32
  | 0 => 0
  | k + 1 => mT g k a b c d q (tfT g a b c d q k) 6
def F_transform (V : ab_V) (x1 a b c d q : Int32) : ab_R := onP V x1 fun p => if (fc a && fc b && fc c && fc d && bt q 1 6) = false then (BV, none) else tr (tfT (V.2 p).2.2 a.toInt64 b.toInt64 c.toInt64 d.toInt64 q.toInt64 (V.2 p).1) (nI (V.2 p).1) (setP V p ((V.2 p).1, (V.2 p).2.1, fun j => if j % 8 < 6 then qr (mn (V.2 p).2.2 (j / 8) a.toInt64 b.toInt64 c.toInt64 d.toInt64 (j % 8)) q.toInt64 else (V.2 p).2.2 j))
def shT (g : Nat → Int32) (dx dy : Int32) : Nat → Int32
  | 0 => 0
  | k + 1 => mvT g k dx dy (shT g dx dy k)
def F_shift (V : ab_V) (x1 dx dy : Int32) : ab_R := onP V x1 fun p => if ln dx dy = false then (BV, none) else tr (shT (V.2 p).2.2 (dx * 46656) (dy * 46656) (V.2 p).1) (nI (V.2 p).1) (setP V p ((V.2 p).1, (V.2 p).2.1, fun j => if j % 8 < 2 then mvG (V.2 p).2.2 (j / 8) (dx * 46656) (dy * 46656) j else (V.2 p).2.2 j))
/-- a path as it may be -/
def okP (P : ab_P) : Prop := 1 ≤ P.1 ∧ P.1 ≤ 12 ∧ (P.2.1 = true → 2 ≤ P.1) ∧ (∀ k, k < P.1 → ∀ f, f < 6 → -9331200 ≤ (P.2.2 (8 * k + f)).toInt ∧ (P.2.2 (8 * k + f)).toInt ≤ 9331200) ∧ ∀ k, k < P.1 → (P.2.2 (8 * k + 6) = 0 ∧ P.2.2 (8 * k + 7) = 0) ∨ ∃ a b, 1 ≤ a ∧ a ≤ 999 ∧ 1 ≤ b ∧ b ≤ 999 ∧ P.2.2 (8 * k + 6) = nI a ∧ P.2.2 (8 * k + 7) = nI b
def okV (V : ab_V) : Prop := V.1 ≤ 6 ∧ ∀ p, p < V.1 → okP (V.2 p)
section
variable {l : Launch} {D : ax_D} {S : ax_S} {E C : ax_C} {B pr : Nat} {τ : Nat → Nat} {A : ab_A}
theorem c_isBetween {x lo hi : Int32} : ax_CI l D mt_X7_isBetween [ax_i x, ax_i lo, ax_i hi] S C (fun r C' => r = bI (bt x lo hi) ∧ C' = C) := by
  refine vc_X7_isBetween ⟨fun z => ⟨?_, rfl⟩, fun z => ⟨fun w => ⟨?_, rfl⟩, fun w => ⟨?_, rfl⟩⟩⟩
  · simp [bt, z, bI]
  · simp [bt, w, bI]
  · simp only [bt, z, w, decide_false, Bool.not_false, Bool.and_self]; rfl
theorem c_isLength {x : Int32} : ax_CI l D mt_X7_isLength [ax_i x] S C (fun r C' => r = bI (bt x (-200) 200) ∧ C' = C) := vc_X7_isLength (c_isBetween.use ⟨bI_01 _, rfl, rfl⟩)
theorem c_isFactor {x : Int32} : ax_CI l D mt_X7_isFactor [ax_i x] S C (fun r C' => r = bI (fc x) ∧ C' = C) := vc_X7_isFactor (c_isBetween.use ⟨bI_01 _, rfl, rfl⟩)
/-- in a change: the draft, its paths, what it shows, the trouble -/
def dS (S : ax_S) (E C : ax_C) (B : Nat) (τ : Nat → Nat) (pr : Nat) (A : ab_A) (d : Nat) (σ : Nat → Nat) (V : ab_V) (t : Int32) : Prop := zS S E C B τ pr A ∧ d = B + 3 + 14 * τ 11 ∧ τ 11 < 12 ∧ ps S C d σ ∧ sh C d σ V ∧ lA S C (B + 173) t
theorem s_start {P : Option Nat → ax_C → Prop} (h : cls S E C B A) (hp : ∀ C1 τ pr d σ, dS S E C1 B τ pr A d σ (nw A) 0 → P (some d) C1) : ax_CR l D mt_X7_startChange [ax_r (some B)] S C P := by
  obtain ⟨τ, pr, h⟩ := h
  refine (c_startChange h).mono ?_
  rintro r C1 ⟨rfl, h1, ⟨σ, h2, h3⟩, h4⟩
  exact hp C1 τ pr _ σ ⟨h1, rfl, h1.2.2.1.2.2.1.1 11 (by omega), h2, h3, h4⟩
theorem dS_cls {d : Nat} {σ : Nat → Nat} {V : ab_V} {t : Int32} (h : dS S E C B τ pr A d σ V t) : cls S E C B A := ⟨τ, pr, h.1⟩
theorem s_path {d : Nat} {σ : Nat → Nat} {V : ab_V} {t x : Int32} {P : Option Nat → ax_C → Prop} (h : dS S E C B τ pr A d σ V t) (h1 : ∀ k, k < V.1 → x = nI k → ix x V.1 = some k → P (some (d + 2 + 2 * σ k)) C) (h2 : ix x V.1 = none → P none C) : ax_CR l D mt_X4_pathAt [ax_r (some d), ax_i x] S C P := by
  refine (c_pathAt h.2.2.2.1 h.2.2.2.2.1).mono ?_
  have hV := h.2.2.2.2.1.1
  rintro r C' ⟨rfl, ⟨k, hk, hx, rfl⟩ | ⟨rfl, hx⟩⟩
  · exact h1 k hk hx (by rw [hx]; exact ix_some hk (by omega))
  · exact h2 (ix_none (by omega) hx)
theorem dS_p {d k : Nat} {σ : Nat → Nat} {V : ab_V} {t : Int32} (h : dS S E C B τ pr A d σ V t) (hk : k < V.1) : pA S C (d + 2 + 2 * σ k) ∧ cP C (d + 2 + 2 * σ k) (V.2 k) ∧ σ k < 6 := by
  have hV := h.2.2.2.2.1.1
  exact ⟨ps_4 h.2.2.2.1 (by omega), h.2.2.2.2.1.2.2 k hk, ps_1 h.2.2.2.1 (by omega)⟩
theorem s_node {i : Nat} {Q : ab_P} {x : Int32} {P : Int32 → ax_C → Prop} (hP : pA S C i) (hc : cP C i Q) (h1 : ∀ k, k < Q.1 → x = nI k → ix x Q.1 = some k → P 1 C) (h2 : ix x Q.1 = none → P 0 C) : ax_CI l D mt_X3_hasNode [ax_r (some i), ax_i x] S C P := by
  have hQ := hc.1
  refine (c_hasNode hP hc.2.1 (by omega)).mono ?_
  rintro r C' ⟨rfl, ⟨rfl, k, hk, hx⟩ | ⟨rfl, hx⟩⟩
  · exact h1 k hk hx (by rw [hx]; exact ix_some hk (by omega))
  · exact h2 (ix_none (by omega) hx)
/-- the end of a change of one path -/
theorem s_end {d k i : Nat} {σ : Nat → Nat} {V : ab_V} {t t2 x : Int32} {C' : ax_C} {Q : ab_P} {P : Int32 → ax_C → Prop} (h : dS S E C B τ pr A d σ V t) (hk : k < V.1) (hi : i = d + 2 + 2 * σ k) (e1 : ∀ b, b ≠ i → b ≠ i + 1 → b ≠ B + 173 → C'.1 b = C.1 b) (e2 : C'.2.2 = C.2.2) (hl : lA S C' (B + 173) t2) (hQ : t2 = 0 → cP C' i Q) (hp : ∀ C2, cls S E C2 B (updA A (tr t2 x (setP V k Q)).2) → P (tr t2 x (setP V k Q)).1 C2) : ax_CI l D mt_X7_endChange [ax_r (some B), ax_i x] S C' P := by
  obtain ⟨h1, rfl, h3, h4, h5, h6⟩ := h
  subst hi
  have hV := h5.1
  have hsk := ps_1 (k := k) h4 (by omega)
  have hps : ps S C' (B + 3 + 14 * τ 11) σ := ps_fr h4 fun b _ _ => by rw [e2]
  have hz : zS S E C' B τ pr A := zS_fr h1 (fun b b1 b2 => e1 b (by omega) (by omega) b2) (fun b _ => by rw [e2]) ⟨σ, hps⟩
  refine (c_endChange (V := setP V k Q) (t := t2) hz (fun w => ⟨σ, hps, sh_set h4 h5 hk (fun b b1 b2 b3 b4 => e1 b b3 b4 (by omega)) (hQ w)⟩) hl).mono ?_
  rintro r C2 ⟨w1, w2⟩
  unfold tr at hp
  by_cases z : t2 = 0
  · obtain ⟨rfl, w⟩ := w2 z
    rw [if_pos z] at hp
    exact hp C2 w
  · obtain ⟨rfl, w⟩ := w1 z
    rw [if_neg z] at hp
    exact hp C2 w
theorem lA_fr {L : Nat} {t : Int32} {C' : ax_C} (h : lA S C L t) (e : C'.1 L = C.1 L) : lA S C' L t := by
  unfold lA
  rw [e]
  exact h
end
