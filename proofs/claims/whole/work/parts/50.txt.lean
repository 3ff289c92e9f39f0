/-! ===== texts: what they tell ===== -/
def hr (T : Nat → Int32) (L a : Nat) : Int32 := if a < L then T a else -1
def isd (x : Int32) : Bool := bt x 48 57
/-- the digits from a place on -/
def dg (T : Nat → Int32) (L : Nat) : Nat → Nat → Nat → Nat × Nat
  | 0, a, v => (v, a)
  | f + 1, a, v => if isd (hr T L a) = true then dg T L f (a + 1) (10 * v + ((hr T L a).toInt.toNat - 48)) else (v, a)
def nuV (T : Nat → Int32) (L a : Nat) : Nat × Nat := if hr T L a = 48 then (0, a + 1) else dg T L 120 a 0
/-- a number, not further from another than 200: its value, and the place behind it; or the place of the fault -/
def nu (T : Nat → Int32) (L : Nat) (fr : Int32) (a : Nat) : Option Int32 × Nat :=
  if hr T L a = 45 then
    (if isd (hr T L (a + 1)) = false ∨ hr T L (a + 1) = 48 then (none, a + 1)
     else if 200 < (nuV T L (a + 1)).1 ∨ bt (-(nI (nuV T L (a + 1)).1) - fr) (-200) 200 = false then (none, a) else (some (-(nI (nuV T L (a + 1)).1)), (nuV T L (a + 1)).2))
  else
    (if isd (hr T L a) = false then (none, a)
     else if 200 < (nuV T L a).1 ∨ bt (nI (nuV T L a).1 - fr) (-200) 200 = false then (none, a) else (some (nI (nuV T L a).1), (nuV T L a).2))
def po (T : Nat → Int32) (L : Nat) (fx fy : Int32) (a : Nat) : Option (Int32 × Int32) × Nat := match nu T L fx a with
  | (none, q) => (none, q)
  | (some x, q) => if hr T L q = 32 then (match nu T L fy (q + 1) with
    | (none, r) => (none, r)
    | (some y, r) => (some (x, y), r)) else (none, q)
def cuN (x y u v : Int32) (f : Nat) : Int32 := if f = 0 then x else if f = 1 then y else if f = 2 then u else if f = 3 then v else 0
def cvN (P : ab_P) (x1 y1 x2 y2 x3 y3 : Int32) : ab_P := (P.1 + 1, P.2.1, nd (va_up (va_up P.2.2 (8 * (P.1 - 1) + 4) (x1 - P.2.2 (8 * (P.1 - 1)))) (8 * (P.1 - 1) + 5) (y1 - P.2.2 (8 * (P.1 - 1) + 1))) P.1 (cuN x3 y3 (x2 - x3) (y2 - y3)))
def cv (T : Nat → Int32) (L : Nat) (P : ab_P) (a : Nat) : Option ab_P × Nat := match po T L (P.2.2 (8 * (P.1 - 1))) (P.2.2 (8 * (P.1 - 1) + 1)) a with
  | (none, q) => (none, q)
  | (some w1, q1) => if hr T L q1 = 32 then (match po T L 0 0 (q1 + 1) with
    | (none, q) => (none, q)
    | (some w2, q2) => if hr T L q2 = 32 then (match po T L w2.1 w2.2 (q2 + 1) with
      | (none, q) => (none, q)
      | (some w3, q3) => (some (cvN P w1.1 w1.2 w2.1 w2.2 w3.1 w3.2), q3)) else (none, q2)) else (none, q1)
def li (T : Nat → Int32) (L : Nat) (P : ab_P) (a : Nat) : Option ab_P × Nat := match po T L 0 0 a with
  | (none, q) => (none, q)
  | (some w, q) => (some (P.1 + 1, P.2.1, nd P.2.2 P.1 (cn w.1 w.2)), q)
def nxt (T : Nat → Int32) (L : Nat) (P : ab_P) (a : Nat) : Option ab_P × Nat :=
  if hr T L a = 76 ∧ P.1 < 12 then li T L P (a + 1) else if hr T L a = 67 ∧ P.1 < 12 then cv T L P (a + 1) else if hr T L a = 90 ∧ 2 ≤ P.1 then (some (P.1, true, P.2.2), a + 1) else (none, a)
def txl (T : Nat → Int32) (L : Nat) : Nat → ab_P → Nat → Option ab_P × Nat
  | 0, P, a => (some P, a)
  | f + 1, P, a => if a < L then (if P.2.1 = true then (none, a) else match nxt T L P a with
    | (none, q) => (none, q)
    | (some P', q) => txl T L f P' q) else (some P, a)
def ptx (T : Nat → Int32) (L : Nat) : Option ab_P × Nat := if hr T L 0 = 77 then (match li T L (0, false, fun _ => 0) 1 with
  | (none, q) => (none, q)
  | (some P, q) => txl T L 120 P q) else (none, 0)
def flt (T : Nat → Int32) (L : Nat) : Int32 := match ptx T L with
  | (none, q) => nI q
  | (some _, _) => NO
/-- units as parts -/
def prt (P : ab_P) : ab_P := (P.1, P.2.1, fun q => P.2.2 q * (if q % 8 < 6 then 46656 else 1))
def F_read (V : ab_V) (T : Nat → Int32) (L : Nat) : ab_R := match ptx T L with
  | (none, _) => (NP, none)
  | (some P, _) => if V.1 = 6 then (FU, none) else (nI V.1, some (addP V (prt P)))
/-- bytes -/
def byt (T : Nat → Int32) (L : Nat) : Prop := L ≤ 120 ∧ ∀ q, q < L → ∃ c, c < 128 ∧ T q = nI c
theorem hr_lt {T : Nat → Int32} {L a : Nat} {x : Int32} (h : hr T L a = x) (hx : x ≠ -1) : a < L := by
  unfold hr at h
  rcases Nat.lt_or_ge a L with q | q
  · exact q
  · rw [if_neg (by omega)] at h
    exact absurd h.symm hx
theorem isd_lt {T : Nat → Int32} {L a : Nat} (h : isd (hr T L a) = true) : a < L := by
  rcases Nat.lt_or_ge a L with q | q
  · exact q
  · unfold hr at h
    rw [if_neg (by omega)] at h
    exact absurd h (by decide)
theorem isd_v {T : Nat → Int32} {L a : Nat} (h : isd (hr T L a) = true) : ∃ d, d ≤ 9 ∧ hr T L a = nI (48 + d) ∧ (hr T L a).toInt.toNat - 48 = d := by
  unfold isd at h
  obtain ⟨h1, h2, h3⟩ := bt_n (lo := 48) (hi := 57) (by omega) (by omega) h
  refine ⟨(hr T L a).toInt.toNat - 48, by omega, ?_, rfl⟩
  rw [show 48 + ((hr T L a).toInt.toNat - 48) = (hr T L a).toInt.toNat by omega]
  exact h3
theorem dg_pos {T : Nat → Int32} {L : Nat} : ∀ (f a v : Nat), a ≤ (dg T L f a v).2 ∧ ((dg T L f a v).2 ≤ L ∨ (dg T L f a v).2 = a)
  | 0, a, v => ⟨Nat.le_refl _, Or.inr rfl⟩
  | f + 1, a, v => by
    unfold dg
    split
    · next h =>
      have h1 := dg_pos (T := T) (L := L) f (a + 1) (10 * v + ((hr T L a).toInt.toNat - 48))
      have h2 := isd_lt h
      omega
    · exact ⟨Nat.le_refl _, Or.inr rfl⟩
theorem nu_some {T : Nat → Int32} {L a q : Nat} {fr v : Int32} (h : nu T L fr a = (some v, q)) : a < q ∧ q ≤ L ∧ -200 ≤ v.toInt ∧ v.toInt ≤ 200 ∧ bt (v - fr) (-200) 200 = true := by
  have pos : ∀ b, isd (hr T L b) = true → b < (nuV T L b).2 ∧ (nuV T L b).2 ≤ L := by
    intro b hb
    have hl := isd_lt hb
    unfold nuV
    by_cases z : hr T L b = 48
    · rw [if_pos z]; exact ⟨by show b < b + 1; omega, by show b + 1 ≤ L; omega⟩
    · rw [if_neg z]
      unfold dg
      rw [if_pos hb]
      have h1 := dg_pos (T := T) (L := L) 119 (b + 1) (10 * 0 + ((hr T L b).toInt.toNat - 48))
      refine ⟨Nat.lt_of_lt_of_le (Nat.lt_succ_self b) h1.1, ?_⟩
      rcases h1.2 with w | w
      · exact w
      · exact Nat.le_trans (Nat.le_of_eq w) (by omega)
  unfold nu at h
  by_cases z : hr T L a = 45
  · rw [if_pos z] at h
    by_cases z1 : isd (hr T L (a + 1)) = false ∨ hr T L (a + 1) = 48
    · rw [if_pos z1] at h; cases h
    · rw [if_neg z1] at h
      by_cases z2 : 200 < (nuV T L (a + 1)).1 ∨ bt (-(nI (nuV T L (a + 1)).1) - fr) (-200) 200 = false
      · rw [if_pos z2] at h; cases h
      · rw [if_neg z2] at h
        have e1 := congrArg Prod.fst h
        have e2 := congrArg Prod.snd h
        have e1 : -(nI (nuV T L (a + 1)).1) = v := Option.some.inj e1
        have e2 : (nuV T L (a + 1)).2 = q := e2
        have hd : isd (hr T L (a + 1)) = true := by
          cases hq : isd (hr T L (a + 1))
          · exact absurd (Or.inl hq) z1
          · rfl
        have hp := pos (a + 1) hd
        have hv : (nuV T L (a + 1)).1 ≤ 200 := by
          rcases Nat.lt_or_ge 200 (nuV T L (a + 1)).1 with w | w
          · exact absurd (Or.inl w) z2
          · exact w
        have hb : bt (-(nI (nuV T L (a + 1)).1) - fr) (-200) 200 = true := by
          cases hq : bt (-(nI (nuV T L (a + 1)).1) - fr) (-200) 200
          · exact absurd (Or.inr hq) z2
          · rfl
        rw [e1] at hb
        refine ⟨by omega, by omega, ?_, ?_, hb⟩
        · rw [← e1, Int32.toInt_neg, n_toInt (by omega), Int.bmod_eq_of_le (by omega) (by omega)]; omega
        · rw [← e1, Int32.toInt_neg, n_toInt (by omega), Int.bmod_eq_of_le (by omega) (by omega)]; omega
  · rw [if_neg z] at h
    by_cases z1 : isd (hr T L a) = false
    · rw [if_pos z1] at h; cases h
    · rw [if_neg z1] at h
      by_cases z2 : 200 < (nuV T L a).1 ∨ bt (nI (nuV T L a).1 - fr) (-200) 200 = false
      · rw [if_pos z2] at h; cases h
      · rw [if_neg z2] at h
        have e1 := congrArg Prod.fst h
        have e2 := congrArg Prod.snd h
        have e1 : nI (nuV T L a).1 = v := Option.some.inj e1
        have e2 : (nuV T L a).2 = q := e2
        have hp := pos a (by simpa using z1)
        have hv : (nuV T L a).1 ≤ 200 := by
          rcases Nat.lt_or_ge 200 (nuV T L a).1 with w | w
          · exact absurd (Or.inl w) z2
          · exact w
        have hb : bt (nI (nuV T L a).1 - fr) (-200) 200 = true := by
          cases hq : bt (nI (nuV T L a).1 - fr) (-200) 200
          · exact absurd (Or.inr hq) z2
          · rfl
        rw [e1] at hb
        refine ⟨by omega, by omega, ?_, ?_, hb⟩
        · rw [← e1, n_toInt (by omega)]; omega
        · rw [← e1, n_toInt (by omega)]; omega
