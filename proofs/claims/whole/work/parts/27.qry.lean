/-! ===== the class's other calls ===== -/
def IE : Int32 := -100000005
def NO : Int32 := -100000007
def qP {α : Type} (V : ab_V) (x : Int32) (e : α) (F : Nat → α) : α := match ix x V.1 with
  | none => e
  | some p => F p
def qN (V : ab_V) (x y : Int32) (F : Nat → Nat → Int32) : Int32 := qP V x BI fun p => match ix y (V.2 p).1 with
  | none => BI
  | some k => F p k
def Q_nodes (V : ab_V) (x : Int32) : Int32 := qP V x BI fun p => nI (V.2 p).1
def Q_isClosed (V : ab_V) (x : Int32) : Int32 := qP V x BI fun p => bI (V.2 p).2.1
def Q_coordinate (V : ab_V) (x y w : Int32) : Int32 := qN V x y fun p k => if bt w 0 5 = false then BV else (V.2 p).2.2 (8 * k + w.toInt.toNat)
def Q_ratio (V : ab_V) (x y : Int32) (o : Bool) : Int32 := qN V x y fun p k => rn (V.2 p).2.2 k (if o then 7 else 6)
def ptS (g : Nat → Int32) (n k ax : Nat) (a b : Int32) : Int32 := if v_s g k (eo n k) ax a b - v_s g k (eo n k) ax a b / cu b * cu b = 0 then (v_s g k (eo n k) ax a b / cu b).toInt32 else IE
def Q_point (V : ab_V) (x y a b : Int32) (o : Bool) : Int32 := qP V x BI fun p => match ix y (sg (V.2 p).1 (V.2 p).2.1) with
  | none => BI
  | some k => if bt b 1 6 = false ∨ bt a 0 b = false then BV else ptS (V.2 p).2.2 (V.2 p).1 k (if o then 1 else 0) a b
def Q_area (V : ab_V) (x : Int32) : Int64 := qP V x (-100000001 : Int64) fun p => if (V.2 p).2.1 = true then aS (V.2 p).2.2 (V.2 p).1 (V.2 p).1 else (-100000003 : Int64)
def Q_box (V : ab_V) (x s : Int32) : Int32 := qP V x BI fun p => if bt s 0 3 = false then BV else exS (V.2 p).2.2 (V.2 p).1 (s.toInt.toNat / 2) (decide (s.toInt.toNat % 2 = 1)) (sg (V.2 p).1 (V.2 p).2.1)
def fd (V : ab_V) (x y : Int32) : Nat → Nat → Int32
  | 0, _ => NO
  | m + 1, p => if nf (V.2 p).2.2 x y (V.2 p).1 0 = NO then fd V x y m (p + 1) else 100 * nI p + nf (V.2 p).2.2 x y (V.2 p).1 0
def Q_find (V : ab_V) (x y : Int32) : Int32 := if ln x y = false then BV else fd V (x * 46656) (y * 46656) V.1 0
def co (g : Nat → Int32) (n : Nat) (b : Bool) : Nat → Int32
  | 0 => 0
  | k + 1 => if g (8 * k + 6) = 0 ∧ ar n b k = true then co g n b k + 1 else co g n b k
def Q_corners (V : ab_V) (x : Int32) : Int32 := qP V x BI fun p => co (V.2 p).2.2 (V.2 p).1 (V.2 p).2.1 (V.2 p).1
def ckS (V : ab_V) : Nat → Int64
  | 0 => 1829 + (nI V.1).toInt64
  | p + 1 => hP1 (V.2 p).2.2 (V.2 p).1 (V.2 p).2.1 (ckS V p)
def F_undo (A : ab_A) : Int32 × ab_A := if A.2.1 = 0 then (NP, A) else (nI (A.2.1 - 1), (A.1, A.2.1 - 1, A.2.2.1 + 1, A.2.2.2))
def F_redo (A : ab_A) : Int32 × ab_A := if A.2.2.1 = 0 then (NP, A) else (nI (A.2.2.1 - 1), (A.1, A.2.1 + 1, A.2.2.1 - 1, A.2.2.2))
def F_append (A : ab_A) (x : Int32) : Int32 × ab_A := if bt x 0 127 = false then (BV, A) else if A.2.2.2.2.2.2.1 = 120 then (FU, A) else (nI (A.2.2.2.2.2.2.1 + 1), (A.1, A.2.1, A.2.2.1, A.2.2.2.1, A.2.2.2.2.1, va_up A.2.2.2.2.2.1 A.2.2.2.2.2.2.1 x, A.2.2.2.2.2.2.1 + 1, A.2.2.2.2.2.2.2))
def F_clear (A : ab_A) : Int32 × ab_A := (nI A.2.2.2.2.2.2.1, (A.1, A.2.1, A.2.2.1, A.2.2.2.1, A.2.2.2.2.1, A.2.2.2.2.2.1, 0, A.2.2.2.2.2.2.2))
def Q_printed (A : ab_A) (x : Int32) : Int32 := match ix x A.2.2.2.2.2.2.2.2 with
  | none => BI
  | some k => A.2.2.2.2.2.2.2.1 k
def F_save (A : ab_A) (x : Int32) : Int32 × ab_A := match ix x 2 with
  | none => (BI, A)
  | some s => (nI (nw A).1, (A.1, A.2.1, A.2.2.1, va_up A.2.2.2.1 s (nw A), va_up A.2.2.2.2.1 s true, A.2.2.2.2.2))
def F_restore (A : ab_A) (x : Int32) : Int32 × ab_A := match ix x 2 with
  | none => (BI, A)
  | some s => if A.2.2.2.2.1 s = false then (NP, A) else (nI (A.2.2.2.1 s).1, ((fun _ => A.2.2.2.1 s), 0, 0, A.2.2.2))
section
variable {l : Launch} {D : ax_D} {S : ax_S} {E C : ax_C} {B pr : Nat} {τ : Nat → Nat} {A : ab_A}
abbrev oQ {α : Type} (S : ax_S) (E : ax_C) (B : Nat) (R : α × ab_A) : α → ax_C → Prop := fun r C' => r = R.1 ∧ cls S E C' B R.2
/-- the present picture -/
theorem s_now {P : Option Nat → ax_C → Prop} (h : cls S E C B A) (hp : ∀ τ pr d σ, zS S E C B τ pr A → ps S C d σ → sh C d σ (nw A) → B + 3 ≤ d → d + 14 ≤ B + 171 → P (some d) C) : ax_CR l D mt_X1_now [ax_r (C.2.2 B 0)] S C P := by
  obtain ⟨τ, pr, h⟩ := h
  rw [h.2.1.1.1]
  refine (c_now h).use ?_
  obtain ⟨σ, h1, h2⟩ := now_pc h
  have k := h.2.2.1
  have := k.2.2.1.1 pr (by have := k.1.1; omega)
  exact hp τ pr _ σ h h1 h2 (by omega) (by omega)
theorem s_now2 {P : Option Nat → ax_C → Prop} {x : Int32} (h : cls S E C B A) (hp : ∀ i p, p < (nw A).1 → x = nI p → ix x (nw A).1 = some p → pA S C i → cP C i ((nw A).2 p) → P (some i) C) (hn : ix x (nw A).1 = none → P none C) : ax_CR l D mt_X1_now [ax_r (C.2.2 B 0)] S C (fun y2 C1 => ax_CR l D mt_X4_pathAt [ax_r y2, ax_i x] S C1 P) := by
  refine s_now h fun τ pr d σ hz h1 h2 b1 b2 => (c_pathAt h1 h2).mono ?_
  have hV := h2.1
  rintro r C' ⟨rfl, ⟨k, hk, hx, rfl⟩ | ⟨rfl, hx⟩⟩
  · exact hp _ k hk hx (by rw [hx]; exact ix_some hk (by omega)) (ps_4 h1 (by omega)) (h2.2.2 k hk)
  · exact hn (ix_none (by omega) hx)
theorem o_paths (h : cls S E C B A) : ax_CI l D mt_X7_paths [ax_r (some B)] S C (oQ S E B (nI (nw A).1, A)) :=
  vc_X7_paths (cls_8 h) ⟨cls_8 h, s_now h fun τ pr d σ hz h1 h2 b1 b2 => ⟨h1.1, h2.2.1, h⟩⟩
theorem o_nodes {x : Int32} (h : cls S E C B A) : ax_CI l D mt_X7_nodes [ax_r (some B), ax_i x] S C (oQ S E B (Q_nodes (nw A) x, A)) := by
  refine vc_X7_nodes (cls_8 h) ⟨cls_8 h, s_now2 h (fun i p hp hx hi hP hc => ?_) fun hi => ?_⟩
  · simp only [Q_nodes, qP, hi]
    exact ⟨fun b hb => ⟨hP.1, hc.2.1, h⟩, fun q => by cases q⟩
  · simp only [Q_nodes, qP, hi]
    exact ⟨fun b hb => (by cases hb), fun _ => ⟨rfl, h⟩⟩
theorem o_isClosed {x : Int32} (h : cls S E C B A) : ax_CI l D mt_X7_isClosed [ax_r (some B), ax_i x] S C (oQ S E B (Q_isClosed (nw A) x, A)) := by
  refine vc_X7_isClosed (cls_8 h) ⟨cls_8 h, s_now2 h (fun i p hp hx hi hP hc => ?_) fun hi => ?_⟩
  · simp only [Q_isClosed, qP, hi]
    refine ⟨fun b hb => ⟨hP.1, ?_⟩, fun q => by cases q⟩
    rw [hc.2.2.1]
    cases ((nw A).2 p).2.1
    · exact ⟨fun _ => ⟨rfl, h⟩, fun q => absurd rfl q⟩
    · exact ⟨fun q => absurd q (by decide), fun _ => ⟨rfl, h⟩⟩
  · simp only [Q_isClosed, qP, hi]
    exact ⟨fun b hb => (by cases hb), fun _ => ⟨rfl, h⟩⟩
theorem o_coordinate {x y w : Int32} (h : cls S E C B A) : ax_CI l D mt_X7_coordinate [ax_r (some B), ax_i x, ax_i y, ax_i w] S C (oQ S E B (Q_coordinate (nw A) x y w, A)) := by
  refine vc_X7_coordinate (cls_8 h) ⟨cls_8 h, s_now2 h (fun i p hp hx hi hP hc => ?_) fun hi => ?_⟩
  · have h12 := hc.1
    refine ⟨fun q => (by cases q), fun b hb => s_node hP hc (fun k hk hx2 hi2 => ⟨fun _ => c_isBetween.use ?_, fun q => absurd q (by decide)⟩) fun hi2 => ?_⟩
    · simp only [Q_coordinate, qN, qP, hi, hi2]
      cases hb : bt w 0 5
      · exact ⟨fun _ => ⟨rfl, h⟩, fun q => absurd rfl q⟩
      obtain ⟨w1, w2, w3⟩ := bt_n (lo := 0) (hi := 5) (by omega) (by omega) hb
      refine ⟨fun q => absurd q (by decide), fun _ => (c_get hP hx2 (by omega) w3 (by omega)).use ?_⟩
      rw [if_neg (by decide)]
      exact ⟨hc.2.2.2 _ (by omega), h⟩
    · simp only [Q_coordinate, qN, qP, hi, hi2]
      exact ⟨fun q => absurd trivial q, fun _ => ⟨rfl, h⟩⟩
  · simp only [Q_coordinate, qN, qP, hi]
    exact ⟨fun _ => ⟨rfl, h⟩, fun b hb => by cases hb⟩
theorem o_ratio {x y z : Int32} {o : Bool} (h : cls S E C B A) (hz : z = bI o) : ax_CI l D mt_X7_ratio [ax_r (some B), ax_i x, ax_i y, ax_i z] S C (oQ S E B (Q_ratio (nw A) x y o, A)) := by
  refine vc_X7_ratio (cls_8 h) fun P44 h44 => ⟨cls_8 h, s_now2 h (fun i p hp hx hi hP hc => ?_) fun hi => ?_⟩
  · have h12 := hc.1
    refine ⟨fun q => (by cases q), fun b hb => s_node hP hc (fun k hk hx2 hi2 => ⟨fun _ => ?_, fun q => absurd q (by decide)⟩) fun hi2 => ?_⟩
    · simp only [Q_ratio, qN, qP, hi, hi2] at h44
      have e : ∀ f, f < 8 → (if C.1 (i + 1) (8 * k + 6) = 0 then (-100000007) else C.1 (i + 1) (8 * k + f)) = rn ((nw A).2 p).2.2 k f := fun f hf => by
        unfold rn
        rw [hc.2.2.2 _ (by omega), hc.2.2.2 (8 * k + f) (by omega)]
      rw [hz]
      cases o
      · refine ⟨fun _ => h44 _ _ _ ((c_ratioNumber hP hx2 (by omega) (f := 6) rfl (by omega)).use ?_), fun q => absurd rfl q⟩
        exact ⟨e 6 (by omega), h⟩
      · refine ⟨fun q => absurd q (by decide), fun _ => h44 _ _ _ ((c_ratioNumber hP hx2 (by omega) (f := 7) rfl (by omega)).use ?_)⟩
        exact ⟨e 7 (by omega), h⟩
    · simp only [Q_ratio, qN, qP, hi, hi2]
      exact ⟨fun q => absurd trivial q, fun _ => ⟨rfl, h⟩⟩
  · simp only [Q_ratio, qN, qP, hi]
    exact ⟨fun _ => ⟨rfl, h⟩, fun b hb => by cases hb⟩
theorem cls_l {c : Nat} {F : Nat → Int64} (h : cls S E C B A) : cls S E (lW C c F) B A := h
theorem s_seg {i : Nat} {Q : ab_P} {x : Int32} {P : Int32 → ax_C → Prop} (hP : pA S C i) (hc : cP C i Q) (hn : 1 ≤ Q.1) (h1 : ∀ k, k < sg Q.1 Q.2.1 → x = nI k → ix x (sg Q.1 Q.2.1) = some k → P 1 C) (h2 : ix x (sg Q.1 Q.2.1) = none → P 0 C) : ax_CI l D mt_X3_hasSegment [ax_r (some i), ax_i x] S C P := by
  have hQ := hc.1
  have hsg : sg Q.1 Q.2.1 ≤ 12 := by unfold sg; split <;> omega
  refine (c_hasSegment hP hc.2.1 hc.2.2.1 hn (by omega)).mono ?_
  rintro r C' ⟨rfl, ⟨rfl, k, hk, hx⟩ | ⟨rfl, hx⟩⟩
  · exact h1 k hk hx (by rw [hx]; exact ix_some hk (by omega))
  · exact h2 (ix_none (by omega) hx)
theorem o_point {x y a b z : Int32} {o : Bool} (h : cls S E C B A) (hok : okV (nw A)) (hz : z = bI o) : ax_CI l D mt_X7_point [ax_r (some B), ax_i x, ax_i y, ax_i a, ax_i b, ax_i z] S C (oQ S E B (Q_point (nw A) x y a b o, A)) := by
  refine vc_X7_point (cls_8 h) fun P77 h77 => ⟨cls_8 h, s_now2 h (fun i p hp hx hi hP hc => ?_) fun hi => ?_⟩
  · have h12 := hc.1
    have hn1 := (hok.2 p hp).1
    have h8 := cls_8 h
    have hR := va_cp hc
    refine ⟨fun q => (by cases q), fun b' hb' => s_seg hP hc hn1 (fun k hk hx2 hi2 => ⟨fun _ => c_isBetween.use ?_, fun q => absurd q (by decide)⟩) fun hi2 => ?_⟩
    · simp only [Q_point, qP, hi, hi2] at h77 ⊢
      cases hb : bt b 1 6
      · rw [if_pos (Or.inl rfl)]
        exact ⟨fun _ => ⟨rfl, h⟩, fun q => absurd rfl q⟩
      refine ⟨fun q => absurd q (by decide), fun _ => c_isBetween.use ?_⟩
      cases hb2 : bt a 0 b
      · rw [if_pos (Or.inr rfl)]
        exact ⟨fun q => absurd rfl q, fun _ => ⟨rfl, h⟩⟩
      rw [if_neg (by rw [hb, hb2]; decide)] at h77
      obtain ⟨b1, b2, b3⟩ := bt_n (lo := 1) (hi := 6) (by omega) (by omega) hb
      refine ⟨fun _ => ⟨h8, ?_⟩, fun q => absurd q (by decide)⟩
      have hk12 : k < ((nw A).2 p).1 := by
        unfold sg at hk
        split at hk <;> omega
      have he : eo ((nw A).2 p).1 k < ((nw A).2 p).1 := by unfold eo; split <;> omega
      refine (c_endOf hP hc.2.1 h12 hx2 (by omega)).use ?_
      obtain ⟨τ, pr, hzS⟩ := id h
      rw [hzS.2.1.1.2.2.2.2.1]
      have hcu : ¬ cu b = 0 := by
        have : b.toInt.toNat = 1 ∨ b.toInt.toNat = 2 ∨ b.toInt.toNat = 3 ∨ b.toInt.toNat = 4 ∨ b.toInt.toNat = 5 ∨ b.toInt.toNat = 6 := by omega
        rcases this with w | w | w | w | w | w <;> rw [b3, w] <;> decide
      have b77 : ∀ ax, ax < 2 → (if o = true then 1 else 0) = ax → P77 (some (B + 174)) (some i) (nI (eo ((nw A).2 p).1 k)) (nI ax) C := by
        intro ax hax hO
        rw [hO] at h77
        refine h77 _ _ _ _ _ ((c_make hP hzS.1.2.2.2.2.2.2.2.2.2.1 hx2 (by omega) rfl (by omega) rfl hax).mono ?_)
        rintro C14 ⟨F, rfl, f0, f1, f2⟩
        have e4 : (lW C (B + 174) F).2.2 B 4 = some (B + 174) := hzS.2.1.1.2.2.2.2.1
        have eF : (lW C (B + 174) F).2.1 (B + 174) = F := va_up_self _ _ _
        have es : v_s (C.1 (i + 1)) k (eo ((nw A).2 p).1 k) ax a b = v_s ((nw A).2 p).2.2 k (eo ((nw A).2 p).1 k) ax a b := by
          simp only [v_s, v_r0, v_r1, v_p1, v_p2, hR (8 * k + (0 + ax)) (by omega), hR (8 * k + (4 + ax)) (by omega), hR (8 * eo ((nw A).2 p).1 k + (0 + ax)) (by omega), hR (8 * eo ((nw A).2 p).1 k + (2 + ax)) (by omega)]
        refine ⟨h8, ?_⟩
        rw [e4]
        refine ⟨hzS.1.2.2.2.2.2.2.2.2.2.1, hcu, ?_⟩
        rw [eF, f2, es]
        unfold ptS
        refine ⟨fun w => ⟨?_, h⟩, fun w => ⟨h8, hzS.1.2.2.2.2.2.2.2.2.2.1, hcu, ?_, h⟩⟩
        · exact (if_neg w).symm
        · rw [eF, f2, es]; exact (if_pos w).symm
      rw [hz]
      cases o
      · exact ⟨fun _ => b77 0 (by omega) rfl, fun q => absurd rfl q⟩
      · exact ⟨fun q => absurd q (by decide), fun _ => b77 1 (by omega) rfl⟩
    · simp only [Q_point, qP, hi, hi2]
      exact ⟨fun q => absurd trivial q, fun _ => ⟨rfl, h⟩⟩
  · simp only [Q_point, qP, hi]
    exact ⟨fun _ => ⟨rfl, h⟩, fun b hb => by cases hb⟩
theorem o_area {x : Int32} (h : cls S E C B A) (hok : okV (nw A)) : ax_CL l D mt_X7_area [ax_r (some B), ax_i x] S C (oQ S E B (Q_area (nw A) x, A)) := by
  refine vc_X7_area (cls_8 h) ⟨cls_8 h, s_now2 h (fun i p hp hx hi hP hc => ?_) fun hi => ?_⟩
  · simp only [Q_area, qP, hi]
    have hn1 := (hok.2 p hp).1
    refine ⟨fun b hb => ⟨hP.1, ?_⟩, fun q => by cases q⟩
    rw [hc.2.2.1]
    cases hb : ((nw A).2 p).2.1
    · exact ⟨fun _ => ⟨rfl, h⟩, fun q => absurd rfl q⟩
    · refine ⟨fun q => absurd q (by decide), fun _ => (c_sixtyAreas hP hc.2.1 hc.2.2.1 hn1 hc.1).use ⟨?_, h⟩⟩
      rw [hb, if_pos rfl]
      exact aS_c (va_cp hc) _ (Nat.le_refl _)
  · simp only [Q_area, qP, hi]
    exact ⟨fun b hb => (by cases hb), fun _ => ⟨rfl, h⟩⟩
theorem o_box {x s : Int32} (h : cls S E C B A) (hok : okV (nw A)) : ax_CI l D mt_X7_box [ax_r (some B), ax_i x, ax_i s] S C (oQ S E B (Q_box (nw A) x s, A)) := by
  refine vc_X7_box (cls_8 h) fun P47 h47 => ⟨cls_8 h, s_now2 h (fun i p hp hx hi hP hc => ?_) fun hi => ?_⟩
  · simp only [Q_box, qP, hi] at h47 ⊢
    have hn1 := (hok.2 p hp).1
    refine ⟨fun b hb => c_isBetween.use ?_, fun q => by cases q⟩
    cases hb : bt s 0 3
    · exact ⟨fun q => absurd rfl q, fun _ => ⟨rfl, h⟩⟩
    rw [if_neg (by rw [hb]; decide)] at h47
    obtain ⟨s1, s2, s3⟩ := bt_n (lo := 0) (hi := 3) (by omega) (by omega) hb
    generalize s.toInt.toNat = n at *
    subst s3
    refine ⟨fun _ => ⟨by decide, by decide, ?_⟩, fun q => absurd q (by decide)⟩
    have e1 : nI n - nI n / 2 * 2 = nI (n % 2) := by
      rw [show (2 : Int32) = nI 2 from rfl, pk_rem (by omega) (by omega) (by omega)]
    have e2 : nI n / 2 = nI (n / 2) := by
      rw [show (2 : Int32) = nI 2 from rfl, pk_div (by omega) (by omega) (by omega)]
    rw [e1, e2]
    have hsg : sg ((nw A).2 p).1 ((nw A).2 p).2.1 ≤ ((nw A).2 p).1 := by unfold sg; split <;> omega
    have b47 : P47 (some i) (nI (n / 2)) (bI (decide (n % 2 = 1))) C := by
      refine h47 _ _ _ _ ((c_extreme hP hc.2.1 hc.2.2.1 hn1 hc.1 rfl (by omega) rfl).use ⟨?_, h⟩)
      exact exS_c (va_cp hc) hn1 (by omega) _ hsg
    rcases (show n % 2 = 0 ∨ n % 2 = 1 by omega) with w | w
    · rw [w] at b47 ⊢
      exact ⟨fun _ => b47, fun q => absurd q (by decide)⟩
    · rw [w] at b47 ⊢
      exact ⟨fun q => absurd rfl q, fun _ => b47⟩
  · simp only [Q_box, qP, hi]
    exact ⟨fun b hb => (by cases hb), fun _ => ⟨rfl, h⟩⟩
theorem o_find {x y : Int32} (h : cls S E C B A) : ax_CI l D mt_X7_find [ax_r (some B), ax_i x, ax_i y] S C (oQ S E B (Q_find (nw A) x y, A)) := by
  unfold Q_find ln
  refine vc_X7_find (cls_8 h) fun P28 h28 => c_isLength.use ?_
  cases ha : bt x (-200) 200
  · exact ⟨fun _ => ⟨rfl, h⟩, fun q => absurd rfl q⟩
  refine ⟨fun q => absurd q (by decide), fun _ => c_isLength.use ?_⟩
  cases hb : bt y (-200) 200
  · exact ⟨fun q => absurd rfl q, fun _ => ⟨rfl, h⟩⟩
  rw [ha, hb, if_neg (by decide)] at h28
  refine ⟨fun _ => ⟨cls_8 h, s_now h fun τ pr d σ hz h1 h2 b1 b2 => ?_⟩, fun q => absurd q (by decide)⟩
  have hV := h2.1
  have loop : ∀ (m p : Nat), p + m = (nw A).1 → fd (nw A) (x * 46656) (y * 46656) (nw A).1 0 = fd (nw A) (x * 46656) (y * 46656) m p → P28 (some d) (nI p) C := by
    intro m
    induction m with
    | zero =>
      intro p hp e
      refine h28 _ _ _ ⟨h1.1, ?_⟩
      rw [h2.2.1]
      exact ⟨fun _ => ⟨e.symm, h⟩, fun w => n_absurd (by simp (disch := omega) only [n_lit0, n_lit1, n_lit2, n_lit3, n_lit4, n_lit5, n_lit6, n_lit7, n_lit8, n_lit9, n_lit10, n_lit11, n_lit12, n_lit13, n_lit14, n_lit15, n_lit16, n_lit17, n_lit18, n_lit19, n_lit20, n_lit21, n_lit22, n_lit23, n_lit24, n_lit30, n_lit31, n_lit32, n_lit45, n_lit48, n_lit49, n_lit57, n_lit59, n_lit60, n_lit67, n_lit76, n_lit77, n_lit90, n_lit96, n_lit97, n_lit98, n_lit99, n_lit100, n_lit119, n_lit120, n_lit127, n_lit128, n_lit196, n_lit200, n_lit208, n_lit294, n_lit340, n_lit341, n_lit392, n_lit490, n_lit491, n_lit500, n_lit588, n_lit589, n_lit999, n_lit1178, n_lit5301, n_lit5890, n_lit46656, n_add, n_mul, n_sub, n_lt_t, n_lt_f, n_le_t, n_le_f, n_eq_t, n_eq_f, n_clamp, n_in_t, ax_sm_s, true_and, and_true, not_true_eq_false, not_false_eq_true, true_imp, false_imp, imp_true, and_self, ax_wI_2, ax_rI_2, ax_wI_t, ax_wI_n, ax_rI_t, ax_rI_n, n_up_t, n_up_n, ne_eq, or_true, true_or, false_or, or_false, some_ex, n_none1, n_none2, ite_true, ite_false]) w⟩
    | succ m ih =>
      intro p hp e
      refine h28 _ _ _ ⟨h1.1, ?_⟩
      rw [h2.2.1]
      refine ⟨fun w => n_absurd w (by simp (disch := omega) only [n_lit0, n_lit1, n_lit2, n_lit3, n_lit4, n_lit5, n_lit6, n_lit7, n_lit8, n_lit9, n_lit10, n_lit11, n_lit12, n_lit13, n_lit14, n_lit15, n_lit16, n_lit17, n_lit18, n_lit19, n_lit20, n_lit21, n_lit22, n_lit23, n_lit24, n_lit30, n_lit31, n_lit32, n_lit45, n_lit48, n_lit49, n_lit57, n_lit59, n_lit60, n_lit67, n_lit76, n_lit77, n_lit90, n_lit96, n_lit97, n_lit98, n_lit99, n_lit100, n_lit119, n_lit120, n_lit127, n_lit128, n_lit196, n_lit200, n_lit208, n_lit294, n_lit340, n_lit341, n_lit392, n_lit490, n_lit491, n_lit500, n_lit588, n_lit589, n_lit999, n_lit1178, n_lit5301, n_lit5890, n_lit46656, n_add, n_mul, n_sub, n_lt_t, n_lt_f, n_le_t, n_le_f, n_eq_t, n_eq_f, n_clamp, n_in_t, ax_sm_s, true_and, and_true, not_true_eq_false, not_false_eq_true, true_imp, false_imp, imp_true, and_self, ax_wI_2, ax_rI_2, ax_wI_t, ax_wI_n, ax_rI_t, ax_rI_n, n_up_t, n_up_n, ne_eq, or_true, true_or, false_or, or_false, some_ex, n_none1, n_none2, ite_true, ite_false]), fun _ => ⟨h1.1, ?_⟩⟩
      rw [h1.2.2.2.1]
      refine ⟨h1.2.1, by rw [h1.2.2.1]; exact vp_in_nI (by omega) (by omega), ?_⟩
      rw [n_clamp (by omega), ps_2 h1 (by omega)]
      have hc := h2.2.2 p (by omega)
      refine (c_nodeAt (ps_4 h1 (by omega)) hc.2.1 hc.1).use ?_
      rw [nf_c (va_cp hc) _ _ (by omega)]
      have e2 : fd (nw A) (x * 46656) (y * 46656) (m + 1) p = if nf ((nw A).2 p).2.2 (x * 46656) (y * 46656) ((nw A).2 p).1 0 = NO then fd (nw A) (x * 46656) (y * 46656) m (p + 1) else 100 * nI p + nf ((nw A).2 p).2.2 (x * 46656) (y * 46656) ((nw A).2 p).1 0 := rfl
      rw [e2] at e
      refine ⟨fun w => ?_, fun w => ?_⟩
      · rw [n_succ]
        refine ih (p + 1) (by omega) ?_
        rw [e]; exact if_pos w
      · refine ⟨?_, h⟩
        show _ = fd _ _ _ _ _
        rw [e]; exact (if_neg w).symm
  exact loop (nw A).1 0 (by omega) rfl
theorem o_corners {x : Int32} (h : cls S E C B A) : ax_CI l D mt_X7_corners [ax_r (some B), ax_i x] S C (oQ S E B (Q_corners (nw A) x, A)) := by
  refine vc_X7_corners (cls_8 h) fun P24 P54 h24 h54 => ⟨cls_8 h, s_now2 h (fun i p hp hx hi hP hc => ?_) fun hi => ?_⟩
  · simp only [Q_corners, qP, hi] at h24
    refine ⟨fun b hb => ?_, fun q => by cases q⟩
    have h12 := hc.1
    have hR := va_cp hc
    have loop : ∀ (m k : Nat), k + m = ((nw A).2 p).1 → P24 (some i) (co ((nw A).2 p).2.2 ((nw A).2 p).1 ((nw A).2 p).2.1 k) (nI k) C := by
      intro m
      induction m with
      | zero =>
        intro k hk
        have : k = ((nw A).2 p).1 := by omega
        subst this
        refine h24 _ _ _ _ ⟨hP.1, ?_⟩
        rw [hc.2.1]
        exact ⟨fun _ => ⟨rfl, h⟩, fun w => n_absurd (by simp (disch := omega) only [n_lit0, n_lit1, n_lit2, n_lit3, n_lit4, n_lit5, n_lit6, n_lit7, n_lit8, n_lit9, n_lit10, n_lit11, n_lit12, n_lit13, n_lit14, n_lit15, n_lit16, n_lit17, n_lit18, n_lit19, n_lit20, n_lit21, n_lit22, n_lit23, n_lit24, n_lit30, n_lit31, n_lit32, n_lit45, n_lit48, n_lit49, n_lit57, n_lit59, n_lit60, n_lit67, n_lit76, n_lit77, n_lit90, n_lit96, n_lit97, n_lit98, n_lit99, n_lit100, n_lit119, n_lit120, n_lit127, n_lit128, n_lit196, n_lit200, n_lit208, n_lit294, n_lit340, n_lit341, n_lit392, n_lit490, n_lit491, n_lit500, n_lit588, n_lit589, n_lit999, n_lit1178, n_lit5301, n_lit5890, n_lit46656, n_add, n_mul, n_sub, n_lt_t, n_lt_f, n_le_t, n_le_f, n_eq_t, n_eq_f, n_clamp, n_in_t, ax_sm_s, true_and, and_true, not_true_eq_false, not_false_eq_true, true_imp, false_imp, imp_true, and_self, ax_wI_2, ax_rI_2, ax_wI_t, ax_wI_n, ax_rI_t, ax_rI_n, n_up_t, n_up_n, ne_eq, or_true, true_or, false_or, or_false, some_ex, n_none1, n_none2, ite_true, ite_false]) w⟩
      | succ m ih =>
        intro k hk
        refine h24 _ _ _ _ ⟨hP.1, ?_⟩
        rw [hc.2.1]
        refine ⟨fun w => n_absurd w (by simp (disch := omega) only [n_lit0, n_lit1, n_lit2, n_lit3, n_lit4, n_lit5, n_lit6, n_lit7, n_lit8, n_lit9, n_lit10, n_lit11, n_lit12, n_lit13, n_lit14, n_lit15, n_lit16, n_lit17, n_lit18, n_lit19, n_lit20, n_lit21, n_lit22, n_lit23, n_lit24, n_lit30, n_lit31, n_lit32, n_lit45, n_lit48, n_lit49, n_lit57, n_lit59, n_lit60, n_lit67, n_lit76, n_lit77, n_lit90, n_lit96, n_lit97, n_lit98, n_lit99, n_lit100, n_lit119, n_lit120, n_lit127, n_lit128, n_lit196, n_lit200, n_lit208, n_lit294, n_lit340, n_lit341, n_lit392, n_lit490, n_lit491, n_lit500, n_lit588, n_lit589, n_lit999, n_lit1178, n_lit5301, n_lit5890, n_lit46656, n_add, n_mul, n_sub, n_lt_t, n_lt_f, n_le_t, n_le_f, n_eq_t, n_eq_f, n_clamp, n_in_t, ax_sm_s, true_and, and_true, not_true_eq_false, not_false_eq_true, true_imp, false_imp, imp_true, and_self, ax_wI_2, ax_rI_2, ax_wI_t, ax_wI_n, ax_rI_t, ax_rI_n, n_up_t, n_up_n, ne_eq, or_true, true_or, false_or, or_false, some_ex, n_none1, n_none2, ite_true, ite_false]), fun _ => (c_isSmooth hP rfl (by omega)).use ?_⟩
        rw [hR _ (by omega)]
        have nx := ih (k + 1) (by omega)
        unfold co at nx
        by_cases w : ((nw A).2 p).2.2 (8 * k + 6) = 0
        · rw [if_pos w]
          refine ⟨fun q => absurd rfl q, fun _ => (c_hasSegmentsAround hP hc.2.1 hc.2.2.1 (by omega) rfl (by omega)).use ?_⟩
          cases har : ar ((nw A).2 p).1 ((nw A).2 p).2.1 k
          · rw [if_neg (by rw [har]; simp)] at nx
            refine ⟨fun _ => h54 _ _ _ _ ?_, fun q => absurd rfl q⟩
            rw [n_succ]; exact nx
          · rw [if_pos ⟨w, har⟩] at nx
            refine ⟨fun q => absurd q (by decide), fun _ => h54 _ _ _ _ ?_⟩
            rw [n_succ]; exact nx
        · rw [if_neg w]
          rw [if_neg (fun q => w q.1)] at nx
          refine ⟨fun _ => h54 _ _ _ _ ?_, fun q => absurd q (by decide)⟩
          rw [n_succ]; exact nx
    exact loop ((nw A).2 p).1 0 (by omega)
  · simp only [Q_corners, qP, hi]
    exact ⟨fun b hb => (by cases hb), fun _ => ⟨rfl, h⟩⟩
theorem o_checksum (h : cls S E C B A) (hok : okV (nw A)) : ax_CL l D mt_X7_checksum [ax_r (some B)] S C (oQ S E B (ckS (nw A) (nw A).1, A)) := by
  refine vc_X7_checksum (cls_8 h) fun P21 h21 => ⟨cls_8 h, s_now h fun τ pr d σ hz h1 h2 b1 b2 => ⟨h1.1, ?_⟩⟩
  have hV := h2.1
  rw [h2.2.1]
  have loop : ∀ (m p : Nat), p + m = (nw A).1 → P21 (some d) (ckS (nw A) p) (nI p) C := by
    intro m
    induction m with
    | zero =>
      intro p hp
      have : p = (nw A).1 := by omega
      subst this
      refine h21 _ _ _ _ ⟨h1.1, ?_⟩
      rw [h2.2.1]
      exact ⟨fun _ => ⟨rfl, h⟩, fun w => n_absurd (by simp (disch := omega) only [n_lit0, n_lit1, n_lit2, n_lit3, n_lit4, n_lit5, n_lit6, n_lit7, n_lit8, n_lit9, n_lit10, n_lit11, n_lit12, n_lit13, n_lit14, n_lit15, n_lit16, n_lit17, n_lit18, n_lit19, n_lit20, n_lit21, n_lit22, n_lit23, n_lit24, n_lit30, n_lit31, n_lit32, n_lit45, n_lit48, n_lit49, n_lit57, n_lit59, n_lit60, n_lit67, n_lit76, n_lit77, n_lit90, n_lit96, n_lit97, n_lit98, n_lit99, n_lit100, n_lit119, n_lit120, n_lit127, n_lit128, n_lit196, n_lit200, n_lit208, n_lit294, n_lit340, n_lit341, n_lit392, n_lit490, n_lit491, n_lit500, n_lit588, n_lit589, n_lit999, n_lit1178, n_lit5301, n_lit5890, n_lit46656, n_add, n_mul, n_sub, n_lt_t, n_lt_f, n_le_t, n_le_f, n_eq_t, n_eq_f, n_clamp, n_in_t, ax_sm_s, true_and, and_true, not_true_eq_false, not_false_eq_true, true_imp, false_imp, imp_true, and_self, ax_wI_2, ax_rI_2, ax_wI_t, ax_wI_n, ax_rI_t, ax_rI_n, n_up_t, n_up_n, ne_eq, or_true, true_or, false_or, or_false, some_ex, n_none1, n_none2, ite_true, ite_false]) w⟩
    | succ m ih =>
      intro p hp
      refine h21 _ _ _ _ ⟨h1.1, ?_⟩
      rw [h2.2.1]
      refine ⟨fun w => n_absurd w (by simp (disch := omega) only [n_lit0, n_lit1, n_lit2, n_lit3, n_lit4, n_lit5, n_lit6, n_lit7, n_lit8, n_lit9, n_lit10, n_lit11, n_lit12, n_lit13, n_lit14, n_lit15, n_lit16, n_lit17, n_lit18, n_lit19, n_lit20, n_lit21, n_lit22, n_lit23, n_lit24, n_lit30, n_lit31, n_lit32, n_lit45, n_lit48, n_lit49, n_lit57, n_lit59, n_lit60, n_lit67, n_lit76, n_lit77, n_lit90, n_lit96, n_lit97, n_lit98, n_lit99, n_lit100, n_lit119, n_lit120, n_lit127, n_lit128, n_lit196, n_lit200, n_lit208, n_lit294, n_lit340, n_lit341, n_lit392, n_lit490, n_lit491, n_lit500, n_lit588, n_lit589, n_lit999, n_lit1178, n_lit5301, n_lit5890, n_lit46656, n_add, n_mul, n_sub, n_lt_t, n_lt_f, n_le_t, n_le_f, n_eq_t, n_eq_f, n_clamp, n_in_t, ax_sm_s, true_and, and_true, not_true_eq_false, not_false_eq_true, true_imp, false_imp, imp_true, and_self, ax_wI_2, ax_rI_2, ax_wI_t, ax_wI_n, ax_rI_t, ax_rI_n, n_up_t, n_up_n, ne_eq, or_true, true_or, false_or, or_false, some_ex, n_none1, n_none2, ite_true, ite_false]), fun _ => ⟨h1.1, ?_⟩⟩
      rw [h1.2.2.2.1]
      refine ⟨h1.2.1, by rw [h1.2.2.1]; exact vp_in_nI (by omega) (by omega), ?_⟩
      rw [n_clamp (by omega), ps_2 h1 (by omega)]
      have hc := h2.2.2 p (by omega)
      refine (c_hashOnto (ps_4 h1 (by omega)) hc.2.1 hc.2.2.1 (hok.2 p (by omega)).1 hc.1).use ?_
      rw [hP1_c (va_cp hc), n_succ]
      exact ih (p + 1) (by omega)
  exact loop (nw A).1 0 (by omega)
end
