/-! ===== what may stand in a path is kept by every change ===== -/
def bnd (x : Int32) : Prop := -9331200 ≤ x.toInt ∧ x.toInt ≤ 9331200
def rtO (x y : Int32) : Prop := (x = 0 ∧ y = 0) ∨ ∃ a b, 1 ≤ a ∧ a ≤ 999 ∧ 1 ≤ b ∧ b ≤ 999 ∧ x = nI a ∧ y = nI b
def okN (g : Nat → Int32) (k : Nat) : Prop := (∀ f, f < 6 → bnd (g (8 * k + f))) ∧ rtO (g (8 * k + 6)) (g (8 * k + 7))
def okG (g : Nat → Int32) (n : Nat) : Prop := ∀ k, k < n → okN g k
theorem okP_iff {P : ab_P} : okP P ↔ 1 ≤ P.1 ∧ P.1 ≤ 12 ∧ (P.2.1 = true → 2 ≤ P.1) ∧ okG P.2.2 P.1 :=
  ⟨fun h => ⟨h.1, h.2.1, h.2.2.1, fun k hk => ⟨h.2.2.2.1 k hk, h.2.2.2.2 k hk⟩⟩, fun h => ⟨h.1, h.2.1, h.2.2.1, fun k hk => (h.2.2.2 k hk).1, fun k hk => (h.2.2.2 k hk).2⟩⟩
theorem okN_c {g g' : Nat → Int32} {j k : Nat} (h : okN g j) (e : ∀ f, f < 8 → g' (8 * k + f) = g (8 * j + f)) : okN g' k := by
  refine ⟨fun f hf => ?_, ?_⟩
  · rw [e f (by omega)]; exact h.1 f hf
  · rw [e 6 (by omega), e 7 (by omega)]; exact h.2
theorem okG_c {g g' : Nat → Int32} {n : Nat} (h : okG g n) (e : ∀ q, q < 8 * n → g' q = g q) : okG g' n := fun k hk => okN_c (h k hk) fun f hf => e _ (by omega)
theorem okG_up {g : Nat → Int32} {n q : Nat} {x : Int32} (h : okG g n) (hq : q % 8 < 6) (hx : bnd x) : okG (va_up g q x) n := by
  intro k hk
  have hn := h k hk
  refine ⟨fun f hf => ?_, ?_⟩
  · by_cases z : 8 * k + f = q
    · rw [n_up_t z]; exact hx
    · rw [n_up_n z]; exact hn.1 f hf
  · rw [n_up_n (by omega), n_up_n (by omega)]; exact hn.2
theorem okG_67 {g : Nat → Int32} {n k : Nat} {x y : Int32} (h : okG g n) (hr : rtO x y) : okG (va_up (va_up g (8 * k + 6) x) (8 * k + 7) y) n := by
  intro j hj
  have hn := h j hj
  refine ⟨fun f hf => ?_, ?_⟩
  · rw [n_up_n (by omega), n_up_n (by omega)]; exact hn.1 f hf
  · by_cases z : j = k
    · rw [n_up_n (by omega), n_up_t (by omega), n_up_t (by omega)]; exact hr
    · rw [n_up_n (by omega), n_up_n (by omega), n_up_n (by omega), n_up_n (by omega)]; exact hn.2
theorem rtO_0 : rtO 0 0 := Or.inl ⟨rfl, rfl⟩
theorem rtO_nn {x y : Int32} (h : rtO x y) : (0 < x.toInt.toNat → 1 ≤ x.toInt.toNat ∧ 1 ≤ y.toInt.toNat) := by
  rcases h with ⟨rfl, rfl⟩ | ⟨a, b, h1, h2, h3, h4, rfl, rfl⟩
  · intro w
    exact absurd w (by decide)
  · rw [n_toInt (by omega), n_toInt (by omega)]
    intro _
    omega
theorem okG_rw2 {g : Nat → Int32} {n k a b : Nat} (h : okG g n) (ha : 1 ≤ a) (hb : 1 ≤ b) : okG (rw2 g k a b) n := by
  unfold rw2
  refine okG_67 h ?_
  have g0 : 0 < Nat.gcd a b := Nat.gcd_pos_of_pos_left _ ha
  have g1 : 1 ≤ a / Nat.gcd a b := Nat.div_pos (Nat.le_of_dvd ha (Nat.gcd_dvd_left a b)) g0
  have g2 : 1 ≤ b / Nat.gcd a b := Nat.div_pos (Nat.le_of_dvd hb (Nat.gcd_dvd_right a b)) g0
  cases hr : rt a b
  · exact rtO_0
  · rw [if_pos rfl, if_pos rfl]
    unfold rt at hr
    simp only [Bool.and_eq_true, decide_eq_true_eq] at hr
    exact Or.inr ⟨_, _, g1, hr.1, g2, hr.2, rfl, rfl⟩
theorem okG_sr {g : Nat → Int32} {n k p q : Nat} {b : Bool} (h : okG g n) (hb : b = true → 1 ≤ p ∧ 1 ≤ q) : okG (sr g k p q b) n := by
  unfold sr
  cases b
  · exact h
  · rw [if_pos rfl]
    exact okG_rw2 h (hb rfl).1 (hb rfl).2
theorem chk_b {t : Int32} {x y : Int64} (h : chk t x y = 0) : t = 0 ∧ bnd (qr x y) := by
  obtain ⟨h1, _, h2⟩ := (chk_0 _ _ _).mp h
  refine ⟨h1, ?_⟩
  unfold qg at h2
  have e1 : (9331200 : Int64).toInt = 9331200 := rfl
  have e2 : (-9331200 : Int64).toInt = -9331200 := rfl
  have a1 : (x / y).toInt ≤ 9331200 := by
    have : ¬ 9331200 < x / y := fun w => h2 (Or.inl w)
    rw [Int64.lt_iff_toInt_lt, e1] at this
    omega
  have a2 : -9331200 ≤ (x / y).toInt := by
    have : ¬ x / y < -9331200 := fun w => h2 (Or.inr w)
    rw [Int64.lt_iff_toInt_lt, e2] at this
    omega
  unfold bnd qr
  rw [Int64.toInt_toInt32, Int.bmod_eq_of_le (by omega) (by omega)]
  exact ⟨a2, a1⟩
theorem bnd_0 : bnd 0 := ⟨by decide, by decide⟩
theorem bnd_200 {x : Int32} (h : -200 ≤ x.toInt ∧ x.toInt ≤ 200) : bnd (x * 46656) := by
  have e : (46656 : Int32).toInt = 46656 := rfl
  unfold bnd
  rw [Int32.toInt_mul, e, Int.bmod_eq_of_le (by omega) (by omega)]
  omega
theorem ln_b {x y : Int32} (h : ln x y ≠ false) : bnd (x * 46656) ∧ bnd (y * 46656) := by
  unfold ln at h
  have h1 : bt x (-200) 200 = true ∧ bt y (-200) 200 = true := by
    rw [← Bool.and_eq_true]
    cases hb : bt x (-200) 200 && bt y (-200) 200
    · exact absurd hb h
    · rfl
  exact ⟨bnd_200 (bt_200.mp h1.1), bnd_200 (bt_200.mp h1.2)⟩
theorem okG_nd {g v : Nat → Int32} {n : Nat} (h : okG g n) (hv : (∀ f, f < 6 → bnd (v f)) ∧ rtO (v 6) (v 7)) : okG (nd g n v) (n + 1) := by
  intro k hk
  by_cases z : k = n
  · have e : ∀ f, f < 8 → nd g n v (8 * k + f) = v f := fun f hf => by
      unfold nd
      rw [if_pos (by omega), show 8 * k + f - 8 * n = f by omega]
    refine ⟨fun f hf => ?_, ?_⟩
    · rw [e f (by omega)]; exact hv.1 f hf
    · rw [e 6 (by omega), e 7 (by omega)]; exact hv.2
  · refine okN_c (h k (by omega)) fun f hf => ?_
    unfold nd
    rw [if_neg (by omega)]
theorem ok_cn {x y : Int32} (hx : bnd x) (hy : bnd y) : (∀ f, f < 6 → bnd (cn x y f)) ∧ rtO (cn x y 6) (cn x y 7) := by
  refine ⟨fun f hf => ?_, rtO_0⟩
  unfold cn
  by_cases z0 : f = 0
  · rw [if_pos z0]; exact hx
  rw [if_neg z0]
  by_cases z1 : f = 1
  · rw [if_pos z1]; exact hy
  rw [if_neg z1]
  exact bnd_0
theorem okG_0 (g : Nat → Int32) : okG g 0 := fun k hk => absurd hk (Nat.not_lt_zero k)
/-- values -/
def okR (R : ab_R) : Prop := ∀ V, R.2 = some V → okV V
theorem okR_n (x : Int32) : okR (x, none) := fun V h => by cases h
theorem okR_s {x : Int32} {V : ab_V} (h : okV V) : okR (x, some V) := fun W e => by cases e; exact h
theorem okR_tr {t x : Int32} {V : ab_V} (h : t = 0 → okV V) : okR (tr t x V) := by
  unfold tr
  by_cases z : t = 0
  · rw [if_pos z]; exact okR_s (h z)
  · rw [if_neg z]; exact okR_n t
theorem okR_if {c : Prop} [Decidable c] {R R2 : ab_R} (h1 : c → okR R) (h2 : ¬ c → okR R2) : okR (if c then R else R2) := by
  by_cases z : c
  · rw [if_pos z]; exact h1 z
  · rw [if_neg z]; exact h2 z
theorem ix_lt {x : Int32} {n p : Nat} (h : ix x n = some p) : p < n := by
  unfold ix at h
  split at h
  · next z =>
    have := Option.some.inj h
    omega
  · cases h
theorem okR_P {V : ab_V} {x : Int32} {F : Nat → ab_R} (h : ∀ p, p < V.1 → okR (F p)) : okR (onP V x F) := by
  unfold onP
  cases e : ix x V.1 with
  | none => exact okR_n BI
  | some p => exact h p (ix_lt e)
theorem okR_N {V : ab_V} {x y : Int32} {F : Nat → Nat → ab_R} (h : ∀ p k, p < V.1 → k < (V.2 p).1 → okR (F p k)) : okR (onN V x y F) := by
  unfold onN
  refine okR_P fun p hp => ?_
  cases e : ix y (V.2 p).1 with
  | none => exact okR_n BI
  | some k => exact h p k hp (ix_lt e)
theorem okV_set {V : ab_V} {k : Nat} {P : ab_P} (h : okV V) (hP : okP P) : okV (setP V k P) := by
  refine ⟨h.1, fun p hp => ?_⟩
  show okP (va_up V.2 k P p)
  by_cases z : p = k
  · rw [n_up_t z]; exact hP
  · rw [n_up_n z]; exact h.2 p hp
theorem okV_add {V : ab_V} {P : ab_P} (h : okV V) (h6 : V.1 ≠ 6) (hP : okP P) : okV (addP V P) := by
  have := h.1
  refine ⟨by show V.1 + 1 ≤ 6; omega, fun p hp => ?_⟩
  have hp : p < V.1 + 1 := hp
  show okP (va_up V.2 V.1 P p)
  by_cases z : p = V.1
  · rw [n_up_t z]; exact hP
  · rw [n_up_n z]; exact h.2 p (by omega)
theorem okV_rm {V : ab_V} {k : Nat} (h : okV V) (hk : k < V.1) : okV (rmP V k) := by
  have := h.1
  refine ⟨by show V.1 - 1 ≤ 6; omega, fun p hp => ?_⟩
  have hp : p < V.1 - 1 := hp
  show okP (if p < k then V.2 p else V.2 (p + 1))
  by_cases z : p < k
  · rw [if_pos z]; exact h.2 p (by omega)
  · rw [if_neg z]; exact h.2 (p + 1) (by omega)
theorem okP_g {P : ab_P} {g : Nat → Int32} (h : okP P) (hg : okG g P.1) : okP (P.1, P.2.1, g) := by
  have := okP_iff.mp h
  exact okP_iff.mpr ⟨this.1, this.2.1, this.2.2.1, hg⟩
theorem okV_G {V : ab_V} {p : Nat} (h : okV V) (hp : p < V.1) : okG (V.2 p).2.2 (V.2 p).1 := (okP_iff.mp (h.2 p hp)).2.2.2
/-- the changes -/
theorem k_addPath {V : ab_V} {x y : Int32} (h : okV V) : okR (F_addPath V x y) := by
  unfold F_addPath
  refine okR_if (fun _ => okR_n _) fun z1 => okR_if (fun _ => okR_n _) fun z2 => okR_s (okV_add h z2 ?_)
  refine okP_iff.mpr ⟨Nat.le_refl 1, by show 1 ≤ 12; omega, fun w => (by cases w), ?_⟩
  have := okG_nd (okG_0 fun _ => 0) (ok_cn (ln_b z1).1 (ln_b z1).2)
  refine okG_c this fun q hq => ?_
  show cn _ _ q = _
  unfold nd
  rw [if_pos (by omega)]
  rfl
theorem k_extend {V : ab_V} {x1 x y : Int32} (h : okV V) : okR (F_extend V x1 x y) := by
  unfold F_extend
  refine okR_P fun p hp => okR_if (fun _ => okR_n _) fun z1 => okR_if (fun _ => okR_n _) fun z2 => okR_if (fun _ => okR_n _) fun z3 => okR_s (okV_set h ?_)
  have hP := okP_iff.mp (h.2 p hp)
  refine okP_iff.mpr ⟨by show 1 ≤ _ + 1; omega, by show _ + 1 ≤ 12; omega, fun w => (by cases w), ?_⟩
  exact okG_nd hP.2.2.2 (ok_cn (ln_b z1).1 (ln_b z1).2)
theorem k_removePath {V : ab_V} {x1 : Int32} (h : okV V) : okR (F_removePath V x1) := by
  unfold F_removePath
  exact okR_P fun p hp => okR_s (okV_rm h hp)
theorem k_mv {g : Nat → Int32} {n k : Nat} {dx dy t : Int32} (h : okG g n) (ht : mvT g k dx dy t = 0) : okG (mvG g k dx dy) n := by
  unfold mvT at ht
  obtain ⟨h1, h2⟩ := chk_b ht
  obtain ⟨h3, h4⟩ := chk_b h1
  unfold mvG
  exact okG_up (okG_up h (by omega) h4) (by omega) h2
theorem k_moveNode {V : ab_V} {x1 x2 dx dy : Int32} (h : okV V) : okR (F_moveNode V x1 x2 dx dy) := by
  unfold F_moveNode
  exact okR_N fun p k hp hk => okR_if (fun _ => okR_n _) fun z1 => okR_tr fun ht => okV_set h (okP_g (h.2 p hp) (k_mv (okV_G h hp) ht))
theorem k_fG {g : Nat → Int32} {n k : Nat} {o : Bool} {t : Int32} (h : okG g n) (ht : fT g k o t = 0) : okG (fG g k o) n := by
  unfold fT at ht
  obtain ⟨h1, h2⟩ := chk_b ht
  obtain ⟨h3, h4⟩ := chk_b h1
  unfold fG
  refine okG_up (okG_up h ?_ h4) ?_ h2 <;> cases o <;> (simp only [if_true, Bool.false_eq_true, if_false]; omega)
theorem k_hd {g : Nat → Int32} {n k : Nat} {o : Bool} {x y : Int32} (h : okG g n) (hx : bnd x) (hy : bnd y) : okG (hdG g k o x y) n := by
  unfold hdG
  refine okG_up (okG_up h ?_ hx) ?_ hy <;> cases o <;> (simp only [if_true, Bool.false_eq_true, if_false]; omega)
theorem k_setHandle {V : ab_V} {x1 x2 dx dy : Int32} {o : Bool} (h : okV V) : okR (F_setHandle V x1 x2 o dx dy) := by
  unfold F_setHandle
  refine okR_N fun p k hp hk => okR_if (fun _ => okR_n _) fun z1 => okR_if (fun _ => okR_s ?_) fun _ => okR_tr fun ht => ?_
  · exact okV_set h (okP_g (h.2 p hp) (k_hd (okV_G h hp) (ln_b z1).1 (ln_b z1).2))
  · exact okV_set h (okP_g (h.2 p hp) (k_fG (k_hd (okV_G h hp) (ln_b z1).1 (ln_b z1).2) ht))
theorem k_setSmooth {V : ab_V} {x1 x2 a b : Int32} (h : okV V) : okR (F_setSmooth V x1 x2 a b) := by
  unfold F_setSmooth
  refine okR_N fun p k hp hk => okR_if (fun _ => okR_n _) fun z1 => okR_tr fun ht => okV_set h (okP_g (h.2 p hp) (k_fG (okG_rw2 (okV_G h hp) ?_ ?_) ht))
  · have : bt a 1 999 = true := by
      cases hb : bt a 1 999
      · exact absurd (Or.inl hb) z1
      · rfl
    exact (bt_n (lo := 1) (hi := 999) (by omega) (by omega) this).1
  · have : bt b 1 999 = true := by
      cases hb : bt b 1 999
      · exact absurd (Or.inr hb) z1
      · rfl
    exact (bt_n (lo := 1) (hi := 999) (by omega) (by omega) this).1
theorem k_setCorner {V : ab_V} {x1 x2 : Int32} (h : okV V) : okR (F_setCorner V x1 x2) := by
  unfold F_setCorner
  exact okR_N fun p k hp hk => okR_s (okV_set h (okP_g (h.2 p hp) (okG_67 (okV_G h hp) rtO_0)))
