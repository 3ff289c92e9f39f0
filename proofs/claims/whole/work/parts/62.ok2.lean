/-! ===== what may stand in a path: insert, removeNode, split, join, reverse, transform, shift, read; the state ===== -/
theorem okG_un {g : Nat → Int32} {n k : Nat} (h : okG g n) (hk : k < n) : okG (un g k n) (n + 1) := by
  intro j hj
  by_cases z : j ≤ k
  · refine okN_c (h j (by omega)) fun f hf => ?_
    unfold un
    rw [if_neg (by omega)]
  · refine okN_c (h (j - 1) (by omega)) fun f hf => ?_
    unfold un
    rw [if_pos (by omega)]
    exact congrArg _ (by omega)
theorem xT_e {R g : Nat → Int32} {k e ax : Nat} {a b t : Int32} (h1 : R (8 * k + (0 + ax)) = g (8 * k + (0 + ax))) (h2 : R (8 * k + (4 + ax)) = g (8 * k + (4 + ax))) (h3 : R (8 * e + (0 + ax)) = g (8 * e + (0 + ax))) (h4 : R (8 * e + (2 + ax)) = g (8 * e + (2 + ax))) : xT R k e ax a b t = xT g k e ax a b t := by
  unfold xT v_s v_r0 v_r1 v_p1 v_p2
  rw [h1, h2, h3, h4]
theorem k_xA {g : Nat → Int32} {n k e ax : Nat} {a b t : Int32} (h : okG g n) (hax : ax < 2) (ht : xT g k e ax a b t = 0) : okG (xA g k e ax a b) n ∧ t = 0 := by
  unfold xT at ht
  obtain ⟨t1, b1⟩ := chk_b ht
  obtain ⟨t2, b2⟩ := chk_b t1
  obtain ⟨t3, b3⟩ := chk_b t2
  obtain ⟨t4, b4⟩ := chk_b t3
  obtain ⟨t5, b5⟩ := chk_b t4
  refine ⟨?_, t5⟩
  unfold xA
  exact okG_up (okG_up (okG_up (okG_up (okG_up h (by omega) b5) (by omega) b4) (by omega) b3) (by omega) b2) (by omega) b1
theorem xA_odd {g : Nat → Int32} {k e q : Nat} {a b : Int32} (hq : q % 2 = 1) : xA g k e 0 a b q = g q := by
  unfold xA
  rw [n_up_n (by omega), n_up_n (by omega), n_up_n (by omega), n_up_n (by omega), n_up_n (by omega)]
theorem k_cG {g : Nat → Int32} {n k e na nb p1 q1 p2 q2 : Nat} (h : okG g n) (ht : cT g k e na nb 0 = 0) (h1 : 1 ≤ na) (h2 : na < nb) (hp : 0 < p1 → 1 ≤ p1 ∧ 1 ≤ q1) (hp2 : 0 < p2 → 1 ≤ p2 ∧ 1 ≤ q2) : okG (cG g k e na nb p1 q1 p2 q2) n := by
  unfold cT at ht
  have e1 : xT (xA g k e 0 (nI na) (nI nb)) k e 1 (nI na) (nI nb) (xT g k e 0 (nI na) (nI nb) 0) = 0 := by
    refine (xT_e (R := xA g k e 0 (nI na) (nI nb)) (g := g) (k := k) (e := e) (ax := 1) ?_ ?_ ?_ ?_).trans ht
    · exact xA_odd (by omega)
    · exact xA_odd (by omega)
    · exact xA_odd (by omega)
    · exact xA_odd (by omega)
  have t0 := (k_xA h (by omega) ht).2
  have a0 := (k_xA h (by omega) t0).1
  have a1 := (k_xA a0 (by omega) e1).1
  unfold cG
  refine okG_sr (okG_sr (okG_rw2 a1 h1 (by omega)) fun w => ?_) fun w => ?_
  · have := hp (by simpa using w)
    exact ⟨Nat.mul_pos this.1 (by omega), Nat.mul_pos this.2 h1⟩
  · have := hp2 (by simpa using w)
    exact ⟨Nat.mul_pos this.1 (by omega), Nat.mul_pos this.2 (by omega)⟩
theorem k_insert {V : ab_V} {x1 x2 a b : Int32} (h : okV V) : okR (F_insert V x1 x2 a b) := by
  unfold F_insert
  refine okR_P fun p hp => ?_
  have hP := okP_iff.mp (h.2 p hp)
  cases e : ix x2 (sg (V.2 p).1 (V.2 p).2.1) with
  | none => exact okR_n BI
  | some k =>
    dsimp only
    refine okR_if (fun _ => okR_n _) fun z1 => okR_if (fun _ => okR_n _) fun z2 => okR_tr fun ht => okV_set h ?_
    have hk := ix_lt e
    have hkn : k < (V.2 p).1 := by
      unfold sg at hk
      split at hk <;> omega
    have hb : bt b 2 6 = true := by
      cases hb : bt b 2 6
      · exact absurd (Or.inl hb) z1
      · rfl
    have ha : bt a 1 (b - 1) = true := by
      cases hb : bt a 1 (b - 1)
      · exact absurd (Or.inr hb) z1
      · rfl
    obtain ⟨b1, b2, b3⟩ := bt_n (lo := 2) (hi := 6) (by omega) (by omega) hb
    have ha2 : bt a (nI 1) (nI (b.toInt.toNat - 1)) = true := by
      rw [b3] at ha
      rw [n_lit1, n_sub (by omega)] at ha
      exact ha
    obtain ⟨a1, a2, a3⟩ := bt_n (by omega) (by omega) ha2
    have hU := okG_un hP.2.2.2 hkn
    have hs : sgX (V.2 p) k < (V.2 p).1 + 1 := by
      unfold sgX eo
      by_cases w : k + 1 < (V.2 p).1
      · rw [if_pos w, if_neg (by omega)]; omega
      · rw [if_neg w, if_pos rfl]; omega
    refine okP_iff.mpr ⟨by show 1 ≤ _ + 1; omega, by show _ + 1 ≤ 12; omega, fun w => by have := hP.2.2.1 w; show 2 ≤ _ + 1; omega, ?_⟩
    exact k_cG hU ht a1 (by omega) (rtO_nn (hU k (by omega)).2) (rtO_nn (hU _ hs).2)
theorem okG_dn {g : Nat → Int32} {n k : Nat} (h : okG g n) : okG (dn g k n) (n - 1) := by
  intro j hj
  by_cases z : k ≤ j
  · refine okN_c (h (j + 1) (by omega)) fun f hf => ?_
    unfold dn
    rw [if_pos (by omega)]
    exact congrArg _ (by omega)
  · refine okN_c (h j (by omega)) fun f hf => ?_
    unfold dn
    rw [if_neg (by omega)]
theorem k_removeNode {V : ab_V} {x1 x2 : Int32} (h : okV V) : okR (F_removeNode V x1 x2) := by
  unfold F_removeNode
  refine okR_N fun p k hp hk => okR_s ?_
  have hP := okP_iff.mp (h.2 p hp)
  by_cases z : (V.2 p).1 = 1
  · rw [if_pos z]; exact okV_rm h hp
  · rw [if_neg z]
    refine okV_set h (okP_iff.mpr ⟨by show 1 ≤ _ - 1; omega, by show _ - 1 ≤ 12; omega, fun w => ?_, okG_dn hP.2.2.2⟩)
    have w : ((V.2 p).2.1 && decide (3 ≤ (V.2 p).1)) = true := w
    simp only [Bool.and_eq_true, decide_eq_true_eq] at w
    show 2 ≤ _ - 1
    omega
theorem k_split {V : ab_V} {x1 x2 : Int32} (h : okV V) : okR (F_split V x1 x2) := by
  unfold F_split
  refine okR_N fun p k hp hk => okR_if (fun _ => okR_n _) fun z1 => ?_
  have hP := okP_iff.mp (h.2 p hp)
  refine okR_if (fun z2 => okR_if (fun _ => okR_n _) fun z3 => okR_s (okV_set h ?_)) fun z2 => okR_if (fun _ => okR_n _) fun z3 => okR_s (okV_set (okV_add h z3 ?_) ?_)
  · refine okP_iff.mpr ⟨by show 1 ≤ _ + 1; omega, by show _ + 1 ≤ 12; omega, fun w => (by cases w), fun j hj => ?_⟩
    have hj : j < (V.2 p).1 + 1 := hj
    by_cases z : j = (V.2 p).1
    · refine okN_c (hP.2.2.2 k hk) fun f hf => ?_
      show (if _ then _ else _) = _
      rw [if_neg (by omega)]
      exact congrArg _ (by omega)
    · by_cases w : j + k < (V.2 p).1
      · refine okN_c (hP.2.2.2 (j + k) w) fun f hf => ?_
        show (if _ then _ else _) = _
        rw [if_pos (by omega)]
        unfold ro
        rw [if_pos (by omega)]
        exact congrArg _ (by omega)
      · refine okN_c (hP.2.2.2 (j + k - (V.2 p).1) (by omega)) fun f hf => ?_
        show (if _ then _ else _) = _
        rw [if_pos (by omega)]
        unfold ro
        rw [if_neg (by omega)]
        exact congrArg _ (by omega)
  · refine okP_iff.mpr ⟨by show 1 ≤ _ - k; omega, by show _ - k ≤ 12; omega, fun w => (by cases w), fun j hj => ?_⟩
    have hj : j < (V.2 p).1 - k := hj
    refine okN_c (hP.2.2.2 (j + k) (by omega)) fun f hf => ?_
    show (V.2 p).2.2 _ = _
    exact congrArg _ (by omega)
  · refine okP_iff.mpr ⟨by show 1 ≤ k + 1; omega, by show k + 1 ≤ 12; omega, fun w => (by cases w), fun j hj => ?_⟩
    have hj : j < k + 1 := hj
    exact hP.2.2.2 j (by omega)
theorem okG_mg {g h : Nat → Int32} {n m : Nat} (hg : okG g n) (hh : okN h m) : okG (mg g h m) n := by
  have h1 : okG (mg1 g h m) n := by
    unfold mg1
    exact okG_up (okG_up hg (by omega) (hh.1 2 (by omega))) (by omega) (hh.1 3 (by omega))
  unfold mg
  split
  · exact h1
  · exact okG_67 (k := 0) h1 rtO_0
theorem k_join {V : ab_V} {x1 x2 : Int32} (h : okV V) : okR (F_join V x1 x2) := by
  unfold F_join
  refine okR_P fun p hp => okR_P fun o ho => okR_if (fun _ => okR_n _) fun z1 => okR_if (fun _ => okR_n _) fun z2 => okR_s ?_
  have hP := okP_iff.mp (h.2 p hp)
  have hO := okP_iff.mp (h.2 o ho)
  have hJ : okG (jG V p o) (V.2 o).1 := by
    unfold jG
    by_cases z : ms (V.2 p).2.2 (V.2 p).1 (V.2 o).2.2 = true
    · rw [if_pos z]
      exact okG_mg hO.2.2.2 (hP.2.2.2 ((V.2 p).1 - 1) (by omega))
    · rw [if_neg z]; exact hO.2.2.2
  by_cases z : p = o
  · rw [if_pos z]
    have hn : jn V p o ≤ (V.2 p).1 := by
      unfold jn
      rw [if_pos z]
      exact Nat.sub_le _ _
    have h2 : 2 ≤ jn V p o := by
      rcases Nat.lt_or_ge (jn V p o) 2 with w | w
      · exact absurd (Or.inr (Or.inr ⟨z, w⟩)) z1
      · exact w
    refine okV_set h (okP_iff.mpr ⟨by show 1 ≤ jn V p o; omega, by show jn V p o ≤ 12; omega, fun _ => h2, fun j hj => ?_⟩)
    have hj : j < jn V p o := hj
    exact hJ j (by rw [← z]; omega)
  · rw [if_neg z]
    refine okV_rm (okV_set h (okP_iff.mpr ⟨?_, by show jn V p o ≤ 12; omega, fun w => (by cases w), fun j hj => ?_⟩)) ho
    · show 1 ≤ jn V p o
      unfold jn
      rw [if_neg z]
      split <;> omega
    · have hj : j < jn V p o := hj
      have ej : jn V p o = j1 V p o + (V.2 o).1 := by
        unfold jn j1
        rw [if_neg z]
        split <;> omega
      have e1 : j1 V p o ≤ (V.2 p).1 := by
        unfold j1
        split <;> omega
      by_cases w : j < j1 V p o
      · refine okN_c (hP.2.2.2 j (by omega)) fun f hf => ?_
        show (if _ then _ else _) = _
        rw [if_pos (by omega)]
      · refine okN_c (hJ (j - j1 V p o) (by omega)) fun f hf => ?_
        show (if _ then _ else _) = _
        rw [if_neg (by omega)]
        exact congrArg _ (by omega)
theorem k_reverse {V : ab_V} {x1 : Int32} (h : okV V) : okR (F_reverse V x1) := by
  unfold F_reverse
  refine okR_P fun p hp => okR_s (okV_set h (okP_g (h.2 p hp) fun j hj => ?_))
  have hN := okV_G h hp ((V.2 p).1 - 1 - j) (by omega)
  have e : ∀ f, f < 8 → (fun q => (V.2 p).2.2 (8 * ((V.2 p).1 - 1 - q / 8) + sf (q % 8))) (8 * j + f) = (V.2 p).2.2 (8 * ((V.2 p).1 - 1 - j) + sf f) := fun f hf => by
    show (V.2 p).2.2 _ = _
    rw [show (8 * j + f) / 8 = j by omega, show (8 * j + f) % 8 = f by omega]
  refine ⟨fun f hf => ?_, ?_⟩
  · rw [e f (by omega)]
    refine hN.1 _ ?_
    have : f = 0 ∨ f = 1 ∨ f = 2 ∨ f = 3 ∨ f = 4 ∨ f = 5 := by omega
    rcases this with rfl | rfl | rfl | rfl | rfl | rfl <;> decide
  · rw [e 6 (by omega), e 7 (by omega)]
    show rtO ((V.2 p).2.2 (8 * ((V.2 p).1 - 1 - j) + 7)) ((V.2 p).2.2 (8 * ((V.2 p).1 - 1 - j) + 6))
    rcases hN.2 with ⟨h1, h2⟩ | ⟨a, b, h1, h2, h3, h4, h5, h6'⟩
    · exact Or.inl ⟨h2, h1⟩
    · exact Or.inr ⟨b, a, h3, h4, h1, h2, h6', h5⟩
theorem k_mT {g : Nat → Int32} {k : Nat} {a b c d q : Int64} {t : Int32} : ∀ m, mT g k a b c d q t m = 0 → t = 0 ∧ ∀ f, f < m → bnd (qr (mn g k a b c d f) q)
  | 0, h => ⟨h, fun f hf => absurd hf (Nat.not_lt_zero f)⟩
  | m + 1, h => by
    obtain ⟨h1, h2⟩ := chk_b (show chk (mT g k a b c d q t m) (mn g k a b c d m) q = 0 from h)
    have := k_mT m h1
    refine ⟨this.1, fun f hf => ?_⟩
    by_cases z : f = m
    · rw [z]; exact h2
    · exact this.2 f (by omega)
theorem k_tfT {g : Nat → Int32} {a b c d q : Int64} : ∀ m, tfT g a b c d q m = 0 → ∀ k, k < m → ∀ f, f < 6 → bnd (qr (mn g k a b c d f) q)
  | 0, _, k, hk => absurd hk (Nat.not_lt_zero k)
  | m + 1, h, k, hk => by
    obtain ⟨h1, h2⟩ := k_mT 6 (show mT g m a b c d q (tfT g a b c d q m) 6 = 0 from h)
    by_cases z : k = m
    · rw [z]; exact h2
    · exact k_tfT m h1 k (by omega)
theorem k_transform {V : ab_V} {x1 a b c d q : Int32} (h : okV V) : okR (F_transform V x1 a b c d q) := by
  unfold F_transform
  refine okR_P fun p hp => okR_if (fun _ => okR_n _) fun z1 => okR_tr fun ht => okV_set h (okP_g (h.2 p hp) fun j hj => ?_)
  have hN := okV_G h hp j hj
  refine ⟨fun f hf => ?_, ?_⟩
  · show bnd (if _ then _ else _)
    rw [if_pos (by omega), show (8 * j + f) / 8 = j by omega, show (8 * j + f) % 8 = f by omega]
    exact k_tfT _ ht j hj f hf
  · show rtO (if _ then _ else _) (if _ then _ else _)
    rw [if_neg (by omega), if_neg (by omega)]
    exact hN.2
theorem k_shT {g : Nat → Int32} {dx dy : Int32} : ∀ m, shT g dx dy m = 0 → ∀ k, k < m → mvT g k dx dy (shT g dx dy k) = 0
  | 0, _, k, hk => absurd hk (Nat.not_lt_zero k)
  | m + 1, h, k, hk => by
    by_cases z : k = m
    · rw [z]; exact h
    · have h1 : shT g dx dy m = 0 := by
        have h : mvT g m dx dy (shT g dx dy m) = 0 := h
        unfold mvT at h
        exact (chk_b (chk_b h).1).1
      exact k_shT m h1 k (by omega)
theorem k_shift {V : ab_V} {x1 dx dy : Int32} (h : okV V) : okR (F_shift V x1 dx dy) := by
  unfold F_shift
  refine okR_P fun p hp => okR_if (fun _ => okR_n _) fun z1 => okR_tr fun ht => okV_set h (okP_g (h.2 p hp) fun j hj => ?_)
  have hN := k_mv (okV_G h hp) (k_shT _ ht j hj) j hj
  have hN0 := okV_G h hp j hj
  refine ⟨fun f hf => ?_, ?_⟩
  · show bnd (if _ then _ else _)
    by_cases z : f < 2
    · rw [if_pos (by omega), show (8 * j + f) / 8 = j by omega]
      exact hN.1 f hf
    · rw [if_neg (by omega)]
      exact hN0.1 f hf
  · show rtO (if _ then _ else _) (if _ then _ else _)
    rw [if_neg (by omega), if_neg (by omega)]
    exact hN0.2
theorem k_read {V : ab_V} {T : Nat → Int32} {L : Nat} (h : okV V) : okR (F_read V T L) := by
  unfold F_read
  cases e : ptx T L with
  | mk o q =>
    cases o with
    | none => exact okR_n NP
    | some P =>
      dsimp only
      refine okR_if (fun _ => okR_n _) fun z => okR_s (okV_add h z ?_)
      obtain ⟨u, u1⟩ := uP_ptx e
      refine okP_iff.mpr ⟨u1, u.1, u.2.1, fun k hk => ?_⟩
      have hk : k < P.1 := hk
      have hu := u.2.2 k hk
      refine ⟨fun f hf => ?_, ?_⟩
      · show bnd (P.2.2 (8 * k + f) * (if (8 * k + f) % 8 < 6 then 46656 else 1))
        rw [if_pos (by omega)]
        exact bnd_200 (hu.1 f hf)
      · show rtO (P.2.2 (8 * k + 6) * (if (8 * k + 6) % 8 < 6 then 46656 else 1)) (P.2.2 (8 * k + 7) * (if (8 * k + 7) % 8 < 6 then 46656 else 1))
        rw [hu.2.1, hu.2.2, Int32.zero_mul, Int32.zero_mul]
        exact rtO_0
/-- the state -/
def okA (A : ab_A) : Prop := (∀ j, j ≤ A.2.1 + A.2.2.1 → okV (A.1 j)) ∧ (∀ s, s < 2 → A.2.2.2.2.1 s = true → okV (A.2.2.2.1 s)) ∧ byt A.2.2.2.2.2.1 A.2.2.2.2.2.2.1
theorem okA_now {A : ab_A} (h : okA A) : okV (nw A) := h.1 _ (by omega)
theorem okA_b {A : ab_A} (h : okA A) : byt A.2.2.2.2.2.1 A.2.2.2.2.2.2.1 := h.2.2
theorem k_upd {A : ab_A} {R : ab_R} (h : okA A) (hR : okR R) : okA (updA A R.2) := by
  obtain ⟨r, o⟩ := R
  cases o with
  | none => exact h
  | some V =>
    have hV : okV V := hR V rfl
    refine ⟨fun j hj => ?_, h.2.1, h.2.2⟩
    have hj : j ≤ (if A.2.1 < 10 then A.2.1 + 1 else 10) + 0 := hj
    show okV (psW A.1 A.2.1 V j)
    unfold psW
    by_cases z : A.2.1 < 10
    · rw [if_pos z] at hj ⊢
      by_cases w : j = A.2.1 + 1
      · rw [n_up_t w]; exact hV
      · rw [n_up_n w]; exact h.1 j (by omega)
    · rw [if_neg z] at hj ⊢
      show okV (if j < 10 then A.1 (j + 1) else V)
      by_cases w : j < 10
      · rw [if_pos w]; exact h.1 _ (by omega)
      · rw [if_neg w]; exact hV
theorem k_undo {A : ab_A} (h : okA A) : okA (F_undo A).2 := by
  unfold F_undo
  by_cases z : A.2.1 = 0
  · rw [if_pos z]; exact h
  · rw [if_neg z]
    exact ⟨fun j hj => h.1 j (by have : j ≤ A.2.1 - 1 + (A.2.2.1 + 1) := hj; omega), h.2⟩
theorem k_redo {A : ab_A} (h : okA A) : okA (F_redo A).2 := by
  unfold F_redo
  by_cases z : A.2.2.1 = 0
  · rw [if_pos z]; exact h
  · rw [if_neg z]
    exact ⟨fun j hj => h.1 j (by have : j ≤ A.2.1 + 1 + (A.2.2.1 - 1) := hj; omega), h.2⟩
theorem k_append {A : ab_A} {x : Int32} (h : okA A) : okA (F_append A x).2 := by
  unfold F_append
  by_cases z : bt x 0 127 = false
  · rw [if_pos z]; exact h
  · rw [if_neg z]
    by_cases w : A.2.2.2.2.2.2.1 = 120
    · rw [if_pos w]; exact h
    · rw [if_neg w]
      refine ⟨h.1, h.2.1, ?_, fun q hq => ?_⟩
      · have := h.2.2.1
        show A.2.2.2.2.2.2.1 + 1 ≤ 120
        omega
      · have hq : q < A.2.2.2.2.2.2.1 + 1 := hq
        show ∃ c, c < 128 ∧ va_up A.2.2.2.2.2.1 A.2.2.2.2.2.2.1 x q = nI c
        by_cases e : q = A.2.2.2.2.2.2.1
        · rw [n_up_t e]
          have hb : bt x 0 127 = true := by simpa using z
          obtain ⟨b1, b2, b3⟩ := bt_n (lo := 0) (hi := 127) (by omega) (by omega) hb
          exact ⟨_, by omega, b3⟩
        · rw [n_up_n e]
          exact h.2.2.2 q (by omega)
theorem k_clear {A : ab_A} (h : okA A) : okA (F_clear A).2 := ⟨h.1, h.2.1, Nat.zero_le _, fun q hq => absurd hq (Nat.not_lt_zero q)⟩
theorem k_print {A : ab_A} {x : Int32} (h : okA A) : okA (F_print A x).2 := by
  unfold F_print
  cases ix x (nw A).1 with
  | none => exact h
  | some p =>
    dsimp only
    split
    · exact h
    · exact h
theorem k_save {A : ab_A} {x : Int32} (h : okA A) : okA (F_save A x).2 := by
  unfold F_save
  cases ix x 2 with
  | none => exact h
  | some s =>
    refine ⟨h.1, fun t ht hk => ?_, h.2.2⟩
    have hk : va_up A.2.2.2.2.1 s true t = true := hk
    show okV (va_up A.2.2.2.1 s (nw A) t)
    by_cases z : t = s
    · rw [n_up_t z]; exact okA_now h
    · rw [n_up_n z]
      rw [n_up_n z] at hk
      exact h.2.1 t ht hk
theorem k_restore {A : ab_A} {x : Int32} (h : okA A) : okA (F_restore A x).2 := by
  unfold F_restore
  cases e : ix x 2 with
  | none => exact h
  | some s =>
    dsimp only
    by_cases z : A.2.2.2.2.1 s = false
    · rw [if_pos z]; exact h
    · rw [if_neg z]
      exact ⟨fun j _ => h.2.1 s (ix_lt e) (by simpa using z), h.2⟩
