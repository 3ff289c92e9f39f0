/-! ===== the reference: its arrays, its small methods ===== -/
def mK (S : ax_S) (C : ax_C) (M : Nat) : Prop := S.1 M = 9 ∧ (S.1 (M + 1) = 11 ∧ S.2.1 (M + 1) = 589 ∧ C.2.2 M 0 = some (M + 1)) ∧ (S.1 (M + 2) = 11 ∧ S.2.1 (M + 2) = 589 ∧ C.2.2 M 1 = some (M + 2)) ∧ (S.1 (M + 3) = 11 ∧ S.2.1 (M + 3) = 5890 ∧ C.2.2 M 2 = some (M + 3)) ∧ (S.1 (M + 4) = 11 ∧ S.2.1 (M + 4) = 5890 ∧ C.2.2 M 4 = some (M + 4)) ∧ (S.1 (M + 5) = 11 ∧ S.2.1 (M + 5) = 1178 ∧ C.2.2 M 6 = some (M + 5)) ∧ (S.1 (M + 6) = 12 ∧ S.2.1 (M + 6) = 2 ∧ C.2.2 M 7 = some (M + 6)) ∧ (S.1 (M + 7) = 11 ∧ S.2.1 (M + 7) = 120 ∧ C.2.2 M 8 = some (M + 7)) ∧ (S.1 (M + 8) = 11 ∧ S.2.1 (M + 8) = 500 ∧ C.2.2 M 10 = some (M + 8)) ∧ (S.1 (M + 9) = 11 ∧ S.2.1 (M + 9) = 8 ∧ C.2.2 M 13 = some (M + 9)) ∧ (S.1 (M + 10) = 11 ∧ S.2.1 (M + 10) = 208 ∧ C.2.2 M 14 = some (M + 10)) ∧ (S.1 (M + 11) = 11 ∧ S.2.1 (M + 11) = 96 ∧ C.2.2 M 16 = some (M + 11)) ∧ (S.1 (M + 12) = 11 ∧ S.2.1 (M + 12) = 500 ∧ C.2.2 M 22 = some (M + 12))
/-- a row of numbers as all paths -/
def vR (w : Nat → Int32) (V : ab_V) : Prop := V.1 ≤ 6 ∧ w 0 = nI V.1 ∧ ∀ p, p < V.1 → (V.2 p).1 ≤ 12 ∧ w (1 + 98 * p) = nI (V.2 p).1 ∧ w (2 + 98 * p) = bI (V.2 p).2.1 ∧ ∀ q, q < 8 * (V.2 p).1 → w (3 + 98 * p + q) = (V.2 p).2.2 q
theorem vR_fr {w w' : Nat → Int32} {V : ab_V} (h : vR w V) (hf : ∀ j, j < 589 → w' j = w j) : vR w' V := by
  refine ⟨h.1, by rw [hf 0 (by omega)]; exact h.2.1, fun p hp => ?_⟩
  obtain ⟨z1, z2, z3, z4⟩ := h.2.2 p hp
  have := h.1
  exact ⟨z1, by rw [hf _ (by omega)]; exact z2, by rw [hf _ (by omega)]; exact z3, fun q hq => by rw [hf _ (by omega)]; exact z4 q hq⟩
theorem vR_set {w w' : Nat → Int32} {V : ab_V} {p : Nat} {P : ab_P} (h : vR w V) (hp : p < V.1) (hf : ∀ j, (j < 1 + 98 * p ∨ 99 + 98 * p ≤ j) → w' j = w j) (h1 : P.1 ≤ 12) (h2 : w' (1 + 98 * p) = nI P.1) (h3 : w' (2 + 98 * p) = bI P.2.1) (h4 : ∀ q, q < 8 * P.1 → w' (3 + 98 * p + q) = P.2.2 q) : vR w' (setP V p P) := by
  refine ⟨h.1, by rw [hf 0 (by omega)]; exact h.2.1, fun j hj => ?_⟩
  have hj : j < V.1 := hj
  have e : (setP V p P).2 j = va_up V.2 p P j := rfl
  rw [e]
  by_cases z : j = p
  · rw [z, n_up_t rfl]; exact ⟨h1, h2, h3, h4⟩
  · rw [n_up_n z]
    obtain ⟨z1, z2, z3, z4⟩ := h.2.2 j hj
    exact ⟨z1, by rw [hf _ (by omega)]; exact z2, by rw [hf _ (by omega)]; exact z3, fun q hq => by rw [hf _ (by omega)]; exact z4 q hq⟩
theorem bt_ix {x : Int32} {m : Nat} (hm : m < 2 ^ 31) : bt x 0 (nI m - 1) = (ix x m).isSome := by
  have e0 : (0 : Int32).toInt = 0 := rfl
  have e1 : (nI m - 1).toInt = (m : Int) - 1 := by
    by_cases z : m = 0
    · subst z; rfl
    · rw [n_lit1, n_sub (by omega), n_toInt (by omega)]
      omega
  have hb : bt x 0 (nI m - 1) = true ↔ (0 ≤ x.toInt ∧ x.toInt < m) := by
    unfold bt
    simp only [Bool.and_eq_true, Bool.not_eq_true', decide_eq_false_iff_not, Int32.not_lt, Int32.le_iff_toInt_le, e0, e1]
    omega
  unfold ix
  by_cases z : 0 ≤ x.toInt ∧ x.toInt < m
  · rw [if_pos z, hb.mpr z]; rfl
  · rw [if_neg z]
    cases h : bt x 0 (nI m - 1)
    · rfl
    · exact absurd (hb.mp h) z
section
variable {l : Launch} {D : ax_D} {S : ax_S} {C : ax_C} {M : Nat}
theorem c8_in {x lo hi : Int32} : ax_CI l D mt_X8_in [ax_i x, ax_i lo, ax_i hi] S C (fun r C' => r = bI (bt x lo hi) ∧ C' = C) := by
  refine vc_X8_in ⟨fun z => ⟨?_, rfl⟩, fun z => ⟨fun w => ⟨?_, rfl⟩, fun w => ⟨?_, rfl⟩⟩⟩
  · simp [bt, z, bI]
  · simp [bt, w, bI]
  · simp only [bt, z, w, decide_false, Bool.not_false, Bool.and_self]; rfl
theorem c8_isUnits {x y : Int32} : ax_CI l D mt_X8_isUnits [ax_i x, ax_i y] S C (fun r C' => r = bI (ln x y) ∧ C' = C) := by
  refine vc_X8_isUnits (c8_in.use ?_)
  unfold ln
  cases bt x (-200) 200
  · exact ⟨fun _ => ⟨rfl, rfl⟩, fun q => absurd rfl q⟩
  refine ⟨fun q => absurd q (by decide), fun _ => c8_in.use ?_⟩
  cases bt y (-200) 200
  · exact ⟨fun _ => ⟨rfl, rfl⟩, fun q => absurd rfl q⟩
  · exact ⟨fun q => absurd q (by decide), fun _ => ⟨rfl, rfl⟩⟩
theorem c8_divisor {a b : Nat} {x y : Int32} (hx : x = nI a) (hy : y = nI b) (ha : a < 2 ^ 31) (hb : b < 2 ^ 31) : ax_CI l D mt_X8_divisor [ax_i x, ax_i y] S C (fun r C' => r = nI (Nat.gcd a b) ∧ C' = C) := by
  subst hx hy
  refine vc_X8_divisor fun P4 h4 => ?_
  have loop : ∀ (m c d : Nat), c < 2 ^ 31 → d < 2 ^ 31 → d ≤ m → Nat.gcd c d = Nat.gcd a b → P4 (nI c) (nI d) C := by
    intro m
    induction m with
    | zero =>
      intro c d hc hd hm hg
      have : d = 0 := by omega
      subst this
      refine h4 _ _ _ ⟨fun _ => ⟨?_, rfl⟩, fun q => absurd rfl q⟩
      rw [← hg, Nat.gcd_zero_right]
    | succ m ih =>
      intro c d hc hd hm hg
      refine h4 _ _ _ ⟨fun q => ⟨?_, rfl⟩, fun q => ⟨q, ?_⟩⟩
      · have : d = 0 := (nI_eq hd (by decide)).mp q
        subst this
        rw [← hg, Nat.gcd_zero_right]
      · have hd0 : d ≠ 0 := fun z => q (by rw [z]; rfl)
        rw [pk_rem hc (by omega) hd]
        have l1 : c % d < d := Nat.mod_lt _ (by omega)
        refine ih d (c % d) hd (by omega) (by omega) ?_
        rw [← hg, Nat.gcd_comm d, ← Nat.gcd_rec, Nat.gcd_comm]
  exact loop b a b ha hb (Nat.le_refl _) rfl
theorem c8_path {p : Nat} {x : Int32} (hx : x = nI p) : ax_CI l D mt_X8_path [ax_i x] S C (fun r C' => r = nI (1 + 98 * p) ∧ C' = C) := by
  subst hx
  refine vc_X8_path ⟨?_, rfl⟩
  simp (disch := omega) only [n_lit0, n_lit1, n_lit2, n_lit3, n_lit4, n_lit5, n_lit6, n_lit7, n_lit8, n_lit9, n_lit10, n_lit11, n_lit12, n_lit13, n_lit14, n_lit15, n_lit16, n_lit17, n_lit18, n_lit19, n_lit20, n_lit21, n_lit22, n_lit23, n_lit24, n_lit30, n_lit31, n_lit32, n_lit45, n_lit48, n_lit49, n_lit57, n_lit59, n_lit60, n_lit67, n_lit76, n_lit77, n_lit90, n_lit96, n_lit97, n_lit98, n_lit99, n_lit100, n_lit119, n_lit120, n_lit127, n_lit128, n_lit196, n_lit200, n_lit208, n_lit294, n_lit340, n_lit341, n_lit392, n_lit490, n_lit491, n_lit500, n_lit588, n_lit589, n_lit999, n_lit1178, n_lit5301, n_lit5890, n_lit46656, n_add, n_mul, n_sub, n_lt_t, n_lt_f, n_le_t, n_le_f, n_eq_t, n_eq_f, n_clamp, n_in_t, ax_sm_s, true_and, and_true, not_true_eq_false, not_false_eq_true, true_imp, false_imp, imp_true, and_self, ax_wI_2, ax_rI_2, ax_wI_t, ax_wI_n, ax_rI_t, ax_rI_n, n_up_t, n_up_n, ne_eq, or_true, true_or, false_or, or_false, some_ex, n_none1, n_none2, ite_true, ite_false]
theorem c8_node {p k w : Nat} {x y z : Int32} (hx : x = nI p) (hy : y = nI k) (hz : z = nI w) : ax_CI l D mt_X8_node [ax_i x, ax_i y, ax_i z] S C (fun r C' => r = nI (3 + 98 * p + (8 * k + w)) ∧ C' = C) := by
  subst hy hz
  refine vc_X8_node ((c8_path hx).use ⟨?_, rfl⟩)
  simp (disch := omega) only [n_lit0, n_lit1, n_lit2, n_lit3, n_lit4, n_lit5, n_lit6, n_lit7, n_lit8, n_lit9, n_lit10, n_lit11, n_lit12, n_lit13, n_lit14, n_lit15, n_lit16, n_lit17, n_lit18, n_lit19, n_lit20, n_lit21, n_lit22, n_lit23, n_lit24, n_lit30, n_lit31, n_lit32, n_lit45, n_lit48, n_lit49, n_lit57, n_lit59, n_lit60, n_lit67, n_lit76, n_lit77, n_lit90, n_lit96, n_lit97, n_lit98, n_lit99, n_lit100, n_lit119, n_lit120, n_lit127, n_lit128, n_lit196, n_lit200, n_lit208, n_lit294, n_lit340, n_lit341, n_lit392, n_lit490, n_lit491, n_lit500, n_lit588, n_lit589, n_lit999, n_lit1178, n_lit5301, n_lit5890, n_lit46656, n_add, n_mul, n_sub, n_lt_t, n_lt_f, n_le_t, n_le_f, n_eq_t, n_eq_f, n_clamp, n_in_t, ax_sm_s, true_and, and_true, not_true_eq_false, not_false_eq_true, true_imp, false_imp, imp_true, and_self, ax_wI_2, ax_rI_2, ax_wI_t, ax_wI_n, ax_rI_t, ax_rI_n, n_up_t, n_up_n, ne_eq, or_true, true_or, false_or, or_false, some_ex, n_none1, n_none2, ite_true, ite_false]
theorem c8_many {p : Nat} {x : Int32} (h : mK S C M) (hx : x = nI p) (hp : p < 6) : ax_CI l D mt_X8_many [ax_r (some M), ax_i x] S C (fun r C' => r = C.1 (M + 1) (1 + 98 * p) ∧ C' = C) := by
  refine vc_X8_many h.1 ⟨h.1, (c8_path hx).use ?_⟩
  rw [h.2.1.2.2, n_clamp (by omega)]
  exact ⟨h.2.1.1, by rw [h.2.1.2.1]; exact vp_in_nI (by omega) (by omega), rfl, rfl⟩
theorem c8_isShut {p : Nat} {b : Bool} {x : Int32} (h : mK S C M) (hx : x = nI p) (hp : p < 6) (hb : C.1 (M + 1) (2 + 98 * p) = bI b) : ax_CI l D mt_X8_isShut [ax_r (some M), ax_i x] S C (fun r C' => r = bI b ∧ C' = C) := by
  refine vc_X8_isShut h.1 ⟨h.1, (c8_path hx).use ?_⟩
  rw [h.2.1.2.2, n_succ, n_clamp (by omega)]
  refine ⟨h.2.1.1, by rw [h.2.1.2.1]; exact vp_in_nI (by omega) (by omega), ?_⟩
  rw [show 1 + 98 * p + 1 = 2 + 98 * p by omega, hb]
  cases b
  · exact ⟨fun _ => ⟨rfl, rfl⟩, fun q => absurd q (by decide)⟩
  · exact ⟨fun q => absurd rfl q, fun _ => ⟨rfl, rfl⟩⟩
theorem c8_segments {p n : Nat} {b : Bool} {x : Int32} (h : mK S C M) (hx : x = nI p) (hp : p < 6) (hn : C.1 (M + 1) (1 + 98 * p) = nI n) (hb : C.1 (M + 1) (2 + 98 * p) = bI b) (hn1 : 1 ≤ n) : ax_CI l D mt_X8_segments [ax_r (some M), ax_i x] S C (fun r C' => r = nI (sg n b) ∧ C' = C) := by
  refine vc_X8_segments h.1 ((c8_isShut h hx hp hb).use ?_)
  cases b
  · refine ⟨fun _ => (c8_many h hx hp).use ?_, fun q => absurd rfl q⟩
    rw [hn, n_lit1, n_sub hn1]
    exact ⟨rfl, rfl⟩
  · refine ⟨fun q => absurd q (by decide), fun _ => (c8_many h hx hp).use ?_⟩
    rw [hn]
    exact ⟨rfl, rfl⟩
theorem c8_isPath {x : Int32} {m : Nat} (h : mK S C M) (hm : C.1 (M + 1) 0 = nI m) (hm6 : m ≤ 6) : ax_CI l D mt_X8_isPath [ax_r (some M), ax_i x] S C (fun r C' => r = bI (ix x m).isSome ∧ C' = C) := by
  refine vc_X8_isPath h.1 ⟨h.1, ?_⟩
  rw [h.2.1.2.2]
  refine ⟨h.2.1.1, by rw [h.2.1.2.1]; exact vp_in_nI (n := 0) (by omega) (by omega), ?_⟩
  show ax_CI l D mt_X8_in [ax_i x, ax_i 0, ax_i (C.1 (M + 1) 0 - 1)] S C _
  refine c8_in.use ⟨bI_01 _, ?_, rfl⟩
  rw [hm, bt_ix (by omega)]
theorem s8_path {x : Int32} {V : ab_V} {P : Int32 → ax_C → Prop} (h : mK S C M) (hV : vR (C.1 (M + 1)) V) (h1 : ∀ p, p < V.1 → x = nI p → ix x V.1 = some p → P 1 C) (h2 : ix x V.1 = none → P 0 C) : ax_CI l D mt_X8_isPath [ax_r (some M), ax_i x] S C P := by
  have := hV.1
  refine (c8_isPath h hV.2.1 hV.1).use ?_
  cases hi : ix x V.1 with
  | none => exact h2 hi
  | some p =>
    obtain ⟨z1, z2⟩ := ix_of (by omega) hi
    exact h1 p z1 z2 hi
theorem s8_node {x y : Int32} {V : ab_V} {P : Int32 → ax_C → Prop} (h : mK S C M) (hV : vR (C.1 (M + 1)) V) (h1 : ∀ p k, p < V.1 → k < (V.2 p).1 → x = nI p → y = nI k → ix x V.1 = some p → ix y (V.2 p).1 = some k → P 1 C) (h2 : ix x V.1 = none → P 0 C) (h3 : ∀ p, ix x V.1 = some p → ix y (V.2 p).1 = none → P 0 C) : ax_CI l D mt_X8_isNode [ax_r (some M), ax_i x, ax_i y] S C P := by
  have h6 := hV.1
  refine vc_X8_isNode h.1 (s8_path h hV (fun p hp hx hi => ⟨fun q => absurd q (by decide), fun _ => ?_⟩) fun hi => ⟨fun _ => h2 hi, fun q => absurd rfl q⟩)
  obtain ⟨w1, w2, w3, w4⟩ := hV.2.2 p hp
  refine (c8_many h hx (by omega)).use (c8_in.use ?_)
  rw [w2, bt_ix (by omega)]
  cases hi2 : ix y (V.2 p).1 with
  | none => exact ⟨fun _ => h3 p hi hi2, fun q => absurd rfl q⟩
  | some k =>
    obtain ⟨z1, z2⟩ := ix_of (by omega) hi2
    exact ⟨fun q => absurd q (show ¬ ((1 : Int32) = 0) by decide), fun _ => h1 p k hp z1 hx z2 hi hi2⟩
theorem s8_seg {x y : Int32} {V : ab_V} {P : Int32 → ax_C → Prop} (h : mK S C M) (hV : vR (C.1 (M + 1)) V) (hok : okV V) (h1 : ∀ p k, p < V.1 → k < sg (V.2 p).1 (V.2 p).2.1 → x = nI p → y = nI k → ix x V.1 = some p → ix y (sg (V.2 p).1 (V.2 p).2.1) = some k → P 1 C) (h2 : ix x V.1 = none → P 0 C) (h3 : ∀ p, ix x V.1 = some p → ix y (sg (V.2 p).1 (V.2 p).2.1) = none → P 0 C) : ax_CI l D mt_X8_isSegment [ax_r (some M), ax_i x, ax_i y] S C P := by
  have h6 := hV.1
  refine vc_X8_isSegment h.1 (s8_path h hV (fun p hp hx hi => ⟨fun q => absurd q (by decide), fun _ => ?_⟩) fun hi => ⟨fun _ => h2 hi, fun q => absurd rfl q⟩)
  obtain ⟨w1, w2, w3, w4⟩ := hV.2.2 p hp
  have hsg : sg (V.2 p).1 (V.2 p).2.1 ≤ 12 := by unfold sg; split <;> omega
  refine (c8_segments h hx (by omega) w2 w3 (hok.2 p hp).1).use (c8_in.use ?_)
  rw [bt_ix (by omega)]
  cases hi2 : ix y (sg (V.2 p).1 (V.2 p).2.1) with
  | none => exact ⟨fun _ => h3 p hi hi2, fun q => absurd rfl q⟩
  | some k =>
    obtain ⟨z1, z2⟩ := ix_of (by omega) hi2
    exact ⟨fun q => absurd q (show ¬ ((1 : Int32) = 0) by decide), fun _ => h1 p k hp z1 hx z2 hi hi2⟩
theorem c8_copies {a b i1 i2 : Nat} {x y : Int32} (h : S.1 M = 9) (ha : S.1 a = 11) (hb : S.1 b = 11) (hab : a ≠ b) (hx : x = nI i1) (hy : y = nI i2) (l1 : i1 + 589 ≤ S.2.1 a) (l2 : i2 + 589 ≤ S.2.1 b) (l3 : S.2.1 a < 2 ^ 31) (l4 : S.2.1 b < 2 ^ 31) : ax_CV l D mt_X8_copies [ax_r (some M), ax_r (some a), ax_i x, ax_r (some b), ax_i y] S C (fun C' => C' = ax_rI C b (fun j => if i2 ≤ j ∧ j < i2 + 589 then C.1 a (i1 + (j - i2)) else C.1 b j)) := by
  subst hx hy
  refine vc_X8_copies h fun P3 h3 => ?_
  have loop : ∀ (m k : Nat) (g : Nat → Int32), k + m = 589 → (∀ j, g j = if i2 ≤ j ∧ j < i2 + k then C.1 a (i1 + (j - i2)) else C.1 b j) → P3 (nI k) (ax_rI C b g) := by
    intro m
    induction m with
    | zero =>
      intro k g hk hg
      have : k = 589 := by omega
      subst this
      refine h3 _ _ ⟨fun _ => ?_, fun q => n_absurd (by simp (disch := omega) only [n_lit0, n_lit1, n_lit2, n_lit3, n_lit4, n_lit5, n_lit6, n_lit7, n_lit8, n_lit9, n_lit10, n_lit11, n_lit12, n_lit13, n_lit14, n_lit15, n_lit16, n_lit17, n_lit18, n_lit19, n_lit20, n_lit21, n_lit22, n_lit23, n_lit24, n_lit30, n_lit31, n_lit32, n_lit45, n_lit48, n_lit49, n_lit57, n_lit59, n_lit60, n_lit67, n_lit76, n_lit77, n_lit90, n_lit96, n_lit97, n_lit98, n_lit99, n_lit100, n_lit119, n_lit120, n_lit127, n_lit128, n_lit196, n_lit200, n_lit208, n_lit294, n_lit340, n_lit341, n_lit392, n_lit490, n_lit491, n_lit500, n_lit588, n_lit589, n_lit999, n_lit1178, n_lit5301, n_lit5890, n_lit46656, n_add, n_mul, n_sub, n_lt_t, n_lt_f, n_le_t, n_le_f, n_eq_t, n_eq_f, n_clamp, n_in_t, ax_sm_s, true_and, and_true, not_true_eq_false, not_false_eq_true, true_imp, false_imp, imp_true, and_self, ax_wI_2, ax_rI_2, ax_wI_t, ax_wI_n, ax_rI_t, ax_rI_n, n_up_t, n_up_n, ne_eq, or_true, true_or, false_or, or_false, some_ex, n_none1, n_none2, ite_true, ite_false]) q⟩
      rw [show g = _ from funext hg]
    | succ m ih =>
      intro k g hk hg
      refine h3 _ _ ⟨fun q => n_absurd q (by simp (disch := omega) only [n_lit0, n_lit1, n_lit2, n_lit3, n_lit4, n_lit5, n_lit6, n_lit7, n_lit8, n_lit9, n_lit10, n_lit11, n_lit12, n_lit13, n_lit14, n_lit15, n_lit16, n_lit17, n_lit18, n_lit19, n_lit20, n_lit21, n_lit22, n_lit23, n_lit24, n_lit30, n_lit31, n_lit32, n_lit45, n_lit48, n_lit49, n_lit57, n_lit59, n_lit60, n_lit67, n_lit76, n_lit77, n_lit90, n_lit96, n_lit97, n_lit98, n_lit99, n_lit100, n_lit119, n_lit120, n_lit127, n_lit128, n_lit196, n_lit200, n_lit208, n_lit294, n_lit340, n_lit341, n_lit392, n_lit490, n_lit491, n_lit500, n_lit588, n_lit589, n_lit999, n_lit1178, n_lit5301, n_lit5890, n_lit46656, n_add, n_mul, n_sub, n_lt_t, n_lt_f, n_le_t, n_le_f, n_eq_t, n_eq_f, n_clamp, n_in_t, ax_sm_s, true_and, and_true, not_true_eq_false, not_false_eq_true, true_imp, false_imp, imp_true, and_self, ax_wI_2, ax_rI_2, ax_wI_t, ax_wI_n, ax_rI_t, ax_rI_n, n_up_t, n_up_n, ne_eq, or_true, true_or, false_or, or_false, some_ex, n_none1, n_none2, ite_true, ite_false]), fun _ => ⟨ha, ?_, hb, ?_, ?_⟩⟩
      · rw [n_add]; exact vp_in_nI (by omega) l3
      · rw [n_add]; exact vp_in_nI (by omega) l4
      · rw [n_succ, n_add, n_add, n_clamp (by omega), n_clamp (by omega), ax_wI_rI, ax_rI_rI, ax_rI_t rfl, ax_rI_n hab]
        refine ih (k + 1) _ (by omega) fun j => ?_
        by_cases z : j = i2 + k
        · rw [n_up_t z, if_pos (by omega)]; exact congrArg _ (by omega)
        · rw [n_up_n z, hg]
          by_cases z2 : i2 ≤ j ∧ j < i2 + k
          · rw [if_pos z2, if_pos (by omega)]
          · rw [if_neg z2, if_neg (by omega)]
  have := loop 589 0 (C.1 b) rfl (fun j => by rw [if_neg (by omega)])
  rw [ax_rI_id] at this
  exact this
/-- trouble and the row -/
def mW (C : ax_C) (M : Nat) (v : Nat → Int32) (t : Int32) : ax_C := ax_rI (ax_wI C M 12 t) (M + 1) v
theorem mW_v (C : ax_C) (M : Nat) (v : Nat → Int32) (t : Int32) : (mW C M v t).1 (M + 1) = v := ax_rI_t rfl
theorem mW_t (C : ax_C) (M : Nat) (v : Nat → Int32) (t : Int32) : (mW C M v t).1 M 12 = t := by
  unfold mW
  rw [ax_rI_n (by omega), ax_wI_t rfl, n_up_t rfl]
theorem mW_n {C : ax_C} {M b : Nat} {v : Nat → Int32} {t : Int32} (h1 : b ≠ M) (h2 : b ≠ M + 1) : (mW C M v t).1 b = C.1 b := by
  unfold mW
  rw [ax_rI_n h2, ax_wI_n h1]
theorem mW_f {C : ax_C} {M k : Nat} {v : Nat → Int32} {t : Int32} (h : k ≠ 12) : (mW C M v t).1 M k = C.1 M k := by
  unfold mW
  rw [ax_rI_n (by omega), ax_wI_t rfl, n_up_n h]
theorem mW_v2 (C : ax_C) (M : Nat) (v v' : Nat → Int32) (t : Int32) : ax_rI (mW C M v t) (M + 1) v' = mW C M v' t := ax_rI_rI _ _ _ _
theorem mW_t2 (C : ax_C) (M : Nat) (v : Nat → Int32) (t t' : Int32) : ax_wI (mW C M v t) M 12 t' = mW C M v t' := by
  unfold mW
  rw [ax_wI_rI, ax_wI_rI, ax_wI_rI, ax_rI_comm _ _ (show M + 1 ≠ M by omega), ax_rI_rI, ax_rI_n (show M ≠ M + 1 by omega), ax_rI_t rfl, bx_uu]
theorem mW_2 (C : ax_C) (M : Nat) (v v' : Nat → Int32) (t t' : Int32) : mW (mW C M v t) M v' t' = mW C M v' t' := by
  show ax_rI (ax_wI (mW C M v t) M 12 t') (M + 1) v' = _
  rw [mW_t2, mW_v2]
theorem mW_self (C : ax_C) (M : Nat) : mW C M (C.1 (M + 1)) (C.1 M 12) = C := by
  unfold mW
  have e : ax_wI C M 12 (C.1 M 12) = C := by
    rw [ax_wI_rI]
    have : va_up (C.1 M) 12 (C.1 M 12) = C.1 M := by
      funext j
      by_cases z : j = 12
      · rw [n_up_t z, z]
      · rw [n_up_n z]
    rw [this, ax_rI_id]
  rw [e, ax_rI_id]
theorem mW_v0 (C : ax_C) (M : Nat) (v : Nat → Int32) : ax_rI C (M + 1) v = mW C M v (C.1 M 12) := by
  conv => lhs; rw [← mW_self C M]
  rw [mW_v2]
theorem mK_mW {v : Nat → Int32} {t : Int32} (h : mK S C M) : mK S (mW C M v t) M := h
theorem mK_rI {a : Nat} {f : Nat → Int32} (h : mK S C M) : mK S (ax_rI C a f) M := h
/-- one coordinate -/
theorem c8_puts {at' : Nat} {v : Nat → Int32} {t X : Int32} {x y : Int64} {P : ax_C → Prop} (h : mK S C M) (hX : X = nI at') (ha : at' < 589) (hy : ¬ y = 0) (hp : ∀ w, (chk t x y = 0 → w = qr x y) → P (mW C M (va_up v at' w) (chk t x y))) : ax_CV l D mt_X8_puts [ax_r (some M), ax_i X, ax_l x, ax_l y] S (mW C M v t) P := by
  subst hX
  have h2 : (mW C M v t).2.2 M 0 = some (M + 1) := h.2.1.2.2
  refine vc_X8_puts h.1 fun P40 P53 h40 h53 => ⟨hy, fun q => ⟨hy, ?_⟩, fun q => ⟨h.1, ?_⟩⟩
  · have q : qe x y := q
    have b53 : ∀ t', t' = chk t x y → P53 (x / y) (mW C M v t') := by
      intro t' ht
      refine h53 _ _ ⟨h.1, ?_⟩
      show ax_sm (C.2.2 M 0) _
      rw [h.2.1.2.2, n_clamp (by omega)]
      refine ⟨h.2.1.1, by rw [h.2.1.2.1]; exact vp_in_nI ha (by omega), ?_⟩
      rw [ax_wI_rI, mW_v, mW_v2, ht]
      exact hp _ fun _ => rfl
    have b40 : qg x y → P40 (x / y) (mW C M v t) := by
      intro hg
      refine h40 _ _ ⟨h.1, ?_⟩
      rw [mW_t]
      refine ⟨fun z => b53 _ ?_, fun z => ⟨h.1, ?_⟩⟩
      · simp [chk, q, z]
      · rw [mW_t2]
        refine b53 _ ?_
        simp [chk, q, hg, z]
    refine ⟨fun z => b40 (Or.inl z), fun z => ⟨fun z2 => b53 _ ?_, fun z2 => b40 (Or.inr (Int64.not_le.mp z2))⟩⟩
    have : ¬ qg x y := by
      rintro (w | w)
      · exact z w
      · exact absurd w (Int64.not_lt.mpr z2)
    simp [chk, q, this]
  · have q : ¬ qe x y := q
    rw [mW_t2]
    have hv : va_up v at' (v at') = v := by
      funext j
      by_cases z : j = at'
      · rw [n_up_t z, z]
      · rw [n_up_n z]
    have := hp (v at') (fun z => by simp only [chk, if_neg q] at z; exact absurd z (by decide))
    rw [hv] at this
    simpa [chk, q] using this
end
