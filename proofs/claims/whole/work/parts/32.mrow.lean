/-! ===== the reference: a path's numbers ===== -/
def bk (v : Nat → Int32) (p : Nat) : Nat → Int32 := fun q => v (3 + 98 * p + q)
def lf (v : Nat → Int32) (p : Nat) (g : Nat → Int32) : Nat → Int32 := fun j => if 3 + 98 * p ≤ j ∧ j < 99 + 98 * p then g (j - (3 + 98 * p)) else v j
theorem lf_bk (v : Nat → Int32) (p : Nat) : lf v p (bk v p) = v := by
  funext j
  unfold lf bk
  by_cases h : 3 + 98 * p ≤ j ∧ j < 99 + 98 * p
  · rw [if_pos h]; exact congrArg _ (by omega)
  · rw [if_neg h]
theorem lf_up {v g : Nat → Int32} {p m : Nat} {x : Int32} (hm : m < 96) : va_up (lf v p g) (3 + 98 * p + m) x = lf v p (va_up g m x) := by
  funext j
  unfold lf va_up
  by_cases h : j = 3 + 98 * p + m
  · rw [if_pos h, if_pos (by omega), if_pos (by omega)]
  · rw [if_neg h]
    dsimp only
    by_cases h2 : 3 + 98 * p ≤ j ∧ j < 99 + 98 * p
    · rw [if_pos h2, if_pos h2, if_neg (by omega)]
    · rw [if_neg h2, if_neg h2]
theorem lf_at {v g : Nat → Int32} {p m : Nat} (hm : m < 96) : lf v p g (3 + 98 * p + m) = g m := by
  unfold lf
  rw [if_pos (by omega)]
  exact congrArg _ (by omega)
theorem lf_n {v g : Nat → Int32} {p j : Nat} (h : j < 3 + 98 * p ∨ 99 + 98 * p ≤ j) : lf v p g j = v j := by
  unfold lf
  rw [if_neg (by omega)]
theorem lf_e {v g g' : Nat → Int32} {p : Nat} (h : ∀ m, m < 96 → g m = g' m) : lf v p g = lf v p g' := by
  funext j
  unfold lf
  by_cases h2 : 3 + 98 * p ≤ j ∧ j < 99 + 98 * p
  · rw [if_pos h2, if_pos h2]; exact h _ (by omega)
  · rw [if_neg h2, if_neg h2]
section
variable {l : Launch} {D : ax_D} {S : ax_S} {C : ax_C} {M : Nat} {v g : Nat → Int32} {p : Nat} {t : Int32}
/-- a number of node k of path p is read -/
theorem s8_rd {k w : Nat} {X Y Z : Int32} {P : Int32 → Prop} (h : mK S C M) (hp : p < 6) (hm : 8 * k + w < 96) (hP : P (g (8 * k + w))) : ax_sm ((mW C M (lf v p g) t).2.2 M 0) (fun b => S.1 b = 11 ∧ vp_in (nI (3 + 98 * p + (8 * k + w))) (S.2.1 b) ∧ P ((mW C M (lf v p g) t).1 b (nI (3 + 98 * p + (8 * k + w))).toNatClampNeg)) := by
  show ax_sm (C.2.2 M 0) _
  rw [h.2.1.2.2]
  refine ⟨h.2.1.1, by rw [h.2.1.2.1]; exact vp_in_nI (by omega) (by omega), ?_⟩
  rw [n_clamp (by omega), mW_v, lf_at hm]
  exact hP
theorem mr_in (h : mK S C M) {j : Nat} (hj : j < 589) : S.1 (M + 1) = 11 ∧ vp_in (nI j) (S.2.1 (M + 1)) := ⟨h.2.1.1, by rw [h.2.1.2.1]; exact vp_in_nI hj (by omega)⟩
theorem mr_r : (mW C M v t).2.2 = C.2.2 := rfl
theorem c8_clears {k : Nat} {x y X Y : Int32} (h : mK S C M) (hx : x = nI p) (hp : p < 6) (hy : y = nI k) (hk : k < 12) : ax_CV l D mt_X8_clears [ax_r (some M), ax_i x, ax_i y, ax_i X, ax_i Y] S (mW C M (lf v p g) t) (fun C' => C' = mW C M (lf v p (nd g k (cn X Y))) t) := by
  have e0 := h.2.1.2.2
  refine vc_X8_clears h.1 fun P3 h3 => ?_
  have loop : ∀ (m s : Nat) (G : Nat → Int32), s + m = 8 → (∀ q, G q = if 8 * k ≤ q ∧ q < 8 * k + s then 0 else g q) → P3 (nI s) (mW C M (lf v p G) t) := by
    intro m
    induction m with
    | zero =>
      intro s G hs hG
      have : s = 8 := by omega
      subst this
      refine h3 _ _ ⟨fun _ => ⟨h.1, (c8_node hx hy (w := 0) rfl).use ?_⟩, fun q => n_absurd (by simp (disch := omega) only [n_lit0, n_lit1, n_lit2, n_lit3, n_lit4, n_lit5, n_lit6, n_lit7, n_lit8, n_lit9, n_lit10, n_lit11, n_lit12, n_lit13, n_lit14, n_lit15, n_lit16, n_lit17, n_lit18, n_lit19, n_lit20, n_lit21, n_lit22, n_lit23, n_lit24, n_lit30, n_lit31, n_lit32, n_lit45, n_lit48, n_lit49, n_lit57, n_lit59, n_lit60, n_lit67, n_lit76, n_lit77, n_lit90, n_lit96, n_lit97, n_lit98, n_lit99, n_lit100, n_lit119, n_lit120, n_lit127, n_lit128, n_lit196, n_lit200, n_lit208, n_lit294, n_lit340, n_lit341, n_lit392, n_lit490, n_lit491, n_lit500, n_lit588, n_lit589, n_lit999, n_lit1178, n_lit5301, n_lit5890, n_lit46656, n_add, n_mul, n_sub, n_lt_t, n_lt_f, n_le_t, n_le_f, n_eq_t, n_eq_f, n_clamp, n_in_t, ax_sm_s, true_and, and_true, not_true_eq_false, not_false_eq_true, true_imp, false_imp, imp_true, and_self, ax_wI_2, ax_rI_2, ax_wI_t, ax_wI_n, ax_rI_t, ax_rI_n, n_up_t, n_up_n, ne_eq, or_true, true_or, false_or, or_false, some_ex, n_none1, n_none2, ite_true, ite_false]) q⟩
      rw [mr_r, e0]
      refine ⟨h.2.1.1, (mr_in h (by omega)).2, h.1, ?_⟩
      rw [n_clamp (by omega), ax_wI_rI, mW_v, mW_v2, lf_up (by omega)]
      refine (c8_node hx hy (w := 1) rfl).use ?_
      rw [mr_r, e0]
      refine ⟨h.2.1.1, (mr_in h (by omega)).2, ?_⟩
      rw [n_clamp (by omega), ax_wI_rI, mW_v, mW_v2, lf_up (by omega)]
      congr 1
      refine lf_e fun q hq => ?_
      unfold nd cn
      by_cases z1 : q = 8 * k + 1
      · rw [n_up_t z1, if_pos (by omega), if_neg (by omega), if_pos (by omega)]
      · rw [n_up_n z1]
        by_cases z0 : q = 8 * k + 0
        · rw [n_up_t z0, if_pos (by omega), if_pos (by omega)]
        · rw [n_up_n z0, hG]
          by_cases z2 : 8 * k ≤ q ∧ q < 8 * k + 8
          · rw [if_pos z2, if_pos z2, if_neg (by omega), if_neg (by omega)]
          · rw [if_neg z2, if_neg z2]
    | succ m ih =>
      intro s G hs hG
      refine h3 _ _ ⟨fun q => n_absurd q (by simp (disch := omega) only [n_lit0, n_lit1, n_lit2, n_lit3, n_lit4, n_lit5, n_lit6, n_lit7, n_lit8, n_lit9, n_lit10, n_lit11, n_lit12, n_lit13, n_lit14, n_lit15, n_lit16, n_lit17, n_lit18, n_lit19, n_lit20, n_lit21, n_lit22, n_lit23, n_lit24, n_lit30, n_lit31, n_lit32, n_lit45, n_lit48, n_lit49, n_lit57, n_lit59, n_lit60, n_lit67, n_lit76, n_lit77, n_lit90, n_lit96, n_lit97, n_lit98, n_lit99, n_lit100, n_lit119, n_lit120, n_lit127, n_lit128, n_lit196, n_lit200, n_lit208, n_lit294, n_lit340, n_lit341, n_lit392, n_lit490, n_lit491, n_lit500, n_lit588, n_lit589, n_lit999, n_lit1178, n_lit5301, n_lit5890, n_lit46656, n_add, n_mul, n_sub, n_lt_t, n_lt_f, n_le_t, n_le_f, n_eq_t, n_eq_f, n_clamp, n_in_t, ax_sm_s, true_and, and_true, not_true_eq_false, not_false_eq_true, true_imp, false_imp, imp_true, and_self, ax_wI_2, ax_rI_2, ax_wI_t, ax_wI_n, ax_rI_t, ax_rI_n, n_up_t, n_up_n, ne_eq, or_true, true_or, false_or, or_false, some_ex, n_none1, n_none2, ite_true, ite_false]), fun _ => ⟨h.1, (c8_node hx hy (w := s) rfl).use ?_⟩⟩
      rw [mr_r, e0]
      refine ⟨h.2.1.1, (mr_in h (by omega)).2, ?_⟩
      rw [n_clamp (by omega), ax_wI_rI, mW_v, mW_v2, lf_up (by omega), n_succ]
      refine ih (s + 1) _ (by omega) fun q => ?_
      by_cases z : q = 8 * k + s
      · rw [n_up_t z, if_pos (by omega)]
      · rw [n_up_n z, hG]
        by_cases z2 : 8 * k ≤ q ∧ q < 8 * k + s
        · rw [if_pos z2, if_pos (by omega)]
        · rw [if_neg z2, if_neg (by omega)]
  exact loop 8 0 g rfl (fun q => by rw [if_neg (by omega)])
theorem c8_copiesNode {k i : Nat} {x y z : Int32} (h : mK S C M) (hx : x = nI p) (hp : p < 6) (hy : y = nI k) (hk : k < 12) (hz : z = nI i) (hi : i < 12) (hik : i ≠ k) : ax_CV l D mt_X8_copiesNode [ax_r (some M), ax_i x, ax_i y, ax_i x, ax_i z] S (mW C M (lf v p g) t) (fun C' => C' = mW C M (lf v p (nd g i (fun f => g (8 * k + f)))) t) := by
  have e0 := h.2.1.2.2
  refine vc_X8_copiesNode h.1 fun P3 h3 => ?_
  have loop : ∀ (m s : Nat) (G : Nat → Int32), s + m = 8 → (∀ q, G q = if 8 * i ≤ q ∧ q < 8 * i + s then g (8 * k + (q - 8 * i)) else g q) → P3 (nI s) (mW C M (lf v p G) t) := by
    intro m
    induction m with
    | zero =>
      intro s G hs hG
      have : s = 8 := by omega
      subst this
      refine h3 _ _ ⟨fun _ => ?_, fun q => n_absurd (by simp (disch := omega) only [n_lit0, n_lit1, n_lit2, n_lit3, n_lit4, n_lit5, n_lit6, n_lit7, n_lit8, n_lit9, n_lit10, n_lit11, n_lit12, n_lit13, n_lit14, n_lit15, n_lit16, n_lit17, n_lit18, n_lit19, n_lit20, n_lit21, n_lit22, n_lit23, n_lit24, n_lit30, n_lit31, n_lit32, n_lit45, n_lit48, n_lit49, n_lit57, n_lit59, n_lit60, n_lit67, n_lit76, n_lit77, n_lit90, n_lit96, n_lit97, n_lit98, n_lit99, n_lit100, n_lit119, n_lit120, n_lit127, n_lit128, n_lit196, n_lit200, n_lit208, n_lit294, n_lit340, n_lit341, n_lit392, n_lit490, n_lit491, n_lit500, n_lit588, n_lit589, n_lit999, n_lit1178, n_lit5301, n_lit5890, n_lit46656, n_add, n_mul, n_sub, n_lt_t, n_lt_f, n_le_t, n_le_f, n_eq_t, n_eq_f, n_clamp, n_in_t, ax_sm_s, true_and, and_true, not_true_eq_false, not_false_eq_true, true_imp, false_imp, imp_true, and_self, ax_wI_2, ax_rI_2, ax_wI_t, ax_wI_n, ax_rI_t, ax_rI_n, n_up_t, n_up_n, ne_eq, or_true, true_or, false_or, or_false, some_ex, n_none1, n_none2, ite_true, ite_false]) q⟩
      congr 1
      refine lf_e fun q hq => ?_
      unfold nd
      rw [hG]
    | succ m ih =>
      intro s G hs hG
      refine h3 _ _ ⟨fun q => n_absurd q (by simp (disch := omega) only [n_lit0, n_lit1, n_lit2, n_lit3, n_lit4, n_lit5, n_lit6, n_lit7, n_lit8, n_lit9, n_lit10, n_lit11, n_lit12, n_lit13, n_lit14, n_lit15, n_lit16, n_lit17, n_lit18, n_lit19, n_lit20, n_lit21, n_lit22, n_lit23, n_lit24, n_lit30, n_lit31, n_lit32, n_lit45, n_lit48, n_lit49, n_lit57, n_lit59, n_lit60, n_lit67, n_lit76, n_lit77, n_lit90, n_lit96, n_lit97, n_lit98, n_lit99, n_lit100, n_lit119, n_lit120, n_lit127, n_lit128, n_lit196, n_lit200, n_lit208, n_lit294, n_lit340, n_lit341, n_lit392, n_lit490, n_lit491, n_lit500, n_lit588, n_lit589, n_lit999, n_lit1178, n_lit5301, n_lit5890, n_lit46656, n_add, n_mul, n_sub, n_lt_t, n_lt_f, n_le_t, n_le_f, n_eq_t, n_eq_f, n_clamp, n_in_t, ax_sm_s, true_and, and_true, not_true_eq_false, not_false_eq_true, true_imp, false_imp, imp_true, and_self, ax_wI_2, ax_rI_2, ax_wI_t, ax_wI_n, ax_rI_t, ax_rI_n, n_up_t, n_up_n, ne_eq, or_true, true_or, false_or, or_false, some_ex, n_none1, n_none2, ite_true, ite_false]), fun _ => ⟨h.1, (c8_node hx hz (w := s) rfl).use ⟨h.1, (c8_node hx hy (w := s) rfl).use ?_⟩⟩⟩
      rw [mr_r, e0]
      refine ⟨h.2.1.1, (mr_in h (by omega)).2, ?_⟩
      refine ⟨h.2.1.1, (mr_in h (by omega)).2, ?_⟩
      rw [n_clamp (by omega), n_clamp (by omega), ax_wI_rI, mW_v, mW_v2, lf_up (by omega), lf_at (by omega), n_succ]
      refine ih (s + 1) _ (by omega) fun q => ?_
      by_cases z : q = 8 * i + s
      · rw [n_up_t z, if_pos (by omega), hG, if_neg (by omega)]
        exact congrArg _ (by omega)
      · rw [n_up_n z, hG]
        by_cases z2 : 8 * i ≤ q ∧ q < 8 * i + s
        · rw [if_pos z2, if_pos (by omega)]
        · rw [if_neg z2, if_neg (by omega)]
  exact loop 8 0 g rfl (fun q => by rw [if_neg (by omega)])
theorem c8_isSmooth {k : Nat} {x y : Int32} (h : mK S C M) (hx : x = nI p) (hp : p < 6) (hy : y = nI k) (hk : k < 12) (h0 : g (8 * k + 6) = 0 ∨ 0 < g (8 * k + 6)) : ax_CI l D mt_X8_isSmooth [ax_r (some M), ax_i x, ax_i y] S (mW C M (lf v p g) t) (fun r C' => r = (if g (8 * k + 6) = 0 then 0 else 1) ∧ C' = mW C M (lf v p g) t) := by
  have e0 := h.2.1.2.2
  refine vc_X8_isSmooth h.1 ⟨h.1, (c8_node hx hy (w := 6) rfl).use ?_⟩
  rw [mr_r, e0]
  refine ⟨h.2.1.1, (mr_in h (by omega)).2, ?_⟩
  rw [n_clamp (by omega), mW_v, lf_at (by omega)]
  rcases h0 with z | z
  · rw [z, if_pos rfl]
    exact ⟨fun _ => ⟨rfl, rfl⟩, fun q => absurd (Int32.le_refl _) q⟩
  · rw [if_neg (fun w => by rw [w] at z; exact absurd z (by decide))]
    exact ⟨fun q => absurd (Int32.lt_of_lt_of_le z q) (by decide), fun _ => ⟨rfl, rfl⟩⟩
theorem c8_sets {k a b : Nat} {x y X Y : Int32} (h : mK S C M) (hx : x = nI p) (hp : p < 6) (hy : y = nI k) (hk : k < 12) (hX : X = nI a) (hY : Y = nI b) (ha : 0 < a) (ha2 : a < 2 ^ 31) (hb2 : b < 2 ^ 31) : ax_CV l D mt_X8_sets [ax_r (some M), ax_i x, ax_i y, ax_i X, ax_i Y] S (mW C M (lf v p g) t) (fun C' => C' = mW C M (lf v p (rw2 g k a b)) t) := by
  subst hX hY
  have e0 := h.2.1.2.2
  have hg : 0 < Nat.gcd a b := Nat.gcd_pos_of_pos_left _ ha
  have hg2 : Nat.gcd a b < 2 ^ 31 := Nat.lt_of_le_of_lt (Nat.gcd_le_left _ ha) ha2
  have hn : ¬ nI (Nat.gcd a b) = 0 := nI_ne0 hg hg2
  have e1 : nI a / nI (Nat.gcd a b) = nI (a / Nat.gcd a b) := pk_div ha2 hg hg2
  have e2 : nI b / nI (Nat.gcd a b) = nI (b / Nat.gcd a b) := pk_div hb2 hg hg2
  have l1 : a / Nat.gcd a b ≤ a := Nat.div_le_self _ _
  have l2 : b / Nat.gcd a b ≤ b := Nat.div_le_self _ _
  refine vc_X8_sets h.1 fun P33 P34 P60 P86 h33 h34 h60 h86 => (c8_divisor rfl rfl ha2 hb2).use ⟨hn, ?_⟩
  rw [e1, e2]
  have b34 : P34 (nI (Nat.gcd a b)) (bI (rt a b)) (mW C M (lf v p g) t) := by
    refine h34 _ _ _ ⟨h.1, (c8_node hx hy (w := 6) rfl).use ?_⟩
    rw [mr_r, e0]
    have fin : ∀ w1 w2 : Int32, w1 = (if rt a b then nI (a / Nat.gcd a b) else 0) → w2 = (if rt a b then nI (b / Nat.gcd a b) else 0) → (bI (rt a b) = 0 → w2 = 0) → (¬ bI (rt a b) = 0 → nI b / nI (Nat.gcd a b) = w2) → P60 (nI (Nat.gcd a b)) (bI (rt a b)) (some (M + 1)) (nI (3 + 98 * p + (8 * k + 6))) w1 (mW C M (lf v p g) t) := by
      intro w1 w2 hw1 hw2 q1 q2
      refine h60 _ _ _ _ _ _ ?_
      refine ⟨h.2.1.1, (mr_in h (by omega)).2, h.1, ?_⟩
      rw [n_clamp (by omega), ax_wI_rI, mW_v, mW_v2, lf_up (by omega)]
      refine (c8_node hx hy (w := 7) rfl).use ?_
      rw [mr_r, e0]
      have b86 : P86 (some (M + 1)) (nI (3 + 98 * p + (8 * k + 7))) w2 (mW C M (lf v p (va_up g (8 * k + 6) w1)) t) := by
        refine h86 _ _ _ _ ?_
        refine ⟨h.2.1.1, (mr_in h (by omega)).2, ?_⟩
        rw [n_clamp (by omega), ax_wI_rI, mW_v, mW_v2, lf_up (by omega), hw1, hw2]
        rfl
      refine ⟨fun z => ?_, fun z => ⟨hn, ?_⟩⟩
      · have := q1 z
        subst this
        exact b86
      · rw [q2 z]; exact b86
    cases hr : rt a b
    · rw [hr] at fin
      exact ⟨fun _ => fin 0 0 (by simp) (by simp) (fun _ => rfl) (fun q => absurd rfl q), fun q => absurd rfl q⟩
    · rw [hr] at fin
      refine ⟨fun q => absurd q (by decide), fun _ => ⟨hn, ?_⟩⟩
      rw [e1]
      exact fin _ _ (by simp) rfl (fun q => absurd q (by decide)) (fun _ => by rw [e2]; simp)
  refine ⟨fun q => h33 _ _ ?_, fun q => ⟨hn, fun q2 => h33 _ _ ?_, fun q2 => ?_⟩⟩
  · have : ¬ a / Nat.gcd a b ≤ 999 := fun z => by
      rw [n_lit999] at q
      exact nI_nlt z (by omega) q
    have hr : rt a b = false := by simp [rt, this]
    rw [hr] at b34
    exact b34
  · have : ¬ b / Nat.gcd a b ≤ 999 := fun z => by
      rw [n_lit999] at q2
      exact nI_nlt z (by omega) q2
    have hr : rt a b = false := by simp [rt, this]
    rw [hr] at b34
    exact b34
  · have h1 : a / Nat.gcd a b ≤ 999 := by
      rcases Nat.lt_or_ge 999 (a / Nat.gcd a b) with z | z
      · rw [n_lit999] at q; exact absurd (nI_lt z (by omega)) q
      · exact z
    have h2 : b / Nat.gcd a b ≤ 999 := by
      rcases Nat.lt_or_ge 999 (b / Nat.gcd a b) with z | z
      · rw [n_lit999] at q2; exact absurd (nI_lt z (by omega)) q2
      · exact z
    have hr : rt a b = true := by simp [rt, h1, h2]
    rw [hr] at b34
    exact b34
/-- a coordinate of a path's node -/
theorem s8_put {m : Nat} {X : Int32} {x y : Int64} {P : ax_C → Prop} (h : mK S C M) (hp6 : p < 6) (hm : m < 96) (hX : X = nI (3 + 98 * p + m)) (hy : ¬ y = 0) (hp : ∀ w, (chk t x y = 0 → w = qr x y) → P (mW C M (lf v p (va_up g m w)) (chk t x y))) : ax_CV l D mt_X8_puts [ax_r (some M), ax_i X, ax_l x, ax_l y] S (mW C M (lf v p g) t) P := by
  refine c8_puts h hX (by omega) hy fun w hw => ?_
  rw [lf_up hm]
  exact hp w hw
theorem c8_follows {k : Nat} {x y z : Int32} {o : Bool} {P : ax_C → Prop} (h : mK S C M) (hx : x = nI p) (hp : p < 6) (hy : y = nI k) (hk : k < 12) (hz : z = bI (!o)) (hr : ¬ g (8 * k + (if o then 6 else 7)) = 0) (hP : ∀ w0 w1, (chk (chk t (ft g k o 0) (fb g k o)) (ft g k o 1) (fb g k o) = 0 → w0 = qr (ft g k o 0) (fb g k o) ∧ w1 = qr (ft g k o 1) (fb g k o)) → P (mW C M (lf v p (va_up (va_up g (8 * k + ((if o then 4 else 2) + 0)) w0) (8 * k + ((if o then 4 else 2) + 1)) w1)) (chk (chk t (ft g k o 0) (fb g k o)) (ft g k o 1) (fb g k o)))) : ax_CV l D mt_X8_follows [ax_r (some M), ax_i x, ax_i y, ax_i z] S (mW C M (lf v p g) t) P := by
  have e0 := h.2.1.2.2
  have hb : ¬ fb g k o = 0 := by
    intro q
    apply hr
    have := congrArg Int64.toInt q
    unfold fb at this
    rw [Int32.toInt_toInt64] at this
    exact Int32.toInt_inj.mp this
  refine vc_X8_follows h.1 fun P9 P20 P39 P62 P71 h9 h20 h39 h62 h71 => ?_
  have hf : (if o = true then 4 else 2) < 6 ∧ (if o = true then 2 else 4) < 6 ∧ (if o = true then 2 else 4) + 1 ≠ (if o = true then 4 else 2) ∧ (if o = true then 6 else 7) < 8 ∧ (if o = true then 7 else 6) < 8 := by cases o <;> decide
  have b71 : P71 (nI (if o = true then 2 else 4)) (nI (if o = true then 4 else 2)) (g (8 * k + (if o = true then 7 else 6))) (g (8 * k + (if o = true then 6 else 7))) 0 (mW C M (lf v p g) t) := by
    refine h71 _ _ _ _ _ _ ⟨fun q => absurd q (by decide), fun _ => ?_⟩
    refine (c8_node hx hy (w := (if o = true then 4 else 2) + 0) (by simp (disch := omega) only [n_lit0, n_lit1, n_lit2, n_lit3, n_lit4, n_lit5, n_lit6, n_lit7, n_lit8, n_lit9, n_lit10, n_lit11, n_lit12, n_lit13, n_lit14, n_lit15, n_lit16, n_lit17, n_lit18, n_lit19, n_lit20, n_lit21, n_lit22, n_lit23, n_lit24, n_lit30, n_lit31, n_lit32, n_lit45, n_lit48, n_lit49, n_lit57, n_lit59, n_lit60, n_lit67, n_lit76, n_lit77, n_lit90, n_lit96, n_lit97, n_lit98, n_lit99, n_lit100, n_lit119, n_lit120, n_lit127, n_lit128, n_lit196, n_lit200, n_lit208, n_lit294, n_lit340, n_lit341, n_lit392, n_lit490, n_lit491, n_lit500, n_lit588, n_lit589, n_lit999, n_lit1178, n_lit5301, n_lit5890, n_lit46656, n_add, n_mul, n_sub, n_lt_t, n_lt_f, n_le_t, n_le_f, n_eq_t, n_eq_f, n_clamp, n_in_t, ax_sm_s, true_and, and_true, not_true_eq_false, not_false_eq_true, true_imp, false_imp, imp_true, and_self, ax_wI_2, ax_rI_2, ax_wI_t, ax_wI_n, ax_rI_t, ax_rI_n, n_up_t, n_up_n, ne_eq, or_true, true_or, false_or, or_false, some_ex, n_none1, n_none2, ite_true, ite_false])).use ⟨h.1, (c8_node hx hy (w := (if o = true then 2 else 4) + 0) (by simp (disch := omega) only [n_lit0, n_lit1, n_lit2, n_lit3, n_lit4, n_lit5, n_lit6, n_lit7, n_lit8, n_lit9, n_lit10, n_lit11, n_lit12, n_lit13, n_lit14, n_lit15, n_lit16, n_lit17, n_lit18, n_lit19, n_lit20, n_lit21, n_lit22, n_lit23, n_lit24, n_lit30, n_lit31, n_lit32, n_lit45, n_lit48, n_lit49, n_lit57, n_lit59, n_lit60, n_lit67, n_lit76, n_lit77, n_lit90, n_lit96, n_lit97, n_lit98, n_lit99, n_lit100, n_lit119, n_lit120, n_lit127, n_lit128, n_lit196, n_lit200, n_lit208, n_lit294, n_lit340, n_lit341, n_lit392, n_lit490, n_lit491, n_lit500, n_lit588, n_lit589, n_lit999, n_lit1178, n_lit5301, n_lit5890, n_lit46656, n_add, n_mul, n_sub, n_lt_t, n_lt_f, n_le_t, n_le_f, n_eq_t, n_eq_f, n_clamp, n_in_t, ax_sm_s, true_and, and_true, not_true_eq_false, not_false_eq_true, true_imp, false_imp, imp_true, and_self, ax_wI_2, ax_rI_2, ax_wI_t, ax_wI_n, ax_rI_t, ax_rI_n, n_up_t, n_up_n, ne_eq, or_true, true_or, false_or, or_false, some_ex, n_none1, n_none2, ite_true, ite_false])).use ?_⟩
    rw [mr_r, e0]
    refine ⟨h.2.1.1, (mr_in h (by omega)).2, ?_⟩
    rw [n_clamp (by omega), mW_v, lf_at (by omega)]
    refine s8_put (m := 8 * k + ((if o = true then 4 else 2) + 0)) (x := ft g k o 0) (y := fb g k o) h hp (by omega) rfl hb fun w0 hw0 => ?_
    refine h71 _ _ _ _ _ _ ⟨fun q => absurd q (by decide), fun _ => ?_⟩
    refine (c8_node hx hy (w := (if o = true then 4 else 2) + 1) (by simp (disch := omega) only [n_lit0, n_lit1, n_lit2, n_lit3, n_lit4, n_lit5, n_lit6, n_lit7, n_lit8, n_lit9, n_lit10, n_lit11, n_lit12, n_lit13, n_lit14, n_lit15, n_lit16, n_lit17, n_lit18, n_lit19, n_lit20, n_lit21, n_lit22, n_lit23, n_lit24, n_lit30, n_lit31, n_lit32, n_lit45, n_lit48, n_lit49, n_lit57, n_lit59, n_lit60, n_lit67, n_lit76, n_lit77, n_lit90, n_lit96, n_lit97, n_lit98, n_lit99, n_lit100, n_lit119, n_lit120, n_lit127, n_lit128, n_lit196, n_lit200, n_lit208, n_lit294, n_lit340, n_lit341, n_lit392, n_lit490, n_lit491, n_lit500, n_lit588, n_lit589, n_lit999, n_lit1178, n_lit5301, n_lit5890, n_lit46656, n_add, n_mul, n_sub, n_lt_t, n_lt_f, n_le_t, n_le_f, n_eq_t, n_eq_f, n_clamp, n_in_t, ax_sm_s, true_and, and_true, not_true_eq_false, not_false_eq_true, true_imp, false_imp, imp_true, and_self, ax_wI_2, ax_rI_2, ax_wI_t, ax_wI_n, ax_rI_t, ax_rI_n, n_up_t, n_up_n, ne_eq, or_true, true_or, false_or, or_false, some_ex, n_none1, n_none2, ite_true, ite_false])).use ⟨h.1, (c8_node hx hy (w := (if o = true then 2 else 4) + 1) (by simp (disch := omega) only [n_lit0, n_lit1, n_lit2, n_lit3, n_lit4, n_lit5, n_lit6, n_lit7, n_lit8, n_lit9, n_lit10, n_lit11, n_lit12, n_lit13, n_lit14, n_lit15, n_lit16, n_lit17, n_lit18, n_lit19, n_lit20, n_lit21, n_lit22, n_lit23, n_lit24, n_lit30, n_lit31, n_lit32, n_lit45, n_lit48, n_lit49, n_lit57, n_lit59, n_lit60, n_lit67, n_lit76, n_lit77, n_lit90, n_lit96, n_lit97, n_lit98, n_lit99, n_lit100, n_lit119, n_lit120, n_lit127, n_lit128, n_lit196, n_lit200, n_lit208, n_lit294, n_lit340, n_lit341, n_lit392, n_lit490, n_lit491, n_lit500, n_lit588, n_lit589, n_lit999, n_lit1178, n_lit5301, n_lit5890, n_lit46656, n_add, n_mul, n_sub, n_lt_t, n_lt_f, n_le_t, n_le_f, n_eq_t, n_eq_f, n_clamp, n_in_t, ax_sm_s, true_and, and_true, not_true_eq_false, not_false_eq_true, true_imp, false_imp, imp_true, and_self, ax_wI_2, ax_rI_2, ax_wI_t, ax_wI_n, ax_rI_t, ax_rI_n, n_up_t, n_up_n, ne_eq, or_true, true_or, false_or, or_false, some_ex, n_none1, n_none2, ite_true, ite_false])).use ?_⟩
    rw [mr_r, e0]
    refine ⟨h.2.1.1, (mr_in h (by omega)).2, ?_⟩
    rw [n_clamp (by omega), mW_v, lf_at (by omega), n_up_n (by omega)]
    refine s8_put (m := 8 * k + ((if o = true then 4 else 2) + 1)) (x := ft g k o 1) (y := fb g k o) h hp (by omega) rfl hb fun w1 hw1 => ?_
    refine h71 _ _ _ _ _ _ ⟨fun _ => ?_, fun q => absurd (by decide) q⟩
    exact hP w0 w1 fun q => ⟨hw0 ((chk_0 _ _ _).mp q).1, hw1 q⟩
  have b62 : P62 (nI (if o = true then 2 else 4)) (nI (if o = true then 4 else 2)) (g (8 * k + (if o = true then 7 else 6))) (some (M + 1)) (nI (if o = true then 6 else 7)) (mW C M (lf v p g) t) := by
    refine h62 _ _ _ _ _ _ ((c8_node hx hy rfl).use ?_)
    refine ⟨h.2.1.1, (mr_in h (by omega)).2, ?_⟩
    rw [n_clamp (by omega), mW_v, lf_at (by omega)]
    exact b71
  have b39 : P39 (nI (if o = true then 2 else 4)) (nI (if o = true then 4 else 2)) (some (M + 1)) (nI (if o = true then 7 else 6)) (mW C M (lf v p g) t) := by
    refine h39 _ _ _ _ _ ((c8_node hx hy rfl).use ?_)
    refine ⟨h.2.1.1, (mr_in h (by omega)).2, h.1, ?_⟩
    rw [n_clamp (by omega), mW_v, lf_at (by omega), mr_r, e0, hz]
    cases o
    · exact ⟨fun q => absurd q (by decide), fun _ => b62⟩
    · exact ⟨fun _ => b62, fun q => absurd rfl q⟩
  have b20 : P20 (nI (if o = true then 2 else 4)) (nI (if o = true then 4 else 2)) (mW C M (lf v p g) t) := by
    refine h20 _ _ _ ⟨h.1, ?_⟩
    rw [mr_r, e0, hz]
    cases o
    · exact ⟨fun q => absurd q (by decide), fun _ => b39⟩
    · exact ⟨fun _ => b39, fun q => absurd rfl q⟩
  have b9 : P9 (nI (if o = true then 2 else 4)) (mW C M (lf v p g) t) := by
    refine h9 _ _ ?_
    rw [hz]
    cases o
    · exact ⟨fun q => absurd q (by decide), fun _ => b20⟩
    · exact ⟨fun _ => b20, fun q => absurd rfl q⟩
  rw [hz]
  cases o
  · exact ⟨fun q => absurd q (by decide), fun _ => b9⟩
  · exact ⟨fun _ => b9, fun q => absurd rfl q⟩
end
