/-! ===== the reference's changes: paths added, removed, turned, mapped ===== -/
section
variable {l : Launch} {D : ax_D} {S : ax_S} {E C : ax_C} {M : Nat} {A : ab_A}
theorem mW_rI (C : ax_C) (M : Nat) (f : Nat → Int32) : ax_rI C (M + 1) f = mW C M f (C.1 M 12) := mW_v0 C M f
theorem s8_many {v : Nat → Int32} {t : Int32} {p n : Nat} {x : Int32} {P : Int32 → ax_C → Prop} (h : mK S C M) (hx : x = nI p) (hp : p < 6) (hn : v (1 + 98 * p) = nI n) (hP : P (nI n) (mW C M v t)) : ax_CI l D mt_X8_many [ax_r (some M), ax_i x] S (mW C M v t) P := by
  refine (c8_many (C := mW C M v t) h hx hp).use ?_
  rw [mW_v, hn]
  exact hP
theorem m_extend {x1 x y : Int32} (h : mdl S E C M A) : ax_CI l D mt_X8_extend [ax_r (some M), ax_i x1, ax_i x, ax_i y] S C (pP S E M A (F_extend (nw A) x1 x y)) := by
  unfold F_extend
  refine vc_X8_extend (mdl_9 h) (s8_pt h (fun e => by rw [e]; exact ⟨rfl, h⟩) fun p hp hx e => ?_)
  rw [e]
  refine c8_isUnits.use ?_
  cases hln : ln x y
  · rw [if_pos rfl]
    exact ⟨fun q => absurd rfl q, fun _ => ⟨rfl, h⟩⟩
  rw [if_neg (by decide)]
  have hV6 := h.2.1
  obtain ⟨h12, w2, w3, w4⟩ := h.2.2.2 p hp
  have hR := vR_g h.2 hp
  refine ⟨fun _ => (c8_isShut h.1.1 hx (by omega) w3).use ?_, fun q => absurd q (by decide)⟩
  cases hb : ((nw A).2 p).2.1
  · rw [if_neg (by decide)]
    refine ⟨fun _ => (c8_many h.1.1 hx (by omega)).use ?_, fun q => absurd rfl q⟩
    rw [w2]
    by_cases z : ((nw A).2 p).1 = 12
    · rw [if_pos z, z]
      exact ⟨fun q => absurd rfl q, fun _ => ⟨rfl, h⟩⟩
    rw [if_neg z]
    refine ⟨fun _ => s8_begins h fun C1 hC1 ev e1 => ?_, fun q => absurd ((nI_eq (b := 12) (by omega) (by omega)).mp q) z⟩
    have hK := hC1.1.1
    have e0 := hK.2.1.2.2
    rw [mW_c (p := p) ev]
    refine s8_many hK hx (by omega) (by rw [lf_n (by omega)]; exact w2) ?_
    refine (c8_clears hK hx (by omega) rfl (by omega)).use ⟨hK.1, (c8_path hx).use ?_⟩
    rw [mr_r, e0]
    refine ⟨hK.2.1.1, (mr_in hK (by omega)).2, ?_⟩
    refine ⟨hK.2.1.1, (mr_in hK (by omega)).2, ?_⟩
    rw [n_clamp (by omega), ax_wI_rI, mW_v, mW_v2, lf_n (by omega), w2, n_succ]
    refine s8_many hK hx (by omega) (n_up_t rfl) ?_
    refine s8_made (V := setP (nw A) p (((nw A).2 p).1 + 1, false, nd ((nw A).2 p).2.2 ((nw A).2 p).1 (cn (x * 46656) (y * 46656)))) (mC_W hC1).1 (mC_W hC1).2 ?_ fun C2 hC => ⟨rfl, hC⟩
    rw [mW_v]
    refine vR_set h.2 hp (fun j hj => ?_) (by show _ + 1 ≤ 12; omega) (n_up_t rfl) ?_ fun q hq => ?_
    · rw [n_up_n (by omega), lf_n (by omega)]
    · rw [n_up_n (by omega), lf_n (by omega), w3, hb]
    · have hq : q < 8 * (((nw A).2 p).1 + 1) := hq
      rw [n_up_n (by omega), lf_at (by omega)]
      show nd _ _ _ q = nd _ _ _ q
      unfold nd
      by_cases w : 8 * ((nw A).2 p).1 ≤ q ∧ q < 8 * ((nw A).2 p).1 + 8
      · rw [if_pos w, if_pos w]
      · rw [if_neg w, if_neg w]; exact hR q (by omega)
  · rw [if_pos rfl]
    exact ⟨fun q => absurd q (by decide), fun _ => ⟨rfl, h⟩⟩
theorem m_addPath {x y : Int32} (h : mdl S E C M A) : ax_CI l D mt_X8_addPath [ax_r (some M), ax_i x, ax_i y] S C (pP S E M A (F_addPath (nw A) x y)) := by
  unfold F_addPath
  refine vc_X8_addPath (mdl_9 h) (c8_isUnits.use ?_)
  cases hln : ln x y
  · rw [if_pos rfl]
    exact ⟨fun q => absurd rfl q, fun _ => ⟨rfl, h⟩⟩
  rw [if_neg (by decide)]
  have hV6 := h.2.1
  have hv0 := h.2.2.1
  have hK0 := h.1.1
  refine ⟨fun _ => ⟨hK0.1, ?_⟩, fun q => absurd q (by decide)⟩
  rw [hK0.2.1.2.2]
  refine ⟨hK0.2.1.1, (mr_in (j := 0) hK0 (by omega)).2, ?_⟩
  show (¬ C.1 (M + 1) 0 = 6 → _) ∧ (C.1 (M + 1) 0 = 6 → _)
  rw [hv0]
  by_cases z : (nw A).1 = 6
  · rw [if_pos z, z]
    exact ⟨fun q => absurd rfl q, fun _ => ⟨rfl, h⟩⟩
  rw [if_neg z]
  refine ⟨fun _ => s8_begins h fun C1 hC1 ev e1 => ⟨hC1.1.1.1, ?_⟩, fun q => absurd ((nI_eq (b := 6) (by omega) (by omega)).mp q) z⟩
  have hK := hC1.1.1
  have e0 := hK.2.1.2.2
  rw [mW_c (p := 0) ev, mr_r, e0]
  refine ⟨hK.2.1.1, (mr_in (j := 0) hK (by omega)).2, hK.1, hK.2.1.1, (mr_in (j := 0) hK (by omega)).2, hK.2.1.1, (mr_in (j := 0) hK (by omega)).2, hK.1, ?_⟩
  rw [lf_bk]
  have ez : (0 : Int32).toNatClampNeg = 0 := by decide
  rw [ez, mW_v, hv0, ax_wI_rI, mW_v2, mW_v, n_succ]
  refine (c8_path rfl).use ?_
  rw [mr_r, e0]
  refine ⟨hK.2.1.1, (mr_in hK (by omega)).2, hK.1, ?_⟩
  rw [n_clamp (by omega), ax_wI_rI, mW_v, mW_v2]
  refine (c8_path rfl).use ?_
  rw [mr_r, e0, n_succ]
  refine ⟨hK.2.1.1, (mr_in hK (by omega)).2, ?_⟩
  rw [n_clamp (by omega), ax_wI_rI, mW_v, mW_v2]
  generalize hv3 : va_up (va_up (va_up (C.1 (M + 1)) 0 (nI ((nw A).1 + 1))) (1 + 98 * (nw A).1) 1) (1 + 98 * (nw A).1 + 1) 0 = v3
  have hb := lf_bk v3 (nw A).1
  rw [← hb]
  refine (c8_clears hK rfl (by omega) (k := 0) rfl (by omega)).use ?_
  refine s8_made (V := addP (nw A) (1, false, cn (x * 46656) (y * 46656))) (mC_W hC1).1 (mC_W hC1).2 ?_ fun C2 hC => ⟨rfl, hC⟩
  rw [mW_v]
  refine ⟨by show _ + 1 ≤ 6; omega, ?_, fun j hj => ?_⟩
  · rw [lf_n (by omega), ← hv3, n_up_n (by omega), n_up_n (by omega), n_up_t rfl]; rfl
  · have hj : j < (nw A).1 + 1 := hj
    have ej : (addP (nw A) (1, false, cn (x * 46656) (y * 46656))).2 j = va_up (nw A).2 (nw A).1 (1, false, cn (x * 46656) (y * 46656)) j := rfl
    rw [ej]
    by_cases w : j = (nw A).1
    · rw [w, n_up_t rfl]
      refine ⟨by omega, ?_, ?_, fun q hq => ?_⟩
      · rw [lf_n (by omega), ← hv3, n_up_n (by omega), n_up_t rfl]; rfl
      · rw [lf_n (by omega), ← hv3, n_up_t (by omega)]; rfl
      · have hq : q < 8 * 1 := hq
        rw [lf_at (by omega)]
        unfold nd
        rw [if_pos (by omega)]
        exact congrArg _ (by omega)
    · rw [n_up_n w]
      obtain ⟨z1, z2, z3, z4⟩ := h.2.2.2 j (by omega)
      have hn : ∀ i, 1 ≤ i → i < 1 + 98 * (nw A).1 → lf v3 (nw A).1 (nd (bk v3 (nw A).1) 0 (cn (x * 46656) (y * 46656))) i = C.1 (M + 1) i := fun i h1 h2 => by
        rw [lf_n (by omega), ← hv3, n_up_n (by omega), n_up_n (by omega), n_up_n (by omega)]
      exact ⟨z1, by rw [hn _ (by omega) (by omega)]; exact z2, by rw [hn _ (by omega) (by omega)]; exact z3, fun q hq => by rw [hn _ (by omega) (by omega)]; exact z4 q hq⟩
theorem vR_rm {w w' : Nat → Int32} {V : ab_V} {p : Nat} (h : vR w V) (hp : p < V.1) (h0 : w' 0 = nI (V.1 - 1)) (hf : ∀ j, 1 ≤ j → w' j = if 1 + 98 * p ≤ j ∧ j < 491 then w (j + 98) else w j) : vR w' (rmP V p) := by
  have h6 := h.1
  refine ⟨by show V.1 - 1 ≤ 6; omega, h0, fun j hj => ?_⟩
  have hj : j < V.1 - 1 := hj
  have ej : (rmP V p).2 j = if j < p then V.2 j else V.2 (j + 1) := rfl
  rw [ej]
  by_cases w : j < p
  · rw [if_pos w]
    obtain ⟨z1, z2, z3, z4⟩ := h.2.2 j (by omega)
    exact ⟨z1, by rw [hf _ (by omega), if_neg (by omega)]; exact z2, by rw [hf _ (by omega), if_neg (by omega)]; exact z3, fun q hq => by rw [hf _ (by omega), if_neg (by omega)]; exact z4 q hq⟩
  · rw [if_neg w]
    obtain ⟨z1, z2, z3, z4⟩ := h.2.2 (j + 1) (by omega)
    refine ⟨z1, ?_, ?_, fun q hq => ?_⟩
    · rw [hf _ (by omega), if_pos (by omega), ← z2]; exact congrArg _ (by omega)
    · rw [hf _ (by omega), if_pos (by omega), ← z3]; exact congrArg _ (by omega)
    · rw [hf _ (by omega), if_pos (by omega), ← z4 q hq]; exact congrArg _ (by omega)
theorem c8_removes {p : Nat} {x : Int32} {v : Nat → Int32} {t : Int32} {V : ab_V} (h : mK S C M) (hx : x = nI p) (hv : vR v V) (hp : p < V.1) : ax_CV l D mt_X8_removes [ax_r (some M), ax_i x] S (mW C M v t) (fun C' => ∃ v', C' = mW C M v' t ∧ vR v' (rmP V p)) := by
  have e0 := h.2.1.2.2
  have h6 := hv.1
  refine vc_X8_removes h.1 fun P5 h5 => (c8_path hx).use ?_
  have ez : (0 : Int32).toNatClampNeg = 0 := by decide
  have loop : ∀ (m k : Nat) (G : Nat → Int32), k + m = 491 → 1 + 98 * p ≤ k → (∀ j, G j = if 1 + 98 * p ≤ j ∧ j < k then v (j + 98) else v j) → P5 (nI k) (mW C M G t) := by
    intro m
    induction m with
    | zero =>
      intro k G hk hkp hG
      have : k = 491 := by omega
      subst this
      refine h5 _ _ ((c8_path (p := 5) rfl).use ⟨fun _ => ⟨h.1, ?_⟩, fun q => n_absurd (by simp (disch := omega) only [n_lit0, n_lit1, n_lit2, n_lit3, n_lit4, n_lit5, n_lit6, n_lit7, n_lit8, n_lit9, n_lit10, n_lit11, n_lit12, n_lit13, n_lit14, n_lit15, n_lit16, n_lit17, n_lit18, n_lit19, n_lit20, n_lit21, n_lit22, n_lit23, n_lit24, n_lit30, n_lit31, n_lit32, n_lit45, n_lit48, n_lit49, n_lit57, n_lit59, n_lit60, n_lit67, n_lit76, n_lit77, n_lit90, n_lit96, n_lit97, n_lit98, n_lit99, n_lit100, n_lit119, n_lit120, n_lit127, n_lit128, n_lit196, n_lit200, n_lit208, n_lit294, n_lit340, n_lit341, n_lit392, n_lit490, n_lit491, n_lit500, n_lit588, n_lit589, n_lit999, n_lit1178, n_lit5301, n_lit5890, n_lit46656, n_add, n_mul, n_sub, n_lt_t, n_lt_f, n_le_t, n_le_f, n_eq_t, n_eq_f, n_clamp, n_in_t, ax_sm_s, true_and, and_true, not_true_eq_false, not_false_eq_true, true_imp, false_imp, imp_true, and_self, ax_wI_2, ax_rI_2, ax_wI_t, ax_wI_n, ax_rI_t, ax_rI_n, n_up_t, n_up_n, ne_eq, or_true, true_or, false_or, or_false, some_ex, n_none1, n_none2, ite_true, ite_false]) q⟩)
      rw [mr_r, e0]
      refine ⟨h.2.1.1, (mr_in (j := 0) h (by omega)).2, h.2.1.1, (mr_in (j := 0) h (by omega)).2, ?_⟩
      rw [ez, ax_wI_rI, mW_v, mW_v2]
      refine ⟨_, rfl, vR_rm hv hp ?_ fun j hj => ?_⟩
      · rw [n_up_t rfl, hG, if_neg (by omega), hv.2.1, n_lit1, n_sub (by omega)]
      · rw [n_up_n (by omega), hG]
    | succ m ih =>
      intro k G hk hkp hG
      refine h5 _ _ ((c8_path (p := 5) rfl).use ⟨fun q => n_absurd q (by simp (disch := omega) only [n_lit0, n_lit1, n_lit2, n_lit3, n_lit4, n_lit5, n_lit6, n_lit7, n_lit8, n_lit9, n_lit10, n_lit11, n_lit12, n_lit13, n_lit14, n_lit15, n_lit16, n_lit17, n_lit18, n_lit19, n_lit20, n_lit21, n_lit22, n_lit23, n_lit24, n_lit30, n_lit31, n_lit32, n_lit45, n_lit48, n_lit49, n_lit57, n_lit59, n_lit60, n_lit67, n_lit76, n_lit77, n_lit90, n_lit96, n_lit97, n_lit98, n_lit99, n_lit100, n_lit119, n_lit120, n_lit127, n_lit128, n_lit196, n_lit200, n_lit208, n_lit294, n_lit340, n_lit341, n_lit392, n_lit490, n_lit491, n_lit500, n_lit588, n_lit589, n_lit999, n_lit1178, n_lit5301, n_lit5890, n_lit46656, n_add, n_mul, n_sub, n_lt_t, n_lt_f, n_le_t, n_le_f, n_eq_t, n_eq_f, n_clamp, n_in_t, ax_sm_s, true_and, and_true, not_true_eq_false, not_false_eq_true, true_imp, false_imp, imp_true, and_self, ax_wI_2, ax_rI_2, ax_wI_t, ax_wI_n, ax_rI_t, ax_rI_n, n_up_t, n_up_n, ne_eq, or_true, true_or, false_or, or_false, some_ex, n_none1, n_none2, ite_true, ite_false]), fun _ => ⟨h.1, h.1, ?_⟩⟩)
      rw [mr_r, e0, n_lit98, n_add]
      refine ⟨h.2.1.1, (mr_in h (by omega)).2, h.2.1.1, (mr_in h (by omega)).2, ?_⟩
      rw [n_clamp (by omega), n_clamp (by omega), ax_wI_rI, mW_v, mW_v2, n_succ]
      refine ih (k + 1) _ (by omega) (by omega) fun j => ?_
      by_cases z : j = k
      · rw [n_up_t z, if_pos (by omega), hG, if_neg (by omega), z]
      · rw [n_up_n z, hG]
        by_cases z2 : 1 + 98 * p ≤ j ∧ j < k
        · rw [if_pos z2, if_pos (by omega)]
        · rw [if_neg z2, if_neg (by omega)]
  exact loop (491 - (1 + 98 * p)) (1 + 98 * p) v (by omega) (Nat.le_refl _) (fun j => by rw [if_neg (by omega)])
theorem m_removePath {x1 : Int32} (h : mdl S E C M A) : ax_CI l D mt_X8_removePath [ax_r (some M), ax_i x1] S C (pP S E M A (F_removePath (nw A) x1)) := by
  unfold F_removePath
  refine vc_X8_removePath (mdl_9 h) (s8_pt h (fun e => by rw [e]; exact ⟨rfl, h⟩) fun p hp hx e => s8_begins h fun C1 hC1 ev e1 => ?_)
  rw [e]
  have hK := hC1.1.1
  have e0 := hK.2.1.2.2
  rw [mW_c (p := p) ev, lf_bk]
  refine (c8_removes hK hx h.2 hp).mono ?_
  rintro C4 ⟨v', rfl, hv'⟩
  refine ⟨hK.1, ?_⟩
  rw [mr_r, e0]
  refine ⟨hK.2.1.1, (mr_in (j := 0) hK (by omega)).2, ?_⟩
  have ez : (0 : Int32).toNatClampNeg = 0 := by decide
  rw [ez, mW_v, hv'.2.1]
  refine s8_made (V := rmP (nw A) p) (mC_W hC1).1 (mC_W hC1).2 ?_ fun C2 hC => ⟨rfl, hC⟩
  rw [mW_v]
  exact hv'
theorem m_removeNode {x1 x2 : Int32} (h : mdl S E C M A) (hok : okV (nw A)) : ax_CI l D mt_X8_removeNode [ax_r (some M), ax_i x1, ax_i x2] S C (pP S E M A (F_removeNode (nw A) x1 x2)) := by
  unfold F_removeNode
  refine vc_X8_removeNode (mdl_9 h) fun P27 P91 P101 h27 h91 h101 => s8_nd h (fun e => by rw [e]; exact ⟨rfl, h⟩) fun p k hp hk hx hx2 e => s8_begins h fun C1 hC1 ev e1 => ?_
  rw [e] at h101
  have hV6 := h.2.1
  obtain ⟨h12, w2, w3, w4⟩ := h.2.2.2 p hp
  have hR := vR_g h.2 hp
  have hK := hC1.1.1
  have e0 := hK.2.1.2.2
  generalize hn : ((nw A).2 p).1 = n at *
  generalize hv : C.1 (M + 1) = v at *
  rw [mW_c (p := p) ev]
  refine s8_many hK hx (by omega) (by rw [lf_n (by omega)]; exact w2) ?_
  rw [n_lit1, n_sub (by omega)]
  -- the end
  have b91 : ∀ (G : Nat → Int32) (cl : Int32) (t : Int32), cl = bI (((nw A).2 p).2.1 && decide (3 ≤ n)) → (∀ q, q < 8 * (n - 1) → G q = dn ((nw A).2 p).2.2 k n q) → P91 (nI (n - 1)) (some (M + 1)) (nI (1 + 98 * p + 1)) cl (mW C1 M (va_up (lf v p G) (1 + 98 * p) (nI (n - 1))) t) := by
    intro G cl t hcl hG
    refine h91 _ _ _ _ _ ?_
    refine ⟨hK.2.1.1, (mr_in hK (by omega)).2, ?_⟩
    rw [n_clamp (by omega), ax_wI_rI, mW_v, mW_v2]
    have hvR : vR (va_up (va_up (lf v p G) (1 + 98 * p) (nI (n - 1))) (1 + 98 * p + 1) cl) (setP (nw A) p (n - 1, ((nw A).2 p).2.1 && decide (3 ≤ n), dn ((nw A).2 p).2.2 k n)) := by
      refine vR_set h.2 hp (fun j hj => ?_) (by show n - 1 ≤ 12; omega) ?_ ?_ fun q hq => ?_
      · rw [n_up_n (by omega), n_up_n (by omega), lf_n (by omega), hv]
      · rw [n_up_n (by omega), n_up_t rfl]
      · rw [n_up_t (by omega)]; exact hcl
      · have hq : q < 8 * (n - 1) := hq
        rw [n_up_n (by omega), n_up_n (by omega), lf_at (by omega)]
        exact hG q hq
    by_cases z : n = 1
    · subst z
      refine ⟨fun q => absurd rfl q, fun _ => (c8_removes (V := setP (nw A) p (1 - 1, ((nw A).2 p).2.1 && decide (3 ≤ 1), dn ((nw A).2 p).2.2 k 1)) hK hx hvR hp).mono ?_⟩
      rintro C16 ⟨v', rfl, hv'⟩
      refine h101 _ _ ?_
      rw [if_pos rfl]
      rw [rmP_set] at hv'
      refine s8_made (V := rmP (nw A) p) (mC_W hC1).1 (mC_W hC1).2 ?_ fun C2 hC => ⟨rfl, hC⟩
      rw [mW_v]; exact hv'
    · refine ⟨fun _ => h101 _ _ ?_, fun q => absurd q (nI_ne0 (by omega) (by omega))⟩
      rw [if_neg z]
      refine s8_made (V := setP (nw A) p (n - 1, ((nw A).2 p).2.1 && decide (3 ≤ n), dn ((nw A).2 p).2.2 k n)) (mC_W hC1).1 (mC_W hC1).2 ?_ fun C2 hC => ⟨rfl, hC⟩
      rw [mW_v]; exact hvR
  have loop : ∀ (m s : Nat) (G : Nat → Int32) (t : Int32), s + m = n - 1 → k ≤ s → (∀ q, G q = if 8 * k ≤ q ∧ q < 8 * s then bk v p (q + 8) else bk v p q) → P27 (nI (n - 1)) (nI s) (mW C1 M (lf v p G) t) := by
    intro m
    induction m with
    | zero =>
      intro s G t hs hks hG
      have : s = n - 1 := by omega
      subst this
      refine h27 _ _ _ ⟨fun _ => ⟨hK.1, (c8_path hx).use ?_⟩, fun q => n_absurd (by simp (disch := omega) only [n_lit0, n_lit1, n_lit2, n_lit3, n_lit4, n_lit5, n_lit6, n_lit7, n_lit8, n_lit9, n_lit10, n_lit11, n_lit12, n_lit13, n_lit14, n_lit15, n_lit16, n_lit17, n_lit18, n_lit19, n_lit20, n_lit21, n_lit22, n_lit23, n_lit24, n_lit30, n_lit31, n_lit32, n_lit45, n_lit48, n_lit49, n_lit57, n_lit59, n_lit60, n_lit67, n_lit76, n_lit77, n_lit90, n_lit96, n_lit97, n_lit98, n_lit99, n_lit100, n_lit119, n_lit120, n_lit127, n_lit128, n_lit196, n_lit200, n_lit208, n_lit294, n_lit340, n_lit341, n_lit392, n_lit490, n_lit491, n_lit500, n_lit588, n_lit589, n_lit999, n_lit1178, n_lit5301, n_lit5890, n_lit46656, n_add, n_mul, n_sub, n_lt_t, n_lt_f, n_le_t, n_le_f, n_eq_t, n_eq_f, n_clamp, n_in_t, ax_sm_s, true_and, and_true, not_true_eq_false, not_false_eq_true, true_imp, false_imp, imp_true, and_self, ax_wI_2, ax_rI_2, ax_wI_t, ax_wI_n, ax_rI_t, ax_rI_n, n_up_t, n_up_n, ne_eq, or_true, true_or, false_or, or_false, some_ex, n_none1, n_none2, ite_true, ite_false]) q⟩
      rw [mr_r, e0]
      refine ⟨hK.2.1.1, (mr_in hK (by omega)).2, hK.1, (c8_path hx).use ?_⟩
      rw [n_clamp (by omega), ax_wI_rI, mW_v, mW_v2, n_succ]
      have hG2 : ∀ q, q < 8 * (n - 1) → G q = dn ((nw A).2 p).2.2 k n q := fun q hq => by
        rw [hG]
        unfold dn
        by_cases w : 8 * k ≤ q ∧ q < 8 * (n - 1)
        · rw [if_pos w, if_pos (by omega)]; exact hR _ (by omega)
        · rw [if_neg w, if_neg (by omega)]; exact hR _ (by omega)
      refine ⟨fun q => ⟨hK.1, (c8_path hx).use ?_⟩, fun q => ?_⟩
      · rw [mr_r, e0, n_succ]
        refine ⟨hK.2.1.1, (mr_in hK (by omega)).2, ?_⟩
        rw [n_clamp (by omega), mW_v, n_up_n (by omega), lf_n (by omega), show 1 + 98 * p + 1 = 2 + 98 * p by omega, w3]
        have h3 : 3 ≤ n := by
          rcases Nat.lt_or_ge (n - 1) 2 with w | w
          · exact absurd q (nI_ge (b := 2) w (by omega))
          · omega
        have := b91 G (bI ((nw A).2 p).2.1) t (by rw [decide_eq_true h3, Bool.and_true]) hG2
        rw [show 1 + 98 * p + 1 = 2 + 98 * p by omega] at this
        exact this
      · rw [mr_r, e0]
        have h3 : ¬ 3 ≤ n := fun w => q (nI_le (a := 2) (by omega) (by omega))
        exact b91 G 0 t (by rw [decide_eq_false h3, Bool.and_false]; rfl) hG2
    | succ m ih =>
      intro s G t hs hks hG
      refine h27 _ _ _ ⟨fun q => n_absurd q (by simp (disch := omega) only [n_lit0, n_lit1, n_lit2, n_lit3, n_lit4, n_lit5, n_lit6, n_lit7, n_lit8, n_lit9, n_lit10, n_lit11, n_lit12, n_lit13, n_lit14, n_lit15, n_lit16, n_lit17, n_lit18, n_lit19, n_lit20, n_lit21, n_lit22, n_lit23, n_lit24, n_lit30, n_lit31, n_lit32, n_lit45, n_lit48, n_lit49, n_lit57, n_lit59, n_lit60, n_lit67, n_lit76, n_lit77, n_lit90, n_lit96, n_lit97, n_lit98, n_lit99, n_lit100, n_lit119, n_lit120, n_lit127, n_lit128, n_lit196, n_lit200, n_lit208, n_lit294, n_lit340, n_lit341, n_lit392, n_lit490, n_lit491, n_lit500, n_lit588, n_lit589, n_lit999, n_lit1178, n_lit5301, n_lit5890, n_lit46656, n_add, n_mul, n_sub, n_lt_t, n_lt_f, n_le_t, n_le_f, n_eq_t, n_eq_f, n_clamp, n_in_t, ax_sm_s, true_and, and_true, not_true_eq_false, not_false_eq_true, true_imp, false_imp, imp_true, and_self, ax_wI_2, ax_rI_2, ax_wI_t, ax_wI_n, ax_rI_t, ax_rI_n, n_up_t, n_up_n, ne_eq, or_true, true_or, false_or, or_false, some_ex, n_none1, n_none2, ite_true, ite_false]), fun _ => ?_⟩
      rw [n_succ]
      refine (c8_copiesNode hK hx (by omega) (k := s + 1) rfl (by omega) rfl (by omega) (by omega)).use ?_
      refine ih (s + 1) _ t (by omega) (by omega) fun q => ?_
      unfold nd
      by_cases z : 8 * s ≤ q ∧ q < 8 * s + 8
      · rw [if_pos z, if_pos (by omega)]; dsimp only; rw [hG, if_neg (by omega)]
        exact congrArg _ (by omega)
      · rw [if_neg z, hG]
        by_cases z2 : 8 * k ≤ q ∧ q < 8 * s
        · rw [if_pos z2, if_pos (by omega)]
        · rw [if_neg z2, if_neg (by omega)]
  rw [hx2]
  exact loop (n - 1 - k) k (bk v p) _ (by omega) (Nat.le_refl _) (fun q => by rw [if_neg (by omega)])
end
