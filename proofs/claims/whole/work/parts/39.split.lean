/-! ===== the reference's rows; split ===== -/
section
variable {l : Launch} {D : ax_D} {S : ax_S} {E C : ax_C} {M : Nat} {A : ab_A}
theorem mW_10 (C : ax_C) (M : Nat) (v f : Nat → Int32) (t : Int32) : ax_rI (mW C M v t) (M + 10) f = mW (ax_rI C (M + 10) f) M v t := by
  unfold mW
  rw [ax_wI_rI, ax_wI_rI, ax_rI_comm _ _ (show M + 1 ≠ M + 10 by omega), ax_rI_comm _ _ (show M ≠ M + 10 by omega), ax_rI_n (show M ≠ M + 10 by omega)]
theorem mr10 (h : mK S C M) {j : Nat} (hj : j < 208) : S.1 (M + 10) = 11 ∧ vp_in (nI j) (S.2.1 (M + 10)) := by
  have k := h.2.2.2.2.2.2.2.2.2.2.1
  exact ⟨k.1, by rw [k.2.1]; exact vp_in_nI hj (by omega)⟩
theorem mC_10 {f : Nat → Int32} (h : mC S E C M A) : mC S E (ax_rI C (M + 10) f) M A := mC_fr h (fun b b1 b2 b3 b4 b5 b6 => ax_rI_n b4) rfl fun k _ => by rw [ax_rI_n (by omega)]
theorem c8_rows {v : Nat → Int32} {t : Int32} {p fr mny into : Nat} {x y z w : Int32} (h : mK S C M) (hx : x = nI p) (hp : p < 6) (hy : y = nI fr) (hz : z = nI mny) (hw : w = nI into) (h1 : fr + mny ≤ 12) (h2 : into + mny ≤ 26) : ax_CV l D mt_X8_rows [ax_r (some M), ax_i x, ax_i y, ax_i z, ax_i w] S (mW C M v t) (fun C' => C' = mW (ax_rI C (M + 10) (fun j => if 8 * into ≤ j ∧ j < 8 * into + 8 * mny then bk v p (8 * fr + (j - 8 * into)) else C.1 (M + 10) j)) M v t) := by
  subst hy hz hw
  have e0 := h.2.1.2.2
  have k10 := h.2.2.2.2.2.2.2.2.2.2.1
  refine vc_X8_rows h.1 fun P3 h3 => ?_
  have loop : ∀ (m s : Nat) (G : Nat → Int32), s + m = 8 * mny → (∀ j, G j = if 8 * into ≤ j ∧ j < 8 * into + s then bk v p (8 * fr + (j - 8 * into)) else C.1 (M + 10) j) → P3 (nI s) (mW (ax_rI C (M + 10) G) M v t) := by
    intro m
    induction m with
    | zero =>
      intro s G hs hG
      have : s = 8 * mny := by omega
      subst this
      refine h3 _ _ ⟨fun _ => ?_, fun q => n_absurd (by simp (disch := omega) only [n_lit0, n_lit1, n_lit2, n_lit3, n_lit4, n_lit5, n_lit6, n_lit7, n_lit8, n_lit9, n_lit10, n_lit11, n_lit12, n_lit13, n_lit14, n_lit15, n_lit16, n_lit17, n_lit18, n_lit19, n_lit20, n_lit21, n_lit22, n_lit23, n_lit24, n_lit30, n_lit31, n_lit32, n_lit45, n_lit48, n_lit49, n_lit57, n_lit59, n_lit60, n_lit67, n_lit76, n_lit77, n_lit90, n_lit96, n_lit97, n_lit98, n_lit99, n_lit100, n_lit119, n_lit120, n_lit127, n_lit128, n_lit196, n_lit200, n_lit208, n_lit294, n_lit340, n_lit341, n_lit392, n_lit490, n_lit491, n_lit500, n_lit588, n_lit589, n_lit999, n_lit1178, n_lit5301, n_lit5890, n_lit46656, n_add, n_mul, n_sub, n_lt_t, n_lt_f, n_le_t, n_le_f, n_eq_t, n_eq_f, n_clamp, n_in_t, ax_sm_s, true_and, and_true, not_true_eq_false, not_false_eq_true, true_imp, false_imp, imp_true, and_self, ax_wI_2, ax_rI_2, ax_wI_t, ax_wI_n, ax_rI_t, ax_rI_n, n_up_t, n_up_n, ne_eq, or_true, true_or, false_or, or_false, some_ex, n_none1, n_none2, ite_true, ite_false]) q⟩
      rw [show G = _ from funext hG]
    | succ m ih =>
      intro s G hs hG
      refine h3 _ _ ⟨fun q => n_absurd q (by simp (disch := omega) only [n_lit0, n_lit1, n_lit2, n_lit3, n_lit4, n_lit5, n_lit6, n_lit7, n_lit8, n_lit9, n_lit10, n_lit11, n_lit12, n_lit13, n_lit14, n_lit15, n_lit16, n_lit17, n_lit18, n_lit19, n_lit20, n_lit21, n_lit22, n_lit23, n_lit24, n_lit30, n_lit31, n_lit32, n_lit45, n_lit48, n_lit49, n_lit57, n_lit59, n_lit60, n_lit67, n_lit76, n_lit77, n_lit90, n_lit96, n_lit97, n_lit98, n_lit99, n_lit100, n_lit119, n_lit120, n_lit127, n_lit128, n_lit196, n_lit200, n_lit208, n_lit294, n_lit340, n_lit341, n_lit392, n_lit490, n_lit491, n_lit500, n_lit588, n_lit589, n_lit999, n_lit1178, n_lit5301, n_lit5890, n_lit46656, n_add, n_mul, n_sub, n_lt_t, n_lt_f, n_le_t, n_le_f, n_eq_t, n_eq_f, n_clamp, n_in_t, ax_sm_s, true_and, and_true, not_true_eq_false, not_false_eq_true, true_imp, false_imp, imp_true, and_self, ax_wI_2, ax_rI_2, ax_wI_t, ax_wI_n, ax_rI_t, ax_rI_n, n_up_t, n_up_n, ne_eq, or_true, true_or, false_or, or_false, some_ex, n_none1, n_none2, ite_true, ite_false]), fun _ => ⟨h.1, h.1, (c8_node hx rfl (w := s) rfl).use ?_⟩⟩
      show ax_sm (C.2.2 M 0) (fun b3 => _ ∧ _ ∧ ax_sm (C.2.2 M 14) _)
      rw [e0, k10.2.2, n_lit8, n_mul, n_add]
      refine ⟨h.2.1.1, (mr_in h (by omega)).2, k10.1, (mr10 h (by omega)).2, ?_⟩
      rw [n_clamp (by omega), n_clamp (by omega), ax_wI_rI, mW_v, mW_10, ax_rI_rI, mW_n (by omega) (by omega), ax_rI_t rfl, n_succ]
      refine ih (s + 1) _ (by omega) fun j => ?_
      by_cases q : j = 8 * into + s
      · rw [n_up_t q, if_pos (by omega)]
        unfold bk
        exact congrArg _ (by omega)
      · rw [n_up_n q, hG]
        by_cases q2 : 8 * into ≤ j ∧ j < 8 * into + s
        · rw [if_pos q2, if_pos (by omega)]
        · rw [if_neg q2, if_neg (by omega)]
  have := loop (8 * mny) 0 (C.1 (M + 10)) (by omega) (fun j => by rw [if_neg (by omega)])
  rw [ax_rI_id] at this
  exact this
theorem c8_unrows {v : Nat → Int32} {t : Int32} {p mny : Nat} {x z : Int32} (h : mK S C M) (hx : x = nI p) (hp : p < 6) (hz : z = nI mny) (h1 : mny ≤ 12) : ax_CV l D mt_X8_unrows [ax_r (some M), ax_i x, ax_i z] S (mW C M v t) (fun C' => C' = mW C M (va_up (lf v p (fun q => if q < 8 * mny then C.1 (M + 10) q else bk v p q)) (1 + 98 * p) (nI mny)) t) := by
  subst hz
  have e0 := h.2.1.2.2
  have k10 := h.2.2.2.2.2.2.2.2.2.2.1
  refine vc_X8_unrows h.1 fun P2 h2 => ?_
  have loop : ∀ (m s : Nat) (G : Nat → Int32), s + m = 8 * mny → (∀ j, G j = if j < s then C.1 (M + 10) j else bk v p j) → P2 (nI s) (mW C M (lf v p G) t) := by
    intro m
    induction m with
    | zero =>
      intro s G hs hG
      have : s = 8 * mny := by omega
      subst this
      refine h2 _ _ ⟨fun _ => ⟨h.1, (c8_path hx).use ?_⟩, fun q => n_absurd (by simp (disch := omega) only [n_lit0, n_lit1, n_lit2, n_lit3, n_lit4, n_lit5, n_lit6, n_lit7, n_lit8, n_lit9, n_lit10, n_lit11, n_lit12, n_lit13, n_lit14, n_lit15, n_lit16, n_lit17, n_lit18, n_lit19, n_lit20, n_lit21, n_lit22, n_lit23, n_lit24, n_lit30, n_lit31, n_lit32, n_lit45, n_lit48, n_lit49, n_lit57, n_lit59, n_lit60, n_lit67, n_lit76, n_lit77, n_lit90, n_lit96, n_lit97, n_lit98, n_lit99, n_lit100, n_lit119, n_lit120, n_lit127, n_lit128, n_lit196, n_lit200, n_lit208, n_lit294, n_lit340, n_lit341, n_lit392, n_lit490, n_lit491, n_lit500, n_lit588, n_lit589, n_lit999, n_lit1178, n_lit5301, n_lit5890, n_lit46656, n_add, n_mul, n_sub, n_lt_t, n_lt_f, n_le_t, n_le_f, n_eq_t, n_eq_f, n_clamp, n_in_t, ax_sm_s, true_and, and_true, not_true_eq_false, not_false_eq_true, true_imp, false_imp, imp_true, and_self, ax_wI_2, ax_rI_2, ax_wI_t, ax_wI_n, ax_rI_t, ax_rI_n, n_up_t, n_up_n, ne_eq, or_true, true_or, false_or, or_false, some_ex, n_none1, n_none2, ite_true, ite_false]) q⟩
      rw [mr_r, e0]
      refine ⟨h.2.1.1, (mr_in h (by omega)).2, ?_⟩
      rw [n_clamp (by omega), ax_wI_rI, mW_v, mW_v2, show G = _ from funext hG]
    | succ m ih =>
      intro s G hs hG
      refine h2 _ _ ⟨fun q => n_absurd q (by simp (disch := omega) only [n_lit0, n_lit1, n_lit2, n_lit3, n_lit4, n_lit5, n_lit6, n_lit7, n_lit8, n_lit9, n_lit10, n_lit11, n_lit12, n_lit13, n_lit14, n_lit15, n_lit16, n_lit17, n_lit18, n_lit19, n_lit20, n_lit21, n_lit22, n_lit23, n_lit24, n_lit30, n_lit31, n_lit32, n_lit45, n_lit48, n_lit49, n_lit57, n_lit59, n_lit60, n_lit67, n_lit76, n_lit77, n_lit90, n_lit96, n_lit97, n_lit98, n_lit99, n_lit100, n_lit119, n_lit120, n_lit127, n_lit128, n_lit196, n_lit200, n_lit208, n_lit294, n_lit340, n_lit341, n_lit392, n_lit490, n_lit491, n_lit500, n_lit588, n_lit589, n_lit999, n_lit1178, n_lit5301, n_lit5890, n_lit46656, n_add, n_mul, n_sub, n_lt_t, n_lt_f, n_le_t, n_le_f, n_eq_t, n_eq_f, n_clamp, n_in_t, ax_sm_s, true_and, and_true, not_true_eq_false, not_false_eq_true, true_imp, false_imp, imp_true, and_self, ax_wI_2, ax_rI_2, ax_wI_t, ax_wI_n, ax_rI_t, ax_rI_n, n_up_t, n_up_n, ne_eq, or_true, true_or, false_or, or_false, some_ex, n_none1, n_none2, ite_true, ite_false]), fun _ => ⟨h.1, (c8_node hx (k := 0) rfl (w := s) rfl).use ⟨h.1, ?_⟩⟩⟩
      show ax_sm (C.2.2 M 14) (fun b6 => _ ∧ _ ∧ ax_sm (C.2.2 M 0) _)
      rw [e0, k10.2.2]
      refine ⟨k10.1, (mr10 h (by omega)).2, h.2.1.1, (mr_in h (by omega)).2, ?_⟩
      rw [n_clamp (by omega), n_clamp (by omega), ax_wI_rI, mW_v, mW_v2, lf_up (by omega), mW_n (by omega) (by omega), n_succ]
      refine ih (s + 1) _ (by omega) fun j => ?_
      by_cases q : j = s
      · rw [n_up_t (by omega), if_pos (by omega), q]
      · rw [n_up_n (by omega), hG]
        by_cases q2 : j < s
        · rw [if_pos q2, if_pos (by omega)]
        · rw [if_neg q2, if_neg (by omega)]
  have := loop (8 * mny) 0 (bk v p) (by omega) (fun j => by rw [if_neg (by omega)])
  rw [lf_bk] at this
  exact this
theorem m_split {x1 x2 : Int32} (h : mdl S E C M A) (hok : okV (nw A)) : ax_CI l D mt_X8_split [ax_r (some M), ax_i x1, ax_i x2] S C (pP S E M A (F_split (nw A) x1 x2)) := by
  unfold F_split
  refine vc_X8_split (mdl_9 h) fun P44 P72 P188 h44 h72 h188 => s8_nd h (fun e => by rw [e]; exact ⟨rfl, h⟩) fun p k hp hk hx hx2 e => ?_
  rw [e] at h44 h188 ⊢
  subst hx2
  have hV6 := h.2.1
  obtain ⟨h12, w2, w3, w4⟩ := h.2.2.2 p hp
  have hR := vR_g h.2 hp
  have hK0 := h.1.1
  have ez : (0 : Int32).toNatClampNeg = 0 := by decide
  refine (c8_many hK0 hx (by omega)).use ((c8_isShut hK0 hx (by omega) w3).use ?_)
  rw [w2]
  cases hb : ((nw A).2 p).2.1
  · -- an open path
    refine ⟨fun q => absurd rfl q, fun _ => ?_⟩
    have har : ar ((nw A).2 p).1 false k = (decide (0 < k) && decide (k + 1 < ((nw A).2 p).1)) := by unfold ar; rw [Bool.false_or]
    rw [hb] at h44 h188
    by_cases z0 : k = 0
    · have : ar ((nw A).2 p).1 false k = false := by rw [har, decide_eq_false (by omega)]; rfl
      rw [this, if_pos rfl]
      subst z0
      exact ⟨fun _ => ⟨rfl, h⟩, fun q => absurd rfl q⟩
    refine ⟨fun q => absurd q (nI_ne0 (by omega) (by omega)), fun _ => ?_⟩
    rw [n_lit1, n_sub (by omega)]
    by_cases z1 : k = ((nw A).2 p).1 - 1
    · have : ar ((nw A).2 p).1 false k = false := by rw [har, decide_eq_false (show ¬ k + 1 < ((nw A).2 p).1 by omega), Bool.and_false]
      rw [this, if_pos rfl, ← z1]
      exact ⟨fun q => absurd rfl q, fun _ => ⟨rfl, h⟩⟩
    have hart : ar ((nw A).2 p).1 false k = true := by rw [har, decide_eq_true (show 0 < k by omega), decide_eq_true (show k + 1 < ((nw A).2 p).1 by omega)]; rfl
    rw [hart, if_neg (by decide), if_neg (by decide)] at h44 h188
    refine ⟨fun _ => h44 _ _ _ ⟨fun _ => ⟨hK0.1, ?_⟩, fun q => absurd rfl q⟩, fun q => absurd ((nI_eq (by omega) (by omega)).mp q) z1⟩
    rw [hK0.2.1.2.2]
    refine ⟨hK0.2.1.1, (mr_in (j := 0) hK0 (by omega)).2, ?_⟩
    rw [ez, h.2.2.1]
    by_cases z6 : (nw A).1 = 6
    · rw [if_pos z6, z6]
      exact ⟨fun q => absurd rfl q, fun _ => ⟨rfl, h⟩⟩
    rw [if_neg z6] at h188
    refine ⟨fun _ => h72 _ _ _ (s8_begins h fun C1 hC1 ev e1 => ⟨fun _ => ⟨hC1.1.1.1, ?_⟩, fun q => absurd rfl q⟩), fun q => absurd ((nI_eq (b := 6) (by omega) (by omega)).mp q) z6⟩
    have hK := hC1.1.1
    have e0 := hK.2.1.2.2
    generalize hn : ((nw A).2 p).1 = n at *
    generalize hm : (nw A).1 = m at *
    generalize hv : C.1 (M + 1) = v at *
    have ew : C1 = mW C1 M v (C1.1 M 12) := by rw [← ev, mW_self]
    rw [ew]
    generalize C1.1 M 12 = t
    have hv0 : v 0 = nI m := by rw [← hv, ← hm]; exact h.2.2.1
    rw [mr_r, e0]
    refine ⟨hK.2.1.1, (mr_in (j := 0) hK (by omega)).2, hK.1, hK.2.1.1, (mr_in (j := 0) hK (by omega)).2, hK.2.1.1, (mr_in (j := 0) hK (by omega)).2, hK.1, ?_⟩
    rw [ez, mW_v, hv0, ax_wI_rI, mW_v2, mW_v, n_succ]
    refine (c8_path rfl).use ?_
    rw [mr_r, e0, n_succ]
    refine ⟨hK.2.1.1, (mr_in hK (by omega)).2, ?_⟩
    rw [n_clamp (by omega), ax_wI_rI, mW_v, mW_v2, n_sub (by omega)]
    generalize hv2 : va_up (va_up v 0 (nI (m + 1))) (1 + 98 * m + 1) 0 = v2
    have bk2 : ∀ q, q < 96 → bk v2 p q = bk v p q := fun q hq => by
      unfold bk
      rw [← hv2, n_up_n (by omega), n_up_n (by omega)]
    refine (c8_rows hK hx (by omega) rfl rfl (into := 0) rfl (by omega) (by omega)).use ?_
    generalize hR1 : (fun j => if 8 * 0 ≤ j ∧ j < 8 * 0 + 8 * (n - k) then bk v2 p (8 * k + (j - 8 * 0)) else C1.1 (M + 10) j) = R1
    have hK1 : mK S (ax_rI C1 (M + 10) R1) M := hK
    refine (c8_unrows hK1 rfl (by omega) rfl (by omega)).use ⟨hK.1, (c8_path hx).use ?_⟩
    rw [mr_r]
    show ax_sm (C1.2.2 M 0) _
    rw [e0, n_succ]
    refine ⟨hK.2.1.1, (mr_in hK (by omega)).2, h188 _ ⟨hK.1, ?_⟩⟩
    rw [n_clamp (by omega), ax_wI_rI, mW_v, mW_v2, mr_r]
    show ax_sm (C1.2.2 M 0) _
    rw [e0]
    refine ⟨hK.2.1.1, (mr_in (j := 0) hK (by omega)).2, ?_⟩
    rw [ez, mW_v]
    have rr : ∀ q, q < 8 * (n - k) → (ax_rI C1 (M + 10) R1).1 (M + 10) q = ((nw A).2 p).2.2 (8 * k + q) := fun q hq => by
      rw [ax_rI_t rfl, ← hR1]
      dsimp only
      rw [if_pos (by omega), show q - 8 * 0 = q by omega, bk2 _ (by omega)]
      exact hR _ (by omega)
    generalize (ax_rI C1 (M + 10) R1).1 (M + 10) = R2 at *
    have vn : ∀ j, j ≠ 1 + 98 * p → j ≠ 1 + 98 * m → (j < 3 + 98 * m ∨ 99 + 98 * m ≤ j) → va_up (va_up (lf v2 m (fun q => if q < 8 * (n - k) then R2 q else bk v2 m q)) (1 + 98 * m) (nI (n - k))) (1 + 98 * p) (nI (k + 1)) j = v2 j := fun j a1 a2 a3 => by
      rw [n_up_n a1, n_up_n a2, lf_n a3]
    have v20 : v2 0 = nI (m + 1) := by rw [← hv2, n_up_n (by omega), n_up_t rfl]
    rw [vn 0 (by omega) (by omega) (by omega), v20]
    have h2 := h.2
    rw [hv] at h2
    have hmc := mC_10 (f := R1) hC1
    refine s8_made (V := setP (addP (nw A) (n - k, false, fun q => ((nw A).2 p).2.2 (8 * k + q))) p (k + 1, false, ((nw A).2 p).2.2)) (mC_W hmc).1 (mC_W hmc).2 ?_ fun C2 hC => ⟨rfl, hC⟩
    rw [mW_v]
    refine ⟨by show (nw A).1 + 1 ≤ 6; omega, ?_, fun j hj => ?_⟩
    · rw [vn 0 (by omega) (by omega) (by omega), v20, ← hm]; rfl
    · have hj : j < (nw A).1 + 1 := hj
      have ej : (setP (addP (nw A) (n - k, false, fun q => ((nw A).2 p).2.2 (8 * k + q))) p (k + 1, false, ((nw A).2 p).2.2)).2 j = va_up (va_up (nw A).2 (nw A).1 (n - k, false, fun q => ((nw A).2 p).2.2 (8 * k + q))) p (k + 1, false, ((nw A).2 p).2.2) j := rfl
      rw [ej]
      by_cases y : j = p
      · subst y
        rw [n_up_t rfl]
        refine ⟨by show k + 1 ≤ 12; omega, n_up_t rfl, ?_, fun q hq => ?_⟩
        · rw [vn _ (by omega) (by omega) (by omega), ← hv2, n_up_n (by omega), n_up_n (by omega), w3, hb]
        · have hq : q < 8 * (k + 1) := hq
          rw [vn _ (by omega) (by omega) (by omega), ← hv2, n_up_n (by omega), n_up_n (by omega)]
          exact w4 q (by omega)
      · rw [n_up_n y]
        by_cases y2 : j = (nw A).1
        · rw [y2, n_up_t rfl, hm]
          refine ⟨by show n - k ≤ 12; omega, ?_, ?_, fun q hq => ?_⟩
          · rw [n_up_n (by omega), n_up_t rfl]
          · rw [vn _ (by omega) (by omega) (by omega), ← hv2, n_up_t (by omega)]; rfl
          · have hq : q < 8 * (n - k) := hq
            rw [n_up_n (by omega), n_up_n (by omega), lf_at (by omega), if_pos hq]
            exact rr q hq
        · rw [n_up_n y2]
          obtain ⟨d1, d2, d3, d4⟩ := h2.2.2 j (by omega)
          have hn' : ∀ i, 1 + 98 * j ≤ i → i < 99 + 98 * j → va_up (va_up (lf v2 m (fun q => if q < 8 * (n - k) then R2 q else bk v2 m q)) (1 + 98 * m) (nI (n - k))) (1 + 98 * p) (nI (k + 1)) i = v i := fun i i1 i2 => by
            rw [vn i (by omega) (by omega) (by omega), ← hv2, n_up_n (by omega), n_up_n (by omega)]
          exact ⟨d1, by rw [hn' _ (by omega) (by omega)]; exact d2, by rw [hn' _ (by omega) (by omega)]; exact d3, fun q hq => by rw [hn' _ (by omega) (by omega)]; exact d4 q hq⟩
  · -- a closed path
    refine ⟨fun _ => ?_, fun q => absurd q (by decide)⟩
    have har : ar ((nw A).2 p).1 true k = true := by unfold ar; rw [Bool.true_or]
    rw [hb, har, if_neg (by decide), if_pos rfl] at h44 h188
    refine h44 _ _ _ ⟨fun q => absurd q (by decide), fun _ => ?_⟩
    by_cases z : ((nw A).2 p).1 = 12
    · rw [if_pos z, z]
      exact ⟨fun q => absurd rfl q, fun _ => ⟨rfl, h⟩⟩
    rw [if_neg z] at h188
    refine ⟨fun _ => h72 _ _ _ (s8_begins h fun C1 hC1 ev e1 => ⟨fun q => absurd q (by decide), fun _ => ?_⟩), fun q => absurd ((nI_eq (b := 12) (by omega) (by omega)).mp q) z⟩
    have hK := hC1.1.1
    have e0 := hK.2.1.2.2
    generalize hn : ((nw A).2 p).1 = n at *
    generalize hv : C.1 (M + 1) = v at *
    have ew : C1 = mW C1 M v (C1.1 M 12) := by rw [← ev, mW_self]
    rw [ew]
    generalize C1.1 M 12 = t
    rw [n_sub (by omega), n_succ, n_succ]
    refine (c8_rows hK hx (by omega) rfl rfl (into := 0) rfl (by omega) (by omega)).use ?_
    generalize hR1 : (fun j => if 8 * 0 ≤ j ∧ j < 8 * 0 + 8 * (n - k) then bk v p (8 * k + (j - 8 * 0)) else C1.1 (M + 10) j) = R1
    have hK1 : mK S (ax_rI C1 (M + 10) R1) M := hK
    refine (c8_rows hK1 hx (by omega) (fr := 0) rfl rfl rfl (by omega) (by omega)).use ?_
    rw [ax_rI_rI, ax_rI_t rfl]
    generalize hR2 : (fun j => if 8 * (n - k) ≤ j ∧ j < 8 * (n - k) + 8 * (k + 1) then bk v p (8 * 0 + (j - 8 * (n - k))) else R1 j) = R2
    have hK2 : mK S (ax_rI C1 (M + 10) R2) M := hK
    refine (c8_unrows hK2 hx (by omega) rfl (by omega)).use ⟨hK.1, (c8_path hx).use ?_⟩
    rw [mr_r]
    show ax_sm (C1.2.2 M 0) _
    rw [e0, n_succ]
    refine ⟨hK.2.1.1, (mr_in hK (by omega)).2, h188 _ ⟨hK.1, ?_⟩⟩
    rw [n_clamp (by omega), ax_wI_rI, mW_v, mW_v2, mr_r]
    show ax_sm (C1.2.2 M 0) _
    rw [e0]
    refine ⟨hK.2.1.1, (mr_in (j := 0) hK (by omega)).2, ?_⟩
    rw [ez, mW_v, n_up_n (by omega), n_up_n (by omega), lf_n (by omega), ax_rI_t rfl]
    have hv0 : v 0 = nI (nw A).1 := by rw [← hv]; exact h.2.2.1
    rw [hv0]
    have hmc := mC_10 (f := R2) hC1
    refine s8_made (V := setP (nw A) p (n + 1, false, fun q => if q < 8 * n then ro ((nw A).2 p).2.2 n k q else ((nw A).2 p).2.2 (8 * k + (q - 8 * n)))) (mC_W hmc).1 (mC_W hmc).2 ?_ fun C2 hC => ⟨rfl, hC⟩
    rw [mW_v]
    have h2 := h.2
    rw [hv] at h2
    refine vR_set h2 hp (fun j hj => ?_) (by show n + 1 ≤ 12; omega) ?_ ?_ fun q hq => ?_
    · rw [n_up_n (by omega), n_up_n (by omega), lf_n (by omega)]
    · rw [n_up_n (by omega), n_up_t rfl]
    · rw [n_up_t (by omega)]; rfl
    · have hq : q < 8 * (n + 1) := hq
      rw [n_up_n (by omega), n_up_n (by omega), lf_at (by omega), if_pos hq, ← hR2]
      dsimp only
      by_cases y : q < 8 * (n - k)
      · rw [if_neg (by omega), ← hR1]
        dsimp only
        rw [if_pos (by omega), if_pos (by omega), hR _ (by omega)]
        unfold ro
        rw [if_pos (by omega)]
        exact congrArg _ (by omega)
      · rw [if_pos (by omega), hR _ (by omega)]
        by_cases y2 : q < 8 * n
        · rw [if_pos y2]
          unfold ro
          rw [if_neg (by omega)]
          exact congrArg _ (by omega)
        · rw [if_neg y2]
          exact congrArg _ (by omega)
end
