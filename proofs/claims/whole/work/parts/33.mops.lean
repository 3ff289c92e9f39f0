/-! ===== the reference's changes ===== -/
theorem mv_b {x d : Int32} (hx : -9331200 ≤ x.toInt ∧ x.toInt ≤ 9331200) (hd : bt d (-200) 200 = true) : (x + d * 46656).toInt64 = x.toInt64 + d.toInt64 * (46656 : Int64) := by
  have e1 : (-200 : Int32).toInt = -200 := rfl
  have e2 : (200 : Int32).toInt = 200 := rfl
  have e3 : (46656 : Int32).toInt = 46656 := rfl
  have e4 : (46656 : Int64).toInt = 46656 := rfl
  unfold bt at hd
  simp only [Bool.and_eq_true, Bool.not_eq_true', decide_eq_false_iff_not, Int32.not_lt, Int32.le_iff_toInt_le, e1, e2] at hd
  apply Int64.toInt_inj.mp
  rw [Int32.toInt_toInt64, Int64.toInt_add, Int64.toInt_mul, Int32.toInt_toInt64, Int32.toInt_toInt64, Int32.toInt_add, Int32.toInt_mul, e3, e4]
  rw [Int.bmod_eq_of_le (n := d.toInt * 46656) (m := 2 ^ 32) (by omega) (by omega), Int.bmod_eq_of_le (n := d.toInt * 46656) (m := 2 ^ 64) (by omega) (by omega), Int.bmod_eq_of_le (by omega) (by omega), Int.bmod_eq_of_le (by omega) (by omega)]
theorem ok_c {P : ab_P} (h : okP P) {k f : Nat} (hk : k < P.1) (hf : f < 6) : -9331200 ≤ (P.2.2 (8 * k + f)).toInt ∧ (P.2.2 (8 * k + f)).toInt ≤ 9331200 := h.2.2.2.1 k hk f hf
theorem ok_s {P : ab_P} (h : okP P) {k : Nat} (hk : k < P.1) : P.2.2 (8 * k + 6) = 0 ∨ 0 < P.2.2 (8 * k + 6) := by
  rcases h.2.2.2.2 k hk with w | ⟨a, b, w1, w2, w3, w4, w5, w6⟩
  · exact Or.inl w.1
  · refine Or.inr ?_
    rw [w5]
    exact nI_lt (a := 0) (by omega) (by omega)
section
variable {l : Launch} {D : ax_D} {S : ax_S} {E C : ax_C} {M : Nat} {A : ab_A}
abbrev pP (S : ax_S) (E : ax_C) (M : Nat) (A : ab_A) (R : ab_R) : Int32 → ax_C → Prop := fun r C' => r = R.1 ∧ mdl S E C' M (updA A R.2)
theorem mdl_9 (h : mdl S E C M A) : S.1 M = 9 := h.1.1.1
theorem mW_b {p : Nat} {v : Nat → Int32} {t : Int32} (h : C.1 (M + 1) = v) : ax_wI C M 12 t = mW C M (lf v p (bk v p)) t := by
  subst h
  rw [lf_bk]
  conv => lhs; rw [← mW_self C M]
  rw [mW_t2]
theorem mW_c {p : Nat} {v : Nat → Int32} (h : C.1 (M + 1) = v) : C = mW C M (lf v p (bk v p)) (C.1 M 12) := by
  subst h
  rw [lf_bk, mW_self]
theorem vR_lf {v G : Nat → Int32} {V : ab_V} {p : Nat} {Q : ab_P} (h : vR v V) (hp : p < V.1) (h1 : Q.1 = (V.2 p).1) (h2 : Q.2.1 = (V.2 p).2.1) (h3 : ∀ q, q < 8 * Q.1 → G q = Q.2.2 q) : vR (lf v p G) (setP V p Q) := by
  obtain ⟨w1, w2, w3, w4⟩ := h.2.2 p hp
  refine vR_set h hp (fun j hj => lf_n (by omega)) (by omega) ?_ ?_ fun q hq => ?_
  · rw [lf_n (by omega), h1]; exact w2
  · rw [lf_n (by omega), h2]; exact w3
  · rw [lf_at (by omega)]; exact h3 q hq
theorem vR_g {v : Nat → Int32} {V : ab_V} {p : Nat} (h : vR v V) (hp : p < V.1) : ∀ q, q < 8 * (V.2 p).1 → bk v p q = (V.2 p).2.2 q := (h.2.2 p hp).2.2.2
theorem s8_nd {P : Int32 → ax_C → Prop} {X : ax_C → Prop} {x1 x2 : Int32} {F : Nat → Nat → ab_R} (h : mdl S E C M A) (h1 : onN (nw A) x1 x2 F = (BI, none) → P BI C) (h2 : ∀ p k, p < (nw A).1 → k < ((nw A).2 p).1 → x1 = nI p → x2 = nI k → onN (nw A) x1 x2 F = F p k → X C) : ax_CI l D mt_X8_isNode [ax_r (some M), ax_i x1, ax_i x2] S C (fun y2 C1 => (¬ y2 = 0 → X C1) ∧ (y2 = 0 → P (-100000001) C1)) := by
  refine s8_node h.1.1 h.2 (fun p k hp hk hx hy hi hi2 => ⟨fun _ => h2 p k hp hk hx hy ?_, fun q => absurd q (by decide)⟩) (fun hi => ⟨fun q => absurd rfl q, fun _ => h1 ?_⟩) fun p hi hi2 => ⟨fun q => absurd rfl q, fun _ => h1 ?_⟩
  · simp only [onN, onP, hi, hi2]
  · simp only [onN, onP, hi]
  · simp only [onN, onP, hi, hi2]
theorem s8_pt {P : Int32 → ax_C → Prop} {X : ax_C → Prop} {x1 : Int32} {F : Nat → ab_R} (h : mdl S E C M A) (h1 : onP (nw A) x1 F = (BI, none) → P BI C) (h2 : ∀ p, p < (nw A).1 → x1 = nI p → onP (nw A) x1 F = F p → X C) : ax_CI l D mt_X8_isPath [ax_r (some M), ax_i x1] S C (fun y2 C1 => (¬ y2 = 0 → X C1) ∧ (y2 = 0 → P (-100000001) C1)) := by
  refine s8_path h.1.1 h.2 (fun p hp hx hi => ⟨fun _ => h2 p hp hx ?_, fun q => absurd q (by decide)⟩) fun hi => ⟨fun q => absurd rfl q, fun _ => h1 ?_⟩
  · simp only [onP, hi]
  · simp only [onP, hi]
/-- made, or failed in trouble, as the methods ask -/
theorem s8_end2 {x t : Int32} {v : Nat → Int32} {V : ab_V} {P : Int32 → ax_C → Prop} {X : Prop} (h : mC S E C M A) (hv : t = 0 → vR v V) (ht : t = 0 ∨ t < 0) (hX : t = 0 → ax_CI l D mt_X8_made [ax_r (some M), ax_i x] S (mW C M v t) P → X) (hp : ∀ C2, mdl S E C2 M (updA A (tr t x V).2) → P (tr t x V).1 C2) : S.1 M = 9 ∧ ((0 ≤ (mW C M v t).1 M 12 → X) ∧ (¬ 0 ≤ (mW C M v t).1 M 12 → S.1 M = 9 ∧ (ax_CI l D mt_X8_failed [ax_r (some M), ax_i ((mW C M v t).1 M 12)] S (mW C M v t) P))) := by
  have he := s8_end (l := l) (D := D) (x := x) h hv ht hp
  refine ⟨h.1.1.1, ?_⟩
  rw [mW_t]
  refine ⟨fun w => ?_, fun w => ⟨h.1.1.1, he.1 (Int32.not_le.mp w)⟩⟩
  have hn : ¬ t < 0 := Int32.not_lt.mpr w
  have h0 : t = 0 := by rcases ht with z | z; exact z; exact absurd z hn
  exact hX h0 (he.2 hn)
theorem m_setCorner {x1 x2 : Int32} (h : mdl S E C M A) (hok : okV (nw A)) : ax_CI l D mt_X8_setCorner [ax_r (some M), ax_i x1, ax_i x2] S C (pP S E M A (F_setCorner (nw A) x1 x2)) := by
  unfold F_setCorner
  refine vc_X8_setCorner (mdl_9 h) fun P30 h30 => s8_nd h (fun e => by rw [e]; exact ⟨rfl, h⟩) fun p k hp hk hx hx2 e => s8_begins h fun C1 hC1 ev e1 => ?_
  rw [e] at h30
  have hV6 := h.2.1
  have h12 := (h.2.2.2 p hp).1
  have hR := vR_g h.2 hp
  have hK := hC1.1.1
  have e0 := hK.2.1.2.2
  have hs := ok_s (hok.2 p hp) hk
  rw [← hR _ (by omega)] at hs
  rw [mW_c (p := p) ev]
  refine (c8_isSmooth hK hx (by omega) hx2 (by omega) hs).use ?_
  have key : P30 (if bk (C.1 (M + 1)) p (8 * k + 6) = 0 then 0 else 1) (mW C1 M (lf (C.1 (M + 1)) p (bk (C.1 (M + 1)) p)) (C1.1 M 12)) := by
    refine h30 _ _ ⟨hK.1, (c8_node hx hx2 (w := 6) rfl).use ?_⟩
    rw [mr_r, e0]
    refine ⟨hK.2.1.1, (mr_in hK (by omega)).2, hK.1, ?_⟩
    rw [n_clamp (by omega), ax_wI_rI, mW_v, mW_v2, lf_up (by omega)]
    refine (c8_node hx hx2 (w := 7) rfl).use ?_
    rw [mr_r, e0]
    refine ⟨hK.2.1.1, (mr_in hK (by omega)).2, ?_⟩
    rw [n_clamp (by omega), ax_wI_rI, mW_v, mW_v2, lf_up (by omega), hR _ (by omega)]
    refine s8_made (V := setP (nw A) p (((nw A).2 p).1, ((nw A).2 p).2.1, va_up (va_up ((nw A).2 p).2.2 (8 * k + 6) 0) (8 * k + 7) 0)) (mC_W hC1).1 (mC_W hC1).2 ?_ fun C2 hC => ⟨rfl, hC⟩
    rw [mW_v]
    exact vR_lf h.2 hp rfl rfl fun q hq => up_c (up_c (hR q hq))
  by_cases z : bk (C.1 (M + 1)) p (8 * k + 6) = 0
  · rw [if_pos z] at key ⊢
    exact ⟨fun _ => key, fun q => absurd rfl q⟩
  · rw [if_neg z] at key ⊢
    exact ⟨fun q => absurd q (by decide), fun _ => key⟩
theorem m_moveNode {x1 x2 dx dy : Int32} (h : mdl S E C M A) (hok : okV (nw A)) : ax_CI l D mt_X8_moveNode [ax_r (some M), ax_i x1, ax_i x2, ax_i dx, ax_i dy] S C (pP S E M A (F_moveNode (nw A) x1 x2 dx dy)) := by
  unfold F_moveNode
  refine vc_X8_moveNode (mdl_9 h) (s8_nd h (fun e => by rw [e]; exact ⟨rfl, h⟩) fun p k hp hk hx hx2 e => ?_)
  rw [e]
  refine c8_isUnits.use ?_
  cases hln : ln dx dy
  · rw [if_pos rfl]
    exact ⟨fun q => absurd rfl q, fun _ => ⟨rfl, h⟩⟩
  rw [if_neg (by decide)]
  refine ⟨fun _ => s8_begins h fun C1 hC1 ev e1 => ?_, fun q => absurd q (by decide)⟩
  have hV6 := h.2.1
  have h12 := (h.2.2.2 p hp).1
  have hR := vR_g h.2 hp
  have hK := hC1.1.1
  have e0 := hK.2.1.2.2
  unfold ln at hln
  rw [Bool.and_eq_true] at hln
  have hb0 := mv_b (ok_c (hok.2 p hp) hk (f := 0) (by omega)) hln.1
  have hb1 := mv_b (ok_c (hok.2 p hp) hk (f := 1) (by omega)) hln.2
  refine ⟨hK.1, ?_⟩
  rw [mW_b (p := p) ev]
  refine (c8_node hx hx2 (w := 0) rfl).use ⟨hK.1, (c8_node hx hx2 (w := 0) rfl).use ?_⟩
  rw [mr_r, e0]
  refine ⟨hK.2.1.1, (mr_in hK (by omega)).2, ?_⟩
  rw [n_clamp (by omega), mW_v, lf_at (by omega), hR _ (by omega), ← hb0]
  refine s8_put hK (by omega) (by omega) rfl (by decide) fun w0 hw0 => ?_
  refine (c8_node hx hx2 (w := 1) rfl).use ⟨hK.1, (c8_node hx hx2 (w := 1) rfl).use ?_⟩
  rw [mr_r, e0]
  refine ⟨hK.2.1.1, (mr_in hK (by omega)).2, ?_⟩
  rw [n_clamp (by omega), mW_v, lf_at (by omega), n_up_n (by omega), hR _ (by omega), ← hb1]
  refine s8_put hK (by omega) (by omega) rfl (by decide) fun w1 hw1 => ?_
  have hw : chk (chk 0 (((nw A).2 p).2.2 (8 * k + 0) + dx * 46656).toInt64 1) (((nw A).2 p).2.2 (8 * k + 1) + dy * 46656).toInt64 1 = 0 → w0 = qr (((nw A).2 p).2.2 (8 * k + 0) + dx * 46656).toInt64 1 := fun z => hw0 ((chk_0 _ _ _).mp z).1
  refine s8_end2 (x := w0) (V := setP (nw A) p (((nw A).2 p).1, ((nw A).2 p).2.1, mvG ((nw A).2 p).2.2 k (dx * 46656) (dy * 46656))) hC1 (fun z => ?_) (chk_s _ _ _ (chk_s _ _ _ (Or.inl rfl))) (fun z hm => ⟨hK.1, (c8_node hx hx2 (w := 0) rfl).use ?_⟩) fun C2 hC => ⟨?_, ?_⟩
  · refine vR_lf h.2 hp rfl rfl fun q hq => ?_
    rw [hw z, hw1 z]
    exact up_c (up_c (hR q hq))
  · rw [mr_r, e0]
    refine ⟨hK.2.1.1, (mr_in hK (by omega)).2, ?_⟩
    rw [n_clamp (by omega), mW_v, lf_at (by omega), n_up_n (by omega), n_up_t rfl]
    exact hm
  · exact congrArg Prod.fst (tr_x hw)
  · exact (tr_x (V := setP (nw A) p (((nw A).2 p).1, ((nw A).2 p).2.1, mvG ((nw A).2 p).2.2 k (dx * 46656) (dy * 46656))) hw) ▸ hC
theorem m_setHandle {x1 x2 x3 dx dy : Int32} {o : Bool} (h : mdl S E C M A) (hok : okV (nw A)) (ho : x3 = bI o) : ax_CI l D mt_X8_setHandle [ax_r (some M), ax_i x1, ax_i x2, ax_i x3, ax_i dx, ax_i dy] S C (pP S E M A (F_setHandle (nw A) x1 x2 o dx dy)) := by
  unfold F_setHandle
  refine vc_X8_setHandle (mdl_9 h) fun P45 P96 P125 h45 h96 h125 => s8_nd h (fun e => by rw [e]; exact ⟨rfl, h⟩) fun p k hp hk hx hx2 e => ?_
  rw [e] at h96 h125 ⊢
  refine c8_isUnits.use ?_
  cases hln : ln dx dy
  · rw [if_pos rfl]
    exact ⟨fun q => absurd rfl q, fun _ => ⟨rfl, h⟩⟩
  rw [hln, if_neg (by decide)] at h96 h125
  refine ⟨fun _ => s8_begins h fun C1 hC1 ev e1 => ?_, fun q => absurd q (by decide)⟩
  have hV6 := h.2.1
  have h12 := (h.2.2.2 p hp).1
  have hR := vR_g h.2 hp
  have hK := hC1.1.1
  have e0 := hK.2.1.2.2
  have hs := ok_s (hok.2 p hp) hk
  refine ⟨hK.1, ?_⟩
  rw [mW_b (p := p) ev]
  have hf : (if o = true then 4 else 2) ≤ 4 ∧ 2 ≤ (if o = true then 4 else 2) := by cases o <;> decide
  have b45 : P45 (nI (if o then 4 else 2)) (mW C1 M (lf (C.1 (M + 1)) p (bk (C.1 (M + 1)) p)) 0) := by
    refine h45 _ _ ((c8_node hx hx2 rfl).use ⟨hK.1, ?_⟩)
    rw [mr_r, e0, n_succ]
    refine ⟨hK.2.1.1, (mr_in hK (by omega)).2, hK.1, ?_⟩
    rw [n_clamp (by omega), ax_wI_rI, mW_v, mW_v2, lf_up (by omega), mr_r, e0]
    refine ⟨hK.2.1.1, (mr_in hK (by omega)).2, ?_⟩
    rw [n_clamp (by omega), ax_wI_rI, mW_v, mW_v2, show 3 + 98 * p + (8 * k + if o = true then 4 else 2) + 1 = 3 + 98 * p + (8 * k + ((if o = true then 4 else 2) + 1)) by omega, lf_up (by omega)]
    generalize hG : va_up (va_up (bk (C.1 (M + 1)) p) (8 * k + if o = true then 4 else 2) (dx * 46656)) (8 * k + ((if o = true then 4 else 2) + 1)) (dy * 46656) = G
    have hG2 : ∀ q, q < 8 * ((nw A).2 p).1 → G q = hdG ((nw A).2 p).2.2 k o (dx * 46656) (dy * 46656) q := fun q hq => by
      rw [← hG]
      exact up_c (up_c (hR q hq))
    have h6 : G (8 * k + 6) = ((nw A).2 p).2.2 (8 * k + 6) := by
      rw [← hG, n_up_n (by omega), n_up_n (by omega)]; exact hR _ (by omega)
    have h7 : G (8 * k + 7) = ((nw A).2 p).2.2 (8 * k + 7) := by
      rw [← hG, n_up_n (by omega), n_up_n (by omega)]; exact hR _ (by omega)
    refine (c8_isSmooth hK hx (by omega) hx2 (by omega) (by rw [h6]; exact hs)).use ?_
    rw [h6]
    by_cases z : ((nw A).2 p).2.2 (8 * k + 6) = 0
    · rw [if_pos z]
      rw [if_pos z] at h96 h125
      refine ⟨fun _ => h96 _ _ ?_, fun q => absurd rfl q⟩
      refine s8_end2 (x := 0) (t := 0) (V := setP (nw A) p (((nw A).2 p).1, ((nw A).2 p).2.1, hdG ((nw A).2 p).2.2 k o (dx * 46656) (dy * 46656))) hC1 (fun _ => vR_lf h.2 hp rfl rfl hG2) (Or.inl rfl) (fun _ hm => ⟨fun _ => h125 _ _ hm, fun q => absurd rfl q⟩) fun C2 hC => ⟨rfl, hC⟩
    · rw [if_neg z]
      rw [if_neg z] at h96 h125
      refine ⟨fun q => absurd q (by decide), fun _ => ?_⟩
      have hrat : ¬ G (8 * k + (if (!o) = true then 6 else 7)) = 0 := by
        rcases (hok.2 p hp).2.2.2.2 k hk with w | ⟨a, b, w1, w2, w3, w4, w5, w6⟩
        · exact absurd w.1 z
        · cases o
          · show ¬ G (8 * k + 6) = 0
            rw [h6]; exact z
          · show ¬ G (8 * k + 7) = 0
            rw [h7, w6]; exact nI_ne0 (by omega) (by omega)
      have hf8 : ∀ f, f < 8 → G (8 * k + f) = hdG ((nw A).2 p).2.2 k o (dx * 46656) (dy * 46656) (8 * k + f) := fun f hf => hG2 _ (by omega)
      refine c8_follows (o := !o) hK hx (by omega) hx2 (by omega) (by rw [ho, Bool.not_not]) hrat fun w0 w1 hw => ?_
      rw [ft_c hf8 (by omega), ft_c hf8 (by omega), fb_c hf8] at hw ⊢
      refine h96 _ _ ?_
      refine s8_end2 (x := 1) (V := setP (nw A) p (((nw A).2 p).1, ((nw A).2 p).2.1, fG (hdG ((nw A).2 p).2.2 k o (dx * 46656) (dy * 46656)) k (!o))) hC1 (fun z => vR_lf h.2 hp rfl rfl fun q hq => ?_) (chk_s _ _ _ (chk_s _ _ _ (Or.inl rfl))) (fun _ hm => ⟨fun q => absurd q (by decide), fun _ => h125 _ _ hm⟩) fun C2 hC => ⟨rfl, hC⟩
      rw [(hw z).1, (hw z).2]
      exact up_c (up_c (hG2 q hq))
  rw [ho]
  cases o
  · exact ⟨fun _ => b45, fun q => absurd rfl q⟩
  · exact ⟨fun q => absurd q (by decide), fun _ => b45⟩
theorem m_setSmooth {x1 x2 a b : Int32} (h : mdl S E C M A) (hok : okV (nw A)) : ax_CI l D mt_X8_setSmooth [ax_r (some M), ax_i x1, ax_i x2, ax_i a, ax_i b] S C (pP S E M A (F_setSmooth (nw A) x1 x2 a b)) := by
  unfold F_setSmooth
  refine vc_X8_setSmooth (mdl_9 h) fun P61 P100 P105 h61 h100 h105 => s8_nd h (fun e => by rw [e]; exact ⟨rfl, h⟩) fun p k hp hk hx hx2 e => ?_
  rw [e] at h105 ⊢
  refine c8_in.use ?_
  cases hb1 : bt a 1 999
  · rw [if_pos (Or.inl rfl)]
    exact ⟨fun _ => ⟨rfl, h⟩, fun q => absurd rfl q⟩
  refine ⟨fun q => absurd q (by decide), fun _ => c8_in.use ?_⟩
  cases hb2 : bt b 1 999
  · rw [if_pos (Or.inr rfl)]
    exact ⟨fun q => absurd rfl q, fun _ => ⟨rfl, h⟩⟩
  rw [if_neg (by rw [hb1, hb2]; decide)] at h105
  obtain ⟨a1, a2, a3⟩ := bt_n (lo := 1) (hi := 999) (by omega) (by omega) hb1
  obtain ⟨b1, b2, b3⟩ := bt_n (lo := 1) (hi := 999) (by omega) (by omega) hb2
  generalize a.toInt.toNat = na at *
  generalize b.toInt.toNat = nb at *
  refine ⟨fun _ => s8_begins h fun C1 hC1 ev e1 => ?_, fun q => absurd q (by decide)⟩
  have hV6 := h.2.1
  have h12 := (h.2.2.2 p hp).1
  have hR := vR_g h.2 hp
  have hK := hC1.1.1
  have e0 := hK.2.1.2.2
  have hs := ok_s (hok.2 p hp) hk
  refine ⟨hK.1, ?_⟩
  rw [mW_b (p := p) ev]
  refine (c8_isSmooth hK hx (by omega) hx2 (by omega) (by rw [hR _ (by omega)]; exact hs)).use ?_
  rw [hR _ (by omega)]
  have hG2 : ∀ q, q < 8 * ((nw A).2 p).1 → rw2 (bk (C.1 (M + 1)) p) k na nb q = rw2 ((nw A).2 p).2.2 k na nb q := fun q hq => rw2_c (hR q hq)
  have hf8 : ∀ f, f < 8 → rw2 (bk (C.1 (M + 1)) p) k na nb (8 * k + f) = rw2 ((nw A).2 p).2.2 k na nb (8 * k + f) := fun f hf => hG2 _ (by omega)
  have b105 : ∀ o : Bool, decide (((nw A).2 p).2.2 (8 * k + 4) = 0 ∧ ((nw A).2 p).2.2 (8 * k + 5) = 0) = o → P105 (if ((nw A).2 p).2.2 (8 * k + 6) = 0 then 0 else 1) (bI (!o)) (mW C1 M (lf (C.1 (M + 1)) p (rw2 (bk (C.1 (M + 1)) p) k na nb)) 0) := by
    intro o hO
    rw [hO] at h105
    have hrat : ¬ rw2 (bk (C.1 (M + 1)) p) k na nb (8 * k + (if o = true then 6 else 7)) = 0 := by
      have ga : 0 < na / Nat.gcd na nb := Nat.div_pos (Nat.gcd_le_left _ (by omega)) (Nat.gcd_pos_of_pos_left _ (by omega))
      have gb : 0 < nb / Nat.gcd na nb := Nat.div_pos (Nat.gcd_le_right _ (by omega)) (Nat.gcd_pos_of_pos_left _ (by omega))
      have la : na / Nat.gcd na nb ≤ na := Nat.div_le_self _ _
      have lb : nb / Nat.gcd na nb ≤ nb := Nat.div_le_self _ _
      have hrt : rt na nb = true := by simp only [rt, Bool.and_eq_true, decide_eq_true_eq]; omega
      cases o
      · show ¬ rw2 _ _ _ _ (8 * k + 7) = 0
        unfold rw2
        rw [n_up_t rfl, hrt]
        exact nI_ne0 gb (by omega)
      · show ¬ rw2 _ _ _ _ (8 * k + 6) = 0
        unfold rw2
        rw [n_up_n (by omega), n_up_t rfl, hrt]
        exact nI_ne0 ga (by omega)
    refine h105 _ _ _ (c8_follows (o := o) hK hx (by omega) hx2 (by omega) rfl hrat fun w0 w1 hw => ?_)
    rw [ft_c hf8 (by omega), ft_c hf8 (by omega), fb_c hf8] at hw ⊢
    refine s8_end2 (x := if ((nw A).2 p).2.2 (8 * k + 6) = 0 then 0 else 1) (V := setP (nw A) p (((nw A).2 p).1, ((nw A).2 p).2.1, fG (rw2 ((nw A).2 p).2.2 k na nb) k o)) hC1 (fun z => vR_lf h.2 hp rfl rfl fun q hq => ?_) (chk_s _ _ _ (chk_s _ _ _ (Or.inl rfl))) (fun _ hm => hm) fun C2 hC => ⟨rfl, hC⟩
    rw [(hw z).1, (hw z).2]
    exact up_c (up_c (hG2 q hq))
  have key : P61 (if ((nw A).2 p).2.2 (8 * k + 6) = 0 then 0 else 1) (mW C1 M (lf (C.1 (M + 1)) p (bk (C.1 (M + 1)) p)) 0) := by
    refine h61 _ _ ((c8_sets hK hx (by omega) hx2 (by omega) a3 b3 (by omega) (by omega) (by omega)).use ⟨hK.1, (c8_node hx hx2 (w := 4) rfl).use ?_⟩)
    rw [mr_r, e0]
    refine ⟨hK.2.1.1, (mr_in hK (by omega)).2, ?_⟩
    rw [n_clamp (by omega), mW_v, lf_at (by omega), rw2_n (by omega) (by omega), hR _ (by omega)]
    refine ⟨fun z => h100 _ _ (b105 false ?_), fun z => ⟨hK.1, (c8_node hx hx2 (w := 5) rfl).use ?_⟩⟩
    · exact decide_eq_false fun w => z w.1
    · refine ⟨hK.2.1.1, (mr_in hK (by omega)).2, ?_⟩
      rw [n_clamp (by omega), mW_v, lf_at (by omega), rw2_n (by omega) (by omega), hR _ (by omega)]
      exact ⟨fun z2 => b105 true (decide_eq_true ⟨z, z2⟩), fun z2 => h100 _ _ (b105 false (decide_eq_false fun w => z2 w.2))⟩
  by_cases z : ((nw A).2 p).2.2 (8 * k + 6) = 0
  · rw [if_pos z] at key ⊢
    exact ⟨fun _ => key, fun q => absurd rfl q⟩
  · rw [if_neg z] at key ⊢
    exact ⟨fun q => absurd q (by decide), fun _ => key⟩
end
