/-! ===== the reference's insert, whole ===== -/
theorem um_k {row : Nat → Int32} {k n f : Nat} (hf : f < 8) : unm row k n (8 * k + f) = row (8 * k + f) := by
  unfold unm
  rw [if_neg (by omega)]
theorem um_e {row : Nat → Int32} {k n e f : Nat} (hf : f < 8) (hk : k < n) (he : e = if eo n k = 0 then 0 else k + 2) : unm row k n (8 * e + f) = row (8 * eo n k + f) := by
  unfold eo at he ⊢
  unfold unm
  by_cases z : k + 1 < n
  · rw [if_pos z, if_neg (by omega)] at he
    subst he
    rw [if_pos z, if_pos (by omega)]
    exact congrArg _ (by omega)
  · rw [if_neg z, if_pos rfl] at he
    subst he
    rw [if_neg z, if_neg (by omega)]
theorem um_un {row g : Nat → Int32} {k n q : Nat} (h : ∀ q, q < 8 * n → row q = g q) (hk : k < n) (hq : q < 8 * (n + 1)) (hf : q < 8 * (k + 1) ∨ 8 * (k + 1) + 8 ≤ q) : unm row k n q = un g k n q := by
  unfold unm un
  by_cases z : q < 8 * (k + 1)
  · rw [if_neg (by omega), if_neg (by omega)]; exact h _ (by omega)
  · rw [if_pos (by omega), if_pos (by omega)]; exact h _ (by omega)
theorem xT_s {row : Nat → Int32} {k e ax : Nat} {a b t : Int32} (h : t = 0 ∨ t < 0) : xT row k e ax a b t = 0 ∨ xT row k e ax a b t < 0 := chk_s _ _ _ (chk_s _ _ _ (chk_s _ _ _ (chk_s _ _ _ (chk_s _ _ _ h))))
theorem xT_t {row : Nat → Int32} {k e ax : Nat} {a b t : Int32} (h : xT row k e ax a b t = 0) : t = 0 := by
  simp only [xT, chk_0] at h
  exact h.1.1.1.1.1
section
variable {l : Launch} {D : ax_D} {S : ax_S} {E C : ax_C} {M : Nat} {A : ab_A}
theorem s8_scale {v g : Nat → Int32} {t : Int32} {p k a b u w : Nat} {x y : Int32} {P : ax_C → Prop} (h : mK S C M) (hx : x = nI p) (hp : p < 6) (hy : y = nI k) (hk : k < 12) (ha : g (8 * k + 6) = nI a) (hb : g (8 * k + 7) = nI b) (h1 : a ≤ 999) (h2 : b ≤ 999) (hu : 0 < u) (hu2 : u ≤ 6) (hw : w ≤ 6) (hP : P (mW C M (lf v p (sr g k (a * u) (b * w) (decide (0 < a)))) t)) : ax_CI l D mt_X8_isSmooth [ax_r (some M), ax_i x, ax_i y] S (mW C M (lf v p g) t) (fun y18 C17 => (y18 = 0 → P C17) ∧ (¬ y18 = 0 → S.1 M = 9 ∧ (ax_CI l D mt_X8_node [ax_i x, ax_i y, ax_i (6 : Int32)] S C17 (fun y20 C19 => ax_sm (C17.2.2 M 0) (fun b21 => S.1 b21 = 11 ∧ vp_in y20 (S.2.1 b21) ∧ (S.1 M = 9 ∧ (ax_CI l D mt_X8_node [ax_i x, ax_i y, ax_i (7 : Int32)] S C19 (fun y23 C22 => ax_sm (C19.2.2 M 0) (fun b24 => S.1 b24 = 11 ∧ vp_in y23 (S.2.1 b24) ∧ (ax_CV l D mt_X8_sets [ax_r (some M), ax_i x, ax_i y, ax_i ((C19.1 b21 y20.toNatClampNeg) * nI u), ax_i ((C22.1 b24 y23.toNatClampNeg) * nI w)] S C22 P)))))))))) := by
  have e0 := h.2.1.2.2
  have m1 : a * u ≤ 999 * 6 := Nat.mul_le_mul h1 hu2
  have m2 : b * w ≤ 999 * 6 := Nat.mul_le_mul h2 hw
  refine (c8_isSmooth h hx hp hy hk ?_).use ?_
  · rw [ha]
    by_cases z : a = 0
    · subst z; exact Or.inl rfl
    · exact Or.inr (nI_lt (a := 0) (by omega) (by omega))
  rw [ha]
  by_cases z : a = 0
  · subst z
    refine ⟨fun _ => ?_, fun q => absurd (by decide) q⟩
    exact hP
  · rw [if_neg (nI_ne0 (by omega) (by omega))]
    refine ⟨fun q => absurd q (by decide), fun _ => ⟨h.1, (c8_node hx hy (w := 6) rfl).use ?_⟩⟩
    rw [mr_r, e0]
    refine ⟨h.2.1.1, (mr_in h (by omega)).2, h.1, (c8_node hx hy (w := 7) rfl).use ?_⟩
    refine ⟨h.2.1.1, (mr_in h (by omega)).2, ?_⟩
    rw [n_clamp (by omega), n_clamp (by omega), mW_v, lf_at (by omega), lf_at (by omega), ha, hb, n_mul, n_mul]
    refine (c8_sets h hx hp hy hk rfl rfl (Nat.mul_pos (by omega) hu) (by omega) (by omega)).use ?_
    rw [show decide (0 < a) = true by simp; omega] at hP
    exact hP
theorem m_insert {x1 x2 a b : Int32} (h : mdl S E C M A) (hok : okV (nw A)) : ax_CI l D mt_X8_insert [ax_r (some M), ax_i x1, ax_i x2, ax_i a, ax_i b] S C (pP S E M A (F_insert (nw A) x1 x2 a b)) := by
  refine vc_X8_insert (mdl_9 h) fun P166 P217 h166 h217 => s8_seg h.1.1 h.2 hok (fun p k hp hk hx hx2 hi hi2 => ⟨fun _ => ?_, fun q => absurd q (by decide)⟩) (fun hi => ⟨fun q => absurd rfl q, fun _ => ?_⟩) fun p hi hi2 => ⟨fun q => absurd rfl q, fun _ => ?_⟩
  · simp only [F_insert, onP, hi, hi2] at h217 ⊢
    refine c8_in.use ?_
    cases hb1 : bt b 2 6
    · rw [if_pos (Or.inl rfl)]
      exact ⟨fun _ => ⟨rfl, h⟩, fun q => absurd rfl q⟩
    refine ⟨fun q => absurd q (by decide), fun _ => c8_in.use ?_⟩
    cases hb2 : bt a 1 (b - 1)
    · rw [if_pos (Or.inr rfl)]
      exact ⟨fun q => absurd rfl q, fun _ => ⟨rfl, h⟩⟩
    rw [if_neg (by rw [hb1, hb2]; decide)] at h217
    rw [if_neg (by decide)]
    obtain ⟨b1, b2, b3⟩ := bt_n (lo := 2) (hi := 6) (by omega) (by omega) hb1
    have hb2' := hb2
    rw [b3, n_lit1, n_sub (by omega)] at hb2'
    obtain ⟨a1, a2, a3⟩ := bt_n (by omega) (by omega) hb2'
    have hV6 := h.2.1
    obtain ⟨h12, w2, w3, w4⟩ := h.2.2.2 p hp
    have hR := vR_g h.2 hp
    refine ⟨fun _ => (c8_many h.1.1 hx (by omega)).use ?_, fun q => absurd q (by decide)⟩
    rw [w2]
    by_cases z : ((nw A).2 p).1 = 12
    · rw [if_pos z, z]
      exact ⟨fun q => absurd rfl q, fun _ => ⟨rfl, h⟩⟩
    rw [if_neg z] at h217 ⊢
    refine ⟨fun _ => s8_begins h fun C1 hC1 ev e1 => ⟨hC1.1.1.1, ?_⟩, fun q => absurd ((nI_eq (b := 12) (by omega) (by omega)).mp q) z⟩
    have hK := hC1.1.1
    have e0 := hK.2.1.2.2
    have okp := hok.2 p hp
    generalize a.toInt.toNat = na at *
    generalize b.toInt.toNat = nb at *
    subst a3 b3
    have hkn : k < ((nw A).2 p).1 ∧ 2 ≤ ((nw A).2 p).1 := by
      have := okp.2.2.1
      unfold sg at hk
      by_cases w : ((nw A).2 p).2.1 = true
      · rw [if_pos w] at hk; exact ⟨hk, this w⟩
      · rw [if_neg w] at hk; omega
    have hsX : sgX ((nw A).2 p) k = if eo ((nw A).2 p).1 k = 0 then 0 else k + 2 := rfl
    have hok_c : ∀ i f, i < ((nw A).2 p).1 → f < 6 → -9331200 ≤ (bk (C.1 (M + 1)) p (8 * i + f)).toInt ∧ (bk (C.1 (M + 1)) p (8 * i + f)).toInt ≤ 9331200 := fun i f hi hf => by
      rw [hR _ (by omega)]; exact ok_c okp hi hf
    have hrat : ∀ i f, i < ((nw A).2 p).1 → (f = 6 ∨ f = 7) → bk (C.1 (M + 1)) p (8 * i + f) = nI (bk (C.1 (M + 1)) p (8 * i + f)).toInt.toNat ∧ (bk (C.1 (M + 1)) p (8 * i + f)).toInt.toNat ≤ 999 := fun i f hi hf => by
      rw [hR _ (by omega)]; exact ok_rat okp hi hf
    rw [mW_b (p := p) ev]
    have hbk := ev
    generalize hn : ((nw A).2 p).1 = n at *
    generalize hv : C.1 (M + 1) = v at *
    generalize hrow : bk v p = row at *
    generalize hE : sgX ((nw A).2 p) k = e at *
    have hek : e ≠ k ∧ e ≠ k + 1 ∧ e ≤ n ∧ eo n k < n := by
      unfold eo at hsX ⊢
      by_cases w : k + 1 < n
      · rw [if_pos w, if_neg (by omega)] at hsX
        rw [if_pos w]; omega
      · rw [if_neg w, if_pos rfl] at hsX
        rw [if_neg w]; omega
    obtain ⟨hek, hek1, hen, heo⟩ := hek
    refine (c8_controls hK hx (by omega) hx2 hkn.1 (by omega) w2).mono ?_
    rintro C10 ⟨cc, rfl, hcc⟩
    have hK9 : mK S (ax_rI C1 (M + 9) cc) M := hK
    have hC9 : mC S E (ax_rI C1 (M + 9) cc) M A := mC_fr hC1 (fun b b1 b2 b3 b4 b5 b6 => ax_rI_n b3) rfl fun k _ => by rw [ax_rI_n (by omega)]
    generalize hCc : ax_rI C1 (M + 9) cc = Cc at *
    have hc9 : Cc.1 (M + 9) = cc := by rw [← hCc]; exact ax_rI_t rfl
    rw [hx2, n_succ]
    refine (c8_makesRoom hK9 hx (by omega) rfl hkn.1 (by omega) w2).use ?_
    refine s8_many hK9 hx (by omega) (n := n + 1) (by rw [lf_n (by omega), n_up_t rfl]) ⟨nI_ne0 (by omega) (by omega), ?_⟩
    have hnx : (nI k + 2) - (nI k + 2) / nI (n + 1) * nI (n + 1) = nI e := by
      rw [n_lit2, n_add, pk_rem (by omega) (by omega) (by omega)]
      congr 1
      unfold eo at hsX
      by_cases w : k + 1 < n
      · rw [if_pos w, if_neg (by omega)] at hsX
        rw [Nat.mod_eq_of_lt (by omega)]; omega
      · rw [if_neg w, if_pos rfl] at hsX
        rw [show k + 2 = n + 1 by omega, Nat.mod_self]; omega
    rw [hnx]
    have uk : ∀ f, f < 8 → unm row k n (8 * k + f) = row (8 * k + f) := fun f hf => um_k hf
    have ue : ∀ f, f < 8 → unm row k n (8 * e + f) = row (8 * eo n k + f) := fun f hf => um_e hf hkn.1 hsX
    -- the control points
    have q0 : ∀ ax, ax < 2 → cc (4 * ax) = row (8 * k + ax) := fun ax hax => by
      have := hcc ax 0 hax (by omega)
      unfold ct at this
      rw [if_pos rfl] at this
      exact this
    have q1 : ∀ ax, ax < 2 → cc (4 * ax + 1) = row (8 * k + ax) + row (8 * k + (4 + ax)) := fun ax hax => by
      have := hcc ax 1 hax (by omega)
      unfold ct at this
      rw [if_neg (by omega), if_pos rfl] at this
      exact this
    have q2 : ∀ ax, ax < 2 → cc (4 * ax + 2) = row (8 * eo n k + ax) + row (8 * eo n k + (2 + ax)) := fun ax hax => by
      have := hcc ax 2 hax (by omega)
      unfold ct at this
      rw [if_neg (by omega), if_neg (by omega), if_pos rfl] at this
      exact this
    have q3 : ∀ ax, ax < 2 → cc (4 * ax + 3) = row (8 * eo n k + ax) := fun ax hax => by
      have := hcc ax 3 hax (by omega)
      unfold ct at this
      rw [if_neg (by omega), if_neg (by omega), if_neg (by omega)] at this
      exact this
    have sp : ∀ (ax : Nat) (G : Nat → Int32) (t : Int32) (P : ax_C → Prop), ax < 2 → (∀ j, (j = 8 * k + (0 + ax) ∨ j = 8 * k + (4 + ax) ∨ j = 8 * e + (0 + ax) ∨ j = 8 * e + (2 + ax)) → G j = unm row k n j) → (∀ v1 v2 v3 v4 v5, (xT G k e ax (nI na) (nI nb) t = 0 → x5 G k e ax v1 v2 v3 v4 v5 = xA G k e ax (nI na) (nI nb)) → P (mW Cc M (lf (va_up v (1 + 98 * p) (nI (n + 1))) p (x5 G k e ax v1 v2 v3 v4 v5)) (xT G k e ax (nI na) (nI nb) t))) → ax_CV l D mt_X8_splits [ax_r (some M), ax_i x1, ax_i (nI k), ax_i (nI e), ax_i (nI ax), ax_i (nI na), ax_i (nI nb)] S (mW Cc M (lf (va_up v (1 + 98 * p) (nI (n + 1))) p G) t) P := by
      intro ax G t P hax hG hP
      refine c8_splits hK9 hx (by omega) rfl (by omega) rfl (by omega) hek hek1 hax a1 (by omega) b2 hc9 ?_ ?_ ?_ ?_ hP
      · rw [q0 ax hax, hG _ (by omega), uk _ (by omega)]; congr 2; omega
      · unfold v_p1
        rw [q1 ax hax, hG _ (by omega), hG (8 * k + (4 + ax)) (by omega), uk _ (by omega), uk _ (by omega), b_add (hok_c k ax hkn.1 (by omega)) (hok_c k (4 + ax) hkn.1 (by omega))]
        congr 3; omega
      · unfold v_p2
        rw [q2 ax hax, hG _ (by omega), hG (8 * e + (2 + ax)) (by omega), ue _ (by omega), ue _ (by omega), b_add (hok_c _ ax heo (by omega)) (hok_c _ (2 + ax) heo (by omega))]
        congr 3; omega
      · rw [q3 ax hax, hG _ (by omega), ue _ (by omega)]; congr 2; omega
    refine sp 0 _ _ _ (by omega) (fun j _ => rfl) fun v1 v2 v3 v4 v5 t1 => ?_
    refine sp 1 _ _ _ (by omega) (fun j hj => x5_n (by omega) (by omega) (by omega) (by omega) (by omega)) fun u1 u2 u3 u4 u5 t2 => ?_
    have sx : ∀ t, xT (x5 (unm row k n) k e 0 v1 v2 v3 v4 v5) k e 1 (nI na) (nI nb) t = xT (unm row k n) k e 1 (nI na) (nI nb) t := by
      intro t
      have r : ∀ j, (j = 8 * k + (0 + 1) ∨ j = 8 * k + (4 + 1) ∨ j = 8 * e + (0 + 1) ∨ j = 8 * e + (2 + 1)) → (x5 (unm row k n) k e 0 v1 v2 v3 v4 v5) j = unm row k n j := fun j hj => x5_n (by omega) (by omega) (by omega) (by omega) (by omega)
      simp only [xT, v_s, v_r0, v_r1, v_p1, v_p2, r _ (Or.inl rfl), r _ (Or.inr (Or.inl rfl)), r _ (Or.inr (Or.inr (Or.inl rfl))), r _ (Or.inr (Or.inr (Or.inr rfl)))]
    rw [sx] at t2 ⊢
    have hba : nI nb - nI na = nI (nb - na) := n_sub (by omega)
    generalize hT : xT (unm row k n) k e 1 (nI na) (nI nb) (xT (unm row k n) k e 0 (nI na) (nI nb) 0) = T at *
    have hTs : T = 0 ∨ T < 0 := by rw [← hT]; exact xT_s (xT_s (Or.inl rfl))
    generalize hg2 : x5 (x5 (unm row k n) k e 0 v1 v2 v3 v4 v5) k e 1 u1 u2 u3 u4 u5 = g2 at *
    have g2v : T = 0 → g2 = xA (xA (unm row k n) k e 0 (nI na) (nI nb)) k e 1 (nI na) (nI nb) := fun z => by
      have t1' := t1 (by rw [← hT] at z; exact xT_t z)
      rw [t2 z, t1']
    have g2n : ∀ j, (j = 8 * k + 6 ∨ j = 8 * k + 7 ∨ j = 8 * e + 6 ∨ j = 8 * e + 7) → g2 j = unm row k n j := fun j hj => by
      rw [← hg2, x5_n (by omega) (by omega) (by omega) (by omega) (by omega), x5_n (by omega) (by omega) (by omega) (by omega) (by omega)]
    have k6 := hrat k 6 hkn.1 (Or.inl rfl)
    have k7 := hrat k 7 hkn.1 (Or.inr rfl)
    have o6 := hrat (eo n k) 6 heo (Or.inl rfl)
    have o7 := hrat (eo n k) 7 heo (Or.inr rfl)
    -- the numbers that the answer names
    have uf : ∀ i f, (i = k ∨ i = e) → f < 8 → unm row k n (8 * i + f) = un ((nw A).2 p).2.2 k n (8 * i + f) := fun i f hi hf => um_un hR hkn.1 (by omega) (by omega)
    rw [← uf k 6 (Or.inl rfl) (by omega), ← uf k 7 (Or.inl rfl) (by omega), ← uf e 6 (Or.inr rfl) (by omega), ← uf e 7 (Or.inr rfl) (by omega), uk 6 (by omega), uk 7 (by omega), ue 6 (by omega), ue 7 (by omega)] at h217
    rw [hba] at h166 ⊢
    have eT : cT (un ((nw A).2 p).2.2 k n) k e na nb 0 = T := by
      rw [← hT]
      exact (cT_c (fun f hf => uf k f (Or.inl rfl) hf) (fun f hf => uf e f (Or.inr rfl) hf)).symm
    rw [eT] at h217
    generalize (row (8 * k + 6)).toInt.toNat = p1 at *
    generalize (row (8 * k + 7)).toInt.toNat = p2 at *
    generalize (row (8 * eo n k + 6)).toInt.toNat = p3 at *
    generalize (row (8 * eo n k + 7)).toInt.toNat = p4 at *
    refine (c8_sets hK9 hx (by omega) rfl (by omega) rfl rfl (by omega) (by omega) (by omega)).use ?_
    refine s8_scale (a := p1) (b := p2) hK9 hx (by omega) rfl (by omega) ?_ ?_ k6.2 k7.2 (by omega) b2 (by omega) (h166 _ _ ?_)
    · rw [rw2_n (by omega) (by omega), g2n _ (by omega), uk _ (by omega)]; exact k6.1
    · rw [rw2_n (by omega) (by omega), g2n _ (by omega), uk _ (by omega)]; exact k7.1
    refine s8_scale (a := p3) (b := p4) hK9 hx (by omega) rfl (by omega) ?_ ?_ o6.2 o7.2 (by omega) (by omega) b2 (h217 _ ?_)
    · rw [sr_n (by omega) (by omega), rw2_n (by omega) (by omega), g2n _ (by omega), ue _ (by omega)]; exact o6.1
    · rw [sr_n (by omega) (by omega), rw2_n (by omega) (by omega), g2n _ (by omega), ue _ (by omega)]; exact o7.1
    refine s8_end2 (x := nI (k + 1)) (V := setP (nw A) p (n + 1, ((nw A).2 p).2.1, cG (un ((nw A).2 p).2.2 k n) k e na nb p1 p2 p3 p4)) hC9 (fun z => ?_) hTs (fun _ hm => ?_) fun C2 hC => ⟨rfl, hC⟩
    · rw [g2v z]
      have hcg : ∀ q, q < 8 * (n + 1) → cG (unm row k n) k e na nb p1 p2 p3 p4 q = cG (un ((nw A).2 p).2.2 k n) k e na nb p1 p2 p3 p4 q := fun q hq => by
        by_cases w : q < 8 * (k + 1) ∨ 8 * (k + 1) + 8 ≤ q
        · exact cG_c (fun f hf => uf k f (Or.inl rfl) hf) (fun f hf => uf e f (Or.inr rfl) hf) (um_un hR hkn.1 hq w)
        · exact cG_f (fun f hf => uf k f (Or.inl rfl) hf) (fun f hf => uf e f (Or.inr rfl) hf) hek1 (by omega) (by omega)
      refine vR_set h.2 hp (fun j hj => ?_) (by show n + 1 ≤ 12; omega) ?_ ?_ fun q hq => ?_
      · rw [lf_n (by omega), n_up_n (by omega), hv]
      · rw [lf_n (by omega), n_up_t rfl]
      · rw [lf_n (by omega), n_up_n (by omega)]; exact w3
      · have hq : q < 8 * (n + 1) := hq
        rw [lf_at (by omega)]
        exact hcg q hq
    · rw [hx2, n_succ]
      exact hm
  · simp only [F_insert, onP, hi]
    exact ⟨rfl, h⟩
  · simp only [F_insert, onP, hi, hi2]
    exact ⟨rfl, h⟩
end
