/-! ===== the class's changes: cuts, splits, joins, maps ===== -/
theorem rmP_set {V : ab_V} {p : Nat} {Q : ab_P} : rmP (setP V p Q) p = rmP V p := by
  unfold rmP setP
  congr 1
  funext j
  by_cases z : j < p
  · rw [if_pos z, if_pos z]; exact n_up_n (by omega)
  · rw [if_neg z, if_neg z]; exact n_up_n (by omega)
theorem rmP_set2 {V : ab_V} {p o : Nat} {Q Q2 : ab_P} (h : p ≠ o) : rmP (setP (setP V o Q2) p Q) o = rmP (setP V p Q) o := by
  unfold rmP setP
  congr 1
  funext j
  dsimp only
  have e : ∀ q, q ≠ o → va_up (va_up V.2 o Q2) p Q q = va_up V.2 p Q q := by
    intro q hq
    by_cases w : q = p
    · rw [n_up_t w, n_up_t w]
    · rw [n_up_n w, n_up_n w, n_up_n hq]
  by_cases z : j < o
  · rw [if_pos z, if_pos z]; exact e _ (by omega)
  · rw [if_neg z, if_neg z]; exact e _ (by omega)
theorem ok_rat {P : ab_P} (h : okP P) {k f : Nat} (hk : k < P.1) (hf : f = 6 ∨ f = 7) : P.2.2 (8 * k + f) = nI (P.2.2 (8 * k + f)).toInt.toNat ∧ (P.2.2 (8 * k + f)).toInt.toNat ≤ 999 := by
  have key : ∃ m, m ≤ 999 ∧ P.2.2 (8 * k + f) = nI m := by
    rcases h.2.2.2.2 k hk with w | ⟨a, b, w1, w2, w3, w4, w5, w6⟩
    · rcases hf with rfl | rfl
      · exact ⟨0, by omega, w.1⟩
      · exact ⟨0, by omega, w.2⟩
    · rcases hf with rfl | rfl
      · exact ⟨a, w2, w5⟩
      · exact ⟨b, w4, w6⟩
  obtain ⟨m, h1, h2⟩ := key
  rw [h2, n_nat (by omega)]
  exact ⟨rfl, h1⟩
theorem un_at {row : Nat → Int32} {k n e f : Nat} (he : e ≤ n) (hf : f < 8) : un row k n (8 * e + f) = row (8 * (if e ≤ k then e else e - 1) + f) := by
  unfold un
  by_cases z : e ≤ k
  · rw [if_pos z, if_neg (by omega)]
  · rw [if_neg z, if_pos (by omega)]
    exact congrArg _ (by omega)
theorem mn_l {R g : Nat → Int32} {k f : Nat} {a b c d : Int64} (h : ∀ f, f < 8 → R (8 * k + f) = g (8 * k + f)) (hf : f < 6) : mn R k a b c d f = mn g k a b c d f := by
  unfold mn
  rw [h _ (by omega), h (f + 1) (by omega), h (f - 1) (by omega)]
theorem mT_l {R g : Nat → Int32} {k : Nat} {a b c d q : Int64} {t : Int32} (h : ∀ f, f < 8 → R (8 * k + f) = g (8 * k + f)) : ∀ f, f ≤ 6 → mT R k a b c d q t f = mT g k a b c d q t f
  | 0, _ => rfl
  | f + 1, hf => by
    unfold mT
    rw [mT_l h f (by omega), mn_l h (by omega)]
section
variable {l : Launch} {D : ax_D} {S : ax_S} {E C : ax_C} {B pr : Nat} {τ : Nat → Nat} {A : ab_A}
theorem dS_z {d : Nat} {σ : Nat → Nat} {V : ab_V} {t : Int32} {C' : ax_C} (h : dS S E C B τ pr A d σ V t) (e1 : ∀ b, (b < d ∨ d + 14 ≤ b) → b ≠ B + 173 → C'.1 b = C.1 b) (e2 : ∀ b, (b < d ∨ d + 14 ≤ b) → C'.2.2 b = C.2.2 b) {σ' : Nat → Nat} (hp : ps S C' d σ') : zS S E C' B τ pr A := by
  obtain ⟨h1, rfl, h3, h4, h5, h6⟩ := h
  exact zS_fr h1 e1 e2 ⟨σ', hp⟩
theorem o_insert {x1 x2 a b : Int32} (h : cls S E C B A) (hok : okV (nw A)) : ax_CI l D mt_X7_insert [ax_r (some B), ax_i x1, ax_i x2, ax_i a, ax_i b] S C (oP S E B A (F_insert (nw A) x1 x2 a b)) := by
  refine vc_X7_insert (cls_8 h) (s_start h fun C1 τ pr d σ hd => s_path hd (fun p hp hx hi => ?_) fun hi => ?_)
  · obtain ⟨hP, hc, sk⟩ := dS_p hd hp
    have hdd := dS_d hd
    have hc12 := hc.1
    have hR := va_cp hc
    have okp := hok.2 p hp
    have hsg : sg ((nw A).2 p).1 ((nw A).2 p).2.1 ≤ 12 := by unfold sg; split <;> omega
    refine ⟨fun q => (by cases q), fun b' hb => ?_⟩
    refine (c_hasSegment hP hc.2.1 hc.2.2.1 okp.1 (by omega)).mono ?_
    rintro r C' ⟨rfl, ⟨rfl, k, hk, hx2⟩ | ⟨rfl, hx2⟩⟩
    · have hi2 : ix x2 (sg ((nw A).2 p).1 ((nw A).2 p).2.1) = some k := by rw [hx2]; exact ix_some hk (by omega)
      refine ⟨fun _ => c_isBetween.use ?_, fun q => absurd q (by decide)⟩
      simp only [F_insert, onP, hi, hi2]
      cases hb1 : bt b 2 6
      · rw [if_pos (Or.inl rfl)]
        exact ⟨fun _ => ⟨rfl, dS_cls hd⟩, fun q => absurd rfl q⟩
      refine ⟨fun q => absurd q (by decide), fun _ => c_isBetween.use ?_⟩
      cases hb2 : bt a 1 (b - 1)
      · rw [if_pos (Or.inr rfl)]
        exact ⟨fun q => absurd rfl q, fun _ => ⟨rfl, dS_cls hd⟩⟩
      obtain ⟨b1, b2, b3⟩ := bt_n (lo := 2) (hi := 6) (by omega) (by omega) hb1
      have hb2' := hb2
      rw [b3, n_lit1, n_sub (by omega)] at hb2'
      obtain ⟨a1, a2, a3⟩ := bt_n (by omega) (by omega) hb2'
      rw [if_neg (by decide)]
      refine ⟨fun _ => ⟨hP.1, ?_⟩, fun q => absurd q (by decide)⟩
      rw [hc.2.1]
      by_cases z : ((nw A).2 p).1 = 12
      · rw [if_pos z, z]
        exact ⟨fun q => absurd q (by decide), fun _ => ⟨rfl, dS_cls hd⟩⟩
      rw [if_neg z]
      refine ⟨fun _ => ⟨dS_8 hd, dS_8 hd, ?_⟩, fun q => n_absurd (by simp (disch := omega) only [n_lit0, n_lit1, n_lit2, n_lit3, n_lit4, n_lit5, n_lit6, n_lit7, n_lit8, n_lit9, n_lit10, n_lit11, n_lit12, n_lit13, n_lit14, n_lit15, n_lit16, n_lit17, n_lit18, n_lit19, n_lit20, n_lit21, n_lit22, n_lit23, n_lit24, n_lit30, n_lit31, n_lit32, n_lit45, n_lit48, n_lit49, n_lit57, n_lit59, n_lit60, n_lit67, n_lit76, n_lit77, n_lit90, n_lit96, n_lit97, n_lit98, n_lit99, n_lit100, n_lit119, n_lit120, n_lit127, n_lit128, n_lit196, n_lit200, n_lit208, n_lit294, n_lit340, n_lit341, n_lit392, n_lit490, n_lit491, n_lit500, n_lit588, n_lit589, n_lit999, n_lit1178, n_lit5301, n_lit5890, n_lit46656, n_add, n_mul, n_sub, n_lt_t, n_lt_f, n_le_t, n_le_f, n_eq_t, n_eq_f, n_clamp, n_in_t, ax_sm_s, true_and, and_true, not_true_eq_false, not_false_eq_true, true_imp, false_imp, imp_true, and_self, ax_wI_2, ax_rI_2, ax_wI_t, ax_wI_n, ax_rI_t, ax_rI_n, n_up_t, n_up_n, ne_eq, or_true, true_or, false_or, or_false, some_ex, n_none1, n_none2, ite_true, ite_false]) q⟩
      rw [dS_L hd, dS_c hd]
      have hkn : k < ((nw A).2 p).1 ∧ 2 ≤ ((nw A).2 p).1 := by
        have := okp.2.2.1
        unfold sg at hk
        by_cases w : ((nw A).2 p).2.1 = true
        · rw [if_pos w] at hk; exact ⟨hk, this w⟩
        · rw [if_neg w] at hk; omega
      have heX : sgX ((nw A).2 p) k ≤ ((nw A).2 p).1 := by
        unfold sgX eo
        by_cases w : k + 1 < ((nw A).2 p).1
        · rw [if_pos w, if_neg (by omega)]; omega
        · rw [if_neg w, if_pos rfl]; omega
      have hRu : ∀ q, q < 8 * (((nw A).2 p).1 + 1) → un (C'.1 (d + 2 + 2 * σ p + 1)) k ((nw A).2 p).1 q = un ((nw A).2 p).2.2 k ((nw A).2 p).1 q := fun q hq => un_c hR hkn.1 hq
      have rat : ∀ e f, e ≤ ((nw A).2 p).1 → (f = 6 ∨ f = 7) → un (C'.1 (d + 2 + 2 * σ p + 1)) k ((nw A).2 p).1 (8 * e + f) = nI (un ((nw A).2 p).2.2 k ((nw A).2 p).1 (8 * e + f)).toInt.toNat ∧ (un ((nw A).2 p).2.2 k ((nw A).2 p).1 (8 * e + f)).toInt.toNat ≤ 999 := by
        intro e f he hf
        rw [hRu _ (by omega), un_at he (by omega)]
        refine ok_rat okp ?_ hf
        have := hkn.1
        split <;> omega
      have r1 := rat k 6 (by omega) (Or.inl rfl)
      have r2 := rat k 7 (by omega) (Or.inr rfl)
      have r3 := rat (sgX ((nw A).2 p) k) 6 heX (Or.inl rfl)
      have r4 := rat (sgX ((nw A).2 p) k) 7 heX (Or.inr rfl)
      have cs := c_cutSegment (l := l) (D := D) (c := B + 174) hP (L := B + 173) (by omega) (by omega) hd.2.2.2.2.2 hd.1.1.2.2.2.2.2.2.2.2.2.1 hc.2.1 (by omega) hx2 hkn.1 hkn.2 a3 b3 a1 (by omega) b2 r1.1 r2.1 r3.1 r4.1 r1.2 r2.2 r3.2 r4.2
      refine cs.mono ?_
      rintro C13 ⟨F, g, h', rfl, hl, hv⟩
      have hn1 : k ≤ ((nw A).2 p).1 := by omega
      have e8 : ∀ e, e ≤ ((nw A).2 p).1 → ∀ f, f < 8 → un (C'.1 (d + 2 + 2 * σ p + 1)) k ((nw A).2 p).1 (8 * e + f) = un ((nw A).2 p).2.2 k ((nw A).2 p).1 (8 * e + f) := fun e he f hf => hRu _ (by omega)
      have eT := cT_c (na := a.toInt.toNat) (nb := b.toInt.toNat) (t := 0) (e8 k hn1) (e8 (sgX ((nw A).2 p) k) heX)
      unfold sgX at eT
      rw [eT] at hl hv
      have i1 : ∀ b', b' ≠ d + 2 + 2 * σ p → b' ≠ d + 2 + 2 * σ p + 1 → b' ≠ B + 173 → (qW (lW (pW C' (d + 2 + 2 * σ p) (un (C'.1 (d + 2 + 2 * σ p + 1)) k ((nw A).2 p).1) (nI (((nw A).2 p).1 + 1)) (C'.1 (d + 2 + 2 * σ p) 2)) (B + 174) F) (d + 2 + 2 * σ p) g (B + 173) h').1 b' = C'.1 b' := by
        intro b' y1 y2 y3
        rw [qW_n y2 y3]
        exact pW_n y1 y2
      rw [hx2, n_succ]
      refine s_end (Q := (((nw A).2 p).1 + 1, ((nw A).2 p).2.1, cG (un ((nw A).2 p).2.2 k ((nw A).2 p).1) k (sgX ((nw A).2 p) k) a.toInt.toNat b.toInt.toNat ((un ((nw A).2 p).2.2 k ((nw A).2 p).1) (8 * k + 6)).toInt.toNat ((un ((nw A).2 p).2.2 k ((nw A).2 p).1) (8 * k + 7)).toInt.toNat ((un ((nw A).2 p).2.2 k ((nw A).2 p).1) (8 * sgX ((nw A).2 p) k + 6)).toInt.toNat ((un ((nw A).2 p).2.2 k ((nw A).2 p).1) (8 * sgX ((nw A).2 p) k + 7)).toInt.toNat)) hd hp rfl i1 rfl hl (fun z => ⟨by show _ + 1 ≤ 12; omega, ?_, ?_, fun q hq => ?_⟩) fun C2 hC => ⟨rfl, hC⟩
      · rw [qW_n (by omega) (by omega)]; exact pW_s _ _ _ _ _
      · rw [qW_n (by omega) (by omega)]
        show (pW _ _ _ _ _).1 _ 2 = _
        rw [pW_c]; exact hc.2.2.1
      · have hq : q < 8 * (((nw A).2 p).1 + 1) := hq
        rw [qW_row (by omega), hv z]
        exact cG_c (e8 k hn1) (e8 (sgX ((nw A).2 p) k) heX) (hRu q hq)
    · have hi2 : ix x2 (sg ((nw A).2 p).1 ((nw A).2 p).2.1) = none := ix_none (by omega) hx2
      simp only [F_insert, onP, hi, hi2]
      exact ⟨fun q => absurd trivial q, fun _ => ⟨rfl, dS_cls hd⟩⟩
  · simp only [F_insert, onP, hi]
    exact ⟨fun _ => ⟨rfl, dS_cls hd⟩, fun b hb => by cases hb⟩
theorem o_removeNode {x1 x2 : Int32} (h : cls S E C B A) (hok : okV (nw A)) : ax_CI l D mt_X7_removeNode [ax_r (some B), ax_i x1, ax_i x2] S C (oP S E B A (F_removeNode (nw A) x1 x2)) := by
  unfold F_removeNode
  refine vc_X7_removeNode (cls_8 h) fun P54 P64 h54 h64 => s_nd h (fun C' hC e => by rw [e]; exact ⟨rfl, hC⟩) fun C1 τ pr d σ p k hd hp hk hx hx2 e => ?_
  obtain ⟨hP, hc, sk⟩ := dS_p hd hp
  have hdd := dS_d hd
  have hc12 := hc.1
  have hR := va_cp hc
  rw [e] at h64
  refine (c_dropNode hP hc.2.1 hc12 hx2 hk).use ⟨hP.1, ?_⟩
  rw [pW_s]
  by_cases z1 : ((nw A).2 p).1 = 1
  · rw [z1]
    refine ⟨fun q => absurd q (by decide), fun _ => ⟨Or.inl rfl, hP.1, ?_⟩⟩
    rw [pW_wI2]
    refine h54 _ _ _ ⟨fun q => absurd rfl q, fun _ => ?_⟩
    have hps : ps S (pW C1 (d + 2 + 2 * σ p) (dn (C1.1 (d + 2 + 2 * σ p + 1)) k 1) (nI (1 - 1)) 0) d σ := ps_e hd.2.2.2.1 rfl
    have hsh := sh_set (C' := pW C1 (d + 2 + 2 * σ p) (dn (C1.1 (d + 2 + 2 * σ p + 1)) k 1) (nI (1 - 1)) 0) (P := (0, false, fun _ => 0)) hd.2.2.2.1 hd.2.2.2.2.1 hp (fun b b1 b2 b3 b4 => pW_n b3 b4) ⟨by show 0 ≤ 12; omega, pW_s _ _ _ _ _, pW_c _ _ _ _ _, fun q hq => by have : q < 8 * 0 := hq; omega⟩
    refine (c_dropPath hps hsh hx hp).mono ?_
    rintro C11 ⟨e1, e3, e2, σ', hps', hsh'⟩
    refine h64 _ _ ?_
    rw [if_pos z1, z1]
    have hsh'' : sh C11 d σ' (rmP (nw A) p) := by
      have := rmP_set (V := nw A) (p := p) (Q := (0, false, fun _ => 0))
      unfold setP at this
      rw [this] at hsh'
      exact hsh'
    refine s_end2 (pr := pr) (V := rmP (nw A) p) ?_ hd.2.1 (lA_fr hd.2.2.2.2.2 ?_) ⟨σ', hps', hsh''⟩ fun C2 hC => ⟨rfl, hC⟩
    · exact dS_z hd (fun b b1 b2 => by rw [e1 b (by omega), pW_n (by omega) (by omega)]) (fun b b1 => by rw [e2 b (by omega)]; rfl) hps'
    · rw [e1 _ (by omega), pW_n (by omega) (by omega)]
  · have key : ∀ cl : Int32, cl = bI (((nw A).2 p).2.1 && decide (3 ≤ ((nw A).2 p).1)) → P54 (some d) (nI (((nw A).2 p).1 - 1)) (pW C1 (d + 2 + 2 * σ p) (dn (C1.1 (d + 2 + 2 * σ p + 1)) k ((nw A).2 p).1) (nI (((nw A).2 p).1 - 1)) cl) := by
      intro cl hcl
      refine h54 _ _ _ ⟨fun _ => h64 _ _ ?_, fun q => absurd q (nI_ne0 (by omega) (by omega))⟩
      rw [if_neg z1]
      refine s_end (t2 := 0) (Q := (((nw A).2 p).1 - 1, ((nw A).2 p).2.1 && decide (3 ≤ ((nw A).2 p).1), dn ((nw A).2 p).2.2 k ((nw A).2 p).1)) hd hp rfl (fun b b1 b2 b3 => pW_n b1 b2) rfl (lA_fr hd.2.2.2.2.2 (pW_n (by omega) (by omega))) (fun z => ⟨by show _ - 1 ≤ 12; omega, pW_s _ _ _ _ _, ?_, fun q hq => ?_⟩) fun C2 hC => ⟨rfl, hC⟩
      · rw [pW_c]; exact hcl
      · have hq : q < 8 * (((nw A).2 p).1 - 1) := hq
        rw [pW_row]
        exact dn_c hR hq
    refine ⟨fun q => key _ ?_, fun q => ⟨Or.inl rfl, hP.1, ?_⟩⟩
    · have : 3 ≤ ((nw A).2 p).1 := by
        rcases Nat.lt_or_ge (((nw A).2 p).1 - 1) 2 with w | w
        · exact absurd q (nI_ge (b := 2) w (by omega))
        · omega
      rw [hc.2.2.1, decide_eq_true this, Bool.and_true]
    · rw [pW_wI2]
      refine key 0 ?_
      have : ¬ 3 ≤ ((nw A).2 p).1 := by
        intro w
        exact q (nI_le (a := 2) (by omega) (by omega))
      rw [decide_eq_false this, Bool.and_false]
      rfl
theorem o_split {x1 x2 : Int32} (h : cls S E C B A) (hok : okV (nw A)) : ax_CI l D mt_X7_split [ax_r (some B), ax_i x1, ax_i x2] S C (oP S E B A (F_split (nw A) x1 x2)) := by
  unfold F_split
  refine vc_X7_split (cls_8 h) fun P93 h93 => s_nd h (fun C' hC e => by rw [e]; exact ⟨rfl, hC⟩) fun C1 τ pr d σ p k hd hp hk hx hx2 e => ?_
  obtain ⟨hP, hc, sk⟩ := dS_p hd hp
  have hdd := dS_d hd
  have hc12 := hc.1
  have hR := va_cp hc
  have hV6 := hd.2.2.2.2.1.1
  rw [e]
  rw [e] at h93
  refine (c_hasSegmentsAround hP hc.2.1 hc.2.2.1 (by omega) hx2 hk).use ?_
  cases har : ar ((nw A).2 p).1 ((nw A).2 p).2.1 k
  · rw [if_pos rfl]
    exact ⟨fun q => absurd rfl q, fun _ => ⟨rfl, dS_cls hd⟩⟩
  rw [if_neg (by decide)]
  rw [har, if_neg (by decide)] at h93
  refine ⟨fun _ => ⟨hP.1, ?_⟩, fun q => absurd q (by decide)⟩
  rw [hc.2.2.1]
  cases hb : ((nw A).2 p).2.1
  · rw [hb, if_neg (by decide)] at h93
    rw [if_neg (by decide)]
    refine ⟨fun _ => ?_, fun q => absurd rfl q⟩
    refine (c_newPath hd.2.2.2.1 hd.2.2.2.2.1).mono ?_
    rintro r C7 (⟨hV, rfl, rfl⟩ | ⟨hV, rfl, e2, e1, hs⟩)
    · rw [if_pos hV]
      exact ⟨fun b hb => (by cases hb), fun _ => ⟨rfl, dS_cls hd⟩⟩
    · rw [if_neg (by omega)] at h93 ⊢
      refine ⟨fun b' hb' => ?_, fun hb => by cases hb⟩
      have hps : ps S C7 d σ := ps_e hd.2.2.2.1 e2
      have sv := ps_1 (k := (nw A).1) hps (by omega)
      have sne := ps_3 hps (j := p) (k := (nw A).1) (by omega) (by omega) (by omega)
      have hcv : cP C7 (d + 2 + 2 * σ (nw A).1) (va_up (nw A).2 (nw A).1 ((0, false, fun _ => 0) : ab_P) (nw A).1) := hs.2.2 (nw A).1 (by show _ < _ + 1; omega)
      rw [n_up_t rfl] at hcv
      have hcp : cP C7 (d + 2 + 2 * σ p) (va_up (nw A).2 (nw A).1 ((0, false, fun _ => 0) : ab_P) p) := hs.2.2 p (by show _ < _ + 1; omega)
      rw [n_up_n (by omega)] at hcp
      refine (c_moveTail (ps_4 hps (by omega)) (ps_4 hps (by omega)) (by omega) (by omega) (by omega) hcp.2.1 hc12 hcv.2.1 hx2 hk).mono ?_
      rintro C14 ⟨g, rfl, hg⟩
      have hsA := sh_set (k := (nw A).1) (C' := pW C7 (d + 2 + 2 * σ (nw A).1) g (nI (((nw A).2 p).1 - k)) (C7.1 (d + 2 + 2 * σ (nw A).1) 2)) (P := (((nw A).2 p).1 - k, false, fun q => ((nw A).2 p).2.2 (8 * k + q))) hps hs (by show _ < _ + 1; omega) (fun b b1 b2 b3 b4 => pW_n b3 b4) ⟨by show _ - k ≤ 12; omega, pW_s _ _ _ _ _, by rw [pW_c]; exact hcv.2.2.1, fun q hq => by
        have hq : q < 8 * (((nw A).2 p).1 - k) := hq
        rw [pW_row, hg q hq]
        exact hcp.2.2.2 _ (by omega)⟩
      have eA : ((((nw A).1 + 1, va_up (nw A).2 (nw A).1 ((0, false, fun _ => 0) : ab_P)) : ab_V).1, va_up (((nw A).1 + 1, va_up (nw A).2 (nw A).1 ((0, false, fun _ => 0) : ab_P)) : ab_V).2 (nw A).1 (((nw A).2 p).1 - k, false, fun q => ((nw A).2 p).2.2 (8 * k + q))) = addP (nw A) (((nw A).2 p).1 - k, false, fun q => ((nw A).2 p).2.2 (8 * k + q)) := by
        unfold addP
        dsimp only
        rw [bx_uu]
      rw [eA] at hsA
      have hpsA : ps S (pW C7 (d + 2 + 2 * σ (nw A).1) g (nI (((nw A).2 p).1 - k)) (C7.1 (d + 2 + 2 * σ (nw A).1) 2)) d σ := ps_e hps rfl
      have hsB := sh_set (k := p) (C' := ax_wI (pW C7 (d + 2 + 2 * σ (nw A).1) g (nI (((nw A).2 p).1 - k)) (C7.1 (d + 2 + 2 * σ (nw A).1) 2)) (d + 2 + 2 * σ p) 1 (nI (k + 1))) (P := (k + 1, false, ((nw A).2 p).2.2)) hpsA hsA (by show _ < _ + 1; omega) (fun b b1 b2 b3 b4 => ax_wI_n b3) ⟨by show k + 1 ≤ 12; omega, by rw [ax_wI_t rfl]; exact n_up_t rfl, by rw [ax_wI_t rfl, n_up_n (by omega), pW_n (by omega) (by omega), hcp.2.2.1, hb], fun q hq => by
        have hq : q < 8 * (k + 1) := hq
        rw [ax_wI_n (by omega), pW_n (by omega) (by omega)]
        exact hcp.2.2.2 q (by omega)⟩
      refine h93 _ _ ⟨hps.1, ?_⟩
      rw [hsB.2.1]
      refine s_end2 (pr := pr) ?_ hd.2.1 (lA_fr hd.2.2.2.2.2 ?_) ⟨σ, ps_e hps rfl, hsB⟩ fun C2 hC => ⟨rfl, hC⟩
      · refine dS_z hd (fun b b1 b2 => ?_) (fun b b1 => ?_) (ps_e hps rfl)
        · rw [ax_wI_n (by omega), pW_n (by omega) (by omega), e1 b b1]
        · show C7.2.2 b = _
          rw [e2]
      · rw [ax_wI_n (by omega), pW_n (by omega) (by omega), e1 _ (by omega)]
  · rw [hb, if_pos rfl] at h93
    rw [if_pos rfl]
    refine ⟨fun q => absurd q (by decide), fun _ => ⟨hP.1, ?_⟩⟩
    rw [hc.2.1]
    by_cases z : ((nw A).2 p).1 = 12
    · rw [if_pos z, z]
      exact ⟨fun q => absurd q (by decide), fun _ => ⟨rfl, dS_cls hd⟩⟩
    rw [if_neg z] at h93 ⊢
    refine ⟨fun _ => ?_, fun q => n_absurd (by simp (disch := omega) only [n_lit0, n_lit1, n_lit2, n_lit3, n_lit4, n_lit5, n_lit6, n_lit7, n_lit8, n_lit9, n_lit10, n_lit11, n_lit12, n_lit13, n_lit14, n_lit15, n_lit16, n_lit17, n_lit18, n_lit19, n_lit20, n_lit21, n_lit22, n_lit23, n_lit24, n_lit30, n_lit31, n_lit32, n_lit45, n_lit48, n_lit49, n_lit57, n_lit59, n_lit60, n_lit67, n_lit76, n_lit77, n_lit90, n_lit96, n_lit97, n_lit98, n_lit99, n_lit100, n_lit119, n_lit120, n_lit127, n_lit128, n_lit196, n_lit200, n_lit208, n_lit294, n_lit340, n_lit341, n_lit392, n_lit490, n_lit491, n_lit500, n_lit588, n_lit589, n_lit999, n_lit1178, n_lit5301, n_lit5890, n_lit46656, n_add, n_mul, n_sub, n_lt_t, n_lt_f, n_le_t, n_le_f, n_eq_t, n_eq_f, n_clamp, n_in_t, ax_sm_s, true_and, and_true, not_true_eq_false, not_false_eq_true, true_imp, false_imp, imp_true, and_self, ax_wI_2, ax_rI_2, ax_wI_t, ax_wI_n, ax_rI_t, ax_rI_n, n_up_t, n_up_n, ne_eq, or_true, true_or, false_or, or_false, some_ex, n_none1, n_none2, ite_true, ite_false]) q⟩
    refine (c_openAt hP hc.2.1 (by omega) hx2 hk).mono ?_
    rintro C16 ⟨g, rfl, hg⟩
    refine h93 _ _ ⟨hd.2.2.2.1.1, ?_⟩
    rw [pW_n (by omega) (by omega), hd.2.2.2.2.1.2.1]
    refine s_end (t2 := 0) (Q := (((nw A).2 p).1 + 1, false, fun q => if q < 8 * ((nw A).2 p).1 then ro ((nw A).2 p).2.2 ((nw A).2 p).1 k q else ((nw A).2 p).2.2 (8 * k + (q - 8 * ((nw A).2 p).1)))) hd hp rfl (fun b b1 b2 b3 => pW_n b1 b2) rfl (lA_fr hd.2.2.2.2.2 (pW_n (by omega) (by omega))) (fun z => ⟨by show _ + 1 ≤ 12; omega, pW_s _ _ _ _ _, pW_c _ _ _ _ _, fun q hq => ?_⟩) fun C2 hC => ⟨rfl, hC⟩
    have hq : q < 8 * (((nw A).2 p).1 + 1) := hq
    rw [pW_row, hg q hq]
    dsimp only
    by_cases w : q < 8 * ((nw A).2 p).1
    · rw [if_pos w, if_pos w]; exact ro_c hR hk w
    · rw [if_neg w, if_neg w]; exact hR _ (by omega)
end
