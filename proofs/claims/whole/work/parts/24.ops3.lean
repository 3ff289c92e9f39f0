/-! ===== the class's changes of one path ===== -/
abbrev oP (S : ax_S) (E : ax_C) (B : Nat) (A : ab_A) (R : ab_R) : Int32 → ax_C → Prop := fun r C' => r = R.1 ∧ cls S E C' B (updA A R.2)
theorem bt_n {x : Int32} {lo hi : Nat} (hl : lo < 2 ^ 31) (hh : hi < 2 ^ 31) (h : bt x (nI lo) (nI hi) = true) : lo ≤ x.toInt.toNat ∧ x.toInt.toNat ≤ hi ∧ x = nI x.toInt.toNat := by
  unfold bt at h
  simp only [Bool.and_eq_true, Bool.not_eq_true', decide_eq_false_iff_not, Int32.not_lt, Int32.le_iff_toInt_le, n_toInt hl, n_toInt hh] at h
  refine ⟨by omega, by omega, ?_⟩
  apply Int32.toInt_inj.mp
  rw [n_toInt (by omega)]
  omega
theorem n_nat {n : Nat} (h : n < 2 ^ 31) : (nI n).toInt.toNat = n := by
  rw [n_toInt h]
  simp
theorem va_cp {C : ax_C} {i : Nat} {P : ab_P} (h : cP C i P) : ∀ q, q < 8 * P.1 → C.1 (i + 1) q = P.2.2 q := h.2.2.2
section
variable {l : Launch} {D : ax_D} {S : ax_S} {E C : ax_C} {B pr : Nat} {τ : Nat → Nat} {A : ab_A}
theorem s_nd {P : Int32 → ax_C → Prop} {X : Option Nat → Option Nat → ax_C → Prop} {x1 x2 : Int32} {F : Nat → Nat → ab_R} (h : cls S E C B A) (h1 : ∀ C', cls S E C' B A → onN (nw A) x1 x2 F = (BI, none) → P BI C') (h2 : ∀ C1 τ pr d σ p k, dS S E C1 B τ pr A d σ (nw A) 0 → p < (nw A).1 → k < ((nw A).2 p).1 → x1 = nI p → x2 = nI k → onN (nw A) x1 x2 F = F p k → X (some d) (some (d + 2 + 2 * σ p)) C1) : ax_CR l D mt_X7_startChange [ax_r (some B)] S C (fun y2 C1 => ax_CR l D mt_X4_pathAt [ax_r y2, ax_i x1] S C1 (fun y4 C3 => (y4 = none → P (-100000001) C3) ∧ (∀ b5, y4 = some b5 → ax_CI l D mt_X3_hasNode [ax_r y4, ax_i x2] S C3 (fun y7 C6 => (¬ y7 = 0 → X y2 y4 C6) ∧ (y7 = 0 → P (-100000001) C6))))) := by
  refine s_start h fun C1 τ pr d σ hd => s_path hd (fun p hp hx hi => ?_) fun hi => ?_
  · obtain ⟨hP, hc, sk⟩ := dS_p hd hp
    refine ⟨fun q => (by cases q), fun b hb => s_node hP hc (fun k hk hx2 hi2 => ⟨fun _ => ?_, fun q => absurd q (by decide)⟩) fun hi2 => ⟨fun q => absurd rfl q, fun _ => ?_⟩⟩
    · exact h2 C1 τ pr d σ p k hd hp hk hx hx2 (by simp only [onN, onP, hi, hi2])
    · exact h1 C1 (dS_cls hd) (by simp only [onN, onP, hi, hi2])
  · exact ⟨fun _ => h1 C1 (dS_cls hd) (by simp only [onN, onP, hi]), fun b hb => by cases hb⟩
theorem s_pt {P : Int32 → ax_C → Prop} {X : Option Nat → Option Nat → ax_C → Prop} {x1 : Int32} {F : Nat → ab_R} (h : cls S E C B A) (h1 : ∀ C', cls S E C' B A → onP (nw A) x1 F = (BI, none) → P BI C') (h2 : ∀ C1 τ pr d σ p, dS S E C1 B τ pr A d σ (nw A) 0 → p < (nw A).1 → x1 = nI p → onP (nw A) x1 F = F p → X (some d) (some (d + 2 + 2 * σ p)) C1) : ax_CR l D mt_X7_startChange [ax_r (some B)] S C (fun y2 C1 => ax_CR l D mt_X4_pathAt [ax_r y2, ax_i x1] S C1 (fun y4 C3 => (∀ b5, y4 = some b5 → X y2 y4 C3) ∧ (y4 = none → P (-100000001) C3))) := by
  refine s_start h fun C1 τ pr d σ hd => s_path hd (fun p hp hx hi => ?_) fun hi => ?_
  · exact ⟨fun b hb => h2 C1 τ pr d σ p hd hp hx (by simp only [onP, hi]), fun q => by cases q⟩
  · exact ⟨fun b hb => (by cases hb), fun _ => h1 C1 (dS_cls hd) (by simp only [onP, hi])⟩
theorem o_moveNode {x1 x2 dx dy : Int32} (h : cls S E C B A) : ax_CI l D mt_X7_moveNode [ax_r (some B), ax_i x1, ax_i x2, ax_i dx, ax_i dy] S C (oP S E B A (F_moveNode (nw A) x1 x2 dx dy)) := by
  unfold F_moveNode
  refine vc_X7_moveNode (cls_8 h) (s_nd h (fun C' hC e => by rw [e]; exact ⟨rfl, hC⟩) fun C1 τ pr d σ p k hd hp hk hx hx2 e => ?_)
  obtain ⟨hP, hc, sk⟩ := dS_p hd hp
  have hdd := dS_d hd
  have hc12 := hc.1
  have hR := va_cp hc
  rw [e]
  refine c_isLength.use ?_
  unfold ln
  cases bt dx (-200) 200
  · exact ⟨fun _ => ⟨rfl, dS_cls hd⟩, fun q => absurd rfl q⟩
  refine ⟨fun q => absurd q (by decide), fun _ => c_isLength.use ?_⟩
  cases bt dy (-200) 200
  · exact ⟨fun q => absurd rfl q, fun _ => ⟨rfl, dS_cls hd⟩⟩
  rw [if_neg (by decide)]
  refine ⟨fun _ => ⟨dS_8 hd, ?_⟩, fun q => absurd q (by decide)⟩
  rw [dS_L hd]
  refine (c_moveBy hP (by omega) hd.2.2.2.2.2 hx2 (by omega)).mono ?_
  rintro C12 ⟨v0, v1, h', rfl, hl, hv⟩
  have eT := mvT_c (dx := dx * 46656) (dy := dy * 46656) (t := 0) hR hk
  unfold mvT at eT
  rw [eT] at hl hv
  rw [hR _ (by omega), hR (8 * k + 1) (by omega)] at hv
  refine (c_get (C := qW C1 (d + 2 + 2 * σ p) _ (B + 173) h') hP hx2 (by omega) (f := 0) rfl (by omega)).use ?_
  rw [qW_row (by omega), n_up_n (by omega), n_up_t rfl]
  refine s_end (Q := (((nw A).2 p).1, ((nw A).2 p).2.1, mvG ((nw A).2 p).2.2 k (dx * 46656) (dy * 46656))) hd hp rfl (fun b b1 b2 b3 => qW_n b2 b3) rfl hl (fun z => ⟨hc12, ?_, ?_, fun q hq => ?_⟩) fun C2 hC => ⟨?_, ?_⟩
  · rw [qW_n (by omega) (by omega)]; exact hc.2.1
  · rw [qW_n (by omega) (by omega)]; exact hc.2.2.1
  · rw [qW_row (by omega), (hv z).1, (hv z).2]
    exact up_c (up_c (hR q hq))
  · exact congrArg Prod.fst (tr_x (fun z => (hv z).1))
  · exact (tr_x (V := setP (nw A) p (((nw A).2 p).1, ((nw A).2 p).2.1, mvG ((nw A).2 p).2.2 k (dx * 46656) (dy * 46656))) (fun z => (hv z).1)) ▸ hC
theorem o_setCorner {x1 x2 : Int32} (h : cls S E C B A) : ax_CI l D mt_X7_setCorner [ax_r (some B), ax_i x1, ax_i x2] S C (oP S E B A (F_setCorner (nw A) x1 x2)) := by
  unfold F_setCorner
  refine vc_X7_setCorner (cls_8 h) fun P47 h47 => s_nd h (fun C' hC e => by rw [e]; exact ⟨rfl, hC⟩) fun C1 τ pr d σ p k hd hp hk hx hx2 e => ?_
  obtain ⟨hP, hc, sk⟩ := dS_p hd hp
  have hdd := dS_d hd
  have hc12 := hc.1
  have hR := va_cp hc
  rw [e] at h47
  refine (c_isSmooth hP hx2 (by omega)).use ((c_makeCorner hP hx2 (by omega)).use ?_)
  rw [hR _ (by omega)]
  have key : P47 (if ((nw A).2 p).2.2 (8 * k + 6) = 0 then 0 else 1) (ax_rI C1 (d + 2 + 2 * σ p + 1) (va_up (va_up (C1.1 (d + 2 + 2 * σ p + 1)) (8 * k + 6) 0) (8 * k + 7) 0)) := by
    refine h47 _ _ (s_end (t2 := 0) (Q := (((nw A).2 p).1, ((nw A).2 p).2.1, va_up (va_up ((nw A).2 p).2.2 (8 * k + 6) 0) (8 * k + 7) 0)) hd hp rfl (fun b b1 b2 b3 => ax_rI_n b2) rfl (lA_fr hd.2.2.2.2.2 (ax_rI_n (by omega))) (fun z => ⟨hc12, ?_, ?_, fun q hq => ?_⟩) fun C2 hC => ⟨rfl, hC⟩)
    · rw [ax_rI_n (by omega)]; exact hc.2.1
    · rw [ax_rI_n (by omega)]; exact hc.2.2.1
    · rw [ax_rI_t rfl]
      exact up_c (up_c (hR q hq))
  by_cases z : ((nw A).2 p).2.2 (8 * k + 6) = 0
  · rw [if_pos z] at key ⊢
    exact ⟨fun _ => key, fun q => absurd rfl q⟩
  · rw [if_neg z] at key ⊢
    exact ⟨fun q => absurd q (by decide), fun _ => key⟩
theorem o_reverse {x1 : Int32} (h : cls S E C B A) (hok : okV (nw A)) : ax_CI l D mt_X7_reverse [ax_r (some B), ax_i x1] S C (oP S E B A (F_reverse (nw A) x1)) := by
  unfold F_reverse
  refine vc_X7_reverse (cls_8 h) (s_pt h (fun C' hC e => by rw [e]; exact ⟨rfl, hC⟩) fun C1 τ pr d σ p hd hp hx e => ?_)
  obtain ⟨hP, hc, sk⟩ := dS_p hd hp
  have hdd := dS_d hd
  have hc12 := hc.1
  have hR := va_cp hc
  have hn1 := (hok.2 p hp).1
  rw [e]
  refine (c_turnRound hP hc.2.1 hc12 hn1).mono ?_
  rintro C6 ⟨g, rfl, hg⟩
  refine ⟨hP.1, ?_⟩
  rw [pW_s]
  refine s_end (t2 := 0) (Q := (((nw A).2 p).1, ((nw A).2 p).2.1, fun q => ((nw A).2 p).2.2 (8 * (((nw A).2 p).1 - 1 - q / 8) + sf (q % 8)))) hd hp rfl (fun b b1 b2 b3 => pW_n b1 b2) rfl (lA_fr hd.2.2.2.2.2 (pW_n (by omega) (by omega))) (fun z => ⟨hc12, pW_s _ _ _ _ _, ?_, fun q hq => ?_⟩) fun C2 hC => ⟨rfl, hC⟩
  · rw [pW_c]; exact hc.2.2.1
  · have hq : q < 8 * ((nw A).2 p).1 := hq
    rw [pW_row, hg q hq]
    refine hR _ ?_
    have : sf (q % 8) < 8 := by unfold sf; (repeat' split) <;> omega
    omega
theorem o_setHandle {x1 x2 x3 dx dy : Int32} {o : Bool} (h : cls S E C B A) (hok : okV (nw A)) (ho : x3 = bI o) : ax_CI l D mt_X7_setHandle [ax_r (some B), ax_i x1, ax_i x2, ax_i x3, ax_i dx, ax_i dy] S C (oP S E B A (F_setHandle (nw A) x1 x2 o dx dy)) := by
  unfold F_setHandle
  refine vc_X7_setHandle (cls_8 h) fun P55 P110 P117 P128 h55 h110 h117 h128 => s_nd h (fun C' hC e => by rw [e]; exact ⟨rfl, hC⟩) fun C1 τ pr d σ p k hd hp hk hx hx2 e => ?_
  obtain ⟨hP, hc, sk⟩ := dS_p hd hp
  have hdd := dS_d hd
  have hc12 := hc.1
  have hR := va_cp hc
  rw [e]
  rw [e] at h128
  refine c_isLength.use ?_
  unfold ln at h128 ⊢
  cases hb1 : bt dx (-200) 200
  · exact ⟨fun _ => ⟨rfl, dS_cls hd⟩, fun q => absurd rfl q⟩
  refine ⟨fun q => absurd q (by decide), fun _ => c_isLength.use ?_⟩
  cases hb2 : bt dy (-200) 200
  · exact ⟨fun q => absurd rfl q, fun _ => ⟨rfl, dS_cls hd⟩⟩
  rw [hb1, hb2] at h128
  rw [if_neg (by decide)] at h128
  refine ⟨fun _ => ?_, fun q => absurd q (by decide)⟩
  generalize hC1 : ax_rI C1 (d + 2 + 2 * σ p + 1) (hdG (C1.1 (d + 2 + 2 * σ p + 1)) k o (dx * 46656) (dy * 46656)) = C2
  have r2 : C2.1 (d + 2 + 2 * σ p + 1) = hdG (C1.1 (d + 2 + 2 * σ p + 1)) k o (dx * 46656) (dy * 46656) := by rw [← hC1]; exact ax_rI_t rfl
  have n2 : ∀ b, b ≠ d + 2 + 2 * σ p + 1 → C2.1 b = C1.1 b := fun b hb => by rw [← hC1]; exact ax_rI_n hb
  have e22 : C2.2 = C1.2 := by rw [← hC1]; rfl
  have hP2 : pA S C2 (d + 2 + 2 * σ p) := pA_2 hP (by rw [e22])
  have h6 : C2.1 (d + 2 + 2 * σ p + 1) (8 * k + 6) = ((nw A).2 p).2.2 (8 * k + 6) := by
    rw [r2]
    unfold hdG
    cases o
    · rw [n_up_n (by simp), n_up_n (by simp)]; exact hR _ (by omega)
    · rw [n_up_n (by simp), n_up_n (by simp)]; exact hR _ (by omega)
  have h7 : C2.1 (d + 2 + 2 * σ p + 1) (8 * k + 7) = ((nw A).2 p).2.2 (8 * k + 7) := by
    rw [r2]
    unfold hdG
    cases o
    · rw [n_up_n (by simp), n_up_n (by simp)]; exact hR _ (by omega)
    · rw [n_up_n (by simp), n_up_n (by simp)]; exact hR _ (by omega)
  have hl2 : lA S C2 (B + 173) 0 := lA_fr hd.2.2.2.2.2 (n2 _ (by omega))
  have hR2 : ∀ q, q < 8 * ((nw A).2 p).1 → C2.1 (d + 2 + 2 * σ p + 1) q = hdG ((nw A).2 p).2.2 k o (dx * 46656) (dy * 46656) q := fun q hq => by
    rw [r2]
    exact hdG_c (hR q hq)
  have body : P55 (some (d + 2 + 2 * σ p)) (nI (if o then 4 else 2)) C1 := by
    refine h55 _ _ _ ((c_put hP hx2 (by omega) rfl (by split <;> omega)).use ?_)
    rw [n_succ]
    refine (c_put (C := ax_rI C1 _ _) hP hx2 (by omega) rfl (by split <;> omega)).use ?_
    rw [ax_rI_rI, ax_rI_t rfl]
    show ax_CI l D mt_X3_isSmooth _ S (ax_rI C1 _ (hdG (C1.1 (d + 2 + 2 * σ p + 1)) k o (dx * 46656) (dy * 46656))) _
    rw [hC1]
    refine (c_isSmooth hP2 hx2 (by omega)).use ?_
    rw [h6]
    by_cases z : ((nw A).2 p).2.2 (8 * k + 6) = 0
    · rw [if_pos z]
      refine ⟨fun _ => h117 _ _ ⟨fun _ => h128 _ _ ?_, fun q => absurd rfl q⟩, fun q => absurd rfl q⟩
      rw [if_pos z]
      refine s_end (t2 := 0) (Q := (((nw A).2 p).1, ((nw A).2 p).2.1, hdG ((nw A).2 p).2.2 k o (dx * 46656) (dy * 46656))) hd hp rfl (fun b b1 b2 b3 => n2 b b2) (by rw [e22]) hl2 (fun z => ⟨hc12, ?_, ?_, hR2⟩) fun C2 hC => ⟨rfl, hC⟩
      · rw [n2 _ (by omega)]; exact hc.2.1
      · rw [n2 _ (by omega)]; exact hc.2.2.1
    · rw [if_neg z]
      rw [if_neg z] at h128
      refine ⟨fun q => absurd q (by decide), fun _ => ?_⟩
      have hrat : ¬ C2.1 (d + 2 + 2 * σ p + 1) (8 * k + (if (!o) = true then 6 else 7)) = 0 := by
        rcases (hok.2 p hp).2.2.2.2 k hk with w | ⟨a, b, w1, w2, w3, w4, w5, w6⟩
        · exact absurd w.1 z
        · cases o
          · show ¬ C2.1 _ (8 * k + 6) = 0
            rw [h6]; exact z
          · show ¬ C2.1 _ (8 * k + 7) = 0
            rw [h7, w6]; exact nI_ne0 (by omega) (by omega)
      have b110 : P110 1 (some (d + 2 + 2 * σ p)) (bI (!o)) C2 := by
        refine h110 _ _ _ _ ⟨dS_8 hd, ?_⟩
        rw [show C2.2.2 B 3 = some (B + 173) by rw [e22]; exact dS_L hd]
        refine (c_fitHandle hP2 (by omega) hl2 hx2 (by omega) rfl hrat).mono ?_
        rintro C16 ⟨v0, v1, h', rfl, hl, hv⟩
        have hf8 : ∀ f, f < 8 → C2.1 (d + 2 + 2 * σ p + 1) (8 * k + f) = hdG ((nw A).2 p).2.2 k o (dx * 46656) (dy * 46656) (8 * k + f) := fun f hf => hR2 _ (by omega)
        rw [ft_c hf8 (by omega), ft_c hf8 (by omega), fb_c hf8] at hl hv
        refine h117 _ _ ⟨fun q => absurd q (by decide), fun _ => h128 _ _ ?_⟩
        refine s_end (Q := (((nw A).2 p).1, ((nw A).2 p).2.1, fG (hdG ((nw A).2 p).2.2 k o (dx * 46656) (dy * 46656)) k (!o))) hd hp rfl (fun b b1 b2 b3 => by rw [qW_n b2 b3, n2 b b2]) (by show C2.2.2 = _; rw [e22]) hl (fun z => ⟨hc12, ?_, ?_, fun q hq => ?_⟩) fun C2 hC => ⟨rfl, hC⟩
        · rw [qW_n (by omega) (by omega), n2 _ (by omega)]; exact hc.2.1
        · rw [qW_n (by omega) (by omega), n2 _ (by omega)]; exact hc.2.2.1
        · rw [qW_row (by omega), (hv z).1, (hv z).2]
          exact up_c (up_c (hR2 q hq))
      rw [ho]
      cases o
      · exact ⟨fun q => absurd rfl q, fun _ => b110⟩
      · exact ⟨fun _ => b110, fun q => absurd q (by decide)⟩
  rw [ho]
  cases o
  · exact ⟨fun _ => body, fun q => absurd rfl q⟩
  · exact ⟨fun q => absurd q (by decide), fun _ => body⟩
theorem o_setSmooth {x1 x2 a b : Int32} (h : cls S E C B A) (hok : okV (nw A)) : ax_CI l D mt_X7_setSmooth [ax_r (some B), ax_i x1, ax_i x2, ax_i a, ax_i b] S C (oP S E B A (F_setSmooth (nw A) x1 x2 a b)) := by
  unfold F_setSmooth
  refine vc_X7_setSmooth (cls_8 h) fun P98 h98 => s_nd h (fun C' hC e => by rw [e]; exact ⟨rfl, hC⟩) fun C1 τ pr d σ p k hd hp hk hx hx2 e => ?_
  obtain ⟨hP, hc, sk⟩ := dS_p hd hp
  have hdd := dS_d hd
  have hc12 := hc.1
  have hR := va_cp hc
  rw [e]
  rw [e] at h98
  refine c_isBetween.use ?_
  cases hb1 : bt a 1 999
  · rw [if_pos (Or.inl rfl)]
    exact ⟨fun _ => ⟨rfl, dS_cls hd⟩, fun q => absurd rfl q⟩
  refine ⟨fun q => absurd q (by decide), fun _ => c_isBetween.use ?_⟩
  cases hb2 : bt b 1 999
  · rw [if_pos (Or.inr rfl)]
    exact ⟨fun q => absurd rfl q, fun _ => ⟨rfl, dS_cls hd⟩⟩
  rw [if_neg (by rw [hb1, hb2]; decide)] at h98
  refine ⟨fun _ => ?_, fun q => absurd q (by decide)⟩
  obtain ⟨a1, a2, a3⟩ := bt_n (lo := 1) (hi := 999) (by omega) (by omega) hb1
  obtain ⟨b1, b2, b3⟩ := bt_n (lo := 1) (hi := 999) (by omega) (by omega) hb2
  generalize a.toInt.toNat = na at *
  generalize b.toInt.toNat = nb at *
  refine (c_isSmooth hP hx2 (by omega)).use ((c_putRatio hP hx2 (by omega) a3 b3 (by omega) (by omega) (by omega)).use ?_)
  rw [hR (8 * k + 6) (by omega)]
  generalize hC1 : ax_rI C1 (d + 2 + 2 * σ p + 1) (rw2 (C1.1 (d + 2 + 2 * σ p + 1)) k na nb) = C2
  have r2 : C2.1 (d + 2 + 2 * σ p + 1) = rw2 (C1.1 (d + 2 + 2 * σ p + 1)) k na nb := by rw [← hC1]; exact ax_rI_t rfl
  have n2 : ∀ b, b ≠ d + 2 + 2 * σ p + 1 → C2.1 b = C1.1 b := fun b hb => by rw [← hC1]; exact ax_rI_n hb
  have e22 : C2.2 = C1.2 := by rw [← hC1]; rfl
  have hP2 : pA S C2 (d + 2 + 2 * σ p) := pA_2 hP (by rw [e22])
  have hR2 : ∀ q, q < 8 * ((nw A).2 p).1 → C2.1 (d + 2 + 2 * σ p + 1) q = rw2 ((nw A).2 p).2.2 k na nb q := fun q hq => by
    rw [r2]
    exact rw2_c (hR q hq)
  have hl2 : lA S C2 (B + 173) 0 := lA_fr hd.2.2.2.2.2 (n2 _ (by omega))
  refine (c_isZero hP2 hx2 (by omega) (f := 4) rfl (by omega)).use ⟨dS_8 hd, ?_⟩
  rw [show C2.2.2 B 3 = some (B + 173) by rw [e22]; exact dS_L hd, hR2 _ (by omega), hR2 (8 * k + 4 + 1) (by omega), rw2_n (by omega) (by omega), rw2_n (by omega) (by omega)]
  have ez : (if ((nw A).2 p).2.2 (8 * k + 4) = 0 ∧ ((nw A).2 p).2.2 (8 * k + 4 + 1) = 0 then (1 : Int32) else 0) = bI (decide (((nw A).2 p).2.2 (8 * k + 4) = 0 ∧ ((nw A).2 p).2.2 (8 * k + 5) = 0)) := by
    by_cases z : ((nw A).2 p).2.2 (8 * k + 4) = 0 ∧ ((nw A).2 p).2.2 (8 * k + 5) = 0
    · rw [if_pos z, decide_eq_true z]; rfl
    · rw [if_neg z, decide_eq_false z]; rfl
  rw [ez]
  generalize hO : decide (((nw A).2 p).2.2 (8 * k + 4) = 0 ∧ ((nw A).2 p).2.2 (8 * k + 5) = 0) = o at *
  have hrat : ¬ C2.1 (d + 2 + 2 * σ p + 1) (8 * k + (if o = true then 6 else 7)) = 0 := by
    have ga : 0 < na / Nat.gcd na nb := Nat.div_pos (Nat.gcd_le_left _ (by omega)) (Nat.gcd_pos_of_pos_left _ (by omega))
    have gb : 0 < nb / Nat.gcd na nb := Nat.div_pos (Nat.gcd_le_right _ (by omega)) (Nat.gcd_pos_of_pos_left _ (by omega))
    have la : na / Nat.gcd na nb ≤ na := Nat.div_le_self _ _
    have lb : nb / Nat.gcd na nb ≤ nb := Nat.div_le_self _ _
    have hrt : rt na nb = true := by simp only [rt, Bool.and_eq_true, decide_eq_true_eq]; omega
    cases o
    · show ¬ C2.1 _ (8 * k + 7) = 0
      rw [hR2 _ (by omega)]
      unfold rw2
      rw [n_up_t rfl, hrt]
      exact nI_ne0 gb (by omega)
    · show ¬ C2.1 _ (8 * k + 6) = 0
      rw [hR2 _ (by omega)]
      unfold rw2
      rw [n_up_n (by omega), n_up_t rfl, hrt]
      exact nI_ne0 ga (by omega)
  refine (c_fitHandle hP2 (by omega) hl2 hx2 (by omega) rfl hrat).mono ?_
  rintro C17 ⟨v0, v1, h', rfl, hl, hv⟩
  have hf8 : ∀ f, f < 8 → C2.1 (d + 2 + 2 * σ p + 1) (8 * k + f) = rw2 ((nw A).2 p).2.2 k na nb (8 * k + f) := fun f hf => hR2 _ (by omega)
  rw [ft_c hf8 (by omega), ft_c hf8 (by omega), fb_c hf8] at hl hv
  have key : P98 (if ((nw A).2 p).2.2 (8 * k + 6) = 0 then 0 else 1) (qW C2 (d + 2 + 2 * σ p) (va_up (va_up (C2.1 (d + 2 + 2 * σ p + 1)) (8 * k + ((if o = true then 4 else 2) + 0)) v0) (8 * k + ((if o = true then 4 else 2) + 1)) v1) (B + 173) h') := by
    refine h98 _ _ (s_end (Q := (((nw A).2 p).1, ((nw A).2 p).2.1, fG (rw2 ((nw A).2 p).2.2 k na nb) k o)) hd hp rfl (fun b b1 b2 b3 => by rw [qW_n b2 b3, n2 b b2]) (by show C2.2.2 = _; rw [e22]) hl (fun z => ⟨hc12, ?_, ?_, fun q hq => ?_⟩) fun C2 hC => ⟨rfl, hC⟩)
    · rw [qW_n (by omega) (by omega), n2 _ (by omega)]; exact hc.2.1
    · rw [qW_n (by omega) (by omega), n2 _ (by omega)]; exact hc.2.2.1
    · rw [qW_row (by omega), (hv z).1, (hv z).2]
      exact up_c (up_c (hR2 q hq))
  by_cases z : ((nw A).2 p).2.2 (8 * k + 6) = 0
  · rw [if_pos z] at key ⊢
    exact ⟨fun _ => key, fun q => absurd rfl q⟩
  · rw [if_neg z] at key ⊢
    exact ⟨fun q => absurd q (by decide), fun _ => key⟩
end
