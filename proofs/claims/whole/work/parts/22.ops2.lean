/-! ===== the class's changes ===== -/
section
variable {l : Launch} {D : ax_D} {S : ax_S} {E C : ax_C} {B pr : Nat} {τ : Nat → Nat} {A : ab_A}
theorem cls_8 (h : cls S E C B A) : S.1 B = 8 := by
  obtain ⟨τ, pr, h⟩ := h
  exact h.1.1
theorem dS_8 {d : Nat} {σ : Nat → Nat} {V : ab_V} {t : Int32} (h : dS S E C B τ pr A d σ V t) : S.1 B = 8 := h.1.1.1
theorem dS_L {d : Nat} {σ : Nat → Nat} {V : ab_V} {t : Int32} (h : dS S E C B τ pr A d σ V t) : C.2.2 B 3 = some (B + 173) := h.1.2.1.1.2.2.2.1
theorem dS_c {d : Nat} {σ : Nat → Nat} {V : ab_V} {t : Int32} (h : dS S E C B τ pr A d σ V t) : C.2.2 B 4 = some (B + 174) := h.1.2.1.1.2.2.2.2.1
theorem dS_d {d : Nat} {σ : Nat → Nat} {V : ab_V} {t : Int32} (h : dS S E C B τ pr A d σ V t) : B + 3 ≤ d ∧ d + 14 ≤ B + 171 := by
  obtain ⟨_, rfl, h3, _⟩ := h
  omega
theorem s_end2 {d : Nat} {V : ab_V} {x : Int32} {P : Int32 → ax_C → Prop} (h : zS S E C B τ pr A) (hd : d = B + 3 + 14 * τ 11) (hl : lA S C (B + 173) 0) (hV : pc S C d V) (hp : ∀ C2, cls S E C2 B (updA A (some V)) → P x C2) : ax_CI l D mt_X7_endChange [ax_r (some B), ax_i x] S C P := by
  subst hd
  refine (c_endChange (V := V) (t := 0) h (fun _ => hV) hl).mono ?_
  rintro r C2 ⟨_, w2⟩
  obtain ⟨rfl, w⟩ := w2 rfl
  exact hp C2 w
theorem o_addPath {x y : Int32} (h : cls S E C B A) : ax_CI l D mt_X7_addPath [ax_r (some B), ax_i x, ax_i y] S C (fun r C' => r = (F_addPath (nw A) x y).1 ∧ cls S E C' B (updA A (F_addPath (nw A) x y).2)) := by
  refine vc_X7_addPath (cls_8 h) (c_isLength.use ?_)
  unfold F_addPath ln
  cases bt x (-200) 200
  · exact ⟨fun _ => ⟨rfl, h⟩, fun q => absurd rfl q⟩
  refine ⟨fun q => absurd q (by decide), fun _ => c_isLength.use ?_⟩
  cases bt y (-200) 200
  · exact ⟨fun q => absurd rfl q, fun _ => ⟨rfl, h⟩⟩
  refine ⟨fun _ => s_start h fun C1 τ pr d σ hd => ?_, fun q => absurd q (by decide)⟩
  obtain ⟨h1, h2, h3, h4, h5, h6⟩ := id hd
  have hdd := dS_d hd
  rw [if_neg (by decide)]
  refine (c_newPath h4 h5).mono ?_
  rintro r C7 (⟨hV, rfl, rfl⟩ | ⟨hV, rfl, e2, e1, hs⟩)
  · rw [if_pos hV]
    exact ⟨fun b hb => (by cases hb), fun _ => ⟨rfl, τ, pr, h1⟩⟩
  · rw [if_neg (by omega)]
    refine ⟨fun b hb => ?_, fun hb => by cases hb⟩
    have hps : ps S C7 d σ := ps_e h4 e2
    have sk := ps_1 (k := (nw A).1) h4 (by omega)
    have hc := hs.2.2 (nw A).1 (by show _ < _ + 1; omega)
    have hc1 : C7.1 (d + 2 + 2 * σ (nw A).1) 1 = nI 0 ∧ C7.1 (d + 2 + 2 * σ (nw A).1) 2 = 0 := by
      have e : (va_up (nw A).2 (nw A).1 ((0, false, fun _ => 0) : ab_P)) (nw A).1 = (0, false, fun _ => 0) := n_up_t rfl
      have hc : cP C7 (d + 2 + 2 * σ (nw A).1) (va_up (nw A).2 (nw A).1 ((0, false, fun _ => 0) : ab_P) (nw A).1) := hc
      rw [e] at hc
      exact ⟨hc.2.1, hc.2.2.1⟩
    refine (c_addCorner (n := 0) (ps_4 hps (by omega)) hc1.1 (by omega)).use ⟨dS_8 hd, ?_⟩
    have hz : zS S E (pW C7 (d + 2 + 2 * σ (nw A).1) (nd (C7.1 (d + 2 + 2 * σ (nw A).1 + 1)) 0 (fun f => if f = 0 then x * 46656 else if f = 1 then y * 46656 else 0)) (nI (0 + 1)) (C7.1 (d + 2 + 2 * σ (nw A).1) 2)) B τ pr A := by
      refine zS_fr h1 (fun b b1 b2 => ?_) (fun b _ => by show C7.2.2 b = _; rw [e2]) ⟨σ, h2 ▸ ps_e hps rfl⟩
      rw [pW_n (by omega) (by omega), e1 b (by omega)]
    show ax_CR l D mt_X1_now [ax_r (C7.2.2 B 0)] S _ _
    rw [e2, h1.2.1.1.1]
    refine (c_now hz).use ?_
    obtain ⟨σn, n1, n2⟩ := now_pc hz
    refine ⟨n1.1, ?_⟩
    rw [n2.2.1]
    refine s_end2 (V := addP (nw A) (1, false, cn (x * 46656) (y * 46656))) hz h2 ?_ ⟨σ, ps_e hps rfl, ?_⟩ fun C2 hC => ⟨rfl, hC⟩
    · refine lA_fr h6 ?_
      rw [pW_n (by omega) (by omega), e1 _ (by omega)]
    · have := sh_set (k := (nw A).1) (P := (1, false, cn (x * 46656) (y * 46656))) (C' := pW C7 (d + 2 + 2 * σ (nw A).1) (nd (C7.1 (d + 2 + 2 * σ (nw A).1 + 1)) 0 (fun f => if f = 0 then x * 46656 else if f = 1 then y * 46656 else 0)) (nI (0 + 1)) (C7.1 (d + 2 + 2 * σ (nw A).1) 2)) hps hs (by show _ < _ + 1; omega) (fun b b1 b2 b3 b4 => pW_n b3 b4) ⟨by show 1 ≤ 12; omega, pW_s _ _ _ _ _, by rw [pW_c]; exact hc1.2, fun q hq => ?_⟩
      · have e : va_up (va_up (nw A).2 (nw A).1 ((0, false, fun _ => 0) : ab_P)) (nw A).1 (1, false, cn (x * 46656) (y * 46656)) = va_up (nw A).2 (nw A).1 (1, false, cn (x * 46656) (y * 46656)) := bx_uu _ _ _ _
        unfold addP
        rw [← e]
        exact this
      · rw [pW_row]
        have hq : q < 8 * 1 := hq
        unfold nd cn
        rw [if_pos (by omega)]
        rfl
theorem o_extend {x1 x y : Int32} (h : cls S E C B A) : ax_CI l D mt_X7_extend [ax_r (some B), ax_i x1, ax_i x, ax_i y] S C (fun r C' => r = (F_extend (nw A) x1 x y).1 ∧ cls S E C' B (updA A (F_extend (nw A) x1 x y).2)) := by
  refine vc_X7_extend (cls_8 h) (s_start h fun C1 τ pr d σ hd => s_path hd (fun k hk hx hi => ?_) fun hi => ?_)
  · obtain ⟨hP, hc, sk⟩ := dS_p hd hk
    have hdd := dS_d hd
    have hc12 := hc.1
    refine ⟨fun b hb => c_isLength.use ?_, fun q => by cases q⟩
    simp only [F_extend, onP, hi]
    unfold ln
    cases bt x (-200) 200
    · exact ⟨fun _ => ⟨rfl, dS_cls hd⟩, fun q => absurd rfl q⟩
    refine ⟨fun q => absurd q (by decide), fun _ => c_isLength.use ?_⟩
    cases bt y (-200) 200
    · exact ⟨fun q => absurd rfl q, fun _ => ⟨rfl, dS_cls hd⟩⟩
    rw [if_neg (by decide)]
    refine ⟨fun _ => ⟨hP.1, ?_⟩, fun q => absurd q (by decide)⟩
    rw [hc.2.2.1]
    cases hb2 : ((nw A).2 k).2.1
    · refine ⟨fun _ => ⟨hP.1, ?_⟩, fun q => absurd rfl q⟩
      rw [hc.2.1, if_neg (by decide)]
      by_cases z : ((nw A).2 k).1 = 12
      · rw [if_pos z, z]
        exact ⟨fun q => absurd q (by decide), fun _ => ⟨rfl, dS_cls hd⟩⟩
      · rw [if_neg z]
        refine ⟨fun _ => (c_addCorner hP hc.2.1 (by omega)).use ⟨hP.1, ?_⟩, fun q => n_absurd (by simp (disch := omega) only [n_lit0, n_lit1, n_lit2, n_lit3, n_lit4, n_lit5, n_lit6, n_lit7, n_lit8, n_lit9, n_lit10, n_lit11, n_lit12, n_lit13, n_lit14, n_lit15, n_lit16, n_lit17, n_lit18, n_lit19, n_lit20, n_lit21, n_lit22, n_lit23, n_lit24, n_lit30, n_lit31, n_lit32, n_lit45, n_lit48, n_lit49, n_lit57, n_lit59, n_lit60, n_lit67, n_lit76, n_lit77, n_lit90, n_lit96, n_lit97, n_lit98, n_lit99, n_lit100, n_lit119, n_lit120, n_lit127, n_lit128, n_lit196, n_lit200, n_lit208, n_lit294, n_lit340, n_lit341, n_lit392, n_lit490, n_lit491, n_lit500, n_lit588, n_lit589, n_lit999, n_lit1178, n_lit5301, n_lit5890, n_lit46656, n_add, n_mul, n_sub, n_lt_t, n_lt_f, n_le_t, n_le_f, n_eq_t, n_eq_f, n_clamp, n_in_t, ax_sm_s, true_and, and_true, not_true_eq_false, not_false_eq_true, true_imp, false_imp, imp_true, and_self, ax_wI_2, ax_rI_2, ax_wI_t, ax_wI_n, ax_rI_t, ax_rI_n, n_up_t, n_up_n, ne_eq, or_true, true_or, false_or, or_false, some_ex, n_none1, n_none2, ite_true, ite_false]) q⟩
        rw [pW_s]
        refine s_end (t2 := 0) hd hk rfl (fun b b1 b2 b3 => pW_n b1 b2) rfl (lA_fr hd.2.2.2.2.2 (pW_n (by omega) (by omega))) (fun _ => ⟨by show _ + 1 ≤ 12; omega, pW_s _ _ _ _ _, by rw [pW_c, hc.2.2.1, hb2], fun q hq => ?_⟩) fun C2 hC => ⟨rfl, hC⟩
        rw [pW_row]
        have hq : q < 8 * (((nw A).2 k).1 + 1) := hq
        show nd _ _ _ q = nd _ _ _ q
        unfold nd
        by_cases w : 8 * ((nw A).2 k).1 ≤ q ∧ q < 8 * ((nw A).2 k).1 + 8
        · rw [if_pos w, if_pos w]; rfl
        · rw [if_neg w, if_neg w]
          exact hc.2.2.2 q (by omega)
    · rw [if_pos rfl]
      exact ⟨fun q => absurd q (by decide), fun _ => ⟨rfl, dS_cls hd⟩⟩
  · simp only [F_extend, onP, hi]
    exact ⟨fun b hb => (by cases hb), fun _ => ⟨rfl, dS_cls hd⟩⟩
theorem o_removePath {x1 : Int32} (h : cls S E C B A) : ax_CI l D mt_X7_removePath [ax_r (some B), ax_i x1] S C (fun r C' => r = (F_removePath (nw A) x1).1 ∧ cls S E C' B (updA A (F_removePath (nw A) x1).2)) := by
  refine vc_X7_removePath (cls_8 h) (s_start h fun C1 τ pr d σ hd => s_path hd (fun k hk hx hi => ?_) fun hi => ?_)
  · simp only [F_removePath, onP, hi]
    refine ⟨fun b hb => ?_, fun q => by cases q⟩
    obtain ⟨h1, h2, h3, h4, h5, h6⟩ := id hd
    have hdd := dS_d hd
    refine (c_dropPath h4 h5 hx hk).mono ?_
    rintro C6 ⟨e1, e3, e2, σ', hps, hsh⟩
    refine ⟨h4.1, ?_⟩
    rw [hsh.2.1]
    refine s_end2 (pr := pr) (V := rmP (nw A) k) ?_ h2 (lA_fr h6 (e1 _ (by omega))) ⟨σ', hps, hsh⟩ fun C2 hC => ⟨rfl, hC⟩
    exact zS_fr h1 (fun b b1 b2 => e1 b (by omega)) (fun b b1 => e2 b (by omega)) ⟨σ', h2 ▸ hps⟩
  · simp only [F_removePath, onP, hi]
    exact ⟨fun b hb => (by cases hb), fun _ => ⟨rfl, dS_cls hd⟩⟩
end
