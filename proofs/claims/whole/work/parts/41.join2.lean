/-! ===== the reference's join, whole ===== -/
theorem mg_hi {row row2 : Nat → Int32} {m q : Nat} (h : 8 ≤ q) : mg row row2 m q = row q := by
  unfold mg
  split
  · unfold mg1; rw [n_up_n (by omega), n_up_n (by omega)]
  · unfold mg1; rw [n_up_n (by omega), n_up_n (by omega), n_up_n (by omega), n_up_n (by omega)]
section
variable {l : Launch} {D : ax_D} {S : ax_S} {E C : ax_C} {M : Nat} {A : ab_A}
theorem m_join {x1 x2 : Int32} (h : mdl S E C M A) (hok : okV (nw A)) : ax_CI l D mt_X8_join [ax_r (some M), ax_i x1, ax_i x2] S C (pP S E M A (F_join (nw A) x1 x2)) := by
  have hK0 := h.1.1
  refine vc_X8_join (mdl_9 h) fun P51 P60 P93 P134 P205 P238 h51 h60 h93 h134 h205 h238 => s8_path hK0 h.2 (fun p hp hx hi => ⟨fun q => absurd q (by decide), fun _ => s8_path hK0 h.2 (fun o ho hx2 hi2 => ⟨fun _ => ?_, fun q => absurd q (by decide)⟩) fun hi2 => ⟨fun q => absurd rfl q, fun _ => ?_⟩⟩) fun hi => ⟨fun _ => ?_, fun q => absurd rfl q⟩
  · simp only [F_join, onP, hi, hi2] at h60 h93 h134 h238
    have hV6 := h.2.1
    obtain ⟨h12, w2, w3, w4⟩ := h.2.2.2 p hp
    obtain ⟨h122, w2', w3', w4'⟩ := h.2.2.2 o ho
    have hR := vR_g h.2 hp
    have hR2 := vR_g h.2 ho
    have n1 := (hok.2 p hp).1
    have m1 := (hok.2 o ho).1
    have hjl : jn (nw A) p o ≤ 24 := by unfold jn; split <;> omega
    generalize hn : ((nw A).2 p).1 = n at *
    generalize hm : ((nw A).2 o).1 = m at *
    generalize hv : C.1 (M + 1) = v at *
    have hv' : vR v (nw A) := by rw [← hv]; exact h.2
    have ewC : C = mW C M v (C.1 M 12) := by rw [← hv, mW_self]
    have hmsE : ms (bk v p) n (bk v o) = ms ((nw A).2 p).2.2 n ((nw A).2 o).2.2 := ms_c hR hR2 n1 m1
    generalize hms : ms ((nw A).2 p).2.2 n ((nw A).2 o).2.2 = mt at *
    have hjn : jn (nw A) p o = (if p = o then n else n + m) - (if mt = true then 1 else 0) := by
      unfold jn; rw [hn, hm, hms]
    have hj1 : j1 (nw A) p o = if mt = true then n - 1 else n := by
      unfold j1; rw [hn, hms]
    have hjG : jG (nw A) p o = if mt = true then mg ((nw A).2 o).2.2 ((nw A).2 p).2.2 (n - 1) else ((nw A).2 o).2.2 := by
      unfold jG; rw [hn, hms]
    have hs : (bk v o 6 = 0 ∧ bk v o 7 = 0) ∨ 0 < bk v o 6 := by
      rw [hR2 6 (by omega), hR2 7 (by omega)]
      rcases (hok.2 o ho).2.2.2.2 0 (by omega) with w | ⟨a, b, u1, u2, u3, u4, u5, u6⟩
      · exact Or.inl w
      · refine Or.inr ?_
        have u5 : ((nw A).2 o).2.2 6 = nI a := u5
        rw [u5]
        exact nI_lt (a := 0) (by omega) (by omega)
    -- room
    have b93 : ((nw A).2 p).2.1 = false → ((nw A).2 o).2.1 = false → (p = o → 2 ≤ jn (nw A) p o) → P93 (bI mt) (nI n) (nI (jn (nw A) p o)) C := by
      intro cl1 cl2 hle2
      have hnp : ¬ (((nw A).2 p).2.1 = true ∨ ((nw A).2 o).2.1 = true ∨ (p = o ∧ jn (nw A) p o < 2)) := by
        rw [cl1, cl2]
        rintro (w | w | w)
        · cases w
        · cases w
        · have := hle2 w.1; omega
      rw [if_neg hnp] at h93 h134 h238
      refine h93 _ _ _ _ ⟨fun w => ?_, fun w => ?_⟩
      · have hle12 : jn (nw A) p o ≤ 12 := by
          rcases Nat.lt_or_ge 12 (jn (nw A) p o) with y | y
          · exact absurd w (nI_ge (a := 12) y (by omega))
          · exact y
        rw [if_neg (by omega)] at h134 h238
        refine s8_begins h fun C1 hC1 ev e1 => ?_
        have hK := hC1.1.1
        have e0 := hK.2.1.2.2
        rw [hv] at ev
        have ew : C1 = mW C1 M v (C1.1 M 12) := by rw [← ev, mW_self]
        rw [ew]
        generalize C1.1 M 12 = t
        refine ⟨fun hpo => ?_, fun hpo => ?_⟩
        · have hpo : p ≠ o := fun z => hpo (by rw [hx, hx2, z])
          rw [if_neg hpo] at h238 hjn
          -- made of two rows
          have b238 : ∀ R : Nat → Int32, (∀ q, q < 8 * jn (nw A) p o → R q = if q < 8 * j1 (nw A) p o then ((nw A).2 p).2.2 q else jG (nw A) p o (q - 8 * j1 (nw A) p o)) → P238 (nI (jn (nw A) p o)) (mW (ax_rI C1 (M + 10) R) M v t) := by
            intro R hRq
            have hK1 : mK S (ax_rI C1 (M + 10) R) M := hK
            refine h238 _ _ ((c8_unrows hK1 hx (by omega) rfl hle12).use ?_)
            rw [ax_rI_t rfl]
            have hvs : vR (va_up (lf v p (fun q => if q < 8 * jn (nw A) p o then R q else bk v p q)) (1 + 98 * p) (nI (jn (nw A) p o))) (setP (nw A) p (jn (nw A) p o, false, fun q => if q < 8 * j1 (nw A) p o then ((nw A).2 p).2.2 q else jG (nw A) p o (q - 8 * j1 (nw A) p o))) := by
              refine vR_set hv' hp (fun j hj => ?_) hle12 (n_up_t rfl) ?_ fun q hq => ?_
              · rw [n_up_n (by omega), lf_n (by omega)]
              · rw [n_up_n (by omega), lf_n (by omega), w3, cl1]
              · have hq : q < 8 * jn (nw A) p o := hq
                rw [n_up_n (by omega), lf_at (by omega), if_pos hq]
                exact hRq q hq
            refine (c8_removes hK1 hx2 hvs ho).mono ?_
            rintro C32 ⟨v', rfl, hv2⟩
            have hmc := mC_10 (f := R) hC1
            refine s8_made (V := rmP (setP (nw A) p (jn (nw A) p o, false, fun q => if q < 8 * j1 (nw A) p o then ((nw A).2 p).2.2 q else jG (nw A) p o (q - 8 * j1 (nw A) p o))) o) (mC_W hmc).1 (mC_W hmc).2 ?_ fun C2 hC => ⟨rfl, hC⟩
            rw [mW_v]; exact hv2
          refine (c8_rows hK hx (by omega) (fr := 0) rfl rfl (into := 0) rfl (by omega) (by omega)).use ?_
          generalize hRa : (fun j => if 8 * 0 ≤ j ∧ j < 8 * 0 + 8 * n then bk v p (8 * 0 + (j - 8 * 0)) else C1.1 (M + 10) j) = Ra
          have hKa : mK S (ax_rI C1 (M + 10) Ra) M := hK
          refine s8_many hKa hx2 (by omega) w2' ?_
          refine (c8_rows hKa hx2 (by omega) (fr := 0) rfl rfl (into := n) rfl (by omega) (by omega)).use ?_
          rw [ax_rI_rI, ax_rI_t rfl]
          generalize hRb : (fun j => if 8 * n ≤ j ∧ j < 8 * n + 8 * m then bk v o (8 * 0 + (j - 8 * n)) else Ra j) = Rb
          have hKb : mK S (ax_rI C1 (M + 10) Rb) M := hK
          have rb1 : ∀ q, q < 8 * n → Rb q = bk v p q := fun q hq => by
            rw [← hRb]; dsimp only
            rw [if_neg (by omega), ← hRa]; dsimp only
            rw [if_pos (by omega)]; exact congrArg _ (by omega)
          have rb2 : ∀ q, q < 8 * m → Rb (8 * n + q) = bk v o q := fun q hq => by
            rw [← hRb]; dsimp only
            rw [if_pos (by omega)]; exact congrArg _ (by omega)
          refine ⟨fun q => ?_, fun q => ?_⟩
          · rw [bI_0] at q
            refine b238 Rb fun j hj => ?_
            rw [hjn, q] at hj
            rw [hj1, hjG, q]
            simp only [Bool.false_eq_true, if_false, Nat.sub_zero] at hj ⊢
            by_cases y : j < 8 * n
            · rw [if_pos y, rb1 j y]; exact hR j y
            · rw [if_neg y, show j = 8 * n + (j - 8 * n) by omega, rb2 _ (by omega)]
              rw [show 8 * n + (j - 8 * n) - 8 * n = j - 8 * n by omega]
              exact hR2 _ (by omega)
          · have q : mt = true := by rw [bI_0] at q; simpa using q
            rw [n_lit1, n_sub (by omega)]
            refine c8_unites (row := bk v o) (row2 := bk v p) (m := n - 1) hKb rfl rfl (by omega) (by omega) (by omega) (fun f hf => ?_) (fun f hf => ?_) hs fun R' hR'1 hR'2 => ?_
            · rw [ax_rI_t rfl]; exact rb2 f (by omega)
            · rw [ax_rI_t rfl]; exact rb1 _ (by omega)
            rw [ax_rI_t rfl] at hR'1
            rw [ax_rI_rI, n_lit8, n_mul]
            have hjn' : jn (nw A) p o = n + m - 1 := by rw [hjn, q, if_pos rfl]
            have loop : ∀ (c k : Nat) (G : Nat → Int32), k + c = 8 * jn (nw A) p o → 8 * (n - 1) ≤ k → (∀ j, G j = if 8 * (n - 1) ≤ j ∧ j < k then R' (j + 8) else R' j) → P205 (nI (jn (nw A) p o)) (nI k) (mW (ax_rI C1 (M + 10) G) M v t) := by
              intro c
              induction c with
              | zero =>
                intro k G hk hk2 hG
                have : k = 8 * jn (nw A) p o := by omega
                subst this
                refine h205 _ _ _ ⟨fun _ => b238 G fun j hj => ?_, fun q => n_absurd (by simp (disch := omega) only [n_lit0, n_lit1, n_lit2, n_lit3, n_lit4, n_lit5, n_lit6, n_lit7, n_lit8, n_lit9, n_lit10, n_lit11, n_lit12, n_lit13, n_lit14, n_lit15, n_lit16, n_lit17, n_lit18, n_lit19, n_lit20, n_lit21, n_lit22, n_lit23, n_lit24, n_lit30, n_lit31, n_lit32, n_lit45, n_lit48, n_lit49, n_lit57, n_lit59, n_lit60, n_lit67, n_lit76, n_lit77, n_lit90, n_lit96, n_lit97, n_lit98, n_lit99, n_lit100, n_lit119, n_lit120, n_lit127, n_lit128, n_lit196, n_lit200, n_lit208, n_lit294, n_lit340, n_lit341, n_lit392, n_lit490, n_lit491, n_lit500, n_lit588, n_lit589, n_lit999, n_lit1178, n_lit5301, n_lit5890, n_lit46656, n_add, n_mul, n_sub, n_lt_t, n_lt_f, n_le_t, n_le_f, n_eq_t, n_eq_f, n_clamp, n_in_t, ax_sm_s, true_and, and_true, not_true_eq_false, not_false_eq_true, true_imp, false_imp, imp_true, and_self, ax_wI_2, ax_rI_2, ax_wI_t, ax_wI_n, ax_rI_t, ax_rI_n, n_up_t, n_up_n, ne_eq, or_true, true_or, false_or, or_false, some_ex, n_none1, n_none2, ite_true, ite_false]) q⟩
                rw [hj1, hjG, q, if_pos rfl, if_pos rfl]
                by_cases y : j < 8 * (n - 1)
                · rw [if_pos y, hG, if_neg (by omega), hR'1 j (by omega), rb1 j (by omega)]; exact hR j (by omega)
                · rw [if_neg y, hG, if_pos (by omega), show j + 8 = 8 * n + (j - 8 * (n - 1)) by omega]
                  by_cases y2 : j - 8 * (n - 1) < 8
                  · rw [hR'2 _ y2]
                    exact mg_c hR2 hR m1 n1 (by omega)
                  · rw [hR'1 _ (by omega), rb2 _ (by omega), mg_hi (by omega)]
                    exact hR2 _ (by omega)
              | succ c ih =>
                intro k G hk hk2 hG
                refine h205 _ _ _ ⟨fun q => n_absurd q (by simp (disch := omega) only [n_lit0, n_lit1, n_lit2, n_lit3, n_lit4, n_lit5, n_lit6, n_lit7, n_lit8, n_lit9, n_lit10, n_lit11, n_lit12, n_lit13, n_lit14, n_lit15, n_lit16, n_lit17, n_lit18, n_lit19, n_lit20, n_lit21, n_lit22, n_lit23, n_lit24, n_lit30, n_lit31, n_lit32, n_lit45, n_lit48, n_lit49, n_lit57, n_lit59, n_lit60, n_lit67, n_lit76, n_lit77, n_lit90, n_lit96, n_lit97, n_lit98, n_lit99, n_lit100, n_lit119, n_lit120, n_lit127, n_lit128, n_lit196, n_lit200, n_lit208, n_lit294, n_lit340, n_lit341, n_lit392, n_lit490, n_lit491, n_lit500, n_lit588, n_lit589, n_lit999, n_lit1178, n_lit5301, n_lit5890, n_lit46656, n_add, n_mul, n_sub, n_lt_t, n_lt_f, n_le_t, n_le_f, n_eq_t, n_eq_f, n_clamp, n_in_t, ax_sm_s, true_and, and_true, not_true_eq_false, not_false_eq_true, true_imp, false_imp, imp_true, and_self, ax_wI_2, ax_rI_2, ax_wI_t, ax_wI_n, ax_rI_t, ax_rI_n, n_up_t, n_up_n, ne_eq, or_true, true_or, false_or, or_false, some_ex, n_none1, n_none2, ite_true, ite_false]), fun _ => ⟨hK.1, hK.1, ?_⟩⟩
                have k10 := hK.2.2.2.2.2.2.2.2.2.2.1
                show ax_sm (C1.2.2 M 14) (fun b29 => _ ∧ _ ∧ ax_sm (C1.2.2 M 14) _)
                rw [k10.2.2, n_lit8, n_add]
                refine ⟨k10.1, (mr10 hK (by omega)).2, k10.1, (mr10 hK (by omega)).2, ?_⟩
                rw [n_clamp (by omega), n_clamp (by omega), ax_wI_rI, mW_n (by omega) (by omega), ax_rI_t rfl, mW_10, ax_rI_rI, n_succ]
                refine ih (k + 1) _ (by omega) (by omega) fun j => ?_
                by_cases z : j = k
                · rw [n_up_t z, if_pos (by omega), hG, if_neg (by omega), z]
                · rw [n_up_n z, hG]
                  by_cases z2 : 8 * (n - 1) ≤ j ∧ j < k
                  · rw [if_pos z2, if_pos (by omega)]
                  · rw [if_neg z2, if_neg (by omega)]
            exact loop (8 * jn (nw A) p o - 8 * (n - 1)) (8 * (n - 1)) R' (by omega) (Nat.le_refl _) (fun j => by rw [if_neg (by omega)])
        · have hpo : p = o := by rw [hx, hx2] at hpo; exact (nI_eq (by omega) (by omega)).mp hpo
          subst hpo
          rw [if_pos rfl] at h134 hjn
          have hmn : m = n := by rw [← hn, ← hm]
          have hge2 := hle2 rfl
          have b134 : ∀ R : Nat → Int32, (∀ q, q < 8 * jn (nw A) p p → R q = jG (nw A) p p q) → P134 (nI (jn (nw A) p p)) (mW (ax_rI C1 (M + 10) R) M v t) := by
            intro R hRq
            have hK1 : mK S (ax_rI C1 (M + 10) R) M := hK
            refine h134 _ _ ((c8_unrows hK1 hx (by omega) rfl hle12).use ⟨hK.1, (c8_path hx).use ?_⟩)
            rw [ax_rI_t rfl, mr_r]
            show ax_sm (C1.2.2 M 0) _
            rw [e0, n_succ]
            refine ⟨hK.2.1.1, (mr_in hK (by omega)).2, ?_⟩
            rw [n_clamp (by omega), ax_wI_rI, mW_v, mW_v2]
            have hmc := mC_10 (f := R) hC1
            refine s8_made (V := setP (nw A) p (jn (nw A) p p, true, jG (nw A) p p)) (mC_W hmc).1 (mC_W hmc).2 ?_ fun C2 hC => ⟨rfl, hC⟩
            rw [mW_v]
            refine vR_set hv' hp (fun j hj => ?_) hle12 ?_ ?_ fun q hq => ?_
            · rw [n_up_n (by omega), n_up_n (by omega), lf_n (by omega)]
            · rw [n_up_n (by omega), n_up_t rfl]
            · rw [n_up_t (by omega)]; rfl
            · have hq : q < 8 * jn (nw A) p p := hq
              rw [n_up_n (by omega), n_up_n (by omega), lf_at (by omega), if_pos hq]
              exact hRq q hq
          refine (c8_rows hK hx (by omega) (fr := 0) rfl rfl (into := 0) rfl (by omega) (by omega)).use ?_
          generalize hRa : (fun j => if 8 * 0 ≤ j ∧ j < 8 * 0 + 8 * n then bk v p (8 * 0 + (j - 8 * 0)) else C1.1 (M + 10) j) = Ra
          have hKa : mK S (ax_rI C1 (M + 10) Ra) M := hK
          have ra : ∀ q, q < 8 * n → Ra q = bk v p q := fun q hq => by
            rw [← hRa]; dsimp only
            rw [if_pos (by omega)]; exact congrArg _ (by omega)
          refine ⟨fun q => ?_, fun q => ?_⟩
          · rw [bI_0] at q
            refine b134 Ra fun j hj => ?_
            rw [hjn, q] at hj
            rw [hjG, q]
            simp only [Bool.false_eq_true, if_false, Nat.sub_zero] at hj ⊢
            rw [ra j hj]; exact hR j hj
          · have q : mt = true := by rw [bI_0] at q; simpa using q
            have hjn' : jn (nw A) p p = n - 1 := by rw [hjn, q, if_pos rfl]
            rw [n_lit1, n_sub (by omega)]
            refine c8_unites (i := 0) (row := bk v p) (row2 := bk v p) (m := n - 1) hKa rfl rfl (by omega) (by omega) (by omega) (fun f hf => ?_) (fun f hf => ?_) hs fun R' hR'1 hR'2 => ?_
            · rw [ax_rI_t rfl, ra _ (by omega)]; exact congrArg _ (by omega)
            · rw [ax_rI_t rfl]; exact ra _ (by omega)
            rw [ax_rI_t rfl] at hR'1
            rw [ax_rI_rI]
            refine b134 R' fun j hj => ?_
            rw [hjG, q, if_pos rfl]
            by_cases y : j < 8
            · have := hR'2 j y
              rw [show 8 * 0 + j = j by omega] at this
              rw [this]
              exact mg_c hR2 hR m1 n1 (by omega)
            · rw [hR'1 j (by omega), ra j (by omega), mg_hi (by omega)]
              exact hR j (by omega)
      · have : 12 < jn (nw A) p o := by
          rcases Nat.lt_or_ge 12 (jn (nw A) p o) with y | y
          · exact y
          · exact absurd (nI_le y (by omega)) w
        rw [if_pos this]
        exact ⟨rfl, h⟩
    -- closed, too small
    have b60 : ∀ t0 t1 : Int32, t0 - t1 = nI (jn (nw A) p o) → P60 (bI mt) (nI n) t0 t1 C := by
      intro t0 t1 ht
      refine h60 _ _ _ _ _ ((c8_isShut hK0 hx (by omega) (by rw [hv]; exact w3)).use ⟨fun w => ?_, fun w => (c8_isShut hK0 hx2 (by omega) (by rw [hv]; exact w3')).use ⟨fun w2 => ?_, fun w2 => ?_⟩⟩)
      · rw [bI_0] at w
        rw [if_pos (Or.inl (by simpa using w))]
        exact ⟨rfl, h⟩
      · rw [bI_0] at w2
        rw [if_pos (Or.inr (Or.inl (by simpa using w2)))]
        exact ⟨rfl, h⟩
      · rw [bI_0] at w w2
        rw [ht]
        refine ⟨fun y => b93 w w2 fun z => ?_, fun y => ⟨fun y2 => b93 w w2 fun z => ?_, fun y2 => ?_⟩⟩
        · exact absurd (by rw [hx, hx2, z]) y
        · rcases Nat.lt_or_ge (jn (nw A) p o) 2 with u | u
          · exact absurd y2 (nI_ge (b := 2) u (by omega))
          · exact u
        · have hpo : p = o := by rw [hx, hx2] at y; exact (nI_eq (by omega) (by omega)).mp y
          have : jn (nw A) p o < 2 := by
            rcases Nat.lt_or_ge (jn (nw A) p o) 2 with u | u
            · exact u
            · exact absurd (nI_le (a := 2) u (by omega)) y2
          rw [if_pos (Or.inr (Or.inr ⟨hpo, this⟩))]
          exact ⟨rfl, h⟩
    have b51 : ∀ t0 : Int32, t0 = nI (if p = o then n else n + m) → P51 (bI mt) (nI n) t0 C := by
      intro t0 ht
      refine h51 _ _ _ _ ⟨fun w => b60 _ _ ?_, fun w => b60 _ _ ?_⟩
      · rw [bI_0] at w
        have w' : ¬ mt = true := by rw [w]; decide
        rw [hjn, if_neg w', ht, n_lit0, n_sub (Nat.zero_le _)]
      · have w' : mt = true := by rw [bI_0] at w; simpa using w
        rw [hjn, if_pos w', ht, n_lit1, n_sub (by split <;> omega)]
    rw [ewC]
    refine (c8_meet hK0 hx hx2 (by omega) (by omega) w2 n1 h12).use ?_
    rw [hmsE, ← ewC]
    refine (c8_many hK0 hx (by omega)).use ?_
    rw [hv, w2]
    refine ⟨fun y => (c8_many hK0 hx2 (by omega)).use ?_, fun y => ?_⟩
    · rw [hv, w2', n_add]
      refine b51 _ ?_
      rw [if_neg (fun z => y (by rw [hx, hx2, z]))]
    · have hpo : p = o := by rw [hx, hx2] at y; exact (nI_eq (by omega) (by omega)).mp y
      refine b51 _ ?_
      rw [if_pos hpo]
  · simp only [F_join, onP, hi, hi2]
    exact ⟨rfl, h⟩
  · simp only [F_join, onP, hi]
    exact ⟨rfl, h⟩
end
