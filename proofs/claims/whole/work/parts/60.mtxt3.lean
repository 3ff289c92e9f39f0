/-! ===== the reference's text: segments, the whole text, faultPosition, read ===== -/
section
variable {l : Launch} {D : ax_D} {S : ax_S} {C0 C : ax_C} {M L : Nat} {T : Nat → Int32}
theorem r_next {a : Nat} {P : ab_P} {K : Int32 → ax_C → Prop} (h : tx1 S C0 M T L) (hl : rL C0 C M L a P) (hu : uP P) (hn1 : 1 ≤ P.1) (hc : P.2.1 ≠ true) (h1 : ∀ P' q C', nxt T L P a = (some P', q) → rL C0 C' M L q P' → K 1 C') (h0 : ∀ q C', nxt T L P a = (none, q) → vF C0 C' M → C'.1 M 15 = nI q → K 0 C') : ax_CI l D mt_X8_isNext [ax_r (some M)] S C K := by
  obtain ⟨hv, ha, hal, h17, h18, hrow⟩ := id hl
  have ht := tx1_v h hv
  have t1 := ht.1
  have hL := ht.2.2.2.2.2.1.1
  have hP := hu.1
  refine vc_X8_isNext t1 fun P17 P30 P31 P52 h17' h30 h31 h52 => r_here ht ha (by omega) ?_
  have next : hr T L a ≠ -1 → rL C0 (ax_wI C M 15 (C.1 M 15 + 1)) M L (a + 1) P := fun w => by
    have hlt := hr_lt rfl w
    rw [ha, n_succ]
    exact ⟨vF_k hv (Or.inl rfl), by rw [ax_wI_t rfl, n_up_t rfl], hlt, by rw [ax_wI_t rfl, n_up_n (by omega)]; exact h17, by rw [ax_wI_t rfl, n_up_n (by omega)]; exact h18, by rw [ax_wI_n (by omega)]; exact hrow⟩
  -- neither a line nor a curve
  have b0 : ¬ (hr T L a = 76 ∧ P.1 < 12) → ¬ (hr T L a = 67 ∧ P.1 < 12) → P31 (hr T L a) 0 C := by
    intro z1 z2
    refine h31 _ _ _ ⟨fun q => absurd rfl q, fun _ => ⟨fun q => h0 a C ?_ hv ha, fun q => ⟨t1, ?_⟩⟩⟩
    · unfold nxt
      rw [if_neg z1, if_neg z2, if_neg (fun w => q w.1)]
    · rw [h17]
      refine ⟨fun q2 => h52 _ _ ⟨t1, t1, fun q3 => absurd q q3, fun _ => ⟨Or.inr rfl, t1, ?_⟩⟩, fun q2 => h0 a C ?_ hv ha⟩
      · have hn2 : 2 ≤ P.1 := by
          rcases Nat.lt_or_ge P.1 2 with w | w
          · exact n_absurd q2 (nI_ge (b := 2) w (by omega))
          · exact w
        obtain ⟨n1, n2, n3, n4, n5, n6⟩ := next (by rw [q]; decide)
        refine h1 (P.1, true, P.2.2) (a + 1) _ ?_ ⟨vF_k n1 (by omega), ?_, n3, ?_, ?_, ?_⟩
        · unfold nxt
          rw [if_neg z1, if_neg z2, if_pos ⟨q, hn2⟩]
        · rw [ax_wI_t rfl, n_up_n (by omega)]; exact n2
        · rw [ax_wI_t rfl, n_up_n (by omega)]; exact n4
        · rw [ax_wI_t rfl, n_up_t rfl]; rfl
        · rw [ax_wI_n (by omega)]; exact n6
      · unfold nxt
        rw [if_neg z1, if_neg z2, if_neg (fun w => q2 (nI_le (a := 2) w.2 (by omega)))]
  have b52 : (hr T L a = 76 ∨ hr T L a = 67) → P.1 < 12 → P52 (hr T L a) C := by
    intro hx hn
    have n90 : ¬ hr T L a = 90 := by
      rcases hx with w | w
      · rw [w]; decide
      · rw [w]; decide
    have hne : hr T L a ≠ -1 := by
      rcases hx with w | w
      · rw [w]; decide
      · rw [w]; decide
    have nl := next hne
    have nt := tx1_v h nl.1
    refine h52 _ _ ⟨t1, t1, fun _ => ⟨fun q => ?_, fun q => ?_⟩, fun q => absurd q n90⟩
    · have h76 : hr T L a = 76 := by
        rcases hx with w | w
        · exact w
        · exact absurd w q
      refine r_position nt nl.2.1 (by have := hr_lt rfl hne; omega) (by decide) (by decide) (fun w q1 C3 e1 f1 g1 g2 => ⟨fun u => absurd u (by decide), fun _ => ⟨t1, t1, ?_⟩⟩) fun q1 C3 e1 f1 => ⟨fun _ => ⟨Or.inl rfl, h0 q1 C3 ?_ (vF_w nl.1 f1) (wF_15 f1)⟩, fun u => absurd rfl u⟩
      · have v3 := vF_w nl.1 f1
        have n3 : C3.1 M 17 = nI P.1 := by rw [wF_k f1 (by omega) (by omega) (by omega) (by omega)]; exact nl.2.2.2.1
        have bq := (nu_some (po_some e1).choose_spec.2.2).2.1
        refine r_tells (tx1_v h v3) n3 hn ⟨Or.inr rfl, h1 (P.1 + 1, P.2.1, nd P.2.2 P.1 (cn w.1 w.2)) q1 _ ?_ ⟨vF_k (vF_r v3) (by omega), ?_, bq, ?_, ?_, fun j hj => ?_⟩⟩
        · unfold nxt li
          rw [if_pos ⟨h76, hn⟩, e1]
        · rw [ax_wI_t rfl, n_up_n (by omega), ax_rI_n (by omega)]; exact wF_15 f1
        · rw [ax_wI_t rfl, n_up_t rfl]
        · rw [ax_wI_t rfl, n_up_n (by omega), ax_rI_n (by omega), wF_k f1 (by omega) (by omega) (by omega) (by omega)]; exact nl.2.2.2.2.1
        · have hj : j < 8 * (P.1 + 1) := hj
          rw [ax_wI_n (by omega), ax_rI_t rfl, wF_n f1 (by omega), g1, g2]
          show nd _ _ _ j = nd _ _ _ j
          unfold nd
          by_cases z : 8 * P.1 ≤ j ∧ j < 8 * P.1 + 8
          · rw [if_pos z, if_pos z]
          · rw [if_neg z, if_neg z]
            exact nl.2.2.2.2.2 j (by omega)
      · unfold nxt li
        rw [if_pos ⟨h76, hn⟩, e1]
    · have n76 : ¬ (hr T L a = 76 ∧ P.1 < 12) := fun w => by
        have := w.1
        rw [q] at this
        exact absurd this (by decide)
      refine r_curve h nl hu hn hn1 (fun P' r C' e w => ⟨Or.inr rfl, h1 P' r C' ?_ w⟩) fun r C' e w1 w2 => ⟨Or.inl rfl, h0 r C' ?_ w1 w2⟩
      · unfold nxt
        rw [if_neg n76, if_pos ⟨q, hn⟩]
        exact e
      · unfold nxt
        rw [if_neg n76, if_pos ⟨q, hn⟩]
        exact e
  have b30 : ¬ (hr T L a = 76 ∧ P.1 < 12) → ¬ (hr T L a = 67 ∧ P.1 < 12) → P30 (hr T L a) C := fun z1 z2 => h30 _ _ (b0 z1 z2)
  have b17 : (hr T L a = 76 ∨ hr T L a = 67) → P17 (hr T L a) C := by
    intro hx
    refine h17' _ _ ⟨t1, ?_⟩
    rw [h17]
    refine ⟨fun q => ?_, fun q => ?_⟩
    · have hn : ¬ P.1 < 12 := fun w => nI_ge (b := 12) w (by omega) q
      exact b30 (fun w => hn w.2) (fun w => hn w.2)
    · have hn : P.1 < 12 := by
        rcases Nat.lt_or_ge P.1 12 with w | w
        · exact w
        · exact absurd (nI_le (a := 12) w (by omega)) q
      exact h31 _ _ _ ⟨fun _ => b52 hx hn, fun u => absurd u (by decide)⟩
  refine ⟨fun q => b17 (Or.inl q), fun q => ⟨fun q2 => b30 (fun w => q w.1) (fun w => q2 w.1), fun q2 => b17 (Or.inr q2)⟩⟩
theorem r_text {K : Int32 → ax_C → Prop} (h : tx1 S C M T L) (h1 : ∀ P C', ptx T L = (some P, L) → uP P → rL C C' M L L P → K 1 C') (h0 : ∀ q C', ptx T L = (none, q) → vF C C' M → C'.1 M 15 = nI q → K 0 C') : ax_CI l D mt_X8_isText [ax_r (some M)] S C K := by
  have t1 := h.1
  have hL := h.2.2.2.2.2.1.1
  refine vc_X8_isText t1 fun P49 P82 P83 h49 h82 h83 => ⟨t1, t1, Or.inl rfl, t1, ?_⟩
  have v0 : vF C C M := ⟨rfl, fun _ _ _ => rfl, fun _ _ _ => rfl⟩
  generalize hC1 : ax_wI (ax_wI (ax_wI C M 15 0) M 17 0) M 18 0 = C1
  have v1 : vF C C1 M := by rw [← hC1]; exact vF_k (vF_k (vF_k v0 (by omega)) (by omega)) (by omega)
  have p1 : C1.1 M 15 = nI 0 ∧ C1.1 M 17 = nI 0 ∧ C1.1 M 18 = bI false := by
    rw [← hC1]
    refine ⟨?_, ?_, ?_⟩
    · rw [ax_wI_t rfl, n_up_n (by omega), ax_wI_t rfl, n_up_n (by omega), ax_wI_t rfl, n_up_t rfl]; rfl
    · rw [ax_wI_t rfl, n_up_n (by omega), ax_wI_t rfl, n_up_t rfl]; rfl
    · rw [ax_wI_t rfl, n_up_t rfl]; rfl
  have T1 := tx1_v h v1
  have dead : ∀ q C', ptx T L = (none, q) → vF C C' M → C'.1 M 15 = nI q → P49 0 C' := fun q C' e v p => h49 _ _ ⟨fun _ => ⟨Or.inl rfl, h0 q C' e v p⟩, fun w => absurd rfl w⟩
  refine r_takes T1 p1.1 (by omega) (c := 77) rfl (fun s => ⟨fun u => absurd u (by decide), fun _ => ?_⟩) fun s => ⟨fun _ => h0 0 C1 ?_ v1 p1.1, fun u => absurd rfl u⟩
  · have s : hr T L 0 = 77 := s
    have hlt := hr_lt s (by decide)
    have w2 := wF_w (b := 0 + 1) (wF_0 p1.1)
    have v2 := vF_w v1 w2
    refine r_position (tx1_v h v2) (wF_15 w2) (by omega) (by decide) (by decide) (fun w q C3 e1 f1 g1 g2 => ⟨fun _ => ⟨t1, t1, ?_⟩, fun u => absurd u (by decide)⟩) fun q C3 e1 f1 => ⟨fun u => absurd rfl u, fun _ => h0 q C3 ?_ (vF_w v2 f1) (wF_15 f1)⟩
    · have f1 := wF_t w2 f1
      have v3 := vF_w v1 f1
      have n3 : C3.1 M 17 = nI 0 := by rw [wF_k f1 (by omega) (by omega) (by omega) (by omega)]; exact p1.2.1
      have bq := (nu_some (po_some e1).choose_spec.2.2).2.1
      have e : li T L (0, false, fun _ => 0) 1 = (some (0 + 1, false, nd (fun _ => 0) 0 (cn w.1 w.2)), q) := by
        unfold li
        rw [e1]
      have qpos := po_pos e1
      have u := uP_li e uP_0 (by decide)
      have ep : ptx T L = txl T L 120 (0 + 1, false, nd (fun _ => 0) 0 (cn w.1 w.2)) q := by
        unfold ptx
        rw [if_pos s, e]
      refine r_tells (tx1_v h v3) n3 (by omega) ?_
      have loop : ∀ (m : Nat) (P : ab_P) (q : Nat) (C' : ax_C), ptx T L = txl T L m P q → uP P → 1 ≤ P.1 → L ≤ q + m → rL C C' M L q P → P49 1 C' := by
        intro m
        induction m with
        | zero =>
          intro P q C' he hu hu1 hq hl
          obtain ⟨l1, l2, l3, l4, l5, l6⟩ := id hl
          have hqL : q = L := by omega
          subst hqL
          refine h49 _ _ ⟨fun w => absurd w (by decide), fun _ => ⟨t1, t1, fun _ => ⟨Or.inr rfl, h1 P C' he hu hl⟩, fun w => ?_⟩⟩
          rw [l2, (tx1_v h l1).2.2.2.2.1] at w
          exact absurd (nI_le (Nat.le_refl _) (by omega)) w
        | succ m ih =>
          intro P q C' he hu hu1 hq hl
          obtain ⟨l1, l2, l3, l4, l5, l6⟩ := id hl
          refine h49 _ _ ⟨fun w => absurd w (by decide), fun _ => ⟨t1, t1, fun w => ⟨Or.inr rfl, ?_⟩, fun w => ⟨t1, ?_⟩⟩⟩
          · rw [l2, (tx1_v h l1).2.2.2.2.1] at w
            have hqL : q = L := by
              rcases Nat.lt_or_ge q L with v | v
              · exact n_absurd w (nI_ge v (by omega))
              · omega
            subst hqL
            refine h1 P C' ?_ hu hl
            rw [he]
            show (if q < q then _ else _) = _
            rw [if_neg (Nat.lt_irrefl q)]
          · rw [l2, (tx1_v h l1).2.2.2.2.1] at w
            have hqL : q < L := by
              rcases Nat.lt_or_ge q L with v | v
              · exact v
              · exact absurd (nI_le v (by omega)) w
            rw [l5]
            by_cases zc : P.2.1 = true
            · rw [txl_c hqL zc] at he
              refine ⟨fun _ => h82 _ (h83 _ _ (dead q C' he l1 l2)), fun u => ?_⟩
              rw [zc] at u
              exact absurd u (by decide)
            · refine ⟨fun u => absurd (by rw [show P.2.1 = false by simpa using zc]; rfl) u, fun _ => ?_⟩
              refine r_next h hl hu hu1 zc (fun P' r C2 e hl2 => ⟨fun u => absurd u (by decide), fun _ => h83 _ _ ?_⟩) fun r C2 e w1 w2 => ⟨fun _ => h82 _ (h83 _ _ (dead r C2 ?_ w1 w2)), fun u => absurd rfl u⟩
              · have u2 := uP_nxt e hu hu1
                rw [txl_s hqL zc e] at he
                have := nxt_pos e
                exact ih P' r C2 he u2.1 u2.2 (by omega) hl2
              · rw [txl_n hqL zc e] at he; exact he
      refine loop 120 _ q _ ep u.1 (Nat.le_refl 1) (by omega) ⟨vF_k (vF_r v3) (by omega), ?_, bq, ?_, ?_, fun j hj => ?_⟩
      · rw [ax_wI_t rfl, n_up_n (by omega), ax_rI_n (by omega)]; exact wF_15 f1
      · rw [ax_wI_t rfl, n_up_t rfl]
      · rw [ax_wI_t rfl, n_up_n (by omega), ax_rI_n (by omega), wF_k f1 (by omega) (by omega) (by omega) (by omega)]; exact p1.2.2
      · have hj : j < 8 * (0 + 1) := hj
        rw [ax_wI_n (by omega), ax_rI_t rfl, g1, g2]
        show nd (C3.1 (M + 11)) 0 (cn w.1 w.2) j = nd (fun _ => 0) 0 (cn w.1 w.2) j
        unfold nd
        rw [if_pos (by omega), if_pos (by omega)]
    · unfold ptx li
      rw [if_pos s, e1]
  · have s : ¬ hr T L 0 = 77 := s
    unfold ptx
    rw [if_neg s]
end
section
variable {l : Launch} {D : ax_D} {S : ax_S} {E C : ax_C} {M : Nat} {A : ab_A}
theorem mdl_tx (h : mdl S E C M A) (hb : byt A.2.2.2.2.2.1 A.2.2.2.2.2.2.1) : tx1 S C M A.2.2.2.2.2.1 A.2.2.2.2.2.2.1 := by
  obtain ⟨⟨z1, z2, z3, z4, z5, z6, z7, z8, z9⟩, _⟩ := h
  obtain ⟨k1, k2, k3, k4, k5, k6, k7, k8, k9, k10, k11, k12, k13⟩ := z1
  exact ⟨k1, k8.1, k8.2.1, k8.2.2, z6.1, hb, z6.2, k12.1, k12.2.1, k12.2.2⟩
theorem mdl_v {C' : ax_C} (h : mdl S E C M A) (hv : vF C C' M) : mdl S E C' M A :=
  mdl_fr h (fun b b1 b2 b3 b4 b5 => hv.2.1 b b1 b4) (by rw [hv.1]) fun k hk => hv.2.2 k (by omega) (by omega)
theorem m_fault (h : mdl S E C M A) (hb : byt A.2.2.2.2.2.1 A.2.2.2.2.2.2.1) : ax_CI l D mt_X8_faultPosition [ax_r (some M)] S C (pQ S E M (flt A.2.2.2.2.2.1 A.2.2.2.2.2.2.1, A)) := by
  refine vc_X8_faultPosition (mdl_9 h) (r_text (mdl_tx h hb) (fun P C' e u hl => ⟨fun w => absurd w (by decide), fun _ => ⟨?_, mdl_v h hl.1⟩⟩) fun q C' e v p => ⟨fun _ => ⟨mdl_9 h, ?_, mdl_v h v⟩, fun w => absurd rfl w⟩)
  · unfold flt
    rw [e]
    rfl
  · unfold flt
    rw [e, p]
theorem m_read (h : mdl S E C M A) (hb : byt A.2.2.2.2.2.1 A.2.2.2.2.2.2.1) : ax_CI l D mt_X8_read [ax_r (some M)] S C (pP S E M A (F_read (nw A) A.2.2.2.2.2.1 A.2.2.2.2.2.2.1)) := by
  refine vc_X8_read (mdl_9 h) fun P80 P83 P125 h80 h83 h125 => r_text (mdl_tx h hb) (fun P C1 e u hl => ⟨fun _ => ⟨mdl_9 h, ?_⟩, fun w => absurd w (by decide)⟩) fun q C' e v p => ⟨fun w => absurd rfl w, fun _ => ?_⟩
  · have hm := mdl_v h hl.1
    obtain ⟨l1, l2, l3, l4, l5, l6⟩ := hl
    have hV6 := hm.2.1
    have hv0 := hm.2.2.1
    have hK0 := hm.1.1
    have hP := u.1
    rw [hK0.2.1.2.2]
    refine ⟨hK0.2.1.1, (mr_in (j := 0) hK0 (by omega)).2, ?_⟩
    rw [ez8, hv0]
    have hF : F_read (nw A) A.2.2.2.2.2.1 A.2.2.2.2.2.2.1 = if (nw A).1 = 6 then (FU, none) else (nI (nw A).1, some (addP (nw A) (prt P))) := by
      unfold F_read
      rw [e]
    by_cases z : (nw A).1 = 6
    · rw [hF, if_pos z, z]
      exact ⟨fun q => absurd rfl q, fun _ => ⟨rfl, hm⟩⟩
    rw [if_neg z] at hF
    refine ⟨fun _ => s8_begins hm fun C2 hC1 ev e2 => ⟨hC1.1.1.1, ?_⟩, fun q => absurd ((nI_eq (b := 6) (by omega) (by omega)).mp q) z⟩
    have hK := hC1.1.1
    have e0 := hK.2.1.2.2
    have k12 := hK.2.2.2.2.2.2.2.2.2.2.2.1
    have n17 : C2.1 M 17 = nI P.1 := by rw [e2 M (by omega)]; exact l4
    have n18 : C2.1 M 18 = bI P.2.1 := by rw [e2 M (by omega)]; exact l5
    have r11 : ∀ q, q < 8 * P.1 → C2.1 (M + 11) q = P.2.2 q := by rw [e2 (M + 11) (by omega)]; exact l6
    rw [mW_c (p := 0) ev, mr_r, e0]
    refine ⟨hK.2.1.1, (mr_in (j := 0) hK (by omega)).2, hK.1, hK.2.1.1, (mr_in (j := 0) hK (by omega)).2, hK.2.1.1, (mr_in (j := 0) hK (by omega)).2, hK.1, ?_⟩
    rw [lf_bk, mW_v, hv0, ax_wI_rI, mW_v2, mW_v, n_succ]
    have w17 : ∀ v, (mW C2 M v (C2.1 M 12)).1 M 17 = nI P.1 := fun v => by rw [mW_f (by omega)]; exact n17
    have w18 : ∀ v, (mW C2 M v (C2.1 M 12)).1 M 18 = bI P.2.1 := fun v => by rw [mW_f (by omega)]; exact n18
    have w11 : ∀ v, (mW C2 M v (C2.1 M 12)).1 (M + 11) = C2.1 (M + 11) := fun v => mW_n (by omega) (by omega)
    refine (c8_path rfl).use ⟨hK.1, ?_⟩
    rw [mr_r, e0]
    refine ⟨hK.2.1.1, (mr_in hK (by omega)).2, hK.1, ?_⟩
    rw [n_clamp (by omega), ax_wI_rI, mW_v, mW_v2, w17]
    refine (c8_path rfl).use ⟨hK.1, ?_⟩
    rw [w18, mr_r, e0, n_succ]
    generalize hv2 : va_up (va_up (C1.1 (M + 1)) 0 (nI ((nw A).1 + 1))) (1 + 98 * (nw A).1) (nI P.1) = v2
    have loop : ∀ (m k : Nat) (v : Nat → Int32), k + m = 8 * P.1 → (∀ j, (j < 3 + 98 * (nw A).1 ∨ 99 + 98 * (nw A).1 ≤ j) → v j = va_up v2 (1 + 98 * (nw A).1 + 1) (bI P.2.1) j) → (∀ q, q < k → v (3 + 98 * (nw A).1 + q) = (prt P).2.2 q) → P83 (nI (nw A).1) (nI k) (mW C2 M v (C2.1 M 12)) := by
      intro m
      induction m with
      | zero =>
        intro k v hk hf hg
        refine h83 _ _ _ ⟨hK.1, fun _ => ?_, fun w => ?_⟩
        · refine s8_made (V := addP (nw A) (prt P)) (mC_W hC1).1 (mC_W hC1).2 ?_ fun C3 hC => by rw [hF]; exact ⟨rfl, hC⟩
          rw [mW_v]
          refine ⟨by show _ + 1 ≤ 6; omega, ?_, fun j hj => ?_⟩
          · rw [hf 0 (by omega), n_up_n (by omega), ← hv2, n_up_n (by omega), n_up_t rfl]; rfl
          · have hj : j < (nw A).1 + 1 := hj
            have ej : (addP (nw A) (prt P)).2 j = va_up (nw A).2 (nw A).1 (prt P) j := rfl
            rw [ej]
            by_cases w : j = (nw A).1
            · rw [w, n_up_t rfl]
              refine ⟨hP, ?_, ?_, fun q hq => ?_⟩
              · rw [hf _ (by omega), n_up_n (by omega), ← hv2, n_up_t rfl]; rfl
              · rw [hf _ (by omega), n_up_t (by omega)]; rfl
              · exact hg q (by have : q < 8 * P.1 := hq; omega)
            · rw [n_up_n w]
              obtain ⟨z1, z2, z3, z4⟩ := hm.2.2.2 j (by omega)
              have hn : ∀ i, 1 ≤ i → i < 1 + 98 * (nw A).1 → v i = C1.1 (M + 1) i := fun i i1 i2 => by
                rw [hf i (by omega), n_up_n (by omega), ← hv2, n_up_n (by omega), n_up_n (by omega)]
              exact ⟨z1, by rw [hn _ (by omega) (by omega)]; exact z2, by rw [hn _ (by omega) (by omega)]; exact z3, fun q hq => by rw [hn _ (by omega) (by omega)]; exact z4 q hq⟩
        · rw [w17, n_lit8, n_mul] at w
          exact absurd (nI_le (by omega) (by omega)) w
      | succ m ih =>
        intro k v hk hf hg
        refine h83 _ _ _ ⟨hK.1, fun w => ?_, fun w => ⟨hK.1, (c8_node (k := 0) (w := k) rfl rfl rfl).use ⟨hK.1, ?_⟩⟩⟩
        · rw [w17, n_lit8, n_mul] at w
          exact n_absurd w (nI_ge (by omega) (by omega))
        rw [mr_r, k12.2.2, e0]
        refine ⟨k12.1, by rw [k12.2.1]; exact vp_in_nI (by omega) (by omega), by decide, ?_⟩
        rw [n_clamp (by omega), w11, r11 k (by omega), show (8 : Int32) = nI 8 from rfl, pk_rem (by omega) (by omega) (by omega)]
        have b125 : ∀ y : Int32, y = (if k % 8 < 6 then 46656 else 1) → P125 (nI (nw A).1) (nI k) (some (M + 1)) (nI (3 + 98 * (nw A).1 + (8 * 0 + k))) (P.2.2 k) y (mW C2 M v (C2.1 M 12)) := by
          intro y hy
          refine h125 _ _ _ _ _ _ _ ⟨hK.2.1.1, (mr_in hK (by omega)).2, ?_⟩
          rw [n_clamp (by omega), n_succ, ax_wI_rI, mW_v, mW_v2]
          refine ih (k + 1) _ (by omega) (fun j hj => ?_) fun q hq => ?_
          · rw [n_up_n (by omega)]; exact hf j hj
          · by_cases z : q = k
            · rw [n_up_t (by omega), z, hy]; rfl
            · rw [n_up_n (by omega)]; exact hg q (by omega)
        refine ⟨fun w => b125 1 ?_, fun w => b125 46656 ?_⟩
        · rw [if_neg]
          intro x
          exact nI_ge (b := 6) x (by omega) w
        · rw [if_pos]
          rcases Nat.lt_or_ge (k % 8) 6 with x | x
          · exact x
          · exact absurd (nI_le (a := 6) x (by omega)) w
    have b80 : ∀ b : Int32, b = bI P.2.1 → P80 (nI (nw A).1) (some (M + 1)) (nI (1 + 98 * (nw A).1 + 1)) b (mW C2 M v2 (C2.1 M 12)) := by
      intro b hb
      refine h80 _ _ _ _ _ ⟨hK.2.1.1, (mr_in hK (by omega)).2, ?_⟩
      rw [n_clamp (by omega), ax_wI_rI, mW_v, mW_v2]
      exact loop (8 * P.1) 0 _ (by omega) (fun j hj => by rw [hb]) fun q hq => absurd hq (Nat.not_lt_zero q)
    cases hb : P.2.1
    · exact ⟨fun _ => b80 0 (by rw [hb]; rfl), fun w => absurd rfl w⟩
    · exact ⟨fun w => absurd w (by decide), fun _ => b80 1 (by rw [hb]; rfl)⟩
  · unfold F_read
    rw [e]
    exact ⟨rfl, mdl_v h v⟩
end
