/-! ===== the class's text: segments, the whole text ===== -/
theorem sub200 {x y : Int32} (h : bt (x - y) (-200) 200 = true) : -200 ≤ (x - y).toInt ∧ (x - y).toInt ≤ 200 := bt_200.mp h
theorem sub200' {x y : Int32} (hx : -200 ≤ x.toInt ∧ x.toInt ≤ 200) (hy : -200 ≤ y.toInt ∧ y.toInt ≤ 200) (h : bt (x - y) (-200) 200 = true) : -200 ≤ (y - x).toInt ∧ (y - x).toInt ≤ 200 := by
  have := sub200 h
  rw [Int32.toInt_sub, Int.bmod_eq_of_le (by omega) (by omega)] at this
  rw [Int32.toInt_sub, Int.bmod_eq_of_le (by omega) (by omega)]
  omega
section
variable {l : Launch} {D : ax_D} {S : ax_S} {C0 C : ax_C} {A L : Nat} {T : Nat → Int32}
theorem nu_v {a q : Nat} {fr v : Int32} (h : nu T L fr a = (some v, q)) : -200 ≤ v.toInt ∧ v.toInt ≤ 200 := ⟨(nu_some h).2.2.1, (nu_some h).2.2.2.1⟩
theorem nu_b {a q : Nat} {fr v : Int32} (h : nu T L fr a = (some v, q)) : bt (v - fr) (-200) 200 = true := (nu_some h).2.2.2.2
theorem uP_nd {P : ab_P} {v : Nat → Int32} (hu : uP P) (hn : P.1 < 12) (h1 : ∀ f, f < 6 → -200 ≤ (v f).toInt ∧ (v f).toInt ≤ 200) (h2 : v 6 = 0 ∧ v 7 = 0) : uP (P.1 + 1, P.2.1, nd P.2.2 P.1 v) := by
  refine ⟨by show P.1 + 1 ≤ 12; omega, fun w => by have := hu.2.1 w; show 2 ≤ P.1 + 1; omega, fun k hk => ?_⟩
  have hk : k < P.1 + 1 := hk
  show (∀ f, f < 6 → -200 ≤ (nd P.2.2 P.1 v (8 * k + f)).toInt ∧ (nd P.2.2 P.1 v (8 * k + f)).toInt ≤ 200) ∧ nd P.2.2 P.1 v (8 * k + 6) = 0 ∧ nd P.2.2 P.1 v (8 * k + 7) = 0
  by_cases z : k = P.1
  · have e : ∀ f, f < 8 → nd P.2.2 P.1 v (8 * k + f) = v f := fun f hf => by
      unfold nd
      rw [if_pos (by omega), show 8 * k + f - 8 * P.1 = f by omega]
    rw [e 6 (by omega), e 7 (by omega)]
    exact ⟨fun f hf => by rw [e f (by omega)]; exact h1 f hf, h2⟩
  · have e : ∀ f, f < 8 → nd P.2.2 P.1 v (8 * k + f) = P.2.2 (8 * k + f) := fun f hf => by
      unfold nd
      rw [if_neg (by omega)]
    have := hu.2.2 k (by omega)
    rw [e 6 (by omega), e 7 (by omega)]
    exact ⟨fun f hf => by rw [e f (by omega)]; exact this.1 f hf, this.2⟩
theorem uP_up {P : ab_P} {k f : Nat} {x : Int32} (hu : uP P) (hf : f < 6) (hx : -200 ≤ x.toInt ∧ x.toInt ≤ 200) : uP (P.1, P.2.1, va_up P.2.2 (8 * k + f) x) := by
  refine ⟨hu.1, hu.2.1, fun j hj => ?_⟩
  have := hu.2.2 j hj
  show (∀ g, g < 6 → -200 ≤ (va_up P.2.2 (8 * k + f) x (8 * j + g)).toInt ∧ (va_up P.2.2 (8 * k + f) x (8 * j + g)).toInt ≤ 200) ∧ va_up P.2.2 (8 * k + f) x (8 * j + 6) = 0 ∧ va_up P.2.2 (8 * k + f) x (8 * j + 7) = 0
  refine ⟨fun g hg => ?_, ?_, ?_⟩
  · by_cases z : 8 * j + g = 8 * k + f
    · rw [n_up_t z]; exact hx
    · rw [n_up_n z]; exact this.1 g hg
  · rw [n_up_n (by omega)]; exact this.2.1
  · rw [n_up_n (by omega)]; exact this.2.2
theorem li_inv {P P' : ab_P} {a q : Nat} (h : li T L P a = (some P', q)) : ∃ w, po T L 0 0 a = (some w, q) ∧ P' = (P.1 + 1, P.2.1, nd P.2.2 P.1 (cn w.1 w.2)) := by
  unfold li at h
  cases e : po T L 0 0 a with
  | mk o r =>
    rw [e] at h
    cases o with
    | none => cases h
    | some w =>
      have e1 := Option.some.inj (congrArg Prod.fst h)
      have e2 : r = q := congrArg Prod.snd h
      subst e2
      exact ⟨w, rfl, e1.symm⟩
theorem uP_li {P P' : ab_P} {a q : Nat} (h : li T L P a = (some P', q)) (hu : uP P) (hn : P.1 < 12) : uP P' ∧ P'.1 = P.1 + 1 := by
  obtain ⟨w, e, rfl⟩ := li_inv h
  obtain ⟨q1, e1, e2, e3⟩ := po_some e
  refine ⟨uP_nd hu hn (fun f hf => ?_) ⟨rfl, rfl⟩, rfl⟩
  unfold cn
  by_cases z0 : f = 0
  · rw [if_pos z0]; exact nu_v e1
  rw [if_neg z0]
  by_cases z1 : f = 1
  · rw [if_pos z1]; exact nu_v e3
  rw [if_neg z1]
  decide
theorem cv_inv {P P' : ab_P} {a q : Nat} (h : cv T L P a = (some P', q)) : ∃ w v u q1 q2, po T L (P.2.2 (8 * (P.1 - 1))) (P.2.2 (8 * (P.1 - 1) + 1)) a = (some w, q1) ∧ po T L 0 0 (q1 + 1) = (some v, q2) ∧ po T L v.1 v.2 (q2 + 1) = (some u, q) ∧ P' = cvN P w.1 w.2 v.1 v.2 u.1 u.2 := by
  unfold cv at h
  cases e : po T L (P.2.2 (8 * (P.1 - 1))) (P.2.2 (8 * (P.1 - 1) + 1)) a with
  | mk o r =>
    rw [e] at h
    cases o with
    | none => cases h
    | some w =>
      dsimp only at h
      by_cases s : hr T L r = 32
      · rw [if_pos s] at h
        cases e2 : po T L 0 0 (r + 1) with
        | mk o2 r2 =>
          rw [e2] at h
          cases o2 with
          | none => cases h
          | some v =>
            dsimp only at h
            by_cases s2 : hr T L r2 = 32
            · rw [if_pos s2] at h
              cases e3 : po T L v.1 v.2 (r2 + 1) with
              | mk o3 r3 =>
                rw [e3] at h
                cases o3 with
                | none => cases h
                | some u =>
                  have g1 := Option.some.inj (congrArg Prod.fst h)
                  have g2 : r3 = q := congrArg Prod.snd h
                  subst g2
                  exact ⟨w, v, u, r, r2, rfl, e2, e3, g1.symm⟩
            · rw [if_neg s2] at h; cases h
      · rw [if_neg s] at h; cases h
theorem uP_cv {P P' : ab_P} {a q : Nat} (h : cv T L P a = (some P', q)) (hu : uP P) (hn : P.1 < 12) (hn1 : 1 ≤ P.1) : uP P' ∧ P'.1 = P.1 + 1 := by
  obtain ⟨w, v, u, q1, q2, e1, e2, e3, rfl⟩ := cv_inv h
  obtain ⟨r1, a1, _, a2⟩ := po_some e1
  obtain ⟨r2, b1, _, b2⟩ := po_some e2
  obtain ⟨r3, c1, _, c2⟩ := po_some e3
  have u1 : uP (P.1, P.2.1, va_up P.2.2 (8 * (P.1 - 1) + 4) (w.1 - P.2.2 (8 * (P.1 - 1)))) := uP_up hu (by omega) (sub200 (nu_b a1))
  have u2 : uP (P.1, P.2.1, va_up (va_up P.2.2 (8 * (P.1 - 1) + 4) (w.1 - P.2.2 (8 * (P.1 - 1)))) (8 * (P.1 - 1) + 5) (w.2 - P.2.2 (8 * (P.1 - 1) + 1))) := uP_up u1 (by omega) (sub200 (nu_b a2))
  refine ⟨uP_nd u2 hn (fun f hf => ?_) ⟨rfl, rfl⟩, rfl⟩
  unfold cuN
  by_cases z0 : f = 0
  · rw [if_pos z0]; exact nu_v c1
  rw [if_neg z0]
  by_cases z1 : f = 1
  · rw [if_pos z1]; exact nu_v c2
  rw [if_neg z1]
  by_cases z2 : f = 2
  · rw [if_pos z2]; exact sub200' (nu_v c1) (nu_v b1) (nu_b c1)
  rw [if_neg z2]
  by_cases z3 : f = 3
  · rw [if_pos z3]; exact sub200' (nu_v c2) (nu_v b2) (nu_b c2)
  rw [if_neg z3]
  decide
theorem po_pos {a q : Nat} {fx fy : Int32} {w : Int32 × Int32} (h : po T L fx fy a = (some w, q)) : a < q := by
  obtain ⟨q1, g3, g4, g5⟩ := po_some h
  have := (nu_some g3).1
  have := (nu_some g5).1
  omega
theorem nxt_pos {P P' : ab_P} {a q : Nat} (h : nxt T L P a = (some P', q)) : a < q := by
  unfold nxt at h
  by_cases z1 : hr T L a = 76 ∧ P.1 < 12
  · rw [if_pos z1] at h
    obtain ⟨w, g1, g2⟩ := li_inv h
    have := po_pos g1
    omega
  rw [if_neg z1] at h
  by_cases z2 : hr T L a = 67 ∧ P.1 < 12
  · rw [if_pos z2] at h
    obtain ⟨w, v, u, q1, q2, e1, e2, e3, _⟩ := cv_inv h
    have := po_pos e1
    have := po_pos e2
    have := po_pos e3
    omega
  rw [if_neg z2] at h
  by_cases z3 : hr T L a = 90 ∧ 2 ≤ P.1
  · rw [if_pos z3] at h
    have : a + 1 = q := congrArg Prod.snd h
    omega
  rw [if_neg z3] at h
  cases h
theorem uP_nxt {P P' : ab_P} {a q : Nat} (h : nxt T L P a = (some P', q)) (hu : uP P) (hn1 : 1 ≤ P.1) : uP P' ∧ 1 ≤ P'.1 := by
  unfold nxt at h
  by_cases z1 : hr T L a = 76 ∧ P.1 < 12
  · rw [if_pos z1] at h
    have := uP_li h hu z1.2
    exact ⟨this.1, by omega⟩
  rw [if_neg z1] at h
  by_cases z2 : hr T L a = 67 ∧ P.1 < 12
  · rw [if_pos z2] at h
    have := uP_cv h hu z2.2 hn1
    exact ⟨this.1, by omega⟩
  rw [if_neg z2] at h
  by_cases z3 : hr T L a = 90 ∧ 2 ≤ P.1
  · rw [if_pos z3] at h
    have e1 := Option.some.inj (congrArg Prod.fst h)
    subst e1
    exact ⟨⟨hu.1, fun _ => z3.2, hu.2.2⟩, hn1⟩
  rw [if_neg z3] at h
  cases h
theorem uP_txl : ∀ (f : Nat) {P P' : ab_P} {a q : Nat}, txl T L f P a = (some P', q) → uP P → 1 ≤ P.1 → uP P' ∧ 1 ≤ P'.1
  | 0, P, P', a, q, h, hu, h1 => by
    have e1 : P = P' := Option.some.inj (congrArg Prod.fst h)
    subst e1
    exact ⟨hu, h1⟩
  | f + 1, P, P', a, q, h, hu, h1 => by
    unfold txl at h
    by_cases z : a < L
    · rw [if_pos z] at h
      by_cases zc : P.2.1 = true
      · rw [if_pos zc] at h; cases h
      · rw [if_neg zc] at h
        cases e : nxt T L P a with
        | mk o r =>
          rw [e] at h
          cases o with
          | none => cases h
          | some Q =>
            have := uP_nxt e hu h1
            exact uP_txl f h this.1 this.2
    · rw [if_neg z] at h
      have e1 : P = P' := Option.some.inj (congrArg Prod.fst h)
      subst e1
      exact ⟨hu, h1⟩
theorem uP_0 : uP ((0, false, fun _ => 0) : ab_P) := ⟨by decide, fun w => (by cases w), fun k hk => absurd hk (Nat.not_lt_zero k)⟩
theorem uP_ptx {P : ab_P} {q : Nat} (h : ptx T L = (some P, q)) : uP P ∧ 1 ≤ P.1 := by
  unfold ptx at h
  by_cases z : hr T L 0 = 77
  · rw [if_pos z] at h
    cases e : li T L (0, false, fun _ => 0) 1 with
    | mk o r =>
      rw [e] at h
      cases o with
      | none => cases h
      | some Q =>
        have := uP_li e uP_0 (by decide)
        exact uP_txl 120 h this.1 (by rw [this.2]; exact Nat.le_add_left _ _)
  · rw [if_neg z] at h; cases h
theorem txl_c {m a : Nat} {P : ab_P} (h : a < L) (hc : P.2.1 = true) : txl T L (m + 1) P a = (none, a) := by
  show (if a < L then _ else _) = _
  rw [if_pos h, if_pos hc]
theorem txl_n {m a q : Nat} {P : ab_P} (h : a < L) (hc : P.2.1 ≠ true) (e : nxt T L P a = (none, q)) : txl T L (m + 1) P a = (none, q) := by
  show (if a < L then _ else _) = _
  rw [if_pos h, if_neg hc, e]
theorem txl_s {m a q : Nat} {P P' : ab_P} (h : a < L) (hc : P.2.1 ≠ true) (e : nxt T L P a = (some P', q)) : txl T L (m + 1) P a = txl T L m P' q := by
  show (if a < L then _ else _) = _
  rw [if_pos h, if_neg hc, e]
theorem s_segm {a : Nat} {P : ab_P} {K : ax_C → Prop} (h : tL S C0 C A T L a P) (hu : uP P) (hn1 : 1 ≤ P.1) (h1 : ∀ P' q C', P.2.1 ≠ true → nxt T L P a = (some P', q) → tL S C0 C' A T L q P' → K C') (h0 : ∀ q C', (P.2.1 = true ∧ q = a ∨ P.2.1 ≠ true ∧ nxt T L P a = (none, q)) → tD S C0 C' A T L q → K C') : ax_CV l D mt_X6_takeSegment [ax_r (some A)] S C K := by
  obtain ⟨hF, ha, hf, hal, hc, hxy⟩ := id h
  have h7 := hF.1.1
  have hL := hF.1.2.2.2.2.2.1.1
  have h4 := hF.2.1.1
  have stop : (P.2.1 = true ∧ a = a ∨ P.2.1 ≠ true ∧ nxt T L P a = (none, a)) → ax_CV l D mt_X6_stopAt [ax_r (some A), ax_i (C.1 A 2)] S C K := fun w => by
    rw [ha]
    exact s_stop hF.1 hf (h0 a _ w ⟨tF_w hF (by omega), by rw [ax_wI_t rfl, n_up_t rfl], by omega⟩)
  have next : hr T L a ≠ -1 → tL S C0 (ax_wI C A 2 (C.1 A 2 + 1)) A T L (a + 1) P := fun w => by
    have hl := hr_lt rfl w
    rw [ha, n_succ]
    refine ⟨tF_w hF (by omega), by rw [ax_wI_t rfl, n_up_t rfl], by rw [ax_wI_t rfl, n_up_n (by omega)]; exact hf, hl, cP_fr hc (by rw [ax_wI_n (by omega)]) (by rw [ax_wI_n (by omega)]), fun w => ?_⟩
    rw [ax_wI_t rfl, n_up_n (by omega), n_up_n (by omega)]
    exact hxy w
  have e1 : C.1 (A + 2) 1 = nI P.1 := hc.2.1
  have e2 : C.1 (A + 2) 2 = bI P.2.1 := hc.2.2.1
  refine vc_X6_takeSegment h7 fun P22 P71 P98 P136 h22 h71 h98 h136 => s_nb hF.1 ha (by omega) ⟨h7, ?_⟩
  rw [hF.2.2.1]
  have b136 : ((P.2.1 = true ∧ a = a) ∨ P.2.1 ≠ true ∧ nxt T L P a = (none, a)) → P136 C := fun w => h136 _ ⟨h7, stop w⟩
  by_cases zc : P.2.1 = true
  · have b22 : ∀ t, P22 (hr T L a) t C := by
      intro t
      refine h22 _ _ _ ⟨h7, ?_⟩
      rw [hF.2.2.1]
      refine ⟨h4, fun q => ?_, fun _ => ⟨h7, stop (Or.inl ⟨zc, rfl⟩)⟩⟩
      rw [e2, zc] at q
      exact absurd q (by decide)
    exact ⟨h4, fun _ => b22 _, fun _ => b22 _⟩
  have b98 : ¬ (hr T L a = 76 ∧ P.1 < 12) → ¬ (hr T L a = 67 ∧ P.1 < 12) → P98 (hr T L a) C := by
    intro z1 z2
    refine h98 _ _ ⟨fun q => b136 (Or.inr ⟨zc, ?_⟩), fun q => ⟨h7, ?_⟩⟩
    · unfold nxt
      rw [if_neg z1, if_neg z2, if_neg (fun w => q w.1)]
    · rw [hF.2.2.1]
      refine ⟨h4, fun q2 => b136 (Or.inr ⟨zc, ?_⟩), fun q2 => ⟨h7, h7, h7, ?_⟩⟩
      · unfold nxt
        rw [if_neg z1, if_neg z2, if_neg (fun w => ?_)]
        rw [e1] at q2
        exact nI_nlt (b := 2) w.2 (by have := hu.1; omega) q2
      · have hn2 : 2 ≤ P.1 := by
          rcases Nat.lt_or_ge P.1 2 with w | w
          · rw [e1] at q2
            exact absurd (nI_lt (b := 2) w (by omega)) q2
          · exact w
        have nx := next (by rw [q]; decide)
        rw [nx.1.2.2.1]
        refine ⟨Or.inr rfl, h4, h1 (P.1, true, P.2.2) (a + 1) _ zc ?_ ?_⟩
        · unfold nxt
          rw [if_neg z1, if_neg z2, if_pos ⟨q, hn2⟩]
        · obtain ⟨nF, n2, n3, n4, n5, n6⟩ := nx
          refine ⟨?_, ?_, ?_, n4, ⟨n5.1, ?_, ?_, ?_⟩, fun w => ?_⟩
          · have := tF_p (g := (ax_wI C A 2 (C.1 A 2 + 1)).1 (A + 2 + 1)) (c := 1) nF n5.1
            have e := pW_wI2 (ax_wI C A 2 (C.1 A 2 + 1)) (A + 2) ((ax_wI C A 2 (C.1 A 2 + 1)).1 (A + 2 + 1)) ((ax_wI C A 2 (C.1 A 2 + 1)).1 (A + 2) 1) ((ax_wI C A 2 (C.1 A 2 + 1)).1 (A + 2) 2) 1
            rw [pW_self] at e
            rw [← n5.2.1, ← e] at this
            exact this
          · rw [ax_wI_n (by omega)]; exact n2
          · rw [ax_wI_n (by omega)]; exact n3
          · rw [ax_wI_t rfl, n_up_n (by omega)]; exact n5.2.1
          · rw [ax_wI_t rfl, n_up_t rfl]; rfl
          · rw [ax_wI_n (by omega)]; exact n5.2.2.2
          · rw [ax_wI_n (by omega)]; exact n6 w
  have b71 : ∀ t, (t = 0 ↔ P.1 < 12) → ¬ (hr T L a = 76 ∧ P.1 < 12) → P71 (hr T L a) t C := by
    intro t ht z1
    refine h71 _ _ _ ⟨fun q => b98 z1 (fun w => q w.1), fun q => ⟨fun q2 => b98 z1 (fun w => q2 (ht.mpr w.2)), fun q2 => ⟨h7, h7, ?_⟩⟩⟩
    refine s_curve (next (by rw [q]; decide)) hu (ht.mp q2) hn1 (fun P' r C' w => h1 P' r C' zc ?_) (fun r C' w => h0 r C' (Or.inr ⟨zc, ?_⟩))
    · unfold nxt
      rw [if_neg z1, if_pos ⟨q, ht.mp q2⟩]
      exact w
    · unfold nxt
      rw [if_neg z1, if_pos ⟨q, ht.mp q2⟩]
      exact w
  have b22 : ∀ t, (t = 0 ↔ P.1 < 12) → P22 (hr T L a) t C := by
    intro t ht
    refine h22 _ _ _ ⟨h7, ?_⟩
    rw [hF.2.2.1]
    refine ⟨h4, fun _ => ⟨fun q => b71 t ht (fun w => q w.1), fun q => ⟨fun q2 => b71 t ht (fun w => q2 (ht.mpr w.2)), fun q2 => ⟨h7, h7, ?_⟩⟩⟩, fun q => ?_⟩
    · refine s_line (next (by rw [q]; decide)) (ht.mp q2) (fun P' r C' w => h1 P' r C' zc ?_) (fun r C' w => h0 r C' (Or.inr ⟨zc, ?_⟩))
      · unfold nxt
        rw [if_pos ⟨q, ht.mp q2⟩]
        exact w
      · unfold nxt
        rw [if_pos ⟨q, ht.mp q2⟩]
        exact w
    · rw [e2, show P.2.1 = false by simpa using zc] at q
      exact absurd rfl q
  refine ⟨h4, fun q => b22 0 ?_, fun q => b22 1 ?_⟩
  · rw [e1] at q
    refine ⟨fun _ => ?_, fun _ => rfl⟩
    rcases Nat.lt_or_ge P.1 12 with w | w
    · exact w
    · exact absurd q (nI_nlt (b := 12) w (by have := hu.1; omega))
  · rw [e1] at q
    refine ⟨fun w => absurd w (by decide), fun w => absurd (nI_lt (b := 12) w (by omega)) q⟩
theorem s_parse {K : ax_C → Prop} (h : tx0 S C A T L) (hp : pA S C (A + 2)) (hr4 : C.2.2 A 4 = some (A + 2)) (h1 : ∀ P C', ptx T L = (some P, L) → uP P → tL S C C' A T L L P → K C') (h0 : ∀ q C', ptx T L = (none, q) → tD S C C' A T L q → K C') : ax_CV l D mt_X6_parse [ax_r (some A)] S C K := by
  have h7 := h.1
  have hL := h.2.2.2.2.2.1.1
  refine vc_X6_parse h7 fun P30 h30 => ⟨h7, h7, h7, ?_⟩
  show ax_CV l D mt_X3_makeEmpty [ax_r (C.2.2 A 4)] S _ _
  rw [hr4]
  refine (c_makeEmpty hp.1).use ?_
  generalize hC1 : ax_wI (ax_wI C A 2 0) A 3 (-100000007) = C1
  have t1 : tx0 S C1 A T L := by rw [← hC1]; exact tx0_w (tx0_w h (by omega)) (by omega)
  have n1 : ∀ b, b ≠ A → C1.1 b = C.1 b := fun b hb => by rw [← hC1, ax_wI_n hb, ax_wI_n hb]
  have r1 : C1.2.2 = C.2.2 := by rw [← hC1]; rfl
  generalize hC2 : pW C1 (A + 2) (C1.1 (A + 2 + 1)) 0 0 = C2
  have n2 : ∀ b, b ≠ A + 2 → b ≠ A + 2 + 1 → C2.1 b = C1.1 b := fun b b1 b2 => by rw [← hC2]; exact pW_n b1 b2
  have L2 : tL S C C2 A T L 0 (0, false, fun _ => 0) := by
    obtain ⟨a1, a2, a3, a4, a5, a6, a7⟩ := t1
    refine ⟨⟨⟨a1, a2, a3, ?_, ?_, a6, ?_⟩, ?_, ?_, ⟨0, by omega, ?_⟩, ?_, fun b b1 b2 b3 => ?_⟩, ?_, ?_, Nat.zero_le _, ⟨by decide, ?_, ?_, fun q hq => absurd hq (Nat.not_lt_zero q)⟩, fun w => absurd w (by decide)⟩
    · rw [← hC2]; exact a4
    · rw [n2 A (by omega) (by omega)]; exact a5
    · rw [n2 (A + 1) (by omega) (by omega)]; exact a7
    · rw [← hC2]; exact pA_2 hp (by show C1.2.2 (A + 2) = _; rw [r1])
    · rw [← hC2]; show C1.2.2 A 4 = _; rw [r1]; exact hr4
    · rw [← hC2]; exact pW_s _ _ _ _ _
    · rw [← hC2]; exact r1
    · rw [n2 b b2 b3, n1 b b1]
    · rw [n2 A (by omega) (by omega), ← hC1, ax_wI_t rfl, n_up_n (by omega), ax_wI_t rfl, n_up_t rfl]; rfl
    · rw [n2 A (by omega) (by omega), ← hC1, ax_wI_t rfl, n_up_t rfl]; rfl
    · rw [← hC2]; exact pW_s _ _ _ _ _
    · rw [← hC2]; exact pW_c _ _ _ _ _
  obtain ⟨F2, p2, f2, l2, c2, _⟩ := id L2
  have dead : ∀ q (C' : ax_C), ptx T L = (none, q) → tD S C C' A T L q → ∀ x, P30 x C' := by
    intro q C' hq hd x
    refine h30 _ _ ⟨fun _ => h0 q C' hq hd, fun _ => ⟨h7, fun _ => h0 q C' hq hd, fun w => absurd w (tD_n hd)⟩⟩
  refine L_tb F2 p2 (by omega) f2 (c := 77) rfl (fun s => ?_) fun s C' d => D_line d fun C3 d3 => dead 0 C3 ?_ d3 0
  · have s : hr T L 0 = 77 := s
    have hl := hr_lt s (by decide)
    have L3 : tL S C (ax_wI C2 A 2 (nI (0 + 1))) A T L 1 (0, false, fun _ => 0) := ⟨tF_w F2 (by omega), by rw [ax_wI_t rfl, n_up_t rfl], by rw [ax_wI_t rfl, n_up_n (by omega)]; exact f2, hl, cP_fr c2 (by rw [ax_wI_n (by omega)]) (by rw [ax_wI_n (by omega)]), fun w => absurd w (by decide)⟩
    refine s_line L3 (by decide) (fun P q C' e hl => ?_) fun q C' e hd => dead q C' ?_ hd 0
    · have u := uP_li e uP_0 (by decide)
      have u1 : 1 ≤ P.1 := by rw [u.2]; exact Nat.le_add_left _ _
      have ep : ptx T L = txl T L 120 P q := by
        unfold ptx
        rw [if_pos s, e]
      have qpos : 1 < q := by
        obtain ⟨w, g1, g2⟩ := li_inv e
        obtain ⟨q1, g3, g4, g5⟩ := po_some g1
        have := (nu_some g3).1
        have := (nu_some g5).1
        omega
      have loop : ∀ (m k : Nat) (P : ab_P) (q : Nat) (C' : ax_C), k + m = 120 → ptx T L = txl T L m P q → uP P → 1 ≤ P.1 → L ≤ q + m → tL S C C' A T L q P → P30 (nI k) C' := by
        intro m
        induction m with
        | zero =>
          intro k P q C' hk he hu hu1 hq hl
          have hqL : q = L := by have := hl.2.2.2.1; omega
          subst hqL
          exact h30 _ _ ⟨fun _ => h1 P C' he hu hl, fun w => absurd (nI_le (a := 120) (show 120 ≤ k by omega) (by omega)) w⟩
        | succ m ih =>
          intro k P q C' hk he hu hu1 hq hl
          refine h30 _ _ ⟨fun w => n_absurd w (nI_ge (b := 120) (by omega) (by omega)), fun _ => ⟨h7, fun w => absurd hl.2.2.1 w, fun _ => ⟨h7, h7, fun w => ?_, fun w => ?_⟩⟩⟩
          · rw [hl.2.1, hl.1.1.2.2.2.2.1] at w
            have hqL : q = L := by
              have := hl.2.2.2.1
              rcases Nat.lt_or_ge q L with v | v
              · exact n_absurd w (nI_ge v (by omega))
              · omega
            subst hqL
            refine h1 P C' ?_ hu hl
            rw [he]
            show (if q < q then _ else _) = _
            rw [if_neg (Nat.lt_irrefl q)]
          · rw [hl.2.1, hl.1.1.2.2.2.2.1] at w
            have hqL : q < L := by
              rcases Nat.lt_or_ge q L with v | v
              · exact v
              · exact absurd (nI_le v (by have := hl.2.2.2.1; omega)) w
            rw [n_succ]
            refine s_segm hl hu hu1 (fun P' r C2 zc e hl2 => ?_) fun r C2 w hd => dead r C2 ?_ hd _
            · have u2 := uP_nxt e hu hu1
              rw [txl_s hqL zc e] at he
              refine ih (k + 1) P' r C2 (by omega) he u2.1 u2.2 ?_ hl2
              have := nxt_pos e
              omega
            · rcases w with ⟨zc, rfl⟩ | ⟨zc, e⟩
              · rw [txl_c hqL zc] at he; exact he
              · rw [txl_n hqL zc e] at he; exact he
      exact loop 120 0 P q C' rfl ep u.1 u1 (by omega) hl
    · unfold ptx
      rw [if_pos s, e]
  · have s : ¬ hr T L 0 = 77 := s
    unfold ptx
    rw [if_neg s]
end
