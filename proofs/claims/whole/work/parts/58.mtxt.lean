/-! ===== the reference's text: bytes, numbers, positions ===== -/
section
variable {l : Launch} {D : ax_D} {S : ax_S} {C0 C : ax_C} {M L : Nat} {T : Nat → Int32}
/-- the reference's text and the told row -/
def tx1 (S : ax_S) (C : ax_C) (M : Nat) (T : Nat → Int32) (L : Nat) : Prop := S.1 M = 9 ∧ S.1 (M + 7) = 11 ∧ S.2.1 (M + 7) = 120 ∧ C.2.2 M 8 = some (M + 7) ∧ C.1 M 9 = nI L ∧ byt T L ∧ (∀ q, q < L → C.1 (M + 7) q = T q) ∧ S.1 (M + 11) = 11 ∧ S.2.1 (M + 11) = 96 ∧ C.2.2 M 16 = some (M + 11)
/-- what reading numbers may change -/
def wF (C C' : ax_C) (M a : Nat) : Prop := ∃ f, C' = ax_rI C M f ∧ f 15 = nI a ∧ ∀ k, k ≠ 15 → k ≠ 19 → k ≠ 20 → k ≠ 21 → f k = C.1 M k
theorem tx1_w {C' : ax_C} {a : Nat} (h : tx1 S C M T L) (hw : wF C C' M a) : tx1 S C' M T L := by
  obtain ⟨h1, h2, h3, h4, h5, h6, h7, h8, h9, h10⟩ := h
  obtain ⟨f, rfl, g1, g2⟩ := hw
  refine ⟨h1, h2, h3, h4, ?_, h6, ?_, h8, h9, h10⟩
  · rw [ax_rI_t rfl, g2 9 (by omega) (by omega) (by omega) (by omega)]; exact h5
  · rw [ax_rI_n (by omega)]; exact h7
theorem wF_15 {C' : ax_C} {a : Nat} (hw : wF C C' M a) : C'.1 M 15 = nI a := by
  obtain ⟨f, rfl, g1, g2⟩ := hw
  rw [ax_rI_t rfl]; exact g1
theorem wF_k {C' : ax_C} {a k : Nat} (hw : wF C C' M a) (h1 : k ≠ 15) (h2 : k ≠ 19) (h3 : k ≠ 20) (h4 : k ≠ 21) : C'.1 M k = C.1 M k := by
  obtain ⟨f, rfl, g1, g2⟩ := hw
  rw [ax_rI_t rfl]; exact g2 k h1 h2 h3 h4
theorem wF_n {C' : ax_C} {a b : Nat} (hw : wF C C' M a) (h : b ≠ M) : C'.1 b = C.1 b := by
  obtain ⟨f, rfl, g1, g2⟩ := hw
  exact ax_rI_n h
theorem wF_2 {C' : ax_C} {a : Nat} (hw : wF C C' M a) : C'.2 = C.2 := by
  obtain ⟨f, rfl, g1, g2⟩ := hw
  rfl
theorem wF_0 {a : Nat} (h : C.1 M 15 = nI a) : wF C C M a := ⟨C.1 M, (ax_rI_id C M).symm, h, fun _ _ _ _ _ => rfl⟩
theorem wF_w {C' : ax_C} {a b : Nat} (hw : wF C C' M a) : wF C (ax_wI C' M 15 (nI b)) M b := by
  obtain ⟨f, rfl, g1, g2⟩ := hw
  exact ⟨va_up f 15 (nI b), by rw [ax_wI_rI, ax_rI_rI, ax_rI_t rfl], n_up_t rfl, fun k h1 h2 h3 h4 => by rw [n_up_n h1]; exact g2 k h1 h2 h3 h4⟩
theorem wF_u {C' : ax_C} {a k : Nat} {x : Int32} (hw : wF C C' M a) (hk : k = 19 ∨ k = 20 ∨ k = 21) : wF C (ax_wI C' M k x) M a := by
  obtain ⟨f, rfl, g1, g2⟩ := hw
  exact ⟨va_up f k x, by rw [ax_wI_rI, ax_rI_rI, ax_rI_t rfl], by rw [n_up_n (by omega)]; exact g1, fun j h1 h2 h3 h4 => by rw [n_up_n (by omega)]; exact g2 j h1 h2 h3 h4⟩
theorem wF_t {C' C'' : ax_C} {a b : Nat} (h1 : wF C C' M a) (h2 : wF C' C'' M b) : wF C C'' M b := by
  obtain ⟨f, rfl, g1, g2⟩ := h1
  obtain ⟨g, rfl, k1, k2⟩ := h2
  refine ⟨g, by rw [ax_rI_rI], k1, fun k a1 a2 a3 a4 => ?_⟩
  rw [k2 k a1 a2 a3 a4, ax_rI_t rfl]
  exact g2 k a1 a2 a3 a4
theorem r_here {a : Nat} {P : Int32 → ax_C → Prop} (h : tx1 S C M T L) (ha : C.1 M 15 = nI a) (hal : a < 1000) (hP : P (hr T L a) C) : ax_CI l D mt_X8_here [ax_r (some M)] S C P := by
  obtain ⟨h1, h2, h3, h4, h5, h6, h7, h8⟩ := h
  have hL := h6.1
  refine vc_X8_here h1 ⟨h1, h1, ?_⟩
  rw [ha, h5, h4]
  unfold hr at hP
  refine ⟨fun q => ?_, fun q => ⟨h1, h1, h2, ?_⟩⟩
  · rw [if_neg (fun w => nI_ge w (by omega) q)] at hP
    exact hP
  · have : a < L := by
      rcases Nat.lt_or_ge a L with w | w
      · exact w
      · exact absurd (nI_le w (by omega)) q
    rw [if_pos this] at hP
    rw [h3, n_clamp (by omega), h7 a this]
    exact ⟨vp_in_nI (by omega) (by omega), hP⟩
theorem wI_self (C : ax_C) (M k : Nat) : ax_wI C M k (C.1 M k) = C := by
  rw [ax_wI_rI]
  have : va_up (C.1 M) k (C.1 M k) = C.1 M := by
    funext j
    by_cases z : j = k
    · rw [n_up_t z, z]
    · rw [n_up_n z]
  rw [this, ax_rI_id]
theorem r_takes {a c : Nat} {x : Int32} {P : Int32 → ax_C → Prop} (h : tx1 S C M T L) (ha : C.1 M 15 = nI a) (hal : a < 900) (hx : x = nI c) (h1 : hr T L a = nI c → P 1 (ax_wI C M 15 (nI (a + 1)))) (h0 : hr T L a ≠ nI c → P 0 C) : ax_CI l D mt_X8_takes [ax_r (some M), ax_i x] S C P := by
  subst hx
  refine vc_X8_takes h.1 fun P13 P28 h13 h28 => r_here h ha (by omega) ⟨fun q => h13 _ _ ⟨h.1, fun _ => h28 _ _ _ _ ⟨h.1, Or.inl rfl, ?_⟩, fun w => absurd rfl w⟩, fun q => h13 _ _ ⟨h.1, fun w => absurd w (by decide), fun _ => h28 _ _ _ _ ⟨h.1, Or.inr rfl, ?_⟩⟩⟩
  · rw [Int32.add_zero, wI_self]
    exact h0 q
  · rw [ha, n_succ]
    exact h1 q
theorem r_isDigit {a : Nat} {P : Int32 → ax_C → Prop} (h : tx1 S C M T L) (ha : C.1 M 15 = nI a) (hal : a < 1000) (hP : P (bI (isd (hr T L a))) C) : ax_CI l D mt_X8_isDigit [ax_r (some M)] S C P := by
  refine vc_X8_isDigit h.1 (r_here h ha hal (c8_in.use ⟨?_, ?_⟩))
  · cases bt (hr T L a) 48 57
    · exact Or.inl rfl
    · exact Or.inr rfl
  · exact hP
/-- a number's value while it is read: from 100,000 on it stands -/
def cap (v w : Nat) : Prop := w < 2000000 ∧ (w = v ∨ (100000 ≤ w ∧ 100000 ≤ v))
theorem r_number {a : Nat} {fr : Int32} {P : Int32 → ax_C → Prop} (h : tx1 S C M T L) (ha : C.1 M 15 = nI a) (hal : a ≤ 400) (hx : -200 ≤ fr.toInt ∧ fr.toInt ≤ 200) (h1 : ∀ v q C', nu T L fr a = (some v, q) → wF C C' M q → C'.1 M 19 = v → C'.1 M 20 = C.1 M 20 → P 1 C') (h0 : ∀ q C', nu T L fr a = (none, q) → wF C C' M q → P 0 C') : ax_CI l D mt_X8_number [ax_r (some M), ax_i fr] S C P := by
  have h9 := h.1
  have hL := h.2.2.2.2.2.1.1
  refine vc_X8_number h9 fun P34 P59 P91 P106 P119 P148 h34 h59 h91 h106 h119 h148 => ⟨h9, ?_⟩
  rw [ha]
  have st : ∀ b, wF C (ax_wI C M 15 (nI b)) M b := fun b => wF_w (wF_0 ha)
  have s15 : ∀ b, (ax_wI C M 15 (nI b)).1 M 15 = nI b := fun b => by rw [ax_wI_t rfl, n_up_t rfl]
  have eC : C = ax_wI C M 15 (nI a) := by rw [← ha, wI_self]
  -- the end: a value w for the number v, behind it the place q
  have fin : ∀ (mi : Bool) (v w q : Nat), cap v w → (200 < v ∨ bt ((if mi = true then -(nI v) else nI v) - fr) (-200) 200 = false → nu T L fr a = (none, a)) → (¬ (200 < v ∨ bt ((if mi = true then -(nI v) else nI v) - fr) (-200) 200 = false) → nu T L fr a = (some (if mi = true then -(nI v) else nI v), q)) → P106 (nI a) (bI mi) (nI w) (ax_wI C M 15 (nI q)) := by
    intro mi v w q hc hbad hgood
    have b119 : ∀ t, t = (if mi = true then -(nI w) else nI w) → P119 (nI a) (nI w) t (ax_wI C M 15 (nI q)) := by
      intro t ht
      have bad : (200 < v ∨ bt ((if mi = true then -(nI v) else nI v) - fr) (-200) 200 = false) → ∀ t, P148 (nI a) (ax_wI (ax_wI C M 15 (nI q)) M 19 t) := fun w2 t => h148 _ _ ⟨h9, h0 a _ (hbad w2) (wF_w (wF_u (st q) (Or.inl rfl)))⟩
      refine h119 _ _ _ _ ⟨h9, fun q2 => bad (Or.inl ?_) _, fun q2 => ⟨h9, c8_in.use ?_⟩⟩
      · have : 200 < w := by
          rcases Nat.lt_or_ge 200 w with u | u
          · exact u
          · exact absurd q2 (nI_nlt (a := 200) u (by omega))
        have := hc.2
        omega
      · have hw : ¬ 200 < w := fun u => q2 (nI_lt (a := 200) u (by have := hc.1; omega))
        have hwv : w = v := by have := hc.2; omega
        subst hwv
        rw [ax_wI_t rfl, n_up_t rfl, ht]
        cases hb : bt ((if mi = true then -(nI w) else nI w) - fr) (-200) 200
        · exact ⟨fun u => absurd rfl u, fun _ => bad (Or.inr hb) _⟩
        · refine ⟨fun _ => h1 _ q _ (hgood ?_) (wF_u (st q) (Or.inl rfl)) (by rw [ax_wI_t rfl, n_up_t rfl]) (by rw [ax_wI_t rfl, n_up_n (by omega), ax_wI_t rfl, n_up_n (by omega)]), fun u => absurd u (by decide)⟩
          rintro (u | u)
          · exact hw u
          · rw [hb] at u; cases u
    cases mi
    · exact h106 _ _ _ _ ⟨fun _ => b119 _ (by rw [if_neg (by decide)]), fun u => absurd rfl u⟩
    · exact h106 _ _ _ _ ⟨fun u => absurd u (by decide), fun _ => b119 _ (by rw [if_pos rfl])⟩
  -- the digits
  have digits : ∀ (mi : Bool) (K : Nat → Nat → Prop), (∀ v w q, K v q → cap v w → P106 (nI a) (bI mi) (nI w) (ax_wI C M 15 (nI q))) → ∀ (m b v w : Nat), b < 500 → L ≤ b + m → cap v w → K (dg T L m b v).1 (dg T L m b v).2 → P59 (nI a) (bI mi) (nI w) (ax_wI C M 15 (nI b)) := by
    intro mi K hK m
    induction m with
    | zero =>
      intro b v w hb hm hc hk
      refine h59 _ _ _ _ (r_isDigit (tx1_w h (st b)) (s15 b) (by omega) ?_)
      have hd : isd (hr T L b) = false := by
        unfold hr
        rw [if_neg (by omega)]
        decide
      rw [hd]
      exact ⟨fun _ => hK v w b hk hc, fun u => absurd rfl u⟩
    | succ m ih =>
      intro b v w hb hm hc hk
      refine h59 _ _ _ _ (r_isDigit (tx1_w h (st b)) (s15 b) (by omega) ?_)
      cases hd : isd (hr T L b)
      · have e : dg T L (m + 1) b v = (v, b) := by
          show (if isd (hr T L b) = true then _ else _) = _
          rw [if_neg (by rw [hd]; decide)]
        rw [e] at hk
        exact ⟨fun _ => hK v w b hk hc, fun u => absurd rfl u⟩
      · have e : dg T L (m + 1) b v = dg T L m (b + 1) (10 * v + ((hr T L b).toInt.toNat - 48)) := by
          show (if isd (hr T L b) = true then _ else _) = _
          rw [if_pos hd]
        rw [e] at hk
        have hbl := isd_lt hd
        obtain ⟨d, d1, d2, d3⟩ := isd_v hd
        rw [d3] at hk
        have nextP : ∀ w', cap (10 * v + d) w' → P91 (nI a) (bI mi) (nI w') (ax_wI C M 15 (nI b)) := by
          intro w' hc'
          refine h91 _ _ _ _ ⟨h9, h9, ?_⟩
          rw [s15, n_succ, wI_2]
          exact ih (b + 1) _ w' (by omega) (by omega) hc' hk
        refine ⟨fun u => absurd u (by decide), fun _ => ⟨fun u => ?_, fun u => r_here (tx1_w h (st b)) (s15 b) (by omega) ?_⟩⟩
        · have hw : 100000 ≤ w := by
            rcases Nat.lt_or_ge w 100000 with x | x
            · exact n_absurd u (nI_ge (b := 100000) x (by omega))
            · exact x
          exact nextP w ⟨hc.1, Or.inr ⟨hw, by have := hc.2; omega⟩⟩
        · have hw : w < 100000 := by
            rcases Nat.lt_or_ge w 100000 with x | x
            · exact x
            · exact absurd (nI_le (a := 100000) x (by have := hc.1; omega)) u
          have hwv : w = v := by have := hc.2; omega
          rw [d2, n_lit10, n_mul, n_add, n_lit48, n_sub (by omega), show 10 * w + (48 + d) - 48 = 10 * w + d by omega]
          exact nextP _ ⟨by omega, Or.inl (by rw [hwv])⟩
  -- behind the sign
  have first : ∀ (mi : Bool) (b : Nat), b < 450 → isd (hr T L b) = true → (200 < (nuV T L b).1 ∨ bt ((if mi = true then -(nI (nuV T L b).1) else nI (nuV T L b).1) - fr) (-200) 200 = false → nu T L fr a = (none, a)) → (¬ (200 < (nuV T L b).1 ∨ bt ((if mi = true then -(nI (nuV T L b).1) else nI (nuV T L b).1) - fr) (-200) 200 = false) → nu T L fr a = (some (if mi = true then -(nI (nuV T L b).1) else nI (nuV T L b).1), (nuV T L b).2)) → P34 (nI a) (bI mi) (ax_wI C M 15 (nI b)) := by
    intro mi b hb hd hbad hgood
    refine h34 _ _ _ (r_here (tx1_w h (st b)) (s15 b) (by omega) ⟨fun z => ?_, fun z => ⟨h9, h9, ?_⟩⟩)
    · have e : nuV T L b = dg T L 120 b 0 := by unfold nuV; rw [if_neg z]
      rw [e] at hbad hgood
      refine digits mi (fun v q => (200 < v ∨ bt ((if mi = true then -(nI v) else nI v) - fr) (-200) 200 = false → nu T L fr a = (none, a)) ∧ (¬ (200 < v ∨ bt ((if mi = true then -(nI v) else nI v) - fr) (-200) 200 = false) → nu T L fr a = (some (if mi = true then -(nI v) else nI v), q))) (fun v w q hk hc => fin mi v w q hc hk.1 hk.2) 120 b 0 0 (by omega) (by omega) ⟨by omega, Or.inl rfl⟩ ⟨hbad, hgood⟩
    · have e : nuV T L b = (0, b + 1) := by unfold nuV; rw [if_pos z]
      rw [e] at hbad hgood
      rw [s15, n_succ, wI_2]
      exact fin mi 0 0 (b + 1) ⟨by omega, Or.inl rfl⟩ hbad hgood
  refine r_takes h ha (by omega) (c := 45) rfl (fun q => ?_) fun q => ?_
  · have q : hr T L a = 45 := q
    refine r_isDigit (tx1_w h (st _)) (s15 _) (by omega) ?_
    cases hd : isd (hr T L (a + 1))
    · refine ⟨fun _ => h0 (a + 1) _ ?_ (st _), fun u => absurd rfl u⟩
      unfold nu
      rw [if_pos q, if_pos (Or.inl hd)]
    · refine ⟨fun u => absurd u (by decide), fun _ => ⟨fun u => absurd u (by decide), fun _ => r_here (tx1_w h (st _)) (s15 _) (by omega) ⟨fun z => ?_, fun z => h0 (a + 1) _ ?_ (st _)⟩⟩⟩
      · have hn : ¬ (isd (hr T L (a + 1)) = false ∨ hr T L (a + 1) = 48) := by
          rintro (u | u)
          · rw [hd] at u; cases u
          · exact z u
        refine first true (a + 1) (by omega) hd (fun w2 => ?_) fun w2 => ?_
        · unfold nu
          rw [if_pos rfl] at w2
          rw [if_pos q, if_neg hn, if_pos w2]
        · unfold nu
          rw [if_pos rfl] at w2 ⊢
          rw [if_pos q, if_neg hn, if_neg w2]
      · unfold nu
        rw [if_pos q, if_pos (Or.inr z)]
  · have q : ¬ hr T L a = 45 := q
    refine r_isDigit h ha (by omega) ?_
    cases hd : isd (hr T L a)
    · refine ⟨fun _ => h0 a _ ?_ (wF_0 ha), fun u => absurd rfl u⟩
      unfold nu
      rw [if_neg q, if_pos hd]
    · refine ⟨fun u => absurd u (by decide), fun _ => ⟨fun _ => ?_, fun u => absurd rfl u⟩⟩
      rw [eC]
      have hn : ¬ isd (hr T L a) = false := by rw [hd]; decide
      refine first false a (by omega) hd (fun w2 => ?_) fun w2 => ?_
      · unfold nu
        rw [if_neg (show ¬ ((false : Bool) = true) by decide)] at w2
        rw [if_neg q, if_neg hn, if_pos w2]
      · unfold nu
        rw [if_neg (show ¬ ((false : Bool) = true) by decide)] at w2 ⊢
        rw [if_neg q, if_neg hn, if_neg w2]
theorem r_position {a : Nat} {fx fy : Int32} {P : Int32 → ax_C → Prop} (h : tx1 S C M T L) (ha : C.1 M 15 = nI a) (hal : a ≤ 200) (hx : -200 ≤ fx.toInt ∧ fx.toInt ≤ 200) (hy : -200 ≤ fy.toInt ∧ fy.toInt ≤ 200) (h1 : ∀ w q C', po T L fx fy a = (some w, q) → wF C C' M q → C'.1 M 20 = w.1 → C'.1 M 21 = w.2 → P 1 C') (h0 : ∀ q C', po T L fx fy a = (none, q) → wF C C' M q → P 0 C') : ax_CI l D mt_X8_position [ax_r (some M), ax_i fx, ax_i fy] S C P := by
  have h9 := h.1
  have hL := h.2.2.2.2.2.1.1
  refine vc_X8_position h9 (r_number h ha (by omega) hx (fun x q C1 e1 w1 g1 _ => ⟨fun _ => ⟨h9, h9, ?_⟩, fun u => absurd u (by decide)⟩) fun q C1 e1 w1 => ⟨fun u => absurd rfl u, fun _ => h0 q C1 (po_1 e1) w1⟩)
  rw [g1]
  have b2 := (nu_some e1).2.1
  have w2 := wF_u (x := x) w1 (Or.inr (Or.inl rfl))
  have t2 := tx1_w h w2
  refine r_takes t2 (wF_15 w2) (by omega) (c := 32) rfl (fun s => ⟨fun u => absurd u (by decide), fun _ => ?_⟩) fun s => ⟨fun _ => h0 q _ (po_2 e1 s) w2, fun u => absurd rfl u⟩
  have s : hr T L q = 32 := s
  have w3 := wF_w (b := q + 1) w2
  have hl := hr_lt s (by decide)
  refine r_number (tx1_w h w3) (wF_15 w3) (by omega) hy (fun y r C2 e2 w4 g2 g3 => ⟨fun _ => ⟨h9, h9, ?_⟩, fun u => absurd u (by decide)⟩) fun r C2 e2 w4 => ⟨fun u => absurd rfl u, fun _ => h0 r C2 (po_3 e1 s e2) (wF_t w3 w4)⟩
  rw [g2]
  refine h1 (x, y) r _ (po_s e1 s e2) (wF_u (wF_t w3 w4) (Or.inr (Or.inr rfl))) ?_ ?_
  · rw [ax_wI_t rfl, n_up_n (by omega), g3, ax_wI_t rfl, n_up_n (by omega), ax_wI_t rfl, n_up_t rfl]
  · rw [ax_wI_t rfl, n_up_t rfl]
end
