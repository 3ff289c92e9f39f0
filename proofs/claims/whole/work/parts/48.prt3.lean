/-! ===== the reference's print ===== -/
theorem dv_iff (x : Int32) : dv x ↔ x.toInt % 46656 = 0 := by
  have e : (46656 : Int32).toInt = 46656 := rfl
  have e0 : (0 : Int32).toInt = 0 := rfl
  have b1 := Int32.le_toInt x
  have b2 := Int32.toInt_lt x
  have hq : ∃ q : Int, (x / 46656).toInt = q ∧ ((0 ≤ x.toInt ∧ q = x.toInt / 46656) ∨ (x.toInt < 0 ∧ q = -((-x.toInt) / 46656))) := by
    refine ⟨_, rfl, ?_⟩
    rw [Int32.toInt_div, e]
    rcases Int.lt_or_le x.toInt 0 with q | q
    · refine Or.inr ⟨q, ?_⟩
      rw [show x.toInt.tdiv 46656 = -((-x.toInt).tdiv 46656) by rw [Int.neg_tdiv]; omega, Int.tdiv_eq_ediv_of_nonneg (by omega), Int.bmod_eq_of_le (by omega) (by omega)]
    · refine Or.inl ⟨q, ?_⟩
      rw [Int.tdiv_eq_ediv_of_nonneg q, Int.bmod_eq_of_le (by omega) (by omega)]
  obtain ⟨q, hq1, hq2⟩ := hq
  have hm : (x / 46656 * 46656).toInt = q * 46656 := by
    rw [Int32.toInt_mul, hq1, e, Int.bmod_eq_of_le (by omega) (by omega)]
  have hs : (x - x / 46656 * 46656).toInt = x.toInt - q * 46656 := by
    rw [Int32.toInt_sub, hm, Int.bmod_eq_of_le (by omega) (by omega)]
  unfold dv
  rw [← Int32.toInt_inj, hs, e0]
  omega
theorem dv_add {x y : Int32} (hx : -9331200 ≤ x.toInt ∧ x.toInt ≤ 9331200) (hy : -9331200 ≤ y.toInt ∧ y.toInt ≤ 9331200) (h : dv x) : dv (x + y) ↔ dv y := by
  rw [dv_iff] at h
  rw [dv_iff, dv_iff, Int32.toInt_add, Int.bmod_eq_of_le (by omega) (by omega)]
  omega
theorem dv_0 : dv 0 := by
  unfold dv
  decide
def dP (row : Nat → Int32) (n k w : Nat) : Prop := dv (ct row n k w 0) ∧ dv (ct row n k w 1)
def sW (row : Nat → Int32) (n k : Nat) : Prop := if sz row n k = true then dP row n k 3 else dP row n k 1 ∧ dP row n k 2 ∧ dP row n k 3
def wK (row : Nat → Int32) (n : Nat) : Nat → Prop
  | 0 => dP row n 0 0
  | k + 1 => wK row n k ∧ sW row n k
theorem wK_iff {P : ab_P} (hok : okP P) : ∀ k, k ≤ P.1 - 1 → (wK P.2.2 P.1 k ↔ ((∀ j, j ≤ k → d2 P.2.2 j 0) ∧ (∀ j, 0 < j → j ≤ k → d2 P.2.2 j 2) ∧ (∀ j, j < k → d2 P.2.2 j 4)))
  | 0, _ => by
    have e : wK P.2.2 P.1 0 = d2 P.2.2 0 0 := by
      show dP _ _ _ _ = _
      unfold dP d2 ct
      rw [if_pos rfl, if_pos rfl]
    rw [e]
    refine ⟨fun h => ⟨fun j hj => ?_, fun j h1 h2 => by omega, fun j hj => by omega⟩, fun h => h.1 0 (by omega)⟩
    rw [show j = 0 by omega]; exact h
  | k + 1, hk => by
    have hn1 := hok.1
    have ih := wK_iff hok k (by omega)
    have he : eo P.1 k = k + 1 := by unfold eo; rw [if_pos (by omega)]
    have c : ∀ i f, i < P.1 → f < 6 → -9331200 ≤ (P.2.2 (8 * i + f)).toInt ∧ (P.2.2 (8 * i + f)).toInt ≤ 9331200 := fun i f hi hf => hok.2.2.2.1 i hi f hf
    have p3 : dP P.2.2 P.1 k 3 = d2 P.2.2 (k + 1) 0 := by
      unfold dP d2 ct
      rw [he]
      rfl
    have p1 : d2 P.2.2 k 0 → (dP P.2.2 P.1 k 1 ↔ d2 P.2.2 k 4) := by
      intro h
      have e1 : dP P.2.2 P.1 k 1 = (dv (P.2.2 (8 * k + 0) + P.2.2 (8 * k + (4 + 0))) ∧ dv (P.2.2 (8 * k + 1) + P.2.2 (8 * k + (4 + 1)))) := rfl
      rw [e1, dv_add (c k 0 (by omega) (by omega)) (c k (4 + 0) (by omega) (by omega)) h.1, dv_add (c k 1 (by omega) (by omega)) (c k (4 + 1) (by omega) (by omega)) h.2]
      exact Iff.rfl
    have p2 : d2 P.2.2 (k + 1) 0 → (dP P.2.2 P.1 k 2 ↔ d2 P.2.2 (k + 1) 2) := by
      intro h
      have e1 : dP P.2.2 P.1 k 2 = (dv (P.2.2 (8 * (k + 1) + 0) + P.2.2 (8 * (k + 1) + (2 + 0))) ∧ dv (P.2.2 (8 * (k + 1) + 1) + P.2.2 (8 * (k + 1) + (2 + 1)))) := by
        unfold dP ct
        rw [he]
        rfl
      rw [e1, dv_add (c (k + 1) 0 (by omega) (by omega)) (c (k + 1) (2 + 0) (by omega) (by omega)) h.1, dv_add (c (k + 1) 1 (by omega) (by omega)) (c (k + 1) (2 + 1) (by omega) (by omega)) h.2]
      exact Iff.rfl
    have hsz : sz P.2.2 P.1 k = true → d2 P.2.2 k 4 ∧ d2 P.2.2 (k + 1) 2 := by
      intro h
      unfold sz at h
      rw [he] at h
      simp only [Bool.and_eq_true, decide_eq_true_eq] at h
      obtain ⟨⟨⟨h1, h2⟩, h3⟩, h4⟩ := h
      unfold d2
      exact ⟨⟨by rw [h1]; exact dv_0, by rw [show 8 * k + (4 + 1) = 8 * k + 5 from rfl, h2]; exact dv_0⟩, ⟨by rw [h3]; exact dv_0, by rw [show 8 * (k + 1) + (2 + 1) = 8 * (k + 1) + 3 from rfl, h4]; exact dv_0⟩⟩
    have key : wK P.2.2 P.1 k → (sW P.2.2 P.1 k ↔ (d2 P.2.2 (k + 1) 0 ∧ d2 P.2.2 (k + 1) 2 ∧ d2 P.2.2 k 4)) := by
      intro hw
      have hk0 := (ih.mp hw).1 k (Nat.le_refl _)
      unfold sW
      by_cases z : sz P.2.2 P.1 k = true
      · rw [if_pos z, p3]
        exact ⟨fun h => ⟨h, (hsz z).2, (hsz z).1⟩, fun h => h.1⟩
      · rw [if_neg z, p3]
        exact ⟨fun ⟨h1, h2, h3⟩ => ⟨h3, (p2 h3).mp h2, (p1 hk0).mp h1⟩, fun ⟨h1, h2, h3⟩ => ⟨(p1 hk0).mpr h3, (p2 h1).mpr h2, h1⟩⟩
    constructor
    · rintro ⟨hw, hs⟩
      obtain ⟨g1, g2, g3⟩ := (key hw).mp hs
      obtain ⟨i1, i2, i3⟩ := ih.mp hw
      refine ⟨fun j hj => ?_, fun j h1 h2 => ?_, fun j hj => ?_⟩
      · by_cases z : j = k + 1
        · rw [z]; exact g1
        · exact i1 j (by omega)
      · by_cases z : j = k + 1
        · rw [z]; exact g2
        · exact i2 j h1 (by omega)
      · by_cases z : j = k
        · rw [z]; exact g3
        · exact i3 j (by omega)
    · rintro ⟨i1, i2, i3⟩
      have hw := ih.mpr ⟨fun j hj => i1 j (by omega), fun j h1 h2 => i2 j h1 (by omega), fun j hj => i3 j (by omega)⟩
      exact ⟨hw, (key hw).mpr ⟨i1 (k + 1) (by omega), i2 (k + 1) (by omega) (by omega), i3 k (by omega)⟩⟩
theorem whP_iff {P : ab_P} (hok : okP P) : whP P ↔ wK P.2.2 P.1 (P.1 - 1) ∧ (P.2.1 = true → sz P.2.2 P.1 (P.1 - 1) = true) := by
  have hn1 := hok.1
  rw [wK_iff hok (P.1 - 1) (Nat.le_refl _)]
  unfold whP
  constructor
  · rintro ⟨h1, h2⟩
    exact ⟨⟨fun j hj => (h1 j (by omega)).1, fun j a b => (h1 j (by omega)).2.1 a, fun j hj => (h1 j (by omega)).2.2 (by omega)⟩, h2⟩
  · rintro ⟨⟨i1, i2, i3⟩, h2⟩
    exact ⟨fun k hk => ⟨i1 k (by omega), fun a => i2 k a (by omega), fun a => i3 k (by omega)⟩, h2⟩
section
variable {l : Launch} {D : ax_D} {S : ax_S} {E C : ax_C} {M : Nat} {A : ab_A}
/-- a draft that has been begun -/
def wS (S : ax_S) (E C : ax_C) (M : Nat) (A : ab_A) (cc : Nat → Int32) (s : ab_B) (W : Prop) : Prop := mdl S E C M A ∧ C.1 (M + 9) = cc ∧ C.1 M 23 = nI s.2 ∧ (∀ q, q < s.2 → C.1 (M + 12) q = s.1 q) ∧ ((C.1 M 24 = 0 ∧ ¬ W) ∨ (C.1 M 24 = 1 ∧ W))
theorem mdl_fr {C' : ax_C} (h : mdl S E C M A) (f1 : ∀ b, b ≠ M → b ≠ M + 9 → b ≠ M + 10 → b ≠ M + 11 → b ≠ M + 12 → C'.1 b = C.1 b) (f2 : C'.2.2 = C.2.2) (f3 : ∀ k, (k = 3 ∨ k = 5 ∨ k = 9 ∨ k = 11) → C'.1 M k = C.1 M k) : mdl S E C' M A := by
  refine ⟨mO_fr h.1 (fun b b1 b2 b3 b4 b5 b6 b7 => f1 b b1 b4 b5 b6 b7) f2 f3, ?_⟩
  rw [f1 _ (by omega) (by omega) (by omega) (by omega) (by omega)]
  exact h.2
theorem s_sign {cc : Nat → Int32} {s : ab_B} {W : Prop} {x : Int32} {P : ax_C → Prop} (h : wS S E C M A cc s W) (hs : s.2 < 500) (hP : ∀ C', wS S E C' M A cc (pb s x) W → P C') : ax_CV l D mt_X8_sign [ax_r (some M), ax_i x] S C P := by
  obtain ⟨h1, h2, h3, h4, h5⟩ := h
  have hK := h1.1.1
  have k12 := hK.2.2.2.2.2.2.2.2.2.2.2.2
  refine vc_X8_sign hK.1 ⟨hK.1, hK.1, ?_⟩
  rw [k12.2.2, h3, n_clamp (by omega)]
  refine ⟨k12.1, by rw [k12.2.1]; exact vp_in_nI hs (by omega), hK.1, hK.1, ?_⟩
  rw [ax_wI_n (show M ≠ M + 12 by omega), h3, n_succ]
  refine hP _ ⟨mdl_fr h1 (fun b b1 b2 b3 b4 b5 => by rw [ax_wI_n b1, ax_wI_n b5]) rfl fun k hk => by rw [ax_wI_t rfl, n_up_n (by omega), ax_wI_n (by omega)], ?_, ?_, fun q hq => ?_, ?_⟩
  · rw [ax_wI_n (by omega), ax_wI_n (by omega)]; exact h2
  · rw [ax_wI_t rfl, n_up_t rfl]; rfl
  · have hq : q < s.2 + 1 := hq
    rw [ax_wI_n (by omega), ax_wI_t rfl]
    show va_up _ _ _ q = va_up _ _ _ q
    by_cases w : q = s.2
    · rw [n_up_t w, n_up_t w]
    · rw [n_up_n w, n_up_n w]; exact h4 q (by omega)
  · rw [ax_wI_t rfl, n_up_n (by omega), ax_wI_n (by omega)]; exact h5
theorem s_writes {cc : Nat → Int32} {s : ab_B} {W : Prop} {x : Int32} {P : ax_C → Prop} (h : wS S E C M A cc s W) (hs : s.2 + 4 ≤ 341) (hu : -400 ≤ (x / 46656).toInt ∧ (x / 46656).toInt ≤ 400) (hP : ∀ C', wS S E C' M A cc (nB s (x / 46656)) (W ∧ dv x) → P C') : ax_CV l D mt_X8_writes [ax_r (some M), ax_i x] S C P := by
  obtain ⟨ua, ub⟩ := u_abs hu
  have hK := h.1.1.1
  refine vc_X8_writes hK.1 fun P19 P20 P41 P58 P78 h19 h20 h41 h58 h78 => ⟨hK.1, ?_⟩
  generalize hxu : x / 46656 = u at *
  have hm : u.toInt.natAbs ≤ 400 := by omega
  unfold nB at hP
  dsimp only at hP
  generalize u.toInt.natAbs = m at *
  have d100 : nI m / 100 = nI (m / 100) := by rw [show (100 : Int32) = nI 100 from rfl, pk_div (by omega) (by omega) (by omega)]
  have d10 : nI m / 10 = nI (m / 10) := by rw [show (10 : Int32) = nI 10 from rfl, pk_div (by omega) (by omega) (by omega)]
  have r10 : ∀ k, k ≤ 400 → nI k - nI k / 10 * 10 = nI (k % 10) := fun k hk => by rw [show (10 : Int32) = nI 10 from rfl, pk_rem (by omega) (by omega) (by omega)]
  have b78 : ∀ (W' : Prop) (s3 : ab_B) (C3 : ax_C), wS S E C3 M A cc s3 W' → s3.2 < 500 → (∀ C', wS S E C' M A cc (pb s3 (nI (48 + m % 10))) W' → P C') → P78 (nI m) C3 := by
    intro W' s3 C3 g1 g3 g4
    refine h78 _ _ ⟨by decide, ?_⟩
    rw [r10 m hm, n_lit48, n_add]
    exact s_sign g1 g3 g4
  have b58 : ∀ (W' : Prop) (s2 : ab_B) (C2 : ax_C), wS S E C2 M A cc s2 W' → s2.2 + 1 < 500 → (∀ C', wS S E C' M A cc (pb (if 10 ≤ m then pb s2 (nI (48 + m / 10 % 10)) else s2) (nI (48 + m % 10))) W' → P C') → P58 (nI m) C2 := by
    intro W' s2 C2 g1 g3 g4
    refine h58 _ _ ⟨fun q => ?_, fun q => ⟨by decide, by decide, ?_⟩⟩
    · have : ¬ 10 ≤ m := fun w => nI_ge (show 9 < m by omega) (by omega) q
      rw [if_neg this] at g4
      exact b78 W' s2 C2 g1 (by omega) g4
    · have : 10 ≤ m := by
        rcases Nat.lt_or_ge m 10 with w | w
        · exact absurd (nI_le (show m ≤ 9 by omega) (by omega)) q
        · exact w
      rw [if_pos this] at g4
      rw [d10, r10 (m / 10) (by omega), n_lit48, n_add]
      exact s_sign g1 (by omega) fun C' k1 => b78 W' _ C' k1 (show s2.2 + 1 < 500 by omega) g4
  have b41 : ∀ (W' : Prop) (s1 : ab_B) (C1 : ax_C), wS S E C1 M A cc s1 W' → s1.2 + 2 < 500 → (∀ C', wS S E C' M A cc (pb (if 10 ≤ m then pb (if 100 ≤ m then pb s1 (nI (48 + m / 100)) else s1) (nI (48 + m / 10 % 10)) else (if 100 ≤ m then pb s1 (nI (48 + m / 100)) else s1)) (nI (48 + m % 10))) W' → P C') → P41 (nI m) C1 := by
    intro W' s1 C1 g1 g3 g4
    refine h41 _ _ ⟨fun q => ?_, fun q => ⟨by decide, ?_⟩⟩
    · have : ¬ 100 ≤ m := fun w => nI_ge (show 99 < m by omega) (by omega) q
      rw [if_neg this] at g4
      exact b58 W' s1 C1 g1 (by omega) g4
    · have : 100 ≤ m := by
        rcases Nat.lt_or_ge m 100 with w | w
        · exact absurd (nI_le (show m ≤ 99 by omega) (by omega)) q
        · exact w
      rw [if_pos this] at g4
      rw [d100, n_lit48, n_add]
      exact s_sign g1 (by omega) fun C' k1 => b58 W' _ C' k1 (show s1.2 + 1 + 1 < 500 by omega) g4
  have b20 : ∀ t1 : Int32, ((t1 = 0 ∧ ¬ (W ∧ dv x)) ∨ (t1 = 1 ∧ (W ∧ dv x))) → P20 t1 C := by
    intro t1 ht
    have hw : wS S E (ax_wI C M 24 t1) M A cc s (W ∧ dv x) := by
      obtain ⟨h1, h2, h3, h4, h5⟩ := h
      refine ⟨mdl_fr h1 (fun b b1 b2 b3 b4 b5 => by rw [ax_wI_n b1]) rfl fun k hk => by rw [ax_wI_t rfl, n_up_n (by omega)], ?_, ?_, fun q hq => ?_, ?_⟩
      · rw [ax_wI_n (by omega)]; exact h2
      · rw [ax_wI_t rfl, n_up_n (by omega)]; exact h3
      · rw [ax_wI_n (by omega)]; exact h4 q hq
      · rw [ax_wI_t rfl, n_up_t rfl]; exact ht
    refine h20 _ _ ⟨by rcases ht with z | z; exact Or.inl z.1; exact Or.inr z.1, hK.1, by decide, fun q => ?_, fun q => ?_⟩
    · obtain ⟨q1, q2⟩ := ua q
      rw [if_neg q1] at hP
      rw [q2]
      exact b41 _ s _ hw (by omega) hP
    · obtain ⟨q1, q2, q3⟩ := ub q
      rw [if_pos q1] at hP
      rw [q3]
      exact s_sign hw (by omega) fun C' k1 => b41 _ _ C' k1 (show s.2 + 1 + 2 < 500 by omega) hP
  have h5 := h.2.2.2.2
  refine ⟨fun q => h19 _ (b20 0 (Or.inl ⟨rfl, fun w => ?_⟩)), fun q => ⟨by decide, fun q2 => h19 _ (b20 0 (Or.inl ⟨rfl, fun w => ?_⟩)), fun q2 => b20 1 (Or.inr ⟨rfl, ?_, ?_⟩)⟩⟩
  · rcases h5 with z | z
    · exact z.2 w.1
    · rw [z.1] at q; exact absurd q (by decide)
  · have := w.2
    unfold dv at this
    rw [hxu] at this
    exact q2 this
  · rcases h5 with z | z
    · exact absurd z.1 q
    · exact z.2
  · unfold dv
    rw [hxu]
    exact q2
end
