/-! ===== prints ===== -/
/-- bytes that were put, and how many -/
abbrev ab_B : Type := (Nat → Int32) × Nat
def pb (s : ab_B) (c : Int32) : ab_B := (va_up s.1 s.2 c, s.2 + 1)
def nB (s : ab_B) (u : Int32) : ab_B :=
  let m := u.toInt.natAbs
  let s1 := if u.toInt < 0 then pb s 45 else s
  let s2 := if 100 ≤ m then pb s1 (nI (48 + m / 100)) else s1
  let s3 := if 10 ≤ m then pb s2 (nI (48 + m / 10 % 10)) else s2
  pb s3 (nI (48 + m % 10))
def pB (s : ab_B) (row : Nat → Int32) (n k w : Nat) : ab_B := nB (pb (nB s (ct row n k w 0 / 46656)) 32) (ct row n k w 1 / 46656)
def gB (s : ab_B) (row : Nat → Int32) (n k : Nat) : ab_B := if sz row n k = true then pB (pb s 76) row n k 3 else pB (pb (pB (pb (pB (pb s 67) row n k 1) 32) row n k 2) 32) row n k 3
def sB (row : Nat → Int32) (n : Nat) : Nat → ab_B
  | 0 => pB (pb ((fun _ => 0), 0) 77) row n 0 0
  | k + 1 => gB (sB row n k) row n k
def prB (row : Nat → Int32) (n : Nat) (b : Bool) : ab_B := if b = true then pb (sB row n (n - 1)) 90 else sB row n (n - 1)
def dv (x : Int32) : Prop := x - x / 46656 * 46656 = 0
/-- both numbers of a field are whole units -/
def d2 (row : Nat → Int32) (k f : Nat) : Prop := dv (row (8 * k + f)) ∧ dv (row (8 * k + (f + 1)))
def whP (P : ab_P) : Prop := (∀ k, k < P.1 → d2 P.2.2 k 0 ∧ (0 < k → d2 P.2.2 k 2) ∧ (k + 1 < P.1 → d2 P.2.2 k 4)) ∧ (P.2.1 = true → sz P.2.2 P.1 (P.1 - 1) = true)
noncomputable def F_print (A : ab_A) (x : Int32) : Int32 × ab_A := match ix x (nw A).1 with
  | none => (BI, A)
  | some p => @ite _ (whP ((nw A).2 p)) (Classical.propDecidable _) (nI (prB ((nw A).2 p).2.2 ((nw A).2 p).1 ((nw A).2 p).2.1).2, (A.1, A.2.1, A.2.2.1, A.2.2.2.1, A.2.2.2.2.1, A.2.2.2.2.2.1, A.2.2.2.2.2.2.1, prB ((nw A).2 p).2.2 ((nw A).2 p).1 ((nw A).2 p).2.1)) (NP, A)
theorem nB_len (s : ab_B) (u : Int32) : s.2 < (nB s u).2 ∧ (nB s u).2 ≤ s.2 + 4 := by
  unfold nB pb
  dsimp only
  (repeat' split) <;> (first | omega | (dsimp only; omega))
theorem pB_len (s : ab_B) (row : Nat → Int32) (n k w : Nat) : (pB s row n k w).2 ≤ s.2 + 9 := by
  unfold pB
  have h1 := nB_len s (ct row n k w 0 / 46656)
  have h2 := nB_len (pb (nB s (ct row n k w 0 / 46656)) 32) (ct row n k w 1 / 46656)
  have h3 : (pb (nB s (ct row n k w 0 / 46656)) 32).2 = (nB s (ct row n k w 0 / 46656)).2 + 1 := rfl
  omega
theorem gB_len (s : ab_B) (row : Nat → Int32) (n k : Nat) : (gB s row n k).2 ≤ s.2 + 30 := by
  unfold gB
  split
  · have := pB_len (pb s 76) row n k 3
    have e : (pb s 76).2 = s.2 + 1 := rfl
    omega
  · have h1 := pB_len (pb s 67) row n k 1
    have e1 : (pb s 67).2 = s.2 + 1 := rfl
    generalize pB (pb s 67) row n k 1 = s1 at *
    have h2 := pB_len (pb s1 32) row n k 2
    have e2 : (pb s1 32).2 = s1.2 + 1 := rfl
    generalize pB (pb s1 32) row n k 2 = s2 at *
    have h3 := pB_len (pb s2 32) row n k 3
    have e3 : (pb s2 32).2 = s2.2 + 1 := rfl
    omega
theorem sB_len (row : Nat → Int32) (n : Nat) : ∀ k, (sB row n k).2 ≤ 10 + 30 * k
  | 0 => by
    unfold sB
    have := pB_len (pb ((fun _ => 0), 0) 77) row n 0 0
    have e : (pb ((fun _ => 0), 0) 77).2 = 0 + 1 := rfl
    omega
  | k + 1 => by
    have h1 := sB_len row n k
    have h2 := gB_len (sB row n k) row n k
    show (gB _ _ _ _).2 ≤ _
    omega
theorem u_abs {u : Int32} (h : -400 ≤ u.toInt ∧ u.toInt ≤ 400) : (0 ≤ u → ¬ u.toInt < 0 ∧ u = nI u.toInt.natAbs) ∧ (¬ 0 ≤ u → u.toInt < 0 ∧ 0 - u = nI u.toInt.natAbs ∧ -u = nI u.toInt.natAbs) := by
  have e0 : (0 : Int32).toInt = 0 := rfl
  refine ⟨fun q => ?_, fun q => ?_⟩
  · rw [Int32.le_iff_toInt_le, e0] at q
    refine ⟨by omega, ?_⟩
    apply Int32.toInt_inj.mp
    rw [n_toInt (by omega)]
    omega
  · rw [Int32.le_iff_toInt_le, e0] at q
    have hn : -u = nI u.toInt.natAbs := by
      apply Int32.toInt_inj.mp
      rw [n_toInt (by omega), Int32.toInt_neg, Int.bmod_eq_of_le (by omega) (by omega)]
      omega
    refine ⟨by omega, ?_, hn⟩
    rw [← hn]
    exact Int32.zero_sub u
theorem c_bd {row : Nat → Int32} {n k w ax : Nat} {P : ab_P} (hok : okP P) (hr : ∀ q, q < 8 * P.1 → row q = P.2.2 q) (hn : n = P.1) (hk : k < n) (hax : ax < 2) : -400 ≤ (ct row n k w ax / 46656).toInt ∧ (ct row n k w ax / 46656).toInt ≤ 400 := by
  subst hn
  have he : eo P.1 k < P.1 := by unfold eo; split <;> omega
  have b1 : -18662400 ≤ (ct row P.1 k w ax).toInt ∧ (ct row P.1 k w ax).toInt ≤ 18662400 := by
    rw [ct_c hr hk hax]
    have c : ∀ i f, i < P.1 → f < 6 → -9331200 ≤ (P.2.2 (8 * i + f)).toInt ∧ (P.2.2 (8 * i + f)).toInt ≤ 9331200 := fun i f hi hf => hok.2.2.2.1 i hi f hf
    have ad : ∀ x y : Int32, (-9331200 ≤ x.toInt ∧ x.toInt ≤ 9331200) → (-9331200 ≤ y.toInt ∧ y.toInt ≤ 9331200) → -18662400 ≤ (x + y).toInt ∧ (x + y).toInt ≤ 18662400 := by
      intro x y hx hy
      rw [Int32.toInt_add, Int.bmod_eq_of_le (by omega) (by omega)]
      omega
    unfold ct
    split
    · have := c k ax hk (by omega); omega
    · split
      · exact ad _ _ (c k ax hk (by omega)) (c k (4 + ax) hk (by omega))
      · split
        · exact ad _ _ (c _ ax he (by omega)) (c _ (2 + ax) he (by omega))
        · have := c _ ax he (show ax < 6 by omega); omega
  have e : (46656 : Int32).toInt = 46656 := rfl
  rw [Int32.toInt_div, e]
  have hd : -400 ≤ (ct row P.1 k w ax).toInt.tdiv 46656 ∧ (ct row P.1 k w ax).toInt.tdiv 46656 ≤ 400 := by
    generalize (ct row P.1 k w ax).toInt = z at *
    rcases Int.le_total 0 z with q | q
    · rw [Int.tdiv_eq_ediv_of_nonneg q]; omega
    · have := Int.neg_tdiv z 46656
      rw [show z.tdiv 46656 = -((-z).tdiv 46656) by rw [Int.neg_tdiv]; omega, Int.tdiv_eq_ediv_of_nonneg (by omega)]
      omega
  rw [Int.bmod_eq_of_le (by omega) (by omega)]
  exact hd
section
variable {l : Launch} {D : ax_D} {S : ax_S} {E C : ax_C} {B pr p : Nat} {τ : Nat → Nat} {A : ab_A}
def tB (S : ax_S) (C : ax_C) (p : Nat) (s : ab_B) : Prop := S.1 p = 6 ∧ S.1 (p + 1) = 13 ∧ S.2.1 (p + 1) = 341 ∧ C.2.2 p 0 = some (p + 1) ∧ C.1 p 1 = nI s.2 ∧ ∀ q, q < s.2 → C.1 (p + 1) q = s.1 q
def fB (C C' : ax_C) (p : Nat) : Prop := C'.2 = C.2 ∧ ∀ b, b ≠ p → b ≠ p + 1 → C'.1 b = C.1 b
theorem s_byte {s : ab_B} {c : Nat} {x : Int32} {C0 : ax_C} {P : ax_C → Prop} (h : tB S C p s) (hf : fB C0 C p) (hx : x = nI c) (hc : c < 128) (hs : s.2 < 341) (hP : ∀ C', tB S C' p (pb s x) → fB C0 C' p → P C') : ax_CV l D mt_X5_putByte [ax_r (some p), ax_i x] S C P := by
  subst hx
  obtain ⟨h1, h2, h3, h4, h5, h6⟩ := h
  refine vc_X5_putByte h1 ⟨h1, ?_⟩
  rw [h5]
  refine ⟨fun q => n_absurd q (by simp (disch := omega) only [n_lit0, n_lit1, n_lit2, n_lit3, n_lit4, n_lit5, n_lit6, n_lit7, n_lit8, n_lit9, n_lit10, n_lit11, n_lit12, n_lit13, n_lit14, n_lit15, n_lit16, n_lit17, n_lit18, n_lit19, n_lit20, n_lit21, n_lit22, n_lit23, n_lit24, n_lit30, n_lit31, n_lit32, n_lit45, n_lit48, n_lit49, n_lit57, n_lit59, n_lit60, n_lit67, n_lit76, n_lit77, n_lit90, n_lit96, n_lit97, n_lit98, n_lit99, n_lit100, n_lit119, n_lit120, n_lit127, n_lit128, n_lit196, n_lit200, n_lit208, n_lit294, n_lit340, n_lit341, n_lit392, n_lit490, n_lit491, n_lit500, n_lit588, n_lit589, n_lit999, n_lit1178, n_lit5301, n_lit5890, n_lit46656, n_add, n_mul, n_sub, n_lt_t, n_lt_f, n_le_t, n_le_f, n_eq_t, n_eq_f, n_clamp, n_in_t, ax_sm_s, true_and, and_true, not_true_eq_false, not_false_eq_true, true_imp, false_imp, imp_true, and_self, ax_wI_2, ax_rI_2, ax_wI_t, ax_wI_n, ax_rI_t, ax_rI_n, n_up_t, n_up_n, ne_eq, or_true, true_or, false_or, or_false, some_ex, n_none1, n_none2, ite_true, ite_false]), fun _ => ⟨h1, h1, ?_⟩⟩
  rw [h4, n_clamp (by omega), by_nar hc]
  refine ⟨h2, by rw [h3]; exact vp_in_nI hs (by omega), h1, h1, ?_⟩
  rw [ax_wI_n (show p ≠ p + 1 by omega), h5, n_succ]
  refine hP _ ⟨h1, h2, h3, h4, ?_, fun q hq => ?_⟩ ⟨hf.1, fun b b1 b2 => ?_⟩
  · rw [ax_wI_t rfl, n_up_t rfl]; rfl
  · have hq : q < s.2 + 1 := hq
    rw [ax_wI_n (by omega), ax_wI_t rfl]
    show va_up _ _ _ q = va_up _ _ _ q
    by_cases w : q = s.2
    · rw [n_up_t w, n_up_t w]
    · rw [n_up_n w, n_up_n w]; exact h6 q (by omega)
  · rw [ax_wI_n b1, ax_wI_n b2]; exact hf.2 b b1 b2
theorem s_num {s : ab_B} {u : Int32} {C0 : ax_C} {P : ax_C → Prop} (h : tB S C p s) (hf : fB C0 C p) (hu : -400 ≤ u.toInt ∧ u.toInt ≤ 400) (hs : s.2 + 4 ≤ 341) (hP : ∀ C', tB S C' p (nB s u) → fB C0 C' p → P C') : ax_CV l D mt_X5_putNumber [ax_r (some p), ax_i u] S C P := by
  obtain ⟨ua, ub⟩ := u_abs hu
  refine vc_X5_putNumber h.1 fun P15 P32 P52 h15 h32 h52 => ?_
  have hm : u.toInt.natAbs ≤ 400 := by omega
  unfold nB at hP
  dsimp only at hP
  generalize u.toInt.natAbs = m at *
  have d100 : nI m / 100 = nI (m / 100) := by rw [show (100 : Int32) = nI 100 from rfl, pk_div (by omega) (by omega) (by omega)]
  have d10 : nI m / 10 = nI (m / 10) := by rw [show (10 : Int32) = nI 10 from rfl, pk_div (by omega) (by omega) (by omega)]
  have r10 : ∀ k, k ≤ 400 → nI k - nI k / 10 * 10 = nI (k % 10) := fun k hk => by rw [show (10 : Int32) = nI 10 from rfl, pk_rem (by omega) (by omega) (by omega)]
  have b52 : ∀ (s3 : ab_B) (C3 : ax_C), tB S C3 p s3 → fB C0 C3 p → s3.2 < 341 → (∀ C', tB S C' p (pb s3 (nI (48 + m % 10))) → fB C0 C' p → P C') → P52 (nI m) C3 := by
    intro s3 C3 g1 g2 g3 g4
    refine h52 _ _ ⟨by decide, ?_⟩
    rw [r10 m hm, n_lit48, n_add]
    exact s_byte g1 g2 rfl (by omega) g3 g4
  have b32 : ∀ (s2 : ab_B) (C2 : ax_C), tB S C2 p s2 → fB C0 C2 p → s2.2 + 1 < 341 → (∀ C', tB S C' p (pb (if 10 ≤ m then pb s2 (nI (48 + m / 10 % 10)) else s2) (nI (48 + m % 10))) → fB C0 C' p → P C') → P32 (nI m) C2 := by
    intro s2 C2 g1 g2 g3 g4
    refine h32 _ _ ⟨fun q => ?_, fun q => ⟨by decide, by decide, ?_⟩⟩
    · have : ¬ 10 ≤ m := fun w => nI_nlt (a := m) (b := 10) w (by omega) q
      rw [if_neg this] at g4
      exact b52 s2 C2 g1 g2 (by omega) g4
    · have : 10 ≤ m := by
        rcases Nat.lt_or_ge m 10 with w | w
        · exact absurd (nI_lt w (by omega)) q
        · exact w
      rw [if_pos this] at g4
      rw [d10, r10 (m / 10) (by omega), n_lit48, n_add]
      exact s_byte g1 g2 rfl (by omega) (by omega) fun C' k1 k2 => b52 _ C' k1 k2 (show s2.2 + 1 < 341 by omega) g4
  have b15 : ∀ (s1 : ab_B) (C1 : ax_C), tB S C1 p s1 → fB C0 C1 p → s1.2 + 2 < 341 → (∀ C', tB S C' p (pb (if 10 ≤ m then pb (if 100 ≤ m then pb s1 (nI (48 + m / 100)) else s1) (nI (48 + m / 10 % 10)) else (if 100 ≤ m then pb s1 (nI (48 + m / 100)) else s1)) (nI (48 + m % 10))) → fB C0 C' p → P C') → P15 (nI m) C1 := by
    intro s1 C1 g1 g2 g3 g4
    refine h15 _ _ ⟨fun q => ?_, fun q => ⟨by decide, ?_⟩⟩
    · have : ¬ 100 ≤ m := fun w => nI_nlt (a := m) (b := 100) w (by omega) q
      rw [if_neg this] at g4
      exact b32 s1 C1 g1 g2 (by omega) g4
    · have : 100 ≤ m := by
        rcases Nat.lt_or_ge m 100 with w | w
        · exact absurd (nI_lt w (by omega)) q
        · exact w
      rw [if_pos this] at g4
      rw [d100, n_lit48, n_add]
      exact s_byte g1 g2 rfl (by omega) (by omega) fun C' k1 k2 => b32 _ C' k1 k2 (show s1.2 + 1 + 1 < 341 by omega) g4
  refine ⟨fun q => ?_, fun q => ?_⟩
  · obtain ⟨q1, q2⟩ := ua q
    rw [if_neg q1] at hP
    rw [if_pos q, q2]
    exact b15 s C h hf (by omega) hP
  · obtain ⟨q1, q2, q3⟩ := ub q
    rw [if_pos q1] at hP
    rw [if_neg q, q2]
    exact s_byte h hf (c := 45) rfl (by omega) (by omega) fun C' k1 k2 => b15 _ C' k1 k2 (show s.2 + 1 + 2 < 341 by omega) hP
theorem s_point {s : ab_B} {i k w : Nat} {Q : ab_P} {x y : Int32} {C0 : ax_C} {P : ax_C → Prop} (h : tB S C p s) (hf : fB C0 C p) (hP0 : pA S C i) (hi : i ≠ p ∧ i ≠ p + 1 ∧ i + 1 ≠ p ∧ i + 1 ≠ p + 1) (hc : cP C0 i Q) (hok : okP Q) (hx : x = nI k) (hk : k < Q.1) (hy : y = nI w) (hw : w < 4) (hs : s.2 + 9 ≤ 341) (hP : ∀ C', tB S C' p (pB s Q.2.2 Q.1 k w) → fB C0 C' p → P C') : ax_CV l D mt_X5_putPoint [ax_r (some p), ax_r (some i), ax_i x, ax_i y] S C P := by
  have h12 := hc.1
  have cq : ∀ C1, fB C0 C1 p → cP C1 i Q := fun C1 g => cP_fr hc (g.2 i hi.1 hi.2.1) (g.2 (i + 1) hi.2.2.1 hi.2.2.2)
  have hl0 := nB_len s (ct Q.2.2 Q.1 k w 0 / 46656)
  refine vc_X5_putPoint h.1 ((c_control hP0 (cq C hf).2.1 h12 hx (by omega) hy (by omega) (a := 0) rfl (by omega)).use ⟨by decide, ?_⟩)
  have b0 := c_bd (w := w) (ax := 0) hok (cq C hf).2.2.2 rfl hk (by omega)
  rw [ct_c (cq C hf).2.2.2 hk (by omega)] at b0 ⊢
  refine s_num h hf b0 (by omega) fun C1 g1 g2 => ?_
  refine s_byte g1 g2 (c := 32) rfl (by omega) (by omega) fun C2 g3 g4 => ?_
  have hP2 : pA S C2 i := pA_2 hP0 (by rw [g4.1, hf.1])
  refine (c_control hP2 (cq C2 g4).2.1 h12 hx (by omega) hy (by omega) (a := 1) rfl (by omega)).use ⟨by decide, ?_⟩
  have b1 := c_bd (w := w) (ax := 1) hok (cq C2 g4).2.2.2 rfl hk (by omega)
  rw [ct_c (cq C2 g4).2.2.2 hk (by omega)] at b1 ⊢
  refine s_num g3 g4 b1 ?_ fun C3 g5 g6 => hP C3 g5 g6
  show (nB s (ct Q.2.2 Q.1 k w 0 / 46656)).2 + 1 + 4 ≤ 341
  omega
end
