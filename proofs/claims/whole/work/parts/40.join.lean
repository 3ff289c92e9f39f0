/-! ===== the reference's join ===== -/
section
variable {l : Launch} {D : ax_D} {S : ax_S} {E C : ax_C} {M : Nat} {A : ab_A}
theorem c8_unites {v row row2 : Nat → Int32} {t : Int32} {i j m : Nat} {x y : Int32} {P : ax_C → Prop} (h : mK S C M) (hx : x = nI i) (hy : y = nI j) (hi : i < 26) (hj : j < 26) (hij : i ≠ j) (r1 : ∀ f, f < 8 → C.1 (M + 10) (8 * i + f) = row f) (r2 : ∀ f, f < 8 → C.1 (M + 10) (8 * j + f) = row2 (8 * m + f)) (hs : (row 6 = 0 ∧ row 7 = 0) ∨ 0 < row 6) (hP : ∀ R', (∀ q, (q < 8 * i ∨ 8 * i + 8 ≤ q) → R' q = C.1 (M + 10) q) → (∀ f, f < 8 → R' (8 * i + f) = mg row row2 m f) → P (mW (ax_rI C (M + 10) R') M v t)) : ax_CV l D mt_X8_unites [ax_r (some M), ax_i x, ax_i y] S (mW C M v t) P := by
  subst hx hy
  have k10 := h.2.2.2.2.2.2.2.2.2.2.1
  have rd : (mW C M v t).1 (M + 10) = C.1 (M + 10) := mW_n (by omega) (by omega)
  have r14 : (mW C M v t).2.2 M 14 = some (M + 10) := k10.2.2
  generalize hR : C.1 (M + 10) = R at *
  have i10 : ∀ k, k < 208 → vp_in (nI k) (S.2.1 (M + 10)) := fun k hk => (mr10 h hk).2
  generalize hR1 : va_up (va_up R (8 * i + 2) (R (8 * j + 2))) (8 * i + 3) (R (8 * j + 3)) = R1
  have g1 : ∀ f, f < 8 → R1 (8 * i + f) = mg1 row row2 m f := fun f hf => by
    rw [← hR1]
    unfold mg1
    by_cases z3 : f = 3
    · rw [n_up_t (by omega), n_up_t z3, r2 3 (by omega)]
    · rw [n_up_n (by omega), n_up_n z3]
      by_cases z2 : f = 2
      · rw [n_up_t (by omega), n_up_t z2, r2 2 (by omega)]
      · rw [n_up_n (by omega), n_up_n z2]; exact r1 f hf
  have g1n : ∀ q, (q < 8 * i ∨ 8 * i + 8 ≤ q) → R1 q = R q := fun q hq => by rw [← hR1, n_up_n (by omega), n_up_n (by omega)]
  have m6 : mg1 row row2 m 6 = row 6 := by unfold mg1; rw [n_up_n (by omega), n_up_n (by omega)]
  have m7 : mg1 row row2 m 7 = row 7 := by unfold mg1; rw [n_up_n (by omega), n_up_n (by omega)]
  refine vc_X8_unites h.1 fun P71 P72 P115 P181 P182 P216 P243 h71 h72 h115 h181 h182 h216 h243 => ⟨h.1, ?_⟩
  -- the end, by the flag
  have fin : ∀ fl : Bool, (fl = true → row 6 = row2 (8 * m + 6) ∧ row 7 = row2 (8 * m + 7) ∧ hf (mg1 row row2 m) 0) → (fl = false → ¬ (0 < row 6 ∧ row 6 = row2 (8 * m + 6) ∧ row 7 = row2 (8 * m + 7) ∧ hf (mg1 row row2 m) 0)) → P115 (nI (8 * i)) (bI fl) 2 (mW (ax_rI C (M + 10) R1) M v t) := by
    intro fl t1 t2
    have rd1 : (mW (ax_rI C (M + 10) R1) M v t).1 (M + 10) = R1 := by rw [mW_n (by omega) (by omega), ax_rI_t rfl]
    have r14' : ∀ G, (mW (ax_rI C (M + 10) G) M v t).2.2 M 14 = some (M + 10) := fun _ => k10.2.2
    have endR : ∀ w6 w7 : Int32, (∀ f, f < 8 → va_up (va_up R1 (8 * i + 6) w6) (8 * i + 7) w7 (8 * i + f) = mg row row2 m f) → ∀ (b0 : Bool), (b0 = false → w7 = 0) → (b0 = true → w7 = R1 (8 * i + 7)) → P216 (nI (8 * i)) (bI b0) (some (M + 10)) (nI (8 * i) + 6) w6 (mW (ax_rI C (M + 10) R1) M v t) := by
      intro w6 w7 hw b0 hb hb2
      refine h216 _ _ _ _ _ _ ?_
      rw [n_lit6, n_add]
      refine ⟨k10.1, i10 _ (by omega), h.1, ?_⟩
      rw [n_clamp (by omega), ax_wI_rI, rd1, mW_10, ax_rI_rI]
      rw [r14', n_lit7, n_add]
      have e243 : ∀ w, w = w7 → P243 (some (M + 10)) (nI (8 * i + 7)) w (mW (ax_rI C (M + 10) (va_up R1 (8 * i + 6) w6)) M v t) := by
        intro w hww
        subst hww
        refine h243 _ _ _ _ ?_
        refine ⟨k10.1, i10 _ (by omega), ?_⟩
        rw [n_clamp (by omega), ax_wI_rI, mW_n (by omega) (by omega), ax_rI_t rfl, mW_10, ax_rI_rI]
        exact hP _ (fun q hq => by rw [n_up_n (by omega), n_up_n (by omega)]; exact g1n q hq) hw
      cases b0
      · refine ⟨fun _ => e243 _ (hb rfl).symm, fun q => absurd rfl q⟩
      · refine ⟨fun q => absurd q (by decide), fun _ => ⟨h.1, k10.1, i10 _ (by omega), ?_⟩⟩
        rw [n_clamp (by omega), mW_n (by omega) (by omega), ax_rI_t rfl, n_up_n (by omega)]
        exact e243 _ (hb2 rfl).symm
    refine h115 _ _ _ _ ⟨fun _ => ⟨h.1, ?_⟩, fun q => absurd (by decide) q⟩
    rw [r14']
    cases fl
    · refine ⟨fun _ => endR 0 0 (fun f hf => ?_) false (fun _ => rfl) (fun q => by cases q), fun q => absurd rfl q⟩
      have t2 := t2 rfl
      unfold mg
      by_cases z7 : f = 7
      · rw [n_up_t (by omega)]
        split
        · next hc =>
          have : ¬ 0 < row 6 := fun w => t2 ⟨w, hc⟩
          rcases hs with w | w
          · rw [z7, m7, w.2]
          · exact absurd w this
        · rw [n_up_t z7]
      · rw [n_up_n (by omega)]
        by_cases z6 : f = 6
        · rw [n_up_t (by omega)]
          split
          · next hc =>
            have : ¬ 0 < row 6 := fun w => t2 ⟨w, hc⟩
            rcases hs with w | w
            · rw [z6, m6, w.1]
            · exact absurd w this
          · rw [n_up_n z7, n_up_t z6]
        · rw [n_up_n (by omega), g1 f hf]
          split
          · rfl
          · rw [n_up_n z7, n_up_n z6]
    · have t1 := t1 rfl
      refine ⟨fun q => absurd q (by decide), fun _ => ⟨h.1, ?_⟩⟩
      rw [n_lit6, n_add]
      refine ⟨k10.1, i10 _ (by omega), ?_⟩
      rw [n_clamp (by omega), rd1, ← n_add, ← n_lit6]
      refine endR _ (R1 (8 * i + 7)) (fun f hf => ?_) true (fun q => by cases q) (fun _ => rfl)
      unfold mg
      rw [if_pos t1]
      by_cases z7 : f = 7
      · rw [n_up_t (by omega), z7]; exact g1 7 (by omega)
      · rw [n_up_n (by omega)]
        by_cases z6 : f = 6
        · rw [n_up_t (by omega), z6]; exact g1 6 (by omega)
        · rw [n_up_n (by omega)]; exact g1 f hf
  -- both axes
  have m115 : ∀ fl : Bool, (fl = true → 0 < row 6 ∧ row 6 = row2 (8 * m + 6) ∧ row 7 = row2 (8 * m + 7)) → (fl = false → ¬ (0 < row 6 ∧ row 6 = row2 (8 * m + 6) ∧ row 7 = row2 (8 * m + 7))) → P115 (nI (8 * i)) (bI fl) 0 (mW (ax_rI C (M + 10) R1) M v t) := by
    intro fl t1 t2
    have rd1 : (mW (ax_rI C (M + 10) R1) M v t).1 (M + 10) = R1 := by rw [mW_n (by omega) (by omega), ax_rI_t rfl]
    cases fl
    · have t2 := t2 rfl
      have f0 := fin false (fun q => by cases q) (fun _ w => t2 ⟨w.1, w.2.1, w.2.2.1⟩)
      exact h115 _ _ _ _ ⟨fun q => absurd q (by decide), fun _ => ⟨fun _ => h181 _ _ _ (h182 _ _ _ _ (h115 _ _ _ _ ⟨fun q => absurd q (by decide), fun _ => ⟨fun _ => h181 _ _ _ (h182 _ _ _ _ f0), fun q => absurd rfl q⟩⟩)), fun q => absurd rfl q⟩⟩
    · have t1 := t1 rfl
      have one : ∀ (ax : Nat) (X : Int32), ax < 2 → X = nI ax → ((R1 (8 * i + (2 + ax))).toInt64 * (R1 (8 * i + 7)).toInt64 = -(R1 (8 * i + 6)).toInt64 * (R1 (8 * i + (4 + ax))).toInt64 → P115 (nI (8 * i)) 1 (X + 1) (mW (ax_rI C (M + 10) R1) M v t)) → (¬ (R1 (8 * i + (2 + ax))).toInt64 * (R1 (8 * i + 7)).toInt64 = -(R1 (8 * i + 6)).toInt64 * (R1 (8 * i + (4 + ax))).toInt64 → P115 (nI (8 * i)) 0 (X + 1) (mW (ax_rI C (M + 10) R1) M v t)) → P115 (nI (8 * i)) 1 X (mW (ax_rI C (M + 10) R1) M v t) := by
        intro ax X hax hX p1 p0
        subst hX
        refine h115 _ _ _ _ ⟨fun q => n_absurd q (by simp (disch := omega) only [n_lit0, n_lit1, n_lit2, n_lit3, n_lit4, n_lit5, n_lit6, n_lit7, n_lit8, n_lit9, n_lit10, n_lit11, n_lit12, n_lit13, n_lit14, n_lit15, n_lit16, n_lit17, n_lit18, n_lit19, n_lit20, n_lit21, n_lit22, n_lit23, n_lit24, n_lit30, n_lit31, n_lit32, n_lit45, n_lit48, n_lit49, n_lit57, n_lit59, n_lit60, n_lit67, n_lit76, n_lit77, n_lit90, n_lit96, n_lit97, n_lit98, n_lit99, n_lit100, n_lit119, n_lit120, n_lit127, n_lit128, n_lit196, n_lit200, n_lit208, n_lit294, n_lit340, n_lit341, n_lit392, n_lit490, n_lit491, n_lit500, n_lit588, n_lit589, n_lit999, n_lit1178, n_lit5301, n_lit5890, n_lit46656, n_add, n_mul, n_sub, n_lt_t, n_lt_f, n_le_t, n_le_f, n_eq_t, n_eq_f, n_clamp, n_in_t, ax_sm_s, true_and, and_true, not_true_eq_false, not_false_eq_true, true_imp, false_imp, imp_true, and_self, ax_wI_2, ax_rI_2, ax_wI_t, ax_wI_n, ax_rI_t, ax_rI_n, n_up_t, n_up_n, ne_eq, or_true, true_or, false_or, or_false, some_ex, n_none1, n_none2, ite_true, ite_false]), fun _ => ⟨fun q => absurd q (by decide), fun _ => ⟨h.1, ?_⟩⟩⟩
        show ax_sm (C.2.2 M 14) _
        rw [k10.2.2, n_lit7, n_lit2, n_lit6, n_lit4, n_add, n_add, n_add, n_add, n_add, n_add]
        refine ⟨k10.1, i10 _ (by omega), h.1, ?_⟩
        show ax_sm (C.2.2 M 14) _
        rw [k10.2.2]
        refine ⟨k10.1, i10 _ (by omega), h.1, ?_⟩
        show ax_sm (C.2.2 M 14) _
        rw [k10.2.2]
        refine ⟨k10.1, i10 _ (by omega), h.1, ?_⟩
        show ax_sm (C.2.2 M 14) _
        rw [k10.2.2]
        refine ⟨k10.1, i10 _ (by omega), ?_⟩
        rw [n_clamp (by omega), n_clamp (by omega), n_clamp (by omega), n_clamp (by omega), rd1, show 8 * i + 2 + ax = 8 * i + (2 + ax) by omega, show 8 * i + 4 + ax = 8 * i + (4 + ax) by omega, Int64.mul_comm (R1 (8 * i + 7)).toInt64]
        exact ⟨fun q => h181 _ _ _ (h182 _ _ _ _ (p0 q)), fun q => h182 _ _ _ _ (p1 q)⟩
      have e0 : ((R1 (8 * i + (2 + 0))).toInt64 * (R1 (8 * i + 7)).toInt64 = -(R1 (8 * i + 6)).toInt64 * (R1 (8 * i + (4 + 0))).toInt64) = ((mg1 row row2 m 2).toInt64 * (mg1 row row2 m 7).toInt64 = -(mg1 row row2 m 6).toInt64 * (mg1 row row2 m 4).toInt64) := by
        rw [g1 (2 + 0) (by omega), g1 7 (by omega), g1 6 (by omega), g1 (4 + 0) (by omega)]
      have e1 : ((R1 (8 * i + (2 + 1))).toInt64 * (R1 (8 * i + 7)).toInt64 = -(R1 (8 * i + 6)).toInt64 * (R1 (8 * i + (4 + 1))).toInt64) = ((mg1 row row2 m 3).toInt64 * (mg1 row row2 m 7).toInt64 = -(mg1 row row2 m 6).toInt64 * (mg1 row row2 m 5).toInt64) := by
        rw [g1 (2 + 1) (by omega), g1 7 (by omega), g1 6 (by omega), g1 (4 + 1) (by omega)]
      have hfe : hf (mg1 row row2 m) 0 = (((mg1 row row2 m 2).toInt64 * (mg1 row row2 m 7).toInt64 = -(mg1 row row2 m 6).toInt64 * (mg1 row row2 m 4).toInt64) ∧ ((mg1 row row2 m 3).toInt64 * (mg1 row row2 m 7).toInt64 = -(mg1 row row2 m 6).toInt64 * (mg1 row row2 m 5).toInt64)) := rfl
      refine one 0 0 (by omega) rfl (fun q0 => one 1 _ (by omega) rfl (fun q1 => ?_) fun q1 => ?_) fun q0 => ?_
      · rw [e0] at q0; rw [e1] at q1
        exact fin true (fun _ => ⟨t1.2.1, t1.2.2, by rw [hfe]; exact ⟨q0, q1⟩⟩) (fun q => by cases q)
      · rw [e1] at q1
        exact fin false (fun q => by cases q) (fun _ w => by have := w.2.2.2; rw [hfe] at this; exact q1 this.2)
      · rw [e0] at q0
        have f0 := fin false (fun q => by cases q) (fun _ w => by have := w.2.2.2; rw [hfe] at this; exact q0 this.1)
        exact h115 _ _ _ _ ⟨fun q => absurd q (by decide), fun _ => ⟨fun _ => h181 _ _ _ (h182 _ _ _ _ f0), fun q => absurd rfl q⟩⟩
  -- the in-handle
  have m72 : ∀ fl : Bool, (fl = true → 0 < row 6 ∧ row 6 = row2 (8 * m + 6) ∧ row 7 = row2 (8 * m + 7)) → (fl = false → ¬ (0 < row 6 ∧ row 6 = row2 (8 * m + 6) ∧ row 7 = row2 (8 * m + 7))) → P72 (nI (8 * i)) (nI (8 * j)) (bI fl) (mW C M v t) := by
    intro fl t1 t2
    have w1 : ∀ X, ax_wI (mW C M v t) (M + 10) (8 * i + 2) X = mW (ax_rI C (M + 10) (va_up R (8 * i + 2) X)) M v t := fun X => by rw [ax_wI_rI, rd, mW_10]
    refine h72 _ _ _ _ ⟨h.1, h.1, ?_⟩
    rw [r14, n_lit2, n_add, n_add, n_succ, n_succ]
    refine ⟨k10.1, i10 _ (by omega), k10.1, i10 _ (by omega), h.1, h.1, ?_⟩
    show ax_sm (C.2.2 M 14) (fun b8 => _ ∧ _ ∧ ax_sm (C.2.2 M 14) _)
    rw [k10.2.2]
    refine ⟨k10.1, i10 _ (by omega), k10.1, i10 _ (by omega), ?_⟩
    rw [n_clamp (by omega), n_clamp (by omega), n_clamp (by omega), n_clamp (by omega), rd, w1, ax_wI_rI, mW_n (by omega) (by omega), ax_rI_t rfl, mW_10, ax_rI_rI, n_up_n (by omega), show 8 * i + 2 + 1 = 8 * i + 3 by omega, show 8 * j + 2 + 1 = 8 * j + 3 by omega, hR1]
    exact m115 fl t1 t2
  rw [r14, n_lit8, n_mul, n_mul, n_lit6, n_add, n_add, n_lit7, n_add, n_add]
  refine ⟨k10.1, i10 _ (by omega), ?_⟩
  rw [n_clamp (by omega), rd, r1 6 (by omega)]
  refine ⟨fun q => h71 _ _ _ (m72 false (fun q => by cases q) fun _ w => absurd q (Int32.not_le.mpr w.1)), fun q => ⟨h.1, k10.1, i10 _ (by omega), h.1, ?_⟩⟩
  refine ⟨k10.1, i10 _ (by omega), ?_⟩
  rw [n_clamp (by omega), rd, r1 6 (by omega), r2 6 (by omega)]
  refine ⟨fun q2 => h71 _ _ _ (m72 false (fun q => by cases q) fun _ w => q2 w.2.1), fun q2 => ⟨h.1, ?_⟩⟩
  refine ⟨k10.1, i10 _ (by omega), h.1, ?_⟩
  refine ⟨k10.1, i10 _ (by omega), ?_⟩
  rw [n_clamp (by omega), n_clamp (by omega), rd, r1 7 (by omega), r2 7 (by omega)]
  exact ⟨fun q3 => h71 _ _ _ (m72 false (fun q => by cases q) fun _ w => q3 w.2.2), fun q3 => m72 true (fun _ => ⟨Int32.not_le.mp q, q2, q3⟩) (fun q => by cases q)⟩
theorem c8_meet {v : Nat → Int32} {t : Int32} {p o n : Nat} {x y : Int32} (h : mK S C M) (hx : x = nI p) (hy : y = nI o) (hp : p < 6) (ho : o < 6) (hn : v (1 + 98 * p) = nI n) (hn1 : 1 ≤ n) (hn2 : n ≤ 12) : ax_CI l D mt_X8_meet [ax_r (some M), ax_i x, ax_i y] S (mW C M v t) (fun r C' => r = bI (ms (bk v p) n (bk v o)) ∧ C' = mW C M v t) := by
  have e0 := h.2.1.2.2
  refine vc_X8_meet h.1 (s8_many h hx hp hn ⟨h.1, ?_⟩)
  rw [n_lit1, n_sub hn1]
  have b1 : ∀ w, v (3 + 98 * p + (8 * (n - 1) + w)) = bk v p (8 * (n - 1) + w) := fun w => rfl
  have b2 : ∀ w, v (3 + 98 * o + (8 * 0 + w)) = bk v o w := fun w => by unfold bk; exact congrArg _ (by omega)
  refine (c8_node hx rfl (w := 0) rfl).use ?_
  rw [mr_r, e0]
  refine ⟨h.2.1.1, (mr_in h (by omega)).2, h.1, (c8_node hy (k := 0) rfl (w := 0) rfl).use ?_⟩
  refine ⟨h.2.1.1, (mr_in h (by omega)).2, ?_⟩
  rw [n_clamp (by omega), n_clamp (by omega), mW_v, b1, b2]
  refine ⟨fun q => ⟨?_, rfl⟩, fun q => ⟨h.1, (c8_node hx rfl (w := 1) rfl).use ?_⟩⟩
  · have q : ¬ bk v p (8 * (n - 1)) = bk v o 0 := q
    simp [ms, q, bI]
  · rw [mr_r, e0]
    refine ⟨h.2.1.1, (mr_in h (by omega)).2, h.1, (c8_node hy (k := 0) rfl (w := 1) rfl).use ?_⟩
    try rw [mr_r, e0]
    refine ⟨h.2.1.1, (mr_in h (by omega)).2, ?_⟩
    rw [n_clamp (by omega), n_clamp (by omega), mW_v, b1, b2]
    have q : bk v p (8 * (n - 1)) = bk v o 0 := q
    refine ⟨fun q2 => ⟨?_, rfl⟩, fun q2 => ⟨?_, rfl⟩⟩
    · simp [ms, q2, bI]
    · simp [ms, q, q2, bI]
      rfl
end
