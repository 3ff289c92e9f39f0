/-! ===== the class's text: numbers ===== -/
theorem abs_bt {d : Int32} (h : -1000 ≤ d.toInt ∧ d.toInt ≤ 1000) : ((if 0 ≤ d then d else 0 - d) ≤ 200) = (bt d (-200) 200 = true) := by
  have e0 : (0 : Int32).toInt = 0 := rfl
  have e1 : (200 : Int32).toInt = 200 := rfl
  have e2 : (-200 : Int32).toInt = -200 := rfl
  unfold bt
  simp only [Bool.and_eq_true, Bool.not_eq_true', decide_eq_false_iff_not, Int32.not_lt, Int32.le_iff_toInt_le, e1, e2]
  by_cases z : 0 ≤ d
  · have z' := z
    rw [Int32.le_iff_toInt_le, e0] at z'
    rw [e0, if_pos z']
    apply propext
    omega
  · have z' := z
    rw [Int32.le_iff_toInt_le, e0] at z'
    rw [e0, if_neg z', Int32.toInt_sub, e0, Int.bmod_eq_of_le (by omega) (by omega)]
    apply propext
    omega
theorem dg_nz {T : Nat → Int32} {L : Nat} : ∀ (f a v : Nat), v ≤ (dg T L f a v).1
  | 0, a, v => Nat.le_refl _
  | f + 1, a, v => by
    unfold dg
    split
    · have := dg_nz (T := T) (L := L) f (a + 1) (10 * v + ((hr T L a).toInt.toNat - 48))
      exact Nat.le_trans (by omega) this
    · exact Nat.le_refl _
section
variable {l : Launch} {D : ax_D} {S : ax_S} {E C : ax_C} {A L : Nat} {T : Nat → Int32}
def tx0 (S : ax_S) (C : ax_C) (A : Nat) (T : Nat → Int32) (L : Nat) : Prop := S.1 A = 7 ∧ S.1 (A + 1) = 13 ∧ S.2.1 (A + 1) = 120 ∧ C.2.2 A 0 = some (A + 1) ∧ C.1 A 1 = nI L ∧ byt T L ∧ ∀ q, q < L → C.1 (A + 1) q = T q
theorem tx0_r {f : Nat → Int32} (h : tx0 S C A T L) (hf : f 1 = C.1 A 1) : tx0 S (ax_rI C A f) A T L := by
  obtain ⟨h1, h2, h3, h4, h5, h6, h7⟩ := h
  refine ⟨h1, h2, h3, h4, ?_, h6, ?_⟩
  · rw [ax_rI_t rfl, hf]; exact h5
  · rw [ax_rI_n (by omega)]; exact h7
theorem tx0_w {k : Nat} {x : Int32} (h : tx0 S C A T L) (hk : k ≠ 1) : tx0 S (ax_wI C A k x) A T L := by
  rw [ax_wI_rI]
  exact tx0_r h (n_up_n (by omega))
theorem s_nb {a : Nat} {P : Int32 → ax_C → Prop} (h : tx0 S C A T L) (ha : C.1 A 2 = nI a) (hal : a < 1000) (hP : P (hr T L a) C) : ax_CI l D mt_X6_nextByte [ax_r (some A)] S C P := by
  obtain ⟨h1, h2, h3, h4, h5, h6, h7⟩ := h
  have hL := h6.1
  refine vc_X6_nextByte h1 ⟨h1, ?_⟩
  rw [ha, h5, h4]
  unfold hr at hP
  refine ⟨fun q => n_absurd q (nI_pos (by omega)), fun _ => ⟨h1, h1, fun q => ?_, fun q => ⟨h1, fun q2 => n_absurd q2 ?_, fun _ => ⟨h1, h1, ?_⟩⟩⟩⟩
  · rw [if_neg (fun w => nI_ge w (by omega) q)] at hP
    exact hP
  · have : a < L := by
      rcases Nat.lt_or_ge a L with w | w
      · exact w
      · exact absurd (nI_le w (by omega)) q
    exact nI_ge (b := 120) (by omega) (by omega)
  · have : a < L := by
      rcases Nat.lt_or_ge a L with w | w
      · exact w
      · exact absurd (nI_le w (by omega)) q
    rw [if_pos this] at hP
    refine ⟨h2, by rw [h3]; exact vp_in_nI (by omega) (by omega), ?_⟩
    rw [n_clamp (by omega), h7 a this]
    exact hP
theorem s_nbD {P : Int32 → ax_C → Prop} (h : tx0 S C A T L) (hP : ∀ x, P x C) : ax_CI l D mt_X6_nextByte [ax_r (some A)] S C P := by
  obtain ⟨h1, h2, h3, h4, h5, h6, h7⟩ := h
  have hL := h6.1
  refine vc_X6_nextByte h1 ⟨h1, fun _ => hP _, fun q => ⟨h1, h1, fun _ => hP _, fun q2 => ⟨h1, fun _ => hP _, fun q3 => ⟨h1, h1, ?_⟩⟩⟩⟩
  rw [h4]
  obtain ⟨k, hk, e⟩ := n_ix (n := 120) (x := C.1 A 2) (by omega) q (Int32.not_le.mp q3)
  rw [e]
  exact ⟨h2, by rw [h3]; exact vp_in_nI hk (by omega), hP _⟩
theorem s_stop {x : Int32} {P : ax_C → Prop} (h : tx0 S C A T L) (hf : C.1 A 3 = NO) (hP : P (ax_wI C A 3 x)) : ax_CV l D mt_X6_stopAt [ax_r (some A), ax_i x] S C P :=
  vc_X6_stopAt h.1 ⟨h.1, fun q => absurd hf q, fun _ => ⟨h.1, hP⟩⟩
theorem s_stopD {x : Int32} {P : ax_C → Prop} (h : tx0 S C A T L) (hf : C.1 A 3 ≠ NO) (hP : P C) : ax_CV l D mt_X6_stopAt [ax_r (some A), ax_i x] S C P :=
  vc_X6_stopAt h.1 ⟨h.1, fun _ => hP, fun q => absurd q hf⟩
theorem NO_n (k : Nat) (h : k < 1000) : nI k ≠ NO := fun w => by
  have := congrArg Int32.toInt w
  rw [n_toInt (by omega)] at this
  have e : NO.toInt = -100000007 := rfl
  omega
theorem s_tb {a c : Nat} {x : Int32} {P : ax_C → Prop} (h : tx0 S C A T L) (ha : C.1 A 2 = nI a) (hal : a < 900) (hf : C.1 A 3 = NO) (hx : x = nI c) (h1 : hr T L a = nI c → P (ax_wI C A 2 (nI (a + 1)))) (h0 : hr T L a ≠ nI c → P (ax_wI C A 3 (nI a))) : ax_CV l D mt_X6_takeByte [ax_r (some A), ax_i x] S C P := by
  subst hx
  refine vc_X6_takeByte h.1 (s_nb h ha (by omega) ⟨fun q => ⟨h.1, s_stop h hf ?_⟩, fun q => ⟨h.1, h.1, ?_⟩⟩)
  · rw [ha]; exact h0 q
  · rw [ha, n_succ]; exact h1 q
theorem s_tbD {x : Int32} {P : ax_C → Prop} (h : tx0 S C A T L) (hf : C.1 A 3 ≠ NO) (hP : ∀ y, P (ax_wI C A 2 y)) : ax_CV l D mt_X6_takeByte [ax_r (some A), ax_i x] S C P := by
  refine vc_X6_takeByte h.1 (s_nbD h fun y => ⟨fun q => ⟨h.1, s_stopD h hf ?_⟩, fun q => ⟨h.1, h.1, hP _⟩⟩)
  have := hP (C.1 A 2)
  have e : ax_wI C A 2 (C.1 A 2) = C := by
    rw [ax_wI_rI]
    have : va_up (C.1 A) 2 (C.1 A 2) = C.1 A := by
      funext j
      by_cases z : j = 2
      · rw [n_up_t z, z]
      · rw [n_up_n z]
    rw [this, ax_rI_id]
  rw [e] at this
  exact this
theorem wI_2 (C : ax_C) (A k : Nat) (x y : Int32) : ax_wI (ax_wI C A k x) A k y = ax_wI C A k y := by
  rw [ax_wI_rI, ax_wI_rI, ax_wI_rI, ax_rI_rI, ax_rI_t rfl, bx_uu]
theorem s_dig {a : Nat} {P : Int32 → ax_C → Prop} (h : tx0 S C A T L) (ha : C.1 A 2 = nI a) (hal : a < 500) (hd : isd (hr T L a) = true) (hP : P (nI (min (nuV T L a).1 2000)) (ax_wI C A 2 (nI (nuV T L a).2))) : ax_CI l D mt_X6_takeDigits [ax_r (some A)] S C P := by
  have hL := h.2.2.2.2.2.1.1
  refine vc_X6_takeDigits h.1 fun P4 P39 h4 h39 => ?_
  have key : ∀ x y : Int32, ∀ v d : Nat, d ≤ 9 → x = nI (min v 2000) → y = nI (48 + d) → (if 2000 < ((10 * x) + y) - 48 then (2000 : Int32) else ((10 * x) + y) - 48) = nI (min (10 * v + d) 2000) := by
    intro x y v d hd hx hy
    subst hx hy
    rw [n_lit10, n_mul, n_add, n_lit48, n_sub (by omega), show (2000 : Int32) = nI 2000 from rfl]
    by_cases z : 2000 < 10 * min v 2000 + (48 + d) - 48
    · rw [if_pos (nI_lt z (by omega))]
      congr 1
      omega
    · rw [if_neg (nI_nlt (by omega) (by omega))]
      congr 1
      omega
  -- a digit is taken
  have take : ∀ (k v b : Nat) (C1 : ax_C), C1 = ax_wI C A 2 (nI b) → b < 1000 → isd (hr T L b) = true → k < 120 → (¬ (k = 1 ∧ v = 0)) → P4 (nI (min (10 * v + ((hr T L b).toInt.toNat - 48)) 2000)) (nI (k + 1)) (ax_wI C A 2 (nI (b + 1))) → P4 (nI (min v 2000)) (nI k) C1 := by
    intro k v b C1 hC1 hb hdb hk hk1 hn
    subst hC1
    obtain ⟨d, d1, d2, d3⟩ := isd_v hdb
    have hT : tx0 S (ax_wI C A 2 (nI b)) A T L := tx0_w h (by omega)
    have hat : (ax_wI C A 2 (nI b)).1 A 2 = nI b := by rw [ax_wI_t rfl, n_up_t rfl]
    have b39 : P39 (nI (min v 2000)) (nI k) (hr T L b) (ax_wI C A 2 (nI b)) := by
      refine h39 _ _ _ _ ⟨h.1, h.1, ?_⟩
      rw [hat, n_succ, n_succ, wI_2, key _ _ v d d1 rfl d2]
      rw [d3] at hn
      exact hn
    refine h4 _ _ _ ⟨fun q => n_absurd q (by simp (disch := omega) only [n_lit0, n_lit1, n_lit2, n_lit3, n_lit4, n_lit5, n_lit6, n_lit7, n_lit8, n_lit9, n_lit10, n_lit11, n_lit12, n_lit13, n_lit14, n_lit15, n_lit16, n_lit17, n_lit18, n_lit19, n_lit20, n_lit21, n_lit22, n_lit23, n_lit24, n_lit30, n_lit31, n_lit32, n_lit45, n_lit48, n_lit49, n_lit57, n_lit59, n_lit60, n_lit67, n_lit76, n_lit77, n_lit90, n_lit96, n_lit97, n_lit98, n_lit99, n_lit100, n_lit119, n_lit120, n_lit127, n_lit128, n_lit196, n_lit200, n_lit208, n_lit294, n_lit340, n_lit341, n_lit392, n_lit490, n_lit491, n_lit500, n_lit588, n_lit589, n_lit999, n_lit1178, n_lit5301, n_lit5890, n_lit46656, n_add, n_mul, n_sub, n_lt_t, n_lt_f, n_le_t, n_le_f, n_eq_t, n_eq_f, n_clamp, n_in_t, ax_sm_s, true_and, and_true, not_true_eq_false, not_false_eq_true, true_imp, false_imp, imp_true, and_self, ax_wI_2, ax_rI_2, ax_wI_t, ax_wI_n, ax_rI_t, ax_rI_n, n_up_t, n_up_n, ne_eq, or_true, true_or, false_or, or_false, some_ex, n_none1, n_none2, ite_true, ite_false]), fun _ => s_nb hT hat (by omega) ⟨fun q => ?_, fun _ => ⟨fun q => ?_, fun _ => ⟨fun _ => b39, fun q => ⟨fun _ => b39, fun q2 => ?_⟩⟩⟩⟩⟩
    · rw [d2] at q
      exact n_absurd q (nI_nlt (b := 48) (by omega) (by omega))
    · rw [d2] at q
      exact n_absurd q (nI_nlt (a := 57) (by omega) (by omega))
    · exfalso
      have k1 : k = 1 := (nI_eq (b := 1) (by omega) (by omega)).mp q
      have v0 : min v 2000 = 0 := (nI_eq (b := 0) (by omega) (by omega)).mp q2
      exact hk1 ⟨k1, by omega⟩
  have stop : ∀ (k v b : Nat), b < 1000 → (120 ≤ k ∨ isd (hr T L b) = false ∨ (k = 1 ∧ v = 0)) → k < 1000 → P (nI (min v 2000)) (ax_wI C A 2 (nI b)) → P4 (nI (min v 2000)) (nI k) (ax_wI C A 2 (nI b)) := by
    intro k v b hb hs hk1 hp
    have hT : tx0 S (ax_wI C A 2 (nI b)) A T L := tx0_w h (by omega)
    have hat : (ax_wI C A 2 (nI b)).1 A 2 = nI b := by rw [ax_wI_t rfl, n_up_t rfl]
    refine h4 _ _ _ ⟨fun _ => hp, fun q => s_nb hT hat (by omega) ⟨fun _ => hp, fun q1 => ⟨fun _ => hp, fun q2 => ⟨fun q3 => ?_, fun q3 => ⟨fun q4 => ?_, fun _ => hp⟩⟩⟩⟩⟩
    · exfalso
      rcases hs with w | w | w
      · exact q (nI_le (a := 120) w (by omega))
      · unfold isd bt at w
        simp only [q1, q2, decide_false, Bool.not_false, Bool.and_self] at w
        cases w
      · exact q3 (by rw [w.1]; rfl)
    · exfalso
      rcases hs with w | w | w
      · exact q (nI_le (a := 120) w (by omega))
      · unfold isd bt at w
        simp only [q1, q2, decide_false, Bool.not_false, Bool.and_self] at w
        cases w
      · exact q4 (by rw [w.2]; rfl)
  have eC : C = ax_wI C A 2 (nI a) := by
    rw [← ha, ax_wI_rI]
    have : va_up (C.1 A) 2 (C.1 A 2) = C.1 A := by
      funext j
      by_cases z : j = 2
      · rw [n_up_t z, z]
      · rw [n_up_n z]
    rw [this, ax_rI_id]
  unfold nuV at hP
  have st := take 0 0 a C eC (by omega) hd (by omega) (by omega)
  rw [show nI (min 0 2000) = 0 from rfl] at st
  refine st ?_
  by_cases z : hr T L a = 48
  · rw [if_pos z] at hP
    rw [z]
    exact stop 1 0 (a + 1) (by omega) (Or.inr (Or.inr ⟨rfl, rfl⟩)) (by omega) hP
  · rw [if_neg z] at hP
    have h119 : dg T L 120 a 0 = dg T L 119 (a + 1) (10 * 0 + ((hr T L a).toInt.toNat - 48)) := by
      show (if isd (hr T L a) = true then _ else _) = _
      rw [if_pos hd]
    rw [h119] at hP
    have hnz : 1 ≤ 10 * 0 + ((hr T L a).toInt.toNat - 48) := by
      obtain ⟨d, d1, d2, d3⟩ := isd_v hd
      rw [d3]
      rcases Nat.eq_zero_or_pos d with w | w
      · subst w; exact absurd d2 z
      · omega
    generalize 10 * 0 + ((hr T L a).toInt.toNat - 48) = v1 at *
    have loop : ∀ (m k v : Nat), k + m = 120 → 1 ≤ k → 1 ≤ v → P (nI (min (dg T L m (a + k) v).1 2000)) (ax_wI C A 2 (nI (dg T L m (a + k) v).2)) → P4 (nI (min v 2000)) (nI k) (ax_wI C A 2 (nI (a + k))) := by
      intro m
      induction m with
      | zero =>
        intro k v hk hk1 hv hp
        exact stop k v (a + k) (by omega) (Or.inl (by omega)) (by omega) hp
      | succ m ih =>
        intro k v hk hk1 hv hp
        cases hd2 : isd (hr T L (a + k))
        · have e : dg T L (m + 1) (a + k) v = (v, a + k) := by
            show (if isd (hr T L (a + k)) = true then _ else _) = _
            rw [if_neg (by rw [hd2]; decide)]
          rw [e] at hp
          exact stop k v (a + k) (by omega) (Or.inr (Or.inl hd2)) (by omega) hp
        · have e : dg T L (m + 1) (a + k) v = dg T L m (a + k + 1) (10 * v + ((hr T L (a + k)).toInt.toNat - 48)) := by
            show (if isd (hr T L (a + k)) = true then _ else _) = _
            rw [if_pos hd2]
          rw [e] at hp
          refine take k v (a + k) _ rfl (by omega) hd2 (by omega) (by omega) ?_
          exact ih (k + 1) _ (by omega) (by omega) (by omega) hp
    exact loop 119 1 v1 rfl (by omega) hnz hP
end
