/-! ===== pictures ===== -/
/-- a path as it is meant: its size, whether it is closed, its row -/
abbrev ab_P : Type := Nat × Bool × (Nat → Int32)
/-- all paths: how many, and which -/
abbrev ab_V : Type := Nat × (Nat → ab_P)
def cP (C : ax_C) (i : Nat) (P : ab_P) : Prop := P.1 ≤ 12 ∧ C.1 i 1 = nI P.1 ∧ C.1 i 2 = bI P.2.1 ∧ ∀ q, q < 8 * P.1 → C.1 (i + 1) q = P.2.2 q
def ps (S : ax_S) (C : ax_C) (p : Nat) (σ : Nat → Nat) : Prop := S.1 p = 5 ∧ S.1 (p + 1) = 14 ∧ S.2.1 (p + 1) = 6 ∧ C.2.2 p 0 = some (p + 1) ∧ (∀ k, k < 6 → σ k < 6 ∧ C.2.2 (p + 1) k = some (p + 2 + 2 * σ k)) ∧ (∀ j k, j < 6 → k < 6 → σ j = σ k → j = k) ∧ ∀ j, j < 6 → pA S C (p + 2 + 2 * j)
def sh (C : ax_C) (p : Nat) (σ : Nat → Nat) (V : ab_V) : Prop := V.1 ≤ 6 ∧ C.1 p 1 = nI V.1 ∧ ∀ k, k < V.1 → cP C (p + 2 + 2 * σ k) (V.2 k)
def pc (S : ax_S) (C : ax_C) (p : Nat) (V : ab_V) : Prop := ∃ σ, ps S C p σ ∧ sh C p σ V
theorem cP_fr {C C' : ax_C} {i : Nat} {P : ab_P} (h : cP C i P) (h1 : C'.1 i = C.1 i) (h2 : C'.1 (i + 1) = C.1 (i + 1)) : cP C' i P := by
  unfold cP
  rw [h1, h2]
  exact h
theorem ps_1 {S : ax_S} {C : ax_C} {p k : Nat} {σ : Nat → Nat} (h : ps S C p σ) (hk : k < 6) : σ k < 6 := (h.2.2.2.2.1 k hk).1
theorem ps_2 {S : ax_S} {C : ax_C} {p k : Nat} {σ : Nat → Nat} (h : ps S C p σ) (hk : k < 6) : C.2.2 (p + 1) k = some (p + 2 + 2 * σ k) := (h.2.2.2.2.1 k hk).2
theorem ps_3 {S : ax_S} {C : ax_C} {p j k : Nat} {σ : Nat → Nat} (h : ps S C p σ) (hj : j < 6) (hk : k < 6) (hjk : j ≠ k) : σ j ≠ σ k := fun w => hjk (h.2.2.2.2.2.1 j k hj hk w)
theorem ps_4 {S : ax_S} {C : ax_C} {p k : Nat} {σ : Nat → Nat} (h : ps S C p σ) (hk : k < 6) : pA S C (p + 2 + 2 * σ k) := h.2.2.2.2.2.2 _ (ps_1 h hk)
theorem pA_2 {S : ax_S} {C C' : ax_C} {i : Nat} (h : pA S C i) (e : C'.2.2 i = C.2.2 i) : pA S C' i := by
  obtain ⟨z1, z2, z3, z4⟩ := h
  exact ⟨z1, z2, z3, by rw [e]; exact z4⟩
theorem ps_fr {S : ax_S} {C C' : ax_C} {p : Nat} {σ : Nat → Nat} (h : ps S C p σ) (hf : ∀ b, p ≤ b → b < p + 14 → C'.2.2 b = C.2.2 b) : ps S C' p σ := by
  obtain ⟨h1, h2, h3, h4, h5, h6, h7⟩ := h
  exact ⟨h1, h2, h3, by rw [hf p (by omega) (by omega)]; exact h4, fun k hk => ⟨(h5 k hk).1, by rw [hf (p + 1) (by omega) (by omega)]; exact (h5 k hk).2⟩, h6, fun j hj => pA_2 (h7 j hj) (hf _ (by omega) (by omega))⟩
theorem ps_e {S : ax_S} {C C' : ax_C} {p : Nat} {σ : Nat → Nat} (h : ps S C p σ) (hf : C'.2 = C.2) : ps S C' p σ := ps_fr h fun b _ _ => by rw [hf]
theorem sh_fr {S : ax_S} {C C' : ax_C} {p : Nat} {σ : Nat → Nat} {V : ab_V} (h0 : ps S C p σ) (h : sh C p σ V) (hf : ∀ b, p ≤ b → b < p + 14 → C'.1 b = C.1 b) : sh C' p σ V := by
  refine ⟨h.1, by rw [hf p (by omega) (by omega)]; exact h.2.1, fun k hk => ?_⟩
  have := ps_1 (k := k) h0 (by have := h.1; omega)
  exact cP_fr (h.2.2 k hk) (hf _ (by omega) (by omega)) (hf _ (by omega) (by omega))
theorem pc_fr {S : ax_S} {C C' : ax_C} {p : Nat} {V : ab_V} (h : pc S C p V) (hf : ∀ b, p ≤ b → b < p + 14 → C'.1 b = C.1 b) (hf2 : ∀ b, p ≤ b → b < p + 14 → C'.2.2 b = C.2.2 b) : pc S C' p V := by
  obtain ⟨σ, h1, h2⟩ := h
  exact ⟨σ, ps_fr h1 hf2, sh_fr h1 h2 hf⟩
/-- one path of a picture is changed -/
theorem sh_set {S : ax_S} {C C' : ax_C} {p k : Nat} {σ : Nat → Nat} {V : ab_V} {P : ab_P} (h0 : ps S C p σ) (h : sh C p σ V) (hk : k < V.1) (hf : ∀ b, p ≤ b → b < p + 14 → b ≠ p + 2 + 2 * σ k → b ≠ p + 2 + 2 * σ k + 1 → C'.1 b = C.1 b) (hP : cP C' (p + 2 + 2 * σ k) P) : sh C' p σ (V.1, va_up V.2 k P) := by
  have hV := h.1
  refine ⟨h.1, by rw [hf p (by omega) (by omega) (by omega) (by omega)]; exact h.2.1, fun j hj => ?_⟩
  have hj : j < V.1 := hj
  show cP C' _ (va_up V.2 k P j)
  by_cases z : j = k
  · rw [z, n_up_t rfl]; exact hP
  · rw [n_up_n z]
    have a1 := ps_1 (k := j) h0 (by omega)
    have a2 := ps_1 (k := k) h0 (by omega)
    have a3 := ps_3 h0 (j := j) (k := k) (by omega) (by omega) z
    exact cP_fr (h.2.2 j hj) (hf _ (by omega) (by omega) (by omega) (by omega)) (hf _ (by omega) (by omega) (by omega) (by omega))
/-- a path less -/
def rmP (V : ab_V) (k : Nat) : ab_V := (V.1 - 1, fun j => if j < k then V.2 j else V.2 (j + 1))
section
variable {l : Launch} {D : ax_D} {S : ax_S} {C : ax_C}
theorem c_copyFromV {p p2 : Nat} {σ σ2 : Nat → Nat} {V : ab_V} (h : ps S C p σ) (h2 : ps S C p2 σ2) (hs : sh C p2 σ2 V) (hd : p + 14 ≤ p2 ∨ p2 + 14 ≤ p) : ax_CV l D mt_X4_copyFrom [ax_r (some p), ax_r (some p2)] S C (fun C' => C'.2 = C.2 ∧ (∀ b, (b < p ∨ p + 14 ≤ b) → C'.1 b = C.1 b) ∧ sh C' p σ V) := by
  have hV := hs.1
  refine vc_X4_copyFrom h.1 fun P2 hP2 => ?_
  have loop : ∀ (m k : Nat) (C1 : ax_C), k + m = V.1 → C1.2 = C.2 → (∀ b, (b < p ∨ p + 14 ≤ b) → C1.1 b = C.1 b) → (∀ j, j < k → cP C1 (p + 2 + 2 * σ j) (V.2 j)) → P2 (nI k) C1 := by
    intro m
    induction m with
    | zero =>
      intro k C1 hk e2 e1 hc
      have : k = V.1 := by omega
      subst this
      refine hP2 _ _ ⟨h2.1, ?_⟩
      rw [e1 p2 (by omega), hs.2.1]
      refine ⟨fun _ => ⟨h2.1, h.1, e2, fun b hb => ?_, hs.1, ?_, fun j hj => ?_⟩, fun z => n_absurd (by simp (disch := omega) only [n_lit0, n_lit1, n_lit2, n_lit3, n_lit4, n_lit5, n_lit6, n_lit7, n_lit8, n_lit9, n_lit10, n_lit11, n_lit12, n_lit13, n_lit14, n_lit15, n_lit16, n_lit17, n_lit18, n_lit19, n_lit20, n_lit21, n_lit22, n_lit23, n_lit24, n_lit30, n_lit31, n_lit32, n_lit45, n_lit48, n_lit49, n_lit57, n_lit59, n_lit60, n_lit67, n_lit76, n_lit77, n_lit90, n_lit96, n_lit97, n_lit98, n_lit99, n_lit100, n_lit119, n_lit120, n_lit127, n_lit128, n_lit196, n_lit200, n_lit208, n_lit294, n_lit340, n_lit341, n_lit392, n_lit490, n_lit491, n_lit500, n_lit588, n_lit589, n_lit999, n_lit1178, n_lit5301, n_lit5890, n_lit46656, n_add, n_mul, n_sub, n_lt_t, n_lt_f, n_le_t, n_le_f, n_eq_t, n_eq_f, n_clamp, n_in_t, ax_sm_s, true_and, and_true, not_true_eq_false, not_false_eq_true, true_imp, false_imp, imp_true, and_self, ax_wI_2, ax_rI_2, ax_wI_t, ax_wI_n, ax_rI_t, ax_rI_n, n_up_t, n_up_n, ne_eq, or_true, true_or, false_or, or_false, some_ex, n_none1, n_none2, ite_true, ite_false]) z⟩
      · rw [ax_wI_n (by omega)]; exact e1 b hb
      · rw [ax_wI_t rfl]; exact n_up_t rfl
      · have := ps_1 (k := j) h (by omega)
        exact cP_fr (hc j hj) (ax_wI_n (by omega)) (ax_wI_n (by omega))
    | succ m ih =>
      intro k C1 hk e2 e1 hc
      refine hP2 _ _ ⟨h2.1, ?_⟩
      rw [e1 p2 (by omega), hs.2.1, e2, h.2.2.2.1, h2.2.2.2.1]
      refine ⟨fun z => n_absurd z (by simp (disch := omega) only [n_lit0, n_lit1, n_lit2, n_lit3, n_lit4, n_lit5, n_lit6, n_lit7, n_lit8, n_lit9, n_lit10, n_lit11, n_lit12, n_lit13, n_lit14, n_lit15, n_lit16, n_lit17, n_lit18, n_lit19, n_lit20, n_lit21, n_lit22, n_lit23, n_lit24, n_lit30, n_lit31, n_lit32, n_lit45, n_lit48, n_lit49, n_lit57, n_lit59, n_lit60, n_lit67, n_lit76, n_lit77, n_lit90, n_lit96, n_lit97, n_lit98, n_lit99, n_lit100, n_lit119, n_lit120, n_lit127, n_lit128, n_lit196, n_lit200, n_lit208, n_lit294, n_lit340, n_lit341, n_lit392, n_lit490, n_lit491, n_lit500, n_lit588, n_lit589, n_lit999, n_lit1178, n_lit5301, n_lit5890, n_lit46656, n_add, n_mul, n_sub, n_lt_t, n_lt_f, n_le_t, n_le_f, n_eq_t, n_eq_f, n_clamp, n_in_t, ax_sm_s, true_and, and_true, not_true_eq_false, not_false_eq_true, true_imp, false_imp, imp_true, and_self, ax_wI_2, ax_rI_2, ax_wI_t, ax_wI_n, ax_rI_t, ax_rI_n, n_up_t, n_up_n, ne_eq, or_true, true_or, false_or, or_false, some_ex, n_none1, n_none2, ite_true, ite_false]), fun _ => ⟨h.1, h.2.1, ?_, h2.1, h2.2.1, ?_, ?_⟩⟩
      · rw [h.2.2.1]; exact vp_in_nI (by omega) (by omega)
      · rw [h2.2.2.1]; exact vp_in_nI (by omega) (by omega)
      · obtain ⟨a1, a2⟩ := h.2.2.2.2.1 k (by omega)
        obtain ⟨b1, b2⟩ := h2.2.2.2.2.1 k (by omega)
        rw [n_clamp (by omega), a2, b2]
        have hc1 : cP C1 (p2 + 2 + 2 * σ2 k) (V.2 k) := cP_fr (hs.2.2 k (by omega)) (e1 _ (by omega)) (e1 _ (by omega))
        have hA : pA S C1 (p + 2 + 2 * σ k) := pA_2 (ps_4 h (by omega)) (by rw [e2])
        have hB : pA S C1 (p2 + 2 + 2 * σ2 k) := pA_2 (ps_4 h2 (by omega)) (by rw [e2])
        refine (c_copyFromP hA hB (by omega) (by omega) (by omega) (by rw [hc1.2.2.1]; exact bI_01 _)).use ?_
        rw [n_succ]
        refine ih (k + 1) _ (by omega) e2 (fun b hb => ?_) fun j hj => ?_
        · rw [pW_n (by omega) (by omega)]; exact e1 b hb
        · by_cases z : j = k
          · subst z
            refine ⟨hc1.1, by rw [pW_s]; exact hc1.2.1, by rw [pW_c]; exact hc1.2.2.1, fun q hq => ?_⟩
            rw [pW_row]
            show (if q < 96 then _ else _) = _
            have := hc1.1
            rw [if_pos (by omega)]; exact hc1.2.2.2 q hq
          · have a3 := ps_1 (k := j) h (by omega)
            have a4 := ps_3 (j := j) (k := k) h (by omega) (by omega) z
            exact cP_fr (hc j (by omega)) (pW_n (by omega) (by omega)) (pW_n (by omega) (by omega))
  exact loop V.1 0 C (by omega) rfl (fun _ _ => rfl) (fun j hj => by omega)
theorem c_pathAt {p : Nat} {σ : Nat → Nat} {V : ab_V} {x : Int32} (h : ps S C p σ) (hs : sh C p σ V) : ax_CR l D mt_X4_pathAt [ax_r (some p), ax_i x] S C (fun r C' => C' = C ∧ ((∃ k, k < V.1 ∧ x = nI k ∧ r = some (p + 2 + 2 * σ k)) ∨ (r = none ∧ ¬ ∃ k, k < V.1 ∧ x = nI k))) := by
  have hV := hs.1
  refine vc_X4_pathAt h.1 fun P12 h12 => ⟨fun z => h12 _ ⟨rfl, Or.inr ⟨rfl, ?_⟩⟩, fun z => ⟨h.1, ?_⟩⟩
  · rintro ⟨k, hk, rfl⟩
    exact nI_pos (by omega) z
  · rw [hs.2.1, h.2.2.2.1]
    refine ⟨fun w => ⟨h.1, h.2.1, ?_⟩, fun w => h12 _ ⟨rfl, Or.inr ⟨rfl, ?_⟩⟩⟩
    · obtain ⟨k, hk, rfl⟩ := n_ix (by omega) z w
      refine ⟨by rw [h.2.2.1]; exact vp_in_nI (by omega) (by omega), rfl, Or.inl ⟨k, hk, rfl, ?_⟩⟩
      rw [n_clamp (by omega)]
      exact ps_2 h (by omega)
    · rintro ⟨k, hk, rfl⟩
      exact w (nI_lt hk (by omega))
theorem c_newPath {p : Nat} {σ : Nat → Nat} {V : ab_V} (h : ps S C p σ) (hs : sh C p σ V) : ax_CR l D mt_X4_newPath [ax_r (some p)] S C (fun r C' => (V.1 = 6 ∧ r = none ∧ C' = C) ∨ (V.1 < 6 ∧ r = some (p + 2 + 2 * σ V.1) ∧ C'.2 = C.2 ∧ (∀ b, (b < p ∨ p + 14 ≤ b) → C'.1 b = C.1 b) ∧ sh C' p σ (V.1 + 1, va_up V.2 V.1 (0, false, fun _ => 0)))) := by
  have hV := hs.1
  refine vc_X4_newPath h.1 ⟨h.1, ?_⟩
  rw [hs.2.1, h.2.2.2.1]
  refine ⟨fun z => ?_, fun z => Or.inl ⟨?_, rfl, rfl⟩⟩
  · have hlt : V.1 < 6 := by
      rcases Nat.lt_or_ge V.1 6 with w | w
      · exact w
      · exact absurd z (nI_nlt w (by omega))
    have b1 := ps_1 h hlt
    refine ⟨h.1, h.1, h.2.1, by rw [h.2.2.1]; exact vp_in_nI (by omega) (by omega), ?_⟩
    rw [n_clamp (by omega), ps_2 h hlt]
    refine (c_makeEmpty (ps_4 h hlt).1).use ⟨h.1, h.1, Or.inr ⟨hlt, rfl, rfl, fun b hb => ?_, by omega, ?_, fun j hj => ?_⟩⟩
    · rw [ax_wI_n (by omega), pW_n (by omega) (by omega)]
    · rw [ax_wI_t rfl, n_up_t rfl, pW_n (by omega) (by omega), hs.2.1, n_succ]
    · have hj : j < V.1 + 1 := hj
      show cP _ _ (va_up V.2 V.1 _ j)
      have a1 := ps_1 (k := j) h (by omega)
      by_cases z : j = V.1
      · rw [z, n_up_t rfl]
        refine ⟨by omega, ?_, ?_, fun q hq => by omega⟩
        · rw [ax_wI_n (by omega)]; exact pW_s _ _ _ _ _
        · rw [ax_wI_n (by omega)]; exact pW_c _ _ _ _ _
      · rw [n_up_n z]
        have a3 := ps_3 (j := j) (k := V.1) h (by omega) (by omega) z
        exact cP_fr (hs.2.2 j (by omega)) (by rw [ax_wI_n (by omega), pW_n (by omega) (by omega)]) (by rw [ax_wI_n (by omega), pW_n (by omega) (by omega)])
  · rcases Nat.lt_or_ge V.1 6 with w | w
    · exact absurd (nI_lt w (by omega)) z
    · omega
theorem c_dropPath {p k : Nat} {σ : Nat → Nat} {V : ab_V} {x : Int32} (h : ps S C p σ) (hs : sh C p σ V) (hx : x = nI k) (hk : k < V.1) : ax_CV l D mt_X4_dropPath [ax_r (some p), ax_i x] S C (fun C' => (∀ b, b ≠ p → C'.1 b = C.1 b) ∧ C'.2.1 = C.2.1 ∧ (∀ b, b ≠ p + 1 → C'.2.2 b = C.2.2 b) ∧ ∃ σ', ps S C' p σ' ∧ sh C' p σ' (rmP V k)) := by
  subst hx
  have hV := hs.1
  refine vc_X4_dropPath h.1 fun P22 h22 => ⟨fun z => n_absurd z (nI_pos (by omega)), fun _ => ⟨h.1, ?_⟩⟩
  rw [hs.2.1, h.2.2.2.1]
  refine ⟨fun _ => ⟨h.1, h.2.1, by rw [h.2.2.1]; exact vp_in_nI (by omega) (by omega), ?_⟩, fun z => n_absurd (nI_lt hk (by omega)) z⟩
  rw [n_clamp (by omega), ps_2 h (by omega)]
  have sk := ps_1 (k := k) h (by omega)
  have loop : ∀ (m j : Nat) (C1 : ax_C), j + m = V.1 - 1 → k ≤ j → C1.1 = C.1 → C1.2.1 = C.2.1 → (∀ b, b ≠ p + 1 → C1.2.2 b = C.2.2 b) → (∀ q, q < 6 → C1.2.2 (p + 1) q = some (p + 2 + 2 * (if k ≤ q ∧ q < j then σ (q + 1) else σ q))) → P22 (some (p + 2 + 2 * σ k)) (nI j) C1 := by
    intro m
    induction m with
    | zero =>
      intro j C1 hj hkj e1 e2 e3 e4
      have : j = V.1 - 1 := by omega
      subst this
      refine h22 _ _ _ ⟨h.1, ?_⟩
      rw [e1, hs.2.1, n_lit1, n_sub (by omega)]
      refine ⟨fun _ => ⟨h.1, h.1, h.1, h.1, ?_⟩, fun z => n_absurd (by simp (disch := omega) only [n_lit0, n_lit1, n_lit2, n_lit3, n_lit4, n_lit5, n_lit6, n_lit7, n_lit8, n_lit9, n_lit10, n_lit11, n_lit12, n_lit13, n_lit14, n_lit15, n_lit16, n_lit17, n_lit18, n_lit19, n_lit20, n_lit21, n_lit22, n_lit23, n_lit24, n_lit30, n_lit31, n_lit32, n_lit45, n_lit48, n_lit49, n_lit57, n_lit59, n_lit60, n_lit67, n_lit76, n_lit77, n_lit90, n_lit96, n_lit97, n_lit98, n_lit99, n_lit100, n_lit119, n_lit120, n_lit127, n_lit128, n_lit196, n_lit200, n_lit208, n_lit294, n_lit340, n_lit341, n_lit392, n_lit490, n_lit491, n_lit500, n_lit588, n_lit589, n_lit999, n_lit1178, n_lit5301, n_lit5890, n_lit46656, n_add, n_mul, n_sub, n_lt_t, n_lt_f, n_le_t, n_le_f, n_eq_t, n_eq_f, n_clamp, n_in_t, ax_sm_s, true_and, and_true, not_true_eq_false, not_false_eq_true, true_imp, false_imp, imp_true, and_self, ax_wI_2, ax_rI_2, ax_wI_t, ax_wI_n, ax_rI_t, ax_rI_n, n_up_t, n_up_n, ne_eq, or_true, true_or, false_or, or_false, some_ex, n_none1, n_none2, ite_true, ite_false]) z⟩
      have e0 : ∀ y, (ax_wI C1 p 1 y).2.2 p 0 = some (p + 1) := fun y => by
        show C1.2.2 p 0 = _
        rw [e3 p (by omega)]; exact h.2.2.2.1
      have e5 : ∀ y, (ax_wI C1 p 1 y).1 p 1 = y := fun y => by rw [ax_wI_t rfl]; exact n_up_t rfl
      rw [e0]
      refine ⟨h.2.1, (ps_4 h (by omega)).1, ?_, ?_⟩
      · rw [e5, h.2.2.1]; exact vp_in_nI (by omega) (by omega)
      · rw [e5, n_clamp (by omega)]
        refine ⟨fun b hb => ?_, e2, fun b hb => ?_, fun q => if k ≤ q ∧ q < V.1 - 1 then σ (q + 1) else if q = V.1 - 1 then σ k else σ q, ⟨h.1, h.2.1, h.2.2.1, ?_, fun q hq => ⟨?_, ?_⟩, fun q r hq hr => ?_, fun q hq => ?_⟩, ?_, ?_, fun q hq => ?_⟩
        · show (ax_wI C1 p 1 _).1 b = _
          rw [ax_wI_n hb, e1]
        · show va_up C1.2.2 (p + 1) _ b = _
          rw [va_up_ne _ _ hb]; exact e3 b hb
        · show va_up C1.2.2 (p + 1) _ p 0 = _
          rw [va_up_ne _ _ (by omega), e3 p (by omega)]; exact h.2.2.2.1
        · dsimp only
          by_cases z : k ≤ q ∧ q < V.1 - 1
          · rw [if_pos z]; exact ps_1 h (by omega)
          · rw [if_neg z]
            by_cases z2 : q = V.1 - 1
            · rw [if_pos z2]; exact sk
            · rw [if_neg z2]; exact ps_1 h hq
        · show va_up C1.2.2 (p + 1) (va_up (C1.2.2 (p + 1)) (V.1 - 1) _) (p + 1) q = _
          rw [va_up_self]
          by_cases z2 : q = V.1 - 1
          · rw [n_up_t z2]; dsimp only; rw [if_neg (by omega), if_pos z2]
          · rw [n_up_n z2, e4 q hq]; dsimp only
            by_cases z : k ≤ q ∧ q < V.1 - 1
            · rw [if_pos z, if_pos z]
            · rw [if_neg z, if_neg z, if_neg z2]
        · dsimp only
          intro w
          have inj : ∀ a b, a < 6 → b < 6 → σ a = σ b → a = b := h.2.2.2.2.2.1
          by_cases z : k ≤ q ∧ q < V.1 - 1
          · rw [if_pos z] at w
            by_cases y : k ≤ r ∧ r < V.1 - 1
            · rw [if_pos y] at w
              have := inj _ _ (by omega) (by omega) w; omega
            · rw [if_neg y] at w
              by_cases y2 : r = V.1 - 1
              · rw [if_pos y2] at w
                have := inj _ _ (by omega) (by omega) w; omega
              · rw [if_neg y2] at w
                have := inj _ _ (by omega) (by omega) w; omega
          · rw [if_neg z] at w
            by_cases z2 : q = V.1 - 1
            · rw [if_pos z2] at w
              by_cases y : k ≤ r ∧ r < V.1 - 1
              · rw [if_pos y] at w
                have := inj _ _ (by omega) (by omega) w; omega
              · rw [if_neg y] at w
                by_cases y2 : r = V.1 - 1
                · omega
                · rw [if_neg y2] at w
                  have := inj _ _ (by omega) (by omega) w; omega
            · rw [if_neg z2] at w
              by_cases y : k ≤ r ∧ r < V.1 - 1
              · rw [if_pos y] at w
                have := inj _ _ (by omega) (by omega) w; omega
              · rw [if_neg y] at w
                by_cases y2 : r = V.1 - 1
                · rw [if_pos y2] at w
                  have := inj _ _ (by omega) (by omega) w; omega
                · rw [if_neg y2] at w
                  exact inj _ _ hq hr w
        · refine pA_2 (h.2.2.2.2.2.2 q hq) ?_
          show va_up C1.2.2 (p + 1) _ (p + 2 + 2 * q) = _
          rw [va_up_ne _ _ (by omega)]; exact e3 _ (by omega)
        · show V.1 - 1 ≤ 6
          omega
        · exact e5 _
        · have hq : q < V.1 - 1 := hq
          show cP _ _ (if q < k then V.2 q else V.2 (q + 1))
          dsimp only
          have g : ∀ b, b ≠ p → (ax_wI C1 p 1 (nI (V.1 - 1))).1 b = C.1 b := fun b hb => by rw [ax_wI_n hb, e1]
          by_cases z : q < k
          · rw [if_pos z, if_neg (by omega), if_neg (by omega)]
            exact cP_fr (hs.2.2 q (by omega)) (g _ (by omega)) (g _ (by omega))
          · rw [if_neg z, if_pos (by omega)]
            exact cP_fr (hs.2.2 (q + 1) (by omega)) (g _ (by omega)) (g _ (by omega))
    | succ m ih =>
      intro j C1 hj hkj e1 e2 e3 e4
      refine h22 _ _ _ ⟨h.1, ?_⟩
      rw [e1, hs.2.1, n_lit1, n_sub (by omega), n_add, e3 p (by omega), h.2.2.2.1]
      refine ⟨fun z => n_absurd z (by simp (disch := omega) only [n_lit0, n_lit1, n_lit2, n_lit3, n_lit4, n_lit5, n_lit6, n_lit7, n_lit8, n_lit9, n_lit10, n_lit11, n_lit12, n_lit13, n_lit14, n_lit15, n_lit16, n_lit17, n_lit18, n_lit19, n_lit20, n_lit21, n_lit22, n_lit23, n_lit24, n_lit30, n_lit31, n_lit32, n_lit45, n_lit48, n_lit49, n_lit57, n_lit59, n_lit60, n_lit67, n_lit76, n_lit77, n_lit90, n_lit96, n_lit97, n_lit98, n_lit99, n_lit100, n_lit119, n_lit120, n_lit127, n_lit128, n_lit196, n_lit200, n_lit208, n_lit294, n_lit340, n_lit341, n_lit392, n_lit490, n_lit491, n_lit500, n_lit588, n_lit589, n_lit999, n_lit1178, n_lit5301, n_lit5890, n_lit46656, n_add, n_mul, n_sub, n_lt_t, n_lt_f, n_le_t, n_le_f, n_eq_t, n_eq_f, n_clamp, n_in_t, ax_sm_s, true_and, and_true, not_true_eq_false, not_false_eq_true, true_imp, false_imp, imp_true, and_self, ax_wI_2, ax_rI_2, ax_wI_t, ax_wI_n, ax_rI_t, ax_rI_n, n_up_t, n_up_n, ne_eq, or_true, true_or, false_or, or_false, some_ex, n_none1, n_none2, ite_true, ite_false]), fun _ => ⟨h.1, h.1, h.2.1, by rw [h.2.2.1]; exact vp_in_nI (by omega) (by omega), ?_⟩⟩
      rw [n_clamp (by omega), n_clamp (by omega), e4 _ (by omega), if_neg (by omega)]
      refine ⟨h.2.1, (ps_4 h (by omega)).1, by rw [h.2.2.1]; exact vp_in_nI (by omega) (by omega), ?_⟩
      refine ih (j + 1) _ (by omega) (by omega) e1 e2 (fun b hb => ?_) fun q hq => ?_
      · show va_up C1.2.2 (p + 1) _ b = _
        rw [va_up_ne _ _ hb]; exact e3 b hb
      · show va_up C1.2.2 (p + 1) (va_up (C1.2.2 (p + 1)) j _) (p + 1) q = _
        rw [va_up_self]
        by_cases z2 : q = j
        · rw [n_up_t z2, if_pos (by omega), z2]
        · rw [n_up_n z2, e4 q hq]
          by_cases z : k ≤ q ∧ q < j
          · rw [if_pos z, if_pos (by omega)]
          · rw [if_neg z, if_neg (by omega)]
  exact loop (V.1 - 1 - k) k C (by omega) (Nat.le_refl _) rfl rfl (fun _ _ => rfl) (fun q hq => by rw [if_neg (by omega)]; exact ps_2 h hq)
end
