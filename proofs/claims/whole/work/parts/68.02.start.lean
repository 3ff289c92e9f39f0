/-! ===== the law's start ===== -/
theorem lw_kn {s : State} {args : Array Value} {ci n : Nat} {N : String} {T : u_T} (hb : ∀ w ∈ ax_big, w.before args s = true) (hF : ax_CF ci N T) (hi : Cond.instantiable N n ∈ ax_big) : ∃ q : ClassId × (Nat → Nat), ∀ v : vw_C, vwCl[ci]? = some v → u_Kn s v.1 v.2.1 v.2.2 q.1 q.2 := by
  obtain ⟨c, iS, h⟩ := u_known hb hF.2.1 (hb _ hi)
  refine ⟨(c, iS), fun v hv => ?_⟩
  cases hF.1.symm.trans hv
  exact h
theorem lw_ai {s : State} {args : Array Value} {ty : FieldType} (h : (Cond.arrayClass ty).before args s = true) (ht : ∀ c, s.vm.findClass ("[" ++ ty.toString) = some c → va_RA s c ty) : ∃ cA, ArrOfT s cA ty ∧ va_RA s cA ty := by
  obtain ⟨c, k, comp, h1, h2, h3⟩ := Cond.arrayClass_spec h
  exact ⟨c, fun N z => ⟨fun k h => (by cases h), k, h2, comp, h3⟩, ht c h1⟩
theorem lw_ao {s : State} {args : Array Value} {C : String} (h : (Cond.arrayOver (.object C)).before args s = true) : ∃ cA, ArrOfT s cA (.object C) ∧ va_RA s cA (.object C) := by
  obtain ⟨comp, c, k, h1, h2, h3, h4, h5⟩ := Cond.arrayOver_spec h
  exact ⟨c, fun N z => ⟨fun k h => (by cases h), k, h3, comp, h4⟩, k, comp, h3, h4, h1, h5⟩
set_option maxRecDepth 100000 in
set_option maxHeartbeats 4000000 in
theorem lw_U {s : State} {b : Nat} (hts : ∀ w ∈ lw_tbl, w.before #[Value.ref b] s = true) (hgv : (Jvm.Cond.and given_1 narrow_1).before #[Value.ref b] s = true) : ∃ D : ax_D, D.2.2.2.1 = s.heap.size ∧ ax_U D s := by
  have hb : ∀ w ∈ ax_big, w.before #[Value.ref b] s = true := fun w hw => hts w (List.mem_filter.mp hw).1
  have hs := flat_of_before _ hgv
  have hK : ∀ k : Nat, ∃ q : ClassId × (Nat → Nat), ∀ v : vw_C, vwCl[k]? = some v → u_Kn s v.1 v.2.1 v.2.2 q.1 q.2 := by
    intro k
    match k with
    | 0 => exact lw_kn hb cf_X0 fb_100
    | 1 => exact lw_kn hb cf_X1 fb_21
    | 2 => exact lw_kn hb cf_X2 fb_86
    | 3 => exact lw_kn hb cf_X3 fb_35
    | 4 => exact lw_kn hb cf_X4 fb_28
    | 5 => exact lw_kn hb cf_X5 fb_154
    | 6 => exact lw_kn hb cf_X6 fb_120
    | 7 => exact lw_kn hb cf_X7 fb_13
    | 8 => exact lw_kn hb cf_X8 fb_684
    | k + 9 =>
      refine ⟨(0, id), fun v hv => ?_⟩
      have e : vwCl.length = 9 := rfl
      rw [List.getElem?_eq_none (by rw [e]; omega)] at hv
      cases hv
  have hpa : (Cond.arrayOver (.object "PathEditor$Path")).before #[Value.ref b] s = true := hts _ (List.mem_of_getElem? (i := 145) (by decide +kernel))
  have hpi : (Cond.arrayOver (.object "PathEditor$Picture")).before #[Value.ref b] s = true := hts _ (List.mem_of_getElem? (i := 138) (by decide +kernel))
  have hA : ∀ k : Nat, ∃ cA : ClassId, k < 5 → ArrOfT s cA (ax_aty k) ∧ va_RA s cA (ax_aty k) := by
    intro k
    match k with
    | 0 =>
      obtain ⟨c, h⟩ := lw_ai (hb _ fb_56) fun c h => h
      exact ⟨c, fun _ => h⟩
    | 1 =>
      obtain ⟨c, h⟩ := lw_ai (hb _ fb_98) fun c h => h
      exact ⟨c, fun _ => h⟩
    | 2 =>
      obtain ⟨c, h⟩ := lw_ai (hb _ fb_152) fun c h => h
      exact ⟨c, fun _ => h⟩
    | 3 =>
      obtain ⟨c, h⟩ := lw_ao hpa
      exact ⟨c, fun _ => h⟩
    | 4 =>
      obtain ⟨c, h⟩ := lw_ao hpi
      exact ⟨c, fun _ => h⟩
    | k + 5 => exact ⟨0, fun h => absurd h (by omega)⟩
  obtain ⟨fK, hfK⟩ := Classical.axiomOfChoice hK
  obtain ⟨fA, hfA⟩ := Classical.axiomOfChoice hA
  have hnot : ∀ a : Nat, a < s.heap.size → ¬ (fun q : Nat => s.heap.size ≤ q) a := fun a h w => by
    have w : s.heap.size ≤ a := w
    omega
  have hlen : (Term.length (.static "PathEditor" "AREA_WEIGHTS" "[I")).eval #[Value.ref b] s none [] s = some (.int (Int32.ofNat 12)) := va_eqt (hs (Cond.eq (.length (.static "PathEditor" "AREA_WEIGHTS" "[I")) (.int 12)) (by decide +kernel))
  have hel : ∀ j : Nat, j < 12 → (Term.elem (.static "PathEditor" "AREA_WEIGHTS" "[I") (.int (Int32.ofNat j))).eval #[Value.ref b] s none [] s = some (.int (ax_wt j)) := by
    intro j hj
    have : j = 0 ∨ j = 1 ∨ j = 2 ∨ j = 3 ∨ j = 4 ∨ j = 5 ∨ j = 6 ∨ j = 7 ∨ j = 8 ∨ j = 9 ∨ j = 10 ∨ j = 11 := by omega
    rcases this with rfl | rfl | rfl | rfl | rfl | rfl | rfl | rfl | rfl | rfl | rfl | rfl
    · exact va_eqt (hs (Cond.eq (.elem (.static "PathEditor" "AREA_WEIGHTS" "[I") (.int 0)) (.int 30)) (by decide +kernel))
    · exact va_eqt (hs (Cond.eq (.elem (.static "PathEditor" "AREA_WEIGHTS" "[I") (.int 1)) (.int 12)) (by decide +kernel))
    · exact va_eqt (hs (Cond.eq (.elem (.static "PathEditor" "AREA_WEIGHTS" "[I") (.int 2)) (.int 3)) (by decide +kernel))
    · exact va_eqt (hs (Cond.eq (.elem (.static "PathEditor" "AREA_WEIGHTS" "[I") (.int 3)) (.int 18)) (by decide +kernel))
    · exact va_eqt (hs (Cond.eq (.elem (.static "PathEditor" "AREA_WEIGHTS" "[I") (.int 4)) (.int 18)) (by decide +kernel))
    · exact va_eqt (hs (Cond.eq (.elem (.static "PathEditor" "AREA_WEIGHTS" "[I") (.int 5)) (.int 9)) (by decide +kernel))
    · exact va_eqt (hs (Cond.eq (.elem (.static "PathEditor" "AREA_WEIGHTS" "[I") (.int 6)) (.int 9)) (by decide +kernel))
    · exact va_eqt (hs (Cond.eq (.elem (.static "PathEditor" "AREA_WEIGHTS" "[I") (.int 7)) (.int 18)) (by decide +kernel))
    · exact va_eqt (hs (Cond.eq (.elem (.static "PathEditor" "AREA_WEIGHTS" "[I") (.int 8)) (.int 18)) (by decide +kernel))
    · exact va_eqt (hs (Cond.eq (.elem (.static "PathEditor" "AREA_WEIGHTS" "[I") (.int 9)) (.int 3)) (by decide +kernel))
    · exact va_eqt (hs (Cond.eq (.elem (.static "PathEditor" "AREA_WEIGHTS" "[I") (.int 10)) (.int 12)) (by decide +kernel))
    · exact va_eqt (hs (Cond.eq (.elem (.static "PathEditor" "AREA_WEIGHTS" "[I") (.int 11)) (.int 30)) (by decide +kernel))
  obtain ⟨t, ht, hT⟩ := va_Tof (A := fun q : Nat => s.heap.size ≤ q) (by decide) (hs (Cond.arrayOf (.static "PathEditor" "AREA_WEIGHTS" "[I") .int) (by decide +kernel)) hlen hel hnot
  have hZ := va_Zof (A := fun q : Nat => s.heap.size ≤ q) (hts (Cond.laysStatic "PathEditor" "AREA_WEIGHTS" "[I") (List.mem_of_getElem? (i := 633) (by decide +kernel))) (hb _ fb_1) ht hnot
  refine ⟨(fun k => (fK k).1, fun k => (fK k).2, fA, s.heap.size, t), rfl, ⟨fun k v hv => hfK k v hv, fun k q hq => ?_⟩, fun w hw => ?_, va_AO.of hpa, va_AO.of hpi, hZ, hT⟩
  · have hk : k < 5 := by
      have := (List.getElem?_eq_some_iff.mp hq).1
      simpa [ax_tys] using this
    have e : (ax_tys (fun k => (fK k).1, fun k => (fK k).2, fA, s.heap.size, t))[k]? = some (fA k, ax_aty k) := by
      simp [ax_tys, List.getElem?_range, hk]
    rw [e] at hq
    cases hq
    exact hfA k hk
  · have hw' := List.mem_filter.mp hw
    have h := hts w (List.mem_append_right _ hw'.1)
    have h2 := hw'.2
    cases w <;> first | (cases h2; done) | exact va_Nw.of rfl h
set_option maxRecDepth 100000 in
set_option maxHeartbeats 4000000 in
theorem lw_begin {p : Program} {l : Launch} {e : Env} {s : State} {m : MethodId} {below : List Frame} {meth : Method} {c : Code} {D : ax_D} {b L : Nat} {xs : Nat → Int32} {C : ax_C} (X : ax_X D p s m #[Value.ref b] meth c RL cL_law 4) (hDs : D.2.2.2.1 = s.heap.size) (hr : meth.sig.returnType = ret) (hX : va_X b L xs s s.heap) (hbl : b < s.heap.size) (hL : L ≤ 3584) : ax_Z p l e room_1 s m #[Value.ref b] below meth c D 4 0 (lw_Z below #[Value.ref b] s) 0 [some (ax_r (some b)), none, none, none] [] (fun _ => 0, fun _ => 0, s.heap.size, 0) C := by
  generalize hn : s.heap.size = B
  have hZ : (s.heap.size + 600000, 7302249).1 ≤ s.heap.size + room_1.cells ∧ (s.heap.size + 600000, 7302249).2 ≤ 0 + room_1.slots := ⟨Nat.le_refl _, Nat.le_refl _⟩
  have r : ∀ (S : ax_S) ls st C, _ → ax_Z p l e room_1 s m #[Value.ref b] below meth c D 4 0 (lw_Z below #[Value.ref b] s) 0 ls st S C := fun S => (sx_new X hZ cf_X7 rfl fb_12 fb_13 fb_1 dL_law_0 (fun ls st S C => (sx_dup X dL_law_3 (sx_vca X hZ mi_X7_init (Or.inl fb_14) ⟨by decide, by decide⟩ dL_law_4 (fun ls st S C => (sx_astore_n X dL_law_7 rfl (by decide) (sx_new X hZ cf_X8 rfl fb_683 fb_684 fb_9 dL_law_8 (fun ls st S C => (sx_dup X dL_law_11 (sx_vca X hZ mi_X8_init (Or.inl fb_685) ⟨by decide, by decide⟩ dL_law_12 (fun ls st S C => (sx_astore_n X dL_law_15 rfl (by decide) (sx_iconst X (v := (0 : Int32)) dL_law_16 (by decide) (sx_istore_n X dL_law_17 rfl (by decide) (fun _ _ _ h => h)))) ls st C))) ls st C))) ls st C))) ls st C))
  have le : ∀ a : Nat, Nat.ble a 7302249 = true → a ≤ 7302249 := fun a h => Nat.le_of_ble_eq_true h
  have f : B + 1 ≤ B + 600000 ∧ 0 + 7 ≤ 7302249 ∧ ((ax_nS ((fun _ => 0, fun _ => 0, B, 0) : ax_S) 8 0 7).2.2.1 + 208 ≤ B + 600000 ∧ (ax_nS ((fun _ => 0, fun _ => 0, B, 0) : ax_S) 8 0 7).2.2.2 + 9022 ≤ 7302249 ∧ ax_CA l D mt_X7_init [ax_r (some B)] (ax_nS ((fun _ => 0, fun _ => 0, B, 0) : ax_S) 8 0 7) (ax_nC C B) (fun S2 C2 => S2.2.2.1 + 1 ≤ B + 600000 ∧ S2.2.2.2 + 25 ≤ 7302249 ∧ ((ax_nS S2 9 0 25).2.2.1 + 12 ≤ B + 600000 ∧ (ax_nS S2 9 0 25).2.2.2 + 15570 ≤ 7302249 ∧ ax_CA l D mt_X8_init [ax_r (some S2.2.2.1)] (ax_nS S2 9 0 25) (ax_nC C2 S2.2.2.1) (fun S3 C3 => ax_Z p l e room_1 s m #[Value.ref b] below meth c D 4 0 (lw_Z below #[Value.ref b] s) 18 [some (ax_r (some b)), some (ax_r (some B)), some (ax_r (some S2.2.2.1)), some (ax_i (0 : Int32))] [] S3 C3)))) := by
    refine ⟨by omega, le _ rfl, by show B + 1 + 208 ≤ B + 600000; omega, le _ rfl, i_editor (nS_1 _ _ _ _) rfl fun S2 C2 a1 a2 a3 a4 a5 => ?_⟩
    have a2 : S2.2.2.2 = 9029 := a2
    rw [a1]
    refine ⟨by omega, by rw [a2]; exact le _ rfl, by show S2.2.2.1 + 1 + 12 ≤ B + 600000; omega, by show S2.2.2.2 + 25 + 15570 ≤ 7302249; rw [a2]; exact le _ rfl, i_model (by rw [← a1]; exact nS_1 _ _ _ _) (by show S2.2.2.1 + 1 = _; omega) (fun k => by rw [nC_1]) fun S3 C3 b1 b2 b3 b4 b5 => ?_⟩
    have b2 : S3.2.2.2 = S2.2.2.2 + 25 + 15570 := b2
    have hI : bo S3 C3 B A0 := by
      refine ⟨cls_g a5 (fun q q1 q2 => ?_) (fun q q1 q2 => ?_), b5, okA_0⟩
      · have g1 := gS_n (S := S2) (k := 9) (n := 0) (m := 25) (t := B + 209) (by omega) q q2
        have g2 := b3 q (by omega)
        exact ⟨g2.1.trans g1.1, g2.2.trans g1.2⟩
      · have g1 := gC_n (C := C2) (t := B + 209) (u := B + 209) (Nat.le_refl _) q q2
        have g2 := b4 q q2
        exact ⟨g2.1.trans g1.1, g2.2.trans g1.2⟩
    exact lw_loop X hDs hr hX hbl hL (by rw [hn]; omega) (by rw [b2, a2]; exact le _ rfl) (L + 1) 0 A0 C3 (by omega) (by omega) hI
  subst hn
  exact r _ [some (ax_r (some b)), none, none, none] [] C f
/-- the whole law from its entry -/
theorem whole_start {p : Program} {e : Env} {s : State} {m : MethodId} {below : List Frame} {meth : Method} {c : Code} (l : Launch) (hflags : l.flags = flags0) {b L : Nat} {xs : Nat → Int32} (hL : L ≤ 3584) (C0 : lw_At p s m meth c b L xs) : W p l e room_1 s m #[Value.ref b] below meth c s.heap [] 0 0 (lw_Z below #[Value.ref b] s) (entryFrame m ([Value.ref b] : List Value).toArray 4) := by
  obtain ⟨hx, hb, hr, hml, hown, hts, hX, hbl, hlocks, hgv⟩ := id C0
  obtain ⟨D, hDs, hU⟩ := lw_U hts hgv
  have X : ax_X D p s m #[Value.ref b] meth c RL cL_law 4 := ⟨hx, hb, hml, hown, fun w hw => hts w (List.mem_filter.mp hw).1, hlocks, hU, Nat.le_of_eq hDs⟩
  have hl := lv_entry ([.ref b]) (n := 4) (Nat.le_of_ble_eq_true rfl)
  rw [lg_entry_eq]
  generalize (lg_sl ([.ref b]) ++ List.replicate (4 - (lg_sl ([.ref b])).length) Slot.unset).toArray = lsA at hl ⊢
  refine lw_begin (C := (fun _ _ => 0, fun _ _ => 0, fun _ _ => none)) X hDs hr hX hbl hL s.heap lsA [] 0 0 ⟨⟨rfl, Nat.le_of_eq hDs, fun k q h => ?_, fun a ha => absurd rfl ha⟩, ⟨hl.1, hl.2.1, fun i v hv => ?_⟩, va_S.rf, Nat.zero_add _, rfl, Nat.zero_le _, Nat.zero_le _⟩
  · have e : ax_ad D ((fun _ => 0, fun _ => 0, s.heap.size, 0) : ax_S) = [] := by
      unfold ax_ad
      show List.range' D.2.2.2.1 (s.heap.size - D.2.2.2.1) = []
      rw [hDs, Nat.sub_self]
      rfl
    unfold ax_w va_pl at h
    rw [e] at h
    cases h
  · have hv : ax_get (ax_en [ax_r (some b)] 4) i = some v := hv
    exact hl.2.2 _ (by simpa [ax_cv, va_rf] using ax_en_get [ax_r (some b)] 4 i 0 v hv)
