/-! ===== small ints, rows, conditions ===== -/
theorem n_lit0 : (0 : Int32) = nI 0 := rfl
theorem n_lit1 : (1 : Int32) = nI 1 := rfl
theorem n_lit2 : (2 : Int32) = nI 2 := rfl
theorem n_lit3 : (3 : Int32) = nI 3 := rfl
theorem n_lit4 : (4 : Int32) = nI 4 := rfl
theorem n_lit5 : (5 : Int32) = nI 5 := rfl
theorem n_lit6 : (6 : Int32) = nI 6 := rfl
theorem n_lit7 : (7 : Int32) = nI 7 := rfl
theorem n_lit8 : (8 : Int32) = nI 8 := rfl
theorem n_lit9 : (9 : Int32) = nI 9 := rfl
theorem n_lit10 : (10 : Int32) = nI 10 := rfl
theorem n_lit11 : (11 : Int32) = nI 11 := rfl
theorem n_lit12 : (12 : Int32) = nI 12 := rfl
theorem n_lit13 : (13 : Int32) = nI 13 := rfl
theorem n_lit14 : (14 : Int32) = nI 14 := rfl
theorem n_lit15 : (15 : Int32) = nI 15 := rfl
theorem n_lit16 : (16 : Int32) = nI 16 := rfl
theorem n_lit17 : (17 : Int32) = nI 17 := rfl
theorem n_lit18 : (18 : Int32) = nI 18 := rfl
theorem n_lit19 : (19 : Int32) = nI 19 := rfl
theorem n_lit20 : (20 : Int32) = nI 20 := rfl
theorem n_lit21 : (21 : Int32) = nI 21 := rfl
theorem n_lit22 : (22 : Int32) = nI 22 := rfl
theorem n_lit23 : (23 : Int32) = nI 23 := rfl
theorem n_lit24 : (24 : Int32) = nI 24 := rfl
theorem n_lit30 : (30 : Int32) = nI 30 := rfl
theorem n_lit31 : (31 : Int32) = nI 31 := rfl
theorem n_lit32 : (32 : Int32) = nI 32 := rfl
theorem n_lit45 : (45 : Int32) = nI 45 := rfl
theorem n_lit48 : (48 : Int32) = nI 48 := rfl
theorem n_lit49 : (49 : Int32) = nI 49 := rfl
theorem n_lit57 : (57 : Int32) = nI 57 := rfl
theorem n_lit59 : (59 : Int32) = nI 59 := rfl
theorem n_lit60 : (60 : Int32) = nI 60 := rfl
theorem n_lit67 : (67 : Int32) = nI 67 := rfl
theorem n_lit76 : (76 : Int32) = nI 76 := rfl
theorem n_lit77 : (77 : Int32) = nI 77 := rfl
theorem n_lit90 : (90 : Int32) = nI 90 := rfl
theorem n_lit96 : (96 : Int32) = nI 96 := rfl
theorem n_lit97 : (97 : Int32) = nI 97 := rfl
theorem n_lit98 : (98 : Int32) = nI 98 := rfl
theorem n_lit99 : (99 : Int32) = nI 99 := rfl
theorem n_lit100 : (100 : Int32) = nI 100 := rfl
theorem n_lit119 : (119 : Int32) = nI 119 := rfl
theorem n_lit120 : (120 : Int32) = nI 120 := rfl
theorem n_lit127 : (127 : Int32) = nI 127 := rfl
theorem n_lit128 : (128 : Int32) = nI 128 := rfl
theorem n_lit196 : (196 : Int32) = nI 196 := rfl
theorem n_lit200 : (200 : Int32) = nI 200 := rfl
theorem n_lit208 : (208 : Int32) = nI 208 := rfl
theorem n_lit294 : (294 : Int32) = nI 294 := rfl
theorem n_lit340 : (340 : Int32) = nI 340 := rfl
theorem n_lit341 : (341 : Int32) = nI 341 := rfl
theorem n_lit392 : (392 : Int32) = nI 392 := rfl
theorem n_lit490 : (490 : Int32) = nI 490 := rfl
theorem n_lit491 : (491 : Int32) = nI 491 := rfl
theorem n_lit500 : (500 : Int32) = nI 500 := rfl
theorem n_lit588 : (588 : Int32) = nI 588 := rfl
theorem n_lit589 : (589 : Int32) = nI 589 := rfl
theorem n_lit999 : (999 : Int32) = nI 999 := rfl
theorem n_lit1178 : (1178 : Int32) = nI 1178 := rfl
theorem n_lit5301 : (5301 : Int32) = nI 5301 := rfl
theorem n_lit5890 : (5890 : Int32) = nI 5890 := rfl
theorem n_lit46656 : (46656 : Int32) = nI 46656 := rfl
theorem n_add (a b : Nat) : nI a + nI b = nI (a + b) := nI_add a b
theorem n_mul (a b : Nat) : nI a * nI b = nI (a * b) := pk_mul a b
theorem n_sub {a b : Nat} (h : b ≤ a) : nI a - nI b = nI (a - b) := pk_sub h
theorem n_lt_t {a b : Nat} (h : a < b) (hb : b < 2 ^ 31) : (nI a < nI b) = True := eq_true (nI_lt h hb)
theorem n_lt_f {a b : Nat} (h : b ≤ a) (ha : a < 2 ^ 31) : (nI a < nI b) = False := eq_false (nI_nlt h ha)
theorem n_le_t {a b : Nat} (h : a ≤ b) (hb : b < 2 ^ 31) : (nI a ≤ nI b) = True := eq_true (nI_le h hb)
theorem n_le_f {a b : Nat} (h : b < a) (ha : a < 2 ^ 31) : (nI a ≤ nI b) = False := eq_false (nI_ge h ha)
theorem n_eq_t {a b : Nat} (h : a = b) : (nI a = nI b) = True := eq_true (by rw [h])
theorem n_eq_f {a b : Nat} (h : a ≠ b) (ha : a < 2 ^ 31) (hb : b < 2 ^ 31) : (nI a = nI b) = False := eq_false (fun q => h ((nI_eq ha hb).mp q))
theorem n_clamp {n : Nat} (h : n < 2 ^ 31) : (nI n).toNatClampNeg = n := nI_clamp h
theorem n_in_t {n N : Nat} (h : n < N) (hN : N < 2 ^ 31) : vp_in (nI n) N = True := eq_true (vp_in_nI h hN)
theorem true_imp (p : Prop) : (True → p) = p := propext ⟨fun h => h trivial, fun h _ => h⟩
theorem false_imp (p : Prop) : (False → p) = True := eq_true (fun h => h.elim)
theorem imp_true (p : Prop) : (p → True) = True := eq_true (fun _ => trivial)
theorem ax_wI_2 (C : ax_C) (a k : Nat) (x : Int32) : (ax_wI C a k x).2 = C.2 := rfl
theorem ax_rI_2 (C : ax_C) (a : Nat) (f : Nat → Int32) : (ax_rI C a f).2 = C.2 := rfl
theorem ax_wI_t {C : ax_C} {a b k : Nat} {x : Int32} (h : b = a) : (ax_wI C a k x).1 b = va_up (C.1 a) k x := by subst h; exact va_up_self _ _ _
theorem ax_wI_n {C : ax_C} {a b k : Nat} {x : Int32} (h : b ≠ a) : (ax_wI C a k x).1 b = C.1 b := va_up_ne _ _ h
theorem ax_rI_t {C : ax_C} {a b : Nat} {f : Nat → Int32} (h : b = a) : (ax_rI C a f).1 b = f := by subst h; exact va_up_self _ _ _
theorem ax_rI_n {C : ax_C} {a b : Nat} {f : Nat → Int32} (h : b ≠ a) : (ax_rI C a f).1 b = C.1 b := va_up_ne _ _ h
theorem n_up_t {α : Type} {f : Nat → α} {k j : Nat} {x : α} (h : j = k) : va_up f k x j = x := by subst h; exact va_up_self _ _ _
theorem n_up_n {α : Type} {f : Nat → α} {k j : Nat} {x : α} (h : j ≠ k) : va_up f k x j = f j := va_up_ne _ _ h
theorem some_ex (a b : Nat) : ((some a : Option Nat) = some b) = (a = b) := propext ⟨fun h => Option.some.inj h, fun h => by rw [h]⟩
theorem n_none1 (a : Nat) : ((none : Option Nat) = some a) = False := eq_false (fun h => by cases h)
theorem n_none2 (a : Nat) : ((some a : Option Nat) = none) = False := eq_false (fun h => by cases h)
/-- an index within -/
theorem n_ix {x : Int32} {n : Nat} (hn : n < 2 ^ 31) (h0 : ¬ x < 0) (h1 : x < nI n) : ∃ k, k < n ∧ x = nI k := by
  obtain ⟨k, hk, rfl⟩ := nI_of h0
  refine ⟨k, ?_, rfl⟩
  rcases Nat.lt_or_ge k n with q | q
  · exact q
  · exact absurd h1 (nI_nlt q hk)
theorem n_le0 {x : Int32} : (0 ≤ x) = ¬ x < 0 := propext ⟨fun h q => Int32.lt_irrefl (Int32.lt_of_lt_of_le q h), fun h => Int32.not_lt.mp h⟩
theorem n_nlt {x y : Int32} : (¬ x < y) = (y ≤ x) := propext Int32.not_lt
theorem n_nle {x y : Int32} : (¬ x ≤ y) = (y < x) := propext Int32.not_le
theorem n_toInt {n : Nat} (h : n < 2 ^ 31) : (nI n).toInt = (n : Int) := nI_toInt h
/-- two writes at one address -/
theorem ax_wI_rI (C : ax_C) (a k : Nat) (x : Int32) : ax_wI C a k x = ax_rI C a (va_up (C.1 a) k x) := rfl
theorem ax_rI_rI (C : ax_C) (a : Nat) (f g : Nat → Int32) : ax_rI (ax_rI C a f) a g = ax_rI C a g := by
  show (va_up (va_up C.1 a f) a g, C.2) = (va_up C.1 a g, C.2)
  congr 1
  exact bx_uu _ _ _ _
theorem ax_rI_id (C : ax_C) (a : Nat) : ax_rI C a (C.1 a) = C := by
  show (va_up C.1 a (C.1 a), C.2) = C
  have : va_up C.1 a (C.1 a) = C.1 := by
    funext j
    by_cases h : j = a
    · subst h; exact va_up_self _ _ _
    · exact va_up_ne _ _ h
  rw [this]
theorem ax_rI_comm {C : ax_C} {a b : Nat} (f g : Nat → Int32) (h : a ≠ b) : ax_rI (ax_rI C a f) b g = ax_rI (ax_rI C b g) a f := by
  show (va_up (va_up C.1 a f) b g, C.2) = (va_up (va_up C.1 b g) a f, C.2)
  congr 1
  funext j
  by_cases h1 : j = a
  · subst h1
    rw [va_up_ne _ _ h, va_up_self, va_up_self]
  · by_cases h2 : j = b
    · subst h2
      rw [va_up_self, va_up_ne _ _ h1, va_up_self]
    · rw [va_up_ne _ _ h2, va_up_ne _ _ h1, va_up_ne _ _ h1, va_up_ne _ _ h2]
theorem ax_C_ext {C C' : ax_C} (h1 : ∀ a, C.1 a = C'.1 a) (h2 : C.2 = C'.2) : C = C' := by
  obtain ⟨c, d⟩ := C
  obtain ⟨c', d'⟩ := C'
  simp only at h1 h2
  rw [show c = c' from funext h1, h2]
