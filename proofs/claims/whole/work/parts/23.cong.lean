/-! ===== rows that agree as far as they are read ===== -/
theorem up_c {R g : Nat → Int32} {a q : Nat} {v : Int32} (h : R q = g q) : va_up R a v q = va_up g a v q := by
  unfold va_up
  split
  · rfl
  · exact h
theorem up_v {R : Nat → Int32} {a : Nat} {v w : Int32} (h : v = w) : va_up R a v = va_up R a w := by rw [h]
theorem tr_x {t x y : Int32} {V : ab_V} (h : t = 0 → x = y) : tr t x V = tr t y V := by
  unfold tr
  by_cases z : t = 0
  · rw [if_pos z, if_pos z, h z]
  · rw [if_neg z, if_neg z]
section
variable {R g : Nat → Int32} {n : Nat}
theorem mvT_c {k : Nat} {dx dy t : Int32} (h : ∀ q, q < 8 * n → R q = g q) (hk : k < n) : mvT R k dx dy t = mvT g k dx dy t := by
  unfold mvT
  rw [h _ (by omega), h (8 * k + 1) (by omega)]
theorem mvG_c {k q : Nat} {dx dy : Int32} (h : ∀ q, q < 8 * n → R q = g q) (hk : k < n) (hq : q < 8 * n) : mvG R k dx dy q = mvG g k dx dy q := by
  unfold mvG
  rw [h (8 * k + 0) (by omega), h (8 * k + 1) (by omega)]
  exact up_c (up_c (h q hq))
theorem ft_c {k ax : Nat} {o : Bool} (h : ∀ f, f < 8 → R (8 * k + f) = g (8 * k + f)) (ha : ax < 2) : ft R k o ax = ft g k o ax := by
  unfold ft
  cases o
  · rw [h _ (by simp), h _ (by simp; omega)]
  · rw [h _ (by simp), h _ (by simp; omega)]
theorem fb_c {k : Nat} {o : Bool} (h : ∀ f, f < 8 → R (8 * k + f) = g (8 * k + f)) : fb R k o = fb g k o := by
  unfold fb
  cases o
  · rw [h _ (by simp)]
  · rw [h _ (by simp)]
theorem fT_c {k : Nat} {o : Bool} {t : Int32} (h : ∀ f, f < 8 → R (8 * k + f) = g (8 * k + f)) : fT R k o t = fT g k o t := by
  unfold fT
  rw [ft_c h (by omega), ft_c h (by omega), fb_c h]
theorem fG_c {k q : Nat} {o : Bool} (h : ∀ f, f < 8 → R (8 * k + f) = g (8 * k + f)) (hq : R q = g q) : fG R k o q = fG g k o q := by
  unfold fG
  rw [ft_c h (by omega), ft_c h (by omega), fb_c h]
  exact up_c (up_c hq)
theorem rw2_c {k a b q : Nat} (hq : R q = g q) : rw2 R k a b q = rw2 g k a b q := up_c (up_c hq)
theorem hdG_c {k q : Nat} {o : Bool} {x y : Int32} (hq : R q = g q) : hdG R k o x y q = hdG g k o x y q := up_c (up_c hq)
theorem un_c {k q : Nat} (h : ∀ q, q < 8 * n → R q = g q) (hk : k < n) (hq : q < 8 * (n + 1)) : un R k n q = un g k n q := by
  unfold un
  split
  · exact h _ (by omega)
  · exact h _ (by omega)
theorem dn_c {k q : Nat} (h : ∀ q, q < 8 * n → R q = g q) (hq : q < 8 * (n - 1)) : dn R k n q = dn g k n q := by
  unfold dn
  split
  · exact h _ (by omega)
  · exact h _ (by omega)
theorem xT_c {k e ax : Nat} {a b t : Int32} (h1 : ∀ f, f < 8 → R (8 * k + f) = g (8 * k + f)) (h2 : ∀ f, f < 8 → R (8 * e + f) = g (8 * e + f)) (ha : ax < 2) : xT R k e ax a b t = xT g k e ax a b t := by
  simp only [xT, v_s, v_r0, v_r1, v_p1, v_p2, h1 (0 + ax) (by omega), h1 (4 + ax) (by omega), h2 (0 + ax) (by omega), h2 (2 + ax) (by omega)]
theorem xA_c {k e ax q : Nat} {a b : Int32} (h1 : ∀ f, f < 8 → R (8 * k + f) = g (8 * k + f)) (h2 : ∀ f, f < 8 → R (8 * e + f) = g (8 * e + f)) (ha : ax < 2) (hq : R q = g q) : xA R k e ax a b q = xA g k e ax a b q := by
  simp only [xA, v_s, v_r0, v_r1, v_p1, v_p2, h1 (0 + ax) (by omega), h1 (4 + ax) (by omega), h2 (0 + ax) (by omega), h2 (2 + ax) (by omega)]
  exact up_c (up_c (up_c (up_c (up_c hq))))
theorem sr_c {k a b q : Nat} {c : Bool} (hq : R q = g q) : sr R k a b c q = sr g k a b c q := by
  unfold sr
  cases c
  · exact hq
  · exact rw2_c hq
theorem cT_c {k e na nb : Nat} {t : Int32} (h1 : ∀ f, f < 8 → R (8 * k + f) = g (8 * k + f)) (h2 : ∀ f, f < 8 → R (8 * e + f) = g (8 * e + f)) : cT R k e na nb t = cT g k e na nb t := by
  unfold cT
  rw [xT_c h1 h2 (by omega), xT_c h1 h2 (by omega)]
theorem cG_c {k e na nb p1 q1 p2 q2 q : Nat} (h1 : ∀ f, f < 8 → R (8 * k + f) = g (8 * k + f)) (h2 : ∀ f, f < 8 → R (8 * e + f) = g (8 * e + f)) (hq : R q = g q) : cG R k e na nb p1 q1 p2 q2 q = cG g k e na nb p1 q1 p2 q2 q := by
  unfold cG
  exact sr_c (sr_c (rw2_c (xA_c (fun f hf => xA_c h1 h2 (by omega) (h1 f hf)) (fun f hf => xA_c h1 h2 (by omega) (h2 f hf)) (by omega) (xA_c h1 h2 (by omega) hq))))
theorem ro_c {k q : Nat} (h : ∀ q, q < 8 * n → R q = g q) (hk : k < n) (hq : q < 8 * n) : ro R n k q = ro g n k q := by
  unfold ro
  split
  · exact h _ (by omega)
  · exact h _ (by omega)
theorem ms_c {R2 g2 : Nat → Int32} {m : Nat} (h : ∀ q, q < 8 * n → R q = g q) (h2 : ∀ q, q < 8 * m → R2 q = g2 q) (hn : 1 ≤ n) (hm : 1 ≤ m) : ms R n R2 = ms g n g2 := by
  unfold ms
  rw [h _ (by omega), h (8 * (n - 1) + 1) (by omega), h2 0 (by omega), h2 1 (by omega)]
theorem mg1_c {R2 g2 : Nat → Int32} {m q : Nat} (h2 : ∀ q, q < 8 * m → R2 q = g2 q) (hm : 1 ≤ m) (hq : R q = g q) : mg1 R R2 (m - 1) q = mg1 g g2 (m - 1) q := by
  unfold mg1
  rw [h2 _ (by omega), h2 (8 * (m - 1) + 3) (by omega)]
  exact up_c (up_c hq)
theorem hf_c {k : Nat} (h : ∀ f, f < 8 → R (8 * k + f) = g (8 * k + f)) : hf R k = hf g k := by
  unfold hf
  rw [h 2 (by omega), h 3 (by omega), h 4 (by omega), h 5 (by omega), h 6 (by omega), h 7 (by omega)]
theorem mg_c {R2 g2 : Nat → Int32} {m q : Nat} (h : ∀ q, q < 8 * n → R q = g q) (h2 : ∀ q, q < 8 * m → R2 q = g2 q) (hn : 1 ≤ n) (hm : 1 ≤ m) (hq : q < 8 * n) : mg R R2 (m - 1) q = mg g g2 (m - 1) q := by
  have e : hf (mg1 R R2 (m - 1)) 0 = hf (mg1 g g2 (m - 1)) 0 := hf_c fun f hf => mg1_c h2 hm (h _ (by omega))
  unfold mg
  by_cases z : g 6 = g2 (8 * (m - 1) + 6) ∧ g 7 = g2 (8 * (m - 1) + 7) ∧ hf (mg1 g g2 (m - 1)) 0
  · rw [if_pos z, if_pos (by rw [e, h 6 (by omega), h 7 (by omega), h2 _ (by omega), h2 (8 * (m - 1) + 7) (by omega)]; exact z)]
    exact mg1_c h2 hm (h q hq)
  · rw [if_neg z, if_neg (by rw [e, h 6 (by omega), h 7 (by omega), h2 _ (by omega), h2 (8 * (m - 1) + 7) (by omega)]; exact z)]
    exact up_c (up_c (mg1_c h2 hm (h q hq)))
theorem ct_c {k w a : Nat} (h : ∀ q, q < 8 * n → R q = g q) (hk : k < n) (ha : a < 2) : ct R n k w a = ct g n k w a := by
  have he : eo n k < n := by unfold eo; split <;> omega
  unfold ct
  rw [h _ (by omega), h (8 * k + (4 + a)) (by omega), h (8 * eo n k + a) (by omega), h (8 * eo n k + (2 + a)) (by omega)]
theorem a12_c {k : Nat} {acc : Int64} (h : ∀ q, q < 8 * n → R q = g q) (hk : k < n) : ∀ m, a12 R n k acc m = a12 g n k acc m
  | 0 => rfl
  | m + 1 => by
    unfold a12 tm
    rw [a12_c h hk m, ct_c h hk (by omega), ct_c h hk (by omega), ct_c h hk (by omega)]
theorem aS_c (h : ∀ q, q < 8 * n → R q = g q) : ∀ k, k ≤ n → aS R n k = aS g n k
  | 0, _ => rfl
  | k + 1, hk => by
    unfold aS
    rw [aS_c h k (by omega), a12_c h (by omega)]
theorem ex1_c {k a : Nat} {gr : Bool} {b : Int32} (h : ∀ q, q < 8 * n → R q = g q) (hk : k < n) (ha : a < 2) : ∀ m, ex1 R n k a gr b m = ex1 g n k a gr b m
  | 0 => rfl
  | m + 1 => by
    unfold ex1
    rw [ex1_c h hk ha m, ct_c h hk ha]
theorem exS_c {a : Nat} {gr : Bool} (h : ∀ q, q < 8 * n → R q = g q) (hn : 1 ≤ n) (ha : a < 2) : ∀ k, k ≤ n → exS R n a gr k = exS g n a gr k
  | 0, _ => h a (by omega)
  | k + 1, hk => by
    unfold exS
    rw [exS_c h hn ha k (by omega), ex1_c h (by omega) ha]
theorem nf_c {x y : Int32} (h : ∀ q, q < 8 * n → R q = g q) : ∀ m k, k + m ≤ n → nf R x y m k = nf g x y m k
  | 0, _, _ => rfl
  | m + 1, k, hk => by
    unfold nf
    rw [h _ (by omega), h (8 * k + 1) (by omega), nf_c h m (k + 1) (by omega)]
theorem rn_c {k f : Nat} (h : ∀ q, q < 8 * n → R q = g q) (hk : k < n) (hf : f < 8) : rn R k f = rn g k f := by
  unfold rn
  rw [h _ (by omega), h (8 * k + f) (by omega)]
theorem h6_c {k : Nat} {a : Int64} (h : ∀ q, q < 8 * n → R q = g q) (hk : k < n) : ∀ f, f ≤ 6 → h6 R k a f = h6 g k a f
  | 0, _ => rfl
  | f + 1, hf => by
    unfold h6
    rw [h6_c h hk f (by omega), h _ (by omega)]
theorem hS_c {a : Int64} (h : ∀ q, q < 8 * n → R q = g q) : ∀ k, k ≤ n → hS R a k = hS g a k
  | 0, _ => rfl
  | k + 1, hk => by
    unfold hS hN
    rw [hS_c h k (by omega), h6_c h (by omega) 6 (by omega), rn_c h (by omega) (by omega), rn_c h (by omega) (by omega)]
theorem hP1_c {a : Int64} {b : Bool} (h : ∀ q, q < 8 * n → R q = g q) : hP1 R n b a = hP1 g n b a := by
  unfold hP1
  rw [hS_c h n (by omega), aS_c h n (by omega)]
theorem sz_c {k : Nat} (h : ∀ q, q < 8 * n → R q = g q) (hk : k < n) : sz R n k = sz g n k := by
  have he : eo n k < n := by unfold eo; split <;> omega
  unfold sz
  rw [h _ (by omega), h (8 * k + 5) (by omega), h (8 * eo n k + 2) (by omega), h (8 * eo n k + 3) (by omega)]
theorem mn_c {k f : Nat} {a b c d : Int64} (h : ∀ q, q < 8 * n → R q = g q) (hk : k < n) (hf : f < 6) : mn R k a b c d f = mn g k a b c d f := by
  unfold mn
  rw [h _ (by omega), h (8 * k + (f + 1)) (by omega), h (8 * k + (f - 1)) (by omega)]
theorem mT_c {k : Nat} {a b c d q : Int64} {t : Int32} (h : ∀ q, q < 8 * n → R q = g q) (hk : k < n) : ∀ f, f ≤ 6 → mT R k a b c d q t f = mT g k a b c d q t f
  | 0, _ => rfl
  | f + 1, hf => by
    unfold mT
    rw [mT_c h hk f (by omega), mn_c h hk (by omega)]
end
