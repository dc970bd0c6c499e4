/-- whether the flight is over at such a spot -/
def dwn (lo : Int32) (S : ST) (x y : Int32) : Int32 := if y.toInt ≤ 0 ∧ (y.toInt ≤ -100 * lo.toInt ∨ kd (S.1 5 8) (S.1 7) (cl (x / 100)) = 2) then 1 else 0
theorem dwn_01 (lo : Int32) (S : ST) (x y : Int32) : dwn lo S x y = 0 ∨ dwn lo S x y = 1 := by
  unfold dwn
  by_cases q : y.toInt ≤ 0 ∧ (y.toInt ≤ -100 * lo.toInt ∨ kd (S.1 5 8) (S.1 7) (cl (x / 100)) = 2)
  · rw [if_pos q]; exact Or.inr rfl
  · rw [if_neg q]; exact Or.inl rfl
theorem ti_addc {a c : Int32} {n : Int} (hc : c.toInt = n) (h : -2147483648 ≤ a.toInt + n) (h2 : a.toInt + n < 2147483648) : (a + c).toInt = a.toInt + n := by
  subst hc; exact ti_add h h2
theorem tl_subc {a c : Int64} {n : Int} (hc : c.toInt = n) (h : -9223372036854775808 ≤ a.toInt - n) (h2 : a.toInt - n < 9223372036854775808) : (a - c).toInt = a.toInt - n := by
  subst hc; exact tl_sub h h2
theorem ti_mulc {a c : Int32} {n : Int} (hc : c.toInt = n) (h : -2147483648 ≤ n * a.toInt) (h2 : n * a.toInt < 2147483648) : (c * a).toInt = n * a.toInt := by
  subst hc; exact ti_mul h h2
theorem tl_mulc {a c : Int64} {n : Int} (hc : c.toInt = n) (h : -9223372036854775808 ≤ n * a.toInt) (h2 : n * a.toInt < 9223372036854775808) : (c * a).toInt = n * a.toInt := by
  subst hc; exact tl_mul h h2
theorem l245 : (245 : Int64).toInt = 245 := rfl
theorem l100 : (100 : Int64).toInt = 100 := rfl
theorem i245 : (-245 : Int32).toInt = -245 := rfl
theorem i100 : (100 : Int32).toInt = 100 := rfl
theorem up_i {u : Int32} (h : -200000 ≤ u.toInt) (h2 : u.toInt ≤ 200000) : (u + -245).toInt = u.toInt - 245 := by
  rw [ti_addc i245 (by omega) (by omega)]; omega
theorem up_l {u : Int32} {u64 : Int64} (hu : u64.toInt = u.toInt) (h : -200000 ≤ u.toInt) (h2 : u.toInt ≤ 200000) : (u64 - 245).toInt = u.toInt - 245 := by
  rw [tl_subc l245 (by rw [hu]; omega) (by rw [hu]; omega), hu]
theorem add_b {x a : Int32} {x64 a64 : Int64} (hx : x64.toInt = x.toInt) (ha : a64.toInt = a.toInt) (h : -100000000 ≤ x.toInt + a.toInt) (h2 : x.toInt + a.toInt ≤ 100000000) : (x + a).toInt = x.toInt + a.toInt ∧ (x64 + a64).toInt = x.toInt + a.toInt :=
  ⟨ti_add (by omega) (by omega), by rw [tl_add (by rw [hx, ha]; omega) (by rw [hx, ha]; omega), hx, ha]⟩
theorem hun {x : Int32} (h : -5000 ≤ x.toInt) (h2 : x.toInt ≤ 5000) : ((100 : Int32) * x).toInt = 100 * x.toInt ∧ ((100 : Int64) * x.toInt64).toInt = 100 * x.toInt :=
  ⟨ti_mulc i100 (by omega) (by omega), by rw [tl_mulc l100 (by rw [tl_i]; omega) (by rw [tl_i]; omega), tl_i]⟩
/-- how far off a flight may be after k ticks -/
def FB (k : Nat) (x y up top : Int) : Prop := (-(90000 + 60000 * (k : Int)) ≤ x ∧ x ≤ 90000 + 60000 * (k : Int)) ∧ (-(300000 + 200000 * (k : Int)) ≤ y ∧ y ≤ 300000 + 200000 * (k : Int)) ∧ (-(60000 + 245 * (k : Int)) ≤ up ∧ up ≤ 60000 + 245 * (k : Int)) ∧ (-(300000 + 200000 * (k : Int)) ≤ top ∧ top ≤ 300000 + 200000 * (k : Int))
theorem FB.zero {x y up : Int} (h : -90000 ≤ x) (h2 : x ≤ 90000) (h3 : -300000 ≤ y) (h4 : y ≤ 300000) (h5 : -60000 ≤ up) (h6 : up ≤ 60000) : FB 0 x y up y := by
  unfold FB
  omega
theorem FB.rng {k : Nat} {x y up top : Int} (h : FB k x y up top) (hk : k ≤ 400) : (-25000000 ≤ x ∧ x ≤ 25000000) ∧ (-81000000 ≤ y ∧ y ≤ 81000000) ∧ (-200000 ≤ up ∧ up ≤ 200000) := by
  unfold FB at h
  omega
theorem FB.st {k : Nat} {x y up top a : Int} (h : FB k x y up top) (hk : k < 400) (ha : -60000 ≤ a) (ha2 : a ≤ 60000) : FB (k + 1) (x + a) (y + up) (up - 245) top ∧ FB (k + 1) (x + a) (y + up) (up - 245) (y + up) := by
  unfold FB at h ⊢
  have e : ((k + 1 : Nat) : Int) = (k : Int) + 1 := rfl
  rw [e]
  omega
theorem downM {B L A V R lo : Int32} {mo : Nat} {S M : ST} (hF : FlyR B L A V R lo mo S M) (x y : Int32) (x64 y64 : Int64) (hx : x64.toInt = x.toInt) (hy : y64.toInt = y.toInt) (hxb : x.toInt < 100000000) :
    f_X10_isDown x64 y64 M = some (dwn lo S x y) ∧ (∃ n, n < 24 ∧ cl (x / 100) = nI n) := by
  obtain ⟨h1, h2, h3, h4, h5, h6, h7, h8, h9, h10, h11, h12, h13, h14, h15, h16, h17⟩ := hF
  have c1 : (100 : Int32).toInt = 100 := rfl
  have c3 : (0 : Int64).toInt = 0 := rfl
  have c4 : (-100 : Int64).toInt = -100 := rfl
  have hq : (x / 100).toInt < 1000000000 := by
    rw [ti_div (by rw [c1]; decide), c1]
    have := tdiv_le (x := x.toInt) (d := 100) (by decide)
    rcases Int.le_total 0 x.toInt with q | q
    · omega
    · have e : x.toInt.tdiv 100 = -((-x.toInt).tdiv 100) := by rw [Int.neg_tdiv]; omega
      have := Int.tdiv_nonneg (a := -x.toInt) (b := 100) (by omega) (by decide)
      omega
  obtain ⟨n, hn, en⟩ := cl_r (x / 100) hq
  refine ⟨?_, n, hn, en⟩
  unfold f_X10_isDown b_X10_isDown_35 dwn
  rw [d100i hx, cellM, bn1_some, en, kindM hn, bn1_some, lowM h9 h8, h10, bn1_some, kd_eq h2 hn]
  have e3 : (-100 * lo.toInt64).toInt = -100 * lo.toInt := by rw [tl_mul (by rw [c4, tl_i]; omega) (by rw [c4, tl_i]; omega), c4, tl_i]
  have k1 : (0 < lg_cmp y64 0) ↔ 0 < y.toInt := by rw [cmp_gt, c3, hy]
  have k2 : (0 < lg_cmp y64 (-100 * lo.toInt64)) ↔ -100 * lo.toInt < y.toInt := by rw [cmp_gt, e3, hy]
  by_cases q : kd (M.1 1 8) (M.1 3) (nI n) = 2
  · rw [if_pos q]
    by_cases q2 : 0 < y.toInt
    · rw [if_pos (k1.mpr q2), if_neg (by omega)]
    · rw [if_neg (fun h => q2 (k1.mp h)), if_pos ⟨by omega, Or.inr q⟩]
  · rw [if_neg q]
    by_cases q2 : -100 * lo.toInt < y.toInt
    · rw [if_pos (k2.mpr q2), if_neg (fun h => h.2.elim (fun h => by omega) q)]
    · rw [if_neg (fun h => q2 (k2.mp h)), if_pos ⟨by omega, Or.inl (by omega)⟩]
/-- one round of both flights, behind the moves -/
theorem fly107 {B L A V R lo : Int32} {mo : Nat} {S M : ST} (hF : FlyR B L A V R lo mo S M) (K : Int32 → Int32 → Int32 → Int32 → Int32 → Int32 → Int32 → Int32 → ST → Option ST) (t x y ac up tk top : Int32) (hxb : x.toInt < 100000000) (hyb : -1000000000 < y.toInt) :
    b_X0_fly_107 K t x y ac up tk top S = K t x y ac up top tk (dwn lo S x y) S := by
  obtain ⟨h1, h2, h3, h4, h5, h6, h7, h8, h9, h10, h11, h12, h13, h14, h15, h16, h17⟩ := id hF
  obtain ⟨-, n, hn, en⟩ := downM hF x y x.toInt64 y.toInt64 (tl_i x) (tl_i y) hxb
  have c0 : (0 : Int32).toInt = 0 := rfl
  have c1 : (-100 : Int32).toInt = -100 := rfl
  have e3 : ((-100 : Int32) * lo).toInt = -100 * lo.toInt := by rw [ti_mul (by rw [c1]; omega) (by rw [c1]; omega), c1]
  unfold b_X0_fly_107 dwn
  rw [h13]
  by_cases q : 0 < y.toInt
  · rw [if_pos (show (0 : Int32) < y by rw [i_lt, c0]; exact q), if_neg (by omega)]
  · rw [if_neg (show ¬ (0 : Int32) < y by rw [i_lt, c0]; exact q)]
    by_cases q2 : y.toInt ≤ -100 * lo.toInt
    · rw [if_pos (show y ≤ -100 * lo by rw [i_le, e3]; exact q2), if_pos ⟨by omega, Or.inl q2⟩]
    · rw [if_neg (show ¬ y ≤ -100 * lo by rw [i_le, e3]; exact q2), cellC, bn1_some, en, kindC hn, bn1_some]
      by_cases q3 : kd (S.1 5 8) (S.1 7) (nI n) = 2
      · rw [if_pos q3, if_pos ⟨by omega, Or.inr q3⟩]
      · rw [if_neg q3, if_neg (fun h => h.2.elim (fun h => q2 h) q3)]
