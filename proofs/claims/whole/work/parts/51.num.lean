-- numbers: the machine's ints and longs as whole numbers
theorem bm {x : Int} (h : -2147483648 ≤ x) (h2 : x < 2147483648) : x.bmod (2 ^ 32) = x := by
  apply Int.bmod_eq_of_le <;> omega
theorem bm64 {x : Int} (h : -9223372036854775808 ≤ x) (h2 : x < 9223372036854775808) : x.bmod (2 ^ 64) = x := by
  apply Int.bmod_eq_of_le <;> omega
theorem ti_add {a b : Int32} (h : -2147483648 ≤ a.toInt + b.toInt) (h2 : a.toInt + b.toInt < 2147483648) : (a + b).toInt = a.toInt + b.toInt := by
  rw [Int32.toInt_add, bm h h2]
theorem ti_sub {a b : Int32} (h : -2147483648 ≤ a.toInt - b.toInt) (h2 : a.toInt - b.toInt < 2147483648) : (a - b).toInt = a.toInt - b.toInt := by
  rw [Int32.toInt_sub, bm h h2]
theorem ti_mul {a b : Int32} (h : -2147483648 ≤ a.toInt * b.toInt) (h2 : a.toInt * b.toInt < 2147483648) : (a * b).toInt = a.toInt * b.toInt := by
  rw [Int32.toInt_mul, bm h h2]
theorem ti_neg {a : Int32} (h : -2147483648 < a.toInt) : (-a).toInt = -a.toInt := by
  have := Int32.toInt_lt a
  rw [Int32.toInt_neg, bm (by omega) (by omega)]
theorem tdiv_le {x d : Int} (hd : 0 < d) : -(x.natAbs : Int) ≤ x.tdiv d ∧ x.tdiv d ≤ (x.natAbs : Int) := by
  have h := Int.natAbs_tdiv_le_natAbs x d
  omega
theorem ti_div {a b : Int32} (h : 0 < b.toInt) : (a / b).toInt = a.toInt.tdiv b.toInt := by
  have h1 := Int32.le_toInt a
  have h2 := Int32.toInt_lt a
  rw [Int32.toInt_div]
  by_cases hz : a.toInt = -2147483648
  · rw [hz]
    have hb := Int32.toInt_lt b
    have e : (-2147483648 : Int).tdiv b.toInt = -((2147483648 : Int).tdiv b.toInt) := Int.neg_tdiv _ _
    rw [e]
    have h3 : (0 : Int) ≤ (2147483648 : Int).tdiv b.toInt := Int.tdiv_nonneg (by omega) (by omega)
    have h4 : (2147483648 : Int).tdiv b.toInt ≤ 2147483648 := by
      have := tdiv_le (x := 2147483648) h
      omega
    exact bm (by omega) (by omega)
  · have := tdiv_le (x := a.toInt) h
    exact bm (by omega) (by omega)
theorem tl_add {a b : Int64} (h : -9223372036854775808 ≤ a.toInt + b.toInt) (h2 : a.toInt + b.toInt < 9223372036854775808) : (a + b).toInt = a.toInt + b.toInt := by
  rw [Int64.toInt_add, bm64 h h2]
theorem tl_sub {a b : Int64} (h : -9223372036854775808 ≤ a.toInt - b.toInt) (h2 : a.toInt - b.toInt < 9223372036854775808) : (a - b).toInt = a.toInt - b.toInt := by
  rw [Int64.toInt_sub, bm64 h h2]
theorem tl_mul {a b : Int64} (h : -9223372036854775808 ≤ a.toInt * b.toInt) (h2 : a.toInt * b.toInt < 9223372036854775808) : (a * b).toInt = a.toInt * b.toInt := by
  rw [Int64.toInt_mul, bm64 h h2]
theorem tl_div {a b : Int64} (h : 0 < b.toInt) (h1 : -9223372036854775808 < a.toInt) : (a / b).toInt = a.toInt.tdiv b.toInt := by
  have h2 := Int64.toInt_lt a
  have := tdiv_le (x := a.toInt) h
  rw [Int64.toInt_div, bm64 (by omega) (by omega)]
theorem tl_i (a : Int32) : a.toInt64.toInt = a.toInt := Int32.toInt_toInt64 a
theorem ti_l {a : Int64} (h : -2147483648 ≤ a.toInt) (h2 : a.toInt < 2147483648) : a.toInt32.toInt = a.toInt := by
  rw [Int64.toInt_toInt32, bm h h2]
theorem i_ext {a b : Int32} (h : a.toInt = b.toInt) : a = b := Int32.toInt_inj.mp h
theorem l_ext {a b : Int64} (h : a.toInt = b.toInt) : a = b := Int64.toInt_inj.mp h
theorem i_le {a b : Int32} : a ≤ b ↔ a.toInt ≤ b.toInt := Int32.le_iff_toInt_le
theorem i_lt {a b : Int32} : a < b ↔ a.toInt < b.toInt := Int32.lt_iff_toInt_lt
theorem l_le {a b : Int64} : a ≤ b ↔ a.toInt ≤ b.toInt := Int64.le_iff_toInt_le
theorem l_lt {a b : Int64} : a < b ↔ a.toInt < b.toInt := Int64.lt_iff_toInt_lt
theorem nN {x : Int32} {n : Nat} (h : x.toInt = n) : x.toNatClampNeg = n := by
  show x.toInt.toNat = n
  omega
theorem n_of {x : Int32} (h : 0 ≤ x.toInt) : x = nI x.toNatClampNeg ∧ (x.toNatClampNeg : Int) = x.toInt := by
  have h2 : (x.toNatClampNeg : Int) = x.toInt := by
    show ((x.toInt.toNat : Nat) : Int) = x.toInt
    omega
  have h3 := Int32.toInt_lt x
  refine ⟨i_ext ?_, h2⟩
  rw [nI_toInt (by omega)]
  omega
theorem nI_n {n : Nat} (h : n < 2147483648) : (nI n).toNatClampNeg = n := nI_clamp (by omega)
theorem nI_i {n : Nat} (h : n < 2147483648) : (nI n).toInt = n := nI_toInt (by omega)
theorem i_ofNat (n : Nat) : Int32.ofNat n = nI n := rfl
-- the pure functions' pieces
theorem nm_x {α β : Type} (x : α) (k : α → β) : nm x k = k x := rfl
theorem bn1_some {α γ : Type} (x : α) (k : α → Option γ) : bn1 (some x) k = k x := rfl
theorem bnd_some {α β γ : Type} (x : α) (y : β) (k : α → β → Option γ) : bnd (some (x, y)) k = k x y := rfl
theorem chk_t {α : Type} {b : Bool} (x : Option α) (h : b = true) : chk b x = x := by rw [h]; rfl
theorem om_none {β : Type} (x : β) (f : Nat → β) : om none x f = x := rfl
theorem om_some {β : Type} (k : Nat) (x : β) (f : Nat → β) : om (some k) x f = f k := rfl
theorem lp_s {F : Type} (z : F) (b : F → F) (n : Nat) : lp z b (n + 1) = b (lp z b n) := rfl
theorem su_1 (S : ST) (k j : Nat) (v : Int32) (k' j' : Nat) : (su S k j v).1 k' j' = if k' = k then (if j' = j then v else S.1 k' j') else S.1 k' j' := by
  unfold su sr upd
  by_cases h : k' = k
  · subst h; simp
  · simp [h]
theorem su_r (S : ST) (k j : Nat) (v : Int32) {k' : Nat} (h : k' ≠ k) : (su S k j v).1 k' = S.1 k' := sr_n S _ h
theorem su_2 (S : ST) (k j : Nat) (v : Int32) : (su S k j v).2 = S.2 := rfl
theorem ib_nI {i n : Nat} (h : i < n) (h2 : i < 2147483648) : ib (nI i) n = true := by
  have h1 : ¬ nI i < 0 := nI_pos (by omega)
  simp [ib, h1, nI_n h2, h]
theorem ib_of {x : Int32} {n : Nat} (h : 0 ≤ x.toInt) (h2 : x.toInt < n) : ib x n = true := by
  obtain ⟨e, e2⟩ := n_of h
  have := Int32.toInt_lt x
  rw [e]; exact ib_nI (by omega) (by omega)
theorem lit_ne : (0 : Int32).toInt = 0 := rfl
