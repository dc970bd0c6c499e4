/-- an angle without sign, at most 1800 -/
def sz (a : Int32) : Int32 := if a < -1800 then 1800 else if a ≤ 1800 then (if 0 ≤ a then a else -a) else 1800
def snv (b : Int32) : Int32 := ((4000 : Int64) * (b.toInt64 * ((1800 : Int64) - b.toInt64)) / ((4050000 : Int64) - b.toInt64 * ((1800 : Int64) - b.toInt64))).toInt32
/-- SINE, COSINE -/
def sn (a : Int32) : Int32 := if 0 ≤ a then snv (sz a) else -(snv (sz a))
def cs (a : Int32) : Int32 := sn (900 - sz a)
theorem snv_ok : ∀ n, n < 1801 → ¬ lg_cmp ((4050000 : Int64) - (nI n).toInt64 * ((1800 : Int64) - (nI n).toInt64)) (0 : Int64) = 0 ∧ nzl ((4050000 : Int64) - (nI n).toInt64 * ((1800 : Int64) - (nI n).toInt64)) = true ∧ (0 ≤ (snv (nI n)).toInt ∧ (snv (nI n)).toInt ≤ 1000) ∧ (nI n).toInt64 * ((1800 : Int32) - nI n).toInt64 = (nI n).toInt64 * ((1800 : Int64) - (nI n).toInt64) := by decide +kernel
theorem sz_n (a : Int32) : ∃ n, n < 1801 ∧ sz a = nI n ∧ (sz a).toInt = n := by
  have h1 := Int32.le_toInt a
  have h2 := Int32.toInt_lt a
  have g : ∀ b : Int32, 0 ≤ b.toInt → b.toInt ≤ 1800 → ∃ n, n < 1801 ∧ b = nI n ∧ b.toInt = n := fun b h h' => ⟨b.toNatClampNeg, by have := (n_of h).2; omega, (n_of h).1, (n_of h).2.symm⟩
  have c1 : (1800 : Int32).toInt = 1800 := rfl
  have c2 : (-1800 : Int32).toInt = -1800 := rfl
  have c0 : (0 : Int32).toInt = 0 := rfl
  apply g
  · unfold sz
    split
    · decide
    · rename_i q; rw [i_lt, c2] at q
      split
      · rename_i q2; rw [i_le, c1] at q2
        split
        · rename_i q3; rw [i_le, c0] at q3; exact q3
        · rename_i q3; rw [i_le, c0] at q3; rw [ti_neg (by omega)]; omega
      · decide
  · unfold sz
    split
    · decide
    · rename_i q; rw [i_lt, c2] at q
      split
      · rename_i q2; rw [i_le, c1] at q2
        split
        · omega
        · rename_i q3; rw [i_le, c0] at q3; rw [ti_neg (by omega)]; omega
      · decide
theorem sizeC (a : Int32) : f_X9_sizeOf a = some (sz a) := by
  unfold f_X9_sizeOf sz
  split
  · rfl
  · split
    · split <;> rfl
    · rfl
theorem tA (a : Int32) {n : Nat} (e : sz a = nI n) : f_X9_sineOf a = bn1 (some (nI n)) fun r1 => nm (r1.toInt64) fun v2 => nm (v2 * (((1800 : Int64)) - v2)) fun v3 => nm (((4050000 : Int64)) - v3) fun v4 => if (lg_cmp v4 ((0 : Int64))) = 0 then (some ((0 : Int32))) else (chk (nzl v4) (nm (((((4000 : Int64)) * v3) / v4).toInt32) fun v7 => if 0 ≤ a then (some v7) else (some (-v7)))) := by
  unfold f_X9_sineOf
  rw [sizeC, e]
theorem tB (a : Int32) (x v4 : Int64) (h1 : ¬ lg_cmp v4 (0 : Int64) = 0) (h2 : nzl v4 = true) : (if (lg_cmp v4 ((0 : Int64))) = 0 then (some ((0 : Int32))) else (chk (nzl v4) (nm (((((4000 : Int64)) * x) / v4).toInt32) fun v7 => if 0 ≤ a then (some v7) else (some (-v7))))) = some (if 0 ≤ a then (((((4000 : Int64)) * x) / v4).toInt32) else -(((((4000 : Int64)) * x) / v4).toInt32)) := by
  rw [if_neg h1, chk_t _ h2, nm_x]
  by_cases q : 0 ≤ a
  · rw [if_pos q, if_pos q]
  · rw [if_neg q, if_neg q]
theorem sineC (a : Int32) : f_X9_sineOf a = some (sn a) := by
  obtain ⟨n, hn, e, -⟩ := sz_n a
  obtain ⟨h1, h2, -, -⟩ := snv_ok n hn
  rw [tA a e, bn1_some, nm_x, nm_x, nm_x, tB a _ _ h1 h2, sn, e, snv]
theorem sn_b (a : Int32) : -1000 ≤ (sn a).toInt ∧ (sn a).toInt ≤ 1000 := by
  obtain ⟨n, hn, e, -⟩ := sz_n a
  obtain ⟨-, -, h3, -⟩ := snv_ok n hn
  unfold sn
  rw [e]
  split
  · omega
  · rw [ti_neg (by omega)]; omega
theorem cs_b (a : Int32) : -1000 ≤ (cs a).toInt ∧ (cs a).toInt ≤ 1000 := sn_b _
theorem tC (a : Int32) (x v4 : Int64) (h2 : nzl v4 = true) : (chk (nzl v4) (nm (((((4000 : Int64)) * x) / v4).toInt32) fun x6 => if 0 ≤ a then (some x6) else (some (-x6)))) = some (if 0 ≤ a then (((((4000 : Int64)) * x) / v4).toInt32) else -(((((4000 : Int64)) * x) / v4).toInt32)) := by
  rw [chk_t _ h2, nm_x]
  by_cases q : 0 ≤ a
  · rw [if_pos q, if_pos q]
  · rw [if_neg q, if_neg q]
theorem sineM_20 (a : Int32) {n : Nat} (hn : n < 1801) (e : sz a = nI n) : b_X10_sineOf_20 a (nI n) = some (sn a) := by
  obtain ⟨h1, h2, -, h4⟩ := snv_ok n hn
  rw [b_X10_sineOf_20, nm_x, h4, tC a _ _ h2, sn, e, snv]
/-- the reference's size is the class's where it isn't cut -/
theorem sizeM (a : Int32) (h : -2147483648 < a.toInt) : ∃ r, f_X10_size a = some r ∧ (r ≤ 1800 → r = sz a) ∧ (¬ r ≤ 1800 → sz a = 1800) := by
  have h2 := Int32.toInt_lt a
  have c1 : (1800 : Int32).toInt = 1800 := rfl
  have c2 : (-1800 : Int32).toInt = -1800 := rfl
  have c0 : (0 : Int32).toInt = 0 := rfl
  unfold f_X10_size
  by_cases q : 0 ≤ a
  · refine ⟨a, by rw [if_pos q], fun q2 => ?_, fun q2 => ?_⟩
    · have q3 : ¬ a < -1800 := by rw [i_lt, c2]; rw [i_le, c0] at q; omega
      simp only [sz, if_neg q3, if_pos q2, if_pos q]
    · have q3 : ¬ a < -1800 := by rw [i_lt, c2]; rw [i_le, c0] at q; omega
      simp only [sz, if_neg q3, if_neg q2]
  · refine ⟨-a, by rw [if_neg q], fun q2 => ?_, fun q2 => ?_⟩
    · rw [i_le, c1, ti_neg h] at q2
      rw [i_le, c0] at q
      have q3 : ¬ a < -1800 := by rw [i_lt, c2]; omega
      have q4 : a ≤ 1800 := by rw [i_le, c1]; omega
      have q5 : ¬ 0 ≤ a := by rw [i_le, c0]; exact q
      simp only [sz, if_neg q3, if_pos q4, if_neg q5]
    · rw [i_le, c1, ti_neg h] at q2
      have q3 : a < -1800 := by rw [i_lt, c2]; omega
      simp only [sz, if_pos q3]
theorem sineM (a : Int32) (h : -2147483648 < a.toInt) : f_X10_sineOf a = some (sn a) := by
  obtain ⟨r, h1, h2, h3⟩ := sizeM a h
  obtain ⟨n, hn, e, -⟩ := sz_n a
  unfold f_X10_sineOf
  rw [h1, bn1_some]
  split
  · rename_i q
    rw [bn1_some, h2 q, e]
    exact sineM_20 a hn e
  · rename_i q
    have e1 := h3 q
    have e2 : (1800 : Int32) = nI n := e1.symm.trans e
    rw [e2]
    exact sineM_20 a hn e
theorem cosM (a : Int32) (h : -2147483648 < a.toInt) : f_X10_cosineOf a = some (cs a) := by
  obtain ⟨r, h1, h2, h3⟩ := sizeM a h
  obtain ⟨n, hn, e, e2⟩ := sz_n a
  have c9 : (900 : Int32).toInt = 900 := rfl
  have hs : -2147483648 < (900 - sz a).toInt := by rw [ti_sub (by omega) (by omega)]; omega
  unfold f_X10_cosineOf
  rw [h1, bn1_some]
  split
  · rename_i q
    rw [bn1_some, h2 q]
    unfold b_X10_cosineOf_23
    rw [sineM _ hs, bn1_some]; rfl
  · rename_i q
    unfold b_X10_cosineOf_23
    rw [← h3 q, sineM _ hs, bn1_some]; rfl
/-- a hundredth of an angle is never the least of all ints -/
theorem d100 (a : Int32) : -2147483648 < (a / 100).toInt := by
  have h1 := Int32.le_toInt a
  have h2 := Int32.toInt_lt a
  have c1 : (100 : Int32).toInt = 100 := rfl
  rw [ti_div (by rw [c1]; decide), c1]
  have : a.toInt.tdiv 100 = a.toInt.tdiv 100 := rfl
  rcases Int.le_total 0 a.toInt with q | q
  · have := Int.tdiv_nonneg q (by decide : (0 : Int) ≤ 100)
    omega
  · have e : a.toInt.tdiv 100 = -((-a.toInt).tdiv 100) := by rw [Int.neg_tdiv]; omega
    have h5 : (-a.toInt).tdiv 100 = (-a.toInt) / 100 := Int.tdiv_eq_ediv_of_nonneg (by omega)
    rw [e, h5]
    omega
-- rows of a cell
theorem lnC_lt (k : Nat) : lnC k ≤ 300 := by
  have h : ∀ k, k < 54 → lnC k ≤ 300 := by decide
  by_cases hk : k < 54
  · exact h k hk
  · have : lnC k = 0 := by unfold lnC; rw [List.getD_eq_getElem?_getD, List.getElem?_eq_none (by simp; omega)]; rfl
    omega
theorem at_in (k : Nat) {i : Nat} (S : ST) (h : i < lnC k) : f_X9_at k (nI i) S = some (S.1 k i) := by
  have hl := lnC_lt k
  unfold f_X9_at
  rw [if_neg (nI_pos (by omega)), if_neg (by rw [i_ofNat]; exact nI_ge h (by omega)), chk_t _ (ib_nI h (by omega)), nI_n (by omega)]
theorem at_out (k : Nat) {x : Int32} (S : ST) (h : x.toInt < 0 ∨ (lnC k : Int) ≤ x.toInt) : f_X9_at k x S = some 0 := by
  have hl := lnC_lt k
  have c0 : (0 : Int32).toInt = 0 := rfl
  unfold f_X9_at
  by_cases q : x < 0
  · rw [if_pos q]
  · rw [if_neg q]
    rw [i_lt, c0] at q
    rw [if_pos (by rw [i_ofNat, i_le, nI_i (by omega)]; omega)]
theorem put_in (k : Nat) {i : Nat} (v : Int32) (S : ST) (h : i < lnC k) : f_X9_put k (nI i) v S = some (su S k i v) := by
  have hl := lnC_lt k
  unfold f_X9_put
  rw [if_neg (nI_pos (by omega)), if_neg (by rw [i_ofNat]; exact nI_ge h (by omega)), chk_t _ (ib_nI h (by omega)), nI_n (by omega)]
  rfl
theorem quotC {x y : Int32} (h : ¬ y = 0) : f_X9_quotient x y = some (x / y) := by
  unfold f_X9_quotient
  rw [if_neg h, chk_t _ (by simp [nz, h])]
theorem numC {i : Nat} (S : ST) (h : i < 9) : f_X3_number (nI i) S = some (S.1 5 i) := by
  unfold f_X3_number
  rw [if_neg (nI_pos (by omega)), if_neg (show ¬ (9 : Int32) ≤ nI i from nI_ge (b := 9) h (by omega)), chk_t _ (ib_nI h (by omega)), nI_n (by omega)]
theorem handC {i : Nat} (S : ST) (h : i < 5) : f_X5_inHand (nI i) S = some (S.1 32 i) := by
  unfold f_X5_inHand
  rw [at_in 32 S (show i < lnC 32 from h)]; rfl
theorem swC {i : Nat} (k : Nat) (S : ST) (hk : swk k = true) (h : i < 5) : f_X6_number k (nI i) S = some (S.1 (k + 1) i) := by
  have hl : lnC (k + 1) = 5 := sw_cases (P := fun k => lnC (k + 1) = 5) (by decide) hk
  unfold f_X6_number
  rw [at_in (k + 1) S (by rw [hl]; exact h)]; rfl
