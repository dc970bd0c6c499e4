theorem zb_if (p : Prop) [Decidable p] : zb (if p then (1 : Int32) else 0) = true := by
  by_cases h : p
  · rw [if_pos h]; decide
  · rw [if_neg h]; decide
/-- one who swings, or none, in the reference -/
theorem isSwM {h : Nat} (h8 : h ≤ 8) {M : ST} (e : M.1 0 4 = nI h) (a : Int32) : f_X10_isSwinger a M = some (if 0 ≤ a.toInt ∧ a.toInt < h then 1 else 0) := by
  have z : (0 : Int64).toInt = 0 := rfl
  have eh : (nI h).toInt = h := nI_i (by omega)
  have o : (1 : Int32).toInt = 1 := rfl
  have e1 : (nI h - 1).toInt = h - 1 := by rw [ti_sub (by rw [eh, o]; omega) (by rw [eh, o]; omega), eh, o]
  have q : (if (0 : Int64).toInt ≤ a.toInt64.toInt ∧ a.toInt64.toInt ≤ (nI h - 1).toInt64.toInt then (1 : Int32) else 0) = if 0 ≤ a.toInt ∧ a.toInt < h then 1 else 0 := by
    rw [z, tl_i, tl_i, e1]
    by_cases p : 0 ≤ a.toInt ∧ a.toInt < h
    · rw [if_pos p, if_pos (by omega)]
    · rw [if_neg p, if_neg (by omega)]
  unfold f_X10_isSwinger
  rw [e, inM, q, bn1_some, chk_t _ (zb_if _)]
