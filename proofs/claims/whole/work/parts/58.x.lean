theorem isTimeM (a : Int32) : f_X10_isTime a = some (if 1 ≤ a.toInt ∧ a.toInt ≤ 200 then 1 else 0) := by
  have z : (1 : Int64).toInt = 1 := rfl
  have z2 : (200 : Int64).toInt = 200 := rfl
  have q : (if (1 : Int64).toInt ≤ a.toInt64.toInt ∧ a.toInt64.toInt ≤ (200 : Int64).toInt then (1 : Int32) else 0) = if 1 ≤ a.toInt ∧ a.toInt ≤ 200 then 1 else 0 := by
    rw [z, z2, tl_i]
  unfold f_X10_isTime
  rw [inM, q, bn1_some, chk_t _ (zb_if _)]
theorem isTimeC (a : Int32) : f_X9_within a 1 200 = some (if 1 ≤ a.toInt ∧ a.toInt ≤ 200 then 1 else 0) := withinC a 1 200
theorem in5M (a : Int32) : f_X10_in a.toInt64 0 5 = some (if 0 ≤ a.toInt ∧ a.toInt ≤ 5 then 1 else 0) := by
  have z : (0 : Int64).toInt = 0 := rfl
  have z2 : (5 : Int64).toInt = 5 := rfl
  rw [inM, z, z2, tl_i]
theorem in5C (a : Int32) : f_X9_within a 0 5 = some (if 0 ≤ a.toInt ∧ a.toInt ≤ 5 then 1 else 0) := withinC a 0 5
