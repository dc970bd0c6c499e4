theorem wide_start (M : ST) : ∃ T, f_X10_wideRow M = lp (fun _ _ _ _ => none) b_X10_wideRow_16 1000 0 (nI 0) (nI 1) T ∧ Off 0 [39, 40] M T ∧ T.1 0 39 = -1 ∧ T.1 0 40 = 0 := by
  refine ⟨su (su M 0 39 (-1)) 0 40 0, ?_, (Off.rf.su 39 _ (by simp)).su 40 _ (by simp), by simp [su_1], by simp [su_1]⟩
  have z : nI 0 = 0 := rfl
  have o : nI 1 = 1 := rfl
  rw [z, o]
  unfold f_X10_wideRow
  generalize lp (fun _ _ _ _ => none) b_X10_wideRow_16 1000 = Q
  rw [nm_x, nm_x]
