theorem scan_start (S : ST) : ∃ T, f_X8_scan S = lp (fun _ _ _ _ _ => none) b_X8_scan_35 1000 0 0 (nI 0) (nI 1) T ∧ Off 52 [0, 1, 2, 3, 4] S T ∧ T.1 52 0 = -1 ∧ T.1 52 1 = -1 ∧ T.1 52 2 = 0 ∧ T.1 52 3 = -1 ∧ T.1 52 4 = 0 := by
  refine ⟨su (su (su (su (su S 52 0 (-1)) 52 1 (-1)) 52 2 0) 52 3 (-1)) 52 4 0, ?_, ((((Off.rf.su 0 _ (by simp)).su 1 _ (by simp)).su 2 _ (by simp)).su 3 _ (by simp)).su 4 _ (by simp), by simp [su_1], by simp [su_1], by simp [su_1], by simp [su_1], by simp [su_1]⟩
  have z : nI 0 = 0 := rfl
  have o : nI 1 = 1 := rfl
  rw [z, o]
  unfold f_X8_scan
  generalize lp (fun _ _ _ _ _ => none) b_X8_scan_35 1000 = Q
  rw [nm_x, nm_x, nm_x, nm_x, nm_x]
