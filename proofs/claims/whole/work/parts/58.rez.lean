theorem lenC (S : ST) : f_X9_lengthNow S = some (S.1 5 1 - S.1 32 1) := by
  unfold f_X9_lengthNow
  rw [show f_X3_number (1 : Int32) S = some (S.1 5 1) from numC (i := 1) S (by omega), bn1_some, show f_X5_inHand (1 : Int32) S = some (S.1 32 1) from handC (i := 1) S (by omega), bn1_some]
theorem lowC {S : ST} {mo : Nat} (h : S.1 32 0 = nI mo) (hm : mo < 12) : f_X9_lowerNow S = some (S.1 8 mo) := by
  unfold f_X9_lowerNow f_X3_lower
  rw [show f_X5_inHand (0 : Int32) S = some (S.1 32 0) from handC (i := 0) S (by omega), bn1_some, h, at_in 8 S (show mo < lnC 8 from hm)]
  rfl
theorem swk_i : ∀ i, i < 8 → swk (15 + 2 * i) = true := by decide
/-- the class: one who swings is read into the jump -/
theorem suitC {i : Nat} (hi : i < 8) (S : ST) : ∃ S', f_X0_suit (15 + 2 * i) S = some S' ∧ Off 51 [4, 5, 6, 7, 8] S S' ∧ S'.1 51 4 = S.1 (16 + 2 * i) 0 ∧ S'.1 51 5 = S.1 (16 + 2 * i) 1 ∧ S'.1 51 6 = S.1 (16 + 2 * i) 2 ∧ S'.1 51 7 = S.1 (16 + 2 * i) 3 ∧ S'.1 51 8 = S.1 (16 + 2 * i) 4 := by
  have hk := swk_i i hi
  have ek : 15 + 2 * i + 1 = 16 + 2 * i := by omega
  have hne : 15 + 2 * i + 1 ≠ 51 := by omega
  have r0 : ∀ T : ST, f_X6_number (15 + 2 * i) (0 : Int32) T = some (T.1 (15 + 2 * i + 1) 0) := fun T => swC (i := 0) _ T hk (by omega)
  have r1 : ∀ T : ST, f_X6_number (15 + 2 * i) (1 : Int32) T = some (T.1 (15 + 2 * i + 1) 1) := fun T => swC (i := 1) _ T hk (by omega)
  have r2 : ∀ T : ST, f_X6_number (15 + 2 * i) (2 : Int32) T = some (T.1 (15 + 2 * i + 1) 2) := fun T => swC (i := 2) _ T hk (by omega)
  have r3 : ∀ T : ST, f_X6_number (15 + 2 * i) (3 : Int32) T = some (T.1 (15 + 2 * i + 1) 3) := fun T => swC (i := 3) _ T hk (by omega)
  have r4 : ∀ T : ST, f_X6_number (15 + 2 * i) (4 : Int32) T = some (T.1 (15 + 2 * i + 1) 4) := fun T => swC (i := 4) _ T hk (by omega)
  refine ⟨su (su (su (su (su S 51 4 (S.1 (16 + 2 * i) 0)) 51 5 (S.1 (16 + 2 * i) 1)) 51 6 (S.1 (16 + 2 * i) 2)) 51 7 (S.1 (16 + 2 * i) 3)) 51 8 (S.1 (16 + 2 * i) 4), ?_, ((((Off.rf.su 4 _ (by simp)).su 5 _ (by simp)).su 6 _ (by simp)).su 7 _ (by simp)).su 8 _ (by simp), by simp [su_1], by simp [su_1], by simp [su_1], by simp [su_1], by simp [su_1]⟩
  unfold f_X0_suit
  rw [r0, bn1_some, nm_x, r1, bn1_some, nm_x, su_r _ _ _ _ hne, r2, bn1_some, nm_x, su_r _ _ _ _ hne, su_r _ _ _ _ hne, r3, bn1_some, nm_x, su_r _ _ _ _ hne, su_r _ _ _ _ hne, su_r _ _ _ _ hne, r4, bn1_some, nm_x, su_r _ _ _ _ hne, su_r _ _ _ _ hne, su_r _ _ _ _ hne, su_r _ _ _ _ hne, ek]
theorem n5_0 : ∀ i, i < 8 → (5 : Int32) * nI i = nI (5 * i) := by decide
theorem n5_1 : ∀ i, i < 8 → (5 : Int32) * nI i + 1 = nI (5 * i + 1) := by decide
theorem n5_2 : ∀ i, i < 8 → (5 : Int32) * nI i + 2 = nI (5 * i + 2) := by decide
theorem n5_3 : ∀ i, i < 8 → (5 : Int32) * nI i + 3 = nI (5 * i + 3) := by decide
theorem n5_4 : ∀ i, i < 8 → (5 : Int32) * nI i + 4 = nI (5 * i + 4) := by decide
/-- the reference: the same -/
theorem suitM {i : Nat} (hi : i < 8) (M : ST) : ∃ M', f_X10_usePerson (nI i) M = some M' ∧ Off 0 [24, 25, 26, 27, 28] M M' ∧ M'.1 0 24 = M.1 5 (5 * i) ∧ M'.1 0 25 = M.1 5 (5 * i + 1) ∧ M'.1 0 26 = M.1 5 (5 * i + 2) ∧ M'.1 0 27 = M.1 5 (5 * i + 3) ∧ M'.1 0 28 = M.1 5 (5 * i + 4) := by
  have b : ∀ j, j < 5 → ib (nI (5 * i + j)) 40 = true := fun j hj => ib_nI (by omega) (by omega)
  have n : ∀ j, j < 5 → (nI (5 * i + j)).toNatClampNeg = 5 * i + j := fun j hj => nI_n (by omega)
  have hne : (5 : Nat) ≠ 0 := by decide
  refine ⟨su (su (su (su (su M 0 24 (M.1 5 (5 * i))) 0 25 (M.1 5 (5 * i + 1))) 0 26 (M.1 5 (5 * i + 2))) 0 27 (M.1 5 (5 * i + 3))) 0 28 (M.1 5 (5 * i + 4)), ?_, ((((Off.rf.su 24 _ (by simp)).su 25 _ (by simp)).su 26 _ (by simp)).su 27 _ (by simp)).su 28 _ (by simp), by simp [su_1], by simp [su_1], by simp [su_1], by simp [su_1], by simp [su_1]⟩
  unfold f_X10_usePerson
  rw [n5_1 i hi, n5_2 i hi, n5_3 i hi, n5_4 i hi, n5_0 i hi, chk_t _ (show ib (nI (5 * i)) 40 = true from b 0 (by omega)), nm_x, chk_t _ (b 1 (by omega)), nm_x, chk_t _ (b 2 (by omega)), nm_x, chk_t _ (b 3 (by omega)), nm_x, chk_t _ (b 4 (by omega)), nm_x, n 1 (by omega), n 2 (by omega), n 3 (by omega), n 4 (by omega), show (nI (5 * i)).toNatClampNeg = 5 * i from n 0 (by omega)]
  simp only [su_r _ _ _ _ hne]
