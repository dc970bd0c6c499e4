theorem inM (x lo hi : Int64) : f_X10_in x lo hi = some (if lo.toInt ≤ x.toInt ∧ x.toInt ≤ hi.toInt then 1 else 0) := by
  unfold f_X10_in
  by_cases a : x.toInt < lo.toInt
  · rw [if_pos (cmp_lt.mpr a), if_neg (by omega)]
  · rw [if_neg (fun h => a (cmp_lt.mp h))]
    by_cases b : hi.toInt < x.toInt
    · rw [if_pos (cmp_gt.mpr b), if_neg (by omega)]
    · rw [if_neg (fun h => b (cmp_gt.mp h)), if_pos (by omega)]
theorem withinC (a lo hi : Int32) : f_X9_within a lo hi = some (if lo.toInt ≤ a.toInt ∧ a.toInt ≤ hi.toInt then 1 else 0) := by
  unfold f_X9_within
  by_cases p : a.toInt < lo.toInt
  · rw [if_pos (i_lt.mpr p), if_neg (by omega)]
  · rw [if_neg (fun h => p (i_lt.mp h))]
    by_cases b : hi.toInt < a.toInt
    · rw [if_pos (i_lt.mpr b), if_neg (by omega)]
    · rw [if_neg (fun h => b (i_lt.mp h)), if_pos (by omega)]
/-- one who swings, or none, in the class -/
theorem swAt {h : Nat} (h8 : h ≤ 8) {S : ST} (e : S.1 0 5 = nI h) (a : Int32) : (∃ i, i < h ∧ a = nI i ∧ f_X9_swingerAt a S = some (some (15 + 2 * i))) ∨ (¬ (0 ≤ a.toInt ∧ a.toInt < h) ∧ f_X9_swingerAt a S = some none) := by
  have z : (0 : Int32).toInt = 0 := rfl
  have eh : (nI h).toInt = h := nI_i (by omega)
  unfold f_X9_swingerAt
  rw [e]
  by_cases p : a.toInt < 0
  · exact Or.inr ⟨by omega, by rw [if_pos (show a < 0 from i_lt.mpr (by rw [z]; exact p))]⟩
  · rw [if_neg (show ¬ a < 0 from fun q => p (by have := i_lt.mp q; rw [z] at this; exact this))]
    by_cases q : nI h ≤ a
    · refine Or.inr ⟨?_, by rw [if_pos q]⟩
      have := i_le.mp q
      rw [eh] at this
      omega
    · refine Or.inl ?_
      have q2 : ¬ (nI h).toInt ≤ a.toInt := fun w => q (i_le.mpr w)
      rw [eh] at q2
      obtain ⟨e1, e2⟩ := n_of (x := a) (by omega)
      have hn : a.toNatClampNeg < h := by omega
      refine ⟨a.toNatClampNeg, hn, e1, ?_⟩
      rw [if_neg q]
      have q3 : ¬ (8 : Int32) ≤ a := by rw [e1]; exact nI_ge (b := 8) (by omega) (by omega)
      have q4 : ib a 8 = true := by rw [e1]; exact ib_nI (by omega) (by omega)
      rw [if_neg q3, chk_t _ q4, nm_x]
