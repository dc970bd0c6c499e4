theorem scan129 (K : Int32 → Int32 → Int32 → Int32 → ST → Option ST) (v3 v4 v5 : Int32) (t : Nat) (S : ST) : ∃ v4' S', b_X8_scan_129 K v3 v4 v5 (nI t) S = K v3 v4' v5 (nI (t + 1)) S' ∧ Off 52 [1] S S' ∧ ((S.1 52 1 = -1 ∨ ¬ S.1 51 15 ≤ v4) → S'.1 52 1 = nI t ∧ v4' = S.1 51 15) ∧ (¬ (S.1 52 1 = -1 ∨ ¬ S.1 51 15 ≤ v4) → S'.1 52 1 = S.1 52 1 ∧ v4' = v4) := by
  have h145 : b_X8_scan_145 K v3 v5 (nI t) S = K v3 (S.1 51 15) v5 (nI (t + 1)) (su S 52 1 (nI t)) := by
    unfold b_X8_scan_145
    rw [nm_x, nm_x, nm_x, nI_1, su_r _ _ _ _ (by decide)]
  unfold b_X8_scan_129
  by_cases a : S.1 52 1 = -1
  · rw [if_pos a, h145]
    exact ⟨_, _, rfl, Off.rf.su 1 _ (by simp), fun _ => ⟨by simp [su_1], rfl⟩, fun h => absurd (Or.inl a) h⟩
  · rw [if_neg a]
    by_cases b : S.1 51 15 ≤ v4
    · rw [if_pos b, nm_x, nI_1]
      exact ⟨_, _, rfl, Off.rf, fun h => h.elim (fun h => absurd h a) (fun h => absurd b h), fun _ => ⟨rfl, rfl⟩⟩
    · rw [if_neg b, h145]
      exact ⟨_, _, rfl, Off.rf.su 1 _ (by simp), fun _ => ⟨by simp [su_1], rfl⟩, fun h => absurd (Or.inr b) h⟩
theorem scan102 (K : Int32 → Int32 → Int32 → Int32 → ST → Option ST) (v3 v4 v5 : Int32) (t : Nat) (S : ST) : ∃ v3' v4' S', b_X8_scan_102 K v3 v4 v5 (nI t) S = K v3' v4' v5 (nI (t + 1)) S' ∧ Off 52 [0, 1] S S' ∧ ((S.1 52 0 = -1 ∨ ¬ S.1 51 12 ≤ v3) → S'.1 52 0 = nI t ∧ v3' = S.1 51 12) ∧ (¬ (S.1 52 0 = -1 ∨ ¬ S.1 51 12 ≤ v3) → S'.1 52 0 = S.1 52 0 ∧ v3' = v3) ∧ ((S.1 52 1 = -1 ∨ ¬ S.1 51 15 ≤ v4) → S'.1 52 1 = nI t ∧ v4' = S.1 51 15) ∧ (¬ (S.1 52 1 = -1 ∨ ¬ S.1 51 15 ≤ v4) → S'.1 52 1 = S.1 52 1 ∧ v4' = v4) := by
  have h118 : b_X8_scan_118 K v4 v5 (nI t) S = b_X8_scan_129 K (S.1 51 12) v4 v5 (nI t) (su S 52 0 (nI t)) := by
    unfold b_X8_scan_118
    rw [nm_x, nm_x, su_r _ _ _ _ (by decide)]
  have g118 : (S.1 52 0 = -1 ∨ ¬ S.1 51 12 ≤ v3) → ∃ v3' v4' S', b_X8_scan_118 K v4 v5 (nI t) S = K v3' v4' v5 (nI (t + 1)) S' ∧ Off 52 [0, 1] S S' ∧ ((S.1 52 0 = -1 ∨ ¬ S.1 51 12 ≤ v3) → S'.1 52 0 = nI t ∧ v3' = S.1 51 12) ∧ (¬ (S.1 52 0 = -1 ∨ ¬ S.1 51 12 ≤ v3) → S'.1 52 0 = S.1 52 0 ∧ v3' = v3) ∧ ((S.1 52 1 = -1 ∨ ¬ S.1 51 15 ≤ v4) → S'.1 52 1 = nI t ∧ v4' = S.1 51 15) ∧ (¬ (S.1 52 1 = -1 ∨ ¬ S.1 51 15 ≤ v4) → S'.1 52 1 = S.1 52 1 ∧ v4' = v4) := by
    intro hc
    obtain ⟨v4', S', a1, a2, a3, a4⟩ := scan129 K (S.1 51 12) v4 v5 t (su S 52 0 (nI t))
    have e1 : (su S 52 0 (nI t)).1 52 1 = S.1 52 1 := by simp [su_1]
    have e2 : (su S 52 0 (nI t)).1 51 15 = S.1 51 15 := by simp [su_1]
    rw [e1, e2] at a3 a4
    refine ⟨_, v4', S', by rw [h118]; exact a1, (Off.rf.su 0 _ (by simp)).tr (a2.wd (by intro j hj; simp at hj ⊢; omega)), fun _ => ⟨?_, rfl⟩, fun h => absurd hc h, a3, a4⟩
    rw [a2.at (by simp)]; simp [su_1]
  unfold b_X8_scan_102
  by_cases a : S.1 52 0 = -1
  · rw [if_pos a]; exact g118 (Or.inl a)
  · rw [if_neg a]
    by_cases b : S.1 51 12 ≤ v3
    · rw [if_pos b]
      obtain ⟨v4', S', a1, a2, a3, a4⟩ := scan129 K v3 v4 v5 t S
      exact ⟨v3, v4', S', a1, a2.wd (by intro j hj; simp at hj ⊢; omega), fun h => h.elim (fun h => absurd h a) (fun h => absurd b h), fun _ => ⟨a2.at (by simp), rfl⟩, a3, a4⟩
    · rw [if_neg b]; exact g118 (Or.inr b)
