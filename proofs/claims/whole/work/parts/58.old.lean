/-- STRENGTH after n YEARs -/
def stg (x l : Int32) : Nat → Int32
  | 0 => x
  | n + 1 => stg x l n - (stg x l n * l) / 100
theorem st_loopC {S : ST} {y : Nat} (hy : y < 900) : ∀ (r t n : Nat), t + r = y → r < n → lp (fun _ _ _ => none) (b_X9_strengthAfter_11 S) n (nI y) (stg (S.1 5 2) (S.1 5 3) t) (nI (t + 1)) = some (stg (S.1 5 2) (S.1 5 3) y) := by
  intro r
  induction r with
  | zero =>
    intro t n ht hn
    obtain ⟨n, rfl⟩ : ∃ k, n = k + 1 := ⟨n - 1, by omega⟩
    have e : t = y := by omega
    subst e
    rw [lp_s]
    rw [b_X9_strengthAfter_11]
    rw [if_pos (nI_lt (by omega) (by omega))]
  | succ r ih =>
    intro t n ht hn
    obtain ⟨n, rfl⟩ : ∃ k, n = k + 1 := ⟨n - 1, by omega⟩
    rw [lp_s]
    rw [b_X9_strengthAfter_11]
    rw [if_neg (nI_nlt (by omega) (by omega)), show f_X3_number (3 : Int32) S = some (S.1 5 3) from numC (i := 3) S (by omega), bn1_some, nm_x, nm_x, nI_1]
    exact ih (t + 1) n (by omega) (by omega)
theorem stC {y : Nat} (S : ST) (hy : y < 900) : f_X9_strengthAfter (nI y) S = some (stg (S.1 5 2) (S.1 5 3) y) := by
  unfold f_X9_strengthAfter
  rw [show f_X3_number (2 : Int32) S = some (S.1 5 2) from numC (i := 2) S (by omega), bn1_some]
  exact st_loopC hy y 0 1000 (by omega) (by omega)
theorem st_loopM {S : ST} {y : Nat} (hy : y < 900) : ∀ (r t n : Nat), t + r = y → r < n → lp (fun _ _ _ => none) (b_X10_strengthIn_9 S) n (nI y) (stg (S.1 1 2) (S.1 1 3) t) (nI t) = some (stg (S.1 1 2) (S.1 1 3) y) := by
  intro r
  induction r with
  | zero =>
    intro t n ht hn
    obtain ⟨n, rfl⟩ : ∃ k, n = k + 1 := ⟨n - 1, by omega⟩
    have e : t = y := by omega
    subst e
    rw [lp_s]
    rw [b_X10_strengthIn_9]
    rw [if_pos (show nI t ≤ nI t by rw [i_le]; exact Int.le_refl _)]
  | succ r ih =>
    intro t n ht hn
    obtain ⟨n, rfl⟩ : ∃ k, n = k + 1 := ⟨n - 1, by omega⟩
    have q : ¬ nI y ≤ nI t := by rw [i_le, nI_i (by omega), nI_i (by omega)]; omega
    rw [lp_s]
    rw [b_X10_strengthIn_9]
    rw [if_neg q, nm_x, nm_x, nI_1]
    exact ih (t + 1) n (by omega) (by omega)
theorem stM {y : Nat} (S : ST) (hy : y < 900) : f_X10_strengthIn (nI y) S = some (stg (S.1 1 2) (S.1 1 3) y) := by
  unfold f_X10_strengthIn
  rw [nm_x]
  exact st_loopM hy y 0 1000 (by omega) (by omega)
