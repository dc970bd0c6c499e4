def In (x : Int32) (a b : Int) : Prop := a ≤ x.toInt ∧ x.toInt ≤ b
/-- one who swings, in both -/
def SwR (S M : ST) (i : Nat) : Prop := (∀ j, j < 5 → S.1 (16 + 2 * i) j = M.1 5 (5 * i + j)) ∧ In (M.1 5 (5 * i)) 10 150 ∧ In (M.1 5 (5 * i + 1)) 50 220 ∧ In (M.1 5 (5 * i + 2)) 10 300 ∧ In (M.1 5 (5 * i + 3)) 0 20 ∧ In (M.1 5 (5 * i + 4)) 0 36
/-- the place, in both -/
def PlR (S M : ST) : Prop := PR S M ∧ In (M.1 1 0) 200 999 ∧ In (M.1 1 1) 100 900 ∧ In (M.1 1 2) 20 999 ∧ In (M.1 1 3) 0 99 ∧ In (M.1 1 4) 0 80 ∧ In (M.1 1 5) 0 600 ∧ In (M.1 1 6) 50 600 ∧ In (M.1 1 7) 0 300 ∧ In (M.1 1 8) 1 24 ∧ (∀ j, j < 24 → In (M.1 2 j) 0 600) ∧ (∀ j, j < 24 → M.1 3 j = 0 ∨ M.1 3 j = 1) ∧ (∀ j, j < 12 → In (M.1 4 j) 0 300)
/-- what is in hand, in both -/
def HaR (S M : ST) : Prop := (∀ j, j < 5 → S.1 32 j = M.1 6 j) ∧ In (M.1 6 0) 0 11 ∧ In (M.1 6 1) 0 300 ∧ (M.1 6 1).toInt ≤ (M.1 1 1).toInt - 50 ∧ In (M.1 6 2) 0 40 ∧ In (M.1 6 3) 0 80 ∧ In (M.1 6 4) 0 600
/-- all that an answer is drawn from -/
def QR (h : Nat) (S M : ST) : Prop := PlR S M ∧ HaR S M ∧ h ≤ 8 ∧ S.1 0 5 = nI h ∧ M.1 0 4 = nI h ∧ (∀ i, i < h → SwR S M i) ∧ PC S
theorem In.n {x : Int32} {b : Nat} (h : In x 0 b) : ∃ n, n ≤ b ∧ x = nI n := by
  obtain ⟨h1, h2⟩ := h
  obtain ⟨e1, e2⟩ := n_of h1
  exact ⟨x.toNatClampNeg, by omega, e1⟩
