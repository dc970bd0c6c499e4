theorem PlR.fr {S M S' M' : ST} (h : PlR S M) (a : ∀ k, 5 ≤ k → k ≤ 8 → S'.1 k = S.1 k) (c : ∀ k, 1 ≤ k → k ≤ 4 → M'.1 k = M.1 k) : PlR S' M' := by
  obtain ⟨h0, h1⟩ := h
  refine ⟨h0.fr a c, ?_⟩
  rw [c 1 (by omega) (by omega), c 2 (by omega) (by omega), c 3 (by omega) (by omega), c 4 (by omega) (by omega)]
  exact h1
theorem HaR.fr {S M S' M' : ST} (h : HaR S M) (a : S'.1 32 = S.1 32) (c : M'.1 6 = M.1 6) (d : M'.1 1 = M.1 1) : HaR S' M' := by
  unfold HaR at h ⊢
  rw [a, c, d]; exact h
/-- QR keeps where only the passing cells change -/
theorem QR.fr {h : Nat} {S M S' M' : ST} (hQ : QR h S M) (a : ∀ k, 5 ≤ k → k ≤ 8 → S'.1 k = S.1 k) (a2 : ∀ k, 16 ≤ k → k ≤ 32 → S'.1 k = S.1 k) (a3 : S'.1 0 5 = S.1 0 5) (b : PC S') (c : ∀ k, 1 ≤ k → k ≤ 6 → M'.1 k = M.1 k) (d : M'.1 0 4 = M.1 0 4) : QR h S' M' := by
  obtain ⟨h1, h2, h3, h4, h5, h6, h7⟩ := hQ
  refine ⟨h1.fr a (fun k k1 k2 => c k k1 (by omega)), h2.fr (a2 32 (by omega) (by omega)) (c 6 (by omega) (by omega)) (c 1 (by omega) (by omega)), h3, a3.trans h4, d.trans h5, ?_, b⟩
  intro i hi
  have := h6 i hi
  unfold SwR at this ⊢
  rw [a2 (16 + 2 * i) (by omega) (by omega), c 5 (by omega) (by omega)]
  exact this
