/-- what answers may change: the passing cells -/
def SF (S S' : ST) : Prop := ∀ k, k < 41 → S'.1 k = S.1 k
def MF (M M' : ST) : Prop := (∀ k, (0 < k ∧ k < 8) ∨ 15 < k → M'.1 k = M.1 k) ∧ ∀ j, (j < 10 ∨ 41 < j) → M'.1 0 j = M.1 0 j
theorem ready2 {h i : Nat} {S M : ST} (hQ : QR h S M) (hi : i < h) :
    ∃ S' M' s e mo q, f_X9_ready (15 + 2 * i) S = some S' ∧ f_X10_ready (nI i) M = some M' ∧ JR (M.1 1 0) (M.1 1 1 - M.1 6 1) (M.1 6 3) (M.1 6 4) (M.1 5 (5 * i)) (M.1 5 (5 * i + 2)) (M.1 5 (5 * i + 1)) (M.1 4 mo) mo s e S' M' ∧ q ≤ 20 ∧ S'.1 51 7 = nI q ∧ M'.1 0 27 = nI q ∧ SF S S' ∧ MF M M' ∧ PC S' := by
  obtain ⟨q, hq, eq⟩ := In.n (b := 20) (hQ.2.2.2.2.2.1 i hi).2.2.2.2.1
  obtain ⟨S', M', s, e, mo, y, a1, a2, -, -, -, -, a3, a4, a5, -, -, -, -, a6, a7⟩ := ready_ok hQ hi
  refine ⟨S', M', s, e, mo, q, a1, a2, a3, hq, a4.trans eq, a5.trans eq, fun k hk => a6 k (Or.inl (by omega)), ⟨fun k hk => funext fun j => a7 k j (by omega) (by omega), fun j hj => a7 0 j (by omega) (by omega)⟩, a3.1.1.pc⟩
