theorem left_loop {B L A V W G : Int32} {S : ST} (h : PathOK B L A V S) (hG : ¬ G = 0) {y : Nat} (hy : y < 201) : ∀ (r t n : Nat), t + r = y → r < n → lp (fun _ _ _ _ _ => none) (b_X1_left_8 S) n (nI y) W G (lfs W G L A V t) (nI (t + 1)) = some (lfs W G L A V y) := by
  intro r
  induction r with
  | zero =>
    intro t n ht hn
    obtain ⟨n, rfl⟩ : ∃ k, n = k + 1 := ⟨n - 1, by omega⟩
    have e : t = y := by omega
    subst e
    rw [lp_s]
    rw [b_X1_left_8]
    rw [if_pos (nI_lt (by omega) (by omega))]
  | succ r ih =>
    intro t n ht hn
    obtain ⟨n, rfl⟩ : ∃ k, n = k + 1 := ⟨n - 1, by omega⟩
    rw [lp_s]
    rw [b_X1_left_8]
    rw [if_neg (nI_nlt (by omega) (by omega)), pullC h (by omega), bn1_some, quotC hG, bn1_some, nm_x, nm_x, nI_1, Int32.mul_comm]
    exact ih (t + 1) n (by omega) (by omega)
theorem leftC {B L A V W G : Int32} {S : ST} (h : PathOK B L A V S) (hG : ¬ G = 0) {y : Nat} (hy : y < 201) : f_X1_left (nI y) W G S = some (lfs W G L A V y) := by
  unfold f_X1_left
  exact left_loop h hG hy y 0 1000 (by omega) (by omega)
