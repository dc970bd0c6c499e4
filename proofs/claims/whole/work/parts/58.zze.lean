theorem fill_loop {k N : Nat} {v : Int32} (hN : lnC k = N) (hN2 : N ≤ 300) : ∀ (r j n : Nat) (S : ST), j + r = N → r < n → ∃ T, lp (fun _ _ _ _ _ => none) b_J7_fill_53178_5 n k v (nI j) (nI N) S = some T ∧ (∀ t, j ≤ t → t < N → T.1 k t = v) ∧ (∀ t, t < j → T.1 k t = S.1 k t) ∧ ∀ k', k' ≠ k → T.1 k' = S.1 k' := by
  intro r
  induction r with
  | zero =>
    intro j n S hj hn
    obtain ⟨n, rfl⟩ : ∃ k, n = k + 1 := ⟨n - 1, by omega⟩
    refine ⟨S, ?_, fun t t1 t2 => by omega, fun _ _ => rfl, fun _ _ => rfl⟩
    rw [lp_s]; rw [b_J7_fill_53178_5]; rw [if_pos (nI_le (by omega) (by omega))]
  | succ r ih =>
    intro j n S hj hn
    obtain ⟨n, rfl⟩ : ∃ k, n = k + 1 := ⟨n - 1, by omega⟩
    obtain ⟨T, a1, a2, a3, a4⟩ := ih (j + 1) n (su S k j v) (by omega) (by omega)
    refine ⟨T, ?_, fun t t1 t2 => ?_, fun t ht => by rw [a3 t (by omega), su_o _ _ _ (by omega)], fun k' hk => by rw [a4 k' hk, su_r _ _ _ _ hk]⟩
    · rw [lp_s]; rw [b_J7_fill_53178_5]; rw [if_neg (nI_ge (by omega) (by omega)), chk_t _ (ib_nI (by omega) (by omega)), nm_x, nm_x, nI_n (by omega), nI_1]
      exact a1
    · by_cases e : t = j
      · rw [a3 t (by omega), e, su_s]
      · exact a2 t (by omega) t2
theorem fillC {k N : Nat} (v : Int32) (S : ST) (hN : lnC k = N) (hN2 : N ≤ 300) : ∃ T, f_J7_fill_53178 k v S = some T ∧ (∀ t, t < N → T.1 k t = v) ∧ ∀ k', k' ≠ k → T.1 k' = S.1 k' := by
  obtain ⟨T, a1, a2, -, a4⟩ := fill_loop (v := v) hN hN2 N 0 1000 S (by omega) (by omega)
  refine ⟨T, ?_, fun t ht => a2 t (Nat.zero_le t) ht, a4⟩
  unfold f_J7_fill_53178
  rw [nm_x, hN]
  exact a1
theorem clearC (S : ST) : ∃ T, f_X3_clear S = some T ∧ (∀ j, j < 9 → T.1 10 j = (sal 0).getD j 0) ∧ (∀ j, j < 24 → T.1 11 j = 200) ∧ (∀ j, j < 24 → T.1 12 j = 0) ∧ (∀ j, j < 12 → T.1 13 j = 0) ∧ ∀ k, (k < 10 ∨ 13 < k) → T.1 k = S.1 k := by
  have m0 : (0 : Int32).toNatClampNeg = 0 := rfl
  have m9 : (9 : Int32).toNatClampNeg = 9 := rfl
  obtain ⟨T1, hT1⟩ : ∃ T : ST, T = sr S 10 (va_cpy (fun j => (sal 0).getD j 0) (S.1 10) 0 0 9) := ⟨_, rfl⟩
  have u1 : ∀ k, k ≠ 10 → T1.1 k = S.1 k := fun k hk => by rw [hT1]; exact sr_n _ _ hk
  obtain ⟨T2, a1, a2, a3⟩ := fillC (k := 11) 200 T1 (show lnC 11 = 24 by decide) (by omega)
  obtain ⟨T3, b1, b2, b3⟩ := fillC (k := 12) 0 T2 (show lnC 12 = 24 by decide) (by omega)
  obtain ⟨T4, c1, c2, c3⟩ := fillC (k := 13) 0 T3 (show lnC 13 = 12 by decide) (by omega)
  refine ⟨T4, ?_, fun j hj => ?_, fun j hj => ?_, fun j hj => ?_, c2, fun k hk => ?_⟩
  · unfold f_X3_clear
    rw [nm_x, ite_self, chk_t _ (by decide), nm_x, m0, m9, ← hT1, a1, bn1_some, b1, bn1_some, c1, bn1_some]
  · rw [c3 10 (by omega), b3 10 (by omega), a3 10 (by omega), hT1, sr_k, cpy_lt hj]
  · rw [c3 11 (by omega), b3 11 (by omega), a2 j hj]
  · rw [c3 12 (by omega), b2 j hj]
  · rw [c3 k (by omega), b3 k (by omega), a3 k (by omega), u1 k (by omega)]
theorem untold_ok : ∀ j, j < 9 → f_X10_untold (nI j) = some ((sal 0).getD j 0) := by decide +kernel
theorem nar0 : vp_nar .boolean (0 : Int32) = 0 := by decide
theorem bare66 : ∀ (r j n : Nat) (M : ST), j + r = 12 → r < n → ∃ T, lp (fun _ _ => none) b_X10_bare_66 n (nI j) M = some T ∧ (∀ t, j ≤ t → t < 12 → T.1 11 t = 0) ∧ (∀ t, t < j → T.1 11 t = M.1 11 t) ∧ ∀ k, k ≠ 11 → T.1 k = M.1 k := by
  intro r
  induction r with
  | zero =>
    intro j n S hj hn
    obtain ⟨n, rfl⟩ : ∃ k, n = k + 1 := ⟨n - 1, by omega⟩
    refine ⟨S, ?_, fun t t1 t2 => by omega, fun _ _ => rfl, fun _ _ => rfl⟩
    rw [lp_s]; rw [b_X10_bare_66]; rw [if_pos (show (12 : Int32) ≤ nI j from nI_le (a := 12) (by omega) (by omega))]
  | succ r ih =>
    intro j n S hj hn
    obtain ⟨n, rfl⟩ : ∃ k, n = k + 1 := ⟨n - 1, by omega⟩
    obtain ⟨T, a1, a2, a3, a4⟩ := ih (j + 1) n (su S 11 j 0) (by omega) (by omega)
    refine ⟨T, ?_, fun t t1 t2 => ?_, fun t ht => by rw [a3 t (by omega), su_o _ _ _ (by omega)], fun k' hk => by rw [a4 k' hk, su_r _ _ _ _ hk]⟩
    · rw [lp_s]; rw [b_X10_bare_66]; rw [if_neg (show ¬ (12 : Int32) ≤ nI j from nI_ge (b := 12) (by omega) (by omega)), chk_t _ (ib_nI (by omega) (by omega)), nm_x, nm_x, nI_n (by omega), nI_1]
      exact a1
    · by_cases e : t = j
      · rw [a3 t (by omega), e, su_s]
      · exact a2 t (by omega) t2
theorem bare36 : ∀ (r j n : Nat) (M : ST), j + r = 24 → r < n → ∃ T, lp (fun _ _ => none) b_X10_bare_36 n (nI j) M = some T ∧ (∀ t, j ≤ t → t < 24 → T.1 9 t = 200 ∧ T.1 10 t = 0) ∧ (∀ t, t < j → T.1 9 t = M.1 9 t ∧ T.1 10 t = M.1 10 t) ∧ (∀ t, t < 12 → T.1 11 t = 0) ∧ ∀ k, (k < 9 ∨ 11 < k) → T.1 k = M.1 k := by
  intro r
  induction r with
  | zero =>
    intro j n S hj hn
    obtain ⟨n, rfl⟩ : ∃ k, n = k + 1 := ⟨n - 1, by omega⟩
    obtain ⟨T, a1, a2, a3, a4⟩ := bare66 12 0 1000 S (by omega) (by omega)
    refine ⟨T, ?_, fun t t1 t2 => by omega, fun t _ => ⟨by rw [a4 9 (by omega)], by rw [a4 10 (by omega)]⟩, fun t ht => a2 t (Nat.zero_le t) ht, fun k hk => a4 k (by omega)⟩
    rw [lp_s]; rw [b_X10_bare_36]; rw [if_pos (show (24 : Int32) ≤ nI j from nI_le (a := 24) (by omega) (by omega))]
    exact a1
  | succ r ih =>
    intro j n S hj hn
    obtain ⟨n, rfl⟩ : ∃ k, n = k + 1 := ⟨n - 1, by omega⟩
    obtain ⟨T, a1, a2, a3, a4, a5⟩ := ih (j + 1) n (su (su S 9 j 200) 10 j 0) (by omega) (by omega)
    refine ⟨T, ?_, fun t t1 t2 => ?_, fun t ht => ?_, a4, fun k hk => by rw [a5 k hk, su_r _ _ _ _ (by omega), su_r _ _ _ _ (by omega)]⟩
    · rw [lp_s]; rw [b_X10_bare_36]; rw [if_neg (show ¬ (24 : Int32) ≤ nI j from nI_ge (b := 24) (by omega) (by omega)), chk_t _ (ib_nI (by omega) (by omega)), nm_x, chk_t _ (ib_nI (by omega) (by omega)), nm_x, nm_x, nI_n (by omega), nI_1, nar0]
      exact a1
    · by_cases e : t = j
      · obtain ⟨x1, x2⟩ := a3 t (by omega)
        rw [x1, x2, e, su_s, su_r _ _ _ _ (by omega), su_s]
        exact ⟨rfl, rfl⟩
      · exact a2 t (by omega) t2
    · obtain ⟨x1, x2⟩ := a3 t (by omega)
      rw [x1, x2, su_r _ _ _ _ (by omega), su_o _ _ _ (by omega), su_o _ _ _ (by omega), su_r _ _ _ _ (by omega)]
      exact ⟨rfl, rfl⟩
theorem bare12 : ∀ (r j n : Nat) (M : ST), j + r = 9 → r < n → ∃ T, lp (fun _ _ => none) b_X10_bare_12 n (nI j) M = some T ∧ (∀ t, j ≤ t → t < 9 → T.1 8 t = (sal 0).getD t 0) ∧ (∀ t, t < j → T.1 8 t = M.1 8 t) ∧ (∀ t, t < 24 → T.1 9 t = 200 ∧ T.1 10 t = 0) ∧ (∀ t, t < 12 → T.1 11 t = 0) ∧ ∀ k, (k < 8 ∨ 11 < k) → T.1 k = M.1 k := by
  intro r
  induction r with
  | zero =>
    intro j n S hj hn
    obtain ⟨n, rfl⟩ : ∃ k, n = k + 1 := ⟨n - 1, by omega⟩
    obtain ⟨T, a1, a2, a3, a4, a5⟩ := bare36 24 0 1000 S (by omega) (by omega)
    refine ⟨T, ?_, fun t t1 t2 => by omega, fun t _ => by rw [a5 8 (by omega)], fun t ht => a2 t (Nat.zero_le t) ht, a4, fun k hk => a5 k (by omega)⟩
    rw [lp_s]; rw [b_X10_bare_12]; rw [if_pos (show (9 : Int32) ≤ nI j from nI_le (a := 9) (by omega) (by omega))]
    exact a1
  | succ r ih =>
    intro j n S hj hn
    obtain ⟨n, rfl⟩ : ∃ k, n = k + 1 := ⟨n - 1, by omega⟩
    obtain ⟨T, a1, a2, a3, a4, a5, a6⟩ := ih (j + 1) n (su S 8 j ((sal 0).getD j 0)) (by omega) (by omega)
    refine ⟨T, ?_, fun t t1 t2 => ?_, fun t ht => by rw [a3 t (by omega), su_o _ _ _ (by omega)], a4, a5, fun k hk => by rw [a6 k hk, su_r _ _ _ _ (by omega)]⟩
    · rw [lp_s]; rw [b_X10_bare_12]; rw [if_neg (show ¬ (9 : Int32) ≤ nI j from nI_ge (b := 9) (by omega) (by omega)), untold_ok j (by omega), bn1_some, chk_t _ (ib_nI (by omega) (by omega)), nm_x, nm_x, nI_n (by omega), nI_1]
      exact a1
    · by_cases e : t = j
      · rw [a3 t (by omega), e, su_s]
      · exact a2 t (by omega) t2
theorem bareM (M : ST) : ∃ T, f_X10_bare M = some T ∧ (∀ t, t < 9 → T.1 8 t = (sal 0).getD t 0) ∧ (∀ t, t < 24 → T.1 9 t = 200 ∧ T.1 10 t = 0) ∧ (∀ t, t < 12 → T.1 11 t = 0) ∧ T.1 0 19 = 0 ∧ T.1 0 20 = 0 ∧ FMp M T ∧ ∀ j, j ≠ 19 → j ≠ 20 → T.1 0 j = M.1 0 j := by
  obtain ⟨T, a1, a2, -, a4, a5, a6⟩ := bare12 9 0 1000 (su (su M 0 19 0) 0 20 0) (by omega) (by omega)
  have r0 : T.1 0 = (su (su M 0 19 0) 0 20 0).1 0 := a6 0 (by omega)
  refine ⟨T, ?_, fun t ht => a2 t (Nat.zero_le t) ht, a4, a5, by rw [r0, su_o _ _ _ (by omega), su_s], by rw [r0, su_s], ⟨fun k h1 h2 => by rw [a6 k h2, su_r _ _ _ _ h1, su_r _ _ _ _ h1], fun j hj => by rw [r0, su_o _ _ _ (by omega), su_o _ _ _ (by omega)]⟩, fun j h1 h2 => by rw [r0, su_o _ _ _ h2, su_o _ _ _ h1]⟩
  unfold f_X10_bare
  rw [nm_x, nm_x]
  exact a1
theorem copy3 (S : ST) : ∃ T, f_X3_copy S = some T ∧ (∀ j, j < 9 → T.1 5 j = S.1 10 j) ∧ (∀ j, j < 24 → T.1 6 j = S.1 11 j) ∧ (∀ j, j < 24 → T.1 7 j = S.1 12 j) ∧ (∀ j, j < 12 → T.1 8 j = S.1 13 j) ∧ ∀ k, (k < 5 ∨ 8 < k) → T.1 k = S.1 k := by
  have m0 : (0 : Int32).toNatClampNeg = 0 := rfl
  have m9 : (9 : Int32).toNatClampNeg = 9 := rfl
  have m24 : (24 : Int32).toNatClampNeg = 24 := rfl
  have m12 : (12 : Int32).toNatClampNeg = 12 := rfl
  obtain ⟨T1, hT1⟩ : ∃ T : ST, T = sr S 5 (va_cpy (S.1 10) (S.1 5) 0 0 9) := ⟨_, rfl⟩
  obtain ⟨T2, hT2⟩ : ∃ T : ST, T = sr T1 6 (va_cpy (T1.1 11) (T1.1 6) 0 0 24) := ⟨_, rfl⟩
  obtain ⟨T3, hT3⟩ : ∃ T : ST, T = sr T2 7 (va_cpy (T2.1 12) (T2.1 7) 0 0 24) := ⟨_, rfl⟩
  obtain ⟨T4, hT4⟩ : ∃ T : ST, T = sr T3 8 (va_cpy (T3.1 13) (T3.1 8) 0 0 12) := ⟨_, rfl⟩
  have u1 : ∀ k, k ≠ 5 → T1.1 k = S.1 k := fun k hk => by rw [hT1]; exact sr_n _ _ hk
  have u2 : ∀ k, k ≠ 6 → T2.1 k = T1.1 k := fun k hk => by rw [hT2]; exact sr_n _ _ hk
  have u3 : ∀ k, k ≠ 7 → T3.1 k = T2.1 k := fun k hk => by rw [hT3]; exact sr_n _ _ hk
  have u4 : ∀ k, k ≠ 8 → T4.1 k = T3.1 k := fun k hk => by rw [hT4]; exact sr_n _ _ hk
  refine ⟨T4, ?_, fun j hj => ?_, fun j hj => ?_, fun j hj => ?_, fun j hj => ?_, fun k hk => ?_⟩
  · unfold f_X3_copy
    rw [nm_x, ite_self, chk_t _ (by decide), nm_x, m0, m9, ← hT1, nm_x, ite_self, chk_t _ (by decide), nm_x, m24, ← hT2, nm_x, ite_self, chk_t _ (by decide), nm_x, m24, ← hT3, nm_x, chk_t _ (by decide), nm_x, m12, ← hT4]
  · rw [u4 5 (by omega), u3 5 (by omega), u2 5 (by omega), hT1, sr_k, cpy_lt hj]
  · rw [u4 6 (by omega), u3 6 (by omega), hT2, sr_k, cpy_lt hj, u1 11 (by omega)]
  · rw [u4 7 (by omega), hT3, sr_k, cpy_lt hj, u2 12 (by omega), u1 12 (by omega)]
  · rw [hT4, sr_k, cpy_lt hj, u3 13 (by omega), u2 13 (by omega), u1 13 (by omega)]
  · rw [u4 k (by omega), u3 k (by omega), u2 k (by omega), u1 k (by omega)]
theorem tp66 : ∀ (r j n : Nat) (M : ST), j + r = 12 → r < n → ∃ T, lp (fun _ _ => none) b_X10_takePlace_66 n (nI j) M = some T ∧ (∀ t, j ≤ t → t < 12 → T.1 4 t = M.1 11 t) ∧ (∀ t, t < j → T.1 4 t = M.1 4 t) ∧ T.1 6 0 = 0 ∧ T.1 6 1 = 0 ∧ T.1 6 2 = 0 ∧ T.1 6 3 = M.1 1 4 ∧ T.1 6 4 = M.1 1 5 ∧ ∀ k, k ≠ 4 → k ≠ 6 → T.1 k = M.1 k := by
  have m0 : (0 : Int32).toNatClampNeg = 0 := rfl
  have m1 : (1 : Int32).toNatClampNeg = 1 := rfl
  have m2 : (2 : Int32).toNatClampNeg = 2 := rfl
  have m3 : (3 : Int32).toNatClampNeg = 3 := rfl
  have m4 : (4 : Int32).toNatClampNeg = 4 := rfl
  have m5 : (5 : Int32).toNatClampNeg = 5 := rfl
  intro r
  induction r with
  | zero =>
    intro j n M hj hn
    obtain ⟨n, rfl⟩ : ∃ k, n = k + 1 := ⟨n - 1, by omega⟩
    have e1 : ∀ (X : ST) (t : Nat) (v : Int32), (su X 6 t v).1 1 = X.1 1 := fun X t v => su_r _ _ _ _ (by omega)
    refine ⟨su (su (su (su (su M 6 0 0) 6 1 0) 6 2 0) 6 3 (M.1 1 4)) 6 4 (M.1 1 5), ?_, fun t t1 t2 => by omega, fun t _ => by rw [su_r _ _ _ _ (by omega), su_r _ _ _ _ (by omega), su_r _ _ _ _ (by omega), su_r _ _ _ _ (by omega), su_r _ _ _ _ (by omega)], by simp [su_1], by simp [su_1], by simp [su_1], by simp [su_1], by simp [su_1], fun k _ hk => by rw [su_r _ _ _ _ hk, su_r _ _ _ _ hk, su_r _ _ _ _ hk, su_r _ _ _ _ hk, su_r _ _ _ _ hk]⟩
    rw [lp_s]; rw [b_X10_takePlace_66]; rw [if_pos (show (12 : Int32) ≤ nI j from nI_le (a := 12) (by omega) (by omega)), m0, m1, m2, m3, m4, m5, nm_x, nm_x, nm_x, nm_x, nm_x]
    simp only [e1]
  | succ r ih =>
    intro j n M hj hn
    obtain ⟨n, rfl⟩ : ∃ k, n = k + 1 := ⟨n - 1, by omega⟩
    obtain ⟨T, a1, a2, a3, a4, a5, a6, a7, a8, a9⟩ := ih (j + 1) n (su M 4 j (M.1 11 j)) (by omega) (by omega)
    have e1 : ∀ k, k ≠ 4 → (su M 4 j (M.1 11 j)).1 k = M.1 k := fun k hk => su_r _ _ _ _ hk
    refine ⟨T, ?_, fun t t1 t2 => ?_, fun t ht => by rw [a3 t (by omega), su_o _ _ _ (by omega)], a4, a5, a6, by rw [a7, e1 1 (by omega)], by rw [a8, e1 1 (by omega)], fun k k1 k2 => by rw [a9 k k1 k2, e1 k k1]⟩
    · rw [lp_s]; rw [b_X10_takePlace_66]; rw [if_neg (show ¬ (12 : Int32) ≤ nI j from nI_ge (b := 12) (by omega) (by omega)), chk_t _ (ib_nI (by omega) (by omega)), chk_t _ (ib_nI (by omega) (by omega)), nm_x, nm_x, nI_n (by omega), nI_1]
      exact a1
    · by_cases e : t = j
      · rw [a3 t (by omega), e, su_s]
      · rw [a2 t (by omega) t2, e1 11 (by omega)]
theorem nar01 {x : Int32} (h : x = 0 ∨ x = 1) : vp_nar .boolean x = x := by
  rcases h with rfl | rfl <;> decide
theorem tp28 : ∀ (r j n : Nat) (M : ST), (∀ t, t < 24 → M.1 10 t = 0 ∨ M.1 10 t = 1) → j + r = 24 → r < n → ∃ T, lp (fun _ _ => none) b_X10_takePlace_28 n (nI j) M = some T ∧ (∀ t, j ≤ t → t < 24 → T.1 2 t = M.1 9 t ∧ T.1 3 t = M.1 10 t) ∧ (∀ t, t < j → T.1 2 t = M.1 2 t ∧ T.1 3 t = M.1 3 t) ∧ (∀ t, t < 12 → T.1 4 t = M.1 11 t) ∧ T.1 6 0 = 0 ∧ T.1 6 1 = 0 ∧ T.1 6 2 = 0 ∧ T.1 6 3 = M.1 1 4 ∧ T.1 6 4 = M.1 1 5 ∧ ∀ k, (k < 2 ∨ 4 < k) → k ≠ 6 → T.1 k = M.1 k := by
  intro r
  induction r with
  | zero =>
    intro j n M hs hj hn
    obtain ⟨n, rfl⟩ : ∃ k, n = k + 1 := ⟨n - 1, by omega⟩
    obtain ⟨T, a1, a2, a3, a4, a5, a6, a7, a8, a9⟩ := tp66 12 0 1000 M (by omega) (by omega)
    refine ⟨T, ?_, fun t t1 t2 => by omega, fun t _ => ⟨by rw [a9 2 (by omega) (by omega)], by rw [a9 3 (by omega) (by omega)]⟩, fun t ht => a2 t (Nat.zero_le t) ht, a4, a5, a6, a7, a8, fun k hk hk2 => a9 k (by omega) hk2⟩
    rw [lp_s]; rw [b_X10_takePlace_28]; rw [if_pos (show (24 : Int32) ≤ nI j from nI_le (a := 24) (by omega) (by omega))]
    exact a1
  | succ r ih =>
    intro j n M hs hj hn
    obtain ⟨n, rfl⟩ : ∃ k, n = k + 1 := ⟨n - 1, by omega⟩
    obtain ⟨X, hX⟩ : ∃ X : ST, X = su (su M 2 j (M.1 9 j)) 3 j (M.1 10 j) := ⟨_, rfl⟩
    have e1 : ∀ k, k ≠ 2 → k ≠ 3 → X.1 k = M.1 k := fun k h1 h2 => by rw [hX, su_r _ _ _ _ h2, su_r _ _ _ _ h1]
    obtain ⟨T, a1, a2, a3, a4, a5, a6, a7, a8, a9, a10⟩ := ih (j + 1) n X (by rw [e1 10 (by omega) (by omega)]; exact hs) (by omega) (by omega)
    refine ⟨T, ?_, fun t t1 t2 => ?_, fun t ht => ?_, fun t ht => by rw [a4 t ht, e1 11 (by omega) (by omega)], a5, a6, a7, by rw [a8, e1 1 (by omega) (by omega)], by rw [a9, e1 1 (by omega) (by omega)], fun k hk hk2 => by rw [a10 k hk hk2, e1 k (by omega) (by omega)]⟩
    · have e10 : (su M 2 j (M.1 9 j)).1 10 = M.1 10 := su_r _ _ _ _ (by omega)
      rw [lp_s]; rw [b_X10_takePlace_28]; rw [if_neg (show ¬ (24 : Int32) ≤ nI j from nI_ge (b := 24) (by omega) (by omega)), chk_t _ (ib_nI (by omega) (by omega)), chk_t _ (ib_nI (by omega) (by omega)), nm_x, chk_t _ (ib_nI (by omega) (by omega)), chk_t _ (ib_nI (by omega) (by omega)), nm_x, nm_x, nI_n (by omega), nI_1, e10, nar01 (hs j (by omega)), ← hX]
      exact a1
    · by_cases e : t = j
      · obtain ⟨x1, x2⟩ := a3 t (by omega)
        rw [x1, x2, e, hX, su_s, su_r _ _ _ _ (by omega), su_s]
        exact ⟨rfl, rfl⟩
      · obtain ⟨x1, x2⟩ := a2 t (by omega) t2
        rw [x1, x2, e1 9 (by omega) (by omega), e1 10 (by omega) (by omega)]
        exact ⟨rfl, rfl⟩
    · obtain ⟨x1, x2⟩ := a3 t (by omega)
      rw [x1, x2, hX, su_r _ _ _ _ (by omega), su_o _ _ _ (by omega), su_o _ _ _ (by omega), su_r _ _ _ _ (by omega)]
      exact ⟨rfl, rfl⟩
theorem tp2 : ∀ (r j n : Nat) (M : ST), (∀ t, t < 24 → M.1 10 t = 0 ∨ M.1 10 t = 1) → j + r = 9 → r < n → ∃ T, lp (fun _ _ => none) b_X10_takePlace_2 n (nI j) M = some T ∧ (∀ t, j ≤ t → t < 9 → T.1 1 t = M.1 8 t) ∧ (∀ t, t < j → T.1 1 t = M.1 1 t) ∧ (∀ t, t < 24 → T.1 2 t = M.1 9 t ∧ T.1 3 t = M.1 10 t) ∧ (∀ t, t < 12 → T.1 4 t = M.1 11 t) ∧ T.1 6 0 = 0 ∧ T.1 6 1 = 0 ∧ T.1 6 2 = 0 ∧ T.1 6 3 = T.1 1 4 ∧ T.1 6 4 = T.1 1 5 ∧ ∀ k, (k < 1 ∨ 4 < k) → k ≠ 6 → T.1 k = M.1 k := by
  intro r
  induction r with
  | zero =>
    intro j n M hs hj hn
    obtain ⟨n, rfl⟩ : ∃ k, n = k + 1 := ⟨n - 1, by omega⟩
    obtain ⟨T, a1, a2, a3, a4, a5, a6, a7, a8, a9, a10⟩ := tp28 24 0 1000 M hs (by omega) (by omega)
    have e1 : T.1 1 = M.1 1 := a10 1 (by omega) (by omega)
    refine ⟨T, ?_, fun t t1 t2 => by omega, fun t _ => by rw [e1], fun t ht => a2 t (Nat.zero_le t) ht, a4, a5, a6, a7, by rw [a8, e1], by rw [a9, e1], fun k hk hk2 => a10 k (by omega) hk2⟩
    rw [lp_s]; rw [b_X10_takePlace_2]; rw [if_pos (show (9 : Int32) ≤ nI j from nI_le (a := 9) (by omega) (by omega))]
    exact a1
  | succ r ih =>
    intro j n M hs hj hn
    obtain ⟨n, rfl⟩ : ∃ k, n = k + 1 := ⟨n - 1, by omega⟩
    obtain ⟨X, hX⟩ : ∃ X : ST, X = su M 1 j (M.1 8 j) := ⟨_, rfl⟩
    have e1 : ∀ k, k ≠ 1 → X.1 k = M.1 k := fun k h1 => by rw [hX, su_r _ _ _ _ h1]
    obtain ⟨T, a1, a2, a3, a4, a5, a6, a7, a8, a9, a10, a11⟩ := ih (j + 1) n X (by rw [e1 10 (by omega)]; exact hs) (by omega) (by omega)
    refine ⟨T, ?_, fun t t1 t2 => ?_, fun t ht => by rw [a3 t (by omega), hX, su_o _ _ _ (by omega)], fun t ht => by rw [(a4 t ht).1, (a4 t ht).2, e1 9 (by omega), e1 10 (by omega)]; exact ⟨rfl, rfl⟩, fun t ht => by rw [a5 t ht, e1 11 (by omega)], a6, a7, a8, a9, a10, fun k hk hk2 => by rw [a11 k hk hk2, e1 k (by omega)]⟩
    · rw [lp_s]; rw [b_X10_takePlace_2]; rw [if_neg (show ¬ (9 : Int32) ≤ nI j from nI_ge (b := 9) (by omega) (by omega)), chk_t _ (ib_nI (by omega) (by omega)), chk_t _ (ib_nI (by omega) (by omega)), nm_x, nm_x, nI_n (by omega), nI_1, ← hX]
      exact a1
    · by_cases e : t = j
      · rw [a3 t (by omega), e, hX, su_s]
      · rw [a2 t (by omega) t2, e1 8 (by omega)]
theorem takePlaceM {M : ST} (hs : ∀ t, t < 24 → M.1 10 t = 0 ∨ M.1 10 t = 1) : ∃ T, f_X10_takePlace M = some T ∧ (∀ t, t < 9 → T.1 1 t = M.1 8 t) ∧ (∀ t, t < 24 → T.1 2 t = M.1 9 t ∧ T.1 3 t = M.1 10 t) ∧ (∀ t, t < 12 → T.1 4 t = M.1 11 t) ∧ T.1 6 0 = 0 ∧ T.1 6 1 = 0 ∧ T.1 6 2 = 0 ∧ T.1 6 3 = T.1 1 4 ∧ T.1 6 4 = T.1 1 5 ∧ ∀ k, (k < 1 ∨ 4 < k) → k ≠ 6 → T.1 k = M.1 k := by
  obtain ⟨T, a1, a2, -, a4⟩ := tp2 9 0 1000 M hs (by omega) (by omega)
  exact ⟨T, a1, fun t ht => a2 t (Nat.zero_le t) ht, a4⟩
