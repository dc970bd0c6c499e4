/-- the reference goes back: the ends -/
theorem backB {i : Nat} (hi : i < 2) : ∀ (r j n : Nat) (M : ST), j + r = 9 → r < n → ∃ M', lp (fun _ _ _ => none) b_X10_goBack_113 n (nI (20 * i)) (nI j) M = some (1, M') ∧ (∀ t, j ≤ t → t < 9 → M'.1 17 t = M.1 18 (20 * i + 6 + t)) ∧ (∀ t, t < j → M'.1 17 t = M.1 17 t) ∧ ∀ k, k ≠ 17 → M'.1 k = M.1 k := by
  intro r
  induction r with
  | zero =>
    intro j n M hj hn
    obtain ⟨n, rfl⟩ : ∃ k, n = k + 1 := ⟨n - 1, by omega⟩
    refine ⟨M, ?_, fun t h1 h2 => by omega, fun _ _ => rfl, fun _ _ => rfl⟩
    rw [lp_s]; rw [b_X10_goBack_113]; rw [if_pos (show (9 : Int32) ≤ nI j from nI_le (a := 9) (by omega) (by omega))]
  | succ r ih =>
    intro j n M hj hn
    obtain ⟨n, rfl⟩ : ∃ k, n = k + 1 := ⟨n - 1, by omega⟩
    have e : nI (20 * i) + 6 + nI j = nI (20 * i + 6 + j) := by rw [show nI (20 * i) + 6 = nI (20 * i + 6) from nI_add _ 6, nI_add]
    obtain ⟨M1, hM1⟩ : ∃ T : ST, T = su M 17 j (M.1 18 (20 * i + 6 + j)) := ⟨_, rfl⟩
    obtain ⟨M', a1, a2, a3, a4⟩ := ih (j + 1) n M1 (by omega) (by omega)
    have r17 : ∀ k, k ≠ 17 → M1.1 k = M.1 k := fun k hk => by rw [hM1]; exact su_r _ _ _ _ hk
    refine ⟨M', ?_, fun t t1 t2 => ?_, fun t ht => ?_, fun k k1 => by rw [a4 k k1, r17 k k1]⟩
    · rw [lp_s]; rw [b_X10_goBack_113]; rw [if_neg (show ¬ (9 : Int32) ≤ nI j from nI_ge (b := 9) (by omega) (by omega)), e, chk_t _ (ib_nI (by omega) (by omega)), chk_t _ (ib_nI (by omega) (by omega)), nm_x, nm_x, nI_n (by omega), nI_n (by omega), nI_1, ← hM1]
      exact a1
    · by_cases q : t = j
      · rw [a3 t (by omega), hM1, q, su_s]
      · rw [a2 t (by omega) t2, r17 18 (by omega)]
    · rw [a3 t (by omega), hM1, su_o _ _ _ (by omega)]
/-- what the knot is cut to -/
def clip (k L : Int32) : Int32 := if k ≤ L - 50 then k else L - 50
theorem backA {i : Nat} (hi : i < 2) : ∀ (r j n : Nat) (M : ST), j + r = 5 → r < n → ∃ M', lp (fun _ _ _ => none) b_X10_goBack_32 n (nI (20 * i)) (nI j) M = some (1, M') ∧ (∀ t, j ≤ t → t < 5 → t ≠ 1 → M'.1 6 t = M.1 18 (20 * i + t)) ∧ (∀ t, t < j → t ≠ 1 → M'.1 6 t = M.1 6 t) ∧ M'.1 6 1 = clip (if j ≤ 1 then M.1 18 (20 * i + 1) else M.1 6 1) (M.1 1 1) ∧ M'.1 0 42 = M.1 18 (20 * i + 5) ∧ (∀ t, t ≠ 42 → M'.1 0 t = M.1 0 t) ∧ (∀ t, t < 9 → M'.1 17 t = M.1 18 (20 * i + 6 + t)) ∧ ∀ k, k ≠ 6 → k ≠ 0 → k ≠ 17 → M'.1 k = M.1 k := by
  have m1 : (1 : Int32).toNatClampNeg = 1 := rfl
  intro r
  induction r with
  | zero =>
    intro j n M hj hn
    obtain ⟨n, rfl⟩ : ∃ k, n = k + 1 := ⟨n - 1, by omega⟩
    have e : nI (20 * i) + 5 = nI (20 * i + 5) := nI_add _ 5
    have i1 : ib (1 : Int32) 5 = true := by decide
    obtain ⟨M1, hM1⟩ : ∃ T : ST, T = su M 6 1 (clip (M.1 6 1) (M.1 1 1)) := ⟨_, rfl⟩
    obtain ⟨M2, hM2⟩ : ∃ T : ST, T = su M1 0 42 (M1.1 18 (20 * i + 5)) := ⟨_, rfl⟩
    have r1 : ∀ k, k ≠ 6 → M1.1 k = M.1 k := fun k hk => by rw [hM1]; exact su_r _ _ _ _ hk
    have r2 : ∀ k, k ≠ 0 → M2.1 k = M1.1 k := fun k hk => by rw [hM2]; exact su_r _ _ _ _ hk
    obtain ⟨M', a1, a2, a3, a4⟩ := backB hi 9 0 1000 M2 (by omega) (by omega)
    have a1' : lp (fun _ _ _ => none) b_X10_goBack_113 1000 (nI (20 * i)) (0 : Int32) M2 = some (1, M') := a1
    have p98 : b_X10_goBack_98 (nI (20 * i)) (clip (M.1 6 1) (M.1 1 1)) 1 M = some (1, M') := by
      unfold b_X10_goBack_98
      rw [chk_t _ i1, nm_x, m1, ← hM1, e, chk_t _ (ib_nI (by omega) (by omega)), nm_x, nI_n (by omega), ← hM2]
      exact a1'
    refine ⟨M', ?_, fun t t1 t2 => by omega, fun t ht h1 => ?_, ?_, ?_, fun t ht => ?_, fun t ht => ?_, fun k k6 k0 k17 => ?_⟩
    · rw [lp_s]; rw [b_X10_goBack_32]; rw [if_pos (show (5 : Int32) ≤ nI j from nI_le (a := 5) (by omega) (by omega)), m1]
      unfold clip at p98
      by_cases q : M.1 6 1 ≤ M.1 1 1 - 50
      · rw [if_pos q]; rw [if_pos q] at p98; exact p98
      · rw [if_neg q]; rw [if_neg q] at p98; exact p98
    · rw [a4 6 (by omega), r2 6 (by omega), hM1, su_o _ _ _ h1]
    · rw [a4 6 (by omega), r2 6 (by omega), hM1, su_s, if_neg (by omega)]
    · rw [a4 0 (by omega), hM2, su_s, r1 18 (by omega)]
    · rw [a4 0 (by omega), hM2, su_o _ _ _ ht, r1 0 (by omega)]
    · rw [a2 t (by omega) ht, r2 18 (by omega), r1 18 (by omega)]
    · rw [a4 k k17, r2 k k0, r1 k k6]
  | succ r ih =>
    intro j n M hj hn
    obtain ⟨n, rfl⟩ : ∃ k, n = k + 1 := ⟨n - 1, by omega⟩
    have e : nI (20 * i) + nI j = nI (20 * i + j) := nI_add _ _
    obtain ⟨M1, hM1⟩ : ∃ T : ST, T = su M 6 j (M.1 18 (20 * i + j)) := ⟨_, rfl⟩
    have r1 : ∀ k, k ≠ 6 → M1.1 k = M.1 k := fun k hk => by rw [hM1]; exact su_r _ _ _ _ hk
    obtain ⟨M', a1, a2, a3, a4, a5, a6, a7, a8⟩ := ih (j + 1) n M1 (by omega) (by omega)
    refine ⟨M', ?_, fun t t1 t2 t3 => ?_, fun t ht h1 => ?_, ?_, by rw [a5, r1 18 (by omega)], fun t ht => by rw [a6 t ht, r1 0 (by omega)], fun t ht => by rw [a7 t ht, r1 18 (by omega)], fun k k6 k0 k17 => by rw [a8 k k6 k0 k17, r1 k k6]⟩
    · rw [lp_s]; rw [b_X10_goBack_32]; rw [if_neg (show ¬ (5 : Int32) ≤ nI j from nI_ge (b := 5) (by omega) (by omega)), e, chk_t _ (ib_nI (by omega) (by omega)), chk_t _ (ib_nI (by omega) (by omega)), nm_x, nm_x, nI_n (by omega), nI_n (by omega), nI_1, ← hM1]
      exact a1
    · by_cases q : t = j
      · rw [a3 t (by omega) t3, hM1, q, su_s]
      · rw [a2 t (by omega) t2 t3, r1 18 (by omega)]
    · rw [a3 t (by omega) h1, hM1, su_o _ _ _ (by omega)]
    · rw [a4, r1 1 (by omega), r1 18 (by omega)]
      by_cases q : j = 0
      · rw [if_pos (by omega), if_pos (by omega)]
      · by_cases q1 : j = 1
        · rw [if_neg (by omega), if_pos (by omega), hM1, q1, su_s]
        · rw [if_neg (by omega), if_neg (by omega), hM1, su_o _ _ _ (by omega)]
theorem E_goBack {S M : ST} (hR : Rel S M) (a1 : Int32) : ∃ r : Int32, ∃ S' : ST, ∃ M' : ST, f_X9_goBack a1 S = some (r, S') ∧ f_X10_goBack a1 M = some (r, M') ∧ Rel S' M' := by
  obtain ⟨h, len, hQ, hF, hT, hS, hI, hI2⟩ := id hR
  unfold f_X9_goBack f_X10_goBack
  rw [wiM a1 (p := 0) (q := 1) rfl rfl, bn1_some]
  by_cases p : 0 ≤ a1.toInt ∧ a1.toInt ≤ 1
  · obtain ⟨i, -, hi, rfl⟩ := n_in (a := 0) (b := 1) p.1 p.2
    have hIi : ImR i S M := by
      have : i = 0 ∨ i = 1 := by omega
      rcases this with rfl | rfl
      · exact hI
      · exact hI2
    obtain ⟨m1, m2⟩ := hIi
    rw [if_pos p, if_neg w10, imC (by omega), bn1_some, om_some, chk_t _ (ib_nI (by omega) (by omega)), nI_n (by omega), m1]
    by_cases z : M.1 19 i = 0
    · rw [if_pos z, if_pos z]; exact ⟨_, _, _, rfl, rfl, hR⟩
    · obtain ⟨y1, y2, y3, y4, y5, y6, y7, y8, y9⟩ := m2 z
      obtain ⟨l1, l2⟩ := lnC_i i (by omega)
      obtain ⟨T, t1, t2, t3, t4, t5, t6⟩ := copyC (a1 := 31) (a2 := 35 + 3 * i) S (by decide) l1 (by decide) l2 (by omega)
      have t6 : ∀ k, k ≠ 31 → k ≠ 32 → k ≠ 33 → T.1 k = S.1 k := t6
      have t2 : ∀ j, j < 5 → T.1 32 j = S.1 (36 + 3 * i) j := fun j hj => by rw [show 36 + 3 * i = 35 + 3 * i + 1 by omega]; exact t2 j hj
      have t3 : ∀ j, j < 9 → T.1 33 j = S.1 (37 + 3 * i) j := fun j hj => by rw [show 37 + 3 * i = 35 + 3 * i + 2 by omega]; exact t3 j hj
      obtain ⟨M', c1, c2, c3, c4, c5, c6, c7, c8⟩ := backA (i := i) (by omega) 5 0 1000 M (by omega) (by omega)
      have c1' : lp (fun _ _ _ => none) b_X10_goBack_32 1000 (nI (20 * i)) (0 : Int32) M = some (1, M') := c1
      rw [if_pos (by omega)] at c4
      have pl : PlR T M := hQ.1.fr (fun k k1 k2 => t6 k (by omega) (by omega) (by omega)) (fun _ _ _ => rfl)
      obtain ⟨x, x1, x2⟩ := most1C pl
      have k1 : f_X5_inHand (1 : Int32) T = some (M.1 18 (20 * i + 1)) := (handC (i := 1) T (by omega)).trans (congrArg some (by rw [t2 1 (by omega)]; exact y1 1 (by omega)))
      obtain ⟨pL1, pL2⟩ := hQ.1.2.2.1
      obtain ⟨y61, y62⟩ := id y6
      have c5' : (50 : Int32).toInt = 50 := rfl
      have e50 : (M.1 1 1 - 50).toInt = (M.1 1 1).toInt - 50 := by rw [ti_sub (by rw [c5']; omega) (by rw [c5']; omega), c5']
      have ec : (if x < M.1 18 (20 * i + 1) then x else M.1 18 (20 * i + 1)) = clip (M.1 18 (20 * i + 1)) (M.1 1 1) := by
        refine i_ext ?_
        unfold clip
        by_cases q : M.1 18 (20 * i + 1) ≤ M.1 1 1 - 50
        · rw [if_pos q]
          rw [i_le, e50] at q
          have hx : ¬ x.toInt < (M.1 18 (20 * i + 1)).toInt := by
            rw [x2]
            by_cases w : (M.1 1 1).toInt - 50 < 300
            · rw [if_pos w]; omega
            · rw [if_neg w]; omega
          rw [if_neg (by rw [i_lt]; exact hx)]
        · rw [if_neg q]
          rw [i_le, e50] at q
          have w : (M.1 1 1).toInt - 50 < 300 := by omega
          rw [if_pos w] at x2
          rw [if_pos (by rw [i_lt, x2]; omega), x2, e50]
      have cb : (clip (M.1 18 (20 * i + 1)) (M.1 1 1)).toInt ≤ (M.1 1 1).toInt - 50 ∧ In (clip (M.1 18 (20 * i + 1)) (M.1 1 1)) 0 300 := by
        unfold clip In
        by_cases q : M.1 18 (20 * i + 1) ≤ M.1 1 1 - 50
        · rw [if_pos q]
          rw [i_le, e50] at q
          exact ⟨q, y61, y62⟩
        · rw [if_neg q]
          rw [i_le, e50] at q
          rw [e50]
          omega
      have tk : ∀ v : Int32, f_X5_take (1 : Int32) v T = some (su T 32 1 v) := fun v => takeC (j := 1) T v (by omega)
      rw [if_neg z, if_neg z, t1, bn1_some, k1, bn1_some, x1, bn1_some, nm_x, ec, tk, bn1_some, nm_x, n20 i (by omega), c1']
      obtain ⟨S', hS'⟩ : ∃ T' : ST, T' = su T 32 1 (clip (M.1 18 (20 * i + 1)) (M.1 1 1)) := ⟨_, rfl⟩
      rw [← hS']
      have u : ∀ k, k ≠ 31 → k ≠ 32 → k ≠ 33 → S'.1 k = S.1 k := fun k h1 h2 h3 => by rw [hS', su_r _ _ _ _ h2]; exact t6 k h1 h2 h3
      have u31 : S'.1 31 2 = M.1 18 (20 * i + 5) := by rw [hS', su_r _ _ _ _ (by omega), t4]; exact y2
      have u33 : ∀ j, j < 9 → S'.1 33 j = M.1 18 (20 * i + 6 + j) := fun j hj => by rw [hS', su_r _ _ _ _ (by omega), t3 j hj]; exact y4 j hj
      have h0 : ∀ j, j < 5 → S'.1 32 j = M'.1 6 j := fun j hj => by
        by_cases e : j = 1
        · rw [e, c4, hS', su_s]
        · rw [c2 j (by omega) hj e, hS', su_o _ _ _ e, t2 j hj]; exact y1 j hj
      have hH : HaR S' M' := by
        refine ⟨h0, ?_, ?_, ?_, ?_, ?_, ?_⟩
        · rw [c2 0 (by omega) (by omega) (by omega)]; exact y5
        · rw [c4]; exact cb.2
        · rw [c4, c8 1 (by omega) (by omega) (by omega)]; exact cb.1
        · rw [c2 2 (by omega) (by omega) (by omega)]; exact y7
        · rw [c2 3 (by omega) (by omega) (by omega)]; exact y8
        · rw [c2 4 (by omega) (by omega) (by omega)]; exact y9
      exact ⟨1, S', M', rfl, rfl, h, len, hQ.fr2 (fun k k1 k2 => u k (by omega) (by omega) (by omega)) (fun k k1 k2 => u k (by omega) (by omega) (by omega)) (by rw [u 0 (by omega) (by omega) (by omega)]) (hQ.2.2.2.2.2.2.fr (fun k k1 k2 => u k (by omega) (by omega) (by omega))) (fun k k1 k2 => c8 k (by omega) (by omega) (by omega)) (c6 4 (by omega)) hH, by rw [u 0 (by omega) (by omega) (by omega), c6 9 (by omega)]; exact hF, hT.fr (u 1 (by omega) (by omega) (by omega)) (u 2 (by omega) (by omega) (by omega)) (c6 8 (by omega)) (c8 7 (by omega) (by omega) (by omega)), ⟨by rw [u31, c5], by rw [c5]; exact y3, fun j hj => by rw [u33 j hj, c7 j hj]⟩, hI.fr (by omega) (fun k k1 k2 => u k (by omega) (by omega) (by omega)) (c8 18 (by omega) (by omega) (by omega)) (c8 19 (by omega) (by omega) (by omega)), hI2.fr (by omega) (fun k k1 k2 => u k (by omega) (by omega) (by omega)) (c8 18 (by omega) (by omega) (by omega)) (c8 19 (by omega) (by omega) (by omega))⟩
  · rw [if_neg p, if_pos rfl, imN p, bn1_some, om_none]
    exact ⟨_, _, _, rfl, rfl, hR⟩
