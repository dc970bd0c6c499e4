theorem su_s (M : ST) (k j : Nat) (v : Int32) : (su M k j v).1 k j = v := by simp [su_1]
theorem su_o (M : ST) (k : Nat) {j j' : Nat} (v : Int32) (h : j' ≠ j) : (su M k j v).1 k j' = M.1 k j' := by simp [su_1, h]
theorem QR.fr2 {h : Nat} {S M S' M' : ST} (hQ : QR h S M) (a : ∀ k, 5 ≤ k → k ≤ 8 → S'.1 k = S.1 k) (a2 : ∀ k, 16 ≤ k → k ≤ 30 → S'.1 k = S.1 k) (a3 : S'.1 0 5 = S.1 0 5) (b : PC S') (c : ∀ k, 1 ≤ k → k ≤ 5 → M'.1 k = M.1 k) (d : M'.1 0 4 = M.1 0 4) (hH : HaR S' M') : QR h S' M' := by
  obtain ⟨h1, h2, h3, h4, h5, h6, h7⟩ := hQ
  refine ⟨h1.fr a (fun k k1 k2 => c k k1 (by omega)), hH, h3, a3.trans h4, d.trans h5, ?_, b⟩
  intro i hi
  have := h6 i hi
  unfold SwR at this ⊢
  rw [a2 (16 + 2 * i) (by omega) (by omega), c 5 (by omega) (by omega)]
  exact this
def mostN (j : Nat) : Nat := ([11, 300, 40, 80, 600] : List Nat).getD j 0
theorem mostN_ok : ∀ j, j < 5 → f_X9_ats 7 (nI j) = some (nI (mostN j)) ∧ f_X10_mostOf (nI j) = some (nI (mostN j)) ∧ mostN j ≤ 600 := by decide +kernel
/-- something else in hand -/
theorem HaR.set {S M : ST} (h : HaR S M) {j : Nat} (hj : j < 5) {v : Int32} (hv : In v 0 (mostN j)) (h1 : j = 1 → v.toInt ≤ (M.1 1 1).toInt - 50) : HaR (su S 32 j v) (su M 6 j v) := by
  obtain ⟨q0, qm, qk, qk2, qy, qA, qV⟩ := h
  have e1 : (su M 6 j v).1 1 = M.1 1 := su_r _ _ _ _ (by omega)
  have e0 : ∀ t, t < 5 → (su S 32 j v).1 32 t = (su M 6 j v).1 6 t := fun t ht => by
    by_cases e : t = j
    · rw [e, su_s, su_s]
    · rw [su_o _ _ _ e, su_o _ _ _ e]; exact q0 t ht
  refine ⟨e0, ?_, ?_, ?_, ?_, ?_, ?_⟩
  · by_cases e : 0 = j
    · subst e; rw [su_s]; exact hv
    · rw [su_o _ _ _ e]; exact qm
  · by_cases e : 1 = j
    · subst e; rw [su_s]; exact hv
    · rw [su_o _ _ _ e]; exact qk
  · rw [e1]
    by_cases e : 1 = j
    · subst e; rw [su_s]; exact h1 rfl
    · rw [su_o _ _ _ e]; exact qk2
  · by_cases e : 2 = j
    · subst e; rw [su_s]; exact hv
    · rw [su_o _ _ _ e]; exact qy
  · by_cases e : 3 = j
    · subst e; rw [su_s]; exact hv
    · rw [su_o _ _ _ e]; exact qA
  · by_cases e : 4 = j
    · subst e; rw [su_s]; exact hv
    · rw [su_o _ _ _ e]; exact qV
theorem Rel.hand {S M : ST} (hR : Rel S M) {j : Nat} (hj : j < 5) {v : Int32} (hv : In v 0 (mostN j)) (h1 : j = 1 → v.toInt ≤ (M.1 1 1).toInt - 50) : Rel (su S 32 j v) (su M 6 j v) := by
  obtain ⟨h, len, hQ, hF, hT, hS, hI, hI2⟩ := hR
  have a : ∀ k, k ≠ 32 → (su S 32 j v).1 k = S.1 k := fun k hk => su_r _ _ _ _ hk
  have b : ∀ k, k ≠ 6 → (su M 6 j v).1 k = M.1 k := fun k hk => su_r _ _ _ _ hk
  exact ⟨h, len, hQ.fr2 (fun k k1 k2 => a k (by omega)) (fun k k1 k2 => a k (by omega)) (by rw [a 0 (by omega)]) (hQ.2.2.2.2.2.2.fr (fun k k1 k2 => a k (by omega))) (fun k k1 k2 => b k (by omega)) (by rw [b 0 (by omega)]) (hQ.2.1.set hj hv h1), by rw [a 0 (by omega), b 0 (by omega)]; exact hF, hT.fr (a 1 (by omega)) (a 2 (by omega)) (by rw [b 0 (by omega)]) (b 7 (by omega)), hS.fr (by rw [a 31 (by omega)]) (a 33 (by omega)) (by rw [b 0 (by omega)]) (b 17 (by omega)), hI.fr (by omega) (fun k k1 k2 => a k (by omega)) (b 18 (by omega)) (b 19 (by omega)), hI2.fr (by omega) (fun k k1 k2 => a k (by omega)) (b 18 (by omega)) (b 19 (by omega))⟩
/-- the knot's greatest length, in the class -/
theorem most1C {S M : ST} (hP : PlR S M) : ∃ x : Int32, f_X9_mostInHand (1 : Int32) S = some x ∧ x.toInt = (if (M.1 1 1).toInt - 50 < 300 then (M.1 1 1).toInt - 50 else 300) := by
  have c5 : (50 : Int32).toInt = 50 := rfl
  have c3 : (300 : Int32).toInt = 300 := rfl
  obtain ⟨pL1, pL2⟩ := hP.2.2.1
  have k1 : f_X3_number (1 : Int32) S = some (M.1 1 1) := (numC (i := 1) S (by omega)).trans (congrArg some (hP.1.1 1 (by omega)))
  have a7 : f_X9_ats 7 (1 : Int32) = some 300 := (mostN_ok 1 (by omega)).1
  have e : (M.1 1 1 - 50).toInt = (M.1 1 1).toInt - 50 := by rw [ti_sub (by rw [c5]; omega) (by rw [c5]; omega), c5]
  refine ⟨if (M.1 1 1 - 50) < (300 : Int32) then M.1 1 1 - 50 else 300, ?_, ?_⟩
  · unfold f_X9_mostInHand
    rw [a7, bn1_some, if_pos rfl, k1, bn1_some, nm_x]
  · by_cases q : (M.1 1 1).toInt - 50 < 300
    · rw [if_pos q, if_pos (show (M.1 1 1 - 50) < (300 : Int32) by rw [i_lt, e, c3]; exact q), e]
    · rw [if_neg q, if_neg (show ¬ (M.1 1 1 - 50) < (300 : Int32) by rw [i_lt, e, c3]; exact q), c3]
theorem takeC {j : Nat} (S : ST) (v : Int32) (h : j < 5) : f_X5_take (nI j) v S = some (su S 32 j v) := by
  unfold f_X5_take
  rw [put_in 32 v S (show j < lnC 32 from h), bn1_some]
theorem E_set {S M : ST} (hR : Rel S M) (a1 : Int32) (a2 : Int32) : ∃ r : Int32, ∃ S' : ST, ∃ M' : ST, f_X9_set a1 a2 S = some (r, S') ∧ f_X10_set a1 a2 M = some (r, M') ∧ Rel S' M' := by
  obtain ⟨h, len, hQ, -⟩ := id hR
  have hH := hQ.2.1
  have pL := hQ.1.2.2.1
  have c5 : (50 : Int32).toInt = 50 := rfl
  have m1 : (1 : Int32).toNatClampNeg = 1 := rfl
  unfold f_X9_set f_X10_set
  rw [wiC a1 (p := 0) (q := 4) rfl rfl, wiM a1 (p := 0) (q := 4) rfl rfl, bn1_some, bn1_some]
  by_cases p : 0 ≤ a1.toInt ∧ a1.toInt ≤ 4
  · obtain ⟨j, -, hj, rfl⟩ := n_in (a := 0) (b := 4) p.1 p.2
    obtain ⟨o1, o2, o3⟩ := mostN_ok j (by omega)
    have b47 : b_X10_set_47 (nI j) a2 M = some (M.1 6 j, su M 6 j a2) := by
      unfold b_X10_set_47
      rw [chk_t _ (ib_nI (by omega) (by omega)), nm_x, chk_t _ (ib_nI (by omega) (by omega)), nm_x, nI_n (by omega)]
    rw [if_pos p, if_neg w10, if_neg w10, o2, bn1_some, wiM a2 (p := 0) (q := (mostN j : Int)) rfl (by rw [tl_i, nI_i (by omega)]), bn1_some, handC S (by omega), bn1_some, takeC S a2 (by omega), bn1_some, hH.1 j (by omega), b47]
    by_cases hj1 : j = 1
    · subst hj1
      obtain ⟨x, x1, x2⟩ := most1C hQ.1
      have x1' : f_X9_mostInHand (nI 1) S = some x := x1
      have e : (M.1 1 1 - 50).toInt = (M.1 1 1).toInt - 50 := by rw [ti_sub (by rw [c5]; have := pL.1; have := pL.2; omega) (by rw [c5]; have := pL.1; have := pL.2; omega), c5]
      have n300 : ((mostN 1 : Nat) : Int) = 300 := rfl
      rw [x1', bn1_some, wiC a2 (p := 0) (q := x.toInt) rfl rfl, bn1_some, if_pos (show nI 1 = (1 : Int32) from rfl), m1, n300]
      by_cases g : 0 ≤ a2.toInt ∧ a2.toInt ≤ 300
      · rw [if_pos g, if_neg w10]
        by_cases g2 : a2.toInt ≤ (M.1 1 1).toInt - 50
        · have g3 : 0 ≤ a2.toInt ∧ a2.toInt ≤ x.toInt := by
            rw [x2]
            by_cases w : (M.1 1 1).toInt - 50 < 300
            · rw [if_pos w]; omega
            · rw [if_neg w]; omega
          rw [if_pos g3, if_neg w10, if_pos (show a2 ≤ M.1 1 1 - 50 by rw [i_le, e]; exact g2)]
          exact ⟨_, _, _, rfl, rfl, hR.hand (by omega) g (fun _ => g2)⟩
        · have g3 : ¬ (0 ≤ a2.toInt ∧ a2.toInt ≤ x.toInt) := by
            rw [x2]
            by_cases w : (M.1 1 1).toInt - 50 < 300
            · rw [if_pos w]; omega
            · rw [if_neg w]; omega
          rw [if_neg g3, if_pos rfl, if_neg (show ¬ a2 ≤ M.1 1 1 - 50 by rw [i_le, e]; exact g2)]
          exact ⟨_, _, _, rfl, rfl, hR⟩
      · have g3 : ¬ (0 ≤ a2.toInt ∧ a2.toInt ≤ x.toInt) := by
          rw [x2]
          by_cases w : (M.1 1 1).toInt - 50 < 300
          · rw [if_pos w]; omega
          · rw [if_neg w]; omega
        rw [if_neg g, if_pos rfl, if_neg g3, if_pos rfl]
        exact ⟨_, _, _, rfl, rfl, hR⟩
    · have nj : ¬ nI j = (1 : Int32) := ne_c (n := 1) rfl (by rw [nI_i (by omega)]; omega)
      have mC : f_X9_mostInHand (nI j) S = some (nI (mostN j)) := by
        unfold f_X9_mostInHand
        rw [o1, bn1_some, if_neg nj]
      rw [mC, bn1_some, wiC a2 (p := 0) (q := (mostN j : Int)) rfl (by rw [nI_i (by omega)]), bn1_some, if_neg nj]
      by_cases g : 0 ≤ a2.toInt ∧ a2.toInt ≤ (mostN j : Int)
      · rw [if_pos g, if_neg w10, if_neg w10]
        exact ⟨_, _, _, rfl, rfl, hR.hand (by omega) g (fun e => absurd e hj1)⟩
      · rw [if_neg g, if_pos rfl, if_pos rfl]
        exact ⟨_, _, _, rfl, rfl, hR⟩
  · rw [if_neg p, if_pos rfl, if_pos rfl]; exact ⟨_, _, _, rfl, rfl, hR⟩
theorem Rel.seed {S M : ST} (hR : Rel S M) {v : Int32} (hv : 0 ≤ v.toInt) : Rel (su S 31 2 v) (su M 0 42 v) := by
  obtain ⟨h, len, hQ, hF, hT, hS, hI, hI2⟩ := hR
  have a : ∀ k, k ≠ 31 → (su S 31 2 v).1 k = S.1 k := fun k hk => su_r _ _ _ _ hk
  have b : ∀ k, k ≠ 0 → (su M 0 42 v).1 k = M.1 k := fun k hk => su_r _ _ _ _ hk
  have b0 : ∀ j, j ≠ 42 → (su M 0 42 v).1 0 j = M.1 0 j := fun j hj => su_o _ _ _ hj
  exact ⟨h, len, hQ.fr2 (fun k k1 k2 => a k (by omega)) (fun k k1 k2 => a k (by omega)) (by rw [a 0 (by omega)]) (hQ.2.2.2.2.2.2.fr (fun k k1 k2 => a k (by omega))) (fun k k1 k2 => b k (by omega)) (b0 4 (by omega)) (hQ.2.1.fr (a 32 (by omega)) (b 6 (by omega)) (b 1 (by omega))), by rw [a 0 (by omega), b0 9 (by omega)]; exact hF, hT.fr (a 1 (by omega)) (a 2 (by omega)) (b0 8 (by omega)) (b 7 (by omega)), ⟨by rw [su_s, su_s], by rw [su_s]; exact hv, by rw [a 33 (by omega), b 17 (by omega)]; exact hS.2.2⟩, hI.fr (by omega) (fun k k1 k2 => a k (by omega)) (b 18 (by omega)) (b 19 (by omega)), hI2.fr (by omega) (fun k k1 k2 => a k (by omega)) (b 18 (by omega)) (b 19 (by omega))⟩
theorem E_seed {S M : ST} (hR : Rel S M) (a1 : Int32) : ∃ r : Int32, ∃ S' : ST, ∃ M' : ST, f_X9_seed a1 S = some (r, S') ∧ f_X10_seed a1 M = some (r, M') ∧ Rel S' M' := by
  obtain ⟨h, len, hQ, hF, hT, hS, hI, hI2⟩ := id hR
  unfold f_X9_seed f_X10_seed
  by_cases p : 0 ≤ a1
  · rw [if_pos p, if_pos p, nm_x, nm_x, nm_x, nm_x, hS.1]
    rw [i_le, show (0 : Int32).toInt = 0 from rfl] at p
    exact ⟨_, _, _, rfl, rfl, hR.seed p⟩
  · rw [if_neg p, if_neg p]
    exact ⟨_, _, _, rfl, rfl, hR⟩
theorem rem_l {a c : Int64} {n : Int} (hc : c.toInt = n) (hn : 0 < n) (h0 : 0 ≤ a.toInt) : (a - a / c * c).toInt = a.toInt % n := by
  have h2 := Int64.toInt_lt a
  have e1 : (a / c).toInt = a.toInt / n := by rw [tl_div (by omega) (by omega), hc, Int.tdiv_eq_ediv_of_nonneg h0]
  have b1 : 0 ≤ a.toInt / n := Int.ediv_nonneg h0 (by omega)
  have b2 : a.toInt / n * n ≤ a.toInt := Int.ediv_mul_le _ (by omega)
  have b3 : 0 ≤ a.toInt / n * n := Int.mul_nonneg b1 (by omega)
  have e2 : (a / c * c).toInt = a.toInt / n * n := by rw [tl_mul (by rw [e1, hc]; omega) (by rw [e1, hc]; omega), e1, hc]
  rw [tl_sub (by rw [e2]; omega) (by rw [e2]; omega), e2, Int.emod_def, Int.mul_comm n]
theorem rem_i {a c : Int32} {n : Int} (hc : c.toInt = n) (hn : 0 < n) (h0 : 0 ≤ a.toInt) : (a - a / c * c).toInt = a.toInt % n := by
  have h2 := Int32.toInt_lt a
  have e1 : (a / c).toInt = a.toInt / n := by rw [ti_div (by omega), hc, Int.tdiv_eq_ediv_of_nonneg h0]
  have b1 : 0 ≤ a.toInt / n := Int.ediv_nonneg h0 (by omega)
  have b2 : a.toInt / n * n ≤ a.toInt := Int.ediv_mul_le _ (by omega)
  have b3 : 0 ≤ a.toInt / n * n := Int.mul_nonneg b1 (by omega)
  have e2 : (a / c * c).toInt = a.toInt / n * n := by rw [ti_mul (by rw [e1, hc]; omega) (by rw [e1, hc]; omega), e1, hc]
  rw [ti_sub (by rw [e2]; omega) (by rw [e2]; omega), e2, Int.emod_def, Int.mul_comm n]
theorem tl_mulr {a c : Int64} {n : Int} (hc : c.toInt = n) (h : -9223372036854775808 ≤ a.toInt * n) (h2 : a.toInt * n < 9223372036854775808) : (a * c).toInt = a.toInt * n := by
  rw [tl_mul (by rw [hc]; exact h) (by rw [hc]; exact h2), hc]
theorem tl_addc {a c : Int64} {n : Int} (hc : c.toInt = n) (h : -9223372036854775808 ≤ a.toInt + n) (h2 : a.toInt + n < 9223372036854775808) : (a + c).toInt = a.toInt + n := by
  rw [tl_add (by rw [hc]; exact h) (by rw [hc]; exact h2), hc]
theorem lA : (1103515245 : Int64).toInt = 1103515245 := rfl
theorem lB : (12345 : Int64).toInt = 12345 := rfl
theorem lC : (2147483648 : Int64).toInt = 2147483648 := rfl
/-- the next seed -/
def nx (s : Int32) : Int32 := (((s.toInt64 * 1103515245) + 12345) - ((s.toInt64 * 1103515245) + 12345) / 2147483648 * 2147483648).toInt32
theorem nx_b {s : Int32} (h : 0 ≤ s.toInt) : 0 ≤ (nx s).toInt := by
  have h2 := Int32.toInt_lt s
  have e1 : (s.toInt64 * 1103515245).toInt = s.toInt * 1103515245 := by rw [tl_mulr lA (by rw [tl_i]; omega) (by rw [tl_i]; omega), tl_i]
  have e2 : (s.toInt64 * 1103515245 + 12345).toInt = s.toInt * 1103515245 + 12345 := by rw [tl_addc lB (by rw [e1]; omega) (by rw [e1]; omega), e1]
  unfold nx
  generalize s.toInt64 * 1103515245 + 12345 = a at *
  have h0 : 0 ≤ a.toInt := by omega
  have e3 := rem_l lC (by decide) h0
  have b1 := Int.emod_nonneg a.toInt (show (2147483648 : Int) ≠ 0 by decide)
  have b2 := Int.emod_lt_of_pos a.toInt (show (0 : Int) < 2147483648 by decide)
  generalize a - a / 2147483648 * 2147483648 = z at *
  rw [ti_l (by omega) (by omega), e3]
  exact b1
/-- the draw of a seed -/
theorem draw_ok {s : Int32} (h : 0 ≤ s.toInt) {n : Nat} (n1 : 1 ≤ n) (n2 : n < 100) : ∃ d, d < n ∧ (s / 65536 - s / 65536 / nI n * nI n) = nI d := by
  have c1 : (65536 : Int32).toInt = 65536 := rfl
  have e1 : (s / 65536).toInt = s.toInt.tdiv 65536 := by rw [ti_div (by rw [c1]; decide), c1]
  have b1 : 0 ≤ (s / 65536).toInt := by rw [e1]; exact Int.tdiv_nonneg h (by decide)
  have en : (nI n).toInt = n := nI_i (by omega)
  have e2 := rem_i (a := s / 65536) en (by omega) b1
  have b2 := Int.emod_nonneg (s / 65536).toInt (show (n : Int) ≠ 0 by omega)
  have b3 := Int.emod_lt_of_pos (s / 65536).toInt (show (0 : Int) < n by omega)
  obtain ⟨d, -, hd, e⟩ := n_in (a := 0) (b := n - 1) (x := s / 65536 - s / 65536 / nI n * nI n) (by rw [e2]; exact b2) (by rw [e2]; omega)
  exact ⟨d, by omega, e⟩
theorem drawC {n : Nat} (n1 : 1 ≤ n) (n2 : n < 100) (S : ST) : f_X5_draw (nI n) S = some (nx (S.1 31 2) / 65536 - nx (S.1 31 2) / 65536 / nI n * nI n, su S 31 2 (nx (S.1 31 2))) := by
  have z : nz (nI n) = true := by simp [nz, nI_ne0 (n := n) (by omega) (by omega)]
  unfold f_X5_draw
  rw [nm_x, if_pos (show (1 : Int32) ≤ nI n from nI_le (a := 1) (by omega) (by omega)), chk_t _ z, su_s]
  rfl
theorem drawM {n : Nat} (n1 : 1 ≤ n) (n2 : n < 100) (M : ST) : f_X10_draw (nI n) M = some (nx (M.1 0 42) / 65536 - nx (M.1 0 42) / 65536 / nI n * nI n, su M 0 42 (nx (M.1 0 42))) := by
  have z : nz (nI n) = true := by simp [nz, nI_ne0 (n := n) (by omega) (by omega)]
  unfold f_X10_draw
  rw [nm_x, chk_t _ z, su_s]
  rfl
