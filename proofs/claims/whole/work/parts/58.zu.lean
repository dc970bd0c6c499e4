theorem cpy_lt {f g : Nat → Int32} {n j : Nat} (h : j < n) : va_cpy f g 0 0 n j = f j := by
  unfold va_cpy
  rw [if_pos ⟨Nat.zero_le _, by omega⟩]
  simp
theorem copyC {a1 a2 : Nat} (S : ST) (h1 : lnC (a1 + 1) = 5) (h2 : lnC (a2 + 1) = 5) (h3 : lnC (a1 + 2) = 9) (h4 : lnC (a2 + 2) = 9) (hd : a1 + 2 < a2 ∨ a2 + 2 < a1) : ∃ T, f_X5_copy a1 a2 S = some T ∧ (∀ j, j < 5 → T.1 (a1 + 1) j = S.1 (a2 + 1) j) ∧ (∀ j, j < 9 → T.1 (a1 + 2) j = S.1 (a2 + 2) j) ∧ T.1 a1 2 = S.1 a2 2 ∧ (∀ j, j ≠ 2 → T.1 a1 j = S.1 a1 j) ∧ ∀ k, k ≠ a1 → k ≠ a1 + 1 → k ≠ a1 + 2 → T.1 k = S.1 k := by
  obtain ⟨T1, hT1⟩ : ∃ T : ST, T = sr S (a1 + 1) (va_cpy (S.1 (a2 + 1)) (S.1 (a1 + 1)) 0 0 5) := ⟨_, rfl⟩
  obtain ⟨T2, hT2⟩ : ∃ T : ST, T = sr T1 (a1 + 2) (va_cpy (T1.1 (a2 + 2)) (T1.1 (a1 + 2)) 0 0 9) := ⟨_, rfl⟩
  have u1 : ∀ k, k ≠ a1 + 1 → T1.1 k = S.1 k := fun k hk => by rw [hT1]; exact sr_n _ _ hk
  have u2 : ∀ k, k ≠ a1 + 2 → T2.1 k = T1.1 k := fun k hk => by rw [hT2]; exact sr_n _ _ hk
  have m0 : (0 : Int32).toNatClampNeg = 0 := rfl
  have m5 : (Int32.ofNat 5).toNatClampNeg = 5 := rfl
  have m9 : (Int32.ofNat 9).toNatClampNeg = 9 := rfl
  refine ⟨su T2 a1 2 (T2.1 a2 2), ?_, fun j hj => ?_, fun j hj => ?_, ?_, fun j hj => ?_, fun k k1 k2 k3 => ?_⟩
  · unfold f_X5_copy
    rw [h1, h2, h3, h4, nm_x, ite_self, chk_t _ (by decide), nm_x, m0, m5, ← hT1, nm_x, ite_self, chk_t _ (by decide), nm_x, m9, ← hT2, nm_x]
  · rw [su_r _ _ _ _ (by omega), u2 _ (by omega), hT1, sr_k, cpy_lt hj]
  · rw [su_r _ _ _ _ (by omega), hT2, sr_k, cpy_lt hj, u1 _ (by omega)]
  · rw [su_s, u2 _ (by omega), u1 _ (by omega)]
  · rw [su_o _ _ _ hj, u2 _ (by omega), u1 _ (by omega)]
  · rw [su_r _ _ _ _ k1, u2 _ k3, u1 _ k2]
theorem imC {i : Nat} (hi : i < 2) (S : ST) : f_X9_imageAt (nI i) S = some (some (35 + 3 * i)) := by
  unfold f_X9_imageAt
  rw [if_neg (nI_pos (by omega)), if_neg (show ¬ (2 : Int32) ≤ nI i from nI_ge (b := 2) hi (by omega)), chk_t _ (ib_nI hi (by omega)), nm_x, nI_n (by omega)]
theorem imN {a : Int32} (h : ¬ (0 ≤ a.toInt ∧ a.toInt ≤ 1)) (S : ST) : f_X9_imageAt a S = some none := by
  unfold f_X9_imageAt
  by_cases z : a < 0
  · rw [if_pos z]
  · rw [if_neg z]
    rw [i_lt0] at z
    rw [if_pos (show (2 : Int32) ≤ a by rw [i_le, show (2 : Int32).toInt = 2 from rfl]; omega)]
theorem n20 : ∀ i, i < 2 → (20 : Int32) * nI i = nI (20 * i) := by decide
theorem nar1 : vp_nar .boolean (1 : Int32) = 1 := by decide
/-- the reference keeps: the ends -/
theorem keepB {i : Nat} (hi : i < 2) : ∀ (r j n : Nat) (M : ST), j + r = 9 → r < n → ∃ M', lp (fun _ _ _ _ => none) b_X10_keep_59 n (nI i) (nI (20 * i)) (nI j) M = some (1, M') ∧ (∀ p, (p < 20 * i + 6 + j ∨ 20 * i + 15 ≤ p) → M'.1 18 p = M.1 18 p) ∧ (∀ t, j ≤ t → t < 9 → M'.1 18 (20 * i + 6 + t) = M.1 17 t) ∧ M'.1 19 i = 1 ∧ (∀ t, t ≠ i → M'.1 19 t = M.1 19 t) ∧ ∀ k, k ≠ 18 → k ≠ 19 → M'.1 k = M.1 k := by
  intro r
  induction r with
  | zero =>
    intro j n M hj hn
    obtain ⟨n, rfl⟩ : ∃ k, n = k + 1 := ⟨n - 1, by omega⟩
    refine ⟨su M 19 i 1, ?_, fun p _ => by rw [su_r _ _ _ _ (by omega)], fun t h1 h2 => by omega, su_s _ _ _ _, fun t ht => su_o _ _ _ ht, fun k k1 k2 => su_r _ _ _ _ k2⟩
    rw [lp_s]; rw [b_X10_keep_59]; rw [if_pos (show (9 : Int32) ≤ nI j from nI_le (a := 9) (by omega) (by omega)), chk_t _ (ib_nI hi (by omega)), nm_x, nar1, nI_n (by omega)]
  | succ r ih =>
    intro j n M hj hn
    obtain ⟨n, rfl⟩ : ∃ k, n = k + 1 := ⟨n - 1, by omega⟩
    have e : nI (20 * i) + 6 + nI j = nI (20 * i + 6 + j) := by rw [show nI (20 * i) + 6 = nI (20 * i + 6) from nI_add _ 6, nI_add]
    obtain ⟨M1, hM1⟩ : ∃ T : ST, T = su M 18 (20 * i + 6 + j) (M.1 17 j) := ⟨_, rfl⟩
    obtain ⟨M', a1, a2, a3, a4, a5, a6⟩ := ih (j + 1) n M1 (by omega) (by omega)
    have r18 : ∀ k, k ≠ 18 → M1.1 k = M.1 k := fun k hk => by rw [hM1]; exact su_r _ _ _ _ hk
    refine ⟨M', ?_, fun p hp => ?_, fun t t1 t2 => ?_, a4, fun t ht => by rw [a5 t ht, r18 19 (by omega)], fun k k1 k2 => by rw [a6 k k1 k2, r18 k k1]⟩
    · rw [lp_s]; rw [b_X10_keep_59]; rw [if_neg (show ¬ (9 : Int32) ≤ nI j from nI_ge (b := 9) (by omega) (by omega)), chk_t _ (ib_nI (by omega) (by omega)), e, chk_t _ (ib_nI (by omega) (by omega)), nm_x, nm_x, nI_n (by omega), nI_n (by omega), nI_1, ← hM1]
      exact a1
    · rw [a2 p (by omega), hM1, su_o _ _ _ (by omega)]
    · by_cases q : t = j
      · rw [a2 _ (by omega), hM1, q, su_s]
      · rw [a3 t (by omega) t2, r18 17 (by omega)]
/-- the reference keeps: what is in hand, the seed, then the ends -/
theorem keepA {i : Nat} (hi : i < 2) : ∀ (r j n : Nat) (M : ST), j + r = 5 → r < n → ∃ M', lp (fun _ _ _ _ => none) b_X10_keep_20 n (nI i) (nI (20 * i)) (nI j) M = some (1, M') ∧ (∀ p, (p < 20 * i + j ∨ 20 * i + 15 ≤ p) → M'.1 18 p = M.1 18 p) ∧ (∀ t, j ≤ t → t < 5 → M'.1 18 (20 * i + t) = M.1 6 t) ∧ M'.1 18 (20 * i + 5) = M.1 0 42 ∧ (∀ t, t < 9 → M'.1 18 (20 * i + 6 + t) = M.1 17 t) ∧ M'.1 19 i = 1 ∧ (∀ t, t ≠ i → M'.1 19 t = M.1 19 t) ∧ ∀ k, k ≠ 18 → k ≠ 19 → M'.1 k = M.1 k := by
  intro r
  induction r with
  | zero =>
    intro j n M hj hn
    obtain ⟨n, rfl⟩ : ∃ k, n = k + 1 := ⟨n - 1, by omega⟩
    have e : nI (20 * i) + 5 = nI (20 * i + 5) := nI_add _ 5
    obtain ⟨M1, hM1⟩ : ∃ T : ST, T = su M 18 (20 * i + 5) (M.1 0 42) := ⟨_, rfl⟩
    obtain ⟨M', a1, a2, a3, a4, a5, a6⟩ := keepB hi 9 0 1000 M1 (by omega) (by omega)
    have a1' : lp (fun _ _ _ _ => none) b_X10_keep_59 1000 (nI i) (nI (20 * i)) (0 : Int32) M1 = some (1, M') := a1
    have r18 : ∀ k, k ≠ 18 → M1.1 k = M.1 k := fun k hk => by rw [hM1]; exact su_r _ _ _ _ hk
    refine ⟨M', ?_, fun p hp => ?_, fun t t1 t2 => by omega, ?_, fun t ht => by rw [a3 t (by omega) ht, r18 17 (by omega)], a4, fun t ht => by rw [a5 t ht, r18 19 (by omega)], fun k k1 k2 => by rw [a6 k k1 k2, r18 k k1]⟩
    · rw [lp_s]; rw [b_X10_keep_20]; rw [if_pos (show (5 : Int32) ≤ nI j from nI_le (a := 5) (by omega) (by omega)), e, chk_t _ (ib_nI (by omega) (by omega)), nm_x, nI_n (by omega), ← hM1]
      exact a1'
    · rw [a2 p (by omega), hM1, su_o _ _ _ (by omega)]
    · rw [a2 _ (by omega), hM1, su_s]
  | succ r ih =>
    intro j n M hj hn
    obtain ⟨n, rfl⟩ : ∃ k, n = k + 1 := ⟨n - 1, by omega⟩
    have e : nI (20 * i) + nI j = nI (20 * i + j) := nI_add _ _
    obtain ⟨M1, hM1⟩ : ∃ T : ST, T = su M 18 (20 * i + j) (M.1 6 j) := ⟨_, rfl⟩
    obtain ⟨M', a1, a2, a3, a4, a5, a6, a7, a8⟩ := ih (j + 1) n M1 (by omega) (by omega)
    have r18 : ∀ k, k ≠ 18 → M1.1 k = M.1 k := fun k hk => by rw [hM1]; exact su_r _ _ _ _ hk
    refine ⟨M', ?_, fun p hp => ?_, fun t t1 t2 => ?_, by rw [a4, r18 0 (by omega)], fun t ht => by rw [a5 t ht, r18 17 (by omega)], a6, fun t ht => by rw [a7 t ht, r18 19 (by omega)], fun k k1 k2 => by rw [a8 k k1 k2, r18 k k1]⟩
    · rw [lp_s]; rw [b_X10_keep_20]; rw [if_neg (show ¬ (5 : Int32) ≤ nI j from nI_ge (b := 5) (by omega) (by omega)), chk_t _ (ib_nI (by omega) (by omega)), e, chk_t _ (ib_nI (by omega) (by omega)), nm_x, nm_x, nI_n (by omega), nI_n (by omega), nI_1, ← hM1]
      exact a1
    · rw [a2 p (by omega), hM1, su_o _ _ _ (by omega)]
    · by_cases q : t = j
      · rw [a2 _ (by omega), hM1, q, su_s]
      · rw [a3 t (by omega) t2, r18 6 (by omega)]
theorem lnC_i : ∀ i, i < 2 → lnC (35 + 3 * i + 1) = 5 ∧ lnC (35 + 3 * i + 2) = 9 := by decide
theorem E_keep {S M : ST} (hR : Rel S M) (a1 : Int32) : ∃ r : Int32, ∃ S' : ST, ∃ M' : ST, f_X9_keep a1 S = some (r, S') ∧ f_X10_keep a1 M = some (r, M') ∧ Rel S' M' := by
  obtain ⟨h, len, hQ, hF, hT, hS, hI, hI2⟩ := id hR
  unfold f_X9_keep f_X10_keep
  rw [wiM a1 (p := 0) (q := 1) rfl rfl, bn1_some]
  by_cases p : 0 ≤ a1.toInt ∧ a1.toInt ≤ 1
  · obtain ⟨i, -, hi, rfl⟩ := n_in (a := 0) (b := 1) p.1 p.2
    obtain ⟨l1, l2⟩ := lnC_i i (by omega)
    obtain ⟨T, t1, t2, t3, t4, t5, t6⟩ := copyC (a1 := 35 + 3 * i) (a2 := 31) S l1 (by decide) l2 (by decide) (by omega)
    obtain ⟨M', c1, c2, c3, c4, c5, c6, c7, c8⟩ := keepA (i := i) (by omega) 5 0 1000 M (by omega) (by omega)
    have c1' : lp (fun _ _ _ _ => none) b_X10_keep_20 1000 (nI i) (nI (20 * i)) (0 : Int32) M = some (1, M') := c1
    rw [if_pos p, if_neg w10, imC (by omega), bn1_some, om_some, t1, bn1_some, nm_x, nm_x, n20 i (by omega), c1']
    obtain ⟨S', hS'⟩ : ∃ T' : ST, T' = su T (35 + 3 * i) 3 1 := ⟨_, rfl⟩
    rw [← hS']
    have u : ∀ k, k ≠ 35 + 3 * i → k ≠ 36 + 3 * i → k ≠ 37 + 3 * i → S'.1 k = S.1 k := fun k k1 k2 k3 => by rw [hS', su_r _ _ _ _ k1]; exact t6 k k1 (by omega) (by omega)
    have d1 : S'.1 (35 + 3 * i) 3 = 1 := by rw [hS', su_s]
    have d2 : S'.1 (35 + 3 * i) 2 = S.1 31 2 := by rw [hS', su_o _ _ _ (by omega)]; exact t4
    have d3 : ∀ j, j < 5 → S'.1 (36 + 3 * i) j = S.1 32 j := fun j hj => by rw [hS', su_r _ _ _ _ (by omega), show 36 + 3 * i = 35 + 3 * i + 1 by omega]; exact t2 j hj
    have d4 : ∀ j, j < 9 → S'.1 (37 + 3 * i) j = S.1 33 j := fun j hj => by rw [hS', su_r _ _ _ _ (by omega), show 37 + 3 * i = 35 + 3 * i + 2 by omega]; exact t3 j hj
    have q := hQ.2.1
    have im : ImR i S' M' := by
      refine ⟨by rw [d1, c6], fun _ => ⟨fun j hj => by rw [d3 j hj, c3 j (by omega) hj]; exact q.1 j hj, by rw [d2, c4]; exact hS.1, by rw [c4]; exact hS.2.1, fun j hj => by rw [d4 j hj, c5 j hj]; exact hS.2.2 j hj, ?_, ?_, ?_, ?_, ?_⟩⟩
      · rw [show 20 * i = 20 * i + 0 by omega, c3 0 (by omega) (by omega)]; exact q.2.1
      · rw [c3 1 (by omega) (by omega)]; exact q.2.2.1
      · rw [c3 2 (by omega) (by omega)]; exact q.2.2.2.2.1
      · rw [c3 3 (by omega) (by omega)]; exact q.2.2.2.2.2.1
      · rw [c3 4 (by omega) (by omega)]; exact q.2.2.2.2.2.2
    have io : ∀ t, t < 2 → t ≠ i → ImR t S M → ImR t S' M' := fun t ht hti hm => by
      obtain ⟨m1, m2⟩ := hm
      have w : ∀ x, x < 15 → M'.1 18 (20 * t + x) = M.1 18 (20 * t + x) := fun x hx => c2 _ (by omega)
      refine ⟨by rw [u _ (by omega) (by omega) (by omega), c7 t hti]; exact m1, fun hk => ?_⟩
      rw [c7 t hti] at hk
      obtain ⟨y1, y2, y3, y4, y5, y6, y7, y8, y9⟩ := m2 hk
      refine ⟨fun j hj => by rw [u _ (by omega) (by omega) (by omega), w j (by omega)]; exact y1 j hj, by rw [u _ (by omega) (by omega) (by omega), w 5 (by omega)]; exact y2, by rw [w 5 (by omega)]; exact y3, fun j hj => by rw [u _ (by omega) (by omega) (by omega), show 20 * t + 6 + j = 20 * t + (6 + j) by omega, w (6 + j) (by omega), ← show 20 * t + 6 + j = 20 * t + (6 + j) by omega]; exact y4 j hj, ?_, by rw [w 1 (by omega)]; exact y6, by rw [w 2 (by omega)]; exact y7, by rw [w 3 (by omega)]; exact y8, by rw [w 4 (by omega)]; exact y9⟩
      have := w 0 (by omega)
      rw [show 20 * t + 0 = 20 * t by omega] at this
      rw [this]; exact y5
    have iA : ∀ t, t < 2 → ImR t S M → ImR t S' M' := fun t ht hm => by
      by_cases e : t = i
      · rw [e]; exact im
      · exact io t ht e hm
    exact ⟨1, S', M', rfl, rfl, h, len, hQ.fr2 (fun k k1 k2 => u k (by omega) (by omega) (by omega)) (fun k k1 k2 => u k (by omega) (by omega) (by omega)) (by rw [u 0 (by omega) (by omega) (by omega)]) (hQ.2.2.2.2.2.2.fr (fun k k1 k2 => u k (by omega) (by omega) (by omega))) (fun k k1 k2 => c8 k (by omega) (by omega)) (by rw [c8 0 (by omega) (by omega)]) (q.fr (u 32 (by omega) (by omega) (by omega)) (c8 6 (by omega) (by omega)) (c8 1 (by omega) (by omega))), by rw [u 0 (by omega) (by omega) (by omega), c8 0 (by omega) (by omega)]; exact hF, hT.fr (u 1 (by omega) (by omega) (by omega)) (u 2 (by omega) (by omega) (by omega)) (by rw [c8 0 (by omega) (by omega)]) (c8 7 (by omega) (by omega)), hS.fr (by rw [u 31 (by omega) (by omega) (by omega)]) (u 33 (by omega) (by omega) (by omega)) (by rw [c8 0 (by omega) (by omega)]) (c8 17 (by omega) (by omega)), iA 0 (by omega) hI, iA 1 (by omega) hI2⟩
  · rw [if_neg p, if_pos rfl, imN p, bn1_some, om_none]
    exact ⟨_, _, _, rfl, rfl, hR⟩
