/-- one of an afternoon: the end is counted -/
theorem Rel.count {S M : ST} (hR : Rel S M) {S' M' : ST} {x e : Int32} (hx : 0 ≤ x.toInt) (he : 0 ≤ e.toInt ∧ e.toInt ≤ 8) (a : ∀ k, k < 41 → k ≠ 31 → S'.1 k = S.1 k) (a2 : S'.1 31 2 = x) (b : ∀ k, (0 < k ∧ k < 8) ∨ 15 < k → M'.1 k = M.1 k) (b2 : ∀ j, (j < 10 ∨ 42 < j) → M'.1 0 j = M.1 0 j) (b3 : M'.1 0 42 = x) (c : PC S') :
    ∃ S2 M2, f_X5_count e S' = some S2 ∧ M2 = su M' 17 e.toNatClampNeg (M'.1 17 e.toNatClampNeg + 1) ∧ ib e 9 = true ∧ Rel S2 M2 := by
  obtain ⟨h, len, hQ, hF, hT, hS, hI, hI2⟩ := hR
  obtain ⟨j, -, hj, rfl⟩ := n_in (a := 0) (b := 8) he.1 he.2
  have ej : (nI j).toNatClampNeg = j := nI_n (by omega)
  refine ⟨su S' 33 j (S'.1 33 j + 1), _, ?_, rfl, ib_nI (by omega) (by omega), ?_⟩
  · unfold f_X5_count
    rw [at_in 33 S' (show j < lnC 33 by show j < 9; omega), bn1_some, put_in 33 _ S' (show j < lnC 33 by show j < 9; omega), bn1_some]
  rw [ej]
  have e33 : S'.1 33 j = M'.1 17 j := by rw [a 33 (by omega) (by omega), b 17 (by omega)]; exact hS.2.2 j (by omega)
  have u : ∀ k, k ≠ 33 → (su S' 33 j (S'.1 33 j + 1)).1 k = S'.1 k := fun k hk => su_r _ _ _ _ hk
  have v : ∀ k, k ≠ 17 → (su M' 17 j (M'.1 17 j + 1)).1 k = M'.1 k := fun k hk => su_r _ _ _ _ hk
  have w : ∀ t, t < 9 → (su S' 33 j (S'.1 33 j + 1)).1 33 t = (su M' 17 j (M'.1 17 j + 1)).1 17 t := fun t ht => by
    by_cases e : t = j
    · rw [e, su_s, su_s, e33]
    · rw [su_o _ _ _ e, su_o _ _ _ e, a 33 (by omega) (by omega), b 17 (by omega)]; exact hS.2.2 t ht
  generalize su S' 33 j (S'.1 33 j + 1) = S2 at *
  generalize su M' 17 j (M'.1 17 j + 1) = M2 at *
  have aa : ∀ k, k < 41 → k ≠ 31 → k ≠ 33 → S2.1 k = S.1 k := fun k h1 h2 h3 => (u k h3).trans (a k h1 h2)
  have bb : ∀ k, (0 < k ∧ k < 8) ∨ 17 < k → M2.1 k = M.1 k := fun k hk => (v k (by omega)).trans (b k (by omega))
  have bj : ∀ j, (j < 10 ∨ 42 < j) → M2.1 0 j = M.1 0 j := fun j hj => by rw [v 0 (by omega)]; exact b2 j hj
  exact ⟨h, len, hQ.fr2 (fun k k1 k2 => aa k (by omega) (by omega) (by omega)) (fun k k1 k2 => aa k (by omega) (by omega) (by omega)) (by rw [aa 0 (by omega) (by omega) (by omega)]) (c.fr (fun k k1 k2 => u k (by omega))) (fun k k1 k2 => bb k (by omega)) (bj 4 (by omega)) (hQ.2.1.fr (aa 32 (by omega) (by omega) (by omega)) (bb 6 (by omega)) (bb 1 (by omega))), by rw [aa 0 (by omega) (by omega) (by omega), bj 9 (by omega)]; exact hF, hT.fr (aa 1 (by omega) (by omega) (by omega)) (aa 2 (by omega) (by omega) (by omega)) (bj 8 (by omega)) (bb 7 (by omega)), ⟨by rw [u 31 (by omega), a2, v 0 (by omega), b3], by rw [v 0 (by omega), b3]; exact hx, w⟩, hI.fr (by omega) (fun k k1 k2 => aa k (by omega) (by omega) (by omega)) (bb 18 (by omega)) (bb 19 (by omega)), hI2.fr (by omega) (fun k k1 k2 => aa k (by omega) (by omega) (by omega)) (bb 18 (by omega)) (bb 19 (by omega))⟩
theorem noon1 {h : Nat} {S M : ST} (hR : Rel S M) (h1 : 1 ≤ h) (h8 : h ≤ 8) (hS : S.1 0 5 = nI h) {n k : Nat} (hn : n ≤ 40) (hk : k < n) (g : Nat) :
    ∃ S' M' g', (∀ K, b_X9_afternoon_28 K (nI n) (nI g) (nI k) S = K (nI n) (nI g') (nI (k + 1)) S') ∧ (∀ K, b_X10_afternoon_29 K (nI n) (nI g) (nI k) M = K (nI n) (nI g') (nI (k + 1)) M') ∧ Rel S' M' ∧ S'.1 0 5 = nI h := by
  obtain ⟨h', len, hQ, hF, hT, hSd, hI, hI2⟩ := id hR
  have eh : h' = h := by
    have e := hQ.2.2.2.1
    rw [hS] at e
    exact ((nI_eq (by omega) (by have := hQ.2.2.1; omega)).mp e).symm
  subst eh
  have hM := hQ.2.2.2.2.1
  have z : ¬ nI n ≤ nI k := nI_ge hk (by omega)
  have s0 := hSd.2.1
  obtain ⟨x1, hx1⟩ : ∃ x, x = nx (M.1 0 42) := ⟨_, rfl⟩
  have b1 : 0 ≤ x1.toInt := by rw [hx1]; exact nx_b s0
  obtain ⟨x2, hx2⟩ : ∃ x, x = nx x1 := ⟨_, rfl⟩
  have b2 : 0 ≤ x2.toInt := by rw [hx2]; exact nx_b b1
  obtain ⟨d, hd, ed⟩ := draw_ok b1 h1 (by omega)
  obtain ⟨t, ht, et⟩ := draw_ok b2 (n := 60) (by omega) (by omega)
  -- draws
  obtain ⟨S5, hS5⟩ : ∃ T : ST, T = su S 31 2 x1 := ⟨_, rfl⟩
  obtain ⟨M5, hM5⟩ : ∃ T : ST, T = su M 0 42 x1 := ⟨_, rfl⟩
  obtain ⟨S14, hS14⟩ : ∃ T : ST, T = su S5 31 2 x2 := ⟨_, rfl⟩
  have c1 : f_X5_draw (nI h') S = some (nI d, S5) := by rw [drawC h1 (by omega), hSd.1, ← hx1, ed, ← hS5]
  have c2 : f_X5_draw (60 : Int32) S5 = some (nI t, S14) := by
    have e := drawC (n := 60) (by omega) (by omega) S5
    have e2 : S5.1 31 2 = x1 := by rw [hS5, su_s]
    rw [e2, ← hx2, et, ← hS14] at e
    exact e
  have m1 : f_X10_draw (nI h') M = some (nI d, M5) := by rw [drawM h1 (by omega), ← hx1, ed, ← hM5]
  have R5 : Rel S5 M5 := by rw [hS5, hM5]; exact hR.seed b1
  have s5 : ∀ k, k ≠ 31 → S5.1 k = S.1 k := fun k hk => by rw [hS5]; exact su_r _ _ _ _ hk
  have s14 : ∀ k, k ≠ 31 → S14.1 k = S.1 k := fun k hk => by rw [hS14, su_r _ _ _ _ hk]; exact s5 k hk
  have m5 : ∀ k, k ≠ 0 → M5.1 k = M.1 k := fun k hk => by rw [hM5]; exact su_r _ _ _ _ hk
  have m50 : ∀ j, j ≠ 42 → M5.1 0 j = M.1 0 j := fun j hj => by rw [hM5]; exact su_o _ _ _ hj
  have hQ5 : QR h' S14 M5 := hQ.fr2 (fun k k1 k2 => s14 k (by omega)) (fun k k1 k2 => s14 k (by omega)) (by rw [s14 0 (by omega)]) (hQ.2.2.2.2.2.2.fr (fun k k1 k2 => s14 k (by omega))) (fun k k1 k2 => m5 k (by omega)) (m50 4 (by omega)) (hQ.2.1.fr (s14 32 (by omega)) (m5 6 (by omega)) (m5 1 (by omega)))
  have hQ5b : QR h' S5 M5 := hQ.fr2 (fun k k1 k2 => s5 k (by omega)) (fun k k1 k2 => s5 k (by omega)) (by rw [s5 0 (by omega)]) (hQ.2.2.2.2.2.2.fr (fun k k1 k2 => s5 k (by omega))) (fun k k1 k2 => m5 k (by omega)) (m50 4 (by omega)) (hQ.2.1.fr (s5 32 (by omega)) (m5 6 (by omega)) (m5 1 (by omega)))
  obtain ⟨S17, M7, s, e, mo, q, r1, r2, r3, r4, r5, r6, r7, r8, r9, r10⟩ := ready3 hQ5 hd
  have m7 : M7.1 0 42 = x1 := by rw [r9.2 42 (by omega), hM5, su_s]
  obtain ⟨M8, hM8⟩ : ∃ T : ST, T = su M7 0 42 x2 := ⟨_, rfl⟩
  have m2 : f_X10_draw (60 : Int32) M7 = some (nI t, M8) := by
    have e := drawM (n := 60) (by omega) (by omega) M7
    rw [m7, ← hx2, et, ← hM8] at e
    exact e
  have o8 : Off 0 [42] M7 M8 := by rw [hM8]; exact Off.rf.su 42 _ (by simp)
  have J8 : JR _ _ _ _ _ _ _ _ mo s e S17 M8 := r3.fr (fun _ _ => rfl) (fun _ _ => rfl) (fun k k0 k1 => o8.row (by omega)) (fun j hj => o8.at (by simp; omega))
  have et1 : (1 : Int32) + nI t = nI (t + 1) := by rw [Int32.add_comm]; exact nI_1 t
  obtain ⟨S18, M10, g1, g2, ⟨o1, o2, l1, -⟩, -, he⟩ := letgo_ok J8 J8.1.2.2.1.1 J8.1.2.2.1.2.1 trivial (τ := t + 1 + q) (by omega) (by omega) (nI (t + 1)) (by rw [o8.at (by simp), r7, nI_add])
  obtain ⟨S2, M2, k1, k2, k3, k4⟩ := hR.count (S' := S18) (M' := M10) b2 he (fun k h1 h2 => by rw [o1.row (by omega), r8 k (by omega)]; exact s14 k h2) (by rw [o1.row (by omega), r8 31 (by omega), hS14, su_s]) (fun k hk => by rw [o2.row (by omega), o8.row (by omega), r9.1 k hk]; exact m5 k (by omega)) (fun j hj => by rw [o2.at (by simp; omega), o8.at (by simp; omega), r9.2 j (by omega)]; exact m50 j (by omega)) (by rw [o2.at (by simp), hM8, su_s]) (r10.fr (fun k k1 k2 => o1.row (by omega)))
  have n05 : S2.1 0 5 = nI h' := by
    unfold f_X5_count at k1
    obtain ⟨a, a1, a2⟩ := bn1_s k1
    obtain ⟨T, a3, a4⟩ := bn1_s a2
    have e5 : T = S2 := Option.some.inj a4
    obtain ⟨j, -, hj, ej⟩ := n_in (a := 0) (b := 8) he.1 he.2
    rw [ej, put_in 33 _ S18 (show j < lnC 33 by show j < 9; omega)] at a3
    rw [← e5, ← Option.some.inj a3, su_r _ _ _ _ (by omega), o1.row (by omega), r8 0 (by omega), s14 0 (by omega)]
    exact hS
  have e18 : ∀ c : Int32, S18.1 51 11 = c → S2.1 51 11 = c := fun c hc => by
    unfold f_X5_count at k1
    obtain ⟨a, a1, a2⟩ := bn1_s k1
    obtain ⟨T, a3, a4⟩ := bn1_s a2
    have e5 : T = S2 := Option.some.inj a4
    obtain ⟨j, -, hj, ej⟩ := n_in (a := 0) (b := 8) he.1 he.2
    rw [ej, put_in 33 _ S18 (show j < lnC 33 by show j < 9; omega)] at a3
    rw [← e5, ← Option.some.inj a3, su_r _ _ _ _ (by omega)]
    exact hc
  have g0 : nI g + 0 = nI g := Int32.add_zero _
  have hM' : f_X10_isGood (nI (t + 1)) M8 = some (if M10.1 0 33 = 1 ∨ M10.1 0 33 = 2 then 1 else 0, M10) := by
    unfold f_X10_isGood
    rw [g2, bn1_some]
    by_cases a : M10.1 0 33 = 1
    · rw [if_pos a, if_pos (Or.inl a)]
    · rw [if_neg a]
      by_cases b : M10.1 0 33 = 2
      · rw [if_pos b, if_pos (Or.inr b)]
      · rw [if_neg b, if_neg (fun h => h.elim a b)]
  have p67 : ∀ (K : Int32 → Int32 → Int32 → ST → Option (Int32 × ST)) (x : Int32), b_X10_afternoon_67 K (nI n) (nI k) x (nI g) M10 = K (nI n) (nI g + x) (nI (k + 1)) M2 := fun K x => by
    unfold b_X10_afternoon_67
    rw [nm_x, chk_t _ k3, chk_t _ k3, nm_x, nm_x, nI_1, ← k2]
  have hC : ∀ K, b_X9_afternoon_28 K (nI n) (nI g) (nI k) S = if (if M10.1 0 33 = 1 ∨ M10.1 0 33 = 2 then (1 : Int32) else 0) = 0 then K (nI n) (nI g) (nI (k + 1)) S2 else K (nI n) (nI (g + 1)) (nI (k + 1)) S2 := by
    intro K
    rw [b_X9_afternoon_28]; rw [if_neg z, hS, c1, bnd_some, swI hQ5b hd, bn1_some, om_some, c2, bnd_some, nm_x, et1, r1, bn1_some, r6, nI_add, g1, bn1_some, l1, k1, bn1_some, e18 _ l1, isG, bn1_some, nm_x, nm_x, nm_x, nm_x, nI_1, nI_1, g0]
  have hM2 : ∀ K, b_X10_afternoon_29 K (nI n) (nI g) (nI k) M = if (if M10.1 0 33 = 1 ∨ M10.1 0 33 = 2 then (1 : Int32) else 0) = 0 then K (nI n) (nI g) (nI (k + 1)) M2 else K (nI n) (nI (g + 1)) (nI (k + 1)) M2 := by
    intro K
    rw [b_X10_afternoon_29]; rw [if_neg z, hM, m1, bnd_some, r2, bn1_some, m2, bnd_some, et1, hM', bnd_some, p67, p67, g0, nI_1]
  by_cases w : (if M10.1 0 33 = 1 ∨ M10.1 0 33 = 2 then (1 : Int32) else 0) = 0
  · exact ⟨S2, M2, g, fun K => by rw [hC, if_pos w], fun K => by rw [hM2, if_pos w], k4, n05⟩
  · exact ⟨S2, M2, g + 1, fun K => by rw [hC, if_neg w], fun K => by rw [hM2, if_neg w], k4, n05⟩
theorem noon_loop {h n : Nat} (h1 : 1 ≤ h) (h8 : h ≤ 8) (hn : n ≤ 40) : ∀ (r k g n1 n2 : Nat) (S M : ST), k + r = n → r < n1 → r < n2 → Rel S M → S.1 0 5 = nI h → ∃ x S' M', lp (fun _ _ _ _ => none) b_X9_afternoon_28 n1 (nI n) (nI g) (nI k) S = some (x, S') ∧ lp (fun _ _ _ _ => none) b_X10_afternoon_29 n2 (nI n) (nI g) (nI k) M = some (x, M') ∧ Rel S' M' := by
  intro r
  induction r with
  | zero =>
    intro k g n1 n2 S M hk hn1 hn2 hR hS
    obtain ⟨n1, rfl⟩ : ∃ k, n1 = k + 1 := ⟨n1 - 1, by omega⟩
    obtain ⟨n2, rfl⟩ : ∃ k, n2 = k + 1 := ⟨n2 - 1, by omega⟩
    have z : nI n ≤ nI k := nI_le (by omega) (by omega)
    refine ⟨nI g, S, M, ?_, ?_, hR⟩
    · rw [lp_s]; rw [b_X9_afternoon_28]; rw [if_pos z]
    · rw [lp_s]; rw [b_X10_afternoon_29]; rw [if_pos z]
  | succ r ih =>
    intro k g n1 n2 S M hk hn1 hn2 hR hS
    obtain ⟨n1, rfl⟩ : ∃ k, n1 = k + 1 := ⟨n1 - 1, by omega⟩
    obtain ⟨n2, rfl⟩ : ∃ k, n2 = k + 1 := ⟨n2 - 1, by omega⟩
    obtain ⟨S1, M1, g', a1, a2, a3, a4⟩ := noon1 hR h1 h8 hS hn (k := k) (by omega) g
    obtain ⟨x, S2, M2, b1, b2, b3⟩ := ih (k + 1) g' n1 n2 S1 M1 (by omega) (by omega) (by omega) a3 a4
    exact ⟨x, S2, M2, by rw [lp_s, a1]; exact b1, by rw [lp_s, a2]; exact b2, b3⟩
theorem E_afternoon {S M : ST} (hR : Rel S M) (a1 : Int32) : ∃ r : Int32, ∃ S' : ST, ∃ M' : ST, f_X9_afternoon a1 S = some (r, S') ∧ f_X10_afternoon a1 M = some (r, M') ∧ Rel S' M' := by
  obtain ⟨h, len, hQ, -⟩ := id hR
  have h8 := hQ.2.2.1
  unfold f_X9_afternoon f_X10_afternoon
  rw [wiM a1 (p := 1) (q := 40) rfl rfl, bn1_some]
  by_cases p : 1 ≤ a1.toInt ∧ a1.toInt ≤ 40
  · obtain ⟨n, hn1, hn, rfl⟩ := n_in (a := 1) (b := 40) p.1 p.2
    rw [if_pos p, if_neg w10, if_neg (show ¬ nI n < (1 : Int32) from nI_nlt (b := 1) (by omega) (by omega)), if_pos (le_c (n := 40) rfl p.2), hQ.2.2.2.1, hQ.2.2.2.2.1]
    by_cases z : nI h = 0
    · rw [if_pos z, if_pos z]; exact ⟨_, _, _, rfl, rfl, hR⟩
    · rw [if_neg z, if_neg z]
      have h1 : 1 ≤ h := by
        rcases Nat.eq_zero_or_pos h with q | q
        · exact absurd (by rw [q]; rfl) z
        · exact q
      obtain ⟨x, S2, M2, b1, b2, b3⟩ := noon_loop h1 h8 hn n 0 0 1000 1000 S M (by omega) (by omega) (by omega) hR hQ.2.2.2.1
      exact ⟨x, S2, M2, b1, b2, b3⟩
  · rw [if_neg p, if_pos rfl]
    by_cases z : a1 < 1
    · rw [if_pos z]; exact ⟨_, _, _, rfl, rfl, hR⟩
    · rw [if_neg z]
      rw [i_lt, show (1 : Int32).toInt = 1 from rfl] at z
      rw [if_neg (nle_c (n := 40) rfl (by omega))]
      exact ⟨_, _, _, rfl, rfl, hR⟩
