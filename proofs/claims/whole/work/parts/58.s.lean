theorem JR.fr {B L A V W G R lo : Int32} {mo s : Nat} {e : Int32} {S M S' M' : ST} (hJ : JR B L A V W G R lo mo s e S M) (a : ∀ k, k < 51 → S'.1 k = S.1 k) (b : ∀ j, j < 11 → S'.1 51 j = S.1 51 j) (c : ∀ k, 0 < k → k < 16 → M'.1 k = M.1 k) (d : ∀ j, j < 33 → M'.1 0 j = M.1 0 j) : JR B L A V W G R lo mo s e S' M' := by
  obtain ⟨⟨f1, f2, f3, f4, f5, f6, f7, f8, f9, f10, f11, f12, f13, f14, f15, f16, f17⟩, hS, h9, h10, hC⟩ := hJ
  refine ⟨⟨f1.fr (fun k k1 k2 => a k (by omega)), f2.fr (fun k k1 k2 => a k (by omega)) (fun k k1 k2 => c k (by omega) (by omega)), f3, f4, f5, f6, ?_, f8, ?_, ?_, ?_, ?_, ?_, ?_, ?_, ?_, ?_⟩, ?_, ?_, ?_, ?_⟩
  · rw [c 2 (by omega) (by omega)]; exact f7
  · rw [c 6 (by omega) (by omega)]; exact f9
  · rw [c 4 (by omega) (by omega)]; exact f10
  · rw [d 21 (by omega)]; exact f11
  · rw [c 1 (by omega) (by omega)]; exact f12
  · rw [b 3 (by omega)]; exact f13
  · rw [b 5 (by omega)]; exact f14
  · rw [d 25 (by omega)]; exact f15
  · rw [b 8 (by omega), d 28 (by omega)]; exact f16
  · rw [c 12 (by omega) (by omega), c 13 (by omega) (by omega)]; exact f17
  · rw [d 23 (by omega), c 1 (by omega) (by omega), c 3 (by omega) (by omega)]; exact hS
  · rw [b 9 (by omega)]; exact h9
  · rw [b 10 (by omega)]; exact h10
  · intro t ht
    exact (hC t ht).fr (fun k k1 k2 => by rw [c k (by omega) (by omega)])
theorem Off.lo51 {S S' : ST} (h : Off 51 [11, 12, 13, 14, 15, 16] S S') : (∀ k, k < 51 → S'.1 k = S.1 k) ∧ ∀ j, j < 11 → S'.1 51 j = S.1 51 j :=
  ⟨fun k hk => h.row (by omega), fun j hj => h.at (by simp; omega)⟩
theorem Off.lo0 {M M' : ST} (h : Off 0 [33, 34, 35, 36, 37, 38] M M') : (∀ k, 0 < k → k < 16 → M'.1 k = M.1 k) ∧ ∀ j, j < 33 → M'.1 0 j = M.1 0 j :=
  ⟨fun k h0 hk => h.row (by omega), fun j hj => h.at (by simp; omega)⟩
/-- a TIME's end, good or not, and where; behind it the jump stands as before -/
theorem good2 {B L A V W G R lo : Int32} {mo s : Nat} {e : Int32} {S M : ST} (hJ : JR B L A V W G R lo mo s e S M) {t q : Nat} (h1 : 1 ≤ t) (h2 : t ≤ 200) (hq : q ≤ 20) (h7 : S.1 51 7 = nI q) (h27 : M.1 0 27 = nI q) :
    ∃ S' M' g, f_X0_endsGood (nI t + S.1 51 7) S = some (g, S') ∧ f_X10_isGood (nI t) M = some (g, M') ∧ (g = 0 ∨ g = 1) ∧ Off 51 [11, 12, 13, 14, 15, 16] S S' ∧ Off 0 [33, 34, 35, 36, 37, 38] M M' ∧ JR B L A V W G R lo mo s e S' M' ∧ (g = 1 → S'.1 51 12 = M'.1 0 34 ∧ S'.1 51 15 = M'.1 0 37) := by
  have et : nI t + nI q = nI (t + q) := by
    refine i_ext ?_
    rw [ti_add (by rw [nI_i (by omega), nI_i (by omega)]; omega) (by rw [nI_i (by omega), nI_i (by omega)]; omega), nI_i (by omega), nI_i (by omega), nI_i (by omega)]
    omega
  obtain ⟨S', M', g, a1, a2, a3, a4, a5, a6⟩ := good_ok hJ hJ.1.2.2.1.1 hJ.1.2.2.1.2.1 (τ := t + q) (by omega) (by omega) (nI t) (by rw [h27, et])
  refine ⟨S', M', g, by rw [h7, et]; exact a1, a2, a3, a4, a5, hJ.fr a4.lo51.1 a4.lo51.2 a5.lo0.1 a5.lo0.2, a6⟩
/-- whether there is a good TIME, in both -/
theorem hasgood_loop {B L A V W G R lo : Int32} {mo s q : Nat} {e : Int32} (hq : q ≤ 20) : ∀ (r t n1 n2 : Nat) (S M : ST), 1 ≤ t → t + r = 201 → r < n1 → r < n2 → JR B L A V W G R lo mo s e S M → S.1 51 7 = nI q → M.1 0 27 = nI q →
    ∃ S' M' g, lp (fun _ _ => none) b_X0_hasGoodTime_2 n1 (nI t) S = some (g, S') ∧ lp (fun _ _ _ => none) b_X10_hasGood_4 n2 0 (nI t) M = some (g, M') ∧ (g = 0 ∨ g = 1) ∧ Off 51 [11, 12, 13, 14, 15, 16] S S' ∧ Off 0 [33, 34, 35, 36, 37, 38] M M' := by
  intro r
  induction r with
  | zero =>
    intro t n1 n2 S M h1 ht hn1 hn2 hJ h7 h27
    obtain ⟨n1, rfl⟩ : ∃ k, n1 = k + 1 := ⟨n1 - 1, by omega⟩
    obtain ⟨n2, rfl⟩ : ∃ k, n2 = k + 1 := ⟨n2 - 1, by omega⟩
    have k : (200 : Int32) < nI t := nI_lt (a := 200) (by omega) (by omega)
    refine ⟨S, M, 0, ?_, ?_, Or.inl rfl, Off.rf, Off.rf⟩
    · rw [lp_s]; rw [b_X0_hasGoodTime_2]; rw [if_pos k]
    · rw [lp_s]; rw [b_X10_hasGood_4]; rw [if_pos k]; rfl
  | succ r ih =>
    intro t n1 n2 S M h1 ht hn1 hn2 hJ h7 h27
    obtain ⟨n1, rfl⟩ : ∃ k, n1 = k + 1 := ⟨n1 - 1, by omega⟩
    obtain ⟨n2, rfl⟩ : ∃ k, n2 = k + 1 := ⟨n2 - 1, by omega⟩
    have k : ¬ (200 : Int32) < nI t := nI_nlt (a := 200) (by omega) (by omega)
    obtain ⟨S1, M1, g, a1, a2, a3, a4, a5, a6, -⟩ := good2 hJ h1 (by omega) hq h7 h27
    have c1 : lp (fun _ _ => none) b_X0_hasGoodTime_2 (n1 + 1) (nI t) S = if g = 0 then lp (fun _ _ => none) b_X0_hasGoodTime_2 n1 (nI (t + 1)) S1 else some (1, S1) := by
      rw [lp_s]; rw [b_X0_hasGoodTime_2]; rw [if_neg k, a1, bnd_some, nm_x, nI_1]
    have c2 : lp (fun _ _ _ => none) b_X10_hasGood_4 (n2 + 1) 0 (nI t) M = lp (fun _ _ _ => none) b_X10_hasGood_4 n2 g (nI (t + 1)) M1 := by
      rw [lp_s]; rw [b_X10_hasGood_4]; rw [if_neg k, if_pos rfl, a2, bnd_some, nm_x, nI_1]
    rw [c1, c2]
    rcases a3 with rfl | rfl
    · rw [if_pos rfl]
      obtain ⟨S2, M2, g, b1, b2, b3, b4, b5⟩ := ih (t + 1) n1 n2 S1 M1 (by omega) (by omega) (by omega) (by omega) a6 (by rw [a4.at (by simp)]; exact h7) (by rw [a5.at (by simp)]; exact h27)
      exact ⟨S2, M2, g, b1, b2, b3, a4.tr b4, a5.tr b5⟩
    · refine ⟨S1, M1, 1, by rw [if_neg (by decide)], ?_, Or.inr rfl, a4, a5⟩
      obtain ⟨n2, rfl⟩ : ∃ k, n2 = k + 1 := ⟨n2 - 1, by omega⟩
      rw [lp_s]; rw [b_X10_hasGood_4]
      by_cases z : (200 : Int32) < nI (t + 1)
      · rw [if_pos z]; rfl
      · rw [if_neg z, if_neg (by decide)]; rfl
