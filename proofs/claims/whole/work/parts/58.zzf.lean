/-- the place that was told stands, in both -/
theorem DR.pl {S M S' M' : ST} (h : DR S M) (a5 : ∀ j, j < 9 → S'.1 5 j = S.1 10 j) (a6 : ∀ j, j < 24 → S'.1 6 j = S.1 11 j) (a7 : ∀ j, j < 24 → S'.1 7 j = S.1 12 j) (a8 : ∀ j, j < 12 → S'.1 8 j = S.1 13 j) (b1 : ∀ j, j < 9 → M'.1 1 j = M.1 8 j) (b2 : ∀ j, j < 24 → M'.1 2 j = M.1 9 j ∧ M'.1 3 j = M.1 10 j) (b4 : ∀ j, j < 12 → M'.1 4 j = M.1 11 j) : PlR S' M' := by
  obtain ⟨⟨h1, h2, h3, h4⟩, ⟨c0, c1, c2, c3, c4, c5, c6, c7, c8⟩, h6, h7, h8⟩ := h
  refine ⟨⟨fun j hj => by rw [a5 j hj, b1 j hj]; exact h1 j hj, fun j hj => by rw [a6 j hj, (b2 j hj).1]; exact h2 j hj, fun j hj => by rw [a7 j hj, (b2 j hj).2]; exact h3 j hj, fun j hj => by rw [a8 j hj, b4 j hj]; exact h4 j hj⟩, by rw [b1 0 (by omega)]; exact c0, by rw [b1 1 (by omega)]; exact c1, by rw [b1 2 (by omega)]; exact c2, by rw [b1 3 (by omega)]; exact c3, by rw [b1 4 (by omega)]; exact c4, by rw [b1 5 (by omega)]; exact c5, by rw [b1 6 (by omega)]; exact c6, by rw [b1 7 (by omega)]; exact c7, by rw [b1 8 (by omega)]; exact c8, fun j hj => by rw [(b2 j hj).1]; exact h6 j hj, fun j hj => by rw [(b2 j hj).2]; exact h7 j hj, fun j hj => by rw [b4 j hj]; exact h8 j hj⟩
/-- the start of a reading, in both -/
theorem DR.start {S M : ST} (a1 : ∀ j, j < 9 → S.1 10 j = (sal 0).getD j 0) (a2 : ∀ j, j < 24 → S.1 11 j = 200) (a3 : ∀ j, j < 24 → S.1 12 j = 0) (a4 : ∀ j, j < 12 → S.1 13 j = 0) (b1 : ∀ j, j < 9 → M.1 8 j = (sal 0).getD j 0) (b2 : ∀ j, j < 24 → M.1 9 j = 200 ∧ M.1 10 j = 0) (b3 : ∀ j, j < 12 → M.1 11 j = 0) : DR S M := by
  obtain ⟨i0, i1, i2, i3, i4, i5, i6, i7, i8⟩ := sal0_in
  refine ⟨⟨fun j hj => by rw [a1 j hj, b1 j hj], fun j hj => by rw [a2 j hj, (b2 j hj).1], fun j hj => by rw [a3 j hj, (b2 j hj).2], fun j hj => by rw [a4 j hj, b3 j hj]⟩, ⟨by rw [b1 0 (by omega)]; exact i0, by rw [b1 1 (by omega)]; exact i1, by rw [b1 2 (by omega)]; exact i2, by rw [b1 3 (by omega)]; exact i3, by rw [b1 4 (by omega)]; exact i4, by rw [b1 5 (by omega)]; exact i5, by rw [b1 6 (by omega)]; exact i6, by rw [b1 7 (by omega)]; exact i7, by rw [b1 8 (by omega)]; exact i8⟩, fun j hj => by rw [(b2 j hj).1]; unfold In; decide, fun j hj => Or.inl (b2 j hj).2, fun j hj => by rw [b3 j hj]; unfold In; decide⟩
theorem E_place {S M : ST} (hR : Rel S M)  : ∃ r : Int32, ∃ S' : ST, ∃ M' : ST, f_X9_place S = some (r, S') ∧ f_X10_place M = some (r, M') ∧ Rel S' M' := by
  obtain ⟨h, len, hQ, hF, hT, hS, hI, hI2⟩ := id hR
  -- the class: cleared, begun
  obtain ⟨S1, a1, a2, a3, a4, a5, a6⟩ := clearC S
  obtain ⟨S2, hS2⟩ : ∃ T : ST, T = su (su (su S1 3 1 0) 3 5 0) 3 6 (-1) := ⟨_, rfl⟩
  have o2 : Off 3 [1, 5, 6] S1 S2 := by rw [hS2]; exact ((Off.rf.su 1 _ (by simp)).su 5 _ (by simp)).su 6 _ (by simp)
  have s21 : S2.1 3 1 = nI 0 := by rw [hS2, su_o _ _ _ (by omega), su_o _ _ _ (by omega), su_s]; rfl
  have s26 : S2.1 3 6 = -1 := by rw [hS2, su_s]
  have f2 : FC S S2 := fun k h1 h2 => (o2.row h1).trans (a6 k h2)
  -- the reference
  obtain ⟨M1, hM1⟩ : ∃ T : ST, T = su (su M 0 9 (-1)) 0 10 0 := ⟨_, rfl⟩
  have p1 : Off 0 [9, 10] M M1 := by rw [hM1]; exact (Off.rf.su 9 _ (by simp)).su 10 _ (by simp)
  obtain ⟨M2, b1, b2, b3, b4, b5, b6, b7, b8⟩ := bareM M1
  have g2 : FMp M M2 := (FMp.off (by intro j hj; simp at hj; omega) p1).tr b7
  have m29 : M2.1 0 9 = -1 := by rw [b8 9 (by omega) (by omega), hM1, su_o _ _ _ (by omega), su_s]
  have m210 : M2.1 0 10 = nI 0 := by rw [b8 10 (by omega) (by omega), hM1, su_s]; rfl
  have D2 : DR S2 M2 := DR.start (by rw [o2.row (k := 10) (by omega)]; exact a2) (by rw [o2.row (k := 11) (by omega)]; exact a3) (by rw [o2.row (k := 12) (by omega)]; exact a4) (by rw [o2.row (k := 13) (by omega)]; exact a5) b2 b3 b4
  have T2 : TxR len S2 M2 := hT.fr (f2 1 (by omega) (by omega)) (f2 2 (by omega) (by omega)) (g2.2 8 (by omega)) (g2.1 7 (by omega) (by omega))
  obtain ⟨r', S3, f, M3, c1, c2, c3, c4, c5⟩ := place_loop 9 0 0 1000 1000 S2 M2 (by decide) (by omega) (by omega) (by omega) T2 (by omega) s21 m210 D2 (by rw [b5]; decide) (by rw [b6]; decide)
  have c1' : f_X4_readPlace S1 = some (r', S3) := by
    unfold f_X4_readPlace f_X4_begin
    rw [nm_x, nm_x, nm_x, ← hS2, bn1_some]
    exact c1
  have c2' : lp (fun _ _ => none) b_X10_place_16 1000 (0 : Int32) M2 = b_X10_place_35 f M3 := c2
  have f3 : FC S S3 := f2.tr c3
  have g3 : FMp M M3 := g2.tr c4
  obtain ⟨S4, hS4⟩ : ∃ T : ST, T = su S3 1 1 0 := ⟨_, rfl⟩
  obtain ⟨S5, hS5⟩ : ∃ T : ST, T = su S4 0 13 (S3.1 3 6) := ⟨_, rfl⟩
  have s43 : S4.1 3 = S3.1 3 := by rw [hS4]; exact su_r _ _ _ _ (by omega)
  have s53 : S5.1 3 = S3.1 3 := by rw [hS5, su_r _ _ _ _ (by omega)]; exact s43
  have s5r : ∀ k, k ≠ 0 → k ≠ 1 → S5.1 k = S3.1 k := fun k h0 h1 => by rw [hS5, su_r _ _ _ _ h0, hS4, su_r _ _ _ _ h1]
  have s50 : ∀ j, j ≠ 13 → S5.1 0 j = S3.1 0 j := fun j hj => by rw [hS5, su_o _ _ _ hj, hS4, su_r _ _ _ _ (by omega)]
  have s513 : S5.1 0 13 = S3.1 3 6 := by rw [hS5, su_s]
  have s51 : S5.1 1 1 = nI 0 := by rw [hS5, su_r _ _ _ _ (by omega), hS4, su_s]; rfl
  obtain ⟨M4, hM4⟩ : ∃ T : ST, T = su M3 0 8 0 := ⟨_, rfl⟩
  have m4r : ∀ k, k ≠ 0 → M4.1 k = M3.1 k := fun k hk => by rw [hM4]; exact su_r _ _ _ _ hk
  have m40 : ∀ j, j ≠ 8 → M4.1 0 j = M3.1 0 j := fun j hj => by rw [hM4]; exact su_o _ _ _ hj
  have m48 : M4.1 0 8 = nI 0 := by rw [hM4, su_s]; rfl
  have hC : f_X9_place S = if r' = 0 then some (-10 - S3.1 3 5, S5) else (bn1 (f_X3_copy S5) fun S8 => bn1 (f_X5_begin S8) fun S9 => bn1 (f_X4_clauses S9) fun r10 => some (r10, S9)) := by
    unfold f_X9_place
    rw [a1, bn1_some, c1', bnd_some, f_X7_clear, nm_x, ← hS4, bn1_some, f_X4_faultAt, bn1_some, s43, nm_x, ← hS5, f_X4_faultNumber, bn1_some, s53]
  have hM : f_X10_place M = b_X10_place_35 f M3 := by
    unfold f_X10_place
    rw [nm_x, nm_x, ← hM1, b1, bn1_some]
    exact c2'
  rw [hC, hM]
  rcases c5 with ⟨rfl, rfl, x1, x2, x3, D3⟩ | ⟨rfl, f0, hFl⟩
  · obtain ⟨S6, d1, d2, d3, d4, d5, d6⟩ := copy3 S5
    obtain ⟨S7, e1, e2, e3, e4, e5, e6, e7⟩ := beginS S6
    obtain ⟨M5, k1, k2, k3, k4, k5, k6, k7, k8, k9, k10⟩ := takePlaceM (M := M4) (by rw [m4r 10 (by omega)]; exact D3.2.2.2.1)
    have s63 : S7.1 3 7 = S3.1 3 7 := by rw [e7 3 (by omega), d6 3 (by omega), s53]
    have hM2 : b_X10_place_35 0 M3 = some (M5.1 0 20, M5) := by
      unfold b_X10_place_35
      rw [nm_x, ← hM4, if_pos (show (0 : Int32) ≤ 0 by decide), k1, bn1_some]
    rw [if_neg w10, d1, bn1_some, e1, bn1_some, f_X4_clauses, bn1_some, hM2, s63, x1]
    have m520 : M5.1 0 20 = M3.1 0 20 := by rw [k10 0 (by omega) (by omega), m40 20 (by omega)]
    rw [m520]
    -- all rows behind
    have u : ∀ k, k ≠ 0 → k ≠ 1 → k ≠ 3 → (k < 5 ∨ 13 < k) → k ≠ 32 → S7.1 k = S.1 k := fun k h0 h1 h3 h5 h32 => by rw [e7 k h32, d6 k (by omega), s5r k h0 h1]; exact f3 k h3 (by omega)
    have u0 : ∀ j, j ≠ 13 → S7.1 0 j = S.1 0 j := fun j hj => by rw [e7 0 (by omega), d6 0 (by omega), s50 j hj, f3 0 (by omega) (by omega)]
    have v : ∀ k, 4 < k → k ≠ 6 → (k < 8 ∨ 11 < k) → M5.1 k = M.1 k := fun k h4 h6 h8 => by rw [k10 k (by omega) h6, m4r k (by omega)]; exact g3.1 k (by omega) h8
    have v0 : ∀ j, j ≠ 8 → (j < 9 ∨ j = 11 ∨ (14 < j ∧ j < 19) ∨ 20 < j) → M5.1 0 j = M.1 0 j := fun j h8 hj => by rw [k10 0 (by omega) (by omega), m40 j h8]; exact g3.2 j hj
    have pl : PlR S7 M5 := D3.pl (fun j hj => by rw [e7 5 (by omega), d2 j hj, s5r 10 (by omega) (by omega)]) (fun j hj => by rw [e7 6 (by omega), d3 j hj, s5r 11 (by omega) (by omega)]) (fun j hj => by rw [e7 7 (by omega), d4 j hj, s5r 12 (by omega) (by omega)]) (fun j hj => by rw [e7 8 (by omega), d5 j hj, s5r 13 (by omega) (by omega)]) (fun j hj => by rw [k2 j hj, m4r 8 (by omega)]) (fun j hj => by rw [(k3 j hj).1, (k3 j hj).2, m4r 9 (by omega), m4r 10 (by omega)]; exact ⟨rfl, rfl⟩) (fun j hj => by rw [k4 j hj, m4r 11 (by omega)])
    have ha : HaR S7 M5 := by
      obtain ⟨pr, -, ⟨pL1, pL2⟩, -, -, pA, pV, -⟩ := id pl
      refine ⟨fun j hj => ?_, by rw [k5]; unfold In; decide, by rw [k6]; unfold In; decide, by rw [k6, show (0 : Int32).toInt = 0 from rfl]; omega, by rw [k7]; unfold In; decide, by rw [k8]; exact pA, by rw [k9]; exact pV⟩
      have hj5 : j = 0 ∨ j = 1 ∨ j = 2 ∨ j = 3 ∨ j = 4 := by omega
      rcases hj5 with rfl | rfl | rfl | rfl | rfl
      · rw [e2, k5]
      · rw [e3, k6]
      · rw [e4, k7]
      · rw [e5, k8, ← pr.1 4 (by omega), e7 5 (by omega)]
      · rw [e6, k9, ← pr.1 5 (by omega), e7 5 (by omega)]
    obtain ⟨-, -, q3, q4, q5, q6, q7⟩ := hQ
    have sw : ∀ i, i < h → SwR S7 M5 i := fun i hi => by
      have := q6 i hi
      unfold SwR at this ⊢
      rw [u (16 + 2 * i) (by omega) (by omega) (by omega) (by omega) (by omega), v 5 (by omega) (by omega) (by omega)]
      exact this
    exact ⟨_, S7, M5, rfl, rfl, h, 0, ⟨pl, ha, q3, by rw [u0 5 (by omega)]; exact q4, by rw [v0 4 (by omega) (by omega)]; exact q5, sw, q7.fr (fun k k1 k2 => u k (by omega) (by omega) (by omega) (by omega) (by omega))⟩, by rw [e7 0 (by omega), d6 0 (by omega), s513, x2, s26, k10 0 (by omega) (by omega), m40 9 (by omega), x3, m29], ⟨by omega, by rw [e7 1 (by omega), d6 1 (by omega)]; exact s51, by rw [k10 0 (by omega) (by omega)]; exact m48, fun j hj => by omega⟩, hS.fr (by rw [u 31 (by omega) (by omega) (by omega) (by omega) (by omega)]) (u 33 (by omega) (by omega) (by omega) (by omega) (by omega)) (v0 42 (by omega) (by omega)) (v 17 (by omega) (by omega) (by omega)), hI.fr (by omega) (fun k k1 k2 => u k (by omega) (by omega) (by omega) (by omega) (by omega)) (v 18 (by omega) (by omega) (by omega)) (v 19 (by omega) (by omega) (by omega)), hI2.fr (by omega) (fun k k1 k2 => u k (by omega) (by omega) (by omega) (by omega) (by omega)) (v 18 (by omega) (by omega) (by omega)) (v 19 (by omega) (by omega) (by omega))⟩
  · have hM2 : b_X10_place_35 f M3 = some (-10 - f, M4) := by
      unfold b_X10_place_35
      rw [nm_x, ← hM4, if_neg hFl.pos.1]
    rw [if_pos rfl, hM2, hFl.2.1]
    have u : ∀ k, k ≠ 0 → k ≠ 1 → k ≠ 3 → (k < 10 ∨ 13 < k) → S5.1 k = S.1 k := fun k h0 h1 h3 h5 => by rw [s5r k h0 h1]; exact f3 k h3 h5
    have u0 : ∀ j, j ≠ 13 → S5.1 0 j = S.1 0 j := fun j hj => by rw [s50 j hj, f3 0 (by omega) (by omega)]
    have v : ∀ k, k ≠ 0 → (k < 8 ∨ 11 < k) → M4.1 k = M.1 k := fun k h0 h8 => by rw [m4r k h0]; exact g3.1 k h0 h8
    have v0 : ∀ j, j ≠ 8 → (j < 9 ∨ j = 11 ∨ (14 < j ∧ j < 19) ∨ 20 < j) → M4.1 0 j = M.1 0 j := fun j h8 hj => by rw [m40 j h8]; exact g3.2 j hj
    exact ⟨_, S5, M4, rfl, rfl, h, 0, hQ.fr (fun k k1 k2 => u k (by omega) (by omega) (by omega) (by omega)) (fun k k1 k2 => u k (by omega) (by omega) (by omega) (by omega)) (u0 5 (by omega)) (hQ.2.2.2.2.2.2.fr (fun k k1 k2 => u k (by omega) (by omega) (by omega) (by omega))) (fun k k1 k2 => v k (by omega) (by omega)) (v0 4 (by omega) (by omega)), by rw [s513, m40 9 (by omega)]; exact hFl.2.2, ⟨by omega, s51, m48, fun j hj => by omega⟩, hS.fr (by rw [u 31 (by omega) (by omega) (by omega) (by omega)]) (u 33 (by omega) (by omega) (by omega) (by omega)) (v0 42 (by omega) (by omega)) (v 17 (by omega) (by omega)), hI.fr (by omega) (fun k k1 k2 => u k (by omega) (by omega) (by omega) (by omega)) (v 18 (by omega) (by omega)) (v 19 (by omega) (by omega)), hI2.fr (by omega) (fun k k1 k2 => u k (by omega) (by omega) (by omega) (by omega)) (v 18 (by omega) (by omega)) (v 19 (by omega) (by omega))⟩
