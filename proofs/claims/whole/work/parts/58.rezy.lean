theorem kd_eq2 {sand : Int32} {f g : Nat → Int32} (h : ∀ j, j < 24 → f j = g j) {n : Nat} (hn : n < 24) : kd sand f (nI n) = kd sand g (nI n) := by
  unfold kd
  rw [nI_n (by omega), h n hn]
theorem WYt_eq {f g : Nat → Int32} (h : ∀ j, j < 24 → f j = g j) (st lo R tk sand B L A V W G : Int32) (t : Nat) (l1 : 50 ≤ L.toInt) (l2 : L.toInt ≤ 900) : WYt st lo R tk sand f B L A V W G t = WYt st lo R tk sand g B L A V W G t := by
  have hb := hx_b (L := L) (trs L A V t).1 l1 l2
  obtain ⟨n, hn, en⟩ := cl_r (hxs L (trs L A V t).1) (by omega)
  unfold WYt wy
  rw [en, kd_eq2 h hn]
theorem FirstStop.cg {f g : Nat → Int32} {s : Nat} {e : Int32} (h : FirstStop f s e) (q : ∀ t, f t = g t) : FirstStop g s e := by
  have : f = g := funext q
  rw [← this]; exact h
/-- what ready leaves in the reference's own cells -/
def MFr (M M' : ST) : Prop := ∀ k j, (k ≠ 0 ∨ j < 21 ∨ 28 < j) → (k < 12 ∨ 15 < k) → M'.1 k j = M.1 k j
theorem useHandM {y : Nat} (M : ST) (hy : y < 900) (e : M.1 6 2 = nI y) : ∃ M', f_X10_useHand M = some M' ∧ Off 0 [21, 22, 23] M M' ∧ M'.1 0 21 = M.1 1 1 - M.1 6 1 ∧ M'.1 0 22 = M.1 6 4 ∧ M'.1 0 23 = stg (M.1 1 2) (M.1 1 3) y := by
  have m1 : (1 : Int32).toNatClampNeg = 1 := rfl
  have m4 : (4 : Int32).toNatClampNeg = 4 := rfl
  have m2 : (2 : Int32).toNatClampNeg = 2 := rfl
  obtain ⟨T, hT⟩ : ∃ T : ST, T = su (su M 0 21 (M.1 1 1 - M.1 6 1)) 0 22 (M.1 6 4) := ⟨_, rfl⟩
  have OT : Off 0 [21, 22, 23] M T := by rw [hT]; exact (Off.rf.su 21 _ (by simp)).su 22 _ (by simp)
  have e6 : (su M 0 21 (M.1 1 1 - M.1 6 1)).1 6 = M.1 6 := su_r _ _ _ _ (by omega)
  refine ⟨su T 0 23 (stg (M.1 1 2) (M.1 1 3) y), ?_, OT.su 23 _ (by simp), by simp [su_1, hT], by simp [su_1, hT], by simp [su_1, hT]⟩
  unfold f_X10_useHand
  rw [m1, m4, m2, nm_x, nm_x, e6, ← hT, OT.row (k := 6) (by omega), e, stM T hy, bn1_some, nm_x, OT.row (k := 1) (by omega)]
theorem ready_ok {h i : Nat} {S M : ST} (hQ : QR h S M) (hi : i < h) :
    ∃ S' M' s e mo y, f_X9_ready (15 + 2 * i) S = some S' ∧ f_X10_ready (nI i) M = some M' ∧ mo < 12 ∧ M.1 6 0 = nI mo ∧ y ≤ 40 ∧ M.1 6 2 = nI y ∧ JR (M.1 1 0) (M.1 1 1 - M.1 6 1) (M.1 6 3) (M.1 6 4) (M.1 5 (5 * i)) (M.1 5 (5 * i + 2)) (M.1 5 (5 * i + 1)) (M.1 4 mo) mo s e S' M' ∧ S'.1 51 7 = M.1 5 (5 * i + 3) ∧ M'.1 0 27 = M.1 5 (5 * i + 3) ∧ M'.1 0 23 = stg (M.1 1 2) (M.1 1 3) y ∧ S'.1 51 2 = M'.1 0 23 ∧ S'.1 51 4 = M.1 5 (5 * i) ∧ S'.1 51 6 = M.1 5 (5 * i + 2) ∧ Fr 42 51 S S' ∧ MFr M M' := by
  obtain ⟨hP, hH, h8, hn1, hn2, hSw, hPC⟩ := hQ
  obtain ⟨p0, ⟨pB1, pB2⟩, ⟨pL1, pL2⟩, pS, pl, pA, pV, pT, pN, ps, pd, pst, plo⟩ := hP
  obtain ⟨q0, qm, ⟨qk1, qk2⟩, qk, qy, ⟨qA1, qA2⟩, ⟨qV1, qV2⟩⟩ := hH
  obtain ⟨s0, ⟨sW1, sW2⟩, ⟨sR1, sR2⟩, ⟨sG1, sG2⟩, sq, stt⟩ := hSw i hi
  obtain ⟨mo, hmo, emo⟩ := In.n (b := 11) qm
  obtain ⟨y, hy, ey⟩ := In.n (b := 40) qy
  obtain ⟨pr1, pr2, pr3, pr4⟩ := id p0
  have eL : (M.1 1 1 - M.1 6 1).toInt = (M.1 1 1).toInt - (M.1 6 1).toInt := ti_sub (by omega) (by omega)
  have l1 : 50 ≤ (M.1 1 1 - M.1 6 1).toInt := by omega
  have l2 : (M.1 1 1 - M.1 6 1).toInt ≤ 900 := by omega
  have hR : Rg (M.1 1 1 - M.1 6 1) (M.1 6 3) (M.1 6 4) := ⟨l1, l2, qA1, qA2, qV1, qV2⟩
  have hG : ¬ M.1 5 (5 * i + 2) = 0 := fun e => by rw [e] at sG1; exact absurd sG1 (by decide)
  -- the class
  obtain ⟨S1, a1, a2, a3⟩ := trace_ok (B := M.1 1 0) (A := M.1 6 3) (V := M.1 6 4) hR.ne hPC
  have S1r : ∀ k, k < 42 → S1.1 k = S.1 k := fun k hk => a3 k (Or.inl hk)
  obtain ⟨S2, hS2⟩ : ∃ T : ST, T = su S1 51 2 (stg (M.1 1 2) (M.1 1 3) y) := ⟨_, rfl⟩
  have O2 : Off 51 [2, 3, 4, 5, 6, 7, 8, 9, 10] S1 S2 := by rw [hS2]; exact Off.rf.su 2 _ (by simp)
  obtain ⟨S3, hS3⟩ : ∃ T : ST, T = su S2 51 3 (M.1 4 mo) := ⟨_, rfl⟩
  have O3 : Off 51 [2, 3, 4, 5, 6, 7, 8, 9, 10] S1 S3 := by rw [hS3]; exact O2.su 3 _ (by simp)
  obtain ⟨S4, b1, b2, b3, b4, b5, b6, b7⟩ := suitC (i := i) (by omega) S3
  have O4 : Off 51 [2, 3, 4, 5, 6, 7, 8, 9, 10] S1 S4 := O3.tr (b2.wd (by intro j hj; simp at hj ⊢; omega))
  have r16 : ∀ j, j < 5 → S3.1 (16 + 2 * i) j = M.1 5 (5 * i + j) := fun j hj => by rw [O3.row (k := 16 + 2 * i) (by omega), S1r _ (by omega)]; exact s0 j hj
  have v2 : S4.1 51 2 = stg (M.1 1 2) (M.1 1 3) y := by rw [b2.at (by simp), hS3, hS2]; simp [su_1]
  have v3 : S4.1 51 3 = M.1 4 mo := by rw [b2.at (by simp), hS3]; simp [su_1]
  have v4 : S4.1 51 4 = M.1 5 (5 * i) := by rw [b3]; exact r16 0 (by omega)
  have v5 : S4.1 51 5 = M.1 5 (5 * i + 1) := by rw [b4]; exact r16 1 (by omega)
  have v6 : S4.1 51 6 = M.1 5 (5 * i + 2) := by rw [b5]; exact r16 2 (by omega)
  have v7 : S4.1 51 7 = M.1 5 (5 * i + 3) := by rw [b6]; exact r16 3 (by omega)
  have v8 : S4.1 51 8 = M.1 5 (5 * i + 4) := by rw [b7]; exact r16 4 (by omega)
  have P4 : PathOK (M.1 1 0) (M.1 1 1 - M.1 6 1) (M.1 6 3) (M.1 6 4) S4 := a2.fr (fun k k1 k2 => O4.row (by omega))
  obtain ⟨S5, s, e, c1, c2, c3, c4, c5⟩ := hold_ok l1 l2 P4 (by rw [v6]; exact hG)
  have O5 : Off 51 [2, 3, 4, 5, 6, 7, 8, 9, 10] S1 S5 := O4.tr (c5.wd (by intro j hj; simp at hj ⊢; omega))
  have hr : ∀ k, k < 42 → S4.1 k = S.1 k := fun k hk => (O4.row (by omega)).trans (S1r k hk)
  have hC : f_X9_ready (15 + 2 * i) S = some S5 := by
    have k0 : f_X3_number (0 : Int32) S = some (M.1 1 0) := (numC (i := 0) S (by omega)).trans (congrArg some (pr1 0 (by omega)))
    have k1 : f_X9_lengthNow S = some (M.1 1 1 - M.1 6 1) := by rw [lenC, pr1 1 (by omega), q0 1 (by omega)]
    have k3 : f_X5_inHand (3 : Int32) S = some (M.1 6 3) := (handC (i := 3) S (by omega)).trans (congrArg some (q0 3 (by omega)))
    have k4 : f_X5_inHand (4 : Int32) S = some (M.1 6 4) := (handC (i := 4) S (by omega)).trans (congrArg some (q0 4 (by omega)))
    have k2 : f_X5_inHand (2 : Int32) S1 = some (nI y) := (handC (i := 2) S1 (by omega)).trans (congrArg some (by rw [S1r 32 (by omega), q0 2 (by omega), ey]))
    have k5 : f_X9_strengthAfter (nI y) S1 = some (stg (M.1 1 2) (M.1 1 3) y) := by rw [stC S1 (by omega), S1r 5 (by omega), pr1 2 (by omega), pr1 3 (by omega)]
    have k6 : f_X9_lowerNow S2 = some (M.1 4 mo) := by
      rw [lowC (mo := mo) (by rw [O2.row (k := 32) (by omega), S1r 32 (by omega), q0 0 (by omega), emo]) (by omega), O2.row (k := 8) (by omega), S1r 8 (by omega), pr4 mo (by omega)]
    unfold f_X9_ready
    rw [k0, bn1_some, k1, bn1_some, k3, bn1_some, k4, bn1_some, a1, bn1_some, k2, bn1_some, k5, bn1_some, nm_x, ← hS2, k6, bn1_some, nm_x, ← hS3, b1, bn1_some, c1, bn1_some]
  -- the reference
  obtain ⟨M1, d1, d2, d3, d4, d5⟩ := useHandM (y := y) M (by omega) ey
  obtain ⟨M2, e1, e2, e3, e4, e5, e6, e7⟩ := suitM (i := i) (by omega) M1
  have D1 : Off 0 [21, 22, 23, 24, 25, 26, 27, 28] M M1 := d2.wd (by intro j hj; simp at hj ⊢; omega)
  have D2 : Off 0 [21, 22, 23, 24, 25, 26, 27, 28] M M2 := D1.tr (e2.wd (by intro j hj; simp at hj ⊢; omega))
  rw [D1.row (k := 5) (by omega)] at e3 e4 e5 e6 e7
  have w21 : M2.1 0 21 = M.1 1 1 - M.1 6 1 := by rw [e2.at (by simp)]; exact d3
  have w22 : M2.1 0 22 = M.1 6 4 := by rw [e2.at (by simp)]; exact d4
  have w23 : M2.1 0 23 = stg (M.1 1 2) (M.1 1 3) y := by rw [e2.at (by simp)]; exact d5
  obtain ⟨M3, g1, g2, g3⟩ := mswing_ok hR (by omega) sW2 hG (S := M2) w21 w22 (by rw [D2.row (k := 6) (by omega)]) e3 e5
  have G : ∀ k, k < 12 → M3.1 k = M2.1 k := fun k hk => g3 k (Or.inl hk)
  have G' : ∀ k, 0 < k → k < 12 → M3.1 k = M.1 k := fun k k0 hk => (G k hk).trans (D2.row (by omega))
  have hM : f_X10_ready (nI i) M = some M3 := by
    unfold f_X10_ready
    rw [d1, bn1_some, e1, bn1_some, g1, bn1_some]
  refine ⟨S5, M3, s, e, mo, y, hC, hM, by omega, emo, hy, ey, ⟨⟨?_, ?_, hR, ⟨by omega, pB2⟩, ⟨by omega, sR2⟩, plo mo (by omega), ?_, by omega, ?_, ?_, ?_, ?_, ?_, ?_, ?_, ?_, ?_⟩, ?_, c3, c4, g2⟩, ?_, ?_, ?_, ?_, ?_, ?_, ?_, ?_⟩
  · exact P4.fr (fun k k1 k2 => c5.row (by omega))
  · exact p0.fr (fun k k1 k2 => (c5.row (by omega)).trans (hr k (by omega))) (fun k k1 k2 => G' k (by omega) (by omega))
  · intro j hj; rw [G' 2 (by omega) (by omega)]; exact pd j hj
  · rw [G' 6 (by omega) (by omega)]; exact emo
  · rw [G' 4 (by omega) (by omega)]
  · rw [G 0 (by omega)]; exact w21
  · rw [G' 1 (by omega) (by omega)]
  · rw [c5.at (by simp)]; exact v3
  · rw [c5.at (by simp)]; exact v5
  · rw [G 0 (by omega)]; exact e4
  · rw [c5.at (by simp), v8, G 0 (by omega), e7]
  · intro t ht
    obtain ⟨x1, x2, -⟩ := g2 t ht
    exact ⟨x1, x2⟩
  · rw [G 0 (by omega), w23, G' 1 (by omega) (by omega), G' 3 (by omega) (by omega)]
    rw [v2, v3, v5, hr 5 (by omega), hr 7 (by omega), v4, v6, pr1 6 (by omega), pr1 8 (by omega)] at c2
    exact c2.cg (fun t => WYt_eq pr3 _ _ _ _ _ _ _ _ _ _ _ t l1 l2)
  · rw [c5.at (by simp)]; exact v7
  · rw [G 0 (by omega)]; exact e6
  · rw [G 0 (by omega)]; exact w23
  · rw [c5.at (by simp), G 0 (by omega), w23]; exact v2
  · rw [c5.at (by simp)]; exact v4
  · rw [c5.at (by simp)]; exact v6
  · intro k hk
    rw [O5.row (by omega)]
    exact a3 k (by omega)
  · intro k j h1 h2
    rw [g3 k h2]
    refine D2 k j ?_
    rcases h1 with h1 | h1
    · exact Or.inl h1
    · refine Or.inr ?_
      simp
      omega
