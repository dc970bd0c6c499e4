/-- one who swings by MEASURES: the jump in both -/
theorem harm_jump {h i m u : Nat} {S M : ST} (hQ : QR h S M) (hi : i < h) (hm : m < 64) (hu1 : 1 ≤ u) (hu2 : u ≤ 200) :
    ∃ S' M' M9 g q', f_X9_comesToHarm (15 + 2 * i) (nI u) (nI m) S = some (if g = 0 then 1 else 0, S') ∧ (∀ (K : Int32 → Int32 → Int32 → ST → Option (Int32 × ST)) (acc : Int32), bn1 (f_X10_useHand M) (fun S2 => bn1 (f_X10_usePerson (nI i) S2) fun S3 => if (nI m &&& 4) = 4 then b_X10_harmedBy_37 K (nI m) acc (nI i) 0 S3 else b_X10_harmedBy_37 K (nI m) acc (nI i) (S3.1 0 22) S3) = b_X10_harmedBy_83 K (nI m) acc (nI i) q' M9) ∧ f_X10_swing (su M9 0 27 q') = some M' ∧ (∃ M2, f_X10_isGood (nI u) M' = some (g, M2) ∧ MF M M2) ∧ (g = 0 ∨ g = 1) ∧ SF S S' ∧ S'.1 53 = S.1 53 ∧ MF M M' ∧ PC S' := by
  obtain ⟨hP, hH, h8, hn1, hn2, hSw, hPC⟩ := hQ
  obtain ⟨p0, ⟨pB1, pB2⟩, ⟨pL1, pL2⟩, pS, pl, pA, pV, pT, pN, ps, pd, pst, plo⟩ := hP
  obtain ⟨q0, qm, ⟨qk1, qk2⟩, qk, qy, ⟨qA1, qA2⟩, ⟨qV1, qV2⟩⟩ := hH
  obtain ⟨s0, ⟨sW1, sW2⟩, ⟨sR1, sR2⟩, ⟨sG1, sG2⟩, sq, stt⟩ := hSw i hi
  obtain ⟨mo, hmo, emo⟩ := In.n (b := 11) qm
  obtain ⟨y, hy, ey⟩ := In.n (b := 40) qy
  obtain ⟨q, hq, eq⟩ := In.n (b := 20) sq
  obtain ⟨pr1, pr2, pr3, pr4⟩ := id p0
  obtain ⟨-, -, k4, k8, k16, -⟩ := mask m hm
  have eL : (M.1 1 1 - M.1 6 1).toInt = (M.1 1 1).toInt - (M.1 6 1).toInt := ti_sub (by omega) (by omega)
  have l1 : 50 ≤ (M.1 1 1 - M.1 6 1).toInt := by omega
  have l2 : (M.1 1 1 - M.1 6 1).toInt ≤ 900 := by omega
  have hG : ¬ M.1 5 (5 * i + 2) = 0 := fun e => by rw [e] at sG1; exact absurd sG1 (by decide)
  -- what the measures change
  obtain ⟨V, hV⟩ : ∃ V : Int32, V = if nI m &&& 4 = 0 then M.1 6 4 else 0 := ⟨_, rfl⟩
  obtain ⟨y', hy'⟩ : ∃ y' : Nat, y' = if nI m &&& 8 = 0 then y else 0 := ⟨_, rfl⟩
  obtain ⟨q', hq'⟩ : ∃ q' : Nat, q' = if nI m &&& 16 = 0 then q else 0 := ⟨_, rfl⟩
  have V12 : 0 ≤ V.toInt ∧ V.toInt ≤ 600 := by
    rw [hV]
    by_cases a : nI m &&& 4 = 0
    · rw [if_pos a]; exact ⟨qV1, qV2⟩
    · rw [if_neg a]; decide
  have y9 : y' < 900 := by
    rw [hy']
    by_cases a : nI m &&& 8 = 0
    · rw [if_pos a]; omega
    · rw [if_neg a]; omega
  have q9 : q' ≤ 20 := by
    rw [hq']
    by_cases a : nI m &&& 16 = 0
    · rw [if_pos a]; omega
    · rw [if_neg a]; omega
  have hR : Rg (M.1 1 1 - M.1 6 1) (M.1 6 3) V := ⟨l1, l2, qA1, qA2, V12.1, V12.2⟩
  -- the class
  obtain ⟨S1, a1, a2, a3⟩ := trace_ok (B := M.1 1 0) (A := M.1 6 3) (V := V) hR.ne hPC
  have S1r : ∀ k, k < 42 → S1.1 k = S.1 k := fun k hk => a3 k (Or.inl hk)
  obtain ⟨S2, hS2⟩ : ∃ T : ST, T = su S1 51 2 (stg (M.1 1 2) (M.1 1 3) y') := ⟨_, rfl⟩
  have O2 : Off 51 [2, 3, 4, 5, 6, 7, 8, 9, 10] S1 S2 := by rw [hS2]; exact Off.rf.su 2 _ (by simp)
  obtain ⟨S3, hS3⟩ : ∃ T : ST, T = su S2 51 3 (M.1 4 mo) := ⟨_, rfl⟩
  have O3 : Off 51 [2, 3, 4, 5, 6, 7, 8, 9, 10] S1 S3 := by rw [hS3]; exact O2.su 3 _ (by simp)
  obtain ⟨S4, b1, b2, b3, b4, b5, b6, b7⟩ := suitC (i := i) (by omega) S3
  have O4 : Off 51 [2, 3, 4, 5, 6, 7, 8, 9, 10] S1 S4 := O3.tr (b2.wd (by intro j hj; simp at hj ⊢; omega))
  have r16 : ∀ j, j < 5 → S3.1 (16 + 2 * i) j = M.1 5 (5 * i + j) := fun j hj => by rw [O3.row (k := 16 + 2 * i) (by omega), S1r _ (by omega)]; exact s0 j hj
  have v2 : S4.1 51 2 = stg (M.1 1 2) (M.1 1 3) y' := by rw [b2.at (by simp), hS3, hS2]; simp [su_1]
  have v3 : S4.1 51 3 = M.1 4 mo := by rw [b2.at (by simp), hS3]; simp [su_1]
  have v4 : S4.1 51 4 = M.1 5 (5 * i) := by rw [b3]; exact r16 0 (by omega)
  have v5 : S4.1 51 5 = M.1 5 (5 * i + 1) := by rw [b4]; exact r16 1 (by omega)
  have v6 : S4.1 51 6 = M.1 5 (5 * i + 2) := by rw [b5]; exact r16 2 (by omega)
  have v7 : S4.1 51 7 = nI q := by rw [b6]; exact (r16 3 (by omega)).trans eq
  have v8 : S4.1 51 8 = M.1 5 (5 * i + 4) := by rw [b7]; exact r16 4 (by omega)
  obtain ⟨S5, hS5⟩ : ∃ T : ST, T = if nI m &&& 16 = 0 then S4 else su S4 51 7 0 := ⟨_, rfl⟩
  have O45 : Off 51 [7] S4 S5 := by
    rw [hS5]
    by_cases a : nI m &&& 16 = 0
    · rw [if_pos a]; exact Off.rf
    · rw [if_neg a]; exact Off.rf.su 7 _ (by simp)
  have O5 : Off 51 [2, 3, 4, 5, 6, 7, 8, 9, 10] S1 S5 := O4.tr (O45.wd (by intro j hj; simp at hj ⊢; omega))
  have w7 : S5.1 51 7 = nI q' := by
    rw [hS5, hq']
    by_cases a : nI m &&& 16 = 0
    · rw [if_pos a, if_pos a]; exact v7
    · rw [if_neg a, if_neg a]; simp [su_1, nI]
  have P5 : PathOK (M.1 1 0) (M.1 1 1 - M.1 6 1) (M.1 6 3) V S5 := a2.fr (fun k k1 k2 => O5.row (by omega))
  have hr : ∀ k, k < 42 → S5.1 k = S.1 k := fun k hk => (O5.row (by omega)).trans (S1r k hk)
  -- the reference
  obtain ⟨M1, d1, d2, d3, d4, d5⟩ := useHandM (y := y) M (by omega) ey
  obtain ⟨M2, e1, e2, e3, e4, e5, e6, e7⟩ := suitM (i := i) (by omega) M1
  have D1 : Off 0 [21, 22, 23, 24, 25, 26, 27, 28] M M1 := d2.wd (by intro j hj; simp at hj ⊢; omega)
  have D2 : Off 0 [21, 22, 23, 24, 25, 26, 27, 28] M M2 := D1.tr (e2.wd (by intro j hj; simp at hj ⊢; omega))
  rw [D1.row (k := 5) (by omega)] at e3 e4 e5 e6 e7
  have z22 : M2.1 0 22 = M.1 6 4 := by rw [e2.at (by simp)]; exact d4
  have z23 : M2.1 0 23 = stg (M.1 1 2) (M.1 1 3) y := by rw [e2.at (by simp)]; exact d5
  obtain ⟨M3, hM3⟩ : ∃ T : ST, T = su M2 0 22 V := ⟨_, rfl⟩
  have D3 : Off 0 [21, 22, 23, 24, 25, 26, 27, 28] M M3 := by rw [hM3]; exact D2.su 22 _ (by simp)
  obtain ⟨M4, hM4⟩ : ∃ T : ST, T = su M3 0 23 (stg (M.1 1 2) (M.1 1 3) y') := ⟨_, rfl⟩
  have D4 : Off 0 [21, 22, 23, 24, 25, 26, 27, 28] M M4 := by rw [hM4]; exact D3.su 23 _ (by simp)
  obtain ⟨M5, hM5⟩ : ∃ T : ST, T = su M4 0 27 (nI q') := ⟨_, rfl⟩
  have D5 : Off 0 [21, 22, 23, 24, 25, 26, 27, 28] M M5 := by rw [hM5]; exact D4.su 27 _ (by simp)
  have x21 : M5.1 0 21 = M.1 1 1 - M.1 6 1 := by rw [hM5, hM4, hM3]; simp [su_1]; rw [e2.at (by simp)]; exact d3
  have x22 : M5.1 0 22 = V := by rw [hM5, hM4, hM3]; simp [su_1]
  have x23 : M5.1 0 23 = stg (M.1 1 2) (M.1 1 3) y' := by rw [hM5, hM4, hM3]; simp [su_1]
  have x24 : M5.1 0 24 = M.1 5 (5 * i) := by rw [hM5, hM4, hM3]; simp [su_1]; exact e3
  have x25 : M5.1 0 25 = M.1 5 (5 * i + 1) := by rw [hM5, hM4, hM3]; simp [su_1]; exact e4
  have x26 : M5.1 0 26 = M.1 5 (5 * i + 2) := by rw [hM5, hM4, hM3]; simp [su_1]; exact e5
  have x27 : M5.1 0 27 = nI q' := by rw [hM5]; simp [su_1]
  have x28 : M5.1 0 28 = M.1 5 (5 * i + 4) := by rw [hM5, hM4, hM3]; simp [su_1]; exact e7
  obtain ⟨M6, g1, g2, g3⟩ := mswing_ok hR (by omega) sW2 hG (S := M5) x21 x22 (by rw [D5.row (k := 6) (by omega)]) x24 x26
  have G0 : M6.1 0 = M5.1 0 := g3 0 (by omega)
  have Gk : ∀ k, 0 < k → k < 12 → M6.1 k = M.1 k := fun k k0 hk => (g3 k (by omega)).trans (D5.row (by omega))
  have mf : MF M M6 := (MF.off (by intro j hj; simp at hj; omega) D5).tr (MF.fr (by omega) (by omega) g3)
  have J : JP (M.1 1 0) (M.1 1 1 - M.1 6 1) (M.1 6 3) V (M.1 5 (5 * i)) (M.1 5 (5 * i + 2)) (M.1 5 (5 * i + 1)) (M.1 4 mo) mo S5 M6 := by
    refine ⟨⟨P5, p0.fr (fun k k1 k2 => hr k (by omega)) (fun k k1 k2 => Gk k (by omega) (by omega)), hR, ⟨by omega, pB2⟩, ⟨by omega, sR2⟩, plo mo (by omega), ?_, by omega, ?_, ?_, ?_, ?_, ?_, ?_, ?_, ?_, fun t ht => ⟨(g2 t ht).1, (g2 t ht).2.1⟩⟩, ?_, ?_, ?_, hG, g2⟩
    · intro j hj; rw [Gk 2 (by omega) (by omega)]; exact pd j hj
    · rw [Gk 6 (by omega) (by omega)]; exact emo
    · rw [Gk 4 (by omega) (by omega)]
    · rw [G0]; exact x21
    · rw [Gk 1 (by omega) (by omega)]
    · rw [O45.at (by simp)]; exact v3
    · rw [O45.at (by simp)]; exact v5
    · rw [G0]; exact x25
    · rw [O45.at (by simp), v8, G0, x28]
    · rw [O45.at (by simp), v2, G0, x23]
    · rw [O45.at (by simp)]; exact v4
    · rw [O45.at (by simp)]; exact v6
  obtain ⟨S6, s, e, c1, c2, c3⟩ := rehold J
  have w67 : S6.1 51 7 = nI q' := by rw [c3.at (by simp)]; exact w7
  obtain ⟨S7, M7, g, n1, n2, n3, n4, n5, -⟩ := good_ok c2 l1 l2 (τ := u + q') (by omega) (by omega) (nI u) (by rw [G0, x27, nI_add])
  refine ⟨S7, M6, M4, g, nI q', ?_, ?_, by rw [← hM5]; exact g1, ⟨M7, n2, mf.tr (MF.off (by intro j hj; simp at hj; omega) n5)⟩, n3, ?_, ?_, mf, ?_⟩
  · have k0 : f_X3_number (0 : Int32) S = some (M.1 1 0) := (numC (i := 0) S (by omega)).trans (congrArg some (pr1 0 (by omega)))
    have k1 : f_X9_lengthNow S = some (M.1 1 1 - M.1 6 1) := by rw [lenC, pr1 1 (by omega), q0 1 (by omega)]
    have k3 : f_X5_inHand (3 : Int32) S = some (M.1 6 3) := (handC (i := 3) S (by omega)).trans (congrArg some (q0 3 (by omega)))
    have kh4 : f_X5_inHand (4 : Int32) S = some (M.1 6 4) := (handC (i := 4) S (by omega)).trans (congrArg some (q0 4 (by omega)))
    have k2 : f_X5_inHand (2 : Int32) S1 = some (nI y) := (handC (i := 2) S1 (by omega)).trans (congrArg some (by rw [S1r 32 (by omega), q0 2 (by omega), ey]))
    have k5 : f_X9_strengthAfter (nI y') S1 = some (stg (M.1 1 2) (M.1 1 3) y') := by rw [stC S1 y9, S1r 5 (by omega), pr1 2 (by omega), pr1 3 (by omega)]
    have k6 : f_X9_lowerNow S2 = some (M.1 4 mo) := by
      rw [lowC (mo := mo) (by rw [O2.row (k := 32) (by omega), S1r 32 (by omega), q0 0 (by omega), emo]) (by omega), O2.row (k := 8) (by omega), S1r 8 (by omega), pr4 mo (by omega)]
    have r1 : f_X9_comesToHarm (15 + 2 * i) (nI u) (nI m) S = b_X9_comesToHarm_18 (15 + 2 * i) (nI u) (nI m) V S := by
      unfold f_X9_comesToHarm
      rw [hV]
      by_cases a : nI m &&& 4 = 0
      · rw [if_pos a, if_pos a, kh4, bn1_some]
      · rw [if_neg a, if_neg a]
    have r2 : b_X9_comesToHarm_18 (15 + 2 * i) (nI u) (nI m) V S = b_X9_comesToHarm_73 (15 + 2 * i) (nI u) (nI m) (nI y') S1 := by
      unfold b_X9_comesToHarm_18
      rw [k0, bn1_some, k1, bn1_some, k3, bn1_some, a1, bn1_some, hy']
      by_cases a : nI m &&& 8 = 0
      · rw [if_pos a, if_pos a, k2, bn1_some]
      · rw [if_neg a, if_neg a]; rfl
    have r3 : b_X9_comesToHarm_73 (15 + 2 * i) (nI u) (nI m) (nI y') S1 = b_X9_comesToHarm_113 (nI u) S5 := by
      unfold b_X9_comesToHarm_73
      rw [k5, bn1_some, nm_x, ← hS2, k6, bn1_some, nm_x, ← hS3, b1, bn1_some, hS5]
      by_cases a : nI m &&& 16 = 0
      · rw [if_pos a, if_pos a]
      · rw [if_neg a, if_neg a, nm_x]
    rw [r1, r2, r3]
    unfold b_X9_comesToHarm_113
    rw [c1, bn1_some, w67, nI_add, n1, bnd_some]
    by_cases a : g = 0
    · rw [if_pos a, if_pos a]
    · rw [if_neg a, if_neg a]
  · intro K acc
    rw [d1, bn1_some, e1, bn1_some]
    have r1 : (if (nI m &&& 4) = 4 then b_X10_harmedBy_37 K (nI m) acc (nI i) 0 M2 else b_X10_harmedBy_37 K (nI m) acc (nI i) (M2.1 0 22) M2) = b_X10_harmedBy_37 K (nI m) acc (nI i) V M2 := by
      rw [hV, z22]
      by_cases a : nI m &&& 4 = 0
      · rw [if_pos a, if_neg (fun h => k4.mp h a)]
      · rw [if_neg a, if_pos (k4.mpr a)]
    have st0 : f_X10_strengthIn (0 : Int32) M3 = some (stg (M.1 1 2) (M.1 1 3) 0) := by
      have := stM (y := 0) M3 (by omega)
      rw [D3.row (k := 1) (by omega)] at this
      exact this
    have r2 : b_X10_harmedBy_37 K (nI m) acc (nI i) V M2 = b_X10_harmedBy_62 K (nI m) acc (nI i) (stg (M.1 1 2) (M.1 1 3) y') M3 := by
      unfold b_X10_harmedBy_37
      rw [nm_x, ← hM3, hy']
      by_cases a : nI m &&& 8 = 0
      · rw [if_pos a, if_neg (fun h => k8.mp h a)]
        have : M3.1 0 23 = stg (M.1 1 2) (M.1 1 3) y := by rw [hM3]; simp [su_1]; exact z23
        rw [this]
      · rw [if_neg a, if_pos (k8.mpr a), st0, bn1_some]
    have r3 : b_X10_harmedBy_62 K (nI m) acc (nI i) (stg (M.1 1 2) (M.1 1 3) y') M3 = b_X10_harmedBy_83 K (nI m) acc (nI i) (nI q') M4 := by
      unfold b_X10_harmedBy_62
      rw [nm_x, ← hM4, hq']
      by_cases a : nI m &&& 16 = 0
      · rw [if_pos a, if_neg (fun h => k16.mp h a)]
        have : M4.1 0 27 = nI q := by rw [hM4, hM3]; simp [su_1]; exact e6.trans eq
        rw [this]
      · rw [if_neg a, if_pos (k16.mpr a)]; rfl
    rw [r1, r2, r3]
  · intro k hk
    rw [n4.row (by omega), c3.row (by omega)]; exact hr k (by omega)
  · rw [n4.row (by omega), c3.row (by omega), O5.row (by omega)]; exact a3 53 (by omega)
  · exact P5.pc.fr (fun k k1 k2 => by rw [n4.row (by omega), c3.row (by omega)])
/-- one who swings, in HARMED -/
theorem harm1 {h i m : Nat} {S M : ST} (hQ : QR h S M) (hT : FT h S M) (hi : i < h) (hm : m < 64) (acc : Int32) :
    ∃ S' M' acc', (∀ K, b_X9_harmedBy_4 K (nI m) acc (nI i) S = K (nI m) acc' (nI (i + 1)) S') ∧ (∀ K, b_X10_harmedBy_4 K (nI m) acc (nI i) M = K (nI m) acc' (nI (i + 1)) M') ∧ SF S S' ∧ S'.1 53 = S.1 53 ∧ MF M M' ∧ PC S' := by
  have h8 := hQ.2.2.1
  have z : ¬ nI h ≤ nI i := nI_ge (by omega) (by omega)
  obtain ⟨u, u1, u2, u3, u4⟩ := hT i hi
  obtain ⟨S', M', M9, g, q', a1, a2, a3, ⟨M2, a4, a5⟩, a6, a7, a8, a9, a10⟩ := harm_jump (m := m) hQ hi hm u1 u2
  obtain ⟨mo, hmo, emo⟩ := In.n (b := 11) hQ.2.1.2.1
  have sw := (hQ.2.2.2.2.2.1 i hi).1
  have w0 : f_X6_number (15 + 2 * i) (0 : Int32) S = some (M.1 5 (5 * i)) := by
    refine (swC (i := 0) _ S (swk_i i (by omega)) (by omega)).trans (congrArg some ?_)
    rw [show 15 + 2 * i + 1 = 16 + 2 * i by omega]; exact sw 0 (by omega)
  have lo1 : f_X9_lowerNow S = some (M.1 4 mo) := by
    rw [lowC (mo := mo) (by rw [hQ.2.1.1 0 (by omega), emo]) (by omega), hQ.1.1.2.2.2 mo (by omega)]
  have lo2 : f_X10_lower M' = some (M.1 4 mo) := by
    rw [lowM (mo := mo) (by rw [a9.1 6 (by omega)]; exact emo) (by omega), a9.1 4 (by omega)]
  have kC := keptC (x := nI m) w0 lo1
  have kM := isOutM (W := M.1 5 (5 * i)) hm (i := i) (by omega) (by rw [a9.1 5 (by omega)]) lo2
  have acc0 : acc ||| 0 = acc := Int32.or_zero
  have at53 : f_X9_at 53 (nI i) S = some (nI u) := by rw [at_in 53 S (show i < lnC 53 by show i < 8; omega), u3]
  have m16 : M'.1 16 (nI i).toNatClampNeg = nI u := by rw [nI_n (by omega), a9.1 16 (by omega)]; exact u4
  have hM : ∀ K, b_X10_harmedBy_4 K (nI m) acc (nI i) M = if outv (nI m) (M.1 5 (5 * i)) (M.1 4 mo) = 0 then (if g = 0 then K (nI m) (acc ||| ((1 : Int32) <<< (nI i &&& 31))) (nI (i + 1)) M2 else K (nI m) acc (nI (i + 1)) M2) else K (nI m) acc (nI (i + 1)) M' := by
    intro K
    rw [b_X10_harmedBy_4]; rw [hQ.2.2.2.2.1, if_neg z, a2]
    unfold b_X10_harmedBy_83
    rw [nm_x, a3, bn1_some, kM, bn1_some]
    by_cases b : outv (nI m) (M.1 5 (5 * i)) (M.1 4 mo) = 0
    · rw [if_pos b, if_pos b, chk_t _ (ib_nI (by omega) (by omega)), m16, a4, bnd_some, nm_x, nm_x, nm_x, nm_x, nI_1, acc0]
    · rw [if_neg b, if_neg b, nm_x, nm_x, nI_1, acc0]
  have hC : ∀ K, b_X9_harmedBy_4 K (nI m) acc (nI i) S = if outv (nI m) (M.1 5 (5 * i)) (M.1 4 mo) = 0 then (if g = 0 then K (nI m) (acc ||| ((1 : Int32) <<< (nI i &&& 31))) (nI (i + 1)) S' else K (nI m) acc (nI (i + 1)) S') else K (nI m) acc (nI (i + 1)) S := by
    intro K
    rw [b_X9_harmedBy_4]; rw [hQ.2.2.2.1, if_neg z, swI hQ hi, bn1_some, om_some, kC, bn1_some, at53, bn1_some, a1, bnd_some]
    by_cases b : outv (nI m) (M.1 5 (5 * i)) (M.1 4 mo) = 0
    · rw [if_pos b, if_pos b]
      by_cases c : g = 0
      · rw [if_pos c, if_pos c, if_neg w10, nm_x, nm_x, nI_1]
      · rw [if_neg c, if_neg c, if_pos rfl, nm_x, nI_1]
    · rw [if_neg b, if_neg b, nm_x, nI_1]
  by_cases b : outv (nI m) (M.1 5 (5 * i)) (M.1 4 mo) = 0
  · by_cases c : g = 0
    · exact ⟨S', M2, acc ||| ((1 : Int32) <<< (nI i &&& 31)), fun K => by rw [hC, if_pos b, if_pos c], fun K => by rw [hM, if_pos b, if_pos c], a7, a8, a5, a10⟩
    · exact ⟨S', M2, acc, fun K => by rw [hC, if_pos b, if_neg c], fun K => by rw [hM, if_pos b, if_neg c], a7, a8, a5, a10⟩
  · exact ⟨S, M', acc, fun K => by rw [hC, if_neg b], fun K => by rw [hM, if_neg b], fun _ _ => rfl, rfl, a9, hQ.2.2.2.2.2.2⟩
theorem FT.fr {h : Nat} {S M S' M' : ST} (hT : FT h S M) (a : S'.1 53 = S.1 53) (b : MF M M') : FT h S' M' := fun j hj => by
  obtain ⟨w, w1, w2, w3, w4⟩ := hT j hj
  exact ⟨w, w1, w2, by rw [a]; exact w3, by rw [b.1 16 (by omega)]; exact w4⟩
theorem harm_loop {h m : Nat} (hm : m < 64) : ∀ (r i n1 n2 : Nat) (acc : Int32) (S M : ST), i + r = h → r < n1 → r < n2 → QR h S M → FT h S M → ∃ x S' M', lp (fun _ _ _ _ => none) b_X9_harmedBy_4 n1 (nI m) acc (nI i) S = some (x, S') ∧ lp (fun _ _ _ _ => none) b_X10_harmedBy_4 n2 (nI m) acc (nI i) M = some (x, M') ∧ SF S S' ∧ S'.1 53 = S.1 53 ∧ MF M M' ∧ PC S' := by
  intro r
  induction r with
  | zero =>
    intro i n1 n2 acc S M hi hn1 hn2 hQ hT
    obtain ⟨n1, rfl⟩ : ∃ k, n1 = k + 1 := ⟨n1 - 1, by omega⟩
    obtain ⟨n2, rfl⟩ : ∃ k, n2 = k + 1 := ⟨n2 - 1, by omega⟩
    have z : nI h ≤ nI i := nI_le (by omega) (by have := hQ.2.2.1; omega)
    refine ⟨acc, S, M, ?_, ?_, fun _ _ => rfl, rfl, ⟨fun _ _ => rfl, fun _ _ => rfl⟩, hQ.2.2.2.2.2.2⟩
    · rw [lp_s]; rw [b_X9_harmedBy_4]; rw [hQ.2.2.2.1, if_pos z]
    · rw [lp_s]; rw [b_X10_harmedBy_4]; rw [hQ.2.2.2.2.1, if_pos z]
  | succ r ih =>
    intro i n1 n2 acc S M hi hn1 hn2 hQ hT
    obtain ⟨n1, rfl⟩ : ∃ k, n1 = k + 1 := ⟨n1 - 1, by omega⟩
    obtain ⟨n2, rfl⟩ : ∃ k, n2 = k + 1 := ⟨n2 - 1, by omega⟩
    obtain ⟨S1, M1, acc', a1, a2, a3, a4, a5, a6⟩ := harm1 hQ hT (i := i) (by omega) hm acc
    obtain ⟨x, S2, M2, b1, b2, b3, b4, b5, b6⟩ := ih (i + 1) n1 n2 acc' S1 M1 (by omega) (by omega) (by omega) (hQ.sm a3 a5 a6) (hT.fr a4 a5)
    exact ⟨x, S2, M2, by rw [lp_s, a1]; exact b1, by rw [lp_s, a2]; exact b2, a3.tr b3, b4.trans a4, a5.tr b5, b6⟩
theorem harmby_ok {h m : Nat} (hm : m < 64) {S M : ST} (hQ : QR h S M) (hT : FT h S M) : ∃ x S' M', f_X9_harmedBy (nI m) S = some (x, S') ∧ f_X10_harmedBy (nI m) M = some (x, M') ∧ SF S S' ∧ S'.1 53 = S.1 53 ∧ MF M M' ∧ PC S' :=
  harm_loop hm h 0 1000 1000 0 S M (by omega) (by have := hQ.2.2.1; omega) (by have := hQ.2.2.1; omega) hQ hT
/-- the same answer, and only passing cells have changed, HARMED's TIMEs among them -/
def AnsH (S M : ST) (x y : Option (Int32 × ST)) : Prop := ∃ r S' M', x = some (r, S') ∧ y = some (r, M') ∧ SF S S' ∧ MFH M M' ∧ PC S'
theorem harmed_ok {h : Nat} {S M : ST} (hQ : QR h S M) (a1 : Int32) : AnsH S M (f_X9_harmed a1 S) (f_X10_harmed a1 M) := by
  unfold f_X9_harmed f_X10_harmed
  rw [wiC a1 (p := 0) (q := 63) rfl rfl, wiM a1 (p := 0) (q := 63) rfl rfl, bn1_some, bn1_some]
  by_cases p : 0 ≤ a1.toInt ∧ a1.toInt ≤ 63
  · rw [if_pos p, if_neg w10, if_neg w10]
    obtain ⟨m, -, hm, rfl⟩ := n_in (a := 0) (b := 63) p.1 p.2
    obtain ⟨S1, M1, b1, b2, b3, b4, b5, b6⟩ := far_ok hQ
    obtain ⟨x, S2, M2, c1, c2, c3, c4, c5, c6⟩ := harmby_ok (m := m) (by omega) (hQ.smh b3 b4 b5) b6
    rw [b1, b2, bn1_some, bn1_some, c1, c2, bnd_some, bnd_some]
    exact ⟨x, S2, M2, rfl, rfl, b3.tr c3, b4.tr c5.h, c6⟩
  · rw [if_neg p, if_pos rfl, if_pos rfl]
    exact ⟨_, S, M, rfl, rfl, fun _ _ => rfl, ⟨fun _ _ => rfl, fun _ _ => rfl⟩, hQ.2.2.2.2.2.2⟩
/-- how many MEASURES -/
def bt (k : Nat) : Int32 := (f_X10_bits (nI k)).getD 0
theorem bt_ok : ∀ k, k < 64 → f_X10_bits (nI k) = some (bt k) ∧ f_J6_bitCount_0f7a4 (nI k) = some (bt k) ∧ ¬ (2147483647 : Int32) ≤ bt k := by decide +kernel
def EB (f b : Int32) : Prop := (b = -1 ∧ f = 2147483647) ∨ ∃ k, k < 64 ∧ b = nI k ∧ f = bt k
theorem enough_loop {h : Nat} : ∀ (r m n1 n2 : Nat) (f b : Int32) (S M : ST), m + r = 64 → r < n1 → r < n2 → EB f b → QR h S M → FT h S M → ∃ x S' M', lp (fun _ _ _ _ => none) b_X9_enough_12 n1 f b (nI m) S = some (x, S') ∧ lp (fun _ _ _ => none) b_X10_enough_8 n2 b (nI m) M = some (x, M') ∧ SF S S' ∧ MF M M' ∧ PC S' := by
  intro r
  induction r with
  | zero =>
    intro m n1 n2 f b S M hm hn1 hn2 hE hQ hT
    obtain ⟨n1, rfl⟩ : ∃ k, n1 = k + 1 := ⟨n1 - 1, by omega⟩
    obtain ⟨n2, rfl⟩ : ∃ k, n2 = k + 1 := ⟨n2 - 1, by omega⟩
    refine ⟨b, S, M, ?_, ?_, fun _ _ => rfl, ⟨fun _ _ => rfl, fun _ _ => rfl⟩, hQ.2.2.2.2.2.2⟩
    · rw [lp_s]; rw [b_X9_enough_12]; rw [if_pos (show (63 : Int32) < nI m from nI_lt (a := 63) (by omega) (by omega))]
    · rw [lp_s]; rw [b_X10_enough_8]; rw [if_pos (show (64 : Int32) ≤ nI m from nI_le (a := 64) (by omega) (by omega))]
  | succ r ih =>
    intro m n1 n2 f b S M hm hn1 hn2 hE hQ hT
    obtain ⟨n1, rfl⟩ : ∃ k, n1 = k + 1 := ⟨n1 - 1, by omega⟩
    obtain ⟨n2, rfl⟩ : ∃ k, n2 = k + 1 := ⟨n2 - 1, by omega⟩
    have z1 : ¬ (63 : Int32) < nI m := nI_nlt (a := 63) (by omega) (by omega)
    have z2 : ¬ (64 : Int32) ≤ nI m := nI_ge (b := 64) (by omega) (by omega)
    obtain ⟨t1, t2, t3⟩ := bt_ok m (by omega)
    obtain ⟨x, S1, M1, c1, c2, c3, c4, c5, c6⟩ := harmby_ok (m := m) (by omega) hQ hT
    have d1 : lp (fun _ _ _ _ => none) b_X9_enough_12 (n1 + 1) f b (nI m) S = if f ≤ bt m then lp (fun _ _ _ _ => none) b_X9_enough_12 n1 f b (nI (m + 1)) S else if x = 0 then lp (fun _ _ _ _ => none) b_X9_enough_12 n1 (bt m) (nI m) (nI (m + 1)) S1 else lp (fun _ _ _ _ => none) b_X9_enough_12 n1 f b (nI (m + 1)) S1 := by
      rw [lp_s]; rw [b_X9_enough_12]; rw [if_neg z1, t2, bn1_some, c1, bnd_some, nm_x, nm_x, nm_x, nI_1]
    have e0 : b_X10_enough_34 (lp (fun _ _ _ => none) b_X10_enough_8 n2) b (nI m) 0 M = lp (fun _ _ _ => none) b_X10_enough_8 n2 b (nI (m + 1)) M := by
      unfold b_X10_enough_34
      rw [if_pos rfl, nm_x, nI_1]
    have e1 : b_X10_enough_34 (lp (fun _ _ _ => none) b_X10_enough_8 n2) b (nI m) 1 M = if x = 0 then lp (fun _ _ _ => none) b_X10_enough_8 n2 (nI m) (nI (m + 1)) M1 else lp (fun _ _ _ => none) b_X10_enough_8 n2 b (nI (m + 1)) M1 := by
      unfold b_X10_enough_34
      rw [if_neg w10, c2, bnd_some, nm_x, nm_x, nI_1]
    have d2 : lp (fun _ _ _ => none) b_X10_enough_8 (n2 + 1) b (nI m) M = if f ≤ bt m then lp (fun _ _ _ => none) b_X10_enough_8 n2 b (nI (m + 1)) M else if x = 0 then lp (fun _ _ _ => none) b_X10_enough_8 n2 (nI m) (nI (m + 1)) M1 else lp (fun _ _ _ => none) b_X10_enough_8 n2 b (nI (m + 1)) M1 := by
      rw [lp_s]; rw [b_X10_enough_8]; rw [if_neg z2, e0, e1]
      rcases hE with ⟨h1, h2⟩ | ⟨k, hk, h1, h2⟩
      · rw [if_pos (show b < 0 by rw [h1]; decide), h2, if_neg t3]
      · rw [if_neg (show ¬ b < 0 by rw [h1]; exact nI_pos (by omega)), t1, bn1_some, h1, (bt_ok k hk).1, bn1_some, h2]
    rw [d1, d2]
    by_cases w : f ≤ bt m
    · rw [if_pos w, if_pos w]
      exact ih (m + 1) n1 n2 f b S M (by omega) (by omega) (by omega) hE hQ hT
    · rw [if_neg w, if_neg w]
      have hQ1 := hQ.sm c3 c5 c6
      have hT1 := hT.fr c4 c5
      by_cases v : x = 0
      · rw [if_pos v, if_pos v]
        obtain ⟨x2, S2, M2, y1, y2, y3, y4, y5⟩ := ih (m + 1) n1 n2 (bt m) (nI m) S1 M1 (by omega) (by omega) (by omega) (Or.inr ⟨m, by omega, rfl, rfl⟩) hQ1 hT1
        exact ⟨x2, S2, M2, y1, y2, c3.tr y3, c5.tr y4, y5⟩
      · rw [if_neg v, if_neg v]
        obtain ⟨x2, S2, M2, y1, y2, y3, y4, y5⟩ := ih (m + 1) n1 n2 f b S1 M1 (by omega) (by omega) (by omega) hE hQ1 hT1
        exact ⟨x2, S2, M2, y1, y2, c3.tr y3, c5.tr y4, y5⟩
theorem enough_ok {h : Nat} {S M : ST} (hQ : QR h S M) : AnsH S M (f_X9_enough S) (f_X10_enough M) := by
  obtain ⟨S1, M1, b1, b2, b3, b4, b5, b6⟩ := far_ok hQ
  obtain ⟨x, S2, M2, y1, y2, y3, y4, y5⟩ := enough_loop 64 0 1000 1000 2147483647 (-1) S1 M1 (by omega) (by omega) (by omega) (Or.inl ⟨rfl, rfl⟩) (hQ.smh b3 b4 b5) b6
  have y1' : lp (fun _ _ _ _ => none) b_X9_enough_12 1000 (2147483647 : Int32) (-1 : Int32) (0 : Int32) S1 = some (x, S2) := y1
  have y2' : lp (fun _ _ _ => none) b_X10_enough_8 1000 (-1 : Int32) (0 : Int32) M1 = some (x, M2) := y2
  unfold f_X9_enough f_X10_enough
  rw [b1, b2, bn1_some, bn1_some, y1', y2']
  exact ⟨x, S2, M2, rfl, rfl, b3.tr y3, b4.tr y4.h, y5⟩
