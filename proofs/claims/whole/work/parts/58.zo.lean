/-- both searches, whole -/
theorem rope_all {B A V : Int32} {F : Nat → Int32} {S1 M1 : ST} (hF : RV B A V F S1 M1) (b0 : S1.1 5 0 = B) (b3 : S1.1 32 3 = A) (b4 : S1.1 32 4 = V) (v2 : Int32) (hPC : PC S1) : ∃ x S' M', lp (fun _ _ _ _ _ _ => none) b_X9_rope_43 1000 v2 (0 : Int32) (0 : Int32) (-1 : Int32) (100 : Int32) S1 = some (x, S') ∧ lp (fun _ _ _ _ _ => none) b_X10_rope_44 1000 v2 (-1 : Int32) (0 : Int32) (100 : Int32) M1 = some (x, M') ∧ SK S1 S' ∧ MK M1 M' := by
  have e1000 : (1000 : Nat) = 999 + 1 := rfl
  have e998 : (1000 : Nat) = 997 + 1 + 1 + 1 := rfl
  have hS : SK S1 S1 := ⟨fun _ _ => rfl, fun _ _ => rfl, hPC⟩
  have z : ¬ (900 : Int32) < nI 100 := by decide
  have h1 : ¬ F 1 ≤ -1 := by
    have := i_le.mp (hF 1 (by omega)).1
    rw [show (0 : Int32).toInt = 0 from rfl] at this
    rw [i_le, show (-1 : Int32).toInt = -1 from rfl]; omega
  -- the class
  obtain ⟨Q43, hQ43⟩ : ∃ Q, Q = lp (fun _ _ _ _ _ _ => none) b_X9_rope_43 999 := ⟨_, rfl⟩
  obtain ⟨S2, a1, a2⟩ := ropeC1 hF b0 b3 b4 Q43 (lp (fun _ _ _ _ _ _ _ => none) (b_X9_rope_54 Q43) (997 + 1 + 1)) v2 0 0 (-1) (nI 50) (l := 100) (kn := 0) (j := 1) (by omega) (by omega) (by omega) (by decide) hS
  obtain ⟨S3, c1, c2⟩ := ropeC1 hF b0 b3 b4 Q43 (lp (fun _ _ _ _ _ _ _ => none) (b_X9_rope_54 Q43) (997 + 1)) v2 (nI 100) (nI 0) (F 1) (nI 50) (l := 100) (kn := 50) (j := 0) (by omega) (by omega) (by omega) (by decide) a2
  rw [if_neg h1] at a1
  have stop : ∀ x y w : Int32, lp (fun _ _ _ _ _ _ _ => none) (b_X9_rope_54 Q43) (997 + 1) v2 x y w (nI 100) (nI (50 + 50)) S3 = Q43 v2 x y w (nI 150) S3 := by
    intro x y w
    rw [lp_s]; rw [b_X9_rope_54]; rw [if_pos (show nI 100 = (100 : Int32) from rfl), b_X9_rope_69, if_pos (show (50 : Int32) < nI (50 + 50) by decide), nm_x]
    rfl
  rw [stop, stop] at c1
  have hC : lp (fun _ _ _ _ _ _ => none) b_X9_rope_43 1000 v2 (0 : Int32) (0 : Int32) (-1 : Int32) (nI 100) S1 = if F 0 ≤ F 1 then Q43 v2 (nI 100) (nI 0) (F 1) (nI 150) S3 else Q43 v2 (nI 100) (nI 50) (F 0) (nI 150) S3 := by
    rw [e1000, lp_s, ← hQ43]; rw [b_X9_rope_43]; rw [if_neg z, e998, lp_s]; rw [b_X9_rope_54]; rw [if_pos (show nI 100 = (100 : Int32) from rfl)]
    refine Eq.trans a1 ?_
    rw [lp_s]; rw [b_X9_rope_54]; rw [if_pos (show nI 100 = (100 : Int32) from rfl)]
    exact c1
  -- the reference
  obtain ⟨Q44, hQ44⟩ : ∃ Q, Q = lp (fun _ _ _ _ _ => none) b_X10_rope_44 999 := ⟨_, rfl⟩
  obtain ⟨M2, d1, d2⟩ := ropeM1 hF Q44 (lp (fun _ _ _ _ _ _ => none) (b_X10_rope_55 Q44) (997 + 1 + 1)) v2 (-1) 0 (l := 100) (kn := 0) (j := 1) (by omega) (by omega) (by omega) (by omega) MK.rf
  obtain ⟨M3, f1, f2⟩ := ropeM1 hF Q44 (lp (fun _ _ _ _ _ _ => none) (b_X10_rope_55 Q44) (997 + 1)) v2 (F 1) (1000 * nI 100 + nI 0) (l := 100) (kn := 50) (j := 0) (by omega) (by omega) (by omega) (by omega) d2
  rw [if_neg h1] at d1
  have stop2 : ∀ x y : Int32, lp (fun _ _ _ _ _ _ => none) (b_X10_rope_55 Q44) (997 + 1) v2 x y (nI 100) (nI (50 + 50)) M3 = Q44 v2 x y (nI 150) M3 := by
    intro x y
    rw [lp_s]; rw [b_X10_rope_55]; rw [if_neg (show ¬ (300 : Int32) < nI (50 + 50) by decide), if_pos (show nI 100 - nI (50 + 50) < (50 : Int32) by decide), nm_x]
    rfl
  rw [stop2, stop2] at f1
  have hM : lp (fun _ _ _ _ _ => none) b_X10_rope_44 1000 v2 (-1 : Int32) (0 : Int32) (nI 100) M1 = if F 0 ≤ F 1 then Q44 v2 (F 1) (1000 * nI 100 + nI 0) (nI 150) M3 else Q44 v2 (F 0) (1000 * nI 100 + nI 50) (nI 150) M3 := by
    rw [e1000, lp_s, ← hQ44]; rw [b_X10_rope_44]; rw [if_neg z, e998, lp_s]
    refine Eq.trans d1 ?_
    rw [lp_s]
    exact f1
  have hC' : lp (fun _ _ _ _ _ _ => none) b_X9_rope_43 1000 v2 (0 : Int32) (0 : Int32) (-1 : Int32) (100 : Int32) S1 = _ := hC
  have hM' : lp (fun _ _ _ _ _ => none) b_X10_rope_44 1000 v2 (-1 : Int32) (0 : Int32) (100 : Int32) M1 = _ := hM
  rw [hC', hM', hQ43, hQ44]
  by_cases w : F 0 ≤ F 1
  · rw [if_pos w, if_pos w]
    have hb : ∀ j, j ≤ 1 → F j ≤ F 1 := fun j hj => by
      by_cases e : j = 1
      · rw [e, i_le]; exact Int.le_refl _
      · rw [show j = 0 by omega]; exact w
    exact rope_loop hF b0 b3 b4 v2 16 1 999 999 0 0 (F 1) S3 M3 (by omega) (by omega) (by omega) (by omega) (by omega) (by omega) hb c2 f2
  · rw [if_neg w, if_neg w]
    have w2 : (F 1).toInt ≤ (F 0).toInt := by
      have : ¬ (F 0).toInt ≤ (F 1).toInt := fun h => w (i_le.mpr h)
      omega
    have hb : ∀ j, j ≤ 1 → F j ≤ F 0 := fun j hj => by
      by_cases e : j = 1
      · rw [e, i_le]; exact w2
      · rw [show j = 0 by omega, i_le]; exact Int.le_refl _
    exact rope_loop hF b0 b3 b4 v2 16 1 999 999 0 1 (F 0) S3 M3 (by omega) (by omega) (by omega) (by omega) (by omega) (by omega) hb c2 f2
theorem rope_ok {h : Nat} {S M : ST} (hQ : QR h S M) (a1 a2 : Int32) : Ans S M (f_X9_rope a1 a2 S) (f_X10_rope a1 a2 M) := by
  have hPC := hQ.2.2.2.2.2.2
  have z0 : (0 : Int32).toInt = 0 := rfl
  have z1 : (2 : Int32).toInt = 2 := rfl
  unfold f_X9_rope f_X10_rope
  rcases swB hQ a1 with ⟨i, hi, hi8, rfl, e1, e2⟩ | ⟨e1, e2⟩
  · rw [e1, e2, bn1_some, bn1_some, om_some, if_neg w10, wiM a2 (p := 0) (q := 2) rfl rfl, bn1_some]
    by_cases p : 0 ≤ a2.toInt ∧ a2.toInt ≤ 2
    · rw [if_pos p, if_neg w10, if_neg (show ¬ a2 < 0 by rw [i_lt, z0]; omega), if_pos (show a2 ≤ 2 by rw [i_le, z1]; omega)]
      obtain ⟨S1, M9, s, e, mo, q, b1, b2, b3, b4, b5, b6, b7, b8, b9, b10⟩ := ready3 hQ hi
      -- the reference without the swing
      obtain ⟨⟨p1, pB, -⟩, hH, -, -, -, hSw, -⟩ := id hQ
      obtain ⟨q0, qm, -, -, qy, qA, qV⟩ := hH
      obtain ⟨s0, ⟨sW1, sW2⟩, -, sG, -, -⟩ := hSw i hi
      obtain ⟨y, hy, ey⟩ := In.n (b := 40) qy
      obtain ⟨M2, d1, d2, d3, d4, d5⟩ := useHandM (y := y) M (by omega) ey
      obtain ⟨M3, g1, g2, g3, g4, g5, g6, g7⟩ := suitM (i := i) hi8 M2
      have D3 : Off 0 [21, 22, 23, 24, 25, 26, 27, 28] M M3 := (d2.wd (by intro j hj; simp at hj ⊢; omega)).tr (g2.wd (by intro j hj; simp at hj ⊢; omega))
      rw [d2.row (k := 5) (by omega)] at g3 g4 g5 g6 g7
      have mf : MF M M3 := MF.off (by intro j hj; simp at hj; omega) D3
      -- what the swing found in M9 stands in M3 too
      have hu : f_X10_ready (nI i) M = bn1 (f_X10_swing M3) fun S3 => some S3 := by
        unfold f_X10_ready
        rw [d1, bn1_some, g1, bn1_some]
      obtain ⟨⟨f1, f2, f3, f4, f5, f6, f7, f8, f9, f10, f11, f12, f13, f14, f15, f16, f17⟩, k2, k4, k6, kG, kC⟩ := b4
      have sw : ∃ M8, f_X10_swing M3 = some M8 ∧ M8 = M9 := by
        rw [hu] at b2
        obtain ⟨M8, w1, w2⟩ := bn1_s b2
        exact ⟨M8, w1, Option.some.inj w2⟩
      obtain ⟨M8, w1, rfl⟩ := sw
      have hR : Rg (M.1 1 1 - M.1 6 1) (M.1 6 3) (M.1 6 4) := hQ.rg
      obtain ⟨M7, v1, v2, v3⟩ := mswing_ok hR (by omega) sW2 kG (S := M3) (by rw [g2.at (by simp)]; exact d3) (by rw [g2.at (by simp)]; exact d4) (by rw [D3.row (k := 6) (by omega)]) g3 g5
      have e78 : M7 = M8 := by rw [v1] at w1; exact Option.some.inj w1
      subst e78
      have E0 : ∀ j, M7.1 0 j = M3.1 0 j := fun j => by rw [v3 0 (by omega)]
      have Ek : ∀ k, k < 12 → M7.1 k = M3.1 k := fun k hk => v3 k (by omega)
      have hRB : RB (M.1 1 0) (M.1 6 3) (M.1 6 4) (M.1 5 (5 * i)) (M.1 5 (5 * i + 2)) (M.1 5 (5 * i + 1)) (M.1 4 mo) mo q S1 M3 := by
        refine ⟨f2.fr (fun _ _ _ => rfl) (fun k k1 k2 => (Ek k (by omega)).symm), f4, f5, f6, ?_, f8, ?_, ?_, ?_, f13, f14, ?_, ?_, ?_, k4, k6, kG, g3, g5, ?_, ?_, b5, b6, ?_, ⟨by omega, sW2⟩, ?_, ?_, ?_⟩
        · rw [← Ek 2 (by omega)]; exact f7
        · rw [← Ek 6 (by omega)]; exact f9
        · rw [← Ek 4 (by omega)]; exact f10
        · rw [← Ek 1 (by omega)]; exact f12
        · exact g4
        · rw [← E0 28]; exact f16
        · rw [← E0 23]; exact k2
        · rw [g2.at (by simp)]; exact d4
        · rw [D3.row (k := 6) (by omega)]
        · rw [← E0 27]; exact b7
        · rw [b8 5 (by omega)]; exact p1.1 0 (by omega)
        · rw [b8 32 (by omega)]; exact q0 3 (by omega)
        · rw [b8 32 (by omega)]; exact q0 4 (by omega)
      obtain ⟨F, hF⟩ := rope_vals hRB b10 qA qV
      obtain ⟨x, S4, M4, x1, x2, x3, x4⟩ := rope_all hF (by rw [b8 5 (by omega)]; exact p1.1 0 (by omega)) (by rw [b8 32 (by omega)]; exact q0 3 (by omega)) (by rw [b8 32 (by omega)]; exact q0 4 (by omega)) a2 b10
      rw [b1, bn1_some, d1, bn1_some, g1, bn1_some, x1, x2]
      exact Ans.of _ (b8.tr x3.1) (mf.tr x4.1) x3.2.2
    · rw [if_neg p, if_pos rfl]
      by_cases p0 : a2 < 0
      · rw [if_pos p0]; exact Ans.same hPC _
      · have p0' : ¬ a2.toInt < 0 := fun h => p0 (by rw [i_lt, z0]; exact h)
        rw [if_neg p0, if_neg (show ¬ a2 ≤ 2 by rw [i_le, z1]; omega)]; exact Ans.same hPC _
  · rw [e1, e2, bn1_some, bn1_some, om_none, if_pos rfl]; exact Ans.same hPC _
