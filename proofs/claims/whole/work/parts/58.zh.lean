theorem odds_fin : ∀ d, d < 41 → ∀ g, g < 42 → f_X9_quotient ((1000000 : Int32) * nI g) (nI d + 1) = some ((((1000000 : Int64) * (nI g).toInt64) / ((nI d + 1).toInt64)).toInt32) ∧ nzl ((nI d + 1).toInt64) = true := by decide +kernel
theorem odds_loop {B L A V W G R lo : Int32} {mo s q d t : Nat} {e : Int32} (hq : q ≤ 20) (h1 : 1 ≤ t) (h2 : t ≤ 200) (hd : d ≤ 40) : ∀ (r k g n1 n2 : Nat) (S M : ST), k + r = d + 1 → g ≤ k → r < n1 → r < n2 → JR B L A V W G R lo mo s e S M → S.1 51 7 = nI q → M.1 0 27 = nI (q + k) →
    ∃ S' M' x, lp (fun _ _ _ _ _ => none) b_X9_odds_51 n1 (nI t) (nI d) (nI g) (nI k) S = some (x, S') ∧ lp (fun _ _ _ _ _ => none) b_X10_odds_44 n2 (nI t) (nI d) (nI g) (nI k) M = some (x, M') ∧ Off 51 [11, 12, 13, 14, 15, 16] S S' ∧ Off 0 [27, 33, 34, 35, 36, 37, 38] M M' := by
  intro r
  induction r with
  | zero =>
    intro k g n1 n2 S M hk hg hn1 hn2 hJ h7 h27
    obtain ⟨n1, rfl⟩ : ∃ k, n1 = k + 1 := ⟨n1 - 1, by omega⟩
    obtain ⟨n2, rfl⟩ : ∃ k, n2 = k + 1 := ⟨n2 - 1, by omega⟩
    have z : nI d < nI k := nI_lt (by omega) (by omega)
    obtain ⟨x1, x2⟩ := odds_fin d (by omega) g (by omega)
    refine ⟨S, M, (((1000000 : Int64) * (nI g).toInt64) / ((nI d + 1).toInt64)).toInt32, ?_, ?_, Off.rf, Off.rf⟩
    · rw [lp_s]; rw [b_X9_odds_51]; rw [if_pos z, x1, bn1_some]
    · rw [lp_s]; rw [b_X10_odds_44]; rw [if_pos z, chk_t _ x2]
  | succ r ih =>
    intro k g n1 n2 S M hk hg hn1 hn2 hJ h7 h27
    obtain ⟨n1, rfl⟩ : ∃ k, n1 = k + 1 := ⟨n1 - 1, by omega⟩
    obtain ⟨n2, rfl⟩ : ∃ k, n2 = k + 1 := ⟨n2 - 1, by omega⟩
    have z : ¬ nI d < nI k := nI_nlt (by omega) (by omega)
    obtain ⟨S1, M1, x, a1, a2, a3, a4, a5, -⟩ := good_ok hJ hJ.1.2.2.1.1 hJ.1.2.2.1.2.1 (τ := t + q + k) (by omega) (by omega) (nI t) (by rw [h27, ti_nn (by omega), Nat.add_assoc])
    have et : nI t + S.1 51 7 + nI k = nI (t + q + k) := by rw [h7, ti_nn (by omega), ti_nn (by omega)]
    obtain ⟨U, hU⟩ : ∃ U : ST, U = su M1 0 27 (M1.1 0 27 + 1) := ⟨_, rfl⟩
    have OU : Off 0 [27, 33, 34, 35, 36, 37, 38] M U := by rw [hU]; exact (a5.wd (by intro j hj; simp at hj ⊢; omega)).su 27 _ (by simp)
    have U27 : U.1 0 27 = nI (q + (k + 1)) := by
      rw [hU, a5.at (by simp), h27, nI_1]
      simp [su_1, Nat.add_assoc]
    have jU : JR B L A V W G R lo mo s e S1 U := (hJ.fr a4.lo51.1 a4.lo51.2 (fun _ _ _ => rfl) (fun _ _ => rfl)).fg (fun _ _ => rfl) rfl rfl rfl rfl (fun k k0 k1 => OU.row (by omega)) (OU.at (by simp)) (OU.at (by simp)) (OU.at (by simp)) (by
      rw [a4.at (by simp), OU.at (by simp)]; exact hJ.f16)
    have c1 : lp (fun _ _ _ _ _ => none) b_X9_odds_51 (n1 + 1) (nI t) (nI d) (nI g) (nI k) S = if x = 0 then lp (fun _ _ _ _ _ => none) b_X9_odds_51 n1 (nI t) (nI d) (nI g) (nI (k + 1)) S1 else lp (fun _ _ _ _ _ => none) b_X9_odds_51 n1 (nI t) (nI d) (nI (g + 1)) (nI (k + 1)) S1 := by
      rw [lp_s]; rw [b_X9_odds_51]; rw [if_neg z, et, a1, bnd_some, nm_x, nm_x, nm_x, nI_1, nI_1]
    have g0 : nI g + 0 = nI g := Int32.add_zero _
    have c2 : lp (fun _ _ _ _ _ => none) b_X10_odds_44 (n2 + 1) (nI t) (nI d) (nI g) (nI k) M = if x = 0 then lp (fun _ _ _ _ _ => none) b_X10_odds_44 n2 (nI t) (nI d) (nI g) (nI (k + 1)) U else lp (fun _ _ _ _ _ => none) b_X10_odds_44 n2 (nI t) (nI d) (nI (g + 1)) (nI (k + 1)) U := by
      rw [lp_s]; rw [b_X10_odds_44]; rw [if_neg z, a2, bnd_some]
      unfold b_X10_odds_65
      rw [nm_x, nm_x, nm_x, nm_x, nm_x, nm_x, nI_1, nI_1, g0, ← hU]
    rw [c1, c2]
    rcases a3 with rfl | rfl
    · rw [if_pos rfl, if_pos rfl]
      obtain ⟨S2, M2, y, b1, b2, b3, b4⟩ := ih (k + 1) g n1 n2 S1 U (by omega) (by omega) (by omega) (by omega) jU (by rw [a4.at (by simp)]; exact h7) U27
      exact ⟨S2, M2, y, b1, b2, a4.tr b3, OU.tr b4⟩
    · rw [if_neg w10, if_neg w10]
      obtain ⟨S2, M2, y, b1, b2, b3, b4⟩ := ih (k + 1) (g + 1) n1 n2 S1 U (by omega) (by omega) (by omega) (by omega) jU (by rw [a4.at (by simp)]; exact h7) U27
      exact ⟨S2, M2, y, b1, b2, a4.tr b3, OU.tr b4⟩
theorem odds_ok {h : Nat} {S M : ST} (hQ : QR h S M) (a1 a2 a3 : Int32) : Ans S M (f_X9_odds a1 a2 a3 S) (f_X10_odds a1 a2 a3 M) := by
  have hPC := hQ.2.2.2.2.2.2
  unfold f_X9_odds f_X10_odds
  rcases swB hQ a1 with ⟨i, hi, hi8, rfl, e1, e2⟩ | ⟨e1, e2⟩
  · rw [e1, e2, bn1_some, bn1_some, om_some, if_neg w10, isTimeC, isTimeM, bn1_some, bn1_some]
    by_cases p : 1 ≤ a2.toInt ∧ a2.toInt ≤ 200
    · rw [if_pos p, if_neg w10, if_neg w10, wiC a3 (p := 0) (q := 40) rfl rfl, wiM a3 (p := 0) (q := 40) rfl rfl, bn1_some, bn1_some]
      by_cases p3 : 0 ≤ a3.toInt ∧ a3.toInt ≤ 40
      · rw [if_pos p3, if_neg w10, if_neg w10]
        obtain ⟨t, t1, t2, rfl⟩ := n_in (a := 1) (b := 200) p.1 p.2
        obtain ⟨d, -, d2, rfl⟩ := n_in (a := 0) (b := 40) p3.1 p3.2
        obtain ⟨S1, M1, s, e, mo, q, b1, b2, b3, b4, b5, b6, b7, b8, b9, b10⟩ := ready3 hQ hi
        obtain ⟨S2, M2, x, c1, c2, c3, c4⟩ := odds_loop b5 t1 t2 d2 (d + 1) 0 0 1000 1000 S1 M1 (by omega) (by omega) (by omega) (by omega) b3 b6 b7
        have c1' : lp (fun _ _ _ _ _ => none) b_X9_odds_51 1000 (nI t) (nI d) (0 : Int32) (0 : Int32) S1 = some (x, S2) := c1
        have c2' : lp (fun _ _ _ _ _ => none) b_X10_odds_44 1000 (nI t) (nI d) (0 : Int32) (0 : Int32) M1 = some (x, M2) := c2
        rw [b1, b2, bn1_some, bn1_some, c1', c2']
        exact Ans.of _ (b8.tr (SF.off (by omega) c3)) (b9.tr (MF.off (by intro j hj; simp at hj; omega) c4)) (b10.fr (fun k k1 k2 => c3.row (by omega)))
      · rw [if_neg p3, if_pos rfl, if_pos rfl]; exact Ans.same hPC _
    · rw [if_neg p, if_pos rfl, if_pos rfl]; exact Ans.same hPC _
  · rw [e1, e2, bn1_some, bn1_some, om_none, if_pos rfl]; exact Ans.same hPC _
