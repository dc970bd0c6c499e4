/-- how many of a row are told -/
def cnt (f : Nat → Int32) : Nat → Nat
  | 0 => 0
  | n + 1 => cnt f n + (if f n = 0 then 0 else 1)
theorem cnt_le (f : Nat → Int32) : ∀ n, cnt f n ≤ n := by
  intro n
  induction n with
  | zero => exact Nat.le_refl 0
  | succ n ih =>
    show cnt f n + (if f n = 0 then 0 else 1) ≤ n + 1
    by_cases h : f n = 0
    · rw [if_pos h]; omega
    · rw [if_neg h]; omega
theorem cnt_full (f : Nat → Int32) : ∀ n, n ≤ cnt f n → ∀ j, j < n → ¬ f j = 0 := by
  intro n
  induction n with
  | zero => intro _ j hj; omega
  | succ n ih =>
    intro h j hj
    have hle := cnt_le f n
    have h : n + 1 ≤ cnt f n + (if f n = 0 then 0 else 1) := h
    by_cases hn : f n = 0
    · rw [if_pos hn] at h; omega
    · rw [if_neg hn] at h
      by_cases e : j = n
      · rw [e]; exact hn
      · exact ih (by omega) j (by omega)
theorem cnt_set {f g : Nat → Int32} {v : Nat} (h1 : ∀ j, j ≠ v → g j = f j) (h2 : ¬ g v = 0) (h3 : f v = 0) : ∀ n, cnt g n = cnt f n + (if v < n then 1 else 0) := by
  intro n
  induction n with
  | zero => rfl
  | succ n ih =>
    show cnt g n + (if g n = 0 then 0 else 1) = cnt f n + (if f n = 0 then 0 else 1) + _
    rw [ih]
    by_cases e : n = v
    · subst e
      rw [if_neg h2, if_pos h3, if_neg (by omega), if_pos (by omega)]
    · rw [h1 n e]
      by_cases c : v < n
      · rw [if_pos c, if_pos (show v < n + 1 by omega)]; omega
      · rw [if_neg c, if_neg (show ¬ v < n + 1 by omega), Nat.add_zero, Nat.add_zero]
/-- stones, in both -/
theorem stones_loop {len : Nat} : ∀ (r i p n1 n2 : Nat) (S M : ST), i + r = 24 → r + 1 < n1 → r + 2 < n2 → TxR len S M → p ≤ len → S.1 3 1 = nI p → M.1 0 10 = nI p → DR S M → i ≤ cnt (S.1 12) 24 → Fin len S M (lp (fun _ _ => none) b_X4_readStones_2 n1 (nI i) S) (bnd (lp (fun _ _ => none) b_X10_takeStones_2 n2 1 M) fun r34 S33 => b_X10_takeClause_236 r34 S33) := by
  have z0 : (0 : Int32).toInt = 0 := rfl
  have z23 : ((24 : Int32) - 1) = 23 := by decide
  have z23i : (23 : Int32).toInt = 23 := rfl
  intro r
  induction r with
  | zero =>
    intro i p n1 n2 S M hi hn1 hn2 hT hp hS hM hD hc
    obtain ⟨n1, rfl⟩ : ∃ k, n1 = k + 1 := ⟨n1 - 1, by omega⟩
    obtain ⟨n2, rfl⟩ : ∃ k, n2 = k + 1 := ⟨n2 - 1, by omega⟩
    obtain ⟨r, S1, f, M1, a1, a2, a3, a4, a5⟩ := num_ok hT hp hS hM 0 23
    have fM : FMi M M1 := FMi.off (by intro j hj; simp at hj; omega) a4
    have z : ¬ (24 : Int32) < nI i := nI_nlt (a := 24) (by omega) (by omega)
    rw [lp_s, lp_s]; rw [b_X4_readStones_2, b_X10_takeStones_2]; rw [if_neg z, if_neg w10, z23, a1, a2, bnd_some, bnd_some]
    rcases a5 with ⟨rfl, rfl, e, e1, e2, e3, e4, e5, e6, e7, e8, e9⟩ | ⟨rfl, f0, hF⟩
    · rw [z0, z23i] at e7
      obtain ⟨w, -, hw, ew⟩ := n_in (a := 0) (b := 23) e7.1 e7.2
      have full := cnt_full (S.1 12) 24 (by omega) w (by omega)
      have s12 : S1.1 12 = S.1 12 := a3.row (by omega)
      have m10 : ¬ M1.1 10 w = 0 := by rw [a4.row (k := 10) (by omega), ← hD.1.2.2.1 w (by omega)]; exact full
      rw [if_neg w10, e5, ew, at_in 12 S1 (show w < lnC 12 by show w < 24; omega), bn1_some, s12, if_neg full, failC, bnd_some, chk_t _ (by decide), if_pos rfl, chk_t _ (ib_nI (by omega) (by omega)), nI_n (by omega), if_neg m10, failsM, bnd_some]
      unfold b_X10_takeStones_43
      rw [if_neg (show ¬ (3 : Int32) ≤ 0 by decide), bnd_some]
      unfold b_X10_takeClause_236
      rw [if_neg (show ¬ (3 : Int32) ≤ 0 by decide)]
      exact Fin.bad ((FC.off a3).tr (FC.off (js := [5, 6]) ((Off.rf.su 5 _ (by simp)).su 6 _ (by simp)))) (fM.tr (FMi.off (js := [9]) (by intro j hj; simp at hj; omega) (Off.rf.su 9 _ (by simp)))) (by decide) ⟨Or.inr (Or.inr (Or.inl rfl)), by rw [su_o _ _ _ (by omega), su_s], by rw [su_s, su_s]; exact e6⟩
    · obtain ⟨g1, g2⟩ := hF.pos
      rw [if_pos rfl, if_neg f0]
      unfold b_X10_takeStones_43
      rw [if_neg g1, bnd_some]
      unfold b_X10_takeClause_236
      rw [if_neg g1]
      exact Fin.bad (FC.off a3) fM g2 hF
  | succ r ih =>
    intro i p n1 n2 S M hi hn1 hn2 hT hp hS hM hD hc
    obtain ⟨n1, rfl⟩ : ∃ k, n1 = k + 1 := ⟨n1 - 1, by omega⟩
    obtain ⟨n2, rfl⟩ : ∃ k, n2 = k + 1 := ⟨n2 - 1, by omega⟩
    obtain ⟨r, S1, f, M1, a1, a2, a3, a4, a5⟩ := num_ok hT hp hS hM 0 23
    have fM : FMi M M1 := FMi.off (by intro j hj; simp at hj; omega) a4
    have z : ¬ (24 : Int32) < nI i := nI_nlt (a := 24) (by omega) (by omega)
    rw [lp_s, lp_s]; rw [b_X4_readStones_2, b_X10_takeStones_2]; rw [if_neg z, if_neg w10, z23, a1, a2, bnd_some, bnd_some]
    rcases a5 with ⟨rfl, rfl, e, e1, e2, e3, e4, e5, e6, e7, e8, e9⟩ | ⟨rfl, f0, hF⟩
    · rw [z0, z23i] at e7
      obtain ⟨w, -, hw, ew⟩ := n_in (a := 0) (b := 23) e7.1 e7.2
      have s12 : S1.1 12 = S.1 12 := a3.row (by omega)
      have m10 : M1.1 10 w = S.1 12 w := by rw [a4.row (k := 10) (by omega), ← hD.1.2.2.1 w (by omega)]
      rw [if_neg w10, e5, ew, at_in 12 S1 (show w < lnC 12 by show w < 24; omega), bn1_some, s12, if_pos rfl, chk_t _ (ib_nI (by omega) (by omega)), nI_n (by omega), m10]
      by_cases q0 : S.1 12 w = 0
      · rw [if_pos q0, if_pos q0, put_in 12 _ S1 (show w < lnC 12 by show w < 24; omega), bn1_some]
        unfold b_X10_takeStones_43
        rw [if_pos (show (0 : Int32) ≤ 0 by decide), ew, chk_t _ (ib_nI (by omega) (by omega)), nm_x, nI_n (by omega), nar1]
        obtain ⟨S2, hS2⟩ : ∃ T' : ST, T' = su S1 12 w 1 := ⟨_, rfl⟩
        obtain ⟨M2, hM2⟩ : ∃ T' : ST, T' = su M1 10 w 1 := ⟨_, rfl⟩
        rw [← hS2, ← hM2]
        have fS2 : FC S S2 := (FC.off a3).tr (by rw [hS2]; exact FC.su (by omega))
        have fM2 : FMi M M2 := fM.tr (by rw [hM2]; exact FMi.su (by omega))
        have r3 : S2.1 3 = S1.1 3 := by rw [hS2]; exact su_r _ _ _ _ (by omega)
        have r0 : M2.1 0 = M1.1 0 := by rw [hM2]; exact su_r _ _ _ _ (by omega)
        have D1 : DR S1 M1 := hD.fr (fun k k1 k2 => a3.row (by omega)) (fun k k1 k2 => a4.row (by omega))
        have D2 : DR S2 M2 := by rw [hS2, hM2]; exact D1.stone w
        have c2 : i + 1 ≤ cnt (S2.1 12) 24 := by
          have := cnt_set (f := S.1 12) (g := S2.1 12) (v := w) (fun j hj => by rw [hS2, su_o _ _ _ hj, s12]) (by rw [hS2, su_s]; decide) q0 24
          rw [this, if_pos (by omega)]
          omega
        obtain ⟨S3, q, b1, b2, b3, -⟩ := sign_ok (hT.fc fS2 fM2) e2 (by rw [r3]; exact e3) (by rw [r0]; exact e4) D2
        have c36 : S2.1 3 6 = S.1 3 6 := by rw [r3]; exact e9
        have c09 : M2.1 0 9 = M.1 0 9 := by rw [r0]; exact e8
        rcases b3 with ⟨d1, d2, d3, d4⟩ | ⟨d1, d2, d3⟩
        · rw [b1, bn1_some, d1, bn1_some, if_neg w10, nm_x, nI_1, d2, bnd_some]
          have fM3 : FMi M2 (su M2 0 10 (nI (q + 1))) := FMi.off (js := [10]) (by intro j hj; simp at hj; omega) (Off.rf.su 10 _ (by simp))
          have I := ih (i + 1) (q + 1) n1 n2 S3 (su M2 0 10 (nI (q + 1))) (by omega) (by omega) (by omega) (hT.fc (fS2.tr (FC.off b2)) (fM2.tr fM3)) d4 d3 (su_s _ _ _ _) (D2.fr (fun k k1 k2 => b2.row (by omega)) (fun k k1 k2 => su_r _ _ _ _ (by omega))) (by rw [b2.row (k := 12) (by omega)]; exact c2)
          exact I.pre (fS2.tr (FC.off b2)) (fM2.tr fM3) ((b2.at (by simp)).trans c36) ((su_o _ _ _ (by omega)).trans c09)
        · rw [b1, bn1_some, d1, bn1_some, if_pos rfl, d2, bnd_some]
          obtain ⟨n2, rfl⟩ : ∃ k, n2 = k + 1 := ⟨n2 - 1, by omega⟩
          rw [lp_s]; rw [b_X10_takeStones_2]; rw [if_pos rfl, bnd_some]
          unfold b_X10_takeClause_236
          rw [if_pos (show (0 : Int32) ≤ 0 by decide)]
          have eb : (bnd (f_X10_takeStop (su M2 0 10 (nI q))) fun r16 S15 => some (r16, S15)) = f_X10_takeStop (su M2 0 10 (nI q)) := by
            cases f_X10_takeStop (su M2 0 10 (nI q)) with
            | none => rfl
            | some w => rfl
          rw [eb]
          exact d3.pre fS2 fM2 c36 c09
      · rw [if_neg q0, if_neg q0, failC, bnd_some, chk_t _ (by decide), failsM, bnd_some]
        unfold b_X10_takeStones_43
        rw [if_neg (show ¬ (3 : Int32) ≤ 0 by decide), bnd_some]
        unfold b_X10_takeClause_236
        rw [if_neg (show ¬ (3 : Int32) ≤ 0 by decide)]
        exact Fin.bad ((FC.off a3).tr (FC.off (js := [5, 6]) ((Off.rf.su 5 _ (by simp)).su 6 _ (by simp)))) (fM.tr (FMi.off (js := [9]) (by intro j hj; simp at hj; omega) (Off.rf.su 9 _ (by simp)))) (by decide) ⟨Or.inr (Or.inr (Or.inl rfl)), by rw [su_o _ _ _ (by omega), su_s], by rw [su_s, su_s]; exact e6⟩
    · obtain ⟨g1, g2⟩ := hF.pos
      rw [if_pos rfl, if_neg f0]
      unfold b_X10_takeStones_43
      rw [if_neg g1, bnd_some]
      unfold b_X10_takeClause_236
      rw [if_neg g1]
      exact Fin.bad (FC.off a3) fM g2 hF
theorem bounds_ok : ∀ i, i < 9 → ∃ lo hi : Int32, f_X9_ats 3 (nI i) = some lo ∧ f_X9_ats 4 (nI i) = some hi ∧ lo.toInt = leastN i ∧ hi.toInt = mostM i := by
  intro i hi
  have h : ∀ i, i < 9 → f_X9_ats 3 (nI i) = some ((f_X9_ats 3 (nI i)).getD 0) ∧ f_X9_ats 4 (nI i) = some ((f_X9_ats 4 (nI i)).getD 0) ∧ ((f_X9_ats 3 (nI i)).getD 0).toInt = leastN i ∧ ((f_X9_ats 4 (nI i)).getD 0).toInt = mostM i := by decide +kernel
  obtain ⟨h1, h2, h3, h4⟩ := h i hi
  exact ⟨_, _, h1, h2, h3, h4⟩
/-- one number of the place is read, in both -/
theorem one_ok {len p i : Nat} {S M : ST} (hi : i < 9) (hT : TxR len S M) (hp : p ≤ len) (hS : S.1 3 1 = nI p) (hM : M.1 0 10 = nI p) (hD : DR S M) (lo hi' : Int32) (e1 : lo.toInt = leastN i) (e2 : hi'.toInt = mostM i) :
    ∃ (r : Int32) (S1 : ST) (f : Int32) (M1 : ST), (∀ (K : Int32 → Int32 → Int32 → ST → Option (Int32 × ST)) (v2 v3 : Int32), ¬ v2 + v3 ≤ nI i → b_X4_readNumbers_3 K v2 v3 (nI i) S = if r = 0 then some (0, S1) else K v2 v3 (nI (i + 1)) S1) ∧ f_X10_take (nI i) lo hi' M = some (f, M1) ∧ FC S S1 ∧ FMi M M1 ∧ ((r = 1 ∧ f = 0 ∧ (∃ e, e ≤ len ∧ S1.1 3 1 = nI e ∧ M1.1 0 10 = nI e) ∧ S1.1 3 6 = S.1 3 6 ∧ M1.1 0 9 = M.1 0 9 ∧ DR S1 M1) ∨ (r = 0 ∧ ¬ f = 0 ∧ Fld f S1 M1)) := by
  obtain ⟨lo', hi'', g1, g2, g3, g4⟩ := bounds_ok i hi
  have el : lo' = lo := i_ext (by rw [g3, e1])
  have eh : hi'' = hi' := i_ext (by rw [g4, e2])
  subst el
  subst eh
  obtain ⟨r, S1, f, M1, a1, a2, a3, a4, a5⟩ := num_ok hT hp hS hM lo' hi''
  have fM : FMi M M1 := FMi.off (by intro j hj; simp at hj; omega) a4
  have hm : f_X10_take (nI i) lo' hi'' M = some (f, su M1 8 i (M1.1 0 13)) := by
    unfold f_X10_take
    rw [a2, bnd_some, chk_t _ (ib_nI (by omega) (by omega)), nm_x, nI_n (by omega)]
  have fM2 : FMi M (su M1 8 i (M1.1 0 13)) := fM.tr (FMi.su (by omega))
  rcases a5 with ⟨rfl, rfl, e, x1, x2, x3, x4, x5, x6, x7, x8, x9⟩ | ⟨rfl, f0, hF⟩
  · refine ⟨1, su S1 10 i (M1.1 0 13), 0, _, fun K v2 v3 hv => ?_, hm, (FC.off a3).tr (FC.su (by omega)), fM2, Or.inl ⟨rfl, rfl, ⟨e, x2, by rw [su_r _ _ _ _ (by omega)]; exact x3, by rw [su_r _ _ _ _ (by omega)]; exact x4⟩, by rw [su_r _ _ _ _ (by omega)]; exact x9, by rw [su_r _ _ _ _ (by omega)]; exact x8, ?_⟩⟩
    · rw [b_X4_readNumbers_3]; rw [if_neg hv, g1, bn1_some, g2, bn1_some, a1, bnd_some, if_neg w10, if_neg w10, put_in 10 _ S1 (show i < lnC 10 from hi), bn1_some, nm_x, nI_1, x5]
    · rw [e1, e2] at x7
      exact (hD.fr (fun k k1 k2 => a3.row (by omega)) (fun k k1 k2 => a4.row (by omega))).num hi x7
  · refine ⟨0, S1, f, _, fun K v2 v3 hv => ?_, hm, FC.off a3, fM2, Or.inr ⟨rfl, f0, hF.1, hF.2.1, by rw [su_r _ _ _ _ (by omega)]; exact hF.2.2⟩⟩
    rw [b_X4_readNumbers_3]; rw [if_neg hv, g1, bn1_some, g2, bn1_some, a1, bnd_some, if_pos rfl, if_pos rfl]
/-- the end of the numbers of a clause -/
theorem nend_ok {len p : Nat} {S M : ST} (hT : TxR len S M) (hp : p ≤ len) (hS : S.1 3 1 = nI p) (hM : M.1 0 10 = nI p) (hD : DR S M) (K : Int32 → Int32 → Int32 → ST → Option (Int32 × ST)) {v2 v3 v5 : Int32} (h : v2 + v3 ≤ v5) : Fin len S M (b_X4_readNumbers_3 K v2 v3 v5 S) (b_X10_takeClause_236 0 M) := by
  obtain ⟨S1, q, a1, a2, -, a4⟩ := sign_ok hT hp hS hM hD
  have eC : b_X4_readNumbers_3 K v2 v3 v5 S = endC S1 := by
    rw [b_X4_readNumbers_3]; rw [if_pos h, a1, bn1_some]
    rfl
  have eb : b_X10_takeClause_236 0 M = f_X10_takeStop M := by
    unfold b_X10_takeClause_236
    rw [if_pos (show (0 : Int32) ≤ 0 by decide)]
    cases f_X10_takeStop M with
    | none => rfl
    | some w => rfl
  rw [eC, eb]
  exact a4
theorem bad236 {f : Int32} {S M : ST} (M1 : ST) (h : Fld f S M) : b_X10_takeClause_236 f M1 = some (f, M1) := by
  unfold b_X10_takeClause_236
  rw [if_neg h.pos.1]
theorem n1_ok {len p i : Nat} {S M : ST} (hi : i < 9) (hT : TxR len S M) (hp : p ≤ len) (hS : S.1 3 1 = nI p) (hM : M.1 0 10 = nI p) (hD : DR S M) (lo hi' : Int32) (e1 : lo.toInt = leastN i) (e2 : hi'.toInt = mostM i) (hv : ¬ nI i + 1 ≤ nI i) (hv2 : nI i + 1 ≤ nI (i + 1)) : Fin len S M (f_X4_readNumbers (nI i) 1 S) (bnd (f_X10_take (nI i) lo hi' M) fun r S => b_X10_takeClause_236 r S) := by
  obtain ⟨r, S1, f, M1, a1, a2, a3, a4, a5⟩ := one_ok hi hT hp hS hM hD lo hi' e1 e2
  have e1000 : (1000 : Nat) = 998 + 1 + 1 := rfl
  unfold f_X4_readNumbers
  rw [e1000, lp_s, a1 _ _ _ hv, a2, bnd_some]
  rcases a5 with ⟨rfl, rfl, ⟨e, x1, x2, x3⟩, x4, x5, x6⟩ | ⟨rfl, f0, hF⟩
  · rw [if_neg w10, lp_s]
    exact (nend_ok (hT.fc a3 a4) x1 x2 x3 x6 _ hv2).pre a3 a4 x4 x5
  · rw [if_pos rfl, bad236 M1 hF]
    exact Fin.bad a3 a4 f0 hF
/-- the two numbers of the start -/
theorem n2_ok {len p : Nat} {S M : ST} (hT : TxR len S M) (hp : p ≤ len) (hS : S.1 3 1 = nI p) (hM : M.1 0 10 = nI p) (hD : DR S M) : Fin len S M (f_X4_readNumbers (nI 4) (nI 2) S) (bnd (f_X10_takeStart M) fun r S => b_X10_takeClause_236 r S) := by
  have e1000 : (1000 : Nat) = 997 + 1 + 1 + 1 := rfl
  unfold f_X4_readNumbers f_X10_takeStart
  obtain ⟨r, S1, f, M1, a1, a2, a3, a4, a5⟩ := one_ok (i := 4) (by omega) hT hp hS hM hD 0 80 (by decide) (by decide)
  have a2' : f_X10_take (4 : Int32) 0 80 M = some (f, M1) := a2
  rw [e1000, lp_s, a1 _ _ _ (by decide), a2', bnd_some]
  rcases a5 with ⟨rfl, rfl, ⟨e, x1, x2, x3⟩, x4, x5, x6⟩ | ⟨rfl, f0, hF⟩
  · obtain ⟨r, S2, f, M2, b1, b2, b3, b4, b5⟩ := one_ok (i := 5) (by omega) (hT.fc a3 a4) x1 x2 x3 x6 0 600 (by decide) (by decide)
    have b2' : f_X10_take (5 : Int32) 0 600 M1 = some (f, M2) := b2
    rw [if_neg w10, lp_s, b1 _ _ _ (by decide), if_pos (show (0 : Int32) ≤ 0 by decide), b2', bnd_some, bnd_some]
    rcases b5 with ⟨rfl, rfl, ⟨e, y1, y2, y3⟩, y4, y5, y6⟩ | ⟨rfl, f0, hF⟩
    · rw [if_neg w10, lp_s]
      exact (nend_ok (hT.fc (a3.tr b3) (a4.tr b4)) y1 y2 y3 y6 _ (by decide)).pre (a3.tr b3) (a4.tr b4) (y4.trans x4) (y5.trans x5)
    · rw [if_pos rfl, bad236 M2 hF]
      exact Fin.bad (a3.tr b3) (a4.tr b4) f0 hF
  · rw [if_pos rfl, if_neg hF.pos.1, bnd_some, bad236 M1 hF]
    exact Fin.bad a3 a4 f0 hF
/-- the three numbers of the rope -/
theorem n3_ok {len p : Nat} {S M : ST} (hT : TxR len S M) (hp : p ≤ len) (hS : S.1 3 1 = nI p) (hM : M.1 0 10 = nI p) (hD : DR S M) : Fin len S M (f_X4_readNumbers (nI 1) (nI 3) S) (bnd (f_X10_takeRope M) fun r S => b_X10_takeClause_236 r S) := by
  have e1000 : (1000 : Nat) = 996 + 1 + 1 + 1 + 1 := rfl
  unfold f_X4_readNumbers f_X10_takeRope
  obtain ⟨r, S1, f, M1, a1, a2, a3, a4, a5⟩ := one_ok (i := 1) (by omega) hT hp hS hM hD 100 900 (by decide) (by decide)
  have a2' : f_X10_take (1 : Int32) 100 900 M = some (f, M1) := a2
  rw [e1000, lp_s, a1 _ _ _ (by decide), a2', bnd_some]
  rcases a5 with ⟨rfl, rfl, ⟨e, x1, x2, x3⟩, x4, x5, x6⟩ | ⟨rfl, f0, hF⟩
  · obtain ⟨r, S2, f, M2, b1, b2, b3, b4, b5⟩ := one_ok (i := 2) (by omega) (hT.fc a3 a4) x1 x2 x3 x6 20 999 (by decide) (by decide)
    have b2' : f_X10_take (2 : Int32) 20 999 M1 = some (f, M2) := b2
    rw [if_neg w10, lp_s, b1 _ _ _ (by decide), if_pos (show (0 : Int32) ≤ 0 by decide), b2', bnd_some]
    rcases b5 with ⟨rfl, rfl, ⟨e, y1, y2, y3⟩, y4, y5, y6⟩ | ⟨rfl, f0, hF⟩
    · obtain ⟨r, S3, f, M3, c1, c2, c3, c4, c5⟩ := one_ok (i := 3) (by omega) (hT.fc (a3.tr b3) (a4.tr b4)) y1 y2 y3 y6 0 99 (by decide) (by decide)
      have c2' : f_X10_take (3 : Int32) 0 99 M2 = some (f, M3) := c2
      unfold b_X10_takeRope_29
      rw [if_neg w10, lp_s, c1 _ _ _ (by decide), if_pos (show (0 : Int32) ≤ 0 by decide), c2', bnd_some, bnd_some]
      rcases c5 with ⟨rfl, rfl, ⟨e, z1, z2, z3⟩, z4, z5, z6⟩ | ⟨rfl, f0, hF⟩
      · rw [if_neg w10, lp_s]
        exact (nend_ok (hT.fc ((a3.tr b3).tr c3) ((a4.tr b4).tr c4)) z1 z2 z3 z6 _ (by decide)).pre ((a3.tr b3).tr c3) ((a4.tr b4).tr c4) (z4.trans (y4.trans x4)) (z5.trans (y5.trans x5))
      · rw [if_pos rfl, bad236 M3 hF]
        exact Fin.bad ((a3.tr b3).tr c3) ((a4.tr b4).tr c4) f0 hF
    · unfold b_X10_takeRope_29
      rw [if_pos rfl, if_neg hF.pos.1, bnd_some, bad236 M2 hF]
      exact Fin.bad (a3.tr b3) (a4.tr b4) f0 hF
  · unfold b_X10_takeRope_29
    rw [if_pos rfl, if_neg hF.pos.1, if_neg hF.pos.1, bnd_some, bad236 M1 hF]
    exact Fin.bad a3 a4 f0 hF
