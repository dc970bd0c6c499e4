theorem nI_m1 {n : Nat} (h : n < 2000) : nI (n + 1) + -1 = nI n := by
  have c1 : (-1 : Int32).toInt = -1 := rfl
  refine i_ext ?_
  rw [ti_addc c1 (by rw [nI_i (by omega)]; omega) (by rw [nI_i (by omega)]; omega), nI_i (by omega), nI_i (by omega)]
  omega
/-- the hardest pull of all TICKs, in the class -/
theorem hard_loop {B L A V W : Int32} {S : ST} (hP : PathOK B L A V S) : ∀ (r t n : Nat) (v : Int32), t + r = 201 → r < n → ∃ x, lp (fun _ _ _ => none) (b_X1_hardestPull_4 S) n W v (nI t) = some x ∧ ∀ st : Int32, x.toInt ≤ st.toInt ↔ (v.toInt ≤ st.toInt ∧ ∀ u, t ≤ u → u ≤ 200 → (pls W L (trs L A V u)).toInt ≤ st.toInt) := by
  intro r
  induction r with
  | zero =>
    intro t n v ht hn
    obtain ⟨n, rfl⟩ : ∃ k, n = k + 1 := ⟨n - 1, by omega⟩
    refine ⟨v, ?_, fun st => ⟨fun h => ⟨h, fun u h1 h2 => by omega⟩, fun h => h.1⟩⟩
    rw [lp_s]; rw [b_X1_hardestPull_4]; rw [if_pos (show (200 : Int32) < nI t from nI_lt (a := 200) (by omega) (by omega))]
  | succ r ih =>
    intro t n v ht hn
    obtain ⟨n, rfl⟩ : ∃ k, n = k + 1 := ⟨n - 1, by omega⟩
    obtain ⟨x, x1, x2⟩ := ih (t + 1) n (if v < pls W L (trs L A V t) then pls W L (trs L A V t) else v) (by omega) (by omega)
    refine ⟨x, ?_, fun st => ?_⟩
    · rw [lp_s]; rw [b_X1_hardestPull_4]; rw [if_neg (show ¬ (200 : Int32) < nI t from nI_nlt (a := 200) (by omega) (by omega)), pullC hP (by omega), bn1_some, nm_x, nm_x, nI_1]
      exact x1
    · rw [x2 st]
      have key : (if v < pls W L (trs L A V t) then pls W L (trs L A V t) else v).toInt ≤ st.toInt ↔ v.toInt ≤ st.toInt ∧ (pls W L (trs L A V t)).toInt ≤ st.toInt := by
        by_cases q : v < pls W L (trs L A V t)
        · rw [if_pos q]; rw [i_lt] at q; omega
        · rw [if_neg q]; rw [i_lt] at q; omega
      rw [key]
      constructor
      · rintro ⟨⟨h1, h2⟩, h3⟩
        refine ⟨h1, fun u u1 u2 => ?_⟩
        by_cases hu : u = t
        · rw [hu]; exact h2
        · exact h3 u (by omega) u2
      · rintro ⟨h1, h2⟩
        exact ⟨⟨h1, h2 t (by omega) (by omega)⟩, fun u u1 u2 => h2 u (by omega) u2⟩
/-- the reference's loop over the TICKs for one weight -/
theorem heavy35 {W G L A V st : Int32} (hR : Rg L A V) {w : Nat} (hw : w ≤ 150) (K : Int32 → ST → Option (Int32 × ST)) {M : ST} (hC : ∀ t, t < 201 → MCol W G L A V t M) (h21 : M.1 0 21 = L) (h23 : M.1 0 23 = st) :
    ∀ (r t n : Nat), 1 ≤ t → t + r = 201 → r + 1 < n → ((∀ u, t ≤ u → u ≤ 200 → (pls (nI w) L (trs L A V u)).toInt ≤ st.toInt) → lp (fun _ _ _ _ => none) (b_X10_heavy_35 K) n (nI w) 1 (nI t) M = b_X10_heavy_82 K (nI w) 1 M) ∧ (¬ (∀ u, t ≤ u → u ≤ 200 → (pls (nI w) L (trs L A V u)).toInt ≤ st.toInt) → lp (fun _ _ _ _ => none) (b_X10_heavy_35 K) n (nI w) 1 (nI t) M = b_X10_heavy_82 K (nI w) 0 M) := by
  have hwi : (nI w).toInt = w := nI_i (by omega)
  intro r
  induction r with
  | zero =>
    intro t n h1 ht hn
    obtain ⟨n, rfl⟩ : ∃ k, n = k + 1 := ⟨n - 1, by omega⟩
    refine ⟨fun _ => ?_, fun h => absurd (fun u u1 u2 => by omega) h⟩
    rw [lp_s]; rw [b_X10_heavy_35]; rw [if_pos (show (200 : Int32) < nI t from nI_lt (a := 200) (by omega) (by omega))]
  | succ r ih =>
    intro t n h1 ht hn
    obtain ⟨n, rfl⟩ : ∃ k, n = k + 1 := ⟨n - 1, by omega⟩
    obtain ⟨i1, i2⟩ := ih (t + 1) n (by omega) (by omega) (by omega)
    obtain ⟨hb, hp⟩ := pc_b2 hR (t := t) (by omega)
    have pm := pullM (W := nI w) (L := L) (p := (trs L A V t).2) (trs L A V t).1 M hR.1 hR.2.1 hb hp (by omega) (by omega) h21
    have c1 : lp (fun _ _ _ _ => none) (b_X10_heavy_35 K) (n + 1) (nI w) 1 (nI t) M = if st < pls (nI w) L (trs L A V t) then lp (fun _ _ _ _ => none) (b_X10_heavy_35 K) n (nI w) 0 (nI (t + 1)) M else lp (fun _ _ _ _ => none) (b_X10_heavy_35 K) n (nI w) 1 (nI (t + 1)) M := by
      rw [lp_s]; rw [b_X10_heavy_35]; rw [if_neg (show ¬ (200 : Int32) < nI t from nI_nlt (a := 200) (by omega) (by omega)), if_neg w10, chk_t _ (ib_nI (by omega) (by omega)), chk_t _ (ib_nI (by omega) (by omega)), nI_n (by omega), (hC t (by omega)).1, (hC t (by omega)).2.1, pm, bn1_some, nm_x, nm_x, nI_1, h23]
    rw [c1]
    by_cases q : st < pls (nI w) L (trs L A V t)
    · rw [if_pos q]
      have q2 := i_lt.mp q
      have c2 : lp (fun _ _ _ _ => none) (b_X10_heavy_35 K) n (nI w) 0 (nI (t + 1)) M = b_X10_heavy_82 K (nI w) 0 M := by
        obtain ⟨n, rfl⟩ : ∃ k, n = k + 1 := ⟨n - 1, by omega⟩
        rw [lp_s]; rw [b_X10_heavy_35]
        by_cases z : (200 : Int32) < nI (t + 1)
        · rw [if_pos z]
        · rw [if_neg z, if_pos rfl]
      exact ⟨fun h => absurd (h t (by omega) (by omega)) (by omega), fun _ => c2⟩
    · rw [if_neg q]
      have q2 : ¬ st.toInt < (pls (nI w) L (trs L A V t)).toInt := fun h => q (i_lt.mpr h)
      refine ⟨fun h => i1 (fun u u1 u2 => h u (by omega) u2), fun h => i2 (fun h2 => h (fun u u1 u2 => ?_))⟩
      by_cases hu : u = t
      · rw [hu]; omega
      · exact h2 u (by omega) u2
theorem heavy_loop {B W0 G L A V st : Int32} (hR : Rg L A V) {S M : ST} (hP : PathOK B L A V S) (hC : ∀ t, t < 201 → MCol W0 G L A V t M) (h21 : M.1 0 21 = L) (h23 : M.1 0 23 = st) :
    ∀ (r n1 n2 : Nat), r ≤ 141 → r < n1 → r < n2 → ∃ x, lp (fun _ _ _ => none) b_X9_heavy_22 n1 st (nI (9 + r)) S = some (x, S) ∧ lp (fun _ _ => none) b_X10_heavy_25 n2 (nI (9 + r)) M = some (x, M) := by
  intro r
  induction r with
  | zero =>
    intro n1 n2 hr hn1 hn2
    obtain ⟨n1, rfl⟩ : ∃ k, n1 = k + 1 := ⟨n1 - 1, by omega⟩
    obtain ⟨n2, rfl⟩ : ∃ k, n2 = k + 1 := ⟨n2 - 1, by omega⟩
    have z : nI (9 + 0) < (10 : Int32) := nI_lt (b := 10) (by omega) (by omega)
    refine ⟨-1, ?_, ?_⟩
    · rw [lp_s]; rw [b_X9_heavy_22]; rw [least0, bn1_some, if_pos z]
    · rw [lp_s]; rw [b_X10_heavy_25]; rw [if_pos z]
  | succ r ih =>
    intro n1 n2 hr hn1 hn2
    obtain ⟨n1, rfl⟩ : ∃ k, n1 = k + 1 := ⟨n1 - 1, by omega⟩
    obtain ⟨n2, rfl⟩ : ∃ k, n2 = k + 1 := ⟨n2 - 1, by omega⟩
    obtain ⟨w, hw⟩ : ∃ w, w = 9 + (r + 1) := ⟨_, rfl⟩
    rw [← hw]
    have hw2 : 9 + r = w - 1 := by omega
    have ih := ih n1 n2 (by omega) (by omega) (by omega)
    rw [hw2] at ih
    have z : ¬ nI w < (10 : Int32) := nI_nlt (b := 10) (by omega) (by omega)
    have em : nI w + -1 = nI (w - 1) := by
      have := nI_m1 (n := w - 1) (by omega)
      rwa [show w - 1 + 1 = w by omega] at this
    obtain ⟨x, x1, x2⟩ := hard_loop (W := nI w) hP 200 1 1000 0 (by omega) (by omega)
    have x1' : f_X1_hardestPull (nI w) S = some x := x1
    have x3 : x.toInt ≤ st.toInt ↔ ∀ u, 1 ≤ u → u ≤ 200 → (pls (nI w) L (trs L A V u)).toInt ≤ st.toInt := by
      rw [x2 st]
      refine ⟨fun h => h.2, fun h => ⟨?_, h⟩⟩
      have p1 := (pls_b (W := nI w) hR (by rw [nI_i (by omega)]; omega) (by rw [nI_i (by omega)]; omega) (t := 1) (by omega)).1
      have p2 := h 1 (by omega) (by omega)
      have c0 : (0 : Int32).toInt = 0 := rfl
      omega
    obtain ⟨y1, y2⟩ := heavy35 hR (w := w) (by omega) (lp (fun _ _ => none) b_X10_heavy_25 n2) hC h21 h23 200 1 1000 (by omega) (by omega) (by omega)
    have y1' : (∀ u, 1 ≤ u → u ≤ 200 → (pls (nI w) L (trs L A V u)).toInt ≤ st.toInt) → lp (fun _ _ _ _ => none) (b_X10_heavy_35 (lp (fun _ _ => none) b_X10_heavy_25 n2)) 1000 (nI w) (1 : Int32) (1 : Int32) M = b_X10_heavy_82 (lp (fun _ _ => none) b_X10_heavy_25 n2) (nI w) 1 M := y1
    have y2' : ¬ (∀ u, 1 ≤ u → u ≤ 200 → (pls (nI w) L (trs L A V u)).toInt ≤ st.toInt) → lp (fun _ _ _ _ => none) (b_X10_heavy_35 (lp (fun _ _ => none) b_X10_heavy_25 n2)) 1000 (nI w) (1 : Int32) (1 : Int32) M = b_X10_heavy_82 (lp (fun _ _ => none) b_X10_heavy_25 n2) (nI w) 0 M := y2
    have c1 : lp (fun _ _ _ => none) b_X9_heavy_22 (n1 + 1) st (nI w) S = if st < x then lp (fun _ _ _ => none) b_X9_heavy_22 n1 st (nI (w - 1)) S else some (nI w, S) := by
      rw [lp_s]; rw [b_X9_heavy_22]; rw [least0, bn1_some, if_neg z, x1', bn1_some, nm_x, em]
    rw [c1, lp_s]; rw [b_X10_heavy_25]; rw [if_neg z]
    by_cases q : st < x
    · rw [if_pos q]
      have q2 := i_lt.mp q
      rw [y2' (fun h => by have := x3.mpr h; omega)]
      unfold b_X10_heavy_82
      rw [if_pos rfl, nm_x, em]
      exact ih
    · rw [if_neg q]
      have q2 : ¬ st.toInt < x.toInt := fun h => q (i_lt.mpr h)
      rw [y1' (x3.mp (by omega))]
      unfold b_X10_heavy_82
      rw [if_neg w10]
      exact ⟨_, rfl, rfl⟩
/-- the range of what is in hand -/
theorem QR.rg {h : Nat} {S M : ST} (hQ : QR h S M) : Rg (M.1 1 1 - M.1 6 1) (M.1 6 3) (M.1 6 4) := by
  obtain ⟨hP, hH, -⟩ := hQ
  obtain ⟨-, -, ⟨pL1, pL2⟩, -⟩ := hP
  obtain ⟨-, -, ⟨qk1, qk2⟩, qk, -, ⟨qA1, qA2⟩, ⟨qV1, qV2⟩⟩ := hH
  have eL : (M.1 1 1 - M.1 6 1).toInt = (M.1 1 1).toInt - (M.1 6 1).toInt := ti_sub (by omega) (by omega)
  exact ⟨by omega, by omega, qA1, qA2, qV1, qV2⟩
theorem heavy_ok {h : Nat} {S M : ST} (hQ : QR h S M) : Ans S M (f_X9_heavy S) (f_X10_heavy M) := by
  obtain ⟨S1, c1, cP, cF, cR⟩ := traceNow_ok hQ
  have sf : SF S S1 := SF.fr (by omega) cF
  have hH := hQ.2.1
  have p0 := hQ.1.1
  obtain ⟨y, hy, ey⟩ := In.n (b := 40) hH.2.2.2.2.1
  obtain ⟨M1, d1, d2, d3, d4, d5⟩ := useHandM (y := y) M (by omega) ey
  obtain ⟨T, hT⟩ : ∃ T : ST, T = su (su M1 0 24 10) 0 26 300 := ⟨_, rfl⟩
  have OT : Off 0 [21, 22, 23, 24, 26] M T := by rw [hT]; exact ((d2.wd (by intro j hj; simp at hj ⊢; omega)).su 24 _ (by simp)).su 26 _ (by simp)
  have t21 : T.1 0 21 = M.1 1 1 - M.1 6 1 := by rw [hT]; simp [su_1, d3]
  have t22 : T.1 0 22 = M.1 6 4 := by rw [hT]; simp [su_1, d4]
  have t23 : T.1 0 23 = stg (M.1 1 2) (M.1 1 3) y := by rw [hT]; simp [su_1, d5]
  obtain ⟨M2, g1, g2, g3⟩ := mswing_ok (W := 10) (G := 300) hQ.rg (by decide) (by decide) (by decide) (S := T) t21 t22 (by rw [OT.row (k := 6) (by omega)]) (by rw [hT]; simp [su_1]) (by rw [hT]; simp [su_1])
  have mf : MF M M2 := (MF.off (by intro j hj; simp at hj; omega) OT).tr (MF.fr (by omega) (by omega) g3)
  have k2 : f_X5_inHand (2 : Int32) S1 = some (nI y) := (handC (i := 2) S1 (by omega)).trans (congrArg some (by rw [sf 32 (by omega), hH.1 2 (by omega), ey]))
  have k5 : f_X9_strengthAfter (nI y) S1 = some (stg (M.1 1 2) (M.1 1 3) y) := by rw [stC S1 (by omega), sf 5 (by omega), p0.1 2 (by omega), p0.1 3 (by omega)]
  obtain ⟨x, x1, x2⟩ := heavy_loop (st := stg (M.1 1 2) (M.1 1 3) y) hQ.rg cP g2 (by rw [g3 0 (by omega)]; exact t21) (by rw [g3 0 (by omega)]; exact t23) 141 1000 1000 (by omega) (by omega) (by omega)
  have x1' : lp (fun _ _ _ => none) b_X9_heavy_22 1000 (stg (M.1 1 2) (M.1 1 3) y) (150 : Int32) S1 = some (x, S1) := x1
  have x2' : lp (fun _ _ => none) b_X10_heavy_25 1000 (150 : Int32) M2 = some (x, M2) := x2
  unfold f_X9_heavy f_X10_heavy
  rw [c1, bn1_some, k2, bn1_some, k5, bn1_some, most0, bn1_some, d1, bn1_some, nm_x, nm_x, ← hT, g1, bn1_some, x1', x2']
  exact Ans.of _ sf mf cP.pc
