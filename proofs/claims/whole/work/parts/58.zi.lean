theorem pls_b {W L A V : Int32} (hR : Rg L A V) (w1 : 0 ≤ W.toInt) (w2 : W.toInt ≤ 150) {t : Nat} (ht : t < 201) : 0 ≤ (pls W L (trs L A V t)).toInt ∧ (pls W L (trs L A V t)).toInt ≤ 329301 := by
  obtain ⟨hb, hp⟩ := pc_b2 hR ht
  obtain ⟨e, e1, e2, e3, e4, d1, d2, d3⟩ := ld_b (L := L) (p := (trs L A V t).2) (trs L A V t).1 hR.1 hR.2.1 hb hp
  have c1 : (100 : Int32).toInt = 100 := rfl
  have c0 : (0 : Int32).toInt = 0 := rfl
  have e4' : (lds L (trs L A V t)).toInt = (cs ((trs L A V t).1 / 100)).toInt.tdiv 10 + e := e4
  generalize hz : (cs ((trs L A V t).1 / 100)).toInt.tdiv 10 + e = z at *
  have z1 : z.natAbs ≤ 219534 := by omega
  have m1 : (W.toInt * z).natAbs ≤ 150 * 219534 := mul_b (by omega) z1
  have g1 : (W * lds L (trs L A V t)).toInt = W.toInt * z := by rw [ti_mul (by rw [e4']; omega) (by rw [e4']; omega), e4']
  have g2 : (W * lds L (trs L A V t) / 100).toInt = (W.toInt * z).tdiv 100 := by rw [ti_div (by rw [c1]; decide), g1, c1]
  have m2 := tdiv_b (d := 100) m1
  have m3 : (150 * 219534 : Nat) / (100 : Int).natAbs ≤ 329301 := by decide
  unfold pls
  by_cases q : (0 : Int32) < W * lds L (trs L A V t) / 100
  · rw [if_pos q, g2]
    rw [i_lt, c0, g2] at q
    omega
  · rw [if_neg q, c0]; omega
theorem lfs_s {W G L A V : Int32} (hR : Rg L A V) (w1 : 0 ≤ W.toInt) (w2 : W.toInt ≤ 150) (g1 : 10 ≤ G.toInt) : ∀ t : Nat, t < 201 → (-(658602 * (t : Int)) ≤ (lfs W G L A V t).toInt ∧ (lfs W G L A V t).toInt ≤ 1000) ∧ ∀ u, u ≤ t → (lfs W G L A V t).toInt ≤ (lfs W G L A V u).toInt := by
  have c20 : (20 : Int32).toInt = 20 := rfl
  have ck : (1000 : Int32).toInt = 1000 := rfl
  intro t
  induction t with
  | zero =>
    intro _
    refine ⟨?_, fun u hu => ?_⟩
    · show _ ≤ (1000 : Int32).toInt ∧ (1000 : Int32).toInt ≤ _
      rw [ck]; omega
    · have : u = 0 := by omega
      subst this; exact Int.le_refl _
  | succ t ih =>
    intro ht
    obtain ⟨⟨b1, b2⟩, b3⟩ := ih (by omega)
    obtain ⟨p1, p2⟩ := pls_b (W := W) hR w1 w2 ht
    have e1 : (pls W L (trs L A V (t + 1)) * 20).toInt = (pls W L (trs L A V (t + 1))).toInt * 20 := by rw [ti_mul (by rw [c20]; omega) (by rw [c20]; omega), c20]
    have e2 : (pls W L (trs L A V (t + 1)) * 20 / G).toInt = ((pls W L (trs L A V (t + 1))).toInt * 20).tdiv G.toInt := by rw [ti_div (by omega), e1]
    have n1 : 0 ≤ ((pls W L (trs L A V (t + 1))).toInt * 20).tdiv G.toInt := Int.tdiv_nonneg (by omega) (by omega)
    have n2 : (((pls W L (trs L A V (t + 1))).toInt * 20).tdiv G.toInt).natAbs ≤ 658602 := by
      have q1 := tdiv_b (x := (pls W L (trs L A V (t + 1))).toInt * 20) (d := G.toInt) (m := 6586020) (by omega)
      have q2 : 6586020 / G.toInt.natAbs ≤ 6586020 / 10 := Nat.div_le_div_left (by omega) (by decide)
      omega
    have e3 : (lfs W G L A V (t + 1)).toInt = (lfs W G L A V t).toInt - ((pls W L (trs L A V (t + 1))).toInt * 20).tdiv G.toInt := by
      show (lfs W G L A V t - pls W L (trs L A V (t + 1)) * 20 / G).toInt = _
      rw [ti_sub (by rw [e2]; omega) (by rw [e2]; omega), e2]
    generalize ((pls W L (trs L A V (t + 1))).toInt * 20).tdiv G.toInt = x at *
    refine ⟨by omega, fun u hu => ?_⟩
    by_cases hut : u = t + 1
    · subst hut; exact Int.le_refl _
    · have := b3 u (by omega)
      omega
theorem i_lt0 {x : Int32} : x < 0 ↔ x.toInt < 0 := by
  rw [i_lt, show (0 : Int32).toInt = 0 from rfl]
/-- the reference's loop over the TICKs for one grip -/
theorem strong44 {W G0 L A V : Int32} (hR : Rg L A V) (w1 : 0 ≤ W.toInt) (w2 : W.toInt ≤ 150) {g T : Nat} (g1 : 10 ≤ g) (g2 : g ≤ 300) (hT : T < 201) (K : Int32 → Int32 → ST → Option (Int32 × ST)) {M : ST} (hC : ∀ t, t < 201 → MCol W G0 L A V t M) :
    ∀ (r k n : Nat), k + r = T → r < n → lp (fun _ _ _ _ _ => none) (b_X10_strong_44 K) n (nI T) (nI g) (lfs W (nI g) L A V k) (nI (k + 1)) M = b_X10_strong_78 K (nI T) (nI g) (lfs W (nI g) L A V T) M := by
  have hG : 10 ≤ (nI g).toInt := by rw [nI_i (by omega)]; omega
  intro r
  induction r with
  | zero =>
    intro k n hk hn
    obtain ⟨n, rfl⟩ : ∃ k, n = k + 1 := ⟨n - 1, by omega⟩
    have e : k = T := by omega
    subst e
    rw [lp_s]
    rw [b_X10_strong_44]
    rw [if_pos (nI_lt (by omega) (by omega))]
  | succ r ih =>
    intro k n hk hn
    obtain ⟨n, rfl⟩ : ∃ k, n = k + 1 := ⟨n - 1, by omega⟩
    rw [lp_s]
    rw [b_X10_strong_44]
    rw [if_neg (nI_nlt (by omega) (by omega))]
    by_cases q : lfs W (nI g) L A V k < 0
    · have q2 : lfs W (nI g) L A V T < 0 := by
        have := (lfs_s (W := W) (G := nI g) hR w1 w2 hG T hT).2 k (by omega)
        rw [i_lt0] at q ⊢
        omega
      rw [if_pos q]
      unfold b_X10_strong_78
      rw [if_pos q, if_pos q2]
    · have z : nz (nI g) = true := by simp [nz, nI_ne0 (n := g) (by omega) (by omega)]
      rw [if_neg q, chk_t _ (ib_nI (by omega) (by omega)), chk_t _ z, nm_x, nm_x, nI_n (by omega), (hC (k + 1) (by omega)).2.2.1 (by omega), nI_1]
      exact ih (k + 1) n (by omega) (by omega)
theorem most2 (S : ST) : f_X6_most (2 : Int32) S = some 300 := by
  have : f_X9_ats 6 2 = some 300 := by decide +kernel
  unfold f_X6_most
  rw [this, bn1_some]
theorem least2 (S : ST) : f_X6_least (2 : Int32) S = some 10 := by
  have : f_X9_ats 5 2 = some 10 := by decide +kernel
  unfold f_X6_least
  rw [this, bn1_some]
theorem most0 (S : ST) : f_X6_most (0 : Int32) S = some 150 := by
  have : f_X9_ats 6 0 = some 150 := by decide +kernel
  unfold f_X6_most
  rw [this, bn1_some]
theorem least0 (S : ST) : f_X6_least (0 : Int32) S = some 10 := by
  have : f_X9_ats 5 0 = some 10 := by decide +kernel
  unfold f_X6_least
  rw [this, bn1_some]
theorem most4 (S : ST) : f_X6_most (4 : Int32) S = some 36 := by
  have : f_X9_ats 6 4 = some 36 := by decide +kernel
  unfold f_X6_most
  rw [this, bn1_some]
theorem least4 (S : ST) : f_X6_least (4 : Int32) S = some 0 := by
  have : f_X9_ats 5 4 = some 0 := by decide +kernel
  unfold f_X6_least
  rw [this, bn1_some]
theorem strong_loop {B W G0 L A V : Int32} (hR : Rg L A V) (w1 : 0 ≤ W.toInt) (w2 : W.toInt ≤ 150) {T k : Nat} (hT : T < 201) {S M : ST} (hC : ∀ t, t < 201 → MCol W G0 L A V t M) (hP : PathOK B L A V S) (hw : f_X6_number k (0 : Int32) S = some W) :
    ∀ (r g n1 n2 : Nat), g + r = 301 → 10 ≤ g → r < n1 → r < n2 → ∃ x, lp (fun _ _ _ _ => none) b_X9_strong_37 n1 (nI T) k (nI g) S = some (x, S) ∧ lp (fun _ _ _ => none) b_X10_strong_29 n2 (nI T) (nI g) M = some (x, M) := by
  intro r
  induction r with
  | zero =>
    intro g n1 n2 hg h10 hn1 hn2
    obtain ⟨n1, rfl⟩ : ∃ k, n1 = k + 1 := ⟨n1 - 1, by omega⟩
    obtain ⟨n2, rfl⟩ : ∃ k, n2 = k + 1 := ⟨n2 - 1, by omega⟩
    have z : (300 : Int32) < nI g := nI_lt (a := 300) (by omega) (by omega)
    refine ⟨-1, ?_, ?_⟩
    · rw [lp_s]; rw [b_X9_strong_37]; rw [most2, bn1_some, if_pos z]
    · rw [lp_s]; rw [b_X10_strong_29]; rw [if_pos z]
  | succ r ih =>
    intro g n1 n2 hg h10 hn1 hn2
    obtain ⟨n1, rfl⟩ : ∃ k, n1 = k + 1 := ⟨n1 - 1, by omega⟩
    obtain ⟨n2, rfl⟩ : ∃ k, n2 = k + 1 := ⟨n2 - 1, by omega⟩
    have z : ¬ (300 : Int32) < nI g := nI_nlt (a := 300) (by omega) (by omega)
    have e := strong44 hR w1 w2 h10 (by omega) hT (lp (fun _ _ _ => none) b_X10_strong_29 n2) hC T 0 1000 (by omega) (by omega)
    have e' : lp (fun _ _ _ _ _ => none) (b_X10_strong_44 (lp (fun _ _ _ => none) b_X10_strong_29 n2)) 1000 (nI T) (nI g) (1000 : Int32) (1 : Int32) M = b_X10_strong_78 (lp (fun _ _ _ => none) b_X10_strong_29 n2) (nI T) (nI g) (lfs W (nI g) L A V T) M := e
    have c1 : lp (fun _ _ _ _ => none) b_X9_strong_37 (n1 + 1) (nI T) k (nI g) S = if lfs W (nI g) L A V T < 0 then lp (fun _ _ _ _ => none) b_X9_strong_37 n1 (nI T) k (nI (g + 1)) S else some (nI g, S) := by
      rw [lp_s]; rw [b_X9_strong_37]; rw [most2, bn1_some, if_neg z, hw, bn1_some, leftC hP (nI_ne0 (by omega) (by omega)) hT, bn1_some, nm_x, nI_1]
    have c2 : lp (fun _ _ _ => none) b_X10_strong_29 (n2 + 1) (nI T) (nI g) M = if lfs W (nI g) L A V T < 0 then lp (fun _ _ _ => none) b_X10_strong_29 n2 (nI T) (nI (g + 1)) M else some (nI g, M) := by
      rw [lp_s]; rw [b_X10_strong_29]; rw [if_neg z, e']
      unfold b_X10_strong_78
      rw [nm_x, nI_1]
    rw [c1, c2]
    by_cases q : lfs W (nI g) L A V T < 0
    · rw [if_pos q, if_pos q]
      exact ih (g + 1) n1 n2 (by omega) (by omega) (by omega) (by omega)
    · rw [if_neg q, if_neg q]
      exact ⟨_, rfl, rfl⟩
theorem strong_ok {h : Nat} {S M : ST} (hQ : QR h S M) (a1 a2 : Int32) : Ans S M (f_X9_strong a1 a2 S) (f_X10_strong a1 a2 M) := by
  have hPC := hQ.2.2.2.2.2.2
  unfold f_X9_strong f_X10_strong
  rcases swB hQ a1 with ⟨i, hi, hi8, rfl, e1, e2⟩ | ⟨e1, e2⟩
  · rw [e1, e2, bn1_some, bn1_some, om_some, if_neg w10, isTimeC, isTimeM, bn1_some, bn1_some]
    by_cases p : 1 ≤ a2.toInt ∧ a2.toInt ≤ 200
    · rw [if_pos p, if_neg w10, if_neg w10]
      obtain ⟨t, t1, t2, rfl⟩ := n_in (a := 1) (b := 200) p.1 p.2
      obtain ⟨S1, c1, cP, cF, cR⟩ := traceNow_ok hQ
      obtain ⟨S9, M1, s, e, mo, q, -, b2, ⟨bF, -, -, -, bC⟩, bP, hq, b5, b6, b7, b8, b9⟩ := ready3 hQ hi
      have sf : SF S S1 := SF.fr (by omega) cF
      have sw := hQ.2.2.2.2.2.1 i hi
      have w0 : f_X6_number (15 + 2 * i) (0 : Int32) S1 = some (M.1 5 (5 * i)) := by
        refine (swC (i := 0) _ S1 (swk_i i hi8) (by omega)).trans (congrArg some ?_)
        rw [sf _ (by omega), show 15 + 2 * i + 1 = 16 + 2 * i by omega]; exact sw.1 0 (by omega)
      obtain ⟨x, x1, x2⟩ := strong_loop (T := t) (k := 15 + 2 * i) cR (by have := sw.2.1.1; omega) sw.2.1.2 (by omega) bC cP w0 291 10 1000 1000 (by omega) (by omega) (by omega) (by omega)
      have x1' : lp (fun _ _ _ _ => none) b_X9_strong_37 1000 (nI t) (15 + 2 * i) (10 : Int32) S1 = some (x, S1) := x1
      have x2' : lp (fun _ _ _ => none) b_X10_strong_29 1000 (nI t) (10 : Int32) M1 = some (x, M1) := x2
      rw [c1, bn1_some, least2, bn1_some, b2, bn1_some, x1', x2']
      exact Ans.of _ sf b8 cP.pc
    · rw [if_neg p, if_pos rfl, if_pos rfl]; exact Ans.same hPC _
  · rw [e1, e2, bn1_some, bn1_some, om_none, if_pos rfl]; exact Ans.same hPC _
