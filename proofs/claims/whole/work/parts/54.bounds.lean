theorem cmp_lt {x y : Int64} : lg_cmp x y < 0 ↔ x.toInt < y.toInt := (lg_cmp_lt x y).trans l_lt
theorem cmp_gt {x y : Int64} : 0 < lg_cmp x y ↔ y.toInt < x.toInt := (lg_cmp_gt x y).trans l_lt
theorem cmp_le {x y : Int64} : lg_cmp x y ≤ 0 ↔ x.toInt ≤ y.toInt := (lg_cmp_le x y).trans l_le
theorem cmp_ge {x y : Int64} : 0 ≤ lg_cmp x y ↔ y.toInt ≤ x.toInt := (lg_cmp_ge x y).trans l_le
-- bounds
theorem tdiv_n (x d : Int) : (x.tdiv d).natAbs = x.natAbs / d.natAbs := Int.natAbs_tdiv x d
theorem tdiv_b {x d : Int} {m : Nat} (h : x.natAbs ≤ m) : (x.tdiv d).natAbs ≤ m / d.natAbs := by
  rw [tdiv_n]; exact Nat.div_le_div_right h
theorem mul_b {x y : Int} {m k : Nat} (h : x.natAbs ≤ m) (h2 : y.natAbs ≤ k) : (x * y).natAbs ≤ m * k := by
  rw [Int.natAbs_mul]; exact Nat.mul_le_mul h h2
/-- what the place and the hands say of these -/
def Rg (L A V : Int32) : Prop := 50 ≤ L.toInt ∧ L.toInt ≤ 900 ∧ 0 ≤ A.toInt ∧ A.toInt ≤ 80 ∧ 0 ≤ V.toInt ∧ V.toInt ≤ 600
theorem Rg.ne {L A V : Int32} (h : Rg L A V) : ¬ L = 0 := fun e => by
  have h1 := h.1
  rw [e] at h1
  exact absurd h1 (by decide)
theorem pc_b {L A V : Int32} (h : Rg L A V) : ∀ t, t < 201 → (trs L A V t).2.toInt.natAbs * L.toInt.natAbs ≤ 1719000 + t * 140000 := by
  obtain ⟨l1, l2, -, -, v1, v2⟩ := h
  have c1 : (2865 : Int32).toInt = 2865 := rfl
  have c2 : (140 : Int32).toInt = 140 := rfl
  intro t
  induction t with
  | zero =>
    intro _
    show (2865 * V / L).toInt.natAbs * L.toInt.natAbs ≤ _
    have e1 : ((2865 : Int32) * V).toInt = 2865 * V.toInt := by rw [ti_mul (by rw [c1]; omega) (by rw [c1]; omega), c1]
    rw [ti_div (by omega), e1, tdiv_n]
    have := Nat.div_mul_le_self ((2865 * V.toInt).natAbs) L.toInt.natAbs
    omega
  | succ t ih =>
    intro ht
    have ih := ih (by omega)
    show ((trs L A V t).2 - 140 * sn ((trs L A V t).1 / 100) / L).toInt.natAbs * L.toInt.natAbs ≤ _
    obtain ⟨s1, s2⟩ := sn_b ((trs L A V t).1 / 100)
    generalize sn ((trs L A V t).1 / 100) = z at *
    generalize (trs L A V t).2 = q at *
    have e1 : ((140 : Int32) * z).toInt = 140 * z.toInt := by rw [ti_mul (by rw [c2]; omega) (by rw [c2]; omega), c2]
    have e2 : (140 * z / L).toInt = (140 * z.toInt).tdiv L.toInt := by rw [ti_div (by omega), e1]
    have b2 : ((140 * z.toInt).tdiv L.toInt).natAbs * L.toInt.natAbs ≤ 140000 := by
      rw [tdiv_n]
      have := Nat.div_mul_le_self ((140 * z.toInt).natAbs) L.toInt.natAbs
      omega
    have b3 : ((140 * z.toInt).tdiv L.toInt).natAbs * 50 ≤ ((140 * z.toInt).tdiv L.toInt).natAbs * L.toInt.natAbs := Nat.mul_le_mul_left _ (by omega)
    have b4 : q.toInt.natAbs * 50 ≤ q.toInt.natAbs * L.toInt.natAbs := Nat.mul_le_mul_left _ (by omega)
    generalize (140 * z.toInt).tdiv L.toInt = w at *
    rw [ti_sub (by rw [e2]; omega) (by rw [e2]; omega), e2]
    have b5 : (q.toInt - w).natAbs ≤ q.toInt.natAbs + w.natAbs := by omega
    have b6 : (q.toInt - w).natAbs * L.toInt.natAbs ≤ (q.toInt.natAbs + w.natAbs) * L.toInt.natAbs := Nat.mul_le_mul_right _ b5
    rw [Nat.add_mul] at b6
    omega
theorem pc_b2 {L A V : Int32} (h : Rg L A V) {t : Nat} (ht : t < 201) : (trs L A V t).2.toInt.natAbs * L.toInt.natAbs ≤ 29719000 ∧ (trs L A V t).2.toInt.natAbs ≤ 594380 := by
  have h1 := pc_b h t ht
  obtain ⟨l1, l2, -⟩ := h
  have b4 : (trs L A V t).2.toInt.natAbs * 50 ≤ (trs L A V t).2.toInt.natAbs * L.toInt.natAbs := Nat.mul_le_mul_left _ (by omega)
  omega
/-- PULL -/
def pls (W L : Int32) (q : Int32 × Int32) : Int32 := if 0 < W * lds L q / 100 then W * lds L q / 100 else 0
theorem ld_b {L p : Int32} (a : Int32) (h1 : 50 ≤ L.toInt) (h2 : L.toInt ≤ 900) (hb : p.toInt.natAbs * L.toInt.natAbs ≤ 29719000) (hp : p.toInt.natAbs ≤ 594380) :
    ∃ e : Int, 0 ≤ e ∧ e ≤ 219434 ∧ (p.toInt64 * p.toInt64 * L.toInt64 / 80500000).toInt = e ∧ (lds L (a, p)).toInt = (cs (a / 100)).toInt.tdiv 10 + e ∧ (cs (a / 100)).toInt.tdiv 10 = (cs (a / 100) / 10).toInt ∧ -100 ≤ (cs (a / 100)).toInt.tdiv 10 ∧ (cs (a / 100)).toInt.tdiv 10 ≤ 100 := by
  have c1 : (80500000 : Int64).toInt = 80500000 := rfl
  have c2 : (10 : Int32).toInt = 10 := rfl
  obtain ⟨s1, s2⟩ := cs_b (a / 100)
  have m1 : (p.toInt * p.toInt).natAbs ≤ 594380 * 594380 := mul_b hp hp
  have m2 : (p.toInt * p.toInt * L.toInt).natAbs ≤ 594380 * 29719000 := by
    rw [Int.mul_assoc, Int.natAbs_mul, Int.natAbs_mul]
    exact Nat.mul_le_mul hp hb
  have m3 : 0 ≤ p.toInt * p.toInt := by
    rcases Int.le_total 0 p.toInt with q | q
    · exact Int.mul_nonneg q q
    · exact Int.mul_nonneg_of_nonpos_of_nonpos q q
  have m4 : 0 ≤ p.toInt * p.toInt * L.toInt := Int.mul_nonneg m3 (by omega)
  have e1 : (p.toInt64 * p.toInt64).toInt = p.toInt * p.toInt := by rw [tl_mul (by rw [tl_i]; omega) (by rw [tl_i]; omega), tl_i]
  have e2 : (p.toInt64 * p.toInt64 * L.toInt64).toInt = p.toInt * p.toInt * L.toInt := by rw [tl_mul (by rw [e1, tl_i]; omega) (by rw [e1, tl_i]; omega), e1, tl_i]
  have e3 : (p.toInt64 * p.toInt64 * L.toInt64 / 80500000).toInt = (p.toInt * p.toInt * L.toInt).tdiv 80500000 := by rw [tl_div (by rw [c1]; decide) (by rw [e2]; omega), e2, c1]
  have b1 : 0 ≤ (p.toInt * p.toInt * L.toInt).tdiv 80500000 := Int.tdiv_nonneg m4 (by decide)
  have b2 := tdiv_b (d := 80500000) m2
  have b3 : (594380 * 29719000) / (80500000 : Int).natAbs ≤ 219434 := by decide
  have d1 : (cs (a / 100) / 10).toInt = (cs (a / 100)).toInt.tdiv 10 := by rw [ti_div (by rw [c2]; decide), c2]
  have d2 := tdiv_b (x := (cs (a / 100)).toInt) (d := 10) (m := 1000) (by omega)
  have d3 : (1000 : Nat) / (10 : Int).natAbs = 100 := by decide
  generalize (p.toInt * p.toInt * L.toInt).tdiv 80500000 = e at *
  refine ⟨e, b1, by omega, e3, ?_, d1.symm, by omega, by omega⟩
  have e4 : (p.toInt64 * p.toInt64 * L.toInt64 / 80500000).toInt32.toInt = e := by rw [ti_l (by omega) (by omega), e3]
  show (cs (a / 100) / 10 + (p.toInt64 * p.toInt64 * L.toInt64 / 80500000).toInt32).toInt = _
  rw [ti_add (by rw [d1, e4]; omega) (by rw [d1, e4]; omega), d1, e4]
theorem pullM {W L p : Int32} (a : Int32) (S : ST) (h1 : 50 ≤ L.toInt) (h2 : L.toInt ≤ 900) (hb : p.toInt.natAbs * L.toInt.natAbs ≤ 29719000) (hp : p.toInt.natAbs ≤ 594380) (w1 : 0 ≤ W.toInt) (w2 : W.toInt ≤ 150) (hL : S.1 0 21 = L) : f_X10_pullOf W a p S = some (pls W L (a, p)) := by
  obtain ⟨e, e1, e2, e3, e4, d1, d2, d3⟩ := ld_b a h1 h2 hb hp
  have c1 : (100 : Int32).toInt = 100 := rfl
  have c2 : (100 : Int64).toInt = 100 := rfl
  have c0 : (0 : Int32).toInt = 0 := rfl
  have c3 : (0 : Int64).toInt = 0 := rfl
  unfold f_X10_pullOf
  rw [cosM _ (d100 a), bn1_some, hL]
  simp only [nm_x]
  have f1 : ((cs (a / 100) / 10).toInt64 + p.toInt64 * p.toInt64 * L.toInt64 / 80500000).toInt = (cs (a / 100)).toInt.tdiv 10 + e := by rw [tl_add (by rw [tl_i, e3]; omega) (by rw [tl_i, e3]; omega), tl_i, e3, d1]
  generalize p.toInt64 * p.toInt64 * L.toInt64 / 80500000 = y at *
  generalize hz : (cs (a / 100)).toInt.tdiv 10 + e = z at *
  have z1 : z.natAbs ≤ 219534 := by omega
  have m1 : (W.toInt * z).natAbs ≤ 150 * 219534 := mul_b (by omega) z1
  have f2 : (W.toInt64 * ((cs (a / 100) / 10).toInt64 + y)).toInt = W.toInt * z := by rw [tl_mul (by rw [tl_i, f1]; omega) (by rw [tl_i, f1]; omega), tl_i, f1]
  have f3 : (W.toInt64 * ((cs (a / 100) / 10).toInt64 + y) / 100).toInt = (W.toInt * z).tdiv 100 := by rw [tl_div (by rw [c2]; decide) (by rw [f2]; omega), f2, c2]
  have g1 : (W * lds L (a, p)).toInt = W.toInt * z := by rw [ti_mul (by rw [e4]; omega) (by rw [e4]; omega), e4]
  have g2 : (W * lds L (a, p) / 100).toInt = (W.toInt * z).tdiv 100 := by rw [ti_div (by rw [c1]; decide), g1, c1]
  have m2 := tdiv_b (d := 100) m1
  have m3 : (150 * 219534 : Nat) / (100 : Int).natAbs ≤ 329301 := by decide
  generalize (W.toInt * z).tdiv 100 = v at *
  generalize W.toInt64 * ((cs (a / 100) / 10).toInt64 + y) / 100 = x2 at *
  have hcmp : (0 ≤ lg_cmp x2 0) ↔ 0 ≤ v := by rw [cmp_ge, f3, c3]
  unfold pls
  by_cases q : 0 ≤ v
  · rw [if_pos (hcmp.mpr q)]
    refine congrArg some (i_ext ?_)
    rw [ti_l (by omega) (by omega), f3]
    by_cases q2 : 0 < v
    · rw [if_pos (by rw [i_lt, c0, g2]; exact q2), g2]
    · rw [if_neg (by rw [i_lt, c0, g2]; exact q2), c0]; omega
  · rw [if_neg (fun h => q (hcmp.mp h)), if_neg (by rw [i_lt, c0, g2]; omega)]
