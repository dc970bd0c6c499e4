/-- one image, in both -/
def ImR (i : Nat) (S M : ST) : Prop := S.1 (35 + 3 * i) 3 = M.1 19 i ∧ (¬ M.1 19 i = 0 → (∀ j, j < 5 → S.1 (36 + 3 * i) j = M.1 18 (20 * i + j)) ∧ S.1 (35 + 3 * i) 2 = M.1 18 (20 * i + 5) ∧ 0 ≤ (M.1 18 (20 * i + 5)).toInt ∧ (∀ j, j < 9 → S.1 (37 + 3 * i) j = M.1 18 (20 * i + 6 + j)) ∧ In (M.1 18 (20 * i)) 0 11 ∧ In (M.1 18 (20 * i + 1)) 0 300 ∧ In (M.1 18 (20 * i + 2)) 0 40 ∧ In (M.1 18 (20 * i + 3)) 0 80 ∧ In (M.1 18 (20 * i + 4)) 0 600)
/-- the text, in both -/
def TxR (len : Nat) (S M : ST) : Prop := len ≤ 300 ∧ S.1 1 1 = nI len ∧ M.1 0 8 = nI len ∧ ∀ j, j < len → S.1 2 j = M.1 7 j ∧ In (M.1 7 j) 0 255
/-- the seed and the ends, in both -/
def SdR (S M : ST) : Prop := S.1 31 2 = M.1 0 42 ∧ 0 ≤ (M.1 0 42).toInt ∧ ∀ j, j < 9 → S.1 33 j = M.1 17 j
/-- all that a call may show, in both -/
def Rel (S M : ST) : Prop := ∃ h len, QR h S M ∧ S.1 0 13 = M.1 0 9 ∧ TxR len S M ∧ SdR S M ∧ ImR 0 S M ∧ ImR 1 S M
theorem ImR.fr {i : Nat} {S M S' M' : ST} (hi : i < 2) (h : ImR i S M) (a : ∀ k, 35 ≤ k → k < 41 → S'.1 k = S.1 k) (b : M'.1 18 = M.1 18) (c : M'.1 19 = M.1 19) : ImR i S' M' := by
  unfold ImR at h ⊢
  rw [a (35 + 3 * i) (by omega) (by omega), a (36 + 3 * i) (by omega) (by omega), a (37 + 3 * i) (by omega) (by omega), b, c]
  exact h
theorem TxR.fr {len : Nat} {S M S' M' : ST} (h : TxR len S M) (a1 : S'.1 1 = S.1 1) (a2 : S'.1 2 = S.1 2) (b : M'.1 0 8 = M.1 0 8) (c : M'.1 7 = M.1 7) : TxR len S' M' := by
  unfold TxR at h ⊢
  rw [a1, a2, b, c]
  exact h
theorem SdR.fr {S M S' M' : ST} (h : SdR S M) (a1 : S'.1 31 2 = S.1 31 2) (a2 : S'.1 33 = S.1 33) (b : M'.1 0 42 = M.1 0 42) (c : M'.1 17 = M.1 17) : SdR S' M' := by
  unfold SdR at h ⊢
  rw [a1, a2, b, c]
  exact h
theorem Rel.sm {S M S' M' : ST} (hR : Rel S M) (a : SF S S') (b : MFH M M') (c : PC S') : Rel S' M' := by
  obtain ⟨h, len, h1, h2, h3, h4, h5, h6⟩ := hR
  exact ⟨h, len, h1.smh a b c, by rw [a 0 (by omega), b.2 9 (by omega)]; exact h2, h3.fr (a 1 (by omega)) (a 2 (by omega)) (b.2 8 (by omega)) (b.1 7 (by omega)), h4.fr (by rw [a 31 (by omega)]) (a 33 (by omega)) (b.2 42 (by omega)) (b.1 17 (by omega)), h5.fr (by omega) (fun k k1 k2 => a k (by omega)) (b.1 18 (by omega)) (b.1 19 (by omega)), h6.fr (by omega) (fun k k1 k2 => a k (by omega)) (b.1 18 (by omega)) (b.1 19 (by omega))⟩
theorem Rel.ans {S M : ST} {x y : Option (Int32 × ST)} (hR : Rel S M) (h : Ans S M x y) : ∃ r : Int32, ∃ S' : ST, ∃ M' : ST, x = some (r, S') ∧ y = some (r, M') ∧ Rel S' M' := by
  obtain ⟨r, S', M', h1, h2, h3, h4, h5⟩ := h
  exact ⟨r, S', M', h1, h2, hR.sm h3 h4.h h5⟩
theorem Rel.ansH {S M : ST} {x y : Option (Int32 × ST)} (hR : Rel S M) (h : AnsH S M x y) : ∃ r : Int32, ∃ S' : ST, ∃ M' : ST, x = some (r, S') ∧ y = some (r, M') ∧ Rel S' M' := by
  obtain ⟨r, S', M', h1, h2, h3, h4, h5⟩ := h
  exact ⟨r, S', M', h1, h2, hR.sm h3 h4 h5⟩
theorem E_holds {S M : ST} (hR : Rel S M) (a1 : Int32) (a2 : Int32) (a3 : Int32) : ∃ r : Int32, ∃ S' : ST, ∃ M' : ST, f_X9_holds a1 a2 a3 S = some (r, S') ∧ f_X10_holds a1 a2 a3 M = some (r, M') ∧ Rel S' M' := by
  obtain ⟨h, len, hQ, -⟩ := id hR
  exact hR.ans (holds_ok hQ a1 a2 a3)
theorem E_lands {S M : ST} (hR : Rel S M) (a1 : Int32) (a2 : Int32) (a3 : Int32) : ∃ r : Int32, ∃ S' : ST, ∃ M' : ST, f_X9_lands a1 a2 a3 S = some (r, S') ∧ f_X10_lands a1 a2 a3 M = some (r, M') ∧ Rel S' M' := by
  obtain ⟨h, len, hQ, -⟩ := id hR
  exact hR.ans (lands_ok hQ a1 a2 a3)
theorem E_best {S M : ST} (hR : Rel S M) (a1 : Int32) (a2 : Int32) : ∃ r : Int32, ∃ S' : ST, ∃ M' : ST, f_X9_best a1 a2 S = some (r, S') ∧ f_X10_best a1 a2 M = some (r, M') ∧ Rel S' M' := by
  obtain ⟨h, len, hQ, -⟩ := id hR
  exact hR.ans (best_ok hQ a1 a2)
theorem E_wide {S M : ST} (hR : Rel S M) (a1 : Int32) (a2 : Int32) : ∃ r : Int32, ∃ S' : ST, ∃ M' : ST, f_X9_wide a1 a2 S = some (r, S') ∧ f_X10_wide a1 a2 M = some (r, M') ∧ Rel S' M' := by
  obtain ⟨h, len, hQ, -⟩ := id hR
  exact hR.ans (wide_ok hQ a1 a2)
theorem E_odds {S M : ST} (hR : Rel S M) (a1 : Int32) (a2 : Int32) (a3 : Int32) : ∃ r : Int32, ∃ S' : ST, ∃ M' : ST, f_X9_odds a1 a2 a3 S = some (r, S') ∧ f_X10_odds a1 a2 a3 M = some (r, M') ∧ Rel S' M' := by
  obtain ⟨h, len, hQ, -⟩ := id hR
  exact hR.ans (odds_ok hQ a1 a2 a3)
theorem E_strong {S M : ST} (hR : Rel S M) (a1 : Int32) (a2 : Int32) : ∃ r : Int32, ∃ S' : ST, ∃ M' : ST, f_X9_strong a1 a2 S = some (r, S') ∧ f_X10_strong a1 a2 M = some (r, M') ∧ Rel S' M' := by
  obtain ⟨h, len, hQ, -⟩ := id hR
  exact hR.ans (strong_ok hQ a1 a2)
theorem E_heavy {S M : ST} (hR : Rel S M)  : ∃ r : Int32, ∃ S' : ST, ∃ M' : ST, f_X9_heavy S = some (r, S') ∧ f_X10_heavy M = some (r, M') ∧ Rel S' M' := by
  obtain ⟨h, len, hQ, -⟩ := id hR
  exact hR.ans (heavy_ok hQ)
theorem E_may {S M : ST} (hR : Rel S M)  : ∃ r : Int32, ∃ S' : ST, ∃ M' : ST, f_X9_may S = some (r, S') ∧ f_X10_may M = some (r, M') ∧ Rel S' M' := by
  obtain ⟨h, len, hQ, -⟩ := id hR
  exact hR.ans (may_ok hQ)
theorem E_months {S M : ST} (hR : Rel S M) (a1 : Int32) : ∃ r : Int32, ∃ S' : ST, ∃ M' : ST, f_X9_months a1 S = some (r, S') ∧ f_X10_months a1 M = some (r, M') ∧ Rel S' M' := by
  obtain ⟨h, len, hQ, -⟩ := id hR
  exact hR.ans (months_ok hQ a1)
theorem E_rope {S M : ST} (hR : Rel S M) (a1 : Int32) (a2 : Int32) : ∃ r : Int32, ∃ S' : ST, ∃ M' : ST, f_X9_rope a1 a2 S = some (r, S') ∧ f_X10_rope a1 a2 M = some (r, M') ∧ Rel S' M' := by
  obtain ⟨h, len, hQ, -⟩ := id hR
  exact hR.ans (rope_ok hQ a1 a2)
theorem E_turn {S M : ST} (hR : Rel S M) (a1 : Int32) (a2 : Int32) : ∃ r : Int32, ∃ S' : ST, ∃ M' : ST, f_X9_turn a1 a2 S = some (r, S') ∧ f_X10_turn a1 a2 M = some (r, M') ∧ Rel S' M' := by
  obtain ⟨h, len, hQ, -⟩ := id hR
  exact hR.ans (turn_ok hQ a1 a2)
theorem E_film {S M : ST} (hR : Rel S M) (a1 : Int32) (a2 : Int32) : ∃ r : Int32, ∃ S' : ST, ∃ M' : ST, f_X9_film a1 a2 S = some (r, S') ∧ f_X10_film a1 a2 M = some (r, M') ∧ Rel S' M' := by
  obtain ⟨h, len, hQ, -⟩ := id hR
  exact hR.ans (film_ok hQ a1 a2)
theorem E_age {S M : ST} (hR : Rel S M) (a1 : Int32) : ∃ r : Int32, ∃ S' : ST, ∃ M' : ST, f_X9_age a1 S = some (r, S') ∧ f_X10_age a1 M = some (r, M') ∧ Rel S' M' := by
  obtain ⟨h, len, hQ, -⟩ := id hR
  exact hR.ans (age_ok hQ a1)
theorem E_harmed {S M : ST} (hR : Rel S M) (a1 : Int32) : ∃ r : Int32, ∃ S' : ST, ∃ M' : ST, f_X9_harmed a1 S = some (r, S') ∧ f_X10_harmed a1 M = some (r, M') ∧ Rel S' M' := by
  obtain ⟨h, len, hQ, -⟩ := id hR
  exact hR.ansH (harmed_ok hQ a1)
theorem E_enough {S M : ST} (hR : Rel S M)  : ∃ r : Int32, ∃ S' : ST, ∃ M' : ST, f_X9_enough S = some (r, S') ∧ f_X10_enough M = some (r, M') ∧ Rel S' M' := by
  obtain ⟨h, len, hQ, -⟩ := id hR
  exact hR.ansH (enough_ok hQ)
theorem E_fault {S M : ST} (hR : Rel S M)  : ∃ r : Int32, f_X9_fault S = some r ∧ f_X10_fault M = some r ∧ Rel S M := by
  obtain ⟨h, len, hQ, hF, -⟩ := id hR
  refine ⟨_, rfl, ?_, hR⟩
  unfold f_X10_fault
  rw [hF]
theorem lt0 {x : Int32} (h : 0 ≤ x.toInt) : ¬ x < 0 := by rw [i_lt0]; omega
theorem le_c {x c : Int32} {n : Int} (hc : c.toInt = n) (h : x.toInt ≤ n) : x ≤ c := by rw [i_le, hc]; exact h
theorem nle_c {x c : Int32} {n : Int} (hc : c.toInt = n) (h : n < x.toInt) : ¬ x ≤ c := by rw [i_le, hc]; omega
theorem eq_c {x c : Int32} {n : Int} (hc : c.toInt = n) (h : x.toInt = n) : x = c := i_ext (by rw [h, hc])
theorem ne_c {x c : Int32} {n : Int} (hc : c.toInt = n) (h : ¬ x.toInt = n) : ¬ x = c := fun e => h (by rw [e, hc])
theorem E_told {S M : ST} (hR : Rel S M) (a1 : Int32) : ∃ r : Int32, f_X9_told a1 S = some r ∧ f_X10_told a1 M = some r ∧ Rel S M := by
  obtain ⟨h, len, hQ, hF, ⟨t1, t2, t3, t4⟩, -⟩ := id hR
  have pr := hQ.1.1
  unfold f_X9_told f_X10_told f_X7_length
  rw [wiM a1 (p := 0) (q := 8) rfl rfl, bn1_some, bn1_some]
  by_cases p : 0 ≤ a1.toInt ∧ a1.toInt ≤ 8
  · obtain ⟨j, -, hj, rfl⟩ := n_in (a := 0) (b := 8) p.1 p.2
    have ej : (nI j).toInt = j := nI_i (by omega)
    rw [if_pos p, if_neg w10, if_neg (lt0 p.1), if_pos (le_c (n := 10) rfl (by omega)), if_neg (ne_c (n := 9) rfl (by omega)), if_neg (ne_c (n := 10) rfl (by omega)), chk_t _ (ib_nI (by omega) (by omega)), numC S (by omega), bn1_some, nI_n (by omega), pr.1 j (by omega)]
    exact ⟨_, rfl, rfl, hR⟩
  · rw [if_neg p, if_pos rfl]
    by_cases n9 : a1.toInt = 9
    · rw [if_neg (lt0 (by omega)), if_pos (le_c (n := 10) rfl (by omega)), if_pos (eq_c (n := 9) rfl n9), if_pos (eq_c (n := 9) rfl n9), hQ.2.2.2.1, hQ.2.2.2.2.1]
      exact ⟨_, rfl, rfl, hR⟩
    · have k9 : ¬ a1 = 9 := ne_c (n := 9) rfl n9
      by_cases n10 : a1.toInt = 10
      · have e10 : a1 = 10 := eq_c (n := 10) rfl n10
        rw [if_neg (lt0 (by omega)), if_pos (le_c (n := 10) rfl (by omega)), if_neg k9, if_neg k9, if_pos e10, if_pos e10, t2, t3]
        exact ⟨_, rfl, rfl, hR⟩
      · have k10 : ¬ a1 = 10 := ne_c (n := 10) rfl n10
        rw [if_neg k9, if_neg k9, if_neg k10, if_neg k10]
        by_cases z : a1 < 0
        · rw [if_pos z]; exact ⟨_, rfl, rfl, hR⟩
        · rw [if_neg z]
          rw [i_lt0] at z
          rw [if_neg (nle_c (n := 10) rfl (by omega))]
          exact ⟨_, rfl, rfl, hR⟩
theorem E_who {S M : ST} (hR : Rel S M) (a1 : Int32) (a2 : Int32) : ∃ r : Int32, f_X9_who a1 a2 S = some r ∧ f_X10_who a1 a2 M = some r ∧ Rel S M := by
  obtain ⟨h, len, hQ, -⟩ := id hR
  unfold f_X9_who f_X10_who
  rcases swB hQ a1 with ⟨i, hi, hi8, rfl, e1, e2⟩ | ⟨e1, e2⟩
  · rw [e1, e2, bn1_some, bn1_some, om_some, if_neg w10, wiC a2 (p := 0) (q := 4) rfl rfl, wiM a2 (p := 0) (q := 4) rfl rfl, bn1_some, bn1_some]
    by_cases p : 0 ≤ a2.toInt ∧ a2.toInt ≤ 4
    · obtain ⟨j, -, hj, rfl⟩ := n_in (a := 0) (b := 4) p.1 p.2
      have e5 : (5 : Int32) * nI i + nI j = nI (5 * i + j) := by rw [n5_0 i hi8, nI_add]
      rw [if_pos p, if_neg w10, if_neg w10, e5, chk_t _ (ib_nI (by omega) (by omega)), nI_n (by omega), swC _ S (swk_i i hi8) (by omega), bn1_some, show 15 + 2 * i + 1 = 16 + 2 * i by omega, (hQ.2.2.2.2.2.1 i hi).1 j (by omega)]
      exact ⟨_, rfl, rfl, hR⟩
    · rw [if_neg p, if_pos rfl, if_pos rfl]; exact ⟨_, rfl, rfl, hR⟩
  · rw [e1, e2, bn1_some, bn1_some, om_none, if_pos rfl]; exact ⟨_, rfl, rfl, hR⟩
theorem E_sine {S M : ST} (hR : Rel S M) (a1 : Int32) : ∃ r : Int32, f_X9_sine a1 = some r ∧ f_X10_sine a1 = some r ∧ Rel S M := by
  unfold f_X9_sine f_X10_sine
  rw [wiC a1 (p := -1800) (q := 1800) rfl rfl, wiM a1 (p := -1800) (q := 1800) rfl rfl, bn1_some, bn1_some]
  by_cases p : -1800 ≤ a1.toInt ∧ a1.toInt ≤ 1800
  · rw [if_pos p, if_neg w10, if_neg w10, sineC, sineM a1 (by omega), bn1_some]
    exact ⟨_, rfl, rfl, hR⟩
  · rw [if_neg p, if_pos rfl, if_pos rfl]
    exact ⟨_, rfl, rfl, hR⟩
theorem E_ends {S M : ST} (hR : Rel S M) (a1 : Int32) : ∃ r : Int32, f_X9_ends a1 S = some r ∧ f_X10_ends a1 M = some r ∧ Rel S M := by
  obtain ⟨h, len, hQ, hF, hT, hS, -⟩ := id hR
  unfold f_X9_ends f_X10_ends
  rw [wiC a1 (p := 0) (q := 8) rfl rfl, wiM a1 (p := 0) (q := 8) rfl rfl, bn1_some, bn1_some]
  by_cases p : 0 ≤ a1.toInt ∧ a1.toInt ≤ 8
  · obtain ⟨j, -, hj, rfl⟩ := n_in (a := 0) (b := 8) p.1 p.2
    unfold f_X5_counted
    rw [if_pos p, if_neg w10, if_neg w10, at_in 33 S (show j < lnC 33 by show j < 9; omega), bn1_some, bn1_some, chk_t _ (ib_nI (by omega) (by omega)), nI_n (by omega), hS.2.2 j (by omega)]
    exact ⟨_, rfl, rfl, hR⟩
  · rw [if_neg p, if_pos rfl, if_pos rfl]
    exact ⟨_, rfl, rfl, hR⟩
theorem E_cell {S M : ST} (hR : Rel S M) (a1 : Int32) (a2 : Int32) : ∃ r : Int32, f_X9_cell a1 a2 S = some r ∧ f_X10_cell a1 a2 M = some r ∧ Rel S M := by
  obtain ⟨h, len, hQ, -⟩ := id hR
  have pr := hQ.1.1
  obtain ⟨-, -, -, -, -, -, -, -, -, -, pd, pst, plo⟩ := hQ.1
  obtain ⟨mo, hmo, emo⟩ := In.n (b := 11) hQ.2.1.2.1
  have lo1 : f_X9_lowerNow S = some (M.1 4 mo) := by
    rw [lowC (mo := mo) (by rw [hQ.2.1.1 0 (by omega), emo]) (by omega), hQ.1.1.2.2.2 mo (by omega)]
  unfold f_X9_cell f_X10_cell
  rw [wiM a1 (p := 0) (q := 23) rfl rfl, bn1_some]
  by_cases p : 0 ≤ a1.toInt ∧ a1.toInt ≤ 23
  · obtain ⟨c, -, hc, rfl⟩ := n_in (a := 0) (b := 23) p.1 p.2
    have z : nI c < (24 : Int32) := nI_lt (b := 24) (by omega) (by omega)
    rw [if_pos p, if_neg w10, if_neg (lt0 p.1), if_pos z]
    by_cases n0 : a2.toInt = 0
    · have e0 : a2 = 0 := eq_c (n := 0) rfl n0
      have d0 : dpt (S.1 6 c) 0 = M.1 2 c := by
        unfold dpt
        rw [pr.2.1 c (by omega), show M.1 2 c - 0 = M.1 2 c from Int32.sub_zero _, if_pos (by rw [i_le]; exact (pd c (by omega)).1)]
      rw [if_neg (lt0 (by omega)), if_pos (le_c (n := 2) rfl (by omega)), if_neg (ne_c (n := 2) rfl (by omega)), if_pos e0, if_pos e0, chk_t _ (ib_nI (by omega) (by omega)), nI_n (by omega)]
      unfold b_X9_cell_56
      rw [depthC (by omega), bn1_some, d0]
      exact ⟨_, rfl, rfl, hR⟩
    · have m0 : ¬ a2 = 0 := ne_c (n := 0) rfl n0
      by_cases n1 : a2.toInt = 1
      · rw [if_neg (lt0 (by omega)), if_pos (le_c (n := 2) rfl (by omega)), if_neg (ne_c (n := 2) rfl (by omega)), if_neg m0, if_neg m0, if_pos (eq_c (n := 1) rfl n1), lo1, bn1_some, depthM (mo := mo) (by omega) M emo (by omega) rfl (plo mo (by omega)).1 (plo mo (by omega)).2 (pd c (by omega)).1 (pd c (by omega)).2, bn1_some]
        unfold b_X9_cell_56
        rw [depthC (by omega), bn1_some, pr.2.1 c (by omega)]
        exact ⟨_, rfl, rfl, hR⟩
      · have m1 : ¬ a2 = 1 := ne_c (n := 1) rfl n1
        by_cases n2 : a2.toInt = 2
        · have e2 : a2 = 2 := eq_c (n := 2) rfl n2
          rw [if_neg (lt0 (by omega)), if_pos (le_c (n := 2) rfl (by omega)), if_pos e2, if_neg m0, if_neg m1, if_pos e2, kindC (by omega), bn1_some, kindM (by omega), bn1_some, kd_eq pr (by omega)]
          exact ⟨_, rfl, rfl, hR⟩
        · have m2 : ¬ a2 = 2 := ne_c (n := 2) rfl n2
          rw [if_neg m0, if_neg m0, if_neg m1, if_neg m2, if_neg m2]
          by_cases z : a2 < 0
          · rw [if_pos z]; exact ⟨_, rfl, rfl, hR⟩
          · rw [if_neg z]
            rw [i_lt0] at z
            rw [if_neg (nle_c (n := 2) rfl (by omega))]
            exact ⟨_, rfl, rfl, hR⟩
  · rw [if_neg p, if_pos rfl]
    by_cases z : a1 < 0
    · rw [if_pos z]; exact ⟨_, rfl, rfl, hR⟩
    · rw [if_neg z]
      rw [i_lt0] at z
      rw [if_neg (show ¬ a1 < (24 : Int32) by rw [i_lt, show (24 : Int32).toInt = 24 from rfl]; omega)]
      exact ⟨_, rfl, rfl, hR⟩
theorem E_now {S M : ST} (hR : Rel S M) (a1 : Int32) : ∃ r : Int32, f_X9_now a1 S = some r ∧ f_X10_now a1 M = some r ∧ Rel S M := by
  obtain ⟨h, len, hQ, -⟩ := id hR
  have pr := hQ.1.1
  have hH := hQ.2.1
  have m1 : (1 : Int32).toNatClampNeg = 1 := rfl
  have m2 : (2 : Int32).toNatClampNeg = 2 := rfl
  obtain ⟨mo, hmo, emo⟩ := In.n (b := 11) hQ.2.1.2.1
  obtain ⟨y, hy, ey⟩ := In.n (b := 40) hH.2.2.2.2.1
  have lo1 : f_X9_lowerNow S = some (M.1 4 mo) := by
    rw [lowC (mo := mo) (by rw [hQ.2.1.1 0 (by omega), emo]) (by omega), hQ.1.1.2.2.2 mo (by omega)]
  unfold f_X9_now f_X10_now
  rw [wiM a1 (p := 0) (q := 4) rfl rfl, bn1_some]
  by_cases p : 0 ≤ a1.toInt ∧ a1.toInt ≤ 4
  · obtain ⟨j, -, hj, rfl⟩ := n_in (a := 0) (b := 4) p.1 p.2
    have ej : (nI j).toInt = j := nI_i (by omega)
    rw [if_pos p, if_neg w10, if_neg (lt0 p.1), if_pos (le_c (n := 7) rfl (by omega)), if_neg (ne_c (n := 5) rfl (by omega)), if_neg (ne_c (n := 6) rfl (by omega)), if_neg (ne_c (n := 7) rfl (by omega)), handC S (by omega), bn1_some, chk_t _ (ib_nI (by omega) (by omega)), nI_n (by omega), hH.1 j (by omega)]
    exact ⟨_, rfl, rfl, hR⟩
  · rw [if_neg p, if_pos rfl]
    by_cases n5 : a1.toInt = 5
    · have e5 : a1 = 5 := eq_c (n := 5) rfl n5
      rw [if_neg (lt0 (by omega)), if_pos (le_c (n := 7) rfl (by omega)), if_pos e5, if_pos e5, lenC, bn1_some, m1, pr.1 1 (by omega), hH.1 1 (by omega)]
      exact ⟨_, rfl, rfl, hR⟩
    · have k5 : ¬ a1 = 5 := ne_c (n := 5) rfl n5
      by_cases n6 : a1.toInt = 6
      · have e6 : a1 = 6 := eq_c (n := 6) rfl n6
        have k2 : f_X5_inHand (2 : Int32) S = some (nI y) := (handC (i := 2) S (by omega)).trans (congrArg some (by rw [hH.1 2 (by omega), ey]))
        rw [if_neg (lt0 (by omega)), if_pos (le_c (n := 7) rfl (by omega)), if_neg k5, if_neg k5, if_pos e6, if_pos e6, k2, bn1_some, stC S (by omega), bn1_some, m2, ey, stM M (by omega), bn1_some, pr.1 2 (by omega), pr.1 3 (by omega)]
        exact ⟨_, rfl, rfl, hR⟩
      · have k6 : ¬ a1 = 6 := ne_c (n := 6) rfl n6
        by_cases n7 : a1.toInt = 7
        · have e7 : a1 = 7 := eq_c (n := 7) rfl n7
          rw [if_neg (lt0 (by omega)), if_pos (le_c (n := 7) rfl (by omega)), if_neg k5, if_neg k5, if_neg k6, if_neg k6, if_pos e7, if_pos e7, lo1, bn1_some, lowM (mo := mo) emo (by omega), bn1_some]
          exact ⟨_, rfl, rfl, hR⟩
        · have k7 : ¬ a1 = 7 := ne_c (n := 7) rfl n7
          rw [if_neg k5, if_neg k5, if_neg k6, if_neg k6, if_neg k7, if_neg k7]
          by_cases z : a1 < 0
          · rw [if_pos z]; exact ⟨_, rfl, rfl, hR⟩
          · rw [if_neg z]
            rw [i_lt0] at z
            rw [if_neg (nle_c (n := 7) rfl (by omega))]
            exact ⟨_, rfl, rfl, hR⟩
