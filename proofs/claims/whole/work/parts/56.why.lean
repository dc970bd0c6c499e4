theorem pullC {B L A V W : Int32} {S : ST} {t : Nat} (h : PathOK B L A V S) (ht : t < 201) : f_X1_pull (nI t) W S = some (pls W L (trs L A V t)) := by
  unfold f_X1_pull
  rw [at_in 48 S (show t < lnC 48 from ht), bn1_some, nm_x, (h.2.2.2.2.2 t ht).2.2.2.2.1]
  rfl
/-- CELL of an x -/
def cl (x : Int32) : Int32 := if -300 ≤ x then (if (x + 300) / 50 ≤ 23 then (x + 300) / 50 else 23) else 0
theorem cellC (x : Int32) : f_X3_cellAt x = some (cl x) := by
  unfold f_X3_cellAt cl
  by_cases q : -300 ≤ x
  · rw [if_pos q, if_pos q, nm_x]
    by_cases q2 : (x + 300) / 50 ≤ 23
    · rw [if_neg (Int32.not_lt.mpr q2), if_pos q2]
    · rw [if_pos (Int32.not_le.mp q2), if_neg q2]
  · rw [if_neg q, if_neg q]
theorem cellM (x : Int32) : f_X10_cellOf x = some (cl x) := by
  unfold f_X10_cellOf cl b_X10_cellOf_19
  by_cases q : -300 ≤ x
  · rw [if_pos q, if_pos q]
    by_cases q2 : (x + 300) / 50 ≤ 23
    · rw [if_pos q2, if_pos q2]
    · rw [if_neg q2, if_neg q2]
  · rw [if_neg q, if_neg q, if_pos (by decide)]
theorem cl_r (x : Int32) (h : x.toInt < 1000000000) : ∃ n, n < 24 ∧ cl x = nI n := by
  have c1 : (-300 : Int32).toInt = -300 := rfl
  have c2 : (300 : Int32).toInt = 300 := rfl
  have c3 : (50 : Int32).toInt = 50 := rfl
  have c4 : (23 : Int32).toInt = 23 := rfl
  unfold cl
  by_cases q : -300 ≤ x
  · rw [if_pos q]
    rw [i_le, c1] at q
    have e1 : (x + 300).toInt = x.toInt + 300 := by rw [ti_add (by rw [c2]; omega) (by rw [c2]; omega), c2]
    have e2 : ((x + 300) / 50).toInt = (x.toInt + 300).tdiv 50 := by rw [ti_div (by rw [c3]; decide), e1, c3]
    have e3 : 0 ≤ ((x + 300) / 50).toInt := by rw [e2]; exact Int.tdiv_nonneg (by omega) (by decide)
    by_cases q2 : (x + 300) / 50 ≤ 23
    · rw [if_pos q2]
      rw [i_le, c4] at q2
      exact ⟨_, by have := (n_of e3).2; omega, (n_of e3).1⟩
    · rw [if_neg q2]; exact ⟨23, by omega, rfl⟩
  · rw [if_neg q]; exact ⟨0, by omega, rfl⟩
/-- what a CELL is -/
def kd (sand : Int32) (sto : Nat → Int32) (c : Int32) : Int32 := if c < sand then (if sto c.toNatClampNeg = 0 then 0 else 1) else 2
theorem kindC {n : Nat} (h : n < 24) (S : ST) : f_X3_kind (nI n) S = some (kd (S.1 5 8) (S.1 7) (nI n)) := by
  have m8 : (8 : Int32).toNatClampNeg = 8 := rfl
  unfold f_X3_kind kd b_X3_kind_23
  rw [if_neg (by decide), m8, nI_n (by omega), if_neg (nI_pos (by omega)), if_neg (show ¬ (24 : Int32) ≤ nI n from nI_ge (b := 24) h (by omega)), chk_t _ (ib_nI h (by omega))]
  by_cases q : nI n < S.1 5 8
  · rw [if_pos q, if_pos q]
    by_cases q2 : S.1 7 n = 0
    · rw [if_pos q2, if_pos q2]
    · rw [if_neg q2, if_neg q2]
  · rw [if_neg q, if_neg q]
theorem kindM {n : Nat} (h : n < 24) (M : ST) : f_X10_kindOf (nI n) M = some (kd (M.1 1 8) (M.1 3) (nI n)) := by
  have m8 : (8 : Int32).toNatClampNeg = 8 := rfl
  unfold f_X10_kindOf kd
  rw [m8, nI_n (by omega), chk_t _ (ib_nI h (by omega))]
  by_cases q : nI n < M.1 1 8
  · rw [if_pos q, if_pos q]
    by_cases q2 : M.1 3 n = 0
    · rw [if_pos q2, if_pos q2]
    · rw [if_neg q2, if_neg q2]
  · rw [if_neg q, if_neg q]
/-- the place as both sides have it -/
def PR (S M : ST) : Prop := (∀ j, j < 9 → S.1 5 j = M.1 1 j) ∧ (∀ j, j < 24 → S.1 6 j = M.1 2 j) ∧ (∀ j, j < 24 → S.1 7 j = M.1 3 j) ∧ ∀ j, j < 12 → S.1 8 j = M.1 4 j
theorem kd_eq {S M : ST} (h : PR S M) {n : Nat} (hn : n < 24) : kd (S.1 5 8) (S.1 7) (nI n) = kd (M.1 1 8) (M.1 3) (nI n) := by
  unfold kd
  rw [h.1 8 (by omega), nI_n (by omega), h.2.2.1 n hn]
theorem lowM {M : ST} {mo : Nat} (h : M.1 6 0 = nI mo) (hm : mo < 12) : f_X10_lower M = some (M.1 4 mo) := by
  have m0 : (0 : Int32).toNatClampNeg = 0 := rfl
  unfold f_X10_lower
  rw [m0, h, chk_t _ (ib_nI hm (by omega)), nI_n (by omega)]
theorem hxM {L : Int32} {M : ST} {t : Nat} (ht : t < 201) (hL : M.1 0 21 = L) : f_X10_handsX (nI t) M = some (hxs L (M.1 12 t)) := by
  unfold f_X10_handsX
  rw [chk_t _ (ib_nI ht (by omega)), nI_n (by omega), sineM _ (d100 _), bn1_some, hL]; rfl
theorem hhM {L : Int32} {M : ST} {t : Nat} (ht : t < 201) (hL : M.1 0 21 = L) : f_X10_handsHeight (nI t) M = some (hhs (M.1 1 0) L (M.1 12 t)) := by
  have m0 : (0 : Int32).toNatClampNeg = 0 := rfl
  unfold f_X10_handsHeight
  rw [chk_t _ (ib_nI ht (by omega)), nI_n (by omega), cosM _ (d100 _), bn1_some, hL, m0]; rfl
theorem hx_b {L : Int32} (a : Int32) (h1 : 50 ≤ L.toInt) (h2 : L.toInt ≤ 900) : (hxs L a).toInt.natAbs ≤ 900 := by
  obtain ⟨s1, s2⟩ := sn_b (a / 100)
  have c1 : (1000 : Int32).toInt = 1000 := rfl
  have m1 : (L.toInt * (sn (a / 100)).toInt).natAbs ≤ 900 * 1000 := mul_b (by omega) (by omega)
  unfold hxs
  rw [ti_div (by rw [c1]; decide), c1, ti_mul (by omega) (by omega)]
  have h3 : (900 * 1000 : Nat) / (1000 : Int).natAbs = 900 := by decide
  have := tdiv_b (d := 1000) m1
  rw [h3] at this
  exact this
theorem hh_b {B L : Int32} (a : Int32) (b1 : 0 ≤ B.toInt) (b2 : B.toInt ≤ 999) (h1 : 50 ≤ L.toInt) (h2 : L.toInt ≤ 900) : (hhs B L a).toInt.natAbs ≤ 1899 := by
  obtain ⟨s1, s2⟩ := cs_b (a / 100)
  have c1 : (1000 : Int32).toInt = 1000 := rfl
  have m1 : (L.toInt * (cs (a / 100)).toInt).natAbs ≤ 900 * 1000 := mul_b (by omega) (by omega)
  have e1 : (L * cs (a / 100) / 1000).toInt = (L.toInt * (cs (a / 100)).toInt).tdiv 1000 := by rw [ti_div (by rw [c1]; decide), c1, ti_mul (by omega) (by omega)]
  have h3 : (900 * 1000 : Nat) / (1000 : Int).natAbs = 900 := by decide
  have := tdiv_b (d := 1000) m1
  rw [h3] at this
  unfold hhs
  rw [ti_sub (by rw [e1]; omega) (by rw [e1]; omega), e1]
  omega
/-- what would stop the swing behind a TICK: 0 nothing -/
def wy (st lo R tk sand : Int32) (sto : Nat → Int32) (P Lf X H p : Int32) : Int32 :=
  if P ≤ st then (if 0 ≤ Lf then (if ¬ 0 ≤ p ∧ ¬ -tk ≤ X then 6 else if -lo ≤ H - R then 0 else if kd sand sto (cl X) = 0 then 8 else 0) else 5) else 7
theorem wy_in (st lo R tk sand : Int32) (sto : Nat → Int32) (P Lf X H p : Int32) : wy st lo R tk sand sto P Lf X H p = 0 ∨ wy st lo R tk sand sto P Lf X H p = 5 ∨ wy st lo R tk sand sto P Lf X H p = 6 ∨ wy st lo R tk sand sto P Lf X H p = 7 ∨ wy st lo R tk sand sto P Lf X H p = 8 := by
  unfold wy
  repeat' split
  all_goals simp
theorem whyC {B L A V : Int32} {S : ST} {t : Nat} (h : PathOK B L A V S) (ht : t < 201) (l1 : 50 ≤ L.toInt) (l2 : L.toInt ≤ 900) (P Lf : Int32) : f_X0_stopsBehind (nI t) P Lf S = some (wy (S.1 51 2) (S.1 51 3) (S.1 51 5) (S.1 5 6) (S.1 5 8) (S.1 7) P Lf (hxs L (trs L A V t).1) (hhs B L (trs L A V t).1) (trs L A V t).2) := by
  have hcol := h.2.2.2.2.2 t ht
  have hb := hx_b (L := L) (trs L A V t).1 l1 l2
  obtain ⟨n, hn, en⟩ := cl_r (hxs L (trs L A V t).1) (by omega)
  have e6 : f_X3_number 6 S = some (S.1 5 6) := numC (i := 6) S (by omega)
  have ex : f_X1_x (nI t) S = some (hxs L (trs L A V t).1) := by unfold f_X1_x; rw [at_in 46 S (show t < lnC 46 from ht), bn1_some, hcol.2.2.1]
  have ep : f_X1_pace (nI t) S = some (trs L A V t).2 := by unfold f_X1_pace; rw [at_in 45 S (show t < lnC 45 from ht), bn1_some, hcol.2.1]
  have eh : f_X1_height (nI t) S = some (hhs B L (trs L A V t).1) := by unfold f_X1_height; rw [at_in 47 S (show t < lnC 47 from ht), bn1_some, hcol.2.2.2.1]
  generalize hxs L (trs L A V t).1 = X at *
  generalize hhs B L (trs L A V t).1 = H at *
  have e56 : b_X0_stopsBehind_56 S (nI t) X = some (if -(S.1 51 3) ≤ H - S.1 51 5 then 0 else if kd (S.1 5 8) (S.1 7) (cl X) = 0 then 8 else 0) := by
    unfold b_X0_stopsBehind_56 b_X0_stopsBehind_82
    rw [eh, bn1_some]
    by_cases q : -(S.1 51 3) ≤ H - S.1 51 5
    · rw [if_pos q, if_pos q, if_pos rfl]
    · rw [if_neg q, if_neg q, if_neg (by decide), cellC, bn1_some, en, kindC hn, bn1_some]
      by_cases q2 : kd (S.1 5 8) (S.1 7) (nI n) = 0
      · rw [if_pos q2, if_pos q2]
      · rw [if_neg q2, if_neg q2]
  unfold f_X0_stopsBehind wy
  by_cases q1 : P ≤ S.1 51 2
  · rw [if_pos q1, if_pos q1]
    by_cases q2 : 0 ≤ Lf
    · rw [if_pos q2, if_pos q2, ex, bn1_some, ep, bn1_some]
      by_cases q3 : 0 ≤ (trs L A V t).2
      · rw [if_pos q3, if_neg (fun h => h.1 q3)]; exact e56
      · rw [if_neg q3, e6, bn1_some]
        by_cases q4 : -(S.1 5 6) ≤ X
        · rw [if_pos q4, if_neg (fun h => h.2 q4)]; exact e56
        · rw [if_neg q4, if_pos ⟨q3, q4⟩]
    · rw [if_neg q2, if_neg q2]
  · rw [if_neg q1, if_neg q1]
theorem whyM {B L A V W G lo : Int32} {M : ST} {t mo : Nat} (tm : Int32) (ht1 : 1 ≤ t) (ht : t < 201) (l1 : 50 ≤ L.toInt) (l2 : L.toInt ≤ 900) (hC : MCol W G L A V t M) (hL : M.1 0 21 = L) (hB : M.1 1 0 = B) (hm : M.1 6 0 = nI mo) (hm2 : mo < 12) (hlo : M.1 4 mo = lo) :
    f_X10_endAt (nI t) tm M = some (if wy (M.1 0 23) lo (M.1 0 25) (M.1 1 6) (M.1 1 8) (M.1 3) (pls W L (trs L A V t)) (lfs W G L A V t) (hxs L (trs L A V t).1) (hhs B L (trs L A V t).1) (trs L A V t).2 = 7 then 7 else if wy (M.1 0 23) lo (M.1 0 25) (M.1 1 6) (M.1 1 8) (M.1 3) (pls W L (trs L A V t)) (lfs W G L A V t) (hxs L (trs L A V t).1) (hhs B L (trs L A V t).1) (trs L A V t).2 = 5 then 5 else if nI t < tm + M.1 0 27 then (if wy (M.1 0 23) lo (M.1 0 25) (M.1 1 6) (M.1 1 8) (M.1 3) (pls W L (trs L A V t)) (lfs W G L A V t) (hxs L (trs L A V t).1) (hhs B L (trs L A V t).1) (trs L A V t).2 = 0 then -1 else wy (M.1 0 23) lo (M.1 0 25) (M.1 1 6) (M.1 1 8) (M.1 3) (pls W L (trs L A V t)) (lfs W G L A V t) (hxs L (trs L A V t).1) (hhs B L (trs L A V t).1) (trs L A V t).2) else 9) := by
  obtain ⟨c1, c2, c3, c4, c5⟩ := hC
  have c3 := c3 ht1
  have hb := hx_b (L := L) (trs L A V t).1 l1 l2
  obtain ⟨n, hn, en⟩ := cl_r (hxs L (trs L A V t).1) (by omega)
  have i1 : ib (nI t) 201 = true := ib_nI ht (by omega)
  have n1 : (nI t).toNatClampNeg = t := nI_n (by omega)
  have m6 : (6 : Int32).toNatClampNeg = 6 := rfl
  have ex : f_X10_handsX (nI t) M = some (hxs L (trs L A V t).1) := by rw [hxM ht hL, c1]
  have eh : f_X10_handsHeight (nI t) M = some (hhs B L (trs L A V t).1) := by rw [hhM ht hL, c1, hB]
  have el : f_X10_lower M = some lo := by rw [lowM hm hm2, hlo]
  generalize hxs L (trs L A V t).1 = X at *
  generalize hhs B L (trs L A V t).1 = H at *
  generalize pls W L (trs L A V t) = P at *
  generalize lfs W G L A V t = Lf at *
  have e68 : b_X10_endAt_68 M (nI t) = some (if (if -lo ≤ H - M.1 0 25 then (0 : Int32) else if kd (M.1 1 8) (M.1 3) (cl X) = 0 then 8 else 0) = 0 then -1 else (if -lo ≤ H - M.1 0 25 then (0 : Int32) else if kd (M.1 1 8) (M.1 3) (cl X) = 0 then 8 else 0)) := by
    unfold b_X10_endAt_68 b_X10_endAt_106
    rw [eh, bn1_some, el, bn1_some]
    by_cases q : -lo ≤ H - M.1 0 25
    · rw [if_pos q, if_pos q, if_pos rfl, if_pos rfl]
    · rw [if_neg q, if_neg q, ex, bn1_some, cellM, bn1_some, en, kindM hn, bn1_some]
      by_cases q2 : kd (M.1 1 8) (M.1 3) (nI n) = 0
      · rw [if_pos q2, if_pos q2, if_neg (by decide), if_neg (by decide)]
      · rw [if_neg q2, if_neg q2, if_pos rfl, if_pos rfl]
  have e0 : ∀ z : Int32, z = 0 ∨ z = 8 → (if z = 7 then (7 : Int32) else if z = 5 then 5 else if nI t < tm + M.1 0 27 then (if z = 0 then -1 else z) else 9) = if nI t < tm + M.1 0 27 then (if z = 0 then -1 else z) else 9 := by
    intro z hz
    rcases hz with rfl | rfl
    · rw [if_neg (by decide), if_neg (by decide)]
    · rw [if_neg (by decide), if_neg (by decide)]
  have e1 : (if -lo ≤ H - M.1 0 25 then (0 : Int32) else if kd (M.1 1 8) (M.1 3) (cl X) = 0 then 8 else 0) = 0 ∨ (if -lo ≤ H - M.1 0 25 then (0 : Int32) else if kd (M.1 1 8) (M.1 3) (cl X) = 0 then 8 else 0) = 8 := by
    repeat' split
    all_goals simp
  unfold f_X10_endAt
  rw [n1, chk_t _ i1, chk_t _ i1, chk_t _ i1, m6, c2, c3, c5]
  by_cases q1 : P ≤ M.1 0 23
  · rw [if_pos q1]
    by_cases q2 : 0 ≤ Lf
    · rw [if_pos q2]
      by_cases q3 : 0 ≤ (trs L A V t).2
      · have ew : wy (M.1 0 23) lo (M.1 0 25) (M.1 1 6) (M.1 1 8) (M.1 3) P Lf X H (trs L A V t).2 = (if -lo ≤ H - M.1 0 25 then (0 : Int32) else if kd (M.1 1 8) (M.1 3) (cl X) = 0 then 8 else 0) := by
          unfold wy
          rw [if_pos q1, if_pos q2, if_neg (fun h => h.1 q3)]
        rw [ew, e0 _ e1, if_pos q3]
        by_cases q5 : nI t < tm + M.1 0 27
        · rw [if_pos q5, if_pos q5]; exact e68
        · rw [if_neg q5, if_neg q5]
      · rw [if_neg q3, ex, bn1_some]
        by_cases q4 : -(M.1 1 6) ≤ X
        · have ew : wy (M.1 0 23) lo (M.1 0 25) (M.1 1 6) (M.1 1 8) (M.1 3) P Lf X H (trs L A V t).2 = (if -lo ≤ H - M.1 0 25 then (0 : Int32) else if kd (M.1 1 8) (M.1 3) (cl X) = 0 then 8 else 0) := by
            unfold wy
            rw [if_pos q1, if_pos q2, if_neg (fun h => h.2 q4)]
          rw [ew, e0 _ e1, if_pos q4]
          by_cases q5 : nI t < tm + M.1 0 27
          · rw [if_pos q5, if_pos q5]; exact e68
          · rw [if_neg q5, if_neg q5]
        · have ew : wy (M.1 0 23) lo (M.1 0 25) (M.1 1 6) (M.1 1 8) (M.1 3) P Lf X H (trs L A V t).2 = 6 := by
            unfold wy
            rw [if_pos q1, if_pos q2, if_pos ⟨q3, q4⟩]
          rw [ew, if_neg q4]
          by_cases q5 : nI t < tm + M.1 0 27
          · rw [if_pos q5, if_pos q5]; rfl
          · rw [if_neg q5, if_neg q5]; rfl
    · have ew : wy (M.1 0 23) lo (M.1 0 25) (M.1 1 6) (M.1 1 8) (M.1 3) P Lf X H (trs L A V t).2 = 5 := by
        unfold wy
        rw [if_pos q1, if_neg q2]
      rw [ew, if_neg q2]; rfl
  · have ew : wy (M.1 0 23) lo (M.1 0 25) (M.1 1 6) (M.1 1 8) (M.1 3) P Lf X H (trs L A V t).2 = 7 := by
      unfold wy
      rw [if_neg q1]
    rw [ew, if_neg q1]; rfl
