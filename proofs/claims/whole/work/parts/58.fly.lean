def dpt (d lo : Int32) : Int32 := if 0 ≤ d - lo then d - lo else 0
theorem depthC {n : Nat} (h : n < 24) (lo : Int32) (S : ST) : f_X3_depth (nI n) lo S = some (dpt (S.1 6 n) lo) := by
  unfold f_X3_depth b_X3_depth_25 dpt
  rw [if_neg (nI_pos (by omega)), if_neg (show ¬ (24 : Int32) ≤ nI n from nI_ge (b := 24) h (by omega)), chk_t _ (ib_nI h (by omega)), nI_n (by omega)]
  split <;> rfl
theorem depthM {n mo : Nat} {lo : Int32} (h : n < 24) (M : ST) (hm : M.1 6 0 = nI mo) (hm2 : mo < 12) (hlo : M.1 4 mo = lo) (l1 : 0 ≤ lo.toInt) (l2 : lo.toInt ≤ 300) (d1 : 0 ≤ (M.1 2 n).toInt) (d2 : (M.1 2 n).toInt ≤ 600) : f_X10_depthOf (nI n) M = some (dpt (M.1 2 n) lo) := by
  have c0 : (0 : Int32).toInt = 0 := rfl
  have e1 : (M.1 2 n - lo).toInt = (M.1 2 n).toInt - lo.toInt := ti_sub (by omega) (by omega)
  unfold f_X10_depthOf dpt
  rw [lowM hm hm2, hlo]
  simp only [bn1_some, chk_t _ (ib_nI h (by omega : n < 2147483648)), nI_n (by omega : n < 2147483648)]
  by_cases q : lo ≤ M.1 2 n
  · rw [if_pos q, if_pos (by rw [i_le, c0, e1]; rw [i_le] at q; omega)]
  · rw [if_neg q, if_neg (by rw [i_le, c0, e1]; rw [i_le] at q; omega)]
/-- how one lands -/
def lnd (k d N tu : Int32) : Int32 := if k = 2 then 1 else if k = 1 then 3 else if N ≤ d then (if tu ≤ 30 then 2 else if tu < 330 then 4 else 2) else 3
theorem lnd_in (k d N tu : Int32) : lnd k d N tu = 1 ∨ lnd k d N tu = 2 ∨ lnd k d N tu = 3 ∨ lnd k d N tu = 4 := by
  unfold lnd
  repeat' split
  all_goals simp
theorem landC {n : Nat} (h : n < 24) (S : ST) : f_X0_landing (nI n) S = some (lnd (kd (S.1 5 8) (S.1 7) (nI n)) (dpt (S.1 6 n) (S.1 51 3)) (S.1 5 7) (S.1 51 16)) := by
  have e7 : f_X3_number 7 S = some (S.1 5 7) := numC (i := 7) S (by omega)
  unfold f_X0_landing lnd
  rw [kindC h, bn1_some, depthC h, e7]
  simp only [bn1_some]
  repeat' split
  all_goals rfl
theorem landM {n mo : Nat} {lo : Int32} (h : n < 24) (sl : Int32) (M : ST) (hm : M.1 6 0 = nI mo) (hm2 : mo < 12) (hlo : M.1 4 mo = lo) (l1 : 0 ≤ lo.toInt) (l2 : lo.toInt ≤ 300) (d1 : 0 ≤ (M.1 2 n).toInt) (d2 : (M.1 2 n).toInt ≤ 600) :
    f_X10_land (nI n) sl M = some (su M 0 33 (if sl = 0 then lnd (kd (M.1 1 8) (M.1 3) (nI n)) (dpt (M.1 2 n) lo) (M.1 1 7) (M.1 0 38) else 5)) := by
  have m7 : (7 : Int32).toNatClampNeg = 7 := rfl
  have g : ∀ rd : Int32, b_X10_land_24 (nI n) sl rd M = some (su M 0 33 (if sl = 0 then (if kd (M.1 1 8) (M.1 3) (nI n) = 2 then 1 else if kd (M.1 1 8) (M.1 3) (nI n) = 1 then 3 else if M.1 1 7 ≤ dpt (M.1 2 n) lo then (if rd = 0 then 4 else 2) else 3) else 5)) := by
    intro rd
    unfold b_X10_land_24 b_X10_land_66 b_X10_land_89
    rw [kindM h, bn1_some, depthM h M hm hm2 hlo l1 l2 d1 d2, m7]
    simp only [bn1_some, nm_x]
    generalize kd (M.1 1 8) (M.1 3) (nI n) = k
    by_cases q : sl = 0
    · simp only [q, if_true]
      by_cases q1 : k = 1
      · subst q1
        rw [if_pos rfl, if_neg (by decide), if_neg (by decide), if_pos rfl]
      · rw [if_neg q1]
        by_cases q2 : k = 2
        · simp [q2]
        · simp only [q1, q2, if_false]
          repeat' split
          all_goals rfl
    · simp only [q, if_false]
      repeat' split
      all_goals rfl
  unfold f_X10_land
  rw [g, g]
  unfold lnd
  by_cases q1 : M.1 0 38 ≤ 30
  · simp only [q1, if_true]
    rfl
  · by_cases q2 : M.1 0 38 < 330
    · simp only [q1, q2, if_true, if_false]
    · simp only [q1, q2, if_false]
      rfl
/-- what both sides' flights stand on -/
def FlyR (B L A V R lo : Int32) (mo : Nat) (S M : ST) : Prop :=
  PathOK B L A V S ∧ PR S M ∧ Rg L A V ∧ (0 ≤ B.toInt ∧ B.toInt ≤ 999) ∧ (0 ≤ R.toInt ∧ R.toInt ≤ 220) ∧ (0 ≤ lo.toInt ∧ lo.toInt ≤ 300) ∧ (∀ j, j < 24 → 0 ≤ (M.1 2 j).toInt ∧ (M.1 2 j).toInt ≤ 600) ∧ mo < 12 ∧ M.1 6 0 = nI mo ∧ M.1 4 mo = lo ∧ M.1 0 21 = L ∧ M.1 1 0 = B ∧ S.1 51 3 = lo ∧ S.1 51 5 = R ∧ M.1 0 25 = R ∧ S.1 51 8 = M.1 0 28 ∧ (∀ t, t < 201 → M.1 12 t = (trs L A V t).1 ∧ M.1 13 t = (trs L A V t).2)
theorem PR.fr {S M S' M' : ST} (h : PR S M) (e : ∀ k, 5 ≤ k → k ≤ 8 → S'.1 k = S.1 k) (e2 : ∀ k, 1 ≤ k → k ≤ 4 → M'.1 k = M.1 k) : PR S' M' := by
  obtain ⟨h1, h2, h3, h4⟩ := h
  refine ⟨fun j hj => ?_, fun j hj => ?_, fun j hj => ?_, fun j hj => ?_⟩
  · rw [e 5 (by omega) (by omega), e2 1 (by omega) (by omega)]; exact h1 j hj
  · rw [e 6 (by omega) (by omega), e2 2 (by omega) (by omega)]; exact h2 j hj
  · rw [e 7 (by omega) (by omega), e2 3 (by omega) (by omega)]; exact h3 j hj
  · rw [e 8 (by omega) (by omega), e2 4 (by omega) (by omega)]; exact h4 j hj
theorem FlyR.fr {B L A V R lo : Int32} {mo : Nat} {S M S' M' : ST} (h : FlyR B L A V R lo mo S M) (hS : Off 51 [9, 10, 11, 12, 13, 14, 15, 16] S S') (hM : Off 0 [33, 34, 35, 36, 37, 38] M M') : FlyR B L A V R lo mo S' M' := by
  obtain ⟨h1, h2, h3, h4, h5, h6, h7, h8, h9, h10, h11, h12, h13, h14, h15, h16, h17⟩ := h
  refine ⟨h1.fr (fun k k1 k2 => hS.row (by omega)), h2.fr (fun k k1 k2 => hS.row (by omega)) (fun k k1 k2 => hM.row (by omega)), h3, h4, h5, h6, ?_, h8, ?_, ?_, ?_, ?_, ?_, ?_, ?_, ?_, ?_⟩
  · rw [hM.row (k := 2) (by omega)]; exact h7
  · rw [hM.row (k := 6) (by omega)]; exact h9
  · rw [hM.row (k := 4) (by omega)]; exact h10
  · rw [hM.at (by simp)]; exact h11
  · rw [hM.row (k := 1) (by omega)]; exact h12
  · rw [hS.at (by simp)]; exact h13
  · rw [hS.at (by simp)]; exact h14
  · rw [hM.at (by simp)]; exact h15
  · rw [hS.at (by simp), hM.at (by simp)]; exact h16
  · rw [hM.row (k := 12) (by omega), hM.row (k := 13) (by omega)]; exact h17
theorem d100i {x : Int32} {y : Int64} (h : y.toInt = x.toInt) : (y / 100).toInt32 = x / 100 := by
  have c1 : (100 : Int32).toInt = 100 := rfl
  have c2 : (100 : Int64).toInt = 100 := rfl
  have h1 := Int32.le_toInt x
  have h2 := Int32.toInt_lt x
  have e1 : (y / 100).toInt = x.toInt.tdiv 100 := by rw [tl_div (by rw [c2]; decide) (by omega), c2, h]
  have e2 : (x / 100).toInt = x.toInt.tdiv 100 := by rw [ti_div (by rw [c1]; decide), c1]
  have g1 := Int32.le_toInt (x / 100)
  have g2 := Int32.toInt_lt (x / 100)
  apply i_ext
  rw [ti_l (by rw [e1, ← e2]; omega) (by rw [e1, ← e2]; omega), e1, e2]
/-- what both flights leave -/
def FlyEnd (sl : Int32) (S S' M M' : ST) : Prop := Off 51 [11, 12, 14, 15, 16] S S' ∧ Off 0 [33, 34, 36, 37, 38] M M' ∧ S'.1 51 12 = M'.1 0 34 ∧ S'.1 51 14 = M'.1 0 36 ∧ S'.1 51 15 = M'.1 0 37 ∧ S'.1 51 16 = M'.1 0 38 ∧ ((S'.1 51 11 = 0 ∧ M'.1 0 33 = 0) ∨ ((S'.1 51 11 = 1 ∨ S'.1 51 11 = 2 ∨ S'.1 51 11 = 3 ∨ S'.1 51 11 = 4) ∧ M'.1 0 33 = if sl = 0 then S'.1 51 11 else 5))
theorem fly_exit {B L A V R lo : Int32} {mo t : Nat} {S M : ST} (ht : t < 201) (hF : FlyR B L A V R lo mo S M) (sl x top tk : Int32) (x64 top64 : Int64) (hx : x64.toInt = x.toInt) (hxb : x.toInt < 100000000) (htop : top64.toInt = top.toInt) (htk : M.1 0 36 = tk) (fl : Int32) (hfl : fl = 0 ∨ fl = 1) :
    ∃ S' M', b_X0_fly_152 (nI t) x top tk fl S = some S' ∧ b_X10_fly_175 (nI t) sl x64 top64 fl M = some M' ∧ FlyEnd sl S S' M M' := by
  obtain ⟨h1, h2, h3, h4, h5, h6, h7, h8, h9, h10, h11, h12, h13, h14, h15, h16, h17⟩ := id hF
  have hcol := h1.2.2.2.2.2 t ht
  have e1 : (x64 / 100).toInt32 = x / 100 := d100i hx
  have e2 : (top64 / 100).toInt32 = top / 100 := d100i htop
  -- the class's rows
  obtain ⟨C1, hC1⟩ : ∃ T : ST, T = su S 51 14 tk := ⟨_, rfl⟩
  have OC1 : Off 51 [11, 12, 14, 15, 16] S C1 := by rw [hC1]; exact Off.rf.su 14 _ (by simp)
  have hX : f_X1_x (nI t) C1 = some (hxs L (trs L A V t).1) := by
    unfold f_X1_x
    rw [at_in 46 C1 (show t < lnC 46 from ht), bn1_some, OC1.row (k := 46) (by omega), hcol.2.2.1]
  obtain ⟨wh, hwh⟩ : ∃ w : Int32, w = if fl = 0 then hxs L (trs L A V t).1 else x / 100 := ⟨_, rfl⟩
  obtain ⟨C4, hC4⟩ : ∃ T : ST, T = su (su (su C1 51 12 wh) 51 15 (top / 100)) 51 16 (S.1 51 8 * tk - S.1 51 8 * tk / 360 * 360) := ⟨_, rfl⟩
  have OC4 : Off 51 [11, 12, 14, 15, 16] S C4 := by rw [hC4]; exact ((OC1.su 12 _ (by simp)).su 15 _ (by simp)).su 16 _ (by simp)
  have k12 : C4.1 51 12 = wh := by rw [hC4]; simp [su_1]
  have k14 : C4.1 51 14 = tk := by rw [hC4, hC1]; simp [su_1]
  have k15 : C4.1 51 15 = top / 100 := by rw [hC4]; simp [su_1]
  have k16 : C4.1 51 16 = S.1 51 8 * tk - S.1 51 8 * tk / 360 * 360 := by rw [hC4]; simp [su_1]
  have hcls : b_X0_fly_152 (nI t) x top tk fl S = if fl = 0 then (some (su C4 51 11 0)) else (bn1 (f_X3_cellAt wh) fun r17 => bn1 (f_X0_landing r17 C4) fun r18 => some (su C4 51 11 r18)) := by
    have g : ∀ w, b_X0_fly_179 top fl w C1 = if fl = 0 then (some (su (su (su (su C1 51 12 w) 51 15 (top / 100)) 51 16 (S.1 51 8 * tk - S.1 51 8 * tk / 360 * 360)) 51 11 0)) else (bn1 (f_X3_cellAt w) fun r17 => bn1 (f_X0_landing r17 (su (su (su C1 51 12 w) 51 15 (top / 100)) 51 16 (S.1 51 8 * tk - S.1 51 8 * tk / 360 * 360))) fun r18 => some (su (su (su (su C1 51 12 w) 51 15 (top / 100)) 51 16 (S.1 51 8 * tk - S.1 51 8 * tk / 360 * 360)) 51 11 r18)) := by
      intro w
      unfold b_X0_fly_179 b_X0_fly_229
      simp only [nm_x]
      have a1 : (su (su C1 51 12 w) 51 15 (top / 100)).1 51 8 = S.1 51 8 := by rw [hC1]; simp [su_1]
      have a2 : (su (su C1 51 12 w) 51 15 (top / 100)).1 51 14 = tk := by rw [hC1]; simp [su_1]
      rw [a1, a2]
      have a3 : (su (su (su C1 51 12 w) 51 15 (top / 100)) 51 16 (S.1 51 8 * tk - S.1 51 8 * tk / 360 * 360)).1 51 12 = w := by simp [su_1]
      rw [a3]
    unfold b_X0_fly_152
    simp only [nm_x]
    rw [← hC1]
    by_cases q : fl = 0
    · rw [if_pos q, hX, bn1_some, g, if_pos q, if_pos q, hC4, hwh, if_pos q]
    · rw [if_neg q, g, if_neg q, if_neg q, hC4, hwh, if_neg q]
  -- the reference's rows
  obtain ⟨D3, hD3⟩ : ∃ T : ST, T = su (su (su M 0 37 (top / 100)) 0 38 (M.1 0 28 * tk - M.1 0 28 * tk / 360 * 360)) 0 33 0 := ⟨_, rfl⟩
  have OD3 : Off 0 [33, 34, 36, 37, 38] M D3 := by rw [hD3]; exact ((Off.rf.su 37 _ (by simp)).su 38 _ (by simp)).su 33 _ (by simp)
  have hXM : f_X10_handsX (nI t) D3 = some (hxs L (trs L A V t).1) := by
    rw [hxM (L := L) ht (by rw [OD3.at (by simp)]; exact h11), OD3.row (k := 12) (by omega), (h17 t ht).1]
  have hmod : b_X10_fly_175 (nI t) sl x64 top64 fl M = if fl = 0 then some (su D3 0 34 (hxs L (trs L A V t).1)) else (bn1 (f_X10_cellOf (x / 100)) fun r22 => bn1 (f_X10_land r22 sl (su (su D3 0 34 (hxs L (trs L A V t).1)) 0 34 (x / 100))) fun S23 => some S23) := by
    unfold b_X10_fly_175
    simp only [nm_x]
    have a1 : (su M 0 37 ((top64 / 100).toInt32)).1 0 28 = M.1 0 28 := by simp [su_1]
    have a2 : (su M 0 37 ((top64 / 100).toInt32)).1 0 36 = tk := by simp [su_1, htk]
    rw [a1, a2, e2, ← hD3, hXM, bn1_some, e1]
    have a3 : (su (su D3 0 34 (hxs L (trs L A V t).1)) 0 34 (x / 100)).1 0 34 = x / 100 := by simp [su_1]
    rw [a3]
  rw [hcls, hmod]
  rcases hfl with hfl | hfl
  · rw [if_pos hfl, if_pos hfl]
    rw [if_pos hfl] at hwh
    refine ⟨_, _, rfl, rfl, OC4.su 11 _ (by simp), OD3.su 34 _ (by simp), ?_, ?_, ?_, ?_, Or.inl ⟨by simp [su_1], ?_⟩⟩
    · simp [su_1, k12, hwh]
    · rw [hD3]; simp [su_1, k14, htk]
    · rw [hD3]; simp [su_1, k15]
    · rw [hD3]; simp [su_1, k16, h16]
    · rw [hD3]; simp [su_1]
  · have hne : ¬ fl = 0 := by rw [hfl]; decide
    rw [if_neg hne, if_neg hne]
    rw [if_neg hne] at hwh
    have c1 : (100 : Int32).toInt = 100 := rfl
    have hq : (x / 100).toInt < 1000000000 := by
      rw [ti_div (by rw [c1]; decide), c1]
      have := tdiv_le (x := x.toInt) (d := 100) (by decide)
      have b1 := Int32.le_toInt x
      rcases Int.le_total 0 x.toInt with q | q
      · omega
      · have e : x.toInt.tdiv 100 = -((-x.toInt).tdiv 100) := by rw [Int.neg_tdiv]; omega
        have := Int.tdiv_nonneg (a := -x.toInt) (b := 100) (by omega) (by decide)
        omega
    obtain ⟨n, hn, en⟩ := cl_r (x / 100) hq
    obtain ⟨E2, hE2⟩ : ∃ T : ST, T = su (su D3 0 34 (hxs L (trs L A V t).1)) 0 34 (x / 100) := ⟨_, rfl⟩
    have OE2 : Off 0 [33, 34, 36, 37, 38] M E2 := by rw [hE2]; exact (OD3.su 34 _ (by simp)).su 34 _ (by simp)
    have j34 : E2.1 0 34 = x / 100 := by rw [hE2]; simp [su_1]
    have j36 : E2.1 0 36 = tk := by rw [hE2, hD3]; simp [su_1, htk]
    have j37 : E2.1 0 37 = top / 100 := by rw [hE2, hD3]; simp [su_1]
    have j38 : E2.1 0 38 = M.1 0 28 * tk - M.1 0 28 * tk / 360 * 360 := by rw [hE2, hD3]; simp [su_1]
    rw [← hE2, hwh, cellC, bn1_some, cellM, bn1_some, en, landC hn, bn1_some, landM hn sl E2 (by rw [OE2.row (k := 6) (by omega)]; exact h9) h8 (by rw [OE2.row (k := 4) (by omega)]; exact h10) h6.1 h6.2 (by rw [OE2.row (k := 2) (by omega)]; exact (h7 n hn).1) (by rw [OE2.row (k := 2) (by omega)]; exact (h7 n hn).2), bn1_some]
    have hPR : PR C4 E2 := h2.fr (fun k k1 k2 => OC4.row (by omega)) (fun k k1 k2 => OE2.row (by omega))
    have el : lnd (kd (C4.1 5 8) (C4.1 7) (nI n)) (dpt (C4.1 6 n) (C4.1 51 3)) (C4.1 5 7) (C4.1 51 16) = lnd (kd (E2.1 1 8) (E2.1 3) (nI n)) (dpt (E2.1 2 n) lo) (E2.1 1 7) (E2.1 0 38) := by
      rw [kd_eq hPR hn, hPR.2.1 n hn, hPR.1 7 (by omega), k16, j38, h16, OC4.at (by simp), h13]
    rw [el]
    have hin := lnd_in (kd (E2.1 1 8) (E2.1 3) (nI n)) (dpt (E2.1 2 n) lo) (E2.1 1 7) (E2.1 0 38)
    generalize lnd (kd (E2.1 1 8) (E2.1 3) (nI n)) (dpt (E2.1 2 n) lo) (E2.1 1 7) (E2.1 0 38) = z at *
    refine ⟨_, _, rfl, rfl, OC4.su 11 _ (by simp), OE2.su 33 _ (by simp), ?_, ?_, ?_, ?_, Or.inr ⟨by simpa [su_1] using hin, by simp [su_1]⟩⟩
    · simp [su_1, k12, j34, hwh]
    · simp [su_1, k14, j36]
    · simp [su_1, k15, j37]
    · simp [su_1, k16, j38, h16]
