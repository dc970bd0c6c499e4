theorem fly_loop {B L A V R lo : Int32} {mo t : Nat} (ht : t < 201) (sl ac : Int32) (ac64 : Int64) (hac : ac64.toInt = ac.toInt) (hab1 : -60000 ≤ ac.toInt) (hab2 : ac.toInt ≤ 60000) :
    ∀ (r n1 n2 k : Nat) (x y up top : Int32) (x64 y64 up64 top64 : Int64) (fl : Int32) (S M : ST), k + r = 400 → r < n1 → r < n2 → FlyR B L A V R lo mo S M → M.1 0 36 = nI k → (fl = 0 ∨ fl = 1) → x64.toInt = x.toInt → y64.toInt = y.toInt → up64.toInt = up.toInt → top64.toInt = top.toInt → FB k x.toInt y.toInt up.toInt top.toInt →
    ∃ S' M', lp (fun _ _ _ _ _ _ _ _ _ => none) b_X0_fly_63 n1 (nI t) x y ac up top (nI k) fl S = some S' ∧ lp (fun _ _ _ _ _ _ _ _ _ => none) b_X10_fly_98 n2 (nI t) sl ac64 up64 x64 y64 top64 fl M = some M' ∧ FlyEnd sl S S' M M' := by
  intro r
  induction r with
  | zero =>
    intro n1 n2 k x y up top x64 y64 up64 top64 fl S M hk hn1 hn2 hF h36 hfl hx hy hu htp hb
    obtain ⟨n1, rfl⟩ : ∃ k, n1 = k + 1 := ⟨n1 - 1, by omega⟩
    obtain ⟨n2, rfl⟩ : ∃ k, n2 = k + 1 := ⟨n2 - 1, by omega⟩
    obtain ⟨⟨-, rx⟩, -, -⟩ := hb.rng (by omega)
    rw [lp_s, lp_s]
    rw [b_X0_fly_63, b_X10_fly_98]
    rw [h36, if_pos (show (400 : Int32) ≤ nI k from nI_le (a := 400) (by omega) (by omega)), if_pos (show (400 : Int32) ≤ nI k from nI_le (a := 400) (by omega) (by omega))]
    exact fly_exit ht hF sl x top (nI k) x64 top64 hx (Int.lt_of_le_of_lt rx (by decide)) htp h36 fl hfl
  | succ r ih =>
    intro n1 n2 k x y up top x64 y64 up64 top64 fl S M hk hn1 hn2 hF h36 hfl hx hy hu htp hb
    obtain ⟨n1, rfl⟩ : ∃ k, n1 = k + 1 := ⟨n1 - 1, by omega⟩
    obtain ⟨n2, rfl⟩ : ∃ k, n2 = k + 1 := ⟨n2 - 1, by omega⟩
    have hk4 : k < 400 := by omega
    have hk1 : (k + 1) + r = 400 := by omega
    have hn1' : r < n1 := by omega
    have hn2' : r < n2 := by omega
    obtain ⟨⟨rx1, rx2⟩, ⟨ry1, ry2⟩, ru1, ru2⟩ := hb.rng (by omega)
    obtain ⟨fb1, fb2⟩ := hb.st hk4 hab1 hab2
    obtain ⟨⟨qx1, qx2⟩, ⟨qy1, qy2⟩, -, -⟩ := fb1.rng (by omega)
    rw [lp_s, lp_s]
    rw [b_X0_fly_63, b_X10_fly_98]
    rw [h36, if_neg (show ¬ (400 : Int32) ≤ nI k from nI_ge (b := 400) (by omega) (by omega)), if_neg (show ¬ (400 : Int32) ≤ nI k from nI_ge (b := 400) (by omega) (by omega))]
    by_cases hq : fl = 0
    · rw [if_pos hq, if_pos hq]
      simp only [nm_x]
      obtain ⟨ex, ex64⟩ := add_b hx hac (Int.le_trans (by decide) qx1) (Int.le_trans qx2 (by decide))
      obtain ⟨ey, ey64⟩ := add_b hy hu (Int.le_trans (by decide) qy1) (Int.le_trans qy2 (by decide))
      have eu := up_i ru1 ru2
      have eu64 := up_l hu ru1 ru2
      have gx : (x + ac).toInt < 100000000 := by rw [ex]; exact Int.lt_of_le_of_lt qx2 (by decide)
      have gy : -1000000000 < (y + up).toInt := by rw [ey]; exact Int.lt_of_lt_of_le (by decide) qy1
      have hxx : (x64 + ac64).toInt = (x + ac).toInt := by rw [ex64, ex]
      have hyy : (y64 + up64).toInt = (y + up).toInt := by rw [ey64, ey]
      have huu : (up64 - 245).toInt = (up + -245).toInt := by rw [eu64, eu]
      rw [← ex, ← ey, ← eu] at fb1 fb2
      clear ex ex64 ey ey64 eu eu64 qx1 qx2 qy1 qy2 rx1 rx2 ry1 ry2 ru1 ru2 hb
      have ek : nI k + 1 = nI (k + 1) := nI_1 k
      obtain ⟨M1, hM1⟩ : ∃ T : ST, T = su M 0 36 (nI (k + 1)) := ⟨_, rfl⟩
      have OM1 : Off 0 [33, 34, 36, 37, 38] M M1 := by rw [hM1]; exact Off.rf.su 36 _ (by simp)
      have hF1 : FlyR B L A V R lo mo S M1 := hF.fr Off.rf (OM1.wd (by intro j hj; simp at hj ⊢; omega))
      have g36 : M1.1 0 36 = nI (k + 1) := by rw [hM1]; simp [su_1]
      obtain ⟨hdn, -⟩ := downM hF1 (x + ac) (y + up) (x64 + ac64) (y64 + up64) hxx hyy gx
      have hcm : (lg_cmp (y64 + up64) top64 ≤ 0) ↔ y + up ≤ top := by rw [cmp_le, hyy, htp, i_le]
      have hb150 : ∀ tp64 : Int64, b_X10_fly_150 (lp (fun _ _ _ _ _ _ _ _ _ => none) b_X10_fly_98 n2) (nI t) sl ac64 (up64 - 245) (x64 + ac64) (y64 + up64) tp64 M = lp (fun _ _ _ _ _ _ _ _ _ => none) b_X10_fly_98 n2 (nI t) sl ac64 (up64 - 245) (x64 + ac64) (y64 + up64) tp64 (dwn lo S (x + ac) (y + up)) M1 := by
        intro tp64
        unfold b_X10_fly_150
        simp only [nm_x]
        rw [h36, ek, ← hM1, hdn, bn1_some]
      rw [ek]
      by_cases qt : y + up ≤ top
      · rw [if_pos qt, if_pos (hcm.mpr qt), hb150, fly107 hF _ _ _ _ _ _ _ _ gx gy]
        obtain ⟨S', M', q1, q2, q3, q4, q5⟩ := ih n1 n2 (k + 1) (x + ac) (y + up) (up + -245) top (x64 + ac64) (y64 + up64) (up64 - 245) top64 (dwn lo S (x + ac) (y + up)) S M1 hk1 hn1' hn2' hF1 g36 (dwn_01 _ _ _ _) hxx hyy huu htp fb1
        exact ⟨S', M', q1, q2, q3, OM1.tr q4, q5⟩
      · rw [if_neg qt, if_neg (fun h => qt (hcm.mp h)), hb150, fly107 hF _ _ _ _ _ _ _ _ gx gy]
        obtain ⟨S', M', q1, q2, q3, q4, q5⟩ := ih n1 n2 (k + 1) (x + ac) (y + up) (up + -245) (y + up) (x64 + ac64) (y64 + up64) (up64 - 245) (y64 + up64) (dwn lo S (x + ac) (y + up)) S M1 hk1 hn1' hn2' hF1 g36 (dwn_01 _ _ _ _) hxx hyy huu hyy fb2
        exact ⟨S', M', q1, q2, q3, OM1.tr q4, q5⟩
    · rw [if_neg hq, if_neg hq]
      exact fly_exit ht hF sl x top (nI k) x64 top64 hx (Int.lt_of_le_of_lt rx2 (by decide)) htp h36 fl hfl
