theorem spd {w L z : Int32} (p : w.toInt.natAbs * L.toInt.natAbs ≤ 29719000) (z1 : -1000 ≤ z.toInt) (z2 : z.toInt ≤ 1000) : (w * L / 573 * z / 1000).toInt.natAbs ≤ 60000 ∧ (w.toInt64 * L.toInt64 / 573 * z.toInt64 / 1000).toInt = (w * L / 573 * z / 1000).toInt := by
  have c573 : (573 : Int32).toInt = 573 := rfl
  have c573l : (573 : Int64).toInt = 573 := rfl
  have c1000 : (1000 : Int32).toInt = 1000 := rfl
  have c1000l : (1000 : Int64).toInt = 1000 := rfl
  generalize (573 : Int32) = a1 at *
  generalize (573 : Int64) = a2 at *
  generalize (1000 : Int32) = a3 at *
  generalize (1000 : Int64) = a4 at *
  have pm : (w.toInt * L.toInt).natAbs ≤ 29719000 := by rw [Int.natAbs_mul]; exact p
  have pe : (w * L).toInt = w.toInt * L.toInt := ti_mul (by omega) (by omega)
  have pe64 : (w.toInt64 * L.toInt64).toInt = w.toInt * L.toInt := by rw [tl_mul (by rw [tl_i, tl_i]; omega) (by rw [tl_i, tl_i]; omega), tl_i, tl_i]
  have se : (w * L / a1).toInt = (w.toInt * L.toInt).tdiv 573 := by rw [ti_div (by rw [c573]; decide), pe, c573]
  have se64 : (w.toInt64 * L.toInt64 / a2).toInt = (w.toInt * L.toInt).tdiv 573 := by rw [tl_div (by rw [c573l]; decide) (by rw [pe64]; omega), pe64, c573l]
  have sb := tdiv_b (d := 573) pm
  have sb2 : (29719000 : Nat) / (573 : Int).natAbs = 51865 := by decide
  rw [sb2] at sb
  have m1 : ((w.toInt * L.toInt).tdiv 573 * z.toInt).natAbs ≤ 51865 * 1000 := mul_b sb (by omega)
  generalize (w.toInt * L.toInt).tdiv 573 = q at *
  have f1 : (w * L / a1 * z).toInt = q * z.toInt := by rw [ti_mul (by rw [se]; omega) (by rw [se]; omega), se]
  have f2 : (w.toInt64 * L.toInt64 / a2 * z.toInt64).toInt = q * z.toInt := by rw [tl_mul (by rw [se64, tl_i]; omega) (by rw [se64, tl_i]; omega), se64, tl_i]
  have g1 : (w * L / a1 * z / a3).toInt = (q * z.toInt).tdiv 1000 := by rw [ti_div (by rw [c1000]; decide), f1, c1000]
  have g2 : (w.toInt64 * L.toInt64 / a2 * z.toInt64 / a4).toInt = (q * z.toInt).tdiv 1000 := by rw [tl_div (by rw [c1000l]; decide) (by rw [f2]; omega), f2, c1000l]
  have b1 := tdiv_b (d := 1000) m1
  have b2 : (51865 * 1000 : Nat) / (1000 : Int).natAbs = 51865 := by decide
  rw [b2] at b1
  exact ⟨by rw [g1]; omega, by rw [g1, g2]⟩
theorem start_fb {hx hh R up : Int32} (bX : hx.toInt.natAbs ≤ 900) (bH : hh.toInt.natAbs ≤ 1899) (r1 : 0 ≤ R.toInt) (r2 : R.toInt ≤ 220) (bu : up.toInt.natAbs ≤ 60000) : FB 0 ((100 : Int32) * hx).toInt ((100 : Int32) * (hh - R)).toInt up.toInt ((100 : Int32) * (hh - R)).toInt ∧ ((100 : Int64) * hx.toInt64).toInt = ((100 : Int32) * hx).toInt ∧ ((100 : Int64) * (hh - R).toInt64).toInt = ((100 : Int32) * (hh - R)).toInt := by
  have y0 : (hh - R).toInt = hh.toInt - R.toInt := ti_sub (by omega) (by omega)
  obtain ⟨x1, x2⟩ := hun (x := hx) (by omega) (by omega)
  obtain ⟨y1, y2⟩ := hun (x := hh - R) (by omega) (by omega)
  rw [x1, x2, y1, y2, y0]
  exact ⟨FB.zero (by omega) (by omega) (by omega) (by omega) (by omega) (by omega), rfl, rfl⟩
theorem nb {a : Int} {m : Nat} (h : a.natAbs ≤ m) : -(m : Int) ≤ a ∧ a ≤ (m : Int) := by omega
/-- both flights from one TICK -/
theorem fly_ok {B L A V R lo : Int32} {mo t : Nat} {S M : ST} (ht : t < 201) (hF : FlyR B L A V R lo mo S M) (sl : Int32) :
    ∃ S' M', f_X0_fly (nI t) S = some S' ∧ f_X10_fly (nI t) sl M = some M' ∧ S'.1 51 13 = nI t ∧ FlyEnd sl (su S 51 13 (nI t)) S' M M' := by
  obtain ⟨h1, h2, h3, h4, h5, h6, h7, h8, h9, h10, h11, h12, h13, h14, h15, h16, h17⟩ := id hF
  obtain ⟨l1, l2, -⟩ := h3
  have hcol := h1.2.2.2.2.2 t ht
  obtain ⟨p1, p2⟩ := pc_b2 hF.2.2.1 ht
  have bX := hx_b (L := L) (trs L A V t).1 l1 l2
  have bH := hh_b (B := B) (L := L) (trs L A V t).1 h4.1 h4.2 l1 l2
  obtain ⟨s1, s2⟩ := sn_b ((trs L A V t).1 / 100)
  obtain ⟨s3, s4⟩ := cs_b ((trs L A V t).1 / 100)
  obtain ⟨S1, hS1⟩ : ∃ T : ST, T = su S 51 13 (nI t) := ⟨_, rfl⟩
  have OS1 : Off 51 [9, 10, 11, 12, 13, 14, 15, 16] S S1 := by rw [hS1]; exact Off.rf.su 13 _ (by simp)
  have ex : f_X1_x (nI t) S1 = some (hxs L (trs L A V t).1) := by unfold f_X1_x; rw [at_in 46 S1 (show t < lnC 46 from ht), bn1_some, OS1.row (k := 46) (by omega), hcol.2.2.1]
  have eh : f_X1_height (nI t) S1 = some (hhs B L (trs L A V t).1) := by unfold f_X1_height; rw [at_in 47 S1 (show t < lnC 47 from ht), bn1_some, OS1.row (k := 47) (by omega), hcol.2.2.2.1]
  have ea : f_X1_across (nI t) S1 = some (acs L (trs L A V t)) := by unfold f_X1_across; rw [at_in 49 S1 (show t < lnC 49 from ht), bn1_some, OS1.row (k := 49) (by omega), hcol.2.2.2.2.2.1]
  have eu : f_X1_up (nI t) S1 = some (ups L (trs L A V t)) := by unfold f_X1_up; rw [at_in 50 S1 (show t < lnC 50 from ht), bn1_some, OS1.row (k := 50) (by omega), hcol.2.2.2.2.2.2]
  have i1 : ib (nI t) 201 = true := ib_nI ht (by omega)
  have n1 : (nI t).toNatClampNeg = t := nI_n (by omega)
  have m0 : (0 : Int32).toNatClampNeg = 0 := rfl
  obtain ⟨M1, hM1⟩ : ∃ T : ST, T = su M 0 36 0 := ⟨_, rfl⟩
  have OM1 : Off 0 [33, 34, 36, 37, 38] M M1 := by rw [hM1]; exact Off.rf.su 36 _ (by simp)
  have hF1 : FlyR B L A V R lo mo S1 M1 := hF.fr OS1 (OM1.wd (by intro j hj; simp at hj ⊢; omega))
  obtain ⟨a1, a2⟩ := spd p1 s3 s4
  obtain ⟨u1, u2⟩ := spd p1 s1 s2
  have eups : ups L (trs L A V t) = (trs L A V t).2 * L / 573 * sn ((trs L A V t).1 / 100) / 1000 := rfl
  have eacs : acs L (trs L A V t) = (trs L A V t).2 * L / 573 * cs ((trs L A V t).1 / 100) / 1000 := rfl
  rw [← eups] at u1 u2
  rw [← eacs] at a1 a2
  obtain ⟨hfb, x2, y2⟩ := start_fb bX bH h5.1 h5.2 u1
  have ab1 : -60000 ≤ (acs L (trs L A V t)).toInt := by exact (nb a1).1
  have ab2 : (acs L (trs L A V t)).toInt ≤ 60000 := by exact (nb a1).2
  have g0 : M1.1 0 36 = nI 0 := by rw [hM1]; simp [su_1]; rfl
  have n0 : nI 0 = 0 := rfl
  have e400 : 0 + 400 = 400 := by omega
  have l400 : 400 < 1000 := by omega
  obtain ⟨S', M', q1, q2, q3, q4, q5⟩ := fly_loop (B := B) (L := L) (A := A) (V := V) (R := R) (lo := lo) (mo := mo) ht sl (acs L (trs L A V t)) ((trs L A V t).2.toInt64 * L.toInt64 / 573 * (cs ((trs L A V t).1 / 100)).toInt64 / 1000) a2 ab1 ab2 400 1000 1000 0 (100 * hxs L (trs L A V t).1) (100 * (hhs B L (trs L A V t).1 - R)) (ups L (trs L A V t)) (100 * (hhs B L (trs L A V t).1 - R)) (100 * (hxs L (trs L A V t).1).toInt64) (100 * (hhs B L (trs L A V t).1 - R).toInt64) ((trs L A V t).2.toInt64 * L.toInt64 / 573 * (sn ((trs L A V t).1 / 100)).toInt64 / 1000) (100 * (hhs B L (trs L A V t).1 - R).toInt64) 0 S1 M1 e400 l400 l400 hF1 g0 (Or.inl rfl) x2 y2 u2 y2 hfb
  rw [n0] at q1
  refine ⟨S', M', ?_, ?_, ?_, ?_⟩
  · unfold f_X0_fly
    simp only [nm_x]
    rw [← hS1, ex, bn1_some, eh, bn1_some, ea, bn1_some, eu, bn1_some, OS1.at (by simp), h14]
    exact q1
  · unfold f_X10_fly
    generalize lp (fun _ _ _ _ _ _ _ _ _ => none) b_X10_fly_98 1000 = Q at q2 ⊢
    rw [chk_t _ i1, nm_x, chk_t _ i1, nm_x, n1, cosM _ (d100 _), bn1_some, nm_x, sineM _ (d100 _), bn1_some, nm_x, hxM (L := L) ht h11, bn1_some, nm_x, hhM (L := L) ht h11, bn1_some, nm_x, nm_x, (h17 t ht).1, (h17 t ht).2, h11, h12, h15, ← hM1]
    exact q2
  · rw [q3.at (by simp), hS1]; simp [su_1]
  · rw [← hS1]
    exact ⟨q3, OM1.tr q4, q5⟩
