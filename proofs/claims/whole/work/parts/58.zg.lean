theorem holds_ok {h : Nat} {S M : ST} (hQ : QR h S M) (a1 a2 a3 : Int32) : Ans S M (f_X9_holds a1 a2 a3 S) (f_X10_holds a1 a2 a3 M) := by
  have hPC := hQ.2.2.2.2.2.2
  unfold f_X9_holds f_X10_holds
  rcases swB hQ a1 with ⟨i, hi, hi8, rfl, e1, e2⟩ | ⟨e1, e2⟩
  · rw [e1, e2, bn1_some, bn1_some, om_some, if_neg w10, wiC a2 (p := 0) (q := 200) rfl rfl, wiM a2 (p := 0) (q := 200) rfl rfl, bn1_some, bn1_some]
    by_cases p : 0 ≤ a2.toInt ∧ a2.toInt ≤ 200
    · rw [if_pos p, if_neg w10, if_neg w10, wiC a3 (p := 0) (q := 5) rfl rfl, wiM a3 (p := 0) (q := 5) rfl rfl, bn1_some, bn1_some]
      by_cases p3 : 0 ≤ a3.toInt ∧ a3.toInt ≤ 5
      · rw [if_pos p3, if_neg w10, if_neg w10]
        obtain ⟨t, -, ht2, rfl⟩ := n_in (a := 0) (b := 200) p.1 p.2
        have ht : t < 201 := by omega
        obtain ⟨S1, c1, cP, cF, cR⟩ := traceNow_ok hQ
        obtain ⟨S9, M1, s, e, mo, q, -, b2, ⟨bF, -, -, -, bC⟩, bP, hq, b5, b6, b7, b8, b9⟩ := ready3 hQ hi
        have sf : SF S S1 := SF.fr (by omega) cF
        have pc : PC S1 := cP.pc
        obtain ⟨k1, k2, k3, k4, k5, k6, k7⟩ := cP.2.2.2.2.2 t ht
        obtain ⟨m1, m2, m3, m4, m5⟩ := bC t ht
        obtain ⟨f1, f2, f3, f4, f5, f6, f7, f8, f9, f10, f11, f12, f13, f14, f15, f16, f17⟩ := id bF
        have iT : ib (nI t) 201 = true := ib_nI ht (by omega)
        have nT : (nI t).toNatClampNeg = t := nI_n (by omega)
        have hk := swk_i i hi8
        have sw := (hQ.2.2.2.2.2.1 i hi).1
        have w0 : f_X6_number (15 + 2 * i) (0 : Int32) S1 = some (M.1 5 (5 * i)) := by
          refine (swC (i := 0) _ S1 hk (by omega)).trans (congrArg some ?_)
          rw [sf _ (by omega), show 15 + 2 * i + 1 = 16 + 2 * i by omega]; exact sw 0 (by omega)
        have w2 : f_X6_number (15 + 2 * i) (2 : Int32) S1 = some (M.1 5 (5 * i + 2)) := by
          refine (swC (i := 2) _ S1 hk (by omega)).trans (congrArg some ?_)
          rw [sf _ (by omega), show 15 + 2 * i + 1 = 16 + 2 * i by omega]; exact sw 2 (by omega)
        rw [c1, bn1_some, ready_bn b2]
        by_cases z0 : a3 = 0
        · rw [if_pos z0, if_pos z0, chk_t _ iT, nT, m1]
          unfold f_X1_angle
          rw [at_in 44 S1 (show t < lnC 44 from ht), bn1_some, bn1_some, k1]
          exact Ans.of _ sf b8 pc
        · rw [if_neg z0, if_neg z0]
          by_cases z1 : a3 = 1
          · rw [if_pos z1, if_pos z1, chk_t _ iT, nT, m2]
            unfold f_X1_pace
            rw [at_in 45 S1 (show t < lnC 45 from ht), bn1_some, bn1_some, k2]
            exact Ans.of _ sf b8 pc
          · rw [if_neg z1, if_neg z1]
            by_cases z2 : a3 = 2
            · rw [if_pos z2, if_pos z2, hxM ht f11, bn1_some, m1]
              unfold f_X1_x
              rw [at_in 46 S1 (show t < lnC 46 from ht), bn1_some, bn1_some, k3]
              exact Ans.of _ sf b8 pc
            · rw [if_neg z2, if_neg z2]
              by_cases z3 : a3 = 3
              · rw [if_pos z3, if_pos z3, hhM ht f11, bn1_some, m1, f12]
                unfold f_X1_height
                rw [at_in 47 S1 (show t < lnC 47 from ht), bn1_some, bn1_some, k4]
                exact Ans.of _ sf b8 pc
              · rw [if_neg z3, if_neg z3]
                by_cases z4 : a3 = 4
                · rw [if_pos z4, if_pos z4, chk_t _ iT, nT]
                  by_cases zt : nI t = 0
                  · have zt2 : t = 0 := by
                      have := congrArg Int32.toInt zt
                      rw [nI_i (by omega), show (0 : Int32).toInt = 0 from rfl] at this
                      omega
                    rw [if_pos zt, m4 zt2]
                    exact Ans.of _ sf b8 pc
                  · have zt2 : 1 ≤ t := by
                      rcases Nat.eq_zero_or_pos t with q | q
                      · exact absurd (by rw [q]; rfl) zt
                      · exact q
                    rw [if_neg zt, m3 zt2, w0, bn1_some, pullC cP ht, bn1_some]
                    exact Ans.of _ sf b8 pc
                · rw [if_neg z4, if_neg z4, chk_t _ iT, nT, m5, w0, bn1_some, w2, bn1_some, leftC cP bP.2.2.2.2.1 ht, bn1_some]
                  exact Ans.of _ sf b8 pc
      · rw [if_neg p3, if_pos rfl, if_pos rfl]; exact Ans.same hPC _
    · rw [if_neg p, if_pos rfl, if_pos rfl]; exact Ans.same hPC _
  · rw [e1, e2, bn1_some, bn1_some, om_none, if_pos rfl]; exact Ans.same hPC _
