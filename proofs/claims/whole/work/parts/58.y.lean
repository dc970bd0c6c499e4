theorem ti_nn {t q : Nat} (h : t + q < 2147483648) : nI t + nI q = nI (t + q) := by
  refine i_ext ?_
  rw [ti_add (by rw [nI_i (by omega), nI_i (by omega)]; omega) (by rw [nI_i (by omega), nI_i (by omega)]; omega), nI_i (by omega), nI_i (by omega), nI_i (by omega)]
  omega
theorem lands_ok {h : Nat} {S M : ST} (hQ : QR h S M) (a1 a2 a3 : Int32) : ∃ r S' M', f_X9_lands a1 a2 a3 S = some (r, S') ∧ f_X10_lands a1 a2 a3 M = some (r, M') ∧ SF S S' ∧ MF M M' ∧ PC S' := by
  have hPC := hQ.2.2.2.2.2.2
  have sf0 : SF S S := fun _ _ => rfl
  have mf0 : MF M M := ⟨fun _ _ => rfl, fun _ _ => rfl⟩
  unfold f_X9_lands f_X10_lands
  rw [isSwM hQ.2.2.1 hQ.2.2.2.2.1, bn1_some]
  rcases swAt hQ.2.2.1 hQ.2.2.2.1 a1 with ⟨i, hi, rfl, e1⟩ | ⟨hn, e1⟩
  · have hh := hQ.2.2.1
    have ei : (nI i).toInt = i := nI_i (by omega)
    rw [e1, bn1_some, om_some, if_pos (show 0 ≤ (nI i).toInt ∧ (nI i).toInt < h by rw [ei]; omega), if_neg (by decide), isTimeC, isTimeM, bn1_some, bn1_some]
    by_cases p : 1 ≤ a2.toInt ∧ a2.toInt ≤ 200
    · rw [if_pos p, if_neg (by decide), if_neg (by decide), in5C, in5M, bn1_some, bn1_some]
      by_cases p3 : 0 ≤ a3.toInt ∧ a3.toInt ≤ 5
      · rw [if_pos p3, if_neg (by decide), if_neg (by decide)]
        obtain ⟨e2, e3⟩ := n_of (x := a2) (by omega)
        obtain ⟨S1, M1, s, e, mo, q, b1, b2, b3, b4, b5, b6, b7, b8, b9⟩ := ready2 hQ hi
        have et : nI a2.toNatClampNeg + nI q = nI (a2.toNatClampNeg + q) := ti_nn (by omega)
        obtain ⟨S2, M2, c1, c2, ⟨o1, o2, l1, l2, l3, l4, l5, l6⟩, -⟩ := letgo_ok b3 b3.1.2.2.1.1 b3.1.2.2.1.2.1 trivial (τ := a2.toNatClampNeg + q) (by omega) (by omega) a2 (by rw [b6, e2, et, ← e2])
        have sf : SF S S2 := fun k hk => (o1.row (by omega)).trans (b7 k hk)
        have mf : MF M M2 := ⟨fun k hk => (o2.row (by omega)).trans (b8.1 k hk), fun j hj => (o2.at (by simp; omega)).trans (b8.2 j hj)⟩
        have pc : PC S2 := b9.fr (fun k k1 k2 => o1.row (by omega))
        rw [b1, b2, bn1_some, bn1_some, b5, e2, et, c1, ← e2, c2, bn1_some, bn1_some, l1, l2, l3, l4, l5, l6]
        by_cases z0 : a3 = 0
        · rw [if_pos z0, if_pos z0]; exact ⟨_, _, _, rfl, rfl, sf, mf, pc⟩
        · rw [if_neg z0, if_neg z0]
          by_cases z1 : a3 = 1
          · rw [if_pos z1, if_pos z1]; exact ⟨_, _, _, rfl, rfl, sf, mf, pc⟩
          · rw [if_neg z1, if_neg z1]
            by_cases z2 : a3 = 2
            · rw [if_pos z2, if_pos z2]; exact ⟨_, _, _, rfl, rfl, sf, mf, pc⟩
            · rw [if_neg z2, if_neg z2]
              by_cases z3 : a3 = 3
              · rw [if_pos z3, if_pos z3]; exact ⟨_, _, _, rfl, rfl, sf, mf, pc⟩
              · rw [if_neg z3, if_neg z3]
                by_cases z4 : a3 = 4
                · rw [if_pos z4, if_pos z4]; exact ⟨_, _, _, rfl, rfl, sf, mf, pc⟩
                · rw [if_neg z4, if_neg z4]; exact ⟨_, _, _, rfl, rfl, sf, mf, pc⟩
      · rw [if_neg p3, if_pos rfl, if_pos rfl]; exact ⟨_, _, _, rfl, rfl, sf0, mf0, hPC⟩
    · rw [if_neg p, if_pos rfl, if_pos rfl]; exact ⟨_, _, _, rfl, rfl, sf0, mf0, hPC⟩
  · rw [e1, bn1_some, om_none, if_neg hn, if_pos rfl]; exact ⟨_, _, _, rfl, rfl, sf0, mf0, hPC⟩
