theorem wide_ok {h : Nat} {S M : ST} (hQ : QR h S M) (a1 a2 : Int32) : ∃ r S' M', f_X9_wide a1 a2 S = some (r, S') ∧ f_X10_wide a1 a2 M = some (r, M') ∧ SF S S' ∧ MF M M' ∧ PC S' := by
  have hPC := hQ.2.2.2.2.2.2
  have sf0 : SF S S := fun _ _ => rfl
  have mf0 : MF M M := ⟨fun _ _ => rfl, fun _ _ => rfl⟩
  have z0 : (0 : Int32).toInt = 0 := rfl
  have z1 : (2 : Int32).toInt = 2 := rfl
  have in1 : f_X10_in a2.toInt64 0 2 = some (if 0 ≤ a2.toInt ∧ a2.toInt ≤ 2 then 1 else 0) := by
    have z : (0 : Int64).toInt = 0 := rfl
    have z2 : (2 : Int64).toInt = 2 := rfl
    rw [inM, z, z2, tl_i]
  unfold f_X9_wide f_X10_wide
  rw [isSwM hQ.2.2.1 hQ.2.2.2.2.1, bn1_some]
  rcases swAt hQ.2.2.1 hQ.2.2.2.1 a1 with ⟨i, hi, rfl, e1⟩ | ⟨hn, e1⟩
  · have hh := hQ.2.2.1
    have ei : (nI i).toInt = i := nI_i (by omega)
    rw [e1, bn1_some, om_some, if_pos (show 0 ≤ (nI i).toInt ∧ (nI i).toInt < h by rw [ei]; omega), if_neg (show ¬ (1 : Int32) = 0 by decide), in1, bn1_some]
    by_cases p : 0 ≤ a2.toInt ∧ a2.toInt ≤ 2
    · rw [if_pos p, if_neg (show ¬ (1 : Int32) = 0 by decide), if_neg (show ¬ a2 < 0 by rw [i_lt, z0]; omega), if_pos (show a2 ≤ 2 by rw [i_le, z1]; omega)]
      obtain ⟨S1, M1, s, e, mo, q, b1, b2, b3, b4, b5, b6, b7, b8, b9⟩ := ready2 hQ hi
      obtain ⟨T, t1, t2, t3, t4, t5, t6, t7⟩ := scan_start S1
      obtain ⟨U, u1, u2, u3, u4⟩ := wide_start M1
      have jT : JR _ _ _ _ _ _ _ _ mo s e T U := (b3.fr52 t2).fr (fun _ _ => rfl) (fun _ _ => rfl) (fun k k0 k1 => u2.row (by omega)) (fun j hj => u2.at (by simp; omega))
      have T7 : T.1 51 7 = nI q := by rw [t2.row (k := 51) (by omega)]; exact b5
      obtain ⟨S2, M2, g, c1, c2, c3, -, c4, c5, c6, c7⟩ := wide_loop b4 200 1 1000 1000 0 0 0 0 T U (by omega) (by omega) (by omega) (by omega) (by omega) jT T7 (by rw [u2.at (by simp)]; exact b6) t5 (by decide) (by rw [t6, u3]) (by rw [t7, u4])
      have sf : SF S S2 := fun k hk => (c6.1 k (by omega)).trans ((t2.row (by omega)).trans (b7 k hk))
      have mf : MF M M2 := ⟨fun k hk => (c7.row (by omega)).trans ((u2.row (by omega)).trans (b8.1 k hk)), fun j hj => (c7.at (by simp; omega)).trans ((u2.at (by simp; omega)).trans (b8.2 j hj))⟩
      have pc : PC S2 := b9.fr (fun k k1 k2 => (c6.1 k (by omega)).trans (t2.row (by omega)))
      rw [b1, b2, bn1_some, bn1_some, t1, u1, c1, c2, bn1_some, bnd_some, c3, c4, c5]
      by_cases w : a2 = 0
      · rw [if_pos w, if_pos w]; exact ⟨_, _, _, rfl, rfl, sf, mf, pc⟩
      · rw [if_neg w, if_neg w]
        by_cases w1 : a2 = 1
        · rw [if_pos w1, if_pos w1]; exact ⟨_, _, _, rfl, rfl, sf, mf, pc⟩
        · rw [if_neg w1, if_neg w1]; exact ⟨_, _, _, rfl, rfl, sf, mf, pc⟩
    · rw [if_neg p, if_pos rfl]
      by_cases p0 : a2 < 0
      · rw [if_pos p0]; exact ⟨_, _, _, rfl, rfl, sf0, mf0, hPC⟩
      · have p0' : ¬ a2.toInt < 0 := fun h => p0 (by rw [i_lt, z0]; exact h)
        rw [if_neg p0, if_neg (show ¬ a2 ≤ 2 by rw [i_le, z1]; omega)]; exact ⟨_, _, _, rfl, rfl, sf0, mf0, hPC⟩
  · rw [e1, bn1_some, om_none, if_neg hn, if_pos rfl]; exact ⟨_, _, _, rfl, rfl, sf0, mf0, hPC⟩
