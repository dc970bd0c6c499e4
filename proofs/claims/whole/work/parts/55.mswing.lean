theorem ck {α : Type} (x : Option α) : chk true x = x := rfl
/-- LEFT of the grip -/
def lfs (W G L A V : Int32) : Nat → Int32
  | 0 => 1000
  | t + 1 => lfs W G L A V t - pls W L (trs L A V (t + 1)) * 20 / G
/-- what the reference's rows hold behind a TICK -/
def MCol (W G L A V : Int32) (t : Nat) (S : ST) : Prop := S.1 12 t = (trs L A V t).1 ∧ S.1 13 t = (trs L A V t).2 ∧ (1 ≤ t → S.1 14 t = pls W L (trs L A V t)) ∧ (t = 0 → S.1 14 t = 0) ∧ S.1 15 t = lfs W G L A V t
theorem swing53 (K : Int32 → ST → Option ST) {W G L A V : Int32} (hR : Rg L A V) (w1 : 0 ≤ W.toInt) (w2 : W.toInt ≤ 150) (hG : ¬ G = 0) {u : Nat} (hu : u < 200) {S : ST} (hL : S.1 0 21 = L) (hW : S.1 0 24 = W) (hg : S.1 0 26 = G) (hC : MCol W G L A V u S) :
    ∃ S', b_X10_swing_53 K (nI (u + 1)) S = K (nI (u + 2)) S' ∧ MCol W G L A V (u + 1) S' ∧ ∀ k j, (k < 12 ∨ 15 < k ∨ j ≠ u + 1) → S'.1 k j = S.1 k j := by
  obtain ⟨c1, c2, c3, c4, c5⟩ := hC
  have i0 : ib (nI u) 201 = true := ib_nI (by omega) (by omega)
  have i1 : ib (nI (u + 1)) 201 = true := ib_nI (by omega) (by omega)
  have n0 : (nI u).toNatClampNeg = u := nI_n (by omega)
  have n1 : (nI (u + 1)).toNatClampNeg = u + 1 := nI_n (by omega)
  have hLn := hR.ne
  have z1 : nz L = true := by simp [nz, hLn]
  have z2 : nz G = true := by simp [nz, hG]
  obtain ⟨b1, b2⟩ := pc_b2 hR (t := u + 1) (by omega)
  obtain ⟨T, hT⟩ : ∃ T : ST, T = su (su S 13 (u + 1) (S.1 13 u - 140 * sn (S.1 12 u / 100) / L)) 12 (u + 1) (S.1 12 u + (S.1 13 u - 140 * sn (S.1 12 u / 100) / L)) := ⟨_, rfl⟩
  have t1 : T.1 12 (u + 1) = (trs L A V (u + 1)).1 := by rw [hT]; simp [su_1, trs, c1, c2]
  have t2 : T.1 13 (u + 1) = (trs L A V (u + 1)).2 := by rw [hT]; simp [su_1, trs, c1, c2]
  have t3 : ∀ k j, (k < 12 ∨ 13 < k ∨ j ≠ u + 1) → T.1 k j = S.1 k j := fun k j h => by
    rw [hT]
    simp only [su_1]
    rcases h with h | h | h
    · rw [if_neg (by omega), if_neg (by omega)]
    · rw [if_neg (by omega), if_neg (by omega)]
    · simp [h]
  have hp := pullM (W := W) (L := L) (p := T.1 13 (u + 1)) (T.1 12 (u + 1)) T hR.1 hR.2.1 (by rw [t2]; exact b1) (by rw [t2]; exact b2) w1 w2 (by rw [t3 0 21 (by omega)]; exact hL)
  rw [t1, t2] at hp
  refine ⟨su (su T 14 (u + 1) (pls W L (trs L A V (u + 1)))) 15 (u + 1) (S.1 15 u - pls W L (trs L A V (u + 1)) * 20 / G), ?_, ⟨?_, ?_, ?_, ?_, ?_⟩, fun k j h => ?_⟩
  · unfold b_X10_swing_53
    rw [if_neg (show ¬ (200 : Int32) < nI (u + 1) from nI_nlt (a := 200) (by omega) (by omega))]
    rw [show nI (u + 1) - 1 = nI u from nI_pred u]
    simp only [i0, i1, n0, n1, ck, nm_x, hL]
    rw [sineM _ (d100 _), bn1_some, chk_t _ z1]
    have e1 : ∀ v, (su S 13 (u + 1) v).1 12 u = S.1 12 u := fun v => by simp [su_1]
    have e2 : ∀ v, (su S 13 (u + 1) v).1 13 (u + 1) = v := fun v => by simp [su_1]
    rw [e1, e2, ← hT, t1, t2, t3 0 24 (by omega), hW, hp, bn1_some]
    have e3 : ∀ v, (su T 14 (u + 1) v).1 0 26 = G := fun v => by rw [su_r _ _ _ _ (by omega), t3 0 26 (by omega)]; exact hg
    have e4 : ∀ v, (su T 14 (u + 1) v).1 15 u = S.1 15 u := fun v => by rw [su_r _ _ _ _ (by omega), t3 15 u (by omega)]
    have e5 : ∀ v, (su T 14 (u + 1) v).1 14 (u + 1) = v := fun v => by simp [su_1]
    rw [e3, e4, e5, chk_t _ z2, show nI (u + 1) + 1 = nI (u + 2) from nI_1 (u + 1)]
  · rw [su_r _ _ _ _ (by omega), su_r _ _ _ _ (by omega)]; exact t1
  · rw [su_r _ _ _ _ (by omega), su_r _ _ _ _ (by omega)]; exact t2
  · intro _; simp [su_1]
  · intro h; omega
  · simp [su_1, lfs, c5]
  · simp only [su_1]
    rcases h with h | h | h
    · rw [if_neg (by omega), if_neg (by omega), t3 k j (by omega)]
    · rw [if_neg (by omega), if_neg (by omega), t3 k j (by omega)]
    · simp [h, t3 k j (Or.inr (Or.inr h))]
theorem MCol.fr {W G L A V : Int32} {t : Nat} {S S' : ST} (h : MCol W G L A V t S) (e : ∀ k, 12 ≤ k → k ≤ 15 → S'.1 k t = S.1 k t) : MCol W G L A V t S' := by
  obtain ⟨h1, h2, h3, h4, h5⟩ := h
  exact ⟨(e 12 (by omega) (by omega)).trans h1, (e 13 (by omega) (by omega)).trans h2, fun q => (e 14 (by omega) (by omega)).trans (h3 q), fun q => (e 14 (by omega) (by omega)).trans (h4 q), (e 15 (by omega) (by omega)).trans h5⟩
theorem mswing_loop {W G L A V : Int32} (hR : Rg L A V) (w1 : 0 ≤ W.toInt) (w2 : W.toInt ≤ 150) (hG : ¬ G = 0) : ∀ (r u n : Nat) (S : ST), u + r = 200 → r < n → S.1 0 21 = L → S.1 0 24 = W → S.1 0 26 = G → (∀ v, v ≤ u → MCol W G L A V v S) → ∃ S', lp (fun _ _ => none) b_X10_swing_53 n (nI (u + 1)) S = some S' ∧ (∀ v, v < 201 → MCol W G L A V v S') ∧ Fr 12 15 S S' := by
  intro r
  induction r with
  | zero =>
    intro u n S hu hn hL hW hg hC
    obtain ⟨n, rfl⟩ : ∃ k, n = k + 1 := ⟨n - 1, by omega⟩
    rw [lp_s]
    unfold b_X10_swing_53
    rw [if_pos (show (200 : Int32) < nI (u + 1) from nI_lt (a := 200) (by omega) (by omega))]
    exact ⟨S, rfl, fun v hv => hC v (by omega), Fr.rf⟩
  | succ r ih =>
    intro u n S hu hn hL hW hg hC
    obtain ⟨n, rfl⟩ : ∃ k, n = k + 1 := ⟨n - 1, by omega⟩
    rw [lp_s]
    obtain ⟨S1, q1, C1, F1⟩ := swing53 (lp (fun _ _ => none) b_X10_swing_53 n) hR w1 w2 hG (u := u) (by omega) hL hW hg (hC u (Nat.le_refl u))
    obtain ⟨S2, q2, C2, F2⟩ := ih (u + 1) n S1 (by omega) (by omega) (by rw [F1 0 21 (by omega)]; exact hL) (by rw [F1 0 24 (by omega)]; exact hW) (by rw [F1 0 26 (by omega)]; exact hg) (fun v hv => by
      by_cases h : v = u + 1
      · subst h; exact C1
      · exact (hC v (by omega)).fr (fun k k1 k2 => F1 k v (by omega)))
    refine ⟨S2, by rw [q1]; exact q2, C2, fun k hk => ?_⟩
    rw [F2 k hk]
    funext j
    exact F1 k j (by omega)
theorem mswing_ok {W G L A V : Int32} (hR : Rg L A V) (w1 : 0 ≤ W.toInt) (w2 : W.toInt ≤ 150) (hG : ¬ G = 0) {S : ST} (hL : S.1 0 21 = L) (hV : S.1 0 22 = V) (hA : S.1 6 3 = A) (hW : S.1 0 24 = W) (hg : S.1 0 26 = G) : ∃ S', f_X10_swing S = some S' ∧ (∀ v, v < 201 → MCol W G L A V v S') ∧ Fr 12 15 S S' := by
  have z1 : nz L = true := by simp [nz, hR.ne]
  have m0 : (0 : Int32).toNatClampNeg = 0 := rfl
  have m3 : (3 : Int32).toNatClampNeg = 3 := rfl
  unfold f_X10_swing
  rw [m0, m3]
  simp only [nm_x]
  have e1 : ∀ v j, (su S 12 0 v).1 0 j = S.1 0 j := fun v j => by rw [su_r _ _ _ _ (by omega)]
  rw [e1, e1, hL, hV, chk_t _ z1, hA]
  obtain ⟨T, hT⟩ : ∃ T : ST, T = su (su (su (su S 12 0 (-1000 * A)) 13 0 (2865 * V / L)) 14 0 0) 15 0 1000 := ⟨_, rfl⟩
  have F0 : Fr 12 15 S T := by
    rw [hT]
    exact (((Fr.rf.su 0 _ (by omega) (by omega)).su 0 _ (by omega) (by omega)).su 0 _ (by omega) (by omega)).su 0 _ (by omega) (by omega)
  have E0 : ∀ j, T.1 0 j = S.1 0 j := fun j => by rw [F0 0 (by omega)]
  obtain ⟨S1, q1, C1, F1⟩ := mswing_loop hR w1 w2 hG 200 0 1000 T (by omega) (by omega) (by rw [E0]; exact hL) (by rw [E0]; exact hW) (by rw [E0]; exact hg) (fun v hv => by
    have hv : v = 0 := by omega
    subst hv
    rw [hT]
    exact ⟨by simp [su_1, trs], by simp [su_1, trs], fun h => by omega, fun _ => by simp [su_1], by simp [su_1, lfs]⟩)
  refine ⟨S1, ?_, C1, F0.tr F1⟩
  rw [← hT]
  exact q1
