/-- a text's end of a clause, in the class -/
def endC (S : ST) : Option (Int32 × ST) := bn1 (f_X4_isSign ((59 : Int32)) S) fun r2 => if r2 = 0 then (bnd (f_X4_fail ((1 : Int32)) S) fun r5 S4 => if r5 = 0 then (some ((0 : Int32), S4)) else (some ((1 : Int32), S4))) else (some ((1 : Int32), S))
/-- what reading a clause may change, in the class and in the reference -/
def FC (S S' : ST) : Prop := ∀ k, k ≠ 3 → (k < 10 ∨ 13 < k) → S'.1 k = S.1 k
def FMi (M M' : ST) : Prop := (∀ k, k ≠ 0 → (k < 8 ∨ 11 < k) → M'.1 k = M.1 k) ∧ ∀ j, j ≠ 9 → j ≠ 10 → j ≠ 12 → j ≠ 13 → j ≠ 14 → M'.1 0 j = M.1 0 j
theorem FC.rf {S : ST} : FC S S := fun _ _ _ => rfl
theorem FMi.rf {S : ST} : FMi S S := ⟨fun _ _ _ => rfl, fun _ _ _ _ _ _ => rfl⟩
theorem FC.tr {S S' S'' : ST} (h : FC S S') (h' : FC S' S'') : FC S S'' := fun k h1 h2 => (h' k h1 h2).trans (h k h1 h2)
theorem FMi.tr {S S' S'' : ST} (h : FMi S S') (h' : FMi S' S'') : FMi S S'' := ⟨fun k h1 h2 => (h'.1 k h1 h2).trans (h.1 k h1 h2), fun j a b c d e => (h'.2 j a b c d e).trans (h.2 j a b c d e)⟩
theorem FC.off {js : List Nat} {S S' : ST} (h : Off 3 js S S') : FC S S' := fun k h1 h2 => h.row h1
theorem FMi.off {js : List Nat} {M M' : ST} (hj : ∀ j, j ∈ js → j = 9 ∨ j = 10 ∨ j = 12 ∨ j = 13 ∨ j = 14) (h : Off 0 js M M') : FMi M M' := ⟨fun k h1 h2 => h.row h1, fun j a b c d e => h.at (fun q => by have := hj j q; omega)⟩
theorem FC.su {S : ST} {k j : Nat} {v : Int32} (h : 10 ≤ k ∧ k ≤ 13) : FC S (su S k j v) := fun k' h1 h2 => su_r _ _ _ _ (by omega)
theorem FMi.su {M : ST} {k j : Nat} {v : Int32} (h : 8 ≤ k ∧ k ≤ 11) : FMi M (su M k j v) := ⟨fun k' h1 h2 => su_r _ _ _ _ (by omega), fun j' _ _ _ _ _ => by rw [su_r _ _ _ _ (by omega)]⟩
theorem TxR.fc {len : Nat} {S M S' M' : ST} (h : TxR len S M) (a : FC S S') (b : FMi M M') : TxR len S' M' := h.fr (a 1 (by omega) (by omega)) (a 2 (by omega) (by omega)) (b.2 8 (by omega) (by omega) (by omega) (by omega) (by omega)) (b.1 7 (by omega) (by omega))
/-- the place that is being read, in both -/
def DR (S M : ST) : Prop := ((∀ j, j < 9 → S.1 10 j = M.1 8 j) ∧ (∀ j, j < 24 → S.1 11 j = M.1 9 j) ∧ (∀ j, j < 24 → S.1 12 j = M.1 10 j) ∧ ∀ j, j < 12 → S.1 13 j = M.1 11 j) ∧ (In (M.1 8 0) 200 999 ∧ In (M.1 8 1) 100 900 ∧ In (M.1 8 2) 20 999 ∧ In (M.1 8 3) 0 99 ∧ In (M.1 8 4) 0 80 ∧ In (M.1 8 5) 0 600 ∧ In (M.1 8 6) 50 600 ∧ In (M.1 8 7) 0 300 ∧ In (M.1 8 8) 1 24) ∧ (∀ j, j < 24 → In (M.1 9 j) 0 600) ∧ (∀ j, j < 24 → M.1 10 j = 0 ∨ M.1 10 j = 1) ∧ (∀ j, j < 12 → In (M.1 11 j) 0 300)
theorem DR.fr {S M S' M' : ST} (h : DR S M) (a : ∀ k, 10 ≤ k → k ≤ 13 → S'.1 k = S.1 k) (b : ∀ k, 8 ≤ k → k ≤ 11 → M'.1 k = M.1 k) : DR S' M' := by
  unfold DR at h ⊢
  rw [a 10 (by omega) (by omega), a 11 (by omega) (by omega), a 12 (by omega) (by omega), a 13 (by omega) (by omega), b 8 (by omega) (by omega), b 9 (by omega) (by omega), b 10 (by omega) (by omega), b 11 (by omega) (by omega)]
  exact h
theorem eqset {S M : ST} {k m n : Nat} (h : ∀ j, j < n → S.1 k j = M.1 m j) (i : Nat) (v : Int32) : ∀ j, j < n → (su S k i v).1 k j = (su M m i v).1 m j := fun j hj => by
  by_cases e : j = i
  · rw [e, su_s, su_s]
  · rw [su_o _ _ _ e, su_o _ _ _ e]; exact h j hj
theorem DR.water {S M : ST} (h : DR S M) {i : Nat} {v : Int32} (hv : In v 0 600) : DR (su S 11 i v) (su M 9 i v) := by
  obtain ⟨⟨h1, h2, h3, h4⟩, h5, h6, h7, h8⟩ := h
  have a : ∀ k, k ≠ 11 → (su S 11 i v).1 k = S.1 k := fun k hk => su_r _ _ _ _ hk
  have b : ∀ k, k ≠ 9 → (su M 9 i v).1 k = M.1 k := fun k hk => su_r _ _ _ _ hk
  have e := eqset h2 i v
  unfold DR
  rw [a 10 (by omega), a 12 (by omega), a 13 (by omega), b 8 (by omega), b 10 (by omega), b 11 (by omega)]
  refine ⟨⟨h1, e, h3, h4⟩, h5, fun j hj => ?_, h7, h8⟩
  by_cases q : j = i
  · rw [q, su_s]; exact hv
  · rw [su_o _ _ _ q]; exact h6 j hj
theorem DR.months {S M : ST} (h : DR S M) {i : Nat} {v : Int32} (hv : In v 0 300) : DR (su S 13 i v) (su M 11 i v) := by
  obtain ⟨⟨h1, h2, h3, h4⟩, h5, h6, h7, h8⟩ := h
  have a : ∀ k, k ≠ 13 → (su S 13 i v).1 k = S.1 k := fun k hk => su_r _ _ _ _ hk
  have b : ∀ k, k ≠ 11 → (su M 11 i v).1 k = M.1 k := fun k hk => su_r _ _ _ _ hk
  have e := eqset h4 i v
  unfold DR
  rw [a 10 (by omega), a 11 (by omega), a 12 (by omega), b 8 (by omega), b 9 (by omega), b 10 (by omega)]
  refine ⟨⟨h1, h2, h3, e⟩, h5, h6, h7, fun j hj => ?_⟩
  by_cases q : j = i
  · rw [q, su_s]; exact hv
  · rw [su_o _ _ _ q]; exact h8 j hj
theorem DR.stone {S M : ST} (h : DR S M) (i : Nat) : DR (su S 12 i 1) (su M 10 i 1) := by
  obtain ⟨⟨h1, h2, h3, h4⟩, h5, h6, h7, h8⟩ := h
  have a : ∀ k, k ≠ 12 → (su S 12 i 1).1 k = S.1 k := fun k hk => su_r _ _ _ _ hk
  have b : ∀ k, k ≠ 10 → (su M 10 i 1).1 k = M.1 k := fun k hk => su_r _ _ _ _ hk
  have e := eqset h3 i 1
  unfold DR
  rw [a 10 (by omega), a 11 (by omega), a 13 (by omega), b 8 (by omega), b 9 (by omega), b 11 (by omega)]
  refine ⟨⟨h1, h2, e, h4⟩, h5, h6, fun j hj => ?_, h8⟩
  by_cases q : j = i
  · rw [q, su_s]; exact Or.inr rfl
  · rw [su_o _ _ _ q]; exact h7 j hj
def leastN (j : Nat) : Int := ([200, 100, 20, 0, 0, 0, 50, 0, 1] : List Int).getD j 0
def mostM (j : Nat) : Int := ([999, 900, 999, 99, 80, 600, 600, 300, 24] : List Int).getD j 0
theorem DR.num {S M : ST} (h : DR S M) {i : Nat} {v : Int32} (hi : i < 9) (hv : In v (leastN i) (mostM i)) : DR (su S 10 i v) (su M 8 i v) := by
  obtain ⟨⟨h1, h2, h3, h4⟩, ⟨b0, b1, b2, b3, b4, b5, b6, b7, b8⟩, h6, h7, h8⟩ := h
  have a : ∀ k, k ≠ 10 → (su S 10 i v).1 k = S.1 k := fun k hk => su_r _ _ _ _ hk
  have b : ∀ k, k ≠ 8 → (su M 8 i v).1 k = M.1 k := fun k hk => su_r _ _ _ _ hk
  have e := eqset h1 i v
  unfold DR
  rw [a 11 (by omega), a 12 (by omega), a 13 (by omega), b 9 (by omega), b 10 (by omega), b 11 (by omega)]
  have key : ∀ j, j < 9 → In (M.1 8 j) (leastN j) (mostM j) → In ((su M 8 i v).1 8 j) (leastN j) (mostM j) := fun j hj hm => by
    by_cases q : j = i
    · rw [q, su_s]; exact hv
    · rw [su_o _ _ _ q]; exact hm
  exact ⟨⟨e, h2, h3, h4⟩, ⟨key 0 (by omega) b0, key 1 (by omega) b1, key 2 (by omega) b2, key 3 (by omega) b3, key 4 (by omega) b4, key 5 (by omega) b5, key 6 (by omega) b6, key 7 (by omega) b7, key 8 (by omega) b8⟩, h6, h7, h8⟩
/-- the same end of a reading, in both -/
def Fin (len : Nat) (S M : ST) (x y : Option (Int32 × ST)) : Prop := ∃ r S' f M', x = some (r, S') ∧ y = some (f, M') ∧ FC S S' ∧ FMi M M' ∧ ((r = 1 ∧ f = 0 ∧ (∃ e, e ≤ len ∧ S'.1 3 1 = nI e ∧ M'.1 0 10 = nI e) ∧ S'.1 3 6 = S.1 3 6 ∧ M'.1 0 9 = M.1 0 9 ∧ DR S' M') ∨ (r = 0 ∧ ¬ f = 0 ∧ Fld f S' M'))
theorem Fin.pre {len : Nat} {S M S' M' : ST} {x y : Option (Int32 × ST)} (h : Fin len S' M' x y) (a : FC S S') (b : FMi M M') (c : S'.1 3 6 = S.1 3 6) (d : M'.1 0 9 = M.1 0 9) : Fin len S M x y := by
  obtain ⟨r, S2, f, M2, h1, h2, h3, h4, h5⟩ := h
  refine ⟨r, S2, f, M2, h1, h2, a.tr h3, b.tr h4, ?_⟩
  rcases h5 with ⟨p1, p2, p3, p4, p5, p6⟩ | h5
  · exact Or.inl ⟨p1, p2, p3, p4.trans c, p5.trans d, p6⟩
  · exact Or.inr h5
theorem Fin.bad {len : Nat} {S M S' M' : ST} {f : Int32} (a : FC S S') (b : FMi M M') (h0 : ¬ f = 0) (h : Fld f S' M') : Fin len S M (some (0, S')) (some (f, M')) := ⟨0, S', f, M', rfl, rfl, a, b, Or.inr ⟨rfl, h0, h⟩⟩
theorem Fld.pos {f : Int32} {S M : ST} (h : Fld f S M) : ¬ f ≤ 0 ∧ ¬ f = 0 := by
  rcases h.1 with rfl | rfl | rfl | rfl <;> decide
/-- the token behind a NUMBER: a comma, a stop, or neither -/
theorem sign_ok {len p : Nat} {S M : ST} (hT : TxR len S M) (hp : p ≤ len) (hS : S.1 3 1 = nI p) (hM : M.1 0 10 = nI p) (hD : DR S M) :
    ∃ S1 q, f_X4_take S = some S1 ∧ Off 3 [1, 2, 3, 4] S S1 ∧ ((f_X4_isSign 44 S1 = some 1 ∧ f_X10_isComma M = some (1, su M 0 10 (nI (q + 1))) ∧ S1.1 3 1 = nI (q + 1) ∧ q + 1 ≤ len) ∨ (f_X4_isSign 44 S1 = some 0 ∧ f_X10_isComma M = some (0, su M 0 10 (nI q)) ∧ Fin len S M (endC S1) (f_X10_takeStop (su M 0 10 (nI q))))) ∧ Fin len S M (endC S1) (f_X10_takeStop M) := by
  obtain ⟨h3, hl, hl2, hB⟩ := id hT
  obtain ⟨q, hq⟩ := skip_ex (M.1 7) len (len - p) p (by omega)
  obtain ⟨S1, a1, a2, a3, a4⟩ := take_ok h3 hl (fun j hj => (hB j hj).1) (fun j hj => (hB j hj).2) hS hq
  have hh := here_ok h3 hl2 hM hq
  have e7 : (su M 0 10 (nI q)).1 7 = M.1 7 := su_r _ _ _ _ (by omega)
  have hh2 := here_ok (M := su M 0 10 (nI q)) h3 (by rw [su_o _ _ _ (by omega)]; exact hl2) (su_s _ _ _ _) (q := q) (p := q) (by rw [e7]; exact hq.self)
  rw [e7, su_su] at hh2
  have q2 := hq.2.1
  have sg : ∀ s : Int32, (s = 44 ∨ s = 59) → (atB (M.1 7) len q = s → f_X4_isSign s S1 = some 1 ∧ q < len ∧ S1.1 3 1 = nI (q + 1)) ∧ (¬ atB (M.1 7) len q = s → f_X4_isSign s S1 = some 0) := by
    intro s hs
    unfold f_X4_isSign
    rcases a4 with ⟨b1, b2⟩ | ⟨b1, b2, b3, -⟩ | ⟨b1, b2, b3, -⟩ | ⟨b1, b2, b3, b4, b5, b6⟩
    · have eb : atB (M.1 7) len q = -1 := by unfold atB; rw [if_neg (by omega)]
      refine ⟨fun h => ?_, fun _ => by rw [b2, if_neg (by decide)]⟩
      rw [eb] at h
      rcases hs with hs | hs <;> rw [hs] at h <;> exact absurd h (by decide)
    · have eb : atB (M.1 7) len q = M.1 7 q := by unfold atB; rw [if_pos b1]
      refine ⟨fun h => ?_, fun _ => by rw [b3, if_neg (by decide)]⟩
      rw [eb] at h
      rw [h] at b2
      rcases hs with hs | hs <;> rw [hs] at b2 <;> exact absurd b2.1 (by decide)
    · have eb : atB (M.1 7) len q = M.1 7 q := by unfold atB; rw [if_pos b1]
      refine ⟨fun h => ?_, fun _ => by rw [b3, if_neg (by decide)]⟩
      rw [eb] at h
      rw [h] at b2
      rcases hs with hs | hs <;> rw [hs] at b2
      · exact absurd b2.1 (by decide)
      · exact absurd b2.2 (by decide)
    · have eb : atB (M.1 7) len q = M.1 7 q := by unfold atB; rw [if_pos b1]
      rw [eb, b4, b5, if_pos rfl]
      exact ⟨fun h => ⟨by rw [if_pos h], b1, b6⟩, fun h => by rw [if_neg h]⟩
  have en : ∀ M1 : ST, f_X10_here M1 = some (atB (M.1 7) len q, su M 0 10 (nI q)) → Fin len S M (endC S1) (f_X10_takeStop M1) := by
    intro M1 hM1
    unfold endC f_X10_takeStop
    rw [hM1, bnd_some]
    by_cases z : atB (M.1 7) len q = 59
    · obtain ⟨z1, z2, z3⟩ := (sg 59 (Or.inr rfl)).1 z
      rw [z1, bn1_some, if_neg w10, if_pos z, nm_x, su_s, su_su, nI_1]
      refine ⟨1, S1, 0, _, rfl, rfl, FC.off a2, FMi.off (by intro j hj; simp at hj; omega) (Off.rf.su 10 _ (by simp) : Off 0 [10] M _), Or.inl ⟨rfl, rfl, ⟨q + 1, by omega, z3, su_s _ _ _ _⟩, a2.at (by simp), su_o _ _ _ (by omega), hD.fr (fun k k1 k2 => a2.row (by omega)) (fun k k1 k2 => su_r _ _ _ _ (by omega))⟩⟩
    · rw [(sg 59 (Or.inr rfl)).2 z, bn1_some, if_pos rfl, failC, bnd_some, if_pos rfl, if_neg z, failsM, bnd_some, su_s]
      exact Fin.bad (FC.off (off_fail a2)) (FMi.off (js := [9, 10]) (by intro j hj; simp at hj; omega) ((Off.rf.su 10 _ (by simp)).su 9 _ (by simp))) w10 ⟨Or.inl rfl, by rw [su_o _ _ _ (by omega), su_s], by rw [su_s, su_s]; exact a3⟩
  refine ⟨S1, q, a1, a2, ?_, en M hh⟩
  unfold f_X10_isComma
  rw [hh, bnd_some]
  by_cases z : atB (M.1 7) len q = 44
  · obtain ⟨z1, z2, z3⟩ := (sg 44 (Or.inl rfl)).1 z
    refine Or.inl ⟨z1, ?_, z3, by omega⟩
    rw [if_pos z]
    unfold b_X10_isComma_14 b_X10_isComma_29
    rw [if_neg w10, nm_x, chk_t _ (by decide), su_s, su_su, nI_1]
  · refine Or.inr ⟨(sg 44 (Or.inl rfl)).2 z, ?_, en _ hh2⟩
    have e0 : nI q + 0 = nI q := Int32.add_zero _
    rw [if_neg z]
    unfold b_X10_isComma_14 b_X10_isComma_29
    rw [if_pos rfl, nm_x, chk_t _ (by decide), su_s, e0, su_su]
/-- a list, in both -/
theorem list_loop {len rc rm N T : Nat} (hN : N ≤ 24) (hT2 : T ≤ 600) (lc : lnC rc = N) (lm : lnM rm = N) (k1 : 10 ≤ rc ∧ rc ≤ 13) (k2 : 8 ≤ rm ∧ rm ≤ 11) (hU : ∀ (S M : ST) (i : Nat) (v : Int32), DR S M → i < N → In v 0 T → DR (su S rc i v) (su M rm i v)) : ∀ (r i p n1 n2 : Nat) (S M : ST), i + r = N → r + 1 < n1 → r + 2 < n2 → TxR len S M → p ≤ len → S.1 3 1 = nI p → M.1 0 10 = nI p → DR S M → Fin len S M (lp (fun _ _ _ _ => none) b_X4_readList_2 n1 rc (nI T) (nI i) S) (bnd (lp (fun _ _ _ _ _ _ => none) b_X10_takeRow_6 n2 rm (nI N) (nI T) (nI i) 1 M) fun r39 S38 => b_X10_takeClause_236 r39 S38) := by
  have z0 : (0 : Int32).toInt = 0 := rfl
  intro r
  induction r with
  | zero =>
    intro i p n1 n2 S M hi hn1 hn2 hT hp hS hM hD
    obtain ⟨n1, rfl⟩ : ∃ k, n1 = k + 1 := ⟨n1 - 1, by omega⟩
    obtain ⟨n2, rfl⟩ : ∃ k, n2 = k + 1 := ⟨n2 - 1, by omega⟩
    have e : i = N := by omega
    subst e
    obtain ⟨r, S1, f, M1, a1, a2, a3, a4, a5⟩ := num_ok hT hp hS hM 0 (nI T)
    have fM : FMi M M1 := FMi.off (by intro j hj; simp at hj; omega) a4
    have z : ¬ Int32.ofNat (lnC rc) < nI i := by rw [lc, i_ofNat]; exact nI_nlt (by omega) (by omega)
    have zi : nI i = Int32.ofNat (lnC rc) := by rw [lc]; rfl
    rw [lp_s, lp_s]; rw [b_X4_readList_2, b_X10_takeRow_6]; rw [if_neg z, if_neg w10, a1, a2, bnd_some, bnd_some]
    rcases a5 with ⟨rfl, rfl, e, e1, e2, e3, e4, e5, e6, e7, e8, e9⟩ | ⟨rfl, f0, hF⟩
    · rw [if_neg w10, if_pos zi, failC, bnd_some, chk_t _ (by decide), if_pos rfl, if_pos rfl, failsM, bnd_some]
      unfold b_X10_takeRow_44
      rw [if_neg (show ¬ (4 : Int32) ≤ 0 by decide), bnd_some]
      unfold b_X10_takeClause_236
      rw [if_neg (show ¬ (4 : Int32) ≤ 0 by decide)]
      exact Fin.bad ((FC.off a3).tr (FC.off (js := [5, 6]) ((Off.rf.su 5 _ (by simp)).su 6 _ (by simp)))) (fM.tr (FMi.off (js := [9]) (by intro j hj; simp at hj; omega) (Off.rf.su 9 _ (by simp)))) (by decide) ⟨Or.inr (Or.inr (Or.inr rfl)), by rw [su_o _ _ _ (by omega), su_s], by rw [su_s, su_s]; exact e6⟩
    · obtain ⟨g1, g2⟩ := hF.pos
      rw [if_pos rfl, if_neg f0]
      unfold b_X10_takeRow_44
      rw [if_neg g1, bnd_some]
      unfold b_X10_takeClause_236
      rw [if_neg g1]
      exact Fin.bad (FC.off a3) fM g2 hF
  | succ r ih =>
    intro i p n1 n2 S M hi hn1 hn2 hT hp hS hM hD
    obtain ⟨n1, rfl⟩ : ∃ k, n1 = k + 1 := ⟨n1 - 1, by omega⟩
    obtain ⟨n2, rfl⟩ : ∃ k, n2 = k + 1 := ⟨n2 - 1, by omega⟩
    obtain ⟨r, S1, f, M1, a1, a2, a3, a4, a5⟩ := num_ok hT hp hS hM 0 (nI T)
    have fM : FMi M M1 := FMi.off (by intro j hj; simp at hj; omega) a4
    have z : ¬ Int32.ofNat (lnC rc) < nI i := by rw [lc, i_ofNat]; exact nI_nlt (by omega) (by omega)
    have zi : ¬ nI i = Int32.ofNat (lnC rc) := by rw [lc, i_ofNat, nI_eq (by omega) (by omega)]; omega
    have zN : ¬ nI i = nI N := by rw [nI_eq (by omega) (by omega)]; omega
    rw [lp_s, lp_s]; rw [b_X4_readList_2, b_X10_takeRow_6]; rw [if_neg z, if_neg w10, a1, a2, bnd_some, bnd_some]
    rcases a5 with ⟨rfl, rfl, e, e1, e2, e3, e4, e5, e6, e7, e8, e9⟩ | ⟨rfl, f0, hF⟩
    · rw [if_neg w10, if_neg zi, if_pos rfl, if_neg zN, put_in rc _ S1 (show i < lnC rc by omega), bn1_some]
      unfold b_X10_takeRow_44
      rw [if_pos (show (0 : Int32) ≤ 0 by decide), chk_t _ (ib_nI (by omega) (by omega)), nm_x, nm_x, nI_n (by omega), nI_1, e5]
      obtain ⟨S2, hS2⟩ : ∃ T' : ST, T' = su S1 rc i (M1.1 0 13) := ⟨_, rfl⟩
      obtain ⟨M2, hM2⟩ : ∃ T' : ST, T' = su M1 rm i (M1.1 0 13) := ⟨_, rfl⟩
      rw [← hS2, ← hM2]
      have fS2 : FC S S2 := (FC.off a3).tr (by rw [hS2]; exact FC.su k1)
      have fM2 : FMi M M2 := fM.tr (by rw [hM2]; exact FMi.su k2)
      have r3 : S2.1 3 = S1.1 3 := by rw [hS2]; exact su_r _ _ _ _ (by omega)
      have r0 : M2.1 0 = M1.1 0 := by rw [hM2]; exact su_r _ _ _ _ (by omega)
      have hv : In (M1.1 0 13) 0 T := by rw [z0, nI_i (by omega)] at e7; exact e7
      have D1 : DR S1 M1 := hD.fr (fun k k1 k2 => a3.row (by omega)) (fun k k1 k2 => a4.row (by omega))
      have D2 : DR S2 M2 := by rw [hS2, hM2]; exact hU S1 M1 i _ D1 (by omega) hv
      obtain ⟨S3, q, b1, b2, b3, -⟩ := sign_ok (hT.fc fS2 fM2) e2 (by rw [r3]; exact e3) (by rw [r0]; exact e4) D2
      have c36 : S2.1 3 6 = S.1 3 6 := by rw [r3]; exact e9
      have c09 : M2.1 0 9 = M.1 0 9 := by rw [r0]; exact e8
      rcases b3 with ⟨d1, d2, d3, d4⟩ | ⟨d1, d2, d3⟩
      · rw [b1, bn1_some, d1, bn1_some, if_neg w10, nm_x, d2, bnd_some]
        have fM3 : FMi M2 (su M2 0 10 (nI (q + 1))) := FMi.off (js := [10]) (by intro j hj; simp at hj; omega) (Off.rf.su 10 _ (by simp))
        have I := ih (i + 1) (q + 1) n1 n2 S3 (su M2 0 10 (nI (q + 1))) (by omega) (by omega) (by omega) (hT.fc (fS2.tr (FC.off b2)) (fM2.tr fM3)) d4 d3 (su_s _ _ _ _) (D2.fr (fun k k1 k2 => b2.row (by omega)) (fun k k1 k2 => su_r _ _ _ _ (by omega)))
        exact I.pre (fS2.tr (FC.off b2)) (fM2.tr fM3) ((b2.at (by simp)).trans c36) ((su_o _ _ _ (by omega)).trans c09)
      · rw [b1, bn1_some, d1, bn1_some, if_pos rfl, d2, bnd_some]
        obtain ⟨n2, rfl⟩ : ∃ k, n2 = k + 1 := ⟨n2 - 1, by omega⟩
        rw [lp_s]; rw [b_X10_takeRow_6]; rw [if_pos rfl, bnd_some]
        unfold b_X10_takeClause_236
        rw [if_pos (show (0 : Int32) ≤ 0 by decide)]
        have eb : (bnd (f_X10_takeStop (su M2 0 10 (nI q))) fun r16 S15 => some (r16, S15)) = f_X10_takeStop (su M2 0 10 (nI q)) := by
          cases f_X10_takeStop (su M2 0 10 (nI q)) with
          | none => rfl
          | some w => rfl
        rw [eb]
        exact d3.pre fS2 fM2 c36 c09
    · obtain ⟨g1, g2⟩ := hF.pos
      rw [if_pos rfl, if_neg f0]
      unfold b_X10_takeRow_44
      rw [if_neg g1, bnd_some]
      unfold b_X10_takeClause_236
      rw [if_neg g1]
      exact Fin.bad (FC.off a3) fM g2 hF
