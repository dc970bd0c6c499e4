/-- what the search for a rope stands on, but for the path -/
def RB (B A V W G R lo : Int32) (mo q : Nat) (S M : ST) : Prop :=
  PR S M ∧ (0 ≤ B.toInt ∧ B.toInt ≤ 999) ∧ (0 ≤ R.toInt ∧ R.toInt ≤ 220) ∧ (0 ≤ lo.toInt ∧ lo.toInt ≤ 300) ∧ (∀ j, j < 24 → 0 ≤ (M.1 2 j).toInt ∧ (M.1 2 j).toInt ≤ 600) ∧ mo < 12 ∧ M.1 6 0 = nI mo ∧ M.1 4 mo = lo ∧ M.1 1 0 = B ∧ S.1 51 3 = lo ∧ S.1 51 5 = R ∧ M.1 0 25 = R ∧ S.1 51 8 = M.1 0 28 ∧ S.1 51 2 = M.1 0 23 ∧ S.1 51 4 = W ∧ S.1 51 6 = G ∧ ¬ G = 0 ∧ M.1 0 24 = W ∧ M.1 0 26 = G ∧ M.1 0 22 = V ∧ M.1 6 3 = A ∧ q ≤ 20 ∧ S.1 51 7 = nI q ∧ M.1 0 27 = nI q ∧ (0 ≤ W.toInt ∧ W.toInt ≤ 150) ∧ S.1 5 0 = B ∧ S.1 32 3 = A ∧ S.1 32 4 = V
def SK (S S' : ST) : Prop := (∀ k, k < 41 → S'.1 k = S.1 k) ∧ (∀ j, j < 9 → S'.1 51 j = S.1 51 j) ∧ PC S'
def MK (M M' : ST) : Prop := MF M M' ∧ ∀ j, 22 ≤ j → j ≤ 28 → M'.1 0 j = M.1 0 j
theorem SK.tr {S S' S'' : ST} (h : SK S S') (h' : SK S' S'') : SK S S'' := ⟨fun k hk => (h'.1 k hk).trans (h.1 k hk), fun j hj => (h'.2.1 j hj).trans (h.2.1 j hj), h'.2.2⟩
theorem MK.tr {S S' S'' : ST} (h : MK S S') (h' : MK S' S'') : MK S S'' := ⟨h.1.tr h'.1, fun j h1 h2 => (h'.2 j h1 h2).trans (h.2 j h1 h2)⟩
theorem MK.rf {M : ST} : MK M M := ⟨⟨fun _ _ => rfl, fun _ _ => rfl⟩, fun _ _ _ => rfl⟩
theorem RB.fr {B A V W G R lo : Int32} {mo q : Nat} {S M S' M' : ST} (h : RB B A V W G R lo mo q S M) (a : SK S S') (b : MK M M') : RB B A V W G R lo mo q S' M' := by
  obtain ⟨h1, h2, h3, h4, h5, h6, h7, h8, h9, h10, h11, h12, h13, h14, h15, h16, h17, h18, h19, h20, h21, h22, h23, h24, h25, h26, h27, h28⟩ := h
  obtain ⟨a1, a2, -⟩ := a
  obtain ⟨b1, b2⟩ := b
  refine ⟨h1.fr (fun k k1 k2 => a1 k (by omega)) (fun k k1 k2 => b1.1 k (by omega)), h2, h3, h4, ?_, h6, ?_, ?_, ?_, ?_, ?_, ?_, ?_, ?_, ?_, ?_, h17, ?_, ?_, ?_, ?_, h22, ?_, ?_, h25, ?_, ?_, ?_⟩
  · rw [b1.1 2 (by omega)]; exact h5
  · rw [b1.1 6 (by omega)]; exact h7
  · rw [b1.1 4 (by omega)]; exact h8
  · rw [b1.1 1 (by omega)]; exact h9
  · rw [a2 3 (by omega)]; exact h10
  · rw [a2 5 (by omega)]; exact h11
  · rw [b2 25 (by omega) (by omega)]; exact h12
  · rw [a2 8 (by omega), b2 28 (by omega) (by omega)]; exact h13
  · rw [a2 2 (by omega), b2 23 (by omega) (by omega)]; exact h14
  · rw [a2 4 (by omega)]; exact h15
  · rw [a2 6 (by omega)]; exact h16
  · rw [b2 24 (by omega) (by omega)]; exact h18
  · rw [b2 26 (by omega) (by omega)]; exact h19
  · rw [b2 22 (by omega) (by omega)]; exact h20
  · rw [b1.1 6 (by omega)]; exact h21
  · rw [a2 7 (by omega)]; exact h23
  · rw [b2 27 (by omega) (by omega)]; exact h24
  · rw [a1 5 (by omega)]; exact h26
  · rw [a1 32 (by omega)]; exact h27
  · rw [a1 32 (by omega)]; exact h28
def chC (B L A V : Int32) (S : ST) : Option ST := bn1 (f_X1_trace B L A V S) fun S16 => bn1 (f_X0_hold S16) fun S17 => f_X8_scan S17
def chM (L : Int32) (M : ST) : Option (Int32 × ST) := bn1 (f_X10_swing (su M 0 21 L)) fun S15 => f_X10_wideRow S15
/-- one rope in both: the widest row of good TIMEs -/
theorem rope_pair {B L A V W G R lo : Int32} {mo q : Nat} {S M : ST} (h : RB B A V W G R lo mo q S M) (hPC : PC S) (hR : Rg L A V) : ∃ S' M' g, chC B L A V S = some S' ∧ S'.1 52 2 = g ∧ 0 ≤ g ∧ SK S S' ∧ chM L M = some (g, M') ∧ MK M M' := by
  obtain ⟨h1, h2, h3, h4, h5, h6, h7, h8, h9, h10, h11, h12, h13, h14, h15, h16, h17, h18, h19, h20, h21, h22, h23, h24, h25, h26, h27, h28⟩ := h
  obtain ⟨S1, a1, a2, a3⟩ := trace_ok (B := B) (A := A) (V := V) hR.ne hPC
  obtain ⟨U, hU⟩ : ∃ U : ST, U = su M 0 21 L := ⟨_, rfl⟩
  have oU : Off 0 [21] M U := by rw [hU]; exact Off.rf.su 21 _ (by simp)
  have u21 : U.1 0 21 = L := by rw [hU]; simp [su_1]
  obtain ⟨M1, g1, g2, g3⟩ := mswing_ok hR h25.1 h25.2 h17 (S := U) u21 (by rw [oU.at (by simp)]; exact h20) (by rw [oU.row (k := 6) (by omega)]; exact h21) (by rw [oU.at (by simp)]; exact h18) (by rw [oU.at (by simp)]; exact h19)
  have E1 : ∀ k, k < 42 → S1.1 k = S.1 k := fun k hk => a3 k (by omega)
  have E51 : S1.1 51 = S.1 51 := a3 51 (by omega)
  have M0 : M1.1 0 = U.1 0 := g3 0 (by omega)
  have Mk : ∀ k, 0 < k → k < 12 → M1.1 k = M.1 k := fun k k0 k1 => (g3 k (by omega)).trans (oU.row (by omega))
  have J : JP B L A V W G R lo mo S1 M1 := by
    refine ⟨⟨a2, h1.fr (fun k k1 k2 => E1 k (by omega)) (fun k k1 k2 => Mk k (by omega) (by omega)), hR, h2, h3, h4, ?_, h6, ?_, ?_, ?_, ?_, ?_, ?_, ?_, ?_, fun t ht => ⟨(g2 t ht).1, (g2 t ht).2.1⟩⟩, ?_, ?_, ?_, h17, g2⟩
    · rw [Mk 2 (by omega) (by omega)]; exact h5
    · rw [Mk 6 (by omega) (by omega)]; exact h7
    · rw [Mk 4 (by omega) (by omega)]; exact h8
    · rw [M0]; exact u21
    · rw [Mk 1 (by omega) (by omega)]; exact h9
    · rw [E51]; exact h10
    · rw [E51]; exact h11
    · rw [M0, oU.at (by simp)]; exact h12
    · rw [E51, M0, oU.at (by simp)]; exact h13
    · rw [E51, M0, oU.at (by simp)]; exact h14
    · rw [E51]; exact h15
    · rw [E51]; exact h16
  obtain ⟨S2, s, e, b1, b2, b3⟩ := rehold J
  obtain ⟨T, t1, t2, t3, t4, t5, t6, t7⟩ := scan_start S2
  obtain ⟨X, x1, x2, x3, x4⟩ := wide_start M1
  have jT : JR B L A V W G R lo mo s e T X := (b2.fr52 t2).fr (fun _ _ => rfl) (fun _ _ => rfl) (fun k k0 k1 => x2.row (by omega)) (fun j hj => x2.at (by simp; omega))
  have T7 : T.1 51 7 = nI q := by rw [t2.row (k := 51) (by omega), b3.at (by simp), E51]; exact h23
  have X27 : X.1 0 27 = nI q := by rw [x2.at (by simp), M0, oU.at (by simp)]; exact h24
  obtain ⟨S3, M3, g, c1, c2, c3, c3b, c4, c5, c6, c7⟩ := wide_loop h22 200 1 1000 1000 0 0 0 0 T X (by omega) (by omega) (by omega) (by omega) (by omega) jT T7 X27 t5 (by decide) (by rw [t6, x3]) (by rw [t7, x4])
  refine ⟨S3, M3, g, ?_, c3, c3b, ⟨?_, ?_, ?_⟩, ?_, ⟨?_, ?_⟩⟩
  · unfold chC
    rw [a1, bn1_some, b1, bn1_some, t1]; exact c1
  · intro k hk
    rw [c6.1 k (by omega), t2.row (by omega), b3.row (by omega)]; exact E1 k (by omega)
  · intro j hj
    rw [c6.2 j (by omega), t2.row (k := 51) (by omega), b3.at (by simp; omega), E51]
  · exact a2.pc.fr (fun k k1 k2 => by rw [c6.1 k (by omega), t2.row (by omega), b3.row (by omega)])
  · unfold chM
    rw [← hU, g1, bn1_some, x1]; exact c2
  · exact (MF.off (by intro j hj; simp at hj; omega) oU).tr ((MF.fr (by omega) (by omega) g3).tr ((MF.off (by intro j hj; simp at hj; omega) x2).tr (MF.off (by intro j hj; simp at hj; omega) c7)))
  · intro j j1 j2
    rw [c7.at (by simp; omega), x2.at (by simp; omega), M0, oU.at (by simp; omega)]
