def loS (j : Nat) : Int := ([10, 50, 10, 0, 0] : List Int).getD j 0
def hiS (j : Nat) : Int := ([150, 220, 300, 20, 36] : List Int).getD j 0
theorem bndS : ∀ i, i < 5 → f_X9_ats 5 (nI i) = some ((f_X9_ats 5 (nI i)).getD 0) ∧ f_X9_ats 6 (nI i) = some ((f_X9_ats 6 (nI i)).getD 0) ∧ ((f_X9_ats 5 (nI i)).getD 0).toInt = loS i ∧ ((f_X9_ats 6 (nI i)).getD 0).toInt = hiS i := by decide +kernel
/-- what reading one who swings may change -/
def GS (h : Nat) (S S' : ST) : Prop := ∀ k, k ≠ 3 → k ≠ 16 + 2 * h → S'.1 k = S.1 k
def GM (h : Nat) (M M' : ST) : Prop := (∀ k, k ≠ 0 → k ≠ 5 → M'.1 k = M.1 k) ∧ (∀ p, p < 5 * h → M'.1 5 p = M.1 5 p) ∧ ∀ j, j ≠ 9 → j ≠ 10 → j ≠ 13 → j ≠ 14 → M'.1 0 j = M.1 0 j
theorem GS.tr {h : Nat} {S S' S'' : ST} (a : GS h S S') (b : GS h S' S'') : GS h S S'' := fun k h1 h2 => (b k h1 h2).trans (a k h1 h2)
theorem GM.tr {h : Nat} {S S' S'' : ST} (a : GM h S S') (b : GM h S' S'') : GM h S S'' := ⟨fun k h1 h2 => (b.1 k h1 h2).trans (a.1 k h1 h2), fun p hp => (b.2.1 p hp).trans (a.2.1 p hp), fun j h1 h2 h3 h4 => (b.2.2 j h1 h2 h3 h4).trans (a.2.2 j h1 h2 h3 h4)⟩
theorem GM.off {h : Nat} {js : List Nat} {M M' : ST} (hj : ∀ j, j ∈ js → j = 9 ∨ j = 10 ∨ j = 13 ∨ j = 14) (a : Off 0 js M M') : GM h M M' := ⟨fun k h1 h2 => a.row h1, fun p hp => by rw [a.row (by omega)], fun j h1 h2 h3 h4 => a.at (fun q => by have := hj j q; omega)⟩
theorem gm_su {h i : Nat} {M : ST} {v : Int32} : GM h M (su M 5 (5 * h + i) v) := ⟨fun k h1 h2 => su_r _ _ _ _ h2, fun p hp => su_o _ _ _ (by omega), fun j _ _ _ _ => by rw [su_r _ _ _ _ (by omega)]⟩
theorem gs_su {h i : Nat} {S : ST} {v : Int32} : GS h S (su S (16 + 2 * h) i v) := fun k h1 h2 => su_r _ _ _ _ h2
/-- so many numbers of one who swings are read, in both -/
def StgR (h len i : Nat) (S M : ST) : Prop := TxR len S M ∧ (∃ p, p ≤ len ∧ S.1 3 1 = nI p ∧ M.1 0 10 = nI p) ∧ (∀ j, j < i → S.1 (16 + 2 * h) j = M.1 5 (5 * h + j) ∧ In (M.1 5 (5 * h + j)) (loS j) (hiS j)) ∧ S.1 3 6 = -1 ∧ M.1 0 9 = -1
theorem stage_ok {h len i : Nat} (hh : h < 8) (hi : i < 5) {S M : ST} (hR : StgR h len i S M) (lo hi' : Int32) (e1 : lo.toInt = loS i) (e2 : hi'.toInt = hiS i) :
    ∃ (r : Int32) (S1 : ST) (f : Int32) (M1 : ST), (∀ (K : Nat → Int32 → ST → Option (Int32 × ST)), b_X4_readSwinger_6 K (15 + 2 * h) (nI i) S = if r = 0 then some (0, S1) else K (15 + 2 * h) (nI (i + 1)) S1) ∧ f_X10_takeNumber lo hi' M = some (f, M1) ∧ GS h S S1 ∧ GM h M M1 ∧ ((r = 1 ∧ f = 0 ∧ StgR h len (i + 1) S1 (su M1 5 (5 * h + i) (M1.1 0 13))) ∨ (r = 0 ∧ ¬ f = 0 ∧ Fld f S1 M1)) := by
  obtain ⟨hT, ⟨p, p1, p2, p3⟩, hN, h6, h9⟩ := hR
  obtain ⟨g1, g2, g3, g4⟩ := bndS i hi
  have el : (f_X9_ats 5 (nI i)).getD 0 = lo := i_ext (by rw [g3, e1])
  have eh : (f_X9_ats 6 (nI i)).getD 0 = hi' := i_ext (by rw [g4, e2])
  rw [el] at g1
  rw [eh] at g2
  have hk : lnC (15 + 2 * h + 1) = 5 := (show ∀ h, h < 8 → lnC (15 + 2 * h + 1) = 5 by decide) h hh
  have ek : 15 + 2 * h + 1 = 16 + 2 * h := by omega
  obtain ⟨r, S1, f, M1, a1, a2, a3, a4, a5⟩ := num_ok hT p1 p2 p3 lo hi'
  have gS : GS h S S1 := fun k h1 h2 => a3.row h1
  have gM : GM h M M1 := GM.off (by intro j hj; simp at hj; omega) a4
  rcases a5 with ⟨rfl, rfl, e, x1, x2, x3, x4, x5, x6, x7, x8, x9⟩ | ⟨rfl, f0, hF⟩
  · refine ⟨1, su S1 (16 + 2 * h) i (M1.1 0 13), 0, M1, fun K => ?_, a2, gS.tr gs_su, gM, Or.inl ⟨rfl, rfl, ?_, ⟨e, x2, by rw [su_r _ _ _ _ (by omega)]; exact x3, by rw [su_r _ _ _ _ (by omega)]; exact x4⟩, fun j hj => ?_, by rw [su_r _ _ _ _ (by omega), x9]; exact h6, by rw [su_r _ _ _ _ (by omega), x8]; exact h9⟩⟩
    · rw [b_X4_readSwinger_6]; rw [if_neg (show ¬ (5 : Int32) ≤ nI i from nI_ge (b := 5) (by omega) (by omega))]
      unfold f_X6_least f_X6_most
      rw [g1, bn1_some, bn1_some, g2, bn1_some, bn1_some, a1, bnd_some, if_neg w10, put_in (15 + 2 * h + 1) _ S1 (show i < lnC (15 + 2 * h + 1) by rw [hk]; exact hi), bn1_some, nm_x, nI_1, x5, ek, if_neg w10]
    · exact hT.fr (by rw [su_r _ _ _ _ (by omega), a3.row (by omega)]) (by rw [su_r _ _ _ _ (by omega), a3.row (by omega)]) (by rw [su_r _ _ _ _ (by omega), a4.at (by simp)]) (by rw [su_r _ _ _ _ (by omega), a4.row (by omega)])
    · by_cases q : j = i
      · rw [q, su_s, su_s]
        rw [e1, e2] at x7
        exact ⟨rfl, x7⟩
      · rw [su_o _ _ _ q, su_o _ _ _ (show 5 * h + j ≠ 5 * h + i by omega), a3.row (by omega), a4.row (by omega)]
        exact hN j (by omega)
  · refine ⟨0, S1, f, M1, fun K => ?_, a2, gS, gM, Or.inr ⟨rfl, f0, hF⟩⟩
    rw [b_X4_readSwinger_6]; rw [if_neg (show ¬ (5 : Int32) ≤ nI i from nI_ge (b := 5) (by omega) (by omega))]
    unfold f_X6_least f_X6_most
    rw [g1, bn1_some, bn1_some, g2, bn1_some, bn1_some, a1, bnd_some, if_pos rfl, if_pos rfl]
theorem e5h {h i : Nat} (hi : i < 5) : nI (5 * h) + nI i = nI (5 * h + i) := nI_add _ _
/-- behind a FAULT the reference's rest only passes it on -/
theorem bad130 {h : Nat} (hh : h < 8) {f : Int32} (h0 : ¬ f = 0) (M : ST) : ∃ M', b_X10_takeSwinger_130 (nI (5 * h)) f M = some (f, M') ∧ GM h M M' ∧ M'.1 0 9 = M.1 0 9 := by
  have e : nI (5 * h) + 4 = nI (5 * h + 4) := nI_add _ 4
  refine ⟨_, ?_, gm_su (i := 4) (v := M.1 0 13), by rw [su_r _ _ _ _ (by omega)]⟩
  unfold b_X10_takeSwinger_130
  rw [e, chk_t _ (ib_nI (by omega) (by omega)), nm_x, nI_n (by omega), if_neg h0]
theorem bad102 {h : Nat} (hh : h < 8) {f : Int32} (h0 : ¬ f ≤ 0) (h1 : ¬ f = 0) (M : ST) : ∃ M', b_X10_takeSwinger_102 (nI (5 * h)) f M = some (f, M') ∧ GM h M M' ∧ M'.1 0 9 = M.1 0 9 := by
  have e : nI (5 * h) + 3 = nI (5 * h + 3) := nI_add _ 3
  obtain ⟨M', a1, a2, a3⟩ := bad130 hh h1 (su M 5 (5 * h + 3) (M.1 0 13))
  refine ⟨M', ?_, GM.tr (gm_su (i := 3)) a2, by rw [a3, su_r _ _ _ _ (by omega)]⟩
  unfold b_X10_takeSwinger_102
  rw [e, chk_t _ (ib_nI (by omega) (by omega)), nm_x, nI_n (by omega), if_neg h0]
  exact a1
theorem bad74 {h : Nat} (hh : h < 8) {f : Int32} (h0 : ¬ f ≤ 0) (h1 : ¬ f = 0) (M : ST) : ∃ M', b_X10_takeSwinger_74 (nI (5 * h)) f M = some (f, M') ∧ GM h M M' ∧ M'.1 0 9 = M.1 0 9 := by
  have e : nI (5 * h) + 2 = nI (5 * h + 2) := nI_add _ 2
  obtain ⟨M', a1, a2, a3⟩ := bad102 hh h0 h1 (su M 5 (5 * h + 2) (M.1 0 13))
  refine ⟨M', ?_, GM.tr (gm_su (i := 2)) a2, by rw [a3, su_r _ _ _ _ (by omega)]⟩
  unfold b_X10_takeSwinger_74
  rw [e, chk_t _ (ib_nI (by omega) (by omega)), nm_x, nI_n (by omega), if_neg h0]
  exact a1
theorem bad44 {h : Nat} (hh : h < 8) {f : Int32} (h0 : ¬ f ≤ 0) (h1 : ¬ f = 0) (M : ST) : ∃ M', b_X10_takeSwinger_44 (nI (5 * h)) f M = some (f, M') ∧ GM h M M' ∧ M'.1 0 9 = M.1 0 9 := by
  have e : nI (5 * h) + 1 = nI (5 * h + 1) := nI_add _ 1
  obtain ⟨M', a1, a2, a3⟩ := bad74 hh h0 h1 (su M 5 (5 * h + 1) (M.1 0 13))
  refine ⟨M', ?_, GM.tr (gm_su (i := 1)) a2, by rw [a3, su_r _ _ _ _ (by omega)]⟩
  unfold b_X10_takeSwinger_44
  rw [e, chk_t _ (ib_nI (by omega) (by omega)), nm_x, nI_n (by omega), if_neg h0]
  exact a1
/-- the end of the text of one who swings -/
theorem send_ok {h len : Nat} (hh : h < 8) {S M : ST} (hR : StgR h len 5 S M) (K : Nat → Int32 → ST → Option (Int32 × ST)) (k : Nat) : ∃ (r : Int32) (S1 : ST) (f : Int32) (M1 : ST), b_X4_readSwinger_6 K k (nI 5) S = some (r, S1) ∧ (bnd (f_X10_here M) fun r28 S27 => if r28 < 0 then some ((0 : Int32), S27) else bnd (f_X10_fails ((1 : Int32)) (S27.1 0 10) S27) fun r31 S30 => some (r31, S30)) = some (f, M1) ∧ GS h S S1 ∧ GM h M M1 ∧ ((r = 1 ∧ f = 0 ∧ S1.1 3 6 = -1 ∧ M1.1 0 9 = -1 ∧ S1.1 (16 + 2 * h) = S.1 (16 + 2 * h) ∧ M1.1 5 = M.1 5) ∨ (r = 0 ∧ ¬ f = 0 ∧ Fld f S1 M1)) := by
  obtain ⟨hT, ⟨p, p1, p2, p3⟩, hN, h6, h9⟩ := hR
  obtain ⟨h3, hl, hl2, hB⟩ := id hT
  obtain ⟨q, hq⟩ := skip_ex (M.1 7) len (len - p) p (by omega)
  obtain ⟨S1, a1, a2, a3, a4⟩ := take_ok h3 hl (fun j hj => (hB j hj).1) (fun j hj => (hB j hj).2) p2 hq
  have hh' := here_ok h3 hl2 p3 hq
  have o8 : Off 0 [10] M (su M 0 10 (nI q)) := Off.rf.su 10 _ (by simp)
  have g8 : GM h M (su M 0 10 (nI q)) := GM.off (by intro j hj; simp at hj; omega) o8
  have z : (5 : Int32) ≤ nI 5 := nI_le (a := 5) (by omega) (by omega)
  have bad : ¬ S1.1 3 2 = 0 → ¬ atB (M.1 7) len q < 0 → ∃ (r : Int32) (S1 : ST) (f : Int32) (M1 : ST), b_X4_readSwinger_6 K k (nI 5) S = some (r, S1) ∧ (bnd (f_X10_here M) fun r28 S27 => if r28 < 0 then some ((0 : Int32), S27) else bnd (f_X10_fails ((1 : Int32)) (S27.1 0 10) S27) fun r31 S30 => some (r31, S30)) = some (f, M1) ∧ GS h S S1 ∧ GM h M M1 ∧ ((r = 1 ∧ f = 0 ∧ S1.1 3 6 = -1 ∧ M1.1 0 9 = -1 ∧ S1.1 (16 + 2 * h) = S.1 (16 + 2 * h) ∧ M1.1 5 = M.1 5) ∨ (r = 0 ∧ ¬ f = 0 ∧ Fld f S1 M1)) := fun k0 n0 => by
    refine ⟨0, su (su S1 3 5 1) 3 6 (nI q), 1, su (su M 0 10 (nI q)) 0 9 (nI q), ?_, ?_, fun k h1 h2 => (off_fail a2).row h1, GM.off (js := [9, 10]) (by intro j hj; simp at hj; omega) ((Off.rf.su 10 _ (by simp)).su 9 _ (by simp)), Or.inr ⟨rfl, w10, Or.inl rfl, by rw [su_o _ _ _ (by omega), su_s], by rw [su_s, su_s]⟩⟩
    · rw [b_X4_readSwinger_6]; rw [if_pos z, a1, bn1_some, if_neg k0, failC, bnd_some, if_pos rfl, a3]
    · rw [hh', bnd_some, if_neg n0, failsM, bnd_some, su_s]
  rcases a4 with ⟨b1, b2⟩ | ⟨b1, b2, b3, -⟩ | ⟨b1, b2, b3, -⟩ | ⟨b1, b2, b3, b4, -⟩
  · have eb : atB (M.1 7) len q = -1 := by unfold atB; rw [if_neg (by omega)]
    refine ⟨1, S1, 0, su M 0 10 (nI q), ?_, ?_, fun k h1 h2 => a2.row h1, g8, Or.inl ⟨rfl, rfl, by rw [a2.at (by simp)]; exact h6, by rw [o8.at (by simp)]; exact h9, a2.row (by omega), o8.row (by omega)⟩⟩
    · rw [b_X4_readSwinger_6]; rw [if_pos z, a1, bn1_some, if_pos b2]
    · rw [hh', bnd_some, eb, if_pos (by decide)]
  · exact bad (by rw [b3]; decide) (by unfold atB; rw [if_pos b1]; exact lt0 (hB q b1).2.1)
  · exact bad (by rw [b3]; decide) (by unfold atB; rw [if_pos b1]; exact lt0 (hB q b1).2.1)
  · exact bad (by rw [b4]; decide) (by unfold atB; rw [if_pos b1]; exact lt0 (hB q b1).2.1)
/-- the text of one who swings, in both -/
theorem sread_ok {h len : Nat} (hh : h < 8) {S M : ST} (hR : StgR h len 0 S M) (h4 : M.1 0 4 = nI h) : ∃ (r : Int32) (S' : ST) (f : Int32) (M' : ST), lp (fun _ _ _ => none) b_X4_readSwinger_6 1000 (15 + 2 * h) (nI 0) S = some (r, S') ∧ f_X10_takeSwinger M = some (f, M') ∧ GS h S S' ∧ GM h M M' ∧ ((r = 1 ∧ f = 0 ∧ S'.1 3 6 = -1 ∧ M'.1 0 9 = -1 ∧ ∀ j, j < 5 → S'.1 (16 + 2 * h) j = M'.1 5 (5 * h + j) ∧ In (M'.1 5 (5 * h + j)) (loS j) (hiS j)) ∨ (r = 0 ∧ ¬ f = 0 ∧ Fld f S' M')) := by
  have e1000 : (1000 : Nat) = 994 + 1 + 1 + 1 + 1 + 1 + 1 := rfl
  have z0 : (0 : Int32) ≤ 0 := by decide
  have f5 : (5 : Int32) * nI h = nI (5 * h) := n5_0 h hh
  unfold f_X10_takeSwinger
  obtain ⟨r, S1, f, M1, a1, a2, a3, a4, a5⟩ := stage_ok hh (i := 0) (by omega) hR 10 150 (by decide) (by decide)
  rw [e1000, lp_s, a1, nm_x, h4, f5, a2, bnd_some, chk_t _ (ib_nI (by omega) (by omega)), nm_x, nI_n (by omega)]
  rcases a5 with ⟨rfl, rfl, hR1⟩ | ⟨rfl, f0, hF⟩
  · have g1 : GM h M (su M1 5 (5 * h) (M1.1 0 13)) := a4.tr (gm_su (i := 0))
    have hR1 : StgR h len 1 S1 (su M1 5 (5 * h) (M1.1 0 13)) := hR1
    generalize su M1 5 (5 * h) (M1.1 0 13) = X1 at *
    obtain ⟨r, S2, f, M2, b1, b2, b3, b4, b5⟩ := stage_ok hh (i := 1) (by omega) hR1 50 220 (by decide) (by decide)
    have e1 : nI (5 * h) + 1 = nI (5 * h + 1) := nI_add _ 1
    rw [if_neg w10, lp_s, b1, if_pos z0, b2, bnd_some]
    rcases b5 with ⟨rfl, rfl, hR2⟩ | ⟨rfl, f0, hF⟩
    · have g2 : GM h M (su M2 5 (5 * h + 1) (M2.1 0 13)) := (g1.tr b4).tr gm_su
      unfold b_X10_takeSwinger_44
      rw [e1, chk_t _ (ib_nI (by omega) (by omega)), nm_x, nI_n (by omega)]
      generalize su M2 5 (5 * h + 1) (M2.1 0 13) = X2 at *
      obtain ⟨r, S3, f, M3, c1, c2, c3, c4, c5⟩ := stage_ok hh (i := 2) (by omega) hR2 10 300 (by decide) (by decide)
      have e2 : nI (5 * h) + 2 = nI (5 * h + 2) := nI_add _ 2
      rw [if_neg w10, lp_s, c1, if_pos z0, c2, bnd_some]
      rcases c5 with ⟨rfl, rfl, hR3⟩ | ⟨rfl, f0, hF⟩
      · have g3 : GM h M (su M3 5 (5 * h + 2) (M3.1 0 13)) := (g2.tr c4).tr gm_su
        unfold b_X10_takeSwinger_74
        rw [e2, chk_t _ (ib_nI (by omega) (by omega)), nm_x, nI_n (by omega)]
        generalize su M3 5 (5 * h + 2) (M3.1 0 13) = X3 at *
        obtain ⟨r, S4, f, M4, d1, d2, d3, d4, d5⟩ := stage_ok hh (i := 3) (by omega) hR3 0 20 (by decide) (by decide)
        have e3 : nI (5 * h) + 3 = nI (5 * h + 3) := nI_add _ 3
        rw [if_neg w10, lp_s, d1, if_pos z0, d2, bnd_some]
        rcases d5 with ⟨rfl, rfl, hR4⟩ | ⟨rfl, f0, hF⟩
        · have g4 : GM h M (su M4 5 (5 * h + 3) (M4.1 0 13)) := (g3.tr d4).tr gm_su
          unfold b_X10_takeSwinger_102
          rw [e3, chk_t _ (ib_nI (by omega) (by omega)), nm_x, nI_n (by omega)]
          generalize su M4 5 (5 * h + 3) (M4.1 0 13) = X4 at *
          obtain ⟨r, S5, f, M5, k1, k2, k3, k4, k5⟩ := stage_ok hh (i := 4) (by omega) hR4 0 36 (by decide) (by decide)
          have e4 : nI (5 * h) + 4 = nI (5 * h + 4) := nI_add _ 4
          rw [if_neg w10, lp_s, k1, if_pos z0, k2, bnd_some]
          have gs4 : GS h S S5 := (((a3.tr b3).tr c3).tr d3).tr k3
          rcases k5 with ⟨rfl, rfl, hR5⟩ | ⟨rfl, f0, hF⟩
          · have g5 : GM h M (su M5 5 (5 * h + 4) (M5.1 0 13)) := (g4.tr k4).tr gm_su
            unfold b_X10_takeSwinger_130
            rw [e4, chk_t _ (ib_nI (by omega) (by omega)), nm_x, nI_n (by omega), if_pos rfl]
            generalize su M5 5 (5 * h + 4) (M5.1 0 13) = X5 at *
            obtain ⟨r, S6, f, M6, m1, m2, m3, m4, m5⟩ := send_ok hh hR5 (lp (fun _ _ _ => none) b_X4_readSwinger_6 994) (15 + 2 * h)
            rw [if_neg w10, lp_s]
            refine ⟨r, S6, f, M6, m1, m2, gs4.tr m3, g5.tr m4, ?_⟩
            rcases m5 with ⟨u1, u2, u3, u4, u5, u6⟩ | u
            · exact Or.inl ⟨u1, u2, u3, u4, by rw [u5, u6]; exact hR5.2.2.1⟩
            · exact Or.inr u
          · obtain ⟨M', x1, x2, x3⟩ := bad130 hh f0 M5
            rw [if_pos rfl]
            exact ⟨0, S5, f, M', rfl, x1, gs4, (g4.tr k4).tr x2, Or.inr ⟨rfl, f0, hF.1, hF.2.1, by rw [x3]; exact hF.2.2⟩⟩
        · obtain ⟨M', x1, x2, x3⟩ := bad102 hh hF.pos.1 f0 M4
          rw [if_pos rfl]
          exact ⟨0, S4, f, M', rfl, x1, ((a3.tr b3).tr c3).tr d3, (g3.tr d4).tr x2, Or.inr ⟨rfl, f0, hF.1, hF.2.1, by rw [x3]; exact hF.2.2⟩⟩
      · obtain ⟨M', x1, x2, x3⟩ := bad74 hh hF.pos.1 f0 M3
        rw [if_pos rfl]
        exact ⟨0, S3, f, M', rfl, x1, (a3.tr b3).tr c3, (g2.tr c4).tr x2, Or.inr ⟨rfl, f0, hF.1, hF.2.1, by rw [x3]; exact hF.2.2⟩⟩
    · obtain ⟨M', x1, x2, x3⟩ := bad44 hh hF.pos.1 f0 M2
      rw [if_pos rfl]
      exact ⟨0, S2, f, M', rfl, x1, a3.tr b3, (g1.tr b4).tr x2, Or.inr ⟨rfl, f0, hF.1, hF.2.1, by rw [x3]; exact hF.2.2⟩⟩
  · obtain ⟨M', x1, x2, x3⟩ := bad44 hh hF.pos.1 f0 (su M1 5 (5 * h) (M1.1 0 13))
    rw [if_pos rfl, if_neg hF.pos.1]
    exact ⟨0, S1, f, M', rfl, x1, a3, (a4.tr (gm_su (i := 0))).tr x2, Or.inr ⟨rfl, f0, hF.1, hF.2.1, by rw [x3, su_r _ _ _ _ (by omega)]; exact hF.2.2⟩⟩
theorem E_swinger {S M : ST} (hR : Rel S M)  : ∃ r : Int32, ∃ S' : ST, ∃ M' : ST, f_X9_swinger S = some (r, S') ∧ f_X10_swinger M = some (r, M') ∧ Rel S' M' := by
  obtain ⟨h, len, hQ, hF, hT, hS, hI, hI2⟩ := id hR
  obtain ⟨t1, t2, t3, t4⟩ := id hT
  have h8 := hQ.2.2.1
  unfold f_X9_swinger f_X10_swinger f_X7_length
  rw [bn1_some, t2, t3, hQ.2.2.2.1, hQ.2.2.2.2.1]
  by_cases q : nI len ≤ (40 : Int32)
  · rw [if_pos q, if_pos q, if_neg (nI_pos (by omega))]
    by_cases z : h = 8
    · subst z
      rw [if_pos (show (8 : Int32) ≤ nI 8 by decide), if_pos (show nI 8 = (8 : Int32) from rfl)]
      unfold b_X9_swinger_47
      rw [om_none]
      exact ⟨_, _, _, rfl, rfl, hR⟩
    · have hh : h < 8 := by omega
      rw [if_neg (show ¬ (8 : Int32) ≤ nI h from nI_ge (b := 8) hh (by omega)), if_neg (ne_c (n := 8) rfl (by rw [nI_i (by omega)]; omega)), chk_t _ (ib_nI hh (by omega)), nm_x, nI_n (by omega)]
      unfold b_X9_swinger_47
      rw [om_some]
      obtain ⟨S1, hS1⟩ : ∃ T : ST, T = su (su (su S 3 1 0) 3 5 0) 3 6 (-1) := ⟨_, rfl⟩
      have o1 : Off 3 [1, 5, 6] S S1 := by rw [hS1]; exact ((Off.rf.su 1 _ (by simp)).su 5 _ (by simp)).su 6 _ (by simp)
      obtain ⟨M1, hM1⟩ : ∃ T : ST, T = su (su M 0 9 (-1)) 0 10 0 := ⟨_, rfl⟩
      have p1 : Off 0 [9, 10] M M1 := by rw [hM1]; exact (Off.rf.su 9 _ (by simp)).su 10 _ (by simp)
      have g0 : GM h M M1 := GM.off (by intro j hj; simp at hj; omega) p1
      have st : StgR h len 0 S1 M1 := ⟨hT.fr (o1.row (by omega)) (o1.row (by omega)) (p1.at (by simp)) (p1.row (by omega)), ⟨0, by omega, by rw [hS1, su_o _ _ _ (by omega), su_o _ _ _ (by omega), su_s]; rfl, by rw [hM1, su_s]; rfl⟩, fun j hj => by omega, by rw [hS1, su_s], by rw [hM1, su_o _ _ _ (by omega), su_s]⟩
      obtain ⟨r', S2, f, M2, c1, c2, c3, c4, c5⟩ := sread_ok hh st (by rw [p1.at (by simp)]; exact hQ.2.2.2.2.1)
      have c1' : f_X4_readSwinger (15 + 2 * h) S = some (r', S2) := by
        unfold f_X4_readSwinger f_X4_begin
        rw [nm_x, nm_x, nm_x, ← hS1, bn1_some]
        exact c1
      have gS : GS h S S2 := fun k h1 h2 => by rw [c3 k h1 h2]; exact o1.row h1
      have gM : GM h M M2 := g0.tr c4
      obtain ⟨S4, hS4⟩ : ∃ T : ST, T = su S2 1 1 0 := ⟨_, rfl⟩
      obtain ⟨S5, hS5⟩ : ∃ T : ST, T = su S4 0 13 (S2.1 3 6) := ⟨_, rfl⟩
      have s43 : S4.1 3 = S2.1 3 := by rw [hS4]; exact su_r _ _ _ _ (by omega)
      have s53 : S5.1 3 = S2.1 3 := by rw [hS5, su_r _ _ _ _ (by omega)]; exact s43
      have s5r : ∀ k, k ≠ 0 → k ≠ 1 → S5.1 k = S2.1 k := fun k h0 h1 => by rw [hS5, su_r _ _ _ _ h0, hS4, su_r _ _ _ _ h1]
      have s50 : ∀ j, j ≠ 13 → S5.1 0 j = S2.1 0 j := fun j hj => by rw [hS5, su_o _ _ _ hj, hS4, su_r _ _ _ _ (by omega)]
      have s513 : S5.1 0 13 = S2.1 3 6 := by rw [hS5, su_s]
      have s51 : S5.1 1 1 = nI 0 := by rw [hS5, su_r _ _ _ _ (by omega), hS4, su_s]; rfl
      have s505 : S5.1 0 5 = nI h := by rw [s50 5 (by omega), gS 0 (by omega) (by omega)]; exact hQ.2.2.2.1
      obtain ⟨M4, hM4⟩ : ∃ T : ST, T = su M2 0 8 0 := ⟨_, rfl⟩
      have m4r : ∀ k, k ≠ 0 → M4.1 k = M2.1 k := fun k hk => by rw [hM4]; exact su_r _ _ _ _ hk
      have m40 : ∀ j, j ≠ 8 → M4.1 0 j = M2.1 0 j := fun j hj => by rw [hM4]; exact su_o _ _ _ hj
      have m48 : M4.1 0 8 = nI 0 := by rw [hM4, su_s]; rfl
      have m404 : M4.1 0 4 = nI h := by rw [m40 4 (by omega), gM.2.2 4 (by omega) (by omega) (by omega) (by omega)]; exact hQ.2.2.2.2.1
      rw [c1', bnd_some, f_X7_clear, nm_x, ← hS4, bn1_some, f_X4_faultAt, bn1_some, s43, nm_x, ← hS5, f_X4_faultNumber, bn1_some, s53, nm_x, nm_x, nm_x, ← hM1, c2, bnd_some, nm_x, ← hM4, s505, nI_1]
      have u : ∀ k, k ≠ 0 → k ≠ 1 → k ≠ 3 → k ≠ 16 + 2 * h → S5.1 k = S.1 k := fun k h0 h1 h3 h5 => by rw [s5r k h0 h1]; exact gS k h3 h5
      have v : ∀ k, k ≠ 0 → k ≠ 5 → M4.1 k = M.1 k := fun k h0 h5 => by rw [m4r k h0]; exact gM.1 k h0 h5
      have v5 : ∀ p, p < 5 * h → M4.1 5 p = M.1 5 p := fun p hp => by rw [m4r 5 (by omega)]; exact gM.2.1 p hp
      have v0 : ∀ j, j ≠ 8 → j ≠ 9 → j ≠ 10 → j ≠ 13 → j ≠ 14 → M4.1 0 j = M.1 0 j := fun j h8 h9 h10 h13 h14 => by rw [m40 j h8]; exact gM.2.2 j h9 h10 h13 h14
      obtain ⟨q1, q2, q3, q4, q5, q6, q7⟩ := hQ
      have pl : PlR S5 M4 := q1.fr (fun k k1 k2 => u k (by omega) (by omega) (by omega) (by omega)) (fun k k1 k2 => v k (by omega) (by omega))
      have ha : HaR S5 M4 := q2.fr (u 32 (by omega) (by omega) (by omega) (by omega)) (v 6 (by omega) (by omega)) (v 1 (by omega) (by omega))
      have sw : ∀ i, i < h → SwR S5 M4 i := fun i hi => by
        have := q6 i hi
        unfold SwR at this ⊢
        rw [u (16 + 2 * i) (by omega) (by omega) (by omega) (by omega), v5 (5 * i) (by omega), v5 (5 * i + 1) (by omega), v5 (5 * i + 2) (by omega), v5 (5 * i + 3) (by omega), v5 (5 * i + 4) (by omega)]
        exact ⟨fun j hj => by rw [v5 (5 * i + j) (by omega)]; exact this.1 j hj, this.2⟩
      have pc : PC S5 := q7.fr (fun k k1 k2 => u k (by omega) (by omega) (by omega) (by omega))
      have tx : TxR 0 S5 M4 := ⟨by omega, s51, m48, fun j hj => by omega⟩
      have sd : SdR S5 M4 := hS.fr (by rw [u 31 (by omega) (by omega) (by omega) (by omega)]) (u 33 (by omega) (by omega) (by omega) (by omega)) (v0 42 (by omega) (by omega) (by omega) (by omega) (by omega)) (v 17 (by omega) (by omega))
      have i0 : ImR 0 S5 M4 := hI.fr (by omega) (fun k k1 k2 => u k (by omega) (by omega) (by omega) (by omega)) (v 18 (by omega) (by omega)) (v 19 (by omega) (by omega))
      have i1 : ImR 1 S5 M4 := hI2.fr (by omega) (fun k k1 k2 => u k (by omega) (by omega) (by omega) (by omega)) (v 18 (by omega) (by omega)) (v 19 (by omega) (by omega))
      rcases c5 with ⟨rfl, rfl, x1, x2, x3⟩ | ⟨rfl, f0, hFl⟩
      · rw [if_neg w10, if_pos (show (0 : Int32) ≤ 0 by decide), m404, nI_1, nm_x, su_s, su_s]
        have a : ∀ k, k ≠ 0 → (su S5 0 5 (nI (h + 1))).1 k = S5.1 k := fun k hk => su_r _ _ _ _ hk
        have b : ∀ k, k ≠ 0 → (su M4 0 4 (nI (h + 1))).1 k = M4.1 k := fun k hk => su_r _ _ _ _ hk
        have b0 : ∀ j, j ≠ 4 → (su M4 0 4 (nI (h + 1))).1 0 j = M4.1 0 j := fun j hj => su_o _ _ _ hj
        refine ⟨_, _, _, rfl, rfl, h + 1, 0, ⟨pl.fr (fun k k1 k2 => a k (by omega)) (fun k k1 k2 => b k (by omega)), ha.fr (a 32 (by omega)) (b 6 (by omega)) (b 1 (by omega)), by omega, su_s _ _ _ _, su_s _ _ _ _, fun i hi => ?_, pc.fr (fun k k1 k2 => a k (by omega))⟩, by rw [su_o _ _ _ (by omega), b0 9 (by omega), s513, x1, m40 9 (by omega), x2], tx.fr (a 1 (by omega)) (a 2 (by omega)) (b0 8 (by omega)) (b 7 (by omega)), sd.fr (by rw [a 31 (by omega)]) (a 33 (by omega)) (b0 42 (by omega)) (b 17 (by omega)), i0.fr (by omega) (fun k k1 k2 => a k (by omega)) (b 18 (by omega)) (b 19 (by omega)), i1.fr (by omega) (fun k k1 k2 => a k (by omega)) (b 18 (by omega)) (b 19 (by omega))⟩
        by_cases e : i = h
        · subst e
          unfold SwR
          rw [a (16 + 2 * i) (by omega), b 5 (by omega), s5r (16 + 2 * i) (by omega) (by omega), m4r 5 (by omega)]
          exact ⟨fun j hj => (x3 j hj).1, (x3 0 (by omega)).2, (x3 1 (by omega)).2, (x3 2 (by omega)).2, (x3 3 (by omega)).2, (x3 4 (by omega)).2⟩
        · have := sw i (by omega)
          unfold SwR at this ⊢
          rw [a (16 + 2 * i) (by omega), b 5 (by omega)]
          exact this
      · rw [if_pos rfl, if_neg hFl.pos.1, hFl.2.1]
        exact ⟨_, _, _, rfl, rfl, h, 0, ⟨pl, ha, q3, s505, m404, sw, pc⟩, by rw [s513, m40 9 (by omega)]; exact hFl.2.2, tx, sd, i0, i1⟩
  · rw [if_neg q, if_neg q]
    exact ⟨_, _, _, rfl, rfl, hR⟩
