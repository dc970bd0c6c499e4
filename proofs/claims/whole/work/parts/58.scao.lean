/-- one good TIME in the class's scan -/
theorem scanG (K : Int32 → Int32 → Int32 → Int32 → ST → Option ST) (v3 v4 v5 : Int32) {t : Nat} (ht : t ≤ 200) {S S7 : ST} (hg : f_X0_endsGood (nI t + S.1 51 7) S = some (1, S7)) : ∃ v3' v4' S', b_X8_scan_35 K v3 v4 v5 (nI t) S = K v3' v4' (v5 + 1) (nI (t + 1)) S' ∧ Off 52 [0, 1, 2, 3, 4] S7 S' ∧ ((S7.1 52 0 = -1 ∨ ¬ S7.1 51 12 ≤ v3) → S'.1 52 0 = nI t ∧ v3' = S7.1 51 12) ∧ (¬ (S7.1 52 0 = -1 ∨ ¬ S7.1 51 12 ≤ v3) → S'.1 52 0 = S7.1 52 0 ∧ v3' = v3) ∧ ((S7.1 52 1 = -1 ∨ ¬ S7.1 51 15 ≤ v4) → S'.1 52 1 = nI t ∧ v4' = S7.1 51 15) ∧ (¬ (S7.1 52 1 = -1 ∨ ¬ S7.1 51 15 ≤ v4) → S'.1 52 1 = S7.1 52 1 ∧ v4' = v4) ∧ S'.1 52 4 = S7.1 52 4 + 1 ∧ (v5 + 1 ≤ S7.1 52 2 → S'.1 52 2 = S7.1 52 2 ∧ S'.1 52 3 = S7.1 52 3) ∧ (¬ v5 + 1 ≤ S7.1 52 2 → S'.1 52 2 = v5 + 1 ∧ S'.1 52 3 = nI t - (v5 + 1) + 1) := by
  have k : ¬ (200 : Int32) < nI t := nI_nlt (a := 200) (by omega) (by omega)
  obtain ⟨T, hT⟩ : ∃ T : ST, T = su S7 52 4 (S7.1 52 4 + 1) := ⟨_, rfl⟩
  have OT : Off 52 [4] S7 T := by rw [hT]; exact Off.rf.su 4 _ (by simp)
  have T4 : T.1 52 4 = S7.1 52 4 + 1 := by rw [hT]; simp [su_1]
  have hb : b_X8_scan_35 K v3 v4 v5 (nI t) S = if v5 + 1 ≤ T.1 52 2 then b_X8_scan_102 K v3 v4 (v5 + 1) (nI t) T else b_X8_scan_102 K v3 v4 (v5 + 1) (nI t) (su (su T 52 2 (v5 + 1)) 52 3 (nI t - (v5 + 1) + 1)) := by
    unfold b_X8_scan_35
    rw [if_neg k, hg, bnd_some, if_neg (by decide), nm_x, nm_x, ← hT]
    by_cases q : v5 + 1 ≤ T.1 52 2
    · rw [if_pos q, if_pos q]
    · rw [if_neg q, if_neg q, nm_x, nm_x]
  rw [OT.at (by simp)] at hb
  by_cases q : v5 + 1 ≤ S7.1 52 2
  · rw [if_pos q] at hb
    obtain ⟨v3', v4', S', a1, a2, a3, a4, a5, a6⟩ := scan102 K v3 v4 (v5 + 1) t T
    rw [OT.at (by simp), OT.row (k := 51) (by omega)] at a3 a4 a5 a6
    exact ⟨v3', v4', S', hb.trans a1, (OT.wd (by intro j hj; simp at hj ⊢; omega)).tr (a2.wd (by intro j hj; simp at hj ⊢; omega)), a3, a4, a5, a6, (a2.at (by simp)).trans T4, fun _ => ⟨(a2.at (by simp)).trans (OT.at (by simp)), (a2.at (by simp)).trans (OT.at (by simp))⟩, fun h => absurd q h⟩
  · rw [if_neg q] at hb
    obtain ⟨U, hU⟩ : ∃ U : ST, U = su (su T 52 2 (v5 + 1)) 52 3 (nI t - (v5 + 1) + 1) := ⟨_, rfl⟩
    have OU : Off 52 [2, 3, 4] S7 U := by rw [hU]; exact ((OT.wd (by intro j hj; simp at hj ⊢; omega)).su 2 _ (by simp)).su 3 _ (by simp)
    have U2 : U.1 52 2 = v5 + 1 := by rw [hU]; simp [su_1]
    have U3 : U.1 52 3 = nI t - (v5 + 1) + 1 := by rw [hU]; simp [su_1]
    have U4 : U.1 52 4 = S7.1 52 4 + 1 := by rw [hU]; simp [su_1, T4]
    rw [← hU] at hb
    obtain ⟨v3', v4', S', a1, a2, a3, a4, a5, a6⟩ := scan102 K v3 v4 (v5 + 1) t U
    rw [OU.at (by simp), OU.row (k := 51) (by omega)] at a3 a4 a5 a6
    exact ⟨v3', v4', S', hb.trans a1, (OU.wd (by intro j hj; simp at hj ⊢; omega)).tr (a2.wd (by intro j hj; simp at hj ⊢; omega)), a3, a4, a5, a6, (a2.at (by simp)).trans U4, fun h => absurd h q, fun _ => ⟨(a2.at (by simp)).trans U2, (a2.at (by simp)).trans U3⟩⟩
/-- one bad TIME -/
theorem scanB (K : Int32 → Int32 → Int32 → Int32 → ST → Option ST) (v3 v4 v5 : Int32) {t : Nat} (ht : t ≤ 200) {S S7 : ST} (hg : f_X0_endsGood (nI t + S.1 51 7) S = some (0, S7)) : b_X8_scan_35 K v3 v4 v5 (nI t) S = K v3 v4 0 (nI (t + 1)) S7 := by
  have k : ¬ (200 : Int32) < nI t := nI_nlt (a := 200) (by omega) (by omega)
  unfold b_X8_scan_35
  rw [if_neg k, hg, bnd_some, if_pos rfl, nm_x, nI_1]
