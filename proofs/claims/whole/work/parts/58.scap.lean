theorem best39 (K : Int32 → Int32 → Int32 → Int32 → ST → Option (Int32 × ST)) (w b v x : Int32) (t : Nat) (M : ST) : b_X10_bestTime_39 K w b v (nI t) x M = if b < 0 ∨ ¬ x ≤ v then K w (nI t) x (nI (t + 1)) M else K w b v (nI (t + 1)) M := by
  have h1 : b_X10_bestTime_56 K w b v (nI t) x 1 M = K w (nI t) x (nI (t + 1)) M := by
    unfold b_X10_bestTime_56 b_X10_bestTime_69
    rw [if_neg (by decide), if_neg (by decide), nm_x, nI_1]
  have h0 : b_X10_bestTime_56 K w b v (nI t) x 0 M = K w b v (nI (t + 1)) M := by
    unfold b_X10_bestTime_56 b_X10_bestTime_69
    rw [if_pos rfl, if_pos rfl, nm_x, nI_1]
  unfold b_X10_bestTime_39
  by_cases a : b < 0
  · rw [if_pos a, if_pos (Or.inl a), h1]
  · rw [if_neg a]
    by_cases c : x ≤ v
    · rw [if_pos c, if_neg (fun h => h.elim a (fun h => h c)), h0]
    · rw [if_neg c, if_pos (Or.inr c), h1]
/-- the best TIME by x, in both -/
theorem best_loop0 {B L A V W G R lo : Int32} {mo s q : Nat} {e : Int32} (hq : q ≤ 20) : ∀ (r t n1 n2 : Nat) (v3 v4 v5 b : Int32) (S M : ST), 1 ≤ t → t + r = 201 → r < n1 → r < n2 → JR B L A V W G R lo mo s e S M → S.1 51 7 = nI q → M.1 0 27 = nI q → S.1 52 0 = b → (b < 0 ↔ b = -1) →
    ∃ S' M' g, lp (fun _ _ _ _ _ => none) b_X8_scan_35 n1 v3 v4 v5 (nI t) S = some S' ∧ lp (fun _ _ _ _ _ => none) b_X10_bestTime_7 n2 0 b v3 (nI t) M = some (g, M') ∧ S'.1 52 0 = g ∧ (∀ k, (k < 51 ∨ 52 < k) → S'.1 k = S.1 k) ∧ Off 0 [33, 34, 35, 36, 37, 38] M M' := by
  intro r
  induction r with
  | zero =>
    intro t n1 n2 v3 v4 v5 b S M h1 ht hn1 hn2 hJ h7 h27 hb hb2
    obtain ⟨n1, rfl⟩ : ∃ k, n1 = k + 1 := ⟨n1 - 1, by omega⟩
    obtain ⟨n2, rfl⟩ : ∃ k, n2 = k + 1 := ⟨n2 - 1, by omega⟩
    have k : (200 : Int32) < nI t := nI_lt (a := 200) (by omega) (by omega)
    refine ⟨S, M, b, ?_, ?_, hb, fun _ _ => rfl, Off.rf⟩
    · rw [lp_s]; rw [b_X8_scan_35]; rw [if_pos k]
    · rw [lp_s]; rw [b_X10_bestTime_7]; rw [if_pos k]
  | succ r ih =>
    intro t n1 n2 v3 v4 v5 b S M h1 ht hn1 hn2 hJ h7 h27 hb hb2
    obtain ⟨n1, rfl⟩ : ∃ k, n1 = k + 1 := ⟨n1 - 1, by omega⟩
    obtain ⟨n2, rfl⟩ : ∃ k, n2 = k + 1 := ⟨n2 - 1, by omega⟩
    have k : ¬ (200 : Int32) < nI t := nI_nlt (a := 200) (by omega) (by omega)
    obtain ⟨S1, M1, g, a1, a2, a3, a4, a5, a6, a7⟩ := good2 hJ h1 (by omega) hq h7 h27
    have o1 : ∀ k, (k < 51 ∨ 52 < k) → S1.1 k = S.1 k := fun k hk => a4.row (by omega)
    rcases a3 with rfl | rfl
    · rw [lp_s, lp_s, scanB _ v3 v4 v5 (by omega) a1]
      have c2 : ∀ K : Int32 → Int32 → Int32 → Int32 → ST → Option (Int32 × ST), b_X10_bestTime_7 K 0 b v3 (nI t) M = K 0 b v3 (nI (t + 1)) M1 := by
        intro K
        unfold b_X10_bestTime_7
        rw [if_neg k, a2, bnd_some, if_pos rfl, nm_x, nI_1]
      rw [c2]
      obtain ⟨S2, M2, g, b1, b2, b3, b4, b5⟩ := ih (t + 1) n1 n2 v3 v4 0 b S1 M1 (by omega) (by omega) (by omega) (by omega) a6 (by rw [a4.at (by simp)]; exact h7) (by rw [a5.at (by simp)]; exact h27) (by rw [a4.row (k := 52) (by omega)]; exact hb) hb2
      exact ⟨S2, M2, g, b1, b2, b3, fun k hk => (b4 k hk).trans (o1 k hk), a5.tr b5⟩
    · obtain ⟨x1, -⟩ := a7 rfl
      obtain ⟨v3', v4', S2, c1, c2, c3, c4, -⟩ := scanG (lp (fun _ _ _ _ _ => none) b_X8_scan_35 n1) v3 v4 v5 (t := t) (by omega) a1
      have hc : ∀ K : Int32 → Int32 → Int32 → Int32 → ST → Option (Int32 × ST), b_X10_bestTime_7 K 0 b v3 (nI t) M = if b < 0 ∨ ¬ M1.1 0 34 ≤ v3 then K 0 (nI t) (M1.1 0 34) (nI (t + 1)) M1 else K 0 b v3 (nI (t + 1)) M1 := by
        intro K
        unfold b_X10_bestTime_7
        rw [if_neg k, a2, bnd_some, if_neg (by decide), if_pos rfl, best39]
      rw [lp_s, lp_s, c1, hc]
      rw [a4.row (k := 52) (by omega), hb, x1, ← hb2] at c3 c4
      have o2 : ∀ k, (k < 51 ∨ 52 < k) → S2.1 k = S.1 k := fun k hk => (c2.row (by omega)).trans (o1 k hk)
      have j2 : JR B L A V W G R lo mo s e S2 M1 := a6.fr (fun k hk => c2.row (by omega)) (fun j hj => by rw [c2.row (by omega)]) (fun _ _ _ => rfl) (fun _ _ => rfl)
      have h72 : S2.1 51 7 = nI q := by rw [c2.row (k := 51) (by omega), a4.at (by simp)]; exact h7
      have h272 : M1.1 0 27 = nI q := by rw [a5.at (by simp)]; exact h27
      by_cases z : b < 0 ∨ ¬ M1.1 0 34 ≤ v3
      · obtain ⟨y1, y2⟩ := c3 z
        rw [if_pos z, ← y2]
        have hp : ¬ nI t < 0 := nI_pos (by omega)
        obtain ⟨S3, M3, g, b1, b2, b3, b4, b5⟩ := ih (t + 1) n1 n2 v3' v4' (v5 + 1) (nI t) S2 M1 (by omega) (by omega) (by omega) (by omega) j2 h72 h272 y1 ⟨fun h => absurd h hp, fun h => absurd (by rw [h]; decide) hp⟩
        exact ⟨S3, M3, g, b1, b2, b3, fun k hk => (b4 k hk).trans (o2 k hk), a5.tr b5⟩
      · obtain ⟨y1, y2⟩ := c4 z
        rw [if_neg z, y2]
        obtain ⟨S3, M3, g, b1, b2, b3, b4, b5⟩ := ih (t + 1) n1 n2 v3 v4' (v5 + 1) b S2 M1 (by omega) (by omega) (by omega) (by omega) j2 h72 h272 y1 hb2
        exact ⟨S3, M3, g, b1, b2, b3, fun k hk => (b4 k hk).trans (o2 k hk), a5.tr b5⟩
