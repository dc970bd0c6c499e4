theorem wide42 (K : Int32 → Int32 → Int32 → ST → Option (Int32 × ST)) (v2 run g : Int32) (t : Nat) (M : ST) : ∃ M', b_X10_wideRow_42 K v2 (nI t) g run M = K (if run ≤ v2 then v2 else run) run (nI (t + 1)) M' ∧ Off 0 [39, 40] M M' ∧ M'.1 0 40 = M.1 0 40 + (if g = 0 then 0 else 1) ∧ M'.1 0 39 = if run ≤ v2 then M.1 0 39 else nI t - run + 1 := by
  have h58 : ∀ d : Int32, ∃ M', b_X10_wideRow_58 K v2 run (nI t) d (M.1 0 40) M = K (if run ≤ v2 then v2 else run) run (nI (t + 1)) M' ∧ Off 0 [39, 40] M M' ∧ M'.1 0 40 = M.1 0 40 + d ∧ M'.1 0 39 = if run ≤ v2 then M.1 0 39 else nI t - run + 1 := by
    intro d
    have e39 : (su M 0 40 (M.1 0 40 + d)).1 0 39 = M.1 0 39 := by simp [su_1]
    unfold b_X10_wideRow_58 b_X10_wideRow_80
    rw [nm_x, e39]
    by_cases a : run ≤ v2
    · rw [if_pos a, if_pos a, if_pos a, nm_x, if_pos a, nm_x, nI_1]
      exact ⟨_, rfl, (Off.rf.su 40 _ (by simp)).su 39 _ (by simp), by simp [su_1], by simp [su_1]⟩
    · rw [if_neg a, if_neg a, if_neg a, nm_x, if_neg a, nm_x, nI_1]
      exact ⟨_, rfl, (Off.rf.su 40 _ (by simp)).su 39 _ (by simp), by simp [su_1], by simp [su_1]⟩
  unfold b_X10_wideRow_42
  by_cases z : g = 0
  · rw [if_pos z, if_pos z]; exact h58 0
  · rw [if_neg z, if_neg z]; exact h58 1
/-- the widest row of good TIMEs, in both -/
theorem wide_loop {B L A V W G R lo : Int32} {mo s q : Nat} {e : Int32} (hq : q ≤ 20) : ∀ (r t n1 n2 u : Nat) (v3 v4 v2 : Int32) (S M : ST), 1 ≤ t → t + r = 201 → u < t → r < n1 → r < n2 → JR B L A V W G R lo mo s e S M → S.1 51 7 = nI q → M.1 0 27 = nI q → S.1 52 2 = v2 → 0 ≤ v2 → S.1 52 3 = M.1 0 39 → S.1 52 4 = M.1 0 40 →
    ∃ S' M' g, lp (fun _ _ _ _ _ => none) b_X8_scan_35 n1 v3 v4 (nI u) (nI t) S = some S' ∧ lp (fun _ _ _ _ => none) b_X10_wideRow_16 n2 v2 (nI u) (nI t) M = some (g, M') ∧ S'.1 52 2 = g ∧ 0 ≤ g ∧ S'.1 52 3 = M'.1 0 39 ∧ S'.1 52 4 = M'.1 0 40 ∧ ((∀ k, k < 51 → S'.1 k = S.1 k) ∧ ∀ j, j < 11 → S'.1 51 j = S.1 51 j) ∧ Off 0 [33, 34, 35, 36, 37, 38, 39, 40] M M' := by
  intro r
  induction r with
  | zero =>
    intro t n1 n2 u v3 v4 v2 S M h1 ht hu hn1 hn2 hJ h7 h27 hb hb2 h39 h40
    obtain ⟨n1, rfl⟩ : ∃ k, n1 = k + 1 := ⟨n1 - 1, by omega⟩
    obtain ⟨n2, rfl⟩ : ∃ k, n2 = k + 1 := ⟨n2 - 1, by omega⟩
    have k : (200 : Int32) < nI t := nI_lt (a := 200) (by omega) (by omega)
    refine ⟨S, M, v2, ?_, ?_, hb, hb2, h39, h40, ⟨fun _ _ => rfl, fun _ _ => rfl⟩, Off.rf⟩
    · rw [lp_s]; rw [b_X8_scan_35]; rw [if_pos k]
    · rw [lp_s]; rw [b_X10_wideRow_16]; rw [if_pos k]
  | succ r ih =>
    intro t n1 n2 u v3 v4 v2 S M h1 ht hu hn1 hn2 hJ h7 h27 hb hb2 h39 h40
    obtain ⟨n1, rfl⟩ : ∃ k, n1 = k + 1 := ⟨n1 - 1, by omega⟩
    obtain ⟨n2, rfl⟩ : ∃ k, n2 = k + 1 := ⟨n2 - 1, by omega⟩
    have k : ¬ (200 : Int32) < nI t := nI_nlt (a := 200) (by omega) (by omega)
    obtain ⟨S1, M1, g, a1, a2, a3, a4, a5, a6, -⟩ := good2 hJ h1 (by omega) hq h7 h27
    have o1 : ∀ k, k < 51 → S1.1 k = S.1 k := a4.lo51.1
    have p39 : M1.1 0 39 = M.1 0 39 := a5.at (by simp)
    have p40 : M1.1 0 40 = M.1 0 40 := a5.at (by simp)
    have A5 : Off 0 [33, 34, 35, 36, 37, 38, 39, 40] M M1 := a5.wd (by intro j hj; simp at hj ⊢; omega)
    have hc : ∀ K : Int32 → Int32 → Int32 → ST → Option (Int32 × ST), b_X10_wideRow_16 K v2 (nI u) (nI t) M = if g = 0 then b_X10_wideRow_42 K v2 (nI t) g 0 M1 else b_X10_wideRow_42 K v2 (nI t) g (nI u + 1) M1 := by
      intro K
      unfold b_X10_wideRow_16
      rw [if_neg k, a2, bnd_some]
    rcases a3 with rfl | rfl
    · obtain ⟨M2, w1, w2, w3, w4⟩ := wide42 (lp (fun _ _ _ _ => none) b_X10_wideRow_16 n2) v2 0 0 t M1
      rw [lp_s, lp_s, scanB _ v3 v4 (nI u) (by omega) a1, hc, if_pos rfl, w1, if_pos hb2]
      rw [if_pos hb2] at w4
      rw [if_pos rfl, Int32.add_zero] at w3
      obtain ⟨S3, M3, g, b1, b2, b3, b4, b5, b6, b7, b8⟩ := ih (t + 1) n1 n2 0 v3 v4 v2 S1 M2 (by omega) (by omega) (by omega) (by omega) (by omega) (a6.fr (fun _ _ => rfl) (fun _ _ => rfl) (fun k k0 k1 => w2.row (by omega)) (fun j hj => w2.at (by simp; omega))) (by rw [a4.at (by simp)]; exact h7) (by rw [w2.at (by simp), a5.at (by simp)]; exact h27) (by rw [a4.row (k := 52) (by omega)]; exact hb) hb2 (by rw [a4.row (k := 52) (by omega), w4, p39]; exact h39) (by rw [a4.row (k := 52) (by omega), w3, p40]; exact h40)
      exact ⟨S3, M3, g, b1, b2, b3, b4, b5, b6, ⟨fun k hk => (b7.1 k hk).trans (o1 k hk), fun j hj => (b7.2 j hj).trans (a4.lo51.2 j hj)⟩, (A5.tr (w2.wd (by intro j hj; simp at hj ⊢; omega))).tr b8⟩
    · obtain ⟨M2, w1, w2, w3, w4⟩ := wide42 (lp (fun _ _ _ _ => none) b_X10_wideRow_16 n2) v2 (nI u + 1) 1 t M1
      obtain ⟨v3', v4', S2, c1, c2, -, -, -, -, c7, c8, c9⟩ := scanG (lp (fun _ _ _ _ _ => none) b_X8_scan_35 n1) v3 v4 (nI u) (t := t) (by omega) a1
      rw [lp_s, lp_s, c1, hc, if_neg (by decide), w1]
      rw [if_neg (by decide)] at w3
      rw [a4.row (k := 52) (by omega)] at c7 c8 c9
      rw [hb] at c8 c9
      have o2 : ∀ k, k < 51 → S2.1 k = S.1 k := fun k hk => (c2.row (by omega)).trans (o1 k hk)
      have j2 : JR B L A V W G R lo mo s e S2 M2 := a6.fr (fun k hk => c2.row (by omega)) (fun j hj => by rw [c2.row (by omega)]) (fun k k0 k1 => w2.row (by omega)) (fun j hj => w2.at (by simp; omega))
      have h72 : S2.1 51 7 = nI q := by rw [c2.row (k := 51) (by omega), a4.at (by simp)]; exact h7
      have h272 : M2.1 0 27 = nI q := by rw [w2.at (by simp), a5.at (by simp)]; exact h27
      have e40 : S2.1 52 4 = M2.1 0 40 := by rw [c7, w3, p40, h40]
      have en : nI u + 1 = nI (u + 1) := nI_1 u
      rw [en] at c8 c9 w4 ⊢
      have fin : (0 ≤ if nI (u + 1) ≤ v2 then v2 else nI (u + 1)) ∧ S2.1 52 2 = (if nI (u + 1) ≤ v2 then v2 else nI (u + 1)) ∧ S2.1 52 3 = M2.1 0 39 := by
        by_cases z : nI (u + 1) ≤ v2
        · obtain ⟨y1, y2⟩ := c8 z
          rw [if_pos z] at w4 ⊢
          exact ⟨hb2, y1, by rw [y2, w4, p39, h39]⟩
        · obtain ⟨y1, y2⟩ := c9 z
          rw [if_neg z] at w4 ⊢
          exact ⟨nI_le (a := 0) (by omega) (by omega), y1, by rw [y2, w4]⟩
      obtain ⟨f1, f2, f3⟩ := fin
      obtain ⟨S3, M3, g, b1, b2, b3, b4, b5, b6, b7, b8⟩ := ih (t + 1) n1 n2 (u + 1) v3' v4' (if nI (u + 1) ≤ v2 then v2 else nI (u + 1)) S2 M2 (by omega) (by omega) (by omega) (by omega) (by omega) j2 h72 h272 f2 f1 f3 e40
      exact ⟨S3, M3, g, b1, b2, b3, b4, b5, b6, ⟨fun k hk => (b7.1 k hk).trans (o2 k hk), fun j hj => (b7.2 j hj).trans ((show S2.1 51 j = S1.1 51 j by rw [c2.row (k := 51) (by omega)]).trans (a4.lo51.2 j hj))⟩, (A5.tr (w2.wd (by intro j hj; simp at hj ⊢; omega))).tr b8⟩
