/-- a TIME found, or none -/
def TT (b : Int32) : Prop := b = -1 ∨ ∃ u, 1 ≤ u ∧ u ≤ 200 ∧ b = nI u
theorem best_rng : ∀ (n t : Nat) (b v : Int32) (M : ST) (g : Int32) (M' : ST), 1 ≤ t → TT b → lp (fun _ _ _ _ _ => none) b_X10_bestTime_7 n 0 b v (nI t) M = some (g, M') → t ≤ 201 → TT g := by
  intro n
  induction n with
  | zero =>
    intro t b v M g M' h1 hb h
    exact absurd h (by intro q; cases q)
  | succ n ih =>
    intro t b v M g M' h1 hb h h2
    rw [lp_s] at h
    rw [b_X10_bestTime_7] at h
    by_cases k : (200 : Int32) < nI t
    · rw [if_pos k] at h
      have e : b = g := congrArg Prod.fst (Option.some.inj h)
      rw [← e]; exact hb
    · rw [if_neg k] at h
      have ht : t ≤ 200 := by
        rcases Nat.lt_or_ge 200 t with q | q
        · exact absurd (nI_lt (a := 200) q (by omega)) k
        · exact q
      obtain ⟨x, M1, -, h⟩ := bnd_s h
      by_cases a : x = 0
      · rw [if_pos a, nm_x, nI_1] at h
        exact ih (t + 1) b v M1 g M' (by omega) hb h (by omega)
      · rw [if_neg a, if_pos rfl, best39] at h
        by_cases z : b < 0 ∨ ¬ M1.1 0 34 ≤ v
        · rw [if_pos z] at h
          exact ih (t + 1) (nI t) _ M1 g M' (by omega) (Or.inr ⟨t, h1, ht, rfl⟩) h (by omega)
        · rw [if_neg z] at h
          exact ih (t + 1) b v M1 g M' (by omega) hb h (by omega)
theorem ready53 {h i : Nat} {S M S' : ST} (hQ : QR h S M) (hi : i < h) (e : f_X9_ready (15 + 2 * i) S = some S') : S'.1 53 = S.1 53 := by
  obtain ⟨S2, M2, s, e2, mo, y, a1, -, -, -, -, -, -, -, -, -, -, -, -, a6, -⟩ := ready_ok hQ hi
  rw [a1] at e
  rw [← Option.some.inj e]
  exact a6 53 (by omega)
/-- the TIMEs that HARMED looks at, in both -/
def FT (i : Nat) (S M : ST) : Prop := ∀ j, j < i → ∃ u, 1 ≤ u ∧ u ≤ 200 ∧ S.1 53 j = nI u ∧ M.1 16 j = nI u
/-- MF but for the row of these TIMEs -/
def MFH (M M' : ST) : Prop := (∀ k, (0 < k ∧ k < 8) ∨ 16 < k → M'.1 k = M.1 k) ∧ ∀ j, (j < 10 ∨ 41 < j) → M'.1 0 j = M.1 0 j
theorem MFH.tr {S S' S'' : ST} (h : MFH S S') (h' : MFH S' S'') : MFH S S'' := ⟨fun k hk => (h'.1 k hk).trans (h.1 k hk), fun k hk => (h'.2 k hk).trans (h.2 k hk)⟩
theorem MF.h {M M' : ST} (h : MF M M') : MFH M M' := ⟨fun k hk => h.1 k (by omega), h.2⟩
theorem QR.smh {h : Nat} {S M S' M' : ST} (hQ : QR h S M) (a : SF S S') (b : MFH M M') (c : PC S') : QR h S' M' :=
  hQ.fr (fun k k1 k2 => a k (by omega)) (fun k k1 k2 => a k (by omega)) (by rw [a 0 (by omega)]) c (fun k k1 k2 => b.1 k (by omega)) (b.2 4 (by omega))
theorem far_loop {h : Nat} : ∀ (r i n1 n2 : Nat) (S M : ST), i + r = h → r < n1 → r < n2 → QR h S M → FT i S M → ∃ S' M', lp (fun _ _ => none) b_X9_findFarthest_2 n1 (nI i) S = some S' ∧ lp (fun _ _ => none) b_X10_findFarthest_2 n2 (nI i) M = some M' ∧ SF S S' ∧ MFH M M' ∧ PC S' ∧ FT h S' M' := by
  intro r
  induction r with
  | zero =>
    intro i n1 n2 S M hi hn1 hn2 hQ hT
    obtain ⟨n1, rfl⟩ : ∃ k, n1 = k + 1 := ⟨n1 - 1, by omega⟩
    obtain ⟨n2, rfl⟩ : ∃ k, n2 = k + 1 := ⟨n2 - 1, by omega⟩
    have z : nI h ≤ nI i := nI_le (by omega) (by have := hQ.2.2.1; omega)
    refine ⟨S, M, ?_, ?_, fun _ _ => rfl, ⟨fun _ _ => rfl, fun _ _ => rfl⟩, hQ.2.2.2.2.2.2, fun j hj => hT j (by omega)⟩
    · rw [lp_s]; rw [b_X9_findFarthest_2]; rw [hQ.2.2.2.1, if_pos z]
    · rw [lp_s]; rw [b_X10_findFarthest_2]; rw [hQ.2.2.2.2.1, if_pos z]
  | succ r ih =>
    intro i n1 n2 S M hi hn1 hn2 hQ hT
    obtain ⟨n1, rfl⟩ : ∃ k, n1 = k + 1 := ⟨n1 - 1, by omega⟩
    obtain ⟨n2, rfl⟩ : ∃ k, n2 = k + 1 := ⟨n2 - 1, by omega⟩
    have h8 := hQ.2.2.1
    have z : ¬ nI h ≤ nI i := nI_ge (by omega) (by omega)
    obtain ⟨S1, M1, s, e, mo, q, b1, b2, b3, b4, b5, b6, b7, b8, b9, b10⟩ := ready3 hQ (i := i) (by omega)
    have r53 := ready53 hQ (i := i) (by omega) b1
    obtain ⟨T, t1, t2, t3, t4, t5, t6, t7⟩ := scan_start S1
    have jT := b3.fr52 t2
    have T7 : T.1 51 7 = nI q := by rw [t2.row (k := 51) (by omega)]; exact b6
    obtain ⟨S2, M2, g, c1, c2, c3, c4, c5⟩ := best_loop0 b5 200 1 1000 1000 0 0 (nI 0) (-1) T M1 (by omega) (by omega) (by omega) (by omega) jT T7 b7 t3 (by decide)
    have hg : TT g := best_rng 1000 1 (-1) 0 M1 g M2 (by omega) (Or.inl rfl) c2 (by omega)
    have c2' : f_X10_bestTime 0 M1 = some (g, M2) := c2
    have sf : SF S S2 := fun k hk => (c4 k (by omega)).trans ((t2.row (by omega)).trans (b8 k hk))
    have s53 : S2.1 53 = S.1 53 := (c4 53 (by omega)).trans ((t2.row (by omega)).trans r53)
    have mf : MF M M2 := b9.tr (MF.off (by intro j hj; simp at hj; omega) c5)
    have pc : PC S2 := b10.fr (fun k k1 k2 => (c4 k (by omega)).trans (t2.row (by omega)))
    have key : ∃ u, 1 ≤ u ∧ u ≤ 200 ∧ lp (fun _ _ => none) b_X9_findFarthest_2 (n1 + 1) (nI i) S = lp (fun _ _ => none) b_X9_findFarthest_2 n1 (nI (i + 1)) (su S2 53 i (nI u)) ∧ lp (fun _ _ => none) b_X10_findFarthest_2 (n2 + 1) (nI i) M = lp (fun _ _ => none) b_X10_findFarthest_2 n2 (nI (i + 1)) (su M2 16 i (nI u)) := by
      have p64 : ∀ v : Int32, b_X9_findFarthest_64 (lp (fun _ _ => none) b_X9_findFarthest_2 n1) (nI i) v (nI i) S2 = lp (fun _ _ => none) b_X9_findFarthest_2 n1 (nI (i + 1)) (su S2 53 i v) := fun v => by
        unfold b_X9_findFarthest_64
        rw [put_in 53 v S2 (show i < lnC 53 by show i < 8; omega), bn1_some, nm_x, nI_1]
      have p36 : ∀ v : Int32, b_X10_findFarthest_36 (lp (fun _ _ => none) b_X10_findFarthest_2 n2) (nI i) v (nI i) M2 = lp (fun _ _ => none) b_X10_findFarthest_2 n2 (nI (i + 1)) (su M2 16 i v) := fun v => by
        unfold b_X10_findFarthest_36
        rw [chk_t _ (ib_nI (by omega) (by omega)), nm_x, nm_x, nI_1, nI_n (by omega)]
      have d1 : lp (fun _ _ => none) b_X9_findFarthest_2 (n1 + 1) (nI i) S = lp (fun _ _ => none) b_X9_findFarthest_2 n1 (nI (i + 1)) (su S2 53 i (if g = -1 then 20 else g)) := by
        rw [lp_s]; rw [b_X9_findFarthest_2]; rw [hQ.2.2.2.1, if_neg z, swI hQ (by omega), bn1_some, om_some, b1, bn1_some, t1, c1, bn1_some, c3]
        by_cases w : g = -1
        · rw [if_pos w, if_pos w, p64]
        · rw [if_neg w, if_neg w, p64]
      have d2 : lp (fun _ _ => none) b_X10_findFarthest_2 (n2 + 1) (nI i) M = if 0 ≤ g then lp (fun _ _ => none) b_X10_findFarthest_2 n2 (nI (i + 1)) (su M2 16 i g) else lp (fun _ _ => none) b_X10_findFarthest_2 n2 (nI (i + 1)) (su M2 16 i 20) := by
        rw [lp_s]; rw [b_X10_findFarthest_2]; rw [hQ.2.2.2.2.1, if_neg z, b2, bn1_some, c2', bnd_some, p36, p36]
      rw [d1, d2]
      rcases hg with hg | ⟨u, u1, u2, hg⟩
      · rw [hg, if_pos rfl, if_neg (show ¬ (0 : Int32) ≤ -1 by decide)]
        exact ⟨20, by omega, by omega, rfl, rfl⟩
      · have hp : (0 : Int32) ≤ nI u := nI_le (a := 0) (by omega) (by omega)
        have hn : ¬ nI u = -1 := fun q => by rw [q] at hp; exact absurd hp (by decide)
        rw [hg, if_neg hn, if_pos hp]
        exact ⟨u, u1, u2, rfl, rfl⟩
    obtain ⟨u, u1, u2, d1, d2⟩ := key
    have o1 : Off 53 [i] S2 (su S2 53 i (nI u)) := Off.rf.su i _ (by simp)
    have o2 : Off 16 [i] M2 (su M2 16 i (nI u)) := Off.rf.su i _ (by simp)
    have e1 : (su S2 53 i (nI u)).1 53 i = nI u := by simp [su_1]
    have e2 : (su M2 16 i (nI u)).1 16 i = nI u := by simp [su_1]
    rw [d1, d2]
    generalize su S2 53 i (nI u) = S3 at *
    generalize su M2 16 i (nI u) = M3 at *
    have sf3 : SF S S3 := fun k hk => (o1.row (by omega)).trans (sf k hk)
    have mf3 : MFH M M3 := mf.h.tr ⟨fun k hk => o2.row (by omega), fun j _ => by rw [o2.row (k := 0) (by omega)]⟩
    have pc3 : PC S3 := pc.fr (fun k k1 k2 => o1.row (by omega))
    have hT3 : FT (i + 1) S3 M3 := fun j hj => by
      by_cases hj2 : j = i
      · rw [hj2]; exact ⟨u, u1, u2, e1, e2⟩
      · obtain ⟨w, w1, w2, w3, w4⟩ := hT j (by omega)
        refine ⟨w, w1, w2, ?_, ?_⟩
        · rw [o1.at (by simp [hj2]), s53]; exact w3
        · rw [o2.at (by simp [hj2]), mf.1 16 (by omega)]; exact w4
    obtain ⟨S4, M4, x1, x2, x3, x4, x5, x6⟩ := ih (i + 1) n1 n2 S3 M3 (by omega) (by omega) (by omega) (hQ.smh sf3 mf3 pc3) hT3
    exact ⟨S4, M4, x1, x2, sf3.tr x3, mf3.tr x4, x5, x6⟩
theorem far_ok {h : Nat} {S M : ST} (hQ : QR h S M) : ∃ S' M', f_X9_findFarthest S = some S' ∧ f_X10_findFarthest M = some M' ∧ SF S S' ∧ MFH M M' ∧ PC S' ∧ FT h S' M' :=
  far_loop h 0 1000 1000 S M (by omega) (by have := hQ.2.2.1; omega) (by have := hQ.2.2.1; omega) hQ (fun j hj => by omega)
/-- MEASURES' bits, either way -/
theorem mask : ∀ m, m < 64 → (nI m &&& 1 = 1 ↔ ¬ nI m &&& 1 = 0) ∧ (nI m &&& 2 = 2 ↔ ¬ nI m &&& 2 = 0) ∧ (nI m &&& 4 = 4 ↔ ¬ nI m &&& 4 = 0) ∧ (nI m &&& 8 = 8 ↔ ¬ nI m &&& 8 = 0) ∧ (nI m &&& 16 = 16 ↔ ¬ nI m &&& 16 = 0) ∧ (nI m &&& 32 = 32 ↔ ¬ nI m &&& 32 = 0) := by decide +kernel
def o32 (x lo : Int32) : Int32 := if x &&& 32 = 0 then 0 else if lo < 50 then 0 else 1
def o16 (x W lo : Int32) : Int32 := if x &&& 2 = 0 then o32 x lo else if 90 < W then 1 else o32 x lo
/-- kept out by MEASURES -/
def outv (x W lo : Int32) : Int32 := if x &&& 1 = 0 then o16 x W lo else if W < 30 then 1 else o16 x W lo
theorem outv_01 (x W lo : Int32) : outv x W lo = 0 ∨ outv x W lo = 1 := by
  have h1 : o32 x lo = 0 ∨ o32 x lo = 1 := by
    unfold o32
    split
    · exact Or.inl rfl
    · split
      · exact Or.inl rfl
      · exact Or.inr rfl
  have h2 : o16 x W lo = 0 ∨ o16 x W lo = 1 := by
    unfold o16
    split
    · exact h1
    · split
      · exact Or.inr rfl
      · exact h1
  unfold outv
  split
  · exact h2
  · split
    · exact Or.inr rfl
    · exact h2
theorem keptC {k : Nat} {x W lo : Int32} {S : ST} (hW : f_X6_number k (0 : Int32) S = some W) (hlo : f_X9_lowerNow S = some lo) : f_X9_keptOut k x S = some (outv x W lo) := by
  have h1 : b_X9_keptOut_32 S x = some (o32 x lo) := by
    unfold b_X9_keptOut_32 o32
    rw [hlo, bn1_some]
    by_cases a : x &&& 32 = 0
    · rw [if_pos a, if_pos a]
    · rw [if_neg a, if_neg a]
      by_cases b : lo < 50
      · rw [if_pos b, if_pos b]
      · rw [if_neg b, if_neg b]
  have h2 : b_X9_keptOut_16 S k x = some (o16 x W lo) := by
    unfold b_X9_keptOut_16 o16
    rw [hW, bn1_some, h1]
    by_cases a : x &&& 2 = 0
    · rw [if_pos a, if_pos a]
    · rw [if_neg a, if_neg a]
      by_cases b : (90 : Int32) < W
      · rw [if_pos b, if_pos b]
      · rw [if_neg b, if_neg b]
  unfold f_X9_keptOut outv
  rw [hW, bn1_some, h2]
  by_cases a : x &&& 1 = 0
  · rw [if_pos a, if_pos a]
  · rw [if_neg a, if_neg a]
    by_cases b : W < 30
    · rw [if_pos b, if_pos b]
    · rw [if_neg b, if_neg b]
theorem isOutM {m i : Nat} {W lo : Int32} {M : ST} (hm : m < 64) (hi : i < 8) (hW : M.1 5 (5 * i) = W) (hlo : f_X10_lower M = some lo) : f_X10_isOut (nI i) (nI m) M = some (outv (nI m) W lo) := by
  obtain ⟨k1, k2, -, -, -, k32⟩ := mask m hm
  have h51 : ∀ v3 v4 : Int32, b_X10_isOut_51 M (nI m) v3 v4 = some (if v3 = 0 then (if v4 = 0 then o32 (nI m) lo else 1) else 1) := by
    intro v3 v4
    unfold b_X10_isOut_51 o32
    rw [hlo, bn1_some]
    by_cases a : v3 = 0
    · rw [if_pos a, if_pos a]
      by_cases b : v4 = 0
      · rw [if_pos b, if_pos b]
        by_cases c : nI m &&& 32 = 0
        · rw [if_neg (fun h => k32.mp h c), if_pos c]
        · rw [if_pos (k32.mpr c), if_neg c]
          by_cases d : lo < 50
          · rw [if_pos d, if_pos d]
          · rw [if_neg d, if_neg d]
      · rw [if_neg b, if_neg b]
    · rw [if_neg a, if_neg a]
  have i5 : (5 : Int32) * nI i = nI (5 * i) := n5_0 i hi
  have h25 : ∀ v3 : Int32, b_X10_isOut_25 M (nI i) (nI m) v3 = some (if v3 = 0 then o16 (nI m) W lo else 1) := by
    intro v3
    unfold b_X10_isOut_25
    rw [i5, chk_t _ (ib_nI (by omega) (by omega)), nI_n (by omega), hW, h51, h51]
    unfold o16
    by_cases c : nI m &&& 2 = 0
    · rw [if_neg (fun h => k2.mp h c), if_pos c, if_pos rfl]
    · rw [if_pos (k2.mpr c), if_neg c]
      by_cases d : (90 : Int32) < W
      · rw [if_neg (by rw [i_le]; rw [i_lt] at d; omega), if_pos d, if_neg w10]
      · rw [if_pos (by rw [i_le]; rw [i_lt] at d; omega), if_neg d, if_pos rfl]
  unfold f_X10_isOut outv
  rw [i5, chk_t _ (ib_nI (by omega) (by omega)), nI_n (by omega), hW, h25, h25]
  by_cases c : nI m &&& 1 = 0
  · rw [if_neg (fun h => k1.mp h c), if_pos c, if_pos rfl]
  · rw [if_pos (k1.mpr c), if_neg c]
    by_cases d : W < 30
    · rw [if_neg (by rw [i_le]; rw [i_lt] at d; omega), if_pos d, if_neg w10]
    · rw [if_pos (by rw [i_le]; rw [i_lt] at d; omega), if_neg d, if_pos rfl]
