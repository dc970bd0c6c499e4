-- reading: words and NUMBERs in the class, NUMBERs in both
theorem nI_sub (a b : Nat) : nI (a + b) - nI a = nI b := by
  rw [← nI_add, Int32.add_comm, Int32.add_sub_cancel]
theorem Skip.cg {B B' : Nat → Int32} {len p q : Nat} (h : Skip B len p q) (e : ∀ j, j < len → B j = B' j) : Skip B' len p q := by
  obtain ⟨h1, h2, h3, h4⟩ := h
  refine ⟨h1, h2, fun j j1 j2 => by rw [← e j (by omega)]; exact h3 j j1 j2, ?_⟩
  by_cases q1 : q = len
  · exact Or.inl q1
  · exact Or.inr (by rw [← e q (by omega)]; exact h4.resolve_left q1)
theorem atB_cg {B B' : Nat → Int32} {len q : Nat} (e : ∀ j, j < len → B j = B' j) : atB B len q = atB B' len q := by
  unfold atB
  by_cases h : q < len
  · rw [if_pos h, if_pos h, e q h]
  · rw [if_neg h, if_neg h]
theorem byteB {len q : Nat} {S : ST} {B : Nat → Int32} (hl : S.1 1 1 = nI len) (h3 : len ≤ 300) (hB : ∀ j, j < len → S.1 2 j = B j) (hq : q ≤ len) : f_X7_byteAt (nI q) S = some (atB B len q) := by
  rw [byteC hl h3 hq, atB_cg hB]
/-- letters are run over -/
theorem take90 {len e : Nat} {B : Nat → Int32} (h3 : len ≤ 300) : ∀ (r p n : Nat) (S : ST), p + r = e → r < n → S.1 1 1 = nI len → (∀ j, j < len → S.1 2 j = B j) → S.1 3 1 = nI p → Run Let B len p e → lp (fun _ _ => none) b_X4_take_90 n (nI len) S = some (su S 3 1 (nI e)) := by
  intro r
  induction r with
  | zero =>
    intro p n S hr hn hl hB hp hs
    obtain ⟨n, rfl⟩ : ∃ k, n = k + 1 := ⟨n - 1, by omega⟩
    have e1 : p = e := by omega
    subst e1
    obtain ⟨s1, s2, s3, s4⟩ := hs
    rw [lp_s]; rw [b_X4_take_90]; rw [hp, su_id hp]
    by_cases h : p < len
    · have eb : atB B len p = B p := by unfold atB; rw [if_pos h]
      rw [if_neg (nI_ge h (by omega)), byteB hl h3 hB s2, bn1_some, eb, isLetC.2 (s4.resolve_left (by omega)), bn1_some, if_pos rfl]
    · rw [if_pos (nI_le (by omega) (by omega))]
  | succ r ih =>
    intro p n S hr hn hl hB hp hs
    obtain ⟨n, rfl⟩ : ∃ k, n = k + 1 := ⟨n - 1, by omega⟩
    obtain ⟨s1, s2, s3, s4⟩ := hs
    have e2 : (su S 3 1 (nI (p + 1))).1 2 = S.1 2 := su_r _ _ _ _ (by omega)
    have i := ih (p + 1) n (su S 3 1 (nI (p + 1))) (by omega) (by omega) (by rw [su_r _ _ _ _ (by omega)]; exact hl) (by rw [e2]; exact hB) (su_s _ _ _ _) ⟨by omega, s2, fun j j1 j2 => s3 j (by omega) j2, s4⟩
    rw [su_su] at i
    have eb : atB B len p = B p := by unfold atB; rw [if_pos (by omega)]
    rw [lp_s]; rw [b_X4_take_90]; rw [hp, if_neg (nI_ge (by omega) (by omega)), byteB hl h3 hB (by omega), bn1_some, eb, isLetC.1 (s3 p (by omega) (by omega)), bn1_some, if_neg w10, nm_x, nI_1]
    exact i
/-- the value of so many figures -/
def vl (B : Nat → Int32) (q : Nat) : Nat → Int32
  | 0 => 0
  | k + 1 => 10 * vl B q k + B (q + k) - 48
theorem vl_b {B : Nat → Int32} {q : Nat} : ∀ k, k ≤ 3 → (∀ j, j < k → Dig (B (q + j))) → 0 ≤ (vl B q k).toInt ∧ (vl B q k).toInt ≤ 999 ∧ (k ≤ 2 → (vl B q k).toInt ≤ 99) ∧ (k ≤ 1 → (vl B q k).toInt ≤ 9) ∧ (k = 0 → (vl B q k).toInt = 0) := by
  have c10 : (10 : Int32).toInt = 10 := rfl
  have c48 : (48 : Int32).toInt = 48 := rfl
  intro k
  induction k with
  | zero =>
    intro _ _
    have e0 : (vl B q 0).toInt = 0 := rfl
    rw [e0]
    exact ⟨by omega, by omega, fun _ => by omega, fun _ => by omega, fun _ => rfl⟩
  | succ k ih =>
    intro hk hd
    obtain ⟨a1, a2, a3, a4, a5⟩ := ih (by omega) (fun j hj => hd j (by omega))
    obtain ⟨d1, d2⟩ := hd k (by omega)
    have b99 := a3 (by omega)
    have e1 : ((10 : Int32) * vl B q k).toInt = 10 * (vl B q k).toInt := by rw [ti_mul (by rw [c10]; omega) (by rw [c10]; omega), c10]
    have e2 : (10 * vl B q k + B (q + k)).toInt = 10 * (vl B q k).toInt + (B (q + k)).toInt := by rw [ti_add (by rw [e1]; omega) (by rw [e1]; omega), e1]
    have e3 : (vl B q (k + 1)).toInt = 10 * (vl B q k).toInt + (B (q + k)).toInt - 48 := by
      show (10 * vl B q k + B (q + k) - 48).toInt = _
      rw [ti_sub (by rw [e2, c48]; omega) (by rw [e2, c48]; omega), e2, c48]
    rw [e3]
    refine ⟨by omega, by omega, fun h => ?_, fun h => ?_, fun h => by omega⟩
    · have := a4 (by omega); omega
    · have := a5 (by omega); omega
/-- figures are run over, in the class -/
theorem take145 {len q e : Nat} {B : Nat → Int32} (h3 : len ≤ 300) : ∀ (r k n : Nat) (S : ST), q + k + r = e → r < n → S.1 1 1 = nI len → (∀ j, j < len → S.1 2 j = B j) → S.1 3 1 = nI (q + k) → S.1 3 3 = nI q → S.1 3 4 = vl B q (min k 3) → Run Dig B len (q + k) e → ∃ S', lp (fun _ _ => none) b_X4_take_145 n (nI len) S = some S' ∧ Off 3 [1, 4] S S' ∧ S'.1 3 1 = nI e ∧ S'.1 3 4 = vl B q (min (e - q) 3) := by
  intro r
  induction r with
  | zero =>
    intro k n S hr hn hl hB hp hq hv hs
    obtain ⟨n, rfl⟩ : ∃ k, n = k + 1 := ⟨n - 1, by omega⟩
    have e1 : e = q + k := by omega
    subst e1
    obtain ⟨s1, s2, s3, s4⟩ := hs
    refine ⟨S, ?_, Off.rf, hp, by rw [hv, show q + k - q = k by omega]⟩
    rw [lp_s]; rw [b_X4_take_145]; rw [hp]
    by_cases h : q + k < len
    · have eb : atB B len (q + k) = B (q + k) := by unfold atB; rw [if_pos h]
      rw [if_neg (nI_ge h (by omega)), byteB hl h3 hB s2, bn1_some, eb, isDigC.2 (s4.resolve_left (by omega)), bn1_some, if_pos rfl]
    · rw [if_pos (nI_le (by omega) (by omega))]
  | succ r ih =>
    intro k n S hr hn hl hB hp hq hv hs
    obtain ⟨n, rfl⟩ : ∃ k, n = k + 1 := ⟨n - 1, by omega⟩
    obtain ⟨s1, s2, s3, s4⟩ := hs
    have eb : atB B len (q + k) = B (q + k) := by unfold atB; rw [if_pos (by omega)]
    have hbyte : f_X7_byteAt (nI (q + k)) S = some (B (q + k)) := by rw [byteB hl h3 hB (by omega), eb]
    obtain ⟨v, hv2⟩ : ∃ v, v = vl B q (min (k + 1) 3) := ⟨_, rfl⟩
    obtain ⟨T, hT⟩ : ∃ T : ST, T = su (su S 3 4 v) 3 1 (nI (q + k + 1)) := ⟨_, rfl⟩
    have oT : Off 3 [1, 4] S T := by rw [hT]; exact (Off.rf.su 4 _ (by simp)).su 1 _ (by simp)
    have t4 : T.1 3 4 = vl B q (min (k + 1) 3) := by rw [hT, su_o _ _ _ (by omega), su_s, hv2]
    have step : b_X4_take_145 (lp (fun _ _ => none) b_X4_take_145 n) (nI len) S = lp (fun _ _ => none) b_X4_take_145 n (nI len) T := by
      have e213 : ∀ x, x = v → b_X4_take_213 (lp (fun _ _ => none) b_X4_take_145 n) (nI len) x S = lp (fun _ _ => none) b_X4_take_145 n (nI len) T := fun x hx => by
        unfold b_X4_take_213
        rw [hx, nm_x, nm_x, su_o _ _ _ (by omega), hp, nI_1, ← hT]
      rw [b_X4_take_145]; rw [hp, if_neg (nI_ge (by omega) (by omega)), hbyte, bn1_some, isDigC.1 (s3 (q + k) (by omega) (by omega)), bn1_some, if_neg w10, hq, nI_sub, bn1_some]
      by_cases h : (3 : Int32) ≤ nI k
      · rw [if_pos h]
        have k3 : 3 ≤ k := by
          have := i_le.mp h
          rw [nI_i (by omega), show (3 : Int32).toInt = 3 from rfl] at this
          omega
        exact e213 _ (by rw [hv, hv2, show min k 3 = min (k + 1) 3 by omega])
      · rw [if_neg h]
        have k3 : k < 3 := by
          rcases Nat.lt_or_ge k 3 with w | w
          · exact w
          · exact absurd (nI_le (a := 3) w (by omega)) h
        exact e213 _ (by rw [hv, hv2, show min k 3 = k by omega, show min (k + 1) 3 = k + 1 by omega]; rfl)
    obtain ⟨S', a1, a2, a3, a4⟩ := ih (k + 1) n T (by omega) (by omega) (by rw [oT.row (k := 1) (by omega)]; exact hl) (by rw [oT.row (k := 2) (by omega)]; exact hB) (by rw [hT, su_s]; rfl) (by rw [oT.at (by simp)]; exact hq) t4 ⟨by omega, s2, fun j j1 j2 => s3 j (by omega) j2, s4⟩
    exact ⟨S', by rw [lp_s, step]; exact a1, oT.tr a2, a3, a4⟩
/-- the class takes one token -/
theorem take_ok {len p q : Nat} {S : ST} {B : Nat → Int32} (h3 : len ≤ 300) (hl : S.1 1 1 = nI len) (hB : ∀ j, j < len → S.1 2 j = B j) (hI : ∀ j, j < len → In (B j) 0 255) (hp : S.1 3 1 = nI p) (hs : Skip B len p q) : ∃ S', f_X4_take S = some S' ∧ Off 3 [1, 2, 3, 4] S S' ∧ S'.1 3 3 = nI q ∧
    ((q = len ∧ S'.1 3 2 = 0) ∨ (q < len ∧ Let (B q) ∧ S'.1 3 2 = 1 ∧ ∃ e, Run Let B len q e ∧ S'.1 3 1 = nI e) ∨ (q < len ∧ Dig (B q) ∧ S'.1 3 2 = 2 ∧ ∃ e, Run Dig B len q e ∧ S'.1 3 1 = nI e ∧ S'.1 3 4 = vl B q (min (e - q) 3)) ∨ (q < len ∧ ¬ Let (B q) ∧ ¬ Dig (B q) ∧ S'.1 3 2 = 3 ∧ S'.1 3 4 = B q ∧ S'.1 3 1 = nI (q + 1))) := by
  have hq := hs.2.1
  rw [takeC0 h3 hl hp (hs.cg (fun j hj => (hB j hj).symm))]
  obtain ⟨T, hT⟩ : ∃ T : ST, T = su (su S 3 1 (nI q)) 3 3 (nI q) := ⟨_, rfl⟩
  have oT : Off 3 [1, 2, 3, 4] S T := by rw [hT]; exact (Off.rf.su 1 _ (by simp)).su 3 _ (by simp)
  have t1 : T.1 3 1 = nI q := by rw [hT, su_o _ _ _ (by omega), su_s]
  have t3 : T.1 3 3 = nI q := by rw [hT, su_s]
  have tl : T.1 1 1 = nI len := by rw [oT.row (k := 1) (by omega)]; exact hl
  have tB : ∀ j, j < len → T.1 2 j = B j := by rw [oT.row (k := 2) (by omega)]; exact hB
  have h45 : b_X4_take_45 (nI len) (su S 3 1 (nI q)) = (if atB B len q = -1 then (nm (su T 3 2 0) fun S29 => some S29) else (bn1 (f_X4_isLetter (atB B len q)) fun r6 => if r6 = 0 then (bn1 (f_X4_isFigure (atB B len q)) fun r8 => if r8 = 0 then (nm (su T 3 2 3) fun S10 => nm (su S10 3 4 (atB B len q)) fun S11 => nm (su S11 3 1 ((S11.1 3 1) + 1)) fun S12 => some S12) else (nm (su T 3 2 2) fun S13 => nm (su S13 3 4 0) fun S14 => lp (fun _ _ => none) (b_X4_take_145) 1000 (nI len) S14)) else (nm (su T 3 2 1) fun S23 => lp (fun _ _ => none) (b_X4_take_90) 1000 (nI len) S23))) := by
    unfold b_X4_take_45
    rw [nm_x, su_s, ← hT, t1, byteB tl h3 tB hq, bn1_some]
  rw [h45]
  by_cases hql : q = len
  · have eb : atB B len q = -1 := by unfold atB; rw [if_neg (by omega)]
    rw [eb, if_pos rfl, nm_x]
    exact ⟨_, rfl, oT.su 2 _ (by simp), by rw [su_o _ _ _ (by omega)]; exact t3, Or.inl ⟨hql, su_s _ _ _ _⟩⟩
  · have hlt : q < len := by omega
    have eb : atB B len q = B q := by unfold atB; rw [if_pos hlt]
    have hn : ¬ B q = -1 := fun e => by
      have := (hI q hlt).1
      rw [e] at this
      exact absurd this (by decide)
    rw [eb, if_neg hn]
    by_cases hL : Let (B q)
    · rw [isLetC.1 hL, bn1_some, if_neg w10, nm_x]
      obtain ⟨e, he⟩ := run_ex Let B len (len - q) q (by omega)
      have oU : Off 3 [1, 2, 3, 4] S (su T 3 2 1) := oT.su 2 _ (by simp)
      rw [take90 (e := e) (B := B) h3 (e - q) q 1000 (su T 3 2 1) (by have := he.1; omega) (by have := he.2.1; omega) (by rw [oU.row (k := 1) (by omega)]; exact hl) (by rw [oU.row (k := 2) (by omega)]; exact hB) (by rw [su_o _ _ _ (by omega)]; exact t1) he]
      exact ⟨_, rfl, oU.su 1 _ (by simp), by rw [su_o _ _ _ (by omega), su_o _ _ _ (by omega)]; exact t3, Or.inr (Or.inl ⟨hlt, hL, by rw [su_o _ _ _ (by omega), su_s], e, he, su_s _ _ _ _⟩)⟩
    · rw [isLetC.2 hL, bn1_some, if_pos rfl]
      by_cases hD : Dig (B q)
      · rw [isDigC.1 hD, bn1_some, if_neg w10, nm_x, nm_x]
        obtain ⟨e, he⟩ := run_ex Dig B len (len - q) q (by omega)
        have oU : Off 3 [1, 2, 3, 4] S (su (su T 3 2 2) 3 4 0) := (oT.su 2 _ (by simp)).su 4 _ (by simp)
        obtain ⟨S', a1, a2, a3, a4⟩ := take145 (q := q) (e := e) (B := B) h3 (e - q) 0 1000 (su (su T 3 2 2) 3 4 0) (by have := he.1; omega) (by have := he.2.1; omega) (by rw [oU.row (k := 1) (by omega)]; exact hl) (by rw [oU.row (k := 2) (by omega)]; exact hB) (by rw [su_o _ _ _ (by omega), su_o _ _ _ (by omega)]; exact t1) (by rw [su_o _ _ _ (by omega), su_o _ _ _ (by omega)]; exact t3) (su_s _ _ _ _) he
        rw [a1]
        exact ⟨S', rfl, oU.tr (a2.wd (by intro j hj; simp at hj ⊢; omega)), by rw [a2.at (by simp), su_o _ _ _ (by omega), su_o _ _ _ (by omega)]; exact t3, Or.inr (Or.inr (Or.inl ⟨hlt, hD, by rw [a2.at (by simp), su_o _ _ _ (by omega), su_s], e, he, a3, a4⟩))⟩
      · rw [isDigC.2 hD, bn1_some, if_pos rfl, nm_x, nm_x, nm_x]
        refine ⟨_, rfl, ((oT.su 2 _ (by simp)).su 4 _ (by simp)).su 1 _ (by simp), ?_, Or.inr (Or.inr (Or.inr ⟨hlt, hL, hD, ?_, ?_, ?_⟩))⟩
        · rw [su_o _ _ _ (by omega), su_o _ _ _ (by omega), su_o _ _ _ (by omega)]; exact t3
        · rw [su_o _ _ _ (by omega), su_o _ _ _ (by omega), su_s]
        · rw [su_o _ _ _ (by omega), su_s]
        · rw [su_s, su_o _ _ _ (by omega), su_o _ _ _ (by omega), t1, nI_1]
/-- figures are run over, in the reference -/
theorem num42 {len q e : Nat} {B : Nat → Int32} (h3 : len ≤ 300) (lo hi : Int32) : ∀ (r k n : Nat) (M : ST), q + k + r = e → r < n → M.1 0 8 = nI len → (∀ j, j < len → M.1 7 j = B j) → M.1 0 10 = nI (q + k) → (k ≤ 3 → M.1 0 13 = vl B q k) → Run Dig B len (q + k) e → (∀ j, j < k → Dig (B (q + j))) → ∃ M', lp (fun _ _ _ => none) b_X10_takeNumber_42 n lo hi M = b_X10_takeNumber_129 lo hi M' ∧ Off 0 [10, 13] M M' ∧ M'.1 0 10 = nI e ∧ (e - q ≤ 3 → M'.1 0 13 = vl B q (e - q)) := by
  intro r
  induction r with
  | zero =>
    intro k n M hr hn hl hB hp hv hs hd
    obtain ⟨n, rfl⟩ : ∃ k, n = k + 1 := ⟨n - 1, by omega⟩
    have e1 : e = q + k := by omega
    subst e1
    obtain ⟨s1, s2, s3, s4⟩ := hs
    refine ⟨M, ?_, Off.rf, hp, by rw [show q + k - q = k by omega]; exact hv⟩
    rw [lp_s]; rw [b_X10_takeNumber_42]; rw [hl, hp]
    by_cases h : q + k < len
    · rw [if_neg (nI_ge h (by omega)), chk_t _ (ib_nI (by omega) (by omega)), nI_n (by omega), hB _ h, (inD _).2 (s4.resolve_left (by omega)), bn1_some, if_pos rfl]
    · rw [if_pos (nI_le (by omega) (by omega))]
  | succ r ih =>
    intro k n M hr hn hl hB hp hv hs hd
    obtain ⟨n, rfl⟩ : ∃ k, n = k + 1 := ⟨n - 1, by omega⟩
    obtain ⟨s1, s2, s3, s4⟩ := hs
    have dk : Dig (B (q + k)) := s3 (q + k) (by omega) (by omega)
    have hd' : ∀ j, j < k + 1 → Dig (B (q + j)) := fun j hj => by
      by_cases w : j = k
      · rw [w]; exact dk
      · exact hd j (by omega)
    have key : ∃ v, (k + 1 ≤ 3 → v = vl B q (k + 1)) ∧ b_X10_takeNumber_42 (lp (fun _ _ _ => none) b_X10_takeNumber_42 n) lo hi M = lp (fun _ _ _ => none) b_X10_takeNumber_42 n lo hi (su (su M 0 13 v) 0 10 (nI (q + k + 1))) := by
      have e113 : ∀ x, b_X10_takeNumber_113 (lp (fun _ _ _ => none) b_X10_takeNumber_42 n) lo hi x M = lp (fun _ _ _ => none) b_X10_takeNumber_42 n lo hi (su (su M 0 13 x) 0 10 (nI (q + k + 1))) := fun x => by
        unfold b_X10_takeNumber_113
        rw [nm_x, nm_x, su_o _ _ _ (by omega), hp, nI_1]
      have eN : M.1 0 8 = nI len := hl
      have stp : b_X10_takeNumber_42 (lp (fun _ _ _ => none) b_X10_takeNumber_42 n) lo hi M = if M.1 0 13 ≤ 10000 then b_X10_takeNumber_113 (lp (fun _ _ _ => none) b_X10_takeNumber_42 n) lo hi (10 * M.1 0 13 + B (q + k) - 48) M else b_X10_takeNumber_113 (lp (fun _ _ _ => none) b_X10_takeNumber_42 n) lo hi (M.1 0 13) M := by
        rw [b_X10_takeNumber_42]; rw [hl, hp, if_neg (nI_ge (by omega) (by omega)), chk_t _ (ib_nI (by omega) (by omega)), nI_n (by omega), hB _ (by omega), (inD _).1 dk, bn1_some, if_neg w10, chk_t _ (ib_nI (by omega) (by omega))]
      rw [stp]
      by_cases w : M.1 0 13 ≤ 10000
      · rw [if_pos w, e113]
        exact ⟨_, fun hk => by rw [hv (by omega)]; rfl, rfl⟩
      · rw [if_neg w, e113]
        refine ⟨_, fun hk => ?_, rfl⟩
        have b := (vl_b (B := B) (q := q) k (by omega) hd).2.1
        rw [← hv (by omega)] at b
        exact absurd (le_c (n := 10000) rfl (by omega)) w
    obtain ⟨v, hv1, hv2⟩ := key
    have oT : Off 0 [10, 13] M (su (su M 0 13 v) 0 10 (nI (q + k + 1))) := (Off.rf.su 13 _ (by simp)).su 10 _ (by simp)
    obtain ⟨M', a1, a2, a3, a4⟩ := ih (k + 1) n (su (su M 0 13 v) 0 10 (nI (q + k + 1))) (by omega) (by omega) (by rw [oT.at (by simp)]; exact hl) (by rw [oT.row (k := 7) (by omega)]; exact hB) (by rw [su_s]; rfl) (fun hk => by rw [su_o _ _ _ (by omega), su_s]; exact hv1 hk) ⟨by omega, s2, fun j j1 j2 => s3 j (by omega) j2, s4⟩ hd'
    exact ⟨M', by rw [lp_s, hv2]; exact a1, oT.tr a2, a3, a4⟩
/-- a FAULT, in both -/
def Fld (f : Int32) (S M : ST) : Prop := (f = 1 ∨ f = 2 ∨ f = 3 ∨ f = 4) ∧ S.1 3 5 = f ∧ S.1 3 6 = M.1 0 9
theorem failC (n : Int32) (S : ST) : f_X4_fail n S = some (0, su (su S 3 5 n) 3 6 (S.1 3 3)) := by
  unfold f_X4_fail
  rw [nm_x, nm_x, su_o _ _ _ (by omega)]
theorem failsM (n a : Int32) (M : ST) : f_X10_fails n a M = some (n, su M 0 9 a) := by
  unfold f_X10_fails
  rw [nm_x]
theorem off_fail {n a : Int32} {S S' : ST} (h : Off 3 [1, 2, 3, 4] S S') : Off 3 [1, 2, 3, 4, 5, 6] S (su (su S' 3 5 n) 3 6 a) := ((h.wd (by intro j hj; simp at hj ⊢; omega)).su 5 _ (by simp)).su 6 _ (by simp)
/-- a NUMBER is read, in both -/
theorem num_ok {len p : Nat} {S M : ST} (hT : TxR len S M) (hp : p ≤ len) (hS : S.1 3 1 = nI p) (hM : M.1 0 10 = nI p) (lo hi : Int32) :
    ∃ r S' f M', f_X4_takeNumber lo hi S = some (r, S') ∧ f_X10_takeNumber lo hi M = some (f, M') ∧ Off 3 [1, 2, 3, 4, 5, 6] S S' ∧ Off 0 [9, 10, 13, 14] M M' ∧ ((r = 1 ∧ f = 0 ∧ ∃ e, p < e ∧ e ≤ len ∧ S'.1 3 1 = nI e ∧ M'.1 0 10 = nI e ∧ S'.1 3 4 = M'.1 0 13 ∧ S'.1 3 3 = M'.1 0 14 ∧ In (M'.1 0 13) lo.toInt hi.toInt ∧ M'.1 0 9 = M.1 0 9 ∧ S'.1 3 6 = S.1 3 6) ∨ (r = 0 ∧ ¬ f = 0 ∧ Fld f S' M')) := by
  obtain ⟨h3, hl, hl2, hB⟩ := hT
  obtain ⟨q, hq⟩ := skip_ex (M.1 7) len (len - p) p (by omega)
  obtain ⟨S1, a1, a2, a3, a4⟩ := take_ok h3 hl (fun j hj => (hB j hj).1) (fun j hj => (hB j hj).2) hS hq
  have hh := here_ok h3 hl2 hM hq
  have q1 := hq.1
  have q2 := hq.2.1
  -- the reference, where no figure stands
  have noM : ¬ Dig (atB (M.1 7) len q) → f_X10_takeNumber lo hi M = some (1, su (su M 0 10 (nI q)) 0 9 (nI q)) := fun hd => by
    unfold f_X10_takeNumber
    rw [hh, bnd_some, (inD _).2 hd, bn1_some, if_pos rfl, failsM, bnd_some, su_s]
  have noC : ¬ S1.1 3 2 = 2 → f_X4_takeNumber lo hi S = some (0, su (su S1 3 5 1) 3 6 (nI q)) := fun hk => by
    unfold f_X4_takeNumber
    rw [a1, bn1_some, if_neg hk, failC, bnd_some, chk_t _ (by decide), a3]
  have oM1 : Off 0 [9, 10, 13, 14] M (su (su M 0 10 (nI q)) 0 9 (nI q)) := (Off.rf.su 10 _ (by simp)).su 9 _ (by simp)
  have bad : ¬ Dig (atB (M.1 7) len q) → ¬ S1.1 3 2 = 2 → ∃ r S' f M', f_X4_takeNumber lo hi S = some (r, S') ∧ f_X10_takeNumber lo hi M = some (f, M') ∧ Off 3 [1, 2, 3, 4, 5, 6] S S' ∧ Off 0 [9, 10, 13, 14] M M' ∧ ((r = 1 ∧ f = 0 ∧ ∃ e, p < e ∧ e ≤ len ∧ S'.1 3 1 = nI e ∧ M'.1 0 10 = nI e ∧ S'.1 3 4 = M'.1 0 13 ∧ S'.1 3 3 = M'.1 0 14 ∧ In (M'.1 0 13) lo.toInt hi.toInt ∧ M'.1 0 9 = M.1 0 9 ∧ S'.1 3 6 = S.1 3 6) ∨ (r = 0 ∧ ¬ f = 0 ∧ Fld f S' M')) := fun hd hk =>
    ⟨_, _, _, _, noC hk, noM hd, off_fail a2, oM1, Or.inr ⟨rfl, w10, Or.inl rfl, by rw [su_o _ _ _ (by omega), su_s], by rw [su_s, su_s]⟩⟩
  rcases a4 with ⟨b1, b2⟩ | ⟨b1, b2, b3, -⟩ | ⟨b1, b2, b3, e, be, b4, b5⟩ | ⟨b1, b2, b3, b4, -⟩
  · refine bad ?_ (by rw [b2]; decide)
    unfold atB
    rw [if_neg (by omega)]
    intro h
    exact absurd h.1 (by decide)
  · refine bad ?_ (by rw [b3]; decide)
    unfold atB
    rw [if_pos b1]
    intro h
    have h1 := h.2
    have h2 := b2.1
    omega
  · have eb : atB (M.1 7) len q = M.1 7 q := by unfold atB; rw [if_pos b1]
    obtain ⟨U, hU⟩ : ∃ U : ST, U = su (su (su M 0 10 (nI q)) 0 14 (nI q)) 0 13 0 := ⟨_, rfl⟩
    have oU : Off 0 [9, 10, 13, 14] M U := by rw [hU]; exact ((Off.rf.su 10 _ (by simp)).su 14 _ (by simp)).su 13 _ (by simp)
    have u14 : U.1 0 14 = nI q := by rw [hU, su_o _ _ _ (by omega), su_s]
    have u10 : U.1 0 10 = nI q := by rw [hU, su_o _ _ _ (by omega), su_o _ _ _ (by omega), su_s]
    obtain ⟨M1, c1, c2, c3, c4⟩ := num42 (q := q) (e := e) (B := M.1 7) h3 lo hi (e - q) 0 1000 U (by have := be.1; omega) (by have := be.2.1; omega) (by rw [oU.at (by simp)]; exact hl2) (fun j hj => by rw [oU.row (k := 7) (by omega)]) u10 (fun _ => by rw [hU, su_s]; rfl) be (fun j hj => by omega)
    have oM : Off 0 [9, 10, 13, 14] M M1 := oU.tr (c2.wd (by intro j hj; simp at hj ⊢; omega))
    have m14 : M1.1 0 14 = nI q := by rw [c2.at (by simp)]; exact u14
    have hm : f_X10_takeNumber lo hi M = b_X10_takeNumber_129 lo hi M1 := by
      unfold f_X10_takeNumber
      rw [hh, bnd_some, eb, (inD _).1 b2, bn1_some, if_neg w10, nm_x, su_s, nm_x, ← hU, c1]
    have hqe : q < e := by
      rcases Nat.lt_or_ge q e with w | w
      · exact w
      · have e1 : e = q := by have := be.1; omega
        rw [e1] at be
        exact absurd b2 (be.2.2.2.resolve_left (by omega))
    have he2 := be.2.1
    have esub : nI e - nI q = nI (e - q) := by
      have := nI_sub q (e - q)
      rwa [show q + (e - q) = e by omega] at this
    have f157 : b_X10_takeNumber_157 M1 = some (2, su M1 0 9 (nI q)) := by
      unfold b_X10_takeNumber_157
      rw [failsM, bnd_some, m14]
    have f43 : b_X4_takeNumber_43 S1 = some (0, su (su S1 3 5 2) 3 6 (nI q)) := by
      unfold b_X4_takeNumber_43
      rw [failC, bnd_some, if_pos rfl, a3]
    have bad2 : ∀ x y, f_X4_takeNumber lo hi S = x → x = b_X4_takeNumber_43 S1 → f_X10_takeNumber lo hi M = y → y = b_X10_takeNumber_157 M1 → ∃ r S' f M', f_X4_takeNumber lo hi S = some (r, S') ∧ f_X10_takeNumber lo hi M = some (f, M') ∧ Off 3 [1, 2, 3, 4, 5, 6] S S' ∧ Off 0 [9, 10, 13, 14] M M' ∧ ((r = 1 ∧ f = 0 ∧ ∃ e, p < e ∧ e ≤ len ∧ S'.1 3 1 = nI e ∧ M'.1 0 10 = nI e ∧ S'.1 3 4 = M'.1 0 13 ∧ S'.1 3 3 = M'.1 0 14 ∧ In (M'.1 0 13) lo.toInt hi.toInt ∧ M'.1 0 9 = M.1 0 9 ∧ S'.1 3 6 = S.1 3 6) ∨ (r = 0 ∧ ¬ f = 0 ∧ Fld f S' M')) := fun x y h1 h2 h4 h5 =>
      ⟨0, su (su S1 3 5 2) 3 6 (nI q), 2, su M1 0 9 (nI q), h1.trans (h2.trans f43), h4.trans (h5.trans f157), off_fail a2, oM.su 9 _ (by simp), Or.inr ⟨rfl, by decide, Or.inr (Or.inl rfl), by rw [su_o _ _ _ (by omega), su_s], by rw [su_s, su_s]⟩⟩
    by_cases w : (3 : Int32) < nI (e - q)
    · refine bad2 _ _ rfl ?_ rfl ?_
      · unfold f_X4_takeNumber
        rw [a1, bn1_some, if_pos b3, b4, a3, esub, if_pos w]
      · rw [hm]
        unfold b_X10_takeNumber_129
        rw [c3, m14, esub, if_pos w]
    · have e3 : e - q ≤ 3 := by
        rcases Nat.lt_or_ge 3 (e - q) with x | x
        · exact absurd (nI_lt (a := 3) x (by omega)) w
        · exact x
      have v13 : M1.1 0 13 = S1.1 3 4 := by rw [c4 e3, b5, show min (e - q) 3 = e - q by omega]
      have hC : f_X4_takeNumber lo hi S = if (if lo.toInt ≤ (S1.1 3 4).toInt ∧ (S1.1 3 4).toInt ≤ hi.toInt then (1 : Int32) else 0) = 0 then b_X4_takeNumber_43 S1 else some (1, S1) := by
        unfold f_X4_takeNumber
        rw [a1, bn1_some, if_pos b3, b4, a3, esub, if_neg w, wiC (S1.1 3 4) rfl rfl, bn1_some]
      have hm2 : f_X10_takeNumber lo hi M = if (if lo.toInt ≤ (S1.1 3 4).toInt ∧ (S1.1 3 4).toInt ≤ hi.toInt then (1 : Int32) else 0) = 0 then b_X10_takeNumber_157 M1 else some (0, M1) := by
        rw [hm]
        unfold b_X10_takeNumber_129
        rw [c3, m14, esub, if_neg w, v13, wiM (S1.1 3 4) (tl_i lo) (tl_i hi), bn1_some]
      by_cases z : lo.toInt ≤ (S1.1 3 4).toInt ∧ (S1.1 3 4).toInt ≤ hi.toInt
      · rw [if_pos z, if_neg w10] at hC hm2
        exact ⟨1, S1, 0, M1, hC, hm2, a2.wd (by intro j hj; simp at hj ⊢; omega), oM, Or.inl ⟨rfl, rfl, e, by omega, he2, b4, c3, v13.symm, by rw [a3, m14], by rw [v13]; exact z, by rw [c2.at (by simp), hU, su_o _ _ _ (by omega), su_o _ _ _ (by omega), su_o _ _ _ (by omega)], a2.at (by simp)⟩⟩
      · rw [if_neg z, if_pos rfl] at hC hm2
        exact bad2 _ _ hC rfl hm2 rfl
  · refine bad ?_ (by rw [b4]; decide)
    unfold atB
    rw [if_pos b1]
    exact b3
