-- words
/-- the number of a word's letters so far, as the reference counts it -/
def cI (B : Nat → Int32) (q : Nat) : Nat → Int
  | 0 => 0
  | k + 1 => if 1000000000000 < cI B q k then 2000000000000 else 27 * cI B q k + (B (q + k)).toInt - 96
def lenN (i : Nat) : Nat := LENS.getD i 0
def chr (i j : Nat) : Int32 := (BYTS.getD i []).getD j 0
/-- the number of a name's first letters -/
def tc (i : Nat) : Nat → Int
  | 0 => 0
  | n + 1 => 27 * tc i n + (chr i n).toInt - 96
theorem tc_b : ∀ i, i < 9 → ∀ n, n < 7 → n ≤ lenN i → 0 ≤ tc i n ∧ tc i n ≤ 400000000 := by decide +kernel
theorem chr_b : ∀ i, i < 9 → ∀ n, n < 7 → n < lenN i → 97 ≤ (chr i n).toInt ∧ (chr i n).toInt ≤ 122 := by decide +kernel
theorem lenN_b : ∀ i, i < 9 → 4 ≤ lenN i ∧ lenN i < 7 := by decide
theorem cI_nn {B : Nat → Int32} {q : Nat} : ∀ k, (∀ j, j < k → Let (B (q + j))) → 0 ≤ cI B q k ∧ cI B q k ≤ 27000000000026 ∧ (1 ≤ k → 1 ≤ cI B q k) := by
  intro k
  induction k with
  | zero => intro _; exact ⟨Int.le_refl 0, by show (0 : Int) ≤ _; omega, fun h => by omega⟩
  | succ k ih =>
    intro hd
    obtain ⟨a1, a2, a3⟩ := ih (fun j hj => hd j (by omega))
    obtain ⟨d1, d2⟩ := hd k (by omega)
    show 0 ≤ (if 1000000000000 < cI B q k then (2000000000000 : Int) else 27 * cI B q k + (B (q + k)).toInt - 96) ∧ (if 1000000000000 < cI B q k then (2000000000000 : Int) else 27 * cI B q k + (B (q + k)).toInt - 96) ≤ 27000000000026 ∧ (1 ≤ k + 1 → 1 ≤ (if 1000000000000 < cI B q k then (2000000000000 : Int) else 27 * cI B q k + (B (q + k)).toInt - 96))
    by_cases h : 1000000000000 < cI B q k
    · rw [if_pos h]; omega
    · rw [if_neg h]; omega
/-- a word has a name's number only if it is that name -/
theorem word_eq {B : Nat → Int32} {q i : Nat} (hi : i < 9) : ∀ n, n ≤ lenN i → ∀ m, (∀ j, j < m → Let (B (q + j))) → (cI B q m = tc i n ↔ m = n ∧ ∀ j, j < n → B (q + j) = chr i j) := by
  have hl := lenN_b i hi
  intro n
  induction n with
  | zero =>
    intro _ m hd
    have e0 : tc i 0 = 0 := rfl
    rw [e0]
    constructor
    · intro h
      refine ⟨?_, fun j hj => by omega⟩
      rcases Nat.eq_zero_or_pos m with z | z
      · exact z
      · have := (cI_nn m hd).2.2 z
        omega
    · rintro ⟨h, -⟩
      rw [h]; rfl
  | succ n ih =>
    intro hn m hd
    obtain ⟨t1, t2⟩ := tc_b i hi n (by omega) (by omega)
    obtain ⟨t3, t4⟩ := tc_b i hi (n + 1) (by omega) hn
    obtain ⟨c1, c2⟩ := chr_b i hi n (by omega) (by omega)
    have et : tc i (n + 1) = 27 * tc i n + (chr i n).toInt - 96 := rfl
    rcases Nat.eq_zero_or_pos m with z | z
    · subst z
      have e0 : cI B q 0 = 0 := rfl
      rw [e0, et]
      exact ⟨fun h => by omega, fun h => by omega⟩
    · obtain ⟨k, rfl⟩ : ∃ k, m = k + 1 := ⟨m - 1, by omega⟩
      obtain ⟨d1, d2⟩ := hd k (by omega)
      have I := ih (by omega) k (fun j hj => hd j (by omega))
      have nn := (cI_nn k (fun j hj => hd j (by omega))).1
      have ec : cI B q (k + 1) = if 1000000000000 < cI B q k then (2000000000000 : Int) else 27 * cI B q k + (B (q + k)).toInt - 96 := rfl
      rw [ec]
      by_cases h : 1000000000000 < cI B q k
      · rw [if_pos h]
        constructor
        · intro h2; omega
        · rintro ⟨h2, h3⟩
          have := I.mpr ⟨by omega, fun j hj => h3 j (by omega)⟩
          omega
      · rw [if_neg h]
        constructor
        · intro h2
          have e1 : cI B q k = tc i n := by omega
          have e2 : (B (q + k)).toInt = (chr i n).toInt := by omega
          obtain ⟨g1, g2⟩ := I.mp e1
          refine ⟨by omega, fun j hj => ?_⟩
          by_cases w : j = n
          · rw [g1] at e2
            rw [w]
            exact i_ext e2
          · exact g2 j (by omega)
        · rintro ⟨h2, h3⟩
          have hk : k = n := by omega
          have e1 := I.mpr ⟨hk, fun j hj => h3 j (by omega)⟩
          have e2 := h3 n (by omega)
          rw [e1, hk, e2]
          exact et.symm
def isW (B : Nat → Int32) (q e i : Nat) : Prop := e - q = lenN i ∧ ∀ j, j < lenN i → B (q + j) = chr i j
theorem slen_ok : ∀ i, i < 9 → f_slen i = some (nI (lenN i)) := by decide +kernel
theorem sch_ok : ∀ i, i < 9 → ∀ j, j < 7 → j < lenN i → f_sch i (nI j) = some (chr i j) := by decide +kernel
/-- the class: is the word in hand this name -/
theorem isWord_loop {len q i : Nat} {B : Nat → Int32} {S : ST} (hi : i < 9) (h3 : len ≤ 300) (hl : S.1 1 1 = nI len) (hB : ∀ j, j < len → S.1 2 j = B j) (hq : S.1 3 3 = nI q) (hlen : q + lenN i ≤ len) : ∀ (r j n : Nat), j + r = lenN i → r < n → ((∀ t, j ≤ t → t < lenN i → B (q + t) = chr i t) → lp (fun _ _ => none) (b_X4_isWord_20 S) n i (nI j) = some 1) ∧ (¬ (∀ t, j ≤ t → t < lenN i → B (q + t) = chr i t) → lp (fun _ _ => none) (b_X4_isWord_20 S) n i (nI j) = some 0) := by
  have hl7 := lenN_b i hi
  intro r
  induction r with
  | zero =>
    intro j n hj hn
    obtain ⟨n, rfl⟩ : ∃ k, n = k + 1 := ⟨n - 1, by omega⟩
    refine ⟨fun _ => ?_, fun h => absurd (fun t t1 t2 => by omega) h⟩
    rw [lp_s]; rw [b_X4_isWord_20]; rw [slen_ok i hi, bn1_some, if_pos (nI_le (by omega) (by omega))]
  | succ r ih =>
    intro j n hj hn
    obtain ⟨n, rfl⟩ : ∃ k, n = k + 1 := ⟨n - 1, by omega⟩
    obtain ⟨i1, i2⟩ := ih (j + 1) n (by omega) (by omega)
    have eb : atB B len (q + j) = B (q + j) := by unfold atB; rw [if_pos (by omega)]
    have stp : lp (fun _ _ => none) (b_X4_isWord_20 S) (n + 1) i (nI j) = if B (q + j) = chr i j then lp (fun _ _ => none) (b_X4_isWord_20 S) n i (nI (j + 1)) else some 0 := by
      rw [lp_s]; rw [b_X4_isWord_20]; rw [slen_ok i hi, bn1_some, if_neg (nI_ge (by omega) (by omega)), hq, nI_add, byteB hl h3 hB (by omega), bn1_some, sch_ok i hi j (by omega) (by omega), bn1_some, eb, nm_x, nI_1]
    rw [stp]
    by_cases w : B (q + j) = chr i j
    · rw [if_pos w]
      refine ⟨fun h => i1 (fun t t1 t2 => h t (by omega) t2), fun h => i2 (fun h2 => h (fun t t1 t2 => ?_))⟩
      by_cases e : t = j
      · rw [e]; exact w
      · exact h2 t (by omega) t2
    · rw [if_neg w]
      exact ⟨fun h => absurd (h j (Nat.le_refl j) (by omega)) w, fun _ => rfl⟩
theorem isWord_ok {len q e i : Nat} {B : Nat → Int32} {S : ST} (hi : i < 9) (h3 : len ≤ 300) (hl : S.1 1 1 = nI len) (hB : ∀ j, j < len → S.1 2 j = B j) (hq : S.1 3 3 = nI q) (he : S.1 3 1 = nI e) (hqe : q ≤ e) (hel : e ≤ len) : (isW B q e i → f_X4_isWord i S = some 1) ∧ (¬ isW B q e i → f_X4_isWord i S = some 0) := by
  have hl7 := lenN_b i hi
  have esub : nI e - nI q = nI (e - q) := by
    have := nI_sub q (e - q)
    rwa [show q + (e - q) = e by omega] at this
  unfold f_X4_isWord isW
  rw [slen_ok i hi, bn1_some, he, hq, esub]
  by_cases w : e - q = lenN i
  · have w2 : nI (e - q) = nI (lenN i) := congrArg nI w
    obtain ⟨i1, i2⟩ := isWord_loop hi h3 hl hB hq (by omega) (lenN i) 0 1000 (by omega) (by omega)
    have i1' : (∀ t, 0 ≤ t → t < lenN i → B (q + t) = chr i t) → lp (fun _ _ => none) (b_X4_isWord_20 S) 1000 i (0 : Int32) = some 1 := i1
    have i2' : ¬ (∀ t, 0 ≤ t → t < lenN i → B (q + t) = chr i t) → lp (fun _ _ => none) (b_X4_isWord_20 S) 1000 i (0 : Int32) = some 0 := i2
    rw [if_pos w2]
    exact ⟨fun h => i1' (fun t _ t2 => h.2 t t2), fun h => i2' (fun h2 => h ⟨w, fun t t2 => h2 t (Nat.zero_le t) t2⟩)⟩
  · have w2 : ¬ nI (e - q) = nI (lenN i) := by rw [nI_eq (by omega) (by omega)]; exact w
    rw [if_neg w2]
    exact ⟨fun h => absurd h.1 w, fun _ => rfl⟩
theorem nameOf_ok : ∀ i, i < 9 → f_X4_nameOf (nI i) = some i := by decide +kernel
/-- the class: which clause the word in hand begins -/
theorem clause_loop {len q e : Nat} {B : Nat → Int32} {S : ST} (h3 : len ≤ 300) (hl : S.1 1 1 = nI len) (hB : ∀ j, j < len → S.1 2 j = B j) (hq : S.1 3 3 = nI q) (he : S.1 3 1 = nI e) (hqe : q ≤ e) (hel : e ≤ len) : ∀ (r i n : Nat), i + r = 9 → r < n → (∀ c, c < i → ¬ isW B q e c) → (∃ c, c < 9 ∧ isW B q e c ∧ lp (fun _ => none) (b_X4_clauseInHand_12 S) n (nI i) = some (nI c)) ∨ ((∀ c, c < 9 → ¬ isW B q e c) ∧ lp (fun _ => none) (b_X4_clauseInHand_12 S) n (nI i) = some (-1)) := by
  intro r
  induction r with
  | zero =>
    intro i n hi hn hc
    obtain ⟨n, rfl⟩ : ∃ k, n = k + 1 := ⟨n - 1, by omega⟩
    refine Or.inr ⟨fun c hc2 => hc c (by omega), ?_⟩
    rw [lp_s]; rw [b_X4_clauseInHand_12]; rw [if_pos (show (9 : Int32) ≤ nI i from nI_le (a := 9) (by omega) (by omega))]
  | succ r ih =>
    intro i n hi hn hc
    obtain ⟨n, rfl⟩ : ∃ k, n = k + 1 := ⟨n - 1, by omega⟩
    obtain ⟨w1, w0⟩ := isWord_ok (i := i) (by omega) h3 hl hB hq he hqe hel
    by_cases w : isW B q e i
    · refine Or.inl ⟨i, by omega, w, ?_⟩
      rw [lp_s]; rw [b_X4_clauseInHand_12]; rw [if_neg (show ¬ (9 : Int32) ≤ nI i from nI_ge (b := 9) (by omega) (by omega)), nameOf_ok i (by omega), bn1_some, w1 w, bn1_some, if_neg w10]
    · have stp : lp (fun _ => none) (b_X4_clauseInHand_12 S) (n + 1) (nI i) = lp (fun _ => none) (b_X4_clauseInHand_12 S) n (nI (i + 1)) := by
        rw [lp_s]; rw [b_X4_clauseInHand_12]; rw [if_neg (show ¬ (9 : Int32) ≤ nI i from nI_ge (b := 9) (by omega) (by omega)), nameOf_ok i (by omega), bn1_some, w0 w, bn1_some, if_pos rfl, nm_x, nI_1]
      rw [stp]
      exact ih (i + 1) n (by omega) (by omega) (fun c hc2 => by
        by_cases x : c = i
        · rw [x]; exact w
        · exact hc c (by omega))
/-- the reference's number of a clause -/
def pi (c : Nat) : Nat := ([0, 1, 2, 3, 4, 7, 5, 6, 8] : List Nat).getD c 0
def cd (i : Nat) : Int64 := Int64.ofInt (tc i (lenN i))
theorem cd_i : ∀ i, i < 9 → (cd i).toInt = tc i (lenN i) := by decide +kernel
theorem of_yes : ∀ i, i < 9 → ∀ _ : i < 9, f_X10_clauseOf (SMx.1, cd i) = some (nI (pi i)) := by decide +kernel
theorem of_2 (S : ST) : f_X10_clauseOf S = f_X10_clauseOf (SMx.1, S.2) := rfl
theorem of_no (S : ST) (h : ∀ i, i < 9 → ¬ S.2 = cd i) : f_X10_clauseOf S = some (-1) := by
  have n : ∀ i, i < 9 → ∀ x : Int64, x = cd i → ¬ lg_cmp S.2 x = 0 := fun i hi x hx q => h i hi (((lg_cmp_eq _ _).mp q).trans hx)
  unfold f_X10_clauseOf b_X10_clauseOf_108 b_X10_clauseOf_219 f_X10_code f_X10_longer
  simp only [bn1_some]
  rw [if_neg (n 0 (by omega) _ (by decide +kernel)), if_neg (n 1 (by omega) _ (by decide +kernel)), if_neg (n 2 (by omega) _ (by decide +kernel)), if_neg (n 3 (by omega) _ (by decide +kernel)), if_neg (n 4 (by omega) _ (by decide +kernel)), if_neg (n 6 (by omega) _ (by decide +kernel)), if_neg (n 7 (by omega) _ (by decide +kernel)), if_neg (n 5 (by omega) _ (by decide +kernel)), if_pos (by decide), if_pos (by decide), if_neg (n 8 (by omega) _ (by decide +kernel))]
theorem lM : (1000000000000 : Int64).toInt = 1000000000000 := rfl
theorem lM2 : (2000000000000 : Int64).toInt = 2000000000000 := rfl
theorem l96 : (96 : Int64).toInt = 96 := rfl
theorem l27 : (27 : Int64).toInt = 27 := rfl
/-- the reference: the letters of a word -/
theorem word18 {len q e : Nat} {B : Nat → Int32} (h3 : len ≤ 300) : ∀ (r k n : Nat) (M : ST), q + k + r = e → r < n → M.1 0 8 = nI len → (∀ j, j < len → M.1 7 j = B j) → M.1 0 12 = nI (q + k) → M.2.toInt = cI B q k → Run Let B len (q + k) e → (∀ j, j < k → Let (B (q + j))) → ∃ M', lp (fun _ => none) b_X10_readWord_18 n M = some M' ∧ Off 0 [12] M M' ∧ M'.1 0 12 = nI e ∧ M'.2.toInt = cI B q (e - q) ∧ ∀ j, j < e - q → Let (B (q + j)) := by
  intro r
  induction r with
  | zero =>
    intro k n M hr hn hl hB hp hv hs hd
    obtain ⟨n, rfl⟩ : ∃ k, n = k + 1 := ⟨n - 1, by omega⟩
    have e1 : e = q + k := by omega
    subst e1
    obtain ⟨s1, s2, s3, s4⟩ := hs
    refine ⟨M, ?_, Off.rf, hp, by rw [show q + k - q = k by omega]; exact hv, by rw [show q + k - q = k by omega]; exact hd⟩
    rw [lp_s]; rw [b_X10_readWord_18]; rw [hl, hp]
    by_cases h : q + k < len
    · rw [if_neg (nI_ge h (by omega)), chk_t _ (ib_nI (by omega) (by omega)), nI_n (by omega), hB _ h, (inL _).2 (s4.resolve_left (by omega)), bn1_some, if_pos rfl]
    · rw [if_pos (nI_le (by omega) (by omega))]
  | succ r ih =>
    intro k n M hr hn hl hB hp hv hs hd
    obtain ⟨n, rfl⟩ : ∃ k, n = k + 1 := ⟨n - 1, by omega⟩
    obtain ⟨s1, s2, s3, s4⟩ := hs
    have dk : Let (B (q + k)) := s3 (q + k) (by omega) (by omega)
    have hd' : ∀ j, j < k + 1 → Let (B (q + j)) := fun j hj => by
      by_cases w : j = k
      · rw [w]; exact dk
      · exact hd j (by omega)
    obtain ⟨c1, c2, -⟩ := cI_nn k hd
    have d1 := dk.1
    have d2 := dk.2
    have ec : cI B q (k + 1) = if 1000000000000 < cI B q k then (2000000000000 : Int) else 27 * cI B q k + (B (q + k)).toInt - 96 := rfl
    have key : ∃ x : Int64, x.toInt = cI B q (k + 1) ∧ b_X10_readWord_18 (lp (fun _ => none) b_X10_readWord_18 n) M = lp (fun _ => none) b_X10_readWord_18 n (su (sl M x) 0 12 (nI (q + k + 1))) := by
      have e92 : ∀ x, b_X10_readWord_92 (lp (fun _ => none) b_X10_readWord_18 n) x M = lp (fun _ => none) b_X10_readWord_18 n (su (sl M x) 0 12 (nI (q + k + 1))) := fun x => by
        unfold b_X10_readWord_92
        rw [nm_x, nm_x, show (sl M x).1 0 12 = nI (q + k) from hp, nI_1]
      have stp : b_X10_readWord_18 (lp (fun _ => none) b_X10_readWord_18 n) M = if lg_cmp M.2 1000000000000 ≤ 0 then b_X10_readWord_92 (lp (fun _ => none) b_X10_readWord_18 n) (27 * M.2 + (B (q + k)).toInt64 - 96) M else b_X10_readWord_92 (lp (fun _ => none) b_X10_readWord_18 n) 2000000000000 M := by
        rw [b_X10_readWord_18]; rw [hl, hp, if_neg (nI_ge (by omega) (by omega)), chk_t _ (ib_nI (by omega) (by omega)), nI_n (by omega), hB _ (by omega), (inL _).1 dk, bn1_some, if_neg w10, chk_t _ (ib_nI (by omega) (by omega))]
      rw [stp]
      by_cases w : lg_cmp M.2 1000000000000 ≤ 0
      · have w2 : ¬ 1000000000000 < cI B q k := by
          have := cmp_le.mp w
          rw [lM, hv] at this
          omega
        rw [if_neg w2] at ec
        refine ⟨_, ?_, by rw [if_pos w, e92]⟩
        have g1 : (27 * M.2).toInt = 27 * cI B q k := by rw [tl_mulc l27 (by rw [hv]; omega) (by rw [hv]; omega), hv]
        have g2 : (27 * M.2 + (B (q + k)).toInt64).toInt = 27 * cI B q k + (B (q + k)).toInt := by rw [tl_add (by rw [g1, tl_i]; omega) (by rw [g1, tl_i]; omega), g1, tl_i]
        rw [tl_subc l96 (by rw [g2]; omega) (by rw [g2]; omega), g2, ec]
      · have w2 : 1000000000000 < cI B q k := by
          have : ¬ M.2.toInt ≤ 1000000000000 := fun h => w (cmp_le.mpr (by rw [lM]; exact h))
          rw [hv] at this
          omega
        rw [if_pos w2] at ec
        exact ⟨_, by rw [ec]; exact lM2, by rw [if_neg w, e92]⟩
    obtain ⟨x, hx1, hx2⟩ := key
    have oT : Off 0 [12] M (su (sl M x) 0 12 (nI (q + k + 1))) := (show Off 0 [12] M (sl M x) from fun _ _ _ => rfl).su 12 _ (by simp)
    obtain ⟨M', a1, a2, a3, a4, a5⟩ := ih (k + 1) n (su (sl M x) 0 12 (nI (q + k + 1))) (by omega) (by omega) (by rw [oT.at (by simp)]; exact hl) (by rw [oT.row (k := 7) (by omega)]; exact hB) (by rw [su_s]; rfl) hx1 ⟨by omega, s2, fun j j1 j2 => s3 j (by omega) j2, s4⟩ hd'
    exact ⟨M', by rw [lp_s, hx2]; exact a1, oT.tr a2, a3, a4, a5⟩
/-- which clause begins here, in both -/
theorem clause_ok {len p q : Nat} {S M : ST} (hT : TxR len S M) (hS : S.1 3 1 = nI p) (hq : Skip (M.1 7) len p q) (hM : M.1 0 10 = nI q) (hlt : q < len) :
    ∃ S1 M1, f_X4_take S = some S1 ∧ Off 3 [1, 2, 3, 4] S S1 ∧ S1.1 3 3 = nI q ∧ ¬ S1.1 3 2 = 0 ∧ f_X10_readWord M = some M1 ∧ Off 0 [12] M M1 ∧ ((∃ c e, c < 9 ∧ f_X4_clauseInHand S1 = some (nI c) ∧ f_X10_clauseOf M1 = some (nI (pi c)) ∧ e ≤ len ∧ S1.1 3 1 = nI e ∧ M1.1 0 12 = nI e) ∨ (f_X4_clauseInHand S1 = some (-1) ∧ f_X10_clauseOf M1 = some (-1))) := by
  obtain ⟨h3, hl, hl2, hB⟩ := id hT
  obtain ⟨S1, a1, a2, a3, a4⟩ := take_ok h3 hl (fun j hj => (hB j hj).1) (fun j hj => (hB j hj).2) hS hq
  have hh := here_ok h3 hl2 hM hq.self
  rw [su_id hM] at hh
  obtain ⟨e, he⟩ := run_ex Let (M.1 7) len (len - q) q (by omega)
  obtain ⟨T, hT'⟩ : ∃ T : ST, T = su (sl M 0) 0 12 (nI q) := ⟨_, rfl⟩
  have oT : Off 0 [12] M T := by rw [hT']; exact (show Off 0 [12] M (sl M 0) from fun _ _ _ => rfl).su 12 _ (by simp)
  obtain ⟨M1, b1, b2, b3, b4, b5⟩ := word18 (q := q) (e := e) (B := M.1 7) h3 (e - q) 0 1000 T (by have := he.1; omega) (by have := he.2.1; omega) (by rw [oT.at (by simp)]; exact hl2) (fun j hj => by rw [oT.row (k := 7) (by omega)]) (by rw [hT', su_s]; rfl) (by rw [hT']; rfl) he (fun j hj => by omega)
  have hr : f_X10_readWord M = some M1 := by
    unfold f_X10_readWord
    rw [hh, bnd_some, nm_x, nm_x, show (sl M 0).1 0 10 = nI q from hM, ← hT']
    exact b1
  have wq : ∀ i, i < 9 → (M1.2 = cd i ↔ isW (M.1 7) q e i) := fun i hi => by
    have w := word_eq (B := M.1 7) (q := q) hi (lenN i) (Nat.le_refl _) (e - q) b5
    constructor
    · intro h
      exact w.mp (by rw [← b4, h, cd_i i hi])
    · intro h
      exact l_ext (by rw [b4, cd_i i hi]; exact w.mpr h)
  have s1l : S1.1 1 1 = nI len := by rw [a2.row (k := 1) (by omega)]; exact hl
  have s1B : ∀ j, j < len → S1.1 2 j = M.1 7 j := fun j hj => by rw [a2.row (k := 2) (by omega)]; exact (hB j hj).1
  have noM : (∀ i, i < 9 → ¬ isW (M.1 7) q e i) → f_X10_clauseOf M1 = some (-1) := fun h => of_no M1 (fun i hi x => h i hi ((wq i hi).mp x))
  rcases a4 with ⟨x1, x2⟩ | ⟨x1, x2, x3, e', x4, x5⟩ | ⟨x1, x2, x3, -⟩ | ⟨x1, x2, x3, x4, -⟩
  · omega
  · -- a word
    have ee : e' = e := by
      have u1 := he.1
      have u2 := x4.1
      rcases Nat.lt_trichotomy e' e with w | w | w
      · exact absurd (he.2.2.1 e' u2 w) (x4.2.2.2.resolve_left (by have := he.2.1; omega))
      · exact w
      · exact absurd (x4.2.2.1 e u1 w) (he.2.2.2.resolve_left (by have := x4.2.1; omega))
    subst ee
    refine ⟨S1, M1, a1, a2, a3, by rw [x3]; decide, hr, oT.tr b2, ?_⟩
    have cl := clause_loop h3 s1l s1B a3 x5 he.1 he.2.1 9 0 1000 (by omega) (by omega) (fun c hc => by omega)
    have hC : f_X4_clauseInHand S1 = lp (fun _ => none) (b_X4_clauseInHand_12 S1) 1000 (nI 0) := by
      unfold f_X4_clauseInHand
      rw [if_pos x3]; rfl
    rw [← hC] at cl
    rcases cl with ⟨c, c1, c2, c3⟩ | ⟨c1, c2⟩
    · refine Or.inl ⟨c, e', c1, c3, ?_, he.2.1, x5, b3⟩
      rw [of_2, (wq c c1).mpr c2]
      exact of_yes c c1 c1
    · exact Or.inr ⟨c2, noM c1⟩
  · refine ⟨S1, M1, a1, a2, a3, by rw [x3]; decide, hr, oT.tr b2, Or.inr ⟨?_, noM ?_⟩⟩
    · unfold f_X4_clauseInHand
      rw [if_neg (by rw [x3]; decide)]
    · intro i hi h
      have e0 : e = q := by
        rcases Nat.lt_or_ge q e with w | w
        · have y1 := (he.2.2.1 q (Nat.le_refl q) w).1
          have y2 := x2.2
          omega
        · have := he.1; omega
      have := lenN_b i hi
      have := h.1
      omega
  · refine ⟨S1, M1, a1, a2, a3, by rw [x4]; decide, hr, oT.tr b2, Or.inr ⟨?_, noM ?_⟩⟩
    · unfold f_X4_clauseInHand
      rw [if_neg (by rw [x4]; decide)]
    · intro i hi h
      have e0 : e = q := by
        rcases Nat.lt_or_ge q e with w | w
        · exact absurd (he.2.2.1 q (Nat.le_refl q) w) x2
        · have := he.1; omega
      have := lenN_b i hi
      have := h.1
      omega
