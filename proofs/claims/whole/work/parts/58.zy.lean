-- reading: spaces
theorem su_id {S : ST} {k j : Nat} {v : Int32} (h : S.1 k j = v) : su S k j v = S := by
  have e : (su S k j v).1 = S.1 := funext fun a => funext fun b => by
    rw [su_1]
    by_cases h1 : a = k
    · by_cases h2 : b = j
      · rw [if_pos h1, if_pos h2, h1, h2]; exact h.symm
      · rw [if_pos h1, if_neg h2]
    · rw [if_neg h1]
  have e2 : (su S k j v).2 = S.2 := rfl
  exact Prod.ext e e2
theorem su_su (S : ST) (k j : Nat) (v w : Int32) : su (su S k j v) k j w = su S k j w := by
  have e : (su (su S k j v) k j w).1 = (su S k j w).1 := funext fun a => funext fun b => by
    rw [su_1, su_1, su_1]
    by_cases h1 : a = k
    · rw [if_pos h1, if_pos h1, if_pos h1]
      by_cases h2 : b = j
      · rw [if_pos h2, if_pos h2]
      · rw [if_neg h2, if_neg h2, if_neg h2]
    · rw [if_neg h1, if_neg h1, if_neg h1]
  exact Prod.ext e rfl
/-- from p on blanks alone up to q -/
def Skip (B : Nat → Int32) (len p q : Nat) : Prop := p ≤ q ∧ q ≤ len ∧ (∀ j, p ≤ j → j < q → B j = 32) ∧ (q = len ∨ ¬ B q = 32)
theorem skip_ex (B : Nat → Int32) (len : Nat) : ∀ (r p : Nat), p + r = len → ∃ q, Skip B len p q := by
  intro r
  induction r with
  | zero => intro p h; exact ⟨p, Nat.le_refl p, by omega, fun j h1 h2 => by omega, Or.inl (by omega)⟩
  | succ r ih =>
    intro p h
    by_cases b : B p = 32
    · obtain ⟨q, h1, h2, h3, h4⟩ := ih (p + 1) (by omega)
      refine ⟨q, by omega, h2, fun j j1 j2 => ?_, h4⟩
      by_cases e : j = p
      · rw [e]; exact b
      · exact h3 j (by omega) j2
    · exact ⟨p, Nat.le_refl p, by omega, fun j h1 h2 => by omega, Or.inr b⟩
theorem Skip.self {B : Nat → Int32} {len p q : Nat} (h : Skip B len p q) : Skip B len q q := ⟨Nat.le_refl q, h.2.1, fun j h1 h2 => by omega, h.2.2.2⟩
/-- a run of bytes of a kind, from q up to e -/
def Run (P : Int32 → Prop) (B : Nat → Int32) (len q e : Nat) : Prop := q ≤ e ∧ e ≤ len ∧ (∀ j, q ≤ j → j < e → P (B j)) ∧ (e = len ∨ ¬ P (B e))
theorem run_ex (P : Int32 → Prop) (B : Nat → Int32) (len : Nat) : ∀ (r p : Nat), p + r = len → ∃ q, Run P B len p q := by
  intro r
  induction r with
  | zero => intro p h; exact ⟨p, Nat.le_refl p, by omega, fun j h1 h2 => by omega, Or.inl (by omega)⟩
  | succ r ih =>
    intro p h
    by_cases b : P (B p)
    · obtain ⟨q, h1, h2, h3, h4⟩ := ih (p + 1) (by omega)
      refine ⟨q, by omega, h2, fun j j1 j2 => ?_, h4⟩
      by_cases e : j = p
      · rw [e]; exact b
      · exact h3 j (by omega) j2
    · exact ⟨p, Nat.le_refl p, by omega, fun j h1 h2 => by omega, Or.inr b⟩
def Dig (x : Int32) : Prop := 48 ≤ x.toInt ∧ x.toInt ≤ 57
def Let (x : Int32) : Prop := 97 ≤ x.toInt ∧ x.toInt ≤ 122
theorem isDigC {x : Int32} : (Dig x → f_X4_isFigure x = some 1) ∧ (¬ Dig x → f_X4_isFigure x = some 0) := by
  have c1 : (x < 48) ↔ x.toInt < 48 := by rw [i_lt]; rfl
  have c2 : ((57 : Int32) < x) ↔ 57 < x.toInt := by rw [i_lt]; rfl
  unfold f_X4_isFigure Dig
  by_cases a : x < 48
  · have := c1.mp a
    exact ⟨fun h => by omega, fun _ => by rw [if_pos a]⟩
  · have a' : ¬ x.toInt < 48 := fun h => a (c1.mpr h)
    by_cases b : (57 : Int32) < x
    · have := c2.mp b
      exact ⟨fun h => by omega, fun _ => by rw [if_neg a, if_pos b]⟩
    · have b' : ¬ 57 < x.toInt := fun h => b (c2.mpr h)
      exact ⟨fun _ => by rw [if_neg a, if_neg b], fun h => absurd ⟨by omega, by omega⟩ h⟩
theorem isLetC {x : Int32} : (Let x → f_X4_isLetter x = some 1) ∧ (¬ Let x → f_X4_isLetter x = some 0) := by
  have c1 : (x < 97) ↔ x.toInt < 97 := by rw [i_lt]; rfl
  have c2 : ((122 : Int32) < x) ↔ 122 < x.toInt := by rw [i_lt]; rfl
  unfold f_X4_isLetter Let
  by_cases a : x < 97
  · have := c1.mp a
    exact ⟨fun h => by omega, fun _ => by rw [if_pos a]⟩
  · have a' : ¬ x.toInt < 97 := fun h => a (c1.mpr h)
    by_cases b : (122 : Int32) < x
    · have := c2.mp b
      exact ⟨fun h => by omega, fun _ => by rw [if_neg a, if_pos b]⟩
    · have b' : ¬ 122 < x.toInt := fun h => b (c2.mpr h)
      exact ⟨fun _ => by rw [if_neg a, if_neg b], fun h => absurd ⟨by omega, by omega⟩ h⟩
theorem inD (x : Int32) : (Dig x → f_X10_in x.toInt64 48 57 = some 1) ∧ (¬ Dig x → f_X10_in x.toInt64 48 57 = some 0) := by
  rw [wiM x (p := 48) (q := 57) rfl rfl]
  exact ⟨fun h => by rw [if_pos (show 48 ≤ x.toInt ∧ x.toInt ≤ 57 from h)], fun h => by rw [if_neg (show ¬ (48 ≤ x.toInt ∧ x.toInt ≤ 57) from h)]⟩
theorem inL (x : Int32) : (Let x → f_X10_in x.toInt64 97 122 = some 1) ∧ (¬ Let x → f_X10_in x.toInt64 97 122 = some 0) := by
  rw [wiM x (p := 97) (q := 122) rfl rfl]
  exact ⟨fun h => by rw [if_pos (show 97 ≤ x.toInt ∧ x.toInt ≤ 122 from h)], fun h => by rw [if_neg (show ¬ (97 ≤ x.toInt ∧ x.toInt ≤ 122) from h)]⟩
/-- what stands at q: a byte, or the end -/
def atB (B : Nat → Int32) (len q : Nat) : Int32 := if q < len then B q else -1
theorem byteC {len q : Nat} {S : ST} (hl : S.1 1 1 = nI len) (h3 : len ≤ 300) (hq : q ≤ len) : f_X7_byteAt (nI q) S = some (atB (S.1 2) len q) := by
  unfold f_X7_byteAt atB
  rw [if_neg (nI_pos (by omega)), hl]
  by_cases h : q < len
  · rw [if_neg (nI_ge h (by omega)), if_neg (show ¬ (300 : Int32) ≤ nI q from nI_ge (b := 300) (by omega) (by omega)), chk_t _ (ib_nI (by omega) (by omega)), nI_n (by omega), if_pos h]
  · rw [if_pos (nI_le (by omega) (by omega)), if_neg h]
theorem hereM {len q : Nat} : ∀ (r p n : Nat) (M : ST), p + r = q → r < n → len ≤ 300 → M.1 0 8 = nI len → M.1 0 10 = nI p → Skip (M.1 7) len p q → lp (fun _ => none) b_X10_here_0 n M = some (atB (M.1 7) len q, su M 0 10 (nI q)) := by
  have h38 : ∀ (M : ST), len ≤ 300 → q ≤ len → M.1 0 8 = nI len → M.1 0 10 = nI q → b_X10_here_38 M = some (atB (M.1 7) len q, su M 0 10 (nI q)) := by
    intro M h3 hq hl hp
    unfold b_X10_here_38 atB
    rw [hl, hp, su_id hp]
    by_cases h : q < len
    · rw [if_neg (nI_ge h (by omega)), chk_t _ (ib_nI (by omega) (by omega)), nI_n (by omega), if_pos h]
    · rw [if_pos (nI_le (by omega) (by omega)), if_neg h]
  intro r
  induction r with
  | zero =>
    intro p n M hr hn h3 hl hp hs
    obtain ⟨n, rfl⟩ : ∃ k, n = k + 1 := ⟨n - 1, by omega⟩
    have e : p = q := by omega
    subst e
    obtain ⟨s1, s2, s3, s4⟩ := hs
    rw [lp_s]; rw [b_X10_here_0]; rw [hl, hp]
    by_cases h : p < len
    · rw [if_neg (nI_ge h (by omega)), chk_t _ (ib_nI (by omega) (by omega)), nI_n (by omega), if_neg (s4.resolve_left (by omega)), h38 M h3 s2 hl hp]
    · rw [if_pos (nI_le (by omega) (by omega)), h38 M h3 s2 hl hp]
  | succ r ih =>
    intro p n M hr hn h3 hl hp hs
    obtain ⟨n, rfl⟩ : ∃ k, n = k + 1 := ⟨n - 1, by omega⟩
    obtain ⟨s1, s2, s3, s4⟩ := hs
    have e7 : (su M 0 10 (nI (p + 1))).1 7 = M.1 7 := su_r _ _ _ _ (by omega)
    have i := ih (p + 1) n (su M 0 10 (nI (p + 1))) (by omega) (by omega) h3 (by rw [su_o _ _ _ (by omega)]; exact hl) (su_s _ _ _ _) (by rw [e7]; exact ⟨by omega, s2, fun j j1 j2 => s3 j (by omega) j2, s4⟩)
    rw [e7, su_su] at i
    rw [lp_s]; rw [b_X10_here_0]; rw [hl, hp, if_neg (nI_ge (by omega) (by omega)), chk_t _ (ib_nI (by omega) (by omega)), nI_n (by omega), if_pos (s3 p (by omega) (by omega)), nm_x, nI_1]
    exact i
theorem here_ok {len p q : Nat} {M : ST} (h3 : len ≤ 300) (hl : M.1 0 8 = nI len) (hp : M.1 0 10 = nI p) (hs : Skip (M.1 7) len p q) : f_X10_here M = some (atB (M.1 7) len q, su M 0 10 (nI q)) :=
  hereM (q - p) p 1000 M (by have := hs.1; omega) (by have := hs.2.1; omega) h3 hl hp hs
theorem take8C {len q : Nat} : ∀ (r p n : Nat) (S : ST), p + r = q → r < n → len ≤ 300 → S.1 1 1 = nI len → S.1 3 1 = nI p → Skip (S.1 2) len p q → lp (fun _ _ => none) b_X4_take_8 n (nI len) S = b_X4_take_45 (nI len) (su S 3 1 (nI q)) := by
  intro r
  induction r with
  | zero =>
    intro p n S hr hn h3 hl hp hs
    obtain ⟨n, rfl⟩ : ∃ k, n = k + 1 := ⟨n - 1, by omega⟩
    have e : p = q := by omega
    subst e
    obtain ⟨s1, s2, s3, s4⟩ := hs
    rw [lp_s]; rw [b_X4_take_8]; rw [hp, su_id hp]
    by_cases h : p < len
    · have eb : atB (S.1 2) len p = S.1 2 p := by unfold atB; rw [if_pos h]
      rw [if_neg (nI_ge h (by omega)), byteC hl h3 s2, bn1_some, eb, if_neg (s4.resolve_left (by omega))]
    · rw [if_pos (nI_le (by omega) (by omega))]
  | succ r ih =>
    intro p n S hr hn h3 hl hp hs
    obtain ⟨n, rfl⟩ : ∃ k, n = k + 1 := ⟨n - 1, by omega⟩
    obtain ⟨s1, s2, s3, s4⟩ := hs
    have e2 : (su S 3 1 (nI (p + 1))).1 2 = S.1 2 := su_r _ _ _ _ (by omega)
    have i := ih (p + 1) n (su S 3 1 (nI (p + 1))) (by omega) (by omega) h3 (by rw [su_r _ _ _ _ (by omega)]; exact hl) (su_s _ _ _ _) (by rw [e2]; exact ⟨by omega, s2, fun j j1 j2 => s3 j (by omega) j2, s4⟩)
    rw [su_su] at i
    have eb : atB (S.1 2) len p = S.1 2 p := by unfold atB; rw [if_pos (by omega)]
    rw [lp_s]; rw [b_X4_take_8]; rw [hp, if_neg (nI_ge (by omega) (by omega)), byteC hl h3 (by omega), bn1_some, eb, if_pos (s3 p (by omega) (by omega)), nm_x, nI_1]
    exact i
theorem takeC0 {len p q : Nat} {S : ST} (h3 : len ≤ 300) (hl : S.1 1 1 = nI len) (hp : S.1 3 1 = nI p) (hs : Skip (S.1 2) len p q) : f_X4_take S = b_X4_take_45 (nI len) (su S 3 1 (nI q)) := by
  unfold f_X4_take f_X7_length
  rw [hl, bn1_some]
  exact take8C (q - p) p 1000 S (by have := hs.1; omega) (by have := hs.2.1; omega) h3 hl hp hs
