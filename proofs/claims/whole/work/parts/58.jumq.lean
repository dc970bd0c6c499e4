theorem isG (r : Int32) : f_X9_isGood r = some (if r = 1 ∨ r = 2 then 1 else 0) := by
  unfold f_X9_isGood
  by_cases a : r = 1
  · rw [if_pos a, if_pos (Or.inl a)]
  · rw [if_neg a]
    by_cases b : r = 2
    · rw [if_pos b, if_pos (Or.inr b)]
    · rw [if_neg b, if_neg (fun h => h.elim a b)]
/-- whether a jump ends well, in both -/
theorem good_ok {B L A V W G R lo : Int32} {mo s : Nat} {e : Int32} {S M : ST} (hJ : JR B L A V W G R lo mo s e S M) (l1 : 50 ≤ L.toInt) (l2 : L.toInt ≤ 900) {τ : Nat} (h1 : 1 ≤ τ) (h2 : τ < 1000) (tm : Int32) (htm : tm + M.1 0 27 = nI τ) :
    ∃ S' M' g, f_X0_endsGood (nI τ) S = some (g, S') ∧ f_X10_isGood tm M = some (g, M') ∧ (g = 0 ∨ g = 1) ∧ Off 51 [11, 12, 13, 14, 15, 16] S S' ∧ Off 0 [33, 34, 35, 36, 37, 38] M M' ∧ (g = 1 → S'.1 51 12 = M'.1 0 34 ∧ S'.1 51 15 = M'.1 0 37) := by
  obtain ⟨S1, M1, q1, q2, ⟨o1, o2, e1, e2, -, -, e5, -⟩, q3, -⟩ := letgo_ok hJ l1 l2 trivial h1 h2 tm htm
  obtain ⟨hF, hS, h9, h10, hC⟩ := id hJ
  obtain ⟨s1, s2, s3, s4, s5⟩ := id hS
  obtain ⟨c1, c2⟩ := canC h9 h10 s2 h2
  have hM : f_X10_isGood tm M = some (if M1.1 0 33 = 1 ∨ M1.1 0 33 = 2 then 1 else 0, M1) := by
    unfold f_X10_isGood
    rw [q2, bn1_some]
    by_cases a : M1.1 0 33 = 1
    · rw [if_pos a, if_pos (Or.inl a)]
    · rw [if_neg a]
      by_cases b : M1.1 0 33 = 2
      · rw [if_pos b, if_pos (Or.inr b)]
      · rw [if_neg b, if_neg (fun h => h.elim a b)]
  have h01 : (if M1.1 0 33 = 1 ∨ M1.1 0 33 = 2 then (1 : Int32) else 0) = 0 ∨ (if M1.1 0 33 = 1 ∨ M1.1 0 33 = 2 then (1 : Int32) else 0) = 1 := by
    by_cases a : M1.1 0 33 = 1 ∨ M1.1 0 33 = 2
    · rw [if_pos a]; exact Or.inr rfl
    · rw [if_neg a]; exact Or.inl rfl
  by_cases q : CanGo s e τ
  · refine ⟨S1, M1, _, ?_, hM, h01, o1, o2, fun _ => ⟨e2, e5⟩⟩
    have hl : f_X0_fly (nI τ) S = some S1 := by
      have := q1
      unfold f_X0_letGo at this
      rw [c1 q, bn1_some, if_neg (by decide)] at this
      cases hf : f_X0_fly (nI τ) S with
      | none => rw [hf] at this; exact absurd this (by intro h; cases h)
      | some X => rw [hf, bn1_some] at this; exact this
    unfold f_X0_endsGood
    rw [c1 q, bn1_some, if_neg (by decide), hl, bn1_some, isG, bn1_some, e1]
    refine chk_t _ ?_
    rcases h01 with h | h <;> rw [h] <;> decide
  · refine ⟨S, M1, 0, ?_, ?_, Or.inl rfl, Off.rf, o2, fun h => absurd h (by decide)⟩
    · unfold f_X0_endsGood
      rw [c2 q, bn1_some, if_pos rfl]
    · rw [hM, if_neg (q3 q)]
