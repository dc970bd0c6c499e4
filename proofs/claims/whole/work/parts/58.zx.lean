theorem beginS (S : ST) : ∃ T, f_X5_begin S = some T ∧ T.1 32 0 = 0 ∧ T.1 32 1 = 0 ∧ T.1 32 2 = 0 ∧ T.1 32 3 = S.1 5 4 ∧ T.1 32 4 = S.1 5 5 ∧ ∀ k, k ≠ 32 → T.1 k = S.1 k := by
  have tk : ∀ (j : Nat) (v : Int32) (T : ST), j < 5 → f_X5_take (nI j) v T = some (su T 32 j v) := fun j v T h => takeC T v h
  have t0 : ∀ (v : Int32) (T : ST), f_X5_take (0 : Int32) v T = some (su T 32 0 v) := fun v T => tk 0 v T (by omega)
  have t1 : ∀ (v : Int32) (T : ST), f_X5_take (1 : Int32) v T = some (su T 32 1 v) := fun v T => tk 1 v T (by omega)
  have t2 : ∀ (v : Int32) (T : ST), f_X5_take (2 : Int32) v T = some (su T 32 2 v) := fun v T => tk 2 v T (by omega)
  have t3 : ∀ (v : Int32) (T : ST), f_X5_take (3 : Int32) v T = some (su T 32 3 v) := fun v T => tk 3 v T (by omega)
  have t4 : ∀ (v : Int32) (T : ST), f_X5_take (4 : Int32) v T = some (su T 32 4 v) := fun v T => tk 4 v T (by omega)
  have n4 : ∀ T : ST, f_X3_number (4 : Int32) T = some (T.1 5 4) := fun T => numC (i := 4) T (by omega)
  have n5 : ∀ T : ST, f_X3_number (5 : Int32) T = some (T.1 5 5) := fun T => numC (i := 5) T (by omega)
  have e5 : ∀ (T : ST) (j : Nat) (v : Int32), (su T 32 j v).1 5 = T.1 5 := fun T j v => su_r _ _ _ _ (by omega)
  refine ⟨su (su (su (su (su S 32 0 0) 32 1 0) 32 2 0) 32 3 (S.1 5 4)) 32 4 (S.1 5 5), ?_, by simp [su_1], by simp [su_1], by simp [su_1], by simp [su_1], by simp [su_1], fun k hk => ?_⟩
  · unfold f_X5_begin
    rw [t0, bn1_some, t1, bn1_some, t2, bn1_some, n4, bn1_some, e5, e5, e5, t3, bn1_some, n5, bn1_some, e5, e5, e5, e5, t4, bn1_some]
  · rw [su_r _ _ _ _ hk, su_r _ _ _ _ hk, su_r _ _ _ _ hk, su_r _ _ _ _ hk, su_r _ _ _ _ hk]
theorem sal0_in : In ((sal 0).getD 0 0) 200 999 ∧ In ((sal 0).getD 1 0) 100 900 ∧ In ((sal 0).getD 2 0) 20 999 ∧ In ((sal 0).getD 3 0) 0 99 ∧ In ((sal 0).getD 4 0) 0 80 ∧ In ((sal 0).getD 5 0) 0 600 ∧ In ((sal 0).getD 6 0) 50 600 ∧ In ((sal 0).getD 7 0) 0 300 ∧ In ((sal 0).getD 8 0) 1 24 := by
  unfold In
  decide +kernel
theorem E_init : Rel SC0 SM0 := by
  obtain ⟨T, b1, b2, b3, b4, b5, b6, b7⟩ := beginS SCx
  rw [SC0_ok] at b1
  have e : SC0 = T := Option.some.inj b1
  subst e
  obtain ⟨m0, m1, m2, m3, m4, m6, m17, m18, m19⟩ := SM0_at
  obtain ⟨p1, p2, p3, p4⟩ := SP0_at
  obtain ⟨i0, i1, i2, i3, i4, i5, i6, i7, i8⟩ := sal0_in
  have c5 : ∀ j, j < 9 → SC0.1 5 j = SM0.1 1 j := fun j hj => by rw [b7 5 (by omega), m1 j hj]; exact p1 j hj
  have c6 : ∀ j, j < 24 → SC0.1 6 j = SM0.1 2 j := fun j hj => by rw [b7 6 (by omega), m2 j hj]; exact p2 j hj
  have c7 : ∀ j, j < 24 → SC0.1 7 j = SM0.1 3 j := fun j hj => by rw [b7 7 (by omega), m3 j hj]; exact p3 j hj
  have c8 : ∀ j, j < 12 → SC0.1 8 j = SM0.1 4 j := fun j hj => by rw [b7 8 (by omega), m4 j hj]; exact p4 j hj
  have c0 : ∀ j, SC0.1 0 j = if j = 13 then -1 else 0 := fun j => by rw [b7 0 (by omega)]; rfl
  have v40 : (sal 0).getD 4 0 = 40 := by decide +kernel
  have v100 : (sal 0).getD 5 0 = 100 := by decide +kernel
  have h0 : ∀ j, j < 5 → SC0.1 32 j = SM0.1 6 j := fun j hj => by
    rw [m6 j hj]
    have : j = 0 ∨ j = 1 ∨ j = 2 ∨ j = 3 ∨ j = 4 := by omega
    rcases this with rfl | rfl | rfl | rfl | rfl
    · exact b2
    · exact b3
    · exact b4
    · rw [b5]; exact (p1 4 (by omega)).trans v40
    · rw [b6]; exact (p1 5 (by omega)).trans v100
  refine ⟨0, 0, ⟨⟨⟨c5, c6, c7, c8⟩, ?_, ?_, ?_, ?_, ?_, ?_, ?_, ?_, ?_, ?_, ?_, ?_⟩, ⟨h0, ?_, ?_, ?_, ?_, ?_, ?_⟩, by omega, ?_, ?_, fun i hi => by omega, Or.inl ?_⟩, ?_, ⟨by omega, ?_, ?_, fun j hj => by omega⟩, ⟨?_, ?_, ?_⟩, ⟨?_, ?_⟩, ⟨?_, ?_⟩⟩
  · rw [m1 0 (by omega)]; exact i0
  · rw [m1 1 (by omega)]; exact i1
  · rw [m1 2 (by omega)]; exact i2
  · rw [m1 3 (by omega)]; exact i3
  · rw [m1 4 (by omega)]; exact i4
  · rw [m1 5 (by omega)]; exact i5
  · rw [m1 6 (by omega)]; exact i6
  · rw [m1 7 (by omega)]; exact i7
  · rw [m1 8 (by omega)]; exact i8
  · intro j hj; rw [m2 j hj]; unfold In; decide
  · intro j hj; rw [m3 j hj]; exact Or.inl rfl
  · intro j hj; rw [m4 j hj]; unfold In; decide
  · rw [m6 0 (by omega)]; unfold In; decide
  · rw [m6 1 (by omega)]; unfold In; decide
  · rw [m6 1 (by omega), m1 1 (by omega)]; decide +kernel
  · rw [m6 2 (by omega)]; unfold In; decide
  · rw [m6 3 (by omega)]; unfold In; decide
  · rw [m6 4 (by omega)]; unfold In; decide
  · rw [c0]; rfl
  · rw [m0 4 (by omega)]; rfl
  · rw [b7 42 (by omega)]; rfl
  · rw [c0, m0 9 (by omega)]; rfl
  · rw [b7 1 (by omega)]; rfl
  · rw [m0 8 (by omega)]; rfl
  · rw [b7 31 (by omega), m0 42 (by omega)]; rfl
  · rw [m0 42 (by omega)]; decide
  · intro j hj; rw [b7 33 (by omega), m17 j hj]; rfl
  · rw [b7 _ (by omega), m19 0 (by omega)]; rfl
  · intro h; exact absurd (m19 0 (by omega)) h
  · rw [b7 _ (by omega), m19 1 (by omega)]; rfl
  · intro h; exact absurd (m19 1 (by omega)) h
