/-- behind each TICK: ANGLE and PACE -/
def trs (L A V : Int32) : Nat → Int32 × Int32
  | 0 => (-1000 * A, 2865 * V / L)
  | t + 1 => ((trs L A V t).1 + ((trs L A V t).2 - 140 * sn ((trs L A V t).1 / 100) / L), (trs L A V t).2 - 140 * sn ((trs L A V t).1 / 100) / L)
def hxs (L : Int32) (a : Int32) : Int32 := L * sn (a / 100) / 1000
def hhs (B L : Int32) (a : Int32) : Int32 := B - L * cs (a / 100) / 1000
def lds (L : Int32) (q : Int32 × Int32) : Int32 := cs (q.1 / 100) / 10 + (q.2.toInt64 * q.2.toInt64 * L.toInt64 / 80500000).toInt32
def acs (L : Int32) (q : Int32 × Int32) : Int32 := q.2 * L / 573 * cs (q.1 / 100) / 1000
def ups (L : Int32) (q : Int32 × Int32) : Int32 := q.2 * L / 573 * sn (q.1 / 100) / 1000
def Fr (lo hi : Nat) (S S' : ST) : Prop := ∀ k, (k < lo ∨ hi < k) → S'.1 k = S.1 k
theorem Fr.rf {lo hi : Nat} {S : ST} : Fr lo hi S S := fun _ _ => rfl
theorem Fr.tr {lo hi : Nat} {S S' S'' : ST} (h : Fr lo hi S S') (h' : Fr lo hi S' S'') : Fr lo hi S S'' := fun k q => (h' k q).trans (h k q)
theorem Fr.wd {lo hi lo' hi' : Nat} {S S' : ST} (h : Fr lo hi S S') (h1 : lo' ≤ lo) (h2 : hi ≤ hi') : Fr lo' hi' S S' := fun k q => h k (by omega)
theorem Fr.su {lo hi : Nat} {S S' : ST} (h : Fr lo hi S S') {k : Nat} (j : Nat) (v : Int32) (h1 : lo ≤ k) (h2 : k ≤ hi) : Fr lo hi S (su S' k j v) := fun k' q => (su_r S' k j v (by omega)).trans (h k' q)
theorem beginC (k : Nat) (L A V : Int32) (S : ST) (hL : ¬ L = 0) : f_X2_begin k L A V S = some (su (su (su S k 0 L) k 1 (-1000 * A)) k 2 (2865 * V / L)) := by
  unfold f_X2_begin
  simp only [nm_x]
  have e : (su (su S k 0 L) k 1 (-1000 * A)).1 k 0 = L := by simp [su_1]
  rw [e, quotC hL, bn1_some]
theorem swingC (k : Nat) (L : Int32) (S : ST) (hL : ¬ L = 0) (h0 : S.1 k 0 = L) : f_X2_swing k S = some (su (su S k 2 (S.1 k 2 - 140 * sn (S.1 k 1 / 100) / L)) k 1 (S.1 k 1 + (S.1 k 2 - 140 * sn (S.1 k 1 / 100) / L))) := by
  unfold f_X2_swing
  rw [sineC, bn1_some, h0, quotC hL, bn1_some]
  simp only [nm_x]
  have e1 : ∀ v, (su S k 2 v).1 k 1 = S.1 k 1 := fun v => by simp [su_1]
  have e2 : ∀ v, (su S k 2 v).1 k 2 = v := fun v => by simp [su_1]
  rw [e1, e2]
/-- the pendulum behind a TICK -/
def PD (k : Nat) (L A V : Int32) (t : Nat) (S : ST) : Prop := S.1 k 0 = L ∧ S.1 k 1 = (trs L A V t).1 ∧ S.1 k 2 = (trs L A V t).2
theorem begin_ok (k : Nat) (L A V : Int32) (S : ST) (hL : ¬ L = 0) : ∃ S', f_X2_begin k L A V S = some S' ∧ PD k L A V 0 S' ∧ ∀ k', k' ≠ k → S'.1 k' = S.1 k' := by
  refine ⟨_, beginC k L A V S hL, ⟨by simp [su_1], by simp [su_1, trs], by simp [su_1, trs]⟩, fun k' h => ?_⟩
  rw [su_r _ _ _ _ h, su_r _ _ _ _ h, su_r _ _ _ _ h]
theorem swing_ok (k : Nat) {L A V : Int32} {t : Nat} {S : ST} (hL : ¬ L = 0) (h : PD k L A V t S) : ∃ S', f_X2_swing k S = some S' ∧ PD k L A V (t + 1) S' ∧ ∀ k', k' ≠ k → S'.1 k' = S.1 k' := by
  obtain ⟨h0, h1, h2⟩ := h
  refine ⟨_, swingC k L S hL h0, ⟨by simp [su_1, h0], by simp [su_1, trs, h1, h2], by simp [su_1, trs, h1, h2]⟩, fun k' h => ?_⟩
  rw [su_r _ _ _ _ h, su_r _ _ _ _ h]
/-- one column of the path -/
def Col (B L : Int32) (q : Int32 × Int32) (t : Nat) (S : ST) : Prop := S.1 44 t = q.1 ∧ S.1 45 t = q.2 ∧ S.1 46 t = hxs L q.1 ∧ S.1 47 t = hhs B L q.1 ∧ S.1 48 t = lds L q ∧ S.1 49 t = acs L q ∧ S.1 50 t = ups L q
theorem cosC (a : Int32) : f_X9_sineOf (900 - sz a) = some (cs a) := sineC _
theorem note_ok {B L A V : Int32} {t : Nat} {S : ST} (ht : t < 201) (h : PD 43 L A V t S) (hB : S.1 42 9 = B) (hL : S.1 42 10 = L) : ∃ S', f_X1_note (nI t) S = some S' ∧ Col B L (trs L A V t) t S' ∧ (∀ k j, (k < 44 ∨ 50 < k ∨ j ≠ t) → S'.1 k j = S.1 k j) := by
  obtain ⟨h0, h1, h2⟩ := h
  have l1 : t < lnC 44 := ht
  have l2 : t < lnC 45 := ht
  have l3 : t < lnC 46 := ht
  have l4 : t < lnC 47 := ht
  have l5 : t < lnC 48 := ht
  have l6 : t < lnC 49 := ht
  have l7 : t < lnC 50 := ht
  unfold f_X1_note
  rw [sineC, bn1_some, sizeC, bn1_some, cosC, bn1_some]
  simp only [nm_x]
  rw [put_in _ _ _ l1, bn1_some, put_in _ _ _ l2, bn1_some, put_in _ _ _ l3, bn1_some, put_in _ _ _ l4, bn1_some, put_in _ _ _ l5, bn1_some, put_in _ _ _ l6, bn1_some, put_in _ _ _ l7, bn1_some]
  refine ⟨_, rfl, ⟨?_, ?_, ?_, ?_, ?_, ?_, ?_⟩, fun k j hk => ?_⟩
  · simp [su_1, h1]
  · simp [su_1, h2]
  · simp [su_1, hL, h1, hxs]
  · simp [su_1, hL, hB, h1, hhs]
  · simp [su_1, hL, h1, h2, lds]
  · simp [su_1, hL, h1, h2, acs]
  · simp [su_1, hL, h1, h2, ups]
  · simp only [su_1]
    rcases hk with hk | hk | hk
    · rw [if_neg (by omega), if_neg (by omega), if_neg (by omega), if_neg (by omega), if_neg (by omega), if_neg (by omega), if_neg (by omega)]
    · rw [if_neg (by omega), if_neg (by omega), if_neg (by omega), if_neg (by omega), if_neg (by omega), if_neg (by omega), if_neg (by omega)]
    · simp [hk]
/-- the path is traced for these -/
def PathOK (B L A V : Int32) (S : ST) : Prop := S.1 42 8 = 1 ∧ S.1 42 9 = B ∧ S.1 42 10 = L ∧ S.1 42 11 = A ∧ S.1 42 12 = V ∧ ∀ t, t < 201 → Col B L (trs L A V t) t S
theorem Col.fr {B L : Int32} {q : Int32 × Int32} {t : Nat} {S S' : ST} (h : Col B L q t S) (e : ∀ k, 44 ≤ k → k ≤ 50 → S'.1 k t = S.1 k t) : Col B L q t S' := by
  obtain ⟨h1, h2, h3, h4, h5, h6, h7⟩ := h
  exact ⟨(e 44 (by omega) (by omega)).trans h1, (e 45 (by omega) (by omega)).trans h2, (e 46 (by omega) (by omega)).trans h3, (e 47 (by omega) (by omega)).trans h4, (e 48 (by omega) (by omega)).trans h5, (e 49 (by omega) (by omega)).trans h6, (e 50 (by omega) (by omega)).trans h7⟩
theorem PathOK.fr {B L A V : Int32} {S S' : ST} (h : PathOK B L A V S) (e : ∀ k, 42 ≤ k → k ≤ 50 → S'.1 k = S.1 k) : PathOK B L A V S' := by
  obtain ⟨h1, h2, h3, h4, h5, h6⟩ := h
  refine ⟨by rw [e 42 (by omega) (by omega)]; exact h1, by rw [e 42 (by omega) (by omega)]; exact h2, by rw [e 42 (by omega) (by omega)]; exact h3, by rw [e 42 (by omega) (by omega)]; exact h4, by rw [e 42 (by omega) (by omega)]; exact h5, fun t ht => (h6 t ht).fr (fun k k1 k2 => by rw [e k (by omega) k2])⟩
/-- the kept path is right, if it is there -/
def PC (S : ST) : Prop := S.1 42 8 = 0 ∨ PathOK (S.1 42 9) (S.1 42 10) (S.1 42 11) (S.1 42 12) S
theorem PC.fr {S S' : ST} (h : PC S) (e : ∀ k, 42 ≤ k → k ≤ 50 → S'.1 k = S.1 k) : PC S' := by
  rcases h with h | h
  · exact Or.inl (by rw [e 42 (by omega) (by omega)]; exact h)
  · refine Or.inr ?_
    rw [e 42 (by omega) (by omega)]
    exact h.fr e
theorem PathOK.pc {B L A V : Int32} {S : ST} (h : PathOK B L A V S) : PC S := by
  obtain ⟨h1, h2, h3, h4, h5, h6⟩ := id h
  refine Or.inr ?_
  rw [h2, h3, h4, h5]
  exact h
theorem trace_loop {B L A V : Int32} (hL : ¬ L = 0) : ∀ (r t n : Nat) (S : ST), t + r = 201 → 1 ≤ t → r < n → PD 43 L A V (t - 1) S → S.1 42 8 = 1 → S.1 42 9 = B → S.1 42 10 = L → S.1 42 11 = A → S.1 42 12 = V → (∀ u, u < t → Col B L (trs L A V u) u S) → ∃ S', lp (fun _ _ => none) b_X1_trace_94 n (nI t) S = some S' ∧ PathOK B L A V S' ∧ Fr 42 50 S S' := by
  intro r
  induction r with
  | zero =>
    intro t n S ht h1 hn hP e8 e9 e10 e11 e12 hC
    obtain ⟨n, rfl⟩ : ∃ k, n = k + 1 := ⟨n - 1, by omega⟩
    rw [lp_s]
    unfold b_X1_trace_94
    rw [if_pos (show (200 : Int32) < nI t from nI_lt (a := 200) (by omega) (by omega))]
    exact ⟨S, rfl, ⟨e8, e9, e10, e11, e12, fun u hu => hC u (by omega)⟩, Fr.rf⟩
  | succ r ih =>
    intro t n S ht h1 hn hP e8 e9 e10 e11 e12 hC
    obtain ⟨n, rfl⟩ : ∃ k, n = k + 1 := ⟨n - 1, by omega⟩
    obtain ⟨S1, q1, P1, F1⟩ := swing_ok 43 hL hP
    rw [show t - 1 + 1 = t by omega] at P1
    obtain ⟨S2, q2, C2, F2⟩ := note_ok (B := B) (t := t) (by omega) P1 (by rw [F1 42 (by omega)]; exact e9) (by rw [F1 42 (by omega)]; exact e10)
    have P2 : PD 43 L A V t S2 := ⟨by rw [F2 43 0 (by omega)]; exact P1.1, by rw [F2 43 1 (by omega)]; exact P1.2.1, by rw [F2 43 2 (by omega)]; exact P1.2.2⟩
    have E42 : ∀ j, S2.1 42 j = S.1 42 j := fun j => by rw [F2 42 j (by omega), F1 42 (by omega)]
    obtain ⟨S3, q3, O3, F3⟩ := ih (t + 1) n S2 (by omega) (by omega) (by omega) P2 (by rw [E42]; exact e8) (by rw [E42]; exact e9) (by rw [E42]; exact e10) (by rw [E42]; exact e11) (by rw [E42]; exact e12) (fun u hu => by
      by_cases hut : u = t
      · subst hut; exact C2
      · exact (hC u (by omega)).fr (fun k k1 k2 => by rw [F2 k u (by omega), F1 k (by omega)]))
    refine ⟨S3, ?_, O3, fun k hk => ?_⟩
    · rw [lp_s]
      unfold b_X1_trace_94
      rw [if_neg (show ¬ (200 : Int32) < nI t from nI_nlt (a := 200) (by omega) (by omega)), q1, bn1_some, q2, bn1_some, nm_x, nI_1]
      exact q3
    · rw [F3 k hk]
      funext j
      rw [F2 k j (by omega), F1 k (by omega)]
theorem trace41_ok {B L A V : Int32} (hL : ¬ L = 0) (S : ST) : ∃ S', b_X1_trace_41 B L A V S = some S' ∧ PathOK B L A V S' ∧ Fr 42 50 S S' := by
  unfold b_X1_trace_41
  simp only [nm_x]
  obtain ⟨S0, hS0⟩ : ∃ T, T = su (su (su (su (su S 42 8 1) 42 9 B) 42 10 L) 42 11 A) 42 12 V := ⟨_, rfl⟩
  have e8 : S0.1 42 8 = 1 := by rw [hS0]; simp [su_1]
  have e9 : S0.1 42 9 = B := by rw [hS0]; simp [su_1]
  have e10 : S0.1 42 10 = L := by rw [hS0]; simp [su_1]
  have e11 : S0.1 42 11 = A := by rw [hS0]; simp [su_1]
  have e12 : S0.1 42 12 = V := by rw [hS0]; simp [su_1]
  have F0 : Fr 42 50 S S0 := by
    rw [hS0]
    exact ((((Fr.rf.su 8 1 (by omega) (by omega)).su 9 B (by omega) (by omega)).su 10 L (by omega) (by omega)).su 11 A (by omega) (by omega)).su 12 V (by omega) (by omega)
  rw [← hS0, e10, e11, e12]
  obtain ⟨S1, q1, P1, F1⟩ := begin_ok 43 L A V S0 hL
  have E1 : ∀ j, S1.1 42 j = S0.1 42 j := fun j => by rw [F1 42 (by omega)]
  obtain ⟨S2, q2, C2, F2⟩ := note_ok (B := B) (t := 0) (by omega) P1 (by rw [E1]; exact e9) (by rw [E1]; exact e10)
  have E2 : ∀ j, S2.1 42 j = S0.1 42 j := fun j => by rw [F2 42 j (by omega), E1]
  have P2 : PD 43 L A V 0 S2 := ⟨by rw [F2 43 0 (by omega)]; exact P1.1, by rw [F2 43 1 (by omega)]; exact P1.2.1, by rw [F2 43 2 (by omega)]; exact P1.2.2⟩
  obtain ⟨S3, q3, O3, F3⟩ := trace_loop (B := B) hL 200 1 1000 S2 (by omega) (by omega) (by omega) P2 (by rw [E2]; exact e8) (by rw [E2]; exact e9) (by rw [E2]; exact e10) (by rw [E2]; exact e11) (by rw [E2]; exact e12) (fun u hu => by
    have : u = 0 := by omega
    subst this; exact C2)
  refine ⟨S3, ?_, O3, fun k hk => ?_⟩
  · rw [q1, bn1_some]
    rw [show (0 : Int32) = nI 0 from rfl, q2, bn1_some]
    exact q3
  · rw [F3 k hk]
    funext j
    rw [F2 k j (by omega), F1 k (by omega), F0 k hk]
theorem trace_ok {B L A V : Int32} (hL : ¬ L = 0) {S : ST} (h : PC S) : ∃ S', f_X1_trace B L A V S = some S' ∧ PathOK B L A V S' ∧ Fr 42 50 S S' := by
  have g := trace41_ok (B := B) (A := A) (V := V) hL S
  unfold f_X1_trace
  by_cases q : S.1 42 8 = 0
  · rw [if_pos q]; exact g
  rw [if_neg q]
  by_cases q1 : S.1 42 9 = B
  · rw [if_pos q1]
    by_cases q2 : S.1 42 10 = L
    · rw [if_pos q2]
      by_cases q3 : S.1 42 11 = A
      · rw [if_pos q3]
        by_cases q4 : S.1 42 12 = V
        · rw [if_pos q4]
          rcases h with h | h
          · exact absurd h q
          · rw [q1, q2, q3, q4] at h
            exact ⟨S, rfl, h, Fr.rf⟩
        · rw [if_neg q4]; exact g
      · rw [if_neg q3]; exact g
    · rw [if_neg q2]; exact g
  · rw [if_neg q1]; exact g
