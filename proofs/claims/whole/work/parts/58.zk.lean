theorem PlR.low {S M : ST} (h : PlR S M) : ∀ j, j < 12 → In (M.1 4 j) 0 300 := by
  obtain ⟨p0, pB, pL, pS, pl, pA, pV, pT, pN, ps, pd, pst, plo⟩ := h
  exact plo
theorem may_loop {h : Nat} : ∀ (r i n1 n2 : Nat) (acc : Int32) (S M : ST), i + r = h → r < n1 → r < n2 → QR h S M → ∃ x S' M', lp (fun _ _ _ => none) b_X9_may_4 n1 acc (nI i) S = some (x, S') ∧ lp (fun _ _ _ => none) b_X10_may_4 n2 acc (nI i) M = some (x, M') ∧ SF S S' ∧ MF M M' ∧ PC S' := by
  intro r
  induction r with
  | zero =>
    intro i n1 n2 acc S M hi hn1 hn2 hQ
    obtain ⟨n1, rfl⟩ : ∃ k, n1 = k + 1 := ⟨n1 - 1, by omega⟩
    obtain ⟨n2, rfl⟩ : ∃ k, n2 = k + 1 := ⟨n2 - 1, by omega⟩
    have z : nI h ≤ nI i := nI_le (by omega) (by have := hQ.2.2.1; omega)
    refine ⟨acc, S, M, ?_, ?_, fun _ _ => rfl, ⟨fun _ _ => rfl, fun _ _ => rfl⟩, hQ.2.2.2.2.2.2⟩
    · rw [lp_s]; rw [b_X9_may_4]; rw [hQ.2.2.2.1, if_pos z]
    · rw [lp_s]; rw [b_X10_may_4]; rw [hQ.2.2.2.2.1, if_pos z]
  | succ r ih =>
    intro i n1 n2 acc S M hi hn1 hn2 hQ
    obtain ⟨n1, rfl⟩ : ∃ k, n1 = k + 1 := ⟨n1 - 1, by omega⟩
    obtain ⟨n2, rfl⟩ : ∃ k, n2 = k + 1 := ⟨n2 - 1, by omega⟩
    have z : ¬ nI h ≤ nI i := nI_ge (by omega) (by have := hQ.2.2.1; omega)
    obtain ⟨S1, M1, s, e, mo, q, b1, b2, b3, b4, b5, b6, b7, b8, b9, b10⟩ := ready3 hQ (i := i) (by omega)
    obtain ⟨S2, M2, g, c1, c2, c3, c4, c5⟩ := hasgood_ok b5 b3 b6 b7
    have sf : SF S S2 := b8.tr (SF.off (by omega) c4)
    have mf : MF M M2 := b9.tr (MF.off (by intro j hj; simp at hj; omega) c5)
    have pc : PC S2 := b10.fr (fun k k1 k2 => c4.row (by omega))
    have d1 : lp (fun _ _ _ => none) b_X9_may_4 (n1 + 1) acc (nI i) S = if g = 0 then lp (fun _ _ _ => none) b_X9_may_4 n1 (acc ||| 0) (nI (i + 1)) S2 else lp (fun _ _ _ => none) b_X9_may_4 n1 (acc ||| ((1 : Int32) <<< (nI i &&& 31))) (nI (i + 1)) S2 := by
      rw [lp_s]; rw [b_X9_may_4]; rw [hQ.2.2.2.1, if_neg z, swI hQ (by omega), bn1_some, om_some, b1, bn1_some, c1, bnd_some, nm_x, nm_x, nm_x, nm_x, nI_1]
    have d2 : lp (fun _ _ _ => none) b_X10_may_4 (n2 + 1) acc (nI i) M = if g = 0 then lp (fun _ _ _ => none) b_X10_may_4 n2 (acc ||| 0) (nI (i + 1)) M2 else lp (fun _ _ _ => none) b_X10_may_4 n2 (acc ||| ((1 : Int32) <<< (nI i &&& 31))) (nI (i + 1)) M2 := by
      rw [lp_s]; rw [b_X10_may_4]; rw [hQ.2.2.2.2.1, if_neg z, b2, bn1_some, c2, bnd_some, nm_x, nm_x, nm_x, nm_x, nI_1]
    rw [d1, d2]
    rcases c3 with rfl | rfl
    · rw [if_pos rfl, if_pos rfl]
      obtain ⟨x, S3, M3, x1, x2, x3, x4, x5⟩ := ih (i + 1) n1 n2 (acc ||| 0) S2 M2 (by omega) (by omega) (by omega) (hQ.sm sf mf pc)
      exact ⟨x, S3, M3, x1, x2, sf.tr x3, mf.tr x4, x5⟩
    · rw [if_neg w10, if_neg w10]
      obtain ⟨x, S3, M3, x1, x2, x3, x4, x5⟩ := ih (i + 1) n1 n2 (acc ||| ((1 : Int32) <<< (nI i &&& 31))) S2 M2 (by omega) (by omega) (by omega) (hQ.sm sf mf pc)
      exact ⟨x, S3, M3, x1, x2, sf.tr x3, mf.tr x4, x5⟩
theorem may_ok {h : Nat} {S M : ST} (hQ : QR h S M) : Ans S M (f_X9_may S) (f_X10_may M) := by
  obtain ⟨x, S3, M3, x1, x2, x3, x4, x5⟩ := may_loop h 0 1000 1000 0 S M (by omega) (by have := hQ.2.2.1; omega) (by have := hQ.2.2.1; omega) hQ
  exact ⟨x, S3, M3, x1, x2, x3, x4, x5⟩
/-- another month in hand -/
theorem JP.month {B L A V W G R lo : Int32} {mo : Nat} {S M : ST} (h : JP B L A V W G R lo mo S M) {m : Nat} (hm : m < 12) (hlo : In (M.1 4 m) 0 300) : JP B L A V W G R (M.1 4 m) m (su S 51 3 (M.1 4 m)) (su M 6 0 (nI m)) := by
  obtain ⟨⟨f1, f2, f3, f4, f5, f6, f7, f8, f9, f10, f11, f12, f13, f14, f15, f16, f17⟩, h2, h4, h6, hG, hC⟩ := h
  have o : Off 51 [3] S (su S 51 3 (M.1 4 m)) := Off.rf.su 3 _ (by simp)
  have p : Off 6 [0] M (su M 6 0 (nI m)) := Off.rf.su 0 _ (by simp)
  generalize hS' : su S 51 3 (M.1 4 m) = S' at *
  generalize hM' : su M 6 0 (nI m) = M' at *
  have e3 : S'.1 51 3 = M.1 4 m := by rw [← hS']; simp [su_1]
  have e6 : M'.1 6 0 = nI m := by rw [← hM']; simp [su_1]
  refine ⟨⟨f1.fr (fun k k1 k2 => o.row (by omega)), f2.fr (fun k k1 k2 => o.row (by omega)) (fun k k1 k2 => p.row (by omega)), f3, f4, f5, hlo, ?_, hm, e6, ?_, ?_, ?_, e3, ?_, ?_, ?_, ?_⟩, ?_, ?_, ?_, hG, ?_⟩
  · rw [p.row (k := 2) (by omega)]; exact f7
  · rw [p.row (k := 4) (by omega)]
  · rw [p.row (k := 0) (by omega)]; exact f11
  · rw [p.row (k := 1) (by omega)]; exact f12
  · rw [o.at (by simp)]; exact f14
  · rw [p.row (k := 0) (by omega)]; exact f15
  · rw [o.at (by simp), p.row (k := 0) (by omega)]; exact f16
  · rw [p.row (k := 12) (by omega), p.row (k := 13) (by omega)]; exact f17
  · rw [o.at (by simp), p.row (k := 0) (by omega)]; exact h2
  · rw [o.at (by simp)]; exact h4
  · rw [o.at (by simp)]; exact h6
  · exact fun t ht => (hC t ht).fr (fun k k1 k2 => by rw [p.row (by omega)])
/-- another strength of the rope -/
theorem JP.str {B L A V W G R lo : Int32} {mo : Nat} {S M : ST} (h : JP B L A V W G R lo mo S M) (x : Int32) : JP B L A V W G R lo mo (su S 51 2 x) (su M 0 23 x) := by
  obtain ⟨hF, h2, h4, h6, hG, hC⟩ := h
  have f16 : S.1 51 8 = M.1 0 28 := by
    obtain ⟨f1, f2, f3, f4, f5, f6, f7, f8, f9, f10, f11, f12, f13, f14, f15, f16, f17⟩ := hF
    exact f16
  have o : Off 51 [2] S (su S 51 2 x) := Off.rf.su 2 _ (by simp)
  have p : Off 0 [23] M (su M 0 23 x) := Off.rf.su 23 _ (by simp)
  have e1 : (su S 51 2 x).1 51 2 = x := by simp [su_1]
  have e2 : (su M 0 23 x).1 0 23 = x := by simp [su_1]
  generalize su S 51 2 x = S' at *
  generalize su M 0 23 x = M' at *
  refine ⟨hF.fg (fun k hk => o.row (by omega)) (o.at (by simp)) (o.at (by simp)) (fun k k0 k1 => p.row (by omega)) (p.at (by simp)) (p.at (by simp)) (by rw [o.at (by simp), p.at (by simp)]; exact f16), e1.trans e2.symm, ?_, ?_, hG, ?_⟩
  · rw [o.at (by simp)]; exact h4
  · rw [o.at (by simp)]; exact h6
  · exact fun t ht => (hC t ht).fr (fun k k1 k2 => by rw [p.row (by omega)])
/-- MF but for the month in hand -/
def MF6 (M M' : ST) : Prop := (∀ k j, (0 < k ∧ k < 8) ∨ 15 < k → (k ≠ 6 ∨ j ≠ 0) → M'.1 k j = M.1 k j) ∧ ∀ j, (j < 10 ∨ 41 < j) → M'.1 0 j = M.1 0 j
theorem MF6.tr {S S' S'' : ST} (h : MF6 S S') (h' : MF6 S' S'') : MF6 S S'' := ⟨fun k j hk hj => (h'.1 k j hk hj).trans (h.1 k j hk hj), fun k hk => (h'.2 k hk).trans (h.2 k hk)⟩
theorem MF6.off {js : List Nat} {M M' : ST} (hj : ∀ j, j ∈ js → 10 ≤ j ∧ j ≤ 41) (h : Off 0 js M M') : MF6 M M' := ⟨fun k j hk _ => by rw [h.row (by omega)], fun j hk => h.at (fun q => by have := hj j q; omega)⟩
theorem MF6.six (M : ST) (x : Int32) : MF6 M (su M 6 0 x) := ⟨fun k j hk hj => by
  rw [su_1]
  by_cases a : k = 6
  · rw [if_pos a, if_neg (by omega)]
  · rw [if_neg a], fun j _ => by rw [su_r _ _ _ _ (by omega)]⟩
theorem months_loop {B L A V W G R : Int32} {q : Nat} (hq : q ≤ 20) (v0 : Int32) : ∀ (r m n1 n2 : Nat) (acc lo : Int32) (mo : Nat) (S M : ST), m + r = 12 → r < n1 → r < n2 → JP B L A V W G R lo mo S M → (∀ j, j < 12 → In (M.1 4 j) 0 300) → S.1 51 7 = nI q → M.1 0 27 = nI q →
    ∃ S' M' g, lp (fun _ _ _ => none) b_X9_months_23 n1 acc (nI m) S = some (g, S') ∧ lp (fun _ _ _ _ => none) b_X10_months_28 n2 v0 acc (nI m) M = some (g, su M' 6 0 v0) ∧ (∀ k, k < 51 → S'.1 k = S.1 k) ∧ MF6 M M' := by
  intro r
  induction r with
  | zero =>
    intro m n1 n2 acc lo mo S M hm hn1 hn2 hJ hlo h7 h27
    obtain ⟨n1, rfl⟩ : ∃ k, n1 = k + 1 := ⟨n1 - 1, by omega⟩
    obtain ⟨n2, rfl⟩ : ∃ k, n2 = k + 1 := ⟨n2 - 1, by omega⟩
    have z : (12 : Int32) ≤ nI m := nI_le (a := 12) (by omega) (by omega)
    have m0 : (0 : Int32).toNatClampNeg = 0 := rfl
    refine ⟨S, M, acc, ?_, ?_, fun _ _ => rfl, ⟨fun _ _ _ _ => rfl, fun _ _ => rfl⟩⟩
    · rw [lp_s]; rw [b_X9_months_23]; rw [if_pos z]
    · rw [lp_s]; rw [b_X10_months_28]; rw [if_pos z, nm_x, m0]
  | succ r ih =>
    intro m n1 n2 acc lo mo S M hm hn1 hn2 hJ hlo h7 h27
    obtain ⟨n1, rfl⟩ : ∃ k, n1 = k + 1 := ⟨n1 - 1, by omega⟩
    obtain ⟨n2, rfl⟩ : ∃ k, n2 = k + 1 := ⟨n2 - 1, by omega⟩
    have z : ¬ (12 : Int32) ≤ nI m := nI_ge (b := 12) (by omega) (by omega)
    have m0 : (0 : Int32).toNatClampNeg = 0 := rfl
    have hm2 : m < 12 := by omega
    have pr : PR S M := hJ.1.2.1
    have J1 := hJ.month hm2 (hlo m hm2)
    obtain ⟨T, hT⟩ : ∃ T : ST, T = su S 51 3 (M.1 4 m) := ⟨_, rfl⟩
    obtain ⟨U, hU⟩ : ∃ U : ST, U = su M 6 0 (nI m) := ⟨_, rfl⟩
    rw [← hT, ← hU] at J1
    have oT : Off 51 [3] S T := by rw [hT]; exact Off.rf.su 3 _ (by simp)
    have oU : Off 6 [0] M U := by rw [hU]; exact Off.rf.su 0 _ (by simp)
    have fU : MF6 M U := by rw [hU]; exact MF6.six M _
    obtain ⟨S1, s, e, a1, a2, a3⟩ := rehold J1
    obtain ⟨S2, M2, g, c1, c2, c3, c4, c5⟩ := hasgood_ok hq a2 (by rw [a3.at (by simp), oT.at (by simp)]; exact h7) (by rw [oU.row (k := 0) (by omega)]; exact h27)
    have O2 : Off 51 [9, 10, 11, 12, 13, 14, 15, 16] T S2 := (a3.wd (by intro j hj; simp at hj ⊢; omega)).tr (c4.wd (by intro j hj; simp at hj ⊢; omega))
    have J2 : JP B L A V W G R (M.1 4 m) m S2 M2 := J1.fr O2 c5
    have lw : f_X3_lower (nI m) S = some (M.1 4 m) := by
      unfold f_X3_lower
      rw [at_in 8 S (show m < lnC 8 from hm2), bn1_some, pr.2.2.2 m hm2]
    have d1 : lp (fun _ _ _ => none) b_X9_months_23 (n1 + 1) acc (nI m) S = if g = 0 then lp (fun _ _ _ => none) b_X9_months_23 n1 (acc ||| 0) (nI (m + 1)) S2 else lp (fun _ _ _ => none) b_X9_months_23 n1 (acc ||| ((1 : Int32) <<< (nI m &&& 31))) (nI (m + 1)) S2 := by
      rw [lp_s]; rw [b_X9_months_23]; rw [if_neg z, lw, bn1_some, nm_x, ← hT, a1, bn1_some, c1, bnd_some, nm_x, nm_x, nm_x, nm_x, nI_1]
    have d2 : lp (fun _ _ _ _ => none) b_X10_months_28 (n2 + 1) v0 acc (nI m) M = if g = 0 then lp (fun _ _ _ _ => none) b_X10_months_28 n2 v0 (acc ||| 0) (nI (m + 1)) M2 else lp (fun _ _ _ _ => none) b_X10_months_28 n2 v0 (acc ||| ((1 : Int32) <<< (nI m &&& 31))) (nI (m + 1)) M2 := by
      rw [lp_s]; rw [b_X10_months_28]; rw [if_neg z, nm_x, m0, ← hU, c2, bnd_some, nm_x, nm_x, nm_x, nm_x, nI_1]
    have sK : ∀ k, k < 51 → S2.1 k = S.1 k := fun k hk => (O2.row (by omega)).trans (oT.row (by omega))
    have mK : MF6 M M2 := fU.tr (MF6.off (by intro j hj; simp at hj; omega) c5)
    have l2 : ∀ j, j < 12 → In (M2.1 4 j) 0 300 := by rw [c5.row (k := 4) (by omega), oU.row (k := 4) (by omega)]; exact hlo
    have s7 : S2.1 51 7 = nI q := by rw [O2.at (by simp), oT.at (by simp)]; exact h7
    have m27 : M2.1 0 27 = nI q := by rw [c5.at (by simp), oU.row (k := 0) (by omega)]; exact h27
    rw [d1, d2]
    rcases c3 with rfl | rfl
    · rw [if_pos rfl, if_pos rfl]
      obtain ⟨S3, M3, x, x1, x2, x3, x4⟩ := ih (m + 1) n1 n2 (acc ||| 0) _ _ S2 M2 (by omega) (by omega) (by omega) J2 l2 s7 m27
      exact ⟨S3, M3, x, x1, x2, fun k hk => (x3 k hk).trans (sK k hk), mK.tr x4⟩
    · rw [if_neg w10, if_neg w10]
      obtain ⟨S3, M3, x, x1, x2, x3, x4⟩ := ih (m + 1) n1 n2 (acc ||| ((1 : Int32) <<< (nI m &&& 31))) _ _ S2 M2 (by omega) (by omega) (by omega) J2 l2 s7 m27
      exact ⟨S3, M3, x, x1, x2, fun k hk => (x3 k hk).trans (sK k hk), mK.tr x4⟩
theorem months_ok {h : Nat} {S M : ST} (hQ : QR h S M) (a1 : Int32) : Ans S M (f_X9_months a1 S) (f_X10_months a1 M) := by
  have hPC := hQ.2.2.2.2.2.2
  have m0 : (0 : Int32).toNatClampNeg = 0 := rfl
  unfold f_X9_months f_X10_months
  rcases swB hQ a1 with ⟨i, hi, hi8, rfl, e1, e2⟩ | ⟨e1, e2⟩
  · rw [e1, e2, bn1_some, bn1_some, om_some, if_neg w10]
    obtain ⟨S1, M1, s, e, mo, q, b1, b2, b3, b4, b5, b6, b7, b8, b9, b10⟩ := ready3 hQ hi
    obtain ⟨S2, M2, g, c1, c2, c3, c4⟩ := months_loop b5 (M1.1 6 0) 12 0 1000 1000 0 _ mo S1 M1 (by omega) (by omega) (by omega) b4 (by rw [b9.1 4 (by omega)]; exact hQ.1.low) b6 b7
    have c1' : lp (fun _ _ _ => none) b_X9_months_23 1000 (0 : Int32) (0 : Int32) S1 = some (g, S2) := c1
    have c2' : lp (fun _ _ _ _ => none) b_X10_months_28 1000 (M1.1 6 0) (0 : Int32) (0 : Int32) M1 = some (g, su M2 6 0 (M1.1 6 0)) := c2
    rw [b1, b2, bn1_some, bn1_some, nm_x, m0, c1', c2']
    have mf : MF M1 (su M2 6 0 (M1.1 6 0)) := by
      refine ⟨fun k hk => funext fun j => ?_, fun j hj => ?_⟩
      · rw [su_1]
        by_cases a : k = 6
        · rw [if_pos a]
          by_cases b : j = 0
          · rw [if_pos b, a, b]
          · rw [if_neg b]; exact c4.1 k j hk (Or.inr b)
        · rw [if_neg a]; exact c4.1 k j hk (Or.inl a)
      · rw [su_r _ _ _ _ (by omega)]; exact c4.2 j hj
    exact Ans.of _ (b8.tr (fun k hk => c3 k (by omega))) (b9.tr mf) (b10.fr (fun k k1 k2 => c3 k (by omega)))
  · rw [e1, e2, bn1_some, bn1_some, om_none, if_pos rfl]; exact Ans.same hPC _
theorem age_loop {B L A V W G R lo : Int32} {mo q : Nat} (hq : q ≤ 20) : ∀ (r y n1 n2 : Nat) (S M : ST), y + r = 41 → r < n1 → r < n2 → JP B L A V W G R lo mo S M → S.1 51 7 = nI q → M.1 0 27 = nI q →
    ∃ S' M' g, lp (fun _ _ => none) b_X9_age_20 n1 (nI y) S = some (g, S') ∧ lp (fun _ _ => none) b_X10_age_18 n2 (nI y) M = some (g, M') ∧ (∀ k, k < 51 → S'.1 k = S.1 k) ∧ MF M M' := by
  intro r
  induction r with
  | zero =>
    intro y n1 n2 S M hy hn1 hn2 hJ h7 h27
    obtain ⟨n1, rfl⟩ : ∃ k, n1 = k + 1 := ⟨n1 - 1, by omega⟩
    obtain ⟨n2, rfl⟩ : ∃ k, n2 = k + 1 := ⟨n2 - 1, by omega⟩
    have z : (40 : Int32) < nI y := nI_lt (a := 40) (by omega) (by omega)
    refine ⟨S, M, -1, ?_, ?_, fun _ _ => rfl, ⟨fun _ _ => rfl, fun _ _ => rfl⟩⟩
    · rw [lp_s]; rw [b_X9_age_20]; rw [if_pos z]
    · rw [lp_s]; rw [b_X10_age_18]; rw [if_pos z]
  | succ r ih =>
    intro y n1 n2 S M hy hn1 hn2 hJ h7 h27
    obtain ⟨n1, rfl⟩ : ∃ k, n1 = k + 1 := ⟨n1 - 1, by omega⟩
    obtain ⟨n2, rfl⟩ : ∃ k, n2 = k + 1 := ⟨n2 - 1, by omega⟩
    have z : ¬ (40 : Int32) < nI y := nI_nlt (a := 40) (by omega) (by omega)
    have pr : PR S M := hJ.1.2.1
    have J1 := hJ.str (stg (M.1 1 2) (M.1 1 3) y)
    obtain ⟨T, hT⟩ : ∃ T : ST, T = su S 51 2 (stg (M.1 1 2) (M.1 1 3) y) := ⟨_, rfl⟩
    obtain ⟨U, hU⟩ : ∃ U : ST, U = su M 0 23 (stg (M.1 1 2) (M.1 1 3) y) := ⟨_, rfl⟩
    rw [← hT, ← hU] at J1
    have oT : Off 51 [2] S T := by rw [hT]; exact Off.rf.su 2 _ (by simp)
    have oU : Off 0 [23] M U := by rw [hU]; exact Off.rf.su 23 _ (by simp)
    obtain ⟨S1, s, e, a1, a2, a3⟩ := rehold J1
    obtain ⟨S2, M2, g, c1, c2, c3, c4, c5⟩ := hasgood_ok hq a2 (by rw [a3.at (by simp), oT.at (by simp)]; exact h7) (by rw [oU.at (by simp)]; exact h27)
    have O2 : Off 51 [9, 10, 11, 12, 13, 14, 15, 16] T S2 := (a3.wd (by intro j hj; simp at hj ⊢; omega)).tr (c4.wd (by intro j hj; simp at hj ⊢; omega))
    have J2 : JP B L A V W G R lo mo S2 M2 := J1.fr O2 c5
    have st1 : f_X9_strengthAfter (nI y) S = some (stg (M.1 1 2) (M.1 1 3) y) := by rw [stC S (by omega), pr.1 2 (by omega), pr.1 3 (by omega)]
    have d1 : lp (fun _ _ => none) b_X9_age_20 (n1 + 1) (nI y) S = if g = 0 then some (nI y, S2) else lp (fun _ _ => none) b_X9_age_20 n1 (nI (y + 1)) S2 := by
      rw [lp_s]; rw [b_X9_age_20]; rw [if_neg z, st1, bn1_some, nm_x, ← hT, a1, bn1_some, c1, bnd_some, nm_x, nI_1]
    have d2 : lp (fun _ _ => none) b_X10_age_18 (n2 + 1) (nI y) M = if g = 0 then some (nI y, M2) else lp (fun _ _ => none) b_X10_age_18 n2 (nI (y + 1)) M2 := by
      rw [lp_s]; rw [b_X10_age_18]; rw [if_neg z, stM M (by omega), bn1_some, nm_x, ← hU, c2, bnd_some, nm_x, nI_1]
    have sK : ∀ k, k < 51 → S2.1 k = S.1 k := fun k hk => (O2.row (by omega)).trans (oT.row (by omega))
    have mK : MF M M2 := (MF.off (by intro j hj; simp at hj; omega) oU).tr (MF.off (by intro j hj; simp at hj; omega) c5)
    have s7 : S2.1 51 7 = nI q := by rw [O2.at (by simp), oT.at (by simp)]; exact h7
    have m27 : M2.1 0 27 = nI q := by rw [c5.at (by simp), oU.at (by simp)]; exact h27
    rw [d1, d2]
    rcases c3 with rfl | rfl
    · rw [if_pos rfl, if_pos rfl]
      exact ⟨S2, M2, nI y, rfl, rfl, sK, mK⟩
    · rw [if_neg w10, if_neg w10]
      obtain ⟨S3, M3, x, x1, x2, x3, x4⟩ := ih (y + 1) n1 n2 S2 M2 (by omega) (by omega) (by omega) J2 s7 m27
      exact ⟨S3, M3, x, x1, x2, fun k hk => (x3 k hk).trans (sK k hk), mK.tr x4⟩
theorem age_ok {h : Nat} {S M : ST} (hQ : QR h S M) (a1 : Int32) : Ans S M (f_X9_age a1 S) (f_X10_age a1 M) := by
  have hPC := hQ.2.2.2.2.2.2
  unfold f_X9_age f_X10_age
  rcases swB hQ a1 with ⟨i, hi, hi8, rfl, e1, e2⟩ | ⟨e1, e2⟩
  · rw [e1, e2, bn1_some, bn1_some, om_some, if_neg w10]
    obtain ⟨S1, M1, s, e, mo, q, b1, b2, b3, b4, b5, b6, b7, b8, b9, b10⟩ := ready3 hQ hi
    obtain ⟨S2, M2, g, c1, c2, c3, c4⟩ := age_loop b5 41 0 1000 1000 S1 M1 (by omega) (by omega) (by omega) b4 b6 b7
    have c1' : lp (fun _ _ => none) b_X9_age_20 1000 (0 : Int32) S1 = some (g, S2) := c1
    have c2' : lp (fun _ _ => none) b_X10_age_18 1000 (0 : Int32) M1 = some (g, M2) := c2
    rw [b1, b2, bn1_some, bn1_some, c1', c2']
    exact Ans.of _ (b8.tr (fun k hk => c3 k (by omega))) (b9.tr c4) (b10.fr (fun k k1 k2 => c3 k (by omega)))
  · rw [e1, e2, bn1_some, bn1_some, om_none, if_pos rfl]; exact Ans.same hPC _
theorem JR.turn {B L A V W G R lo : Int32} {mo s : Nat} {e : Int32} {S M : ST} (hJ : JR B L A V W G R lo mo s e S M) (x : Int32) : JR B L A V W G R lo mo s e (su S 51 8 x) (su M 0 28 x) := by
  have o : Off 51 [8] S (su S 51 8 x) := Off.rf.su 8 _ (by simp)
  have p : Off 0 [28] M (su M 0 28 x) := Off.rf.su 28 _ (by simp)
  exact hJ.fg (fun k hk => o.row (by omega)) (o.at (by simp)) (o.at (by simp)) (o.at (by simp)) (o.at (by simp)) (fun k k0 k1 => p.row (by omega)) (p.at (by simp)) (p.at (by simp)) (p.at (by simp)) (by simp [su_1])
theorem turn_loop {B L A V W G R lo : Int32} {mo s q t : Nat} {e : Int32} (hq : q ≤ 20) (t1 : 1 ≤ t) (t2 : t ≤ 200) : ∀ (r y n1 n2 : Nat) (S M : ST), y + r = 37 → r < n1 → r < n2 → JR B L A V W G R lo mo s e S M → S.1 51 7 = nI q → M.1 0 27 = nI q →
    ∃ S' M' g, lp (fun _ _ _ => none) b_X9_turn_38 n1 (nI t) (nI y) S = some (g, S') ∧ lp (fun _ _ _ => none) b_X10_turn_28 n2 (nI t) (nI y) M = some (g, M') ∧ (∀ k, k < 51 → S'.1 k = S.1 k) ∧ MF M M' := by
  intro r
  induction r with
  | zero =>
    intro y n1 n2 S M hy hn1 hn2 hJ h7 h27
    obtain ⟨n1, rfl⟩ : ∃ k, n1 = k + 1 := ⟨n1 - 1, by omega⟩
    obtain ⟨n2, rfl⟩ : ∃ k, n2 = k + 1 := ⟨n2 - 1, by omega⟩
    have z : (36 : Int32) < nI y := nI_lt (a := 36) (by omega) (by omega)
    refine ⟨S, M, -1, ?_, ?_, fun _ _ => rfl, ⟨fun _ _ => rfl, fun _ _ => rfl⟩⟩
    · rw [lp_s]; rw [b_X9_turn_38]; rw [most4, bn1_some, if_pos z]
    · rw [lp_s]; rw [b_X10_turn_28]; rw [if_pos z]
  | succ r ih =>
    intro y n1 n2 S M hy hn1 hn2 hJ h7 h27
    obtain ⟨n1, rfl⟩ : ∃ k, n1 = k + 1 := ⟨n1 - 1, by omega⟩
    obtain ⟨n2, rfl⟩ : ∃ k, n2 = k + 1 := ⟨n2 - 1, by omega⟩
    have z : ¬ (36 : Int32) < nI y := nI_nlt (a := 36) (by omega) (by omega)
    have J1 := hJ.turn (nI y)
    obtain ⟨T, hT⟩ : ∃ T : ST, T = su S 51 8 (nI y) := ⟨_, rfl⟩
    obtain ⟨U, hU⟩ : ∃ U : ST, U = su M 0 28 (nI y) := ⟨_, rfl⟩
    rw [← hT, ← hU] at J1
    have oT : Off 51 [8] S T := by rw [hT]; exact Off.rf.su 8 _ (by simp)
    have oU : Off 0 [28] M U := by rw [hU]; exact Off.rf.su 28 _ (by simp)
    have T7 : T.1 51 7 = nI q := by rw [oT.at (by simp)]; exact h7
    have U27 : U.1 0 27 = nI q := by rw [oU.at (by simp)]; exact h27
    obtain ⟨S2, M2, c1, c2, ⟨o1, o2, l1, l2, l3, l4, l5, l6⟩, -⟩ := letgo_ok J1 J1.1.2.2.1.1 J1.1.2.2.1.2.1 trivial (τ := t + q) (by omega) (by omega) (nI t) (by rw [U27, nI_add])
    have J2 : JR B L A V W G R lo mo s e S2 M2 := J1.fr o1.lo51.1 o1.lo51.2 o2.lo0.1 o2.lo0.2
    have d1 : lp (fun _ _ _ => none) b_X9_turn_38 (n1 + 1) (nI t) (nI y) S = if M2.1 0 33 = 2 then some (nI y, S2) else lp (fun _ _ _ => none) b_X9_turn_38 n1 (nI t) (nI (y + 1)) S2 := by
      rw [lp_s]; rw [b_X9_turn_38]; rw [most4, bn1_some, if_neg z, nm_x, ← hT, T7, nI_add, c1, bn1_some, l1, nm_x, nI_1]
    have d2 : lp (fun _ _ _ => none) b_X10_turn_28 (n2 + 1) (nI t) (nI y) M = if M2.1 0 33 = 2 then some (nI y, M2) else lp (fun _ _ _ => none) b_X10_turn_28 n2 (nI t) (nI (y + 1)) M2 := by
      rw [lp_s]; rw [b_X10_turn_28]; rw [if_neg z, nm_x, ← hU, c2, bn1_some, nm_x, nI_1]
    have sK : ∀ k, k < 51 → S2.1 k = S.1 k := fun k hk => (o1.row (by omega)).trans (oT.row (by omega))
    have mK : MF M M2 := (MF.off (by intro j hj; simp at hj; omega) oU).tr (MF.off (by intro j hj; simp at hj; omega) o2)
    rw [d1, d2]
    by_cases w : M2.1 0 33 = 2
    · rw [if_pos w, if_pos w]
      exact ⟨S2, M2, nI y, rfl, rfl, sK, mK⟩
    · rw [if_neg w, if_neg w]
      obtain ⟨S3, M3, x, x1, x2, x3, x4⟩ := ih (y + 1) n1 n2 S2 M2 (by omega) (by omega) (by omega) J2 (by rw [o1.at (by simp)]; exact T7) (by rw [o2.at (by simp)]; exact U27)
      exact ⟨S3, M3, x, x1, x2, fun k hk => (x3 k hk).trans (sK k hk), mK.tr x4⟩
theorem turn_ok {h : Nat} {S M : ST} (hQ : QR h S M) (a1 a2 : Int32) : Ans S M (f_X9_turn a1 a2 S) (f_X10_turn a1 a2 M) := by
  have hPC := hQ.2.2.2.2.2.2
  unfold f_X9_turn f_X10_turn
  rcases swB hQ a1 with ⟨i, hi, hi8, rfl, e1, e2⟩ | ⟨e1, e2⟩
  · rw [e1, e2, bn1_some, bn1_some, om_some, if_neg w10, isTimeC, isTimeM, bn1_some, bn1_some]
    by_cases p : 1 ≤ a2.toInt ∧ a2.toInt ≤ 200
    · rw [if_pos p, if_neg w10, if_neg w10]
      obtain ⟨t, t1, t2, rfl⟩ := n_in (a := 1) (b := 200) p.1 p.2
      obtain ⟨S1, M1, s, e, mo, q, b1, b2, b3, b4, b5, b6, b7, b8, b9, b10⟩ := ready3 hQ hi
      obtain ⟨S2, M2, g, c1, c2, c3, c4⟩ := turn_loop b5 t1 t2 37 0 1000 1000 S1 M1 (by omega) (by omega) (by omega) b3 b6 b7
      have c1' : lp (fun _ _ _ => none) b_X9_turn_38 1000 (nI t) (0 : Int32) S1 = some (g, S2) := c1
      have c2' : lp (fun _ _ _ => none) b_X10_turn_28 1000 (nI t) (0 : Int32) M1 = some (g, M2) := c2
      rw [b1, b2, bn1_some, bn1_some, least4, bn1_some, c1', c2']
      exact Ans.of _ (b8.tr (fun k hk => c3 k (by omega))) (b9.tr c4) (b10.fr (fun k k1 k2 => c3 k (by omega)))
    · rw [if_neg p, if_pos rfl, if_pos rfl]; exact Ans.same hPC _
  · rw [e1, e2, bn1_some, bn1_some, om_none, if_pos rfl]; exact Ans.same hPC _
