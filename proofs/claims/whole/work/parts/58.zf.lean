theorem w10 : ¬ (1 : Int32) = 0 := by decide
theorem n_in {x : Int32} {a b : Nat} (h : (a : Int) ≤ x.toInt) (h2 : x.toInt ≤ (b : Int)) : ∃ n, a ≤ n ∧ n ≤ b ∧ x = nI n := by
  obtain ⟨e1, e2⟩ := n_of (x := x) (by omega)
  exact ⟨x.toNatClampNeg, by omega, by omega, e1⟩
theorem wiC (a : Int32) {lo hi : Int32} {p q : Int} (h1 : lo.toInt = p) (h2 : hi.toInt = q) : f_X9_within a lo hi = some (if p ≤ a.toInt ∧ a.toInt ≤ q then 1 else 0) := by
  rw [withinC, h1, h2]
theorem wiM (a : Int32) {lo hi : Int64} {p q : Int} (h1 : lo.toInt = p) (h2 : hi.toInt = q) : f_X10_in a.toInt64 lo hi = some (if p ≤ a.toInt ∧ a.toInt ≤ q then 1 else 0) := by
  rw [inM, h1, h2, tl_i]
/-- one who swings, or none, in both -/
theorem swB {h : Nat} {S M : ST} (hQ : QR h S M) (a : Int32) : (∃ i, i < h ∧ i < 8 ∧ a = nI i ∧ f_X9_swingerAt a S = some (some (15 + 2 * i)) ∧ f_X10_isSwinger a M = some 1) ∨ (f_X9_swingerAt a S = some none ∧ f_X10_isSwinger a M = some 0) := by
  have h8 := hQ.2.2.1
  rcases swAt h8 hQ.2.2.2.1 a with ⟨i, hi, e, e1⟩ | ⟨hn, e1⟩
  · refine Or.inl ⟨i, hi, by omega, e, e1, ?_⟩
    have ei : (nI i).toInt = i := nI_i (by omega)
    rw [isSwM h8 hQ.2.2.2.2.1, e, ei, if_pos (by omega)]
  · exact Or.inr ⟨e1, by rw [isSwM h8 hQ.2.2.2.2.1, if_neg hn]⟩
theorem swI {h : Nat} {S M : ST} (hQ : QR h S M) {i : Nat} (hi : i < h) : f_X9_swingerAt (nI i) S = some (some (15 + 2 * i)) := by
  have h8 := hQ.2.2.1
  have ei : (nI i).toInt = i := nI_i (by omega)
  rcases swAt h8 hQ.2.2.2.1 (nI i) with ⟨j, hj, e, e1⟩ | ⟨hn, -⟩
  · have e2 := congrArg Int32.toInt e
    rw [ei, nI_i (by omega)] at e2
    have e3 : j = i := by omega
    rw [e1, e3]
  · exact absurd ⟨by rw [ei]; omega, by rw [ei]; omega⟩ hn
/-- the same answer, and only passing cells have changed -/
def Ans (S M : ST) (x y : Option (Int32 × ST)) : Prop := ∃ r S' M', x = some (r, S') ∧ y = some (r, M') ∧ SF S S' ∧ MF M M' ∧ PC S'
theorem Ans.same {S M : ST} (hPC : PC S) (r : Int32) : Ans S M (some (r, S)) (some (r, M)) := ⟨r, S, M, rfl, rfl, fun _ _ => rfl, ⟨fun _ _ => rfl, fun _ _ => rfl⟩, hPC⟩
theorem Ans.of {S M S' M' : ST} (r : Int32) (a : SF S S') (b : MF M M') (c : PC S') : Ans S M (some (r, S')) (some (r, M')) := ⟨r, S', M', rfl, rfl, a, b, c⟩
theorem SF.tr {S S' S'' : ST} (h : SF S S') (h' : SF S' S'') : SF S S'' := fun k hk => (h' k hk).trans (h k hk)
theorem MF.tr {S S' S'' : ST} (h : MF S S') (h' : MF S' S'') : MF S S'' := ⟨fun k hk => (h'.1 k hk).trans (h.1 k hk), fun k hk => (h'.2 k hk).trans (h.2 k hk)⟩
theorem SF.off {k0 : Nat} {js : List Nat} {S S' : ST} (hk : 42 ≤ k0) (h : Off k0 js S S') : SF S S' := fun k h2 => h.row (by omega)
theorem SF.fr {lo hi : Nat} {S S' : ST} (hk : 42 ≤ lo) (h : Fr lo hi S S') : SF S S' := fun k h2 => h k (by omega)
theorem MF.off {js : List Nat} {M M' : ST} (hj : ∀ j, j ∈ js → 10 ≤ j ∧ j ≤ 41) (h : Off 0 js M M') : MF M M' := ⟨fun k hk => h.row (by omega), fun j hk => h.at (fun q => by have := hj j q; omega)⟩
theorem MF.fr {lo hi : Nat} {M M' : ST} (h1 : 8 ≤ lo) (h2 : hi ≤ 15) (h : Fr lo hi M M') : MF M M' := ⟨fun k hk => h k (by omega), fun j hk => by rw [h 0 (by omega)]⟩
theorem QR.sm {h : Nat} {S M S' M' : ST} (hQ : QR h S M) (a : SF S S') (b : MF M M') (c : PC S') : QR h S' M' :=
  hQ.fr (fun k k1 k2 => a k (by omega)) (fun k k1 k2 => a k (by omega)) (by rw [a 0 (by omega)]) c (fun k k1 k2 => b.1 k (by omega)) (b.2 4 (by omega))
/-- a frame for flights where the turning may be another -/
theorem FlyR.fg {B L A V R lo : Int32} {mo : Nat} {S M S' M' : ST} (h : FlyR B L A V R lo mo S M) (a : ∀ k, k < 51 → S'.1 k = S.1 k) (b3 : S'.1 51 3 = S.1 51 3) (b5 : S'.1 51 5 = S.1 51 5) (c : ∀ k, 0 < k → k < 16 → M'.1 k = M.1 k) (d21 : M'.1 0 21 = M.1 0 21) (d25 : M'.1 0 25 = M.1 0 25) (e : S'.1 51 8 = M'.1 0 28) : FlyR B L A V R lo mo S' M' := by
  obtain ⟨f1, f2, f3, f4, f5, f6, f7, f8, f9, f10, f11, f12, f13, f14, f15, f16, f17⟩ := h
  refine ⟨f1.fr (fun k k1 k2 => a k (by omega)), f2.fr (fun k k1 k2 => a k (by omega)) (fun k k1 k2 => c k (by omega) (by omega)), f3, f4, f5, f6, ?_, f8, ?_, ?_, ?_, ?_, ?_, ?_, ?_, e, ?_⟩
  · rw [c 2 (by omega) (by omega)]; exact f7
  · rw [c 6 (by omega) (by omega)]; exact f9
  · rw [c 4 (by omega) (by omega)]; exact f10
  · rw [d21]; exact f11
  · rw [c 1 (by omega) (by omega)]; exact f12
  · rw [b3]; exact f13
  · rw [b5]; exact f14
  · rw [d25]; exact f15
  · rw [c 12 (by omega) (by omega), c 13 (by omega) (by omega)]; exact f17
theorem JR.fg {B L A V W G R lo : Int32} {mo s : Nat} {e : Int32} {S M S' M' : ST} (hJ : JR B L A V W G R lo mo s e S M) (a : ∀ k, k < 51 → S'.1 k = S.1 k) (b3 : S'.1 51 3 = S.1 51 3) (b5 : S'.1 51 5 = S.1 51 5) (b9 : S'.1 51 9 = S.1 51 9) (b10 : S'.1 51 10 = S.1 51 10) (c : ∀ k, 0 < k → k < 16 → M'.1 k = M.1 k) (d21 : M'.1 0 21 = M.1 0 21) (d23 : M'.1 0 23 = M.1 0 23) (d25 : M'.1 0 25 = M.1 0 25) (e8 : S'.1 51 8 = M'.1 0 28) : JR B L A V W G R lo mo s e S' M' := by
  obtain ⟨hF, hS, h9, h10, hC⟩ := hJ
  refine ⟨hF.fg a b3 b5 c d21 d25 e8, ?_, b9.trans h9, b10.trans h10, fun t ht => (hC t ht).fr (fun k k1 k2 => by rw [c k (by omega) (by omega)])⟩
  rw [d23, c 1 (by omega) (by omega), c 3 (by omega) (by omega)]; exact hS
theorem JR.f16 {B L A V W G R lo : Int32} {mo s : Nat} {e : Int32} {S M : ST} (hJ : JR B L A V W G R lo mo s e S M) : S.1 51 8 = M.1 0 28 := by
  obtain ⟨⟨f1, f2, f3, f4, f5, f6, f7, f8, f9, f10, f11, f12, f13, f14, f15, f16, f17⟩, hS, h9, h10, hC⟩ := hJ
  exact f16
/-- the jump is made ready in both, but for what stops it -/
def JP (B L A V W G R lo : Int32) (mo : Nat) (S M : ST) : Prop := FlyR B L A V R lo mo S M ∧ S.1 51 2 = M.1 0 23 ∧ S.1 51 4 = W ∧ S.1 51 6 = G ∧ ¬ G = 0 ∧ ∀ t, t < 201 → MCol W G L A V t M
theorem JP.fr {B L A V W G R lo : Int32} {mo : Nat} {S M S' M' : ST} (h : JP B L A V W G R lo mo S M) (a : Off 51 [9, 10, 11, 12, 13, 14, 15, 16] S S') (b : Off 0 [33, 34, 35, 36, 37, 38] M M') : JP B L A V W G R lo mo S' M' := by
  obtain ⟨hF, h2, h4, h6, hG, hC⟩ := h
  exact ⟨hF.fr a b, by rw [a.at (by simp), b.at (by simp)]; exact h2, by rw [a.at (by simp)]; exact h4, by rw [a.at (by simp)]; exact h6, hG, fun t ht => (hC t ht).fr (fun k k1 k2 => by rw [b.row (by omega)])⟩
theorem rehold {B L A V W G R lo : Int32} {mo : Nat} {S M : ST} (h : JP B L A V W G R lo mo S M) : ∃ S' s e, f_X0_hold S = some S' ∧ JR B L A V W G R lo mo s e S' M ∧ Off 51 [9, 10] S S' := by
  obtain ⟨hF, h2, h4, h6, hG, hC⟩ := h
  obtain ⟨f1, f2, f3, f4, f5, f6, f7, f8, f9, f10, f11, f12, f13, f14, f15, f16, f17⟩ := id hF
  obtain ⟨S', s, e, c1, c2, c3, c4, c5⟩ := hold_ok f3.1 f3.2.1 f1 (by rw [h6]; exact hG)
  refine ⟨S', s, e, c1, ⟨hF.fr (c5.wd (by intro j hj; simp at hj ⊢; omega)) Off.rf, ?_, c3, c4, hC⟩, c5⟩
  obtain ⟨pr1, pr2, pr3, pr4⟩ := f2
  rw [h2, h4, h6, f13, f14, pr1 6 (by omega), pr1 8 (by omega)] at c2
  exact c2.cg (fun t => WYt_eq pr3 _ _ _ _ _ _ _ _ _ _ _ t f3.1 f3.2.1)
theorem ready3 {h i : Nat} {S M : ST} (hQ : QR h S M) (hi : i < h) :
    ∃ S' M' s e mo q, f_X9_ready (15 + 2 * i) S = some S' ∧ f_X10_ready (nI i) M = some M' ∧ JR (M.1 1 0) (M.1 1 1 - M.1 6 1) (M.1 6 3) (M.1 6 4) (M.1 5 (5 * i)) (M.1 5 (5 * i + 2)) (M.1 5 (5 * i + 1)) (M.1 4 mo) mo s e S' M' ∧ JP (M.1 1 0) (M.1 1 1 - M.1 6 1) (M.1 6 3) (M.1 6 4) (M.1 5 (5 * i)) (M.1 5 (5 * i + 2)) (M.1 5 (5 * i + 1)) (M.1 4 mo) mo S' M' ∧ q ≤ 20 ∧ S'.1 51 7 = nI q ∧ M'.1 0 27 = nI q ∧ SF S S' ∧ MF M M' ∧ PC S' := by
  obtain ⟨q, hq, eq⟩ := In.n (b := 20) (hQ.2.2.2.2.2.1 i hi).2.2.2.2.1
  have sG := (hQ.2.2.2.2.2.1 i hi).2.2.2.1
  have hG : ¬ M.1 5 (5 * i + 2) = 0 := fun e => by rw [e] at sG; exact absurd sG.1 (by decide)
  obtain ⟨S', M', s, e, mo, y, a1, a2, -, -, -, -, a3, a4, a5, -, b1, b2, b3, a6, a7⟩ := ready_ok hQ hi
  exact ⟨S', M', s, e, mo, q, a1, a2, a3, ⟨a3.1, b1, b2, b3, hG, a3.2.2.2.2⟩, hq, a4.trans eq, a5.trans eq, fun k hk => a6 k (Or.inl (by omega)), ⟨fun k hk => funext fun j => a7 k j (by omega) (by omega), fun j hj => a7 0 j (by omega) (by omega)⟩, a3.1.1.pc⟩
theorem ready_bn {α : Type} {a : Int32} {M T : ST} (h : f_X10_ready a M = some T) (k : ST → Option α) : (bn1 (f_X10_useHand M) fun S7 => bn1 (f_X10_usePerson a S7) fun S8 => bn1 (f_X10_swing S8) k) = k T := by
  unfold f_X10_ready at h
  obtain ⟨M1, h1, h⟩ := bn1_s h
  obtain ⟨M2, h2, h⟩ := bn1_s h
  obtain ⟨M3, h3, h⟩ := bn1_s h
  have e : M3 = T := Option.some.inj h
  rw [h1, bn1_some, h2, bn1_some, h3, bn1_some, e]
theorem hasgood_ok {B L A V W G R lo : Int32} {mo s q : Nat} {e : Int32} {S M : ST} (hq : q ≤ 20) (hJ : JR B L A V W G R lo mo s e S M) (h7 : S.1 51 7 = nI q) (h27 : M.1 0 27 = nI q) :
    ∃ S' M' g, f_X0_hasGoodTime S = some (g, S') ∧ f_X10_hasGood M = some (g, M') ∧ (g = 0 ∨ g = 1) ∧ Off 51 [11, 12, 13, 14, 15, 16] S S' ∧ Off 0 [33, 34, 35, 36, 37, 38] M M' := by
  unfold f_X0_hasGoodTime f_X10_hasGood
  exact hasgood_loop hq 200 1 1000 1000 S M (by omega) (by omega) (by omega) (by omega) hJ h7 h27
