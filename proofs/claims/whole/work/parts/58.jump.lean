/-- where a jump's end stands in both -/
def LetEnd (S S' M M' : ST) : Prop := Off 51 [11, 12, 13, 14, 15, 16] S S' ∧ Off 0 [33, 34, 35, 36, 37, 38] M M' ∧ S'.1 51 11 = M'.1 0 33 ∧ S'.1 51 12 = M'.1 0 34 ∧ S'.1 51 13 = M'.1 0 35 ∧ S'.1 51 14 = M'.1 0 36 ∧ S'.1 51 15 = M'.1 0 37 ∧ S'.1 51 16 = M'.1 0 38
/-- the swing is swung in both, and where it stops is known -/
def JR (B L A V W G R lo : Int32) (mo s : Nat) (e : Int32) (S M : ST) : Prop :=
  FlyR B L A V R lo mo S M ∧ FirstStop (WYt (M.1 0 23) lo R (M.1 1 6) (M.1 1 8) (M.1 3) B L A V W G) s e ∧ S.1 51 9 = nI s ∧ S.1 51 10 = e ∧ (∀ t, t < 201 → MCol W G L A V t M)
theorem FirstStop.val {st lo R tk sand : Int32} {sto : Nat → Int32} {B L A V W G : Int32} {s : Nat} {e : Int32} (h : FirstStop (WYt st lo R tk sand sto B L A V W G) s e) : e = 0 ∨ e = 5 ∨ e = 6 ∨ e = 7 ∨ e = 8 := by
  obtain ⟨-, -, -, h4, -⟩ := h
  rw [← h4]
  exact wy_in _ _ _ _ _ _ _ _ _ _ _
theorem m33 {B L A V R lo : Int32} {mo s : Nat} {S M : ST} (hF : FlyR B L A V R lo mo S M) (hs : s < 201) (v : Int32) : ∃ M1, b_X10_letGo_33 (nI s) v M = b_X10_letGo_72 (nI s) v (if 0 ≤ v then v else 0) M1 ∧ Off 0 [33, 34, 35, 36, 37, 38] M M1 ∧ M1.1 0 34 = hxs L (trs L A V s).1 ∧ M1.1 0 35 = nI s ∧ M1.1 0 36 = 0 ∧ M1.1 0 37 = 0 ∧ M1.1 0 38 = 0 := by
  obtain ⟨h1, h2, h3, h4, h5, h6, h7, h8, h9, h10, h11, h12, h13, h14, h15, h16, h17⟩ := id hF
  obtain ⟨T, hT⟩ : ∃ T : ST, T = su (su (su (su M 0 35 (nI s)) 0 36 0) 0 37 0) 0 38 0 := ⟨_, rfl⟩
  have OT : Off 0 [33, 34, 35, 36, 37, 38] M T := by rw [hT]; exact (((Off.rf.su 35 _ (by simp)).su 36 _ (by simp)).su 37 _ (by simp)).su 38 _ (by simp)
  have tL : T.1 0 21 = L := by rw [OT.at (by simp)]; exact h11
  have tx : T.1 12 s = (trs L A V s).1 := by rw [OT.row (k := 12) (by omega)]; exact (h17 s hs).1
  refine ⟨su T 0 34 (hxs L (trs L A V s).1), ?_, OT.su 34 _ (by simp), by simp [su_1], by simp [su_1, hT], by simp [su_1, hT], by simp [su_1, hT], by simp [su_1, hT]⟩
  unfold b_X10_letGo_33
  rw [nm_x, nm_x, nm_x, nm_x, ← hT, hxM (L := L) hs tL, bn1_some, nm_x, tx]
  by_cases q : 0 ≤ v
  · rw [if_pos q, if_pos q]
  · rw [if_neg q, if_neg q]
theorem FlyR.in9 {B L A V R lo : Int32} {mo : Nat} {S M : ST} (hF : FlyR B L A V R lo mo S M) {t : Nat} (ht : t < 201) (sl : Int32) (h35 : M.1 0 35 = nI t) :
    ∃ S' M', f_X0_fly (nI t) S = some S' ∧ f_X10_fly (nI t) sl M = some M' ∧ Off 51 [11, 12, 13, 14, 15, 16] S S' ∧ Off 0 [33, 34, 35, 36, 37, 38] M M' ∧ S'.1 51 12 = M'.1 0 34 ∧ S'.1 51 13 = M'.1 0 35 ∧ S'.1 51 14 = M'.1 0 36 ∧ S'.1 51 15 = M'.1 0 37 ∧ S'.1 51 16 = M'.1 0 38 ∧ ((S'.1 51 11 = 0 ∧ M'.1 0 33 = 0) ∨ ((S'.1 51 11 = 1 ∨ S'.1 51 11 = 2 ∨ S'.1 51 11 = 3 ∨ S'.1 51 11 = 4) ∧ M'.1 0 33 = if sl = 0 then S'.1 51 11 else 5)) := by
  obtain ⟨S', M', q1, q2, q3, o1, o2, e1, e2, e3, e4, e5⟩ := fly_ok ht hF sl
  have OS : Off 51 [11, 12, 13, 14, 15, 16] S S' := ((Off.rf (S := S)).su 13 (nI t) (by simp)).tr (o1.wd (by intro j hj; simp at hj ⊢; omega))
  have OM : Off 0 [33, 34, 35, 36, 37, 38] M M' := o2.wd (by intro j hj; simp at hj ⊢; omega)
  exact ⟨S', M', q1, q2, OS, OM, e1, by rw [q3, o2.at (by simp), h35], e2, e3, e4, e5⟩
theorem z_le9 : (0 : Int32) ≤ 9 := by decide
theorem z_nle : ¬ (0 : Int32) ≤ -1 := by decide
/-- letting go at a TICK, in both -/
theorem letgo_ok {B L A V W G R lo : Int32} {mo s : Nat} {e : Int32} {S M : ST} (hJ : JR B L A V W G R lo mo s e S M) (l1 : 50 ≤ L.toInt) (l2 : L.toInt ≤ 900) (hst : True) {τ : Nat} (h1 : 1 ≤ τ) (h2 : τ < 1000) (tm : Int32) (htm : tm + M.1 0 27 = nI τ) :
    ∃ S' M', f_X0_letGo (nI τ) S = some S' ∧ f_X10_letGo tm M = some M' ∧ LetEnd S S' M M' ∧ (¬ CanGo s e τ → ¬ (M'.1 0 33 = 1 ∨ M'.1 0 33 = 2)) ∧ (0 ≤ (M'.1 0 33).toInt ∧ (M'.1 0 33).toInt ≤ 8) := by
  obtain ⟨hF, hS, h9, h10, hC⟩ := id hJ
  obtain ⟨f1, f2, f3, f4, f5, f6, f7, f8, fm, f10, f11, f12, f13, f14, f15, f16, f17⟩ := id hF
  obtain ⟨s1, s2, s3, s4, s5⟩ := id hS
  have hv := hS.val
  have hE : ∀ t, 1 ≤ t → t ≤ 200 → f_X10_endAt (nI t) tm M = some (gat (WYt (M.1 0 23) lo R (M.1 1 6) (M.1 1 8) (M.1 3) B L A V W G) τ t) := by
    intro t t1 t2
    rw [whyM tm t1 (by omega) l1 l2 (hC t (by omega)) f11 f12 fm f8 f10, htm, f15]
    rfl
  obtain ⟨g1, g2⟩ := mgo hS hv h2 h1 hE
  obtain ⟨c1, c2⟩ := canC h9 h10 s2 h2
  by_cases q : CanGo s e τ
  · have hτ : τ < 201 := by rcases q with q | q <;> omega
    obtain ⟨M1, m1, m2, m3, m4, m5, m6, m7⟩ := m33 hF hτ 9
    rw [if_pos z_le9] at m1
    have O1 : Off 0 [33, 34, 35, 36, 37, 38] M (su M1 0 33 9) := m2.su 33 _ (by simp)
    obtain ⟨S', M', q1, q2, o1, o2, e1, e2, e3, e4, e5, e6⟩ := FlyR.in9 (hF.fr Off.rf O1) hτ 0 (by simp [su_1, m4])
    refine ⟨S', M', ?_, ?_, ⟨o1, O1.tr o2, ?_, e1, e2, e3, e4, e5⟩, fun h => absurd q h, ?_⟩
    · unfold f_X0_letGo
      rw [c1 q, bn1_some, if_neg (by decide), q1, bn1_some]
    · rw [g1 q, m1]
      unfold b_X10_letGo_72 b_X10_letGo_86 b_X10_letGo_98
      rw [nm_x, if_pos rfl, if_neg (by decide), q2, bn1_some]
    · rcases e6 with ⟨a, b⟩ | ⟨-, b⟩
      · rw [a, b]
      · rw [b, if_pos rfl]
    · rcases e6 with ⟨-, b⟩ | ⟨a, b⟩
      · rw [b]; decide
      · rw [b, if_pos rfl]
        rcases a with a | a | a | a <;> rw [a] <;> decide
  · obtain ⟨M1, m1, m2, m3, m4, m5, m6, m7⟩ := m33 hF (s := s) (by omega) (if e = 0 then -1 else e)
    by_cases he : e = 5
    · subst he
      rw [if_neg (by decide), if_pos (by decide)] at m1
      have O1 : Off 0 [33, 34, 35, 36, 37, 38] M (su M1 0 33 5) := m2.su 33 _ (by simp)
      obtain ⟨S', M', q1, q2, o1, o2, e1, e2, e3, e4, e5, e6⟩ := FlyR.in9 (hF.fr Off.rf O1) (t := s) (by omega) 1 (by simp [su_1, m4])
      have hM : f_X10_letGo tm M = some M' := by
        rw [g2 q, if_neg (by decide), m1]
        unfold b_X10_letGo_72 b_X10_letGo_86 b_X10_letGo_98
        rw [nm_x, if_neg (by decide), if_pos rfl, if_pos rfl, q2, bn1_some]
      have hCl : f_X0_letGo (nI τ) S = if S'.1 51 11 = 0 then b_X0_letGo_45 0 S' else b_X0_letGo_45 5 S' := by
        unfold f_X0_letGo
        rw [c2 q, bn1_some, if_pos rfl, h10, if_pos rfl, h9, q1, bn1_some]
      rcases e6 with ⟨a, b⟩ | ⟨a, b⟩
      · refine ⟨su S' 51 11 0, M', ?_, hM, ⟨o1.su 11 _ (by simp), O1.tr o2, ?_, ?_, ?_, ?_, ?_, ?_⟩, fun _ => ?_, ?_⟩
        · rw [hCl, if_pos a]; rfl
        · rw [b]; simp [su_1]
        · rw [← e1]; simp [su_1]
        · rw [← e2]; simp [su_1]
        · rw [← e3]; simp [su_1]
        · rw [← e4]; simp [su_1]
        · rw [← e5]; simp [su_1]
        · rw [b]; decide
        · rw [b]; decide
      · have hn : ¬ S'.1 51 11 = 0 := by rcases a with a | a | a | a <;> rw [a] <;> decide
        rw [if_neg (by decide)] at b
        refine ⟨su S' 51 11 5, M', ?_, hM, ⟨o1.su 11 _ (by simp), O1.tr o2, ?_, ?_, ?_, ?_, ?_, ?_⟩, fun _ => ?_, ?_⟩
        · rw [hCl, if_neg hn]; rfl
        · rw [b]; simp [su_1]
        · rw [← e1]; simp [su_1]
        · rw [← e2]; simp [su_1]
        · rw [← e3]; simp [su_1]
        · rw [← e4]; simp [su_1]
        · rw [← e5]; simp [su_1]
        · rw [b]; decide
        · rw [b]; decide
    · have hcol := f1.2.2.2.2.2 s (by omega)
      have ev : (if 0 ≤ (if e = 0 then (-1 : Int32) else e) then (if e = 0 then (-1 : Int32) else e) else 0) = e := by
        rcases hv with rfl | rfl | rfl | rfl | rfl <;> decide
      have n9 : ¬ (if e = 0 then (-1 : Int32) else e) = 9 := by
        rcases hv with rfl | rfl | rfl | rfl | rfl <;> decide
      have n5 : ¬ (if e = 0 then (-1 : Int32) else e) = 5 := by
        rcases hv with rfl | rfl | rfl | rfl | rfl <;> first | exact absurd rfl he | decide
      rw [ev] at m1
      obtain ⟨T, hT⟩ : ∃ T : ST, T = su S 51 13 (nI s) := ⟨_, rfl⟩
      have OT : Off 51 [11, 12, 13, 14, 15, 16] S T := by rw [hT]; exact Off.rf.su 13 _ (by simp)
      have ex : f_X1_x (nI s) T = some (hxs L (trs L A V s).1) := by unfold f_X1_x; rw [at_in 46 T (show s < lnC 46 by show s < 201; omega), bn1_some, OT.row (k := 46) (by omega), hcol.2.2.1]
      obtain ⟨U, hU⟩ : ∃ U : ST, U = su (su (su (su T 51 12 (hxs L (trs L A V s).1)) 51 14 0) 51 15 0) 51 16 0 := ⟨_, rfl⟩
      have OU : Off 51 [11, 12, 13, 14, 15, 16] S U := by rw [hU]; exact (((OT.su 12 _ (by simp)).su 14 _ (by simp)).su 15 _ (by simp)).su 16 _ (by simp)
      have t9 : T.1 51 9 = nI s := by rw [OT.at (by simp)]; exact h9
      have u10 : U.1 51 10 = e := by rw [OU.at (by simp)]; exact h10
      refine ⟨su U 51 11 e, su M1 0 33 e, ?_, ?_, ⟨OU.su 11 _ (by simp), m2.su 33 _ (by simp), ?_, ?_, ?_, ?_, ?_, ?_⟩, fun _ => ?_, ?_⟩
      · unfold f_X0_letGo
        rw [c2 q, bn1_some, if_pos rfl, h10, if_neg he, nm_x, h9, ← hT, t9, ex, bn1_some, nm_x, nm_x, nm_x, nm_x, ← hU, u10, nm_x]
      · rw [g2 q, m1]
        unfold b_X10_letGo_72
        rw [nm_x, if_neg n9, if_neg n5]
      · simp [su_1]
      · simp [su_1, hU, m3]
      · simp [su_1, hU, hT, m4]
      · simp [su_1, hU, m5]
      · simp [su_1, hU, m6]
      · simp [su_1, hU, m7]
      · have : (su M1 0 33 e).1 0 33 = e := by simp [su_1]
        rw [this]
        rcases hv with rfl | rfl | rfl | rfl | rfl <;> decide
      · have : (su M1 0 33 e).1 0 33 = e := by simp [su_1]
        rw [this]
        rcases hv with rfl | rfl | rfl | rfl | rfl <;> decide
