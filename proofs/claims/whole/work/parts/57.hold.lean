/-- what stops the swing behind each TICK, all told -/
def WYt (st lo R tk sand : Int32) (sto : Nat → Int32) (B L A V W G : Int32) (t : Nat) : Int32 := wy st lo R tk sand sto (pls W L (trs L A V t)) (lfs W G L A V t) (hxs L (trs L A V t).1) (hhs B L (trs L A V t).1) (trs L A V t).2
/-- where and how the swing of one who never lets go ends -/
def FirstStop (f : Nat → Int32) (s : Nat) (e : Int32) : Prop := 1 ≤ s ∧ s ≤ 200 ∧ (∀ t, 1 ≤ t → t < s → f t = 0) ∧ f s = e ∧ (e = 0 → s = 200)
def Off (k0 : Nat) (js : List Nat) (S S' : ST) : Prop := ∀ k j, (k ≠ k0 ∨ j ∉ js) → S'.1 k j = S.1 k j
theorem Off.rf {k0 : Nat} {js : List Nat} {S : ST} : Off k0 js S S := fun _ _ _ => rfl
theorem Off.su {k0 : Nat} {js : List Nat} {S S' : ST} (h : Off k0 js S S') (j : Nat) (v : Int32) (hj : j ∈ js) : Off k0 js S (su S' k0 j v) := fun k j' q => by
  rw [su_1]
  by_cases e : k = k0
  · subst e
    rcases q with q | q
    · exact absurd rfl q
    · rw [if_pos rfl, if_neg (fun e => q (by rw [e]; exact hj))]; exact h k j' (Or.inr q)
  · rw [if_neg e]; exact h k j' (Or.inl e)
theorem Off.tr {k0 : Nat} {js : List Nat} {S S' S'' : ST} (h : Off k0 js S S') (h' : Off k0 js S' S'') : Off k0 js S S'' := fun k j q => (h' k j q).trans (h k j q)
theorem Off.wd {k0 : Nat} {js js' : List Nat} {S S' : ST} (h : Off k0 js S S') (hs : ∀ j, j ∈ js → j ∈ js') : Off k0 js' S S' := fun k j q => h k j (q.imp id (fun q h => q (hs j h)))
theorem Off.row {k0 : Nat} {js : List Nat} {S S' : ST} (h : Off k0 js S S') {k : Nat} (hk : k ≠ k0) : S'.1 k = S.1 k := funext fun j => h k j (Or.inl hk)
theorem Off.at {k0 : Nat} {js : List Nat} {S S' : ST} (h : Off k0 js S S') {j : Nat} (hj : j ∉ js) : S'.1 k0 j = S.1 k0 j := h k0 j (Or.inr hj)
theorem hold_loop {B L A V : Int32} (l1 : 50 ≤ L.toInt) (l2 : L.toInt ≤ 900) : ∀ (r t n : Nat) (S : ST), t + r = 200 → r < n → PathOK B L A V S → ¬ S.1 51 6 = 0 → S.1 51 9 = 200 → S.1 51 10 = 0 → (∀ u, 1 ≤ u → u < t + 1 → WYt (S.1 51 2) (S.1 51 3) (S.1 51 5) (S.1 5 6) (S.1 5 8) (S.1 7) B L A V (S.1 51 4) (S.1 51 6) u = 0) →
    ∃ S' s e, lp (fun _ _ _ => none) b_X0_hold_18 n (lfs (S.1 51 4) (S.1 51 6) L A V t) (nI (t + 1)) S = some S' ∧ FirstStop (WYt (S.1 51 2) (S.1 51 3) (S.1 51 5) (S.1 5 6) (S.1 5 8) (S.1 7) B L A V (S.1 51 4) (S.1 51 6)) s e ∧ S'.1 51 9 = nI s ∧ S'.1 51 10 = e ∧ Off 51 [9, 10] S S' := by
  intro r
  induction r with
  | zero =>
    intro t n S ht hn hP hG e9 e10 hz
    obtain ⟨n, rfl⟩ : ∃ k, n = k + 1 := ⟨n - 1, by omega⟩
    rw [lp_s]
    unfold b_X0_hold_18
    rw [if_pos (show (200 : Int32) < nI (t + 1) from nI_lt (a := 200) (by omega) (by omega))]
    exact ⟨S, 200, 0, rfl, ⟨by omega, by omega, fun u u1 u2 => hz u u1 (by omega), hz 200 (by omega) (by omega), fun _ => rfl⟩, e9, e10, Off.rf⟩
  | succ r ih =>
    intro t n S ht hn hP hG e9 e10 hz
    obtain ⟨n, rfl⟩ : ∃ k, n = k + 1 := ⟨n - 1, by omega⟩
    rw [lp_s]
    unfold b_X0_hold_18
    rw [if_neg (show ¬ (200 : Int32) < nI (t + 1) from nI_nlt (a := 200) (by omega) (by omega)), pullC hP (by omega), bn1_some, quotC hG, bn1_some, nm_x]
    have el : lfs (S.1 51 4) (S.1 51 6) L A V t - 20 * pls (S.1 51 4) L (trs L A V (t + 1)) / S.1 51 6 = lfs (S.1 51 4) (S.1 51 6) L A V (t + 1) := by
      rw [Int32.mul_comm]; rfl
    rw [el, whyC hP (by omega) l1 l2, bn1_some]
    have ew : wy (S.1 51 2) (S.1 51 3) (S.1 51 5) (S.1 5 6) (S.1 5 8) (S.1 7) (pls (S.1 51 4) L (trs L A V (t + 1))) (lfs (S.1 51 4) (S.1 51 6) L A V (t + 1)) (hxs L (trs L A V (t + 1)).1) (hhs B L (trs L A V (t + 1)).1) (trs L A V (t + 1)).2 = WYt (S.1 51 2) (S.1 51 3) (S.1 51 5) (S.1 5 6) (S.1 5 8) (S.1 7) B L A V (S.1 51 4) (S.1 51 6) (t + 1) := rfl
    rw [ew]
    by_cases q : WYt (S.1 51 2) (S.1 51 3) (S.1 51 5) (S.1 5 6) (S.1 5 8) (S.1 7) B L A V (S.1 51 4) (S.1 51 6) (t + 1) = 0
    · rw [if_pos q, nm_x, nI_1]
      exact ih (t + 1) n S (by omega) (by omega) hP hG e9 e10 (fun u u1 u2 => by
        by_cases h : u = t + 1
        · subst h; exact q
        · exact hz u u1 (by omega))
    · rw [if_neg q]
      simp only [nm_x]
      refine ⟨_, t + 1, _, rfl, ⟨by omega, by omega, fun u u1 u2 => hz u u1 (by omega), rfl, fun h => absurd h q⟩, by simp [su_1], by simp [su_1], (Off.rf.su 9 _ (by simp)).su 10 _ (by simp)⟩
theorem hold_ok {B L A V : Int32} (l1 : 50 ≤ L.toInt) (l2 : L.toInt ≤ 900) {S : ST} (hP : PathOK B L A V S) (hG : ¬ S.1 51 6 = 0) : ∃ S' s e, f_X0_hold S = some S' ∧ FirstStop (WYt (S.1 51 2) (S.1 51 3) (S.1 51 5) (S.1 5 6) (S.1 5 8) (S.1 7) B L A V (S.1 51 4) (S.1 51 6)) s e ∧ S'.1 51 9 = nI s ∧ S'.1 51 10 = e ∧ Off 51 [9, 10] S S' := by
  unfold f_X0_hold
  simp only [nm_x]
  obtain ⟨T, hT⟩ : ∃ T : ST, T = su (su S 51 9 200) 51 10 0 := ⟨_, rfl⟩
  have F : Off 51 [9, 10] S T := by rw [hT]; exact (Off.rf.su 9 _ (by simp)).su 10 _ (by simp)
  have g : ∀ j, j ∉ [9, 10] → T.1 51 j = S.1 51 j := fun j hj => F.at hj
  have g5 : T.1 5 = S.1 5 := F.row (by omega)
  have g7 : T.1 7 = S.1 7 := F.row (by omega)
  have hP2 : PathOK B L A V T := hP.fr (fun k k1 k2 => F.row (by omega))
  obtain ⟨S', s, e, q1, q2, q3, q4, q5⟩ := hold_loop l1 l2 200 0 1000 T (by omega) (by omega) hP2 (by rw [g 6 (by simp)]; exact hG) (by rw [hT]; simp [su_1]) (by rw [hT]; simp [su_1]) (fun u u1 u2 => by omega)
  rw [g 2 (by simp), g 3 (by simp), g 5 (by simp), g 4 (by simp), g 6 (by simp), g5, g7] at q2
  refine ⟨S', s, e, ?_, q2, q3, q4, F.tr q5⟩
  rw [← hT]
  exact q1
/-- one lets go at a TICK, if nothing ends the swing ahead of it -/
def CanGo (s : Nat) (e : Int32) (τ : Nat) : Prop := τ < s ∨ (τ = s ∧ ¬ e = 7 ∧ ¬ e = 5)
theorem canC {S : ST} {s τ : Nat} {e : Int32} (h9 : S.1 51 9 = nI s) (h10 : S.1 51 10 = e) (hs : s ≤ 200) (hτ : τ < 1000) : (CanGo s e τ → f_X0_canLetGo (nI τ) S = some 1) ∧ (¬ CanGo s e τ → f_X0_canLetGo (nI τ) S = some 0) := by
  unfold f_X0_canLetGo CanGo
  rw [h9, h10]
  have a1 : nI τ < nI s ↔ τ < s := nI_ltI (by omega) (by omega)
  have a2 : nI τ = nI s ↔ τ = s := nI_eq (by omega) (by omega)
  constructor
  · intro h
    by_cases q : τ < s
    · rw [if_pos (a1.mpr q)]
    · rw [if_neg (fun h => q (a1.mp h))]
      rcases h with h | ⟨h, h7, h5⟩
      · exact absurd h q
      · rw [if_pos (a2.mpr h), if_neg h7, if_neg h5]
  · intro h
    rw [if_neg (fun q => h (Or.inl (a1.mp q)))]
    by_cases q : τ = s
    · rw [if_pos (a2.mpr q)]
      by_cases h7 : e = 7
      · rw [if_pos h7]
      · rw [if_neg h7]
        by_cases h5 : e = 5
        · rw [if_pos h5]
        · exact absurd (Or.inr ⟨q, h7, h5⟩) h
    · rw [if_neg (fun h => q (a2.mp h))]
/-- what the reference says behind a TICK, for one who would let go at τ -/
def gat (f : Nat → Int32) (τ t : Nat) : Int32 := if f t = 7 then 7 else if f t = 5 then 5 else if nI t < nI τ then (if f t = 0 then -1 else f t) else 9
theorem mgo_loop {f : Nat → Int32} {s τ : Nat} {e : Int32} {tm : Int32} {M : ST} (hS : FirstStop f s e) (hv : e = 0 ∨ e = 5 ∨ e = 6 ∨ e = 7 ∨ e = 8) (hτ : τ < 1000) (hE : ∀ t, 1 ≤ t → t ≤ 200 → f_X10_endAt (nI t) tm M = some (gat f τ t)) (ts : Nat) (hw : Int32) (hts : ts ≤ s) (h1 : ∀ t, 1 ≤ t → t < ts → t < τ) (h2 : gat f τ ts = hw) (h3 : 0 ≤ hw ∨ ts = 200) :
    ∀ (r t n : Nat), 1 ≤ t → t + r = ts → r < n → lp (fun _ _ _ _ => none) b_X10_letGo_9 n tm (nI t) (gat f τ t) M = b_X10_letGo_33 (nI ts) hw M := by
  obtain ⟨s1, s2, s3, s4, s5⟩ := hS
  intro r
  induction r with
  | zero =>
    intro t n t1 ht hn
    obtain ⟨n, rfl⟩ : ∃ k, n = k + 1 := ⟨n - 1, by omega⟩
    have : t = ts := by omega
    subst this
    rw [lp_s, h2]
    unfold b_X10_letGo_9
    by_cases q : 0 ≤ hw
    · rw [if_pos q]
    · have t200 : t = 200 := h3.resolve_left q
      rw [if_neg q, if_pos (show (200 : Int32) ≤ nI t from nI_le (a := 200) (by omega) (by omega))]
  | succ r ih =>
    intro t n t1 ht hn
    obtain ⟨n, rfl⟩ : ∃ k, n = k + 1 := ⟨n - 1, by omega⟩
    have f0 : f t = 0 := s3 t t1 (by omega)
    have ht2 : t < τ := h1 t t1 (by omega)
    have eg : gat f τ t = -1 := by
      unfold gat
      rw [f0, if_neg (by decide), if_neg (by decide), if_pos (nI_lt (by omega) (by omega)), if_pos rfl]
    rw [lp_s, eg]
    unfold b_X10_letGo_9
    rw [if_neg (by decide), if_neg (show ¬ (200 : Int32) ≤ nI t from nI_ge (b := 200) (by omega) (by omega)), nm_x, nI_1, hE (t + 1) (by omega) (by omega), bn1_some]
    exact ih (t + 1) n (by omega) (by omega) (by omega)
theorem mgo {f : Nat → Int32} {s τ : Nat} {e : Int32} {tm : Int32} {M : ST} (hS : FirstStop f s e) (hv : e = 0 ∨ e = 5 ∨ e = 6 ∨ e = 7 ∨ e = 8) (hτ : τ < 1000) (hτ1 : 1 ≤ τ) (hE : ∀ t, 1 ≤ t → t ≤ 200 → f_X10_endAt (nI t) tm M = some (gat f τ t)) :
    (CanGo s e τ → f_X10_letGo tm M = b_X10_letGo_33 (nI τ) 9 M) ∧ (¬ CanGo s e τ → f_X10_letGo tm M = b_X10_letGo_33 (nI s) (if e = 0 then -1 else e) M) := by
  obtain ⟨s1, s2, s3, s4, s5⟩ := id hS
  have hstart : f_X10_letGo tm M = lp (fun _ _ _ _ => none) b_X10_letGo_9 1000 tm (nI 1) (gat f τ 1) M := by
    unfold f_X10_letGo
    rw [show (1 : Int32) = nI 1 from rfl, hE 1 (by omega) (by omega), bn1_some]
  constructor
  · intro h
    rw [hstart]
    refine mgo_loop hS hv hτ hE τ 9 (by rcases h with h | h <;> omega) (fun t _ h => h) ?_ (Or.inl (by decide)) (τ - 1) 1 1000 (by omega) (by omega) (by rcases h with h | h <;> omega)
    unfold gat
    have hn : ¬ nI τ < nI τ := nI_nlt (Nat.le_refl τ) (by omega)
    rcases h with h | ⟨h, h7, h5⟩
    · rw [s3 τ hτ1 h, if_neg (by decide), if_neg (by decide), if_neg hn]
    · rw [h] at hn ⊢
      rw [s4, if_neg h7, if_neg h5, if_neg hn]
  · intro h
    rw [hstart]
    have hle : s ≤ τ := Nat.not_lt.mp fun q => h (Or.inl q)
    refine mgo_loop hS hv hτ hE s _ (Nat.le_refl s) (fun t _ h => by omega) ?_ ?_ (s - 1) 1 1000 (by omega) (by omega) (by omega)
    · unfold gat
      rw [s4]
      by_cases h7 : e = 7
      · rw [if_pos h7, h7]; rfl
      · rw [if_neg h7]
        by_cases h5 : e = 5
        · rw [if_pos h5, h5]; rfl
        · rw [if_neg h5]
          have hlt : s < τ := by
            rcases Nat.lt_or_ge s τ with q | q
            · exact q
            · exact absurd (Or.inr ⟨by omega, h7, h5⟩) h
          rw [if_pos (nI_lt hlt (by omega))]
    · by_cases h0 : e = 0
      · exact Or.inr (s5 h0)
      · rw [if_neg h0]
        refine Or.inl ?_
        rcases hv with rfl | rfl | rfl | rfl | rfl <;> first | exact absurd rfl h0 | decide
