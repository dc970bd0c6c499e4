def bitn (a c : Nat) : Nat := a / 2 ^ c % 2
/-- the reference's clauses told, out of the class's -/
def pm (a : Nat) : Nat := bitn a 0 * 1 + bitn a 1 * 2 + bitn a 2 * 4 + bitn a 3 * 8 + bitn a 4 * 16 + bitn a 5 * 128 + bitn a 6 * 32 + bitn a 7 * 64 + bitn a 8 * 256
def pcn (a : Nat) : Nat := bitn a 0 + bitn a 1 + bitn a 2 + bitn a 3 + bitn a 4 + bitn a 5 + bitn a 6 + bitn a 7 + bitn a 8
theorem bits_ok : ∀ a, a < 512 → ∀ c, c < 9 → ((nI a >>> (nI c &&& 31)) &&& 1 = 1 ↔ bitn a c = 1) ∧ ((nI (pm a) >>> (nI (pi c) &&& 31)) &&& 1 = 1 ↔ bitn a c = 1) ∧ (bitn a c ≠ 1 → nI a ||| ((1 : Int32) <<< (nI c &&& 31)) = nI (a + 2 ^ c) ∧ nI (pm a) ||| ((1 : Int32) <<< (nI (pi c) &&& 31)) = nI (pm (a + 2 ^ c)) ∧ a + 2 ^ c < 512 ∧ pcn (a + 2 ^ c) = pcn a + 1) := by decide +kernel
theorem pcn_9 : ∀ a, a < 512 → pcn a ≤ 9 ∧ (pcn a = 9 → ∀ c, c < 9 → bitn a c = 1) := by decide +kernel
theorem fin_zb {len : Nat} {S M : ST} {x y : Option (Int32 × ST)} (h : Fin len S M x y) : Fin len S M (bnd x fun r S => chk (zb r) (some (r, S))) y := by
  obtain ⟨r, S', f, M', h1, h2, h3, h4, h5⟩ := h
  have z : zb r = true := by
    rcases h5 with ⟨h, -⟩ | ⟨h, -⟩ <;> rw [h] <;> decide
  exact ⟨r, S', f, M', by rw [h1, bnd_some, chk_t _ z], h2, h3, h4, h5⟩
/-- the reference reads what the clause tells -/
def chM9 (r2 : Int32) (S10 : ST) : Option (Int32 × ST) := if r2 = (0 : Int32) then (bnd (f_X10_take ((0 : Int32)) ((200 : Int32)) ((999 : Int32)) S10) fun r13 S12 => b_X10_takeClause_236 r13 S12) else (if r2 = (1 : Int32) then (bnd (f_X10_takeRope S10) fun r19 S18 => b_X10_takeClause_236 r19 S18) else (if r2 = (2 : Int32) then (bnd (f_X10_takeStart S10) fun r22 S21 => b_X10_takeClause_236 r22 S21) else (if r2 = (3 : Int32) then (bnd (f_X10_take ((6 : Int32)) ((50 : Int32)) ((600 : Int32)) S10) fun r25 S24 => b_X10_takeClause_236 r25 S24) else (if r2 = (4 : Int32) then (bnd (f_X10_take ((7 : Int32)) ((0 : Int32)) ((300 : Int32)) S10) fun r28 S27 => b_X10_takeClause_236 r28 S27) else (if r2 = (5 : Int32) then (bnd (f_X10_takeRow 9 ((24 : Int32)) ((600 : Int32)) S10) fun r31 S30 => b_X10_takeClause_236 r31 S30) else (if r2 = (6 : Int32) then (bnd (f_X10_takeStones S10) fun r34 S33 => b_X10_takeClause_236 r34 S33) else (if r2 = (7 : Int32) then (bnd (f_X10_take ((8 : Int32)) ((1 : Int32)) ((24 : Int32)) S10) fun r37 S36 => b_X10_takeClause_236 r37 S36) else (bnd (f_X10_takeRow 11 ((12 : Int32)) ((300 : Int32)) S10) fun r39 S38 => b_X10_takeClause_236 r39 S38))))))))
theorem readNum {c from' many : Nat} {S : ST} (h6 : ¬ nI c = 6) (h7 : ¬ nI c = 7) (h8 : ¬ nI c = 8) (h1 : f_X9_ats 1 (nI c) = some (nI from')) (h2 : f_X9_ats 2 (nI c) = some (nI many)) : f_X4_readClause (nI c) S = bnd (f_X4_readNumbers (nI from') (nI many) S) fun r16 S15 => chk (zb r16) (some (r16, S15)) := by
  unfold f_X4_readClause
  rw [if_neg h6, if_neg h7, if_neg h8, h1, bn1_some, h2, bn1_some]
/-- a clause is read, in both -/
theorem read_ok {len p c : Nat} {S M : ST} (hc : c < 9) (hT : TxR len S M) (hp : p ≤ len) (hS : S.1 3 1 = nI p) (hM : M.1 0 10 = nI p) (hD : DR S M) : Fin len S M (f_X4_readClause (nI c) S) (chM9 (nI (pi c)) M) := by
  have hcs : c = 0 ∨ c = 1 ∨ c = 2 ∨ c = 3 ∨ c = 4 ∨ c = 5 ∨ c = 6 ∨ c = 7 ∨ c = 8 := by omega
  rcases hcs with rfl | rfl | rfl | rfl | rfl | rfl | rfl | rfl | rfl
  · have e : chM9 (nI (pi 0)) M = bnd (f_X10_take (nI 0) 200 999 M) fun r S => b_X10_takeClause_236 r S := if_pos (by decide)
    rw [e, readNum (from' := 0) (many := 1) (by decide) (by decide) (by decide) (by decide +kernel) (by decide +kernel)]
    exact fin_zb (n1_ok (i := 0) (by omega) hT hp hS hM hD 200 999 (by decide) (by decide) (by decide) (by decide))
  · have e : chM9 (nI (pi 1)) M = bnd (f_X10_takeRope M) fun r S => b_X10_takeClause_236 r S := by
      unfold chM9
      rw [if_neg (by decide), if_pos (by decide)]
    rw [e, readNum (from' := 1) (many := 3) (by decide) (by decide) (by decide) (by decide +kernel) (by decide +kernel)]
    exact fin_zb (n3_ok hT hp hS hM hD)
  · have e : chM9 (nI (pi 2)) M = bnd (f_X10_takeStart M) fun r S => b_X10_takeClause_236 r S := by
      unfold chM9
      rw [if_neg (by decide), if_neg (by decide), if_pos (by decide)]
    rw [e, readNum (from' := 4) (many := 2) (by decide) (by decide) (by decide) (by decide +kernel) (by decide +kernel)]
    exact fin_zb (n2_ok hT hp hS hM hD)
  · have e : chM9 (nI (pi 3)) M = bnd (f_X10_take (nI 6) 50 600 M) fun r S => b_X10_takeClause_236 r S := by
      unfold chM9
      rw [if_neg (by decide), if_neg (by decide), if_neg (by decide), if_pos (by decide)]
      rfl
    rw [e, readNum (from' := 6) (many := 1) (by decide) (by decide) (by decide) (by decide +kernel) (by decide +kernel)]
    exact fin_zb (n1_ok (i := 6) (by omega) hT hp hS hM hD 50 600 (by decide) (by decide) (by decide) (by decide))
  · have e : chM9 (nI (pi 4)) M = bnd (f_X10_take (nI 7) 0 300 M) fun r S => b_X10_takeClause_236 r S := by
      unfold chM9
      rw [if_neg (by decide), if_neg (by decide), if_neg (by decide), if_neg (by decide), if_pos (by decide)]
      rfl
    rw [e, readNum (from' := 7) (many := 1) (by decide) (by decide) (by decide) (by decide +kernel) (by decide +kernel)]
    exact fin_zb (n1_ok (i := 7) (by omega) hT hp hS hM hD 0 300 (by decide) (by decide) (by decide) (by decide))
  · have e : chM9 (nI (pi 5)) M = bnd (f_X10_take (nI 8) 1 24 M) fun r S => b_X10_takeClause_236 r S := by
      unfold chM9
      rw [if_neg (by decide), if_neg (by decide), if_neg (by decide), if_neg (by decide), if_neg (by decide), if_neg (by decide), if_neg (by decide), if_pos (by decide)]
      rfl
    rw [e, readNum (from' := 8) (many := 1) (by decide) (by decide) (by decide) (by decide +kernel) (by decide +kernel)]
    exact fin_zb (n1_ok (i := 8) (by omega) hT hp hS hM hD 1 24 (by decide) (by decide) (by decide) (by decide))
  · have e : chM9 (nI (pi 6)) M = bnd (f_X10_takeRow 9 24 600 M) fun r S => b_X10_takeClause_236 r S := by
      unfold chM9
      rw [if_neg (by decide), if_neg (by decide), if_neg (by decide), if_neg (by decide), if_neg (by decide), if_pos (by decide)]
    have eC : f_X4_readClause (nI 6) S = bnd (f_X4_readList 11 600 S) fun r S => chk (zb r) (some (r, S)) := if_pos (by decide)
    rw [e, eC]
    exact fin_zb (list_loop (rc := 11) (rm := 9) (N := 24) (T := 600) (by omega) (by omega) (by decide) (by decide) (by omega) (by omega) (fun S M i v h _ hv => h.water hv) 24 0 p 1000 1000 S M (by omega) (by omega) (by omega) hT hp hS hM hD)
  · have e : chM9 (nI (pi 7)) M = bnd (f_X10_takeStones M) fun r S => b_X10_takeClause_236 r S := by
      unfold chM9
      rw [if_neg (by decide), if_neg (by decide), if_neg (by decide), if_neg (by decide), if_neg (by decide), if_neg (by decide), if_pos (by decide)]
    have eC : f_X4_readClause (nI 7) S = bnd (f_X4_readStones S) fun r S => chk (zb r) (some (r, S)) := by
      unfold f_X4_readClause
      rw [if_neg (by decide), if_pos (by decide)]
    rw [e, eC]
    exact fin_zb (stones_loop 24 0 p 1000 1000 S M (by omega) (by omega) (by omega) hT hp hS hM hD (by omega))
  · have e : chM9 (nI (pi 8)) M = bnd (f_X10_takeRow 11 12 300 M) fun r S => b_X10_takeClause_236 r S := by
      unfold chM9
      rw [if_neg (by decide), if_neg (by decide), if_neg (by decide), if_neg (by decide), if_neg (by decide), if_neg (by decide), if_neg (by decide), if_neg (by decide)]
    have eC : f_X4_readClause (nI 8) S = bnd (f_X4_readList 13 300 S) fun r S => chk (zb r) (some (r, S)) := by
      unfold f_X4_readClause
      rw [if_neg (by decide), if_neg (by decide), if_pos (by decide)]
    rw [e, eC]
    exact fin_zb (list_loop (rc := 13) (rm := 11) (N := 12) (T := 300) (by omega) (by omega) (by decide) (by decide) (by omega) (by omega) (fun S M i v h _ hv => h.months hv) 12 0 p 1000 1000 S M (by omega) (by omega) (by omega) hT hp hS hM hD)
/-- what reading a place may change in the reference -/
def FMp (M M' : ST) : Prop := (∀ k, k ≠ 0 → (k < 8 ∨ 11 < k) → M'.1 k = M.1 k) ∧ ∀ j, (j < 9 ∨ j = 11 ∨ (14 < j ∧ j < 19) ∨ 20 < j) → M'.1 0 j = M.1 0 j
theorem FMp.tr {S S' S'' : ST} (h : FMp S S') (h' : FMp S' S'') : FMp S S'' := ⟨fun k h1 h2 => (h'.1 k h1 h2).trans (h.1 k h1 h2), fun j a => (h'.2 j a).trans (h.2 j a)⟩
theorem FMi.p {M M' : ST} (h : FMi M M') : FMp M M' := ⟨h.1, fun j hj => h.2 j (by omega) (by omega) (by omega) (by omega) (by omega)⟩
theorem FMp.off {js : List Nat} {M M' : ST} (hj : ∀ j, j ∈ js → j = 9 ∨ j = 10 ∨ j = 12 ∨ j = 13 ∨ j = 14 ∨ j = 19 ∨ j = 20) (h : Off 0 js M M') : FMp M M' := ⟨fun k h1 h2 => h.row h1, fun j a => h.at (fun q => by have := hj j q; omega)⟩
theorem clauseM (S : ST) : f_X10_takeClause S = bn1 (f_X10_readWord S) fun S1 => bn1 (f_X10_clauseOf S1) fun r2 => if r2 < 0 then (b_X10_takeClause_25 r2 S1) else (if (((S1.1 0 19) >>> (r2 &&& 31)) &&& ((1 : Int32))) = ((1 : Int32)) then (b_X10_takeClause_25 r2 S1) else (nm (su S1 0 19 ((S1.1 0 19) ||| (((1 : Int32)) <<< (r2 &&& 31)))) fun S8 => nm (su S8 0 20 ((S8.1 0 20) + ((1 : Int32)))) fun S9 => nm (su S9 0 10 (S9.1 0 12)) fun S10 => chM9 r2 S10)) := rfl
/-- the clauses of a place, in both -/
theorem place_loop {len : Nat} : ∀ (r a p n1 n2 : Nat) (S M : ST), pcn a + r = 9 → a < 512 → r + 1 < n1 → r + 3 < n2 → TxR len S M → p ≤ len → S.1 3 1 = nI p → M.1 0 10 = nI p → DR S M → M.1 0 19 = nI (pm a) → M.1 0 20 = nI (pcn a) →
    ∃ (r' : Int32) (S' : ST) (f : Int32) (M' : ST), lp (fun _ _ _ => none) b_X4_readPlace_8 n1 (nI a) (nI (pcn a)) S = some (r', S') ∧ lp (fun _ _ => none) b_X10_place_16 n2 0 M = b_X10_place_35 f M' ∧ FC S S' ∧ FMp M M' ∧ ((r' = 1 ∧ f = 0 ∧ S'.1 3 7 = M'.1 0 20 ∧ S'.1 3 6 = S.1 3 6 ∧ M'.1 0 9 = M.1 0 9 ∧ DR S' M') ∨ (r' = 0 ∧ ¬ f = 0 ∧ Fld f S' M')) := by
  intro r
  induction r with
  | zero =>
    intro a p n1 n2 S M ha ha2 hn1 hn2 hT hp hS hM hD h19 h20
    obtain ⟨n1, rfl⟩ : ∃ k, n1 = k + 1 := ⟨n1 - 1, by omega⟩
    obtain ⟨n2, rfl⟩ : ∃ k, n2 = k + 1 + 1 := ⟨n2 - 2, by omega⟩
    have z : ¬ (9 : Int32) < nI (pcn a) := nI_nlt (a := 9) (by omega) (by omega)
    obtain ⟨h3, hl, hl2, hB⟩ := id hT
    obtain ⟨q, hq⟩ := skip_ex (M.1 7) len (len - p) p (by omega)
    have hh := here_ok h3 hl2 hM hq
    obtain ⟨M8, hM8⟩ : ∃ T : ST, T = su M 0 10 (nI q) := ⟨_, rfl⟩
    have o8 : Off 0 [10] M M8 := by rw [hM8]; exact Off.rf.su 10 _ (by simp)
    have f8 : FMi M M8 := FMi.off (by intro j hj; simp at hj; omega) o8
    rw [← hM8] at hh
    by_cases hql : q = len
    · obtain ⟨S1, a1, a2, a3, a4⟩ := take_ok h3 hl (fun j hj => (hB j hj).1) (fun j hj => (hB j hj).2) hS hq
      have k0 : S1.1 3 2 = 0 := by
        rcases a4 with ⟨-, b⟩ | ⟨b, -⟩ | ⟨b, -⟩ | ⟨b, -⟩
        · exact b
        · omega
        · omega
        · omega
      have eb : atB (M.1 7) len q = -1 := by unfold atB; rw [if_neg (by omega)]
      refine ⟨1, su S1 3 7 (nI (pcn a)), 0, M8, ?_, ?_, (FC.off a2).tr (FC.off (js := [7]) (Off.rf.su 7 _ (by simp))), f8.p, Or.inl ⟨rfl, rfl, by rw [su_s, o8.at (by simp), h20], by rw [su_o _ _ _ (by omega), a2.at (by simp)], o8.at (by simp), hD.fr (fun k k1 k2 => by rw [su_r _ _ _ _ (by omega), a2.row (by omega)]) (fun k k1 k2 => o8.row (by omega))⟩⟩
      · rw [lp_s]; rw [b_X4_readPlace_8]; rw [if_neg z, a1, bn1_some, if_pos k0, nm_x]
      · rw [lp_s]; rw [b_X10_place_16]; rw [if_pos rfl, hh, bnd_some, eb, if_pos (by decide)]
    · have hlt : q < len := by have := hq.2.1; omega
      have eb : atB (M.1 7) len q = M.1 7 q := by unfold atB; rw [if_pos hlt]
      have hb0 : ¬ M.1 7 q < 0 := lt0 (hB q hlt).2.1
      have r7 : M8.1 7 = M.1 7 := o8.row (by omega)
      obtain ⟨S1, M1, a1, a2, a3, a4, a5, a6, a7⟩ := clause_ok (hT.fc FC.rf f8) hS (by rw [r7]; exact hq) (by rw [hM8, su_s]) hlt
      have m10 : M1.1 0 10 = nI q := by rw [a6.at (by simp), hM8, su_s]
      have e16 : ∀ f M2, ¬ f = 0 → f_X10_takeClause M8 = some (f, M2) → lp (fun _ _ => none) b_X10_place_16 (n2 + 1 + 1) 0 M = b_X10_place_35 f M2 := fun f M2 hf hm => by
        rw [lp_s]; rw [b_X10_place_16]; rw [if_pos rfl, hh, bnd_some, eb, if_neg hb0, hm, bnd_some, lp_s]; rw [b_X10_place_16]; rw [if_neg hf]
      have fM1 : FMp M M1 := f8.p.tr (FMp.off (by intro j hj; simp at hj; omega) a6)
      rcases a7 with ⟨c, e, c1, c2, c3, c4, c5, c6⟩ | ⟨c1, c2⟩
      · obtain ⟨b1, b2, -⟩ := bits_ok a ha2 c c1
        have bset := (pcn_9 a ha2).2 (by omega) c c1
        refine ⟨0, su (su S1 3 5 3) 3 6 (nI q), 3, su M1 0 9 (nI q), ?_, ?_, FC.off (off_fail a2), fM1.tr (FMp.off (js := [9]) (by intro j hj; simp at hj; omega) (Off.rf.su 9 _ (by simp))), Or.inr ⟨rfl, by decide, Or.inr (Or.inr (Or.inl rfl)), by rw [su_o _ _ _ (by omega), su_s], by rw [su_s, su_s]⟩⟩
        · rw [lp_s]; rw [b_X4_readPlace_8]; rw [if_neg z, a1, bn1_some, if_neg a4, c2, bn1_some, if_neg (show ¬ nI c = -1 from fun q => by have := nI_pos (n := c) (by omega); rw [q] at this; exact this (by decide)), if_pos (b1.mpr bset), failC, bnd_some, chk_t _ (by decide), a3]
        · refine e16 3 _ (by decide) ?_
          have m19 : M1.1 0 19 = nI (pm a) := by rw [a6.at (by simp), o8.at (by simp)]; exact h19
          have pc0 : c < 9 → pi c < 9 := (show ∀ c, c < 9 → pi c < 9 by decide) c
          rw [clauseM, a5, bn1_some, c3, bn1_some, if_neg (nI_pos (by have := pc0 c1; omega)), m19, if_pos (b2.mpr bset)]
          unfold b_X10_takeClause_25 b_X10_takeClause_35
          rw [if_pos (nI_pos' (by have := pc0 c1; omega)), failsM, bnd_some, m10]
      · refine ⟨0, su (su S1 3 5 1) 3 6 (nI q), 1, su M1 0 9 (nI q), ?_, ?_, FC.off (off_fail a2), fM1.tr (FMp.off (js := [9]) (by intro j hj; simp at hj; omega) (Off.rf.su 9 _ (by simp))), Or.inr ⟨rfl, by decide, Or.inl rfl, by rw [su_o _ _ _ (by omega), su_s], by rw [su_s, su_s]⟩⟩
        · rw [lp_s]; rw [b_X4_readPlace_8]; rw [if_neg z, a1, bn1_some, if_neg a4, c1, bn1_some, if_pos rfl, failC, bnd_some, chk_t _ (by decide), a3]
        · refine e16 1 _ (by decide) ?_
          rw [clauseM, a5, bn1_some, c2, bn1_some, if_pos (by decide)]
          unfold b_X10_takeClause_25 b_X10_takeClause_35
          rw [if_neg (by decide), failsM, bnd_some, m10]
  | succ r ih =>
    intro a p n1 n2 S M ha ha2 hn1 hn2 hT hp hS hM hD h19 h20
    obtain ⟨n1, rfl⟩ : ∃ k, n1 = k + 1 := ⟨n1 - 1, by omega⟩
    obtain ⟨n2, rfl⟩ : ∃ k, n2 = k + 1 + 1 := ⟨n2 - 2, by omega⟩
    have z : ¬ (9 : Int32) < nI (pcn a) := nI_nlt (a := 9) (by omega) (by omega)
    obtain ⟨h3, hl, hl2, hB⟩ := id hT
    obtain ⟨q, hq⟩ := skip_ex (M.1 7) len (len - p) p (by omega)
    have hh := here_ok h3 hl2 hM hq
    obtain ⟨M8, hM8⟩ : ∃ T : ST, T = su M 0 10 (nI q) := ⟨_, rfl⟩
    have o8 : Off 0 [10] M M8 := by rw [hM8]; exact Off.rf.su 10 _ (by simp)
    have f8 : FMi M M8 := FMi.off (by intro j hj; simp at hj; omega) o8
    rw [← hM8] at hh
    by_cases hql : q = len
    · obtain ⟨S1, a1, a2, a3, a4⟩ := take_ok h3 hl (fun j hj => (hB j hj).1) (fun j hj => (hB j hj).2) hS hq
      have k0 : S1.1 3 2 = 0 := by
        rcases a4 with ⟨-, b⟩ | ⟨b, -⟩ | ⟨b, -⟩ | ⟨b, -⟩
        · exact b
        · omega
        · omega
        · omega
      have eb : atB (M.1 7) len q = -1 := by unfold atB; rw [if_neg (by omega)]
      refine ⟨1, su S1 3 7 (nI (pcn a)), 0, M8, ?_, ?_, (FC.off a2).tr (FC.off (js := [7]) (Off.rf.su 7 _ (by simp))), f8.p, Or.inl ⟨rfl, rfl, by rw [su_s, o8.at (by simp), h20], by rw [su_o _ _ _ (by omega), a2.at (by simp)], o8.at (by simp), hD.fr (fun k k1 k2 => by rw [su_r _ _ _ _ (by omega), a2.row (by omega)]) (fun k k1 k2 => o8.row (by omega))⟩⟩
      · rw [lp_s]; rw [b_X4_readPlace_8]; rw [if_neg z, a1, bn1_some, if_pos k0, nm_x]
      · rw [lp_s]; rw [b_X10_place_16]; rw [if_pos rfl, hh, bnd_some, eb, if_pos (by decide)]
    · have hlt : q < len := by have := hq.2.1; omega
      have eb : atB (M.1 7) len q = M.1 7 q := by unfold atB; rw [if_pos hlt]
      have hb0 : ¬ M.1 7 q < 0 := lt0 (hB q hlt).2.1
      have r7 : M8.1 7 = M.1 7 := o8.row (by omega)
      obtain ⟨S1, M1, a1, a2, a3, a4, a5, a6, a7⟩ := clause_ok (hT.fc FC.rf f8) hS (by rw [r7]; exact hq) (by rw [hM8, su_s]) hlt
      have m10 : M1.1 0 10 = nI q := by rw [a6.at (by simp), hM8, su_s]
      have e16 : ∀ f M2, ¬ f = 0 → f_X10_takeClause M8 = some (f, M2) → lp (fun _ _ => none) b_X10_place_16 (n2 + 1 + 1) 0 M = b_X10_place_35 f M2 := fun f M2 hf hm => by
        rw [lp_s]; rw [b_X10_place_16]; rw [if_pos rfl, hh, bnd_some, eb, if_neg hb0, hm, bnd_some, lp_s]; rw [b_X10_place_16]; rw [if_neg hf]
      have fM1 : FMp M M1 := f8.p.tr (FMp.off (by intro j hj; simp at hj; omega) a6)
      rcases a7 with ⟨c, e, c1, c2, c3, c4, c5, c6⟩ | ⟨c1, c2⟩
      · obtain ⟨b1, b2, b3⟩ := bits_ok a ha2 c c1
        have m19 : M1.1 0 19 = nI (pm a) := by rw [a6.at (by simp), o8.at (by simp)]; exact h19
        have m20 : M1.1 0 20 = nI (pcn a) := by rw [a6.at (by simp), o8.at (by simp)]; exact h20
        have pc0 : pi c < 9 := (show ∀ c, c < 9 → pi c < 9 by decide) c c1
        have nc1 : ¬ nI c = -1 := fun q => by have := nI_pos (n := c) (by omega); rw [q] at this; exact this (by decide)
        by_cases bset : bitn a c = 1
        · refine ⟨0, su (su S1 3 5 3) 3 6 (nI q), 3, su M1 0 9 (nI q), ?_, ?_, FC.off (off_fail a2), fM1.tr (FMp.off (js := [9]) (by intro j hj; simp at hj; omega) (Off.rf.su 9 _ (by simp))), Or.inr ⟨rfl, by decide, Or.inr (Or.inr (Or.inl rfl)), by rw [su_o _ _ _ (by omega), su_s], by rw [su_s, su_s]⟩⟩
          · rw [lp_s]; rw [b_X4_readPlace_8]; rw [if_neg z, a1, bn1_some, if_neg a4, c2, bn1_some, if_neg nc1, if_pos (b1.mpr bset), failC, bnd_some, chk_t _ (by decide), a3]
          · refine e16 3 _ (by decide) ?_
            rw [clauseM, a5, bn1_some, c3, bn1_some, if_neg (nI_pos (by omega)), m19, if_pos (b2.mpr bset)]
            unfold b_X10_takeClause_25 b_X10_takeClause_35
            rw [if_pos (nI_pos' (by omega)), failsM, bnd_some, m10]
        · obtain ⟨g1, g2, g3, g4⟩ := b3 bset
          obtain ⟨M9, hM9⟩ : ∃ T : ST, T = su (su (su M1 0 19 (nI (pm (a + 2 ^ c)))) 0 20 (nI (pcn (a + 2 ^ c)))) 0 10 (nI e) := ⟨_, rfl⟩
          have o9 : Off 0 [10, 19, 20] M1 M9 := by rw [hM9]; exact ((Off.rf.su 19 _ (by simp)).su 20 _ (by simp)).su 10 _ (by simp)
          have hm : f_X10_takeClause M8 = chM9 (nI (pi c)) M9 := by
            rw [clauseM, a5, bn1_some, c3, bn1_some, if_neg (nI_pos (by omega)), m19, if_neg (fun h => bset (b2.mp h)), nm_x, nm_x, nm_x, g2, su_o _ _ _ (by omega), m20, nI_1, ← g4, su_o _ _ _ (by omega), su_o _ _ _ (by omega), c6, ← hM9]
          have fM9 : FMp M M9 := fM1.tr (FMp.off (by intro j hj; simp at hj; omega) o9)
          have tx9 : TxR len S1 M9 := hT.fr (by rw [a2.row (by omega)]) (by rw [a2.row (by omega)]) (fM9.2 8 (by omega)) (fM9.1 7 (by omega) (by omega))
          have D9 : DR S1 M9 := hD.fr (fun k k1 k2 => a2.row (by omega)) (fun k k1 k2 => by rw [o9.row (by omega), a6.row (by omega), o8.row (by omega)])
          obtain ⟨r', S2, f, M2, k1, k2, k3, k4, k5⟩ := read_ok c1 tx9 c4 c5 (by rw [hM9, su_s]) D9
          have hC : lp (fun _ _ _ => none) b_X4_readPlace_8 (n1 + 1) (nI a) (nI (pcn a)) S = if r' = 0 then some (0, S2) else lp (fun _ _ _ => none) b_X4_readPlace_8 n1 (nI (a + 2 ^ c)) (nI (pcn (a + 2 ^ c))) S2 := by
            rw [lp_s]; rw [b_X4_readPlace_8]; rw [if_neg z, a1, bn1_some, if_neg a4, c2, bn1_some, if_neg nc1, if_neg (fun h => bset (b1.mp h)), nm_x, k1, bnd_some, nm_x, nI_1, g1, ← g4]
          rw [hC]
          rcases k5 with ⟨rfl, rfl, ⟨e', x1, x2, x3⟩, x4, x5, x6⟩ | ⟨rfl, f0, hF⟩
          · have fS2 : FC S S2 := (FC.off a2).tr k3
            have fM2 : FMp M M2 := fM9.tr k4.p
            obtain ⟨r2, S3, f2, M3, y1, y2, y3, y4, y5⟩ := ih (a + 2 ^ c) e' n1 (n2 + 1) S2 M2 (by omega) g3 (by omega) (by omega) (hT.fr (fS2 1 (by omega) (by omega)) (fS2 2 (by omega) (by omega)) (fM2.2 8 (by omega)) (fM2.1 7 (by omega) (by omega))) x1 x2 x3 x6 (by rw [k4.2 19 (by omega) (by omega) (by omega) (by omega) (by omega), hM9, su_o _ _ _ (by omega), su_o _ _ _ (by omega), su_s]) (by rw [k4.2 20 (by omega) (by omega) (by omega) (by omega) (by omega), hM9, su_o _ _ _ (by omega), su_s])
            have c36 : S2.1 3 6 = S.1 3 6 := x4.trans (a2.at (by simp))
            have c09 : M2.1 0 9 = M.1 0 9 := by rw [x5, o9.at (by simp), a6.at (by simp), o8.at (by simp)]
            refine ⟨r2, S3, f2, M3, by rw [if_neg w10]; exact y1, ?_, fS2.tr y3, fM2.tr y4, ?_⟩
            · rw [lp_s]; rw [b_X10_place_16]; rw [if_pos rfl, hh, bnd_some, eb, if_neg hb0, hm, k2, bnd_some]
              exact y2
            · rcases y5 with ⟨u1, u2, u3, u4, u5, u6⟩ | u
              · exact Or.inl ⟨u1, u2, u3, u4.trans c36, u5.trans c09, u6⟩
              · exact Or.inr u
          · refine ⟨0, S2, f, M2, by rw [if_pos rfl], e16 f M2 f0 (hm.trans k2), (FC.off a2).tr k3, fM9.tr k4.p, Or.inr ⟨rfl, f0, hF⟩⟩
      · refine ⟨0, su (su S1 3 5 1) 3 6 (nI q), 1, su M1 0 9 (nI q), ?_, ?_, FC.off (off_fail a2), fM1.tr (FMp.off (js := [9]) (by intro j hj; simp at hj; omega) (Off.rf.su 9 _ (by simp))), Or.inr ⟨rfl, by decide, Or.inl rfl, by rw [su_o _ _ _ (by omega), su_s], by rw [su_s, su_s]⟩⟩
        · rw [lp_s]; rw [b_X4_readPlace_8]; rw [if_neg z, a1, bn1_some, if_neg a4, c1, bn1_some, if_pos rfl, failC, bnd_some, chk_t _ (by decide), a3]
        · refine e16 1 _ (by decide) ?_
          rw [clauseM, a5, bn1_some, c2, bn1_some, if_pos (by decide)]
          unfold b_X10_takeClause_25 b_X10_takeClause_35
          rw [if_neg (by decide), failsM, bnd_some, m10]
