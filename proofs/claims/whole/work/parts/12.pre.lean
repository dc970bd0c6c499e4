theorem ip {α : Type} {q : Prop} {i : Decidable q} {x y z : α} (h : @ite α q i x y = z) (hq : q) : x = z := (if_pos hq).symm.trans h
theorem inn {α : Type} {q : Prop} {i : Decidable q} {x y z : α} (h : @ite α q i x y = z) (hq : ¬ q) : y = z := (if_neg hq).symm.trans h
def om {β : Type} (o : Option Nat) (x : β) (f : Nat → β) : β := match o with
  | none => x
  | some k => f k
theorem om_n {β : Type} {x z : β} {f : Nat → β} (h : om none x f = z) : x = z := h
theorem om_s {β : Type} {x z : β} {f : Nat → β} {k : Nat} (h : om (some k) x f = z) : f k = z := h
def sal (t : Nat) : List Int32 := ((SAL[t]?).map fun q => q.2.2).getD []
def cpk (sp dp n : Int32) (n0 n1 : Nat) : Bool := decide (¬ sp < 0) && (decide (¬ dp < 0) && (decide (¬ n < 0) && (decide (sp.toNatClampNeg + n.toNatClampNeg ≤ n0) && decide (dp.toNatClampNeg + n.toNatClampNeg ≤ n1))))
theorem cpk_s {sp dp n : Int32} {n0 n1 : Nat} (h : cpk sp dp n n0 n1 = true) : ¬ sp < 0 ∧ ¬ dp < 0 ∧ ¬ n < 0 ∧ sp.toNatClampNeg + n.toNatClampNeg ≤ n0 ∧ dp.toNatClampNeg + n.toNatClampNeg ≤ n1 := by
  simpa only [cpk, Bool.and_eq_true, decide_eq_true_eq] using h
section TP
variable {p : Program} {l : Launch} {e : Env} {R : Room} {s : State} {m : MethodId} {args : Array Value} {below : List Frame} {meth : Method} {c : Code} {H : Heap} {locs : List Loc} {cells slots : Nat} {Q : State → Prop} {pc : Nat} {ls : Array Slot} {rest : List Value} {cc : ByteArray}
theorem tp_i {x y : Int32} (h : y = x) (k : W p l e R s m args below meth c H locs cells slots Q (F0 m pc ls (.int y :: rest))) : W p l e R s m args below meth c H locs cells slots Q (F0 m pc ls (.int x :: rest)) := h ▸ k
theorem tp_l {x y : Int64} (h : y = x) (k : W p l e R s m args below meth c H locs cells slots Q (F0 m pc ls (.long y :: rest))) : W p l e R s m args below meth c H locs cells slots Q (F0 m pc ls (.long x :: rest)) := h ▸ k
theorem tp_r {ad : Nat → Nat} {x y : Nat} (h : y = x) (k : W p l e R s m args below meth c H locs cells slots Q (F0 m pc ls (.ref (ad y) :: rest))) : W p l e R s m args below meth c H locs cells slots Q (F0 m pc ls (.ref (ad x) :: rest)) := h ▸ k
end TP
theorem eC_0 (g : GG) (ad : Nat → Nat) (S : ST) : ent kC g ad S 0 = .inr (9, [.ref (ad 1), .ref (ad 3), .ref (ad 4), .ref (ad 9), .ref (ad 14), .int (S.1 0 5), .ref (ad 31), .ref (ad 34), .ref (ad 41), .ref (ad 42), .ref (ad 51), .ref (ad 52), .ref (ad 53), .int (S.1 0 13)]) := rfl
theorem eC_1 (g : GG) (ad : Nat → Nat) (S : ST) : ent kC g ad S 1 = .inr (7, [.ref (ad 2), .int (S.1 1 1)]) := rfl
theorem eC_2 (g : GG) (ad : Nat → Nat) (S : ST) : ent kC g ad S 2 = .inl (g.2.1 0, (300, .inl (S.1 2))) := rfl
theorem eC_3 (g : GG) (ad : Nat → Nat) (S : ST) : ent kC g ad S 3 = .inr (4, [.ref (ad 1), .int (S.1 3 1), .int (S.1 3 2), .int (S.1 3 3), .int (S.1 3 4), .int (S.1 3 5), .int (S.1 3 6), .int (S.1 3 7)]) := rfl
theorem eC_4 (g : GG) (ad : Nat → Nat) (S : ST) : ent kC g ad S 4 = .inr (3, [.ref (ad 5), .ref (ad 6), .ref (ad 7), .ref (ad 8)]) := rfl
theorem eC_5 (g : GG) (ad : Nat → Nat) (S : ST) : ent kC g ad S 5 = .inl (g.2.1 0, (9, .inl (S.1 5))) := rfl
theorem eC_6 (g : GG) (ad : Nat → Nat) (S : ST) : ent kC g ad S 6 = .inl (g.2.1 0, (24, .inl (S.1 6))) := rfl
theorem eC_7 (g : GG) (ad : Nat → Nat) (S : ST) : ent kC g ad S 7 = .inl (g.2.1 0, (24, .inl (S.1 7))) := rfl
theorem eC_8 (g : GG) (ad : Nat → Nat) (S : ST) : ent kC g ad S 8 = .inl (g.2.1 0, (12, .inl (S.1 8))) := rfl
theorem eC_9 (g : GG) (ad : Nat → Nat) (S : ST) : ent kC g ad S 9 = .inr (3, [.ref (ad 10), .ref (ad 11), .ref (ad 12), .ref (ad 13)]) := rfl
theorem eC_10 (g : GG) (ad : Nat → Nat) (S : ST) : ent kC g ad S 10 = .inl (g.2.1 0, (9, .inl (S.1 10))) := rfl
theorem eC_11 (g : GG) (ad : Nat → Nat) (S : ST) : ent kC g ad S 11 = .inl (g.2.1 0, (24, .inl (S.1 11))) := rfl
theorem eC_12 (g : GG) (ad : Nat → Nat) (S : ST) : ent kC g ad S 12 = .inl (g.2.1 0, (24, .inl (S.1 12))) := rfl
theorem eC_13 (g : GG) (ad : Nat → Nat) (S : ST) : ent kC g ad S 13 = .inl (g.2.1 0, (12, .inl (S.1 13))) := rfl
theorem eC_14 (g : GG) (ad : Nat → Nat) (S : ST) : ent kC g ad S 14 = .inl (g.2.1 2, (8, .inr (.inr (.inr (.inr (fun j => some (ad (15 + 2 * j)))))))) := rfl
theorem eC_15 (g : GG) (ad : Nat → Nat) (S : ST) : ent kC g ad S 15 = .inr (6, [.ref (ad 16)]) := rfl
theorem eC_16 (g : GG) (ad : Nat → Nat) (S : ST) : ent kC g ad S 16 = .inl (g.2.1 0, (5, .inl (S.1 16))) := rfl
theorem eC_17 (g : GG) (ad : Nat → Nat) (S : ST) : ent kC g ad S 17 = .inr (6, [.ref (ad 18)]) := rfl
theorem eC_18 (g : GG) (ad : Nat → Nat) (S : ST) : ent kC g ad S 18 = .inl (g.2.1 0, (5, .inl (S.1 18))) := rfl
theorem eC_19 (g : GG) (ad : Nat → Nat) (S : ST) : ent kC g ad S 19 = .inr (6, [.ref (ad 20)]) := rfl
theorem eC_20 (g : GG) (ad : Nat → Nat) (S : ST) : ent kC g ad S 20 = .inl (g.2.1 0, (5, .inl (S.1 20))) := rfl
theorem eC_21 (g : GG) (ad : Nat → Nat) (S : ST) : ent kC g ad S 21 = .inr (6, [.ref (ad 22)]) := rfl
theorem eC_22 (g : GG) (ad : Nat → Nat) (S : ST) : ent kC g ad S 22 = .inl (g.2.1 0, (5, .inl (S.1 22))) := rfl
theorem eC_23 (g : GG) (ad : Nat → Nat) (S : ST) : ent kC g ad S 23 = .inr (6, [.ref (ad 24)]) := rfl
theorem eC_24 (g : GG) (ad : Nat → Nat) (S : ST) : ent kC g ad S 24 = .inl (g.2.1 0, (5, .inl (S.1 24))) := rfl
theorem eC_25 (g : GG) (ad : Nat → Nat) (S : ST) : ent kC g ad S 25 = .inr (6, [.ref (ad 26)]) := rfl
theorem eC_26 (g : GG) (ad : Nat → Nat) (S : ST) : ent kC g ad S 26 = .inl (g.2.1 0, (5, .inl (S.1 26))) := rfl
theorem eC_27 (g : GG) (ad : Nat → Nat) (S : ST) : ent kC g ad S 27 = .inr (6, [.ref (ad 28)]) := rfl
theorem eC_28 (g : GG) (ad : Nat → Nat) (S : ST) : ent kC g ad S 28 = .inl (g.2.1 0, (5, .inl (S.1 28))) := rfl
theorem eC_29 (g : GG) (ad : Nat → Nat) (S : ST) : ent kC g ad S 29 = .inr (6, [.ref (ad 30)]) := rfl
theorem eC_30 (g : GG) (ad : Nat → Nat) (S : ST) : ent kC g ad S 30 = .inl (g.2.1 0, (5, .inl (S.1 30))) := rfl
theorem eC_31 (g : GG) (ad : Nat → Nat) (S : ST) : ent kC g ad S 31 = .inr (5, [.ref (ad 32), .ref (ad 33), .int (S.1 31 2), .int (S.1 31 3)]) := rfl
theorem eC_32 (g : GG) (ad : Nat → Nat) (S : ST) : ent kC g ad S 32 = .inl (g.2.1 0, (5, .inl (S.1 32))) := rfl
theorem eC_33 (g : GG) (ad : Nat → Nat) (S : ST) : ent kC g ad S 33 = .inl (g.2.1 0, (9, .inl (S.1 33))) := rfl
theorem eC_34 (g : GG) (ad : Nat → Nat) (S : ST) : ent kC g ad S 34 = .inl (g.2.1 3, (2, .inr (.inr (.inr (.inr (fun j => some (ad (35 + 3 * j)))))))) := rfl
theorem eC_35 (g : GG) (ad : Nat → Nat) (S : ST) : ent kC g ad S 35 = .inr (5, [.ref (ad 36), .ref (ad 37), .int (S.1 35 2), .int (S.1 35 3)]) := rfl
theorem eC_36 (g : GG) (ad : Nat → Nat) (S : ST) : ent kC g ad S 36 = .inl (g.2.1 0, (5, .inl (S.1 36))) := rfl
theorem eC_37 (g : GG) (ad : Nat → Nat) (S : ST) : ent kC g ad S 37 = .inl (g.2.1 0, (9, .inl (S.1 37))) := rfl
theorem eC_38 (g : GG) (ad : Nat → Nat) (S : ST) : ent kC g ad S 38 = .inr (5, [.ref (ad 39), .ref (ad 40), .int (S.1 38 2), .int (S.1 38 3)]) := rfl
theorem eC_39 (g : GG) (ad : Nat → Nat) (S : ST) : ent kC g ad S 39 = .inl (g.2.1 0, (5, .inl (S.1 39))) := rfl
theorem eC_40 (g : GG) (ad : Nat → Nat) (S : ST) : ent kC g ad S 40 = .inl (g.2.1 0, (9, .inl (S.1 40))) := rfl
theorem eC_41 (g : GG) (ad : Nat → Nat) (S : ST) : ent kC g ad S 41 = .inr (2, [.int (S.1 41 0), .int (S.1 41 1), .int (S.1 41 2)]) := rfl
theorem eC_42 (g : GG) (ad : Nat → Nat) (S : ST) : ent kC g ad S 42 = .inr (1, [.ref (ad 43), .ref (ad 44), .ref (ad 45), .ref (ad 46), .ref (ad 47), .ref (ad 48), .ref (ad 49), .ref (ad 50), .int (S.1 42 8), .int (S.1 42 9), .int (S.1 42 10), .int (S.1 42 11), .int (S.1 42 12)]) := rfl
theorem eC_43 (g : GG) (ad : Nat → Nat) (S : ST) : ent kC g ad S 43 = .inr (2, [.int (S.1 43 0), .int (S.1 43 1), .int (S.1 43 2)]) := rfl
theorem eC_44 (g : GG) (ad : Nat → Nat) (S : ST) : ent kC g ad S 44 = .inl (g.2.1 0, (201, .inl (S.1 44))) := rfl
theorem eC_45 (g : GG) (ad : Nat → Nat) (S : ST) : ent kC g ad S 45 = .inl (g.2.1 0, (201, .inl (S.1 45))) := rfl
theorem eC_46 (g : GG) (ad : Nat → Nat) (S : ST) : ent kC g ad S 46 = .inl (g.2.1 0, (201, .inl (S.1 46))) := rfl
theorem eC_47 (g : GG) (ad : Nat → Nat) (S : ST) : ent kC g ad S 47 = .inl (g.2.1 0, (201, .inl (S.1 47))) := rfl
theorem eC_48 (g : GG) (ad : Nat → Nat) (S : ST) : ent kC g ad S 48 = .inl (g.2.1 0, (201, .inl (S.1 48))) := rfl
theorem eC_49 (g : GG) (ad : Nat → Nat) (S : ST) : ent kC g ad S 49 = .inl (g.2.1 0, (201, .inl (S.1 49))) := rfl
theorem eC_50 (g : GG) (ad : Nat → Nat) (S : ST) : ent kC g ad S 50 = .inl (g.2.1 0, (201, .inl (S.1 50))) := rfl
theorem eC_51 (g : GG) (ad : Nat → Nat) (S : ST) : ent kC g ad S 51 = .inr (0, [.ref (ad 4), .ref (ad 42), .int (S.1 51 2), .int (S.1 51 3), .int (S.1 51 4), .int (S.1 51 5), .int (S.1 51 6), .int (S.1 51 7), .int (S.1 51 8), .int (S.1 51 9), .int (S.1 51 10), .int (S.1 51 11), .int (S.1 51 12), .int (S.1 51 13), .int (S.1 51 14), .int (S.1 51 15), .int (S.1 51 16)]) := rfl
theorem eC_52 (g : GG) (ad : Nat → Nat) (S : ST) : ent kC g ad S 52 = .inr (8, [.int (S.1 52 0), .int (S.1 52 1), .int (S.1 52 2), .int (S.1 52 3), .int (S.1 52 4)]) := rfl
theorem eC_53 (g : GG) (ad : Nat → Nat) (S : ST) : ent kC g ad S 53 = .inl (g.2.1 0, (8, .inl (S.1 53))) := rfl
def iaCL : List Nat := [2, 5, 6, 7, 8, 10, 11, 12, 13, 16, 18, 20, 22, 24, 26, 28, 30, 32, 33, 36, 37, 39, 40, 44, 45, 46, 47, 48, 49, 50, 53]
def iaC (k : Nat) : Bool := iaCL.contains k
def lnC (k : Nat) : Nat := ([0, 0, 300, 0, 0, 9, 24, 24, 12, 0, 9, 24, 24, 12, 8, 0, 5, 0, 5, 0, 5, 0, 5, 0, 5, 0, 5, 0, 5, 0, 5, 0, 5, 9, 2, 0, 5, 9, 0, 5, 9, 0, 0, 0, 201, 201, 201, 201, 201, 201, 201, 0, 0, 8] : List Nat).getD k 0
theorem iaC_cases {P : Nat → Prop} (h : ∀ k ∈ iaCL, P k) {k : Nat} (hk : iaC k = true) : P k := h k (by simpa [iaC] using hk)
theorem ltiaC {k : Nat} (h : iaC k = true) : k < kC.1 := iaC_cases (P := fun k => k < kC.1) (by decide) h
theorem eiaC (g : GG) (ad : Nat → Nat) (S : ST) {k : Nat} (h : iaC k = true) : ent kC g ad S k = .inl (g.2.1 0, (lnC k, .inl (S.1 k))) := iaC_cases (P := fun k => ent kC g ad S k = .inl (g.2.1 0, (lnC k, .inl (S.1 k)))) (by
  simp only [iaCL, List.forall_mem_cons]
  exact ⟨rfl, rfl, rfl, rfl, rfl, rfl, rfl, rfl, rfl, rfl, rfl, rfl, rfl, rfl, rfl, rfl, rfl, rfl, rfl, rfl, rfl, rfl, rfl, rfl, rfl, rfl, rfl, rfl, rfl, rfl, rfl, fun _ q => absurd q List.not_mem_nil⟩) h
theorem eM_0 (g : GG) (ad : Nat → Nat) (S : ST) : ent kM g ad S 0 = .inr (10, [.ref (ad 1), .ref (ad 2), .ref (ad 3), .ref (ad 4), .int (S.1 0 4), .ref (ad 5), .ref (ad 6), .ref (ad 7), .int (S.1 0 8), .int (S.1 0 9), .int (S.1 0 10), .long S.2, .int (S.1 0 12), .int (S.1 0 13), .int (S.1 0 14), .ref (ad 8), .ref (ad 9), .ref (ad 10), .ref (ad 11), .int (S.1 0 19), .int (S.1 0 20), .int (S.1 0 21), .int (S.1 0 22), .int (S.1 0 23), .int (S.1 0 24), .int (S.1 0 25), .int (S.1 0 26), .int (S.1 0 27), .int (S.1 0 28), .ref (ad 12), .ref (ad 13), .ref (ad 14), .ref (ad 15), .int (S.1 0 33), .int (S.1 0 34), .int (S.1 0 35), .int (S.1 0 36), .int (S.1 0 37), .int (S.1 0 38), .int (S.1 0 39), .int (S.1 0 40), .ref (ad 16), .int (S.1 0 42), .ref (ad 17), .ref (ad 18), .ref (ad 19)]) := rfl
theorem eM_1 (g : GG) (ad : Nat → Nat) (S : ST) : ent kM g ad S 1 = .inl (g.2.1 0, (9, .inl (S.1 1))) := rfl
theorem eM_2 (g : GG) (ad : Nat → Nat) (S : ST) : ent kM g ad S 2 = .inl (g.2.1 0, (24, .inl (S.1 2))) := rfl
theorem eM_3 (g : GG) (ad : Nat → Nat) (S : ST) : ent kM g ad S 3 = .inl (g.2.1 1, (24, .inl (S.1 3))) := rfl
theorem eM_4 (g : GG) (ad : Nat → Nat) (S : ST) : ent kM g ad S 4 = .inl (g.2.1 0, (12, .inl (S.1 4))) := rfl
theorem eM_5 (g : GG) (ad : Nat → Nat) (S : ST) : ent kM g ad S 5 = .inl (g.2.1 0, (40, .inl (S.1 5))) := rfl
theorem eM_6 (g : GG) (ad : Nat → Nat) (S : ST) : ent kM g ad S 6 = .inl (g.2.1 0, (5, .inl (S.1 6))) := rfl
theorem eM_7 (g : GG) (ad : Nat → Nat) (S : ST) : ent kM g ad S 7 = .inl (g.2.1 0, (300, .inl (S.1 7))) := rfl
theorem eM_8 (g : GG) (ad : Nat → Nat) (S : ST) : ent kM g ad S 8 = .inl (g.2.1 0, (9, .inl (S.1 8))) := rfl
theorem eM_9 (g : GG) (ad : Nat → Nat) (S : ST) : ent kM g ad S 9 = .inl (g.2.1 0, (24, .inl (S.1 9))) := rfl
theorem eM_10 (g : GG) (ad : Nat → Nat) (S : ST) : ent kM g ad S 10 = .inl (g.2.1 1, (24, .inl (S.1 10))) := rfl
theorem eM_11 (g : GG) (ad : Nat → Nat) (S : ST) : ent kM g ad S 11 = .inl (g.2.1 0, (12, .inl (S.1 11))) := rfl
theorem eM_12 (g : GG) (ad : Nat → Nat) (S : ST) : ent kM g ad S 12 = .inl (g.2.1 0, (201, .inl (S.1 12))) := rfl
theorem eM_13 (g : GG) (ad : Nat → Nat) (S : ST) : ent kM g ad S 13 = .inl (g.2.1 0, (201, .inl (S.1 13))) := rfl
theorem eM_14 (g : GG) (ad : Nat → Nat) (S : ST) : ent kM g ad S 14 = .inl (g.2.1 0, (201, .inl (S.1 14))) := rfl
theorem eM_15 (g : GG) (ad : Nat → Nat) (S : ST) : ent kM g ad S 15 = .inl (g.2.1 0, (201, .inl (S.1 15))) := rfl
theorem eM_16 (g : GG) (ad : Nat → Nat) (S : ST) : ent kM g ad S 16 = .inl (g.2.1 0, (8, .inl (S.1 16))) := rfl
theorem eM_17 (g : GG) (ad : Nat → Nat) (S : ST) : ent kM g ad S 17 = .inl (g.2.1 0, (9, .inl (S.1 17))) := rfl
theorem eM_18 (g : GG) (ad : Nat → Nat) (S : ST) : ent kM g ad S 18 = .inl (g.2.1 0, (40, .inl (S.1 18))) := rfl
theorem eM_19 (g : GG) (ad : Nat → Nat) (S : ST) : ent kM g ad S 19 = .inl (g.2.1 1, (2, .inl (S.1 19))) := rfl
def iaML : List Nat := [1, 2, 4, 5, 6, 7, 8, 9, 11, 12, 13, 14, 15, 16, 17, 18]
def iaM (k : Nat) : Bool := iaML.contains k
def lnM (k : Nat) : Nat := ([0, 9, 24, 24, 12, 40, 5, 300, 9, 24, 24, 12, 201, 201, 201, 201, 8, 9, 40, 2] : List Nat).getD k 0
theorem iaM_cases {P : Nat → Prop} (h : ∀ k ∈ iaML, P k) {k : Nat} (hk : iaM k = true) : P k := h k (by simpa [iaM] using hk)
theorem ltiaM {k : Nat} (h : iaM k = true) : k < kM.1 := iaM_cases (P := fun k => k < kM.1) (by decide) h
theorem eiaM (g : GG) (ad : Nat → Nat) (S : ST) {k : Nat} (h : iaM k = true) : ent kM g ad S k = .inl (g.2.1 0, (lnM k, .inl (S.1 k))) := iaM_cases (P := fun k => ent kM g ad S k = .inl (g.2.1 0, (lnM k, .inl (S.1 k)))) (by
  simp only [iaML, List.forall_mem_cons]
  exact ⟨rfl, rfl, rfl, rfl, rfl, rfl, rfl, rfl, rfl, rfl, rfl, rfl, rfl, rfl, rfl, rfl, fun _ q => absurd q List.not_mem_nil⟩) h
def swkL : List Nat := [15, 17, 19, 21, 23, 25, 27, 29]
def swk (k : Nat) : Bool := swkL.contains k
theorem sw_cases {P : Nat → Prop} (h : ∀ k ∈ swkL, P k) {k : Nat} (hk : swk k = true) : P k := h k (by simpa [swk] using hk)
theorem lt_sw {k : Nat} (h : swk k = true) : k < kC.1 := sw_cases (P := fun k => k < kC.1) (by decide) h
theorem e_sw (g : GG) (ad : Nat → Nat) (S : ST) {k : Nat} (h : swk k = true) : ent kC g ad S k = .inr (6, [.ref (ad (k + 1))]) := sw_cases (P := fun k => ent kC g ad S k = .inr (6, [.ref (ad (k + 1))])) (by
  simp only [swkL, List.forall_mem_cons]
  exact ⟨rfl, rfl, rfl, rfl, rfl, rfl, rfl, rfl, fun _ q => absurd q List.not_mem_nil⟩) h
theorem ia_sw_1 {k : Nat} (h : swk k = true) : iaC (k + 1) = true := sw_cases (P := fun k => iaC (k + 1) = true) (by decide) h
def sttkL : List Nat := [31, 35, 38]
def sttk (k : Nat) : Bool := sttkL.contains k
theorem stt_cases {P : Nat → Prop} (h : ∀ k ∈ sttkL, P k) {k : Nat} (hk : sttk k = true) : P k := h k (by simpa [sttk] using hk)
theorem lt_stt {k : Nat} (h : sttk k = true) : k < kC.1 := stt_cases (P := fun k => k < kC.1) (by decide) h
theorem e_stt (g : GG) (ad : Nat → Nat) (S : ST) {k : Nat} (h : sttk k = true) : ent kC g ad S k = .inr (5, [.ref (ad (k + 1)), .ref (ad (k + 2)), .int (S.1 k 2), .int (S.1 k 3)]) := stt_cases (P := fun k => ent kC g ad S k = .inr (5, [.ref (ad (k + 1)), .ref (ad (k + 2)), .int (S.1 k 2), .int (S.1 k 3)])) (by
  simp only [sttkL, List.forall_mem_cons]
  exact ⟨rfl, rfl, rfl, fun _ q => absurd q List.not_mem_nil⟩) h
theorem ia_stt_1 {k : Nat} (h : sttk k = true) : iaC (k + 1) = true := stt_cases (P := fun k => iaC (k + 1) = true) (by decide) h
theorem ia_stt_2 {k : Nat} (h : sttk k = true) : iaC (k + 2) = true := stt_cases (P := fun k => iaC (k + 2) = true) (by decide) h
def pdkL : List Nat := [41, 43]
def pdk (k : Nat) : Bool := pdkL.contains k
theorem pd_cases {P : Nat → Prop} (h : ∀ k ∈ pdkL, P k) {k : Nat} (hk : pdk k = true) : P k := h k (by simpa [pdk] using hk)
theorem lt_pd {k : Nat} (h : pdk k = true) : k < kC.1 := pd_cases (P := fun k => k < kC.1) (by decide) h
theorem e_pd (g : GG) (ad : Nat → Nat) (S : ST) {k : Nat} (h : pdk k = true) : ent kC g ad S k = .inr (2, [.int (S.1 k 0), .int (S.1 k 1), .int (S.1 k 2)]) := pd_cases (P := fun k => ent kC g ad S k = .inr (2, [.int (S.1 k 0), .int (S.1 k 1), .int (S.1 k 2)])) (by
  simp only [pdkL, List.forall_mem_cons]
  exact ⟨rfl, rfl, fun _ q => absurd q List.not_mem_nil⟩) h
theorem sw_ld {i : Int32} (h : ib i 8 = true) : swk (15 + 2 * i.toNatClampNeg) = true := by
  have h1 : i.toNatClampNeg < 8 := by simp only [ib, Bool.and_eq_true, decide_eq_true_eq] at h; exact h.2
  generalize i.toNatClampNeg = n at h1
  have : ∀ n, n < 8 → swk (15 + 2 * n) = true := by decide
  exact this n h1
theorem stt_ld {i : Int32} (h : ib i 2 = true) : sttk (35 + 3 * i.toNatClampNeg) = true := by
  have h1 : i.toNatClampNeg < 2 := by simp only [ib, Bool.and_eq_true, decide_eq_true_eq] at h; exact h.2
  generalize i.toNatClampNeg = n at h1
  have : ∀ n, n < 2 → sttk (35 + 3 * n) = true := by decide
  exact this n h1
theorem ent_offl {g : GG} {ad : Nat → Nat} {S : ST} {v : Int64} {i : Nat} (h : i ≠ 0) : ent kM g ad (sl S v) i = ent kM g ad S i := by
  show entM g ad v i (S.1 i) = entM g ad S.2 i (S.1 i)
  unfold entM
  split <;> first | rfl | exact absurd rfl h
theorem sal_at {t : Nat} (h : t < 8) : SAL[t]? = some (((SAL[t]?).map fun q => q.1).getD "", ((SAL[t]?).map fun q => q.2.1).getD "", sal t) := by
  have : ∀ t, t < 8 → SAL[t]? = some (((SAL[t]?).map fun q => q.1).getD "", ((SAL[t]?).map fun q => q.2.1).getD "", sal t) := by decide +kernel
  exact this t h
