abbrev ST : Type := (Nat → Nat → Int32) × Int64
/-- a cell's row made new -/
def sr (S : ST) (k : Nat) (f : Nat → Int32) : ST := (fun i => if i = k then f else S.1 i, S.2)
/-- one place of a cell made new -/
def su (S : ST) (k j : Nat) (v : Int32) : ST := sr S k (upd (S.1 k) j v)
/-- the long made new -/
def sl (S : ST) (v : Int64) : ST := (S.1, v)
theorem sr_k (S : ST) (k : Nat) (f : Nat → Int32) : (sr S k f).1 k = f := by simp [sr]
theorem sr_n (S : ST) {k i : Nat} (f : Nat → Int32) (h : i ≠ k) : (sr S k f).1 i = S.1 i := by simp [sr, h]
theorem sr_2 (S : ST) (k : Nat) (f : Nat → Int32) : (sr S k f).2 = S.2 := rfl
theorem su_k (S : ST) (k j : Nat) (v : Int32) : (su S k j v).1 k = upd (S.1 k) j v := sr_k _ _ _
def nm {α β : Type} (x : α) (k : α → β) : β := k x
def chk {α : Type} (b : Bool) (x : Option α) : Option α := if b = true then x else none
def bnd {α β γ : Type} (x : Option (α × β)) (k : α → β → Option γ) : Option γ := x.bind fun q => k q.1 q.2
def bn1 {α γ : Type} (x : Option α) (k : α → Option γ) : Option γ := x.bind k
def ib (i : Int32) (n : Nat) : Bool := decide (¬ i < 0) && decide (i.toNatClampNeg < n)
def nz (y : Int32) : Bool := decide (¬ y = 0)
def nzl (y : Int64) : Bool := decide (¬ y = 0)
def zb (y : Int32) : Bool := decide (y = 0 ∨ y = 1)
theorem nm_s {α β : Type} {x : α} {k : α → Option β} {r : β} (h : nm x k = some r) : ∃ v, v = x ∧ k v = some r := ⟨x, rfl, h⟩
theorem chk_s {α : Type} {b : Bool} {x : Option α} {r : α} (h : chk b x = some r) : b = true ∧ x = some r := by
  cases b with
  | true => exact ⟨rfl, h⟩
  | false => cases h
theorem bnd_s {α β γ : Type} {x : Option (α × β)} {k : α → β → Option γ} {r : γ} (h : bnd x k = some r) : ∃ a b, x = some (a, b) ∧ k a b = some r := by
  cases x with
  | none => cases h
  | some q => exact ⟨q.1, q.2, rfl, h⟩
theorem bn1_s {α γ : Type} {x : Option α} {k : α → Option γ} {r : γ} (h : bn1 x k = some r) : ∃ a, x = some a ∧ k a = some r := by
  cases x with
  | none => cases h
  | some q => exact ⟨q, rfl, h⟩
theorem ib_in {i : Int32} {n : Nat} (h : ib i n = true) : vp_in i n := by
  simp only [ib, Bool.and_eq_true, decide_eq_true_eq] at h
  exact fun q => q.elim (fun q => h.1 q) (fun q => absurd h.2 (Nat.not_lt.mpr q))
theorem nz_ne {y : Int32} (h : nz y = true) : ¬ y = 0 := by simpa [nz] using h
theorem nzl_ne {y : Int64} (h : nzl y = true) : ¬ y = 0 := by simpa [nzl] using h
theorem zb_or {y : Int32} (h : zb y = true) : y = 0 ∨ y = 1 := by simpa [zb] using h
/-- a loop: so many rounds at most -/
def lp {F : Type} (z : F) (b : F → F) : Nat → F
  | 0 => z
  | n + 1 => b (lp z b n)

abbrev GG : Type := va_G × (Nat → ClassId) × (Nat → Nat) × (Nat → Nat) × (Nat → Nat)
abbrev vwCl : List vw_C := [(RX0, TX0, 17), (RX1, TX1, 13), (RX2, TX2, 3), (RX3, TX3, 4), (RX4, TX4, 8), (RX5, TX5, 4), (RX6, TX6, 1), (RX7, TX7, 2), (RX8, TX8, 5), (RX9, TX9, 14), (RX10, TX10, 46)]
abbrev TYg (g : GG) : List (ClassId × FieldType) := [(g.2.1 0, .int), (g.2.1 1, .boolean), (g.2.1 2, .object "RopeSwing$Swinger"), (g.2.1 3, .object "RopeSwing$State")]
abbrev WK : Type := Nat × (GG → (Nat → Nat) → Int64 → Nat → (Nat → Int32) → va_E)
def entC (g : GG) (ad : Nat → Nat) (x : Int64) (i : Nat) (r : Nat → Int32) : va_E := match i with
  | 0 => .inr (9, [.ref (ad 1), .ref (ad 3), .ref (ad 4), .ref (ad 9), .ref (ad 14), .int (r 5), .ref (ad 31), .ref (ad 34), .ref (ad 41), .ref (ad 42), .ref (ad 51), .ref (ad 52), .ref (ad 53), .int (r 13)])
  | 1 => .inr (7, [.ref (ad 2), .int (r 1)])
  | 2 => .inl (g.2.1 0, (300, .inl r))
  | 3 => .inr (4, [.ref (ad 1), .int (r 1), .int (r 2), .int (r 3), .int (r 4), .int (r 5), .int (r 6), .int (r 7)])
  | 4 => .inr (3, [.ref (ad 5), .ref (ad 6), .ref (ad 7), .ref (ad 8)])
  | 5 => .inl (g.2.1 0, (9, .inl r))
  | 6 => .inl (g.2.1 0, (24, .inl r))
  | 7 => .inl (g.2.1 0, (24, .inl r))
  | 8 => .inl (g.2.1 0, (12, .inl r))
  | 9 => .inr (3, [.ref (ad 10), .ref (ad 11), .ref (ad 12), .ref (ad 13)])
  | 10 => .inl (g.2.1 0, (9, .inl r))
  | 11 => .inl (g.2.1 0, (24, .inl r))
  | 12 => .inl (g.2.1 0, (24, .inl r))
  | 13 => .inl (g.2.1 0, (12, .inl r))
  | 14 => .inl (g.2.1 2, (8, .inr (.inr (.inr (.inr (fun j => some (ad (15 + 2 * j))))))))
  | 15 => .inr (6, [.ref (ad 16)])
  | 16 => .inl (g.2.1 0, (5, .inl r))
  | 17 => .inr (6, [.ref (ad 18)])
  | 18 => .inl (g.2.1 0, (5, .inl r))
  | 19 => .inr (6, [.ref (ad 20)])
  | 20 => .inl (g.2.1 0, (5, .inl r))
  | 21 => .inr (6, [.ref (ad 22)])
  | 22 => .inl (g.2.1 0, (5, .inl r))
  | 23 => .inr (6, [.ref (ad 24)])
  | 24 => .inl (g.2.1 0, (5, .inl r))
  | 25 => .inr (6, [.ref (ad 26)])
  | 26 => .inl (g.2.1 0, (5, .inl r))
  | 27 => .inr (6, [.ref (ad 28)])
  | 28 => .inl (g.2.1 0, (5, .inl r))
  | 29 => .inr (6, [.ref (ad 30)])
  | 30 => .inl (g.2.1 0, (5, .inl r))
  | 31 => .inr (5, [.ref (ad 32), .ref (ad 33), .int (r 2), .int (r 3)])
  | 32 => .inl (g.2.1 0, (5, .inl r))
  | 33 => .inl (g.2.1 0, (9, .inl r))
  | 34 => .inl (g.2.1 3, (2, .inr (.inr (.inr (.inr (fun j => some (ad (35 + 3 * j))))))))
  | 35 => .inr (5, [.ref (ad 36), .ref (ad 37), .int (r 2), .int (r 3)])
  | 36 => .inl (g.2.1 0, (5, .inl r))
  | 37 => .inl (g.2.1 0, (9, .inl r))
  | 38 => .inr (5, [.ref (ad 39), .ref (ad 40), .int (r 2), .int (r 3)])
  | 39 => .inl (g.2.1 0, (5, .inl r))
  | 40 => .inl (g.2.1 0, (9, .inl r))
  | 41 => .inr (2, [.int (r 0), .int (r 1), .int (r 2)])
  | 42 => .inr (1, [.ref (ad 43), .ref (ad 44), .ref (ad 45), .ref (ad 46), .ref (ad 47), .ref (ad 48), .ref (ad 49), .ref (ad 50), .int (r 8), .int (r 9), .int (r 10), .int (r 11), .int (r 12)])
  | 43 => .inr (2, [.int (r 0), .int (r 1), .int (r 2)])
  | 44 => .inl (g.2.1 0, (201, .inl r))
  | 45 => .inl (g.2.1 0, (201, .inl r))
  | 46 => .inl (g.2.1 0, (201, .inl r))
  | 47 => .inl (g.2.1 0, (201, .inl r))
  | 48 => .inl (g.2.1 0, (201, .inl r))
  | 49 => .inl (g.2.1 0, (201, .inl r))
  | 50 => .inl (g.2.1 0, (201, .inl r))
  | 51 => .inr (0, [.ref (ad 4), .ref (ad 42), .int (r 2), .int (r 3), .int (r 4), .int (r 5), .int (r 6), .int (r 7), .int (r 8), .int (r 9), .int (r 10), .int (r 11), .int (r 12), .int (r 13), .int (r 14), .int (r 15), .int (r 16)])
  | 52 => .inr (8, [.int (r 0), .int (r 1), .int (r 2), .int (r 3), .int (r 4)])
  | _ => .inl (g.2.1 0, (8, .inl r))
def kC : WK := (54, entC)
def entM (g : GG) (ad : Nat → Nat) (x : Int64) (i : Nat) (r : Nat → Int32) : va_E := match i with
  | 0 => .inr (10, [.ref (ad 1), .ref (ad 2), .ref (ad 3), .ref (ad 4), .int (r 4), .ref (ad 5), .ref (ad 6), .ref (ad 7), .int (r 8), .int (r 9), .int (r 10), .long x, .int (r 12), .int (r 13), .int (r 14), .ref (ad 8), .ref (ad 9), .ref (ad 10), .ref (ad 11), .int (r 19), .int (r 20), .int (r 21), .int (r 22), .int (r 23), .int (r 24), .int (r 25), .int (r 26), .int (r 27), .int (r 28), .ref (ad 12), .ref (ad 13), .ref (ad 14), .ref (ad 15), .int (r 33), .int (r 34), .int (r 35), .int (r 36), .int (r 37), .int (r 38), .int (r 39), .int (r 40), .ref (ad 16), .int (r 42), .ref (ad 17), .ref (ad 18), .ref (ad 19)])
  | 1 => .inl (g.2.1 0, (9, .inl r))
  | 2 => .inl (g.2.1 0, (24, .inl r))
  | 3 => .inl (g.2.1 1, (24, .inl r))
  | 4 => .inl (g.2.1 0, (12, .inl r))
  | 5 => .inl (g.2.1 0, (40, .inl r))
  | 6 => .inl (g.2.1 0, (5, .inl r))
  | 7 => .inl (g.2.1 0, (300, .inl r))
  | 8 => .inl (g.2.1 0, (9, .inl r))
  | 9 => .inl (g.2.1 0, (24, .inl r))
  | 10 => .inl (g.2.1 1, (24, .inl r))
  | 11 => .inl (g.2.1 0, (12, .inl r))
  | 12 => .inl (g.2.1 0, (201, .inl r))
  | 13 => .inl (g.2.1 0, (201, .inl r))
  | 14 => .inl (g.2.1 0, (201, .inl r))
  | 15 => .inl (g.2.1 0, (201, .inl r))
  | 16 => .inl (g.2.1 0, (8, .inl r))
  | 17 => .inl (g.2.1 0, (9, .inl r))
  | 18 => .inl (g.2.1 0, (40, .inl r))
  | _ => .inl (g.2.1 1, (2, .inl r))
def kM : WK := (20, entM)
def ent (K : WK) (g : GG) (ad : Nat → Nat) (S : ST) (i : Nat) : va_E := K.2 g ad S.2 i (S.1 i)
def Wld (K : WK) (g : GG) (ad : Nat → Nat) (S : ST) : va_W := (List.range K.1).map fun i => (ad i, ent K g ad S i)
theorem ent_off {K : WK} {g : GG} {ad : Nat → Nat} {S : ST} {k i : Nat} {f : Nat → Int32} (h : i ≠ k) : ent K g ad (sr S k f) i = ent K g ad S i := by
  show K.2 g ad (sr S k f).2 i ((sr S k f).1 i) = _
  rw [sr_n S f h]; rfl
theorem ent_offu {K : WK} {g : GG} {ad : Nat → Nat} {S : ST} {k i j : Nat} {v : Int32} (h : i ≠ k) : ent K g ad (su S k j v) i = ent K g ad S i := ent_off h
theorem Wld_get {K : WK} {g : GG} {ad : Nat → Nat} {S : ST} {k : Nat} (h : k < K.1) : (Wld K g ad S)[k]? = some (ad k, ent K g ad S k) := by simp [Wld, h]
theorem Wld_lt {K : WK} {g : GG} {ad : Nat → Nat} {S : ST} {k : Nat} {q : Nat × va_E} (h : (Wld K g ad S)[k]? = some q) : k < K.1 ∧ q = (ad k, ent K g ad S k) := by
  have hk : k < K.1 := by
    have := (List.getElem?_eq_some_iff.mp h).1
    simpa [Wld] using this
  rw [Wld_get hk] at h
  exact ⟨hk, (Option.some.inj h).symm⟩
theorem Wld_set {K : WK} {g : GG} {ad : Nat → Nat} {S S' : ST} {k : Nat} {e : va_E} (h1 : ent K g ad S' k = e) (h2 : ∀ i, i ≠ k → ent K g ad S' i = ent K g ad S i) : (Wld K g ad S).set k (ad k, e) = Wld K g ad S' := by
  apply List.ext_getElem?
  intro i
  rw [List.getElem?_set]
  by_cases h : k = i
  · subst h
    by_cases hk : k < K.1
    · rw [Wld_get (S := S') hk, h1, if_pos rfl, if_pos (by simpa [Wld] using hk)]
    · have e1 : (Wld K g ad S')[k]? = none := by simp [Wld]; omega
      rw [e1]; simp [Wld, hk]
  · rw [if_neg h]
    by_cases hi : i < K.1
    · rw [Wld_get hi, Wld_get hi, h2 i (fun q => h q.symm)]
    · have e1 : ∀ S, (Wld K g ad S)[i]? = none := by intro S; simp [Wld]; omega
      rw [e1, e1]
/-- the addresses alone -/
theorem Wld_D {K : WK} {g : GG} {ad : Nat → Nat} {S S' : ST} {A : Nat → Prop} (h : va_D A (Wld K g ad S)) : va_D A (Wld K g ad S') := by
  refine ⟨fun i j p q hi hj e => ?_, fun k q hk => ?_⟩
  · obtain ⟨a1, rfl⟩ := Wld_lt hi
    obtain ⟨a2, rfl⟩ := Wld_lt hj
    exact h.1 i j _ _ (Wld_get a1) (Wld_get a2) e
  · obtain ⟨a1, rfl⟩ := Wld_lt hk
    exact h.2 k (ad k, ent K g ad S k) (Wld_get a1)
/-- the world's own addresses, and all that is new -/
def AA (K : WK) (ad : Nat → Nat) (sz : Nat) : Nat → Prop := fun q => (∃ k, k < K.1 ∧ q = ad k) ∨ sz ≤ q
theorem Wld_Dself {K : WK} {g : GG} {ad : Nat → Nat} {S : ST} {A : Nat → Prop} {sz : Nat} (h : va_D A (Wld K g ad S)) : va_D (AA K ad sz) (Wld K g ad S) := ⟨h.1, fun k q hk => by
  obtain ⟨a1, rfl⟩ := Wld_lt hk
  exact Or.inl ⟨k, a1, rfl⟩⟩

def nestW : Cond → Bool
  | .fieldLinkNest .. => true
  | .methodLinkNest .. => true
  | _ => false
theorem nestW_warm {w : Cond} (h : nestW w = true) {s U : State} (hW : s.WarmedH U.vm) (hw : va_Nw w s) : va_Nw w U := by
  cases w <;> first | exact va_Nw.warmF hW hw | exact va_Nw.warmM hW hw | (simp [nestW] at h)
def NWW : List Cond := lw_tbl.filter nestW
theorem nw_99 : (Jvm.Cond.methodLinkNest "RopeSwing" (9 : Nat) ({ cls := "RopeSwing$Text", name := "<init>", desc := "()V" } : Jvm.MethodName) "RopeSwing") ∈ NWW := List.mem_filter.mpr ⟨List.mem_of_getElem? (i := 99) (by decide +kernel), rfl⟩
theorem nw_164 : (Jvm.Cond.fieldLinkNest "RopeSwing$Reader" (99 : Nat) "RopeSwing$Place" "numbers" "[I" "RopeSwing") ∈ NWW := List.mem_filter.mpr ⟨List.mem_of_getElem? (i := 164) (by decide +kernel), rfl⟩
theorem nw_166 : (Jvm.Cond.fieldLinkNest "RopeSwing$Reader" (70 : Nat) "RopeSwing$Place" "depths" "[I" "RopeSwing") ∈ NWW := List.mem_filter.mpr ⟨List.mem_of_getElem? (i := 166) (by decide +kernel), rfl⟩
theorem nw_168 : (Jvm.Cond.fieldLinkNest "RopeSwing$Reader" (79 : Nat) "RopeSwing$Place" "stones" "[I" "RopeSwing") ∈ NWW := List.mem_filter.mpr ⟨List.mem_of_getElem? (i := 168) (by decide +kernel), rfl⟩
theorem nw_170 : (Jvm.Cond.fieldLinkNest "RopeSwing$Reader" (86 : Nat) "RopeSwing$Place" "lower" "[I" "RopeSwing") ∈ NWW := List.mem_filter.mpr ⟨List.mem_of_getElem? (i := 170) (by decide +kernel), rfl⟩
theorem nw_183 : (Jvm.Cond.methodLinkNest "RopeSwing" (41 : Nat) ({ cls := "RopeSwing$Swinger", name := "<init>", desc := "()V" } : Jvm.MethodName) "RopeSwing") ∈ NWW := List.mem_filter.mpr ⟨List.mem_of_getElem? (i := 183) (by decide +kernel), rfl⟩
theorem nw_188 : (Jvm.Cond.fieldLinkNest "RopeSwing$Reader" (59 : Nat) "RopeSwing$Swinger" "numbers" "[I" "RopeSwing") ∈ NWW := List.mem_filter.mpr ⟨List.mem_of_getElem? (i := 188) (by decide +kernel), rfl⟩
theorem nw_194 : (Jvm.Cond.methodLinkNest "RopeSwing" (44 : Nat) ({ cls := "RopeSwing$State", name := "<init>", desc := "()V" } : Jvm.MethodName) "RopeSwing") ∈ NWW := List.mem_filter.mpr ⟨List.mem_of_getElem? (i := 194) (by decide +kernel), rfl⟩
theorem nw_201 : (Jvm.Cond.fieldLinkNest "RopeSwing" (308 : Nat) "RopeSwing$State" "seed" "I" "RopeSwing") ∈ NWW := List.mem_filter.mpr ⟨List.mem_of_getElem? (i := 201) (by decide +kernel), rfl⟩
theorem nw_202 : (Jvm.Cond.fieldLinkNest "RopeSwing" (330 : Nat) "RopeSwing$State" "kept" "Z" "RopeSwing") ∈ NWW := List.mem_filter.mpr ⟨List.mem_of_getElem? (i := 202) (by decide +kernel), rfl⟩
theorem nw_215 : (Jvm.Cond.methodLinkNest "RopeSwing" (55 : Nat) ({ cls := "RopeSwing$Pendulum", name := "<init>", desc := "()V" } : Jvm.MethodName) "RopeSwing") ∈ NWW := List.mem_filter.mpr ⟨List.mem_of_getElem? (i := 215) (by decide +kernel), rfl⟩
theorem nw_221 : (Jvm.Cond.fieldLinkNest "RopeSwing$Path" (68 : Nat) "RopeSwing$Pendulum" "angle" "I" "RopeSwing") ∈ NWW := List.mem_filter.mpr ⟨List.mem_of_getElem? (i := 221) (by decide +kernel), rfl⟩
theorem nw_222 : (Jvm.Cond.fieldLinkNest "RopeSwing" (287 : Nat) "RopeSwing$Pendulum" "angle" "I" "RopeSwing") ∈ NWW := List.mem_filter.mpr ⟨List.mem_of_getElem? (i := 222) (by decide +kernel), rfl⟩
theorem nw_224 : (Jvm.Cond.fieldLinkNest "RopeSwing$Path" (77 : Nat) "RopeSwing$Pendulum" "pace" "I" "RopeSwing") ∈ NWW := List.mem_filter.mpr ⟨List.mem_of_getElem? (i := 224) (by decide +kernel), rfl⟩
theorem nw_234 : (Jvm.Cond.methodLinkNest "RopeSwing" (62 : Nat) ({ cls := "RopeSwing$Path", name := "<init>", desc := "()V" } : Jvm.MethodName) "RopeSwing") ∈ NWW := List.mem_filter.mpr ⟨List.mem_of_getElem? (i := 234) (by decide +kernel), rfl⟩
theorem nw_239 : (Jvm.Cond.methodLinkNest "RopeSwing$Path" (11 : Nat) ({ cls := "RopeSwing$Pendulum", name := "<init>", desc := "()V" } : Jvm.MethodName) "RopeSwing") ∈ NWW := List.mem_filter.mpr ⟨List.mem_of_getElem? (i := 239) (by decide +kernel), rfl⟩
theorem nw_289 : (Jvm.Cond.fieldLinkNest "RopeSwing" (294 : Nat) "RopeSwing$Jump" "strength" "I" "RopeSwing") ∈ NWW := List.mem_filter.mpr ⟨List.mem_of_getElem? (i := 289) (by decide +kernel), rfl⟩
theorem nw_291 : (Jvm.Cond.fieldLinkNest "RopeSwing" (268 : Nat) "RopeSwing$Jump" "lower" "I" "RopeSwing") ∈ NWW := List.mem_filter.mpr ⟨List.mem_of_getElem? (i := 291) (by decide +kernel), rfl⟩
theorem nw_296 : (Jvm.Cond.fieldLinkNest "RopeSwing$Times" (27 : Nat) "RopeSwing$Jump" "lag" "I" "RopeSwing") ∈ NWW := List.mem_filter.mpr ⟨List.mem_of_getElem? (i := 296) (by decide +kernel), rfl⟩
theorem nw_297 : (Jvm.Cond.fieldLinkNest "RopeSwing" (204 : Nat) "RopeSwing$Jump" "lag" "I" "RopeSwing") ∈ NWW := List.mem_filter.mpr ⟨List.mem_of_getElem? (i := 297) (by decide +kernel), rfl⟩
theorem nw_299 : (Jvm.Cond.fieldLinkNest "RopeSwing" (277 : Nat) "RopeSwing$Jump" "turning" "I" "RopeSwing") ∈ NWW := List.mem_filter.mpr ⟨List.mem_of_getElem? (i := 299) (by decide +kernel), rfl⟩
theorem nw_303 : (Jvm.Cond.fieldLinkNest "RopeSwing" (210 : Nat) "RopeSwing$Jump" "end" "I" "RopeSwing") ∈ NWW := List.mem_filter.mpr ⟨List.mem_of_getElem? (i := 303) (by decide +kernel), rfl⟩
theorem nw_304 : (Jvm.Cond.fieldLinkNest "RopeSwing$Times" (36 : Nat) "RopeSwing$Jump" "where" "I" "RopeSwing") ∈ NWW := List.mem_filter.mpr ⟨List.mem_of_getElem? (i := 304) (by decide +kernel), rfl⟩
theorem nw_306 : (Jvm.Cond.fieldLinkNest "RopeSwing" (213 : Nat) "RopeSwing$Jump" "where" "I" "RopeSwing") ∈ NWW := List.mem_filter.mpr ⟨List.mem_of_getElem? (i := 306) (by decide +kernel), rfl⟩
theorem nw_308 : (Jvm.Cond.fieldLinkNest "RopeSwing" (216 : Nat) "RopeSwing$Jump" "heldTill" "I" "RopeSwing") ∈ NWW := List.mem_filter.mpr ⟨List.mem_of_getElem? (i := 308) (by decide +kernel), rfl⟩
theorem nw_310 : (Jvm.Cond.fieldLinkNest "RopeSwing" (219 : Nat) "RopeSwing$Jump" "flown" "I" "RopeSwing") ∈ NWW := List.mem_filter.mpr ⟨List.mem_of_getElem? (i := 310) (by decide +kernel), rfl⟩
theorem nw_311 : (Jvm.Cond.fieldLinkNest "RopeSwing$Times" (39 : Nat) "RopeSwing$Jump" "highest" "I" "RopeSwing") ∈ NWW := List.mem_filter.mpr ⟨List.mem_of_getElem? (i := 311) (by decide +kernel), rfl⟩
theorem nw_313 : (Jvm.Cond.fieldLinkNest "RopeSwing" (222 : Nat) "RopeSwing$Jump" "highest" "I" "RopeSwing") ∈ NWW := List.mem_filter.mpr ⟨List.mem_of_getElem? (i := 313) (by decide +kernel), rfl⟩
theorem nw_315 : (Jvm.Cond.fieldLinkNest "RopeSwing" (225 : Nat) "RopeSwing$Jump" "turned" "I" "RopeSwing") ∈ NWW := List.mem_filter.mpr ⟨List.mem_of_getElem? (i := 315) (by decide +kernel), rfl⟩
theorem nw_353 : (Jvm.Cond.methodLinkNest "RopeSwing" (78 : Nat) ({ cls := "RopeSwing$Times", name := "<init>", desc := "()V" } : Jvm.MethodName) "RopeSwing") ∈ NWW := List.mem_filter.mpr ⟨List.mem_of_getElem? (i := 353) (by decide +kernel), rfl⟩
theorem nw_358 : (Jvm.Cond.fieldLinkNest "RopeSwing" (232 : Nat) "RopeSwing$Times" "farthest" "I" "RopeSwing") ∈ NWW := List.mem_filter.mpr ⟨List.mem_of_getElem? (i := 358) (by decide +kernel), rfl⟩
theorem nw_360 : (Jvm.Cond.fieldLinkNest "RopeSwing" (234 : Nat) "RopeSwing$Times" "highest" "I" "RopeSwing") ∈ NWW := List.mem_filter.mpr ⟨List.mem_of_getElem? (i := 360) (by decide +kernel), rfl⟩
theorem nw_362 : (Jvm.Cond.fieldLinkNest "RopeSwing" (235 : Nat) "RopeSwing$Times" "longest" "I" "RopeSwing") ∈ NWW := List.mem_filter.mpr ⟨List.mem_of_getElem? (i := 362) (by decide +kernel), rfl⟩
theorem nw_364 : (Jvm.Cond.fieldLinkNest "RopeSwing" (238 : Nat) "RopeSwing$Times" "first" "I" "RopeSwing") ∈ NWW := List.mem_filter.mpr ⟨List.mem_of_getElem? (i := 364) (by decide +kernel), rfl⟩
theorem nw_366 : (Jvm.Cond.fieldLinkNest "RopeSwing" (241 : Nat) "RopeSwing$Times" "good" "I" "RopeSwing") ∈ NWW := List.mem_filter.mpr ⟨List.mem_of_getElem? (i := 366) (by decide +kernel), rfl⟩
theorem nw_386 : (Jvm.Cond.methodLinkNest "RopeSwing$State" (32 : Nat) ({ cls := "RopeSwing", name := "put", desc := "([III)V" } : Jvm.MethodName) "RopeSwing") ∈ NWW := List.mem_filter.mpr ⟨List.mem_of_getElem? (i := 386) (by decide +kernel), rfl⟩
theorem nw_450 : (Jvm.Cond.methodLinkNest "RopeSwing$Text" (19 : Nat) ({ cls := "RopeSwing", name := "put", desc := "([III)V" } : Jvm.MethodName) "RopeSwing") ∈ NWW := List.mem_filter.mpr ⟨List.mem_of_getElem? (i := 450) (by decide +kernel), rfl⟩
theorem nw_563 : (Jvm.Cond.methodLinkNest "RopeSwing$Reader" (119 : Nat) ({ cls := "RopeSwing", name := "within", desc := "(III)Z" } : Jvm.MethodName) "RopeSwing") ∈ NWW := List.mem_filter.mpr ⟨List.mem_of_getElem? (i := 563) (by decide +kernel), rfl⟩
theorem nw_566 : (Jvm.Cond.methodLinkNest "RopeSwing$Reader" (66 : Nat) ({ cls := "RopeSwing", name := "put", desc := "([III)V" } : Jvm.MethodName) "RopeSwing") ∈ NWW := List.mem_filter.mpr ⟨List.mem_of_getElem? (i := 566) (by decide +kernel), rfl⟩
theorem nw_575 : (Jvm.Cond.methodLinkNest "RopeSwing$Reader" (92 : Nat) ({ cls := "RopeSwing", name := "at", desc := "([II)I" } : Jvm.MethodName) "RopeSwing") ∈ NWW := List.mem_filter.mpr ⟨List.mem_of_getElem? (i := 575) (by decide +kernel), rfl⟩
theorem nw_625 : (Jvm.Cond.methodLinkNest "RopeSwing$Swinger" (16 : Nat) ({ cls := "RopeSwing", name := "at", desc := "([II)I" } : Jvm.MethodName) "RopeSwing") ∈ NWW := List.mem_filter.mpr ⟨List.mem_of_getElem? (i := 625) (by decide +kernel), rfl⟩
theorem nw_657 : (Jvm.Cond.methodLinkNest "RopeSwing$State" (28 : Nat) ({ cls := "RopeSwing", name := "at", desc := "([II)I" } : Jvm.MethodName) "RopeSwing") ∈ NWW := List.mem_filter.mpr ⟨List.mem_of_getElem? (i := 657) (by decide +kernel), rfl⟩
theorem nw_662 : (Jvm.Cond.methodLinkNest "RopeSwing$Place" (48 : Nat) ({ cls := "RopeSwing", name := "at", desc := "([II)I" } : Jvm.MethodName) "RopeSwing") ∈ NWW := List.mem_filter.mpr ⟨List.mem_of_getElem? (i := 662) (by decide +kernel), rfl⟩
theorem nw_734 : (Jvm.Cond.methodLinkNest "RopeSwing$Pendulum" (16 : Nat) ({ cls := "RopeSwing", name := "quotient", desc := "(II)I" } : Jvm.MethodName) "RopeSwing") ∈ NWW := List.mem_filter.mpr ⟨List.mem_of_getElem? (i := 734) (by decide +kernel), rfl⟩
theorem nw_741 : (Jvm.Cond.methodLinkNest "RopeSwing$Path" (70 : Nat) ({ cls := "RopeSwing", name := "sineOf", desc := "(I)I" } : Jvm.MethodName) "RopeSwing") ∈ NWW := List.mem_filter.mpr ⟨List.mem_of_getElem? (i := 741) (by decide +kernel), rfl⟩
theorem nw_742 : (Jvm.Cond.methodLinkNest "RopeSwing$Path" (74 : Nat) ({ cls := "RopeSwing", name := "sizeOf", desc := "(I)I" } : Jvm.MethodName) "RopeSwing") ∈ NWW := List.mem_filter.mpr ⟨List.mem_of_getElem? (i := 742) (by decide +kernel), rfl⟩
theorem nw_744 : (Jvm.Cond.methodLinkNest "RopeSwing$Path" (81 : Nat) ({ cls := "RopeSwing", name := "put", desc := "([III)V" } : Jvm.MethodName) "RopeSwing") ∈ NWW := List.mem_filter.mpr ⟨List.mem_of_getElem? (i := 744) (by decide +kernel), rfl⟩
theorem nw_749 : (Jvm.Cond.methodLinkNest "RopeSwing$Pendulum" (25 : Nat) ({ cls := "RopeSwing", name := "sineOf", desc := "(I)I" } : Jvm.MethodName) "RopeSwing") ∈ NWW := List.mem_filter.mpr ⟨List.mem_of_getElem? (i := 749) (by decide +kernel), rfl⟩
theorem nw_754 : (Jvm.Cond.methodLinkNest "RopeSwing$Path" (85 : Nat) ({ cls := "RopeSwing", name := "at", desc := "([II)I" } : Jvm.MethodName) "RopeSwing") ∈ NWW := List.mem_filter.mpr ⟨List.mem_of_getElem? (i := 754) (by decide +kernel), rfl⟩
theorem nw_779 : (Jvm.Cond.methodLinkNest "RopeSwing$Path" (98 : Nat) ({ cls := "RopeSwing", name := "quotient", desc := "(II)I" } : Jvm.MethodName) "RopeSwing") ∈ NWW := List.mem_filter.mpr ⟨List.mem_of_getElem? (i := 779) (by decide +kernel), rfl⟩
theorem nw_798 : (Jvm.Cond.methodLinkNest "RopeSwing$Jump" (53 : Nat) ({ cls := "RopeSwing", name := "quotient", desc := "(II)I" } : Jvm.MethodName) "RopeSwing") ∈ NWW := List.mem_filter.mpr ⟨List.mem_of_getElem? (i := 798) (by decide +kernel), rfl⟩
theorem nw_848 : (Jvm.Cond.methodLinkNest "RopeSwing$Jump" (122 : Nat) ({ cls := "RopeSwing", name := "isGood", desc := "(I)Z" } : Jvm.MethodName) "RopeSwing") ∈ NWW := List.mem_filter.mpr ⟨List.mem_of_getElem? (i := 848) (by decide +kernel), rfl⟩
def SAL : List (String × String × List Int32) := [("RopeSwing$Place", "UNTOLD", [660, 450, 300, 10, 40, 100, 400, 150, 16]), ("RopeSwing$Reader", "FROM", [0, 1, 4, 6, 7, 8]), ("RopeSwing$Reader", "MANY", [1, 3, 2, 1, 1, 1]), ("RopeSwing$Reader", "LEAST", [200, 100, 20, 0, 0, 0, 50, 0, 1]), ("RopeSwing$Reader", "MOST", [999, 900, 999, 99, 80, 600, 600, 300, 24]), ("RopeSwing$Swinger", "LEAST", [10, 50, 10, 0, 0]), ("RopeSwing$Swinger", "MOST", [150, 220, 300, 20, 36]), ("RopeSwing", "MOST_IN_HAND", [11, 300, 40, 80, 600])]
def LENS : List Nat := [5, 4, 5, 5, 4, 4, 5, 6, 6]
def BYTS : List (List Int32) := [[98, 111, 117, 103, 104], [114, 111, 112, 101], [115, 116, 97, 114, 116], [116, 114, 117, 110, 107], [110, 101, 101, 100], [115, 97, 110, 100], [119, 97, 116, 101, 114], [115, 116, 111, 110, 101, 115], [109, 111, 110, 116, 104, 115]]
def STRS : List (String × Nat × String) := [("RopeSwing$Reader", 145, "bough"), ("RopeSwing$Reader", 147, "rope"), ("RopeSwing$Reader", 149, "start"), ("RopeSwing$Reader", 150, "trunk"), ("RopeSwing$Reader", 152, "need"), ("RopeSwing$Reader", 154, "sand"), ("RopeSwing$Reader", 156, "water"), ("RopeSwing$Reader", 158, "stones"), ("RopeSwing$Reader", 159, "months")]
/-- what the system's methods take of the tables and of old cells: nest mates, constant arrays, texts -/
def EV (g : GG) (A : Nat → Prop) (U : State) (H : Heap) : Prop :=
  (∀ w ∈ NWW, va_Nw w U) ∧ (∀ (t : Nat) (q : String × String × List Int32), SAL[t]? = some q → va_Z q.1 q.2.1 "[I" (.ref (g.2.2.1 t)) A U H ∧ va_T .int (g.2.2.1 t) q.2.2.length (fun j => .int (q.2.2.getD j 0)) A U H) ∧
  va_Z "java/lang/String" "COMPACT_STRINGS" "Z" (.int 1) A U H ∧ va_Zq "jdk/internal/util/Preconditions" "SIOOBE_FORMATTER" "Ljava/util/function/BiFunction;" A U H ∧ vk_S 9 LENS BYTS g.2.2.2.1 g.2.2.2.2 A U H ∧ ∀ (i : Nat) (q : String × Nat × String), STRS[i]? = some q → vk_R q.1 q.2.1 q.2.2 (g.2.2.2.1 i) U
theorem EV.to {g : GG} {A B : Nat → Prop} {s U : State} {H : Heap} (h : EV g A s s.heap) (hW : s.WarmedH U.vm) (hU : U.heap = H) (hq : ∀ a : Nat, a < s.heap.size → ¬ A a → H[a]? = s.heap[a]?) (hAB : ∀ q, B q → A q) : EV g B U U.heap := by
  obtain ⟨h1, h2, h3, h4, h5, h6⟩ := h
  subst hU
  refine ⟨fun w hw => nestW_warm (List.mem_filter.mp hw).2 hW (h1 w hw), fun t q ht => ⟨?_, ?_⟩, ?_, ?_, ?_, fun i q hi => (h6 i q hi).warm hW⟩
  · exact (((h2 t q ht).1.kept hq).narrow hAB).moved hW.alike
  · exact (((h2 t q ht).2.kept hq).narrow hAB).moved hW.alike
  · exact ((h3.kept hq).narrow hAB).moved hW.alike
  · exact ((h4.kept hq).narrow hAB).moved hW.alike
  · exact ((h5.kept hq).narrow hAB).moved hW.alike
/-- the start of a contract -/
def PW (K : WK) (g : GG) (ad : Nat → Nat) (S : ST) (sz : Nat) (U : State) : Prop :=
  U.heap.size = sz ∧ va_P g.1 vwCl (Wld K g ad S) U.heap ∧ va_K g.1 vwCl (TYg g) U ∧ va_D (fun _ => True) (Wld K g ad S) ∧ EV g (AA K ad sz) U U.heap
/-- what stands while a method's body runs -/
def CX (K : WK) (g : GG) (ad : Nat → Nat) (p : Program) (s : State) (m : MethodId) (args : Array Value) (meth : Method) (c : Code) (cc : ByteArray) (ret : Option FieldType) (nL : Nat) (own : String) (c0 : Cond) : Prop :=
  (p.tables.exec = Jvm.exec ∧ c.code = cc ∧ meth.sig.returnType = ret ∧ meth.locks = false ∧ c.maxLocals = nL ∧ s.vm.findClass own = some m.cls ∧ ∀ w ∈ WS c0, w.before args s = true) ∧ va_K g.1 vwCl (TYg g) s ∧ EV g (AA K ad s.heap.size) s s.heap
/-- the world now -/
def WX (K : WK) (g : GG) (ad : Nat → Nat) (s : State) (S : ST) (H : Heap) (locs : List Loc) : Prop :=
  va_P g.1 vwCl (Wld K g ad S) H ∧ va_D (AA K ad s.heap.size) (Wld K g ad S) ∧ va_S (AA K ad s.heap.size) s.heap H locs
/-- the end of a contract: the world behind it -/
abbrev BW (K : WK) (g : GG) (ad : Nat → Nat) : ST → State → Prop := fun u t => va_P g.1 vwCl (Wld K g ad u) t.heap
abbrev QI (K : WK) (g : GG) (ad : Nat → Nat) (res : Int32 × ST) (A : Nat → Prop) := va_Qi (fun r u => (r, u) = res) (BW K g ad) A
abbrev QL (K : WK) (g : GG) (ad : Nat → Nat) (res : Int64 × ST) (A : Nat → Prop) := va_Ql (fun r u => (r, u) = res) (BW K g ad) A
abbrev QV (K : WK) (g : GG) (ad : Nat → Nat) (res : ST) (A : Nat → Prop) := va_Qv (fun u => u = res) (BW K g ad) A
abbrev QQ (K : WK) (g : GG) (ad : Nat → Nat) (res : Option Nat × ST) (A : Nat → Prop) := va_Qq (fun r u => r = res.1.map ad ∧ u = res.2) (BW K g ad) A
abbrev QK (K : WK) (g : GG) (ad : Nat → Nat) (res : Nat × ST) (A : Nat → Prop) := va_Qr (fun u => u = res.2) (fun u a t => a = g.2.2.2.1 res.1 ∧ BW K g ad u t) A
section GO
variable {K : WK} {g : GG} {ad : Nat → Nat} {S : ST} {l : Launch} {y : MethodName} {cc : ByteArray} {nL sz : Nat} {ret : Option FieldType} {rm : Room} {as : List Value} {Qc : (Nat → Prop) → Array Value → State → Outcome → State → Prop}
set_option maxHeartbeats 4000000 in
theorem go_m (hy : plainName y.cls = true) (hn : (lg_sl as).length ≤ nL)
    (body : ∀ (p : Program) (e : Env) (s : State) (m : MethodId) (below : List Frame) (meth : Method) (c : Code) (ls : Array Slot) (H : Heap) (locs : List Loc), CX K g ad p s m as.toArray meth c cc ret nL y.cls (.code y cc nL ret) → WX K g ad s S H locs → lv_has ls nL (lv_args 0 as) → W p l e rm s m as.toArray below meth c H locs 0 0 (MQ below (Qc (AA K ad s.heap.size)) as.toArray s 0 0 (AA K ad s.heap.size)) (F0 m 0 ls [])) :
    Met l y (WS (.code y cc nL ret)) rm (va_Pc as (PW K g ad S sz)) (Qc (AA K ad sz)) 0 0 (AA K ad sz) := by
  refine Met.ofW (cc := cc) (maxL := nL) (ret := ret) hy rfl ?_
  intro p e s m args below meth c s₁ B hml hv
  obtain ⟨rfl, hsz, hP, hK, hD0, hE⟩ := hv
  subst hsz
  have hts := atoms_spec (ws := WS (.code y cc nL ret)) B.pre
  have hl := lv_entry as hn
  rw [lg_entry_eq]
  exact body p e s m below meth c _ s.heap [] ⟨⟨B.exec, B.bytes, B.returns, B.notSynchronized, hml, findClass_of_methodNamed B.named, hts⟩, hK, hE⟩ ⟨hP, Wld_Dself hD0, va_S.rf⟩ hl
end GO

