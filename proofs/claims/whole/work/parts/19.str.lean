section RN
variable {p : Program} {l : Launch} {e : Env} {R : Room} {s : State} {m : MethodId} {args : Array Value} {below : List Frame} {meth : Method} {c : Code} {H : Heap} {locs : List Loc} {Q : State → Prop} {K : WK} {g : GG} {ad : Nat → Nat} {S S' : ST} {cc : ByteArray} {ret : Option FieldType} {nL : Nat} {own : String} {c0 : Cond} {pc : Nat} {ls : Array Slot} {rest : List Value}
theorem rt_n (C : CX K g ad p s m args meth c cc ret nL own c0) (X : WX K g ad s S H locs) {v : Int32} {ty : FieldType} {res : Int32 × ST} (hr : ret = some ty) (hn : narrow ty (.int v) = .int v) (hres : (v, S) = res) (hdg : decode cc pc = .ok (.ireturn, 1)) : W p l e R s m args below meth c H locs 0 0 (MQ below (QI K g ad res (AA K ad s.heap.size)) args s 0 0 (AA K ad s.heap.size)) (F0 m pc ls [.int v]) :=
  W.zret C.1.1 C.1.2.1 (C.1.2.2.1.trans hr) hn (fun t ht hW => ⟨⟨v, S, rfl, hres, by show va_P _ _ _ t.heap; rw [ht]; exact X.1⟩, X.2.2.F ht⟩) X.2.2.2.2 hdg C.1.2.2.2.1
/-- a call on a text -/
theorem rStr (C : CX K g ad p s m args meth c cc ret nL own c0) (X : WX K g ad s S H locs) {y : MethodName} {b : ByteArray} {maxL n index i : Nat} {rt : Option FieldType} {rm : Room} {As : List Value} {Qc : Array Value → State → Outcome → State → Prop}
    (hM : Met l y (WS (.code y b maxL rt)) rm (va_Pc (.ref (g.2.2.2.1 i) :: As) (PW K g ad S H.size)) Qc 0 0 (AA K ad H.size)) (h1 : Cond.methodLink own index y ∈ TB) (h2 : Cond.instanceMethod y ∈ TB) (h3 : Cond.selects "java/lang/String" y y ∈ TB) (h4 : Cond.initialized "java/lang/String" ∈ TB) (h5 : Cond.code y b maxL rt ∈ TB)
    (hi : i < 9) (hrc : rm.cells = 0) (hrs : rm.slots = 0) (hd : y.cls = "java/lang/String" ∧ (y.cls ≠ "java/lang/invoke/MethodHandle" ∧ y.cls ≠ "java/lang/invoke/VarHandle" ∧ (parseMethodDescriptor y.desc).map (fun d => d.parameters.length) = some n)) (hR : rm.frames + 1 ≤ R.frames ∧ 8 + (maxL + 11) + rm.locals ≤ R.locals)
    (hn : As.length = n) (hl : ls.size = nL) (hW : 2 * (F0 m pc ls (As.reverse ++ .ref (g.2.2.2.1 i) :: rest)).monitorRoom + (rest.map fun v => v.category).sum ≤ 8) (hdg : decode cc pc = .ok (.invokevirtual index, 3)) :
    va_Run p l e R s m args below meth c H locs 0 0 0 0 (F0 m pc ls (As.reverse ++ .ref (g.2.2.2.1 i) :: rest)) rest (Qc (Value.ref (g.2.2.2.1 i) :: As).toArray) (AA K ad H.size) :=
  va_runV (C := "java/lang/String") ⟨C.1.1, C.1.2.1, C.1.2.2.2.2.1, C.1.2.2.2.2.2.1, C.1.2.2.2.2.2.2⟩ hM (cwV n C.1.2.2.2.2.2.2 (ws_V h1 h2 h3 h4 h5) rfl hrc hrs hd hR) ⟨pw_blind, vk_recv C.2.2.2.2.2.2.1 hi X.2.2, fun U hU hW => ⟨rfl, pw_pre C X hU hW⟩⟩ rfl hn hl rfl hW hdg ⟨Nat.zero_le _, Nat.zero_le _⟩
end RN
def f_slen (i : Nat) : Option Int32 := if i < 9 then some (Int32.ofNat (LENS.getD i 0)) else none
def f_sch (i : Nat) (j : Int32) : Option Int32 := if i < 9 then chk (ib j (LENS.getD i 0)) (some ((BYTS.getD i []).getD j.toNatClampNeg 0)) else none
theorem slen_s {i : Nat} {r : Int32} (h : f_slen i = some r) : i < 9 ∧ Int32.ofNat (LENS.getD i 0) = r := by
  unfold f_slen at h
  split at h
  · exact ⟨by assumption, Option.some.inj h⟩
  · cases h
theorem sch_s {i : Nat} {j r : Int32} (h : f_sch i j = some r) : i < 9 ∧ ib j (LENS.getD i 0) = true ∧ (BYTS.getD i []).getD j.toNatClampNeg 0 = r := by
  unfold f_sch at h
  split at h
  · obtain ⟨h1, h2⟩ := chk_s h
    exact ⟨by assumption, h1, Option.some.inj h2⟩
  · cases h
theorem lens_ok : ∀ i, i < 9 → ∀ j, j < LENS.getD i 0 → ((((BYTS.getD i []).getD j 0) &&& 255).toUInt32 % 65536).toInt32 = (BYTS.getD i []).getD j 0 ∧ narrow .char (.int ((BYTS.getD i []).getD j 0)) = .int ((BYTS.getD i []).getD j 0) := by decide +kernel
theorem lens_shr : ∀ i, i < 9 → Int32.ofNat (LENS.getD i 0) >>> ((0 : Int32) &&& 31) = Int32.ofNat (LENS.getD i 0) := by decide +kernel
theorem lens_lt : ∀ i, i < 9 → ∀ j, j < LENS.getD i 0 → ∀ k : Int32, ¬ k < 0 → k.toNatClampNeg = j → k < Int32.ofNat (LENS.getD i 0) := by
  intro i hi j hj k h0 e
  have h1 : ∀ i, i < 9 → (Int32.ofNat (LENS.getD i 0)).toInt = (LENS.getD i 0 : Int) := by decide +kernel
  rw [Int32.lt_iff_toInt_lt, h1 i hi]
  have h2 : (0 : Int) ≤ k.toInt := by simpa using Int32.le_iff_toInt_le.mp (Int32.not_lt.mp h0)
  have h3 : k.toInt.toNat = j := e
  omega
def rmJ0_coder_7d493 : Room := { frames := 0, cells := 0, slots := 0, locals := 0 }
theorem c_J0_coder_7d493 (l : Launch) (g : GG) (ad : Nat → Nat) (S : ST) (sz : Nat) (i : Nat) (hi : i < 9) : Met l yJ0_coder_7d493 (WS (.code yJ0_coder_7d493 cJ0_coder_7d493 1 (some .byte))) rmJ0_coder_7d493 (va_Pc [.ref (g.2.2.2.1 i)] (PW kC g ad S sz)) (QI kC g ad (0, S) (AA kC ad sz)) 0 0 (AA kC ad sz) := by
  refine go_m (Qc := fun A => QI kC g ad (0, S) A) (by decide) (Nat.le_of_ble_eq_true rfl) (fun p e s m below meth c ls H locs C X hl => ?_)
  have hx := C.1.1
  have hb := C.1.2.1
  have hl : lv_has ls 1 [(0, .ref (g.2.2.2.1 i))] := hl
  refine va_gets hx hb C.2.2.2.2.1 X.2.2 C.1.2.2.2.2.2.1 (C.1.2.2.2.2.2.2 _ (ws_in wd_507)) (fun _ h => h) dJ0_coder_7d493_0 ?_
  refine lv_if_eq (tgt := 13) hx hb dJ0_coder_7d493_3 (by decide) (fun c1 => absurd c1 (by decide)) (fun c1 => ?_)
  refine lv_aload_n hx hb dJ0_coder_7d493_6 rfl (lv_at hl 0 rfl) ?_
  refine vk_getf hx hb (C.2.2.2.2.2.2.1.1 i hi).2.1 X.2.2 C.1.2.2.2.2.2.1 (C.1.2.2.2.2.2.2 _ (ws_in wd_1492)) (fun _ h => h) dJ0_coder_7d493_7 ?_
  refine lv_goto (tgt := 14) hx hb dJ0_coder_7d493_10 (by decide) ?_
  exact rt_n C X rfl rfl rfl dJ0_coder_7d493_14
def rmJ0_isLatin1_aae02 : Room := { frames := 0, cells := 0, slots := 0, locals := 0 }
theorem c_J0_isLatin1_aae02 (l : Launch) (g : GG) (ad : Nat → Nat) (S : ST) (sz : Nat) (i : Nat) (hi : i < 9) : Met l yJ0_isLatin1_aae02 (WS (.code yJ0_isLatin1_aae02 cJ0_isLatin1_aae02 1 (some .boolean))) rmJ0_isLatin1_aae02 (va_Pc [.ref (g.2.2.2.1 i)] (PW kC g ad S sz)) (QI kC g ad (1, S) (AA kC ad sz)) 0 0 (AA kC ad sz) := by
  refine go_m (Qc := fun A => QI kC g ad (1, S) A) (by decide) (Nat.le_of_ble_eq_true rfl) (fun p e s m below meth c ls H locs C X hl => ?_)
  have hx := C.1.1
  have hb := C.1.2.1
  have hl : lv_has ls 1 [(0, .ref (g.2.2.2.1 i))] := hl
  refine va_gets hx hb C.2.2.2.2.1 X.2.2 C.1.2.2.2.2.2.1 (C.1.2.2.2.2.2.2 _ (ws_in wd_507)) (fun _ h => h) dJ0_isLatin1_aae02_0 ?_
  refine lv_if_eq (tgt := 17) hx hb dJ0_isLatin1_aae02_3 (by decide) (fun c1 => absurd c1 (by decide)) (fun c1 => ?_)
  refine lv_aload_n hx hb dJ0_isLatin1_aae02_6 rfl (lv_at hl 0 rfl) ?_
  refine vk_getf hx hb (C.2.2.2.2.2.2.1.1 i hi).2.1 X.2.2 C.1.2.2.2.2.2.1 (C.1.2.2.2.2.2.2 _ (ws_in wd_1492)) (fun _ h => h) dJ0_isLatin1_aae02_7 ?_
  refine lv_if_ne (tgt := 17) hx hb dJ0_isLatin1_aae02_10 (by decide) (fun c1 => absurd rfl c1) (fun c1 => ?_)
  refine lv_iconst (v := (1 : Int32)) hx hb dJ0_isLatin1_aae02_13 (by decide) ?_
  refine lv_goto (tgt := 18) hx hb dJ0_isLatin1_aae02_14 (by decide) ?_
  exact rt_n C X rfl rfl rfl dJ0_isLatin1_aae02_18
def rmJ0_length_8abf5 : Room := { frames := 1, cells := 0, slots := 0, locals := 20 }
theorem c_J0_length_8abf5 (l : Launch) (g : GG) (ad : Nat → Nat) (S : ST) (sz : Nat) (i : Nat) {r : Int32} (h : f_slen i = some r) : Met l yJ0_length_8abf5 (WS (.code yJ0_length_8abf5 cJ0_length_8abf5 1 (some .int))) rmJ0_length_8abf5 (va_Pc [.ref (g.2.2.2.1 i)] (PW kC g ad S sz)) (QI kC g ad (r, S) (AA kC ad sz)) 0 0 (AA kC ad sz) := by
  obtain ⟨hi, hr⟩ := slen_s h
  refine go_m (Qc := fun A => QI kC g ad (r, S) A) (by decide) (Nat.le_of_ble_eq_true rfl) (fun p e s m below meth c ls H locs C X hl => ?_)
  have hx := C.1.1
  have hb := C.1.2.1
  have hl : lv_has ls 1 [(0, .ref (g.2.2.2.1 i))] := hl
  refine lv_aload_n hx hb dJ0_length_8abf5_0 rfl (lv_at hl 0 rfl) ?_
  refine vk_getf hx hb (C.2.2.2.2.2.2.1.1 i hi).2.2.1 X.2.2 C.1.2.2.2.2.2.1 (C.1.2.2.2.2.2.2 _ (ws_in wd_1491)) (fun _ h => h) dJ0_length_8abf5_1 ?_
  refine va_tlen hx hb (C.2.2.2.2.2.2.1.1 i hi).2.2.2 X.2.2 rfl dJ0_length_8abf5_4 ?_
  refine lv_aload_n hx hb dJ0_length_8abf5_5 rfl (lv_at hl 0 rfl) ?_
  refine kc_i X (res := (0, S)) (rStr (As := []) (rest := [.int (Int32.ofNat (LENS.getD i 0))]) (n := 0) C X (c_J0_coder_7d493 l g ad S _ i hi) wd_503 wd_504 wd_505 wd_84 wd_506 hi rfl rfl (by decide +kernel) ⟨Nat.le_of_ble_eq_true rfl, Nat.le_of_ble_eq_true rfl⟩ rfl hl.1 (lv_room (Nat.le_of_ble_eq_true rfl)) dJ0_length_8abf5_6) (fun H locs X => ?_)
  refine lv_ishr hx hb dJ0_length_8abf5_9 ?_
  exact rt_i C X rfl (by rw [lens_shr i hi, hr]) dJ0_length_8abf5_10
def rmJ3_checkIndex_8e157 : Room := { frames := 0, cells := 0, slots := 0, locals := 0 }
theorem c_J3_checkIndex_8e157 (l : Launch) (g : GG) (ad : Nat → Nat) (S : ST) (sz : Nat) (j n : Int32) (v : Value) (hv : v = .null ∨ ∃ t, v = .ref t) (h0 : ¬ j < 0) (h1 : j < n) : Met l yJ3_checkIndex_8e157 (WS (.code yJ3_checkIndex_8e157 cJ3_checkIndex_8e157 3 (some .int))) rmJ3_checkIndex_8e157 (va_Pc [.int j, .int n, v] (PW kC g ad S sz)) (QI kC g ad (j, S) (AA kC ad sz)) 0 0 (AA kC ad sz) := by
  rcases hv with rfl | ⟨t, rfl⟩
  · refine go_m (Qc := fun A => QI kC g ad (j, S) A) (by decide) (Nat.le_of_ble_eq_true rfl) (fun p e s m below meth c ls H locs C X hl => ?_)
    have hx := C.1.1
    have hb := C.1.2.1
    have hl : lv_has ls 3 [(0, .int j), (1, .int n), (2, .null)] := hl
    refine lv_iload_n hx hb dJ3_checkIndex_8e157_0 rfl (lv_at hl 0 rfl) ?_
    refine lv_if_lt (tgt := 9) hx hb dJ3_checkIndex_8e157_1 (by decide) (fun c1 => absurd c1 h0) (fun c1 => ?_)
    refine lv_iload_n hx hb dJ3_checkIndex_8e157_4 rfl (lv_at hl 0 rfl) ?_
    refine lv_iload_n hx hb dJ3_checkIndex_8e157_5 rfl (lv_at hl 1 rfl) ?_
    refine lv_icmp_lt (tgt := 16) hx hb dJ3_checkIndex_8e157_6 (by decide) (fun c1 => ?_) (fun c1 => absurd h1 c1)
    refine lv_iload_n hx hb dJ3_checkIndex_8e157_16 rfl (lv_at hl 0 rfl) ?_
    exact rt_i C X rfl rfl dJ3_checkIndex_8e157_17
  · refine go_m (Qc := fun A => QI kC g ad (j, S) A) (by decide) (Nat.le_of_ble_eq_true rfl) (fun p e s m below meth c ls H locs C X hl => ?_)
    have hx := C.1.1
    have hb := C.1.2.1
    have hl : lv_has ls 3 [(0, .int j), (1, .int n), (2, .ref t)] := hl
    refine lv_iload_n hx hb dJ3_checkIndex_8e157_0 rfl (lv_at hl 0 rfl) ?_
    refine lv_if_lt (tgt := 9) hx hb dJ3_checkIndex_8e157_1 (by decide) (fun c1 => absurd c1 h0) (fun c1 => ?_)
    refine lv_iload_n hx hb dJ3_checkIndex_8e157_4 rfl (lv_at hl 0 rfl) ?_
    refine lv_iload_n hx hb dJ3_checkIndex_8e157_5 rfl (lv_at hl 1 rfl) ?_
    refine lv_icmp_lt (tgt := 16) hx hb dJ3_checkIndex_8e157_6 (by decide) (fun c1 => ?_) (fun c1 => absurd h1 c1)
    refine lv_iload_n hx hb dJ3_checkIndex_8e157_16 rfl (lv_at hl 0 rfl) ?_
    exact rt_i C X rfl rfl dJ3_checkIndex_8e157_17
def rmJ0_checkIndex_df160 : Room := { frames := 1, cells := 0, slots := 0, locals := 22 }
theorem c_J0_checkIndex_df160 (l : Launch) (g : GG) (ad : Nat → Nat) (S : ST) (sz : Nat) (j n : Int32) (h0 : ¬ j < 0) (h1 : j < n) : Met l yJ0_checkIndex_df160 (WS (.code yJ0_checkIndex_df160 cJ0_checkIndex_df160 2 none)) rmJ0_checkIndex_df160 (va_Pc [.int j, .int n] (PW kC g ad S sz)) (QV kC g ad S (AA kC ad sz)) 0 0 (AA kC ad sz) := by
  refine go_m (Qc := fun A => QV kC g ad S A) (by decide) (Nat.le_of_ble_eq_true rfl) (fun p e s m below meth c ls H locs C X hl => ?_)
  have hx := C.1.1
  have hb := C.1.2.1
  have hl : lv_has ls 2 [(0, .int j), (1, .int n)] := hl
  refine lv_iload_n hx hb dJ0_checkIndex_df160_0 rfl (lv_at hl 0 rfl) ?_
  refine lv_iload_n hx hb dJ0_checkIndex_df160_1 rfl (lv_at hl 1 rfl) ?_
  rcases C.2.2.2.2.2.1 with hZ | ⟨t, hZ⟩
  · refine va_gets hx hb hZ X.2.2 C.1.2.2.2.2.2.1 (C.1.2.2.2.2.2.2 _ (ws_in wd_523)) (fun _ h => h) dJ0_checkIndex_df160_2 ?_
    refine kc_i X (res := (j, S)) (rS (As := [.int j, .int n, .null]) (rest := []) (n := 3) C X (c_J3_checkIndex_8e157 l g ad S _ j n .null (Or.inl rfl) h0 h1) wd_525 wd_526 wd_86 wd_527 rfl rfl (by decide +kernel) ⟨Nat.le_of_ble_eq_true rfl, Nat.le_of_ble_eq_true rfl⟩ rfl hl.1 (lv_room (Nat.le_of_ble_eq_true rfl)) dJ0_checkIndex_df160_5) (fun H locs X => ?_)
    refine lv_pop hx hb dJ0_checkIndex_df160_8 rfl ?_
    exact rt_v C X rfl rfl dJ0_checkIndex_df160_9
  · refine va_gets hx hb hZ X.2.2 C.1.2.2.2.2.2.1 (C.1.2.2.2.2.2.2 _ (ws_in wd_523)) (fun _ h => h) dJ0_checkIndex_df160_2 ?_
    refine kc_i X (res := (j, S)) (rS (As := [.int j, .int n, (.ref t)]) (rest := []) (n := 3) C X (c_J3_checkIndex_8e157 l g ad S _ j n (.ref t) (Or.inr ⟨t, rfl⟩) h0 h1) wd_525 wd_526 wd_86 wd_527 rfl rfl (by decide +kernel) ⟨Nat.le_of_ble_eq_true rfl, Nat.le_of_ble_eq_true rfl⟩ rfl hl.1 (lv_room (Nat.le_of_ble_eq_true rfl)) dJ0_checkIndex_df160_5) (fun H locs X => ?_)
    refine lv_pop hx hb dJ0_checkIndex_df160_8 rfl ?_
    exact rt_v C X rfl rfl dJ0_checkIndex_df160_9
def rmJ1_charAt_3b067 : Room := { frames := 2, cells := 0, slots := 0, locals := 43 }
theorem c_J1_charAt_3b067 (l : Launch) (g : GG) (ad : Nat → Nat) (S : ST) (sz : Nat) (i : Nat) (j : Int32) {r : Int32} (h : f_sch i j = some r) : Met l yJ1_charAt_3b067 (WS (.code yJ1_charAt_3b067 cJ1_charAt_3b067 2 (some .char))) rmJ1_charAt_3b067 (va_Pc [.ref (g.2.2.2.2 i), .int j] (PW kC g ad S sz)) (QI kC g ad (r, S) (AA kC ad sz)) 0 0 (AA kC ad sz) := by
  obtain ⟨hi, hj, hr⟩ := sch_s h
  have h0 : ¬ j < 0 := fun q => ib_in hj (Or.inl q)
  have hjl : j.toNatClampNeg < LENS.getD i 0 := Nat.not_le.mp fun q => ib_in hj (Or.inr q)
  have h1 := lens_lt i hi _ hjl j h0 rfl
  obtain ⟨h2, h3⟩ := lens_ok i hi _ hjl
  refine go_m (Qc := fun A => QI kC g ad (r, S) A) (by decide) (Nat.le_of_ble_eq_true rfl) (fun p e s m below meth c ls H locs C X hl => ?_)
  have hx := C.1.1
  have hb := C.1.2.1
  have hl : lv_has ls 2 [(0, .ref (g.2.2.2.2 i)), (1, .int j)] := hl
  refine lv_iload_n hx hb dJ1_charAt_3b067_0 rfl (lv_at hl 1 rfl) ?_
  refine lv_aload_n hx hb dJ1_charAt_3b067_1 rfl (lv_at hl 0 rfl) ?_
  refine va_tlen hx hb (C.2.2.2.2.2.2.1.1 i hi).2.2.2 X.2.2 rfl dJ1_charAt_3b067_2 ?_
  refine kc_v X (res := S) (rS (As := [.int j, .int (Int32.ofNat (LENS.getD i 0))]) (rest := []) (n := 2) C X (c_J0_checkIndex_df160 l g ad S _ j _ h0 h1) wd_520 wd_521 wd_84 wd_522 rfl rfl (by decide +kernel) ⟨Nat.le_of_ble_eq_true rfl, Nat.le_of_ble_eq_true rfl⟩ rfl hl.1 (lv_room (Nat.le_of_ble_eq_true rfl)) dJ1_charAt_3b067_3) (fun H locs X => ?_)
  refine lv_aload_n hx hb dJ1_charAt_3b067_6 rfl (lv_at hl 0 rfl) ?_
  refine lv_iload_n hx hb dJ1_charAt_3b067_7 rfl (lv_at hl 1 rfl) ?_
  refine va_tb hx hb (C.2.2.2.2.2.2.1.1 i hi).2.2.2 X.2.2 (ib_in hj) rfl dJ1_charAt_3b067_8 ?_
  refine lv_sipush (v := (255 : Int32)) hx hb dJ1_charAt_3b067_9 (by decide) ?_
  refine lv_iand hx hb dJ1_charAt_3b067_12 ?_
  refine lv_i2c hx hb dJ1_charAt_3b067_13 rfl ?_
  refine tp_i (h2.symm) ?_
  exact rt_n C X rfl h3 (by rw [hr]) dJ1_charAt_3b067_14
def rmJ0_charAt_5068e : Room := { frames := 3, cells := 0, slots := 0, locals := 64 }
theorem c_J0_charAt_5068e (l : Launch) (g : GG) (ad : Nat → Nat) (S : ST) (sz : Nat) (i : Nat) (j : Int32) {r : Int32} (h : f_sch i j = some r) : Met l yJ0_charAt_5068e (WS (.code yJ0_charAt_5068e cJ0_charAt_5068e 2 (some .char))) rmJ0_charAt_5068e (va_Pc [.ref (g.2.2.2.1 i), .int j] (PW kC g ad S sz)) (QI kC g ad (r, S) (AA kC ad sz)) 0 0 (AA kC ad sz) := by
  obtain ⟨hi, hj, hr⟩ := sch_s h
  have hjl : j.toNatClampNeg < LENS.getD i 0 := Nat.not_le.mp fun q => ib_in hj (Or.inr q)
  obtain ⟨h2, h3⟩ := lens_ok i hi _ hjl
  refine go_m (Qc := fun A => QI kC g ad (r, S) A) (by decide) (Nat.le_of_ble_eq_true rfl) (fun p e s m below meth c ls H locs C X hl => ?_)
  have hx := C.1.1
  have hb := C.1.2.1
  have hl : lv_has ls 2 [(0, .ref (g.2.2.2.1 i)), (1, .int j)] := hl
  refine lv_aload_n hx hb dJ0_charAt_5068e_0 rfl (lv_at hl 0 rfl) ?_
  refine kc_i X (res := (1, S)) (rStr (As := []) (rest := []) (n := 0) C X (c_J0_isLatin1_aae02 l g ad S _ i hi) wd_513 wd_514 wd_515 wd_84 wd_516 hi rfl rfl (by decide +kernel) ⟨Nat.le_of_ble_eq_true rfl, Nat.le_of_ble_eq_true rfl⟩ rfl hl.1 (lv_room (Nat.le_of_ble_eq_true rfl)) dJ0_charAt_5068e_1) (fun H locs X => ?_)
  refine lv_if_eq (tgt := 16) hx hb dJ0_charAt_5068e_4 (by decide) (fun c1 => absurd (show (1 : Int32) = 0 from c1) (by decide)) (fun c1 => ?_)
  refine lv_aload_n hx hb dJ0_charAt_5068e_7 rfl (lv_at hl 0 rfl) ?_
  refine vk_getf hx hb (C.2.2.2.2.2.2.1.1 i hi).2.2.1 X.2.2 C.1.2.2.2.2.2.1 (C.1.2.2.2.2.2.2 _ (ws_in wd_1491)) (fun _ h => h) dJ0_charAt_5068e_8 ?_
  refine lv_iload_n hx hb dJ0_charAt_5068e_11 rfl (lv_at hl 1 rfl) ?_
  refine kc_i X (res := (r, S)) (rS (As := [.ref (g.2.2.2.2 i), .int j]) (rest := []) (n := 2) C X (c_J1_charAt_3b067 l g ad S _ i j h) wd_517 wd_518 wd_85 wd_519 rfl rfl (by decide +kernel) ⟨Nat.le_of_ble_eq_true rfl, Nat.le_of_ble_eq_true rfl⟩ rfl hl.1 (lv_room (Nat.le_of_ble_eq_true rfl)) dJ0_charAt_5068e_12) (fun H locs X => ?_)
  exact rt_n C X rfl (by rw [← hr]; exact h3) rfl dJ0_charAt_5068e_15
