def rmX9_lengthNow : Room := { frames := 2, cells := 0, slots := 0, locals := 42 }
def f_X9_lengthNow  (S : ST) : Option Int32 :=
  bn1 (f_X3_number ((1 : Int32)) S) fun r1 => bn1 (f_X5_inHand ((1 : Int32)) S) fun r2 => some (r1 - r2)
set_option maxHeartbeats 4000000 in
set_option maxRecDepth 100000 in
theorem c_X9_lengthNow (l : Launch) (g : GG) (ad : Nat → Nat) (S : ST) (sz : Nat)   {res : Int32} (h : f_X9_lengthNow S = some res) : Met l yX9_lengthNow (WS (.code yX9_lengthNow cX9_lengthNow 1 (some Jvm.ClassFile.FieldType.int))) rmX9_lengthNow (va_Pc [.ref (ad 0)] (PW kC g ad S sz)) (QI kC g ad (res, S) (AA kC ad sz)) 0 0 (AA kC ad sz) := by
  refine go_m (Qc := fun A => QI kC g ad (res, S) A) (by decide) (Nat.le_of_ble_eq_true rfl) (fun p e s m below meth c ls H locs C X hl => ?_)
  have hx := C.1.1
  have hb := C.1.2.1
  have hl : lv_has ls 1 [(0, .ref (ad 0))] := hl
  have h : (bn1 (f_X3_number ((1 : Int32)) S) fun r1 => bn1 (f_X5_inHand ((1 : Int32)) S) fun r2 => some (r1 - r2) : Option Int32) = some res := h
  refine lv_aload_n hx hb dX9_lengthNow_0 rfl (lv_at hl 0 rfl) ?_
  refine g_get C X inT9 0 (by decide) (eC_0 g ad S) rfl 2 (by decide) wd_395 (v := .ref (ad 4)) rfl dX9_lengthNow_1 ?_
  refine lv_iconst (v := (1 : Int32)) hx hb dX9_lengthNow_4 (by decide) ?_
  obtain ⟨r1, qr1, h⟩ := bn1_s h
  refine kc_i X (res := (r1, S)) (rV (As := [.int ((1 : Int32))]) (rest := []) (n := 1) (k := 4) C X (c_X3_number l g ad S _ ((1 : Int32))  qr1) wd_639 wd_390 wd_391 wd_73 wd_392 (by decide) (eC_4 g ad S) rfl rfl rfl (by decide +kernel) ⟨Nat.le_of_ble_eq_true rfl, Nat.le_of_ble_eq_true rfl⟩ rfl hl.1 (lv_room (Nat.le_of_ble_eq_true rfl)) dX9_lengthNow_5) (fun H locs X => ?_)
  refine lv_aload_n hx hb dX9_lengthNow_8 rfl (lv_at hl 0 rfl) ?_
  refine g_get C X inT9 0 (by decide) (eC_0 g ad S) rfl 6 (by decide) wd_399 (v := .ref (ad 31)) rfl dX9_lengthNow_9 ?_
  refine lv_iconst (v := (1 : Int32)) hx hb dX9_lengthNow_12 (by decide) ?_
  obtain ⟨r2, qr2, h⟩ := bn1_s h
  refine kc_i X (res := (r2, S)) (rV (As := [.int ((1 : Int32))]) (rest := [.int r1]) (n := 1) (k := 31) C X (c_X5_inHand l g ad S _ ((1 : Int32))  qr2) wd_653 wd_654 wd_655 wd_78 wd_656 (by decide) (eC_31 g ad S) rfl rfl rfl (by decide +kernel) ⟨Nat.le_of_ble_eq_true rfl, Nat.le_of_ble_eq_true rfl⟩ rfl hl.1 (lv_room (Nat.le_of_ble_eq_true rfl)) dX9_lengthNow_13) (fun H locs X => ?_)
  refine lv_isub hx hb dX9_lengthNow_16 ?_
  exact rt_i C X rfl (congrArg (fun z => (z, S)) (Option.some.inj h)) dX9_lengthNow_17

def rmX9_lowerNow : Room := { frames := 2, cells := 0, slots := 0, locals := 42 }
def f_X9_lowerNow  (S : ST) : Option Int32 :=
  bn1 (f_X5_inHand ((0 : Int32)) S) fun r1 => bn1 (f_X3_lower r1 S) fun r2 => some r2
set_option maxHeartbeats 4000000 in
set_option maxRecDepth 100000 in
theorem c_X9_lowerNow (l : Launch) (g : GG) (ad : Nat → Nat) (S : ST) (sz : Nat)   {res : Int32} (h : f_X9_lowerNow S = some res) : Met l yX9_lowerNow (WS (.code yX9_lowerNow cX9_lowerNow 1 (some Jvm.ClassFile.FieldType.int))) rmX9_lowerNow (va_Pc [.ref (ad 0)] (PW kC g ad S sz)) (QI kC g ad (res, S) (AA kC ad sz)) 0 0 (AA kC ad sz) := by
  refine go_m (Qc := fun A => QI kC g ad (res, S) A) (by decide) (Nat.le_of_ble_eq_true rfl) (fun p e s m below meth c ls H locs C X hl => ?_)
  have hx := C.1.1
  have hb := C.1.2.1
  have hl : lv_has ls 1 [(0, .ref (ad 0))] := hl
  have h : (bn1 (f_X5_inHand ((0 : Int32)) S) fun r1 => bn1 (f_X3_lower r1 S) fun r2 => some r2 : Option Int32) = some res := h
  refine lv_aload_n hx hb dX9_lowerNow_0 rfl (lv_at hl 0 rfl) ?_
  refine g_get C X inT9 0 (by decide) (eC_0 g ad S) rfl 2 (by decide) wd_395 (v := .ref (ad 4)) rfl dX9_lowerNow_1 ?_
  refine lv_aload_n hx hb dX9_lowerNow_4 rfl (lv_at hl 0 rfl) ?_
  refine g_get C X inT9 0 (by decide) (eC_0 g ad S) rfl 6 (by decide) wd_399 (v := .ref (ad 31)) rfl dX9_lowerNow_5 ?_
  refine lv_iconst (v := (0 : Int32)) hx hb dX9_lowerNow_8 (by decide) ?_
  obtain ⟨r1, qr1, h⟩ := bn1_s h
  refine kc_i X (res := (r1, S)) (rV (As := [.int ((0 : Int32))]) (rest := [.ref (ad 4)]) (n := 1) (k := 31) C X (c_X5_inHand l g ad S _ ((0 : Int32))  qr1) wd_653 wd_654 wd_655 wd_78 wd_656 (by decide) (eC_31 g ad S) rfl rfl rfl (by decide +kernel) ⟨Nat.le_of_ble_eq_true rfl, Nat.le_of_ble_eq_true rfl⟩ rfl hl.1 (lv_room (Nat.le_of_ble_eq_true rfl)) dX9_lowerNow_9) (fun H locs X => ?_)
  obtain ⟨r2, qr2, h⟩ := bn1_s h
  refine kc_i X (res := (r2, S)) (rV (As := [.int r1]) (rest := []) (n := 1) (k := 4) C X (c_X3_lower l g ad S _ r1  qr2) wd_658 wd_659 wd_660 wd_73 wd_661 (by decide) (eC_4 g ad S) rfl rfl rfl (by decide +kernel) ⟨Nat.le_of_ble_eq_true rfl, Nat.le_of_ble_eq_true rfl⟩ rfl hl.1 (lv_room (Nat.le_of_ble_eq_true rfl)) dX9_lowerNow_12) (fun H locs X => ?_)
  exact rt_i C X rfl (congrArg (fun z => (z, S)) (Option.some.inj h)) dX9_lowerNow_15

def rmX9_strengthAfter : Room := { frames := 1, cells := 0, slots := 0, locals := 21 }
def b_X9_strengthAfter_11 (S : ST) (K11 : Int32 → Int32 → Int32 → Option Int32) (v2 : Int32) (v3 : Int32) (v4 : Int32) : Option Int32 :=
  if v2 < v4 then (some v3) else (bn1 (f_X3_number ((3 : Int32)) S) fun r3 => nm (v3 - ((v3 * r3) / ((100 : Int32)))) fun x4 => nm (v4 + (1 : Int32)) fun x5 => K11 v2 x4 x5)
def f_X9_strengthAfter (a1 : Int32) (S : ST) : Option Int32 :=
  bn1 (f_X3_number ((2 : Int32)) S) fun r1 => lp (fun _ _ _ => none) (b_X9_strengthAfter_11 S) 1000 a1 r1 ((1 : Int32))
set_option maxHeartbeats 4000000 in
set_option maxRecDepth 100000 in
theorem kb_X9_strengthAfter_11 {p : Program} {l : Launch} {e : Env} {s : State} {m : MethodId} {args : Array Value} {below : List Frame} {meth : Method} {c : Code} {g : GG} {ad : Nat → Nat} {res : Int32} {S : ST} (C : CX kC g ad p s m args meth c cX9_strengthAfter (some Jvm.ClassFile.FieldType.int) 4 yX9_strengthAfter.cls (.code yX9_strengthAfter cX9_strengthAfter 4 (some Jvm.ClassFile.FieldType.int))) {K11 : Int32 → Int32 → Int32 → Option Int32} (hK11 : ∀ {v2 : Int32} {v3 : Int32} {v4 : Int32} {H : Heap} {locs : List Loc} {ls : Array Slot}, K11 v2 v3 v4 = some res → WX kC g ad s S H locs → lv_has ls 4 [(0, .ref (ad 0)), (1, .int v2), (2, .int v3), (3, .int v4)] → W p l e rmX9_strengthAfter s m args below meth c H locs 0 0 (MQ below (QI kC g ad (res, S) (AA kC ad s.heap.size)) args s 0 0 (AA kC ad s.heap.size)) (F0 m 11 ls [])) {v2 : Int32} {v3 : Int32} {v4 : Int32}  {H : Heap} {locs : List Loc} {ls : Array Slot} (h : b_X9_strengthAfter_11 S K11 v2 v3 v4 = some res) (X : WX kC g ad s S H locs) (hl : lv_has ls 4 [(0, .ref (ad 0)), (1, .int v2), (2, .int v3), (3, .int v4)])  : W p l e rmX9_strengthAfter s m args below meth c H locs 0 0 (MQ below (QI kC g ad (res, S) (AA kC ad s.heap.size)) args s 0 0 (AA kC ad s.heap.size)) (F0 m 11 ls []) := by
  have hx := C.1.1
  have hb := C.1.2.1
  have h : (if v2 < v4 then (some v3) else (bn1 (f_X3_number ((3 : Int32)) S) fun r3 => nm (v3 - ((v3 * r3) / ((100 : Int32)))) fun x4 => nm (v4 + (1 : Int32)) fun x5 => K11 v2 x4 x5) : Option Int32) = some res := h
  refine lv_iload_n hx hb dX9_strengthAfter_11 rfl (lv_at hl 3 rfl) ?_
  refine lv_iload_n hx hb dX9_strengthAfter_12 rfl (lv_at hl 1 rfl) ?_
  refine lv_icmp_gt (tgt := 38) hx hb dX9_strengthAfter_13 (by decide) (fun c2 => ?_) (fun c2 => ?_)
  · have h := ip h c2
    refine lv_iload_n hx hb dX9_strengthAfter_38 rfl (lv_at hl 2 rfl) ?_
    exact rt_i C X rfl (congrArg (fun z => (z, S)) (Option.some.inj h)) dX9_strengthAfter_39
  · have h := inn h c2
    refine lv_iload_n hx hb dX9_strengthAfter_16 rfl (lv_at hl 2 rfl) ?_
    refine lv_iload_n hx hb dX9_strengthAfter_17 rfl (lv_at hl 2 rfl) ?_
    refine lv_aload_n hx hb dX9_strengthAfter_18 rfl (lv_at hl 0 rfl) ?_
    refine g_get C X inT9 0 (by decide) (eC_0 g ad S) rfl 2 (by decide) wd_395 (v := .ref (ad 4)) rfl dX9_strengthAfter_19 ?_
    refine lv_iconst (v := (3 : Int32)) hx hb dX9_strengthAfter_22 (by decide) ?_
    obtain ⟨r3, qr3, h⟩ := bn1_s h
    refine kc_i X (res := (r3, S)) (rV (As := [.int ((3 : Int32))]) (rest := [.int v3, .int v3]) (n := 1) (k := 4) C X (c_X3_number l g ad S _ ((3 : Int32))  qr3) wd_639 wd_390 wd_391 wd_73 wd_392 (by decide) (eC_4 g ad S) rfl rfl rfl (by decide +kernel) ⟨Nat.le_of_ble_eq_true rfl, Nat.le_of_ble_eq_true rfl⟩ rfl hl.1 (lv_room (Nat.le_of_ble_eq_true rfl)) dX9_strengthAfter_23) (fun H locs X => ?_)
    refine lv_imul hx hb dX9_strengthAfter_26 ?_
    refine lv_bipush (v := (100 : Int32)) hx hb dX9_strengthAfter_27 (by decide) ?_
    refine lv_idiv hx hb dX9_strengthAfter_29 (by decide) ?_
    refine lv_isub hx hb dX9_strengthAfter_30 ?_
    obtain ⟨x4, ex4, h⟩ := nm_s h
    refine tp_i ex4 ?_
    refine lv_istore_n (lv' := [(2, .int x4), (0, .ref (ad 0)), (1, .int v2), (3, .int v4)]) hx hb dX9_strengthAfter_31 rfl hl (by decide) rfl (fun ls hl => ?_)
    obtain ⟨x5, ex5, h⟩ := nm_s h
    refine lv_iinc (v := x5) (lv' := [(3, .int x5), (2, .int x4), (0, .ref (ad 0)), (1, .int v2)]) hx hb dX9_strengthAfter_32 hl (k := 3) rfl (by rw [ex5]; rfl) (by decide) rfl (fun ls hl => ?_)
    refine lv_goto (tgt := 11) hx hb dX9_strengthAfter_35 (by decide) ?_
    exact hK11 h X (lv_sub hl [2, 3, 1, 0] rfl) 
set_option maxHeartbeats 4000000 in
set_option maxRecDepth 100000 in
theorem kl_X9_strengthAfter_11 {p : Program} {l : Launch} {e : Env} {s : State} {m : MethodId} {args : Array Value} {below : List Frame} {meth : Method} {c : Code} {g : GG} {ad : Nat → Nat} {res : Int32} {S : ST} (C : CX kC g ad p s m args meth c cX9_strengthAfter (some Jvm.ClassFile.FieldType.int) 4 yX9_strengthAfter.cls (.code yX9_strengthAfter cX9_strengthAfter 4 (some Jvm.ClassFile.FieldType.int)))  : ∀ (n : Nat) {v2 : Int32} {v3 : Int32} {v4 : Int32} {H : Heap} {locs : List Loc} {ls : Array Slot}, (lp (fun _ _ _ => none) (b_X9_strengthAfter_11 S)) n v2 v3 v4 = some res → WX kC g ad s S H locs → lv_has ls 4 [(0, .ref (ad 0)), (1, .int v2), (2, .int v3), (3, .int v4)] → W p l e rmX9_strengthAfter s m args below meth c H locs 0 0 (MQ below (QI kC g ad (res, S) (AA kC ad s.heap.size)) args s 0 0 (AA kC ad s.heap.size)) (F0 m 11 ls []) := by
  intro n
  induction n with
  | zero =>
    intro v2 v3 v4 H locs ls h
    cases (show (none : Option Int32) = some res from h)
  | succ n ih =>
    intro v2 v3 v4 H locs ls h X hl 
    exact kb_X9_strengthAfter_11 C ih h X hl 
set_option maxHeartbeats 4000000 in
set_option maxRecDepth 100000 in
theorem c_X9_strengthAfter (l : Launch) (g : GG) (ad : Nat → Nat) (S : ST) (sz : Nat) (a1 : Int32)  {res : Int32} (h : f_X9_strengthAfter a1 S = some res) : Met l yX9_strengthAfter (WS (.code yX9_strengthAfter cX9_strengthAfter 4 (some Jvm.ClassFile.FieldType.int))) rmX9_strengthAfter (va_Pc [.ref (ad 0), .int a1] (PW kC g ad S sz)) (QI kC g ad (res, S) (AA kC ad sz)) 0 0 (AA kC ad sz) := by
  refine go_m (Qc := fun A => QI kC g ad (res, S) A) (by decide) (Nat.le_of_ble_eq_true rfl) (fun p e s m below meth c ls H locs C X hl => ?_)
  have hx := C.1.1
  have hb := C.1.2.1
  have hl : lv_has ls 4 [(0, .ref (ad 0)), (1, .int a1)] := hl
  have h : (bn1 (f_X3_number ((2 : Int32)) S) fun r1 => lp (fun _ _ _ => none) (b_X9_strengthAfter_11 S) 1000 a1 r1 ((1 : Int32)) : Option Int32) = some res := h
  refine lv_aload_n hx hb dX9_strengthAfter_0 rfl (lv_at hl 0 rfl) ?_
  refine g_get C X inT9 0 (by decide) (eC_0 g ad S) rfl 2 (by decide) wd_395 (v := .ref (ad 4)) rfl dX9_strengthAfter_1 ?_
  refine lv_iconst (v := (2 : Int32)) hx hb dX9_strengthAfter_4 (by decide) ?_
  obtain ⟨r1, qr1, h⟩ := bn1_s h
  refine kc_i X (res := (r1, S)) (rV (As := [.int ((2 : Int32))]) (rest := []) (n := 1) (k := 4) C X (c_X3_number l g ad S _ ((2 : Int32))  qr1) wd_639 wd_390 wd_391 wd_73 wd_392 (by decide) (eC_4 g ad S) rfl rfl rfl (by decide +kernel) ⟨Nat.le_of_ble_eq_true rfl, Nat.le_of_ble_eq_true rfl⟩ rfl hl.1 (lv_room (Nat.le_of_ble_eq_true rfl)) dX9_strengthAfter_5) (fun H locs X => ?_)
  refine lv_istore_n (lv' := [(2, .int r1), (0, .ref (ad 0)), (1, .int a1)]) hx hb dX9_strengthAfter_8 rfl hl (by decide) rfl (fun ls hl => ?_)
  refine lv_iconst (v := (1 : Int32)) hx hb dX9_strengthAfter_9 (by decide) ?_
  refine lv_istore_n (lv' := [(3, .int ((1 : Int32))), (2, .int r1), (0, .ref (ad 0)), (1, .int a1)]) hx hb dX9_strengthAfter_10 rfl hl (by decide) rfl (fun ls hl => ?_)
  exact kl_X9_strengthAfter_11 C _ h X (lv_sub hl [2, 3, 1, 0] rfl) 

def rmX9_swingerAt : Room := { frames := 0, cells := 0, slots := 0, locals := 0 }
def f_X9_swingerAt (a1 : Int32) (S : ST) : Option (Option Nat) :=
  if a1 < 0 then (some none) else (if (S.1 0 5) ≤ a1 then (some none) else (if ((8 : Int32)) ≤ a1 then (some none) else (chk (ib a1 8) (nm (15 + 2 * a1.toNatClampNeg) fun x5 => some (some x5)))))
set_option maxHeartbeats 4000000 in
set_option maxRecDepth 100000 in
theorem c_X9_swingerAt (l : Launch) (g : GG) (ad : Nat → Nat) (S : ST) (sz : Nat) (a1 : Int32)  {res : (Option Nat)} (h : f_X9_swingerAt a1 S = some res) : Met l yX9_swingerAt (WS (.code yX9_swingerAt cX9_swingerAt 2 (some (Jvm.ClassFile.FieldType.object "RopeSwing$Swinger")))) rmX9_swingerAt (va_Pc [.ref (ad 0), .int a1] (PW kC g ad S sz)) (QQ kC g ad (res, S) (AA kC ad sz)) 0 0 (AA kC ad sz) := by
  refine go_m (Qc := fun A => QQ kC g ad (res, S) A) (by decide) (Nat.le_of_ble_eq_true rfl) (fun p e s m below meth c ls H locs C X hl => ?_)
  have hx := C.1.1
  have hb := C.1.2.1
  have hl : lv_has ls 2 [(0, .ref (ad 0)), (1, .int a1)] := hl
  have h : (if a1 < 0 then (some none) else (if (S.1 0 5) ≤ a1 then (some none) else (if ((8 : Int32)) ≤ a1 then (some none) else (chk (ib a1 8) (nm (15 + 2 * a1.toNatClampNeg) fun x5 => some (some x5))))) : Option (Option Nat)) = some res := h
  refine lv_iload_n hx hb dX9_swingerAt_0 rfl (lv_at hl 1 rfl) ?_
  refine lv_if_lt (tgt := 30) hx hb dX9_swingerAt_1 (by decide) (fun c1 => ?_) (fun c1 => ?_)
  · have h := ip h c1
    refine lv_null hx hb dX9_swingerAt_30 ?_
    exact rt_q (o := none) C X rfl rfl (congrArg (fun z => (z, S)) (Option.some.inj h)) dX9_swingerAt_31
  · have h := inn h c1
    refine lv_iload_n hx hb dX9_swingerAt_4 rfl (lv_at hl 1 rfl) ?_
    refine lv_aload_n hx hb dX9_swingerAt_5 rfl (lv_at hl 0 rfl) ?_
    refine g_get C X inT9 0 (by decide) (eC_0 g ad S) rfl 5 (by decide) wd_398 (v := .int (S.1 0 5)) rfl dX9_swingerAt_6 ?_
    refine lv_icmp_ge (tgt := 30) hx hb dX9_swingerAt_9 (by decide) (fun c2 => ?_) (fun c2 => ?_)
    · have h := ip h c2
      refine lv_null hx hb dX9_swingerAt_30 ?_
      exact rt_q (o := none) C X rfl rfl (congrArg (fun z => (z, S)) (Option.some.inj h)) dX9_swingerAt_31
    · have h := inn h c2
      refine lv_iload_n hx hb dX9_swingerAt_12 rfl (lv_at hl 1 rfl) ?_
      refine lv_aload_n hx hb dX9_swingerAt_13 rfl (lv_at hl 0 rfl) ?_
      refine g_get C X inT9 0 (by decide) (eC_0 g ad S) rfl 4 (by decide) wd_397 (v := .ref (ad 14)) rfl dX9_swingerAt_14 ?_
      refine g_alen C X 14 2 (by decide) (eC_14 g ad S) rfl (v := (8 : Int32)) (by first | rfl | decide) dX9_swingerAt_17 ?_
      refine lv_icmp_ge (tgt := 30) hx hb dX9_swingerAt_18 (by decide) (fun c3 => ?_) (fun c3 => ?_)
      · have h := ip h c3
        refine lv_null hx hb dX9_swingerAt_30 ?_
        exact rt_q (o := none) C X rfl rfl (congrArg (fun z => (z, S)) (Option.some.inj h)) dX9_swingerAt_31
      · have h := inn h c3
        refine lv_aload_n hx hb dX9_swingerAt_21 rfl (lv_at hl 0 rfl) ?_
        refine g_get C X inT9 0 (by decide) (eC_0 g ad S) rfl 4 (by decide) wd_397 (v := .ref (ad 14)) rfl dX9_swingerAt_22 ?_
        refine lv_iload_n hx hb dX9_swingerAt_25 rfl (lv_at hl 1 rfl) ?_
        obtain ⟨k4, h⟩ := chk_s h
        refine g_aald C X 14 2 (by decide) (eC_14 g ad S) rfl k4 dX9_swingerAt_26 ?_
        obtain ⟨x5, ex5, h⟩ := nm_s h
        have y6 : swk x5 = true := by rw [ex5]; exact sw_ld k4
        refine tp_r ex5 ?_
        refine lv_goto (tgt := 31) hx hb dX9_swingerAt_27 (by decide) ?_
        exact rt_q (o := (some x5)) C X rfl rfl (congrArg (fun z => (z, S)) (Option.some.inj h)) dX9_swingerAt_31
theorem ok_X9_swingerAt {a1 : Int32} {S : ST} {k : Nat} (h : f_X9_swingerAt a1 S = some (some k)) : swk k = true := by
  simp only [f_X9_swingerAt, chk, nm] at h
  repeat' split at h
  all_goals first | (cases h; done) | (cases h; exact sw_ld (by assumption))

def rmX9_imageAt : Room := { frames := 0, cells := 0, slots := 0, locals := 0 }
def f_X9_imageAt (a1 : Int32) (S : ST) : Option (Option Nat) :=
  if a1 < 0 then (some none) else (if ((2 : Int32)) ≤ a1 then (some none) else (chk (ib a1 2) (nm (35 + 3 * a1.toNatClampNeg) fun x4 => some (some x4))))
set_option maxHeartbeats 4000000 in
set_option maxRecDepth 100000 in
theorem c_X9_imageAt (l : Launch) (g : GG) (ad : Nat → Nat) (S : ST) (sz : Nat) (a1 : Int32)  {res : (Option Nat)} (h : f_X9_imageAt a1 S = some res) : Met l yX9_imageAt (WS (.code yX9_imageAt cX9_imageAt 2 (some (Jvm.ClassFile.FieldType.object "RopeSwing$State")))) rmX9_imageAt (va_Pc [.ref (ad 0), .int a1] (PW kC g ad S sz)) (QQ kC g ad (res, S) (AA kC ad sz)) 0 0 (AA kC ad sz) := by
  refine go_m (Qc := fun A => QQ kC g ad (res, S) A) (by decide) (Nat.le_of_ble_eq_true rfl) (fun p e s m below meth c ls H locs C X hl => ?_)
  have hx := C.1.1
  have hb := C.1.2.1
  have hl : lv_has ls 2 [(0, .ref (ad 0)), (1, .int a1)] := hl
  have h : (if a1 < 0 then (some none) else (if ((2 : Int32)) ≤ a1 then (some none) else (chk (ib a1 2) (nm (35 + 3 * a1.toNatClampNeg) fun x4 => some (some x4)))) : Option (Option Nat)) = some res := h
  refine lv_iload_n hx hb dX9_imageAt_0 rfl (lv_at hl 1 rfl) ?_
  refine lv_if_lt (tgt := 22) hx hb dX9_imageAt_1 (by decide) (fun c1 => ?_) (fun c1 => ?_)
  · have h := ip h c1
    refine lv_null hx hb dX9_imageAt_22 ?_
    exact rt_q (o := none) C X rfl rfl (congrArg (fun z => (z, S)) (Option.some.inj h)) dX9_imageAt_23
  · have h := inn h c1
    refine lv_iload_n hx hb dX9_imageAt_4 rfl (lv_at hl 1 rfl) ?_
    refine lv_aload_n hx hb dX9_imageAt_5 rfl (lv_at hl 0 rfl) ?_
    refine g_get C X inT9 0 (by decide) (eC_0 g ad S) rfl 7 (by decide) wd_400 (v := .ref (ad 34)) rfl dX9_imageAt_6 ?_
    refine g_alen C X 34 3 (by decide) (eC_34 g ad S) rfl (v := (2 : Int32)) (by first | rfl | decide) dX9_imageAt_9 ?_
    refine lv_icmp_ge (tgt := 22) hx hb dX9_imageAt_10 (by decide) (fun c2 => ?_) (fun c2 => ?_)
    · have h := ip h c2
      refine lv_null hx hb dX9_imageAt_22 ?_
      exact rt_q (o := none) C X rfl rfl (congrArg (fun z => (z, S)) (Option.some.inj h)) dX9_imageAt_23
    · have h := inn h c2
      refine lv_aload_n hx hb dX9_imageAt_13 rfl (lv_at hl 0 rfl) ?_
      refine g_get C X inT9 0 (by decide) (eC_0 g ad S) rfl 7 (by decide) wd_400 (v := .ref (ad 34)) rfl dX9_imageAt_14 ?_
      refine lv_iload_n hx hb dX9_imageAt_17 rfl (lv_at hl 1 rfl) ?_
      obtain ⟨k3, h⟩ := chk_s h
      refine g_aald C X 34 3 (by decide) (eC_34 g ad S) rfl k3 dX9_imageAt_18 ?_
      obtain ⟨x4, ex4, h⟩ := nm_s h
      have y5 : sttk x4 = true := by rw [ex4]; exact stt_ld k3
      refine tp_r ex4 ?_
      refine lv_goto (tgt := 23) hx hb dX9_imageAt_19 (by decide) ?_
      exact rt_q (o := (some x4)) C X rfl rfl (congrArg (fun z => (z, S)) (Option.some.inj h)) dX9_imageAt_23
theorem ok_X9_imageAt {a1 : Int32} {S : ST} {k : Nat} (h : f_X9_imageAt a1 S = some (some k)) : sttk k = true := by
  simp only [f_X9_imageAt, chk, nm] at h
  repeat' split at h
  all_goals first | (cases h; done) | (cases h; exact stt_ld (by assumption))

def rmX9_mostInHand : Room := { frames := 1, cells := 0, slots := 0, locals := 21 }
def f_X9_mostInHand (a1 : Int32) (S : ST) : Option Int32 :=
  bn1 (f_X9_ats 7 a1) fun r1 => if a1 = ((1 : Int32)) then (bn1 (f_X3_number ((1 : Int32)) S) fun r3 => nm (if (r3 - ((50 : Int32))) < r1 then (r3 - ((50 : Int32))) else r1) fun x4 => some x4) else (some r1)
set_option maxHeartbeats 4000000 in
set_option maxRecDepth 100000 in
theorem c_X9_mostInHand (l : Launch) (g : GG) (ad : Nat → Nat) (S : ST) (sz : Nat) (a1 : Int32)  {res : Int32} (h : f_X9_mostInHand a1 S = some res) : Met l yX9_mostInHand (WS (.code yX9_mostInHand cX9_mostInHand 3 (some Jvm.ClassFile.FieldType.int))) rmX9_mostInHand (va_Pc [.ref (ad 0), .int a1] (PW kC g ad S sz)) (QI kC g ad (res, S) (AA kC ad sz)) 0 0 (AA kC ad sz) := by
  refine go_m (Qc := fun A => QI kC g ad (res, S) A) (by decide) (Nat.le_of_ble_eq_true rfl) (fun p e s m below meth c ls H locs C X hl => ?_)
  have hx := C.1.1
  have hb := C.1.2.1
  have hl : lv_has ls 3 [(0, .ref (ad 0)), (1, .int a1)] := hl
  have h : (bn1 (f_X9_ats 7 a1) fun r1 => if a1 = ((1 : Int32)) then (bn1 (f_X3_number ((1 : Int32)) S) fun r3 => nm (if (r3 - ((50 : Int32))) < r1 then (r3 - ((50 : Int32))) else r1) fun x4 => some x4) else (some r1) : Option Int32) = some res := h
  refine g_gets C X 7 rfl wd_684 dX9_mostInHand_0 ?_
  refine lv_iload_n hx hb dX9_mostInHand_3 rfl (lv_at hl 1 rfl) ?_
  obtain ⟨r1, qr1, h⟩ := bn1_s h
  refine kc_i X (res := (r1, S)) (rS (As := [.ref (g.2.2.1 7), .int a1]) (rest := []) (n := 2) C X (c_X9_ats l g ad S _ 7 a1 (by decide) qr1) wd_690 wd_576 wd_70 wd_577 rfl rfl (by decide +kernel) ⟨Nat.le_of_ble_eq_true rfl, Nat.le_of_ble_eq_true rfl⟩ rfl hl.1 (lv_room (Nat.le_of_ble_eq_true rfl)) dX9_mostInHand_4) (fun H locs X => ?_)
  refine lv_istore_n (lv' := [(2, .int r1), (0, .ref (ad 0)), (1, .int a1)]) hx hb dX9_mostInHand_7 rfl hl (by decide) rfl (fun ls hl => ?_)
  refine lv_iload_n hx hb dX9_mostInHand_8 rfl (lv_at hl 2 rfl) ?_
  refine lv_iconst (v := (1 : Int32)) hx hb dX9_mostInHand_9 (by decide) ?_
  refine lv_icmp_ne (tgt := 31) hx hb dX9_mostInHand_10 (by decide) (fun c2 => ?_) (fun c2 => ?_)
  · have h := inn h c2
    refine lv_iload_n hx hb dX9_mostInHand_31 rfl (lv_at hl 0 rfl) ?_
    exact rt_i C X rfl (congrArg (fun z => (z, S)) (Option.some.inj h)) dX9_mostInHand_32
  · have h := ip h c2
    refine lv_iload_n hx hb dX9_mostInHand_13 rfl (lv_at hl 0 rfl) ?_
    refine lv_aload_n hx hb dX9_mostInHand_14 rfl (lv_at hl 1 rfl) ?_
    refine g_get C X inT9 0 (by decide) (eC_0 g ad S) rfl 2 (by decide) wd_395 (v := .ref (ad 4)) rfl dX9_mostInHand_15 ?_
    refine lv_iconst (v := (1 : Int32)) hx hb dX9_mostInHand_18 (by decide) ?_
    obtain ⟨r3, qr3, h⟩ := bn1_s h
    refine kc_i X (res := (r3, S)) (rV (As := [.int ((1 : Int32))]) (rest := [.int r1]) (n := 1) (k := 4) C X (c_X3_number l g ad S _ ((1 : Int32))  qr3) wd_639 wd_390 wd_391 wd_73 wd_392 (by decide) (eC_4 g ad S) rfl rfl rfl (by decide +kernel) ⟨Nat.le_of_ble_eq_true rfl, Nat.le_of_ble_eq_true rfl⟩ rfl hl.1 (lv_room (Nat.le_of_ble_eq_true rfl)) dX9_mostInHand_19) (fun H locs X => ?_)
    refine lv_bipush (v := (50 : Int32)) hx hb dX9_mostInHand_22 (by decide) ?_
    refine lv_isub hx hb dX9_mostInHand_24 ?_
    refine va_mmin hx hb (C.1.2.2.2.2.1.trans hl.1.symm) C.1.2.2.2.2.2.1 (C.1.2.2.2.2.2.2 _ (ws_in wd_691)) (C.1.2.2.2.2.2.2 _ (ws_in wd_155)) (C.1.2.2.2.2.2.2 _ (ws_in wd_74)) (C.1.2.2.2.2.2.2 _ (ws_in wd_156)) (Nat.le_of_ble_eq_true rfl) (Nat.le_of_ble_eq_true rfl) (Nat.zero_le _) (Nat.zero_le _) dX9_mostInHand_25 ?_
    obtain ⟨x4, ex4, h⟩ := nm_s h
    refine tp_i ex4 ?_
    refine lv_goto (tgt := 32) hx hb dX9_mostInHand_28 (by decide) ?_
    exact rt_i C X rfl (congrArg (fun z => (z, S)) (Option.some.inj h)) dX9_mostInHand_32

def rmX9_feed : Room := { frames := 2, cells := 0, slots := 0, locals := 43 }
def b_X9_feed_37 (K37 : Int64 → Int32 → ST → Option (Int32 × ST)) (v2 : Int64) (v3 : Int32) (S : ST) : Option (Int32 × ST) :=
  if v3 < 0 then (bn1 (f_X7_length S) fun r7 => some (r7, S)) else (bn1 (f_X7_add ((((v2.toUInt64 >>> ((((8 : Int32)) * v3).toInt64.toUInt64 &&& Int64.toUInt64 63)).toInt64).toInt32) &&& ((255 : Int32))) S) fun S8 => nm (v3 + (-1 : Int32)) fun x9 => K37 v2 x9 S8)
def f_X9_feed (a1 : Int32) (a2 : Int64) (S : ST) : Option (Int32 × ST) :=
  if a1 < ((1 : Int32)) then (some ((-1000000002 : Int32), S)) else (if a1 ≤ ((8 : Int32)) then (bn1 (f_X7_length S) fun r3 => if (r3 + a1) ≤ ((300 : Int32)) then (nm (a1 - ((1 : Int32))) fun x5 => lp (fun _ _ _ => none) (b_X9_feed_37) 1000 a2 x5 S) else (some ((-1000000004 : Int32), S))) else (some ((-1000000002 : Int32), S)))
set_option maxHeartbeats 4000000 in
set_option maxRecDepth 100000 in
theorem kb_X9_feed_37 {p : Program} {l : Launch} {e : Env} {s : State} {m : MethodId} {args : Array Value} {below : List Frame} {meth : Method} {c : Code} {g : GG} {ad : Nat → Nat} {res : (Int32 × ST)} {S : ST} (C : CX kC g ad p s m args meth c cX9_feed (some Jvm.ClassFile.FieldType.int) 5 yX9_feed.cls (.code yX9_feed cX9_feed 5 (some Jvm.ClassFile.FieldType.int))) {K37 : Int64 → Int32 → ST → Option (Int32 × ST)} (hK37 : ∀ {v2 : Int64} {v3 : Int32} {S : ST} {H : Heap} {locs : List Loc} {ls : Array Slot}, K37 v2 v3 S = some res → WX kC g ad s S H locs → lv_has ls 5 [(0, .ref (ad 0)), (2, .long v2), (4, .int v3)] → W p l e rmX9_feed s m args below meth c H locs 0 0 (MQ below (QI kC g ad res (AA kC ad s.heap.size)) args s 0 0 (AA kC ad s.heap.size)) (F0 m 37 ls [])) {v2 : Int64} {v3 : Int32}  {H : Heap} {locs : List Loc} {ls : Array Slot} (h : b_X9_feed_37 K37 v2 v3 S = some res) (X : WX kC g ad s S H locs) (hl : lv_has ls 5 [(0, .ref (ad 0)), (2, .long v2), (4, .int v3)])  : W p l e rmX9_feed s m args below meth c H locs 0 0 (MQ below (QI kC g ad res (AA kC ad s.heap.size)) args s 0 0 (AA kC ad s.heap.size)) (F0 m 37 ls []) := by
  have hx := C.1.1
  have hb := C.1.2.1
  have h : (if v3 < 0 then (bn1 (f_X7_length S) fun r7 => some (r7, S)) else (bn1 (f_X7_add ((((v2.toUInt64 >>> ((((8 : Int32)) * v3).toInt64.toUInt64 &&& Int64.toUInt64 63)).toInt64).toInt32) &&& ((255 : Int32))) S) fun S8 => nm (v3 + (-1 : Int32)) fun x9 => K37 v2 x9 S8) : Option (Int32 × ST)) = some res := h
  refine lv_iload hx hb dX9_feed_37 (lv_at hl 2 rfl) ?_
  refine lv_if_lt (tgt := 67) hx hb dX9_feed_39 (by decide) (fun c6 => ?_) (fun c6 => ?_)
  · have h := ip h c6
    refine lv_aload_n hx hb dX9_feed_67 rfl (lv_at hl 0 rfl) ?_
    refine g_get C X inT9 0 (by decide) (eC_0 g ad S) rfl 0 (by decide) wd_393 (v := .ref (ad 1)) rfl dX9_feed_68 ?_
    obtain ⟨r7, qr7, h⟩ := bn1_s h
    refine kc_i X (res := (r7, S)) (rV (As := []) (rest := []) (n := 0) (k := 1) C X (c_X7_length l g ad S _   qr7) wd_441 wd_442 wd_443 wd_71 wd_444 (by decide) (eC_1 g ad S) rfl rfl rfl (by decide +kernel) ⟨Nat.le_of_ble_eq_true rfl, Nat.le_of_ble_eq_true rfl⟩ rfl hl.1 (lv_room (Nat.le_of_ble_eq_true rfl)) dX9_feed_71) (fun H locs X => ?_)
    exact rt_i C X rfl (Option.some.inj h) dX9_feed_74
  · have h := inn h c6
    refine lv_aload_n hx hb dX9_feed_42 rfl (lv_at hl 0 rfl) ?_
    refine g_get C X inT9 0 (by decide) (eC_0 g ad S) rfl 0 (by decide) wd_393 (v := .ref (ad 1)) rfl dX9_feed_43 ?_
    refine lv_lload_n hx hb dX9_feed_46 rfl (lv_at hl 1 rfl) ?_
    refine lv_bipush (v := (8 : Int32)) hx hb dX9_feed_47 (by decide) ?_
    refine lv_iload hx hb dX9_feed_49 (lv_at hl 2 rfl) ?_
    refine lv_imul hx hb dX9_feed_51 ?_
    refine lv_lushr hx hb dX9_feed_52 rfl ?_
    refine lv_l2i hx hb dX9_feed_53 rfl ?_
    refine lv_sipush (v := (255 : Int32)) hx hb dX9_feed_54 (by decide) ?_
    refine lv_iand hx hb dX9_feed_57 ?_
    obtain ⟨S8, qS8, h⟩ := bn1_s h
    refine kc_v X (res := S8) (rV (As := [.int ((((v2.toUInt64 >>> ((((8 : Int32)) * v3).toInt64.toUInt64 &&& Int64.toUInt64 63)).toInt64).toInt32) &&& ((255 : Int32)))]) (rest := []) (n := 1) (k := 1) C X (c_X7_add l g ad S _ ((((v2.toUInt64 >>> ((((8 : Int32)) * v3).toInt64.toUInt64 &&& Int64.toUInt64 63)).toInt64).toInt32) &&& ((255 : Int32)))  qS8) wd_446 wd_447 wd_448 wd_71 wd_449 (by decide) (eC_1 g ad S) rfl rfl rfl (by decide +kernel) ⟨Nat.le_of_ble_eq_true rfl, Nat.le_of_ble_eq_true rfl⟩ rfl hl.1 (lv_room (Nat.le_of_ble_eq_true rfl)) dX9_feed_58) (fun H locs X => ?_)
    obtain ⟨x9, ex9, h⟩ := nm_s h
    refine lv_iinc (v := x9) (lv' := [(4, .int x9), (0, .ref (ad 0)), (2, .long v2)]) hx hb dX9_feed_61 hl (k := 2) rfl (by rw [ex9]; rfl) (by decide) rfl (fun ls hl => ?_)
    refine lv_goto (tgt := 37) hx hb dX9_feed_64 (by decide) ?_
    exact hK37 h X (lv_sub hl [1, 2, 0] rfl) 
set_option maxHeartbeats 4000000 in
set_option maxRecDepth 100000 in
theorem kl_X9_feed_37 {p : Program} {l : Launch} {e : Env} {s : State} {m : MethodId} {args : Array Value} {below : List Frame} {meth : Method} {c : Code} {g : GG} {ad : Nat → Nat} {res : (Int32 × ST)}  (C : CX kC g ad p s m args meth c cX9_feed (some Jvm.ClassFile.FieldType.int) 5 yX9_feed.cls (.code yX9_feed cX9_feed 5 (some Jvm.ClassFile.FieldType.int)))  : ∀ (n : Nat) {v2 : Int64} {v3 : Int32} {S : ST} {H : Heap} {locs : List Loc} {ls : Array Slot}, (lp (fun _ _ _ => none) (b_X9_feed_37)) n v2 v3 S = some res → WX kC g ad s S H locs → lv_has ls 5 [(0, .ref (ad 0)), (2, .long v2), (4, .int v3)] → W p l e rmX9_feed s m args below meth c H locs 0 0 (MQ below (QI kC g ad res (AA kC ad s.heap.size)) args s 0 0 (AA kC ad s.heap.size)) (F0 m 37 ls []) := by
  intro n
  induction n with
  | zero =>
    intro v2 v3 S H locs ls h
    cases (show (none : Option (Int32 × ST)) = some res from h)
  | succ n ih =>
    intro v2 v3 S H locs ls h X hl 
    exact kb_X9_feed_37 C ih h X hl 
set_option maxHeartbeats 4000000 in
set_option maxRecDepth 100000 in
theorem c_X9_feed (l : Launch) (g : GG) (ad : Nat → Nat) (S : ST) (sz : Nat) (a1 : Int32) (a2 : Int64)  {res : (Int32 × ST)} (h : f_X9_feed a1 a2 S = some res) : Met l yX9_feed (WS (.code yX9_feed cX9_feed 5 (some Jvm.ClassFile.FieldType.int))) rmX9_feed (va_Pc [.ref (ad 0), .int a1, .long a2] (PW kC g ad S sz)) (QI kC g ad res (AA kC ad sz)) 0 0 (AA kC ad sz) := by
  refine go_m (Qc := fun A => QI kC g ad res A) (by decide) (Nat.le_of_ble_eq_true rfl) (fun p e s m below meth c ls H locs C X hl => ?_)
  have hx := C.1.1
  have hb := C.1.2.1
  have hl : lv_has ls 5 [(0, .ref (ad 0)), (1, .int a1), (2, .long a2)] := hl
  have h : (if a1 < ((1 : Int32)) then (some ((-1000000002 : Int32), S)) else (if a1 ≤ ((8 : Int32)) then (bn1 (f_X7_length S) fun r3 => if (r3 + a1) ≤ ((300 : Int32)) then (nm (a1 - ((1 : Int32))) fun x5 => lp (fun _ _ _ => none) (b_X9_feed_37) 1000 a2 x5 S) else (some ((-1000000004 : Int32), S))) else (some ((-1000000002 : Int32), S))) : Option (Int32 × ST)) = some res := h
  refine lv_iload_n hx hb dX9_feed_0 rfl (lv_at hl 1 rfl) ?_
  refine lv_iconst (v := (1 : Int32)) hx hb dX9_feed_1 (by decide) ?_
  refine lv_icmp_lt (tgt := 11) hx hb dX9_feed_2 (by decide) (fun c1 => ?_) (fun c1 => ?_)
  · have h := ip h c1
    refine lv_ldc (v := (-1000000002 : Int32)) hx hb C.1.2.2.2.2.2.1 (C.1.2.2.2.2.2.2 _ (ws_in wd_440)) dX9_feed_11 ?_
    exact rt_i C X rfl (Option.some.inj h) dX9_feed_13
  · have h := inn h c1
    refine lv_iload_n hx hb dX9_feed_5 rfl (lv_at hl 1 rfl) ?_
    refine lv_bipush (v := (8 : Int32)) hx hb dX9_feed_6 (by decide) ?_
    refine lv_icmp_le (tgt := 14) hx hb dX9_feed_8 (by decide) (fun c2 => ?_) (fun c2 => ?_)
    · have h := ip h c2
      refine lv_aload_n hx hb dX9_feed_14 rfl (lv_at hl 0 rfl) ?_
      refine g_get C X inT9 0 (by decide) (eC_0 g ad S) rfl 0 (by decide) wd_393 (v := .ref (ad 1)) rfl dX9_feed_15 ?_
      obtain ⟨r3, qr3, h⟩ := bn1_s h
      refine kc_i X (res := (r3, S)) (rV (As := []) (rest := []) (n := 0) (k := 1) C X (c_X7_length l g ad S _   qr3) wd_441 wd_442 wd_443 wd_71 wd_444 (by decide) (eC_1 g ad S) rfl rfl rfl (by decide +kernel) ⟨Nat.le_of_ble_eq_true rfl, Nat.le_of_ble_eq_true rfl⟩ rfl hl.1 (lv_room (Nat.le_of_ble_eq_true rfl)) dX9_feed_18) (fun H locs X => ?_)
      refine lv_iload_n hx hb dX9_feed_21 rfl (lv_at hl 1 rfl) ?_
      refine lv_iadd hx hb dX9_feed_22 ?_
      refine lv_sipush (v := (300 : Int32)) hx hb dX9_feed_23 (by decide) ?_
      refine lv_icmp_le (tgt := 32) hx hb dX9_feed_26 (by decide) (fun c4 => ?_) (fun c4 => ?_)
      · have h := ip h c4
        refine lv_iload_n hx hb dX9_feed_32 rfl (lv_at hl 1 rfl) ?_
        refine lv_iconst (v := (1 : Int32)) hx hb dX9_feed_33 (by decide) ?_
        refine lv_isub hx hb dX9_feed_34 ?_
        obtain ⟨x5, ex5, h⟩ := nm_s h
        refine tp_i ex5 ?_
        refine lv_istore (lv' := [(4, .int x5), (0, .ref (ad 0)), (1, .int a1), (2, .long a2)]) hx hb dX9_feed_35 hl (by decide) rfl (fun ls hl => ?_)
        exact kl_X9_feed_37 C _ h X (lv_sub hl [1, 3, 0] rfl) 
      · have h := inn h c4
        refine lv_ldc (v := (-1000000004 : Int32)) hx hb C.1.2.2.2.2.2.1 (C.1.2.2.2.2.2.2 _ (ws_in wd_445)) dX9_feed_29 ?_
        exact rt_i C X rfl (Option.some.inj h) dX9_feed_31
    · have h := inn h c2
      refine lv_ldc (v := (-1000000002 : Int32)) hx hb C.1.2.2.2.2.2.1 (C.1.2.2.2.2.2.2 _ (ws_in wd_440)) dX9_feed_11 ?_
      exact rt_i C X rfl (Option.some.inj h) dX9_feed_13

def rmX9_fault : Room := { frames := 0, cells := 0, slots := 0, locals := 0 }
def f_X9_fault  (S : ST) : Option Int32 :=
  some (S.1 0 13)
set_option maxHeartbeats 4000000 in
set_option maxRecDepth 100000 in
theorem c_X9_fault (l : Launch) (g : GG) (ad : Nat → Nat) (S : ST) (sz : Nat)   {res : Int32} (h : f_X9_fault S = some res) : Met l yX9_fault (WS (.code yX9_fault cX9_fault 1 (some Jvm.ClassFile.FieldType.int))) rmX9_fault (va_Pc [.ref (ad 0)] (PW kC g ad S sz)) (QI kC g ad (res, S) (AA kC ad sz)) 0 0 (AA kC ad sz) := by
  refine go_m (Qc := fun A => QI kC g ad (res, S) A) (by decide) (Nat.le_of_ble_eq_true rfl) (fun p e s m below meth c ls H locs C X hl => ?_)
  have hx := C.1.1
  have hb := C.1.2.1
  have hl : lv_has ls 1 [(0, .ref (ad 0))] := hl
  have h : (some (S.1 0 13) : Option Int32) = some res := h
  refine lv_aload_n hx hb dX9_fault_0 rfl (lv_at hl 0 rfl) ?_
  refine g_get C X inT9 0 (by decide) (eC_0 g ad S) rfl 13 (by decide) wd_406 (v := .int (S.1 0 13)) rfl dX9_fault_1 ?_
  exact rt_i C X rfl (congrArg (fun z => (z, S)) (Option.some.inj h)) dX9_fault_4

def rmX9_told : Room := { frames := 1, cells := 0, slots := 0, locals := 21 }
def f_X9_told (a1 : Int32) (S : ST) : Option Int32 :=
  if a1 < 0 then (some ((-1000000002 : Int32))) else (if a1 ≤ ((10 : Int32)) then (if a1 = ((9 : Int32)) then (some (S.1 0 5)) else (if a1 = ((10 : Int32)) then (bn1 (f_X7_length S) fun r6 => some r6) else (bn1 (f_X3_number a1 S) fun r5 => some r5))) else (some ((-1000000002 : Int32))))
set_option maxHeartbeats 4000000 in
set_option maxRecDepth 100000 in
theorem c_X9_told (l : Launch) (g : GG) (ad : Nat → Nat) (S : ST) (sz : Nat) (a1 : Int32)  {res : Int32} (h : f_X9_told a1 S = some res) : Met l yX9_told (WS (.code yX9_told cX9_told 2 (some Jvm.ClassFile.FieldType.int))) rmX9_told (va_Pc [.ref (ad 0), .int a1] (PW kC g ad S sz)) (QI kC g ad (res, S) (AA kC ad sz)) 0 0 (AA kC ad sz) := by
  refine go_m (Qc := fun A => QI kC g ad (res, S) A) (by decide) (Nat.le_of_ble_eq_true rfl) (fun p e s m below meth c ls H locs C X hl => ?_)
  have hx := C.1.1
  have hb := C.1.2.1
  have hl : lv_has ls 2 [(0, .ref (ad 0)), (1, .int a1)] := hl
  have h : (if a1 < 0 then (some ((-1000000002 : Int32))) else (if a1 ≤ ((10 : Int32)) then (if a1 = ((9 : Int32)) then (some (S.1 0 5)) else (if a1 = ((10 : Int32)) then (bn1 (f_X7_length S) fun r6 => some r6) else (bn1 (f_X3_number a1 S) fun r5 => some r5))) else (some ((-1000000002 : Int32)))) : Option Int32) = some res := h
  refine lv_iload_n hx hb dX9_told_0 rfl (lv_at hl 1 rfl) ?_
  refine lv_if_lt (tgt := 10) hx hb dX9_told_1 (by decide) (fun c1 => ?_) (fun c1 => ?_)
  · have h := ip h c1
    refine lv_ldc (v := (-1000000002 : Int32)) hx hb C.1.2.2.2.2.2.1 (C.1.2.2.2.2.2.2 _ (ws_in wd_440)) dX9_told_10 ?_
    exact rt_i C X rfl (congrArg (fun z => (z, S)) (Option.some.inj h)) dX9_told_12
  · have h := inn h c1
    refine lv_iload_n hx hb dX9_told_4 rfl (lv_at hl 1 rfl) ?_
    refine lv_bipush (v := (10 : Int32)) hx hb dX9_told_5 (by decide) ?_
    refine lv_icmp_le (tgt := 13) hx hb dX9_told_7 (by decide) (fun c2 => ?_) (fun c2 => ?_)
    · have h := ip h c2
      refine lv_iload_n hx hb dX9_told_13 rfl (lv_at hl 1 rfl) ?_
      refine lv_bipush (v := (9 : Int32)) hx hb dX9_told_14 (by decide) ?_
      refine lv_icmp_ne (tgt := 24) hx hb dX9_told_16 (by decide) (fun c3 => ?_) (fun c3 => ?_)
      · have h := inn h c3
        refine lv_iload_n hx hb dX9_told_24 rfl (lv_at hl 1 rfl) ?_
        refine lv_bipush (v := (10 : Int32)) hx hb dX9_told_25 (by decide) ?_
        refine lv_icmp_ne (tgt := 40) hx hb dX9_told_27 (by decide) (fun c4 => ?_) (fun c4 => ?_)
        · have h := inn h c4
          refine lv_aload_n hx hb dX9_told_40 rfl (lv_at hl 0 rfl) ?_
          refine g_get C X inT9 0 (by decide) (eC_0 g ad S) rfl 2 (by decide) wd_395 (v := .ref (ad 4)) rfl dX9_told_41 ?_
          refine lv_iload_n hx hb dX9_told_44 rfl (lv_at hl 1 rfl) ?_
          obtain ⟨r5, qr5, h⟩ := bn1_s h
          refine kc_i X (res := (r5, S)) (rV (As := [.int a1]) (rest := []) (n := 1) (k := 4) C X (c_X3_number l g ad S _ a1  qr5) wd_639 wd_390 wd_391 wd_73 wd_392 (by decide) (eC_4 g ad S) rfl rfl rfl (by decide +kernel) ⟨Nat.le_of_ble_eq_true rfl, Nat.le_of_ble_eq_true rfl⟩ rfl hl.1 (lv_room (Nat.le_of_ble_eq_true rfl)) dX9_told_45) (fun H locs X => ?_)
          exact rt_i C X rfl (congrArg (fun z => (z, S)) (Option.some.inj h)) dX9_told_48
        · have h := ip h c4
          refine lv_aload_n hx hb dX9_told_30 rfl (lv_at hl 0 rfl) ?_
          refine g_get C X inT9 0 (by decide) (eC_0 g ad S) rfl 0 (by decide) wd_393 (v := .ref (ad 1)) rfl dX9_told_31 ?_
          obtain ⟨r6, qr6, h⟩ := bn1_s h
          refine kc_i X (res := (r6, S)) (rV (As := []) (rest := []) (n := 0) (k := 1) C X (c_X7_length l g ad S _   qr6) wd_441 wd_442 wd_443 wd_71 wd_444 (by decide) (eC_1 g ad S) rfl rfl rfl (by decide +kernel) ⟨Nat.le_of_ble_eq_true rfl, Nat.le_of_ble_eq_true rfl⟩ rfl hl.1 (lv_room (Nat.le_of_ble_eq_true rfl)) dX9_told_34) (fun H locs X => ?_)
          refine lv_goto (tgt := 48) hx hb dX9_told_37 (by decide) ?_
          exact rt_i C X rfl (congrArg (fun z => (z, S)) (Option.some.inj h)) dX9_told_48
      · have h := ip h c3
        refine lv_aload_n hx hb dX9_told_19 rfl (lv_at hl 0 rfl) ?_
        refine g_get C X inT9 0 (by decide) (eC_0 g ad S) rfl 5 (by decide) wd_398 (v := .int (S.1 0 5)) rfl dX9_told_20 ?_
        exact rt_i C X rfl (congrArg (fun z => (z, S)) (Option.some.inj h)) dX9_told_23
    · have h := inn h c2
      refine lv_ldc (v := (-1000000002 : Int32)) hx hb C.1.2.2.2.2.2.1 (C.1.2.2.2.2.2.2 _ (ws_in wd_440)) dX9_told_10 ?_
      exact rt_i C X rfl (congrArg (fun z => (z, S)) (Option.some.inj h)) dX9_told_12

def rmX9_cell : Room := { frames := 3, cells := 0, slots := 0, locals := 62 }
def b_X9_cell_56 (S : ST)  (v1 : Int32) (v2 : Int32) : Option Int32 :=
  bn1 (f_X3_depth v2 v1 S) fun r8 => some r8
def f_X9_cell (a1 : Int32) (a2 : Int32) (S : ST) : Option Int32 :=
  if a1 < 0 then (some ((-1000000001 : Int32))) else (if a1 < ((24 : Int32)) then (if a2 < 0 then (some ((-1000000002 : Int32))) else (if a2 ≤ ((2 : Int32)) then (if a2 = ((2 : Int32)) then (bn1 (f_X3_kind a1 S) fun r9 => some r9) else (if a2 = 0 then (b_X9_cell_56 S ((0 : Int32)) a1) else (bn1 (f_X9_lowerNow S) fun r7 => b_X9_cell_56 S r7 a1))) else (some ((-1000000002 : Int32))))) else (some ((-1000000001 : Int32))))
set_option maxHeartbeats 4000000 in
set_option maxRecDepth 100000 in
theorem kb_X9_cell_56 {p : Program} {l : Launch} {e : Env} {s : State} {m : MethodId} {args : Array Value} {below : List Frame} {meth : Method} {c : Code} {g : GG} {ad : Nat → Nat} {res : Int32} {S : ST} (C : CX kC g ad p s m args meth c cX9_cell (some Jvm.ClassFile.FieldType.int) 3 yX9_cell.cls (.code yX9_cell cX9_cell 3 (some Jvm.ClassFile.FieldType.int)))  {v1 : Int32} {v2 : Int32}  {H : Heap} {locs : List Loc} {ls : Array Slot} (h : b_X9_cell_56 S v1 v2 = some res) (X : WX kC g ad s S H locs) (hl : lv_has ls 3 [])  : W p l e rmX9_cell s m args below meth c H locs 0 0 (MQ below (QI kC g ad (res, S) (AA kC ad s.heap.size)) args s 0 0 (AA kC ad s.heap.size)) (F0 m 56 ls [.int v1, .int v2, .ref (ad 4)]) := by
  have hx := C.1.1
  have hb := C.1.2.1
  have h : (bn1 (f_X3_depth v2 v1 S) fun r8 => some r8 : Option Int32) = some res := h
  obtain ⟨r8, qr8, h⟩ := bn1_s h
  refine kc_i X (res := (r8, S)) (rV (As := [.int v2, .int v1]) (rest := []) (n := 2) (k := 4) C X (c_X3_depth l g ad S _ v2 v1  qr8) wd_663 wd_664 wd_665 wd_73 wd_666 (by decide) (eC_4 g ad S) rfl rfl rfl (by decide +kernel) ⟨Nat.le_of_ble_eq_true rfl, Nat.le_of_ble_eq_true rfl⟩ rfl hl.1 (lv_room (Nat.le_of_ble_eq_true rfl)) dX9_cell_56) (fun H locs X => ?_)
  exact rt_i C X rfl (congrArg (fun z => (z, S)) (Option.some.inj h)) dX9_cell_59
set_option maxHeartbeats 4000000 in
set_option maxRecDepth 100000 in
theorem c_X9_cell (l : Launch) (g : GG) (ad : Nat → Nat) (S : ST) (sz : Nat) (a1 : Int32) (a2 : Int32)  {res : Int32} (h : f_X9_cell a1 a2 S = some res) : Met l yX9_cell (WS (.code yX9_cell cX9_cell 3 (some Jvm.ClassFile.FieldType.int))) rmX9_cell (va_Pc [.ref (ad 0), .int a1, .int a2] (PW kC g ad S sz)) (QI kC g ad (res, S) (AA kC ad sz)) 0 0 (AA kC ad sz) := by
  refine go_m (Qc := fun A => QI kC g ad (res, S) A) (by decide) (Nat.le_of_ble_eq_true rfl) (fun p e s m below meth c ls H locs C X hl => ?_)
  have hx := C.1.1
  have hb := C.1.2.1
  have hl : lv_has ls 3 [(0, .ref (ad 0)), (1, .int a1), (2, .int a2)] := hl
  have h : (if a1 < 0 then (some ((-1000000001 : Int32))) else (if a1 < ((24 : Int32)) then (if a2 < 0 then (some ((-1000000002 : Int32))) else (if a2 ≤ ((2 : Int32)) then (if a2 = ((2 : Int32)) then (bn1 (f_X3_kind a1 S) fun r9 => some r9) else (if a2 = 0 then (b_X9_cell_56 S ((0 : Int32)) a1) else (bn1 (f_X9_lowerNow S) fun r7 => b_X9_cell_56 S r7 a1))) else (some ((-1000000002 : Int32))))) else (some ((-1000000001 : Int32)))) : Option Int32) = some res := h
  refine lv_iload_n hx hb dX9_cell_0 rfl (lv_at hl 1 rfl) ?_
  refine lv_if_lt (tgt := 10) hx hb dX9_cell_1 (by decide) (fun c1 => ?_) (fun c1 => ?_)
  · have h := ip h c1
    refine lv_ldc (v := (-1000000001 : Int32)) hx hb C.1.2.2.2.2.2.1 (C.1.2.2.2.2.2.2 _ (ws_in wd_644)) dX9_cell_10 ?_
    exact rt_i C X rfl (congrArg (fun z => (z, S)) (Option.some.inj h)) dX9_cell_12
  · have h := inn h c1
    refine lv_iload_n hx hb dX9_cell_4 rfl (lv_at hl 1 rfl) ?_
    refine lv_bipush (v := (24 : Int32)) hx hb dX9_cell_5 (by decide) ?_
    refine lv_icmp_lt (tgt := 13) hx hb dX9_cell_7 (by decide) (fun c2 => ?_) (fun c2 => ?_)
    · have h := ip h c2
      refine lv_iload_n hx hb dX9_cell_13 rfl (lv_at hl 2 rfl) ?_
      refine lv_if_lt (tgt := 22) hx hb dX9_cell_14 (by decide) (fun c3 => ?_) (fun c3 => ?_)
      · have h := ip h c3
        refine lv_ldc (v := (-1000000002 : Int32)) hx hb C.1.2.2.2.2.2.1 (C.1.2.2.2.2.2.2 _ (ws_in wd_440)) dX9_cell_22 ?_
        exact rt_i C X rfl (congrArg (fun z => (z, S)) (Option.some.inj h)) dX9_cell_24
      · have h := inn h c3
        refine lv_iload_n hx hb dX9_cell_17 rfl (lv_at hl 2 rfl) ?_
        refine lv_iconst (v := (2 : Int32)) hx hb dX9_cell_18 (by decide) ?_
        refine lv_icmp_le (tgt := 25) hx hb dX9_cell_19 (by decide) (fun c4 => ?_) (fun c4 => ?_)
        · have h := ip h c4
          refine lv_iload_n hx hb dX9_cell_25 rfl (lv_at hl 2 rfl) ?_
          refine lv_iconst (v := (2 : Int32)) hx hb dX9_cell_26 (by decide) ?_
          refine lv_icmp_ne (tgt := 39) hx hb dX9_cell_27 (by decide) (fun c5 => ?_) (fun c5 => ?_)
          · have h := inn h c5
            refine lv_aload_n hx hb dX9_cell_39 rfl (lv_at hl 0 rfl) ?_
            refine g_get C X inT9 0 (by decide) (eC_0 g ad S) rfl 2 (by decide) wd_395 (v := .ref (ad 4)) rfl dX9_cell_40 ?_
            refine lv_iload_n hx hb dX9_cell_43 rfl (lv_at hl 1 rfl) ?_
            refine lv_iload_n hx hb dX9_cell_44 rfl (lv_at hl 2 rfl) ?_
            refine lv_if_ne (tgt := 52) hx hb dX9_cell_45 (by decide) (fun c6 => ?_) (fun c6 => ?_)
            · have h := inn h c6
              refine lv_aload_n hx hb dX9_cell_52 rfl (lv_at hl 0 rfl) ?_
              obtain ⟨r7, qr7, h⟩ := bn1_s h
              refine kc_i X (res := (r7, S)) (rV (As := []) (rest := [.int a1, .ref (ad 4)]) (n := 0) (k := 0) C X (c_X9_lowerNow l g ad S _   qr7) wd_649 wd_651 wd_11 wd_70 wd_652 (by decide) (eC_0 g ad S) rfl rfl rfl (by decide +kernel) ⟨Nat.le_of_ble_eq_true rfl, Nat.le_of_ble_eq_true rfl⟩ rfl hl.1 (lv_room (Nat.le_of_ble_eq_true rfl)) dX9_cell_53) (fun H locs X => ?_)
              exact kb_X9_cell_56 C h X (lv_sub hl [] rfl) 
            · have h := ip h c6
              refine lv_iconst (v := (0 : Int32)) hx hb dX9_cell_48 (by decide) ?_
              refine lv_goto (tgt := 56) hx hb dX9_cell_49 (by decide) ?_
              exact kb_X9_cell_56 C h X (lv_sub hl [] rfl) 
          · have h := ip h c5
            refine lv_aload_n hx hb dX9_cell_30 rfl (lv_at hl 0 rfl) ?_
            refine g_get C X inT9 0 (by decide) (eC_0 g ad S) rfl 2 (by decide) wd_395 (v := .ref (ad 4)) rfl dX9_cell_31 ?_
            refine lv_iload_n hx hb dX9_cell_34 rfl (lv_at hl 1 rfl) ?_
            obtain ⟨r9, qr9, h⟩ := bn1_s h
            refine kc_i X (res := (r9, S)) (rV (As := [.int a1]) (rest := []) (n := 1) (k := 4) C X (c_X3_kind l g ad S _ a1  qr9) wd_645 wd_646 wd_647 wd_73 wd_648 (by decide) (eC_4 g ad S) rfl rfl rfl (by decide +kernel) ⟨Nat.le_of_ble_eq_true rfl, Nat.le_of_ble_eq_true rfl⟩ rfl hl.1 (lv_room (Nat.le_of_ble_eq_true rfl)) dX9_cell_35) (fun H locs X => ?_)
            exact rt_i C X rfl (congrArg (fun z => (z, S)) (Option.some.inj h)) dX9_cell_38
        · have h := inn h c4
          refine lv_ldc (v := (-1000000002 : Int32)) hx hb C.1.2.2.2.2.2.1 (C.1.2.2.2.2.2.2 _ (ws_in wd_440)) dX9_cell_22 ?_
          exact rt_i C X rfl (congrArg (fun z => (z, S)) (Option.some.inj h)) dX9_cell_24
    · have h := inn h c2
      refine lv_ldc (v := (-1000000001 : Int32)) hx hb C.1.2.2.2.2.2.1 (C.1.2.2.2.2.2.2 _ (ws_in wd_644)) dX9_cell_10 ?_
      exact rt_i C X rfl (congrArg (fun z => (z, S)) (Option.some.inj h)) dX9_cell_12

def rmX9_who : Room := { frames := 2, cells := 0, slots := 0, locals := 42 }
def f_X9_who (a1 : Int32) (a2 : Int32) (S : ST) : Option Int32 :=
  bn1 (f_X9_swingerAt a1 S) fun r1 => om r1 (some ((-1000000001 : Int32))) fun k2 => bn1 (f_X9_within a2 ((0 : Int32)) ((4 : Int32))) fun r4 => if r4 = 0 then (some ((-1000000002 : Int32))) else (bn1 (f_X6_number k2 a2 S) fun r6 => some r6)
set_option maxHeartbeats 4000000 in
set_option maxRecDepth 100000 in
theorem c_X9_who (l : Launch) (g : GG) (ad : Nat → Nat) (S : ST) (sz : Nat) (a1 : Int32) (a2 : Int32)  {res : Int32} (h : f_X9_who a1 a2 S = some res) : Met l yX9_who (WS (.code yX9_who cX9_who 4 (some Jvm.ClassFile.FieldType.int))) rmX9_who (va_Pc [.ref (ad 0), .int a1, .int a2] (PW kC g ad S sz)) (QI kC g ad (res, S) (AA kC ad sz)) 0 0 (AA kC ad sz) := by
  refine go_m (Qc := fun A => QI kC g ad (res, S) A) (by decide) (Nat.le_of_ble_eq_true rfl) (fun p e s m below meth c ls H locs C X hl => ?_)
  have hx := C.1.1
  have hb := C.1.2.1
  have hl : lv_has ls 4 [(0, .ref (ad 0)), (1, .int a1), (2, .int a2)] := hl
  have h : (bn1 (f_X9_swingerAt a1 S) fun r1 => om r1 (some ((-1000000001 : Int32))) fun k2 => bn1 (f_X9_within a2 ((0 : Int32)) ((4 : Int32))) fun r4 => if r4 = 0 then (some ((-1000000002 : Int32))) else (bn1 (f_X6_number k2 a2 S) fun r6 => some r6) : Option Int32) = some res := h
  refine lv_aload_n hx hb dX9_who_0 rfl (lv_at hl 0 rfl) ?_
  refine lv_iload_n hx hb dX9_who_1 rfl (lv_at hl 1 rfl) ?_
  obtain ⟨r1, qr1, h⟩ := bn1_s h
  refine kc_q X (res := (r1, S)) (rV (As := [.int a1]) (rest := []) (n := 1) (k := 0) C X (c_X9_swingerAt l g ad S _ a1  qr1) wd_671 wd_673 wd_12 wd_70 wd_674 (by decide) (eC_0 g ad S) rfl rfl rfl (by decide +kernel) ⟨Nat.le_of_ble_eq_true rfl, Nat.le_of_ble_eq_true rfl⟩ rfl hl.1 (lv_room (Nat.le_of_ble_eq_true rfl)) dX9_who_2) (fun H locs X => ?_)
  cases r1 with
  | none =>
    have h := om_n h
    refine lv_astore_nN (lv' := [(3, .null), (0, .ref (ad 0)), (1, .int a1), (2, .int a2)]) hx hb dX9_who_5 rfl hl (by decide) rfl (fun ls hl => ?_)
    refine lv_aload_nN hx hb dX9_who_6 rfl (lv_at hl 0 rfl) ?_
    refine lv_ifnonnullN hx hb dX9_who_7 ?_
    refine lv_ldc (v := (-1000000001 : Int32)) hx hb C.1.2.2.2.2.2.1 (C.1.2.2.2.2.2.2 _ (ws_in wd_644)) dX9_who_10 ?_
    exact rt_i C X rfl (congrArg (fun z => (z, S)) (Option.some.inj h)) dX9_who_12
  | some k2 =>
    have h := om_s h
    have y3 : swk k2 = true := ok_X9_swingerAt qr1
    refine lv_astore_n (lv' := [(3, .ref (ad k2)), (0, .ref (ad 0)), (1, .int a1), (2, .int a2)]) hx hb dX9_who_5 rfl hl (by decide) rfl (fun ls hl => ?_)
    refine lv_aload_n hx hb dX9_who_6 rfl (lv_at hl 0 rfl) ?_
    refine lv_ifnonnull (tgt := 13) hx hb dX9_who_7 (by decide) ?_
    refine lv_iload_n hx hb dX9_who_13 rfl (lv_at hl 3 rfl) ?_
    refine lv_iconst (v := (0 : Int32)) hx hb dX9_who_14 (by decide) ?_
    refine lv_iconst (v := (4 : Int32)) hx hb dX9_who_15 (by decide) ?_
    obtain ⟨r4, qr4, h⟩ := bn1_s h
    refine kc_i X (res := (r4, S)) (rS (As := [.int a2, .int ((0 : Int32)), .int ((4 : Int32))]) (rest := []) (n := 3) C X (c_X9_within l g ad S _ a2 ((0 : Int32)) ((4 : Int32))  qr4) wd_675 wd_564 wd_70 wd_565 rfl rfl (by decide +kernel) ⟨Nat.le_of_ble_eq_true rfl, Nat.le_of_ble_eq_true rfl⟩ rfl hl.1 (lv_room (Nat.le_of_ble_eq_true rfl)) dX9_who_16) (fun H locs X => ?_)
    refine lv_if_eq (tgt := 30) hx hb dX9_who_19 (by decide) (fun c5 => ?_) (fun c5 => ?_)
    · have h := ip h c5
      refine lv_ldc (v := (-1000000002 : Int32)) hx hb C.1.2.2.2.2.2.1 (C.1.2.2.2.2.2.2 _ (ws_in wd_440)) dX9_who_30 ?_
      exact rt_i C X rfl (congrArg (fun z => (z, S)) (Option.some.inj h)) dX9_who_32
    · have h := inn h c5
      refine lv_aload_n hx hb dX9_who_22 rfl (lv_at hl 0 rfl) ?_
      refine lv_iload_n hx hb dX9_who_23 rfl (lv_at hl 3 rfl) ?_
      obtain ⟨r6, qr6, h⟩ := bn1_s h
      refine kc_i X (res := (r6, S)) (rV (As := [.int a2]) (rest := []) (n := 1) (k := k2) C X (c_X6_number l g ad S _ k2 a2 y3 qr6) wd_676 wd_677 wd_678 wd_77 wd_679 (lt_sw y3) (e_sw g ad S y3) rfl rfl rfl (by decide +kernel) ⟨Nat.le_of_ble_eq_true rfl, Nat.le_of_ble_eq_true rfl⟩ rfl hl.1 (lv_room (Nat.le_of_ble_eq_true rfl)) dX9_who_24) (fun H locs X => ?_)
      refine lv_goto (tgt := 32) hx hb dX9_who_27 (by decide) ?_
      exact rt_i C X rfl (congrArg (fun z => (z, S)) (Option.some.inj h)) dX9_who_32

def rmX9_set : Room := { frames := 2, cells := 0, slots := 0, locals := 44 }
def f_X9_set (a1 : Int32) (a2 : Int32) (S : ST) : Option (Int32 × ST) :=
  bn1 (f_X9_within a1 ((0 : Int32)) (((5 : Int32)) - ((1 : Int32)))) fun r1 => if r1 = 0 then (some ((-1000000002 : Int32), S)) else (bn1 (f_X9_mostInHand a1 S) fun r3 => bn1 (f_X9_within a2 ((0 : Int32)) r3) fun r4 => if r4 = 0 then (some ((-1000000002 : Int32), S)) else (bn1 (f_X5_inHand a1 S) fun r6 => bn1 (f_X5_take a1 a2 S) fun S7 => some (r6, S7)))
set_option maxHeartbeats 4000000 in
set_option maxRecDepth 100000 in
theorem c_X9_set (l : Launch) (g : GG) (ad : Nat → Nat) (S : ST) (sz : Nat) (a1 : Int32) (a2 : Int32)  {res : (Int32 × ST)} (h : f_X9_set a1 a2 S = some res) : Met l yX9_set (WS (.code yX9_set cX9_set 4 (some Jvm.ClassFile.FieldType.int))) rmX9_set (va_Pc [.ref (ad 0), .int a1, .int a2] (PW kC g ad S sz)) (QI kC g ad res (AA kC ad sz)) 0 0 (AA kC ad sz) := by
  refine go_m (Qc := fun A => QI kC g ad res A) (by decide) (Nat.le_of_ble_eq_true rfl) (fun p e s m below meth c ls H locs C X hl => ?_)
  have hx := C.1.1
  have hb := C.1.2.1
  have hl : lv_has ls 4 [(0, .ref (ad 0)), (1, .int a1), (2, .int a2)] := hl
  have h : (bn1 (f_X9_within a1 ((0 : Int32)) (((5 : Int32)) - ((1 : Int32)))) fun r1 => if r1 = 0 then (some ((-1000000002 : Int32), S)) else (bn1 (f_X9_mostInHand a1 S) fun r3 => bn1 (f_X9_within a2 ((0 : Int32)) r3) fun r4 => if r4 = 0 then (some ((-1000000002 : Int32), S)) else (bn1 (f_X5_inHand a1 S) fun r6 => bn1 (f_X5_take a1 a2 S) fun S7 => some (r6, S7))) : Option (Int32 × ST)) = some res := h
  refine lv_iload_n hx hb dX9_set_0 rfl (lv_at hl 1 rfl) ?_
  refine lv_iconst (v := (0 : Int32)) hx hb dX9_set_1 (by decide) ?_
  refine g_gets C X 7 rfl wd_684 dX9_set_2 ?_
  refine g_slen C X 7 rfl (v := (5 : Int32)) rfl dX9_set_5 ?_
  refine lv_iconst (v := (1 : Int32)) hx hb dX9_set_6 (by decide) ?_
  refine lv_isub hx hb dX9_set_7 ?_
  obtain ⟨r1, qr1, h⟩ := bn1_s h
  refine kc_i X (res := (r1, S)) (rS (As := [.int a1, .int ((0 : Int32)), .int (((5 : Int32)) - ((1 : Int32)))]) (rest := []) (n := 3) C X (c_X9_within l g ad S _ a1 ((0 : Int32)) (((5 : Int32)) - ((1 : Int32)))  qr1) wd_675 wd_564 wd_70 wd_565 rfl rfl (by decide +kernel) ⟨Nat.le_of_ble_eq_true rfl, Nat.le_of_ble_eq_true rfl⟩ rfl hl.1 (lv_room (Nat.le_of_ble_eq_true rfl)) dX9_set_8) (fun H locs X => ?_)
  refine lv_if_eq (tgt := 27) hx hb dX9_set_11 (by decide) (fun c2 => ?_) (fun c2 => ?_)
  · have h := ip h c2
    refine lv_ldc (v := (-1000000002 : Int32)) hx hb C.1.2.2.2.2.2.1 (C.1.2.2.2.2.2.2 _ (ws_in wd_440)) dX9_set_27 ?_
    exact rt_i C X rfl (Option.some.inj h) dX9_set_29
  · have h := inn h c2
    refine lv_iload_n hx hb dX9_set_14 rfl (lv_at hl 2 rfl) ?_
    refine lv_iconst (v := (0 : Int32)) hx hb dX9_set_15 (by decide) ?_
    refine lv_aload_n hx hb dX9_set_16 rfl (lv_at hl 0 rfl) ?_
    refine lv_iload_n hx hb dX9_set_17 rfl (lv_at hl 1 rfl) ?_
    obtain ⟨r3, qr3, h⟩ := bn1_s h
    refine kc_i X (res := (r3, S)) (rV (As := [.int a1]) (rest := [.int ((0 : Int32)), .int a2]) (n := 1) (k := 0) C X (c_X9_mostInHand l g ad S _ a1  qr3) wd_686 wd_688 wd_13 wd_70 wd_689 (by decide) (eC_0 g ad S) rfl rfl rfl (by decide +kernel) ⟨Nat.le_of_ble_eq_true rfl, Nat.le_of_ble_eq_true rfl⟩ rfl hl.1 (lv_room (Nat.le_of_ble_eq_true rfl)) dX9_set_18) (fun H locs X => ?_)
    obtain ⟨r4, qr4, h⟩ := bn1_s h
    refine kc_i X (res := (r4, S)) (rS (As := [.int a2, .int ((0 : Int32)), .int r3]) (rest := []) (n := 3) C X (c_X9_within l g ad S _ a2 ((0 : Int32)) r3  qr4) wd_675 wd_564 wd_70 wd_565 rfl rfl (by decide +kernel) ⟨Nat.le_of_ble_eq_true rfl, Nat.le_of_ble_eq_true rfl⟩ rfl hl.1 (lv_room (Nat.le_of_ble_eq_true rfl)) dX9_set_21) (fun H locs X => ?_)
    refine lv_if_ne (tgt := 30) hx hb dX9_set_24 (by decide) (fun c5 => ?_) (fun c5 => ?_)
    · have h := inn h c5
      refine lv_aload_n hx hb dX9_set_30 rfl (lv_at hl 0 rfl) ?_
      refine g_get C X inT9 0 (by decide) (eC_0 g ad S) rfl 6 (by decide) wd_399 (v := .ref (ad 31)) rfl dX9_set_31 ?_
      refine lv_iload_n hx hb dX9_set_34 rfl (lv_at hl 1 rfl) ?_
      obtain ⟨r6, qr6, h⟩ := bn1_s h
      refine kc_i X (res := (r6, S)) (rV (As := [.int a1]) (rest := []) (n := 1) (k := 31) C X (c_X5_inHand l g ad S _ a1  qr6) wd_653 wd_654 wd_655 wd_78 wd_656 (by decide) (eC_31 g ad S) rfl rfl rfl (by decide +kernel) ⟨Nat.le_of_ble_eq_true rfl, Nat.le_of_ble_eq_true rfl⟩ rfl hl.1 (lv_room (Nat.le_of_ble_eq_true rfl)) dX9_set_35) (fun H locs X => ?_)
      refine lv_istore_n (lv' := [(3, .int r6), (0, .ref (ad 0)), (1, .int a1), (2, .int a2)]) hx hb dX9_set_38 rfl hl (by decide) rfl (fun ls hl => ?_)
      refine lv_aload_n hx hb dX9_set_39 rfl (lv_at hl 1 rfl) ?_
      refine g_get C X inT9 0 (by decide) (eC_0 g ad S) rfl 6 (by decide) wd_399 (v := .ref (ad 31)) rfl dX9_set_40 ?_
      refine lv_iload_n hx hb dX9_set_43 rfl (lv_at hl 2 rfl) ?_
      refine lv_iload_n hx hb dX9_set_44 rfl (lv_at hl 3 rfl) ?_
      obtain ⟨S7, qS7, h⟩ := bn1_s h
      refine kc_v X (res := S7) (rV (As := [.int a1, .int a2]) (rest := []) (n := 2) (k := 31) C X (c_X5_take l g ad S _ a1 a2  qS7) wd_692 wd_383 wd_384 wd_78 wd_385 (by decide) (eC_31 g ad S) rfl rfl rfl (by decide +kernel) ⟨Nat.le_of_ble_eq_true rfl, Nat.le_of_ble_eq_true rfl⟩ rfl hl.1 (lv_room (Nat.le_of_ble_eq_true rfl)) dX9_set_45) (fun H locs X => ?_)
      refine lv_iload_n hx hb dX9_set_48 rfl (lv_at hl 0 rfl) ?_
      exact rt_i C X rfl (Option.some.inj h) dX9_set_49
    · have h := ip h c5
      refine lv_ldc (v := (-1000000002 : Int32)) hx hb C.1.2.2.2.2.2.1 (C.1.2.2.2.2.2.2 _ (ws_in wd_440)) dX9_set_27 ?_
      exact rt_i C X rfl (Option.some.inj h) dX9_set_29

def rmX9_now : Room := { frames := 3, cells := 0, slots := 0, locals := 62 }
def f_X9_now (a1 : Int32) (S : ST) : Option Int32 :=
  if a1 < 0 then (some ((-1000000002 : Int32))) else (if a1 ≤ ((7 : Int32)) then (if a1 = (5 : Int32) then (bn1 (f_X9_lengthNow S) fun r4 => some r4) else (if a1 = (6 : Int32) then (bn1 (f_X5_inHand ((2 : Int32)) S) fun r6 => bn1 (f_X9_strengthAfter r6 S) fun r7 => some r7) else (if a1 = (7 : Int32) then (bn1 (f_X9_lowerNow S) fun r9 => some r9) else (bn1 (f_X5_inHand a1 S) fun r10 => some r10)))) else (some ((-1000000002 : Int32))))
set_option maxHeartbeats 4000000 in
set_option maxRecDepth 100000 in
theorem c_X9_now (l : Launch) (g : GG) (ad : Nat → Nat) (S : ST) (sz : Nat) (a1 : Int32)  {res : Int32} (h : f_X9_now a1 S = some res) : Met l yX9_now (WS (.code yX9_now cX9_now 2 (some Jvm.ClassFile.FieldType.int))) rmX9_now (va_Pc [.ref (ad 0), .int a1] (PW kC g ad S sz)) (QI kC g ad (res, S) (AA kC ad sz)) 0 0 (AA kC ad sz) := by
  refine go_m (Qc := fun A => QI kC g ad (res, S) A) (by decide) (Nat.le_of_ble_eq_true rfl) (fun p e s m below meth c ls H locs C X hl => ?_)
  have hx := C.1.1
  have hb := C.1.2.1
  have hl : lv_has ls 2 [(0, .ref (ad 0)), (1, .int a1)] := hl
  have h : (if a1 < 0 then (some ((-1000000002 : Int32))) else (if a1 ≤ ((7 : Int32)) then (if a1 = (5 : Int32) then (bn1 (f_X9_lengthNow S) fun r4 => some r4) else (if a1 = (6 : Int32) then (bn1 (f_X5_inHand ((2 : Int32)) S) fun r6 => bn1 (f_X9_strengthAfter r6 S) fun r7 => some r7) else (if a1 = (7 : Int32) then (bn1 (f_X9_lowerNow S) fun r9 => some r9) else (bn1 (f_X5_inHand a1 S) fun r10 => some r10)))) else (some ((-1000000002 : Int32)))) : Option Int32) = some res := h
  refine lv_iload_n hx hb dX9_now_0 rfl (lv_at hl 1 rfl) ?_
  refine lv_if_lt (tgt := 10) hx hb dX9_now_1 (by decide) (fun c1 => ?_) (fun c1 => ?_)
  · have h := ip h c1
    refine lv_ldc (v := (-1000000002 : Int32)) hx hb C.1.2.2.2.2.2.1 (C.1.2.2.2.2.2.2 _ (ws_in wd_440)) dX9_now_10 ?_
    exact rt_i C X rfl (congrArg (fun z => (z, S)) (Option.some.inj h)) dX9_now_12
  · have h := inn h c1
    refine lv_iload_n hx hb dX9_now_4 rfl (lv_at hl 1 rfl) ?_
    refine lv_bipush (v := (7 : Int32)) hx hb dX9_now_5 (by decide) ?_
    refine lv_icmp_le (tgt := 13) hx hb dX9_now_7 (by decide) (fun c2 => ?_) (fun c2 => ?_)
    · have h := ip h c2
      refine lv_iload_n hx hb dX9_now_13 rfl (lv_at hl 1 rfl) ?_
      by_cases t3 : a1 = (5 : Int32)
      · have h := ip h t3
        refine lv_tableIn (tgt := 40) (off := 26) hx hb dX9_now_14 (by rw [t3]; decide) (by rw [t3]; decide) (by rw [t3]; rfl) (by decide) ?_
        refine lv_aload_n hx hb dX9_now_40 rfl (lv_at hl 0 rfl) ?_
        obtain ⟨r4, qr4, h⟩ := bn1_s h
        refine kc_i X (res := (r4, S)) (rV (As := []) (rest := []) (n := 0) (k := 0) C X (c_X9_lengthNow l g ad S _   qr4) wd_697 wd_699 wd_14 wd_70 wd_700 (by decide) (eC_0 g ad S) rfl rfl rfl (by decide +kernel) ⟨Nat.le_of_ble_eq_true rfl, Nat.le_of_ble_eq_true rfl⟩ rfl hl.1 (lv_room (Nat.le_of_ble_eq_true rfl)) dX9_now_41) (fun H locs X => ?_)
        exact rt_i C X rfl (congrArg (fun z => (z, S)) (Option.some.inj h)) dX9_now_44
      have h := inn h t3
      by_cases t5 : a1 = (6 : Int32)
      · have h := ip h t5
        refine lv_tableIn (tgt := 45) (off := 31) hx hb dX9_now_14 (by rw [t5]; decide) (by rw [t5]; decide) (by rw [t5]; rfl) (by decide) ?_
        refine lv_aload_n hx hb dX9_now_45 rfl (lv_at hl 0 rfl) ?_
        refine lv_aload_n hx hb dX9_now_46 rfl (lv_at hl 0 rfl) ?_
        refine g_get C X inT9 0 (by decide) (eC_0 g ad S) rfl 6 (by decide) wd_399 (v := .ref (ad 31)) rfl dX9_now_47 ?_
        refine lv_iconst (v := (2 : Int32)) hx hb dX9_now_50 (by decide) ?_
        obtain ⟨r6, qr6, h⟩ := bn1_s h
        refine kc_i X (res := (r6, S)) (rV (As := [.int ((2 : Int32))]) (rest := [.ref (ad 0)]) (n := 1) (k := 31) C X (c_X5_inHand l g ad S _ ((2 : Int32))  qr6) wd_653 wd_654 wd_655 wd_78 wd_656 (by decide) (eC_31 g ad S) rfl rfl rfl (by decide +kernel) ⟨Nat.le_of_ble_eq_true rfl, Nat.le_of_ble_eq_true rfl⟩ rfl hl.1 (lv_room (Nat.le_of_ble_eq_true rfl)) dX9_now_51) (fun H locs X => ?_)
        obtain ⟨r7, qr7, h⟩ := bn1_s h
        refine kc_i X (res := (r7, S)) (rV (As := [.int r6]) (rest := []) (n := 1) (k := 0) C X (c_X9_strengthAfter l g ad S _ r6  qr7) wd_701 wd_703 wd_15 wd_70 wd_704 (by decide) (eC_0 g ad S) rfl rfl rfl (by decide +kernel) ⟨Nat.le_of_ble_eq_true rfl, Nat.le_of_ble_eq_true rfl⟩ rfl hl.1 (lv_room (Nat.le_of_ble_eq_true rfl)) dX9_now_54) (fun H locs X => ?_)
        exact rt_i C X rfl (congrArg (fun z => (z, S)) (Option.some.inj h)) dX9_now_57
      have h := inn h t5
      by_cases t8 : a1 = (7 : Int32)
      · have h := ip h t8
        refine lv_tableIn (tgt := 58) (off := 44) hx hb dX9_now_14 (by rw [t8]; decide) (by rw [t8]; decide) (by rw [t8]; rfl) (by decide) ?_
        refine lv_aload_n hx hb dX9_now_58 rfl (lv_at hl 0 rfl) ?_
        obtain ⟨r9, qr9, h⟩ := bn1_s h
        refine kc_i X (res := (r9, S)) (rV (As := []) (rest := []) (n := 0) (k := 0) C X (c_X9_lowerNow l g ad S _   qr9) wd_649 wd_651 wd_11 wd_70 wd_652 (by decide) (eC_0 g ad S) rfl rfl rfl (by decide +kernel) ⟨Nat.le_of_ble_eq_true rfl, Nat.le_of_ble_eq_true rfl⟩ rfl hl.1 (lv_room (Nat.le_of_ble_eq_true rfl)) dX9_now_59) (fun H locs X => ?_)
        exact rt_i C X rfl (congrArg (fun z => (z, S)) (Option.some.inj h)) dX9_now_62
      have h := inn h t8
      refine lv_tableOut (tgt := 63) hx hb dX9_now_14 (tb_out (fun z z1 z2 ze => ?_)) (by decide) ?_
      · rcases (show z = 5 ∨ z = 6 ∨ z = 7 by omega) with rfl | rfl | rfl
        · exact t3 (Int32.toInt_inj.mp (ze.trans (by decide)))
        · exact t5 (Int32.toInt_inj.mp (ze.trans (by decide)))
        · exact t8 (Int32.toInt_inj.mp (ze.trans (by decide)))
      refine lv_aload_n hx hb dX9_now_63 rfl (lv_at hl 0 rfl) ?_
      refine g_get C X inT9 0 (by decide) (eC_0 g ad S) rfl 6 (by decide) wd_399 (v := .ref (ad 31)) rfl dX9_now_64 ?_
      refine lv_iload_n hx hb dX9_now_67 rfl (lv_at hl 1 rfl) ?_
      obtain ⟨r10, qr10, h⟩ := bn1_s h
      refine kc_i X (res := (r10, S)) (rV (As := [.int a1]) (rest := []) (n := 1) (k := 31) C X (c_X5_inHand l g ad S _ a1  qr10) wd_653 wd_654 wd_655 wd_78 wd_656 (by decide) (eC_31 g ad S) rfl rfl rfl (by decide +kernel) ⟨Nat.le_of_ble_eq_true rfl, Nat.le_of_ble_eq_true rfl⟩ rfl hl.1 (lv_room (Nat.le_of_ble_eq_true rfl)) dX9_now_68) (fun H locs X => ?_)
      exact rt_i C X rfl (congrArg (fun z => (z, S)) (Option.some.inj h)) dX9_now_71
    · have h := inn h c2
      refine lv_ldc (v := (-1000000002 : Int32)) hx hb C.1.2.2.2.2.2.1 (C.1.2.2.2.2.2.2 _ (ws_in wd_440)) dX9_now_10 ?_
      exact rt_i C X rfl (congrArg (fun z => (z, S)) (Option.some.inj h)) dX9_now_12

def rmX9_traceNow : Room := { frames := 4, cells := 0, slots := 0, locals := 98 }
def f_X9_traceNow  (S : ST) : Option ST :=
  bn1 (f_X3_number ((0 : Int32)) S) fun r1 => bn1 (f_X9_lengthNow S) fun r2 => bn1 (f_X5_inHand ((3 : Int32)) S) fun r3 => bn1 (f_X5_inHand ((4 : Int32)) S) fun r4 => bn1 (f_X1_trace r1 r2 r3 r4 S) fun S5 => some S5
set_option maxHeartbeats 4000000 in
set_option maxRecDepth 100000 in
theorem c_X9_traceNow (l : Launch) (g : GG) (ad : Nat → Nat) (S : ST) (sz : Nat)   {res : ST} (h : f_X9_traceNow S = some res) : Met l yX9_traceNow (WS (.code yX9_traceNow cX9_traceNow 1 none)) rmX9_traceNow (va_Pc [.ref (ad 0)] (PW kC g ad S sz)) (QV kC g ad res (AA kC ad sz)) 0 0 (AA kC ad sz) := by
  refine go_m (Qc := fun A => QV kC g ad res A) (by decide) (Nat.le_of_ble_eq_true rfl) (fun p e s m below meth c ls H locs C X hl => ?_)
  have hx := C.1.1
  have hb := C.1.2.1
  have hl : lv_has ls 1 [(0, .ref (ad 0))] := hl
  have h : (bn1 (f_X3_number ((0 : Int32)) S) fun r1 => bn1 (f_X9_lengthNow S) fun r2 => bn1 (f_X5_inHand ((3 : Int32)) S) fun r3 => bn1 (f_X5_inHand ((4 : Int32)) S) fun r4 => bn1 (f_X1_trace r1 r2 r3 r4 S) fun S5 => some S5 : Option ST) = some res := h
  refine lv_aload_n hx hb dX9_traceNow_0 rfl (lv_at hl 0 rfl) ?_
  refine g_get C X inT9 0 (by decide) (eC_0 g ad S) rfl 9 (by decide) wd_402 (v := .ref (ad 42)) rfl dX9_traceNow_1 ?_
  refine lv_aload_n hx hb dX9_traceNow_4 rfl (lv_at hl 0 rfl) ?_
  refine g_get C X inT9 0 (by decide) (eC_0 g ad S) rfl 2 (by decide) wd_395 (v := .ref (ad 4)) rfl dX9_traceNow_5 ?_
  refine lv_iconst (v := (0 : Int32)) hx hb dX9_traceNow_8 (by decide) ?_
  obtain ⟨r1, qr1, h⟩ := bn1_s h
  refine kc_i X (res := (r1, S)) (rV (As := [.int ((0 : Int32))]) (rest := [.ref (ad 42)]) (n := 1) (k := 4) C X (c_X3_number l g ad S _ ((0 : Int32))  qr1) wd_639 wd_390 wd_391 wd_73 wd_392 (by decide) (eC_4 g ad S) rfl rfl rfl (by decide +kernel) ⟨Nat.le_of_ble_eq_true rfl, Nat.le_of_ble_eq_true rfl⟩ rfl hl.1 (lv_room (Nat.le_of_ble_eq_true rfl)) dX9_traceNow_9) (fun H locs X => ?_)
  refine lv_aload_n hx hb dX9_traceNow_12 rfl (lv_at hl 0 rfl) ?_
  obtain ⟨r2, qr2, h⟩ := bn1_s h
  refine kc_i X (res := (r2, S)) (rV (As := []) (rest := [.int r1, .ref (ad 42)]) (n := 0) (k := 0) C X (c_X9_lengthNow l g ad S _   qr2) wd_697 wd_699 wd_14 wd_70 wd_700 (by decide) (eC_0 g ad S) rfl rfl rfl (by decide +kernel) ⟨Nat.le_of_ble_eq_true rfl, Nat.le_of_ble_eq_true rfl⟩ rfl hl.1 (lv_room (Nat.le_of_ble_eq_true rfl)) dX9_traceNow_13) (fun H locs X => ?_)
  refine lv_aload_n hx hb dX9_traceNow_16 rfl (lv_at hl 0 rfl) ?_
  refine g_get C X inT9 0 (by decide) (eC_0 g ad S) rfl 6 (by decide) wd_399 (v := .ref (ad 31)) rfl dX9_traceNow_17 ?_
  refine lv_iconst (v := (3 : Int32)) hx hb dX9_traceNow_20 (by decide) ?_
  obtain ⟨r3, qr3, h⟩ := bn1_s h
  refine kc_i X (res := (r3, S)) (rV (As := [.int ((3 : Int32))]) (rest := [.int r2, .int r1, .ref (ad 42)]) (n := 1) (k := 31) C X (c_X5_inHand l g ad S _ ((3 : Int32))  qr3) wd_653 wd_654 wd_655 wd_78 wd_656 (by decide) (eC_31 g ad S) rfl rfl rfl (by decide +kernel) ⟨Nat.le_of_ble_eq_true rfl, Nat.le_of_ble_eq_true rfl⟩ rfl hl.1 (lv_room (Nat.le_of_ble_eq_true rfl)) dX9_traceNow_21) (fun H locs X => ?_)
  refine lv_aload_n hx hb dX9_traceNow_24 rfl (lv_at hl 0 rfl) ?_
  refine g_get C X inT9 0 (by decide) (eC_0 g ad S) rfl 6 (by decide) wd_399 (v := .ref (ad 31)) rfl dX9_traceNow_25 ?_
  refine lv_iconst (v := (4 : Int32)) hx hb dX9_traceNow_28 (by decide) ?_
  obtain ⟨r4, qr4, h⟩ := bn1_s h
  refine kc_i X (res := (r4, S)) (rV (As := [.int ((4 : Int32))]) (rest := [.int r3, .int r2, .int r1, .ref (ad 42)]) (n := 1) (k := 31) C X (c_X5_inHand l g ad S _ ((4 : Int32))  qr4) wd_653 wd_654 wd_655 wd_78 wd_656 (by decide) (eC_31 g ad S) rfl rfl rfl (by decide +kernel) ⟨Nat.le_of_ble_eq_true rfl, Nat.le_of_ble_eq_true rfl⟩ rfl hl.1 (lv_room (Nat.le_of_ble_eq_true rfl)) dX9_traceNow_29) (fun H locs X => ?_)
  obtain ⟨S5, qS5, h⟩ := bn1_s h
  refine kc_v X (res := S5) (rV (As := [.int r1, .int r2, .int r3, .int r4]) (rest := []) (n := 4) (k := 42) C X (c_X1_trace l g ad S _ r1 r2 r3 r4  qS5) wd_726 wd_727 wd_728 wd_80 wd_729 (by decide) (eC_42 g ad S) rfl rfl rfl (by decide +kernel) ⟨Nat.le_of_ble_eq_true rfl, Nat.le_of_ble_eq_true rfl⟩ rfl hl.1 (lv_room (Nat.le_of_ble_eq_true rfl)) dX9_traceNow_32) (fun H locs X => ?_)
  exact rt_v C X rfl (Option.some.inj h) dX9_traceNow_35

def rmX9_holds : Room := { frames := 5, cells := 0, slots := 0, locals := 118 }
def f_X9_holds (a1 : Int32) (a2 : Int32) (a3 : Int32) (S : ST) : Option (Int32 × ST) :=
  bn1 (f_X9_swingerAt a1 S) fun r1 => om r1 (some ((-1000000001 : Int32), S)) fun k2 => bn1 (f_X9_within a2 ((0 : Int32)) ((200 : Int32))) fun r4 => if r4 = 0 then (some ((-1000000002 : Int32), S)) else (bn1 (f_X9_within a3 ((0 : Int32)) ((5 : Int32))) fun r6 => if r6 = 0 then (some ((-1000000002 : Int32), S)) else (bn1 (f_X9_traceNow S) fun S8 => if a3 = (0 : Int32) then (bn1 (f_X1_angle a2 S8) fun r10 => some (r10, S8)) else (if a3 = (1 : Int32) then (bn1 (f_X1_pace a2 S8) fun r12 => some (r12, S8)) else (if a3 = (2 : Int32) then (bn1 (f_X1_x a2 S8) fun r14 => some (r14, S8)) else (if a3 = (3 : Int32) then (bn1 (f_X1_height a2 S8) fun r16 => some (r16, S8)) else (if a3 = (4 : Int32) then (if a2 = 0 then (some ((0 : Int32), S8)) else (bn1 (f_X6_number k2 ((0 : Int32)) S8) fun r19 => bn1 (f_X1_pull a2 r19 S8) fun r20 => some (r20, S8))) else (bn1 (f_X6_number k2 ((0 : Int32)) S8) fun r21 => bn1 (f_X6_number k2 ((2 : Int32)) S8) fun r22 => bn1 (f_X1_left a2 r21 r22 S8) fun r23 => some (r23, S8))))))))
set_option maxHeartbeats 4000000 in
set_option maxRecDepth 100000 in
theorem c_X9_holds (l : Launch) (g : GG) (ad : Nat → Nat) (S : ST) (sz : Nat) (a1 : Int32) (a2 : Int32) (a3 : Int32)  {res : (Int32 × ST)} (h : f_X9_holds a1 a2 a3 S = some res) : Met l yX9_holds (WS (.code yX9_holds cX9_holds 5 (some Jvm.ClassFile.FieldType.int))) rmX9_holds (va_Pc [.ref (ad 0), .int a1, .int a2, .int a3] (PW kC g ad S sz)) (QI kC g ad res (AA kC ad sz)) 0 0 (AA kC ad sz) := by
  refine go_m (Qc := fun A => QI kC g ad res A) (by decide) (Nat.le_of_ble_eq_true rfl) (fun p e s m below meth c ls H locs C X hl => ?_)
  have hx := C.1.1
  have hb := C.1.2.1
  have hl : lv_has ls 5 [(0, .ref (ad 0)), (1, .int a1), (2, .int a2), (3, .int a3)] := hl
  have h : (bn1 (f_X9_swingerAt a1 S) fun r1 => om r1 (some ((-1000000001 : Int32), S)) fun k2 => bn1 (f_X9_within a2 ((0 : Int32)) ((200 : Int32))) fun r4 => if r4 = 0 then (some ((-1000000002 : Int32), S)) else (bn1 (f_X9_within a3 ((0 : Int32)) ((5 : Int32))) fun r6 => if r6 = 0 then (some ((-1000000002 : Int32), S)) else (bn1 (f_X9_traceNow S) fun S8 => if a3 = (0 : Int32) then (bn1 (f_X1_angle a2 S8) fun r10 => some (r10, S8)) else (if a3 = (1 : Int32) then (bn1 (f_X1_pace a2 S8) fun r12 => some (r12, S8)) else (if a3 = (2 : Int32) then (bn1 (f_X1_x a2 S8) fun r14 => some (r14, S8)) else (if a3 = (3 : Int32) then (bn1 (f_X1_height a2 S8) fun r16 => some (r16, S8)) else (if a3 = (4 : Int32) then (if a2 = 0 then (some ((0 : Int32), S8)) else (bn1 (f_X6_number k2 ((0 : Int32)) S8) fun r19 => bn1 (f_X1_pull a2 r19 S8) fun r20 => some (r20, S8))) else (bn1 (f_X6_number k2 ((0 : Int32)) S8) fun r21 => bn1 (f_X6_number k2 ((2 : Int32)) S8) fun r22 => bn1 (f_X1_left a2 r21 r22 S8) fun r23 => some (r23, S8)))))))) : Option (Int32 × ST)) = some res := h
  refine lv_aload_n hx hb dX9_holds_0 rfl (lv_at hl 0 rfl) ?_
  refine lv_iload_n hx hb dX9_holds_1 rfl (lv_at hl 1 rfl) ?_
  obtain ⟨r1, qr1, h⟩ := bn1_s h
  refine kc_q X (res := (r1, S)) (rV (As := [.int a1]) (rest := []) (n := 1) (k := 0) C X (c_X9_swingerAt l g ad S _ a1  qr1) wd_671 wd_673 wd_12 wd_70 wd_674 (by decide) (eC_0 g ad S) rfl rfl rfl (by decide +kernel) ⟨Nat.le_of_ble_eq_true rfl, Nat.le_of_ble_eq_true rfl⟩ rfl hl.1 (lv_room (Nat.le_of_ble_eq_true rfl)) dX9_holds_2) (fun H locs X => ?_)
  cases r1 with
  | none =>
    have h := om_n h
    refine lv_astoreN (lv' := [(4, .null), (0, .ref (ad 0)), (1, .int a1), (2, .int a2), (3, .int a3)]) hx hb dX9_holds_5 hl (by decide) rfl (fun ls hl => ?_)
    refine lv_aloadN hx hb dX9_holds_7 (lv_at hl 0 rfl) ?_
    refine lv_ifnonnullN hx hb dX9_holds_9 ?_
    refine lv_ldc (v := (-1000000001 : Int32)) hx hb C.1.2.2.2.2.2.1 (C.1.2.2.2.2.2.2 _ (ws_in wd_644)) dX9_holds_12 ?_
    exact rt_i C X rfl (Option.some.inj h) dX9_holds_14
  | some k2 =>
    have h := om_s h
    have y3 : swk k2 = true := ok_X9_swingerAt qr1
    refine lv_astore (lv' := [(4, .ref (ad k2)), (0, .ref (ad 0)), (1, .int a1), (2, .int a2), (3, .int a3)]) hx hb dX9_holds_5 hl (by decide) rfl (fun ls hl => ?_)
    refine lv_aload hx hb dX9_holds_7 (lv_at hl 0 rfl) ?_
    refine lv_ifnonnull (tgt := 15) hx hb dX9_holds_9 (by decide) ?_
    refine lv_iload_n hx hb dX9_holds_15 rfl (lv_at hl 3 rfl) ?_
    refine lv_iconst (v := (0 : Int32)) hx hb dX9_holds_16 (by decide) ?_
    refine lv_sipush (v := (200 : Int32)) hx hb dX9_holds_17 (by decide) ?_
    obtain ⟨r4, qr4, h⟩ := bn1_s h
    refine kc_i X (res := (r4, S)) (rS (As := [.int a2, .int ((0 : Int32)), .int ((200 : Int32))]) (rest := []) (n := 3) C X (c_X9_within l g ad S _ a2 ((0 : Int32)) ((200 : Int32))  qr4) wd_675 wd_564 wd_70 wd_565 rfl rfl (by decide +kernel) ⟨Nat.le_of_ble_eq_true rfl, Nat.le_of_ble_eq_true rfl⟩ rfl hl.1 (lv_room (Nat.le_of_ble_eq_true rfl)) dX9_holds_20) (fun H locs X => ?_)
    refine lv_if_eq (tgt := 35) hx hb dX9_holds_23 (by decide) (fun c5 => ?_) (fun c5 => ?_)
    · have h := ip h c5
      refine lv_ldc (v := (-1000000002 : Int32)) hx hb C.1.2.2.2.2.2.1 (C.1.2.2.2.2.2.2 _ (ws_in wd_440)) dX9_holds_35 ?_
      exact rt_i C X rfl (Option.some.inj h) dX9_holds_37
    · have h := inn h c5
      refine lv_iload_n hx hb dX9_holds_26 rfl (lv_at hl 4 rfl) ?_
      refine lv_iconst (v := (0 : Int32)) hx hb dX9_holds_27 (by decide) ?_
      refine lv_iconst (v := (5 : Int32)) hx hb dX9_holds_28 (by decide) ?_
      obtain ⟨r6, qr6, h⟩ := bn1_s h
      refine kc_i X (res := (r6, S)) (rS (As := [.int a3, .int ((0 : Int32)), .int ((5 : Int32))]) (rest := []) (n := 3) C X (c_X9_within l g ad S _ a3 ((0 : Int32)) ((5 : Int32))  qr6) wd_675 wd_564 wd_70 wd_565 rfl rfl (by decide +kernel) ⟨Nat.le_of_ble_eq_true rfl, Nat.le_of_ble_eq_true rfl⟩ rfl hl.1 (lv_room (Nat.le_of_ble_eq_true rfl)) dX9_holds_29) (fun H locs X => ?_)
      refine lv_if_ne (tgt := 38) hx hb dX9_holds_32 (by decide) (fun c7 => ?_) (fun c7 => ?_)
      · have h := inn h c7
        refine lv_aload_n hx hb dX9_holds_38 rfl (lv_at hl 1 rfl) ?_
        obtain ⟨S8, qS8, h⟩ := bn1_s h
        refine kc_v X (res := S8) (rV (As := []) (rest := []) (n := 0) (k := 0) C X (c_X9_traceNow l g ad S _   qS8) wd_722 wd_724 wd_16 wd_70 wd_725 (by decide) (eC_0 g ad S) rfl rfl rfl (by decide +kernel) ⟨Nat.le_of_ble_eq_true rfl, Nat.le_of_ble_eq_true rfl⟩ rfl hl.1 (lv_room (Nat.le_of_ble_eq_true rfl)) dX9_holds_39) (fun H locs X => ?_)
        refine lv_iload_n hx hb dX9_holds_42 rfl (lv_at hl 4 rfl) ?_
        by_cases t9 : a3 = (0 : Int32)
        · have h := ip h t9
          refine lv_tableIn (tgt := 76) (off := 33) hx hb dX9_holds_43 (by rw [t9]; decide) (by rw [t9]; decide) (by rw [t9]; rfl) (by decide) ?_
          refine lv_aload_n hx hb dX9_holds_76 rfl (lv_at hl 1 rfl) ?_
          refine g_get C X inT9 0 (by decide) (eC_0 g ad S8) rfl 9 (by decide) wd_402 (v := .ref (ad 42)) rfl dX9_holds_77 ?_
          refine lv_iload_n hx hb dX9_holds_80 rfl (lv_at hl 3 rfl) ?_
          obtain ⟨r10, qr10, h⟩ := bn1_s h
          refine kc_i X (res := (r10, S8)) (rV (As := [.int a2]) (rest := []) (n := 1) (k := 42) C X (c_X1_angle l g ad S8 _ a2  qr10) wd_750 wd_751 wd_752 wd_80 wd_753 (by decide) (eC_42 g ad S8) rfl rfl rfl (by decide +kernel) ⟨Nat.le_of_ble_eq_true rfl, Nat.le_of_ble_eq_true rfl⟩ rfl hl.1 (lv_room (Nat.le_of_ble_eq_true rfl)) dX9_holds_81) (fun H locs X => ?_)
          exact rt_i C X rfl (Option.some.inj h) dX9_holds_84
        have h := inn h t9
        by_cases t11 : a3 = (1 : Int32)
        · have h := ip h t11
          refine lv_tableIn (tgt := 85) (off := 42) hx hb dX9_holds_43 (by rw [t11]; decide) (by rw [t11]; decide) (by rw [t11]; rfl) (by decide) ?_
          refine lv_aload_n hx hb dX9_holds_85 rfl (lv_at hl 1 rfl) ?_
          refine g_get C X inT9 0 (by decide) (eC_0 g ad S8) rfl 9 (by decide) wd_402 (v := .ref (ad 42)) rfl dX9_holds_86 ?_
          refine lv_iload_n hx hb dX9_holds_89 rfl (lv_at hl 3 rfl) ?_
          obtain ⟨r12, qr12, h⟩ := bn1_s h
          refine kc_i X (res := (r12, S8)) (rV (As := [.int a2]) (rest := []) (n := 1) (k := 42) C X (c_X1_pace l g ad S8 _ a2  qr12) wd_755 wd_756 wd_757 wd_80 wd_758 (by decide) (eC_42 g ad S8) rfl rfl rfl (by decide +kernel) ⟨Nat.le_of_ble_eq_true rfl, Nat.le_of_ble_eq_true rfl⟩ rfl hl.1 (lv_room (Nat.le_of_ble_eq_true rfl)) dX9_holds_90) (fun H locs X => ?_)
          exact rt_i C X rfl (Option.some.inj h) dX9_holds_93
        have h := inn h t11
        by_cases t13 : a3 = (2 : Int32)
        · have h := ip h t13
          refine lv_tableIn (tgt := 94) (off := 51) hx hb dX9_holds_43 (by rw [t13]; decide) (by rw [t13]; decide) (by rw [t13]; rfl) (by decide) ?_
          refine lv_aload_n hx hb dX9_holds_94 rfl (lv_at hl 1 rfl) ?_
          refine g_get C X inT9 0 (by decide) (eC_0 g ad S8) rfl 9 (by decide) wd_402 (v := .ref (ad 42)) rfl dX9_holds_95 ?_
          refine lv_iload_n hx hb dX9_holds_98 rfl (lv_at hl 3 rfl) ?_
          obtain ⟨r14, qr14, h⟩ := bn1_s h
          refine kc_i X (res := (r14, S8)) (rV (As := [.int a2]) (rest := []) (n := 1) (k := 42) C X (c_X1_x l g ad S8 _ a2  qr14) wd_759 wd_760 wd_761 wd_80 wd_762 (by decide) (eC_42 g ad S8) rfl rfl rfl (by decide +kernel) ⟨Nat.le_of_ble_eq_true rfl, Nat.le_of_ble_eq_true rfl⟩ rfl hl.1 (lv_room (Nat.le_of_ble_eq_true rfl)) dX9_holds_99) (fun H locs X => ?_)
          exact rt_i C X rfl (Option.some.inj h) dX9_holds_102
        have h := inn h t13
        by_cases t15 : a3 = (3 : Int32)
        · have h := ip h t15
          refine lv_tableIn (tgt := 103) (off := 60) hx hb dX9_holds_43 (by rw [t15]; decide) (by rw [t15]; decide) (by rw [t15]; rfl) (by decide) ?_
          refine lv_aload_n hx hb dX9_holds_103 rfl (lv_at hl 1 rfl) ?_
          refine g_get C X inT9 0 (by decide) (eC_0 g ad S8) rfl 9 (by decide) wd_402 (v := .ref (ad 42)) rfl dX9_holds_104 ?_
          refine lv_iload_n hx hb dX9_holds_107 rfl (lv_at hl 3 rfl) ?_
          obtain ⟨r16, qr16, h⟩ := bn1_s h
          refine kc_i X (res := (r16, S8)) (rV (As := [.int a2]) (rest := []) (n := 1) (k := 42) C X (c_X1_height l g ad S8 _ a2  qr16) wd_763 wd_764 wd_765 wd_80 wd_766 (by decide) (eC_42 g ad S8) rfl rfl rfl (by decide +kernel) ⟨Nat.le_of_ble_eq_true rfl, Nat.le_of_ble_eq_true rfl⟩ rfl hl.1 (lv_room (Nat.le_of_ble_eq_true rfl)) dX9_holds_108) (fun H locs X => ?_)
          exact rt_i C X rfl (Option.some.inj h) dX9_holds_111
        have h := inn h t15
        by_cases t17 : a3 = (4 : Int32)
        · have h := ip h t17
          refine lv_tableIn (tgt := 112) (off := 69) hx hb dX9_holds_43 (by rw [t17]; decide) (by rw [t17]; decide) (by rw [t17]; rfl) (by decide) ?_
          refine lv_iload_n hx hb dX9_holds_112 rfl (lv_at hl 3 rfl) ?_
          refine lv_if_ne (tgt := 120) hx hb dX9_holds_113 (by decide) (fun c18 => ?_) (fun c18 => ?_)
          · have h := inn h c18
            refine lv_aload_n hx hb dX9_holds_120 rfl (lv_at hl 1 rfl) ?_
            refine g_get C X inT9 0 (by decide) (eC_0 g ad S8) rfl 9 (by decide) wd_402 (v := .ref (ad 42)) rfl dX9_holds_121 ?_
            refine lv_iload_n hx hb dX9_holds_124 rfl (lv_at hl 3 rfl) ?_
            refine lv_aload hx hb dX9_holds_125 (lv_at hl 0 rfl) ?_
            refine lv_iconst (v := (0 : Int32)) hx hb dX9_holds_127 (by decide) ?_
            obtain ⟨r19, qr19, h⟩ := bn1_s h
            refine kc_i X (res := (r19, S8)) (rV (As := [.int ((0 : Int32))]) (rest := [.int a2, .ref (ad 42)]) (n := 1) (k := k2) C X (c_X6_number l g ad S8 _ k2 ((0 : Int32)) y3 qr19) wd_676 wd_677 wd_678 wd_77 wd_679 (lt_sw y3) (e_sw g ad S8 y3) rfl rfl rfl (by decide +kernel) ⟨Nat.le_of_ble_eq_true rfl, Nat.le_of_ble_eq_true rfl⟩ rfl hl.1 (lv_room (Nat.le_of_ble_eq_true rfl)) dX9_holds_128) (fun H locs X => ?_)
            obtain ⟨r20, qr20, h⟩ := bn1_s h
            refine kc_i X (res := (r20, S8)) (rV (As := [.int a2, .int r19]) (rest := []) (n := 2) (k := 42) C X (c_X1_pull l g ad S8 _ a2 r19  qr20) wd_767 wd_768 wd_769 wd_80 wd_770 (by decide) (eC_42 g ad S8) rfl rfl rfl (by decide +kernel) ⟨Nat.le_of_ble_eq_true rfl, Nat.le_of_ble_eq_true rfl⟩ rfl hl.1 (lv_room (Nat.le_of_ble_eq_true rfl)) dX9_holds_131) (fun H locs X => ?_)
            exact rt_i C X rfl (Option.some.inj h) dX9_holds_134
          · have h := ip h c18
            refine lv_iconst (v := (0 : Int32)) hx hb dX9_holds_116 (by decide) ?_
            refine lv_goto (tgt := 134) hx hb dX9_holds_117 (by decide) ?_
            exact rt_i C X rfl (Option.some.inj h) dX9_holds_134
        have h := inn h t17
        refine lv_tableOut (tgt := 135) hx hb dX9_holds_43 (tb_out (fun z z1 z2 ze => ?_)) (by decide) ?_
        · rcases (show z = 0 ∨ z = 1 ∨ z = 2 ∨ z = 3 ∨ z = 4 by omega) with rfl | rfl | rfl | rfl | rfl
          · exact t9 (Int32.toInt_inj.mp (ze.trans (by decide)))
          · exact t11 (Int32.toInt_inj.mp (ze.trans (by decide)))
          · exact t13 (Int32.toInt_inj.mp (ze.trans (by decide)))
          · exact t15 (Int32.toInt_inj.mp (ze.trans (by decide)))
          · exact t17 (Int32.toInt_inj.mp (ze.trans (by decide)))
        refine lv_aload_n hx hb dX9_holds_135 rfl (lv_at hl 1 rfl) ?_
        refine g_get C X inT9 0 (by decide) (eC_0 g ad S8) rfl 9 (by decide) wd_402 (v := .ref (ad 42)) rfl dX9_holds_136 ?_
        refine lv_iload_n hx hb dX9_holds_139 rfl (lv_at hl 3 rfl) ?_
        refine lv_aload hx hb dX9_holds_140 (lv_at hl 0 rfl) ?_
        refine lv_iconst (v := (0 : Int32)) hx hb dX9_holds_142 (by decide) ?_
        obtain ⟨r21, qr21, h⟩ := bn1_s h
        refine kc_i X (res := (r21, S8)) (rV (As := [.int ((0 : Int32))]) (rest := [.int a2, .ref (ad 42)]) (n := 1) (k := k2) C X (c_X6_number l g ad S8 _ k2 ((0 : Int32)) y3 qr21) wd_676 wd_677 wd_678 wd_77 wd_679 (lt_sw y3) (e_sw g ad S8 y3) rfl rfl rfl (by decide +kernel) ⟨Nat.le_of_ble_eq_true rfl, Nat.le_of_ble_eq_true rfl⟩ rfl hl.1 (lv_room (Nat.le_of_ble_eq_true rfl)) dX9_holds_143) (fun H locs X => ?_)
        refine lv_aload hx hb dX9_holds_146 (lv_at hl 0 rfl) ?_
        refine lv_iconst (v := (2 : Int32)) hx hb dX9_holds_148 (by decide) ?_
        obtain ⟨r22, qr22, h⟩ := bn1_s h
        refine kc_i X (res := (r22, S8)) (rV (As := [.int ((2 : Int32))]) (rest := [.int r21, .int a2, .ref (ad 42)]) (n := 1) (k := k2) C X (c_X6_number l g ad S8 _ k2 ((2 : Int32)) y3 qr22) wd_676 wd_677 wd_678 wd_77 wd_679 (lt_sw y3) (e_sw g ad S8 y3) rfl rfl rfl (by decide +kernel) ⟨Nat.le_of_ble_eq_true rfl, Nat.le_of_ble_eq_true rfl⟩ rfl hl.1 (lv_room (Nat.le_of_ble_eq_true rfl)) dX9_holds_149) (fun H locs X => ?_)
        obtain ⟨r23, qr23, h⟩ := bn1_s h
        refine kc_i X (res := (r23, S8)) (rV (As := [.int a2, .int r21, .int r22]) (rest := []) (n := 3) (k := 42) C X (c_X1_left l g ad S8 _ a2 r21 r22  qr23) wd_774 wd_775 wd_776 wd_80 wd_777 (by decide) (eC_42 g ad S8) rfl rfl rfl (by decide +kernel) ⟨Nat.le_of_ble_eq_true rfl, Nat.le_of_ble_eq_true rfl⟩ rfl hl.1 (lv_room (Nat.le_of_ble_eq_true rfl)) dX9_holds_152) (fun H locs X => ?_)
        exact rt_i C X rfl (Option.some.inj h) dX9_holds_155
      · have h := ip h c7
        refine lv_ldc (v := (-1000000002 : Int32)) hx hb C.1.2.2.2.2.2.1 (C.1.2.2.2.2.2.2 _ (ws_in wd_440)) dX9_holds_35 ?_
        exact rt_i C X rfl (Option.some.inj h) dX9_holds_37

def rmX9_ready : Room := { frames := 4, cells := 0, slots := 0, locals := 98 }
def f_X9_ready (a1 : Nat) (S : ST) : Option ST :=
  bn1 (f_X3_number ((0 : Int32)) S) fun r1 => bn1 (f_X9_lengthNow S) fun r2 => bn1 (f_X5_inHand ((3 : Int32)) S) fun r3 => bn1 (f_X5_inHand ((4 : Int32)) S) fun r4 => bn1 (f_X1_trace r1 r2 r3 r4 S) fun S5 => bn1 (f_X5_inHand ((2 : Int32)) S5) fun r6 => bn1 (f_X9_strengthAfter r6 S5) fun r7 => nm (su S5 51 2 r7) fun S8 => bn1 (f_X9_lowerNow S8) fun r9 => nm (su S8 51 3 r9) fun S10 => bn1 (f_X0_suit a1 S10) fun S11 => bn1 (f_X0_hold S11) fun S12 => some S12
set_option maxHeartbeats 4000000 in
set_option maxRecDepth 100000 in
theorem c_X9_ready (l : Launch) (g : GG) (ad : Nat → Nat) (S : ST) (sz : Nat) (a1 : Nat) (f1 : swk a1 = true) {res : ST} (h : f_X9_ready a1 S = some res) : Met l yX9_ready (WS (.code yX9_ready cX9_ready 2 none)) rmX9_ready (va_Pc [.ref (ad 0), .ref (ad a1)] (PW kC g ad S sz)) (QV kC g ad res (AA kC ad sz)) 0 0 (AA kC ad sz) := by
  refine go_m (Qc := fun A => QV kC g ad res A) (by decide) (Nat.le_of_ble_eq_true rfl) (fun p e s m below meth c ls H locs C X hl => ?_)
  have hx := C.1.1
  have hb := C.1.2.1
  have hl : lv_has ls 2 [(0, .ref (ad 0)), (1, .ref (ad a1))] := hl
  have h : (bn1 (f_X3_number ((0 : Int32)) S) fun r1 => bn1 (f_X9_lengthNow S) fun r2 => bn1 (f_X5_inHand ((3 : Int32)) S) fun r3 => bn1 (f_X5_inHand ((4 : Int32)) S) fun r4 => bn1 (f_X1_trace r1 r2 r3 r4 S) fun S5 => bn1 (f_X5_inHand ((2 : Int32)) S5) fun r6 => bn1 (f_X9_strengthAfter r6 S5) fun r7 => nm (su S5 51 2 r7) fun S8 => bn1 (f_X9_lowerNow S8) fun r9 => nm (su S8 51 3 r9) fun S10 => bn1 (f_X0_suit a1 S10) fun S11 => bn1 (f_X0_hold S11) fun S12 => some S12 : Option ST) = some res := h
  refine lv_aload_n hx hb dX9_ready_0 rfl (lv_at hl 0 rfl) ?_
  refine g_get C X inT9 0 (by decide) (eC_0 g ad S) rfl 9 (by decide) wd_402 (v := .ref (ad 42)) rfl dX9_ready_1 ?_
  refine lv_aload_n hx hb dX9_ready_4 rfl (lv_at hl 0 rfl) ?_
  refine g_get C X inT9 0 (by decide) (eC_0 g ad S) rfl 2 (by decide) wd_395 (v := .ref (ad 4)) rfl dX9_ready_5 ?_
  refine lv_iconst (v := (0 : Int32)) hx hb dX9_ready_8 (by decide) ?_
  obtain ⟨r1, qr1, h⟩ := bn1_s h
  refine kc_i X (res := (r1, S)) (rV (As := [.int ((0 : Int32))]) (rest := [.ref (ad 42)]) (n := 1) (k := 4) C X (c_X3_number l g ad S _ ((0 : Int32))  qr1) wd_639 wd_390 wd_391 wd_73 wd_392 (by decide) (eC_4 g ad S) rfl rfl rfl (by decide +kernel) ⟨Nat.le_of_ble_eq_true rfl, Nat.le_of_ble_eq_true rfl⟩ rfl hl.1 (lv_room (Nat.le_of_ble_eq_true rfl)) dX9_ready_9) (fun H locs X => ?_)
  refine lv_aload_n hx hb dX9_ready_12 rfl (lv_at hl 0 rfl) ?_
  obtain ⟨r2, qr2, h⟩ := bn1_s h
  refine kc_i X (res := (r2, S)) (rV (As := []) (rest := [.int r1, .ref (ad 42)]) (n := 0) (k := 0) C X (c_X9_lengthNow l g ad S _   qr2) wd_697 wd_699 wd_14 wd_70 wd_700 (by decide) (eC_0 g ad S) rfl rfl rfl (by decide +kernel) ⟨Nat.le_of_ble_eq_true rfl, Nat.le_of_ble_eq_true rfl⟩ rfl hl.1 (lv_room (Nat.le_of_ble_eq_true rfl)) dX9_ready_13) (fun H locs X => ?_)
  refine lv_aload_n hx hb dX9_ready_16 rfl (lv_at hl 0 rfl) ?_
  refine g_get C X inT9 0 (by decide) (eC_0 g ad S) rfl 6 (by decide) wd_399 (v := .ref (ad 31)) rfl dX9_ready_17 ?_
  refine lv_iconst (v := (3 : Int32)) hx hb dX9_ready_20 (by decide) ?_
  obtain ⟨r3, qr3, h⟩ := bn1_s h
  refine kc_i X (res := (r3, S)) (rV (As := [.int ((3 : Int32))]) (rest := [.int r2, .int r1, .ref (ad 42)]) (n := 1) (k := 31) C X (c_X5_inHand l g ad S _ ((3 : Int32))  qr3) wd_653 wd_654 wd_655 wd_78 wd_656 (by decide) (eC_31 g ad S) rfl rfl rfl (by decide +kernel) ⟨Nat.le_of_ble_eq_true rfl, Nat.le_of_ble_eq_true rfl⟩ rfl hl.1 (lv_room (Nat.le_of_ble_eq_true rfl)) dX9_ready_21) (fun H locs X => ?_)
  refine lv_aload_n hx hb dX9_ready_24 rfl (lv_at hl 0 rfl) ?_
  refine g_get C X inT9 0 (by decide) (eC_0 g ad S) rfl 6 (by decide) wd_399 (v := .ref (ad 31)) rfl dX9_ready_25 ?_
  refine lv_iconst (v := (4 : Int32)) hx hb dX9_ready_28 (by decide) ?_
  obtain ⟨r4, qr4, h⟩ := bn1_s h
  refine kc_i X (res := (r4, S)) (rV (As := [.int ((4 : Int32))]) (rest := [.int r3, .int r2, .int r1, .ref (ad 42)]) (n := 1) (k := 31) C X (c_X5_inHand l g ad S _ ((4 : Int32))  qr4) wd_653 wd_654 wd_655 wd_78 wd_656 (by decide) (eC_31 g ad S) rfl rfl rfl (by decide +kernel) ⟨Nat.le_of_ble_eq_true rfl, Nat.le_of_ble_eq_true rfl⟩ rfl hl.1 (lv_room (Nat.le_of_ble_eq_true rfl)) dX9_ready_29) (fun H locs X => ?_)
  obtain ⟨S5, qS5, h⟩ := bn1_s h
  refine kc_v X (res := S5) (rV (As := [.int r1, .int r2, .int r3, .int r4]) (rest := []) (n := 4) (k := 42) C X (c_X1_trace l g ad S _ r1 r2 r3 r4  qS5) wd_726 wd_727 wd_728 wd_80 wd_729 (by decide) (eC_42 g ad S) rfl rfl rfl (by decide +kernel) ⟨Nat.le_of_ble_eq_true rfl, Nat.le_of_ble_eq_true rfl⟩ rfl hl.1 (lv_room (Nat.le_of_ble_eq_true rfl)) dX9_ready_32) (fun H locs X => ?_)
  refine lv_aload_n hx hb dX9_ready_35 rfl (lv_at hl 0 rfl) ?_
  refine g_get C X inT9 0 (by decide) (eC_0 g ad S5) rfl 10 (by decide) wd_403 (v := .ref (ad 51)) rfl dX9_ready_36 ?_
  refine lv_aload_n hx hb dX9_ready_39 rfl (lv_at hl 0 rfl) ?_
  refine lv_aload_n hx hb dX9_ready_40 rfl (lv_at hl 0 rfl) ?_
  refine g_get C X inT9 0 (by decide) (eC_0 g ad S5) rfl 6 (by decide) wd_399 (v := .ref (ad 31)) rfl dX9_ready_41 ?_
  refine lv_iconst (v := (2 : Int32)) hx hb dX9_ready_44 (by decide) ?_
  obtain ⟨r6, qr6, h⟩ := bn1_s h
  refine kc_i X (res := (r6, S5)) (rV (As := [.int ((2 : Int32))]) (rest := [.ref (ad 0), .ref (ad 51)]) (n := 1) (k := 31) C X (c_X5_inHand l g ad S5 _ ((2 : Int32))  qr6) wd_653 wd_654 wd_655 wd_78 wd_656 (by decide) (eC_31 g ad S5) rfl rfl rfl (by decide +kernel) ⟨Nat.le_of_ble_eq_true rfl, Nat.le_of_ble_eq_true rfl⟩ rfl hl.1 (lv_room (Nat.le_of_ble_eq_true rfl)) dX9_ready_45) (fun H locs X => ?_)
  obtain ⟨r7, qr7, h⟩ := bn1_s h
  refine kc_i X (res := (r7, S5)) (rV (As := [.int r6]) (rest := [.ref (ad 51)]) (n := 1) (k := 0) C X (c_X9_strengthAfter l g ad S5 _ r6  qr7) wd_701 wd_703 wd_15 wd_70 wd_704 (by decide) (eC_0 g ad S5) rfl rfl rfl (by decide +kernel) ⟨Nat.le_of_ble_eq_true rfl, Nat.le_of_ble_eq_true rfl⟩ rfl hl.1 (lv_room (Nat.le_of_ble_eq_true rfl)) dX9_ready_48) (fun H locs X => ?_)
  obtain ⟨S8, eS8, h⟩ := nm_s h
  refine g_putN (S' := S8) C X inT0 tyX0 tyX0_ok nmX0 51 (by decide) (eC_51 g ad S5) rfl 2 (by decide) nw_289 rfl (by rfl) rfl (Nat.le_of_ble_eq_true rfl) (by subst eS8; rfl) (by subst eS8; exact fun i hi => ent_offu hi) dX9_ready_51 (fun H locs X => ?_)
  refine lv_aload_n hx hb dX9_ready_54 rfl (lv_at hl 0 rfl) ?_
  refine g_get C X inT9 0 (by decide) (eC_0 g ad S8) rfl 10 (by decide) wd_403 (v := .ref (ad 51)) rfl dX9_ready_55 ?_
  refine lv_aload_n hx hb dX9_ready_58 rfl (lv_at hl 0 rfl) ?_
  obtain ⟨r9, qr9, h⟩ := bn1_s h
  refine kc_i X (res := (r9, S8)) (rV (As := []) (rest := [.ref (ad 51)]) (n := 0) (k := 0) C X (c_X9_lowerNow l g ad S8 _   qr9) wd_649 wd_651 wd_11 wd_70 wd_652 (by decide) (eC_0 g ad S8) rfl rfl rfl (by decide +kernel) ⟨Nat.le_of_ble_eq_true rfl, Nat.le_of_ble_eq_true rfl⟩ rfl hl.1 (lv_room (Nat.le_of_ble_eq_true rfl)) dX9_ready_59) (fun H locs X => ?_)
  obtain ⟨S10, eS10, h⟩ := nm_s h
  refine g_putN (S' := S10) C X inT0 tyX0 tyX0_ok nmX0 51 (by decide) (eC_51 g ad S8) rfl 3 (by decide) nw_291 rfl (by rfl) rfl (Nat.le_of_ble_eq_true rfl) (by subst eS10; rfl) (by subst eS10; exact fun i hi => ent_offu hi) dX9_ready_62 (fun H locs X => ?_)
  refine lv_aload_n hx hb dX9_ready_65 rfl (lv_at hl 0 rfl) ?_
  refine g_get C X inT9 0 (by decide) (eC_0 g ad S10) rfl 10 (by decide) wd_403 (v := .ref (ad 51)) rfl dX9_ready_66 ?_
  refine lv_aload_n hx hb dX9_ready_69 rfl (lv_at hl 1 rfl) ?_
  obtain ⟨S11, qS11, h⟩ := bn1_s h
  refine kc_v X (res := S11) (rV (As := [.ref (ad a1)]) (rest := []) (n := 1) (k := 51) C X (c_X0_suit l g ad S10 _ a1 f1 qS11) wd_788 wd_789 wd_790 wd_81 wd_791 (by decide) (eC_51 g ad S10) rfl rfl rfl (by decide +kernel) ⟨Nat.le_of_ble_eq_true rfl, Nat.le_of_ble_eq_true rfl⟩ rfl hl.1 (lv_room (Nat.le_of_ble_eq_true rfl)) dX9_ready_70) (fun H locs X => ?_)
  refine lv_aload_n hx hb dX9_ready_73 rfl (lv_at hl 0 rfl) ?_
  refine g_get C X inT9 0 (by decide) (eC_0 g ad S11) rfl 10 (by decide) wd_403 (v := .ref (ad 51)) rfl dX9_ready_74 ?_
  obtain ⟨S12, qS12, h⟩ := bn1_s h
  refine kc_v X (res := S12) (rV (As := []) (rest := []) (n := 0) (k := 51) C X (c_X0_hold l g ad S11 _   qS12) wd_793 wd_794 wd_795 wd_81 wd_796 (by decide) (eC_51 g ad S11) rfl rfl rfl (by decide +kernel) ⟨Nat.le_of_ble_eq_true rfl, Nat.le_of_ble_eq_true rfl⟩ rfl hl.1 (lv_room (Nat.le_of_ble_eq_true rfl)) dX9_ready_77) (fun H locs X => ?_)
  exact rt_v C X rfl (Option.some.inj h) dX9_ready_80

def rmX9_lands : Room := { frames := 5, cells := 0, slots := 0, locals := 119 }
def f_X9_lands (a1 : Int32) (a2 : Int32) (a3 : Int32) (S : ST) : Option (Int32 × ST) :=
  bn1 (f_X9_swingerAt a1 S) fun r1 => om r1 (some ((-1000000001 : Int32), S)) fun k2 => bn1 (f_X9_within a2 ((1 : Int32)) ((200 : Int32))) fun r4 => if r4 = 0 then (some ((-1000000002 : Int32), S)) else (bn1 (f_X9_within a3 ((0 : Int32)) ((5 : Int32))) fun r6 => if r6 = 0 then (some ((-1000000002 : Int32), S)) else (bn1 (f_X9_ready k2 S) fun S8 => bn1 (f_X0_letGo (a2 + (S8.1 51 7)) S8) fun S9 => if a3 = (0 : Int32) then (some (S9.1 51 11, S9)) else (if a3 = (1 : Int32) then (some (S9.1 51 12, S9)) else (if a3 = (2 : Int32) then (some (S9.1 51 13, S9)) else (if a3 = (3 : Int32) then (some (S9.1 51 14, S9)) else (if a3 = (4 : Int32) then (some (S9.1 51 15, S9)) else (some (S9.1 51 16, S9))))))))
set_option maxHeartbeats 4000000 in
set_option maxRecDepth 100000 in
theorem c_X9_lands (l : Launch) (g : GG) (ad : Nat → Nat) (S : ST) (sz : Nat) (a1 : Int32) (a2 : Int32) (a3 : Int32)  {res : (Int32 × ST)} (h : f_X9_lands a1 a2 a3 S = some res) : Met l yX9_lands (WS (.code yX9_lands cX9_lands 5 (some Jvm.ClassFile.FieldType.int))) rmX9_lands (va_Pc [.ref (ad 0), .int a1, .int a2, .int a3] (PW kC g ad S sz)) (QI kC g ad res (AA kC ad sz)) 0 0 (AA kC ad sz) := by
  refine go_m (Qc := fun A => QI kC g ad res A) (by decide) (Nat.le_of_ble_eq_true rfl) (fun p e s m below meth c ls H locs C X hl => ?_)
  have hx := C.1.1
  have hb := C.1.2.1
  have hl : lv_has ls 5 [(0, .ref (ad 0)), (1, .int a1), (2, .int a2), (3, .int a3)] := hl
  have h : (bn1 (f_X9_swingerAt a1 S) fun r1 => om r1 (some ((-1000000001 : Int32), S)) fun k2 => bn1 (f_X9_within a2 ((1 : Int32)) ((200 : Int32))) fun r4 => if r4 = 0 then (some ((-1000000002 : Int32), S)) else (bn1 (f_X9_within a3 ((0 : Int32)) ((5 : Int32))) fun r6 => if r6 = 0 then (some ((-1000000002 : Int32), S)) else (bn1 (f_X9_ready k2 S) fun S8 => bn1 (f_X0_letGo (a2 + (S8.1 51 7)) S8) fun S9 => if a3 = (0 : Int32) then (some (S9.1 51 11, S9)) else (if a3 = (1 : Int32) then (some (S9.1 51 12, S9)) else (if a3 = (2 : Int32) then (some (S9.1 51 13, S9)) else (if a3 = (3 : Int32) then (some (S9.1 51 14, S9)) else (if a3 = (4 : Int32) then (some (S9.1 51 15, S9)) else (some (S9.1 51 16, S9)))))))) : Option (Int32 × ST)) = some res := h
  refine lv_aload_n hx hb dX9_lands_0 rfl (lv_at hl 0 rfl) ?_
  refine lv_iload_n hx hb dX9_lands_1 rfl (lv_at hl 1 rfl) ?_
  obtain ⟨r1, qr1, h⟩ := bn1_s h
  refine kc_q X (res := (r1, S)) (rV (As := [.int a1]) (rest := []) (n := 1) (k := 0) C X (c_X9_swingerAt l g ad S _ a1  qr1) wd_671 wd_673 wd_12 wd_70 wd_674 (by decide) (eC_0 g ad S) rfl rfl rfl (by decide +kernel) ⟨Nat.le_of_ble_eq_true rfl, Nat.le_of_ble_eq_true rfl⟩ rfl hl.1 (lv_room (Nat.le_of_ble_eq_true rfl)) dX9_lands_2) (fun H locs X => ?_)
  cases r1 with
  | none =>
    have h := om_n h
    refine lv_astoreN (lv' := [(4, .null), (0, .ref (ad 0)), (1, .int a1), (2, .int a2), (3, .int a3)]) hx hb dX9_lands_5 hl (by decide) rfl (fun ls hl => ?_)
    refine lv_aloadN hx hb dX9_lands_7 (lv_at hl 0 rfl) ?_
    refine lv_ifnonnullN hx hb dX9_lands_9 ?_
    refine lv_ldc (v := (-1000000001 : Int32)) hx hb C.1.2.2.2.2.2.1 (C.1.2.2.2.2.2.2 _ (ws_in wd_644)) dX9_lands_12 ?_
    exact rt_i C X rfl (Option.some.inj h) dX9_lands_14
  | some k2 =>
    have h := om_s h
    have y3 : swk k2 = true := ok_X9_swingerAt qr1
    refine lv_astore (lv' := [(4, .ref (ad k2)), (0, .ref (ad 0)), (1, .int a1), (2, .int a2), (3, .int a3)]) hx hb dX9_lands_5 hl (by decide) rfl (fun ls hl => ?_)
    refine lv_aload hx hb dX9_lands_7 (lv_at hl 0 rfl) ?_
    refine lv_ifnonnull (tgt := 15) hx hb dX9_lands_9 (by decide) ?_
    refine lv_iload_n hx hb dX9_lands_15 rfl (lv_at hl 3 rfl) ?_
    refine lv_iconst (v := (1 : Int32)) hx hb dX9_lands_16 (by decide) ?_
    refine lv_sipush (v := (200 : Int32)) hx hb dX9_lands_17 (by decide) ?_
    obtain ⟨r4, qr4, h⟩ := bn1_s h
    refine kc_i X (res := (r4, S)) (rS (As := [.int a2, .int ((1 : Int32)), .int ((200 : Int32))]) (rest := []) (n := 3) C X (c_X9_within l g ad S _ a2 ((1 : Int32)) ((200 : Int32))  qr4) wd_675 wd_564 wd_70 wd_565 rfl rfl (by decide +kernel) ⟨Nat.le_of_ble_eq_true rfl, Nat.le_of_ble_eq_true rfl⟩ rfl hl.1 (lv_room (Nat.le_of_ble_eq_true rfl)) dX9_lands_20) (fun H locs X => ?_)
    refine lv_if_eq (tgt := 35) hx hb dX9_lands_23 (by decide) (fun c5 => ?_) (fun c5 => ?_)
    · have h := ip h c5
      refine lv_ldc (v := (-1000000002 : Int32)) hx hb C.1.2.2.2.2.2.1 (C.1.2.2.2.2.2.2 _ (ws_in wd_440)) dX9_lands_35 ?_
      exact rt_i C X rfl (Option.some.inj h) dX9_lands_37
    · have h := inn h c5
      refine lv_iload_n hx hb dX9_lands_26 rfl (lv_at hl 4 rfl) ?_
      refine lv_iconst (v := (0 : Int32)) hx hb dX9_lands_27 (by decide) ?_
      refine lv_iconst (v := (5 : Int32)) hx hb dX9_lands_28 (by decide) ?_
      obtain ⟨r6, qr6, h⟩ := bn1_s h
      refine kc_i X (res := (r6, S)) (rS (As := [.int a3, .int ((0 : Int32)), .int ((5 : Int32))]) (rest := []) (n := 3) C X (c_X9_within l g ad S _ a3 ((0 : Int32)) ((5 : Int32))  qr6) wd_675 wd_564 wd_70 wd_565 rfl rfl (by decide +kernel) ⟨Nat.le_of_ble_eq_true rfl, Nat.le_of_ble_eq_true rfl⟩ rfl hl.1 (lv_room (Nat.le_of_ble_eq_true rfl)) dX9_lands_29) (fun H locs X => ?_)
      refine lv_if_ne (tgt := 38) hx hb dX9_lands_32 (by decide) (fun c7 => ?_) (fun c7 => ?_)
      · have h := inn h c7
        refine lv_aload_n hx hb dX9_lands_38 rfl (lv_at hl 1 rfl) ?_
        refine lv_aload hx hb dX9_lands_39 (lv_at hl 0 rfl) ?_
        obtain ⟨S8, qS8, h⟩ := bn1_s h
        refine kc_v X (res := S8) (rV (As := [.ref (ad k2)]) (rest := []) (n := 1) (k := 0) C X (c_X9_ready l g ad S _ k2 y3 qS8) wd_784 wd_786 wd_18 wd_70 wd_787 (by decide) (eC_0 g ad S) rfl rfl rfl (by decide +kernel) ⟨Nat.le_of_ble_eq_true rfl, Nat.le_of_ble_eq_true rfl⟩ rfl hl.1 (lv_room (Nat.le_of_ble_eq_true rfl)) dX9_lands_41) (fun H locs X => ?_)
        refine lv_aload_n hx hb dX9_lands_44 rfl (lv_at hl 1 rfl) ?_
        refine g_get C X inT9 0 (by decide) (eC_0 g ad S8) rfl 10 (by decide) wd_403 (v := .ref (ad 51)) rfl dX9_lands_45 ?_
        refine lv_iload_n hx hb dX9_lands_48 rfl (lv_at hl 3 rfl) ?_
        refine lv_aload_n hx hb dX9_lands_49 rfl (lv_at hl 1 rfl) ?_
        refine g_get C X inT9 0 (by decide) (eC_0 g ad S8) rfl 10 (by decide) wd_403 (v := .ref (ad 51)) rfl dX9_lands_50 ?_
        refine g_getN C X inT0 51 (by decide) (eC_51 g ad S8) rfl 7 (by decide) nw_297 (v := .int (S8.1 51 7)) rfl dX9_lands_53 ?_
        refine lv_iadd hx hb dX9_lands_56 ?_
        obtain ⟨S9, qS9, h⟩ := bn1_s h
        refine kc_v X (res := S9) (rV (As := [.int (a2 + (S8.1 51 7))]) (rest := []) (n := 1) (k := 51) C X (c_X0_letGo l g ad S8 _ (a2 + (S8.1 51 7))  qS9) wd_811 wd_812 wd_813 wd_81 wd_814 (by decide) (eC_51 g ad S8) rfl rfl rfl (by decide +kernel) ⟨Nat.le_of_ble_eq_true rfl, Nat.le_of_ble_eq_true rfl⟩ rfl hl.1 (lv_room (Nat.le_of_ble_eq_true rfl)) dX9_lands_57) (fun H locs X => ?_)
        refine lv_iload_n hx hb dX9_lands_60 rfl (lv_at hl 4 rfl) ?_
        by_cases t10 : a3 = (0 : Int32)
        · have h := ip h t10
          refine lv_tableIn (tgt := 96) (off := 35) hx hb dX9_lands_61 (by rw [t10]; decide) (by rw [t10]; decide) (by rw [t10]; rfl) (by decide) ?_
          refine lv_aload_n hx hb dX9_lands_96 rfl (lv_at hl 1 rfl) ?_
          refine g_get C X inT9 0 (by decide) (eC_0 g ad S9) rfl 10 (by decide) wd_403 (v := .ref (ad 51)) rfl dX9_lands_97 ?_
          refine g_getN C X inT0 51 (by decide) (eC_51 g ad S9) rfl 11 (by decide) nw_303 (v := .int (S9.1 51 11)) rfl dX9_lands_100 ?_
          exact rt_i C X rfl (Option.some.inj h) dX9_lands_103
        have h := inn h t10
        by_cases t11 : a3 = (1 : Int32)
        · have h := ip h t11
          refine lv_tableIn (tgt := 104) (off := 43) hx hb dX9_lands_61 (by rw [t11]; decide) (by rw [t11]; decide) (by rw [t11]; rfl) (by decide) ?_
          refine lv_aload_n hx hb dX9_lands_104 rfl (lv_at hl 1 rfl) ?_
          refine g_get C X inT9 0 (by decide) (eC_0 g ad S9) rfl 10 (by decide) wd_403 (v := .ref (ad 51)) rfl dX9_lands_105 ?_
          refine g_getN C X inT0 51 (by decide) (eC_51 g ad S9) rfl 12 (by decide) nw_306 (v := .int (S9.1 51 12)) rfl dX9_lands_108 ?_
          exact rt_i C X rfl (Option.some.inj h) dX9_lands_111
        have h := inn h t11
        by_cases t12 : a3 = (2 : Int32)
        · have h := ip h t12
          refine lv_tableIn (tgt := 112) (off := 51) hx hb dX9_lands_61 (by rw [t12]; decide) (by rw [t12]; decide) (by rw [t12]; rfl) (by decide) ?_
          refine lv_aload_n hx hb dX9_lands_112 rfl (lv_at hl 1 rfl) ?_
          refine g_get C X inT9 0 (by decide) (eC_0 g ad S9) rfl 10 (by decide) wd_403 (v := .ref (ad 51)) rfl dX9_lands_113 ?_
          refine g_getN C X inT0 51 (by decide) (eC_51 g ad S9) rfl 13 (by decide) nw_308 (v := .int (S9.1 51 13)) rfl dX9_lands_116 ?_
          exact rt_i C X rfl (Option.some.inj h) dX9_lands_119
        have h := inn h t12
        by_cases t13 : a3 = (3 : Int32)
        · have h := ip h t13
          refine lv_tableIn (tgt := 120) (off := 59) hx hb dX9_lands_61 (by rw [t13]; decide) (by rw [t13]; decide) (by rw [t13]; rfl) (by decide) ?_
          refine lv_aload_n hx hb dX9_lands_120 rfl (lv_at hl 1 rfl) ?_
          refine g_get C X inT9 0 (by decide) (eC_0 g ad S9) rfl 10 (by decide) wd_403 (v := .ref (ad 51)) rfl dX9_lands_121 ?_
          refine g_getN C X inT0 51 (by decide) (eC_51 g ad S9) rfl 14 (by decide) nw_310 (v := .int (S9.1 51 14)) rfl dX9_lands_124 ?_
          exact rt_i C X rfl (Option.some.inj h) dX9_lands_127
        have h := inn h t13
        by_cases t14 : a3 = (4 : Int32)
        · have h := ip h t14
          refine lv_tableIn (tgt := 128) (off := 67) hx hb dX9_lands_61 (by rw [t14]; decide) (by rw [t14]; decide) (by rw [t14]; rfl) (by decide) ?_
          refine lv_aload_n hx hb dX9_lands_128 rfl (lv_at hl 1 rfl) ?_
          refine g_get C X inT9 0 (by decide) (eC_0 g ad S9) rfl 10 (by decide) wd_403 (v := .ref (ad 51)) rfl dX9_lands_129 ?_
          refine g_getN C X inT0 51 (by decide) (eC_51 g ad S9) rfl 15 (by decide) nw_313 (v := .int (S9.1 51 15)) rfl dX9_lands_132 ?_
          exact rt_i C X rfl (Option.some.inj h) dX9_lands_135
        have h := inn h t14
        refine lv_tableOut (tgt := 136) hx hb dX9_lands_61 (tb_out (fun z z1 z2 ze => ?_)) (by decide) ?_
        · rcases (show z = 0 ∨ z = 1 ∨ z = 2 ∨ z = 3 ∨ z = 4 by omega) with rfl | rfl | rfl | rfl | rfl
          · exact t10 (Int32.toInt_inj.mp (ze.trans (by decide)))
          · exact t11 (Int32.toInt_inj.mp (ze.trans (by decide)))
          · exact t12 (Int32.toInt_inj.mp (ze.trans (by decide)))
          · exact t13 (Int32.toInt_inj.mp (ze.trans (by decide)))
          · exact t14 (Int32.toInt_inj.mp (ze.trans (by decide)))
        refine lv_aload_n hx hb dX9_lands_136 rfl (lv_at hl 1 rfl) ?_
        refine g_get C X inT9 0 (by decide) (eC_0 g ad S9) rfl 10 (by decide) wd_403 (v := .ref (ad 51)) rfl dX9_lands_137 ?_
        refine g_getN C X inT0 51 (by decide) (eC_51 g ad S9) rfl 16 (by decide) nw_315 (v := .int (S9.1 51 16)) rfl dX9_lands_140 ?_
        exact rt_i C X rfl (Option.some.inj h) dX9_lands_143
      · have h := ip h c7
        refine lv_ldc (v := (-1000000002 : Int32)) hx hb C.1.2.2.2.2.2.1 (C.1.2.2.2.2.2.2 _ (ws_in wd_440)) dX9_lands_35 ?_
        exact rt_i C X rfl (Option.some.inj h) dX9_lands_37

def rmX9_best : Room := { frames := 5, cells := 0, slots := 0, locals := 119 }
def f_X9_best (a1 : Int32) (a2 : Int32) (S : ST) : Option (Int32 × ST) :=
  bn1 (f_X9_swingerAt a1 S) fun r1 => om r1 (some ((-1000000001 : Int32), S)) fun k2 => if a2 < 0 then (some ((-1000000002 : Int32), S)) else (if a2 ≤ ((1 : Int32)) then (bn1 (f_X9_ready k2 S) fun S6 => bn1 (f_X8_scan S6) fun S7 => if a2 = 0 then (some (S7.1 52 0, S7)) else (some (S7.1 52 1, S7))) else (some ((-1000000002 : Int32), S)))
set_option maxHeartbeats 4000000 in
set_option maxRecDepth 100000 in
theorem c_X9_best (l : Launch) (g : GG) (ad : Nat → Nat) (S : ST) (sz : Nat) (a1 : Int32) (a2 : Int32)  {res : (Int32 × ST)} (h : f_X9_best a1 a2 S = some res) : Met l yX9_best (WS (.code yX9_best cX9_best 4 (some Jvm.ClassFile.FieldType.int))) rmX9_best (va_Pc [.ref (ad 0), .int a1, .int a2] (PW kC g ad S sz)) (QI kC g ad res (AA kC ad sz)) 0 0 (AA kC ad sz) := by
  refine go_m (Qc := fun A => QI kC g ad res A) (by decide) (Nat.le_of_ble_eq_true rfl) (fun p e s m below meth c ls H locs C X hl => ?_)
  have hx := C.1.1
  have hb := C.1.2.1
  have hl : lv_has ls 4 [(0, .ref (ad 0)), (1, .int a1), (2, .int a2)] := hl
  have h : (bn1 (f_X9_swingerAt a1 S) fun r1 => om r1 (some ((-1000000001 : Int32), S)) fun k2 => if a2 < 0 then (some ((-1000000002 : Int32), S)) else (if a2 ≤ ((1 : Int32)) then (bn1 (f_X9_ready k2 S) fun S6 => bn1 (f_X8_scan S6) fun S7 => if a2 = 0 then (some (S7.1 52 0, S7)) else (some (S7.1 52 1, S7))) else (some ((-1000000002 : Int32), S))) : Option (Int32 × ST)) = some res := h
  refine lv_aload_n hx hb dX9_best_0 rfl (lv_at hl 0 rfl) ?_
  refine lv_iload_n hx hb dX9_best_1 rfl (lv_at hl 1 rfl) ?_
  obtain ⟨r1, qr1, h⟩ := bn1_s h
  refine kc_q X (res := (r1, S)) (rV (As := [.int a1]) (rest := []) (n := 1) (k := 0) C X (c_X9_swingerAt l g ad S _ a1  qr1) wd_671 wd_673 wd_12 wd_70 wd_674 (by decide) (eC_0 g ad S) rfl rfl rfl (by decide +kernel) ⟨Nat.le_of_ble_eq_true rfl, Nat.le_of_ble_eq_true rfl⟩ rfl hl.1 (lv_room (Nat.le_of_ble_eq_true rfl)) dX9_best_2) (fun H locs X => ?_)
  cases r1 with
  | none =>
    have h := om_n h
    refine lv_astore_nN (lv' := [(3, .null), (0, .ref (ad 0)), (1, .int a1), (2, .int a2)]) hx hb dX9_best_5 rfl hl (by decide) rfl (fun ls hl => ?_)
    refine lv_aload_nN hx hb dX9_best_6 rfl (lv_at hl 0 rfl) ?_
    refine lv_ifnonnullN hx hb dX9_best_7 ?_
    refine lv_ldc (v := (-1000000001 : Int32)) hx hb C.1.2.2.2.2.2.1 (C.1.2.2.2.2.2.2 _ (ws_in wd_644)) dX9_best_10 ?_
    exact rt_i C X rfl (Option.some.inj h) dX9_best_12
  | some k2 =>
    have h := om_s h
    have y3 : swk k2 = true := ok_X9_swingerAt qr1
    refine lv_astore_n (lv' := [(3, .ref (ad k2)), (0, .ref (ad 0)), (1, .int a1), (2, .int a2)]) hx hb dX9_best_5 rfl hl (by decide) rfl (fun ls hl => ?_)
    refine lv_aload_n hx hb dX9_best_6 rfl (lv_at hl 0 rfl) ?_
    refine lv_ifnonnull (tgt := 13) hx hb dX9_best_7 (by decide) ?_
    refine lv_iload_n hx hb dX9_best_13 rfl (lv_at hl 3 rfl) ?_
    refine lv_if_lt (tgt := 22) hx hb dX9_best_14 (by decide) (fun c4 => ?_) (fun c4 => ?_)
    · have h := ip h c4
      refine lv_ldc (v := (-1000000002 : Int32)) hx hb C.1.2.2.2.2.2.1 (C.1.2.2.2.2.2.2 _ (ws_in wd_440)) dX9_best_22 ?_
      exact rt_i C X rfl (Option.some.inj h) dX9_best_24
    · have h := inn h c4
      refine lv_iload_n hx hb dX9_best_17 rfl (lv_at hl 3 rfl) ?_
      refine lv_iconst (v := (1 : Int32)) hx hb dX9_best_18 (by decide) ?_
      refine lv_icmp_le (tgt := 25) hx hb dX9_best_19 (by decide) (fun c5 => ?_) (fun c5 => ?_)
      · have h := ip h c5
        refine lv_aload_n hx hb dX9_best_25 rfl (lv_at hl 1 rfl) ?_
        refine lv_aload_n hx hb dX9_best_26 rfl (lv_at hl 0 rfl) ?_
        obtain ⟨S6, qS6, h⟩ := bn1_s h
        refine kc_v X (res := S6) (rV (As := [.ref (ad k2)]) (rest := []) (n := 1) (k := 0) C X (c_X9_ready l g ad S _ k2 y3 qS6) wd_784 wd_786 wd_18 wd_70 wd_787 (by decide) (eC_0 g ad S) rfl rfl rfl (by decide +kernel) ⟨Nat.le_of_ble_eq_true rfl, Nat.le_of_ble_eq_true rfl⟩ rfl hl.1 (lv_room (Nat.le_of_ble_eq_true rfl)) dX9_best_27) (fun H locs X => ?_)
        refine lv_aload_n hx hb dX9_best_30 rfl (lv_at hl 1 rfl) ?_
        refine g_get C X inT9 0 (by decide) (eC_0 g ad S6) rfl 11 (by decide) wd_404 (v := .ref (ad 52)) rfl dX9_best_31 ?_
        refine lv_aload_n hx hb dX9_best_34 rfl (lv_at hl 1 rfl) ?_
        refine g_get C X inT9 0 (by decide) (eC_0 g ad S6) rfl 10 (by decide) wd_403 (v := .ref (ad 51)) rfl dX9_best_35 ?_
        obtain ⟨S7, qS7, h⟩ := bn1_s h
        refine kc_v X (res := S7) (rV (As := [.ref (ad 51)]) (rest := []) (n := 1) (k := 52) C X (c_X8_scan l g ad S6 _   qS7) wd_840 wd_841 wd_842 wd_82 wd_843 (by decide) (eC_52 g ad S6) rfl rfl rfl (by decide +kernel) ⟨Nat.le_of_ble_eq_true rfl, Nat.le_of_ble_eq_true rfl⟩ rfl hl.1 (lv_room (Nat.le_of_ble_eq_true rfl)) dX9_best_38) (fun H locs X => ?_)
        refine lv_iload_n hx hb dX9_best_41 rfl (lv_at hl 3 rfl) ?_
        refine lv_if_ne (tgt := 55) hx hb dX9_best_42 (by decide) (fun c8 => ?_) (fun c8 => ?_)
        · have h := inn h c8
          refine lv_aload_n hx hb dX9_best_55 rfl (lv_at hl 1 rfl) ?_
          refine g_get C X inT9 0 (by decide) (eC_0 g ad S7) rfl 11 (by decide) wd_404 (v := .ref (ad 52)) rfl dX9_best_56 ?_
          refine g_getN C X inT8 52 (by decide) (eC_52 g ad S7) rfl 1 (by decide) nw_360 (v := .int (S7.1 52 1)) rfl dX9_best_59 ?_
          exact rt_i C X rfl (Option.some.inj h) dX9_best_62
        · have h := ip h c8
          refine lv_aload_n hx hb dX9_best_45 rfl (lv_at hl 1 rfl) ?_
          refine g_get C X inT9 0 (by decide) (eC_0 g ad S7) rfl 11 (by decide) wd_404 (v := .ref (ad 52)) rfl dX9_best_46 ?_
          refine g_getN C X inT8 52 (by decide) (eC_52 g ad S7) rfl 0 (by decide) nw_358 (v := .int (S7.1 52 0)) rfl dX9_best_49 ?_
          refine lv_goto (tgt := 62) hx hb dX9_best_52 (by decide) ?_
          exact rt_i C X rfl (Option.some.inj h) dX9_best_62
      · have h := inn h c5
        refine lv_ldc (v := (-1000000002 : Int32)) hx hb C.1.2.2.2.2.2.1 (C.1.2.2.2.2.2.2 _ (ws_in wd_440)) dX9_best_22 ?_
        exact rt_i C X rfl (Option.some.inj h) dX9_best_24

def rmX9_wide : Room := { frames := 5, cells := 0, slots := 0, locals := 119 }
def f_X9_wide (a1 : Int32) (a2 : Int32) (S : ST) : Option (Int32 × ST) :=
  bn1 (f_X9_swingerAt a1 S) fun r1 => om r1 (some ((-1000000001 : Int32), S)) fun k2 => if a2 < 0 then (some ((-1000000002 : Int32), S)) else (if a2 ≤ ((2 : Int32)) then (bn1 (f_X9_ready k2 S) fun S6 => bn1 (f_X8_scan S6) fun S7 => if a2 = 0 then (some (S7.1 52 2, S7)) else (if a2 = ((1 : Int32)) then (some (S7.1 52 3, S7)) else (some (S7.1 52 4, S7)))) else (some ((-1000000002 : Int32), S)))
set_option maxHeartbeats 4000000 in
set_option maxRecDepth 100000 in
theorem c_X9_wide (l : Launch) (g : GG) (ad : Nat → Nat) (S : ST) (sz : Nat) (a1 : Int32) (a2 : Int32)  {res : (Int32 × ST)} (h : f_X9_wide a1 a2 S = some res) : Met l yX9_wide (WS (.code yX9_wide cX9_wide 4 (some Jvm.ClassFile.FieldType.int))) rmX9_wide (va_Pc [.ref (ad 0), .int a1, .int a2] (PW kC g ad S sz)) (QI kC g ad res (AA kC ad sz)) 0 0 (AA kC ad sz) := by
  refine go_m (Qc := fun A => QI kC g ad res A) (by decide) (Nat.le_of_ble_eq_true rfl) (fun p e s m below meth c ls H locs C X hl => ?_)
  have hx := C.1.1
  have hb := C.1.2.1
  have hl : lv_has ls 4 [(0, .ref (ad 0)), (1, .int a1), (2, .int a2)] := hl
  have h : (bn1 (f_X9_swingerAt a1 S) fun r1 => om r1 (some ((-1000000001 : Int32), S)) fun k2 => if a2 < 0 then (some ((-1000000002 : Int32), S)) else (if a2 ≤ ((2 : Int32)) then (bn1 (f_X9_ready k2 S) fun S6 => bn1 (f_X8_scan S6) fun S7 => if a2 = 0 then (some (S7.1 52 2, S7)) else (if a2 = ((1 : Int32)) then (some (S7.1 52 3, S7)) else (some (S7.1 52 4, S7)))) else (some ((-1000000002 : Int32), S))) : Option (Int32 × ST)) = some res := h
  refine lv_aload_n hx hb dX9_wide_0 rfl (lv_at hl 0 rfl) ?_
  refine lv_iload_n hx hb dX9_wide_1 rfl (lv_at hl 1 rfl) ?_
  obtain ⟨r1, qr1, h⟩ := bn1_s h
  refine kc_q X (res := (r1, S)) (rV (As := [.int a1]) (rest := []) (n := 1) (k := 0) C X (c_X9_swingerAt l g ad S _ a1  qr1) wd_671 wd_673 wd_12 wd_70 wd_674 (by decide) (eC_0 g ad S) rfl rfl rfl (by decide +kernel) ⟨Nat.le_of_ble_eq_true rfl, Nat.le_of_ble_eq_true rfl⟩ rfl hl.1 (lv_room (Nat.le_of_ble_eq_true rfl)) dX9_wide_2) (fun H locs X => ?_)
  cases r1 with
  | none =>
    have h := om_n h
    refine lv_astore_nN (lv' := [(3, .null), (0, .ref (ad 0)), (1, .int a1), (2, .int a2)]) hx hb dX9_wide_5 rfl hl (by decide) rfl (fun ls hl => ?_)
    refine lv_aload_nN hx hb dX9_wide_6 rfl (lv_at hl 0 rfl) ?_
    refine lv_ifnonnullN hx hb dX9_wide_7 ?_
    refine lv_ldc (v := (-1000000001 : Int32)) hx hb C.1.2.2.2.2.2.1 (C.1.2.2.2.2.2.2 _ (ws_in wd_644)) dX9_wide_10 ?_
    exact rt_i C X rfl (Option.some.inj h) dX9_wide_12
  | some k2 =>
    have h := om_s h
    have y3 : swk k2 = true := ok_X9_swingerAt qr1
    refine lv_astore_n (lv' := [(3, .ref (ad k2)), (0, .ref (ad 0)), (1, .int a1), (2, .int a2)]) hx hb dX9_wide_5 rfl hl (by decide) rfl (fun ls hl => ?_)
    refine lv_aload_n hx hb dX9_wide_6 rfl (lv_at hl 0 rfl) ?_
    refine lv_ifnonnull (tgt := 13) hx hb dX9_wide_7 (by decide) ?_
    refine lv_iload_n hx hb dX9_wide_13 rfl (lv_at hl 3 rfl) ?_
    refine lv_if_lt (tgt := 22) hx hb dX9_wide_14 (by decide) (fun c4 => ?_) (fun c4 => ?_)
    · have h := ip h c4
      refine lv_ldc (v := (-1000000002 : Int32)) hx hb C.1.2.2.2.2.2.1 (C.1.2.2.2.2.2.2 _ (ws_in wd_440)) dX9_wide_22 ?_
      exact rt_i C X rfl (Option.some.inj h) dX9_wide_24
    · have h := inn h c4
      refine lv_iload_n hx hb dX9_wide_17 rfl (lv_at hl 3 rfl) ?_
      refine lv_iconst (v := (2 : Int32)) hx hb dX9_wide_18 (by decide) ?_
      refine lv_icmp_le (tgt := 25) hx hb dX9_wide_19 (by decide) (fun c5 => ?_) (fun c5 => ?_)
      · have h := ip h c5
        refine lv_aload_n hx hb dX9_wide_25 rfl (lv_at hl 1 rfl) ?_
        refine lv_aload_n hx hb dX9_wide_26 rfl (lv_at hl 0 rfl) ?_
        obtain ⟨S6, qS6, h⟩ := bn1_s h
        refine kc_v X (res := S6) (rV (As := [.ref (ad k2)]) (rest := []) (n := 1) (k := 0) C X (c_X9_ready l g ad S _ k2 y3 qS6) wd_784 wd_786 wd_18 wd_70 wd_787 (by decide) (eC_0 g ad S) rfl rfl rfl (by decide +kernel) ⟨Nat.le_of_ble_eq_true rfl, Nat.le_of_ble_eq_true rfl⟩ rfl hl.1 (lv_room (Nat.le_of_ble_eq_true rfl)) dX9_wide_27) (fun H locs X => ?_)
        refine lv_aload_n hx hb dX9_wide_30 rfl (lv_at hl 1 rfl) ?_
        refine g_get C X inT9 0 (by decide) (eC_0 g ad S6) rfl 11 (by decide) wd_404 (v := .ref (ad 52)) rfl dX9_wide_31 ?_
        refine lv_aload_n hx hb dX9_wide_34 rfl (lv_at hl 1 rfl) ?_
        refine g_get C X inT9 0 (by decide) (eC_0 g ad S6) rfl 10 (by decide) wd_403 (v := .ref (ad 51)) rfl dX9_wide_35 ?_
        obtain ⟨S7, qS7, h⟩ := bn1_s h
        refine kc_v X (res := S7) (rV (As := [.ref (ad 51)]) (rest := []) (n := 1) (k := 52) C X (c_X8_scan l g ad S6 _   qS7) wd_840 wd_841 wd_842 wd_82 wd_843 (by decide) (eC_52 g ad S6) rfl rfl rfl (by decide +kernel) ⟨Nat.le_of_ble_eq_true rfl, Nat.le_of_ble_eq_true rfl⟩ rfl hl.1 (lv_room (Nat.le_of_ble_eq_true rfl)) dX9_wide_38) (fun H locs X => ?_)
        refine lv_iload_n hx hb dX9_wide_41 rfl (lv_at hl 3 rfl) ?_
        refine lv_if_ne (tgt := 53) hx hb dX9_wide_42 (by decide) (fun c8 => ?_) (fun c8 => ?_)
        · have h := inn h c8
          refine lv_iload_n hx hb dX9_wide_53 rfl (lv_at hl 3 rfl) ?_
          refine lv_iconst (v := (1 : Int32)) hx hb dX9_wide_54 (by decide) ?_
          refine lv_icmp_ne (tgt := 68) hx hb dX9_wide_55 (by decide) (fun c9 => ?_) (fun c9 => ?_)
          · have h := inn h c9
            refine lv_aload_n hx hb dX9_wide_68 rfl (lv_at hl 1 rfl) ?_
            refine g_get C X inT9 0 (by decide) (eC_0 g ad S7) rfl 11 (by decide) wd_404 (v := .ref (ad 52)) rfl dX9_wide_69 ?_
            refine g_getN C X inT8 52 (by decide) (eC_52 g ad S7) rfl 4 (by decide) nw_366 (v := .int (S7.1 52 4)) rfl dX9_wide_72 ?_
            exact rt_i C X rfl (Option.some.inj h) dX9_wide_75
          · have h := ip h c9
            refine lv_aload_n hx hb dX9_wide_58 rfl (lv_at hl 1 rfl) ?_
            refine g_get C X inT9 0 (by decide) (eC_0 g ad S7) rfl 11 (by decide) wd_404 (v := .ref (ad 52)) rfl dX9_wide_59 ?_
            refine g_getN C X inT8 52 (by decide) (eC_52 g ad S7) rfl 3 (by decide) nw_364 (v := .int (S7.1 52 3)) rfl dX9_wide_62 ?_
            refine lv_goto (tgt := 75) hx hb dX9_wide_65 (by decide) ?_
            exact rt_i C X rfl (Option.some.inj h) dX9_wide_75
        · have h := ip h c8
          refine lv_aload_n hx hb dX9_wide_45 rfl (lv_at hl 1 rfl) ?_
          refine g_get C X inT9 0 (by decide) (eC_0 g ad S7) rfl 11 (by decide) wd_404 (v := .ref (ad 52)) rfl dX9_wide_46 ?_
          refine g_getN C X inT8 52 (by decide) (eC_52 g ad S7) rfl 2 (by decide) nw_362 (v := .int (S7.1 52 2)) rfl dX9_wide_49 ?_
          exact rt_i C X rfl (Option.some.inj h) dX9_wide_52
      · have h := inn h c5
        refine lv_ldc (v := (-1000000002 : Int32)) hx hb C.1.2.2.2.2.2.1 (C.1.2.2.2.2.2.2 _ (ws_in wd_440)) dX9_wide_22 ?_
        exact rt_i C X rfl (Option.some.inj h) dX9_wide_24

def rmX9_odds : Room := { frames := 5, cells := 0, slots := 0, locals := 119 }
def b_X9_odds_51 (K51 : Int32 → Int32 → Int32 → Int32 → ST → Option (Int32 × ST)) (v2 : Int32) (v3 : Int32) (v4 : Int32) (v5 : Int32) (S : ST) : Option (Int32 × ST) :=
  if v3 < v5 then (bn1 (f_X9_quotient (((1000000 : Int32)) * v4) (v3 + ((1 : Int32)))) fun r10 => some (r10, S)) else (bnd (f_X0_endsGood ((v2 + (S.1 51 7)) + v5) S) fun r12 S11 => if r12 = 0 then (nm (v5 + (1 : Int32)) fun x14 => K51 v2 v3 v4 x14 S11) else (nm (v4 + (1 : Int32)) fun x15 => nm (v5 + (1 : Int32)) fun x16 => K51 v2 v3 x15 x16 S11))
def f_X9_odds (a1 : Int32) (a2 : Int32) (a3 : Int32) (S : ST) : Option (Int32 × ST) :=
  bn1 (f_X9_swingerAt a1 S) fun r1 => om r1 (some ((-1000000001 : Int32), S)) fun k2 => bn1 (f_X9_within a2 ((1 : Int32)) ((200 : Int32))) fun r4 => if r4 = 0 then (some ((-1000000002 : Int32), S)) else (bn1 (f_X9_within a3 ((0 : Int32)) ((40 : Int32))) fun r6 => if r6 = 0 then (some ((-1000000002 : Int32), S)) else (bn1 (f_X9_ready k2 S) fun S8 => lp (fun _ _ _ _ _ => none) (b_X9_odds_51) 1000 a2 a3 ((0 : Int32)) ((0 : Int32)) S8))
set_option maxHeartbeats 4000000 in
set_option maxRecDepth 100000 in
theorem kb_X9_odds_51 {p : Program} {l : Launch} {e : Env} {s : State} {m : MethodId} {args : Array Value} {below : List Frame} {meth : Method} {c : Code} {g : GG} {ad : Nat → Nat} {res : (Int32 × ST)} {S : ST} (C : CX kC g ad p s m args meth c cX9_odds (some Jvm.ClassFile.FieldType.int) 7 yX9_odds.cls (.code yX9_odds cX9_odds 7 (some Jvm.ClassFile.FieldType.int))) {K51 : Int32 → Int32 → Int32 → Int32 → ST → Option (Int32 × ST)} (hK51 : ∀ {v2 : Int32} {v3 : Int32} {v4 : Int32} {v5 : Int32} {S : ST} {H : Heap} {locs : List Loc} {ls : Array Slot}, K51 v2 v3 v4 v5 S = some res → WX kC g ad s S H locs → lv_has ls 7 [(0, .ref (ad 0)), (2, .int v2), (3, .int v3), (5, .int v4), (6, .int v5)] → W p l e rmX9_odds s m args below meth c H locs 0 0 (MQ below (QI kC g ad res (AA kC ad s.heap.size)) args s 0 0 (AA kC ad s.heap.size)) (F0 m 51 ls [])) {v2 : Int32} {v3 : Int32} {v4 : Int32} {v5 : Int32}  {H : Heap} {locs : List Loc} {ls : Array Slot} (h : b_X9_odds_51 K51 v2 v3 v4 v5 S = some res) (X : WX kC g ad s S H locs) (hl : lv_has ls 7 [(0, .ref (ad 0)), (2, .int v2), (3, .int v3), (5, .int v4), (6, .int v5)])  : W p l e rmX9_odds s m args below meth c H locs 0 0 (MQ below (QI kC g ad res (AA kC ad s.heap.size)) args s 0 0 (AA kC ad s.heap.size)) (F0 m 51 ls []) := by
  have hx := C.1.1
  have hb := C.1.2.1
  have h : (if v3 < v5 then (bn1 (f_X9_quotient (((1000000 : Int32)) * v4) (v3 + ((1 : Int32)))) fun r10 => some (r10, S)) else (bnd (f_X0_endsGood ((v2 + (S.1 51 7)) + v5) S) fun r12 S11 => if r12 = 0 then (nm (v5 + (1 : Int32)) fun x14 => K51 v2 v3 v4 x14 S11) else (nm (v4 + (1 : Int32)) fun x15 => nm (v5 + (1 : Int32)) fun x16 => K51 v2 v3 x15 x16 S11)) : Option (Int32 × ST)) = some res := h
  refine lv_iload hx hb dX9_odds_51 (lv_at hl 4 rfl) ?_
  refine lv_iload_n hx hb dX9_odds_53 rfl (lv_at hl 2 rfl) ?_
  refine lv_icmp_gt (tgt := 88) hx hb dX9_odds_54 (by decide) (fun c9 => ?_) (fun c9 => ?_)
  · have h := ip h c9
    refine lv_ldc (v := (1000000 : Int32)) hx hb C.1.2.2.2.2.2.1 (C.1.2.2.2.2.2.2 _ (ws_in wd_860)) dX9_odds_88 ?_
    refine lv_iload hx hb dX9_odds_90 (lv_at hl 3 rfl) ?_
    refine lv_imul hx hb dX9_odds_92 ?_
    refine lv_iload_n hx hb dX9_odds_93 rfl (lv_at hl 2 rfl) ?_
    refine lv_iconst (v := (1 : Int32)) hx hb dX9_odds_94 (by decide) ?_
    refine lv_iadd hx hb dX9_odds_95 ?_
    obtain ⟨r10, qr10, h⟩ := bn1_s h
    refine kc_i X (res := (r10, S)) (rS (As := [.int (((1000000 : Int32)) * v4), .int (v3 + ((1 : Int32)))]) (rest := []) (n := 2) C X (c_X9_quotient l g ad S _ (((1000000 : Int32)) * v4) (v3 + ((1 : Int32)))  qr10) wd_861 wd_735 wd_70 wd_736 rfl rfl (by decide +kernel) ⟨Nat.le_of_ble_eq_true rfl, Nat.le_of_ble_eq_true rfl⟩ rfl hl.1 (lv_room (Nat.le_of_ble_eq_true rfl)) dX9_odds_96) (fun H locs X => ?_)
    exact rt_i C X rfl (Option.some.inj h) dX9_odds_99
  · have h := inn h c9
    refine lv_aload_n hx hb dX9_odds_57 rfl (lv_at hl 0 rfl) ?_
    refine g_get C X inT9 0 (by decide) (eC_0 g ad S) rfl 10 (by decide) wd_403 (v := .ref (ad 51)) rfl dX9_odds_58 ?_
    refine lv_iload_n hx hb dX9_odds_61 rfl (lv_at hl 1 rfl) ?_
    refine lv_aload_n hx hb dX9_odds_62 rfl (lv_at hl 0 rfl) ?_
    refine g_get C X inT9 0 (by decide) (eC_0 g ad S) rfl 10 (by decide) wd_403 (v := .ref (ad 51)) rfl dX9_odds_63 ?_
    refine g_getN C X inT0 51 (by decide) (eC_51 g ad S) rfl 7 (by decide) nw_297 (v := .int (S.1 51 7)) rfl dX9_odds_66 ?_
    refine lv_iadd hx hb dX9_odds_69 ?_
    refine lv_iload hx hb dX9_odds_70 (lv_at hl 4 rfl) ?_
    refine lv_iadd hx hb dX9_odds_72 ?_
    obtain ⟨r12, S11, qr12, h⟩ := bnd_s h
    refine kc_i X (res := (r12, S11)) (rV (As := [.int ((v2 + (S.1 51 7)) + v5)]) (rest := []) (n := 1) (k := 51) C X (c_X0_endsGood l g ad S _ ((v2 + (S.1 51 7)) + v5)  qr12) wd_859 wd_845 wd_846 wd_81 wd_847 (by decide) (eC_51 g ad S) rfl rfl rfl (by decide +kernel) ⟨Nat.le_of_ble_eq_true rfl, Nat.le_of_ble_eq_true rfl⟩ rfl hl.1 (lv_room (Nat.le_of_ble_eq_true rfl)) dX9_odds_73) (fun H locs X => ?_)
    refine lv_if_eq (tgt := 82) hx hb dX9_odds_76 (by decide) (fun c13 => ?_) (fun c13 => ?_)
    · have h := ip h c13
      obtain ⟨x14, ex14, h⟩ := nm_s h
      refine lv_iinc (v := x14) (lv' := [(6, .int x14), (0, .ref (ad 0)), (2, .int v2), (3, .int v3), (5, .int v4)]) hx hb dX9_odds_82 hl (k := 4) rfl (by rw [ex14]; rfl) (by decide) rfl (fun ls hl => ?_)
      refine lv_goto (tgt := 51) hx hb dX9_odds_85 (by decide) ?_
      exact hK51 h X (lv_sub hl [1, 2, 3, 4, 0] rfl) 
    · have h := inn h c13
      obtain ⟨x15, ex15, h⟩ := nm_s h
      refine lv_iinc (v := x15) (lv' := [(5, .int x15), (0, .ref (ad 0)), (2, .int v2), (3, .int v3), (6, .int v5)]) hx hb dX9_odds_79 hl (k := 3) rfl (by rw [ex15]; rfl) (by decide) rfl (fun ls hl => ?_)
      obtain ⟨x16, ex16, h⟩ := nm_s h
      refine lv_iinc (v := x16) (lv' := [(6, .int x16), (5, .int x15), (0, .ref (ad 0)), (2, .int v2), (3, .int v3)]) hx hb dX9_odds_82 hl (k := 4) rfl (by rw [ex16]; rfl) (by decide) rfl (fun ls hl => ?_)
      refine lv_goto (tgt := 51) hx hb dX9_odds_85 (by decide) ?_
      exact hK51 h X (lv_sub hl [2, 3, 4, 1, 0] rfl) 
set_option maxHeartbeats 4000000 in
set_option maxRecDepth 100000 in
theorem kl_X9_odds_51 {p : Program} {l : Launch} {e : Env} {s : State} {m : MethodId} {args : Array Value} {below : List Frame} {meth : Method} {c : Code} {g : GG} {ad : Nat → Nat} {res : (Int32 × ST)}  (C : CX kC g ad p s m args meth c cX9_odds (some Jvm.ClassFile.FieldType.int) 7 yX9_odds.cls (.code yX9_odds cX9_odds 7 (some Jvm.ClassFile.FieldType.int)))  : ∀ (n : Nat) {v2 : Int32} {v3 : Int32} {v4 : Int32} {v5 : Int32} {S : ST} {H : Heap} {locs : List Loc} {ls : Array Slot}, (lp (fun _ _ _ _ _ => none) (b_X9_odds_51)) n v2 v3 v4 v5 S = some res → WX kC g ad s S H locs → lv_has ls 7 [(0, .ref (ad 0)), (2, .int v2), (3, .int v3), (5, .int v4), (6, .int v5)] → W p l e rmX9_odds s m args below meth c H locs 0 0 (MQ below (QI kC g ad res (AA kC ad s.heap.size)) args s 0 0 (AA kC ad s.heap.size)) (F0 m 51 ls []) := by
  intro n
  induction n with
  | zero =>
    intro v2 v3 v4 v5 S H locs ls h
    cases (show (none : Option (Int32 × ST)) = some res from h)
  | succ n ih =>
    intro v2 v3 v4 v5 S H locs ls h X hl 
    exact kb_X9_odds_51 C ih h X hl 
set_option maxHeartbeats 4000000 in
set_option maxRecDepth 100000 in
theorem c_X9_odds (l : Launch) (g : GG) (ad : Nat → Nat) (S : ST) (sz : Nat) (a1 : Int32) (a2 : Int32) (a3 : Int32)  {res : (Int32 × ST)} (h : f_X9_odds a1 a2 a3 S = some res) : Met l yX9_odds (WS (.code yX9_odds cX9_odds 7 (some Jvm.ClassFile.FieldType.int))) rmX9_odds (va_Pc [.ref (ad 0), .int a1, .int a2, .int a3] (PW kC g ad S sz)) (QI kC g ad res (AA kC ad sz)) 0 0 (AA kC ad sz) := by
  refine go_m (Qc := fun A => QI kC g ad res A) (by decide) (Nat.le_of_ble_eq_true rfl) (fun p e s m below meth c ls H locs C X hl => ?_)
  have hx := C.1.1
  have hb := C.1.2.1
  have hl : lv_has ls 7 [(0, .ref (ad 0)), (1, .int a1), (2, .int a2), (3, .int a3)] := hl
  have h : (bn1 (f_X9_swingerAt a1 S) fun r1 => om r1 (some ((-1000000001 : Int32), S)) fun k2 => bn1 (f_X9_within a2 ((1 : Int32)) ((200 : Int32))) fun r4 => if r4 = 0 then (some ((-1000000002 : Int32), S)) else (bn1 (f_X9_within a3 ((0 : Int32)) ((40 : Int32))) fun r6 => if r6 = 0 then (some ((-1000000002 : Int32), S)) else (bn1 (f_X9_ready k2 S) fun S8 => lp (fun _ _ _ _ _ => none) (b_X9_odds_51) 1000 a2 a3 ((0 : Int32)) ((0 : Int32)) S8)) : Option (Int32 × ST)) = some res := h
  refine lv_aload_n hx hb dX9_odds_0 rfl (lv_at hl 0 rfl) ?_
  refine lv_iload_n hx hb dX9_odds_1 rfl (lv_at hl 1 rfl) ?_
  obtain ⟨r1, qr1, h⟩ := bn1_s h
  refine kc_q X (res := (r1, S)) (rV (As := [.int a1]) (rest := []) (n := 1) (k := 0) C X (c_X9_swingerAt l g ad S _ a1  qr1) wd_671 wd_673 wd_12 wd_70 wd_674 (by decide) (eC_0 g ad S) rfl rfl rfl (by decide +kernel) ⟨Nat.le_of_ble_eq_true rfl, Nat.le_of_ble_eq_true rfl⟩ rfl hl.1 (lv_room (Nat.le_of_ble_eq_true rfl)) dX9_odds_2) (fun H locs X => ?_)
  cases r1 with
  | none =>
    have h := om_n h
    refine lv_astoreN (lv' := [(4, .null), (0, .ref (ad 0)), (1, .int a1), (2, .int a2), (3, .int a3)]) hx hb dX9_odds_5 hl (by decide) rfl (fun ls hl => ?_)
    refine lv_aloadN hx hb dX9_odds_7 (lv_at hl 0 rfl) ?_
    refine lv_ifnonnullN hx hb dX9_odds_9 ?_
    refine lv_ldc (v := (-1000000001 : Int32)) hx hb C.1.2.2.2.2.2.1 (C.1.2.2.2.2.2.2 _ (ws_in wd_644)) dX9_odds_12 ?_
    exact rt_i C X rfl (Option.some.inj h) dX9_odds_14
  | some k2 =>
    have h := om_s h
    have y3 : swk k2 = true := ok_X9_swingerAt qr1
    refine lv_astore (lv' := [(4, .ref (ad k2)), (0, .ref (ad 0)), (1, .int a1), (2, .int a2), (3, .int a3)]) hx hb dX9_odds_5 hl (by decide) rfl (fun ls hl => ?_)
    refine lv_aload hx hb dX9_odds_7 (lv_at hl 0 rfl) ?_
    refine lv_ifnonnull (tgt := 15) hx hb dX9_odds_9 (by decide) ?_
    refine lv_iload_n hx hb dX9_odds_15 rfl (lv_at hl 3 rfl) ?_
    refine lv_iconst (v := (1 : Int32)) hx hb dX9_odds_16 (by decide) ?_
    refine lv_sipush (v := (200 : Int32)) hx hb dX9_odds_17 (by decide) ?_
    obtain ⟨r4, qr4, h⟩ := bn1_s h
    refine kc_i X (res := (r4, S)) (rS (As := [.int a2, .int ((1 : Int32)), .int ((200 : Int32))]) (rest := []) (n := 3) C X (c_X9_within l g ad S _ a2 ((1 : Int32)) ((200 : Int32))  qr4) wd_675 wd_564 wd_70 wd_565 rfl rfl (by decide +kernel) ⟨Nat.le_of_ble_eq_true rfl, Nat.le_of_ble_eq_true rfl⟩ rfl hl.1 (lv_room (Nat.le_of_ble_eq_true rfl)) dX9_odds_20) (fun H locs X => ?_)
    refine lv_if_eq (tgt := 36) hx hb dX9_odds_23 (by decide) (fun c5 => ?_) (fun c5 => ?_)
    · have h := ip h c5
      refine lv_ldc (v := (-1000000002 : Int32)) hx hb C.1.2.2.2.2.2.1 (C.1.2.2.2.2.2.2 _ (ws_in wd_440)) dX9_odds_36 ?_
      exact rt_i C X rfl (Option.some.inj h) dX9_odds_38
    · have h := inn h c5
      refine lv_iload_n hx hb dX9_odds_26 rfl (lv_at hl 4 rfl) ?_
      refine lv_iconst (v := (0 : Int32)) hx hb dX9_odds_27 (by decide) ?_
      refine lv_bipush (v := (40 : Int32)) hx hb dX9_odds_28 (by decide) ?_
      obtain ⟨r6, qr6, h⟩ := bn1_s h
      refine kc_i X (res := (r6, S)) (rS (As := [.int a3, .int ((0 : Int32)), .int ((40 : Int32))]) (rest := []) (n := 3) C X (c_X9_within l g ad S _ a3 ((0 : Int32)) ((40 : Int32))  qr6) wd_675 wd_564 wd_70 wd_565 rfl rfl (by decide +kernel) ⟨Nat.le_of_ble_eq_true rfl, Nat.le_of_ble_eq_true rfl⟩ rfl hl.1 (lv_room (Nat.le_of_ble_eq_true rfl)) dX9_odds_30) (fun H locs X => ?_)
      refine lv_if_ne (tgt := 39) hx hb dX9_odds_33 (by decide) (fun c7 => ?_) (fun c7 => ?_)
      · have h := inn h c7
        refine lv_aload_n hx hb dX9_odds_39 rfl (lv_at hl 1 rfl) ?_
        refine lv_aload hx hb dX9_odds_40 (lv_at hl 0 rfl) ?_
        obtain ⟨S8, qS8, h⟩ := bn1_s h
        refine kc_v X (res := S8) (rV (As := [.ref (ad k2)]) (rest := []) (n := 1) (k := 0) C X (c_X9_ready l g ad S _ k2 y3 qS8) wd_784 wd_786 wd_18 wd_70 wd_787 (by decide) (eC_0 g ad S) rfl rfl rfl (by decide +kernel) ⟨Nat.le_of_ble_eq_true rfl, Nat.le_of_ble_eq_true rfl⟩ rfl hl.1 (lv_room (Nat.le_of_ble_eq_true rfl)) dX9_odds_42) (fun H locs X => ?_)
        refine lv_iconst (v := (0 : Int32)) hx hb dX9_odds_45 (by decide) ?_
        refine lv_istore (lv' := [(5, .int ((0 : Int32))), (4, .ref (ad k2)), (0, .ref (ad 0)), (1, .int a1), (2, .int a2), (3, .int a3)]) hx hb dX9_odds_46 hl (by decide) rfl (fun ls hl => ?_)
        refine lv_iconst (v := (0 : Int32)) hx hb dX9_odds_48 (by decide) ?_
        refine lv_istore (lv' := [(6, .int ((0 : Int32))), (5, .int ((0 : Int32))), (4, .ref (ad k2)), (0, .ref (ad 0)), (1, .int a1), (2, .int a2), (3, .int a3)]) hx hb dX9_odds_49 hl (by decide) rfl (fun ls hl => ?_)
        exact kl_X9_odds_51 C _ h X (lv_sub hl [3, 5, 6, 1, 0] rfl) 
      · have h := ip h c7
        refine lv_ldc (v := (-1000000002 : Int32)) hx hb C.1.2.2.2.2.2.1 (C.1.2.2.2.2.2.2 _ (ws_in wd_440)) dX9_odds_36 ?_
        exact rt_i C X rfl (Option.some.inj h) dX9_odds_38

def rmX9_strong : Room := { frames := 5, cells := 0, slots := 0, locals := 118 }
def b_X9_strong_37 (K37 : Int32 → Nat → Int32 → ST → Option (Int32 × ST)) (v2 : Int32) (v3 : Nat) (v4 : Int32) (S : ST) : Option (Int32 × ST) :=
  bn1 (f_X6_most ((2 : Int32)) S) fun r8 => if r8 < v4 then (some ((-1 : Int32), S)) else (bn1 (f_X6_number v3 ((0 : Int32)) S) fun r10 => bn1 (f_X1_left v2 r10 v4 S) fun r11 => if r11 < 0 then (nm (v4 + (1 : Int32)) fun x13 => K37 v2 v3 x13 S) else (some (v4, S)))
def f_X9_strong (a1 : Int32) (a2 : Int32) (S : ST) : Option (Int32 × ST) :=
  bn1 (f_X9_swingerAt a1 S) fun r1 => om r1 (some ((-1000000001 : Int32), S)) fun k2 => bn1 (f_X9_within a2 ((1 : Int32)) ((200 : Int32))) fun r4 => if r4 = 0 then (some ((-1000000002 : Int32), S)) else (bn1 (f_X9_traceNow S) fun S6 => bn1 (f_X6_least ((2 : Int32)) S6) fun r7 => lp (fun _ _ _ _ => none) (b_X9_strong_37) 1000 a2 k2 r7 S6)
set_option maxHeartbeats 4000000 in
set_option maxRecDepth 100000 in
theorem kb_X9_strong_37 {p : Program} {l : Launch} {e : Env} {s : State} {m : MethodId} {args : Array Value} {below : List Frame} {meth : Method} {c : Code} {g : GG} {ad : Nat → Nat} {res : (Int32 × ST)} {S : ST} (C : CX kC g ad p s m args meth c cX9_strong (some Jvm.ClassFile.FieldType.int) 5 yX9_strong.cls (.code yX9_strong cX9_strong 5 (some Jvm.ClassFile.FieldType.int))) {K37 : Int32 → Nat → Int32 → ST → Option (Int32 × ST)} (hK37 : ∀ {v2 : Int32} {v3 : Nat} {v4 : Int32} {S : ST} {H : Heap} {locs : List Loc} {ls : Array Slot}, K37 v2 v3 v4 S = some res → WX kC g ad s S H locs → lv_has ls 5 [(0, .ref (ad 0)), (2, .int v2), (3, .ref (ad v3)), (4, .int v4)] → (swk v3 = true) → W p l e rmX9_strong s m args below meth c H locs 0 0 (MQ below (QI kC g ad res (AA kC ad s.heap.size)) args s 0 0 (AA kC ad s.heap.size)) (F0 m 37 ls [])) {v2 : Int32} {v3 : Nat} {v4 : Int32}  {H : Heap} {locs : List Loc} {ls : Array Slot} (h : b_X9_strong_37 K37 v2 v3 v4 S = some res) (X : WX kC g ad s S H locs) (hl : lv_has ls 5 [(0, .ref (ad 0)), (2, .int v2), (3, .ref (ad v3)), (4, .int v4)]) (g3 : swk v3 = true) : W p l e rmX9_strong s m args below meth c H locs 0 0 (MQ below (QI kC g ad res (AA kC ad s.heap.size)) args s 0 0 (AA kC ad s.heap.size)) (F0 m 37 ls []) := by
  have hx := C.1.1
  have hb := C.1.2.1
  have h : (bn1 (f_X6_most ((2 : Int32)) S) fun r8 => if r8 < v4 then (some ((-1 : Int32), S)) else (bn1 (f_X6_number v3 ((0 : Int32)) S) fun r10 => bn1 (f_X1_left v2 r10 v4 S) fun r11 => if r11 < 0 then (nm (v4 + (1 : Int32)) fun x13 => K37 v2 v3 x13 S) else (some (v4, S))) : Option (Int32 × ST)) = some res := h
  refine lv_iload hx hb dX9_strong_37 (lv_at hl 3 rfl) ?_
  refine lv_iconst (v := (2 : Int32)) hx hb dX9_strong_39 (by decide) ?_
  obtain ⟨r8, qr8, h⟩ := bn1_s h
  refine kc_i X (res := (r8, S)) (rS (As := [.int ((2 : Int32))]) (rest := [.int v4]) (n := 1) C X (c_X6_most l g ad S _ ((2 : Int32))  qr8) wd_867 wd_627 wd_77 wd_628 rfl rfl (by decide +kernel) ⟨Nat.le_of_ble_eq_true rfl, Nat.le_of_ble_eq_true rfl⟩ rfl hl.1 (lv_room (Nat.le_of_ble_eq_true rfl)) dX9_strong_40) (fun H locs X => ?_)
  refine lv_icmp_gt (tgt := 73) hx hb dX9_strong_43 (by decide) (fun c9 => ?_) (fun c9 => ?_)
  · have h := ip h c9
    refine lv_iconst (v := (-1 : Int32)) hx hb dX9_strong_73 (by decide) ?_
    exact rt_i C X rfl (Option.some.inj h) dX9_strong_74
  · have h := inn h c9
    refine lv_aload_n hx hb dX9_strong_46 rfl (lv_at hl 0 rfl) ?_
    refine g_get C X inT9 0 (by decide) (eC_0 g ad S) rfl 9 (by decide) wd_402 (v := .ref (ad 42)) rfl dX9_strong_47 ?_
    refine lv_iload_n hx hb dX9_strong_50 rfl (lv_at hl 1 rfl) ?_
    refine lv_aload_n hx hb dX9_strong_51 rfl (lv_at hl 2 rfl) ?_
    refine lv_iconst (v := (0 : Int32)) hx hb dX9_strong_52 (by decide) ?_
    obtain ⟨r10, qr10, h⟩ := bn1_s h
    refine kc_i X (res := (r10, S)) (rV (As := [.int ((0 : Int32))]) (rest := [.int v2, .ref (ad 42)]) (n := 1) (k := v3) C X (c_X6_number l g ad S _ v3 ((0 : Int32)) g3 qr10) wd_676 wd_677 wd_678 wd_77 wd_679 (lt_sw g3) (e_sw g ad S g3) rfl rfl rfl (by decide +kernel) ⟨Nat.le_of_ble_eq_true rfl, Nat.le_of_ble_eq_true rfl⟩ rfl hl.1 (lv_room (Nat.le_of_ble_eq_true rfl)) dX9_strong_53) (fun H locs X => ?_)
    refine lv_iload hx hb dX9_strong_56 (lv_at hl 3 rfl) ?_
    obtain ⟨r11, qr11, h⟩ := bn1_s h
    refine kc_i X (res := (r11, S)) (rV (As := [.int v2, .int r10, .int v4]) (rest := []) (n := 3) (k := 42) C X (c_X1_left l g ad S _ v2 r10 v4  qr11) wd_774 wd_775 wd_776 wd_80 wd_777 (by decide) (eC_42 g ad S) rfl rfl rfl (by decide +kernel) ⟨Nat.le_of_ble_eq_true rfl, Nat.le_of_ble_eq_true rfl⟩ rfl hl.1 (lv_room (Nat.le_of_ble_eq_true rfl)) dX9_strong_58) (fun H locs X => ?_)
    refine lv_if_lt (tgt := 67) hx hb dX9_strong_61 (by decide) (fun c12 => ?_) (fun c12 => ?_)
    · have h := ip h c12
      obtain ⟨x13, ex13, h⟩ := nm_s h
      refine lv_iinc (v := x13) (lv' := [(4, .int x13), (0, .ref (ad 0)), (2, .int v2), (3, .ref (ad v3))]) hx hb dX9_strong_67 hl (k := 3) rfl (by rw [ex13]; rfl) (by decide) rfl (fun ls hl => ?_)
      refine lv_goto (tgt := 37) hx hb dX9_strong_70 (by decide) ?_
      exact hK37 h X (lv_sub hl [1, 2, 3, 0] rfl) g3
    · have h := inn h c12
      refine lv_iload hx hb dX9_strong_64 (lv_at hl 3 rfl) ?_
      exact rt_i C X rfl (Option.some.inj h) dX9_strong_66
set_option maxHeartbeats 4000000 in
set_option maxRecDepth 100000 in
theorem kl_X9_strong_37 {p : Program} {l : Launch} {e : Env} {s : State} {m : MethodId} {args : Array Value} {below : List Frame} {meth : Method} {c : Code} {g : GG} {ad : Nat → Nat} {res : (Int32 × ST)}  (C : CX kC g ad p s m args meth c cX9_strong (some Jvm.ClassFile.FieldType.int) 5 yX9_strong.cls (.code yX9_strong cX9_strong 5 (some Jvm.ClassFile.FieldType.int)))  : ∀ (n : Nat) {v2 : Int32} {v3 : Nat} {v4 : Int32} {S : ST} {H : Heap} {locs : List Loc} {ls : Array Slot}, (lp (fun _ _ _ _ => none) (b_X9_strong_37)) n v2 v3 v4 S = some res → WX kC g ad s S H locs → lv_has ls 5 [(0, .ref (ad 0)), (2, .int v2), (3, .ref (ad v3)), (4, .int v4)] → (swk v3 = true) → W p l e rmX9_strong s m args below meth c H locs 0 0 (MQ below (QI kC g ad res (AA kC ad s.heap.size)) args s 0 0 (AA kC ad s.heap.size)) (F0 m 37 ls []) := by
  intro n
  induction n with
  | zero =>
    intro v2 v3 v4 S H locs ls h
    cases (show (none : Option (Int32 × ST)) = some res from h)
  | succ n ih =>
    intro v2 v3 v4 S H locs ls h X hl g3
    exact kb_X9_strong_37 C ih h X hl g3
set_option maxHeartbeats 4000000 in
set_option maxRecDepth 100000 in
theorem c_X9_strong (l : Launch) (g : GG) (ad : Nat → Nat) (S : ST) (sz : Nat) (a1 : Int32) (a2 : Int32)  {res : (Int32 × ST)} (h : f_X9_strong a1 a2 S = some res) : Met l yX9_strong (WS (.code yX9_strong cX9_strong 5 (some Jvm.ClassFile.FieldType.int))) rmX9_strong (va_Pc [.ref (ad 0), .int a1, .int a2] (PW kC g ad S sz)) (QI kC g ad res (AA kC ad sz)) 0 0 (AA kC ad sz) := by
  refine go_m (Qc := fun A => QI kC g ad res A) (by decide) (Nat.le_of_ble_eq_true rfl) (fun p e s m below meth c ls H locs C X hl => ?_)
  have hx := C.1.1
  have hb := C.1.2.1
  have hl : lv_has ls 5 [(0, .ref (ad 0)), (1, .int a1), (2, .int a2)] := hl
  have h : (bn1 (f_X9_swingerAt a1 S) fun r1 => om r1 (some ((-1000000001 : Int32), S)) fun k2 => bn1 (f_X9_within a2 ((1 : Int32)) ((200 : Int32))) fun r4 => if r4 = 0 then (some ((-1000000002 : Int32), S)) else (bn1 (f_X9_traceNow S) fun S6 => bn1 (f_X6_least ((2 : Int32)) S6) fun r7 => lp (fun _ _ _ _ => none) (b_X9_strong_37) 1000 a2 k2 r7 S6) : Option (Int32 × ST)) = some res := h
  refine lv_aload_n hx hb dX9_strong_0 rfl (lv_at hl 0 rfl) ?_
  refine lv_iload_n hx hb dX9_strong_1 rfl (lv_at hl 1 rfl) ?_
  obtain ⟨r1, qr1, h⟩ := bn1_s h
  refine kc_q X (res := (r1, S)) (rV (As := [.int a1]) (rest := []) (n := 1) (k := 0) C X (c_X9_swingerAt l g ad S _ a1  qr1) wd_671 wd_673 wd_12 wd_70 wd_674 (by decide) (eC_0 g ad S) rfl rfl rfl (by decide +kernel) ⟨Nat.le_of_ble_eq_true rfl, Nat.le_of_ble_eq_true rfl⟩ rfl hl.1 (lv_room (Nat.le_of_ble_eq_true rfl)) dX9_strong_2) (fun H locs X => ?_)
  cases r1 with
  | none =>
    have h := om_n h
    refine lv_astore_nN (lv' := [(3, .null), (0, .ref (ad 0)), (1, .int a1), (2, .int a2)]) hx hb dX9_strong_5 rfl hl (by decide) rfl (fun ls hl => ?_)
    refine lv_aload_nN hx hb dX9_strong_6 rfl (lv_at hl 0 rfl) ?_
    refine lv_ifnonnullN hx hb dX9_strong_7 ?_
    refine lv_ldc (v := (-1000000001 : Int32)) hx hb C.1.2.2.2.2.2.1 (C.1.2.2.2.2.2.2 _ (ws_in wd_644)) dX9_strong_10 ?_
    exact rt_i C X rfl (Option.some.inj h) dX9_strong_12
  | some k2 =>
    have h := om_s h
    have y3 : swk k2 = true := ok_X9_swingerAt qr1
    refine lv_astore_n (lv' := [(3, .ref (ad k2)), (0, .ref (ad 0)), (1, .int a1), (2, .int a2)]) hx hb dX9_strong_5 rfl hl (by decide) rfl (fun ls hl => ?_)
    refine lv_aload_n hx hb dX9_strong_6 rfl (lv_at hl 0 rfl) ?_
    refine lv_ifnonnull (tgt := 13) hx hb dX9_strong_7 (by decide) ?_
    refine lv_iload_n hx hb dX9_strong_13 rfl (lv_at hl 3 rfl) ?_
    refine lv_iconst (v := (1 : Int32)) hx hb dX9_strong_14 (by decide) ?_
    refine lv_sipush (v := (200 : Int32)) hx hb dX9_strong_15 (by decide) ?_
    obtain ⟨r4, qr4, h⟩ := bn1_s h
    refine kc_i X (res := (r4, S)) (rS (As := [.int a2, .int ((1 : Int32)), .int ((200 : Int32))]) (rest := []) (n := 3) C X (c_X9_within l g ad S _ a2 ((1 : Int32)) ((200 : Int32))  qr4) wd_675 wd_564 wd_70 wd_565 rfl rfl (by decide +kernel) ⟨Nat.le_of_ble_eq_true rfl, Nat.le_of_ble_eq_true rfl⟩ rfl hl.1 (lv_room (Nat.le_of_ble_eq_true rfl)) dX9_strong_18) (fun H locs X => ?_)
    refine lv_if_ne (tgt := 27) hx hb dX9_strong_21 (by decide) (fun c5 => ?_) (fun c5 => ?_)
    · have h := inn h c5
      refine lv_aload_n hx hb dX9_strong_27 rfl (lv_at hl 1 rfl) ?_
      obtain ⟨S6, qS6, h⟩ := bn1_s h
      refine kc_v X (res := S6) (rV (As := []) (rest := []) (n := 0) (k := 0) C X (c_X9_traceNow l g ad S _   qS6) wd_722 wd_724 wd_16 wd_70 wd_725 (by decide) (eC_0 g ad S) rfl rfl rfl (by decide +kernel) ⟨Nat.le_of_ble_eq_true rfl, Nat.le_of_ble_eq_true rfl⟩ rfl hl.1 (lv_room (Nat.le_of_ble_eq_true rfl)) dX9_strong_28) (fun H locs X => ?_)
      refine lv_iconst (v := (2 : Int32)) hx hb dX9_strong_31 (by decide) ?_
      obtain ⟨r7, qr7, h⟩ := bn1_s h
      refine kc_i X (res := (r7, S6)) (rS (As := [.int ((2 : Int32))]) (rest := []) (n := 1) C X (c_X6_least l g ad S6 _ ((2 : Int32))  qr7) wd_866 wd_621 wd_77 wd_622 rfl rfl (by decide +kernel) ⟨Nat.le_of_ble_eq_true rfl, Nat.le_of_ble_eq_true rfl⟩ rfl hl.1 (lv_room (Nat.le_of_ble_eq_true rfl)) dX9_strong_32) (fun H locs X => ?_)
      refine lv_istore (lv' := [(4, .int r7), (3, .ref (ad k2)), (0, .ref (ad 0)), (1, .int a1), (2, .int a2)]) hx hb dX9_strong_35 hl (by decide) rfl (fun ls hl => ?_)
      exact kl_X9_strong_37 C _ h X (lv_sub hl [2, 4, 1, 0] rfl) y3
    · have h := ip h c5
      refine lv_ldc (v := (-1000000002 : Int32)) hx hb C.1.2.2.2.2.2.1 (C.1.2.2.2.2.2.2 _ (ws_in wd_440)) dX9_strong_24 ?_
      exact rt_i C X rfl (Option.some.inj h) dX9_strong_26

def rmX9_heavy : Room := { frames := 5, cells := 0, slots := 0, locals := 118 }
def b_X9_heavy_22 (K22 : Int32 → Int32 → ST → Option (Int32 × ST)) (v2 : Int32) (v3 : Int32) (S : ST) : Option (Int32 × ST) :=
  bn1 (f_X6_least ((0 : Int32)) S) fun r5 => if v3 < r5 then (some ((-1 : Int32), S)) else (bn1 (f_X1_hardestPull v3 S) fun r7 => if v2 < r7 then (nm (v3 + (-1 : Int32)) fun x9 => K22 v2 x9 S) else (some (v3, S)))
def f_X9_heavy  (S : ST) : Option (Int32 × ST) :=
  bn1 (f_X9_traceNow S) fun S1 => bn1 (f_X5_inHand ((2 : Int32)) S1) fun r2 => bn1 (f_X9_strengthAfter r2 S1) fun r3 => bn1 (f_X6_most ((0 : Int32)) S1) fun r4 => lp (fun _ _ _ => none) (b_X9_heavy_22) 1000 r3 r4 S1
set_option maxHeartbeats 4000000 in
set_option maxRecDepth 100000 in
theorem kb_X9_heavy_22 {p : Program} {l : Launch} {e : Env} {s : State} {m : MethodId} {args : Array Value} {below : List Frame} {meth : Method} {c : Code} {g : GG} {ad : Nat → Nat} {res : (Int32 × ST)} {S : ST} (C : CX kC g ad p s m args meth c cX9_heavy (some Jvm.ClassFile.FieldType.int) 3 yX9_heavy.cls (.code yX9_heavy cX9_heavy 3 (some Jvm.ClassFile.FieldType.int))) {K22 : Int32 → Int32 → ST → Option (Int32 × ST)} (hK22 : ∀ {v2 : Int32} {v3 : Int32} {S : ST} {H : Heap} {locs : List Loc} {ls : Array Slot}, K22 v2 v3 S = some res → WX kC g ad s S H locs → lv_has ls 3 [(0, .ref (ad 0)), (1, .int v2), (2, .int v3)] → W p l e rmX9_heavy s m args below meth c H locs 0 0 (MQ below (QI kC g ad res (AA kC ad s.heap.size)) args s 0 0 (AA kC ad s.heap.size)) (F0 m 22 ls [])) {v2 : Int32} {v3 : Int32}  {H : Heap} {locs : List Loc} {ls : Array Slot} (h : b_X9_heavy_22 K22 v2 v3 S = some res) (X : WX kC g ad s S H locs) (hl : lv_has ls 3 [(0, .ref (ad 0)), (1, .int v2), (2, .int v3)])  : W p l e rmX9_heavy s m args below meth c H locs 0 0 (MQ below (QI kC g ad res (AA kC ad s.heap.size)) args s 0 0 (AA kC ad s.heap.size)) (F0 m 22 ls []) := by
  have hx := C.1.1
  have hb := C.1.2.1
  have h : (bn1 (f_X6_least ((0 : Int32)) S) fun r5 => if v3 < r5 then (some ((-1 : Int32), S)) else (bn1 (f_X1_hardestPull v3 S) fun r7 => if v2 < r7 then (nm (v3 + (-1 : Int32)) fun x9 => K22 v2 x9 S) else (some (v3, S))) : Option (Int32 × ST)) = some res := h
  refine lv_iload_n hx hb dX9_heavy_22 rfl (lv_at hl 2 rfl) ?_
  refine lv_iconst (v := (0 : Int32)) hx hb dX9_heavy_23 (by decide) ?_
  obtain ⟨r5, qr5, h⟩ := bn1_s h
  refine kc_i X (res := (r5, S)) (rS (As := [.int ((0 : Int32))]) (rest := [.int v3]) (n := 1) C X (c_X6_least l g ad S _ ((0 : Int32))  qr5) wd_866 wd_621 wd_77 wd_622 rfl rfl (by decide +kernel) ⟨Nat.le_of_ble_eq_true rfl, Nat.le_of_ble_eq_true rfl⟩ rfl hl.1 (lv_room (Nat.le_of_ble_eq_true rfl)) dX9_heavy_24) (fun H locs X => ?_)
  refine lv_icmp_lt (tgt := 50) hx hb dX9_heavy_27 (by decide) (fun c6 => ?_) (fun c6 => ?_)
  · have h := ip h c6
    refine lv_iconst (v := (-1 : Int32)) hx hb dX9_heavy_50 (by decide) ?_
    exact rt_i C X rfl (Option.some.inj h) dX9_heavy_51
  · have h := inn h c6
    refine lv_aload_n hx hb dX9_heavy_30 rfl (lv_at hl 0 rfl) ?_
    refine g_get C X inT9 0 (by decide) (eC_0 g ad S) rfl 9 (by decide) wd_402 (v := .ref (ad 42)) rfl dX9_heavy_31 ?_
    refine lv_iload_n hx hb dX9_heavy_34 rfl (lv_at hl 2 rfl) ?_
    obtain ⟨r7, qr7, h⟩ := bn1_s h
    refine kc_i X (res := (r7, S)) (rV (As := [.int v3]) (rest := []) (n := 1) (k := 42) C X (c_X1_hardestPull l g ad S _ v3  qr7) wd_872 wd_873 wd_874 wd_80 wd_875 (by decide) (eC_42 g ad S) rfl rfl rfl (by decide +kernel) ⟨Nat.le_of_ble_eq_true rfl, Nat.le_of_ble_eq_true rfl⟩ rfl hl.1 (lv_room (Nat.le_of_ble_eq_true rfl)) dX9_heavy_35) (fun H locs X => ?_)
    refine lv_iload_n hx hb dX9_heavy_38 rfl (lv_at hl 1 rfl) ?_
    refine lv_icmp_gt (tgt := 44) hx hb dX9_heavy_39 (by decide) (fun c8 => ?_) (fun c8 => ?_)
    · have h := ip h c8
      obtain ⟨x9, ex9, h⟩ := nm_s h
      refine lv_iinc (v := x9) (lv' := [(2, .int x9), (0, .ref (ad 0)), (1, .int v2)]) hx hb dX9_heavy_44 hl (k := 2) rfl (by rw [ex9]; rfl) (by decide) rfl (fun ls hl => ?_)
      refine lv_goto (tgt := 22) hx hb dX9_heavy_47 (by decide) ?_
      exact hK22 h X (lv_sub hl [1, 2, 0] rfl) 
    · have h := inn h c8
      refine lv_iload_n hx hb dX9_heavy_42 rfl (lv_at hl 2 rfl) ?_
      exact rt_i C X rfl (Option.some.inj h) dX9_heavy_43
set_option maxHeartbeats 4000000 in
set_option maxRecDepth 100000 in
theorem kl_X9_heavy_22 {p : Program} {l : Launch} {e : Env} {s : State} {m : MethodId} {args : Array Value} {below : List Frame} {meth : Method} {c : Code} {g : GG} {ad : Nat → Nat} {res : (Int32 × ST)}  (C : CX kC g ad p s m args meth c cX9_heavy (some Jvm.ClassFile.FieldType.int) 3 yX9_heavy.cls (.code yX9_heavy cX9_heavy 3 (some Jvm.ClassFile.FieldType.int)))  : ∀ (n : Nat) {v2 : Int32} {v3 : Int32} {S : ST} {H : Heap} {locs : List Loc} {ls : Array Slot}, (lp (fun _ _ _ => none) (b_X9_heavy_22)) n v2 v3 S = some res → WX kC g ad s S H locs → lv_has ls 3 [(0, .ref (ad 0)), (1, .int v2), (2, .int v3)] → W p l e rmX9_heavy s m args below meth c H locs 0 0 (MQ below (QI kC g ad res (AA kC ad s.heap.size)) args s 0 0 (AA kC ad s.heap.size)) (F0 m 22 ls []) := by
  intro n
  induction n with
  | zero =>
    intro v2 v3 S H locs ls h
    cases (show (none : Option (Int32 × ST)) = some res from h)
  | succ n ih =>
    intro v2 v3 S H locs ls h X hl 
    exact kb_X9_heavy_22 C ih h X hl 
set_option maxHeartbeats 4000000 in
set_option maxRecDepth 100000 in
theorem c_X9_heavy (l : Launch) (g : GG) (ad : Nat → Nat) (S : ST) (sz : Nat)   {res : (Int32 × ST)} (h : f_X9_heavy S = some res) : Met l yX9_heavy (WS (.code yX9_heavy cX9_heavy 3 (some Jvm.ClassFile.FieldType.int))) rmX9_heavy (va_Pc [.ref (ad 0)] (PW kC g ad S sz)) (QI kC g ad res (AA kC ad sz)) 0 0 (AA kC ad sz) := by
  refine go_m (Qc := fun A => QI kC g ad res A) (by decide) (Nat.le_of_ble_eq_true rfl) (fun p e s m below meth c ls H locs C X hl => ?_)
  have hx := C.1.1
  have hb := C.1.2.1
  have hl : lv_has ls 3 [(0, .ref (ad 0))] := hl
  have h : (bn1 (f_X9_traceNow S) fun S1 => bn1 (f_X5_inHand ((2 : Int32)) S1) fun r2 => bn1 (f_X9_strengthAfter r2 S1) fun r3 => bn1 (f_X6_most ((0 : Int32)) S1) fun r4 => lp (fun _ _ _ => none) (b_X9_heavy_22) 1000 r3 r4 S1 : Option (Int32 × ST)) = some res := h
  refine lv_aload_n hx hb dX9_heavy_0 rfl (lv_at hl 0 rfl) ?_
  obtain ⟨S1, qS1, h⟩ := bn1_s h
  refine kc_v X (res := S1) (rV (As := []) (rest := []) (n := 0) (k := 0) C X (c_X9_traceNow l g ad S _   qS1) wd_722 wd_724 wd_16 wd_70 wd_725 (by decide) (eC_0 g ad S) rfl rfl rfl (by decide +kernel) ⟨Nat.le_of_ble_eq_true rfl, Nat.le_of_ble_eq_true rfl⟩ rfl hl.1 (lv_room (Nat.le_of_ble_eq_true rfl)) dX9_heavy_1) (fun H locs X => ?_)
  refine lv_aload_n hx hb dX9_heavy_4 rfl (lv_at hl 0 rfl) ?_
  refine lv_aload_n hx hb dX9_heavy_5 rfl (lv_at hl 0 rfl) ?_
  refine g_get C X inT9 0 (by decide) (eC_0 g ad S1) rfl 6 (by decide) wd_399 (v := .ref (ad 31)) rfl dX9_heavy_6 ?_
  refine lv_iconst (v := (2 : Int32)) hx hb dX9_heavy_9 (by decide) ?_
  obtain ⟨r2, qr2, h⟩ := bn1_s h
  refine kc_i X (res := (r2, S1)) (rV (As := [.int ((2 : Int32))]) (rest := [.ref (ad 0)]) (n := 1) (k := 31) C X (c_X5_inHand l g ad S1 _ ((2 : Int32))  qr2) wd_653 wd_654 wd_655 wd_78 wd_656 (by decide) (eC_31 g ad S1) rfl rfl rfl (by decide +kernel) ⟨Nat.le_of_ble_eq_true rfl, Nat.le_of_ble_eq_true rfl⟩ rfl hl.1 (lv_room (Nat.le_of_ble_eq_true rfl)) dX9_heavy_10) (fun H locs X => ?_)
  obtain ⟨r3, qr3, h⟩ := bn1_s h
  refine kc_i X (res := (r3, S1)) (rV (As := [.int r2]) (rest := []) (n := 1) (k := 0) C X (c_X9_strengthAfter l g ad S1 _ r2  qr3) wd_701 wd_703 wd_15 wd_70 wd_704 (by decide) (eC_0 g ad S1) rfl rfl rfl (by decide +kernel) ⟨Nat.le_of_ble_eq_true rfl, Nat.le_of_ble_eq_true rfl⟩ rfl hl.1 (lv_room (Nat.le_of_ble_eq_true rfl)) dX9_heavy_13) (fun H locs X => ?_)
  refine lv_istore_n (lv' := [(1, .int r3), (0, .ref (ad 0))]) hx hb dX9_heavy_16 rfl hl (by decide) rfl (fun ls hl => ?_)
  refine lv_iconst (v := (0 : Int32)) hx hb dX9_heavy_17 (by decide) ?_
  obtain ⟨r4, qr4, h⟩ := bn1_s h
  refine kc_i X (res := (r4, S1)) (rS (As := [.int ((0 : Int32))]) (rest := []) (n := 1) C X (c_X6_most l g ad S1 _ ((0 : Int32))  qr4) wd_867 wd_627 wd_77 wd_628 rfl rfl (by decide +kernel) ⟨Nat.le_of_ble_eq_true rfl, Nat.le_of_ble_eq_true rfl⟩ rfl hl.1 (lv_room (Nat.le_of_ble_eq_true rfl)) dX9_heavy_18) (fun H locs X => ?_)
  refine lv_istore_n (lv' := [(2, .int r4), (1, .int r3), (0, .ref (ad 0))]) hx hb dX9_heavy_21 rfl hl (by decide) rfl (fun ls hl => ?_)
  exact kl_X9_heavy_22 C _ h X (lv_sub hl [2, 1, 0] rfl) 

def rmX9_may : Room := { frames := 5, cells := 0, slots := 0, locals := 119 }
def b_X9_may_4 (K4 : Int32 → Int32 → ST → Option (Int32 × ST)) (v2 : Int32) (v3 : Int32) (S : ST) : Option (Int32 × ST) :=
  if (S.1 0 5) ≤ v3 then (some (v2, S)) else (bn1 (f_X9_swingerAt v3 S) fun r2 => om r2 (nm (v3 + (1 : Int32)) fun x5 => K4 v2 x5 S) fun k3 => bn1 (f_X9_ready k3 S) fun S6 => bnd (f_X0_hasGoodTime S6) fun r8 S7 => if r8 = 0 then (nm (v2 ||| ((0 : Int32))) fun x10 => nm (v3 + (1 : Int32)) fun x11 => K4 x10 x11 S7) else (nm (v2 ||| (((1 : Int32)) <<< (v3 &&& 31))) fun x12 => nm (v3 + (1 : Int32)) fun x13 => K4 x12 x13 S7))
def f_X9_may  (S : ST) : Option (Int32 × ST) :=
  lp (fun _ _ _ => none) (b_X9_may_4) 1000 ((0 : Int32)) ((0 : Int32)) S
set_option maxHeartbeats 4000000 in
set_option maxRecDepth 100000 in
theorem kb_X9_may_4 {p : Program} {l : Launch} {e : Env} {s : State} {m : MethodId} {args : Array Value} {below : List Frame} {meth : Method} {c : Code} {g : GG} {ad : Nat → Nat} {res : (Int32 × ST)} {S : ST} (C : CX kC g ad p s m args meth c cX9_may (some Jvm.ClassFile.FieldType.int) 4 yX9_may.cls (.code yX9_may cX9_may 4 (some Jvm.ClassFile.FieldType.int))) {K4 : Int32 → Int32 → ST → Option (Int32 × ST)} (hK4 : ∀ {v2 : Int32} {v3 : Int32} {S : ST} {H : Heap} {locs : List Loc} {ls : Array Slot}, K4 v2 v3 S = some res → WX kC g ad s S H locs → lv_has ls 4 [(0, .ref (ad 0)), (1, .int v2), (2, .int v3)] → W p l e rmX9_may s m args below meth c H locs 0 0 (MQ below (QI kC g ad res (AA kC ad s.heap.size)) args s 0 0 (AA kC ad s.heap.size)) (F0 m 4 ls [])) {v2 : Int32} {v3 : Int32}  {H : Heap} {locs : List Loc} {ls : Array Slot} (h : b_X9_may_4 K4 v2 v3 S = some res) (X : WX kC g ad s S H locs) (hl : lv_has ls 4 [(0, .ref (ad 0)), (1, .int v2), (2, .int v3)])  : W p l e rmX9_may s m args below meth c H locs 0 0 (MQ below (QI kC g ad res (AA kC ad s.heap.size)) args s 0 0 (AA kC ad s.heap.size)) (F0 m 4 ls []) := by
  have hx := C.1.1
  have hb := C.1.2.1
  have h : (if (S.1 0 5) ≤ v3 then (some (v2, S)) else (bn1 (f_X9_swingerAt v3 S) fun r2 => om r2 (nm (v3 + (1 : Int32)) fun x5 => K4 v2 x5 S) fun k3 => bn1 (f_X9_ready k3 S) fun S6 => bnd (f_X0_hasGoodTime S6) fun r8 S7 => if r8 = 0 then (nm (v2 ||| ((0 : Int32))) fun x10 => nm (v3 + (1 : Int32)) fun x11 => K4 x10 x11 S7) else (nm (v2 ||| (((1 : Int32)) <<< (v3 &&& 31))) fun x12 => nm (v3 + (1 : Int32)) fun x13 => K4 x12 x13 S7)) : Option (Int32 × ST)) = some res := h
  refine lv_iload_n hx hb dX9_may_4 rfl (lv_at hl 2 rfl) ?_
  refine lv_aload_n hx hb dX9_may_5 rfl (lv_at hl 0 rfl) ?_
  refine g_get C X inT9 0 (by decide) (eC_0 g ad S) rfl 5 (by decide) wd_398 (v := .int (S.1 0 5)) rfl dX9_may_6 ?_
  refine lv_icmp_ge (tgt := 53) hx hb dX9_may_9 (by decide) (fun c1 => ?_) (fun c1 => ?_)
  · have h := ip h c1
    refine lv_iload_n hx hb dX9_may_53 rfl (lv_at hl 1 rfl) ?_
    exact rt_i C X rfl (Option.some.inj h) dX9_may_54
  · have h := inn h c1
    refine lv_aload_n hx hb dX9_may_12 rfl (lv_at hl 0 rfl) ?_
    refine lv_iload_n hx hb dX9_may_13 rfl (lv_at hl 2 rfl) ?_
    obtain ⟨r2, qr2, h⟩ := bn1_s h
    refine kc_q X (res := (r2, S)) (rV (As := [.int v3]) (rest := []) (n := 1) (k := 0) C X (c_X9_swingerAt l g ad S _ v3  qr2) wd_671 wd_673 wd_12 wd_70 wd_674 (by decide) (eC_0 g ad S) rfl rfl rfl (by decide +kernel) ⟨Nat.le_of_ble_eq_true rfl, Nat.le_of_ble_eq_true rfl⟩ rfl hl.1 (lv_room (Nat.le_of_ble_eq_true rfl)) dX9_may_14) (fun H locs X => ?_)
    cases r2 with
    | none =>
      have h := om_n h
      refine lv_astore_nN (lv' := [(3, .null), (0, .ref (ad 0)), (1, .int v2), (2, .int v3)]) hx hb dX9_may_17 rfl hl (by decide) rfl (fun ls hl => ?_)
      refine lv_aload_nN hx hb dX9_may_18 rfl (lv_at hl 0 rfl) ?_
      refine lv_ifnullN (tgt := 47) hx hb dX9_may_19 (by decide) ?_
      obtain ⟨x5, ex5, h⟩ := nm_s h
      refine lv_iinc (v := x5) (lv' := [(2, .int x5), (3, .null), (0, .ref (ad 0)), (1, .int v2)]) hx hb dX9_may_47 hl (k := 3) rfl (by rw [ex5]; rfl) (by decide) rfl (fun ls hl => ?_)
      refine lv_goto (tgt := 4) hx hb dX9_may_50 (by decide) ?_
      exact hK4 h X (lv_sub hl [2, 3, 0] rfl) 
    | some k3 =>
      have h := om_s h
      have y4 : swk k3 = true := ok_X9_swingerAt qr2
      refine lv_astore_n (lv' := [(3, .ref (ad k3)), (0, .ref (ad 0)), (1, .int v2), (2, .int v3)]) hx hb dX9_may_17 rfl hl (by decide) rfl (fun ls hl => ?_)
      refine lv_aload_n hx hb dX9_may_18 rfl (lv_at hl 0 rfl) ?_
      refine lv_ifnull hx hb dX9_may_19 ?_
      refine lv_aload_n hx hb dX9_may_22 rfl (lv_at hl 1 rfl) ?_
      refine lv_aload_n hx hb dX9_may_23 rfl (lv_at hl 0 rfl) ?_
      obtain ⟨S6, qS6, h⟩ := bn1_s h
      refine kc_v X (res := S6) (rV (As := [.ref (ad k3)]) (rest := []) (n := 1) (k := 0) C X (c_X9_ready l g ad S _ k3 y4 qS6) wd_784 wd_786 wd_18 wd_70 wd_787 (by decide) (eC_0 g ad S) rfl rfl rfl (by decide +kernel) ⟨Nat.le_of_ble_eq_true rfl, Nat.le_of_ble_eq_true rfl⟩ rfl hl.1 (lv_room (Nat.le_of_ble_eq_true rfl)) dX9_may_24) (fun H locs X => ?_)
      refine lv_iload_n hx hb dX9_may_27 rfl (lv_at hl 2 rfl) ?_
      refine lv_aload_n hx hb dX9_may_28 rfl (lv_at hl 1 rfl) ?_
      refine g_get C X inT9 0 (by decide) (eC_0 g ad S6) rfl 10 (by decide) wd_403 (v := .ref (ad 51)) rfl dX9_may_29 ?_
      obtain ⟨r8, S7, qr8, h⟩ := bnd_s h
      refine kc_i X (res := (r8, S7)) (rV (As := []) (rest := [.int v2]) (n := 0) (k := 51) C X (c_X0_hasGoodTime l g ad S6 _   qr8) wd_880 wd_881 wd_882 wd_81 wd_883 (by decide) (eC_51 g ad S6) rfl rfl rfl (by decide +kernel) ⟨Nat.le_of_ble_eq_true rfl, Nat.le_of_ble_eq_true rfl⟩ rfl hl.1 (lv_room (Nat.le_of_ble_eq_true rfl)) dX9_may_32) (fun H locs X => ?_)
      refine lv_if_eq (tgt := 44) hx hb dX9_may_35 (by decide) (fun c9 => ?_) (fun c9 => ?_)
      · have h := ip h c9
        refine lv_iconst (v := (0 : Int32)) hx hb dX9_may_44 (by decide) ?_
        refine lv_ior hx hb dX9_may_45 ?_
        obtain ⟨x10, ex10, h⟩ := nm_s h
        refine tp_i ex10 ?_
        refine lv_istore_n (lv' := [(1, .int x10), (3, .ref (ad k3)), (0, .ref (ad 0)), (2, .int v3)]) hx hb dX9_may_46 rfl hl (by decide) rfl (fun ls hl => ?_)
        obtain ⟨x11, ex11, h⟩ := nm_s h
        refine lv_iinc (v := x11) (lv' := [(2, .int x11), (1, .int x10), (3, .ref (ad k3)), (0, .ref (ad 0))]) hx hb dX9_may_47 hl (k := 3) rfl (by rw [ex11]; rfl) (by decide) rfl (fun ls hl => ?_)
        refine lv_goto (tgt := 4) hx hb dX9_may_50 (by decide) ?_
        exact hK4 h X (lv_sub hl [3, 1, 0] rfl) 
      · have h := inn h c9
        refine lv_iconst (v := (1 : Int32)) hx hb dX9_may_38 (by decide) ?_
        refine lv_iload_n hx hb dX9_may_39 rfl (lv_at hl 3 rfl) ?_
        refine lv_ishl hx hb dX9_may_40 ?_
        refine lv_goto (tgt := 45) hx hb dX9_may_41 (by decide) ?_
        refine lv_ior hx hb dX9_may_45 ?_
        obtain ⟨x12, ex12, h⟩ := nm_s h
        refine tp_i ex12 ?_
        refine lv_istore_n (lv' := [(1, .int x12), (3, .ref (ad k3)), (0, .ref (ad 0)), (2, .int v3)]) hx hb dX9_may_46 rfl hl (by decide) rfl (fun ls hl => ?_)
        obtain ⟨x13, ex13, h⟩ := nm_s h
        refine lv_iinc (v := x13) (lv' := [(2, .int x13), (1, .int x12), (3, .ref (ad k3)), (0, .ref (ad 0))]) hx hb dX9_may_47 hl (k := 3) rfl (by rw [ex13]; rfl) (by decide) rfl (fun ls hl => ?_)
        refine lv_goto (tgt := 4) hx hb dX9_may_50 (by decide) ?_
        exact hK4 h X (lv_sub hl [3, 1, 0] rfl) 
set_option maxHeartbeats 4000000 in
set_option maxRecDepth 100000 in
theorem kl_X9_may_4 {p : Program} {l : Launch} {e : Env} {s : State} {m : MethodId} {args : Array Value} {below : List Frame} {meth : Method} {c : Code} {g : GG} {ad : Nat → Nat} {res : (Int32 × ST)}  (C : CX kC g ad p s m args meth c cX9_may (some Jvm.ClassFile.FieldType.int) 4 yX9_may.cls (.code yX9_may cX9_may 4 (some Jvm.ClassFile.FieldType.int)))  : ∀ (n : Nat) {v2 : Int32} {v3 : Int32} {S : ST} {H : Heap} {locs : List Loc} {ls : Array Slot}, (lp (fun _ _ _ => none) (b_X9_may_4)) n v2 v3 S = some res → WX kC g ad s S H locs → lv_has ls 4 [(0, .ref (ad 0)), (1, .int v2), (2, .int v3)] → W p l e rmX9_may s m args below meth c H locs 0 0 (MQ below (QI kC g ad res (AA kC ad s.heap.size)) args s 0 0 (AA kC ad s.heap.size)) (F0 m 4 ls []) := by
  intro n
  induction n with
  | zero =>
    intro v2 v3 S H locs ls h
    cases (show (none : Option (Int32 × ST)) = some res from h)
  | succ n ih =>
    intro v2 v3 S H locs ls h X hl 
    exact kb_X9_may_4 C ih h X hl 
set_option maxHeartbeats 4000000 in
set_option maxRecDepth 100000 in
theorem c_X9_may (l : Launch) (g : GG) (ad : Nat → Nat) (S : ST) (sz : Nat)   {res : (Int32 × ST)} (h : f_X9_may S = some res) : Met l yX9_may (WS (.code yX9_may cX9_may 4 (some Jvm.ClassFile.FieldType.int))) rmX9_may (va_Pc [.ref (ad 0)] (PW kC g ad S sz)) (QI kC g ad res (AA kC ad sz)) 0 0 (AA kC ad sz) := by
  refine go_m (Qc := fun A => QI kC g ad res A) (by decide) (Nat.le_of_ble_eq_true rfl) (fun p e s m below meth c ls H locs C X hl => ?_)
  have hx := C.1.1
  have hb := C.1.2.1
  have hl : lv_has ls 4 [(0, .ref (ad 0))] := hl
  have h : (lp (fun _ _ _ => none) (b_X9_may_4) 1000 ((0 : Int32)) ((0 : Int32)) S : Option (Int32 × ST)) = some res := h
  refine lv_iconst (v := (0 : Int32)) hx hb dX9_may_0 (by decide) ?_
  refine lv_istore_n (lv' := [(1, .int ((0 : Int32))), (0, .ref (ad 0))]) hx hb dX9_may_1 rfl hl (by decide) rfl (fun ls hl => ?_)
  refine lv_iconst (v := (0 : Int32)) hx hb dX9_may_2 (by decide) ?_
  refine lv_istore_n (lv' := [(2, .int ((0 : Int32))), (1, .int ((0 : Int32))), (0, .ref (ad 0))]) hx hb dX9_may_3 rfl hl (by decide) rfl (fun ls hl => ?_)
  exact kl_X9_may_4 C _ h X (lv_sub hl [2, 1, 0] rfl) 

def rmX9_months : Room := { frames := 5, cells := 0, slots := 0, locals := 119 }
def b_X9_months_23 (K23 : Int32 → Int32 → ST → Option (Int32 × ST)) (v2 : Int32) (v3 : Int32) (S : ST) : Option (Int32 × ST) :=
  if ((12 : Int32)) ≤ v3 then (some (v2, S)) else (bn1 (f_X3_lower v3 S) fun r6 => nm (su S 51 3 r6) fun S7 => bn1 (f_X0_hold S7) fun S8 => bnd (f_X0_hasGoodTime S8) fun r10 S9 => if r10 = 0 then (nm (v2 ||| ((0 : Int32))) fun x12 => nm (v3 + (1 : Int32)) fun x13 => K23 x12 x13 S9) else (nm (v2 ||| (((1 : Int32)) <<< (v3 &&& 31))) fun x14 => nm (v3 + (1 : Int32)) fun x15 => K23 x14 x15 S9))
def f_X9_months (a1 : Int32) (S : ST) : Option (Int32 × ST) :=
  bn1 (f_X9_swingerAt a1 S) fun r1 => om r1 (some ((-1000000001 : Int32), S)) fun k2 => bn1 (f_X9_ready k2 S) fun S4 => lp (fun _ _ _ => none) (b_X9_months_23) 1000 ((0 : Int32)) ((0 : Int32)) S4
set_option maxHeartbeats 4000000 in
set_option maxRecDepth 100000 in
theorem kb_X9_months_23 {p : Program} {l : Launch} {e : Env} {s : State} {m : MethodId} {args : Array Value} {below : List Frame} {meth : Method} {c : Code} {g : GG} {ad : Nat → Nat} {res : (Int32 × ST)} {S : ST} (C : CX kC g ad p s m args meth c cX9_months (some Jvm.ClassFile.FieldType.int) 5 yX9_months.cls (.code yX9_months cX9_months 5 (some Jvm.ClassFile.FieldType.int))) {K23 : Int32 → Int32 → ST → Option (Int32 × ST)} (hK23 : ∀ {v2 : Int32} {v3 : Int32} {S : ST} {H : Heap} {locs : List Loc} {ls : Array Slot}, K23 v2 v3 S = some res → WX kC g ad s S H locs → lv_has ls 5 [(0, .ref (ad 0)), (3, .int v2), (4, .int v3)] → W p l e rmX9_months s m args below meth c H locs 0 0 (MQ below (QI kC g ad res (AA kC ad s.heap.size)) args s 0 0 (AA kC ad s.heap.size)) (F0 m 23 ls [])) {v2 : Int32} {v3 : Int32}  {H : Heap} {locs : List Loc} {ls : Array Slot} (h : b_X9_months_23 K23 v2 v3 S = some res) (X : WX kC g ad s S H locs) (hl : lv_has ls 5 [(0, .ref (ad 0)), (3, .int v2), (4, .int v3)])  : W p l e rmX9_months s m args below meth c H locs 0 0 (MQ below (QI kC g ad res (AA kC ad s.heap.size)) args s 0 0 (AA kC ad s.heap.size)) (F0 m 23 ls []) := by
  have hx := C.1.1
  have hb := C.1.2.1
  have h : (if ((12 : Int32)) ≤ v3 then (some (v2, S)) else (bn1 (f_X3_lower v3 S) fun r6 => nm (su S 51 3 r6) fun S7 => bn1 (f_X0_hold S7) fun S8 => bnd (f_X0_hasGoodTime S8) fun r10 S9 => if r10 = 0 then (nm (v2 ||| ((0 : Int32))) fun x12 => nm (v3 + (1 : Int32)) fun x13 => K23 x12 x13 S9) else (nm (v2 ||| (((1 : Int32)) <<< (v3 &&& 31))) fun x14 => nm (v3 + (1 : Int32)) fun x15 => K23 x14 x15 S9)) : Option (Int32 × ST)) = some res := h
  refine lv_iload hx hb dX9_months_23 (lv_at hl 2 rfl) ?_
  refine lv_bipush (v := (12 : Int32)) hx hb dX9_months_25 (by decide) ?_
  refine lv_icmp_ge (tgt := 80) hx hb dX9_months_27 (by decide) (fun c5 => ?_) (fun c5 => ?_)
  · have h := ip h c5
    refine lv_iload_n hx hb dX9_months_80 rfl (lv_at hl 1 rfl) ?_
    exact rt_i C X rfl (Option.some.inj h) dX9_months_81
  · have h := inn h c5
    refine lv_aload_n hx hb dX9_months_30 rfl (lv_at hl 0 rfl) ?_
    refine g_get C X inT9 0 (by decide) (eC_0 g ad S) rfl 10 (by decide) wd_403 (v := .ref (ad 51)) rfl dX9_months_31 ?_
    refine lv_aload_n hx hb dX9_months_34 rfl (lv_at hl 0 rfl) ?_
    refine g_get C X inT9 0 (by decide) (eC_0 g ad S) rfl 2 (by decide) wd_395 (v := .ref (ad 4)) rfl dX9_months_35 ?_
    refine lv_iload hx hb dX9_months_38 (lv_at hl 2 rfl) ?_
    obtain ⟨r6, qr6, h⟩ := bn1_s h
    refine kc_i X (res := (r6, S)) (rV (As := [.int v3]) (rest := [.ref (ad 51)]) (n := 1) (k := 4) C X (c_X3_lower l g ad S _ v3  qr6) wd_658 wd_659 wd_660 wd_73 wd_661 (by decide) (eC_4 g ad S) rfl rfl rfl (by decide +kernel) ⟨Nat.le_of_ble_eq_true rfl, Nat.le_of_ble_eq_true rfl⟩ rfl hl.1 (lv_room (Nat.le_of_ble_eq_true rfl)) dX9_months_40) (fun H locs X => ?_)
    obtain ⟨S7, eS7, h⟩ := nm_s h
    refine g_putN (S' := S7) C X inT0 tyX0 tyX0_ok nmX0 51 (by decide) (eC_51 g ad S) rfl 3 (by decide) nw_291 rfl (by rfl) rfl (Nat.le_of_ble_eq_true rfl) (by subst eS7; rfl) (by subst eS7; exact fun i hi => ent_offu hi) dX9_months_43 (fun H locs X => ?_)
    refine lv_aload_n hx hb dX9_months_46 rfl (lv_at hl 0 rfl) ?_
    refine g_get C X inT9 0 (by decide) (eC_0 g ad S7) rfl 10 (by decide) wd_403 (v := .ref (ad 51)) rfl dX9_months_47 ?_
    obtain ⟨S8, qS8, h⟩ := bn1_s h
    refine kc_v X (res := S8) (rV (As := []) (rest := []) (n := 0) (k := 51) C X (c_X0_hold l g ad S7 _   qS8) wd_793 wd_794 wd_795 wd_81 wd_796 (by decide) (eC_51 g ad S7) rfl rfl rfl (by decide +kernel) ⟨Nat.le_of_ble_eq_true rfl, Nat.le_of_ble_eq_true rfl⟩ rfl hl.1 (lv_room (Nat.le_of_ble_eq_true rfl)) dX9_months_50) (fun H locs X => ?_)
    refine lv_iload_n hx hb dX9_months_53 rfl (lv_at hl 1 rfl) ?_
    refine lv_aload_n hx hb dX9_months_54 rfl (lv_at hl 0 rfl) ?_
    refine g_get C X inT9 0 (by decide) (eC_0 g ad S8) rfl 10 (by decide) wd_403 (v := .ref (ad 51)) rfl dX9_months_55 ?_
    obtain ⟨r10, S9, qr10, h⟩ := bnd_s h
    refine kc_i X (res := (r10, S9)) (rV (As := []) (rest := [.int v2]) (n := 0) (k := 51) C X (c_X0_hasGoodTime l g ad S8 _   qr10) wd_880 wd_881 wd_882 wd_81 wd_883 (by decide) (eC_51 g ad S8) rfl rfl rfl (by decide +kernel) ⟨Nat.le_of_ble_eq_true rfl, Nat.le_of_ble_eq_true rfl⟩ rfl hl.1 (lv_room (Nat.le_of_ble_eq_true rfl)) dX9_months_58) (fun H locs X => ?_)
    refine lv_if_eq (tgt := 71) hx hb dX9_months_61 (by decide) (fun c11 => ?_) (fun c11 => ?_)
    · have h := ip h c11
      refine lv_iconst (v := (0 : Int32)) hx hb dX9_months_71 (by decide) ?_
      refine lv_ior hx hb dX9_months_72 ?_
      obtain ⟨x12, ex12, h⟩ := nm_s h
      refine tp_i ex12 ?_
      refine lv_istore_n (lv' := [(3, .int x12), (0, .ref (ad 0)), (4, .int v3)]) hx hb dX9_months_73 rfl hl (by decide) rfl (fun ls hl => ?_)
      obtain ⟨x13, ex13, h⟩ := nm_s h
      refine lv_iinc (v := x13) (lv' := [(4, .int x13), (3, .int x12), (0, .ref (ad 0))]) hx hb dX9_months_74 hl (k := 2) rfl (by rw [ex13]; rfl) (by decide) rfl (fun ls hl => ?_)
      refine lv_goto (tgt := 23) hx hb dX9_months_77 (by decide) ?_
      exact hK23 h X (lv_sub hl [2, 1, 0] rfl) 
    · have h := inn h c11
      refine lv_iconst (v := (1 : Int32)) hx hb dX9_months_64 (by decide) ?_
      refine lv_iload hx hb dX9_months_65 (lv_at hl 2 rfl) ?_
      refine lv_ishl hx hb dX9_months_67 ?_
      refine lv_goto (tgt := 72) hx hb dX9_months_68 (by decide) ?_
      refine lv_ior hx hb dX9_months_72 ?_
      obtain ⟨x14, ex14, h⟩ := nm_s h
      refine tp_i ex14 ?_
      refine lv_istore_n (lv' := [(3, .int x14), (0, .ref (ad 0)), (4, .int v3)]) hx hb dX9_months_73 rfl hl (by decide) rfl (fun ls hl => ?_)
      obtain ⟨x15, ex15, h⟩ := nm_s h
      refine lv_iinc (v := x15) (lv' := [(4, .int x15), (3, .int x14), (0, .ref (ad 0))]) hx hb dX9_months_74 hl (k := 2) rfl (by rw [ex15]; rfl) (by decide) rfl (fun ls hl => ?_)
      refine lv_goto (tgt := 23) hx hb dX9_months_77 (by decide) ?_
      exact hK23 h X (lv_sub hl [2, 1, 0] rfl) 
set_option maxHeartbeats 4000000 in
set_option maxRecDepth 100000 in
theorem kl_X9_months_23 {p : Program} {l : Launch} {e : Env} {s : State} {m : MethodId} {args : Array Value} {below : List Frame} {meth : Method} {c : Code} {g : GG} {ad : Nat → Nat} {res : (Int32 × ST)}  (C : CX kC g ad p s m args meth c cX9_months (some Jvm.ClassFile.FieldType.int) 5 yX9_months.cls (.code yX9_months cX9_months 5 (some Jvm.ClassFile.FieldType.int)))  : ∀ (n : Nat) {v2 : Int32} {v3 : Int32} {S : ST} {H : Heap} {locs : List Loc} {ls : Array Slot}, (lp (fun _ _ _ => none) (b_X9_months_23)) n v2 v3 S = some res → WX kC g ad s S H locs → lv_has ls 5 [(0, .ref (ad 0)), (3, .int v2), (4, .int v3)] → W p l e rmX9_months s m args below meth c H locs 0 0 (MQ below (QI kC g ad res (AA kC ad s.heap.size)) args s 0 0 (AA kC ad s.heap.size)) (F0 m 23 ls []) := by
  intro n
  induction n with
  | zero =>
    intro v2 v3 S H locs ls h
    cases (show (none : Option (Int32 × ST)) = some res from h)
  | succ n ih =>
    intro v2 v3 S H locs ls h X hl 
    exact kb_X9_months_23 C ih h X hl 
set_option maxHeartbeats 4000000 in
set_option maxRecDepth 100000 in
theorem c_X9_months (l : Launch) (g : GG) (ad : Nat → Nat) (S : ST) (sz : Nat) (a1 : Int32)  {res : (Int32 × ST)} (h : f_X9_months a1 S = some res) : Met l yX9_months (WS (.code yX9_months cX9_months 5 (some Jvm.ClassFile.FieldType.int))) rmX9_months (va_Pc [.ref (ad 0), .int a1] (PW kC g ad S sz)) (QI kC g ad res (AA kC ad sz)) 0 0 (AA kC ad sz) := by
  refine go_m (Qc := fun A => QI kC g ad res A) (by decide) (Nat.le_of_ble_eq_true rfl) (fun p e s m below meth c ls H locs C X hl => ?_)
  have hx := C.1.1
  have hb := C.1.2.1
  have hl : lv_has ls 5 [(0, .ref (ad 0)), (1, .int a1)] := hl
  have h : (bn1 (f_X9_swingerAt a1 S) fun r1 => om r1 (some ((-1000000001 : Int32), S)) fun k2 => bn1 (f_X9_ready k2 S) fun S4 => lp (fun _ _ _ => none) (b_X9_months_23) 1000 ((0 : Int32)) ((0 : Int32)) S4 : Option (Int32 × ST)) = some res := h
  refine lv_aload_n hx hb dX9_months_0 rfl (lv_at hl 0 rfl) ?_
  refine lv_iload_n hx hb dX9_months_1 rfl (lv_at hl 1 rfl) ?_
  obtain ⟨r1, qr1, h⟩ := bn1_s h
  refine kc_q X (res := (r1, S)) (rV (As := [.int a1]) (rest := []) (n := 1) (k := 0) C X (c_X9_swingerAt l g ad S _ a1  qr1) wd_671 wd_673 wd_12 wd_70 wd_674 (by decide) (eC_0 g ad S) rfl rfl rfl (by decide +kernel) ⟨Nat.le_of_ble_eq_true rfl, Nat.le_of_ble_eq_true rfl⟩ rfl hl.1 (lv_room (Nat.le_of_ble_eq_true rfl)) dX9_months_2) (fun H locs X => ?_)
  cases r1 with
  | none =>
    have h := om_n h
    refine lv_astore_nN (lv' := [(2, .null), (0, .ref (ad 0)), (1, .int a1)]) hx hb dX9_months_5 rfl hl (by decide) rfl (fun ls hl => ?_)
    refine lv_aload_nN hx hb dX9_months_6 rfl (lv_at hl 0 rfl) ?_
    refine lv_ifnonnullN hx hb dX9_months_7 ?_
    refine lv_ldc (v := (-1000000001 : Int32)) hx hb C.1.2.2.2.2.2.1 (C.1.2.2.2.2.2.2 _ (ws_in wd_644)) dX9_months_10 ?_
    exact rt_i C X rfl (Option.some.inj h) dX9_months_12
  | some k2 =>
    have h := om_s h
    have y3 : swk k2 = true := ok_X9_swingerAt qr1
    refine lv_astore_n (lv' := [(2, .ref (ad k2)), (0, .ref (ad 0)), (1, .int a1)]) hx hb dX9_months_5 rfl hl (by decide) rfl (fun ls hl => ?_)
    refine lv_aload_n hx hb dX9_months_6 rfl (lv_at hl 0 rfl) ?_
    refine lv_ifnonnull (tgt := 13) hx hb dX9_months_7 (by decide) ?_
    refine lv_aload_n hx hb dX9_months_13 rfl (lv_at hl 1 rfl) ?_
    refine lv_aload_n hx hb dX9_months_14 rfl (lv_at hl 0 rfl) ?_
    obtain ⟨S4, qS4, h⟩ := bn1_s h
    refine kc_v X (res := S4) (rV (As := [.ref (ad k2)]) (rest := []) (n := 1) (k := 0) C X (c_X9_ready l g ad S _ k2 y3 qS4) wd_784 wd_786 wd_18 wd_70 wd_787 (by decide) (eC_0 g ad S) rfl rfl rfl (by decide +kernel) ⟨Nat.le_of_ble_eq_true rfl, Nat.le_of_ble_eq_true rfl⟩ rfl hl.1 (lv_room (Nat.le_of_ble_eq_true rfl)) dX9_months_15) (fun H locs X => ?_)
    refine lv_iconst (v := (0 : Int32)) hx hb dX9_months_18 (by decide) ?_
    refine lv_istore_n (lv' := [(3, .int ((0 : Int32))), (2, .ref (ad k2)), (0, .ref (ad 0)), (1, .int a1)]) hx hb dX9_months_19 rfl hl (by decide) rfl (fun ls hl => ?_)
    refine lv_iconst (v := (0 : Int32)) hx hb dX9_months_20 (by decide) ?_
    refine lv_istore (lv' := [(4, .int ((0 : Int32))), (3, .int ((0 : Int32))), (2, .ref (ad k2)), (0, .ref (ad 0)), (1, .int a1)]) hx hb dX9_months_21 hl (by decide) rfl (fun ls hl => ?_)
    exact kl_X9_months_23 C _ h X (lv_sub hl [3, 1, 0] rfl) 

def rmX9_rope : Room := { frames := 5, cells := 0, slots := 0, locals := 119 }
def b_X9_rope_69 (K43 : Int32 → Int32 → Int32 → Int32 → Int32 → ST → Option (Int32 × ST)) (K54 : Int32 → Int32 → Int32 → Int32 → Int32 → Int32 → ST → Option (Int32 × ST)) (v2 : Int32) (v3 : Int32) (v4 : Int32) (v5 : Int32) (v6 : Int32) (v7 : Int32) (v8 : Int32) (v9 : Int32) (S : ST) : Option (Int32 × ST) :=
  if v8 < v9 then (nm (v6 + (50 : Int32)) fun x12 => K43 v2 v3 v4 v5 x12 S) else (bn1 (f_X3_number ((0 : Int32)) S) fun r13 => bn1 (f_X5_inHand ((3 : Int32)) S) fun r14 => bn1 (f_X5_inHand ((4 : Int32)) S) fun r15 => bn1 (f_X1_trace r13 (v6 - v7) r14 r15 S) fun S16 => bn1 (f_X0_hold S16) fun S17 => bn1 (f_X8_scan S17) fun S18 => if (S18.1 52 2) ≤ v5 then (nm (v7 + (50 : Int32)) fun x20 => K54 v2 v3 v4 v5 v6 x20 S18) else (nm (S18.1 52 2) fun x21 => nm (v7 + (50 : Int32)) fun x22 => K54 v2 v6 v7 x21 v6 x22 S18))
def b_X9_rope_54 (K43 : Int32 → Int32 → Int32 → Int32 → Int32 → ST → Option (Int32 × ST)) (K54 : Int32 → Int32 → Int32 → Int32 → Int32 → Int32 → ST → Option (Int32 × ST)) (v2 : Int32) (v3 : Int32) (v4 : Int32) (v5 : Int32) (v6 : Int32) (v7 : Int32) (S : ST) : Option (Int32 × ST) :=
  if v6 = ((100 : Int32)) then (b_X9_rope_69 K43 K54 v2 v3 v4 v5 v6 v7 ((50 : Int32)) v7 S) else (b_X9_rope_69 K43 K54 v2 v3 v4 v5 v6 v7 ((0 : Int32)) v7 S)
def b_X9_rope_43 (K43 : Int32 → Int32 → Int32 → Int32 → Int32 → ST → Option (Int32 × ST)) (v2 : Int32) (v3 : Int32) (v4 : Int32) (v5 : Int32) (v6 : Int32) (S : ST) : Option (Int32 × ST) :=
  if ((900 : Int32)) < v6 then (if v2 = 0 then (some (v3, S)) else (if v2 = ((1 : Int32)) then (some (v4, S)) else (some (v5, S)))) else (lp (fun _ _ _ _ _ _ _ => none) (b_X9_rope_54 K43) 1000 v2 v3 v4 v5 v6 ((0 : Int32)) S)
def f_X9_rope (a1 : Int32) (a2 : Int32) (S : ST) : Option (Int32 × ST) :=
  bn1 (f_X9_swingerAt a1 S) fun r1 => om r1 (some ((-1000000001 : Int32), S)) fun k2 => if a2 < 0 then (some ((-1000000002 : Int32), S)) else (if a2 ≤ ((2 : Int32)) then (bn1 (f_X9_ready k2 S) fun S6 => lp (fun _ _ _ _ _ _ => none) (b_X9_rope_43) 1000 a2 ((0 : Int32)) ((0 : Int32)) ((-1 : Int32)) ((100 : Int32)) S6) else (some ((-1000000002 : Int32), S)))
set_option maxHeartbeats 4000000 in
set_option maxRecDepth 100000 in
theorem kb_X9_rope_69 {p : Program} {l : Launch} {e : Env} {s : State} {m : MethodId} {args : Array Value} {below : List Frame} {meth : Method} {c : Code} {g : GG} {ad : Nat → Nat} {res : (Int32 × ST)} {S : ST} (C : CX kC g ad p s m args meth c cX9_rope (some Jvm.ClassFile.FieldType.int) 9 yX9_rope.cls (.code yX9_rope cX9_rope 9 (some Jvm.ClassFile.FieldType.int))) {K43 : Int32 → Int32 → Int32 → Int32 → Int32 → ST → Option (Int32 × ST)} (hK43 : ∀ {v2 : Int32} {v3 : Int32} {v4 : Int32} {v5 : Int32} {v6 : Int32} {S : ST} {H : Heap} {locs : List Loc} {ls : Array Slot}, K43 v2 v3 v4 v5 v6 S = some res → WX kC g ad s S H locs → lv_has ls 9 [(0, .ref (ad 0)), (2, .int v2), (4, .int v3), (5, .int v4), (6, .int v5), (7, .int v6)] → W p l e rmX9_rope s m args below meth c H locs 0 0 (MQ below (QI kC g ad res (AA kC ad s.heap.size)) args s 0 0 (AA kC ad s.heap.size)) (F0 m 43 ls [])) {K54 : Int32 → Int32 → Int32 → Int32 → Int32 → Int32 → ST → Option (Int32 × ST)} (hK54 : ∀ {v2 : Int32} {v3 : Int32} {v4 : Int32} {v5 : Int32} {v6 : Int32} {v7 : Int32} {S : ST} {H : Heap} {locs : List Loc} {ls : Array Slot}, K54 v2 v3 v4 v5 v6 v7 S = some res → WX kC g ad s S H locs → lv_has ls 9 [(0, .ref (ad 0)), (2, .int v2), (4, .int v3), (5, .int v4), (6, .int v5), (7, .int v6), (8, .int v7)] → W p l e rmX9_rope s m args below meth c H locs 0 0 (MQ below (QI kC g ad res (AA kC ad s.heap.size)) args s 0 0 (AA kC ad s.heap.size)) (F0 m 54 ls [])) {v2 : Int32} {v3 : Int32} {v4 : Int32} {v5 : Int32} {v6 : Int32} {v7 : Int32} {v8 : Int32} {v9 : Int32}  {H : Heap} {locs : List Loc} {ls : Array Slot} (h : b_X9_rope_69 K43 K54 v2 v3 v4 v5 v6 v7 v8 v9 S = some res) (X : WX kC g ad s S H locs) (hl : lv_has ls 9 [(0, .ref (ad 0)), (2, .int v2), (4, .int v3), (5, .int v4), (6, .int v5), (7, .int v6), (8, .int v7)])  : W p l e rmX9_rope s m args below meth c H locs 0 0 (MQ below (QI kC g ad res (AA kC ad s.heap.size)) args s 0 0 (AA kC ad s.heap.size)) (F0 m 69 ls [.int v8, .int v9]) := by
  have hx := C.1.1
  have hb := C.1.2.1
  have h : (if v8 < v9 then (nm (v6 + (50 : Int32)) fun x12 => K43 v2 v3 v4 v5 x12 S) else (bn1 (f_X3_number ((0 : Int32)) S) fun r13 => bn1 (f_X5_inHand ((3 : Int32)) S) fun r14 => bn1 (f_X5_inHand ((4 : Int32)) S) fun r15 => bn1 (f_X1_trace r13 (v6 - v7) r14 r15 S) fun S16 => bn1 (f_X0_hold S16) fun S17 => bn1 (f_X8_scan S17) fun S18 => if (S18.1 52 2) ≤ v5 then (nm (v7 + (50 : Int32)) fun x20 => K54 v2 v3 v4 v5 v6 x20 S18) else (nm (S18.1 52 2) fun x21 => nm (v7 + (50 : Int32)) fun x22 => K54 v2 v6 v7 x21 v6 x22 S18)) : Option (Int32 × ST)) = some res := h
  refine lv_icmp_gt (tgt := 161) hx hb dX9_rope_69 (by decide) (fun c11 => ?_) (fun c11 => ?_)
  · have h := ip h c11
    obtain ⟨x12, ex12, h⟩ := nm_s h
    refine lv_iinc (v := x12) (lv' := [(7, .int x12), (0, .ref (ad 0)), (2, .int v2), (4, .int v3), (5, .int v4), (6, .int v5), (8, .int v7)]) hx hb dX9_rope_161 hl (k := 5) rfl (by rw [ex12]; rfl) (by decide) rfl (fun ls hl => ?_)
    refine lv_goto (tgt := 43) hx hb dX9_rope_164 (by decide) ?_
    exact hK43 h X (lv_sub hl [1, 2, 3, 4, 5, 0] rfl) 
  · have h := inn h c11
    refine lv_aload_n hx hb dX9_rope_72 rfl (lv_at hl 0 rfl) ?_
    refine g_get C X inT9 0 (by decide) (eC_0 g ad S) rfl 9 (by decide) wd_402 (v := .ref (ad 42)) rfl dX9_rope_73 ?_
    refine lv_aload_n hx hb dX9_rope_76 rfl (lv_at hl 0 rfl) ?_
    refine g_get C X inT9 0 (by decide) (eC_0 g ad S) rfl 2 (by decide) wd_395 (v := .ref (ad 4)) rfl dX9_rope_77 ?_
    refine lv_iconst (v := (0 : Int32)) hx hb dX9_rope_80 (by decide) ?_
    obtain ⟨r13, qr13, h⟩ := bn1_s h
    refine kc_i X (res := (r13, S)) (rV (As := [.int ((0 : Int32))]) (rest := [.ref (ad 42)]) (n := 1) (k := 4) C X (c_X3_number l g ad S _ ((0 : Int32))  qr13) wd_639 wd_390 wd_391 wd_73 wd_392 (by decide) (eC_4 g ad S) rfl rfl rfl (by decide +kernel) ⟨Nat.le_of_ble_eq_true rfl, Nat.le_of_ble_eq_true rfl⟩ rfl hl.1 (lv_room (Nat.le_of_ble_eq_true rfl)) dX9_rope_81) (fun H locs X => ?_)
    refine lv_iload hx hb dX9_rope_84 (lv_at hl 5 rfl) ?_
    refine lv_iload hx hb dX9_rope_86 (lv_at hl 6 rfl) ?_
    refine lv_isub hx hb dX9_rope_88 ?_
    refine lv_aload_n hx hb dX9_rope_89 rfl (lv_at hl 0 rfl) ?_
    refine g_get C X inT9 0 (by decide) (eC_0 g ad S) rfl 6 (by decide) wd_399 (v := .ref (ad 31)) rfl dX9_rope_90 ?_
    refine lv_iconst (v := (3 : Int32)) hx hb dX9_rope_93 (by decide) ?_
    obtain ⟨r14, qr14, h⟩ := bn1_s h
    refine kc_i X (res := (r14, S)) (rV (As := [.int ((3 : Int32))]) (rest := [.int (v6 - v7), .int r13, .ref (ad 42)]) (n := 1) (k := 31) C X (c_X5_inHand l g ad S _ ((3 : Int32))  qr14) wd_653 wd_654 wd_655 wd_78 wd_656 (by decide) (eC_31 g ad S) rfl rfl rfl (by decide +kernel) ⟨Nat.le_of_ble_eq_true rfl, Nat.le_of_ble_eq_true rfl⟩ rfl hl.1 (lv_room (Nat.le_of_ble_eq_true rfl)) dX9_rope_94) (fun H locs X => ?_)
    refine lv_aload_n hx hb dX9_rope_97 rfl (lv_at hl 0 rfl) ?_
    refine g_get C X inT9 0 (by decide) (eC_0 g ad S) rfl 6 (by decide) wd_399 (v := .ref (ad 31)) rfl dX9_rope_98 ?_
    refine lv_iconst (v := (4 : Int32)) hx hb dX9_rope_101 (by decide) ?_
    obtain ⟨r15, qr15, h⟩ := bn1_s h
    refine kc_i X (res := (r15, S)) (rV (As := [.int ((4 : Int32))]) (rest := [.int r14, .int (v6 - v7), .int r13, .ref (ad 42)]) (n := 1) (k := 31) C X (c_X5_inHand l g ad S _ ((4 : Int32))  qr15) wd_653 wd_654 wd_655 wd_78 wd_656 (by decide) (eC_31 g ad S) rfl rfl rfl (by decide +kernel) ⟨Nat.le_of_ble_eq_true rfl, Nat.le_of_ble_eq_true rfl⟩ rfl hl.1 (lv_room (Nat.le_of_ble_eq_true rfl)) dX9_rope_102) (fun H locs X => ?_)
    obtain ⟨S16, qS16, h⟩ := bn1_s h
    refine kc_v X (res := S16) (rV (As := [.int r13, .int (v6 - v7), .int r14, .int r15]) (rest := []) (n := 4) (k := 42) C X (c_X1_trace l g ad S _ r13 (v6 - v7) r14 r15  qS16) wd_726 wd_727 wd_728 wd_80 wd_729 (by decide) (eC_42 g ad S) rfl rfl rfl (by decide +kernel) ⟨Nat.le_of_ble_eq_true rfl, Nat.le_of_ble_eq_true rfl⟩ rfl hl.1 (lv_room (Nat.le_of_ble_eq_true rfl)) dX9_rope_105) (fun H locs X => ?_)
    refine lv_aload_n hx hb dX9_rope_108 rfl (lv_at hl 0 rfl) ?_
    refine g_get C X inT9 0 (by decide) (eC_0 g ad S16) rfl 10 (by decide) wd_403 (v := .ref (ad 51)) rfl dX9_rope_109 ?_
    obtain ⟨S17, qS17, h⟩ := bn1_s h
    refine kc_v X (res := S17) (rV (As := []) (rest := []) (n := 0) (k := 51) C X (c_X0_hold l g ad S16 _   qS17) wd_793 wd_794 wd_795 wd_81 wd_796 (by decide) (eC_51 g ad S16) rfl rfl rfl (by decide +kernel) ⟨Nat.le_of_ble_eq_true rfl, Nat.le_of_ble_eq_true rfl⟩ rfl hl.1 (lv_room (Nat.le_of_ble_eq_true rfl)) dX9_rope_112) (fun H locs X => ?_)
    refine lv_aload_n hx hb dX9_rope_115 rfl (lv_at hl 0 rfl) ?_
    refine g_get C X inT9 0 (by decide) (eC_0 g ad S17) rfl 11 (by decide) wd_404 (v := .ref (ad 52)) rfl dX9_rope_116 ?_
    refine lv_aload_n hx hb dX9_rope_119 rfl (lv_at hl 0 rfl) ?_
    refine g_get C X inT9 0 (by decide) (eC_0 g ad S17) rfl 10 (by decide) wd_403 (v := .ref (ad 51)) rfl dX9_rope_120 ?_
    obtain ⟨S18, qS18, h⟩ := bn1_s h
    refine kc_v X (res := S18) (rV (As := [.ref (ad 51)]) (rest := []) (n := 1) (k := 52) C X (c_X8_scan l g ad S17 _   qS18) wd_840 wd_841 wd_842 wd_82 wd_843 (by decide) (eC_52 g ad S17) rfl rfl rfl (by decide +kernel) ⟨Nat.le_of_ble_eq_true rfl, Nat.le_of_ble_eq_true rfl⟩ rfl hl.1 (lv_room (Nat.le_of_ble_eq_true rfl)) dX9_rope_123) (fun H locs X => ?_)
    refine lv_aload_n hx hb dX9_rope_126 rfl (lv_at hl 0 rfl) ?_
    refine g_get C X inT9 0 (by decide) (eC_0 g ad S18) rfl 11 (by decide) wd_404 (v := .ref (ad 52)) rfl dX9_rope_127 ?_
    refine g_getN C X inT8 52 (by decide) (eC_52 g ad S18) rfl 2 (by decide) nw_362 (v := .int (S18.1 52 2)) rfl dX9_rope_130 ?_
    refine lv_iload hx hb dX9_rope_133 (lv_at hl 4 rfl) ?_
    refine lv_icmp_le (tgt := 155) hx hb dX9_rope_135 (by decide) (fun c19 => ?_) (fun c19 => ?_)
    · have h := ip h c19
      obtain ⟨x20, ex20, h⟩ := nm_s h
      refine lv_iinc (v := x20) (lv' := [(8, .int x20), (0, .ref (ad 0)), (2, .int v2), (4, .int v3), (5, .int v4), (6, .int v5), (7, .int v6)]) hx hb dX9_rope_155 hl (k := 6) rfl (by rw [ex20]; rfl) (by decide) rfl (fun ls hl => ?_)
      refine lv_goto (tgt := 54) hx hb dX9_rope_158 (by decide) ?_
      exact hK54 h X (lv_sub hl [1, 2, 3, 4, 5, 6, 0] rfl) 
    · have h := inn h c19
      refine lv_aload_n hx hb dX9_rope_138 rfl (lv_at hl 0 rfl) ?_
      refine g_get C X inT9 0 (by decide) (eC_0 g ad S18) rfl 11 (by decide) wd_404 (v := .ref (ad 52)) rfl dX9_rope_139 ?_
      refine g_getN C X inT8 52 (by decide) (eC_52 g ad S18) rfl 2 (by decide) nw_362 (v := .int (S18.1 52 2)) rfl dX9_rope_142 ?_
      obtain ⟨x21, ex21, h⟩ := nm_s h
      refine tp_i ex21 ?_
      refine lv_istore (lv' := [(6, .int x21), (0, .ref (ad 0)), (2, .int v2), (4, .int v3), (5, .int v4), (7, .int v6), (8, .int v7)]) hx hb dX9_rope_145 hl (by decide) rfl (fun ls hl => ?_)
      refine lv_iload hx hb dX9_rope_147 (lv_at hl 5 rfl) ?_
      refine lv_istore (lv' := [(4, .int v6), (6, .int x21), (0, .ref (ad 0)), (2, .int v2), (5, .int v4), (7, .int v6), (8, .int v7)]) hx hb dX9_rope_149 hl (by decide) rfl (fun ls hl => ?_)
      refine lv_iload hx hb dX9_rope_151 (lv_at hl 6 rfl) ?_
      refine lv_istore (lv' := [(5, .int v7), (4, .int v6), (6, .int x21), (0, .ref (ad 0)), (2, .int v2), (7, .int v6), (8, .int v7)]) hx hb dX9_rope_153 hl (by decide) rfl (fun ls hl => ?_)
      obtain ⟨x22, ex22, h⟩ := nm_s h
      refine lv_iinc (v := x22) (lv' := [(8, .int x22), (5, .int v7), (4, .int v6), (6, .int x21), (0, .ref (ad 0)), (2, .int v2), (7, .int v6)]) hx hb dX9_rope_155 hl (k := 6) rfl (by rw [ex22]; rfl) (by decide) rfl (fun ls hl => ?_)
      refine lv_goto (tgt := 54) hx hb dX9_rope_158 (by decide) ?_
      exact hK54 h X (lv_sub hl [4, 5, 2, 1, 3, 6, 0] rfl) 
set_option maxHeartbeats 4000000 in
set_option maxRecDepth 100000 in
theorem kb_X9_rope_54 {p : Program} {l : Launch} {e : Env} {s : State} {m : MethodId} {args : Array Value} {below : List Frame} {meth : Method} {c : Code} {g : GG} {ad : Nat → Nat} {res : (Int32 × ST)} {S : ST} (C : CX kC g ad p s m args meth c cX9_rope (some Jvm.ClassFile.FieldType.int) 9 yX9_rope.cls (.code yX9_rope cX9_rope 9 (some Jvm.ClassFile.FieldType.int))) {K43 : Int32 → Int32 → Int32 → Int32 → Int32 → ST → Option (Int32 × ST)} (hK43 : ∀ {v2 : Int32} {v3 : Int32} {v4 : Int32} {v5 : Int32} {v6 : Int32} {S : ST} {H : Heap} {locs : List Loc} {ls : Array Slot}, K43 v2 v3 v4 v5 v6 S = some res → WX kC g ad s S H locs → lv_has ls 9 [(0, .ref (ad 0)), (2, .int v2), (4, .int v3), (5, .int v4), (6, .int v5), (7, .int v6)] → W p l e rmX9_rope s m args below meth c H locs 0 0 (MQ below (QI kC g ad res (AA kC ad s.heap.size)) args s 0 0 (AA kC ad s.heap.size)) (F0 m 43 ls [])) {K54 : Int32 → Int32 → Int32 → Int32 → Int32 → Int32 → ST → Option (Int32 × ST)} (hK54 : ∀ {v2 : Int32} {v3 : Int32} {v4 : Int32} {v5 : Int32} {v6 : Int32} {v7 : Int32} {S : ST} {H : Heap} {locs : List Loc} {ls : Array Slot}, K54 v2 v3 v4 v5 v6 v7 S = some res → WX kC g ad s S H locs → lv_has ls 9 [(0, .ref (ad 0)), (2, .int v2), (4, .int v3), (5, .int v4), (6, .int v5), (7, .int v6), (8, .int v7)] → W p l e rmX9_rope s m args below meth c H locs 0 0 (MQ below (QI kC g ad res (AA kC ad s.heap.size)) args s 0 0 (AA kC ad s.heap.size)) (F0 m 54 ls [])) {v2 : Int32} {v3 : Int32} {v4 : Int32} {v5 : Int32} {v6 : Int32} {v7 : Int32}  {H : Heap} {locs : List Loc} {ls : Array Slot} (h : b_X9_rope_54 K43 K54 v2 v3 v4 v5 v6 v7 S = some res) (X : WX kC g ad s S H locs) (hl : lv_has ls 9 [(0, .ref (ad 0)), (2, .int v2), (4, .int v3), (5, .int v4), (6, .int v5), (7, .int v6), (8, .int v7)])  : W p l e rmX9_rope s m args below meth c H locs 0 0 (MQ below (QI kC g ad res (AA kC ad s.heap.size)) args s 0 0 (AA kC ad s.heap.size)) (F0 m 54 ls []) := by
  have hx := C.1.1
  have hb := C.1.2.1
  have h : (if v6 = ((100 : Int32)) then (b_X9_rope_69 K43 K54 v2 v3 v4 v5 v6 v7 ((50 : Int32)) v7 S) else (b_X9_rope_69 K43 K54 v2 v3 v4 v5 v6 v7 ((0 : Int32)) v7 S) : Option (Int32 × ST)) = some res := h
  refine lv_iload hx hb dX9_rope_54 (lv_at hl 6 rfl) ?_
  refine lv_iload hx hb dX9_rope_56 (lv_at hl 5 rfl) ?_
  refine lv_bipush (v := (100 : Int32)) hx hb dX9_rope_58 (by decide) ?_
  refine lv_icmp_ne (tgt := 68) hx hb dX9_rope_60 (by decide) (fun c10 => ?_) (fun c10 => ?_)
  · have h := inn h c10
    refine lv_iconst (v := (0 : Int32)) hx hb dX9_rope_68 (by decide) ?_
    exact kb_X9_rope_69 C hK43 hK54 h X (lv_sub hl [0, 1, 2, 3, 4, 5, 6] rfl) 
  · have h := ip h c10
    refine lv_bipush (v := (50 : Int32)) hx hb dX9_rope_63 (by decide) ?_
    refine lv_goto (tgt := 69) hx hb dX9_rope_65 (by decide) ?_
    exact kb_X9_rope_69 C hK43 hK54 h X (lv_sub hl [0, 1, 2, 3, 4, 5, 6] rfl) 
set_option maxHeartbeats 4000000 in
set_option maxRecDepth 100000 in
theorem kl_X9_rope_54 {p : Program} {l : Launch} {e : Env} {s : State} {m : MethodId} {args : Array Value} {below : List Frame} {meth : Method} {c : Code} {g : GG} {ad : Nat → Nat} {res : (Int32 × ST)}  (C : CX kC g ad p s m args meth c cX9_rope (some Jvm.ClassFile.FieldType.int) 9 yX9_rope.cls (.code yX9_rope cX9_rope 9 (some Jvm.ClassFile.FieldType.int))) {K43 : Int32 → Int32 → Int32 → Int32 → Int32 → ST → Option (Int32 × ST)} (hK43 : ∀ {v2 : Int32} {v3 : Int32} {v4 : Int32} {v5 : Int32} {v6 : Int32} {S : ST} {H : Heap} {locs : List Loc} {ls : Array Slot}, K43 v2 v3 v4 v5 v6 S = some res → WX kC g ad s S H locs → lv_has ls 9 [(0, .ref (ad 0)), (2, .int v2), (4, .int v3), (5, .int v4), (6, .int v5), (7, .int v6)] → W p l e rmX9_rope s m args below meth c H locs 0 0 (MQ below (QI kC g ad res (AA kC ad s.heap.size)) args s 0 0 (AA kC ad s.heap.size)) (F0 m 43 ls [])) : ∀ (n : Nat) {v2 : Int32} {v3 : Int32} {v4 : Int32} {v5 : Int32} {v6 : Int32} {v7 : Int32} {S : ST} {H : Heap} {locs : List Loc} {ls : Array Slot}, (lp (fun _ _ _ _ _ _ _ => none) (b_X9_rope_54 K43)) n v2 v3 v4 v5 v6 v7 S = some res → WX kC g ad s S H locs → lv_has ls 9 [(0, .ref (ad 0)), (2, .int v2), (4, .int v3), (5, .int v4), (6, .int v5), (7, .int v6), (8, .int v7)] → W p l e rmX9_rope s m args below meth c H locs 0 0 (MQ below (QI kC g ad res (AA kC ad s.heap.size)) args s 0 0 (AA kC ad s.heap.size)) (F0 m 54 ls []) := by
  intro n
  induction n with
  | zero =>
    intro v2 v3 v4 v5 v6 v7 S H locs ls h
    cases (show (none : Option (Int32 × ST)) = some res from h)
  | succ n ih =>
    intro v2 v3 v4 v5 v6 v7 S H locs ls h X hl 
    exact kb_X9_rope_54 C hK43 ih h X hl 
set_option maxHeartbeats 4000000 in
set_option maxRecDepth 100000 in
theorem kb_X9_rope_43 {p : Program} {l : Launch} {e : Env} {s : State} {m : MethodId} {args : Array Value} {below : List Frame} {meth : Method} {c : Code} {g : GG} {ad : Nat → Nat} {res : (Int32 × ST)} {S : ST} (C : CX kC g ad p s m args meth c cX9_rope (some Jvm.ClassFile.FieldType.int) 9 yX9_rope.cls (.code yX9_rope cX9_rope 9 (some Jvm.ClassFile.FieldType.int))) {K43 : Int32 → Int32 → Int32 → Int32 → Int32 → ST → Option (Int32 × ST)} (hK43 : ∀ {v2 : Int32} {v3 : Int32} {v4 : Int32} {v5 : Int32} {v6 : Int32} {S : ST} {H : Heap} {locs : List Loc} {ls : Array Slot}, K43 v2 v3 v4 v5 v6 S = some res → WX kC g ad s S H locs → lv_has ls 9 [(0, .ref (ad 0)), (2, .int v2), (4, .int v3), (5, .int v4), (6, .int v5), (7, .int v6)] → W p l e rmX9_rope s m args below meth c H locs 0 0 (MQ below (QI kC g ad res (AA kC ad s.heap.size)) args s 0 0 (AA kC ad s.heap.size)) (F0 m 43 ls [])) {v2 : Int32} {v3 : Int32} {v4 : Int32} {v5 : Int32} {v6 : Int32}  {H : Heap} {locs : List Loc} {ls : Array Slot} (h : b_X9_rope_43 K43 v2 v3 v4 v5 v6 S = some res) (X : WX kC g ad s S H locs) (hl : lv_has ls 9 [(0, .ref (ad 0)), (2, .int v2), (4, .int v3), (5, .int v4), (6, .int v5), (7, .int v6)])  : W p l e rmX9_rope s m args below meth c H locs 0 0 (MQ below (QI kC g ad res (AA kC ad s.heap.size)) args s 0 0 (AA kC ad s.heap.size)) (F0 m 43 ls []) := by
  have hx := C.1.1
  have hb := C.1.2.1
  have h : (if ((900 : Int32)) < v6 then (if v2 = 0 then (some (v3, S)) else (if v2 = ((1 : Int32)) then (some (v4, S)) else (some (v5, S)))) else (lp (fun _ _ _ _ _ _ _ => none) (b_X9_rope_54 K43) 1000 v2 v3 v4 v5 v6 ((0 : Int32)) S) : Option (Int32 × ST)) = some res := h
  refine lv_iload hx hb dX9_rope_43 (lv_at hl 5 rfl) ?_
  refine lv_sipush (v := (900 : Int32)) hx hb dX9_rope_45 (by decide) ?_
  refine lv_icmp_gt (tgt := 167) hx hb dX9_rope_48 (by decide) (fun c7 => ?_) (fun c7 => ?_)
  · have h := ip h c7
    refine lv_iload_n hx hb dX9_rope_167 rfl (lv_at hl 1 rfl) ?_
    refine lv_if_ne (tgt := 174) hx hb dX9_rope_168 (by decide) (fun c8 => ?_) (fun c8 => ?_)
    · have h := inn h c8
      refine lv_iload_n hx hb dX9_rope_174 rfl (lv_at hl 1 rfl) ?_
      refine lv_iconst (v := (1 : Int32)) hx hb dX9_rope_175 (by decide) ?_
      refine lv_icmp_ne (tgt := 184) hx hb dX9_rope_176 (by decide) (fun c9 => ?_) (fun c9 => ?_)
      · have h := inn h c9
        refine lv_iload hx hb dX9_rope_184 (lv_at hl 4 rfl) ?_
        exact rt_i C X rfl (Option.some.inj h) dX9_rope_186
      · have h := ip h c9
        refine lv_iload hx hb dX9_rope_179 (lv_at hl 3 rfl) ?_
        refine lv_goto (tgt := 186) hx hb dX9_rope_181 (by decide) ?_
        exact rt_i C X rfl (Option.some.inj h) dX9_rope_186
    · have h := ip h c8
      refine lv_iload hx hb dX9_rope_171 (lv_at hl 2 rfl) ?_
      exact rt_i C X rfl (Option.some.inj h) dX9_rope_173
  · have h := inn h c7
    refine lv_iconst (v := (0 : Int32)) hx hb dX9_rope_51 (by decide) ?_
    refine lv_istore (lv' := [(8, .int ((0 : Int32))), (0, .ref (ad 0)), (2, .int v2), (4, .int v3), (5, .int v4), (6, .int v5), (7, .int v6)]) hx hb dX9_rope_52 hl (by decide) rfl (fun ls hl => ?_)
    exact kl_X9_rope_54 C hK43 _ h X (lv_sub hl [1, 2, 3, 4, 5, 6, 0] rfl) 
set_option maxHeartbeats 4000000 in
set_option maxRecDepth 100000 in
theorem kl_X9_rope_43 {p : Program} {l : Launch} {e : Env} {s : State} {m : MethodId} {args : Array Value} {below : List Frame} {meth : Method} {c : Code} {g : GG} {ad : Nat → Nat} {res : (Int32 × ST)}  (C : CX kC g ad p s m args meth c cX9_rope (some Jvm.ClassFile.FieldType.int) 9 yX9_rope.cls (.code yX9_rope cX9_rope 9 (some Jvm.ClassFile.FieldType.int)))  : ∀ (n : Nat) {v2 : Int32} {v3 : Int32} {v4 : Int32} {v5 : Int32} {v6 : Int32} {S : ST} {H : Heap} {locs : List Loc} {ls : Array Slot}, (lp (fun _ _ _ _ _ _ => none) (b_X9_rope_43)) n v2 v3 v4 v5 v6 S = some res → WX kC g ad s S H locs → lv_has ls 9 [(0, .ref (ad 0)), (2, .int v2), (4, .int v3), (5, .int v4), (6, .int v5), (7, .int v6)] → W p l e rmX9_rope s m args below meth c H locs 0 0 (MQ below (QI kC g ad res (AA kC ad s.heap.size)) args s 0 0 (AA kC ad s.heap.size)) (F0 m 43 ls []) := by
  intro n
  induction n with
  | zero =>
    intro v2 v3 v4 v5 v6 S H locs ls h
    cases (show (none : Option (Int32 × ST)) = some res from h)
  | succ n ih =>
    intro v2 v3 v4 v5 v6 S H locs ls h X hl 
    exact kb_X9_rope_43 C ih h X hl 
set_option maxHeartbeats 4000000 in
set_option maxRecDepth 100000 in
theorem c_X9_rope (l : Launch) (g : GG) (ad : Nat → Nat) (S : ST) (sz : Nat) (a1 : Int32) (a2 : Int32)  {res : (Int32 × ST)} (h : f_X9_rope a1 a2 S = some res) : Met l yX9_rope (WS (.code yX9_rope cX9_rope 9 (some Jvm.ClassFile.FieldType.int))) rmX9_rope (va_Pc [.ref (ad 0), .int a1, .int a2] (PW kC g ad S sz)) (QI kC g ad res (AA kC ad sz)) 0 0 (AA kC ad sz) := by
  refine go_m (Qc := fun A => QI kC g ad res A) (by decide) (Nat.le_of_ble_eq_true rfl) (fun p e s m below meth c ls H locs C X hl => ?_)
  have hx := C.1.1
  have hb := C.1.2.1
  have hl : lv_has ls 9 [(0, .ref (ad 0)), (1, .int a1), (2, .int a2)] := hl
  have h : (bn1 (f_X9_swingerAt a1 S) fun r1 => om r1 (some ((-1000000001 : Int32), S)) fun k2 => if a2 < 0 then (some ((-1000000002 : Int32), S)) else (if a2 ≤ ((2 : Int32)) then (bn1 (f_X9_ready k2 S) fun S6 => lp (fun _ _ _ _ _ _ => none) (b_X9_rope_43) 1000 a2 ((0 : Int32)) ((0 : Int32)) ((-1 : Int32)) ((100 : Int32)) S6) else (some ((-1000000002 : Int32), S))) : Option (Int32 × ST)) = some res := h
  refine lv_aload_n hx hb dX9_rope_0 rfl (lv_at hl 0 rfl) ?_
  refine lv_iload_n hx hb dX9_rope_1 rfl (lv_at hl 1 rfl) ?_
  obtain ⟨r1, qr1, h⟩ := bn1_s h
  refine kc_q X (res := (r1, S)) (rV (As := [.int a1]) (rest := []) (n := 1) (k := 0) C X (c_X9_swingerAt l g ad S _ a1  qr1) wd_671 wd_673 wd_12 wd_70 wd_674 (by decide) (eC_0 g ad S) rfl rfl rfl (by decide +kernel) ⟨Nat.le_of_ble_eq_true rfl, Nat.le_of_ble_eq_true rfl⟩ rfl hl.1 (lv_room (Nat.le_of_ble_eq_true rfl)) dX9_rope_2) (fun H locs X => ?_)
  cases r1 with
  | none =>
    have h := om_n h
    refine lv_astore_nN (lv' := [(3, .null), (0, .ref (ad 0)), (1, .int a1), (2, .int a2)]) hx hb dX9_rope_5 rfl hl (by decide) rfl (fun ls hl => ?_)
    refine lv_aload_nN hx hb dX9_rope_6 rfl (lv_at hl 0 rfl) ?_
    refine lv_ifnonnullN hx hb dX9_rope_7 ?_
    refine lv_ldc (v := (-1000000001 : Int32)) hx hb C.1.2.2.2.2.2.1 (C.1.2.2.2.2.2.2 _ (ws_in wd_644)) dX9_rope_10 ?_
    exact rt_i C X rfl (Option.some.inj h) dX9_rope_12
  | some k2 =>
    have h := om_s h
    have y3 : swk k2 = true := ok_X9_swingerAt qr1
    refine lv_astore_n (lv' := [(3, .ref (ad k2)), (0, .ref (ad 0)), (1, .int a1), (2, .int a2)]) hx hb dX9_rope_5 rfl hl (by decide) rfl (fun ls hl => ?_)
    refine lv_aload_n hx hb dX9_rope_6 rfl (lv_at hl 0 rfl) ?_
    refine lv_ifnonnull (tgt := 13) hx hb dX9_rope_7 (by decide) ?_
    refine lv_iload_n hx hb dX9_rope_13 rfl (lv_at hl 3 rfl) ?_
    refine lv_if_lt (tgt := 22) hx hb dX9_rope_14 (by decide) (fun c4 => ?_) (fun c4 => ?_)
    · have h := ip h c4
      refine lv_ldc (v := (-1000000002 : Int32)) hx hb C.1.2.2.2.2.2.1 (C.1.2.2.2.2.2.2 _ (ws_in wd_440)) dX9_rope_22 ?_
      exact rt_i C X rfl (Option.some.inj h) dX9_rope_24
    · have h := inn h c4
      refine lv_iload_n hx hb dX9_rope_17 rfl (lv_at hl 3 rfl) ?_
      refine lv_iconst (v := (2 : Int32)) hx hb dX9_rope_18 (by decide) ?_
      refine lv_icmp_le (tgt := 25) hx hb dX9_rope_19 (by decide) (fun c5 => ?_) (fun c5 => ?_)
      · have h := ip h c5
        refine lv_aload_n hx hb dX9_rope_25 rfl (lv_at hl 1 rfl) ?_
        refine lv_aload_n hx hb dX9_rope_26 rfl (lv_at hl 0 rfl) ?_
        obtain ⟨S6, qS6, h⟩ := bn1_s h
        refine kc_v X (res := S6) (rV (As := [.ref (ad k2)]) (rest := []) (n := 1) (k := 0) C X (c_X9_ready l g ad S _ k2 y3 qS6) wd_784 wd_786 wd_18 wd_70 wd_787 (by decide) (eC_0 g ad S) rfl rfl rfl (by decide +kernel) ⟨Nat.le_of_ble_eq_true rfl, Nat.le_of_ble_eq_true rfl⟩ rfl hl.1 (lv_room (Nat.le_of_ble_eq_true rfl)) dX9_rope_27) (fun H locs X => ?_)
        refine lv_iconst (v := (0 : Int32)) hx hb dX9_rope_30 (by decide) ?_
        refine lv_istore (lv' := [(4, .int ((0 : Int32))), (3, .ref (ad k2)), (0, .ref (ad 0)), (1, .int a1), (2, .int a2)]) hx hb dX9_rope_31 hl (by decide) rfl (fun ls hl => ?_)
        refine lv_iconst (v := (0 : Int32)) hx hb dX9_rope_33 (by decide) ?_
        refine lv_istore (lv' := [(5, .int ((0 : Int32))), (4, .int ((0 : Int32))), (3, .ref (ad k2)), (0, .ref (ad 0)), (1, .int a1), (2, .int a2)]) hx hb dX9_rope_34 hl (by decide) rfl (fun ls hl => ?_)
        refine lv_iconst (v := (-1 : Int32)) hx hb dX9_rope_36 (by decide) ?_
        refine lv_istore (lv' := [(6, .int ((-1 : Int32))), (5, .int ((0 : Int32))), (4, .int ((0 : Int32))), (3, .ref (ad k2)), (0, .ref (ad 0)), (1, .int a1), (2, .int a2)]) hx hb dX9_rope_37 hl (by decide) rfl (fun ls hl => ?_)
        refine lv_bipush (v := (100 : Int32)) hx hb dX9_rope_39 (by decide) ?_
        refine lv_istore (lv' := [(7, .int ((100 : Int32))), (6, .int ((-1 : Int32))), (5, .int ((0 : Int32))), (4, .int ((0 : Int32))), (3, .ref (ad k2)), (0, .ref (ad 0)), (1, .int a1), (2, .int a2)]) hx hb dX9_rope_41 hl (by decide) rfl (fun ls hl => ?_)
        exact kl_X9_rope_43 C _ h X (lv_sub hl [5, 7, 3, 2, 1, 0] rfl) 
      · have h := inn h c5
        refine lv_ldc (v := (-1000000002 : Int32)) hx hb C.1.2.2.2.2.2.1 (C.1.2.2.2.2.2.2 _ (ws_in wd_440)) dX9_rope_22 ?_
        exact rt_i C X rfl (Option.some.inj h) dX9_rope_24

def rmX9_turn : Room := { frames := 5, cells := 0, slots := 0, locals := 119 }
def b_X9_turn_38 (K38 : Int32 → Int32 → ST → Option (Int32 × ST)) (v2 : Int32) (v3 : Int32) (S : ST) : Option (Int32 × ST) :=
  bn1 (f_X6_most ((4 : Int32)) S) fun r8 => if r8 < v3 then (some ((-1 : Int32), S)) else (nm (su S 51 8 v3) fun S10 => bn1 (f_X0_letGo (v2 + (S10.1 51 7)) S10) fun S11 => if (S11.1 51 11) = ((2 : Int32)) then (some (v3, S11)) else (nm (v3 + (1 : Int32)) fun x13 => K38 v2 x13 S11))
def f_X9_turn (a1 : Int32) (a2 : Int32) (S : ST) : Option (Int32 × ST) :=
  bn1 (f_X9_swingerAt a1 S) fun r1 => om r1 (some ((-1000000001 : Int32), S)) fun k2 => bn1 (f_X9_within a2 ((1 : Int32)) ((200 : Int32))) fun r4 => if r4 = 0 then (some ((-1000000002 : Int32), S)) else (bn1 (f_X9_ready k2 S) fun S6 => bn1 (f_X6_least ((4 : Int32)) S6) fun r7 => lp (fun _ _ _ => none) (b_X9_turn_38) 1000 a2 r7 S6)
set_option maxHeartbeats 4000000 in
set_option maxRecDepth 100000 in
theorem kb_X9_turn_38 {p : Program} {l : Launch} {e : Env} {s : State} {m : MethodId} {args : Array Value} {below : List Frame} {meth : Method} {c : Code} {g : GG} {ad : Nat → Nat} {res : (Int32 × ST)} {S : ST} (C : CX kC g ad p s m args meth c cX9_turn (some Jvm.ClassFile.FieldType.int) 5 yX9_turn.cls (.code yX9_turn cX9_turn 5 (some Jvm.ClassFile.FieldType.int))) {K38 : Int32 → Int32 → ST → Option (Int32 × ST)} (hK38 : ∀ {v2 : Int32} {v3 : Int32} {S : ST} {H : Heap} {locs : List Loc} {ls : Array Slot}, K38 v2 v3 S = some res → WX kC g ad s S H locs → lv_has ls 5 [(0, .ref (ad 0)), (2, .int v2), (4, .int v3)] → W p l e rmX9_turn s m args below meth c H locs 0 0 (MQ below (QI kC g ad res (AA kC ad s.heap.size)) args s 0 0 (AA kC ad s.heap.size)) (F0 m 38 ls [])) {v2 : Int32} {v3 : Int32}  {H : Heap} {locs : List Loc} {ls : Array Slot} (h : b_X9_turn_38 K38 v2 v3 S = some res) (X : WX kC g ad s S H locs) (hl : lv_has ls 5 [(0, .ref (ad 0)), (2, .int v2), (4, .int v3)])  : W p l e rmX9_turn s m args below meth c H locs 0 0 (MQ below (QI kC g ad res (AA kC ad s.heap.size)) args s 0 0 (AA kC ad s.heap.size)) (F0 m 38 ls []) := by
  have hx := C.1.1
  have hb := C.1.2.1
  have h : (bn1 (f_X6_most ((4 : Int32)) S) fun r8 => if r8 < v3 then (some ((-1 : Int32), S)) else (nm (su S 51 8 v3) fun S10 => bn1 (f_X0_letGo (v2 + (S10.1 51 7)) S10) fun S11 => if (S11.1 51 11) = ((2 : Int32)) then (some (v3, S11)) else (nm (v3 + (1 : Int32)) fun x13 => K38 v2 x13 S11)) : Option (Int32 × ST)) = some res := h
  refine lv_iload hx hb dX9_turn_38 (lv_at hl 2 rfl) ?_
  refine lv_iconst (v := (4 : Int32)) hx hb dX9_turn_40 (by decide) ?_
  obtain ⟨r8, qr8, h⟩ := bn1_s h
  refine kc_i X (res := (r8, S)) (rS (As := [.int ((4 : Int32))]) (rest := [.int v3]) (n := 1) C X (c_X6_most l g ad S _ ((4 : Int32))  qr8) wd_867 wd_627 wd_77 wd_628 rfl rfl (by decide +kernel) ⟨Nat.le_of_ble_eq_true rfl, Nat.le_of_ble_eq_true rfl⟩ rfl hl.1 (lv_room (Nat.le_of_ble_eq_true rfl)) dX9_turn_41) (fun H locs X => ?_)
  refine lv_icmp_gt (tgt := 92) hx hb dX9_turn_44 (by decide) (fun c9 => ?_) (fun c9 => ?_)
  · have h := ip h c9
    refine lv_iconst (v := (-1 : Int32)) hx hb dX9_turn_92 (by decide) ?_
    exact rt_i C X rfl (Option.some.inj h) dX9_turn_93
  · have h := inn h c9
    refine lv_aload_n hx hb dX9_turn_47 rfl (lv_at hl 0 rfl) ?_
    refine g_get C X inT9 0 (by decide) (eC_0 g ad S) rfl 10 (by decide) wd_403 (v := .ref (ad 51)) rfl dX9_turn_48 ?_
    refine lv_iload hx hb dX9_turn_51 (lv_at hl 2 rfl) ?_
    obtain ⟨S10, eS10, h⟩ := nm_s h
    refine g_putN (S' := S10) C X inT0 tyX0 tyX0_ok nmX0 51 (by decide) (eC_51 g ad S) rfl 8 (by decide) nw_299 rfl (by rfl) rfl (Nat.le_of_ble_eq_true rfl) (by subst eS10; rfl) (by subst eS10; exact fun i hi => ent_offu hi) dX9_turn_53 (fun H locs X => ?_)
    refine lv_aload_n hx hb dX9_turn_56 rfl (lv_at hl 0 rfl) ?_
    refine g_get C X inT9 0 (by decide) (eC_0 g ad S10) rfl 10 (by decide) wd_403 (v := .ref (ad 51)) rfl dX9_turn_57 ?_
    refine lv_iload_n hx hb dX9_turn_60 rfl (lv_at hl 1 rfl) ?_
    refine lv_aload_n hx hb dX9_turn_61 rfl (lv_at hl 0 rfl) ?_
    refine g_get C X inT9 0 (by decide) (eC_0 g ad S10) rfl 10 (by decide) wd_403 (v := .ref (ad 51)) rfl dX9_turn_62 ?_
    refine g_getN C X inT0 51 (by decide) (eC_51 g ad S10) rfl 7 (by decide) nw_297 (v := .int (S10.1 51 7)) rfl dX9_turn_65 ?_
    refine lv_iadd hx hb dX9_turn_68 ?_
    obtain ⟨S11, qS11, h⟩ := bn1_s h
    refine kc_v X (res := S11) (rV (As := [.int (v2 + (S10.1 51 7))]) (rest := []) (n := 1) (k := 51) C X (c_X0_letGo l g ad S10 _ (v2 + (S10.1 51 7))  qS11) wd_811 wd_812 wd_813 wd_81 wd_814 (by decide) (eC_51 g ad S10) rfl rfl rfl (by decide +kernel) ⟨Nat.le_of_ble_eq_true rfl, Nat.le_of_ble_eq_true rfl⟩ rfl hl.1 (lv_room (Nat.le_of_ble_eq_true rfl)) dX9_turn_69) (fun H locs X => ?_)
    refine lv_aload_n hx hb dX9_turn_72 rfl (lv_at hl 0 rfl) ?_
    refine g_get C X inT9 0 (by decide) (eC_0 g ad S11) rfl 10 (by decide) wd_403 (v := .ref (ad 51)) rfl dX9_turn_73 ?_
    refine g_getN C X inT0 51 (by decide) (eC_51 g ad S11) rfl 11 (by decide) nw_303 (v := .int (S11.1 51 11)) rfl dX9_turn_76 ?_
    refine lv_iconst (v := (2 : Int32)) hx hb dX9_turn_79 (by decide) ?_
    refine lv_icmp_ne (tgt := 86) hx hb dX9_turn_80 (by decide) (fun c12 => ?_) (fun c12 => ?_)
    · have h := inn h c12
      obtain ⟨x13, ex13, h⟩ := nm_s h
      refine lv_iinc (v := x13) (lv' := [(4, .int x13), (0, .ref (ad 0)), (2, .int v2)]) hx hb dX9_turn_86 hl (k := 2) rfl (by rw [ex13]; rfl) (by decide) rfl (fun ls hl => ?_)
      refine lv_goto (tgt := 38) hx hb dX9_turn_89 (by decide) ?_
      exact hK38 h X (lv_sub hl [1, 2, 0] rfl) 
    · have h := ip h c12
      refine lv_iload hx hb dX9_turn_83 (lv_at hl 2 rfl) ?_
      exact rt_i C X rfl (Option.some.inj h) dX9_turn_85
set_option maxHeartbeats 4000000 in
set_option maxRecDepth 100000 in
theorem kl_X9_turn_38 {p : Program} {l : Launch} {e : Env} {s : State} {m : MethodId} {args : Array Value} {below : List Frame} {meth : Method} {c : Code} {g : GG} {ad : Nat → Nat} {res : (Int32 × ST)}  (C : CX kC g ad p s m args meth c cX9_turn (some Jvm.ClassFile.FieldType.int) 5 yX9_turn.cls (.code yX9_turn cX9_turn 5 (some Jvm.ClassFile.FieldType.int)))  : ∀ (n : Nat) {v2 : Int32} {v3 : Int32} {S : ST} {H : Heap} {locs : List Loc} {ls : Array Slot}, (lp (fun _ _ _ => none) (b_X9_turn_38)) n v2 v3 S = some res → WX kC g ad s S H locs → lv_has ls 5 [(0, .ref (ad 0)), (2, .int v2), (4, .int v3)] → W p l e rmX9_turn s m args below meth c H locs 0 0 (MQ below (QI kC g ad res (AA kC ad s.heap.size)) args s 0 0 (AA kC ad s.heap.size)) (F0 m 38 ls []) := by
  intro n
  induction n with
  | zero =>
    intro v2 v3 S H locs ls h
    cases (show (none : Option (Int32 × ST)) = some res from h)
  | succ n ih =>
    intro v2 v3 S H locs ls h X hl 
    exact kb_X9_turn_38 C ih h X hl 
set_option maxHeartbeats 4000000 in
set_option maxRecDepth 100000 in
theorem c_X9_turn (l : Launch) (g : GG) (ad : Nat → Nat) (S : ST) (sz : Nat) (a1 : Int32) (a2 : Int32)  {res : (Int32 × ST)} (h : f_X9_turn a1 a2 S = some res) : Met l yX9_turn (WS (.code yX9_turn cX9_turn 5 (some Jvm.ClassFile.FieldType.int))) rmX9_turn (va_Pc [.ref (ad 0), .int a1, .int a2] (PW kC g ad S sz)) (QI kC g ad res (AA kC ad sz)) 0 0 (AA kC ad sz) := by
  refine go_m (Qc := fun A => QI kC g ad res A) (by decide) (Nat.le_of_ble_eq_true rfl) (fun p e s m below meth c ls H locs C X hl => ?_)
  have hx := C.1.1
  have hb := C.1.2.1
  have hl : lv_has ls 5 [(0, .ref (ad 0)), (1, .int a1), (2, .int a2)] := hl
  have h : (bn1 (f_X9_swingerAt a1 S) fun r1 => om r1 (some ((-1000000001 : Int32), S)) fun k2 => bn1 (f_X9_within a2 ((1 : Int32)) ((200 : Int32))) fun r4 => if r4 = 0 then (some ((-1000000002 : Int32), S)) else (bn1 (f_X9_ready k2 S) fun S6 => bn1 (f_X6_least ((4 : Int32)) S6) fun r7 => lp (fun _ _ _ => none) (b_X9_turn_38) 1000 a2 r7 S6) : Option (Int32 × ST)) = some res := h
  refine lv_aload_n hx hb dX9_turn_0 rfl (lv_at hl 0 rfl) ?_
  refine lv_iload_n hx hb dX9_turn_1 rfl (lv_at hl 1 rfl) ?_
  obtain ⟨r1, qr1, h⟩ := bn1_s h
  refine kc_q X (res := (r1, S)) (rV (As := [.int a1]) (rest := []) (n := 1) (k := 0) C X (c_X9_swingerAt l g ad S _ a1  qr1) wd_671 wd_673 wd_12 wd_70 wd_674 (by decide) (eC_0 g ad S) rfl rfl rfl (by decide +kernel) ⟨Nat.le_of_ble_eq_true rfl, Nat.le_of_ble_eq_true rfl⟩ rfl hl.1 (lv_room (Nat.le_of_ble_eq_true rfl)) dX9_turn_2) (fun H locs X => ?_)
  cases r1 with
  | none =>
    have h := om_n h
    refine lv_astore_nN (lv' := [(3, .null), (0, .ref (ad 0)), (1, .int a1), (2, .int a2)]) hx hb dX9_turn_5 rfl hl (by decide) rfl (fun ls hl => ?_)
    refine lv_aload_nN hx hb dX9_turn_6 rfl (lv_at hl 0 rfl) ?_
    refine lv_ifnonnullN hx hb dX9_turn_7 ?_
    refine lv_ldc (v := (-1000000001 : Int32)) hx hb C.1.2.2.2.2.2.1 (C.1.2.2.2.2.2.2 _ (ws_in wd_644)) dX9_turn_10 ?_
    exact rt_i C X rfl (Option.some.inj h) dX9_turn_12
  | some k2 =>
    have h := om_s h
    have y3 : swk k2 = true := ok_X9_swingerAt qr1
    refine lv_astore_n (lv' := [(3, .ref (ad k2)), (0, .ref (ad 0)), (1, .int a1), (2, .int a2)]) hx hb dX9_turn_5 rfl hl (by decide) rfl (fun ls hl => ?_)
    refine lv_aload_n hx hb dX9_turn_6 rfl (lv_at hl 0 rfl) ?_
    refine lv_ifnonnull (tgt := 13) hx hb dX9_turn_7 (by decide) ?_
    refine lv_iload_n hx hb dX9_turn_13 rfl (lv_at hl 3 rfl) ?_
    refine lv_iconst (v := (1 : Int32)) hx hb dX9_turn_14 (by decide) ?_
    refine lv_sipush (v := (200 : Int32)) hx hb dX9_turn_15 (by decide) ?_
    obtain ⟨r4, qr4, h⟩ := bn1_s h
    refine kc_i X (res := (r4, S)) (rS (As := [.int a2, .int ((1 : Int32)), .int ((200 : Int32))]) (rest := []) (n := 3) C X (c_X9_within l g ad S _ a2 ((1 : Int32)) ((200 : Int32))  qr4) wd_675 wd_564 wd_70 wd_565 rfl rfl (by decide +kernel) ⟨Nat.le_of_ble_eq_true rfl, Nat.le_of_ble_eq_true rfl⟩ rfl hl.1 (lv_room (Nat.le_of_ble_eq_true rfl)) dX9_turn_18) (fun H locs X => ?_)
    refine lv_if_ne (tgt := 27) hx hb dX9_turn_21 (by decide) (fun c5 => ?_) (fun c5 => ?_)
    · have h := inn h c5
      refine lv_aload_n hx hb dX9_turn_27 rfl (lv_at hl 1 rfl) ?_
      refine lv_aload_n hx hb dX9_turn_28 rfl (lv_at hl 0 rfl) ?_
      obtain ⟨S6, qS6, h⟩ := bn1_s h
      refine kc_v X (res := S6) (rV (As := [.ref (ad k2)]) (rest := []) (n := 1) (k := 0) C X (c_X9_ready l g ad S _ k2 y3 qS6) wd_784 wd_786 wd_18 wd_70 wd_787 (by decide) (eC_0 g ad S) rfl rfl rfl (by decide +kernel) ⟨Nat.le_of_ble_eq_true rfl, Nat.le_of_ble_eq_true rfl⟩ rfl hl.1 (lv_room (Nat.le_of_ble_eq_true rfl)) dX9_turn_29) (fun H locs X => ?_)
      refine lv_iconst (v := (4 : Int32)) hx hb dX9_turn_32 (by decide) ?_
      obtain ⟨r7, qr7, h⟩ := bn1_s h
      refine kc_i X (res := (r7, S6)) (rS (As := [.int ((4 : Int32))]) (rest := []) (n := 1) C X (c_X6_least l g ad S6 _ ((4 : Int32))  qr7) wd_866 wd_621 wd_77 wd_622 rfl rfl (by decide +kernel) ⟨Nat.le_of_ble_eq_true rfl, Nat.le_of_ble_eq_true rfl⟩ rfl hl.1 (lv_room (Nat.le_of_ble_eq_true rfl)) dX9_turn_33) (fun H locs X => ?_)
      refine lv_istore (lv' := [(4, .int r7), (3, .ref (ad k2)), (0, .ref (ad 0)), (1, .int a1), (2, .int a2)]) hx hb dX9_turn_36 hl (by decide) rfl (fun ls hl => ?_)
      exact kl_X9_turn_38 C _ h X (lv_sub hl [2, 4, 0] rfl) 
    · have h := ip h c5
      refine lv_ldc (v := (-1000000002 : Int32)) hx hb C.1.2.2.2.2.2.1 (C.1.2.2.2.2.2.2 _ (ws_in wd_440)) dX9_turn_24 ?_
      exact rt_i C X rfl (Option.some.inj h) dX9_turn_26

def rmX9_film : Room := { frames := 3, cells := 0, slots := 0, locals := 67 }
def b_X9_film_69 (K37 : Int32 → Int32 → Int32 → Int32 → Int32 → ST → Option (Int32 × ST)) (K69 : Int32 → Int32 → Int32 → Int32 → Int32 → Int32 → ST → Option (Int32 × ST)) (v2 : Int32) (v3 : Int32) (v4 : Int32) (v5 : Int32) (v6 : Int32) (v7 : Int32) (S : ST) : Option (Int32 × ST) :=
  if v2 < v7 then (nm (if 0 ≤ (((S.1 41 1) / ((1000 : Int32))) - v3) then (((S.1 41 1) / ((1000 : Int32))) - v3) else 0 - (((S.1 41 1) / ((1000 : Int32))) - v3)) fun x10 => if v5 ≤ x10 then (nm (v6 + (1 : Int32)) fun x12 => K37 v2 v3 v4 v5 x12 S) else (nm (v6 + (1 : Int32)) fun x13 => K37 v2 v3 v6 x10 x13 S)) else (bn1 (f_X2_swing 41 S) fun S14 => nm (v7 + (1 : Int32)) fun x15 => K69 v2 v3 v4 v5 v6 x15 S14)
def b_X9_film_37 (K37 : Int32 → Int32 → Int32 → Int32 → Int32 → ST → Option (Int32 × ST)) (v2 : Int32) (v3 : Int32) (v4 : Int32) (v5 : Int32) (v6 : Int32) (S : ST) : Option (Int32 × ST) :=
  if ((600 : Int32)) < v6 then (some (v4, S)) else (bn1 (f_X9_lengthNow S) fun r6 => bn1 (f_X5_inHand ((3 : Int32)) S) fun r7 => bn1 (f_X2_begin 41 r6 r7 v6 S) fun S8 => lp (fun _ _ _ _ _ _ _ => none) (b_X9_film_69 K37) 1000 v2 v3 v4 v5 v6 ((1 : Int32)) S8)
def f_X9_film (a1 : Int32) (a2 : Int32) (S : ST) : Option (Int32 × ST) :=
  bn1 (f_X9_within a1 ((1 : Int32)) ((200 : Int32))) fun r1 => if r1 = 0 then (some ((-1000000002 : Int32), S)) else (bn1 (f_X9_within a2 ((-180 : Int32)) ((180 : Int32))) fun r3 => if r3 = 0 then (some ((-1000000002 : Int32), S)) else (lp (fun _ _ _ _ _ _ => none) (b_X9_film_37) 1000 a1 a2 ((0 : Int32)) ((2147483647 : Int32)) ((0 : Int32)) S))
set_option maxHeartbeats 4000000 in
set_option maxRecDepth 100000 in
theorem kb_X9_film_69 {p : Program} {l : Launch} {e : Env} {s : State} {m : MethodId} {args : Array Value} {below : List Frame} {meth : Method} {c : Code} {g : GG} {ad : Nat → Nat} {res : (Int32 × ST)} {S : ST} (C : CX kC g ad p s m args meth c cX9_film (some Jvm.ClassFile.FieldType.int) 7 yX9_film.cls (.code yX9_film cX9_film 7 (some Jvm.ClassFile.FieldType.int))) {K37 : Int32 → Int32 → Int32 → Int32 → Int32 → ST → Option (Int32 × ST)} (hK37 : ∀ {v2 : Int32} {v3 : Int32} {v4 : Int32} {v5 : Int32} {v6 : Int32} {S : ST} {H : Heap} {locs : List Loc} {ls : Array Slot}, K37 v2 v3 v4 v5 v6 S = some res → WX kC g ad s S H locs → lv_has ls 7 [(0, .ref (ad 0)), (1, .int v2), (2, .int v3), (3, .int v4), (4, .int v5), (5, .int v6)] → W p l e rmX9_film s m args below meth c H locs 0 0 (MQ below (QI kC g ad res (AA kC ad s.heap.size)) args s 0 0 (AA kC ad s.heap.size)) (F0 m 37 ls [])) {K69 : Int32 → Int32 → Int32 → Int32 → Int32 → Int32 → ST → Option (Int32 × ST)} (hK69 : ∀ {v2 : Int32} {v3 : Int32} {v4 : Int32} {v5 : Int32} {v6 : Int32} {v7 : Int32} {S : ST} {H : Heap} {locs : List Loc} {ls : Array Slot}, K69 v2 v3 v4 v5 v6 v7 S = some res → WX kC g ad s S H locs → lv_has ls 7 [(0, .ref (ad 0)), (1, .int v2), (2, .int v3), (3, .int v4), (4, .int v5), (5, .int v6), (6, .int v7)] → W p l e rmX9_film s m args below meth c H locs 0 0 (MQ below (QI kC g ad res (AA kC ad s.heap.size)) args s 0 0 (AA kC ad s.heap.size)) (F0 m 69 ls [])) {v2 : Int32} {v3 : Int32} {v4 : Int32} {v5 : Int32} {v6 : Int32} {v7 : Int32}  {H : Heap} {locs : List Loc} {ls : Array Slot} (h : b_X9_film_69 K37 K69 v2 v3 v4 v5 v6 v7 S = some res) (X : WX kC g ad s S H locs) (hl : lv_has ls 7 [(0, .ref (ad 0)), (1, .int v2), (2, .int v3), (3, .int v4), (4, .int v5), (5, .int v6), (6, .int v7)])  : W p l e rmX9_film s m args below meth c H locs 0 0 (MQ below (QI kC g ad res (AA kC ad s.heap.size)) args s 0 0 (AA kC ad s.heap.size)) (F0 m 69 ls []) := by
  have hx := C.1.1
  have hb := C.1.2.1
  have h : (if v2 < v7 then (nm (if 0 ≤ (((S.1 41 1) / ((1000 : Int32))) - v3) then (((S.1 41 1) / ((1000 : Int32))) - v3) else 0 - (((S.1 41 1) / ((1000 : Int32))) - v3)) fun x10 => if v5 ≤ x10 then (nm (v6 + (1 : Int32)) fun x12 => K37 v2 v3 v4 v5 x12 S) else (nm (v6 + (1 : Int32)) fun x13 => K37 v2 v3 v6 x10 x13 S)) else (bn1 (f_X2_swing 41 S) fun S14 => nm (v7 + (1 : Int32)) fun x15 => K69 v2 v3 v4 v5 v6 x15 S14) : Option (Int32 × ST)) = some res := h
  refine lv_iload hx hb dX9_film_69 (lv_at hl 6 rfl) ?_
  refine lv_iload_n hx hb dX9_film_71 rfl (lv_at hl 1 rfl) ?_
  refine lv_icmp_gt (tgt := 88) hx hb dX9_film_72 (by decide) (fun c9 => ?_) (fun c9 => ?_)
  · have h := ip h c9
    refine lv_aload_n hx hb dX9_film_88 rfl (lv_at hl 0 rfl) ?_
    refine g_get C X inT9 0 (by decide) (eC_0 g ad S) rfl 8 (by decide) wd_401 (v := .ref (ad 41)) rfl dX9_film_89 ?_
    refine g_getN C X inT2 41 (by decide) (eC_41 g ad S) rfl 1 (by decide) nw_222 (v := .int (S.1 41 1)) rfl dX9_film_92 ?_
    refine lv_sipush (v := (1000 : Int32)) hx hb dX9_film_95 (by decide) ?_
    refine lv_idiv hx hb dX9_film_98 (by decide) ?_
    refine lv_iload_n hx hb dX9_film_99 rfl (lv_at hl 2 rfl) ?_
    refine lv_isub hx hb dX9_film_100 ?_
    refine va_mabs hx hb (C.1.2.2.2.2.1.trans hl.1.symm) C.1.2.2.2.2.2.1 (C.1.2.2.2.2.2.2 _ (ws_in wd_904)) (C.1.2.2.2.2.2.2 _ (ws_in wd_905)) (C.1.2.2.2.2.2.2 _ (ws_in wd_74)) (C.1.2.2.2.2.2.2 _ (ws_in wd_906)) (Nat.le_of_ble_eq_true rfl) (Nat.le_of_ble_eq_true rfl) (Nat.zero_le _) (Nat.zero_le _) dX9_film_101 ?_
    obtain ⟨x10, ex10, h⟩ := nm_s h
    refine tp_i ex10 ?_
    refine lv_istore (lv' := [(6, .int x10), (0, .ref (ad 0)), (1, .int v2), (2, .int v3), (3, .int v4), (4, .int v5), (5, .int v6)]) hx hb dX9_film_104 hl (by decide) rfl (fun ls hl => ?_)
    refine lv_iload hx hb dX9_film_106 (lv_at hl 0 rfl) ?_
    refine lv_iload hx hb dX9_film_108 (lv_at hl 5 rfl) ?_
    refine lv_icmp_ge (tgt := 120) hx hb dX9_film_110 (by decide) (fun c11 => ?_) (fun c11 => ?_)
    · have h := ip h c11
      obtain ⟨x12, ex12, h⟩ := nm_s h
      refine lv_iinc (v := x12) (lv' := [(5, .int x12), (6, .int x10), (0, .ref (ad 0)), (1, .int v2), (2, .int v3), (3, .int v4), (4, .int v5)]) hx hb dX9_film_120 hl (k := 6) rfl (by rw [ex12]; rfl) (by decide) rfl (fun ls hl => ?_)
      refine lv_goto (tgt := 37) hx hb dX9_film_123 (by decide) ?_
      exact hK37 h X (lv_sub hl [2, 3, 4, 5, 6, 0] rfl) 
    · have h := inn h c11
      refine lv_iload hx hb dX9_film_113 (lv_at hl 0 rfl) ?_
      refine lv_istore (lv' := [(4, .int x10), (6, .int x10), (0, .ref (ad 0)), (1, .int v2), (2, .int v3), (3, .int v4), (5, .int v6)]) hx hb dX9_film_115 hl (by decide) rfl (fun ls hl => ?_)
      refine lv_iload hx hb dX9_film_117 (lv_at hl 6 rfl) ?_
      refine lv_istore_n (lv' := [(3, .int v6), (4, .int x10), (6, .int x10), (0, .ref (ad 0)), (1, .int v2), (2, .int v3), (5, .int v6)]) hx hb dX9_film_119 rfl hl (by decide) rfl (fun ls hl => ?_)
      obtain ⟨x13, ex13, h⟩ := nm_s h
      refine lv_iinc (v := x13) (lv' := [(5, .int x13), (3, .int v6), (4, .int x10), (6, .int x10), (0, .ref (ad 0)), (1, .int v2), (2, .int v3)]) hx hb dX9_film_120 hl (k := 6) rfl (by rw [ex13]; rfl) (by decide) rfl (fun ls hl => ?_)
      refine lv_goto (tgt := 37) hx hb dX9_film_123 (by decide) ?_
      exact hK37 h X (lv_sub hl [4, 5, 6, 1, 2, 0] rfl) 
  · have h := inn h c9
    refine lv_aload_n hx hb dX9_film_75 rfl (lv_at hl 0 rfl) ?_
    refine g_get C X inT9 0 (by decide) (eC_0 g ad S) rfl 8 (by decide) wd_401 (v := .ref (ad 41)) rfl dX9_film_76 ?_
    obtain ⟨S14, qS14, h⟩ := bn1_s h
    refine kc_v X (res := S14) (rV (As := []) (rest := []) (n := 0) (k := 41) C X (c_X2_swing l g ad S _ 41 (by decide) qS14) wd_903 wd_746 wd_747 wd_79 wd_748 (by decide) (eC_41 g ad S) rfl rfl rfl (by decide +kernel) ⟨Nat.le_of_ble_eq_true rfl, Nat.le_of_ble_eq_true rfl⟩ rfl hl.1 (lv_room (Nat.le_of_ble_eq_true rfl)) dX9_film_79) (fun H locs X => ?_)
    obtain ⟨x15, ex15, h⟩ := nm_s h
    refine lv_iinc (v := x15) (lv' := [(6, .int x15), (0, .ref (ad 0)), (1, .int v2), (2, .int v3), (3, .int v4), (4, .int v5), (5, .int v6)]) hx hb dX9_film_82 hl (k := 6) rfl (by rw [ex15]; rfl) (by decide) rfl (fun ls hl => ?_)
    refine lv_goto (tgt := 69) hx hb dX9_film_85 (by decide) ?_
    exact hK69 h X (lv_sub hl [1, 2, 3, 4, 5, 6, 0] rfl) 
set_option maxHeartbeats 4000000 in
set_option maxRecDepth 100000 in
theorem kl_X9_film_69 {p : Program} {l : Launch} {e : Env} {s : State} {m : MethodId} {args : Array Value} {below : List Frame} {meth : Method} {c : Code} {g : GG} {ad : Nat → Nat} {res : (Int32 × ST)}  (C : CX kC g ad p s m args meth c cX9_film (some Jvm.ClassFile.FieldType.int) 7 yX9_film.cls (.code yX9_film cX9_film 7 (some Jvm.ClassFile.FieldType.int))) {K37 : Int32 → Int32 → Int32 → Int32 → Int32 → ST → Option (Int32 × ST)} (hK37 : ∀ {v2 : Int32} {v3 : Int32} {v4 : Int32} {v5 : Int32} {v6 : Int32} {S : ST} {H : Heap} {locs : List Loc} {ls : Array Slot}, K37 v2 v3 v4 v5 v6 S = some res → WX kC g ad s S H locs → lv_has ls 7 [(0, .ref (ad 0)), (1, .int v2), (2, .int v3), (3, .int v4), (4, .int v5), (5, .int v6)] → W p l e rmX9_film s m args below meth c H locs 0 0 (MQ below (QI kC g ad res (AA kC ad s.heap.size)) args s 0 0 (AA kC ad s.heap.size)) (F0 m 37 ls [])) : ∀ (n : Nat) {v2 : Int32} {v3 : Int32} {v4 : Int32} {v5 : Int32} {v6 : Int32} {v7 : Int32} {S : ST} {H : Heap} {locs : List Loc} {ls : Array Slot}, (lp (fun _ _ _ _ _ _ _ => none) (b_X9_film_69 K37)) n v2 v3 v4 v5 v6 v7 S = some res → WX kC g ad s S H locs → lv_has ls 7 [(0, .ref (ad 0)), (1, .int v2), (2, .int v3), (3, .int v4), (4, .int v5), (5, .int v6), (6, .int v7)] → W p l e rmX9_film s m args below meth c H locs 0 0 (MQ below (QI kC g ad res (AA kC ad s.heap.size)) args s 0 0 (AA kC ad s.heap.size)) (F0 m 69 ls []) := by
  intro n
  induction n with
  | zero =>
    intro v2 v3 v4 v5 v6 v7 S H locs ls h
    cases (show (none : Option (Int32 × ST)) = some res from h)
  | succ n ih =>
    intro v2 v3 v4 v5 v6 v7 S H locs ls h X hl 
    exact kb_X9_film_69 C hK37 ih h X hl 
set_option maxHeartbeats 4000000 in
set_option maxRecDepth 100000 in
theorem kb_X9_film_37 {p : Program} {l : Launch} {e : Env} {s : State} {m : MethodId} {args : Array Value} {below : List Frame} {meth : Method} {c : Code} {g : GG} {ad : Nat → Nat} {res : (Int32 × ST)} {S : ST} (C : CX kC g ad p s m args meth c cX9_film (some Jvm.ClassFile.FieldType.int) 7 yX9_film.cls (.code yX9_film cX9_film 7 (some Jvm.ClassFile.FieldType.int))) {K37 : Int32 → Int32 → Int32 → Int32 → Int32 → ST → Option (Int32 × ST)} (hK37 : ∀ {v2 : Int32} {v3 : Int32} {v4 : Int32} {v5 : Int32} {v6 : Int32} {S : ST} {H : Heap} {locs : List Loc} {ls : Array Slot}, K37 v2 v3 v4 v5 v6 S = some res → WX kC g ad s S H locs → lv_has ls 7 [(0, .ref (ad 0)), (1, .int v2), (2, .int v3), (3, .int v4), (4, .int v5), (5, .int v6)] → W p l e rmX9_film s m args below meth c H locs 0 0 (MQ below (QI kC g ad res (AA kC ad s.heap.size)) args s 0 0 (AA kC ad s.heap.size)) (F0 m 37 ls [])) {v2 : Int32} {v3 : Int32} {v4 : Int32} {v5 : Int32} {v6 : Int32}  {H : Heap} {locs : List Loc} {ls : Array Slot} (h : b_X9_film_37 K37 v2 v3 v4 v5 v6 S = some res) (X : WX kC g ad s S H locs) (hl : lv_has ls 7 [(0, .ref (ad 0)), (1, .int v2), (2, .int v3), (3, .int v4), (4, .int v5), (5, .int v6)])  : W p l e rmX9_film s m args below meth c H locs 0 0 (MQ below (QI kC g ad res (AA kC ad s.heap.size)) args s 0 0 (AA kC ad s.heap.size)) (F0 m 37 ls []) := by
  have hx := C.1.1
  have hb := C.1.2.1
  have h : (if ((600 : Int32)) < v6 then (some (v4, S)) else (bn1 (f_X9_lengthNow S) fun r6 => bn1 (f_X5_inHand ((3 : Int32)) S) fun r7 => bn1 (f_X2_begin 41 r6 r7 v6 S) fun S8 => lp (fun _ _ _ _ _ _ _ => none) (b_X9_film_69 K37) 1000 v2 v3 v4 v5 v6 ((1 : Int32)) S8) : Option (Int32 × ST)) = some res := h
  refine lv_iload hx hb dX9_film_37 (lv_at hl 5 rfl) ?_
  refine lv_sipush (v := (600 : Int32)) hx hb dX9_film_39 (by decide) ?_
  refine lv_icmp_gt (tgt := 126) hx hb dX9_film_42 (by decide) (fun c5 => ?_) (fun c5 => ?_)
  · have h := ip h c5
    refine lv_iload_n hx hb dX9_film_126 rfl (lv_at hl 3 rfl) ?_
    exact rt_i C X rfl (Option.some.inj h) dX9_film_127
  · have h := inn h c5
    refine lv_aload_n hx hb dX9_film_45 rfl (lv_at hl 0 rfl) ?_
    refine g_get C X inT9 0 (by decide) (eC_0 g ad S) rfl 8 (by decide) wd_401 (v := .ref (ad 41)) rfl dX9_film_46 ?_
    refine lv_aload_n hx hb dX9_film_49 rfl (lv_at hl 0 rfl) ?_
    obtain ⟨r6, qr6, h⟩ := bn1_s h
    refine kc_i X (res := (r6, S)) (rV (As := []) (rest := [.ref (ad 41)]) (n := 0) (k := 0) C X (c_X9_lengthNow l g ad S _   qr6) wd_697 wd_699 wd_14 wd_70 wd_700 (by decide) (eC_0 g ad S) rfl rfl rfl (by decide +kernel) ⟨Nat.le_of_ble_eq_true rfl, Nat.le_of_ble_eq_true rfl⟩ rfl hl.1 (lv_room (Nat.le_of_ble_eq_true rfl)) dX9_film_50) (fun H locs X => ?_)
    refine lv_aload_n hx hb dX9_film_53 rfl (lv_at hl 0 rfl) ?_
    refine g_get C X inT9 0 (by decide) (eC_0 g ad S) rfl 6 (by decide) wd_399 (v := .ref (ad 31)) rfl dX9_film_54 ?_
    refine lv_iconst (v := (3 : Int32)) hx hb dX9_film_57 (by decide) ?_
    obtain ⟨r7, qr7, h⟩ := bn1_s h
    refine kc_i X (res := (r7, S)) (rV (As := [.int ((3 : Int32))]) (rest := [.int r6, .ref (ad 41)]) (n := 1) (k := 31) C X (c_X5_inHand l g ad S _ ((3 : Int32))  qr7) wd_653 wd_654 wd_655 wd_78 wd_656 (by decide) (eC_31 g ad S) rfl rfl rfl (by decide +kernel) ⟨Nat.le_of_ble_eq_true rfl, Nat.le_of_ble_eq_true rfl⟩ rfl hl.1 (lv_room (Nat.le_of_ble_eq_true rfl)) dX9_film_58) (fun H locs X => ?_)
    refine lv_iload hx hb dX9_film_61 (lv_at hl 5 rfl) ?_
    obtain ⟨S8, qS8, h⟩ := bn1_s h
    refine kc_v X (res := S8) (rV (As := [.int r6, .int r7, .int v6]) (rest := []) (n := 3) (k := 41) C X (c_X2_begin l g ad S _ 41 r6 r7 v6 (by decide) qS8) wd_902 wd_731 wd_732 wd_79 wd_733 (by decide) (eC_41 g ad S) rfl rfl rfl (by decide +kernel) ⟨Nat.le_of_ble_eq_true rfl, Nat.le_of_ble_eq_true rfl⟩ rfl hl.1 (lv_room (Nat.le_of_ble_eq_true rfl)) dX9_film_63) (fun H locs X => ?_)
    refine lv_iconst (v := (1 : Int32)) hx hb dX9_film_66 (by decide) ?_
    refine lv_istore (lv' := [(6, .int ((1 : Int32))), (0, .ref (ad 0)), (1, .int v2), (2, .int v3), (3, .int v4), (4, .int v5), (5, .int v6)]) hx hb dX9_film_67 hl (by decide) rfl (fun ls hl => ?_)
    exact kl_X9_film_69 C hK37 _ h X (lv_sub hl [1, 2, 3, 4, 5, 6, 0] rfl) 
set_option maxHeartbeats 4000000 in
set_option maxRecDepth 100000 in
theorem kl_X9_film_37 {p : Program} {l : Launch} {e : Env} {s : State} {m : MethodId} {args : Array Value} {below : List Frame} {meth : Method} {c : Code} {g : GG} {ad : Nat → Nat} {res : (Int32 × ST)}  (C : CX kC g ad p s m args meth c cX9_film (some Jvm.ClassFile.FieldType.int) 7 yX9_film.cls (.code yX9_film cX9_film 7 (some Jvm.ClassFile.FieldType.int)))  : ∀ (n : Nat) {v2 : Int32} {v3 : Int32} {v4 : Int32} {v5 : Int32} {v6 : Int32} {S : ST} {H : Heap} {locs : List Loc} {ls : Array Slot}, (lp (fun _ _ _ _ _ _ => none) (b_X9_film_37)) n v2 v3 v4 v5 v6 S = some res → WX kC g ad s S H locs → lv_has ls 7 [(0, .ref (ad 0)), (1, .int v2), (2, .int v3), (3, .int v4), (4, .int v5), (5, .int v6)] → W p l e rmX9_film s m args below meth c H locs 0 0 (MQ below (QI kC g ad res (AA kC ad s.heap.size)) args s 0 0 (AA kC ad s.heap.size)) (F0 m 37 ls []) := by
  intro n
  induction n with
  | zero =>
    intro v2 v3 v4 v5 v6 S H locs ls h
    cases (show (none : Option (Int32 × ST)) = some res from h)
  | succ n ih =>
    intro v2 v3 v4 v5 v6 S H locs ls h X hl 
    exact kb_X9_film_37 C ih h X hl 
set_option maxHeartbeats 4000000 in
set_option maxRecDepth 100000 in
theorem c_X9_film (l : Launch) (g : GG) (ad : Nat → Nat) (S : ST) (sz : Nat) (a1 : Int32) (a2 : Int32)  {res : (Int32 × ST)} (h : f_X9_film a1 a2 S = some res) : Met l yX9_film (WS (.code yX9_film cX9_film 7 (some Jvm.ClassFile.FieldType.int))) rmX9_film (va_Pc [.ref (ad 0), .int a1, .int a2] (PW kC g ad S sz)) (QI kC g ad res (AA kC ad sz)) 0 0 (AA kC ad sz) := by
  refine go_m (Qc := fun A => QI kC g ad res A) (by decide) (Nat.le_of_ble_eq_true rfl) (fun p e s m below meth c ls H locs C X hl => ?_)
  have hx := C.1.1
  have hb := C.1.2.1
  have hl : lv_has ls 7 [(0, .ref (ad 0)), (1, .int a1), (2, .int a2)] := hl
  have h : (bn1 (f_X9_within a1 ((1 : Int32)) ((200 : Int32))) fun r1 => if r1 = 0 then (some ((-1000000002 : Int32), S)) else (bn1 (f_X9_within a2 ((-180 : Int32)) ((180 : Int32))) fun r3 => if r3 = 0 then (some ((-1000000002 : Int32), S)) else (lp (fun _ _ _ _ _ _ => none) (b_X9_film_37) 1000 a1 a2 ((0 : Int32)) ((2147483647 : Int32)) ((0 : Int32)) S)) : Option (Int32 × ST)) = some res := h
  refine lv_iload_n hx hb dX9_film_0 rfl (lv_at hl 1 rfl) ?_
  refine lv_iconst (v := (1 : Int32)) hx hb dX9_film_1 (by decide) ?_
  refine lv_sipush (v := (200 : Int32)) hx hb dX9_film_2 (by decide) ?_
  obtain ⟨r1, qr1, h⟩ := bn1_s h
  refine kc_i X (res := (r1, S)) (rS (As := [.int a1, .int ((1 : Int32)), .int ((200 : Int32))]) (rest := []) (n := 3) C X (c_X9_within l g ad S _ a1 ((1 : Int32)) ((200 : Int32))  qr1) wd_675 wd_564 wd_70 wd_565 rfl rfl (by decide +kernel) ⟨Nat.le_of_ble_eq_true rfl, Nat.le_of_ble_eq_true rfl⟩ rfl hl.1 (lv_room (Nat.le_of_ble_eq_true rfl)) dX9_film_5) (fun H locs X => ?_)
  refine lv_if_eq (tgt := 24) hx hb dX9_film_8 (by decide) (fun c2 => ?_) (fun c2 => ?_)
  · have h := ip h c2
    refine lv_ldc (v := (-1000000002 : Int32)) hx hb C.1.2.2.2.2.2.1 (C.1.2.2.2.2.2.2 _ (ws_in wd_440)) dX9_film_24 ?_
    exact rt_i C X rfl (Option.some.inj h) dX9_film_26
  · have h := inn h c2
    refine lv_iload_n hx hb dX9_film_11 rfl (lv_at hl 2 rfl) ?_
    refine lv_sipush (v := (-180 : Int32)) hx hb dX9_film_12 (by decide) ?_
    refine lv_sipush (v := (180 : Int32)) hx hb dX9_film_15 (by decide) ?_
    obtain ⟨r3, qr3, h⟩ := bn1_s h
    refine kc_i X (res := (r3, S)) (rS (As := [.int a2, .int ((-180 : Int32)), .int ((180 : Int32))]) (rest := []) (n := 3) C X (c_X9_within l g ad S _ a2 ((-180 : Int32)) ((180 : Int32))  qr3) wd_675 wd_564 wd_70 wd_565 rfl rfl (by decide +kernel) ⟨Nat.le_of_ble_eq_true rfl, Nat.le_of_ble_eq_true rfl⟩ rfl hl.1 (lv_room (Nat.le_of_ble_eq_true rfl)) dX9_film_18) (fun H locs X => ?_)
    refine lv_if_ne (tgt := 27) hx hb dX9_film_21 (by decide) (fun c4 => ?_) (fun c4 => ?_)
    · have h := inn h c4
      refine lv_iconst (v := (0 : Int32)) hx hb dX9_film_27 (by decide) ?_
      refine lv_istore_n (lv' := [(3, .int ((0 : Int32))), (0, .ref (ad 0)), (1, .int a1), (2, .int a2)]) hx hb dX9_film_28 rfl hl (by decide) rfl (fun ls hl => ?_)
      refine lv_ldcw (v := (2147483647 : Int32)) hx hb C.1.2.2.2.2.2.1 (C.1.2.2.2.2.2.2 _ (ws_in wd_901)) dX9_film_29 ?_
      refine lv_istore (lv' := [(4, .int ((2147483647 : Int32))), (3, .int ((0 : Int32))), (0, .ref (ad 0)), (1, .int a1), (2, .int a2)]) hx hb dX9_film_32 hl (by decide) rfl (fun ls hl => ?_)
      refine lv_iconst (v := (0 : Int32)) hx hb dX9_film_34 (by decide) ?_
      refine lv_istore (lv' := [(5, .int ((0 : Int32))), (4, .int ((2147483647 : Int32))), (3, .int ((0 : Int32))), (0, .ref (ad 0)), (1, .int a1), (2, .int a2)]) hx hb dX9_film_35 hl (by decide) rfl (fun ls hl => ?_)
      exact kl_X9_film_37 C _ h X (lv_sub hl [3, 4, 5, 2, 1, 0] rfl) 
    · have h := ip h c4
      refine lv_ldc (v := (-1000000002 : Int32)) hx hb C.1.2.2.2.2.2.1 (C.1.2.2.2.2.2.2 _ (ws_in wd_440)) dX9_film_24 ?_
      exact rt_i C X rfl (Option.some.inj h) dX9_film_26

def rmX9_age : Room := { frames := 5, cells := 0, slots := 0, locals := 119 }
def b_X9_age_20 (K20 : Int32 → ST → Option (Int32 × ST)) (v2 : Int32) (S : ST) : Option (Int32 × ST) :=
  if ((40 : Int32)) < v2 then (some ((-1 : Int32), S)) else (bn1 (f_X9_strengthAfter v2 S) fun r6 => nm (su S 51 2 r6) fun S7 => bn1 (f_X0_hold S7) fun S8 => bnd (f_X0_hasGoodTime S8) fun r10 S9 => if r10 = 0 then (some (v2, S9)) else (nm (v2 + (1 : Int32)) fun x12 => K20 x12 S9))
def f_X9_age (a1 : Int32) (S : ST) : Option (Int32 × ST) :=
  bn1 (f_X9_swingerAt a1 S) fun r1 => om r1 (some ((-1000000001 : Int32), S)) fun k2 => bn1 (f_X9_ready k2 S) fun S4 => lp (fun _ _ => none) (b_X9_age_20) 1000 ((0 : Int32)) S4
set_option maxHeartbeats 4000000 in
set_option maxRecDepth 100000 in
theorem kb_X9_age_20 {p : Program} {l : Launch} {e : Env} {s : State} {m : MethodId} {args : Array Value} {below : List Frame} {meth : Method} {c : Code} {g : GG} {ad : Nat → Nat} {res : (Int32 × ST)} {S : ST} (C : CX kC g ad p s m args meth c cX9_age (some Jvm.ClassFile.FieldType.int) 4 yX9_age.cls (.code yX9_age cX9_age 4 (some Jvm.ClassFile.FieldType.int))) {K20 : Int32 → ST → Option (Int32 × ST)} (hK20 : ∀ {v2 : Int32} {S : ST} {H : Heap} {locs : List Loc} {ls : Array Slot}, K20 v2 S = some res → WX kC g ad s S H locs → lv_has ls 4 [(0, .ref (ad 0)), (3, .int v2)] → W p l e rmX9_age s m args below meth c H locs 0 0 (MQ below (QI kC g ad res (AA kC ad s.heap.size)) args s 0 0 (AA kC ad s.heap.size)) (F0 m 20 ls [])) {v2 : Int32}  {H : Heap} {locs : List Loc} {ls : Array Slot} (h : b_X9_age_20 K20 v2 S = some res) (X : WX kC g ad s S H locs) (hl : lv_has ls 4 [(0, .ref (ad 0)), (3, .int v2)])  : W p l e rmX9_age s m args below meth c H locs 0 0 (MQ below (QI kC g ad res (AA kC ad s.heap.size)) args s 0 0 (AA kC ad s.heap.size)) (F0 m 20 ls []) := by
  have hx := C.1.1
  have hb := C.1.2.1
  have h : (if ((40 : Int32)) < v2 then (some ((-1 : Int32), S)) else (bn1 (f_X9_strengthAfter v2 S) fun r6 => nm (su S 51 2 r6) fun S7 => bn1 (f_X0_hold S7) fun S8 => bnd (f_X0_hasGoodTime S8) fun r10 S9 => if r10 = 0 then (some (v2, S9)) else (nm (v2 + (1 : Int32)) fun x12 => K20 x12 S9)) : Option (Int32 × ST)) = some res := h
  refine lv_iload_n hx hb dX9_age_20 rfl (lv_at hl 1 rfl) ?_
  refine lv_bipush (v := (40 : Int32)) hx hb dX9_age_21 (by decide) ?_
  refine lv_icmp_gt (tgt := 63) hx hb dX9_age_23 (by decide) (fun c5 => ?_) (fun c5 => ?_)
  · have h := ip h c5
    refine lv_iconst (v := (-1 : Int32)) hx hb dX9_age_63 (by decide) ?_
    exact rt_i C X rfl (Option.some.inj h) dX9_age_64
  · have h := inn h c5
    refine lv_aload_n hx hb dX9_age_26 rfl (lv_at hl 0 rfl) ?_
    refine g_get C X inT9 0 (by decide) (eC_0 g ad S) rfl 10 (by decide) wd_403 (v := .ref (ad 51)) rfl dX9_age_27 ?_
    refine lv_aload_n hx hb dX9_age_30 rfl (lv_at hl 0 rfl) ?_
    refine lv_iload_n hx hb dX9_age_31 rfl (lv_at hl 1 rfl) ?_
    obtain ⟨r6, qr6, h⟩ := bn1_s h
    refine kc_i X (res := (r6, S)) (rV (As := [.int v2]) (rest := [.ref (ad 51)]) (n := 1) (k := 0) C X (c_X9_strengthAfter l g ad S _ v2  qr6) wd_701 wd_703 wd_15 wd_70 wd_704 (by decide) (eC_0 g ad S) rfl rfl rfl (by decide +kernel) ⟨Nat.le_of_ble_eq_true rfl, Nat.le_of_ble_eq_true rfl⟩ rfl hl.1 (lv_room (Nat.le_of_ble_eq_true rfl)) dX9_age_32) (fun H locs X => ?_)
    obtain ⟨S7, eS7, h⟩ := nm_s h
    refine g_putN (S' := S7) C X inT0 tyX0 tyX0_ok nmX0 51 (by decide) (eC_51 g ad S) rfl 2 (by decide) nw_289 rfl (by rfl) rfl (Nat.le_of_ble_eq_true rfl) (by subst eS7; rfl) (by subst eS7; exact fun i hi => ent_offu hi) dX9_age_35 (fun H locs X => ?_)
    refine lv_aload_n hx hb dX9_age_38 rfl (lv_at hl 0 rfl) ?_
    refine g_get C X inT9 0 (by decide) (eC_0 g ad S7) rfl 10 (by decide) wd_403 (v := .ref (ad 51)) rfl dX9_age_39 ?_
    obtain ⟨S8, qS8, h⟩ := bn1_s h
    refine kc_v X (res := S8) (rV (As := []) (rest := []) (n := 0) (k := 51) C X (c_X0_hold l g ad S7 _   qS8) wd_793 wd_794 wd_795 wd_81 wd_796 (by decide) (eC_51 g ad S7) rfl rfl rfl (by decide +kernel) ⟨Nat.le_of_ble_eq_true rfl, Nat.le_of_ble_eq_true rfl⟩ rfl hl.1 (lv_room (Nat.le_of_ble_eq_true rfl)) dX9_age_42) (fun H locs X => ?_)
    refine lv_aload_n hx hb dX9_age_45 rfl (lv_at hl 0 rfl) ?_
    refine g_get C X inT9 0 (by decide) (eC_0 g ad S8) rfl 10 (by decide) wd_403 (v := .ref (ad 51)) rfl dX9_age_46 ?_
    obtain ⟨r10, S9, qr10, h⟩ := bnd_s h
    refine kc_i X (res := (r10, S9)) (rV (As := []) (rest := []) (n := 0) (k := 51) C X (c_X0_hasGoodTime l g ad S8 _   qr10) wd_880 wd_881 wd_882 wd_81 wd_883 (by decide) (eC_51 g ad S8) rfl rfl rfl (by decide +kernel) ⟨Nat.le_of_ble_eq_true rfl, Nat.le_of_ble_eq_true rfl⟩ rfl hl.1 (lv_room (Nat.le_of_ble_eq_true rfl)) dX9_age_49) (fun H locs X => ?_)
    refine lv_if_ne (tgt := 57) hx hb dX9_age_52 (by decide) (fun c11 => ?_) (fun c11 => ?_)
    · have h := inn h c11
      obtain ⟨x12, ex12, h⟩ := nm_s h
      refine lv_iinc (v := x12) (lv' := [(3, .int x12), (0, .ref (ad 0))]) hx hb dX9_age_57 hl (k := 1) rfl (by rw [ex12]; rfl) (by decide) rfl (fun ls hl => ?_)
      refine lv_goto (tgt := 20) hx hb dX9_age_60 (by decide) ?_
      exact hK20 h X (lv_sub hl [1, 0] rfl) 
    · have h := ip h c11
      refine lv_iload_n hx hb dX9_age_55 rfl (lv_at hl 1 rfl) ?_
      exact rt_i C X rfl (Option.some.inj h) dX9_age_56
set_option maxHeartbeats 4000000 in
set_option maxRecDepth 100000 in
theorem kl_X9_age_20 {p : Program} {l : Launch} {e : Env} {s : State} {m : MethodId} {args : Array Value} {below : List Frame} {meth : Method} {c : Code} {g : GG} {ad : Nat → Nat} {res : (Int32 × ST)}  (C : CX kC g ad p s m args meth c cX9_age (some Jvm.ClassFile.FieldType.int) 4 yX9_age.cls (.code yX9_age cX9_age 4 (some Jvm.ClassFile.FieldType.int)))  : ∀ (n : Nat) {v2 : Int32} {S : ST} {H : Heap} {locs : List Loc} {ls : Array Slot}, (lp (fun _ _ => none) (b_X9_age_20)) n v2 S = some res → WX kC g ad s S H locs → lv_has ls 4 [(0, .ref (ad 0)), (3, .int v2)] → W p l e rmX9_age s m args below meth c H locs 0 0 (MQ below (QI kC g ad res (AA kC ad s.heap.size)) args s 0 0 (AA kC ad s.heap.size)) (F0 m 20 ls []) := by
  intro n
  induction n with
  | zero =>
    intro v2 S H locs ls h
    cases (show (none : Option (Int32 × ST)) = some res from h)
  | succ n ih =>
    intro v2 S H locs ls h X hl 
    exact kb_X9_age_20 C ih h X hl 
set_option maxHeartbeats 4000000 in
set_option maxRecDepth 100000 in
theorem c_X9_age (l : Launch) (g : GG) (ad : Nat → Nat) (S : ST) (sz : Nat) (a1 : Int32)  {res : (Int32 × ST)} (h : f_X9_age a1 S = some res) : Met l yX9_age (WS (.code yX9_age cX9_age 4 (some Jvm.ClassFile.FieldType.int))) rmX9_age (va_Pc [.ref (ad 0), .int a1] (PW kC g ad S sz)) (QI kC g ad res (AA kC ad sz)) 0 0 (AA kC ad sz) := by
  refine go_m (Qc := fun A => QI kC g ad res A) (by decide) (Nat.le_of_ble_eq_true rfl) (fun p e s m below meth c ls H locs C X hl => ?_)
  have hx := C.1.1
  have hb := C.1.2.1
  have hl : lv_has ls 4 [(0, .ref (ad 0)), (1, .int a1)] := hl
  have h : (bn1 (f_X9_swingerAt a1 S) fun r1 => om r1 (some ((-1000000001 : Int32), S)) fun k2 => bn1 (f_X9_ready k2 S) fun S4 => lp (fun _ _ => none) (b_X9_age_20) 1000 ((0 : Int32)) S4 : Option (Int32 × ST)) = some res := h
  refine lv_aload_n hx hb dX9_age_0 rfl (lv_at hl 0 rfl) ?_
  refine lv_iload_n hx hb dX9_age_1 rfl (lv_at hl 1 rfl) ?_
  obtain ⟨r1, qr1, h⟩ := bn1_s h
  refine kc_q X (res := (r1, S)) (rV (As := [.int a1]) (rest := []) (n := 1) (k := 0) C X (c_X9_swingerAt l g ad S _ a1  qr1) wd_671 wd_673 wd_12 wd_70 wd_674 (by decide) (eC_0 g ad S) rfl rfl rfl (by decide +kernel) ⟨Nat.le_of_ble_eq_true rfl, Nat.le_of_ble_eq_true rfl⟩ rfl hl.1 (lv_room (Nat.le_of_ble_eq_true rfl)) dX9_age_2) (fun H locs X => ?_)
  cases r1 with
  | none =>
    have h := om_n h
    refine lv_astore_nN (lv' := [(2, .null), (0, .ref (ad 0)), (1, .int a1)]) hx hb dX9_age_5 rfl hl (by decide) rfl (fun ls hl => ?_)
    refine lv_aload_nN hx hb dX9_age_6 rfl (lv_at hl 0 rfl) ?_
    refine lv_ifnonnullN hx hb dX9_age_7 ?_
    refine lv_ldc (v := (-1000000001 : Int32)) hx hb C.1.2.2.2.2.2.1 (C.1.2.2.2.2.2.2 _ (ws_in wd_644)) dX9_age_10 ?_
    exact rt_i C X rfl (Option.some.inj h) dX9_age_12
  | some k2 =>
    have h := om_s h
    have y3 : swk k2 = true := ok_X9_swingerAt qr1
    refine lv_astore_n (lv' := [(2, .ref (ad k2)), (0, .ref (ad 0)), (1, .int a1)]) hx hb dX9_age_5 rfl hl (by decide) rfl (fun ls hl => ?_)
    refine lv_aload_n hx hb dX9_age_6 rfl (lv_at hl 0 rfl) ?_
    refine lv_ifnonnull (tgt := 13) hx hb dX9_age_7 (by decide) ?_
    refine lv_aload_n hx hb dX9_age_13 rfl (lv_at hl 1 rfl) ?_
    refine lv_aload_n hx hb dX9_age_14 rfl (lv_at hl 0 rfl) ?_
    obtain ⟨S4, qS4, h⟩ := bn1_s h
    refine kc_v X (res := S4) (rV (As := [.ref (ad k2)]) (rest := []) (n := 1) (k := 0) C X (c_X9_ready l g ad S _ k2 y3 qS4) wd_784 wd_786 wd_18 wd_70 wd_787 (by decide) (eC_0 g ad S) rfl rfl rfl (by decide +kernel) ⟨Nat.le_of_ble_eq_true rfl, Nat.le_of_ble_eq_true rfl⟩ rfl hl.1 (lv_room (Nat.le_of_ble_eq_true rfl)) dX9_age_15) (fun H locs X => ?_)
    refine lv_iconst (v := (0 : Int32)) hx hb dX9_age_18 (by decide) ?_
    refine lv_istore_n (lv' := [(3, .int ((0 : Int32))), (2, .ref (ad k2)), (0, .ref (ad 0)), (1, .int a1)]) hx hb dX9_age_19 rfl hl (by decide) rfl (fun ls hl => ?_)
    exact kl_X9_age_20 C _ h X (lv_sub hl [2, 0] rfl) 

def rmX9_findFarthest : Room := { frames := 5, cells := 0, slots := 0, locals := 119 }
def b_X9_findFarthest_64 (K2 : Int32 → ST → Option ST) (v2 : Int32) (v3 : Int32) (v4 : Int32) (S : ST) : Option ST :=
  bn1 (f_X9_put 53 v4 v3 S) fun S9 => nm (v2 + (1 : Int32)) fun x10 => K2 x10 S9
def b_X9_findFarthest_2 (K2 : Int32 → ST → Option ST) (v2 : Int32) (S : ST) : Option ST :=
  if (S.1 0 5) ≤ v2 then (some S) else (bn1 (f_X9_swingerAt v2 S) fun r2 => om r2 (nm (v2 + (1 : Int32)) fun x5 => K2 x5 S) fun k3 => bn1 (f_X9_ready k3 S) fun S6 => bn1 (f_X8_scan S6) fun S7 => if (S7.1 52 0) = ((-1 : Int32)) then (b_X9_findFarthest_64 K2 v2 ((20 : Int32)) v2 S7) else (b_X9_findFarthest_64 K2 v2 (S7.1 52 0) v2 S7))
def f_X9_findFarthest  (S : ST) : Option ST :=
  lp (fun _ _ => none) (b_X9_findFarthest_2) 1000 ((0 : Int32)) S
set_option maxHeartbeats 4000000 in
set_option maxRecDepth 100000 in
theorem kb_X9_findFarthest_64 {p : Program} {l : Launch} {e : Env} {s : State} {m : MethodId} {args : Array Value} {below : List Frame} {meth : Method} {c : Code} {g : GG} {ad : Nat → Nat} {res : ST} {S : ST} (C : CX kC g ad p s m args meth c cX9_findFarthest none 3 yX9_findFarthest.cls (.code yX9_findFarthest cX9_findFarthest 3 none)) {K2 : Int32 → ST → Option ST} (hK2 : ∀ {v2 : Int32} {S : ST} {H : Heap} {locs : List Loc} {ls : Array Slot}, K2 v2 S = some res → WX kC g ad s S H locs → lv_has ls 3 [(0, .ref (ad 0)), (1, .int v2)] → W p l e rmX9_findFarthest s m args below meth c H locs 0 0 (MQ below (QV kC g ad res (AA kC ad s.heap.size)) args s 0 0 (AA kC ad s.heap.size)) (F0 m 2 ls [])) {v2 : Int32} {v3 : Int32} {v4 : Int32}  {H : Heap} {locs : List Loc} {ls : Array Slot} (h : b_X9_findFarthest_64 K2 v2 v3 v4 S = some res) (X : WX kC g ad s S H locs) (hl : lv_has ls 3 [(0, .ref (ad 0)), (1, .int v2)])  : W p l e rmX9_findFarthest s m args below meth c H locs 0 0 (MQ below (QV kC g ad res (AA kC ad s.heap.size)) args s 0 0 (AA kC ad s.heap.size)) (F0 m 64 ls [.int v3, .int v4, .ref (ad 53)]) := by
  have hx := C.1.1
  have hb := C.1.2.1
  have h : (bn1 (f_X9_put 53 v4 v3 S) fun S9 => nm (v2 + (1 : Int32)) fun x10 => K2 x10 S9 : Option ST) = some res := h
  obtain ⟨S9, qS9, h⟩ := bn1_s h
  refine kc_v X (res := S9) (rS (As := [.ref (ad 53), .int v4, .int v3]) (rest := []) (n := 3) C X (c_X9_put l g ad S _ 53 v4 v3 (by decide) qS9) wd_919 wd_387 wd_70 wd_388 rfl rfl (by decide +kernel) ⟨Nat.le_of_ble_eq_true rfl, Nat.le_of_ble_eq_true rfl⟩ rfl hl.1 (lv_room (Nat.le_of_ble_eq_true rfl)) dX9_findFarthest_64) (fun H locs X => ?_)
  obtain ⟨x10, ex10, h⟩ := nm_s h
  refine lv_iinc (v := x10) (lv' := [(1, .int x10), (0, .ref (ad 0))]) hx hb dX9_findFarthest_67 hl (k := 1) rfl (by rw [ex10]; rfl) (by decide) rfl (fun ls hl => ?_)
  refine lv_goto (tgt := 2) hx hb dX9_findFarthest_70 (by decide) ?_
  exact hK2 h X (lv_sub hl [1, 0] rfl) 
set_option maxHeartbeats 4000000 in
set_option maxRecDepth 100000 in
theorem kb_X9_findFarthest_2 {p : Program} {l : Launch} {e : Env} {s : State} {m : MethodId} {args : Array Value} {below : List Frame} {meth : Method} {c : Code} {g : GG} {ad : Nat → Nat} {res : ST} {S : ST} (C : CX kC g ad p s m args meth c cX9_findFarthest none 3 yX9_findFarthest.cls (.code yX9_findFarthest cX9_findFarthest 3 none)) {K2 : Int32 → ST → Option ST} (hK2 : ∀ {v2 : Int32} {S : ST} {H : Heap} {locs : List Loc} {ls : Array Slot}, K2 v2 S = some res → WX kC g ad s S H locs → lv_has ls 3 [(0, .ref (ad 0)), (1, .int v2)] → W p l e rmX9_findFarthest s m args below meth c H locs 0 0 (MQ below (QV kC g ad res (AA kC ad s.heap.size)) args s 0 0 (AA kC ad s.heap.size)) (F0 m 2 ls [])) {v2 : Int32}  {H : Heap} {locs : List Loc} {ls : Array Slot} (h : b_X9_findFarthest_2 K2 v2 S = some res) (X : WX kC g ad s S H locs) (hl : lv_has ls 3 [(0, .ref (ad 0)), (1, .int v2)])  : W p l e rmX9_findFarthest s m args below meth c H locs 0 0 (MQ below (QV kC g ad res (AA kC ad s.heap.size)) args s 0 0 (AA kC ad s.heap.size)) (F0 m 2 ls []) := by
  have hx := C.1.1
  have hb := C.1.2.1
  have h : (if (S.1 0 5) ≤ v2 then (some S) else (bn1 (f_X9_swingerAt v2 S) fun r2 => om r2 (nm (v2 + (1 : Int32)) fun x5 => K2 x5 S) fun k3 => bn1 (f_X9_ready k3 S) fun S6 => bn1 (f_X8_scan S6) fun S7 => if (S7.1 52 0) = ((-1 : Int32)) then (b_X9_findFarthest_64 K2 v2 ((20 : Int32)) v2 S7) else (b_X9_findFarthest_64 K2 v2 (S7.1 52 0) v2 S7)) : Option ST) = some res := h
  refine lv_iload_n hx hb dX9_findFarthest_2 rfl (lv_at hl 1 rfl) ?_
  refine lv_aload_n hx hb dX9_findFarthest_3 rfl (lv_at hl 0 rfl) ?_
  refine g_get C X inT9 0 (by decide) (eC_0 g ad S) rfl 5 (by decide) wd_398 (v := .int (S.1 0 5)) rfl dX9_findFarthest_4 ?_
  refine lv_icmp_ge (tgt := 73) hx hb dX9_findFarthest_7 (by decide) (fun c1 => ?_) (fun c1 => ?_)
  · have h := ip h c1
    exact rt_v C X rfl (Option.some.inj h) dX9_findFarthest_73
  · have h := inn h c1
    refine lv_aload_n hx hb dX9_findFarthest_10 rfl (lv_at hl 0 rfl) ?_
    refine lv_iload_n hx hb dX9_findFarthest_11 rfl (lv_at hl 1 rfl) ?_
    obtain ⟨r2, qr2, h⟩ := bn1_s h
    refine kc_q X (res := (r2, S)) (rV (As := [.int v2]) (rest := []) (n := 1) (k := 0) C X (c_X9_swingerAt l g ad S _ v2  qr2) wd_671 wd_673 wd_12 wd_70 wd_674 (by decide) (eC_0 g ad S) rfl rfl rfl (by decide +kernel) ⟨Nat.le_of_ble_eq_true rfl, Nat.le_of_ble_eq_true rfl⟩ rfl hl.1 (lv_room (Nat.le_of_ble_eq_true rfl)) dX9_findFarthest_12) (fun H locs X => ?_)
    cases r2 with
    | none =>
      have h := om_n h
      refine lv_astore_nN (lv' := [(2, .null), (0, .ref (ad 0)), (1, .int v2)]) hx hb dX9_findFarthest_15 rfl hl (by decide) rfl (fun ls hl => ?_)
      refine lv_aload_nN hx hb dX9_findFarthest_16 rfl (lv_at hl 0 rfl) ?_
      refine lv_ifnullN (tgt := 67) hx hb dX9_findFarthest_17 (by decide) ?_
      obtain ⟨x5, ex5, h⟩ := nm_s h
      refine lv_iinc (v := x5) (lv' := [(1, .int x5), (2, .null), (0, .ref (ad 0))]) hx hb dX9_findFarthest_67 hl (k := 2) rfl (by rw [ex5]; rfl) (by decide) rfl (fun ls hl => ?_)
      refine lv_goto (tgt := 2) hx hb dX9_findFarthest_70 (by decide) ?_
      exact hK2 h X (lv_sub hl [2, 0] rfl) 
    | some k3 =>
      have h := om_s h
      have y4 : swk k3 = true := ok_X9_swingerAt qr2
      refine lv_astore_n (lv' := [(2, .ref (ad k3)), (0, .ref (ad 0)), (1, .int v2)]) hx hb dX9_findFarthest_15 rfl hl (by decide) rfl (fun ls hl => ?_)
      refine lv_aload_n hx hb dX9_findFarthest_16 rfl (lv_at hl 0 rfl) ?_
      refine lv_ifnull hx hb dX9_findFarthest_17 ?_
      refine lv_aload_n hx hb dX9_findFarthest_20 rfl (lv_at hl 1 rfl) ?_
      refine lv_aload_n hx hb dX9_findFarthest_21 rfl (lv_at hl 0 rfl) ?_
      obtain ⟨S6, qS6, h⟩ := bn1_s h
      refine kc_v X (res := S6) (rV (As := [.ref (ad k3)]) (rest := []) (n := 1) (k := 0) C X (c_X9_ready l g ad S _ k3 y4 qS6) wd_784 wd_786 wd_18 wd_70 wd_787 (by decide) (eC_0 g ad S) rfl rfl rfl (by decide +kernel) ⟨Nat.le_of_ble_eq_true rfl, Nat.le_of_ble_eq_true rfl⟩ rfl hl.1 (lv_room (Nat.le_of_ble_eq_true rfl)) dX9_findFarthest_22) (fun H locs X => ?_)
      refine lv_aload_n hx hb dX9_findFarthest_25 rfl (lv_at hl 1 rfl) ?_
      refine g_get C X inT9 0 (by decide) (eC_0 g ad S6) rfl 11 (by decide) wd_404 (v := .ref (ad 52)) rfl dX9_findFarthest_26 ?_
      refine lv_aload_n hx hb dX9_findFarthest_29 rfl (lv_at hl 1 rfl) ?_
      refine g_get C X inT9 0 (by decide) (eC_0 g ad S6) rfl 10 (by decide) wd_403 (v := .ref (ad 51)) rfl dX9_findFarthest_30 ?_
      obtain ⟨S7, qS7, h⟩ := bn1_s h
      refine kc_v X (res := S7) (rV (As := [.ref (ad 51)]) (rest := []) (n := 1) (k := 52) C X (c_X8_scan l g ad S6 _   qS7) wd_840 wd_841 wd_842 wd_82 wd_843 (by decide) (eC_52 g ad S6) rfl rfl rfl (by decide +kernel) ⟨Nat.le_of_ble_eq_true rfl, Nat.le_of_ble_eq_true rfl⟩ rfl hl.1 (lv_room (Nat.le_of_ble_eq_true rfl)) dX9_findFarthest_33) (fun H locs X => ?_)
      refine lv_aload_n hx hb dX9_findFarthest_36 rfl (lv_at hl 1 rfl) ?_
      refine g_get C X inT9 0 (by decide) (eC_0 g ad S7) rfl 12 (by decide) wd_405 (v := .ref (ad 53)) rfl dX9_findFarthest_37 ?_
      refine lv_iload_n hx hb dX9_findFarthest_40 rfl (lv_at hl 2 rfl) ?_
      refine lv_aload_n hx hb dX9_findFarthest_41 rfl (lv_at hl 1 rfl) ?_
      refine g_get C X inT9 0 (by decide) (eC_0 g ad S7) rfl 11 (by decide) wd_404 (v := .ref (ad 52)) rfl dX9_findFarthest_42 ?_
      refine g_getN C X inT8 52 (by decide) (eC_52 g ad S7) rfl 0 (by decide) nw_358 (v := .int (S7.1 52 0)) rfl dX9_findFarthest_45 ?_
      refine lv_iconst (v := (-1 : Int32)) hx hb dX9_findFarthest_48 (by decide) ?_
      refine lv_icmp_ne (tgt := 57) hx hb dX9_findFarthest_49 (by decide) (fun c8 => ?_) (fun c8 => ?_)
      · have h := inn h c8
        refine lv_aload_n hx hb dX9_findFarthest_57 rfl (lv_at hl 1 rfl) ?_
        refine g_get C X inT9 0 (by decide) (eC_0 g ad S7) rfl 11 (by decide) wd_404 (v := .ref (ad 52)) rfl dX9_findFarthest_58 ?_
        refine g_getN C X inT8 52 (by decide) (eC_52 g ad S7) rfl 0 (by decide) nw_358 (v := .int (S7.1 52 0)) rfl dX9_findFarthest_61 ?_
        exact kb_X9_findFarthest_64 C hK2 h X (lv_sub hl [1, 2] rfl) 
      · have h := ip h c8
        refine lv_bipush (v := (20 : Int32)) hx hb dX9_findFarthest_52 (by decide) ?_
        refine lv_goto (tgt := 64) hx hb dX9_findFarthest_54 (by decide) ?_
        exact kb_X9_findFarthest_64 C hK2 h X (lv_sub hl [1, 2] rfl) 
set_option maxHeartbeats 4000000 in
set_option maxRecDepth 100000 in
theorem kl_X9_findFarthest_2 {p : Program} {l : Launch} {e : Env} {s : State} {m : MethodId} {args : Array Value} {below : List Frame} {meth : Method} {c : Code} {g : GG} {ad : Nat → Nat} {res : ST}  (C : CX kC g ad p s m args meth c cX9_findFarthest none 3 yX9_findFarthest.cls (.code yX9_findFarthest cX9_findFarthest 3 none))  : ∀ (n : Nat) {v2 : Int32} {S : ST} {H : Heap} {locs : List Loc} {ls : Array Slot}, (lp (fun _ _ => none) (b_X9_findFarthest_2)) n v2 S = some res → WX kC g ad s S H locs → lv_has ls 3 [(0, .ref (ad 0)), (1, .int v2)] → W p l e rmX9_findFarthest s m args below meth c H locs 0 0 (MQ below (QV kC g ad res (AA kC ad s.heap.size)) args s 0 0 (AA kC ad s.heap.size)) (F0 m 2 ls []) := by
  intro n
  induction n with
  | zero =>
    intro v2 S H locs ls h
    cases (show (none : Option ST) = some res from h)
  | succ n ih =>
    intro v2 S H locs ls h X hl 
    exact kb_X9_findFarthest_2 C ih h X hl 
set_option maxHeartbeats 4000000 in
set_option maxRecDepth 100000 in
theorem c_X9_findFarthest (l : Launch) (g : GG) (ad : Nat → Nat) (S : ST) (sz : Nat)   {res : ST} (h : f_X9_findFarthest S = some res) : Met l yX9_findFarthest (WS (.code yX9_findFarthest cX9_findFarthest 3 none)) rmX9_findFarthest (va_Pc [.ref (ad 0)] (PW kC g ad S sz)) (QV kC g ad res (AA kC ad sz)) 0 0 (AA kC ad sz) := by
  refine go_m (Qc := fun A => QV kC g ad res A) (by decide) (Nat.le_of_ble_eq_true rfl) (fun p e s m below meth c ls H locs C X hl => ?_)
  have hx := C.1.1
  have hb := C.1.2.1
  have hl : lv_has ls 3 [(0, .ref (ad 0))] := hl
  have h : (lp (fun _ _ => none) (b_X9_findFarthest_2) 1000 ((0 : Int32)) S : Option ST) = some res := h
  refine lv_iconst (v := (0 : Int32)) hx hb dX9_findFarthest_0 (by decide) ?_
  refine lv_istore_n (lv' := [(1, .int ((0 : Int32))), (0, .ref (ad 0))]) hx hb dX9_findFarthest_1 rfl hl (by decide) rfl (fun ls hl => ?_)
  exact kl_X9_findFarthest_2 C _ h X (lv_sub hl [1, 0] rfl) 

def rmX9_keptOut : Room := { frames := 3, cells := 0, slots := 0, locals := 62 }
def b_X9_keptOut_32 (S : ST)  (v2 : Int32) : Option Int32 :=
  if (v2 &&& ((32 : Int32))) = 0 then (some ((0 : Int32))) else (bn1 (f_X9_lowerNow S) fun r4 => if r4 < ((50 : Int32)) then (some ((0 : Int32))) else (some ((1 : Int32))))
def b_X9_keptOut_16 (S : ST)  (v2 : Nat) (v3 : Int32) : Option Int32 :=
  if (v3 &&& ((2 : Int32))) = 0 then (b_X9_keptOut_32 S v3) else (bn1 (f_X6_number v2 ((0 : Int32)) S) fun r6 => if ((90 : Int32)) < r6 then (some ((1 : Int32))) else (b_X9_keptOut_32 S v3))
def f_X9_keptOut (a1 : Nat) (a2 : Int32) (S : ST) : Option Int32 :=
  if (a2 &&& ((1 : Int32))) = 0 then (b_X9_keptOut_16 S a1 a2) else (bn1 (f_X6_number a1 ((0 : Int32)) S) fun r8 => if r8 < ((30 : Int32)) then (some ((1 : Int32))) else (b_X9_keptOut_16 S a1 a2))
set_option maxHeartbeats 4000000 in
set_option maxRecDepth 100000 in
theorem kb_X9_keptOut_32 {p : Program} {l : Launch} {e : Env} {s : State} {m : MethodId} {args : Array Value} {below : List Frame} {meth : Method} {c : Code} {g : GG} {ad : Nat → Nat} {res : Int32} {S : ST} (C : CX kC g ad p s m args meth c cX9_keptOut (some Jvm.ClassFile.FieldType.boolean) 3 yX9_keptOut.cls (.code yX9_keptOut cX9_keptOut 3 (some Jvm.ClassFile.FieldType.boolean)))  {v2 : Int32}  {H : Heap} {locs : List Loc} {ls : Array Slot} (h : b_X9_keptOut_32 S v2 = some res) (X : WX kC g ad s S H locs) (hl : lv_has ls 3 [(0, .ref (ad 0)), (2, .int v2)])  : W p l e rmX9_keptOut s m args below meth c H locs 0 0 (MQ below (QI kC g ad (res, S) (AA kC ad s.heap.size)) args s 0 0 (AA kC ad s.heap.size)) (F0 m 32 ls []) := by
  have hx := C.1.1
  have hb := C.1.2.1
  have h : (if (v2 &&& ((32 : Int32))) = 0 then (some ((0 : Int32))) else (bn1 (f_X9_lowerNow S) fun r4 => if r4 < ((50 : Int32)) then (some ((0 : Int32))) else (some ((1 : Int32)))) : Option Int32) = some res := h
  refine lv_iload_n hx hb dX9_keptOut_32 rfl (lv_at hl 1 rfl) ?_
  refine lv_bipush (v := (32 : Int32)) hx hb dX9_keptOut_33 (by decide) ?_
  refine lv_iand hx hb dX9_keptOut_35 ?_
  refine lv_if_eq (tgt := 52) hx hb dX9_keptOut_36 (by decide) (fun c3 => ?_) (fun c3 => ?_)
  · have h := ip h c3
    refine lv_iconst (v := (0 : Int32)) hx hb dX9_keptOut_52 (by decide) ?_
    exact rt_z C X rfl (by decide) (congrArg (fun z => (z, S)) (Option.some.inj h)) dX9_keptOut_53
  · have h := inn h c3
    refine lv_aload_n hx hb dX9_keptOut_39 rfl (lv_at hl 0 rfl) ?_
    obtain ⟨r4, qr4, h⟩ := bn1_s h
    refine kc_i X (res := (r4, S)) (rV (As := []) (rest := []) (n := 0) (k := 0) C X (c_X9_lowerNow l g ad S _   qr4) wd_649 wd_651 wd_11 wd_70 wd_652 (by decide) (eC_0 g ad S) rfl rfl rfl (by decide +kernel) ⟨Nat.le_of_ble_eq_true rfl, Nat.le_of_ble_eq_true rfl⟩ rfl hl.1 (lv_room (Nat.le_of_ble_eq_true rfl)) dX9_keptOut_40) (fun H locs X => ?_)
    refine lv_bipush (v := (50 : Int32)) hx hb dX9_keptOut_43 (by decide) ?_
    refine lv_icmp_lt (tgt := 52) hx hb dX9_keptOut_45 (by decide) (fun c5 => ?_) (fun c5 => ?_)
    · have h := ip h c5
      refine lv_iconst (v := (0 : Int32)) hx hb dX9_keptOut_52 (by decide) ?_
      exact rt_z C X rfl (by decide) (congrArg (fun z => (z, S)) (Option.some.inj h)) dX9_keptOut_53
    · have h := inn h c5
      refine lv_iconst (v := (1 : Int32)) hx hb dX9_keptOut_48 (by decide) ?_
      refine lv_goto (tgt := 53) hx hb dX9_keptOut_49 (by decide) ?_
      exact rt_z C X rfl (by decide) (congrArg (fun z => (z, S)) (Option.some.inj h)) dX9_keptOut_53
set_option maxHeartbeats 4000000 in
set_option maxRecDepth 100000 in
theorem kb_X9_keptOut_16 {p : Program} {l : Launch} {e : Env} {s : State} {m : MethodId} {args : Array Value} {below : List Frame} {meth : Method} {c : Code} {g : GG} {ad : Nat → Nat} {res : Int32} {S : ST} (C : CX kC g ad p s m args meth c cX9_keptOut (some Jvm.ClassFile.FieldType.boolean) 3 yX9_keptOut.cls (.code yX9_keptOut cX9_keptOut 3 (some Jvm.ClassFile.FieldType.boolean)))  {v2 : Nat} {v3 : Int32}  {H : Heap} {locs : List Loc} {ls : Array Slot} (h : b_X9_keptOut_16 S v2 v3 = some res) (X : WX kC g ad s S H locs) (hl : lv_has ls 3 [(0, .ref (ad 0)), (1, .ref (ad v2)), (2, .int v3)]) (g2 : swk v2 = true) : W p l e rmX9_keptOut s m args below meth c H locs 0 0 (MQ below (QI kC g ad (res, S) (AA kC ad s.heap.size)) args s 0 0 (AA kC ad s.heap.size)) (F0 m 16 ls []) := by
  have hx := C.1.1
  have hb := C.1.2.1
  have h : (if (v3 &&& ((2 : Int32))) = 0 then (b_X9_keptOut_32 S v3) else (bn1 (f_X6_number v2 ((0 : Int32)) S) fun r6 => if ((90 : Int32)) < r6 then (some ((1 : Int32))) else (b_X9_keptOut_32 S v3)) : Option Int32) = some res := h
  refine lv_iload_n hx hb dX9_keptOut_16 rfl (lv_at hl 2 rfl) ?_
  refine lv_iconst (v := (2 : Int32)) hx hb dX9_keptOut_17 (by decide) ?_
  refine lv_iand hx hb dX9_keptOut_18 ?_
  refine lv_if_eq (tgt := 32) hx hb dX9_keptOut_19 (by decide) (fun c2 => ?_) (fun c2 => ?_)
  · have h := ip h c2
    exact kb_X9_keptOut_32 C h X (lv_sub hl [0, 2] rfl) 
  · have h := inn h c2
    refine lv_aload_n hx hb dX9_keptOut_22 rfl (lv_at hl 1 rfl) ?_
    refine lv_iconst (v := (0 : Int32)) hx hb dX9_keptOut_23 (by decide) ?_
    obtain ⟨r6, qr6, h⟩ := bn1_s h
    refine kc_i X (res := (r6, S)) (rV (As := [.int ((0 : Int32))]) (rest := []) (n := 1) (k := v2) C X (c_X6_number l g ad S _ v2 ((0 : Int32)) g2 qr6) wd_676 wd_677 wd_678 wd_77 wd_679 (lt_sw g2) (e_sw g ad S g2) rfl rfl rfl (by decide +kernel) ⟨Nat.le_of_ble_eq_true rfl, Nat.le_of_ble_eq_true rfl⟩ rfl hl.1 (lv_room (Nat.le_of_ble_eq_true rfl)) dX9_keptOut_24) (fun H locs X => ?_)
    refine lv_bipush (v := (90 : Int32)) hx hb dX9_keptOut_27 (by decide) ?_
    refine lv_icmp_gt (tgt := 48) hx hb dX9_keptOut_29 (by decide) (fun c7 => ?_) (fun c7 => ?_)
    · have h := ip h c7
      refine lv_iconst (v := (1 : Int32)) hx hb dX9_keptOut_48 (by decide) ?_
      refine lv_goto (tgt := 53) hx hb dX9_keptOut_49 (by decide) ?_
      exact rt_z C X rfl (by decide) (congrArg (fun z => (z, S)) (Option.some.inj h)) dX9_keptOut_53
    · have h := inn h c7
      exact kb_X9_keptOut_32 C h X (lv_sub hl [0, 2] rfl) 
set_option maxHeartbeats 4000000 in
set_option maxRecDepth 100000 in
theorem c_X9_keptOut (l : Launch) (g : GG) (ad : Nat → Nat) (S : ST) (sz : Nat) (a1 : Nat) (a2 : Int32) (f1 : swk a1 = true) {res : Int32} (h : f_X9_keptOut a1 a2 S = some res) : Met l yX9_keptOut (WS (.code yX9_keptOut cX9_keptOut 3 (some Jvm.ClassFile.FieldType.boolean))) rmX9_keptOut (va_Pc [.ref (ad 0), .ref (ad a1), .int a2] (PW kC g ad S sz)) (QI kC g ad (res, S) (AA kC ad sz)) 0 0 (AA kC ad sz) := by
  refine go_m (Qc := fun A => QI kC g ad (res, S) A) (by decide) (Nat.le_of_ble_eq_true rfl) (fun p e s m below meth c ls H locs C X hl => ?_)
  have hx := C.1.1
  have hb := C.1.2.1
  have hl : lv_has ls 3 [(0, .ref (ad 0)), (1, .ref (ad a1)), (2, .int a2)] := hl
  have h : (if (a2 &&& ((1 : Int32))) = 0 then (b_X9_keptOut_16 S a1 a2) else (bn1 (f_X6_number a1 ((0 : Int32)) S) fun r8 => if r8 < ((30 : Int32)) then (some ((1 : Int32))) else (b_X9_keptOut_16 S a1 a2)) : Option Int32) = some res := h
  refine lv_iload_n hx hb dX9_keptOut_0 rfl (lv_at hl 2 rfl) ?_
  refine lv_iconst (v := (1 : Int32)) hx hb dX9_keptOut_1 (by decide) ?_
  refine lv_iand hx hb dX9_keptOut_2 ?_
  refine lv_if_eq (tgt := 16) hx hb dX9_keptOut_3 (by decide) (fun c1 => ?_) (fun c1 => ?_)
  · have h := ip h c1
    exact kb_X9_keptOut_16 C h X (lv_sub hl [0, 1, 2] rfl) f1
  · have h := inn h c1
    refine lv_aload_n hx hb dX9_keptOut_6 rfl (lv_at hl 1 rfl) ?_
    refine lv_iconst (v := (0 : Int32)) hx hb dX9_keptOut_7 (by decide) ?_
    obtain ⟨r8, qr8, h⟩ := bn1_s h
    refine kc_i X (res := (r8, S)) (rV (As := [.int ((0 : Int32))]) (rest := []) (n := 1) (k := a1) C X (c_X6_number l g ad S _ a1 ((0 : Int32)) f1 qr8) wd_676 wd_677 wd_678 wd_77 wd_679 (lt_sw f1) (e_sw g ad S f1) rfl rfl rfl (by decide +kernel) ⟨Nat.le_of_ble_eq_true rfl, Nat.le_of_ble_eq_true rfl⟩ rfl hl.1 (lv_room (Nat.le_of_ble_eq_true rfl)) dX9_keptOut_8) (fun H locs X => ?_)
    refine lv_bipush (v := (30 : Int32)) hx hb dX9_keptOut_11 (by decide) ?_
    refine lv_icmp_lt (tgt := 48) hx hb dX9_keptOut_13 (by decide) (fun c9 => ?_) (fun c9 => ?_)
    · have h := ip h c9
      refine lv_iconst (v := (1 : Int32)) hx hb dX9_keptOut_48 (by decide) ?_
      refine lv_goto (tgt := 53) hx hb dX9_keptOut_49 (by decide) ?_
      exact rt_z C X rfl (by decide) (congrArg (fun z => (z, S)) (Option.some.inj h)) dX9_keptOut_53
    · have h := inn h c9
      exact kb_X9_keptOut_16 C h X (lv_sub hl [0, 1, 2] rfl) f1

def rmX9_comesToHarm : Room := { frames := 4, cells := 0, slots := 0, locals := 98 }
def b_X9_comesToHarm_113  (v2 : Int32) (S : ST) : Option (Int32 × ST) :=
  bn1 (f_X0_hold S) fun S15 => bnd (f_X0_endsGood (v2 + (S15.1 51 7)) S15) fun r17 S16 => if r17 = 0 then (some ((1 : Int32), S16)) else (some ((0 : Int32), S16))
def b_X9_comesToHarm_73  (v2 : Nat) (v3 : Int32) (v4 : Int32) (v5 : Int32) (S : ST) : Option (Int32 × ST) :=
  bn1 (f_X9_strengthAfter v5 S) fun r9 => nm (su S 51 2 r9) fun S10 => bn1 (f_X9_lowerNow S10) fun r11 => nm (su S10 51 3 r11) fun S12 => bn1 (f_X0_suit v2 S12) fun S13 => if (v4 &&& ((16 : Int32))) = 0 then (b_X9_comesToHarm_113 v3 S13) else (nm (su S13 51 7 ((0 : Int32))) fun S19 => b_X9_comesToHarm_113 v3 S19)
def b_X9_comesToHarm_18  (v2 : Nat) (v3 : Int32) (v4 : Int32) (v5 : Int32) (S : ST) : Option (Int32 × ST) :=
  bn1 (f_X3_number ((0 : Int32)) S) fun r3 => bn1 (f_X9_lengthNow S) fun r4 => bn1 (f_X5_inHand ((3 : Int32)) S) fun r5 => bn1 (f_X1_trace r3 r4 r5 v5 S) fun S6 => if (v4 &&& ((8 : Int32))) = 0 then (bn1 (f_X5_inHand ((2 : Int32)) S6) fun r8 => b_X9_comesToHarm_73 v2 v3 v4 r8 S6) else (b_X9_comesToHarm_73 v2 v3 v4 ((0 : Int32)) S6)
def f_X9_comesToHarm (a1 : Nat) (a2 : Int32) (a3 : Int32) (S : ST) : Option (Int32 × ST) :=
  if (a3 &&& ((4 : Int32))) = 0 then (bn1 (f_X5_inHand ((4 : Int32)) S) fun r2 => b_X9_comesToHarm_18 a1 a2 a3 r2 S) else (b_X9_comesToHarm_18 a1 a2 a3 ((0 : Int32)) S)
set_option maxHeartbeats 4000000 in
set_option maxRecDepth 100000 in
theorem kb_X9_comesToHarm_113 {p : Program} {l : Launch} {e : Env} {s : State} {m : MethodId} {args : Array Value} {below : List Frame} {meth : Method} {c : Code} {g : GG} {ad : Nat → Nat} {res : (Int32 × ST)} {S : ST} (C : CX kC g ad p s m args meth c cX9_comesToHarm (some Jvm.ClassFile.FieldType.boolean) 5 yX9_comesToHarm.cls (.code yX9_comesToHarm cX9_comesToHarm 5 (some Jvm.ClassFile.FieldType.boolean)))  {v2 : Int32}  {H : Heap} {locs : List Loc} {ls : Array Slot} (h : b_X9_comesToHarm_113 v2 S = some res) (X : WX kC g ad s S H locs) (hl : lv_has ls 5 [(0, .ref (ad 0)), (2, .int v2)])  : W p l e rmX9_comesToHarm s m args below meth c H locs 0 0 (MQ below (QI kC g ad res (AA kC ad s.heap.size)) args s 0 0 (AA kC ad s.heap.size)) (F0 m 113 ls []) := by
  have hx := C.1.1
  have hb := C.1.2.1
  have h : (bn1 (f_X0_hold S) fun S15 => bnd (f_X0_endsGood (v2 + (S15.1 51 7)) S15) fun r17 S16 => if r17 = 0 then (some ((1 : Int32), S16)) else (some ((0 : Int32), S16)) : Option (Int32 × ST)) = some res := h
  refine lv_aload_n hx hb dX9_comesToHarm_113 rfl (lv_at hl 0 rfl) ?_
  refine g_get C X inT9 0 (by decide) (eC_0 g ad S) rfl 10 (by decide) wd_403 (v := .ref (ad 51)) rfl dX9_comesToHarm_114 ?_
  obtain ⟨S15, qS15, h⟩ := bn1_s h
  refine kc_v X (res := S15) (rV (As := []) (rest := []) (n := 0) (k := 51) C X (c_X0_hold l g ad S _   qS15) wd_793 wd_794 wd_795 wd_81 wd_796 (by decide) (eC_51 g ad S) rfl rfl rfl (by decide +kernel) ⟨Nat.le_of_ble_eq_true rfl, Nat.le_of_ble_eq_true rfl⟩ rfl hl.1 (lv_room (Nat.le_of_ble_eq_true rfl)) dX9_comesToHarm_117) (fun H locs X => ?_)
  refine lv_aload_n hx hb dX9_comesToHarm_120 rfl (lv_at hl 0 rfl) ?_
  refine g_get C X inT9 0 (by decide) (eC_0 g ad S15) rfl 10 (by decide) wd_403 (v := .ref (ad 51)) rfl dX9_comesToHarm_121 ?_
  refine lv_iload_n hx hb dX9_comesToHarm_124 rfl (lv_at hl 1 rfl) ?_
  refine lv_aload_n hx hb dX9_comesToHarm_125 rfl (lv_at hl 0 rfl) ?_
  refine g_get C X inT9 0 (by decide) (eC_0 g ad S15) rfl 10 (by decide) wd_403 (v := .ref (ad 51)) rfl dX9_comesToHarm_126 ?_
  refine g_getN C X inT0 51 (by decide) (eC_51 g ad S15) rfl 7 (by decide) nw_297 (v := .int (S15.1 51 7)) rfl dX9_comesToHarm_129 ?_
  refine lv_iadd hx hb dX9_comesToHarm_132 ?_
  obtain ⟨r17, S16, qr17, h⟩ := bnd_s h
  refine kc_i X (res := (r17, S16)) (rV (As := [.int (v2 + (S15.1 51 7))]) (rest := []) (n := 1) (k := 51) C X (c_X0_endsGood l g ad S15 _ (v2 + (S15.1 51 7))  qr17) wd_859 wd_845 wd_846 wd_81 wd_847 (by decide) (eC_51 g ad S15) rfl rfl rfl (by decide +kernel) ⟨Nat.le_of_ble_eq_true rfl, Nat.le_of_ble_eq_true rfl⟩ rfl hl.1 (lv_room (Nat.le_of_ble_eq_true rfl)) dX9_comesToHarm_133) (fun H locs X => ?_)
  refine lv_if_ne (tgt := 143) hx hb dX9_comesToHarm_136 (by decide) (fun c18 => ?_) (fun c18 => ?_)
  · have h := inn h c18
    refine lv_iconst (v := (0 : Int32)) hx hb dX9_comesToHarm_143 (by decide) ?_
    exact rt_z C X rfl (by decide) (Option.some.inj h) dX9_comesToHarm_144
  · have h := ip h c18
    refine lv_iconst (v := (1 : Int32)) hx hb dX9_comesToHarm_139 (by decide) ?_
    refine lv_goto (tgt := 144) hx hb dX9_comesToHarm_140 (by decide) ?_
    exact rt_z C X rfl (by decide) (Option.some.inj h) dX9_comesToHarm_144
set_option maxHeartbeats 4000000 in
set_option maxRecDepth 100000 in
theorem kb_X9_comesToHarm_73 {p : Program} {l : Launch} {e : Env} {s : State} {m : MethodId} {args : Array Value} {below : List Frame} {meth : Method} {c : Code} {g : GG} {ad : Nat → Nat} {res : (Int32 × ST)} {S : ST} (C : CX kC g ad p s m args meth c cX9_comesToHarm (some Jvm.ClassFile.FieldType.boolean) 5 yX9_comesToHarm.cls (.code yX9_comesToHarm cX9_comesToHarm 5 (some Jvm.ClassFile.FieldType.boolean)))  {v2 : Nat} {v3 : Int32} {v4 : Int32} {v5 : Int32}  {H : Heap} {locs : List Loc} {ls : Array Slot} (h : b_X9_comesToHarm_73 v2 v3 v4 v5 S = some res) (X : WX kC g ad s S H locs) (hl : lv_has ls 5 [(0, .ref (ad 0)), (1, .ref (ad v2)), (2, .int v3), (3, .int v4)]) (g2 : swk v2 = true) : W p l e rmX9_comesToHarm s m args below meth c H locs 0 0 (MQ below (QI kC g ad res (AA kC ad s.heap.size)) args s 0 0 (AA kC ad s.heap.size)) (F0 m 73 ls [.int v5, .ref (ad 0), .ref (ad 51)]) := by
  have hx := C.1.1
  have hb := C.1.2.1
  have h : (bn1 (f_X9_strengthAfter v5 S) fun r9 => nm (su S 51 2 r9) fun S10 => bn1 (f_X9_lowerNow S10) fun r11 => nm (su S10 51 3 r11) fun S12 => bn1 (f_X0_suit v2 S12) fun S13 => if (v4 &&& ((16 : Int32))) = 0 then (b_X9_comesToHarm_113 v3 S13) else (nm (su S13 51 7 ((0 : Int32))) fun S19 => b_X9_comesToHarm_113 v3 S19) : Option (Int32 × ST)) = some res := h
  obtain ⟨r9, qr9, h⟩ := bn1_s h
  refine kc_i X (res := (r9, S)) (rV (As := [.int v5]) (rest := [.ref (ad 51)]) (n := 1) (k := 0) C X (c_X9_strengthAfter l g ad S _ v5  qr9) wd_701 wd_703 wd_15 wd_70 wd_704 (by decide) (eC_0 g ad S) rfl rfl rfl (by decide +kernel) ⟨Nat.le_of_ble_eq_true rfl, Nat.le_of_ble_eq_true rfl⟩ rfl hl.1 (lv_room (Nat.le_of_ble_eq_true rfl)) dX9_comesToHarm_73) (fun H locs X => ?_)
  obtain ⟨S10, eS10, h⟩ := nm_s h
  refine g_putN (S' := S10) C X inT0 tyX0 tyX0_ok nmX0 51 (by decide) (eC_51 g ad S) rfl 2 (by decide) nw_289 rfl (by rfl) rfl (Nat.le_of_ble_eq_true rfl) (by subst eS10; rfl) (by subst eS10; exact fun i hi => ent_offu hi) dX9_comesToHarm_76 (fun H locs X => ?_)
  refine lv_aload_n hx hb dX9_comesToHarm_79 rfl (lv_at hl 0 rfl) ?_
  refine g_get C X inT9 0 (by decide) (eC_0 g ad S10) rfl 10 (by decide) wd_403 (v := .ref (ad 51)) rfl dX9_comesToHarm_80 ?_
  refine lv_aload_n hx hb dX9_comesToHarm_83 rfl (lv_at hl 0 rfl) ?_
  obtain ⟨r11, qr11, h⟩ := bn1_s h
  refine kc_i X (res := (r11, S10)) (rV (As := []) (rest := [.ref (ad 51)]) (n := 0) (k := 0) C X (c_X9_lowerNow l g ad S10 _   qr11) wd_649 wd_651 wd_11 wd_70 wd_652 (by decide) (eC_0 g ad S10) rfl rfl rfl (by decide +kernel) ⟨Nat.le_of_ble_eq_true rfl, Nat.le_of_ble_eq_true rfl⟩ rfl hl.1 (lv_room (Nat.le_of_ble_eq_true rfl)) dX9_comesToHarm_84) (fun H locs X => ?_)
  obtain ⟨S12, eS12, h⟩ := nm_s h
  refine g_putN (S' := S12) C X inT0 tyX0 tyX0_ok nmX0 51 (by decide) (eC_51 g ad S10) rfl 3 (by decide) nw_291 rfl (by rfl) rfl (Nat.le_of_ble_eq_true rfl) (by subst eS12; rfl) (by subst eS12; exact fun i hi => ent_offu hi) dX9_comesToHarm_87 (fun H locs X => ?_)
  refine lv_aload_n hx hb dX9_comesToHarm_90 rfl (lv_at hl 0 rfl) ?_
  refine g_get C X inT9 0 (by decide) (eC_0 g ad S12) rfl 10 (by decide) wd_403 (v := .ref (ad 51)) rfl dX9_comesToHarm_91 ?_
  refine lv_aload_n hx hb dX9_comesToHarm_94 rfl (lv_at hl 1 rfl) ?_
  obtain ⟨S13, qS13, h⟩ := bn1_s h
  refine kc_v X (res := S13) (rV (As := [.ref (ad v2)]) (rest := []) (n := 1) (k := 51) C X (c_X0_suit l g ad S12 _ v2 g2 qS13) wd_788 wd_789 wd_790 wd_81 wd_791 (by decide) (eC_51 g ad S12) rfl rfl rfl (by decide +kernel) ⟨Nat.le_of_ble_eq_true rfl, Nat.le_of_ble_eq_true rfl⟩ rfl hl.1 (lv_room (Nat.le_of_ble_eq_true rfl)) dX9_comesToHarm_95) (fun H locs X => ?_)
  refine lv_iload_n hx hb dX9_comesToHarm_98 rfl (lv_at hl 3 rfl) ?_
  refine lv_bipush (v := (16 : Int32)) hx hb dX9_comesToHarm_99 (by decide) ?_
  refine lv_iand hx hb dX9_comesToHarm_101 ?_
  refine lv_if_eq (tgt := 113) hx hb dX9_comesToHarm_102 (by decide) (fun c14 => ?_) (fun c14 => ?_)
  · have h := ip h c14
    exact kb_X9_comesToHarm_113 C h X (lv_sub hl [0, 2] rfl) 
  · have h := inn h c14
    refine lv_aload_n hx hb dX9_comesToHarm_105 rfl (lv_at hl 0 rfl) ?_
    refine g_get C X inT9 0 (by decide) (eC_0 g ad S13) rfl 10 (by decide) wd_403 (v := .ref (ad 51)) rfl dX9_comesToHarm_106 ?_
    refine lv_iconst (v := (0 : Int32)) hx hb dX9_comesToHarm_109 (by decide) ?_
    obtain ⟨S19, eS19, h⟩ := nm_s h
    refine g_putN (S' := S19) C X inT0 tyX0 tyX0_ok nmX0 51 (by decide) (eC_51 g ad S13) rfl 7 (by decide) nw_297 rfl (by rfl) rfl (Nat.le_of_ble_eq_true rfl) (by subst eS19; rfl) (by subst eS19; exact fun i hi => ent_offu hi) dX9_comesToHarm_110 (fun H locs X => ?_)
    exact kb_X9_comesToHarm_113 C h X (lv_sub hl [0, 2] rfl) 
set_option maxHeartbeats 4000000 in
set_option maxRecDepth 100000 in
theorem kb_X9_comesToHarm_18 {p : Program} {l : Launch} {e : Env} {s : State} {m : MethodId} {args : Array Value} {below : List Frame} {meth : Method} {c : Code} {g : GG} {ad : Nat → Nat} {res : (Int32 × ST)} {S : ST} (C : CX kC g ad p s m args meth c cX9_comesToHarm (some Jvm.ClassFile.FieldType.boolean) 5 yX9_comesToHarm.cls (.code yX9_comesToHarm cX9_comesToHarm 5 (some Jvm.ClassFile.FieldType.boolean)))  {v2 : Nat} {v3 : Int32} {v4 : Int32} {v5 : Int32}  {H : Heap} {locs : List Loc} {ls : Array Slot} (h : b_X9_comesToHarm_18 v2 v3 v4 v5 S = some res) (X : WX kC g ad s S H locs) (hl : lv_has ls 5 [(0, .ref (ad 0)), (1, .ref (ad v2)), (2, .int v3), (3, .int v4)]) (g2 : swk v2 = true) : W p l e rmX9_comesToHarm s m args below meth c H locs 0 0 (MQ below (QI kC g ad res (AA kC ad s.heap.size)) args s 0 0 (AA kC ad s.heap.size)) (F0 m 18 ls [.int v5]) := by
  have hx := C.1.1
  have hb := C.1.2.1
  have h : (bn1 (f_X3_number ((0 : Int32)) S) fun r3 => bn1 (f_X9_lengthNow S) fun r4 => bn1 (f_X5_inHand ((3 : Int32)) S) fun r5 => bn1 (f_X1_trace r3 r4 r5 v5 S) fun S6 => if (v4 &&& ((8 : Int32))) = 0 then (bn1 (f_X5_inHand ((2 : Int32)) S6) fun r8 => b_X9_comesToHarm_73 v2 v3 v4 r8 S6) else (b_X9_comesToHarm_73 v2 v3 v4 ((0 : Int32)) S6) : Option (Int32 × ST)) = some res := h
  refine lv_istore (lv' := [(4, .int v5), (0, .ref (ad 0)), (1, .ref (ad v2)), (2, .int v3), (3, .int v4)]) hx hb dX9_comesToHarm_18 hl (by decide) rfl (fun ls hl => ?_)
  refine lv_aload_n hx hb dX9_comesToHarm_20 rfl (lv_at hl 1 rfl) ?_
  refine g_get C X inT9 0 (by decide) (eC_0 g ad S) rfl 9 (by decide) wd_402 (v := .ref (ad 42)) rfl dX9_comesToHarm_21 ?_
  refine lv_aload_n hx hb dX9_comesToHarm_24 rfl (lv_at hl 1 rfl) ?_
  refine g_get C X inT9 0 (by decide) (eC_0 g ad S) rfl 2 (by decide) wd_395 (v := .ref (ad 4)) rfl dX9_comesToHarm_25 ?_
  refine lv_iconst (v := (0 : Int32)) hx hb dX9_comesToHarm_28 (by decide) ?_
  obtain ⟨r3, qr3, h⟩ := bn1_s h
  refine kc_i X (res := (r3, S)) (rV (As := [.int ((0 : Int32))]) (rest := [.ref (ad 42)]) (n := 1) (k := 4) C X (c_X3_number l g ad S _ ((0 : Int32))  qr3) wd_639 wd_390 wd_391 wd_73 wd_392 (by decide) (eC_4 g ad S) rfl rfl rfl (by decide +kernel) ⟨Nat.le_of_ble_eq_true rfl, Nat.le_of_ble_eq_true rfl⟩ rfl hl.1 (lv_room (Nat.le_of_ble_eq_true rfl)) dX9_comesToHarm_29) (fun H locs X => ?_)
  refine lv_aload_n hx hb dX9_comesToHarm_32 rfl (lv_at hl 1 rfl) ?_
  obtain ⟨r4, qr4, h⟩ := bn1_s h
  refine kc_i X (res := (r4, S)) (rV (As := []) (rest := [.int r3, .ref (ad 42)]) (n := 0) (k := 0) C X (c_X9_lengthNow l g ad S _   qr4) wd_697 wd_699 wd_14 wd_70 wd_700 (by decide) (eC_0 g ad S) rfl rfl rfl (by decide +kernel) ⟨Nat.le_of_ble_eq_true rfl, Nat.le_of_ble_eq_true rfl⟩ rfl hl.1 (lv_room (Nat.le_of_ble_eq_true rfl)) dX9_comesToHarm_33) (fun H locs X => ?_)
  refine lv_aload_n hx hb dX9_comesToHarm_36 rfl (lv_at hl 1 rfl) ?_
  refine g_get C X inT9 0 (by decide) (eC_0 g ad S) rfl 6 (by decide) wd_399 (v := .ref (ad 31)) rfl dX9_comesToHarm_37 ?_
  refine lv_iconst (v := (3 : Int32)) hx hb dX9_comesToHarm_40 (by decide) ?_
  obtain ⟨r5, qr5, h⟩ := bn1_s h
  refine kc_i X (res := (r5, S)) (rV (As := [.int ((3 : Int32))]) (rest := [.int r4, .int r3, .ref (ad 42)]) (n := 1) (k := 31) C X (c_X5_inHand l g ad S _ ((3 : Int32))  qr5) wd_653 wd_654 wd_655 wd_78 wd_656 (by decide) (eC_31 g ad S) rfl rfl rfl (by decide +kernel) ⟨Nat.le_of_ble_eq_true rfl, Nat.le_of_ble_eq_true rfl⟩ rfl hl.1 (lv_room (Nat.le_of_ble_eq_true rfl)) dX9_comesToHarm_41) (fun H locs X => ?_)
  refine lv_iload hx hb dX9_comesToHarm_44 (lv_at hl 0 rfl) ?_
  obtain ⟨S6, qS6, h⟩ := bn1_s h
  refine kc_v X (res := S6) (rV (As := [.int r3, .int r4, .int r5, .int v5]) (rest := []) (n := 4) (k := 42) C X (c_X1_trace l g ad S _ r3 r4 r5 v5  qS6) wd_726 wd_727 wd_728 wd_80 wd_729 (by decide) (eC_42 g ad S) rfl rfl rfl (by decide +kernel) ⟨Nat.le_of_ble_eq_true rfl, Nat.le_of_ble_eq_true rfl⟩ rfl hl.1 (lv_room (Nat.le_of_ble_eq_true rfl)) dX9_comesToHarm_46) (fun H locs X => ?_)
  refine lv_aload_n hx hb dX9_comesToHarm_49 rfl (lv_at hl 1 rfl) ?_
  refine g_get C X inT9 0 (by decide) (eC_0 g ad S6) rfl 10 (by decide) wd_403 (v := .ref (ad 51)) rfl dX9_comesToHarm_50 ?_
  refine lv_aload_n hx hb dX9_comesToHarm_53 rfl (lv_at hl 1 rfl) ?_
  refine lv_iload_n hx hb dX9_comesToHarm_54 rfl (lv_at hl 4 rfl) ?_
  refine lv_bipush (v := (8 : Int32)) hx hb dX9_comesToHarm_55 (by decide) ?_
  refine lv_iand hx hb dX9_comesToHarm_57 ?_
  refine lv_if_eq (tgt := 65) hx hb dX9_comesToHarm_58 (by decide) (fun c7 => ?_) (fun c7 => ?_)
  · have h := ip h c7
    refine lv_aload_n hx hb dX9_comesToHarm_65 rfl (lv_at hl 1 rfl) ?_
    refine g_get C X inT9 0 (by decide) (eC_0 g ad S6) rfl 6 (by decide) wd_399 (v := .ref (ad 31)) rfl dX9_comesToHarm_66 ?_
    refine lv_iconst (v := (2 : Int32)) hx hb dX9_comesToHarm_69 (by decide) ?_
    obtain ⟨r8, qr8, h⟩ := bn1_s h
    refine kc_i X (res := (r8, S6)) (rV (As := [.int ((2 : Int32))]) (rest := [.ref (ad 0), .ref (ad 51)]) (n := 1) (k := 31) C X (c_X5_inHand l g ad S6 _ ((2 : Int32))  qr8) wd_653 wd_654 wd_655 wd_78 wd_656 (by decide) (eC_31 g ad S6) rfl rfl rfl (by decide +kernel) ⟨Nat.le_of_ble_eq_true rfl, Nat.le_of_ble_eq_true rfl⟩ rfl hl.1 (lv_room (Nat.le_of_ble_eq_true rfl)) dX9_comesToHarm_70) (fun H locs X => ?_)
    exact kb_X9_comesToHarm_73 C h X (lv_sub hl [1, 2, 3, 4] rfl) g2
  · have h := inn h c7
    refine lv_iconst (v := (0 : Int32)) hx hb dX9_comesToHarm_61 (by decide) ?_
    refine lv_goto (tgt := 73) hx hb dX9_comesToHarm_62 (by decide) ?_
    exact kb_X9_comesToHarm_73 C h X (lv_sub hl [1, 2, 3, 4] rfl) g2
set_option maxHeartbeats 4000000 in
set_option maxRecDepth 100000 in
theorem c_X9_comesToHarm (l : Launch) (g : GG) (ad : Nat → Nat) (S : ST) (sz : Nat) (a1 : Nat) (a2 : Int32) (a3 : Int32) (f1 : swk a1 = true) {res : (Int32 × ST)} (h : f_X9_comesToHarm a1 a2 a3 S = some res) : Met l yX9_comesToHarm (WS (.code yX9_comesToHarm cX9_comesToHarm 5 (some Jvm.ClassFile.FieldType.boolean))) rmX9_comesToHarm (va_Pc [.ref (ad 0), .ref (ad a1), .int a2, .int a3] (PW kC g ad S sz)) (QI kC g ad res (AA kC ad sz)) 0 0 (AA kC ad sz) := by
  refine go_m (Qc := fun A => QI kC g ad res A) (by decide) (Nat.le_of_ble_eq_true rfl) (fun p e s m below meth c ls H locs C X hl => ?_)
  have hx := C.1.1
  have hb := C.1.2.1
  have hl : lv_has ls 5 [(0, .ref (ad 0)), (1, .ref (ad a1)), (2, .int a2), (3, .int a3)] := hl
  have h : (if (a3 &&& ((4 : Int32))) = 0 then (bn1 (f_X5_inHand ((4 : Int32)) S) fun r2 => b_X9_comesToHarm_18 a1 a2 a3 r2 S) else (b_X9_comesToHarm_18 a1 a2 a3 ((0 : Int32)) S) : Option (Int32 × ST)) = some res := h
  refine lv_iload_n hx hb dX9_comesToHarm_0 rfl (lv_at hl 3 rfl) ?_
  refine lv_iconst (v := (4 : Int32)) hx hb dX9_comesToHarm_1 (by decide) ?_
  refine lv_iand hx hb dX9_comesToHarm_2 ?_
  refine lv_if_eq (tgt := 10) hx hb dX9_comesToHarm_3 (by decide) (fun c1 => ?_) (fun c1 => ?_)
  · have h := ip h c1
    refine lv_aload_n hx hb dX9_comesToHarm_10 rfl (lv_at hl 0 rfl) ?_
    refine g_get C X inT9 0 (by decide) (eC_0 g ad S) rfl 6 (by decide) wd_399 (v := .ref (ad 31)) rfl dX9_comesToHarm_11 ?_
    refine lv_iconst (v := (4 : Int32)) hx hb dX9_comesToHarm_14 (by decide) ?_
    obtain ⟨r2, qr2, h⟩ := bn1_s h
    refine kc_i X (res := (r2, S)) (rV (As := [.int ((4 : Int32))]) (rest := []) (n := 1) (k := 31) C X (c_X5_inHand l g ad S _ ((4 : Int32))  qr2) wd_653 wd_654 wd_655 wd_78 wd_656 (by decide) (eC_31 g ad S) rfl rfl rfl (by decide +kernel) ⟨Nat.le_of_ble_eq_true rfl, Nat.le_of_ble_eq_true rfl⟩ rfl hl.1 (lv_room (Nat.le_of_ble_eq_true rfl)) dX9_comesToHarm_15) (fun H locs X => ?_)
    exact kb_X9_comesToHarm_18 C h X (lv_sub hl [0, 1, 2, 3] rfl) f1
  · have h := inn h c1
    refine lv_iconst (v := (0 : Int32)) hx hb dX9_comesToHarm_6 (by decide) ?_
    refine lv_goto (tgt := 18) hx hb dX9_comesToHarm_7 (by decide) ?_
    exact kb_X9_comesToHarm_18 C h X (lv_sub hl [0, 1, 2, 3] rfl) f1

def rmX9_harmedBy : Room := { frames := 5, cells := 0, slots := 0, locals := 122 }
def b_X9_harmedBy_4 (K4 : Int32 → Int32 → Int32 → ST → Option (Int32 × ST)) (v2 : Int32) (v3 : Int32) (v4 : Int32) (S : ST) : Option (Int32 × ST) :=
  if (S.1 0 5) ≤ v4 then (some (v3, S)) else (bn1 (f_X9_swingerAt v4 S) fun r2 => om r2 (nm (v4 + (1 : Int32)) fun x5 => K4 v2 v3 x5 S) fun k3 => bn1 (f_X9_keptOut k3 v2 S) fun r6 => if r6 = 0 then (bn1 (f_X9_at 53 v4 S) fun r9 => bnd (f_X9_comesToHarm k3 r9 v2 S) fun r11 S10 => if r11 = 0 then (nm (v4 + (1 : Int32)) fun x13 => K4 v2 v3 x13 S10) else (nm (v3 ||| (((1 : Int32)) <<< (v4 &&& 31))) fun x14 => nm (v4 + (1 : Int32)) fun x15 => K4 v2 x14 x15 S10)) else (nm (v4 + (1 : Int32)) fun x8 => K4 v2 v3 x8 S))
def f_X9_harmedBy (a1 : Int32) (S : ST) : Option (Int32 × ST) :=
  lp (fun _ _ _ _ => none) (b_X9_harmedBy_4) 1000 a1 ((0 : Int32)) ((0 : Int32)) S
set_option maxHeartbeats 4000000 in
set_option maxRecDepth 100000 in
theorem kb_X9_harmedBy_4 {p : Program} {l : Launch} {e : Env} {s : State} {m : MethodId} {args : Array Value} {below : List Frame} {meth : Method} {c : Code} {g : GG} {ad : Nat → Nat} {res : (Int32 × ST)} {S : ST} (C : CX kC g ad p s m args meth c cX9_harmedBy (some Jvm.ClassFile.FieldType.int) 5 yX9_harmedBy.cls (.code yX9_harmedBy cX9_harmedBy 5 (some Jvm.ClassFile.FieldType.int))) {K4 : Int32 → Int32 → Int32 → ST → Option (Int32 × ST)} (hK4 : ∀ {v2 : Int32} {v3 : Int32} {v4 : Int32} {S : ST} {H : Heap} {locs : List Loc} {ls : Array Slot}, K4 v2 v3 v4 S = some res → WX kC g ad s S H locs → lv_has ls 5 [(0, .ref (ad 0)), (1, .int v2), (2, .int v3), (3, .int v4)] → W p l e rmX9_harmedBy s m args below meth c H locs 0 0 (MQ below (QI kC g ad res (AA kC ad s.heap.size)) args s 0 0 (AA kC ad s.heap.size)) (F0 m 4 ls [])) {v2 : Int32} {v3 : Int32} {v4 : Int32}  {H : Heap} {locs : List Loc} {ls : Array Slot} (h : b_X9_harmedBy_4 K4 v2 v3 v4 S = some res) (X : WX kC g ad s S H locs) (hl : lv_has ls 5 [(0, .ref (ad 0)), (1, .int v2), (2, .int v3), (3, .int v4)])  : W p l e rmX9_harmedBy s m args below meth c H locs 0 0 (MQ below (QI kC g ad res (AA kC ad s.heap.size)) args s 0 0 (AA kC ad s.heap.size)) (F0 m 4 ls []) := by
  have hx := C.1.1
  have hb := C.1.2.1
  have h : (if (S.1 0 5) ≤ v4 then (some (v3, S)) else (bn1 (f_X9_swingerAt v4 S) fun r2 => om r2 (nm (v4 + (1 : Int32)) fun x5 => K4 v2 v3 x5 S) fun k3 => bn1 (f_X9_keptOut k3 v2 S) fun r6 => if r6 = 0 then (bn1 (f_X9_at 53 v4 S) fun r9 => bnd (f_X9_comesToHarm k3 r9 v2 S) fun r11 S10 => if r11 = 0 then (nm (v4 + (1 : Int32)) fun x13 => K4 v2 v3 x13 S10) else (nm (v3 ||| (((1 : Int32)) <<< (v4 &&& 31))) fun x14 => nm (v4 + (1 : Int32)) fun x15 => K4 v2 x14 x15 S10)) else (nm (v4 + (1 : Int32)) fun x8 => K4 v2 v3 x8 S)) : Option (Int32 × ST)) = some res := h
  refine lv_iload_n hx hb dX9_harmedBy_4 rfl (lv_at hl 3 rfl) ?_
  refine lv_aload_n hx hb dX9_harmedBy_5 rfl (lv_at hl 0 rfl) ?_
  refine g_get C X inT9 0 (by decide) (eC_0 g ad S) rfl 5 (by decide) wd_398 (v := .int (S.1 0 5)) rfl dX9_harmedBy_6 ?_
  refine lv_icmp_ge (tgt := 64) hx hb dX9_harmedBy_9 (by decide) (fun c1 => ?_) (fun c1 => ?_)
  · have h := ip h c1
    refine lv_iload_n hx hb dX9_harmedBy_64 rfl (lv_at hl 2 rfl) ?_
    exact rt_i C X rfl (Option.some.inj h) dX9_harmedBy_65
  · have h := inn h c1
    refine lv_aload_n hx hb dX9_harmedBy_12 rfl (lv_at hl 0 rfl) ?_
    refine lv_iload_n hx hb dX9_harmedBy_13 rfl (lv_at hl 3 rfl) ?_
    obtain ⟨r2, qr2, h⟩ := bn1_s h
    refine kc_q X (res := (r2, S)) (rV (As := [.int v4]) (rest := []) (n := 1) (k := 0) C X (c_X9_swingerAt l g ad S _ v4  qr2) wd_671 wd_673 wd_12 wd_70 wd_674 (by decide) (eC_0 g ad S) rfl rfl rfl (by decide +kernel) ⟨Nat.le_of_ble_eq_true rfl, Nat.le_of_ble_eq_true rfl⟩ rfl hl.1 (lv_room (Nat.le_of_ble_eq_true rfl)) dX9_harmedBy_14) (fun H locs X => ?_)
    cases r2 with
    | none =>
      have h := om_n h
      refine lv_astoreN (lv' := [(4, .null), (0, .ref (ad 0)), (1, .int v2), (2, .int v3), (3, .int v4)]) hx hb dX9_harmedBy_17 hl (by decide) rfl (fun ls hl => ?_)
      refine lv_aloadN hx hb dX9_harmedBy_19 (lv_at hl 0 rfl) ?_
      refine lv_ifnullN (tgt := 58) hx hb dX9_harmedBy_21 (by decide) ?_
      obtain ⟨x5, ex5, h⟩ := nm_s h
      refine lv_iinc (v := x5) (lv' := [(3, .int x5), (4, .null), (0, .ref (ad 0)), (1, .int v2), (2, .int v3)]) hx hb dX9_harmedBy_58 hl (k := 4) rfl (by rw [ex5]; rfl) (by decide) rfl (fun ls hl => ?_)
      refine lv_goto (tgt := 4) hx hb dX9_harmedBy_61 (by decide) ?_
      exact hK4 h X (lv_sub hl [2, 3, 4, 0] rfl) 
    | some k3 =>
      have h := om_s h
      have y4 : swk k3 = true := ok_X9_swingerAt qr2
      refine lv_astore (lv' := [(4, .ref (ad k3)), (0, .ref (ad 0)), (1, .int v2), (2, .int v3), (3, .int v4)]) hx hb dX9_harmedBy_17 hl (by decide) rfl (fun ls hl => ?_)
      refine lv_aload hx hb dX9_harmedBy_19 (lv_at hl 0 rfl) ?_
      refine lv_ifnull hx hb dX9_harmedBy_21 ?_
      refine lv_aload_n hx hb dX9_harmedBy_24 rfl (lv_at hl 1 rfl) ?_
      refine lv_aload hx hb dX9_harmedBy_25 (lv_at hl 0 rfl) ?_
      refine lv_iload_n hx hb dX9_harmedBy_27 rfl (lv_at hl 2 rfl) ?_
      obtain ⟨r6, qr6, h⟩ := bn1_s h
      refine kc_i X (res := (r6, S)) (rV (As := [.ref (ad k3), .int v2]) (rest := []) (n := 2) (k := 0) C X (c_X9_keptOut l g ad S _ k3 v2 y4 qr6) wd_924 wd_926 wd_25 wd_70 wd_927 (by decide) (eC_0 g ad S) rfl rfl rfl (by decide +kernel) ⟨Nat.le_of_ble_eq_true rfl, Nat.le_of_ble_eq_true rfl⟩ rfl hl.1 (lv_room (Nat.le_of_ble_eq_true rfl)) dX9_harmedBy_28) (fun H locs X => ?_)
      refine lv_if_ne (tgt := 58) hx hb dX9_harmedBy_31 (by decide) (fun c7 => ?_) (fun c7 => ?_)
      · have h := inn h c7
        obtain ⟨x8, ex8, h⟩ := nm_s h
        refine lv_iinc (v := x8) (lv' := [(3, .int x8), (4, .ref (ad k3)), (0, .ref (ad 0)), (1, .int v2), (2, .int v3)]) hx hb dX9_harmedBy_58 hl (k := 4) rfl (by rw [ex8]; rfl) (by decide) rfl (fun ls hl => ?_)
        refine lv_goto (tgt := 4) hx hb dX9_harmedBy_61 (by decide) ?_
        exact hK4 h X (lv_sub hl [2, 3, 4, 0] rfl) 
      · have h := ip h c7
        refine lv_aload_n hx hb dX9_harmedBy_34 rfl (lv_at hl 1 rfl) ?_
        refine lv_aload hx hb dX9_harmedBy_35 (lv_at hl 0 rfl) ?_
        refine lv_aload_n hx hb dX9_harmedBy_37 rfl (lv_at hl 1 rfl) ?_
        refine g_get C X inT9 0 (by decide) (eC_0 g ad S) rfl 12 (by decide) wd_405 (v := .ref (ad 53)) rfl dX9_harmedBy_38 ?_
        refine lv_iload_n hx hb dX9_harmedBy_41 rfl (lv_at hl 4 rfl) ?_
        obtain ⟨r9, qr9, h⟩ := bn1_s h
        refine kc_i X (res := (r9, S)) (rS (As := [.ref (ad 53), .int v4]) (rest := [.ref (ad k3), .ref (ad 0)]) (n := 2) C X (c_X9_at l g ad S _ 53 v4 (by decide) qr9) wd_690 wd_576 wd_70 wd_577 rfl rfl (by decide +kernel) ⟨Nat.le_of_ble_eq_true rfl, Nat.le_of_ble_eq_true rfl⟩ rfl hl.1 (lv_room (Nat.le_of_ble_eq_true rfl)) dX9_harmedBy_42) (fun H locs X => ?_)
        refine lv_iload_n hx hb dX9_harmedBy_45 rfl (lv_at hl 2 rfl) ?_
        obtain ⟨r11, S10, qr11, h⟩ := bnd_s h
        refine kc_i X (res := (r11, S10)) (rV (As := [.ref (ad k3), .int r9, .int v2]) (rest := []) (n := 3) (k := 0) C X (c_X9_comesToHarm l g ad S _ k3 r9 v2 y4 qr11) wd_928 wd_930 wd_26 wd_70 wd_931 (by decide) (eC_0 g ad S) rfl rfl rfl (by decide +kernel) ⟨Nat.le_of_ble_eq_true rfl, Nat.le_of_ble_eq_true rfl⟩ rfl hl.1 (lv_room (Nat.le_of_ble_eq_true rfl)) dX9_harmedBy_46) (fun H locs X => ?_)
        refine lv_if_eq (tgt := 58) hx hb dX9_harmedBy_49 (by decide) (fun c12 => ?_) (fun c12 => ?_)
        · have h := ip h c12
          obtain ⟨x13, ex13, h⟩ := nm_s h
          refine lv_iinc (v := x13) (lv' := [(3, .int x13), (4, .ref (ad k3)), (0, .ref (ad 0)), (1, .int v2), (2, .int v3)]) hx hb dX9_harmedBy_58 hl (k := 4) rfl (by rw [ex13]; rfl) (by decide) rfl (fun ls hl => ?_)
          refine lv_goto (tgt := 4) hx hb dX9_harmedBy_61 (by decide) ?_
          exact hK4 h X (lv_sub hl [2, 3, 4, 0] rfl) 
        · have h := inn h c12
          refine lv_iload_n hx hb dX9_harmedBy_52 rfl (lv_at hl 3 rfl) ?_
          refine lv_iconst (v := (1 : Int32)) hx hb dX9_harmedBy_53 (by decide) ?_
          refine lv_iload_n hx hb dX9_harmedBy_54 rfl (lv_at hl 4 rfl) ?_
          refine lv_ishl hx hb dX9_harmedBy_55 ?_
          refine lv_ior hx hb dX9_harmedBy_56 ?_
          obtain ⟨x14, ex14, h⟩ := nm_s h
          refine tp_i ex14 ?_
          refine lv_istore_n (lv' := [(2, .int x14), (4, .ref (ad k3)), (0, .ref (ad 0)), (1, .int v2), (3, .int v4)]) hx hb dX9_harmedBy_57 rfl hl (by decide) rfl (fun ls hl => ?_)
          obtain ⟨x15, ex15, h⟩ := nm_s h
          refine lv_iinc (v := x15) (lv' := [(3, .int x15), (2, .int x14), (4, .ref (ad k3)), (0, .ref (ad 0)), (1, .int v2)]) hx hb dX9_harmedBy_58 hl (k := 4) rfl (by rw [ex15]; rfl) (by decide) rfl (fun ls hl => ?_)
          refine lv_goto (tgt := 4) hx hb dX9_harmedBy_61 (by decide) ?_
          exact hK4 h X (lv_sub hl [3, 4, 1, 0] rfl) 
set_option maxHeartbeats 4000000 in
set_option maxRecDepth 100000 in
theorem kl_X9_harmedBy_4 {p : Program} {l : Launch} {e : Env} {s : State} {m : MethodId} {args : Array Value} {below : List Frame} {meth : Method} {c : Code} {g : GG} {ad : Nat → Nat} {res : (Int32 × ST)}  (C : CX kC g ad p s m args meth c cX9_harmedBy (some Jvm.ClassFile.FieldType.int) 5 yX9_harmedBy.cls (.code yX9_harmedBy cX9_harmedBy 5 (some Jvm.ClassFile.FieldType.int)))  : ∀ (n : Nat) {v2 : Int32} {v3 : Int32} {v4 : Int32} {S : ST} {H : Heap} {locs : List Loc} {ls : Array Slot}, (lp (fun _ _ _ _ => none) (b_X9_harmedBy_4)) n v2 v3 v4 S = some res → WX kC g ad s S H locs → lv_has ls 5 [(0, .ref (ad 0)), (1, .int v2), (2, .int v3), (3, .int v4)] → W p l e rmX9_harmedBy s m args below meth c H locs 0 0 (MQ below (QI kC g ad res (AA kC ad s.heap.size)) args s 0 0 (AA kC ad s.heap.size)) (F0 m 4 ls []) := by
  intro n
  induction n with
  | zero =>
    intro v2 v3 v4 S H locs ls h
    cases (show (none : Option (Int32 × ST)) = some res from h)
  | succ n ih =>
    intro v2 v3 v4 S H locs ls h X hl 
    exact kb_X9_harmedBy_4 C ih h X hl 
set_option maxHeartbeats 4000000 in
set_option maxRecDepth 100000 in
theorem c_X9_harmedBy (l : Launch) (g : GG) (ad : Nat → Nat) (S : ST) (sz : Nat) (a1 : Int32)  {res : (Int32 × ST)} (h : f_X9_harmedBy a1 S = some res) : Met l yX9_harmedBy (WS (.code yX9_harmedBy cX9_harmedBy 5 (some Jvm.ClassFile.FieldType.int))) rmX9_harmedBy (va_Pc [.ref (ad 0), .int a1] (PW kC g ad S sz)) (QI kC g ad res (AA kC ad sz)) 0 0 (AA kC ad sz) := by
  refine go_m (Qc := fun A => QI kC g ad res A) (by decide) (Nat.le_of_ble_eq_true rfl) (fun p e s m below meth c ls H locs C X hl => ?_)
  have hx := C.1.1
  have hb := C.1.2.1
  have hl : lv_has ls 5 [(0, .ref (ad 0)), (1, .int a1)] := hl
  have h : (lp (fun _ _ _ _ => none) (b_X9_harmedBy_4) 1000 a1 ((0 : Int32)) ((0 : Int32)) S : Option (Int32 × ST)) = some res := h
  refine lv_iconst (v := (0 : Int32)) hx hb dX9_harmedBy_0 (by decide) ?_
  refine lv_istore_n (lv' := [(2, .int ((0 : Int32))), (0, .ref (ad 0)), (1, .int a1)]) hx hb dX9_harmedBy_1 rfl hl (by decide) rfl (fun ls hl => ?_)
  refine lv_iconst (v := (0 : Int32)) hx hb dX9_harmedBy_2 (by decide) ?_
  refine lv_istore_n (lv' := [(3, .int ((0 : Int32))), (2, .int ((0 : Int32))), (0, .ref (ad 0)), (1, .int a1)]) hx hb dX9_harmedBy_3 rfl hl (by decide) rfl (fun ls hl => ?_)
  exact kl_X9_harmedBy_4 C _ h X (lv_sub hl [2, 3, 1, 0] rfl) 

def rmX9_harmed : Room := { frames := 6, cells := 0, slots := 0, locals := 146 }
def f_X9_harmed (a1 : Int32) (S : ST) : Option (Int32 × ST) :=
  bn1 (f_X9_within a1 ((0 : Int32)) ((63 : Int32))) fun r1 => if r1 = 0 then (some ((-1000000002 : Int32), S)) else (bn1 (f_X9_findFarthest S) fun S3 => bnd (f_X9_harmedBy a1 S3) fun r5 S4 => some (r5, S4))
set_option maxHeartbeats 4000000 in
set_option maxRecDepth 100000 in
theorem c_X9_harmed (l : Launch) (g : GG) (ad : Nat → Nat) (S : ST) (sz : Nat) (a1 : Int32)  {res : (Int32 × ST)} (h : f_X9_harmed a1 S = some res) : Met l yX9_harmed (WS (.code yX9_harmed cX9_harmed 2 (some Jvm.ClassFile.FieldType.int))) rmX9_harmed (va_Pc [.ref (ad 0), .int a1] (PW kC g ad S sz)) (QI kC g ad res (AA kC ad sz)) 0 0 (AA kC ad sz) := by
  refine go_m (Qc := fun A => QI kC g ad res A) (by decide) (Nat.le_of_ble_eq_true rfl) (fun p e s m below meth c ls H locs C X hl => ?_)
  have hx := C.1.1
  have hb := C.1.2.1
  have hl : lv_has ls 2 [(0, .ref (ad 0)), (1, .int a1)] := hl
  have h : (bn1 (f_X9_within a1 ((0 : Int32)) ((63 : Int32))) fun r1 => if r1 = 0 then (some ((-1000000002 : Int32), S)) else (bn1 (f_X9_findFarthest S) fun S3 => bnd (f_X9_harmedBy a1 S3) fun r5 S4 => some (r5, S4)) : Option (Int32 × ST)) = some res := h
  refine lv_iload_n hx hb dX9_harmed_0 rfl (lv_at hl 1 rfl) ?_
  refine lv_iconst (v := (0 : Int32)) hx hb dX9_harmed_1 (by decide) ?_
  refine lv_bipush (v := (63 : Int32)) hx hb dX9_harmed_2 (by decide) ?_
  obtain ⟨r1, qr1, h⟩ := bn1_s h
  refine kc_i X (res := (r1, S)) (rS (As := [.int a1, .int ((0 : Int32)), .int ((63 : Int32))]) (rest := []) (n := 3) C X (c_X9_within l g ad S _ a1 ((0 : Int32)) ((63 : Int32))  qr1) wd_675 wd_564 wd_70 wd_565 rfl rfl (by decide +kernel) ⟨Nat.le_of_ble_eq_true rfl, Nat.le_of_ble_eq_true rfl⟩ rfl hl.1 (lv_room (Nat.le_of_ble_eq_true rfl)) dX9_harmed_4) (fun H locs X => ?_)
  refine lv_if_ne (tgt := 13) hx hb dX9_harmed_7 (by decide) (fun c2 => ?_) (fun c2 => ?_)
  · have h := inn h c2
    refine lv_aload_n hx hb dX9_harmed_13 rfl (lv_at hl 0 rfl) ?_
    obtain ⟨S3, qS3, h⟩ := bn1_s h
    refine kc_v X (res := S3) (rV (As := []) (rest := []) (n := 0) (k := 0) C X (c_X9_findFarthest l g ad S _   qS3) wd_915 wd_917 wd_23 wd_70 wd_918 (by decide) (eC_0 g ad S) rfl rfl rfl (by decide +kernel) ⟨Nat.le_of_ble_eq_true rfl, Nat.le_of_ble_eq_true rfl⟩ rfl hl.1 (lv_room (Nat.le_of_ble_eq_true rfl)) dX9_harmed_14) (fun H locs X => ?_)
    refine lv_aload_n hx hb dX9_harmed_17 rfl (lv_at hl 0 rfl) ?_
    refine lv_iload_n hx hb dX9_harmed_18 rfl (lv_at hl 1 rfl) ?_
    obtain ⟨r5, S4, qr5, h⟩ := bnd_s h
    refine kc_i X (res := (r5, S4)) (rV (As := [.int a1]) (rest := []) (n := 1) (k := 0) C X (c_X9_harmedBy l g ad S3 _ a1  qr5) wd_920 wd_922 wd_24 wd_70 wd_923 (by decide) (eC_0 g ad S3) rfl rfl rfl (by decide +kernel) ⟨Nat.le_of_ble_eq_true rfl, Nat.le_of_ble_eq_true rfl⟩ rfl hl.1 (lv_room (Nat.le_of_ble_eq_true rfl)) dX9_harmed_19) (fun H locs X => ?_)
    exact rt_i C X rfl (Option.some.inj h) dX9_harmed_22
  · have h := ip h c2
    refine lv_ldc (v := (-1000000002 : Int32)) hx hb C.1.2.2.2.2.2.1 (C.1.2.2.2.2.2.2 _ (ws_in wd_440)) dX9_harmed_10 ?_
    exact rt_i C X rfl (Option.some.inj h) dX9_harmed_12

def rmX9_enough : Room := { frames := 6, cells := 0, slots := 0, locals := 146 }
def b_X9_enough_12 (K12 : Int32 → Int32 → Int32 → ST → Option (Int32 × ST)) (v2 : Int32) (v3 : Int32) (v4 : Int32) (S : ST) : Option (Int32 × ST) :=
  if ((63 : Int32)) < v4 then (some (v3, S)) else (bn1 (f_J6_bitCount_0f7a4 v4) fun r3 => if v2 ≤ r3 then (nm (v4 + (1 : Int32)) fun x5 => K12 v2 v3 x5 S) else (bnd (f_X9_harmedBy v4 S) fun r7 S6 => if r7 = 0 then (nm (v4 + (1 : Int32)) fun x10 => K12 r3 v4 x10 S6) else (nm (v4 + (1 : Int32)) fun x9 => K12 v2 v3 x9 S6)))
def f_X9_enough  (S : ST) : Option (Int32 × ST) :=
  bn1 (f_X9_findFarthest S) fun S1 => lp (fun _ _ _ _ => none) (b_X9_enough_12) 1000 ((2147483647 : Int32)) ((-1 : Int32)) ((0 : Int32)) S1
set_option maxHeartbeats 4000000 in
set_option maxRecDepth 100000 in
theorem kb_X9_enough_12 {p : Program} {l : Launch} {e : Env} {s : State} {m : MethodId} {args : Array Value} {below : List Frame} {meth : Method} {c : Code} {g : GG} {ad : Nat → Nat} {res : (Int32 × ST)} {S : ST} (C : CX kC g ad p s m args meth c cX9_enough (some Jvm.ClassFile.FieldType.int) 5 yX9_enough.cls (.code yX9_enough cX9_enough 5 (some Jvm.ClassFile.FieldType.int))) {K12 : Int32 → Int32 → Int32 → ST → Option (Int32 × ST)} (hK12 : ∀ {v2 : Int32} {v3 : Int32} {v4 : Int32} {S : ST} {H : Heap} {locs : List Loc} {ls : Array Slot}, K12 v2 v3 v4 S = some res → WX kC g ad s S H locs → lv_has ls 5 [(0, .ref (ad 0)), (1, .int v2), (2, .int v3), (3, .int v4)] → W p l e rmX9_enough s m args below meth c H locs 0 0 (MQ below (QI kC g ad res (AA kC ad s.heap.size)) args s 0 0 (AA kC ad s.heap.size)) (F0 m 12 ls [])) {v2 : Int32} {v3 : Int32} {v4 : Int32}  {H : Heap} {locs : List Loc} {ls : Array Slot} (h : b_X9_enough_12 K12 v2 v3 v4 S = some res) (X : WX kC g ad s S H locs) (hl : lv_has ls 5 [(0, .ref (ad 0)), (1, .int v2), (2, .int v3), (3, .int v4)])  : W p l e rmX9_enough s m args below meth c H locs 0 0 (MQ below (QI kC g ad res (AA kC ad s.heap.size)) args s 0 0 (AA kC ad s.heap.size)) (F0 m 12 ls []) := by
  have hx := C.1.1
  have hb := C.1.2.1
  have h : (if ((63 : Int32)) < v4 then (some (v3, S)) else (bn1 (f_J6_bitCount_0f7a4 v4) fun r3 => if v2 ≤ r3 then (nm (v4 + (1 : Int32)) fun x5 => K12 v2 v3 x5 S) else (bnd (f_X9_harmedBy v4 S) fun r7 S6 => if r7 = 0 then (nm (v4 + (1 : Int32)) fun x10 => K12 r3 v4 x10 S6) else (nm (v4 + (1 : Int32)) fun x9 => K12 v2 v3 x9 S6))) : Option (Int32 × ST)) = some res := h
  refine lv_iload_n hx hb dX9_enough_12 rfl (lv_at hl 3 rfl) ?_
  refine lv_bipush (v := (63 : Int32)) hx hb dX9_enough_13 (by decide) ?_
  refine lv_icmp_gt (tgt := 49) hx hb dX9_enough_15 (by decide) (fun c2 => ?_) (fun c2 => ?_)
  · have h := ip h c2
    refine lv_iload_n hx hb dX9_enough_49 rfl (lv_at hl 2 rfl) ?_
    exact rt_i C X rfl (Option.some.inj h) dX9_enough_50
  · have h := inn h c2
    refine lv_iload_n hx hb dX9_enough_18 rfl (lv_at hl 3 rfl) ?_
    obtain ⟨r3, qr3, h⟩ := bn1_s h
    refine kc_i X (res := (r3, S)) (rS (As := [.int v4]) (rest := []) (n := 1) C X (c_J6_bitCount_0f7a4 l g ad S _ v4  qr3) wd_936 wd_937 wd_88 wd_938 rfl rfl (by decide +kernel) ⟨Nat.le_of_ble_eq_true rfl, Nat.le_of_ble_eq_true rfl⟩ rfl hl.1 (lv_room (Nat.le_of_ble_eq_true rfl)) dX9_enough_19) (fun H locs X => ?_)
    refine lv_istore (lv' := [(4, .int r3), (0, .ref (ad 0)), (1, .int v2), (2, .int v3), (3, .int v4)]) hx hb dX9_enough_22 hl (by decide) rfl (fun ls hl => ?_)
    refine lv_iload hx hb dX9_enough_24 (lv_at hl 0 rfl) ?_
    refine lv_iload_n hx hb dX9_enough_26 rfl (lv_at hl 2 rfl) ?_
    refine lv_icmp_ge (tgt := 43) hx hb dX9_enough_27 (by decide) (fun c4 => ?_) (fun c4 => ?_)
    · have h := ip h c4
      obtain ⟨x5, ex5, h⟩ := nm_s h
      refine lv_iinc (v := x5) (lv' := [(3, .int x5), (4, .int r3), (0, .ref (ad 0)), (1, .int v2), (2, .int v3)]) hx hb dX9_enough_43 hl (k := 4) rfl (by rw [ex5]; rfl) (by decide) rfl (fun ls hl => ?_)
      refine lv_goto (tgt := 12) hx hb dX9_enough_46 (by decide) ?_
      exact hK12 h X (lv_sub hl [2, 3, 4, 0] rfl) 
    · have h := inn h c4
      refine lv_aload_n hx hb dX9_enough_30 rfl (lv_at hl 1 rfl) ?_
      refine lv_iload_n hx hb dX9_enough_31 rfl (lv_at hl 4 rfl) ?_
      obtain ⟨r7, S6, qr7, h⟩ := bnd_s h
      refine kc_i X (res := (r7, S6)) (rV (As := [.int v4]) (rest := []) (n := 1) (k := 0) C X (c_X9_harmedBy l g ad S _ v4  qr7) wd_920 wd_922 wd_24 wd_70 wd_923 (by decide) (eC_0 g ad S) rfl rfl rfl (by decide +kernel) ⟨Nat.le_of_ble_eq_true rfl, Nat.le_of_ble_eq_true rfl⟩ rfl hl.1 (lv_room (Nat.le_of_ble_eq_true rfl)) dX9_enough_32) (fun H locs X => ?_)
      refine lv_if_ne (tgt := 43) hx hb dX9_enough_35 (by decide) (fun c8 => ?_) (fun c8 => ?_)
      · have h := inn h c8
        obtain ⟨x9, ex9, h⟩ := nm_s h
        refine lv_iinc (v := x9) (lv' := [(3, .int x9), (4, .int r3), (0, .ref (ad 0)), (1, .int v2), (2, .int v3)]) hx hb dX9_enough_43 hl (k := 4) rfl (by rw [ex9]; rfl) (by decide) rfl (fun ls hl => ?_)
        refine lv_goto (tgt := 12) hx hb dX9_enough_46 (by decide) ?_
        exact hK12 h X (lv_sub hl [2, 3, 4, 0] rfl) 
      · have h := ip h c8
        refine lv_iload hx hb dX9_enough_38 (lv_at hl 0 rfl) ?_
        refine lv_istore_n (lv' := [(1, .int r3), (4, .int r3), (0, .ref (ad 0)), (2, .int v3), (3, .int v4)]) hx hb dX9_enough_40 rfl hl (by decide) rfl (fun ls hl => ?_)
        refine lv_iload_n hx hb dX9_enough_41 rfl (lv_at hl 4 rfl) ?_
        refine lv_istore_n (lv' := [(2, .int v4), (1, .int r3), (4, .int r3), (0, .ref (ad 0)), (3, .int v4)]) hx hb dX9_enough_42 rfl hl (by decide) rfl (fun ls hl => ?_)
        obtain ⟨x10, ex10, h⟩ := nm_s h
        refine lv_iinc (v := x10) (lv' := [(3, .int x10), (2, .int v4), (1, .int r3), (4, .int r3), (0, .ref (ad 0))]) hx hb dX9_enough_43 hl (k := 4) rfl (by rw [ex10]; rfl) (by decide) rfl (fun ls hl => ?_)
        refine lv_goto (tgt := 12) hx hb dX9_enough_46 (by decide) ?_
        exact hK12 h X (lv_sub hl [4, 2, 1, 0] rfl) 
set_option maxHeartbeats 4000000 in
set_option maxRecDepth 100000 in
theorem kl_X9_enough_12 {p : Program} {l : Launch} {e : Env} {s : State} {m : MethodId} {args : Array Value} {below : List Frame} {meth : Method} {c : Code} {g : GG} {ad : Nat → Nat} {res : (Int32 × ST)}  (C : CX kC g ad p s m args meth c cX9_enough (some Jvm.ClassFile.FieldType.int) 5 yX9_enough.cls (.code yX9_enough cX9_enough 5 (some Jvm.ClassFile.FieldType.int)))  : ∀ (n : Nat) {v2 : Int32} {v3 : Int32} {v4 : Int32} {S : ST} {H : Heap} {locs : List Loc} {ls : Array Slot}, (lp (fun _ _ _ _ => none) (b_X9_enough_12)) n v2 v3 v4 S = some res → WX kC g ad s S H locs → lv_has ls 5 [(0, .ref (ad 0)), (1, .int v2), (2, .int v3), (3, .int v4)] → W p l e rmX9_enough s m args below meth c H locs 0 0 (MQ below (QI kC g ad res (AA kC ad s.heap.size)) args s 0 0 (AA kC ad s.heap.size)) (F0 m 12 ls []) := by
  intro n
  induction n with
  | zero =>
    intro v2 v3 v4 S H locs ls h
    cases (show (none : Option (Int32 × ST)) = some res from h)
  | succ n ih =>
    intro v2 v3 v4 S H locs ls h X hl 
    exact kb_X9_enough_12 C ih h X hl 
set_option maxHeartbeats 4000000 in
set_option maxRecDepth 100000 in
theorem c_X9_enough (l : Launch) (g : GG) (ad : Nat → Nat) (S : ST) (sz : Nat)   {res : (Int32 × ST)} (h : f_X9_enough S = some res) : Met l yX9_enough (WS (.code yX9_enough cX9_enough 5 (some Jvm.ClassFile.FieldType.int))) rmX9_enough (va_Pc [.ref (ad 0)] (PW kC g ad S sz)) (QI kC g ad res (AA kC ad sz)) 0 0 (AA kC ad sz) := by
  refine go_m (Qc := fun A => QI kC g ad res A) (by decide) (Nat.le_of_ble_eq_true rfl) (fun p e s m below meth c ls H locs C X hl => ?_)
  have hx := C.1.1
  have hb := C.1.2.1
  have hl : lv_has ls 5 [(0, .ref (ad 0))] := hl
  have h : (bn1 (f_X9_findFarthest S) fun S1 => lp (fun _ _ _ _ => none) (b_X9_enough_12) 1000 ((2147483647 : Int32)) ((-1 : Int32)) ((0 : Int32)) S1 : Option (Int32 × ST)) = some res := h
  refine lv_aload_n hx hb dX9_enough_0 rfl (lv_at hl 0 rfl) ?_
  obtain ⟨S1, qS1, h⟩ := bn1_s h
  refine kc_v X (res := S1) (rV (As := []) (rest := []) (n := 0) (k := 0) C X (c_X9_findFarthest l g ad S _   qS1) wd_915 wd_917 wd_23 wd_70 wd_918 (by decide) (eC_0 g ad S) rfl rfl rfl (by decide +kernel) ⟨Nat.le_of_ble_eq_true rfl, Nat.le_of_ble_eq_true rfl⟩ rfl hl.1 (lv_room (Nat.le_of_ble_eq_true rfl)) dX9_enough_1) (fun H locs X => ?_)
  refine lv_ldcw (v := (2147483647 : Int32)) hx hb C.1.2.2.2.2.2.1 (C.1.2.2.2.2.2.2 _ (ws_in wd_901)) dX9_enough_4 ?_
  refine lv_istore_n (lv' := [(1, .int ((2147483647 : Int32))), (0, .ref (ad 0))]) hx hb dX9_enough_7 rfl hl (by decide) rfl (fun ls hl => ?_)
  refine lv_iconst (v := (-1 : Int32)) hx hb dX9_enough_8 (by decide) ?_
  refine lv_istore_n (lv' := [(2, .int ((-1 : Int32))), (1, .int ((2147483647 : Int32))), (0, .ref (ad 0))]) hx hb dX9_enough_9 rfl hl (by decide) rfl (fun ls hl => ?_)
  refine lv_iconst (v := (0 : Int32)) hx hb dX9_enough_10 (by decide) ?_
  refine lv_istore_n (lv' := [(3, .int ((0 : Int32))), (2, .int ((-1 : Int32))), (1, .int ((2147483647 : Int32))), (0, .ref (ad 0))]) hx hb dX9_enough_11 rfl hl (by decide) rfl (fun ls hl => ?_)
  exact kl_X9_enough_12 C _ h X (lv_sub hl [3, 2, 1, 0] rfl) 

def rmX9_seed : Room := { frames := 0, cells := 0, slots := 0, locals := 0 }
def f_X9_seed (a1 : Int32) (S : ST) : Option (Int32 × ST) :=
  if 0 ≤ a1 then (nm (S.1 31 2) fun x2 => nm (su S 31 2 a1) fun S3 => some (x2, S3)) else (some ((-1000000002 : Int32), S))
set_option maxHeartbeats 4000000 in
set_option maxRecDepth 100000 in
theorem c_X9_seed (l : Launch) (g : GG) (ad : Nat → Nat) (S : ST) (sz : Nat) (a1 : Int32)  {res : (Int32 × ST)} (h : f_X9_seed a1 S = some res) : Met l yX9_seed (WS (.code yX9_seed cX9_seed 3 (some Jvm.ClassFile.FieldType.int))) rmX9_seed (va_Pc [.ref (ad 0), .int a1] (PW kC g ad S sz)) (QI kC g ad res (AA kC ad sz)) 0 0 (AA kC ad sz) := by
  refine go_m (Qc := fun A => QI kC g ad res A) (by decide) (Nat.le_of_ble_eq_true rfl) (fun p e s m below meth c ls H locs C X hl => ?_)
  have hx := C.1.1
  have hb := C.1.2.1
  have hl : lv_has ls 3 [(0, .ref (ad 0)), (1, .int a1)] := hl
  have h : (if 0 ≤ a1 then (nm (S.1 31 2) fun x2 => nm (su S 31 2 a1) fun S3 => some (x2, S3)) else (some ((-1000000002 : Int32), S)) : Option (Int32 × ST)) = some res := h
  refine lv_iload_n hx hb dX9_seed_0 rfl (lv_at hl 1 rfl) ?_
  refine lv_if_ge (tgt := 7) hx hb dX9_seed_1 (by decide) (fun c1 => ?_) (fun c1 => ?_)
  · have h := ip h c1
    refine lv_aload_n hx hb dX9_seed_7 rfl (lv_at hl 0 rfl) ?_
    refine g_get C X inT9 0 (by decide) (eC_0 g ad S) rfl 6 (by decide) wd_399 (v := .ref (ad 31)) rfl dX9_seed_8 ?_
    refine g_getN C X inT5 31 (by decide) (eC_31 g ad S) rfl 2 (by decide) nw_201 (v := .int (S.1 31 2)) rfl dX9_seed_11 ?_
    obtain ⟨x2, ex2, h⟩ := nm_s h
    refine tp_i ex2 ?_
    refine lv_istore_n (lv' := [(2, .int x2), (0, .ref (ad 0)), (1, .int a1)]) hx hb dX9_seed_14 rfl hl (by decide) rfl (fun ls hl => ?_)
    refine lv_aload_n hx hb dX9_seed_15 rfl (lv_at hl 1 rfl) ?_
    refine g_get C X inT9 0 (by decide) (eC_0 g ad S) rfl 6 (by decide) wd_399 (v := .ref (ad 31)) rfl dX9_seed_16 ?_
    refine lv_iload_n hx hb dX9_seed_19 rfl (lv_at hl 2 rfl) ?_
    obtain ⟨S3, eS3, h⟩ := nm_s h
    refine g_putN (S' := S3) C X inT5 tyX5 tyX5_ok nmX5 31 (by decide) (eC_31 g ad S) rfl 2 (by decide) nw_201 rfl (by rfl) rfl (Nat.le_of_ble_eq_true rfl) (by subst eS3; rfl) (by subst eS3; exact fun i hi => ent_offu hi) dX9_seed_20 (fun H locs X => ?_)
    refine lv_iload_n hx hb dX9_seed_23 rfl (lv_at hl 0 rfl) ?_
    exact rt_i C X rfl (Option.some.inj h) dX9_seed_24
  · have h := inn h c1
    refine lv_ldc (v := (-1000000002 : Int32)) hx hb C.1.2.2.2.2.2.1 (C.1.2.2.2.2.2.2 _ (ws_in wd_440)) dX9_seed_4 ?_
    exact rt_i C X rfl (Option.some.inj h) dX9_seed_6

def rmX9_afternoon : Room := { frames := 5, cells := 0, slots := 0, locals := 119 }
def b_X9_afternoon_28 (K28 : Int32 → Int32 → Int32 → ST → Option (Int32 × ST)) (v2 : Int32) (v3 : Int32) (v4 : Int32) (S : ST) : Option (Int32 × ST) :=
  if v2 ≤ v4 then (some (v3, S)) else (bnd (f_X5_draw (S.1 0 5) S) fun r6 S5 => bn1 (f_X9_swingerAt r6 S5) fun r7 => om r7 (bnd (f_X5_draw ((60 : Int32)) S5) fun r11 S10 => nm (((1 : Int32)) + r11) fun x12 => nm (v4 + (1 : Int32)) fun x13 => K28 v2 v3 x13 S10) fun k8 => bnd (f_X5_draw ((60 : Int32)) S5) fun r15 S14 => nm (((1 : Int32)) + r15) fun x16 => bn1 (f_X9_ready k8 S14) fun S17 => bn1 (f_X0_letGo (x16 + (S17.1 51 7)) S17) fun S18 => bn1 (f_X5_count (S18.1 51 11) S18) fun S19 => bn1 (f_X9_isGood (S19.1 51 11)) fun r20 => if r20 = 0 then (nm (v3 + ((0 : Int32))) fun x22 => nm (v4 + (1 : Int32)) fun x23 => K28 v2 x22 x23 S19) else (nm (v3 + ((1 : Int32))) fun x24 => nm (v4 + (1 : Int32)) fun x25 => K28 v2 x24 x25 S19))
def f_X9_afternoon (a1 : Int32) (S : ST) : Option (Int32 × ST) :=
  if a1 < ((1 : Int32)) then (some ((-1000000002 : Int32), S)) else (if a1 ≤ ((40 : Int32)) then (if (S.1 0 5) = 0 then (some ((-1000000003 : Int32), S)) else (lp (fun _ _ _ _ => none) (b_X9_afternoon_28) 1000 a1 ((0 : Int32)) ((0 : Int32)) S)) else (some ((-1000000002 : Int32), S)))
set_option maxHeartbeats 4000000 in
set_option maxRecDepth 100000 in
theorem kb_X9_afternoon_28 {p : Program} {l : Launch} {e : Env} {s : State} {m : MethodId} {args : Array Value} {below : List Frame} {meth : Method} {c : Code} {g : GG} {ad : Nat → Nat} {res : (Int32 × ST)} {S : ST} (C : CX kC g ad p s m args meth c cX9_afternoon (some Jvm.ClassFile.FieldType.int) 6 yX9_afternoon.cls (.code yX9_afternoon cX9_afternoon 6 (some Jvm.ClassFile.FieldType.int))) {K28 : Int32 → Int32 → Int32 → ST → Option (Int32 × ST)} (hK28 : ∀ {v2 : Int32} {v3 : Int32} {v4 : Int32} {S : ST} {H : Heap} {locs : List Loc} {ls : Array Slot}, K28 v2 v3 v4 S = some res → WX kC g ad s S H locs → lv_has ls 6 [(0, .ref (ad 0)), (1, .int v2), (2, .int v3), (3, .int v4)] → W p l e rmX9_afternoon s m args below meth c H locs 0 0 (MQ below (QI kC g ad res (AA kC ad s.heap.size)) args s 0 0 (AA kC ad s.heap.size)) (F0 m 28 ls [])) {v2 : Int32} {v3 : Int32} {v4 : Int32}  {H : Heap} {locs : List Loc} {ls : Array Slot} (h : b_X9_afternoon_28 K28 v2 v3 v4 S = some res) (X : WX kC g ad s S H locs) (hl : lv_has ls 6 [(0, .ref (ad 0)), (1, .int v2), (2, .int v3), (3, .int v4)])  : W p l e rmX9_afternoon s m args below meth c H locs 0 0 (MQ below (QI kC g ad res (AA kC ad s.heap.size)) args s 0 0 (AA kC ad s.heap.size)) (F0 m 28 ls []) := by
  have hx := C.1.1
  have hb := C.1.2.1
  have h : (if v2 ≤ v4 then (some (v3, S)) else (bnd (f_X5_draw (S.1 0 5) S) fun r6 S5 => bn1 (f_X9_swingerAt r6 S5) fun r7 => om r7 (bnd (f_X5_draw ((60 : Int32)) S5) fun r11 S10 => nm (((1 : Int32)) + r11) fun x12 => nm (v4 + (1 : Int32)) fun x13 => K28 v2 v3 x13 S10) fun k8 => bnd (f_X5_draw ((60 : Int32)) S5) fun r15 S14 => nm (((1 : Int32)) + r15) fun x16 => bn1 (f_X9_ready k8 S14) fun S17 => bn1 (f_X0_letGo (x16 + (S17.1 51 7)) S17) fun S18 => bn1 (f_X5_count (S18.1 51 11) S18) fun S19 => bn1 (f_X9_isGood (S19.1 51 11)) fun r20 => if r20 = 0 then (nm (v3 + ((0 : Int32))) fun x22 => nm (v4 + (1 : Int32)) fun x23 => K28 v2 x22 x23 S19) else (nm (v3 + ((1 : Int32))) fun x24 => nm (v4 + (1 : Int32)) fun x25 => K28 v2 x24 x25 S19)) : Option (Int32 × ST)) = some res := h
  refine lv_iload_n hx hb dX9_afternoon_28 rfl (lv_at hl 3 rfl) ?_
  refine lv_iload_n hx hb dX9_afternoon_29 rfl (lv_at hl 1 rfl) ?_
  refine lv_icmp_ge (tgt := 132) hx hb dX9_afternoon_30 (by decide) (fun c4 => ?_) (fun c4 => ?_)
  · have h := ip h c4
    refine lv_iload_n hx hb dX9_afternoon_132 rfl (lv_at hl 2 rfl) ?_
    exact rt_i C X rfl (Option.some.inj h) dX9_afternoon_133
  · have h := inn h c4
    refine lv_aload_n hx hb dX9_afternoon_33 rfl (lv_at hl 0 rfl) ?_
    refine lv_aload_n hx hb dX9_afternoon_34 rfl (lv_at hl 0 rfl) ?_
    refine g_get C X inT9 0 (by decide) (eC_0 g ad S) rfl 6 (by decide) wd_399 (v := .ref (ad 31)) rfl dX9_afternoon_35 ?_
    refine lv_aload_n hx hb dX9_afternoon_38 rfl (lv_at hl 0 rfl) ?_
    refine g_get C X inT9 0 (by decide) (eC_0 g ad S) rfl 5 (by decide) wd_398 (v := .int (S.1 0 5)) rfl dX9_afternoon_39 ?_
    obtain ⟨r6, S5, qr6, h⟩ := bnd_s h
    refine kc_i X (res := (r6, S5)) (rV (As := [.int (S.1 0 5)]) (rest := [.ref (ad 0)]) (n := 1) (k := 31) C X (c_X5_draw l g ad S _ (S.1 0 5)  qr6) wd_950 wd_951 wd_952 wd_78 wd_953 (by decide) (eC_31 g ad S) rfl rfl rfl (by decide +kernel) ⟨Nat.le_of_ble_eq_true rfl, Nat.le_of_ble_eq_true rfl⟩ rfl hl.1 (lv_room (Nat.le_of_ble_eq_true rfl)) dX9_afternoon_42) (fun H locs X => ?_)
    obtain ⟨r7, qr7, h⟩ := bn1_s h
    refine kc_q X (res := (r7, S5)) (rV (As := [.int r6]) (rest := []) (n := 1) (k := 0) C X (c_X9_swingerAt l g ad S5 _ r6  qr7) wd_671 wd_673 wd_12 wd_70 wd_674 (by decide) (eC_0 g ad S5) rfl rfl rfl (by decide +kernel) ⟨Nat.le_of_ble_eq_true rfl, Nat.le_of_ble_eq_true rfl⟩ rfl hl.1 (lv_room (Nat.le_of_ble_eq_true rfl)) dX9_afternoon_45) (fun H locs X => ?_)
    cases r7 with
    | none =>
      have h := om_n h
      refine lv_astoreN (lv' := [(4, .null), (0, .ref (ad 0)), (1, .int v2), (2, .int v3), (3, .int v4)]) hx hb dX9_afternoon_48 hl (by decide) rfl (fun ls hl => ?_)
      refine lv_iconst (v := (1 : Int32)) hx hb dX9_afternoon_50 (by decide) ?_
      refine lv_aload_n hx hb dX9_afternoon_51 rfl (lv_at hl 1 rfl) ?_
      refine g_get C X inT9 0 (by decide) (eC_0 g ad S5) rfl 6 (by decide) wd_399 (v := .ref (ad 31)) rfl dX9_afternoon_52 ?_
      refine lv_bipush (v := (60 : Int32)) hx hb dX9_afternoon_55 (by decide) ?_
      obtain ⟨r11, S10, qr11, h⟩ := bnd_s h
      refine kc_i X (res := (r11, S10)) (rV (As := [.int ((60 : Int32))]) (rest := [.int ((1 : Int32))]) (n := 1) (k := 31) C X (c_X5_draw l g ad S5 _ ((60 : Int32))  qr11) wd_950 wd_951 wd_952 wd_78 wd_953 (by decide) (eC_31 g ad S5) rfl rfl rfl (by decide +kernel) ⟨Nat.le_of_ble_eq_true rfl, Nat.le_of_ble_eq_true rfl⟩ rfl hl.1 (lv_room (Nat.le_of_ble_eq_true rfl)) dX9_afternoon_57) (fun H locs X => ?_)
      refine lv_iadd hx hb dX9_afternoon_60 ?_
      obtain ⟨x12, ex12, h⟩ := nm_s h
      refine tp_i ex12 ?_
      refine lv_istore (lv' := [(5, .int x12), (4, .null), (0, .ref (ad 0)), (1, .int v2), (2, .int v3), (3, .int v4)]) hx hb dX9_afternoon_61 hl (by decide) rfl (fun ls hl => ?_)
      refine lv_aloadN hx hb dX9_afternoon_63 (lv_at hl 1 rfl) ?_
      refine lv_ifnullN (tgt := 126) hx hb dX9_afternoon_65 (by decide) ?_
      obtain ⟨x13, ex13, h⟩ := nm_s h
      refine lv_iinc (v := x13) (lv' := [(3, .int x13), (5, .int x12), (4, .null), (0, .ref (ad 0)), (1, .int v2), (2, .int v3)]) hx hb dX9_afternoon_126 hl (k := 5) rfl (by rw [ex13]; rfl) (by decide) rfl (fun ls hl => ?_)
      refine lv_goto (tgt := 28) hx hb dX9_afternoon_129 (by decide) ?_
      exact hK28 h X (lv_sub hl [3, 4, 5, 0] rfl) 
    | some k8 =>
      have h := om_s h
      have y9 : swk k8 = true := ok_X9_swingerAt qr7
      refine lv_astore (lv' := [(4, .ref (ad k8)), (0, .ref (ad 0)), (1, .int v2), (2, .int v3), (3, .int v4)]) hx hb dX9_afternoon_48 hl (by decide) rfl (fun ls hl => ?_)
      refine lv_iconst (v := (1 : Int32)) hx hb dX9_afternoon_50 (by decide) ?_
      refine lv_aload_n hx hb dX9_afternoon_51 rfl (lv_at hl 1 rfl) ?_
      refine g_get C X inT9 0 (by decide) (eC_0 g ad S5) rfl 6 (by decide) wd_399 (v := .ref (ad 31)) rfl dX9_afternoon_52 ?_
      refine lv_bipush (v := (60 : Int32)) hx hb dX9_afternoon_55 (by decide) ?_
      obtain ⟨r15, S14, qr15, h⟩ := bnd_s h
      refine kc_i X (res := (r15, S14)) (rV (As := [.int ((60 : Int32))]) (rest := [.int ((1 : Int32))]) (n := 1) (k := 31) C X (c_X5_draw l g ad S5 _ ((60 : Int32))  qr15) wd_950 wd_951 wd_952 wd_78 wd_953 (by decide) (eC_31 g ad S5) rfl rfl rfl (by decide +kernel) ⟨Nat.le_of_ble_eq_true rfl, Nat.le_of_ble_eq_true rfl⟩ rfl hl.1 (lv_room (Nat.le_of_ble_eq_true rfl)) dX9_afternoon_57) (fun H locs X => ?_)
      refine lv_iadd hx hb dX9_afternoon_60 ?_
      obtain ⟨x16, ex16, h⟩ := nm_s h
      refine tp_i ex16 ?_
      refine lv_istore (lv' := [(5, .int x16), (4, .ref (ad k8)), (0, .ref (ad 0)), (1, .int v2), (2, .int v3), (3, .int v4)]) hx hb dX9_afternoon_61 hl (by decide) rfl (fun ls hl => ?_)
      refine lv_aload hx hb dX9_afternoon_63 (lv_at hl 1 rfl) ?_
      refine lv_ifnull hx hb dX9_afternoon_65 ?_
      refine lv_aload_n hx hb dX9_afternoon_68 rfl (lv_at hl 2 rfl) ?_
      refine lv_aload hx hb dX9_afternoon_69 (lv_at hl 1 rfl) ?_
      obtain ⟨S17, qS17, h⟩ := bn1_s h
      refine kc_v X (res := S17) (rV (As := [.ref (ad k8)]) (rest := []) (n := 1) (k := 0) C X (c_X9_ready l g ad S14 _ k8 y9 qS17) wd_784 wd_786 wd_18 wd_70 wd_787 (by decide) (eC_0 g ad S14) rfl rfl rfl (by decide +kernel) ⟨Nat.le_of_ble_eq_true rfl, Nat.le_of_ble_eq_true rfl⟩ rfl hl.1 (lv_room (Nat.le_of_ble_eq_true rfl)) dX9_afternoon_71) (fun H locs X => ?_)
      refine lv_aload_n hx hb dX9_afternoon_74 rfl (lv_at hl 2 rfl) ?_
      refine g_get C X inT9 0 (by decide) (eC_0 g ad S17) rfl 10 (by decide) wd_403 (v := .ref (ad 51)) rfl dX9_afternoon_75 ?_
      refine lv_iload hx hb dX9_afternoon_78 (lv_at hl 0 rfl) ?_
      refine lv_aload_n hx hb dX9_afternoon_80 rfl (lv_at hl 2 rfl) ?_
      refine g_get C X inT9 0 (by decide) (eC_0 g ad S17) rfl 10 (by decide) wd_403 (v := .ref (ad 51)) rfl dX9_afternoon_81 ?_
      refine g_getN C X inT0 51 (by decide) (eC_51 g ad S17) rfl 7 (by decide) nw_297 (v := .int (S17.1 51 7)) rfl dX9_afternoon_84 ?_
      refine lv_iadd hx hb dX9_afternoon_87 ?_
      obtain ⟨S18, qS18, h⟩ := bn1_s h
      refine kc_v X (res := S18) (rV (As := [.int (x16 + (S17.1 51 7))]) (rest := []) (n := 1) (k := 51) C X (c_X0_letGo l g ad S17 _ (x16 + (S17.1 51 7))  qS18) wd_811 wd_812 wd_813 wd_81 wd_814 (by decide) (eC_51 g ad S17) rfl rfl rfl (by decide +kernel) ⟨Nat.le_of_ble_eq_true rfl, Nat.le_of_ble_eq_true rfl⟩ rfl hl.1 (lv_room (Nat.le_of_ble_eq_true rfl)) dX9_afternoon_88) (fun H locs X => ?_)
      refine lv_aload_n hx hb dX9_afternoon_91 rfl (lv_at hl 2 rfl) ?_
      refine g_get C X inT9 0 (by decide) (eC_0 g ad S18) rfl 6 (by decide) wd_399 (v := .ref (ad 31)) rfl dX9_afternoon_92 ?_
      refine lv_aload_n hx hb dX9_afternoon_95 rfl (lv_at hl 2 rfl) ?_
      refine g_get C X inT9 0 (by decide) (eC_0 g ad S18) rfl 10 (by decide) wd_403 (v := .ref (ad 51)) rfl dX9_afternoon_96 ?_
      refine g_getN C X inT0 51 (by decide) (eC_51 g ad S18) rfl 11 (by decide) nw_303 (v := .int (S18.1 51 11)) rfl dX9_afternoon_99 ?_
      obtain ⟨S19, qS19, h⟩ := bn1_s h
      refine kc_v X (res := S19) (rV (As := [.int (S18.1 51 11)]) (rest := []) (n := 1) (k := 31) C X (c_X5_count l g ad S18 _ (S18.1 51 11)  qS19) wd_958 wd_959 wd_960 wd_78 wd_961 (by decide) (eC_31 g ad S18) rfl rfl rfl (by decide +kernel) ⟨Nat.le_of_ble_eq_true rfl, Nat.le_of_ble_eq_true rfl⟩ rfl hl.1 (lv_room (Nat.le_of_ble_eq_true rfl)) dX9_afternoon_102) (fun H locs X => ?_)
      refine lv_iload_n hx hb dX9_afternoon_105 rfl (lv_at hl 4 rfl) ?_
      refine lv_aload_n hx hb dX9_afternoon_106 rfl (lv_at hl 2 rfl) ?_
      refine g_get C X inT9 0 (by decide) (eC_0 g ad S19) rfl 10 (by decide) wd_403 (v := .ref (ad 51)) rfl dX9_afternoon_107 ?_
      refine g_getN C X inT0 51 (by decide) (eC_51 g ad S19) rfl 11 (by decide) nw_303 (v := .int (S19.1 51 11)) rfl dX9_afternoon_110 ?_
      obtain ⟨r20, qr20, h⟩ := bn1_s h
      refine kc_i X (res := (r20, S19)) (rS (As := [.int (S19.1 51 11)]) (rest := [.int v3]) (n := 1) C X (c_X9_isGood l g ad S19 _ (S19.1 51 11)  qr20) wd_962 wd_849 wd_70 wd_850 rfl rfl (by decide +kernel) ⟨Nat.le_of_ble_eq_true rfl, Nat.le_of_ble_eq_true rfl⟩ rfl hl.1 (lv_room (Nat.le_of_ble_eq_true rfl)) dX9_afternoon_113) (fun H locs X => ?_)
      refine lv_if_eq (tgt := 123) hx hb dX9_afternoon_116 (by decide) (fun c21 => ?_) (fun c21 => ?_)
      · have h := ip h c21
        refine lv_iconst (v := (0 : Int32)) hx hb dX9_afternoon_123 (by decide) ?_
        refine lv_iadd hx hb dX9_afternoon_124 ?_
        obtain ⟨x22, ex22, h⟩ := nm_s h
        refine tp_i ex22 ?_
        refine lv_istore_n (lv' := [(2, .int x22), (5, .int x16), (4, .ref (ad k8)), (0, .ref (ad 0)), (1, .int v2), (3, .int v4)]) hx hb dX9_afternoon_125 rfl hl (by decide) rfl (fun ls hl => ?_)
        obtain ⟨x23, ex23, h⟩ := nm_s h
        refine lv_iinc (v := x23) (lv' := [(3, .int x23), (2, .int x22), (5, .int x16), (4, .ref (ad k8)), (0, .ref (ad 0)), (1, .int v2)]) hx hb dX9_afternoon_126 hl (k := 5) rfl (by rw [ex23]; rfl) (by decide) rfl (fun ls hl => ?_)
        refine lv_goto (tgt := 28) hx hb dX9_afternoon_129 (by decide) ?_
        exact hK28 h X (lv_sub hl [4, 5, 1, 0] rfl) 
      · have h := inn h c21
        refine lv_iconst (v := (1 : Int32)) hx hb dX9_afternoon_119 (by decide) ?_
        refine lv_goto (tgt := 124) hx hb dX9_afternoon_120 (by decide) ?_
        refine lv_iadd hx hb dX9_afternoon_124 ?_
        obtain ⟨x24, ex24, h⟩ := nm_s h
        refine tp_i ex24 ?_
        refine lv_istore_n (lv' := [(2, .int x24), (5, .int x16), (4, .ref (ad k8)), (0, .ref (ad 0)), (1, .int v2), (3, .int v4)]) hx hb dX9_afternoon_125 rfl hl (by decide) rfl (fun ls hl => ?_)
        obtain ⟨x25, ex25, h⟩ := nm_s h
        refine lv_iinc (v := x25) (lv' := [(3, .int x25), (2, .int x24), (5, .int x16), (4, .ref (ad k8)), (0, .ref (ad 0)), (1, .int v2)]) hx hb dX9_afternoon_126 hl (k := 5) rfl (by rw [ex25]; rfl) (by decide) rfl (fun ls hl => ?_)
        refine lv_goto (tgt := 28) hx hb dX9_afternoon_129 (by decide) ?_
        exact hK28 h X (lv_sub hl [4, 5, 1, 0] rfl) 
set_option maxHeartbeats 4000000 in
set_option maxRecDepth 100000 in
theorem kl_X9_afternoon_28 {p : Program} {l : Launch} {e : Env} {s : State} {m : MethodId} {args : Array Value} {below : List Frame} {meth : Method} {c : Code} {g : GG} {ad : Nat → Nat} {res : (Int32 × ST)}  (C : CX kC g ad p s m args meth c cX9_afternoon (some Jvm.ClassFile.FieldType.int) 6 yX9_afternoon.cls (.code yX9_afternoon cX9_afternoon 6 (some Jvm.ClassFile.FieldType.int)))  : ∀ (n : Nat) {v2 : Int32} {v3 : Int32} {v4 : Int32} {S : ST} {H : Heap} {locs : List Loc} {ls : Array Slot}, (lp (fun _ _ _ _ => none) (b_X9_afternoon_28)) n v2 v3 v4 S = some res → WX kC g ad s S H locs → lv_has ls 6 [(0, .ref (ad 0)), (1, .int v2), (2, .int v3), (3, .int v4)] → W p l e rmX9_afternoon s m args below meth c H locs 0 0 (MQ below (QI kC g ad res (AA kC ad s.heap.size)) args s 0 0 (AA kC ad s.heap.size)) (F0 m 28 ls []) := by
  intro n
  induction n with
  | zero =>
    intro v2 v3 v4 S H locs ls h
    cases (show (none : Option (Int32 × ST)) = some res from h)
  | succ n ih =>
    intro v2 v3 v4 S H locs ls h X hl 
    exact kb_X9_afternoon_28 C ih h X hl 
set_option maxHeartbeats 4000000 in
set_option maxRecDepth 100000 in
theorem c_X9_afternoon (l : Launch) (g : GG) (ad : Nat → Nat) (S : ST) (sz : Nat) (a1 : Int32)  {res : (Int32 × ST)} (h : f_X9_afternoon a1 S = some res) : Met l yX9_afternoon (WS (.code yX9_afternoon cX9_afternoon 6 (some Jvm.ClassFile.FieldType.int))) rmX9_afternoon (va_Pc [.ref (ad 0), .int a1] (PW kC g ad S sz)) (QI kC g ad res (AA kC ad sz)) 0 0 (AA kC ad sz) := by
  refine go_m (Qc := fun A => QI kC g ad res A) (by decide) (Nat.le_of_ble_eq_true rfl) (fun p e s m below meth c ls H locs C X hl => ?_)
  have hx := C.1.1
  have hb := C.1.2.1
  have hl : lv_has ls 6 [(0, .ref (ad 0)), (1, .int a1)] := hl
  have h : (if a1 < ((1 : Int32)) then (some ((-1000000002 : Int32), S)) else (if a1 ≤ ((40 : Int32)) then (if (S.1 0 5) = 0 then (some ((-1000000003 : Int32), S)) else (lp (fun _ _ _ _ => none) (b_X9_afternoon_28) 1000 a1 ((0 : Int32)) ((0 : Int32)) S)) else (some ((-1000000002 : Int32), S))) : Option (Int32 × ST)) = some res := h
  refine lv_iload_n hx hb dX9_afternoon_0 rfl (lv_at hl 1 rfl) ?_
  refine lv_iconst (v := (1 : Int32)) hx hb dX9_afternoon_1 (by decide) ?_
  refine lv_icmp_lt (tgt := 11) hx hb dX9_afternoon_2 (by decide) (fun c1 => ?_) (fun c1 => ?_)
  · have h := ip h c1
    refine lv_ldc (v := (-1000000002 : Int32)) hx hb C.1.2.2.2.2.2.1 (C.1.2.2.2.2.2.2 _ (ws_in wd_440)) dX9_afternoon_11 ?_
    exact rt_i C X rfl (Option.some.inj h) dX9_afternoon_13
  · have h := inn h c1
    refine lv_iload_n hx hb dX9_afternoon_5 rfl (lv_at hl 1 rfl) ?_
    refine lv_bipush (v := (40 : Int32)) hx hb dX9_afternoon_6 (by decide) ?_
    refine lv_icmp_le (tgt := 14) hx hb dX9_afternoon_8 (by decide) (fun c2 => ?_) (fun c2 => ?_)
    · have h := ip h c2
      refine lv_aload_n hx hb dX9_afternoon_14 rfl (lv_at hl 0 rfl) ?_
      refine g_get C X inT9 0 (by decide) (eC_0 g ad S) rfl 5 (by decide) wd_398 (v := .int (S.1 0 5)) rfl dX9_afternoon_15 ?_
      refine lv_if_ne (tgt := 24) hx hb dX9_afternoon_18 (by decide) (fun c3 => ?_) (fun c3 => ?_)
      · have h := inn h c3
        refine lv_iconst (v := (0 : Int32)) hx hb dX9_afternoon_24 (by decide) ?_
        refine lv_istore_n (lv' := [(2, .int ((0 : Int32))), (0, .ref (ad 0)), (1, .int a1)]) hx hb dX9_afternoon_25 rfl hl (by decide) rfl (fun ls hl => ?_)
        refine lv_iconst (v := (0 : Int32)) hx hb dX9_afternoon_26 (by decide) ?_
        refine lv_istore_n (lv' := [(3, .int ((0 : Int32))), (2, .int ((0 : Int32))), (0, .ref (ad 0)), (1, .int a1)]) hx hb dX9_afternoon_27 rfl hl (by decide) rfl (fun ls hl => ?_)
        exact kl_X9_afternoon_28 C _ h X (lv_sub hl [2, 3, 1, 0] rfl) 
      · have h := ip h c3
        refine lv_ldc (v := (-1000000003 : Int32)) hx hb C.1.2.2.2.2.2.1 (C.1.2.2.2.2.2.2 _ (ws_in wd_615)) dX9_afternoon_21 ?_
        exact rt_i C X rfl (Option.some.inj h) dX9_afternoon_23
    · have h := inn h c2
      refine lv_ldc (v := (-1000000002 : Int32)) hx hb C.1.2.2.2.2.2.1 (C.1.2.2.2.2.2.2 _ (ws_in wd_440)) dX9_afternoon_11 ?_
      exact rt_i C X rfl (Option.some.inj h) dX9_afternoon_13

def rmX9_ends : Room := { frames := 2, cells := 0, slots := 0, locals := 42 }
def f_X9_ends (a1 : Int32) (S : ST) : Option Int32 :=
  bn1 (f_X9_within a1 ((0 : Int32)) ((8 : Int32))) fun r1 => if r1 = 0 then (some ((-1000000002 : Int32))) else (bn1 (f_X5_counted a1 S) fun r3 => some r3)
set_option maxHeartbeats 4000000 in
set_option maxRecDepth 100000 in
theorem c_X9_ends (l : Launch) (g : GG) (ad : Nat → Nat) (S : ST) (sz : Nat) (a1 : Int32)  {res : Int32} (h : f_X9_ends a1 S = some res) : Met l yX9_ends (WS (.code yX9_ends cX9_ends 2 (some Jvm.ClassFile.FieldType.int))) rmX9_ends (va_Pc [.ref (ad 0), .int a1] (PW kC g ad S sz)) (QI kC g ad (res, S) (AA kC ad sz)) 0 0 (AA kC ad sz) := by
  refine go_m (Qc := fun A => QI kC g ad (res, S) A) (by decide) (Nat.le_of_ble_eq_true rfl) (fun p e s m below meth c ls H locs C X hl => ?_)
  have hx := C.1.1
  have hb := C.1.2.1
  have hl : lv_has ls 2 [(0, .ref (ad 0)), (1, .int a1)] := hl
  have h : (bn1 (f_X9_within a1 ((0 : Int32)) ((8 : Int32))) fun r1 => if r1 = 0 then (some ((-1000000002 : Int32))) else (bn1 (f_X5_counted a1 S) fun r3 => some r3) : Option Int32) = some res := h
  refine lv_iload_n hx hb dX9_ends_0 rfl (lv_at hl 1 rfl) ?_
  refine lv_iconst (v := (0 : Int32)) hx hb dX9_ends_1 (by decide) ?_
  refine lv_bipush (v := (8 : Int32)) hx hb dX9_ends_2 (by decide) ?_
  obtain ⟨r1, qr1, h⟩ := bn1_s h
  refine kc_i X (res := (r1, S)) (rS (As := [.int a1, .int ((0 : Int32)), .int ((8 : Int32))]) (rest := []) (n := 3) C X (c_X9_within l g ad S _ a1 ((0 : Int32)) ((8 : Int32))  qr1) wd_675 wd_564 wd_70 wd_565 rfl rfl (by decide +kernel) ⟨Nat.le_of_ble_eq_true rfl, Nat.le_of_ble_eq_true rfl⟩ rfl hl.1 (lv_room (Nat.le_of_ble_eq_true rfl)) dX9_ends_4) (fun H locs X => ?_)
  refine lv_if_eq (tgt := 21) hx hb dX9_ends_7 (by decide) (fun c2 => ?_) (fun c2 => ?_)
  · have h := ip h c2
    refine lv_ldc (v := (-1000000002 : Int32)) hx hb C.1.2.2.2.2.2.1 (C.1.2.2.2.2.2.2 _ (ws_in wd_440)) dX9_ends_21 ?_
    exact rt_i C X rfl (congrArg (fun z => (z, S)) (Option.some.inj h)) dX9_ends_23
  · have h := inn h c2
    refine lv_aload_n hx hb dX9_ends_10 rfl (lv_at hl 0 rfl) ?_
    refine g_get C X inT9 0 (by decide) (eC_0 g ad S) rfl 6 (by decide) wd_399 (v := .ref (ad 31)) rfl dX9_ends_11 ?_
    refine lv_iload_n hx hb dX9_ends_14 rfl (lv_at hl 1 rfl) ?_
    obtain ⟨r3, qr3, h⟩ := bn1_s h
    refine kc_i X (res := (r3, S)) (rV (As := [.int a1]) (rest := []) (n := 1) (k := 31) C X (c_X5_counted l g ad S _ a1  qr3) wd_967 wd_968 wd_969 wd_78 wd_970 (by decide) (eC_31 g ad S) rfl rfl rfl (by decide +kernel) ⟨Nat.le_of_ble_eq_true rfl, Nat.le_of_ble_eq_true rfl⟩ rfl hl.1 (lv_room (Nat.le_of_ble_eq_true rfl)) dX9_ends_15) (fun H locs X => ?_)
    refine lv_goto (tgt := 23) hx hb dX9_ends_18 (by decide) ?_
    exact rt_i C X rfl (congrArg (fun z => (z, S)) (Option.some.inj h)) dX9_ends_23

def rmX9_keep : Room := { frames := 2, cells := 0, slots := 0, locals := 61 }
def f_X9_keep (a1 : Int32) (S : ST) : Option (Int32 × ST) :=
  bn1 (f_X9_imageAt a1 S) fun r1 => om r1 (some ((-1000000001 : Int32), S)) fun k2 => bn1 (f_X5_copy k2 31 S) fun S4 => nm (su S4 k2 3 ((1 : Int32))) fun S5 => some ((1 : Int32), S5)
set_option maxHeartbeats 4000000 in
set_option maxRecDepth 100000 in
theorem c_X9_keep (l : Launch) (g : GG) (ad : Nat → Nat) (S : ST) (sz : Nat) (a1 : Int32)  {res : (Int32 × ST)} (h : f_X9_keep a1 S = some res) : Met l yX9_keep (WS (.code yX9_keep cX9_keep 3 (some Jvm.ClassFile.FieldType.int))) rmX9_keep (va_Pc [.ref (ad 0), .int a1] (PW kC g ad S sz)) (QI kC g ad res (AA kC ad sz)) 0 0 (AA kC ad sz) := by
  refine go_m (Qc := fun A => QI kC g ad res A) (by decide) (Nat.le_of_ble_eq_true rfl) (fun p e s m below meth c ls H locs C X hl => ?_)
  have hx := C.1.1
  have hb := C.1.2.1
  have hl : lv_has ls 3 [(0, .ref (ad 0)), (1, .int a1)] := hl
  have h : (bn1 (f_X9_imageAt a1 S) fun r1 => om r1 (some ((-1000000001 : Int32), S)) fun k2 => bn1 (f_X5_copy k2 31 S) fun S4 => nm (su S4 k2 3 ((1 : Int32))) fun S5 => some ((1 : Int32), S5) : Option (Int32 × ST)) = some res := h
  refine lv_aload_n hx hb dX9_keep_0 rfl (lv_at hl 0 rfl) ?_
  refine lv_iload_n hx hb dX9_keep_1 rfl (lv_at hl 1 rfl) ?_
  obtain ⟨r1, qr1, h⟩ := bn1_s h
  refine kc_q X (res := (r1, S)) (rV (As := [.int a1]) (rest := []) (n := 1) (k := 0) C X (c_X9_imageAt l g ad S _ a1  qr1) wd_975 wd_977 wd_27 wd_70 wd_978 (by decide) (eC_0 g ad S) rfl rfl rfl (by decide +kernel) ⟨Nat.le_of_ble_eq_true rfl, Nat.le_of_ble_eq_true rfl⟩ rfl hl.1 (lv_room (Nat.le_of_ble_eq_true rfl)) dX9_keep_2) (fun H locs X => ?_)
  cases r1 with
  | none =>
    have h := om_n h
    refine lv_astore_nN (lv' := [(2, .null), (0, .ref (ad 0)), (1, .int a1)]) hx hb dX9_keep_5 rfl hl (by decide) rfl (fun ls hl => ?_)
    refine lv_aload_nN hx hb dX9_keep_6 rfl (lv_at hl 0 rfl) ?_
    refine lv_ifnonnullN hx hb dX9_keep_7 ?_
    refine lv_ldc (v := (-1000000001 : Int32)) hx hb C.1.2.2.2.2.2.1 (C.1.2.2.2.2.2.2 _ (ws_in wd_644)) dX9_keep_10 ?_
    exact rt_i C X rfl (Option.some.inj h) dX9_keep_12
  | some k2 =>
    have h := om_s h
    have y3 : sttk k2 = true := ok_X9_imageAt qr1
    refine lv_astore_n (lv' := [(2, .ref (ad k2)), (0, .ref (ad 0)), (1, .int a1)]) hx hb dX9_keep_5 rfl hl (by decide) rfl (fun ls hl => ?_)
    refine lv_aload_n hx hb dX9_keep_6 rfl (lv_at hl 0 rfl) ?_
    refine lv_ifnonnull (tgt := 13) hx hb dX9_keep_7 (by decide) ?_
    refine lv_aload_n hx hb dX9_keep_13 rfl (lv_at hl 0 rfl) ?_
    refine lv_aload_n hx hb dX9_keep_14 rfl (lv_at hl 1 rfl) ?_
    refine g_get C X inT9 0 (by decide) (eC_0 g ad S) rfl 6 (by decide) wd_399 (v := .ref (ad 31)) rfl dX9_keep_15 ?_
    obtain ⟨S4, qS4, h⟩ := bn1_s h
    refine kc_v X (res := S4) (rV (As := [.ref (ad 31)]) (rest := []) (n := 1) (k := k2) C X (c_X5_copy l g ad S _ k2 31 y3 (by decide) qS4) wd_979 wd_980 wd_981 wd_78 wd_982 (lt_stt y3) (e_stt g ad S y3) rfl rfl rfl (by decide +kernel) ⟨Nat.le_of_ble_eq_true rfl, Nat.le_of_ble_eq_true rfl⟩ rfl hl.1 (lv_room (Nat.le_of_ble_eq_true rfl)) dX9_keep_18) (fun H locs X => ?_)
    refine lv_aload_n hx hb dX9_keep_21 rfl (lv_at hl 0 rfl) ?_
    refine lv_iconst (v := (1 : Int32)) hx hb dX9_keep_22 (by decide) ?_
    obtain ⟨S5, eS5, h⟩ := nm_s h
    refine g_putN (S' := S5) C X inT5 tyX5 tyX5_ok nmX5 k2 (lt_stt y3) (e_stt g ad S4 y3) rfl 3 (by decide) nw_202 rfl (by decide) rfl (Nat.le_of_ble_eq_true rfl) (by subst eS5; rw [e_stt g ad _ y3, su_k]; rfl) (by subst eS5; exact fun i hi => ent_offu hi) dX9_keep_23 (fun H locs X => ?_)
    refine lv_iconst (v := (1 : Int32)) hx hb dX9_keep_26 (by decide) ?_
    exact rt_i C X rfl (Option.some.inj h) dX9_keep_27

def rmX9_goBack : Room := { frames := 2, cells := 0, slots := 0, locals := 61 }
def f_X9_goBack (a1 : Int32) (S : ST) : Option (Int32 × ST) :=
  bn1 (f_X9_imageAt a1 S) fun r1 => om r1 (some ((-1000000001 : Int32), S)) fun k2 => if (S.1 k2 3) = 0 then (some ((-1000000003 : Int32), S)) else (bn1 (f_X5_copy 31 k2 S) fun S5 => bn1 (f_X5_inHand ((1 : Int32)) S5) fun r6 => bn1 (f_X9_mostInHand ((1 : Int32)) S5) fun r7 => nm (if r7 < r6 then r7 else r6) fun x8 => bn1 (f_X5_take ((1 : Int32)) x8 S5) fun S9 => some ((1 : Int32), S9))
set_option maxHeartbeats 4000000 in
set_option maxRecDepth 100000 in
theorem c_X9_goBack (l : Launch) (g : GG) (ad : Nat → Nat) (S : ST) (sz : Nat) (a1 : Int32)  {res : (Int32 × ST)} (h : f_X9_goBack a1 S = some res) : Met l yX9_goBack (WS (.code yX9_goBack cX9_goBack 3 (some Jvm.ClassFile.FieldType.int))) rmX9_goBack (va_Pc [.ref (ad 0), .int a1] (PW kC g ad S sz)) (QI kC g ad res (AA kC ad sz)) 0 0 (AA kC ad sz) := by
  refine go_m (Qc := fun A => QI kC g ad res A) (by decide) (Nat.le_of_ble_eq_true rfl) (fun p e s m below meth c ls H locs C X hl => ?_)
  have hx := C.1.1
  have hb := C.1.2.1
  have hl : lv_has ls 3 [(0, .ref (ad 0)), (1, .int a1)] := hl
  have h : (bn1 (f_X9_imageAt a1 S) fun r1 => om r1 (some ((-1000000001 : Int32), S)) fun k2 => if (S.1 k2 3) = 0 then (some ((-1000000003 : Int32), S)) else (bn1 (f_X5_copy 31 k2 S) fun S5 => bn1 (f_X5_inHand ((1 : Int32)) S5) fun r6 => bn1 (f_X9_mostInHand ((1 : Int32)) S5) fun r7 => nm (if r7 < r6 then r7 else r6) fun x8 => bn1 (f_X5_take ((1 : Int32)) x8 S5) fun S9 => some ((1 : Int32), S9)) : Option (Int32 × ST)) = some res := h
  refine lv_aload_n hx hb dX9_goBack_0 rfl (lv_at hl 0 rfl) ?_
  refine lv_iload_n hx hb dX9_goBack_1 rfl (lv_at hl 1 rfl) ?_
  obtain ⟨r1, qr1, h⟩ := bn1_s h
  refine kc_q X (res := (r1, S)) (rV (As := [.int a1]) (rest := []) (n := 1) (k := 0) C X (c_X9_imageAt l g ad S _ a1  qr1) wd_975 wd_977 wd_27 wd_70 wd_978 (by decide) (eC_0 g ad S) rfl rfl rfl (by decide +kernel) ⟨Nat.le_of_ble_eq_true rfl, Nat.le_of_ble_eq_true rfl⟩ rfl hl.1 (lv_room (Nat.le_of_ble_eq_true rfl)) dX9_goBack_2) (fun H locs X => ?_)
  cases r1 with
  | none =>
    have h := om_n h
    refine lv_astore_nN (lv' := [(2, .null), (0, .ref (ad 0)), (1, .int a1)]) hx hb dX9_goBack_5 rfl hl (by decide) rfl (fun ls hl => ?_)
    refine lv_aload_nN hx hb dX9_goBack_6 rfl (lv_at hl 0 rfl) ?_
    refine lv_ifnonnullN hx hb dX9_goBack_7 ?_
    refine lv_ldc (v := (-1000000001 : Int32)) hx hb C.1.2.2.2.2.2.1 (C.1.2.2.2.2.2.2 _ (ws_in wd_644)) dX9_goBack_10 ?_
    exact rt_i C X rfl (Option.some.inj h) dX9_goBack_12
  | some k2 =>
    have h := om_s h
    have y3 : sttk k2 = true := ok_X9_imageAt qr1
    refine lv_astore_n (lv' := [(2, .ref (ad k2)), (0, .ref (ad 0)), (1, .int a1)]) hx hb dX9_goBack_5 rfl hl (by decide) rfl (fun ls hl => ?_)
    refine lv_aload_n hx hb dX9_goBack_6 rfl (lv_at hl 0 rfl) ?_
    refine lv_ifnonnull (tgt := 13) hx hb dX9_goBack_7 (by decide) ?_
    refine lv_aload_n hx hb dX9_goBack_13 rfl (lv_at hl 0 rfl) ?_
    refine g_getN C X inT5 k2 (lt_stt y3) (e_stt g ad S y3) rfl 3 (by decide) nw_202 (v := .int (S.1 k2 3)) rfl dX9_goBack_14 ?_
    refine lv_if_ne (tgt := 23) hx hb dX9_goBack_17 (by decide) (fun c4 => ?_) (fun c4 => ?_)
    · have h := inn h c4
      refine lv_aload_n hx hb dX9_goBack_23 rfl (lv_at hl 1 rfl) ?_
      refine g_get C X inT9 0 (by decide) (eC_0 g ad S) rfl 6 (by decide) wd_399 (v := .ref (ad 31)) rfl dX9_goBack_24 ?_
      refine lv_aload_n hx hb dX9_goBack_27 rfl (lv_at hl 0 rfl) ?_
      obtain ⟨S5, qS5, h⟩ := bn1_s h
      refine kc_v X (res := S5) (rV (As := [.ref (ad k2)]) (rest := []) (n := 1) (k := 31) C X (c_X5_copy l g ad S _ 31 k2 (by decide) y3 qS5) wd_979 wd_980 wd_981 wd_78 wd_982 (by decide) (eC_31 g ad S) rfl rfl rfl (by decide +kernel) ⟨Nat.le_of_ble_eq_true rfl, Nat.le_of_ble_eq_true rfl⟩ rfl hl.1 (lv_room (Nat.le_of_ble_eq_true rfl)) dX9_goBack_28) (fun H locs X => ?_)
      refine lv_aload_n hx hb dX9_goBack_31 rfl (lv_at hl 1 rfl) ?_
      refine g_get C X inT9 0 (by decide) (eC_0 g ad S5) rfl 6 (by decide) wd_399 (v := .ref (ad 31)) rfl dX9_goBack_32 ?_
      refine lv_iconst (v := (1 : Int32)) hx hb dX9_goBack_35 (by decide) ?_
      refine lv_aload_n hx hb dX9_goBack_36 rfl (lv_at hl 1 rfl) ?_
      refine g_get C X inT9 0 (by decide) (eC_0 g ad S5) rfl 6 (by decide) wd_399 (v := .ref (ad 31)) rfl dX9_goBack_37 ?_
      refine lv_iconst (v := (1 : Int32)) hx hb dX9_goBack_40 (by decide) ?_
      obtain ⟨r6, qr6, h⟩ := bn1_s h
      refine kc_i X (res := (r6, S5)) (rV (As := [.int ((1 : Int32))]) (rest := [.int ((1 : Int32)), .ref (ad 31)]) (n := 1) (k := 31) C X (c_X5_inHand l g ad S5 _ ((1 : Int32))  qr6) wd_653 wd_654 wd_655 wd_78 wd_656 (by decide) (eC_31 g ad S5) rfl rfl rfl (by decide +kernel) ⟨Nat.le_of_ble_eq_true rfl, Nat.le_of_ble_eq_true rfl⟩ rfl hl.1 (lv_room (Nat.le_of_ble_eq_true rfl)) dX9_goBack_41) (fun H locs X => ?_)
      refine lv_aload_n hx hb dX9_goBack_44 rfl (lv_at hl 1 rfl) ?_
      refine lv_iconst (v := (1 : Int32)) hx hb dX9_goBack_45 (by decide) ?_
      obtain ⟨r7, qr7, h⟩ := bn1_s h
      refine kc_i X (res := (r7, S5)) (rV (As := [.int ((1 : Int32))]) (rest := [.int r6, .int ((1 : Int32)), .ref (ad 31)]) (n := 1) (k := 0) C X (c_X9_mostInHand l g ad S5 _ ((1 : Int32))  qr7) wd_686 wd_688 wd_13 wd_70 wd_689 (by decide) (eC_0 g ad S5) rfl rfl rfl (by decide +kernel) ⟨Nat.le_of_ble_eq_true rfl, Nat.le_of_ble_eq_true rfl⟩ rfl hl.1 (lv_room (Nat.le_of_ble_eq_true rfl)) dX9_goBack_46) (fun H locs X => ?_)
      refine va_mmin hx hb (C.1.2.2.2.2.1.trans hl.1.symm) C.1.2.2.2.2.2.1 (C.1.2.2.2.2.2.2 _ (ws_in wd_691)) (C.1.2.2.2.2.2.2 _ (ws_in wd_155)) (C.1.2.2.2.2.2.2 _ (ws_in wd_74)) (C.1.2.2.2.2.2.2 _ (ws_in wd_156)) (Nat.le_of_ble_eq_true rfl) (Nat.le_of_ble_eq_true rfl) (Nat.zero_le _) (Nat.zero_le _) dX9_goBack_49 ?_
      obtain ⟨x8, ex8, h⟩ := nm_s h
      refine tp_i ex8 ?_
      obtain ⟨S9, qS9, h⟩ := bn1_s h
      refine kc_v X (res := S9) (rV (As := [.int ((1 : Int32)), .int x8]) (rest := []) (n := 2) (k := 31) C X (c_X5_take l g ad S5 _ ((1 : Int32)) x8  qS9) wd_692 wd_383 wd_384 wd_78 wd_385 (by decide) (eC_31 g ad S5) rfl rfl rfl (by decide +kernel) ⟨Nat.le_of_ble_eq_true rfl, Nat.le_of_ble_eq_true rfl⟩ rfl hl.1 (lv_room (Nat.le_of_ble_eq_true rfl)) dX9_goBack_52) (fun H locs X => ?_)
      refine lv_iconst (v := (1 : Int32)) hx hb dX9_goBack_55 (by decide) ?_
      exact rt_i C X rfl (Option.some.inj h) dX9_goBack_56
    · have h := ip h c4
      refine lv_ldc (v := (-1000000003 : Int32)) hx hb C.1.2.2.2.2.2.1 (C.1.2.2.2.2.2.2 _ (ws_in wd_615)) dX9_goBack_20 ?_
      exact rt_i C X rfl (Option.some.inj h) dX9_goBack_22
