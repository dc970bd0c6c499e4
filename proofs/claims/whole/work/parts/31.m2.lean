def rmX10_lower : Room := { frames := 0, cells := 0, slots := 0, locals := 0 }
def f_X10_lower  (S : ST) : Option Int32 :=
  chk (ib (S.1 6 ((0 : Int32)).toNatClampNeg) 12) (some (S.1 4 (S.1 6 ((0 : Int32)).toNatClampNeg).toNatClampNeg))
set_option maxHeartbeats 4000000 in
set_option maxRecDepth 100000 in
theorem c_X10_lower (l : Launch) (g : GG) (ad : Nat → Nat) (S : ST) (sz : Nat)   {res : Int32} (h : f_X10_lower S = some res) : Met l yX10_lower (WS (.code yX10_lower cX10_lower 1 (some Jvm.ClassFile.FieldType.int))) rmX10_lower (va_Pc [.ref (ad 0)] (PW kM g ad S sz)) (QI kM g ad (res, S) (AA kM ad sz)) 0 0 (AA kM ad sz) := by
  refine go_m (Qc := fun A => QI kM g ad (res, S) A) (by decide) (Nat.le_of_ble_eq_true rfl) (fun p e s m below meth c ls H locs C X hl => ?_)
  have hx := C.1.1
  have hb := C.1.2.1
  have hl : lv_has ls 1 [(0, .ref (ad 0))] := hl
  have h : (chk (ib (S.1 6 ((0 : Int32)).toNatClampNeg) 12) (some (S.1 4 (S.1 6 ((0 : Int32)).toNatClampNeg).toNatClampNeg)) : Option Int32) = some res := h
  refine lv_aload_n hx hb dX10_lower_0 rfl (lv_at hl 0 rfl) ?_
  refine g_get C X inT10 0 (by decide) (eM_0 g ad S) rfl 3 (by decide) wd_1009 (v := .ref (ad 4)) rfl dX10_lower_1 ?_
  refine lv_aload_n hx hb dX10_lower_4 rfl (lv_at hl 0 rfl) ?_
  refine g_get C X inT10 0 (by decide) (eM_0 g ad S) rfl 6 (by decide) wd_1012 (v := .ref (ad 6)) rfl dX10_lower_5 ?_
  refine lv_iconst (v := (0 : Int32)) hx hb dX10_lower_8 (by decide) ?_
  refine g_iald C X 6 (by decide) (eM_6 g ad S) (by decide) dX10_lower_9 ?_
  obtain ⟨k1, h⟩ := chk_s h
  refine g_iald C X 4 (by decide) (eM_4 g ad S) k1 dX10_lower_10 ?_
  exact rt_i C X rfl (congrArg (fun z => (z, S)) (Option.some.inj h)) dX10_lower_11

def rmX10_depthOf : Room := { frames := 1, cells := 0, slots := 0, locals := 20 }
def f_X10_depthOf (a1 : Int32) (S : ST) : Option Int32 :=
  chk (ib a1 24) (bn1 (f_X10_lower S) fun r2 => if r2 ≤ (S.1 2 a1.toNatClampNeg) then (chk (ib a1 24) (bn1 (f_X10_lower S) fun r5 => some ((S.1 2 a1.toNatClampNeg) - r5))) else (some ((0 : Int32))))
set_option maxHeartbeats 4000000 in
set_option maxRecDepth 100000 in
theorem c_X10_depthOf (l : Launch) (g : GG) (ad : Nat → Nat) (S : ST) (sz : Nat) (a1 : Int32)  {res : Int32} (h : f_X10_depthOf a1 S = some res) : Met l yX10_depthOf (WS (.code yX10_depthOf cX10_depthOf 2 (some Jvm.ClassFile.FieldType.int))) rmX10_depthOf (va_Pc [.ref (ad 0), .int a1] (PW kM g ad S sz)) (QI kM g ad (res, S) (AA kM ad sz)) 0 0 (AA kM ad sz) := by
  refine go_m (Qc := fun A => QI kM g ad (res, S) A) (by decide) (Nat.le_of_ble_eq_true rfl) (fun p e s m below meth c ls H locs C X hl => ?_)
  have hx := C.1.1
  have hb := C.1.2.1
  have hl : lv_has ls 2 [(0, .ref (ad 0)), (1, .int a1)] := hl
  have h : (chk (ib a1 24) (bn1 (f_X10_lower S) fun r2 => if r2 ≤ (S.1 2 a1.toNatClampNeg) then (chk (ib a1 24) (bn1 (f_X10_lower S) fun r5 => some ((S.1 2 a1.toNatClampNeg) - r5))) else (some ((0 : Int32)))) : Option Int32) = some res := h
  refine lv_aload_n hx hb dX10_depthOf_0 rfl (lv_at hl 0 rfl) ?_
  refine g_get C X inT10 0 (by decide) (eM_0 g ad S) rfl 1 (by decide) wd_1007 (v := .ref (ad 2)) rfl dX10_depthOf_1 ?_
  refine lv_iload_n hx hb dX10_depthOf_4 rfl (lv_at hl 1 rfl) ?_
  obtain ⟨k1, h⟩ := chk_s h
  refine g_iald C X 2 (by decide) (eM_2 g ad S) k1 dX10_depthOf_5 ?_
  refine lv_aload_n hx hb dX10_depthOf_6 rfl (lv_at hl 0 rfl) ?_
  obtain ⟨r2, qr2, h⟩ := bn1_s h
  refine kc_i X (res := (r2, S)) (rV (As := []) (rest := [.int (S.1 2 a1.toNatClampNeg)]) (n := 0) (k := 0) C X (c_X10_lower l g ad S _   qr2) wd_1254 wd_1256 wd_45 wd_83 wd_1257 (by decide) (eM_0 g ad S) rfl rfl rfl (by decide +kernel) ⟨Nat.le_of_ble_eq_true rfl, Nat.le_of_ble_eq_true rfl⟩ rfl hl.1 (lv_room (Nat.le_of_ble_eq_true rfl)) dX10_depthOf_7) (fun H locs X => ?_)
  refine lv_icmp_ge (tgt := 17) hx hb dX10_depthOf_10 (by decide) (fun c3 => ?_) (fun c3 => ?_)
  · have h := ip h c3
    refine lv_aload_n hx hb dX10_depthOf_17 rfl (lv_at hl 0 rfl) ?_
    refine g_get C X inT10 0 (by decide) (eM_0 g ad S) rfl 1 (by decide) wd_1007 (v := .ref (ad 2)) rfl dX10_depthOf_18 ?_
    refine lv_iload_n hx hb dX10_depthOf_21 rfl (lv_at hl 1 rfl) ?_
    obtain ⟨k4, h⟩ := chk_s h
    refine g_iald C X 2 (by decide) (eM_2 g ad S) k4 dX10_depthOf_22 ?_
    refine lv_aload_n hx hb dX10_depthOf_23 rfl (lv_at hl 0 rfl) ?_
    obtain ⟨r5, qr5, h⟩ := bn1_s h
    refine kc_i X (res := (r5, S)) (rV (As := []) (rest := [.int (S.1 2 a1.toNatClampNeg)]) (n := 0) (k := 0) C X (c_X10_lower l g ad S _   qr5) wd_1254 wd_1256 wd_45 wd_83 wd_1257 (by decide) (eM_0 g ad S) rfl rfl rfl (by decide +kernel) ⟨Nat.le_of_ble_eq_true rfl, Nat.le_of_ble_eq_true rfl⟩ rfl hl.1 (lv_room (Nat.le_of_ble_eq_true rfl)) dX10_depthOf_24) (fun H locs X => ?_)
    refine lv_isub hx hb dX10_depthOf_27 ?_
    exact rt_i C X rfl (congrArg (fun z => (z, S)) (Option.some.inj h)) dX10_depthOf_28
  · have h := inn h c3
    refine lv_iconst (v := (0 : Int32)) hx hb dX10_depthOf_13 (by decide) ?_
    refine lv_goto (tgt := 28) hx hb dX10_depthOf_14 (by decide) ?_
    exact rt_i C X rfl (congrArg (fun z => (z, S)) (Option.some.inj h)) dX10_depthOf_28

def rmX10_kindOf : Room := { frames := 0, cells := 0, slots := 0, locals := 0 }
def f_X10_kindOf (a1 : Int32) (S : ST) : Option Int32 :=
  if a1 < (S.1 1 ((8 : Int32)).toNatClampNeg) then (chk (ib a1 24) (if (S.1 3 a1.toNatClampNeg) = 0 then (some ((0 : Int32))) else (some ((1 : Int32))))) else (some ((2 : Int32)))
set_option maxHeartbeats 4000000 in
set_option maxRecDepth 100000 in
theorem c_X10_kindOf (l : Launch) (g : GG) (ad : Nat → Nat) (S : ST) (sz : Nat) (a1 : Int32)  {res : Int32} (h : f_X10_kindOf a1 S = some res) : Met l yX10_kindOf (WS (.code yX10_kindOf cX10_kindOf 2 (some Jvm.ClassFile.FieldType.int))) rmX10_kindOf (va_Pc [.ref (ad 0), .int a1] (PW kM g ad S sz)) (QI kM g ad (res, S) (AA kM ad sz)) 0 0 (AA kM ad sz) := by
  refine go_m (Qc := fun A => QI kM g ad (res, S) A) (by decide) (Nat.le_of_ble_eq_true rfl) (fun p e s m below meth c ls H locs C X hl => ?_)
  have hx := C.1.1
  have hb := C.1.2.1
  have hl : lv_has ls 2 [(0, .ref (ad 0)), (1, .int a1)] := hl
  have h : (if a1 < (S.1 1 ((8 : Int32)).toNatClampNeg) then (chk (ib a1 24) (if (S.1 3 a1.toNatClampNeg) = 0 then (some ((0 : Int32))) else (some ((1 : Int32))))) else (some ((2 : Int32))) : Option Int32) = some res := h
  refine lv_iload_n hx hb dX10_kindOf_0 rfl (lv_at hl 1 rfl) ?_
  refine lv_aload_n hx hb dX10_kindOf_1 rfl (lv_at hl 0 rfl) ?_
  refine g_get C X inT10 0 (by decide) (eM_0 g ad S) rfl 0 (by decide) wd_1006 (v := .ref (ad 1)) rfl dX10_kindOf_2 ?_
  refine lv_bipush (v := (8 : Int32)) hx hb dX10_kindOf_5 (by decide) ?_
  refine g_iald C X 1 (by decide) (eM_1 g ad S) (by decide) dX10_kindOf_7 ?_
  refine lv_icmp_lt (tgt := 15) hx hb dX10_kindOf_8 (by decide) (fun c1 => ?_) (fun c1 => ?_)
  · have h := ip h c1
    refine lv_aload_n hx hb dX10_kindOf_15 rfl (lv_at hl 0 rfl) ?_
    refine g_get C X inT10 0 (by decide) (eM_0 g ad S) rfl 2 (by decide) wd_1008 (v := .ref (ad 3)) rfl dX10_kindOf_16 ?_
    refine lv_iload_n hx hb dX10_kindOf_19 rfl (lv_at hl 1 rfl) ?_
    obtain ⟨k2, h⟩ := chk_s h
    refine g_zald C X 3 (by decide) (eM_3 g ad S) k2 dX10_kindOf_20 ?_
    refine lv_if_eq (tgt := 28) hx hb dX10_kindOf_21 (by decide) (fun c3 => ?_) (fun c3 => ?_)
    · have h := ip h c3
      refine lv_iconst (v := (0 : Int32)) hx hb dX10_kindOf_28 (by decide) ?_
      exact rt_i C X rfl (congrArg (fun z => (z, S)) (Option.some.inj h)) dX10_kindOf_29
    · have h := inn h c3
      refine lv_iconst (v := (1 : Int32)) hx hb dX10_kindOf_24 (by decide) ?_
      refine lv_goto (tgt := 29) hx hb dX10_kindOf_25 (by decide) ?_
      exact rt_i C X rfl (congrArg (fun z => (z, S)) (Option.some.inj h)) dX10_kindOf_29
  · have h := inn h c1
    refine lv_iconst (v := (2 : Int32)) hx hb dX10_kindOf_11 (by decide) ?_
    refine lv_goto (tgt := 29) hx hb dX10_kindOf_12 (by decide) ?_
    exact rt_i C X rfl (congrArg (fun z => (z, S)) (Option.some.inj h)) dX10_kindOf_29

def rmX10_cell : Room := { frames := 2, cells := 0, slots := 0, locals := 41 }
def f_X10_cell (a1 : Int32) (a2 : Int32) (S : ST) : Option Int32 :=
  bn1 (f_X10_in (a1.toInt64) ((0 : Int64)) ((23 : Int64))) fun r1 => if r1 = 0 then (some ((-1000000001 : Int32))) else (if a2 = 0 then (chk (ib a1 24) (some (S.1 2 a1.toNatClampNeg))) else (if a2 = ((1 : Int32)) then (bn1 (f_X10_depthOf a1 S) fun r7 => some r7) else (if a2 = ((2 : Int32)) then (bn1 (f_X10_kindOf a1 S) fun r6 => some r6) else (some ((-1000000002 : Int32))))))
set_option maxHeartbeats 4000000 in
set_option maxRecDepth 100000 in
theorem c_X10_cell (l : Launch) (g : GG) (ad : Nat → Nat) (S : ST) (sz : Nat) (a1 : Int32) (a2 : Int32)  {res : Int32} (h : f_X10_cell a1 a2 S = some res) : Met l yX10_cell (WS (.code yX10_cell cX10_cell 3 (some Jvm.ClassFile.FieldType.int))) rmX10_cell (va_Pc [.ref (ad 0), .int a1, .int a2] (PW kM g ad S sz)) (QI kM g ad (res, S) (AA kM ad sz)) 0 0 (AA kM ad sz) := by
  refine go_m (Qc := fun A => QI kM g ad (res, S) A) (by decide) (Nat.le_of_ble_eq_true rfl) (fun p e s m below meth c ls H locs C X hl => ?_)
  have hx := C.1.1
  have hb := C.1.2.1
  have hl : lv_has ls 3 [(0, .ref (ad 0)), (1, .int a1), (2, .int a2)] := hl
  have h : (bn1 (f_X10_in (a1.toInt64) ((0 : Int64)) ((23 : Int64))) fun r1 => if r1 = 0 then (some ((-1000000001 : Int32))) else (if a2 = 0 then (chk (ib a1 24) (some (S.1 2 a1.toNatClampNeg))) else (if a2 = ((1 : Int32)) then (bn1 (f_X10_depthOf a1 S) fun r7 => some r7) else (if a2 = ((2 : Int32)) then (bn1 (f_X10_kindOf a1 S) fun r6 => some r6) else (some ((-1000000002 : Int32)))))) : Option Int32) = some res := h
  refine lv_iload_n hx hb dX10_cell_0 rfl (lv_at hl 1 rfl) ?_
  refine lv_i2l hx hb dX10_cell_1 rfl ?_
  refine lv_lconst (v := (0 : Int64)) hx hb dX10_cell_2 (by decide) ?_
  refine lv_ldc2 (v := (23 : Int64)) hx hb C.1.2.2.2.2.2.1 (C.1.2.2.2.2.2.2 _ (ws_in wd_1248)) dX10_cell_3 ?_
  obtain ⟨r1, qr1, h⟩ := bn1_s h
  refine kc_i X (res := (r1, S)) (rS (As := [.long (a1.toInt64), .long ((0 : Int64)), .long ((23 : Int64))]) (rest := []) (n := 3) C X (c_X10_in l g ad S _ (a1.toInt64) ((0 : Int64)) ((23 : Int64))  qr1) wd_1151 wd_1152 wd_83 wd_1153 rfl rfl (by decide +kernel) ⟨Nat.le_of_ble_eq_true rfl, Nat.le_of_ble_eq_true rfl⟩ rfl hl.1 (lv_room (Nat.le_of_ble_eq_true rfl)) dX10_cell_6) (fun H locs X => ?_)
  refine lv_if_ne (tgt := 15) hx hb dX10_cell_9 (by decide) (fun c2 => ?_) (fun c2 => ?_)
  · have h := inn h c2
    refine lv_iload_n hx hb dX10_cell_15 rfl (lv_at hl 2 rfl) ?_
    refine lv_if_ne (tgt := 28) hx hb dX10_cell_16 (by decide) (fun c3 => ?_) (fun c3 => ?_)
    · have h := inn h c3
      refine lv_iload_n hx hb dX10_cell_28 rfl (lv_at hl 2 rfl) ?_
      refine lv_iconst (v := (1 : Int32)) hx hb dX10_cell_29 (by decide) ?_
      refine lv_icmp_ne (tgt := 41) hx hb dX10_cell_30 (by decide) (fun c4 => ?_) (fun c4 => ?_)
      · have h := inn h c4
        refine lv_iload_n hx hb dX10_cell_41 rfl (lv_at hl 2 rfl) ?_
        refine lv_iconst (v := (2 : Int32)) hx hb dX10_cell_42 (by decide) ?_
        refine lv_icmp_ne (tgt := 54) hx hb dX10_cell_43 (by decide) (fun c5 => ?_) (fun c5 => ?_)
        · have h := inn h c5
          refine lv_ldc (v := (-1000000002 : Int32)) hx hb C.1.2.2.2.2.2.1 (C.1.2.2.2.2.2.2 _ (ws_in wd_1154)) dX10_cell_54 ?_
          exact rt_i C X rfl (congrArg (fun z => (z, S)) (Option.some.inj h)) dX10_cell_56
        · have h := ip h c5
          refine lv_aload_n hx hb dX10_cell_46 rfl (lv_at hl 0 rfl) ?_
          refine lv_iload_n hx hb dX10_cell_47 rfl (lv_at hl 1 rfl) ?_
          obtain ⟨r6, qr6, h⟩ := bn1_s h
          refine kc_i X (res := (r6, S)) (rV (As := [.int a1]) (rest := []) (n := 1) (k := 0) C X (c_X10_kindOf l g ad S _ a1  qr6) wd_1258 wd_1260 wd_46 wd_83 wd_1261 (by decide) (eM_0 g ad S) rfl rfl rfl (by decide +kernel) ⟨Nat.le_of_ble_eq_true rfl, Nat.le_of_ble_eq_true rfl⟩ rfl hl.1 (lv_room (Nat.le_of_ble_eq_true rfl)) dX10_cell_48) (fun H locs X => ?_)
          refine lv_goto (tgt := 56) hx hb dX10_cell_51 (by decide) ?_
          exact rt_i C X rfl (congrArg (fun z => (z, S)) (Option.some.inj h)) dX10_cell_56
      · have h := ip h c4
        refine lv_aload_n hx hb dX10_cell_33 rfl (lv_at hl 0 rfl) ?_
        refine lv_iload_n hx hb dX10_cell_34 rfl (lv_at hl 1 rfl) ?_
        obtain ⟨r7, qr7, h⟩ := bn1_s h
        refine kc_i X (res := (r7, S)) (rV (As := [.int a1]) (rest := []) (n := 1) (k := 0) C X (c_X10_depthOf l g ad S _ a1  qr7) wd_1250 wd_1252 wd_44 wd_83 wd_1253 (by decide) (eM_0 g ad S) rfl rfl rfl (by decide +kernel) ⟨Nat.le_of_ble_eq_true rfl, Nat.le_of_ble_eq_true rfl⟩ rfl hl.1 (lv_room (Nat.le_of_ble_eq_true rfl)) dX10_cell_35) (fun H locs X => ?_)
        refine lv_goto (tgt := 56) hx hb dX10_cell_38 (by decide) ?_
        exact rt_i C X rfl (congrArg (fun z => (z, S)) (Option.some.inj h)) dX10_cell_56
    · have h := ip h c3
      refine lv_aload_n hx hb dX10_cell_19 rfl (lv_at hl 0 rfl) ?_
      refine g_get C X inT10 0 (by decide) (eM_0 g ad S) rfl 1 (by decide) wd_1007 (v := .ref (ad 2)) rfl dX10_cell_20 ?_
      refine lv_iload_n hx hb dX10_cell_23 rfl (lv_at hl 1 rfl) ?_
      obtain ⟨k8, h⟩ := chk_s h
      refine g_iald C X 2 (by decide) (eM_2 g ad S) k8 dX10_cell_24 ?_
      refine lv_goto (tgt := 56) hx hb dX10_cell_25 (by decide) ?_
      exact rt_i C X rfl (congrArg (fun z => (z, S)) (Option.some.inj h)) dX10_cell_56
  · have h := ip h c2
    refine lv_ldc (v := (-1000000001 : Int32)) hx hb C.1.2.2.2.2.2.1 (C.1.2.2.2.2.2.2 _ (ws_in wd_1249)) dX10_cell_12 ?_
    exact rt_i C X rfl (congrArg (fun z => (z, S)) (Option.some.inj h)) dX10_cell_14

def rmX10_who : Room := { frames := 2, cells := 0, slots := 0, locals := 46 }
def f_X10_who (a1 : Int32) (a2 : Int32) (S : ST) : Option Int32 :=
  bn1 (f_X10_isSwinger a1 S) fun r1 => if r1 = 0 then (some ((-1000000001 : Int32))) else (bn1 (f_X10_in (a2.toInt64) ((0 : Int64)) ((4 : Int64))) fun r3 => if r3 = 0 then (some ((-1000000002 : Int32))) else (chk (ib ((((5 : Int32)) * a1) + a2) 40) (some (S.1 5 ((((5 : Int32)) * a1) + a2).toNatClampNeg))))
set_option maxHeartbeats 4000000 in
set_option maxRecDepth 100000 in
theorem c_X10_who (l : Launch) (g : GG) (ad : Nat → Nat) (S : ST) (sz : Nat) (a1 : Int32) (a2 : Int32)  {res : Int32} (h : f_X10_who a1 a2 S = some res) : Met l yX10_who (WS (.code yX10_who cX10_who 3 (some Jvm.ClassFile.FieldType.int))) rmX10_who (va_Pc [.ref (ad 0), .int a1, .int a2] (PW kM g ad S sz)) (QI kM g ad (res, S) (AA kM ad sz)) 0 0 (AA kM ad sz) := by
  refine go_m (Qc := fun A => QI kM g ad (res, S) A) (by decide) (Nat.le_of_ble_eq_true rfl) (fun p e s m below meth c ls H locs C X hl => ?_)
  have hx := C.1.1
  have hb := C.1.2.1
  have hl : lv_has ls 3 [(0, .ref (ad 0)), (1, .int a1), (2, .int a2)] := hl
  have h : (bn1 (f_X10_isSwinger a1 S) fun r1 => if r1 = 0 then (some ((-1000000001 : Int32))) else (bn1 (f_X10_in (a2.toInt64) ((0 : Int64)) ((4 : Int64))) fun r3 => if r3 = 0 then (some ((-1000000002 : Int32))) else (chk (ib ((((5 : Int32)) * a1) + a2) 40) (some (S.1 5 ((((5 : Int32)) * a1) + a2).toNatClampNeg)))) : Option Int32) = some res := h
  refine lv_aload_n hx hb dX10_who_0 rfl (lv_at hl 0 rfl) ?_
  refine lv_iload_n hx hb dX10_who_1 rfl (lv_at hl 1 rfl) ?_
  obtain ⟨r1, qr1, h⟩ := bn1_s h
  refine kc_i X (res := (r1, S)) (rV (As := [.int a1]) (rest := []) (n := 1) (k := 0) C X (c_X10_isSwinger l g ad S _ a1  qr1) wd_1266 wd_1268 wd_47 wd_83 wd_1269 (by decide) (eM_0 g ad S) rfl rfl rfl (by decide +kernel) ⟨Nat.le_of_ble_eq_true rfl, Nat.le_of_ble_eq_true rfl⟩ rfl hl.1 (lv_room (Nat.le_of_ble_eq_true rfl)) dX10_who_2) (fun H locs X => ?_)
  refine lv_if_ne (tgt := 11) hx hb dX10_who_5 (by decide) (fun c2 => ?_) (fun c2 => ?_)
  · have h := inn h c2
    refine lv_iload_n hx hb dX10_who_11 rfl (lv_at hl 2 rfl) ?_
    refine lv_i2l hx hb dX10_who_12 rfl ?_
    refine lv_lconst (v := (0 : Int64)) hx hb dX10_who_13 (by decide) ?_
    refine lv_ldc2 (v := (4 : Int64)) hx hb C.1.2.2.2.2.2.1 (C.1.2.2.2.2.2.2 _ (ws_in wd_1270)) dX10_who_14 ?_
    obtain ⟨r3, qr3, h⟩ := bn1_s h
    refine kc_i X (res := (r3, S)) (rS (As := [.long (a2.toInt64), .long ((0 : Int64)), .long ((4 : Int64))]) (rest := []) (n := 3) C X (c_X10_in l g ad S _ (a2.toInt64) ((0 : Int64)) ((4 : Int64))  qr3) wd_1151 wd_1152 wd_83 wd_1153 rfl rfl (by decide +kernel) ⟨Nat.le_of_ble_eq_true rfl, Nat.le_of_ble_eq_true rfl⟩ rfl hl.1 (lv_room (Nat.le_of_ble_eq_true rfl)) dX10_who_17) (fun H locs X => ?_)
    refine lv_if_eq (tgt := 36) hx hb dX10_who_20 (by decide) (fun c4 => ?_) (fun c4 => ?_)
    · have h := ip h c4
      refine lv_ldc (v := (-1000000002 : Int32)) hx hb C.1.2.2.2.2.2.1 (C.1.2.2.2.2.2.2 _ (ws_in wd_1154)) dX10_who_36 ?_
      exact rt_i C X rfl (congrArg (fun z => (z, S)) (Option.some.inj h)) dX10_who_38
    · have h := inn h c4
      refine lv_aload_n hx hb dX10_who_23 rfl (lv_at hl 0 rfl) ?_
      refine g_get C X inT10 0 (by decide) (eM_0 g ad S) rfl 5 (by decide) wd_1011 (v := .ref (ad 5)) rfl dX10_who_24 ?_
      refine lv_iconst (v := (5 : Int32)) hx hb dX10_who_27 (by decide) ?_
      refine lv_iload_n hx hb dX10_who_28 rfl (lv_at hl 1 rfl) ?_
      refine lv_imul hx hb dX10_who_29 ?_
      refine lv_iload_n hx hb dX10_who_30 rfl (lv_at hl 2 rfl) ?_
      refine lv_iadd hx hb dX10_who_31 ?_
      obtain ⟨k5, h⟩ := chk_s h
      refine g_iald C X 5 (by decide) (eM_5 g ad S) k5 dX10_who_32 ?_
      refine lv_goto (tgt := 38) hx hb dX10_who_33 (by decide) ?_
      exact rt_i C X rfl (congrArg (fun z => (z, S)) (Option.some.inj h)) dX10_who_38
  · have h := ip h c2
    refine lv_ldc (v := (-1000000001 : Int32)) hx hb C.1.2.2.2.2.2.1 (C.1.2.2.2.2.2.2 _ (ws_in wd_1249)) dX10_who_8 ?_
    exact rt_i C X rfl (congrArg (fun z => (z, S)) (Option.some.inj h)) dX10_who_10

def rmX10_mostOf : Room := { frames := 0, cells := 0, slots := 0, locals := 0 }
def f_X10_mostOf (a1 : Int32) : Option Int32 :=
  if a1 = 0 then (some ((11 : Int32))) else (if a1 = ((1 : Int32)) then (some ((300 : Int32))) else (if a1 = ((2 : Int32)) then (some ((40 : Int32))) else (if a1 = ((3 : Int32)) then (some ((80 : Int32))) else (some ((600 : Int32))))))
set_option maxHeartbeats 4000000 in
set_option maxRecDepth 100000 in
theorem c_X10_mostOf (l : Launch) (g : GG) (ad : Nat → Nat) (S : ST) (sz : Nat) (a1 : Int32)  {res : Int32} (h : f_X10_mostOf a1 = some res) : Met l yX10_mostOf (WS (.code yX10_mostOf cX10_mostOf 1 (some Jvm.ClassFile.FieldType.int))) rmX10_mostOf (va_Pc [.int a1] (PW kM g ad S sz)) (QI kM g ad (res, S) (AA kM ad sz)) 0 0 (AA kM ad sz) := by
  refine go_m (Qc := fun A => QI kM g ad (res, S) A) (by decide) (Nat.le_of_ble_eq_true rfl) (fun p e s m below meth c ls H locs C X hl => ?_)
  have hx := C.1.1
  have hb := C.1.2.1
  have hl : lv_has ls 1 [(0, .int a1)] := hl
  have h : (if a1 = 0 then (some ((11 : Int32))) else (if a1 = ((1 : Int32)) then (some ((300 : Int32))) else (if a1 = ((2 : Int32)) then (some ((40 : Int32))) else (if a1 = ((3 : Int32)) then (some ((80 : Int32))) else (some ((600 : Int32)))))) : Option Int32) = some res := h
  refine lv_iload_n hx hb dX10_mostOf_0 rfl (lv_at hl 0 rfl) ?_
  refine lv_if_ne (tgt := 9) hx hb dX10_mostOf_1 (by decide) (fun c1 => ?_) (fun c1 => ?_)
  · have h := inn h c1
    refine lv_iload_n hx hb dX10_mostOf_9 rfl (lv_at hl 0 rfl) ?_
    refine lv_iconst (v := (1 : Int32)) hx hb dX10_mostOf_10 (by decide) ?_
    refine lv_icmp_ne (tgt := 20) hx hb dX10_mostOf_11 (by decide) (fun c2 => ?_) (fun c2 => ?_)
    · have h := inn h c2
      refine lv_iload_n hx hb dX10_mostOf_20 rfl (lv_at hl 0 rfl) ?_
      refine lv_iconst (v := (2 : Int32)) hx hb dX10_mostOf_21 (by decide) ?_
      refine lv_icmp_ne (tgt := 30) hx hb dX10_mostOf_22 (by decide) (fun c3 => ?_) (fun c3 => ?_)
      · have h := inn h c3
        refine lv_iload_n hx hb dX10_mostOf_30 rfl (lv_at hl 0 rfl) ?_
        refine lv_iconst (v := (3 : Int32)) hx hb dX10_mostOf_31 (by decide) ?_
        refine lv_icmp_ne (tgt := 40) hx hb dX10_mostOf_32 (by decide) (fun c4 => ?_) (fun c4 => ?_)
        · have h := inn h c4
          refine lv_sipush (v := (600 : Int32)) hx hb dX10_mostOf_40 (by decide) ?_
          exact rt_i C X rfl (congrArg (fun z => (z, S)) (Option.some.inj h)) dX10_mostOf_43
        · have h := ip h c4
          refine lv_bipush (v := (80 : Int32)) hx hb dX10_mostOf_35 (by decide) ?_
          refine lv_goto (tgt := 43) hx hb dX10_mostOf_37 (by decide) ?_
          exact rt_i C X rfl (congrArg (fun z => (z, S)) (Option.some.inj h)) dX10_mostOf_43
      · have h := ip h c3
        refine lv_bipush (v := (40 : Int32)) hx hb dX10_mostOf_25 (by decide) ?_
        refine lv_goto (tgt := 43) hx hb dX10_mostOf_27 (by decide) ?_
        exact rt_i C X rfl (congrArg (fun z => (z, S)) (Option.some.inj h)) dX10_mostOf_43
    · have h := ip h c2
      refine lv_sipush (v := (300 : Int32)) hx hb dX10_mostOf_14 (by decide) ?_
      refine lv_goto (tgt := 43) hx hb dX10_mostOf_17 (by decide) ?_
      exact rt_i C X rfl (congrArg (fun z => (z, S)) (Option.some.inj h)) dX10_mostOf_43
  · have h := ip h c1
    refine lv_bipush (v := (11 : Int32)) hx hb dX10_mostOf_4 (by decide) ?_
    refine lv_goto (tgt := 43) hx hb dX10_mostOf_6 (by decide) ?_
    exact rt_i C X rfl (congrArg (fun z => (z, S)) (Option.some.inj h)) dX10_mostOf_43

def rmX10_set : Room := { frames := 1, cells := 0, slots := 0, locals := 25 }
def b_X10_set_47  (v2 : Int32) (v3 : Int32) (S : ST) : Option (Int32 × ST) :=
  chk (ib v2 5) (nm (S.1 6 v2.toNatClampNeg) fun x8 => chk (ib v2 5) (nm (su S 6 v2.toNatClampNeg v3) fun S10 => some (x8, S10)))
def f_X10_set (a1 : Int32) (a2 : Int32) (S : ST) : Option (Int32 × ST) :=
  bn1 (f_X10_in (a1.toInt64) ((0 : Int64)) ((4 : Int64))) fun r1 => if r1 = 0 then (some ((-1000000002 : Int32), S)) else (bn1 (f_X10_mostOf a1) fun r3 => bn1 (f_X10_in (a2.toInt64) ((0 : Int64)) (r3.toInt64)) fun r4 => if r4 = 0 then (some ((-1000000002 : Int32), S)) else (if a1 = ((1 : Int32)) then (if a2 ≤ ((S.1 1 ((1 : Int32)).toNatClampNeg) - ((50 : Int32))) then (b_X10_set_47 a1 a2 S) else (some ((-1000000002 : Int32), S))) else (b_X10_set_47 a1 a2 S)))
set_option maxHeartbeats 4000000 in
set_option maxRecDepth 100000 in
theorem kb_X10_set_47 {p : Program} {l : Launch} {e : Env} {s : State} {m : MethodId} {args : Array Value} {below : List Frame} {meth : Method} {c : Code} {g : GG} {ad : Nat → Nat} {res : (Int32 × ST)} {S : ST} (C : CX kM g ad p s m args meth c cX10_set (some Jvm.ClassFile.FieldType.int) 4 yX10_set.cls (.code yX10_set cX10_set 4 (some Jvm.ClassFile.FieldType.int)))  {v2 : Int32} {v3 : Int32}  {H : Heap} {locs : List Loc} {ls : Array Slot} (h : b_X10_set_47 v2 v3 S = some res) (X : WX kM g ad s S H locs) (hl : lv_has ls 4 [(0, .ref (ad 0)), (1, .int v2), (2, .int v3)])  : W p l e rmX10_set s m args below meth c H locs 0 0 (MQ below (QI kM g ad res (AA kM ad s.heap.size)) args s 0 0 (AA kM ad s.heap.size)) (F0 m 47 ls []) := by
  have hx := C.1.1
  have hb := C.1.2.1
  have h : (chk (ib v2 5) (nm (S.1 6 v2.toNatClampNeg) fun x8 => chk (ib v2 5) (nm (su S 6 v2.toNatClampNeg v3) fun S10 => some (x8, S10))) : Option (Int32 × ST)) = some res := h
  refine lv_aload_n hx hb dX10_set_47 rfl (lv_at hl 0 rfl) ?_
  refine g_get C X inT10 0 (by decide) (eM_0 g ad S) rfl 6 (by decide) wd_1012 (v := .ref (ad 6)) rfl dX10_set_48 ?_
  refine lv_iload_n hx hb dX10_set_51 rfl (lv_at hl 1 rfl) ?_
  obtain ⟨k7, h⟩ := chk_s h
  refine g_iald C X 6 (by decide) (eM_6 g ad S) k7 dX10_set_52 ?_
  obtain ⟨x8, ex8, h⟩ := nm_s h
  refine tp_i ex8 ?_
  refine lv_istore_n (lv' := [(3, .int x8), (0, .ref (ad 0)), (1, .int v2), (2, .int v3)]) hx hb dX10_set_53 rfl hl (by decide) rfl (fun ls hl => ?_)
  refine lv_aload_n hx hb dX10_set_54 rfl (lv_at hl 1 rfl) ?_
  refine g_get C X inT10 0 (by decide) (eM_0 g ad S) rfl 6 (by decide) wd_1012 (v := .ref (ad 6)) rfl dX10_set_55 ?_
  refine lv_iload_n hx hb dX10_set_58 rfl (lv_at hl 2 rfl) ?_
  refine lv_iload_n hx hb dX10_set_59 rfl (lv_at hl 3 rfl) ?_
  obtain ⟨k9, h⟩ := chk_s h
  obtain ⟨S10, eS10, h⟩ := nm_s h
  refine g_iast (S' := S10) C X 6 (by decide) (eM_6 g ad S) k9 (by subst eS10; rfl) (by subst eS10; exact fun i hi => ent_offu hi) dX10_set_60 (fun H locs X => ?_)
  refine lv_iload_n hx hb dX10_set_61 rfl (lv_at hl 0 rfl) ?_
  exact rt_i C X rfl (Option.some.inj h) dX10_set_62
set_option maxHeartbeats 4000000 in
set_option maxRecDepth 100000 in
theorem c_X10_set (l : Launch) (g : GG) (ad : Nat → Nat) (S : ST) (sz : Nat) (a1 : Int32) (a2 : Int32)  {res : (Int32 × ST)} (h : f_X10_set a1 a2 S = some res) : Met l yX10_set (WS (.code yX10_set cX10_set 4 (some Jvm.ClassFile.FieldType.int))) rmX10_set (va_Pc [.ref (ad 0), .int a1, .int a2] (PW kM g ad S sz)) (QI kM g ad res (AA kM ad sz)) 0 0 (AA kM ad sz) := by
  refine go_m (Qc := fun A => QI kM g ad res A) (by decide) (Nat.le_of_ble_eq_true rfl) (fun p e s m below meth c ls H locs C X hl => ?_)
  have hx := C.1.1
  have hb := C.1.2.1
  have hl : lv_has ls 4 [(0, .ref (ad 0)), (1, .int a1), (2, .int a2)] := hl
  have h : (bn1 (f_X10_in (a1.toInt64) ((0 : Int64)) ((4 : Int64))) fun r1 => if r1 = 0 then (some ((-1000000002 : Int32), S)) else (bn1 (f_X10_mostOf a1) fun r3 => bn1 (f_X10_in (a2.toInt64) ((0 : Int64)) (r3.toInt64)) fun r4 => if r4 = 0 then (some ((-1000000002 : Int32), S)) else (if a1 = ((1 : Int32)) then (if a2 ≤ ((S.1 1 ((1 : Int32)).toNatClampNeg) - ((50 : Int32))) then (b_X10_set_47 a1 a2 S) else (some ((-1000000002 : Int32), S))) else (b_X10_set_47 a1 a2 S))) : Option (Int32 × ST)) = some res := h
  refine lv_iload_n hx hb dX10_set_0 rfl (lv_at hl 1 rfl) ?_
  refine lv_i2l hx hb dX10_set_1 rfl ?_
  refine lv_lconst (v := (0 : Int64)) hx hb dX10_set_2 (by decide) ?_
  refine lv_ldc2 (v := (4 : Int64)) hx hb C.1.2.2.2.2.2.1 (C.1.2.2.2.2.2.2 _ (ws_in wd_1270)) dX10_set_3 ?_
  obtain ⟨r1, qr1, h⟩ := bn1_s h
  refine kc_i X (res := (r1, S)) (rS (As := [.long (a1.toInt64), .long ((0 : Int64)), .long ((4 : Int64))]) (rest := []) (n := 3) C X (c_X10_in l g ad S _ (a1.toInt64) ((0 : Int64)) ((4 : Int64))  qr1) wd_1151 wd_1152 wd_83 wd_1153 rfl rfl (by decide +kernel) ⟨Nat.le_of_ble_eq_true rfl, Nat.le_of_ble_eq_true rfl⟩ rfl hl.1 (lv_room (Nat.le_of_ble_eq_true rfl)) dX10_set_6) (fun H locs X => ?_)
  refine lv_if_eq (tgt := 44) hx hb dX10_set_9 (by decide) (fun c2 => ?_) (fun c2 => ?_)
  · have h := ip h c2
    refine lv_ldc (v := (-1000000002 : Int32)) hx hb C.1.2.2.2.2.2.1 (C.1.2.2.2.2.2.2 _ (ws_in wd_1154)) dX10_set_44 ?_
    exact rt_i C X rfl (Option.some.inj h) dX10_set_46
  · have h := inn h c2
    refine lv_iload_n hx hb dX10_set_12 rfl (lv_at hl 2 rfl) ?_
    refine lv_i2l hx hb dX10_set_13 rfl ?_
    refine lv_lconst (v := (0 : Int64)) hx hb dX10_set_14 (by decide) ?_
    refine lv_iload_n hx hb dX10_set_15 rfl (lv_at hl 1 rfl) ?_
    obtain ⟨r3, qr3, h⟩ := bn1_s h
    refine kc_i X (res := (r3, S)) (rS (As := [.int a1]) (rest := [.long ((0 : Int64)), .long (a2.toInt64)]) (n := 1) C X (c_X10_mostOf l g ad S _ a1  qr3) wd_1275 wd_1276 wd_83 wd_1277 rfl rfl (by decide +kernel) ⟨Nat.le_of_ble_eq_true rfl, Nat.le_of_ble_eq_true rfl⟩ rfl hl.1 (lv_room (Nat.le_of_ble_eq_true rfl)) dX10_set_16) (fun H locs X => ?_)
    refine lv_i2l hx hb dX10_set_19 rfl ?_
    obtain ⟨r4, qr4, h⟩ := bn1_s h
    refine kc_i X (res := (r4, S)) (rS (As := [.long (a2.toInt64), .long ((0 : Int64)), .long (r3.toInt64)]) (rest := []) (n := 3) C X (c_X10_in l g ad S _ (a2.toInt64) ((0 : Int64)) (r3.toInt64)  qr4) wd_1151 wd_1152 wd_83 wd_1153 rfl rfl (by decide +kernel) ⟨Nat.le_of_ble_eq_true rfl, Nat.le_of_ble_eq_true rfl⟩ rfl hl.1 (lv_room (Nat.le_of_ble_eq_true rfl)) dX10_set_20) (fun H locs X => ?_)
    refine lv_if_eq (tgt := 44) hx hb dX10_set_23 (by decide) (fun c5 => ?_) (fun c5 => ?_)
    · have h := ip h c5
      refine lv_ldc (v := (-1000000002 : Int32)) hx hb C.1.2.2.2.2.2.1 (C.1.2.2.2.2.2.2 _ (ws_in wd_1154)) dX10_set_44 ?_
      exact rt_i C X rfl (Option.some.inj h) dX10_set_46
    · have h := inn h c5
      refine lv_iload_n hx hb dX10_set_26 rfl (lv_at hl 1 rfl) ?_
      refine lv_iconst (v := (1 : Int32)) hx hb dX10_set_27 (by decide) ?_
      refine lv_icmp_ne (tgt := 47) hx hb dX10_set_28 (by decide) (fun c6 => ?_) (fun c6 => ?_)
      · have h := inn h c6
        exact kb_X10_set_47 C h X (lv_sub hl [0, 1, 2] rfl) 
      · have h := ip h c6
        refine lv_iload_n hx hb dX10_set_31 rfl (lv_at hl 2 rfl) ?_
        refine lv_aload_n hx hb dX10_set_32 rfl (lv_at hl 0 rfl) ?_
        refine g_get C X inT10 0 (by decide) (eM_0 g ad S) rfl 0 (by decide) wd_1006 (v := .ref (ad 1)) rfl dX10_set_33 ?_
        refine lv_iconst (v := (1 : Int32)) hx hb dX10_set_36 (by decide) ?_
        refine g_iald C X 1 (by decide) (eM_1 g ad S) (by decide) dX10_set_37 ?_
        refine lv_bipush (v := (50 : Int32)) hx hb dX10_set_38 (by decide) ?_
        refine lv_isub hx hb dX10_set_40 ?_
        refine lv_icmp_le (tgt := 47) hx hb dX10_set_41 (by decide) (fun c11 => ?_) (fun c11 => ?_)
        · have h := ip h c11
          exact kb_X10_set_47 C h X (lv_sub hl [0, 1, 2] rfl) 
        · have h := inn h c11
          refine lv_ldc (v := (-1000000002 : Int32)) hx hb C.1.2.2.2.2.2.1 (C.1.2.2.2.2.2.2 _ (ws_in wd_1154)) dX10_set_44 ?_
          exact rt_i C X rfl (Option.some.inj h) dX10_set_46

def rmX10_strengthIn : Room := { frames := 0, cells := 0, slots := 0, locals := 0 }
def b_X10_strengthIn_9 (S : ST) (K9 : Int32 → Int32 → Int32 → Option Int32) (v2 : Int32) (v3 : Int32) (v4 : Int32) : Option Int32 :=
  if v2 ≤ v4 then (some v3) else (nm (v3 - ((v3 * (S.1 1 ((3 : Int32)).toNatClampNeg)) / ((100 : Int32)))) fun x3 => nm (v4 + (1 : Int32)) fun x4 => K9 v2 x3 x4)
def f_X10_strengthIn (a1 : Int32) (S : ST) : Option Int32 :=
  nm (S.1 1 ((2 : Int32)).toNatClampNeg) fun x1 => lp (fun _ _ _ => none) (b_X10_strengthIn_9 S) 1000 a1 x1 ((0 : Int32))
set_option maxHeartbeats 4000000 in
set_option maxRecDepth 100000 in
theorem kb_X10_strengthIn_9 {p : Program} {l : Launch} {e : Env} {s : State} {m : MethodId} {args : Array Value} {below : List Frame} {meth : Method} {c : Code} {g : GG} {ad : Nat → Nat} {res : Int32} {S : ST} (C : CX kM g ad p s m args meth c cX10_strengthIn (some Jvm.ClassFile.FieldType.int) 4 yX10_strengthIn.cls (.code yX10_strengthIn cX10_strengthIn 4 (some Jvm.ClassFile.FieldType.int))) {K9 : Int32 → Int32 → Int32 → Option Int32} (hK9 : ∀ {v2 : Int32} {v3 : Int32} {v4 : Int32} {H : Heap} {locs : List Loc} {ls : Array Slot}, K9 v2 v3 v4 = some res → WX kM g ad s S H locs → lv_has ls 4 [(0, .ref (ad 0)), (1, .int v2), (2, .int v3), (3, .int v4)] → W p l e rmX10_strengthIn s m args below meth c H locs 0 0 (MQ below (QI kM g ad (res, S) (AA kM ad s.heap.size)) args s 0 0 (AA kM ad s.heap.size)) (F0 m 9 ls [])) {v2 : Int32} {v3 : Int32} {v4 : Int32}  {H : Heap} {locs : List Loc} {ls : Array Slot} (h : b_X10_strengthIn_9 S K9 v2 v3 v4 = some res) (X : WX kM g ad s S H locs) (hl : lv_has ls 4 [(0, .ref (ad 0)), (1, .int v2), (2, .int v3), (3, .int v4)])  : W p l e rmX10_strengthIn s m args below meth c H locs 0 0 (MQ below (QI kM g ad (res, S) (AA kM ad s.heap.size)) args s 0 0 (AA kM ad s.heap.size)) (F0 m 9 ls []) := by
  have hx := C.1.1
  have hb := C.1.2.1
  have h : (if v2 ≤ v4 then (some v3) else (nm (v3 - ((v3 * (S.1 1 ((3 : Int32)).toNatClampNeg)) / ((100 : Int32)))) fun x3 => nm (v4 + (1 : Int32)) fun x4 => K9 v2 x3 x4) : Option Int32) = some res := h
  refine lv_iload_n hx hb dX10_strengthIn_9 rfl (lv_at hl 3 rfl) ?_
  refine lv_iload_n hx hb dX10_strengthIn_10 rfl (lv_at hl 1 rfl) ?_
  refine lv_icmp_ge (tgt := 34) hx hb dX10_strengthIn_11 (by decide) (fun c2 => ?_) (fun c2 => ?_)
  · have h := ip h c2
    refine lv_iload_n hx hb dX10_strengthIn_34 rfl (lv_at hl 2 rfl) ?_
    exact rt_i C X rfl (congrArg (fun z => (z, S)) (Option.some.inj h)) dX10_strengthIn_35
  · have h := inn h c2
    refine lv_iload_n hx hb dX10_strengthIn_14 rfl (lv_at hl 2 rfl) ?_
    refine lv_iload_n hx hb dX10_strengthIn_15 rfl (lv_at hl 2 rfl) ?_
    refine lv_aload_n hx hb dX10_strengthIn_16 rfl (lv_at hl 0 rfl) ?_
    refine g_get C X inT10 0 (by decide) (eM_0 g ad S) rfl 0 (by decide) wd_1006 (v := .ref (ad 1)) rfl dX10_strengthIn_17 ?_
    refine lv_iconst (v := (3 : Int32)) hx hb dX10_strengthIn_20 (by decide) ?_
    refine g_iald C X 1 (by decide) (eM_1 g ad S) (by decide) dX10_strengthIn_21 ?_
    refine lv_imul hx hb dX10_strengthIn_22 ?_
    refine lv_bipush (v := (100 : Int32)) hx hb dX10_strengthIn_23 (by decide) ?_
    refine lv_idiv hx hb dX10_strengthIn_25 (by decide) ?_
    refine lv_isub hx hb dX10_strengthIn_26 ?_
    obtain ⟨x3, ex3, h⟩ := nm_s h
    refine tp_i ex3 ?_
    refine lv_istore_n (lv' := [(2, .int x3), (0, .ref (ad 0)), (1, .int v2), (3, .int v4)]) hx hb dX10_strengthIn_27 rfl hl (by decide) rfl (fun ls hl => ?_)
    obtain ⟨x4, ex4, h⟩ := nm_s h
    refine lv_iinc (v := x4) (lv' := [(3, .int x4), (2, .int x3), (0, .ref (ad 0)), (1, .int v2)]) hx hb dX10_strengthIn_28 hl (k := 3) rfl (by rw [ex4]; rfl) (by decide) rfl (fun ls hl => ?_)
    refine lv_goto (tgt := 9) hx hb dX10_strengthIn_31 (by decide) ?_
    exact hK9 h X (lv_sub hl [2, 3, 1, 0] rfl) 
set_option maxHeartbeats 4000000 in
set_option maxRecDepth 100000 in
theorem kl_X10_strengthIn_9 {p : Program} {l : Launch} {e : Env} {s : State} {m : MethodId} {args : Array Value} {below : List Frame} {meth : Method} {c : Code} {g : GG} {ad : Nat → Nat} {res : Int32} {S : ST} (C : CX kM g ad p s m args meth c cX10_strengthIn (some Jvm.ClassFile.FieldType.int) 4 yX10_strengthIn.cls (.code yX10_strengthIn cX10_strengthIn 4 (some Jvm.ClassFile.FieldType.int)))  : ∀ (n : Nat) {v2 : Int32} {v3 : Int32} {v4 : Int32} {H : Heap} {locs : List Loc} {ls : Array Slot}, (lp (fun _ _ _ => none) (b_X10_strengthIn_9 S)) n v2 v3 v4 = some res → WX kM g ad s S H locs → lv_has ls 4 [(0, .ref (ad 0)), (1, .int v2), (2, .int v3), (3, .int v4)] → W p l e rmX10_strengthIn s m args below meth c H locs 0 0 (MQ below (QI kM g ad (res, S) (AA kM ad s.heap.size)) args s 0 0 (AA kM ad s.heap.size)) (F0 m 9 ls []) := by
  intro n
  induction n with
  | zero =>
    intro v2 v3 v4 H locs ls h
    cases (show (none : Option Int32) = some res from h)
  | succ n ih =>
    intro v2 v3 v4 H locs ls h X hl 
    exact kb_X10_strengthIn_9 C ih h X hl 
set_option maxHeartbeats 4000000 in
set_option maxRecDepth 100000 in
theorem c_X10_strengthIn (l : Launch) (g : GG) (ad : Nat → Nat) (S : ST) (sz : Nat) (a1 : Int32)  {res : Int32} (h : f_X10_strengthIn a1 S = some res) : Met l yX10_strengthIn (WS (.code yX10_strengthIn cX10_strengthIn 4 (some Jvm.ClassFile.FieldType.int))) rmX10_strengthIn (va_Pc [.ref (ad 0), .int a1] (PW kM g ad S sz)) (QI kM g ad (res, S) (AA kM ad sz)) 0 0 (AA kM ad sz) := by
  refine go_m (Qc := fun A => QI kM g ad (res, S) A) (by decide) (Nat.le_of_ble_eq_true rfl) (fun p e s m below meth c ls H locs C X hl => ?_)
  have hx := C.1.1
  have hb := C.1.2.1
  have hl : lv_has ls 4 [(0, .ref (ad 0)), (1, .int a1)] := hl
  have h : (nm (S.1 1 ((2 : Int32)).toNatClampNeg) fun x1 => lp (fun _ _ _ => none) (b_X10_strengthIn_9 S) 1000 a1 x1 ((0 : Int32)) : Option Int32) = some res := h
  refine lv_aload_n hx hb dX10_strengthIn_0 rfl (lv_at hl 0 rfl) ?_
  refine g_get C X inT10 0 (by decide) (eM_0 g ad S) rfl 0 (by decide) wd_1006 (v := .ref (ad 1)) rfl dX10_strengthIn_1 ?_
  refine lv_iconst (v := (2 : Int32)) hx hb dX10_strengthIn_4 (by decide) ?_
  refine g_iald C X 1 (by decide) (eM_1 g ad S) (by decide) dX10_strengthIn_5 ?_
  obtain ⟨x1, ex1, h⟩ := nm_s h
  refine tp_i ex1 ?_
  refine lv_istore_n (lv' := [(2, .int x1), (0, .ref (ad 0)), (1, .int a1)]) hx hb dX10_strengthIn_6 rfl hl (by decide) rfl (fun ls hl => ?_)
  refine lv_iconst (v := (0 : Int32)) hx hb dX10_strengthIn_7 (by decide) ?_
  refine lv_istore_n (lv' := [(3, .int ((0 : Int32))), (2, .int x1), (0, .ref (ad 0)), (1, .int a1)]) hx hb dX10_strengthIn_8 rfl hl (by decide) rfl (fun ls hl => ?_)
  exact kl_X10_strengthIn_9 C _ h X (lv_sub hl [2, 3, 1, 0] rfl) 

def rmX10_now : Room := { frames := 1, cells := 0, slots := 0, locals := 25 }
def f_X10_now (a1 : Int32) (S : ST) : Option Int32 :=
  bn1 (f_X10_in (a1.toInt64) ((0 : Int64)) ((4 : Int64))) fun r1 => if r1 = 0 then (if a1 = ((5 : Int32)) then (some ((S.1 1 ((1 : Int32)).toNatClampNeg) - (S.1 6 ((1 : Int32)).toNatClampNeg))) else (if a1 = ((6 : Int32)) then (bn1 (f_X10_strengthIn (S.1 6 ((2 : Int32)).toNatClampNeg) S) fun r7 => some r7) else (if a1 = ((7 : Int32)) then (bn1 (f_X10_lower S) fun r6 => some r6) else (some ((-1000000002 : Int32)))))) else (chk (ib a1 5) (some (S.1 6 a1.toNatClampNeg)))
set_option maxHeartbeats 4000000 in
set_option maxRecDepth 100000 in
theorem c_X10_now (l : Launch) (g : GG) (ad : Nat → Nat) (S : ST) (sz : Nat) (a1 : Int32)  {res : Int32} (h : f_X10_now a1 S = some res) : Met l yX10_now (WS (.code yX10_now cX10_now 2 (some Jvm.ClassFile.FieldType.int))) rmX10_now (va_Pc [.ref (ad 0), .int a1] (PW kM g ad S sz)) (QI kM g ad (res, S) (AA kM ad sz)) 0 0 (AA kM ad sz) := by
  refine go_m (Qc := fun A => QI kM g ad (res, S) A) (by decide) (Nat.le_of_ble_eq_true rfl) (fun p e s m below meth c ls H locs C X hl => ?_)
  have hx := C.1.1
  have hb := C.1.2.1
  have hl : lv_has ls 2 [(0, .ref (ad 0)), (1, .int a1)] := hl
  have h : (bn1 (f_X10_in (a1.toInt64) ((0 : Int64)) ((4 : Int64))) fun r1 => if r1 = 0 then (if a1 = ((5 : Int32)) then (some ((S.1 1 ((1 : Int32)).toNatClampNeg) - (S.1 6 ((1 : Int32)).toNatClampNeg))) else (if a1 = ((6 : Int32)) then (bn1 (f_X10_strengthIn (S.1 6 ((2 : Int32)).toNatClampNeg) S) fun r7 => some r7) else (if a1 = ((7 : Int32)) then (bn1 (f_X10_lower S) fun r6 => some r6) else (some ((-1000000002 : Int32)))))) else (chk (ib a1 5) (some (S.1 6 a1.toNatClampNeg))) : Option Int32) = some res := h
  refine lv_iload_n hx hb dX10_now_0 rfl (lv_at hl 1 rfl) ?_
  refine lv_i2l hx hb dX10_now_1 rfl ?_
  refine lv_lconst (v := (0 : Int64)) hx hb dX10_now_2 (by decide) ?_
  refine lv_ldc2 (v := (4 : Int64)) hx hb C.1.2.2.2.2.2.1 (C.1.2.2.2.2.2.2 _ (ws_in wd_1270)) dX10_now_3 ?_
  obtain ⟨r1, qr1, h⟩ := bn1_s h
  refine kc_i X (res := (r1, S)) (rS (As := [.long (a1.toInt64), .long ((0 : Int64)), .long ((4 : Int64))]) (rest := []) (n := 3) C X (c_X10_in l g ad S _ (a1.toInt64) ((0 : Int64)) ((4 : Int64))  qr1) wd_1151 wd_1152 wd_83 wd_1153 rfl rfl (by decide +kernel) ⟨Nat.le_of_ble_eq_true rfl, Nat.le_of_ble_eq_true rfl⟩ rfl hl.1 (lv_room (Nat.le_of_ble_eq_true rfl)) dX10_now_6) (fun H locs X => ?_)
  refine lv_if_eq (tgt := 19) hx hb dX10_now_9 (by decide) (fun c2 => ?_) (fun c2 => ?_)
  · have h := ip h c2
    refine lv_iload_n hx hb dX10_now_19 rfl (lv_at hl 1 rfl) ?_
    refine lv_iconst (v := (5 : Int32)) hx hb dX10_now_20 (by decide) ?_
    refine lv_icmp_ne (tgt := 40) hx hb dX10_now_21 (by decide) (fun c3 => ?_) (fun c3 => ?_)
    · have h := inn h c3
      refine lv_iload_n hx hb dX10_now_40 rfl (lv_at hl 1 rfl) ?_
      refine lv_bipush (v := (6 : Int32)) hx hb dX10_now_41 (by decide) ?_
      refine lv_icmp_ne (tgt := 59) hx hb dX10_now_43 (by decide) (fun c4 => ?_) (fun c4 => ?_)
      · have h := inn h c4
        refine lv_iload_n hx hb dX10_now_59 rfl (lv_at hl 1 rfl) ?_
        refine lv_bipush (v := (7 : Int32)) hx hb dX10_now_60 (by decide) ?_
        refine lv_icmp_ne (tgt := 72) hx hb dX10_now_62 (by decide) (fun c5 => ?_) (fun c5 => ?_)
        · have h := inn h c5
          refine lv_ldc (v := (-1000000002 : Int32)) hx hb C.1.2.2.2.2.2.1 (C.1.2.2.2.2.2.2 _ (ws_in wd_1154)) dX10_now_72 ?_
          exact rt_i C X rfl (congrArg (fun z => (z, S)) (Option.some.inj h)) dX10_now_74
        · have h := ip h c5
          refine lv_aload_n hx hb dX10_now_65 rfl (lv_at hl 0 rfl) ?_
          obtain ⟨r6, qr6, h⟩ := bn1_s h
          refine kc_i X (res := (r6, S)) (rV (As := []) (rest := []) (n := 0) (k := 0) C X (c_X10_lower l g ad S _   qr6) wd_1254 wd_1256 wd_45 wd_83 wd_1257 (by decide) (eM_0 g ad S) rfl rfl rfl (by decide +kernel) ⟨Nat.le_of_ble_eq_true rfl, Nat.le_of_ble_eq_true rfl⟩ rfl hl.1 (lv_room (Nat.le_of_ble_eq_true rfl)) dX10_now_66) (fun H locs X => ?_)
          refine lv_goto (tgt := 74) hx hb dX10_now_69 (by decide) ?_
          exact rt_i C X rfl (congrArg (fun z => (z, S)) (Option.some.inj h)) dX10_now_74
      · have h := ip h c4
        refine lv_aload_n hx hb dX10_now_46 rfl (lv_at hl 0 rfl) ?_
        refine lv_aload_n hx hb dX10_now_47 rfl (lv_at hl 0 rfl) ?_
        refine g_get C X inT10 0 (by decide) (eM_0 g ad S) rfl 6 (by decide) wd_1012 (v := .ref (ad 6)) rfl dX10_now_48 ?_
        refine lv_iconst (v := (2 : Int32)) hx hb dX10_now_51 (by decide) ?_
        refine g_iald C X 6 (by decide) (eM_6 g ad S) (by decide) dX10_now_52 ?_
        obtain ⟨r7, qr7, h⟩ := bn1_s h
        refine kc_i X (res := (r7, S)) (rV (As := [.int (S.1 6 ((2 : Int32)).toNatClampNeg)]) (rest := []) (n := 1) (k := 0) C X (c_X10_strengthIn l g ad S _ (S.1 6 ((2 : Int32)).toNatClampNeg)  qr7) wd_1282 wd_1284 wd_48 wd_83 wd_1285 (by decide) (eM_0 g ad S) rfl rfl rfl (by decide +kernel) ⟨Nat.le_of_ble_eq_true rfl, Nat.le_of_ble_eq_true rfl⟩ rfl hl.1 (lv_room (Nat.le_of_ble_eq_true rfl)) dX10_now_53) (fun H locs X => ?_)
        refine lv_goto (tgt := 74) hx hb dX10_now_56 (by decide) ?_
        exact rt_i C X rfl (congrArg (fun z => (z, S)) (Option.some.inj h)) dX10_now_74
    · have h := ip h c3
      refine lv_aload_n hx hb dX10_now_24 rfl (lv_at hl 0 rfl) ?_
      refine g_get C X inT10 0 (by decide) (eM_0 g ad S) rfl 0 (by decide) wd_1006 (v := .ref (ad 1)) rfl dX10_now_25 ?_
      refine lv_iconst (v := (1 : Int32)) hx hb dX10_now_28 (by decide) ?_
      refine g_iald C X 1 (by decide) (eM_1 g ad S) (by decide) dX10_now_29 ?_
      refine lv_aload_n hx hb dX10_now_30 rfl (lv_at hl 0 rfl) ?_
      refine g_get C X inT10 0 (by decide) (eM_0 g ad S) rfl 6 (by decide) wd_1012 (v := .ref (ad 6)) rfl dX10_now_31 ?_
      refine lv_iconst (v := (1 : Int32)) hx hb dX10_now_34 (by decide) ?_
      refine g_iald C X 6 (by decide) (eM_6 g ad S) (by decide) dX10_now_35 ?_
      refine lv_isub hx hb dX10_now_36 ?_
      refine lv_goto (tgt := 74) hx hb dX10_now_37 (by decide) ?_
      exact rt_i C X rfl (congrArg (fun z => (z, S)) (Option.some.inj h)) dX10_now_74
  · have h := inn h c2
    refine lv_aload_n hx hb dX10_now_12 rfl (lv_at hl 0 rfl) ?_
    refine g_get C X inT10 0 (by decide) (eM_0 g ad S) rfl 6 (by decide) wd_1012 (v := .ref (ad 6)) rfl dX10_now_13 ?_
    refine lv_iload_n hx hb dX10_now_16 rfl (lv_at hl 1 rfl) ?_
    obtain ⟨k8, h⟩ := chk_s h
    refine g_iald C X 6 (by decide) (eM_6 g ad S) k8 dX10_now_17 ?_
    exact rt_i C X rfl (congrArg (fun z => (z, S)) (Option.some.inj h)) dX10_now_18

def rmX10_size : Room := { frames := 0, cells := 0, slots := 0, locals := 0 }
def f_X10_size (a1 : Int32) : Option Int32 :=
  if 0 ≤ a1 then (some a1) else (some (-a1))
set_option maxHeartbeats 4000000 in
set_option maxRecDepth 100000 in
theorem c_X10_size (l : Launch) (g : GG) (ad : Nat → Nat) (S : ST) (sz : Nat) (a1 : Int32)  {res : Int32} (h : f_X10_size a1 = some res) : Met l yX10_size (WS (.code yX10_size cX10_size 1 (some Jvm.ClassFile.FieldType.int))) rmX10_size (va_Pc [.int a1] (PW kM g ad S sz)) (QI kM g ad (res, S) (AA kM ad sz)) 0 0 (AA kM ad sz) := by
  refine go_m (Qc := fun A => QI kM g ad (res, S) A) (by decide) (Nat.le_of_ble_eq_true rfl) (fun p e s m below meth c ls H locs C X hl => ?_)
  have hx := C.1.1
  have hb := C.1.2.1
  have hl : lv_has ls 1 [(0, .int a1)] := hl
  have h : (if 0 ≤ a1 then (some a1) else (some (-a1)) : Option Int32) = some res := h
  refine lv_iload_n hx hb dX10_size_0 rfl (lv_at hl 0 rfl) ?_
  refine lv_if_ge (tgt := 9) hx hb dX10_size_1 (by decide) (fun c1 => ?_) (fun c1 => ?_)
  · have h := ip h c1
    refine lv_iload_n hx hb dX10_size_9 rfl (lv_at hl 0 rfl) ?_
    exact rt_i C X rfl (congrArg (fun z => (z, S)) (Option.some.inj h)) dX10_size_10
  · have h := inn h c1
    refine lv_iload_n hx hb dX10_size_4 rfl (lv_at hl 0 rfl) ?_
    refine lv_ineg hx hb dX10_size_5 ?_
    refine lv_goto (tgt := 10) hx hb dX10_size_6 (by decide) ?_
    exact rt_i C X rfl (congrArg (fun z => (z, S)) (Option.some.inj h)) dX10_size_10

def rmX10_sineOf : Room := { frames := 1, cells := 0, slots := 0, locals := 20 }
def b_X10_sineOf_20  (v1 : Int32) (v2 : Int32) : Option Int32 :=
  nm ((v2.toInt64) * ((((1800 : Int32)) - v2).toInt64)) fun x4 => chk (nzl (((4050000 : Int64)) - x4)) (nm (((((4000 : Int64)) * x4) / (((4050000 : Int64)) - x4)).toInt32) fun x6 => if 0 ≤ v1 then (some x6) else (some (-x6)))
def f_X10_sineOf (a1 : Int32) : Option Int32 :=
  bn1 (f_X10_size a1) fun r1 => if r1 ≤ ((1800 : Int32)) then (bn1 (f_X10_size a1) fun r3 => b_X10_sineOf_20 a1 r3) else (b_X10_sineOf_20 a1 ((1800 : Int32)))
set_option maxHeartbeats 4000000 in
set_option maxRecDepth 100000 in
theorem kb_X10_sineOf_20 {p : Program} {l : Launch} {e : Env} {s : State} {m : MethodId} {args : Array Value} {below : List Frame} {meth : Method} {c : Code} {g : GG} {ad : Nat → Nat} {res : Int32} {S : ST} (C : CX kM g ad p s m args meth c cX10_sineOf (some Jvm.ClassFile.FieldType.int) 5 yX10_sineOf.cls (.code yX10_sineOf cX10_sineOf 5 (some Jvm.ClassFile.FieldType.int)))  {v1 : Int32} {v2 : Int32}  {H : Heap} {locs : List Loc} {ls : Array Slot} (h : b_X10_sineOf_20 v1 v2 = some res) (X : WX kM g ad s S H locs) (hl : lv_has ls 5 [(0, .int v1)])  : W p l e rmX10_sineOf s m args below meth c H locs 0 0 (MQ below (QI kM g ad (res, S) (AA kM ad s.heap.size)) args s 0 0 (AA kM ad s.heap.size)) (F0 m 20 ls [.int v2]) := by
  have hx := C.1.1
  have hb := C.1.2.1
  have h : (nm ((v2.toInt64) * ((((1800 : Int32)) - v2).toInt64)) fun x4 => chk (nzl (((4050000 : Int64)) - x4)) (nm (((((4000 : Int64)) * x4) / (((4050000 : Int64)) - x4)).toInt32) fun x6 => if 0 ≤ v1 then (some x6) else (some (-x6))) : Option Int32) = some res := h
  refine lv_istore_n (lv' := [(1, .int v2), (0, .int v1)]) hx hb dX10_sineOf_20 rfl hl (by decide) rfl (fun ls hl => ?_)
  refine lv_iload_n hx hb dX10_sineOf_21 rfl (lv_at hl 0 rfl) ?_
  refine lv_i2l hx hb dX10_sineOf_22 rfl ?_
  refine lv_sipush (v := (1800 : Int32)) hx hb dX10_sineOf_23 (by decide) ?_
  refine lv_iload_n hx hb dX10_sineOf_26 rfl (lv_at hl 0 rfl) ?_
  refine lv_isub hx hb dX10_sineOf_27 ?_
  refine lv_i2l hx hb dX10_sineOf_28 rfl ?_
  refine lv_lmul hx hb dX10_sineOf_29 ?_
  obtain ⟨x4, ex4, h⟩ := nm_s h
  refine tp_l ex4 ?_
  refine lv_lstore_n (lv' := [(2, .long x4), (1, .int v2), (0, .int v1)]) hx hb dX10_sineOf_30 rfl hl (by decide) rfl (fun ls hl => ?_)
  refine lv_ldc2 (v := (4000 : Int64)) hx hb C.1.2.2.2.2.2.1 (C.1.2.2.2.2.2.2 _ (ws_in wd_1298)) dX10_sineOf_31 ?_
  refine lv_lload_n hx hb dX10_sineOf_34 rfl (lv_at hl 0 rfl) ?_
  refine lv_lmul hx hb dX10_sineOf_35 ?_
  refine lv_ldc2 (v := (4050000 : Int64)) hx hb C.1.2.2.2.2.2.1 (C.1.2.2.2.2.2.2 _ (ws_in wd_1299)) dX10_sineOf_36 ?_
  refine lv_lload_n hx hb dX10_sineOf_39 rfl (lv_at hl 0 rfl) ?_
  refine lv_lsub hx hb dX10_sineOf_40 ?_
  obtain ⟨k5, h⟩ := chk_s h
  refine lv_ldiv hx hb dX10_sineOf_41 (nzl_ne k5) ?_
  refine lv_l2i hx hb dX10_sineOf_42 rfl ?_
  obtain ⟨x6, ex6, h⟩ := nm_s h
  refine tp_i ex6 ?_
  refine lv_istore (lv' := [(4, .int x6), (2, .long x4), (1, .int v2), (0, .int v1)]) hx hb dX10_sineOf_43 hl (by decide) rfl (fun ls hl => ?_)
  refine lv_iload_n hx hb dX10_sineOf_45 rfl (lv_at hl 3 rfl) ?_
  refine lv_if_ge (tgt := 55) hx hb dX10_sineOf_46 (by decide) (fun c7 => ?_) (fun c7 => ?_)
  · have h := ip h c7
    refine lv_iload hx hb dX10_sineOf_55 (lv_at hl 0 rfl) ?_
    exact rt_i C X rfl (congrArg (fun z => (z, S)) (Option.some.inj h)) dX10_sineOf_57
  · have h := inn h c7
    refine lv_iload hx hb dX10_sineOf_49 (lv_at hl 0 rfl) ?_
    refine lv_ineg hx hb dX10_sineOf_51 ?_
    refine lv_goto (tgt := 57) hx hb dX10_sineOf_52 (by decide) ?_
    exact rt_i C X rfl (congrArg (fun z => (z, S)) (Option.some.inj h)) dX10_sineOf_57
set_option maxHeartbeats 4000000 in
set_option maxRecDepth 100000 in
theorem c_X10_sineOf (l : Launch) (g : GG) (ad : Nat → Nat) (S : ST) (sz : Nat) (a1 : Int32)  {res : Int32} (h : f_X10_sineOf a1 = some res) : Met l yX10_sineOf (WS (.code yX10_sineOf cX10_sineOf 5 (some Jvm.ClassFile.FieldType.int))) rmX10_sineOf (va_Pc [.int a1] (PW kM g ad S sz)) (QI kM g ad (res, S) (AA kM ad sz)) 0 0 (AA kM ad sz) := by
  refine go_m (Qc := fun A => QI kM g ad (res, S) A) (by decide) (Nat.le_of_ble_eq_true rfl) (fun p e s m below meth c ls H locs C X hl => ?_)
  have hx := C.1.1
  have hb := C.1.2.1
  have hl : lv_has ls 5 [(0, .int a1)] := hl
  have h : (bn1 (f_X10_size a1) fun r1 => if r1 ≤ ((1800 : Int32)) then (bn1 (f_X10_size a1) fun r3 => b_X10_sineOf_20 a1 r3) else (b_X10_sineOf_20 a1 ((1800 : Int32))) : Option Int32) = some res := h
  refine lv_iload_n hx hb dX10_sineOf_0 rfl (lv_at hl 0 rfl) ?_
  obtain ⟨r1, qr1, h⟩ := bn1_s h
  refine kc_i X (res := (r1, S)) (rS (As := [.int a1]) (rest := []) (n := 1) C X (c_X10_size l g ad S _ a1  qr1) wd_1295 wd_1296 wd_83 wd_1297 rfl rfl (by decide +kernel) ⟨Nat.le_of_ble_eq_true rfl, Nat.le_of_ble_eq_true rfl⟩ rfl hl.1 (lv_room (Nat.le_of_ble_eq_true rfl)) dX10_sineOf_1) (fun H locs X => ?_)
  refine lv_sipush (v := (1800 : Int32)) hx hb dX10_sineOf_4 (by decide) ?_
  refine lv_icmp_le (tgt := 16) hx hb dX10_sineOf_7 (by decide) (fun c2 => ?_) (fun c2 => ?_)
  · have h := ip h c2
    refine lv_iload_n hx hb dX10_sineOf_16 rfl (lv_at hl 0 rfl) ?_
    obtain ⟨r3, qr3, h⟩ := bn1_s h
    refine kc_i X (res := (r3, S)) (rS (As := [.int a1]) (rest := []) (n := 1) C X (c_X10_size l g ad S _ a1  qr3) wd_1295 wd_1296 wd_83 wd_1297 rfl rfl (by decide +kernel) ⟨Nat.le_of_ble_eq_true rfl, Nat.le_of_ble_eq_true rfl⟩ rfl hl.1 (lv_room (Nat.le_of_ble_eq_true rfl)) dX10_sineOf_17) (fun H locs X => ?_)
    exact kb_X10_sineOf_20 C h X (lv_sub hl [0] rfl) 
  · have h := inn h c2
    refine lv_sipush (v := (1800 : Int32)) hx hb dX10_sineOf_10 (by decide) ?_
    refine lv_goto (tgt := 20) hx hb dX10_sineOf_13 (by decide) ?_
    exact kb_X10_sineOf_20 C h X (lv_sub hl [0] rfl) 

def rmX10_cosineOf : Room := { frames := 2, cells := 0, slots := 0, locals := 44 }
def b_X10_cosineOf_23  (v1 : Int32) (v2 : Int32) : Option Int32 :=
  bn1 (f_X10_sineOf (v2 - v1)) fun r4 => some r4
def f_X10_cosineOf (a1 : Int32) : Option Int32 :=
  bn1 (f_X10_size a1) fun r1 => if r1 ≤ ((1800 : Int32)) then (bn1 (f_X10_size a1) fun r3 => b_X10_cosineOf_23 r3 ((900 : Int32))) else (b_X10_cosineOf_23 ((1800 : Int32)) ((900 : Int32)))
set_option maxHeartbeats 4000000 in
set_option maxRecDepth 100000 in
theorem kb_X10_cosineOf_23 {p : Program} {l : Launch} {e : Env} {s : State} {m : MethodId} {args : Array Value} {below : List Frame} {meth : Method} {c : Code} {g : GG} {ad : Nat → Nat} {res : Int32} {S : ST} (C : CX kM g ad p s m args meth c cX10_cosineOf (some Jvm.ClassFile.FieldType.int) 1 yX10_cosineOf.cls (.code yX10_cosineOf cX10_cosineOf 1 (some Jvm.ClassFile.FieldType.int)))  {v1 : Int32} {v2 : Int32}  {H : Heap} {locs : List Loc} {ls : Array Slot} (h : b_X10_cosineOf_23 v1 v2 = some res) (X : WX kM g ad s S H locs) (hl : lv_has ls 1 [])  : W p l e rmX10_cosineOf s m args below meth c H locs 0 0 (MQ below (QI kM g ad (res, S) (AA kM ad s.heap.size)) args s 0 0 (AA kM ad s.heap.size)) (F0 m 23 ls [.int v1, .int v2]) := by
  have hx := C.1.1
  have hb := C.1.2.1
  have h : (bn1 (f_X10_sineOf (v2 - v1)) fun r4 => some r4 : Option Int32) = some res := h
  refine lv_isub hx hb dX10_cosineOf_23 ?_
  obtain ⟨r4, qr4, h⟩ := bn1_s h
  refine kc_i X (res := (r4, S)) (rS (As := [.int (v2 - v1)]) (rest := []) (n := 1) C X (c_X10_sineOf l g ad S _ (v2 - v1)  qr4) wd_1292 wd_1293 wd_83 wd_1294 rfl rfl (by decide +kernel) ⟨Nat.le_of_ble_eq_true rfl, Nat.le_of_ble_eq_true rfl⟩ rfl hl.1 (lv_room (Nat.le_of_ble_eq_true rfl)) dX10_cosineOf_24) (fun H locs X => ?_)
  exact rt_i C X rfl (congrArg (fun z => (z, S)) (Option.some.inj h)) dX10_cosineOf_27
set_option maxHeartbeats 4000000 in
set_option maxRecDepth 100000 in
theorem c_X10_cosineOf (l : Launch) (g : GG) (ad : Nat → Nat) (S : ST) (sz : Nat) (a1 : Int32)  {res : Int32} (h : f_X10_cosineOf a1 = some res) : Met l yX10_cosineOf (WS (.code yX10_cosineOf cX10_cosineOf 1 (some Jvm.ClassFile.FieldType.int))) rmX10_cosineOf (va_Pc [.int a1] (PW kM g ad S sz)) (QI kM g ad (res, S) (AA kM ad sz)) 0 0 (AA kM ad sz) := by
  refine go_m (Qc := fun A => QI kM g ad (res, S) A) (by decide) (Nat.le_of_ble_eq_true rfl) (fun p e s m below meth c ls H locs C X hl => ?_)
  have hx := C.1.1
  have hb := C.1.2.1
  have hl : lv_has ls 1 [(0, .int a1)] := hl
  have h : (bn1 (f_X10_size a1) fun r1 => if r1 ≤ ((1800 : Int32)) then (bn1 (f_X10_size a1) fun r3 => b_X10_cosineOf_23 r3 ((900 : Int32))) else (b_X10_cosineOf_23 ((1800 : Int32)) ((900 : Int32))) : Option Int32) = some res := h
  refine lv_sipush (v := (900 : Int32)) hx hb dX10_cosineOf_0 (by decide) ?_
  refine lv_iload_n hx hb dX10_cosineOf_3 rfl (lv_at hl 0 rfl) ?_
  obtain ⟨r1, qr1, h⟩ := bn1_s h
  refine kc_i X (res := (r1, S)) (rS (As := [.int a1]) (rest := [.int ((900 : Int32))]) (n := 1) C X (c_X10_size l g ad S _ a1  qr1) wd_1295 wd_1296 wd_83 wd_1297 rfl rfl (by decide +kernel) ⟨Nat.le_of_ble_eq_true rfl, Nat.le_of_ble_eq_true rfl⟩ rfl hl.1 (lv_room (Nat.le_of_ble_eq_true rfl)) dX10_cosineOf_4) (fun H locs X => ?_)
  refine lv_sipush (v := (1800 : Int32)) hx hb dX10_cosineOf_7 (by decide) ?_
  refine lv_icmp_le (tgt := 19) hx hb dX10_cosineOf_10 (by decide) (fun c2 => ?_) (fun c2 => ?_)
  · have h := ip h c2
    refine lv_iload_n hx hb dX10_cosineOf_19 rfl (lv_at hl 0 rfl) ?_
    obtain ⟨r3, qr3, h⟩ := bn1_s h
    refine kc_i X (res := (r3, S)) (rS (As := [.int a1]) (rest := [.int ((900 : Int32))]) (n := 1) C X (c_X10_size l g ad S _ a1  qr3) wd_1295 wd_1296 wd_83 wd_1297 rfl rfl (by decide +kernel) ⟨Nat.le_of_ble_eq_true rfl, Nat.le_of_ble_eq_true rfl⟩ rfl hl.1 (lv_room (Nat.le_of_ble_eq_true rfl)) dX10_cosineOf_20) (fun H locs X => ?_)
    exact kb_X10_cosineOf_23 C h X (lv_sub hl [] rfl) 
  · have h := inn h c2
    refine lv_sipush (v := (1800 : Int32)) hx hb dX10_cosineOf_13 (by decide) ?_
    refine lv_goto (tgt := 23) hx hb dX10_cosineOf_16 (by decide) ?_
    exact kb_X10_cosineOf_23 C h X (lv_sub hl [] rfl) 

def rmX10_sine : Room := { frames := 2, cells := 0, slots := 0, locals := 44 }
def f_X10_sine (a1 : Int32) : Option Int32 :=
  bn1 (f_X10_in (a1.toInt64) ((-1800 : Int64)) ((1800 : Int64))) fun r1 => if r1 = 0 then (some ((-1000000002 : Int32))) else (bn1 (f_X10_sineOf a1) fun r3 => some r3)
set_option maxHeartbeats 4000000 in
set_option maxRecDepth 100000 in
theorem c_X10_sine (l : Launch) (g : GG) (ad : Nat → Nat) (S : ST) (sz : Nat) (a1 : Int32)  {res : Int32} (h : f_X10_sine a1 = some res) : Met l yX10_sine (WS (.code yX10_sine cX10_sine 2 (some Jvm.ClassFile.FieldType.int))) rmX10_sine (va_Pc [.ref (ad 0), .int a1] (PW kM g ad S sz)) (QI kM g ad (res, S) (AA kM ad sz)) 0 0 (AA kM ad sz) := by
  refine go_m (Qc := fun A => QI kM g ad (res, S) A) (by decide) (Nat.le_of_ble_eq_true rfl) (fun p e s m below meth c ls H locs C X hl => ?_)
  have hx := C.1.1
  have hb := C.1.2.1
  have hl : lv_has ls 2 [(0, .ref (ad 0)), (1, .int a1)] := hl
  have h : (bn1 (f_X10_in (a1.toInt64) ((-1800 : Int64)) ((1800 : Int64))) fun r1 => if r1 = 0 then (some ((-1000000002 : Int32))) else (bn1 (f_X10_sineOf a1) fun r3 => some r3) : Option Int32) = some res := h
  refine lv_iload_n hx hb dX10_sine_0 rfl (lv_at hl 1 rfl) ?_
  refine lv_i2l hx hb dX10_sine_1 rfl ?_
  refine lv_ldc2 (v := (-1800 : Int64)) hx hb C.1.2.2.2.2.2.1 (C.1.2.2.2.2.2.2 _ (ws_in wd_1290)) dX10_sine_2 ?_
  refine lv_ldc2 (v := (1800 : Int64)) hx hb C.1.2.2.2.2.2.1 (C.1.2.2.2.2.2.2 _ (ws_in wd_1291)) dX10_sine_5 ?_
  obtain ⟨r1, qr1, h⟩ := bn1_s h
  refine kc_i X (res := (r1, S)) (rS (As := [.long (a1.toInt64), .long ((-1800 : Int64)), .long ((1800 : Int64))]) (rest := []) (n := 3) C X (c_X10_in l g ad S _ (a1.toInt64) ((-1800 : Int64)) ((1800 : Int64))  qr1) wd_1151 wd_1152 wd_83 wd_1153 rfl rfl (by decide +kernel) ⟨Nat.le_of_ble_eq_true rfl, Nat.le_of_ble_eq_true rfl⟩ rfl hl.1 (lv_room (Nat.le_of_ble_eq_true rfl)) dX10_sine_8) (fun H locs X => ?_)
  refine lv_if_eq (tgt := 21) hx hb dX10_sine_11 (by decide) (fun c2 => ?_) (fun c2 => ?_)
  · have h := ip h c2
    refine lv_ldc (v := (-1000000002 : Int32)) hx hb C.1.2.2.2.2.2.1 (C.1.2.2.2.2.2.2 _ (ws_in wd_1154)) dX10_sine_21 ?_
    exact rt_i C X rfl (congrArg (fun z => (z, S)) (Option.some.inj h)) dX10_sine_23
  · have h := inn h c2
    refine lv_iload_n hx hb dX10_sine_14 rfl (lv_at hl 1 rfl) ?_
    obtain ⟨r3, qr3, h⟩ := bn1_s h
    refine kc_i X (res := (r3, S)) (rS (As := [.int a1]) (rest := []) (n := 1) C X (c_X10_sineOf l g ad S _ a1  qr3) wd_1292 wd_1293 wd_83 wd_1294 rfl rfl (by decide +kernel) ⟨Nat.le_of_ble_eq_true rfl, Nat.le_of_ble_eq_true rfl⟩ rfl hl.1 (lv_room (Nat.le_of_ble_eq_true rfl)) dX10_sine_15) (fun H locs X => ?_)
    refine lv_goto (tgt := 23) hx hb dX10_sine_18 (by decide) ?_
    exact rt_i C X rfl (congrArg (fun z => (z, S)) (Option.some.inj h)) dX10_sine_23

def rmX10_useHand : Room := { frames := 1, cells := 0, slots := 0, locals := 23 }
def f_X10_useHand  (S : ST) : Option ST :=
  nm (su S 0 21 ((S.1 1 ((1 : Int32)).toNatClampNeg) - (S.1 6 ((1 : Int32)).toNatClampNeg))) fun S1 => nm (su S1 0 22 (S1.1 6 ((4 : Int32)).toNatClampNeg)) fun S2 => bn1 (f_X10_strengthIn (S2.1 6 ((2 : Int32)).toNatClampNeg) S2) fun r3 => nm (su S2 0 23 r3) fun S4 => some S4
set_option maxHeartbeats 4000000 in
set_option maxRecDepth 100000 in
theorem c_X10_useHand (l : Launch) (g : GG) (ad : Nat → Nat) (S : ST) (sz : Nat)   {res : ST} (h : f_X10_useHand S = some res) : Met l yX10_useHand (WS (.code yX10_useHand cX10_useHand 1 none)) rmX10_useHand (va_Pc [.ref (ad 0)] (PW kM g ad S sz)) (QV kM g ad res (AA kM ad sz)) 0 0 (AA kM ad sz) := by
  refine go_m (Qc := fun A => QV kM g ad res A) (by decide) (Nat.le_of_ble_eq_true rfl) (fun p e s m below meth c ls H locs C X hl => ?_)
  have hx := C.1.1
  have hb := C.1.2.1
  have hl : lv_has ls 1 [(0, .ref (ad 0))] := hl
  have h : (nm (su S 0 21 ((S.1 1 ((1 : Int32)).toNatClampNeg) - (S.1 6 ((1 : Int32)).toNatClampNeg))) fun S1 => nm (su S1 0 22 (S1.1 6 ((4 : Int32)).toNatClampNeg)) fun S2 => bn1 (f_X10_strengthIn (S2.1 6 ((2 : Int32)).toNatClampNeg) S2) fun r3 => nm (su S2 0 23 r3) fun S4 => some S4 : Option ST) = some res := h
  refine lv_aload_n hx hb dX10_useHand_0 rfl (lv_at hl 0 rfl) ?_
  refine lv_aload_n hx hb dX10_useHand_1 rfl (lv_at hl 0 rfl) ?_
  refine g_get C X inT10 0 (by decide) (eM_0 g ad S) rfl 0 (by decide) wd_1006 (v := .ref (ad 1)) rfl dX10_useHand_2 ?_
  refine lv_iconst (v := (1 : Int32)) hx hb dX10_useHand_5 (by decide) ?_
  refine g_iald C X 1 (by decide) (eM_1 g ad S) (by decide) dX10_useHand_6 ?_
  refine lv_aload_n hx hb dX10_useHand_7 rfl (lv_at hl 0 rfl) ?_
  refine g_get C X inT10 0 (by decide) (eM_0 g ad S) rfl 6 (by decide) wd_1012 (v := .ref (ad 6)) rfl dX10_useHand_8 ?_
  refine lv_iconst (v := (1 : Int32)) hx hb dX10_useHand_11 (by decide) ?_
  refine g_iald C X 6 (by decide) (eM_6 g ad S) (by decide) dX10_useHand_12 ?_
  refine lv_isub hx hb dX10_useHand_13 ?_
  obtain ⟨S1, eS1, h⟩ := nm_s h
  refine g_put (S' := S1) C X inT10 tyX10 tyX10_ok nmX10 0 (by decide) (eM_0 g ad S) rfl 21 (by decide) wd_1027 rfl (by rfl) rfl (Nat.le_of_ble_eq_true rfl) (by subst eS1; rfl) (by subst eS1; exact fun i hi => ent_offu hi) dX10_useHand_14 (fun H locs X => ?_)
  refine lv_aload_n hx hb dX10_useHand_17 rfl (lv_at hl 0 rfl) ?_
  refine lv_aload_n hx hb dX10_useHand_18 rfl (lv_at hl 0 rfl) ?_
  refine g_get C X inT10 0 (by decide) (eM_0 g ad S1) rfl 6 (by decide) wd_1012 (v := .ref (ad 6)) rfl dX10_useHand_19 ?_
  refine lv_iconst (v := (4 : Int32)) hx hb dX10_useHand_22 (by decide) ?_
  refine g_iald C X 6 (by decide) (eM_6 g ad S1) (by decide) dX10_useHand_23 ?_
  obtain ⟨S2, eS2, h⟩ := nm_s h
  refine g_put (S' := S2) C X inT10 tyX10 tyX10_ok nmX10 0 (by decide) (eM_0 g ad S1) rfl 22 (by decide) wd_1028 rfl (by rfl) rfl (Nat.le_of_ble_eq_true rfl) (by subst eS2; rfl) (by subst eS2; exact fun i hi => ent_offu hi) dX10_useHand_24 (fun H locs X => ?_)
  refine lv_aload_n hx hb dX10_useHand_27 rfl (lv_at hl 0 rfl) ?_
  refine lv_aload_n hx hb dX10_useHand_28 rfl (lv_at hl 0 rfl) ?_
  refine lv_aload_n hx hb dX10_useHand_29 rfl (lv_at hl 0 rfl) ?_
  refine g_get C X inT10 0 (by decide) (eM_0 g ad S2) rfl 6 (by decide) wd_1012 (v := .ref (ad 6)) rfl dX10_useHand_30 ?_
  refine lv_iconst (v := (2 : Int32)) hx hb dX10_useHand_33 (by decide) ?_
  refine g_iald C X 6 (by decide) (eM_6 g ad S2) (by decide) dX10_useHand_34 ?_
  obtain ⟨r3, qr3, h⟩ := bn1_s h
  refine kc_i X (res := (r3, S2)) (rV (As := [.int (S2.1 6 ((2 : Int32)).toNatClampNeg)]) (rest := [.ref (ad 0)]) (n := 1) (k := 0) C X (c_X10_strengthIn l g ad S2 _ (S2.1 6 ((2 : Int32)).toNatClampNeg)  qr3) wd_1282 wd_1284 wd_48 wd_83 wd_1285 (by decide) (eM_0 g ad S2) rfl rfl rfl (by decide +kernel) ⟨Nat.le_of_ble_eq_true rfl, Nat.le_of_ble_eq_true rfl⟩ rfl hl.1 (lv_room (Nat.le_of_ble_eq_true rfl)) dX10_useHand_35) (fun H locs X => ?_)
  obtain ⟨S4, eS4, h⟩ := nm_s h
  refine g_put (S' := S4) C X inT10 tyX10 tyX10_ok nmX10 0 (by decide) (eM_0 g ad S2) rfl 23 (by decide) wd_1029 rfl (by rfl) rfl (Nat.le_of_ble_eq_true rfl) (by subst eS4; rfl) (by subst eS4; exact fun i hi => ent_offu hi) dX10_useHand_38 (fun H locs X => ?_)
  exact rt_v C X rfl (Option.some.inj h) dX10_useHand_41

def rmX10_usePerson : Room := { frames := 0, cells := 0, slots := 0, locals := 0 }
def f_X10_usePerson (a1 : Int32) (S : ST) : Option ST :=
  chk (ib (((5 : Int32)) * a1) 40) (nm (su S 0 24 (S.1 5 (((5 : Int32)) * a1).toNatClampNeg)) fun S2 => chk (ib ((((5 : Int32)) * a1) + ((1 : Int32))) 40) (nm (su S2 0 25 (S2.1 5 ((((5 : Int32)) * a1) + ((1 : Int32))).toNatClampNeg)) fun S4 => chk (ib ((((5 : Int32)) * a1) + ((2 : Int32))) 40) (nm (su S4 0 26 (S4.1 5 ((((5 : Int32)) * a1) + ((2 : Int32))).toNatClampNeg)) fun S6 => chk (ib ((((5 : Int32)) * a1) + ((3 : Int32))) 40) (nm (su S6 0 27 (S6.1 5 ((((5 : Int32)) * a1) + ((3 : Int32))).toNatClampNeg)) fun S8 => chk (ib ((((5 : Int32)) * a1) + ((4 : Int32))) 40) (nm (su S8 0 28 (S8.1 5 ((((5 : Int32)) * a1) + ((4 : Int32))).toNatClampNeg)) fun S10 => some S10)))))
set_option maxHeartbeats 4000000 in
set_option maxRecDepth 100000 in
theorem c_X10_usePerson (l : Launch) (g : GG) (ad : Nat → Nat) (S : ST) (sz : Nat) (a1 : Int32)  {res : ST} (h : f_X10_usePerson a1 S = some res) : Met l yX10_usePerson (WS (.code yX10_usePerson cX10_usePerson 2 none)) rmX10_usePerson (va_Pc [.ref (ad 0), .int a1] (PW kM g ad S sz)) (QV kM g ad res (AA kM ad sz)) 0 0 (AA kM ad sz) := by
  refine go_m (Qc := fun A => QV kM g ad res A) (by decide) (Nat.le_of_ble_eq_true rfl) (fun p e s m below meth c ls H locs C X hl => ?_)
  have hx := C.1.1
  have hb := C.1.2.1
  have hl : lv_has ls 2 [(0, .ref (ad 0)), (1, .int a1)] := hl
  have h : (chk (ib (((5 : Int32)) * a1) 40) (nm (su S 0 24 (S.1 5 (((5 : Int32)) * a1).toNatClampNeg)) fun S2 => chk (ib ((((5 : Int32)) * a1) + ((1 : Int32))) 40) (nm (su S2 0 25 (S2.1 5 ((((5 : Int32)) * a1) + ((1 : Int32))).toNatClampNeg)) fun S4 => chk (ib ((((5 : Int32)) * a1) + ((2 : Int32))) 40) (nm (su S4 0 26 (S4.1 5 ((((5 : Int32)) * a1) + ((2 : Int32))).toNatClampNeg)) fun S6 => chk (ib ((((5 : Int32)) * a1) + ((3 : Int32))) 40) (nm (su S6 0 27 (S6.1 5 ((((5 : Int32)) * a1) + ((3 : Int32))).toNatClampNeg)) fun S8 => chk (ib ((((5 : Int32)) * a1) + ((4 : Int32))) 40) (nm (su S8 0 28 (S8.1 5 ((((5 : Int32)) * a1) + ((4 : Int32))).toNatClampNeg)) fun S10 => some S10))))) : Option ST) = some res := h
  refine lv_aload_n hx hb dX10_usePerson_0 rfl (lv_at hl 0 rfl) ?_
  refine lv_aload_n hx hb dX10_usePerson_1 rfl (lv_at hl 0 rfl) ?_
  refine g_get C X inT10 0 (by decide) (eM_0 g ad S) rfl 5 (by decide) wd_1011 (v := .ref (ad 5)) rfl dX10_usePerson_2 ?_
  refine lv_iconst (v := (5 : Int32)) hx hb dX10_usePerson_5 (by decide) ?_
  refine lv_iload_n hx hb dX10_usePerson_6 rfl (lv_at hl 1 rfl) ?_
  refine lv_imul hx hb dX10_usePerson_7 ?_
  obtain ⟨k1, h⟩ := chk_s h
  refine g_iald C X 5 (by decide) (eM_5 g ad S) k1 dX10_usePerson_8 ?_
  obtain ⟨S2, eS2, h⟩ := nm_s h
  refine g_put (S' := S2) C X inT10 tyX10 tyX10_ok nmX10 0 (by decide) (eM_0 g ad S) rfl 24 (by decide) wd_1030 rfl (by rfl) rfl (Nat.le_of_ble_eq_true rfl) (by subst eS2; rfl) (by subst eS2; exact fun i hi => ent_offu hi) dX10_usePerson_9 (fun H locs X => ?_)
  refine lv_aload_n hx hb dX10_usePerson_12 rfl (lv_at hl 0 rfl) ?_
  refine lv_aload_n hx hb dX10_usePerson_13 rfl (lv_at hl 0 rfl) ?_
  refine g_get C X inT10 0 (by decide) (eM_0 g ad S2) rfl 5 (by decide) wd_1011 (v := .ref (ad 5)) rfl dX10_usePerson_14 ?_
  refine lv_iconst (v := (5 : Int32)) hx hb dX10_usePerson_17 (by decide) ?_
  refine lv_iload_n hx hb dX10_usePerson_18 rfl (lv_at hl 1 rfl) ?_
  refine lv_imul hx hb dX10_usePerson_19 ?_
  refine lv_iconst (v := (1 : Int32)) hx hb dX10_usePerson_20 (by decide) ?_
  refine lv_iadd hx hb dX10_usePerson_21 ?_
  obtain ⟨k3, h⟩ := chk_s h
  refine g_iald C X 5 (by decide) (eM_5 g ad S2) k3 dX10_usePerson_22 ?_
  obtain ⟨S4, eS4, h⟩ := nm_s h
  refine g_put (S' := S4) C X inT10 tyX10 tyX10_ok nmX10 0 (by decide) (eM_0 g ad S2) rfl 25 (by decide) wd_1031 rfl (by rfl) rfl (Nat.le_of_ble_eq_true rfl) (by subst eS4; rfl) (by subst eS4; exact fun i hi => ent_offu hi) dX10_usePerson_23 (fun H locs X => ?_)
  refine lv_aload_n hx hb dX10_usePerson_26 rfl (lv_at hl 0 rfl) ?_
  refine lv_aload_n hx hb dX10_usePerson_27 rfl (lv_at hl 0 rfl) ?_
  refine g_get C X inT10 0 (by decide) (eM_0 g ad S4) rfl 5 (by decide) wd_1011 (v := .ref (ad 5)) rfl dX10_usePerson_28 ?_
  refine lv_iconst (v := (5 : Int32)) hx hb dX10_usePerson_31 (by decide) ?_
  refine lv_iload_n hx hb dX10_usePerson_32 rfl (lv_at hl 1 rfl) ?_
  refine lv_imul hx hb dX10_usePerson_33 ?_
  refine lv_iconst (v := (2 : Int32)) hx hb dX10_usePerson_34 (by decide) ?_
  refine lv_iadd hx hb dX10_usePerson_35 ?_
  obtain ⟨k5, h⟩ := chk_s h
  refine g_iald C X 5 (by decide) (eM_5 g ad S4) k5 dX10_usePerson_36 ?_
  obtain ⟨S6, eS6, h⟩ := nm_s h
  refine g_put (S' := S6) C X inT10 tyX10 tyX10_ok nmX10 0 (by decide) (eM_0 g ad S4) rfl 26 (by decide) wd_1032 rfl (by rfl) rfl (Nat.le_of_ble_eq_true rfl) (by subst eS6; rfl) (by subst eS6; exact fun i hi => ent_offu hi) dX10_usePerson_37 (fun H locs X => ?_)
  refine lv_aload_n hx hb dX10_usePerson_40 rfl (lv_at hl 0 rfl) ?_
  refine lv_aload_n hx hb dX10_usePerson_41 rfl (lv_at hl 0 rfl) ?_
  refine g_get C X inT10 0 (by decide) (eM_0 g ad S6) rfl 5 (by decide) wd_1011 (v := .ref (ad 5)) rfl dX10_usePerson_42 ?_
  refine lv_iconst (v := (5 : Int32)) hx hb dX10_usePerson_45 (by decide) ?_
  refine lv_iload_n hx hb dX10_usePerson_46 rfl (lv_at hl 1 rfl) ?_
  refine lv_imul hx hb dX10_usePerson_47 ?_
  refine lv_iconst (v := (3 : Int32)) hx hb dX10_usePerson_48 (by decide) ?_
  refine lv_iadd hx hb dX10_usePerson_49 ?_
  obtain ⟨k7, h⟩ := chk_s h
  refine g_iald C X 5 (by decide) (eM_5 g ad S6) k7 dX10_usePerson_50 ?_
  obtain ⟨S8, eS8, h⟩ := nm_s h
  refine g_put (S' := S8) C X inT10 tyX10 tyX10_ok nmX10 0 (by decide) (eM_0 g ad S6) rfl 27 (by decide) wd_1033 rfl (by rfl) rfl (Nat.le_of_ble_eq_true rfl) (by subst eS8; rfl) (by subst eS8; exact fun i hi => ent_offu hi) dX10_usePerson_51 (fun H locs X => ?_)
  refine lv_aload_n hx hb dX10_usePerson_54 rfl (lv_at hl 0 rfl) ?_
  refine lv_aload_n hx hb dX10_usePerson_55 rfl (lv_at hl 0 rfl) ?_
  refine g_get C X inT10 0 (by decide) (eM_0 g ad S8) rfl 5 (by decide) wd_1011 (v := .ref (ad 5)) rfl dX10_usePerson_56 ?_
  refine lv_iconst (v := (5 : Int32)) hx hb dX10_usePerson_59 (by decide) ?_
  refine lv_iload_n hx hb dX10_usePerson_60 rfl (lv_at hl 1 rfl) ?_
  refine lv_imul hx hb dX10_usePerson_61 ?_
  refine lv_iconst (v := (4 : Int32)) hx hb dX10_usePerson_62 (by decide) ?_
  refine lv_iadd hx hb dX10_usePerson_63 ?_
  obtain ⟨k9, h⟩ := chk_s h
  refine g_iald C X 5 (by decide) (eM_5 g ad S8) k9 dX10_usePerson_64 ?_
  obtain ⟨S10, eS10, h⟩ := nm_s h
  refine g_put (S' := S10) C X inT10 tyX10 tyX10_ok nmX10 0 (by decide) (eM_0 g ad S8) rfl 28 (by decide) wd_1034 rfl (by rfl) rfl (Nat.le_of_ble_eq_true rfl) (by subst eS10; rfl) (by subst eS10; exact fun i hi => ent_offu hi) dX10_usePerson_65 (fun H locs X => ?_)
  exact rt_v C X rfl (Option.some.inj h) dX10_usePerson_68

def rmX10_pullOf : Room := { frames := 3, cells := 0, slots := 0, locals := 64 }
def f_X10_pullOf (a1 : Int32) (a2 : Int32) (a3 : Int32) (S : ST) : Option Int32 :=
  bn1 (f_X10_cosineOf (a2 / ((100 : Int32)))) fun r1 => nm (((a1.toInt64) * (((r1 / ((10 : Int32))).toInt64) + ((((a3.toInt64) * (a3.toInt64)) * ((S.1 0 21).toInt64)) / ((80500000 : Int64))))) / ((100 : Int64))) fun x2 => if 0 ≤ (lg_cmp x2 ((0 : Int64))) then (some (x2.toInt32)) else (some ((0 : Int32)))
set_option maxHeartbeats 4000000 in
set_option maxRecDepth 100000 in
theorem c_X10_pullOf (l : Launch) (g : GG) (ad : Nat → Nat) (S : ST) (sz : Nat) (a1 : Int32) (a2 : Int32) (a3 : Int32)  {res : Int32} (h : f_X10_pullOf a1 a2 a3 S = some res) : Met l yX10_pullOf (WS (.code yX10_pullOf cX10_pullOf 6 (some Jvm.ClassFile.FieldType.int))) rmX10_pullOf (va_Pc [.ref (ad 0), .int a1, .int a2, .int a3] (PW kM g ad S sz)) (QI kM g ad (res, S) (AA kM ad sz)) 0 0 (AA kM ad sz) := by
  refine go_m (Qc := fun A => QI kM g ad (res, S) A) (by decide) (Nat.le_of_ble_eq_true rfl) (fun p e s m below meth c ls H locs C X hl => ?_)
  have hx := C.1.1
  have hb := C.1.2.1
  have hl : lv_has ls 6 [(0, .ref (ad 0)), (1, .int a1), (2, .int a2), (3, .int a3)] := hl
  have h : (bn1 (f_X10_cosineOf (a2 / ((100 : Int32)))) fun r1 => nm (((a1.toInt64) * (((r1 / ((10 : Int32))).toInt64) + ((((a3.toInt64) * (a3.toInt64)) * ((S.1 0 21).toInt64)) / ((80500000 : Int64))))) / ((100 : Int64))) fun x2 => if 0 ≤ (lg_cmp x2 ((0 : Int64))) then (some (x2.toInt32)) else (some ((0 : Int32))) : Option Int32) = some res := h
  refine lv_iload_n hx hb dX10_pullOf_0 rfl (lv_at hl 1 rfl) ?_
  refine lv_i2l hx hb dX10_pullOf_1 rfl ?_
  refine lv_iload_n hx hb dX10_pullOf_2 rfl (lv_at hl 2 rfl) ?_
  refine lv_bipush (v := (100 : Int32)) hx hb dX10_pullOf_3 (by decide) ?_
  refine lv_idiv hx hb dX10_pullOf_5 (by decide) ?_
  obtain ⟨r1, qr1, h⟩ := bn1_s h
  refine kc_i X (res := (r1, S)) (rS (As := [.int (a2 / ((100 : Int32)))]) (rest := [.long (a1.toInt64)]) (n := 1) C X (c_X10_cosineOf l g ad S _ (a2 / ((100 : Int32)))  qr1) wd_1322 wd_1323 wd_83 wd_1324 rfl rfl (by decide +kernel) ⟨Nat.le_of_ble_eq_true rfl, Nat.le_of_ble_eq_true rfl⟩ rfl hl.1 (lv_room (Nat.le_of_ble_eq_true rfl)) dX10_pullOf_6) (fun H locs X => ?_)
  refine lv_bipush (v := (10 : Int32)) hx hb dX10_pullOf_9 (by decide) ?_
  refine lv_idiv hx hb dX10_pullOf_11 (by decide) ?_
  refine lv_i2l hx hb dX10_pullOf_12 rfl ?_
  refine lv_iload_n hx hb dX10_pullOf_13 rfl (lv_at hl 3 rfl) ?_
  refine lv_i2l hx hb dX10_pullOf_14 rfl ?_
  refine lv_iload_n hx hb dX10_pullOf_15 rfl (lv_at hl 3 rfl) ?_
  refine lv_i2l hx hb dX10_pullOf_16 rfl ?_
  refine lv_lmul hx hb dX10_pullOf_17 ?_
  refine lv_aload_n hx hb dX10_pullOf_18 rfl (lv_at hl 0 rfl) ?_
  refine g_get C X inT10 0 (by decide) (eM_0 g ad S) rfl 21 (by decide) wd_1027 (v := .int (S.1 0 21)) rfl dX10_pullOf_19 ?_
  refine lv_i2l hx hb dX10_pullOf_22 rfl ?_
  refine lv_lmul hx hb dX10_pullOf_23 ?_
  refine lv_ldc2 (v := (80500000 : Int64)) hx hb C.1.2.2.2.2.2.1 (C.1.2.2.2.2.2.2 _ (ws_in wd_1325)) dX10_pullOf_24 ?_
  refine lv_ldiv hx hb dX10_pullOf_27 (by decide) ?_
  refine lv_ladd hx hb dX10_pullOf_28 ?_
  refine lv_lmul hx hb dX10_pullOf_29 ?_
  refine lv_ldc2 (v := (100 : Int64)) hx hb C.1.2.2.2.2.2.1 (C.1.2.2.2.2.2.2 _ (ws_in wd_1326)) dX10_pullOf_30 ?_
  refine lv_ldiv hx hb dX10_pullOf_33 (by decide) ?_
  obtain ⟨x2, ex2, h⟩ := nm_s h
  refine tp_l ex2 ?_
  refine lv_lstore (lv' := [(4, .long x2), (0, .ref (ad 0)), (1, .int a1), (2, .int a2), (3, .int a3)]) hx hb dX10_pullOf_34 hl (by decide) rfl (fun ls hl => ?_)
  refine lv_lload hx hb dX10_pullOf_36 (lv_at hl 0 rfl) ?_
  refine lv_lconst (v := (0 : Int64)) hx hb dX10_pullOf_38 (by decide) ?_
  refine W.lcmp hx hb dX10_pullOf_39 ?_
  refine lv_if_ge (tgt := 47) hx hb dX10_pullOf_40 (by decide) (fun c3 => ?_) (fun c3 => ?_)
  · have h := ip h c3
    refine lv_lload hx hb dX10_pullOf_47 (lv_at hl 0 rfl) ?_
    refine lv_l2i hx hb dX10_pullOf_49 rfl ?_
    exact rt_i C X rfl (congrArg (fun z => (z, S)) (Option.some.inj h)) dX10_pullOf_50
  · have h := inn h c3
    refine lv_iconst (v := (0 : Int32)) hx hb dX10_pullOf_43 (by decide) ?_
    refine lv_goto (tgt := 50) hx hb dX10_pullOf_44 (by decide) ?_
    exact rt_i C X rfl (congrArg (fun z => (z, S)) (Option.some.inj h)) dX10_pullOf_50

def rmX10_swing : Room := { frames := 4, cells := 0, slots := 0, locals := 89 }
def b_X10_swing_53 (K53 : Int32 → ST → Option ST) (v2 : Int32) (S : ST) : Option ST :=
  if ((200 : Int32)) < v2 then (some S) else (chk (ib (v2 - ((1 : Int32))) 201) (chk (ib (v2 - ((1 : Int32))) 201) (bn1 (f_X10_sineOf ((S.1 12 (v2 - ((1 : Int32))).toNatClampNeg) / ((100 : Int32)))) fun r9 => chk (nz (S.1 0 21)) (chk (ib v2 201) (nm (su S 13 v2.toNatClampNeg ((S.1 13 (v2 - ((1 : Int32))).toNatClampNeg) - ((((140 : Int32)) * r9) / (S.1 0 21)))) fun S12 => chk (ib (v2 - ((1 : Int32))) 201) (chk (ib v2 201) (chk (ib v2 201) (nm (su S12 12 v2.toNatClampNeg ((S12.1 12 (v2 - ((1 : Int32))).toNatClampNeg) + (S12.1 13 v2.toNatClampNeg))) fun S16 => chk (ib v2 201) (chk (ib v2 201) (bn1 (f_X10_pullOf (S16.1 0 24) (S16.1 12 v2.toNatClampNeg) (S16.1 13 v2.toNatClampNeg) S16) fun r19 => chk (ib v2 201) (nm (su S16 14 v2.toNatClampNeg r19) fun S21 => chk (ib (v2 - ((1 : Int32))) 201) (chk (ib v2 201) (chk (nz (S21.1 0 26)) (chk (ib v2 201) (nm (su S21 15 v2.toNatClampNeg ((S21.1 15 (v2 - ((1 : Int32))).toNatClampNeg) - (((S21.1 14 v2.toNatClampNeg) * ((20 : Int32))) / (S21.1 0 26)))) fun S26 => nm (v2 + (1 : Int32)) fun x27 => K53 x27 S26)))))))))))))))
def f_X10_swing  (S : ST) : Option ST :=
  nm (su S 12 ((0 : Int32)).toNatClampNeg (((-1000 : Int32)) * (S.1 6 ((3 : Int32)).toNatClampNeg))) fun S1 => chk (nz (S1.1 0 21)) (nm (su S1 13 ((0 : Int32)).toNatClampNeg ((((2865 : Int32)) * (S1.1 0 22)) / (S1.1 0 21))) fun S3 => nm (su S3 14 ((0 : Int32)).toNatClampNeg ((0 : Int32))) fun S4 => nm (su S4 15 ((0 : Int32)).toNatClampNeg ((1000 : Int32))) fun S5 => lp (fun _ _ => none) (b_X10_swing_53) 1000 ((1 : Int32)) S5)
set_option maxHeartbeats 4000000 in
set_option maxRecDepth 100000 in
theorem kb_X10_swing_53 {p : Program} {l : Launch} {e : Env} {s : State} {m : MethodId} {args : Array Value} {below : List Frame} {meth : Method} {c : Code} {g : GG} {ad : Nat → Nat} {res : ST} {S : ST} (C : CX kM g ad p s m args meth c cX10_swing none 2 yX10_swing.cls (.code yX10_swing cX10_swing 2 none)) {K53 : Int32 → ST → Option ST} (hK53 : ∀ {v2 : Int32} {S : ST} {H : Heap} {locs : List Loc} {ls : Array Slot}, K53 v2 S = some res → WX kM g ad s S H locs → lv_has ls 2 [(0, .ref (ad 0)), (1, .int v2)] → W p l e rmX10_swing s m args below meth c H locs 0 0 (MQ below (QV kM g ad res (AA kM ad s.heap.size)) args s 0 0 (AA kM ad s.heap.size)) (F0 m 53 ls [])) {v2 : Int32}  {H : Heap} {locs : List Loc} {ls : Array Slot} (h : b_X10_swing_53 K53 v2 S = some res) (X : WX kM g ad s S H locs) (hl : lv_has ls 2 [(0, .ref (ad 0)), (1, .int v2)])  : W p l e rmX10_swing s m args below meth c H locs 0 0 (MQ below (QV kM g ad res (AA kM ad s.heap.size)) args s 0 0 (AA kM ad s.heap.size)) (F0 m 53 ls []) := by
  have hx := C.1.1
  have hb := C.1.2.1
  have h : (if ((200 : Int32)) < v2 then (some S) else (chk (ib (v2 - ((1 : Int32))) 201) (chk (ib (v2 - ((1 : Int32))) 201) (bn1 (f_X10_sineOf ((S.1 12 (v2 - ((1 : Int32))).toNatClampNeg) / ((100 : Int32)))) fun r9 => chk (nz (S.1 0 21)) (chk (ib v2 201) (nm (su S 13 v2.toNatClampNeg ((S.1 13 (v2 - ((1 : Int32))).toNatClampNeg) - ((((140 : Int32)) * r9) / (S.1 0 21)))) fun S12 => chk (ib (v2 - ((1 : Int32))) 201) (chk (ib v2 201) (chk (ib v2 201) (nm (su S12 12 v2.toNatClampNeg ((S12.1 12 (v2 - ((1 : Int32))).toNatClampNeg) + (S12.1 13 v2.toNatClampNeg))) fun S16 => chk (ib v2 201) (chk (ib v2 201) (bn1 (f_X10_pullOf (S16.1 0 24) (S16.1 12 v2.toNatClampNeg) (S16.1 13 v2.toNatClampNeg) S16) fun r19 => chk (ib v2 201) (nm (su S16 14 v2.toNatClampNeg r19) fun S21 => chk (ib (v2 - ((1 : Int32))) 201) (chk (ib v2 201) (chk (nz (S21.1 0 26)) (chk (ib v2 201) (nm (su S21 15 v2.toNatClampNeg ((S21.1 15 (v2 - ((1 : Int32))).toNatClampNeg) - (((S21.1 14 v2.toNatClampNeg) * ((20 : Int32))) / (S21.1 0 26)))) fun S26 => nm (v2 + (1 : Int32)) fun x27 => K53 x27 S26))))))))))))))) : Option ST) = some res := h
  refine lv_iload_n hx hb dX10_swing_53 rfl (lv_at hl 1 rfl) ?_
  refine lv_sipush (v := (200 : Int32)) hx hb dX10_swing_54 (by decide) ?_
  refine lv_icmp_gt (tgt := 180) hx hb dX10_swing_57 (by decide) (fun c6 => ?_) (fun c6 => ?_)
  · have h := ip h c6
    exact rt_v C X rfl (Option.some.inj h) dX10_swing_180
  · have h := inn h c6
    refine lv_aload_n hx hb dX10_swing_60 rfl (lv_at hl 0 rfl) ?_
    refine g_get C X inT10 0 (by decide) (eM_0 g ad S) rfl 30 (by decide) wd_1036 (v := .ref (ad 13)) rfl dX10_swing_61 ?_
    refine lv_iload_n hx hb dX10_swing_64 rfl (lv_at hl 1 rfl) ?_
    refine lv_aload_n hx hb dX10_swing_65 rfl (lv_at hl 0 rfl) ?_
    refine g_get C X inT10 0 (by decide) (eM_0 g ad S) rfl 30 (by decide) wd_1036 (v := .ref (ad 13)) rfl dX10_swing_66 ?_
    refine lv_iload_n hx hb dX10_swing_69 rfl (lv_at hl 1 rfl) ?_
    refine lv_iconst (v := (1 : Int32)) hx hb dX10_swing_70 (by decide) ?_
    refine lv_isub hx hb dX10_swing_71 ?_
    obtain ⟨k7, h⟩ := chk_s h
    refine g_iald C X 13 (by decide) (eM_13 g ad S) k7 dX10_swing_72 ?_
    refine lv_sipush (v := (140 : Int32)) hx hb dX10_swing_73 (by decide) ?_
    refine lv_aload_n hx hb dX10_swing_76 rfl (lv_at hl 0 rfl) ?_
    refine g_get C X inT10 0 (by decide) (eM_0 g ad S) rfl 29 (by decide) wd_1035 (v := .ref (ad 12)) rfl dX10_swing_77 ?_
    refine lv_iload_n hx hb dX10_swing_80 rfl (lv_at hl 1 rfl) ?_
    refine lv_iconst (v := (1 : Int32)) hx hb dX10_swing_81 (by decide) ?_
    refine lv_isub hx hb dX10_swing_82 ?_
    obtain ⟨k8, h⟩ := chk_s h
    refine g_iald C X 12 (by decide) (eM_12 g ad S) k8 dX10_swing_83 ?_
    refine lv_bipush (v := (100 : Int32)) hx hb dX10_swing_84 (by decide) ?_
    refine lv_idiv hx hb dX10_swing_86 (by decide) ?_
    obtain ⟨r9, qr9, h⟩ := bn1_s h
    refine kc_i X (res := (r9, S)) (rS (As := [.int ((S.1 12 (v2 - ((1 : Int32))).toNatClampNeg) / ((100 : Int32)))]) (rest := [.int ((140 : Int32)), .int (S.1 13 (v2 - ((1 : Int32))).toNatClampNeg), .int v2, .ref (ad 13)]) (n := 1) C X (c_X10_sineOf l g ad S _ ((S.1 12 (v2 - ((1 : Int32))).toNatClampNeg) / ((100 : Int32)))  qr9) wd_1292 wd_1293 wd_83 wd_1294 rfl rfl (by decide +kernel) ⟨Nat.le_of_ble_eq_true rfl, Nat.le_of_ble_eq_true rfl⟩ rfl hl.1 (lv_room (Nat.le_of_ble_eq_true rfl)) dX10_swing_87) (fun H locs X => ?_)
    refine lv_imul hx hb dX10_swing_90 ?_
    refine lv_aload_n hx hb dX10_swing_91 rfl (lv_at hl 0 rfl) ?_
    refine g_get C X inT10 0 (by decide) (eM_0 g ad S) rfl 21 (by decide) wd_1027 (v := .int (S.1 0 21)) rfl dX10_swing_92 ?_
    obtain ⟨k10, h⟩ := chk_s h
    refine lv_idiv hx hb dX10_swing_95 (nz_ne k10) ?_
    refine lv_isub hx hb dX10_swing_96 ?_
    obtain ⟨k11, h⟩ := chk_s h
    obtain ⟨S12, eS12, h⟩ := nm_s h
    refine g_iast (S' := S12) C X 13 (by decide) (eM_13 g ad S) k11 (by subst eS12; rfl) (by subst eS12; exact fun i hi => ent_offu hi) dX10_swing_97 (fun H locs X => ?_)
    refine lv_aload_n hx hb dX10_swing_98 rfl (lv_at hl 0 rfl) ?_
    refine g_get C X inT10 0 (by decide) (eM_0 g ad S12) rfl 29 (by decide) wd_1035 (v := .ref (ad 12)) rfl dX10_swing_99 ?_
    refine lv_iload_n hx hb dX10_swing_102 rfl (lv_at hl 1 rfl) ?_
    refine lv_aload_n hx hb dX10_swing_103 rfl (lv_at hl 0 rfl) ?_
    refine g_get C X inT10 0 (by decide) (eM_0 g ad S12) rfl 29 (by decide) wd_1035 (v := .ref (ad 12)) rfl dX10_swing_104 ?_
    refine lv_iload_n hx hb dX10_swing_107 rfl (lv_at hl 1 rfl) ?_
    refine lv_iconst (v := (1 : Int32)) hx hb dX10_swing_108 (by decide) ?_
    refine lv_isub hx hb dX10_swing_109 ?_
    obtain ⟨k13, h⟩ := chk_s h
    refine g_iald C X 12 (by decide) (eM_12 g ad S12) k13 dX10_swing_110 ?_
    refine lv_aload_n hx hb dX10_swing_111 rfl (lv_at hl 0 rfl) ?_
    refine g_get C X inT10 0 (by decide) (eM_0 g ad S12) rfl 30 (by decide) wd_1036 (v := .ref (ad 13)) rfl dX10_swing_112 ?_
    refine lv_iload_n hx hb dX10_swing_115 rfl (lv_at hl 1 rfl) ?_
    obtain ⟨k14, h⟩ := chk_s h
    refine g_iald C X 13 (by decide) (eM_13 g ad S12) k14 dX10_swing_116 ?_
    refine lv_iadd hx hb dX10_swing_117 ?_
    obtain ⟨k15, h⟩ := chk_s h
    obtain ⟨S16, eS16, h⟩ := nm_s h
    refine g_iast (S' := S16) C X 12 (by decide) (eM_12 g ad S12) k15 (by subst eS16; rfl) (by subst eS16; exact fun i hi => ent_offu hi) dX10_swing_118 (fun H locs X => ?_)
    refine lv_aload_n hx hb dX10_swing_119 rfl (lv_at hl 0 rfl) ?_
    refine g_get C X inT10 0 (by decide) (eM_0 g ad S16) rfl 31 (by decide) wd_1037 (v := .ref (ad 14)) rfl dX10_swing_120 ?_
    refine lv_iload_n hx hb dX10_swing_123 rfl (lv_at hl 1 rfl) ?_
    refine lv_aload_n hx hb dX10_swing_124 rfl (lv_at hl 0 rfl) ?_
    refine lv_aload_n hx hb dX10_swing_125 rfl (lv_at hl 0 rfl) ?_
    refine g_get C X inT10 0 (by decide) (eM_0 g ad S16) rfl 24 (by decide) wd_1030 (v := .int (S16.1 0 24)) rfl dX10_swing_126 ?_
    refine lv_aload_n hx hb dX10_swing_129 rfl (lv_at hl 0 rfl) ?_
    refine g_get C X inT10 0 (by decide) (eM_0 g ad S16) rfl 29 (by decide) wd_1035 (v := .ref (ad 12)) rfl dX10_swing_130 ?_
    refine lv_iload_n hx hb dX10_swing_133 rfl (lv_at hl 1 rfl) ?_
    obtain ⟨k17, h⟩ := chk_s h
    refine g_iald C X 12 (by decide) (eM_12 g ad S16) k17 dX10_swing_134 ?_
    refine lv_aload_n hx hb dX10_swing_135 rfl (lv_at hl 0 rfl) ?_
    refine g_get C X inT10 0 (by decide) (eM_0 g ad S16) rfl 30 (by decide) wd_1036 (v := .ref (ad 13)) rfl dX10_swing_136 ?_
    refine lv_iload_n hx hb dX10_swing_139 rfl (lv_at hl 1 rfl) ?_
    obtain ⟨k18, h⟩ := chk_s h
    refine g_iald C X 13 (by decide) (eM_13 g ad S16) k18 dX10_swing_140 ?_
    obtain ⟨r19, qr19, h⟩ := bn1_s h
    refine kc_i X (res := (r19, S16)) (rV (As := [.int (S16.1 0 24), .int (S16.1 12 v2.toNatClampNeg), .int (S16.1 13 v2.toNatClampNeg)]) (rest := [.int v2, .ref (ad 14)]) (n := 3) (k := 0) C X (c_X10_pullOf l g ad S16 _ (S16.1 0 24) (S16.1 12 v2.toNatClampNeg) (S16.1 13 v2.toNatClampNeg)  qr19) wd_1318 wd_1320 wd_52 wd_83 wd_1321 (by decide) (eM_0 g ad S16) rfl rfl rfl (by decide +kernel) ⟨Nat.le_of_ble_eq_true rfl, Nat.le_of_ble_eq_true rfl⟩ rfl hl.1 (lv_room (Nat.le_of_ble_eq_true rfl)) dX10_swing_141) (fun H locs X => ?_)
    obtain ⟨k20, h⟩ := chk_s h
    obtain ⟨S21, eS21, h⟩ := nm_s h
    refine g_iast (S' := S21) C X 14 (by decide) (eM_14 g ad S16) k20 (by subst eS21; rfl) (by subst eS21; exact fun i hi => ent_offu hi) dX10_swing_144 (fun H locs X => ?_)
    refine lv_aload_n hx hb dX10_swing_145 rfl (lv_at hl 0 rfl) ?_
    refine g_get C X inT10 0 (by decide) (eM_0 g ad S21) rfl 32 (by decide) wd_1038 (v := .ref (ad 15)) rfl dX10_swing_146 ?_
    refine lv_iload_n hx hb dX10_swing_149 rfl (lv_at hl 1 rfl) ?_
    refine lv_aload_n hx hb dX10_swing_150 rfl (lv_at hl 0 rfl) ?_
    refine g_get C X inT10 0 (by decide) (eM_0 g ad S21) rfl 32 (by decide) wd_1038 (v := .ref (ad 15)) rfl dX10_swing_151 ?_
    refine lv_iload_n hx hb dX10_swing_154 rfl (lv_at hl 1 rfl) ?_
    refine lv_iconst (v := (1 : Int32)) hx hb dX10_swing_155 (by decide) ?_
    refine lv_isub hx hb dX10_swing_156 ?_
    obtain ⟨k22, h⟩ := chk_s h
    refine g_iald C X 15 (by decide) (eM_15 g ad S21) k22 dX10_swing_157 ?_
    refine lv_aload_n hx hb dX10_swing_158 rfl (lv_at hl 0 rfl) ?_
    refine g_get C X inT10 0 (by decide) (eM_0 g ad S21) rfl 31 (by decide) wd_1037 (v := .ref (ad 14)) rfl dX10_swing_159 ?_
    refine lv_iload_n hx hb dX10_swing_162 rfl (lv_at hl 1 rfl) ?_
    obtain ⟨k23, h⟩ := chk_s h
    refine g_iald C X 14 (by decide) (eM_14 g ad S21) k23 dX10_swing_163 ?_
    refine lv_bipush (v := (20 : Int32)) hx hb dX10_swing_164 (by decide) ?_
    refine lv_imul hx hb dX10_swing_166 ?_
    refine lv_aload_n hx hb dX10_swing_167 rfl (lv_at hl 0 rfl) ?_
    refine g_get C X inT10 0 (by decide) (eM_0 g ad S21) rfl 26 (by decide) wd_1032 (v := .int (S21.1 0 26)) rfl dX10_swing_168 ?_
    obtain ⟨k24, h⟩ := chk_s h
    refine lv_idiv hx hb dX10_swing_171 (nz_ne k24) ?_
    refine lv_isub hx hb dX10_swing_172 ?_
    obtain ⟨k25, h⟩ := chk_s h
    obtain ⟨S26, eS26, h⟩ := nm_s h
    refine g_iast (S' := S26) C X 15 (by decide) (eM_15 g ad S21) k25 (by subst eS26; rfl) (by subst eS26; exact fun i hi => ent_offu hi) dX10_swing_173 (fun H locs X => ?_)
    obtain ⟨x27, ex27, h⟩ := nm_s h
    refine lv_iinc (v := x27) (lv' := [(1, .int x27), (0, .ref (ad 0))]) hx hb dX10_swing_174 hl (k := 1) rfl (by rw [ex27]; rfl) (by decide) rfl (fun ls hl => ?_)
    refine lv_goto (tgt := 53) hx hb dX10_swing_177 (by decide) ?_
    exact hK53 h X (lv_sub hl [1, 0] rfl) 
set_option maxHeartbeats 4000000 in
set_option maxRecDepth 100000 in
theorem kl_X10_swing_53 {p : Program} {l : Launch} {e : Env} {s : State} {m : MethodId} {args : Array Value} {below : List Frame} {meth : Method} {c : Code} {g : GG} {ad : Nat → Nat} {res : ST}  (C : CX kM g ad p s m args meth c cX10_swing none 2 yX10_swing.cls (.code yX10_swing cX10_swing 2 none))  : ∀ (n : Nat) {v2 : Int32} {S : ST} {H : Heap} {locs : List Loc} {ls : Array Slot}, (lp (fun _ _ => none) (b_X10_swing_53)) n v2 S = some res → WX kM g ad s S H locs → lv_has ls 2 [(0, .ref (ad 0)), (1, .int v2)] → W p l e rmX10_swing s m args below meth c H locs 0 0 (MQ below (QV kM g ad res (AA kM ad s.heap.size)) args s 0 0 (AA kM ad s.heap.size)) (F0 m 53 ls []) := by
  intro n
  induction n with
  | zero =>
    intro v2 S H locs ls h
    cases (show (none : Option ST) = some res from h)
  | succ n ih =>
    intro v2 S H locs ls h X hl 
    exact kb_X10_swing_53 C ih h X hl 
set_option maxHeartbeats 4000000 in
set_option maxRecDepth 100000 in
theorem c_X10_swing (l : Launch) (g : GG) (ad : Nat → Nat) (S : ST) (sz : Nat)   {res : ST} (h : f_X10_swing S = some res) : Met l yX10_swing (WS (.code yX10_swing cX10_swing 2 none)) rmX10_swing (va_Pc [.ref (ad 0)] (PW kM g ad S sz)) (QV kM g ad res (AA kM ad sz)) 0 0 (AA kM ad sz) := by
  refine go_m (Qc := fun A => QV kM g ad res A) (by decide) (Nat.le_of_ble_eq_true rfl) (fun p e s m below meth c ls H locs C X hl => ?_)
  have hx := C.1.1
  have hb := C.1.2.1
  have hl : lv_has ls 2 [(0, .ref (ad 0))] := hl
  have h : (nm (su S 12 ((0 : Int32)).toNatClampNeg (((-1000 : Int32)) * (S.1 6 ((3 : Int32)).toNatClampNeg))) fun S1 => chk (nz (S1.1 0 21)) (nm (su S1 13 ((0 : Int32)).toNatClampNeg ((((2865 : Int32)) * (S1.1 0 22)) / (S1.1 0 21))) fun S3 => nm (su S3 14 ((0 : Int32)).toNatClampNeg ((0 : Int32))) fun S4 => nm (su S4 15 ((0 : Int32)).toNatClampNeg ((1000 : Int32))) fun S5 => lp (fun _ _ => none) (b_X10_swing_53) 1000 ((1 : Int32)) S5) : Option ST) = some res := h
  refine lv_aload_n hx hb dX10_swing_0 rfl (lv_at hl 0 rfl) ?_
  refine g_get C X inT10 0 (by decide) (eM_0 g ad S) rfl 29 (by decide) wd_1035 (v := .ref (ad 12)) rfl dX10_swing_1 ?_
  refine lv_iconst (v := (0 : Int32)) hx hb dX10_swing_4 (by decide) ?_
  refine lv_sipush (v := (-1000 : Int32)) hx hb dX10_swing_5 (by decide) ?_
  refine lv_aload_n hx hb dX10_swing_8 rfl (lv_at hl 0 rfl) ?_
  refine g_get C X inT10 0 (by decide) (eM_0 g ad S) rfl 6 (by decide) wd_1012 (v := .ref (ad 6)) rfl dX10_swing_9 ?_
  refine lv_iconst (v := (3 : Int32)) hx hb dX10_swing_12 (by decide) ?_
  refine g_iald C X 6 (by decide) (eM_6 g ad S) (by decide) dX10_swing_13 ?_
  refine lv_imul hx hb dX10_swing_14 ?_
  obtain ⟨S1, eS1, h⟩ := nm_s h
  refine g_iast (S' := S1) C X 12 (by decide) (eM_12 g ad S) (by decide) (by subst eS1; rfl) (by subst eS1; exact fun i hi => ent_offu hi) dX10_swing_15 (fun H locs X => ?_)
  refine lv_aload_n hx hb dX10_swing_16 rfl (lv_at hl 0 rfl) ?_
  refine g_get C X inT10 0 (by decide) (eM_0 g ad S1) rfl 30 (by decide) wd_1036 (v := .ref (ad 13)) rfl dX10_swing_17 ?_
  refine lv_iconst (v := (0 : Int32)) hx hb dX10_swing_20 (by decide) ?_
  refine lv_sipush (v := (2865 : Int32)) hx hb dX10_swing_21 (by decide) ?_
  refine lv_aload_n hx hb dX10_swing_24 rfl (lv_at hl 0 rfl) ?_
  refine g_get C X inT10 0 (by decide) (eM_0 g ad S1) rfl 22 (by decide) wd_1028 (v := .int (S1.1 0 22)) rfl dX10_swing_25 ?_
  refine lv_imul hx hb dX10_swing_28 ?_
  refine lv_aload_n hx hb dX10_swing_29 rfl (lv_at hl 0 rfl) ?_
  refine g_get C X inT10 0 (by decide) (eM_0 g ad S1) rfl 21 (by decide) wd_1027 (v := .int (S1.1 0 21)) rfl dX10_swing_30 ?_
  obtain ⟨k2, h⟩ := chk_s h
  refine lv_idiv hx hb dX10_swing_33 (nz_ne k2) ?_
  obtain ⟨S3, eS3, h⟩ := nm_s h
  refine g_iast (S' := S3) C X 13 (by decide) (eM_13 g ad S1) (by decide) (by subst eS3; rfl) (by subst eS3; exact fun i hi => ent_offu hi) dX10_swing_34 (fun H locs X => ?_)
  refine lv_aload_n hx hb dX10_swing_35 rfl (lv_at hl 0 rfl) ?_
  refine g_get C X inT10 0 (by decide) (eM_0 g ad S3) rfl 31 (by decide) wd_1037 (v := .ref (ad 14)) rfl dX10_swing_36 ?_
  refine lv_iconst (v := (0 : Int32)) hx hb dX10_swing_39 (by decide) ?_
  refine lv_iconst (v := (0 : Int32)) hx hb dX10_swing_40 (by decide) ?_
  obtain ⟨S4, eS4, h⟩ := nm_s h
  refine g_iast (S' := S4) C X 14 (by decide) (eM_14 g ad S3) (by decide) (by subst eS4; rfl) (by subst eS4; exact fun i hi => ent_offu hi) dX10_swing_41 (fun H locs X => ?_)
  refine lv_aload_n hx hb dX10_swing_42 rfl (lv_at hl 0 rfl) ?_
  refine g_get C X inT10 0 (by decide) (eM_0 g ad S4) rfl 32 (by decide) wd_1038 (v := .ref (ad 15)) rfl dX10_swing_43 ?_
  refine lv_iconst (v := (0 : Int32)) hx hb dX10_swing_46 (by decide) ?_
  refine lv_sipush (v := (1000 : Int32)) hx hb dX10_swing_47 (by decide) ?_
  obtain ⟨S5, eS5, h⟩ := nm_s h
  refine g_iast (S' := S5) C X 15 (by decide) (eM_15 g ad S4) (by decide) (by subst eS5; rfl) (by subst eS5; exact fun i hi => ent_offu hi) dX10_swing_50 (fun H locs X => ?_)
  refine lv_iconst (v := (1 : Int32)) hx hb dX10_swing_51 (by decide) ?_
  refine lv_istore_n (lv' := [(1, .int ((1 : Int32))), (0, .ref (ad 0))]) hx hb dX10_swing_52 rfl hl (by decide) rfl (fun ls hl => ?_)
  exact kl_X10_swing_53 C _ h X (lv_sub hl [1, 0] rfl) 

def rmX10_handsX : Room := { frames := 2, cells := 0, slots := 0, locals := 44 }
def f_X10_handsX (a1 : Int32) (S : ST) : Option Int32 :=
  chk (ib a1 201) (bn1 (f_X10_sineOf ((S.1 12 a1.toNatClampNeg) / ((100 : Int32)))) fun r2 => some (((S.1 0 21) * r2) / ((1000 : Int32))))
set_option maxHeartbeats 4000000 in
set_option maxRecDepth 100000 in
theorem c_X10_handsX (l : Launch) (g : GG) (ad : Nat → Nat) (S : ST) (sz : Nat) (a1 : Int32)  {res : Int32} (h : f_X10_handsX a1 S = some res) : Met l yX10_handsX (WS (.code yX10_handsX cX10_handsX 2 (some Jvm.ClassFile.FieldType.int))) rmX10_handsX (va_Pc [.ref (ad 0), .int a1] (PW kM g ad S sz)) (QI kM g ad (res, S) (AA kM ad sz)) 0 0 (AA kM ad sz) := by
  refine go_m (Qc := fun A => QI kM g ad (res, S) A) (by decide) (Nat.le_of_ble_eq_true rfl) (fun p e s m below meth c ls H locs C X hl => ?_)
  have hx := C.1.1
  have hb := C.1.2.1
  have hl : lv_has ls 2 [(0, .ref (ad 0)), (1, .int a1)] := hl
  have h : (chk (ib a1 201) (bn1 (f_X10_sineOf ((S.1 12 a1.toNatClampNeg) / ((100 : Int32)))) fun r2 => some (((S.1 0 21) * r2) / ((1000 : Int32)))) : Option Int32) = some res := h
  refine lv_aload_n hx hb dX10_handsX_0 rfl (lv_at hl 0 rfl) ?_
  refine g_get C X inT10 0 (by decide) (eM_0 g ad S) rfl 21 (by decide) wd_1027 (v := .int (S.1 0 21)) rfl dX10_handsX_1 ?_
  refine lv_aload_n hx hb dX10_handsX_4 rfl (lv_at hl 0 rfl) ?_
  refine g_get C X inT10 0 (by decide) (eM_0 g ad S) rfl 29 (by decide) wd_1035 (v := .ref (ad 12)) rfl dX10_handsX_5 ?_
  refine lv_iload_n hx hb dX10_handsX_8 rfl (lv_at hl 1 rfl) ?_
  obtain ⟨k1, h⟩ := chk_s h
  refine g_iald C X 12 (by decide) (eM_12 g ad S) k1 dX10_handsX_9 ?_
  refine lv_bipush (v := (100 : Int32)) hx hb dX10_handsX_10 (by decide) ?_
  refine lv_idiv hx hb dX10_handsX_12 (by decide) ?_
  obtain ⟨r2, qr2, h⟩ := bn1_s h
  refine kc_i X (res := (r2, S)) (rS (As := [.int ((S.1 12 a1.toNatClampNeg) / ((100 : Int32)))]) (rest := [.int (S.1 0 21)]) (n := 1) C X (c_X10_sineOf l g ad S _ ((S.1 12 a1.toNatClampNeg) / ((100 : Int32)))  qr2) wd_1292 wd_1293 wd_83 wd_1294 rfl rfl (by decide +kernel) ⟨Nat.le_of_ble_eq_true rfl, Nat.le_of_ble_eq_true rfl⟩ rfl hl.1 (lv_room (Nat.le_of_ble_eq_true rfl)) dX10_handsX_13) (fun H locs X => ?_)
  refine lv_imul hx hb dX10_handsX_16 ?_
  refine lv_sipush (v := (1000 : Int32)) hx hb dX10_handsX_17 (by decide) ?_
  refine lv_idiv hx hb dX10_handsX_20 (by decide) ?_
  exact rt_i C X rfl (congrArg (fun z => (z, S)) (Option.some.inj h)) dX10_handsX_21

def rmX10_handsHeight : Room := { frames := 3, cells := 0, slots := 0, locals := 64 }
def f_X10_handsHeight (a1 : Int32) (S : ST) : Option Int32 :=
  chk (ib a1 201) (bn1 (f_X10_cosineOf ((S.1 12 a1.toNatClampNeg) / ((100 : Int32)))) fun r2 => some ((S.1 1 ((0 : Int32)).toNatClampNeg) - (((S.1 0 21) * r2) / ((1000 : Int32)))))
set_option maxHeartbeats 4000000 in
set_option maxRecDepth 100000 in
theorem c_X10_handsHeight (l : Launch) (g : GG) (ad : Nat → Nat) (S : ST) (sz : Nat) (a1 : Int32)  {res : Int32} (h : f_X10_handsHeight a1 S = some res) : Met l yX10_handsHeight (WS (.code yX10_handsHeight cX10_handsHeight 2 (some Jvm.ClassFile.FieldType.int))) rmX10_handsHeight (va_Pc [.ref (ad 0), .int a1] (PW kM g ad S sz)) (QI kM g ad (res, S) (AA kM ad sz)) 0 0 (AA kM ad sz) := by
  refine go_m (Qc := fun A => QI kM g ad (res, S) A) (by decide) (Nat.le_of_ble_eq_true rfl) (fun p e s m below meth c ls H locs C X hl => ?_)
  have hx := C.1.1
  have hb := C.1.2.1
  have hl : lv_has ls 2 [(0, .ref (ad 0)), (1, .int a1)] := hl
  have h : (chk (ib a1 201) (bn1 (f_X10_cosineOf ((S.1 12 a1.toNatClampNeg) / ((100 : Int32)))) fun r2 => some ((S.1 1 ((0 : Int32)).toNatClampNeg) - (((S.1 0 21) * r2) / ((1000 : Int32))))) : Option Int32) = some res := h
  refine lv_aload_n hx hb dX10_handsHeight_0 rfl (lv_at hl 0 rfl) ?_
  refine g_get C X inT10 0 (by decide) (eM_0 g ad S) rfl 0 (by decide) wd_1006 (v := .ref (ad 1)) rfl dX10_handsHeight_1 ?_
  refine lv_iconst (v := (0 : Int32)) hx hb dX10_handsHeight_4 (by decide) ?_
  refine g_iald C X 1 (by decide) (eM_1 g ad S) (by decide) dX10_handsHeight_5 ?_
  refine lv_aload_n hx hb dX10_handsHeight_6 rfl (lv_at hl 0 rfl) ?_
  refine g_get C X inT10 0 (by decide) (eM_0 g ad S) rfl 21 (by decide) wd_1027 (v := .int (S.1 0 21)) rfl dX10_handsHeight_7 ?_
  refine lv_aload_n hx hb dX10_handsHeight_10 rfl (lv_at hl 0 rfl) ?_
  refine g_get C X inT10 0 (by decide) (eM_0 g ad S) rfl 29 (by decide) wd_1035 (v := .ref (ad 12)) rfl dX10_handsHeight_11 ?_
  refine lv_iload_n hx hb dX10_handsHeight_14 rfl (lv_at hl 1 rfl) ?_
  obtain ⟨k1, h⟩ := chk_s h
  refine g_iald C X 12 (by decide) (eM_12 g ad S) k1 dX10_handsHeight_15 ?_
  refine lv_bipush (v := (100 : Int32)) hx hb dX10_handsHeight_16 (by decide) ?_
  refine lv_idiv hx hb dX10_handsHeight_18 (by decide) ?_
  obtain ⟨r2, qr2, h⟩ := bn1_s h
  refine kc_i X (res := (r2, S)) (rS (As := [.int ((S.1 12 a1.toNatClampNeg) / ((100 : Int32)))]) (rest := [.int (S.1 0 21), .int (S.1 1 ((0 : Int32)).toNatClampNeg)]) (n := 1) C X (c_X10_cosineOf l g ad S _ ((S.1 12 a1.toNatClampNeg) / ((100 : Int32)))  qr2) wd_1322 wd_1323 wd_83 wd_1324 rfl rfl (by decide +kernel) ⟨Nat.le_of_ble_eq_true rfl, Nat.le_of_ble_eq_true rfl⟩ rfl hl.1 (lv_room (Nat.le_of_ble_eq_true rfl)) dX10_handsHeight_19) (fun H locs X => ?_)
  refine lv_imul hx hb dX10_handsHeight_22 ?_
  refine lv_sipush (v := (1000 : Int32)) hx hb dX10_handsHeight_23 (by decide) ?_
  refine lv_idiv hx hb dX10_handsHeight_26 (by decide) ?_
  refine lv_isub hx hb dX10_handsHeight_27 ?_
  exact rt_i C X rfl (congrArg (fun z => (z, S)) (Option.some.inj h)) dX10_handsHeight_28

def rmX10_holds : Room := { frames := 5, cells := 0, slots := 0, locals := 110 }
def f_X10_holds (a1 : Int32) (a2 : Int32) (a3 : Int32) (S : ST) : Option (Int32 × ST) :=
  bn1 (f_X10_isSwinger a1 S) fun r1 => if r1 = 0 then (some ((-1000000001 : Int32), S)) else (bn1 (f_X10_in (a2.toInt64) ((0 : Int64)) ((200 : Int64))) fun r3 => if r3 = 0 then (some ((-1000000002 : Int32), S)) else (bn1 (f_X10_in (a3.toInt64) ((0 : Int64)) ((5 : Int64))) fun r5 => if r5 = 0 then (some ((-1000000002 : Int32), S)) else (bn1 (f_X10_useHand S) fun S7 => bn1 (f_X10_usePerson a1 S7) fun S8 => bn1 (f_X10_swing S8) fun S9 => if a3 = (0 : Int32) then (chk (ib a2 201) (some (S9.1 12 a2.toNatClampNeg, S9))) else (if a3 = (1 : Int32) then (chk (ib a2 201) (some (S9.1 13 a2.toNatClampNeg, S9))) else (if a3 = (2 : Int32) then (bn1 (f_X10_handsX a2 S9) fun r15 => some (r15, S9)) else (if a3 = (3 : Int32) then (bn1 (f_X10_handsHeight a2 S9) fun r17 => some (r17, S9)) else (if a3 = (4 : Int32) then (chk (ib a2 201) (some (S9.1 14 a2.toNatClampNeg, S9))) else (chk (ib a2 201) (some (S9.1 15 a2.toNatClampNeg, S9))))))))))
set_option maxHeartbeats 4000000 in
set_option maxRecDepth 100000 in
theorem c_X10_holds (l : Launch) (g : GG) (ad : Nat → Nat) (S : ST) (sz : Nat) (a1 : Int32) (a2 : Int32) (a3 : Int32)  {res : (Int32 × ST)} (h : f_X10_holds a1 a2 a3 S = some res) : Met l yX10_holds (WS (.code yX10_holds cX10_holds 4 (some Jvm.ClassFile.FieldType.int))) rmX10_holds (va_Pc [.ref (ad 0), .int a1, .int a2, .int a3] (PW kM g ad S sz)) (QI kM g ad res (AA kM ad sz)) 0 0 (AA kM ad sz) := by
  refine go_m (Qc := fun A => QI kM g ad res A) (by decide) (Nat.le_of_ble_eq_true rfl) (fun p e s m below meth c ls H locs C X hl => ?_)
  have hx := C.1.1
  have hb := C.1.2.1
  have hl : lv_has ls 4 [(0, .ref (ad 0)), (1, .int a1), (2, .int a2), (3, .int a3)] := hl
  have h : (bn1 (f_X10_isSwinger a1 S) fun r1 => if r1 = 0 then (some ((-1000000001 : Int32), S)) else (bn1 (f_X10_in (a2.toInt64) ((0 : Int64)) ((200 : Int64))) fun r3 => if r3 = 0 then (some ((-1000000002 : Int32), S)) else (bn1 (f_X10_in (a3.toInt64) ((0 : Int64)) ((5 : Int64))) fun r5 => if r5 = 0 then (some ((-1000000002 : Int32), S)) else (bn1 (f_X10_useHand S) fun S7 => bn1 (f_X10_usePerson a1 S7) fun S8 => bn1 (f_X10_swing S8) fun S9 => if a3 = (0 : Int32) then (chk (ib a2 201) (some (S9.1 12 a2.toNatClampNeg, S9))) else (if a3 = (1 : Int32) then (chk (ib a2 201) (some (S9.1 13 a2.toNatClampNeg, S9))) else (if a3 = (2 : Int32) then (bn1 (f_X10_handsX a2 S9) fun r15 => some (r15, S9)) else (if a3 = (3 : Int32) then (bn1 (f_X10_handsHeight a2 S9) fun r17 => some (r17, S9)) else (if a3 = (4 : Int32) then (chk (ib a2 201) (some (S9.1 14 a2.toNatClampNeg, S9))) else (chk (ib a2 201) (some (S9.1 15 a2.toNatClampNeg, S9)))))))))) : Option (Int32 × ST)) = some res := h
  refine lv_aload_n hx hb dX10_holds_0 rfl (lv_at hl 0 rfl) ?_
  refine lv_iload_n hx hb dX10_holds_1 rfl (lv_at hl 1 rfl) ?_
  obtain ⟨r1, qr1, h⟩ := bn1_s h
  refine kc_i X (res := (r1, S)) (rV (As := [.int a1]) (rest := []) (n := 1) (k := 0) C X (c_X10_isSwinger l g ad S _ a1  qr1) wd_1266 wd_1268 wd_47 wd_83 wd_1269 (by decide) (eM_0 g ad S) rfl rfl rfl (by decide +kernel) ⟨Nat.le_of_ble_eq_true rfl, Nat.le_of_ble_eq_true rfl⟩ rfl hl.1 (lv_room (Nat.le_of_ble_eq_true rfl)) dX10_holds_2) (fun H locs X => ?_)
  refine lv_if_ne (tgt := 11) hx hb dX10_holds_5 (by decide) (fun c2 => ?_) (fun c2 => ?_)
  · have h := inn h c2
    refine lv_iload_n hx hb dX10_holds_11 rfl (lv_at hl 2 rfl) ?_
    refine lv_i2l hx hb dX10_holds_12 rfl ?_
    refine lv_lconst (v := (0 : Int64)) hx hb dX10_holds_13 (by decide) ?_
    refine lv_ldc2 (v := (200 : Int64)) hx hb C.1.2.2.2.2.2.1 (C.1.2.2.2.2.2.2 _ (ws_in wd_1304)) dX10_holds_14 ?_
    obtain ⟨r3, qr3, h⟩ := bn1_s h
    refine kc_i X (res := (r3, S)) (rS (As := [.long (a2.toInt64), .long ((0 : Int64)), .long ((200 : Int64))]) (rest := []) (n := 3) C X (c_X10_in l g ad S _ (a2.toInt64) ((0 : Int64)) ((200 : Int64))  qr3) wd_1151 wd_1152 wd_83 wd_1153 rfl rfl (by decide +kernel) ⟨Nat.le_of_ble_eq_true rfl, Nat.le_of_ble_eq_true rfl⟩ rfl hl.1 (lv_room (Nat.le_of_ble_eq_true rfl)) dX10_holds_17) (fun H locs X => ?_)
    refine lv_if_eq (tgt := 35) hx hb dX10_holds_20 (by decide) (fun c4 => ?_) (fun c4 => ?_)
    · have h := ip h c4
      refine lv_ldc (v := (-1000000002 : Int32)) hx hb C.1.2.2.2.2.2.1 (C.1.2.2.2.2.2.2 _ (ws_in wd_1154)) dX10_holds_35 ?_
      exact rt_i C X rfl (Option.some.inj h) dX10_holds_37
    · have h := inn h c4
      refine lv_iload_n hx hb dX10_holds_23 rfl (lv_at hl 3 rfl) ?_
      refine lv_i2l hx hb dX10_holds_24 rfl ?_
      refine lv_lconst (v := (0 : Int64)) hx hb dX10_holds_25 (by decide) ?_
      refine lv_ldc2 (v := (5 : Int64)) hx hb C.1.2.2.2.2.2.1 (C.1.2.2.2.2.2.2 _ (ws_in wd_1305)) dX10_holds_26 ?_
      obtain ⟨r5, qr5, h⟩ := bn1_s h
      refine kc_i X (res := (r5, S)) (rS (As := [.long (a3.toInt64), .long ((0 : Int64)), .long ((5 : Int64))]) (rest := []) (n := 3) C X (c_X10_in l g ad S _ (a3.toInt64) ((0 : Int64)) ((5 : Int64))  qr5) wd_1151 wd_1152 wd_83 wd_1153 rfl rfl (by decide +kernel) ⟨Nat.le_of_ble_eq_true rfl, Nat.le_of_ble_eq_true rfl⟩ rfl hl.1 (lv_room (Nat.le_of_ble_eq_true rfl)) dX10_holds_29) (fun H locs X => ?_)
      refine lv_if_ne (tgt := 38) hx hb dX10_holds_32 (by decide) (fun c6 => ?_) (fun c6 => ?_)
      · have h := inn h c6
        refine lv_aload_n hx hb dX10_holds_38 rfl (lv_at hl 0 rfl) ?_
        obtain ⟨S7, qS7, h⟩ := bn1_s h
        refine kc_v X (res := S7) (rV (As := []) (rest := []) (n := 0) (k := 0) C X (c_X10_useHand l g ad S _   qS7) wd_1306 wd_1308 wd_49 wd_83 wd_1309 (by decide) (eM_0 g ad S) rfl rfl rfl (by decide +kernel) ⟨Nat.le_of_ble_eq_true rfl, Nat.le_of_ble_eq_true rfl⟩ rfl hl.1 (lv_room (Nat.le_of_ble_eq_true rfl)) dX10_holds_39) (fun H locs X => ?_)
        refine lv_aload_n hx hb dX10_holds_42 rfl (lv_at hl 0 rfl) ?_
        refine lv_iload_n hx hb dX10_holds_43 rfl (lv_at hl 1 rfl) ?_
        obtain ⟨S8, qS8, h⟩ := bn1_s h
        refine kc_v X (res := S8) (rV (As := [.int a1]) (rest := []) (n := 1) (k := 0) C X (c_X10_usePerson l g ad S7 _ a1  qS8) wd_1310 wd_1312 wd_50 wd_83 wd_1313 (by decide) (eM_0 g ad S7) rfl rfl rfl (by decide +kernel) ⟨Nat.le_of_ble_eq_true rfl, Nat.le_of_ble_eq_true rfl⟩ rfl hl.1 (lv_room (Nat.le_of_ble_eq_true rfl)) dX10_holds_44) (fun H locs X => ?_)
        refine lv_aload_n hx hb dX10_holds_47 rfl (lv_at hl 0 rfl) ?_
        obtain ⟨S9, qS9, h⟩ := bn1_s h
        refine kc_v X (res := S9) (rV (As := []) (rest := []) (n := 0) (k := 0) C X (c_X10_swing l g ad S8 _   qS9) wd_1314 wd_1316 wd_51 wd_83 wd_1317 (by decide) (eM_0 g ad S8) rfl rfl rfl (by decide +kernel) ⟨Nat.le_of_ble_eq_true rfl, Nat.le_of_ble_eq_true rfl⟩ rfl hl.1 (lv_room (Nat.le_of_ble_eq_true rfl)) dX10_holds_48) (fun H locs X => ?_)
        refine lv_iload_n hx hb dX10_holds_51 rfl (lv_at hl 3 rfl) ?_
        by_cases t10 : a3 = (0 : Int32)
        · have h := ip h t10
          refine lv_tableIn (tgt := 88) (off := 36) hx hb dX10_holds_52 (by rw [t10]; decide) (by rw [t10]; decide) (by rw [t10]; rfl) (by decide) ?_
          refine lv_aload_n hx hb dX10_holds_88 rfl (lv_at hl 0 rfl) ?_
          refine g_get C X inT10 0 (by decide) (eM_0 g ad S9) rfl 29 (by decide) wd_1035 (v := .ref (ad 12)) rfl dX10_holds_89 ?_
          refine lv_iload_n hx hb dX10_holds_92 rfl (lv_at hl 2 rfl) ?_
          obtain ⟨k11, h⟩ := chk_s h
          refine g_iald C X 12 (by decide) (eM_12 g ad S9) k11 dX10_holds_93 ?_
          exact rt_i C X rfl (Option.some.inj h) dX10_holds_94
        have h := inn h t10
        by_cases t12 : a3 = (1 : Int32)
        · have h := ip h t12
          refine lv_tableIn (tgt := 95) (off := 43) hx hb dX10_holds_52 (by rw [t12]; decide) (by rw [t12]; decide) (by rw [t12]; rfl) (by decide) ?_
          refine lv_aload_n hx hb dX10_holds_95 rfl (lv_at hl 0 rfl) ?_
          refine g_get C X inT10 0 (by decide) (eM_0 g ad S9) rfl 30 (by decide) wd_1036 (v := .ref (ad 13)) rfl dX10_holds_96 ?_
          refine lv_iload_n hx hb dX10_holds_99 rfl (lv_at hl 2 rfl) ?_
          obtain ⟨k13, h⟩ := chk_s h
          refine g_iald C X 13 (by decide) (eM_13 g ad S9) k13 dX10_holds_100 ?_
          exact rt_i C X rfl (Option.some.inj h) dX10_holds_101
        have h := inn h t12
        by_cases t14 : a3 = (2 : Int32)
        · have h := ip h t14
          refine lv_tableIn (tgt := 102) (off := 50) hx hb dX10_holds_52 (by rw [t14]; decide) (by rw [t14]; decide) (by rw [t14]; rfl) (by decide) ?_
          refine lv_aload_n hx hb dX10_holds_102 rfl (lv_at hl 0 rfl) ?_
          refine lv_iload_n hx hb dX10_holds_103 rfl (lv_at hl 2 rfl) ?_
          obtain ⟨r15, qr15, h⟩ := bn1_s h
          refine kc_i X (res := (r15, S9)) (rV (As := [.int a2]) (rest := []) (n := 1) (k := 0) C X (c_X10_handsX l g ad S9 _ a2  qr15) wd_1327 wd_1329 wd_53 wd_83 wd_1330 (by decide) (eM_0 g ad S9) rfl rfl rfl (by decide +kernel) ⟨Nat.le_of_ble_eq_true rfl, Nat.le_of_ble_eq_true rfl⟩ rfl hl.1 (lv_room (Nat.le_of_ble_eq_true rfl)) dX10_holds_104) (fun H locs X => ?_)
          exact rt_i C X rfl (Option.some.inj h) dX10_holds_107
        have h := inn h t14
        by_cases t16 : a3 = (3 : Int32)
        · have h := ip h t16
          refine lv_tableIn (tgt := 108) (off := 56) hx hb dX10_holds_52 (by rw [t16]; decide) (by rw [t16]; decide) (by rw [t16]; rfl) (by decide) ?_
          refine lv_aload_n hx hb dX10_holds_108 rfl (lv_at hl 0 rfl) ?_
          refine lv_iload_n hx hb dX10_holds_109 rfl (lv_at hl 2 rfl) ?_
          obtain ⟨r17, qr17, h⟩ := bn1_s h
          refine kc_i X (res := (r17, S9)) (rV (As := [.int a2]) (rest := []) (n := 1) (k := 0) C X (c_X10_handsHeight l g ad S9 _ a2  qr17) wd_1331 wd_1333 wd_54 wd_83 wd_1334 (by decide) (eM_0 g ad S9) rfl rfl rfl (by decide +kernel) ⟨Nat.le_of_ble_eq_true rfl, Nat.le_of_ble_eq_true rfl⟩ rfl hl.1 (lv_room (Nat.le_of_ble_eq_true rfl)) dX10_holds_110) (fun H locs X => ?_)
          exact rt_i C X rfl (Option.some.inj h) dX10_holds_113
        have h := inn h t16
        by_cases t18 : a3 = (4 : Int32)
        · have h := ip h t18
          refine lv_tableIn (tgt := 114) (off := 62) hx hb dX10_holds_52 (by rw [t18]; decide) (by rw [t18]; decide) (by rw [t18]; rfl) (by decide) ?_
          refine lv_aload_n hx hb dX10_holds_114 rfl (lv_at hl 0 rfl) ?_
          refine g_get C X inT10 0 (by decide) (eM_0 g ad S9) rfl 31 (by decide) wd_1037 (v := .ref (ad 14)) rfl dX10_holds_115 ?_
          refine lv_iload_n hx hb dX10_holds_118 rfl (lv_at hl 2 rfl) ?_
          obtain ⟨k19, h⟩ := chk_s h
          refine g_iald C X 14 (by decide) (eM_14 g ad S9) k19 dX10_holds_119 ?_
          exact rt_i C X rfl (Option.some.inj h) dX10_holds_120
        have h := inn h t18
        refine lv_tableOut (tgt := 121) hx hb dX10_holds_52 (tb_out (fun z z1 z2 ze => ?_)) (by decide) ?_
        · rcases (show z = 0 ∨ z = 1 ∨ z = 2 ∨ z = 3 ∨ z = 4 by omega) with rfl | rfl | rfl | rfl | rfl
          · exact t10 (Int32.toInt_inj.mp (ze.trans (by decide)))
          · exact t12 (Int32.toInt_inj.mp (ze.trans (by decide)))
          · exact t14 (Int32.toInt_inj.mp (ze.trans (by decide)))
          · exact t16 (Int32.toInt_inj.mp (ze.trans (by decide)))
          · exact t18 (Int32.toInt_inj.mp (ze.trans (by decide)))
        refine lv_aload_n hx hb dX10_holds_121 rfl (lv_at hl 0 rfl) ?_
        refine g_get C X inT10 0 (by decide) (eM_0 g ad S9) rfl 32 (by decide) wd_1038 (v := .ref (ad 15)) rfl dX10_holds_122 ?_
        refine lv_iload_n hx hb dX10_holds_125 rfl (lv_at hl 2 rfl) ?_
        obtain ⟨k20, h⟩ := chk_s h
        refine g_iald C X 15 (by decide) (eM_15 g ad S9) k20 dX10_holds_126 ?_
        exact rt_i C X rfl (Option.some.inj h) dX10_holds_127
      · have h := ip h c6
        refine lv_ldc (v := (-1000000002 : Int32)) hx hb C.1.2.2.2.2.2.1 (C.1.2.2.2.2.2.2 _ (ws_in wd_1154)) dX10_holds_35 ?_
        exact rt_i C X rfl (Option.some.inj h) dX10_holds_37
  · have h := ip h c2
    refine lv_ldc (v := (-1000000001 : Int32)) hx hb C.1.2.2.2.2.2.1 (C.1.2.2.2.2.2.2 _ (ws_in wd_1249)) dX10_holds_8 ?_
    exact rt_i C X rfl (Option.some.inj h) dX10_holds_10

def rmX10_cellOf : Room := { frames := 0, cells := 0, slots := 0, locals := 0 }
def b_X10_cellOf_19  (v1 : Int32) : Option Int32 :=
  if v1 ≤ ((23 : Int32)) then (some v1) else (some ((23 : Int32)))
def f_X10_cellOf (a1 : Int32) : Option Int32 :=
  if ((-300 : Int32)) ≤ a1 then (b_X10_cellOf_19 ((a1 + ((300 : Int32))) / ((50 : Int32)))) else (b_X10_cellOf_19 ((0 : Int32)))
set_option maxHeartbeats 4000000 in
set_option maxRecDepth 100000 in
theorem kb_X10_cellOf_19 {p : Program} {l : Launch} {e : Env} {s : State} {m : MethodId} {args : Array Value} {below : List Frame} {meth : Method} {c : Code} {g : GG} {ad : Nat → Nat} {res : Int32} {S : ST} (C : CX kM g ad p s m args meth c cX10_cellOf (some Jvm.ClassFile.FieldType.int) 2 yX10_cellOf.cls (.code yX10_cellOf cX10_cellOf 2 (some Jvm.ClassFile.FieldType.int)))  {v1 : Int32}  {H : Heap} {locs : List Loc} {ls : Array Slot} (h : b_X10_cellOf_19 v1 = some res) (X : WX kM g ad s S H locs) (hl : lv_has ls 2 [])  : W p l e rmX10_cellOf s m args below meth c H locs 0 0 (MQ below (QI kM g ad (res, S) (AA kM ad s.heap.size)) args s 0 0 (AA kM ad s.heap.size)) (F0 m 19 ls [.int v1]) := by
  have hx := C.1.1
  have hb := C.1.2.1
  have h : (if v1 ≤ ((23 : Int32)) then (some v1) else (some ((23 : Int32))) : Option Int32) = some res := h
  refine lv_istore_n (lv' := [(1, .int v1)]) hx hb dX10_cellOf_19 rfl hl (by decide) rfl (fun ls hl => ?_)
  refine lv_iload_n hx hb dX10_cellOf_20 rfl (lv_at hl 0 rfl) ?_
  refine lv_bipush (v := (23 : Int32)) hx hb dX10_cellOf_21 (by decide) ?_
  refine lv_icmp_le (tgt := 31) hx hb dX10_cellOf_23 (by decide) (fun c2 => ?_) (fun c2 => ?_)
  · have h := ip h c2
    refine lv_iload_n hx hb dX10_cellOf_31 rfl (lv_at hl 0 rfl) ?_
    exact rt_i C X rfl (congrArg (fun z => (z, S)) (Option.some.inj h)) dX10_cellOf_32
  · have h := inn h c2
    refine lv_bipush (v := (23 : Int32)) hx hb dX10_cellOf_26 (by decide) ?_
    refine lv_goto (tgt := 32) hx hb dX10_cellOf_28 (by decide) ?_
    exact rt_i C X rfl (congrArg (fun z => (z, S)) (Option.some.inj h)) dX10_cellOf_32
set_option maxHeartbeats 4000000 in
set_option maxRecDepth 100000 in
theorem c_X10_cellOf (l : Launch) (g : GG) (ad : Nat → Nat) (S : ST) (sz : Nat) (a1 : Int32)  {res : Int32} (h : f_X10_cellOf a1 = some res) : Met l yX10_cellOf (WS (.code yX10_cellOf cX10_cellOf 2 (some Jvm.ClassFile.FieldType.int))) rmX10_cellOf (va_Pc [.int a1] (PW kM g ad S sz)) (QI kM g ad (res, S) (AA kM ad sz)) 0 0 (AA kM ad sz) := by
  refine go_m (Qc := fun A => QI kM g ad (res, S) A) (by decide) (Nat.le_of_ble_eq_true rfl) (fun p e s m below meth c ls H locs C X hl => ?_)
  have hx := C.1.1
  have hb := C.1.2.1
  have hl : lv_has ls 2 [(0, .int a1)] := hl
  have h : (if ((-300 : Int32)) ≤ a1 then (b_X10_cellOf_19 ((a1 + ((300 : Int32))) / ((50 : Int32)))) else (b_X10_cellOf_19 ((0 : Int32))) : Option Int32) = some res := h
  refine lv_iload_n hx hb dX10_cellOf_0 rfl (lv_at hl 0 rfl) ?_
  refine lv_sipush (v := (-300 : Int32)) hx hb dX10_cellOf_1 (by decide) ?_
  refine lv_icmp_ge (tgt := 11) hx hb dX10_cellOf_4 (by decide) (fun c1 => ?_) (fun c1 => ?_)
  · have h := ip h c1
    refine lv_iload_n hx hb dX10_cellOf_11 rfl (lv_at hl 0 rfl) ?_
    refine lv_sipush (v := (300 : Int32)) hx hb dX10_cellOf_12 (by decide) ?_
    refine lv_iadd hx hb dX10_cellOf_15 ?_
    refine lv_bipush (v := (50 : Int32)) hx hb dX10_cellOf_16 (by decide) ?_
    refine lv_idiv hx hb dX10_cellOf_18 (by decide) ?_
    exact kb_X10_cellOf_19 C h X (lv_sub hl [] rfl) 
  · have h := inn h c1
    refine lv_iconst (v := (0 : Int32)) hx hb dX10_cellOf_7 (by decide) ?_
    refine lv_goto (tgt := 19) hx hb dX10_cellOf_8 (by decide) ?_
    exact kb_X10_cellOf_19 C h X (lv_sub hl [] rfl) 

def rmX10_isDown : Room := { frames := 1, cells := 0, slots := 0, locals := 21 }
def b_X10_isDown_35 (S : ST)  (v1 : Int64) (v2 : Int64) : Option Int32 :=
  if 0 < (lg_cmp v2 v1) then (some ((0 : Int32))) else (some ((1 : Int32)))
def f_X10_isDown (a1 : Int64) (a2 : Int64) (S : ST) : Option Int32 :=
  bn1 (f_X10_cellOf ((a1 / ((100 : Int64))).toInt32)) fun r1 => bn1 (f_X10_kindOf r1 S) fun r2 => if r2 = ((2 : Int32)) then (b_X10_isDown_35 S ((0 : Int64)) a2) else (bn1 (f_X10_lower S) fun r4 => b_X10_isDown_35 S (((-100 : Int64)) * (r4.toInt64)) a2)
set_option maxHeartbeats 4000000 in
set_option maxRecDepth 100000 in
theorem kb_X10_isDown_35 {p : Program} {l : Launch} {e : Env} {s : State} {m : MethodId} {args : Array Value} {below : List Frame} {meth : Method} {c : Code} {g : GG} {ad : Nat → Nat} {res : Int32} {S : ST} (C : CX kM g ad p s m args meth c cX10_isDown (some Jvm.ClassFile.FieldType.boolean) 6 yX10_isDown.cls (.code yX10_isDown cX10_isDown 6 (some Jvm.ClassFile.FieldType.boolean)))  {v1 : Int64} {v2 : Int64}  {H : Heap} {locs : List Loc} {ls : Array Slot} (h : b_X10_isDown_35 S v1 v2 = some res) (X : WX kM g ad s S H locs) (hl : lv_has ls 6 [])  : W p l e rmX10_isDown s m args below meth c H locs 0 0 (MQ below (QI kM g ad (res, S) (AA kM ad s.heap.size)) args s 0 0 (AA kM ad s.heap.size)) (F0 m 35 ls [.long v1, .long v2]) := by
  have hx := C.1.1
  have hb := C.1.2.1
  have h : (if 0 < (lg_cmp v2 v1) then (some ((0 : Int32))) else (some ((1 : Int32))) : Option Int32) = some res := h
  refine W.lcmp hx hb dX10_isDown_35 ?_
  refine lv_if_gt (tgt := 43) hx hb dX10_isDown_36 (by decide) (fun c5 => ?_) (fun c5 => ?_)
  · have h := ip h c5
    refine lv_iconst (v := (0 : Int32)) hx hb dX10_isDown_43 (by decide) ?_
    exact rt_z C X rfl (by decide) (congrArg (fun z => (z, S)) (Option.some.inj h)) dX10_isDown_44
  · have h := inn h c5
    refine lv_iconst (v := (1 : Int32)) hx hb dX10_isDown_39 (by decide) ?_
    refine lv_goto (tgt := 44) hx hb dX10_isDown_40 (by decide) ?_
    exact rt_z C X rfl (by decide) (congrArg (fun z => (z, S)) (Option.some.inj h)) dX10_isDown_44
set_option maxHeartbeats 4000000 in
set_option maxRecDepth 100000 in
theorem c_X10_isDown (l : Launch) (g : GG) (ad : Nat → Nat) (S : ST) (sz : Nat) (a1 : Int64) (a2 : Int64)  {res : Int32} (h : f_X10_isDown a1 a2 S = some res) : Met l yX10_isDown (WS (.code yX10_isDown cX10_isDown 6 (some Jvm.ClassFile.FieldType.boolean))) rmX10_isDown (va_Pc [.ref (ad 0), .long a1, .long a2] (PW kM g ad S sz)) (QI kM g ad (res, S) (AA kM ad sz)) 0 0 (AA kM ad sz) := by
  refine go_m (Qc := fun A => QI kM g ad (res, S) A) (by decide) (Nat.le_of_ble_eq_true rfl) (fun p e s m below meth c ls H locs C X hl => ?_)
  have hx := C.1.1
  have hb := C.1.2.1
  have hl : lv_has ls 6 [(0, .ref (ad 0)), (1, .long a1), (3, .long a2)] := hl
  have h : (bn1 (f_X10_cellOf ((a1 / ((100 : Int64))).toInt32)) fun r1 => bn1 (f_X10_kindOf r1 S) fun r2 => if r2 = ((2 : Int32)) then (b_X10_isDown_35 S ((0 : Int64)) a2) else (bn1 (f_X10_lower S) fun r4 => b_X10_isDown_35 S (((-100 : Int64)) * (r4.toInt64)) a2) : Option Int32) = some res := h
  refine lv_lload_n hx hb dX10_isDown_0 rfl (lv_at hl 1 rfl) ?_
  refine lv_ldc2 (v := (100 : Int64)) hx hb C.1.2.2.2.2.2.1 (C.1.2.2.2.2.2.2 _ (ws_in wd_1326)) dX10_isDown_1 ?_
  refine lv_ldiv hx hb dX10_isDown_4 (by decide) ?_
  refine lv_l2i hx hb dX10_isDown_5 rfl ?_
  obtain ⟨r1, qr1, h⟩ := bn1_s h
  refine kc_i X (res := (r1, S)) (rS (As := [.int ((a1 / ((100 : Int64))).toInt32)]) (rest := []) (n := 1) C X (c_X10_cellOf l g ad S _ ((a1 / ((100 : Int64))).toInt32)  qr1) wd_1354 wd_1355 wd_83 wd_1356 rfl rfl (by decide +kernel) ⟨Nat.le_of_ble_eq_true rfl, Nat.le_of_ble_eq_true rfl⟩ rfl hl.1 (lv_room (Nat.le_of_ble_eq_true rfl)) dX10_isDown_6) (fun H locs X => ?_)
  refine lv_istore (lv' := [(5, .int r1), (0, .ref (ad 0)), (1, .long a1), (3, .long a2)]) hx hb dX10_isDown_9 hl (by decide) rfl (fun ls hl => ?_)
  refine lv_lload_n hx hb dX10_isDown_11 rfl (lv_at hl 3 rfl) ?_
  refine lv_aload_n hx hb dX10_isDown_12 rfl (lv_at hl 1 rfl) ?_
  refine lv_iload hx hb dX10_isDown_13 (lv_at hl 0 rfl) ?_
  obtain ⟨r2, qr2, h⟩ := bn1_s h
  refine kc_i X (res := (r2, S)) (rV (As := [.int r1]) (rest := [.long a2]) (n := 1) (k := 0) C X (c_X10_kindOf l g ad S _ r1  qr2) wd_1258 wd_1260 wd_46 wd_83 wd_1261 (by decide) (eM_0 g ad S) rfl rfl rfl (by decide +kernel) ⟨Nat.le_of_ble_eq_true rfl, Nat.le_of_ble_eq_true rfl⟩ rfl hl.1 (lv_room (Nat.le_of_ble_eq_true rfl)) dX10_isDown_15) (fun H locs X => ?_)
  refine lv_iconst (v := (2 : Int32)) hx hb dX10_isDown_18 (by decide) ?_
  refine lv_icmp_ne (tgt := 26) hx hb dX10_isDown_19 (by decide) (fun c3 => ?_) (fun c3 => ?_)
  · have h := inn h c3
    refine lv_ldc2 (v := (-100 : Int64)) hx hb C.1.2.2.2.2.2.1 (C.1.2.2.2.2.2.2 _ (ws_in wd_1368)) dX10_isDown_26 ?_
    refine lv_aload_n hx hb dX10_isDown_29 rfl (lv_at hl 1 rfl) ?_
    obtain ⟨r4, qr4, h⟩ := bn1_s h
    refine kc_i X (res := (r4, S)) (rV (As := []) (rest := [.long ((-100 : Int64)), .long a2]) (n := 0) (k := 0) C X (c_X10_lower l g ad S _   qr4) wd_1254 wd_1256 wd_45 wd_83 wd_1257 (by decide) (eM_0 g ad S) rfl rfl rfl (by decide +kernel) ⟨Nat.le_of_ble_eq_true rfl, Nat.le_of_ble_eq_true rfl⟩ rfl hl.1 (lv_room (Nat.le_of_ble_eq_true rfl)) dX10_isDown_30) (fun H locs X => ?_)
    refine lv_i2l hx hb dX10_isDown_33 rfl ?_
    refine lv_lmul hx hb dX10_isDown_34 ?_
    exact kb_X10_isDown_35 C h X (lv_sub hl [] rfl) 
  · have h := ip h c3
    refine lv_lconst (v := (0 : Int64)) hx hb dX10_isDown_22 (by decide) ?_
    refine lv_goto (tgt := 35) hx hb dX10_isDown_23 (by decide) ?_
    exact kb_X10_isDown_35 C h X (lv_sub hl [] rfl) 

def rmX10_land : Room := { frames := 2, cells := 0, slots := 0, locals := 41 }
def b_X10_land_89  (v1 : Int32) (S : ST) : Option ST :=
  nm (su S 0 33 v1) fun S6 => some S6
def b_X10_land_66  (v2 : Int32) (v3 : Int32) (v4 : Int32) (S : ST) : Option ST :=
  if v2 = 0 then (if v3 = ((2 : Int32)) then (b_X10_land_89 ((1 : Int32)) S) else (b_X10_land_89 v4 S)) else (b_X10_land_89 ((5 : Int32)) S)
def b_X10_land_24  (v2 : Int32) (v3 : Int32) (v4 : Int32) (S : ST) : Option ST :=
  bn1 (f_X10_kindOf v2 S) fun r2 => if r2 = ((1 : Int32)) then (b_X10_land_66 v3 r2 ((3 : Int32)) S) else (bn1 (f_X10_depthOf v2 S) fun r7 => if (S.1 1 ((7 : Int32)).toNatClampNeg) ≤ r7 then (if v4 = 0 then (b_X10_land_66 v3 r2 ((4 : Int32)) S) else (b_X10_land_66 v3 r2 ((2 : Int32)) S)) else (b_X10_land_66 v3 r2 ((3 : Int32)) S))
def f_X10_land (a1 : Int32) (a2 : Int32) (S : ST) : Option ST :=
  if (S.1 0 38) ≤ ((30 : Int32)) then (b_X10_land_24 a1 a2 ((1 : Int32)) S) else (if (S.1 0 38) < ((330 : Int32)) then (b_X10_land_24 a1 a2 ((0 : Int32)) S) else (b_X10_land_24 a1 a2 ((1 : Int32)) S))
set_option maxHeartbeats 4000000 in
set_option maxRecDepth 100000 in
theorem kb_X10_land_89 {p : Program} {l : Launch} {e : Env} {s : State} {m : MethodId} {args : Array Value} {below : List Frame} {meth : Method} {c : Code} {g : GG} {ad : Nat → Nat} {res : ST} {S : ST} (C : CX kM g ad p s m args meth c cX10_land none 6 yX10_land.cls (.code yX10_land cX10_land 6 none))  {v1 : Int32}  {H : Heap} {locs : List Loc} {ls : Array Slot} (h : b_X10_land_89 v1 S = some res) (X : WX kM g ad s S H locs) (hl : lv_has ls 6 [])  : W p l e rmX10_land s m args below meth c H locs 0 0 (MQ below (QV kM g ad res (AA kM ad s.heap.size)) args s 0 0 (AA kM ad s.heap.size)) (F0 m 89 ls [.int v1, .ref (ad 0)]) := by
  have hx := C.1.1
  have hb := C.1.2.1
  have h : (nm (su S 0 33 v1) fun S6 => some S6 : Option ST) = some res := h
  obtain ⟨S6, eS6, h⟩ := nm_s h
  refine g_put (S' := S6) C X inT10 tyX10 tyX10_ok nmX10 0 (by decide) (eM_0 g ad S) rfl 33 (by decide) wd_1039 rfl (by rfl) rfl (Nat.le_of_ble_eq_true rfl) (by subst eS6; rfl) (by subst eS6; exact fun i hi => ent_offu hi) dX10_land_89 (fun H locs X => ?_)
  exact rt_v C X rfl (Option.some.inj h) dX10_land_92
set_option maxHeartbeats 4000000 in
set_option maxRecDepth 100000 in
theorem kb_X10_land_66 {p : Program} {l : Launch} {e : Env} {s : State} {m : MethodId} {args : Array Value} {below : List Frame} {meth : Method} {c : Code} {g : GG} {ad : Nat → Nat} {res : ST} {S : ST} (C : CX kM g ad p s m args meth c cX10_land none 6 yX10_land.cls (.code yX10_land cX10_land 6 none))  {v2 : Int32} {v3 : Int32} {v4 : Int32}  {H : Heap} {locs : List Loc} {ls : Array Slot} (h : b_X10_land_66 v2 v3 v4 S = some res) (X : WX kM g ad s S H locs) (hl : lv_has ls 6 [(0, .ref (ad 0)), (2, .int v2), (4, .int v3)])  : W p l e rmX10_land s m args below meth c H locs 0 0 (MQ below (QV kM g ad res (AA kM ad s.heap.size)) args s 0 0 (AA kM ad s.heap.size)) (F0 m 66 ls [.int v4]) := by
  have hx := C.1.1
  have hb := C.1.2.1
  have h : (if v2 = 0 then (if v3 = ((2 : Int32)) then (b_X10_land_89 ((1 : Int32)) S) else (b_X10_land_89 v4 S)) else (b_X10_land_89 ((5 : Int32)) S) : Option ST) = some res := h
  refine lv_istore (lv' := [(5, .int v4), (0, .ref (ad 0)), (2, .int v2), (4, .int v3)]) hx hb dX10_land_66 hl (by decide) rfl (fun ls hl => ?_)
  refine lv_aload_n hx hb dX10_land_68 rfl (lv_at hl 1 rfl) ?_
  refine lv_iload_n hx hb dX10_land_69 rfl (lv_at hl 2 rfl) ?_
  refine lv_if_eq (tgt := 77) hx hb dX10_land_70 (by decide) (fun c4 => ?_) (fun c4 => ?_)
  · have h := ip h c4
    refine lv_iload hx hb dX10_land_77 (lv_at hl 3 rfl) ?_
    refine lv_iconst (v := (2 : Int32)) hx hb dX10_land_79 (by decide) ?_
    refine lv_icmp_ne (tgt := 87) hx hb dX10_land_80 (by decide) (fun c5 => ?_) (fun c5 => ?_)
    · have h := inn h c5
      refine lv_iload hx hb dX10_land_87 (lv_at hl 0 rfl) ?_
      exact kb_X10_land_89 C h X (lv_sub hl [] rfl) 
    · have h := ip h c5
      refine lv_iconst (v := (1 : Int32)) hx hb dX10_land_83 (by decide) ?_
      refine lv_goto (tgt := 89) hx hb dX10_land_84 (by decide) ?_
      exact kb_X10_land_89 C h X (lv_sub hl [] rfl) 
  · have h := inn h c4
    refine lv_iconst (v := (5 : Int32)) hx hb dX10_land_73 (by decide) ?_
    refine lv_goto (tgt := 89) hx hb dX10_land_74 (by decide) ?_
    exact kb_X10_land_89 C h X (lv_sub hl [] rfl) 
set_option maxHeartbeats 4000000 in
set_option maxRecDepth 100000 in
theorem kb_X10_land_24 {p : Program} {l : Launch} {e : Env} {s : State} {m : MethodId} {args : Array Value} {below : List Frame} {meth : Method} {c : Code} {g : GG} {ad : Nat → Nat} {res : ST} {S : ST} (C : CX kM g ad p s m args meth c cX10_land none 6 yX10_land.cls (.code yX10_land cX10_land 6 none))  {v2 : Int32} {v3 : Int32} {v4 : Int32}  {H : Heap} {locs : List Loc} {ls : Array Slot} (h : b_X10_land_24 v2 v3 v4 S = some res) (X : WX kM g ad s S H locs) (hl : lv_has ls 6 [(0, .ref (ad 0)), (1, .int v2), (2, .int v3)])  : W p l e rmX10_land s m args below meth c H locs 0 0 (MQ below (QV kM g ad res (AA kM ad s.heap.size)) args s 0 0 (AA kM ad s.heap.size)) (F0 m 24 ls [.int v4]) := by
  have hx := C.1.1
  have hb := C.1.2.1
  have h : (bn1 (f_X10_kindOf v2 S) fun r2 => if r2 = ((1 : Int32)) then (b_X10_land_66 v3 r2 ((3 : Int32)) S) else (bn1 (f_X10_depthOf v2 S) fun r7 => if (S.1 1 ((7 : Int32)).toNatClampNeg) ≤ r7 then (if v4 = 0 then (b_X10_land_66 v3 r2 ((4 : Int32)) S) else (b_X10_land_66 v3 r2 ((2 : Int32)) S)) else (b_X10_land_66 v3 r2 ((3 : Int32)) S)) : Option ST) = some res := h
  refine lv_istore_n (lv' := [(3, .int v4), (0, .ref (ad 0)), (1, .int v2), (2, .int v3)]) hx hb dX10_land_24 rfl hl (by decide) rfl (fun ls hl => ?_)
  refine lv_aload_n hx hb dX10_land_25 rfl (lv_at hl 1 rfl) ?_
  refine lv_iload_n hx hb dX10_land_26 rfl (lv_at hl 2 rfl) ?_
  obtain ⟨r2, qr2, h⟩ := bn1_s h
  refine kc_i X (res := (r2, S)) (rV (As := [.int v2]) (rest := []) (n := 1) (k := 0) C X (c_X10_kindOf l g ad S _ v2  qr2) wd_1258 wd_1260 wd_46 wd_83 wd_1261 (by decide) (eM_0 g ad S) rfl rfl rfl (by decide +kernel) ⟨Nat.le_of_ble_eq_true rfl, Nat.le_of_ble_eq_true rfl⟩ rfl hl.1 (lv_room (Nat.le_of_ble_eq_true rfl)) dX10_land_27) (fun H locs X => ?_)
  refine lv_istore (lv' := [(4, .int r2), (3, .int v4), (0, .ref (ad 0)), (1, .int v2), (2, .int v3)]) hx hb dX10_land_30 hl (by decide) rfl (fun ls hl => ?_)
  refine lv_iload hx hb dX10_land_32 (lv_at hl 0 rfl) ?_
  refine lv_iconst (v := (1 : Int32)) hx hb dX10_land_34 (by decide) ?_
  refine lv_icmp_eq (tgt := 53) hx hb dX10_land_35 (by decide) (fun c3 => ?_) (fun c3 => ?_)
  · have h := ip h c3
    refine lv_iconst (v := (3 : Int32)) hx hb dX10_land_53 (by decide) ?_
    refine lv_goto (tgt := 66) hx hb dX10_land_54 (by decide) ?_
    exact kb_X10_land_66 C h X (lv_sub hl [2, 4, 0] rfl) 
  · have h := inn h c3
    refine lv_aload_n hx hb dX10_land_38 rfl (lv_at hl 2 rfl) ?_
    refine lv_iload_n hx hb dX10_land_39 rfl (lv_at hl 3 rfl) ?_
    obtain ⟨r7, qr7, h⟩ := bn1_s h
    refine kc_i X (res := (r7, S)) (rV (As := [.int v2]) (rest := []) (n := 1) (k := 0) C X (c_X10_depthOf l g ad S _ v2  qr7) wd_1250 wd_1252 wd_44 wd_83 wd_1253 (by decide) (eM_0 g ad S) rfl rfl rfl (by decide +kernel) ⟨Nat.le_of_ble_eq_true rfl, Nat.le_of_ble_eq_true rfl⟩ rfl hl.1 (lv_room (Nat.le_of_ble_eq_true rfl)) dX10_land_40) (fun H locs X => ?_)
    refine lv_aload_n hx hb dX10_land_43 rfl (lv_at hl 2 rfl) ?_
    refine g_get C X inT10 0 (by decide) (eM_0 g ad S) rfl 0 (by decide) wd_1006 (v := .ref (ad 1)) rfl dX10_land_44 ?_
    refine lv_bipush (v := (7 : Int32)) hx hb dX10_land_47 (by decide) ?_
    refine g_iald C X 1 (by decide) (eM_1 g ad S) (by decide) dX10_land_49 ?_
    refine lv_icmp_ge (tgt := 57) hx hb dX10_land_50 (by decide) (fun c8 => ?_) (fun c8 => ?_)
    · have h := ip h c8
      refine lv_iload_n hx hb dX10_land_57 rfl (lv_at hl 1 rfl) ?_
      refine lv_if_eq (tgt := 65) hx hb dX10_land_58 (by decide) (fun c9 => ?_) (fun c9 => ?_)
      · have h := ip h c9
        refine lv_iconst (v := (4 : Int32)) hx hb dX10_land_65 (by decide) ?_
        exact kb_X10_land_66 C h X (lv_sub hl [2, 4, 0] rfl) 
      · have h := inn h c9
        refine lv_iconst (v := (2 : Int32)) hx hb dX10_land_61 (by decide) ?_
        refine lv_goto (tgt := 66) hx hb dX10_land_62 (by decide) ?_
        exact kb_X10_land_66 C h X (lv_sub hl [2, 4, 0] rfl) 
    · have h := inn h c8
      refine lv_iconst (v := (3 : Int32)) hx hb dX10_land_53 (by decide) ?_
      refine lv_goto (tgt := 66) hx hb dX10_land_54 (by decide) ?_
      exact kb_X10_land_66 C h X (lv_sub hl [2, 4, 0] rfl) 
set_option maxHeartbeats 4000000 in
set_option maxRecDepth 100000 in
theorem c_X10_land (l : Launch) (g : GG) (ad : Nat → Nat) (S : ST) (sz : Nat) (a1 : Int32) (a2 : Int32)  {res : ST} (h : f_X10_land a1 a2 S = some res) : Met l yX10_land (WS (.code yX10_land cX10_land 6 none)) rmX10_land (va_Pc [.ref (ad 0), .int a1, .int a2] (PW kM g ad S sz)) (QV kM g ad res (AA kM ad sz)) 0 0 (AA kM ad sz) := by
  refine go_m (Qc := fun A => QV kM g ad res A) (by decide) (Nat.le_of_ble_eq_true rfl) (fun p e s m below meth c ls H locs C X hl => ?_)
  have hx := C.1.1
  have hb := C.1.2.1
  have hl : lv_has ls 6 [(0, .ref (ad 0)), (1, .int a1), (2, .int a2)] := hl
  have h : (if (S.1 0 38) ≤ ((30 : Int32)) then (b_X10_land_24 a1 a2 ((1 : Int32)) S) else (if (S.1 0 38) < ((330 : Int32)) then (b_X10_land_24 a1 a2 ((0 : Int32)) S) else (b_X10_land_24 a1 a2 ((1 : Int32)) S)) : Option ST) = some res := h
  refine lv_aload_n hx hb dX10_land_0 rfl (lv_at hl 0 rfl) ?_
  refine g_get C X inT10 0 (by decide) (eM_0 g ad S) rfl 38 (by decide) wd_1044 (v := .int (S.1 0 38)) rfl dX10_land_1 ?_
  refine lv_bipush (v := (30 : Int32)) hx hb dX10_land_4 (by decide) ?_
  refine lv_icmp_le (tgt := 19) hx hb dX10_land_6 (by decide) (fun c1 => ?_) (fun c1 => ?_)
  · have h := ip h c1
    refine lv_iconst (v := (1 : Int32)) hx hb dX10_land_19 (by decide) ?_
    refine lv_goto (tgt := 24) hx hb dX10_land_20 (by decide) ?_
    exact kb_X10_land_24 C h X (lv_sub hl [0, 1, 2] rfl) 
  · have h := inn h c1
    refine lv_aload_n hx hb dX10_land_9 rfl (lv_at hl 0 rfl) ?_
    refine g_get C X inT10 0 (by decide) (eM_0 g ad S) rfl 38 (by decide) wd_1044 (v := .int (S.1 0 38)) rfl dX10_land_10 ?_
    refine lv_sipush (v := (330 : Int32)) hx hb dX10_land_13 (by decide) ?_
    refine lv_icmp_lt (tgt := 23) hx hb dX10_land_16 (by decide) (fun c10 => ?_) (fun c10 => ?_)
    · have h := ip h c10
      refine lv_iconst (v := (0 : Int32)) hx hb dX10_land_23 (by decide) ?_
      exact kb_X10_land_24 C h X (lv_sub hl [0, 1, 2] rfl) 
    · have h := inn h c10
      refine lv_iconst (v := (1 : Int32)) hx hb dX10_land_19 (by decide) ?_
      refine lv_goto (tgt := 24) hx hb dX10_land_20 (by decide) ?_
      exact kb_X10_land_24 C h X (lv_sub hl [0, 1, 2] rfl) 

def rmX10_fly : Room := { frames := 4, cells := 0, slots := 0, locals := 85 }
def b_X10_fly_175  (v2 : Int32) (v3 : Int32) (v4 : Int64) (v5 : Int64) (v6 : Int32) (S : ST) : Option ST :=
  nm (su S 0 37 ((v5 / ((100 : Int64))).toInt32)) fun S15 => nm (su S15 0 38 (((S15.1 0 28) * (S15.1 0 36)) - ((S15.1 0 28) * (S15.1 0 36)) / ((360 : Int32)) * ((360 : Int32)))) fun S16 => nm (su S16 0 33 ((0 : Int32))) fun S17 => bn1 (f_X10_handsX v2 S17) fun r18 => nm (su S17 0 34 r18) fun S19 => if v6 = 0 then (some S19) else (nm (su S19 0 34 ((v4 / ((100 : Int64))).toInt32)) fun S21 => bn1 (f_X10_cellOf (S21.1 0 34)) fun r22 => bn1 (f_X10_land r22 v3 S21) fun S23 => some S23)
def b_X10_fly_150 (K98 : Int32 → Int32 → Int64 → Int64 → Int64 → Int64 → Int64 → Int32 → ST → Option ST) (v2 : Int32) (v3 : Int32) (v4 : Int64) (v5 : Int64) (v6 : Int64) (v7 : Int64) (v8 : Int64) (S : ST) : Option ST :=
  nm (su S 0 36 ((S.1 0 36) + ((1 : Int32)))) fun S29 => bn1 (f_X10_isDown v6 v7 S29) fun r30 => K98 v2 v3 v4 v5 v6 v7 v8 r30 S29
def b_X10_fly_98 (K98 : Int32 → Int32 → Int64 → Int64 → Int64 → Int64 → Int64 → Int32 → ST → Option ST) (v2 : Int32) (v3 : Int32) (v4 : Int64) (v5 : Int64) (v6 : Int64) (v7 : Int64) (v8 : Int64) (v9 : Int32) (S : ST) : Option ST :=
  if ((400 : Int32)) ≤ (S.1 0 36) then (b_X10_fly_175 v2 v3 v6 v8 v9 S) else (if v9 = 0 then (nm (v6 + v4) fun x25 => nm (v7 + v5) fun x26 => nm (v5 - ((245 : Int64))) fun x27 => if (lg_cmp x26 v8) ≤ 0 then (b_X10_fly_150 K98 v2 v3 v4 x27 x25 x26 v8 S) else (b_X10_fly_150 K98 v2 v3 v4 x27 x25 x26 x26 S)) else (b_X10_fly_175 v2 v3 v6 v8 v9 S))
def f_X10_fly (a1 : Int32) (a2 : Int32) (S : ST) : Option ST :=
  chk (ib a1 201) (nm ((S.1 12 a1.toNatClampNeg) / ((100 : Int32))) fun x2 => chk (ib a1 201) (nm ((((S.1 13 a1.toNatClampNeg).toInt64) * ((S.1 0 21).toInt64)) / ((573 : Int64))) fun x4 => bn1 (f_X10_cosineOf x2) fun r5 => nm ((x4 * (r5.toInt64)) / ((1000 : Int64))) fun x6 => bn1 (f_X10_sineOf x2) fun r7 => nm ((x4 * (r7.toInt64)) / ((1000 : Int64))) fun x8 => bn1 (f_X10_handsX a1 S) fun r9 => nm (((100 : Int64)) * (r9.toInt64)) fun x10 => bn1 (f_X10_handsHeight a1 S) fun r11 => nm (((100 : Int64)) * ((r11 - (S.1 0 25)).toInt64)) fun x12 => nm (su S 0 36 ((0 : Int32))) fun S13 => lp (fun _ _ _ _ _ _ _ _ _ => none) (b_X10_fly_98) 1000 a1 a2 x6 x8 x10 x12 x12 ((0 : Int32)) S13))
set_option maxHeartbeats 4000000 in
set_option maxRecDepth 100000 in
theorem kb_X10_fly_175 {p : Program} {l : Launch} {e : Env} {s : State} {m : MethodId} {args : Array Value} {below : List Frame} {meth : Method} {c : Code} {g : GG} {ad : Nat → Nat} {res : ST} {S : ST} (C : CX kM g ad p s m args meth c cX10_fly none 17 yX10_fly.cls (.code yX10_fly cX10_fly 17 none))  {v2 : Int32} {v3 : Int32} {v4 : Int64} {v5 : Int64} {v6 : Int32}  {H : Heap} {locs : List Loc} {ls : Array Slot} (h : b_X10_fly_175 v2 v3 v4 v5 v6 S = some res) (X : WX kM g ad s S H locs) (hl : lv_has ls 17 [(0, .ref (ad 0)), (1, .int v2), (2, .int v3), (10, .long v4), (14, .long v5), (16, .int v6)])  : W p l e rmX10_fly s m args below meth c H locs 0 0 (MQ below (QV kM g ad res (AA kM ad s.heap.size)) args s 0 0 (AA kM ad s.heap.size)) (F0 m 175 ls []) := by
  have hx := C.1.1
  have hb := C.1.2.1
  have h : (nm (su S 0 37 ((v5 / ((100 : Int64))).toInt32)) fun S15 => nm (su S15 0 38 (((S15.1 0 28) * (S15.1 0 36)) - ((S15.1 0 28) * (S15.1 0 36)) / ((360 : Int32)) * ((360 : Int32)))) fun S16 => nm (su S16 0 33 ((0 : Int32))) fun S17 => bn1 (f_X10_handsX v2 S17) fun r18 => nm (su S17 0 34 r18) fun S19 => if v6 = 0 then (some S19) else (nm (su S19 0 34 ((v4 / ((100 : Int64))).toInt32)) fun S21 => bn1 (f_X10_cellOf (S21.1 0 34)) fun r22 => bn1 (f_X10_land r22 v3 S21) fun S23 => some S23) : Option ST) = some res := h
  refine lv_aload_n hx hb dX10_fly_175 rfl (lv_at hl 0 rfl) ?_
  refine lv_lload hx hb dX10_fly_176 (lv_at hl 4 rfl) ?_
  refine lv_ldc2 (v := (100 : Int64)) hx hb C.1.2.2.2.2.2.1 (C.1.2.2.2.2.2.2 _ (ws_in wd_1326)) dX10_fly_178 ?_
  refine lv_ldiv hx hb dX10_fly_181 (by decide) ?_
  refine lv_l2i hx hb dX10_fly_182 rfl ?_
  obtain ⟨S15, eS15, h⟩ := nm_s h
  refine g_put (S' := S15) C X inT10 tyX10 tyX10_ok nmX10 0 (by decide) (eM_0 g ad S) rfl 37 (by decide) wd_1043 rfl (by rfl) rfl (Nat.le_of_ble_eq_true rfl) (by subst eS15; rfl) (by subst eS15; exact fun i hi => ent_offu hi) dX10_fly_183 (fun H locs X => ?_)
  refine lv_aload_n hx hb dX10_fly_186 rfl (lv_at hl 0 rfl) ?_
  refine lv_aload_n hx hb dX10_fly_187 rfl (lv_at hl 0 rfl) ?_
  refine g_get C X inT10 0 (by decide) (eM_0 g ad S15) rfl 28 (by decide) wd_1034 (v := .int (S15.1 0 28)) rfl dX10_fly_188 ?_
  refine lv_aload_n hx hb dX10_fly_191 rfl (lv_at hl 0 rfl) ?_
  refine g_get C X inT10 0 (by decide) (eM_0 g ad S15) rfl 36 (by decide) wd_1042 (v := .int (S15.1 0 36)) rfl dX10_fly_192 ?_
  refine lv_imul hx hb dX10_fly_195 ?_
  refine lv_sipush (v := (360 : Int32)) hx hb dX10_fly_196 (by decide) ?_
  refine lv_irem hx hb dX10_fly_199 (by decide) ?_
  obtain ⟨S16, eS16, h⟩ := nm_s h
  refine g_put (S' := S16) C X inT10 tyX10 tyX10_ok nmX10 0 (by decide) (eM_0 g ad S15) rfl 38 (by decide) wd_1044 rfl (by rfl) rfl (Nat.le_of_ble_eq_true rfl) (by subst eS16; rfl) (by subst eS16; exact fun i hi => ent_offu hi) dX10_fly_200 (fun H locs X => ?_)
  refine lv_aload_n hx hb dX10_fly_203 rfl (lv_at hl 0 rfl) ?_
  refine lv_iconst (v := (0 : Int32)) hx hb dX10_fly_204 (by decide) ?_
  obtain ⟨S17, eS17, h⟩ := nm_s h
  refine g_put (S' := S17) C X inT10 tyX10 tyX10_ok nmX10 0 (by decide) (eM_0 g ad S16) rfl 33 (by decide) wd_1039 rfl (by rfl) rfl (Nat.le_of_ble_eq_true rfl) (by subst eS17; rfl) (by subst eS17; exact fun i hi => ent_offu hi) dX10_fly_205 (fun H locs X => ?_)
  refine lv_aload_n hx hb dX10_fly_208 rfl (lv_at hl 0 rfl) ?_
  refine lv_aload_n hx hb dX10_fly_209 rfl (lv_at hl 0 rfl) ?_
  refine lv_iload_n hx hb dX10_fly_210 rfl (lv_at hl 1 rfl) ?_
  obtain ⟨r18, qr18, h⟩ := bn1_s h
  refine kc_i X (res := (r18, S17)) (rV (As := [.int v2]) (rest := [.ref (ad 0)]) (n := 1) (k := 0) C X (c_X10_handsX l g ad S17 _ v2  qr18) wd_1327 wd_1329 wd_53 wd_83 wd_1330 (by decide) (eM_0 g ad S17) rfl rfl rfl (by decide +kernel) ⟨Nat.le_of_ble_eq_true rfl, Nat.le_of_ble_eq_true rfl⟩ rfl hl.1 (lv_room (Nat.le_of_ble_eq_true rfl)) dX10_fly_211) (fun H locs X => ?_)
  obtain ⟨S19, eS19, h⟩ := nm_s h
  refine g_put (S' := S19) C X inT10 tyX10 tyX10_ok nmX10 0 (by decide) (eM_0 g ad S17) rfl 34 (by decide) wd_1040 rfl (by rfl) rfl (Nat.le_of_ble_eq_true rfl) (by subst eS19; rfl) (by subst eS19; exact fun i hi => ent_offu hi) dX10_fly_214 (fun H locs X => ?_)
  refine lv_iload hx hb dX10_fly_217 (lv_at hl 5 rfl) ?_
  refine lv_if_eq (tgt := 245) hx hb dX10_fly_219 (by decide) (fun c20 => ?_) (fun c20 => ?_)
  · have h := ip h c20
    exact rt_v C X rfl (Option.some.inj h) dX10_fly_245
  · have h := inn h c20
    refine lv_aload_n hx hb dX10_fly_222 rfl (lv_at hl 0 rfl) ?_
    refine lv_lload hx hb dX10_fly_223 (lv_at hl 3 rfl) ?_
    refine lv_ldc2 (v := (100 : Int64)) hx hb C.1.2.2.2.2.2.1 (C.1.2.2.2.2.2.2 _ (ws_in wd_1326)) dX10_fly_225 ?_
    refine lv_ldiv hx hb dX10_fly_228 (by decide) ?_
    refine lv_l2i hx hb dX10_fly_229 rfl ?_
    obtain ⟨S21, eS21, h⟩ := nm_s h
    refine g_put (S' := S21) C X inT10 tyX10 tyX10_ok nmX10 0 (by decide) (eM_0 g ad S19) rfl 34 (by decide) wd_1040 rfl (by rfl) rfl (Nat.le_of_ble_eq_true rfl) (by subst eS21; rfl) (by subst eS21; exact fun i hi => ent_offu hi) dX10_fly_230 (fun H locs X => ?_)
    refine lv_aload_n hx hb dX10_fly_233 rfl (lv_at hl 0 rfl) ?_
    refine lv_aload_n hx hb dX10_fly_234 rfl (lv_at hl 0 rfl) ?_
    refine g_get C X inT10 0 (by decide) (eM_0 g ad S21) rfl 34 (by decide) wd_1040 (v := .int (S21.1 0 34)) rfl dX10_fly_235 ?_
    obtain ⟨r22, qr22, h⟩ := bn1_s h
    refine kc_i X (res := (r22, S21)) (rS (As := [.int (S21.1 0 34)]) (rest := [.ref (ad 0)]) (n := 1) C X (c_X10_cellOf l g ad S21 _ (S21.1 0 34)  qr22) wd_1354 wd_1355 wd_83 wd_1356 rfl rfl (by decide +kernel) ⟨Nat.le_of_ble_eq_true rfl, Nat.le_of_ble_eq_true rfl⟩ rfl hl.1 (lv_room (Nat.le_of_ble_eq_true rfl)) dX10_fly_238) (fun H locs X => ?_)
    refine lv_iload_n hx hb dX10_fly_241 rfl (lv_at hl 2 rfl) ?_
    obtain ⟨S23, qS23, h⟩ := bn1_s h
    refine kc_v X (res := S23) (rV (As := [.int r22, .int v3]) (rest := []) (n := 2) (k := 0) C X (c_X10_land l g ad S21 _ r22 v3  qS23) wd_1369 wd_1371 wd_60 wd_83 wd_1372 (by decide) (eM_0 g ad S21) rfl rfl rfl (by decide +kernel) ⟨Nat.le_of_ble_eq_true rfl, Nat.le_of_ble_eq_true rfl⟩ rfl hl.1 (lv_room (Nat.le_of_ble_eq_true rfl)) dX10_fly_242) (fun H locs X => ?_)
    exact rt_v C X rfl (Option.some.inj h) dX10_fly_245
set_option maxHeartbeats 4000000 in
set_option maxRecDepth 100000 in
theorem kb_X10_fly_150 {p : Program} {l : Launch} {e : Env} {s : State} {m : MethodId} {args : Array Value} {below : List Frame} {meth : Method} {c : Code} {g : GG} {ad : Nat → Nat} {res : ST} {S : ST} (C : CX kM g ad p s m args meth c cX10_fly none 17 yX10_fly.cls (.code yX10_fly cX10_fly 17 none)) {K98 : Int32 → Int32 → Int64 → Int64 → Int64 → Int64 → Int64 → Int32 → ST → Option ST} (hK98 : ∀ {v2 : Int32} {v3 : Int32} {v4 : Int64} {v5 : Int64} {v6 : Int64} {v7 : Int64} {v8 : Int64} {v9 : Int32} {S : ST} {H : Heap} {locs : List Loc} {ls : Array Slot}, K98 v2 v3 v4 v5 v6 v7 v8 v9 S = some res → WX kM g ad s S H locs → lv_has ls 17 [(0, .ref (ad 0)), (1, .int v2), (2, .int v3), (6, .long v4), (8, .long v5), (10, .long v6), (12, .long v7), (14, .long v8), (16, .int v9)] → W p l e rmX10_fly s m args below meth c H locs 0 0 (MQ below (QV kM g ad res (AA kM ad s.heap.size)) args s 0 0 (AA kM ad s.heap.size)) (F0 m 98 ls [])) {v2 : Int32} {v3 : Int32} {v4 : Int64} {v5 : Int64} {v6 : Int64} {v7 : Int64} {v8 : Int64}  {H : Heap} {locs : List Loc} {ls : Array Slot} (h : b_X10_fly_150 K98 v2 v3 v4 v5 v6 v7 v8 S = some res) (X : WX kM g ad s S H locs) (hl : lv_has ls 17 [(0, .ref (ad 0)), (1, .int v2), (2, .int v3), (6, .long v4), (8, .long v5), (10, .long v6), (12, .long v7)])  : W p l e rmX10_fly s m args below meth c H locs 0 0 (MQ below (QV kM g ad res (AA kM ad s.heap.size)) args s 0 0 (AA kM ad s.heap.size)) (F0 m 150 ls [.long v8]) := by
  have hx := C.1.1
  have hb := C.1.2.1
  have h : (nm (su S 0 36 ((S.1 0 36) + ((1 : Int32)))) fun S29 => bn1 (f_X10_isDown v6 v7 S29) fun r30 => K98 v2 v3 v4 v5 v6 v7 v8 r30 S29 : Option ST) = some res := h
  refine lv_lstore (lv' := [(14, .long v8), (0, .ref (ad 0)), (1, .int v2), (2, .int v3), (6, .long v4), (8, .long v5), (10, .long v6), (12, .long v7)]) hx hb dX10_fly_150 hl (by decide) rfl (fun ls hl => ?_)
  refine lv_aload_n hx hb dX10_fly_152 rfl (lv_at hl 1 rfl) ?_
  refine lv_dup hx hb dX10_fly_153 rfl ?_
  refine g_get C X inT10 0 (by decide) (eM_0 g ad S) rfl 36 (by decide) wd_1042 (v := .int (S.1 0 36)) rfl dX10_fly_154 ?_
  refine lv_iconst (v := (1 : Int32)) hx hb dX10_fly_157 (by decide) ?_
  refine lv_iadd hx hb dX10_fly_158 ?_
  obtain ⟨S29, eS29, h⟩ := nm_s h
  refine g_put (S' := S29) C X inT10 tyX10 tyX10_ok nmX10 0 (by decide) (eM_0 g ad S) rfl 36 (by decide) wd_1042 rfl (by rfl) rfl (Nat.le_of_ble_eq_true rfl) (by subst eS29; rfl) (by subst eS29; exact fun i hi => ent_offu hi) dX10_fly_159 (fun H locs X => ?_)
  refine lv_aload_n hx hb dX10_fly_162 rfl (lv_at hl 1 rfl) ?_
  refine lv_lload hx hb dX10_fly_163 (lv_at hl 6 rfl) ?_
  refine lv_lload hx hb dX10_fly_165 (lv_at hl 7 rfl) ?_
  obtain ⟨r30, qr30, h⟩ := bn1_s h
  refine kc_i X (res := (r30, S29)) (rV (As := [.long v6, .long v7]) (rest := []) (n := 2) (k := 0) C X (c_X10_isDown l g ad S29 _ v6 v7  qr30) wd_1364 wd_1366 wd_59 wd_83 wd_1367 (by decide) (eM_0 g ad S29) rfl rfl rfl (by decide +kernel) ⟨Nat.le_of_ble_eq_true rfl, Nat.le_of_ble_eq_true rfl⟩ rfl hl.1 (lv_room (Nat.le_of_ble_eq_true rfl)) dX10_fly_167) (fun H locs X => ?_)
  refine lv_istore (lv' := [(16, .int r30), (14, .long v8), (0, .ref (ad 0)), (1, .int v2), (2, .int v3), (6, .long v4), (8, .long v5), (10, .long v6), (12, .long v7)]) hx hb dX10_fly_170 hl (by decide) rfl (fun ls hl => ?_)
  refine lv_goto (tgt := 98) hx hb dX10_fly_172 (by decide) ?_
  exact hK98 h X (lv_sub hl [2, 3, 4, 5, 6, 7, 8, 1, 0] rfl) 
set_option maxHeartbeats 4000000 in
set_option maxRecDepth 100000 in
theorem kb_X10_fly_98 {p : Program} {l : Launch} {e : Env} {s : State} {m : MethodId} {args : Array Value} {below : List Frame} {meth : Method} {c : Code} {g : GG} {ad : Nat → Nat} {res : ST} {S : ST} (C : CX kM g ad p s m args meth c cX10_fly none 17 yX10_fly.cls (.code yX10_fly cX10_fly 17 none)) {K98 : Int32 → Int32 → Int64 → Int64 → Int64 → Int64 → Int64 → Int32 → ST → Option ST} (hK98 : ∀ {v2 : Int32} {v3 : Int32} {v4 : Int64} {v5 : Int64} {v6 : Int64} {v7 : Int64} {v8 : Int64} {v9 : Int32} {S : ST} {H : Heap} {locs : List Loc} {ls : Array Slot}, K98 v2 v3 v4 v5 v6 v7 v8 v9 S = some res → WX kM g ad s S H locs → lv_has ls 17 [(0, .ref (ad 0)), (1, .int v2), (2, .int v3), (6, .long v4), (8, .long v5), (10, .long v6), (12, .long v7), (14, .long v8), (16, .int v9)] → W p l e rmX10_fly s m args below meth c H locs 0 0 (MQ below (QV kM g ad res (AA kM ad s.heap.size)) args s 0 0 (AA kM ad s.heap.size)) (F0 m 98 ls [])) {v2 : Int32} {v3 : Int32} {v4 : Int64} {v5 : Int64} {v6 : Int64} {v7 : Int64} {v8 : Int64} {v9 : Int32}  {H : Heap} {locs : List Loc} {ls : Array Slot} (h : b_X10_fly_98 K98 v2 v3 v4 v5 v6 v7 v8 v9 S = some res) (X : WX kM g ad s S H locs) (hl : lv_has ls 17 [(0, .ref (ad 0)), (1, .int v2), (2, .int v3), (6, .long v4), (8, .long v5), (10, .long v6), (12, .long v7), (14, .long v8), (16, .int v9)])  : W p l e rmX10_fly s m args below meth c H locs 0 0 (MQ below (QV kM g ad res (AA kM ad s.heap.size)) args s 0 0 (AA kM ad s.heap.size)) (F0 m 98 ls []) := by
  have hx := C.1.1
  have hb := C.1.2.1
  have h : (if ((400 : Int32)) ≤ (S.1 0 36) then (b_X10_fly_175 v2 v3 v6 v8 v9 S) else (if v9 = 0 then (nm (v6 + v4) fun x25 => nm (v7 + v5) fun x26 => nm (v5 - ((245 : Int64))) fun x27 => if (lg_cmp x26 v8) ≤ 0 then (b_X10_fly_150 K98 v2 v3 v4 x27 x25 x26 v8 S) else (b_X10_fly_150 K98 v2 v3 v4 x27 x25 x26 x26 S)) else (b_X10_fly_175 v2 v3 v6 v8 v9 S)) : Option ST) = some res := h
  refine lv_aload_n hx hb dX10_fly_98 rfl (lv_at hl 0 rfl) ?_
  refine g_get C X inT10 0 (by decide) (eM_0 g ad S) rfl 36 (by decide) wd_1042 (v := .int (S.1 0 36)) rfl dX10_fly_99 ?_
  refine lv_sipush (v := (400 : Int32)) hx hb dX10_fly_102 (by decide) ?_
  refine lv_icmp_ge (tgt := 175) hx hb dX10_fly_105 (by decide) (fun c14 => ?_) (fun c14 => ?_)
  · have h := ip h c14
    exact kb_X10_fly_175 C h X (lv_sub hl [0, 1, 2, 5, 7, 8] rfl) 
  · have h := inn h c14
    refine lv_iload hx hb dX10_fly_108 (lv_at hl 8 rfl) ?_
    refine lv_if_ne (tgt := 175) hx hb dX10_fly_110 (by decide) (fun c24 => ?_) (fun c24 => ?_)
    · have h := inn h c24
      exact kb_X10_fly_175 C h X (lv_sub hl [0, 1, 2, 5, 7, 8] rfl) 
    · have h := ip h c24
      refine lv_lload hx hb dX10_fly_113 (lv_at hl 5 rfl) ?_
      refine lv_lload hx hb dX10_fly_115 (lv_at hl 3 rfl) ?_
      refine lv_ladd hx hb dX10_fly_117 ?_
      obtain ⟨x25, ex25, h⟩ := nm_s h
      refine tp_l ex25 ?_
      refine lv_lstore (lv' := [(10, .long x25), (0, .ref (ad 0)), (1, .int v2), (2, .int v3), (6, .long v4), (8, .long v5), (12, .long v7), (14, .long v8), (16, .int v9)]) hx hb dX10_fly_118 hl (by decide) rfl (fun ls hl => ?_)
      refine lv_lload hx hb dX10_fly_120 (lv_at hl 6 rfl) ?_
      refine lv_lload hx hb dX10_fly_122 (lv_at hl 5 rfl) ?_
      refine lv_ladd hx hb dX10_fly_124 ?_
      obtain ⟨x26, ex26, h⟩ := nm_s h
      refine tp_l ex26 ?_
      refine lv_lstore (lv' := [(12, .long x26), (10, .long x25), (0, .ref (ad 0)), (1, .int v2), (2, .int v3), (6, .long v4), (8, .long v5), (14, .long v8), (16, .int v9)]) hx hb dX10_fly_125 hl (by decide) rfl (fun ls hl => ?_)
      refine lv_lload hx hb dX10_fly_127 (lv_at hl 6 rfl) ?_
      refine lv_ldc2 (v := (245 : Int64)) hx hb C.1.2.2.2.2.2.1 (C.1.2.2.2.2.2.2 _ (ws_in wd_1363)) dX10_fly_129 ?_
      refine lv_lsub hx hb dX10_fly_132 ?_
      obtain ⟨x27, ex27, h⟩ := nm_s h
      refine tp_l ex27 ?_
      refine lv_lstore (lv' := [(8, .long x27), (12, .long x26), (10, .long x25), (0, .ref (ad 0)), (1, .int v2), (2, .int v3), (6, .long v4), (14, .long v8), (16, .int v9)]) hx hb dX10_fly_133 hl (by decide) rfl (fun ls hl => ?_)
      refine lv_lload hx hb dX10_fly_135 (lv_at hl 1 rfl) ?_
      refine lv_lload hx hb dX10_fly_137 (lv_at hl 7 rfl) ?_
      refine W.lcmp hx hb dX10_fly_139 ?_
      refine lv_if_le (tgt := 148) hx hb dX10_fly_140 (by decide) (fun c28 => ?_) (fun c28 => ?_)
      · have h := ip h c28
        refine lv_lload hx hb dX10_fly_148 (lv_at hl 7 rfl) ?_
        exact kb_X10_fly_150 C hK98 h X (lv_sub hl [3, 4, 5, 6, 0, 2, 1] rfl) 
      · have h := inn h c28
        refine lv_lload hx hb dX10_fly_143 (lv_at hl 1 rfl) ?_
        refine lv_goto (tgt := 150) hx hb dX10_fly_145 (by decide) ?_
        exact kb_X10_fly_150 C hK98 h X (lv_sub hl [3, 4, 5, 6, 0, 2, 1] rfl) 
set_option maxHeartbeats 4000000 in
set_option maxRecDepth 100000 in
theorem kl_X10_fly_98 {p : Program} {l : Launch} {e : Env} {s : State} {m : MethodId} {args : Array Value} {below : List Frame} {meth : Method} {c : Code} {g : GG} {ad : Nat → Nat} {res : ST}  (C : CX kM g ad p s m args meth c cX10_fly none 17 yX10_fly.cls (.code yX10_fly cX10_fly 17 none))  : ∀ (n : Nat) {v2 : Int32} {v3 : Int32} {v4 : Int64} {v5 : Int64} {v6 : Int64} {v7 : Int64} {v8 : Int64} {v9 : Int32} {S : ST} {H : Heap} {locs : List Loc} {ls : Array Slot}, (lp (fun _ _ _ _ _ _ _ _ _ => none) (b_X10_fly_98)) n v2 v3 v4 v5 v6 v7 v8 v9 S = some res → WX kM g ad s S H locs → lv_has ls 17 [(0, .ref (ad 0)), (1, .int v2), (2, .int v3), (6, .long v4), (8, .long v5), (10, .long v6), (12, .long v7), (14, .long v8), (16, .int v9)] → W p l e rmX10_fly s m args below meth c H locs 0 0 (MQ below (QV kM g ad res (AA kM ad s.heap.size)) args s 0 0 (AA kM ad s.heap.size)) (F0 m 98 ls []) := by
  intro n
  induction n with
  | zero =>
    intro v2 v3 v4 v5 v6 v7 v8 v9 S H locs ls h
    cases (show (none : Option ST) = some res from h)
  | succ n ih =>
    intro v2 v3 v4 v5 v6 v7 v8 v9 S H locs ls h X hl 
    exact kb_X10_fly_98 C ih h X hl 
set_option maxHeartbeats 4000000 in
set_option maxRecDepth 100000 in
theorem c_X10_fly (l : Launch) (g : GG) (ad : Nat → Nat) (S : ST) (sz : Nat) (a1 : Int32) (a2 : Int32)  {res : ST} (h : f_X10_fly a1 a2 S = some res) : Met l yX10_fly (WS (.code yX10_fly cX10_fly 17 none)) rmX10_fly (va_Pc [.ref (ad 0), .int a1, .int a2] (PW kM g ad S sz)) (QV kM g ad res (AA kM ad sz)) 0 0 (AA kM ad sz) := by
  refine go_m (Qc := fun A => QV kM g ad res A) (by decide) (Nat.le_of_ble_eq_true rfl) (fun p e s m below meth c ls H locs C X hl => ?_)
  have hx := C.1.1
  have hb := C.1.2.1
  have hl : lv_has ls 17 [(0, .ref (ad 0)), (1, .int a1), (2, .int a2)] := hl
  have h : (chk (ib a1 201) (nm ((S.1 12 a1.toNatClampNeg) / ((100 : Int32))) fun x2 => chk (ib a1 201) (nm ((((S.1 13 a1.toNatClampNeg).toInt64) * ((S.1 0 21).toInt64)) / ((573 : Int64))) fun x4 => bn1 (f_X10_cosineOf x2) fun r5 => nm ((x4 * (r5.toInt64)) / ((1000 : Int64))) fun x6 => bn1 (f_X10_sineOf x2) fun r7 => nm ((x4 * (r7.toInt64)) / ((1000 : Int64))) fun x8 => bn1 (f_X10_handsX a1 S) fun r9 => nm (((100 : Int64)) * (r9.toInt64)) fun x10 => bn1 (f_X10_handsHeight a1 S) fun r11 => nm (((100 : Int64)) * ((r11 - (S.1 0 25)).toInt64)) fun x12 => nm (su S 0 36 ((0 : Int32))) fun S13 => lp (fun _ _ _ _ _ _ _ _ _ => none) (b_X10_fly_98) 1000 a1 a2 x6 x8 x10 x12 x12 ((0 : Int32)) S13)) : Option ST) = some res := h
  refine lv_aload_n hx hb dX10_fly_0 rfl (lv_at hl 0 rfl) ?_
  refine g_get C X inT10 0 (by decide) (eM_0 g ad S) rfl 29 (by decide) wd_1035 (v := .ref (ad 12)) rfl dX10_fly_1 ?_
  refine lv_iload_n hx hb dX10_fly_4 rfl (lv_at hl 1 rfl) ?_
  obtain ⟨k1, h⟩ := chk_s h
  refine g_iald C X 12 (by decide) (eM_12 g ad S) k1 dX10_fly_5 ?_
  refine lv_bipush (v := (100 : Int32)) hx hb dX10_fly_6 (by decide) ?_
  refine lv_idiv hx hb dX10_fly_8 (by decide) ?_
  obtain ⟨x2, ex2, h⟩ := nm_s h
  refine tp_i ex2 ?_
  refine lv_istore_n (lv' := [(3, .int x2), (0, .ref (ad 0)), (1, .int a1), (2, .int a2)]) hx hb dX10_fly_9 rfl hl (by decide) rfl (fun ls hl => ?_)
  refine lv_aload_n hx hb dX10_fly_10 rfl (lv_at hl 1 rfl) ?_
  refine g_get C X inT10 0 (by decide) (eM_0 g ad S) rfl 30 (by decide) wd_1036 (v := .ref (ad 13)) rfl dX10_fly_11 ?_
  refine lv_iload_n hx hb dX10_fly_14 rfl (lv_at hl 2 rfl) ?_
  obtain ⟨k3, h⟩ := chk_s h
  refine g_iald C X 13 (by decide) (eM_13 g ad S) k3 dX10_fly_15 ?_
  refine lv_i2l hx hb dX10_fly_16 rfl ?_
  refine lv_aload_n hx hb dX10_fly_17 rfl (lv_at hl 1 rfl) ?_
  refine g_get C X inT10 0 (by decide) (eM_0 g ad S) rfl 21 (by decide) wd_1027 (v := .int (S.1 0 21)) rfl dX10_fly_18 ?_
  refine lv_i2l hx hb dX10_fly_21 rfl ?_
  refine lv_lmul hx hb dX10_fly_22 ?_
  refine lv_ldc2 (v := (573 : Int64)) hx hb C.1.2.2.2.2.2.1 (C.1.2.2.2.2.2.2 _ (ws_in wd_1361)) dX10_fly_23 ?_
  refine lv_ldiv hx hb dX10_fly_26 (by decide) ?_
  obtain ⟨x4, ex4, h⟩ := nm_s h
  refine tp_l ex4 ?_
  refine lv_lstore (lv' := [(4, .long x4), (3, .int x2), (0, .ref (ad 0)), (1, .int a1), (2, .int a2)]) hx hb dX10_fly_27 hl (by decide) rfl (fun ls hl => ?_)
  refine lv_lload hx hb dX10_fly_29 (lv_at hl 0 rfl) ?_
  refine lv_iload_n hx hb dX10_fly_31 rfl (lv_at hl 1 rfl) ?_
  obtain ⟨r5, qr5, h⟩ := bn1_s h
  refine kc_i X (res := (r5, S)) (rS (As := [.int x2]) (rest := [.long x4]) (n := 1) C X (c_X10_cosineOf l g ad S _ x2  qr5) wd_1322 wd_1323 wd_83 wd_1324 rfl rfl (by decide +kernel) ⟨Nat.le_of_ble_eq_true rfl, Nat.le_of_ble_eq_true rfl⟩ rfl hl.1 (lv_room (Nat.le_of_ble_eq_true rfl)) dX10_fly_32) (fun H locs X => ?_)
  refine lv_i2l hx hb dX10_fly_35 rfl ?_
  refine lv_lmul hx hb dX10_fly_36 ?_
  refine lv_ldc2 (v := (1000 : Int64)) hx hb C.1.2.2.2.2.2.1 (C.1.2.2.2.2.2.2 _ (ws_in wd_1362)) dX10_fly_37 ?_
  refine lv_ldiv hx hb dX10_fly_40 (by decide) ?_
  obtain ⟨x6, ex6, h⟩ := nm_s h
  refine tp_l ex6 ?_
  refine lv_lstore (lv' := [(6, .long x6), (4, .long x4), (3, .int x2), (0, .ref (ad 0)), (1, .int a1), (2, .int a2)]) hx hb dX10_fly_41 hl (by decide) rfl (fun ls hl => ?_)
  refine lv_lload hx hb dX10_fly_43 (lv_at hl 1 rfl) ?_
  refine lv_iload_n hx hb dX10_fly_45 rfl (lv_at hl 2 rfl) ?_
  obtain ⟨r7, qr7, h⟩ := bn1_s h
  refine kc_i X (res := (r7, S)) (rS (As := [.int x2]) (rest := [.long x4]) (n := 1) C X (c_X10_sineOf l g ad S _ x2  qr7) wd_1292 wd_1293 wd_83 wd_1294 rfl rfl (by decide +kernel) ⟨Nat.le_of_ble_eq_true rfl, Nat.le_of_ble_eq_true rfl⟩ rfl hl.1 (lv_room (Nat.le_of_ble_eq_true rfl)) dX10_fly_46) (fun H locs X => ?_)
  refine lv_i2l hx hb dX10_fly_49 rfl ?_
  refine lv_lmul hx hb dX10_fly_50 ?_
  refine lv_ldc2 (v := (1000 : Int64)) hx hb C.1.2.2.2.2.2.1 (C.1.2.2.2.2.2.2 _ (ws_in wd_1362)) dX10_fly_51 ?_
  refine lv_ldiv hx hb dX10_fly_54 (by decide) ?_
  obtain ⟨x8, ex8, h⟩ := nm_s h
  refine tp_l ex8 ?_
  refine lv_lstore (lv' := [(8, .long x8), (6, .long x6), (4, .long x4), (3, .int x2), (0, .ref (ad 0)), (1, .int a1), (2, .int a2)]) hx hb dX10_fly_55 hl (by decide) rfl (fun ls hl => ?_)
  refine lv_ldc2 (v := (100 : Int64)) hx hb C.1.2.2.2.2.2.1 (C.1.2.2.2.2.2.2 _ (ws_in wd_1326)) dX10_fly_57 ?_
  refine lv_aload_n hx hb dX10_fly_60 rfl (lv_at hl 4 rfl) ?_
  refine lv_iload_n hx hb dX10_fly_61 rfl (lv_at hl 5 rfl) ?_
  obtain ⟨r9, qr9, h⟩ := bn1_s h
  refine kc_i X (res := (r9, S)) (rV (As := [.int a1]) (rest := [.long ((100 : Int64))]) (n := 1) (k := 0) C X (c_X10_handsX l g ad S _ a1  qr9) wd_1327 wd_1329 wd_53 wd_83 wd_1330 (by decide) (eM_0 g ad S) rfl rfl rfl (by decide +kernel) ⟨Nat.le_of_ble_eq_true rfl, Nat.le_of_ble_eq_true rfl⟩ rfl hl.1 (lv_room (Nat.le_of_ble_eq_true rfl)) dX10_fly_62) (fun H locs X => ?_)
  refine lv_i2l hx hb dX10_fly_65 rfl ?_
  refine lv_lmul hx hb dX10_fly_66 ?_
  obtain ⟨x10, ex10, h⟩ := nm_s h
  refine tp_l ex10 ?_
  refine lv_lstore (lv' := [(10, .long x10), (8, .long x8), (6, .long x6), (4, .long x4), (3, .int x2), (0, .ref (ad 0)), (1, .int a1), (2, .int a2)]) hx hb dX10_fly_67 hl (by decide) rfl (fun ls hl => ?_)
  refine lv_ldc2 (v := (100 : Int64)) hx hb C.1.2.2.2.2.2.1 (C.1.2.2.2.2.2.2 _ (ws_in wd_1326)) dX10_fly_69 ?_
  refine lv_aload_n hx hb dX10_fly_72 rfl (lv_at hl 5 rfl) ?_
  refine lv_iload_n hx hb dX10_fly_73 rfl (lv_at hl 6 rfl) ?_
  obtain ⟨r11, qr11, h⟩ := bn1_s h
  refine kc_i X (res := (r11, S)) (rV (As := [.int a1]) (rest := [.long ((100 : Int64))]) (n := 1) (k := 0) C X (c_X10_handsHeight l g ad S _ a1  qr11) wd_1331 wd_1333 wd_54 wd_83 wd_1334 (by decide) (eM_0 g ad S) rfl rfl rfl (by decide +kernel) ⟨Nat.le_of_ble_eq_true rfl, Nat.le_of_ble_eq_true rfl⟩ rfl hl.1 (lv_room (Nat.le_of_ble_eq_true rfl)) dX10_fly_74) (fun H locs X => ?_)
  refine lv_aload_n hx hb dX10_fly_77 rfl (lv_at hl 5 rfl) ?_
  refine g_get C X inT10 0 (by decide) (eM_0 g ad S) rfl 25 (by decide) wd_1031 (v := .int (S.1 0 25)) rfl dX10_fly_78 ?_
  refine lv_isub hx hb dX10_fly_81 ?_
  refine lv_i2l hx hb dX10_fly_82 rfl ?_
  refine lv_lmul hx hb dX10_fly_83 ?_
  obtain ⟨x12, ex12, h⟩ := nm_s h
  refine tp_l ex12 ?_
  refine lv_lstore (lv' := [(12, .long x12), (10, .long x10), (8, .long x8), (6, .long x6), (4, .long x4), (3, .int x2), (0, .ref (ad 0)), (1, .int a1), (2, .int a2)]) hx hb dX10_fly_84 hl (by decide) rfl (fun ls hl => ?_)
  refine lv_lload hx hb dX10_fly_86 (lv_at hl 0 rfl) ?_
  refine lv_lstore (lv' := [(14, .long x12), (12, .long x12), (10, .long x10), (8, .long x8), (6, .long x6), (4, .long x4), (3, .int x2), (0, .ref (ad 0)), (1, .int a1), (2, .int a2)]) hx hb dX10_fly_88 hl (by decide) rfl (fun ls hl => ?_)
  refine lv_aload_n hx hb dX10_fly_90 rfl (lv_at hl 7 rfl) ?_
  refine lv_iconst (v := (0 : Int32)) hx hb dX10_fly_91 (by decide) ?_
  obtain ⟨S13, eS13, h⟩ := nm_s h
  refine g_put (S' := S13) C X inT10 tyX10 tyX10_ok nmX10 0 (by decide) (eM_0 g ad S) rfl 36 (by decide) wd_1042 rfl (by rfl) rfl (Nat.le_of_ble_eq_true rfl) (by subst eS13; rfl) (by subst eS13; exact fun i hi => ent_offu hi) dX10_fly_92 (fun H locs X => ?_)
  refine lv_iconst (v := (0 : Int32)) hx hb dX10_fly_95 (by decide) ?_
  refine lv_istore (lv' := [(16, .int ((0 : Int32))), (14, .long x12), (12, .long x12), (10, .long x10), (8, .long x8), (6, .long x6), (4, .long x4), (3, .int x2), (0, .ref (ad 0)), (1, .int a1), (2, .int a2)]) hx hb dX10_fly_96 hl (by decide) rfl (fun ls hl => ?_)
  exact kl_X10_fly_98 C _ h X (lv_sub hl [8, 9, 10, 5, 4, 3, 2, 1, 0] rfl) 

def rmX10_endAt : Room := { frames := 4, cells := 0, slots := 0, locals := 85 }
def b_X10_endAt_106 (S : ST)  (v1 : Int32) : Option Int32 :=
  if v1 = 0 then (some ((-1 : Int32))) else (some ((8 : Int32)))
def b_X10_endAt_68 (S : ST)  (v2 : Int32) : Option Int32 :=
  bn1 (f_X10_handsHeight v2 S) fun r8 => bn1 (f_X10_lower S) fun r9 => if (-r9) ≤ (r8 - (S.1 0 25)) then (b_X10_endAt_106 S ((0 : Int32))) else (bn1 (f_X10_handsX v2 S) fun r12 => bn1 (f_X10_cellOf r12) fun r13 => bn1 (f_X10_kindOf r13 S) fun r14 => if r14 = 0 then (b_X10_endAt_106 S ((1 : Int32))) else (b_X10_endAt_106 S ((0 : Int32))))
def f_X10_endAt (a1 : Int32) (a2 : Int32) (S : ST) : Option Int32 :=
  chk (ib a1 201) (if (S.1 14 a1.toNatClampNeg) ≤ (S.1 0 23) then (chk (ib a1 201) (if 0 ≤ (S.1 15 a1.toNatClampNeg) then (if a1 < (a2 + (S.1 0 27)) then (chk (ib a1 201) (if 0 ≤ (S.1 13 a1.toNatClampNeg) then (b_X10_endAt_68 S a1) else (bn1 (f_X10_handsX a1 S) fun r16 => if (-(S.1 1 ((6 : Int32)).toNatClampNeg)) ≤ r16 then (b_X10_endAt_68 S a1) else (some ((6 : Int32)))))) else (some ((9 : Int32)))) else (some ((5 : Int32))))) else (some ((7 : Int32))))
set_option maxHeartbeats 4000000 in
set_option maxRecDepth 100000 in
theorem kb_X10_endAt_106 {p : Program} {l : Launch} {e : Env} {s : State} {m : MethodId} {args : Array Value} {below : List Frame} {meth : Method} {c : Code} {g : GG} {ad : Nat → Nat} {res : Int32} {S : ST} (C : CX kM g ad p s m args meth c cX10_endAt (some Jvm.ClassFile.FieldType.int) 4 yX10_endAt.cls (.code yX10_endAt cX10_endAt 4 (some Jvm.ClassFile.FieldType.int)))  {v1 : Int32}  {H : Heap} {locs : List Loc} {ls : Array Slot} (h : b_X10_endAt_106 S v1 = some res) (X : WX kM g ad s S H locs) (hl : lv_has ls 4 [])  : W p l e rmX10_endAt s m args below meth c H locs 0 0 (MQ below (QI kM g ad (res, S) (AA kM ad s.heap.size)) args s 0 0 (AA kM ad s.heap.size)) (F0 m 106 ls [.int v1]) := by
  have hx := C.1.1
  have hb := C.1.2.1
  have h : (if v1 = 0 then (some ((-1 : Int32))) else (some ((8 : Int32))) : Option Int32) = some res := h
  refine lv_istore_n (lv' := [(3, .int v1)]) hx hb dX10_endAt_106 rfl hl (by decide) rfl (fun ls hl => ?_)
  refine lv_iload_n hx hb dX10_endAt_107 rfl (lv_at hl 0 rfl) ?_
  refine lv_if_eq (tgt := 116) hx hb dX10_endAt_108 (by decide) (fun c11 => ?_) (fun c11 => ?_)
  · have h := ip h c11
    refine lv_iconst (v := (-1 : Int32)) hx hb dX10_endAt_116 (by decide) ?_
    exact rt_i C X rfl (congrArg (fun z => (z, S)) (Option.some.inj h)) dX10_endAt_117
  · have h := inn h c11
    refine lv_bipush (v := (8 : Int32)) hx hb dX10_endAt_111 (by decide) ?_
    refine lv_goto (tgt := 117) hx hb dX10_endAt_113 (by decide) ?_
    exact rt_i C X rfl (congrArg (fun z => (z, S)) (Option.some.inj h)) dX10_endAt_117
set_option maxHeartbeats 4000000 in
set_option maxRecDepth 100000 in
theorem kb_X10_endAt_68 {p : Program} {l : Launch} {e : Env} {s : State} {m : MethodId} {args : Array Value} {below : List Frame} {meth : Method} {c : Code} {g : GG} {ad : Nat → Nat} {res : Int32} {S : ST} (C : CX kM g ad p s m args meth c cX10_endAt (some Jvm.ClassFile.FieldType.int) 4 yX10_endAt.cls (.code yX10_endAt cX10_endAt 4 (some Jvm.ClassFile.FieldType.int)))  {v2 : Int32}  {H : Heap} {locs : List Loc} {ls : Array Slot} (h : b_X10_endAt_68 S v2 = some res) (X : WX kM g ad s S H locs) (hl : lv_has ls 4 [(0, .ref (ad 0)), (1, .int v2)])  : W p l e rmX10_endAt s m args below meth c H locs 0 0 (MQ below (QI kM g ad (res, S) (AA kM ad s.heap.size)) args s 0 0 (AA kM ad s.heap.size)) (F0 m 68 ls []) := by
  have hx := C.1.1
  have hb := C.1.2.1
  have h : (bn1 (f_X10_handsHeight v2 S) fun r8 => bn1 (f_X10_lower S) fun r9 => if (-r9) ≤ (r8 - (S.1 0 25)) then (b_X10_endAt_106 S ((0 : Int32))) else (bn1 (f_X10_handsX v2 S) fun r12 => bn1 (f_X10_cellOf r12) fun r13 => bn1 (f_X10_kindOf r13 S) fun r14 => if r14 = 0 then (b_X10_endAt_106 S ((1 : Int32))) else (b_X10_endAt_106 S ((0 : Int32)))) : Option Int32) = some res := h
  refine lv_aload_n hx hb dX10_endAt_68 rfl (lv_at hl 0 rfl) ?_
  refine lv_iload_n hx hb dX10_endAt_69 rfl (lv_at hl 1 rfl) ?_
  obtain ⟨r8, qr8, h⟩ := bn1_s h
  refine kc_i X (res := (r8, S)) (rV (As := [.int v2]) (rest := []) (n := 1) (k := 0) C X (c_X10_handsHeight l g ad S _ v2  qr8) wd_1331 wd_1333 wd_54 wd_83 wd_1334 (by decide) (eM_0 g ad S) rfl rfl rfl (by decide +kernel) ⟨Nat.le_of_ble_eq_true rfl, Nat.le_of_ble_eq_true rfl⟩ rfl hl.1 (lv_room (Nat.le_of_ble_eq_true rfl)) dX10_endAt_70) (fun H locs X => ?_)
  refine lv_aload_n hx hb dX10_endAt_73 rfl (lv_at hl 0 rfl) ?_
  refine g_get C X inT10 0 (by decide) (eM_0 g ad S) rfl 25 (by decide) wd_1031 (v := .int (S.1 0 25)) rfl dX10_endAt_74 ?_
  refine lv_isub hx hb dX10_endAt_77 ?_
  refine lv_aload_n hx hb dX10_endAt_78 rfl (lv_at hl 0 rfl) ?_
  obtain ⟨r9, qr9, h⟩ := bn1_s h
  refine kc_i X (res := (r9, S)) (rV (As := []) (rest := [.int (r8 - (S.1 0 25))]) (n := 0) (k := 0) C X (c_X10_lower l g ad S _   qr9) wd_1254 wd_1256 wd_45 wd_83 wd_1257 (by decide) (eM_0 g ad S) rfl rfl rfl (by decide +kernel) ⟨Nat.le_of_ble_eq_true rfl, Nat.le_of_ble_eq_true rfl⟩ rfl hl.1 (lv_room (Nat.le_of_ble_eq_true rfl)) dX10_endAt_79) (fun H locs X => ?_)
  refine lv_ineg hx hb dX10_endAt_82 ?_
  refine lv_icmp_ge (tgt := 105) hx hb dX10_endAt_83 (by decide) (fun c10 => ?_) (fun c10 => ?_)
  · have h := ip h c10
    refine lv_iconst (v := (0 : Int32)) hx hb dX10_endAt_105 (by decide) ?_
    exact kb_X10_endAt_106 C h X (lv_sub hl [] rfl) 
  · have h := inn h c10
    refine lv_aload_n hx hb dX10_endAt_86 rfl (lv_at hl 0 rfl) ?_
    refine lv_aload_n hx hb dX10_endAt_87 rfl (lv_at hl 0 rfl) ?_
    refine lv_iload_n hx hb dX10_endAt_88 rfl (lv_at hl 1 rfl) ?_
    obtain ⟨r12, qr12, h⟩ := bn1_s h
    refine kc_i X (res := (r12, S)) (rV (As := [.int v2]) (rest := [.ref (ad 0)]) (n := 1) (k := 0) C X (c_X10_handsX l g ad S _ v2  qr12) wd_1327 wd_1329 wd_53 wd_83 wd_1330 (by decide) (eM_0 g ad S) rfl rfl rfl (by decide +kernel) ⟨Nat.le_of_ble_eq_true rfl, Nat.le_of_ble_eq_true rfl⟩ rfl hl.1 (lv_room (Nat.le_of_ble_eq_true rfl)) dX10_endAt_89) (fun H locs X => ?_)
    obtain ⟨r13, qr13, h⟩ := bn1_s h
    refine kc_i X (res := (r13, S)) (rS (As := [.int r12]) (rest := [.ref (ad 0)]) (n := 1) C X (c_X10_cellOf l g ad S _ r12  qr13) wd_1354 wd_1355 wd_83 wd_1356 rfl rfl (by decide +kernel) ⟨Nat.le_of_ble_eq_true rfl, Nat.le_of_ble_eq_true rfl⟩ rfl hl.1 (lv_room (Nat.le_of_ble_eq_true rfl)) dX10_endAt_92) (fun H locs X => ?_)
    obtain ⟨r14, qr14, h⟩ := bn1_s h
    refine kc_i X (res := (r14, S)) (rV (As := [.int r13]) (rest := []) (n := 1) (k := 0) C X (c_X10_kindOf l g ad S _ r13  qr14) wd_1258 wd_1260 wd_46 wd_83 wd_1261 (by decide) (eM_0 g ad S) rfl rfl rfl (by decide +kernel) ⟨Nat.le_of_ble_eq_true rfl, Nat.le_of_ble_eq_true rfl⟩ rfl hl.1 (lv_room (Nat.le_of_ble_eq_true rfl)) dX10_endAt_95) (fun H locs X => ?_)
    refine lv_if_ne (tgt := 105) hx hb dX10_endAt_98 (by decide) (fun c15 => ?_) (fun c15 => ?_)
    · have h := inn h c15
      refine lv_iconst (v := (0 : Int32)) hx hb dX10_endAt_105 (by decide) ?_
      exact kb_X10_endAt_106 C h X (lv_sub hl [] rfl) 
    · have h := ip h c15
      refine lv_iconst (v := (1 : Int32)) hx hb dX10_endAt_101 (by decide) ?_
      refine lv_goto (tgt := 106) hx hb dX10_endAt_102 (by decide) ?_
      exact kb_X10_endAt_106 C h X (lv_sub hl [] rfl) 
set_option maxHeartbeats 4000000 in
set_option maxRecDepth 100000 in
theorem c_X10_endAt (l : Launch) (g : GG) (ad : Nat → Nat) (S : ST) (sz : Nat) (a1 : Int32) (a2 : Int32)  {res : Int32} (h : f_X10_endAt a1 a2 S = some res) : Met l yX10_endAt (WS (.code yX10_endAt cX10_endAt 4 (some Jvm.ClassFile.FieldType.int))) rmX10_endAt (va_Pc [.ref (ad 0), .int a1, .int a2] (PW kM g ad S sz)) (QI kM g ad (res, S) (AA kM ad sz)) 0 0 (AA kM ad sz) := by
  refine go_m (Qc := fun A => QI kM g ad (res, S) A) (by decide) (Nat.le_of_ble_eq_true rfl) (fun p e s m below meth c ls H locs C X hl => ?_)
  have hx := C.1.1
  have hb := C.1.2.1
  have hl : lv_has ls 4 [(0, .ref (ad 0)), (1, .int a1), (2, .int a2)] := hl
  have h : (chk (ib a1 201) (if (S.1 14 a1.toNatClampNeg) ≤ (S.1 0 23) then (chk (ib a1 201) (if 0 ≤ (S.1 15 a1.toNatClampNeg) then (if a1 < (a2 + (S.1 0 27)) then (chk (ib a1 201) (if 0 ≤ (S.1 13 a1.toNatClampNeg) then (b_X10_endAt_68 S a1) else (bn1 (f_X10_handsX a1 S) fun r16 => if (-(S.1 1 ((6 : Int32)).toNatClampNeg)) ≤ r16 then (b_X10_endAt_68 S a1) else (some ((6 : Int32)))))) else (some ((9 : Int32)))) else (some ((5 : Int32))))) else (some ((7 : Int32)))) : Option Int32) = some res := h
  refine lv_aload_n hx hb dX10_endAt_0 rfl (lv_at hl 0 rfl) ?_
  refine g_get C X inT10 0 (by decide) (eM_0 g ad S) rfl 31 (by decide) wd_1037 (v := .ref (ad 14)) rfl dX10_endAt_1 ?_
  refine lv_iload_n hx hb dX10_endAt_4 rfl (lv_at hl 1 rfl) ?_
  obtain ⟨k1, h⟩ := chk_s h
  refine g_iald C X 14 (by decide) (eM_14 g ad S) k1 dX10_endAt_5 ?_
  refine lv_aload_n hx hb dX10_endAt_6 rfl (lv_at hl 0 rfl) ?_
  refine g_get C X inT10 0 (by decide) (eM_0 g ad S) rfl 23 (by decide) wd_1029 (v := .int (S.1 0 23)) rfl dX10_endAt_7 ?_
  refine lv_icmp_le (tgt := 16) hx hb dX10_endAt_10 (by decide) (fun c2 => ?_) (fun c2 => ?_)
  · have h := ip h c2
    refine lv_aload_n hx hb dX10_endAt_16 rfl (lv_at hl 0 rfl) ?_
    refine g_get C X inT10 0 (by decide) (eM_0 g ad S) rfl 32 (by decide) wd_1038 (v := .ref (ad 15)) rfl dX10_endAt_17 ?_
    refine lv_iload_n hx hb dX10_endAt_20 rfl (lv_at hl 1 rfl) ?_
    obtain ⟨k3, h⟩ := chk_s h
    refine g_iald C X 15 (by decide) (eM_15 g ad S) k3 dX10_endAt_21 ?_
    refine lv_if_ge (tgt := 27) hx hb dX10_endAt_22 (by decide) (fun c4 => ?_) (fun c4 => ?_)
    · have h := ip h c4
      refine lv_iload_n hx hb dX10_endAt_27 rfl (lv_at hl 1 rfl) ?_
      refine lv_iload_n hx hb dX10_endAt_28 rfl (lv_at hl 2 rfl) ?_
      refine lv_aload_n hx hb dX10_endAt_29 rfl (lv_at hl 0 rfl) ?_
      refine g_get C X inT10 0 (by decide) (eM_0 g ad S) rfl 27 (by decide) wd_1033 (v := .int (S.1 0 27)) rfl dX10_endAt_30 ?_
      refine lv_iadd hx hb dX10_endAt_33 ?_
      refine lv_icmp_lt (tgt := 40) hx hb dX10_endAt_34 (by decide) (fun c5 => ?_) (fun c5 => ?_)
      · have h := ip h c5
        refine lv_aload_n hx hb dX10_endAt_40 rfl (lv_at hl 0 rfl) ?_
        refine g_get C X inT10 0 (by decide) (eM_0 g ad S) rfl 30 (by decide) wd_1036 (v := .ref (ad 13)) rfl dX10_endAt_41 ?_
        refine lv_iload_n hx hb dX10_endAt_44 rfl (lv_at hl 1 rfl) ?_
        obtain ⟨k6, h⟩ := chk_s h
        refine g_iald C X 13 (by decide) (eM_13 g ad S) k6 dX10_endAt_45 ?_
        refine lv_if_ge (tgt := 68) hx hb dX10_endAt_46 (by decide) (fun c7 => ?_) (fun c7 => ?_)
        · have h := ip h c7
          exact kb_X10_endAt_68 C h X (lv_sub hl [0, 1] rfl) 
        · have h := inn h c7
          refine lv_aload_n hx hb dX10_endAt_49 rfl (lv_at hl 0 rfl) ?_
          refine lv_iload_n hx hb dX10_endAt_50 rfl (lv_at hl 1 rfl) ?_
          obtain ⟨r16, qr16, h⟩ := bn1_s h
          refine kc_i X (res := (r16, S)) (rV (As := [.int a1]) (rest := []) (n := 1) (k := 0) C X (c_X10_handsX l g ad S _ a1  qr16) wd_1327 wd_1329 wd_53 wd_83 wd_1330 (by decide) (eM_0 g ad S) rfl rfl rfl (by decide +kernel) ⟨Nat.le_of_ble_eq_true rfl, Nat.le_of_ble_eq_true rfl⟩ rfl hl.1 (lv_room (Nat.le_of_ble_eq_true rfl)) dX10_endAt_51) (fun H locs X => ?_)
          refine lv_aload_n hx hb dX10_endAt_54 rfl (lv_at hl 0 rfl) ?_
          refine g_get C X inT10 0 (by decide) (eM_0 g ad S) rfl 0 (by decide) wd_1006 (v := .ref (ad 1)) rfl dX10_endAt_55 ?_
          refine lv_bipush (v := (6 : Int32)) hx hb dX10_endAt_58 (by decide) ?_
          refine g_iald C X 1 (by decide) (eM_1 g ad S) (by decide) dX10_endAt_60 ?_
          refine lv_ineg hx hb dX10_endAt_61 ?_
          refine lv_icmp_ge (tgt := 68) hx hb dX10_endAt_62 (by decide) (fun c17 => ?_) (fun c17 => ?_)
          · have h := ip h c17
            exact kb_X10_endAt_68 C h X (lv_sub hl [0, 1] rfl) 
          · have h := inn h c17
            refine lv_bipush (v := (6 : Int32)) hx hb dX10_endAt_65 (by decide) ?_
            exact rt_i C X rfl (congrArg (fun z => (z, S)) (Option.some.inj h)) dX10_endAt_67
      · have h := inn h c5
        refine lv_bipush (v := (9 : Int32)) hx hb dX10_endAt_37 (by decide) ?_
        exact rt_i C X rfl (congrArg (fun z => (z, S)) (Option.some.inj h)) dX10_endAt_39
    · have h := inn h c4
      refine lv_iconst (v := (5 : Int32)) hx hb dX10_endAt_25 (by decide) ?_
      exact rt_i C X rfl (congrArg (fun z => (z, S)) (Option.some.inj h)) dX10_endAt_26
  · have h := inn h c2
    refine lv_bipush (v := (7 : Int32)) hx hb dX10_endAt_13 (by decide) ?_
    exact rt_i C X rfl (congrArg (fun z => (z, S)) (Option.some.inj h)) dX10_endAt_15

def rmX10_letGo : Room := { frames := 5, cells := 0, slots := 0, locals := 121 }
def b_X10_letGo_98  (v1 : Int32) (v2 : Int32) (S : ST) : Option ST :=
  bn1 (f_X10_fly v2 v1 S) fun S13 => some S13
def b_X10_letGo_86  (v2 : Int32) (v3 : Int32) (S : ST) : Option ST :=
  if v3 = ((5 : Int32)) then (b_X10_letGo_98 ((1 : Int32)) v2 S) else (b_X10_letGo_98 ((0 : Int32)) v2 S)
def b_X10_letGo_72  (v2 : Int32) (v3 : Int32) (v4 : Int32) (S : ST) : Option ST :=
  nm (su S 0 33 v4) fun S10 => if v3 = ((9 : Int32)) then (b_X10_letGo_86 v2 v3 S10) else (if v3 = ((5 : Int32)) then (b_X10_letGo_86 v2 v3 S10) else (some S10))
def b_X10_letGo_33  (v2 : Int32) (v3 : Int32) (S : ST) : Option ST :=
  nm (su S 0 35 v2) fun S3 => nm (su S3 0 36 ((0 : Int32))) fun S4 => nm (su S4 0 37 ((0 : Int32))) fun S5 => nm (su S5 0 38 ((0 : Int32))) fun S6 => bn1 (f_X10_handsX v2 S6) fun r7 => nm (su S6 0 34 r7) fun S8 => if 0 ≤ v3 then (b_X10_letGo_72 v2 v3 v3 S8) else (b_X10_letGo_72 v2 v3 ((0 : Int32)) S8)
def b_X10_letGo_9 (K9 : Int32 → Int32 → Int32 → ST → Option ST) (v2 : Int32) (v3 : Int32) (v4 : Int32) (S : ST) : Option ST :=
  if 0 ≤ v4 then (b_X10_letGo_33 v3 v4 S) else (if ((200 : Int32)) ≤ v3 then (b_X10_letGo_33 v3 v4 S) else (nm (v3 + (1 : Int32)) fun x16 => bn1 (f_X10_endAt x16 v2 S) fun r17 => K9 v2 x16 r17 S))
def f_X10_letGo (a1 : Int32) (S : ST) : Option ST :=
  bn1 (f_X10_endAt ((1 : Int32)) a1 S) fun r1 => lp (fun _ _ _ _ => none) (b_X10_letGo_9) 1000 a1 ((1 : Int32)) r1 S
set_option maxHeartbeats 4000000 in
set_option maxRecDepth 100000 in
theorem kb_X10_letGo_98 {p : Program} {l : Launch} {e : Env} {s : State} {m : MethodId} {args : Array Value} {below : List Frame} {meth : Method} {c : Code} {g : GG} {ad : Nat → Nat} {res : ST} {S : ST} (C : CX kM g ad p s m args meth c cX10_letGo none 4 yX10_letGo.cls (.code yX10_letGo cX10_letGo 4 none))  {v1 : Int32} {v2 : Int32}  {H : Heap} {locs : List Loc} {ls : Array Slot} (h : b_X10_letGo_98 v1 v2 S = some res) (X : WX kM g ad s S H locs) (hl : lv_has ls 4 [])  : W p l e rmX10_letGo s m args below meth c H locs 0 0 (MQ below (QV kM g ad res (AA kM ad s.heap.size)) args s 0 0 (AA kM ad s.heap.size)) (F0 m 98 ls [.int v1, .int v2, .ref (ad 0)]) := by
  have hx := C.1.1
  have hb := C.1.2.1
  have h : (bn1 (f_X10_fly v2 v1 S) fun S13 => some S13 : Option ST) = some res := h
  obtain ⟨S13, qS13, h⟩ := bn1_s h
  refine kc_v X (res := S13) (rV (As := [.int v2, .int v1]) (rest := []) (n := 2) (k := 0) C X (c_X10_fly l g ad S _ v2 v1  qS13) wd_1357 wd_1359 wd_58 wd_83 wd_1360 (by decide) (eM_0 g ad S) rfl rfl rfl (by decide +kernel) ⟨Nat.le_of_ble_eq_true rfl, Nat.le_of_ble_eq_true rfl⟩ rfl hl.1 (lv_room (Nat.le_of_ble_eq_true rfl)) dX10_letGo_98) (fun H locs X => ?_)
  exact rt_v C X rfl (Option.some.inj h) dX10_letGo_101
set_option maxHeartbeats 4000000 in
set_option maxRecDepth 100000 in
theorem kb_X10_letGo_86 {p : Program} {l : Launch} {e : Env} {s : State} {m : MethodId} {args : Array Value} {below : List Frame} {meth : Method} {c : Code} {g : GG} {ad : Nat → Nat} {res : ST} {S : ST} (C : CX kM g ad p s m args meth c cX10_letGo none 4 yX10_letGo.cls (.code yX10_letGo cX10_letGo 4 none))  {v2 : Int32} {v3 : Int32}  {H : Heap} {locs : List Loc} {ls : Array Slot} (h : b_X10_letGo_86 v2 v3 S = some res) (X : WX kM g ad s S H locs) (hl : lv_has ls 4 [(0, .ref (ad 0)), (2, .int v2), (3, .int v3)])  : W p l e rmX10_letGo s m args below meth c H locs 0 0 (MQ below (QV kM g ad res (AA kM ad s.heap.size)) args s 0 0 (AA kM ad s.heap.size)) (F0 m 86 ls []) := by
  have hx := C.1.1
  have hb := C.1.2.1
  have h : (if v3 = ((5 : Int32)) then (b_X10_letGo_98 ((1 : Int32)) v2 S) else (b_X10_letGo_98 ((0 : Int32)) v2 S) : Option ST) = some res := h
  refine lv_aload_n hx hb dX10_letGo_86 rfl (lv_at hl 0 rfl) ?_
  refine lv_iload_n hx hb dX10_letGo_87 rfl (lv_at hl 1 rfl) ?_
  refine lv_iload_n hx hb dX10_letGo_88 rfl (lv_at hl 2 rfl) ?_
  refine lv_iconst (v := (5 : Int32)) hx hb dX10_letGo_89 (by decide) ?_
  refine lv_icmp_ne (tgt := 97) hx hb dX10_letGo_90 (by decide) (fun c12 => ?_) (fun c12 => ?_)
  · have h := inn h c12
    refine lv_iconst (v := (0 : Int32)) hx hb dX10_letGo_97 (by decide) ?_
    exact kb_X10_letGo_98 C h X (lv_sub hl [] rfl) 
  · have h := ip h c12
    refine lv_iconst (v := (1 : Int32)) hx hb dX10_letGo_93 (by decide) ?_
    refine lv_goto (tgt := 98) hx hb dX10_letGo_94 (by decide) ?_
    exact kb_X10_letGo_98 C h X (lv_sub hl [] rfl) 
set_option maxHeartbeats 4000000 in
set_option maxRecDepth 100000 in
theorem kb_X10_letGo_72 {p : Program} {l : Launch} {e : Env} {s : State} {m : MethodId} {args : Array Value} {below : List Frame} {meth : Method} {c : Code} {g : GG} {ad : Nat → Nat} {res : ST} {S : ST} (C : CX kM g ad p s m args meth c cX10_letGo none 4 yX10_letGo.cls (.code yX10_letGo cX10_letGo 4 none))  {v2 : Int32} {v3 : Int32} {v4 : Int32}  {H : Heap} {locs : List Loc} {ls : Array Slot} (h : b_X10_letGo_72 v2 v3 v4 S = some res) (X : WX kM g ad s S H locs) (hl : lv_has ls 4 [(0, .ref (ad 0)), (2, .int v2), (3, .int v3)])  : W p l e rmX10_letGo s m args below meth c H locs 0 0 (MQ below (QV kM g ad res (AA kM ad s.heap.size)) args s 0 0 (AA kM ad s.heap.size)) (F0 m 72 ls [.int v4, .ref (ad 0)]) := by
  have hx := C.1.1
  have hb := C.1.2.1
  have h : (nm (su S 0 33 v4) fun S10 => if v3 = ((9 : Int32)) then (b_X10_letGo_86 v2 v3 S10) else (if v3 = ((5 : Int32)) then (b_X10_letGo_86 v2 v3 S10) else (some S10)) : Option ST) = some res := h
  obtain ⟨S10, eS10, h⟩ := nm_s h
  refine g_put (S' := S10) C X inT10 tyX10 tyX10_ok nmX10 0 (by decide) (eM_0 g ad S) rfl 33 (by decide) wd_1039 rfl (by rfl) rfl (Nat.le_of_ble_eq_true rfl) (by subst eS10; rfl) (by subst eS10; exact fun i hi => ent_offu hi) dX10_letGo_72 (fun H locs X => ?_)
  refine lv_iload_n hx hb dX10_letGo_75 rfl (lv_at hl 2 rfl) ?_
  refine lv_bipush (v := (9 : Int32)) hx hb dX10_letGo_76 (by decide) ?_
  refine lv_icmp_eq (tgt := 86) hx hb dX10_letGo_78 (by decide) (fun c11 => ?_) (fun c11 => ?_)
  · have h := ip h c11
    exact kb_X10_letGo_86 C h X (lv_sub hl [0, 1, 2] rfl) 
  · have h := inn h c11
    refine lv_iload_n hx hb dX10_letGo_81 rfl (lv_at hl 2 rfl) ?_
    refine lv_iconst (v := (5 : Int32)) hx hb dX10_letGo_82 (by decide) ?_
    refine lv_icmp_ne (tgt := 101) hx hb dX10_letGo_83 (by decide) (fun c14 => ?_) (fun c14 => ?_)
    · have h := inn h c14
      exact rt_v C X rfl (Option.some.inj h) dX10_letGo_101
    · have h := ip h c14
      exact kb_X10_letGo_86 C h X (lv_sub hl [0, 1, 2] rfl) 
set_option maxHeartbeats 4000000 in
set_option maxRecDepth 100000 in
theorem kb_X10_letGo_33 {p : Program} {l : Launch} {e : Env} {s : State} {m : MethodId} {args : Array Value} {below : List Frame} {meth : Method} {c : Code} {g : GG} {ad : Nat → Nat} {res : ST} {S : ST} (C : CX kM g ad p s m args meth c cX10_letGo none 4 yX10_letGo.cls (.code yX10_letGo cX10_letGo 4 none))  {v2 : Int32} {v3 : Int32}  {H : Heap} {locs : List Loc} {ls : Array Slot} (h : b_X10_letGo_33 v2 v3 S = some res) (X : WX kM g ad s S H locs) (hl : lv_has ls 4 [(0, .ref (ad 0)), (2, .int v2), (3, .int v3)])  : W p l e rmX10_letGo s m args below meth c H locs 0 0 (MQ below (QV kM g ad res (AA kM ad s.heap.size)) args s 0 0 (AA kM ad s.heap.size)) (F0 m 33 ls []) := by
  have hx := C.1.1
  have hb := C.1.2.1
  have h : (nm (su S 0 35 v2) fun S3 => nm (su S3 0 36 ((0 : Int32))) fun S4 => nm (su S4 0 37 ((0 : Int32))) fun S5 => nm (su S5 0 38 ((0 : Int32))) fun S6 => bn1 (f_X10_handsX v2 S6) fun r7 => nm (su S6 0 34 r7) fun S8 => if 0 ≤ v3 then (b_X10_letGo_72 v2 v3 v3 S8) else (b_X10_letGo_72 v2 v3 ((0 : Int32)) S8) : Option ST) = some res := h
  refine lv_aload_n hx hb dX10_letGo_33 rfl (lv_at hl 0 rfl) ?_
  refine lv_iload_n hx hb dX10_letGo_34 rfl (lv_at hl 1 rfl) ?_
  obtain ⟨S3, eS3, h⟩ := nm_s h
  refine g_put (S' := S3) C X inT10 tyX10 tyX10_ok nmX10 0 (by decide) (eM_0 g ad S) rfl 35 (by decide) wd_1041 rfl (by rfl) rfl (Nat.le_of_ble_eq_true rfl) (by subst eS3; rfl) (by subst eS3; exact fun i hi => ent_offu hi) dX10_letGo_35 (fun H locs X => ?_)
  refine lv_aload_n hx hb dX10_letGo_38 rfl (lv_at hl 0 rfl) ?_
  refine lv_iconst (v := (0 : Int32)) hx hb dX10_letGo_39 (by decide) ?_
  obtain ⟨S4, eS4, h⟩ := nm_s h
  refine g_put (S' := S4) C X inT10 tyX10 tyX10_ok nmX10 0 (by decide) (eM_0 g ad S3) rfl 36 (by decide) wd_1042 rfl (by rfl) rfl (Nat.le_of_ble_eq_true rfl) (by subst eS4; rfl) (by subst eS4; exact fun i hi => ent_offu hi) dX10_letGo_40 (fun H locs X => ?_)
  refine lv_aload_n hx hb dX10_letGo_43 rfl (lv_at hl 0 rfl) ?_
  refine lv_iconst (v := (0 : Int32)) hx hb dX10_letGo_44 (by decide) ?_
  obtain ⟨S5, eS5, h⟩ := nm_s h
  refine g_put (S' := S5) C X inT10 tyX10 tyX10_ok nmX10 0 (by decide) (eM_0 g ad S4) rfl 37 (by decide) wd_1043 rfl (by rfl) rfl (Nat.le_of_ble_eq_true rfl) (by subst eS5; rfl) (by subst eS5; exact fun i hi => ent_offu hi) dX10_letGo_45 (fun H locs X => ?_)
  refine lv_aload_n hx hb dX10_letGo_48 rfl (lv_at hl 0 rfl) ?_
  refine lv_iconst (v := (0 : Int32)) hx hb dX10_letGo_49 (by decide) ?_
  obtain ⟨S6, eS6, h⟩ := nm_s h
  refine g_put (S' := S6) C X inT10 tyX10 tyX10_ok nmX10 0 (by decide) (eM_0 g ad S5) rfl 38 (by decide) wd_1044 rfl (by rfl) rfl (Nat.le_of_ble_eq_true rfl) (by subst eS6; rfl) (by subst eS6; exact fun i hi => ent_offu hi) dX10_letGo_50 (fun H locs X => ?_)
  refine lv_aload_n hx hb dX10_letGo_53 rfl (lv_at hl 0 rfl) ?_
  refine lv_aload_n hx hb dX10_letGo_54 rfl (lv_at hl 0 rfl) ?_
  refine lv_iload_n hx hb dX10_letGo_55 rfl (lv_at hl 1 rfl) ?_
  obtain ⟨r7, qr7, h⟩ := bn1_s h
  refine kc_i X (res := (r7, S6)) (rV (As := [.int v2]) (rest := [.ref (ad 0)]) (n := 1) (k := 0) C X (c_X10_handsX l g ad S6 _ v2  qr7) wd_1327 wd_1329 wd_53 wd_83 wd_1330 (by decide) (eM_0 g ad S6) rfl rfl rfl (by decide +kernel) ⟨Nat.le_of_ble_eq_true rfl, Nat.le_of_ble_eq_true rfl⟩ rfl hl.1 (lv_room (Nat.le_of_ble_eq_true rfl)) dX10_letGo_56) (fun H locs X => ?_)
  obtain ⟨S8, eS8, h⟩ := nm_s h
  refine g_put (S' := S8) C X inT10 tyX10 tyX10_ok nmX10 0 (by decide) (eM_0 g ad S6) rfl 34 (by decide) wd_1040 rfl (by rfl) rfl (Nat.le_of_ble_eq_true rfl) (by subst eS8; rfl) (by subst eS8; exact fun i hi => ent_offu hi) dX10_letGo_59 (fun H locs X => ?_)
  refine lv_aload_n hx hb dX10_letGo_62 rfl (lv_at hl 0 rfl) ?_
  refine lv_iload_n hx hb dX10_letGo_63 rfl (lv_at hl 2 rfl) ?_
  refine lv_if_ge (tgt := 71) hx hb dX10_letGo_64 (by decide) (fun c9 => ?_) (fun c9 => ?_)
  · have h := ip h c9
    refine lv_iload_n hx hb dX10_letGo_71 rfl (lv_at hl 2 rfl) ?_
    exact kb_X10_letGo_72 C h X (lv_sub hl [0, 1, 2] rfl) 
  · have h := inn h c9
    refine lv_iconst (v := (0 : Int32)) hx hb dX10_letGo_67 (by decide) ?_
    refine lv_goto (tgt := 72) hx hb dX10_letGo_68 (by decide) ?_
    exact kb_X10_letGo_72 C h X (lv_sub hl [0, 1, 2] rfl) 
set_option maxHeartbeats 4000000 in
set_option maxRecDepth 100000 in
theorem kb_X10_letGo_9 {p : Program} {l : Launch} {e : Env} {s : State} {m : MethodId} {args : Array Value} {below : List Frame} {meth : Method} {c : Code} {g : GG} {ad : Nat → Nat} {res : ST} {S : ST} (C : CX kM g ad p s m args meth c cX10_letGo none 4 yX10_letGo.cls (.code yX10_letGo cX10_letGo 4 none)) {K9 : Int32 → Int32 → Int32 → ST → Option ST} (hK9 : ∀ {v2 : Int32} {v3 : Int32} {v4 : Int32} {S : ST} {H : Heap} {locs : List Loc} {ls : Array Slot}, K9 v2 v3 v4 S = some res → WX kM g ad s S H locs → lv_has ls 4 [(0, .ref (ad 0)), (1, .int v2), (2, .int v3), (3, .int v4)] → W p l e rmX10_letGo s m args below meth c H locs 0 0 (MQ below (QV kM g ad res (AA kM ad s.heap.size)) args s 0 0 (AA kM ad s.heap.size)) (F0 m 9 ls [])) {v2 : Int32} {v3 : Int32} {v4 : Int32}  {H : Heap} {locs : List Loc} {ls : Array Slot} (h : b_X10_letGo_9 K9 v2 v3 v4 S = some res) (X : WX kM g ad s S H locs) (hl : lv_has ls 4 [(0, .ref (ad 0)), (1, .int v2), (2, .int v3), (3, .int v4)])  : W p l e rmX10_letGo s m args below meth c H locs 0 0 (MQ below (QV kM g ad res (AA kM ad s.heap.size)) args s 0 0 (AA kM ad s.heap.size)) (F0 m 9 ls []) := by
  have hx := C.1.1
  have hb := C.1.2.1
  have h : (if 0 ≤ v4 then (b_X10_letGo_33 v3 v4 S) else (if ((200 : Int32)) ≤ v3 then (b_X10_letGo_33 v3 v4 S) else (nm (v3 + (1 : Int32)) fun x16 => bn1 (f_X10_endAt x16 v2 S) fun r17 => K9 v2 x16 r17 S)) : Option ST) = some res := h
  refine lv_iload_n hx hb dX10_letGo_9 rfl (lv_at hl 3 rfl) ?_
  refine lv_if_ge (tgt := 33) hx hb dX10_letGo_10 (by decide) (fun c2 => ?_) (fun c2 => ?_)
  · have h := ip h c2
    exact kb_X10_letGo_33 C h X (lv_sub hl [0, 2, 3] rfl) 
  · have h := inn h c2
    refine lv_iload_n hx hb dX10_letGo_13 rfl (lv_at hl 2 rfl) ?_
    refine lv_sipush (v := (200 : Int32)) hx hb dX10_letGo_14 (by decide) ?_
    refine lv_icmp_ge (tgt := 33) hx hb dX10_letGo_17 (by decide) (fun c15 => ?_) (fun c15 => ?_)
    · have h := ip h c15
      exact kb_X10_letGo_33 C h X (lv_sub hl [0, 2, 3] rfl) 
    · have h := inn h c15
      obtain ⟨x16, ex16, h⟩ := nm_s h
      refine lv_iinc (v := x16) (lv' := [(2, .int x16), (0, .ref (ad 0)), (1, .int v2), (3, .int v4)]) hx hb dX10_letGo_20 hl (k := 2) rfl (by rw [ex16]; rfl) (by decide) rfl (fun ls hl => ?_)
      refine lv_aload_n hx hb dX10_letGo_23 rfl (lv_at hl 1 rfl) ?_
      refine lv_iload_n hx hb dX10_letGo_24 rfl (lv_at hl 0 rfl) ?_
      refine lv_iload_n hx hb dX10_letGo_25 rfl (lv_at hl 2 rfl) ?_
      obtain ⟨r17, qr17, h⟩ := bn1_s h
      refine kc_i X (res := (r17, S)) (rV (As := [.int x16, .int v2]) (rest := []) (n := 2) (k := 0) C X (c_X10_endAt l g ad S _ x16 v2  qr17) wd_1350 wd_1352 wd_57 wd_83 wd_1353 (by decide) (eM_0 g ad S) rfl rfl rfl (by decide +kernel) ⟨Nat.le_of_ble_eq_true rfl, Nat.le_of_ble_eq_true rfl⟩ rfl hl.1 (lv_room (Nat.le_of_ble_eq_true rfl)) dX10_letGo_26) (fun H locs X => ?_)
      refine lv_istore_n (lv' := [(3, .int r17), (2, .int x16), (0, .ref (ad 0)), (1, .int v2)]) hx hb dX10_letGo_29 rfl hl (by decide) rfl (fun ls hl => ?_)
      refine lv_goto (tgt := 9) hx hb dX10_letGo_30 (by decide) ?_
      exact hK9 h X (lv_sub hl [2, 3, 1, 0] rfl) 
set_option maxHeartbeats 4000000 in
set_option maxRecDepth 100000 in
theorem kl_X10_letGo_9 {p : Program} {l : Launch} {e : Env} {s : State} {m : MethodId} {args : Array Value} {below : List Frame} {meth : Method} {c : Code} {g : GG} {ad : Nat → Nat} {res : ST}  (C : CX kM g ad p s m args meth c cX10_letGo none 4 yX10_letGo.cls (.code yX10_letGo cX10_letGo 4 none))  : ∀ (n : Nat) {v2 : Int32} {v3 : Int32} {v4 : Int32} {S : ST} {H : Heap} {locs : List Loc} {ls : Array Slot}, (lp (fun _ _ _ _ => none) (b_X10_letGo_9)) n v2 v3 v4 S = some res → WX kM g ad s S H locs → lv_has ls 4 [(0, .ref (ad 0)), (1, .int v2), (2, .int v3), (3, .int v4)] → W p l e rmX10_letGo s m args below meth c H locs 0 0 (MQ below (QV kM g ad res (AA kM ad s.heap.size)) args s 0 0 (AA kM ad s.heap.size)) (F0 m 9 ls []) := by
  intro n
  induction n with
  | zero =>
    intro v2 v3 v4 S H locs ls h
    cases (show (none : Option ST) = some res from h)
  | succ n ih =>
    intro v2 v3 v4 S H locs ls h X hl 
    exact kb_X10_letGo_9 C ih h X hl 
set_option maxHeartbeats 4000000 in
set_option maxRecDepth 100000 in
theorem c_X10_letGo (l : Launch) (g : GG) (ad : Nat → Nat) (S : ST) (sz : Nat) (a1 : Int32)  {res : ST} (h : f_X10_letGo a1 S = some res) : Met l yX10_letGo (WS (.code yX10_letGo cX10_letGo 4 none)) rmX10_letGo (va_Pc [.ref (ad 0), .int a1] (PW kM g ad S sz)) (QV kM g ad res (AA kM ad sz)) 0 0 (AA kM ad sz) := by
  refine go_m (Qc := fun A => QV kM g ad res A) (by decide) (Nat.le_of_ble_eq_true rfl) (fun p e s m below meth c ls H locs C X hl => ?_)
  have hx := C.1.1
  have hb := C.1.2.1
  have hl : lv_has ls 4 [(0, .ref (ad 0)), (1, .int a1)] := hl
  have h : (bn1 (f_X10_endAt ((1 : Int32)) a1 S) fun r1 => lp (fun _ _ _ _ => none) (b_X10_letGo_9) 1000 a1 ((1 : Int32)) r1 S : Option ST) = some res := h
  refine lv_iconst (v := (1 : Int32)) hx hb dX10_letGo_0 (by decide) ?_
  refine lv_istore_n (lv' := [(2, .int ((1 : Int32))), (0, .ref (ad 0)), (1, .int a1)]) hx hb dX10_letGo_1 rfl hl (by decide) rfl (fun ls hl => ?_)
  refine lv_aload_n hx hb dX10_letGo_2 rfl (lv_at hl 1 rfl) ?_
  refine lv_iconst (v := (1 : Int32)) hx hb dX10_letGo_3 (by decide) ?_
  refine lv_iload_n hx hb dX10_letGo_4 rfl (lv_at hl 2 rfl) ?_
  obtain ⟨r1, qr1, h⟩ := bn1_s h
  refine kc_i X (res := (r1, S)) (rV (As := [.int ((1 : Int32)), .int a1]) (rest := []) (n := 2) (k := 0) C X (c_X10_endAt l g ad S _ ((1 : Int32)) a1  qr1) wd_1350 wd_1352 wd_57 wd_83 wd_1353 (by decide) (eM_0 g ad S) rfl rfl rfl (by decide +kernel) ⟨Nat.le_of_ble_eq_true rfl, Nat.le_of_ble_eq_true rfl⟩ rfl hl.1 (lv_room (Nat.le_of_ble_eq_true rfl)) dX10_letGo_5) (fun H locs X => ?_)
  refine lv_istore_n (lv' := [(3, .int r1), (2, .int ((1 : Int32))), (0, .ref (ad 0)), (1, .int a1)]) hx hb dX10_letGo_8 rfl hl (by decide) rfl (fun ls hl => ?_)
  exact kl_X10_letGo_9 C _ h X (lv_sub hl [2, 3, 1, 0] rfl) 

def rmX10_isTime : Room := { frames := 1, cells := 0, slots := 0, locals := 25 }
def f_X10_isTime (a1 : Int32) : Option Int32 :=
  bn1 (f_X10_in (a1.toInt64) ((1 : Int64)) ((200 : Int64))) fun r1 => chk (zb r1) (some r1)
set_option maxHeartbeats 4000000 in
set_option maxRecDepth 100000 in
theorem c_X10_isTime (l : Launch) (g : GG) (ad : Nat → Nat) (S : ST) (sz : Nat) (a1 : Int32)  {res : Int32} (h : f_X10_isTime a1 = some res) : Met l yX10_isTime (WS (.code yX10_isTime cX10_isTime 1 (some Jvm.ClassFile.FieldType.boolean))) rmX10_isTime (va_Pc [.int a1] (PW kM g ad S sz)) (QI kM g ad (res, S) (AA kM ad sz)) 0 0 (AA kM ad sz) := by
  refine go_m (Qc := fun A => QI kM g ad (res, S) A) (by decide) (Nat.le_of_ble_eq_true rfl) (fun p e s m below meth c ls H locs C X hl => ?_)
  have hx := C.1.1
  have hb := C.1.2.1
  have hl : lv_has ls 1 [(0, .int a1)] := hl
  have h : (bn1 (f_X10_in (a1.toInt64) ((1 : Int64)) ((200 : Int64))) fun r1 => chk (zb r1) (some r1) : Option Int32) = some res := h
  refine lv_iload_n hx hb dX10_isTime_0 rfl (lv_at hl 0 rfl) ?_
  refine lv_i2l hx hb dX10_isTime_1 rfl ?_
  refine lv_lconst (v := (1 : Int64)) hx hb dX10_isTime_2 (by decide) ?_
  refine lv_ldc2 (v := (200 : Int64)) hx hb C.1.2.2.2.2.2.1 (C.1.2.2.2.2.2.2 _ (ws_in wd_1304)) dX10_isTime_3 ?_
  obtain ⟨r1, qr1, h⟩ := bn1_s h
  refine kc_i X (res := (r1, S)) (rS (As := [.long (a1.toInt64), .long ((1 : Int64)), .long ((200 : Int64))]) (rest := []) (n := 3) C X (c_X10_in l g ad S _ (a1.toInt64) ((1 : Int64)) ((200 : Int64))  qr1) wd_1151 wd_1152 wd_83 wd_1153 rfl rfl (by decide +kernel) ⟨Nat.le_of_ble_eq_true rfl, Nat.le_of_ble_eq_true rfl⟩ rfl hl.1 (lv_room (Nat.le_of_ble_eq_true rfl)) dX10_isTime_6) (fun H locs X => ?_)
  obtain ⟨k2, h⟩ := chk_s h
  exact rt_z C X rfl (zb_or k2) (congrArg (fun z => (z, S)) (Option.some.inj h)) dX10_isTime_9

def rmX10_ready : Room := { frames := 5, cells := 0, slots := 0, locals := 110 }
def f_X10_ready (a1 : Int32) (S : ST) : Option ST :=
  bn1 (f_X10_useHand S) fun S1 => bn1 (f_X10_usePerson a1 S1) fun S2 => bn1 (f_X10_swing S2) fun S3 => some S3
set_option maxHeartbeats 4000000 in
set_option maxRecDepth 100000 in
theorem c_X10_ready (l : Launch) (g : GG) (ad : Nat → Nat) (S : ST) (sz : Nat) (a1 : Int32)  {res : ST} (h : f_X10_ready a1 S = some res) : Met l yX10_ready (WS (.code yX10_ready cX10_ready 2 none)) rmX10_ready (va_Pc [.ref (ad 0), .int a1] (PW kM g ad S sz)) (QV kM g ad res (AA kM ad sz)) 0 0 (AA kM ad sz) := by
  refine go_m (Qc := fun A => QV kM g ad res A) (by decide) (Nat.le_of_ble_eq_true rfl) (fun p e s m below meth c ls H locs C X hl => ?_)
  have hx := C.1.1
  have hb := C.1.2.1
  have hl : lv_has ls 2 [(0, .ref (ad 0)), (1, .int a1)] := hl
  have h : (bn1 (f_X10_useHand S) fun S1 => bn1 (f_X10_usePerson a1 S1) fun S2 => bn1 (f_X10_swing S2) fun S3 => some S3 : Option ST) = some res := h
  refine lv_aload_n hx hb dX10_ready_0 rfl (lv_at hl 0 rfl) ?_
  obtain ⟨S1, qS1, h⟩ := bn1_s h
  refine kc_v X (res := S1) (rV (As := []) (rest := []) (n := 0) (k := 0) C X (c_X10_useHand l g ad S _   qS1) wd_1306 wd_1308 wd_49 wd_83 wd_1309 (by decide) (eM_0 g ad S) rfl rfl rfl (by decide +kernel) ⟨Nat.le_of_ble_eq_true rfl, Nat.le_of_ble_eq_true rfl⟩ rfl hl.1 (lv_room (Nat.le_of_ble_eq_true rfl)) dX10_ready_1) (fun H locs X => ?_)
  refine lv_aload_n hx hb dX10_ready_4 rfl (lv_at hl 0 rfl) ?_
  refine lv_iload_n hx hb dX10_ready_5 rfl (lv_at hl 1 rfl) ?_
  obtain ⟨S2, qS2, h⟩ := bn1_s h
  refine kc_v X (res := S2) (rV (As := [.int a1]) (rest := []) (n := 1) (k := 0) C X (c_X10_usePerson l g ad S1 _ a1  qS2) wd_1310 wd_1312 wd_50 wd_83 wd_1313 (by decide) (eM_0 g ad S1) rfl rfl rfl (by decide +kernel) ⟨Nat.le_of_ble_eq_true rfl, Nat.le_of_ble_eq_true rfl⟩ rfl hl.1 (lv_room (Nat.le_of_ble_eq_true rfl)) dX10_ready_6) (fun H locs X => ?_)
  refine lv_aload_n hx hb dX10_ready_9 rfl (lv_at hl 0 rfl) ?_
  obtain ⟨S3, qS3, h⟩ := bn1_s h
  refine kc_v X (res := S3) (rV (As := []) (rest := []) (n := 0) (k := 0) C X (c_X10_swing l g ad S2 _   qS3) wd_1314 wd_1316 wd_51 wd_83 wd_1317 (by decide) (eM_0 g ad S2) rfl rfl rfl (by decide +kernel) ⟨Nat.le_of_ble_eq_true rfl, Nat.le_of_ble_eq_true rfl⟩ rfl hl.1 (lv_room (Nat.le_of_ble_eq_true rfl)) dX10_ready_10) (fun H locs X => ?_)
  exact rt_v C X rfl (Option.some.inj h) dX10_ready_13

def rmX10_lands : Room := { frames := 6, cells := 0, slots := 0, locals := 144 }
def f_X10_lands (a1 : Int32) (a2 : Int32) (a3 : Int32) (S : ST) : Option (Int32 × ST) :=
  bn1 (f_X10_isSwinger a1 S) fun r1 => if r1 = 0 then (some ((-1000000001 : Int32), S)) else (bn1 (f_X10_isTime a2) fun r3 => if r3 = 0 then (some ((-1000000002 : Int32), S)) else (bn1 (f_X10_in (a3.toInt64) ((0 : Int64)) ((5 : Int64))) fun r5 => if r5 = 0 then (some ((-1000000002 : Int32), S)) else (bn1 (f_X10_ready a1 S) fun S7 => bn1 (f_X10_letGo a2 S7) fun S8 => if a3 = (0 : Int32) then (some (S8.1 0 33, S8)) else (if a3 = (1 : Int32) then (some (S8.1 0 34, S8)) else (if a3 = (2 : Int32) then (some (S8.1 0 35, S8)) else (if a3 = (3 : Int32) then (some (S8.1 0 36, S8)) else (if a3 = (4 : Int32) then (some (S8.1 0 37, S8)) else (some (S8.1 0 38, S8)))))))))
set_option maxHeartbeats 4000000 in
set_option maxRecDepth 100000 in
theorem c_X10_lands (l : Launch) (g : GG) (ad : Nat → Nat) (S : ST) (sz : Nat) (a1 : Int32) (a2 : Int32) (a3 : Int32)  {res : (Int32 × ST)} (h : f_X10_lands a1 a2 a3 S = some res) : Met l yX10_lands (WS (.code yX10_lands cX10_lands 4 (some Jvm.ClassFile.FieldType.int))) rmX10_lands (va_Pc [.ref (ad 0), .int a1, .int a2, .int a3] (PW kM g ad S sz)) (QI kM g ad res (AA kM ad sz)) 0 0 (AA kM ad sz) := by
  refine go_m (Qc := fun A => QI kM g ad res A) (by decide) (Nat.le_of_ble_eq_true rfl) (fun p e s m below meth c ls H locs C X hl => ?_)
  have hx := C.1.1
  have hb := C.1.2.1
  have hl : lv_has ls 4 [(0, .ref (ad 0)), (1, .int a1), (2, .int a2), (3, .int a3)] := hl
  have h : (bn1 (f_X10_isSwinger a1 S) fun r1 => if r1 = 0 then (some ((-1000000001 : Int32), S)) else (bn1 (f_X10_isTime a2) fun r3 => if r3 = 0 then (some ((-1000000002 : Int32), S)) else (bn1 (f_X10_in (a3.toInt64) ((0 : Int64)) ((5 : Int64))) fun r5 => if r5 = 0 then (some ((-1000000002 : Int32), S)) else (bn1 (f_X10_ready a1 S) fun S7 => bn1 (f_X10_letGo a2 S7) fun S8 => if a3 = (0 : Int32) then (some (S8.1 0 33, S8)) else (if a3 = (1 : Int32) then (some (S8.1 0 34, S8)) else (if a3 = (2 : Int32) then (some (S8.1 0 35, S8)) else (if a3 = (3 : Int32) then (some (S8.1 0 36, S8)) else (if a3 = (4 : Int32) then (some (S8.1 0 37, S8)) else (some (S8.1 0 38, S8))))))))) : Option (Int32 × ST)) = some res := h
  refine lv_aload_n hx hb dX10_lands_0 rfl (lv_at hl 0 rfl) ?_
  refine lv_iload_n hx hb dX10_lands_1 rfl (lv_at hl 1 rfl) ?_
  obtain ⟨r1, qr1, h⟩ := bn1_s h
  refine kc_i X (res := (r1, S)) (rV (As := [.int a1]) (rest := []) (n := 1) (k := 0) C X (c_X10_isSwinger l g ad S _ a1  qr1) wd_1266 wd_1268 wd_47 wd_83 wd_1269 (by decide) (eM_0 g ad S) rfl rfl rfl (by decide +kernel) ⟨Nat.le_of_ble_eq_true rfl, Nat.le_of_ble_eq_true rfl⟩ rfl hl.1 (lv_room (Nat.le_of_ble_eq_true rfl)) dX10_lands_2) (fun H locs X => ?_)
  refine lv_if_ne (tgt := 11) hx hb dX10_lands_5 (by decide) (fun c2 => ?_) (fun c2 => ?_)
  · have h := inn h c2
    refine lv_iload_n hx hb dX10_lands_11 rfl (lv_at hl 2 rfl) ?_
    obtain ⟨r3, qr3, h⟩ := bn1_s h
    refine kc_i X (res := (r3, S)) (rS (As := [.int a2]) (rest := []) (n := 1) C X (c_X10_isTime l g ad S _ a2  qr3) wd_1339 wd_1340 wd_83 wd_1341 rfl rfl (by decide +kernel) ⟨Nat.le_of_ble_eq_true rfl, Nat.le_of_ble_eq_true rfl⟩ rfl hl.1 (lv_room (Nat.le_of_ble_eq_true rfl)) dX10_lands_12) (fun H locs X => ?_)
    refine lv_if_eq (tgt := 30) hx hb dX10_lands_15 (by decide) (fun c4 => ?_) (fun c4 => ?_)
    · have h := ip h c4
      refine lv_ldc (v := (-1000000002 : Int32)) hx hb C.1.2.2.2.2.2.1 (C.1.2.2.2.2.2.2 _ (ws_in wd_1154)) dX10_lands_30 ?_
      exact rt_i C X rfl (Option.some.inj h) dX10_lands_32
    · have h := inn h c4
      refine lv_iload_n hx hb dX10_lands_18 rfl (lv_at hl 3 rfl) ?_
      refine lv_i2l hx hb dX10_lands_19 rfl ?_
      refine lv_lconst (v := (0 : Int64)) hx hb dX10_lands_20 (by decide) ?_
      refine lv_ldc2 (v := (5 : Int64)) hx hb C.1.2.2.2.2.2.1 (C.1.2.2.2.2.2.2 _ (ws_in wd_1305)) dX10_lands_21 ?_
      obtain ⟨r5, qr5, h⟩ := bn1_s h
      refine kc_i X (res := (r5, S)) (rS (As := [.long (a3.toInt64), .long ((0 : Int64)), .long ((5 : Int64))]) (rest := []) (n := 3) C X (c_X10_in l g ad S _ (a3.toInt64) ((0 : Int64)) ((5 : Int64))  qr5) wd_1151 wd_1152 wd_83 wd_1153 rfl rfl (by decide +kernel) ⟨Nat.le_of_ble_eq_true rfl, Nat.le_of_ble_eq_true rfl⟩ rfl hl.1 (lv_room (Nat.le_of_ble_eq_true rfl)) dX10_lands_24) (fun H locs X => ?_)
      refine lv_if_ne (tgt := 33) hx hb dX10_lands_27 (by decide) (fun c6 => ?_) (fun c6 => ?_)
      · have h := inn h c6
        refine lv_aload_n hx hb dX10_lands_33 rfl (lv_at hl 0 rfl) ?_
        refine lv_iload_n hx hb dX10_lands_34 rfl (lv_at hl 1 rfl) ?_
        obtain ⟨S7, qS7, h⟩ := bn1_s h
        refine kc_v X (res := S7) (rV (As := [.int a1]) (rest := []) (n := 1) (k := 0) C X (c_X10_ready l g ad S _ a1  qS7) wd_1342 wd_1344 wd_55 wd_83 wd_1345 (by decide) (eM_0 g ad S) rfl rfl rfl (by decide +kernel) ⟨Nat.le_of_ble_eq_true rfl, Nat.le_of_ble_eq_true rfl⟩ rfl hl.1 (lv_room (Nat.le_of_ble_eq_true rfl)) dX10_lands_35) (fun H locs X => ?_)
        refine lv_aload_n hx hb dX10_lands_38 rfl (lv_at hl 0 rfl) ?_
        refine lv_iload_n hx hb dX10_lands_39 rfl (lv_at hl 2 rfl) ?_
        obtain ⟨S8, qS8, h⟩ := bn1_s h
        refine kc_v X (res := S8) (rV (As := [.int a2]) (rest := []) (n := 1) (k := 0) C X (c_X10_letGo l g ad S7 _ a2  qS8) wd_1346 wd_1348 wd_56 wd_83 wd_1349 (by decide) (eM_0 g ad S7) rfl rfl rfl (by decide +kernel) ⟨Nat.le_of_ble_eq_true rfl, Nat.le_of_ble_eq_true rfl⟩ rfl hl.1 (lv_room (Nat.le_of_ble_eq_true rfl)) dX10_lands_40) (fun H locs X => ?_)
        refine lv_iload_n hx hb dX10_lands_43 rfl (lv_at hl 3 rfl) ?_
        by_cases t9 : a3 = (0 : Int32)
        · have h := ip h t9
          refine lv_tableIn (tgt := 80) (off := 36) hx hb dX10_lands_44 (by rw [t9]; decide) (by rw [t9]; decide) (by rw [t9]; rfl) (by decide) ?_
          refine lv_aload_n hx hb dX10_lands_80 rfl (lv_at hl 0 rfl) ?_
          refine g_get C X inT10 0 (by decide) (eM_0 g ad S8) rfl 33 (by decide) wd_1039 (v := .int (S8.1 0 33)) rfl dX10_lands_81 ?_
          exact rt_i C X rfl (Option.some.inj h) dX10_lands_84
        have h := inn h t9
        by_cases t10 : a3 = (1 : Int32)
        · have h := ip h t10
          refine lv_tableIn (tgt := 85) (off := 41) hx hb dX10_lands_44 (by rw [t10]; decide) (by rw [t10]; decide) (by rw [t10]; rfl) (by decide) ?_
          refine lv_aload_n hx hb dX10_lands_85 rfl (lv_at hl 0 rfl) ?_
          refine g_get C X inT10 0 (by decide) (eM_0 g ad S8) rfl 34 (by decide) wd_1040 (v := .int (S8.1 0 34)) rfl dX10_lands_86 ?_
          exact rt_i C X rfl (Option.some.inj h) dX10_lands_89
        have h := inn h t10
        by_cases t11 : a3 = (2 : Int32)
        · have h := ip h t11
          refine lv_tableIn (tgt := 90) (off := 46) hx hb dX10_lands_44 (by rw [t11]; decide) (by rw [t11]; decide) (by rw [t11]; rfl) (by decide) ?_
          refine lv_aload_n hx hb dX10_lands_90 rfl (lv_at hl 0 rfl) ?_
          refine g_get C X inT10 0 (by decide) (eM_0 g ad S8) rfl 35 (by decide) wd_1041 (v := .int (S8.1 0 35)) rfl dX10_lands_91 ?_
          exact rt_i C X rfl (Option.some.inj h) dX10_lands_94
        have h := inn h t11
        by_cases t12 : a3 = (3 : Int32)
        · have h := ip h t12
          refine lv_tableIn (tgt := 95) (off := 51) hx hb dX10_lands_44 (by rw [t12]; decide) (by rw [t12]; decide) (by rw [t12]; rfl) (by decide) ?_
          refine lv_aload_n hx hb dX10_lands_95 rfl (lv_at hl 0 rfl) ?_
          refine g_get C X inT10 0 (by decide) (eM_0 g ad S8) rfl 36 (by decide) wd_1042 (v := .int (S8.1 0 36)) rfl dX10_lands_96 ?_
          exact rt_i C X rfl (Option.some.inj h) dX10_lands_99
        have h := inn h t12
        by_cases t13 : a3 = (4 : Int32)
        · have h := ip h t13
          refine lv_tableIn (tgt := 100) (off := 56) hx hb dX10_lands_44 (by rw [t13]; decide) (by rw [t13]; decide) (by rw [t13]; rfl) (by decide) ?_
          refine lv_aload_n hx hb dX10_lands_100 rfl (lv_at hl 0 rfl) ?_
          refine g_get C X inT10 0 (by decide) (eM_0 g ad S8) rfl 37 (by decide) wd_1043 (v := .int (S8.1 0 37)) rfl dX10_lands_101 ?_
          exact rt_i C X rfl (Option.some.inj h) dX10_lands_104
        have h := inn h t13
        refine lv_tableOut (tgt := 105) hx hb dX10_lands_44 (tb_out (fun z z1 z2 ze => ?_)) (by decide) ?_
        · rcases (show z = 0 ∨ z = 1 ∨ z = 2 ∨ z = 3 ∨ z = 4 by omega) with rfl | rfl | rfl | rfl | rfl
          · exact t9 (Int32.toInt_inj.mp (ze.trans (by decide)))
          · exact t10 (Int32.toInt_inj.mp (ze.trans (by decide)))
          · exact t11 (Int32.toInt_inj.mp (ze.trans (by decide)))
          · exact t12 (Int32.toInt_inj.mp (ze.trans (by decide)))
          · exact t13 (Int32.toInt_inj.mp (ze.trans (by decide)))
        refine lv_aload_n hx hb dX10_lands_105 rfl (lv_at hl 0 rfl) ?_
        refine g_get C X inT10 0 (by decide) (eM_0 g ad S8) rfl 38 (by decide) wd_1044 (v := .int (S8.1 0 38)) rfl dX10_lands_106 ?_
        exact rt_i C X rfl (Option.some.inj h) dX10_lands_109
      · have h := ip h c6
        refine lv_ldc (v := (-1000000002 : Int32)) hx hb C.1.2.2.2.2.2.1 (C.1.2.2.2.2.2.2 _ (ws_in wd_1154)) dX10_lands_30 ?_
        exact rt_i C X rfl (Option.some.inj h) dX10_lands_32
  · have h := ip h c2
    refine lv_ldc (v := (-1000000001 : Int32)) hx hb C.1.2.2.2.2.2.1 (C.1.2.2.2.2.2.2 _ (ws_in wd_1249)) dX10_lands_8 ?_
    exact rt_i C X rfl (Option.some.inj h) dX10_lands_10

def rmX10_isGood : Room := { frames := 6, cells := 0, slots := 0, locals := 144 }
def f_X10_isGood (a1 : Int32) (S : ST) : Option (Int32 × ST) :=
  bn1 (f_X10_letGo a1 S) fun S1 => if (S1.1 0 33) = ((1 : Int32)) then (some ((1 : Int32), S1)) else (if (S1.1 0 33) = ((2 : Int32)) then (some ((1 : Int32), S1)) else (some ((0 : Int32), S1)))
set_option maxHeartbeats 4000000 in
set_option maxRecDepth 100000 in
theorem c_X10_isGood (l : Launch) (g : GG) (ad : Nat → Nat) (S : ST) (sz : Nat) (a1 : Int32)  {res : (Int32 × ST)} (h : f_X10_isGood a1 S = some res) : Met l yX10_isGood (WS (.code yX10_isGood cX10_isGood 2 (some Jvm.ClassFile.FieldType.boolean))) rmX10_isGood (va_Pc [.ref (ad 0), .int a1] (PW kM g ad S sz)) (QI kM g ad res (AA kM ad sz)) 0 0 (AA kM ad sz) := by
  refine go_m (Qc := fun A => QI kM g ad res A) (by decide) (Nat.le_of_ble_eq_true rfl) (fun p e s m below meth c ls H locs C X hl => ?_)
  have hx := C.1.1
  have hb := C.1.2.1
  have hl : lv_has ls 2 [(0, .ref (ad 0)), (1, .int a1)] := hl
  have h : (bn1 (f_X10_letGo a1 S) fun S1 => if (S1.1 0 33) = ((1 : Int32)) then (some ((1 : Int32), S1)) else (if (S1.1 0 33) = ((2 : Int32)) then (some ((1 : Int32), S1)) else (some ((0 : Int32), S1))) : Option (Int32 × ST)) = some res := h
  refine lv_aload_n hx hb dX10_isGood_0 rfl (lv_at hl 0 rfl) ?_
  refine lv_iload_n hx hb dX10_isGood_1 rfl (lv_at hl 1 rfl) ?_
  obtain ⟨S1, qS1, h⟩ := bn1_s h
  refine kc_v X (res := S1) (rV (As := [.int a1]) (rest := []) (n := 1) (k := 0) C X (c_X10_letGo l g ad S _ a1  qS1) wd_1346 wd_1348 wd_56 wd_83 wd_1349 (by decide) (eM_0 g ad S) rfl rfl rfl (by decide +kernel) ⟨Nat.le_of_ble_eq_true rfl, Nat.le_of_ble_eq_true rfl⟩ rfl hl.1 (lv_room (Nat.le_of_ble_eq_true rfl)) dX10_isGood_2) (fun H locs X => ?_)
  refine lv_aload_n hx hb dX10_isGood_5 rfl (lv_at hl 0 rfl) ?_
  refine g_get C X inT10 0 (by decide) (eM_0 g ad S1) rfl 33 (by decide) wd_1039 (v := .int (S1.1 0 33)) rfl dX10_isGood_6 ?_
  refine lv_iconst (v := (1 : Int32)) hx hb dX10_isGood_9 (by decide) ?_
  refine lv_icmp_eq (tgt := 21) hx hb dX10_isGood_10 (by decide) (fun c2 => ?_) (fun c2 => ?_)
  · have h := ip h c2
    refine lv_iconst (v := (1 : Int32)) hx hb dX10_isGood_21 (by decide) ?_
    refine lv_goto (tgt := 26) hx hb dX10_isGood_22 (by decide) ?_
    exact rt_z C X rfl (by decide) (Option.some.inj h) dX10_isGood_26
  · have h := inn h c2
    refine lv_aload_n hx hb dX10_isGood_13 rfl (lv_at hl 0 rfl) ?_
    refine g_get C X inT10 0 (by decide) (eM_0 g ad S1) rfl 33 (by decide) wd_1039 (v := .int (S1.1 0 33)) rfl dX10_isGood_14 ?_
    refine lv_iconst (v := (2 : Int32)) hx hb dX10_isGood_17 (by decide) ?_
    refine lv_icmp_ne (tgt := 25) hx hb dX10_isGood_18 (by decide) (fun c3 => ?_) (fun c3 => ?_)
    · have h := inn h c3
      refine lv_iconst (v := (0 : Int32)) hx hb dX10_isGood_25 (by decide) ?_
      exact rt_z C X rfl (by decide) (Option.some.inj h) dX10_isGood_26
    · have h := ip h c3
      refine lv_iconst (v := (1 : Int32)) hx hb dX10_isGood_21 (by decide) ?_
      refine lv_goto (tgt := 26) hx hb dX10_isGood_22 (by decide) ?_
      exact rt_z C X rfl (by decide) (Option.some.inj h) dX10_isGood_26

def rmX10_bestTime : Room := { frames := 7, cells := 0, slots := 0, locals := 165 }
def b_X10_bestTime_69 (K7 : Int32 → Int32 → Int32 → Int32 → ST → Option (Int32 × ST)) (v2 : Int32) (v3 : Int32) (v4 : Int32) (v5 : Int32) (v6 : Int32) (v7 : Int32) (S : ST) : Option (Int32 × ST) :=
  if v6 = 0 then (nm (v4 + (1 : Int32)) fun x10 => K7 v2 v7 v3 x10 S) else (nm (v4 + (1 : Int32)) fun x11 => K7 v2 v7 v5 x11 S)
def b_X10_bestTime_56 (K7 : Int32 → Int32 → Int32 → Int32 → ST → Option (Int32 × ST)) (v2 : Int32) (v3 : Int32) (v4 : Int32) (v5 : Int32) (v6 : Int32) (v7 : Int32) (S : ST) : Option (Int32 × ST) :=
  if v7 = 0 then (b_X10_bestTime_69 K7 v2 v4 v5 v6 v7 v3 S) else (b_X10_bestTime_69 K7 v2 v4 v5 v6 v7 v5 S)
def b_X10_bestTime_39 (K7 : Int32 → Int32 → Int32 → Int32 → ST → Option (Int32 × ST)) (v2 : Int32) (v3 : Int32) (v4 : Int32) (v5 : Int32) (v6 : Int32) (S : ST) : Option (Int32 × ST) :=
  if v3 < 0 then (b_X10_bestTime_56 K7 v2 v3 v4 v5 v6 ((1 : Int32)) S) else (if v6 ≤ v4 then (b_X10_bestTime_56 K7 v2 v3 v4 v5 v6 ((0 : Int32)) S) else (b_X10_bestTime_56 K7 v2 v3 v4 v5 v6 ((1 : Int32)) S))
def b_X10_bestTime_7 (K7 : Int32 → Int32 → Int32 → Int32 → ST → Option (Int32 × ST)) (v2 : Int32) (v3 : Int32) (v4 : Int32) (v5 : Int32) (S : ST) : Option (Int32 × ST) :=
  if ((200 : Int32)) < v5 then (some (v3, S)) else (bnd (f_X10_isGood v5 S) fun r3 S2 => if r3 = 0 then (nm (v5 + (1 : Int32)) fun x5 => K7 v2 v3 v4 x5 S2) else (if v2 = 0 then (b_X10_bestTime_39 K7 v2 v3 v4 v5 (S2.1 0 34) S2) else (b_X10_bestTime_39 K7 v2 v3 v4 v5 (S2.1 0 37) S2)))
def f_X10_bestTime (a1 : Int32) (S : ST) : Option (Int32 × ST) :=
  lp (fun _ _ _ _ _ => none) (b_X10_bestTime_7) 1000 a1 ((-1 : Int32)) ((0 : Int32)) ((1 : Int32)) S
set_option maxHeartbeats 4000000 in
set_option maxRecDepth 100000 in
theorem kb_X10_bestTime_69 {p : Program} {l : Launch} {e : Env} {s : State} {m : MethodId} {args : Array Value} {below : List Frame} {meth : Method} {c : Code} {g : GG} {ad : Nat → Nat} {res : (Int32 × ST)} {S : ST} (C : CX kM g ad p s m args meth c cX10_bestTime (some Jvm.ClassFile.FieldType.int) 7 yX10_bestTime.cls (.code yX10_bestTime cX10_bestTime 7 (some Jvm.ClassFile.FieldType.int))) {K7 : Int32 → Int32 → Int32 → Int32 → ST → Option (Int32 × ST)} (hK7 : ∀ {v2 : Int32} {v3 : Int32} {v4 : Int32} {v5 : Int32} {S : ST} {H : Heap} {locs : List Loc} {ls : Array Slot}, K7 v2 v3 v4 v5 S = some res → WX kM g ad s S H locs → lv_has ls 7 [(0, .ref (ad 0)), (1, .int v2), (2, .int v3), (3, .int v4), (4, .int v5)] → W p l e rmX10_bestTime s m args below meth c H locs 0 0 (MQ below (QI kM g ad res (AA kM ad s.heap.size)) args s 0 0 (AA kM ad s.heap.size)) (F0 m 7 ls [])) {v2 : Int32} {v3 : Int32} {v4 : Int32} {v5 : Int32} {v6 : Int32} {v7 : Int32}  {H : Heap} {locs : List Loc} {ls : Array Slot} (h : b_X10_bestTime_69 K7 v2 v3 v4 v5 v6 v7 S = some res) (X : WX kM g ad s S H locs) (hl : lv_has ls 7 [(0, .ref (ad 0)), (1, .int v2), (3, .int v3), (4, .int v4), (5, .int v5), (6, .int v6)])  : W p l e rmX10_bestTime s m args below meth c H locs 0 0 (MQ below (QI kM g ad res (AA kM ad s.heap.size)) args s 0 0 (AA kM ad s.heap.size)) (F0 m 69 ls [.int v7]) := by
  have hx := C.1.1
  have hb := C.1.2.1
  have h : (if v6 = 0 then (nm (v4 + (1 : Int32)) fun x10 => K7 v2 v7 v3 x10 S) else (nm (v4 + (1 : Int32)) fun x11 => K7 v2 v7 v5 x11 S) : Option (Int32 × ST)) = some res := h
  refine lv_istore_n (lv' := [(2, .int v7), (0, .ref (ad 0)), (1, .int v2), (3, .int v3), (4, .int v4), (5, .int v5), (6, .int v6)]) hx hb dX10_bestTime_69 rfl hl (by decide) rfl (fun ls hl => ?_)
  refine lv_iload hx hb dX10_bestTime_70 (lv_at hl 6 rfl) ?_
  refine lv_if_eq (tgt := 80) hx hb dX10_bestTime_72 (by decide) (fun c9 => ?_) (fun c9 => ?_)
  · have h := ip h c9
    refine lv_iload_n hx hb dX10_bestTime_80 rfl (lv_at hl 3 rfl) ?_
    refine lv_istore_n (lv' := [(3, .int v3), (2, .int v7), (0, .ref (ad 0)), (1, .int v2), (4, .int v4), (5, .int v5), (6, .int v6)]) hx hb dX10_bestTime_81 rfl hl (by decide) rfl (fun ls hl => ?_)
    obtain ⟨x10, ex10, h⟩ := nm_s h
    refine lv_iinc (v := x10) (lv' := [(4, .int x10), (3, .int v3), (2, .int v7), (0, .ref (ad 0)), (1, .int v2), (5, .int v5), (6, .int v6)]) hx hb dX10_bestTime_82 hl (k := 4) rfl (by rw [ex10]; rfl) (by decide) rfl (fun ls hl => ?_)
    refine lv_goto (tgt := 7) hx hb dX10_bestTime_85 (by decide) ?_
    exact hK7 h X (lv_sub hl [3, 4, 2, 1, 0] rfl) 
  · have h := inn h c9
    refine lv_iload hx hb dX10_bestTime_75 (lv_at hl 5 rfl) ?_
    refine lv_goto (tgt := 81) hx hb dX10_bestTime_77 (by decide) ?_
    refine lv_istore_n (lv' := [(3, .int v5), (2, .int v7), (0, .ref (ad 0)), (1, .int v2), (4, .int v4), (5, .int v5), (6, .int v6)]) hx hb dX10_bestTime_81 rfl hl (by decide) rfl (fun ls hl => ?_)
    obtain ⟨x11, ex11, h⟩ := nm_s h
    refine lv_iinc (v := x11) (lv' := [(4, .int x11), (3, .int v5), (2, .int v7), (0, .ref (ad 0)), (1, .int v2), (5, .int v5), (6, .int v6)]) hx hb dX10_bestTime_82 hl (k := 4) rfl (by rw [ex11]; rfl) (by decide) rfl (fun ls hl => ?_)
    refine lv_goto (tgt := 7) hx hb dX10_bestTime_85 (by decide) ?_
    exact hK7 h X (lv_sub hl [3, 4, 2, 1, 0] rfl) 
set_option maxHeartbeats 4000000 in
set_option maxRecDepth 100000 in
theorem kb_X10_bestTime_56 {p : Program} {l : Launch} {e : Env} {s : State} {m : MethodId} {args : Array Value} {below : List Frame} {meth : Method} {c : Code} {g : GG} {ad : Nat → Nat} {res : (Int32 × ST)} {S : ST} (C : CX kM g ad p s m args meth c cX10_bestTime (some Jvm.ClassFile.FieldType.int) 7 yX10_bestTime.cls (.code yX10_bestTime cX10_bestTime 7 (some Jvm.ClassFile.FieldType.int))) {K7 : Int32 → Int32 → Int32 → Int32 → ST → Option (Int32 × ST)} (hK7 : ∀ {v2 : Int32} {v3 : Int32} {v4 : Int32} {v5 : Int32} {S : ST} {H : Heap} {locs : List Loc} {ls : Array Slot}, K7 v2 v3 v4 v5 S = some res → WX kM g ad s S H locs → lv_has ls 7 [(0, .ref (ad 0)), (1, .int v2), (2, .int v3), (3, .int v4), (4, .int v5)] → W p l e rmX10_bestTime s m args below meth c H locs 0 0 (MQ below (QI kM g ad res (AA kM ad s.heap.size)) args s 0 0 (AA kM ad s.heap.size)) (F0 m 7 ls [])) {v2 : Int32} {v3 : Int32} {v4 : Int32} {v5 : Int32} {v6 : Int32} {v7 : Int32}  {H : Heap} {locs : List Loc} {ls : Array Slot} (h : b_X10_bestTime_56 K7 v2 v3 v4 v5 v6 v7 S = some res) (X : WX kM g ad s S H locs) (hl : lv_has ls 7 [(0, .ref (ad 0)), (1, .int v2), (2, .int v3), (3, .int v4), (4, .int v5), (5, .int v6)])  : W p l e rmX10_bestTime s m args below meth c H locs 0 0 (MQ below (QI kM g ad res (AA kM ad s.heap.size)) args s 0 0 (AA kM ad s.heap.size)) (F0 m 56 ls [.int v7]) := by
  have hx := C.1.1
  have hb := C.1.2.1
  have h : (if v7 = 0 then (b_X10_bestTime_69 K7 v2 v4 v5 v6 v7 v3 S) else (b_X10_bestTime_69 K7 v2 v4 v5 v6 v7 v5 S) : Option (Int32 × ST)) = some res := h
  refine lv_istore (lv' := [(6, .int v7), (0, .ref (ad 0)), (1, .int v2), (2, .int v3), (3, .int v4), (4, .int v5), (5, .int v6)]) hx hb dX10_bestTime_56 hl (by decide) rfl (fun ls hl => ?_)
  refine lv_iload hx hb dX10_bestTime_58 (lv_at hl 0 rfl) ?_
  refine lv_if_eq (tgt := 68) hx hb dX10_bestTime_60 (by decide) (fun c8 => ?_) (fun c8 => ?_)
  · have h := ip h c8
    refine lv_iload_n hx hb dX10_bestTime_68 rfl (lv_at hl 3 rfl) ?_
    exact kb_X10_bestTime_69 C hK7 h X (lv_sub hl [1, 2, 4, 5, 6, 0] rfl) 
  · have h := inn h c8
    refine lv_iload hx hb dX10_bestTime_63 (lv_at hl 5 rfl) ?_
    refine lv_goto (tgt := 69) hx hb dX10_bestTime_65 (by decide) ?_
    exact kb_X10_bestTime_69 C hK7 h X (lv_sub hl [1, 2, 4, 5, 6, 0] rfl) 
set_option maxHeartbeats 4000000 in
set_option maxRecDepth 100000 in
theorem kb_X10_bestTime_39 {p : Program} {l : Launch} {e : Env} {s : State} {m : MethodId} {args : Array Value} {below : List Frame} {meth : Method} {c : Code} {g : GG} {ad : Nat → Nat} {res : (Int32 × ST)} {S : ST} (C : CX kM g ad p s m args meth c cX10_bestTime (some Jvm.ClassFile.FieldType.int) 7 yX10_bestTime.cls (.code yX10_bestTime cX10_bestTime 7 (some Jvm.ClassFile.FieldType.int))) {K7 : Int32 → Int32 → Int32 → Int32 → ST → Option (Int32 × ST)} (hK7 : ∀ {v2 : Int32} {v3 : Int32} {v4 : Int32} {v5 : Int32} {S : ST} {H : Heap} {locs : List Loc} {ls : Array Slot}, K7 v2 v3 v4 v5 S = some res → WX kM g ad s S H locs → lv_has ls 7 [(0, .ref (ad 0)), (1, .int v2), (2, .int v3), (3, .int v4), (4, .int v5)] → W p l e rmX10_bestTime s m args below meth c H locs 0 0 (MQ below (QI kM g ad res (AA kM ad s.heap.size)) args s 0 0 (AA kM ad s.heap.size)) (F0 m 7 ls [])) {v2 : Int32} {v3 : Int32} {v4 : Int32} {v5 : Int32} {v6 : Int32}  {H : Heap} {locs : List Loc} {ls : Array Slot} (h : b_X10_bestTime_39 K7 v2 v3 v4 v5 v6 S = some res) (X : WX kM g ad s S H locs) (hl : lv_has ls 7 [(0, .ref (ad 0)), (1, .int v2), (2, .int v3), (3, .int v4), (4, .int v5)])  : W p l e rmX10_bestTime s m args below meth c H locs 0 0 (MQ below (QI kM g ad res (AA kM ad s.heap.size)) args s 0 0 (AA kM ad s.heap.size)) (F0 m 39 ls [.int v6]) := by
  have hx := C.1.1
  have hb := C.1.2.1
  have h : (if v3 < 0 then (b_X10_bestTime_56 K7 v2 v3 v4 v5 v6 ((1 : Int32)) S) else (if v6 ≤ v4 then (b_X10_bestTime_56 K7 v2 v3 v4 v5 v6 ((0 : Int32)) S) else (b_X10_bestTime_56 K7 v2 v3 v4 v5 v6 ((1 : Int32)) S)) : Option (Int32 × ST)) = some res := h
  refine lv_istore (lv' := [(5, .int v6), (0, .ref (ad 0)), (1, .int v2), (2, .int v3), (3, .int v4), (4, .int v5)]) hx hb dX10_bestTime_39 hl (by decide) rfl (fun ls hl => ?_)
  refine lv_iload_n hx hb dX10_bestTime_41 rfl (lv_at hl 3 rfl) ?_
  refine lv_if_lt (tgt := 51) hx hb dX10_bestTime_42 (by decide) (fun c7 => ?_) (fun c7 => ?_)
  · have h := ip h c7
    refine lv_iconst (v := (1 : Int32)) hx hb dX10_bestTime_51 (by decide) ?_
    refine lv_goto (tgt := 56) hx hb dX10_bestTime_52 (by decide) ?_
    exact kb_X10_bestTime_56 C hK7 h X (lv_sub hl [1, 2, 3, 4, 5, 0] rfl) 
  · have h := inn h c7
    refine lv_iload hx hb dX10_bestTime_45 (lv_at hl 0 rfl) ?_
    refine lv_iload_n hx hb dX10_bestTime_47 rfl (lv_at hl 4 rfl) ?_
    refine lv_icmp_le (tgt := 55) hx hb dX10_bestTime_48 (by decide) (fun c12 => ?_) (fun c12 => ?_)
    · have h := ip h c12
      refine lv_iconst (v := (0 : Int32)) hx hb dX10_bestTime_55 (by decide) ?_
      exact kb_X10_bestTime_56 C hK7 h X (lv_sub hl [1, 2, 3, 4, 5, 0] rfl) 
    · have h := inn h c12
      refine lv_iconst (v := (1 : Int32)) hx hb dX10_bestTime_51 (by decide) ?_
      refine lv_goto (tgt := 56) hx hb dX10_bestTime_52 (by decide) ?_
      exact kb_X10_bestTime_56 C hK7 h X (lv_sub hl [1, 2, 3, 4, 5, 0] rfl) 
set_option maxHeartbeats 4000000 in
set_option maxRecDepth 100000 in
theorem kb_X10_bestTime_7 {p : Program} {l : Launch} {e : Env} {s : State} {m : MethodId} {args : Array Value} {below : List Frame} {meth : Method} {c : Code} {g : GG} {ad : Nat → Nat} {res : (Int32 × ST)} {S : ST} (C : CX kM g ad p s m args meth c cX10_bestTime (some Jvm.ClassFile.FieldType.int) 7 yX10_bestTime.cls (.code yX10_bestTime cX10_bestTime 7 (some Jvm.ClassFile.FieldType.int))) {K7 : Int32 → Int32 → Int32 → Int32 → ST → Option (Int32 × ST)} (hK7 : ∀ {v2 : Int32} {v3 : Int32} {v4 : Int32} {v5 : Int32} {S : ST} {H : Heap} {locs : List Loc} {ls : Array Slot}, K7 v2 v3 v4 v5 S = some res → WX kM g ad s S H locs → lv_has ls 7 [(0, .ref (ad 0)), (1, .int v2), (2, .int v3), (3, .int v4), (4, .int v5)] → W p l e rmX10_bestTime s m args below meth c H locs 0 0 (MQ below (QI kM g ad res (AA kM ad s.heap.size)) args s 0 0 (AA kM ad s.heap.size)) (F0 m 7 ls [])) {v2 : Int32} {v3 : Int32} {v4 : Int32} {v5 : Int32}  {H : Heap} {locs : List Loc} {ls : Array Slot} (h : b_X10_bestTime_7 K7 v2 v3 v4 v5 S = some res) (X : WX kM g ad s S H locs) (hl : lv_has ls 7 [(0, .ref (ad 0)), (1, .int v2), (2, .int v3), (3, .int v4), (4, .int v5)])  : W p l e rmX10_bestTime s m args below meth c H locs 0 0 (MQ below (QI kM g ad res (AA kM ad s.heap.size)) args s 0 0 (AA kM ad s.heap.size)) (F0 m 7 ls []) := by
  have hx := C.1.1
  have hb := C.1.2.1
  have h : (if ((200 : Int32)) < v5 then (some (v3, S)) else (bnd (f_X10_isGood v5 S) fun r3 S2 => if r3 = 0 then (nm (v5 + (1 : Int32)) fun x5 => K7 v2 v3 v4 x5 S2) else (if v2 = 0 then (b_X10_bestTime_39 K7 v2 v3 v4 v5 (S2.1 0 34) S2) else (b_X10_bestTime_39 K7 v2 v3 v4 v5 (S2.1 0 37) S2))) : Option (Int32 × ST)) = some res := h
  refine lv_iload hx hb dX10_bestTime_7 (lv_at hl 4 rfl) ?_
  refine lv_sipush (v := (200 : Int32)) hx hb dX10_bestTime_9 (by decide) ?_
  refine lv_icmp_gt (tgt := 88) hx hb dX10_bestTime_12 (by decide) (fun c1 => ?_) (fun c1 => ?_)
  · have h := ip h c1
    refine lv_iload_n hx hb dX10_bestTime_88 rfl (lv_at hl 2 rfl) ?_
    exact rt_i C X rfl (Option.some.inj h) dX10_bestTime_89
  · have h := inn h c1
    refine lv_aload_n hx hb dX10_bestTime_15 rfl (lv_at hl 0 rfl) ?_
    refine lv_iload hx hb dX10_bestTime_16 (lv_at hl 4 rfl) ?_
    obtain ⟨r3, S2, qr3, h⟩ := bnd_s h
    refine kc_i X (res := (r3, S2)) (rV (As := [.int v5]) (rest := []) (n := 1) (k := 0) C X (c_X10_isGood l g ad S _ v5  qr3) wd_1381 wd_1383 wd_62 wd_83 wd_1384 (by decide) (eM_0 g ad S) rfl rfl rfl (by decide +kernel) ⟨Nat.le_of_ble_eq_true rfl, Nat.le_of_ble_eq_true rfl⟩ rfl hl.1 (lv_room (Nat.le_of_ble_eq_true rfl)) dX10_bestTime_18) (fun H locs X => ?_)
    refine lv_if_eq (tgt := 82) hx hb dX10_bestTime_21 (by decide) (fun c4 => ?_) (fun c4 => ?_)
    · have h := ip h c4
      obtain ⟨x5, ex5, h⟩ := nm_s h
      refine lv_iinc (v := x5) (lv' := [(4, .int x5), (0, .ref (ad 0)), (1, .int v2), (2, .int v3), (3, .int v4)]) hx hb dX10_bestTime_82 hl (k := 4) rfl (by rw [ex5]; rfl) (by decide) rfl (fun ls hl => ?_)
      refine lv_goto (tgt := 7) hx hb dX10_bestTime_85 (by decide) ?_
      exact hK7 h X (lv_sub hl [1, 2, 3, 4, 0] rfl) 
    · have h := inn h c4
      refine lv_iload_n hx hb dX10_bestTime_24 rfl (lv_at hl 1 rfl) ?_
      refine lv_if_ne (tgt := 35) hx hb dX10_bestTime_25 (by decide) (fun c6 => ?_) (fun c6 => ?_)
      · have h := inn h c6
        refine lv_aload_n hx hb dX10_bestTime_35 rfl (lv_at hl 0 rfl) ?_
        refine g_get C X inT10 0 (by decide) (eM_0 g ad S2) rfl 37 (by decide) wd_1043 (v := .int (S2.1 0 37)) rfl dX10_bestTime_36 ?_
        exact kb_X10_bestTime_39 C hK7 h X (lv_sub hl [0, 1, 2, 3, 4] rfl) 
      · have h := ip h c6
        refine lv_aload_n hx hb dX10_bestTime_28 rfl (lv_at hl 0 rfl) ?_
        refine g_get C X inT10 0 (by decide) (eM_0 g ad S2) rfl 34 (by decide) wd_1040 (v := .int (S2.1 0 34)) rfl dX10_bestTime_29 ?_
        refine lv_goto (tgt := 39) hx hb dX10_bestTime_32 (by decide) ?_
        exact kb_X10_bestTime_39 C hK7 h X (lv_sub hl [0, 1, 2, 3, 4] rfl) 
set_option maxHeartbeats 4000000 in
set_option maxRecDepth 100000 in
theorem kl_X10_bestTime_7 {p : Program} {l : Launch} {e : Env} {s : State} {m : MethodId} {args : Array Value} {below : List Frame} {meth : Method} {c : Code} {g : GG} {ad : Nat → Nat} {res : (Int32 × ST)}  (C : CX kM g ad p s m args meth c cX10_bestTime (some Jvm.ClassFile.FieldType.int) 7 yX10_bestTime.cls (.code yX10_bestTime cX10_bestTime 7 (some Jvm.ClassFile.FieldType.int)))  : ∀ (n : Nat) {v2 : Int32} {v3 : Int32} {v4 : Int32} {v5 : Int32} {S : ST} {H : Heap} {locs : List Loc} {ls : Array Slot}, (lp (fun _ _ _ _ _ => none) (b_X10_bestTime_7)) n v2 v3 v4 v5 S = some res → WX kM g ad s S H locs → lv_has ls 7 [(0, .ref (ad 0)), (1, .int v2), (2, .int v3), (3, .int v4), (4, .int v5)] → W p l e rmX10_bestTime s m args below meth c H locs 0 0 (MQ below (QI kM g ad res (AA kM ad s.heap.size)) args s 0 0 (AA kM ad s.heap.size)) (F0 m 7 ls []) := by
  intro n
  induction n with
  | zero =>
    intro v2 v3 v4 v5 S H locs ls h
    cases (show (none : Option (Int32 × ST)) = some res from h)
  | succ n ih =>
    intro v2 v3 v4 v5 S H locs ls h X hl 
    exact kb_X10_bestTime_7 C ih h X hl 
set_option maxHeartbeats 4000000 in
set_option maxRecDepth 100000 in
theorem c_X10_bestTime (l : Launch) (g : GG) (ad : Nat → Nat) (S : ST) (sz : Nat) (a1 : Int32)  {res : (Int32 × ST)} (h : f_X10_bestTime a1 S = some res) : Met l yX10_bestTime (WS (.code yX10_bestTime cX10_bestTime 7 (some Jvm.ClassFile.FieldType.int))) rmX10_bestTime (va_Pc [.ref (ad 0), .int a1] (PW kM g ad S sz)) (QI kM g ad res (AA kM ad sz)) 0 0 (AA kM ad sz) := by
  refine go_m (Qc := fun A => QI kM g ad res A) (by decide) (Nat.le_of_ble_eq_true rfl) (fun p e s m below meth c ls H locs C X hl => ?_)
  have hx := C.1.1
  have hb := C.1.2.1
  have hl : lv_has ls 7 [(0, .ref (ad 0)), (1, .int a1)] := hl
  have h : (lp (fun _ _ _ _ _ => none) (b_X10_bestTime_7) 1000 a1 ((-1 : Int32)) ((0 : Int32)) ((1 : Int32)) S : Option (Int32 × ST)) = some res := h
  refine lv_iconst (v := (-1 : Int32)) hx hb dX10_bestTime_0 (by decide) ?_
  refine lv_istore_n (lv' := [(2, .int ((-1 : Int32))), (0, .ref (ad 0)), (1, .int a1)]) hx hb dX10_bestTime_1 rfl hl (by decide) rfl (fun ls hl => ?_)
  refine lv_iconst (v := (0 : Int32)) hx hb dX10_bestTime_2 (by decide) ?_
  refine lv_istore_n (lv' := [(3, .int ((0 : Int32))), (2, .int ((-1 : Int32))), (0, .ref (ad 0)), (1, .int a1)]) hx hb dX10_bestTime_3 rfl hl (by decide) rfl (fun ls hl => ?_)
  refine lv_iconst (v := (1 : Int32)) hx hb dX10_bestTime_4 (by decide) ?_
  refine lv_istore (lv' := [(4, .int ((1 : Int32))), (3, .int ((0 : Int32))), (2, .int ((-1 : Int32))), (0, .ref (ad 0)), (1, .int a1)]) hx hb dX10_bestTime_5 hl (by decide) rfl (fun ls hl => ?_)
  exact kl_X10_bestTime_7 C _ h X (lv_sub hl [3, 4, 2, 1, 0] rfl) 

def rmX10_best : Room := { frames := 8, cells := 0, slots := 0, locals := 191 }
def f_X10_best (a1 : Int32) (a2 : Int32) (S : ST) : Option (Int32 × ST) :=
  bn1 (f_X10_isSwinger a1 S) fun r1 => if r1 = 0 then (some ((-1000000001 : Int32), S)) else (bn1 (f_X10_in (a2.toInt64) ((0 : Int64)) ((1 : Int64))) fun r3 => if r3 = 0 then (some ((-1000000002 : Int32), S)) else (bn1 (f_X10_ready a1 S) fun S5 => bnd (f_X10_bestTime a2 S5) fun r7 S6 => some (r7, S6)))
set_option maxHeartbeats 4000000 in
set_option maxRecDepth 100000 in
theorem c_X10_best (l : Launch) (g : GG) (ad : Nat → Nat) (S : ST) (sz : Nat) (a1 : Int32) (a2 : Int32)  {res : (Int32 × ST)} (h : f_X10_best a1 a2 S = some res) : Met l yX10_best (WS (.code yX10_best cX10_best 3 (some Jvm.ClassFile.FieldType.int))) rmX10_best (va_Pc [.ref (ad 0), .int a1, .int a2] (PW kM g ad S sz)) (QI kM g ad res (AA kM ad sz)) 0 0 (AA kM ad sz) := by
  refine go_m (Qc := fun A => QI kM g ad res A) (by decide) (Nat.le_of_ble_eq_true rfl) (fun p e s m below meth c ls H locs C X hl => ?_)
  have hx := C.1.1
  have hb := C.1.2.1
  have hl : lv_has ls 3 [(0, .ref (ad 0)), (1, .int a1), (2, .int a2)] := hl
  have h : (bn1 (f_X10_isSwinger a1 S) fun r1 => if r1 = 0 then (some ((-1000000001 : Int32), S)) else (bn1 (f_X10_in (a2.toInt64) ((0 : Int64)) ((1 : Int64))) fun r3 => if r3 = 0 then (some ((-1000000002 : Int32), S)) else (bn1 (f_X10_ready a1 S) fun S5 => bnd (f_X10_bestTime a2 S5) fun r7 S6 => some (r7, S6))) : Option (Int32 × ST)) = some res := h
  refine lv_aload_n hx hb dX10_best_0 rfl (lv_at hl 0 rfl) ?_
  refine lv_iload_n hx hb dX10_best_1 rfl (lv_at hl 1 rfl) ?_
  obtain ⟨r1, qr1, h⟩ := bn1_s h
  refine kc_i X (res := (r1, S)) (rV (As := [.int a1]) (rest := []) (n := 1) (k := 0) C X (c_X10_isSwinger l g ad S _ a1  qr1) wd_1266 wd_1268 wd_47 wd_83 wd_1269 (by decide) (eM_0 g ad S) rfl rfl rfl (by decide +kernel) ⟨Nat.le_of_ble_eq_true rfl, Nat.le_of_ble_eq_true rfl⟩ rfl hl.1 (lv_room (Nat.le_of_ble_eq_true rfl)) dX10_best_2) (fun H locs X => ?_)
  refine lv_if_ne (tgt := 11) hx hb dX10_best_5 (by decide) (fun c2 => ?_) (fun c2 => ?_)
  · have h := inn h c2
    refine lv_iload_n hx hb dX10_best_11 rfl (lv_at hl 2 rfl) ?_
    refine lv_i2l hx hb dX10_best_12 rfl ?_
    refine lv_lconst (v := (0 : Int64)) hx hb dX10_best_13 (by decide) ?_
    refine lv_lconst (v := (1 : Int64)) hx hb dX10_best_14 (by decide) ?_
    obtain ⟨r3, qr3, h⟩ := bn1_s h
    refine kc_i X (res := (r3, S)) (rS (As := [.long (a2.toInt64), .long ((0 : Int64)), .long ((1 : Int64))]) (rest := []) (n := 3) C X (c_X10_in l g ad S _ (a2.toInt64) ((0 : Int64)) ((1 : Int64))  qr3) wd_1151 wd_1152 wd_83 wd_1153 rfl rfl (by decide +kernel) ⟨Nat.le_of_ble_eq_true rfl, Nat.le_of_ble_eq_true rfl⟩ rfl hl.1 (lv_room (Nat.le_of_ble_eq_true rfl)) dX10_best_15) (fun H locs X => ?_)
    refine lv_if_ne (tgt := 24) hx hb dX10_best_18 (by decide) (fun c4 => ?_) (fun c4 => ?_)
    · have h := inn h c4
      refine lv_aload_n hx hb dX10_best_24 rfl (lv_at hl 0 rfl) ?_
      refine lv_iload_n hx hb dX10_best_25 rfl (lv_at hl 1 rfl) ?_
      obtain ⟨S5, qS5, h⟩ := bn1_s h
      refine kc_v X (res := S5) (rV (As := [.int a1]) (rest := []) (n := 1) (k := 0) C X (c_X10_ready l g ad S _ a1  qS5) wd_1342 wd_1344 wd_55 wd_83 wd_1345 (by decide) (eM_0 g ad S) rfl rfl rfl (by decide +kernel) ⟨Nat.le_of_ble_eq_true rfl, Nat.le_of_ble_eq_true rfl⟩ rfl hl.1 (lv_room (Nat.le_of_ble_eq_true rfl)) dX10_best_26) (fun H locs X => ?_)
      refine lv_aload_n hx hb dX10_best_29 rfl (lv_at hl 0 rfl) ?_
      refine lv_iload_n hx hb dX10_best_30 rfl (lv_at hl 2 rfl) ?_
      obtain ⟨r7, S6, qr7, h⟩ := bnd_s h
      refine kc_i X (res := (r7, S6)) (rV (As := [.int a2]) (rest := []) (n := 1) (k := 0) C X (c_X10_bestTime l g ad S5 _ a2  qr7) wd_1377 wd_1379 wd_61 wd_83 wd_1380 (by decide) (eM_0 g ad S5) rfl rfl rfl (by decide +kernel) ⟨Nat.le_of_ble_eq_true rfl, Nat.le_of_ble_eq_true rfl⟩ rfl hl.1 (lv_room (Nat.le_of_ble_eq_true rfl)) dX10_best_31) (fun H locs X => ?_)
      exact rt_i C X rfl (Option.some.inj h) dX10_best_34
    · have h := ip h c4
      refine lv_ldc (v := (-1000000002 : Int32)) hx hb C.1.2.2.2.2.2.1 (C.1.2.2.2.2.2.2 _ (ws_in wd_1154)) dX10_best_21 ?_
      exact rt_i C X rfl (Option.some.inj h) dX10_best_23
  · have h := ip h c2
    refine lv_ldc (v := (-1000000001 : Int32)) hx hb C.1.2.2.2.2.2.1 (C.1.2.2.2.2.2.2 _ (ws_in wd_1249)) dX10_best_8 ?_
    exact rt_i C X rfl (Option.some.inj h) dX10_best_10

def rmX10_wideRow : Room := { frames := 7, cells := 0, slots := 0, locals := 165 }
def b_X10_wideRow_80 (K16 : Int32 → Int32 → Int32 → ST → Option (Int32 × ST)) (v2 : Int32) (v3 : Int32) (v4 : Int32) (v5 : Int32) (S : ST) : Option (Int32 × ST) :=
  nm (su S 0 39 v5) fun S10 => if v3 ≤ v2 then (nm (v4 + (1 : Int32)) fun x12 => K16 v2 v3 x12 S10) else (nm (v4 + (1 : Int32)) fun x13 => K16 v3 v3 x13 S10)
def b_X10_wideRow_58 (K16 : Int32 → Int32 → Int32 → ST → Option (Int32 × ST)) (v2 : Int32) (v3 : Int32) (v4 : Int32) (v5 : Int32) (v6 : Int32) (S : ST) : Option (Int32 × ST) :=
  nm (su S 0 40 (v6 + v5)) fun S8 => if v3 ≤ v2 then (b_X10_wideRow_80 K16 v2 v3 v4 (S8.1 0 39) S8) else (b_X10_wideRow_80 K16 v2 v3 v4 ((v4 - v3) + ((1 : Int32))) S8)
def b_X10_wideRow_42 (K16 : Int32 → Int32 → Int32 → ST → Option (Int32 × ST)) (v2 : Int32) (v3 : Int32) (v4 : Int32) (v5 : Int32) (S : ST) : Option (Int32 × ST) :=
  if v4 = 0 then (b_X10_wideRow_58 K16 v2 v5 v3 ((0 : Int32)) (S.1 0 40) S) else (b_X10_wideRow_58 K16 v2 v5 v3 ((1 : Int32)) (S.1 0 40) S)
def b_X10_wideRow_16 (K16 : Int32 → Int32 → Int32 → ST → Option (Int32 × ST)) (v2 : Int32) (v3 : Int32) (v4 : Int32) (S : ST) : Option (Int32 × ST) :=
  if ((200 : Int32)) < v4 then (some (v2, S)) else (bnd (f_X10_isGood v4 S) fun r5 S4 => if r5 = 0 then (b_X10_wideRow_42 K16 v2 v4 r5 ((0 : Int32)) S4) else (b_X10_wideRow_42 K16 v2 v4 r5 (v3 + ((1 : Int32))) S4))
def f_X10_wideRow  (S : ST) : Option (Int32 × ST) :=
  nm (su S 0 39 ((-1 : Int32))) fun S1 => nm (su S1 0 40 ((0 : Int32))) fun S2 => lp (fun _ _ _ _ => none) (b_X10_wideRow_16) 1000 ((0 : Int32)) ((0 : Int32)) ((1 : Int32)) S2
set_option maxHeartbeats 4000000 in
set_option maxRecDepth 100000 in
theorem kb_X10_wideRow_80 {p : Program} {l : Launch} {e : Env} {s : State} {m : MethodId} {args : Array Value} {below : List Frame} {meth : Method} {c : Code} {g : GG} {ad : Nat → Nat} {res : (Int32 × ST)} {S : ST} (C : CX kM g ad p s m args meth c cX10_wideRow (some Jvm.ClassFile.FieldType.int) 5 yX10_wideRow.cls (.code yX10_wideRow cX10_wideRow 5 (some Jvm.ClassFile.FieldType.int))) {K16 : Int32 → Int32 → Int32 → ST → Option (Int32 × ST)} (hK16 : ∀ {v2 : Int32} {v3 : Int32} {v4 : Int32} {S : ST} {H : Heap} {locs : List Loc} {ls : Array Slot}, K16 v2 v3 v4 S = some res → WX kM g ad s S H locs → lv_has ls 5 [(0, .ref (ad 0)), (1, .int v2), (2, .int v3), (3, .int v4)] → W p l e rmX10_wideRow s m args below meth c H locs 0 0 (MQ below (QI kM g ad res (AA kM ad s.heap.size)) args s 0 0 (AA kM ad s.heap.size)) (F0 m 16 ls [])) {v2 : Int32} {v3 : Int32} {v4 : Int32} {v5 : Int32}  {H : Heap} {locs : List Loc} {ls : Array Slot} (h : b_X10_wideRow_80 K16 v2 v3 v4 v5 S = some res) (X : WX kM g ad s S H locs) (hl : lv_has ls 5 [(0, .ref (ad 0)), (1, .int v2), (2, .int v3), (3, .int v4)])  : W p l e rmX10_wideRow s m args below meth c H locs 0 0 (MQ below (QI kM g ad res (AA kM ad s.heap.size)) args s 0 0 (AA kM ad s.heap.size)) (F0 m 80 ls [.int v5, .ref (ad 0)]) := by
  have hx := C.1.1
  have hb := C.1.2.1
  have h : (nm (su S 0 39 v5) fun S10 => if v3 ≤ v2 then (nm (v4 + (1 : Int32)) fun x12 => K16 v2 v3 x12 S10) else (nm (v4 + (1 : Int32)) fun x13 => K16 v3 v3 x13 S10) : Option (Int32 × ST)) = some res := h
  obtain ⟨S10, eS10, h⟩ := nm_s h
  refine g_put (S' := S10) C X inT10 tyX10 tyX10_ok nmX10 0 (by decide) (eM_0 g ad S) rfl 39 (by decide) wd_1045 rfl (by rfl) rfl (Nat.le_of_ble_eq_true rfl) (by subst eS10; rfl) (by subst eS10; exact fun i hi => ent_offu hi) dX10_wideRow_80 (fun H locs X => ?_)
  refine lv_iload_n hx hb dX10_wideRow_83 rfl (lv_at hl 2 rfl) ?_
  refine lv_iload_n hx hb dX10_wideRow_84 rfl (lv_at hl 1 rfl) ?_
  refine lv_icmp_le (tgt := 92) hx hb dX10_wideRow_85 (by decide) (fun c11 => ?_) (fun c11 => ?_)
  · have h := ip h c11
    refine lv_iload_n hx hb dX10_wideRow_92 rfl (lv_at hl 1 rfl) ?_
    refine lv_istore_n (lv' := [(1, .int v2), (0, .ref (ad 0)), (2, .int v3), (3, .int v4)]) hx hb dX10_wideRow_93 rfl hl (by decide) rfl (fun ls hl => ?_)
    obtain ⟨x12, ex12, h⟩ := nm_s h
    refine lv_iinc (v := x12) (lv' := [(3, .int x12), (1, .int v2), (0, .ref (ad 0)), (2, .int v3)]) hx hb dX10_wideRow_94 hl (k := 3) rfl (by rw [ex12]; rfl) (by decide) rfl (fun ls hl => ?_)
    refine lv_goto (tgt := 16) hx hb dX10_wideRow_97 (by decide) ?_
    exact hK16 h X (lv_sub hl [2, 1, 3, 0] rfl) 
  · have h := inn h c11
    refine lv_iload_n hx hb dX10_wideRow_88 rfl (lv_at hl 2 rfl) ?_
    refine lv_goto (tgt := 93) hx hb dX10_wideRow_89 (by decide) ?_
    refine lv_istore_n (lv' := [(1, .int v3), (0, .ref (ad 0)), (2, .int v3), (3, .int v4)]) hx hb dX10_wideRow_93 rfl hl (by decide) rfl (fun ls hl => ?_)
    obtain ⟨x13, ex13, h⟩ := nm_s h
    refine lv_iinc (v := x13) (lv' := [(3, .int x13), (1, .int v3), (0, .ref (ad 0)), (2, .int v3)]) hx hb dX10_wideRow_94 hl (k := 3) rfl (by rw [ex13]; rfl) (by decide) rfl (fun ls hl => ?_)
    refine lv_goto (tgt := 16) hx hb dX10_wideRow_97 (by decide) ?_
    exact hK16 h X (lv_sub hl [2, 1, 3, 0] rfl) 
set_option maxHeartbeats 4000000 in
set_option maxRecDepth 100000 in
theorem kb_X10_wideRow_58 {p : Program} {l : Launch} {e : Env} {s : State} {m : MethodId} {args : Array Value} {below : List Frame} {meth : Method} {c : Code} {g : GG} {ad : Nat → Nat} {res : (Int32 × ST)} {S : ST} (C : CX kM g ad p s m args meth c cX10_wideRow (some Jvm.ClassFile.FieldType.int) 5 yX10_wideRow.cls (.code yX10_wideRow cX10_wideRow 5 (some Jvm.ClassFile.FieldType.int))) {K16 : Int32 → Int32 → Int32 → ST → Option (Int32 × ST)} (hK16 : ∀ {v2 : Int32} {v3 : Int32} {v4 : Int32} {S : ST} {H : Heap} {locs : List Loc} {ls : Array Slot}, K16 v2 v3 v4 S = some res → WX kM g ad s S H locs → lv_has ls 5 [(0, .ref (ad 0)), (1, .int v2), (2, .int v3), (3, .int v4)] → W p l e rmX10_wideRow s m args below meth c H locs 0 0 (MQ below (QI kM g ad res (AA kM ad s.heap.size)) args s 0 0 (AA kM ad s.heap.size)) (F0 m 16 ls [])) {v2 : Int32} {v3 : Int32} {v4 : Int32} {v5 : Int32} {v6 : Int32}  {H : Heap} {locs : List Loc} {ls : Array Slot} (h : b_X10_wideRow_58 K16 v2 v3 v4 v5 v6 S = some res) (X : WX kM g ad s S H locs) (hl : lv_has ls 5 [(0, .ref (ad 0)), (1, .int v2), (2, .int v3), (3, .int v4)])  : W p l e rmX10_wideRow s m args below meth c H locs 0 0 (MQ below (QI kM g ad res (AA kM ad s.heap.size)) args s 0 0 (AA kM ad s.heap.size)) (F0 m 58 ls [.int v5, .int v6, .ref (ad 0)]) := by
  have hx := C.1.1
  have hb := C.1.2.1
  have h : (nm (su S 0 40 (v6 + v5)) fun S8 => if v3 ≤ v2 then (b_X10_wideRow_80 K16 v2 v3 v4 (S8.1 0 39) S8) else (b_X10_wideRow_80 K16 v2 v3 v4 ((v4 - v3) + ((1 : Int32))) S8) : Option (Int32 × ST)) = some res := h
  refine lv_iadd hx hb dX10_wideRow_58 ?_
  obtain ⟨S8, eS8, h⟩ := nm_s h
  refine g_put (S' := S8) C X inT10 tyX10 tyX10_ok nmX10 0 (by decide) (eM_0 g ad S) rfl 40 (by decide) wd_1046 rfl (by rfl) rfl (Nat.le_of_ble_eq_true rfl) (by subst eS8; rfl) (by subst eS8; exact fun i hi => ent_offu hi) dX10_wideRow_59 (fun H locs X => ?_)
  refine lv_aload_n hx hb dX10_wideRow_62 rfl (lv_at hl 0 rfl) ?_
  refine lv_iload_n hx hb dX10_wideRow_63 rfl (lv_at hl 2 rfl) ?_
  refine lv_iload_n hx hb dX10_wideRow_64 rfl (lv_at hl 1 rfl) ?_
  refine lv_icmp_le (tgt := 76) hx hb dX10_wideRow_65 (by decide) (fun c9 => ?_) (fun c9 => ?_)
  · have h := ip h c9
    refine lv_aload_n hx hb dX10_wideRow_76 rfl (lv_at hl 0 rfl) ?_
    refine g_get C X inT10 0 (by decide) (eM_0 g ad S8) rfl 39 (by decide) wd_1045 (v := .int (S8.1 0 39)) rfl dX10_wideRow_77 ?_
    exact kb_X10_wideRow_80 C hK16 h X (lv_sub hl [0, 1, 2, 3] rfl) 
  · have h := inn h c9
    refine lv_iload_n hx hb dX10_wideRow_68 rfl (lv_at hl 3 rfl) ?_
    refine lv_iload_n hx hb dX10_wideRow_69 rfl (lv_at hl 2 rfl) ?_
    refine lv_isub hx hb dX10_wideRow_70 ?_
    refine lv_iconst (v := (1 : Int32)) hx hb dX10_wideRow_71 (by decide) ?_
    refine lv_iadd hx hb dX10_wideRow_72 ?_
    refine lv_goto (tgt := 80) hx hb dX10_wideRow_73 (by decide) ?_
    exact kb_X10_wideRow_80 C hK16 h X (lv_sub hl [0, 1, 2, 3] rfl) 
set_option maxHeartbeats 4000000 in
set_option maxRecDepth 100000 in
theorem kb_X10_wideRow_42 {p : Program} {l : Launch} {e : Env} {s : State} {m : MethodId} {args : Array Value} {below : List Frame} {meth : Method} {c : Code} {g : GG} {ad : Nat → Nat} {res : (Int32 × ST)} {S : ST} (C : CX kM g ad p s m args meth c cX10_wideRow (some Jvm.ClassFile.FieldType.int) 5 yX10_wideRow.cls (.code yX10_wideRow cX10_wideRow 5 (some Jvm.ClassFile.FieldType.int))) {K16 : Int32 → Int32 → Int32 → ST → Option (Int32 × ST)} (hK16 : ∀ {v2 : Int32} {v3 : Int32} {v4 : Int32} {S : ST} {H : Heap} {locs : List Loc} {ls : Array Slot}, K16 v2 v3 v4 S = some res → WX kM g ad s S H locs → lv_has ls 5 [(0, .ref (ad 0)), (1, .int v2), (2, .int v3), (3, .int v4)] → W p l e rmX10_wideRow s m args below meth c H locs 0 0 (MQ below (QI kM g ad res (AA kM ad s.heap.size)) args s 0 0 (AA kM ad s.heap.size)) (F0 m 16 ls [])) {v2 : Int32} {v3 : Int32} {v4 : Int32} {v5 : Int32}  {H : Heap} {locs : List Loc} {ls : Array Slot} (h : b_X10_wideRow_42 K16 v2 v3 v4 v5 S = some res) (X : WX kM g ad s S H locs) (hl : lv_has ls 5 [(0, .ref (ad 0)), (1, .int v2), (3, .int v3), (4, .int v4)])  : W p l e rmX10_wideRow s m args below meth c H locs 0 0 (MQ below (QI kM g ad res (AA kM ad s.heap.size)) args s 0 0 (AA kM ad s.heap.size)) (F0 m 42 ls [.int v5]) := by
  have hx := C.1.1
  have hb := C.1.2.1
  have h : (if v4 = 0 then (b_X10_wideRow_58 K16 v2 v5 v3 ((0 : Int32)) (S.1 0 40) S) else (b_X10_wideRow_58 K16 v2 v5 v3 ((1 : Int32)) (S.1 0 40) S) : Option (Int32 × ST)) = some res := h
  refine lv_istore_n (lv' := [(2, .int v5), (0, .ref (ad 0)), (1, .int v2), (3, .int v3), (4, .int v4)]) hx hb dX10_wideRow_42 rfl hl (by decide) rfl (fun ls hl => ?_)
  refine lv_aload_n hx hb dX10_wideRow_43 rfl (lv_at hl 1 rfl) ?_
  refine lv_dup hx hb dX10_wideRow_44 rfl ?_
  refine g_get C X inT10 0 (by decide) (eM_0 g ad S) rfl 40 (by decide) wd_1046 (v := .int (S.1 0 40)) rfl dX10_wideRow_45 ?_
  refine lv_iload hx hb dX10_wideRow_48 (lv_at hl 4 rfl) ?_
  refine lv_if_eq (tgt := 57) hx hb dX10_wideRow_50 (by decide) (fun c7 => ?_) (fun c7 => ?_)
  · have h := ip h c7
    refine lv_iconst (v := (0 : Int32)) hx hb dX10_wideRow_57 (by decide) ?_
    exact kb_X10_wideRow_58 C hK16 h X (lv_sub hl [1, 2, 0, 3] rfl) 
  · have h := inn h c7
    refine lv_iconst (v := (1 : Int32)) hx hb dX10_wideRow_53 (by decide) ?_
    refine lv_goto (tgt := 58) hx hb dX10_wideRow_54 (by decide) ?_
    exact kb_X10_wideRow_58 C hK16 h X (lv_sub hl [1, 2, 0, 3] rfl) 
set_option maxHeartbeats 4000000 in
set_option maxRecDepth 100000 in
theorem kb_X10_wideRow_16 {p : Program} {l : Launch} {e : Env} {s : State} {m : MethodId} {args : Array Value} {below : List Frame} {meth : Method} {c : Code} {g : GG} {ad : Nat → Nat} {res : (Int32 × ST)} {S : ST} (C : CX kM g ad p s m args meth c cX10_wideRow (some Jvm.ClassFile.FieldType.int) 5 yX10_wideRow.cls (.code yX10_wideRow cX10_wideRow 5 (some Jvm.ClassFile.FieldType.int))) {K16 : Int32 → Int32 → Int32 → ST → Option (Int32 × ST)} (hK16 : ∀ {v2 : Int32} {v3 : Int32} {v4 : Int32} {S : ST} {H : Heap} {locs : List Loc} {ls : Array Slot}, K16 v2 v3 v4 S = some res → WX kM g ad s S H locs → lv_has ls 5 [(0, .ref (ad 0)), (1, .int v2), (2, .int v3), (3, .int v4)] → W p l e rmX10_wideRow s m args below meth c H locs 0 0 (MQ below (QI kM g ad res (AA kM ad s.heap.size)) args s 0 0 (AA kM ad s.heap.size)) (F0 m 16 ls [])) {v2 : Int32} {v3 : Int32} {v4 : Int32}  {H : Heap} {locs : List Loc} {ls : Array Slot} (h : b_X10_wideRow_16 K16 v2 v3 v4 S = some res) (X : WX kM g ad s S H locs) (hl : lv_has ls 5 [(0, .ref (ad 0)), (1, .int v2), (2, .int v3), (3, .int v4)])  : W p l e rmX10_wideRow s m args below meth c H locs 0 0 (MQ below (QI kM g ad res (AA kM ad s.heap.size)) args s 0 0 (AA kM ad s.heap.size)) (F0 m 16 ls []) := by
  have hx := C.1.1
  have hb := C.1.2.1
  have h : (if ((200 : Int32)) < v4 then (some (v2, S)) else (bnd (f_X10_isGood v4 S) fun r5 S4 => if r5 = 0 then (b_X10_wideRow_42 K16 v2 v4 r5 ((0 : Int32)) S4) else (b_X10_wideRow_42 K16 v2 v4 r5 (v3 + ((1 : Int32))) S4)) : Option (Int32 × ST)) = some res := h
  refine lv_iload_n hx hb dX10_wideRow_16 rfl (lv_at hl 3 rfl) ?_
  refine lv_sipush (v := (200 : Int32)) hx hb dX10_wideRow_17 (by decide) ?_
  refine lv_icmp_gt (tgt := 100) hx hb dX10_wideRow_20 (by decide) (fun c3 => ?_) (fun c3 => ?_)
  · have h := ip h c3
    refine lv_iload_n hx hb dX10_wideRow_100 rfl (lv_at hl 1 rfl) ?_
    exact rt_i C X rfl (Option.some.inj h) dX10_wideRow_101
  · have h := inn h c3
    refine lv_aload_n hx hb dX10_wideRow_23 rfl (lv_at hl 0 rfl) ?_
    refine lv_iload_n hx hb dX10_wideRow_24 rfl (lv_at hl 3 rfl) ?_
    obtain ⟨r5, S4, qr5, h⟩ := bnd_s h
    refine kc_i X (res := (r5, S4)) (rV (As := [.int v4]) (rest := []) (n := 1) (k := 0) C X (c_X10_isGood l g ad S _ v4  qr5) wd_1381 wd_1383 wd_62 wd_83 wd_1384 (by decide) (eM_0 g ad S) rfl rfl rfl (by decide +kernel) ⟨Nat.le_of_ble_eq_true rfl, Nat.le_of_ble_eq_true rfl⟩ rfl hl.1 (lv_room (Nat.le_of_ble_eq_true rfl)) dX10_wideRow_25) (fun H locs X => ?_)
    refine lv_istore (lv' := [(4, .int r5), (0, .ref (ad 0)), (1, .int v2), (2, .int v3), (3, .int v4)]) hx hb dX10_wideRow_28 hl (by decide) rfl (fun ls hl => ?_)
    refine lv_iload hx hb dX10_wideRow_30 (lv_at hl 0 rfl) ?_
    refine lv_if_eq (tgt := 41) hx hb dX10_wideRow_32 (by decide) (fun c6 => ?_) (fun c6 => ?_)
    · have h := ip h c6
      refine lv_iconst (v := (0 : Int32)) hx hb dX10_wideRow_41 (by decide) ?_
      exact kb_X10_wideRow_42 C hK16 h X (lv_sub hl [1, 2, 4, 0] rfl) 
    · have h := inn h c6
      refine lv_iload_n hx hb dX10_wideRow_35 rfl (lv_at hl 3 rfl) ?_
      refine lv_iconst (v := (1 : Int32)) hx hb dX10_wideRow_36 (by decide) ?_
      refine lv_iadd hx hb dX10_wideRow_37 ?_
      refine lv_goto (tgt := 42) hx hb dX10_wideRow_38 (by decide) ?_
      exact kb_X10_wideRow_42 C hK16 h X (lv_sub hl [1, 2, 4, 0] rfl) 
set_option maxHeartbeats 4000000 in
set_option maxRecDepth 100000 in
theorem kl_X10_wideRow_16 {p : Program} {l : Launch} {e : Env} {s : State} {m : MethodId} {args : Array Value} {below : List Frame} {meth : Method} {c : Code} {g : GG} {ad : Nat → Nat} {res : (Int32 × ST)}  (C : CX kM g ad p s m args meth c cX10_wideRow (some Jvm.ClassFile.FieldType.int) 5 yX10_wideRow.cls (.code yX10_wideRow cX10_wideRow 5 (some Jvm.ClassFile.FieldType.int)))  : ∀ (n : Nat) {v2 : Int32} {v3 : Int32} {v4 : Int32} {S : ST} {H : Heap} {locs : List Loc} {ls : Array Slot}, (lp (fun _ _ _ _ => none) (b_X10_wideRow_16)) n v2 v3 v4 S = some res → WX kM g ad s S H locs → lv_has ls 5 [(0, .ref (ad 0)), (1, .int v2), (2, .int v3), (3, .int v4)] → W p l e rmX10_wideRow s m args below meth c H locs 0 0 (MQ below (QI kM g ad res (AA kM ad s.heap.size)) args s 0 0 (AA kM ad s.heap.size)) (F0 m 16 ls []) := by
  intro n
  induction n with
  | zero =>
    intro v2 v3 v4 S H locs ls h
    cases (show (none : Option (Int32 × ST)) = some res from h)
  | succ n ih =>
    intro v2 v3 v4 S H locs ls h X hl 
    exact kb_X10_wideRow_16 C ih h X hl 
set_option maxHeartbeats 4000000 in
set_option maxRecDepth 100000 in
theorem c_X10_wideRow (l : Launch) (g : GG) (ad : Nat → Nat) (S : ST) (sz : Nat)   {res : (Int32 × ST)} (h : f_X10_wideRow S = some res) : Met l yX10_wideRow (WS (.code yX10_wideRow cX10_wideRow 5 (some Jvm.ClassFile.FieldType.int))) rmX10_wideRow (va_Pc [.ref (ad 0)] (PW kM g ad S sz)) (QI kM g ad res (AA kM ad sz)) 0 0 (AA kM ad sz) := by
  refine go_m (Qc := fun A => QI kM g ad res A) (by decide) (Nat.le_of_ble_eq_true rfl) (fun p e s m below meth c ls H locs C X hl => ?_)
  have hx := C.1.1
  have hb := C.1.2.1
  have hl : lv_has ls 5 [(0, .ref (ad 0))] := hl
  have h : (nm (su S 0 39 ((-1 : Int32))) fun S1 => nm (su S1 0 40 ((0 : Int32))) fun S2 => lp (fun _ _ _ _ => none) (b_X10_wideRow_16) 1000 ((0 : Int32)) ((0 : Int32)) ((1 : Int32)) S2 : Option (Int32 × ST)) = some res := h
  refine lv_iconst (v := (0 : Int32)) hx hb dX10_wideRow_0 (by decide) ?_
  refine lv_istore_n (lv' := [(1, .int ((0 : Int32))), (0, .ref (ad 0))]) hx hb dX10_wideRow_1 rfl hl (by decide) rfl (fun ls hl => ?_)
  refine lv_iconst (v := (0 : Int32)) hx hb dX10_wideRow_2 (by decide) ?_
  refine lv_istore_n (lv' := [(2, .int ((0 : Int32))), (1, .int ((0 : Int32))), (0, .ref (ad 0))]) hx hb dX10_wideRow_3 rfl hl (by decide) rfl (fun ls hl => ?_)
  refine lv_aload_n hx hb dX10_wideRow_4 rfl (lv_at hl 2 rfl) ?_
  refine lv_iconst (v := (-1 : Int32)) hx hb dX10_wideRow_5 (by decide) ?_
  obtain ⟨S1, eS1, h⟩ := nm_s h
  refine g_put (S' := S1) C X inT10 tyX10 tyX10_ok nmX10 0 (by decide) (eM_0 g ad S) rfl 39 (by decide) wd_1045 rfl (by rfl) rfl (Nat.le_of_ble_eq_true rfl) (by subst eS1; rfl) (by subst eS1; exact fun i hi => ent_offu hi) dX10_wideRow_6 (fun H locs X => ?_)
  refine lv_aload_n hx hb dX10_wideRow_9 rfl (lv_at hl 2 rfl) ?_
  refine lv_iconst (v := (0 : Int32)) hx hb dX10_wideRow_10 (by decide) ?_
  obtain ⟨S2, eS2, h⟩ := nm_s h
  refine g_put (S' := S2) C X inT10 tyX10 tyX10_ok nmX10 0 (by decide) (eM_0 g ad S1) rfl 40 (by decide) wd_1046 rfl (by rfl) rfl (Nat.le_of_ble_eq_true rfl) (by subst eS2; rfl) (by subst eS2; exact fun i hi => ent_offu hi) dX10_wideRow_11 (fun H locs X => ?_)
  refine lv_iconst (v := (1 : Int32)) hx hb dX10_wideRow_14 (by decide) ?_
  refine lv_istore_n (lv' := [(3, .int ((1 : Int32))), (2, .int ((0 : Int32))), (1, .int ((0 : Int32))), (0, .ref (ad 0))]) hx hb dX10_wideRow_15 rfl hl (by decide) rfl (fun ls hl => ?_)
  exact kl_X10_wideRow_16 C _ h X (lv_sub hl [3, 2, 1, 0] rfl) 

def rmX10_wide : Room := { frames := 8, cells := 0, slots := 0, locals := 189 }
def f_X10_wide (a1 : Int32) (a2 : Int32) (S : ST) : Option (Int32 × ST) :=
  bn1 (f_X10_isSwinger a1 S) fun r1 => if r1 = 0 then (some ((-1000000001 : Int32), S)) else (bn1 (f_X10_in (a2.toInt64) ((0 : Int64)) ((2 : Int64))) fun r3 => if r3 = 0 then (some ((-1000000002 : Int32), S)) else (bn1 (f_X10_ready a1 S) fun S5 => bnd (f_X10_wideRow S5) fun r7 S6 => if a2 = 0 then (some (r7, S6)) else (if a2 = ((1 : Int32)) then (some (S6.1 0 39, S6)) else (some (S6.1 0 40, S6)))))
set_option maxHeartbeats 4000000 in
set_option maxRecDepth 100000 in
theorem c_X10_wide (l : Launch) (g : GG) (ad : Nat → Nat) (S : ST) (sz : Nat) (a1 : Int32) (a2 : Int32)  {res : (Int32 × ST)} (h : f_X10_wide a1 a2 S = some res) : Met l yX10_wide (WS (.code yX10_wide cX10_wide 4 (some Jvm.ClassFile.FieldType.int))) rmX10_wide (va_Pc [.ref (ad 0), .int a1, .int a2] (PW kM g ad S sz)) (QI kM g ad res (AA kM ad sz)) 0 0 (AA kM ad sz) := by
  refine go_m (Qc := fun A => QI kM g ad res A) (by decide) (Nat.le_of_ble_eq_true rfl) (fun p e s m below meth c ls H locs C X hl => ?_)
  have hx := C.1.1
  have hb := C.1.2.1
  have hl : lv_has ls 4 [(0, .ref (ad 0)), (1, .int a1), (2, .int a2)] := hl
  have h : (bn1 (f_X10_isSwinger a1 S) fun r1 => if r1 = 0 then (some ((-1000000001 : Int32), S)) else (bn1 (f_X10_in (a2.toInt64) ((0 : Int64)) ((2 : Int64))) fun r3 => if r3 = 0 then (some ((-1000000002 : Int32), S)) else (bn1 (f_X10_ready a1 S) fun S5 => bnd (f_X10_wideRow S5) fun r7 S6 => if a2 = 0 then (some (r7, S6)) else (if a2 = ((1 : Int32)) then (some (S6.1 0 39, S6)) else (some (S6.1 0 40, S6))))) : Option (Int32 × ST)) = some res := h
  refine lv_aload_n hx hb dX10_wide_0 rfl (lv_at hl 0 rfl) ?_
  refine lv_iload_n hx hb dX10_wide_1 rfl (lv_at hl 1 rfl) ?_
  obtain ⟨r1, qr1, h⟩ := bn1_s h
  refine kc_i X (res := (r1, S)) (rV (As := [.int a1]) (rest := []) (n := 1) (k := 0) C X (c_X10_isSwinger l g ad S _ a1  qr1) wd_1266 wd_1268 wd_47 wd_83 wd_1269 (by decide) (eM_0 g ad S) rfl rfl rfl (by decide +kernel) ⟨Nat.le_of_ble_eq_true rfl, Nat.le_of_ble_eq_true rfl⟩ rfl hl.1 (lv_room (Nat.le_of_ble_eq_true rfl)) dX10_wide_2) (fun H locs X => ?_)
  refine lv_if_ne (tgt := 11) hx hb dX10_wide_5 (by decide) (fun c2 => ?_) (fun c2 => ?_)
  · have h := inn h c2
    refine lv_iload_n hx hb dX10_wide_11 rfl (lv_at hl 2 rfl) ?_
    refine lv_i2l hx hb dX10_wide_12 rfl ?_
    refine lv_lconst (v := (0 : Int64)) hx hb dX10_wide_13 (by decide) ?_
    refine lv_ldc2 (v := (2 : Int64)) hx hb C.1.2.2.2.2.2.1 (C.1.2.2.2.2.2.2 _ (ws_in wd_1389)) dX10_wide_14 ?_
    obtain ⟨r3, qr3, h⟩ := bn1_s h
    refine kc_i X (res := (r3, S)) (rS (As := [.long (a2.toInt64), .long ((0 : Int64)), .long ((2 : Int64))]) (rest := []) (n := 3) C X (c_X10_in l g ad S _ (a2.toInt64) ((0 : Int64)) ((2 : Int64))  qr3) wd_1151 wd_1152 wd_83 wd_1153 rfl rfl (by decide +kernel) ⟨Nat.le_of_ble_eq_true rfl, Nat.le_of_ble_eq_true rfl⟩ rfl hl.1 (lv_room (Nat.le_of_ble_eq_true rfl)) dX10_wide_17) (fun H locs X => ?_)
    refine lv_if_ne (tgt := 26) hx hb dX10_wide_20 (by decide) (fun c4 => ?_) (fun c4 => ?_)
    · have h := inn h c4
      refine lv_aload_n hx hb dX10_wide_26 rfl (lv_at hl 0 rfl) ?_
      refine lv_iload_n hx hb dX10_wide_27 rfl (lv_at hl 1 rfl) ?_
      obtain ⟨S5, qS5, h⟩ := bn1_s h
      refine kc_v X (res := S5) (rV (As := [.int a1]) (rest := []) (n := 1) (k := 0) C X (c_X10_ready l g ad S _ a1  qS5) wd_1342 wd_1344 wd_55 wd_83 wd_1345 (by decide) (eM_0 g ad S) rfl rfl rfl (by decide +kernel) ⟨Nat.le_of_ble_eq_true rfl, Nat.le_of_ble_eq_true rfl⟩ rfl hl.1 (lv_room (Nat.le_of_ble_eq_true rfl)) dX10_wide_28) (fun H locs X => ?_)
      refine lv_aload_n hx hb dX10_wide_31 rfl (lv_at hl 0 rfl) ?_
      obtain ⟨r7, S6, qr7, h⟩ := bnd_s h
      refine kc_i X (res := (r7, S6)) (rV (As := []) (rest := []) (n := 0) (k := 0) C X (c_X10_wideRow l g ad S5 _   qr7) wd_1390 wd_1392 wd_63 wd_83 wd_1393 (by decide) (eM_0 g ad S5) rfl rfl rfl (by decide +kernel) ⟨Nat.le_of_ble_eq_true rfl, Nat.le_of_ble_eq_true rfl⟩ rfl hl.1 (lv_room (Nat.le_of_ble_eq_true rfl)) dX10_wide_32) (fun H locs X => ?_)
      refine lv_istore_n (lv' := [(3, .int r7), (0, .ref (ad 0)), (1, .int a1), (2, .int a2)]) hx hb dX10_wide_35 rfl hl (by decide) rfl (fun ls hl => ?_)
      refine lv_iload_n hx hb dX10_wide_36 rfl (lv_at hl 3 rfl) ?_
      refine lv_if_ne (tgt := 44) hx hb dX10_wide_37 (by decide) (fun c8 => ?_) (fun c8 => ?_)
      · have h := inn h c8
        refine lv_iload_n hx hb dX10_wide_44 rfl (lv_at hl 3 rfl) ?_
        refine lv_iconst (v := (1 : Int32)) hx hb dX10_wide_45 (by decide) ?_
        refine lv_icmp_ne (tgt := 56) hx hb dX10_wide_46 (by decide) (fun c9 => ?_) (fun c9 => ?_)
        · have h := inn h c9
          refine lv_aload_n hx hb dX10_wide_56 rfl (lv_at hl 1 rfl) ?_
          refine g_get C X inT10 0 (by decide) (eM_0 g ad S6) rfl 40 (by decide) wd_1046 (v := .int (S6.1 0 40)) rfl dX10_wide_57 ?_
          exact rt_i C X rfl (Option.some.inj h) dX10_wide_60
        · have h := ip h c9
          refine lv_aload_n hx hb dX10_wide_49 rfl (lv_at hl 1 rfl) ?_
          refine g_get C X inT10 0 (by decide) (eM_0 g ad S6) rfl 39 (by decide) wd_1045 (v := .int (S6.1 0 39)) rfl dX10_wide_50 ?_
          refine lv_goto (tgt := 60) hx hb dX10_wide_53 (by decide) ?_
          exact rt_i C X rfl (Option.some.inj h) dX10_wide_60
      · have h := ip h c8
        refine lv_iload_n hx hb dX10_wide_40 rfl (lv_at hl 0 rfl) ?_
        refine lv_goto (tgt := 60) hx hb dX10_wide_41 (by decide) ?_
        exact rt_i C X rfl (Option.some.inj h) dX10_wide_60
    · have h := ip h c4
      refine lv_ldc (v := (-1000000002 : Int32)) hx hb C.1.2.2.2.2.2.1 (C.1.2.2.2.2.2.2 _ (ws_in wd_1154)) dX10_wide_23 ?_
      exact rt_i C X rfl (Option.some.inj h) dX10_wide_25
  · have h := ip h c2
    refine lv_ldc (v := (-1000000001 : Int32)) hx hb C.1.2.2.2.2.2.1 (C.1.2.2.2.2.2.2 _ (ws_in wd_1249)) dX10_wide_8 ?_
    exact rt_i C X rfl (Option.some.inj h) dX10_wide_10

def rmX10_odds : Room := { frames := 7, cells := 0, slots := 0, locals := 165 }
def b_X10_odds_65 (K44 : Int32 → Int32 → Int32 → Int32 → ST → Option (Int32 × ST)) (v2 : Int32) (v3 : Int32) (v4 : Int32) (v5 : Int32) (v6 : Int32) (S : ST) : Option (Int32 × ST) :=
  nm (v6 + v5) fun x13 => nm (su S 0 27 ((S.1 0 27) + ((1 : Int32)))) fun S14 => nm (v4 + (1 : Int32)) fun x15 => K44 v2 v3 x13 x15 S14
def b_X10_odds_44 (K44 : Int32 → Int32 → Int32 → Int32 → ST → Option (Int32 × ST)) (v2 : Int32) (v3 : Int32) (v4 : Int32) (v5 : Int32) (S : ST) : Option (Int32 × ST) :=
  if v3 < v5 then (chk (nzl ((v3 + ((1 : Int32))).toInt64)) (some (((((1000000 : Int64)) * (v4.toInt64)) / ((v3 + ((1 : Int32))).toInt64)).toInt32, S))) else (bnd (f_X10_isGood v2 S) fun r11 S10 => if r11 = 0 then (b_X10_odds_65 K44 v2 v3 v5 ((0 : Int32)) v4 S10) else (b_X10_odds_65 K44 v2 v3 v5 ((1 : Int32)) v4 S10))
def f_X10_odds (a1 : Int32) (a2 : Int32) (a3 : Int32) (S : ST) : Option (Int32 × ST) :=
  bn1 (f_X10_isSwinger a1 S) fun r1 => if r1 = 0 then (some ((-1000000001 : Int32), S)) else (bn1 (f_X10_isTime a2) fun r3 => if r3 = 0 then (some ((-1000000002 : Int32), S)) else (bn1 (f_X10_in (a3.toInt64) ((0 : Int64)) ((40 : Int64))) fun r5 => if r5 = 0 then (some ((-1000000002 : Int32), S)) else (bn1 (f_X10_ready a1 S) fun S7 => lp (fun _ _ _ _ _ => none) (b_X10_odds_44) 1000 a2 a3 ((0 : Int32)) ((0 : Int32)) S7)))
set_option maxHeartbeats 4000000 in
set_option maxRecDepth 100000 in
theorem kb_X10_odds_65 {p : Program} {l : Launch} {e : Env} {s : State} {m : MethodId} {args : Array Value} {below : List Frame} {meth : Method} {c : Code} {g : GG} {ad : Nat → Nat} {res : (Int32 × ST)} {S : ST} (C : CX kM g ad p s m args meth c cX10_odds (some Jvm.ClassFile.FieldType.int) 6 yX10_odds.cls (.code yX10_odds cX10_odds 6 (some Jvm.ClassFile.FieldType.int))) {K44 : Int32 → Int32 → Int32 → Int32 → ST → Option (Int32 × ST)} (hK44 : ∀ {v2 : Int32} {v3 : Int32} {v4 : Int32} {v5 : Int32} {S : ST} {H : Heap} {locs : List Loc} {ls : Array Slot}, K44 v2 v3 v4 v5 S = some res → WX kM g ad s S H locs → lv_has ls 6 [(0, .ref (ad 0)), (2, .int v2), (3, .int v3), (4, .int v4), (5, .int v5)] → W p l e rmX10_odds s m args below meth c H locs 0 0 (MQ below (QI kM g ad res (AA kM ad s.heap.size)) args s 0 0 (AA kM ad s.heap.size)) (F0 m 44 ls [])) {v2 : Int32} {v3 : Int32} {v4 : Int32} {v5 : Int32} {v6 : Int32}  {H : Heap} {locs : List Loc} {ls : Array Slot} (h : b_X10_odds_65 K44 v2 v3 v4 v5 v6 S = some res) (X : WX kM g ad s S H locs) (hl : lv_has ls 6 [(0, .ref (ad 0)), (2, .int v2), (3, .int v3), (5, .int v4)])  : W p l e rmX10_odds s m args below meth c H locs 0 0 (MQ below (QI kM g ad res (AA kM ad s.heap.size)) args s 0 0 (AA kM ad s.heap.size)) (F0 m 65 ls [.int v5, .int v6]) := by
  have hx := C.1.1
  have hb := C.1.2.1
  have h : (nm (v6 + v5) fun x13 => nm (su S 0 27 ((S.1 0 27) + ((1 : Int32)))) fun S14 => nm (v4 + (1 : Int32)) fun x15 => K44 v2 v3 x13 x15 S14 : Option (Int32 × ST)) = some res := h
  refine lv_iadd hx hb dX10_odds_65 ?_
  obtain ⟨x13, ex13, h⟩ := nm_s h
  refine tp_i ex13 ?_
  refine lv_istore (lv' := [(4, .int x13), (0, .ref (ad 0)), (2, .int v2), (3, .int v3), (5, .int v4)]) hx hb dX10_odds_66 hl (by decide) rfl (fun ls hl => ?_)
  refine lv_aload_n hx hb dX10_odds_68 rfl (lv_at hl 1 rfl) ?_
  refine lv_dup hx hb dX10_odds_69 rfl ?_
  refine g_get C X inT10 0 (by decide) (eM_0 g ad S) rfl 27 (by decide) wd_1033 (v := .int (S.1 0 27)) rfl dX10_odds_70 ?_
  refine lv_iconst (v := (1 : Int32)) hx hb dX10_odds_73 (by decide) ?_
  refine lv_iadd hx hb dX10_odds_74 ?_
  obtain ⟨S14, eS14, h⟩ := nm_s h
  refine g_put (S' := S14) C X inT10 tyX10 tyX10_ok nmX10 0 (by decide) (eM_0 g ad S) rfl 27 (by decide) wd_1033 rfl (by rfl) rfl (Nat.le_of_ble_eq_true rfl) (by subst eS14; rfl) (by subst eS14; exact fun i hi => ent_offu hi) dX10_odds_75 (fun H locs X => ?_)
  obtain ⟨x15, ex15, h⟩ := nm_s h
  refine lv_iinc (v := x15) (lv' := [(5, .int x15), (4, .int x13), (0, .ref (ad 0)), (2, .int v2), (3, .int v3)]) hx hb dX10_odds_78 hl (k := 4) rfl (by rw [ex15]; rfl) (by decide) rfl (fun ls hl => ?_)
  refine lv_goto (tgt := 44) hx hb dX10_odds_81 (by decide) ?_
  exact hK44 h X (lv_sub hl [2, 3, 4, 1, 0] rfl) 
set_option maxHeartbeats 4000000 in
set_option maxRecDepth 100000 in
theorem kb_X10_odds_44 {p : Program} {l : Launch} {e : Env} {s : State} {m : MethodId} {args : Array Value} {below : List Frame} {meth : Method} {c : Code} {g : GG} {ad : Nat → Nat} {res : (Int32 × ST)} {S : ST} (C : CX kM g ad p s m args meth c cX10_odds (some Jvm.ClassFile.FieldType.int) 6 yX10_odds.cls (.code yX10_odds cX10_odds 6 (some Jvm.ClassFile.FieldType.int))) {K44 : Int32 → Int32 → Int32 → Int32 → ST → Option (Int32 × ST)} (hK44 : ∀ {v2 : Int32} {v3 : Int32} {v4 : Int32} {v5 : Int32} {S : ST} {H : Heap} {locs : List Loc} {ls : Array Slot}, K44 v2 v3 v4 v5 S = some res → WX kM g ad s S H locs → lv_has ls 6 [(0, .ref (ad 0)), (2, .int v2), (3, .int v3), (4, .int v4), (5, .int v5)] → W p l e rmX10_odds s m args below meth c H locs 0 0 (MQ below (QI kM g ad res (AA kM ad s.heap.size)) args s 0 0 (AA kM ad s.heap.size)) (F0 m 44 ls [])) {v2 : Int32} {v3 : Int32} {v4 : Int32} {v5 : Int32}  {H : Heap} {locs : List Loc} {ls : Array Slot} (h : b_X10_odds_44 K44 v2 v3 v4 v5 S = some res) (X : WX kM g ad s S H locs) (hl : lv_has ls 6 [(0, .ref (ad 0)), (2, .int v2), (3, .int v3), (4, .int v4), (5, .int v5)])  : W p l e rmX10_odds s m args below meth c H locs 0 0 (MQ below (QI kM g ad res (AA kM ad s.heap.size)) args s 0 0 (AA kM ad s.heap.size)) (F0 m 44 ls []) := by
  have hx := C.1.1
  have hb := C.1.2.1
  have h : (if v3 < v5 then (chk (nzl ((v3 + ((1 : Int32))).toInt64)) (some (((((1000000 : Int64)) * (v4.toInt64)) / ((v3 + ((1 : Int32))).toInt64)).toInt32, S))) else (bnd (f_X10_isGood v2 S) fun r11 S10 => if r11 = 0 then (b_X10_odds_65 K44 v2 v3 v5 ((0 : Int32)) v4 S10) else (b_X10_odds_65 K44 v2 v3 v5 ((1 : Int32)) v4 S10)) : Option (Int32 × ST)) = some res := h
  refine lv_iload hx hb dX10_odds_44 (lv_at hl 4 rfl) ?_
  refine lv_iload_n hx hb dX10_odds_46 rfl (lv_at hl 2 rfl) ?_
  refine lv_icmp_gt (tgt := 84) hx hb dX10_odds_47 (by decide) (fun c8 => ?_) (fun c8 => ?_)
  · have h := ip h c8
    refine lv_ldc2 (v := (1000000 : Int64)) hx hb C.1.2.2.2.2.2.1 (C.1.2.2.2.2.2.2 _ (ws_in wd_1399)) dX10_odds_84 ?_
    refine lv_iload hx hb dX10_odds_87 (lv_at hl 3 rfl) ?_
    refine lv_i2l hx hb dX10_odds_89 rfl ?_
    refine lv_lmul hx hb dX10_odds_90 ?_
    refine lv_iload_n hx hb dX10_odds_91 rfl (lv_at hl 2 rfl) ?_
    refine lv_iconst (v := (1 : Int32)) hx hb dX10_odds_92 (by decide) ?_
    refine lv_iadd hx hb dX10_odds_93 ?_
    refine lv_i2l hx hb dX10_odds_94 rfl ?_
    obtain ⟨k9, h⟩ := chk_s h
    refine lv_ldiv hx hb dX10_odds_95 (nzl_ne k9) ?_
    refine lv_l2i hx hb dX10_odds_96 rfl ?_
    exact rt_i C X rfl (Option.some.inj h) dX10_odds_97
  · have h := inn h c8
    refine lv_iload hx hb dX10_odds_50 (lv_at hl 3 rfl) ?_
    refine lv_aload_n hx hb dX10_odds_52 rfl (lv_at hl 0 rfl) ?_
    refine lv_iload_n hx hb dX10_odds_53 rfl (lv_at hl 1 rfl) ?_
    obtain ⟨r11, S10, qr11, h⟩ := bnd_s h
    refine kc_i X (res := (r11, S10)) (rV (As := [.int v2]) (rest := [.int v4]) (n := 1) (k := 0) C X (c_X10_isGood l g ad S _ v2  qr11) wd_1381 wd_1383 wd_62 wd_83 wd_1384 (by decide) (eM_0 g ad S) rfl rfl rfl (by decide +kernel) ⟨Nat.le_of_ble_eq_true rfl, Nat.le_of_ble_eq_true rfl⟩ rfl hl.1 (lv_room (Nat.le_of_ble_eq_true rfl)) dX10_odds_54) (fun H locs X => ?_)
    refine lv_if_eq (tgt := 64) hx hb dX10_odds_57 (by decide) (fun c12 => ?_) (fun c12 => ?_)
    · have h := ip h c12
      refine lv_iconst (v := (0 : Int32)) hx hb dX10_odds_64 (by decide) ?_
      exact kb_X10_odds_65 C hK44 h X (lv_sub hl [0, 1, 2, 4] rfl) 
    · have h := inn h c12
      refine lv_iconst (v := (1 : Int32)) hx hb dX10_odds_60 (by decide) ?_
      refine lv_goto (tgt := 65) hx hb dX10_odds_61 (by decide) ?_
      exact kb_X10_odds_65 C hK44 h X (lv_sub hl [0, 1, 2, 4] rfl) 
set_option maxHeartbeats 4000000 in
set_option maxRecDepth 100000 in
theorem kl_X10_odds_44 {p : Program} {l : Launch} {e : Env} {s : State} {m : MethodId} {args : Array Value} {below : List Frame} {meth : Method} {c : Code} {g : GG} {ad : Nat → Nat} {res : (Int32 × ST)}  (C : CX kM g ad p s m args meth c cX10_odds (some Jvm.ClassFile.FieldType.int) 6 yX10_odds.cls (.code yX10_odds cX10_odds 6 (some Jvm.ClassFile.FieldType.int)))  : ∀ (n : Nat) {v2 : Int32} {v3 : Int32} {v4 : Int32} {v5 : Int32} {S : ST} {H : Heap} {locs : List Loc} {ls : Array Slot}, (lp (fun _ _ _ _ _ => none) (b_X10_odds_44)) n v2 v3 v4 v5 S = some res → WX kM g ad s S H locs → lv_has ls 6 [(0, .ref (ad 0)), (2, .int v2), (3, .int v3), (4, .int v4), (5, .int v5)] → W p l e rmX10_odds s m args below meth c H locs 0 0 (MQ below (QI kM g ad res (AA kM ad s.heap.size)) args s 0 0 (AA kM ad s.heap.size)) (F0 m 44 ls []) := by
  intro n
  induction n with
  | zero =>
    intro v2 v3 v4 v5 S H locs ls h
    cases (show (none : Option (Int32 × ST)) = some res from h)
  | succ n ih =>
    intro v2 v3 v4 v5 S H locs ls h X hl 
    exact kb_X10_odds_44 C ih h X hl 
set_option maxHeartbeats 4000000 in
set_option maxRecDepth 100000 in
theorem c_X10_odds (l : Launch) (g : GG) (ad : Nat → Nat) (S : ST) (sz : Nat) (a1 : Int32) (a2 : Int32) (a3 : Int32)  {res : (Int32 × ST)} (h : f_X10_odds a1 a2 a3 S = some res) : Met l yX10_odds (WS (.code yX10_odds cX10_odds 6 (some Jvm.ClassFile.FieldType.int))) rmX10_odds (va_Pc [.ref (ad 0), .int a1, .int a2, .int a3] (PW kM g ad S sz)) (QI kM g ad res (AA kM ad sz)) 0 0 (AA kM ad sz) := by
  refine go_m (Qc := fun A => QI kM g ad res A) (by decide) (Nat.le_of_ble_eq_true rfl) (fun p e s m below meth c ls H locs C X hl => ?_)
  have hx := C.1.1
  have hb := C.1.2.1
  have hl : lv_has ls 6 [(0, .ref (ad 0)), (1, .int a1), (2, .int a2), (3, .int a3)] := hl
  have h : (bn1 (f_X10_isSwinger a1 S) fun r1 => if r1 = 0 then (some ((-1000000001 : Int32), S)) else (bn1 (f_X10_isTime a2) fun r3 => if r3 = 0 then (some ((-1000000002 : Int32), S)) else (bn1 (f_X10_in (a3.toInt64) ((0 : Int64)) ((40 : Int64))) fun r5 => if r5 = 0 then (some ((-1000000002 : Int32), S)) else (bn1 (f_X10_ready a1 S) fun S7 => lp (fun _ _ _ _ _ => none) (b_X10_odds_44) 1000 a2 a3 ((0 : Int32)) ((0 : Int32)) S7))) : Option (Int32 × ST)) = some res := h
  refine lv_aload_n hx hb dX10_odds_0 rfl (lv_at hl 0 rfl) ?_
  refine lv_iload_n hx hb dX10_odds_1 rfl (lv_at hl 1 rfl) ?_
  obtain ⟨r1, qr1, h⟩ := bn1_s h
  refine kc_i X (res := (r1, S)) (rV (As := [.int a1]) (rest := []) (n := 1) (k := 0) C X (c_X10_isSwinger l g ad S _ a1  qr1) wd_1266 wd_1268 wd_47 wd_83 wd_1269 (by decide) (eM_0 g ad S) rfl rfl rfl (by decide +kernel) ⟨Nat.le_of_ble_eq_true rfl, Nat.le_of_ble_eq_true rfl⟩ rfl hl.1 (lv_room (Nat.le_of_ble_eq_true rfl)) dX10_odds_2) (fun H locs X => ?_)
  refine lv_if_ne (tgt := 11) hx hb dX10_odds_5 (by decide) (fun c2 => ?_) (fun c2 => ?_)
  · have h := inn h c2
    refine lv_iload_n hx hb dX10_odds_11 rfl (lv_at hl 2 rfl) ?_
    obtain ⟨r3, qr3, h⟩ := bn1_s h
    refine kc_i X (res := (r3, S)) (rS (As := [.int a2]) (rest := []) (n := 1) C X (c_X10_isTime l g ad S _ a2  qr3) wd_1339 wd_1340 wd_83 wd_1341 rfl rfl (by decide +kernel) ⟨Nat.le_of_ble_eq_true rfl, Nat.le_of_ble_eq_true rfl⟩ rfl hl.1 (lv_room (Nat.le_of_ble_eq_true rfl)) dX10_odds_12) (fun H locs X => ?_)
    refine lv_if_eq (tgt := 30) hx hb dX10_odds_15 (by decide) (fun c4 => ?_) (fun c4 => ?_)
    · have h := ip h c4
      refine lv_ldc (v := (-1000000002 : Int32)) hx hb C.1.2.2.2.2.2.1 (C.1.2.2.2.2.2.2 _ (ws_in wd_1154)) dX10_odds_30 ?_
      exact rt_i C X rfl (Option.some.inj h) dX10_odds_32
    · have h := inn h c4
      refine lv_iload_n hx hb dX10_odds_18 rfl (lv_at hl 3 rfl) ?_
      refine lv_i2l hx hb dX10_odds_19 rfl ?_
      refine lv_lconst (v := (0 : Int64)) hx hb dX10_odds_20 (by decide) ?_
      refine lv_ldc2 (v := (40 : Int64)) hx hb C.1.2.2.2.2.2.1 (C.1.2.2.2.2.2.2 _ (ws_in wd_1398)) dX10_odds_21 ?_
      obtain ⟨r5, qr5, h⟩ := bn1_s h
      refine kc_i X (res := (r5, S)) (rS (As := [.long (a3.toInt64), .long ((0 : Int64)), .long ((40 : Int64))]) (rest := []) (n := 3) C X (c_X10_in l g ad S _ (a3.toInt64) ((0 : Int64)) ((40 : Int64))  qr5) wd_1151 wd_1152 wd_83 wd_1153 rfl rfl (by decide +kernel) ⟨Nat.le_of_ble_eq_true rfl, Nat.le_of_ble_eq_true rfl⟩ rfl hl.1 (lv_room (Nat.le_of_ble_eq_true rfl)) dX10_odds_24) (fun H locs X => ?_)
      refine lv_if_ne (tgt := 33) hx hb dX10_odds_27 (by decide) (fun c6 => ?_) (fun c6 => ?_)
      · have h := inn h c6
        refine lv_aload_n hx hb dX10_odds_33 rfl (lv_at hl 0 rfl) ?_
        refine lv_iload_n hx hb dX10_odds_34 rfl (lv_at hl 1 rfl) ?_
        obtain ⟨S7, qS7, h⟩ := bn1_s h
        refine kc_v X (res := S7) (rV (As := [.int a1]) (rest := []) (n := 1) (k := 0) C X (c_X10_ready l g ad S _ a1  qS7) wd_1342 wd_1344 wd_55 wd_83 wd_1345 (by decide) (eM_0 g ad S) rfl rfl rfl (by decide +kernel) ⟨Nat.le_of_ble_eq_true rfl, Nat.le_of_ble_eq_true rfl⟩ rfl hl.1 (lv_room (Nat.le_of_ble_eq_true rfl)) dX10_odds_35) (fun H locs X => ?_)
        refine lv_iconst (v := (0 : Int32)) hx hb dX10_odds_38 (by decide) ?_
        refine lv_istore (lv' := [(4, .int ((0 : Int32))), (0, .ref (ad 0)), (1, .int a1), (2, .int a2), (3, .int a3)]) hx hb dX10_odds_39 hl (by decide) rfl (fun ls hl => ?_)
        refine lv_iconst (v := (0 : Int32)) hx hb dX10_odds_41 (by decide) ?_
        refine lv_istore (lv' := [(5, .int ((0 : Int32))), (4, .int ((0 : Int32))), (0, .ref (ad 0)), (1, .int a1), (2, .int a2), (3, .int a3)]) hx hb dX10_odds_42 hl (by decide) rfl (fun ls hl => ?_)
        exact kl_X10_odds_44 C _ h X (lv_sub hl [2, 4, 5, 1, 0] rfl) 
      · have h := ip h c6
        refine lv_ldc (v := (-1000000002 : Int32)) hx hb C.1.2.2.2.2.2.1 (C.1.2.2.2.2.2.2 _ (ws_in wd_1154)) dX10_odds_30 ?_
        exact rt_i C X rfl (Option.some.inj h) dX10_odds_32
  · have h := ip h c2
    refine lv_ldc (v := (-1000000001 : Int32)) hx hb C.1.2.2.2.2.2.1 (C.1.2.2.2.2.2.2 _ (ws_in wd_1249)) dX10_odds_8 ?_
    exact rt_i C X rfl (Option.some.inj h) dX10_odds_10

def rmX10_strong : Room := { frames := 6, cells := 0, slots := 0, locals := 131 }
def b_X10_strong_78 (K29 : Int32 → Int32 → ST → Option (Int32 × ST)) (v2 : Int32) (v3 : Int32) (v4 : Int32) (S : ST) : Option (Int32 × ST) :=
  if v4 < 0 then (nm (v3 + (1 : Int32)) fun x9 => K29 v2 x9 S) else (some (v3, S))
def b_X10_strong_44 (K29 : Int32 → Int32 → ST → Option (Int32 × ST)) (K44 : Int32 → Int32 → Int32 → Int32 → ST → Option (Int32 × ST)) (v2 : Int32) (v3 : Int32) (v4 : Int32) (v5 : Int32) (S : ST) : Option (Int32 × ST) :=
  if v2 < v5 then (b_X10_strong_78 K29 v2 v3 v4 S) else (if v4 < 0 then (b_X10_strong_78 K29 v2 v3 v4 S) else (chk (ib v5 201) (chk (nz v3) (nm (v4 - (((S.1 14 v5.toNatClampNeg) * ((20 : Int32))) / v3)) fun x13 => nm (v5 + (1 : Int32)) fun x14 => K44 v2 v3 x13 x14 S))))
def b_X10_strong_29 (K29 : Int32 → Int32 → ST → Option (Int32 × ST)) (v2 : Int32) (v3 : Int32) (S : ST) : Option (Int32 × ST) :=
  if ((300 : Int32)) < v3 then (some ((-1 : Int32), S)) else (lp (fun _ _ _ _ _ => none) (b_X10_strong_44 K29) 1000 v2 v3 ((1000 : Int32)) ((1 : Int32)) S)
def f_X10_strong (a1 : Int32) (a2 : Int32) (S : ST) : Option (Int32 × ST) :=
  bn1 (f_X10_isSwinger a1 S) fun r1 => if r1 = 0 then (some ((-1000000001 : Int32), S)) else (bn1 (f_X10_isTime a2) fun r3 => if r3 = 0 then (some ((-1000000002 : Int32), S)) else (bn1 (f_X10_ready a1 S) fun S5 => lp (fun _ _ _ => none) (b_X10_strong_29) 1000 a2 ((10 : Int32)) S5))
set_option maxHeartbeats 4000000 in
set_option maxRecDepth 100000 in
theorem kb_X10_strong_78 {p : Program} {l : Launch} {e : Env} {s : State} {m : MethodId} {args : Array Value} {below : List Frame} {meth : Method} {c : Code} {g : GG} {ad : Nat → Nat} {res : (Int32 × ST)} {S : ST} (C : CX kM g ad p s m args meth c cX10_strong (some Jvm.ClassFile.FieldType.int) 6 yX10_strong.cls (.code yX10_strong cX10_strong 6 (some Jvm.ClassFile.FieldType.int))) {K29 : Int32 → Int32 → ST → Option (Int32 × ST)} (hK29 : ∀ {v2 : Int32} {v3 : Int32} {S : ST} {H : Heap} {locs : List Loc} {ls : Array Slot}, K29 v2 v3 S = some res → WX kM g ad s S H locs → lv_has ls 6 [(0, .ref (ad 0)), (2, .int v2), (3, .int v3)] → W p l e rmX10_strong s m args below meth c H locs 0 0 (MQ below (QI kM g ad res (AA kM ad s.heap.size)) args s 0 0 (AA kM ad s.heap.size)) (F0 m 29 ls [])) {v2 : Int32} {v3 : Int32} {v4 : Int32}  {H : Heap} {locs : List Loc} {ls : Array Slot} (h : b_X10_strong_78 K29 v2 v3 v4 S = some res) (X : WX kM g ad s S H locs) (hl : lv_has ls 6 [(0, .ref (ad 0)), (2, .int v2), (3, .int v3), (4, .int v4)])  : W p l e rmX10_strong s m args below meth c H locs 0 0 (MQ below (QI kM g ad res (AA kM ad s.heap.size)) args s 0 0 (AA kM ad s.heap.size)) (F0 m 78 ls []) := by
  have hx := C.1.1
  have hb := C.1.2.1
  have h : (if v4 < 0 then (nm (v3 + (1 : Int32)) fun x9 => K29 v2 x9 S) else (some (v3, S)) : Option (Int32 × ST)) = some res := h
  refine lv_iload hx hb dX10_strong_78 (lv_at hl 3 rfl) ?_
  refine lv_if_lt (tgt := 85) hx hb dX10_strong_80 (by decide) (fun c8 => ?_) (fun c8 => ?_)
  · have h := ip h c8
    obtain ⟨x9, ex9, h⟩ := nm_s h
    refine lv_iinc (v := x9) (lv' := [(3, .int x9), (0, .ref (ad 0)), (2, .int v2), (4, .int v4)]) hx hb dX10_strong_85 hl (k := 2) rfl (by rw [ex9]; rfl) (by decide) rfl (fun ls hl => ?_)
    refine lv_goto (tgt := 29) hx hb dX10_strong_88 (by decide) ?_
    exact hK29 h X (lv_sub hl [1, 2, 0] rfl) 
  · have h := inn h c8
    refine lv_iload_n hx hb dX10_strong_83 rfl (lv_at hl 2 rfl) ?_
    exact rt_i C X rfl (Option.some.inj h) dX10_strong_84
set_option maxHeartbeats 4000000 in
set_option maxRecDepth 100000 in
theorem kb_X10_strong_44 {p : Program} {l : Launch} {e : Env} {s : State} {m : MethodId} {args : Array Value} {below : List Frame} {meth : Method} {c : Code} {g : GG} {ad : Nat → Nat} {res : (Int32 × ST)} {S : ST} (C : CX kM g ad p s m args meth c cX10_strong (some Jvm.ClassFile.FieldType.int) 6 yX10_strong.cls (.code yX10_strong cX10_strong 6 (some Jvm.ClassFile.FieldType.int))) {K29 : Int32 → Int32 → ST → Option (Int32 × ST)} (hK29 : ∀ {v2 : Int32} {v3 : Int32} {S : ST} {H : Heap} {locs : List Loc} {ls : Array Slot}, K29 v2 v3 S = some res → WX kM g ad s S H locs → lv_has ls 6 [(0, .ref (ad 0)), (2, .int v2), (3, .int v3)] → W p l e rmX10_strong s m args below meth c H locs 0 0 (MQ below (QI kM g ad res (AA kM ad s.heap.size)) args s 0 0 (AA kM ad s.heap.size)) (F0 m 29 ls [])) {K44 : Int32 → Int32 → Int32 → Int32 → ST → Option (Int32 × ST)} (hK44 : ∀ {v2 : Int32} {v3 : Int32} {v4 : Int32} {v5 : Int32} {S : ST} {H : Heap} {locs : List Loc} {ls : Array Slot}, K44 v2 v3 v4 v5 S = some res → WX kM g ad s S H locs → lv_has ls 6 [(0, .ref (ad 0)), (2, .int v2), (3, .int v3), (4, .int v4), (5, .int v5)] → W p l e rmX10_strong s m args below meth c H locs 0 0 (MQ below (QI kM g ad res (AA kM ad s.heap.size)) args s 0 0 (AA kM ad s.heap.size)) (F0 m 44 ls [])) {v2 : Int32} {v3 : Int32} {v4 : Int32} {v5 : Int32}  {H : Heap} {locs : List Loc} {ls : Array Slot} (h : b_X10_strong_44 K29 K44 v2 v3 v4 v5 S = some res) (X : WX kM g ad s S H locs) (hl : lv_has ls 6 [(0, .ref (ad 0)), (2, .int v2), (3, .int v3), (4, .int v4), (5, .int v5)])  : W p l e rmX10_strong s m args below meth c H locs 0 0 (MQ below (QI kM g ad res (AA kM ad s.heap.size)) args s 0 0 (AA kM ad s.heap.size)) (F0 m 44 ls []) := by
  have hx := C.1.1
  have hb := C.1.2.1
  have h : (if v2 < v5 then (b_X10_strong_78 K29 v2 v3 v4 S) else (if v4 < 0 then (b_X10_strong_78 K29 v2 v3 v4 S) else (chk (ib v5 201) (chk (nz v3) (nm (v4 - (((S.1 14 v5.toNatClampNeg) * ((20 : Int32))) / v3)) fun x13 => nm (v5 + (1 : Int32)) fun x14 => K44 v2 v3 x13 x14 S)))) : Option (Int32 × ST)) = some res := h
  refine lv_iload hx hb dX10_strong_44 (lv_at hl 4 rfl) ?_
  refine lv_iload_n hx hb dX10_strong_46 rfl (lv_at hl 1 rfl) ?_
  refine lv_icmp_gt (tgt := 78) hx hb dX10_strong_47 (by decide) (fun c7 => ?_) (fun c7 => ?_)
  · have h := ip h c7
    exact kb_X10_strong_78 C hK29 h X (lv_sub hl [0, 1, 2, 3] rfl) 
  · have h := inn h c7
    refine lv_iload hx hb dX10_strong_50 (lv_at hl 3 rfl) ?_
    refine lv_if_lt (tgt := 78) hx hb dX10_strong_52 (by decide) (fun c10 => ?_) (fun c10 => ?_)
    · have h := ip h c10
      exact kb_X10_strong_78 C hK29 h X (lv_sub hl [0, 1, 2, 3] rfl) 
    · have h := inn h c10
      refine lv_iload hx hb dX10_strong_55 (lv_at hl 3 rfl) ?_
      refine lv_aload_n hx hb dX10_strong_57 rfl (lv_at hl 0 rfl) ?_
      refine g_get C X inT10 0 (by decide) (eM_0 g ad S) rfl 31 (by decide) wd_1037 (v := .ref (ad 14)) rfl dX10_strong_58 ?_
      refine lv_iload hx hb dX10_strong_61 (lv_at hl 4 rfl) ?_
      obtain ⟨k11, h⟩ := chk_s h
      refine g_iald C X 14 (by decide) (eM_14 g ad S) k11 dX10_strong_63 ?_
      refine lv_bipush (v := (20 : Int32)) hx hb dX10_strong_64 (by decide) ?_
      refine lv_imul hx hb dX10_strong_66 ?_
      refine lv_iload_n hx hb dX10_strong_67 rfl (lv_at hl 2 rfl) ?_
      obtain ⟨k12, h⟩ := chk_s h
      refine lv_idiv hx hb dX10_strong_68 (nz_ne k12) ?_
      refine lv_isub hx hb dX10_strong_69 ?_
      obtain ⟨x13, ex13, h⟩ := nm_s h
      refine tp_i ex13 ?_
      refine lv_istore (lv' := [(4, .int x13), (0, .ref (ad 0)), (2, .int v2), (3, .int v3), (5, .int v5)]) hx hb dX10_strong_70 hl (by decide) rfl (fun ls hl => ?_)
      obtain ⟨x14, ex14, h⟩ := nm_s h
      refine lv_iinc (v := x14) (lv' := [(5, .int x14), (4, .int x13), (0, .ref (ad 0)), (2, .int v2), (3, .int v3)]) hx hb dX10_strong_72 hl (k := 4) rfl (by rw [ex14]; rfl) (by decide) rfl (fun ls hl => ?_)
      refine lv_goto (tgt := 44) hx hb dX10_strong_75 (by decide) ?_
      exact hK44 h X (lv_sub hl [2, 3, 4, 1, 0] rfl) 
set_option maxHeartbeats 4000000 in
set_option maxRecDepth 100000 in
theorem kl_X10_strong_44 {p : Program} {l : Launch} {e : Env} {s : State} {m : MethodId} {args : Array Value} {below : List Frame} {meth : Method} {c : Code} {g : GG} {ad : Nat → Nat} {res : (Int32 × ST)}  (C : CX kM g ad p s m args meth c cX10_strong (some Jvm.ClassFile.FieldType.int) 6 yX10_strong.cls (.code yX10_strong cX10_strong 6 (some Jvm.ClassFile.FieldType.int))) {K29 : Int32 → Int32 → ST → Option (Int32 × ST)} (hK29 : ∀ {v2 : Int32} {v3 : Int32} {S : ST} {H : Heap} {locs : List Loc} {ls : Array Slot}, K29 v2 v3 S = some res → WX kM g ad s S H locs → lv_has ls 6 [(0, .ref (ad 0)), (2, .int v2), (3, .int v3)] → W p l e rmX10_strong s m args below meth c H locs 0 0 (MQ below (QI kM g ad res (AA kM ad s.heap.size)) args s 0 0 (AA kM ad s.heap.size)) (F0 m 29 ls [])) : ∀ (n : Nat) {v2 : Int32} {v3 : Int32} {v4 : Int32} {v5 : Int32} {S : ST} {H : Heap} {locs : List Loc} {ls : Array Slot}, (lp (fun _ _ _ _ _ => none) (b_X10_strong_44 K29)) n v2 v3 v4 v5 S = some res → WX kM g ad s S H locs → lv_has ls 6 [(0, .ref (ad 0)), (2, .int v2), (3, .int v3), (4, .int v4), (5, .int v5)] → W p l e rmX10_strong s m args below meth c H locs 0 0 (MQ below (QI kM g ad res (AA kM ad s.heap.size)) args s 0 0 (AA kM ad s.heap.size)) (F0 m 44 ls []) := by
  intro n
  induction n with
  | zero =>
    intro v2 v3 v4 v5 S H locs ls h
    cases (show (none : Option (Int32 × ST)) = some res from h)
  | succ n ih =>
    intro v2 v3 v4 v5 S H locs ls h X hl 
    exact kb_X10_strong_44 C hK29 ih h X hl 
set_option maxHeartbeats 4000000 in
set_option maxRecDepth 100000 in
theorem kb_X10_strong_29 {p : Program} {l : Launch} {e : Env} {s : State} {m : MethodId} {args : Array Value} {below : List Frame} {meth : Method} {c : Code} {g : GG} {ad : Nat → Nat} {res : (Int32 × ST)} {S : ST} (C : CX kM g ad p s m args meth c cX10_strong (some Jvm.ClassFile.FieldType.int) 6 yX10_strong.cls (.code yX10_strong cX10_strong 6 (some Jvm.ClassFile.FieldType.int))) {K29 : Int32 → Int32 → ST → Option (Int32 × ST)} (hK29 : ∀ {v2 : Int32} {v3 : Int32} {S : ST} {H : Heap} {locs : List Loc} {ls : Array Slot}, K29 v2 v3 S = some res → WX kM g ad s S H locs → lv_has ls 6 [(0, .ref (ad 0)), (2, .int v2), (3, .int v3)] → W p l e rmX10_strong s m args below meth c H locs 0 0 (MQ below (QI kM g ad res (AA kM ad s.heap.size)) args s 0 0 (AA kM ad s.heap.size)) (F0 m 29 ls [])) {v2 : Int32} {v3 : Int32}  {H : Heap} {locs : List Loc} {ls : Array Slot} (h : b_X10_strong_29 K29 v2 v3 S = some res) (X : WX kM g ad s S H locs) (hl : lv_has ls 6 [(0, .ref (ad 0)), (2, .int v2), (3, .int v3)])  : W p l e rmX10_strong s m args below meth c H locs 0 0 (MQ below (QI kM g ad res (AA kM ad s.heap.size)) args s 0 0 (AA kM ad s.heap.size)) (F0 m 29 ls []) := by
  have hx := C.1.1
  have hb := C.1.2.1
  have h : (if ((300 : Int32)) < v3 then (some ((-1 : Int32), S)) else (lp (fun _ _ _ _ _ => none) (b_X10_strong_44 K29) 1000 v2 v3 ((1000 : Int32)) ((1 : Int32)) S) : Option (Int32 × ST)) = some res := h
  refine lv_iload_n hx hb dX10_strong_29 rfl (lv_at hl 2 rfl) ?_
  refine lv_sipush (v := (300 : Int32)) hx hb dX10_strong_30 (by decide) ?_
  refine lv_icmp_gt (tgt := 91) hx hb dX10_strong_33 (by decide) (fun c6 => ?_) (fun c6 => ?_)
  · have h := ip h c6
    refine lv_iconst (v := (-1 : Int32)) hx hb dX10_strong_91 (by decide) ?_
    exact rt_i C X rfl (Option.some.inj h) dX10_strong_92
  · have h := inn h c6
    refine lv_sipush (v := (1000 : Int32)) hx hb dX10_strong_36 (by decide) ?_
    refine lv_istore (lv' := [(4, .int ((1000 : Int32))), (0, .ref (ad 0)), (2, .int v2), (3, .int v3)]) hx hb dX10_strong_39 hl (by decide) rfl (fun ls hl => ?_)
    refine lv_iconst (v := (1 : Int32)) hx hb dX10_strong_41 (by decide) ?_
    refine lv_istore (lv' := [(5, .int ((1 : Int32))), (4, .int ((1000 : Int32))), (0, .ref (ad 0)), (2, .int v2), (3, .int v3)]) hx hb dX10_strong_42 hl (by decide) rfl (fun ls hl => ?_)
    exact kl_X10_strong_44 C hK29 _ h X (lv_sub hl [2, 3, 4, 1, 0] rfl) 
set_option maxHeartbeats 4000000 in
set_option maxRecDepth 100000 in
theorem kl_X10_strong_29 {p : Program} {l : Launch} {e : Env} {s : State} {m : MethodId} {args : Array Value} {below : List Frame} {meth : Method} {c : Code} {g : GG} {ad : Nat → Nat} {res : (Int32 × ST)}  (C : CX kM g ad p s m args meth c cX10_strong (some Jvm.ClassFile.FieldType.int) 6 yX10_strong.cls (.code yX10_strong cX10_strong 6 (some Jvm.ClassFile.FieldType.int)))  : ∀ (n : Nat) {v2 : Int32} {v3 : Int32} {S : ST} {H : Heap} {locs : List Loc} {ls : Array Slot}, (lp (fun _ _ _ => none) (b_X10_strong_29)) n v2 v3 S = some res → WX kM g ad s S H locs → lv_has ls 6 [(0, .ref (ad 0)), (2, .int v2), (3, .int v3)] → W p l e rmX10_strong s m args below meth c H locs 0 0 (MQ below (QI kM g ad res (AA kM ad s.heap.size)) args s 0 0 (AA kM ad s.heap.size)) (F0 m 29 ls []) := by
  intro n
  induction n with
  | zero =>
    intro v2 v3 S H locs ls h
    cases (show (none : Option (Int32 × ST)) = some res from h)
  | succ n ih =>
    intro v2 v3 S H locs ls h X hl 
    exact kb_X10_strong_29 C ih h X hl 
set_option maxHeartbeats 4000000 in
set_option maxRecDepth 100000 in
theorem c_X10_strong (l : Launch) (g : GG) (ad : Nat → Nat) (S : ST) (sz : Nat) (a1 : Int32) (a2 : Int32)  {res : (Int32 × ST)} (h : f_X10_strong a1 a2 S = some res) : Met l yX10_strong (WS (.code yX10_strong cX10_strong 6 (some Jvm.ClassFile.FieldType.int))) rmX10_strong (va_Pc [.ref (ad 0), .int a1, .int a2] (PW kM g ad S sz)) (QI kM g ad res (AA kM ad sz)) 0 0 (AA kM ad sz) := by
  refine go_m (Qc := fun A => QI kM g ad res A) (by decide) (Nat.le_of_ble_eq_true rfl) (fun p e s m below meth c ls H locs C X hl => ?_)
  have hx := C.1.1
  have hb := C.1.2.1
  have hl : lv_has ls 6 [(0, .ref (ad 0)), (1, .int a1), (2, .int a2)] := hl
  have h : (bn1 (f_X10_isSwinger a1 S) fun r1 => if r1 = 0 then (some ((-1000000001 : Int32), S)) else (bn1 (f_X10_isTime a2) fun r3 => if r3 = 0 then (some ((-1000000002 : Int32), S)) else (bn1 (f_X10_ready a1 S) fun S5 => lp (fun _ _ _ => none) (b_X10_strong_29) 1000 a2 ((10 : Int32)) S5)) : Option (Int32 × ST)) = some res := h
  refine lv_aload_n hx hb dX10_strong_0 rfl (lv_at hl 0 rfl) ?_
  refine lv_iload_n hx hb dX10_strong_1 rfl (lv_at hl 1 rfl) ?_
  obtain ⟨r1, qr1, h⟩ := bn1_s h
  refine kc_i X (res := (r1, S)) (rV (As := [.int a1]) (rest := []) (n := 1) (k := 0) C X (c_X10_isSwinger l g ad S _ a1  qr1) wd_1266 wd_1268 wd_47 wd_83 wd_1269 (by decide) (eM_0 g ad S) rfl rfl rfl (by decide +kernel) ⟨Nat.le_of_ble_eq_true rfl, Nat.le_of_ble_eq_true rfl⟩ rfl hl.1 (lv_room (Nat.le_of_ble_eq_true rfl)) dX10_strong_2) (fun H locs X => ?_)
  refine lv_if_ne (tgt := 11) hx hb dX10_strong_5 (by decide) (fun c2 => ?_) (fun c2 => ?_)
  · have h := inn h c2
    refine lv_iload_n hx hb dX10_strong_11 rfl (lv_at hl 2 rfl) ?_
    obtain ⟨r3, qr3, h⟩ := bn1_s h
    refine kc_i X (res := (r3, S)) (rS (As := [.int a2]) (rest := []) (n := 1) C X (c_X10_isTime l g ad S _ a2  qr3) wd_1339 wd_1340 wd_83 wd_1341 rfl rfl (by decide +kernel) ⟨Nat.le_of_ble_eq_true rfl, Nat.le_of_ble_eq_true rfl⟩ rfl hl.1 (lv_room (Nat.le_of_ble_eq_true rfl)) dX10_strong_12) (fun H locs X => ?_)
    refine lv_if_ne (tgt := 21) hx hb dX10_strong_15 (by decide) (fun c4 => ?_) (fun c4 => ?_)
    · have h := inn h c4
      refine lv_aload_n hx hb dX10_strong_21 rfl (lv_at hl 0 rfl) ?_
      refine lv_iload_n hx hb dX10_strong_22 rfl (lv_at hl 1 rfl) ?_
      obtain ⟨S5, qS5, h⟩ := bn1_s h
      refine kc_v X (res := S5) (rV (As := [.int a1]) (rest := []) (n := 1) (k := 0) C X (c_X10_ready l g ad S _ a1  qS5) wd_1342 wd_1344 wd_55 wd_83 wd_1345 (by decide) (eM_0 g ad S) rfl rfl rfl (by decide +kernel) ⟨Nat.le_of_ble_eq_true rfl, Nat.le_of_ble_eq_true rfl⟩ rfl hl.1 (lv_room (Nat.le_of_ble_eq_true rfl)) dX10_strong_23) (fun H locs X => ?_)
      refine lv_bipush (v := (10 : Int32)) hx hb dX10_strong_26 (by decide) ?_
      refine lv_istore_n (lv' := [(3, .int ((10 : Int32))), (0, .ref (ad 0)), (1, .int a1), (2, .int a2)]) hx hb dX10_strong_28 rfl hl (by decide) rfl (fun ls hl => ?_)
      exact kl_X10_strong_29 C _ h X (lv_sub hl [1, 3, 0] rfl) 
    · have h := ip h c4
      refine lv_ldc (v := (-1000000002 : Int32)) hx hb C.1.2.2.2.2.2.1 (C.1.2.2.2.2.2.2 _ (ws_in wd_1154)) dX10_strong_18 ?_
      exact rt_i C X rfl (Option.some.inj h) dX10_strong_20
  · have h := ip h c2
    refine lv_ldc (v := (-1000000001 : Int32)) hx hb C.1.2.2.2.2.2.1 (C.1.2.2.2.2.2.2 _ (ws_in wd_1249)) dX10_strong_8 ?_
    exact rt_i C X rfl (Option.some.inj h) dX10_strong_10

def rmX10_heavy : Room := { frames := 5, cells := 0, slots := 0, locals := 110 }
def b_X10_heavy_82 (K25 : Int32 → ST → Option (Int32 × ST)) (v2 : Int32) (v3 : Int32) (S : ST) : Option (Int32 × ST) :=
  if v3 = 0 then (nm (v2 + (-1 : Int32)) fun x8 => K25 x8 S) else (some (v2, S))
def b_X10_heavy_35 (K25 : Int32 → ST → Option (Int32 × ST)) (K35 : Int32 → Int32 → Int32 → ST → Option (Int32 × ST)) (v2 : Int32) (v3 : Int32) (v4 : Int32) (S : ST) : Option (Int32 × ST) :=
  if ((200 : Int32)) < v4 then (b_X10_heavy_82 K25 v2 v3 S) else (if v3 = 0 then (b_X10_heavy_82 K25 v2 v3 S) else (chk (ib v4 201) (chk (ib v4 201) (bn1 (f_X10_pullOf v2 (S.1 12 v4.toNatClampNeg) (S.1 13 v4.toNatClampNeg) S) fun r12 => if (S.1 0 23) < r12 then (nm (v4 + (1 : Int32)) fun x14 => K35 v2 ((0 : Int32)) x14 S) else (nm (v4 + (1 : Int32)) fun x15 => K35 v2 ((1 : Int32)) x15 S)))))
def b_X10_heavy_25 (K25 : Int32 → ST → Option (Int32 × ST)) (v2 : Int32) (S : ST) : Option (Int32 × ST) :=
  if v2 < ((10 : Int32)) then (some ((-1 : Int32), S)) else (lp (fun _ _ _ _ => none) (b_X10_heavy_35 K25) 1000 v2 ((1 : Int32)) ((1 : Int32)) S)
def f_X10_heavy  (S : ST) : Option (Int32 × ST) :=
  bn1 (f_X10_useHand S) fun S1 => nm (su S1 0 24 ((10 : Int32))) fun S2 => nm (su S2 0 26 ((300 : Int32))) fun S3 => bn1 (f_X10_swing S3) fun S4 => lp (fun _ _ => none) (b_X10_heavy_25) 1000 ((150 : Int32)) S4
set_option maxHeartbeats 4000000 in
set_option maxRecDepth 100000 in
theorem kb_X10_heavy_82 {p : Program} {l : Launch} {e : Env} {s : State} {m : MethodId} {args : Array Value} {below : List Frame} {meth : Method} {c : Code} {g : GG} {ad : Nat → Nat} {res : (Int32 × ST)} {S : ST} (C : CX kM g ad p s m args meth c cX10_heavy (some Jvm.ClassFile.FieldType.int) 4 yX10_heavy.cls (.code yX10_heavy cX10_heavy 4 (some Jvm.ClassFile.FieldType.int))) {K25 : Int32 → ST → Option (Int32 × ST)} (hK25 : ∀ {v2 : Int32} {S : ST} {H : Heap} {locs : List Loc} {ls : Array Slot}, K25 v2 S = some res → WX kM g ad s S H locs → lv_has ls 4 [(0, .ref (ad 0)), (1, .int v2)] → W p l e rmX10_heavy s m args below meth c H locs 0 0 (MQ below (QI kM g ad res (AA kM ad s.heap.size)) args s 0 0 (AA kM ad s.heap.size)) (F0 m 25 ls [])) {v2 : Int32} {v3 : Int32}  {H : Heap} {locs : List Loc} {ls : Array Slot} (h : b_X10_heavy_82 K25 v2 v3 S = some res) (X : WX kM g ad s S H locs) (hl : lv_has ls 4 [(0, .ref (ad 0)), (1, .int v2), (2, .int v3)])  : W p l e rmX10_heavy s m args below meth c H locs 0 0 (MQ below (QI kM g ad res (AA kM ad s.heap.size)) args s 0 0 (AA kM ad s.heap.size)) (F0 m 82 ls []) := by
  have hx := C.1.1
  have hb := C.1.2.1
  have h : (if v3 = 0 then (nm (v2 + (-1 : Int32)) fun x8 => K25 x8 S) else (some (v2, S)) : Option (Int32 × ST)) = some res := h
  refine lv_iload_n hx hb dX10_heavy_82 rfl (lv_at hl 2 rfl) ?_
  refine lv_if_eq (tgt := 88) hx hb dX10_heavy_83 (by decide) (fun c7 => ?_) (fun c7 => ?_)
  · have h := ip h c7
    obtain ⟨x8, ex8, h⟩ := nm_s h
    refine lv_iinc (v := x8) (lv' := [(1, .int x8), (0, .ref (ad 0)), (2, .int v3)]) hx hb dX10_heavy_88 hl (k := 1) rfl (by rw [ex8]; rfl) (by decide) rfl (fun ls hl => ?_)
    refine lv_goto (tgt := 25) hx hb dX10_heavy_91 (by decide) ?_
    exact hK25 h X (lv_sub hl [1, 0] rfl) 
  · have h := inn h c7
    refine lv_iload_n hx hb dX10_heavy_86 rfl (lv_at hl 1 rfl) ?_
    exact rt_i C X rfl (Option.some.inj h) dX10_heavy_87
set_option maxHeartbeats 4000000 in
set_option maxRecDepth 100000 in
theorem kb_X10_heavy_35 {p : Program} {l : Launch} {e : Env} {s : State} {m : MethodId} {args : Array Value} {below : List Frame} {meth : Method} {c : Code} {g : GG} {ad : Nat → Nat} {res : (Int32 × ST)} {S : ST} (C : CX kM g ad p s m args meth c cX10_heavy (some Jvm.ClassFile.FieldType.int) 4 yX10_heavy.cls (.code yX10_heavy cX10_heavy 4 (some Jvm.ClassFile.FieldType.int))) {K25 : Int32 → ST → Option (Int32 × ST)} (hK25 : ∀ {v2 : Int32} {S : ST} {H : Heap} {locs : List Loc} {ls : Array Slot}, K25 v2 S = some res → WX kM g ad s S H locs → lv_has ls 4 [(0, .ref (ad 0)), (1, .int v2)] → W p l e rmX10_heavy s m args below meth c H locs 0 0 (MQ below (QI kM g ad res (AA kM ad s.heap.size)) args s 0 0 (AA kM ad s.heap.size)) (F0 m 25 ls [])) {K35 : Int32 → Int32 → Int32 → ST → Option (Int32 × ST)} (hK35 : ∀ {v2 : Int32} {v3 : Int32} {v4 : Int32} {S : ST} {H : Heap} {locs : List Loc} {ls : Array Slot}, K35 v2 v3 v4 S = some res → WX kM g ad s S H locs → lv_has ls 4 [(0, .ref (ad 0)), (1, .int v2), (2, .int v3), (3, .int v4)] → W p l e rmX10_heavy s m args below meth c H locs 0 0 (MQ below (QI kM g ad res (AA kM ad s.heap.size)) args s 0 0 (AA kM ad s.heap.size)) (F0 m 35 ls [])) {v2 : Int32} {v3 : Int32} {v4 : Int32}  {H : Heap} {locs : List Loc} {ls : Array Slot} (h : b_X10_heavy_35 K25 K35 v2 v3 v4 S = some res) (X : WX kM g ad s S H locs) (hl : lv_has ls 4 [(0, .ref (ad 0)), (1, .int v2), (2, .int v3), (3, .int v4)])  : W p l e rmX10_heavy s m args below meth c H locs 0 0 (MQ below (QI kM g ad res (AA kM ad s.heap.size)) args s 0 0 (AA kM ad s.heap.size)) (F0 m 35 ls []) := by
  have hx := C.1.1
  have hb := C.1.2.1
  have h : (if ((200 : Int32)) < v4 then (b_X10_heavy_82 K25 v2 v3 S) else (if v3 = 0 then (b_X10_heavy_82 K25 v2 v3 S) else (chk (ib v4 201) (chk (ib v4 201) (bn1 (f_X10_pullOf v2 (S.1 12 v4.toNatClampNeg) (S.1 13 v4.toNatClampNeg) S) fun r12 => if (S.1 0 23) < r12 then (nm (v4 + (1 : Int32)) fun x14 => K35 v2 ((0 : Int32)) x14 S) else (nm (v4 + (1 : Int32)) fun x15 => K35 v2 ((1 : Int32)) x15 S))))) : Option (Int32 × ST)) = some res := h
  refine lv_iload_n hx hb dX10_heavy_35 rfl (lv_at hl 3 rfl) ?_
  refine lv_sipush (v := (200 : Int32)) hx hb dX10_heavy_36 (by decide) ?_
  refine lv_icmp_gt (tgt := 82) hx hb dX10_heavy_39 (by decide) (fun c6 => ?_) (fun c6 => ?_)
  · have h := ip h c6
    exact kb_X10_heavy_82 C hK25 h X (lv_sub hl [0, 1, 2] rfl) 
  · have h := inn h c6
    refine lv_iload_n hx hb dX10_heavy_42 rfl (lv_at hl 2 rfl) ?_
    refine lv_if_eq (tgt := 82) hx hb dX10_heavy_43 (by decide) (fun c9 => ?_) (fun c9 => ?_)
    · have h := ip h c9
      exact kb_X10_heavy_82 C hK25 h X (lv_sub hl [0, 1, 2] rfl) 
    · have h := inn h c9
      refine lv_aload_n hx hb dX10_heavy_46 rfl (lv_at hl 0 rfl) ?_
      refine lv_iload_n hx hb dX10_heavy_47 rfl (lv_at hl 1 rfl) ?_
      refine lv_aload_n hx hb dX10_heavy_48 rfl (lv_at hl 0 rfl) ?_
      refine g_get C X inT10 0 (by decide) (eM_0 g ad S) rfl 29 (by decide) wd_1035 (v := .ref (ad 12)) rfl dX10_heavy_49 ?_
      refine lv_iload_n hx hb dX10_heavy_52 rfl (lv_at hl 3 rfl) ?_
      obtain ⟨k10, h⟩ := chk_s h
      refine g_iald C X 12 (by decide) (eM_12 g ad S) k10 dX10_heavy_53 ?_
      refine lv_aload_n hx hb dX10_heavy_54 rfl (lv_at hl 0 rfl) ?_
      refine g_get C X inT10 0 (by decide) (eM_0 g ad S) rfl 30 (by decide) wd_1036 (v := .ref (ad 13)) rfl dX10_heavy_55 ?_
      refine lv_iload_n hx hb dX10_heavy_58 rfl (lv_at hl 3 rfl) ?_
      obtain ⟨k11, h⟩ := chk_s h
      refine g_iald C X 13 (by decide) (eM_13 g ad S) k11 dX10_heavy_59 ?_
      obtain ⟨r12, qr12, h⟩ := bn1_s h
      refine kc_i X (res := (r12, S)) (rV (As := [.int v2, .int (S.1 12 v4.toNatClampNeg), .int (S.1 13 v4.toNatClampNeg)]) (rest := []) (n := 3) (k := 0) C X (c_X10_pullOf l g ad S _ v2 (S.1 12 v4.toNatClampNeg) (S.1 13 v4.toNatClampNeg)  qr12) wd_1318 wd_1320 wd_52 wd_83 wd_1321 (by decide) (eM_0 g ad S) rfl rfl rfl (by decide +kernel) ⟨Nat.le_of_ble_eq_true rfl, Nat.le_of_ble_eq_true rfl⟩ rfl hl.1 (lv_room (Nat.le_of_ble_eq_true rfl)) dX10_heavy_60) (fun H locs X => ?_)
      refine lv_aload_n hx hb dX10_heavy_63 rfl (lv_at hl 0 rfl) ?_
      refine g_get C X inT10 0 (by decide) (eM_0 g ad S) rfl 23 (by decide) wd_1029 (v := .int (S.1 0 23)) rfl dX10_heavy_64 ?_
      refine lv_icmp_gt (tgt := 74) hx hb dX10_heavy_67 (by decide) (fun c13 => ?_) (fun c13 => ?_)
      · have h := ip h c13
        refine lv_iconst (v := (0 : Int32)) hx hb dX10_heavy_74 (by decide) ?_
        refine lv_istore_n (lv' := [(2, .int ((0 : Int32))), (0, .ref (ad 0)), (1, .int v2), (3, .int v4)]) hx hb dX10_heavy_75 rfl hl (by decide) rfl (fun ls hl => ?_)
        obtain ⟨x14, ex14, h⟩ := nm_s h
        refine lv_iinc (v := x14) (lv' := [(3, .int x14), (2, .int ((0 : Int32))), (0, .ref (ad 0)), (1, .int v2)]) hx hb dX10_heavy_76 hl (k := 3) rfl (by rw [ex14]; rfl) (by decide) rfl (fun ls hl => ?_)
        refine lv_goto (tgt := 35) hx hb dX10_heavy_79 (by decide) ?_
        exact hK35 h X (lv_sub hl [2, 3, 1, 0] rfl) 
      · have h := inn h c13
        refine lv_iconst (v := (1 : Int32)) hx hb dX10_heavy_70 (by decide) ?_
        refine lv_goto (tgt := 75) hx hb dX10_heavy_71 (by decide) ?_
        refine lv_istore_n (lv' := [(2, .int ((1 : Int32))), (0, .ref (ad 0)), (1, .int v2), (3, .int v4)]) hx hb dX10_heavy_75 rfl hl (by decide) rfl (fun ls hl => ?_)
        obtain ⟨x15, ex15, h⟩ := nm_s h
        refine lv_iinc (v := x15) (lv' := [(3, .int x15), (2, .int ((1 : Int32))), (0, .ref (ad 0)), (1, .int v2)]) hx hb dX10_heavy_76 hl (k := 3) rfl (by rw [ex15]; rfl) (by decide) rfl (fun ls hl => ?_)
        refine lv_goto (tgt := 35) hx hb dX10_heavy_79 (by decide) ?_
        exact hK35 h X (lv_sub hl [2, 3, 1, 0] rfl) 
set_option maxHeartbeats 4000000 in
set_option maxRecDepth 100000 in
theorem kl_X10_heavy_35 {p : Program} {l : Launch} {e : Env} {s : State} {m : MethodId} {args : Array Value} {below : List Frame} {meth : Method} {c : Code} {g : GG} {ad : Nat → Nat} {res : (Int32 × ST)}  (C : CX kM g ad p s m args meth c cX10_heavy (some Jvm.ClassFile.FieldType.int) 4 yX10_heavy.cls (.code yX10_heavy cX10_heavy 4 (some Jvm.ClassFile.FieldType.int))) {K25 : Int32 → ST → Option (Int32 × ST)} (hK25 : ∀ {v2 : Int32} {S : ST} {H : Heap} {locs : List Loc} {ls : Array Slot}, K25 v2 S = some res → WX kM g ad s S H locs → lv_has ls 4 [(0, .ref (ad 0)), (1, .int v2)] → W p l e rmX10_heavy s m args below meth c H locs 0 0 (MQ below (QI kM g ad res (AA kM ad s.heap.size)) args s 0 0 (AA kM ad s.heap.size)) (F0 m 25 ls [])) : ∀ (n : Nat) {v2 : Int32} {v3 : Int32} {v4 : Int32} {S : ST} {H : Heap} {locs : List Loc} {ls : Array Slot}, (lp (fun _ _ _ _ => none) (b_X10_heavy_35 K25)) n v2 v3 v4 S = some res → WX kM g ad s S H locs → lv_has ls 4 [(0, .ref (ad 0)), (1, .int v2), (2, .int v3), (3, .int v4)] → W p l e rmX10_heavy s m args below meth c H locs 0 0 (MQ below (QI kM g ad res (AA kM ad s.heap.size)) args s 0 0 (AA kM ad s.heap.size)) (F0 m 35 ls []) := by
  intro n
  induction n with
  | zero =>
    intro v2 v3 v4 S H locs ls h
    cases (show (none : Option (Int32 × ST)) = some res from h)
  | succ n ih =>
    intro v2 v3 v4 S H locs ls h X hl 
    exact kb_X10_heavy_35 C hK25 ih h X hl 
set_option maxHeartbeats 4000000 in
set_option maxRecDepth 100000 in
theorem kb_X10_heavy_25 {p : Program} {l : Launch} {e : Env} {s : State} {m : MethodId} {args : Array Value} {below : List Frame} {meth : Method} {c : Code} {g : GG} {ad : Nat → Nat} {res : (Int32 × ST)} {S : ST} (C : CX kM g ad p s m args meth c cX10_heavy (some Jvm.ClassFile.FieldType.int) 4 yX10_heavy.cls (.code yX10_heavy cX10_heavy 4 (some Jvm.ClassFile.FieldType.int))) {K25 : Int32 → ST → Option (Int32 × ST)} (hK25 : ∀ {v2 : Int32} {S : ST} {H : Heap} {locs : List Loc} {ls : Array Slot}, K25 v2 S = some res → WX kM g ad s S H locs → lv_has ls 4 [(0, .ref (ad 0)), (1, .int v2)] → W p l e rmX10_heavy s m args below meth c H locs 0 0 (MQ below (QI kM g ad res (AA kM ad s.heap.size)) args s 0 0 (AA kM ad s.heap.size)) (F0 m 25 ls [])) {v2 : Int32}  {H : Heap} {locs : List Loc} {ls : Array Slot} (h : b_X10_heavy_25 K25 v2 S = some res) (X : WX kM g ad s S H locs) (hl : lv_has ls 4 [(0, .ref (ad 0)), (1, .int v2)])  : W p l e rmX10_heavy s m args below meth c H locs 0 0 (MQ below (QI kM g ad res (AA kM ad s.heap.size)) args s 0 0 (AA kM ad s.heap.size)) (F0 m 25 ls []) := by
  have hx := C.1.1
  have hb := C.1.2.1
  have h : (if v2 < ((10 : Int32)) then (some ((-1 : Int32), S)) else (lp (fun _ _ _ _ => none) (b_X10_heavy_35 K25) 1000 v2 ((1 : Int32)) ((1 : Int32)) S) : Option (Int32 × ST)) = some res := h
  refine lv_iload_n hx hb dX10_heavy_25 rfl (lv_at hl 1 rfl) ?_
  refine lv_bipush (v := (10 : Int32)) hx hb dX10_heavy_26 (by decide) ?_
  refine lv_icmp_lt (tgt := 94) hx hb dX10_heavy_28 (by decide) (fun c5 => ?_) (fun c5 => ?_)
  · have h := ip h c5
    refine lv_iconst (v := (-1 : Int32)) hx hb dX10_heavy_94 (by decide) ?_
    exact rt_i C X rfl (Option.some.inj h) dX10_heavy_95
  · have h := inn h c5
    refine lv_iconst (v := (1 : Int32)) hx hb dX10_heavy_31 (by decide) ?_
    refine lv_istore_n (lv' := [(2, .int ((1 : Int32))), (0, .ref (ad 0)), (1, .int v2)]) hx hb dX10_heavy_32 rfl hl (by decide) rfl (fun ls hl => ?_)
    refine lv_iconst (v := (1 : Int32)) hx hb dX10_heavy_33 (by decide) ?_
    refine lv_istore_n (lv' := [(3, .int ((1 : Int32))), (2, .int ((1 : Int32))), (0, .ref (ad 0)), (1, .int v2)]) hx hb dX10_heavy_34 rfl hl (by decide) rfl (fun ls hl => ?_)
    exact kl_X10_heavy_35 C hK25 _ h X (lv_sub hl [2, 3, 1, 0] rfl) 
set_option maxHeartbeats 4000000 in
set_option maxRecDepth 100000 in
theorem kl_X10_heavy_25 {p : Program} {l : Launch} {e : Env} {s : State} {m : MethodId} {args : Array Value} {below : List Frame} {meth : Method} {c : Code} {g : GG} {ad : Nat → Nat} {res : (Int32 × ST)}  (C : CX kM g ad p s m args meth c cX10_heavy (some Jvm.ClassFile.FieldType.int) 4 yX10_heavy.cls (.code yX10_heavy cX10_heavy 4 (some Jvm.ClassFile.FieldType.int)))  : ∀ (n : Nat) {v2 : Int32} {S : ST} {H : Heap} {locs : List Loc} {ls : Array Slot}, (lp (fun _ _ => none) (b_X10_heavy_25)) n v2 S = some res → WX kM g ad s S H locs → lv_has ls 4 [(0, .ref (ad 0)), (1, .int v2)] → W p l e rmX10_heavy s m args below meth c H locs 0 0 (MQ below (QI kM g ad res (AA kM ad s.heap.size)) args s 0 0 (AA kM ad s.heap.size)) (F0 m 25 ls []) := by
  intro n
  induction n with
  | zero =>
    intro v2 S H locs ls h
    cases (show (none : Option (Int32 × ST)) = some res from h)
  | succ n ih =>
    intro v2 S H locs ls h X hl 
    exact kb_X10_heavy_25 C ih h X hl 
set_option maxHeartbeats 4000000 in
set_option maxRecDepth 100000 in
theorem c_X10_heavy (l : Launch) (g : GG) (ad : Nat → Nat) (S : ST) (sz : Nat)   {res : (Int32 × ST)} (h : f_X10_heavy S = some res) : Met l yX10_heavy (WS (.code yX10_heavy cX10_heavy 4 (some Jvm.ClassFile.FieldType.int))) rmX10_heavy (va_Pc [.ref (ad 0)] (PW kM g ad S sz)) (QI kM g ad res (AA kM ad sz)) 0 0 (AA kM ad sz) := by
  refine go_m (Qc := fun A => QI kM g ad res A) (by decide) (Nat.le_of_ble_eq_true rfl) (fun p e s m below meth c ls H locs C X hl => ?_)
  have hx := C.1.1
  have hb := C.1.2.1
  have hl : lv_has ls 4 [(0, .ref (ad 0))] := hl
  have h : (bn1 (f_X10_useHand S) fun S1 => nm (su S1 0 24 ((10 : Int32))) fun S2 => nm (su S2 0 26 ((300 : Int32))) fun S3 => bn1 (f_X10_swing S3) fun S4 => lp (fun _ _ => none) (b_X10_heavy_25) 1000 ((150 : Int32)) S4 : Option (Int32 × ST)) = some res := h
  refine lv_aload_n hx hb dX10_heavy_0 rfl (lv_at hl 0 rfl) ?_
  obtain ⟨S1, qS1, h⟩ := bn1_s h
  refine kc_v X (res := S1) (rV (As := []) (rest := []) (n := 0) (k := 0) C X (c_X10_useHand l g ad S _   qS1) wd_1306 wd_1308 wd_49 wd_83 wd_1309 (by decide) (eM_0 g ad S) rfl rfl rfl (by decide +kernel) ⟨Nat.le_of_ble_eq_true rfl, Nat.le_of_ble_eq_true rfl⟩ rfl hl.1 (lv_room (Nat.le_of_ble_eq_true rfl)) dX10_heavy_1) (fun H locs X => ?_)
  refine lv_aload_n hx hb dX10_heavy_4 rfl (lv_at hl 0 rfl) ?_
  refine lv_bipush (v := (10 : Int32)) hx hb dX10_heavy_5 (by decide) ?_
  obtain ⟨S2, eS2, h⟩ := nm_s h
  refine g_put (S' := S2) C X inT10 tyX10 tyX10_ok nmX10 0 (by decide) (eM_0 g ad S1) rfl 24 (by decide) wd_1030 rfl (by rfl) rfl (Nat.le_of_ble_eq_true rfl) (by subst eS2; rfl) (by subst eS2; exact fun i hi => ent_offu hi) dX10_heavy_7 (fun H locs X => ?_)
  refine lv_aload_n hx hb dX10_heavy_10 rfl (lv_at hl 0 rfl) ?_
  refine lv_sipush (v := (300 : Int32)) hx hb dX10_heavy_11 (by decide) ?_
  obtain ⟨S3, eS3, h⟩ := nm_s h
  refine g_put (S' := S3) C X inT10 tyX10 tyX10_ok nmX10 0 (by decide) (eM_0 g ad S2) rfl 26 (by decide) wd_1032 rfl (by rfl) rfl (Nat.le_of_ble_eq_true rfl) (by subst eS3; rfl) (by subst eS3; exact fun i hi => ent_offu hi) dX10_heavy_14 (fun H locs X => ?_)
  refine lv_aload_n hx hb dX10_heavy_17 rfl (lv_at hl 0 rfl) ?_
  obtain ⟨S4, qS4, h⟩ := bn1_s h
  refine kc_v X (res := S4) (rV (As := []) (rest := []) (n := 0) (k := 0) C X (c_X10_swing l g ad S3 _   qS4) wd_1314 wd_1316 wd_51 wd_83 wd_1317 (by decide) (eM_0 g ad S3) rfl rfl rfl (by decide +kernel) ⟨Nat.le_of_ble_eq_true rfl, Nat.le_of_ble_eq_true rfl⟩ rfl hl.1 (lv_room (Nat.le_of_ble_eq_true rfl)) dX10_heavy_18) (fun H locs X => ?_)
  refine lv_sipush (v := (150 : Int32)) hx hb dX10_heavy_21 (by decide) ?_
  refine lv_istore_n (lv' := [(1, .int ((150 : Int32))), (0, .ref (ad 0))]) hx hb dX10_heavy_24 rfl hl (by decide) rfl (fun ls hl => ?_)
  exact kl_X10_heavy_25 C _ h X (lv_sub hl [1, 0] rfl) 

def rmX10_hasGood : Room := { frames := 7, cells := 0, slots := 0, locals := 165 }
def b_X10_hasGood_4 (K4 : Int32 → Int32 → ST → Option (Int32 × ST)) (v2 : Int32) (v3 : Int32) (S : ST) : Option (Int32 × ST) :=
  if ((200 : Int32)) < v3 then (chk (zb v2) (some (v2, S))) else (if v2 = 0 then (bnd (f_X10_isGood v3 S) fun r6 S5 => nm (v3 + (1 : Int32)) fun x7 => K4 r6 x7 S5) else (chk (zb v2) (some (v2, S))))
def f_X10_hasGood  (S : ST) : Option (Int32 × ST) :=
  lp (fun _ _ _ => none) (b_X10_hasGood_4) 1000 ((0 : Int32)) ((1 : Int32)) S
set_option maxHeartbeats 4000000 in
set_option maxRecDepth 100000 in
theorem kb_X10_hasGood_4 {p : Program} {l : Launch} {e : Env} {s : State} {m : MethodId} {args : Array Value} {below : List Frame} {meth : Method} {c : Code} {g : GG} {ad : Nat → Nat} {res : (Int32 × ST)} {S : ST} (C : CX kM g ad p s m args meth c cX10_hasGood (some Jvm.ClassFile.FieldType.boolean) 3 yX10_hasGood.cls (.code yX10_hasGood cX10_hasGood 3 (some Jvm.ClassFile.FieldType.boolean))) {K4 : Int32 → Int32 → ST → Option (Int32 × ST)} (hK4 : ∀ {v2 : Int32} {v3 : Int32} {S : ST} {H : Heap} {locs : List Loc} {ls : Array Slot}, K4 v2 v3 S = some res → WX kM g ad s S H locs → lv_has ls 3 [(0, .ref (ad 0)), (1, .int v2), (2, .int v3)] → W p l e rmX10_hasGood s m args below meth c H locs 0 0 (MQ below (QI kM g ad res (AA kM ad s.heap.size)) args s 0 0 (AA kM ad s.heap.size)) (F0 m 4 ls [])) {v2 : Int32} {v3 : Int32}  {H : Heap} {locs : List Loc} {ls : Array Slot} (h : b_X10_hasGood_4 K4 v2 v3 S = some res) (X : WX kM g ad s S H locs) (hl : lv_has ls 3 [(0, .ref (ad 0)), (1, .int v2), (2, .int v3)])  : W p l e rmX10_hasGood s m args below meth c H locs 0 0 (MQ below (QI kM g ad res (AA kM ad s.heap.size)) args s 0 0 (AA kM ad s.heap.size)) (F0 m 4 ls []) := by
  have hx := C.1.1
  have hb := C.1.2.1
  have h : (if ((200 : Int32)) < v3 then (chk (zb v2) (some (v2, S))) else (if v2 = 0 then (bnd (f_X10_isGood v3 S) fun r6 S5 => nm (v3 + (1 : Int32)) fun x7 => K4 r6 x7 S5) else (chk (zb v2) (some (v2, S)))) : Option (Int32 × ST)) = some res := h
  refine lv_iload_n hx hb dX10_hasGood_4 rfl (lv_at hl 2 rfl) ?_
  refine lv_sipush (v := (200 : Int32)) hx hb dX10_hasGood_5 (by decide) ?_
  refine lv_icmp_gt (tgt := 27) hx hb dX10_hasGood_8 (by decide) (fun c1 => ?_) (fun c1 => ?_)
  · have h := ip h c1
    refine lv_iload_n hx hb dX10_hasGood_27 rfl (lv_at hl 1 rfl) ?_
    obtain ⟨k2, h⟩ := chk_s h
    exact rt_z C X rfl (zb_or k2) (Option.some.inj h) dX10_hasGood_28
  · have h := inn h c1
    refine lv_iload_n hx hb dX10_hasGood_11 rfl (lv_at hl 1 rfl) ?_
    refine lv_if_ne (tgt := 27) hx hb dX10_hasGood_12 (by decide) (fun c3 => ?_) (fun c3 => ?_)
    · have h := inn h c3
      refine lv_iload_n hx hb dX10_hasGood_27 rfl (lv_at hl 1 rfl) ?_
      obtain ⟨k4, h⟩ := chk_s h
      exact rt_z C X rfl (zb_or k4) (Option.some.inj h) dX10_hasGood_28
    · have h := ip h c3
      refine lv_aload_n hx hb dX10_hasGood_15 rfl (lv_at hl 0 rfl) ?_
      refine lv_iload_n hx hb dX10_hasGood_16 rfl (lv_at hl 2 rfl) ?_
      obtain ⟨r6, S5, qr6, h⟩ := bnd_s h
      refine kc_i X (res := (r6, S5)) (rV (As := [.int v3]) (rest := []) (n := 1) (k := 0) C X (c_X10_isGood l g ad S _ v3  qr6) wd_1381 wd_1383 wd_62 wd_83 wd_1384 (by decide) (eM_0 g ad S) rfl rfl rfl (by decide +kernel) ⟨Nat.le_of_ble_eq_true rfl, Nat.le_of_ble_eq_true rfl⟩ rfl hl.1 (lv_room (Nat.le_of_ble_eq_true rfl)) dX10_hasGood_17) (fun H locs X => ?_)
      refine lv_istore_n (lv' := [(1, .int r6), (0, .ref (ad 0)), (2, .int v3)]) hx hb dX10_hasGood_20 rfl hl (by decide) rfl (fun ls hl => ?_)
      obtain ⟨x7, ex7, h⟩ := nm_s h
      refine lv_iinc (v := x7) (lv' := [(2, .int x7), (1, .int r6), (0, .ref (ad 0))]) hx hb dX10_hasGood_21 hl (k := 2) rfl (by rw [ex7]; rfl) (by decide) rfl (fun ls hl => ?_)
      refine lv_goto (tgt := 4) hx hb dX10_hasGood_24 (by decide) ?_
      exact hK4 h X (lv_sub hl [2, 1, 0] rfl) 
set_option maxHeartbeats 4000000 in
set_option maxRecDepth 100000 in
theorem kl_X10_hasGood_4 {p : Program} {l : Launch} {e : Env} {s : State} {m : MethodId} {args : Array Value} {below : List Frame} {meth : Method} {c : Code} {g : GG} {ad : Nat → Nat} {res : (Int32 × ST)}  (C : CX kM g ad p s m args meth c cX10_hasGood (some Jvm.ClassFile.FieldType.boolean) 3 yX10_hasGood.cls (.code yX10_hasGood cX10_hasGood 3 (some Jvm.ClassFile.FieldType.boolean)))  : ∀ (n : Nat) {v2 : Int32} {v3 : Int32} {S : ST} {H : Heap} {locs : List Loc} {ls : Array Slot}, (lp (fun _ _ _ => none) (b_X10_hasGood_4)) n v2 v3 S = some res → WX kM g ad s S H locs → lv_has ls 3 [(0, .ref (ad 0)), (1, .int v2), (2, .int v3)] → W p l e rmX10_hasGood s m args below meth c H locs 0 0 (MQ below (QI kM g ad res (AA kM ad s.heap.size)) args s 0 0 (AA kM ad s.heap.size)) (F0 m 4 ls []) := by
  intro n
  induction n with
  | zero =>
    intro v2 v3 S H locs ls h
    cases (show (none : Option (Int32 × ST)) = some res from h)
  | succ n ih =>
    intro v2 v3 S H locs ls h X hl 
    exact kb_X10_hasGood_4 C ih h X hl 
set_option maxHeartbeats 4000000 in
set_option maxRecDepth 100000 in
theorem c_X10_hasGood (l : Launch) (g : GG) (ad : Nat → Nat) (S : ST) (sz : Nat)   {res : (Int32 × ST)} (h : f_X10_hasGood S = some res) : Met l yX10_hasGood (WS (.code yX10_hasGood cX10_hasGood 3 (some Jvm.ClassFile.FieldType.boolean))) rmX10_hasGood (va_Pc [.ref (ad 0)] (PW kM g ad S sz)) (QI kM g ad res (AA kM ad sz)) 0 0 (AA kM ad sz) := by
  refine go_m (Qc := fun A => QI kM g ad res A) (by decide) (Nat.le_of_ble_eq_true rfl) (fun p e s m below meth c ls H locs C X hl => ?_)
  have hx := C.1.1
  have hb := C.1.2.1
  have hl : lv_has ls 3 [(0, .ref (ad 0))] := hl
  have h : (lp (fun _ _ _ => none) (b_X10_hasGood_4) 1000 ((0 : Int32)) ((1 : Int32)) S : Option (Int32 × ST)) = some res := h
  refine lv_iconst (v := (0 : Int32)) hx hb dX10_hasGood_0 (by decide) ?_
  refine lv_istore_n (lv' := [(1, .int ((0 : Int32))), (0, .ref (ad 0))]) hx hb dX10_hasGood_1 rfl hl (by decide) rfl (fun ls hl => ?_)
  refine lv_iconst (v := (1 : Int32)) hx hb dX10_hasGood_2 (by decide) ?_
  refine lv_istore_n (lv' := [(2, .int ((1 : Int32))), (1, .int ((0 : Int32))), (0, .ref (ad 0))]) hx hb dX10_hasGood_3 rfl hl (by decide) rfl (fun ls hl => ?_)
  exact kl_X10_hasGood_4 C _ h X (lv_sub hl [2, 1, 0] rfl) 

def rmX10_may : Room := { frames := 8, cells := 0, slots := 0, locals := 187 }
def b_X10_may_4 (K4 : Int32 → Int32 → ST → Option (Int32 × ST)) (v2 : Int32) (v3 : Int32) (S : ST) : Option (Int32 × ST) :=
  if (S.1 0 4) ≤ v3 then (some (v2, S)) else (bn1 (f_X10_ready v3 S) fun S2 => bnd (f_X10_hasGood S2) fun r4 S3 => if r4 = 0 then (nm (v2 ||| ((0 : Int32))) fun x6 => nm (v3 + (1 : Int32)) fun x7 => K4 x6 x7 S3) else (nm (v2 ||| (((1 : Int32)) <<< (v3 &&& 31))) fun x8 => nm (v3 + (1 : Int32)) fun x9 => K4 x8 x9 S3))
def f_X10_may  (S : ST) : Option (Int32 × ST) :=
  lp (fun _ _ _ => none) (b_X10_may_4) 1000 ((0 : Int32)) ((0 : Int32)) S
set_option maxHeartbeats 4000000 in
set_option maxRecDepth 100000 in
theorem kb_X10_may_4 {p : Program} {l : Launch} {e : Env} {s : State} {m : MethodId} {args : Array Value} {below : List Frame} {meth : Method} {c : Code} {g : GG} {ad : Nat → Nat} {res : (Int32 × ST)} {S : ST} (C : CX kM g ad p s m args meth c cX10_may (some Jvm.ClassFile.FieldType.int) 3 yX10_may.cls (.code yX10_may cX10_may 3 (some Jvm.ClassFile.FieldType.int))) {K4 : Int32 → Int32 → ST → Option (Int32 × ST)} (hK4 : ∀ {v2 : Int32} {v3 : Int32} {S : ST} {H : Heap} {locs : List Loc} {ls : Array Slot}, K4 v2 v3 S = some res → WX kM g ad s S H locs → lv_has ls 3 [(0, .ref (ad 0)), (1, .int v2), (2, .int v3)] → W p l e rmX10_may s m args below meth c H locs 0 0 (MQ below (QI kM g ad res (AA kM ad s.heap.size)) args s 0 0 (AA kM ad s.heap.size)) (F0 m 4 ls [])) {v2 : Int32} {v3 : Int32}  {H : Heap} {locs : List Loc} {ls : Array Slot} (h : b_X10_may_4 K4 v2 v3 S = some res) (X : WX kM g ad s S H locs) (hl : lv_has ls 3 [(0, .ref (ad 0)), (1, .int v2), (2, .int v3)])  : W p l e rmX10_may s m args below meth c H locs 0 0 (MQ below (QI kM g ad res (AA kM ad s.heap.size)) args s 0 0 (AA kM ad s.heap.size)) (F0 m 4 ls []) := by
  have hx := C.1.1
  have hb := C.1.2.1
  have h : (if (S.1 0 4) ≤ v3 then (some (v2, S)) else (bn1 (f_X10_ready v3 S) fun S2 => bnd (f_X10_hasGood S2) fun r4 S3 => if r4 = 0 then (nm (v2 ||| ((0 : Int32))) fun x6 => nm (v3 + (1 : Int32)) fun x7 => K4 x6 x7 S3) else (nm (v2 ||| (((1 : Int32)) <<< (v3 &&& 31))) fun x8 => nm (v3 + (1 : Int32)) fun x9 => K4 x8 x9 S3)) : Option (Int32 × ST)) = some res := h
  refine lv_iload_n hx hb dX10_may_4 rfl (lv_at hl 2 rfl) ?_
  refine lv_aload_n hx hb dX10_may_5 rfl (lv_at hl 0 rfl) ?_
  refine g_get C X inT10 0 (by decide) (eM_0 g ad S) rfl 4 (by decide) wd_1010 (v := .int (S.1 0 4)) rfl dX10_may_6 ?_
  refine lv_icmp_ge (tgt := 40) hx hb dX10_may_9 (by decide) (fun c1 => ?_) (fun c1 => ?_)
  · have h := ip h c1
    refine lv_iload_n hx hb dX10_may_40 rfl (lv_at hl 1 rfl) ?_
    exact rt_i C X rfl (Option.some.inj h) dX10_may_41
  · have h := inn h c1
    refine lv_aload_n hx hb dX10_may_12 rfl (lv_at hl 0 rfl) ?_
    refine lv_iload_n hx hb dX10_may_13 rfl (lv_at hl 2 rfl) ?_
    obtain ⟨S2, qS2, h⟩ := bn1_s h
    refine kc_v X (res := S2) (rV (As := [.int v3]) (rest := []) (n := 1) (k := 0) C X (c_X10_ready l g ad S _ v3  qS2) wd_1342 wd_1344 wd_55 wd_83 wd_1345 (by decide) (eM_0 g ad S) rfl rfl rfl (by decide +kernel) ⟨Nat.le_of_ble_eq_true rfl, Nat.le_of_ble_eq_true rfl⟩ rfl hl.1 (lv_room (Nat.le_of_ble_eq_true rfl)) dX10_may_14) (fun H locs X => ?_)
    refine lv_iload_n hx hb dX10_may_17 rfl (lv_at hl 1 rfl) ?_
    refine lv_aload_n hx hb dX10_may_18 rfl (lv_at hl 0 rfl) ?_
    obtain ⟨r4, S3, qr4, h⟩ := bnd_s h
    refine kc_i X (res := (r4, S3)) (rV (As := []) (rest := [.int v2]) (n := 0) (k := 0) C X (c_X10_hasGood l g ad S2 _   qr4) wd_1412 wd_1414 wd_64 wd_83 wd_1415 (by decide) (eM_0 g ad S2) rfl rfl rfl (by decide +kernel) ⟨Nat.le_of_ble_eq_true rfl, Nat.le_of_ble_eq_true rfl⟩ rfl hl.1 (lv_room (Nat.le_of_ble_eq_true rfl)) dX10_may_19) (fun H locs X => ?_)
    refine lv_if_eq (tgt := 31) hx hb dX10_may_22 (by decide) (fun c5 => ?_) (fun c5 => ?_)
    · have h := ip h c5
      refine lv_iconst (v := (0 : Int32)) hx hb dX10_may_31 (by decide) ?_
      refine lv_ior hx hb dX10_may_32 ?_
      obtain ⟨x6, ex6, h⟩ := nm_s h
      refine tp_i ex6 ?_
      refine lv_istore_n (lv' := [(1, .int x6), (0, .ref (ad 0)), (2, .int v3)]) hx hb dX10_may_33 rfl hl (by decide) rfl (fun ls hl => ?_)
      obtain ⟨x7, ex7, h⟩ := nm_s h
      refine lv_iinc (v := x7) (lv' := [(2, .int x7), (1, .int x6), (0, .ref (ad 0))]) hx hb dX10_may_34 hl (k := 2) rfl (by rw [ex7]; rfl) (by decide) rfl (fun ls hl => ?_)
      refine lv_goto (tgt := 4) hx hb dX10_may_37 (by decide) ?_
      exact hK4 h X (lv_sub hl [2, 1, 0] rfl) 
    · have h := inn h c5
      refine lv_iconst (v := (1 : Int32)) hx hb dX10_may_25 (by decide) ?_
      refine lv_iload_n hx hb dX10_may_26 rfl (lv_at hl 2 rfl) ?_
      refine lv_ishl hx hb dX10_may_27 ?_
      refine lv_goto (tgt := 32) hx hb dX10_may_28 (by decide) ?_
      refine lv_ior hx hb dX10_may_32 ?_
      obtain ⟨x8, ex8, h⟩ := nm_s h
      refine tp_i ex8 ?_
      refine lv_istore_n (lv' := [(1, .int x8), (0, .ref (ad 0)), (2, .int v3)]) hx hb dX10_may_33 rfl hl (by decide) rfl (fun ls hl => ?_)
      obtain ⟨x9, ex9, h⟩ := nm_s h
      refine lv_iinc (v := x9) (lv' := [(2, .int x9), (1, .int x8), (0, .ref (ad 0))]) hx hb dX10_may_34 hl (k := 2) rfl (by rw [ex9]; rfl) (by decide) rfl (fun ls hl => ?_)
      refine lv_goto (tgt := 4) hx hb dX10_may_37 (by decide) ?_
      exact hK4 h X (lv_sub hl [2, 1, 0] rfl) 
set_option maxHeartbeats 4000000 in
set_option maxRecDepth 100000 in
theorem kl_X10_may_4 {p : Program} {l : Launch} {e : Env} {s : State} {m : MethodId} {args : Array Value} {below : List Frame} {meth : Method} {c : Code} {g : GG} {ad : Nat → Nat} {res : (Int32 × ST)}  (C : CX kM g ad p s m args meth c cX10_may (some Jvm.ClassFile.FieldType.int) 3 yX10_may.cls (.code yX10_may cX10_may 3 (some Jvm.ClassFile.FieldType.int)))  : ∀ (n : Nat) {v2 : Int32} {v3 : Int32} {S : ST} {H : Heap} {locs : List Loc} {ls : Array Slot}, (lp (fun _ _ _ => none) (b_X10_may_4)) n v2 v3 S = some res → WX kM g ad s S H locs → lv_has ls 3 [(0, .ref (ad 0)), (1, .int v2), (2, .int v3)] → W p l e rmX10_may s m args below meth c H locs 0 0 (MQ below (QI kM g ad res (AA kM ad s.heap.size)) args s 0 0 (AA kM ad s.heap.size)) (F0 m 4 ls []) := by
  intro n
  induction n with
  | zero =>
    intro v2 v3 S H locs ls h
    cases (show (none : Option (Int32 × ST)) = some res from h)
  | succ n ih =>
    intro v2 v3 S H locs ls h X hl 
    exact kb_X10_may_4 C ih h X hl 
set_option maxHeartbeats 4000000 in
set_option maxRecDepth 100000 in
theorem c_X10_may (l : Launch) (g : GG) (ad : Nat → Nat) (S : ST) (sz : Nat)   {res : (Int32 × ST)} (h : f_X10_may S = some res) : Met l yX10_may (WS (.code yX10_may cX10_may 3 (some Jvm.ClassFile.FieldType.int))) rmX10_may (va_Pc [.ref (ad 0)] (PW kM g ad S sz)) (QI kM g ad res (AA kM ad sz)) 0 0 (AA kM ad sz) := by
  refine go_m (Qc := fun A => QI kM g ad res A) (by decide) (Nat.le_of_ble_eq_true rfl) (fun p e s m below meth c ls H locs C X hl => ?_)
  have hx := C.1.1
  have hb := C.1.2.1
  have hl : lv_has ls 3 [(0, .ref (ad 0))] := hl
  have h : (lp (fun _ _ _ => none) (b_X10_may_4) 1000 ((0 : Int32)) ((0 : Int32)) S : Option (Int32 × ST)) = some res := h
  refine lv_iconst (v := (0 : Int32)) hx hb dX10_may_0 (by decide) ?_
  refine lv_istore_n (lv' := [(1, .int ((0 : Int32))), (0, .ref (ad 0))]) hx hb dX10_may_1 rfl hl (by decide) rfl (fun ls hl => ?_)
  refine lv_iconst (v := (0 : Int32)) hx hb dX10_may_2 (by decide) ?_
  refine lv_istore_n (lv' := [(2, .int ((0 : Int32))), (1, .int ((0 : Int32))), (0, .ref (ad 0))]) hx hb dX10_may_3 rfl hl (by decide) rfl (fun ls hl => ?_)
  exact kl_X10_may_4 C _ h X (lv_sub hl [2, 1, 0] rfl) 

def rmX10_months : Room := { frames := 8, cells := 0, slots := 0, locals := 187 }
def b_X10_months_28 (K28 : Int32 → Int32 → Int32 → ST → Option (Int32 × ST)) (v2 : Int32) (v3 : Int32) (v4 : Int32) (S : ST) : Option (Int32 × ST) :=
  if ((12 : Int32)) ≤ v4 then (nm (su S 6 ((0 : Int32)).toNatClampNeg v2) fun S6 => some (v3, S6)) else (nm (su S 6 ((0 : Int32)).toNatClampNeg v4) fun S7 => bnd (f_X10_hasGood S7) fun r9 S8 => if r9 = 0 then (nm (v3 ||| ((0 : Int32))) fun x11 => nm (v4 + (1 : Int32)) fun x12 => K28 v2 x11 x12 S8) else (nm (v3 ||| (((1 : Int32)) <<< (v4 &&& 31))) fun x13 => nm (v4 + (1 : Int32)) fun x14 => K28 v2 x13 x14 S8))
def f_X10_months (a1 : Int32) (S : ST) : Option (Int32 × ST) :=
  bn1 (f_X10_isSwinger a1 S) fun r1 => if r1 = 0 then (some ((-1000000001 : Int32), S)) else (bn1 (f_X10_ready a1 S) fun S3 => nm (S3.1 6 ((0 : Int32)).toNatClampNeg) fun x4 => lp (fun _ _ _ _ => none) (b_X10_months_28) 1000 x4 ((0 : Int32)) ((0 : Int32)) S3)
set_option maxHeartbeats 4000000 in
set_option maxRecDepth 100000 in
theorem kb_X10_months_28 {p : Program} {l : Launch} {e : Env} {s : State} {m : MethodId} {args : Array Value} {below : List Frame} {meth : Method} {c : Code} {g : GG} {ad : Nat → Nat} {res : (Int32 × ST)} {S : ST} (C : CX kM g ad p s m args meth c cX10_months (some Jvm.ClassFile.FieldType.int) 5 yX10_months.cls (.code yX10_months cX10_months 5 (some Jvm.ClassFile.FieldType.int))) {K28 : Int32 → Int32 → Int32 → ST → Option (Int32 × ST)} (hK28 : ∀ {v2 : Int32} {v3 : Int32} {v4 : Int32} {S : ST} {H : Heap} {locs : List Loc} {ls : Array Slot}, K28 v2 v3 v4 S = some res → WX kM g ad s S H locs → lv_has ls 5 [(0, .ref (ad 0)), (2, .int v2), (3, .int v3), (4, .int v4)] → W p l e rmX10_months s m args below meth c H locs 0 0 (MQ below (QI kM g ad res (AA kM ad s.heap.size)) args s 0 0 (AA kM ad s.heap.size)) (F0 m 28 ls [])) {v2 : Int32} {v3 : Int32} {v4 : Int32}  {H : Heap} {locs : List Loc} {ls : Array Slot} (h : b_X10_months_28 K28 v2 v3 v4 S = some res) (X : WX kM g ad s S H locs) (hl : lv_has ls 5 [(0, .ref (ad 0)), (2, .int v2), (3, .int v3), (4, .int v4)])  : W p l e rmX10_months s m args below meth c H locs 0 0 (MQ below (QI kM g ad res (AA kM ad s.heap.size)) args s 0 0 (AA kM ad s.heap.size)) (F0 m 28 ls []) := by
  have hx := C.1.1
  have hb := C.1.2.1
  have h : (if ((12 : Int32)) ≤ v4 then (nm (su S 6 ((0 : Int32)).toNatClampNeg v2) fun S6 => some (v3, S6)) else (nm (su S 6 ((0 : Int32)).toNatClampNeg v4) fun S7 => bnd (f_X10_hasGood S7) fun r9 S8 => if r9 = 0 then (nm (v3 ||| ((0 : Int32))) fun x11 => nm (v4 + (1 : Int32)) fun x12 => K28 v2 x11 x12 S8) else (nm (v3 ||| (((1 : Int32)) <<< (v4 &&& 31))) fun x13 => nm (v4 + (1 : Int32)) fun x14 => K28 v2 x13 x14 S8)) : Option (Int32 × ST)) = some res := h
  refine lv_iload hx hb dX10_months_28 (lv_at hl 3 rfl) ?_
  refine lv_bipush (v := (12 : Int32)) hx hb dX10_months_30 (by decide) ?_
  refine lv_icmp_ge (tgt := 67) hx hb dX10_months_32 (by decide) (fun c5 => ?_) (fun c5 => ?_)
  · have h := ip h c5
    refine lv_aload_n hx hb dX10_months_67 rfl (lv_at hl 0 rfl) ?_
    refine g_get C X inT10 0 (by decide) (eM_0 g ad S) rfl 6 (by decide) wd_1012 (v := .ref (ad 6)) rfl dX10_months_68 ?_
    refine lv_iconst (v := (0 : Int32)) hx hb dX10_months_71 (by decide) ?_
    refine lv_iload_n hx hb dX10_months_72 rfl (lv_at hl 1 rfl) ?_
    obtain ⟨S6, eS6, h⟩ := nm_s h
    refine g_iast (S' := S6) C X 6 (by decide) (eM_6 g ad S) (by decide) (by subst eS6; rfl) (by subst eS6; exact fun i hi => ent_offu hi) dX10_months_73 (fun H locs X => ?_)
    refine lv_iload_n hx hb dX10_months_74 rfl (lv_at hl 2 rfl) ?_
    exact rt_i C X rfl (Option.some.inj h) dX10_months_75
  · have h := inn h c5
    refine lv_aload_n hx hb dX10_months_35 rfl (lv_at hl 0 rfl) ?_
    refine g_get C X inT10 0 (by decide) (eM_0 g ad S) rfl 6 (by decide) wd_1012 (v := .ref (ad 6)) rfl dX10_months_36 ?_
    refine lv_iconst (v := (0 : Int32)) hx hb dX10_months_39 (by decide) ?_
    refine lv_iload hx hb dX10_months_40 (lv_at hl 3 rfl) ?_
    obtain ⟨S7, eS7, h⟩ := nm_s h
    refine g_iast (S' := S7) C X 6 (by decide) (eM_6 g ad S) (by decide) (by subst eS7; rfl) (by subst eS7; exact fun i hi => ent_offu hi) dX10_months_42 (fun H locs X => ?_)
    refine lv_iload_n hx hb dX10_months_43 rfl (lv_at hl 2 rfl) ?_
    refine lv_aload_n hx hb dX10_months_44 rfl (lv_at hl 0 rfl) ?_
    obtain ⟨r9, S8, qr9, h⟩ := bnd_s h
    refine kc_i X (res := (r9, S8)) (rV (As := []) (rest := [.int v3]) (n := 0) (k := 0) C X (c_X10_hasGood l g ad S7 _   qr9) wd_1412 wd_1414 wd_64 wd_83 wd_1415 (by decide) (eM_0 g ad S7) rfl rfl rfl (by decide +kernel) ⟨Nat.le_of_ble_eq_true rfl, Nat.le_of_ble_eq_true rfl⟩ rfl hl.1 (lv_room (Nat.le_of_ble_eq_true rfl)) dX10_months_45) (fun H locs X => ?_)
    refine lv_if_eq (tgt := 58) hx hb dX10_months_48 (by decide) (fun c10 => ?_) (fun c10 => ?_)
    · have h := ip h c10
      refine lv_iconst (v := (0 : Int32)) hx hb dX10_months_58 (by decide) ?_
      refine lv_ior hx hb dX10_months_59 ?_
      obtain ⟨x11, ex11, h⟩ := nm_s h
      refine tp_i ex11 ?_
      refine lv_istore_n (lv' := [(3, .int x11), (0, .ref (ad 0)), (2, .int v2), (4, .int v4)]) hx hb dX10_months_60 rfl hl (by decide) rfl (fun ls hl => ?_)
      obtain ⟨x12, ex12, h⟩ := nm_s h
      refine lv_iinc (v := x12) (lv' := [(4, .int x12), (3, .int x11), (0, .ref (ad 0)), (2, .int v2)]) hx hb dX10_months_61 hl (k := 3) rfl (by rw [ex12]; rfl) (by decide) rfl (fun ls hl => ?_)
      refine lv_goto (tgt := 28) hx hb dX10_months_64 (by decide) ?_
      exact hK28 h X (lv_sub hl [2, 3, 1, 0] rfl) 
    · have h := inn h c10
      refine lv_iconst (v := (1 : Int32)) hx hb dX10_months_51 (by decide) ?_
      refine lv_iload hx hb dX10_months_52 (lv_at hl 3 rfl) ?_
      refine lv_ishl hx hb dX10_months_54 ?_
      refine lv_goto (tgt := 59) hx hb dX10_months_55 (by decide) ?_
      refine lv_ior hx hb dX10_months_59 ?_
      obtain ⟨x13, ex13, h⟩ := nm_s h
      refine tp_i ex13 ?_
      refine lv_istore_n (lv' := [(3, .int x13), (0, .ref (ad 0)), (2, .int v2), (4, .int v4)]) hx hb dX10_months_60 rfl hl (by decide) rfl (fun ls hl => ?_)
      obtain ⟨x14, ex14, h⟩ := nm_s h
      refine lv_iinc (v := x14) (lv' := [(4, .int x14), (3, .int x13), (0, .ref (ad 0)), (2, .int v2)]) hx hb dX10_months_61 hl (k := 3) rfl (by rw [ex14]; rfl) (by decide) rfl (fun ls hl => ?_)
      refine lv_goto (tgt := 28) hx hb dX10_months_64 (by decide) ?_
      exact hK28 h X (lv_sub hl [2, 3, 1, 0] rfl) 
set_option maxHeartbeats 4000000 in
set_option maxRecDepth 100000 in
theorem kl_X10_months_28 {p : Program} {l : Launch} {e : Env} {s : State} {m : MethodId} {args : Array Value} {below : List Frame} {meth : Method} {c : Code} {g : GG} {ad : Nat → Nat} {res : (Int32 × ST)}  (C : CX kM g ad p s m args meth c cX10_months (some Jvm.ClassFile.FieldType.int) 5 yX10_months.cls (.code yX10_months cX10_months 5 (some Jvm.ClassFile.FieldType.int)))  : ∀ (n : Nat) {v2 : Int32} {v3 : Int32} {v4 : Int32} {S : ST} {H : Heap} {locs : List Loc} {ls : Array Slot}, (lp (fun _ _ _ _ => none) (b_X10_months_28)) n v2 v3 v4 S = some res → WX kM g ad s S H locs → lv_has ls 5 [(0, .ref (ad 0)), (2, .int v2), (3, .int v3), (4, .int v4)] → W p l e rmX10_months s m args below meth c H locs 0 0 (MQ below (QI kM g ad res (AA kM ad s.heap.size)) args s 0 0 (AA kM ad s.heap.size)) (F0 m 28 ls []) := by
  intro n
  induction n with
  | zero =>
    intro v2 v3 v4 S H locs ls h
    cases (show (none : Option (Int32 × ST)) = some res from h)
  | succ n ih =>
    intro v2 v3 v4 S H locs ls h X hl 
    exact kb_X10_months_28 C ih h X hl 
set_option maxHeartbeats 4000000 in
set_option maxRecDepth 100000 in
theorem c_X10_months (l : Launch) (g : GG) (ad : Nat → Nat) (S : ST) (sz : Nat) (a1 : Int32)  {res : (Int32 × ST)} (h : f_X10_months a1 S = some res) : Met l yX10_months (WS (.code yX10_months cX10_months 5 (some Jvm.ClassFile.FieldType.int))) rmX10_months (va_Pc [.ref (ad 0), .int a1] (PW kM g ad S sz)) (QI kM g ad res (AA kM ad sz)) 0 0 (AA kM ad sz) := by
  refine go_m (Qc := fun A => QI kM g ad res A) (by decide) (Nat.le_of_ble_eq_true rfl) (fun p e s m below meth c ls H locs C X hl => ?_)
  have hx := C.1.1
  have hb := C.1.2.1
  have hl : lv_has ls 5 [(0, .ref (ad 0)), (1, .int a1)] := hl
  have h : (bn1 (f_X10_isSwinger a1 S) fun r1 => if r1 = 0 then (some ((-1000000001 : Int32), S)) else (bn1 (f_X10_ready a1 S) fun S3 => nm (S3.1 6 ((0 : Int32)).toNatClampNeg) fun x4 => lp (fun _ _ _ _ => none) (b_X10_months_28) 1000 x4 ((0 : Int32)) ((0 : Int32)) S3) : Option (Int32 × ST)) = some res := h
  refine lv_aload_n hx hb dX10_months_0 rfl (lv_at hl 0 rfl) ?_
  refine lv_iload_n hx hb dX10_months_1 rfl (lv_at hl 1 rfl) ?_
  obtain ⟨r1, qr1, h⟩ := bn1_s h
  refine kc_i X (res := (r1, S)) (rV (As := [.int a1]) (rest := []) (n := 1) (k := 0) C X (c_X10_isSwinger l g ad S _ a1  qr1) wd_1266 wd_1268 wd_47 wd_83 wd_1269 (by decide) (eM_0 g ad S) rfl rfl rfl (by decide +kernel) ⟨Nat.le_of_ble_eq_true rfl, Nat.le_of_ble_eq_true rfl⟩ rfl hl.1 (lv_room (Nat.le_of_ble_eq_true rfl)) dX10_months_2) (fun H locs X => ?_)
  refine lv_if_ne (tgt := 11) hx hb dX10_months_5 (by decide) (fun c2 => ?_) (fun c2 => ?_)
  · have h := inn h c2
    refine lv_aload_n hx hb dX10_months_11 rfl (lv_at hl 0 rfl) ?_
    refine lv_iload_n hx hb dX10_months_12 rfl (lv_at hl 1 rfl) ?_
    obtain ⟨S3, qS3, h⟩ := bn1_s h
    refine kc_v X (res := S3) (rV (As := [.int a1]) (rest := []) (n := 1) (k := 0) C X (c_X10_ready l g ad S _ a1  qS3) wd_1342 wd_1344 wd_55 wd_83 wd_1345 (by decide) (eM_0 g ad S) rfl rfl rfl (by decide +kernel) ⟨Nat.le_of_ble_eq_true rfl, Nat.le_of_ble_eq_true rfl⟩ rfl hl.1 (lv_room (Nat.le_of_ble_eq_true rfl)) dX10_months_13) (fun H locs X => ?_)
    refine lv_aload_n hx hb dX10_months_16 rfl (lv_at hl 0 rfl) ?_
    refine g_get C X inT10 0 (by decide) (eM_0 g ad S3) rfl 6 (by decide) wd_1012 (v := .ref (ad 6)) rfl dX10_months_17 ?_
    refine lv_iconst (v := (0 : Int32)) hx hb dX10_months_20 (by decide) ?_
    refine g_iald C X 6 (by decide) (eM_6 g ad S3) (by decide) dX10_months_21 ?_
    obtain ⟨x4, ex4, h⟩ := nm_s h
    refine tp_i ex4 ?_
    refine lv_istore_n (lv' := [(2, .int x4), (0, .ref (ad 0)), (1, .int a1)]) hx hb dX10_months_22 rfl hl (by decide) rfl (fun ls hl => ?_)
    refine lv_iconst (v := (0 : Int32)) hx hb dX10_months_23 (by decide) ?_
    refine lv_istore_n (lv' := [(3, .int ((0 : Int32))), (2, .int x4), (0, .ref (ad 0)), (1, .int a1)]) hx hb dX10_months_24 rfl hl (by decide) rfl (fun ls hl => ?_)
    refine lv_iconst (v := (0 : Int32)) hx hb dX10_months_25 (by decide) ?_
    refine lv_istore (lv' := [(4, .int ((0 : Int32))), (3, .int ((0 : Int32))), (2, .int x4), (0, .ref (ad 0)), (1, .int a1)]) hx hb dX10_months_26 hl (by decide) rfl (fun ls hl => ?_)
    exact kl_X10_months_28 C _ h X (lv_sub hl [3, 2, 1, 0] rfl) 
  · have h := ip h c2
    refine lv_ldc (v := (-1000000001 : Int32)) hx hb C.1.2.2.2.2.2.1 (C.1.2.2.2.2.2.2 _ (ws_in wd_1249)) dX10_months_8 ?_
    exact rt_i C X rfl (Option.some.inj h) dX10_months_10

def rmX10_rope : Room := { frames := 8, cells := 0, slots := 0, locals := 189 }
def b_X10_rope_112 (K44 : Int32 → Int32 → Int32 → Int32 → ST → Option (Int32 × ST)) (K55 : Int32 → Int32 → Int32 → Int32 → Int32 → ST → Option (Int32 × ST)) (v2 : Int32) (v3 : Int32) (v4 : Int32) (v5 : Int32) (v6 : Int32) (v7 : Int32) (S : ST) : Option (Int32 × ST) :=
  if v6 ≤ v3 then (nm (v5 + (50 : Int32)) fun x20 => K55 v2 v3 v7 v4 x20 S) else (nm (v5 + (50 : Int32)) fun x21 => K55 v2 v6 v7 v4 x21 S)
def b_X10_rope_55 (K44 : Int32 → Int32 → Int32 → Int32 → ST → Option (Int32 × ST)) (K55 : Int32 → Int32 → Int32 → Int32 → Int32 → ST → Option (Int32 × ST)) (v2 : Int32) (v3 : Int32) (v4 : Int32) (v5 : Int32) (v6 : Int32) (S : ST) : Option (Int32 × ST) :=
  if ((300 : Int32)) < v6 then (nm (v5 + (50 : Int32)) fun x11 => K44 v2 v3 v4 x11 S) else (if (v5 - v6) < ((50 : Int32)) then (nm (v5 + (50 : Int32)) fun x13 => K44 v2 v3 v4 x13 S) else (nm (su S 0 21 (v5 - v6)) fun S14 => bn1 (f_X10_swing S14) fun S15 => bnd (f_X10_wideRow S15) fun r17 S16 => if r17 ≤ v3 then (b_X10_rope_112 K44 K55 v2 v3 v5 v6 r17 v4 S16) else (b_X10_rope_112 K44 K55 v2 v3 v5 v6 r17 ((((1000 : Int32)) * v5) + v6) S16)))
def b_X10_rope_44 (K44 : Int32 → Int32 → Int32 → Int32 → ST → Option (Int32 × ST)) (v2 : Int32) (v3 : Int32) (v4 : Int32) (v5 : Int32) (S : ST) : Option (Int32 × ST) :=
  if ((900 : Int32)) < v5 then (if v2 = 0 then (some (v4 / ((1000 : Int32)), S)) else (if v2 = ((1 : Int32)) then (some (v4 - v4 / ((1000 : Int32)) * ((1000 : Int32)), S)) else (some (v3, S)))) else (lp (fun _ _ _ _ _ _ => none) (b_X10_rope_55 K44) 1000 v2 v3 v4 v5 ((0 : Int32)) S)
def f_X10_rope (a1 : Int32) (a2 : Int32) (S : ST) : Option (Int32 × ST) :=
  bn1 (f_X10_isSwinger a1 S) fun r1 => if r1 = 0 then (some ((-1000000001 : Int32), S)) else (bn1 (f_X10_in (a2.toInt64) ((0 : Int64)) ((2 : Int64))) fun r3 => if r3 = 0 then (some ((-1000000002 : Int32), S)) else (bn1 (f_X10_useHand S) fun S5 => bn1 (f_X10_usePerson a1 S5) fun S6 => lp (fun _ _ _ _ _ => none) (b_X10_rope_44) 1000 a2 ((-1 : Int32)) ((0 : Int32)) ((100 : Int32)) S6))
set_option maxHeartbeats 4000000 in
set_option maxRecDepth 100000 in
theorem kb_X10_rope_112 {p : Program} {l : Launch} {e : Env} {s : State} {m : MethodId} {args : Array Value} {below : List Frame} {meth : Method} {c : Code} {g : GG} {ad : Nat → Nat} {res : (Int32 × ST)} {S : ST} (C : CX kM g ad p s m args meth c cX10_rope (some Jvm.ClassFile.FieldType.int) 8 yX10_rope.cls (.code yX10_rope cX10_rope 8 (some Jvm.ClassFile.FieldType.int))) {K44 : Int32 → Int32 → Int32 → Int32 → ST → Option (Int32 × ST)} (hK44 : ∀ {v2 : Int32} {v3 : Int32} {v4 : Int32} {v5 : Int32} {S : ST} {H : Heap} {locs : List Loc} {ls : Array Slot}, K44 v2 v3 v4 v5 S = some res → WX kM g ad s S H locs → lv_has ls 8 [(0, .ref (ad 0)), (2, .int v2), (3, .int v3), (4, .int v4), (5, .int v5)] → W p l e rmX10_rope s m args below meth c H locs 0 0 (MQ below (QI kM g ad res (AA kM ad s.heap.size)) args s 0 0 (AA kM ad s.heap.size)) (F0 m 44 ls [])) {K55 : Int32 → Int32 → Int32 → Int32 → Int32 → ST → Option (Int32 × ST)} (hK55 : ∀ {v2 : Int32} {v3 : Int32} {v4 : Int32} {v5 : Int32} {v6 : Int32} {S : ST} {H : Heap} {locs : List Loc} {ls : Array Slot}, K55 v2 v3 v4 v5 v6 S = some res → WX kM g ad s S H locs → lv_has ls 8 [(0, .ref (ad 0)), (2, .int v2), (3, .int v3), (4, .int v4), (5, .int v5), (6, .int v6)] → W p l e rmX10_rope s m args below meth c H locs 0 0 (MQ below (QI kM g ad res (AA kM ad s.heap.size)) args s 0 0 (AA kM ad s.heap.size)) (F0 m 55 ls [])) {v2 : Int32} {v3 : Int32} {v4 : Int32} {v5 : Int32} {v6 : Int32} {v7 : Int32}  {H : Heap} {locs : List Loc} {ls : Array Slot} (h : b_X10_rope_112 K44 K55 v2 v3 v4 v5 v6 v7 S = some res) (X : WX kM g ad s S H locs) (hl : lv_has ls 8 [(0, .ref (ad 0)), (2, .int v2), (3, .int v3), (5, .int v4), (6, .int v5), (7, .int v6)])  : W p l e rmX10_rope s m args below meth c H locs 0 0 (MQ below (QI kM g ad res (AA kM ad s.heap.size)) args s 0 0 (AA kM ad s.heap.size)) (F0 m 112 ls [.int v7]) := by
  have hx := C.1.1
  have hb := C.1.2.1
  have h : (if v6 ≤ v3 then (nm (v5 + (50 : Int32)) fun x20 => K55 v2 v3 v7 v4 x20 S) else (nm (v5 + (50 : Int32)) fun x21 => K55 v2 v6 v7 v4 x21 S) : Option (Int32 × ST)) = some res := h
  refine lv_istore (lv' := [(4, .int v7), (0, .ref (ad 0)), (2, .int v2), (3, .int v3), (5, .int v4), (6, .int v5), (7, .int v6)]) hx hb dX10_rope_112 hl (by decide) rfl (fun ls hl => ?_)
  refine lv_iload hx hb dX10_rope_114 (lv_at hl 6 rfl) ?_
  refine lv_iload_n hx hb dX10_rope_116 rfl (lv_at hl 3 rfl) ?_
  refine lv_icmp_le (tgt := 125) hx hb dX10_rope_117 (by decide) (fun c19 => ?_) (fun c19 => ?_)
  · have h := ip h c19
    refine lv_iload_n hx hb dX10_rope_125 rfl (lv_at hl 3 rfl) ?_
    refine lv_istore_n (lv' := [(3, .int v3), (4, .int v7), (0, .ref (ad 0)), (2, .int v2), (5, .int v4), (6, .int v5), (7, .int v6)]) hx hb dX10_rope_126 rfl hl (by decide) rfl (fun ls hl => ?_)
    obtain ⟨x20, ex20, h⟩ := nm_s h
    refine lv_iinc (v := x20) (lv' := [(6, .int x20), (3, .int v3), (4, .int v7), (0, .ref (ad 0)), (2, .int v2), (5, .int v4), (7, .int v6)]) hx hb dX10_rope_127 hl (k := 5) rfl (by rw [ex20]; rfl) (by decide) rfl (fun ls hl => ?_)
    refine lv_goto (tgt := 55) hx hb dX10_rope_130 (by decide) ?_
    exact hK55 h X (lv_sub hl [3, 4, 1, 2, 5, 0] rfl) 
  · have h := inn h c19
    refine lv_iload hx hb dX10_rope_120 (lv_at hl 6 rfl) ?_
    refine lv_goto (tgt := 126) hx hb dX10_rope_122 (by decide) ?_
    refine lv_istore_n (lv' := [(3, .int v6), (4, .int v7), (0, .ref (ad 0)), (2, .int v2), (5, .int v4), (6, .int v5), (7, .int v6)]) hx hb dX10_rope_126 rfl hl (by decide) rfl (fun ls hl => ?_)
    obtain ⟨x21, ex21, h⟩ := nm_s h
    refine lv_iinc (v := x21) (lv' := [(6, .int x21), (3, .int v6), (4, .int v7), (0, .ref (ad 0)), (2, .int v2), (5, .int v4), (7, .int v6)]) hx hb dX10_rope_127 hl (k := 5) rfl (by rw [ex21]; rfl) (by decide) rfl (fun ls hl => ?_)
    refine lv_goto (tgt := 55) hx hb dX10_rope_130 (by decide) ?_
    exact hK55 h X (lv_sub hl [3, 4, 1, 2, 5, 0] rfl) 
set_option maxHeartbeats 4000000 in
set_option maxRecDepth 100000 in
theorem kb_X10_rope_55 {p : Program} {l : Launch} {e : Env} {s : State} {m : MethodId} {args : Array Value} {below : List Frame} {meth : Method} {c : Code} {g : GG} {ad : Nat → Nat} {res : (Int32 × ST)} {S : ST} (C : CX kM g ad p s m args meth c cX10_rope (some Jvm.ClassFile.FieldType.int) 8 yX10_rope.cls (.code yX10_rope cX10_rope 8 (some Jvm.ClassFile.FieldType.int))) {K44 : Int32 → Int32 → Int32 → Int32 → ST → Option (Int32 × ST)} (hK44 : ∀ {v2 : Int32} {v3 : Int32} {v4 : Int32} {v5 : Int32} {S : ST} {H : Heap} {locs : List Loc} {ls : Array Slot}, K44 v2 v3 v4 v5 S = some res → WX kM g ad s S H locs → lv_has ls 8 [(0, .ref (ad 0)), (2, .int v2), (3, .int v3), (4, .int v4), (5, .int v5)] → W p l e rmX10_rope s m args below meth c H locs 0 0 (MQ below (QI kM g ad res (AA kM ad s.heap.size)) args s 0 0 (AA kM ad s.heap.size)) (F0 m 44 ls [])) {K55 : Int32 → Int32 → Int32 → Int32 → Int32 → ST → Option (Int32 × ST)} (hK55 : ∀ {v2 : Int32} {v3 : Int32} {v4 : Int32} {v5 : Int32} {v6 : Int32} {S : ST} {H : Heap} {locs : List Loc} {ls : Array Slot}, K55 v2 v3 v4 v5 v6 S = some res → WX kM g ad s S H locs → lv_has ls 8 [(0, .ref (ad 0)), (2, .int v2), (3, .int v3), (4, .int v4), (5, .int v5), (6, .int v6)] → W p l e rmX10_rope s m args below meth c H locs 0 0 (MQ below (QI kM g ad res (AA kM ad s.heap.size)) args s 0 0 (AA kM ad s.heap.size)) (F0 m 55 ls [])) {v2 : Int32} {v3 : Int32} {v4 : Int32} {v5 : Int32} {v6 : Int32}  {H : Heap} {locs : List Loc} {ls : Array Slot} (h : b_X10_rope_55 K44 K55 v2 v3 v4 v5 v6 S = some res) (X : WX kM g ad s S H locs) (hl : lv_has ls 8 [(0, .ref (ad 0)), (2, .int v2), (3, .int v3), (4, .int v4), (5, .int v5), (6, .int v6)])  : W p l e rmX10_rope s m args below meth c H locs 0 0 (MQ below (QI kM g ad res (AA kM ad s.heap.size)) args s 0 0 (AA kM ad s.heap.size)) (F0 m 55 ls []) := by
  have hx := C.1.1
  have hb := C.1.2.1
  have h : (if ((300 : Int32)) < v6 then (nm (v5 + (50 : Int32)) fun x11 => K44 v2 v3 v4 x11 S) else (if (v5 - v6) < ((50 : Int32)) then (nm (v5 + (50 : Int32)) fun x13 => K44 v2 v3 v4 x13 S) else (nm (su S 0 21 (v5 - v6)) fun S14 => bn1 (f_X10_swing S14) fun S15 => bnd (f_X10_wideRow S15) fun r17 S16 => if r17 ≤ v3 then (b_X10_rope_112 K44 K55 v2 v3 v5 v6 r17 v4 S16) else (b_X10_rope_112 K44 K55 v2 v3 v5 v6 r17 ((((1000 : Int32)) * v5) + v6) S16))) : Option (Int32 × ST)) = some res := h
  refine lv_iload hx hb dX10_rope_55 (lv_at hl 5 rfl) ?_
  refine lv_sipush (v := (300 : Int32)) hx hb dX10_rope_57 (by decide) ?_
  refine lv_icmp_gt (tgt := 133) hx hb dX10_rope_60 (by decide) (fun c10 => ?_) (fun c10 => ?_)
  · have h := ip h c10
    obtain ⟨x11, ex11, h⟩ := nm_s h
    refine lv_iinc (v := x11) (lv' := [(5, .int x11), (0, .ref (ad 0)), (2, .int v2), (3, .int v3), (4, .int v4), (6, .int v6)]) hx hb dX10_rope_133 hl (k := 4) rfl (by rw [ex11]; rfl) (by decide) rfl (fun ls hl => ?_)
    refine lv_goto (tgt := 44) hx hb dX10_rope_136 (by decide) ?_
    exact hK44 h X (lv_sub hl [1, 2, 3, 4, 0] rfl) 
  · have h := inn h c10
    refine lv_iload hx hb dX10_rope_63 (lv_at hl 4 rfl) ?_
    refine lv_iload hx hb dX10_rope_65 (lv_at hl 5 rfl) ?_
    refine lv_isub hx hb dX10_rope_67 ?_
    refine lv_bipush (v := (50 : Int32)) hx hb dX10_rope_68 (by decide) ?_
    refine lv_icmp_lt (tgt := 133) hx hb dX10_rope_70 (by decide) (fun c12 => ?_) (fun c12 => ?_)
    · have h := ip h c12
      obtain ⟨x13, ex13, h⟩ := nm_s h
      refine lv_iinc (v := x13) (lv' := [(5, .int x13), (0, .ref (ad 0)), (2, .int v2), (3, .int v3), (4, .int v4), (6, .int v6)]) hx hb dX10_rope_133 hl (k := 4) rfl (by rw [ex13]; rfl) (by decide) rfl (fun ls hl => ?_)
      refine lv_goto (tgt := 44) hx hb dX10_rope_136 (by decide) ?_
      exact hK44 h X (lv_sub hl [1, 2, 3, 4, 0] rfl) 
    · have h := inn h c12
      refine lv_aload_n hx hb dX10_rope_73 rfl (lv_at hl 0 rfl) ?_
      refine lv_iload hx hb dX10_rope_74 (lv_at hl 4 rfl) ?_
      refine lv_iload hx hb dX10_rope_76 (lv_at hl 5 rfl) ?_
      refine lv_isub hx hb dX10_rope_78 ?_
      obtain ⟨S14, eS14, h⟩ := nm_s h
      refine g_put (S' := S14) C X inT10 tyX10 tyX10_ok nmX10 0 (by decide) (eM_0 g ad S) rfl 21 (by decide) wd_1027 rfl (by rfl) rfl (Nat.le_of_ble_eq_true rfl) (by subst eS14; rfl) (by subst eS14; exact fun i hi => ent_offu hi) dX10_rope_79 (fun H locs X => ?_)
      refine lv_aload_n hx hb dX10_rope_82 rfl (lv_at hl 0 rfl) ?_
      obtain ⟨S15, qS15, h⟩ := bn1_s h
      refine kc_v X (res := S15) (rV (As := []) (rest := []) (n := 0) (k := 0) C X (c_X10_swing l g ad S14 _   qS15) wd_1314 wd_1316 wd_51 wd_83 wd_1317 (by decide) (eM_0 g ad S14) rfl rfl rfl (by decide +kernel) ⟨Nat.le_of_ble_eq_true rfl, Nat.le_of_ble_eq_true rfl⟩ rfl hl.1 (lv_room (Nat.le_of_ble_eq_true rfl)) dX10_rope_83) (fun H locs X => ?_)
      refine lv_aload_n hx hb dX10_rope_86 rfl (lv_at hl 0 rfl) ?_
      obtain ⟨r17, S16, qr17, h⟩ := bnd_s h
      refine kc_i X (res := (r17, S16)) (rV (As := []) (rest := []) (n := 0) (k := 0) C X (c_X10_wideRow l g ad S15 _   qr17) wd_1390 wd_1392 wd_63 wd_83 wd_1393 (by decide) (eM_0 g ad S15) rfl rfl rfl (by decide +kernel) ⟨Nat.le_of_ble_eq_true rfl, Nat.le_of_ble_eq_true rfl⟩ rfl hl.1 (lv_room (Nat.le_of_ble_eq_true rfl)) dX10_rope_87) (fun H locs X => ?_)
      refine lv_istore (lv' := [(7, .int r17), (0, .ref (ad 0)), (2, .int v2), (3, .int v3), (4, .int v4), (5, .int v5), (6, .int v6)]) hx hb dX10_rope_90 hl (by decide) rfl (fun ls hl => ?_)
      refine lv_iload hx hb dX10_rope_92 (lv_at hl 0 rfl) ?_
      refine lv_iload_n hx hb dX10_rope_94 rfl (lv_at hl 3 rfl) ?_
      refine lv_icmp_le (tgt := 110) hx hb dX10_rope_95 (by decide) (fun c18 => ?_) (fun c18 => ?_)
      · have h := ip h c18
        refine lv_iload hx hb dX10_rope_110 (lv_at hl 4 rfl) ?_
        exact kb_X10_rope_112 C hK44 hK55 h X (lv_sub hl [1, 2, 3, 5, 6, 0] rfl) 
      · have h := inn h c18
        refine lv_sipush (v := (1000 : Int32)) hx hb dX10_rope_98 (by decide) ?_
        refine lv_iload hx hb dX10_rope_101 (lv_at hl 5 rfl) ?_
        refine lv_imul hx hb dX10_rope_103 ?_
        refine lv_iload hx hb dX10_rope_104 (lv_at hl 6 rfl) ?_
        refine lv_iadd hx hb dX10_rope_106 ?_
        refine lv_goto (tgt := 112) hx hb dX10_rope_107 (by decide) ?_
        exact kb_X10_rope_112 C hK44 hK55 h X (lv_sub hl [1, 2, 3, 5, 6, 0] rfl) 
set_option maxHeartbeats 4000000 in
set_option maxRecDepth 100000 in
theorem kl_X10_rope_55 {p : Program} {l : Launch} {e : Env} {s : State} {m : MethodId} {args : Array Value} {below : List Frame} {meth : Method} {c : Code} {g : GG} {ad : Nat → Nat} {res : (Int32 × ST)}  (C : CX kM g ad p s m args meth c cX10_rope (some Jvm.ClassFile.FieldType.int) 8 yX10_rope.cls (.code yX10_rope cX10_rope 8 (some Jvm.ClassFile.FieldType.int))) {K44 : Int32 → Int32 → Int32 → Int32 → ST → Option (Int32 × ST)} (hK44 : ∀ {v2 : Int32} {v3 : Int32} {v4 : Int32} {v5 : Int32} {S : ST} {H : Heap} {locs : List Loc} {ls : Array Slot}, K44 v2 v3 v4 v5 S = some res → WX kM g ad s S H locs → lv_has ls 8 [(0, .ref (ad 0)), (2, .int v2), (3, .int v3), (4, .int v4), (5, .int v5)] → W p l e rmX10_rope s m args below meth c H locs 0 0 (MQ below (QI kM g ad res (AA kM ad s.heap.size)) args s 0 0 (AA kM ad s.heap.size)) (F0 m 44 ls [])) : ∀ (n : Nat) {v2 : Int32} {v3 : Int32} {v4 : Int32} {v5 : Int32} {v6 : Int32} {S : ST} {H : Heap} {locs : List Loc} {ls : Array Slot}, (lp (fun _ _ _ _ _ _ => none) (b_X10_rope_55 K44)) n v2 v3 v4 v5 v6 S = some res → WX kM g ad s S H locs → lv_has ls 8 [(0, .ref (ad 0)), (2, .int v2), (3, .int v3), (4, .int v4), (5, .int v5), (6, .int v6)] → W p l e rmX10_rope s m args below meth c H locs 0 0 (MQ below (QI kM g ad res (AA kM ad s.heap.size)) args s 0 0 (AA kM ad s.heap.size)) (F0 m 55 ls []) := by
  intro n
  induction n with
  | zero =>
    intro v2 v3 v4 v5 v6 S H locs ls h
    cases (show (none : Option (Int32 × ST)) = some res from h)
  | succ n ih =>
    intro v2 v3 v4 v5 v6 S H locs ls h X hl 
    exact kb_X10_rope_55 C hK44 ih h X hl 
set_option maxHeartbeats 4000000 in
set_option maxRecDepth 100000 in
theorem kb_X10_rope_44 {p : Program} {l : Launch} {e : Env} {s : State} {m : MethodId} {args : Array Value} {below : List Frame} {meth : Method} {c : Code} {g : GG} {ad : Nat → Nat} {res : (Int32 × ST)} {S : ST} (C : CX kM g ad p s m args meth c cX10_rope (some Jvm.ClassFile.FieldType.int) 8 yX10_rope.cls (.code yX10_rope cX10_rope 8 (some Jvm.ClassFile.FieldType.int))) {K44 : Int32 → Int32 → Int32 → Int32 → ST → Option (Int32 × ST)} (hK44 : ∀ {v2 : Int32} {v3 : Int32} {v4 : Int32} {v5 : Int32} {S : ST} {H : Heap} {locs : List Loc} {ls : Array Slot}, K44 v2 v3 v4 v5 S = some res → WX kM g ad s S H locs → lv_has ls 8 [(0, .ref (ad 0)), (2, .int v2), (3, .int v3), (4, .int v4), (5, .int v5)] → W p l e rmX10_rope s m args below meth c H locs 0 0 (MQ below (QI kM g ad res (AA kM ad s.heap.size)) args s 0 0 (AA kM ad s.heap.size)) (F0 m 44 ls [])) {v2 : Int32} {v3 : Int32} {v4 : Int32} {v5 : Int32}  {H : Heap} {locs : List Loc} {ls : Array Slot} (h : b_X10_rope_44 K44 v2 v3 v4 v5 S = some res) (X : WX kM g ad s S H locs) (hl : lv_has ls 8 [(0, .ref (ad 0)), (2, .int v2), (3, .int v3), (4, .int v4), (5, .int v5)])  : W p l e rmX10_rope s m args below meth c H locs 0 0 (MQ below (QI kM g ad res (AA kM ad s.heap.size)) args s 0 0 (AA kM ad s.heap.size)) (F0 m 44 ls []) := by
  have hx := C.1.1
  have hb := C.1.2.1
  have h : (if ((900 : Int32)) < v5 then (if v2 = 0 then (some (v4 / ((1000 : Int32)), S)) else (if v2 = ((1 : Int32)) then (some (v4 - v4 / ((1000 : Int32)) * ((1000 : Int32)), S)) else (some (v3, S)))) else (lp (fun _ _ _ _ _ _ => none) (b_X10_rope_55 K44) 1000 v2 v3 v4 v5 ((0 : Int32)) S) : Option (Int32 × ST)) = some res := h
  refine lv_iload hx hb dX10_rope_44 (lv_at hl 4 rfl) ?_
  refine lv_sipush (v := (900 : Int32)) hx hb dX10_rope_46 (by decide) ?_
  refine lv_icmp_gt (tgt := 139) hx hb dX10_rope_49 (by decide) (fun c7 => ?_) (fun c7 => ?_)
  · have h := ip h c7
    refine lv_iload_n hx hb dX10_rope_139 rfl (lv_at hl 1 rfl) ?_
    refine lv_if_ne (tgt := 152) hx hb dX10_rope_140 (by decide) (fun c8 => ?_) (fun c8 => ?_)
    · have h := inn h c8
      refine lv_iload_n hx hb dX10_rope_152 rfl (lv_at hl 1 rfl) ?_
      refine lv_iconst (v := (1 : Int32)) hx hb dX10_rope_153 (by decide) ?_
      refine lv_icmp_ne (tgt := 166) hx hb dX10_rope_154 (by decide) (fun c9 => ?_) (fun c9 => ?_)
      · have h := inn h c9
        refine lv_iload_n hx hb dX10_rope_166 rfl (lv_at hl 2 rfl) ?_
        exact rt_i C X rfl (Option.some.inj h) dX10_rope_167
      · have h := ip h c9
        refine lv_iload hx hb dX10_rope_157 (lv_at hl 3 rfl) ?_
        refine lv_sipush (v := (1000 : Int32)) hx hb dX10_rope_159 (by decide) ?_
        refine lv_irem hx hb dX10_rope_162 (by decide) ?_
        refine lv_goto (tgt := 167) hx hb dX10_rope_163 (by decide) ?_
        exact rt_i C X rfl (Option.some.inj h) dX10_rope_167
    · have h := ip h c8
      refine lv_iload hx hb dX10_rope_143 (lv_at hl 3 rfl) ?_
      refine lv_sipush (v := (1000 : Int32)) hx hb dX10_rope_145 (by decide) ?_
      refine lv_idiv hx hb dX10_rope_148 (by decide) ?_
      refine lv_goto (tgt := 167) hx hb dX10_rope_149 (by decide) ?_
      exact rt_i C X rfl (Option.some.inj h) dX10_rope_167
  · have h := inn h c7
    refine lv_iconst (v := (0 : Int32)) hx hb dX10_rope_52 (by decide) ?_
    refine lv_istore (lv' := [(6, .int ((0 : Int32))), (0, .ref (ad 0)), (2, .int v2), (3, .int v3), (4, .int v4), (5, .int v5)]) hx hb dX10_rope_53 hl (by decide) rfl (fun ls hl => ?_)
    exact kl_X10_rope_55 C hK44 _ h X (lv_sub hl [1, 2, 3, 4, 5, 0] rfl) 
set_option maxHeartbeats 4000000 in
set_option maxRecDepth 100000 in
theorem kl_X10_rope_44 {p : Program} {l : Launch} {e : Env} {s : State} {m : MethodId} {args : Array Value} {below : List Frame} {meth : Method} {c : Code} {g : GG} {ad : Nat → Nat} {res : (Int32 × ST)}  (C : CX kM g ad p s m args meth c cX10_rope (some Jvm.ClassFile.FieldType.int) 8 yX10_rope.cls (.code yX10_rope cX10_rope 8 (some Jvm.ClassFile.FieldType.int)))  : ∀ (n : Nat) {v2 : Int32} {v3 : Int32} {v4 : Int32} {v5 : Int32} {S : ST} {H : Heap} {locs : List Loc} {ls : Array Slot}, (lp (fun _ _ _ _ _ => none) (b_X10_rope_44)) n v2 v3 v4 v5 S = some res → WX kM g ad s S H locs → lv_has ls 8 [(0, .ref (ad 0)), (2, .int v2), (3, .int v3), (4, .int v4), (5, .int v5)] → W p l e rmX10_rope s m args below meth c H locs 0 0 (MQ below (QI kM g ad res (AA kM ad s.heap.size)) args s 0 0 (AA kM ad s.heap.size)) (F0 m 44 ls []) := by
  intro n
  induction n with
  | zero =>
    intro v2 v3 v4 v5 S H locs ls h
    cases (show (none : Option (Int32 × ST)) = some res from h)
  | succ n ih =>
    intro v2 v3 v4 v5 S H locs ls h X hl 
    exact kb_X10_rope_44 C ih h X hl 
set_option maxHeartbeats 4000000 in
set_option maxRecDepth 100000 in
theorem c_X10_rope (l : Launch) (g : GG) (ad : Nat → Nat) (S : ST) (sz : Nat) (a1 : Int32) (a2 : Int32)  {res : (Int32 × ST)} (h : f_X10_rope a1 a2 S = some res) : Met l yX10_rope (WS (.code yX10_rope cX10_rope 8 (some Jvm.ClassFile.FieldType.int))) rmX10_rope (va_Pc [.ref (ad 0), .int a1, .int a2] (PW kM g ad S sz)) (QI kM g ad res (AA kM ad sz)) 0 0 (AA kM ad sz) := by
  refine go_m (Qc := fun A => QI kM g ad res A) (by decide) (Nat.le_of_ble_eq_true rfl) (fun p e s m below meth c ls H locs C X hl => ?_)
  have hx := C.1.1
  have hb := C.1.2.1
  have hl : lv_has ls 8 [(0, .ref (ad 0)), (1, .int a1), (2, .int a2)] := hl
  have h : (bn1 (f_X10_isSwinger a1 S) fun r1 => if r1 = 0 then (some ((-1000000001 : Int32), S)) else (bn1 (f_X10_in (a2.toInt64) ((0 : Int64)) ((2 : Int64))) fun r3 => if r3 = 0 then (some ((-1000000002 : Int32), S)) else (bn1 (f_X10_useHand S) fun S5 => bn1 (f_X10_usePerson a1 S5) fun S6 => lp (fun _ _ _ _ _ => none) (b_X10_rope_44) 1000 a2 ((-1 : Int32)) ((0 : Int32)) ((100 : Int32)) S6)) : Option (Int32 × ST)) = some res := h
  refine lv_aload_n hx hb dX10_rope_0 rfl (lv_at hl 0 rfl) ?_
  refine lv_iload_n hx hb dX10_rope_1 rfl (lv_at hl 1 rfl) ?_
  obtain ⟨r1, qr1, h⟩ := bn1_s h
  refine kc_i X (res := (r1, S)) (rV (As := [.int a1]) (rest := []) (n := 1) (k := 0) C X (c_X10_isSwinger l g ad S _ a1  qr1) wd_1266 wd_1268 wd_47 wd_83 wd_1269 (by decide) (eM_0 g ad S) rfl rfl rfl (by decide +kernel) ⟨Nat.le_of_ble_eq_true rfl, Nat.le_of_ble_eq_true rfl⟩ rfl hl.1 (lv_room (Nat.le_of_ble_eq_true rfl)) dX10_rope_2) (fun H locs X => ?_)
  refine lv_if_ne (tgt := 11) hx hb dX10_rope_5 (by decide) (fun c2 => ?_) (fun c2 => ?_)
  · have h := inn h c2
    refine lv_iload_n hx hb dX10_rope_11 rfl (lv_at hl 2 rfl) ?_
    refine lv_i2l hx hb dX10_rope_12 rfl ?_
    refine lv_lconst (v := (0 : Int64)) hx hb dX10_rope_13 (by decide) ?_
    refine lv_ldc2 (v := (2 : Int64)) hx hb C.1.2.2.2.2.2.1 (C.1.2.2.2.2.2.2 _ (ws_in wd_1389)) dX10_rope_14 ?_
    obtain ⟨r3, qr3, h⟩ := bn1_s h
    refine kc_i X (res := (r3, S)) (rS (As := [.long (a2.toInt64), .long ((0 : Int64)), .long ((2 : Int64))]) (rest := []) (n := 3) C X (c_X10_in l g ad S _ (a2.toInt64) ((0 : Int64)) ((2 : Int64))  qr3) wd_1151 wd_1152 wd_83 wd_1153 rfl rfl (by decide +kernel) ⟨Nat.le_of_ble_eq_true rfl, Nat.le_of_ble_eq_true rfl⟩ rfl hl.1 (lv_room (Nat.le_of_ble_eq_true rfl)) dX10_rope_17) (fun H locs X => ?_)
    refine lv_if_ne (tgt := 26) hx hb dX10_rope_20 (by decide) (fun c4 => ?_) (fun c4 => ?_)
    · have h := inn h c4
      refine lv_aload_n hx hb dX10_rope_26 rfl (lv_at hl 0 rfl) ?_
      obtain ⟨S5, qS5, h⟩ := bn1_s h
      refine kc_v X (res := S5) (rV (As := []) (rest := []) (n := 0) (k := 0) C X (c_X10_useHand l g ad S _   qS5) wd_1306 wd_1308 wd_49 wd_83 wd_1309 (by decide) (eM_0 g ad S) rfl rfl rfl (by decide +kernel) ⟨Nat.le_of_ble_eq_true rfl, Nat.le_of_ble_eq_true rfl⟩ rfl hl.1 (lv_room (Nat.le_of_ble_eq_true rfl)) dX10_rope_27) (fun H locs X => ?_)
      refine lv_aload_n hx hb dX10_rope_30 rfl (lv_at hl 0 rfl) ?_
      refine lv_iload_n hx hb dX10_rope_31 rfl (lv_at hl 1 rfl) ?_
      obtain ⟨S6, qS6, h⟩ := bn1_s h
      refine kc_v X (res := S6) (rV (As := [.int a1]) (rest := []) (n := 1) (k := 0) C X (c_X10_usePerson l g ad S5 _ a1  qS6) wd_1310 wd_1312 wd_50 wd_83 wd_1313 (by decide) (eM_0 g ad S5) rfl rfl rfl (by decide +kernel) ⟨Nat.le_of_ble_eq_true rfl, Nat.le_of_ble_eq_true rfl⟩ rfl hl.1 (lv_room (Nat.le_of_ble_eq_true rfl)) dX10_rope_32) (fun H locs X => ?_)
      refine lv_iconst (v := (-1 : Int32)) hx hb dX10_rope_35 (by decide) ?_
      refine lv_istore_n (lv' := [(3, .int ((-1 : Int32))), (0, .ref (ad 0)), (1, .int a1), (2, .int a2)]) hx hb dX10_rope_36 rfl hl (by decide) rfl (fun ls hl => ?_)
      refine lv_iconst (v := (0 : Int32)) hx hb dX10_rope_37 (by decide) ?_
      refine lv_istore (lv' := [(4, .int ((0 : Int32))), (3, .int ((-1 : Int32))), (0, .ref (ad 0)), (1, .int a1), (2, .int a2)]) hx hb dX10_rope_38 hl (by decide) rfl (fun ls hl => ?_)
      refine lv_bipush (v := (100 : Int32)) hx hb dX10_rope_40 (by decide) ?_
      refine lv_istore (lv' := [(5, .int ((100 : Int32))), (4, .int ((0 : Int32))), (3, .int ((-1 : Int32))), (0, .ref (ad 0)), (1, .int a1), (2, .int a2)]) hx hb dX10_rope_42 hl (by decide) rfl (fun ls hl => ?_)
      exact kl_X10_rope_44 C _ h X (lv_sub hl [3, 5, 2, 1, 0] rfl) 
    · have h := ip h c4
      refine lv_ldc (v := (-1000000002 : Int32)) hx hb C.1.2.2.2.2.2.1 (C.1.2.2.2.2.2.2 _ (ws_in wd_1154)) dX10_rope_23 ?_
      exact rt_i C X rfl (Option.some.inj h) dX10_rope_25
  · have h := ip h c2
    refine lv_ldc (v := (-1000000001 : Int32)) hx hb C.1.2.2.2.2.2.1 (C.1.2.2.2.2.2.2 _ (ws_in wd_1249)) dX10_rope_8 ?_
    exact rt_i C X rfl (Option.some.inj h) dX10_rope_10

def rmX10_turn : Room := { frames := 6, cells := 0, slots := 0, locals := 144 }
def b_X10_turn_28 (K28 : Int32 → Int32 → ST → Option (Int32 × ST)) (v2 : Int32) (v3 : Int32) (S : ST) : Option (Int32 × ST) :=
  if ((36 : Int32)) < v3 then (some ((-1 : Int32), S)) else (nm (su S 0 28 v3) fun S7 => bn1 (f_X10_letGo v2 S7) fun S8 => if (S8.1 0 33) = ((2 : Int32)) then (some (v3, S8)) else (nm (v3 + (1 : Int32)) fun x10 => K28 v2 x10 S8))
def f_X10_turn (a1 : Int32) (a2 : Int32) (S : ST) : Option (Int32 × ST) :=
  bn1 (f_X10_isSwinger a1 S) fun r1 => if r1 = 0 then (some ((-1000000001 : Int32), S)) else (bn1 (f_X10_isTime a2) fun r3 => if r3 = 0 then (some ((-1000000002 : Int32), S)) else (bn1 (f_X10_ready a1 S) fun S5 => lp (fun _ _ _ => none) (b_X10_turn_28) 1000 a2 ((0 : Int32)) S5))
set_option maxHeartbeats 4000000 in
set_option maxRecDepth 100000 in
theorem kb_X10_turn_28 {p : Program} {l : Launch} {e : Env} {s : State} {m : MethodId} {args : Array Value} {below : List Frame} {meth : Method} {c : Code} {g : GG} {ad : Nat → Nat} {res : (Int32 × ST)} {S : ST} (C : CX kM g ad p s m args meth c cX10_turn (some Jvm.ClassFile.FieldType.int) 4 yX10_turn.cls (.code yX10_turn cX10_turn 4 (some Jvm.ClassFile.FieldType.int))) {K28 : Int32 → Int32 → ST → Option (Int32 × ST)} (hK28 : ∀ {v2 : Int32} {v3 : Int32} {S : ST} {H : Heap} {locs : List Loc} {ls : Array Slot}, K28 v2 v3 S = some res → WX kM g ad s S H locs → lv_has ls 4 [(0, .ref (ad 0)), (2, .int v2), (3, .int v3)] → W p l e rmX10_turn s m args below meth c H locs 0 0 (MQ below (QI kM g ad res (AA kM ad s.heap.size)) args s 0 0 (AA kM ad s.heap.size)) (F0 m 28 ls [])) {v2 : Int32} {v3 : Int32}  {H : Heap} {locs : List Loc} {ls : Array Slot} (h : b_X10_turn_28 K28 v2 v3 S = some res) (X : WX kM g ad s S H locs) (hl : lv_has ls 4 [(0, .ref (ad 0)), (2, .int v2), (3, .int v3)])  : W p l e rmX10_turn s m args below meth c H locs 0 0 (MQ below (QI kM g ad res (AA kM ad s.heap.size)) args s 0 0 (AA kM ad s.heap.size)) (F0 m 28 ls []) := by
  have hx := C.1.1
  have hb := C.1.2.1
  have h : (if ((36 : Int32)) < v3 then (some ((-1 : Int32), S)) else (nm (su S 0 28 v3) fun S7 => bn1 (f_X10_letGo v2 S7) fun S8 => if (S8.1 0 33) = ((2 : Int32)) then (some (v3, S8)) else (nm (v3 + (1 : Int32)) fun x10 => K28 v2 x10 S8)) : Option (Int32 × ST)) = some res := h
  refine lv_iload_n hx hb dX10_turn_28 rfl (lv_at hl 2 rfl) ?_
  refine lv_bipush (v := (36 : Int32)) hx hb dX10_turn_29 (by decide) ?_
  refine lv_icmp_gt (tgt := 60) hx hb dX10_turn_31 (by decide) (fun c6 => ?_) (fun c6 => ?_)
  · have h := ip h c6
    refine lv_iconst (v := (-1 : Int32)) hx hb dX10_turn_60 (by decide) ?_
    exact rt_i C X rfl (Option.some.inj h) dX10_turn_61
  · have h := inn h c6
    refine lv_aload_n hx hb dX10_turn_34 rfl (lv_at hl 0 rfl) ?_
    refine lv_iload_n hx hb dX10_turn_35 rfl (lv_at hl 2 rfl) ?_
    obtain ⟨S7, eS7, h⟩ := nm_s h
    refine g_put (S' := S7) C X inT10 tyX10 tyX10_ok nmX10 0 (by decide) (eM_0 g ad S) rfl 28 (by decide) wd_1034 rfl (by rfl) rfl (Nat.le_of_ble_eq_true rfl) (by subst eS7; rfl) (by subst eS7; exact fun i hi => ent_offu hi) dX10_turn_36 (fun H locs X => ?_)
    refine lv_aload_n hx hb dX10_turn_39 rfl (lv_at hl 0 rfl) ?_
    refine lv_iload_n hx hb dX10_turn_40 rfl (lv_at hl 1 rfl) ?_
    obtain ⟨S8, qS8, h⟩ := bn1_s h
    refine kc_v X (res := S8) (rV (As := [.int v2]) (rest := []) (n := 1) (k := 0) C X (c_X10_letGo l g ad S7 _ v2  qS8) wd_1346 wd_1348 wd_56 wd_83 wd_1349 (by decide) (eM_0 g ad S7) rfl rfl rfl (by decide +kernel) ⟨Nat.le_of_ble_eq_true rfl, Nat.le_of_ble_eq_true rfl⟩ rfl hl.1 (lv_room (Nat.le_of_ble_eq_true rfl)) dX10_turn_41) (fun H locs X => ?_)
    refine lv_aload_n hx hb dX10_turn_44 rfl (lv_at hl 0 rfl) ?_
    refine g_get C X inT10 0 (by decide) (eM_0 g ad S8) rfl 33 (by decide) wd_1039 (v := .int (S8.1 0 33)) rfl dX10_turn_45 ?_
    refine lv_iconst (v := (2 : Int32)) hx hb dX10_turn_48 (by decide) ?_
    refine lv_icmp_ne (tgt := 54) hx hb dX10_turn_49 (by decide) (fun c9 => ?_) (fun c9 => ?_)
    · have h := inn h c9
      obtain ⟨x10, ex10, h⟩ := nm_s h
      refine lv_iinc (v := x10) (lv' := [(3, .int x10), (0, .ref (ad 0)), (2, .int v2)]) hx hb dX10_turn_54 hl (k := 2) rfl (by rw [ex10]; rfl) (by decide) rfl (fun ls hl => ?_)
      refine lv_goto (tgt := 28) hx hb dX10_turn_57 (by decide) ?_
      exact hK28 h X (lv_sub hl [1, 2, 0] rfl) 
    · have h := ip h c9
      refine lv_iload_n hx hb dX10_turn_52 rfl (lv_at hl 2 rfl) ?_
      exact rt_i C X rfl (Option.some.inj h) dX10_turn_53
set_option maxHeartbeats 4000000 in
set_option maxRecDepth 100000 in
theorem kl_X10_turn_28 {p : Program} {l : Launch} {e : Env} {s : State} {m : MethodId} {args : Array Value} {below : List Frame} {meth : Method} {c : Code} {g : GG} {ad : Nat → Nat} {res : (Int32 × ST)}  (C : CX kM g ad p s m args meth c cX10_turn (some Jvm.ClassFile.FieldType.int) 4 yX10_turn.cls (.code yX10_turn cX10_turn 4 (some Jvm.ClassFile.FieldType.int)))  : ∀ (n : Nat) {v2 : Int32} {v3 : Int32} {S : ST} {H : Heap} {locs : List Loc} {ls : Array Slot}, (lp (fun _ _ _ => none) (b_X10_turn_28)) n v2 v3 S = some res → WX kM g ad s S H locs → lv_has ls 4 [(0, .ref (ad 0)), (2, .int v2), (3, .int v3)] → W p l e rmX10_turn s m args below meth c H locs 0 0 (MQ below (QI kM g ad res (AA kM ad s.heap.size)) args s 0 0 (AA kM ad s.heap.size)) (F0 m 28 ls []) := by
  intro n
  induction n with
  | zero =>
    intro v2 v3 S H locs ls h
    cases (show (none : Option (Int32 × ST)) = some res from h)
  | succ n ih =>
    intro v2 v3 S H locs ls h X hl 
    exact kb_X10_turn_28 C ih h X hl 
set_option maxHeartbeats 4000000 in
set_option maxRecDepth 100000 in
theorem c_X10_turn (l : Launch) (g : GG) (ad : Nat → Nat) (S : ST) (sz : Nat) (a1 : Int32) (a2 : Int32)  {res : (Int32 × ST)} (h : f_X10_turn a1 a2 S = some res) : Met l yX10_turn (WS (.code yX10_turn cX10_turn 4 (some Jvm.ClassFile.FieldType.int))) rmX10_turn (va_Pc [.ref (ad 0), .int a1, .int a2] (PW kM g ad S sz)) (QI kM g ad res (AA kM ad sz)) 0 0 (AA kM ad sz) := by
  refine go_m (Qc := fun A => QI kM g ad res A) (by decide) (Nat.le_of_ble_eq_true rfl) (fun p e s m below meth c ls H locs C X hl => ?_)
  have hx := C.1.1
  have hb := C.1.2.1
  have hl : lv_has ls 4 [(0, .ref (ad 0)), (1, .int a1), (2, .int a2)] := hl
  have h : (bn1 (f_X10_isSwinger a1 S) fun r1 => if r1 = 0 then (some ((-1000000001 : Int32), S)) else (bn1 (f_X10_isTime a2) fun r3 => if r3 = 0 then (some ((-1000000002 : Int32), S)) else (bn1 (f_X10_ready a1 S) fun S5 => lp (fun _ _ _ => none) (b_X10_turn_28) 1000 a2 ((0 : Int32)) S5)) : Option (Int32 × ST)) = some res := h
  refine lv_aload_n hx hb dX10_turn_0 rfl (lv_at hl 0 rfl) ?_
  refine lv_iload_n hx hb dX10_turn_1 rfl (lv_at hl 1 rfl) ?_
  obtain ⟨r1, qr1, h⟩ := bn1_s h
  refine kc_i X (res := (r1, S)) (rV (As := [.int a1]) (rest := []) (n := 1) (k := 0) C X (c_X10_isSwinger l g ad S _ a1  qr1) wd_1266 wd_1268 wd_47 wd_83 wd_1269 (by decide) (eM_0 g ad S) rfl rfl rfl (by decide +kernel) ⟨Nat.le_of_ble_eq_true rfl, Nat.le_of_ble_eq_true rfl⟩ rfl hl.1 (lv_room (Nat.le_of_ble_eq_true rfl)) dX10_turn_2) (fun H locs X => ?_)
  refine lv_if_ne (tgt := 11) hx hb dX10_turn_5 (by decide) (fun c2 => ?_) (fun c2 => ?_)
  · have h := inn h c2
    refine lv_iload_n hx hb dX10_turn_11 rfl (lv_at hl 2 rfl) ?_
    obtain ⟨r3, qr3, h⟩ := bn1_s h
    refine kc_i X (res := (r3, S)) (rS (As := [.int a2]) (rest := []) (n := 1) C X (c_X10_isTime l g ad S _ a2  qr3) wd_1339 wd_1340 wd_83 wd_1341 rfl rfl (by decide +kernel) ⟨Nat.le_of_ble_eq_true rfl, Nat.le_of_ble_eq_true rfl⟩ rfl hl.1 (lv_room (Nat.le_of_ble_eq_true rfl)) dX10_turn_12) (fun H locs X => ?_)
    refine lv_if_ne (tgt := 21) hx hb dX10_turn_15 (by decide) (fun c4 => ?_) (fun c4 => ?_)
    · have h := inn h c4
      refine lv_aload_n hx hb dX10_turn_21 rfl (lv_at hl 0 rfl) ?_
      refine lv_iload_n hx hb dX10_turn_22 rfl (lv_at hl 1 rfl) ?_
      obtain ⟨S5, qS5, h⟩ := bn1_s h
      refine kc_v X (res := S5) (rV (As := [.int a1]) (rest := []) (n := 1) (k := 0) C X (c_X10_ready l g ad S _ a1  qS5) wd_1342 wd_1344 wd_55 wd_83 wd_1345 (by decide) (eM_0 g ad S) rfl rfl rfl (by decide +kernel) ⟨Nat.le_of_ble_eq_true rfl, Nat.le_of_ble_eq_true rfl⟩ rfl hl.1 (lv_room (Nat.le_of_ble_eq_true rfl)) dX10_turn_23) (fun H locs X => ?_)
      refine lv_iconst (v := (0 : Int32)) hx hb dX10_turn_26 (by decide) ?_
      refine lv_istore_n (lv' := [(3, .int ((0 : Int32))), (0, .ref (ad 0)), (1, .int a1), (2, .int a2)]) hx hb dX10_turn_27 rfl hl (by decide) rfl (fun ls hl => ?_)
      exact kl_X10_turn_28 C _ h X (lv_sub hl [1, 3, 0] rfl) 
    · have h := ip h c4
      refine lv_ldc (v := (-1000000002 : Int32)) hx hb C.1.2.2.2.2.2.1 (C.1.2.2.2.2.2.2 _ (ws_in wd_1154)) dX10_turn_18 ?_
      exact rt_i C X rfl (Option.some.inj h) dX10_turn_20
  · have h := ip h c2
    refine lv_ldc (v := (-1000000001 : Int32)) hx hb C.1.2.2.2.2.2.1 (C.1.2.2.2.2.2.2 _ (ws_in wd_1249)) dX10_turn_8 ?_
    exact rt_i C X rfl (Option.some.inj h) dX10_turn_10

def rmX10_film : Room := { frames := 5, cells := 0, slots := 0, locals := 110 }
def b_X10_film_113 (K49 : Int32 → Int32 → Int32 → Int32 → Int32 → ST → Option (Int32 × ST)) (v2 : Int32) (v3 : Int32) (v4 : Int32) (v5 : Int32) (v6 : Int32) (v7 : Int32) (v8 : Int32) (S : ST) : Option (Int32 × ST) :=
  if v7 = 0 then (nm (v5 + (1 : Int32)) fun x16 => K49 v2 v3 v8 v4 x16 S) else (nm (v5 + (1 : Int32)) fun x17 => K49 v2 v3 v8 v6 x17 S)
def b_X10_film_100 (K49 : Int32 → Int32 → Int32 → Int32 → Int32 → ST → Option (Int32 × ST)) (v2 : Int32) (v3 : Int32) (v4 : Int32) (v5 : Int32) (v6 : Int32) (v7 : Int32) (v8 : Int32) (S : ST) : Option (Int32 × ST) :=
  if v8 = 0 then (b_X10_film_113 K49 v2 v3 v5 v6 v7 v8 v4 S) else (b_X10_film_113 K49 v2 v3 v5 v6 v7 v8 v6 S)
def b_X10_film_49 (K49 : Int32 → Int32 → Int32 → Int32 → Int32 → ST → Option (Int32 × ST)) (v2 : Int32) (v3 : Int32) (v4 : Int32) (v5 : Int32) (v6 : Int32) (S : ST) : Option (Int32 × ST) :=
  if ((600 : Int32)) < v6 then (some (v4, S)) else (nm (su S 0 22 v6) fun S9 => bn1 (f_X10_swing S9) fun S10 => chk (ib v2 201) (bn1 (f_X10_size (((S10.1 12 v2.toNatClampNeg) / ((1000 : Int32))) - v3)) fun r12 => if v4 < 0 then (b_X10_film_100 K49 v2 v3 v4 v5 v6 r12 ((1 : Int32)) S10) else (if v5 ≤ r12 then (b_X10_film_100 K49 v2 v3 v4 v5 v6 r12 ((0 : Int32)) S10) else (b_X10_film_100 K49 v2 v3 v4 v5 v6 r12 ((1 : Int32)) S10))))
def f_X10_film (a1 : Int32) (a2 : Int32) (S : ST) : Option (Int32 × ST) :=
  bn1 (f_X10_isTime a1) fun r1 => if r1 = 0 then (some ((-1000000002 : Int32), S)) else (bn1 (f_X10_in (a2.toInt64) ((-180 : Int64)) ((180 : Int64))) fun r3 => if r3 = 0 then (some ((-1000000002 : Int32), S)) else (bn1 (f_X10_useHand S) fun S5 => nm (su S5 0 24 ((10 : Int32))) fun S6 => nm (su S6 0 26 ((300 : Int32))) fun S7 => lp (fun _ _ _ _ _ _ => none) (b_X10_film_49) 1000 a1 a2 ((-1 : Int32)) ((0 : Int32)) ((0 : Int32)) S7))
set_option maxHeartbeats 4000000 in
set_option maxRecDepth 100000 in
theorem kb_X10_film_113 {p : Program} {l : Launch} {e : Env} {s : State} {m : MethodId} {args : Array Value} {below : List Frame} {meth : Method} {c : Code} {g : GG} {ad : Nat → Nat} {res : (Int32 × ST)} {S : ST} (C : CX kM g ad p s m args meth c cX10_film (some Jvm.ClassFile.FieldType.int) 8 yX10_film.cls (.code yX10_film cX10_film 8 (some Jvm.ClassFile.FieldType.int))) {K49 : Int32 → Int32 → Int32 → Int32 → Int32 → ST → Option (Int32 × ST)} (hK49 : ∀ {v2 : Int32} {v3 : Int32} {v4 : Int32} {v5 : Int32} {v6 : Int32} {S : ST} {H : Heap} {locs : List Loc} {ls : Array Slot}, K49 v2 v3 v4 v5 v6 S = some res → WX kM g ad s S H locs → lv_has ls 8 [(0, .ref (ad 0)), (1, .int v2), (2, .int v3), (3, .int v4), (4, .int v5), (5, .int v6)] → W p l e rmX10_film s m args below meth c H locs 0 0 (MQ below (QI kM g ad res (AA kM ad s.heap.size)) args s 0 0 (AA kM ad s.heap.size)) (F0 m 49 ls [])) {v2 : Int32} {v3 : Int32} {v4 : Int32} {v5 : Int32} {v6 : Int32} {v7 : Int32} {v8 : Int32}  {H : Heap} {locs : List Loc} {ls : Array Slot} (h : b_X10_film_113 K49 v2 v3 v4 v5 v6 v7 v8 S = some res) (X : WX kM g ad s S H locs) (hl : lv_has ls 8 [(0, .ref (ad 0)), (1, .int v2), (2, .int v3), (4, .int v4), (5, .int v5), (6, .int v6), (7, .int v7)])  : W p l e rmX10_film s m args below meth c H locs 0 0 (MQ below (QI kM g ad res (AA kM ad s.heap.size)) args s 0 0 (AA kM ad s.heap.size)) (F0 m 113 ls [.int v8]) := by
  have hx := C.1.1
  have hb := C.1.2.1
  have h : (if v7 = 0 then (nm (v5 + (1 : Int32)) fun x16 => K49 v2 v3 v8 v4 x16 S) else (nm (v5 + (1 : Int32)) fun x17 => K49 v2 v3 v8 v6 x17 S) : Option (Int32 × ST)) = some res := h
  refine lv_istore_n (lv' := [(3, .int v8), (0, .ref (ad 0)), (1, .int v2), (2, .int v3), (4, .int v4), (5, .int v5), (6, .int v6), (7, .int v7)]) hx hb dX10_film_113 rfl hl (by decide) rfl (fun ls hl => ?_)
  refine lv_iload hx hb dX10_film_114 (lv_at hl 7 rfl) ?_
  refine lv_if_eq (tgt := 124) hx hb dX10_film_116 (by decide) (fun c15 => ?_) (fun c15 => ?_)
  · have h := ip h c15
    refine lv_iload hx hb dX10_film_124 (lv_at hl 4 rfl) ?_
    refine lv_istore (lv' := [(4, .int v4), (3, .int v8), (0, .ref (ad 0)), (1, .int v2), (2, .int v3), (5, .int v5), (6, .int v6), (7, .int v7)]) hx hb dX10_film_126 hl (by decide) rfl (fun ls hl => ?_)
    obtain ⟨x16, ex16, h⟩ := nm_s h
    refine lv_iinc (v := x16) (lv' := [(5, .int x16), (4, .int v4), (3, .int v8), (0, .ref (ad 0)), (1, .int v2), (2, .int v3), (6, .int v6), (7, .int v7)]) hx hb dX10_film_128 hl (k := 5) rfl (by rw [ex16]; rfl) (by decide) rfl (fun ls hl => ?_)
    refine lv_goto (tgt := 49) hx hb dX10_film_131 (by decide) ?_
    exact hK49 h X (lv_sub hl [3, 4, 5, 2, 1, 0] rfl) 
  · have h := inn h c15
    refine lv_iload hx hb dX10_film_119 (lv_at hl 6 rfl) ?_
    refine lv_goto (tgt := 126) hx hb dX10_film_121 (by decide) ?_
    refine lv_istore (lv' := [(4, .int v6), (3, .int v8), (0, .ref (ad 0)), (1, .int v2), (2, .int v3), (5, .int v5), (6, .int v6), (7, .int v7)]) hx hb dX10_film_126 hl (by decide) rfl (fun ls hl => ?_)
    obtain ⟨x17, ex17, h⟩ := nm_s h
    refine lv_iinc (v := x17) (lv' := [(5, .int x17), (4, .int v6), (3, .int v8), (0, .ref (ad 0)), (1, .int v2), (2, .int v3), (6, .int v6), (7, .int v7)]) hx hb dX10_film_128 hl (k := 5) rfl (by rw [ex17]; rfl) (by decide) rfl (fun ls hl => ?_)
    refine lv_goto (tgt := 49) hx hb dX10_film_131 (by decide) ?_
    exact hK49 h X (lv_sub hl [3, 4, 5, 2, 1, 0] rfl) 
set_option maxHeartbeats 4000000 in
set_option maxRecDepth 100000 in
theorem kb_X10_film_100 {p : Program} {l : Launch} {e : Env} {s : State} {m : MethodId} {args : Array Value} {below : List Frame} {meth : Method} {c : Code} {g : GG} {ad : Nat → Nat} {res : (Int32 × ST)} {S : ST} (C : CX kM g ad p s m args meth c cX10_film (some Jvm.ClassFile.FieldType.int) 8 yX10_film.cls (.code yX10_film cX10_film 8 (some Jvm.ClassFile.FieldType.int))) {K49 : Int32 → Int32 → Int32 → Int32 → Int32 → ST → Option (Int32 × ST)} (hK49 : ∀ {v2 : Int32} {v3 : Int32} {v4 : Int32} {v5 : Int32} {v6 : Int32} {S : ST} {H : Heap} {locs : List Loc} {ls : Array Slot}, K49 v2 v3 v4 v5 v6 S = some res → WX kM g ad s S H locs → lv_has ls 8 [(0, .ref (ad 0)), (1, .int v2), (2, .int v3), (3, .int v4), (4, .int v5), (5, .int v6)] → W p l e rmX10_film s m args below meth c H locs 0 0 (MQ below (QI kM g ad res (AA kM ad s.heap.size)) args s 0 0 (AA kM ad s.heap.size)) (F0 m 49 ls [])) {v2 : Int32} {v3 : Int32} {v4 : Int32} {v5 : Int32} {v6 : Int32} {v7 : Int32} {v8 : Int32}  {H : Heap} {locs : List Loc} {ls : Array Slot} (h : b_X10_film_100 K49 v2 v3 v4 v5 v6 v7 v8 S = some res) (X : WX kM g ad s S H locs) (hl : lv_has ls 8 [(0, .ref (ad 0)), (1, .int v2), (2, .int v3), (3, .int v4), (4, .int v5), (5, .int v6), (6, .int v7)])  : W p l e rmX10_film s m args below meth c H locs 0 0 (MQ below (QI kM g ad res (AA kM ad s.heap.size)) args s 0 0 (AA kM ad s.heap.size)) (F0 m 100 ls [.int v8]) := by
  have hx := C.1.1
  have hb := C.1.2.1
  have h : (if v8 = 0 then (b_X10_film_113 K49 v2 v3 v5 v6 v7 v8 v4 S) else (b_X10_film_113 K49 v2 v3 v5 v6 v7 v8 v6 S) : Option (Int32 × ST)) = some res := h
  refine lv_istore (lv' := [(7, .int v8), (0, .ref (ad 0)), (1, .int v2), (2, .int v3), (3, .int v4), (4, .int v5), (5, .int v6), (6, .int v7)]) hx hb dX10_film_100 hl (by decide) rfl (fun ls hl => ?_)
  refine lv_iload hx hb dX10_film_102 (lv_at hl 0 rfl) ?_
  refine lv_if_eq (tgt := 112) hx hb dX10_film_104 (by decide) (fun c14 => ?_) (fun c14 => ?_)
  · have h := ip h c14
    refine lv_iload_n hx hb dX10_film_112 rfl (lv_at hl 4 rfl) ?_
    exact kb_X10_film_113 C hK49 h X (lv_sub hl [1, 2, 3, 5, 6, 7, 0] rfl) 
  · have h := inn h c14
    refine lv_iload hx hb dX10_film_107 (lv_at hl 6 rfl) ?_
    refine lv_goto (tgt := 113) hx hb dX10_film_109 (by decide) ?_
    exact kb_X10_film_113 C hK49 h X (lv_sub hl [1, 2, 3, 5, 6, 7, 0] rfl) 
set_option maxHeartbeats 4000000 in
set_option maxRecDepth 100000 in
theorem kb_X10_film_49 {p : Program} {l : Launch} {e : Env} {s : State} {m : MethodId} {args : Array Value} {below : List Frame} {meth : Method} {c : Code} {g : GG} {ad : Nat → Nat} {res : (Int32 × ST)} {S : ST} (C : CX kM g ad p s m args meth c cX10_film (some Jvm.ClassFile.FieldType.int) 8 yX10_film.cls (.code yX10_film cX10_film 8 (some Jvm.ClassFile.FieldType.int))) {K49 : Int32 → Int32 → Int32 → Int32 → Int32 → ST → Option (Int32 × ST)} (hK49 : ∀ {v2 : Int32} {v3 : Int32} {v4 : Int32} {v5 : Int32} {v6 : Int32} {S : ST} {H : Heap} {locs : List Loc} {ls : Array Slot}, K49 v2 v3 v4 v5 v6 S = some res → WX kM g ad s S H locs → lv_has ls 8 [(0, .ref (ad 0)), (1, .int v2), (2, .int v3), (3, .int v4), (4, .int v5), (5, .int v6)] → W p l e rmX10_film s m args below meth c H locs 0 0 (MQ below (QI kM g ad res (AA kM ad s.heap.size)) args s 0 0 (AA kM ad s.heap.size)) (F0 m 49 ls [])) {v2 : Int32} {v3 : Int32} {v4 : Int32} {v5 : Int32} {v6 : Int32}  {H : Heap} {locs : List Loc} {ls : Array Slot} (h : b_X10_film_49 K49 v2 v3 v4 v5 v6 S = some res) (X : WX kM g ad s S H locs) (hl : lv_has ls 8 [(0, .ref (ad 0)), (1, .int v2), (2, .int v3), (3, .int v4), (4, .int v5), (5, .int v6)])  : W p l e rmX10_film s m args below meth c H locs 0 0 (MQ below (QI kM g ad res (AA kM ad s.heap.size)) args s 0 0 (AA kM ad s.heap.size)) (F0 m 49 ls []) := by
  have hx := C.1.1
  have hb := C.1.2.1
  have h : (if ((600 : Int32)) < v6 then (some (v4, S)) else (nm (su S 0 22 v6) fun S9 => bn1 (f_X10_swing S9) fun S10 => chk (ib v2 201) (bn1 (f_X10_size (((S10.1 12 v2.toNatClampNeg) / ((1000 : Int32))) - v3)) fun r12 => if v4 < 0 then (b_X10_film_100 K49 v2 v3 v4 v5 v6 r12 ((1 : Int32)) S10) else (if v5 ≤ r12 then (b_X10_film_100 K49 v2 v3 v4 v5 v6 r12 ((0 : Int32)) S10) else (b_X10_film_100 K49 v2 v3 v4 v5 v6 r12 ((1 : Int32)) S10)))) : Option (Int32 × ST)) = some res := h
  refine lv_iload hx hb dX10_film_49 (lv_at hl 5 rfl) ?_
  refine lv_sipush (v := (600 : Int32)) hx hb dX10_film_51 (by decide) ?_
  refine lv_icmp_gt (tgt := 134) hx hb dX10_film_54 (by decide) (fun c8 => ?_) (fun c8 => ?_)
  · have h := ip h c8
    refine lv_iload_n hx hb dX10_film_134 rfl (lv_at hl 3 rfl) ?_
    exact rt_i C X rfl (Option.some.inj h) dX10_film_135
  · have h := inn h c8
    refine lv_aload_n hx hb dX10_film_57 rfl (lv_at hl 0 rfl) ?_
    refine lv_iload hx hb dX10_film_58 (lv_at hl 5 rfl) ?_
    obtain ⟨S9, eS9, h⟩ := nm_s h
    refine g_put (S' := S9) C X inT10 tyX10 tyX10_ok nmX10 0 (by decide) (eM_0 g ad S) rfl 22 (by decide) wd_1028 rfl (by rfl) rfl (Nat.le_of_ble_eq_true rfl) (by subst eS9; rfl) (by subst eS9; exact fun i hi => ent_offu hi) dX10_film_60 (fun H locs X => ?_)
    refine lv_aload_n hx hb dX10_film_63 rfl (lv_at hl 0 rfl) ?_
    obtain ⟨S10, qS10, h⟩ := bn1_s h
    refine kc_v X (res := S10) (rV (As := []) (rest := []) (n := 0) (k := 0) C X (c_X10_swing l g ad S9 _   qS10) wd_1314 wd_1316 wd_51 wd_83 wd_1317 (by decide) (eM_0 g ad S9) rfl rfl rfl (by decide +kernel) ⟨Nat.le_of_ble_eq_true rfl, Nat.le_of_ble_eq_true rfl⟩ rfl hl.1 (lv_room (Nat.le_of_ble_eq_true rfl)) dX10_film_64) (fun H locs X => ?_)
    refine lv_aload_n hx hb dX10_film_67 rfl (lv_at hl 0 rfl) ?_
    refine g_get C X inT10 0 (by decide) (eM_0 g ad S10) rfl 29 (by decide) wd_1035 (v := .ref (ad 12)) rfl dX10_film_68 ?_
    refine lv_iload_n hx hb dX10_film_71 rfl (lv_at hl 1 rfl) ?_
    obtain ⟨k11, h⟩ := chk_s h
    refine g_iald C X 12 (by decide) (eM_12 g ad S10) k11 dX10_film_72 ?_
    refine lv_sipush (v := (1000 : Int32)) hx hb dX10_film_73 (by decide) ?_
    refine lv_idiv hx hb dX10_film_76 (by decide) ?_
    refine lv_iload_n hx hb dX10_film_77 rfl (lv_at hl 2 rfl) ?_
    refine lv_isub hx hb dX10_film_78 ?_
    obtain ⟨r12, qr12, h⟩ := bn1_s h
    refine kc_i X (res := (r12, S10)) (rS (As := [.int (((S10.1 12 v2.toNatClampNeg) / ((1000 : Int32))) - v3)]) (rest := []) (n := 1) C X (c_X10_size l g ad S10 _ (((S10.1 12 v2.toNatClampNeg) / ((1000 : Int32))) - v3)  qr12) wd_1295 wd_1296 wd_83 wd_1297 rfl rfl (by decide +kernel) ⟨Nat.le_of_ble_eq_true rfl, Nat.le_of_ble_eq_true rfl⟩ rfl hl.1 (lv_room (Nat.le_of_ble_eq_true rfl)) dX10_film_79) (fun H locs X => ?_)
    refine lv_istore (lv' := [(6, .int r12), (0, .ref (ad 0)), (1, .int v2), (2, .int v3), (3, .int v4), (4, .int v5), (5, .int v6)]) hx hb dX10_film_82 hl (by decide) rfl (fun ls hl => ?_)
    refine lv_iload_n hx hb dX10_film_84 rfl (lv_at hl 4 rfl) ?_
    refine lv_if_lt (tgt := 95) hx hb dX10_film_85 (by decide) (fun c13 => ?_) (fun c13 => ?_)
    · have h := ip h c13
      refine lv_iconst (v := (1 : Int32)) hx hb dX10_film_95 (by decide) ?_
      refine lv_goto (tgt := 100) hx hb dX10_film_96 (by decide) ?_
      exact kb_X10_film_100 C hK49 h X (lv_sub hl [1, 2, 3, 4, 5, 6, 0] rfl) 
    · have h := inn h c13
      refine lv_iload hx hb dX10_film_88 (lv_at hl 0 rfl) ?_
      refine lv_iload hx hb dX10_film_90 (lv_at hl 5 rfl) ?_
      refine lv_icmp_ge (tgt := 99) hx hb dX10_film_92 (by decide) (fun c18 => ?_) (fun c18 => ?_)
      · have h := ip h c18
        refine lv_iconst (v := (0 : Int32)) hx hb dX10_film_99 (by decide) ?_
        exact kb_X10_film_100 C hK49 h X (lv_sub hl [1, 2, 3, 4, 5, 6, 0] rfl) 
      · have h := inn h c18
        refine lv_iconst (v := (1 : Int32)) hx hb dX10_film_95 (by decide) ?_
        refine lv_goto (tgt := 100) hx hb dX10_film_96 (by decide) ?_
        exact kb_X10_film_100 C hK49 h X (lv_sub hl [1, 2, 3, 4, 5, 6, 0] rfl) 
set_option maxHeartbeats 4000000 in
set_option maxRecDepth 100000 in
theorem kl_X10_film_49 {p : Program} {l : Launch} {e : Env} {s : State} {m : MethodId} {args : Array Value} {below : List Frame} {meth : Method} {c : Code} {g : GG} {ad : Nat → Nat} {res : (Int32 × ST)}  (C : CX kM g ad p s m args meth c cX10_film (some Jvm.ClassFile.FieldType.int) 8 yX10_film.cls (.code yX10_film cX10_film 8 (some Jvm.ClassFile.FieldType.int)))  : ∀ (n : Nat) {v2 : Int32} {v3 : Int32} {v4 : Int32} {v5 : Int32} {v6 : Int32} {S : ST} {H : Heap} {locs : List Loc} {ls : Array Slot}, (lp (fun _ _ _ _ _ _ => none) (b_X10_film_49)) n v2 v3 v4 v5 v6 S = some res → WX kM g ad s S H locs → lv_has ls 8 [(0, .ref (ad 0)), (1, .int v2), (2, .int v3), (3, .int v4), (4, .int v5), (5, .int v6)] → W p l e rmX10_film s m args below meth c H locs 0 0 (MQ below (QI kM g ad res (AA kM ad s.heap.size)) args s 0 0 (AA kM ad s.heap.size)) (F0 m 49 ls []) := by
  intro n
  induction n with
  | zero =>
    intro v2 v3 v4 v5 v6 S H locs ls h
    cases (show (none : Option (Int32 × ST)) = some res from h)
  | succ n ih =>
    intro v2 v3 v4 v5 v6 S H locs ls h X hl 
    exact kb_X10_film_49 C ih h X hl 
set_option maxHeartbeats 4000000 in
set_option maxRecDepth 100000 in
theorem c_X10_film (l : Launch) (g : GG) (ad : Nat → Nat) (S : ST) (sz : Nat) (a1 : Int32) (a2 : Int32)  {res : (Int32 × ST)} (h : f_X10_film a1 a2 S = some res) : Met l yX10_film (WS (.code yX10_film cX10_film 8 (some Jvm.ClassFile.FieldType.int))) rmX10_film (va_Pc [.ref (ad 0), .int a1, .int a2] (PW kM g ad S sz)) (QI kM g ad res (AA kM ad sz)) 0 0 (AA kM ad sz) := by
  refine go_m (Qc := fun A => QI kM g ad res A) (by decide) (Nat.le_of_ble_eq_true rfl) (fun p e s m below meth c ls H locs C X hl => ?_)
  have hx := C.1.1
  have hb := C.1.2.1
  have hl : lv_has ls 8 [(0, .ref (ad 0)), (1, .int a1), (2, .int a2)] := hl
  have h : (bn1 (f_X10_isTime a1) fun r1 => if r1 = 0 then (some ((-1000000002 : Int32), S)) else (bn1 (f_X10_in (a2.toInt64) ((-180 : Int64)) ((180 : Int64))) fun r3 => if r3 = 0 then (some ((-1000000002 : Int32), S)) else (bn1 (f_X10_useHand S) fun S5 => nm (su S5 0 24 ((10 : Int32))) fun S6 => nm (su S6 0 26 ((300 : Int32))) fun S7 => lp (fun _ _ _ _ _ _ => none) (b_X10_film_49) 1000 a1 a2 ((-1 : Int32)) ((0 : Int32)) ((0 : Int32)) S7)) : Option (Int32 × ST)) = some res := h
  refine lv_iload_n hx hb dX10_film_0 rfl (lv_at hl 1 rfl) ?_
  obtain ⟨r1, qr1, h⟩ := bn1_s h
  refine kc_i X (res := (r1, S)) (rS (As := [.int a1]) (rest := []) (n := 1) C X (c_X10_isTime l g ad S _ a1  qr1) wd_1339 wd_1340 wd_83 wd_1341 rfl rfl (by decide +kernel) ⟨Nat.le_of_ble_eq_true rfl, Nat.le_of_ble_eq_true rfl⟩ rfl hl.1 (lv_room (Nat.le_of_ble_eq_true rfl)) dX10_film_1) (fun H locs X => ?_)
  refine lv_if_eq (tgt := 21) hx hb dX10_film_4 (by decide) (fun c2 => ?_) (fun c2 => ?_)
  · have h := ip h c2
    refine lv_ldc (v := (-1000000002 : Int32)) hx hb C.1.2.2.2.2.2.1 (C.1.2.2.2.2.2.2 _ (ws_in wd_1154)) dX10_film_21 ?_
    exact rt_i C X rfl (Option.some.inj h) dX10_film_23
  · have h := inn h c2
    refine lv_iload_n hx hb dX10_film_7 rfl (lv_at hl 2 rfl) ?_
    refine lv_i2l hx hb dX10_film_8 rfl ?_
    refine lv_ldc2 (v := (-180 : Int64)) hx hb C.1.2.2.2.2.2.1 (C.1.2.2.2.2.2.2 _ (ws_in wd_1432)) dX10_film_9 ?_
    refine lv_ldc2 (v := (180 : Int64)) hx hb C.1.2.2.2.2.2.1 (C.1.2.2.2.2.2.2 _ (ws_in wd_1433)) dX10_film_12 ?_
    obtain ⟨r3, qr3, h⟩ := bn1_s h
    refine kc_i X (res := (r3, S)) (rS (As := [.long (a2.toInt64), .long ((-180 : Int64)), .long ((180 : Int64))]) (rest := []) (n := 3) C X (c_X10_in l g ad S _ (a2.toInt64) ((-180 : Int64)) ((180 : Int64))  qr3) wd_1151 wd_1152 wd_83 wd_1153 rfl rfl (by decide +kernel) ⟨Nat.le_of_ble_eq_true rfl, Nat.le_of_ble_eq_true rfl⟩ rfl hl.1 (lv_room (Nat.le_of_ble_eq_true rfl)) dX10_film_15) (fun H locs X => ?_)
    refine lv_if_ne (tgt := 24) hx hb dX10_film_18 (by decide) (fun c4 => ?_) (fun c4 => ?_)
    · have h := inn h c4
      refine lv_aload_n hx hb dX10_film_24 rfl (lv_at hl 0 rfl) ?_
      obtain ⟨S5, qS5, h⟩ := bn1_s h
      refine kc_v X (res := S5) (rV (As := []) (rest := []) (n := 0) (k := 0) C X (c_X10_useHand l g ad S _   qS5) wd_1306 wd_1308 wd_49 wd_83 wd_1309 (by decide) (eM_0 g ad S) rfl rfl rfl (by decide +kernel) ⟨Nat.le_of_ble_eq_true rfl, Nat.le_of_ble_eq_true rfl⟩ rfl hl.1 (lv_room (Nat.le_of_ble_eq_true rfl)) dX10_film_25) (fun H locs X => ?_)
      refine lv_aload_n hx hb dX10_film_28 rfl (lv_at hl 0 rfl) ?_
      refine lv_bipush (v := (10 : Int32)) hx hb dX10_film_29 (by decide) ?_
      obtain ⟨S6, eS6, h⟩ := nm_s h
      refine g_put (S' := S6) C X inT10 tyX10 tyX10_ok nmX10 0 (by decide) (eM_0 g ad S5) rfl 24 (by decide) wd_1030 rfl (by rfl) rfl (Nat.le_of_ble_eq_true rfl) (by subst eS6; rfl) (by subst eS6; exact fun i hi => ent_offu hi) dX10_film_31 (fun H locs X => ?_)
      refine lv_aload_n hx hb dX10_film_34 rfl (lv_at hl 0 rfl) ?_
      refine lv_sipush (v := (300 : Int32)) hx hb dX10_film_35 (by decide) ?_
      obtain ⟨S7, eS7, h⟩ := nm_s h
      refine g_put (S' := S7) C X inT10 tyX10 tyX10_ok nmX10 0 (by decide) (eM_0 g ad S6) rfl 26 (by decide) wd_1032 rfl (by rfl) rfl (Nat.le_of_ble_eq_true rfl) (by subst eS7; rfl) (by subst eS7; exact fun i hi => ent_offu hi) dX10_film_38 (fun H locs X => ?_)
      refine lv_iconst (v := (-1 : Int32)) hx hb dX10_film_41 (by decide) ?_
      refine lv_istore_n (lv' := [(3, .int ((-1 : Int32))), (0, .ref (ad 0)), (1, .int a1), (2, .int a2)]) hx hb dX10_film_42 rfl hl (by decide) rfl (fun ls hl => ?_)
      refine lv_iconst (v := (0 : Int32)) hx hb dX10_film_43 (by decide) ?_
      refine lv_istore (lv' := [(4, .int ((0 : Int32))), (3, .int ((-1 : Int32))), (0, .ref (ad 0)), (1, .int a1), (2, .int a2)]) hx hb dX10_film_44 hl (by decide) rfl (fun ls hl => ?_)
      refine lv_iconst (v := (0 : Int32)) hx hb dX10_film_46 (by decide) ?_
      refine lv_istore (lv' := [(5, .int ((0 : Int32))), (4, .int ((0 : Int32))), (3, .int ((-1 : Int32))), (0, .ref (ad 0)), (1, .int a1), (2, .int a2)]) hx hb dX10_film_47 hl (by decide) rfl (fun ls hl => ?_)
      exact kl_X10_film_49 C _ h X (lv_sub hl [3, 4, 5, 2, 1, 0] rfl) 
    · have h := ip h c4
      refine lv_ldc (v := (-1000000002 : Int32)) hx hb C.1.2.2.2.2.2.1 (C.1.2.2.2.2.2.2 _ (ws_in wd_1154)) dX10_film_21 ?_
      exact rt_i C X rfl (Option.some.inj h) dX10_film_23

def rmX10_age : Room := { frames := 8, cells := 0, slots := 0, locals := 187 }
def b_X10_age_18 (K18 : Int32 → ST → Option (Int32 × ST)) (v2 : Int32) (S : ST) : Option (Int32 × ST) :=
  if ((40 : Int32)) < v2 then (some ((-1 : Int32), S)) else (bn1 (f_X10_strengthIn v2 S) fun r5 => nm (su S 0 23 r5) fun S6 => bnd (f_X10_hasGood S6) fun r8 S7 => if r8 = 0 then (some (v2, S7)) else (nm (v2 + (1 : Int32)) fun x10 => K18 x10 S7))
def f_X10_age (a1 : Int32) (S : ST) : Option (Int32 × ST) :=
  bn1 (f_X10_isSwinger a1 S) fun r1 => if r1 = 0 then (some ((-1000000001 : Int32), S)) else (bn1 (f_X10_ready a1 S) fun S3 => lp (fun _ _ => none) (b_X10_age_18) 1000 ((0 : Int32)) S3)
set_option maxHeartbeats 4000000 in
set_option maxRecDepth 100000 in
theorem kb_X10_age_18 {p : Program} {l : Launch} {e : Env} {s : State} {m : MethodId} {args : Array Value} {below : List Frame} {meth : Method} {c : Code} {g : GG} {ad : Nat → Nat} {res : (Int32 × ST)} {S : ST} (C : CX kM g ad p s m args meth c cX10_age (some Jvm.ClassFile.FieldType.int) 3 yX10_age.cls (.code yX10_age cX10_age 3 (some Jvm.ClassFile.FieldType.int))) {K18 : Int32 → ST → Option (Int32 × ST)} (hK18 : ∀ {v2 : Int32} {S : ST} {H : Heap} {locs : List Loc} {ls : Array Slot}, K18 v2 S = some res → WX kM g ad s S H locs → lv_has ls 3 [(0, .ref (ad 0)), (2, .int v2)] → W p l e rmX10_age s m args below meth c H locs 0 0 (MQ below (QI kM g ad res (AA kM ad s.heap.size)) args s 0 0 (AA kM ad s.heap.size)) (F0 m 18 ls [])) {v2 : Int32}  {H : Heap} {locs : List Loc} {ls : Array Slot} (h : b_X10_age_18 K18 v2 S = some res) (X : WX kM g ad s S H locs) (hl : lv_has ls 3 [(0, .ref (ad 0)), (2, .int v2)])  : W p l e rmX10_age s m args below meth c H locs 0 0 (MQ below (QI kM g ad res (AA kM ad s.heap.size)) args s 0 0 (AA kM ad s.heap.size)) (F0 m 18 ls []) := by
  have hx := C.1.1
  have hb := C.1.2.1
  have h : (if ((40 : Int32)) < v2 then (some ((-1 : Int32), S)) else (bn1 (f_X10_strengthIn v2 S) fun r5 => nm (su S 0 23 r5) fun S6 => bnd (f_X10_hasGood S6) fun r8 S7 => if r8 = 0 then (some (v2, S7)) else (nm (v2 + (1 : Int32)) fun x10 => K18 x10 S7)) : Option (Int32 × ST)) = some res := h
  refine lv_iload_n hx hb dX10_age_18 rfl (lv_at hl 1 rfl) ?_
  refine lv_bipush (v := (40 : Int32)) hx hb dX10_age_19 (by decide) ?_
  refine lv_icmp_gt (tgt := 48) hx hb dX10_age_21 (by decide) (fun c4 => ?_) (fun c4 => ?_)
  · have h := ip h c4
    refine lv_iconst (v := (-1 : Int32)) hx hb dX10_age_48 (by decide) ?_
    exact rt_i C X rfl (Option.some.inj h) dX10_age_49
  · have h := inn h c4
    refine lv_aload_n hx hb dX10_age_24 rfl (lv_at hl 0 rfl) ?_
    refine lv_aload_n hx hb dX10_age_25 rfl (lv_at hl 0 rfl) ?_
    refine lv_iload_n hx hb dX10_age_26 rfl (lv_at hl 1 rfl) ?_
    obtain ⟨r5, qr5, h⟩ := bn1_s h
    refine kc_i X (res := (r5, S)) (rV (As := [.int v2]) (rest := [.ref (ad 0)]) (n := 1) (k := 0) C X (c_X10_strengthIn l g ad S _ v2  qr5) wd_1282 wd_1284 wd_48 wd_83 wd_1285 (by decide) (eM_0 g ad S) rfl rfl rfl (by decide +kernel) ⟨Nat.le_of_ble_eq_true rfl, Nat.le_of_ble_eq_true rfl⟩ rfl hl.1 (lv_room (Nat.le_of_ble_eq_true rfl)) dX10_age_27) (fun H locs X => ?_)
    obtain ⟨S6, eS6, h⟩ := nm_s h
    refine g_put (S' := S6) C X inT10 tyX10 tyX10_ok nmX10 0 (by decide) (eM_0 g ad S) rfl 23 (by decide) wd_1029 rfl (by rfl) rfl (Nat.le_of_ble_eq_true rfl) (by subst eS6; rfl) (by subst eS6; exact fun i hi => ent_offu hi) dX10_age_30 (fun H locs X => ?_)
    refine lv_aload_n hx hb dX10_age_33 rfl (lv_at hl 0 rfl) ?_
    obtain ⟨r8, S7, qr8, h⟩ := bnd_s h
    refine kc_i X (res := (r8, S7)) (rV (As := []) (rest := []) (n := 0) (k := 0) C X (c_X10_hasGood l g ad S6 _   qr8) wd_1412 wd_1414 wd_64 wd_83 wd_1415 (by decide) (eM_0 g ad S6) rfl rfl rfl (by decide +kernel) ⟨Nat.le_of_ble_eq_true rfl, Nat.le_of_ble_eq_true rfl⟩ rfl hl.1 (lv_room (Nat.le_of_ble_eq_true rfl)) dX10_age_34) (fun H locs X => ?_)
    refine lv_if_ne (tgt := 42) hx hb dX10_age_37 (by decide) (fun c9 => ?_) (fun c9 => ?_)
    · have h := inn h c9
      obtain ⟨x10, ex10, h⟩ := nm_s h
      refine lv_iinc (v := x10) (lv' := [(2, .int x10), (0, .ref (ad 0))]) hx hb dX10_age_42 hl (k := 1) rfl (by rw [ex10]; rfl) (by decide) rfl (fun ls hl => ?_)
      refine lv_goto (tgt := 18) hx hb dX10_age_45 (by decide) ?_
      exact hK18 h X (lv_sub hl [1, 0] rfl) 
    · have h := ip h c9
      refine lv_iload_n hx hb dX10_age_40 rfl (lv_at hl 1 rfl) ?_
      exact rt_i C X rfl (Option.some.inj h) dX10_age_41
set_option maxHeartbeats 4000000 in
set_option maxRecDepth 100000 in
theorem kl_X10_age_18 {p : Program} {l : Launch} {e : Env} {s : State} {m : MethodId} {args : Array Value} {below : List Frame} {meth : Method} {c : Code} {g : GG} {ad : Nat → Nat} {res : (Int32 × ST)}  (C : CX kM g ad p s m args meth c cX10_age (some Jvm.ClassFile.FieldType.int) 3 yX10_age.cls (.code yX10_age cX10_age 3 (some Jvm.ClassFile.FieldType.int)))  : ∀ (n : Nat) {v2 : Int32} {S : ST} {H : Heap} {locs : List Loc} {ls : Array Slot}, (lp (fun _ _ => none) (b_X10_age_18)) n v2 S = some res → WX kM g ad s S H locs → lv_has ls 3 [(0, .ref (ad 0)), (2, .int v2)] → W p l e rmX10_age s m args below meth c H locs 0 0 (MQ below (QI kM g ad res (AA kM ad s.heap.size)) args s 0 0 (AA kM ad s.heap.size)) (F0 m 18 ls []) := by
  intro n
  induction n with
  | zero =>
    intro v2 S H locs ls h
    cases (show (none : Option (Int32 × ST)) = some res from h)
  | succ n ih =>
    intro v2 S H locs ls h X hl 
    exact kb_X10_age_18 C ih h X hl 
set_option maxHeartbeats 4000000 in
set_option maxRecDepth 100000 in
theorem c_X10_age (l : Launch) (g : GG) (ad : Nat → Nat) (S : ST) (sz : Nat) (a1 : Int32)  {res : (Int32 × ST)} (h : f_X10_age a1 S = some res) : Met l yX10_age (WS (.code yX10_age cX10_age 3 (some Jvm.ClassFile.FieldType.int))) rmX10_age (va_Pc [.ref (ad 0), .int a1] (PW kM g ad S sz)) (QI kM g ad res (AA kM ad sz)) 0 0 (AA kM ad sz) := by
  refine go_m (Qc := fun A => QI kM g ad res A) (by decide) (Nat.le_of_ble_eq_true rfl) (fun p e s m below meth c ls H locs C X hl => ?_)
  have hx := C.1.1
  have hb := C.1.2.1
  have hl : lv_has ls 3 [(0, .ref (ad 0)), (1, .int a1)] := hl
  have h : (bn1 (f_X10_isSwinger a1 S) fun r1 => if r1 = 0 then (some ((-1000000001 : Int32), S)) else (bn1 (f_X10_ready a1 S) fun S3 => lp (fun _ _ => none) (b_X10_age_18) 1000 ((0 : Int32)) S3) : Option (Int32 × ST)) = some res := h
  refine lv_aload_n hx hb dX10_age_0 rfl (lv_at hl 0 rfl) ?_
  refine lv_iload_n hx hb dX10_age_1 rfl (lv_at hl 1 rfl) ?_
  obtain ⟨r1, qr1, h⟩ := bn1_s h
  refine kc_i X (res := (r1, S)) (rV (As := [.int a1]) (rest := []) (n := 1) (k := 0) C X (c_X10_isSwinger l g ad S _ a1  qr1) wd_1266 wd_1268 wd_47 wd_83 wd_1269 (by decide) (eM_0 g ad S) rfl rfl rfl (by decide +kernel) ⟨Nat.le_of_ble_eq_true rfl, Nat.le_of_ble_eq_true rfl⟩ rfl hl.1 (lv_room (Nat.le_of_ble_eq_true rfl)) dX10_age_2) (fun H locs X => ?_)
  refine lv_if_ne (tgt := 11) hx hb dX10_age_5 (by decide) (fun c2 => ?_) (fun c2 => ?_)
  · have h := inn h c2
    refine lv_aload_n hx hb dX10_age_11 rfl (lv_at hl 0 rfl) ?_
    refine lv_iload_n hx hb dX10_age_12 rfl (lv_at hl 1 rfl) ?_
    obtain ⟨S3, qS3, h⟩ := bn1_s h
    refine kc_v X (res := S3) (rV (As := [.int a1]) (rest := []) (n := 1) (k := 0) C X (c_X10_ready l g ad S _ a1  qS3) wd_1342 wd_1344 wd_55 wd_83 wd_1345 (by decide) (eM_0 g ad S) rfl rfl rfl (by decide +kernel) ⟨Nat.le_of_ble_eq_true rfl, Nat.le_of_ble_eq_true rfl⟩ rfl hl.1 (lv_room (Nat.le_of_ble_eq_true rfl)) dX10_age_13) (fun H locs X => ?_)
    refine lv_iconst (v := (0 : Int32)) hx hb dX10_age_16 (by decide) ?_
    refine lv_istore_n (lv' := [(2, .int ((0 : Int32))), (0, .ref (ad 0)), (1, .int a1)]) hx hb dX10_age_17 rfl hl (by decide) rfl (fun ls hl => ?_)
    exact kl_X10_age_18 C _ h X (lv_sub hl [1, 0] rfl) 
  · have h := ip h c2
    refine lv_ldc (v := (-1000000001 : Int32)) hx hb C.1.2.2.2.2.2.1 (C.1.2.2.2.2.2.2 _ (ws_in wd_1249)) dX10_age_8 ?_
    exact rt_i C X rfl (Option.some.inj h) dX10_age_10

def rmX10_isOut : Room := { frames := 1, cells := 0, slots := 0, locals := 20 }
def b_X10_isOut_51 (S : ST)  (v2 : Int32) (v3 : Int32) (v4 : Int32) : Option Int32 :=
  if v3 = 0 then (if v4 = 0 then (if (v2 &&& ((32 : Int32))) = ((32 : Int32)) then (bn1 (f_X10_lower S) fun r6 => if r6 < ((50 : Int32)) then (some ((0 : Int32))) else (some ((1 : Int32)))) else (some ((0 : Int32)))) else (some ((1 : Int32)))) else (some ((1 : Int32)))
def b_X10_isOut_25 (S : ST)  (v2 : Int32) (v3 : Int32) (v4 : Int32) : Option Int32 :=
  if (v3 &&& ((2 : Int32))) = ((2 : Int32)) then (chk (ib (((5 : Int32)) * v2) 40) (if (S.1 5 (((5 : Int32)) * v2).toNatClampNeg) ≤ ((90 : Int32)) then (b_X10_isOut_51 S v3 v4 ((0 : Int32))) else (b_X10_isOut_51 S v3 v4 ((1 : Int32))))) else (b_X10_isOut_51 S v3 v4 ((0 : Int32)))
def f_X10_isOut (a1 : Int32) (a2 : Int32) (S : ST) : Option Int32 :=
  if (a2 &&& ((1 : Int32))) = ((1 : Int32)) then (chk (ib (((5 : Int32)) * a1) 40) (if ((30 : Int32)) ≤ (S.1 5 (((5 : Int32)) * a1).toNatClampNeg) then (b_X10_isOut_25 S a1 a2 ((0 : Int32))) else (b_X10_isOut_25 S a1 a2 ((1 : Int32))))) else (b_X10_isOut_25 S a1 a2 ((0 : Int32)))
set_option maxHeartbeats 4000000 in
set_option maxRecDepth 100000 in
theorem kb_X10_isOut_51 {p : Program} {l : Launch} {e : Env} {s : State} {m : MethodId} {args : Array Value} {below : List Frame} {meth : Method} {c : Code} {g : GG} {ad : Nat → Nat} {res : Int32} {S : ST} (C : CX kM g ad p s m args meth c cX10_isOut (some Jvm.ClassFile.FieldType.boolean) 5 yX10_isOut.cls (.code yX10_isOut cX10_isOut 5 (some Jvm.ClassFile.FieldType.boolean)))  {v2 : Int32} {v3 : Int32} {v4 : Int32}  {H : Heap} {locs : List Loc} {ls : Array Slot} (h : b_X10_isOut_51 S v2 v3 v4 = some res) (X : WX kM g ad s S H locs) (hl : lv_has ls 5 [(0, .ref (ad 0)), (2, .int v2), (3, .int v3)])  : W p l e rmX10_isOut s m args below meth c H locs 0 0 (MQ below (QI kM g ad (res, S) (AA kM ad s.heap.size)) args s 0 0 (AA kM ad s.heap.size)) (F0 m 51 ls [.int v4]) := by
  have hx := C.1.1
  have hb := C.1.2.1
  have h : (if v3 = 0 then (if v4 = 0 then (if (v2 &&& ((32 : Int32))) = ((32 : Int32)) then (bn1 (f_X10_lower S) fun r6 => if r6 < ((50 : Int32)) then (some ((0 : Int32))) else (some ((1 : Int32)))) else (some ((0 : Int32)))) else (some ((1 : Int32)))) else (some ((1 : Int32))) : Option Int32) = some res := h
  refine lv_istore (lv' := [(4, .int v4), (0, .ref (ad 0)), (2, .int v2), (3, .int v3)]) hx hb dX10_isOut_51 hl (by decide) rfl (fun ls hl => ?_)
  refine lv_iload_n hx hb dX10_isOut_53 rfl (lv_at hl 3 rfl) ?_
  refine lv_if_ne (tgt := 80) hx hb dX10_isOut_54 (by decide) (fun c3 => ?_) (fun c3 => ?_)
  · have h := inn h c3
    refine lv_iconst (v := (1 : Int32)) hx hb dX10_isOut_80 (by decide) ?_
    refine lv_goto (tgt := 85) hx hb dX10_isOut_81 (by decide) ?_
    exact rt_z C X rfl (by decide) (congrArg (fun z => (z, S)) (Option.some.inj h)) dX10_isOut_85
  · have h := ip h c3
    refine lv_iload hx hb dX10_isOut_57 (lv_at hl 0 rfl) ?_
    refine lv_if_ne (tgt := 80) hx hb dX10_isOut_59 (by decide) (fun c4 => ?_) (fun c4 => ?_)
    · have h := inn h c4
      refine lv_iconst (v := (1 : Int32)) hx hb dX10_isOut_80 (by decide) ?_
      refine lv_goto (tgt := 85) hx hb dX10_isOut_81 (by decide) ?_
      exact rt_z C X rfl (by decide) (congrArg (fun z => (z, S)) (Option.some.inj h)) dX10_isOut_85
    · have h := ip h c4
      refine lv_iload_n hx hb dX10_isOut_62 rfl (lv_at hl 2 rfl) ?_
      refine lv_bipush (v := (32 : Int32)) hx hb dX10_isOut_63 (by decide) ?_
      refine lv_iand hx hb dX10_isOut_65 ?_
      refine lv_bipush (v := (32 : Int32)) hx hb dX10_isOut_66 (by decide) ?_
      refine lv_icmp_ne (tgt := 84) hx hb dX10_isOut_68 (by decide) (fun c5 => ?_) (fun c5 => ?_)
      · have h := inn h c5
        refine lv_iconst (v := (0 : Int32)) hx hb dX10_isOut_84 (by decide) ?_
        exact rt_z C X rfl (by decide) (congrArg (fun z => (z, S)) (Option.some.inj h)) dX10_isOut_85
      · have h := ip h c5
        refine lv_aload_n hx hb dX10_isOut_71 rfl (lv_at hl 1 rfl) ?_
        obtain ⟨r6, qr6, h⟩ := bn1_s h
        refine kc_i X (res := (r6, S)) (rV (As := []) (rest := []) (n := 0) (k := 0) C X (c_X10_lower l g ad S _   qr6) wd_1254 wd_1256 wd_45 wd_83 wd_1257 (by decide) (eM_0 g ad S) rfl rfl rfl (by decide +kernel) ⟨Nat.le_of_ble_eq_true rfl, Nat.le_of_ble_eq_true rfl⟩ rfl hl.1 (lv_room (Nat.le_of_ble_eq_true rfl)) dX10_isOut_72) (fun H locs X => ?_)
        refine lv_bipush (v := (50 : Int32)) hx hb dX10_isOut_75 (by decide) ?_
        refine lv_icmp_lt (tgt := 84) hx hb dX10_isOut_77 (by decide) (fun c7 => ?_) (fun c7 => ?_)
        · have h := ip h c7
          refine lv_iconst (v := (0 : Int32)) hx hb dX10_isOut_84 (by decide) ?_
          exact rt_z C X rfl (by decide) (congrArg (fun z => (z, S)) (Option.some.inj h)) dX10_isOut_85
        · have h := inn h c7
          refine lv_iconst (v := (1 : Int32)) hx hb dX10_isOut_80 (by decide) ?_
          refine lv_goto (tgt := 85) hx hb dX10_isOut_81 (by decide) ?_
          exact rt_z C X rfl (by decide) (congrArg (fun z => (z, S)) (Option.some.inj h)) dX10_isOut_85
set_option maxHeartbeats 4000000 in
set_option maxRecDepth 100000 in
theorem kb_X10_isOut_25 {p : Program} {l : Launch} {e : Env} {s : State} {m : MethodId} {args : Array Value} {below : List Frame} {meth : Method} {c : Code} {g : GG} {ad : Nat → Nat} {res : Int32} {S : ST} (C : CX kM g ad p s m args meth c cX10_isOut (some Jvm.ClassFile.FieldType.boolean) 5 yX10_isOut.cls (.code yX10_isOut cX10_isOut 5 (some Jvm.ClassFile.FieldType.boolean)))  {v2 : Int32} {v3 : Int32} {v4 : Int32}  {H : Heap} {locs : List Loc} {ls : Array Slot} (h : b_X10_isOut_25 S v2 v3 v4 = some res) (X : WX kM g ad s S H locs) (hl : lv_has ls 5 [(0, .ref (ad 0)), (1, .int v2), (2, .int v3)])  : W p l e rmX10_isOut s m args below meth c H locs 0 0 (MQ below (QI kM g ad (res, S) (AA kM ad s.heap.size)) args s 0 0 (AA kM ad s.heap.size)) (F0 m 25 ls [.int v4]) := by
  have hx := C.1.1
  have hb := C.1.2.1
  have h : (if (v3 &&& ((2 : Int32))) = ((2 : Int32)) then (chk (ib (((5 : Int32)) * v2) 40) (if (S.1 5 (((5 : Int32)) * v2).toNatClampNeg) ≤ ((90 : Int32)) then (b_X10_isOut_51 S v3 v4 ((0 : Int32))) else (b_X10_isOut_51 S v3 v4 ((1 : Int32))))) else (b_X10_isOut_51 S v3 v4 ((0 : Int32))) : Option Int32) = some res := h
  refine lv_istore_n (lv' := [(3, .int v4), (0, .ref (ad 0)), (1, .int v2), (2, .int v3)]) hx hb dX10_isOut_25 rfl hl (by decide) rfl (fun ls hl => ?_)
  refine lv_iload_n hx hb dX10_isOut_26 rfl (lv_at hl 3 rfl) ?_
  refine lv_iconst (v := (2 : Int32)) hx hb dX10_isOut_27 (by decide) ?_
  refine lv_iand hx hb dX10_isOut_28 ?_
  refine lv_iconst (v := (2 : Int32)) hx hb dX10_isOut_29 (by decide) ?_
  refine lv_icmp_ne (tgt := 50) hx hb dX10_isOut_30 (by decide) (fun c2 => ?_) (fun c2 => ?_)
  · have h := inn h c2
    refine lv_iconst (v := (0 : Int32)) hx hb dX10_isOut_50 (by decide) ?_
    exact kb_X10_isOut_51 C h X (lv_sub hl [1, 3, 0] rfl) 
  · have h := ip h c2
    refine lv_aload_n hx hb dX10_isOut_33 rfl (lv_at hl 1 rfl) ?_
    refine g_get C X inT10 0 (by decide) (eM_0 g ad S) rfl 5 (by decide) wd_1011 (v := .ref (ad 5)) rfl dX10_isOut_34 ?_
    refine lv_iconst (v := (5 : Int32)) hx hb dX10_isOut_37 (by decide) ?_
    refine lv_iload_n hx hb dX10_isOut_38 rfl (lv_at hl 2 rfl) ?_
    refine lv_imul hx hb dX10_isOut_39 ?_
    obtain ⟨k8, h⟩ := chk_s h
    refine g_iald C X 5 (by decide) (eM_5 g ad S) k8 dX10_isOut_40 ?_
    refine lv_bipush (v := (90 : Int32)) hx hb dX10_isOut_41 (by decide) ?_
    refine lv_icmp_le (tgt := 50) hx hb dX10_isOut_43 (by decide) (fun c9 => ?_) (fun c9 => ?_)
    · have h := ip h c9
      refine lv_iconst (v := (0 : Int32)) hx hb dX10_isOut_50 (by decide) ?_
      exact kb_X10_isOut_51 C h X (lv_sub hl [1, 3, 0] rfl) 
    · have h := inn h c9
      refine lv_iconst (v := (1 : Int32)) hx hb dX10_isOut_46 (by decide) ?_
      refine lv_goto (tgt := 51) hx hb dX10_isOut_47 (by decide) ?_
      exact kb_X10_isOut_51 C h X (lv_sub hl [1, 3, 0] rfl) 
set_option maxHeartbeats 4000000 in
set_option maxRecDepth 100000 in
theorem c_X10_isOut (l : Launch) (g : GG) (ad : Nat → Nat) (S : ST) (sz : Nat) (a1 : Int32) (a2 : Int32)  {res : Int32} (h : f_X10_isOut a1 a2 S = some res) : Met l yX10_isOut (WS (.code yX10_isOut cX10_isOut 5 (some Jvm.ClassFile.FieldType.boolean))) rmX10_isOut (va_Pc [.ref (ad 0), .int a1, .int a2] (PW kM g ad S sz)) (QI kM g ad (res, S) (AA kM ad sz)) 0 0 (AA kM ad sz) := by
  refine go_m (Qc := fun A => QI kM g ad (res, S) A) (by decide) (Nat.le_of_ble_eq_true rfl) (fun p e s m below meth c ls H locs C X hl => ?_)
  have hx := C.1.1
  have hb := C.1.2.1
  have hl : lv_has ls 5 [(0, .ref (ad 0)), (1, .int a1), (2, .int a2)] := hl
  have h : (if (a2 &&& ((1 : Int32))) = ((1 : Int32)) then (chk (ib (((5 : Int32)) * a1) 40) (if ((30 : Int32)) ≤ (S.1 5 (((5 : Int32)) * a1).toNatClampNeg) then (b_X10_isOut_25 S a1 a2 ((0 : Int32))) else (b_X10_isOut_25 S a1 a2 ((1 : Int32))))) else (b_X10_isOut_25 S a1 a2 ((0 : Int32))) : Option Int32) = some res := h
  refine lv_iload_n hx hb dX10_isOut_0 rfl (lv_at hl 2 rfl) ?_
  refine lv_iconst (v := (1 : Int32)) hx hb dX10_isOut_1 (by decide) ?_
  refine lv_iand hx hb dX10_isOut_2 ?_
  refine lv_iconst (v := (1 : Int32)) hx hb dX10_isOut_3 (by decide) ?_
  refine lv_icmp_ne (tgt := 24) hx hb dX10_isOut_4 (by decide) (fun c1 => ?_) (fun c1 => ?_)
  · have h := inn h c1
    refine lv_iconst (v := (0 : Int32)) hx hb dX10_isOut_24 (by decide) ?_
    exact kb_X10_isOut_25 C h X (lv_sub hl [0, 1, 2] rfl) 
  · have h := ip h c1
    refine lv_aload_n hx hb dX10_isOut_7 rfl (lv_at hl 0 rfl) ?_
    refine g_get C X inT10 0 (by decide) (eM_0 g ad S) rfl 5 (by decide) wd_1011 (v := .ref (ad 5)) rfl dX10_isOut_8 ?_
    refine lv_iconst (v := (5 : Int32)) hx hb dX10_isOut_11 (by decide) ?_
    refine lv_iload_n hx hb dX10_isOut_12 rfl (lv_at hl 1 rfl) ?_
    refine lv_imul hx hb dX10_isOut_13 ?_
    obtain ⟨k10, h⟩ := chk_s h
    refine g_iald C X 5 (by decide) (eM_5 g ad S) k10 dX10_isOut_14 ?_
    refine lv_bipush (v := (30 : Int32)) hx hb dX10_isOut_15 (by decide) ?_
    refine lv_icmp_ge (tgt := 24) hx hb dX10_isOut_17 (by decide) (fun c11 => ?_) (fun c11 => ?_)
    · have h := ip h c11
      refine lv_iconst (v := (0 : Int32)) hx hb dX10_isOut_24 (by decide) ?_
      exact kb_X10_isOut_25 C h X (lv_sub hl [0, 1, 2] rfl) 
    · have h := inn h c11
      refine lv_iconst (v := (1 : Int32)) hx hb dX10_isOut_20 (by decide) ?_
      refine lv_goto (tgt := 25) hx hb dX10_isOut_21 (by decide) ?_
      exact kb_X10_isOut_25 C h X (lv_sub hl [0, 1, 2] rfl) 

def rmX10_findFarthest : Room := { frames := 8, cells := 0, slots := 0, locals := 191 }
def b_X10_findFarthest_36 (K2 : Int32 → ST → Option ST) (v2 : Int32) (v3 : Int32) (v4 : Int32) (S : ST) : Option ST :=
  chk (ib v4 8) (nm (su S 16 v4.toNatClampNeg v3) fun S7 => nm (v2 + (1 : Int32)) fun x8 => K2 x8 S7)
def b_X10_findFarthest_2 (K2 : Int32 → ST → Option ST) (v2 : Int32) (S : ST) : Option ST :=
  if (S.1 0 4) ≤ v2 then (some S) else (bn1 (f_X10_ready v2 S) fun S2 => bnd (f_X10_bestTime ((0 : Int32)) S2) fun r4 S3 => if 0 ≤ r4 then (b_X10_findFarthest_36 K2 v2 r4 v2 S3) else (b_X10_findFarthest_36 K2 v2 ((20 : Int32)) v2 S3))
def f_X10_findFarthest  (S : ST) : Option ST :=
  lp (fun _ _ => none) (b_X10_findFarthest_2) 1000 ((0 : Int32)) S
set_option maxHeartbeats 4000000 in
set_option maxRecDepth 100000 in
theorem kb_X10_findFarthest_36 {p : Program} {l : Launch} {e : Env} {s : State} {m : MethodId} {args : Array Value} {below : List Frame} {meth : Method} {c : Code} {g : GG} {ad : Nat → Nat} {res : ST} {S : ST} (C : CX kM g ad p s m args meth c cX10_findFarthest none 3 yX10_findFarthest.cls (.code yX10_findFarthest cX10_findFarthest 3 none)) {K2 : Int32 → ST → Option ST} (hK2 : ∀ {v2 : Int32} {S : ST} {H : Heap} {locs : List Loc} {ls : Array Slot}, K2 v2 S = some res → WX kM g ad s S H locs → lv_has ls 3 [(0, .ref (ad 0)), (1, .int v2)] → W p l e rmX10_findFarthest s m args below meth c H locs 0 0 (MQ below (QV kM g ad res (AA kM ad s.heap.size)) args s 0 0 (AA kM ad s.heap.size)) (F0 m 2 ls [])) {v2 : Int32} {v3 : Int32} {v4 : Int32}  {H : Heap} {locs : List Loc} {ls : Array Slot} (h : b_X10_findFarthest_36 K2 v2 v3 v4 S = some res) (X : WX kM g ad s S H locs) (hl : lv_has ls 3 [(0, .ref (ad 0)), (1, .int v2)])  : W p l e rmX10_findFarthest s m args below meth c H locs 0 0 (MQ below (QV kM g ad res (AA kM ad s.heap.size)) args s 0 0 (AA kM ad s.heap.size)) (F0 m 36 ls [.int v3, .int v4, .ref (ad 16)]) := by
  have hx := C.1.1
  have hb := C.1.2.1
  have h : (chk (ib v4 8) (nm (su S 16 v4.toNatClampNeg v3) fun S7 => nm (v2 + (1 : Int32)) fun x8 => K2 x8 S7) : Option ST) = some res := h
  obtain ⟨k6, h⟩ := chk_s h
  obtain ⟨S7, eS7, h⟩ := nm_s h
  refine g_iast (S' := S7) C X 16 (by decide) (eM_16 g ad S) k6 (by subst eS7; rfl) (by subst eS7; exact fun i hi => ent_offu hi) dX10_findFarthest_36 (fun H locs X => ?_)
  obtain ⟨x8, ex8, h⟩ := nm_s h
  refine lv_iinc (v := x8) (lv' := [(1, .int x8), (0, .ref (ad 0))]) hx hb dX10_findFarthest_37 hl (k := 1) rfl (by rw [ex8]; rfl) (by decide) rfl (fun ls hl => ?_)
  refine lv_goto (tgt := 2) hx hb dX10_findFarthest_40 (by decide) ?_
  exact hK2 h X (lv_sub hl [1, 0] rfl) 
set_option maxHeartbeats 4000000 in
set_option maxRecDepth 100000 in
theorem kb_X10_findFarthest_2 {p : Program} {l : Launch} {e : Env} {s : State} {m : MethodId} {args : Array Value} {below : List Frame} {meth : Method} {c : Code} {g : GG} {ad : Nat → Nat} {res : ST} {S : ST} (C : CX kM g ad p s m args meth c cX10_findFarthest none 3 yX10_findFarthest.cls (.code yX10_findFarthest cX10_findFarthest 3 none)) {K2 : Int32 → ST → Option ST} (hK2 : ∀ {v2 : Int32} {S : ST} {H : Heap} {locs : List Loc} {ls : Array Slot}, K2 v2 S = some res → WX kM g ad s S H locs → lv_has ls 3 [(0, .ref (ad 0)), (1, .int v2)] → W p l e rmX10_findFarthest s m args below meth c H locs 0 0 (MQ below (QV kM g ad res (AA kM ad s.heap.size)) args s 0 0 (AA kM ad s.heap.size)) (F0 m 2 ls [])) {v2 : Int32}  {H : Heap} {locs : List Loc} {ls : Array Slot} (h : b_X10_findFarthest_2 K2 v2 S = some res) (X : WX kM g ad s S H locs) (hl : lv_has ls 3 [(0, .ref (ad 0)), (1, .int v2)])  : W p l e rmX10_findFarthest s m args below meth c H locs 0 0 (MQ below (QV kM g ad res (AA kM ad s.heap.size)) args s 0 0 (AA kM ad s.heap.size)) (F0 m 2 ls []) := by
  have hx := C.1.1
  have hb := C.1.2.1
  have h : (if (S.1 0 4) ≤ v2 then (some S) else (bn1 (f_X10_ready v2 S) fun S2 => bnd (f_X10_bestTime ((0 : Int32)) S2) fun r4 S3 => if 0 ≤ r4 then (b_X10_findFarthest_36 K2 v2 r4 v2 S3) else (b_X10_findFarthest_36 K2 v2 ((20 : Int32)) v2 S3)) : Option ST) = some res := h
  refine lv_iload_n hx hb dX10_findFarthest_2 rfl (lv_at hl 1 rfl) ?_
  refine lv_aload_n hx hb dX10_findFarthest_3 rfl (lv_at hl 0 rfl) ?_
  refine g_get C X inT10 0 (by decide) (eM_0 g ad S) rfl 4 (by decide) wd_1010 (v := .int (S.1 0 4)) rfl dX10_findFarthest_4 ?_
  refine lv_icmp_ge (tgt := 43) hx hb dX10_findFarthest_7 (by decide) (fun c1 => ?_) (fun c1 => ?_)
  · have h := ip h c1
    exact rt_v C X rfl (Option.some.inj h) dX10_findFarthest_43
  · have h := inn h c1
    refine lv_aload_n hx hb dX10_findFarthest_10 rfl (lv_at hl 0 rfl) ?_
    refine lv_iload_n hx hb dX10_findFarthest_11 rfl (lv_at hl 1 rfl) ?_
    obtain ⟨S2, qS2, h⟩ := bn1_s h
    refine kc_v X (res := S2) (rV (As := [.int v2]) (rest := []) (n := 1) (k := 0) C X (c_X10_ready l g ad S _ v2  qS2) wd_1342 wd_1344 wd_55 wd_83 wd_1345 (by decide) (eM_0 g ad S) rfl rfl rfl (by decide +kernel) ⟨Nat.le_of_ble_eq_true rfl, Nat.le_of_ble_eq_true rfl⟩ rfl hl.1 (lv_room (Nat.le_of_ble_eq_true rfl)) dX10_findFarthest_12) (fun H locs X => ?_)
    refine lv_aload_n hx hb dX10_findFarthest_15 rfl (lv_at hl 0 rfl) ?_
    refine lv_iconst (v := (0 : Int32)) hx hb dX10_findFarthest_16 (by decide) ?_
    obtain ⟨r4, S3, qr4, h⟩ := bnd_s h
    refine kc_i X (res := (r4, S3)) (rV (As := [.int ((0 : Int32))]) (rest := []) (n := 1) (k := 0) C X (c_X10_bestTime l g ad S2 _ ((0 : Int32))  qr4) wd_1377 wd_1379 wd_61 wd_83 wd_1380 (by decide) (eM_0 g ad S2) rfl rfl rfl (by decide +kernel) ⟨Nat.le_of_ble_eq_true rfl, Nat.le_of_ble_eq_true rfl⟩ rfl hl.1 (lv_room (Nat.le_of_ble_eq_true rfl)) dX10_findFarthest_17) (fun H locs X => ?_)
    refine lv_istore_n (lv' := [(2, .int r4), (0, .ref (ad 0)), (1, .int v2)]) hx hb dX10_findFarthest_20 rfl hl (by decide) rfl (fun ls hl => ?_)
    refine lv_aload_n hx hb dX10_findFarthest_21 rfl (lv_at hl 1 rfl) ?_
    refine g_get C X inT10 0 (by decide) (eM_0 g ad S3) rfl 41 (by decide) wd_1047 (v := .ref (ad 16)) rfl dX10_findFarthest_22 ?_
    refine lv_iload_n hx hb dX10_findFarthest_25 rfl (lv_at hl 2 rfl) ?_
    refine lv_iload_n hx hb dX10_findFarthest_26 rfl (lv_at hl 0 rfl) ?_
    refine lv_if_ge (tgt := 35) hx hb dX10_findFarthest_27 (by decide) (fun c5 => ?_) (fun c5 => ?_)
    · have h := ip h c5
      refine lv_iload_n hx hb dX10_findFarthest_35 rfl (lv_at hl 0 rfl) ?_
      exact kb_X10_findFarthest_36 C hK2 h X (lv_sub hl [1, 2] rfl) 
    · have h := inn h c5
      refine lv_bipush (v := (20 : Int32)) hx hb dX10_findFarthest_30 (by decide) ?_
      refine lv_goto (tgt := 36) hx hb dX10_findFarthest_32 (by decide) ?_
      exact kb_X10_findFarthest_36 C hK2 h X (lv_sub hl [1, 2] rfl) 
set_option maxHeartbeats 4000000 in
set_option maxRecDepth 100000 in
theorem kl_X10_findFarthest_2 {p : Program} {l : Launch} {e : Env} {s : State} {m : MethodId} {args : Array Value} {below : List Frame} {meth : Method} {c : Code} {g : GG} {ad : Nat → Nat} {res : ST}  (C : CX kM g ad p s m args meth c cX10_findFarthest none 3 yX10_findFarthest.cls (.code yX10_findFarthest cX10_findFarthest 3 none))  : ∀ (n : Nat) {v2 : Int32} {S : ST} {H : Heap} {locs : List Loc} {ls : Array Slot}, (lp (fun _ _ => none) (b_X10_findFarthest_2)) n v2 S = some res → WX kM g ad s S H locs → lv_has ls 3 [(0, .ref (ad 0)), (1, .int v2)] → W p l e rmX10_findFarthest s m args below meth c H locs 0 0 (MQ below (QV kM g ad res (AA kM ad s.heap.size)) args s 0 0 (AA kM ad s.heap.size)) (F0 m 2 ls []) := by
  intro n
  induction n with
  | zero =>
    intro v2 S H locs ls h
    cases (show (none : Option ST) = some res from h)
  | succ n ih =>
    intro v2 S H locs ls h X hl 
    exact kb_X10_findFarthest_2 C ih h X hl 
set_option maxHeartbeats 4000000 in
set_option maxRecDepth 100000 in
theorem c_X10_findFarthest (l : Launch) (g : GG) (ad : Nat → Nat) (S : ST) (sz : Nat)   {res : ST} (h : f_X10_findFarthest S = some res) : Met l yX10_findFarthest (WS (.code yX10_findFarthest cX10_findFarthest 3 none)) rmX10_findFarthest (va_Pc [.ref (ad 0)] (PW kM g ad S sz)) (QV kM g ad res (AA kM ad sz)) 0 0 (AA kM ad sz) := by
  refine go_m (Qc := fun A => QV kM g ad res A) (by decide) (Nat.le_of_ble_eq_true rfl) (fun p e s m below meth c ls H locs C X hl => ?_)
  have hx := C.1.1
  have hb := C.1.2.1
  have hl : lv_has ls 3 [(0, .ref (ad 0))] := hl
  have h : (lp (fun _ _ => none) (b_X10_findFarthest_2) 1000 ((0 : Int32)) S : Option ST) = some res := h
  refine lv_iconst (v := (0 : Int32)) hx hb dX10_findFarthest_0 (by decide) ?_
  refine lv_istore_n (lv' := [(1, .int ((0 : Int32))), (0, .ref (ad 0))]) hx hb dX10_findFarthest_1 rfl hl (by decide) rfl (fun ls hl => ?_)
  exact kl_X10_findFarthest_2 C _ h X (lv_sub hl [1, 0] rfl) 

def rmX10_harmedBy : Room := { frames := 7, cells := 0, slots := 0, locals := 165 }
def b_X10_harmedBy_83 (K4 : Int32 → Int32 → Int32 → ST → Option (Int32 × ST)) (v2 : Int32) (v3 : Int32) (v4 : Int32) (v5 : Int32) (S : ST) : Option (Int32 × ST) :=
  nm (su S 0 27 v5) fun S9 => bn1 (f_X10_swing S9) fun S10 => bn1 (f_X10_isOut v4 v2 S10) fun r11 => if r11 = 0 then (chk (ib v4 8) (bnd (f_X10_isGood (S10.1 16 v4.toNatClampNeg) S10) fun r17 S16 => if r17 = 0 then (nm (v3 ||| (((1 : Int32)) <<< (v4 &&& 31))) fun x19 => nm (v4 + (1 : Int32)) fun x20 => K4 v2 x19 x20 S16) else (nm (v3 ||| ((0 : Int32))) fun x21 => nm (v4 + (1 : Int32)) fun x22 => K4 v2 x21 x22 S16))) else (nm (v3 ||| ((0 : Int32))) fun x13 => nm (v4 + (1 : Int32)) fun x14 => K4 v2 x13 x14 S10)
def b_X10_harmedBy_62 (K4 : Int32 → Int32 → Int32 → ST → Option (Int32 × ST)) (v2 : Int32) (v3 : Int32) (v4 : Int32) (v5 : Int32) (S : ST) : Option (Int32 × ST) :=
  nm (su S 0 23 v5) fun S7 => if (v2 &&& ((16 : Int32))) = ((16 : Int32)) then (b_X10_harmedBy_83 K4 v2 v3 v4 ((0 : Int32)) S7) else (b_X10_harmedBy_83 K4 v2 v3 v4 (S7.1 0 27) S7)
def b_X10_harmedBy_37 (K4 : Int32 → Int32 → Int32 → ST → Option (Int32 × ST)) (v2 : Int32) (v3 : Int32) (v4 : Int32) (v5 : Int32) (S : ST) : Option (Int32 × ST) :=
  nm (su S 0 22 v5) fun S5 => if (v2 &&& ((8 : Int32))) = ((8 : Int32)) then (bn1 (f_X10_strengthIn ((0 : Int32)) S5) fun r23 => b_X10_harmedBy_62 K4 v2 v3 v4 r23 S5) else (b_X10_harmedBy_62 K4 v2 v3 v4 (S5.1 0 23) S5)
def b_X10_harmedBy_4 (K4 : Int32 → Int32 → Int32 → ST → Option (Int32 × ST)) (v2 : Int32) (v3 : Int32) (v4 : Int32) (S : ST) : Option (Int32 × ST) :=
  if (S.1 0 4) ≤ v4 then (some (v3, S)) else (bn1 (f_X10_useHand S) fun S2 => bn1 (f_X10_usePerson v4 S2) fun S3 => if (v2 &&& ((4 : Int32))) = ((4 : Int32)) then (b_X10_harmedBy_37 K4 v2 v3 v4 ((0 : Int32)) S3) else (b_X10_harmedBy_37 K4 v2 v3 v4 (S3.1 0 22) S3))
def f_X10_harmedBy (a1 : Int32) (S : ST) : Option (Int32 × ST) :=
  lp (fun _ _ _ _ => none) (b_X10_harmedBy_4) 1000 a1 ((0 : Int32)) ((0 : Int32)) S
set_option maxHeartbeats 4000000 in
set_option maxRecDepth 100000 in
theorem kb_X10_harmedBy_83 {p : Program} {l : Launch} {e : Env} {s : State} {m : MethodId} {args : Array Value} {below : List Frame} {meth : Method} {c : Code} {g : GG} {ad : Nat → Nat} {res : (Int32 × ST)} {S : ST} (C : CX kM g ad p s m args meth c cX10_harmedBy (some Jvm.ClassFile.FieldType.int) 4 yX10_harmedBy.cls (.code yX10_harmedBy cX10_harmedBy 4 (some Jvm.ClassFile.FieldType.int))) {K4 : Int32 → Int32 → Int32 → ST → Option (Int32 × ST)} (hK4 : ∀ {v2 : Int32} {v3 : Int32} {v4 : Int32} {S : ST} {H : Heap} {locs : List Loc} {ls : Array Slot}, K4 v2 v3 v4 S = some res → WX kM g ad s S H locs → lv_has ls 4 [(0, .ref (ad 0)), (1, .int v2), (2, .int v3), (3, .int v4)] → W p l e rmX10_harmedBy s m args below meth c H locs 0 0 (MQ below (QI kM g ad res (AA kM ad s.heap.size)) args s 0 0 (AA kM ad s.heap.size)) (F0 m 4 ls [])) {v2 : Int32} {v3 : Int32} {v4 : Int32} {v5 : Int32}  {H : Heap} {locs : List Loc} {ls : Array Slot} (h : b_X10_harmedBy_83 K4 v2 v3 v4 v5 S = some res) (X : WX kM g ad s S H locs) (hl : lv_has ls 4 [(0, .ref (ad 0)), (1, .int v2), (2, .int v3), (3, .int v4)])  : W p l e rmX10_harmedBy s m args below meth c H locs 0 0 (MQ below (QI kM g ad res (AA kM ad s.heap.size)) args s 0 0 (AA kM ad s.heap.size)) (F0 m 83 ls [.int v5, .ref (ad 0)]) := by
  have hx := C.1.1
  have hb := C.1.2.1
  have h : (nm (su S 0 27 v5) fun S9 => bn1 (f_X10_swing S9) fun S10 => bn1 (f_X10_isOut v4 v2 S10) fun r11 => if r11 = 0 then (chk (ib v4 8) (bnd (f_X10_isGood (S10.1 16 v4.toNatClampNeg) S10) fun r17 S16 => if r17 = 0 then (nm (v3 ||| (((1 : Int32)) <<< (v4 &&& 31))) fun x19 => nm (v4 + (1 : Int32)) fun x20 => K4 v2 x19 x20 S16) else (nm (v3 ||| ((0 : Int32))) fun x21 => nm (v4 + (1 : Int32)) fun x22 => K4 v2 x21 x22 S16))) else (nm (v3 ||| ((0 : Int32))) fun x13 => nm (v4 + (1 : Int32)) fun x14 => K4 v2 x13 x14 S10) : Option (Int32 × ST)) = some res := h
  obtain ⟨S9, eS9, h⟩ := nm_s h
  refine g_put (S' := S9) C X inT10 tyX10 tyX10_ok nmX10 0 (by decide) (eM_0 g ad S) rfl 27 (by decide) wd_1033 rfl (by rfl) rfl (Nat.le_of_ble_eq_true rfl) (by subst eS9; rfl) (by subst eS9; exact fun i hi => ent_offu hi) dX10_harmedBy_83 (fun H locs X => ?_)
  refine lv_aload_n hx hb dX10_harmedBy_86 rfl (lv_at hl 0 rfl) ?_
  obtain ⟨S10, qS10, h⟩ := bn1_s h
  refine kc_v X (res := S10) (rV (As := []) (rest := []) (n := 0) (k := 0) C X (c_X10_swing l g ad S9 _   qS10) wd_1314 wd_1316 wd_51 wd_83 wd_1317 (by decide) (eM_0 g ad S9) rfl rfl rfl (by decide +kernel) ⟨Nat.le_of_ble_eq_true rfl, Nat.le_of_ble_eq_true rfl⟩ rfl hl.1 (lv_room (Nat.le_of_ble_eq_true rfl)) dX10_harmedBy_87) (fun H locs X => ?_)
  refine lv_iload_n hx hb dX10_harmedBy_90 rfl (lv_at hl 2 rfl) ?_
  refine lv_aload_n hx hb dX10_harmedBy_91 rfl (lv_at hl 0 rfl) ?_
  refine lv_iload_n hx hb dX10_harmedBy_92 rfl (lv_at hl 3 rfl) ?_
  refine lv_iload_n hx hb dX10_harmedBy_93 rfl (lv_at hl 1 rfl) ?_
  obtain ⟨r11, qr11, h⟩ := bn1_s h
  refine kc_i X (res := (r11, S10)) (rV (As := [.int v4, .int v2]) (rest := [.int v3]) (n := 2) (k := 0) C X (c_X10_isOut l g ad S10 _ v4 v2  qr11) wd_1451 wd_1453 wd_67 wd_83 wd_1454 (by decide) (eM_0 g ad S10) rfl rfl rfl (by decide +kernel) ⟨Nat.le_of_ble_eq_true rfl, Nat.le_of_ble_eq_true rfl⟩ rfl hl.1 (lv_room (Nat.le_of_ble_eq_true rfl)) dX10_harmedBy_94) (fun H locs X => ?_)
  refine lv_if_ne (tgt := 113) hx hb dX10_harmedBy_97 (by decide) (fun c12 => ?_) (fun c12 => ?_)
  · have h := inn h c12
    refine lv_iconst (v := (0 : Int32)) hx hb dX10_harmedBy_113 (by decide) ?_
    refine lv_goto (tgt := 120) hx hb dX10_harmedBy_114 (by decide) ?_
    refine lv_ior hx hb dX10_harmedBy_120 ?_
    obtain ⟨x13, ex13, h⟩ := nm_s h
    refine tp_i ex13 ?_
    refine lv_istore_n (lv' := [(2, .int x13), (0, .ref (ad 0)), (1, .int v2), (3, .int v4)]) hx hb dX10_harmedBy_121 rfl hl (by decide) rfl (fun ls hl => ?_)
    obtain ⟨x14, ex14, h⟩ := nm_s h
    refine lv_iinc (v := x14) (lv' := [(3, .int x14), (2, .int x13), (0, .ref (ad 0)), (1, .int v2)]) hx hb dX10_harmedBy_122 hl (k := 3) rfl (by rw [ex14]; rfl) (by decide) rfl (fun ls hl => ?_)
    refine lv_goto (tgt := 4) hx hb dX10_harmedBy_125 (by decide) ?_
    exact hK4 h X (lv_sub hl [2, 3, 1, 0] rfl) 
  · have h := ip h c12
    refine lv_aload_n hx hb dX10_harmedBy_100 rfl (lv_at hl 0 rfl) ?_
    refine lv_aload_n hx hb dX10_harmedBy_101 rfl (lv_at hl 0 rfl) ?_
    refine g_get C X inT10 0 (by decide) (eM_0 g ad S10) rfl 41 (by decide) wd_1047 (v := .ref (ad 16)) rfl dX10_harmedBy_102 ?_
    refine lv_iload_n hx hb dX10_harmedBy_105 rfl (lv_at hl 3 rfl) ?_
    obtain ⟨k15, h⟩ := chk_s h
    refine g_iald C X 16 (by decide) (eM_16 g ad S10) k15 dX10_harmedBy_106 ?_
    obtain ⟨r17, S16, qr17, h⟩ := bnd_s h
    refine kc_i X (res := (r17, S16)) (rV (As := [.int (S10.1 16 v4.toNatClampNeg)]) (rest := [.int v3]) (n := 1) (k := 0) C X (c_X10_isGood l g ad S10 _ (S10.1 16 v4.toNatClampNeg)  qr17) wd_1381 wd_1383 wd_62 wd_83 wd_1384 (by decide) (eM_0 g ad S10) rfl rfl rfl (by decide +kernel) ⟨Nat.le_of_ble_eq_true rfl, Nat.le_of_ble_eq_true rfl⟩ rfl hl.1 (lv_room (Nat.le_of_ble_eq_true rfl)) dX10_harmedBy_107) (fun H locs X => ?_)
    refine lv_if_eq (tgt := 117) hx hb dX10_harmedBy_110 (by decide) (fun c18 => ?_) (fun c18 => ?_)
    · have h := ip h c18
      refine lv_iconst (v := (1 : Int32)) hx hb dX10_harmedBy_117 (by decide) ?_
      refine lv_iload_n hx hb dX10_harmedBy_118 rfl (lv_at hl 3 rfl) ?_
      refine lv_ishl hx hb dX10_harmedBy_119 ?_
      refine lv_ior hx hb dX10_harmedBy_120 ?_
      obtain ⟨x19, ex19, h⟩ := nm_s h
      refine tp_i ex19 ?_
      refine lv_istore_n (lv' := [(2, .int x19), (0, .ref (ad 0)), (1, .int v2), (3, .int v4)]) hx hb dX10_harmedBy_121 rfl hl (by decide) rfl (fun ls hl => ?_)
      obtain ⟨x20, ex20, h⟩ := nm_s h
      refine lv_iinc (v := x20) (lv' := [(3, .int x20), (2, .int x19), (0, .ref (ad 0)), (1, .int v2)]) hx hb dX10_harmedBy_122 hl (k := 3) rfl (by rw [ex20]; rfl) (by decide) rfl (fun ls hl => ?_)
      refine lv_goto (tgt := 4) hx hb dX10_harmedBy_125 (by decide) ?_
      exact hK4 h X (lv_sub hl [2, 3, 1, 0] rfl) 
    · have h := inn h c18
      refine lv_iconst (v := (0 : Int32)) hx hb dX10_harmedBy_113 (by decide) ?_
      refine lv_goto (tgt := 120) hx hb dX10_harmedBy_114 (by decide) ?_
      refine lv_ior hx hb dX10_harmedBy_120 ?_
      obtain ⟨x21, ex21, h⟩ := nm_s h
      refine tp_i ex21 ?_
      refine lv_istore_n (lv' := [(2, .int x21), (0, .ref (ad 0)), (1, .int v2), (3, .int v4)]) hx hb dX10_harmedBy_121 rfl hl (by decide) rfl (fun ls hl => ?_)
      obtain ⟨x22, ex22, h⟩ := nm_s h
      refine lv_iinc (v := x22) (lv' := [(3, .int x22), (2, .int x21), (0, .ref (ad 0)), (1, .int v2)]) hx hb dX10_harmedBy_122 hl (k := 3) rfl (by rw [ex22]; rfl) (by decide) rfl (fun ls hl => ?_)
      refine lv_goto (tgt := 4) hx hb dX10_harmedBy_125 (by decide) ?_
      exact hK4 h X (lv_sub hl [2, 3, 1, 0] rfl) 
set_option maxHeartbeats 4000000 in
set_option maxRecDepth 100000 in
theorem kb_X10_harmedBy_62 {p : Program} {l : Launch} {e : Env} {s : State} {m : MethodId} {args : Array Value} {below : List Frame} {meth : Method} {c : Code} {g : GG} {ad : Nat → Nat} {res : (Int32 × ST)} {S : ST} (C : CX kM g ad p s m args meth c cX10_harmedBy (some Jvm.ClassFile.FieldType.int) 4 yX10_harmedBy.cls (.code yX10_harmedBy cX10_harmedBy 4 (some Jvm.ClassFile.FieldType.int))) {K4 : Int32 → Int32 → Int32 → ST → Option (Int32 × ST)} (hK4 : ∀ {v2 : Int32} {v3 : Int32} {v4 : Int32} {S : ST} {H : Heap} {locs : List Loc} {ls : Array Slot}, K4 v2 v3 v4 S = some res → WX kM g ad s S H locs → lv_has ls 4 [(0, .ref (ad 0)), (1, .int v2), (2, .int v3), (3, .int v4)] → W p l e rmX10_harmedBy s m args below meth c H locs 0 0 (MQ below (QI kM g ad res (AA kM ad s.heap.size)) args s 0 0 (AA kM ad s.heap.size)) (F0 m 4 ls [])) {v2 : Int32} {v3 : Int32} {v4 : Int32} {v5 : Int32}  {H : Heap} {locs : List Loc} {ls : Array Slot} (h : b_X10_harmedBy_62 K4 v2 v3 v4 v5 S = some res) (X : WX kM g ad s S H locs) (hl : lv_has ls 4 [(0, .ref (ad 0)), (1, .int v2), (2, .int v3), (3, .int v4)])  : W p l e rmX10_harmedBy s m args below meth c H locs 0 0 (MQ below (QI kM g ad res (AA kM ad s.heap.size)) args s 0 0 (AA kM ad s.heap.size)) (F0 m 62 ls [.int v5, .ref (ad 0)]) := by
  have hx := C.1.1
  have hb := C.1.2.1
  have h : (nm (su S 0 23 v5) fun S7 => if (v2 &&& ((16 : Int32))) = ((16 : Int32)) then (b_X10_harmedBy_83 K4 v2 v3 v4 ((0 : Int32)) S7) else (b_X10_harmedBy_83 K4 v2 v3 v4 (S7.1 0 27) S7) : Option (Int32 × ST)) = some res := h
  obtain ⟨S7, eS7, h⟩ := nm_s h
  refine g_put (S' := S7) C X inT10 tyX10 tyX10_ok nmX10 0 (by decide) (eM_0 g ad S) rfl 23 (by decide) wd_1029 rfl (by rfl) rfl (Nat.le_of_ble_eq_true rfl) (by subst eS7; rfl) (by subst eS7; exact fun i hi => ent_offu hi) dX10_harmedBy_62 (fun H locs X => ?_)
  refine lv_aload_n hx hb dX10_harmedBy_65 rfl (lv_at hl 0 rfl) ?_
  refine lv_iload_n hx hb dX10_harmedBy_66 rfl (lv_at hl 1 rfl) ?_
  refine lv_bipush (v := (16 : Int32)) hx hb dX10_harmedBy_67 (by decide) ?_
  refine lv_iand hx hb dX10_harmedBy_69 ?_
  refine lv_bipush (v := (16 : Int32)) hx hb dX10_harmedBy_70 (by decide) ?_
  refine lv_icmp_ne (tgt := 79) hx hb dX10_harmedBy_72 (by decide) (fun c8 => ?_) (fun c8 => ?_)
  · have h := inn h c8
    refine lv_aload_n hx hb dX10_harmedBy_79 rfl (lv_at hl 0 rfl) ?_
    refine g_get C X inT10 0 (by decide) (eM_0 g ad S7) rfl 27 (by decide) wd_1033 (v := .int (S7.1 0 27)) rfl dX10_harmedBy_80 ?_
    exact kb_X10_harmedBy_83 C hK4 h X (lv_sub hl [0, 1, 2, 3] rfl) 
  · have h := ip h c8
    refine lv_iconst (v := (0 : Int32)) hx hb dX10_harmedBy_75 (by decide) ?_
    refine lv_goto (tgt := 83) hx hb dX10_harmedBy_76 (by decide) ?_
    exact kb_X10_harmedBy_83 C hK4 h X (lv_sub hl [0, 1, 2, 3] rfl) 
set_option maxHeartbeats 4000000 in
set_option maxRecDepth 100000 in
theorem kb_X10_harmedBy_37 {p : Program} {l : Launch} {e : Env} {s : State} {m : MethodId} {args : Array Value} {below : List Frame} {meth : Method} {c : Code} {g : GG} {ad : Nat → Nat} {res : (Int32 × ST)} {S : ST} (C : CX kM g ad p s m args meth c cX10_harmedBy (some Jvm.ClassFile.FieldType.int) 4 yX10_harmedBy.cls (.code yX10_harmedBy cX10_harmedBy 4 (some Jvm.ClassFile.FieldType.int))) {K4 : Int32 → Int32 → Int32 → ST → Option (Int32 × ST)} (hK4 : ∀ {v2 : Int32} {v3 : Int32} {v4 : Int32} {S : ST} {H : Heap} {locs : List Loc} {ls : Array Slot}, K4 v2 v3 v4 S = some res → WX kM g ad s S H locs → lv_has ls 4 [(0, .ref (ad 0)), (1, .int v2), (2, .int v3), (3, .int v4)] → W p l e rmX10_harmedBy s m args below meth c H locs 0 0 (MQ below (QI kM g ad res (AA kM ad s.heap.size)) args s 0 0 (AA kM ad s.heap.size)) (F0 m 4 ls [])) {v2 : Int32} {v3 : Int32} {v4 : Int32} {v5 : Int32}  {H : Heap} {locs : List Loc} {ls : Array Slot} (h : b_X10_harmedBy_37 K4 v2 v3 v4 v5 S = some res) (X : WX kM g ad s S H locs) (hl : lv_has ls 4 [(0, .ref (ad 0)), (1, .int v2), (2, .int v3), (3, .int v4)])  : W p l e rmX10_harmedBy s m args below meth c H locs 0 0 (MQ below (QI kM g ad res (AA kM ad s.heap.size)) args s 0 0 (AA kM ad s.heap.size)) (F0 m 37 ls [.int v5, .ref (ad 0)]) := by
  have hx := C.1.1
  have hb := C.1.2.1
  have h : (nm (su S 0 22 v5) fun S5 => if (v2 &&& ((8 : Int32))) = ((8 : Int32)) then (bn1 (f_X10_strengthIn ((0 : Int32)) S5) fun r23 => b_X10_harmedBy_62 K4 v2 v3 v4 r23 S5) else (b_X10_harmedBy_62 K4 v2 v3 v4 (S5.1 0 23) S5) : Option (Int32 × ST)) = some res := h
  obtain ⟨S5, eS5, h⟩ := nm_s h
  refine g_put (S' := S5) C X inT10 tyX10 tyX10_ok nmX10 0 (by decide) (eM_0 g ad S) rfl 22 (by decide) wd_1028 rfl (by rfl) rfl (Nat.le_of_ble_eq_true rfl) (by subst eS5; rfl) (by subst eS5; exact fun i hi => ent_offu hi) dX10_harmedBy_37 (fun H locs X => ?_)
  refine lv_aload_n hx hb dX10_harmedBy_40 rfl (lv_at hl 0 rfl) ?_
  refine lv_iload_n hx hb dX10_harmedBy_41 rfl (lv_at hl 1 rfl) ?_
  refine lv_bipush (v := (8 : Int32)) hx hb dX10_harmedBy_42 (by decide) ?_
  refine lv_iand hx hb dX10_harmedBy_44 ?_
  refine lv_bipush (v := (8 : Int32)) hx hb dX10_harmedBy_45 (by decide) ?_
  refine lv_icmp_ne (tgt := 58) hx hb dX10_harmedBy_47 (by decide) (fun c6 => ?_) (fun c6 => ?_)
  · have h := inn h c6
    refine lv_aload_n hx hb dX10_harmedBy_58 rfl (lv_at hl 0 rfl) ?_
    refine g_get C X inT10 0 (by decide) (eM_0 g ad S5) rfl 23 (by decide) wd_1029 (v := .int (S5.1 0 23)) rfl dX10_harmedBy_59 ?_
    exact kb_X10_harmedBy_62 C hK4 h X (lv_sub hl [0, 1, 2, 3] rfl) 
  · have h := ip h c6
    refine lv_aload_n hx hb dX10_harmedBy_50 rfl (lv_at hl 0 rfl) ?_
    refine lv_iconst (v := (0 : Int32)) hx hb dX10_harmedBy_51 (by decide) ?_
    obtain ⟨r23, qr23, h⟩ := bn1_s h
    refine kc_i X (res := (r23, S5)) (rV (As := [.int ((0 : Int32))]) (rest := [.ref (ad 0)]) (n := 1) (k := 0) C X (c_X10_strengthIn l g ad S5 _ ((0 : Int32))  qr23) wd_1282 wd_1284 wd_48 wd_83 wd_1285 (by decide) (eM_0 g ad S5) rfl rfl rfl (by decide +kernel) ⟨Nat.le_of_ble_eq_true rfl, Nat.le_of_ble_eq_true rfl⟩ rfl hl.1 (lv_room (Nat.le_of_ble_eq_true rfl)) dX10_harmedBy_52) (fun H locs X => ?_)
    refine lv_goto (tgt := 62) hx hb dX10_harmedBy_55 (by decide) ?_
    exact kb_X10_harmedBy_62 C hK4 h X (lv_sub hl [0, 1, 2, 3] rfl) 
set_option maxHeartbeats 4000000 in
set_option maxRecDepth 100000 in
theorem kb_X10_harmedBy_4 {p : Program} {l : Launch} {e : Env} {s : State} {m : MethodId} {args : Array Value} {below : List Frame} {meth : Method} {c : Code} {g : GG} {ad : Nat → Nat} {res : (Int32 × ST)} {S : ST} (C : CX kM g ad p s m args meth c cX10_harmedBy (some Jvm.ClassFile.FieldType.int) 4 yX10_harmedBy.cls (.code yX10_harmedBy cX10_harmedBy 4 (some Jvm.ClassFile.FieldType.int))) {K4 : Int32 → Int32 → Int32 → ST → Option (Int32 × ST)} (hK4 : ∀ {v2 : Int32} {v3 : Int32} {v4 : Int32} {S : ST} {H : Heap} {locs : List Loc} {ls : Array Slot}, K4 v2 v3 v4 S = some res → WX kM g ad s S H locs → lv_has ls 4 [(0, .ref (ad 0)), (1, .int v2), (2, .int v3), (3, .int v4)] → W p l e rmX10_harmedBy s m args below meth c H locs 0 0 (MQ below (QI kM g ad res (AA kM ad s.heap.size)) args s 0 0 (AA kM ad s.heap.size)) (F0 m 4 ls [])) {v2 : Int32} {v3 : Int32} {v4 : Int32}  {H : Heap} {locs : List Loc} {ls : Array Slot} (h : b_X10_harmedBy_4 K4 v2 v3 v4 S = some res) (X : WX kM g ad s S H locs) (hl : lv_has ls 4 [(0, .ref (ad 0)), (1, .int v2), (2, .int v3), (3, .int v4)])  : W p l e rmX10_harmedBy s m args below meth c H locs 0 0 (MQ below (QI kM g ad res (AA kM ad s.heap.size)) args s 0 0 (AA kM ad s.heap.size)) (F0 m 4 ls []) := by
  have hx := C.1.1
  have hb := C.1.2.1
  have h : (if (S.1 0 4) ≤ v4 then (some (v3, S)) else (bn1 (f_X10_useHand S) fun S2 => bn1 (f_X10_usePerson v4 S2) fun S3 => if (v2 &&& ((4 : Int32))) = ((4 : Int32)) then (b_X10_harmedBy_37 K4 v2 v3 v4 ((0 : Int32)) S3) else (b_X10_harmedBy_37 K4 v2 v3 v4 (S3.1 0 22) S3)) : Option (Int32 × ST)) = some res := h
  refine lv_iload_n hx hb dX10_harmedBy_4 rfl (lv_at hl 3 rfl) ?_
  refine lv_aload_n hx hb dX10_harmedBy_5 rfl (lv_at hl 0 rfl) ?_
  refine g_get C X inT10 0 (by decide) (eM_0 g ad S) rfl 4 (by decide) wd_1010 (v := .int (S.1 0 4)) rfl dX10_harmedBy_6 ?_
  refine lv_icmp_ge (tgt := 128) hx hb dX10_harmedBy_9 (by decide) (fun c1 => ?_) (fun c1 => ?_)
  · have h := ip h c1
    refine lv_iload_n hx hb dX10_harmedBy_128 rfl (lv_at hl 2 rfl) ?_
    exact rt_i C X rfl (Option.some.inj h) dX10_harmedBy_129
  · have h := inn h c1
    refine lv_aload_n hx hb dX10_harmedBy_12 rfl (lv_at hl 0 rfl) ?_
    obtain ⟨S2, qS2, h⟩ := bn1_s h
    refine kc_v X (res := S2) (rV (As := []) (rest := []) (n := 0) (k := 0) C X (c_X10_useHand l g ad S _   qS2) wd_1306 wd_1308 wd_49 wd_83 wd_1309 (by decide) (eM_0 g ad S) rfl rfl rfl (by decide +kernel) ⟨Nat.le_of_ble_eq_true rfl, Nat.le_of_ble_eq_true rfl⟩ rfl hl.1 (lv_room (Nat.le_of_ble_eq_true rfl)) dX10_harmedBy_13) (fun H locs X => ?_)
    refine lv_aload_n hx hb dX10_harmedBy_16 rfl (lv_at hl 0 rfl) ?_
    refine lv_iload_n hx hb dX10_harmedBy_17 rfl (lv_at hl 3 rfl) ?_
    obtain ⟨S3, qS3, h⟩ := bn1_s h
    refine kc_v X (res := S3) (rV (As := [.int v4]) (rest := []) (n := 1) (k := 0) C X (c_X10_usePerson l g ad S2 _ v4  qS3) wd_1310 wd_1312 wd_50 wd_83 wd_1313 (by decide) (eM_0 g ad S2) rfl rfl rfl (by decide +kernel) ⟨Nat.le_of_ble_eq_true rfl, Nat.le_of_ble_eq_true rfl⟩ rfl hl.1 (lv_room (Nat.le_of_ble_eq_true rfl)) dX10_harmedBy_18) (fun H locs X => ?_)
    refine lv_aload_n hx hb dX10_harmedBy_21 rfl (lv_at hl 0 rfl) ?_
    refine lv_iload_n hx hb dX10_harmedBy_22 rfl (lv_at hl 1 rfl) ?_
    refine lv_iconst (v := (4 : Int32)) hx hb dX10_harmedBy_23 (by decide) ?_
    refine lv_iand hx hb dX10_harmedBy_24 ?_
    refine lv_iconst (v := (4 : Int32)) hx hb dX10_harmedBy_25 (by decide) ?_
    refine lv_icmp_ne (tgt := 33) hx hb dX10_harmedBy_26 (by decide) (fun c4 => ?_) (fun c4 => ?_)
    · have h := inn h c4
      refine lv_aload_n hx hb dX10_harmedBy_33 rfl (lv_at hl 0 rfl) ?_
      refine g_get C X inT10 0 (by decide) (eM_0 g ad S3) rfl 22 (by decide) wd_1028 (v := .int (S3.1 0 22)) rfl dX10_harmedBy_34 ?_
      exact kb_X10_harmedBy_37 C hK4 h X (lv_sub hl [0, 1, 2, 3] rfl) 
    · have h := ip h c4
      refine lv_iconst (v := (0 : Int32)) hx hb dX10_harmedBy_29 (by decide) ?_
      refine lv_goto (tgt := 37) hx hb dX10_harmedBy_30 (by decide) ?_
      exact kb_X10_harmedBy_37 C hK4 h X (lv_sub hl [0, 1, 2, 3] rfl) 
set_option maxHeartbeats 4000000 in
set_option maxRecDepth 100000 in
theorem kl_X10_harmedBy_4 {p : Program} {l : Launch} {e : Env} {s : State} {m : MethodId} {args : Array Value} {below : List Frame} {meth : Method} {c : Code} {g : GG} {ad : Nat → Nat} {res : (Int32 × ST)}  (C : CX kM g ad p s m args meth c cX10_harmedBy (some Jvm.ClassFile.FieldType.int) 4 yX10_harmedBy.cls (.code yX10_harmedBy cX10_harmedBy 4 (some Jvm.ClassFile.FieldType.int)))  : ∀ (n : Nat) {v2 : Int32} {v3 : Int32} {v4 : Int32} {S : ST} {H : Heap} {locs : List Loc} {ls : Array Slot}, (lp (fun _ _ _ _ => none) (b_X10_harmedBy_4)) n v2 v3 v4 S = some res → WX kM g ad s S H locs → lv_has ls 4 [(0, .ref (ad 0)), (1, .int v2), (2, .int v3), (3, .int v4)] → W p l e rmX10_harmedBy s m args below meth c H locs 0 0 (MQ below (QI kM g ad res (AA kM ad s.heap.size)) args s 0 0 (AA kM ad s.heap.size)) (F0 m 4 ls []) := by
  intro n
  induction n with
  | zero =>
    intro v2 v3 v4 S H locs ls h
    cases (show (none : Option (Int32 × ST)) = some res from h)
  | succ n ih =>
    intro v2 v3 v4 S H locs ls h X hl 
    exact kb_X10_harmedBy_4 C ih h X hl 
set_option maxHeartbeats 4000000 in
set_option maxRecDepth 100000 in
theorem c_X10_harmedBy (l : Launch) (g : GG) (ad : Nat → Nat) (S : ST) (sz : Nat) (a1 : Int32)  {res : (Int32 × ST)} (h : f_X10_harmedBy a1 S = some res) : Met l yX10_harmedBy (WS (.code yX10_harmedBy cX10_harmedBy 4 (some Jvm.ClassFile.FieldType.int))) rmX10_harmedBy (va_Pc [.ref (ad 0), .int a1] (PW kM g ad S sz)) (QI kM g ad res (AA kM ad sz)) 0 0 (AA kM ad sz) := by
  refine go_m (Qc := fun A => QI kM g ad res A) (by decide) (Nat.le_of_ble_eq_true rfl) (fun p e s m below meth c ls H locs C X hl => ?_)
  have hx := C.1.1
  have hb := C.1.2.1
  have hl : lv_has ls 4 [(0, .ref (ad 0)), (1, .int a1)] := hl
  have h : (lp (fun _ _ _ _ => none) (b_X10_harmedBy_4) 1000 a1 ((0 : Int32)) ((0 : Int32)) S : Option (Int32 × ST)) = some res := h
  refine lv_iconst (v := (0 : Int32)) hx hb dX10_harmedBy_0 (by decide) ?_
  refine lv_istore_n (lv' := [(2, .int ((0 : Int32))), (0, .ref (ad 0)), (1, .int a1)]) hx hb dX10_harmedBy_1 rfl hl (by decide) rfl (fun ls hl => ?_)
  refine lv_iconst (v := (0 : Int32)) hx hb dX10_harmedBy_2 (by decide) ?_
  refine lv_istore_n (lv' := [(3, .int ((0 : Int32))), (2, .int ((0 : Int32))), (0, .ref (ad 0)), (1, .int a1)]) hx hb dX10_harmedBy_3 rfl hl (by decide) rfl (fun ls hl => ?_)
  exact kl_X10_harmedBy_4 C _ h X (lv_sub hl [2, 3, 1, 0] rfl) 

def rmX10_harmed : Room := { frames := 9, cells := 0, slots := 0, locals := 213 }
def f_X10_harmed (a1 : Int32) (S : ST) : Option (Int32 × ST) :=
  bn1 (f_X10_in (a1.toInt64) ((0 : Int64)) ((63 : Int64))) fun r1 => if r1 = 0 then (some ((-1000000002 : Int32), S)) else (bn1 (f_X10_findFarthest S) fun S3 => bnd (f_X10_harmedBy a1 S3) fun r5 S4 => some (r5, S4))
set_option maxHeartbeats 4000000 in
set_option maxRecDepth 100000 in
theorem c_X10_harmed (l : Launch) (g : GG) (ad : Nat → Nat) (S : ST) (sz : Nat) (a1 : Int32)  {res : (Int32 × ST)} (h : f_X10_harmed a1 S = some res) : Met l yX10_harmed (WS (.code yX10_harmed cX10_harmed 2 (some Jvm.ClassFile.FieldType.int))) rmX10_harmed (va_Pc [.ref (ad 0), .int a1] (PW kM g ad S sz)) (QI kM g ad res (AA kM ad sz)) 0 0 (AA kM ad sz) := by
  refine go_m (Qc := fun A => QI kM g ad res A) (by decide) (Nat.le_of_ble_eq_true rfl) (fun p e s m below meth c ls H locs C X hl => ?_)
  have hx := C.1.1
  have hb := C.1.2.1
  have hl : lv_has ls 2 [(0, .ref (ad 0)), (1, .int a1)] := hl
  have h : (bn1 (f_X10_in (a1.toInt64) ((0 : Int64)) ((63 : Int64))) fun r1 => if r1 = 0 then (some ((-1000000002 : Int32), S)) else (bn1 (f_X10_findFarthest S) fun S3 => bnd (f_X10_harmedBy a1 S3) fun r5 S4 => some (r5, S4)) : Option (Int32 × ST)) = some res := h
  refine lv_iload_n hx hb dX10_harmed_0 rfl (lv_at hl 1 rfl) ?_
  refine lv_i2l hx hb dX10_harmed_1 rfl ?_
  refine lv_lconst (v := (0 : Int64)) hx hb dX10_harmed_2 (by decide) ?_
  refine lv_ldc2 (v := (63 : Int64)) hx hb C.1.2.2.2.2.2.1 (C.1.2.2.2.2.2.2 _ (ws_in wd_1442)) dX10_harmed_3 ?_
  obtain ⟨r1, qr1, h⟩ := bn1_s h
  refine kc_i X (res := (r1, S)) (rS (As := [.long (a1.toInt64), .long ((0 : Int64)), .long ((63 : Int64))]) (rest := []) (n := 3) C X (c_X10_in l g ad S _ (a1.toInt64) ((0 : Int64)) ((63 : Int64))  qr1) wd_1151 wd_1152 wd_83 wd_1153 rfl rfl (by decide +kernel) ⟨Nat.le_of_ble_eq_true rfl, Nat.le_of_ble_eq_true rfl⟩ rfl hl.1 (lv_room (Nat.le_of_ble_eq_true rfl)) dX10_harmed_6) (fun H locs X => ?_)
  refine lv_if_ne (tgt := 15) hx hb dX10_harmed_9 (by decide) (fun c2 => ?_) (fun c2 => ?_)
  · have h := inn h c2
    refine lv_aload_n hx hb dX10_harmed_15 rfl (lv_at hl 0 rfl) ?_
    obtain ⟨S3, qS3, h⟩ := bn1_s h
    refine kc_v X (res := S3) (rV (As := []) (rest := []) (n := 0) (k := 0) C X (c_X10_findFarthest l g ad S _   qS3) wd_1443 wd_1445 wd_65 wd_83 wd_1446 (by decide) (eM_0 g ad S) rfl rfl rfl (by decide +kernel) ⟨Nat.le_of_ble_eq_true rfl, Nat.le_of_ble_eq_true rfl⟩ rfl hl.1 (lv_room (Nat.le_of_ble_eq_true rfl)) dX10_harmed_16) (fun H locs X => ?_)
    refine lv_aload_n hx hb dX10_harmed_19 rfl (lv_at hl 0 rfl) ?_
    refine lv_iload_n hx hb dX10_harmed_20 rfl (lv_at hl 1 rfl) ?_
    obtain ⟨r5, S4, qr5, h⟩ := bnd_s h
    refine kc_i X (res := (r5, S4)) (rV (As := [.int a1]) (rest := []) (n := 1) (k := 0) C X (c_X10_harmedBy l g ad S3 _ a1  qr5) wd_1447 wd_1449 wd_66 wd_83 wd_1450 (by decide) (eM_0 g ad S3) rfl rfl rfl (by decide +kernel) ⟨Nat.le_of_ble_eq_true rfl, Nat.le_of_ble_eq_true rfl⟩ rfl hl.1 (lv_room (Nat.le_of_ble_eq_true rfl)) dX10_harmed_21) (fun H locs X => ?_)
    exact rt_i C X rfl (Option.some.inj h) dX10_harmed_24
  · have h := ip h c2
    refine lv_ldc (v := (-1000000002 : Int32)) hx hb C.1.2.2.2.2.2.1 (C.1.2.2.2.2.2.2 _ (ws_in wd_1154)) dX10_harmed_12 ?_
    exact rt_i C X rfl (Option.some.inj h) dX10_harmed_14

def rmX10_bits : Room := { frames := 0, cells := 0, slots := 0, locals := 0 }
def b_X10_bits_4 (K4 : Int32 → Int32 → Int32 → Option Int32) (v1 : Int32) (v2 : Int32) (v3 : Int32) : Option Int32 :=
  if ((6 : Int32)) ≤ v3 then (some v2) else (nm (v2 + ((v1 >>> (v3 &&& 31)) &&& ((1 : Int32)))) fun x2 => nm (v3 + (1 : Int32)) fun x3 => K4 v1 x2 x3)
def f_X10_bits (a1 : Int32) : Option Int32 :=
  lp (fun _ _ _ => none) (b_X10_bits_4) 1000 a1 ((0 : Int32)) ((0 : Int32))
set_option maxHeartbeats 4000000 in
set_option maxRecDepth 100000 in
theorem kb_X10_bits_4 {p : Program} {l : Launch} {e : Env} {s : State} {m : MethodId} {args : Array Value} {below : List Frame} {meth : Method} {c : Code} {g : GG} {ad : Nat → Nat} {res : Int32} {S : ST} (C : CX kM g ad p s m args meth c cX10_bits (some Jvm.ClassFile.FieldType.int) 3 yX10_bits.cls (.code yX10_bits cX10_bits 3 (some Jvm.ClassFile.FieldType.int))) {K4 : Int32 → Int32 → Int32 → Option Int32} (hK4 : ∀ {v1 : Int32} {v2 : Int32} {v3 : Int32} {H : Heap} {locs : List Loc} {ls : Array Slot}, K4 v1 v2 v3 = some res → WX kM g ad s S H locs → lv_has ls 3 [(0, .int v1), (1, .int v2), (2, .int v3)] → W p l e rmX10_bits s m args below meth c H locs 0 0 (MQ below (QI kM g ad (res, S) (AA kM ad s.heap.size)) args s 0 0 (AA kM ad s.heap.size)) (F0 m 4 ls [])) {v1 : Int32} {v2 : Int32} {v3 : Int32}  {H : Heap} {locs : List Loc} {ls : Array Slot} (h : b_X10_bits_4 K4 v1 v2 v3 = some res) (X : WX kM g ad s S H locs) (hl : lv_has ls 3 [(0, .int v1), (1, .int v2), (2, .int v3)])  : W p l e rmX10_bits s m args below meth c H locs 0 0 (MQ below (QI kM g ad (res, S) (AA kM ad s.heap.size)) args s 0 0 (AA kM ad s.heap.size)) (F0 m 4 ls []) := by
  have hx := C.1.1
  have hb := C.1.2.1
  have h : (if ((6 : Int32)) ≤ v3 then (some v2) else (nm (v2 + ((v1 >>> (v3 &&& 31)) &&& ((1 : Int32)))) fun x2 => nm (v3 + (1 : Int32)) fun x3 => K4 v1 x2 x3) : Option Int32) = some res := h
  refine lv_iload_n hx hb dX10_bits_4 rfl (lv_at hl 2 rfl) ?_
  refine lv_bipush (v := (6 : Int32)) hx hb dX10_bits_5 (by decide) ?_
  refine lv_icmp_ge (tgt := 24) hx hb dX10_bits_7 (by decide) (fun c1 => ?_) (fun c1 => ?_)
  · have h := ip h c1
    refine lv_iload_n hx hb dX10_bits_24 rfl (lv_at hl 1 rfl) ?_
    exact rt_i C X rfl (congrArg (fun z => (z, S)) (Option.some.inj h)) dX10_bits_25
  · have h := inn h c1
    refine lv_iload_n hx hb dX10_bits_10 rfl (lv_at hl 1 rfl) ?_
    refine lv_iload_n hx hb dX10_bits_11 rfl (lv_at hl 0 rfl) ?_
    refine lv_iload_n hx hb dX10_bits_12 rfl (lv_at hl 2 rfl) ?_
    refine lv_ishr hx hb dX10_bits_13 ?_
    refine lv_iconst (v := (1 : Int32)) hx hb dX10_bits_14 (by decide) ?_
    refine lv_iand hx hb dX10_bits_15 ?_
    refine lv_iadd hx hb dX10_bits_16 ?_
    obtain ⟨x2, ex2, h⟩ := nm_s h
    refine tp_i ex2 ?_
    refine lv_istore_n (lv' := [(1, .int x2), (0, .int v1), (2, .int v3)]) hx hb dX10_bits_17 rfl hl (by decide) rfl (fun ls hl => ?_)
    obtain ⟨x3, ex3, h⟩ := nm_s h
    refine lv_iinc (v := x3) (lv' := [(2, .int x3), (1, .int x2), (0, .int v1)]) hx hb dX10_bits_18 hl (k := 2) rfl (by rw [ex3]; rfl) (by decide) rfl (fun ls hl => ?_)
    refine lv_goto (tgt := 4) hx hb dX10_bits_21 (by decide) ?_
    exact hK4 h X (lv_sub hl [2, 1, 0] rfl) 
set_option maxHeartbeats 4000000 in
set_option maxRecDepth 100000 in
theorem kl_X10_bits_4 {p : Program} {l : Launch} {e : Env} {s : State} {m : MethodId} {args : Array Value} {below : List Frame} {meth : Method} {c : Code} {g : GG} {ad : Nat → Nat} {res : Int32} {S : ST} (C : CX kM g ad p s m args meth c cX10_bits (some Jvm.ClassFile.FieldType.int) 3 yX10_bits.cls (.code yX10_bits cX10_bits 3 (some Jvm.ClassFile.FieldType.int)))  : ∀ (n : Nat) {v1 : Int32} {v2 : Int32} {v3 : Int32} {H : Heap} {locs : List Loc} {ls : Array Slot}, (lp (fun _ _ _ => none) (b_X10_bits_4)) n v1 v2 v3 = some res → WX kM g ad s S H locs → lv_has ls 3 [(0, .int v1), (1, .int v2), (2, .int v3)] → W p l e rmX10_bits s m args below meth c H locs 0 0 (MQ below (QI kM g ad (res, S) (AA kM ad s.heap.size)) args s 0 0 (AA kM ad s.heap.size)) (F0 m 4 ls []) := by
  intro n
  induction n with
  | zero =>
    intro v1 v2 v3 H locs ls h
    cases (show (none : Option Int32) = some res from h)
  | succ n ih =>
    intro v1 v2 v3 H locs ls h X hl 
    exact kb_X10_bits_4 C ih h X hl 
set_option maxHeartbeats 4000000 in
set_option maxRecDepth 100000 in
theorem c_X10_bits (l : Launch) (g : GG) (ad : Nat → Nat) (S : ST) (sz : Nat) (a1 : Int32)  {res : Int32} (h : f_X10_bits a1 = some res) : Met l yX10_bits (WS (.code yX10_bits cX10_bits 3 (some Jvm.ClassFile.FieldType.int))) rmX10_bits (va_Pc [.int a1] (PW kM g ad S sz)) (QI kM g ad (res, S) (AA kM ad sz)) 0 0 (AA kM ad sz) := by
  refine go_m (Qc := fun A => QI kM g ad (res, S) A) (by decide) (Nat.le_of_ble_eq_true rfl) (fun p e s m below meth c ls H locs C X hl => ?_)
  have hx := C.1.1
  have hb := C.1.2.1
  have hl : lv_has ls 3 [(0, .int a1)] := hl
  have h : (lp (fun _ _ _ => none) (b_X10_bits_4) 1000 a1 ((0 : Int32)) ((0 : Int32)) : Option Int32) = some res := h
  refine lv_iconst (v := (0 : Int32)) hx hb dX10_bits_0 (by decide) ?_
  refine lv_istore_n (lv' := [(1, .int ((0 : Int32))), (0, .int a1)]) hx hb dX10_bits_1 rfl hl (by decide) rfl (fun ls hl => ?_)
  refine lv_iconst (v := (0 : Int32)) hx hb dX10_bits_2 (by decide) ?_
  refine lv_istore_n (lv' := [(2, .int ((0 : Int32))), (1, .int ((0 : Int32))), (0, .int a1)]) hx hb dX10_bits_3 rfl hl (by decide) rfl (fun ls hl => ?_)
  exact kl_X10_bits_4 C _ h X (lv_sub hl [2, 1, 0] rfl) 

def rmX10_enough : Room := { frames := 9, cells := 0, slots := 0, locals := 213 }
def b_X10_enough_34 (K8 : Int32 → Int32 → ST → Option (Int32 × ST)) (v2 : Int32) (v3 : Int32) (v4 : Int32) (S : ST) : Option (Int32 × ST) :=
  if v4 = 0 then (nm (v3 + (1 : Int32)) fun x5 => K8 v2 x5 S) else (bnd (f_X10_harmedBy v3 S) fun r7 S6 => if r7 = 0 then (nm (v3 + (1 : Int32)) fun x10 => K8 v3 x10 S6) else (nm (v3 + (1 : Int32)) fun x9 => K8 v2 x9 S6))
def b_X10_enough_8 (K8 : Int32 → Int32 → ST → Option (Int32 × ST)) (v2 : Int32) (v3 : Int32) (S : ST) : Option (Int32 × ST) :=
  if ((64 : Int32)) ≤ v3 then (some (v2, S)) else (if v2 < 0 then (b_X10_enough_34 K8 v2 v3 ((1 : Int32)) S) else (bn1 (f_X10_bits v3) fun r11 => bn1 (f_X10_bits v2) fun r12 => if r12 ≤ r11 then (b_X10_enough_34 K8 v2 v3 ((0 : Int32)) S) else (b_X10_enough_34 K8 v2 v3 ((1 : Int32)) S)))
def f_X10_enough  (S : ST) : Option (Int32 × ST) :=
  bn1 (f_X10_findFarthest S) fun S1 => lp (fun _ _ _ => none) (b_X10_enough_8) 1000 ((-1 : Int32)) ((0 : Int32)) S1
set_option maxHeartbeats 4000000 in
set_option maxRecDepth 100000 in
theorem kb_X10_enough_34 {p : Program} {l : Launch} {e : Env} {s : State} {m : MethodId} {args : Array Value} {below : List Frame} {meth : Method} {c : Code} {g : GG} {ad : Nat → Nat} {res : (Int32 × ST)} {S : ST} (C : CX kM g ad p s m args meth c cX10_enough (some Jvm.ClassFile.FieldType.int) 4 yX10_enough.cls (.code yX10_enough cX10_enough 4 (some Jvm.ClassFile.FieldType.int))) {K8 : Int32 → Int32 → ST → Option (Int32 × ST)} (hK8 : ∀ {v2 : Int32} {v3 : Int32} {S : ST} {H : Heap} {locs : List Loc} {ls : Array Slot}, K8 v2 v3 S = some res → WX kM g ad s S H locs → lv_has ls 4 [(0, .ref (ad 0)), (1, .int v2), (2, .int v3)] → W p l e rmX10_enough s m args below meth c H locs 0 0 (MQ below (QI kM g ad res (AA kM ad s.heap.size)) args s 0 0 (AA kM ad s.heap.size)) (F0 m 8 ls [])) {v2 : Int32} {v3 : Int32} {v4 : Int32}  {H : Heap} {locs : List Loc} {ls : Array Slot} (h : b_X10_enough_34 K8 v2 v3 v4 S = some res) (X : WX kM g ad s S H locs) (hl : lv_has ls 4 [(0, .ref (ad 0)), (1, .int v2), (2, .int v3)])  : W p l e rmX10_enough s m args below meth c H locs 0 0 (MQ below (QI kM g ad res (AA kM ad s.heap.size)) args s 0 0 (AA kM ad s.heap.size)) (F0 m 34 ls [.int v4]) := by
  have hx := C.1.1
  have hb := C.1.2.1
  have h : (if v4 = 0 then (nm (v3 + (1 : Int32)) fun x5 => K8 v2 x5 S) else (bnd (f_X10_harmedBy v3 S) fun r7 S6 => if r7 = 0 then (nm (v3 + (1 : Int32)) fun x10 => K8 v3 x10 S6) else (nm (v3 + (1 : Int32)) fun x9 => K8 v2 x9 S6)) : Option (Int32 × ST)) = some res := h
  refine lv_istore_n (lv' := [(3, .int v4), (0, .ref (ad 0)), (1, .int v2), (2, .int v3)]) hx hb dX10_enough_34 rfl hl (by decide) rfl (fun ls hl => ?_)
  refine lv_iload_n hx hb dX10_enough_35 rfl (lv_at hl 0 rfl) ?_
  refine lv_if_eq (tgt := 51) hx hb dX10_enough_36 (by decide) (fun c4 => ?_) (fun c4 => ?_)
  · have h := ip h c4
    refine lv_iload_n hx hb dX10_enough_51 rfl (lv_at hl 2 rfl) ?_
    refine lv_istore_n (lv' := [(1, .int v2), (3, .int v4), (0, .ref (ad 0)), (2, .int v3)]) hx hb dX10_enough_52 rfl hl (by decide) rfl (fun ls hl => ?_)
    obtain ⟨x5, ex5, h⟩ := nm_s h
    refine lv_iinc (v := x5) (lv' := [(2, .int x5), (1, .int v2), (3, .int v4), (0, .ref (ad 0))]) hx hb dX10_enough_53 hl (k := 3) rfl (by rw [ex5]; rfl) (by decide) rfl (fun ls hl => ?_)
    refine lv_goto (tgt := 8) hx hb dX10_enough_56 (by decide) ?_
    exact hK8 h X (lv_sub hl [3, 1, 0] rfl) 
  · have h := inn h c4
    refine lv_aload_n hx hb dX10_enough_39 rfl (lv_at hl 1 rfl) ?_
    refine lv_iload_n hx hb dX10_enough_40 rfl (lv_at hl 3 rfl) ?_
    obtain ⟨r7, S6, qr7, h⟩ := bnd_s h
    refine kc_i X (res := (r7, S6)) (rV (As := [.int v3]) (rest := []) (n := 1) (k := 0) C X (c_X10_harmedBy l g ad S _ v3  qr7) wd_1447 wd_1449 wd_66 wd_83 wd_1450 (by decide) (eM_0 g ad S) rfl rfl rfl (by decide +kernel) ⟨Nat.le_of_ble_eq_true rfl, Nat.le_of_ble_eq_true rfl⟩ rfl hl.1 (lv_room (Nat.le_of_ble_eq_true rfl)) dX10_enough_41) (fun H locs X => ?_)
    refine lv_if_ne (tgt := 51) hx hb dX10_enough_44 (by decide) (fun c8 => ?_) (fun c8 => ?_)
    · have h := inn h c8
      refine lv_iload_n hx hb dX10_enough_51 rfl (lv_at hl 2 rfl) ?_
      refine lv_istore_n (lv' := [(1, .int v2), (3, .int v4), (0, .ref (ad 0)), (2, .int v3)]) hx hb dX10_enough_52 rfl hl (by decide) rfl (fun ls hl => ?_)
      obtain ⟨x9, ex9, h⟩ := nm_s h
      refine lv_iinc (v := x9) (lv' := [(2, .int x9), (1, .int v2), (3, .int v4), (0, .ref (ad 0))]) hx hb dX10_enough_53 hl (k := 3) rfl (by rw [ex9]; rfl) (by decide) rfl (fun ls hl => ?_)
      refine lv_goto (tgt := 8) hx hb dX10_enough_56 (by decide) ?_
      exact hK8 h X (lv_sub hl [3, 1, 0] rfl) 
    · have h := ip h c8
      refine lv_iload_n hx hb dX10_enough_47 rfl (lv_at hl 3 rfl) ?_
      refine lv_goto (tgt := 52) hx hb dX10_enough_48 (by decide) ?_
      refine lv_istore_n (lv' := [(1, .int v3), (3, .int v4), (0, .ref (ad 0)), (2, .int v3)]) hx hb dX10_enough_52 rfl hl (by decide) rfl (fun ls hl => ?_)
      obtain ⟨x10, ex10, h⟩ := nm_s h
      refine lv_iinc (v := x10) (lv' := [(2, .int x10), (1, .int v3), (3, .int v4), (0, .ref (ad 0))]) hx hb dX10_enough_53 hl (k := 3) rfl (by rw [ex10]; rfl) (by decide) rfl (fun ls hl => ?_)
      refine lv_goto (tgt := 8) hx hb dX10_enough_56 (by decide) ?_
      exact hK8 h X (lv_sub hl [3, 1, 0] rfl) 
set_option maxHeartbeats 4000000 in
set_option maxRecDepth 100000 in
theorem kb_X10_enough_8 {p : Program} {l : Launch} {e : Env} {s : State} {m : MethodId} {args : Array Value} {below : List Frame} {meth : Method} {c : Code} {g : GG} {ad : Nat → Nat} {res : (Int32 × ST)} {S : ST} (C : CX kM g ad p s m args meth c cX10_enough (some Jvm.ClassFile.FieldType.int) 4 yX10_enough.cls (.code yX10_enough cX10_enough 4 (some Jvm.ClassFile.FieldType.int))) {K8 : Int32 → Int32 → ST → Option (Int32 × ST)} (hK8 : ∀ {v2 : Int32} {v3 : Int32} {S : ST} {H : Heap} {locs : List Loc} {ls : Array Slot}, K8 v2 v3 S = some res → WX kM g ad s S H locs → lv_has ls 4 [(0, .ref (ad 0)), (1, .int v2), (2, .int v3)] → W p l e rmX10_enough s m args below meth c H locs 0 0 (MQ below (QI kM g ad res (AA kM ad s.heap.size)) args s 0 0 (AA kM ad s.heap.size)) (F0 m 8 ls [])) {v2 : Int32} {v3 : Int32}  {H : Heap} {locs : List Loc} {ls : Array Slot} (h : b_X10_enough_8 K8 v2 v3 S = some res) (X : WX kM g ad s S H locs) (hl : lv_has ls 4 [(0, .ref (ad 0)), (1, .int v2), (2, .int v3)])  : W p l e rmX10_enough s m args below meth c H locs 0 0 (MQ below (QI kM g ad res (AA kM ad s.heap.size)) args s 0 0 (AA kM ad s.heap.size)) (F0 m 8 ls []) := by
  have hx := C.1.1
  have hb := C.1.2.1
  have h : (if ((64 : Int32)) ≤ v3 then (some (v2, S)) else (if v2 < 0 then (b_X10_enough_34 K8 v2 v3 ((1 : Int32)) S) else (bn1 (f_X10_bits v3) fun r11 => bn1 (f_X10_bits v2) fun r12 => if r12 ≤ r11 then (b_X10_enough_34 K8 v2 v3 ((0 : Int32)) S) else (b_X10_enough_34 K8 v2 v3 ((1 : Int32)) S))) : Option (Int32 × ST)) = some res := h
  refine lv_iload_n hx hb dX10_enough_8 rfl (lv_at hl 2 rfl) ?_
  refine lv_bipush (v := (64 : Int32)) hx hb dX10_enough_9 (by decide) ?_
  refine lv_icmp_ge (tgt := 59) hx hb dX10_enough_11 (by decide) (fun c2 => ?_) (fun c2 => ?_)
  · have h := ip h c2
    refine lv_iload_n hx hb dX10_enough_59 rfl (lv_at hl 1 rfl) ?_
    exact rt_i C X rfl (Option.some.inj h) dX10_enough_60
  · have h := inn h c2
    refine lv_iload_n hx hb dX10_enough_14 rfl (lv_at hl 1 rfl) ?_
    refine lv_if_lt (tgt := 29) hx hb dX10_enough_15 (by decide) (fun c3 => ?_) (fun c3 => ?_)
    · have h := ip h c3
      refine lv_iconst (v := (1 : Int32)) hx hb dX10_enough_29 (by decide) ?_
      refine lv_goto (tgt := 34) hx hb dX10_enough_30 (by decide) ?_
      exact kb_X10_enough_34 C hK8 h X (lv_sub hl [0, 1, 2] rfl) 
    · have h := inn h c3
      refine lv_iload_n hx hb dX10_enough_18 rfl (lv_at hl 2 rfl) ?_
      obtain ⟨r11, qr11, h⟩ := bn1_s h
      refine kc_i X (res := (r11, S)) (rS (As := [.int v3]) (rest := []) (n := 1) C X (c_X10_bits l g ad S _ v3  qr11) wd_1459 wd_1460 wd_83 wd_1461 rfl rfl (by decide +kernel) ⟨Nat.le_of_ble_eq_true rfl, Nat.le_of_ble_eq_true rfl⟩ rfl hl.1 (lv_room (Nat.le_of_ble_eq_true rfl)) dX10_enough_19) (fun H locs X => ?_)
      refine lv_iload_n hx hb dX10_enough_22 rfl (lv_at hl 1 rfl) ?_
      obtain ⟨r12, qr12, h⟩ := bn1_s h
      refine kc_i X (res := (r12, S)) (rS (As := [.int v2]) (rest := [.int r11]) (n := 1) C X (c_X10_bits l g ad S _ v2  qr12) wd_1459 wd_1460 wd_83 wd_1461 rfl rfl (by decide +kernel) ⟨Nat.le_of_ble_eq_true rfl, Nat.le_of_ble_eq_true rfl⟩ rfl hl.1 (lv_room (Nat.le_of_ble_eq_true rfl)) dX10_enough_23) (fun H locs X => ?_)
      refine lv_icmp_ge (tgt := 33) hx hb dX10_enough_26 (by decide) (fun c13 => ?_) (fun c13 => ?_)
      · have h := ip h c13
        refine lv_iconst (v := (0 : Int32)) hx hb dX10_enough_33 (by decide) ?_
        exact kb_X10_enough_34 C hK8 h X (lv_sub hl [0, 1, 2] rfl) 
      · have h := inn h c13
        refine lv_iconst (v := (1 : Int32)) hx hb dX10_enough_29 (by decide) ?_
        refine lv_goto (tgt := 34) hx hb dX10_enough_30 (by decide) ?_
        exact kb_X10_enough_34 C hK8 h X (lv_sub hl [0, 1, 2] rfl) 
set_option maxHeartbeats 4000000 in
set_option maxRecDepth 100000 in
theorem kl_X10_enough_8 {p : Program} {l : Launch} {e : Env} {s : State} {m : MethodId} {args : Array Value} {below : List Frame} {meth : Method} {c : Code} {g : GG} {ad : Nat → Nat} {res : (Int32 × ST)}  (C : CX kM g ad p s m args meth c cX10_enough (some Jvm.ClassFile.FieldType.int) 4 yX10_enough.cls (.code yX10_enough cX10_enough 4 (some Jvm.ClassFile.FieldType.int)))  : ∀ (n : Nat) {v2 : Int32} {v3 : Int32} {S : ST} {H : Heap} {locs : List Loc} {ls : Array Slot}, (lp (fun _ _ _ => none) (b_X10_enough_8)) n v2 v3 S = some res → WX kM g ad s S H locs → lv_has ls 4 [(0, .ref (ad 0)), (1, .int v2), (2, .int v3)] → W p l e rmX10_enough s m args below meth c H locs 0 0 (MQ below (QI kM g ad res (AA kM ad s.heap.size)) args s 0 0 (AA kM ad s.heap.size)) (F0 m 8 ls []) := by
  intro n
  induction n with
  | zero =>
    intro v2 v3 S H locs ls h
    cases (show (none : Option (Int32 × ST)) = some res from h)
  | succ n ih =>
    intro v2 v3 S H locs ls h X hl 
    exact kb_X10_enough_8 C ih h X hl 
set_option maxHeartbeats 4000000 in
set_option maxRecDepth 100000 in
theorem c_X10_enough (l : Launch) (g : GG) (ad : Nat → Nat) (S : ST) (sz : Nat)   {res : (Int32 × ST)} (h : f_X10_enough S = some res) : Met l yX10_enough (WS (.code yX10_enough cX10_enough 4 (some Jvm.ClassFile.FieldType.int))) rmX10_enough (va_Pc [.ref (ad 0)] (PW kM g ad S sz)) (QI kM g ad res (AA kM ad sz)) 0 0 (AA kM ad sz) := by
  refine go_m (Qc := fun A => QI kM g ad res A) (by decide) (Nat.le_of_ble_eq_true rfl) (fun p e s m below meth c ls H locs C X hl => ?_)
  have hx := C.1.1
  have hb := C.1.2.1
  have hl : lv_has ls 4 [(0, .ref (ad 0))] := hl
  have h : (bn1 (f_X10_findFarthest S) fun S1 => lp (fun _ _ _ => none) (b_X10_enough_8) 1000 ((-1 : Int32)) ((0 : Int32)) S1 : Option (Int32 × ST)) = some res := h
  refine lv_aload_n hx hb dX10_enough_0 rfl (lv_at hl 0 rfl) ?_
  obtain ⟨S1, qS1, h⟩ := bn1_s h
  refine kc_v X (res := S1) (rV (As := []) (rest := []) (n := 0) (k := 0) C X (c_X10_findFarthest l g ad S _   qS1) wd_1443 wd_1445 wd_65 wd_83 wd_1446 (by decide) (eM_0 g ad S) rfl rfl rfl (by decide +kernel) ⟨Nat.le_of_ble_eq_true rfl, Nat.le_of_ble_eq_true rfl⟩ rfl hl.1 (lv_room (Nat.le_of_ble_eq_true rfl)) dX10_enough_1) (fun H locs X => ?_)
  refine lv_iconst (v := (-1 : Int32)) hx hb dX10_enough_4 (by decide) ?_
  refine lv_istore_n (lv' := [(1, .int ((-1 : Int32))), (0, .ref (ad 0))]) hx hb dX10_enough_5 rfl hl (by decide) rfl (fun ls hl => ?_)
  refine lv_iconst (v := (0 : Int32)) hx hb dX10_enough_6 (by decide) ?_
  refine lv_istore_n (lv' := [(2, .int ((0 : Int32))), (1, .int ((-1 : Int32))), (0, .ref (ad 0))]) hx hb dX10_enough_7 rfl hl (by decide) rfl (fun ls hl => ?_)
  exact kl_X10_enough_8 C _ h X (lv_sub hl [2, 1, 0] rfl) 

def rmX10_seed : Room := { frames := 0, cells := 0, slots := 0, locals := 0 }
def f_X10_seed (a1 : Int32) (S : ST) : Option (Int32 × ST) :=
  if 0 ≤ a1 then (nm (S.1 0 42) fun x2 => nm (su S 0 42 a1) fun S3 => some (x2, S3)) else (some ((-1000000002 : Int32), S))
set_option maxHeartbeats 4000000 in
set_option maxRecDepth 100000 in
theorem c_X10_seed (l : Launch) (g : GG) (ad : Nat → Nat) (S : ST) (sz : Nat) (a1 : Int32)  {res : (Int32 × ST)} (h : f_X10_seed a1 S = some res) : Met l yX10_seed (WS (.code yX10_seed cX10_seed 3 (some Jvm.ClassFile.FieldType.int))) rmX10_seed (va_Pc [.ref (ad 0), .int a1] (PW kM g ad S sz)) (QI kM g ad res (AA kM ad sz)) 0 0 (AA kM ad sz) := by
  refine go_m (Qc := fun A => QI kM g ad res A) (by decide) (Nat.le_of_ble_eq_true rfl) (fun p e s m below meth c ls H locs C X hl => ?_)
  have hx := C.1.1
  have hb := C.1.2.1
  have hl : lv_has ls 3 [(0, .ref (ad 0)), (1, .int a1)] := hl
  have h : (if 0 ≤ a1 then (nm (S.1 0 42) fun x2 => nm (su S 0 42 a1) fun S3 => some (x2, S3)) else (some ((-1000000002 : Int32), S)) : Option (Int32 × ST)) = some res := h
  refine lv_iload_n hx hb dX10_seed_0 rfl (lv_at hl 1 rfl) ?_
  refine lv_if_ge (tgt := 7) hx hb dX10_seed_1 (by decide) (fun c1 => ?_) (fun c1 => ?_)
  · have h := ip h c1
    refine lv_aload_n hx hb dX10_seed_7 rfl (lv_at hl 0 rfl) ?_
    refine g_get C X inT10 0 (by decide) (eM_0 g ad S) rfl 42 (by decide) wd_1048 (v := .int (S.1 0 42)) rfl dX10_seed_8 ?_
    obtain ⟨x2, ex2, h⟩ := nm_s h
    refine tp_i ex2 ?_
    refine lv_istore_n (lv' := [(2, .int x2), (0, .ref (ad 0)), (1, .int a1)]) hx hb dX10_seed_11 rfl hl (by decide) rfl (fun ls hl => ?_)
    refine lv_aload_n hx hb dX10_seed_12 rfl (lv_at hl 1 rfl) ?_
    refine lv_iload_n hx hb dX10_seed_13 rfl (lv_at hl 2 rfl) ?_
    obtain ⟨S3, eS3, h⟩ := nm_s h
    refine g_put (S' := S3) C X inT10 tyX10 tyX10_ok nmX10 0 (by decide) (eM_0 g ad S) rfl 42 (by decide) wd_1048 rfl (by rfl) rfl (Nat.le_of_ble_eq_true rfl) (by subst eS3; rfl) (by subst eS3; exact fun i hi => ent_offu hi) dX10_seed_14 (fun H locs X => ?_)
    refine lv_iload_n hx hb dX10_seed_17 rfl (lv_at hl 0 rfl) ?_
    exact rt_i C X rfl (Option.some.inj h) dX10_seed_18
  · have h := inn h c1
    refine lv_ldc (v := (-1000000002 : Int32)) hx hb C.1.2.2.2.2.2.1 (C.1.2.2.2.2.2.2 _ (ws_in wd_1154)) dX10_seed_4 ?_
    exact rt_i C X rfl (Option.some.inj h) dX10_seed_6

def rmX10_draw : Room := { frames := 0, cells := 0, slots := 0, locals := 0 }
def f_X10_draw (a1 : Int32) (S : ST) : Option (Int32 × ST) :=
  nm (su S 0 42 ((((((S.1 0 42).toInt64) * ((1103515245 : Int64))) + ((12345 : Int64))) - ((((S.1 0 42).toInt64) * ((1103515245 : Int64))) + ((12345 : Int64))) / ((2147483648 : Int64)) * ((2147483648 : Int64))).toInt32)) fun S1 => chk (nz a1) (some (((S1.1 0 42) / ((65536 : Int32))) - ((S1.1 0 42) / ((65536 : Int32))) / a1 * a1, S1))
set_option maxHeartbeats 4000000 in
set_option maxRecDepth 100000 in
theorem c_X10_draw (l : Launch) (g : GG) (ad : Nat → Nat) (S : ST) (sz : Nat) (a1 : Int32)  {res : (Int32 × ST)} (h : f_X10_draw a1 S = some res) : Met l yX10_draw (WS (.code yX10_draw cX10_draw 2 (some Jvm.ClassFile.FieldType.int))) rmX10_draw (va_Pc [.ref (ad 0), .int a1] (PW kM g ad S sz)) (QI kM g ad res (AA kM ad sz)) 0 0 (AA kM ad sz) := by
  refine go_m (Qc := fun A => QI kM g ad res A) (by decide) (Nat.le_of_ble_eq_true rfl) (fun p e s m below meth c ls H locs C X hl => ?_)
  have hx := C.1.1
  have hb := C.1.2.1
  have hl : lv_has ls 2 [(0, .ref (ad 0)), (1, .int a1)] := hl
  have h : (nm (su S 0 42 ((((((S.1 0 42).toInt64) * ((1103515245 : Int64))) + ((12345 : Int64))) - ((((S.1 0 42).toInt64) * ((1103515245 : Int64))) + ((12345 : Int64))) / ((2147483648 : Int64)) * ((2147483648 : Int64))).toInt32)) fun S1 => chk (nz a1) (some (((S1.1 0 42) / ((65536 : Int32))) - ((S1.1 0 42) / ((65536 : Int32))) / a1 * a1, S1)) : Option (Int32 × ST)) = some res := h
  refine lv_aload_n hx hb dX10_draw_0 rfl (lv_at hl 0 rfl) ?_
  refine lv_aload_n hx hb dX10_draw_1 rfl (lv_at hl 0 rfl) ?_
  refine g_get C X inT10 0 (by decide) (eM_0 g ad S) rfl 42 (by decide) wd_1048 (v := .int (S.1 0 42)) rfl dX10_draw_2 ?_
  refine lv_i2l hx hb dX10_draw_5 rfl ?_
  refine lv_ldc2 (v := (1103515245 : Int64)) hx hb C.1.2.2.2.2.2.1 (C.1.2.2.2.2.2.2 _ (ws_in wd_1474)) dX10_draw_6 ?_
  refine lv_lmul hx hb dX10_draw_9 ?_
  refine lv_ldc2 (v := (12345 : Int64)) hx hb C.1.2.2.2.2.2.1 (C.1.2.2.2.2.2.2 _ (ws_in wd_1475)) dX10_draw_10 ?_
  refine lv_ladd hx hb dX10_draw_13 ?_
  refine lv_ldc2 (v := (2147483648 : Int64)) hx hb C.1.2.2.2.2.2.1 (C.1.2.2.2.2.2.2 _ (ws_in wd_1476)) dX10_draw_14 ?_
  refine lv_lrem hx hb dX10_draw_17 (by decide) ?_
  refine lv_l2i hx hb dX10_draw_18 rfl ?_
  obtain ⟨S1, eS1, h⟩ := nm_s h
  refine g_put (S' := S1) C X inT10 tyX10 tyX10_ok nmX10 0 (by decide) (eM_0 g ad S) rfl 42 (by decide) wd_1048 rfl (by rfl) rfl (Nat.le_of_ble_eq_true rfl) (by subst eS1; rfl) (by subst eS1; exact fun i hi => ent_offu hi) dX10_draw_19 (fun H locs X => ?_)
  refine lv_aload_n hx hb dX10_draw_22 rfl (lv_at hl 0 rfl) ?_
  refine g_get C X inT10 0 (by decide) (eM_0 g ad S1) rfl 42 (by decide) wd_1048 (v := .int (S1.1 0 42)) rfl dX10_draw_23 ?_
  refine lv_ldcw (v := (65536 : Int32)) hx hb C.1.2.2.2.2.2.1 (C.1.2.2.2.2.2.2 _ (ws_in wd_1477)) dX10_draw_26 ?_
  refine lv_idiv hx hb dX10_draw_29 (by decide) ?_
  refine lv_iload_n hx hb dX10_draw_30 rfl (lv_at hl 1 rfl) ?_
  obtain ⟨k2, h⟩ := chk_s h
  refine lv_irem hx hb dX10_draw_31 (nz_ne k2) ?_
  exact rt_i C X rfl (Option.some.inj h) dX10_draw_32

def rmX10_afternoon : Room := { frames := 7, cells := 0, slots := 0, locals := 165 }
def b_X10_afternoon_67 (K29 : Int32 → Int32 → Int32 → ST → Option (Int32 × ST)) (v2 : Int32) (v3 : Int32) (v4 : Int32) (v5 : Int32) (S : ST) : Option (Int32 × ST) :=
  nm (v5 + v4) fun x13 => chk (ib (S.1 0 33) 9) (chk (ib (S.1 0 33) 9) (nm (su S 17 (S.1 0 33).toNatClampNeg ((S.1 17 (S.1 0 33).toNatClampNeg) + ((1 : Int32)))) fun S16 => nm (v3 + (1 : Int32)) fun x17 => K29 v2 x13 x17 S16))
def b_X10_afternoon_29 (K29 : Int32 → Int32 → Int32 → ST → Option (Int32 × ST)) (v2 : Int32) (v3 : Int32) (v4 : Int32) (S : ST) : Option (Int32 × ST) :=
  if v2 ≤ v4 then (some (v3, S)) else (bnd (f_X10_draw (S.1 0 4) S) fun r6 S5 => bn1 (f_X10_ready r6 S5) fun S7 => bnd (f_X10_draw ((60 : Int32)) S7) fun r9 S8 => bnd (f_X10_isGood (((1 : Int32)) + r9) S8) fun r11 S10 => if r11 = 0 then (b_X10_afternoon_67 K29 v2 v4 ((0 : Int32)) v3 S10) else (b_X10_afternoon_67 K29 v2 v4 ((1 : Int32)) v3 S10))
def f_X10_afternoon (a1 : Int32) (S : ST) : Option (Int32 × ST) :=
  bn1 (f_X10_in (a1.toInt64) ((1 : Int64)) ((40 : Int64))) fun r1 => if r1 = 0 then (some ((-1000000002 : Int32), S)) else (if (S.1 0 4) = 0 then (some ((-1000000003 : Int32), S)) else (lp (fun _ _ _ _ => none) (b_X10_afternoon_29) 1000 a1 ((0 : Int32)) ((0 : Int32)) S))
set_option maxHeartbeats 4000000 in
set_option maxRecDepth 100000 in
theorem kb_X10_afternoon_67 {p : Program} {l : Launch} {e : Env} {s : State} {m : MethodId} {args : Array Value} {below : List Frame} {meth : Method} {c : Code} {g : GG} {ad : Nat → Nat} {res : (Int32 × ST)} {S : ST} (C : CX kM g ad p s m args meth c cX10_afternoon (some Jvm.ClassFile.FieldType.int) 4 yX10_afternoon.cls (.code yX10_afternoon cX10_afternoon 4 (some Jvm.ClassFile.FieldType.int))) {K29 : Int32 → Int32 → Int32 → ST → Option (Int32 × ST)} (hK29 : ∀ {v2 : Int32} {v3 : Int32} {v4 : Int32} {S : ST} {H : Heap} {locs : List Loc} {ls : Array Slot}, K29 v2 v3 v4 S = some res → WX kM g ad s S H locs → lv_has ls 4 [(0, .ref (ad 0)), (1, .int v2), (2, .int v3), (3, .int v4)] → W p l e rmX10_afternoon s m args below meth c H locs 0 0 (MQ below (QI kM g ad res (AA kM ad s.heap.size)) args s 0 0 (AA kM ad s.heap.size)) (F0 m 29 ls [])) {v2 : Int32} {v3 : Int32} {v4 : Int32} {v5 : Int32}  {H : Heap} {locs : List Loc} {ls : Array Slot} (h : b_X10_afternoon_67 K29 v2 v3 v4 v5 S = some res) (X : WX kM g ad s S H locs) (hl : lv_has ls 4 [(0, .ref (ad 0)), (1, .int v2), (3, .int v3)])  : W p l e rmX10_afternoon s m args below meth c H locs 0 0 (MQ below (QI kM g ad res (AA kM ad s.heap.size)) args s 0 0 (AA kM ad s.heap.size)) (F0 m 67 ls [.int v4, .int v5]) := by
  have hx := C.1.1
  have hb := C.1.2.1
  have h : (nm (v5 + v4) fun x13 => chk (ib (S.1 0 33) 9) (chk (ib (S.1 0 33) 9) (nm (su S 17 (S.1 0 33).toNatClampNeg ((S.1 17 (S.1 0 33).toNatClampNeg) + ((1 : Int32)))) fun S16 => nm (v3 + (1 : Int32)) fun x17 => K29 v2 x13 x17 S16)) : Option (Int32 × ST)) = some res := h
  refine lv_iadd hx hb dX10_afternoon_67 ?_
  obtain ⟨x13, ex13, h⟩ := nm_s h
  refine tp_i ex13 ?_
  refine lv_istore_n (lv' := [(2, .int x13), (0, .ref (ad 0)), (1, .int v2), (3, .int v3)]) hx hb dX10_afternoon_68 rfl hl (by decide) rfl (fun ls hl => ?_)
  refine lv_aload_n hx hb dX10_afternoon_69 rfl (lv_at hl 1 rfl) ?_
  refine g_get C X inT10 0 (by decide) (eM_0 g ad S) rfl 43 (by decide) wd_1049 (v := .ref (ad 17)) rfl dX10_afternoon_70 ?_
  refine lv_aload_n hx hb dX10_afternoon_73 rfl (lv_at hl 1 rfl) ?_
  refine g_get C X inT10 0 (by decide) (eM_0 g ad S) rfl 33 (by decide) wd_1039 (v := .int (S.1 0 33)) rfl dX10_afternoon_74 ?_
  refine lv_dup2_11 hx hb dX10_afternoon_77 rfl rfl ?_
  obtain ⟨k14, h⟩ := chk_s h
  refine g_iald C X 17 (by decide) (eM_17 g ad S) k14 dX10_afternoon_78 ?_
  refine lv_iconst (v := (1 : Int32)) hx hb dX10_afternoon_79 (by decide) ?_
  refine lv_iadd hx hb dX10_afternoon_80 ?_
  obtain ⟨k15, h⟩ := chk_s h
  obtain ⟨S16, eS16, h⟩ := nm_s h
  refine g_iast (S' := S16) C X 17 (by decide) (eM_17 g ad S) k15 (by subst eS16; rfl) (by subst eS16; exact fun i hi => ent_offu hi) dX10_afternoon_81 (fun H locs X => ?_)
  obtain ⟨x17, ex17, h⟩ := nm_s h
  refine lv_iinc (v := x17) (lv' := [(3, .int x17), (2, .int x13), (0, .ref (ad 0)), (1, .int v2)]) hx hb dX10_afternoon_82 hl (k := 3) rfl (by rw [ex17]; rfl) (by decide) rfl (fun ls hl => ?_)
  refine lv_goto (tgt := 29) hx hb dX10_afternoon_85 (by decide) ?_
  exact hK29 h X (lv_sub hl [2, 3, 1, 0] rfl) 
set_option maxHeartbeats 4000000 in
set_option maxRecDepth 100000 in
theorem kb_X10_afternoon_29 {p : Program} {l : Launch} {e : Env} {s : State} {m : MethodId} {args : Array Value} {below : List Frame} {meth : Method} {c : Code} {g : GG} {ad : Nat → Nat} {res : (Int32 × ST)} {S : ST} (C : CX kM g ad p s m args meth c cX10_afternoon (some Jvm.ClassFile.FieldType.int) 4 yX10_afternoon.cls (.code yX10_afternoon cX10_afternoon 4 (some Jvm.ClassFile.FieldType.int))) {K29 : Int32 → Int32 → Int32 → ST → Option (Int32 × ST)} (hK29 : ∀ {v2 : Int32} {v3 : Int32} {v4 : Int32} {S : ST} {H : Heap} {locs : List Loc} {ls : Array Slot}, K29 v2 v3 v4 S = some res → WX kM g ad s S H locs → lv_has ls 4 [(0, .ref (ad 0)), (1, .int v2), (2, .int v3), (3, .int v4)] → W p l e rmX10_afternoon s m args below meth c H locs 0 0 (MQ below (QI kM g ad res (AA kM ad s.heap.size)) args s 0 0 (AA kM ad s.heap.size)) (F0 m 29 ls [])) {v2 : Int32} {v3 : Int32} {v4 : Int32}  {H : Heap} {locs : List Loc} {ls : Array Slot} (h : b_X10_afternoon_29 K29 v2 v3 v4 S = some res) (X : WX kM g ad s S H locs) (hl : lv_has ls 4 [(0, .ref (ad 0)), (1, .int v2), (2, .int v3), (3, .int v4)])  : W p l e rmX10_afternoon s m args below meth c H locs 0 0 (MQ below (QI kM g ad res (AA kM ad s.heap.size)) args s 0 0 (AA kM ad s.heap.size)) (F0 m 29 ls []) := by
  have hx := C.1.1
  have hb := C.1.2.1
  have h : (if v2 ≤ v4 then (some (v3, S)) else (bnd (f_X10_draw (S.1 0 4) S) fun r6 S5 => bn1 (f_X10_ready r6 S5) fun S7 => bnd (f_X10_draw ((60 : Int32)) S7) fun r9 S8 => bnd (f_X10_isGood (((1 : Int32)) + r9) S8) fun r11 S10 => if r11 = 0 then (b_X10_afternoon_67 K29 v2 v4 ((0 : Int32)) v3 S10) else (b_X10_afternoon_67 K29 v2 v4 ((1 : Int32)) v3 S10)) : Option (Int32 × ST)) = some res := h
  refine lv_iload_n hx hb dX10_afternoon_29 rfl (lv_at hl 3 rfl) ?_
  refine lv_iload_n hx hb dX10_afternoon_30 rfl (lv_at hl 1 rfl) ?_
  refine lv_icmp_ge (tgt := 88) hx hb dX10_afternoon_31 (by decide) (fun c4 => ?_) (fun c4 => ?_)
  · have h := ip h c4
    refine lv_iload_n hx hb dX10_afternoon_88 rfl (lv_at hl 2 rfl) ?_
    exact rt_i C X rfl (Option.some.inj h) dX10_afternoon_89
  · have h := inn h c4
    refine lv_aload_n hx hb dX10_afternoon_34 rfl (lv_at hl 0 rfl) ?_
    refine lv_aload_n hx hb dX10_afternoon_35 rfl (lv_at hl 0 rfl) ?_
    refine lv_aload_n hx hb dX10_afternoon_36 rfl (lv_at hl 0 rfl) ?_
    refine g_get C X inT10 0 (by decide) (eM_0 g ad S) rfl 4 (by decide) wd_1010 (v := .int (S.1 0 4)) rfl dX10_afternoon_37 ?_
    obtain ⟨r6, S5, qr6, h⟩ := bnd_s h
    refine kc_i X (res := (r6, S5)) (rV (As := [.int (S.1 0 4)]) (rest := [.ref (ad 0)]) (n := 1) (k := 0) C X (c_X10_draw l g ad S _ (S.1 0 4)  qr6) wd_1470 wd_1472 wd_68 wd_83 wd_1473 (by decide) (eM_0 g ad S) rfl rfl rfl (by decide +kernel) ⟨Nat.le_of_ble_eq_true rfl, Nat.le_of_ble_eq_true rfl⟩ rfl hl.1 (lv_room (Nat.le_of_ble_eq_true rfl)) dX10_afternoon_40) (fun H locs X => ?_)
    obtain ⟨S7, qS7, h⟩ := bn1_s h
    refine kc_v X (res := S7) (rV (As := [.int r6]) (rest := []) (n := 1) (k := 0) C X (c_X10_ready l g ad S5 _ r6  qS7) wd_1342 wd_1344 wd_55 wd_83 wd_1345 (by decide) (eM_0 g ad S5) rfl rfl rfl (by decide +kernel) ⟨Nat.le_of_ble_eq_true rfl, Nat.le_of_ble_eq_true rfl⟩ rfl hl.1 (lv_room (Nat.le_of_ble_eq_true rfl)) dX10_afternoon_43) (fun H locs X => ?_)
    refine lv_iload_n hx hb dX10_afternoon_46 rfl (lv_at hl 2 rfl) ?_
    refine lv_aload_n hx hb dX10_afternoon_47 rfl (lv_at hl 0 rfl) ?_
    refine lv_iconst (v := (1 : Int32)) hx hb dX10_afternoon_48 (by decide) ?_
    refine lv_aload_n hx hb dX10_afternoon_49 rfl (lv_at hl 0 rfl) ?_
    refine lv_bipush (v := (60 : Int32)) hx hb dX10_afternoon_50 (by decide) ?_
    obtain ⟨r9, S8, qr9, h⟩ := bnd_s h
    refine kc_i X (res := (r9, S8)) (rV (As := [.int ((60 : Int32))]) (rest := [.int ((1 : Int32)), .ref (ad 0), .int v3]) (n := 1) (k := 0) C X (c_X10_draw l g ad S7 _ ((60 : Int32))  qr9) wd_1470 wd_1472 wd_68 wd_83 wd_1473 (by decide) (eM_0 g ad S7) rfl rfl rfl (by decide +kernel) ⟨Nat.le_of_ble_eq_true rfl, Nat.le_of_ble_eq_true rfl⟩ rfl hl.1 (lv_room (Nat.le_of_ble_eq_true rfl)) dX10_afternoon_52) (fun H locs X => ?_)
    refine lv_iadd hx hb dX10_afternoon_55 ?_
    obtain ⟨r11, S10, qr11, h⟩ := bnd_s h
    refine kc_i X (res := (r11, S10)) (rV (As := [.int (((1 : Int32)) + r9)]) (rest := [.int v3]) (n := 1) (k := 0) C X (c_X10_isGood l g ad S8 _ (((1 : Int32)) + r9)  qr11) wd_1381 wd_1383 wd_62 wd_83 wd_1384 (by decide) (eM_0 g ad S8) rfl rfl rfl (by decide +kernel) ⟨Nat.le_of_ble_eq_true rfl, Nat.le_of_ble_eq_true rfl⟩ rfl hl.1 (lv_room (Nat.le_of_ble_eq_true rfl)) dX10_afternoon_56) (fun H locs X => ?_)
    refine lv_if_eq (tgt := 66) hx hb dX10_afternoon_59 (by decide) (fun c12 => ?_) (fun c12 => ?_)
    · have h := ip h c12
      refine lv_iconst (v := (0 : Int32)) hx hb dX10_afternoon_66 (by decide) ?_
      exact kb_X10_afternoon_67 C hK29 h X (lv_sub hl [0, 1, 3] rfl) 
    · have h := inn h c12
      refine lv_iconst (v := (1 : Int32)) hx hb dX10_afternoon_62 (by decide) ?_
      refine lv_goto (tgt := 67) hx hb dX10_afternoon_63 (by decide) ?_
      exact kb_X10_afternoon_67 C hK29 h X (lv_sub hl [0, 1, 3] rfl) 
set_option maxHeartbeats 4000000 in
set_option maxRecDepth 100000 in
theorem kl_X10_afternoon_29 {p : Program} {l : Launch} {e : Env} {s : State} {m : MethodId} {args : Array Value} {below : List Frame} {meth : Method} {c : Code} {g : GG} {ad : Nat → Nat} {res : (Int32 × ST)}  (C : CX kM g ad p s m args meth c cX10_afternoon (some Jvm.ClassFile.FieldType.int) 4 yX10_afternoon.cls (.code yX10_afternoon cX10_afternoon 4 (some Jvm.ClassFile.FieldType.int)))  : ∀ (n : Nat) {v2 : Int32} {v3 : Int32} {v4 : Int32} {S : ST} {H : Heap} {locs : List Loc} {ls : Array Slot}, (lp (fun _ _ _ _ => none) (b_X10_afternoon_29)) n v2 v3 v4 S = some res → WX kM g ad s S H locs → lv_has ls 4 [(0, .ref (ad 0)), (1, .int v2), (2, .int v3), (3, .int v4)] → W p l e rmX10_afternoon s m args below meth c H locs 0 0 (MQ below (QI kM g ad res (AA kM ad s.heap.size)) args s 0 0 (AA kM ad s.heap.size)) (F0 m 29 ls []) := by
  intro n
  induction n with
  | zero =>
    intro v2 v3 v4 S H locs ls h
    cases (show (none : Option (Int32 × ST)) = some res from h)
  | succ n ih =>
    intro v2 v3 v4 S H locs ls h X hl 
    exact kb_X10_afternoon_29 C ih h X hl 
set_option maxHeartbeats 4000000 in
set_option maxRecDepth 100000 in
theorem c_X10_afternoon (l : Launch) (g : GG) (ad : Nat → Nat) (S : ST) (sz : Nat) (a1 : Int32)  {res : (Int32 × ST)} (h : f_X10_afternoon a1 S = some res) : Met l yX10_afternoon (WS (.code yX10_afternoon cX10_afternoon 4 (some Jvm.ClassFile.FieldType.int))) rmX10_afternoon (va_Pc [.ref (ad 0), .int a1] (PW kM g ad S sz)) (QI kM g ad res (AA kM ad sz)) 0 0 (AA kM ad sz) := by
  refine go_m (Qc := fun A => QI kM g ad res A) (by decide) (Nat.le_of_ble_eq_true rfl) (fun p e s m below meth c ls H locs C X hl => ?_)
  have hx := C.1.1
  have hb := C.1.2.1
  have hl : lv_has ls 4 [(0, .ref (ad 0)), (1, .int a1)] := hl
  have h : (bn1 (f_X10_in (a1.toInt64) ((1 : Int64)) ((40 : Int64))) fun r1 => if r1 = 0 then (some ((-1000000002 : Int32), S)) else (if (S.1 0 4) = 0 then (some ((-1000000003 : Int32), S)) else (lp (fun _ _ _ _ => none) (b_X10_afternoon_29) 1000 a1 ((0 : Int32)) ((0 : Int32)) S)) : Option (Int32 × ST)) = some res := h
  refine lv_iload_n hx hb dX10_afternoon_0 rfl (lv_at hl 1 rfl) ?_
  refine lv_i2l hx hb dX10_afternoon_1 rfl ?_
  refine lv_lconst (v := (1 : Int64)) hx hb dX10_afternoon_2 (by decide) ?_
  refine lv_ldc2 (v := (40 : Int64)) hx hb C.1.2.2.2.2.2.1 (C.1.2.2.2.2.2.2 _ (ws_in wd_1398)) dX10_afternoon_3 ?_
  obtain ⟨r1, qr1, h⟩ := bn1_s h
  refine kc_i X (res := (r1, S)) (rS (As := [.long (a1.toInt64), .long ((1 : Int64)), .long ((40 : Int64))]) (rest := []) (n := 3) C X (c_X10_in l g ad S _ (a1.toInt64) ((1 : Int64)) ((40 : Int64))  qr1) wd_1151 wd_1152 wd_83 wd_1153 rfl rfl (by decide +kernel) ⟨Nat.le_of_ble_eq_true rfl, Nat.le_of_ble_eq_true rfl⟩ rfl hl.1 (lv_room (Nat.le_of_ble_eq_true rfl)) dX10_afternoon_6) (fun H locs X => ?_)
  refine lv_if_ne (tgt := 15) hx hb dX10_afternoon_9 (by decide) (fun c2 => ?_) (fun c2 => ?_)
  · have h := inn h c2
    refine lv_aload_n hx hb dX10_afternoon_15 rfl (lv_at hl 0 rfl) ?_
    refine g_get C X inT10 0 (by decide) (eM_0 g ad S) rfl 4 (by decide) wd_1010 (v := .int (S.1 0 4)) rfl dX10_afternoon_16 ?_
    refine lv_if_ne (tgt := 25) hx hb dX10_afternoon_19 (by decide) (fun c3 => ?_) (fun c3 => ?_)
    · have h := inn h c3
      refine lv_iconst (v := (0 : Int32)) hx hb dX10_afternoon_25 (by decide) ?_
      refine lv_istore_n (lv' := [(2, .int ((0 : Int32))), (0, .ref (ad 0)), (1, .int a1)]) hx hb dX10_afternoon_26 rfl hl (by decide) rfl (fun ls hl => ?_)
      refine lv_iconst (v := (0 : Int32)) hx hb dX10_afternoon_27 (by decide) ?_
      refine lv_istore_n (lv' := [(3, .int ((0 : Int32))), (2, .int ((0 : Int32))), (0, .ref (ad 0)), (1, .int a1)]) hx hb dX10_afternoon_28 rfl hl (by decide) rfl (fun ls hl => ?_)
      exact kl_X10_afternoon_29 C _ h X (lv_sub hl [2, 3, 1, 0] rfl) 
    · have h := ip h c3
      refine lv_ldc (v := (-1000000003 : Int32)) hx hb C.1.2.2.2.2.2.1 (C.1.2.2.2.2.2.2 _ (ws_in wd_1231)) dX10_afternoon_22 ?_
      exact rt_i C X rfl (Option.some.inj h) dX10_afternoon_24
  · have h := ip h c2
    refine lv_ldc (v := (-1000000002 : Int32)) hx hb C.1.2.2.2.2.2.1 (C.1.2.2.2.2.2.2 _ (ws_in wd_1154)) dX10_afternoon_12 ?_
    exact rt_i C X rfl (Option.some.inj h) dX10_afternoon_14

def rmX10_ends : Room := { frames := 1, cells := 0, slots := 0, locals := 25 }
def f_X10_ends (a1 : Int32) (S : ST) : Option Int32 :=
  bn1 (f_X10_in (a1.toInt64) ((0 : Int64)) ((8 : Int64))) fun r1 => if r1 = 0 then (some ((-1000000002 : Int32))) else (chk (ib a1 9) (some (S.1 17 a1.toNatClampNeg)))
set_option maxHeartbeats 4000000 in
set_option maxRecDepth 100000 in
theorem c_X10_ends (l : Launch) (g : GG) (ad : Nat → Nat) (S : ST) (sz : Nat) (a1 : Int32)  {res : Int32} (h : f_X10_ends a1 S = some res) : Met l yX10_ends (WS (.code yX10_ends cX10_ends 2 (some Jvm.ClassFile.FieldType.int))) rmX10_ends (va_Pc [.ref (ad 0), .int a1] (PW kM g ad S sz)) (QI kM g ad (res, S) (AA kM ad sz)) 0 0 (AA kM ad sz) := by
  refine go_m (Qc := fun A => QI kM g ad (res, S) A) (by decide) (Nat.le_of_ble_eq_true rfl) (fun p e s m below meth c ls H locs C X hl => ?_)
  have hx := C.1.1
  have hb := C.1.2.1
  have hl : lv_has ls 2 [(0, .ref (ad 0)), (1, .int a1)] := hl
  have h : (bn1 (f_X10_in (a1.toInt64) ((0 : Int64)) ((8 : Int64))) fun r1 => if r1 = 0 then (some ((-1000000002 : Int32))) else (chk (ib a1 9) (some (S.1 17 a1.toNatClampNeg))) : Option Int32) = some res := h
  refine lv_iload_n hx hb dX10_ends_0 rfl (lv_at hl 1 rfl) ?_
  refine lv_i2l hx hb dX10_ends_1 rfl ?_
  refine lv_lconst (v := (0 : Int64)) hx hb dX10_ends_2 (by decide) ?_
  refine lv_ldc2 (v := (8 : Int64)) hx hb C.1.2.2.2.2.2.1 (C.1.2.2.2.2.2.2 _ (ws_in wd_1150)) dX10_ends_3 ?_
  obtain ⟨r1, qr1, h⟩ := bn1_s h
  refine kc_i X (res := (r1, S)) (rS (As := [.long (a1.toInt64), .long ((0 : Int64)), .long ((8 : Int64))]) (rest := []) (n := 3) C X (c_X10_in l g ad S _ (a1.toInt64) ((0 : Int64)) ((8 : Int64))  qr1) wd_1151 wd_1152 wd_83 wd_1153 rfl rfl (by decide +kernel) ⟨Nat.le_of_ble_eq_true rfl, Nat.le_of_ble_eq_true rfl⟩ rfl hl.1 (lv_room (Nat.le_of_ble_eq_true rfl)) dX10_ends_6) (fun H locs X => ?_)
  refine lv_if_eq (tgt := 21) hx hb dX10_ends_9 (by decide) (fun c2 => ?_) (fun c2 => ?_)
  · have h := ip h c2
    refine lv_ldc (v := (-1000000002 : Int32)) hx hb C.1.2.2.2.2.2.1 (C.1.2.2.2.2.2.2 _ (ws_in wd_1154)) dX10_ends_21 ?_
    exact rt_i C X rfl (congrArg (fun z => (z, S)) (Option.some.inj h)) dX10_ends_23
  · have h := inn h c2
    refine lv_aload_n hx hb dX10_ends_12 rfl (lv_at hl 0 rfl) ?_
    refine g_get C X inT10 0 (by decide) (eM_0 g ad S) rfl 43 (by decide) wd_1049 (v := .ref (ad 17)) rfl dX10_ends_13 ?_
    refine lv_iload_n hx hb dX10_ends_16 rfl (lv_at hl 1 rfl) ?_
    obtain ⟨k3, h⟩ := chk_s h
    refine g_iald C X 17 (by decide) (eM_17 g ad S) k3 dX10_ends_17 ?_
    refine lv_goto (tgt := 23) hx hb dX10_ends_18 (by decide) ?_
    exact rt_i C X rfl (congrArg (fun z => (z, S)) (Option.some.inj h)) dX10_ends_23

def rmX10_keep : Room := { frames := 1, cells := 0, slots := 0, locals := 25 }
def b_X10_keep_59 (K59 : Int32 → Int32 → Int32 → ST → Option (Int32 × ST)) (v2 : Int32) (v3 : Int32) (v4 : Int32) (S : ST) : Option (Int32 × ST) :=
  if ((9 : Int32)) ≤ v4 then (chk (ib v2 2) (nm (su S 19 v2.toNatClampNeg (vp_nar .boolean ((1 : Int32)))) fun S9 => some ((1 : Int32), S9))) else (chk (ib v4 9) (chk (ib ((v3 + ((6 : Int32))) + v4) 40) (nm (su S 18 ((v3 + ((6 : Int32))) + v4).toNatClampNeg (S.1 17 v4.toNatClampNeg)) fun S12 => nm (v4 + (1 : Int32)) fun x13 => K59 v2 v3 x13 S12)))
def b_X10_keep_20 (K20 : Int32 → Int32 → Int32 → ST → Option (Int32 × ST)) (v2 : Int32) (v3 : Int32) (v4 : Int32) (S : ST) : Option (Int32 × ST) :=
  if ((5 : Int32)) ≤ v4 then (chk (ib (v3 + ((5 : Int32))) 40) (nm (su S 18 (v3 + ((5 : Int32))).toNatClampNeg (S.1 0 42)) fun S6 => lp (fun _ _ _ _ => none) (b_X10_keep_59) 1000 v2 v3 ((0 : Int32)) S6)) else (chk (ib v4 5) (chk (ib (v3 + v4) 40) (nm (su S 18 (v3 + v4).toNatClampNeg (S.1 6 v4.toNatClampNeg)) fun S16 => nm (v4 + (1 : Int32)) fun x17 => K20 v2 v3 x17 S16)))
def f_X10_keep (a1 : Int32) (S : ST) : Option (Int32 × ST) :=
  bn1 (f_X10_in (a1.toInt64) ((0 : Int64)) ((1 : Int64))) fun r1 => if r1 = 0 then (some ((-1000000001 : Int32), S)) else (nm (((20 : Int32)) * a1) fun x3 => lp (fun _ _ _ _ => none) (b_X10_keep_20) 1000 a1 x3 ((0 : Int32)) S)
set_option maxHeartbeats 4000000 in
set_option maxRecDepth 100000 in
theorem kb_X10_keep_59 {p : Program} {l : Launch} {e : Env} {s : State} {m : MethodId} {args : Array Value} {below : List Frame} {meth : Method} {c : Code} {g : GG} {ad : Nat → Nat} {res : (Int32 × ST)} {S : ST} (C : CX kM g ad p s m args meth c cX10_keep (some Jvm.ClassFile.FieldType.int) 4 yX10_keep.cls (.code yX10_keep cX10_keep 4 (some Jvm.ClassFile.FieldType.int))) {K59 : Int32 → Int32 → Int32 → ST → Option (Int32 × ST)} (hK59 : ∀ {v2 : Int32} {v3 : Int32} {v4 : Int32} {S : ST} {H : Heap} {locs : List Loc} {ls : Array Slot}, K59 v2 v3 v4 S = some res → WX kM g ad s S H locs → lv_has ls 4 [(0, .ref (ad 0)), (1, .int v2), (2, .int v3), (3, .int v4)] → W p l e rmX10_keep s m args below meth c H locs 0 0 (MQ below (QI kM g ad res (AA kM ad s.heap.size)) args s 0 0 (AA kM ad s.heap.size)) (F0 m 59 ls [])) {v2 : Int32} {v3 : Int32} {v4 : Int32}  {H : Heap} {locs : List Loc} {ls : Array Slot} (h : b_X10_keep_59 K59 v2 v3 v4 S = some res) (X : WX kM g ad s S H locs) (hl : lv_has ls 4 [(0, .ref (ad 0)), (1, .int v2), (2, .int v3), (3, .int v4)])  : W p l e rmX10_keep s m args below meth c H locs 0 0 (MQ below (QI kM g ad res (AA kM ad s.heap.size)) args s 0 0 (AA kM ad s.heap.size)) (F0 m 59 ls []) := by
  have hx := C.1.1
  have hb := C.1.2.1
  have h : (if ((9 : Int32)) ≤ v4 then (chk (ib v2 2) (nm (su S 19 v2.toNatClampNeg (vp_nar .boolean ((1 : Int32)))) fun S9 => some ((1 : Int32), S9))) else (chk (ib v4 9) (chk (ib ((v3 + ((6 : Int32))) + v4) 40) (nm (su S 18 ((v3 + ((6 : Int32))) + v4).toNatClampNeg (S.1 17 v4.toNatClampNeg)) fun S12 => nm (v4 + (1 : Int32)) fun x13 => K59 v2 v3 x13 S12))) : Option (Int32 × ST)) = some res := h
  refine lv_iload_n hx hb dX10_keep_59 rfl (lv_at hl 3 rfl) ?_
  refine lv_bipush (v := (9 : Int32)) hx hb dX10_keep_60 (by decide) ?_
  refine lv_icmp_ge (tgt := 88) hx hb dX10_keep_62 (by decide) (fun c7 => ?_) (fun c7 => ?_)
  · have h := ip h c7
    refine lv_aload_n hx hb dX10_keep_88 rfl (lv_at hl 0 rfl) ?_
    refine g_get C X inT10 0 (by decide) (eM_0 g ad S) rfl 45 (by decide) wd_1051 (v := .ref (ad 19)) rfl dX10_keep_89 ?_
    refine lv_iload_n hx hb dX10_keep_92 rfl (lv_at hl 1 rfl) ?_
    refine lv_iconst (v := (1 : Int32)) hx hb dX10_keep_93 (by decide) ?_
    obtain ⟨k8, h⟩ := chk_s h
    obtain ⟨S9, eS9, h⟩ := nm_s h
    refine g_zast (S' := S9) C X 19 (by decide) (eM_19 g ad S) k8 (by subst eS9; rfl) (by subst eS9; exact fun i hi => ent_offu hi) dX10_keep_94 (fun H locs X => ?_)
    refine lv_iconst (v := (1 : Int32)) hx hb dX10_keep_95 (by decide) ?_
    exact rt_i C X rfl (Option.some.inj h) dX10_keep_96
  · have h := inn h c7
    refine lv_aload_n hx hb dX10_keep_65 rfl (lv_at hl 0 rfl) ?_
    refine g_get C X inT10 0 (by decide) (eM_0 g ad S) rfl 44 (by decide) wd_1050 (v := .ref (ad 18)) rfl dX10_keep_66 ?_
    refine lv_iload_n hx hb dX10_keep_69 rfl (lv_at hl 2 rfl) ?_
    refine lv_bipush (v := (6 : Int32)) hx hb dX10_keep_70 (by decide) ?_
    refine lv_iadd hx hb dX10_keep_72 ?_
    refine lv_iload_n hx hb dX10_keep_73 rfl (lv_at hl 3 rfl) ?_
    refine lv_iadd hx hb dX10_keep_74 ?_
    refine lv_aload_n hx hb dX10_keep_75 rfl (lv_at hl 0 rfl) ?_
    refine g_get C X inT10 0 (by decide) (eM_0 g ad S) rfl 43 (by decide) wd_1049 (v := .ref (ad 17)) rfl dX10_keep_76 ?_
    refine lv_iload_n hx hb dX10_keep_79 rfl (lv_at hl 3 rfl) ?_
    obtain ⟨k10, h⟩ := chk_s h
    refine g_iald C X 17 (by decide) (eM_17 g ad S) k10 dX10_keep_80 ?_
    obtain ⟨k11, h⟩ := chk_s h
    obtain ⟨S12, eS12, h⟩ := nm_s h
    refine g_iast (S' := S12) C X 18 (by decide) (eM_18 g ad S) k11 (by subst eS12; rfl) (by subst eS12; exact fun i hi => ent_offu hi) dX10_keep_81 (fun H locs X => ?_)
    obtain ⟨x13, ex13, h⟩ := nm_s h
    refine lv_iinc (v := x13) (lv' := [(3, .int x13), (0, .ref (ad 0)), (1, .int v2), (2, .int v3)]) hx hb dX10_keep_82 hl (k := 3) rfl (by rw [ex13]; rfl) (by decide) rfl (fun ls hl => ?_)
    refine lv_goto (tgt := 59) hx hb dX10_keep_85 (by decide) ?_
    exact hK59 h X (lv_sub hl [1, 2, 3, 0] rfl) 
set_option maxHeartbeats 4000000 in
set_option maxRecDepth 100000 in
theorem kl_X10_keep_59 {p : Program} {l : Launch} {e : Env} {s : State} {m : MethodId} {args : Array Value} {below : List Frame} {meth : Method} {c : Code} {g : GG} {ad : Nat → Nat} {res : (Int32 × ST)}  (C : CX kM g ad p s m args meth c cX10_keep (some Jvm.ClassFile.FieldType.int) 4 yX10_keep.cls (.code yX10_keep cX10_keep 4 (some Jvm.ClassFile.FieldType.int)))  : ∀ (n : Nat) {v2 : Int32} {v3 : Int32} {v4 : Int32} {S : ST} {H : Heap} {locs : List Loc} {ls : Array Slot}, (lp (fun _ _ _ _ => none) (b_X10_keep_59)) n v2 v3 v4 S = some res → WX kM g ad s S H locs → lv_has ls 4 [(0, .ref (ad 0)), (1, .int v2), (2, .int v3), (3, .int v4)] → W p l e rmX10_keep s m args below meth c H locs 0 0 (MQ below (QI kM g ad res (AA kM ad s.heap.size)) args s 0 0 (AA kM ad s.heap.size)) (F0 m 59 ls []) := by
  intro n
  induction n with
  | zero =>
    intro v2 v3 v4 S H locs ls h
    cases (show (none : Option (Int32 × ST)) = some res from h)
  | succ n ih =>
    intro v2 v3 v4 S H locs ls h X hl 
    exact kb_X10_keep_59 C ih h X hl 
set_option maxHeartbeats 4000000 in
set_option maxRecDepth 100000 in
theorem kb_X10_keep_20 {p : Program} {l : Launch} {e : Env} {s : State} {m : MethodId} {args : Array Value} {below : List Frame} {meth : Method} {c : Code} {g : GG} {ad : Nat → Nat} {res : (Int32 × ST)} {S : ST} (C : CX kM g ad p s m args meth c cX10_keep (some Jvm.ClassFile.FieldType.int) 4 yX10_keep.cls (.code yX10_keep cX10_keep 4 (some Jvm.ClassFile.FieldType.int))) {K20 : Int32 → Int32 → Int32 → ST → Option (Int32 × ST)} (hK20 : ∀ {v2 : Int32} {v3 : Int32} {v4 : Int32} {S : ST} {H : Heap} {locs : List Loc} {ls : Array Slot}, K20 v2 v3 v4 S = some res → WX kM g ad s S H locs → lv_has ls 4 [(0, .ref (ad 0)), (1, .int v2), (2, .int v3), (3, .int v4)] → W p l e rmX10_keep s m args below meth c H locs 0 0 (MQ below (QI kM g ad res (AA kM ad s.heap.size)) args s 0 0 (AA kM ad s.heap.size)) (F0 m 20 ls [])) {v2 : Int32} {v3 : Int32} {v4 : Int32}  {H : Heap} {locs : List Loc} {ls : Array Slot} (h : b_X10_keep_20 K20 v2 v3 v4 S = some res) (X : WX kM g ad s S H locs) (hl : lv_has ls 4 [(0, .ref (ad 0)), (1, .int v2), (2, .int v3), (3, .int v4)])  : W p l e rmX10_keep s m args below meth c H locs 0 0 (MQ below (QI kM g ad res (AA kM ad s.heap.size)) args s 0 0 (AA kM ad s.heap.size)) (F0 m 20 ls []) := by
  have hx := C.1.1
  have hb := C.1.2.1
  have h : (if ((5 : Int32)) ≤ v4 then (chk (ib (v3 + ((5 : Int32))) 40) (nm (su S 18 (v3 + ((5 : Int32))).toNatClampNeg (S.1 0 42)) fun S6 => lp (fun _ _ _ _ => none) (b_X10_keep_59) 1000 v2 v3 ((0 : Int32)) S6)) else (chk (ib v4 5) (chk (ib (v3 + v4) 40) (nm (su S 18 (v3 + v4).toNatClampNeg (S.1 6 v4.toNatClampNeg)) fun S16 => nm (v4 + (1 : Int32)) fun x17 => K20 v2 v3 x17 S16))) : Option (Int32 × ST)) = some res := h
  refine lv_iload_n hx hb dX10_keep_20 rfl (lv_at hl 3 rfl) ?_
  refine lv_iconst (v := (5 : Int32)) hx hb dX10_keep_21 (by decide) ?_
  refine lv_icmp_ge (tgt := 45) hx hb dX10_keep_22 (by decide) (fun c4 => ?_) (fun c4 => ?_)
  · have h := ip h c4
    refine lv_aload_n hx hb dX10_keep_45 rfl (lv_at hl 0 rfl) ?_
    refine g_get C X inT10 0 (by decide) (eM_0 g ad S) rfl 44 (by decide) wd_1050 (v := .ref (ad 18)) rfl dX10_keep_46 ?_
    refine lv_iload_n hx hb dX10_keep_49 rfl (lv_at hl 2 rfl) ?_
    refine lv_iconst (v := (5 : Int32)) hx hb dX10_keep_50 (by decide) ?_
    refine lv_iadd hx hb dX10_keep_51 ?_
    refine lv_aload_n hx hb dX10_keep_52 rfl (lv_at hl 0 rfl) ?_
    refine g_get C X inT10 0 (by decide) (eM_0 g ad S) rfl 42 (by decide) wd_1048 (v := .int (S.1 0 42)) rfl dX10_keep_53 ?_
    obtain ⟨k5, h⟩ := chk_s h
    obtain ⟨S6, eS6, h⟩ := nm_s h
    refine g_iast (S' := S6) C X 18 (by decide) (eM_18 g ad S) k5 (by subst eS6; rfl) (by subst eS6; exact fun i hi => ent_offu hi) dX10_keep_56 (fun H locs X => ?_)
    refine lv_iconst (v := (0 : Int32)) hx hb dX10_keep_57 (by decide) ?_
    refine lv_istore_n (lv' := [(3, .int ((0 : Int32))), (0, .ref (ad 0)), (1, .int v2), (2, .int v3)]) hx hb dX10_keep_58 rfl hl (by decide) rfl (fun ls hl => ?_)
    exact kl_X10_keep_59 C _ h X (lv_sub hl [1, 2, 3, 0] rfl) 
  · have h := inn h c4
    refine lv_aload_n hx hb dX10_keep_25 rfl (lv_at hl 0 rfl) ?_
    refine g_get C X inT10 0 (by decide) (eM_0 g ad S) rfl 44 (by decide) wd_1050 (v := .ref (ad 18)) rfl dX10_keep_26 ?_
    refine lv_iload_n hx hb dX10_keep_29 rfl (lv_at hl 2 rfl) ?_
    refine lv_iload_n hx hb dX10_keep_30 rfl (lv_at hl 3 rfl) ?_
    refine lv_iadd hx hb dX10_keep_31 ?_
    refine lv_aload_n hx hb dX10_keep_32 rfl (lv_at hl 0 rfl) ?_
    refine g_get C X inT10 0 (by decide) (eM_0 g ad S) rfl 6 (by decide) wd_1012 (v := .ref (ad 6)) rfl dX10_keep_33 ?_
    refine lv_iload_n hx hb dX10_keep_36 rfl (lv_at hl 3 rfl) ?_
    obtain ⟨k14, h⟩ := chk_s h
    refine g_iald C X 6 (by decide) (eM_6 g ad S) k14 dX10_keep_37 ?_
    obtain ⟨k15, h⟩ := chk_s h
    obtain ⟨S16, eS16, h⟩ := nm_s h
    refine g_iast (S' := S16) C X 18 (by decide) (eM_18 g ad S) k15 (by subst eS16; rfl) (by subst eS16; exact fun i hi => ent_offu hi) dX10_keep_38 (fun H locs X => ?_)
    obtain ⟨x17, ex17, h⟩ := nm_s h
    refine lv_iinc (v := x17) (lv' := [(3, .int x17), (0, .ref (ad 0)), (1, .int v2), (2, .int v3)]) hx hb dX10_keep_39 hl (k := 3) rfl (by rw [ex17]; rfl) (by decide) rfl (fun ls hl => ?_)
    refine lv_goto (tgt := 20) hx hb dX10_keep_42 (by decide) ?_
    exact hK20 h X (lv_sub hl [1, 2, 3, 0] rfl) 
set_option maxHeartbeats 4000000 in
set_option maxRecDepth 100000 in
theorem kl_X10_keep_20 {p : Program} {l : Launch} {e : Env} {s : State} {m : MethodId} {args : Array Value} {below : List Frame} {meth : Method} {c : Code} {g : GG} {ad : Nat → Nat} {res : (Int32 × ST)}  (C : CX kM g ad p s m args meth c cX10_keep (some Jvm.ClassFile.FieldType.int) 4 yX10_keep.cls (.code yX10_keep cX10_keep 4 (some Jvm.ClassFile.FieldType.int)))  : ∀ (n : Nat) {v2 : Int32} {v3 : Int32} {v4 : Int32} {S : ST} {H : Heap} {locs : List Loc} {ls : Array Slot}, (lp (fun _ _ _ _ => none) (b_X10_keep_20)) n v2 v3 v4 S = some res → WX kM g ad s S H locs → lv_has ls 4 [(0, .ref (ad 0)), (1, .int v2), (2, .int v3), (3, .int v4)] → W p l e rmX10_keep s m args below meth c H locs 0 0 (MQ below (QI kM g ad res (AA kM ad s.heap.size)) args s 0 0 (AA kM ad s.heap.size)) (F0 m 20 ls []) := by
  intro n
  induction n with
  | zero =>
    intro v2 v3 v4 S H locs ls h
    cases (show (none : Option (Int32 × ST)) = some res from h)
  | succ n ih =>
    intro v2 v3 v4 S H locs ls h X hl 
    exact kb_X10_keep_20 C ih h X hl 
set_option maxHeartbeats 4000000 in
set_option maxRecDepth 100000 in
theorem c_X10_keep (l : Launch) (g : GG) (ad : Nat → Nat) (S : ST) (sz : Nat) (a1 : Int32)  {res : (Int32 × ST)} (h : f_X10_keep a1 S = some res) : Met l yX10_keep (WS (.code yX10_keep cX10_keep 4 (some Jvm.ClassFile.FieldType.int))) rmX10_keep (va_Pc [.ref (ad 0), .int a1] (PW kM g ad S sz)) (QI kM g ad res (AA kM ad sz)) 0 0 (AA kM ad sz) := by
  refine go_m (Qc := fun A => QI kM g ad res A) (by decide) (Nat.le_of_ble_eq_true rfl) (fun p e s m below meth c ls H locs C X hl => ?_)
  have hx := C.1.1
  have hb := C.1.2.1
  have hl : lv_has ls 4 [(0, .ref (ad 0)), (1, .int a1)] := hl
  have h : (bn1 (f_X10_in (a1.toInt64) ((0 : Int64)) ((1 : Int64))) fun r1 => if r1 = 0 then (some ((-1000000001 : Int32), S)) else (nm (((20 : Int32)) * a1) fun x3 => lp (fun _ _ _ _ => none) (b_X10_keep_20) 1000 a1 x3 ((0 : Int32)) S) : Option (Int32 × ST)) = some res := h
  refine lv_iload_n hx hb dX10_keep_0 rfl (lv_at hl 1 rfl) ?_
  refine lv_i2l hx hb dX10_keep_1 rfl ?_
  refine lv_lconst (v := (0 : Int64)) hx hb dX10_keep_2 (by decide) ?_
  refine lv_lconst (v := (1 : Int64)) hx hb dX10_keep_3 (by decide) ?_
  obtain ⟨r1, qr1, h⟩ := bn1_s h
  refine kc_i X (res := (r1, S)) (rS (As := [.long (a1.toInt64), .long ((0 : Int64)), .long ((1 : Int64))]) (rest := []) (n := 3) C X (c_X10_in l g ad S _ (a1.toInt64) ((0 : Int64)) ((1 : Int64))  qr1) wd_1151 wd_1152 wd_83 wd_1153 rfl rfl (by decide +kernel) ⟨Nat.le_of_ble_eq_true rfl, Nat.le_of_ble_eq_true rfl⟩ rfl hl.1 (lv_room (Nat.le_of_ble_eq_true rfl)) dX10_keep_4) (fun H locs X => ?_)
  refine lv_if_ne (tgt := 13) hx hb dX10_keep_7 (by decide) (fun c2 => ?_) (fun c2 => ?_)
  · have h := inn h c2
    refine lv_bipush (v := (20 : Int32)) hx hb dX10_keep_13 (by decide) ?_
    refine lv_iload_n hx hb dX10_keep_15 rfl (lv_at hl 1 rfl) ?_
    refine lv_imul hx hb dX10_keep_16 ?_
    obtain ⟨x3, ex3, h⟩ := nm_s h
    refine tp_i ex3 ?_
    refine lv_istore_n (lv' := [(2, .int x3), (0, .ref (ad 0)), (1, .int a1)]) hx hb dX10_keep_17 rfl hl (by decide) rfl (fun ls hl => ?_)
    refine lv_iconst (v := (0 : Int32)) hx hb dX10_keep_18 (by decide) ?_
    refine lv_istore_n (lv' := [(3, .int ((0 : Int32))), (2, .int x3), (0, .ref (ad 0)), (1, .int a1)]) hx hb dX10_keep_19 rfl hl (by decide) rfl (fun ls hl => ?_)
    exact kl_X10_keep_20 C _ h X (lv_sub hl [2, 3, 1, 0] rfl) 
  · have h := ip h c2
    refine lv_ldc (v := (-1000000001 : Int32)) hx hb C.1.2.2.2.2.2.1 (C.1.2.2.2.2.2.2 _ (ws_in wd_1249)) dX10_keep_10 ?_
    exact rt_i C X rfl (Option.some.inj h) dX10_keep_12

def rmX10_goBack : Room := { frames := 1, cells := 0, slots := 0, locals := 25 }
def b_X10_goBack_113 (K113 : Int32 → Int32 → ST → Option (Int32 × ST)) (v2 : Int32) (v3 : Int32) (S : ST) : Option (Int32 × ST) :=
  if ((9 : Int32)) ≤ v3 then (some ((1 : Int32), S)) else (chk (ib ((v2 + ((6 : Int32))) + v3) 40) (chk (ib v3 9) (nm (su S 17 v3.toNatClampNeg (S.1 18 ((v2 + ((6 : Int32))) + v3).toNatClampNeg)) fun S15 => nm (v3 + (1 : Int32)) fun x16 => K113 v2 x16 S15)))
def b_X10_goBack_98  (v2 : Int32) (v3 : Int32) (v4 : Int32) (S : ST) : Option (Int32 × ST) :=
  chk (ib v4 5) (nm (su S 6 v4.toNatClampNeg v3) fun S9 => chk (ib (v2 + ((5 : Int32))) 40) (nm (su S9 0 42 (S9.1 18 (v2 + ((5 : Int32))).toNatClampNeg)) fun S11 => lp (fun _ _ _ => none) (b_X10_goBack_113) 1000 v2 ((0 : Int32)) S11))
def b_X10_goBack_32 (K32 : Int32 → Int32 → ST → Option (Int32 × ST)) (v2 : Int32) (v3 : Int32) (S : ST) : Option (Int32 × ST) :=
  if ((5 : Int32)) ≤ v3 then (if (S.1 6 ((1 : Int32)).toNatClampNeg) ≤ ((S.1 1 ((1 : Int32)).toNatClampNeg) - ((50 : Int32))) then (b_X10_goBack_98 v2 (S.1 6 ((1 : Int32)).toNatClampNeg) ((1 : Int32)) S) else (b_X10_goBack_98 v2 ((S.1 1 ((1 : Int32)).toNatClampNeg) - ((50 : Int32))) ((1 : Int32)) S)) else (chk (ib (v2 + v3) 40) (chk (ib v3 5) (nm (su S 6 v3.toNatClampNeg (S.1 18 (v2 + v3).toNatClampNeg)) fun S19 => nm (v3 + (1 : Int32)) fun x20 => K32 v2 x20 S19)))
def f_X10_goBack (a1 : Int32) (S : ST) : Option (Int32 × ST) :=
  bn1 (f_X10_in (a1.toInt64) ((0 : Int64)) ((1 : Int64))) fun r1 => if r1 = 0 then (some ((-1000000001 : Int32), S)) else (chk (ib a1 2) (if (S.1 19 a1.toNatClampNeg) = 0 then (some ((-1000000003 : Int32), S)) else (nm (((20 : Int32)) * a1) fun x5 => lp (fun _ _ _ => none) (b_X10_goBack_32) 1000 x5 ((0 : Int32)) S)))
set_option maxHeartbeats 4000000 in
set_option maxRecDepth 100000 in
theorem kb_X10_goBack_113 {p : Program} {l : Launch} {e : Env} {s : State} {m : MethodId} {args : Array Value} {below : List Frame} {meth : Method} {c : Code} {g : GG} {ad : Nat → Nat} {res : (Int32 × ST)} {S : ST} (C : CX kM g ad p s m args meth c cX10_goBack (some Jvm.ClassFile.FieldType.int) 4 yX10_goBack.cls (.code yX10_goBack cX10_goBack 4 (some Jvm.ClassFile.FieldType.int))) {K113 : Int32 → Int32 → ST → Option (Int32 × ST)} (hK113 : ∀ {v2 : Int32} {v3 : Int32} {S : ST} {H : Heap} {locs : List Loc} {ls : Array Slot}, K113 v2 v3 S = some res → WX kM g ad s S H locs → lv_has ls 4 [(0, .ref (ad 0)), (2, .int v2), (3, .int v3)] → W p l e rmX10_goBack s m args below meth c H locs 0 0 (MQ below (QI kM g ad res (AA kM ad s.heap.size)) args s 0 0 (AA kM ad s.heap.size)) (F0 m 113 ls [])) {v2 : Int32} {v3 : Int32}  {H : Heap} {locs : List Loc} {ls : Array Slot} (h : b_X10_goBack_113 K113 v2 v3 S = some res) (X : WX kM g ad s S H locs) (hl : lv_has ls 4 [(0, .ref (ad 0)), (2, .int v2), (3, .int v3)])  : W p l e rmX10_goBack s m args below meth c H locs 0 0 (MQ below (QI kM g ad res (AA kM ad s.heap.size)) args s 0 0 (AA kM ad s.heap.size)) (F0 m 113 ls []) := by
  have hx := C.1.1
  have hb := C.1.2.1
  have h : (if ((9 : Int32)) ≤ v3 then (some ((1 : Int32), S)) else (chk (ib ((v2 + ((6 : Int32))) + v3) 40) (chk (ib v3 9) (nm (su S 17 v3.toNatClampNeg (S.1 18 ((v2 + ((6 : Int32))) + v3).toNatClampNeg)) fun S15 => nm (v3 + (1 : Int32)) fun x16 => K113 v2 x16 S15))) : Option (Int32 × ST)) = some res := h
  refine lv_iload_n hx hb dX10_goBack_113 rfl (lv_at hl 2 rfl) ?_
  refine lv_bipush (v := (9 : Int32)) hx hb dX10_goBack_114 (by decide) ?_
  refine lv_icmp_ge (tgt := 142) hx hb dX10_goBack_116 (by decide) (fun c12 => ?_) (fun c12 => ?_)
  · have h := ip h c12
    refine lv_iconst (v := (1 : Int32)) hx hb dX10_goBack_142 (by decide) ?_
    exact rt_i C X rfl (Option.some.inj h) dX10_goBack_143
  · have h := inn h c12
    refine lv_aload_n hx hb dX10_goBack_119 rfl (lv_at hl 0 rfl) ?_
    refine g_get C X inT10 0 (by decide) (eM_0 g ad S) rfl 43 (by decide) wd_1049 (v := .ref (ad 17)) rfl dX10_goBack_120 ?_
    refine lv_iload_n hx hb dX10_goBack_123 rfl (lv_at hl 2 rfl) ?_
    refine lv_aload_n hx hb dX10_goBack_124 rfl (lv_at hl 0 rfl) ?_
    refine g_get C X inT10 0 (by decide) (eM_0 g ad S) rfl 44 (by decide) wd_1050 (v := .ref (ad 18)) rfl dX10_goBack_125 ?_
    refine lv_iload_n hx hb dX10_goBack_128 rfl (lv_at hl 1 rfl) ?_
    refine lv_bipush (v := (6 : Int32)) hx hb dX10_goBack_129 (by decide) ?_
    refine lv_iadd hx hb dX10_goBack_131 ?_
    refine lv_iload_n hx hb dX10_goBack_132 rfl (lv_at hl 2 rfl) ?_
    refine lv_iadd hx hb dX10_goBack_133 ?_
    obtain ⟨k13, h⟩ := chk_s h
    refine g_iald C X 18 (by decide) (eM_18 g ad S) k13 dX10_goBack_134 ?_
    obtain ⟨k14, h⟩ := chk_s h
    obtain ⟨S15, eS15, h⟩ := nm_s h
    refine g_iast (S' := S15) C X 17 (by decide) (eM_17 g ad S) k14 (by subst eS15; rfl) (by subst eS15; exact fun i hi => ent_offu hi) dX10_goBack_135 (fun H locs X => ?_)
    obtain ⟨x16, ex16, h⟩ := nm_s h
    refine lv_iinc (v := x16) (lv' := [(3, .int x16), (0, .ref (ad 0)), (2, .int v2)]) hx hb dX10_goBack_136 hl (k := 2) rfl (by rw [ex16]; rfl) (by decide) rfl (fun ls hl => ?_)
    refine lv_goto (tgt := 113) hx hb dX10_goBack_139 (by decide) ?_
    exact hK113 h X (lv_sub hl [1, 2, 0] rfl) 
set_option maxHeartbeats 4000000 in
set_option maxRecDepth 100000 in
theorem kl_X10_goBack_113 {p : Program} {l : Launch} {e : Env} {s : State} {m : MethodId} {args : Array Value} {below : List Frame} {meth : Method} {c : Code} {g : GG} {ad : Nat → Nat} {res : (Int32 × ST)}  (C : CX kM g ad p s m args meth c cX10_goBack (some Jvm.ClassFile.FieldType.int) 4 yX10_goBack.cls (.code yX10_goBack cX10_goBack 4 (some Jvm.ClassFile.FieldType.int)))  : ∀ (n : Nat) {v2 : Int32} {v3 : Int32} {S : ST} {H : Heap} {locs : List Loc} {ls : Array Slot}, (lp (fun _ _ _ => none) (b_X10_goBack_113)) n v2 v3 S = some res → WX kM g ad s S H locs → lv_has ls 4 [(0, .ref (ad 0)), (2, .int v2), (3, .int v3)] → W p l e rmX10_goBack s m args below meth c H locs 0 0 (MQ below (QI kM g ad res (AA kM ad s.heap.size)) args s 0 0 (AA kM ad s.heap.size)) (F0 m 113 ls []) := by
  intro n
  induction n with
  | zero =>
    intro v2 v3 S H locs ls h
    cases (show (none : Option (Int32 × ST)) = some res from h)
  | succ n ih =>
    intro v2 v3 S H locs ls h X hl 
    exact kb_X10_goBack_113 C ih h X hl 
set_option maxHeartbeats 4000000 in
set_option maxRecDepth 100000 in
theorem kb_X10_goBack_98 {p : Program} {l : Launch} {e : Env} {s : State} {m : MethodId} {args : Array Value} {below : List Frame} {meth : Method} {c : Code} {g : GG} {ad : Nat → Nat} {res : (Int32 × ST)} {S : ST} (C : CX kM g ad p s m args meth c cX10_goBack (some Jvm.ClassFile.FieldType.int) 4 yX10_goBack.cls (.code yX10_goBack cX10_goBack 4 (some Jvm.ClassFile.FieldType.int)))  {v2 : Int32} {v3 : Int32} {v4 : Int32}  {H : Heap} {locs : List Loc} {ls : Array Slot} (h : b_X10_goBack_98 v2 v3 v4 S = some res) (X : WX kM g ad s S H locs) (hl : lv_has ls 4 [(0, .ref (ad 0)), (2, .int v2)])  : W p l e rmX10_goBack s m args below meth c H locs 0 0 (MQ below (QI kM g ad res (AA kM ad s.heap.size)) args s 0 0 (AA kM ad s.heap.size)) (F0 m 98 ls [.int v3, .int v4, .ref (ad 6)]) := by
  have hx := C.1.1
  have hb := C.1.2.1
  have h : (chk (ib v4 5) (nm (su S 6 v4.toNatClampNeg v3) fun S9 => chk (ib (v2 + ((5 : Int32))) 40) (nm (su S9 0 42 (S9.1 18 (v2 + ((5 : Int32))).toNatClampNeg)) fun S11 => lp (fun _ _ _ => none) (b_X10_goBack_113) 1000 v2 ((0 : Int32)) S11)) : Option (Int32 × ST)) = some res := h
  obtain ⟨k8, h⟩ := chk_s h
  obtain ⟨S9, eS9, h⟩ := nm_s h
  refine g_iast (S' := S9) C X 6 (by decide) (eM_6 g ad S) k8 (by subst eS9; rfl) (by subst eS9; exact fun i hi => ent_offu hi) dX10_goBack_98 (fun H locs X => ?_)
  refine lv_aload_n hx hb dX10_goBack_99 rfl (lv_at hl 0 rfl) ?_
  refine lv_aload_n hx hb dX10_goBack_100 rfl (lv_at hl 0 rfl) ?_
  refine g_get C X inT10 0 (by decide) (eM_0 g ad S9) rfl 44 (by decide) wd_1050 (v := .ref (ad 18)) rfl dX10_goBack_101 ?_
  refine lv_iload_n hx hb dX10_goBack_104 rfl (lv_at hl 1 rfl) ?_
  refine lv_iconst (v := (5 : Int32)) hx hb dX10_goBack_105 (by decide) ?_
  refine lv_iadd hx hb dX10_goBack_106 ?_
  obtain ⟨k10, h⟩ := chk_s h
  refine g_iald C X 18 (by decide) (eM_18 g ad S9) k10 dX10_goBack_107 ?_
  obtain ⟨S11, eS11, h⟩ := nm_s h
  refine g_put (S' := S11) C X inT10 tyX10 tyX10_ok nmX10 0 (by decide) (eM_0 g ad S9) rfl 42 (by decide) wd_1048 rfl (by rfl) rfl (Nat.le_of_ble_eq_true rfl) (by subst eS11; rfl) (by subst eS11; exact fun i hi => ent_offu hi) dX10_goBack_108 (fun H locs X => ?_)
  refine lv_iconst (v := (0 : Int32)) hx hb dX10_goBack_111 (by decide) ?_
  refine lv_istore_n (lv' := [(3, .int ((0 : Int32))), (0, .ref (ad 0)), (2, .int v2)]) hx hb dX10_goBack_112 rfl hl (by decide) rfl (fun ls hl => ?_)
  exact kl_X10_goBack_113 C _ h X (lv_sub hl [1, 2, 0] rfl) 
set_option maxHeartbeats 4000000 in
set_option maxRecDepth 100000 in
theorem kb_X10_goBack_32 {p : Program} {l : Launch} {e : Env} {s : State} {m : MethodId} {args : Array Value} {below : List Frame} {meth : Method} {c : Code} {g : GG} {ad : Nat → Nat} {res : (Int32 × ST)} {S : ST} (C : CX kM g ad p s m args meth c cX10_goBack (some Jvm.ClassFile.FieldType.int) 4 yX10_goBack.cls (.code yX10_goBack cX10_goBack 4 (some Jvm.ClassFile.FieldType.int))) {K32 : Int32 → Int32 → ST → Option (Int32 × ST)} (hK32 : ∀ {v2 : Int32} {v3 : Int32} {S : ST} {H : Heap} {locs : List Loc} {ls : Array Slot}, K32 v2 v3 S = some res → WX kM g ad s S H locs → lv_has ls 4 [(0, .ref (ad 0)), (2, .int v2), (3, .int v3)] → W p l e rmX10_goBack s m args below meth c H locs 0 0 (MQ below (QI kM g ad res (AA kM ad s.heap.size)) args s 0 0 (AA kM ad s.heap.size)) (F0 m 32 ls [])) {v2 : Int32} {v3 : Int32}  {H : Heap} {locs : List Loc} {ls : Array Slot} (h : b_X10_goBack_32 K32 v2 v3 S = some res) (X : WX kM g ad s S H locs) (hl : lv_has ls 4 [(0, .ref (ad 0)), (2, .int v2), (3, .int v3)])  : W p l e rmX10_goBack s m args below meth c H locs 0 0 (MQ below (QI kM g ad res (AA kM ad s.heap.size)) args s 0 0 (AA kM ad s.heap.size)) (F0 m 32 ls []) := by
  have hx := C.1.1
  have hb := C.1.2.1
  have h : (if ((5 : Int32)) ≤ v3 then (if (S.1 6 ((1 : Int32)).toNatClampNeg) ≤ ((S.1 1 ((1 : Int32)).toNatClampNeg) - ((50 : Int32))) then (b_X10_goBack_98 v2 (S.1 6 ((1 : Int32)).toNatClampNeg) ((1 : Int32)) S) else (b_X10_goBack_98 v2 ((S.1 1 ((1 : Int32)).toNatClampNeg) - ((50 : Int32))) ((1 : Int32)) S)) else (chk (ib (v2 + v3) 40) (chk (ib v3 5) (nm (su S 6 v3.toNatClampNeg (S.1 18 (v2 + v3).toNatClampNeg)) fun S19 => nm (v3 + (1 : Int32)) fun x20 => K32 v2 x20 S19))) : Option (Int32 × ST)) = some res := h
  refine lv_iload_n hx hb dX10_goBack_32 rfl (lv_at hl 2 rfl) ?_
  refine lv_iconst (v := (5 : Int32)) hx hb dX10_goBack_33 (by decide) ?_
  refine lv_icmp_ge (tgt := 57) hx hb dX10_goBack_34 (by decide) (fun c6 => ?_) (fun c6 => ?_)
  · have h := ip h c6
    refine lv_aload_n hx hb dX10_goBack_57 rfl (lv_at hl 0 rfl) ?_
    refine g_get C X inT10 0 (by decide) (eM_0 g ad S) rfl 6 (by decide) wd_1012 (v := .ref (ad 6)) rfl dX10_goBack_58 ?_
    refine lv_iconst (v := (1 : Int32)) hx hb dX10_goBack_61 (by decide) ?_
    refine lv_aload_n hx hb dX10_goBack_62 rfl (lv_at hl 0 rfl) ?_
    refine g_get C X inT10 0 (by decide) (eM_0 g ad S) rfl 6 (by decide) wd_1012 (v := .ref (ad 6)) rfl dX10_goBack_63 ?_
    refine lv_iconst (v := (1 : Int32)) hx hb dX10_goBack_66 (by decide) ?_
    refine g_iald C X 6 (by decide) (eM_6 g ad S) (by decide) dX10_goBack_67 ?_
    refine lv_aload_n hx hb dX10_goBack_68 rfl (lv_at hl 0 rfl) ?_
    refine g_get C X inT10 0 (by decide) (eM_0 g ad S) rfl 0 (by decide) wd_1006 (v := .ref (ad 1)) rfl dX10_goBack_69 ?_
    refine lv_iconst (v := (1 : Int32)) hx hb dX10_goBack_72 (by decide) ?_
    refine g_iald C X 1 (by decide) (eM_1 g ad S) (by decide) dX10_goBack_73 ?_
    refine lv_bipush (v := (50 : Int32)) hx hb dX10_goBack_74 (by decide) ?_
    refine lv_isub hx hb dX10_goBack_76 ?_
    refine lv_icmp_le (tgt := 92) hx hb dX10_goBack_77 (by decide) (fun c7 => ?_) (fun c7 => ?_)
    · have h := ip h c7
      refine lv_aload_n hx hb dX10_goBack_92 rfl (lv_at hl 0 rfl) ?_
      refine g_get C X inT10 0 (by decide) (eM_0 g ad S) rfl 6 (by decide) wd_1012 (v := .ref (ad 6)) rfl dX10_goBack_93 ?_
      refine lv_iconst (v := (1 : Int32)) hx hb dX10_goBack_96 (by decide) ?_
      refine g_iald C X 6 (by decide) (eM_6 g ad S) (by decide) dX10_goBack_97 ?_
      exact kb_X10_goBack_98 C h X (lv_sub hl [0, 1] rfl) 
    · have h := inn h c7
      refine lv_aload_n hx hb dX10_goBack_80 rfl (lv_at hl 0 rfl) ?_
      refine g_get C X inT10 0 (by decide) (eM_0 g ad S) rfl 0 (by decide) wd_1006 (v := .ref (ad 1)) rfl dX10_goBack_81 ?_
      refine lv_iconst (v := (1 : Int32)) hx hb dX10_goBack_84 (by decide) ?_
      refine g_iald C X 1 (by decide) (eM_1 g ad S) (by decide) dX10_goBack_85 ?_
      refine lv_bipush (v := (50 : Int32)) hx hb dX10_goBack_86 (by decide) ?_
      refine lv_isub hx hb dX10_goBack_88 ?_
      refine lv_goto (tgt := 98) hx hb dX10_goBack_89 (by decide) ?_
      exact kb_X10_goBack_98 C h X (lv_sub hl [0, 1] rfl) 
  · have h := inn h c6
    refine lv_aload_n hx hb dX10_goBack_37 rfl (lv_at hl 0 rfl) ?_
    refine g_get C X inT10 0 (by decide) (eM_0 g ad S) rfl 6 (by decide) wd_1012 (v := .ref (ad 6)) rfl dX10_goBack_38 ?_
    refine lv_iload_n hx hb dX10_goBack_41 rfl (lv_at hl 2 rfl) ?_
    refine lv_aload_n hx hb dX10_goBack_42 rfl (lv_at hl 0 rfl) ?_
    refine g_get C X inT10 0 (by decide) (eM_0 g ad S) rfl 44 (by decide) wd_1050 (v := .ref (ad 18)) rfl dX10_goBack_43 ?_
    refine lv_iload_n hx hb dX10_goBack_46 rfl (lv_at hl 1 rfl) ?_
    refine lv_iload_n hx hb dX10_goBack_47 rfl (lv_at hl 2 rfl) ?_
    refine lv_iadd hx hb dX10_goBack_48 ?_
    obtain ⟨k17, h⟩ := chk_s h
    refine g_iald C X 18 (by decide) (eM_18 g ad S) k17 dX10_goBack_49 ?_
    obtain ⟨k18, h⟩ := chk_s h
    obtain ⟨S19, eS19, h⟩ := nm_s h
    refine g_iast (S' := S19) C X 6 (by decide) (eM_6 g ad S) k18 (by subst eS19; rfl) (by subst eS19; exact fun i hi => ent_offu hi) dX10_goBack_50 (fun H locs X => ?_)
    obtain ⟨x20, ex20, h⟩ := nm_s h
    refine lv_iinc (v := x20) (lv' := [(3, .int x20), (0, .ref (ad 0)), (2, .int v2)]) hx hb dX10_goBack_51 hl (k := 2) rfl (by rw [ex20]; rfl) (by decide) rfl (fun ls hl => ?_)
    refine lv_goto (tgt := 32) hx hb dX10_goBack_54 (by decide) ?_
    exact hK32 h X (lv_sub hl [1, 2, 0] rfl) 
set_option maxHeartbeats 4000000 in
set_option maxRecDepth 100000 in
theorem kl_X10_goBack_32 {p : Program} {l : Launch} {e : Env} {s : State} {m : MethodId} {args : Array Value} {below : List Frame} {meth : Method} {c : Code} {g : GG} {ad : Nat → Nat} {res : (Int32 × ST)}  (C : CX kM g ad p s m args meth c cX10_goBack (some Jvm.ClassFile.FieldType.int) 4 yX10_goBack.cls (.code yX10_goBack cX10_goBack 4 (some Jvm.ClassFile.FieldType.int)))  : ∀ (n : Nat) {v2 : Int32} {v3 : Int32} {S : ST} {H : Heap} {locs : List Loc} {ls : Array Slot}, (lp (fun _ _ _ => none) (b_X10_goBack_32)) n v2 v3 S = some res → WX kM g ad s S H locs → lv_has ls 4 [(0, .ref (ad 0)), (2, .int v2), (3, .int v3)] → W p l e rmX10_goBack s m args below meth c H locs 0 0 (MQ below (QI kM g ad res (AA kM ad s.heap.size)) args s 0 0 (AA kM ad s.heap.size)) (F0 m 32 ls []) := by
  intro n
  induction n with
  | zero =>
    intro v2 v3 S H locs ls h
    cases (show (none : Option (Int32 × ST)) = some res from h)
  | succ n ih =>
    intro v2 v3 S H locs ls h X hl 
    exact kb_X10_goBack_32 C ih h X hl 
set_option maxHeartbeats 4000000 in
set_option maxRecDepth 100000 in
theorem c_X10_goBack (l : Launch) (g : GG) (ad : Nat → Nat) (S : ST) (sz : Nat) (a1 : Int32)  {res : (Int32 × ST)} (h : f_X10_goBack a1 S = some res) : Met l yX10_goBack (WS (.code yX10_goBack cX10_goBack 4 (some Jvm.ClassFile.FieldType.int))) rmX10_goBack (va_Pc [.ref (ad 0), .int a1] (PW kM g ad S sz)) (QI kM g ad res (AA kM ad sz)) 0 0 (AA kM ad sz) := by
  refine go_m (Qc := fun A => QI kM g ad res A) (by decide) (Nat.le_of_ble_eq_true rfl) (fun p e s m below meth c ls H locs C X hl => ?_)
  have hx := C.1.1
  have hb := C.1.2.1
  have hl : lv_has ls 4 [(0, .ref (ad 0)), (1, .int a1)] := hl
  have h : (bn1 (f_X10_in (a1.toInt64) ((0 : Int64)) ((1 : Int64))) fun r1 => if r1 = 0 then (some ((-1000000001 : Int32), S)) else (chk (ib a1 2) (if (S.1 19 a1.toNatClampNeg) = 0 then (some ((-1000000003 : Int32), S)) else (nm (((20 : Int32)) * a1) fun x5 => lp (fun _ _ _ => none) (b_X10_goBack_32) 1000 x5 ((0 : Int32)) S))) : Option (Int32 × ST)) = some res := h
  refine lv_iload_n hx hb dX10_goBack_0 rfl (lv_at hl 1 rfl) ?_
  refine lv_i2l hx hb dX10_goBack_1 rfl ?_
  refine lv_lconst (v := (0 : Int64)) hx hb dX10_goBack_2 (by decide) ?_
  refine lv_lconst (v := (1 : Int64)) hx hb dX10_goBack_3 (by decide) ?_
  obtain ⟨r1, qr1, h⟩ := bn1_s h
  refine kc_i X (res := (r1, S)) (rS (As := [.long (a1.toInt64), .long ((0 : Int64)), .long ((1 : Int64))]) (rest := []) (n := 3) C X (c_X10_in l g ad S _ (a1.toInt64) ((0 : Int64)) ((1 : Int64))  qr1) wd_1151 wd_1152 wd_83 wd_1153 rfl rfl (by decide +kernel) ⟨Nat.le_of_ble_eq_true rfl, Nat.le_of_ble_eq_true rfl⟩ rfl hl.1 (lv_room (Nat.le_of_ble_eq_true rfl)) dX10_goBack_4) (fun H locs X => ?_)
  refine lv_if_ne (tgt := 13) hx hb dX10_goBack_7 (by decide) (fun c2 => ?_) (fun c2 => ?_)
  · have h := inn h c2
    refine lv_aload_n hx hb dX10_goBack_13 rfl (lv_at hl 0 rfl) ?_
    refine g_get C X inT10 0 (by decide) (eM_0 g ad S) rfl 45 (by decide) wd_1051 (v := .ref (ad 19)) rfl dX10_goBack_14 ?_
    refine lv_iload_n hx hb dX10_goBack_17 rfl (lv_at hl 1 rfl) ?_
    obtain ⟨k3, h⟩ := chk_s h
    refine g_zald C X 19 (by decide) (eM_19 g ad S) k3 dX10_goBack_18 ?_
    refine lv_if_ne (tgt := 25) hx hb dX10_goBack_19 (by decide) (fun c4 => ?_) (fun c4 => ?_)
    · have h := inn h c4
      refine lv_bipush (v := (20 : Int32)) hx hb dX10_goBack_25 (by decide) ?_
      refine lv_iload_n hx hb dX10_goBack_27 rfl (lv_at hl 1 rfl) ?_
      refine lv_imul hx hb dX10_goBack_28 ?_
      obtain ⟨x5, ex5, h⟩ := nm_s h
      refine tp_i ex5 ?_
      refine lv_istore_n (lv' := [(2, .int x5), (0, .ref (ad 0)), (1, .int a1)]) hx hb dX10_goBack_29 rfl hl (by decide) rfl (fun ls hl => ?_)
      refine lv_iconst (v := (0 : Int32)) hx hb dX10_goBack_30 (by decide) ?_
      refine lv_istore_n (lv' := [(3, .int ((0 : Int32))), (2, .int x5), (0, .ref (ad 0)), (1, .int a1)]) hx hb dX10_goBack_31 rfl hl (by decide) rfl (fun ls hl => ?_)
      exact kl_X10_goBack_32 C _ h X (lv_sub hl [2, 1, 0] rfl) 
    · have h := ip h c4
      refine lv_ldc (v := (-1000000003 : Int32)) hx hb C.1.2.2.2.2.2.1 (C.1.2.2.2.2.2.2 _ (ws_in wd_1231)) dX10_goBack_22 ?_
      exact rt_i C X rfl (Option.some.inj h) dX10_goBack_24
  · have h := ip h c2
    refine lv_ldc (v := (-1000000001 : Int32)) hx hb C.1.2.2.2.2.2.1 (C.1.2.2.2.2.2.2 _ (ws_in wd_1249)) dX10_goBack_10 ?_
    exact rt_i C X rfl (Option.some.inj h) dX10_goBack_12
