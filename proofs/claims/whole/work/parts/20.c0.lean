def rmX9_within : Room := { frames := 0, cells := 0, slots := 0, locals := 0 }
def f_X9_within (a1 : Int32) (a2 : Int32) (a3 : Int32) : Option Int32 :=
  if a1 < a2 then (some ((0 : Int32))) else (if a3 < a1 then (some ((0 : Int32))) else (some ((1 : Int32))))
set_option maxHeartbeats 4000000 in
set_option maxRecDepth 100000 in
theorem c_X9_within (l : Launch) (g : GG) (ad : Nat → Nat) (S : ST) (sz : Nat) (a1 : Int32) (a2 : Int32) (a3 : Int32)  {res : Int32} (h : f_X9_within a1 a2 a3 = some res) : Met l yX9_within (WS (.code yX9_within cX9_within 3 (some Jvm.ClassFile.FieldType.boolean))) rmX9_within (va_Pc [.int a1, .int a2, .int a3] (PW kC g ad S sz)) (QI kC g ad (res, S) (AA kC ad sz)) 0 0 (AA kC ad sz) := by
  refine go_m (Qc := fun A => QI kC g ad (res, S) A) (by decide) (Nat.le_of_ble_eq_true rfl) (fun p e s m below meth c ls H locs C X hl => ?_)
  have hx := C.1.1
  have hb := C.1.2.1
  have hl : lv_has ls 3 [(0, .int a1), (1, .int a2), (2, .int a3)] := hl
  have h : (if a1 < a2 then (some ((0 : Int32))) else (if a3 < a1 then (some ((0 : Int32))) else (some ((1 : Int32)))) : Option Int32) = some res := h
  refine lv_iload_n hx hb dX9_within_0 rfl (lv_at hl 0 rfl) ?_
  refine lv_iload_n hx hb dX9_within_1 rfl (lv_at hl 1 rfl) ?_
  refine lv_icmp_lt (tgt := 14) hx hb dX9_within_2 (by decide) (fun c1 => ?_) (fun c1 => ?_)
  · have h := ip h c1
    refine lv_iconst (v := (0 : Int32)) hx hb dX9_within_14 (by decide) ?_
    exact rt_z C X rfl (by decide) (congrArg (fun z => (z, S)) (Option.some.inj h)) dX9_within_15
  · have h := inn h c1
    refine lv_iload_n hx hb dX9_within_5 rfl (lv_at hl 0 rfl) ?_
    refine lv_iload_n hx hb dX9_within_6 rfl (lv_at hl 2 rfl) ?_
    refine lv_icmp_gt (tgt := 14) hx hb dX9_within_7 (by decide) (fun c2 => ?_) (fun c2 => ?_)
    · have h := ip h c2
      refine lv_iconst (v := (0 : Int32)) hx hb dX9_within_14 (by decide) ?_
      exact rt_z C X rfl (by decide) (congrArg (fun z => (z, S)) (Option.some.inj h)) dX9_within_15
    · have h := inn h c2
      refine lv_iconst (v := (1 : Int32)) hx hb dX9_within_10 (by decide) ?_
      refine lv_goto (tgt := 15) hx hb dX9_within_11 (by decide) ?_
      exact rt_z C X rfl (by decide) (congrArg (fun z => (z, S)) (Option.some.inj h)) dX9_within_15

def rmX9_quotient : Room := { frames := 0, cells := 0, slots := 0, locals := 0 }
def f_X9_quotient (a1 : Int32) (a2 : Int32) : Option Int32 :=
  if a2 = 0 then (some ((0 : Int32))) else (chk (nz a2) (some (a1 / a2)))
set_option maxHeartbeats 4000000 in
set_option maxRecDepth 100000 in
theorem c_X9_quotient (l : Launch) (g : GG) (ad : Nat → Nat) (S : ST) (sz : Nat) (a1 : Int32) (a2 : Int32)  {res : Int32} (h : f_X9_quotient a1 a2 = some res) : Met l yX9_quotient (WS (.code yX9_quotient cX9_quotient 2 (some Jvm.ClassFile.FieldType.int))) rmX9_quotient (va_Pc [.int a1, .int a2] (PW kC g ad S sz)) (QI kC g ad (res, S) (AA kC ad sz)) 0 0 (AA kC ad sz) := by
  refine go_m (Qc := fun A => QI kC g ad (res, S) A) (by decide) (Nat.le_of_ble_eq_true rfl) (fun p e s m below meth c ls H locs C X hl => ?_)
  have hx := C.1.1
  have hb := C.1.2.1
  have hl : lv_has ls 2 [(0, .int a1), (1, .int a2)] := hl
  have h : (if a2 = 0 then (some ((0 : Int32))) else (chk (nz a2) (some (a1 / a2))) : Option Int32) = some res := h
  refine lv_iload_n hx hb dX9_quotient_0 rfl (lv_at hl 1 rfl) ?_
  refine lv_if_ne (tgt := 8) hx hb dX9_quotient_1 (by decide) (fun c1 => ?_) (fun c1 => ?_)
  · have h := inn h c1
    refine lv_iload_n hx hb dX9_quotient_8 rfl (lv_at hl 0 rfl) ?_
    refine lv_iload_n hx hb dX9_quotient_9 rfl (lv_at hl 1 rfl) ?_
    obtain ⟨k2, h⟩ := chk_s h
    refine lv_idiv hx hb dX9_quotient_10 (nz_ne k2) ?_
    exact rt_i C X rfl (congrArg (fun z => (z, S)) (Option.some.inj h)) dX9_quotient_11
  · have h := ip h c1
    refine lv_iconst (v := (0 : Int32)) hx hb dX9_quotient_4 (by decide) ?_
    refine lv_goto (tgt := 11) hx hb dX9_quotient_5 (by decide) ?_
    exact rt_i C X rfl (congrArg (fun z => (z, S)) (Option.some.inj h)) dX9_quotient_11

def rmX9_isGood : Room := { frames := 0, cells := 0, slots := 0, locals := 0 }
def f_X9_isGood (a1 : Int32) : Option Int32 :=
  if a1 = ((1 : Int32)) then (some ((1 : Int32))) else (if a1 = ((2 : Int32)) then (some ((1 : Int32))) else (some ((0 : Int32))))
set_option maxHeartbeats 4000000 in
set_option maxRecDepth 100000 in
theorem c_X9_isGood (l : Launch) (g : GG) (ad : Nat → Nat) (S : ST) (sz : Nat) (a1 : Int32)  {res : Int32} (h : f_X9_isGood a1 = some res) : Met l yX9_isGood (WS (.code yX9_isGood cX9_isGood 1 (some Jvm.ClassFile.FieldType.boolean))) rmX9_isGood (va_Pc [.int a1] (PW kC g ad S sz)) (QI kC g ad (res, S) (AA kC ad sz)) 0 0 (AA kC ad sz) := by
  refine go_m (Qc := fun A => QI kC g ad (res, S) A) (by decide) (Nat.le_of_ble_eq_true rfl) (fun p e s m below meth c ls H locs C X hl => ?_)
  have hx := C.1.1
  have hb := C.1.2.1
  have hl : lv_has ls 1 [(0, .int a1)] := hl
  have h : (if a1 = ((1 : Int32)) then (some ((1 : Int32))) else (if a1 = ((2 : Int32)) then (some ((1 : Int32))) else (some ((0 : Int32)))) : Option Int32) = some res := h
  refine lv_iload_n hx hb dX9_isGood_0 rfl (lv_at hl 0 rfl) ?_
  refine lv_iconst (v := (1 : Int32)) hx hb dX9_isGood_1 (by decide) ?_
  refine lv_icmp_eq (tgt := 10) hx hb dX9_isGood_2 (by decide) (fun c1 => ?_) (fun c1 => ?_)
  · have h := ip h c1
    refine lv_iconst (v := (1 : Int32)) hx hb dX9_isGood_10 (by decide) ?_
    refine lv_goto (tgt := 15) hx hb dX9_isGood_11 (by decide) ?_
    exact rt_z C X rfl (by decide) (congrArg (fun z => (z, S)) (Option.some.inj h)) dX9_isGood_15
  · have h := inn h c1
    refine lv_iload_n hx hb dX9_isGood_5 rfl (lv_at hl 0 rfl) ?_
    refine lv_iconst (v := (2 : Int32)) hx hb dX9_isGood_6 (by decide) ?_
    refine lv_icmp_ne (tgt := 14) hx hb dX9_isGood_7 (by decide) (fun c2 => ?_) (fun c2 => ?_)
    · have h := inn h c2
      refine lv_iconst (v := (0 : Int32)) hx hb dX9_isGood_14 (by decide) ?_
      exact rt_z C X rfl (by decide) (congrArg (fun z => (z, S)) (Option.some.inj h)) dX9_isGood_15
    · have h := ip h c2
      refine lv_iconst (v := (1 : Int32)) hx hb dX9_isGood_10 (by decide) ?_
      refine lv_goto (tgt := 15) hx hb dX9_isGood_11 (by decide) ?_
      exact rt_z C X rfl (by decide) (congrArg (fun z => (z, S)) (Option.some.inj h)) dX9_isGood_15

def rmX9_at : Room := { frames := 0, cells := 0, slots := 0, locals := 0 }
def f_X9_at (a1 : Nat) (a2 : Int32) (S : ST) : Option Int32 :=
  if a2 < 0 then (some ((0 : Int32))) else (if (Int32.ofNat (lnC a1)) ≤ a2 then (some ((0 : Int32))) else (chk (ib a2 (lnC a1)) (some (S.1 a1 a2.toNatClampNeg))))
set_option maxHeartbeats 4000000 in
set_option maxRecDepth 100000 in
theorem c_X9_at (l : Launch) (g : GG) (ad : Nat → Nat) (S : ST) (sz : Nat) (a1 : Nat) (a2 : Int32) (f1 : iaC a1 = true) {res : Int32} (h : f_X9_at a1 a2 S = some res) : Met l yX9_at (WS (.code yX9_at cX9_at 2 (some Jvm.ClassFile.FieldType.int))) rmX9_at (va_Pc [.ref (ad a1), .int a2] (PW kC g ad S sz)) (QI kC g ad (res, S) (AA kC ad sz)) 0 0 (AA kC ad sz) := by
  refine go_m (Qc := fun A => QI kC g ad (res, S) A) (by decide) (Nat.le_of_ble_eq_true rfl) (fun p e s m below meth c ls H locs C X hl => ?_)
  have hx := C.1.1
  have hb := C.1.2.1
  have hl : lv_has ls 2 [(0, .ref (ad a1)), (1, .int a2)] := hl
  have h : (if a2 < 0 then (some ((0 : Int32))) else (if (Int32.ofNat (lnC a1)) ≤ a2 then (some ((0 : Int32))) else (chk (ib a2 (lnC a1)) (some (S.1 a1 a2.toNatClampNeg)))) : Option Int32) = some res := h
  refine lv_iload_n hx hb dX9_at_0 rfl (lv_at hl 1 rfl) ?_
  refine lv_if_lt (tgt := 16) hx hb dX9_at_1 (by decide) (fun c1 => ?_) (fun c1 => ?_)
  · have h := ip h c1
    refine lv_iconst (v := (0 : Int32)) hx hb dX9_at_16 (by decide) ?_
    exact rt_i C X rfl (congrArg (fun z => (z, S)) (Option.some.inj h)) dX9_at_17
  · have h := inn h c1
    refine lv_iload_n hx hb dX9_at_4 rfl (lv_at hl 1 rfl) ?_
    refine lv_aload_n hx hb dX9_at_5 rfl (lv_at hl 0 rfl) ?_
    refine g_alen C X a1 0 (ltiaC f1) (eiaC g ad S f1) rfl (v := Int32.ofNat (lnC a1)) (by first | rfl | decide) dX9_at_6 ?_
    refine lv_icmp_ge (tgt := 16) hx hb dX9_at_7 (by decide) (fun c2 => ?_) (fun c2 => ?_)
    · have h := ip h c2
      refine lv_iconst (v := (0 : Int32)) hx hb dX9_at_16 (by decide) ?_
      exact rt_i C X rfl (congrArg (fun z => (z, S)) (Option.some.inj h)) dX9_at_17
    · have h := inn h c2
      refine lv_aload_n hx hb dX9_at_10 rfl (lv_at hl 0 rfl) ?_
      refine lv_iload_n hx hb dX9_at_11 rfl (lv_at hl 1 rfl) ?_
      obtain ⟨k3, h⟩ := chk_s h
      refine g_iald C X a1 (ltiaC f1) (eiaC g ad S f1) k3 dX9_at_12 ?_
      refine lv_goto (tgt := 17) hx hb dX9_at_13 (by decide) ?_
      exact rt_i C X rfl (congrArg (fun z => (z, S)) (Option.some.inj h)) dX9_at_17

def f_X9_ats (a1 : Nat) (a2 : Int32) : Option Int32 :=
  if a2 < 0 then (some ((0 : Int32))) else (if (Int32.ofNat (sal a1).length) ≤ a2 then (some ((0 : Int32))) else (chk (ib a2 ((sal a1).length)) (some ((sal a1).getD a2.toNatClampNeg 0))))
set_option maxHeartbeats 4000000 in
set_option maxRecDepth 100000 in
theorem c_X9_ats (l : Launch) (g : GG) (ad : Nat → Nat) (S : ST) (sz : Nat) (a1 : Nat) (a2 : Int32) (f1 : a1 < 8) {res : Int32} (h : f_X9_ats a1 a2 = some res) : Met l yX9_at (WS (.code yX9_at cX9_at 2 (some Jvm.ClassFile.FieldType.int))) rmX9_at (va_Pc [.ref (g.2.2.1 a1), .int a2] (PW kC g ad S sz)) (QI kC g ad (res, S) (AA kC ad sz)) 0 0 (AA kC ad sz) := by
  refine go_m (Qc := fun A => QI kC g ad (res, S) A) (by decide) (Nat.le_of_ble_eq_true rfl) (fun p e s m below meth c ls H locs C X hl => ?_)
  have hx := C.1.1
  have hb := C.1.2.1
  have hl : lv_has ls 2 [(0, .ref (g.2.2.1 a1)), (1, .int a2)] := hl
  have h : (if a2 < 0 then (some ((0 : Int32))) else (if (Int32.ofNat (sal a1).length) ≤ a2 then (some ((0 : Int32))) else (chk (ib a2 ((sal a1).length)) (some ((sal a1).getD a2.toNatClampNeg 0)))) : Option Int32) = some res := h
  refine lv_iload_n hx hb dX9_at_0 rfl (lv_at hl 1 rfl) ?_
  refine lv_if_lt (tgt := 16) hx hb dX9_at_1 (by decide) (fun c1 => ?_) (fun c1 => ?_)
  · have h := ip h c1
    refine lv_iconst (v := (0 : Int32)) hx hb dX9_at_16 (by decide) ?_
    exact rt_i C X rfl (congrArg (fun z => (z, S)) (Option.some.inj h)) dX9_at_17
  · have h := inn h c1
    refine lv_iload_n hx hb dX9_at_4 rfl (lv_at hl 1 rfl) ?_
    refine lv_aload_n hx hb dX9_at_5 rfl (lv_at hl 0 rfl) ?_
    refine g_slen C X a1 (sal_at f1) (v := Int32.ofNat (sal a1).length) rfl dX9_at_6 ?_
    refine lv_icmp_ge (tgt := 16) hx hb dX9_at_7 (by decide) (fun c2 => ?_) (fun c2 => ?_)
    · have h := ip h c2
      refine lv_iconst (v := (0 : Int32)) hx hb dX9_at_16 (by decide) ?_
      exact rt_i C X rfl (congrArg (fun z => (z, S)) (Option.some.inj h)) dX9_at_17
    · have h := inn h c2
      refine lv_aload_n hx hb dX9_at_10 rfl (lv_at hl 0 rfl) ?_
      refine lv_iload_n hx hb dX9_at_11 rfl (lv_at hl 1 rfl) ?_
      obtain ⟨k3, h⟩ := chk_s h
      refine g_sald C X a1 (sal_at f1) k3 dX9_at_12 ?_
      refine lv_goto (tgt := 17) hx hb dX9_at_13 (by decide) ?_
      exact rt_i C X rfl (congrArg (fun z => (z, S)) (Option.some.inj h)) dX9_at_17

def rmX9_put : Room := { frames := 0, cells := 0, slots := 0, locals := 0 }
def f_X9_put (a1 : Nat) (a2 : Int32) (a3 : Int32) (S : ST) : Option ST :=
  if a2 < 0 then (some S) else (if (Int32.ofNat (lnC a1)) ≤ a2 then (some S) else (chk (ib a2 (lnC a1)) (nm (su S a1 a2.toNatClampNeg a3) fun S4 => some S4)))
set_option maxHeartbeats 4000000 in
set_option maxRecDepth 100000 in
theorem c_X9_put (l : Launch) (g : GG) (ad : Nat → Nat) (S : ST) (sz : Nat) (a1 : Nat) (a2 : Int32) (a3 : Int32) (f1 : iaC a1 = true) {res : ST} (h : f_X9_put a1 a2 a3 S = some res) : Met l yX9_put (WS (.code yX9_put cX9_put 3 none)) rmX9_put (va_Pc [.ref (ad a1), .int a2, .int a3] (PW kC g ad S sz)) (QV kC g ad res (AA kC ad sz)) 0 0 (AA kC ad sz) := by
  refine go_m (Qc := fun A => QV kC g ad res A) (by decide) (Nat.le_of_ble_eq_true rfl) (fun p e s m below meth c ls H locs C X hl => ?_)
  have hx := C.1.1
  have hb := C.1.2.1
  have hl : lv_has ls 3 [(0, .ref (ad a1)), (1, .int a2), (2, .int a3)] := hl
  have h : (if a2 < 0 then (some S) else (if (Int32.ofNat (lnC a1)) ≤ a2 then (some S) else (chk (ib a2 (lnC a1)) (nm (su S a1 a2.toNatClampNeg a3) fun S4 => some S4))) : Option ST) = some res := h
  refine lv_iload_n hx hb dX9_put_0 rfl (lv_at hl 1 rfl) ?_
  refine lv_if_lt (tgt := 14) hx hb dX9_put_1 (by decide) (fun c1 => ?_) (fun c1 => ?_)
  · have h := ip h c1
    exact rt_v C X rfl (Option.some.inj h) dX9_put_14
  · have h := inn h c1
    refine lv_iload_n hx hb dX9_put_4 rfl (lv_at hl 1 rfl) ?_
    refine lv_aload_n hx hb dX9_put_5 rfl (lv_at hl 0 rfl) ?_
    refine g_alen C X a1 0 (ltiaC f1) (eiaC g ad S f1) rfl (v := Int32.ofNat (lnC a1)) (by first | rfl | decide) dX9_put_6 ?_
    refine lv_icmp_ge (tgt := 14) hx hb dX9_put_7 (by decide) (fun c2 => ?_) (fun c2 => ?_)
    · have h := ip h c2
      exact rt_v C X rfl (Option.some.inj h) dX9_put_14
    · have h := inn h c2
      refine lv_aload_n hx hb dX9_put_10 rfl (lv_at hl 0 rfl) ?_
      refine lv_iload_n hx hb dX9_put_11 rfl (lv_at hl 1 rfl) ?_
      refine lv_iload_n hx hb dX9_put_12 rfl (lv_at hl 2 rfl) ?_
      obtain ⟨k3, h⟩ := chk_s h
      obtain ⟨S4, eS4, h⟩ := nm_s h
      refine g_iast (S' := S4) C X a1 (ltiaC f1) (eiaC g ad S f1) k3 (by subst eS4; rw [eiaC g ad _ f1, su_k]) (by subst eS4; exact fun i hi => ent_offu hi) dX9_put_13 (fun H locs X => ?_)
      exact rt_v C X rfl (Option.some.inj h) dX9_put_14

def rmX9_sizeOf : Room := { frames := 0, cells := 0, slots := 0, locals := 0 }
def f_X9_sizeOf (a1 : Int32) : Option Int32 :=
  if a1 < ((-1800 : Int32)) then (some ((1800 : Int32))) else (if a1 ≤ ((1800 : Int32)) then (if 0 ≤ a1 then (some a1) else (some (-a1))) else (some ((1800 : Int32))))
set_option maxHeartbeats 4000000 in
set_option maxRecDepth 100000 in
theorem c_X9_sizeOf (l : Launch) (g : GG) (ad : Nat → Nat) (S : ST) (sz : Nat) (a1 : Int32)  {res : Int32} (h : f_X9_sizeOf a1 = some res) : Met l yX9_sizeOf (WS (.code yX9_sizeOf cX9_sizeOf 1 (some Jvm.ClassFile.FieldType.int))) rmX9_sizeOf (va_Pc [.int a1] (PW kC g ad S sz)) (QI kC g ad (res, S) (AA kC ad sz)) 0 0 (AA kC ad sz) := by
  refine go_m (Qc := fun A => QI kC g ad (res, S) A) (by decide) (Nat.le_of_ble_eq_true rfl) (fun p e s m below meth c ls H locs C X hl => ?_)
  have hx := C.1.1
  have hb := C.1.2.1
  have hl : lv_has ls 1 [(0, .int a1)] := hl
  have h : (if a1 < ((-1800 : Int32)) then (some ((1800 : Int32))) else (if a1 ≤ ((1800 : Int32)) then (if 0 ≤ a1 then (some a1) else (some (-a1))) else (some ((1800 : Int32)))) : Option Int32) = some res := h
  refine lv_iload_n hx hb dX9_sizeOf_0 rfl (lv_at hl 0 rfl) ?_
  refine lv_sipush (v := (-1800 : Int32)) hx hb dX9_sizeOf_1 (by decide) ?_
  refine lv_icmp_lt (tgt := 14) hx hb dX9_sizeOf_4 (by decide) (fun c1 => ?_) (fun c1 => ?_)
  · have h := ip h c1
    refine lv_sipush (v := (1800 : Int32)) hx hb dX9_sizeOf_14 (by decide) ?_
    exact rt_i C X rfl (congrArg (fun z => (z, S)) (Option.some.inj h)) dX9_sizeOf_17
  · have h := inn h c1
    refine lv_iload_n hx hb dX9_sizeOf_7 rfl (lv_at hl 0 rfl) ?_
    refine lv_sipush (v := (1800 : Int32)) hx hb dX9_sizeOf_8 (by decide) ?_
    refine lv_icmp_le (tgt := 18) hx hb dX9_sizeOf_11 (by decide) (fun c2 => ?_) (fun c2 => ?_)
    · have h := ip h c2
      refine lv_iload_n hx hb dX9_sizeOf_18 rfl (lv_at hl 0 rfl) ?_
      refine lv_if_ge (tgt := 27) hx hb dX9_sizeOf_19 (by decide) (fun c3 => ?_) (fun c3 => ?_)
      · have h := ip h c3
        refine lv_iload_n hx hb dX9_sizeOf_27 rfl (lv_at hl 0 rfl) ?_
        exact rt_i C X rfl (congrArg (fun z => (z, S)) (Option.some.inj h)) dX9_sizeOf_28
      · have h := inn h c3
        refine lv_iload_n hx hb dX9_sizeOf_22 rfl (lv_at hl 0 rfl) ?_
        refine lv_ineg hx hb dX9_sizeOf_23 ?_
        refine lv_goto (tgt := 28) hx hb dX9_sizeOf_24 (by decide) ?_
        exact rt_i C X rfl (congrArg (fun z => (z, S)) (Option.some.inj h)) dX9_sizeOf_28
    · have h := inn h c2
      refine lv_sipush (v := (1800 : Int32)) hx hb dX9_sizeOf_14 (by decide) ?_
      exact rt_i C X rfl (congrArg (fun z => (z, S)) (Option.some.inj h)) dX9_sizeOf_17

def rmX9_sineOf : Room := { frames := 1, cells := 0, slots := 0, locals := 20 }
def f_X9_sineOf (a1 : Int32) : Option Int32 :=
  bn1 (f_X9_sizeOf a1) fun r1 => nm (r1.toInt64) fun v2 => nm (v2 * (((1800 : Int64)) - v2)) fun v3 => nm (((4050000 : Int64)) - v3) fun v4 => if (lg_cmp v4 ((0 : Int64))) = 0 then (some ((0 : Int32))) else (chk (nzl v4) (nm (((((4000 : Int64)) * v3) / v4).toInt32) fun v7 => if 0 ≤ a1 then (some v7) else (some (-v7))))
set_option maxHeartbeats 4000000 in
set_option maxRecDepth 100000 in
theorem c_X9_sineOf (l : Launch) (g : GG) (ad : Nat → Nat) (S : ST) (sz : Nat) (a1 : Int32)  {res : Int32} (h : f_X9_sineOf a1 = some res) : Met l yX9_sineOf (WS (.code yX9_sineOf cX9_sineOf 8 (some Jvm.ClassFile.FieldType.int))) rmX9_sineOf (va_Pc [.int a1] (PW kC g ad S sz)) (QI kC g ad (res, S) (AA kC ad sz)) 0 0 (AA kC ad sz) := by
  refine go_m (Qc := fun A => QI kC g ad (res, S) A) (by decide) (Nat.le_of_ble_eq_true rfl) (fun p e s m below meth c ls H locs C X hl => ?_)
  have hx := C.1.1
  have hb := C.1.2.1
  have hl : lv_has ls 8 [(0, .int a1)] := hl
  have h : (bn1 (f_X9_sizeOf a1) fun r1 => nm (r1.toInt64) fun v2 => nm (v2 * (((1800 : Int64)) - v2)) fun v3 => nm (((4050000 : Int64)) - v3) fun v4 => if (lg_cmp v4 ((0 : Int64))) = 0 then (some ((0 : Int32))) else (chk (nzl v4) (nm (((((4000 : Int64)) * v3) / v4).toInt32) fun v7 => if 0 ≤ a1 then (some v7) else (some (-v7)))) : Option Int32) = some res := h
  refine lv_iload_n hx hb dX9_sineOf_0 rfl (lv_at hl 0 rfl) ?_
  obtain ⟨r1, qr1, h⟩ := bn1_s h
  refine kc_i X (res := (r1, S)) (rS (As := [.int a1]) (rest := []) (n := 1) C X (c_X9_sizeOf l g ad S _ a1  qr1) wd_712 wd_713 wd_70 wd_714 rfl rfl (by decide +kernel) ⟨Nat.le_of_ble_eq_true rfl, Nat.le_of_ble_eq_true rfl⟩ rfl hl.1 (lv_room (Nat.le_of_ble_eq_true rfl)) dX9_sineOf_1) (fun H locs X => ?_)
  refine lv_i2l hx hb dX9_sineOf_4 rfl ?_
  obtain ⟨v2, ev2, h⟩ := nm_s h
  refine tp_l ev2 ?_
  refine lv_lstore_n (lv' := [(1, .long v2), (0, .int a1)]) hx hb dX9_sineOf_5 rfl hl (by decide) rfl (fun ls hl => ?_)
  refine lv_lload_n hx hb dX9_sineOf_6 rfl (lv_at hl 0 rfl) ?_
  refine lv_ldc2 (v := (1800 : Int64)) hx hb C.1.2.2.2.2.2.1 (C.1.2.2.2.2.2.2 _ (ws_in wd_715)) dX9_sineOf_7 ?_
  refine lv_lload_n hx hb dX9_sineOf_10 rfl (lv_at hl 0 rfl) ?_
  refine lv_lsub hx hb dX9_sineOf_11 ?_
  refine lv_lmul hx hb dX9_sineOf_12 ?_
  obtain ⟨v3, ev3, h⟩ := nm_s h
  refine tp_l ev3 ?_
  refine lv_lstore_n (lv' := [(3, .long v3), (1, .long v2), (0, .int a1)]) hx hb dX9_sineOf_13 rfl hl (by decide) rfl (fun ls hl => ?_)
  refine lv_ldc2 (v := (4050000 : Int64)) hx hb C.1.2.2.2.2.2.1 (C.1.2.2.2.2.2.2 _ (ws_in wd_716)) dX9_sineOf_14 ?_
  refine lv_lload_n hx hb dX9_sineOf_17 rfl (lv_at hl 0 rfl) ?_
  refine lv_lsub hx hb dX9_sineOf_18 ?_
  obtain ⟨v4, ev4, h⟩ := nm_s h
  refine tp_l ev4 ?_
  refine lv_lstore (lv' := [(5, .long v4), (3, .long v3), (1, .long v2), (0, .int a1)]) hx hb dX9_sineOf_19 hl (by decide) rfl (fun ls hl => ?_)
  refine lv_lload hx hb dX9_sineOf_21 (lv_at hl 0 rfl) ?_
  refine lv_lconst (v := (0 : Int64)) hx hb dX9_sineOf_23 (by decide) ?_
  refine W.lcmp hx hb dX9_sineOf_24 ?_
  refine lv_if_ne (tgt := 30) hx hb dX9_sineOf_25 (by decide) (fun c5 => ?_) (fun c5 => ?_)
  · have h := inn h c5
    refine lv_ldc2 (v := (4000 : Int64)) hx hb C.1.2.2.2.2.2.1 (C.1.2.2.2.2.2.2 _ (ws_in wd_717)) dX9_sineOf_30 ?_
    refine lv_lload_n hx hb dX9_sineOf_33 rfl (lv_at hl 1 rfl) ?_
    refine lv_lmul hx hb dX9_sineOf_34 ?_
    refine lv_lload hx hb dX9_sineOf_35 (lv_at hl 0 rfl) ?_
    obtain ⟨k6, h⟩ := chk_s h
    refine lv_ldiv hx hb dX9_sineOf_37 (nzl_ne k6) ?_
    refine lv_l2i hx hb dX9_sineOf_38 rfl ?_
    obtain ⟨v7, ev7, h⟩ := nm_s h
    refine tp_i ev7 ?_
    refine lv_istore (lv' := [(7, .int v7), (5, .long v4), (3, .long v3), (1, .long v2), (0, .int a1)]) hx hb dX9_sineOf_39 hl (by decide) rfl (fun ls hl => ?_)
    refine lv_iload_n hx hb dX9_sineOf_41 rfl (lv_at hl 4 rfl) ?_
    refine lv_if_ge (tgt := 51) hx hb dX9_sineOf_42 (by decide) (fun c8 => ?_) (fun c8 => ?_)
    · have h := ip h c8
      refine lv_iload hx hb dX9_sineOf_51 (lv_at hl 0 rfl) ?_
      exact rt_i C X rfl (congrArg (fun z => (z, S)) (Option.some.inj h)) dX9_sineOf_53
    · have h := inn h c8
      refine lv_iload hx hb dX9_sineOf_45 (lv_at hl 0 rfl) ?_
      refine lv_ineg hx hb dX9_sineOf_47 ?_
      refine lv_goto (tgt := 53) hx hb dX9_sineOf_48 (by decide) ?_
      exact rt_i C X rfl (congrArg (fun z => (z, S)) (Option.some.inj h)) dX9_sineOf_53
  · have h := ip h c5
    refine lv_iconst (v := (0 : Int32)) hx hb dX9_sineOf_28 (by decide) ?_
    exact rt_i C X rfl (congrArg (fun z => (z, S)) (Option.some.inj h)) dX9_sineOf_29

def rmX9_sine : Room := { frames := 2, cells := 0, slots := 0, locals := 47 }
def f_X9_sine (a1 : Int32) : Option Int32 :=
  bn1 (f_X9_within a1 ((-1800 : Int32)) ((1800 : Int32))) fun r1 => if r1 = 0 then (some ((-1000000002 : Int32))) else (bn1 (f_X9_sineOf a1) fun r3 => some r3)
set_option maxHeartbeats 4000000 in
set_option maxRecDepth 100000 in
theorem c_X9_sine (l : Launch) (g : GG) (ad : Nat → Nat) (S : ST) (sz : Nat) (a1 : Int32)  {res : Int32} (h : f_X9_sine a1 = some res) : Met l yX9_sine (WS (.code yX9_sine cX9_sine 2 (some Jvm.ClassFile.FieldType.int))) rmX9_sine (va_Pc [.ref (ad 0), .int a1] (PW kC g ad S sz)) (QI kC g ad (res, S) (AA kC ad sz)) 0 0 (AA kC ad sz) := by
  refine go_m (Qc := fun A => QI kC g ad (res, S) A) (by decide) (Nat.le_of_ble_eq_true rfl) (fun p e s m below meth c ls H locs C X hl => ?_)
  have hx := C.1.1
  have hb := C.1.2.1
  have hl : lv_has ls 2 [(0, .ref (ad 0)), (1, .int a1)] := hl
  have h : (bn1 (f_X9_within a1 ((-1800 : Int32)) ((1800 : Int32))) fun r1 => if r1 = 0 then (some ((-1000000002 : Int32))) else (bn1 (f_X9_sineOf a1) fun r3 => some r3) : Option Int32) = some res := h
  refine lv_iload_n hx hb dX9_sine_0 rfl (lv_at hl 1 rfl) ?_
  refine lv_sipush (v := (-1800 : Int32)) hx hb dX9_sine_1 (by decide) ?_
  refine lv_sipush (v := (1800 : Int32)) hx hb dX9_sine_4 (by decide) ?_
  obtain ⟨r1, qr1, h⟩ := bn1_s h
  refine kc_i X (res := (r1, S)) (rS (As := [.int a1, .int ((-1800 : Int32)), .int ((1800 : Int32))]) (rest := []) (n := 3) C X (c_X9_within l g ad S _ a1 ((-1800 : Int32)) ((1800 : Int32))  qr1) wd_675 wd_564 wd_70 wd_565 rfl rfl (by decide +kernel) ⟨Nat.le_of_ble_eq_true rfl, Nat.le_of_ble_eq_true rfl⟩ rfl hl.1 (lv_room (Nat.le_of_ble_eq_true rfl)) dX9_sine_7) (fun H locs X => ?_)
  refine lv_if_eq (tgt := 20) hx hb dX9_sine_10 (by decide) (fun c2 => ?_) (fun c2 => ?_)
  · have h := ip h c2
    refine lv_ldc (v := (-1000000002 : Int32)) hx hb C.1.2.2.2.2.2.1 (C.1.2.2.2.2.2.2 _ (ws_in wd_440)) dX9_sine_20 ?_
    exact rt_i C X rfl (congrArg (fun z => (z, S)) (Option.some.inj h)) dX9_sine_22
  · have h := inn h c2
    refine lv_iload_n hx hb dX9_sine_13 rfl (lv_at hl 1 rfl) ?_
    obtain ⟨r3, qr3, h⟩ := bn1_s h
    refine kc_i X (res := (r3, S)) (rS (As := [.int a1]) (rest := []) (n := 1) C X (c_X9_sineOf l g ad S _ a1  qr3) wd_709 wd_710 wd_70 wd_711 rfl rfl (by decide +kernel) ⟨Nat.le_of_ble_eq_true rfl, Nat.le_of_ble_eq_true rfl⟩ rfl hl.1 (lv_room (Nat.le_of_ble_eq_true rfl)) dX9_sine_14) (fun H locs X => ?_)
    refine lv_goto (tgt := 22) hx hb dX9_sine_17 (by decide) ?_
    exact rt_i C X rfl (congrArg (fun z => (z, S)) (Option.some.inj h)) dX9_sine_22

def rmX7_length : Room := { frames := 0, cells := 0, slots := 0, locals := 0 }
def f_X7_length  (S : ST) : Option Int32 :=
  some (S.1 1 1)
set_option maxHeartbeats 4000000 in
set_option maxRecDepth 100000 in
theorem c_X7_length (l : Launch) (g : GG) (ad : Nat → Nat) (S : ST) (sz : Nat)   {res : Int32} (h : f_X7_length S = some res) : Met l yX7_length (WS (.code yX7_length cX7_length 1 (some Jvm.ClassFile.FieldType.int))) rmX7_length (va_Pc [.ref (ad 1)] (PW kC g ad S sz)) (QI kC g ad (res, S) (AA kC ad sz)) 0 0 (AA kC ad sz) := by
  refine go_m (Qc := fun A => QI kC g ad (res, S) A) (by decide) (Nat.le_of_ble_eq_true rfl) (fun p e s m below meth c ls H locs C X hl => ?_)
  have hx := C.1.1
  have hb := C.1.2.1
  have hl : lv_has ls 1 [(0, .ref (ad 1))] := hl
  have h : (some (S.1 1 1) : Option Int32) = some res := h
  refine lv_aload_n hx hb dX7_length_0 rfl (lv_at hl 0 rfl) ?_
  refine g_get C X inT7 1 (by decide) (eC_1 g ad S) rfl 1 (by decide) wd_104 (v := .int (S.1 1 1)) rfl dX7_length_1 ?_
  exact rt_i C X rfl (congrArg (fun z => (z, S)) (Option.some.inj h)) dX7_length_4

def rmX7_add : Room := { frames := 1, cells := 0, slots := 0, locals := 22 }
def f_X7_add (a1 : Int32) (S : ST) : Option ST :=
  if ((300 : Int32)) ≤ (S.1 1 1) then (some S) else (bn1 (f_X9_put 2 (S.1 1 1) a1 S) fun S2 => nm (su S2 1 1 ((S2.1 1 1) + ((1 : Int32)))) fun S3 => some S3)
set_option maxHeartbeats 4000000 in
set_option maxRecDepth 100000 in
theorem c_X7_add (l : Launch) (g : GG) (ad : Nat → Nat) (S : ST) (sz : Nat) (a1 : Int32)  {res : ST} (h : f_X7_add a1 S = some res) : Met l yX7_add (WS (.code yX7_add cX7_add 2 none)) rmX7_add (va_Pc [.ref (ad 1), .int a1] (PW kC g ad S sz)) (QV kC g ad res (AA kC ad sz)) 0 0 (AA kC ad sz) := by
  refine go_m (Qc := fun A => QV kC g ad res A) (by decide) (Nat.le_of_ble_eq_true rfl) (fun p e s m below meth c ls H locs C X hl => ?_)
  have hx := C.1.1
  have hb := C.1.2.1
  have hl : lv_has ls 2 [(0, .ref (ad 1)), (1, .int a1)] := hl
  have h : (if ((300 : Int32)) ≤ (S.1 1 1) then (some S) else (bn1 (f_X9_put 2 (S.1 1 1) a1 S) fun S2 => nm (su S2 1 1 ((S2.1 1 1) + ((1 : Int32)))) fun S3 => some S3) : Option ST) = some res := h
  refine lv_aload_n hx hb dX7_add_0 rfl (lv_at hl 0 rfl) ?_
  refine g_get C X inT7 1 (by decide) (eC_1 g ad S) rfl 1 (by decide) wd_104 (v := .int (S.1 1 1)) rfl dX7_add_1 ?_
  refine lv_sipush (v := (300 : Int32)) hx hb dX7_add_4 (by decide) ?_
  refine lv_icmp_ge (tgt := 32) hx hb dX7_add_7 (by decide) (fun c1 => ?_) (fun c1 => ?_)
  · have h := ip h c1
    exact rt_v C X rfl (Option.some.inj h) dX7_add_32
  · have h := inn h c1
    refine lv_aload_n hx hb dX7_add_10 rfl (lv_at hl 0 rfl) ?_
    refine g_get C X inT7 1 (by decide) (eC_1 g ad S) rfl 0 (by decide) wd_103 (v := .ref (ad 2)) rfl dX7_add_11 ?_
    refine lv_aload_n hx hb dX7_add_14 rfl (lv_at hl 0 rfl) ?_
    refine g_get C X inT7 1 (by decide) (eC_1 g ad S) rfl 1 (by decide) wd_104 (v := .int (S.1 1 1)) rfl dX7_add_15 ?_
    refine lv_iload_n hx hb dX7_add_18 rfl (lv_at hl 1 rfl) ?_
    obtain ⟨S2, qS2, h⟩ := bn1_s h
    refine kc_v X (res := S2) (rSN (As := [.ref (ad 2), .int (S.1 1 1), .int a1]) (rest := []) (n := 3) C X (c_X9_put l g ad S _ 2 (S.1 1 1) a1 (by decide) qS2) nw_450 wd_387 wd_70 wd_388 rfl rfl (by decide +kernel) ⟨Nat.le_of_ble_eq_true rfl, Nat.le_of_ble_eq_true rfl⟩ rfl hl.1 (lv_room (Nat.le_of_ble_eq_true rfl)) dX7_add_19) (fun H locs X => ?_)
    refine lv_aload_n hx hb dX7_add_22 rfl (lv_at hl 0 rfl) ?_
    refine lv_dup hx hb dX7_add_23 rfl ?_
    refine g_get C X inT7 1 (by decide) (eC_1 g ad S2) rfl 1 (by decide) wd_104 (v := .int (S2.1 1 1)) rfl dX7_add_24 ?_
    refine lv_iconst (v := (1 : Int32)) hx hb dX7_add_27 (by decide) ?_
    refine lv_iadd hx hb dX7_add_28 ?_
    obtain ⟨S3, eS3, h⟩ := nm_s h
    refine g_put (S' := S3) C X inT7 tyX7 tyX7_ok nmX7 1 (by decide) (eC_1 g ad S2) rfl 1 (by decide) wd_104 rfl (by rfl) rfl (Nat.le_of_ble_eq_true rfl) (by subst eS3; rfl) (by subst eS3; exact fun i hi => ent_offu hi) dX7_add_29 (fun H locs X => ?_)
    exact rt_v C X rfl (Option.some.inj h) dX7_add_32

def rmX7_byteAt : Room := { frames := 0, cells := 0, slots := 0, locals := 0 }
def f_X7_byteAt (a1 : Int32) (S : ST) : Option Int32 :=
  if a1 < 0 then (some ((-1 : Int32))) else (if (S.1 1 1) ≤ a1 then (some ((-1 : Int32))) else (if ((300 : Int32)) ≤ a1 then (some ((-1 : Int32))) else (chk (ib a1 300) (some (S.1 2 a1.toNatClampNeg)))))
set_option maxHeartbeats 4000000 in
set_option maxRecDepth 100000 in
theorem c_X7_byteAt (l : Launch) (g : GG) (ad : Nat → Nat) (S : ST) (sz : Nat) (a1 : Int32)  {res : Int32} (h : f_X7_byteAt a1 S = some res) : Met l yX7_byteAt (WS (.code yX7_byteAt cX7_byteAt 2 (some Jvm.ClassFile.FieldType.int))) rmX7_byteAt (va_Pc [.ref (ad 1), .int a1] (PW kC g ad S sz)) (QI kC g ad (res, S) (AA kC ad sz)) 0 0 (AA kC ad sz) := by
  refine go_m (Qc := fun A => QI kC g ad (res, S) A) (by decide) (Nat.le_of_ble_eq_true rfl) (fun p e s m below meth c ls H locs C X hl => ?_)
  have hx := C.1.1
  have hb := C.1.2.1
  have hl : lv_has ls 2 [(0, .ref (ad 1)), (1, .int a1)] := hl
  have h : (if a1 < 0 then (some ((-1 : Int32))) else (if (S.1 1 1) ≤ a1 then (some ((-1 : Int32))) else (if ((300 : Int32)) ≤ a1 then (some ((-1 : Int32))) else (chk (ib a1 300) (some (S.1 2 a1.toNatClampNeg))))) : Option Int32) = some res := h
  refine lv_iload_n hx hb dX7_byteAt_0 rfl (lv_at hl 1 rfl) ?_
  refine lv_if_lt (tgt := 30) hx hb dX7_byteAt_1 (by decide) (fun c1 => ?_) (fun c1 => ?_)
  · have h := ip h c1
    refine lv_iconst (v := (-1 : Int32)) hx hb dX7_byteAt_30 (by decide) ?_
    exact rt_i C X rfl (congrArg (fun z => (z, S)) (Option.some.inj h)) dX7_byteAt_31
  · have h := inn h c1
    refine lv_iload_n hx hb dX7_byteAt_4 rfl (lv_at hl 1 rfl) ?_
    refine lv_aload_n hx hb dX7_byteAt_5 rfl (lv_at hl 0 rfl) ?_
    refine g_get C X inT7 1 (by decide) (eC_1 g ad S) rfl 1 (by decide) wd_104 (v := .int (S.1 1 1)) rfl dX7_byteAt_6 ?_
    refine lv_icmp_ge (tgt := 30) hx hb dX7_byteAt_9 (by decide) (fun c2 => ?_) (fun c2 => ?_)
    · have h := ip h c2
      refine lv_iconst (v := (-1 : Int32)) hx hb dX7_byteAt_30 (by decide) ?_
      exact rt_i C X rfl (congrArg (fun z => (z, S)) (Option.some.inj h)) dX7_byteAt_31
    · have h := inn h c2
      refine lv_iload_n hx hb dX7_byteAt_12 rfl (lv_at hl 1 rfl) ?_
      refine lv_aload_n hx hb dX7_byteAt_13 rfl (lv_at hl 0 rfl) ?_
      refine g_get C X inT7 1 (by decide) (eC_1 g ad S) rfl 0 (by decide) wd_103 (v := .ref (ad 2)) rfl dX7_byteAt_14 ?_
      refine g_alen C X 2 0 (by decide) (eC_2 g ad S) rfl (v := (300 : Int32)) (by first | rfl | decide) dX7_byteAt_17 ?_
      refine lv_icmp_ge (tgt := 30) hx hb dX7_byteAt_18 (by decide) (fun c3 => ?_) (fun c3 => ?_)
      · have h := ip h c3
        refine lv_iconst (v := (-1 : Int32)) hx hb dX7_byteAt_30 (by decide) ?_
        exact rt_i C X rfl (congrArg (fun z => (z, S)) (Option.some.inj h)) dX7_byteAt_31
      · have h := inn h c3
        refine lv_aload_n hx hb dX7_byteAt_21 rfl (lv_at hl 0 rfl) ?_
        refine g_get C X inT7 1 (by decide) (eC_1 g ad S) rfl 0 (by decide) wd_103 (v := .ref (ad 2)) rfl dX7_byteAt_22 ?_
        refine lv_iload_n hx hb dX7_byteAt_25 rfl (lv_at hl 1 rfl) ?_
        obtain ⟨k4, h⟩ := chk_s h
        refine g_iald C X 2 (by decide) (eC_2 g ad S) k4 dX7_byteAt_26 ?_
        refine lv_goto (tgt := 31) hx hb dX7_byteAt_27 (by decide) ?_
        exact rt_i C X rfl (congrArg (fun z => (z, S)) (Option.some.inj h)) dX7_byteAt_31

def rmX7_clear : Room := { frames := 0, cells := 0, slots := 0, locals := 0 }
def f_X7_clear  (S : ST) : Option ST :=
  nm (su S 1 1 ((0 : Int32))) fun S1 => some S1
set_option maxHeartbeats 4000000 in
set_option maxRecDepth 100000 in
theorem c_X7_clear (l : Launch) (g : GG) (ad : Nat → Nat) (S : ST) (sz : Nat)   {res : ST} (h : f_X7_clear S = some res) : Met l yX7_clear (WS (.code yX7_clear cX7_clear 1 none)) rmX7_clear (va_Pc [.ref (ad 1)] (PW kC g ad S sz)) (QV kC g ad res (AA kC ad sz)) 0 0 (AA kC ad sz) := by
  refine go_m (Qc := fun A => QV kC g ad res A) (by decide) (Nat.le_of_ble_eq_true rfl) (fun p e s m below meth c ls H locs C X hl => ?_)
  have hx := C.1.1
  have hb := C.1.2.1
  have hl : lv_has ls 1 [(0, .ref (ad 1))] := hl
  have h : (nm (su S 1 1 ((0 : Int32))) fun S1 => some S1 : Option ST) = some res := h
  refine lv_aload_n hx hb dX7_clear_0 rfl (lv_at hl 0 rfl) ?_
  refine lv_iconst (v := (0 : Int32)) hx hb dX7_clear_1 (by decide) ?_
  obtain ⟨S1, eS1, h⟩ := nm_s h
  refine g_put (S' := S1) C X inT7 tyX7 tyX7_ok nmX7 1 (by decide) (eC_1 g ad S) rfl 1 (by decide) wd_104 rfl (by rfl) rfl (Nat.le_of_ble_eq_true rfl) (by subst eS1; rfl) (by subst eS1; exact fun i hi => ent_offu hi) dX7_clear_2 (fun H locs X => ?_)
  exact rt_v C X rfl (Option.some.inj h) dX7_clear_5

def rmJ7_fill_53178 : Room := { frames := 0, cells := 0, slots := 0, locals := 0 }
def b_J7_fill_53178_5 (K5 : Nat → Int32 → Int32 → Int32 → ST → Option ST) (v1 : Nat) (v2 : Int32) (v3 : Int32) (v4 : Int32) (S : ST) : Option ST :=
  if v4 ≤ v3 then (some S) else (chk (ib v3 (lnC v1)) (nm (su S v1 v3.toNatClampNeg v2) fun S4 => nm (v3 + (1 : Int32)) fun v5 => K5 v1 v2 v5 v4 S4))
def f_J7_fill_53178 (a1 : Nat) (a2 : Int32) (S : ST) : Option ST :=
  nm (Int32.ofNat (lnC a1)) fun v1 => lp (fun _ _ _ _ _ => none) (b_J7_fill_53178_5) 1000 a1 a2 ((0 : Int32)) v1 S
set_option maxHeartbeats 4000000 in
set_option maxRecDepth 100000 in
theorem kb_J7_fill_53178_5 {p : Program} {l : Launch} {e : Env} {s : State} {m : MethodId} {args : Array Value} {below : List Frame} {meth : Method} {c : Code} {g : GG} {ad : Nat → Nat} {res : ST} {S : ST} (C : CX kC g ad p s m args meth c cJ7_fill_53178 none 4 yJ7_fill_53178.cls (.code yJ7_fill_53178 cJ7_fill_53178 4 none)) {K5 : Nat → Int32 → Int32 → Int32 → ST → Option ST} (hK5 : ∀ {v1 : Nat} {v2 : Int32} {v3 : Int32} {v4 : Int32} {S : ST} {H : Heap} {locs : List Loc} {ls : Array Slot}, K5 v1 v2 v3 v4 S = some res → WX kC g ad s S H locs → lv_has ls 4 [(0, .ref (ad v1)), (1, .int v2), (2, .int v3), (3, .int v4)] → (iaC v1 = true) → W p l e rmJ7_fill_53178 s m args below meth c H locs 0 0 (MQ below (QV kC g ad res (AA kC ad s.heap.size)) args s 0 0 (AA kC ad s.heap.size)) (F0 m 5 ls [])) {v1 : Nat} {v2 : Int32} {v3 : Int32} {v4 : Int32}  {H : Heap} {locs : List Loc} {ls : Array Slot} (h : b_J7_fill_53178_5 K5 v1 v2 v3 v4 S = some res) (X : WX kC g ad s S H locs) (hl : lv_has ls 4 [(0, .ref (ad v1)), (1, .int v2), (2, .int v3), (3, .int v4)]) (g1 : iaC v1 = true) : W p l e rmJ7_fill_53178 s m args below meth c H locs 0 0 (MQ below (QV kC g ad res (AA kC ad s.heap.size)) args s 0 0 (AA kC ad s.heap.size)) (F0 m 5 ls []) := by
  have hx := C.1.1
  have hb := C.1.2.1
  have h : (if v4 ≤ v3 then (some S) else (chk (ib v3 (lnC v1)) (nm (su S v1 v3.toNatClampNeg v2) fun S4 => nm (v3 + (1 : Int32)) fun v5 => K5 v1 v2 v5 v4 S4)) : Option ST) = some res := h
  refine lv_iload_n hx hb dJ7_fill_53178_5 rfl (lv_at hl 2 rfl) ?_
  refine lv_iload_n hx hb dJ7_fill_53178_6 rfl (lv_at hl 3 rfl) ?_
  refine lv_icmp_ge (tgt := 20) hx hb dJ7_fill_53178_7 (by decide) (fun c2 => ?_) (fun c2 => ?_)
  · have h := ip h c2
    exact rt_v C X rfl (Option.some.inj h) dJ7_fill_53178_20
  · have h := inn h c2
    refine lv_aload_n hx hb dJ7_fill_53178_10 rfl (lv_at hl 0 rfl) ?_
    refine lv_iload_n hx hb dJ7_fill_53178_11 rfl (lv_at hl 2 rfl) ?_
    refine lv_iload_n hx hb dJ7_fill_53178_12 rfl (lv_at hl 1 rfl) ?_
    obtain ⟨k3, h⟩ := chk_s h
    obtain ⟨S4, eS4, h⟩ := nm_s h
    refine g_iast (S' := S4) C X v1 (ltiaC g1) (eiaC g ad S g1) k3 (by subst eS4; rw [eiaC g ad _ g1, su_k]) (by subst eS4; exact fun i hi => ent_offu hi) dJ7_fill_53178_13 (fun H locs X => ?_)
    obtain ⟨v5, ev5, h⟩ := nm_s h
    refine lv_iinc (v := v5) (lv' := [(2, .int v5), (0, .ref (ad v1)), (1, .int v2), (3, .int v4)]) hx hb dJ7_fill_53178_14 hl (k := 2) rfl (by rw [ev5]; rfl) (by decide) rfl (fun ls hl => ?_)
    refine lv_goto (tgt := 5) hx hb dJ7_fill_53178_17 (by decide) ?_
    exact hK5 h X (lv_sub hl [1, 2, 0, 3] rfl) g1
set_option maxHeartbeats 4000000 in
set_option maxRecDepth 100000 in
theorem kl_J7_fill_53178_5 {p : Program} {l : Launch} {e : Env} {s : State} {m : MethodId} {args : Array Value} {below : List Frame} {meth : Method} {c : Code} {g : GG} {ad : Nat → Nat} {res : ST}  (C : CX kC g ad p s m args meth c cJ7_fill_53178 none 4 yJ7_fill_53178.cls (.code yJ7_fill_53178 cJ7_fill_53178 4 none))  : ∀ (n : Nat) {v1 : Nat} {v2 : Int32} {v3 : Int32} {v4 : Int32} {S : ST} {H : Heap} {locs : List Loc} {ls : Array Slot}, (lp (fun _ _ _ _ _ => none) (b_J7_fill_53178_5)) n v1 v2 v3 v4 S = some res → WX kC g ad s S H locs → lv_has ls 4 [(0, .ref (ad v1)), (1, .int v2), (2, .int v3), (3, .int v4)] → (iaC v1 = true) → W p l e rmJ7_fill_53178 s m args below meth c H locs 0 0 (MQ below (QV kC g ad res (AA kC ad s.heap.size)) args s 0 0 (AA kC ad s.heap.size)) (F0 m 5 ls []) := by
  intro n
  induction n with
  | zero =>
    intro v1 v2 v3 v4 S H locs ls h
    cases (show (none : Option ST) = some res from h)
  | succ n ih =>
    intro v1 v2 v3 v4 S H locs ls h X hl g1
    exact kb_J7_fill_53178_5 C ih h X hl g1
set_option maxHeartbeats 4000000 in
set_option maxRecDepth 100000 in
theorem c_J7_fill_53178 (l : Launch) (g : GG) (ad : Nat → Nat) (S : ST) (sz : Nat) (a1 : Nat) (a2 : Int32) (f1 : iaC a1 = true) {res : ST} (h : f_J7_fill_53178 a1 a2 S = some res) : Met l yJ7_fill_53178 (WS (.code yJ7_fill_53178 cJ7_fill_53178 4 none)) rmJ7_fill_53178 (va_Pc [.ref (ad a1), .int a2] (PW kC g ad S sz)) (QV kC g ad res (AA kC ad sz)) 0 0 (AA kC ad sz) := by
  refine go_m (Qc := fun A => QV kC g ad res A) (by decide) (Nat.le_of_ble_eq_true rfl) (fun p e s m below meth c ls H locs C X hl => ?_)
  have hx := C.1.1
  have hb := C.1.2.1
  have hl : lv_has ls 4 [(0, .ref (ad a1)), (1, .int a2)] := hl
  have h : (nm (Int32.ofNat (lnC a1)) fun v1 => lp (fun _ _ _ _ _ => none) (b_J7_fill_53178_5) 1000 a1 a2 ((0 : Int32)) v1 S : Option ST) = some res := h
  refine lv_iconst (v := (0 : Int32)) hx hb dJ7_fill_53178_0 (by decide) ?_
  refine lv_istore_n (lv' := [(2, .int ((0 : Int32))), (0, .ref (ad a1)), (1, .int a2)]) hx hb dJ7_fill_53178_1 rfl hl (by decide) rfl (fun ls hl => ?_)
  refine lv_aload_n hx hb dJ7_fill_53178_2 rfl (lv_at hl 1 rfl) ?_
  refine g_alen C X a1 0 (ltiaC f1) (eiaC g ad S f1) rfl (v := Int32.ofNat (lnC a1)) (by first | rfl | decide) dJ7_fill_53178_3 ?_
  obtain ⟨v1, ev1, h⟩ := nm_s h
  refine tp_i ev1 ?_
  refine lv_istore_n (lv' := [(3, .int v1), (2, .int ((0 : Int32))), (0, .ref (ad a1)), (1, .int a2)]) hx hb dJ7_fill_53178_4 rfl hl (by decide) rfl (fun ls hl => ?_)
  exact kl_J7_fill_53178_5 C _ h X (lv_sub hl [2, 3, 1, 0] rfl) f1

def rmX3_clear : Room := { frames := 1, cells := 0, slots := 0, locals := 40 }
def f_X3_clear  (S : ST) : Option ST :=
  nm (if ((9 : Int32)) < ((9 : Int32)) then ((9 : Int32)) else ((9 : Int32))) fun v1 => chk (cpk ((0 : Int32)) ((0 : Int32)) v1 9 9) (nm (sr S 10 (va_cpy (fun j => (sal 0).getD j 0) (S.1 10) ((0 : Int32)).toNatClampNeg ((0 : Int32)).toNatClampNeg v1.toNatClampNeg)) fun S3 => bn1 (f_J7_fill_53178 11 ((200 : Int32)) S3) fun S4 => bn1 (f_J7_fill_53178 12 ((0 : Int32)) S4) fun S5 => bn1 (f_J7_fill_53178 13 ((0 : Int32)) S5) fun S6 => some S6)
set_option maxHeartbeats 4000000 in
set_option maxRecDepth 100000 in
theorem c_X3_clear (l : Launch) (g : GG) (ad : Nat → Nat) (S : ST) (sz : Nat)   {res : ST} (h : f_X3_clear S = some res) : Met l yX3_clear (WS (.code yX3_clear cX3_clear 1 none)) rmX3_clear (va_Pc [.ref (ad 9)] (PW kC g ad S sz)) (QV kC g ad res (AA kC ad sz)) 0 0 (AA kC ad sz) := by
  refine go_m (Qc := fun A => QV kC g ad res A) (by decide) (Nat.le_of_ble_eq_true rfl) (fun p e s m below meth c ls H locs C X hl => ?_)
  have hx := C.1.1
  have hb := C.1.2.1
  have hl : lv_has ls 1 [(0, .ref (ad 9))] := hl
  have h : (nm (if ((9 : Int32)) < ((9 : Int32)) then ((9 : Int32)) else ((9 : Int32))) fun v1 => chk (cpk ((0 : Int32)) ((0 : Int32)) v1 9 9) (nm (sr S 10 (va_cpy (fun j => (sal 0).getD j 0) (S.1 10) ((0 : Int32)).toNatClampNeg ((0 : Int32)).toNatClampNeg v1.toNatClampNeg)) fun S3 => bn1 (f_J7_fill_53178 11 ((200 : Int32)) S3) fun S4 => bn1 (f_J7_fill_53178 12 ((0 : Int32)) S4) fun S5 => bn1 (f_J7_fill_53178 13 ((0 : Int32)) S5) fun S6 => some S6) : Option ST) = some res := h
  refine g_gets C X 0 rfl wd_152 dX3_clear_0 ?_
  refine lv_iconst (v := (0 : Int32)) hx hb dX3_clear_3 (by decide) ?_
  refine lv_aload_n hx hb dX3_clear_4 rfl (lv_at hl 0 rfl) ?_
  refine g_get C X inT3 9 (by decide) (eC_9 g ad S) rfl 0 (by decide) wd_163 (v := .ref (ad 10)) rfl dX3_clear_5 ?_
  refine lv_iconst (v := (0 : Int32)) hx hb dX3_clear_8 (by decide) ?_
  refine g_gets C X 0 rfl wd_152 dX3_clear_9 ?_
  refine g_slen C X 0 rfl (v := (9 : Int32)) rfl dX3_clear_12 ?_
  refine lv_aload_n hx hb dX3_clear_13 rfl (lv_at hl 0 rfl) ?_
  refine g_get C X inT3 9 (by decide) (eC_9 g ad S) rfl 0 (by decide) wd_163 (v := .ref (ad 10)) rfl dX3_clear_14 ?_
  refine g_alen C X 10 0 (by decide) (eC_10 g ad S) rfl (v := (9 : Int32)) (by first | rfl | decide) dX3_clear_17 ?_
  refine va_mmin hx hb (C.1.2.2.2.2.1.trans hl.1.symm) C.1.2.2.2.2.2.1 (C.1.2.2.2.2.2.2 _ (ws_in wd_154)) (C.1.2.2.2.2.2.2 _ (ws_in wd_155)) (C.1.2.2.2.2.2.2 _ (ws_in wd_74)) (C.1.2.2.2.2.2.2 _ (ws_in wd_156)) (Nat.le_of_ble_eq_true rfl) (Nat.le_of_ble_eq_true rfl) (Nat.zero_le _) (Nat.zero_le _) dX3_clear_18 ?_
  obtain ⟨v1, ev1, h⟩ := nm_s h
  refine tp_i ev1 ?_
  obtain ⟨k2, h⟩ := chk_s h
  obtain ⟨S3, eS3, h⟩ := nm_s h
  refine g_cpyS (S' := S3) C X hl.1 wd_157 nat_cp wd_158 wd_75 0 rfl 10 (by decide) (eC_10 g ad S) k2 (by subst eS3; rfl) (by subst eS3; exact fun i hi => ent_off hi) (Nat.le_of_ble_eq_true rfl) (Nat.le_of_ble_eq_true rfl) dX3_clear_21 (fun H locs X => ?_)
  refine lv_aload_n hx hb dX3_clear_24 rfl (lv_at hl 0 rfl) ?_
  refine g_get C X inT3 9 (by decide) (eC_9 g ad S3) rfl 1 (by decide) wd_165 (v := .ref (ad 11)) rfl dX3_clear_25 ?_
  refine lv_sipush (v := (200 : Int32)) hx hb dX3_clear_28 (by decide) ?_
  obtain ⟨S4, qS4, h⟩ := bn1_s h
  refine kc_v X (res := S4) (rS (As := [.ref (ad 11), .int ((200 : Int32))]) (rest := []) (n := 2) C X (c_J7_fill_53178 l g ad S3 _ 11 ((200 : Int32)) (by decide) qS4) wd_160 wd_161 wd_76 wd_162 rfl rfl (by decide +kernel) ⟨Nat.le_of_ble_eq_true rfl, Nat.le_of_ble_eq_true rfl⟩ rfl hl.1 (lv_room (Nat.le_of_ble_eq_true rfl)) dX3_clear_31) (fun H locs X => ?_)
  refine lv_aload_n hx hb dX3_clear_34 rfl (lv_at hl 0 rfl) ?_
  refine g_get C X inT3 9 (by decide) (eC_9 g ad S4) rfl 2 (by decide) wd_167 (v := .ref (ad 12)) rfl dX3_clear_35 ?_
  refine lv_iconst (v := (0 : Int32)) hx hb dX3_clear_38 (by decide) ?_
  obtain ⟨S5, qS5, h⟩ := bn1_s h
  refine kc_v X (res := S5) (rS (As := [.ref (ad 12), .int ((0 : Int32))]) (rest := []) (n := 2) C X (c_J7_fill_53178 l g ad S4 _ 12 ((0 : Int32)) (by decide) qS5) wd_160 wd_161 wd_76 wd_162 rfl rfl (by decide +kernel) ⟨Nat.le_of_ble_eq_true rfl, Nat.le_of_ble_eq_true rfl⟩ rfl hl.1 (lv_room (Nat.le_of_ble_eq_true rfl)) dX3_clear_39) (fun H locs X => ?_)
  refine lv_aload_n hx hb dX3_clear_42 rfl (lv_at hl 0 rfl) ?_
  refine g_get C X inT3 9 (by decide) (eC_9 g ad S5) rfl 3 (by decide) wd_169 (v := .ref (ad 13)) rfl dX3_clear_43 ?_
  refine lv_iconst (v := (0 : Int32)) hx hb dX3_clear_46 (by decide) ?_
  obtain ⟨S6, qS6, h⟩ := bn1_s h
  refine kc_v X (res := S6) (rS (As := [.ref (ad 13), .int ((0 : Int32))]) (rest := []) (n := 2) C X (c_J7_fill_53178 l g ad S5 _ 13 ((0 : Int32)) (by decide) qS6) wd_160 wd_161 wd_76 wd_162 rfl rfl (by decide +kernel) ⟨Nat.le_of_ble_eq_true rfl, Nat.le_of_ble_eq_true rfl⟩ rfl hl.1 (lv_room (Nat.le_of_ble_eq_true rfl)) dX3_clear_47) (fun H locs X => ?_)
  exact rt_v C X rfl (Option.some.inj h) dX3_clear_50

def rmX3_copy : Room := { frames := 1, cells := 0, slots := 0, locals := 40 }
def f_X3_copy  (S : ST) : Option ST :=
  nm (if ((9 : Int32)) < ((9 : Int32)) then ((9 : Int32)) else ((9 : Int32))) fun v1 => chk (cpk ((0 : Int32)) ((0 : Int32)) v1 9 9) (nm (sr S 5 (va_cpy (S.1 10) (S.1 5) ((0 : Int32)).toNatClampNeg ((0 : Int32)).toNatClampNeg v1.toNatClampNeg)) fun S3 => nm (if ((24 : Int32)) < ((24 : Int32)) then ((24 : Int32)) else ((24 : Int32))) fun v4 => chk (cpk ((0 : Int32)) ((0 : Int32)) v4 24 24) (nm (sr S3 6 (va_cpy (S3.1 11) (S3.1 6) ((0 : Int32)).toNatClampNeg ((0 : Int32)).toNatClampNeg v4.toNatClampNeg)) fun S6 => nm (if ((24 : Int32)) < ((24 : Int32)) then ((24 : Int32)) else ((24 : Int32))) fun v7 => chk (cpk ((0 : Int32)) ((0 : Int32)) v7 24 24) (nm (sr S6 7 (va_cpy (S6.1 12) (S6.1 7) ((0 : Int32)).toNatClampNeg ((0 : Int32)).toNatClampNeg v7.toNatClampNeg)) fun S9 => nm (if ((12 : Int32)) < ((12 : Int32)) then ((12 : Int32)) else ((12 : Int32))) fun v10 => chk (cpk ((0 : Int32)) ((0 : Int32)) v10 12 12) (nm (sr S9 8 (va_cpy (S9.1 13) (S9.1 8) ((0 : Int32)).toNatClampNeg ((0 : Int32)).toNatClampNeg v10.toNatClampNeg)) fun S12 => some S12))))
set_option maxHeartbeats 4000000 in
set_option maxRecDepth 100000 in
theorem c_X3_copy (l : Launch) (g : GG) (ad : Nat → Nat) (S : ST) (sz : Nat)   {res : ST} (h : f_X3_copy S = some res) : Met l yX3_copy (WS (.code yX3_copy cX3_copy 2 none)) rmX3_copy (va_Pc [.ref (ad 4), .ref (ad 9)] (PW kC g ad S sz)) (QV kC g ad res (AA kC ad sz)) 0 0 (AA kC ad sz) := by
  refine go_m (Qc := fun A => QV kC g ad res A) (by decide) (Nat.le_of_ble_eq_true rfl) (fun p e s m below meth c ls H locs C X hl => ?_)
  have hx := C.1.1
  have hb := C.1.2.1
  have hl : lv_has ls 2 [(0, .ref (ad 4)), (1, .ref (ad 9))] := hl
  have h : (nm (if ((9 : Int32)) < ((9 : Int32)) then ((9 : Int32)) else ((9 : Int32))) fun v1 => chk (cpk ((0 : Int32)) ((0 : Int32)) v1 9 9) (nm (sr S 5 (va_cpy (S.1 10) (S.1 5) ((0 : Int32)).toNatClampNeg ((0 : Int32)).toNatClampNeg v1.toNatClampNeg)) fun S3 => nm (if ((24 : Int32)) < ((24 : Int32)) then ((24 : Int32)) else ((24 : Int32))) fun v4 => chk (cpk ((0 : Int32)) ((0 : Int32)) v4 24 24) (nm (sr S3 6 (va_cpy (S3.1 11) (S3.1 6) ((0 : Int32)).toNatClampNeg ((0 : Int32)).toNatClampNeg v4.toNatClampNeg)) fun S6 => nm (if ((24 : Int32)) < ((24 : Int32)) then ((24 : Int32)) else ((24 : Int32))) fun v7 => chk (cpk ((0 : Int32)) ((0 : Int32)) v7 24 24) (nm (sr S6 7 (va_cpy (S6.1 12) (S6.1 7) ((0 : Int32)).toNatClampNeg ((0 : Int32)).toNatClampNeg v7.toNatClampNeg)) fun S9 => nm (if ((12 : Int32)) < ((12 : Int32)) then ((12 : Int32)) else ((12 : Int32))) fun v10 => chk (cpk ((0 : Int32)) ((0 : Int32)) v10 12 12) (nm (sr S9 8 (va_cpy (S9.1 13) (S9.1 8) ((0 : Int32)).toNatClampNeg ((0 : Int32)).toNatClampNeg v10.toNatClampNeg)) fun S12 => some S12)))) : Option ST) = some res := h
  refine lv_aload_n hx hb dX3_copy_0 rfl (lv_at hl 1 rfl) ?_
  refine g_get C X inT3 9 (by decide) (eC_9 g ad S) rfl 0 (by decide) wd_163 (v := .ref (ad 10)) rfl dX3_copy_1 ?_
  refine lv_iconst (v := (0 : Int32)) hx hb dX3_copy_4 (by decide) ?_
  refine lv_aload_n hx hb dX3_copy_5 rfl (lv_at hl 0 rfl) ?_
  refine g_get C X inT3 4 (by decide) (eC_4 g ad S) rfl 0 (by decide) wd_163 (v := .ref (ad 5)) rfl dX3_copy_6 ?_
  refine lv_iconst (v := (0 : Int32)) hx hb dX3_copy_9 (by decide) ?_
  refine lv_aload_n hx hb dX3_copy_10 rfl (lv_at hl 1 rfl) ?_
  refine g_get C X inT3 9 (by decide) (eC_9 g ad S) rfl 0 (by decide) wd_163 (v := .ref (ad 10)) rfl dX3_copy_11 ?_
  refine g_alen C X 10 0 (by decide) (eC_10 g ad S) rfl (v := (9 : Int32)) (by first | rfl | decide) dX3_copy_14 ?_
  refine lv_aload_n hx hb dX3_copy_15 rfl (lv_at hl 0 rfl) ?_
  refine g_get C X inT3 4 (by decide) (eC_4 g ad S) rfl 0 (by decide) wd_163 (v := .ref (ad 5)) rfl dX3_copy_16 ?_
  refine g_alen C X 5 0 (by decide) (eC_5 g ad S) rfl (v := (9 : Int32)) (by first | rfl | decide) dX3_copy_19 ?_
  refine va_mmin hx hb (C.1.2.2.2.2.1.trans hl.1.symm) C.1.2.2.2.2.2.1 (C.1.2.2.2.2.2.2 _ (ws_in wd_154)) (C.1.2.2.2.2.2.2 _ (ws_in wd_155)) (C.1.2.2.2.2.2.2 _ (ws_in wd_74)) (C.1.2.2.2.2.2.2 _ (ws_in wd_156)) (Nat.le_of_ble_eq_true rfl) (Nat.le_of_ble_eq_true rfl) (Nat.zero_le _) (Nat.zero_le _) dX3_copy_20 ?_
  obtain ⟨v1, ev1, h⟩ := nm_s h
  refine tp_i ev1 ?_
  obtain ⟨k2, h⟩ := chk_s h
  obtain ⟨S3, eS3, h⟩ := nm_s h
  refine g_cpy (S' := S3) C X hl.1 wd_157 nat_cp wd_158 wd_75 10 (by decide) (eC_10 g ad S) 5 (by decide) (eC_5 g ad S) k2 (by subst eS3; rfl) (by subst eS3; exact fun i hi => ent_off hi) (Nat.le_of_ble_eq_true rfl) (Nat.le_of_ble_eq_true rfl) dX3_copy_23 (fun H locs X => ?_)
  refine lv_aload_n hx hb dX3_copy_26 rfl (lv_at hl 1 rfl) ?_
  refine g_get C X inT3 9 (by decide) (eC_9 g ad S3) rfl 1 (by decide) wd_165 (v := .ref (ad 11)) rfl dX3_copy_27 ?_
  refine lv_iconst (v := (0 : Int32)) hx hb dX3_copy_30 (by decide) ?_
  refine lv_aload_n hx hb dX3_copy_31 rfl (lv_at hl 0 rfl) ?_
  refine g_get C X inT3 4 (by decide) (eC_4 g ad S3) rfl 1 (by decide) wd_165 (v := .ref (ad 6)) rfl dX3_copy_32 ?_
  refine lv_iconst (v := (0 : Int32)) hx hb dX3_copy_35 (by decide) ?_
  refine lv_aload_n hx hb dX3_copy_36 rfl (lv_at hl 1 rfl) ?_
  refine g_get C X inT3 9 (by decide) (eC_9 g ad S3) rfl 1 (by decide) wd_165 (v := .ref (ad 11)) rfl dX3_copy_37 ?_
  refine g_alen C X 11 0 (by decide) (eC_11 g ad S3) rfl (v := (24 : Int32)) (by first | rfl | decide) dX3_copy_40 ?_
  refine lv_aload_n hx hb dX3_copy_41 rfl (lv_at hl 0 rfl) ?_
  refine g_get C X inT3 4 (by decide) (eC_4 g ad S3) rfl 1 (by decide) wd_165 (v := .ref (ad 6)) rfl dX3_copy_42 ?_
  refine g_alen C X 6 0 (by decide) (eC_6 g ad S3) rfl (v := (24 : Int32)) (by first | rfl | decide) dX3_copy_45 ?_
  refine va_mmin hx hb (C.1.2.2.2.2.1.trans hl.1.symm) C.1.2.2.2.2.2.1 (C.1.2.2.2.2.2.2 _ (ws_in wd_154)) (C.1.2.2.2.2.2.2 _ (ws_in wd_155)) (C.1.2.2.2.2.2.2 _ (ws_in wd_74)) (C.1.2.2.2.2.2.2 _ (ws_in wd_156)) (Nat.le_of_ble_eq_true rfl) (Nat.le_of_ble_eq_true rfl) (Nat.zero_le _) (Nat.zero_le _) dX3_copy_46 ?_
  obtain ⟨v4, ev4, h⟩ := nm_s h
  refine tp_i ev4 ?_
  obtain ⟨k5, h⟩ := chk_s h
  obtain ⟨S6, eS6, h⟩ := nm_s h
  refine g_cpy (S' := S6) C X hl.1 wd_157 nat_cp wd_158 wd_75 11 (by decide) (eC_11 g ad S3) 6 (by decide) (eC_6 g ad S3) k5 (by subst eS6; rfl) (by subst eS6; exact fun i hi => ent_off hi) (Nat.le_of_ble_eq_true rfl) (Nat.le_of_ble_eq_true rfl) dX3_copy_49 (fun H locs X => ?_)
  refine lv_aload_n hx hb dX3_copy_52 rfl (lv_at hl 1 rfl) ?_
  refine g_get C X inT3 9 (by decide) (eC_9 g ad S6) rfl 2 (by decide) wd_167 (v := .ref (ad 12)) rfl dX3_copy_53 ?_
  refine lv_iconst (v := (0 : Int32)) hx hb dX3_copy_56 (by decide) ?_
  refine lv_aload_n hx hb dX3_copy_57 rfl (lv_at hl 0 rfl) ?_
  refine g_get C X inT3 4 (by decide) (eC_4 g ad S6) rfl 2 (by decide) wd_167 (v := .ref (ad 7)) rfl dX3_copy_58 ?_
  refine lv_iconst (v := (0 : Int32)) hx hb dX3_copy_61 (by decide) ?_
  refine lv_aload_n hx hb dX3_copy_62 rfl (lv_at hl 1 rfl) ?_
  refine g_get C X inT3 9 (by decide) (eC_9 g ad S6) rfl 2 (by decide) wd_167 (v := .ref (ad 12)) rfl dX3_copy_63 ?_
  refine g_alen C X 12 0 (by decide) (eC_12 g ad S6) rfl (v := (24 : Int32)) (by first | rfl | decide) dX3_copy_66 ?_
  refine lv_aload_n hx hb dX3_copy_67 rfl (lv_at hl 0 rfl) ?_
  refine g_get C X inT3 4 (by decide) (eC_4 g ad S6) rfl 2 (by decide) wd_167 (v := .ref (ad 7)) rfl dX3_copy_68 ?_
  refine g_alen C X 7 0 (by decide) (eC_7 g ad S6) rfl (v := (24 : Int32)) (by first | rfl | decide) dX3_copy_71 ?_
  refine va_mmin hx hb (C.1.2.2.2.2.1.trans hl.1.symm) C.1.2.2.2.2.2.1 (C.1.2.2.2.2.2.2 _ (ws_in wd_154)) (C.1.2.2.2.2.2.2 _ (ws_in wd_155)) (C.1.2.2.2.2.2.2 _ (ws_in wd_74)) (C.1.2.2.2.2.2.2 _ (ws_in wd_156)) (Nat.le_of_ble_eq_true rfl) (Nat.le_of_ble_eq_true rfl) (Nat.zero_le _) (Nat.zero_le _) dX3_copy_72 ?_
  obtain ⟨v7, ev7, h⟩ := nm_s h
  refine tp_i ev7 ?_
  obtain ⟨k8, h⟩ := chk_s h
  obtain ⟨S9, eS9, h⟩ := nm_s h
  refine g_cpy (S' := S9) C X hl.1 wd_157 nat_cp wd_158 wd_75 12 (by decide) (eC_12 g ad S6) 7 (by decide) (eC_7 g ad S6) k8 (by subst eS9; rfl) (by subst eS9; exact fun i hi => ent_off hi) (Nat.le_of_ble_eq_true rfl) (Nat.le_of_ble_eq_true rfl) dX3_copy_75 (fun H locs X => ?_)
  refine lv_aload_n hx hb dX3_copy_78 rfl (lv_at hl 1 rfl) ?_
  refine g_get C X inT3 9 (by decide) (eC_9 g ad S9) rfl 3 (by decide) wd_169 (v := .ref (ad 13)) rfl dX3_copy_79 ?_
  refine lv_iconst (v := (0 : Int32)) hx hb dX3_copy_82 (by decide) ?_
  refine lv_aload_n hx hb dX3_copy_83 rfl (lv_at hl 0 rfl) ?_
  refine g_get C X inT3 4 (by decide) (eC_4 g ad S9) rfl 3 (by decide) wd_169 (v := .ref (ad 8)) rfl dX3_copy_84 ?_
  refine lv_iconst (v := (0 : Int32)) hx hb dX3_copy_87 (by decide) ?_
  refine lv_aload_n hx hb dX3_copy_88 rfl (lv_at hl 1 rfl) ?_
  refine g_get C X inT3 9 (by decide) (eC_9 g ad S9) rfl 3 (by decide) wd_169 (v := .ref (ad 13)) rfl dX3_copy_89 ?_
  refine g_alen C X 13 0 (by decide) (eC_13 g ad S9) rfl (v := (12 : Int32)) (by first | rfl | decide) dX3_copy_92 ?_
  refine lv_aload_n hx hb dX3_copy_93 rfl (lv_at hl 0 rfl) ?_
  refine g_get C X inT3 4 (by decide) (eC_4 g ad S9) rfl 3 (by decide) wd_169 (v := .ref (ad 8)) rfl dX3_copy_94 ?_
  refine g_alen C X 8 0 (by decide) (eC_8 g ad S9) rfl (v := (12 : Int32)) (by first | rfl | decide) dX3_copy_97 ?_
  refine va_mmin hx hb (C.1.2.2.2.2.1.trans hl.1.symm) C.1.2.2.2.2.2.1 (C.1.2.2.2.2.2.2 _ (ws_in wd_154)) (C.1.2.2.2.2.2.2 _ (ws_in wd_155)) (C.1.2.2.2.2.2.2 _ (ws_in wd_74)) (C.1.2.2.2.2.2.2 _ (ws_in wd_156)) (Nat.le_of_ble_eq_true rfl) (Nat.le_of_ble_eq_true rfl) (Nat.zero_le _) (Nat.zero_le _) dX3_copy_98 ?_
  obtain ⟨v10, ev10, h⟩ := nm_s h
  refine tp_i ev10 ?_
  obtain ⟨k11, h⟩ := chk_s h
  obtain ⟨S12, eS12, h⟩ := nm_s h
  refine g_cpy (S' := S12) C X hl.1 wd_157 nat_cp wd_158 wd_75 13 (by decide) (eC_13 g ad S9) 8 (by decide) (eC_8 g ad S9) k11 (by subst eS12; rfl) (by subst eS12; exact fun i hi => ent_off hi) (Nat.le_of_ble_eq_true rfl) (Nat.le_of_ble_eq_true rfl) dX3_copy_101 (fun H locs X => ?_)
  exact rt_v C X rfl (Option.some.inj h) dX3_copy_104

def rmX3_number : Room := { frames := 0, cells := 0, slots := 0, locals := 0 }
def f_X3_number (a1 : Int32) (S : ST) : Option Int32 :=
  if a1 < 0 then (some ((0 : Int32))) else (if ((9 : Int32)) ≤ a1 then (some ((0 : Int32))) else (chk (ib a1 9) (some (S.1 5 a1.toNatClampNeg))))
set_option maxHeartbeats 4000000 in
set_option maxRecDepth 100000 in
theorem c_X3_number (l : Launch) (g : GG) (ad : Nat → Nat) (S : ST) (sz : Nat) (a1 : Int32)  {res : Int32} (h : f_X3_number a1 S = some res) : Met l yX3_number (WS (.code yX3_number cX3_number 2 (some Jvm.ClassFile.FieldType.int))) rmX3_number (va_Pc [.ref (ad 4), .int a1] (PW kC g ad S sz)) (QI kC g ad (res, S) (AA kC ad sz)) 0 0 (AA kC ad sz) := by
  refine go_m (Qc := fun A => QI kC g ad (res, S) A) (by decide) (Nat.le_of_ble_eq_true rfl) (fun p e s m below meth c ls H locs C X hl => ?_)
  have hx := C.1.1
  have hb := C.1.2.1
  have hl : lv_has ls 2 [(0, .ref (ad 4)), (1, .int a1)] := hl
  have h : (if a1 < 0 then (some ((0 : Int32))) else (if ((9 : Int32)) ≤ a1 then (some ((0 : Int32))) else (chk (ib a1 9) (some (S.1 5 a1.toNatClampNeg)))) : Option Int32) = some res := h
  refine lv_iload_n hx hb dX3_number_0 rfl (lv_at hl 1 rfl) ?_
  refine lv_if_lt (tgt := 22) hx hb dX3_number_1 (by decide) (fun c1 => ?_) (fun c1 => ?_)
  · have h := ip h c1
    refine lv_iconst (v := (0 : Int32)) hx hb dX3_number_22 (by decide) ?_
    exact rt_i C X rfl (congrArg (fun z => (z, S)) (Option.some.inj h)) dX3_number_23
  · have h := inn h c1
    refine lv_iload_n hx hb dX3_number_4 rfl (lv_at hl 1 rfl) ?_
    refine lv_aload_n hx hb dX3_number_5 rfl (lv_at hl 0 rfl) ?_
    refine g_get C X inT3 4 (by decide) (eC_4 g ad S) rfl 0 (by decide) wd_163 (v := .ref (ad 5)) rfl dX3_number_6 ?_
    refine g_alen C X 5 0 (by decide) (eC_5 g ad S) rfl (v := (9 : Int32)) (by first | rfl | decide) dX3_number_9 ?_
    refine lv_icmp_ge (tgt := 22) hx hb dX3_number_10 (by decide) (fun c2 => ?_) (fun c2 => ?_)
    · have h := ip h c2
      refine lv_iconst (v := (0 : Int32)) hx hb dX3_number_22 (by decide) ?_
      exact rt_i C X rfl (congrArg (fun z => (z, S)) (Option.some.inj h)) dX3_number_23
    · have h := inn h c2
      refine lv_aload_n hx hb dX3_number_13 rfl (lv_at hl 0 rfl) ?_
      refine g_get C X inT3 4 (by decide) (eC_4 g ad S) rfl 0 (by decide) wd_163 (v := .ref (ad 5)) rfl dX3_number_14 ?_
      refine lv_iload_n hx hb dX3_number_17 rfl (lv_at hl 1 rfl) ?_
      obtain ⟨k3, h⟩ := chk_s h
      refine g_iald C X 5 (by decide) (eC_5 g ad S) k3 dX3_number_18 ?_
      refine lv_goto (tgt := 23) hx hb dX3_number_19 (by decide) ?_
      exact rt_i C X rfl (congrArg (fun z => (z, S)) (Option.some.inj h)) dX3_number_23

def rmX3_lower : Room := { frames := 1, cells := 0, slots := 0, locals := 21 }
def f_X3_lower (a1 : Int32) (S : ST) : Option Int32 :=
  bn1 (f_X9_at 8 a1 S) fun r1 => some r1
set_option maxHeartbeats 4000000 in
set_option maxRecDepth 100000 in
theorem c_X3_lower (l : Launch) (g : GG) (ad : Nat → Nat) (S : ST) (sz : Nat) (a1 : Int32)  {res : Int32} (h : f_X3_lower a1 S = some res) : Met l yX3_lower (WS (.code yX3_lower cX3_lower 2 (some Jvm.ClassFile.FieldType.int))) rmX3_lower (va_Pc [.ref (ad 4), .int a1] (PW kC g ad S sz)) (QI kC g ad (res, S) (AA kC ad sz)) 0 0 (AA kC ad sz) := by
  refine go_m (Qc := fun A => QI kC g ad (res, S) A) (by decide) (Nat.le_of_ble_eq_true rfl) (fun p e s m below meth c ls H locs C X hl => ?_)
  have hx := C.1.1
  have hb := C.1.2.1
  have hl : lv_has ls 2 [(0, .ref (ad 4)), (1, .int a1)] := hl
  have h : (bn1 (f_X9_at 8 a1 S) fun r1 => some r1 : Option Int32) = some res := h
  refine lv_aload_n hx hb dX3_lower_0 rfl (lv_at hl 0 rfl) ?_
  refine g_get C X inT3 4 (by decide) (eC_4 g ad S) rfl 3 (by decide) wd_169 (v := .ref (ad 8)) rfl dX3_lower_1 ?_
  refine lv_iload_n hx hb dX3_lower_4 rfl (lv_at hl 1 rfl) ?_
  obtain ⟨r1, qr1, h⟩ := bn1_s h
  refine kc_i X (res := (r1, S)) (rSN (As := [.ref (ad 8), .int a1]) (rest := []) (n := 2) C X (c_X9_at l g ad S _ 8 a1 (by decide) qr1) nw_662 wd_576 wd_70 wd_577 rfl rfl (by decide +kernel) ⟨Nat.le_of_ble_eq_true rfl, Nat.le_of_ble_eq_true rfl⟩ rfl hl.1 (lv_room (Nat.le_of_ble_eq_true rfl)) dX3_lower_5) (fun H locs X => ?_)
  exact rt_i C X rfl (congrArg (fun z => (z, S)) (Option.some.inj h)) dX3_lower_8

def rmX3_depth : Room := { frames := 0, cells := 0, slots := 0, locals := 0 }
def b_X3_depth_25 (S : ST)  (v1 : Int32) : Option Int32 :=
  if 0 ≤ v1 then (some v1) else (some ((0 : Int32)))
def f_X3_depth (a1 : Int32) (a2 : Int32) (S : ST) : Option Int32 :=
  if a1 < 0 then (b_X3_depth_25 S ((0 : Int32))) else (if ((24 : Int32)) ≤ a1 then (b_X3_depth_25 S ((0 : Int32))) else (chk (ib a1 24) (b_X3_depth_25 S ((S.1 6 a1.toNatClampNeg) - a2))))
set_option maxHeartbeats 4000000 in
set_option maxRecDepth 100000 in
theorem kb_X3_depth_25 {p : Program} {l : Launch} {e : Env} {s : State} {m : MethodId} {args : Array Value} {below : List Frame} {meth : Method} {c : Code} {g : GG} {ad : Nat → Nat} {res : Int32} {S : ST} (C : CX kC g ad p s m args meth c cX3_depth (some Jvm.ClassFile.FieldType.int) 4 yX3_depth.cls (.code yX3_depth cX3_depth 4 (some Jvm.ClassFile.FieldType.int)))  {v1 : Int32}  {H : Heap} {locs : List Loc} {ls : Array Slot} (h : b_X3_depth_25 S v1 = some res) (X : WX kC g ad s S H locs) (hl : lv_has ls 4 [])  : W p l e rmX3_depth s m args below meth c H locs 0 0 (MQ below (QI kC g ad (res, S) (AA kC ad s.heap.size)) args s 0 0 (AA kC ad s.heap.size)) (F0 m 25 ls [.int v1]) := by
  have hx := C.1.1
  have hb := C.1.2.1
  have h : (if 0 ≤ v1 then (some v1) else (some ((0 : Int32))) : Option Int32) = some res := h
  refine lv_istore_n (lv' := [(3, .int v1)]) hx hb dX3_depth_25 rfl hl (by decide) rfl (fun ls hl => ?_)
  refine lv_iload_n hx hb dX3_depth_26 rfl (lv_at hl 0 rfl) ?_
  refine lv_if_ge (tgt := 34) hx hb dX3_depth_27 (by decide) (fun c2 => ?_) (fun c2 => ?_)
  · have h := ip h c2
    refine lv_iload_n hx hb dX3_depth_34 rfl (lv_at hl 0 rfl) ?_
    exact rt_i C X rfl (congrArg (fun z => (z, S)) (Option.some.inj h)) dX3_depth_35
  · have h := inn h c2
    refine lv_iconst (v := (0 : Int32)) hx hb dX3_depth_30 (by decide) ?_
    refine lv_goto (tgt := 35) hx hb dX3_depth_31 (by decide) ?_
    exact rt_i C X rfl (congrArg (fun z => (z, S)) (Option.some.inj h)) dX3_depth_35
set_option maxHeartbeats 4000000 in
set_option maxRecDepth 100000 in
theorem c_X3_depth (l : Launch) (g : GG) (ad : Nat → Nat) (S : ST) (sz : Nat) (a1 : Int32) (a2 : Int32)  {res : Int32} (h : f_X3_depth a1 a2 S = some res) : Met l yX3_depth (WS (.code yX3_depth cX3_depth 4 (some Jvm.ClassFile.FieldType.int))) rmX3_depth (va_Pc [.ref (ad 4), .int a1, .int a2] (PW kC g ad S sz)) (QI kC g ad (res, S) (AA kC ad sz)) 0 0 (AA kC ad sz) := by
  refine go_m (Qc := fun A => QI kC g ad (res, S) A) (by decide) (Nat.le_of_ble_eq_true rfl) (fun p e s m below meth c ls H locs C X hl => ?_)
  have hx := C.1.1
  have hb := C.1.2.1
  have hl : lv_has ls 4 [(0, .ref (ad 4)), (1, .int a1), (2, .int a2)] := hl
  have h : (if a1 < 0 then (b_X3_depth_25 S ((0 : Int32))) else (if ((24 : Int32)) ≤ a1 then (b_X3_depth_25 S ((0 : Int32))) else (chk (ib a1 24) (b_X3_depth_25 S ((S.1 6 a1.toNatClampNeg) - a2)))) : Option Int32) = some res := h
  refine lv_iload_n hx hb dX3_depth_0 rfl (lv_at hl 1 rfl) ?_
  refine lv_if_lt (tgt := 24) hx hb dX3_depth_1 (by decide) (fun c1 => ?_) (fun c1 => ?_)
  · have h := ip h c1
    refine lv_iconst (v := (0 : Int32)) hx hb dX3_depth_24 (by decide) ?_
    exact kb_X3_depth_25 C h X (lv_sub hl [] rfl) 
  · have h := inn h c1
    refine lv_iload_n hx hb dX3_depth_4 rfl (lv_at hl 1 rfl) ?_
    refine lv_aload_n hx hb dX3_depth_5 rfl (lv_at hl 0 rfl) ?_
    refine g_get C X inT3 4 (by decide) (eC_4 g ad S) rfl 1 (by decide) wd_165 (v := .ref (ad 6)) rfl dX3_depth_6 ?_
    refine g_alen C X 6 0 (by decide) (eC_6 g ad S) rfl (v := (24 : Int32)) (by first | rfl | decide) dX3_depth_9 ?_
    refine lv_icmp_ge (tgt := 24) hx hb dX3_depth_10 (by decide) (fun c3 => ?_) (fun c3 => ?_)
    · have h := ip h c3
      refine lv_iconst (v := (0 : Int32)) hx hb dX3_depth_24 (by decide) ?_
      exact kb_X3_depth_25 C h X (lv_sub hl [] rfl) 
    · have h := inn h c3
      refine lv_aload_n hx hb dX3_depth_13 rfl (lv_at hl 0 rfl) ?_
      refine g_get C X inT3 4 (by decide) (eC_4 g ad S) rfl 1 (by decide) wd_165 (v := .ref (ad 6)) rfl dX3_depth_14 ?_
      refine lv_iload_n hx hb dX3_depth_17 rfl (lv_at hl 1 rfl) ?_
      obtain ⟨k4, h⟩ := chk_s h
      refine g_iald C X 6 (by decide) (eC_6 g ad S) k4 dX3_depth_18 ?_
      refine lv_iload_n hx hb dX3_depth_19 rfl (lv_at hl 2 rfl) ?_
      refine lv_isub hx hb dX3_depth_20 ?_
      refine lv_goto (tgt := 25) hx hb dX3_depth_21 (by decide) ?_
      exact kb_X3_depth_25 C h X (lv_sub hl [] rfl) 

def rmX3_kind : Room := { frames := 0, cells := 0, slots := 0, locals := 0 }
def b_X3_kind_23 (S : ST)  (v2 : Int32) : Option Int32 :=
  if v2 < 0 then (some ((0 : Int32))) else (if ((24 : Int32)) ≤ v2 then (some ((0 : Int32))) else (chk (ib v2 24) (if (S.1 7 v2.toNatClampNeg) = 0 then (some ((0 : Int32))) else (some ((1 : Int32))))))
def f_X3_kind (a1 : Int32) (S : ST) : Option Int32 :=
  if ((9 : Int32)) ≤ ((8 : Int32)) then (b_X3_kind_23 S a1) else (if a1 < (S.1 5 ((8 : Int32)).toNatClampNeg) then (b_X3_kind_23 S a1) else (some ((2 : Int32))))
set_option maxHeartbeats 4000000 in
set_option maxRecDepth 100000 in
theorem kb_X3_kind_23 {p : Program} {l : Launch} {e : Env} {s : State} {m : MethodId} {args : Array Value} {below : List Frame} {meth : Method} {c : Code} {g : GG} {ad : Nat → Nat} {res : Int32} {S : ST} (C : CX kC g ad p s m args meth c cX3_kind (some Jvm.ClassFile.FieldType.int) 2 yX3_kind.cls (.code yX3_kind cX3_kind 2 (some Jvm.ClassFile.FieldType.int)))  {v2 : Int32}  {H : Heap} {locs : List Loc} {ls : Array Slot} (h : b_X3_kind_23 S v2 = some res) (X : WX kC g ad s S H locs) (hl : lv_has ls 2 [(0, .ref (ad 4)), (1, .int v2)])  : W p l e rmX3_kind s m args below meth c H locs 0 0 (MQ below (QI kC g ad (res, S) (AA kC ad s.heap.size)) args s 0 0 (AA kC ad s.heap.size)) (F0 m 23 ls []) := by
  have hx := C.1.1
  have hb := C.1.2.1
  have h : (if v2 < 0 then (some ((0 : Int32))) else (if ((24 : Int32)) ≤ v2 then (some ((0 : Int32))) else (chk (ib v2 24) (if (S.1 7 v2.toNatClampNeg) = 0 then (some ((0 : Int32))) else (some ((1 : Int32)))))) : Option Int32) = some res := h
  refine lv_iload_n hx hb dX3_kind_23 rfl (lv_at hl 1 rfl) ?_
  refine lv_if_lt (tgt := 49) hx hb dX3_kind_24 (by decide) (fun c2 => ?_) (fun c2 => ?_)
  · have h := ip h c2
    refine lv_iconst (v := (0 : Int32)) hx hb dX3_kind_49 (by decide) ?_
    exact rt_i C X rfl (congrArg (fun z => (z, S)) (Option.some.inj h)) dX3_kind_50
  · have h := inn h c2
    refine lv_iload_n hx hb dX3_kind_27 rfl (lv_at hl 1 rfl) ?_
    refine lv_aload_n hx hb dX3_kind_28 rfl (lv_at hl 0 rfl) ?_
    refine g_get C X inT3 4 (by decide) (eC_4 g ad S) rfl 2 (by decide) wd_167 (v := .ref (ad 7)) rfl dX3_kind_29 ?_
    refine g_alen C X 7 0 (by decide) (eC_7 g ad S) rfl (v := (24 : Int32)) (by first | rfl | decide) dX3_kind_32 ?_
    refine lv_icmp_ge (tgt := 49) hx hb dX3_kind_33 (by decide) (fun c3 => ?_) (fun c3 => ?_)
    · have h := ip h c3
      refine lv_iconst (v := (0 : Int32)) hx hb dX3_kind_49 (by decide) ?_
      exact rt_i C X rfl (congrArg (fun z => (z, S)) (Option.some.inj h)) dX3_kind_50
    · have h := inn h c3
      refine lv_aload_n hx hb dX3_kind_36 rfl (lv_at hl 0 rfl) ?_
      refine g_get C X inT3 4 (by decide) (eC_4 g ad S) rfl 2 (by decide) wd_167 (v := .ref (ad 7)) rfl dX3_kind_37 ?_
      refine lv_iload_n hx hb dX3_kind_40 rfl (lv_at hl 1 rfl) ?_
      obtain ⟨k4, h⟩ := chk_s h
      refine g_iald C X 7 (by decide) (eC_7 g ad S) k4 dX3_kind_41 ?_
      refine lv_if_eq (tgt := 49) hx hb dX3_kind_42 (by decide) (fun c5 => ?_) (fun c5 => ?_)
      · have h := ip h c5
        refine lv_iconst (v := (0 : Int32)) hx hb dX3_kind_49 (by decide) ?_
        exact rt_i C X rfl (congrArg (fun z => (z, S)) (Option.some.inj h)) dX3_kind_50
      · have h := inn h c5
        refine lv_iconst (v := (1 : Int32)) hx hb dX3_kind_45 (by decide) ?_
        refine lv_goto (tgt := 50) hx hb dX3_kind_46 (by decide) ?_
        exact rt_i C X rfl (congrArg (fun z => (z, S)) (Option.some.inj h)) dX3_kind_50
set_option maxHeartbeats 4000000 in
set_option maxRecDepth 100000 in
theorem c_X3_kind (l : Launch) (g : GG) (ad : Nat → Nat) (S : ST) (sz : Nat) (a1 : Int32)  {res : Int32} (h : f_X3_kind a1 S = some res) : Met l yX3_kind (WS (.code yX3_kind cX3_kind 2 (some Jvm.ClassFile.FieldType.int))) rmX3_kind (va_Pc [.ref (ad 4), .int a1] (PW kC g ad S sz)) (QI kC g ad (res, S) (AA kC ad sz)) 0 0 (AA kC ad sz) := by
  refine go_m (Qc := fun A => QI kC g ad (res, S) A) (by decide) (Nat.le_of_ble_eq_true rfl) (fun p e s m below meth c ls H locs C X hl => ?_)
  have hx := C.1.1
  have hb := C.1.2.1
  have hl : lv_has ls 2 [(0, .ref (ad 4)), (1, .int a1)] := hl
  have h : (if ((9 : Int32)) ≤ ((8 : Int32)) then (b_X3_kind_23 S a1) else (if a1 < (S.1 5 ((8 : Int32)).toNatClampNeg) then (b_X3_kind_23 S a1) else (some ((2 : Int32)))) : Option Int32) = some res := h
  refine lv_bipush (v := (8 : Int32)) hx hb dX3_kind_0 (by decide) ?_
  refine lv_aload_n hx hb dX3_kind_2 rfl (lv_at hl 0 rfl) ?_
  refine g_get C X inT3 4 (by decide) (eC_4 g ad S) rfl 0 (by decide) wd_163 (v := .ref (ad 5)) rfl dX3_kind_3 ?_
  refine g_alen C X 5 0 (by decide) (eC_5 g ad S) rfl (v := (9 : Int32)) (by first | rfl | decide) dX3_kind_6 ?_
  refine lv_icmp_ge (tgt := 23) hx hb dX3_kind_7 (by decide) (fun c1 => ?_) (fun c1 => ?_)
  · have h := ip h c1
    exact kb_X3_kind_23 C h X (lv_sub hl [0, 1] rfl) 
  · have h := inn h c1
    refine lv_iload_n hx hb dX3_kind_10 rfl (lv_at hl 1 rfl) ?_
    refine lv_aload_n hx hb dX3_kind_11 rfl (lv_at hl 0 rfl) ?_
    refine g_get C X inT3 4 (by decide) (eC_4 g ad S) rfl 0 (by decide) wd_163 (v := .ref (ad 5)) rfl dX3_kind_12 ?_
    refine lv_bipush (v := (8 : Int32)) hx hb dX3_kind_15 (by decide) ?_
    refine g_iald C X 5 (by decide) (eC_5 g ad S) (by decide) dX3_kind_17 ?_
    refine lv_icmp_lt (tgt := 23) hx hb dX3_kind_18 (by decide) (fun c6 => ?_) (fun c6 => ?_)
    · have h := ip h c6
      exact kb_X3_kind_23 C h X (lv_sub hl [0, 1] rfl) 
    · have h := inn h c6
      refine lv_iconst (v := (2 : Int32)) hx hb dX3_kind_21 (by decide) ?_
      exact rt_i C X rfl (congrArg (fun z => (z, S)) (Option.some.inj h)) dX3_kind_22

def rmX3_cellAt : Room := { frames := 1, cells := 0, slots := 0, locals := 21 }
def f_X3_cellAt (a1 : Int32) : Option Int32 :=
  if ((-300 : Int32)) ≤ a1 then (nm (if ((23 : Int32)) < ((a1 + ((300 : Int32))) / ((50 : Int32))) then ((23 : Int32)) else ((a1 + ((300 : Int32))) / ((50 : Int32)))) fun v2 => some v2) else (some ((0 : Int32)))
set_option maxHeartbeats 4000000 in
set_option maxRecDepth 100000 in
theorem c_X3_cellAt (l : Launch) (g : GG) (ad : Nat → Nat) (S : ST) (sz : Nat) (a1 : Int32)  {res : Int32} (h : f_X3_cellAt a1 = some res) : Met l yX3_cellAt (WS (.code yX3_cellAt cX3_cellAt 1 (some Jvm.ClassFile.FieldType.int))) rmX3_cellAt (va_Pc [.int a1] (PW kC g ad S sz)) (QI kC g ad (res, S) (AA kC ad sz)) 0 0 (AA kC ad sz) := by
  refine go_m (Qc := fun A => QI kC g ad (res, S) A) (by decide) (Nat.le_of_ble_eq_true rfl) (fun p e s m below meth c ls H locs C X hl => ?_)
  have hx := C.1.1
  have hb := C.1.2.1
  have hl : lv_has ls 1 [(0, .int a1)] := hl
  have h : (if ((-300 : Int32)) ≤ a1 then (nm (if ((23 : Int32)) < ((a1 + ((300 : Int32))) / ((50 : Int32))) then ((23 : Int32)) else ((a1 + ((300 : Int32))) / ((50 : Int32)))) fun v2 => some v2) else (some ((0 : Int32))) : Option Int32) = some res := h
  refine lv_iload_n hx hb dX3_cellAt_0 rfl (lv_at hl 0 rfl) ?_
  refine lv_sipush (v := (-300 : Int32)) hx hb dX3_cellAt_1 (by decide) ?_
  refine lv_icmp_ge (tgt := 11) hx hb dX3_cellAt_4 (by decide) (fun c1 => ?_) (fun c1 => ?_)
  · have h := ip h c1
    refine lv_iload_n hx hb dX3_cellAt_11 rfl (lv_at hl 0 rfl) ?_
    refine lv_sipush (v := (300 : Int32)) hx hb dX3_cellAt_12 (by decide) ?_
    refine lv_iadd hx hb dX3_cellAt_15 ?_
    refine lv_bipush (v := (50 : Int32)) hx hb dX3_cellAt_16 (by decide) ?_
    refine lv_idiv hx hb dX3_cellAt_18 (by decide) ?_
    refine lv_bipush (v := (23 : Int32)) hx hb dX3_cellAt_19 (by decide) ?_
    refine va_mmin hx hb (C.1.2.2.2.2.1.trans hl.1.symm) C.1.2.2.2.2.2.1 (C.1.2.2.2.2.2.2 _ (ws_in wd_154)) (C.1.2.2.2.2.2.2 _ (ws_in wd_155)) (C.1.2.2.2.2.2.2 _ (ws_in wd_74)) (C.1.2.2.2.2.2.2 _ (ws_in wd_156)) (Nat.le_of_ble_eq_true rfl) (Nat.le_of_ble_eq_true rfl) (Nat.zero_le _) (Nat.zero_le _) dX3_cellAt_21 ?_
    obtain ⟨v2, ev2, h⟩ := nm_s h
    refine tp_i ev2 ?_
    exact rt_i C X rfl (congrArg (fun z => (z, S)) (Option.some.inj h)) dX3_cellAt_24
  · have h := inn h c1
    refine lv_iconst (v := (0 : Int32)) hx hb dX3_cellAt_7 (by decide) ?_
    refine lv_goto (tgt := 24) hx hb dX3_cellAt_8 (by decide) ?_
    exact rt_i C X rfl (congrArg (fun z => (z, S)) (Option.some.inj h)) dX3_cellAt_24

def rmX6_number : Room := { frames := 1, cells := 0, slots := 0, locals := 21 }
def f_X6_number (a1 : Nat) (a2 : Int32) (S : ST) : Option Int32 :=
  bn1 (f_X9_at (a1 + 1) a2 S) fun r1 => some r1
set_option maxHeartbeats 4000000 in
set_option maxRecDepth 100000 in
theorem c_X6_number (l : Launch) (g : GG) (ad : Nat → Nat) (S : ST) (sz : Nat) (a1 : Nat) (a2 : Int32) (f1 : swk a1 = true) {res : Int32} (h : f_X6_number a1 a2 S = some res) : Met l yX6_number (WS (.code yX6_number cX6_number 2 (some Jvm.ClassFile.FieldType.int))) rmX6_number (va_Pc [.ref (ad a1), .int a2] (PW kC g ad S sz)) (QI kC g ad (res, S) (AA kC ad sz)) 0 0 (AA kC ad sz) := by
  refine go_m (Qc := fun A => QI kC g ad (res, S) A) (by decide) (Nat.le_of_ble_eq_true rfl) (fun p e s m below meth c ls H locs C X hl => ?_)
  have hx := C.1.1
  have hb := C.1.2.1
  have hl : lv_has ls 2 [(0, .ref (ad a1)), (1, .int a2)] := hl
  have h : (bn1 (f_X9_at (a1 + 1) a2 S) fun r1 => some r1 : Option Int32) = some res := h
  refine lv_aload_n hx hb dX6_number_0 rfl (lv_at hl 0 rfl) ?_
  refine g_get C X inT6 a1 (lt_sw f1) (e_sw g ad S f1) rfl 0 (by decide) wd_187 (v := .ref (ad (a1 + 1))) rfl dX6_number_1 ?_
  refine lv_iload_n hx hb dX6_number_4 rfl (lv_at hl 1 rfl) ?_
  obtain ⟨r1, qr1, h⟩ := bn1_s h
  refine kc_i X (res := (r1, S)) (rSN (As := [.ref (ad (a1 + 1)), .int a2]) (rest := []) (n := 2) C X (c_X9_at l g ad S _ (a1 + 1) a2 (ia_sw_1 f1) qr1) nw_625 wd_576 wd_70 wd_577 rfl rfl (by decide +kernel) ⟨Nat.le_of_ble_eq_true rfl, Nat.le_of_ble_eq_true rfl⟩ rfl hl.1 (lv_room (Nat.le_of_ble_eq_true rfl)) dX6_number_5) (fun H locs X => ?_)
  exact rt_i C X rfl (congrArg (fun z => (z, S)) (Option.some.inj h)) dX6_number_8

def rmX6_least : Room := { frames := 1, cells := 0, slots := 0, locals := 21 }
def f_X6_least (a1 : Int32) (S : ST) : Option Int32 :=
  bn1 (f_X9_ats 5 a1) fun r1 => some r1
set_option maxHeartbeats 4000000 in
set_option maxRecDepth 100000 in
theorem c_X6_least (l : Launch) (g : GG) (ad : Nat → Nat) (S : ST) (sz : Nat) (a1 : Int32)  {res : Int32} (h : f_X6_least a1 S = some res) : Met l yX6_least (WS (.code yX6_least cX6_least 1 (some Jvm.ClassFile.FieldType.int))) rmX6_least (va_Pc [.int a1] (PW kC g ad S sz)) (QI kC g ad (res, S) (AA kC ad sz)) 0 0 (AA kC ad sz) := by
  refine go_m (Qc := fun A => QI kC g ad (res, S) A) (by decide) (Nat.le_of_ble_eq_true rfl) (fun p e s m below meth c ls H locs C X hl => ?_)
  have hx := C.1.1
  have hb := C.1.2.1
  have hl : lv_has ls 1 [(0, .int a1)] := hl
  have h : (bn1 (f_X9_ats 5 a1) fun r1 => some r1 : Option Int32) = some res := h
  refine g_gets C X 5 rfl wd_623 dX6_least_0 ?_
  refine lv_iload_n hx hb dX6_least_3 rfl (lv_at hl 0 rfl) ?_
  obtain ⟨r1, qr1, h⟩ := bn1_s h
  refine kc_i X (res := (r1, S)) (rSN (As := [.ref (g.2.2.1 5), .int a1]) (rest := []) (n := 2) C X (c_X9_ats l g ad S _ 5 a1 (by decide) qr1) nw_625 wd_576 wd_70 wd_577 rfl rfl (by decide +kernel) ⟨Nat.le_of_ble_eq_true rfl, Nat.le_of_ble_eq_true rfl⟩ rfl hl.1 (lv_room (Nat.le_of_ble_eq_true rfl)) dX6_least_4) (fun H locs X => ?_)
  exact rt_i C X rfl (congrArg (fun z => (z, S)) (Option.some.inj h)) dX6_least_7

def rmX6_most : Room := { frames := 1, cells := 0, slots := 0, locals := 21 }
def f_X6_most (a1 : Int32) (S : ST) : Option Int32 :=
  bn1 (f_X9_ats 6 a1) fun r1 => some r1
set_option maxHeartbeats 4000000 in
set_option maxRecDepth 100000 in
theorem c_X6_most (l : Launch) (g : GG) (ad : Nat → Nat) (S : ST) (sz : Nat) (a1 : Int32)  {res : Int32} (h : f_X6_most a1 S = some res) : Met l yX6_most (WS (.code yX6_most cX6_most 1 (some Jvm.ClassFile.FieldType.int))) rmX6_most (va_Pc [.int a1] (PW kC g ad S sz)) (QI kC g ad (res, S) (AA kC ad sz)) 0 0 (AA kC ad sz) := by
  refine go_m (Qc := fun A => QI kC g ad (res, S) A) (by decide) (Nat.le_of_ble_eq_true rfl) (fun p e s m below meth c ls H locs C X hl => ?_)
  have hx := C.1.1
  have hb := C.1.2.1
  have hl : lv_has ls 1 [(0, .int a1)] := hl
  have h : (bn1 (f_X9_ats 6 a1) fun r1 => some r1 : Option Int32) = some res := h
  refine g_gets C X 6 rfl wd_629 dX6_most_0 ?_
  refine lv_iload_n hx hb dX6_most_3 rfl (lv_at hl 0 rfl) ?_
  obtain ⟨r1, qr1, h⟩ := bn1_s h
  refine kc_i X (res := (r1, S)) (rSN (As := [.ref (g.2.2.1 6), .int a1]) (rest := []) (n := 2) C X (c_X9_ats l g ad S _ 6 a1 (by decide) qr1) nw_625 wd_576 wd_70 wd_577 rfl rfl (by decide +kernel) ⟨Nat.le_of_ble_eq_true rfl, Nat.le_of_ble_eq_true rfl⟩ rfl hl.1 (lv_room (Nat.le_of_ble_eq_true rfl)) dX6_most_4) (fun H locs X => ?_)
  exact rt_i C X rfl (congrArg (fun z => (z, S)) (Option.some.inj h)) dX6_most_7

def rmX5_inHand : Room := { frames := 1, cells := 0, slots := 0, locals := 21 }
def f_X5_inHand (a1 : Int32) (S : ST) : Option Int32 :=
  bn1 (f_X9_at 32 a1 S) fun r1 => some r1
set_option maxHeartbeats 4000000 in
set_option maxRecDepth 100000 in
theorem c_X5_inHand (l : Launch) (g : GG) (ad : Nat → Nat) (S : ST) (sz : Nat) (a1 : Int32)  {res : Int32} (h : f_X5_inHand a1 S = some res) : Met l yX5_inHand (WS (.code yX5_inHand cX5_inHand 2 (some Jvm.ClassFile.FieldType.int))) rmX5_inHand (va_Pc [.ref (ad 31), .int a1] (PW kC g ad S sz)) (QI kC g ad (res, S) (AA kC ad sz)) 0 0 (AA kC ad sz) := by
  refine go_m (Qc := fun A => QI kC g ad (res, S) A) (by decide) (Nat.le_of_ble_eq_true rfl) (fun p e s m below meth c ls H locs C X hl => ?_)
  have hx := C.1.1
  have hb := C.1.2.1
  have hl : lv_has ls 2 [(0, .ref (ad 31)), (1, .int a1)] := hl
  have h : (bn1 (f_X9_at 32 a1 S) fun r1 => some r1 : Option Int32) = some res := h
  refine lv_aload_n hx hb dX5_inHand_0 rfl (lv_at hl 0 rfl) ?_
  refine g_get C X inT5 31 (by decide) (eC_31 g ad S) rfl 0 (by decide) wd_198 (v := .ref (ad 32)) rfl dX5_inHand_1 ?_
  refine lv_iload_n hx hb dX5_inHand_4 rfl (lv_at hl 1 rfl) ?_
  obtain ⟨r1, qr1, h⟩ := bn1_s h
  refine kc_i X (res := (r1, S)) (rSN (As := [.ref (ad 32), .int a1]) (rest := []) (n := 2) C X (c_X9_at l g ad S _ 32 a1 (by decide) qr1) nw_657 wd_576 wd_70 wd_577 rfl rfl (by decide +kernel) ⟨Nat.le_of_ble_eq_true rfl, Nat.le_of_ble_eq_true rfl⟩ rfl hl.1 (lv_room (Nat.le_of_ble_eq_true rfl)) dX5_inHand_5) (fun H locs X => ?_)
  exact rt_i C X rfl (congrArg (fun z => (z, S)) (Option.some.inj h)) dX5_inHand_8

def rmX5_take : Room := { frames := 1, cells := 0, slots := 0, locals := 22 }
def f_X5_take (a1 : Int32) (a2 : Int32) (S : ST) : Option ST :=
  bn1 (f_X9_put 32 a1 a2 S) fun S1 => some S1
set_option maxHeartbeats 4000000 in
set_option maxRecDepth 100000 in
theorem c_X5_take (l : Launch) (g : GG) (ad : Nat → Nat) (S : ST) (sz : Nat) (a1 : Int32) (a2 : Int32)  {res : ST} (h : f_X5_take a1 a2 S = some res) : Met l yX5_take (WS (.code yX5_take cX5_take 3 none)) rmX5_take (va_Pc [.ref (ad 31), .int a1, .int a2] (PW kC g ad S sz)) (QV kC g ad res (AA kC ad sz)) 0 0 (AA kC ad sz) := by
  refine go_m (Qc := fun A => QV kC g ad res A) (by decide) (Nat.le_of_ble_eq_true rfl) (fun p e s m below meth c ls H locs C X hl => ?_)
  have hx := C.1.1
  have hb := C.1.2.1
  have hl : lv_has ls 3 [(0, .ref (ad 31)), (1, .int a1), (2, .int a2)] := hl
  have h : (bn1 (f_X9_put 32 a1 a2 S) fun S1 => some S1 : Option ST) = some res := h
  refine lv_aload_n hx hb dX5_take_0 rfl (lv_at hl 0 rfl) ?_
  refine g_get C X inT5 31 (by decide) (eC_31 g ad S) rfl 0 (by decide) wd_198 (v := .ref (ad 32)) rfl dX5_take_1 ?_
  refine lv_iload_n hx hb dX5_take_4 rfl (lv_at hl 1 rfl) ?_
  refine lv_iload_n hx hb dX5_take_5 rfl (lv_at hl 2 rfl) ?_
  obtain ⟨S1, qS1, h⟩ := bn1_s h
  refine kc_v X (res := S1) (rSN (As := [.ref (ad 32), .int a1, .int a2]) (rest := []) (n := 3) C X (c_X9_put l g ad S _ 32 a1 a2 (by decide) qS1) nw_386 wd_387 wd_70 wd_388 rfl rfl (by decide +kernel) ⟨Nat.le_of_ble_eq_true rfl, Nat.le_of_ble_eq_true rfl⟩ rfl hl.1 (lv_room (Nat.le_of_ble_eq_true rfl)) dX5_take_6) (fun H locs X => ?_)
  exact rt_v C X rfl (Option.some.inj h) dX5_take_9

def rmX5_begin : Room := { frames := 2, cells := 0, slots := 0, locals := 44 }
def f_X5_begin  (S : ST) : Option ST :=
  bn1 (f_X5_take ((0 : Int32)) ((0 : Int32)) S) fun S1 => bn1 (f_X5_take ((1 : Int32)) ((0 : Int32)) S1) fun S2 => bn1 (f_X5_take ((2 : Int32)) ((0 : Int32)) S2) fun S3 => bn1 (f_X3_number ((4 : Int32)) S3) fun r4 => bn1 (f_X5_take ((3 : Int32)) r4 S3) fun S5 => bn1 (f_X3_number ((5 : Int32)) S5) fun r6 => bn1 (f_X5_take ((4 : Int32)) r6 S5) fun S7 => some S7
set_option maxHeartbeats 4000000 in
set_option maxRecDepth 100000 in
theorem c_X5_begin (l : Launch) (g : GG) (ad : Nat → Nat) (S : ST) (sz : Nat)   {res : ST} (h : f_X5_begin S = some res) : Met l yX5_begin (WS (.code yX5_begin cX5_begin 2 none)) rmX5_begin (va_Pc [.ref (ad 31), .ref (ad 4)] (PW kC g ad S sz)) (QV kC g ad res (AA kC ad sz)) 0 0 (AA kC ad sz) := by
  refine go_m (Qc := fun A => QV kC g ad res A) (by decide) (Nat.le_of_ble_eq_true rfl) (fun p e s m below meth c ls H locs C X hl => ?_)
  have hx := C.1.1
  have hb := C.1.2.1
  have hl : lv_has ls 2 [(0, .ref (ad 31)), (1, .ref (ad 4))] := hl
  have h : (bn1 (f_X5_take ((0 : Int32)) ((0 : Int32)) S) fun S1 => bn1 (f_X5_take ((1 : Int32)) ((0 : Int32)) S1) fun S2 => bn1 (f_X5_take ((2 : Int32)) ((0 : Int32)) S2) fun S3 => bn1 (f_X3_number ((4 : Int32)) S3) fun r4 => bn1 (f_X5_take ((3 : Int32)) r4 S3) fun S5 => bn1 (f_X3_number ((5 : Int32)) S5) fun r6 => bn1 (f_X5_take ((4 : Int32)) r6 S5) fun S7 => some S7 : Option ST) = some res := h
  refine lv_aload_n hx hb dX5_begin_0 rfl (lv_at hl 0 rfl) ?_
  refine lv_iconst (v := (0 : Int32)) hx hb dX5_begin_1 (by decide) ?_
  refine lv_iconst (v := (0 : Int32)) hx hb dX5_begin_2 (by decide) ?_
  obtain ⟨S1, qS1, h⟩ := bn1_s h
  refine kc_v X (res := S1) (rV (As := [.int ((0 : Int32)), .int ((0 : Int32))]) (rest := []) (n := 2) (k := 31) C X (c_X5_take l g ad S _ ((0 : Int32)) ((0 : Int32))  qS1) wd_382 wd_383 wd_384 wd_78 wd_385 (by decide) (eC_31 g ad S) rfl rfl rfl (by decide +kernel) ⟨Nat.le_of_ble_eq_true rfl, Nat.le_of_ble_eq_true rfl⟩ rfl hl.1 (lv_room (Nat.le_of_ble_eq_true rfl)) dX5_begin_3) (fun H locs X => ?_)
  refine lv_aload_n hx hb dX5_begin_6 rfl (lv_at hl 0 rfl) ?_
  refine lv_iconst (v := (1 : Int32)) hx hb dX5_begin_7 (by decide) ?_
  refine lv_iconst (v := (0 : Int32)) hx hb dX5_begin_8 (by decide) ?_
  obtain ⟨S2, qS2, h⟩ := bn1_s h
  refine kc_v X (res := S2) (rV (As := [.int ((1 : Int32)), .int ((0 : Int32))]) (rest := []) (n := 2) (k := 31) C X (c_X5_take l g ad S1 _ ((1 : Int32)) ((0 : Int32))  qS2) wd_382 wd_383 wd_384 wd_78 wd_385 (by decide) (eC_31 g ad S1) rfl rfl rfl (by decide +kernel) ⟨Nat.le_of_ble_eq_true rfl, Nat.le_of_ble_eq_true rfl⟩ rfl hl.1 (lv_room (Nat.le_of_ble_eq_true rfl)) dX5_begin_9) (fun H locs X => ?_)
  refine lv_aload_n hx hb dX5_begin_12 rfl (lv_at hl 0 rfl) ?_
  refine lv_iconst (v := (2 : Int32)) hx hb dX5_begin_13 (by decide) ?_
  refine lv_iconst (v := (0 : Int32)) hx hb dX5_begin_14 (by decide) ?_
  obtain ⟨S3, qS3, h⟩ := bn1_s h
  refine kc_v X (res := S3) (rV (As := [.int ((2 : Int32)), .int ((0 : Int32))]) (rest := []) (n := 2) (k := 31) C X (c_X5_take l g ad S2 _ ((2 : Int32)) ((0 : Int32))  qS3) wd_382 wd_383 wd_384 wd_78 wd_385 (by decide) (eC_31 g ad S2) rfl rfl rfl (by decide +kernel) ⟨Nat.le_of_ble_eq_true rfl, Nat.le_of_ble_eq_true rfl⟩ rfl hl.1 (lv_room (Nat.le_of_ble_eq_true rfl)) dX5_begin_15) (fun H locs X => ?_)
  refine lv_aload_n hx hb dX5_begin_18 rfl (lv_at hl 0 rfl) ?_
  refine lv_iconst (v := (3 : Int32)) hx hb dX5_begin_19 (by decide) ?_
  refine lv_aload_n hx hb dX5_begin_20 rfl (lv_at hl 1 rfl) ?_
  refine lv_iconst (v := (4 : Int32)) hx hb dX5_begin_21 (by decide) ?_
  obtain ⟨r4, qr4, h⟩ := bn1_s h
  refine kc_i X (res := (r4, S3)) (rV (As := [.int ((4 : Int32))]) (rest := [.int ((3 : Int32)), .ref (ad 31)]) (n := 1) (k := 4) C X (c_X3_number l g ad S3 _ ((4 : Int32))  qr4) wd_389 wd_390 wd_391 wd_73 wd_392 (by decide) (eC_4 g ad S3) rfl rfl rfl (by decide +kernel) ⟨Nat.le_of_ble_eq_true rfl, Nat.le_of_ble_eq_true rfl⟩ rfl hl.1 (lv_room (Nat.le_of_ble_eq_true rfl)) dX5_begin_22) (fun H locs X => ?_)
  obtain ⟨S5, qS5, h⟩ := bn1_s h
  refine kc_v X (res := S5) (rV (As := [.int ((3 : Int32)), .int r4]) (rest := []) (n := 2) (k := 31) C X (c_X5_take l g ad S3 _ ((3 : Int32)) r4  qS5) wd_382 wd_383 wd_384 wd_78 wd_385 (by decide) (eC_31 g ad S3) rfl rfl rfl (by decide +kernel) ⟨Nat.le_of_ble_eq_true rfl, Nat.le_of_ble_eq_true rfl⟩ rfl hl.1 (lv_room (Nat.le_of_ble_eq_true rfl)) dX5_begin_25) (fun H locs X => ?_)
  refine lv_aload_n hx hb dX5_begin_28 rfl (lv_at hl 0 rfl) ?_
  refine lv_iconst (v := (4 : Int32)) hx hb dX5_begin_29 (by decide) ?_
  refine lv_aload_n hx hb dX5_begin_30 rfl (lv_at hl 1 rfl) ?_
  refine lv_iconst (v := (5 : Int32)) hx hb dX5_begin_31 (by decide) ?_
  obtain ⟨r6, qr6, h⟩ := bn1_s h
  refine kc_i X (res := (r6, S5)) (rV (As := [.int ((5 : Int32))]) (rest := [.int ((4 : Int32)), .ref (ad 31)]) (n := 1) (k := 4) C X (c_X3_number l g ad S5 _ ((5 : Int32))  qr6) wd_389 wd_390 wd_391 wd_73 wd_392 (by decide) (eC_4 g ad S5) rfl rfl rfl (by decide +kernel) ⟨Nat.le_of_ble_eq_true rfl, Nat.le_of_ble_eq_true rfl⟩ rfl hl.1 (lv_room (Nat.le_of_ble_eq_true rfl)) dX5_begin_32) (fun H locs X => ?_)
  obtain ⟨S7, qS7, h⟩ := bn1_s h
  refine kc_v X (res := S7) (rV (As := [.int ((4 : Int32)), .int r6]) (rest := []) (n := 2) (k := 31) C X (c_X5_take l g ad S5 _ ((4 : Int32)) r6  qS7) wd_382 wd_383 wd_384 wd_78 wd_385 (by decide) (eC_31 g ad S5) rfl rfl rfl (by decide +kernel) ⟨Nat.le_of_ble_eq_true rfl, Nat.le_of_ble_eq_true rfl⟩ rfl hl.1 (lv_room (Nat.le_of_ble_eq_true rfl)) dX5_begin_35) (fun H locs X => ?_)
  exact rt_v C X rfl (Option.some.inj h) dX5_begin_38

def rmX5_draw : Room := { frames := 0, cells := 0, slots := 0, locals := 0 }
def f_X5_draw (a1 : Int32) (S : ST) : Option (Int32 × ST) :=
  nm (su S 31 2 ((((((S.1 31 2).toInt64) * ((1103515245 : Int64))) + ((12345 : Int64))) - ((((S.1 31 2).toInt64) * ((1103515245 : Int64))) + ((12345 : Int64))) / ((2147483648 : Int64)) * ((2147483648 : Int64))).toInt32)) fun S1 => if ((1 : Int32)) ≤ a1 then (chk (nz a1) (some (((S1.1 31 2) / ((65536 : Int32))) - ((S1.1 31 2) / ((65536 : Int32))) / a1 * a1, S1))) else (some ((0 : Int32), S1))
set_option maxHeartbeats 4000000 in
set_option maxRecDepth 100000 in
theorem c_X5_draw (l : Launch) (g : GG) (ad : Nat → Nat) (S : ST) (sz : Nat) (a1 : Int32)  {res : (Int32 × ST)} (h : f_X5_draw a1 S = some res) : Met l yX5_draw (WS (.code yX5_draw cX5_draw 2 (some Jvm.ClassFile.FieldType.int))) rmX5_draw (va_Pc [.ref (ad 31), .int a1] (PW kC g ad S sz)) (QI kC g ad res (AA kC ad sz)) 0 0 (AA kC ad sz) := by
  refine go_m (Qc := fun A => QI kC g ad res A) (by decide) (Nat.le_of_ble_eq_true rfl) (fun p e s m below meth c ls H locs C X hl => ?_)
  have hx := C.1.1
  have hb := C.1.2.1
  have hl : lv_has ls 2 [(0, .ref (ad 31)), (1, .int a1)] := hl
  have h : (nm (su S 31 2 ((((((S.1 31 2).toInt64) * ((1103515245 : Int64))) + ((12345 : Int64))) - ((((S.1 31 2).toInt64) * ((1103515245 : Int64))) + ((12345 : Int64))) / ((2147483648 : Int64)) * ((2147483648 : Int64))).toInt32)) fun S1 => if ((1 : Int32)) ≤ a1 then (chk (nz a1) (some (((S1.1 31 2) / ((65536 : Int32))) - ((S1.1 31 2) / ((65536 : Int32))) / a1 * a1, S1))) else (some ((0 : Int32), S1)) : Option (Int32 × ST)) = some res := h
  refine lv_aload_n hx hb dX5_draw_0 rfl (lv_at hl 0 rfl) ?_
  refine lv_aload_n hx hb dX5_draw_1 rfl (lv_at hl 0 rfl) ?_
  refine g_get C X inT5 31 (by decide) (eC_31 g ad S) rfl 2 (by decide) wd_200 (v := .int (S.1 31 2)) rfl dX5_draw_2 ?_
  refine lv_i2l hx hb dX5_draw_5 rfl ?_
  refine lv_ldc2 (v := (1103515245 : Int64)) hx hb C.1.2.2.2.2.2.1 (C.1.2.2.2.2.2.2 _ (ws_in wd_954)) dX5_draw_6 ?_
  refine lv_lmul hx hb dX5_draw_9 ?_
  refine lv_ldc2 (v := (12345 : Int64)) hx hb C.1.2.2.2.2.2.1 (C.1.2.2.2.2.2.2 _ (ws_in wd_955)) dX5_draw_10 ?_
  refine lv_ladd hx hb dX5_draw_13 ?_
  refine lv_ldc2 (v := (2147483648 : Int64)) hx hb C.1.2.2.2.2.2.1 (C.1.2.2.2.2.2.2 _ (ws_in wd_956)) dX5_draw_14 ?_
  refine lv_lrem hx hb dX5_draw_17 (by decide) ?_
  refine lv_l2i hx hb dX5_draw_18 rfl ?_
  obtain ⟨S1, eS1, h⟩ := nm_s h
  refine g_put (S' := S1) C X inT5 tyX5 tyX5_ok nmX5 31 (by decide) (eC_31 g ad S) rfl 2 (by decide) wd_200 rfl (by rfl) rfl (Nat.le_of_ble_eq_true rfl) (by subst eS1; rfl) (by subst eS1; exact fun i hi => ent_offu hi) dX5_draw_19 (fun H locs X => ?_)
  refine lv_iload_n hx hb dX5_draw_22 rfl (lv_at hl 1 rfl) ?_
  refine lv_iconst (v := (1 : Int32)) hx hb dX5_draw_23 (by decide) ?_
  refine lv_icmp_ge (tgt := 31) hx hb dX5_draw_24 (by decide) (fun c2 => ?_) (fun c2 => ?_)
  · have h := ip h c2
    refine lv_aload_n hx hb dX5_draw_31 rfl (lv_at hl 0 rfl) ?_
    refine g_get C X inT5 31 (by decide) (eC_31 g ad S1) rfl 2 (by decide) wd_200 (v := .int (S1.1 31 2)) rfl dX5_draw_32 ?_
    refine lv_ldc (v := (65536 : Int32)) hx hb C.1.2.2.2.2.2.1 (C.1.2.2.2.2.2.2 _ (ws_in wd_957)) dX5_draw_35 ?_
    refine lv_idiv hx hb dX5_draw_37 (by decide) ?_
    refine lv_iload_n hx hb dX5_draw_38 rfl (lv_at hl 1 rfl) ?_
    obtain ⟨k3, h⟩ := chk_s h
    refine lv_irem hx hb dX5_draw_39 (nz_ne k3) ?_
    exact rt_i C X rfl (Option.some.inj h) dX5_draw_40
  · have h := inn h c2
    refine lv_iconst (v := (0 : Int32)) hx hb dX5_draw_27 (by decide) ?_
    refine lv_goto (tgt := 40) hx hb dX5_draw_28 (by decide) ?_
    exact rt_i C X rfl (Option.some.inj h) dX5_draw_40

def rmX5_count : Room := { frames := 1, cells := 0, slots := 0, locals := 22 }
def f_X5_count (a1 : Int32) (S : ST) : Option ST :=
  bn1 (f_X9_at 33 a1 S) fun r1 => bn1 (f_X9_put 33 a1 (r1 + ((1 : Int32))) S) fun S2 => some S2
set_option maxHeartbeats 4000000 in
set_option maxRecDepth 100000 in
theorem c_X5_count (l : Launch) (g : GG) (ad : Nat → Nat) (S : ST) (sz : Nat) (a1 : Int32)  {res : ST} (h : f_X5_count a1 S = some res) : Met l yX5_count (WS (.code yX5_count cX5_count 2 none)) rmX5_count (va_Pc [.ref (ad 31), .int a1] (PW kC g ad S sz)) (QV kC g ad res (AA kC ad sz)) 0 0 (AA kC ad sz) := by
  refine go_m (Qc := fun A => QV kC g ad res A) (by decide) (Nat.le_of_ble_eq_true rfl) (fun p e s m below meth c ls H locs C X hl => ?_)
  have hx := C.1.1
  have hb := C.1.2.1
  have hl : lv_has ls 2 [(0, .ref (ad 31)), (1, .int a1)] := hl
  have h : (bn1 (f_X9_at 33 a1 S) fun r1 => bn1 (f_X9_put 33 a1 (r1 + ((1 : Int32))) S) fun S2 => some S2 : Option ST) = some res := h
  refine lv_aload_n hx hb dX5_count_0 rfl (lv_at hl 0 rfl) ?_
  refine g_get C X inT5 31 (by decide) (eC_31 g ad S) rfl 1 (by decide) wd_199 (v := .ref (ad 33)) rfl dX5_count_1 ?_
  refine lv_iload_n hx hb dX5_count_4 rfl (lv_at hl 1 rfl) ?_
  refine lv_aload_n hx hb dX5_count_5 rfl (lv_at hl 0 rfl) ?_
  refine g_get C X inT5 31 (by decide) (eC_31 g ad S) rfl 1 (by decide) wd_199 (v := .ref (ad 33)) rfl dX5_count_6 ?_
  refine lv_iload_n hx hb dX5_count_9 rfl (lv_at hl 1 rfl) ?_
  obtain ⟨r1, qr1, h⟩ := bn1_s h
  refine kc_i X (res := (r1, S)) (rSN (As := [.ref (ad 33), .int a1]) (rest := [.int a1, .ref (ad 33)]) (n := 2) C X (c_X9_at l g ad S _ 33 a1 (by decide) qr1) nw_657 wd_576 wd_70 wd_577 rfl rfl (by decide +kernel) ⟨Nat.le_of_ble_eq_true rfl, Nat.le_of_ble_eq_true rfl⟩ rfl hl.1 (lv_room (Nat.le_of_ble_eq_true rfl)) dX5_count_10) (fun H locs X => ?_)
  refine lv_iconst (v := (1 : Int32)) hx hb dX5_count_13 (by decide) ?_
  refine lv_iadd hx hb dX5_count_14 ?_
  obtain ⟨S2, qS2, h⟩ := bn1_s h
  refine kc_v X (res := S2) (rSN (As := [.ref (ad 33), .int a1, .int (r1 + ((1 : Int32)))]) (rest := []) (n := 3) C X (c_X9_put l g ad S _ 33 a1 (r1 + ((1 : Int32))) (by decide) qS2) nw_386 wd_387 wd_70 wd_388 rfl rfl (by decide +kernel) ⟨Nat.le_of_ble_eq_true rfl, Nat.le_of_ble_eq_true rfl⟩ rfl hl.1 (lv_room (Nat.le_of_ble_eq_true rfl)) dX5_count_15) (fun H locs X => ?_)
  exact rt_v C X rfl (Option.some.inj h) dX5_count_18

def rmX5_counted : Room := { frames := 1, cells := 0, slots := 0, locals := 21 }
def f_X5_counted (a1 : Int32) (S : ST) : Option Int32 :=
  bn1 (f_X9_at 33 a1 S) fun r1 => some r1
set_option maxHeartbeats 4000000 in
set_option maxRecDepth 100000 in
theorem c_X5_counted (l : Launch) (g : GG) (ad : Nat → Nat) (S : ST) (sz : Nat) (a1 : Int32)  {res : Int32} (h : f_X5_counted a1 S = some res) : Met l yX5_counted (WS (.code yX5_counted cX5_counted 2 (some Jvm.ClassFile.FieldType.int))) rmX5_counted (va_Pc [.ref (ad 31), .int a1] (PW kC g ad S sz)) (QI kC g ad (res, S) (AA kC ad sz)) 0 0 (AA kC ad sz) := by
  refine go_m (Qc := fun A => QI kC g ad (res, S) A) (by decide) (Nat.le_of_ble_eq_true rfl) (fun p e s m below meth c ls H locs C X hl => ?_)
  have hx := C.1.1
  have hb := C.1.2.1
  have hl : lv_has ls 2 [(0, .ref (ad 31)), (1, .int a1)] := hl
  have h : (bn1 (f_X9_at 33 a1 S) fun r1 => some r1 : Option Int32) = some res := h
  refine lv_aload_n hx hb dX5_counted_0 rfl (lv_at hl 0 rfl) ?_
  refine g_get C X inT5 31 (by decide) (eC_31 g ad S) rfl 1 (by decide) wd_199 (v := .ref (ad 33)) rfl dX5_counted_1 ?_
  refine lv_iload_n hx hb dX5_counted_4 rfl (lv_at hl 1 rfl) ?_
  obtain ⟨r1, qr1, h⟩ := bn1_s h
  refine kc_i X (res := (r1, S)) (rSN (As := [.ref (ad 33), .int a1]) (rest := []) (n := 2) C X (c_X9_at l g ad S _ 33 a1 (by decide) qr1) nw_657 wd_576 wd_70 wd_577 rfl rfl (by decide +kernel) ⟨Nat.le_of_ble_eq_true rfl, Nat.le_of_ble_eq_true rfl⟩ rfl hl.1 (lv_room (Nat.le_of_ble_eq_true rfl)) dX5_counted_5) (fun H locs X => ?_)
  exact rt_i C X rfl (congrArg (fun z => (z, S)) (Option.some.inj h)) dX5_counted_8

def rmX5_copy : Room := { frames := 1, cells := 0, slots := 0, locals := 40 }
def f_X5_copy (a1 : Nat) (a2 : Nat) (S : ST) : Option ST :=
  nm (if (Int32.ofNat (lnC (a1 + 1))) < (Int32.ofNat (lnC (a2 + 1))) then (Int32.ofNat (lnC (a1 + 1))) else (Int32.ofNat (lnC (a2 + 1)))) fun v1 => chk (cpk ((0 : Int32)) ((0 : Int32)) v1 (lnC (a2 + 1)) (lnC (a1 + 1))) (nm (sr S (a1 + 1) (va_cpy (S.1 (a2 + 1)) (S.1 (a1 + 1)) ((0 : Int32)).toNatClampNeg ((0 : Int32)).toNatClampNeg v1.toNatClampNeg)) fun S3 => nm (if (Int32.ofNat (lnC (a1 + 2))) < (Int32.ofNat (lnC (a2 + 2))) then (Int32.ofNat (lnC (a1 + 2))) else (Int32.ofNat (lnC (a2 + 2)))) fun v4 => chk (cpk ((0 : Int32)) ((0 : Int32)) v4 (lnC (a2 + 2)) (lnC (a1 + 2))) (nm (sr S3 (a1 + 2) (va_cpy (S3.1 (a2 + 2)) (S3.1 (a1 + 2)) ((0 : Int32)).toNatClampNeg ((0 : Int32)).toNatClampNeg v4.toNatClampNeg)) fun S6 => nm (su S6 a1 2 (S6.1 a2 2)) fun S7 => some S7))
set_option maxHeartbeats 4000000 in
set_option maxRecDepth 100000 in
theorem c_X5_copy (l : Launch) (g : GG) (ad : Nat → Nat) (S : ST) (sz : Nat) (a1 : Nat) (a2 : Nat) (f1 : sttk a1 = true) (f2 : sttk a2 = true) {res : ST} (h : f_X5_copy a1 a2 S = some res) : Met l yX5_copy (WS (.code yX5_copy cX5_copy 2 none)) rmX5_copy (va_Pc [.ref (ad a1), .ref (ad a2)] (PW kC g ad S sz)) (QV kC g ad res (AA kC ad sz)) 0 0 (AA kC ad sz) := by
  refine go_m (Qc := fun A => QV kC g ad res A) (by decide) (Nat.le_of_ble_eq_true rfl) (fun p e s m below meth c ls H locs C X hl => ?_)
  have hx := C.1.1
  have hb := C.1.2.1
  have hl : lv_has ls 2 [(0, .ref (ad a1)), (1, .ref (ad a2))] := hl
  have h : (nm (if (Int32.ofNat (lnC (a1 + 1))) < (Int32.ofNat (lnC (a2 + 1))) then (Int32.ofNat (lnC (a1 + 1))) else (Int32.ofNat (lnC (a2 + 1)))) fun v1 => chk (cpk ((0 : Int32)) ((0 : Int32)) v1 (lnC (a2 + 1)) (lnC (a1 + 1))) (nm (sr S (a1 + 1) (va_cpy (S.1 (a2 + 1)) (S.1 (a1 + 1)) ((0 : Int32)).toNatClampNeg ((0 : Int32)).toNatClampNeg v1.toNatClampNeg)) fun S3 => nm (if (Int32.ofNat (lnC (a1 + 2))) < (Int32.ofNat (lnC (a2 + 2))) then (Int32.ofNat (lnC (a1 + 2))) else (Int32.ofNat (lnC (a2 + 2)))) fun v4 => chk (cpk ((0 : Int32)) ((0 : Int32)) v4 (lnC (a2 + 2)) (lnC (a1 + 2))) (nm (sr S3 (a1 + 2) (va_cpy (S3.1 (a2 + 2)) (S3.1 (a1 + 2)) ((0 : Int32)).toNatClampNeg ((0 : Int32)).toNatClampNeg v4.toNatClampNeg)) fun S6 => nm (su S6 a1 2 (S6.1 a2 2)) fun S7 => some S7)) : Option ST) = some res := h
  refine lv_aload_n hx hb dX5_copy_0 rfl (lv_at hl 1 rfl) ?_
  refine g_get C X inT5 a2 (lt_stt f2) (e_stt g ad S f2) rfl 0 (by decide) wd_198 (v := .ref (ad (a2 + 1))) rfl dX5_copy_1 ?_
  refine lv_iconst (v := (0 : Int32)) hx hb dX5_copy_4 (by decide) ?_
  refine lv_aload_n hx hb dX5_copy_5 rfl (lv_at hl 0 rfl) ?_
  refine g_get C X inT5 a1 (lt_stt f1) (e_stt g ad S f1) rfl 0 (by decide) wd_198 (v := .ref (ad (a1 + 1))) rfl dX5_copy_6 ?_
  refine lv_iconst (v := (0 : Int32)) hx hb dX5_copy_9 (by decide) ?_
  refine lv_aload_n hx hb dX5_copy_10 rfl (lv_at hl 1 rfl) ?_
  refine g_get C X inT5 a2 (lt_stt f2) (e_stt g ad S f2) rfl 0 (by decide) wd_198 (v := .ref (ad (a2 + 1))) rfl dX5_copy_11 ?_
  refine g_alen C X (a2 + 1) 0 (ltiaC (ia_stt_1 f2)) (eiaC g ad S (ia_stt_1 f2)) rfl (v := Int32.ofNat (lnC (a2 + 1))) (by first | rfl | decide) dX5_copy_14 ?_
  refine lv_aload_n hx hb dX5_copy_15 rfl (lv_at hl 0 rfl) ?_
  refine g_get C X inT5 a1 (lt_stt f1) (e_stt g ad S f1) rfl 0 (by decide) wd_198 (v := .ref (ad (a1 + 1))) rfl dX5_copy_16 ?_
  refine g_alen C X (a1 + 1) 0 (ltiaC (ia_stt_1 f1)) (eiaC g ad S (ia_stt_1 f1)) rfl (v := Int32.ofNat (lnC (a1 + 1))) (by first | rfl | decide) dX5_copy_19 ?_
  refine va_mmin hx hb (C.1.2.2.2.2.1.trans hl.1.symm) C.1.2.2.2.2.2.1 (C.1.2.2.2.2.2.2 _ (ws_in wd_983)) (C.1.2.2.2.2.2.2 _ (ws_in wd_155)) (C.1.2.2.2.2.2.2 _ (ws_in wd_74)) (C.1.2.2.2.2.2.2 _ (ws_in wd_156)) (Nat.le_of_ble_eq_true rfl) (Nat.le_of_ble_eq_true rfl) (Nat.zero_le _) (Nat.zero_le _) dX5_copy_20 ?_
  obtain ⟨v1, ev1, h⟩ := nm_s h
  refine tp_i ev1 ?_
  obtain ⟨k2, h⟩ := chk_s h
  obtain ⟨S3, eS3, h⟩ := nm_s h
  refine g_cpy (S' := S3) C X hl.1 wd_984 nat_cp wd_158 wd_75 (a2 + 1) (ltiaC (ia_stt_1 f2)) (eiaC g ad S (ia_stt_1 f2)) (a1 + 1) (ltiaC (ia_stt_1 f1)) (eiaC g ad S (ia_stt_1 f1)) k2 (by subst eS3; rw [eiaC g ad _ (ia_stt_1 f1), sr_k]) (by subst eS3; exact fun i hi => ent_off hi) (Nat.le_of_ble_eq_true rfl) (Nat.le_of_ble_eq_true rfl) dX5_copy_23 (fun H locs X => ?_)
  refine lv_aload_n hx hb dX5_copy_26 rfl (lv_at hl 1 rfl) ?_
  refine g_get C X inT5 a2 (lt_stt f2) (e_stt g ad S3 f2) rfl 1 (by decide) wd_199 (v := .ref (ad (a2 + 2))) rfl dX5_copy_27 ?_
  refine lv_iconst (v := (0 : Int32)) hx hb dX5_copy_30 (by decide) ?_
  refine lv_aload_n hx hb dX5_copy_31 rfl (lv_at hl 0 rfl) ?_
  refine g_get C X inT5 a1 (lt_stt f1) (e_stt g ad S3 f1) rfl 1 (by decide) wd_199 (v := .ref (ad (a1 + 2))) rfl dX5_copy_32 ?_
  refine lv_iconst (v := (0 : Int32)) hx hb dX5_copy_35 (by decide) ?_
  refine lv_aload_n hx hb dX5_copy_36 rfl (lv_at hl 1 rfl) ?_
  refine g_get C X inT5 a2 (lt_stt f2) (e_stt g ad S3 f2) rfl 1 (by decide) wd_199 (v := .ref (ad (a2 + 2))) rfl dX5_copy_37 ?_
  refine g_alen C X (a2 + 2) 0 (ltiaC (ia_stt_2 f2)) (eiaC g ad S3 (ia_stt_2 f2)) rfl (v := Int32.ofNat (lnC (a2 + 2))) (by first | rfl | decide) dX5_copy_40 ?_
  refine lv_aload_n hx hb dX5_copy_41 rfl (lv_at hl 0 rfl) ?_
  refine g_get C X inT5 a1 (lt_stt f1) (e_stt g ad S3 f1) rfl 1 (by decide) wd_199 (v := .ref (ad (a1 + 2))) rfl dX5_copy_42 ?_
  refine g_alen C X (a1 + 2) 0 (ltiaC (ia_stt_2 f1)) (eiaC g ad S3 (ia_stt_2 f1)) rfl (v := Int32.ofNat (lnC (a1 + 2))) (by first | rfl | decide) dX5_copy_45 ?_
  refine va_mmin hx hb (C.1.2.2.2.2.1.trans hl.1.symm) C.1.2.2.2.2.2.1 (C.1.2.2.2.2.2.2 _ (ws_in wd_983)) (C.1.2.2.2.2.2.2 _ (ws_in wd_155)) (C.1.2.2.2.2.2.2 _ (ws_in wd_74)) (C.1.2.2.2.2.2.2 _ (ws_in wd_156)) (Nat.le_of_ble_eq_true rfl) (Nat.le_of_ble_eq_true rfl) (Nat.zero_le _) (Nat.zero_le _) dX5_copy_46 ?_
  obtain ⟨v4, ev4, h⟩ := nm_s h
  refine tp_i ev4 ?_
  obtain ⟨k5, h⟩ := chk_s h
  obtain ⟨S6, eS6, h⟩ := nm_s h
  refine g_cpy (S' := S6) C X hl.1 wd_984 nat_cp wd_158 wd_75 (a2 + 2) (ltiaC (ia_stt_2 f2)) (eiaC g ad S3 (ia_stt_2 f2)) (a1 + 2) (ltiaC (ia_stt_2 f1)) (eiaC g ad S3 (ia_stt_2 f1)) k5 (by subst eS6; rw [eiaC g ad _ (ia_stt_2 f1), sr_k]) (by subst eS6; exact fun i hi => ent_off hi) (Nat.le_of_ble_eq_true rfl) (Nat.le_of_ble_eq_true rfl) dX5_copy_49 (fun H locs X => ?_)
  refine lv_aload_n hx hb dX5_copy_52 rfl (lv_at hl 0 rfl) ?_
  refine lv_aload_n hx hb dX5_copy_53 rfl (lv_at hl 1 rfl) ?_
  refine g_get C X inT5 a2 (lt_stt f2) (e_stt g ad S6 f2) rfl 2 (by decide) wd_200 (v := .int (S6.1 a2 2)) rfl dX5_copy_54 ?_
  obtain ⟨S7, eS7, h⟩ := nm_s h
  refine g_put (S' := S7) C X inT5 tyX5 tyX5_ok nmX5 a1 (lt_stt f1) (e_stt g ad S6 f1) rfl 2 (by decide) wd_200 rfl (by rfl) rfl (Nat.le_of_ble_eq_true rfl) (by subst eS7; rw [e_stt g ad _ f1, su_k]; rfl) (by subst eS7; exact fun i hi => ent_offu hi) dX5_copy_57 (fun H locs X => ?_)
  exact rt_v C X rfl (Option.some.inj h) dX5_copy_60

def rmJ6_bitCount_0f7a4 : Room := { frames := 0, cells := 0, slots := 0, locals := 0 }
def f_J6_bitCount_0f7a4 (a1 : Int32) : Option Int32 :=
  nm (a1 - (((a1.toUInt32 >>> (((1 : Int32)).toUInt32 &&& Int32.toUInt32 31)).toInt32) &&& ((1431655765 : Int32)))) fun v1 => nm ((v1 &&& ((858993459 : Int32))) + (((v1.toUInt32 >>> (((2 : Int32)).toUInt32 &&& Int32.toUInt32 31)).toInt32) &&& ((858993459 : Int32)))) fun v2 => nm ((v2 + ((v2.toUInt32 >>> (((4 : Int32)).toUInt32 &&& Int32.toUInt32 31)).toInt32)) &&& ((252645135 : Int32))) fun v3 => nm (v3 + ((v3.toUInt32 >>> (((8 : Int32)).toUInt32 &&& Int32.toUInt32 31)).toInt32)) fun v4 => nm (v4 + ((v4.toUInt32 >>> (((16 : Int32)).toUInt32 &&& Int32.toUInt32 31)).toInt32)) fun v5 => some (v5 &&& ((63 : Int32)))
set_option maxHeartbeats 4000000 in
set_option maxRecDepth 100000 in
theorem c_J6_bitCount_0f7a4 (l : Launch) (g : GG) (ad : Nat → Nat) (S : ST) (sz : Nat) (a1 : Int32)  {res : Int32} (h : f_J6_bitCount_0f7a4 a1 = some res) : Met l yJ6_bitCount_0f7a4 (WS (.code yJ6_bitCount_0f7a4 cJ6_bitCount_0f7a4 1 (some Jvm.ClassFile.FieldType.int))) rmJ6_bitCount_0f7a4 (va_Pc [.int a1] (PW kC g ad S sz)) (QI kC g ad (res, S) (AA kC ad sz)) 0 0 (AA kC ad sz) := by
  refine go_m (Qc := fun A => QI kC g ad (res, S) A) (by decide) (Nat.le_of_ble_eq_true rfl) (fun p e s m below meth c ls H locs C X hl => ?_)
  have hx := C.1.1
  have hb := C.1.2.1
  have hl : lv_has ls 1 [(0, .int a1)] := hl
  have h : (nm (a1 - (((a1.toUInt32 >>> (((1 : Int32)).toUInt32 &&& Int32.toUInt32 31)).toInt32) &&& ((1431655765 : Int32)))) fun v1 => nm ((v1 &&& ((858993459 : Int32))) + (((v1.toUInt32 >>> (((2 : Int32)).toUInt32 &&& Int32.toUInt32 31)).toInt32) &&& ((858993459 : Int32)))) fun v2 => nm ((v2 + ((v2.toUInt32 >>> (((4 : Int32)).toUInt32 &&& Int32.toUInt32 31)).toInt32)) &&& ((252645135 : Int32))) fun v3 => nm (v3 + ((v3.toUInt32 >>> (((8 : Int32)).toUInt32 &&& Int32.toUInt32 31)).toInt32)) fun v4 => nm (v4 + ((v4.toUInt32 >>> (((16 : Int32)).toUInt32 &&& Int32.toUInt32 31)).toInt32)) fun v5 => some (v5 &&& ((63 : Int32))) : Option Int32) = some res := h
  refine lv_iload_n hx hb dJ6_bitCount_0f7a4_0 rfl (lv_at hl 0 rfl) ?_
  refine lv_iload_n hx hb dJ6_bitCount_0f7a4_1 rfl (lv_at hl 0 rfl) ?_
  refine lv_iconst (v := (1 : Int32)) hx hb dJ6_bitCount_0f7a4_2 (by decide) ?_
  refine lv_iushr hx hb dJ6_bitCount_0f7a4_3 rfl ?_
  refine lv_ldcw (v := (1431655765 : Int32)) hx hb C.1.2.2.2.2.2.1 (C.1.2.2.2.2.2.2 _ (ws_in wd_939)) dJ6_bitCount_0f7a4_4 ?_
  refine lv_iand hx hb dJ6_bitCount_0f7a4_7 ?_
  refine lv_isub hx hb dJ6_bitCount_0f7a4_8 ?_
  obtain ⟨v1, ev1, h⟩ := nm_s h
  refine tp_i ev1 ?_
  refine lv_istore_n (lv' := [(0, .int v1)]) hx hb dJ6_bitCount_0f7a4_9 rfl hl (by decide) rfl (fun ls hl => ?_)
  refine lv_iload_n hx hb dJ6_bitCount_0f7a4_10 rfl (lv_at hl 0 rfl) ?_
  refine lv_ldcw (v := (858993459 : Int32)) hx hb C.1.2.2.2.2.2.1 (C.1.2.2.2.2.2.2 _ (ws_in wd_940)) dJ6_bitCount_0f7a4_11 ?_
  refine lv_iand hx hb dJ6_bitCount_0f7a4_14 ?_
  refine lv_iload_n hx hb dJ6_bitCount_0f7a4_15 rfl (lv_at hl 0 rfl) ?_
  refine lv_iconst (v := (2 : Int32)) hx hb dJ6_bitCount_0f7a4_16 (by decide) ?_
  refine lv_iushr hx hb dJ6_bitCount_0f7a4_17 rfl ?_
  refine lv_ldcw (v := (858993459 : Int32)) hx hb C.1.2.2.2.2.2.1 (C.1.2.2.2.2.2.2 _ (ws_in wd_940)) dJ6_bitCount_0f7a4_18 ?_
  refine lv_iand hx hb dJ6_bitCount_0f7a4_21 ?_
  refine lv_iadd hx hb dJ6_bitCount_0f7a4_22 ?_
  obtain ⟨v2, ev2, h⟩ := nm_s h
  refine tp_i ev2 ?_
  refine lv_istore_n (lv' := [(0, .int v2)]) hx hb dJ6_bitCount_0f7a4_23 rfl hl (by decide) rfl (fun ls hl => ?_)
  refine lv_iload_n hx hb dJ6_bitCount_0f7a4_24 rfl (lv_at hl 0 rfl) ?_
  refine lv_iload_n hx hb dJ6_bitCount_0f7a4_25 rfl (lv_at hl 0 rfl) ?_
  refine lv_iconst (v := (4 : Int32)) hx hb dJ6_bitCount_0f7a4_26 (by decide) ?_
  refine lv_iushr hx hb dJ6_bitCount_0f7a4_27 rfl ?_
  refine lv_iadd hx hb dJ6_bitCount_0f7a4_28 ?_
  refine lv_ldcw (v := (252645135 : Int32)) hx hb C.1.2.2.2.2.2.1 (C.1.2.2.2.2.2.2 _ (ws_in wd_941)) dJ6_bitCount_0f7a4_29 ?_
  refine lv_iand hx hb dJ6_bitCount_0f7a4_32 ?_
  obtain ⟨v3, ev3, h⟩ := nm_s h
  refine tp_i ev3 ?_
  refine lv_istore_n (lv' := [(0, .int v3)]) hx hb dJ6_bitCount_0f7a4_33 rfl hl (by decide) rfl (fun ls hl => ?_)
  refine lv_iload_n hx hb dJ6_bitCount_0f7a4_34 rfl (lv_at hl 0 rfl) ?_
  refine lv_iload_n hx hb dJ6_bitCount_0f7a4_35 rfl (lv_at hl 0 rfl) ?_
  refine lv_bipush (v := (8 : Int32)) hx hb dJ6_bitCount_0f7a4_36 (by decide) ?_
  refine lv_iushr hx hb dJ6_bitCount_0f7a4_38 rfl ?_
  refine lv_iadd hx hb dJ6_bitCount_0f7a4_39 ?_
  obtain ⟨v4, ev4, h⟩ := nm_s h
  refine tp_i ev4 ?_
  refine lv_istore_n (lv' := [(0, .int v4)]) hx hb dJ6_bitCount_0f7a4_40 rfl hl (by decide) rfl (fun ls hl => ?_)
  refine lv_iload_n hx hb dJ6_bitCount_0f7a4_41 rfl (lv_at hl 0 rfl) ?_
  refine lv_iload_n hx hb dJ6_bitCount_0f7a4_42 rfl (lv_at hl 0 rfl) ?_
  refine lv_bipush (v := (16 : Int32)) hx hb dJ6_bitCount_0f7a4_43 (by decide) ?_
  refine lv_iushr hx hb dJ6_bitCount_0f7a4_45 rfl ?_
  refine lv_iadd hx hb dJ6_bitCount_0f7a4_46 ?_
  obtain ⟨v5, ev5, h⟩ := nm_s h
  refine tp_i ev5 ?_
  refine lv_istore_n (lv' := [(0, .int v5)]) hx hb dJ6_bitCount_0f7a4_47 rfl hl (by decide) rfl (fun ls hl => ?_)
  refine lv_iload_n hx hb dJ6_bitCount_0f7a4_48 rfl (lv_at hl 0 rfl) ?_
  refine lv_bipush (v := (63 : Int32)) hx hb dJ6_bitCount_0f7a4_49 (by decide) ?_
  refine lv_iand hx hb dJ6_bitCount_0f7a4_51 ?_
  exact rt_i C X rfl (congrArg (fun z => (z, S)) (Option.some.inj h)) dJ6_bitCount_0f7a4_52
