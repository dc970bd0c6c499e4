def rmX9_within : Room := { frames := 0, cells := 0, slots := 0, locals := 0 }
def f_X9_within (a1 : Int32) (a2 : Int32) (a3 : Int32) : Option Int32 :=
  if a1 < a2 then (some ((0 : Int32))) else (if a3 < a1 then (some ((0 : Int32))) else (some ((1 : Int32))))
set_option maxHeartbeats 4000000 in
set_option maxRecDepth 100000 in
theorem c_X9_within (l : Launch) (g : GG) (ad : Nat → Nat) (S : ST) (sz : Nat) (a1 : Int32) (a2 : Int32) (a3 : Int32)  {res : Int32} (h : f_X9_within a1 a2 a3 = some res) : Met l yX9_within (WS (.code yX9_within cX9_within 3 (some Jvm.ClassFile.FieldType.boolean))) rmX9_within (va_Pc [.int a1, .int a2, .int a3] (PW kC g ad S sz)) (QI kC g ad (res, S) (AA kC ad sz)) 0 0 (AA kC ad sz) := by
  refine go_m (Qc := fun A => QI kC g ad (res, S) A) (by decide) (Nat.le_of_ble_eq_true rfl) (fun p e s m below meth c ls H locs C X hl => ?_)
  have hx := C.1.1
  have hb := C.1.2.1
  have hl : lv_has ls 3 [(0, .int a1), (1, .int a2), (2, .int a3)] := hl
  have h : (if a1 < a2 then (some ((0 : Int32))) else (if a3 < a1 then (some ((0 : Int32))) else (some ((1 : Int32)))) : Option Int32) = some res := h
  refine lv_iload_n hx hb dX9_within_0 rfl (lv_at hl 0 rfl) ?_
  refine lv_iload_n hx hb dX9_within_1 rfl (lv_at hl 1 rfl) ?_
  refine lv_icmp_lt (tgt := 14) hx hb dX9_within_2 (by decide) (fun c1 => ?_) (fun c1 => ?_)
  · have h := ip h c1
    refine lv_iconst (v := (0 : Int32)) hx hb dX9_within_14 (by decide) ?_
    exact rt_z C X rfl (by decide) (congrArg (fun z => (z, S)) (Option.some.inj h)) dX9_within_15
  · have h := inn h c1
    refine lv_iload_n hx hb dX9_within_5 rfl (lv_at hl 0 rfl) ?_
    refine lv_iload_n hx hb dX9_within_6 rfl (lv_at hl 2 rfl) ?_
    refine lv_icmp_gt (tgt := 14) hx hb dX9_within_7 (by decide) (fun c2 => ?_) (fun c2 => ?_)
    · have h := ip h c2
      refine lv_iconst (v := (0 : Int32)) hx hb dX9_within_14 (by decide) ?_
      exact rt_z C X rfl (by decide) (congrArg (fun z => (z, S)) (Option.some.inj h)) dX9_within_15
    · have h := inn h c2
      refine lv_iconst (v := (1 : Int32)) hx hb dX9_within_10 (by decide) ?_
      refine lv_goto (tgt := 15) hx hb dX9_within_11 (by decide) ?_
      exact rt_z C X rfl (by decide) (congrArg (fun z => (z, S)) (Option.some.inj h)) dX9_within_15

def rmX9_quotient : Room := { frames := 0, cells := 0, slots := 0, locals := 0 }
def f_X9_quotient (a1 : Int32) (a2 : Int32) : Option Int32 :=
  if a2 = 0 then (some ((0 : Int32))) else (chk (nz a2) (some (a1 / a2)))
set_option maxHeartbeats 4000000 in
set_option maxRecDepth 100000 in
theorem c_X9_quotient (l : Launch) (g : GG) (ad : Nat → Nat) (S : ST) (sz : Nat) (a1 : Int32) (a2 : Int32)  {res : Int32} (h : f_X9_quotient a1 a2 = some res) : Met l yX9_quotient (WS (.code yX9_quotient cX9_quotient 2 (some Jvm.ClassFile.FieldType.int))) rmX9_quotient (va_Pc [.int a1, .int a2] (PW kC g ad S sz)) (QI kC g ad (res, S) (AA kC ad sz)) 0 0 (AA kC ad sz) := by
  refine go_m (Qc := fun A => QI kC g ad (res, S) A) (by decide) (Nat.le_of_ble_eq_true rfl) (fun p e s m below meth c ls H locs C X hl => ?_)
  have hx := C.1.1
  have hb := C.1.2.1
  have hl : lv_has ls 2 [(0, .int a1), (1, .int a2)] := hl
  have h : (if a2 = 0 then (some ((0 : Int32))) else (chk (nz a2) (some (a1 / a2))) : Option Int32) = some res := h
  refine lv_iload_n hx hb dX9_quotient_0 rfl (lv_at hl 1 rfl) ?_
  refine lv_if_ne (tgt := 8) hx hb dX9_quotient_1 (by decide) (fun c1 => ?_) (fun c1 => ?_)
  · have h := inn h c1
    refine lv_iload_n hx hb dX9_quotient_8 rfl (lv_at hl 0 rfl) ?_
    refine lv_iload_n hx hb dX9_quotient_9 rfl (lv_at hl 1 rfl) ?_
    obtain ⟨k2, h⟩ := chk_s h
    refine lv_idiv hx hb dX9_quotient_10 (nz_ne k2) ?_
    exact rt_i C X rfl (congrArg (fun z => (z, S)) (Option.some.inj h)) dX9_quotient_11
  · have h := ip h c1
    refine lv_iconst (v := (0 : Int32)) hx hb dX9_quotient_4 (by decide) ?_
    refine lv_goto (tgt := 11) hx hb dX9_quotient_5 (by decide) ?_
    exact rt_i C X rfl (congrArg (fun z => (z, S)) (Option.some.inj h)) dX9_quotient_11

def rmX9_at : Room := { frames := 0, cells := 0, slots := 0, locals := 0 }
def f_X9_at (a1 : Nat) (a2 : Int32) (S : ST) : Option Int32 :=
  if a2 < 0 then (some ((0 : Int32))) else (if (Int32.ofNat (lnC a1)) ≤ a2 then (some ((0 : Int32))) else (chk (ib a2 (lnC a1)) (some (S.1 a1 a2.toNatClampNeg))))
set_option maxHeartbeats 4000000 in
set_option maxRecDepth 100000 in
theorem c_X9_at (l : Launch) (g : GG) (ad : Nat → Nat) (S : ST) (sz : Nat) (a1 : Nat) (a2 : Int32) (f1 : iaC a1 = true) {res : Int32} (h : f_X9_at a1 a2 S = some res) : Met l yX9_at (WS (.code yX9_at cX9_at 2 (some Jvm.ClassFile.FieldType.int))) rmX9_at (va_Pc [.ref (ad a1), .int a2] (PW kC g ad S sz)) (QI kC g ad (res, S) (AA kC ad sz)) 0 0 (AA kC ad sz) := by
  refine go_m (Qc := fun A => QI kC g ad (res, S) A) (by decide) (Nat.le_of_ble_eq_true rfl) (fun p e s m below meth c ls H locs C X hl => ?_)
  have hx := C.1.1
  have hb := C.1.2.1
  have hl : lv_has ls 2 [(0, .ref (ad a1)), (1, .int a2)] := hl
  have h : (if a2 < 0 then (some ((0 : Int32))) else (if (Int32.ofNat (lnC a1)) ≤ a2 then (some ((0 : Int32))) else (chk (ib a2 (lnC a1)) (some (S.1 a1 a2.toNatClampNeg)))) : Option Int32) = some res := h
  refine lv_iload_n hx hb dX9_at_0 rfl (lv_at hl 1 rfl) ?_
  refine lv_if_lt (tgt := 16) hx hb dX9_at_1 (by decide) (fun c1 => ?_) (fun c1 => ?_)
  · have h := ip h c1
    refine lv_iconst (v := (0 : Int32)) hx hb dX9_at_16 (by decide) ?_
    exact rt_i C X rfl (congrArg (fun z => (z, S)) (Option.some.inj h)) dX9_at_17
  · have h := inn h c1
    refine lv_iload_n hx hb dX9_at_4 rfl (lv_at hl 1 rfl) ?_
    refine lv_aload_n hx hb dX9_at_5 rfl (lv_at hl 0 rfl) ?_
    refine g_alen C X a1 0 (ltiaC f1) (eiaC g ad S f1) rfl (v := Int32.ofNat (lnC a1)) (by first | rfl | decide) dX9_at_6 ?_
    refine lv_icmp_ge (tgt := 16) hx hb dX9_at_7 (by decide) (fun c2 => ?_) (fun c2 => ?_)
    · have h := ip h c2
      refine lv_iconst (v := (0 : Int32)) hx hb dX9_at_16 (by decide) ?_
      exact rt_i C X rfl (congrArg (fun z => (z, S)) (Option.some.inj h)) dX9_at_17
    · have h := inn h c2
      refine lv_aload_n hx hb dX9_at_10 rfl (lv_at hl 0 rfl) ?_
      refine lv_iload_n hx hb dX9_at_11 rfl (lv_at hl 1 rfl) ?_
      obtain ⟨k3, h⟩ := chk_s h
      refine g_iald C X a1 (ltiaC f1) (eiaC g ad S f1) k3 dX9_at_12 ?_
      refine lv_goto (tgt := 17) hx hb dX9_at_13 (by decide) ?_
      exact rt_i C X rfl (congrArg (fun z => (z, S)) (Option.some.inj h)) dX9_at_17

def f_X9_ats (a1 : Nat) (a2 : Int32) : Option Int32 :=
  if a2 < 0 then (some ((0 : Int32))) else (if (Int32.ofNat (sal a1).length) ≤ a2 then (some ((0 : Int32))) else (chk (ib a2 ((sal a1).length)) (some ((sal a1).getD a2.toNatClampNeg 0))))
set_option maxHeartbeats 4000000 in
set_option maxRecDepth 100000 in
theorem c_X9_ats (l : Launch) (g : GG) (ad : Nat → Nat) (S : ST) (sz : Nat) (a1 : Nat) (a2 : Int32) (f1 : a1 < 8) {res : Int32} (h : f_X9_ats a1 a2 = some res) : Met l yX9_at (WS (.code yX9_at cX9_at 2 (some Jvm.ClassFile.FieldType.int))) rmX9_at (va_Pc [.ref (g.2.2.1 a1), .int a2] (PW kC g ad S sz)) (QI kC g ad (res, S) (AA kC ad sz)) 0 0 (AA kC ad sz) := by
  refine go_m (Qc := fun A => QI kC g ad (res, S) A) (by decide) (Nat.le_of_ble_eq_true rfl) (fun p e s m below meth c ls H locs C X hl => ?_)
  have hx := C.1.1
  have hb := C.1.2.1
  have hl : lv_has ls 2 [(0, .ref (g.2.2.1 a1)), (1, .int a2)] := hl
  have h : (if a2 < 0 then (some ((0 : Int32))) else (if (Int32.ofNat (sal a1).length) ≤ a2 then (some ((0 : Int32))) else (chk (ib a2 ((sal a1).length)) (some ((sal a1).getD a2.toNatClampNeg 0)))) : Option Int32) = some res := h
  refine lv_iload_n hx hb dX9_at_0 rfl (lv_at hl 1 rfl) ?_
  refine lv_if_lt (tgt := 16) hx hb dX9_at_1 (by decide) (fun c1 => ?_) (fun c1 => ?_)
  · have h := ip h c1
    refine lv_iconst (v := (0 : Int32)) hx hb dX9_at_16 (by decide) ?_
    exact rt_i C X rfl (congrArg (fun z => (z, S)) (Option.some.inj h)) dX9_at_17
  · have h := inn h c1
    refine lv_iload_n hx hb dX9_at_4 rfl (lv_at hl 1 rfl) ?_
    refine lv_aload_n hx hb dX9_at_5 rfl (lv_at hl 0 rfl) ?_
    refine g_slen C X a1 (sal_at f1) (v := Int32.ofNat (sal a1).length) rfl dX9_at_6 ?_
    refine lv_icmp_ge (tgt := 16) hx hb dX9_at_7 (by decide) (fun c2 => ?_) (fun c2 => ?_)
    · have h := ip h c2
      refine lv_iconst (v := (0 : Int32)) hx hb dX9_at_16 (by decide) ?_
      exact rt_i C X rfl (congrArg (fun z => (z, S)) (Option.some.inj h)) dX9_at_17
    · have h := inn h c2
      refine lv_aload_n hx hb dX9_at_10 rfl (lv_at hl 0 rfl) ?_
      refine lv_iload_n hx hb dX9_at_11 rfl (lv_at hl 1 rfl) ?_
      obtain ⟨k3, h⟩ := chk_s h
      refine g_sald C X a1 (sal_at f1) k3 dX9_at_12 ?_
      refine lv_goto (tgt := 17) hx hb dX9_at_13 (by decide) ?_
      exact rt_i C X rfl (congrArg (fun z => (z, S)) (Option.some.inj h)) dX9_at_17

def rmX9_put : Room := { frames := 0, cells := 0, slots := 0, locals := 0 }
def f_X9_put (a1 : Nat) (a2 : Int32) (a3 : Int32) (S : ST) : Option ST :=
  if a2 < 0 then (some S) else (if (Int32.ofNat (lnC a1)) ≤ a2 then (some S) else (chk (ib a2 (lnC a1)) (nm (su S a1 a2.toNatClampNeg a3) fun S4 => some S4)))
set_option maxHeartbeats 4000000 in
set_option maxRecDepth 100000 in
theorem c_X9_put (l : Launch) (g : GG) (ad : Nat → Nat) (S : ST) (sz : Nat) (a1 : Nat) (a2 : Int32) (a3 : Int32) (f1 : iaC a1 = true) {res : ST} (h : f_X9_put a1 a2 a3 S = some res) : Met l yX9_put (WS (.code yX9_put cX9_put 3 none)) rmX9_put (va_Pc [.ref (ad a1), .int a2, .int a3] (PW kC g ad S sz)) (QV kC g ad res (AA kC ad sz)) 0 0 (AA kC ad sz) := by
  refine go_m (Qc := fun A => QV kC g ad res A) (by decide) (Nat.le_of_ble_eq_true rfl) (fun p e s m below meth c ls H locs C X hl => ?_)
  have hx := C.1.1
  have hb := C.1.2.1
  have hl : lv_has ls 3 [(0, .ref (ad a1)), (1, .int a2), (2, .int a3)] := hl
  have h : (if a2 < 0 then (some S) else (if (Int32.ofNat (lnC a1)) ≤ a2 then (some S) else (chk (ib a2 (lnC a1)) (nm (su S a1 a2.toNatClampNeg a3) fun S4 => some S4))) : Option ST) = some res := h
  refine lv_iload_n hx hb dX9_put_0 rfl (lv_at hl 1 rfl) ?_
  refine lv_if_lt (tgt := 14) hx hb dX9_put_1 (by decide) (fun c1 => ?_) (fun c1 => ?_)
  · have h := ip h c1
    exact rt_v C X rfl (Option.some.inj h) dX9_put_14
  · have h := inn h c1
    refine lv_iload_n hx hb dX9_put_4 rfl (lv_at hl 1 rfl) ?_
    refine lv_aload_n hx hb dX9_put_5 rfl (lv_at hl 0 rfl) ?_
    refine g_alen C X a1 0 (ltiaC f1) (eiaC g ad S f1) rfl (v := Int32.ofNat (lnC a1)) (by first | rfl | decide) dX9_put_6 ?_
    refine lv_icmp_ge (tgt := 14) hx hb dX9_put_7 (by decide) (fun c2 => ?_) (fun c2 => ?_)
    · have h := ip h c2
      exact rt_v C X rfl (Option.some.inj h) dX9_put_14
    · have h := inn h c2
      refine lv_aload_n hx hb dX9_put_10 rfl (lv_at hl 0 rfl) ?_
      refine lv_iload_n hx hb dX9_put_11 rfl (lv_at hl 1 rfl) ?_
      refine lv_iload_n hx hb dX9_put_12 rfl (lv_at hl 2 rfl) ?_
      obtain ⟨k3, h⟩ := chk_s h
      obtain ⟨S4, eS4, h⟩ := nm_s h
      refine g_iast (S' := S4) C X a1 (ltiaC f1) (eiaC g ad S f1) k3 (by subst eS4; rw [eiaC g ad _ f1, su_k]) (by subst eS4; exact fun i hi => ent_offu hi) dX9_put_13 (fun H locs X => ?_)
      exact rt_v C X rfl (Option.some.inj h) dX9_put_14

def rmX9_sizeOf : Room := { frames := 0, cells := 0, slots := 0, locals := 0 }
def f_X9_sizeOf (a1 : Int32) : Option Int32 :=
  if a1 < ((-1800 : Int32)) then (some ((1800 : Int32))) else (if a1 ≤ ((1800 : Int32)) then (if 0 ≤ a1 then (some a1) else (some (-a1))) else (some ((1800 : Int32))))
set_option maxHeartbeats 4000000 in
set_option maxRecDepth 100000 in
theorem c_X9_sizeOf (l : Launch) (g : GG) (ad : Nat → Nat) (S : ST) (sz : Nat) (a1 : Int32)  {res : Int32} (h : f_X9_sizeOf a1 = some res) : Met l yX9_sizeOf (WS (.code yX9_sizeOf cX9_sizeOf 1 (some Jvm.ClassFile.FieldType.int))) rmX9_sizeOf (va_Pc [.int a1] (PW kC g ad S sz)) (QI kC g ad (res, S) (AA kC ad sz)) 0 0 (AA kC ad sz) := by
  refine go_m (Qc := fun A => QI kC g ad (res, S) A) (by decide) (Nat.le_of_ble_eq_true rfl) (fun p e s m below meth c ls H locs C X hl => ?_)
  have hx := C.1.1
  have hb := C.1.2.1
  have hl : lv_has ls 1 [(0, .int a1)] := hl
  have h : (if a1 < ((-1800 : Int32)) then (some ((1800 : Int32))) else (if a1 ≤ ((1800 : Int32)) then (if 0 ≤ a1 then (some a1) else (some (-a1))) else (some ((1800 : Int32)))) : Option Int32) = some res := h
  refine lv_iload_n hx hb dX9_sizeOf_0 rfl (lv_at hl 0 rfl) ?_
  refine lv_sipush (v := (-1800 : Int32)) hx hb dX9_sizeOf_1 (by decide) ?_
  refine lv_icmp_lt (tgt := 14) hx hb dX9_sizeOf_4 (by decide) (fun c1 => ?_) (fun c1 => ?_)
  · have h := ip h c1
    refine lv_sipush (v := (1800 : Int32)) hx hb dX9_sizeOf_14 (by decide) ?_
    exact rt_i C X rfl (congrArg (fun z => (z, S)) (Option.some.inj h)) dX9_sizeOf_17
  · have h := inn h c1
    refine lv_iload_n hx hb dX9_sizeOf_7 rfl (lv_at hl 0 rfl) ?_
    refine lv_sipush (v := (1800 : Int32)) hx hb dX9_sizeOf_8 (by decide) ?_
    refine lv_icmp_le (tgt := 18) hx hb dX9_sizeOf_11 (by decide) (fun c2 => ?_) (fun c2 => ?_)
    · have h := ip h c2
      refine lv_iload_n hx hb dX9_sizeOf_18 rfl (lv_at hl 0 rfl) ?_
      refine lv_if_ge (tgt := 27) hx hb dX9_sizeOf_19 (by decide) (fun c3 => ?_) (fun c3 => ?_)
      · have h := ip h c3
        refine lv_iload_n hx hb dX9_sizeOf_27 rfl (lv_at hl 0 rfl) ?_
        exact rt_i C X rfl (congrArg (fun z => (z, S)) (Option.some.inj h)) dX9_sizeOf_28
      · have h := inn h c3
        refine lv_iload_n hx hb dX9_sizeOf_22 rfl (lv_at hl 0 rfl) ?_
        refine lv_ineg hx hb dX9_sizeOf_23 ?_
        refine lv_goto (tgt := 28) hx hb dX9_sizeOf_24 (by decide) ?_
        exact rt_i C X rfl (congrArg (fun z => (z, S)) (Option.some.inj h)) dX9_sizeOf_28
    · have h := inn h c2
      refine lv_sipush (v := (1800 : Int32)) hx hb dX9_sizeOf_14 (by decide) ?_
      exact rt_i C X rfl (congrArg (fun z => (z, S)) (Option.some.inj h)) dX9_sizeOf_17

def rmX9_sineOf : Room := { frames := 1, cells := 0, slots := 0, locals := 20 }
def f_X9_sineOf (a1 : Int32) : Option Int32 :=
  bn1 (f_X9_sizeOf a1) fun r1 => nm (r1.toInt64) fun v2 => nm (v2 * (((1800 : Int64)) - v2)) fun v3 => nm (((4050000 : Int64)) - v3) fun v4 => if (lg_cmp v4 ((0 : Int64))) = 0 then (some ((0 : Int32))) else (chk (nzl v4) (nm (((((4000 : Int64)) * v3) / v4).toInt32) fun v7 => if 0 ≤ a1 then (some v7) else (some (-v7))))
set_option maxHeartbeats 4000000 in
set_option maxRecDepth 100000 in
theorem c_X9_sineOf (l : Launch) (g : GG) (ad : Nat → Nat) (S : ST) (sz : Nat) (a1 : Int32)  {res : Int32} (h : f_X9_sineOf a1 = some res) : Met l yX9_sineOf (WS (.code yX9_sineOf cX9_sineOf 8 (some Jvm.ClassFile.FieldType.int))) rmX9_sineOf (va_Pc [.int a1] (PW kC g ad S sz)) (QI kC g ad (res, S) (AA kC ad sz)) 0 0 (AA kC ad sz) := by
  refine go_m (Qc := fun A => QI kC g ad (res, S) A) (by decide) (Nat.le_of_ble_eq_true rfl) (fun p e s m below meth c ls H locs C X hl => ?_)
  have hx := C.1.1
  have hb := C.1.2.1
  have hl : lv_has ls 8 [(0, .int a1)] := hl
  have h : (bn1 (f_X9_sizeOf a1) fun r1 => nm (r1.toInt64) fun v2 => nm (v2 * (((1800 : Int64)) - v2)) fun v3 => nm (((4050000 : Int64)) - v3) fun v4 => if (lg_cmp v4 ((0 : Int64))) = 0 then (some ((0 : Int32))) else (chk (nzl v4) (nm (((((4000 : Int64)) * v3) / v4).toInt32) fun v7 => if 0 ≤ a1 then (some v7) else (some (-v7)))) : Option Int32) = some res := h
  refine lv_iload_n hx hb dX9_sineOf_0 rfl (lv_at hl 0 rfl) ?_
  obtain ⟨r1, qr1, h⟩ := bn1_s h
  refine kc_i X (res := (r1, S)) (rS (As := [.int a1]) (rest := []) (n := 1) C X (c_X9_sizeOf l g ad S _ a1  qr1) wd_712 wd_713 wd_70 wd_714 rfl rfl (by decide +kernel) ⟨Nat.le_of_ble_eq_true rfl, Nat.le_of_ble_eq_true rfl⟩ rfl hl.1 (lv_room (Nat.le_of_ble_eq_true rfl)) dX9_sineOf_1) (fun H locs X => ?_)
  refine lv_i2l hx hb dX9_sineOf_4 rfl ?_
  obtain ⟨v2, ev2, h⟩ := nm_s h
  refine tp_l ev2 ?_
  refine lv_lstore_n (lv' := [(1, .long v2), (0, .int a1)]) hx hb dX9_sineOf_5 rfl hl (by decide) rfl (fun ls hl => ?_)
  refine lv_lload_n hx hb dX9_sineOf_6 rfl (lv_at hl 0 rfl) ?_
  refine lv_ldc2 (v := (1800 : Int64)) hx hb C.1.2.2.2.2.2.1 (C.1.2.2.2.2.2.2 _ (ws_in wd_715)) dX9_sineOf_7 ?_
  refine lv_lload_n hx hb dX9_sineOf_10 rfl (lv_at hl 0 rfl) ?_
  refine lv_lsub hx hb dX9_sineOf_11 ?_
  refine lv_lmul hx hb dX9_sineOf_12 ?_
  obtain ⟨v3, ev3, h⟩ := nm_s h
  refine tp_l ev3 ?_
  refine lv_lstore_n (lv' := [(3, .long v3), (1, .long v2), (0, .int a1)]) hx hb dX9_sineOf_13 rfl hl (by decide) rfl (fun ls hl => ?_)
  refine lv_ldc2 (v := (4050000 : Int64)) hx hb C.1.2.2.2.2.2.1 (C.1.2.2.2.2.2.2 _ (ws_in wd_716)) dX9_sineOf_14 ?_
  refine lv_lload_n hx hb dX9_sineOf_17 rfl (lv_at hl 0 rfl) ?_
  refine lv_lsub hx hb dX9_sineOf_18 ?_
  obtain ⟨v4, ev4, h⟩ := nm_s h
  refine tp_l ev4 ?_
  refine lv_lstore (lv' := [(5, .long v4), (3, .long v3), (1, .long v2), (0, .int a1)]) hx hb dX9_sineOf_19 hl (by decide) rfl (fun ls hl => ?_)
  refine lv_lload hx hb dX9_sineOf_21 (lv_at hl 0 rfl) ?_
  refine lv_lconst (v := (0 : Int64)) hx hb dX9_sineOf_23 (by decide) ?_
  refine W.lcmp hx hb dX9_sineOf_24 ?_
  refine lv_if_ne (tgt := 30) hx hb dX9_sineOf_25 (by decide) (fun c5 => ?_) (fun c5 => ?_)
  · have h := inn h c5
    refine lv_ldc2 (v := (4000 : Int64)) hx hb C.1.2.2.2.2.2.1 (C.1.2.2.2.2.2.2 _ (ws_in wd_717)) dX9_sineOf_30 ?_
    refine lv_lload_n hx hb dX9_sineOf_33 rfl (lv_at hl 1 rfl) ?_
    refine lv_lmul hx hb dX9_sineOf_34 ?_
    refine lv_lload hx hb dX9_sineOf_35 (lv_at hl 0 rfl) ?_
    obtain ⟨k6, h⟩ := chk_s h
    refine lv_ldiv hx hb dX9_sineOf_37 (nzl_ne k6) ?_
    refine lv_l2i hx hb dX9_sineOf_38 rfl ?_
    obtain ⟨v7, ev7, h⟩ := nm_s h
    refine tp_i ev7 ?_
    refine lv_istore (lv' := [(7, .int v7), (5, .long v4), (3, .long v3), (1, .long v2), (0, .int a1)]) hx hb dX9_sineOf_39 hl (by decide) rfl (fun ls hl => ?_)
    refine lv_iload_n hx hb dX9_sineOf_41 rfl (lv_at hl 4 rfl) ?_
    refine lv_if_ge (tgt := 51) hx hb dX9_sineOf_42 (by decide) (fun c8 => ?_) (fun c8 => ?_)
    · have h := ip h c8
      refine lv_iload hx hb dX9_sineOf_51 (lv_at hl 0 rfl) ?_
      exact rt_i C X rfl (congrArg (fun z => (z, S)) (Option.some.inj h)) dX9_sineOf_53
    · have h := inn h c8
      refine lv_iload hx hb dX9_sineOf_45 (lv_at hl 0 rfl) ?_
      refine lv_ineg hx hb dX9_sineOf_47 ?_
      refine lv_goto (tgt := 53) hx hb dX9_sineOf_48 (by decide) ?_
      exact rt_i C X rfl (congrArg (fun z => (z, S)) (Option.some.inj h)) dX9_sineOf_53
  · have h := ip h c5
    refine lv_iconst (v := (0 : Int32)) hx hb dX9_sineOf_28 (by decide) ?_
    exact rt_i C X rfl (congrArg (fun z => (z, S)) (Option.some.inj h)) dX9_sineOf_29

def rmX9_isGood : Room := { frames := 0, cells := 0, slots := 0, locals := 0 }
def f_X9_isGood (a1 : Int32) : Option Int32 :=
  if a1 = ((1 : Int32)) then (some ((1 : Int32))) else (if a1 = ((2 : Int32)) then (some ((1 : Int32))) else (some ((0 : Int32))))
set_option maxHeartbeats 4000000 in
set_option maxRecDepth 100000 in
theorem c_X9_isGood (l : Launch) (g : GG) (ad : Nat → Nat) (S : ST) (sz : Nat) (a1 : Int32)  {res : Int32} (h : f_X9_isGood a1 = some res) : Met l yX9_isGood (WS (.code yX9_isGood cX9_isGood 1 (some Jvm.ClassFile.FieldType.boolean))) rmX9_isGood (va_Pc [.int a1] (PW kC g ad S sz)) (QI kC g ad (res, S) (AA kC ad sz)) 0 0 (AA kC ad sz) := by
  refine go_m (Qc := fun A => QI kC g ad (res, S) A) (by decide) (Nat.le_of_ble_eq_true rfl) (fun p e s m below meth c ls H locs C X hl => ?_)
  have hx := C.1.1
  have hb := C.1.2.1
  have hl : lv_has ls 1 [(0, .int a1)] := hl
  have h : (if a1 = ((1 : Int32)) then (some ((1 : Int32))) else (if a1 = ((2 : Int32)) then (some ((1 : Int32))) else (some ((0 : Int32)))) : Option Int32) = some res := h
  refine lv_iload_n hx hb dX9_isGood_0 rfl (lv_at hl 0 rfl) ?_
  refine lv_iconst (v := (1 : Int32)) hx hb dX9_isGood_1 (by decide) ?_
  refine lv_icmp_eq (tgt := 10) hx hb dX9_isGood_2 (by decide) (fun c1 => ?_) (fun c1 => ?_)
  · have h := ip h c1
    refine lv_iconst (v := (1 : Int32)) hx hb dX9_isGood_10 (by decide) ?_
    refine lv_goto (tgt := 15) hx hb dX9_isGood_11 (by decide) ?_
    exact rt_z C X rfl (by decide) (congrArg (fun z => (z, S)) (Option.some.inj h)) dX9_isGood_15
  · have h := inn h c1
    refine lv_iload_n hx hb dX9_isGood_5 rfl (lv_at hl 0 rfl) ?_
    refine lv_iconst (v := (2 : Int32)) hx hb dX9_isGood_6 (by decide) ?_
    refine lv_icmp_ne (tgt := 14) hx hb dX9_isGood_7 (by decide) (fun c2 => ?_) (fun c2 => ?_)
    · have h := inn h c2
      refine lv_iconst (v := (0 : Int32)) hx hb dX9_isGood_14 (by decide) ?_
      exact rt_z C X rfl (by decide) (congrArg (fun z => (z, S)) (Option.some.inj h)) dX9_isGood_15
    · have h := ip h c2
      refine lv_iconst (v := (1 : Int32)) hx hb dX9_isGood_10 (by decide) ?_
      refine lv_goto (tgt := 15) hx hb dX9_isGood_11 (by decide) ?_
      exact rt_z C X rfl (by decide) (congrArg (fun z => (z, S)) (Option.some.inj h)) dX9_isGood_15

def rmX6_number : Room := { frames := 1, cells := 0, slots := 0, locals := 21 }
def f_X6_number (a1 : Nat) (a2 : Int32) (S : ST) : Option Int32 :=
  bn1 (f_X9_at (a1 + 1) a2 S) fun r1 => some r1
set_option maxHeartbeats 4000000 in
set_option maxRecDepth 100000 in
theorem c_X6_number (l : Launch) (g : GG) (ad : Nat → Nat) (S : ST) (sz : Nat) (a1 : Nat) (a2 : Int32) (f1 : swk a1 = true) {res : Int32} (h : f_X6_number a1 a2 S = some res) : Met l yX6_number (WS (.code yX6_number cX6_number 2 (some Jvm.ClassFile.FieldType.int))) rmX6_number (va_Pc [.ref (ad a1), .int a2] (PW kC g ad S sz)) (QI kC g ad (res, S) (AA kC ad sz)) 0 0 (AA kC ad sz) := by
  refine go_m (Qc := fun A => QI kC g ad (res, S) A) (by decide) (Nat.le_of_ble_eq_true rfl) (fun p e s m below meth c ls H locs C X hl => ?_)
  have hx := C.1.1
  have hb := C.1.2.1
  have hl : lv_has ls 2 [(0, .ref (ad a1)), (1, .int a2)] := hl
  have h : (bn1 (f_X9_at (a1 + 1) a2 S) fun r1 => some r1 : Option Int32) = some res := h
  refine lv_aload_n hx hb dX6_number_0 rfl (lv_at hl 0 rfl) ?_
  refine g_get C X inT6 a1 (lt_sw f1) (e_sw g ad S f1) rfl 0 (by decide) wd_187 (v := .ref (ad (a1 + 1))) rfl dX6_number_1 ?_
  refine lv_iload_n hx hb dX6_number_4 rfl (lv_at hl 1 rfl) ?_
  obtain ⟨r1, qr1, h⟩ := bn1_s h
  refine kc_i X (res := (r1, S)) (rSN (As := [.ref (ad (a1 + 1)), .int a2]) (rest := []) (n := 2) C X (c_X9_at l g ad S _ (a1 + 1) a2 (ia_sw_1 f1) qr1) nw_625 wd_576 wd_70 wd_577 rfl rfl (by decide +kernel) ⟨Nat.le_of_ble_eq_true rfl, Nat.le_of_ble_eq_true rfl⟩ rfl hl.1 (lv_room (Nat.le_of_ble_eq_true rfl)) dX6_number_5) (fun H locs X => ?_)
  exact rt_i C X rfl (congrArg (fun z => (z, S)) (Option.some.inj h)) dX6_number_8

def rmX6_least : Room := { frames := 1, cells := 0, slots := 0, locals := 21 }
def f_X6_least (a1 : Int32) (S : ST) : Option Int32 :=
  bn1 (f_X9_ats 5 a1) fun r1 => some r1
set_option maxHeartbeats 4000000 in
set_option maxRecDepth 100000 in
theorem c_X6_least (l : Launch) (g : GG) (ad : Nat → Nat) (S : ST) (sz : Nat) (a1 : Int32)  {res : Int32} (h : f_X6_least a1 S = some res) : Met l yX6_least (WS (.code yX6_least cX6_least 1 (some Jvm.ClassFile.FieldType.int))) rmX6_least (va_Pc [.int a1] (PW kC g ad S sz)) (QI kC g ad (res, S) (AA kC ad sz)) 0 0 (AA kC ad sz) := by
  refine go_m (Qc := fun A => QI kC g ad (res, S) A) (by decide) (Nat.le_of_ble_eq_true rfl) (fun p e s m below meth c ls H locs C X hl => ?_)
  have hx := C.1.1
  have hb := C.1.2.1
  have hl : lv_has ls 1 [(0, .int a1)] := hl
  have h : (bn1 (f_X9_ats 5 a1) fun r1 => some r1 : Option Int32) = some res := h
  refine g_gets C X 5 rfl wd_623 dX6_least_0 ?_
  refine lv_iload_n hx hb dX6_least_3 rfl (lv_at hl 0 rfl) ?_
  obtain ⟨r1, qr1, h⟩ := bn1_s h
  refine kc_i X (res := (r1, S)) (rSN (As := [.ref (g.2.2.1 5), .int a1]) (rest := []) (n := 2) C X (c_X9_ats l g ad S _ 5 a1 (by decide) qr1) nw_625 wd_576 wd_70 wd_577 rfl rfl (by decide +kernel) ⟨Nat.le_of_ble_eq_true rfl, Nat.le_of_ble_eq_true rfl⟩ rfl hl.1 (lv_room (Nat.le_of_ble_eq_true rfl)) dX6_least_4) (fun H locs X => ?_)
  exact rt_i C X rfl (congrArg (fun z => (z, S)) (Option.some.inj h)) dX6_least_7

def rmX2_begin : Room := { frames := 1, cells := 0, slots := 0, locals := 21 }
def f_X2_begin (a1 : Nat) (a2 : Int32) (a3 : Int32) (a4 : Int32) (S : ST) : Option ST :=
  nm (su S a1 0 a2) fun S1 => nm (su S1 a1 1 (((-1000 : Int32)) * a3)) fun S2 => bn1 (f_X9_quotient (((2865 : Int32)) * a4) (S2.1 a1 0)) fun r3 => nm (su S2 a1 2 r3) fun S4 => some S4
set_option maxHeartbeats 4000000 in
set_option maxRecDepth 100000 in
theorem c_X2_begin (l : Launch) (g : GG) (ad : Nat → Nat) (S : ST) (sz : Nat) (a1 : Nat) (a2 : Int32) (a3 : Int32) (a4 : Int32) (f1 : pdk a1 = true) {res : ST} (h : f_X2_begin a1 a2 a3 a4 S = some res) : Met l yX2_begin (WS (.code yX2_begin cX2_begin 4 none)) rmX2_begin (va_Pc [.ref (ad a1), .int a2, .int a3, .int a4] (PW kC g ad S sz)) (QV kC g ad res (AA kC ad sz)) 0 0 (AA kC ad sz) := by
  refine go_m (Qc := fun A => QV kC g ad res A) (by decide) (Nat.le_of_ble_eq_true rfl) (fun p e s m below meth c ls H locs C X hl => ?_)
  have hx := C.1.1
  have hb := C.1.2.1
  have hl : lv_has ls 4 [(0, .ref (ad a1)), (1, .int a2), (2, .int a3), (3, .int a4)] := hl
  have h : (nm (su S a1 0 a2) fun S1 => nm (su S1 a1 1 (((-1000 : Int32)) * a3)) fun S2 => bn1 (f_X9_quotient (((2865 : Int32)) * a4) (S2.1 a1 0)) fun r3 => nm (su S2 a1 2 r3) fun S4 => some S4 : Option ST) = some res := h
  refine lv_aload_n hx hb dX2_begin_0 rfl (lv_at hl 0 rfl) ?_
  refine lv_iload_n hx hb dX2_begin_1 rfl (lv_at hl 1 rfl) ?_
  obtain ⟨S1, eS1, h⟩ := nm_s h
  refine g_put (S' := S1) C X inT2 tyX2 tyX2_ok nmX2 a1 (lt_pd f1) (e_pd g ad S f1) rfl 0 (by decide) wd_219 rfl (by rfl) rfl (Nat.le_of_ble_eq_true rfl) (by subst eS1; rw [e_pd g ad _ f1, su_k]; rfl) (by subst eS1; exact fun i hi => ent_offu hi) dX2_begin_2 (fun H locs X => ?_)
  refine lv_aload_n hx hb dX2_begin_5 rfl (lv_at hl 0 rfl) ?_
  refine lv_sipush (v := (-1000 : Int32)) hx hb dX2_begin_6 (by decide) ?_
  refine lv_iload_n hx hb dX2_begin_9 rfl (lv_at hl 2 rfl) ?_
  refine lv_imul hx hb dX2_begin_10 ?_
  obtain ⟨S2, eS2, h⟩ := nm_s h
  refine g_put (S' := S2) C X inT2 tyX2 tyX2_ok nmX2 a1 (lt_pd f1) (e_pd g ad S1 f1) rfl 1 (by decide) wd_220 rfl (by rfl) rfl (Nat.le_of_ble_eq_true rfl) (by subst eS2; rw [e_pd g ad _ f1, su_k]; rfl) (by subst eS2; exact fun i hi => ent_offu hi) dX2_begin_11 (fun H locs X => ?_)
  refine lv_aload_n hx hb dX2_begin_14 rfl (lv_at hl 0 rfl) ?_
  refine lv_sipush (v := (2865 : Int32)) hx hb dX2_begin_15 (by decide) ?_
  refine lv_iload_n hx hb dX2_begin_18 rfl (lv_at hl 3 rfl) ?_
  refine lv_imul hx hb dX2_begin_19 ?_
  refine lv_aload_n hx hb dX2_begin_20 rfl (lv_at hl 0 rfl) ?_
  refine g_get C X inT2 a1 (lt_pd f1) (e_pd g ad S2 f1) rfl 0 (by decide) wd_219 (v := .int (S2.1 a1 0)) rfl dX2_begin_21 ?_
  obtain ⟨r3, qr3, h⟩ := bn1_s h
  refine kc_i X (res := (r3, S2)) (rSN (As := [.int (((2865 : Int32)) * a4), .int (S2.1 a1 0)]) (rest := [.ref (ad a1)]) (n := 2) C X (c_X9_quotient l g ad S2 _ (((2865 : Int32)) * a4) (S2.1 a1 0)  qr3) nw_734 wd_735 wd_70 wd_736 rfl rfl (by decide +kernel) ⟨Nat.le_of_ble_eq_true rfl, Nat.le_of_ble_eq_true rfl⟩ rfl hl.1 (lv_room (Nat.le_of_ble_eq_true rfl)) dX2_begin_24) (fun H locs X => ?_)
  obtain ⟨S4, eS4, h⟩ := nm_s h
  refine g_put (S' := S4) C X inT2 tyX2 tyX2_ok nmX2 a1 (lt_pd f1) (e_pd g ad S2 f1) rfl 2 (by decide) wd_223 rfl (by rfl) rfl (Nat.le_of_ble_eq_true rfl) (by subst eS4; rw [e_pd g ad _ f1, su_k]; rfl) (by subst eS4; exact fun i hi => ent_offu hi) dX2_begin_27 (fun H locs X => ?_)
  exact rt_v C X rfl (Option.some.inj h) dX2_begin_30

def rmX2_swing : Room := { frames := 2, cells := 0, slots := 0, locals := 47 }
def f_X2_swing (a1 : Nat) (S : ST) : Option ST :=
  bn1 (f_X9_sineOf ((S.1 a1 1) / ((100 : Int32)))) fun r1 => bn1 (f_X9_quotient (((140 : Int32)) * r1) (S.1 a1 0)) fun r2 => nm (su S a1 2 ((S.1 a1 2) - r2)) fun S3 => nm (su S3 a1 1 ((S3.1 a1 1) + (S3.1 a1 2))) fun S4 => some S4
set_option maxHeartbeats 4000000 in
set_option maxRecDepth 100000 in
theorem c_X2_swing (l : Launch) (g : GG) (ad : Nat → Nat) (S : ST) (sz : Nat) (a1 : Nat) (f1 : pdk a1 = true) {res : ST} (h : f_X2_swing a1 S = some res) : Met l yX2_swing (WS (.code yX2_swing cX2_swing 1 none)) rmX2_swing (va_Pc [.ref (ad a1)] (PW kC g ad S sz)) (QV kC g ad res (AA kC ad sz)) 0 0 (AA kC ad sz) := by
  refine go_m (Qc := fun A => QV kC g ad res A) (by decide) (Nat.le_of_ble_eq_true rfl) (fun p e s m below meth c ls H locs C X hl => ?_)
  have hx := C.1.1
  have hb := C.1.2.1
  have hl : lv_has ls 1 [(0, .ref (ad a1))] := hl
  have h : (bn1 (f_X9_sineOf ((S.1 a1 1) / ((100 : Int32)))) fun r1 => bn1 (f_X9_quotient (((140 : Int32)) * r1) (S.1 a1 0)) fun r2 => nm (su S a1 2 ((S.1 a1 2) - r2)) fun S3 => nm (su S3 a1 1 ((S3.1 a1 1) + (S3.1 a1 2))) fun S4 => some S4 : Option ST) = some res := h
  refine lv_aload_n hx hb dX2_swing_0 rfl (lv_at hl 0 rfl) ?_
  refine lv_dup hx hb dX2_swing_1 rfl ?_
  refine g_get C X inT2 a1 (lt_pd f1) (e_pd g ad S f1) rfl 2 (by decide) wd_223 (v := .int (S.1 a1 2)) rfl dX2_swing_2 ?_
  refine lv_sipush (v := (140 : Int32)) hx hb dX2_swing_5 (by decide) ?_
  refine lv_aload_n hx hb dX2_swing_8 rfl (lv_at hl 0 rfl) ?_
  refine g_get C X inT2 a1 (lt_pd f1) (e_pd g ad S f1) rfl 1 (by decide) wd_220 (v := .int (S.1 a1 1)) rfl dX2_swing_9 ?_
  refine lv_bipush (v := (100 : Int32)) hx hb dX2_swing_12 (by decide) ?_
  refine lv_idiv hx hb dX2_swing_14 (by decide) ?_
  obtain ⟨r1, qr1, h⟩ := bn1_s h
  refine kc_i X (res := (r1, S)) (rSN (As := [.int ((S.1 a1 1) / ((100 : Int32)))]) (rest := [.int ((140 : Int32)), .int (S.1 a1 2), .ref (ad a1)]) (n := 1) C X (c_X9_sineOf l g ad S _ ((S.1 a1 1) / ((100 : Int32)))  qr1) nw_749 wd_710 wd_70 wd_711 rfl rfl (by decide +kernel) ⟨Nat.le_of_ble_eq_true rfl, Nat.le_of_ble_eq_true rfl⟩ rfl hl.1 (lv_room (Nat.le_of_ble_eq_true rfl)) dX2_swing_15) (fun H locs X => ?_)
  refine lv_imul hx hb dX2_swing_18 ?_
  refine lv_aload_n hx hb dX2_swing_19 rfl (lv_at hl 0 rfl) ?_
  refine g_get C X inT2 a1 (lt_pd f1) (e_pd g ad S f1) rfl 0 (by decide) wd_219 (v := .int (S.1 a1 0)) rfl dX2_swing_20 ?_
  obtain ⟨r2, qr2, h⟩ := bn1_s h
  refine kc_i X (res := (r2, S)) (rSN (As := [.int (((140 : Int32)) * r1), .int (S.1 a1 0)]) (rest := [.int (S.1 a1 2), .ref (ad a1)]) (n := 2) C X (c_X9_quotient l g ad S _ (((140 : Int32)) * r1) (S.1 a1 0)  qr2) nw_734 wd_735 wd_70 wd_736 rfl rfl (by decide +kernel) ⟨Nat.le_of_ble_eq_true rfl, Nat.le_of_ble_eq_true rfl⟩ rfl hl.1 (lv_room (Nat.le_of_ble_eq_true rfl)) dX2_swing_23) (fun H locs X => ?_)
  refine lv_isub hx hb dX2_swing_26 ?_
  obtain ⟨S3, eS3, h⟩ := nm_s h
  refine g_put (S' := S3) C X inT2 tyX2 tyX2_ok nmX2 a1 (lt_pd f1) (e_pd g ad S f1) rfl 2 (by decide) wd_223 rfl (by rfl) rfl (Nat.le_of_ble_eq_true rfl) (by subst eS3; rw [e_pd g ad _ f1, su_k]; rfl) (by subst eS3; exact fun i hi => ent_offu hi) dX2_swing_27 (fun H locs X => ?_)
  refine lv_aload_n hx hb dX2_swing_30 rfl (lv_at hl 0 rfl) ?_
  refine lv_dup hx hb dX2_swing_31 rfl ?_
  refine g_get C X inT2 a1 (lt_pd f1) (e_pd g ad S3 f1) rfl 1 (by decide) wd_220 (v := .int (S3.1 a1 1)) rfl dX2_swing_32 ?_
  refine lv_aload_n hx hb dX2_swing_35 rfl (lv_at hl 0 rfl) ?_
  refine g_get C X inT2 a1 (lt_pd f1) (e_pd g ad S3 f1) rfl 2 (by decide) wd_223 (v := .int (S3.1 a1 2)) rfl dX2_swing_36 ?_
  refine lv_iadd hx hb dX2_swing_39 ?_
  obtain ⟨S4, eS4, h⟩ := nm_s h
  refine g_put (S' := S4) C X inT2 tyX2 tyX2_ok nmX2 a1 (lt_pd f1) (e_pd g ad S3 f1) rfl 1 (by decide) wd_220 rfl (by rfl) rfl (Nat.le_of_ble_eq_true rfl) (by subst eS4; rw [e_pd g ad _ f1, su_k]; rfl) (by subst eS4; exact fun i hi => ent_offu hi) dX2_swing_40 (fun H locs X => ?_)
  exact rt_v C X rfl (Option.some.inj h) dX2_swing_43

def rmX7_length : Room := { frames := 0, cells := 0, slots := 0, locals := 0 }
def f_X7_length  (S : ST) : Option Int32 :=
  some (S.1 1 1)
set_option maxHeartbeats 4000000 in
set_option maxRecDepth 100000 in
theorem c_X7_length (l : Launch) (g : GG) (ad : Nat → Nat) (S : ST) (sz : Nat)   {res : Int32} (h : f_X7_length S = some res) : Met l yX7_length (WS (.code yX7_length cX7_length 1 (some Jvm.ClassFile.FieldType.int))) rmX7_length (va_Pc [.ref (ad 1)] (PW kC g ad S sz)) (QI kC g ad (res, S) (AA kC ad sz)) 0 0 (AA kC ad sz) := by
  refine go_m (Qc := fun A => QI kC g ad (res, S) A) (by decide) (Nat.le_of_ble_eq_true rfl) (fun p e s m below meth c ls H locs C X hl => ?_)
  have hx := C.1.1
  have hb := C.1.2.1
  have hl : lv_has ls 1 [(0, .ref (ad 1))] := hl
  have h : (some (S.1 1 1) : Option Int32) = some res := h
  refine lv_aload_n hx hb dX7_length_0 rfl (lv_at hl 0 rfl) ?_
  refine g_get C X inT7 1 (by decide) (eC_1 g ad S) rfl 1 (by decide) wd_104 (v := .int (S.1 1 1)) rfl dX7_length_1 ?_
  exact rt_i C X rfl (congrArg (fun z => (z, S)) (Option.some.inj h)) dX7_length_4

def rmX7_add : Room := { frames := 1, cells := 0, slots := 0, locals := 22 }
def f_X7_add (a1 : Int32) (S : ST) : Option ST :=
  if ((300 : Int32)) ≤ (S.1 1 1) then (some S) else (bn1 (f_X9_put 2 (S.1 1 1) a1 S) fun S2 => nm (su S2 1 1 ((S2.1 1 1) + ((1 : Int32)))) fun S3 => some S3)
set_option maxHeartbeats 4000000 in
set_option maxRecDepth 100000 in
theorem c_X7_add (l : Launch) (g : GG) (ad : Nat → Nat) (S : ST) (sz : Nat) (a1 : Int32)  {res : ST} (h : f_X7_add a1 S = some res) : Met l yX7_add (WS (.code yX7_add cX7_add 2 none)) rmX7_add (va_Pc [.ref (ad 1), .int a1] (PW kC g ad S sz)) (QV kC g ad res (AA kC ad sz)) 0 0 (AA kC ad sz) := by
  refine go_m (Qc := fun A => QV kC g ad res A) (by decide) (Nat.le_of_ble_eq_true rfl) (fun p e s m below meth c ls H locs C X hl => ?_)
  have hx := C.1.1
  have hb := C.1.2.1
  have hl : lv_has ls 2 [(0, .ref (ad 1)), (1, .int a1)] := hl
  have h : (if ((300 : Int32)) ≤ (S.1 1 1) then (some S) else (bn1 (f_X9_put 2 (S.1 1 1) a1 S) fun S2 => nm (su S2 1 1 ((S2.1 1 1) + ((1 : Int32)))) fun S3 => some S3) : Option ST) = some res := h
  refine lv_aload_n hx hb dX7_add_0 rfl (lv_at hl 0 rfl) ?_
  refine g_get C X inT7 1 (by decide) (eC_1 g ad S) rfl 1 (by decide) wd_104 (v := .int (S.1 1 1)) rfl dX7_add_1 ?_
  refine lv_sipush (v := (300 : Int32)) hx hb dX7_add_4 (by decide) ?_
  refine lv_icmp_ge (tgt := 32) hx hb dX7_add_7 (by decide) (fun c1 => ?_) (fun c1 => ?_)
  · have h := ip h c1
    exact rt_v C X rfl (Option.some.inj h) dX7_add_32
  · have h := inn h c1
    refine lv_aload_n hx hb dX7_add_10 rfl (lv_at hl 0 rfl) ?_
    refine g_get C X inT7 1 (by decide) (eC_1 g ad S) rfl 0 (by decide) wd_103 (v := .ref (ad 2)) rfl dX7_add_11 ?_
    refine lv_aload_n hx hb dX7_add_14 rfl (lv_at hl 0 rfl) ?_
    refine g_get C X inT7 1 (by decide) (eC_1 g ad S) rfl 1 (by decide) wd_104 (v := .int (S.1 1 1)) rfl dX7_add_15 ?_
    refine lv_iload_n hx hb dX7_add_18 rfl (lv_at hl 1 rfl) ?_
    obtain ⟨S2, qS2, h⟩ := bn1_s h
    refine kc_v X (res := S2) (rSN (As := [.ref (ad 2), .int (S.1 1 1), .int a1]) (rest := []) (n := 3) C X (c_X9_put l g ad S _ 2 (S.1 1 1) a1 (by decide) qS2) nw_450 wd_387 wd_70 wd_388 rfl rfl (by decide +kernel) ⟨Nat.le_of_ble_eq_true rfl, Nat.le_of_ble_eq_true rfl⟩ rfl hl.1 (lv_room (Nat.le_of_ble_eq_true rfl)) dX7_add_19) (fun H locs X => ?_)
    refine lv_aload_n hx hb dX7_add_22 rfl (lv_at hl 0 rfl) ?_
    refine lv_dup hx hb dX7_add_23 rfl ?_
    refine g_get C X inT7 1 (by decide) (eC_1 g ad S2) rfl 1 (by decide) wd_104 (v := .int (S2.1 1 1)) rfl dX7_add_24 ?_
    refine lv_iconst (v := (1 : Int32)) hx hb dX7_add_27 (by decide) ?_
    refine lv_iadd hx hb dX7_add_28 ?_
    obtain ⟨S3, eS3, h⟩ := nm_s h
    refine g_put (S' := S3) C X inT7 tyX7 tyX7_ok nmX7 1 (by decide) (eC_1 g ad S2) rfl 1 (by decide) wd_104 rfl (by rfl) rfl (Nat.le_of_ble_eq_true rfl) (by subst eS3; rfl) (by subst eS3; exact fun i hi => ent_offu hi) dX7_add_29 (fun H locs X => ?_)
    exact rt_v C X rfl (Option.some.inj h) dX7_add_32

def rmX7_byteAt : Room := { frames := 0, cells := 0, slots := 0, locals := 0 }
def f_X7_byteAt (a1 : Int32) (S : ST) : Option Int32 :=
  if a1 < 0 then (some ((-1 : Int32))) else (if (S.1 1 1) ≤ a1 then (some ((-1 : Int32))) else (if ((300 : Int32)) ≤ a1 then (some ((-1 : Int32))) else (chk (ib a1 300) (some (S.1 2 a1.toNatClampNeg)))))
set_option maxHeartbeats 4000000 in
set_option maxRecDepth 100000 in
theorem c_X7_byteAt (l : Launch) (g : GG) (ad : Nat → Nat) (S : ST) (sz : Nat) (a1 : Int32)  {res : Int32} (h : f_X7_byteAt a1 S = some res) : Met l yX7_byteAt (WS (.code yX7_byteAt cX7_byteAt 2 (some Jvm.ClassFile.FieldType.int))) rmX7_byteAt (va_Pc [.ref (ad 1), .int a1] (PW kC g ad S sz)) (QI kC g ad (res, S) (AA kC ad sz)) 0 0 (AA kC ad sz) := by
  refine go_m (Qc := fun A => QI kC g ad (res, S) A) (by decide) (Nat.le_of_ble_eq_true rfl) (fun p e s m below meth c ls H locs C X hl => ?_)
  have hx := C.1.1
  have hb := C.1.2.1
  have hl : lv_has ls 2 [(0, .ref (ad 1)), (1, .int a1)] := hl
  have h : (if a1 < 0 then (some ((-1 : Int32))) else (if (S.1 1 1) ≤ a1 then (some ((-1 : Int32))) else (if ((300 : Int32)) ≤ a1 then (some ((-1 : Int32))) else (chk (ib a1 300) (some (S.1 2 a1.toNatClampNeg))))) : Option Int32) = some res := h
  refine lv_iload_n hx hb dX7_byteAt_0 rfl (lv_at hl 1 rfl) ?_
  refine lv_if_lt (tgt := 30) hx hb dX7_byteAt_1 (by decide) (fun c1 => ?_) (fun c1 => ?_)
  · have h := ip h c1
    refine lv_iconst (v := (-1 : Int32)) hx hb dX7_byteAt_30 (by decide) ?_
    exact rt_i C X rfl (congrArg (fun z => (z, S)) (Option.some.inj h)) dX7_byteAt_31
  · have h := inn h c1
    refine lv_iload_n hx hb dX7_byteAt_4 rfl (lv_at hl 1 rfl) ?_
    refine lv_aload_n hx hb dX7_byteAt_5 rfl (lv_at hl 0 rfl) ?_
    refine g_get C X inT7 1 (by decide) (eC_1 g ad S) rfl 1 (by decide) wd_104 (v := .int (S.1 1 1)) rfl dX7_byteAt_6 ?_
    refine lv_icmp_ge (tgt := 30) hx hb dX7_byteAt_9 (by decide) (fun c2 => ?_) (fun c2 => ?_)
    · have h := ip h c2
      refine lv_iconst (v := (-1 : Int32)) hx hb dX7_byteAt_30 (by decide) ?_
      exact rt_i C X rfl (congrArg (fun z => (z, S)) (Option.some.inj h)) dX7_byteAt_31
    · have h := inn h c2
      refine lv_iload_n hx hb dX7_byteAt_12 rfl (lv_at hl 1 rfl) ?_
      refine lv_aload_n hx hb dX7_byteAt_13 rfl (lv_at hl 0 rfl) ?_
      refine g_get C X inT7 1 (by decide) (eC_1 g ad S) rfl 0 (by decide) wd_103 (v := .ref (ad 2)) rfl dX7_byteAt_14 ?_
      refine g_alen C X 2 0 (by decide) (eC_2 g ad S) rfl (v := (300 : Int32)) (by first | rfl | decide) dX7_byteAt_17 ?_
      refine lv_icmp_ge (tgt := 30) hx hb dX7_byteAt_18 (by decide) (fun c3 => ?_) (fun c3 => ?_)
      · have h := ip h c3
        refine lv_iconst (v := (-1 : Int32)) hx hb dX7_byteAt_30 (by decide) ?_
        exact rt_i C X rfl (congrArg (fun z => (z, S)) (Option.some.inj h)) dX7_byteAt_31
      · have h := inn h c3
        refine lv_aload_n hx hb dX7_byteAt_21 rfl (lv_at hl 0 rfl) ?_
        refine g_get C X inT7 1 (by decide) (eC_1 g ad S) rfl 0 (by decide) wd_103 (v := .ref (ad 2)) rfl dX7_byteAt_22 ?_
        refine lv_iload_n hx hb dX7_byteAt_25 rfl (lv_at hl 1 rfl) ?_
        obtain ⟨k4, h⟩ := chk_s h
        refine g_iald C X 2 (by decide) (eC_2 g ad S) k4 dX7_byteAt_26 ?_
        refine lv_goto (tgt := 31) hx hb dX7_byteAt_27 (by decide) ?_
        exact rt_i C X rfl (congrArg (fun z => (z, S)) (Option.some.inj h)) dX7_byteAt_31
