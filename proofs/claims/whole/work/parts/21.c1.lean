def rmX2_begin : Room := { frames := 1, cells := 0, slots := 0, locals := 21 }
def f_X2_begin (a1 : Nat) (a2 : Int32) (a3 : Int32) (a4 : Int32) (S : ST) : Option ST :=
  nm (su S a1 0 a2) fun S1 => nm (su S1 a1 1 (((-1000 : Int32)) * a3)) fun S2 => bn1 (f_X9_quotient (((2865 : Int32)) * a4) (S2.1 a1 0)) fun r3 => nm (su S2 a1 2 r3) fun S4 => some S4
set_option maxHeartbeats 4000000 in
set_option maxRecDepth 100000 in
theorem c_X2_begin (l : Launch) (g : GG) (ad : Nat → Nat) (S : ST) (sz : Nat) (a1 : Nat) (a2 : Int32) (a3 : Int32) (a4 : Int32) (f1 : pdk a1 = true) {res : ST} (h : f_X2_begin a1 a2 a3 a4 S = some res) : Met l yX2_begin (WS (.code yX2_begin cX2_begin 4 none)) rmX2_begin (va_Pc [.ref (ad a1), .int a2, .int a3, .int a4] (PW kC g ad S sz)) (QV kC g ad res (AA kC ad sz)) 0 0 (AA kC ad sz) := by
  refine go_m (Qc := fun A => QV kC g ad res A) (by decide) (Nat.le_of_ble_eq_true rfl) (fun p e s m below meth c ls H locs C X hl => ?_)
  have hx := C.1.1
  have hb := C.1.2.1
  have hl : lv_has ls 4 [(0, .ref (ad a1)), (1, .int a2), (2, .int a3), (3, .int a4)] := hl
  have h : (nm (su S a1 0 a2) fun S1 => nm (su S1 a1 1 (((-1000 : Int32)) * a3)) fun S2 => bn1 (f_X9_quotient (((2865 : Int32)) * a4) (S2.1 a1 0)) fun r3 => nm (su S2 a1 2 r3) fun S4 => some S4 : Option ST) = some res := h
  refine lv_aload_n hx hb dX2_begin_0 rfl (lv_at hl 0 rfl) ?_
  refine lv_iload_n hx hb dX2_begin_1 rfl (lv_at hl 1 rfl) ?_
  obtain ⟨S1, eS1, h⟩ := nm_s h
  refine g_put (S' := S1) C X inT2 tyX2 tyX2_ok nmX2 a1 (lt_pd f1) (e_pd g ad S f1) rfl 0 (by decide) wd_219 rfl (by rfl) rfl (Nat.le_of_ble_eq_true rfl) (by subst eS1; rw [e_pd g ad _ f1, su_k]; rfl) (by subst eS1; exact fun i hi => ent_offu hi) dX2_begin_2 (fun H locs X => ?_)
  refine lv_aload_n hx hb dX2_begin_5 rfl (lv_at hl 0 rfl) ?_
  refine lv_sipush (v := (-1000 : Int32)) hx hb dX2_begin_6 (by decide) ?_
  refine lv_iload_n hx hb dX2_begin_9 rfl (lv_at hl 2 rfl) ?_
  refine lv_imul hx hb dX2_begin_10 ?_
  obtain ⟨S2, eS2, h⟩ := nm_s h
  refine g_put (S' := S2) C X inT2 tyX2 tyX2_ok nmX2 a1 (lt_pd f1) (e_pd g ad S1 f1) rfl 1 (by decide) wd_220 rfl (by rfl) rfl (Nat.le_of_ble_eq_true rfl) (by subst eS2; rw [e_pd g ad _ f1, su_k]; rfl) (by subst eS2; exact fun i hi => ent_offu hi) dX2_begin_11 (fun H locs X => ?_)
  refine lv_aload_n hx hb dX2_begin_14 rfl (lv_at hl 0 rfl) ?_
  refine lv_sipush (v := (2865 : Int32)) hx hb dX2_begin_15 (by decide) ?_
  refine lv_iload_n hx hb dX2_begin_18 rfl (lv_at hl 3 rfl) ?_
  refine lv_imul hx hb dX2_begin_19 ?_
  refine lv_aload_n hx hb dX2_begin_20 rfl (lv_at hl 0 rfl) ?_
  refine g_get C X inT2 a1 (lt_pd f1) (e_pd g ad S2 f1) rfl 0 (by decide) wd_219 (v := .int (S2.1 a1 0)) rfl dX2_begin_21 ?_
  obtain ⟨r3, qr3, h⟩ := bn1_s h
  refine kc_i X (res := (r3, S2)) (rSN (As := [.int (((2865 : Int32)) * a4), .int (S2.1 a1 0)]) (rest := [.ref (ad a1)]) (n := 2) C X (c_X9_quotient l g ad S2 _ (((2865 : Int32)) * a4) (S2.1 a1 0)  qr3) nw_734 wd_735 wd_70 wd_736 rfl rfl (by decide +kernel) ⟨Nat.le_of_ble_eq_true rfl, Nat.le_of_ble_eq_true rfl⟩ rfl hl.1 (lv_room (Nat.le_of_ble_eq_true rfl)) dX2_begin_24) (fun H locs X => ?_)
  obtain ⟨S4, eS4, h⟩ := nm_s h
  refine g_put (S' := S4) C X inT2 tyX2 tyX2_ok nmX2 a1 (lt_pd f1) (e_pd g ad S2 f1) rfl 2 (by decide) wd_223 rfl (by rfl) rfl (Nat.le_of_ble_eq_true rfl) (by subst eS4; rw [e_pd g ad _ f1, su_k]; rfl) (by subst eS4; exact fun i hi => ent_offu hi) dX2_begin_27 (fun H locs X => ?_)
  exact rt_v C X rfl (Option.some.inj h) dX2_begin_30

def rmX2_swing : Room := { frames := 2, cells := 0, slots := 0, locals := 47 }
def f_X2_swing (a1 : Nat) (S : ST) : Option ST :=
  bn1 (f_X9_sineOf ((S.1 a1 1) / ((100 : Int32)))) fun r1 => bn1 (f_X9_quotient (((140 : Int32)) * r1) (S.1 a1 0)) fun r2 => nm (su S a1 2 ((S.1 a1 2) - r2)) fun S3 => nm (su S3 a1 1 ((S3.1 a1 1) + (S3.1 a1 2))) fun S4 => some S4
set_option maxHeartbeats 4000000 in
set_option maxRecDepth 100000 in
theorem c_X2_swing (l : Launch) (g : GG) (ad : Nat → Nat) (S : ST) (sz : Nat) (a1 : Nat) (f1 : pdk a1 = true) {res : ST} (h : f_X2_swing a1 S = some res) : Met l yX2_swing (WS (.code yX2_swing cX2_swing 1 none)) rmX2_swing (va_Pc [.ref (ad a1)] (PW kC g ad S sz)) (QV kC g ad res (AA kC ad sz)) 0 0 (AA kC ad sz) := by
  refine go_m (Qc := fun A => QV kC g ad res A) (by decide) (Nat.le_of_ble_eq_true rfl) (fun p e s m below meth c ls H locs C X hl => ?_)
  have hx := C.1.1
  have hb := C.1.2.1
  have hl : lv_has ls 1 [(0, .ref (ad a1))] := hl
  have h : (bn1 (f_X9_sineOf ((S.1 a1 1) / ((100 : Int32)))) fun r1 => bn1 (f_X9_quotient (((140 : Int32)) * r1) (S.1 a1 0)) fun r2 => nm (su S a1 2 ((S.1 a1 2) - r2)) fun S3 => nm (su S3 a1 1 ((S3.1 a1 1) + (S3.1 a1 2))) fun S4 => some S4 : Option ST) = some res := h
  refine lv_aload_n hx hb dX2_swing_0 rfl (lv_at hl 0 rfl) ?_
  refine lv_dup hx hb dX2_swing_1 rfl ?_
  refine g_get C X inT2 a1 (lt_pd f1) (e_pd g ad S f1) rfl 2 (by decide) wd_223 (v := .int (S.1 a1 2)) rfl dX2_swing_2 ?_
  refine lv_sipush (v := (140 : Int32)) hx hb dX2_swing_5 (by decide) ?_
  refine lv_aload_n hx hb dX2_swing_8 rfl (lv_at hl 0 rfl) ?_
  refine g_get C X inT2 a1 (lt_pd f1) (e_pd g ad S f1) rfl 1 (by decide) wd_220 (v := .int (S.1 a1 1)) rfl dX2_swing_9 ?_
  refine lv_bipush (v := (100 : Int32)) hx hb dX2_swing_12 (by decide) ?_
  refine lv_idiv hx hb dX2_swing_14 (by decide) ?_
  obtain ⟨r1, qr1, h⟩ := bn1_s h
  refine kc_i X (res := (r1, S)) (rSN (As := [.int ((S.1 a1 1) / ((100 : Int32)))]) (rest := [.int ((140 : Int32)), .int (S.1 a1 2), .ref (ad a1)]) (n := 1) C X (c_X9_sineOf l g ad S _ ((S.1 a1 1) / ((100 : Int32)))  qr1) nw_749 wd_710 wd_70 wd_711 rfl rfl (by decide +kernel) ⟨Nat.le_of_ble_eq_true rfl, Nat.le_of_ble_eq_true rfl⟩ rfl hl.1 (lv_room (Nat.le_of_ble_eq_true rfl)) dX2_swing_15) (fun H locs X => ?_)
  refine lv_imul hx hb dX2_swing_18 ?_
  refine lv_aload_n hx hb dX2_swing_19 rfl (lv_at hl 0 rfl) ?_
  refine g_get C X inT2 a1 (lt_pd f1) (e_pd g ad S f1) rfl 0 (by decide) wd_219 (v := .int (S.1 a1 0)) rfl dX2_swing_20 ?_
  obtain ⟨r2, qr2, h⟩ := bn1_s h
  refine kc_i X (res := (r2, S)) (rSN (As := [.int (((140 : Int32)) * r1), .int (S.1 a1 0)]) (rest := [.int (S.1 a1 2), .ref (ad a1)]) (n := 2) C X (c_X9_quotient l g ad S _ (((140 : Int32)) * r1) (S.1 a1 0)  qr2) nw_734 wd_735 wd_70 wd_736 rfl rfl (by decide +kernel) ⟨Nat.le_of_ble_eq_true rfl, Nat.le_of_ble_eq_true rfl⟩ rfl hl.1 (lv_room (Nat.le_of_ble_eq_true rfl)) dX2_swing_23) (fun H locs X => ?_)
  refine lv_isub hx hb dX2_swing_26 ?_
  obtain ⟨S3, eS3, h⟩ := nm_s h
  refine g_put (S' := S3) C X inT2 tyX2 tyX2_ok nmX2 a1 (lt_pd f1) (e_pd g ad S f1) rfl 2 (by decide) wd_223 rfl (by rfl) rfl (Nat.le_of_ble_eq_true rfl) (by subst eS3; rw [e_pd g ad _ f1, su_k]; rfl) (by subst eS3; exact fun i hi => ent_offu hi) dX2_swing_27 (fun H locs X => ?_)
  refine lv_aload_n hx hb dX2_swing_30 rfl (lv_at hl 0 rfl) ?_
  refine lv_dup hx hb dX2_swing_31 rfl ?_
  refine g_get C X inT2 a1 (lt_pd f1) (e_pd g ad S3 f1) rfl 1 (by decide) wd_220 (v := .int (S3.1 a1 1)) rfl dX2_swing_32 ?_
  refine lv_aload_n hx hb dX2_swing_35 rfl (lv_at hl 0 rfl) ?_
  refine g_get C X inT2 a1 (lt_pd f1) (e_pd g ad S3 f1) rfl 2 (by decide) wd_223 (v := .int (S3.1 a1 2)) rfl dX2_swing_36 ?_
  refine lv_iadd hx hb dX2_swing_39 ?_
  obtain ⟨S4, eS4, h⟩ := nm_s h
  refine g_put (S' := S4) C X inT2 tyX2 tyX2_ok nmX2 a1 (lt_pd f1) (e_pd g ad S3 f1) rfl 1 (by decide) wd_220 rfl (by rfl) rfl (Nat.le_of_ble_eq_true rfl) (by subst eS4; rw [e_pd g ad _ f1, su_k]; rfl) (by subst eS4; exact fun i hi => ent_offu hi) dX2_swing_40 (fun H locs X => ?_)
  exact rt_v C X rfl (Option.some.inj h) dX2_swing_43

def rmX1_angle : Room := { frames := 1, cells := 0, slots := 0, locals := 21 }
def f_X1_angle (a1 : Int32) (S : ST) : Option Int32 :=
  bn1 (f_X9_at 44 a1 S) fun r1 => some r1
set_option maxHeartbeats 4000000 in
set_option maxRecDepth 100000 in
theorem c_X1_angle (l : Launch) (g : GG) (ad : Nat → Nat) (S : ST) (sz : Nat) (a1 : Int32)  {res : Int32} (h : f_X1_angle a1 S = some res) : Met l yX1_angle (WS (.code yX1_angle cX1_angle 2 (some Jvm.ClassFile.FieldType.int))) rmX1_angle (va_Pc [.ref (ad 42), .int a1] (PW kC g ad S sz)) (QI kC g ad (res, S) (AA kC ad sz)) 0 0 (AA kC ad sz) := by
  refine go_m (Qc := fun A => QI kC g ad (res, S) A) (by decide) (Nat.le_of_ble_eq_true rfl) (fun p e s m below meth c ls H locs C X hl => ?_)
  have hx := C.1.1
  have hb := C.1.2.1
  have hl : lv_has ls 2 [(0, .ref (ad 42)), (1, .int a1)] := hl
  have h : (bn1 (f_X9_at 44 a1 S) fun r1 => some r1 : Option Int32) = some res := h
  refine lv_aload_n hx hb dX1_angle_0 rfl (lv_at hl 0 rfl) ?_
  refine g_get C X inT1 42 (by decide) (eC_42 g ad S) rfl 1 (by decide) wd_241 (v := .ref (ad 44)) rfl dX1_angle_1 ?_
  refine lv_iload_n hx hb dX1_angle_4 rfl (lv_at hl 1 rfl) ?_
  obtain ⟨r1, qr1, h⟩ := bn1_s h
  refine kc_i X (res := (r1, S)) (rSN (As := [.ref (ad 44), .int a1]) (rest := []) (n := 2) C X (c_X9_at l g ad S _ 44 a1 (by decide) qr1) nw_754 wd_576 wd_70 wd_577 rfl rfl (by decide +kernel) ⟨Nat.le_of_ble_eq_true rfl, Nat.le_of_ble_eq_true rfl⟩ rfl hl.1 (lv_room (Nat.le_of_ble_eq_true rfl)) dX1_angle_5) (fun H locs X => ?_)
  exact rt_i C X rfl (congrArg (fun z => (z, S)) (Option.some.inj h)) dX1_angle_8

def rmX1_pace : Room := { frames := 1, cells := 0, slots := 0, locals := 21 }
def f_X1_pace (a1 : Int32) (S : ST) : Option Int32 :=
  bn1 (f_X9_at 45 a1 S) fun r1 => some r1
set_option maxHeartbeats 4000000 in
set_option maxRecDepth 100000 in
theorem c_X1_pace (l : Launch) (g : GG) (ad : Nat → Nat) (S : ST) (sz : Nat) (a1 : Int32)  {res : Int32} (h : f_X1_pace a1 S = some res) : Met l yX1_pace (WS (.code yX1_pace cX1_pace 2 (some Jvm.ClassFile.FieldType.int))) rmX1_pace (va_Pc [.ref (ad 42), .int a1] (PW kC g ad S sz)) (QI kC g ad (res, S) (AA kC ad sz)) 0 0 (AA kC ad sz) := by
  refine go_m (Qc := fun A => QI kC g ad (res, S) A) (by decide) (Nat.le_of_ble_eq_true rfl) (fun p e s m below meth c ls H locs C X hl => ?_)
  have hx := C.1.1
  have hb := C.1.2.1
  have hl : lv_has ls 2 [(0, .ref (ad 42)), (1, .int a1)] := hl
  have h : (bn1 (f_X9_at 45 a1 S) fun r1 => some r1 : Option Int32) = some res := h
  refine lv_aload_n hx hb dX1_pace_0 rfl (lv_at hl 0 rfl) ?_
  refine g_get C X inT1 42 (by decide) (eC_42 g ad S) rfl 2 (by decide) wd_242 (v := .ref (ad 45)) rfl dX1_pace_1 ?_
  refine lv_iload_n hx hb dX1_pace_4 rfl (lv_at hl 1 rfl) ?_
  obtain ⟨r1, qr1, h⟩ := bn1_s h
  refine kc_i X (res := (r1, S)) (rSN (As := [.ref (ad 45), .int a1]) (rest := []) (n := 2) C X (c_X9_at l g ad S _ 45 a1 (by decide) qr1) nw_754 wd_576 wd_70 wd_577 rfl rfl (by decide +kernel) ⟨Nat.le_of_ble_eq_true rfl, Nat.le_of_ble_eq_true rfl⟩ rfl hl.1 (lv_room (Nat.le_of_ble_eq_true rfl)) dX1_pace_5) (fun H locs X => ?_)
  exact rt_i C X rfl (congrArg (fun z => (z, S)) (Option.some.inj h)) dX1_pace_8

def rmX1_x : Room := { frames := 1, cells := 0, slots := 0, locals := 21 }
def f_X1_x (a1 : Int32) (S : ST) : Option Int32 :=
  bn1 (f_X9_at 46 a1 S) fun r1 => some r1
set_option maxHeartbeats 4000000 in
set_option maxRecDepth 100000 in
theorem c_X1_x (l : Launch) (g : GG) (ad : Nat → Nat) (S : ST) (sz : Nat) (a1 : Int32)  {res : Int32} (h : f_X1_x a1 S = some res) : Met l yX1_x (WS (.code yX1_x cX1_x 2 (some Jvm.ClassFile.FieldType.int))) rmX1_x (va_Pc [.ref (ad 42), .int a1] (PW kC g ad S sz)) (QI kC g ad (res, S) (AA kC ad sz)) 0 0 (AA kC ad sz) := by
  refine go_m (Qc := fun A => QI kC g ad (res, S) A) (by decide) (Nat.le_of_ble_eq_true rfl) (fun p e s m below meth c ls H locs C X hl => ?_)
  have hx := C.1.1
  have hb := C.1.2.1
  have hl : lv_has ls 2 [(0, .ref (ad 42)), (1, .int a1)] := hl
  have h : (bn1 (f_X9_at 46 a1 S) fun r1 => some r1 : Option Int32) = some res := h
  refine lv_aload_n hx hb dX1_x_0 rfl (lv_at hl 0 rfl) ?_
  refine g_get C X inT1 42 (by decide) (eC_42 g ad S) rfl 3 (by decide) wd_243 (v := .ref (ad 46)) rfl dX1_x_1 ?_
  refine lv_iload_n hx hb dX1_x_4 rfl (lv_at hl 1 rfl) ?_
  obtain ⟨r1, qr1, h⟩ := bn1_s h
  refine kc_i X (res := (r1, S)) (rSN (As := [.ref (ad 46), .int a1]) (rest := []) (n := 2) C X (c_X9_at l g ad S _ 46 a1 (by decide) qr1) nw_754 wd_576 wd_70 wd_577 rfl rfl (by decide +kernel) ⟨Nat.le_of_ble_eq_true rfl, Nat.le_of_ble_eq_true rfl⟩ rfl hl.1 (lv_room (Nat.le_of_ble_eq_true rfl)) dX1_x_5) (fun H locs X => ?_)
  exact rt_i C X rfl (congrArg (fun z => (z, S)) (Option.some.inj h)) dX1_x_8

def rmX1_height : Room := { frames := 1, cells := 0, slots := 0, locals := 21 }
def f_X1_height (a1 : Int32) (S : ST) : Option Int32 :=
  bn1 (f_X9_at 47 a1 S) fun r1 => some r1
set_option maxHeartbeats 4000000 in
set_option maxRecDepth 100000 in
theorem c_X1_height (l : Launch) (g : GG) (ad : Nat → Nat) (S : ST) (sz : Nat) (a1 : Int32)  {res : Int32} (h : f_X1_height a1 S = some res) : Met l yX1_height (WS (.code yX1_height cX1_height 2 (some Jvm.ClassFile.FieldType.int))) rmX1_height (va_Pc [.ref (ad 42), .int a1] (PW kC g ad S sz)) (QI kC g ad (res, S) (AA kC ad sz)) 0 0 (AA kC ad sz) := by
  refine go_m (Qc := fun A => QI kC g ad (res, S) A) (by decide) (Nat.le_of_ble_eq_true rfl) (fun p e s m below meth c ls H locs C X hl => ?_)
  have hx := C.1.1
  have hb := C.1.2.1
  have hl : lv_has ls 2 [(0, .ref (ad 42)), (1, .int a1)] := hl
  have h : (bn1 (f_X9_at 47 a1 S) fun r1 => some r1 : Option Int32) = some res := h
  refine lv_aload_n hx hb dX1_height_0 rfl (lv_at hl 0 rfl) ?_
  refine g_get C X inT1 42 (by decide) (eC_42 g ad S) rfl 4 (by decide) wd_244 (v := .ref (ad 47)) rfl dX1_height_1 ?_
  refine lv_iload_n hx hb dX1_height_4 rfl (lv_at hl 1 rfl) ?_
  obtain ⟨r1, qr1, h⟩ := bn1_s h
  refine kc_i X (res := (r1, S)) (rSN (As := [.ref (ad 47), .int a1]) (rest := []) (n := 2) C X (c_X9_at l g ad S _ 47 a1 (by decide) qr1) nw_754 wd_576 wd_70 wd_577 rfl rfl (by decide +kernel) ⟨Nat.le_of_ble_eq_true rfl, Nat.le_of_ble_eq_true rfl⟩ rfl hl.1 (lv_room (Nat.le_of_ble_eq_true rfl)) dX1_height_5) (fun H locs X => ?_)
  exact rt_i C X rfl (congrArg (fun z => (z, S)) (Option.some.inj h)) dX1_height_8

def rmX1_across : Room := { frames := 1, cells := 0, slots := 0, locals := 21 }
def f_X1_across (a1 : Int32) (S : ST) : Option Int32 :=
  bn1 (f_X9_at 49 a1 S) fun r1 => some r1
set_option maxHeartbeats 4000000 in
set_option maxRecDepth 100000 in
theorem c_X1_across (l : Launch) (g : GG) (ad : Nat → Nat) (S : ST) (sz : Nat) (a1 : Int32)  {res : Int32} (h : f_X1_across a1 S = some res) : Met l yX1_across (WS (.code yX1_across cX1_across 2 (some Jvm.ClassFile.FieldType.int))) rmX1_across (va_Pc [.ref (ad 42), .int a1] (PW kC g ad S sz)) (QI kC g ad (res, S) (AA kC ad sz)) 0 0 (AA kC ad sz) := by
  refine go_m (Qc := fun A => QI kC g ad (res, S) A) (by decide) (Nat.le_of_ble_eq_true rfl) (fun p e s m below meth c ls H locs C X hl => ?_)
  have hx := C.1.1
  have hb := C.1.2.1
  have hl : lv_has ls 2 [(0, .ref (ad 42)), (1, .int a1)] := hl
  have h : (bn1 (f_X9_at 49 a1 S) fun r1 => some r1 : Option Int32) = some res := h
  refine lv_aload_n hx hb dX1_across_0 rfl (lv_at hl 0 rfl) ?_
  refine g_get C X inT1 42 (by decide) (eC_42 g ad S) rfl 6 (by decide) wd_246 (v := .ref (ad 49)) rfl dX1_across_1 ?_
  refine lv_iload_n hx hb dX1_across_4 rfl (lv_at hl 1 rfl) ?_
  obtain ⟨r1, qr1, h⟩ := bn1_s h
  refine kc_i X (res := (r1, S)) (rSN (As := [.ref (ad 49), .int a1]) (rest := []) (n := 2) C X (c_X9_at l g ad S _ 49 a1 (by decide) qr1) nw_754 wd_576 wd_70 wd_577 rfl rfl (by decide +kernel) ⟨Nat.le_of_ble_eq_true rfl, Nat.le_of_ble_eq_true rfl⟩ rfl hl.1 (lv_room (Nat.le_of_ble_eq_true rfl)) dX1_across_5) (fun H locs X => ?_)
  exact rt_i C X rfl (congrArg (fun z => (z, S)) (Option.some.inj h)) dX1_across_8

def rmX1_up : Room := { frames := 1, cells := 0, slots := 0, locals := 21 }
def f_X1_up (a1 : Int32) (S : ST) : Option Int32 :=
  bn1 (f_X9_at 50 a1 S) fun r1 => some r1
set_option maxHeartbeats 4000000 in
set_option maxRecDepth 100000 in
theorem c_X1_up (l : Launch) (g : GG) (ad : Nat → Nat) (S : ST) (sz : Nat) (a1 : Int32)  {res : Int32} (h : f_X1_up a1 S = some res) : Met l yX1_up (WS (.code yX1_up cX1_up 2 (some Jvm.ClassFile.FieldType.int))) rmX1_up (va_Pc [.ref (ad 42), .int a1] (PW kC g ad S sz)) (QI kC g ad (res, S) (AA kC ad sz)) 0 0 (AA kC ad sz) := by
  refine go_m (Qc := fun A => QI kC g ad (res, S) A) (by decide) (Nat.le_of_ble_eq_true rfl) (fun p e s m below meth c ls H locs C X hl => ?_)
  have hx := C.1.1
  have hb := C.1.2.1
  have hl : lv_has ls 2 [(0, .ref (ad 42)), (1, .int a1)] := hl
  have h : (bn1 (f_X9_at 50 a1 S) fun r1 => some r1 : Option Int32) = some res := h
  refine lv_aload_n hx hb dX1_up_0 rfl (lv_at hl 0 rfl) ?_
  refine g_get C X inT1 42 (by decide) (eC_42 g ad S) rfl 7 (by decide) wd_247 (v := .ref (ad 50)) rfl dX1_up_1 ?_
  refine lv_iload_n hx hb dX1_up_4 rfl (lv_at hl 1 rfl) ?_
  obtain ⟨r1, qr1, h⟩ := bn1_s h
  refine kc_i X (res := (r1, S)) (rSN (As := [.ref (ad 50), .int a1]) (rest := []) (n := 2) C X (c_X9_at l g ad S _ 50 a1 (by decide) qr1) nw_754 wd_576 wd_70 wd_577 rfl rfl (by decide +kernel) ⟨Nat.le_of_ble_eq_true rfl, Nat.le_of_ble_eq_true rfl⟩ rfl hl.1 (lv_room (Nat.le_of_ble_eq_true rfl)) dX1_up_5) (fun H locs X => ?_)
  exact rt_i C X rfl (congrArg (fun z => (z, S)) (Option.some.inj h)) dX1_up_8

def rmX1_pull : Room := { frames := 1, cells := 0, slots := 0, locals := 21 }
def f_X1_pull (a1 : Int32) (a2 : Int32) (S : ST) : Option Int32 :=
  bn1 (f_X9_at 48 a1 S) fun r1 => nm (if ((0 : Int32)) < ((a2 * r1) / ((100 : Int32))) then ((a2 * r1) / ((100 : Int32))) else ((0 : Int32))) fun x2 => some x2
set_option maxHeartbeats 4000000 in
set_option maxRecDepth 100000 in
theorem c_X1_pull (l : Launch) (g : GG) (ad : Nat → Nat) (S : ST) (sz : Nat) (a1 : Int32) (a2 : Int32)  {res : Int32} (h : f_X1_pull a1 a2 S = some res) : Met l yX1_pull (WS (.code yX1_pull cX1_pull 3 (some Jvm.ClassFile.FieldType.int))) rmX1_pull (va_Pc [.ref (ad 42), .int a1, .int a2] (PW kC g ad S sz)) (QI kC g ad (res, S) (AA kC ad sz)) 0 0 (AA kC ad sz) := by
  refine go_m (Qc := fun A => QI kC g ad (res, S) A) (by decide) (Nat.le_of_ble_eq_true rfl) (fun p e s m below meth c ls H locs C X hl => ?_)
  have hx := C.1.1
  have hb := C.1.2.1
  have hl : lv_has ls 3 [(0, .ref (ad 42)), (1, .int a1), (2, .int a2)] := hl
  have h : (bn1 (f_X9_at 48 a1 S) fun r1 => nm (if ((0 : Int32)) < ((a2 * r1) / ((100 : Int32))) then ((a2 * r1) / ((100 : Int32))) else ((0 : Int32))) fun x2 => some x2 : Option Int32) = some res := h
  refine lv_iconst (v := (0 : Int32)) hx hb dX1_pull_0 (by decide) ?_
  refine lv_iload_n hx hb dX1_pull_1 rfl (lv_at hl 2 rfl) ?_
  refine lv_aload_n hx hb dX1_pull_2 rfl (lv_at hl 0 rfl) ?_
  refine g_get C X inT1 42 (by decide) (eC_42 g ad S) rfl 5 (by decide) wd_245 (v := .ref (ad 48)) rfl dX1_pull_3 ?_
  refine lv_iload_n hx hb dX1_pull_6 rfl (lv_at hl 1 rfl) ?_
  obtain ⟨r1, qr1, h⟩ := bn1_s h
  refine kc_i X (res := (r1, S)) (rSN (As := [.ref (ad 48), .int a1]) (rest := [.int a2, .int ((0 : Int32))]) (n := 2) C X (c_X9_at l g ad S _ 48 a1 (by decide) qr1) nw_754 wd_576 wd_70 wd_577 rfl rfl (by decide +kernel) ⟨Nat.le_of_ble_eq_true rfl, Nat.le_of_ble_eq_true rfl⟩ rfl hl.1 (lv_room (Nat.le_of_ble_eq_true rfl)) dX1_pull_7) (fun H locs X => ?_)
  refine lv_imul hx hb dX1_pull_10 ?_
  refine lv_bipush (v := (100 : Int32)) hx hb dX1_pull_11 (by decide) ?_
  refine lv_idiv hx hb dX1_pull_13 (by decide) ?_
  refine va_mmax hx hb (C.1.2.2.2.2.1.trans hl.1.symm) C.1.2.2.2.2.2.1 (C.1.2.2.2.2.2.2 _ (ws_in wd_771)) (C.1.2.2.2.2.2.2 _ (ws_in wd_772)) (C.1.2.2.2.2.2.2 _ (ws_in wd_74)) (C.1.2.2.2.2.2.2 _ (ws_in wd_773)) (Nat.le_of_ble_eq_true rfl) (Nat.le_of_ble_eq_true rfl) (Nat.zero_le _) (Nat.zero_le _) dX1_pull_14 ?_
  obtain ⟨x2, ex2, h⟩ := nm_s h
  refine tp_i ex2 ?_
  exact rt_i C X rfl (congrArg (fun z => (z, S)) (Option.some.inj h)) dX1_pull_17

def rmX1_left : Room := { frames := 2, cells := 0, slots := 0, locals := 43 }
def b_X1_left_8 (S : ST) (K8 : Int32 → Int32 → Int32 → Int32 → Int32 → Option Int32) (v2 : Int32) (v3 : Int32) (v4 : Int32) (v5 : Int32) (v6 : Int32) : Option Int32 :=
  if v2 < v6 then (some v5) else (bn1 (f_X1_pull v6 v3 S) fun r2 => bn1 (f_X9_quotient (((20 : Int32)) * r2) v4) fun r3 => nm (v5 - r3) fun x4 => nm (v6 + (1 : Int32)) fun x5 => K8 v2 v3 v4 x4 x5)
def f_X1_left (a1 : Int32) (a2 : Int32) (a3 : Int32) (S : ST) : Option Int32 :=
  lp (fun _ _ _ _ _ => none) (b_X1_left_8 S) 1000 a1 a2 a3 ((1000 : Int32)) ((1 : Int32))
set_option maxHeartbeats 4000000 in
set_option maxRecDepth 100000 in
theorem kb_X1_left_8 {p : Program} {l : Launch} {e : Env} {s : State} {m : MethodId} {args : Array Value} {below : List Frame} {meth : Method} {c : Code} {g : GG} {ad : Nat → Nat} {res : Int32} {S : ST} (C : CX kC g ad p s m args meth c cX1_left (some Jvm.ClassFile.FieldType.int) 6 yX1_left.cls (.code yX1_left cX1_left 6 (some Jvm.ClassFile.FieldType.int))) {K8 : Int32 → Int32 → Int32 → Int32 → Int32 → Option Int32} (hK8 : ∀ {v2 : Int32} {v3 : Int32} {v4 : Int32} {v5 : Int32} {v6 : Int32} {H : Heap} {locs : List Loc} {ls : Array Slot}, K8 v2 v3 v4 v5 v6 = some res → WX kC g ad s S H locs → lv_has ls 6 [(0, .ref (ad 42)), (1, .int v2), (2, .int v3), (3, .int v4), (4, .int v5), (5, .int v6)] → W p l e rmX1_left s m args below meth c H locs 0 0 (MQ below (QI kC g ad (res, S) (AA kC ad s.heap.size)) args s 0 0 (AA kC ad s.heap.size)) (F0 m 8 ls [])) {v2 : Int32} {v3 : Int32} {v4 : Int32} {v5 : Int32} {v6 : Int32}  {H : Heap} {locs : List Loc} {ls : Array Slot} (h : b_X1_left_8 S K8 v2 v3 v4 v5 v6 = some res) (X : WX kC g ad s S H locs) (hl : lv_has ls 6 [(0, .ref (ad 42)), (1, .int v2), (2, .int v3), (3, .int v4), (4, .int v5), (5, .int v6)])  : W p l e rmX1_left s m args below meth c H locs 0 0 (MQ below (QI kC g ad (res, S) (AA kC ad s.heap.size)) args s 0 0 (AA kC ad s.heap.size)) (F0 m 8 ls []) := by
  have hx := C.1.1
  have hb := C.1.2.1
  have h : (if v2 < v6 then (some v5) else (bn1 (f_X1_pull v6 v3 S) fun r2 => bn1 (f_X9_quotient (((20 : Int32)) * r2) v4) fun r3 => nm (v5 - r3) fun x4 => nm (v6 + (1 : Int32)) fun x5 => K8 v2 v3 v4 x4 x5) : Option Int32) = some res := h
  refine lv_iload hx hb dX1_left_8 (lv_at hl 5 rfl) ?_
  refine lv_iload_n hx hb dX1_left_10 rfl (lv_at hl 1 rfl) ?_
  refine lv_icmp_gt (tgt := 39) hx hb dX1_left_11 (by decide) (fun c1 => ?_) (fun c1 => ?_)
  · have h := ip h c1
    refine lv_iload hx hb dX1_left_39 (lv_at hl 4 rfl) ?_
    exact rt_i C X rfl (congrArg (fun z => (z, S)) (Option.some.inj h)) dX1_left_41
  · have h := inn h c1
    refine lv_iload hx hb dX1_left_14 (lv_at hl 4 rfl) ?_
    refine lv_bipush (v := (20 : Int32)) hx hb dX1_left_16 (by decide) ?_
    refine lv_aload_n hx hb dX1_left_18 rfl (lv_at hl 0 rfl) ?_
    refine lv_iload hx hb dX1_left_19 (lv_at hl 5 rfl) ?_
    refine lv_iload_n hx hb dX1_left_21 rfl (lv_at hl 2 rfl) ?_
    obtain ⟨r2, qr2, h⟩ := bn1_s h
    refine kc_i X (res := (r2, S)) (rV (As := [.int v6, .int v3]) (rest := [.int ((20 : Int32)), .int v5]) (n := 2) (k := 42) C X (c_X1_pull l g ad S _ v6 v3  qr2) wd_778 wd_768 wd_769 wd_80 wd_770 (by decide) (eC_42 g ad S) rfl rfl rfl (by decide +kernel) ⟨Nat.le_of_ble_eq_true rfl, Nat.le_of_ble_eq_true rfl⟩ rfl hl.1 (lv_room (Nat.le_of_ble_eq_true rfl)) dX1_left_22) (fun H locs X => ?_)
    refine lv_imul hx hb dX1_left_25 ?_
    refine lv_iload_n hx hb dX1_left_26 rfl (lv_at hl 3 rfl) ?_
    obtain ⟨r3, qr3, h⟩ := bn1_s h
    refine kc_i X (res := (r3, S)) (rSN (As := [.int (((20 : Int32)) * r2), .int v4]) (rest := [.int v5]) (n := 2) C X (c_X9_quotient l g ad S _ (((20 : Int32)) * r2) v4  qr3) nw_779 wd_735 wd_70 wd_736 rfl rfl (by decide +kernel) ⟨Nat.le_of_ble_eq_true rfl, Nat.le_of_ble_eq_true rfl⟩ rfl hl.1 (lv_room (Nat.le_of_ble_eq_true rfl)) dX1_left_27) (fun H locs X => ?_)
    refine lv_isub hx hb dX1_left_30 ?_
    obtain ⟨x4, ex4, h⟩ := nm_s h
    refine tp_i ex4 ?_
    refine lv_istore (lv' := [(4, .int x4), (0, .ref (ad 42)), (1, .int v2), (2, .int v3), (3, .int v4), (5, .int v6)]) hx hb dX1_left_31 hl (by decide) rfl (fun ls hl => ?_)
    obtain ⟨x5, ex5, h⟩ := nm_s h
    refine lv_iinc (v := x5) (lv' := [(5, .int x5), (4, .int x4), (0, .ref (ad 42)), (1, .int v2), (2, .int v3), (3, .int v4)]) hx hb dX1_left_33 hl (k := 5) rfl (by rw [ex5]; rfl) (by decide) rfl (fun ls hl => ?_)
    refine lv_goto (tgt := 8) hx hb dX1_left_36 (by decide) ?_
    exact hK8 h X (lv_sub hl [2, 3, 4, 5, 1, 0] rfl) 
set_option maxHeartbeats 4000000 in
set_option maxRecDepth 100000 in
theorem kl_X1_left_8 {p : Program} {l : Launch} {e : Env} {s : State} {m : MethodId} {args : Array Value} {below : List Frame} {meth : Method} {c : Code} {g : GG} {ad : Nat → Nat} {res : Int32} {S : ST} (C : CX kC g ad p s m args meth c cX1_left (some Jvm.ClassFile.FieldType.int) 6 yX1_left.cls (.code yX1_left cX1_left 6 (some Jvm.ClassFile.FieldType.int)))  : ∀ (n : Nat) {v2 : Int32} {v3 : Int32} {v4 : Int32} {v5 : Int32} {v6 : Int32} {H : Heap} {locs : List Loc} {ls : Array Slot}, (lp (fun _ _ _ _ _ => none) (b_X1_left_8 S)) n v2 v3 v4 v5 v6 = some res → WX kC g ad s S H locs → lv_has ls 6 [(0, .ref (ad 42)), (1, .int v2), (2, .int v3), (3, .int v4), (4, .int v5), (5, .int v6)] → W p l e rmX1_left s m args below meth c H locs 0 0 (MQ below (QI kC g ad (res, S) (AA kC ad s.heap.size)) args s 0 0 (AA kC ad s.heap.size)) (F0 m 8 ls []) := by
  intro n
  induction n with
  | zero =>
    intro v2 v3 v4 v5 v6 H locs ls h
    cases (show (none : Option Int32) = some res from h)
  | succ n ih =>
    intro v2 v3 v4 v5 v6 H locs ls h X hl 
    exact kb_X1_left_8 C ih h X hl 
set_option maxHeartbeats 4000000 in
set_option maxRecDepth 100000 in
theorem c_X1_left (l : Launch) (g : GG) (ad : Nat → Nat) (S : ST) (sz : Nat) (a1 : Int32) (a2 : Int32) (a3 : Int32)  {res : Int32} (h : f_X1_left a1 a2 a3 S = some res) : Met l yX1_left (WS (.code yX1_left cX1_left 6 (some Jvm.ClassFile.FieldType.int))) rmX1_left (va_Pc [.ref (ad 42), .int a1, .int a2, .int a3] (PW kC g ad S sz)) (QI kC g ad (res, S) (AA kC ad sz)) 0 0 (AA kC ad sz) := by
  refine go_m (Qc := fun A => QI kC g ad (res, S) A) (by decide) (Nat.le_of_ble_eq_true rfl) (fun p e s m below meth c ls H locs C X hl => ?_)
  have hx := C.1.1
  have hb := C.1.2.1
  have hl : lv_has ls 6 [(0, .ref (ad 42)), (1, .int a1), (2, .int a2), (3, .int a3)] := hl
  have h : (lp (fun _ _ _ _ _ => none) (b_X1_left_8 S) 1000 a1 a2 a3 ((1000 : Int32)) ((1 : Int32)) : Option Int32) = some res := h
  refine lv_sipush (v := (1000 : Int32)) hx hb dX1_left_0 (by decide) ?_
  refine lv_istore (lv' := [(4, .int ((1000 : Int32))), (0, .ref (ad 42)), (1, .int a1), (2, .int a2), (3, .int a3)]) hx hb dX1_left_3 hl (by decide) rfl (fun ls hl => ?_)
  refine lv_iconst (v := (1 : Int32)) hx hb dX1_left_5 (by decide) ?_
  refine lv_istore (lv' := [(5, .int ((1 : Int32))), (4, .int ((1000 : Int32))), (0, .ref (ad 42)), (1, .int a1), (2, .int a2), (3, .int a3)]) hx hb dX1_left_6 hl (by decide) rfl (fun ls hl => ?_)
  exact kl_X1_left_8 C _ h X (lv_sub hl [2, 3, 4, 5, 1, 0] rfl) 

def rmX1_hardestPull : Room := { frames := 2, cells := 0, slots := 0, locals := 43 }
def b_X1_hardestPull_4 (S : ST) (K4 : Int32 → Int32 → Int32 → Option Int32) (v2 : Int32) (v3 : Int32) (v4 : Int32) : Option Int32 :=
  if ((200 : Int32)) < v4 then (some v3) else (bn1 (f_X1_pull v4 v2 S) fun r2 => nm (if v3 < r2 then r2 else v3) fun x3 => nm (v4 + (1 : Int32)) fun x4 => K4 v2 x3 x4)
def f_X1_hardestPull (a1 : Int32) (S : ST) : Option Int32 :=
  lp (fun _ _ _ => none) (b_X1_hardestPull_4 S) 1000 a1 ((0 : Int32)) ((1 : Int32))
set_option maxHeartbeats 4000000 in
set_option maxRecDepth 100000 in
theorem kb_X1_hardestPull_4 {p : Program} {l : Launch} {e : Env} {s : State} {m : MethodId} {args : Array Value} {below : List Frame} {meth : Method} {c : Code} {g : GG} {ad : Nat → Nat} {res : Int32} {S : ST} (C : CX kC g ad p s m args meth c cX1_hardestPull (some Jvm.ClassFile.FieldType.int) 4 yX1_hardestPull.cls (.code yX1_hardestPull cX1_hardestPull 4 (some Jvm.ClassFile.FieldType.int))) {K4 : Int32 → Int32 → Int32 → Option Int32} (hK4 : ∀ {v2 : Int32} {v3 : Int32} {v4 : Int32} {H : Heap} {locs : List Loc} {ls : Array Slot}, K4 v2 v3 v4 = some res → WX kC g ad s S H locs → lv_has ls 4 [(0, .ref (ad 42)), (1, .int v2), (2, .int v3), (3, .int v4)] → W p l e rmX1_hardestPull s m args below meth c H locs 0 0 (MQ below (QI kC g ad (res, S) (AA kC ad s.heap.size)) args s 0 0 (AA kC ad s.heap.size)) (F0 m 4 ls [])) {v2 : Int32} {v3 : Int32} {v4 : Int32}  {H : Heap} {locs : List Loc} {ls : Array Slot} (h : b_X1_hardestPull_4 S K4 v2 v3 v4 = some res) (X : WX kC g ad s S H locs) (hl : lv_has ls 4 [(0, .ref (ad 42)), (1, .int v2), (2, .int v3), (3, .int v4)])  : W p l e rmX1_hardestPull s m args below meth c H locs 0 0 (MQ below (QI kC g ad (res, S) (AA kC ad s.heap.size)) args s 0 0 (AA kC ad s.heap.size)) (F0 m 4 ls []) := by
  have hx := C.1.1
  have hb := C.1.2.1
  have h : (if ((200 : Int32)) < v4 then (some v3) else (bn1 (f_X1_pull v4 v2 S) fun r2 => nm (if v3 < r2 then r2 else v3) fun x3 => nm (v4 + (1 : Int32)) fun x4 => K4 v2 x3 x4) : Option Int32) = some res := h
  refine lv_iload_n hx hb dX1_hardestPull_4 rfl (lv_at hl 3 rfl) ?_
  refine lv_sipush (v := (200 : Int32)) hx hb dX1_hardestPull_5 (by decide) ?_
  refine lv_icmp_gt (tgt := 28) hx hb dX1_hardestPull_8 (by decide) (fun c1 => ?_) (fun c1 => ?_)
  · have h := ip h c1
    refine lv_iload_n hx hb dX1_hardestPull_28 rfl (lv_at hl 2 rfl) ?_
    exact rt_i C X rfl (congrArg (fun z => (z, S)) (Option.some.inj h)) dX1_hardestPull_29
  · have h := inn h c1
    refine lv_iload_n hx hb dX1_hardestPull_11 rfl (lv_at hl 2 rfl) ?_
    refine lv_aload_n hx hb dX1_hardestPull_12 rfl (lv_at hl 0 rfl) ?_
    refine lv_iload_n hx hb dX1_hardestPull_13 rfl (lv_at hl 3 rfl) ?_
    refine lv_iload_n hx hb dX1_hardestPull_14 rfl (lv_at hl 1 rfl) ?_
    obtain ⟨r2, qr2, h⟩ := bn1_s h
    refine kc_i X (res := (r2, S)) (rV (As := [.int v4, .int v2]) (rest := [.int v3]) (n := 2) (k := 42) C X (c_X1_pull l g ad S _ v4 v2  qr2) wd_778 wd_768 wd_769 wd_80 wd_770 (by decide) (eC_42 g ad S) rfl rfl rfl (by decide +kernel) ⟨Nat.le_of_ble_eq_true rfl, Nat.le_of_ble_eq_true rfl⟩ rfl hl.1 (lv_room (Nat.le_of_ble_eq_true rfl)) dX1_hardestPull_15) (fun H locs X => ?_)
    refine va_mmax hx hb (C.1.2.2.2.2.1.trans hl.1.symm) C.1.2.2.2.2.2.1 (C.1.2.2.2.2.2.2 _ (ws_in wd_771)) (C.1.2.2.2.2.2.2 _ (ws_in wd_772)) (C.1.2.2.2.2.2.2 _ (ws_in wd_74)) (C.1.2.2.2.2.2.2 _ (ws_in wd_773)) (Nat.le_of_ble_eq_true rfl) (Nat.le_of_ble_eq_true rfl) (Nat.zero_le _) (Nat.zero_le _) dX1_hardestPull_18 ?_
    obtain ⟨x3, ex3, h⟩ := nm_s h
    refine tp_i ex3 ?_
    refine lv_istore_n (lv' := [(2, .int x3), (0, .ref (ad 42)), (1, .int v2), (3, .int v4)]) hx hb dX1_hardestPull_21 rfl hl (by decide) rfl (fun ls hl => ?_)
    obtain ⟨x4, ex4, h⟩ := nm_s h
    refine lv_iinc (v := x4) (lv' := [(3, .int x4), (2, .int x3), (0, .ref (ad 42)), (1, .int v2)]) hx hb dX1_hardestPull_22 hl (k := 3) rfl (by rw [ex4]; rfl) (by decide) rfl (fun ls hl => ?_)
    refine lv_goto (tgt := 4) hx hb dX1_hardestPull_25 (by decide) ?_
    exact hK4 h X (lv_sub hl [2, 3, 1, 0] rfl) 
set_option maxHeartbeats 4000000 in
set_option maxRecDepth 100000 in
theorem kl_X1_hardestPull_4 {p : Program} {l : Launch} {e : Env} {s : State} {m : MethodId} {args : Array Value} {below : List Frame} {meth : Method} {c : Code} {g : GG} {ad : Nat → Nat} {res : Int32} {S : ST} (C : CX kC g ad p s m args meth c cX1_hardestPull (some Jvm.ClassFile.FieldType.int) 4 yX1_hardestPull.cls (.code yX1_hardestPull cX1_hardestPull 4 (some Jvm.ClassFile.FieldType.int)))  : ∀ (n : Nat) {v2 : Int32} {v3 : Int32} {v4 : Int32} {H : Heap} {locs : List Loc} {ls : Array Slot}, (lp (fun _ _ _ => none) (b_X1_hardestPull_4 S)) n v2 v3 v4 = some res → WX kC g ad s S H locs → lv_has ls 4 [(0, .ref (ad 42)), (1, .int v2), (2, .int v3), (3, .int v4)] → W p l e rmX1_hardestPull s m args below meth c H locs 0 0 (MQ below (QI kC g ad (res, S) (AA kC ad s.heap.size)) args s 0 0 (AA kC ad s.heap.size)) (F0 m 4 ls []) := by
  intro n
  induction n with
  | zero =>
    intro v2 v3 v4 H locs ls h
    cases (show (none : Option Int32) = some res from h)
  | succ n ih =>
    intro v2 v3 v4 H locs ls h X hl 
    exact kb_X1_hardestPull_4 C ih h X hl 
set_option maxHeartbeats 4000000 in
set_option maxRecDepth 100000 in
theorem c_X1_hardestPull (l : Launch) (g : GG) (ad : Nat → Nat) (S : ST) (sz : Nat) (a1 : Int32)  {res : Int32} (h : f_X1_hardestPull a1 S = some res) : Met l yX1_hardestPull (WS (.code yX1_hardestPull cX1_hardestPull 4 (some Jvm.ClassFile.FieldType.int))) rmX1_hardestPull (va_Pc [.ref (ad 42), .int a1] (PW kC g ad S sz)) (QI kC g ad (res, S) (AA kC ad sz)) 0 0 (AA kC ad sz) := by
  refine go_m (Qc := fun A => QI kC g ad (res, S) A) (by decide) (Nat.le_of_ble_eq_true rfl) (fun p e s m below meth c ls H locs C X hl => ?_)
  have hx := C.1.1
  have hb := C.1.2.1
  have hl : lv_has ls 4 [(0, .ref (ad 42)), (1, .int a1)] := hl
  have h : (lp (fun _ _ _ => none) (b_X1_hardestPull_4 S) 1000 a1 ((0 : Int32)) ((1 : Int32)) : Option Int32) = some res := h
  refine lv_iconst (v := (0 : Int32)) hx hb dX1_hardestPull_0 (by decide) ?_
  refine lv_istore_n (lv' := [(2, .int ((0 : Int32))), (0, .ref (ad 42)), (1, .int a1)]) hx hb dX1_hardestPull_1 rfl hl (by decide) rfl (fun ls hl => ?_)
  refine lv_iconst (v := (1 : Int32)) hx hb dX1_hardestPull_2 (by decide) ?_
  refine lv_istore_n (lv' := [(3, .int ((1 : Int32))), (2, .int ((0 : Int32))), (0, .ref (ad 42)), (1, .int a1)]) hx hb dX1_hardestPull_3 rfl hl (by decide) rfl (fun ls hl => ?_)
  exact kl_X1_hardestPull_4 C _ h X (lv_sub hl [2, 3, 1, 0] rfl) 

def rmX1_note : Room := { frames := 2, cells := 0, slots := 0, locals := 47 }
def f_X1_note (a1 : Int32) (S : ST) : Option ST :=
  bn1 (f_X9_sineOf ((S.1 43 1) / ((100 : Int32)))) fun r1 => bn1 (f_X9_sizeOf ((S.1 43 1) / ((100 : Int32)))) fun r2 => bn1 (f_X9_sineOf (((900 : Int32)) - r2)) fun r3 => nm (((S.1 43 2) * (S.1 42 10)) / ((573 : Int32))) fun x4 => nm (((((S.1 43 2).toInt64) * ((S.1 43 2).toInt64)) * ((S.1 42 10).toInt64)) / ((80500000 : Int64))) fun x5 => bn1 (f_X9_put 44 a1 (S.1 43 1) S) fun S6 => bn1 (f_X9_put 45 a1 (S6.1 43 2) S6) fun S7 => bn1 (f_X9_put 46 a1 (((S7.1 42 10) * r1) / ((1000 : Int32))) S7) fun S8 => bn1 (f_X9_put 47 a1 ((S8.1 42 9) - (((S8.1 42 10) * r3) / ((1000 : Int32)))) S8) fun S9 => bn1 (f_X9_put 48 a1 ((r3 / ((10 : Int32))) + (x5.toInt32)) S9) fun S10 => bn1 (f_X9_put 49 a1 ((x4 * r3) / ((1000 : Int32))) S10) fun S11 => bn1 (f_X9_put 50 a1 ((x4 * r1) / ((1000 : Int32))) S11) fun S12 => some S12
set_option maxHeartbeats 4000000 in
set_option maxRecDepth 100000 in
theorem c_X1_note (l : Launch) (g : GG) (ad : Nat → Nat) (S : ST) (sz : Nat) (a1 : Int32)  {res : ST} (h : f_X1_note a1 S = some res) : Met l yX1_note (WS (.code yX1_note cX1_note 7 none)) rmX1_note (va_Pc [.ref (ad 42), .int a1] (PW kC g ad S sz)) (QV kC g ad res (AA kC ad sz)) 0 0 (AA kC ad sz) := by
  refine go_m (Qc := fun A => QV kC g ad res A) (by decide) (Nat.le_of_ble_eq_true rfl) (fun p e s m below meth c ls H locs C X hl => ?_)
  have hx := C.1.1
  have hb := C.1.2.1
  have hl : lv_has ls 7 [(0, .ref (ad 42)), (1, .int a1)] := hl
  have h : (bn1 (f_X9_sineOf ((S.1 43 1) / ((100 : Int32)))) fun r1 => bn1 (f_X9_sizeOf ((S.1 43 1) / ((100 : Int32)))) fun r2 => bn1 (f_X9_sineOf (((900 : Int32)) - r2)) fun r3 => nm (((S.1 43 2) * (S.1 42 10)) / ((573 : Int32))) fun x4 => nm (((((S.1 43 2).toInt64) * ((S.1 43 2).toInt64)) * ((S.1 42 10).toInt64)) / ((80500000 : Int64))) fun x5 => bn1 (f_X9_put 44 a1 (S.1 43 1) S) fun S6 => bn1 (f_X9_put 45 a1 (S6.1 43 2) S6) fun S7 => bn1 (f_X9_put 46 a1 (((S7.1 42 10) * r1) / ((1000 : Int32))) S7) fun S8 => bn1 (f_X9_put 47 a1 ((S8.1 42 9) - (((S8.1 42 10) * r3) / ((1000 : Int32)))) S8) fun S9 => bn1 (f_X9_put 48 a1 ((r3 / ((10 : Int32))) + (x5.toInt32)) S9) fun S10 => bn1 (f_X9_put 49 a1 ((x4 * r3) / ((1000 : Int32))) S10) fun S11 => bn1 (f_X9_put 50 a1 ((x4 * r1) / ((1000 : Int32))) S11) fun S12 => some S12 : Option ST) = some res := h
  refine lv_aload_n hx hb dX1_note_0 rfl (lv_at hl 0 rfl) ?_
  refine g_get C X inT1 42 (by decide) (eC_42 g ad S) rfl 0 (by decide) wd_240 (v := .ref (ad 43)) rfl dX1_note_1 ?_
  refine g_getN C X inT2 43 (by decide) (eC_43 g ad S) rfl 1 (by decide) nw_221 (v := .int (S.1 43 1)) rfl dX1_note_4 ?_
  refine lv_bipush (v := (100 : Int32)) hx hb dX1_note_7 (by decide) ?_
  refine lv_idiv hx hb dX1_note_9 (by decide) ?_
  obtain ⟨r1, qr1, h⟩ := bn1_s h
  refine kc_i X (res := (r1, S)) (rSN (As := [.int ((S.1 43 1) / ((100 : Int32)))]) (rest := []) (n := 1) C X (c_X9_sineOf l g ad S _ ((S.1 43 1) / ((100 : Int32)))  qr1) nw_741 wd_710 wd_70 wd_711 rfl rfl (by decide +kernel) ⟨Nat.le_of_ble_eq_true rfl, Nat.le_of_ble_eq_true rfl⟩ rfl hl.1 (lv_room (Nat.le_of_ble_eq_true rfl)) dX1_note_10) (fun H locs X => ?_)
  refine lv_istore_n (lv' := [(2, .int r1), (0, .ref (ad 42)), (1, .int a1)]) hx hb dX1_note_13 rfl hl (by decide) rfl (fun ls hl => ?_)
  refine lv_sipush (v := (900 : Int32)) hx hb dX1_note_14 (by decide) ?_
  refine lv_aload_n hx hb dX1_note_17 rfl (lv_at hl 1 rfl) ?_
  refine g_get C X inT1 42 (by decide) (eC_42 g ad S) rfl 0 (by decide) wd_240 (v := .ref (ad 43)) rfl dX1_note_18 ?_
  refine g_getN C X inT2 43 (by decide) (eC_43 g ad S) rfl 1 (by decide) nw_221 (v := .int (S.1 43 1)) rfl dX1_note_21 ?_
  refine lv_bipush (v := (100 : Int32)) hx hb dX1_note_24 (by decide) ?_
  refine lv_idiv hx hb dX1_note_26 (by decide) ?_
  obtain ⟨r2, qr2, h⟩ := bn1_s h
  refine kc_i X (res := (r2, S)) (rSN (As := [.int ((S.1 43 1) / ((100 : Int32)))]) (rest := [.int ((900 : Int32))]) (n := 1) C X (c_X9_sizeOf l g ad S _ ((S.1 43 1) / ((100 : Int32)))  qr2) nw_742 wd_713 wd_70 wd_714 rfl rfl (by decide +kernel) ⟨Nat.le_of_ble_eq_true rfl, Nat.le_of_ble_eq_true rfl⟩ rfl hl.1 (lv_room (Nat.le_of_ble_eq_true rfl)) dX1_note_27) (fun H locs X => ?_)
  refine lv_isub hx hb dX1_note_30 ?_
  obtain ⟨r3, qr3, h⟩ := bn1_s h
  refine kc_i X (res := (r3, S)) (rSN (As := [.int (((900 : Int32)) - r2)]) (rest := []) (n := 1) C X (c_X9_sineOf l g ad S _ (((900 : Int32)) - r2)  qr3) nw_741 wd_710 wd_70 wd_711 rfl rfl (by decide +kernel) ⟨Nat.le_of_ble_eq_true rfl, Nat.le_of_ble_eq_true rfl⟩ rfl hl.1 (lv_room (Nat.le_of_ble_eq_true rfl)) dX1_note_31) (fun H locs X => ?_)
  refine lv_istore_n (lv' := [(3, .int r3), (2, .int r1), (0, .ref (ad 42)), (1, .int a1)]) hx hb dX1_note_34 rfl hl (by decide) rfl (fun ls hl => ?_)
  refine lv_aload_n hx hb dX1_note_35 rfl (lv_at hl 2 rfl) ?_
  refine g_get C X inT1 42 (by decide) (eC_42 g ad S) rfl 0 (by decide) wd_240 (v := .ref (ad 43)) rfl dX1_note_36 ?_
  refine g_getN C X inT2 43 (by decide) (eC_43 g ad S) rfl 2 (by decide) nw_224 (v := .int (S.1 43 2)) rfl dX1_note_39 ?_
  refine lv_aload_n hx hb dX1_note_42 rfl (lv_at hl 2 rfl) ?_
  refine g_get C X inT1 42 (by decide) (eC_42 g ad S) rfl 10 (by decide) wd_250 (v := .int (S.1 42 10)) rfl dX1_note_43 ?_
  refine lv_imul hx hb dX1_note_46 ?_
  refine lv_sipush (v := (573 : Int32)) hx hb dX1_note_47 (by decide) ?_
  refine lv_idiv hx hb dX1_note_50 (by decide) ?_
  obtain ⟨x4, ex4, h⟩ := nm_s h
  refine tp_i ex4 ?_
  refine lv_istore (lv' := [(4, .int x4), (3, .int r3), (2, .int r1), (0, .ref (ad 42)), (1, .int a1)]) hx hb dX1_note_51 hl (by decide) rfl (fun ls hl => ?_)
  refine lv_aload_n hx hb dX1_note_53 rfl (lv_at hl 3 rfl) ?_
  refine g_get C X inT1 42 (by decide) (eC_42 g ad S) rfl 0 (by decide) wd_240 (v := .ref (ad 43)) rfl dX1_note_54 ?_
  refine g_getN C X inT2 43 (by decide) (eC_43 g ad S) rfl 2 (by decide) nw_224 (v := .int (S.1 43 2)) rfl dX1_note_57 ?_
  refine lv_i2l hx hb dX1_note_60 rfl ?_
  refine lv_aload_n hx hb dX1_note_61 rfl (lv_at hl 3 rfl) ?_
  refine g_get C X inT1 42 (by decide) (eC_42 g ad S) rfl 0 (by decide) wd_240 (v := .ref (ad 43)) rfl dX1_note_62 ?_
  refine g_getN C X inT2 43 (by decide) (eC_43 g ad S) rfl 2 (by decide) nw_224 (v := .int (S.1 43 2)) rfl dX1_note_65 ?_
  refine lv_i2l hx hb dX1_note_68 rfl ?_
  refine lv_lmul hx hb dX1_note_69 ?_
  refine lv_aload_n hx hb dX1_note_70 rfl (lv_at hl 3 rfl) ?_
  refine g_get C X inT1 42 (by decide) (eC_42 g ad S) rfl 10 (by decide) wd_250 (v := .int (S.1 42 10)) rfl dX1_note_71 ?_
  refine lv_i2l hx hb dX1_note_74 rfl ?_
  refine lv_lmul hx hb dX1_note_75 ?_
  refine lv_ldc2 (v := (80500000 : Int64)) hx hb C.1.2.2.2.2.2.1 (C.1.2.2.2.2.2.2 _ (ws_in wd_743)) dX1_note_76 ?_
  refine lv_ldiv hx hb dX1_note_79 (by decide) ?_
  obtain ⟨x5, ex5, h⟩ := nm_s h
  refine tp_l ex5 ?_
  refine lv_lstore (lv' := [(5, .long x5), (4, .int x4), (3, .int r3), (2, .int r1), (0, .ref (ad 42)), (1, .int a1)]) hx hb dX1_note_80 hl (by decide) rfl (fun ls hl => ?_)
  refine lv_aload_n hx hb dX1_note_82 rfl (lv_at hl 4 rfl) ?_
  refine g_get C X inT1 42 (by decide) (eC_42 g ad S) rfl 1 (by decide) wd_241 (v := .ref (ad 44)) rfl dX1_note_83 ?_
  refine lv_iload_n hx hb dX1_note_86 rfl (lv_at hl 5 rfl) ?_
  refine lv_aload_n hx hb dX1_note_87 rfl (lv_at hl 4 rfl) ?_
  refine g_get C X inT1 42 (by decide) (eC_42 g ad S) rfl 0 (by decide) wd_240 (v := .ref (ad 43)) rfl dX1_note_88 ?_
  refine g_getN C X inT2 43 (by decide) (eC_43 g ad S) rfl 1 (by decide) nw_221 (v := .int (S.1 43 1)) rfl dX1_note_91 ?_
  obtain ⟨S6, qS6, h⟩ := bn1_s h
  refine kc_v X (res := S6) (rSN (As := [.ref (ad 44), .int a1, .int (S.1 43 1)]) (rest := []) (n := 3) C X (c_X9_put l g ad S _ 44 a1 (S.1 43 1) (by decide) qS6) nw_744 wd_387 wd_70 wd_388 rfl rfl (by decide +kernel) ⟨Nat.le_of_ble_eq_true rfl, Nat.le_of_ble_eq_true rfl⟩ rfl hl.1 (lv_room (Nat.le_of_ble_eq_true rfl)) dX1_note_94) (fun H locs X => ?_)
  refine lv_aload_n hx hb dX1_note_97 rfl (lv_at hl 4 rfl) ?_
  refine g_get C X inT1 42 (by decide) (eC_42 g ad S6) rfl 2 (by decide) wd_242 (v := .ref (ad 45)) rfl dX1_note_98 ?_
  refine lv_iload_n hx hb dX1_note_101 rfl (lv_at hl 5 rfl) ?_
  refine lv_aload_n hx hb dX1_note_102 rfl (lv_at hl 4 rfl) ?_
  refine g_get C X inT1 42 (by decide) (eC_42 g ad S6) rfl 0 (by decide) wd_240 (v := .ref (ad 43)) rfl dX1_note_103 ?_
  refine g_getN C X inT2 43 (by decide) (eC_43 g ad S6) rfl 2 (by decide) nw_224 (v := .int (S6.1 43 2)) rfl dX1_note_106 ?_
  obtain ⟨S7, qS7, h⟩ := bn1_s h
  refine kc_v X (res := S7) (rSN (As := [.ref (ad 45), .int a1, .int (S6.1 43 2)]) (rest := []) (n := 3) C X (c_X9_put l g ad S6 _ 45 a1 (S6.1 43 2) (by decide) qS7) nw_744 wd_387 wd_70 wd_388 rfl rfl (by decide +kernel) ⟨Nat.le_of_ble_eq_true rfl, Nat.le_of_ble_eq_true rfl⟩ rfl hl.1 (lv_room (Nat.le_of_ble_eq_true rfl)) dX1_note_109) (fun H locs X => ?_)
  refine lv_aload_n hx hb dX1_note_112 rfl (lv_at hl 4 rfl) ?_
  refine g_get C X inT1 42 (by decide) (eC_42 g ad S7) rfl 3 (by decide) wd_243 (v := .ref (ad 46)) rfl dX1_note_113 ?_
  refine lv_iload_n hx hb dX1_note_116 rfl (lv_at hl 5 rfl) ?_
  refine lv_aload_n hx hb dX1_note_117 rfl (lv_at hl 4 rfl) ?_
  refine g_get C X inT1 42 (by decide) (eC_42 g ad S7) rfl 10 (by decide) wd_250 (v := .int (S7.1 42 10)) rfl dX1_note_118 ?_
  refine lv_iload_n hx hb dX1_note_121 rfl (lv_at hl 3 rfl) ?_
  refine lv_imul hx hb dX1_note_122 ?_
  refine lv_sipush (v := (1000 : Int32)) hx hb dX1_note_123 (by decide) ?_
  refine lv_idiv hx hb dX1_note_126 (by decide) ?_
  obtain ⟨S8, qS8, h⟩ := bn1_s h
  refine kc_v X (res := S8) (rSN (As := [.ref (ad 46), .int a1, .int (((S7.1 42 10) * r1) / ((1000 : Int32)))]) (rest := []) (n := 3) C X (c_X9_put l g ad S7 _ 46 a1 (((S7.1 42 10) * r1) / ((1000 : Int32))) (by decide) qS8) nw_744 wd_387 wd_70 wd_388 rfl rfl (by decide +kernel) ⟨Nat.le_of_ble_eq_true rfl, Nat.le_of_ble_eq_true rfl⟩ rfl hl.1 (lv_room (Nat.le_of_ble_eq_true rfl)) dX1_note_127) (fun H locs X => ?_)
  refine lv_aload_n hx hb dX1_note_130 rfl (lv_at hl 4 rfl) ?_
  refine g_get C X inT1 42 (by decide) (eC_42 g ad S8) rfl 4 (by decide) wd_244 (v := .ref (ad 47)) rfl dX1_note_131 ?_
  refine lv_iload_n hx hb dX1_note_134 rfl (lv_at hl 5 rfl) ?_
  refine lv_aload_n hx hb dX1_note_135 rfl (lv_at hl 4 rfl) ?_
  refine g_get C X inT1 42 (by decide) (eC_42 g ad S8) rfl 9 (by decide) wd_249 (v := .int (S8.1 42 9)) rfl dX1_note_136 ?_
  refine lv_aload_n hx hb dX1_note_139 rfl (lv_at hl 4 rfl) ?_
  refine g_get C X inT1 42 (by decide) (eC_42 g ad S8) rfl 10 (by decide) wd_250 (v := .int (S8.1 42 10)) rfl dX1_note_140 ?_
  refine lv_iload_n hx hb dX1_note_143 rfl (lv_at hl 2 rfl) ?_
  refine lv_imul hx hb dX1_note_144 ?_
  refine lv_sipush (v := (1000 : Int32)) hx hb dX1_note_145 (by decide) ?_
  refine lv_idiv hx hb dX1_note_148 (by decide) ?_
  refine lv_isub hx hb dX1_note_149 ?_
  obtain ⟨S9, qS9, h⟩ := bn1_s h
  refine kc_v X (res := S9) (rSN (As := [.ref (ad 47), .int a1, .int ((S8.1 42 9) - (((S8.1 42 10) * r3) / ((1000 : Int32))))]) (rest := []) (n := 3) C X (c_X9_put l g ad S8 _ 47 a1 ((S8.1 42 9) - (((S8.1 42 10) * r3) / ((1000 : Int32)))) (by decide) qS9) nw_744 wd_387 wd_70 wd_388 rfl rfl (by decide +kernel) ⟨Nat.le_of_ble_eq_true rfl, Nat.le_of_ble_eq_true rfl⟩ rfl hl.1 (lv_room (Nat.le_of_ble_eq_true rfl)) dX1_note_150) (fun H locs X => ?_)
  refine lv_aload_n hx hb dX1_note_153 rfl (lv_at hl 4 rfl) ?_
  refine g_get C X inT1 42 (by decide) (eC_42 g ad S9) rfl 5 (by decide) wd_245 (v := .ref (ad 48)) rfl dX1_note_154 ?_
  refine lv_iload_n hx hb dX1_note_157 rfl (lv_at hl 5 rfl) ?_
  refine lv_iload_n hx hb dX1_note_158 rfl (lv_at hl 2 rfl) ?_
  refine lv_bipush (v := (10 : Int32)) hx hb dX1_note_159 (by decide) ?_
  refine lv_idiv hx hb dX1_note_161 (by decide) ?_
  refine lv_lload hx hb dX1_note_162 (lv_at hl 0 rfl) ?_
  refine lv_l2i hx hb dX1_note_164 rfl ?_
  refine lv_iadd hx hb dX1_note_165 ?_
  obtain ⟨S10, qS10, h⟩ := bn1_s h
  refine kc_v X (res := S10) (rSN (As := [.ref (ad 48), .int a1, .int ((r3 / ((10 : Int32))) + (x5.toInt32))]) (rest := []) (n := 3) C X (c_X9_put l g ad S9 _ 48 a1 ((r3 / ((10 : Int32))) + (x5.toInt32)) (by decide) qS10) nw_744 wd_387 wd_70 wd_388 rfl rfl (by decide +kernel) ⟨Nat.le_of_ble_eq_true rfl, Nat.le_of_ble_eq_true rfl⟩ rfl hl.1 (lv_room (Nat.le_of_ble_eq_true rfl)) dX1_note_166) (fun H locs X => ?_)
  refine lv_aload_n hx hb dX1_note_169 rfl (lv_at hl 4 rfl) ?_
  refine g_get C X inT1 42 (by decide) (eC_42 g ad S10) rfl 6 (by decide) wd_246 (v := .ref (ad 49)) rfl dX1_note_170 ?_
  refine lv_iload_n hx hb dX1_note_173 rfl (lv_at hl 5 rfl) ?_
  refine lv_iload hx hb dX1_note_174 (lv_at hl 1 rfl) ?_
  refine lv_iload_n hx hb dX1_note_176 rfl (lv_at hl 2 rfl) ?_
  refine lv_imul hx hb dX1_note_177 ?_
  refine lv_sipush (v := (1000 : Int32)) hx hb dX1_note_178 (by decide) ?_
  refine lv_idiv hx hb dX1_note_181 (by decide) ?_
  obtain ⟨S11, qS11, h⟩ := bn1_s h
  refine kc_v X (res := S11) (rSN (As := [.ref (ad 49), .int a1, .int ((x4 * r3) / ((1000 : Int32)))]) (rest := []) (n := 3) C X (c_X9_put l g ad S10 _ 49 a1 ((x4 * r3) / ((1000 : Int32))) (by decide) qS11) nw_744 wd_387 wd_70 wd_388 rfl rfl (by decide +kernel) ⟨Nat.le_of_ble_eq_true rfl, Nat.le_of_ble_eq_true rfl⟩ rfl hl.1 (lv_room (Nat.le_of_ble_eq_true rfl)) dX1_note_182) (fun H locs X => ?_)
  refine lv_aload_n hx hb dX1_note_185 rfl (lv_at hl 4 rfl) ?_
  refine g_get C X inT1 42 (by decide) (eC_42 g ad S11) rfl 7 (by decide) wd_247 (v := .ref (ad 50)) rfl dX1_note_186 ?_
  refine lv_iload_n hx hb dX1_note_189 rfl (lv_at hl 5 rfl) ?_
  refine lv_iload hx hb dX1_note_190 (lv_at hl 1 rfl) ?_
  refine lv_iload_n hx hb dX1_note_192 rfl (lv_at hl 3 rfl) ?_
  refine lv_imul hx hb dX1_note_193 ?_
  refine lv_sipush (v := (1000 : Int32)) hx hb dX1_note_194 (by decide) ?_
  refine lv_idiv hx hb dX1_note_197 (by decide) ?_
  obtain ⟨S12, qS12, h⟩ := bn1_s h
  refine kc_v X (res := S12) (rSN (As := [.ref (ad 50), .int a1, .int ((x4 * r1) / ((1000 : Int32)))]) (rest := []) (n := 3) C X (c_X9_put l g ad S11 _ 50 a1 ((x4 * r1) / ((1000 : Int32))) (by decide) qS12) nw_744 wd_387 wd_70 wd_388 rfl rfl (by decide +kernel) ⟨Nat.le_of_ble_eq_true rfl, Nat.le_of_ble_eq_true rfl⟩ rfl hl.1 (lv_room (Nat.le_of_ble_eq_true rfl)) dX1_note_198) (fun H locs X => ?_)
  exact rt_v C X rfl (Option.some.inj h) dX1_note_201

def rmX1_trace : Room := { frames := 3, cells := 0, slots := 0, locals := 73 }
def b_X1_trace_94 (K94 : Int32 → ST → Option ST) (v2 : Int32) (S : ST) : Option ST :=
  if ((200 : Int32)) < v2 then (some S) else (bn1 (f_X2_swing 43 S) fun S10 => bn1 (f_X1_note v2 S10) fun S11 => nm (v2 + (1 : Int32)) fun x12 => K94 x12 S11)
def b_X1_trace_41  (v2 : Int32) (v3 : Int32) (v4 : Int32) (v5 : Int32) (S : ST) : Option ST :=
  nm (su S 42 8 ((1 : Int32))) fun S2 => nm (su S2 42 9 v2) fun S3 => nm (su S3 42 10 v3) fun S4 => nm (su S4 42 11 v4) fun S5 => nm (su S5 42 12 v5) fun S6 => bn1 (f_X2_begin 43 (S6.1 42 10) (S6.1 42 11) (S6.1 42 12) S6) fun S7 => bn1 (f_X1_note ((0 : Int32)) S7) fun S8 => lp (fun _ _ => none) (b_X1_trace_94) 1000 ((1 : Int32)) S8
def f_X1_trace (a1 : Int32) (a2 : Int32) (a3 : Int32) (a4 : Int32) (S : ST) : Option ST :=
  if (S.1 42 8) = 0 then (b_X1_trace_41 a1 a2 a3 a4 S) else (if (S.1 42 9) = a1 then (if (S.1 42 10) = a2 then (if (S.1 42 11) = a3 then (if (S.1 42 12) = a4 then (some S) else (b_X1_trace_41 a1 a2 a3 a4 S)) else (b_X1_trace_41 a1 a2 a3 a4 S)) else (b_X1_trace_41 a1 a2 a3 a4 S)) else (b_X1_trace_41 a1 a2 a3 a4 S))
set_option maxHeartbeats 4000000 in
set_option maxRecDepth 100000 in
theorem kb_X1_trace_94 {p : Program} {l : Launch} {e : Env} {s : State} {m : MethodId} {args : Array Value} {below : List Frame} {meth : Method} {c : Code} {g : GG} {ad : Nat → Nat} {res : ST} {S : ST} (C : CX kC g ad p s m args meth c cX1_trace none 6 yX1_trace.cls (.code yX1_trace cX1_trace 6 none)) {K94 : Int32 → ST → Option ST} (hK94 : ∀ {v2 : Int32} {S : ST} {H : Heap} {locs : List Loc} {ls : Array Slot}, K94 v2 S = some res → WX kC g ad s S H locs → lv_has ls 6 [(0, .ref (ad 42)), (5, .int v2)] → W p l e rmX1_trace s m args below meth c H locs 0 0 (MQ below (QV kC g ad res (AA kC ad s.heap.size)) args s 0 0 (AA kC ad s.heap.size)) (F0 m 94 ls [])) {v2 : Int32}  {H : Heap} {locs : List Loc} {ls : Array Slot} (h : b_X1_trace_94 K94 v2 S = some res) (X : WX kC g ad s S H locs) (hl : lv_has ls 6 [(0, .ref (ad 42)), (5, .int v2)])  : W p l e rmX1_trace s m args below meth c H locs 0 0 (MQ below (QV kC g ad res (AA kC ad s.heap.size)) args s 0 0 (AA kC ad s.heap.size)) (F0 m 94 ls []) := by
  have hx := C.1.1
  have hb := C.1.2.1
  have h : (if ((200 : Int32)) < v2 then (some S) else (bn1 (f_X2_swing 43 S) fun S10 => bn1 (f_X1_note v2 S10) fun S11 => nm (v2 + (1 : Int32)) fun x12 => K94 x12 S11) : Option ST) = some res := h
  refine lv_iload hx hb dX1_trace_94 (lv_at hl 1 rfl) ?_
  refine lv_sipush (v := (200 : Int32)) hx hb dX1_trace_96 (by decide) ?_
  refine lv_icmp_gt (tgt := 121) hx hb dX1_trace_99 (by decide) (fun c9 => ?_) (fun c9 => ?_)
  · have h := ip h c9
    exact rt_v C X rfl (Option.some.inj h) dX1_trace_121
  · have h := inn h c9
    refine lv_aload_n hx hb dX1_trace_102 rfl (lv_at hl 0 rfl) ?_
    refine g_get C X inT1 42 (by decide) (eC_42 g ad S) rfl 0 (by decide) wd_240 (v := .ref (ad 43)) rfl dX1_trace_103 ?_
    obtain ⟨S10, qS10, h⟩ := bn1_s h
    refine kc_v X (res := S10) (rV (As := []) (rest := []) (n := 0) (k := 43) C X (c_X2_swing l g ad S _ 43 (by decide) qS10) wd_745 wd_746 wd_747 wd_79 wd_748 (by decide) (eC_43 g ad S) rfl rfl rfl (by decide +kernel) ⟨Nat.le_of_ble_eq_true rfl, Nat.le_of_ble_eq_true rfl⟩ rfl hl.1 (lv_room (Nat.le_of_ble_eq_true rfl)) dX1_trace_106) (fun H locs X => ?_)
    refine lv_aload_n hx hb dX1_trace_109 rfl (lv_at hl 0 rfl) ?_
    refine lv_iload hx hb dX1_trace_110 (lv_at hl 1 rfl) ?_
    obtain ⟨S11, qS11, h⟩ := bn1_s h
    refine kc_v X (res := S11) (rV (As := [.int v2]) (rest := []) (n := 1) (k := 42) C X (c_X1_note l g ad S10 _ v2  qS11) wd_737 wd_739 wd_17 wd_80 wd_740 (by decide) (eC_42 g ad S10) rfl rfl rfl (by decide +kernel) ⟨Nat.le_of_ble_eq_true rfl, Nat.le_of_ble_eq_true rfl⟩ rfl hl.1 (lv_room (Nat.le_of_ble_eq_true rfl)) dX1_trace_112) (fun H locs X => ?_)
    obtain ⟨x12, ex12, h⟩ := nm_s h
    refine lv_iinc (v := x12) (lv' := [(5, .int x12), (0, .ref (ad 42))]) hx hb dX1_trace_115 hl (k := 1) rfl (by rw [ex12]; rfl) (by decide) rfl (fun ls hl => ?_)
    refine lv_goto (tgt := 94) hx hb dX1_trace_118 (by decide) ?_
    exact hK94 h X (lv_sub hl [1, 0] rfl) 
set_option maxHeartbeats 4000000 in
set_option maxRecDepth 100000 in
theorem kl_X1_trace_94 {p : Program} {l : Launch} {e : Env} {s : State} {m : MethodId} {args : Array Value} {below : List Frame} {meth : Method} {c : Code} {g : GG} {ad : Nat → Nat} {res : ST}  (C : CX kC g ad p s m args meth c cX1_trace none 6 yX1_trace.cls (.code yX1_trace cX1_trace 6 none))  : ∀ (n : Nat) {v2 : Int32} {S : ST} {H : Heap} {locs : List Loc} {ls : Array Slot}, (lp (fun _ _ => none) (b_X1_trace_94)) n v2 S = some res → WX kC g ad s S H locs → lv_has ls 6 [(0, .ref (ad 42)), (5, .int v2)] → W p l e rmX1_trace s m args below meth c H locs 0 0 (MQ below (QV kC g ad res (AA kC ad s.heap.size)) args s 0 0 (AA kC ad s.heap.size)) (F0 m 94 ls []) := by
  intro n
  induction n with
  | zero =>
    intro v2 S H locs ls h
    cases (show (none : Option ST) = some res from h)
  | succ n ih =>
    intro v2 S H locs ls h X hl 
    exact kb_X1_trace_94 C ih h X hl 
set_option maxHeartbeats 4000000 in
set_option maxRecDepth 100000 in
theorem kb_X1_trace_41 {p : Program} {l : Launch} {e : Env} {s : State} {m : MethodId} {args : Array Value} {below : List Frame} {meth : Method} {c : Code} {g : GG} {ad : Nat → Nat} {res : ST} {S : ST} (C : CX kC g ad p s m args meth c cX1_trace none 6 yX1_trace.cls (.code yX1_trace cX1_trace 6 none))  {v2 : Int32} {v3 : Int32} {v4 : Int32} {v5 : Int32}  {H : Heap} {locs : List Loc} {ls : Array Slot} (h : b_X1_trace_41 v2 v3 v4 v5 S = some res) (X : WX kC g ad s S H locs) (hl : lv_has ls 6 [(0, .ref (ad 42)), (1, .int v2), (2, .int v3), (3, .int v4), (4, .int v5)])  : W p l e rmX1_trace s m args below meth c H locs 0 0 (MQ below (QV kC g ad res (AA kC ad s.heap.size)) args s 0 0 (AA kC ad s.heap.size)) (F0 m 41 ls []) := by
  have hx := C.1.1
  have hb := C.1.2.1
  have h : (nm (su S 42 8 ((1 : Int32))) fun S2 => nm (su S2 42 9 v2) fun S3 => nm (su S3 42 10 v3) fun S4 => nm (su S4 42 11 v4) fun S5 => nm (su S5 42 12 v5) fun S6 => bn1 (f_X2_begin 43 (S6.1 42 10) (S6.1 42 11) (S6.1 42 12) S6) fun S7 => bn1 (f_X1_note ((0 : Int32)) S7) fun S8 => lp (fun _ _ => none) (b_X1_trace_94) 1000 ((1 : Int32)) S8 : Option ST) = some res := h
  refine lv_aload_n hx hb dX1_trace_41 rfl (lv_at hl 0 rfl) ?_
  refine lv_iconst (v := (1 : Int32)) hx hb dX1_trace_42 (by decide) ?_
  obtain ⟨S2, eS2, h⟩ := nm_s h
  refine g_put (S' := S2) C X inT1 tyX1 tyX1_ok nmX1 42 (by decide) (eC_42 g ad S) rfl 8 (by decide) wd_248 rfl (by decide) rfl (Nat.le_of_ble_eq_true rfl) (by subst eS2; rfl) (by subst eS2; exact fun i hi => ent_offu hi) dX1_trace_43 (fun H locs X => ?_)
  refine lv_aload_n hx hb dX1_trace_46 rfl (lv_at hl 0 rfl) ?_
  refine lv_iload_n hx hb dX1_trace_47 rfl (lv_at hl 1 rfl) ?_
  obtain ⟨S3, eS3, h⟩ := nm_s h
  refine g_put (S' := S3) C X inT1 tyX1 tyX1_ok nmX1 42 (by decide) (eC_42 g ad S2) rfl 9 (by decide) wd_249 rfl (by rfl) rfl (Nat.le_of_ble_eq_true rfl) (by subst eS3; rfl) (by subst eS3; exact fun i hi => ent_offu hi) dX1_trace_48 (fun H locs X => ?_)
  refine lv_aload_n hx hb dX1_trace_51 rfl (lv_at hl 0 rfl) ?_
  refine lv_iload_n hx hb dX1_trace_52 rfl (lv_at hl 2 rfl) ?_
  obtain ⟨S4, eS4, h⟩ := nm_s h
  refine g_put (S' := S4) C X inT1 tyX1 tyX1_ok nmX1 42 (by decide) (eC_42 g ad S3) rfl 10 (by decide) wd_250 rfl (by rfl) rfl (Nat.le_of_ble_eq_true rfl) (by subst eS4; rfl) (by subst eS4; exact fun i hi => ent_offu hi) dX1_trace_53 (fun H locs X => ?_)
  refine lv_aload_n hx hb dX1_trace_56 rfl (lv_at hl 0 rfl) ?_
  refine lv_iload_n hx hb dX1_trace_57 rfl (lv_at hl 3 rfl) ?_
  obtain ⟨S5, eS5, h⟩ := nm_s h
  refine g_put (S' := S5) C X inT1 tyX1 tyX1_ok nmX1 42 (by decide) (eC_42 g ad S4) rfl 11 (by decide) wd_251 rfl (by rfl) rfl (Nat.le_of_ble_eq_true rfl) (by subst eS5; rfl) (by subst eS5; exact fun i hi => ent_offu hi) dX1_trace_58 (fun H locs X => ?_)
  refine lv_aload_n hx hb dX1_trace_61 rfl (lv_at hl 0 rfl) ?_
  refine lv_iload hx hb dX1_trace_62 (lv_at hl 4 rfl) ?_
  obtain ⟨S6, eS6, h⟩ := nm_s h
  refine g_put (S' := S6) C X inT1 tyX1 tyX1_ok nmX1 42 (by decide) (eC_42 g ad S5) rfl 12 (by decide) wd_252 rfl (by rfl) rfl (Nat.le_of_ble_eq_true rfl) (by subst eS6; rfl) (by subst eS6; exact fun i hi => ent_offu hi) dX1_trace_64 (fun H locs X => ?_)
  refine lv_aload_n hx hb dX1_trace_67 rfl (lv_at hl 0 rfl) ?_
  refine g_get C X inT1 42 (by decide) (eC_42 g ad S6) rfl 0 (by decide) wd_240 (v := .ref (ad 43)) rfl dX1_trace_68 ?_
  refine lv_aload_n hx hb dX1_trace_71 rfl (lv_at hl 0 rfl) ?_
  refine g_get C X inT1 42 (by decide) (eC_42 g ad S6) rfl 10 (by decide) wd_250 (v := .int (S6.1 42 10)) rfl dX1_trace_72 ?_
  refine lv_aload_n hx hb dX1_trace_75 rfl (lv_at hl 0 rfl) ?_
  refine g_get C X inT1 42 (by decide) (eC_42 g ad S6) rfl 11 (by decide) wd_251 (v := .int (S6.1 42 11)) rfl dX1_trace_76 ?_
  refine lv_aload_n hx hb dX1_trace_79 rfl (lv_at hl 0 rfl) ?_
  refine g_get C X inT1 42 (by decide) (eC_42 g ad S6) rfl 12 (by decide) wd_252 (v := .int (S6.1 42 12)) rfl dX1_trace_80 ?_
  obtain ⟨S7, qS7, h⟩ := bn1_s h
  refine kc_v X (res := S7) (rV (As := [.int (S6.1 42 10), .int (S6.1 42 11), .int (S6.1 42 12)]) (rest := []) (n := 3) (k := 43) C X (c_X2_begin l g ad S6 _ 43 (S6.1 42 10) (S6.1 42 11) (S6.1 42 12) (by decide) qS7) wd_730 wd_731 wd_732 wd_79 wd_733 (by decide) (eC_43 g ad S6) rfl rfl rfl (by decide +kernel) ⟨Nat.le_of_ble_eq_true rfl, Nat.le_of_ble_eq_true rfl⟩ rfl hl.1 (lv_room (Nat.le_of_ble_eq_true rfl)) dX1_trace_83) (fun H locs X => ?_)
  refine lv_aload_n hx hb dX1_trace_86 rfl (lv_at hl 0 rfl) ?_
  refine lv_iconst (v := (0 : Int32)) hx hb dX1_trace_87 (by decide) ?_
  obtain ⟨S8, qS8, h⟩ := bn1_s h
  refine kc_v X (res := S8) (rV (As := [.int ((0 : Int32))]) (rest := []) (n := 1) (k := 42) C X (c_X1_note l g ad S7 _ ((0 : Int32))  qS8) wd_737 wd_739 wd_17 wd_80 wd_740 (by decide) (eC_42 g ad S7) rfl rfl rfl (by decide +kernel) ⟨Nat.le_of_ble_eq_true rfl, Nat.le_of_ble_eq_true rfl⟩ rfl hl.1 (lv_room (Nat.le_of_ble_eq_true rfl)) dX1_trace_88) (fun H locs X => ?_)
  refine lv_iconst (v := (1 : Int32)) hx hb dX1_trace_91 (by decide) ?_
  refine lv_istore (lv' := [(5, .int ((1 : Int32))), (0, .ref (ad 42)), (1, .int v2), (2, .int v3), (3, .int v4), (4, .int v5)]) hx hb dX1_trace_92 hl (by decide) rfl (fun ls hl => ?_)
  exact kl_X1_trace_94 C _ h X (lv_sub hl [1, 0] rfl) 
set_option maxHeartbeats 4000000 in
set_option maxRecDepth 100000 in
theorem c_X1_trace (l : Launch) (g : GG) (ad : Nat → Nat) (S : ST) (sz : Nat) (a1 : Int32) (a2 : Int32) (a3 : Int32) (a4 : Int32)  {res : ST} (h : f_X1_trace a1 a2 a3 a4 S = some res) : Met l yX1_trace (WS (.code yX1_trace cX1_trace 6 none)) rmX1_trace (va_Pc [.ref (ad 42), .int a1, .int a2, .int a3, .int a4] (PW kC g ad S sz)) (QV kC g ad res (AA kC ad sz)) 0 0 (AA kC ad sz) := by
  refine go_m (Qc := fun A => QV kC g ad res A) (by decide) (Nat.le_of_ble_eq_true rfl) (fun p e s m below meth c ls H locs C X hl => ?_)
  have hx := C.1.1
  have hb := C.1.2.1
  have hl : lv_has ls 6 [(0, .ref (ad 42)), (1, .int a1), (2, .int a2), (3, .int a3), (4, .int a4)] := hl
  have h : (if (S.1 42 8) = 0 then (b_X1_trace_41 a1 a2 a3 a4 S) else (if (S.1 42 9) = a1 then (if (S.1 42 10) = a2 then (if (S.1 42 11) = a3 then (if (S.1 42 12) = a4 then (some S) else (b_X1_trace_41 a1 a2 a3 a4 S)) else (b_X1_trace_41 a1 a2 a3 a4 S)) else (b_X1_trace_41 a1 a2 a3 a4 S)) else (b_X1_trace_41 a1 a2 a3 a4 S)) : Option ST) = some res := h
  refine lv_aload_n hx hb dX1_trace_0 rfl (lv_at hl 0 rfl) ?_
  refine g_get C X inT1 42 (by decide) (eC_42 g ad S) rfl 8 (by decide) wd_248 (v := .int (S.1 42 8)) rfl dX1_trace_1 ?_
  refine lv_if_eq (tgt := 41) hx hb dX1_trace_4 (by decide) (fun c1 => ?_) (fun c1 => ?_)
  · have h := ip h c1
    exact kb_X1_trace_41 C h X (lv_sub hl [0, 1, 2, 3, 4] rfl) 
  · have h := inn h c1
    refine lv_aload_n hx hb dX1_trace_7 rfl (lv_at hl 0 rfl) ?_
    refine g_get C X inT1 42 (by decide) (eC_42 g ad S) rfl 9 (by decide) wd_249 (v := .int (S.1 42 9)) rfl dX1_trace_8 ?_
    refine lv_iload_n hx hb dX1_trace_11 rfl (lv_at hl 1 rfl) ?_
    refine lv_icmp_ne (tgt := 41) hx hb dX1_trace_12 (by decide) (fun c13 => ?_) (fun c13 => ?_)
    · have h := inn h c13
      exact kb_X1_trace_41 C h X (lv_sub hl [0, 1, 2, 3, 4] rfl) 
    · have h := ip h c13
      refine lv_aload_n hx hb dX1_trace_15 rfl (lv_at hl 0 rfl) ?_
      refine g_get C X inT1 42 (by decide) (eC_42 g ad S) rfl 10 (by decide) wd_250 (v := .int (S.1 42 10)) rfl dX1_trace_16 ?_
      refine lv_iload_n hx hb dX1_trace_19 rfl (lv_at hl 2 rfl) ?_
      refine lv_icmp_ne (tgt := 41) hx hb dX1_trace_20 (by decide) (fun c14 => ?_) (fun c14 => ?_)
      · have h := inn h c14
        exact kb_X1_trace_41 C h X (lv_sub hl [0, 1, 2, 3, 4] rfl) 
      · have h := ip h c14
        refine lv_aload_n hx hb dX1_trace_23 rfl (lv_at hl 0 rfl) ?_
        refine g_get C X inT1 42 (by decide) (eC_42 g ad S) rfl 11 (by decide) wd_251 (v := .int (S.1 42 11)) rfl dX1_trace_24 ?_
        refine lv_iload_n hx hb dX1_trace_27 rfl (lv_at hl 3 rfl) ?_
        refine lv_icmp_ne (tgt := 41) hx hb dX1_trace_28 (by decide) (fun c15 => ?_) (fun c15 => ?_)
        · have h := inn h c15
          exact kb_X1_trace_41 C h X (lv_sub hl [0, 1, 2, 3, 4] rfl) 
        · have h := ip h c15
          refine lv_aload_n hx hb dX1_trace_31 rfl (lv_at hl 0 rfl) ?_
          refine g_get C X inT1 42 (by decide) (eC_42 g ad S) rfl 12 (by decide) wd_252 (v := .int (S.1 42 12)) rfl dX1_trace_32 ?_
          refine lv_iload hx hb dX1_trace_35 (lv_at hl 4 rfl) ?_
          refine lv_icmp_ne (tgt := 41) hx hb dX1_trace_37 (by decide) (fun c16 => ?_) (fun c16 => ?_)
          · have h := inn h c16
            exact kb_X1_trace_41 C h X (lv_sub hl [0, 1, 2, 3, 4] rfl) 
          · have h := ip h c16
            exact rt_v C X rfl (Option.some.inj h) dX1_trace_40

def rmX0_suit : Room := { frames := 2, cells := 0, slots := 0, locals := 42 }
def f_X0_suit (a1 : Nat) (S : ST) : Option ST :=
  bn1 (f_X6_number a1 ((0 : Int32)) S) fun r1 => nm (su S 51 4 r1) fun S2 => bn1 (f_X6_number a1 ((1 : Int32)) S2) fun r3 => nm (su S2 51 5 r3) fun S4 => bn1 (f_X6_number a1 ((2 : Int32)) S4) fun r5 => nm (su S4 51 6 r5) fun S6 => bn1 (f_X6_number a1 ((3 : Int32)) S6) fun r7 => nm (su S6 51 7 r7) fun S8 => bn1 (f_X6_number a1 ((4 : Int32)) S8) fun r9 => nm (su S8 51 8 r9) fun S10 => some S10
set_option maxHeartbeats 4000000 in
set_option maxRecDepth 100000 in
theorem c_X0_suit (l : Launch) (g : GG) (ad : Nat → Nat) (S : ST) (sz : Nat) (a1 : Nat) (f1 : swk a1 = true) {res : ST} (h : f_X0_suit a1 S = some res) : Met l yX0_suit (WS (.code yX0_suit cX0_suit 2 none)) rmX0_suit (va_Pc [.ref (ad 51), .ref (ad a1)] (PW kC g ad S sz)) (QV kC g ad res (AA kC ad sz)) 0 0 (AA kC ad sz) := by
  refine go_m (Qc := fun A => QV kC g ad res A) (by decide) (Nat.le_of_ble_eq_true rfl) (fun p e s m below meth c ls H locs C X hl => ?_)
  have hx := C.1.1
  have hb := C.1.2.1
  have hl : lv_has ls 2 [(0, .ref (ad 51)), (1, .ref (ad a1))] := hl
  have h : (bn1 (f_X6_number a1 ((0 : Int32)) S) fun r1 => nm (su S 51 4 r1) fun S2 => bn1 (f_X6_number a1 ((1 : Int32)) S2) fun r3 => nm (su S2 51 5 r3) fun S4 => bn1 (f_X6_number a1 ((2 : Int32)) S4) fun r5 => nm (su S4 51 6 r5) fun S6 => bn1 (f_X6_number a1 ((3 : Int32)) S6) fun r7 => nm (su S6 51 7 r7) fun S8 => bn1 (f_X6_number a1 ((4 : Int32)) S8) fun r9 => nm (su S8 51 8 r9) fun S10 => some S10 : Option ST) = some res := h
  refine lv_aload_n hx hb dX0_suit_0 rfl (lv_at hl 0 rfl) ?_
  refine lv_aload_n hx hb dX0_suit_1 rfl (lv_at hl 1 rfl) ?_
  refine lv_iconst (v := (0 : Int32)) hx hb dX0_suit_2 (by decide) ?_
  obtain ⟨r1, qr1, h⟩ := bn1_s h
  refine kc_i X (res := (r1, S)) (rV (As := [.int ((0 : Int32))]) (rest := [.ref (ad 51)]) (n := 1) (k := a1) C X (c_X6_number l g ad S _ a1 ((0 : Int32)) f1 qr1) wd_792 wd_677 wd_678 wd_77 wd_679 (lt_sw f1) (e_sw g ad S f1) rfl rfl rfl (by decide +kernel) ⟨Nat.le_of_ble_eq_true rfl, Nat.le_of_ble_eq_true rfl⟩ rfl hl.1 (lv_room (Nat.le_of_ble_eq_true rfl)) dX0_suit_3) (fun H locs X => ?_)
  obtain ⟨S2, eS2, h⟩ := nm_s h
  refine g_put (S' := S2) C X inT0 tyX0 tyX0_ok nmX0 51 (by decide) (eC_51 g ad S) rfl 4 (by decide) wd_292 rfl (by rfl) rfl (Nat.le_of_ble_eq_true rfl) (by subst eS2; rfl) (by subst eS2; exact fun i hi => ent_offu hi) dX0_suit_6 (fun H locs X => ?_)
  refine lv_aload_n hx hb dX0_suit_9 rfl (lv_at hl 0 rfl) ?_
  refine lv_aload_n hx hb dX0_suit_10 rfl (lv_at hl 1 rfl) ?_
  refine lv_iconst (v := (1 : Int32)) hx hb dX0_suit_11 (by decide) ?_
  obtain ⟨r3, qr3, h⟩ := bn1_s h
  refine kc_i X (res := (r3, S2)) (rV (As := [.int ((1 : Int32))]) (rest := [.ref (ad 51)]) (n := 1) (k := a1) C X (c_X6_number l g ad S2 _ a1 ((1 : Int32)) f1 qr3) wd_792 wd_677 wd_678 wd_77 wd_679 (lt_sw f1) (e_sw g ad S2 f1) rfl rfl rfl (by decide +kernel) ⟨Nat.le_of_ble_eq_true rfl, Nat.le_of_ble_eq_true rfl⟩ rfl hl.1 (lv_room (Nat.le_of_ble_eq_true rfl)) dX0_suit_12) (fun H locs X => ?_)
  obtain ⟨S4, eS4, h⟩ := nm_s h
  refine g_put (S' := S4) C X inT0 tyX0 tyX0_ok nmX0 51 (by decide) (eC_51 g ad S2) rfl 5 (by decide) wd_293 rfl (by rfl) rfl (Nat.le_of_ble_eq_true rfl) (by subst eS4; rfl) (by subst eS4; exact fun i hi => ent_offu hi) dX0_suit_15 (fun H locs X => ?_)
  refine lv_aload_n hx hb dX0_suit_18 rfl (lv_at hl 0 rfl) ?_
  refine lv_aload_n hx hb dX0_suit_19 rfl (lv_at hl 1 rfl) ?_
  refine lv_iconst (v := (2 : Int32)) hx hb dX0_suit_20 (by decide) ?_
  obtain ⟨r5, qr5, h⟩ := bn1_s h
  refine kc_i X (res := (r5, S4)) (rV (As := [.int ((2 : Int32))]) (rest := [.ref (ad 51)]) (n := 1) (k := a1) C X (c_X6_number l g ad S4 _ a1 ((2 : Int32)) f1 qr5) wd_792 wd_677 wd_678 wd_77 wd_679 (lt_sw f1) (e_sw g ad S4 f1) rfl rfl rfl (by decide +kernel) ⟨Nat.le_of_ble_eq_true rfl, Nat.le_of_ble_eq_true rfl⟩ rfl hl.1 (lv_room (Nat.le_of_ble_eq_true rfl)) dX0_suit_21) (fun H locs X => ?_)
  obtain ⟨S6, eS6, h⟩ := nm_s h
  refine g_put (S' := S6) C X inT0 tyX0 tyX0_ok nmX0 51 (by decide) (eC_51 g ad S4) rfl 6 (by decide) wd_294 rfl (by rfl) rfl (Nat.le_of_ble_eq_true rfl) (by subst eS6; rfl) (by subst eS6; exact fun i hi => ent_offu hi) dX0_suit_24 (fun H locs X => ?_)
  refine lv_aload_n hx hb dX0_suit_27 rfl (lv_at hl 0 rfl) ?_
  refine lv_aload_n hx hb dX0_suit_28 rfl (lv_at hl 1 rfl) ?_
  refine lv_iconst (v := (3 : Int32)) hx hb dX0_suit_29 (by decide) ?_
  obtain ⟨r7, qr7, h⟩ := bn1_s h
  refine kc_i X (res := (r7, S6)) (rV (As := [.int ((3 : Int32))]) (rest := [.ref (ad 51)]) (n := 1) (k := a1) C X (c_X6_number l g ad S6 _ a1 ((3 : Int32)) f1 qr7) wd_792 wd_677 wd_678 wd_77 wd_679 (lt_sw f1) (e_sw g ad S6 f1) rfl rfl rfl (by decide +kernel) ⟨Nat.le_of_ble_eq_true rfl, Nat.le_of_ble_eq_true rfl⟩ rfl hl.1 (lv_room (Nat.le_of_ble_eq_true rfl)) dX0_suit_30) (fun H locs X => ?_)
  obtain ⟨S8, eS8, h⟩ := nm_s h
  refine g_put (S' := S8) C X inT0 tyX0 tyX0_ok nmX0 51 (by decide) (eC_51 g ad S6) rfl 7 (by decide) wd_295 rfl (by rfl) rfl (Nat.le_of_ble_eq_true rfl) (by subst eS8; rfl) (by subst eS8; exact fun i hi => ent_offu hi) dX0_suit_33 (fun H locs X => ?_)
  refine lv_aload_n hx hb dX0_suit_36 rfl (lv_at hl 0 rfl) ?_
  refine lv_aload_n hx hb dX0_suit_37 rfl (lv_at hl 1 rfl) ?_
  refine lv_iconst (v := (4 : Int32)) hx hb dX0_suit_38 (by decide) ?_
  obtain ⟨r9, qr9, h⟩ := bn1_s h
  refine kc_i X (res := (r9, S8)) (rV (As := [.int ((4 : Int32))]) (rest := [.ref (ad 51)]) (n := 1) (k := a1) C X (c_X6_number l g ad S8 _ a1 ((4 : Int32)) f1 qr9) wd_792 wd_677 wd_678 wd_77 wd_679 (lt_sw f1) (e_sw g ad S8 f1) rfl rfl rfl (by decide +kernel) ⟨Nat.le_of_ble_eq_true rfl, Nat.le_of_ble_eq_true rfl⟩ rfl hl.1 (lv_room (Nat.le_of_ble_eq_true rfl)) dX0_suit_39) (fun H locs X => ?_)
  obtain ⟨S10, eS10, h⟩ := nm_s h
  refine g_put (S' := S10) C X inT0 tyX0 tyX0_ok nmX0 51 (by decide) (eC_51 g ad S8) rfl 8 (by decide) wd_298 rfl (by rfl) rfl (Nat.le_of_ble_eq_true rfl) (by subst eS10; rfl) (by subst eS10; exact fun i hi => ent_offu hi) dX0_suit_42 (fun H locs X => ?_)
  exact rt_v C X rfl (Option.some.inj h) dX0_suit_45

def rmX0_stopsBehind : Room := { frames := 2, cells := 0, slots := 0, locals := 42 }
def b_X0_stopsBehind_82 (S : ST)  (v2 : Int32) (v3 : Int32) : Option Int32 :=
  if v3 = 0 then (some ((0 : Int32))) else (bn1 (f_X3_cellAt v2) fun r9 => bn1 (f_X3_kind r9 S) fun r10 => if r10 = 0 then (some ((8 : Int32))) else (some ((0 : Int32))))
def b_X0_stopsBehind_56 (S : ST)  (v2 : Int32) (v3 : Int32) : Option Int32 :=
  bn1 (f_X1_height v2 S) fun r6 => if (-(S.1 51 3)) ≤ (r6 - (S.1 51 5)) then (b_X0_stopsBehind_82 S v3 ((0 : Int32))) else (b_X0_stopsBehind_82 S v3 ((1 : Int32)))
def f_X0_stopsBehind (a1 : Int32) (a2 : Int32) (a3 : Int32) (S : ST) : Option Int32 :=
  if a2 ≤ (S.1 51 2) then (if 0 ≤ a3 then (bn1 (f_X1_x a1 S) fun r3 => bn1 (f_X1_pace a1 S) fun r4 => if 0 ≤ r4 then (b_X0_stopsBehind_56 S a1 r3) else (bn1 (f_X3_number ((6 : Int32)) S) fun r12 => if (-r12) ≤ r3 then (b_X0_stopsBehind_56 S a1 r3) else (some ((6 : Int32))))) else (some ((5 : Int32)))) else (some ((7 : Int32)))
set_option maxHeartbeats 4000000 in
set_option maxRecDepth 100000 in
theorem kb_X0_stopsBehind_82 {p : Program} {l : Launch} {e : Env} {s : State} {m : MethodId} {args : Array Value} {below : List Frame} {meth : Method} {c : Code} {g : GG} {ad : Nat → Nat} {res : Int32} {S : ST} (C : CX kC g ad p s m args meth c cX0_stopsBehind (some Jvm.ClassFile.FieldType.int) 6 yX0_stopsBehind.cls (.code yX0_stopsBehind cX0_stopsBehind 6 (some Jvm.ClassFile.FieldType.int)))  {v2 : Int32} {v3 : Int32}  {H : Heap} {locs : List Loc} {ls : Array Slot} (h : b_X0_stopsBehind_82 S v2 v3 = some res) (X : WX kC g ad s S H locs) (hl : lv_has ls 6 [(0, .ref (ad 51)), (4, .int v2)])  : W p l e rmX0_stopsBehind s m args below meth c H locs 0 0 (MQ below (QI kC g ad (res, S) (AA kC ad s.heap.size)) args s 0 0 (AA kC ad s.heap.size)) (F0 m 82 ls [.int v3]) := by
  have hx := C.1.1
  have hb := C.1.2.1
  have h : (if v3 = 0 then (some ((0 : Int32))) else (bn1 (f_X3_cellAt v2) fun r9 => bn1 (f_X3_kind r9 S) fun r10 => if r10 = 0 then (some ((8 : Int32))) else (some ((0 : Int32)))) : Option Int32) = some res := h
  refine lv_istore (lv' := [(5, .int v3), (0, .ref (ad 51)), (4, .int v2)]) hx hb dX0_stopsBehind_82 hl (by decide) rfl (fun ls hl => ?_)
  refine lv_iload hx hb dX0_stopsBehind_84 (lv_at hl 0 rfl) ?_
  refine lv_if_eq (tgt := 109) hx hb dX0_stopsBehind_86 (by decide) (fun c8 => ?_) (fun c8 => ?_)
  · have h := ip h c8
    refine lv_iconst (v := (0 : Int32)) hx hb dX0_stopsBehind_109 (by decide) ?_
    exact rt_i C X rfl (congrArg (fun z => (z, S)) (Option.some.inj h)) dX0_stopsBehind_110
  · have h := inn h c8
    refine lv_aload_n hx hb dX0_stopsBehind_89 rfl (lv_at hl 1 rfl) ?_
    refine g_get C X inT0 51 (by decide) (eC_51 g ad S) rfl 0 (by decide) wd_286 (v := .ref (ad 4)) rfl dX0_stopsBehind_90 ?_
    refine lv_iload hx hb dX0_stopsBehind_93 (lv_at hl 2 rfl) ?_
    obtain ⟨r9, qr9, h⟩ := bn1_s h
    refine kc_i X (res := (r9, S)) (rS (As := [.int v2]) (rest := [.ref (ad 4)]) (n := 1) C X (c_X3_cellAt l g ad S _ v2  qr9) wd_807 wd_808 wd_73 wd_809 rfl rfl (by decide +kernel) ⟨Nat.le_of_ble_eq_true rfl, Nat.le_of_ble_eq_true rfl⟩ rfl hl.1 (lv_room (Nat.le_of_ble_eq_true rfl)) dX0_stopsBehind_95) (fun H locs X => ?_)
    obtain ⟨r10, qr10, h⟩ := bn1_s h
    refine kc_i X (res := (r10, S)) (rV (As := [.int r9]) (rest := []) (n := 1) (k := 4) C X (c_X3_kind l g ad S _ r9  qr10) wd_810 wd_646 wd_647 wd_73 wd_648 (by decide) (eC_4 g ad S) rfl rfl rfl (by decide +kernel) ⟨Nat.le_of_ble_eq_true rfl, Nat.le_of_ble_eq_true rfl⟩ rfl hl.1 (lv_room (Nat.le_of_ble_eq_true rfl)) dX0_stopsBehind_98) (fun H locs X => ?_)
    refine lv_if_ne (tgt := 109) hx hb dX0_stopsBehind_101 (by decide) (fun c11 => ?_) (fun c11 => ?_)
    · have h := inn h c11
      refine lv_iconst (v := (0 : Int32)) hx hb dX0_stopsBehind_109 (by decide) ?_
      exact rt_i C X rfl (congrArg (fun z => (z, S)) (Option.some.inj h)) dX0_stopsBehind_110
    · have h := ip h c11
      refine lv_bipush (v := (8 : Int32)) hx hb dX0_stopsBehind_104 (by decide) ?_
      refine lv_goto (tgt := 110) hx hb dX0_stopsBehind_106 (by decide) ?_
      exact rt_i C X rfl (congrArg (fun z => (z, S)) (Option.some.inj h)) dX0_stopsBehind_110
set_option maxHeartbeats 4000000 in
set_option maxRecDepth 100000 in
theorem kb_X0_stopsBehind_56 {p : Program} {l : Launch} {e : Env} {s : State} {m : MethodId} {args : Array Value} {below : List Frame} {meth : Method} {c : Code} {g : GG} {ad : Nat → Nat} {res : Int32} {S : ST} (C : CX kC g ad p s m args meth c cX0_stopsBehind (some Jvm.ClassFile.FieldType.int) 6 yX0_stopsBehind.cls (.code yX0_stopsBehind cX0_stopsBehind 6 (some Jvm.ClassFile.FieldType.int)))  {v2 : Int32} {v3 : Int32}  {H : Heap} {locs : List Loc} {ls : Array Slot} (h : b_X0_stopsBehind_56 S v2 v3 = some res) (X : WX kC g ad s S H locs) (hl : lv_has ls 6 [(0, .ref (ad 51)), (1, .int v2), (4, .int v3)])  : W p l e rmX0_stopsBehind s m args below meth c H locs 0 0 (MQ below (QI kC g ad (res, S) (AA kC ad s.heap.size)) args s 0 0 (AA kC ad s.heap.size)) (F0 m 56 ls []) := by
  have hx := C.1.1
  have hb := C.1.2.1
  have h : (bn1 (f_X1_height v2 S) fun r6 => if (-(S.1 51 3)) ≤ (r6 - (S.1 51 5)) then (b_X0_stopsBehind_82 S v3 ((0 : Int32))) else (b_X0_stopsBehind_82 S v3 ((1 : Int32))) : Option Int32) = some res := h
  refine lv_aload_n hx hb dX0_stopsBehind_56 rfl (lv_at hl 0 rfl) ?_
  refine g_get C X inT0 51 (by decide) (eC_51 g ad S) rfl 1 (by decide) wd_287 (v := .ref (ad 42)) rfl dX0_stopsBehind_57 ?_
  refine lv_iload_n hx hb dX0_stopsBehind_60 rfl (lv_at hl 1 rfl) ?_
  obtain ⟨r6, qr6, h⟩ := bn1_s h
  refine kc_i X (res := (r6, S)) (rV (As := [.int v2]) (rest := []) (n := 1) (k := 42) C X (c_X1_height l g ad S _ v2  qr6) wd_806 wd_764 wd_765 wd_80 wd_766 (by decide) (eC_42 g ad S) rfl rfl rfl (by decide +kernel) ⟨Nat.le_of_ble_eq_true rfl, Nat.le_of_ble_eq_true rfl⟩ rfl hl.1 (lv_room (Nat.le_of_ble_eq_true rfl)) dX0_stopsBehind_61) (fun H locs X => ?_)
  refine lv_aload_n hx hb dX0_stopsBehind_64 rfl (lv_at hl 0 rfl) ?_
  refine g_get C X inT0 51 (by decide) (eC_51 g ad S) rfl 5 (by decide) wd_293 (v := .int (S.1 51 5)) rfl dX0_stopsBehind_65 ?_
  refine lv_isub hx hb dX0_stopsBehind_68 ?_
  refine lv_aload_n hx hb dX0_stopsBehind_69 rfl (lv_at hl 0 rfl) ?_
  refine g_get C X inT0 51 (by decide) (eC_51 g ad S) rfl 3 (by decide) wd_290 (v := .int (S.1 51 3)) rfl dX0_stopsBehind_70 ?_
  refine lv_ineg hx hb dX0_stopsBehind_73 ?_
  refine lv_icmp_ge (tgt := 81) hx hb dX0_stopsBehind_74 (by decide) (fun c7 => ?_) (fun c7 => ?_)
  · have h := ip h c7
    refine lv_iconst (v := (0 : Int32)) hx hb dX0_stopsBehind_81 (by decide) ?_
    exact kb_X0_stopsBehind_82 C h X (lv_sub hl [0, 2] rfl) 
  · have h := inn h c7
    refine lv_iconst (v := (1 : Int32)) hx hb dX0_stopsBehind_77 (by decide) ?_
    refine lv_goto (tgt := 82) hx hb dX0_stopsBehind_78 (by decide) ?_
    exact kb_X0_stopsBehind_82 C h X (lv_sub hl [0, 2] rfl) 
set_option maxHeartbeats 4000000 in
set_option maxRecDepth 100000 in
theorem c_X0_stopsBehind (l : Launch) (g : GG) (ad : Nat → Nat) (S : ST) (sz : Nat) (a1 : Int32) (a2 : Int32) (a3 : Int32)  {res : Int32} (h : f_X0_stopsBehind a1 a2 a3 S = some res) : Met l yX0_stopsBehind (WS (.code yX0_stopsBehind cX0_stopsBehind 6 (some Jvm.ClassFile.FieldType.int))) rmX0_stopsBehind (va_Pc [.ref (ad 51), .int a1, .int a2, .int a3] (PW kC g ad S sz)) (QI kC g ad (res, S) (AA kC ad sz)) 0 0 (AA kC ad sz) := by
  refine go_m (Qc := fun A => QI kC g ad (res, S) A) (by decide) (Nat.le_of_ble_eq_true rfl) (fun p e s m below meth c ls H locs C X hl => ?_)
  have hx := C.1.1
  have hb := C.1.2.1
  have hl : lv_has ls 6 [(0, .ref (ad 51)), (1, .int a1), (2, .int a2), (3, .int a3)] := hl
  have h : (if a2 ≤ (S.1 51 2) then (if 0 ≤ a3 then (bn1 (f_X1_x a1 S) fun r3 => bn1 (f_X1_pace a1 S) fun r4 => if 0 ≤ r4 then (b_X0_stopsBehind_56 S a1 r3) else (bn1 (f_X3_number ((6 : Int32)) S) fun r12 => if (-r12) ≤ r3 then (b_X0_stopsBehind_56 S a1 r3) else (some ((6 : Int32))))) else (some ((5 : Int32)))) else (some ((7 : Int32))) : Option Int32) = some res := h
  refine lv_iload_n hx hb dX0_stopsBehind_0 rfl (lv_at hl 2 rfl) ?_
  refine lv_aload_n hx hb dX0_stopsBehind_1 rfl (lv_at hl 0 rfl) ?_
  refine g_get C X inT0 51 (by decide) (eC_51 g ad S) rfl 2 (by decide) wd_288 (v := .int (S.1 51 2)) rfl dX0_stopsBehind_2 ?_
  refine lv_icmp_le (tgt := 11) hx hb dX0_stopsBehind_5 (by decide) (fun c1 => ?_) (fun c1 => ?_)
  · have h := ip h c1
    refine lv_iload_n hx hb dX0_stopsBehind_11 rfl (lv_at hl 3 rfl) ?_
    refine lv_if_ge (tgt := 17) hx hb dX0_stopsBehind_12 (by decide) (fun c2 => ?_) (fun c2 => ?_)
    · have h := ip h c2
      refine lv_aload_n hx hb dX0_stopsBehind_17 rfl (lv_at hl 0 rfl) ?_
      refine g_get C X inT0 51 (by decide) (eC_51 g ad S) rfl 1 (by decide) wd_287 (v := .ref (ad 42)) rfl dX0_stopsBehind_18 ?_
      refine lv_iload_n hx hb dX0_stopsBehind_21 rfl (lv_at hl 1 rfl) ?_
      obtain ⟨r3, qr3, h⟩ := bn1_s h
      refine kc_i X (res := (r3, S)) (rV (As := [.int a1]) (rest := []) (n := 1) (k := 42) C X (c_X1_x l g ad S _ a1  qr3) wd_803 wd_760 wd_761 wd_80 wd_762 (by decide) (eC_42 g ad S) rfl rfl rfl (by decide +kernel) ⟨Nat.le_of_ble_eq_true rfl, Nat.le_of_ble_eq_true rfl⟩ rfl hl.1 (lv_room (Nat.le_of_ble_eq_true rfl)) dX0_stopsBehind_22) (fun H locs X => ?_)
      refine lv_istore (lv' := [(4, .int r3), (0, .ref (ad 51)), (1, .int a1), (2, .int a2), (3, .int a3)]) hx hb dX0_stopsBehind_25 hl (by decide) rfl (fun ls hl => ?_)
      refine lv_aload_n hx hb dX0_stopsBehind_27 rfl (lv_at hl 1 rfl) ?_
      refine g_get C X inT0 51 (by decide) (eC_51 g ad S) rfl 1 (by decide) wd_287 (v := .ref (ad 42)) rfl dX0_stopsBehind_28 ?_
      refine lv_iload_n hx hb dX0_stopsBehind_31 rfl (lv_at hl 2 rfl) ?_
      obtain ⟨r4, qr4, h⟩ := bn1_s h
      refine kc_i X (res := (r4, S)) (rV (As := [.int a1]) (rest := []) (n := 1) (k := 42) C X (c_X1_pace l g ad S _ a1  qr4) wd_804 wd_756 wd_757 wd_80 wd_758 (by decide) (eC_42 g ad S) rfl rfl rfl (by decide +kernel) ⟨Nat.le_of_ble_eq_true rfl, Nat.le_of_ble_eq_true rfl⟩ rfl hl.1 (lv_room (Nat.le_of_ble_eq_true rfl)) dX0_stopsBehind_32) (fun H locs X => ?_)
      refine lv_if_ge (tgt := 56) hx hb dX0_stopsBehind_35 (by decide) (fun c5 => ?_) (fun c5 => ?_)
      · have h := ip h c5
        exact kb_X0_stopsBehind_56 C h X (lv_sub hl [1, 2, 0] rfl) 
      · have h := inn h c5
        refine lv_iload hx hb dX0_stopsBehind_38 (lv_at hl 0 rfl) ?_
        refine lv_aload_n hx hb dX0_stopsBehind_40 rfl (lv_at hl 1 rfl) ?_
        refine g_get C X inT0 51 (by decide) (eC_51 g ad S) rfl 0 (by decide) wd_286 (v := .ref (ad 4)) rfl dX0_stopsBehind_41 ?_
        refine lv_bipush (v := (6 : Int32)) hx hb dX0_stopsBehind_44 (by decide) ?_
        obtain ⟨r12, qr12, h⟩ := bn1_s h
        refine kc_i X (res := (r12, S)) (rV (As := [.int ((6 : Int32))]) (rest := [.int r3]) (n := 1) (k := 4) C X (c_X3_number l g ad S _ ((6 : Int32))  qr12) wd_805 wd_390 wd_391 wd_73 wd_392 (by decide) (eC_4 g ad S) rfl rfl rfl (by decide +kernel) ⟨Nat.le_of_ble_eq_true rfl, Nat.le_of_ble_eq_true rfl⟩ rfl hl.1 (lv_room (Nat.le_of_ble_eq_true rfl)) dX0_stopsBehind_46) (fun H locs X => ?_)
        refine lv_ineg hx hb dX0_stopsBehind_49 ?_
        refine lv_icmp_ge (tgt := 56) hx hb dX0_stopsBehind_50 (by decide) (fun c13 => ?_) (fun c13 => ?_)
        · have h := ip h c13
          exact kb_X0_stopsBehind_56 C h X (lv_sub hl [1, 2, 0] rfl) 
        · have h := inn h c13
          refine lv_bipush (v := (6 : Int32)) hx hb dX0_stopsBehind_53 (by decide) ?_
          exact rt_i C X rfl (congrArg (fun z => (z, S)) (Option.some.inj h)) dX0_stopsBehind_55
    · have h := inn h c2
      refine lv_iconst (v := (5 : Int32)) hx hb dX0_stopsBehind_15 (by decide) ?_
      exact rt_i C X rfl (congrArg (fun z => (z, S)) (Option.some.inj h)) dX0_stopsBehind_16
  · have h := inn h c1
    refine lv_bipush (v := (7 : Int32)) hx hb dX0_stopsBehind_8 (by decide) ?_
    exact rt_i C X rfl (congrArg (fun z => (z, S)) (Option.some.inj h)) dX0_stopsBehind_10

def rmX0_hold : Room := { frames := 3, cells := 0, slots := 0, locals := 67 }
def b_X0_hold_18 (K18 : Int32 → Int32 → ST → Option ST) (v2 : Int32) (v3 : Int32) (S : ST) : Option ST :=
  if ((200 : Int32)) < v3 then (some S) else (bn1 (f_X1_pull v3 (S.1 51 4) S) fun r4 => bn1 (f_X9_quotient (((20 : Int32)) * r4) (S.1 51 6)) fun r5 => nm (v2 - r5) fun x6 => bn1 (f_X0_stopsBehind v3 r4 x6 S) fun r7 => if r7 = 0 then (nm (v3 + (1 : Int32)) fun x9 => K18 x6 x9 S) else (nm (su S 51 9 v3) fun S10 => nm (su S10 51 10 r7) fun S11 => some S11))
def f_X0_hold  (S : ST) : Option ST :=
  nm (su S 51 9 ((200 : Int32))) fun S1 => nm (su S1 51 10 ((0 : Int32))) fun S2 => lp (fun _ _ _ => none) (b_X0_hold_18) 1000 ((1000 : Int32)) ((1 : Int32)) S2
set_option maxHeartbeats 4000000 in
set_option maxRecDepth 100000 in
theorem kb_X0_hold_18 {p : Program} {l : Launch} {e : Env} {s : State} {m : MethodId} {args : Array Value} {below : List Frame} {meth : Method} {c : Code} {g : GG} {ad : Nat → Nat} {res : ST} {S : ST} (C : CX kC g ad p s m args meth c cX0_hold none 5 yX0_hold.cls (.code yX0_hold cX0_hold 5 none)) {K18 : Int32 → Int32 → ST → Option ST} (hK18 : ∀ {v2 : Int32} {v3 : Int32} {S : ST} {H : Heap} {locs : List Loc} {ls : Array Slot}, K18 v2 v3 S = some res → WX kC g ad s S H locs → lv_has ls 5 [(0, .ref (ad 51)), (1, .int v2), (2, .int v3)] → W p l e rmX0_hold s m args below meth c H locs 0 0 (MQ below (QV kC g ad res (AA kC ad s.heap.size)) args s 0 0 (AA kC ad s.heap.size)) (F0 m 18 ls [])) {v2 : Int32} {v3 : Int32}  {H : Heap} {locs : List Loc} {ls : Array Slot} (h : b_X0_hold_18 K18 v2 v3 S = some res) (X : WX kC g ad s S H locs) (hl : lv_has ls 5 [(0, .ref (ad 51)), (1, .int v2), (2, .int v3)])  : W p l e rmX0_hold s m args below meth c H locs 0 0 (MQ below (QV kC g ad res (AA kC ad s.heap.size)) args s 0 0 (AA kC ad s.heap.size)) (F0 m 18 ls []) := by
  have hx := C.1.1
  have hb := C.1.2.1
  have h : (if ((200 : Int32)) < v3 then (some S) else (bn1 (f_X1_pull v3 (S.1 51 4) S) fun r4 => bn1 (f_X9_quotient (((20 : Int32)) * r4) (S.1 51 6)) fun r5 => nm (v2 - r5) fun x6 => bn1 (f_X0_stopsBehind v3 r4 x6 S) fun r7 => if r7 = 0 then (nm (v3 + (1 : Int32)) fun x9 => K18 x6 x9 S) else (nm (su S 51 9 v3) fun S10 => nm (su S10 51 10 r7) fun S11 => some S11)) : Option ST) = some res := h
  refine lv_iload_n hx hb dX0_hold_18 rfl (lv_at hl 2 rfl) ?_
  refine lv_sipush (v := (200 : Int32)) hx hb dX0_hold_19 (by decide) ?_
  refine lv_icmp_gt (tgt := 84) hx hb dX0_hold_22 (by decide) (fun c3 => ?_) (fun c3 => ?_)
  · have h := ip h c3
    exact rt_v C X rfl (Option.some.inj h) dX0_hold_84
  · have h := inn h c3
    refine lv_aload_n hx hb dX0_hold_25 rfl (lv_at hl 0 rfl) ?_
    refine g_get C X inT0 51 (by decide) (eC_51 g ad S) rfl 1 (by decide) wd_287 (v := .ref (ad 42)) rfl dX0_hold_26 ?_
    refine lv_iload_n hx hb dX0_hold_29 rfl (lv_at hl 2 rfl) ?_
    refine lv_aload_n hx hb dX0_hold_30 rfl (lv_at hl 0 rfl) ?_
    refine g_get C X inT0 51 (by decide) (eC_51 g ad S) rfl 4 (by decide) wd_292 (v := .int (S.1 51 4)) rfl dX0_hold_31 ?_
    obtain ⟨r4, qr4, h⟩ := bn1_s h
    refine kc_i X (res := (r4, S)) (rV (As := [.int v3, .int (S.1 51 4)]) (rest := []) (n := 2) (k := 42) C X (c_X1_pull l g ad S _ v3 (S.1 51 4)  qr4) wd_797 wd_768 wd_769 wd_80 wd_770 (by decide) (eC_42 g ad S) rfl rfl rfl (by decide +kernel) ⟨Nat.le_of_ble_eq_true rfl, Nat.le_of_ble_eq_true rfl⟩ rfl hl.1 (lv_room (Nat.le_of_ble_eq_true rfl)) dX0_hold_34) (fun H locs X => ?_)
    refine lv_istore_n (lv' := [(3, .int r4), (0, .ref (ad 51)), (1, .int v2), (2, .int v3)]) hx hb dX0_hold_37 rfl hl (by decide) rfl (fun ls hl => ?_)
    refine lv_iload_n hx hb dX0_hold_38 rfl (lv_at hl 2 rfl) ?_
    refine lv_bipush (v := (20 : Int32)) hx hb dX0_hold_39 (by decide) ?_
    refine lv_iload_n hx hb dX0_hold_41 rfl (lv_at hl 0 rfl) ?_
    refine lv_imul hx hb dX0_hold_42 ?_
    refine lv_aload_n hx hb dX0_hold_43 rfl (lv_at hl 1 rfl) ?_
    refine g_get C X inT0 51 (by decide) (eC_51 g ad S) rfl 6 (by decide) wd_294 (v := .int (S.1 51 6)) rfl dX0_hold_44 ?_
    obtain ⟨r5, qr5, h⟩ := bn1_s h
    refine kc_i X (res := (r5, S)) (rSN (As := [.int (((20 : Int32)) * r4), .int (S.1 51 6)]) (rest := [.int v2]) (n := 2) C X (c_X9_quotient l g ad S _ (((20 : Int32)) * r4) (S.1 51 6)  qr5) nw_798 wd_735 wd_70 wd_736 rfl rfl (by decide +kernel) ⟨Nat.le_of_ble_eq_true rfl, Nat.le_of_ble_eq_true rfl⟩ rfl hl.1 (lv_room (Nat.le_of_ble_eq_true rfl)) dX0_hold_47) (fun H locs X => ?_)
    refine lv_isub hx hb dX0_hold_50 ?_
    obtain ⟨x6, ex6, h⟩ := nm_s h
    refine tp_i ex6 ?_
    refine lv_istore_n (lv' := [(1, .int x6), (3, .int r4), (0, .ref (ad 51)), (2, .int v3)]) hx hb dX0_hold_51 rfl hl (by decide) rfl (fun ls hl => ?_)
    refine lv_aload_n hx hb dX0_hold_52 rfl (lv_at hl 2 rfl) ?_
    refine lv_iload_n hx hb dX0_hold_53 rfl (lv_at hl 3 rfl) ?_
    refine lv_iload_n hx hb dX0_hold_54 rfl (lv_at hl 1 rfl) ?_
    refine lv_iload_n hx hb dX0_hold_55 rfl (lv_at hl 0 rfl) ?_
    obtain ⟨r7, qr7, h⟩ := bn1_s h
    refine kc_i X (res := (r7, S)) (rV (As := [.int v3, .int r4, .int x6]) (rest := []) (n := 3) (k := 51) C X (c_X0_stopsBehind l g ad S _ v3 r4 x6  qr7) wd_799 wd_801 wd_19 wd_81 wd_802 (by decide) (eC_51 g ad S) rfl rfl rfl (by decide +kernel) ⟨Nat.le_of_ble_eq_true rfl, Nat.le_of_ble_eq_true rfl⟩ rfl hl.1 (lv_room (Nat.le_of_ble_eq_true rfl)) dX0_hold_56) (fun H locs X => ?_)
    refine lv_istore (lv' := [(4, .int r7), (1, .int x6), (3, .int r4), (0, .ref (ad 51)), (2, .int v3)]) hx hb dX0_hold_59 hl (by decide) rfl (fun ls hl => ?_)
    refine lv_iload hx hb dX0_hold_61 (lv_at hl 0 rfl) ?_
    refine lv_if_eq (tgt := 78) hx hb dX0_hold_63 (by decide) (fun c8 => ?_) (fun c8 => ?_)
    · have h := ip h c8
      obtain ⟨x9, ex9, h⟩ := nm_s h
      refine lv_iinc (v := x9) (lv' := [(2, .int x9), (4, .int r7), (1, .int x6), (3, .int r4), (0, .ref (ad 51))]) hx hb dX0_hold_78 hl (k := 4) rfl (by rw [ex9]; rfl) (by decide) rfl (fun ls hl => ?_)
      refine lv_goto (tgt := 18) hx hb dX0_hold_81 (by decide) ?_
      exact hK18 h X (lv_sub hl [4, 2, 0] rfl) 
    · have h := inn h c8
      refine lv_aload_n hx hb dX0_hold_66 rfl (lv_at hl 3 rfl) ?_
      refine lv_iload_n hx hb dX0_hold_67 rfl (lv_at hl 4 rfl) ?_
      obtain ⟨S10, eS10, h⟩ := nm_s h
      refine g_put (S' := S10) C X inT0 tyX0 tyX0_ok nmX0 51 (by decide) (eC_51 g ad S) rfl 9 (by decide) wd_300 rfl (by rfl) rfl (Nat.le_of_ble_eq_true rfl) (by subst eS10; rfl) (by subst eS10; exact fun i hi => ent_offu hi) dX0_hold_68 (fun H locs X => ?_)
      refine lv_aload_n hx hb dX0_hold_71 rfl (lv_at hl 3 rfl) ?_
      refine lv_iload hx hb dX0_hold_72 (lv_at hl 0 rfl) ?_
      obtain ⟨S11, eS11, h⟩ := nm_s h
      refine g_put (S' := S11) C X inT0 tyX0 tyX0_ok nmX0 51 (by decide) (eC_51 g ad S10) rfl 10 (by decide) wd_301 rfl (by rfl) rfl (Nat.le_of_ble_eq_true rfl) (by subst eS11; rfl) (by subst eS11; exact fun i hi => ent_offu hi) dX0_hold_74 (fun H locs X => ?_)
      exact rt_v C X rfl (Option.some.inj h) dX0_hold_77
set_option maxHeartbeats 4000000 in
set_option maxRecDepth 100000 in
theorem kl_X0_hold_18 {p : Program} {l : Launch} {e : Env} {s : State} {m : MethodId} {args : Array Value} {below : List Frame} {meth : Method} {c : Code} {g : GG} {ad : Nat → Nat} {res : ST}  (C : CX kC g ad p s m args meth c cX0_hold none 5 yX0_hold.cls (.code yX0_hold cX0_hold 5 none))  : ∀ (n : Nat) {v2 : Int32} {v3 : Int32} {S : ST} {H : Heap} {locs : List Loc} {ls : Array Slot}, (lp (fun _ _ _ => none) (b_X0_hold_18)) n v2 v3 S = some res → WX kC g ad s S H locs → lv_has ls 5 [(0, .ref (ad 51)), (1, .int v2), (2, .int v3)] → W p l e rmX0_hold s m args below meth c H locs 0 0 (MQ below (QV kC g ad res (AA kC ad s.heap.size)) args s 0 0 (AA kC ad s.heap.size)) (F0 m 18 ls []) := by
  intro n
  induction n with
  | zero =>
    intro v2 v3 S H locs ls h
    cases (show (none : Option ST) = some res from h)
  | succ n ih =>
    intro v2 v3 S H locs ls h X hl 
    exact kb_X0_hold_18 C ih h X hl 
set_option maxHeartbeats 4000000 in
set_option maxRecDepth 100000 in
theorem c_X0_hold (l : Launch) (g : GG) (ad : Nat → Nat) (S : ST) (sz : Nat)   {res : ST} (h : f_X0_hold S = some res) : Met l yX0_hold (WS (.code yX0_hold cX0_hold 5 none)) rmX0_hold (va_Pc [.ref (ad 51)] (PW kC g ad S sz)) (QV kC g ad res (AA kC ad sz)) 0 0 (AA kC ad sz) := by
  refine go_m (Qc := fun A => QV kC g ad res A) (by decide) (Nat.le_of_ble_eq_true rfl) (fun p e s m below meth c ls H locs C X hl => ?_)
  have hx := C.1.1
  have hb := C.1.2.1
  have hl : lv_has ls 5 [(0, .ref (ad 51))] := hl
  have h : (nm (su S 51 9 ((200 : Int32))) fun S1 => nm (su S1 51 10 ((0 : Int32))) fun S2 => lp (fun _ _ _ => none) (b_X0_hold_18) 1000 ((1000 : Int32)) ((1 : Int32)) S2 : Option ST) = some res := h
  refine lv_sipush (v := (1000 : Int32)) hx hb dX0_hold_0 (by decide) ?_
  refine lv_istore_n (lv' := [(1, .int ((1000 : Int32))), (0, .ref (ad 51))]) hx hb dX0_hold_3 rfl hl (by decide) rfl (fun ls hl => ?_)
  refine lv_aload_n hx hb dX0_hold_4 rfl (lv_at hl 1 rfl) ?_
  refine lv_sipush (v := (200 : Int32)) hx hb dX0_hold_5 (by decide) ?_
  obtain ⟨S1, eS1, h⟩ := nm_s h
  refine g_put (S' := S1) C X inT0 tyX0 tyX0_ok nmX0 51 (by decide) (eC_51 g ad S) rfl 9 (by decide) wd_300 rfl (by rfl) rfl (Nat.le_of_ble_eq_true rfl) (by subst eS1; rfl) (by subst eS1; exact fun i hi => ent_offu hi) dX0_hold_8 (fun H locs X => ?_)
  refine lv_aload_n hx hb dX0_hold_11 rfl (lv_at hl 1 rfl) ?_
  refine lv_iconst (v := (0 : Int32)) hx hb dX0_hold_12 (by decide) ?_
  obtain ⟨S2, eS2, h⟩ := nm_s h
  refine g_put (S' := S2) C X inT0 tyX0 tyX0_ok nmX0 51 (by decide) (eC_51 g ad S1) rfl 10 (by decide) wd_301 rfl (by rfl) rfl (Nat.le_of_ble_eq_true rfl) (by subst eS2; rfl) (by subst eS2; exact fun i hi => ent_offu hi) dX0_hold_13 (fun H locs X => ?_)
  refine lv_iconst (v := (1 : Int32)) hx hb dX0_hold_16 (by decide) ?_
  refine lv_istore_n (lv' := [(2, .int ((1 : Int32))), (1, .int ((1000 : Int32))), (0, .ref (ad 51))]) hx hb dX0_hold_17 rfl hl (by decide) rfl (fun ls hl => ?_)
  exact kl_X0_hold_18 C _ h X (lv_sub hl [2, 1, 0] rfl) 

def rmX0_canLetGo : Room := { frames := 0, cells := 0, slots := 0, locals := 0 }
def f_X0_canLetGo (a1 : Int32) (S : ST) : Option Int32 :=
  if a1 < (S.1 51 9) then (some ((1 : Int32))) else (if a1 = (S.1 51 9) then (if (S.1 51 10) = ((7 : Int32)) then (some ((0 : Int32))) else (if (S.1 51 10) = ((5 : Int32)) then (some ((0 : Int32))) else (some ((1 : Int32))))) else (some ((0 : Int32))))
set_option maxHeartbeats 4000000 in
set_option maxRecDepth 100000 in
theorem c_X0_canLetGo (l : Launch) (g : GG) (ad : Nat → Nat) (S : ST) (sz : Nat) (a1 : Int32)  {res : Int32} (h : f_X0_canLetGo a1 S = some res) : Met l yX0_canLetGo (WS (.code yX0_canLetGo cX0_canLetGo 2 (some Jvm.ClassFile.FieldType.boolean))) rmX0_canLetGo (va_Pc [.ref (ad 51), .int a1] (PW kC g ad S sz)) (QI kC g ad (res, S) (AA kC ad sz)) 0 0 (AA kC ad sz) := by
  refine go_m (Qc := fun A => QI kC g ad (res, S) A) (by decide) (Nat.le_of_ble_eq_true rfl) (fun p e s m below meth c ls H locs C X hl => ?_)
  have hx := C.1.1
  have hb := C.1.2.1
  have hl : lv_has ls 2 [(0, .ref (ad 51)), (1, .int a1)] := hl
  have h : (if a1 < (S.1 51 9) then (some ((1 : Int32))) else (if a1 = (S.1 51 9) then (if (S.1 51 10) = ((7 : Int32)) then (some ((0 : Int32))) else (if (S.1 51 10) = ((5 : Int32)) then (some ((0 : Int32))) else (some ((1 : Int32))))) else (some ((0 : Int32)))) : Option Int32) = some res := h
  refine lv_iload_n hx hb dX0_canLetGo_0 rfl (lv_at hl 1 rfl) ?_
  refine lv_aload_n hx hb dX0_canLetGo_1 rfl (lv_at hl 0 rfl) ?_
  refine g_get C X inT0 51 (by decide) (eC_51 g ad S) rfl 9 (by decide) wd_300 (v := .int (S.1 51 9)) rfl dX0_canLetGo_2 ?_
  refine lv_icmp_lt (tgt := 33) hx hb dX0_canLetGo_5 (by decide) (fun c1 => ?_) (fun c1 => ?_)
  · have h := ip h c1
    refine lv_iconst (v := (1 : Int32)) hx hb dX0_canLetGo_33 (by decide) ?_
    refine lv_goto (tgt := 38) hx hb dX0_canLetGo_34 (by decide) ?_
    exact rt_z C X rfl (by decide) (congrArg (fun z => (z, S)) (Option.some.inj h)) dX0_canLetGo_38
  · have h := inn h c1
    refine lv_iload_n hx hb dX0_canLetGo_8 rfl (lv_at hl 1 rfl) ?_
    refine lv_aload_n hx hb dX0_canLetGo_9 rfl (lv_at hl 0 rfl) ?_
    refine g_get C X inT0 51 (by decide) (eC_51 g ad S) rfl 9 (by decide) wd_300 (v := .int (S.1 51 9)) rfl dX0_canLetGo_10 ?_
    refine lv_icmp_ne (tgt := 37) hx hb dX0_canLetGo_13 (by decide) (fun c2 => ?_) (fun c2 => ?_)
    · have h := inn h c2
      refine lv_iconst (v := (0 : Int32)) hx hb dX0_canLetGo_37 (by decide) ?_
      exact rt_z C X rfl (by decide) (congrArg (fun z => (z, S)) (Option.some.inj h)) dX0_canLetGo_38
    · have h := ip h c2
      refine lv_aload_n hx hb dX0_canLetGo_16 rfl (lv_at hl 0 rfl) ?_
      refine g_get C X inT0 51 (by decide) (eC_51 g ad S) rfl 10 (by decide) wd_301 (v := .int (S.1 51 10)) rfl dX0_canLetGo_17 ?_
      refine lv_bipush (v := (7 : Int32)) hx hb dX0_canLetGo_20 (by decide) ?_
      refine lv_icmp_eq (tgt := 37) hx hb dX0_canLetGo_22 (by decide) (fun c3 => ?_) (fun c3 => ?_)
      · have h := ip h c3
        refine lv_iconst (v := (0 : Int32)) hx hb dX0_canLetGo_37 (by decide) ?_
        exact rt_z C X rfl (by decide) (congrArg (fun z => (z, S)) (Option.some.inj h)) dX0_canLetGo_38
      · have h := inn h c3
        refine lv_aload_n hx hb dX0_canLetGo_25 rfl (lv_at hl 0 rfl) ?_
        refine g_get C X inT0 51 (by decide) (eC_51 g ad S) rfl 10 (by decide) wd_301 (v := .int (S.1 51 10)) rfl dX0_canLetGo_26 ?_
        refine lv_iconst (v := (5 : Int32)) hx hb dX0_canLetGo_29 (by decide) ?_
        refine lv_icmp_eq (tgt := 37) hx hb dX0_canLetGo_30 (by decide) (fun c4 => ?_) (fun c4 => ?_)
        · have h := ip h c4
          refine lv_iconst (v := (0 : Int32)) hx hb dX0_canLetGo_37 (by decide) ?_
          exact rt_z C X rfl (by decide) (congrArg (fun z => (z, S)) (Option.some.inj h)) dX0_canLetGo_38
        · have h := inn h c4
          refine lv_iconst (v := (1 : Int32)) hx hb dX0_canLetGo_33 (by decide) ?_
          refine lv_goto (tgt := 38) hx hb dX0_canLetGo_34 (by decide) ?_
          exact rt_z C X rfl (by decide) (congrArg (fun z => (z, S)) (Option.some.inj h)) dX0_canLetGo_38

def rmX0_landing : Room := { frames := 1, cells := 0, slots := 0, locals := 23 }
def f_X0_landing (a1 : Int32) (S : ST) : Option Int32 :=
  bn1 (f_X3_kind a1 S) fun r1 => if r1 = ((2 : Int32)) then (some ((1 : Int32))) else (if r1 = ((1 : Int32)) then (some ((3 : Int32))) else (bn1 (f_X3_depth a1 (S.1 51 3) S) fun r4 => bn1 (f_X3_number ((7 : Int32)) S) fun r5 => if r5 ≤ r4 then (if (S.1 51 16) ≤ ((30 : Int32)) then (some ((2 : Int32))) else (if (S.1 51 16) < ((330 : Int32)) then (some ((4 : Int32))) else (some ((2 : Int32))))) else (some ((3 : Int32)))))
set_option maxHeartbeats 4000000 in
set_option maxRecDepth 100000 in
theorem c_X0_landing (l : Launch) (g : GG) (ad : Nat → Nat) (S : ST) (sz : Nat) (a1 : Int32)  {res : Int32} (h : f_X0_landing a1 S = some res) : Met l yX0_landing (WS (.code yX0_landing cX0_landing 3 (some Jvm.ClassFile.FieldType.int))) rmX0_landing (va_Pc [.ref (ad 51), .int a1] (PW kC g ad S sz)) (QI kC g ad (res, S) (AA kC ad sz)) 0 0 (AA kC ad sz) := by
  refine go_m (Qc := fun A => QI kC g ad (res, S) A) (by decide) (Nat.le_of_ble_eq_true rfl) (fun p e s m below meth c ls H locs C X hl => ?_)
  have hx := C.1.1
  have hb := C.1.2.1
  have hl : lv_has ls 3 [(0, .ref (ad 51)), (1, .int a1)] := hl
  have h : (bn1 (f_X3_kind a1 S) fun r1 => if r1 = ((2 : Int32)) then (some ((1 : Int32))) else (if r1 = ((1 : Int32)) then (some ((3 : Int32))) else (bn1 (f_X3_depth a1 (S.1 51 3) S) fun r4 => bn1 (f_X3_number ((7 : Int32)) S) fun r5 => if r5 ≤ r4 then (if (S.1 51 16) ≤ ((30 : Int32)) then (some ((2 : Int32))) else (if (S.1 51 16) < ((330 : Int32)) then (some ((4 : Int32))) else (some ((2 : Int32))))) else (some ((3 : Int32))))) : Option Int32) = some res := h
  refine lv_aload_n hx hb dX0_landing_0 rfl (lv_at hl 0 rfl) ?_
  refine g_get C X inT0 51 (by decide) (eC_51 g ad S) rfl 0 (by decide) wd_286 (v := .ref (ad 4)) rfl dX0_landing_1 ?_
  refine lv_iload_n hx hb dX0_landing_4 rfl (lv_at hl 1 rfl) ?_
  obtain ⟨r1, qr1, h⟩ := bn1_s h
  refine kc_i X (res := (r1, S)) (rV (As := [.int a1]) (rest := []) (n := 1) (k := 4) C X (c_X3_kind l g ad S _ a1  qr1) wd_810 wd_646 wd_647 wd_73 wd_648 (by decide) (eC_4 g ad S) rfl rfl rfl (by decide +kernel) ⟨Nat.le_of_ble_eq_true rfl, Nat.le_of_ble_eq_true rfl⟩ rfl hl.1 (lv_room (Nat.le_of_ble_eq_true rfl)) dX0_landing_5) (fun H locs X => ?_)
  refine lv_istore_n (lv' := [(2, .int r1), (0, .ref (ad 51)), (1, .int a1)]) hx hb dX0_landing_8 rfl hl (by decide) rfl (fun ls hl => ?_)
  refine lv_iload_n hx hb dX0_landing_9 rfl (lv_at hl 0 rfl) ?_
  refine lv_iconst (v := (2 : Int32)) hx hb dX0_landing_10 (by decide) ?_
  refine lv_icmp_ne (tgt := 16) hx hb dX0_landing_11 (by decide) (fun c2 => ?_) (fun c2 => ?_)
  · have h := inn h c2
    refine lv_iload_n hx hb dX0_landing_16 rfl (lv_at hl 0 rfl) ?_
    refine lv_iconst (v := (1 : Int32)) hx hb dX0_landing_17 (by decide) ?_
    refine lv_icmp_eq (tgt := 45) hx hb dX0_landing_18 (by decide) (fun c3 => ?_) (fun c3 => ?_)
    · have h := ip h c3
      refine lv_iconst (v := (3 : Int32)) hx hb dX0_landing_45 (by decide) ?_
      exact rt_i C X rfl (congrArg (fun z => (z, S)) (Option.some.inj h)) dX0_landing_46
    · have h := inn h c3
      refine lv_aload_n hx hb dX0_landing_21 rfl (lv_at hl 1 rfl) ?_
      refine g_get C X inT0 51 (by decide) (eC_51 g ad S) rfl 0 (by decide) wd_286 (v := .ref (ad 4)) rfl dX0_landing_22 ?_
      refine lv_iload_n hx hb dX0_landing_25 rfl (lv_at hl 2 rfl) ?_
      refine lv_aload_n hx hb dX0_landing_26 rfl (lv_at hl 1 rfl) ?_
      refine g_get C X inT0 51 (by decide) (eC_51 g ad S) rfl 3 (by decide) wd_290 (v := .int (S.1 51 3)) rfl dX0_landing_27 ?_
      obtain ⟨r4, qr4, h⟩ := bn1_s h
      refine kc_i X (res := (r4, S)) (rV (As := [.int a1, .int (S.1 51 3)]) (rest := []) (n := 2) (k := 4) C X (c_X3_depth l g ad S _ a1 (S.1 51 3)  qr4) wd_835 wd_664 wd_665 wd_73 wd_666 (by decide) (eC_4 g ad S) rfl rfl rfl (by decide +kernel) ⟨Nat.le_of_ble_eq_true rfl, Nat.le_of_ble_eq_true rfl⟩ rfl hl.1 (lv_room (Nat.le_of_ble_eq_true rfl)) dX0_landing_30) (fun H locs X => ?_)
      refine lv_aload_n hx hb dX0_landing_33 rfl (lv_at hl 1 rfl) ?_
      refine g_get C X inT0 51 (by decide) (eC_51 g ad S) rfl 0 (by decide) wd_286 (v := .ref (ad 4)) rfl dX0_landing_34 ?_
      refine lv_bipush (v := (7 : Int32)) hx hb dX0_landing_37 (by decide) ?_
      obtain ⟨r5, qr5, h⟩ := bn1_s h
      refine kc_i X (res := (r5, S)) (rV (As := [.int ((7 : Int32))]) (rest := [.int r4]) (n := 1) (k := 4) C X (c_X3_number l g ad S _ ((7 : Int32))  qr5) wd_805 wd_390 wd_391 wd_73 wd_392 (by decide) (eC_4 g ad S) rfl rfl rfl (by decide +kernel) ⟨Nat.le_of_ble_eq_true rfl, Nat.le_of_ble_eq_true rfl⟩ rfl hl.1 (lv_room (Nat.le_of_ble_eq_true rfl)) dX0_landing_39) (fun H locs X => ?_)
      refine lv_icmp_ge (tgt := 47) hx hb dX0_landing_42 (by decide) (fun c6 => ?_) (fun c6 => ?_)
      · have h := ip h c6
        refine lv_aload_n hx hb dX0_landing_47 rfl (lv_at hl 1 rfl) ?_
        refine g_get C X inT0 51 (by decide) (eC_51 g ad S) rfl 16 (by decide) wd_314 (v := .int (S.1 51 16)) rfl dX0_landing_48 ?_
        refine lv_bipush (v := (30 : Int32)) hx hb dX0_landing_51 (by decide) ?_
        refine lv_icmp_le (tgt := 66) hx hb dX0_landing_53 (by decide) (fun c7 => ?_) (fun c7 => ?_)
        · have h := ip h c7
          refine lv_iconst (v := (2 : Int32)) hx hb dX0_landing_66 (by decide) ?_
          refine lv_goto (tgt := 71) hx hb dX0_landing_67 (by decide) ?_
          exact rt_i C X rfl (congrArg (fun z => (z, S)) (Option.some.inj h)) dX0_landing_71
        · have h := inn h c7
          refine lv_aload_n hx hb dX0_landing_56 rfl (lv_at hl 1 rfl) ?_
          refine g_get C X inT0 51 (by decide) (eC_51 g ad S) rfl 16 (by decide) wd_314 (v := .int (S.1 51 16)) rfl dX0_landing_57 ?_
          refine lv_sipush (v := (330 : Int32)) hx hb dX0_landing_60 (by decide) ?_
          refine lv_icmp_lt (tgt := 70) hx hb dX0_landing_63 (by decide) (fun c8 => ?_) (fun c8 => ?_)
          · have h := ip h c8
            refine lv_iconst (v := (4 : Int32)) hx hb dX0_landing_70 (by decide) ?_
            exact rt_i C X rfl (congrArg (fun z => (z, S)) (Option.some.inj h)) dX0_landing_71
          · have h := inn h c8
            refine lv_iconst (v := (2 : Int32)) hx hb dX0_landing_66 (by decide) ?_
            refine lv_goto (tgt := 71) hx hb dX0_landing_67 (by decide) ?_
            exact rt_i C X rfl (congrArg (fun z => (z, S)) (Option.some.inj h)) dX0_landing_71
      · have h := inn h c6
        refine lv_iconst (v := (3 : Int32)) hx hb dX0_landing_45 (by decide) ?_
        exact rt_i C X rfl (congrArg (fun z => (z, S)) (Option.some.inj h)) dX0_landing_46
  · have h := ip h c2
    refine lv_iconst (v := (1 : Int32)) hx hb dX0_landing_14 (by decide) ?_
    exact rt_i C X rfl (congrArg (fun z => (z, S)) (Option.some.inj h)) dX0_landing_15

def rmX0_fly : Room := { frames := 2, cells := 0, slots := 0, locals := 45 }
def b_X0_fly_229  (v1 : Int32) (S : ST) : Option ST :=
  nm (su S 51 11 v1) fun S16 => some S16
def b_X0_fly_179  (v2 : Int32) (v3 : Int32) (v4 : Int32) (S : ST) : Option ST :=
  nm (su S 51 12 v4) fun S12 => nm (su S12 51 15 (v2 / ((100 : Int32)))) fun S13 => nm (su S13 51 16 (((S13.1 51 8) * (S13.1 51 14)) - ((S13.1 51 8) * (S13.1 51 14)) / ((360 : Int32)) * ((360 : Int32)))) fun S14 => if v3 = 0 then (b_X0_fly_229 ((0 : Int32)) S14) else (bn1 (f_X3_cellAt (S14.1 51 12)) fun r17 => bn1 (f_X0_landing r17 S14) fun r18 => b_X0_fly_229 r18 S14)
def b_X0_fly_152  (v2 : Int32) (v3 : Int32) (v4 : Int32) (v5 : Int32) (v6 : Int32) (S : ST) : Option ST :=
  nm (su S 51 14 v5) fun S9 => if v6 = 0 then (bn1 (f_X1_x v2 S9) fun r11 => b_X0_fly_179 v4 v6 r11 S9) else (b_X0_fly_179 v4 v6 (v3 / ((100 : Int32))) S9)
def b_X0_fly_107 (K63 : Int32 → Int32 → Int32 → Int32 → Int32 → Int32 → Int32 → Int32 → ST → Option ST) (v2 : Int32) (v3 : Int32) (v4 : Int32) (v5 : Int32) (v6 : Int32) (v7 : Int32) (v8 : Int32) (S : ST) : Option ST :=
  if 0 < v4 then (K63 v2 v3 v4 v5 v6 v8 v7 ((0 : Int32)) S) else (if v4 ≤ (((-100 : Int32)) * (S.1 51 3)) then (K63 v2 v3 v4 v5 v6 v8 v7 ((1 : Int32)) S) else (bn1 (f_X3_cellAt (v3 / ((100 : Int32)))) fun r27 => bn1 (f_X3_kind r27 S) fun r28 => if r28 = ((2 : Int32)) then (K63 v2 v3 v4 v5 v6 v8 v7 ((1 : Int32)) S) else (K63 v2 v3 v4 v5 v6 v8 v7 ((0 : Int32)) S)))
def b_X0_fly_63 (K63 : Int32 → Int32 → Int32 → Int32 → Int32 → Int32 → Int32 → Int32 → ST → Option ST) (v2 : Int32) (v3 : Int32) (v4 : Int32) (v5 : Int32) (v6 : Int32) (v7 : Int32) (v8 : Int32) (v9 : Int32) (S : ST) : Option ST :=
  if ((400 : Int32)) ≤ v8 then (b_X0_fly_152 v2 v3 v7 v8 v9 S) else (if v9 = 0 then (nm (v8 + (1 : Int32)) fun x20 => nm (v3 + v5) fun x21 => nm (v4 + v6) fun x22 => nm (v6 + (-245 : Int32)) fun x23 => if x22 ≤ v7 then (b_X0_fly_107 K63 v2 x21 x22 v5 x23 x20 v7 S) else (b_X0_fly_107 K63 v2 x21 x22 v5 x23 x20 x22 S)) else (b_X0_fly_152 v2 v3 v7 v8 v9 S))
def f_X0_fly (a1 : Int32) (S : ST) : Option ST :=
  nm (su S 51 13 a1) fun S1 => bn1 (f_X1_x a1 S1) fun r2 => nm (((100 : Int32)) * r2) fun x3 => bn1 (f_X1_height a1 S1) fun r4 => nm (((100 : Int32)) * (r4 - (S1.1 51 5))) fun x5 => bn1 (f_X1_across a1 S1) fun r6 => bn1 (f_X1_up a1 S1) fun r7 => lp (fun _ _ _ _ _ _ _ _ _ => none) (b_X0_fly_63) 1000 a1 x3 x5 r6 r7 x5 ((0 : Int32)) ((0 : Int32)) S1
set_option maxHeartbeats 4000000 in
set_option maxRecDepth 100000 in
theorem kb_X0_fly_229 {p : Program} {l : Launch} {e : Env} {s : State} {m : MethodId} {args : Array Value} {below : List Frame} {meth : Method} {c : Code} {g : GG} {ad : Nat → Nat} {res : ST} {S : ST} (C : CX kC g ad p s m args meth c cX0_fly none 9 yX0_fly.cls (.code yX0_fly cX0_fly 9 none))  {v1 : Int32}  {H : Heap} {locs : List Loc} {ls : Array Slot} (h : b_X0_fly_229 v1 S = some res) (X : WX kC g ad s S H locs) (hl : lv_has ls 9 [])  : W p l e rmX0_fly s m args below meth c H locs 0 0 (MQ below (QV kC g ad res (AA kC ad s.heap.size)) args s 0 0 (AA kC ad s.heap.size)) (F0 m 229 ls [.int v1, .ref (ad 51)]) := by
  have hx := C.1.1
  have hb := C.1.2.1
  have h : (nm (su S 51 11 v1) fun S16 => some S16 : Option ST) = some res := h
  obtain ⟨S16, eS16, h⟩ := nm_s h
  refine g_put (S' := S16) C X inT0 tyX0 tyX0_ok nmX0 51 (by decide) (eC_51 g ad S) rfl 11 (by decide) wd_302 rfl (by rfl) rfl (Nat.le_of_ble_eq_true rfl) (by subst eS16; rfl) (by subst eS16; exact fun i hi => ent_offu hi) dX0_fly_229 (fun H locs X => ?_)
  exact rt_v C X rfl (Option.some.inj h) dX0_fly_232
set_option maxHeartbeats 4000000 in
set_option maxRecDepth 100000 in
theorem kb_X0_fly_179 {p : Program} {l : Launch} {e : Env} {s : State} {m : MethodId} {args : Array Value} {below : List Frame} {meth : Method} {c : Code} {g : GG} {ad : Nat → Nat} {res : ST} {S : ST} (C : CX kC g ad p s m args meth c cX0_fly none 9 yX0_fly.cls (.code yX0_fly cX0_fly 9 none))  {v2 : Int32} {v3 : Int32} {v4 : Int32}  {H : Heap} {locs : List Loc} {ls : Array Slot} (h : b_X0_fly_179 v2 v3 v4 S = some res) (X : WX kC g ad s S H locs) (hl : lv_has ls 9 [(0, .ref (ad 51)), (6, .int v2), (8, .int v3)])  : W p l e rmX0_fly s m args below meth c H locs 0 0 (MQ below (QV kC g ad res (AA kC ad s.heap.size)) args s 0 0 (AA kC ad s.heap.size)) (F0 m 179 ls [.int v4, .ref (ad 51)]) := by
  have hx := C.1.1
  have hb := C.1.2.1
  have h : (nm (su S 51 12 v4) fun S12 => nm (su S12 51 15 (v2 / ((100 : Int32)))) fun S13 => nm (su S13 51 16 (((S13.1 51 8) * (S13.1 51 14)) - ((S13.1 51 8) * (S13.1 51 14)) / ((360 : Int32)) * ((360 : Int32)))) fun S14 => if v3 = 0 then (b_X0_fly_229 ((0 : Int32)) S14) else (bn1 (f_X3_cellAt (S14.1 51 12)) fun r17 => bn1 (f_X0_landing r17 S14) fun r18 => b_X0_fly_229 r18 S14) : Option ST) = some res := h
  obtain ⟨S12, eS12, h⟩ := nm_s h
  refine g_put (S' := S12) C X inT0 tyX0 tyX0_ok nmX0 51 (by decide) (eC_51 g ad S) rfl 12 (by decide) wd_305 rfl (by rfl) rfl (Nat.le_of_ble_eq_true rfl) (by subst eS12; rfl) (by subst eS12; exact fun i hi => ent_offu hi) dX0_fly_179 (fun H locs X => ?_)
  refine lv_aload_n hx hb dX0_fly_182 rfl (lv_at hl 0 rfl) ?_
  refine lv_iload hx hb dX0_fly_183 (lv_at hl 1 rfl) ?_
  refine lv_bipush (v := (100 : Int32)) hx hb dX0_fly_185 (by decide) ?_
  refine lv_idiv hx hb dX0_fly_187 (by decide) ?_
  obtain ⟨S13, eS13, h⟩ := nm_s h
  refine g_put (S' := S13) C X inT0 tyX0 tyX0_ok nmX0 51 (by decide) (eC_51 g ad S12) rfl 15 (by decide) wd_312 rfl (by rfl) rfl (Nat.le_of_ble_eq_true rfl) (by subst eS13; rfl) (by subst eS13; exact fun i hi => ent_offu hi) dX0_fly_188 (fun H locs X => ?_)
  refine lv_aload_n hx hb dX0_fly_191 rfl (lv_at hl 0 rfl) ?_
  refine lv_aload_n hx hb dX0_fly_192 rfl (lv_at hl 0 rfl) ?_
  refine g_get C X inT0 51 (by decide) (eC_51 g ad S13) rfl 8 (by decide) wd_298 (v := .int (S13.1 51 8)) rfl dX0_fly_193 ?_
  refine lv_aload_n hx hb dX0_fly_196 rfl (lv_at hl 0 rfl) ?_
  refine g_get C X inT0 51 (by decide) (eC_51 g ad S13) rfl 14 (by decide) wd_309 (v := .int (S13.1 51 14)) rfl dX0_fly_197 ?_
  refine lv_imul hx hb dX0_fly_200 ?_
  refine lv_sipush (v := (360 : Int32)) hx hb dX0_fly_201 (by decide) ?_
  refine lv_irem hx hb dX0_fly_204 (by decide) ?_
  obtain ⟨S14, eS14, h⟩ := nm_s h
  refine g_put (S' := S14) C X inT0 tyX0 tyX0_ok nmX0 51 (by decide) (eC_51 g ad S13) rfl 16 (by decide) wd_314 rfl (by rfl) rfl (Nat.le_of_ble_eq_true rfl) (by subst eS14; rfl) (by subst eS14; exact fun i hi => ent_offu hi) dX0_fly_205 (fun H locs X => ?_)
  refine lv_aload_n hx hb dX0_fly_208 rfl (lv_at hl 0 rfl) ?_
  refine lv_iload hx hb dX0_fly_209 (lv_at hl 2 rfl) ?_
  refine lv_if_eq (tgt := 228) hx hb dX0_fly_211 (by decide) (fun c15 => ?_) (fun c15 => ?_)
  · have h := ip h c15
    refine lv_iconst (v := (0 : Int32)) hx hb dX0_fly_228 (by decide) ?_
    exact kb_X0_fly_229 C h X (lv_sub hl [] rfl) 
  · have h := inn h c15
    refine lv_aload_n hx hb dX0_fly_214 rfl (lv_at hl 0 rfl) ?_
    refine lv_aload_n hx hb dX0_fly_215 rfl (lv_at hl 0 rfl) ?_
    refine g_get C X inT0 51 (by decide) (eC_51 g ad S14) rfl 12 (by decide) wd_305 (v := .int (S14.1 51 12)) rfl dX0_fly_216 ?_
    obtain ⟨r17, qr17, h⟩ := bn1_s h
    refine kc_i X (res := (r17, S14)) (rS (As := [.int (S14.1 51 12)]) (rest := [.ref (ad 51), .ref (ad 51)]) (n := 1) C X (c_X3_cellAt l g ad S14 _ (S14.1 51 12)  qr17) wd_807 wd_808 wd_73 wd_809 rfl rfl (by decide +kernel) ⟨Nat.le_of_ble_eq_true rfl, Nat.le_of_ble_eq_true rfl⟩ rfl hl.1 (lv_room (Nat.le_of_ble_eq_true rfl)) dX0_fly_219) (fun H locs X => ?_)
    obtain ⟨r18, qr18, h⟩ := bn1_s h
    refine kc_i X (res := (r18, S14)) (rV (As := [.int r17]) (rest := [.ref (ad 51)]) (n := 1) (k := 51) C X (c_X0_landing l g ad S14 _ r17  qr18) wd_831 wd_833 wd_22 wd_81 wd_834 (by decide) (eC_51 g ad S14) rfl rfl rfl (by decide +kernel) ⟨Nat.le_of_ble_eq_true rfl, Nat.le_of_ble_eq_true rfl⟩ rfl hl.1 (lv_room (Nat.le_of_ble_eq_true rfl)) dX0_fly_222) (fun H locs X => ?_)
    refine lv_goto (tgt := 229) hx hb dX0_fly_225 (by decide) ?_
    exact kb_X0_fly_229 C h X (lv_sub hl [] rfl) 
set_option maxHeartbeats 4000000 in
set_option maxRecDepth 100000 in
theorem kb_X0_fly_152 {p : Program} {l : Launch} {e : Env} {s : State} {m : MethodId} {args : Array Value} {below : List Frame} {meth : Method} {c : Code} {g : GG} {ad : Nat → Nat} {res : ST} {S : ST} (C : CX kC g ad p s m args meth c cX0_fly none 9 yX0_fly.cls (.code yX0_fly cX0_fly 9 none))  {v2 : Int32} {v3 : Int32} {v4 : Int32} {v5 : Int32} {v6 : Int32}  {H : Heap} {locs : List Loc} {ls : Array Slot} (h : b_X0_fly_152 v2 v3 v4 v5 v6 S = some res) (X : WX kC g ad s S H locs) (hl : lv_has ls 9 [(0, .ref (ad 51)), (1, .int v2), (2, .int v3), (6, .int v4), (7, .int v5), (8, .int v6)])  : W p l e rmX0_fly s m args below meth c H locs 0 0 (MQ below (QV kC g ad res (AA kC ad s.heap.size)) args s 0 0 (AA kC ad s.heap.size)) (F0 m 152 ls []) := by
  have hx := C.1.1
  have hb := C.1.2.1
  have h : (nm (su S 51 14 v5) fun S9 => if v6 = 0 then (bn1 (f_X1_x v2 S9) fun r11 => b_X0_fly_179 v4 v6 r11 S9) else (b_X0_fly_179 v4 v6 (v3 / ((100 : Int32))) S9) : Option ST) = some res := h
  refine lv_aload_n hx hb dX0_fly_152 rfl (lv_at hl 0 rfl) ?_
  refine lv_iload hx hb dX0_fly_153 (lv_at hl 4 rfl) ?_
  obtain ⟨S9, eS9, h⟩ := nm_s h
  refine g_put (S' := S9) C X inT0 tyX0 tyX0_ok nmX0 51 (by decide) (eC_51 g ad S) rfl 14 (by decide) wd_309 rfl (by rfl) rfl (Nat.le_of_ble_eq_true rfl) (by subst eS9; rfl) (by subst eS9; exact fun i hi => ent_offu hi) dX0_fly_155 (fun H locs X => ?_)
  refine lv_aload_n hx hb dX0_fly_158 rfl (lv_at hl 0 rfl) ?_
  refine lv_iload hx hb dX0_fly_159 (lv_at hl 5 rfl) ?_
  refine lv_if_eq (tgt := 171) hx hb dX0_fly_161 (by decide) (fun c10 => ?_) (fun c10 => ?_)
  · have h := ip h c10
    refine lv_aload_n hx hb dX0_fly_171 rfl (lv_at hl 0 rfl) ?_
    refine g_get C X inT0 51 (by decide) (eC_51 g ad S9) rfl 1 (by decide) wd_287 (v := .ref (ad 42)) rfl dX0_fly_172 ?_
    refine lv_iload_n hx hb dX0_fly_175 rfl (lv_at hl 1 rfl) ?_
    obtain ⟨r11, qr11, h⟩ := bn1_s h
    refine kc_i X (res := (r11, S9)) (rV (As := [.int v2]) (rest := [.ref (ad 51)]) (n := 1) (k := 42) C X (c_X1_x l g ad S9 _ v2  qr11) wd_803 wd_760 wd_761 wd_80 wd_762 (by decide) (eC_42 g ad S9) rfl rfl rfl (by decide +kernel) ⟨Nat.le_of_ble_eq_true rfl, Nat.le_of_ble_eq_true rfl⟩ rfl hl.1 (lv_room (Nat.le_of_ble_eq_true rfl)) dX0_fly_176) (fun H locs X => ?_)
    exact kb_X0_fly_179 C h X (lv_sub hl [0, 3, 5] rfl) 
  · have h := inn h c10
    refine lv_iload_n hx hb dX0_fly_164 rfl (lv_at hl 2 rfl) ?_
    refine lv_bipush (v := (100 : Int32)) hx hb dX0_fly_165 (by decide) ?_
    refine lv_idiv hx hb dX0_fly_167 (by decide) ?_
    refine lv_goto (tgt := 179) hx hb dX0_fly_168 (by decide) ?_
    exact kb_X0_fly_179 C h X (lv_sub hl [0, 3, 5] rfl) 
set_option maxHeartbeats 4000000 in
set_option maxRecDepth 100000 in
theorem kb_X0_fly_107 {p : Program} {l : Launch} {e : Env} {s : State} {m : MethodId} {args : Array Value} {below : List Frame} {meth : Method} {c : Code} {g : GG} {ad : Nat → Nat} {res : ST} {S : ST} (C : CX kC g ad p s m args meth c cX0_fly none 9 yX0_fly.cls (.code yX0_fly cX0_fly 9 none)) {K63 : Int32 → Int32 → Int32 → Int32 → Int32 → Int32 → Int32 → Int32 → ST → Option ST} (hK63 : ∀ {v2 : Int32} {v3 : Int32} {v4 : Int32} {v5 : Int32} {v6 : Int32} {v7 : Int32} {v8 : Int32} {v9 : Int32} {S : ST} {H : Heap} {locs : List Loc} {ls : Array Slot}, K63 v2 v3 v4 v5 v6 v7 v8 v9 S = some res → WX kC g ad s S H locs → lv_has ls 9 [(0, .ref (ad 51)), (1, .int v2), (2, .int v3), (3, .int v4), (4, .int v5), (5, .int v6), (6, .int v7), (7, .int v8), (8, .int v9)] → W p l e rmX0_fly s m args below meth c H locs 0 0 (MQ below (QV kC g ad res (AA kC ad s.heap.size)) args s 0 0 (AA kC ad s.heap.size)) (F0 m 63 ls [])) {v2 : Int32} {v3 : Int32} {v4 : Int32} {v5 : Int32} {v6 : Int32} {v7 : Int32} {v8 : Int32}  {H : Heap} {locs : List Loc} {ls : Array Slot} (h : b_X0_fly_107 K63 v2 v3 v4 v5 v6 v7 v8 S = some res) (X : WX kC g ad s S H locs) (hl : lv_has ls 9 [(0, .ref (ad 51)), (1, .int v2), (2, .int v3), (3, .int v4), (4, .int v5), (5, .int v6), (7, .int v7)])  : W p l e rmX0_fly s m args below meth c H locs 0 0 (MQ below (QV kC g ad res (AA kC ad s.heap.size)) args s 0 0 (AA kC ad s.heap.size)) (F0 m 107 ls [.int v8]) := by
  have hx := C.1.1
  have hb := C.1.2.1
  have h : (if 0 < v4 then (K63 v2 v3 v4 v5 v6 v8 v7 ((0 : Int32)) S) else (if v4 ≤ (((-100 : Int32)) * (S.1 51 3)) then (K63 v2 v3 v4 v5 v6 v8 v7 ((1 : Int32)) S) else (bn1 (f_X3_cellAt (v3 / ((100 : Int32)))) fun r27 => bn1 (f_X3_kind r27 S) fun r28 => if r28 = ((2 : Int32)) then (K63 v2 v3 v4 v5 v6 v8 v7 ((1 : Int32)) S) else (K63 v2 v3 v4 v5 v6 v8 v7 ((0 : Int32)) S))) : Option ST) = some res := h
  refine lv_istore (lv' := [(6, .int v8), (0, .ref (ad 51)), (1, .int v2), (2, .int v3), (3, .int v4), (4, .int v5), (5, .int v6), (7, .int v7)]) hx hb dX0_fly_107 hl (by decide) rfl (fun ls hl => ?_)
  refine lv_iload_n hx hb dX0_fly_109 rfl (lv_at hl 4 rfl) ?_
  refine lv_if_gt (tgt := 146) hx hb dX0_fly_110 (by decide) (fun c25 => ?_) (fun c25 => ?_)
  · have h := ip h c25
    refine lv_iconst (v := (0 : Int32)) hx hb dX0_fly_146 (by decide) ?_
    refine lv_istore (lv' := [(8, .int ((0 : Int32))), (6, .int v8), (0, .ref (ad 51)), (1, .int v2), (2, .int v3), (3, .int v4), (4, .int v5), (5, .int v6), (7, .int v7)]) hx hb dX0_fly_147 hl (by decide) rfl (fun ls hl => ?_)
    refine lv_goto (tgt := 63) hx hb dX0_fly_149 (by decide) ?_
    exact hK63 h X (lv_sub hl [2, 3, 4, 5, 6, 7, 1, 8, 0] rfl) 
  · have h := inn h c25
    refine lv_iload_n hx hb dX0_fly_113 rfl (lv_at hl 4 rfl) ?_
    refine lv_bipush (v := (-100 : Int32)) hx hb dX0_fly_114 (by decide) ?_
    refine lv_aload_n hx hb dX0_fly_116 rfl (lv_at hl 1 rfl) ?_
    refine g_get C X inT0 51 (by decide) (eC_51 g ad S) rfl 3 (by decide) wd_290 (v := .int (S.1 51 3)) rfl dX0_fly_117 ?_
    refine lv_imul hx hb dX0_fly_120 ?_
    refine lv_icmp_le (tgt := 142) hx hb dX0_fly_121 (by decide) (fun c26 => ?_) (fun c26 => ?_)
    · have h := ip h c26
      refine lv_iconst (v := (1 : Int32)) hx hb dX0_fly_142 (by decide) ?_
      refine lv_goto (tgt := 147) hx hb dX0_fly_143 (by decide) ?_
      refine lv_istore (lv' := [(8, .int ((1 : Int32))), (6, .int v8), (0, .ref (ad 51)), (1, .int v2), (2, .int v3), (3, .int v4), (4, .int v5), (5, .int v6), (7, .int v7)]) hx hb dX0_fly_147 hl (by decide) rfl (fun ls hl => ?_)
      refine lv_goto (tgt := 63) hx hb dX0_fly_149 (by decide) ?_
      exact hK63 h X (lv_sub hl [2, 3, 4, 5, 6, 7, 1, 8, 0] rfl) 
    · have h := inn h c26
      refine lv_aload_n hx hb dX0_fly_124 rfl (lv_at hl 1 rfl) ?_
      refine g_get C X inT0 51 (by decide) (eC_51 g ad S) rfl 0 (by decide) wd_286 (v := .ref (ad 4)) rfl dX0_fly_125 ?_
      refine lv_iload_n hx hb dX0_fly_128 rfl (lv_at hl 3 rfl) ?_
      refine lv_bipush (v := (100 : Int32)) hx hb dX0_fly_129 (by decide) ?_
      refine lv_idiv hx hb dX0_fly_131 (by decide) ?_
      obtain ⟨r27, qr27, h⟩ := bn1_s h
      refine kc_i X (res := (r27, S)) (rS (As := [.int (v3 / ((100 : Int32)))]) (rest := [.ref (ad 4)]) (n := 1) C X (c_X3_cellAt l g ad S _ (v3 / ((100 : Int32)))  qr27) wd_807 wd_808 wd_73 wd_809 rfl rfl (by decide +kernel) ⟨Nat.le_of_ble_eq_true rfl, Nat.le_of_ble_eq_true rfl⟩ rfl hl.1 (lv_room (Nat.le_of_ble_eq_true rfl)) dX0_fly_132) (fun H locs X => ?_)
      obtain ⟨r28, qr28, h⟩ := bn1_s h
      refine kc_i X (res := (r28, S)) (rV (As := [.int r27]) (rest := []) (n := 1) (k := 4) C X (c_X3_kind l g ad S _ r27  qr28) wd_810 wd_646 wd_647 wd_73 wd_648 (by decide) (eC_4 g ad S) rfl rfl rfl (by decide +kernel) ⟨Nat.le_of_ble_eq_true rfl, Nat.le_of_ble_eq_true rfl⟩ rfl hl.1 (lv_room (Nat.le_of_ble_eq_true rfl)) dX0_fly_135) (fun H locs X => ?_)
      refine lv_iconst (v := (2 : Int32)) hx hb dX0_fly_138 (by decide) ?_
      refine lv_icmp_ne (tgt := 146) hx hb dX0_fly_139 (by decide) (fun c29 => ?_) (fun c29 => ?_)
      · have h := inn h c29
        refine lv_iconst (v := (0 : Int32)) hx hb dX0_fly_146 (by decide) ?_
        refine lv_istore (lv' := [(8, .int ((0 : Int32))), (6, .int v8), (0, .ref (ad 51)), (1, .int v2), (2, .int v3), (3, .int v4), (4, .int v5), (5, .int v6), (7, .int v7)]) hx hb dX0_fly_147 hl (by decide) rfl (fun ls hl => ?_)
        refine lv_goto (tgt := 63) hx hb dX0_fly_149 (by decide) ?_
        exact hK63 h X (lv_sub hl [2, 3, 4, 5, 6, 7, 1, 8, 0] rfl) 
      · have h := ip h c29
        refine lv_iconst (v := (1 : Int32)) hx hb dX0_fly_142 (by decide) ?_
        refine lv_goto (tgt := 147) hx hb dX0_fly_143 (by decide) ?_
        refine lv_istore (lv' := [(8, .int ((1 : Int32))), (6, .int v8), (0, .ref (ad 51)), (1, .int v2), (2, .int v3), (3, .int v4), (4, .int v5), (5, .int v6), (7, .int v7)]) hx hb dX0_fly_147 hl (by decide) rfl (fun ls hl => ?_)
        refine lv_goto (tgt := 63) hx hb dX0_fly_149 (by decide) ?_
        exact hK63 h X (lv_sub hl [2, 3, 4, 5, 6, 7, 1, 8, 0] rfl) 
set_option maxHeartbeats 4000000 in
set_option maxRecDepth 100000 in
theorem kb_X0_fly_63 {p : Program} {l : Launch} {e : Env} {s : State} {m : MethodId} {args : Array Value} {below : List Frame} {meth : Method} {c : Code} {g : GG} {ad : Nat → Nat} {res : ST} {S : ST} (C : CX kC g ad p s m args meth c cX0_fly none 9 yX0_fly.cls (.code yX0_fly cX0_fly 9 none)) {K63 : Int32 → Int32 → Int32 → Int32 → Int32 → Int32 → Int32 → Int32 → ST → Option ST} (hK63 : ∀ {v2 : Int32} {v3 : Int32} {v4 : Int32} {v5 : Int32} {v6 : Int32} {v7 : Int32} {v8 : Int32} {v9 : Int32} {S : ST} {H : Heap} {locs : List Loc} {ls : Array Slot}, K63 v2 v3 v4 v5 v6 v7 v8 v9 S = some res → WX kC g ad s S H locs → lv_has ls 9 [(0, .ref (ad 51)), (1, .int v2), (2, .int v3), (3, .int v4), (4, .int v5), (5, .int v6), (6, .int v7), (7, .int v8), (8, .int v9)] → W p l e rmX0_fly s m args below meth c H locs 0 0 (MQ below (QV kC g ad res (AA kC ad s.heap.size)) args s 0 0 (AA kC ad s.heap.size)) (F0 m 63 ls [])) {v2 : Int32} {v3 : Int32} {v4 : Int32} {v5 : Int32} {v6 : Int32} {v7 : Int32} {v8 : Int32} {v9 : Int32}  {H : Heap} {locs : List Loc} {ls : Array Slot} (h : b_X0_fly_63 K63 v2 v3 v4 v5 v6 v7 v8 v9 S = some res) (X : WX kC g ad s S H locs) (hl : lv_has ls 9 [(0, .ref (ad 51)), (1, .int v2), (2, .int v3), (3, .int v4), (4, .int v5), (5, .int v6), (6, .int v7), (7, .int v8), (8, .int v9)])  : W p l e rmX0_fly s m args below meth c H locs 0 0 (MQ below (QV kC g ad res (AA kC ad s.heap.size)) args s 0 0 (AA kC ad s.heap.size)) (F0 m 63 ls []) := by
  have hx := C.1.1
  have hb := C.1.2.1
  have h : (if ((400 : Int32)) ≤ v8 then (b_X0_fly_152 v2 v3 v7 v8 v9 S) else (if v9 = 0 then (nm (v8 + (1 : Int32)) fun x20 => nm (v3 + v5) fun x21 => nm (v4 + v6) fun x22 => nm (v6 + (-245 : Int32)) fun x23 => if x22 ≤ v7 then (b_X0_fly_107 K63 v2 x21 x22 v5 x23 x20 v7 S) else (b_X0_fly_107 K63 v2 x21 x22 v5 x23 x20 x22 S)) else (b_X0_fly_152 v2 v3 v7 v8 v9 S)) : Option ST) = some res := h
  refine lv_iload hx hb dX0_fly_63 (lv_at hl 7 rfl) ?_
  refine lv_sipush (v := (400 : Int32)) hx hb dX0_fly_65 (by decide) ?_
  refine lv_icmp_ge (tgt := 152) hx hb dX0_fly_68 (by decide) (fun c8 => ?_) (fun c8 => ?_)
  · have h := ip h c8
    exact kb_X0_fly_152 C h X (lv_sub hl [0, 1, 2, 6, 7, 8] rfl) 
  · have h := inn h c8
    refine lv_iload hx hb dX0_fly_71 (lv_at hl 8 rfl) ?_
    refine lv_if_ne (tgt := 152) hx hb dX0_fly_73 (by decide) (fun c19 => ?_) (fun c19 => ?_)
    · have h := inn h c19
      exact kb_X0_fly_152 C h X (lv_sub hl [0, 1, 2, 6, 7, 8] rfl) 
    · have h := ip h c19
      obtain ⟨x20, ex20, h⟩ := nm_s h
      refine lv_iinc (v := x20) (lv' := [(7, .int x20), (0, .ref (ad 51)), (1, .int v2), (2, .int v3), (3, .int v4), (4, .int v5), (5, .int v6), (6, .int v7), (8, .int v9)]) hx hb dX0_fly_76 hl (k := 7) rfl (by rw [ex20]; rfl) (by decide) rfl (fun ls hl => ?_)
      refine lv_iload_n hx hb dX0_fly_79 rfl (lv_at hl 3 rfl) ?_
      refine lv_iload hx hb dX0_fly_80 (lv_at hl 5 rfl) ?_
      refine lv_iadd hx hb dX0_fly_82 ?_
      obtain ⟨x21, ex21, h⟩ := nm_s h
      refine tp_i ex21 ?_
      refine lv_istore_n (lv' := [(2, .int x21), (7, .int x20), (0, .ref (ad 51)), (1, .int v2), (3, .int v4), (4, .int v5), (5, .int v6), (6, .int v7), (8, .int v9)]) hx hb dX0_fly_83 rfl hl (by decide) rfl (fun ls hl => ?_)
      refine lv_iload_n hx hb dX0_fly_84 rfl (lv_at hl 4 rfl) ?_
      refine lv_iload hx hb dX0_fly_85 (lv_at hl 6 rfl) ?_
      refine lv_iadd hx hb dX0_fly_87 ?_
      obtain ⟨x22, ex22, h⟩ := nm_s h
      refine tp_i ex22 ?_
      refine lv_istore_n (lv' := [(3, .int x22), (2, .int x21), (7, .int x20), (0, .ref (ad 51)), (1, .int v2), (4, .int v5), (5, .int v6), (6, .int v7), (8, .int v9)]) hx hb dX0_fly_88 rfl hl (by decide) rfl (fun ls hl => ?_)
      obtain ⟨x23, ex23, h⟩ := nm_s h
      refine lv_iincW (v := x23) (lv' := [(5, .int x23), (3, .int x22), (2, .int x21), (7, .int x20), (0, .ref (ad 51)), (1, .int v2), (4, .int v5), (6, .int v7), (8, .int v9)]) hx hb dX0_fly_89 hl (k := 6) rfl (by rw [ex23]; rfl) (by decide) rfl (fun ls hl => ?_)
      refine lv_iload_n hx hb dX0_fly_95 rfl (lv_at hl 1 rfl) ?_
      refine lv_iload hx hb dX0_fly_96 (lv_at hl 7 rfl) ?_
      refine lv_icmp_le (tgt := 105) hx hb dX0_fly_98 (by decide) (fun c24 => ?_) (fun c24 => ?_)
      · have h := ip h c24
        refine lv_iload hx hb dX0_fly_105 (lv_at hl 7 rfl) ?_
        exact kb_X0_fly_107 C hK63 h X (lv_sub hl [4, 5, 2, 1, 6, 0, 3] rfl) 
      · have h := inn h c24
        refine lv_iload_n hx hb dX0_fly_101 rfl (lv_at hl 1 rfl) ?_
        refine lv_goto (tgt := 107) hx hb dX0_fly_102 (by decide) ?_
        exact kb_X0_fly_107 C hK63 h X (lv_sub hl [4, 5, 2, 1, 6, 0, 3] rfl) 
set_option maxHeartbeats 4000000 in
set_option maxRecDepth 100000 in
theorem kl_X0_fly_63 {p : Program} {l : Launch} {e : Env} {s : State} {m : MethodId} {args : Array Value} {below : List Frame} {meth : Method} {c : Code} {g : GG} {ad : Nat → Nat} {res : ST}  (C : CX kC g ad p s m args meth c cX0_fly none 9 yX0_fly.cls (.code yX0_fly cX0_fly 9 none))  : ∀ (n : Nat) {v2 : Int32} {v3 : Int32} {v4 : Int32} {v5 : Int32} {v6 : Int32} {v7 : Int32} {v8 : Int32} {v9 : Int32} {S : ST} {H : Heap} {locs : List Loc} {ls : Array Slot}, (lp (fun _ _ _ _ _ _ _ _ _ => none) (b_X0_fly_63)) n v2 v3 v4 v5 v6 v7 v8 v9 S = some res → WX kC g ad s S H locs → lv_has ls 9 [(0, .ref (ad 51)), (1, .int v2), (2, .int v3), (3, .int v4), (4, .int v5), (5, .int v6), (6, .int v7), (7, .int v8), (8, .int v9)] → W p l e rmX0_fly s m args below meth c H locs 0 0 (MQ below (QV kC g ad res (AA kC ad s.heap.size)) args s 0 0 (AA kC ad s.heap.size)) (F0 m 63 ls []) := by
  intro n
  induction n with
  | zero =>
    intro v2 v3 v4 v5 v6 v7 v8 v9 S H locs ls h
    cases (show (none : Option ST) = some res from h)
  | succ n ih =>
    intro v2 v3 v4 v5 v6 v7 v8 v9 S H locs ls h X hl 
    exact kb_X0_fly_63 C ih h X hl 
set_option maxHeartbeats 4000000 in
set_option maxRecDepth 100000 in
theorem c_X0_fly (l : Launch) (g : GG) (ad : Nat → Nat) (S : ST) (sz : Nat) (a1 : Int32)  {res : ST} (h : f_X0_fly a1 S = some res) : Met l yX0_fly (WS (.code yX0_fly cX0_fly 9 none)) rmX0_fly (va_Pc [.ref (ad 51), .int a1] (PW kC g ad S sz)) (QV kC g ad res (AA kC ad sz)) 0 0 (AA kC ad sz) := by
  refine go_m (Qc := fun A => QV kC g ad res A) (by decide) (Nat.le_of_ble_eq_true rfl) (fun p e s m below meth c ls H locs C X hl => ?_)
  have hx := C.1.1
  have hb := C.1.2.1
  have hl : lv_has ls 9 [(0, .ref (ad 51)), (1, .int a1)] := hl
  have h : (nm (su S 51 13 a1) fun S1 => bn1 (f_X1_x a1 S1) fun r2 => nm (((100 : Int32)) * r2) fun x3 => bn1 (f_X1_height a1 S1) fun r4 => nm (((100 : Int32)) * (r4 - (S1.1 51 5))) fun x5 => bn1 (f_X1_across a1 S1) fun r6 => bn1 (f_X1_up a1 S1) fun r7 => lp (fun _ _ _ _ _ _ _ _ _ => none) (b_X0_fly_63) 1000 a1 x3 x5 r6 r7 x5 ((0 : Int32)) ((0 : Int32)) S1 : Option ST) = some res := h
  refine lv_aload_n hx hb dX0_fly_0 rfl (lv_at hl 0 rfl) ?_
  refine lv_iload_n hx hb dX0_fly_1 rfl (lv_at hl 1 rfl) ?_
  obtain ⟨S1, eS1, h⟩ := nm_s h
  refine g_put (S' := S1) C X inT0 tyX0 tyX0_ok nmX0 51 (by decide) (eC_51 g ad S) rfl 13 (by decide) wd_307 rfl (by rfl) rfl (Nat.le_of_ble_eq_true rfl) (by subst eS1; rfl) (by subst eS1; exact fun i hi => ent_offu hi) dX0_fly_2 (fun H locs X => ?_)
  refine lv_bipush (v := (100 : Int32)) hx hb dX0_fly_5 (by decide) ?_
  refine lv_aload_n hx hb dX0_fly_7 rfl (lv_at hl 0 rfl) ?_
  refine g_get C X inT0 51 (by decide) (eC_51 g ad S1) rfl 1 (by decide) wd_287 (v := .ref (ad 42)) rfl dX0_fly_8 ?_
  refine lv_iload_n hx hb dX0_fly_11 rfl (lv_at hl 1 rfl) ?_
  obtain ⟨r2, qr2, h⟩ := bn1_s h
  refine kc_i X (res := (r2, S1)) (rV (As := [.int a1]) (rest := [.int ((100 : Int32))]) (n := 1) (k := 42) C X (c_X1_x l g ad S1 _ a1  qr2) wd_803 wd_760 wd_761 wd_80 wd_762 (by decide) (eC_42 g ad S1) rfl rfl rfl (by decide +kernel) ⟨Nat.le_of_ble_eq_true rfl, Nat.le_of_ble_eq_true rfl⟩ rfl hl.1 (lv_room (Nat.le_of_ble_eq_true rfl)) dX0_fly_12) (fun H locs X => ?_)
  refine lv_imul hx hb dX0_fly_15 ?_
  obtain ⟨x3, ex3, h⟩ := nm_s h
  refine tp_i ex3 ?_
  refine lv_istore_n (lv' := [(2, .int x3), (0, .ref (ad 51)), (1, .int a1)]) hx hb dX0_fly_16 rfl hl (by decide) rfl (fun ls hl => ?_)
  refine lv_bipush (v := (100 : Int32)) hx hb dX0_fly_17 (by decide) ?_
  refine lv_aload_n hx hb dX0_fly_19 rfl (lv_at hl 1 rfl) ?_
  refine g_get C X inT0 51 (by decide) (eC_51 g ad S1) rfl 1 (by decide) wd_287 (v := .ref (ad 42)) rfl dX0_fly_20 ?_
  refine lv_iload_n hx hb dX0_fly_23 rfl (lv_at hl 2 rfl) ?_
  obtain ⟨r4, qr4, h⟩ := bn1_s h
  refine kc_i X (res := (r4, S1)) (rV (As := [.int a1]) (rest := [.int ((100 : Int32))]) (n := 1) (k := 42) C X (c_X1_height l g ad S1 _ a1  qr4) wd_806 wd_764 wd_765 wd_80 wd_766 (by decide) (eC_42 g ad S1) rfl rfl rfl (by decide +kernel) ⟨Nat.le_of_ble_eq_true rfl, Nat.le_of_ble_eq_true rfl⟩ rfl hl.1 (lv_room (Nat.le_of_ble_eq_true rfl)) dX0_fly_24) (fun H locs X => ?_)
  refine lv_aload_n hx hb dX0_fly_27 rfl (lv_at hl 1 rfl) ?_
  refine g_get C X inT0 51 (by decide) (eC_51 g ad S1) rfl 5 (by decide) wd_293 (v := .int (S1.1 51 5)) rfl dX0_fly_28 ?_
  refine lv_isub hx hb dX0_fly_31 ?_
  refine lv_imul hx hb dX0_fly_32 ?_
  obtain ⟨x5, ex5, h⟩ := nm_s h
  refine tp_i ex5 ?_
  refine lv_istore_n (lv' := [(3, .int x5), (2, .int x3), (0, .ref (ad 51)), (1, .int a1)]) hx hb dX0_fly_33 rfl hl (by decide) rfl (fun ls hl => ?_)
  refine lv_aload_n hx hb dX0_fly_34 rfl (lv_at hl 2 rfl) ?_
  refine g_get C X inT0 51 (by decide) (eC_51 g ad S1) rfl 1 (by decide) wd_287 (v := .ref (ad 42)) rfl dX0_fly_35 ?_
  refine lv_iload_n hx hb dX0_fly_38 rfl (lv_at hl 3 rfl) ?_
  obtain ⟨r6, qr6, h⟩ := bn1_s h
  refine kc_i X (res := (r6, S1)) (rV (As := [.int a1]) (rest := []) (n := 1) (k := 42) C X (c_X1_across l g ad S1 _ a1  qr6) wd_823 wd_824 wd_825 wd_80 wd_826 (by decide) (eC_42 g ad S1) rfl rfl rfl (by decide +kernel) ⟨Nat.le_of_ble_eq_true rfl, Nat.le_of_ble_eq_true rfl⟩ rfl hl.1 (lv_room (Nat.le_of_ble_eq_true rfl)) dX0_fly_39) (fun H locs X => ?_)
  refine lv_istore (lv' := [(4, .int r6), (3, .int x5), (2, .int x3), (0, .ref (ad 51)), (1, .int a1)]) hx hb dX0_fly_42 hl (by decide) rfl (fun ls hl => ?_)
  refine lv_aload_n hx hb dX0_fly_44 rfl (lv_at hl 3 rfl) ?_
  refine g_get C X inT0 51 (by decide) (eC_51 g ad S1) rfl 1 (by decide) wd_287 (v := .ref (ad 42)) rfl dX0_fly_45 ?_
  refine lv_iload_n hx hb dX0_fly_48 rfl (lv_at hl 4 rfl) ?_
  obtain ⟨r7, qr7, h⟩ := bn1_s h
  refine kc_i X (res := (r7, S1)) (rV (As := [.int a1]) (rest := []) (n := 1) (k := 42) C X (c_X1_up l g ad S1 _ a1  qr7) wd_827 wd_828 wd_829 wd_80 wd_830 (by decide) (eC_42 g ad S1) rfl rfl rfl (by decide +kernel) ⟨Nat.le_of_ble_eq_true rfl, Nat.le_of_ble_eq_true rfl⟩ rfl hl.1 (lv_room (Nat.le_of_ble_eq_true rfl)) dX0_fly_49) (fun H locs X => ?_)
  refine lv_istore (lv' := [(5, .int r7), (4, .int r6), (3, .int x5), (2, .int x3), (0, .ref (ad 51)), (1, .int a1)]) hx hb dX0_fly_52 hl (by decide) rfl (fun ls hl => ?_)
  refine lv_iload_n hx hb dX0_fly_54 rfl (lv_at hl 2 rfl) ?_
  refine lv_istore (lv' := [(6, .int x5), (5, .int r7), (4, .int r6), (3, .int x5), (2, .int x3), (0, .ref (ad 51)), (1, .int a1)]) hx hb dX0_fly_55 hl (by decide) rfl (fun ls hl => ?_)
  refine lv_iconst (v := (0 : Int32)) hx hb dX0_fly_57 (by decide) ?_
  refine lv_istore (lv' := [(7, .int ((0 : Int32))), (6, .int x5), (5, .int r7), (4, .int r6), (3, .int x5), (2, .int x3), (0, .ref (ad 51)), (1, .int a1)]) hx hb dX0_fly_58 hl (by decide) rfl (fun ls hl => ?_)
  refine lv_iconst (v := (0 : Int32)) hx hb dX0_fly_60 (by decide) ?_
  refine lv_istore (lv' := [(8, .int ((0 : Int32))), (7, .int ((0 : Int32))), (6, .int x5), (5, .int r7), (4, .int r6), (3, .int x5), (2, .int x3), (0, .ref (ad 51)), (1, .int a1)]) hx hb dX0_fly_61 hl (by decide) rfl (fun ls hl => ?_)
  exact kl_X0_fly_63 C _ h X (lv_sub hl [7, 8, 6, 5, 4, 3, 2, 1, 0] rfl) 

def rmX0_letGo : Room := { frames := 3, cells := 0, slots := 0, locals := 73 }
def b_X0_letGo_45  (v1 : Int32) (S : ST) : Option ST :=
  nm (su S 51 11 v1) fun S13 => some S13
def f_X0_letGo (a1 : Int32) (S : ST) : Option ST :=
  bn1 (f_X0_canLetGo a1 S) fun r1 => if r1 = 0 then (if (S.1 51 10) = ((5 : Int32)) then (bn1 (f_X0_fly (S.1 51 9) S) fun S11 => if (S11.1 51 11) = 0 then (b_X0_letGo_45 ((0 : Int32)) S11) else (b_X0_letGo_45 ((5 : Int32)) S11)) else (nm (su S 51 13 (S.1 51 9)) fun S4 => bn1 (f_X1_x (S4.1 51 9) S4) fun r5 => nm (su S4 51 12 r5) fun S6 => nm (su S6 51 14 ((0 : Int32))) fun S7 => nm (su S7 51 15 ((0 : Int32))) fun S8 => nm (su S8 51 16 ((0 : Int32))) fun S9 => nm (su S9 51 11 (S9.1 51 10)) fun S10 => some S10)) else (bn1 (f_X0_fly a1 S) fun S14 => some S14)
set_option maxHeartbeats 4000000 in
set_option maxRecDepth 100000 in
theorem kb_X0_letGo_45 {p : Program} {l : Launch} {e : Env} {s : State} {m : MethodId} {args : Array Value} {below : List Frame} {meth : Method} {c : Code} {g : GG} {ad : Nat → Nat} {res : ST} {S : ST} (C : CX kC g ad p s m args meth c cX0_letGo none 2 yX0_letGo.cls (.code yX0_letGo cX0_letGo 2 none))  {v1 : Int32}  {H : Heap} {locs : List Loc} {ls : Array Slot} (h : b_X0_letGo_45 v1 S = some res) (X : WX kC g ad s S H locs) (hl : lv_has ls 2 [])  : W p l e rmX0_letGo s m args below meth c H locs 0 0 (MQ below (QV kC g ad res (AA kC ad s.heap.size)) args s 0 0 (AA kC ad s.heap.size)) (F0 m 45 ls [.int v1, .ref (ad 51)]) := by
  have hx := C.1.1
  have hb := C.1.2.1
  have h : (nm (su S 51 11 v1) fun S13 => some S13 : Option ST) = some res := h
  obtain ⟨S13, eS13, h⟩ := nm_s h
  refine g_put (S' := S13) C X inT0 tyX0 tyX0_ok nmX0 51 (by decide) (eC_51 g ad S) rfl 11 (by decide) wd_302 rfl (by rfl) rfl (Nat.le_of_ble_eq_true rfl) (by subst eS13; rfl) (by subst eS13; exact fun i hi => ent_offu hi) dX0_letGo_45 (fun H locs X => ?_)
  refine lv_goto (tgt := 97) hx hb dX0_letGo_48 (by decide) ?_
  exact rt_v C X rfl (Option.some.inj h) dX0_letGo_97
set_option maxHeartbeats 4000000 in
set_option maxRecDepth 100000 in
theorem c_X0_letGo (l : Launch) (g : GG) (ad : Nat → Nat) (S : ST) (sz : Nat) (a1 : Int32)  {res : ST} (h : f_X0_letGo a1 S = some res) : Met l yX0_letGo (WS (.code yX0_letGo cX0_letGo 2 none)) rmX0_letGo (va_Pc [.ref (ad 51), .int a1] (PW kC g ad S sz)) (QV kC g ad res (AA kC ad sz)) 0 0 (AA kC ad sz) := by
  refine go_m (Qc := fun A => QV kC g ad res A) (by decide) (Nat.le_of_ble_eq_true rfl) (fun p e s m below meth c ls H locs C X hl => ?_)
  have hx := C.1.1
  have hb := C.1.2.1
  have hl : lv_has ls 2 [(0, .ref (ad 51)), (1, .int a1)] := hl
  have h : (bn1 (f_X0_canLetGo a1 S) fun r1 => if r1 = 0 then (if (S.1 51 10) = ((5 : Int32)) then (bn1 (f_X0_fly (S.1 51 9) S) fun S11 => if (S11.1 51 11) = 0 then (b_X0_letGo_45 ((0 : Int32)) S11) else (b_X0_letGo_45 ((5 : Int32)) S11)) else (nm (su S 51 13 (S.1 51 9)) fun S4 => bn1 (f_X1_x (S4.1 51 9) S4) fun r5 => nm (su S4 51 12 r5) fun S6 => nm (su S6 51 14 ((0 : Int32))) fun S7 => nm (su S7 51 15 ((0 : Int32))) fun S8 => nm (su S8 51 16 ((0 : Int32))) fun S9 => nm (su S9 51 11 (S9.1 51 10)) fun S10 => some S10)) else (bn1 (f_X0_fly a1 S) fun S14 => some S14) : Option ST) = some res := h
  refine lv_aload_n hx hb dX0_letGo_0 rfl (lv_at hl 0 rfl) ?_
  refine lv_iload_n hx hb dX0_letGo_1 rfl (lv_at hl 1 rfl) ?_
  obtain ⟨r1, qr1, h⟩ := bn1_s h
  refine kc_i X (res := (r1, S)) (rV (As := [.int a1]) (rest := []) (n := 1) (k := 51) C X (c_X0_canLetGo l g ad S _ a1  qr1) wd_815 wd_817 wd_20 wd_81 wd_818 (by decide) (eC_51 g ad S) rfl rfl rfl (by decide +kernel) ⟨Nat.le_of_ble_eq_true rfl, Nat.le_of_ble_eq_true rfl⟩ rfl hl.1 (lv_room (Nat.le_of_ble_eq_true rfl)) dX0_letGo_2) (fun H locs X => ?_)
  refine lv_if_eq (tgt := 16) hx hb dX0_letGo_5 (by decide) (fun c2 => ?_) (fun c2 => ?_)
  · have h := ip h c2
    refine lv_aload_n hx hb dX0_letGo_16 rfl (lv_at hl 0 rfl) ?_
    refine g_get C X inT0 51 (by decide) (eC_51 g ad S) rfl 10 (by decide) wd_301 (v := .int (S.1 51 10)) rfl dX0_letGo_17 ?_
    refine lv_iconst (v := (5 : Int32)) hx hb dX0_letGo_20 (by decide) ?_
    refine lv_icmp_ne (tgt := 51) hx hb dX0_letGo_21 (by decide) (fun c3 => ?_) (fun c3 => ?_)
    · have h := inn h c3
      refine lv_aload_n hx hb dX0_letGo_51 rfl (lv_at hl 0 rfl) ?_
      refine lv_aload_n hx hb dX0_letGo_52 rfl (lv_at hl 0 rfl) ?_
      refine g_get C X inT0 51 (by decide) (eC_51 g ad S) rfl 9 (by decide) wd_300 (v := .int (S.1 51 9)) rfl dX0_letGo_53 ?_
      obtain ⟨S4, eS4, h⟩ := nm_s h
      refine g_put (S' := S4) C X inT0 tyX0 tyX0_ok nmX0 51 (by decide) (eC_51 g ad S) rfl 13 (by decide) wd_307 rfl (by rfl) rfl (Nat.le_of_ble_eq_true rfl) (by subst eS4; rfl) (by subst eS4; exact fun i hi => ent_offu hi) dX0_letGo_56 (fun H locs X => ?_)
      refine lv_aload_n hx hb dX0_letGo_59 rfl (lv_at hl 0 rfl) ?_
      refine lv_aload_n hx hb dX0_letGo_60 rfl (lv_at hl 0 rfl) ?_
      refine g_get C X inT0 51 (by decide) (eC_51 g ad S4) rfl 1 (by decide) wd_287 (v := .ref (ad 42)) rfl dX0_letGo_61 ?_
      refine lv_aload_n hx hb dX0_letGo_64 rfl (lv_at hl 0 rfl) ?_
      refine g_get C X inT0 51 (by decide) (eC_51 g ad S4) rfl 9 (by decide) wd_300 (v := .int (S4.1 51 9)) rfl dX0_letGo_65 ?_
      obtain ⟨r5, qr5, h⟩ := bn1_s h
      refine kc_i X (res := (r5, S4)) (rV (As := [.int (S4.1 51 9)]) (rest := [.ref (ad 51)]) (n := 1) (k := 42) C X (c_X1_x l g ad S4 _ (S4.1 51 9)  qr5) wd_803 wd_760 wd_761 wd_80 wd_762 (by decide) (eC_42 g ad S4) rfl rfl rfl (by decide +kernel) ⟨Nat.le_of_ble_eq_true rfl, Nat.le_of_ble_eq_true rfl⟩ rfl hl.1 (lv_room (Nat.le_of_ble_eq_true rfl)) dX0_letGo_68) (fun H locs X => ?_)
      obtain ⟨S6, eS6, h⟩ := nm_s h
      refine g_put (S' := S6) C X inT0 tyX0 tyX0_ok nmX0 51 (by decide) (eC_51 g ad S4) rfl 12 (by decide) wd_305 rfl (by rfl) rfl (Nat.le_of_ble_eq_true rfl) (by subst eS6; rfl) (by subst eS6; exact fun i hi => ent_offu hi) dX0_letGo_71 (fun H locs X => ?_)
      refine lv_aload_n hx hb dX0_letGo_74 rfl (lv_at hl 0 rfl) ?_
      refine lv_iconst (v := (0 : Int32)) hx hb dX0_letGo_75 (by decide) ?_
      obtain ⟨S7, eS7, h⟩ := nm_s h
      refine g_put (S' := S7) C X inT0 tyX0 tyX0_ok nmX0 51 (by decide) (eC_51 g ad S6) rfl 14 (by decide) wd_309 rfl (by rfl) rfl (Nat.le_of_ble_eq_true rfl) (by subst eS7; rfl) (by subst eS7; exact fun i hi => ent_offu hi) dX0_letGo_76 (fun H locs X => ?_)
      refine lv_aload_n hx hb dX0_letGo_79 rfl (lv_at hl 0 rfl) ?_
      refine lv_iconst (v := (0 : Int32)) hx hb dX0_letGo_80 (by decide) ?_
      obtain ⟨S8, eS8, h⟩ := nm_s h
      refine g_put (S' := S8) C X inT0 tyX0 tyX0_ok nmX0 51 (by decide) (eC_51 g ad S7) rfl 15 (by decide) wd_312 rfl (by rfl) rfl (Nat.le_of_ble_eq_true rfl) (by subst eS8; rfl) (by subst eS8; exact fun i hi => ent_offu hi) dX0_letGo_81 (fun H locs X => ?_)
      refine lv_aload_n hx hb dX0_letGo_84 rfl (lv_at hl 0 rfl) ?_
      refine lv_iconst (v := (0 : Int32)) hx hb dX0_letGo_85 (by decide) ?_
      obtain ⟨S9, eS9, h⟩ := nm_s h
      refine g_put (S' := S9) C X inT0 tyX0 tyX0_ok nmX0 51 (by decide) (eC_51 g ad S8) rfl 16 (by decide) wd_314 rfl (by rfl) rfl (Nat.le_of_ble_eq_true rfl) (by subst eS9; rfl) (by subst eS9; exact fun i hi => ent_offu hi) dX0_letGo_86 (fun H locs X => ?_)
      refine lv_aload_n hx hb dX0_letGo_89 rfl (lv_at hl 0 rfl) ?_
      refine lv_aload_n hx hb dX0_letGo_90 rfl (lv_at hl 0 rfl) ?_
      refine g_get C X inT0 51 (by decide) (eC_51 g ad S9) rfl 10 (by decide) wd_301 (v := .int (S9.1 51 10)) rfl dX0_letGo_91 ?_
      obtain ⟨S10, eS10, h⟩ := nm_s h
      refine g_put (S' := S10) C X inT0 tyX0 tyX0_ok nmX0 51 (by decide) (eC_51 g ad S9) rfl 11 (by decide) wd_302 rfl (by rfl) rfl (Nat.le_of_ble_eq_true rfl) (by subst eS10; rfl) (by subst eS10; exact fun i hi => ent_offu hi) dX0_letGo_94 (fun H locs X => ?_)
      exact rt_v C X rfl (Option.some.inj h) dX0_letGo_97
    · have h := ip h c3
      refine lv_aload_n hx hb dX0_letGo_24 rfl (lv_at hl 0 rfl) ?_
      refine lv_aload_n hx hb dX0_letGo_25 rfl (lv_at hl 0 rfl) ?_
      refine g_get C X inT0 51 (by decide) (eC_51 g ad S) rfl 9 (by decide) wd_300 (v := .int (S.1 51 9)) rfl dX0_letGo_26 ?_
      obtain ⟨S11, qS11, h⟩ := bn1_s h
      refine kc_v X (res := S11) (rV (As := [.int (S.1 51 9)]) (rest := []) (n := 1) (k := 51) C X (c_X0_fly l g ad S _ (S.1 51 9)  qS11) wd_819 wd_821 wd_21 wd_81 wd_822 (by decide) (eC_51 g ad S) rfl rfl rfl (by decide +kernel) ⟨Nat.le_of_ble_eq_true rfl, Nat.le_of_ble_eq_true rfl⟩ rfl hl.1 (lv_room (Nat.le_of_ble_eq_true rfl)) dX0_letGo_29) (fun H locs X => ?_)
      refine lv_aload_n hx hb dX0_letGo_32 rfl (lv_at hl 0 rfl) ?_
      refine lv_aload_n hx hb dX0_letGo_33 rfl (lv_at hl 0 rfl) ?_
      refine g_get C X inT0 51 (by decide) (eC_51 g ad S11) rfl 11 (by decide) wd_302 (v := .int (S11.1 51 11)) rfl dX0_letGo_34 ?_
      refine lv_if_ne (tgt := 44) hx hb dX0_letGo_37 (by decide) (fun c12 => ?_) (fun c12 => ?_)
      · have h := inn h c12
        refine lv_iconst (v := (5 : Int32)) hx hb dX0_letGo_44 (by decide) ?_
        exact kb_X0_letGo_45 C h X (lv_sub hl [] rfl) 
      · have h := ip h c12
        refine lv_iconst (v := (0 : Int32)) hx hb dX0_letGo_40 (by decide) ?_
        refine lv_goto (tgt := 45) hx hb dX0_letGo_41 (by decide) ?_
        exact kb_X0_letGo_45 C h X (lv_sub hl [] rfl) 
  · have h := inn h c2
    refine lv_aload_n hx hb dX0_letGo_8 rfl (lv_at hl 0 rfl) ?_
    refine lv_iload_n hx hb dX0_letGo_9 rfl (lv_at hl 1 rfl) ?_
    obtain ⟨S14, qS14, h⟩ := bn1_s h
    refine kc_v X (res := S14) (rV (As := [.int a1]) (rest := []) (n := 1) (k := 51) C X (c_X0_fly l g ad S _ a1  qS14) wd_819 wd_821 wd_21 wd_81 wd_822 (by decide) (eC_51 g ad S) rfl rfl rfl (by decide +kernel) ⟨Nat.le_of_ble_eq_true rfl, Nat.le_of_ble_eq_true rfl⟩ rfl hl.1 (lv_room (Nat.le_of_ble_eq_true rfl)) dX0_letGo_10) (fun H locs X => ?_)
    refine lv_goto (tgt := 97) hx hb dX0_letGo_13 (by decide) ?_
    exact rt_v C X rfl (Option.some.inj h) dX0_letGo_97

def rmX0_endsGood : Room := { frames := 3, cells := 0, slots := 0, locals := 73 }
def f_X0_endsGood (a1 : Int32) (S : ST) : Option (Int32 × ST) :=
  bn1 (f_X0_canLetGo a1 S) fun r1 => if r1 = 0 then (some ((0 : Int32), S)) else (bn1 (f_X0_fly a1 S) fun S3 => bn1 (f_X9_isGood (S3.1 51 11)) fun r4 => chk (zb r4) (some (r4, S3)))
set_option maxHeartbeats 4000000 in
set_option maxRecDepth 100000 in
theorem c_X0_endsGood (l : Launch) (g : GG) (ad : Nat → Nat) (S : ST) (sz : Nat) (a1 : Int32)  {res : (Int32 × ST)} (h : f_X0_endsGood a1 S = some res) : Met l yX0_endsGood (WS (.code yX0_endsGood cX0_endsGood 2 (some Jvm.ClassFile.FieldType.boolean))) rmX0_endsGood (va_Pc [.ref (ad 51), .int a1] (PW kC g ad S sz)) (QI kC g ad res (AA kC ad sz)) 0 0 (AA kC ad sz) := by
  refine go_m (Qc := fun A => QI kC g ad res A) (by decide) (Nat.le_of_ble_eq_true rfl) (fun p e s m below meth c ls H locs C X hl => ?_)
  have hx := C.1.1
  have hb := C.1.2.1
  have hl : lv_has ls 2 [(0, .ref (ad 51)), (1, .int a1)] := hl
  have h : (bn1 (f_X0_canLetGo a1 S) fun r1 => if r1 = 0 then (some ((0 : Int32), S)) else (bn1 (f_X0_fly a1 S) fun S3 => bn1 (f_X9_isGood (S3.1 51 11)) fun r4 => chk (zb r4) (some (r4, S3))) : Option (Int32 × ST)) = some res := h
  refine lv_aload_n hx hb dX0_endsGood_0 rfl (lv_at hl 0 rfl) ?_
  refine lv_iload_n hx hb dX0_endsGood_1 rfl (lv_at hl 1 rfl) ?_
  obtain ⟨r1, qr1, h⟩ := bn1_s h
  refine kc_i X (res := (r1, S)) (rV (As := [.int a1]) (rest := []) (n := 1) (k := 51) C X (c_X0_canLetGo l g ad S _ a1  qr1) wd_815 wd_817 wd_20 wd_81 wd_818 (by decide) (eC_51 g ad S) rfl rfl rfl (by decide +kernel) ⟨Nat.le_of_ble_eq_true rfl, Nat.le_of_ble_eq_true rfl⟩ rfl hl.1 (lv_room (Nat.le_of_ble_eq_true rfl)) dX0_endsGood_2) (fun H locs X => ?_)
  refine lv_if_ne (tgt := 10) hx hb dX0_endsGood_5 (by decide) (fun c2 => ?_) (fun c2 => ?_)
  · have h := inn h c2
    refine lv_aload_n hx hb dX0_endsGood_10 rfl (lv_at hl 0 rfl) ?_
    refine lv_iload_n hx hb dX0_endsGood_11 rfl (lv_at hl 1 rfl) ?_
    obtain ⟨S3, qS3, h⟩ := bn1_s h
    refine kc_v X (res := S3) (rV (As := [.int a1]) (rest := []) (n := 1) (k := 51) C X (c_X0_fly l g ad S _ a1  qS3) wd_819 wd_821 wd_21 wd_81 wd_822 (by decide) (eC_51 g ad S) rfl rfl rfl (by decide +kernel) ⟨Nat.le_of_ble_eq_true rfl, Nat.le_of_ble_eq_true rfl⟩ rfl hl.1 (lv_room (Nat.le_of_ble_eq_true rfl)) dX0_endsGood_12) (fun H locs X => ?_)
    refine lv_aload_n hx hb dX0_endsGood_15 rfl (lv_at hl 0 rfl) ?_
    refine g_get C X inT0 51 (by decide) (eC_51 g ad S3) rfl 11 (by decide) wd_302 (v := .int (S3.1 51 11)) rfl dX0_endsGood_16 ?_
    obtain ⟨r4, qr4, h⟩ := bn1_s h
    refine kc_i X (res := (r4, S3)) (rSN (As := [.int (S3.1 51 11)]) (rest := []) (n := 1) C X (c_X9_isGood l g ad S3 _ (S3.1 51 11)  qr4) nw_848 wd_849 wd_70 wd_850 rfl rfl (by decide +kernel) ⟨Nat.le_of_ble_eq_true rfl, Nat.le_of_ble_eq_true rfl⟩ rfl hl.1 (lv_room (Nat.le_of_ble_eq_true rfl)) dX0_endsGood_19) (fun H locs X => ?_)
    obtain ⟨k5, h⟩ := chk_s h
    exact rt_z C X rfl (zb_or k5) (Option.some.inj h) dX0_endsGood_22
  · have h := ip h c2
    refine lv_iconst (v := (0 : Int32)) hx hb dX0_endsGood_8 (by decide) ?_
    exact rt_z C X rfl (by decide) (Option.some.inj h) dX0_endsGood_9

def rmX0_hasGoodTime : Room := { frames := 4, cells := 0, slots := 0, locals := 94 }
def b_X0_hasGoodTime_2 (K2 : Int32 → ST → Option (Int32 × ST)) (v2 : Int32) (S : ST) : Option (Int32 × ST) :=
  if ((200 : Int32)) < v2 then (some ((0 : Int32), S)) else (bnd (f_X0_endsGood (v2 + (S.1 51 7)) S) fun r3 S2 => if r3 = 0 then (nm (v2 + (1 : Int32)) fun x5 => K2 x5 S2) else (some ((1 : Int32), S2)))
def f_X0_hasGoodTime  (S : ST) : Option (Int32 × ST) :=
  lp (fun _ _ => none) (b_X0_hasGoodTime_2) 1000 ((1 : Int32)) S
set_option maxHeartbeats 4000000 in
set_option maxRecDepth 100000 in
theorem kb_X0_hasGoodTime_2 {p : Program} {l : Launch} {e : Env} {s : State} {m : MethodId} {args : Array Value} {below : List Frame} {meth : Method} {c : Code} {g : GG} {ad : Nat → Nat} {res : (Int32 × ST)} {S : ST} (C : CX kC g ad p s m args meth c cX0_hasGoodTime (some Jvm.ClassFile.FieldType.boolean) 2 yX0_hasGoodTime.cls (.code yX0_hasGoodTime cX0_hasGoodTime 2 (some Jvm.ClassFile.FieldType.boolean))) {K2 : Int32 → ST → Option (Int32 × ST)} (hK2 : ∀ {v2 : Int32} {S : ST} {H : Heap} {locs : List Loc} {ls : Array Slot}, K2 v2 S = some res → WX kC g ad s S H locs → lv_has ls 2 [(0, .ref (ad 51)), (1, .int v2)] → W p l e rmX0_hasGoodTime s m args below meth c H locs 0 0 (MQ below (QI kC g ad res (AA kC ad s.heap.size)) args s 0 0 (AA kC ad s.heap.size)) (F0 m 2 ls [])) {v2 : Int32}  {H : Heap} {locs : List Loc} {ls : Array Slot} (h : b_X0_hasGoodTime_2 K2 v2 S = some res) (X : WX kC g ad s S H locs) (hl : lv_has ls 2 [(0, .ref (ad 51)), (1, .int v2)])  : W p l e rmX0_hasGoodTime s m args below meth c H locs 0 0 (MQ below (QI kC g ad res (AA kC ad s.heap.size)) args s 0 0 (AA kC ad s.heap.size)) (F0 m 2 ls []) := by
  have hx := C.1.1
  have hb := C.1.2.1
  have h : (if ((200 : Int32)) < v2 then (some ((0 : Int32), S)) else (bnd (f_X0_endsGood (v2 + (S.1 51 7)) S) fun r3 S2 => if r3 = 0 then (nm (v2 + (1 : Int32)) fun x5 => K2 x5 S2) else (some ((1 : Int32), S2))) : Option (Int32 × ST)) = some res := h
  refine lv_iload_n hx hb dX0_hasGoodTime_2 rfl (lv_at hl 1 rfl) ?_
  refine lv_sipush (v := (200 : Int32)) hx hb dX0_hasGoodTime_3 (by decide) ?_
  refine lv_icmp_gt (tgt := 30) hx hb dX0_hasGoodTime_6 (by decide) (fun c1 => ?_) (fun c1 => ?_)
  · have h := ip h c1
    refine lv_iconst (v := (0 : Int32)) hx hb dX0_hasGoodTime_30 (by decide) ?_
    exact rt_z C X rfl (by decide) (Option.some.inj h) dX0_hasGoodTime_31
  · have h := inn h c1
    refine lv_aload_n hx hb dX0_hasGoodTime_9 rfl (lv_at hl 0 rfl) ?_
    refine lv_iload_n hx hb dX0_hasGoodTime_10 rfl (lv_at hl 1 rfl) ?_
    refine lv_aload_n hx hb dX0_hasGoodTime_11 rfl (lv_at hl 0 rfl) ?_
    refine g_get C X inT0 51 (by decide) (eC_51 g ad S) rfl 7 (by decide) wd_295 (v := .int (S.1 51 7)) rfl dX0_hasGoodTime_12 ?_
    refine lv_iadd hx hb dX0_hasGoodTime_15 ?_
    obtain ⟨r3, S2, qr3, h⟩ := bnd_s h
    refine kc_i X (res := (r3, S2)) (rV (As := [.int (v2 + (S.1 51 7))]) (rest := []) (n := 1) (k := 51) C X (c_X0_endsGood l g ad S _ (v2 + (S.1 51 7))  qr3) wd_884 wd_845 wd_846 wd_81 wd_847 (by decide) (eC_51 g ad S) rfl rfl rfl (by decide +kernel) ⟨Nat.le_of_ble_eq_true rfl, Nat.le_of_ble_eq_true rfl⟩ rfl hl.1 (lv_room (Nat.le_of_ble_eq_true rfl)) dX0_hasGoodTime_16) (fun H locs X => ?_)
    refine lv_if_eq (tgt := 24) hx hb dX0_hasGoodTime_19 (by decide) (fun c4 => ?_) (fun c4 => ?_)
    · have h := ip h c4
      obtain ⟨x5, ex5, h⟩ := nm_s h
      refine lv_iinc (v := x5) (lv' := [(1, .int x5), (0, .ref (ad 51))]) hx hb dX0_hasGoodTime_24 hl (k := 1) rfl (by rw [ex5]; rfl) (by decide) rfl (fun ls hl => ?_)
      refine lv_goto (tgt := 2) hx hb dX0_hasGoodTime_27 (by decide) ?_
      exact hK2 h X (lv_sub hl [1, 0] rfl) 
    · have h := inn h c4
      refine lv_iconst (v := (1 : Int32)) hx hb dX0_hasGoodTime_22 (by decide) ?_
      exact rt_z C X rfl (by decide) (Option.some.inj h) dX0_hasGoodTime_23
set_option maxHeartbeats 4000000 in
set_option maxRecDepth 100000 in
theorem kl_X0_hasGoodTime_2 {p : Program} {l : Launch} {e : Env} {s : State} {m : MethodId} {args : Array Value} {below : List Frame} {meth : Method} {c : Code} {g : GG} {ad : Nat → Nat} {res : (Int32 × ST)}  (C : CX kC g ad p s m args meth c cX0_hasGoodTime (some Jvm.ClassFile.FieldType.boolean) 2 yX0_hasGoodTime.cls (.code yX0_hasGoodTime cX0_hasGoodTime 2 (some Jvm.ClassFile.FieldType.boolean)))  : ∀ (n : Nat) {v2 : Int32} {S : ST} {H : Heap} {locs : List Loc} {ls : Array Slot}, (lp (fun _ _ => none) (b_X0_hasGoodTime_2)) n v2 S = some res → WX kC g ad s S H locs → lv_has ls 2 [(0, .ref (ad 51)), (1, .int v2)] → W p l e rmX0_hasGoodTime s m args below meth c H locs 0 0 (MQ below (QI kC g ad res (AA kC ad s.heap.size)) args s 0 0 (AA kC ad s.heap.size)) (F0 m 2 ls []) := by
  intro n
  induction n with
  | zero =>
    intro v2 S H locs ls h
    cases (show (none : Option (Int32 × ST)) = some res from h)
  | succ n ih =>
    intro v2 S H locs ls h X hl 
    exact kb_X0_hasGoodTime_2 C ih h X hl 
set_option maxHeartbeats 4000000 in
set_option maxRecDepth 100000 in
theorem c_X0_hasGoodTime (l : Launch) (g : GG) (ad : Nat → Nat) (S : ST) (sz : Nat)   {res : (Int32 × ST)} (h : f_X0_hasGoodTime S = some res) : Met l yX0_hasGoodTime (WS (.code yX0_hasGoodTime cX0_hasGoodTime 2 (some Jvm.ClassFile.FieldType.boolean))) rmX0_hasGoodTime (va_Pc [.ref (ad 51)] (PW kC g ad S sz)) (QI kC g ad res (AA kC ad sz)) 0 0 (AA kC ad sz) := by
  refine go_m (Qc := fun A => QI kC g ad res A) (by decide) (Nat.le_of_ble_eq_true rfl) (fun p e s m below meth c ls H locs C X hl => ?_)
  have hx := C.1.1
  have hb := C.1.2.1
  have hl : lv_has ls 2 [(0, .ref (ad 51))] := hl
  have h : (lp (fun _ _ => none) (b_X0_hasGoodTime_2) 1000 ((1 : Int32)) S : Option (Int32 × ST)) = some res := h
  refine lv_iconst (v := (1 : Int32)) hx hb dX0_hasGoodTime_0 (by decide) ?_
  refine lv_istore_n (lv' := [(1, .int ((1 : Int32))), (0, .ref (ad 51))]) hx hb dX0_hasGoodTime_1 rfl hl (by decide) rfl (fun ls hl => ?_)
  exact kl_X0_hasGoodTime_2 C _ h X (lv_sub hl [1, 0] rfl) 

def rmX8_scan : Room := { frames := 4, cells := 0, slots := 0, locals := 94 }
def b_X8_scan_145 (K35 : Int32 → Int32 → Int32 → Int32 → ST → Option ST) (v3 : Int32) (v4 : Int32) (v5 : Int32) (S : ST) : Option ST :=
  nm (su S 52 1 v5) fun S17 => nm (S17.1 51 15) fun x18 => nm (v5 + (1 : Int32)) fun x19 => K35 v3 x18 v4 x19 S17
def b_X8_scan_129 (K35 : Int32 → Int32 → Int32 → Int32 → ST → Option ST) (v3 : Int32) (v4 : Int32) (v5 : Int32) (v6 : Int32) (S : ST) : Option ST :=
  if (S.1 52 1) = ((-1 : Int32)) then (b_X8_scan_145 K35 v3 v5 v6 S) else (if (S.1 51 15) ≤ v4 then (nm (v6 + (1 : Int32)) fun x21 => K35 v3 v4 v5 x21 S) else (b_X8_scan_145 K35 v3 v5 v6 S))
def b_X8_scan_118 (K35 : Int32 → Int32 → Int32 → Int32 → ST → Option ST) (v3 : Int32) (v4 : Int32) (v5 : Int32) (S : ST) : Option ST :=
  nm (su S 52 0 v5) fun S14 => nm (S14.1 51 12) fun x15 => b_X8_scan_129 K35 x15 v3 v4 v5 S14
def b_X8_scan_102 (K35 : Int32 → Int32 → Int32 → Int32 → ST → Option ST) (v3 : Int32) (v4 : Int32) (v5 : Int32) (v6 : Int32) (S : ST) : Option ST :=
  if (S.1 52 0) = ((-1 : Int32)) then (b_X8_scan_118 K35 v4 v5 v6 S) else (if (S.1 51 12) ≤ v3 then (b_X8_scan_129 K35 v3 v4 v5 v6 S) else (b_X8_scan_118 K35 v4 v5 v6 S))
def b_X8_scan_35 (K35 : Int32 → Int32 → Int32 → Int32 → ST → Option ST) (v3 : Int32) (v4 : Int32) (v5 : Int32) (v6 : Int32) (S : ST) : Option ST :=
  if ((200 : Int32)) < v6 then (some S) else (bnd (f_X0_endsGood (v6 + (S.1 51 7)) S) fun r8 S7 => if r8 = 0 then (nm (v6 + (1 : Int32)) fun x25 => K35 v3 v4 ((0 : Int32)) x25 S7) else (nm (su S7 52 4 ((S7.1 52 4) + ((1 : Int32)))) fun S10 => nm (v5 + (1 : Int32)) fun x11 => if x11 ≤ (S10.1 52 2) then (b_X8_scan_102 K35 v3 v4 x11 v6 S10) else (nm (su S10 52 2 x11) fun S23 => nm (su S23 52 3 ((v6 - x11) + ((1 : Int32)))) fun S24 => b_X8_scan_102 K35 v3 v4 x11 v6 S24)))
def f_X8_scan  (S : ST) : Option ST :=
  nm (su S 52 0 ((-1 : Int32))) fun S1 => nm (su S1 52 1 ((-1 : Int32))) fun S2 => nm (su S2 52 2 ((0 : Int32))) fun S3 => nm (su S3 52 3 ((-1 : Int32))) fun S4 => nm (su S4 52 4 ((0 : Int32))) fun S5 => lp (fun _ _ _ _ _ => none) (b_X8_scan_35) 1000 ((0 : Int32)) ((0 : Int32)) ((0 : Int32)) ((1 : Int32)) S5
set_option maxHeartbeats 4000000 in
set_option maxRecDepth 100000 in
theorem kb_X8_scan_145 {p : Program} {l : Launch} {e : Env} {s : State} {m : MethodId} {args : Array Value} {below : List Frame} {meth : Method} {c : Code} {g : GG} {ad : Nat → Nat} {res : ST} {S : ST} (C : CX kC g ad p s m args meth c cX8_scan none 6 yX8_scan.cls (.code yX8_scan cX8_scan 6 none)) {K35 : Int32 → Int32 → Int32 → Int32 → ST → Option ST} (hK35 : ∀ {v3 : Int32} {v4 : Int32} {v5 : Int32} {v6 : Int32} {S : ST} {H : Heap} {locs : List Loc} {ls : Array Slot}, K35 v3 v4 v5 v6 S = some res → WX kC g ad s S H locs → lv_has ls 6 [(0, .ref (ad 52)), (1, .ref (ad 51)), (2, .int v3), (3, .int v4), (4, .int v5), (5, .int v6)] → W p l e rmX8_scan s m args below meth c H locs 0 0 (MQ below (QV kC g ad res (AA kC ad s.heap.size)) args s 0 0 (AA kC ad s.heap.size)) (F0 m 35 ls [])) {v3 : Int32} {v4 : Int32} {v5 : Int32}  {H : Heap} {locs : List Loc} {ls : Array Slot} (h : b_X8_scan_145 K35 v3 v4 v5 S = some res) (X : WX kC g ad s S H locs) (hl : lv_has ls 6 [(0, .ref (ad 52)), (1, .ref (ad 51)), (2, .int v3), (4, .int v4), (5, .int v5)])  : W p l e rmX8_scan s m args below meth c H locs 0 0 (MQ below (QV kC g ad res (AA kC ad s.heap.size)) args s 0 0 (AA kC ad s.heap.size)) (F0 m 145 ls []) := by
  have hx := C.1.1
  have hb := C.1.2.1
  have h : (nm (su S 52 1 v5) fun S17 => nm (S17.1 51 15) fun x18 => nm (v5 + (1 : Int32)) fun x19 => K35 v3 x18 v4 x19 S17 : Option ST) = some res := h
  refine lv_aload_n hx hb dX8_scan_145 rfl (lv_at hl 0 rfl) ?_
  refine lv_iload hx hb dX8_scan_146 (lv_at hl 4 rfl) ?_
  obtain ⟨S17, eS17, h⟩ := nm_s h
  refine g_put (S' := S17) C X inT8 tyX8 tyX8_ok nmX8 52 (by decide) (eC_52 g ad S) rfl 1 (by decide) wd_359 rfl (by rfl) rfl (Nat.le_of_ble_eq_true rfl) (by subst eS17; rfl) (by subst eS17; exact fun i hi => ent_offu hi) dX8_scan_148 (fun H locs X => ?_)
  refine lv_aload_n hx hb dX8_scan_151 rfl (lv_at hl 1 rfl) ?_
  refine g_getN C X inT0 51 (by decide) (eC_51 g ad S17) rfl 15 (by decide) nw_311 (v := .int (S17.1 51 15)) rfl dX8_scan_152 ?_
  obtain ⟨x18, ex18, h⟩ := nm_s h
  refine tp_i ex18 ?_
  refine lv_istore_n (lv' := [(3, .int x18), (0, .ref (ad 52)), (1, .ref (ad 51)), (2, .int v3), (4, .int v4), (5, .int v5)]) hx hb dX8_scan_155 rfl hl (by decide) rfl (fun ls hl => ?_)
  obtain ⟨x19, ex19, h⟩ := nm_s h
  refine lv_iinc (v := x19) (lv' := [(5, .int x19), (3, .int x18), (0, .ref (ad 52)), (1, .ref (ad 51)), (2, .int v3), (4, .int v4)]) hx hb dX8_scan_156 hl (k := 5) rfl (by rw [ex19]; rfl) (by decide) rfl (fun ls hl => ?_)
  refine lv_goto (tgt := 35) hx hb dX8_scan_159 (by decide) ?_
  exact hK35 h X (lv_sub hl [2, 3, 4, 1, 5, 0] rfl) 
set_option maxHeartbeats 4000000 in
set_option maxRecDepth 100000 in
theorem kb_X8_scan_129 {p : Program} {l : Launch} {e : Env} {s : State} {m : MethodId} {args : Array Value} {below : List Frame} {meth : Method} {c : Code} {g : GG} {ad : Nat → Nat} {res : ST} {S : ST} (C : CX kC g ad p s m args meth c cX8_scan none 6 yX8_scan.cls (.code yX8_scan cX8_scan 6 none)) {K35 : Int32 → Int32 → Int32 → Int32 → ST → Option ST} (hK35 : ∀ {v3 : Int32} {v4 : Int32} {v5 : Int32} {v6 : Int32} {S : ST} {H : Heap} {locs : List Loc} {ls : Array Slot}, K35 v3 v4 v5 v6 S = some res → WX kC g ad s S H locs → lv_has ls 6 [(0, .ref (ad 52)), (1, .ref (ad 51)), (2, .int v3), (3, .int v4), (4, .int v5), (5, .int v6)] → W p l e rmX8_scan s m args below meth c H locs 0 0 (MQ below (QV kC g ad res (AA kC ad s.heap.size)) args s 0 0 (AA kC ad s.heap.size)) (F0 m 35 ls [])) {v3 : Int32} {v4 : Int32} {v5 : Int32} {v6 : Int32}  {H : Heap} {locs : List Loc} {ls : Array Slot} (h : b_X8_scan_129 K35 v3 v4 v5 v6 S = some res) (X : WX kC g ad s S H locs) (hl : lv_has ls 6 [(0, .ref (ad 52)), (1, .ref (ad 51)), (2, .int v3), (3, .int v4), (4, .int v5), (5, .int v6)])  : W p l e rmX8_scan s m args below meth c H locs 0 0 (MQ below (QV kC g ad res (AA kC ad s.heap.size)) args s 0 0 (AA kC ad s.heap.size)) (F0 m 129 ls []) := by
  have hx := C.1.1
  have hb := C.1.2.1
  have h : (if (S.1 52 1) = ((-1 : Int32)) then (b_X8_scan_145 K35 v3 v5 v6 S) else (if (S.1 51 15) ≤ v4 then (nm (v6 + (1 : Int32)) fun x21 => K35 v3 v4 v5 x21 S) else (b_X8_scan_145 K35 v3 v5 v6 S)) : Option ST) = some res := h
  refine lv_aload_n hx hb dX8_scan_129 rfl (lv_at hl 0 rfl) ?_
  refine g_get C X inT8 52 (by decide) (eC_52 g ad S) rfl 1 (by decide) wd_359 (v := .int (S.1 52 1)) rfl dX8_scan_130 ?_
  refine lv_iconst (v := (-1 : Int32)) hx hb dX8_scan_133 (by decide) ?_
  refine lv_icmp_eq (tgt := 145) hx hb dX8_scan_134 (by decide) (fun c16 => ?_) (fun c16 => ?_)
  · have h := ip h c16
    exact kb_X8_scan_145 C hK35 h X (lv_sub hl [0, 1, 2, 4, 5] rfl) 
  · have h := inn h c16
    refine lv_aload_n hx hb dX8_scan_137 rfl (lv_at hl 1 rfl) ?_
    refine g_getN C X inT0 51 (by decide) (eC_51 g ad S) rfl 15 (by decide) nw_311 (v := .int (S.1 51 15)) rfl dX8_scan_138 ?_
    refine lv_iload_n hx hb dX8_scan_141 rfl (lv_at hl 3 rfl) ?_
    refine lv_icmp_le (tgt := 156) hx hb dX8_scan_142 (by decide) (fun c20 => ?_) (fun c20 => ?_)
    · have h := ip h c20
      obtain ⟨x21, ex21, h⟩ := nm_s h
      refine lv_iinc (v := x21) (lv' := [(5, .int x21), (0, .ref (ad 52)), (1, .ref (ad 51)), (2, .int v3), (3, .int v4), (4, .int v5)]) hx hb dX8_scan_156 hl (k := 5) rfl (by rw [ex21]; rfl) (by decide) rfl (fun ls hl => ?_)
      refine lv_goto (tgt := 35) hx hb dX8_scan_159 (by decide) ?_
      exact hK35 h X (lv_sub hl [1, 2, 3, 4, 5, 0] rfl) 
    · have h := inn h c20
      exact kb_X8_scan_145 C hK35 h X (lv_sub hl [0, 1, 2, 4, 5] rfl) 
set_option maxHeartbeats 4000000 in
set_option maxRecDepth 100000 in
theorem kb_X8_scan_118 {p : Program} {l : Launch} {e : Env} {s : State} {m : MethodId} {args : Array Value} {below : List Frame} {meth : Method} {c : Code} {g : GG} {ad : Nat → Nat} {res : ST} {S : ST} (C : CX kC g ad p s m args meth c cX8_scan none 6 yX8_scan.cls (.code yX8_scan cX8_scan 6 none)) {K35 : Int32 → Int32 → Int32 → Int32 → ST → Option ST} (hK35 : ∀ {v3 : Int32} {v4 : Int32} {v5 : Int32} {v6 : Int32} {S : ST} {H : Heap} {locs : List Loc} {ls : Array Slot}, K35 v3 v4 v5 v6 S = some res → WX kC g ad s S H locs → lv_has ls 6 [(0, .ref (ad 52)), (1, .ref (ad 51)), (2, .int v3), (3, .int v4), (4, .int v5), (5, .int v6)] → W p l e rmX8_scan s m args below meth c H locs 0 0 (MQ below (QV kC g ad res (AA kC ad s.heap.size)) args s 0 0 (AA kC ad s.heap.size)) (F0 m 35 ls [])) {v3 : Int32} {v4 : Int32} {v5 : Int32}  {H : Heap} {locs : List Loc} {ls : Array Slot} (h : b_X8_scan_118 K35 v3 v4 v5 S = some res) (X : WX kC g ad s S H locs) (hl : lv_has ls 6 [(0, .ref (ad 52)), (1, .ref (ad 51)), (3, .int v3), (4, .int v4), (5, .int v5)])  : W p l e rmX8_scan s m args below meth c H locs 0 0 (MQ below (QV kC g ad res (AA kC ad s.heap.size)) args s 0 0 (AA kC ad s.heap.size)) (F0 m 118 ls []) := by
  have hx := C.1.1
  have hb := C.1.2.1
  have h : (nm (su S 52 0 v5) fun S14 => nm (S14.1 51 12) fun x15 => b_X8_scan_129 K35 x15 v3 v4 v5 S14 : Option ST) = some res := h
  refine lv_aload_n hx hb dX8_scan_118 rfl (lv_at hl 0 rfl) ?_
  refine lv_iload hx hb dX8_scan_119 (lv_at hl 4 rfl) ?_
  obtain ⟨S14, eS14, h⟩ := nm_s h
  refine g_put (S' := S14) C X inT8 tyX8 tyX8_ok nmX8 52 (by decide) (eC_52 g ad S) rfl 0 (by decide) wd_357 rfl (by rfl) rfl (Nat.le_of_ble_eq_true rfl) (by subst eS14; rfl) (by subst eS14; exact fun i hi => ent_offu hi) dX8_scan_121 (fun H locs X => ?_)
  refine lv_aload_n hx hb dX8_scan_124 rfl (lv_at hl 1 rfl) ?_
  refine g_getN C X inT0 51 (by decide) (eC_51 g ad S14) rfl 12 (by decide) nw_304 (v := .int (S14.1 51 12)) rfl dX8_scan_125 ?_
  obtain ⟨x15, ex15, h⟩ := nm_s h
  refine tp_i ex15 ?_
  refine lv_istore_n (lv' := [(2, .int x15), (0, .ref (ad 52)), (1, .ref (ad 51)), (3, .int v3), (4, .int v4), (5, .int v5)]) hx hb dX8_scan_128 rfl hl (by decide) rfl (fun ls hl => ?_)
  exact kb_X8_scan_129 C hK35 h X (lv_sub hl [1, 2, 0, 3, 4, 5] rfl) 
set_option maxHeartbeats 4000000 in
set_option maxRecDepth 100000 in
theorem kb_X8_scan_102 {p : Program} {l : Launch} {e : Env} {s : State} {m : MethodId} {args : Array Value} {below : List Frame} {meth : Method} {c : Code} {g : GG} {ad : Nat → Nat} {res : ST} {S : ST} (C : CX kC g ad p s m args meth c cX8_scan none 6 yX8_scan.cls (.code yX8_scan cX8_scan 6 none)) {K35 : Int32 → Int32 → Int32 → Int32 → ST → Option ST} (hK35 : ∀ {v3 : Int32} {v4 : Int32} {v5 : Int32} {v6 : Int32} {S : ST} {H : Heap} {locs : List Loc} {ls : Array Slot}, K35 v3 v4 v5 v6 S = some res → WX kC g ad s S H locs → lv_has ls 6 [(0, .ref (ad 52)), (1, .ref (ad 51)), (2, .int v3), (3, .int v4), (4, .int v5), (5, .int v6)] → W p l e rmX8_scan s m args below meth c H locs 0 0 (MQ below (QV kC g ad res (AA kC ad s.heap.size)) args s 0 0 (AA kC ad s.heap.size)) (F0 m 35 ls [])) {v3 : Int32} {v4 : Int32} {v5 : Int32} {v6 : Int32}  {H : Heap} {locs : List Loc} {ls : Array Slot} (h : b_X8_scan_102 K35 v3 v4 v5 v6 S = some res) (X : WX kC g ad s S H locs) (hl : lv_has ls 6 [(0, .ref (ad 52)), (1, .ref (ad 51)), (2, .int v3), (3, .int v4), (4, .int v5), (5, .int v6)])  : W p l e rmX8_scan s m args below meth c H locs 0 0 (MQ below (QV kC g ad res (AA kC ad s.heap.size)) args s 0 0 (AA kC ad s.heap.size)) (F0 m 102 ls []) := by
  have hx := C.1.1
  have hb := C.1.2.1
  have h : (if (S.1 52 0) = ((-1 : Int32)) then (b_X8_scan_118 K35 v4 v5 v6 S) else (if (S.1 51 12) ≤ v3 then (b_X8_scan_129 K35 v3 v4 v5 v6 S) else (b_X8_scan_118 K35 v4 v5 v6 S)) : Option ST) = some res := h
  refine lv_aload_n hx hb dX8_scan_102 rfl (lv_at hl 0 rfl) ?_
  refine g_get C X inT8 52 (by decide) (eC_52 g ad S) rfl 0 (by decide) wd_357 (v := .int (S.1 52 0)) rfl dX8_scan_103 ?_
  refine lv_iconst (v := (-1 : Int32)) hx hb dX8_scan_106 (by decide) ?_
  refine lv_icmp_eq (tgt := 118) hx hb dX8_scan_107 (by decide) (fun c13 => ?_) (fun c13 => ?_)
  · have h := ip h c13
    exact kb_X8_scan_118 C hK35 h X (lv_sub hl [0, 1, 3, 4, 5] rfl) 
  · have h := inn h c13
    refine lv_aload_n hx hb dX8_scan_110 rfl (lv_at hl 1 rfl) ?_
    refine g_getN C X inT0 51 (by decide) (eC_51 g ad S) rfl 12 (by decide) nw_304 (v := .int (S.1 51 12)) rfl dX8_scan_111 ?_
    refine lv_iload_n hx hb dX8_scan_114 rfl (lv_at hl 2 rfl) ?_
    refine lv_icmp_le (tgt := 129) hx hb dX8_scan_115 (by decide) (fun c22 => ?_) (fun c22 => ?_)
    · have h := ip h c22
      exact kb_X8_scan_129 C hK35 h X (lv_sub hl [0, 1, 2, 3, 4, 5] rfl) 
    · have h := inn h c22
      exact kb_X8_scan_118 C hK35 h X (lv_sub hl [0, 1, 3, 4, 5] rfl) 
set_option maxHeartbeats 4000000 in
set_option maxRecDepth 100000 in
theorem kb_X8_scan_35 {p : Program} {l : Launch} {e : Env} {s : State} {m : MethodId} {args : Array Value} {below : List Frame} {meth : Method} {c : Code} {g : GG} {ad : Nat → Nat} {res : ST} {S : ST} (C : CX kC g ad p s m args meth c cX8_scan none 6 yX8_scan.cls (.code yX8_scan cX8_scan 6 none)) {K35 : Int32 → Int32 → Int32 → Int32 → ST → Option ST} (hK35 : ∀ {v3 : Int32} {v4 : Int32} {v5 : Int32} {v6 : Int32} {S : ST} {H : Heap} {locs : List Loc} {ls : Array Slot}, K35 v3 v4 v5 v6 S = some res → WX kC g ad s S H locs → lv_has ls 6 [(0, .ref (ad 52)), (1, .ref (ad 51)), (2, .int v3), (3, .int v4), (4, .int v5), (5, .int v6)] → W p l e rmX8_scan s m args below meth c H locs 0 0 (MQ below (QV kC g ad res (AA kC ad s.heap.size)) args s 0 0 (AA kC ad s.heap.size)) (F0 m 35 ls [])) {v3 : Int32} {v4 : Int32} {v5 : Int32} {v6 : Int32}  {H : Heap} {locs : List Loc} {ls : Array Slot} (h : b_X8_scan_35 K35 v3 v4 v5 v6 S = some res) (X : WX kC g ad s S H locs) (hl : lv_has ls 6 [(0, .ref (ad 52)), (1, .ref (ad 51)), (2, .int v3), (3, .int v4), (4, .int v5), (5, .int v6)])  : W p l e rmX8_scan s m args below meth c H locs 0 0 (MQ below (QV kC g ad res (AA kC ad s.heap.size)) args s 0 0 (AA kC ad s.heap.size)) (F0 m 35 ls []) := by
  have hx := C.1.1
  have hb := C.1.2.1
  have h : (if ((200 : Int32)) < v6 then (some S) else (bnd (f_X0_endsGood (v6 + (S.1 51 7)) S) fun r8 S7 => if r8 = 0 then (nm (v6 + (1 : Int32)) fun x25 => K35 v3 v4 ((0 : Int32)) x25 S7) else (nm (su S7 52 4 ((S7.1 52 4) + ((1 : Int32)))) fun S10 => nm (v5 + (1 : Int32)) fun x11 => if x11 ≤ (S10.1 52 2) then (b_X8_scan_102 K35 v3 v4 x11 v6 S10) else (nm (su S10 52 2 x11) fun S23 => nm (su S23 52 3 ((v6 - x11) + ((1 : Int32)))) fun S24 => b_X8_scan_102 K35 v3 v4 x11 v6 S24))) : Option ST) = some res := h
  refine lv_iload hx hb dX8_scan_35 (lv_at hl 5 rfl) ?_
  refine lv_sipush (v := (200 : Int32)) hx hb dX8_scan_37 (by decide) ?_
  refine lv_icmp_gt (tgt := 162) hx hb dX8_scan_40 (by decide) (fun c6 => ?_) (fun c6 => ?_)
  · have h := ip h c6
    exact rt_v C X rfl (Option.some.inj h) dX8_scan_162
  · have h := inn h c6
    refine lv_aload_n hx hb dX8_scan_43 rfl (lv_at hl 1 rfl) ?_
    refine lv_iload hx hb dX8_scan_44 (lv_at hl 5 rfl) ?_
    refine lv_aload_n hx hb dX8_scan_46 rfl (lv_at hl 1 rfl) ?_
    refine g_getN C X inT0 51 (by decide) (eC_51 g ad S) rfl 7 (by decide) nw_296 (v := .int (S.1 51 7)) rfl dX8_scan_47 ?_
    refine lv_iadd hx hb dX8_scan_50 ?_
    obtain ⟨r8, S7, qr8, h⟩ := bnd_s h
    refine kc_i X (res := (r8, S7)) (rV (As := [.int (v6 + (S.1 51 7))]) (rest := []) (n := 1) (k := 51) C X (c_X0_endsGood l g ad S _ (v6 + (S.1 51 7))  qr8) wd_844 wd_845 wd_846 wd_81 wd_847 (by decide) (eC_51 g ad S) rfl rfl rfl (by decide +kernel) ⟨Nat.le_of_ble_eq_true rfl, Nat.le_of_ble_eq_true rfl⟩ rfl hl.1 (lv_room (Nat.le_of_ble_eq_true rfl)) dX8_scan_51) (fun H locs X => ?_)
    refine lv_if_ne (tgt := 63) hx hb dX8_scan_54 (by decide) (fun c9 => ?_) (fun c9 => ?_)
    · have h := inn h c9
      refine lv_aload_n hx hb dX8_scan_63 rfl (lv_at hl 0 rfl) ?_
      refine lv_dup hx hb dX8_scan_64 rfl ?_
      refine g_get C X inT8 52 (by decide) (eC_52 g ad S7) rfl 4 (by decide) wd_365 (v := .int (S7.1 52 4)) rfl dX8_scan_65 ?_
      refine lv_iconst (v := (1 : Int32)) hx hb dX8_scan_68 (by decide) ?_
      refine lv_iadd hx hb dX8_scan_69 ?_
      obtain ⟨S10, eS10, h⟩ := nm_s h
      refine g_put (S' := S10) C X inT8 tyX8 tyX8_ok nmX8 52 (by decide) (eC_52 g ad S7) rfl 4 (by decide) wd_365 rfl (by rfl) rfl (Nat.le_of_ble_eq_true rfl) (by subst eS10; rfl) (by subst eS10; exact fun i hi => ent_offu hi) dX8_scan_70 (fun H locs X => ?_)
      obtain ⟨x11, ex11, h⟩ := nm_s h
      refine lv_iinc (v := x11) (lv' := [(4, .int x11), (0, .ref (ad 52)), (1, .ref (ad 51)), (2, .int v3), (3, .int v4), (5, .int v6)]) hx hb dX8_scan_73 hl (k := 4) rfl (by rw [ex11]; rfl) (by decide) rfl (fun ls hl => ?_)
      refine lv_iload hx hb dX8_scan_76 (lv_at hl 0 rfl) ?_
      refine lv_aload_n hx hb dX8_scan_78 rfl (lv_at hl 1 rfl) ?_
      refine g_get C X inT8 52 (by decide) (eC_52 g ad S10) rfl 2 (by decide) wd_361 (v := .int (S10.1 52 2)) rfl dX8_scan_79 ?_
      refine lv_icmp_le (tgt := 102) hx hb dX8_scan_82 (by decide) (fun c12 => ?_) (fun c12 => ?_)
      · have h := ip h c12
        exact kb_X8_scan_102 C hK35 h X (lv_sub hl [1, 2, 3, 4, 0, 5] rfl) 
      · have h := inn h c12
        refine lv_aload_n hx hb dX8_scan_85 rfl (lv_at hl 1 rfl) ?_
        refine lv_iload hx hb dX8_scan_86 (lv_at hl 0 rfl) ?_
        obtain ⟨S23, eS23, h⟩ := nm_s h
        refine g_put (S' := S23) C X inT8 tyX8 tyX8_ok nmX8 52 (by decide) (eC_52 g ad S10) rfl 2 (by decide) wd_361 rfl (by rfl) rfl (Nat.le_of_ble_eq_true rfl) (by subst eS23; rfl) (by subst eS23; exact fun i hi => ent_offu hi) dX8_scan_88 (fun H locs X => ?_)
        refine lv_aload_n hx hb dX8_scan_91 rfl (lv_at hl 1 rfl) ?_
        refine lv_iload hx hb dX8_scan_92 (lv_at hl 5 rfl) ?_
        refine lv_iload hx hb dX8_scan_94 (lv_at hl 0 rfl) ?_
        refine lv_isub hx hb dX8_scan_96 ?_
        refine lv_iconst (v := (1 : Int32)) hx hb dX8_scan_97 (by decide) ?_
        refine lv_iadd hx hb dX8_scan_98 ?_
        obtain ⟨S24, eS24, h⟩ := nm_s h
        refine g_put (S' := S24) C X inT8 tyX8 tyX8_ok nmX8 52 (by decide) (eC_52 g ad S23) rfl 3 (by decide) wd_363 rfl (by rfl) rfl (Nat.le_of_ble_eq_true rfl) (by subst eS24; rfl) (by subst eS24; exact fun i hi => ent_offu hi) dX8_scan_99 (fun H locs X => ?_)
        exact kb_X8_scan_102 C hK35 h X (lv_sub hl [1, 2, 3, 4, 0, 5] rfl) 
    · have h := ip h c9
      refine lv_iconst (v := (0 : Int32)) hx hb dX8_scan_57 (by decide) ?_
      refine lv_istore (lv' := [(4, .int ((0 : Int32))), (0, .ref (ad 52)), (1, .ref (ad 51)), (2, .int v3), (3, .int v4), (5, .int v6)]) hx hb dX8_scan_58 hl (by decide) rfl (fun ls hl => ?_)
      refine lv_goto (tgt := 156) hx hb dX8_scan_60 (by decide) ?_
      obtain ⟨x25, ex25, h⟩ := nm_s h
      refine lv_iinc (v := x25) (lv' := [(5, .int x25), (4, .int ((0 : Int32))), (0, .ref (ad 52)), (1, .ref (ad 51)), (2, .int v3), (3, .int v4)]) hx hb dX8_scan_156 hl (k := 5) rfl (by rw [ex25]; rfl) (by decide) rfl (fun ls hl => ?_)
      refine lv_goto (tgt := 35) hx hb dX8_scan_159 (by decide) ?_
      exact hK35 h X (lv_sub hl [2, 3, 4, 5, 1, 0] rfl) 
set_option maxHeartbeats 4000000 in
set_option maxRecDepth 100000 in
theorem kl_X8_scan_35 {p : Program} {l : Launch} {e : Env} {s : State} {m : MethodId} {args : Array Value} {below : List Frame} {meth : Method} {c : Code} {g : GG} {ad : Nat → Nat} {res : ST}  (C : CX kC g ad p s m args meth c cX8_scan none 6 yX8_scan.cls (.code yX8_scan cX8_scan 6 none))  : ∀ (n : Nat) {v3 : Int32} {v4 : Int32} {v5 : Int32} {v6 : Int32} {S : ST} {H : Heap} {locs : List Loc} {ls : Array Slot}, (lp (fun _ _ _ _ _ => none) (b_X8_scan_35)) n v3 v4 v5 v6 S = some res → WX kC g ad s S H locs → lv_has ls 6 [(0, .ref (ad 52)), (1, .ref (ad 51)), (2, .int v3), (3, .int v4), (4, .int v5), (5, .int v6)] → W p l e rmX8_scan s m args below meth c H locs 0 0 (MQ below (QV kC g ad res (AA kC ad s.heap.size)) args s 0 0 (AA kC ad s.heap.size)) (F0 m 35 ls []) := by
  intro n
  induction n with
  | zero =>
    intro v3 v4 v5 v6 S H locs ls h
    cases (show (none : Option ST) = some res from h)
  | succ n ih =>
    intro v3 v4 v5 v6 S H locs ls h X hl 
    exact kb_X8_scan_35 C ih h X hl 
set_option maxHeartbeats 4000000 in
set_option maxRecDepth 100000 in
theorem c_X8_scan (l : Launch) (g : GG) (ad : Nat → Nat) (S : ST) (sz : Nat)   {res : ST} (h : f_X8_scan S = some res) : Met l yX8_scan (WS (.code yX8_scan cX8_scan 6 none)) rmX8_scan (va_Pc [.ref (ad 52), .ref (ad 51)] (PW kC g ad S sz)) (QV kC g ad res (AA kC ad sz)) 0 0 (AA kC ad sz) := by
  refine go_m (Qc := fun A => QV kC g ad res A) (by decide) (Nat.le_of_ble_eq_true rfl) (fun p e s m below meth c ls H locs C X hl => ?_)
  have hx := C.1.1
  have hb := C.1.2.1
  have hl : lv_has ls 6 [(0, .ref (ad 52)), (1, .ref (ad 51))] := hl
  have h : (nm (su S 52 0 ((-1 : Int32))) fun S1 => nm (su S1 52 1 ((-1 : Int32))) fun S2 => nm (su S2 52 2 ((0 : Int32))) fun S3 => nm (su S3 52 3 ((-1 : Int32))) fun S4 => nm (su S4 52 4 ((0 : Int32))) fun S5 => lp (fun _ _ _ _ _ => none) (b_X8_scan_35) 1000 ((0 : Int32)) ((0 : Int32)) ((0 : Int32)) ((1 : Int32)) S5 : Option ST) = some res := h
  refine lv_aload_n hx hb dX8_scan_0 rfl (lv_at hl 0 rfl) ?_
  refine lv_iconst (v := (-1 : Int32)) hx hb dX8_scan_1 (by decide) ?_
  obtain ⟨S1, eS1, h⟩ := nm_s h
  refine g_put (S' := S1) C X inT8 tyX8 tyX8_ok nmX8 52 (by decide) (eC_52 g ad S) rfl 0 (by decide) wd_357 rfl (by rfl) rfl (Nat.le_of_ble_eq_true rfl) (by subst eS1; rfl) (by subst eS1; exact fun i hi => ent_offu hi) dX8_scan_2 (fun H locs X => ?_)
  refine lv_aload_n hx hb dX8_scan_5 rfl (lv_at hl 0 rfl) ?_
  refine lv_iconst (v := (-1 : Int32)) hx hb dX8_scan_6 (by decide) ?_
  obtain ⟨S2, eS2, h⟩ := nm_s h
  refine g_put (S' := S2) C X inT8 tyX8 tyX8_ok nmX8 52 (by decide) (eC_52 g ad S1) rfl 1 (by decide) wd_359 rfl (by rfl) rfl (Nat.le_of_ble_eq_true rfl) (by subst eS2; rfl) (by subst eS2; exact fun i hi => ent_offu hi) dX8_scan_7 (fun H locs X => ?_)
  refine lv_aload_n hx hb dX8_scan_10 rfl (lv_at hl 0 rfl) ?_
  refine lv_iconst (v := (0 : Int32)) hx hb dX8_scan_11 (by decide) ?_
  obtain ⟨S3, eS3, h⟩ := nm_s h
  refine g_put (S' := S3) C X inT8 tyX8 tyX8_ok nmX8 52 (by decide) (eC_52 g ad S2) rfl 2 (by decide) wd_361 rfl (by rfl) rfl (Nat.le_of_ble_eq_true rfl) (by subst eS3; rfl) (by subst eS3; exact fun i hi => ent_offu hi) dX8_scan_12 (fun H locs X => ?_)
  refine lv_aload_n hx hb dX8_scan_15 rfl (lv_at hl 0 rfl) ?_
  refine lv_iconst (v := (-1 : Int32)) hx hb dX8_scan_16 (by decide) ?_
  obtain ⟨S4, eS4, h⟩ := nm_s h
  refine g_put (S' := S4) C X inT8 tyX8 tyX8_ok nmX8 52 (by decide) (eC_52 g ad S3) rfl 3 (by decide) wd_363 rfl (by rfl) rfl (Nat.le_of_ble_eq_true rfl) (by subst eS4; rfl) (by subst eS4; exact fun i hi => ent_offu hi) dX8_scan_17 (fun H locs X => ?_)
  refine lv_aload_n hx hb dX8_scan_20 rfl (lv_at hl 0 rfl) ?_
  refine lv_iconst (v := (0 : Int32)) hx hb dX8_scan_21 (by decide) ?_
  obtain ⟨S5, eS5, h⟩ := nm_s h
  refine g_put (S' := S5) C X inT8 tyX8 tyX8_ok nmX8 52 (by decide) (eC_52 g ad S4) rfl 4 (by decide) wd_365 rfl (by rfl) rfl (Nat.le_of_ble_eq_true rfl) (by subst eS5; rfl) (by subst eS5; exact fun i hi => ent_offu hi) dX8_scan_22 (fun H locs X => ?_)
  refine lv_iconst (v := (0 : Int32)) hx hb dX8_scan_25 (by decide) ?_
  refine lv_istore_n (lv' := [(2, .int ((0 : Int32))), (0, .ref (ad 52)), (1, .ref (ad 51))]) hx hb dX8_scan_26 rfl hl (by decide) rfl (fun ls hl => ?_)
  refine lv_iconst (v := (0 : Int32)) hx hb dX8_scan_27 (by decide) ?_
  refine lv_istore_n (lv' := [(3, .int ((0 : Int32))), (2, .int ((0 : Int32))), (0, .ref (ad 52)), (1, .ref (ad 51))]) hx hb dX8_scan_28 rfl hl (by decide) rfl (fun ls hl => ?_)
  refine lv_iconst (v := (0 : Int32)) hx hb dX8_scan_29 (by decide) ?_
  refine lv_istore (lv' := [(4, .int ((0 : Int32))), (3, .int ((0 : Int32))), (2, .int ((0 : Int32))), (0, .ref (ad 52)), (1, .ref (ad 51))]) hx hb dX8_scan_30 hl (by decide) rfl (fun ls hl => ?_)
  refine lv_iconst (v := (1 : Int32)) hx hb dX8_scan_32 (by decide) ?_
  refine lv_istore (lv' := [(5, .int ((1 : Int32))), (4, .int ((0 : Int32))), (3, .int ((0 : Int32))), (2, .int ((0 : Int32))), (0, .ref (ad 52)), (1, .ref (ad 51))]) hx hb dX8_scan_33 hl (by decide) rfl (fun ls hl => ?_)
  exact kl_X8_scan_35 C _ h X (lv_sub hl [4, 5, 3, 2, 1, 0] rfl) 
