def rmX4_begin : Room := { frames := 0, cells := 0, slots := 0, locals := 0 }
def f_X4_begin  (S : ST) : Option ST :=
  nm (su S 3 1 ((0 : Int32))) fun S1 => nm (su S1 3 5 ((0 : Int32))) fun S2 => nm (su S2 3 6 ((-1 : Int32))) fun S3 => some S3
set_option maxHeartbeats 4000000 in
set_option maxRecDepth 100000 in
theorem c_X4_begin (l : Launch) (g : GG) (ad : Nat → Nat) (S : ST) (sz : Nat)   {res : ST} (h : f_X4_begin S = some res) : Met l yX4_begin (WS (.code yX4_begin cX4_begin 1 none)) rmX4_begin (va_Pc [.ref (ad 3)] (PW kC g ad S sz)) (QV kC g ad res (AA kC ad sz)) 0 0 (AA kC ad sz) := by
  refine go_m (Qc := fun A => QV kC g ad res A) (by decide) (Nat.le_of_ble_eq_true rfl) (fun p e s m below meth c ls H locs C X hl => ?_)
  have hx := C.1.1
  have hb := C.1.2.1
  have hl : lv_has ls 1 [(0, .ref (ad 3))] := hl
  have h : (nm (su S 3 1 ((0 : Int32))) fun S1 => nm (su S1 3 5 ((0 : Int32))) fun S2 => nm (su S2 3 6 ((-1 : Int32))) fun S3 => some S3 : Option ST) = some res := h
  refine lv_aload_n hx hb dX4_begin_0 rfl (lv_at hl 0 rfl) ?_
  refine lv_iconst (v := (0 : Int32)) hx hb dX4_begin_1 (by decide) ?_
  obtain ⟨S1, eS1, h⟩ := nm_s h
  refine g_put (S' := S1) C X inT4 tyX4 tyX4_ok nmX4 3 (by decide) (eC_3 g ad S) rfl 1 (by decide) wd_118 rfl (by rfl) rfl (Nat.le_of_ble_eq_true rfl) (by subst eS1; rfl) (by subst eS1; exact fun i hi => ent_offu hi) dX4_begin_2 (fun H locs X => ?_)
  refine lv_aload_n hx hb dX4_begin_5 rfl (lv_at hl 0 rfl) ?_
  refine lv_iconst (v := (0 : Int32)) hx hb dX4_begin_6 (by decide) ?_
  obtain ⟨S2, eS2, h⟩ := nm_s h
  refine g_put (S' := S2) C X inT4 tyX4 tyX4_ok nmX4 3 (by decide) (eC_3 g ad S1) rfl 5 (by decide) wd_122 rfl (by rfl) rfl (Nat.le_of_ble_eq_true rfl) (by subst eS2; rfl) (by subst eS2; exact fun i hi => ent_offu hi) dX4_begin_7 (fun H locs X => ?_)
  refine lv_aload_n hx hb dX4_begin_10 rfl (lv_at hl 0 rfl) ?_
  refine lv_iconst (v := (-1 : Int32)) hx hb dX4_begin_11 (by decide) ?_
  obtain ⟨S3, eS3, h⟩ := nm_s h
  refine g_put (S' := S3) C X inT4 tyX4 tyX4_ok nmX4 3 (by decide) (eC_3 g ad S2) rfl 6 (by decide) wd_123 rfl (by rfl) rfl (Nat.le_of_ble_eq_true rfl) (by subst eS3; rfl) (by subst eS3; exact fun i hi => ent_offu hi) dX4_begin_12 (fun H locs X => ?_)
  exact rt_v C X rfl (Option.some.inj h) dX4_begin_15

def rmX4_isLetter : Room := { frames := 0, cells := 0, slots := 0, locals := 0 }
def f_X4_isLetter (a1 : Int32) : Option Int32 :=
  if a1 < ((97 : Int32)) then (some ((0 : Int32))) else (if ((122 : Int32)) < a1 then (some ((0 : Int32))) else (some ((1 : Int32))))
set_option maxHeartbeats 4000000 in
set_option maxRecDepth 100000 in
theorem c_X4_isLetter (l : Launch) (g : GG) (ad : Nat → Nat) (S : ST) (sz : Nat) (a1 : Int32)  {res : Int32} (h : f_X4_isLetter a1 = some res) : Met l yX4_isLetter (WS (.code yX4_isLetter cX4_isLetter 1 (some Jvm.ClassFile.FieldType.boolean))) rmX4_isLetter (va_Pc [.int a1] (PW kC g ad S sz)) (QI kC g ad (res, S) (AA kC ad sz)) 0 0 (AA kC ad sz) := by
  refine go_m (Qc := fun A => QI kC g ad (res, S) A) (by decide) (Nat.le_of_ble_eq_true rfl) (fun p e s m below meth c ls H locs C X hl => ?_)
  have hx := C.1.1
  have hb := C.1.2.1
  have hl : lv_has ls 1 [(0, .int a1)] := hl
  have h : (if a1 < ((97 : Int32)) then (some ((0 : Int32))) else (if ((122 : Int32)) < a1 then (some ((0 : Int32))) else (some ((1 : Int32)))) : Option Int32) = some res := h
  refine lv_iload_n hx hb dX4_isLetter_0 rfl (lv_at hl 0 rfl) ?_
  refine lv_bipush (v := (97 : Int32)) hx hb dX4_isLetter_1 (by decide) ?_
  refine lv_icmp_lt (tgt := 16) hx hb dX4_isLetter_3 (by decide) (fun c1 => ?_) (fun c1 => ?_)
  · have h := ip h c1
    refine lv_iconst (v := (0 : Int32)) hx hb dX4_isLetter_16 (by decide) ?_
    exact rt_z C X rfl (by decide) (congrArg (fun z => (z, S)) (Option.some.inj h)) dX4_isLetter_17
  · have h := inn h c1
    refine lv_iload_n hx hb dX4_isLetter_6 rfl (lv_at hl 0 rfl) ?_
    refine lv_bipush (v := (122 : Int32)) hx hb dX4_isLetter_7 (by decide) ?_
    refine lv_icmp_gt (tgt := 16) hx hb dX4_isLetter_9 (by decide) (fun c2 => ?_) (fun c2 => ?_)
    · have h := ip h c2
      refine lv_iconst (v := (0 : Int32)) hx hb dX4_isLetter_16 (by decide) ?_
      exact rt_z C X rfl (by decide) (congrArg (fun z => (z, S)) (Option.some.inj h)) dX4_isLetter_17
    · have h := inn h c2
      refine lv_iconst (v := (1 : Int32)) hx hb dX4_isLetter_12 (by decide) ?_
      refine lv_goto (tgt := 17) hx hb dX4_isLetter_13 (by decide) ?_
      exact rt_z C X rfl (by decide) (congrArg (fun z => (z, S)) (Option.some.inj h)) dX4_isLetter_17

def rmX4_isFigure : Room := { frames := 0, cells := 0, slots := 0, locals := 0 }
def f_X4_isFigure (a1 : Int32) : Option Int32 :=
  if a1 < ((48 : Int32)) then (some ((0 : Int32))) else (if ((57 : Int32)) < a1 then (some ((0 : Int32))) else (some ((1 : Int32))))
set_option maxHeartbeats 4000000 in
set_option maxRecDepth 100000 in
theorem c_X4_isFigure (l : Launch) (g : GG) (ad : Nat → Nat) (S : ST) (sz : Nat) (a1 : Int32)  {res : Int32} (h : f_X4_isFigure a1 = some res) : Met l yX4_isFigure (WS (.code yX4_isFigure cX4_isFigure 1 (some Jvm.ClassFile.FieldType.boolean))) rmX4_isFigure (va_Pc [.int a1] (PW kC g ad S sz)) (QI kC g ad (res, S) (AA kC ad sz)) 0 0 (AA kC ad sz) := by
  refine go_m (Qc := fun A => QI kC g ad (res, S) A) (by decide) (Nat.le_of_ble_eq_true rfl) (fun p e s m below meth c ls H locs C X hl => ?_)
  have hx := C.1.1
  have hb := C.1.2.1
  have hl : lv_has ls 1 [(0, .int a1)] := hl
  have h : (if a1 < ((48 : Int32)) then (some ((0 : Int32))) else (if ((57 : Int32)) < a1 then (some ((0 : Int32))) else (some ((1 : Int32)))) : Option Int32) = some res := h
  refine lv_iload_n hx hb dX4_isFigure_0 rfl (lv_at hl 0 rfl) ?_
  refine lv_bipush (v := (48 : Int32)) hx hb dX4_isFigure_1 (by decide) ?_
  refine lv_icmp_lt (tgt := 16) hx hb dX4_isFigure_3 (by decide) (fun c1 => ?_) (fun c1 => ?_)
  · have h := ip h c1
    refine lv_iconst (v := (0 : Int32)) hx hb dX4_isFigure_16 (by decide) ?_
    exact rt_z C X rfl (by decide) (congrArg (fun z => (z, S)) (Option.some.inj h)) dX4_isFigure_17
  · have h := inn h c1
    refine lv_iload_n hx hb dX4_isFigure_6 rfl (lv_at hl 0 rfl) ?_
    refine lv_bipush (v := (57 : Int32)) hx hb dX4_isFigure_7 (by decide) ?_
    refine lv_icmp_gt (tgt := 16) hx hb dX4_isFigure_9 (by decide) (fun c2 => ?_) (fun c2 => ?_)
    · have h := ip h c2
      refine lv_iconst (v := (0 : Int32)) hx hb dX4_isFigure_16 (by decide) ?_
      exact rt_z C X rfl (by decide) (congrArg (fun z => (z, S)) (Option.some.inj h)) dX4_isFigure_17
    · have h := inn h c2
      refine lv_iconst (v := (1 : Int32)) hx hb dX4_isFigure_12 (by decide) ?_
      refine lv_goto (tgt := 17) hx hb dX4_isFigure_13 (by decide) ?_
      exact rt_z C X rfl (by decide) (congrArg (fun z => (z, S)) (Option.some.inj h)) dX4_isFigure_17

def rmX4_take : Room := { frames := 1, cells := 0, slots := 0, locals := 21 }
def b_X4_take_213 (K145 : Int32 → ST → Option ST) (v2 : Int32) (v3 : Int32) (S : ST) : Option ST :=
  nm (su S 3 4 v3) fun S20 => nm (su S20 3 1 ((S20.1 3 1) + ((1 : Int32)))) fun S21 => K145 v2 S21
def b_X4_take_145 (K145 : Int32 → ST → Option ST) (v2 : Int32) (S : ST) : Option ST :=
  if v2 ≤ (S.1 3 1) then (some S) else (bn1 (f_X7_byteAt (S.1 3 1) S) fun r16 => bn1 (f_X4_isFigure r16) fun r17 => if r17 = 0 then (some S) else (if ((3 : Int32)) ≤ ((S.1 3 1) - (S.1 3 3)) then (b_X4_take_213 K145 v2 (S.1 3 4) S) else (bn1 (f_X7_byteAt (S.1 3 1) S) fun r22 => b_X4_take_213 K145 v2 (((((10 : Int32)) * (S.1 3 4)) + r22) - ((48 : Int32))) S)))
def b_X4_take_90 (K90 : Int32 → ST → Option ST) (v2 : Int32) (S : ST) : Option ST :=
  if v2 ≤ (S.1 3 1) then (some S) else (bn1 (f_X7_byteAt (S.1 3 1) S) fun r25 => bn1 (f_X4_isLetter r25) fun r26 => if r26 = 0 then (some S) else (nm (su S 3 1 ((S.1 3 1) + ((1 : Int32)))) fun S28 => K90 v2 S28))
def b_X4_take_45  (v2 : Int32) (S : ST) : Option ST :=
  nm (su S 3 3 (S.1 3 1)) fun S3 => bn1 (f_X7_byteAt (S3.1 3 1) S3) fun r4 => if r4 = ((-1 : Int32)) then (nm (su S3 3 2 ((0 : Int32))) fun S29 => some S29) else (bn1 (f_X4_isLetter r4) fun r6 => if r6 = 0 then (bn1 (f_X4_isFigure r4) fun r8 => if r8 = 0 then (nm (su S3 3 2 ((3 : Int32))) fun S10 => nm (su S10 3 4 r4) fun S11 => nm (su S11 3 1 ((S11.1 3 1) + ((1 : Int32)))) fun S12 => some S12) else (nm (su S3 3 2 ((2 : Int32))) fun S13 => nm (su S13 3 4 ((0 : Int32))) fun S14 => lp (fun _ _ => none) (b_X4_take_145) 1000 v2 S14)) else (nm (su S3 3 2 ((1 : Int32))) fun S23 => lp (fun _ _ => none) (b_X4_take_90) 1000 v2 S23))
def b_X4_take_8 (K8 : Int32 → ST → Option ST) (v2 : Int32) (S : ST) : Option ST :=
  if v2 ≤ (S.1 3 1) then (b_X4_take_45 v2 S) else (bn1 (f_X7_byteAt (S.1 3 1) S) fun r30 => if r30 = ((32 : Int32)) then (nm (su S 3 1 ((S.1 3 1) + ((1 : Int32)))) fun S32 => K8 v2 S32) else (b_X4_take_45 v2 S))
def f_X4_take  (S : ST) : Option ST :=
  bn1 (f_X7_length S) fun r1 => lp (fun _ _ => none) (b_X4_take_8) 1000 r1 S
set_option maxHeartbeats 4000000 in
set_option maxRecDepth 100000 in
theorem kb_X4_take_213 {p : Program} {l : Launch} {e : Env} {s : State} {m : MethodId} {args : Array Value} {below : List Frame} {meth : Method} {c : Code} {g : GG} {ad : Nat → Nat} {res : ST} {S : ST} (C : CX kC g ad p s m args meth c cX4_take none 3 yX4_take.cls (.code yX4_take cX4_take 3 none)) {K145 : Int32 → ST → Option ST} (hK145 : ∀ {v2 : Int32} {S : ST} {H : Heap} {locs : List Loc} {ls : Array Slot}, K145 v2 S = some res → WX kC g ad s S H locs → lv_has ls 3 [(0, .ref (ad 3)), (1, .int v2)] → W p l e rmX4_take s m args below meth c H locs 0 0 (MQ below (QV kC g ad res (AA kC ad s.heap.size)) args s 0 0 (AA kC ad s.heap.size)) (F0 m 145 ls [])) {v2 : Int32} {v3 : Int32}  {H : Heap} {locs : List Loc} {ls : Array Slot} (h : b_X4_take_213 K145 v2 v3 S = some res) (X : WX kC g ad s S H locs) (hl : lv_has ls 3 [(0, .ref (ad 3)), (1, .int v2)])  : W p l e rmX4_take s m args below meth c H locs 0 0 (MQ below (QV kC g ad res (AA kC ad s.heap.size)) args s 0 0 (AA kC ad s.heap.size)) (F0 m 213 ls [.int v3, .ref (ad 3)]) := by
  have hx := C.1.1
  have hb := C.1.2.1
  have h : (nm (su S 3 4 v3) fun S20 => nm (su S20 3 1 ((S20.1 3 1) + ((1 : Int32)))) fun S21 => K145 v2 S21 : Option ST) = some res := h
  obtain ⟨S20, eS20, h⟩ := nm_s h
  refine g_put (S' := S20) C X inT4 tyX4 tyX4_ok nmX4 3 (by decide) (eC_3 g ad S) rfl 4 (by decide) wd_121 rfl (by rfl) rfl (Nat.le_of_ble_eq_true rfl) (by subst eS20; rfl) (by subst eS20; exact fun i hi => ent_offu hi) dX4_take_213 (fun H locs X => ?_)
  refine lv_aload_n hx hb dX4_take_216 rfl (lv_at hl 0 rfl) ?_
  refine lv_dup hx hb dX4_take_217 rfl ?_
  refine g_get C X inT4 3 (by decide) (eC_3 g ad S20) rfl 1 (by decide) wd_118 (v := .int (S20.1 3 1)) rfl dX4_take_218 ?_
  refine lv_iconst (v := (1 : Int32)) hx hb dX4_take_221 (by decide) ?_
  refine lv_iadd hx hb dX4_take_222 ?_
  obtain ⟨S21, eS21, h⟩ := nm_s h
  refine g_put (S' := S21) C X inT4 tyX4 tyX4_ok nmX4 3 (by decide) (eC_3 g ad S20) rfl 1 (by decide) wd_118 rfl (by rfl) rfl (Nat.le_of_ble_eq_true rfl) (by subst eS21; rfl) (by subst eS21; exact fun i hi => ent_offu hi) dX4_take_223 (fun H locs X => ?_)
  refine lv_goto (tgt := 145) hx hb dX4_take_226 (by decide) ?_
  exact hK145 h X (lv_sub hl [0, 1] rfl) 
set_option maxHeartbeats 4000000 in
set_option maxRecDepth 100000 in
theorem kb_X4_take_145 {p : Program} {l : Launch} {e : Env} {s : State} {m : MethodId} {args : Array Value} {below : List Frame} {meth : Method} {c : Code} {g : GG} {ad : Nat → Nat} {res : ST} {S : ST} (C : CX kC g ad p s m args meth c cX4_take none 3 yX4_take.cls (.code yX4_take cX4_take 3 none)) {K145 : Int32 → ST → Option ST} (hK145 : ∀ {v2 : Int32} {S : ST} {H : Heap} {locs : List Loc} {ls : Array Slot}, K145 v2 S = some res → WX kC g ad s S H locs → lv_has ls 3 [(0, .ref (ad 3)), (1, .int v2)] → W p l e rmX4_take s m args below meth c H locs 0 0 (MQ below (QV kC g ad res (AA kC ad s.heap.size)) args s 0 0 (AA kC ad s.heap.size)) (F0 m 145 ls [])) {v2 : Int32}  {H : Heap} {locs : List Loc} {ls : Array Slot} (h : b_X4_take_145 K145 v2 S = some res) (X : WX kC g ad s S H locs) (hl : lv_has ls 3 [(0, .ref (ad 3)), (1, .int v2)])  : W p l e rmX4_take s m args below meth c H locs 0 0 (MQ below (QV kC g ad res (AA kC ad s.heap.size)) args s 0 0 (AA kC ad s.heap.size)) (F0 m 145 ls []) := by
  have hx := C.1.1
  have hb := C.1.2.1
  have h : (if v2 ≤ (S.1 3 1) then (some S) else (bn1 (f_X7_byteAt (S.1 3 1) S) fun r16 => bn1 (f_X4_isFigure r16) fun r17 => if r17 = 0 then (some S) else (if ((3 : Int32)) ≤ ((S.1 3 1) - (S.1 3 3)) then (b_X4_take_213 K145 v2 (S.1 3 4) S) else (bn1 (f_X7_byteAt (S.1 3 1) S) fun r22 => b_X4_take_213 K145 v2 (((((10 : Int32)) * (S.1 3 4)) + r22) - ((48 : Int32))) S))) : Option ST) = some res := h
  refine lv_aload_n hx hb dX4_take_145 rfl (lv_at hl 0 rfl) ?_
  refine g_get C X inT4 3 (by decide) (eC_3 g ad S) rfl 1 (by decide) wd_118 (v := .int (S.1 3 1)) rfl dX4_take_146 ?_
  refine lv_iload_n hx hb dX4_take_149 rfl (lv_at hl 1 rfl) ?_
  refine lv_icmp_ge (tgt := 249) hx hb dX4_take_150 (by decide) (fun c15 => ?_) (fun c15 => ?_)
  · have h := ip h c15
    exact rt_v C X rfl (Option.some.inj h) dX4_take_249
  · have h := inn h c15
    refine lv_aload_n hx hb dX4_take_153 rfl (lv_at hl 0 rfl) ?_
    refine g_get C X inT4 3 (by decide) (eC_3 g ad S) rfl 0 (by decide) wd_117 (v := .ref (ad 1)) rfl dX4_take_154 ?_
    refine lv_aload_n hx hb dX4_take_157 rfl (lv_at hl 0 rfl) ?_
    refine g_get C X inT4 3 (by decide) (eC_3 g ad S) rfl 1 (by decide) wd_118 (v := .int (S.1 3 1)) rfl dX4_take_158 ?_
    obtain ⟨r16, qr16, h⟩ := bn1_s h
    refine kc_i X (res := (r16, S)) (rV (As := [.int (S.1 3 1)]) (rest := []) (n := 1) (k := 1) C X (c_X7_byteAt l g ad S _ (S.1 3 1)  qr16) wd_469 wd_470 wd_471 wd_71 wd_472 (by decide) (eC_1 g ad S) rfl rfl rfl (by decide +kernel) ⟨Nat.le_of_ble_eq_true rfl, Nat.le_of_ble_eq_true rfl⟩ rfl hl.1 (lv_room (Nat.le_of_ble_eq_true rfl)) dX4_take_161) (fun H locs X => ?_)
    obtain ⟨r17, qr17, h⟩ := bn1_s h
    refine kc_i X (res := (r17, S)) (rS (As := [.int r16]) (rest := []) (n := 1) C X (c_X4_isFigure l g ad S _ r16  qr17) wd_476 wd_477 wd_72 wd_478 rfl rfl (by decide +kernel) ⟨Nat.le_of_ble_eq_true rfl, Nat.le_of_ble_eq_true rfl⟩ rfl hl.1 (lv_room (Nat.le_of_ble_eq_true rfl)) dX4_take_164) (fun H locs X => ?_)
    refine lv_if_eq (tgt := 249) hx hb dX4_take_167 (by decide) (fun c18 => ?_) (fun c18 => ?_)
    · have h := ip h c18
      exact rt_v C X rfl (Option.some.inj h) dX4_take_249
    · have h := inn h c18
      refine lv_aload_n hx hb dX4_take_170 rfl (lv_at hl 0 rfl) ?_
      refine lv_aload_n hx hb dX4_take_171 rfl (lv_at hl 0 rfl) ?_
      refine g_get C X inT4 3 (by decide) (eC_3 g ad S) rfl 1 (by decide) wd_118 (v := .int (S.1 3 1)) rfl dX4_take_172 ?_
      refine lv_aload_n hx hb dX4_take_175 rfl (lv_at hl 0 rfl) ?_
      refine g_get C X inT4 3 (by decide) (eC_3 g ad S) rfl 3 (by decide) wd_120 (v := .int (S.1 3 3)) rfl dX4_take_176 ?_
      refine lv_isub hx hb dX4_take_179 ?_
      refine lv_iconst (v := (3 : Int32)) hx hb dX4_take_180 (by decide) ?_
      refine lv_icmp_ge (tgt := 209) hx hb dX4_take_181 (by decide) (fun c19 => ?_) (fun c19 => ?_)
      · have h := ip h c19
        refine lv_aload_n hx hb dX4_take_209 rfl (lv_at hl 0 rfl) ?_
        refine g_get C X inT4 3 (by decide) (eC_3 g ad S) rfl 4 (by decide) wd_121 (v := .int (S.1 3 4)) rfl dX4_take_210 ?_
        exact kb_X4_take_213 C hK145 h X (lv_sub hl [0, 1] rfl) 
      · have h := inn h c19
        refine lv_bipush (v := (10 : Int32)) hx hb dX4_take_184 (by decide) ?_
        refine lv_aload_n hx hb dX4_take_186 rfl (lv_at hl 0 rfl) ?_
        refine g_get C X inT4 3 (by decide) (eC_3 g ad S) rfl 4 (by decide) wd_121 (v := .int (S.1 3 4)) rfl dX4_take_187 ?_
        refine lv_imul hx hb dX4_take_190 ?_
        refine lv_aload_n hx hb dX4_take_191 rfl (lv_at hl 0 rfl) ?_
        refine g_get C X inT4 3 (by decide) (eC_3 g ad S) rfl 0 (by decide) wd_117 (v := .ref (ad 1)) rfl dX4_take_192 ?_
        refine lv_aload_n hx hb dX4_take_195 rfl (lv_at hl 0 rfl) ?_
        refine g_get C X inT4 3 (by decide) (eC_3 g ad S) rfl 1 (by decide) wd_118 (v := .int (S.1 3 1)) rfl dX4_take_196 ?_
        obtain ⟨r22, qr22, h⟩ := bn1_s h
        refine kc_i X (res := (r22, S)) (rV (As := [.int (S.1 3 1)]) (rest := [.int (((10 : Int32)) * (S.1 3 4)), .ref (ad 3)]) (n := 1) (k := 1) C X (c_X7_byteAt l g ad S _ (S.1 3 1)  qr22) wd_469 wd_470 wd_471 wd_71 wd_472 (by decide) (eC_1 g ad S) rfl rfl rfl (by decide +kernel) ⟨Nat.le_of_ble_eq_true rfl, Nat.le_of_ble_eq_true rfl⟩ rfl hl.1 (lv_room (Nat.le_of_ble_eq_true rfl)) dX4_take_199) (fun H locs X => ?_)
        refine lv_iadd hx hb dX4_take_202 ?_
        refine lv_bipush (v := (48 : Int32)) hx hb dX4_take_203 (by decide) ?_
        refine lv_isub hx hb dX4_take_205 ?_
        refine lv_goto (tgt := 213) hx hb dX4_take_206 (by decide) ?_
        exact kb_X4_take_213 C hK145 h X (lv_sub hl [0, 1] rfl) 
set_option maxHeartbeats 4000000 in
set_option maxRecDepth 100000 in
theorem kl_X4_take_145 {p : Program} {l : Launch} {e : Env} {s : State} {m : MethodId} {args : Array Value} {below : List Frame} {meth : Method} {c : Code} {g : GG} {ad : Nat → Nat} {res : ST}  (C : CX kC g ad p s m args meth c cX4_take none 3 yX4_take.cls (.code yX4_take cX4_take 3 none))  : ∀ (n : Nat) {v2 : Int32} {S : ST} {H : Heap} {locs : List Loc} {ls : Array Slot}, (lp (fun _ _ => none) (b_X4_take_145)) n v2 S = some res → WX kC g ad s S H locs → lv_has ls 3 [(0, .ref (ad 3)), (1, .int v2)] → W p l e rmX4_take s m args below meth c H locs 0 0 (MQ below (QV kC g ad res (AA kC ad s.heap.size)) args s 0 0 (AA kC ad s.heap.size)) (F0 m 145 ls []) := by
  intro n
  induction n with
  | zero =>
    intro v2 S H locs ls h
    cases (show (none : Option ST) = some res from h)
  | succ n ih =>
    intro v2 S H locs ls h X hl 
    exact kb_X4_take_145 C ih h X hl 
set_option maxHeartbeats 4000000 in
set_option maxRecDepth 100000 in
theorem kb_X4_take_90 {p : Program} {l : Launch} {e : Env} {s : State} {m : MethodId} {args : Array Value} {below : List Frame} {meth : Method} {c : Code} {g : GG} {ad : Nat → Nat} {res : ST} {S : ST} (C : CX kC g ad p s m args meth c cX4_take none 3 yX4_take.cls (.code yX4_take cX4_take 3 none)) {K90 : Int32 → ST → Option ST} (hK90 : ∀ {v2 : Int32} {S : ST} {H : Heap} {locs : List Loc} {ls : Array Slot}, K90 v2 S = some res → WX kC g ad s S H locs → lv_has ls 3 [(0, .ref (ad 3)), (1, .int v2)] → W p l e rmX4_take s m args below meth c H locs 0 0 (MQ below (QV kC g ad res (AA kC ad s.heap.size)) args s 0 0 (AA kC ad s.heap.size)) (F0 m 90 ls [])) {v2 : Int32}  {H : Heap} {locs : List Loc} {ls : Array Slot} (h : b_X4_take_90 K90 v2 S = some res) (X : WX kC g ad s S H locs) (hl : lv_has ls 3 [(0, .ref (ad 3)), (1, .int v2)])  : W p l e rmX4_take s m args below meth c H locs 0 0 (MQ below (QV kC g ad res (AA kC ad s.heap.size)) args s 0 0 (AA kC ad s.heap.size)) (F0 m 90 ls []) := by
  have hx := C.1.1
  have hb := C.1.2.1
  have h : (if v2 ≤ (S.1 3 1) then (some S) else (bn1 (f_X7_byteAt (S.1 3 1) S) fun r25 => bn1 (f_X4_isLetter r25) fun r26 => if r26 = 0 then (some S) else (nm (su S 3 1 ((S.1 3 1) + ((1 : Int32)))) fun S28 => K90 v2 S28)) : Option ST) = some res := h
  refine lv_aload_n hx hb dX4_take_90 rfl (lv_at hl 0 rfl) ?_
  refine g_get C X inT4 3 (by decide) (eC_3 g ad S) rfl 1 (by decide) wd_118 (v := .int (S.1 3 1)) rfl dX4_take_91 ?_
  refine lv_iload_n hx hb dX4_take_94 rfl (lv_at hl 1 rfl) ?_
  refine lv_icmp_ge (tgt := 249) hx hb dX4_take_95 (by decide) (fun c24 => ?_) (fun c24 => ?_)
  · have h := ip h c24
    exact rt_v C X rfl (Option.some.inj h) dX4_take_249
  · have h := inn h c24
    refine lv_aload_n hx hb dX4_take_98 rfl (lv_at hl 0 rfl) ?_
    refine g_get C X inT4 3 (by decide) (eC_3 g ad S) rfl 0 (by decide) wd_117 (v := .ref (ad 1)) rfl dX4_take_99 ?_
    refine lv_aload_n hx hb dX4_take_102 rfl (lv_at hl 0 rfl) ?_
    refine g_get C X inT4 3 (by decide) (eC_3 g ad S) rfl 1 (by decide) wd_118 (v := .int (S.1 3 1)) rfl dX4_take_103 ?_
    obtain ⟨r25, qr25, h⟩ := bn1_s h
    refine kc_i X (res := (r25, S)) (rV (As := [.int (S.1 3 1)]) (rest := []) (n := 1) (k := 1) C X (c_X7_byteAt l g ad S _ (S.1 3 1)  qr25) wd_469 wd_470 wd_471 wd_71 wd_472 (by decide) (eC_1 g ad S) rfl rfl rfl (by decide +kernel) ⟨Nat.le_of_ble_eq_true rfl, Nat.le_of_ble_eq_true rfl⟩ rfl hl.1 (lv_room (Nat.le_of_ble_eq_true rfl)) dX4_take_106) (fun H locs X => ?_)
    obtain ⟨r26, qr26, h⟩ := bn1_s h
    refine kc_i X (res := (r26, S)) (rS (As := [.int r25]) (rest := []) (n := 1) C X (c_X4_isLetter l g ad S _ r25  qr26) wd_473 wd_474 wd_72 wd_475 rfl rfl (by decide +kernel) ⟨Nat.le_of_ble_eq_true rfl, Nat.le_of_ble_eq_true rfl⟩ rfl hl.1 (lv_room (Nat.le_of_ble_eq_true rfl)) dX4_take_109) (fun H locs X => ?_)
    refine lv_if_eq (tgt := 249) hx hb dX4_take_112 (by decide) (fun c27 => ?_) (fun c27 => ?_)
    · have h := ip h c27
      exact rt_v C X rfl (Option.some.inj h) dX4_take_249
    · have h := inn h c27
      refine lv_aload_n hx hb dX4_take_115 rfl (lv_at hl 0 rfl) ?_
      refine lv_dup hx hb dX4_take_116 rfl ?_
      refine g_get C X inT4 3 (by decide) (eC_3 g ad S) rfl 1 (by decide) wd_118 (v := .int (S.1 3 1)) rfl dX4_take_117 ?_
      refine lv_iconst (v := (1 : Int32)) hx hb dX4_take_120 (by decide) ?_
      refine lv_iadd hx hb dX4_take_121 ?_
      obtain ⟨S28, eS28, h⟩ := nm_s h
      refine g_put (S' := S28) C X inT4 tyX4 tyX4_ok nmX4 3 (by decide) (eC_3 g ad S) rfl 1 (by decide) wd_118 rfl (by rfl) rfl (Nat.le_of_ble_eq_true rfl) (by subst eS28; rfl) (by subst eS28; exact fun i hi => ent_offu hi) dX4_take_122 (fun H locs X => ?_)
      refine lv_goto (tgt := 90) hx hb dX4_take_125 (by decide) ?_
      exact hK90 h X (lv_sub hl [0, 1] rfl) 
set_option maxHeartbeats 4000000 in
set_option maxRecDepth 100000 in
theorem kl_X4_take_90 {p : Program} {l : Launch} {e : Env} {s : State} {m : MethodId} {args : Array Value} {below : List Frame} {meth : Method} {c : Code} {g : GG} {ad : Nat → Nat} {res : ST}  (C : CX kC g ad p s m args meth c cX4_take none 3 yX4_take.cls (.code yX4_take cX4_take 3 none))  : ∀ (n : Nat) {v2 : Int32} {S : ST} {H : Heap} {locs : List Loc} {ls : Array Slot}, (lp (fun _ _ => none) (b_X4_take_90)) n v2 S = some res → WX kC g ad s S H locs → lv_has ls 3 [(0, .ref (ad 3)), (1, .int v2)] → W p l e rmX4_take s m args below meth c H locs 0 0 (MQ below (QV kC g ad res (AA kC ad s.heap.size)) args s 0 0 (AA kC ad s.heap.size)) (F0 m 90 ls []) := by
  intro n
  induction n with
  | zero =>
    intro v2 S H locs ls h
    cases (show (none : Option ST) = some res from h)
  | succ n ih =>
    intro v2 S H locs ls h X hl 
    exact kb_X4_take_90 C ih h X hl 
set_option maxHeartbeats 4000000 in
set_option maxRecDepth 100000 in
theorem kb_X4_take_45 {p : Program} {l : Launch} {e : Env} {s : State} {m : MethodId} {args : Array Value} {below : List Frame} {meth : Method} {c : Code} {g : GG} {ad : Nat → Nat} {res : ST} {S : ST} (C : CX kC g ad p s m args meth c cX4_take none 3 yX4_take.cls (.code yX4_take cX4_take 3 none))  {v2 : Int32}  {H : Heap} {locs : List Loc} {ls : Array Slot} (h : b_X4_take_45 v2 S = some res) (X : WX kC g ad s S H locs) (hl : lv_has ls 3 [(0, .ref (ad 3)), (1, .int v2)])  : W p l e rmX4_take s m args below meth c H locs 0 0 (MQ below (QV kC g ad res (AA kC ad s.heap.size)) args s 0 0 (AA kC ad s.heap.size)) (F0 m 45 ls []) := by
  have hx := C.1.1
  have hb := C.1.2.1
  have h : (nm (su S 3 3 (S.1 3 1)) fun S3 => bn1 (f_X7_byteAt (S3.1 3 1) S3) fun r4 => if r4 = ((-1 : Int32)) then (nm (su S3 3 2 ((0 : Int32))) fun S29 => some S29) else (bn1 (f_X4_isLetter r4) fun r6 => if r6 = 0 then (bn1 (f_X4_isFigure r4) fun r8 => if r8 = 0 then (nm (su S3 3 2 ((3 : Int32))) fun S10 => nm (su S10 3 4 r4) fun S11 => nm (su S11 3 1 ((S11.1 3 1) + ((1 : Int32)))) fun S12 => some S12) else (nm (su S3 3 2 ((2 : Int32))) fun S13 => nm (su S13 3 4 ((0 : Int32))) fun S14 => lp (fun _ _ => none) (b_X4_take_145) 1000 v2 S14)) else (nm (su S3 3 2 ((1 : Int32))) fun S23 => lp (fun _ _ => none) (b_X4_take_90) 1000 v2 S23)) : Option ST) = some res := h
  refine lv_aload_n hx hb dX4_take_45 rfl (lv_at hl 0 rfl) ?_
  refine lv_aload_n hx hb dX4_take_46 rfl (lv_at hl 0 rfl) ?_
  refine g_get C X inT4 3 (by decide) (eC_3 g ad S) rfl 1 (by decide) wd_118 (v := .int (S.1 3 1)) rfl dX4_take_47 ?_
  obtain ⟨S3, eS3, h⟩ := nm_s h
  refine g_put (S' := S3) C X inT4 tyX4 tyX4_ok nmX4 3 (by decide) (eC_3 g ad S) rfl 3 (by decide) wd_120 rfl (by rfl) rfl (Nat.le_of_ble_eq_true rfl) (by subst eS3; rfl) (by subst eS3; exact fun i hi => ent_offu hi) dX4_take_50 (fun H locs X => ?_)
  refine lv_aload_n hx hb dX4_take_53 rfl (lv_at hl 0 rfl) ?_
  refine g_get C X inT4 3 (by decide) (eC_3 g ad S3) rfl 0 (by decide) wd_117 (v := .ref (ad 1)) rfl dX4_take_54 ?_
  refine lv_aload_n hx hb dX4_take_57 rfl (lv_at hl 0 rfl) ?_
  refine g_get C X inT4 3 (by decide) (eC_3 g ad S3) rfl 1 (by decide) wd_118 (v := .int (S3.1 3 1)) rfl dX4_take_58 ?_
  obtain ⟨r4, qr4, h⟩ := bn1_s h
  refine kc_i X (res := (r4, S3)) (rV (As := [.int (S3.1 3 1)]) (rest := []) (n := 1) (k := 1) C X (c_X7_byteAt l g ad S3 _ (S3.1 3 1)  qr4) wd_469 wd_470 wd_471 wd_71 wd_472 (by decide) (eC_1 g ad S3) rfl rfl rfl (by decide +kernel) ⟨Nat.le_of_ble_eq_true rfl, Nat.le_of_ble_eq_true rfl⟩ rfl hl.1 (lv_room (Nat.le_of_ble_eq_true rfl)) dX4_take_61) (fun H locs X => ?_)
  refine lv_istore_n (lv' := [(2, .int r4), (0, .ref (ad 3)), (1, .int v2)]) hx hb dX4_take_64 rfl hl (by decide) rfl (fun ls hl => ?_)
  refine lv_iload_n hx hb dX4_take_65 rfl (lv_at hl 0 rfl) ?_
  refine lv_iconst (v := (-1 : Int32)) hx hb dX4_take_66 (by decide) ?_
  refine lv_icmp_ne (tgt := 78) hx hb dX4_take_67 (by decide) (fun c5 => ?_) (fun c5 => ?_)
  · have h := inn h c5
    refine lv_iload_n hx hb dX4_take_78 rfl (lv_at hl 0 rfl) ?_
    obtain ⟨r6, qr6, h⟩ := bn1_s h
    refine kc_i X (res := (r6, S3)) (rS (As := [.int r4]) (rest := []) (n := 1) C X (c_X4_isLetter l g ad S3 _ r4  qr6) wd_473 wd_474 wd_72 wd_475 rfl rfl (by decide +kernel) ⟨Nat.le_of_ble_eq_true rfl, Nat.le_of_ble_eq_true rfl⟩ rfl hl.1 (lv_room (Nat.le_of_ble_eq_true rfl)) dX4_take_79) (fun H locs X => ?_)
    refine lv_if_eq (tgt := 128) hx hb dX4_take_82 (by decide) (fun c7 => ?_) (fun c7 => ?_)
    · have h := ip h c7
      refine lv_iload_n hx hb dX4_take_128 rfl (lv_at hl 0 rfl) ?_
      obtain ⟨r8, qr8, h⟩ := bn1_s h
      refine kc_i X (res := (r8, S3)) (rS (As := [.int r4]) (rest := []) (n := 1) C X (c_X4_isFigure l g ad S3 _ r4  qr8) wd_476 wd_477 wd_72 wd_478 rfl rfl (by decide +kernel) ⟨Nat.le_of_ble_eq_true rfl, Nat.le_of_ble_eq_true rfl⟩ rfl hl.1 (lv_room (Nat.le_of_ble_eq_true rfl)) dX4_take_129) (fun H locs X => ?_)
      refine lv_if_eq (tgt := 229) hx hb dX4_take_132 (by decide) (fun c9 => ?_) (fun c9 => ?_)
      · have h := ip h c9
        refine lv_aload_n hx hb dX4_take_229 rfl (lv_at hl 1 rfl) ?_
        refine lv_iconst (v := (3 : Int32)) hx hb dX4_take_230 (by decide) ?_
        obtain ⟨S10, eS10, h⟩ := nm_s h
        refine g_put (S' := S10) C X inT4 tyX4 tyX4_ok nmX4 3 (by decide) (eC_3 g ad S3) rfl 2 (by decide) wd_119 rfl (by rfl) rfl (Nat.le_of_ble_eq_true rfl) (by subst eS10; rfl) (by subst eS10; exact fun i hi => ent_offu hi) dX4_take_231 (fun H locs X => ?_)
        refine lv_aload_n hx hb dX4_take_234 rfl (lv_at hl 1 rfl) ?_
        refine lv_iload_n hx hb dX4_take_235 rfl (lv_at hl 0 rfl) ?_
        obtain ⟨S11, eS11, h⟩ := nm_s h
        refine g_put (S' := S11) C X inT4 tyX4 tyX4_ok nmX4 3 (by decide) (eC_3 g ad S10) rfl 4 (by decide) wd_121 rfl (by rfl) rfl (Nat.le_of_ble_eq_true rfl) (by subst eS11; rfl) (by subst eS11; exact fun i hi => ent_offu hi) dX4_take_236 (fun H locs X => ?_)
        refine lv_aload_n hx hb dX4_take_239 rfl (lv_at hl 1 rfl) ?_
        refine lv_dup hx hb dX4_take_240 rfl ?_
        refine g_get C X inT4 3 (by decide) (eC_3 g ad S11) rfl 1 (by decide) wd_118 (v := .int (S11.1 3 1)) rfl dX4_take_241 ?_
        refine lv_iconst (v := (1 : Int32)) hx hb dX4_take_244 (by decide) ?_
        refine lv_iadd hx hb dX4_take_245 ?_
        obtain ⟨S12, eS12, h⟩ := nm_s h
        refine g_put (S' := S12) C X inT4 tyX4 tyX4_ok nmX4 3 (by decide) (eC_3 g ad S11) rfl 1 (by decide) wd_118 rfl (by rfl) rfl (Nat.le_of_ble_eq_true rfl) (by subst eS12; rfl) (by subst eS12; exact fun i hi => ent_offu hi) dX4_take_246 (fun H locs X => ?_)
        exact rt_v C X rfl (Option.some.inj h) dX4_take_249
      · have h := inn h c9
        refine lv_aload_n hx hb dX4_take_135 rfl (lv_at hl 1 rfl) ?_
        refine lv_iconst (v := (2 : Int32)) hx hb dX4_take_136 (by decide) ?_
        obtain ⟨S13, eS13, h⟩ := nm_s h
        refine g_put (S' := S13) C X inT4 tyX4 tyX4_ok nmX4 3 (by decide) (eC_3 g ad S3) rfl 2 (by decide) wd_119 rfl (by rfl) rfl (Nat.le_of_ble_eq_true rfl) (by subst eS13; rfl) (by subst eS13; exact fun i hi => ent_offu hi) dX4_take_137 (fun H locs X => ?_)
        refine lv_aload_n hx hb dX4_take_140 rfl (lv_at hl 1 rfl) ?_
        refine lv_iconst (v := (0 : Int32)) hx hb dX4_take_141 (by decide) ?_
        obtain ⟨S14, eS14, h⟩ := nm_s h
        refine g_put (S' := S14) C X inT4 tyX4 tyX4_ok nmX4 3 (by decide) (eC_3 g ad S13) rfl 4 (by decide) wd_121 rfl (by rfl) rfl (Nat.le_of_ble_eq_true rfl) (by subst eS14; rfl) (by subst eS14; exact fun i hi => ent_offu hi) dX4_take_142 (fun H locs X => ?_)
        exact kl_X4_take_145 C _ h X (lv_sub hl [1, 2] rfl) 
    · have h := inn h c7
      refine lv_aload_n hx hb dX4_take_85 rfl (lv_at hl 1 rfl) ?_
      refine lv_iconst (v := (1 : Int32)) hx hb dX4_take_86 (by decide) ?_
      obtain ⟨S23, eS23, h⟩ := nm_s h
      refine g_put (S' := S23) C X inT4 tyX4 tyX4_ok nmX4 3 (by decide) (eC_3 g ad S3) rfl 2 (by decide) wd_119 rfl (by rfl) rfl (Nat.le_of_ble_eq_true rfl) (by subst eS23; rfl) (by subst eS23; exact fun i hi => ent_offu hi) dX4_take_87 (fun H locs X => ?_)
      exact kl_X4_take_90 C _ h X (lv_sub hl [1, 2] rfl) 
  · have h := ip h c5
    refine lv_aload_n hx hb dX4_take_70 rfl (lv_at hl 1 rfl) ?_
    refine lv_iconst (v := (0 : Int32)) hx hb dX4_take_71 (by decide) ?_
    obtain ⟨S29, eS29, h⟩ := nm_s h
    refine g_put (S' := S29) C X inT4 tyX4 tyX4_ok nmX4 3 (by decide) (eC_3 g ad S3) rfl 2 (by decide) wd_119 rfl (by rfl) rfl (Nat.le_of_ble_eq_true rfl) (by subst eS29; rfl) (by subst eS29; exact fun i hi => ent_offu hi) dX4_take_72 (fun H locs X => ?_)
    refine lv_goto (tgt := 249) hx hb dX4_take_75 (by decide) ?_
    exact rt_v C X rfl (Option.some.inj h) dX4_take_249
set_option maxHeartbeats 4000000 in
set_option maxRecDepth 100000 in
theorem kb_X4_take_8 {p : Program} {l : Launch} {e : Env} {s : State} {m : MethodId} {args : Array Value} {below : List Frame} {meth : Method} {c : Code} {g : GG} {ad : Nat → Nat} {res : ST} {S : ST} (C : CX kC g ad p s m args meth c cX4_take none 3 yX4_take.cls (.code yX4_take cX4_take 3 none)) {K8 : Int32 → ST → Option ST} (hK8 : ∀ {v2 : Int32} {S : ST} {H : Heap} {locs : List Loc} {ls : Array Slot}, K8 v2 S = some res → WX kC g ad s S H locs → lv_has ls 3 [(0, .ref (ad 3)), (1, .int v2)] → W p l e rmX4_take s m args below meth c H locs 0 0 (MQ below (QV kC g ad res (AA kC ad s.heap.size)) args s 0 0 (AA kC ad s.heap.size)) (F0 m 8 ls [])) {v2 : Int32}  {H : Heap} {locs : List Loc} {ls : Array Slot} (h : b_X4_take_8 K8 v2 S = some res) (X : WX kC g ad s S H locs) (hl : lv_has ls 3 [(0, .ref (ad 3)), (1, .int v2)])  : W p l e rmX4_take s m args below meth c H locs 0 0 (MQ below (QV kC g ad res (AA kC ad s.heap.size)) args s 0 0 (AA kC ad s.heap.size)) (F0 m 8 ls []) := by
  have hx := C.1.1
  have hb := C.1.2.1
  have h : (if v2 ≤ (S.1 3 1) then (b_X4_take_45 v2 S) else (bn1 (f_X7_byteAt (S.1 3 1) S) fun r30 => if r30 = ((32 : Int32)) then (nm (su S 3 1 ((S.1 3 1) + ((1 : Int32)))) fun S32 => K8 v2 S32) else (b_X4_take_45 v2 S)) : Option ST) = some res := h
  refine lv_aload_n hx hb dX4_take_8 rfl (lv_at hl 0 rfl) ?_
  refine g_get C X inT4 3 (by decide) (eC_3 g ad S) rfl 1 (by decide) wd_118 (v := .int (S.1 3 1)) rfl dX4_take_9 ?_
  refine lv_iload_n hx hb dX4_take_12 rfl (lv_at hl 1 rfl) ?_
  refine lv_icmp_ge (tgt := 45) hx hb dX4_take_13 (by decide) (fun c2 => ?_) (fun c2 => ?_)
  · have h := ip h c2
    exact kb_X4_take_45 C h X (lv_sub hl [0, 1] rfl) 
  · have h := inn h c2
    refine lv_aload_n hx hb dX4_take_16 rfl (lv_at hl 0 rfl) ?_
    refine g_get C X inT4 3 (by decide) (eC_3 g ad S) rfl 0 (by decide) wd_117 (v := .ref (ad 1)) rfl dX4_take_17 ?_
    refine lv_aload_n hx hb dX4_take_20 rfl (lv_at hl 0 rfl) ?_
    refine g_get C X inT4 3 (by decide) (eC_3 g ad S) rfl 1 (by decide) wd_118 (v := .int (S.1 3 1)) rfl dX4_take_21 ?_
    obtain ⟨r30, qr30, h⟩ := bn1_s h
    refine kc_i X (res := (r30, S)) (rV (As := [.int (S.1 3 1)]) (rest := []) (n := 1) (k := 1) C X (c_X7_byteAt l g ad S _ (S.1 3 1)  qr30) wd_469 wd_470 wd_471 wd_71 wd_472 (by decide) (eC_1 g ad S) rfl rfl rfl (by decide +kernel) ⟨Nat.le_of_ble_eq_true rfl, Nat.le_of_ble_eq_true rfl⟩ rfl hl.1 (lv_room (Nat.le_of_ble_eq_true rfl)) dX4_take_24) (fun H locs X => ?_)
    refine lv_bipush (v := (32 : Int32)) hx hb dX4_take_27 (by decide) ?_
    refine lv_icmp_ne (tgt := 45) hx hb dX4_take_29 (by decide) (fun c31 => ?_) (fun c31 => ?_)
    · have h := inn h c31
      exact kb_X4_take_45 C h X (lv_sub hl [0, 1] rfl) 
    · have h := ip h c31
      refine lv_aload_n hx hb dX4_take_32 rfl (lv_at hl 0 rfl) ?_
      refine lv_dup hx hb dX4_take_33 rfl ?_
      refine g_get C X inT4 3 (by decide) (eC_3 g ad S) rfl 1 (by decide) wd_118 (v := .int (S.1 3 1)) rfl dX4_take_34 ?_
      refine lv_iconst (v := (1 : Int32)) hx hb dX4_take_37 (by decide) ?_
      refine lv_iadd hx hb dX4_take_38 ?_
      obtain ⟨S32, eS32, h⟩ := nm_s h
      refine g_put (S' := S32) C X inT4 tyX4 tyX4_ok nmX4 3 (by decide) (eC_3 g ad S) rfl 1 (by decide) wd_118 rfl (by rfl) rfl (Nat.le_of_ble_eq_true rfl) (by subst eS32; rfl) (by subst eS32; exact fun i hi => ent_offu hi) dX4_take_39 (fun H locs X => ?_)
      refine lv_goto (tgt := 8) hx hb dX4_take_42 (by decide) ?_
      exact hK8 h X (lv_sub hl [0, 1] rfl) 
set_option maxHeartbeats 4000000 in
set_option maxRecDepth 100000 in
theorem kl_X4_take_8 {p : Program} {l : Launch} {e : Env} {s : State} {m : MethodId} {args : Array Value} {below : List Frame} {meth : Method} {c : Code} {g : GG} {ad : Nat → Nat} {res : ST}  (C : CX kC g ad p s m args meth c cX4_take none 3 yX4_take.cls (.code yX4_take cX4_take 3 none))  : ∀ (n : Nat) {v2 : Int32} {S : ST} {H : Heap} {locs : List Loc} {ls : Array Slot}, (lp (fun _ _ => none) (b_X4_take_8)) n v2 S = some res → WX kC g ad s S H locs → lv_has ls 3 [(0, .ref (ad 3)), (1, .int v2)] → W p l e rmX4_take s m args below meth c H locs 0 0 (MQ below (QV kC g ad res (AA kC ad s.heap.size)) args s 0 0 (AA kC ad s.heap.size)) (F0 m 8 ls []) := by
  intro n
  induction n with
  | zero =>
    intro v2 S H locs ls h
    cases (show (none : Option ST) = some res from h)
  | succ n ih =>
    intro v2 S H locs ls h X hl 
    exact kb_X4_take_8 C ih h X hl 
set_option maxHeartbeats 4000000 in
set_option maxRecDepth 100000 in
theorem c_X4_take (l : Launch) (g : GG) (ad : Nat → Nat) (S : ST) (sz : Nat)   {res : ST} (h : f_X4_take S = some res) : Met l yX4_take (WS (.code yX4_take cX4_take 3 none)) rmX4_take (va_Pc [.ref (ad 3)] (PW kC g ad S sz)) (QV kC g ad res (AA kC ad sz)) 0 0 (AA kC ad sz) := by
  refine go_m (Qc := fun A => QV kC g ad res A) (by decide) (Nat.le_of_ble_eq_true rfl) (fun p e s m below meth c ls H locs C X hl => ?_)
  have hx := C.1.1
  have hb := C.1.2.1
  have hl : lv_has ls 3 [(0, .ref (ad 3))] := hl
  have h : (bn1 (f_X7_length S) fun r1 => lp (fun _ _ => none) (b_X4_take_8) 1000 r1 S : Option ST) = some res := h
  refine lv_aload_n hx hb dX4_take_0 rfl (lv_at hl 0 rfl) ?_
  refine g_get C X inT4 3 (by decide) (eC_3 g ad S) rfl 0 (by decide) wd_117 (v := .ref (ad 1)) rfl dX4_take_1 ?_
  obtain ⟨r1, qr1, h⟩ := bn1_s h
  refine kc_i X (res := (r1, S)) (rV (As := []) (rest := []) (n := 0) (k := 1) C X (c_X7_length l g ad S _   qr1) wd_468 wd_442 wd_443 wd_71 wd_444 (by decide) (eC_1 g ad S) rfl rfl rfl (by decide +kernel) ⟨Nat.le_of_ble_eq_true rfl, Nat.le_of_ble_eq_true rfl⟩ rfl hl.1 (lv_room (Nat.le_of_ble_eq_true rfl)) dX4_take_4) (fun H locs X => ?_)
  refine lv_istore_n (lv' := [(1, .int r1), (0, .ref (ad 3))]) hx hb dX4_take_7 rfl hl (by decide) rfl (fun ls hl => ?_)
  exact kl_X4_take_8 C _ h X (lv_sub hl [1, 0] rfl) 

def rmX4_nameOf : Room := { frames := 0, cells := 0, slots := 0, locals := 0 }
def f_X4_nameOf (a1 : Int32) : Option Nat :=
  if a1 = (0 : Int32) then (some 0) else (if a1 = (1 : Int32) then (some 1) else (if a1 = (2 : Int32) then (some 2) else (if a1 = (3 : Int32) then (some 3) else (if a1 = (4 : Int32) then (some 4) else (if a1 = (5 : Int32) then (some 5) else (if a1 = (6 : Int32) then (some 6) else (if a1 = (7 : Int32) then (some 7) else (some 8))))))))
set_option maxHeartbeats 4000000 in
set_option maxRecDepth 100000 in
theorem c_X4_nameOf (l : Launch) (g : GG) (ad : Nat → Nat) (S : ST) (sz : Nat) (a1 : Int32)  {res : Nat} (h : f_X4_nameOf a1 = some res) : Met l yX4_nameOf (WS (.code yX4_nameOf cX4_nameOf 1 (some (Jvm.ClassFile.FieldType.object "java/lang/String")))) rmX4_nameOf (va_Pc [.int a1] (PW kC g ad S sz)) (QK kC g ad (res, S) (AA kC ad sz)) 0 0 (AA kC ad sz) := by
  refine go_m (Qc := fun A => QK kC g ad (res, S) A) (by decide) (Nat.le_of_ble_eq_true rfl) (fun p e s m below meth c ls H locs C X hl => ?_)
  have hx := C.1.1
  have hb := C.1.2.1
  have hl : lv_has ls 1 [(0, .int a1)] := hl
  have h : (if a1 = (0 : Int32) then (some 0) else (if a1 = (1 : Int32) then (some 1) else (if a1 = (2 : Int32) then (some 2) else (if a1 = (3 : Int32) then (some 3) else (if a1 = (4 : Int32) then (some 4) else (if a1 = (5 : Int32) then (some 5) else (if a1 = (6 : Int32) then (some 6) else (if a1 = (7 : Int32) then (some 7) else (some 8)))))))) : Option Nat) = some res := h
  refine lv_iload_n hx hb dX4_nameOf_0 rfl (lv_at hl 0 rfl) ?_
  by_cases t1 : a1 = (0 : Int32)
  · have h := ip h t1
    refine lv_tableIn (tgt := 48) (off := 47) hx hb dX4_nameOf_1 (by rw [t1]; decide) (by rw [t1]; decide) (by rw [t1]; rfl) (by decide) ?_
    refine va_ldcS hx hb C.1.2.2.2.2.2.1 (C.2.2.2.2.2.2.2 0 _ rfl) dX4_nameOf_48 ?_
    exact rt_k (o := 0) C X rfl (congrArg (fun z => (z, S)) (Option.some.inj h)) dX4_nameOf_50
  have h := inn h t1
  by_cases t2 : a1 = (1 : Int32)
  · have h := ip h t2
    refine lv_tableIn (tgt := 51) (off := 50) hx hb dX4_nameOf_1 (by rw [t2]; decide) (by rw [t2]; decide) (by rw [t2]; rfl) (by decide) ?_
    refine va_ldcS hx hb C.1.2.2.2.2.2.1 (C.2.2.2.2.2.2.2 1 _ rfl) dX4_nameOf_51 ?_
    exact rt_k (o := 1) C X rfl (congrArg (fun z => (z, S)) (Option.some.inj h)) dX4_nameOf_53
  have h := inn h t2
  by_cases t3 : a1 = (2 : Int32)
  · have h := ip h t3
    refine lv_tableIn (tgt := 54) (off := 53) hx hb dX4_nameOf_1 (by rw [t3]; decide) (by rw [t3]; decide) (by rw [t3]; rfl) (by decide) ?_
    refine va_ldcS hx hb C.1.2.2.2.2.2.1 (C.2.2.2.2.2.2.2 2 _ rfl) dX4_nameOf_54 ?_
    exact rt_k (o := 2) C X rfl (congrArg (fun z => (z, S)) (Option.some.inj h)) dX4_nameOf_56
  have h := inn h t3
  by_cases t4 : a1 = (3 : Int32)
  · have h := ip h t4
    refine lv_tableIn (tgt := 57) (off := 56) hx hb dX4_nameOf_1 (by rw [t4]; decide) (by rw [t4]; decide) (by rw [t4]; rfl) (by decide) ?_
    refine va_ldcS hx hb C.1.2.2.2.2.2.1 (C.2.2.2.2.2.2.2 3 _ rfl) dX4_nameOf_57 ?_
    exact rt_k (o := 3) C X rfl (congrArg (fun z => (z, S)) (Option.some.inj h)) dX4_nameOf_59
  have h := inn h t4
  by_cases t5 : a1 = (4 : Int32)
  · have h := ip h t5
    refine lv_tableIn (tgt := 60) (off := 59) hx hb dX4_nameOf_1 (by rw [t5]; decide) (by rw [t5]; decide) (by rw [t5]; rfl) (by decide) ?_
    refine va_ldcS hx hb C.1.2.2.2.2.2.1 (C.2.2.2.2.2.2.2 4 _ rfl) dX4_nameOf_60 ?_
    exact rt_k (o := 4) C X rfl (congrArg (fun z => (z, S)) (Option.some.inj h)) dX4_nameOf_62
  have h := inn h t5
  by_cases t6 : a1 = (5 : Int32)
  · have h := ip h t6
    refine lv_tableIn (tgt := 63) (off := 62) hx hb dX4_nameOf_1 (by rw [t6]; decide) (by rw [t6]; decide) (by rw [t6]; rfl) (by decide) ?_
    refine va_ldcS hx hb C.1.2.2.2.2.2.1 (C.2.2.2.2.2.2.2 5 _ rfl) dX4_nameOf_63 ?_
    exact rt_k (o := 5) C X rfl (congrArg (fun z => (z, S)) (Option.some.inj h)) dX4_nameOf_65
  have h := inn h t6
  by_cases t7 : a1 = (6 : Int32)
  · have h := ip h t7
    refine lv_tableIn (tgt := 66) (off := 65) hx hb dX4_nameOf_1 (by rw [t7]; decide) (by rw [t7]; decide) (by rw [t7]; rfl) (by decide) ?_
    refine va_ldcS hx hb C.1.2.2.2.2.2.1 (C.2.2.2.2.2.2.2 6 _ rfl) dX4_nameOf_66 ?_
    exact rt_k (o := 6) C X rfl (congrArg (fun z => (z, S)) (Option.some.inj h)) dX4_nameOf_68
  have h := inn h t7
  by_cases t8 : a1 = (7 : Int32)
  · have h := ip h t8
    refine lv_tableIn (tgt := 69) (off := 68) hx hb dX4_nameOf_1 (by rw [t8]; decide) (by rw [t8]; decide) (by rw [t8]; rfl) (by decide) ?_
    refine va_ldcS hx hb C.1.2.2.2.2.2.1 (C.2.2.2.2.2.2.2 7 _ rfl) dX4_nameOf_69 ?_
    exact rt_k (o := 7) C X rfl (congrArg (fun z => (z, S)) (Option.some.inj h)) dX4_nameOf_71
  have h := inn h t8
  refine lv_tableOut (tgt := 72) hx hb dX4_nameOf_1 (tb_out (fun z z1 z2 ze => ?_)) (by decide) ?_
  · rcases (show z = 0 ∨ z = 1 ∨ z = 2 ∨ z = 3 ∨ z = 4 ∨ z = 5 ∨ z = 6 ∨ z = 7 by omega) with rfl | rfl | rfl | rfl | rfl | rfl | rfl | rfl
    · exact t1 (Int32.toInt_inj.mp (ze.trans (by decide)))
    · exact t2 (Int32.toInt_inj.mp (ze.trans (by decide)))
    · exact t3 (Int32.toInt_inj.mp (ze.trans (by decide)))
    · exact t4 (Int32.toInt_inj.mp (ze.trans (by decide)))
    · exact t5 (Int32.toInt_inj.mp (ze.trans (by decide)))
    · exact t6 (Int32.toInt_inj.mp (ze.trans (by decide)))
    · exact t7 (Int32.toInt_inj.mp (ze.trans (by decide)))
    · exact t8 (Int32.toInt_inj.mp (ze.trans (by decide)))
  refine va_ldcS hx hb C.1.2.2.2.2.2.1 (C.2.2.2.2.2.2.2 8 _ rfl) dX4_nameOf_72 ?_
  exact rt_k (o := 8) C X rfl (congrArg (fun z => (z, S)) (Option.some.inj h)) dX4_nameOf_74

def rmX4_isWord : Room := { frames := 5, cells := 0, slots := 0, locals := 106 }
def b_X4_isWord_20 (S : ST) (K20 : Nat → Int32 → Option Int32) (v2 : Nat) (v3 : Int32) : Option Int32 :=
  bn1 (f_slen v2) fun r3 => if r3 ≤ v3 then (some ((1 : Int32))) else (bn1 (f_X7_byteAt ((S.1 3 3) + v3) S) fun r5 => bn1 (f_sch v2 v3) fun r6 => if r5 = r6 then (nm (v3 + (1 : Int32)) fun x8 => K20 v2 x8) else (some ((0 : Int32))))
def f_X4_isWord (a1 : Nat) (S : ST) : Option Int32 :=
  bn1 (f_slen a1) fun r1 => if ((S.1 3 1) - (S.1 3 3)) = r1 then (lp (fun _ _ => none) (b_X4_isWord_20 S) 1000 a1 ((0 : Int32))) else (some ((0 : Int32)))
set_option maxHeartbeats 4000000 in
set_option maxRecDepth 100000 in
theorem kb_X4_isWord_20 {p : Program} {l : Launch} {e : Env} {s : State} {m : MethodId} {args : Array Value} {below : List Frame} {meth : Method} {c : Code} {g : GG} {ad : Nat → Nat} {res : Int32} {S : ST} (C : CX kC g ad p s m args meth c cX4_isWord (some Jvm.ClassFile.FieldType.boolean) 3 yX4_isWord.cls (.code yX4_isWord cX4_isWord 3 (some Jvm.ClassFile.FieldType.boolean))) {K20 : Nat → Int32 → Option Int32} (hK20 : ∀ {v2 : Nat} {v3 : Int32} {H : Heap} {locs : List Loc} {ls : Array Slot}, K20 v2 v3 = some res → WX kC g ad s S H locs → lv_has ls 3 [(0, .ref (ad 3)), (1, .ref (g.2.2.2.1 v2)), (2, .int v3)] → W p l e rmX4_isWord s m args below meth c H locs 0 0 (MQ below (QI kC g ad (res, S) (AA kC ad s.heap.size)) args s 0 0 (AA kC ad s.heap.size)) (F0 m 20 ls [])) {v2 : Nat} {v3 : Int32}  {H : Heap} {locs : List Loc} {ls : Array Slot} (h : b_X4_isWord_20 S K20 v2 v3 = some res) (X : WX kC g ad s S H locs) (hl : lv_has ls 3 [(0, .ref (ad 3)), (1, .ref (g.2.2.2.1 v2)), (2, .int v3)])  : W p l e rmX4_isWord s m args below meth c H locs 0 0 (MQ below (QI kC g ad (res, S) (AA kC ad s.heap.size)) args s 0 0 (AA kC ad s.heap.size)) (F0 m 20 ls []) := by
  have hx := C.1.1
  have hb := C.1.2.1
  have h : (bn1 (f_slen v2) fun r3 => if r3 ≤ v3 then (some ((1 : Int32))) else (bn1 (f_X7_byteAt ((S.1 3 3) + v3) S) fun r5 => bn1 (f_sch v2 v3) fun r6 => if r5 = r6 then (nm (v3 + (1 : Int32)) fun x8 => K20 v2 x8) else (some ((0 : Int32)))) : Option Int32) = some res := h
  refine lv_iload_n hx hb dX4_isWord_20 rfl (lv_at hl 2 rfl) ?_
  refine lv_aload_n hx hb dX4_isWord_21 rfl (lv_at hl 1 rfl) ?_
  obtain ⟨r3, qr3, h⟩ := bn1_s h
  refine kc_i X (res := (r3, S)) (rStr (As := []) (rest := [.int v3]) (n := 0) C X (c_J0_length_8abf5 l g ad S _ v2 qr3) wd_499 wd_500 wd_501 wd_84 wd_502 (slen_s qr3).1 rfl rfl (by decide +kernel) ⟨Nat.le_of_ble_eq_true rfl, Nat.le_of_ble_eq_true rfl⟩ rfl hl.1 (lv_room (Nat.le_of_ble_eq_true rfl)) dX4_isWord_22) (fun H locs X => ?_)
  refine lv_icmp_ge (tgt := 57) hx hb dX4_isWord_25 (by decide) (fun c4 => ?_) (fun c4 => ?_)
  · have h := ip h c4
    refine lv_iconst (v := (1 : Int32)) hx hb dX4_isWord_57 (by decide) ?_
    exact rt_z C X rfl (by decide) (congrArg (fun z => (z, S)) (Option.some.inj h)) dX4_isWord_58
  · have h := inn h c4
    refine lv_aload_n hx hb dX4_isWord_28 rfl (lv_at hl 0 rfl) ?_
    refine g_get C X inT4 3 (by decide) (eC_3 g ad S) rfl 0 (by decide) wd_117 (v := .ref (ad 1)) rfl dX4_isWord_29 ?_
    refine lv_aload_n hx hb dX4_isWord_32 rfl (lv_at hl 0 rfl) ?_
    refine g_get C X inT4 3 (by decide) (eC_3 g ad S) rfl 3 (by decide) wd_120 (v := .int (S.1 3 3)) rfl dX4_isWord_33 ?_
    refine lv_iload_n hx hb dX4_isWord_36 rfl (lv_at hl 2 rfl) ?_
    refine lv_iadd hx hb dX4_isWord_37 ?_
    obtain ⟨r5, qr5, h⟩ := bn1_s h
    refine kc_i X (res := (r5, S)) (rV (As := [.int ((S.1 3 3) + v3)]) (rest := []) (n := 1) (k := 1) C X (c_X7_byteAt l g ad S _ ((S.1 3 3) + v3)  qr5) wd_469 wd_470 wd_471 wd_71 wd_472 (by decide) (eC_1 g ad S) rfl rfl rfl (by decide +kernel) ⟨Nat.le_of_ble_eq_true rfl, Nat.le_of_ble_eq_true rfl⟩ rfl hl.1 (lv_room (Nat.le_of_ble_eq_true rfl)) dX4_isWord_38) (fun H locs X => ?_)
    refine lv_aload_n hx hb dX4_isWord_41 rfl (lv_at hl 1 rfl) ?_
    refine lv_iload_n hx hb dX4_isWord_42 rfl (lv_at hl 2 rfl) ?_
    obtain ⟨r6, qr6, h⟩ := bn1_s h
    refine kc_i X (res := (r6, S)) (rStr (As := [.int v3]) (rest := [.int r5]) (n := 1) C X (c_J0_charAt_5068e l g ad S _ v2 v3 qr6) wd_509 wd_510 wd_511 wd_84 wd_512 (sch_s qr6).1 rfl rfl (by decide +kernel) ⟨Nat.le_of_ble_eq_true rfl, Nat.le_of_ble_eq_true rfl⟩ rfl hl.1 (lv_room (Nat.le_of_ble_eq_true rfl)) dX4_isWord_43) (fun H locs X => ?_)
    refine lv_icmp_eq (tgt := 51) hx hb dX4_isWord_46 (by decide) (fun c7 => ?_) (fun c7 => ?_)
    · have h := ip h c7
      obtain ⟨x8, ex8, h⟩ := nm_s h
      refine lv_iinc (v := x8) (lv' := [(2, .int x8), (0, .ref (ad 3)), (1, .ref (g.2.2.2.1 v2))]) hx hb dX4_isWord_51 hl (k := 2) rfl (by rw [ex8]; rfl) (by decide) rfl (fun ls hl => ?_)
      refine lv_goto (tgt := 20) hx hb dX4_isWord_54 (by decide) ?_
      exact hK20 h X (lv_sub hl [1, 2, 0] rfl) 
    · have h := inn h c7
      refine lv_iconst (v := (0 : Int32)) hx hb dX4_isWord_49 (by decide) ?_
      exact rt_z C X rfl (by decide) (congrArg (fun z => (z, S)) (Option.some.inj h)) dX4_isWord_50
set_option maxHeartbeats 4000000 in
set_option maxRecDepth 100000 in
theorem kl_X4_isWord_20 {p : Program} {l : Launch} {e : Env} {s : State} {m : MethodId} {args : Array Value} {below : List Frame} {meth : Method} {c : Code} {g : GG} {ad : Nat → Nat} {res : Int32} {S : ST} (C : CX kC g ad p s m args meth c cX4_isWord (some Jvm.ClassFile.FieldType.boolean) 3 yX4_isWord.cls (.code yX4_isWord cX4_isWord 3 (some Jvm.ClassFile.FieldType.boolean)))  : ∀ (n : Nat) {v2 : Nat} {v3 : Int32} {H : Heap} {locs : List Loc} {ls : Array Slot}, (lp (fun _ _ => none) (b_X4_isWord_20 S)) n v2 v3 = some res → WX kC g ad s S H locs → lv_has ls 3 [(0, .ref (ad 3)), (1, .ref (g.2.2.2.1 v2)), (2, .int v3)] → W p l e rmX4_isWord s m args below meth c H locs 0 0 (MQ below (QI kC g ad (res, S) (AA kC ad s.heap.size)) args s 0 0 (AA kC ad s.heap.size)) (F0 m 20 ls []) := by
  intro n
  induction n with
  | zero =>
    intro v2 v3 H locs ls h
    cases (show (none : Option Int32) = some res from h)
  | succ n ih =>
    intro v2 v3 H locs ls h X hl 
    exact kb_X4_isWord_20 C ih h X hl 
set_option maxHeartbeats 4000000 in
set_option maxRecDepth 100000 in
theorem c_X4_isWord (l : Launch) (g : GG) (ad : Nat → Nat) (S : ST) (sz : Nat) (a1 : Nat)  {res : Int32} (h : f_X4_isWord a1 S = some res) : Met l yX4_isWord (WS (.code yX4_isWord cX4_isWord 3 (some Jvm.ClassFile.FieldType.boolean))) rmX4_isWord (va_Pc [.ref (ad 3), .ref (g.2.2.2.1 a1)] (PW kC g ad S sz)) (QI kC g ad (res, S) (AA kC ad sz)) 0 0 (AA kC ad sz) := by
  refine go_m (Qc := fun A => QI kC g ad (res, S) A) (by decide) (Nat.le_of_ble_eq_true rfl) (fun p e s m below meth c ls H locs C X hl => ?_)
  have hx := C.1.1
  have hb := C.1.2.1
  have hl : lv_has ls 3 [(0, .ref (ad 3)), (1, .ref (g.2.2.2.1 a1))] := hl
  have h : (bn1 (f_slen a1) fun r1 => if ((S.1 3 1) - (S.1 3 3)) = r1 then (lp (fun _ _ => none) (b_X4_isWord_20 S) 1000 a1 ((0 : Int32))) else (some ((0 : Int32))) : Option Int32) = some res := h
  refine lv_aload_n hx hb dX4_isWord_0 rfl (lv_at hl 0 rfl) ?_
  refine g_get C X inT4 3 (by decide) (eC_3 g ad S) rfl 1 (by decide) wd_118 (v := .int (S.1 3 1)) rfl dX4_isWord_1 ?_
  refine lv_aload_n hx hb dX4_isWord_4 rfl (lv_at hl 0 rfl) ?_
  refine g_get C X inT4 3 (by decide) (eC_3 g ad S) rfl 3 (by decide) wd_120 (v := .int (S.1 3 3)) rfl dX4_isWord_5 ?_
  refine lv_isub hx hb dX4_isWord_8 ?_
  refine lv_aload_n hx hb dX4_isWord_9 rfl (lv_at hl 1 rfl) ?_
  obtain ⟨r1, qr1, h⟩ := bn1_s h
  refine kc_i X (res := (r1, S)) (rStr (As := []) (rest := [.int ((S.1 3 1) - (S.1 3 3))]) (n := 0) C X (c_J0_length_8abf5 l g ad S _ a1 qr1) wd_499 wd_500 wd_501 wd_84 wd_502 (slen_s qr1).1 rfl rfl (by decide +kernel) ⟨Nat.le_of_ble_eq_true rfl, Nat.le_of_ble_eq_true rfl⟩ rfl hl.1 (lv_room (Nat.le_of_ble_eq_true rfl)) dX4_isWord_10) (fun H locs X => ?_)
  refine lv_icmp_eq (tgt := 18) hx hb dX4_isWord_13 (by decide) (fun c2 => ?_) (fun c2 => ?_)
  · have h := ip h c2
    refine lv_iconst (v := (0 : Int32)) hx hb dX4_isWord_18 (by decide) ?_
    refine lv_istore_n (lv' := [(2, .int ((0 : Int32))), (0, .ref (ad 3)), (1, .ref (g.2.2.2.1 a1))]) hx hb dX4_isWord_19 rfl hl (by decide) rfl (fun ls hl => ?_)
    exact kl_X4_isWord_20 C _ h X (lv_sub hl [1, 2, 0] rfl) 
  · have h := inn h c2
    refine lv_iconst (v := (0 : Int32)) hx hb dX4_isWord_16 (by decide) ?_
    exact rt_z C X rfl (by decide) (congrArg (fun z => (z, S)) (Option.some.inj h)) dX4_isWord_17

def rmX4_clauseInHand : Room := { frames := 6, cells := 0, slots := 0, locals := 128 }
def b_X4_clauseInHand_12 (S : ST) (K12 : Int32 → Option Int32) (v2 : Int32) : Option Int32 :=
  if ((9 : Int32)) ≤ v2 then (some ((-1 : Int32))) else (bn1 (f_X4_nameOf v2) fun r3 => bn1 (f_X4_isWord r3 S) fun r4 => if r4 = 0 then (nm (v2 + (1 : Int32)) fun x6 => K12 x6) else (some v2))
def f_X4_clauseInHand  (S : ST) : Option Int32 :=
  if (S.1 3 2) = ((1 : Int32)) then (lp (fun _ => none) (b_X4_clauseInHand_12 S) 1000 ((0 : Int32))) else (some ((-1 : Int32)))
set_option maxHeartbeats 4000000 in
set_option maxRecDepth 100000 in
theorem kb_X4_clauseInHand_12 {p : Program} {l : Launch} {e : Env} {s : State} {m : MethodId} {args : Array Value} {below : List Frame} {meth : Method} {c : Code} {g : GG} {ad : Nat → Nat} {res : Int32} {S : ST} (C : CX kC g ad p s m args meth c cX4_clauseInHand (some Jvm.ClassFile.FieldType.int) 2 yX4_clauseInHand.cls (.code yX4_clauseInHand cX4_clauseInHand 2 (some Jvm.ClassFile.FieldType.int))) {K12 : Int32 → Option Int32} (hK12 : ∀ {v2 : Int32} {H : Heap} {locs : List Loc} {ls : Array Slot}, K12 v2 = some res → WX kC g ad s S H locs → lv_has ls 2 [(0, .ref (ad 3)), (1, .int v2)] → W p l e rmX4_clauseInHand s m args below meth c H locs 0 0 (MQ below (QI kC g ad (res, S) (AA kC ad s.heap.size)) args s 0 0 (AA kC ad s.heap.size)) (F0 m 12 ls [])) {v2 : Int32}  {H : Heap} {locs : List Loc} {ls : Array Slot} (h : b_X4_clauseInHand_12 S K12 v2 = some res) (X : WX kC g ad s S H locs) (hl : lv_has ls 2 [(0, .ref (ad 3)), (1, .int v2)])  : W p l e rmX4_clauseInHand s m args below meth c H locs 0 0 (MQ below (QI kC g ad (res, S) (AA kC ad s.heap.size)) args s 0 0 (AA kC ad s.heap.size)) (F0 m 12 ls []) := by
  have hx := C.1.1
  have hb := C.1.2.1
  have h : (if ((9 : Int32)) ≤ v2 then (some ((-1 : Int32))) else (bn1 (f_X4_nameOf v2) fun r3 => bn1 (f_X4_isWord r3 S) fun r4 => if r4 = 0 then (nm (v2 + (1 : Int32)) fun x6 => K12 x6) else (some v2)) : Option Int32) = some res := h
  refine lv_iload_n hx hb dX4_clauseInHand_12 rfl (lv_at hl 1 rfl) ?_
  refine lv_bipush (v := (9 : Int32)) hx hb dX4_clauseInHand_13 (by decide) ?_
  refine lv_icmp_ge (tgt := 37) hx hb dX4_clauseInHand_15 (by decide) (fun c2 => ?_) (fun c2 => ?_)
  · have h := ip h c2
    refine lv_iconst (v := (-1 : Int32)) hx hb dX4_clauseInHand_37 (by decide) ?_
    exact rt_i C X rfl (congrArg (fun z => (z, S)) (Option.some.inj h)) dX4_clauseInHand_38
  · have h := inn h c2
    refine lv_aload_n hx hb dX4_clauseInHand_18 rfl (lv_at hl 0 rfl) ?_
    refine lv_iload_n hx hb dX4_clauseInHand_19 rfl (lv_at hl 1 rfl) ?_
    obtain ⟨r3, qr3, h⟩ := bn1_s h
    refine kc_k X (res := (r3, S)) (rS (As := [.int v2]) (rest := [.ref (ad 3)]) (n := 1) C X (c_X4_nameOf l g ad S _ v2  qr3) wd_483 wd_484 wd_72 wd_485 rfl rfl (by decide +kernel) ⟨Nat.le_of_ble_eq_true rfl, Nat.le_of_ble_eq_true rfl⟩ rfl hl.1 (lv_room (Nat.le_of_ble_eq_true rfl)) dX4_clauseInHand_20) (fun H locs X => ?_)
    obtain ⟨r4, qr4, h⟩ := bn1_s h
    refine kc_i X (res := (r4, S)) (rV (As := [.ref (g.2.2.2.1 r3)]) (rest := []) (n := 1) (k := 3) C X (c_X4_isWord l g ad S _ r3  qr4) wd_495 wd_497 wd_3 wd_72 wd_498 (by decide) (eC_3 g ad S) rfl rfl rfl (by decide +kernel) ⟨Nat.le_of_ble_eq_true rfl, Nat.le_of_ble_eq_true rfl⟩ rfl hl.1 (lv_room (Nat.le_of_ble_eq_true rfl)) dX4_clauseInHand_23) (fun H locs X => ?_)
    refine lv_if_eq (tgt := 31) hx hb dX4_clauseInHand_26 (by decide) (fun c5 => ?_) (fun c5 => ?_)
    · have h := ip h c5
      obtain ⟨x6, ex6, h⟩ := nm_s h
      refine lv_iinc (v := x6) (lv' := [(1, .int x6), (0, .ref (ad 3))]) hx hb dX4_clauseInHand_31 hl (k := 1) rfl (by rw [ex6]; rfl) (by decide) rfl (fun ls hl => ?_)
      refine lv_goto (tgt := 12) hx hb dX4_clauseInHand_34 (by decide) ?_
      exact hK12 h X (lv_sub hl [1, 0] rfl) 
    · have h := inn h c5
      refine lv_iload_n hx hb dX4_clauseInHand_29 rfl (lv_at hl 1 rfl) ?_
      exact rt_i C X rfl (congrArg (fun z => (z, S)) (Option.some.inj h)) dX4_clauseInHand_30
set_option maxHeartbeats 4000000 in
set_option maxRecDepth 100000 in
theorem kl_X4_clauseInHand_12 {p : Program} {l : Launch} {e : Env} {s : State} {m : MethodId} {args : Array Value} {below : List Frame} {meth : Method} {c : Code} {g : GG} {ad : Nat → Nat} {res : Int32} {S : ST} (C : CX kC g ad p s m args meth c cX4_clauseInHand (some Jvm.ClassFile.FieldType.int) 2 yX4_clauseInHand.cls (.code yX4_clauseInHand cX4_clauseInHand 2 (some Jvm.ClassFile.FieldType.int)))  : ∀ (n : Nat) {v2 : Int32} {H : Heap} {locs : List Loc} {ls : Array Slot}, (lp (fun _ => none) (b_X4_clauseInHand_12 S)) n v2 = some res → WX kC g ad s S H locs → lv_has ls 2 [(0, .ref (ad 3)), (1, .int v2)] → W p l e rmX4_clauseInHand s m args below meth c H locs 0 0 (MQ below (QI kC g ad (res, S) (AA kC ad s.heap.size)) args s 0 0 (AA kC ad s.heap.size)) (F0 m 12 ls []) := by
  intro n
  induction n with
  | zero =>
    intro v2 H locs ls h
    cases (show (none : Option Int32) = some res from h)
  | succ n ih =>
    intro v2 H locs ls h X hl 
    exact kb_X4_clauseInHand_12 C ih h X hl 
set_option maxHeartbeats 4000000 in
set_option maxRecDepth 100000 in
theorem c_X4_clauseInHand (l : Launch) (g : GG) (ad : Nat → Nat) (S : ST) (sz : Nat)   {res : Int32} (h : f_X4_clauseInHand S = some res) : Met l yX4_clauseInHand (WS (.code yX4_clauseInHand cX4_clauseInHand 2 (some Jvm.ClassFile.FieldType.int))) rmX4_clauseInHand (va_Pc [.ref (ad 3)] (PW kC g ad S sz)) (QI kC g ad (res, S) (AA kC ad sz)) 0 0 (AA kC ad sz) := by
  refine go_m (Qc := fun A => QI kC g ad (res, S) A) (by decide) (Nat.le_of_ble_eq_true rfl) (fun p e s m below meth c ls H locs C X hl => ?_)
  have hx := C.1.1
  have hb := C.1.2.1
  have hl : lv_has ls 2 [(0, .ref (ad 3))] := hl
  have h : (if (S.1 3 2) = ((1 : Int32)) then (lp (fun _ => none) (b_X4_clauseInHand_12 S) 1000 ((0 : Int32))) else (some ((-1 : Int32))) : Option Int32) = some res := h
  refine lv_aload_n hx hb dX4_clauseInHand_0 rfl (lv_at hl 0 rfl) ?_
  refine g_get C X inT4 3 (by decide) (eC_3 g ad S) rfl 2 (by decide) wd_119 (v := .int (S.1 3 2)) rfl dX4_clauseInHand_1 ?_
  refine lv_iconst (v := (1 : Int32)) hx hb dX4_clauseInHand_4 (by decide) ?_
  refine lv_icmp_eq (tgt := 10) hx hb dX4_clauseInHand_5 (by decide) (fun c1 => ?_) (fun c1 => ?_)
  · have h := ip h c1
    refine lv_iconst (v := (0 : Int32)) hx hb dX4_clauseInHand_10 (by decide) ?_
    refine lv_istore_n (lv' := [(1, .int ((0 : Int32))), (0, .ref (ad 3))]) hx hb dX4_clauseInHand_11 rfl hl (by decide) rfl (fun ls hl => ?_)
    exact kl_X4_clauseInHand_12 C _ h X (lv_sub hl [1, 0] rfl) 
  · have h := inn h c1
    refine lv_iconst (v := (-1 : Int32)) hx hb dX4_clauseInHand_8 (by decide) ?_
    exact rt_i C X rfl (congrArg (fun z => (z, S)) (Option.some.inj h)) dX4_clauseInHand_9

def rmX4_fail : Room := { frames := 0, cells := 0, slots := 0, locals := 0 }
def f_X4_fail (a1 : Int32) (S : ST) : Option (Int32 × ST) :=
  nm (su S 3 5 a1) fun S1 => nm (su S1 3 6 (S1.1 3 3)) fun S2 => some ((0 : Int32), S2)
set_option maxHeartbeats 4000000 in
set_option maxRecDepth 100000 in
theorem c_X4_fail (l : Launch) (g : GG) (ad : Nat → Nat) (S : ST) (sz : Nat) (a1 : Int32)  {res : (Int32 × ST)} (h : f_X4_fail a1 S = some res) : Met l yX4_fail (WS (.code yX4_fail cX4_fail 2 (some Jvm.ClassFile.FieldType.boolean))) rmX4_fail (va_Pc [.ref (ad 3), .int a1] (PW kC g ad S sz)) (QI kC g ad res (AA kC ad sz)) 0 0 (AA kC ad sz) := by
  refine go_m (Qc := fun A => QI kC g ad res A) (by decide) (Nat.le_of_ble_eq_true rfl) (fun p e s m below meth c ls H locs C X hl => ?_)
  have hx := C.1.1
  have hb := C.1.2.1
  have hl : lv_has ls 2 [(0, .ref (ad 3)), (1, .int a1)] := hl
  have h : (nm (su S 3 5 a1) fun S1 => nm (su S1 3 6 (S1.1 3 3)) fun S2 => some ((0 : Int32), S2) : Option (Int32 × ST)) = some res := h
  refine lv_aload_n hx hb dX4_fail_0 rfl (lv_at hl 0 rfl) ?_
  refine lv_iload_n hx hb dX4_fail_1 rfl (lv_at hl 1 rfl) ?_
  obtain ⟨S1, eS1, h⟩ := nm_s h
  refine g_put (S' := S1) C X inT4 tyX4 tyX4_ok nmX4 3 (by decide) (eC_3 g ad S) rfl 5 (by decide) wd_122 rfl (by rfl) rfl (Nat.le_of_ble_eq_true rfl) (by subst eS1; rfl) (by subst eS1; exact fun i hi => ent_offu hi) dX4_fail_2 (fun H locs X => ?_)
  refine lv_aload_n hx hb dX4_fail_5 rfl (lv_at hl 0 rfl) ?_
  refine lv_aload_n hx hb dX4_fail_6 rfl (lv_at hl 0 rfl) ?_
  refine g_get C X inT4 3 (by decide) (eC_3 g ad S1) rfl 3 (by decide) wd_120 (v := .int (S1.1 3 3)) rfl dX4_fail_7 ?_
  obtain ⟨S2, eS2, h⟩ := nm_s h
  refine g_put (S' := S2) C X inT4 tyX4 tyX4_ok nmX4 3 (by decide) (eC_3 g ad S1) rfl 6 (by decide) wd_123 rfl (by rfl) rfl (Nat.le_of_ble_eq_true rfl) (by subst eS2; rfl) (by subst eS2; exact fun i hi => ent_offu hi) dX4_fail_10 (fun H locs X => ?_)
  refine lv_iconst (v := (0 : Int32)) hx hb dX4_fail_13 (by decide) ?_
  exact rt_z C X rfl (by decide) (Option.some.inj h) dX4_fail_14

def rmX4_takeNumber : Room := { frames := 2, cells := 0, slots := 0, locals := 43 }
def b_X4_takeNumber_43   (S : ST) : Option (Int32 × ST) :=
  bnd (f_X4_fail ((2 : Int32)) S) fun r5 S4 => if r5 = 0 then (some ((0 : Int32), S4)) else (some ((1 : Int32), S4))
def f_X4_takeNumber (a1 : Int32) (a2 : Int32) (S : ST) : Option (Int32 × ST) :=
  bn1 (f_X4_take S) fun S1 => if (S1.1 3 2) = ((2 : Int32)) then (if ((3 : Int32)) < ((S1.1 3 1) - (S1.1 3 3)) then (b_X4_takeNumber_43 S1) else (bn1 (f_X9_within (S1.1 3 4) a1 a2) fun r7 => if r7 = 0 then (b_X4_takeNumber_43 S1) else (some ((1 : Int32), S1)))) else (bnd (f_X4_fail ((1 : Int32)) S1) fun r10 S9 => chk (zb r10) (some (r10, S9)))
set_option maxHeartbeats 4000000 in
set_option maxRecDepth 100000 in
theorem kb_X4_takeNumber_43 {p : Program} {l : Launch} {e : Env} {s : State} {m : MethodId} {args : Array Value} {below : List Frame} {meth : Method} {c : Code} {g : GG} {ad : Nat → Nat} {res : (Int32 × ST)} {S : ST} (C : CX kC g ad p s m args meth c cX4_takeNumber (some Jvm.ClassFile.FieldType.boolean) 3 yX4_takeNumber.cls (.code yX4_takeNumber cX4_takeNumber 3 (some Jvm.ClassFile.FieldType.boolean)))    {H : Heap} {locs : List Loc} {ls : Array Slot} (h : b_X4_takeNumber_43 S = some res) (X : WX kC g ad s S H locs) (hl : lv_has ls 3 [(0, .ref (ad 3))])  : W p l e rmX4_takeNumber s m args below meth c H locs 0 0 (MQ below (QI kC g ad res (AA kC ad s.heap.size)) args s 0 0 (AA kC ad s.heap.size)) (F0 m 43 ls []) := by
  have hx := C.1.1
  have hb := C.1.2.1
  have h : (bnd (f_X4_fail ((2 : Int32)) S) fun r5 S4 => if r5 = 0 then (some ((0 : Int32), S4)) else (some ((1 : Int32), S4)) : Option (Int32 × ST)) = some res := h
  refine lv_aload_n hx hb dX4_takeNumber_43 rfl (lv_at hl 0 rfl) ?_
  refine lv_iconst (v := (2 : Int32)) hx hb dX4_takeNumber_44 (by decide) ?_
  obtain ⟨r5, S4, qr5, h⟩ := bnd_s h
  refine kc_i X (res := (r5, S4)) (rV (As := [.int ((2 : Int32))]) (rest := []) (n := 1) (k := 3) C X (c_X4_fail l g ad S _ ((2 : Int32))  qr5) wd_547 wd_549 wd_4 wd_72 wd_550 (by decide) (eC_3 g ad S) rfl rfl rfl (by decide +kernel) ⟨Nat.le_of_ble_eq_true rfl, Nat.le_of_ble_eq_true rfl⟩ rfl hl.1 (lv_room (Nat.le_of_ble_eq_true rfl)) dX4_takeNumber_45) (fun H locs X => ?_)
  refine lv_if_eq (tgt := 55) hx hb dX4_takeNumber_48 (by decide) (fun c6 => ?_) (fun c6 => ?_)
  · have h := ip h c6
    refine lv_iconst (v := (0 : Int32)) hx hb dX4_takeNumber_55 (by decide) ?_
    exact rt_z C X rfl (by decide) (Option.some.inj h) dX4_takeNumber_56
  · have h := inn h c6
    refine lv_iconst (v := (1 : Int32)) hx hb dX4_takeNumber_51 (by decide) ?_
    refine lv_goto (tgt := 56) hx hb dX4_takeNumber_52 (by decide) ?_
    exact rt_z C X rfl (by decide) (Option.some.inj h) dX4_takeNumber_56
set_option maxHeartbeats 4000000 in
set_option maxRecDepth 100000 in
theorem c_X4_takeNumber (l : Launch) (g : GG) (ad : Nat → Nat) (S : ST) (sz : Nat) (a1 : Int32) (a2 : Int32)  {res : (Int32 × ST)} (h : f_X4_takeNumber a1 a2 S = some res) : Met l yX4_takeNumber (WS (.code yX4_takeNumber cX4_takeNumber 3 (some Jvm.ClassFile.FieldType.boolean))) rmX4_takeNumber (va_Pc [.ref (ad 3), .int a1, .int a2] (PW kC g ad S sz)) (QI kC g ad res (AA kC ad sz)) 0 0 (AA kC ad sz) := by
  refine go_m (Qc := fun A => QI kC g ad res A) (by decide) (Nat.le_of_ble_eq_true rfl) (fun p e s m below meth c ls H locs C X hl => ?_)
  have hx := C.1.1
  have hb := C.1.2.1
  have hl : lv_has ls 3 [(0, .ref (ad 3)), (1, .int a1), (2, .int a2)] := hl
  have h : (bn1 (f_X4_take S) fun S1 => if (S1.1 3 2) = ((2 : Int32)) then (if ((3 : Int32)) < ((S1.1 3 1) - (S1.1 3 3)) then (b_X4_takeNumber_43 S1) else (bn1 (f_X9_within (S1.1 3 4) a1 a2) fun r7 => if r7 = 0 then (b_X4_takeNumber_43 S1) else (some ((1 : Int32), S1)))) else (bnd (f_X4_fail ((1 : Int32)) S1) fun r10 S9 => chk (zb r10) (some (r10, S9))) : Option (Int32 × ST)) = some res := h
  refine lv_aload_n hx hb dX4_takeNumber_0 rfl (lv_at hl 0 rfl) ?_
  obtain ⟨S1, qS1, h⟩ := bn1_s h
  refine kc_v X (res := S1) (rV (As := []) (rest := []) (n := 0) (k := 3) C X (c_X4_take l g ad S _   qS1) wd_464 wd_466 wd_1 wd_72 wd_467 (by decide) (eC_3 g ad S) rfl rfl rfl (by decide +kernel) ⟨Nat.le_of_ble_eq_true rfl, Nat.le_of_ble_eq_true rfl⟩ rfl hl.1 (lv_room (Nat.le_of_ble_eq_true rfl)) dX4_takeNumber_1) (fun H locs X => ?_)
  refine lv_aload_n hx hb dX4_takeNumber_4 rfl (lv_at hl 0 rfl) ?_
  refine g_get C X inT4 3 (by decide) (eC_3 g ad S1) rfl 2 (by decide) wd_119 (v := .int (S1.1 3 2)) rfl dX4_takeNumber_5 ?_
  refine lv_iconst (v := (2 : Int32)) hx hb dX4_takeNumber_8 (by decide) ?_
  refine lv_icmp_eq (tgt := 18) hx hb dX4_takeNumber_9 (by decide) (fun c2 => ?_) (fun c2 => ?_)
  · have h := ip h c2
    refine lv_aload_n hx hb dX4_takeNumber_18 rfl (lv_at hl 0 rfl) ?_
    refine g_get C X inT4 3 (by decide) (eC_3 g ad S1) rfl 1 (by decide) wd_118 (v := .int (S1.1 3 1)) rfl dX4_takeNumber_19 ?_
    refine lv_aload_n hx hb dX4_takeNumber_22 rfl (lv_at hl 0 rfl) ?_
    refine g_get C X inT4 3 (by decide) (eC_3 g ad S1) rfl 3 (by decide) wd_120 (v := .int (S1.1 3 3)) rfl dX4_takeNumber_23 ?_
    refine lv_isub hx hb dX4_takeNumber_26 ?_
    refine lv_iconst (v := (3 : Int32)) hx hb dX4_takeNumber_27 (by decide) ?_
    refine lv_icmp_gt (tgt := 43) hx hb dX4_takeNumber_28 (by decide) (fun c3 => ?_) (fun c3 => ?_)
    · have h := ip h c3
      exact kb_X4_takeNumber_43 C h X (lv_sub hl [0] rfl) 
    · have h := inn h c3
      refine lv_aload_n hx hb dX4_takeNumber_31 rfl (lv_at hl 0 rfl) ?_
      refine g_get C X inT4 3 (by decide) (eC_3 g ad S1) rfl 4 (by decide) wd_121 (v := .int (S1.1 3 4)) rfl dX4_takeNumber_32 ?_
      refine lv_iload_n hx hb dX4_takeNumber_35 rfl (lv_at hl 1 rfl) ?_
      refine lv_iload_n hx hb dX4_takeNumber_36 rfl (lv_at hl 2 rfl) ?_
      obtain ⟨r7, qr7, h⟩ := bn1_s h
      refine kc_i X (res := (r7, S1)) (rSN (As := [.int (S1.1 3 4), .int a1, .int a2]) (rest := []) (n := 3) C X (c_X9_within l g ad S1 _ (S1.1 3 4) a1 a2  qr7) nw_563 wd_564 wd_70 wd_565 rfl rfl (by decide +kernel) ⟨Nat.le_of_ble_eq_true rfl, Nat.le_of_ble_eq_true rfl⟩ rfl hl.1 (lv_room (Nat.le_of_ble_eq_true rfl)) dX4_takeNumber_37) (fun H locs X => ?_)
      refine lv_if_ne (tgt := 51) hx hb dX4_takeNumber_40 (by decide) (fun c8 => ?_) (fun c8 => ?_)
      · have h := inn h c8
        refine lv_iconst (v := (1 : Int32)) hx hb dX4_takeNumber_51 (by decide) ?_
        refine lv_goto (tgt := 56) hx hb dX4_takeNumber_52 (by decide) ?_
        exact rt_z C X rfl (by decide) (Option.some.inj h) dX4_takeNumber_56
      · have h := ip h c8
        exact kb_X4_takeNumber_43 C h X (lv_sub hl [0] rfl) 
  · have h := inn h c2
    refine lv_aload_n hx hb dX4_takeNumber_12 rfl (lv_at hl 0 rfl) ?_
    refine lv_iconst (v := (1 : Int32)) hx hb dX4_takeNumber_13 (by decide) ?_
    obtain ⟨r10, S9, qr10, h⟩ := bnd_s h
    refine kc_i X (res := (r10, S9)) (rV (As := [.int ((1 : Int32))]) (rest := []) (n := 1) (k := 3) C X (c_X4_fail l g ad S1 _ ((1 : Int32))  qr10) wd_547 wd_549 wd_4 wd_72 wd_550 (by decide) (eC_3 g ad S1) rfl rfl rfl (by decide +kernel) ⟨Nat.le_of_ble_eq_true rfl, Nat.le_of_ble_eq_true rfl⟩ rfl hl.1 (lv_room (Nat.le_of_ble_eq_true rfl)) dX4_takeNumber_14) (fun H locs X => ?_)
    obtain ⟨k11, h⟩ := chk_s h
    exact rt_z C X rfl (zb_or k11) (Option.some.inj h) dX4_takeNumber_17

def rmX4_isSign : Room := { frames := 0, cells := 0, slots := 0, locals := 0 }
def f_X4_isSign (a1 : Int32) (S : ST) : Option Int32 :=
  if (S.1 3 2) = ((3 : Int32)) then (if (S.1 3 4) = a1 then (some ((1 : Int32))) else (some ((0 : Int32)))) else (some ((0 : Int32)))
set_option maxHeartbeats 4000000 in
set_option maxRecDepth 100000 in
theorem c_X4_isSign (l : Launch) (g : GG) (ad : Nat → Nat) (S : ST) (sz : Nat) (a1 : Int32)  {res : Int32} (h : f_X4_isSign a1 S = some res) : Met l yX4_isSign (WS (.code yX4_isSign cX4_isSign 2 (some Jvm.ClassFile.FieldType.boolean))) rmX4_isSign (va_Pc [.ref (ad 3), .int a1] (PW kC g ad S sz)) (QI kC g ad (res, S) (AA kC ad sz)) 0 0 (AA kC ad sz) := by
  refine go_m (Qc := fun A => QI kC g ad (res, S) A) (by decide) (Nat.le_of_ble_eq_true rfl) (fun p e s m below meth c ls H locs C X hl => ?_)
  have hx := C.1.1
  have hb := C.1.2.1
  have hl : lv_has ls 2 [(0, .ref (ad 3)), (1, .int a1)] := hl
  have h : (if (S.1 3 2) = ((3 : Int32)) then (if (S.1 3 4) = a1 then (some ((1 : Int32))) else (some ((0 : Int32)))) else (some ((0 : Int32))) : Option Int32) = some res := h
  refine lv_aload_n hx hb dX4_isSign_0 rfl (lv_at hl 0 rfl) ?_
  refine g_get C X inT4 3 (by decide) (eC_3 g ad S) rfl 2 (by decide) wd_119 (v := .int (S.1 3 2)) rfl dX4_isSign_1 ?_
  refine lv_iconst (v := (3 : Int32)) hx hb dX4_isSign_4 (by decide) ?_
  refine lv_icmp_ne (tgt := 20) hx hb dX4_isSign_5 (by decide) (fun c1 => ?_) (fun c1 => ?_)
  · have h := inn h c1
    refine lv_iconst (v := (0 : Int32)) hx hb dX4_isSign_20 (by decide) ?_
    exact rt_z C X rfl (by decide) (congrArg (fun z => (z, S)) (Option.some.inj h)) dX4_isSign_21
  · have h := ip h c1
    refine lv_aload_n hx hb dX4_isSign_8 rfl (lv_at hl 0 rfl) ?_
    refine g_get C X inT4 3 (by decide) (eC_3 g ad S) rfl 4 (by decide) wd_121 (v := .int (S.1 3 4)) rfl dX4_isSign_9 ?_
    refine lv_iload_n hx hb dX4_isSign_12 rfl (lv_at hl 1 rfl) ?_
    refine lv_icmp_ne (tgt := 20) hx hb dX4_isSign_13 (by decide) (fun c2 => ?_) (fun c2 => ?_)
    · have h := inn h c2
      refine lv_iconst (v := (0 : Int32)) hx hb dX4_isSign_20 (by decide) ?_
      exact rt_z C X rfl (by decide) (congrArg (fun z => (z, S)) (Option.some.inj h)) dX4_isSign_21
    · have h := ip h c2
      refine lv_iconst (v := (1 : Int32)) hx hb dX4_isSign_16 (by decide) ?_
      refine lv_goto (tgt := 21) hx hb dX4_isSign_17 (by decide) ?_
      exact rt_z C X rfl (by decide) (congrArg (fun z => (z, S)) (Option.some.inj h)) dX4_isSign_21

def rmX4_readList : Room := { frames := 3, cells := 0, slots := 0, locals := 65 }
def b_X4_readList_62   (S : ST) : Option (Int32 × ST) :=
  bn1 (f_X4_isSign ((59 : Int32)) S) fun r2 => if r2 = 0 then (bnd (f_X4_fail ((1 : Int32)) S) fun r5 S4 => if r5 = 0 then (some ((0 : Int32), S4)) else (some ((1 : Int32), S4))) else (some ((1 : Int32), S))
def b_X4_readList_2 (K2 : Nat → Int32 → Int32 → ST → Option (Int32 × ST)) (v2 : Nat) (v3 : Int32) (v4 : Int32) (S : ST) : Option (Int32 × ST) :=
  if (Int32.ofNat (lnC v2)) < v4 then (b_X4_readList_62 S) else (bnd (f_X4_takeNumber ((0 : Int32)) v3 S) fun r8 S7 => if r8 = 0 then (some ((0 : Int32), S7)) else (if v4 = (Int32.ofNat (lnC v2)) then (bnd (f_X4_fail ((4 : Int32)) S7) fun r17 S16 => chk (zb r17) (some (r17, S16))) else (bn1 (f_X9_put v2 v4 (S7.1 3 4) S7) fun S11 => bn1 (f_X4_take S11) fun S12 => bn1 (f_X4_isSign ((44 : Int32)) S12) fun r13 => if r13 = 0 then (b_X4_readList_62 S12) else (nm (v4 + (1 : Int32)) fun x15 => K2 v2 v3 x15 S12))))
def f_X4_readList (a1 : Nat) (a2 : Int32) (S : ST) : Option (Int32 × ST) :=
  lp (fun _ _ _ _ => none) (b_X4_readList_2) 1000 a1 a2 ((0 : Int32)) S
set_option maxHeartbeats 4000000 in
set_option maxRecDepth 100000 in
theorem kb_X4_readList_62 {p : Program} {l : Launch} {e : Env} {s : State} {m : MethodId} {args : Array Value} {below : List Frame} {meth : Method} {c : Code} {g : GG} {ad : Nat → Nat} {res : (Int32 × ST)} {S : ST} (C : CX kC g ad p s m args meth c cX4_readList (some Jvm.ClassFile.FieldType.boolean) 4 yX4_readList.cls (.code yX4_readList cX4_readList 4 (some Jvm.ClassFile.FieldType.boolean)))    {H : Heap} {locs : List Loc} {ls : Array Slot} (h : b_X4_readList_62 S = some res) (X : WX kC g ad s S H locs) (hl : lv_has ls 4 [(0, .ref (ad 3))])  : W p l e rmX4_readList s m args below meth c H locs 0 0 (MQ below (QI kC g ad res (AA kC ad s.heap.size)) args s 0 0 (AA kC ad s.heap.size)) (F0 m 62 ls []) := by
  have hx := C.1.1
  have hb := C.1.2.1
  have h : (bn1 (f_X4_isSign ((59 : Int32)) S) fun r2 => if r2 = 0 then (bnd (f_X4_fail ((1 : Int32)) S) fun r5 S4 => if r5 = 0 then (some ((0 : Int32), S4)) else (some ((1 : Int32), S4))) else (some ((1 : Int32), S)) : Option (Int32 × ST)) = some res := h
  refine lv_aload_n hx hb dX4_readList_62 rfl (lv_at hl 0 rfl) ?_
  refine lv_bipush (v := (59 : Int32)) hx hb dX4_readList_63 (by decide) ?_
  obtain ⟨r2, qr2, h⟩ := bn1_s h
  refine kc_i X (res := (r2, S)) (rV (As := [.int ((59 : Int32))]) (rest := []) (n := 1) (k := 3) C X (c_X4_isSign l g ad S _ ((59 : Int32))  qr2) wd_567 wd_569 wd_8 wd_72 wd_570 (by decide) (eC_3 g ad S) rfl rfl rfl (by decide +kernel) ⟨Nat.le_of_ble_eq_true rfl, Nat.le_of_ble_eq_true rfl⟩ rfl hl.1 (lv_room (Nat.le_of_ble_eq_true rfl)) dX4_readList_65) (fun H locs X => ?_)
  refine lv_if_ne (tgt := 79) hx hb dX4_readList_68 (by decide) (fun c3 => ?_) (fun c3 => ?_)
  · have h := inn h c3
    refine lv_iconst (v := (1 : Int32)) hx hb dX4_readList_79 (by decide) ?_
    refine lv_goto (tgt := 84) hx hb dX4_readList_80 (by decide) ?_
    exact rt_z C X rfl (by decide) (Option.some.inj h) dX4_readList_84
  · have h := ip h c3
    refine lv_aload_n hx hb dX4_readList_71 rfl (lv_at hl 0 rfl) ?_
    refine lv_iconst (v := (1 : Int32)) hx hb dX4_readList_72 (by decide) ?_
    obtain ⟨r5, S4, qr5, h⟩ := bnd_s h
    refine kc_i X (res := (r5, S4)) (rV (As := [.int ((1 : Int32))]) (rest := []) (n := 1) (k := 3) C X (c_X4_fail l g ad S _ ((1 : Int32))  qr5) wd_547 wd_549 wd_4 wd_72 wd_550 (by decide) (eC_3 g ad S) rfl rfl rfl (by decide +kernel) ⟨Nat.le_of_ble_eq_true rfl, Nat.le_of_ble_eq_true rfl⟩ rfl hl.1 (lv_room (Nat.le_of_ble_eq_true rfl)) dX4_readList_73) (fun H locs X => ?_)
    refine lv_if_eq (tgt := 83) hx hb dX4_readList_76 (by decide) (fun c6 => ?_) (fun c6 => ?_)
    · have h := ip h c6
      refine lv_iconst (v := (0 : Int32)) hx hb dX4_readList_83 (by decide) ?_
      exact rt_z C X rfl (by decide) (Option.some.inj h) dX4_readList_84
    · have h := inn h c6
      refine lv_iconst (v := (1 : Int32)) hx hb dX4_readList_79 (by decide) ?_
      refine lv_goto (tgt := 84) hx hb dX4_readList_80 (by decide) ?_
      exact rt_z C X rfl (by decide) (Option.some.inj h) dX4_readList_84
set_option maxHeartbeats 4000000 in
set_option maxRecDepth 100000 in
theorem kb_X4_readList_2 {p : Program} {l : Launch} {e : Env} {s : State} {m : MethodId} {args : Array Value} {below : List Frame} {meth : Method} {c : Code} {g : GG} {ad : Nat → Nat} {res : (Int32 × ST)} {S : ST} (C : CX kC g ad p s m args meth c cX4_readList (some Jvm.ClassFile.FieldType.boolean) 4 yX4_readList.cls (.code yX4_readList cX4_readList 4 (some Jvm.ClassFile.FieldType.boolean))) {K2 : Nat → Int32 → Int32 → ST → Option (Int32 × ST)} (hK2 : ∀ {v2 : Nat} {v3 : Int32} {v4 : Int32} {S : ST} {H : Heap} {locs : List Loc} {ls : Array Slot}, K2 v2 v3 v4 S = some res → WX kC g ad s S H locs → lv_has ls 4 [(0, .ref (ad 3)), (1, .ref (ad v2)), (2, .int v3), (3, .int v4)] → (iaC v2 = true) → W p l e rmX4_readList s m args below meth c H locs 0 0 (MQ below (QI kC g ad res (AA kC ad s.heap.size)) args s 0 0 (AA kC ad s.heap.size)) (F0 m 2 ls [])) {v2 : Nat} {v3 : Int32} {v4 : Int32}  {H : Heap} {locs : List Loc} {ls : Array Slot} (h : b_X4_readList_2 K2 v2 v3 v4 S = some res) (X : WX kC g ad s S H locs) (hl : lv_has ls 4 [(0, .ref (ad 3)), (1, .ref (ad v2)), (2, .int v3), (3, .int v4)]) (g2 : iaC v2 = true) : W p l e rmX4_readList s m args below meth c H locs 0 0 (MQ below (QI kC g ad res (AA kC ad s.heap.size)) args s 0 0 (AA kC ad s.heap.size)) (F0 m 2 ls []) := by
  have hx := C.1.1
  have hb := C.1.2.1
  have h : (if (Int32.ofNat (lnC v2)) < v4 then (b_X4_readList_62 S) else (bnd (f_X4_takeNumber ((0 : Int32)) v3 S) fun r8 S7 => if r8 = 0 then (some ((0 : Int32), S7)) else (if v4 = (Int32.ofNat (lnC v2)) then (bnd (f_X4_fail ((4 : Int32)) S7) fun r17 S16 => chk (zb r17) (some (r17, S16))) else (bn1 (f_X9_put v2 v4 (S7.1 3 4) S7) fun S11 => bn1 (f_X4_take S11) fun S12 => bn1 (f_X4_isSign ((44 : Int32)) S12) fun r13 => if r13 = 0 then (b_X4_readList_62 S12) else (nm (v4 + (1 : Int32)) fun x15 => K2 v2 v3 x15 S12)))) : Option (Int32 × ST)) = some res := h
  refine lv_iload_n hx hb dX4_readList_2 rfl (lv_at hl 3 rfl) ?_
  refine lv_aload_n hx hb dX4_readList_3 rfl (lv_at hl 1 rfl) ?_
  refine g_alen C X v2 0 (ltiaC g2) (eiaC g ad S g2) rfl (v := Int32.ofNat (lnC v2)) (by first | rfl | decide) dX4_readList_4 ?_
  refine lv_icmp_gt (tgt := 62) hx hb dX4_readList_5 (by decide) (fun c1 => ?_) (fun c1 => ?_)
  · have h := ip h c1
    exact kb_X4_readList_62 C h X (lv_sub hl [0] rfl) 
  · have h := inn h c1
    refine lv_aload_n hx hb dX4_readList_8 rfl (lv_at hl 0 rfl) ?_
    refine lv_iconst (v := (0 : Int32)) hx hb dX4_readList_9 (by decide) ?_
    refine lv_iload_n hx hb dX4_readList_10 rfl (lv_at hl 2 rfl) ?_
    obtain ⟨r8, S7, qr8, h⟩ := bnd_s h
    refine kc_i X (res := (r8, S7)) (rV (As := [.int ((0 : Int32)), .int v3]) (rest := []) (n := 2) (k := 3) C X (c_X4_takeNumber l g ad S _ ((0 : Int32)) v3  qr8) wd_559 wd_561 wd_7 wd_72 wd_562 (by decide) (eC_3 g ad S) rfl rfl rfl (by decide +kernel) ⟨Nat.le_of_ble_eq_true rfl, Nat.le_of_ble_eq_true rfl⟩ rfl hl.1 (lv_room (Nat.le_of_ble_eq_true rfl)) dX4_readList_11) (fun H locs X => ?_)
    refine lv_if_ne (tgt := 19) hx hb dX4_readList_14 (by decide) (fun c9 => ?_) (fun c9 => ?_)
    · have h := inn h c9
      refine lv_iload_n hx hb dX4_readList_19 rfl (lv_at hl 3 rfl) ?_
      refine lv_aload_n hx hb dX4_readList_20 rfl (lv_at hl 1 rfl) ?_
      refine g_alen C X v2 0 (ltiaC g2) (eiaC g ad S7 g2) rfl (v := Int32.ofNat (lnC v2)) (by first | rfl | decide) dX4_readList_21 ?_
      refine lv_icmp_ne (tgt := 31) hx hb dX4_readList_22 (by decide) (fun c10 => ?_) (fun c10 => ?_)
      · have h := inn h c10
        refine lv_aload_n hx hb dX4_readList_31 rfl (lv_at hl 1 rfl) ?_
        refine lv_iload_n hx hb dX4_readList_32 rfl (lv_at hl 3 rfl) ?_
        refine lv_aload_n hx hb dX4_readList_33 rfl (lv_at hl 0 rfl) ?_
        refine g_get C X inT4 3 (by decide) (eC_3 g ad S7) rfl 4 (by decide) wd_121 (v := .int (S7.1 3 4)) rfl dX4_readList_34 ?_
        obtain ⟨S11, qS11, h⟩ := bn1_s h
        refine kc_v X (res := S11) (rSN (As := [.ref (ad v2), .int v4, .int (S7.1 3 4)]) (rest := []) (n := 3) C X (c_X9_put l g ad S7 _ v2 v4 (S7.1 3 4) g2 qS11) nw_566 wd_387 wd_70 wd_388 rfl rfl (by decide +kernel) ⟨Nat.le_of_ble_eq_true rfl, Nat.le_of_ble_eq_true rfl⟩ rfl hl.1 (lv_room (Nat.le_of_ble_eq_true rfl)) dX4_readList_37) (fun H locs X => ?_)
        refine lv_aload_n hx hb dX4_readList_40 rfl (lv_at hl 0 rfl) ?_
        obtain ⟨S12, qS12, h⟩ := bn1_s h
        refine kc_v X (res := S12) (rV (As := []) (rest := []) (n := 0) (k := 3) C X (c_X4_take l g ad S11 _   qS12) wd_464 wd_466 wd_1 wd_72 wd_467 (by decide) (eC_3 g ad S11) rfl rfl rfl (by decide +kernel) ⟨Nat.le_of_ble_eq_true rfl, Nat.le_of_ble_eq_true rfl⟩ rfl hl.1 (lv_room (Nat.le_of_ble_eq_true rfl)) dX4_readList_41) (fun H locs X => ?_)
        refine lv_aload_n hx hb dX4_readList_44 rfl (lv_at hl 0 rfl) ?_
        refine lv_bipush (v := (44 : Int32)) hx hb dX4_readList_45 (by decide) ?_
        obtain ⟨r13, qr13, h⟩ := bn1_s h
        refine kc_i X (res := (r13, S12)) (rV (As := [.int ((44 : Int32))]) (rest := []) (n := 1) (k := 3) C X (c_X4_isSign l g ad S12 _ ((44 : Int32))  qr13) wd_567 wd_569 wd_8 wd_72 wd_570 (by decide) (eC_3 g ad S12) rfl rfl rfl (by decide +kernel) ⟨Nat.le_of_ble_eq_true rfl, Nat.le_of_ble_eq_true rfl⟩ rfl hl.1 (lv_room (Nat.le_of_ble_eq_true rfl)) dX4_readList_47) (fun H locs X => ?_)
        refine lv_if_ne (tgt := 56) hx hb dX4_readList_50 (by decide) (fun c14 => ?_) (fun c14 => ?_)
        · have h := inn h c14
          obtain ⟨x15, ex15, h⟩ := nm_s h
          refine lv_iinc (v := x15) (lv' := [(3, .int x15), (0, .ref (ad 3)), (1, .ref (ad v2)), (2, .int v3)]) hx hb dX4_readList_56 hl (k := 3) rfl (by rw [ex15]; rfl) (by decide) rfl (fun ls hl => ?_)
          refine lv_goto (tgt := 2) hx hb dX4_readList_59 (by decide) ?_
          exact hK2 h X (lv_sub hl [1, 2, 3, 0] rfl) g2
        · have h := ip h c14
          refine lv_goto (tgt := 62) hx hb dX4_readList_53 (by decide) ?_
          exact kb_X4_readList_62 C h X (lv_sub hl [0] rfl) 
      · have h := ip h c10
        refine lv_aload_n hx hb dX4_readList_25 rfl (lv_at hl 0 rfl) ?_
        refine lv_iconst (v := (4 : Int32)) hx hb dX4_readList_26 (by decide) ?_
        obtain ⟨r17, S16, qr17, h⟩ := bnd_s h
        refine kc_i X (res := (r17, S16)) (rV (As := [.int ((4 : Int32))]) (rest := []) (n := 1) (k := 3) C X (c_X4_fail l g ad S7 _ ((4 : Int32))  qr17) wd_547 wd_549 wd_4 wd_72 wd_550 (by decide) (eC_3 g ad S7) rfl rfl rfl (by decide +kernel) ⟨Nat.le_of_ble_eq_true rfl, Nat.le_of_ble_eq_true rfl⟩ rfl hl.1 (lv_room (Nat.le_of_ble_eq_true rfl)) dX4_readList_27) (fun H locs X => ?_)
        obtain ⟨k18, h⟩ := chk_s h
        exact rt_z C X rfl (zb_or k18) (Option.some.inj h) dX4_readList_30
    · have h := ip h c9
      refine lv_iconst (v := (0 : Int32)) hx hb dX4_readList_17 (by decide) ?_
      exact rt_z C X rfl (by decide) (Option.some.inj h) dX4_readList_18
set_option maxHeartbeats 4000000 in
set_option maxRecDepth 100000 in
theorem kl_X4_readList_2 {p : Program} {l : Launch} {e : Env} {s : State} {m : MethodId} {args : Array Value} {below : List Frame} {meth : Method} {c : Code} {g : GG} {ad : Nat → Nat} {res : (Int32 × ST)}  (C : CX kC g ad p s m args meth c cX4_readList (some Jvm.ClassFile.FieldType.boolean) 4 yX4_readList.cls (.code yX4_readList cX4_readList 4 (some Jvm.ClassFile.FieldType.boolean)))  : ∀ (n : Nat) {v2 : Nat} {v3 : Int32} {v4 : Int32} {S : ST} {H : Heap} {locs : List Loc} {ls : Array Slot}, (lp (fun _ _ _ _ => none) (b_X4_readList_2)) n v2 v3 v4 S = some res → WX kC g ad s S H locs → lv_has ls 4 [(0, .ref (ad 3)), (1, .ref (ad v2)), (2, .int v3), (3, .int v4)] → (iaC v2 = true) → W p l e rmX4_readList s m args below meth c H locs 0 0 (MQ below (QI kC g ad res (AA kC ad s.heap.size)) args s 0 0 (AA kC ad s.heap.size)) (F0 m 2 ls []) := by
  intro n
  induction n with
  | zero =>
    intro v2 v3 v4 S H locs ls h
    cases (show (none : Option (Int32 × ST)) = some res from h)
  | succ n ih =>
    intro v2 v3 v4 S H locs ls h X hl g2
    exact kb_X4_readList_2 C ih h X hl g2
set_option maxHeartbeats 4000000 in
set_option maxRecDepth 100000 in
theorem c_X4_readList (l : Launch) (g : GG) (ad : Nat → Nat) (S : ST) (sz : Nat) (a1 : Nat) (a2 : Int32) (f1 : iaC a1 = true) {res : (Int32 × ST)} (h : f_X4_readList a1 a2 S = some res) : Met l yX4_readList (WS (.code yX4_readList cX4_readList 4 (some Jvm.ClassFile.FieldType.boolean))) rmX4_readList (va_Pc [.ref (ad 3), .ref (ad a1), .int a2] (PW kC g ad S sz)) (QI kC g ad res (AA kC ad sz)) 0 0 (AA kC ad sz) := by
  refine go_m (Qc := fun A => QI kC g ad res A) (by decide) (Nat.le_of_ble_eq_true rfl) (fun p e s m below meth c ls H locs C X hl => ?_)
  have hx := C.1.1
  have hb := C.1.2.1
  have hl : lv_has ls 4 [(0, .ref (ad 3)), (1, .ref (ad a1)), (2, .int a2)] := hl
  have h : (lp (fun _ _ _ _ => none) (b_X4_readList_2) 1000 a1 a2 ((0 : Int32)) S : Option (Int32 × ST)) = some res := h
  refine lv_iconst (v := (0 : Int32)) hx hb dX4_readList_0 (by decide) ?_
  refine lv_istore_n (lv' := [(3, .int ((0 : Int32))), (0, .ref (ad 3)), (1, .ref (ad a1)), (2, .int a2)]) hx hb dX4_readList_1 rfl hl (by decide) rfl (fun ls hl => ?_)
  exact kl_X4_readList_2 C _ h X (lv_sub hl [1, 2, 3, 0] rfl) f1

def rmX4_readStones : Room := { frames := 3, cells := 0, slots := 0, locals := 65 }
def b_X4_readStones_70   (S : ST) : Option (Int32 × ST) :=
  bn1 (f_X4_isSign ((59 : Int32)) S) fun r2 => if r2 = 0 then (bnd (f_X4_fail ((1 : Int32)) S) fun r5 S4 => if r5 = 0 then (some ((0 : Int32), S4)) else (some ((1 : Int32), S4))) else (some ((1 : Int32), S))
def b_X4_readStones_2 (K2 : Int32 → ST → Option (Int32 × ST)) (v3 : Int32) (S : ST) : Option (Int32 × ST) :=
  if ((24 : Int32)) < v3 then (b_X4_readStones_70 S) else (bnd (f_X4_takeNumber ((0 : Int32)) (((24 : Int32)) - ((1 : Int32))) S) fun r8 S7 => if r8 = 0 then (some ((0 : Int32), S7)) else (bn1 (f_X9_at 12 (S7.1 3 4) S7) fun r10 => if r10 = 0 then (bn1 (f_X9_put 12 (S7.1 3 4) ((1 : Int32)) S7) fun S12 => bn1 (f_X4_take S12) fun S13 => bn1 (f_X4_isSign ((44 : Int32)) S13) fun r14 => if r14 = 0 then (b_X4_readStones_70 S13) else (nm (v3 + (1 : Int32)) fun x16 => K2 x16 S13)) else (bnd (f_X4_fail ((3 : Int32)) S7) fun r18 S17 => chk (zb r18) (some (r18, S17)))))
def f_X4_readStones  (S : ST) : Option (Int32 × ST) :=
  lp (fun _ _ => none) (b_X4_readStones_2) 1000 ((0 : Int32)) S
set_option maxHeartbeats 4000000 in
set_option maxRecDepth 100000 in
theorem kb_X4_readStones_70 {p : Program} {l : Launch} {e : Env} {s : State} {m : MethodId} {args : Array Value} {below : List Frame} {meth : Method} {c : Code} {g : GG} {ad : Nat → Nat} {res : (Int32 × ST)} {S : ST} (C : CX kC g ad p s m args meth c cX4_readStones (some Jvm.ClassFile.FieldType.boolean) 3 yX4_readStones.cls (.code yX4_readStones cX4_readStones 3 (some Jvm.ClassFile.FieldType.boolean)))    {H : Heap} {locs : List Loc} {ls : Array Slot} (h : b_X4_readStones_70 S = some res) (X : WX kC g ad s S H locs) (hl : lv_has ls 3 [(0, .ref (ad 3))])  : W p l e rmX4_readStones s m args below meth c H locs 0 0 (MQ below (QI kC g ad res (AA kC ad s.heap.size)) args s 0 0 (AA kC ad s.heap.size)) (F0 m 70 ls []) := by
  have hx := C.1.1
  have hb := C.1.2.1
  have h : (bn1 (f_X4_isSign ((59 : Int32)) S) fun r2 => if r2 = 0 then (bnd (f_X4_fail ((1 : Int32)) S) fun r5 S4 => if r5 = 0 then (some ((0 : Int32), S4)) else (some ((1 : Int32), S4))) else (some ((1 : Int32), S)) : Option (Int32 × ST)) = some res := h
  refine lv_aload_n hx hb dX4_readStones_70 rfl (lv_at hl 0 rfl) ?_
  refine lv_bipush (v := (59 : Int32)) hx hb dX4_readStones_71 (by decide) ?_
  obtain ⟨r2, qr2, h⟩ := bn1_s h
  refine kc_i X (res := (r2, S)) (rV (As := [.int ((59 : Int32))]) (rest := []) (n := 1) (k := 3) C X (c_X4_isSign l g ad S _ ((59 : Int32))  qr2) wd_567 wd_569 wd_8 wd_72 wd_570 (by decide) (eC_3 g ad S) rfl rfl rfl (by decide +kernel) ⟨Nat.le_of_ble_eq_true rfl, Nat.le_of_ble_eq_true rfl⟩ rfl hl.1 (lv_room (Nat.le_of_ble_eq_true rfl)) dX4_readStones_73) (fun H locs X => ?_)
  refine lv_if_ne (tgt := 87) hx hb dX4_readStones_76 (by decide) (fun c3 => ?_) (fun c3 => ?_)
  · have h := inn h c3
    refine lv_iconst (v := (1 : Int32)) hx hb dX4_readStones_87 (by decide) ?_
    refine lv_goto (tgt := 92) hx hb dX4_readStones_88 (by decide) ?_
    exact rt_z C X rfl (by decide) (Option.some.inj h) dX4_readStones_92
  · have h := ip h c3
    refine lv_aload_n hx hb dX4_readStones_79 rfl (lv_at hl 0 rfl) ?_
    refine lv_iconst (v := (1 : Int32)) hx hb dX4_readStones_80 (by decide) ?_
    obtain ⟨r5, S4, qr5, h⟩ := bnd_s h
    refine kc_i X (res := (r5, S4)) (rV (As := [.int ((1 : Int32))]) (rest := []) (n := 1) (k := 3) C X (c_X4_fail l g ad S _ ((1 : Int32))  qr5) wd_547 wd_549 wd_4 wd_72 wd_550 (by decide) (eC_3 g ad S) rfl rfl rfl (by decide +kernel) ⟨Nat.le_of_ble_eq_true rfl, Nat.le_of_ble_eq_true rfl⟩ rfl hl.1 (lv_room (Nat.le_of_ble_eq_true rfl)) dX4_readStones_81) (fun H locs X => ?_)
    refine lv_if_eq (tgt := 91) hx hb dX4_readStones_84 (by decide) (fun c6 => ?_) (fun c6 => ?_)
    · have h := ip h c6
      refine lv_iconst (v := (0 : Int32)) hx hb dX4_readStones_91 (by decide) ?_
      exact rt_z C X rfl (by decide) (Option.some.inj h) dX4_readStones_92
    · have h := inn h c6
      refine lv_iconst (v := (1 : Int32)) hx hb dX4_readStones_87 (by decide) ?_
      refine lv_goto (tgt := 92) hx hb dX4_readStones_88 (by decide) ?_
      exact rt_z C X rfl (by decide) (Option.some.inj h) dX4_readStones_92
set_option maxHeartbeats 4000000 in
set_option maxRecDepth 100000 in
theorem kb_X4_readStones_2 {p : Program} {l : Launch} {e : Env} {s : State} {m : MethodId} {args : Array Value} {below : List Frame} {meth : Method} {c : Code} {g : GG} {ad : Nat → Nat} {res : (Int32 × ST)} {S : ST} (C : CX kC g ad p s m args meth c cX4_readStones (some Jvm.ClassFile.FieldType.boolean) 3 yX4_readStones.cls (.code yX4_readStones cX4_readStones 3 (some Jvm.ClassFile.FieldType.boolean))) {K2 : Int32 → ST → Option (Int32 × ST)} (hK2 : ∀ {v3 : Int32} {S : ST} {H : Heap} {locs : List Loc} {ls : Array Slot}, K2 v3 S = some res → WX kC g ad s S H locs → lv_has ls 3 [(0, .ref (ad 3)), (1, .ref (ad 12)), (2, .int v3)] → W p l e rmX4_readStones s m args below meth c H locs 0 0 (MQ below (QI kC g ad res (AA kC ad s.heap.size)) args s 0 0 (AA kC ad s.heap.size)) (F0 m 2 ls [])) {v3 : Int32}  {H : Heap} {locs : List Loc} {ls : Array Slot} (h : b_X4_readStones_2 K2 v3 S = some res) (X : WX kC g ad s S H locs) (hl : lv_has ls 3 [(0, .ref (ad 3)), (1, .ref (ad 12)), (2, .int v3)])  : W p l e rmX4_readStones s m args below meth c H locs 0 0 (MQ below (QI kC g ad res (AA kC ad s.heap.size)) args s 0 0 (AA kC ad s.heap.size)) (F0 m 2 ls []) := by
  have hx := C.1.1
  have hb := C.1.2.1
  have h : (if ((24 : Int32)) < v3 then (b_X4_readStones_70 S) else (bnd (f_X4_takeNumber ((0 : Int32)) (((24 : Int32)) - ((1 : Int32))) S) fun r8 S7 => if r8 = 0 then (some ((0 : Int32), S7)) else (bn1 (f_X9_at 12 (S7.1 3 4) S7) fun r10 => if r10 = 0 then (bn1 (f_X9_put 12 (S7.1 3 4) ((1 : Int32)) S7) fun S12 => bn1 (f_X4_take S12) fun S13 => bn1 (f_X4_isSign ((44 : Int32)) S13) fun r14 => if r14 = 0 then (b_X4_readStones_70 S13) else (nm (v3 + (1 : Int32)) fun x16 => K2 x16 S13)) else (bnd (f_X4_fail ((3 : Int32)) S7) fun r18 S17 => chk (zb r18) (some (r18, S17))))) : Option (Int32 × ST)) = some res := h
  refine lv_iload_n hx hb dX4_readStones_2 rfl (lv_at hl 2 rfl) ?_
  refine lv_aload_n hx hb dX4_readStones_3 rfl (lv_at hl 1 rfl) ?_
  refine g_alen C X 12 0 (by decide) (eC_12 g ad S) rfl (v := (24 : Int32)) (by first | rfl | decide) dX4_readStones_4 ?_
  refine lv_icmp_gt (tgt := 70) hx hb dX4_readStones_5 (by decide) (fun c1 => ?_) (fun c1 => ?_)
  · have h := ip h c1
    exact kb_X4_readStones_70 C h X (lv_sub hl [0] rfl) 
  · have h := inn h c1
    refine lv_aload_n hx hb dX4_readStones_8 rfl (lv_at hl 0 rfl) ?_
    refine lv_iconst (v := (0 : Int32)) hx hb dX4_readStones_9 (by decide) ?_
    refine lv_aload_n hx hb dX4_readStones_10 rfl (lv_at hl 1 rfl) ?_
    refine g_alen C X 12 0 (by decide) (eC_12 g ad S) rfl (v := (24 : Int32)) (by first | rfl | decide) dX4_readStones_11 ?_
    refine lv_iconst (v := (1 : Int32)) hx hb dX4_readStones_12 (by decide) ?_
    refine lv_isub hx hb dX4_readStones_13 ?_
    obtain ⟨r8, S7, qr8, h⟩ := bnd_s h
    refine kc_i X (res := (r8, S7)) (rV (As := [.int ((0 : Int32)), .int (((24 : Int32)) - ((1 : Int32)))]) (rest := []) (n := 2) (k := 3) C X (c_X4_takeNumber l g ad S _ ((0 : Int32)) (((24 : Int32)) - ((1 : Int32)))  qr8) wd_559 wd_561 wd_7 wd_72 wd_562 (by decide) (eC_3 g ad S) rfl rfl rfl (by decide +kernel) ⟨Nat.le_of_ble_eq_true rfl, Nat.le_of_ble_eq_true rfl⟩ rfl hl.1 (lv_room (Nat.le_of_ble_eq_true rfl)) dX4_readStones_14) (fun H locs X => ?_)
    refine lv_if_ne (tgt := 22) hx hb dX4_readStones_17 (by decide) (fun c9 => ?_) (fun c9 => ?_)
    · have h := inn h c9
      refine lv_aload_n hx hb dX4_readStones_22 rfl (lv_at hl 1 rfl) ?_
      refine lv_aload_n hx hb dX4_readStones_23 rfl (lv_at hl 0 rfl) ?_
      refine g_get C X inT4 3 (by decide) (eC_3 g ad S7) rfl 4 (by decide) wd_121 (v := .int (S7.1 3 4)) rfl dX4_readStones_24 ?_
      obtain ⟨r10, qr10, h⟩ := bn1_s h
      refine kc_i X (res := (r10, S7)) (rSN (As := [.ref (ad 12), .int (S7.1 3 4)]) (rest := []) (n := 2) C X (c_X9_at l g ad S7 _ 12 (S7.1 3 4) (by decide) qr10) nw_575 wd_576 wd_70 wd_577 rfl rfl (by decide +kernel) ⟨Nat.le_of_ble_eq_true rfl, Nat.le_of_ble_eq_true rfl⟩ rfl hl.1 (lv_room (Nat.le_of_ble_eq_true rfl)) dX4_readStones_27) (fun H locs X => ?_)
      refine lv_if_eq (tgt := 39) hx hb dX4_readStones_30 (by decide) (fun c11 => ?_) (fun c11 => ?_)
      · have h := ip h c11
        refine lv_aload_n hx hb dX4_readStones_39 rfl (lv_at hl 1 rfl) ?_
        refine lv_aload_n hx hb dX4_readStones_40 rfl (lv_at hl 0 rfl) ?_
        refine g_get C X inT4 3 (by decide) (eC_3 g ad S7) rfl 4 (by decide) wd_121 (v := .int (S7.1 3 4)) rfl dX4_readStones_41 ?_
        refine lv_iconst (v := (1 : Int32)) hx hb dX4_readStones_44 (by decide) ?_
        obtain ⟨S12, qS12, h⟩ := bn1_s h
        refine kc_v X (res := S12) (rSN (As := [.ref (ad 12), .int (S7.1 3 4), .int ((1 : Int32))]) (rest := []) (n := 3) C X (c_X9_put l g ad S7 _ 12 (S7.1 3 4) ((1 : Int32)) (by decide) qS12) nw_566 wd_387 wd_70 wd_388 rfl rfl (by decide +kernel) ⟨Nat.le_of_ble_eq_true rfl, Nat.le_of_ble_eq_true rfl⟩ rfl hl.1 (lv_room (Nat.le_of_ble_eq_true rfl)) dX4_readStones_45) (fun H locs X => ?_)
        refine lv_aload_n hx hb dX4_readStones_48 rfl (lv_at hl 0 rfl) ?_
        obtain ⟨S13, qS13, h⟩ := bn1_s h
        refine kc_v X (res := S13) (rV (As := []) (rest := []) (n := 0) (k := 3) C X (c_X4_take l g ad S12 _   qS13) wd_464 wd_466 wd_1 wd_72 wd_467 (by decide) (eC_3 g ad S12) rfl rfl rfl (by decide +kernel) ⟨Nat.le_of_ble_eq_true rfl, Nat.le_of_ble_eq_true rfl⟩ rfl hl.1 (lv_room (Nat.le_of_ble_eq_true rfl)) dX4_readStones_49) (fun H locs X => ?_)
        refine lv_aload_n hx hb dX4_readStones_52 rfl (lv_at hl 0 rfl) ?_
        refine lv_bipush (v := (44 : Int32)) hx hb dX4_readStones_53 (by decide) ?_
        obtain ⟨r14, qr14, h⟩ := bn1_s h
        refine kc_i X (res := (r14, S13)) (rV (As := [.int ((44 : Int32))]) (rest := []) (n := 1) (k := 3) C X (c_X4_isSign l g ad S13 _ ((44 : Int32))  qr14) wd_567 wd_569 wd_8 wd_72 wd_570 (by decide) (eC_3 g ad S13) rfl rfl rfl (by decide +kernel) ⟨Nat.le_of_ble_eq_true rfl, Nat.le_of_ble_eq_true rfl⟩ rfl hl.1 (lv_room (Nat.le_of_ble_eq_true rfl)) dX4_readStones_55) (fun H locs X => ?_)
        refine lv_if_ne (tgt := 64) hx hb dX4_readStones_58 (by decide) (fun c15 => ?_) (fun c15 => ?_)
        · have h := inn h c15
          obtain ⟨x16, ex16, h⟩ := nm_s h
          refine lv_iinc (v := x16) (lv' := [(2, .int x16), (0, .ref (ad 3)), (1, .ref (ad 12))]) hx hb dX4_readStones_64 hl (k := 2) rfl (by rw [ex16]; rfl) (by decide) rfl (fun ls hl => ?_)
          refine lv_goto (tgt := 2) hx hb dX4_readStones_67 (by decide) ?_
          exact hK2 h X (lv_sub hl [1, 2, 0] rfl) 
        · have h := ip h c15
          refine lv_goto (tgt := 70) hx hb dX4_readStones_61 (by decide) ?_
          exact kb_X4_readStones_70 C h X (lv_sub hl [0] rfl) 
      · have h := inn h c11
        refine lv_aload_n hx hb dX4_readStones_33 rfl (lv_at hl 0 rfl) ?_
        refine lv_iconst (v := (3 : Int32)) hx hb dX4_readStones_34 (by decide) ?_
        obtain ⟨r18, S17, qr18, h⟩ := bnd_s h
        refine kc_i X (res := (r18, S17)) (rV (As := [.int ((3 : Int32))]) (rest := []) (n := 1) (k := 3) C X (c_X4_fail l g ad S7 _ ((3 : Int32))  qr18) wd_547 wd_549 wd_4 wd_72 wd_550 (by decide) (eC_3 g ad S7) rfl rfl rfl (by decide +kernel) ⟨Nat.le_of_ble_eq_true rfl, Nat.le_of_ble_eq_true rfl⟩ rfl hl.1 (lv_room (Nat.le_of_ble_eq_true rfl)) dX4_readStones_35) (fun H locs X => ?_)
        obtain ⟨k19, h⟩ := chk_s h
        exact rt_z C X rfl (zb_or k19) (Option.some.inj h) dX4_readStones_38
    · have h := ip h c9
      refine lv_iconst (v := (0 : Int32)) hx hb dX4_readStones_20 (by decide) ?_
      exact rt_z C X rfl (by decide) (Option.some.inj h) dX4_readStones_21
set_option maxHeartbeats 4000000 in
set_option maxRecDepth 100000 in
theorem kl_X4_readStones_2 {p : Program} {l : Launch} {e : Env} {s : State} {m : MethodId} {args : Array Value} {below : List Frame} {meth : Method} {c : Code} {g : GG} {ad : Nat → Nat} {res : (Int32 × ST)}  (C : CX kC g ad p s m args meth c cX4_readStones (some Jvm.ClassFile.FieldType.boolean) 3 yX4_readStones.cls (.code yX4_readStones cX4_readStones 3 (some Jvm.ClassFile.FieldType.boolean)))  : ∀ (n : Nat) {v3 : Int32} {S : ST} {H : Heap} {locs : List Loc} {ls : Array Slot}, (lp (fun _ _ => none) (b_X4_readStones_2)) n v3 S = some res → WX kC g ad s S H locs → lv_has ls 3 [(0, .ref (ad 3)), (1, .ref (ad 12)), (2, .int v3)] → W p l e rmX4_readStones s m args below meth c H locs 0 0 (MQ below (QI kC g ad res (AA kC ad s.heap.size)) args s 0 0 (AA kC ad s.heap.size)) (F0 m 2 ls []) := by
  intro n
  induction n with
  | zero =>
    intro v3 S H locs ls h
    cases (show (none : Option (Int32 × ST)) = some res from h)
  | succ n ih =>
    intro v3 S H locs ls h X hl 
    exact kb_X4_readStones_2 C ih h X hl 
set_option maxHeartbeats 4000000 in
set_option maxRecDepth 100000 in
theorem c_X4_readStones (l : Launch) (g : GG) (ad : Nat → Nat) (S : ST) (sz : Nat)   {res : (Int32 × ST)} (h : f_X4_readStones S = some res) : Met l yX4_readStones (WS (.code yX4_readStones cX4_readStones 3 (some Jvm.ClassFile.FieldType.boolean))) rmX4_readStones (va_Pc [.ref (ad 3), .ref (ad 12)] (PW kC g ad S sz)) (QI kC g ad res (AA kC ad sz)) 0 0 (AA kC ad sz) := by
  refine go_m (Qc := fun A => QI kC g ad res A) (by decide) (Nat.le_of_ble_eq_true rfl) (fun p e s m below meth c ls H locs C X hl => ?_)
  have hx := C.1.1
  have hb := C.1.2.1
  have hl : lv_has ls 3 [(0, .ref (ad 3)), (1, .ref (ad 12))] := hl
  have h : (lp (fun _ _ => none) (b_X4_readStones_2) 1000 ((0 : Int32)) S : Option (Int32 × ST)) = some res := h
  refine lv_iconst (v := (0 : Int32)) hx hb dX4_readStones_0 (by decide) ?_
  refine lv_istore_n (lv' := [(2, .int ((0 : Int32))), (0, .ref (ad 3)), (1, .ref (ad 12))]) hx hb dX4_readStones_1 rfl hl (by decide) rfl (fun ls hl => ?_)
  exact kl_X4_readStones_2 C _ h X (lv_sub hl [1, 2, 0] rfl) 

def rmX4_readNumbers : Room := { frames := 3, cells := 0, slots := 0, locals := 65 }
def b_X4_readNumbers_3 (K3 : Int32 → Int32 → Int32 → ST → Option (Int32 × ST)) (v2 : Int32) (v3 : Int32) (v5 : Int32) (S : ST) : Option (Int32 × ST) :=
  if (v2 + v3) ≤ v5 then (bn1 (f_X4_take S) fun S2 => bn1 (f_X4_isSign ((59 : Int32)) S2) fun r3 => if r3 = 0 then (bnd (f_X4_fail ((1 : Int32)) S2) fun r6 S5 => if r6 = 0 then (some ((0 : Int32), S5)) else (some ((1 : Int32), S5))) else (some ((1 : Int32), S2))) else (bn1 (f_X9_ats 3 v5) fun r8 => bn1 (f_X9_ats 4 v5) fun r9 => bnd (f_X4_takeNumber r8 r9 S) fun r11 S10 => if r11 = 0 then (some ((0 : Int32), S10)) else (bn1 (f_X9_put 10 v5 (S10.1 3 4) S10) fun S13 => nm (v5 + (1 : Int32)) fun x14 => K3 v2 v3 x14 S13))
def f_X4_readNumbers (a1 : Int32) (a2 : Int32) (S : ST) : Option (Int32 × ST) :=
  lp (fun _ _ _ _ => none) (b_X4_readNumbers_3) 1000 a1 a2 a1 S
set_option maxHeartbeats 4000000 in
set_option maxRecDepth 100000 in
theorem kb_X4_readNumbers_3 {p : Program} {l : Launch} {e : Env} {s : State} {m : MethodId} {args : Array Value} {below : List Frame} {meth : Method} {c : Code} {g : GG} {ad : Nat → Nat} {res : (Int32 × ST)} {S : ST} (C : CX kC g ad p s m args meth c cX4_readNumbers (some Jvm.ClassFile.FieldType.boolean) 5 yX4_readNumbers.cls (.code yX4_readNumbers cX4_readNumbers 5 (some Jvm.ClassFile.FieldType.boolean))) {K3 : Int32 → Int32 → Int32 → ST → Option (Int32 × ST)} (hK3 : ∀ {v2 : Int32} {v3 : Int32} {v5 : Int32} {S : ST} {H : Heap} {locs : List Loc} {ls : Array Slot}, K3 v2 v3 v5 S = some res → WX kC g ad s S H locs → lv_has ls 5 [(0, .ref (ad 3)), (1, .int v2), (2, .int v3), (3, .ref (ad 10)), (4, .int v5)] → W p l e rmX4_readNumbers s m args below meth c H locs 0 0 (MQ below (QI kC g ad res (AA kC ad s.heap.size)) args s 0 0 (AA kC ad s.heap.size)) (F0 m 3 ls [])) {v2 : Int32} {v3 : Int32} {v5 : Int32}  {H : Heap} {locs : List Loc} {ls : Array Slot} (h : b_X4_readNumbers_3 K3 v2 v3 v5 S = some res) (X : WX kC g ad s S H locs) (hl : lv_has ls 5 [(0, .ref (ad 3)), (1, .int v2), (2, .int v3), (3, .ref (ad 10)), (4, .int v5)])  : W p l e rmX4_readNumbers s m args below meth c H locs 0 0 (MQ below (QI kC g ad res (AA kC ad s.heap.size)) args s 0 0 (AA kC ad s.heap.size)) (F0 m 3 ls []) := by
  have hx := C.1.1
  have hb := C.1.2.1
  have h : (if (v2 + v3) ≤ v5 then (bn1 (f_X4_take S) fun S2 => bn1 (f_X4_isSign ((59 : Int32)) S2) fun r3 => if r3 = 0 then (bnd (f_X4_fail ((1 : Int32)) S2) fun r6 S5 => if r6 = 0 then (some ((0 : Int32), S5)) else (some ((1 : Int32), S5))) else (some ((1 : Int32), S2))) else (bn1 (f_X9_ats 3 v5) fun r8 => bn1 (f_X9_ats 4 v5) fun r9 => bnd (f_X4_takeNumber r8 r9 S) fun r11 S10 => if r11 = 0 then (some ((0 : Int32), S10)) else (bn1 (f_X9_put 10 v5 (S10.1 3 4) S10) fun S13 => nm (v5 + (1 : Int32)) fun x14 => K3 v2 v3 x14 S13)) : Option (Int32 × ST)) = some res := h
  refine lv_iload hx hb dX4_readNumbers_3 (lv_at hl 4 rfl) ?_
  refine lv_iload_n hx hb dX4_readNumbers_5 rfl (lv_at hl 1 rfl) ?_
  refine lv_iload_n hx hb dX4_readNumbers_6 rfl (lv_at hl 2 rfl) ?_
  refine lv_iadd hx hb dX4_readNumbers_7 ?_
  refine lv_icmp_ge (tgt := 52) hx hb dX4_readNumbers_8 (by decide) (fun c1 => ?_) (fun c1 => ?_)
  · have h := ip h c1
    refine lv_aload_n hx hb dX4_readNumbers_52 rfl (lv_at hl 0 rfl) ?_
    obtain ⟨S2, qS2, h⟩ := bn1_s h
    refine kc_v X (res := S2) (rV (As := []) (rest := []) (n := 0) (k := 3) C X (c_X4_take l g ad S _   qS2) wd_464 wd_466 wd_1 wd_72 wd_467 (by decide) (eC_3 g ad S) rfl rfl rfl (by decide +kernel) ⟨Nat.le_of_ble_eq_true rfl, Nat.le_of_ble_eq_true rfl⟩ rfl hl.1 (lv_room (Nat.le_of_ble_eq_true rfl)) dX4_readNumbers_53) (fun H locs X => ?_)
    refine lv_aload_n hx hb dX4_readNumbers_56 rfl (lv_at hl 0 rfl) ?_
    refine lv_bipush (v := (59 : Int32)) hx hb dX4_readNumbers_57 (by decide) ?_
    obtain ⟨r3, qr3, h⟩ := bn1_s h
    refine kc_i X (res := (r3, S2)) (rV (As := [.int ((59 : Int32))]) (rest := []) (n := 1) (k := 3) C X (c_X4_isSign l g ad S2 _ ((59 : Int32))  qr3) wd_567 wd_569 wd_8 wd_72 wd_570 (by decide) (eC_3 g ad S2) rfl rfl rfl (by decide +kernel) ⟨Nat.le_of_ble_eq_true rfl, Nat.le_of_ble_eq_true rfl⟩ rfl hl.1 (lv_room (Nat.le_of_ble_eq_true rfl)) dX4_readNumbers_59) (fun H locs X => ?_)
    refine lv_if_ne (tgt := 73) hx hb dX4_readNumbers_62 (by decide) (fun c4 => ?_) (fun c4 => ?_)
    · have h := inn h c4
      refine lv_iconst (v := (1 : Int32)) hx hb dX4_readNumbers_73 (by decide) ?_
      refine lv_goto (tgt := 78) hx hb dX4_readNumbers_74 (by decide) ?_
      exact rt_z C X rfl (by decide) (Option.some.inj h) dX4_readNumbers_78
    · have h := ip h c4
      refine lv_aload_n hx hb dX4_readNumbers_65 rfl (lv_at hl 0 rfl) ?_
      refine lv_iconst (v := (1 : Int32)) hx hb dX4_readNumbers_66 (by decide) ?_
      obtain ⟨r6, S5, qr6, h⟩ := bnd_s h
      refine kc_i X (res := (r6, S5)) (rV (As := [.int ((1 : Int32))]) (rest := []) (n := 1) (k := 3) C X (c_X4_fail l g ad S2 _ ((1 : Int32))  qr6) wd_547 wd_549 wd_4 wd_72 wd_550 (by decide) (eC_3 g ad S2) rfl rfl rfl (by decide +kernel) ⟨Nat.le_of_ble_eq_true rfl, Nat.le_of_ble_eq_true rfl⟩ rfl hl.1 (lv_room (Nat.le_of_ble_eq_true rfl)) dX4_readNumbers_67) (fun H locs X => ?_)
      refine lv_if_eq (tgt := 77) hx hb dX4_readNumbers_70 (by decide) (fun c7 => ?_) (fun c7 => ?_)
      · have h := ip h c7
        refine lv_iconst (v := (0 : Int32)) hx hb dX4_readNumbers_77 (by decide) ?_
        exact rt_z C X rfl (by decide) (Option.some.inj h) dX4_readNumbers_78
      · have h := inn h c7
        refine lv_iconst (v := (1 : Int32)) hx hb dX4_readNumbers_73 (by decide) ?_
        refine lv_goto (tgt := 78) hx hb dX4_readNumbers_74 (by decide) ?_
        exact rt_z C X rfl (by decide) (Option.some.inj h) dX4_readNumbers_78
  · have h := inn h c1
    refine lv_aload_n hx hb dX4_readNumbers_11 rfl (lv_at hl 0 rfl) ?_
    refine g_gets C X 3 rfl wd_586 dX4_readNumbers_12 ?_
    refine lv_iload hx hb dX4_readNumbers_15 (lv_at hl 4 rfl) ?_
    obtain ⟨r8, qr8, h⟩ := bn1_s h
    refine kc_i X (res := (r8, S)) (rSN (As := [.ref (g.2.2.1 3), .int v5]) (rest := [.ref (ad 3)]) (n := 2) C X (c_X9_ats l g ad S _ 3 v5 (by decide) qr8) nw_575 wd_576 wd_70 wd_577 rfl rfl (by decide +kernel) ⟨Nat.le_of_ble_eq_true rfl, Nat.le_of_ble_eq_true rfl⟩ rfl hl.1 (lv_room (Nat.le_of_ble_eq_true rfl)) dX4_readNumbers_17) (fun H locs X => ?_)
    refine g_gets C X 4 rfl wd_588 dX4_readNumbers_20 ?_
    refine lv_iload hx hb dX4_readNumbers_23 (lv_at hl 4 rfl) ?_
    obtain ⟨r9, qr9, h⟩ := bn1_s h
    refine kc_i X (res := (r9, S)) (rSN (As := [.ref (g.2.2.1 4), .int v5]) (rest := [.int r8, .ref (ad 3)]) (n := 2) C X (c_X9_ats l g ad S _ 4 v5 (by decide) qr9) nw_575 wd_576 wd_70 wd_577 rfl rfl (by decide +kernel) ⟨Nat.le_of_ble_eq_true rfl, Nat.le_of_ble_eq_true rfl⟩ rfl hl.1 (lv_room (Nat.le_of_ble_eq_true rfl)) dX4_readNumbers_25) (fun H locs X => ?_)
    obtain ⟨r11, S10, qr11, h⟩ := bnd_s h
    refine kc_i X (res := (r11, S10)) (rV (As := [.int r8, .int r9]) (rest := []) (n := 2) (k := 3) C X (c_X4_takeNumber l g ad S _ r8 r9  qr11) wd_559 wd_561 wd_7 wd_72 wd_562 (by decide) (eC_3 g ad S) rfl rfl rfl (by decide +kernel) ⟨Nat.le_of_ble_eq_true rfl, Nat.le_of_ble_eq_true rfl⟩ rfl hl.1 (lv_room (Nat.le_of_ble_eq_true rfl)) dX4_readNumbers_28) (fun H locs X => ?_)
    refine lv_if_ne (tgt := 36) hx hb dX4_readNumbers_31 (by decide) (fun c12 => ?_) (fun c12 => ?_)
    · have h := inn h c12
      refine lv_aload_n hx hb dX4_readNumbers_36 rfl (lv_at hl 3 rfl) ?_
      refine lv_iload hx hb dX4_readNumbers_37 (lv_at hl 4 rfl) ?_
      refine lv_aload_n hx hb dX4_readNumbers_39 rfl (lv_at hl 0 rfl) ?_
      refine g_get C X inT4 3 (by decide) (eC_3 g ad S10) rfl 4 (by decide) wd_121 (v := .int (S10.1 3 4)) rfl dX4_readNumbers_40 ?_
      obtain ⟨S13, qS13, h⟩ := bn1_s h
      refine kc_v X (res := S13) (rSN (As := [.ref (ad 10), .int v5, .int (S10.1 3 4)]) (rest := []) (n := 3) C X (c_X9_put l g ad S10 _ 10 v5 (S10.1 3 4) (by decide) qS13) nw_566 wd_387 wd_70 wd_388 rfl rfl (by decide +kernel) ⟨Nat.le_of_ble_eq_true rfl, Nat.le_of_ble_eq_true rfl⟩ rfl hl.1 (lv_room (Nat.le_of_ble_eq_true rfl)) dX4_readNumbers_43) (fun H locs X => ?_)
      obtain ⟨x14, ex14, h⟩ := nm_s h
      refine lv_iinc (v := x14) (lv' := [(4, .int x14), (0, .ref (ad 3)), (1, .int v2), (2, .int v3), (3, .ref (ad 10))]) hx hb dX4_readNumbers_46 hl (k := 4) rfl (by rw [ex14]; rfl) (by decide) rfl (fun ls hl => ?_)
      refine lv_goto (tgt := 3) hx hb dX4_readNumbers_49 (by decide) ?_
      exact hK3 h X (lv_sub hl [1, 2, 3, 4, 0] rfl) 
    · have h := ip h c12
      refine lv_iconst (v := (0 : Int32)) hx hb dX4_readNumbers_34 (by decide) ?_
      exact rt_z C X rfl (by decide) (Option.some.inj h) dX4_readNumbers_35
set_option maxHeartbeats 4000000 in
set_option maxRecDepth 100000 in
theorem kl_X4_readNumbers_3 {p : Program} {l : Launch} {e : Env} {s : State} {m : MethodId} {args : Array Value} {below : List Frame} {meth : Method} {c : Code} {g : GG} {ad : Nat → Nat} {res : (Int32 × ST)}  (C : CX kC g ad p s m args meth c cX4_readNumbers (some Jvm.ClassFile.FieldType.boolean) 5 yX4_readNumbers.cls (.code yX4_readNumbers cX4_readNumbers 5 (some Jvm.ClassFile.FieldType.boolean)))  : ∀ (n : Nat) {v2 : Int32} {v3 : Int32} {v5 : Int32} {S : ST} {H : Heap} {locs : List Loc} {ls : Array Slot}, (lp (fun _ _ _ _ => none) (b_X4_readNumbers_3)) n v2 v3 v5 S = some res → WX kC g ad s S H locs → lv_has ls 5 [(0, .ref (ad 3)), (1, .int v2), (2, .int v3), (3, .ref (ad 10)), (4, .int v5)] → W p l e rmX4_readNumbers s m args below meth c H locs 0 0 (MQ below (QI kC g ad res (AA kC ad s.heap.size)) args s 0 0 (AA kC ad s.heap.size)) (F0 m 3 ls []) := by
  intro n
  induction n with
  | zero =>
    intro v2 v3 v5 S H locs ls h
    cases (show (none : Option (Int32 × ST)) = some res from h)
  | succ n ih =>
    intro v2 v3 v5 S H locs ls h X hl 
    exact kb_X4_readNumbers_3 C ih h X hl 
set_option maxHeartbeats 4000000 in
set_option maxRecDepth 100000 in
theorem c_X4_readNumbers (l : Launch) (g : GG) (ad : Nat → Nat) (S : ST) (sz : Nat) (a1 : Int32) (a2 : Int32)  {res : (Int32 × ST)} (h : f_X4_readNumbers a1 a2 S = some res) : Met l yX4_readNumbers (WS (.code yX4_readNumbers cX4_readNumbers 5 (some Jvm.ClassFile.FieldType.boolean))) rmX4_readNumbers (va_Pc [.ref (ad 3), .int a1, .int a2, .ref (ad 10)] (PW kC g ad S sz)) (QI kC g ad res (AA kC ad sz)) 0 0 (AA kC ad sz) := by
  refine go_m (Qc := fun A => QI kC g ad res A) (by decide) (Nat.le_of_ble_eq_true rfl) (fun p e s m below meth c ls H locs C X hl => ?_)
  have hx := C.1.1
  have hb := C.1.2.1
  have hl : lv_has ls 5 [(0, .ref (ad 3)), (1, .int a1), (2, .int a2), (3, .ref (ad 10))] := hl
  have h : (lp (fun _ _ _ _ => none) (b_X4_readNumbers_3) 1000 a1 a2 a1 S : Option (Int32 × ST)) = some res := h
  refine lv_iload_n hx hb dX4_readNumbers_0 rfl (lv_at hl 1 rfl) ?_
  refine lv_istore (lv' := [(4, .int a1), (0, .ref (ad 3)), (1, .int a1), (2, .int a2), (3, .ref (ad 10))]) hx hb dX4_readNumbers_1 hl (by decide) rfl (fun ls hl => ?_)
  exact kl_X4_readNumbers_3 C _ h X (lv_sub hl [1, 2, 3, 4, 0] rfl) 

def rmX4_readClause : Room := { frames := 4, cells := 0, slots := 0, locals := 89 }
def f_X4_readClause (a1 : Int32) (S : ST) : Option (Int32 × ST) :=
  if a1 = (6 : Int32) then (bnd (f_X4_readList 11 ((600 : Int32)) S) fun r3 S2 => chk (zb r3) (some (r3, S2))) else (if a1 = (7 : Int32) then (bnd (f_X4_readStones S) fun r7 S6 => chk (zb r7) (some (r7, S6))) else (if a1 = (8 : Int32) then (bnd (f_X4_readList 13 ((300 : Int32)) S) fun r11 S10 => chk (zb r11) (some (r11, S10))) else (bn1 (f_X9_ats 1 a1) fun r13 => bn1 (f_X9_ats 2 a1) fun r14 => bnd (f_X4_readNumbers r13 r14 S) fun r16 S15 => chk (zb r16) (some (r16, S15)))))
set_option maxHeartbeats 4000000 in
set_option maxRecDepth 100000 in
theorem c_X4_readClause (l : Launch) (g : GG) (ad : Nat → Nat) (S : ST) (sz : Nat) (a1 : Int32)  {res : (Int32 × ST)} (h : f_X4_readClause a1 S = some res) : Met l yX4_readClause (WS (.code yX4_readClause cX4_readClause 3 (some Jvm.ClassFile.FieldType.boolean))) rmX4_readClause (va_Pc [.ref (ad 3), .int a1, .ref (ad 9)] (PW kC g ad S sz)) (QI kC g ad res (AA kC ad sz)) 0 0 (AA kC ad sz) := by
  refine go_m (Qc := fun A => QI kC g ad res A) (by decide) (Nat.le_of_ble_eq_true rfl) (fun p e s m below meth c ls H locs C X hl => ?_)
  have hx := C.1.1
  have hb := C.1.2.1
  have hl : lv_has ls 3 [(0, .ref (ad 3)), (1, .int a1), (2, .ref (ad 9))] := hl
  have h : (if a1 = (6 : Int32) then (bnd (f_X4_readList 11 ((600 : Int32)) S) fun r3 S2 => chk (zb r3) (some (r3, S2))) else (if a1 = (7 : Int32) then (bnd (f_X4_readStones S) fun r7 S6 => chk (zb r7) (some (r7, S6))) else (if a1 = (8 : Int32) then (bnd (f_X4_readList 13 ((300 : Int32)) S) fun r11 S10 => chk (zb r11) (some (r11, S10))) else (bn1 (f_X9_ats 1 a1) fun r13 => bn1 (f_X9_ats 2 a1) fun r14 => bnd (f_X4_readNumbers r13 r14 S) fun r16 S15 => chk (zb r16) (some (r16, S15))))) : Option (Int32 × ST)) = some res := h
  refine lv_iload_n hx hb dX4_readClause_0 rfl (lv_at hl 1 rfl) ?_
  by_cases t1 : a1 = (6 : Int32)
  · have h := ip h t1
    refine lv_tableIn (tgt := 28) (off := 27) hx hb dX4_readClause_1 (by rw [t1]; decide) (by rw [t1]; decide) (by rw [t1]; rfl) (by decide) ?_
    refine lv_aload_n hx hb dX4_readClause_28 rfl (lv_at hl 0 rfl) ?_
    refine lv_aload_n hx hb dX4_readClause_29 rfl (lv_at hl 2 rfl) ?_
    refine g_getN C X inT3 9 (by decide) (eC_9 g ad S) rfl 1 (by decide) nw_166 (v := .ref (ad 11)) rfl dX4_readClause_30 ?_
    refine lv_sipush (v := (600 : Int32)) hx hb dX4_readClause_33 (by decide) ?_
    obtain ⟨r3, S2, qr3, h⟩ := bnd_s h
    refine kc_i X (res := (r3, S2)) (rV (As := [.ref (ad 11), .int ((600 : Int32))]) (rest := []) (n := 2) (k := 3) C X (c_X4_readList l g ad S _ 11 ((600 : Int32)) (by decide) qr3) wd_555 wd_557 wd_6 wd_72 wd_558 (by decide) (eC_3 g ad S) rfl rfl rfl (by decide +kernel) ⟨Nat.le_of_ble_eq_true rfl, Nat.le_of_ble_eq_true rfl⟩ rfl hl.1 (lv_room (Nat.le_of_ble_eq_true rfl)) dX4_readClause_36) (fun H locs X => ?_)
    obtain ⟨k4, h⟩ := chk_s h
    exact rt_z C X rfl (zb_or k4) (Option.some.inj h) dX4_readClause_39
  have h := inn h t1
  by_cases t5 : a1 = (7 : Int32)
  · have h := ip h t5
    refine lv_tableIn (tgt := 40) (off := 39) hx hb dX4_readClause_1 (by rw [t5]; decide) (by rw [t5]; decide) (by rw [t5]; rfl) (by decide) ?_
    refine lv_aload_n hx hb dX4_readClause_40 rfl (lv_at hl 0 rfl) ?_
    refine lv_aload_n hx hb dX4_readClause_41 rfl (lv_at hl 2 rfl) ?_
    refine g_getN C X inT3 9 (by decide) (eC_9 g ad S) rfl 2 (by decide) nw_168 (v := .ref (ad 12)) rfl dX4_readClause_42 ?_
    obtain ⟨r7, S6, qr7, h⟩ := bnd_s h
    refine kc_i X (res := (r7, S6)) (rV (As := [.ref (ad 12)]) (rest := []) (n := 1) (k := 3) C X (c_X4_readStones l g ad S _   qr7) wd_571 wd_573 wd_9 wd_72 wd_574 (by decide) (eC_3 g ad S) rfl rfl rfl (by decide +kernel) ⟨Nat.le_of_ble_eq_true rfl, Nat.le_of_ble_eq_true rfl⟩ rfl hl.1 (lv_room (Nat.le_of_ble_eq_true rfl)) dX4_readClause_45) (fun H locs X => ?_)
    obtain ⟨k8, h⟩ := chk_s h
    exact rt_z C X rfl (zb_or k8) (Option.some.inj h) dX4_readClause_48
  have h := inn h t5
  by_cases t9 : a1 = (8 : Int32)
  · have h := ip h t9
    refine lv_tableIn (tgt := 49) (off := 48) hx hb dX4_readClause_1 (by rw [t9]; decide) (by rw [t9]; decide) (by rw [t9]; rfl) (by decide) ?_
    refine lv_aload_n hx hb dX4_readClause_49 rfl (lv_at hl 0 rfl) ?_
    refine lv_aload_n hx hb dX4_readClause_50 rfl (lv_at hl 2 rfl) ?_
    refine g_getN C X inT3 9 (by decide) (eC_9 g ad S) rfl 3 (by decide) nw_170 (v := .ref (ad 13)) rfl dX4_readClause_51 ?_
    refine lv_sipush (v := (300 : Int32)) hx hb dX4_readClause_54 (by decide) ?_
    obtain ⟨r11, S10, qr11, h⟩ := bnd_s h
    refine kc_i X (res := (r11, S10)) (rV (As := [.ref (ad 13), .int ((300 : Int32))]) (rest := []) (n := 2) (k := 3) C X (c_X4_readList l g ad S _ 13 ((300 : Int32)) (by decide) qr11) wd_555 wd_557 wd_6 wd_72 wd_558 (by decide) (eC_3 g ad S) rfl rfl rfl (by decide +kernel) ⟨Nat.le_of_ble_eq_true rfl, Nat.le_of_ble_eq_true rfl⟩ rfl hl.1 (lv_room (Nat.le_of_ble_eq_true rfl)) dX4_readClause_57) (fun H locs X => ?_)
    obtain ⟨k12, h⟩ := chk_s h
    exact rt_z C X rfl (zb_or k12) (Option.some.inj h) dX4_readClause_60
  have h := inn h t9
  refine lv_tableOut (tgt := 61) hx hb dX4_readClause_1 (tb_out (fun z z1 z2 ze => ?_)) (by decide) ?_
  · rcases (show z = 6 ∨ z = 7 ∨ z = 8 by omega) with rfl | rfl | rfl
    · exact t1 (Int32.toInt_inj.mp (ze.trans (by decide)))
    · exact t5 (Int32.toInt_inj.mp (ze.trans (by decide)))
    · exact t9 (Int32.toInt_inj.mp (ze.trans (by decide)))
  refine lv_aload_n hx hb dX4_readClause_61 rfl (lv_at hl 0 rfl) ?_
  refine g_gets C X 1 rfl wd_578 dX4_readClause_62 ?_
  refine lv_iload_n hx hb dX4_readClause_65 rfl (lv_at hl 1 rfl) ?_
  obtain ⟨r13, qr13, h⟩ := bn1_s h
  refine kc_i X (res := (r13, S)) (rSN (As := [.ref (g.2.2.1 1), .int a1]) (rest := [.ref (ad 3)]) (n := 2) C X (c_X9_ats l g ad S _ 1 a1 (by decide) qr13) nw_575 wd_576 wd_70 wd_577 rfl rfl (by decide +kernel) ⟨Nat.le_of_ble_eq_true rfl, Nat.le_of_ble_eq_true rfl⟩ rfl hl.1 (lv_room (Nat.le_of_ble_eq_true rfl)) dX4_readClause_66) (fun H locs X => ?_)
  refine g_gets C X 2 rfl wd_580 dX4_readClause_69 ?_
  refine lv_iload_n hx hb dX4_readClause_72 rfl (lv_at hl 1 rfl) ?_
  obtain ⟨r14, qr14, h⟩ := bn1_s h
  refine kc_i X (res := (r14, S)) (rSN (As := [.ref (g.2.2.1 2), .int a1]) (rest := [.int r13, .ref (ad 3)]) (n := 2) C X (c_X9_ats l g ad S _ 2 a1 (by decide) qr14) nw_575 wd_576 wd_70 wd_577 rfl rfl (by decide +kernel) ⟨Nat.le_of_ble_eq_true rfl, Nat.le_of_ble_eq_true rfl⟩ rfl hl.1 (lv_room (Nat.le_of_ble_eq_true rfl)) dX4_readClause_73) (fun H locs X => ?_)
  refine lv_aload_n hx hb dX4_readClause_76 rfl (lv_at hl 2 rfl) ?_
  refine g_getN C X inT3 9 (by decide) (eC_9 g ad S) rfl 0 (by decide) nw_164 (v := .ref (ad 10)) rfl dX4_readClause_77 ?_
  obtain ⟨r16, S15, qr16, h⟩ := bnd_s h
  refine kc_i X (res := (r16, S15)) (rV (As := [.int r13, .int r14, .ref (ad 10)]) (rest := []) (n := 3) (k := 3) C X (c_X4_readNumbers l g ad S _ r13 r14  qr16) wd_582 wd_584 wd_10 wd_72 wd_585 (by decide) (eC_3 g ad S) rfl rfl rfl (by decide +kernel) ⟨Nat.le_of_ble_eq_true rfl, Nat.le_of_ble_eq_true rfl⟩ rfl hl.1 (lv_room (Nat.le_of_ble_eq_true rfl)) dX4_readClause_80) (fun H locs X => ?_)
  obtain ⟨k17, h⟩ := chk_s h
  exact rt_z C X rfl (zb_or k17) (Option.some.inj h) dX4_readClause_83

def rmX4_readPlace : Room := { frames := 7, cells := 0, slots := 0, locals := 149 }
def b_X4_readPlace_8 (K8 : Int32 → Int32 → ST → Option (Int32 × ST)) (v3 : Int32) (v4 : Int32) (S : ST) : Option (Int32 × ST) :=
  if ((9 : Int32)) < v4 then (bnd (f_X4_fail ((3 : Int32)) S) fun r4 S3 => chk (zb r4) (some (r4, S3))) else (bn1 (f_X4_take S) fun S6 => if (S6.1 3 2) = 0 then (nm (su S6 3 7 v4) fun S22 => some ((1 : Int32), S22)) else (bn1 (f_X4_clauseInHand S6) fun r8 => if r8 = ((-1 : Int32)) then (bnd (f_X4_fail ((1 : Int32)) S6) fun r20 S19 => chk (zb r20) (some (r20, S19))) else (if ((v3 >>> (r8 &&& 31)) &&& ((1 : Int32))) = ((1 : Int32)) then (bnd (f_X4_fail ((3 : Int32)) S6) fun r17 S16 => chk (zb r17) (some (r17, S16))) else (nm (v3 ||| (((1 : Int32)) <<< (r8 &&& 31))) fun x11 => bnd (f_X4_readClause r8 S6) fun r13 S12 => if r13 = 0 then (some ((0 : Int32), S12)) else (nm (v4 + (1 : Int32)) fun x15 => K8 x11 x15 S12)))))
def f_X4_readPlace  (S : ST) : Option (Int32 × ST) :=
  bn1 (f_X4_begin S) fun S1 => lp (fun _ _ _ => none) (b_X4_readPlace_8) 1000 ((0 : Int32)) ((0 : Int32)) S1
set_option maxHeartbeats 4000000 in
set_option maxRecDepth 100000 in
theorem kb_X4_readPlace_8 {p : Program} {l : Launch} {e : Env} {s : State} {m : MethodId} {args : Array Value} {below : List Frame} {meth : Method} {c : Code} {g : GG} {ad : Nat → Nat} {res : (Int32 × ST)} {S : ST} (C : CX kC g ad p s m args meth c cX4_readPlace (some Jvm.ClassFile.FieldType.boolean) 5 yX4_readPlace.cls (.code yX4_readPlace cX4_readPlace 5 (some Jvm.ClassFile.FieldType.boolean))) {K8 : Int32 → Int32 → ST → Option (Int32 × ST)} (hK8 : ∀ {v3 : Int32} {v4 : Int32} {S : ST} {H : Heap} {locs : List Loc} {ls : Array Slot}, K8 v3 v4 S = some res → WX kC g ad s S H locs → lv_has ls 5 [(0, .ref (ad 3)), (1, .ref (ad 9)), (2, .int v3), (3, .int v4)] → W p l e rmX4_readPlace s m args below meth c H locs 0 0 (MQ below (QI kC g ad res (AA kC ad s.heap.size)) args s 0 0 (AA kC ad s.heap.size)) (F0 m 8 ls [])) {v3 : Int32} {v4 : Int32}  {H : Heap} {locs : List Loc} {ls : Array Slot} (h : b_X4_readPlace_8 K8 v3 v4 S = some res) (X : WX kC g ad s S H locs) (hl : lv_has ls 5 [(0, .ref (ad 3)), (1, .ref (ad 9)), (2, .int v3), (3, .int v4)])  : W p l e rmX4_readPlace s m args below meth c H locs 0 0 (MQ below (QI kC g ad res (AA kC ad s.heap.size)) args s 0 0 (AA kC ad s.heap.size)) (F0 m 8 ls []) := by
  have hx := C.1.1
  have hb := C.1.2.1
  have h : (if ((9 : Int32)) < v4 then (bnd (f_X4_fail ((3 : Int32)) S) fun r4 S3 => chk (zb r4) (some (r4, S3))) else (bn1 (f_X4_take S) fun S6 => if (S6.1 3 2) = 0 then (nm (su S6 3 7 v4) fun S22 => some ((1 : Int32), S22)) else (bn1 (f_X4_clauseInHand S6) fun r8 => if r8 = ((-1 : Int32)) then (bnd (f_X4_fail ((1 : Int32)) S6) fun r20 S19 => chk (zb r20) (some (r20, S19))) else (if ((v3 >>> (r8 &&& 31)) &&& ((1 : Int32))) = ((1 : Int32)) then (bnd (f_X4_fail ((3 : Int32)) S6) fun r17 S16 => chk (zb r17) (some (r17, S16))) else (nm (v3 ||| (((1 : Int32)) <<< (r8 &&& 31))) fun x11 => bnd (f_X4_readClause r8 S6) fun r13 S12 => if r13 = 0 then (some ((0 : Int32), S12)) else (nm (v4 + (1 : Int32)) fun x15 => K8 x11 x15 S12))))) : Option (Int32 × ST)) = some res := h
  refine lv_iload_n hx hb dX4_readPlace_8 rfl (lv_at hl 3 rfl) ?_
  refine lv_bipush (v := (9 : Int32)) hx hb dX4_readPlace_9 (by decide) ?_
  refine lv_icmp_gt (tgt := 91) hx hb dX4_readPlace_11 (by decide) (fun c2 => ?_) (fun c2 => ?_)
  · have h := ip h c2
    refine lv_aload_n hx hb dX4_readPlace_91 rfl (lv_at hl 0 rfl) ?_
    refine lv_iconst (v := (3 : Int32)) hx hb dX4_readPlace_92 (by decide) ?_
    obtain ⟨r4, S3, qr4, h⟩ := bnd_s h
    refine kc_i X (res := (r4, S3)) (rV (As := [.int ((3 : Int32))]) (rest := []) (n := 1) (k := 3) C X (c_X4_fail l g ad S _ ((3 : Int32))  qr4) wd_547 wd_549 wd_4 wd_72 wd_550 (by decide) (eC_3 g ad S) rfl rfl rfl (by decide +kernel) ⟨Nat.le_of_ble_eq_true rfl, Nat.le_of_ble_eq_true rfl⟩ rfl hl.1 (lv_room (Nat.le_of_ble_eq_true rfl)) dX4_readPlace_93) (fun H locs X => ?_)
    obtain ⟨k5, h⟩ := chk_s h
    exact rt_z C X rfl (zb_or k5) (Option.some.inj h) dX4_readPlace_96
  · have h := inn h c2
    refine lv_aload_n hx hb dX4_readPlace_14 rfl (lv_at hl 0 rfl) ?_
    obtain ⟨S6, qS6, h⟩ := bn1_s h
    refine kc_v X (res := S6) (rV (As := []) (rest := []) (n := 0) (k := 3) C X (c_X4_take l g ad S _   qS6) wd_464 wd_466 wd_1 wd_72 wd_467 (by decide) (eC_3 g ad S) rfl rfl rfl (by decide +kernel) ⟨Nat.le_of_ble_eq_true rfl, Nat.le_of_ble_eq_true rfl⟩ rfl hl.1 (lv_room (Nat.le_of_ble_eq_true rfl)) dX4_readPlace_15) (fun H locs X => ?_)
    refine lv_aload_n hx hb dX4_readPlace_18 rfl (lv_at hl 0 rfl) ?_
    refine g_get C X inT4 3 (by decide) (eC_3 g ad S6) rfl 2 (by decide) wd_119 (v := .int (S6.1 3 2)) rfl dX4_readPlace_19 ?_
    refine lv_if_ne (tgt := 32) hx hb dX4_readPlace_22 (by decide) (fun c7 => ?_) (fun c7 => ?_)
    · have h := inn h c7
      refine lv_aload_n hx hb dX4_readPlace_32 rfl (lv_at hl 0 rfl) ?_
      obtain ⟨r8, qr8, h⟩ := bn1_s h
      refine kc_i X (res := (r8, S6)) (rV (As := []) (rest := []) (n := 0) (k := 3) C X (c_X4_clauseInHand l g ad S6 _   qr8) wd_479 wd_481 wd_2 wd_72 wd_482 (by decide) (eC_3 g ad S6) rfl rfl rfl (by decide +kernel) ⟨Nat.le_of_ble_eq_true rfl, Nat.le_of_ble_eq_true rfl⟩ rfl hl.1 (lv_room (Nat.le_of_ble_eq_true rfl)) dX4_readPlace_33) (fun H locs X => ?_)
      refine lv_istore (lv' := [(4, .int r8), (0, .ref (ad 3)), (1, .ref (ad 9)), (2, .int v3), (3, .int v4)]) hx hb dX4_readPlace_36 hl (by decide) rfl (fun ls hl => ?_)
      refine lv_iload hx hb dX4_readPlace_38 (lv_at hl 0 rfl) ?_
      refine lv_iconst (v := (-1 : Int32)) hx hb dX4_readPlace_40 (by decide) ?_
      refine lv_icmp_ne (tgt := 50) hx hb dX4_readPlace_41 (by decide) (fun c9 => ?_) (fun c9 => ?_)
      · have h := inn h c9
        refine lv_iload_n hx hb dX4_readPlace_50 rfl (lv_at hl 3 rfl) ?_
        refine lv_iload hx hb dX4_readPlace_51 (lv_at hl 0 rfl) ?_
        refine lv_ishr hx hb dX4_readPlace_53 ?_
        refine lv_iconst (v := (1 : Int32)) hx hb dX4_readPlace_54 (by decide) ?_
        refine lv_iand hx hb dX4_readPlace_55 ?_
        refine lv_iconst (v := (1 : Int32)) hx hb dX4_readPlace_56 (by decide) ?_
        refine lv_icmp_ne (tgt := 66) hx hb dX4_readPlace_57 (by decide) (fun c10 => ?_) (fun c10 => ?_)
        · have h := inn h c10
          refine lv_iload_n hx hb dX4_readPlace_66 rfl (lv_at hl 3 rfl) ?_
          refine lv_iconst (v := (1 : Int32)) hx hb dX4_readPlace_67 (by decide) ?_
          refine lv_iload hx hb dX4_readPlace_68 (lv_at hl 0 rfl) ?_
          refine lv_ishl hx hb dX4_readPlace_70 ?_
          refine lv_ior hx hb dX4_readPlace_71 ?_
          obtain ⟨x11, ex11, h⟩ := nm_s h
          refine tp_i ex11 ?_
          refine lv_istore_n (lv' := [(2, .int x11), (4, .int r8), (0, .ref (ad 3)), (1, .ref (ad 9)), (3, .int v4)]) hx hb dX4_readPlace_72 rfl hl (by decide) rfl (fun ls hl => ?_)
          refine lv_aload_n hx hb dX4_readPlace_73 rfl (lv_at hl 2 rfl) ?_
          refine lv_iload hx hb dX4_readPlace_74 (lv_at hl 1 rfl) ?_
          refine lv_aload_n hx hb dX4_readPlace_76 rfl (lv_at hl 3 rfl) ?_
          obtain ⟨r13, S12, qr13, h⟩ := bnd_s h
          refine kc_i X (res := (r13, S12)) (rV (As := [.int r8, .ref (ad 9)]) (rest := []) (n := 2) (k := 3) C X (c_X4_readClause l g ad S6 _ r8  qr13) wd_551 wd_553 wd_5 wd_72 wd_554 (by decide) (eC_3 g ad S6) rfl rfl rfl (by decide +kernel) ⟨Nat.le_of_ble_eq_true rfl, Nat.le_of_ble_eq_true rfl⟩ rfl hl.1 (lv_room (Nat.le_of_ble_eq_true rfl)) dX4_readPlace_77) (fun H locs X => ?_)
          refine lv_if_ne (tgt := 85) hx hb dX4_readPlace_80 (by decide) (fun c14 => ?_) (fun c14 => ?_)
          · have h := inn h c14
            obtain ⟨x15, ex15, h⟩ := nm_s h
            refine lv_iinc (v := x15) (lv' := [(3, .int x15), (2, .int x11), (4, .int r8), (0, .ref (ad 3)), (1, .ref (ad 9))]) hx hb dX4_readPlace_85 hl (k := 4) rfl (by rw [ex15]; rfl) (by decide) rfl (fun ls hl => ?_)
            refine lv_goto (tgt := 8) hx hb dX4_readPlace_88 (by decide) ?_
            exact hK8 h X (lv_sub hl [3, 4, 1, 0] rfl) 
          · have h := ip h c14
            refine lv_iconst (v := (0 : Int32)) hx hb dX4_readPlace_83 (by decide) ?_
            exact rt_z C X rfl (by decide) (Option.some.inj h) dX4_readPlace_84
        · have h := ip h c10
          refine lv_aload_n hx hb dX4_readPlace_60 rfl (lv_at hl 1 rfl) ?_
          refine lv_iconst (v := (3 : Int32)) hx hb dX4_readPlace_61 (by decide) ?_
          obtain ⟨r17, S16, qr17, h⟩ := bnd_s h
          refine kc_i X (res := (r17, S16)) (rV (As := [.int ((3 : Int32))]) (rest := []) (n := 1) (k := 3) C X (c_X4_fail l g ad S6 _ ((3 : Int32))  qr17) wd_547 wd_549 wd_4 wd_72 wd_550 (by decide) (eC_3 g ad S6) rfl rfl rfl (by decide +kernel) ⟨Nat.le_of_ble_eq_true rfl, Nat.le_of_ble_eq_true rfl⟩ rfl hl.1 (lv_room (Nat.le_of_ble_eq_true rfl)) dX4_readPlace_62) (fun H locs X => ?_)
          obtain ⟨k18, h⟩ := chk_s h
          exact rt_z C X rfl (zb_or k18) (Option.some.inj h) dX4_readPlace_65
      · have h := ip h c9
        refine lv_aload_n hx hb dX4_readPlace_44 rfl (lv_at hl 1 rfl) ?_
        refine lv_iconst (v := (1 : Int32)) hx hb dX4_readPlace_45 (by decide) ?_
        obtain ⟨r20, S19, qr20, h⟩ := bnd_s h
        refine kc_i X (res := (r20, S19)) (rV (As := [.int ((1 : Int32))]) (rest := []) (n := 1) (k := 3) C X (c_X4_fail l g ad S6 _ ((1 : Int32))  qr20) wd_547 wd_549 wd_4 wd_72 wd_550 (by decide) (eC_3 g ad S6) rfl rfl rfl (by decide +kernel) ⟨Nat.le_of_ble_eq_true rfl, Nat.le_of_ble_eq_true rfl⟩ rfl hl.1 (lv_room (Nat.le_of_ble_eq_true rfl)) dX4_readPlace_46) (fun H locs X => ?_)
        obtain ⟨k21, h⟩ := chk_s h
        exact rt_z C X rfl (zb_or k21) (Option.some.inj h) dX4_readPlace_49
    · have h := ip h c7
      refine lv_aload_n hx hb dX4_readPlace_25 rfl (lv_at hl 0 rfl) ?_
      refine lv_iload_n hx hb dX4_readPlace_26 rfl (lv_at hl 3 rfl) ?_
      obtain ⟨S22, eS22, h⟩ := nm_s h
      refine g_put (S' := S22) C X inT4 tyX4 tyX4_ok nmX4 3 (by decide) (eC_3 g ad S6) rfl 7 (by decide) wd_124 rfl (by rfl) rfl (Nat.le_of_ble_eq_true rfl) (by subst eS22; rfl) (by subst eS22; exact fun i hi => ent_offu hi) dX4_readPlace_27 (fun H locs X => ?_)
      refine lv_iconst (v := (1 : Int32)) hx hb dX4_readPlace_30 (by decide) ?_
      exact rt_z C X rfl (by decide) (Option.some.inj h) dX4_readPlace_31
set_option maxHeartbeats 4000000 in
set_option maxRecDepth 100000 in
theorem kl_X4_readPlace_8 {p : Program} {l : Launch} {e : Env} {s : State} {m : MethodId} {args : Array Value} {below : List Frame} {meth : Method} {c : Code} {g : GG} {ad : Nat → Nat} {res : (Int32 × ST)}  (C : CX kC g ad p s m args meth c cX4_readPlace (some Jvm.ClassFile.FieldType.boolean) 5 yX4_readPlace.cls (.code yX4_readPlace cX4_readPlace 5 (some Jvm.ClassFile.FieldType.boolean)))  : ∀ (n : Nat) {v3 : Int32} {v4 : Int32} {S : ST} {H : Heap} {locs : List Loc} {ls : Array Slot}, (lp (fun _ _ _ => none) (b_X4_readPlace_8)) n v3 v4 S = some res → WX kC g ad s S H locs → lv_has ls 5 [(0, .ref (ad 3)), (1, .ref (ad 9)), (2, .int v3), (3, .int v4)] → W p l e rmX4_readPlace s m args below meth c H locs 0 0 (MQ below (QI kC g ad res (AA kC ad s.heap.size)) args s 0 0 (AA kC ad s.heap.size)) (F0 m 8 ls []) := by
  intro n
  induction n with
  | zero =>
    intro v3 v4 S H locs ls h
    cases (show (none : Option (Int32 × ST)) = some res from h)
  | succ n ih =>
    intro v3 v4 S H locs ls h X hl 
    exact kb_X4_readPlace_8 C ih h X hl 
set_option maxHeartbeats 4000000 in
set_option maxRecDepth 100000 in
theorem c_X4_readPlace (l : Launch) (g : GG) (ad : Nat → Nat) (S : ST) (sz : Nat)   {res : (Int32 × ST)} (h : f_X4_readPlace S = some res) : Met l yX4_readPlace (WS (.code yX4_readPlace cX4_readPlace 5 (some Jvm.ClassFile.FieldType.boolean))) rmX4_readPlace (va_Pc [.ref (ad 3), .ref (ad 9)] (PW kC g ad S sz)) (QI kC g ad res (AA kC ad sz)) 0 0 (AA kC ad sz) := by
  refine go_m (Qc := fun A => QI kC g ad res A) (by decide) (Nat.le_of_ble_eq_true rfl) (fun p e s m below meth c ls H locs C X hl => ?_)
  have hx := C.1.1
  have hb := C.1.2.1
  have hl : lv_has ls 5 [(0, .ref (ad 3)), (1, .ref (ad 9))] := hl
  have h : (bn1 (f_X4_begin S) fun S1 => lp (fun _ _ _ => none) (b_X4_readPlace_8) 1000 ((0 : Int32)) ((0 : Int32)) S1 : Option (Int32 × ST)) = some res := h
  refine lv_aload_n hx hb dX4_readPlace_0 rfl (lv_at hl 0 rfl) ?_
  obtain ⟨S1, qS1, h⟩ := bn1_s h
  refine kc_v X (res := S1) (rV (As := []) (rest := []) (n := 0) (k := 3) C X (c_X4_begin l g ad S _   qS1) wd_460 wd_462 wd_0 wd_72 wd_463 (by decide) (eC_3 g ad S) rfl rfl rfl (by decide +kernel) ⟨Nat.le_of_ble_eq_true rfl, Nat.le_of_ble_eq_true rfl⟩ rfl hl.1 (lv_room (Nat.le_of_ble_eq_true rfl)) dX4_readPlace_1) (fun H locs X => ?_)
  refine lv_iconst (v := (0 : Int32)) hx hb dX4_readPlace_4 (by decide) ?_
  refine lv_istore_n (lv' := [(2, .int ((0 : Int32))), (0, .ref (ad 3)), (1, .ref (ad 9))]) hx hb dX4_readPlace_5 rfl hl (by decide) rfl (fun ls hl => ?_)
  refine lv_iconst (v := (0 : Int32)) hx hb dX4_readPlace_6 (by decide) ?_
  refine lv_istore_n (lv' := [(3, .int ((0 : Int32))), (2, .int ((0 : Int32))), (0, .ref (ad 3)), (1, .ref (ad 9))]) hx hb dX4_readPlace_7 rfl hl (by decide) rfl (fun ls hl => ?_)
  exact kl_X4_readPlace_8 C _ h X (lv_sub hl [2, 3, 1, 0] rfl) 

def rmX4_faultAt : Room := { frames := 0, cells := 0, slots := 0, locals := 0 }
def f_X4_faultAt  (S : ST) : Option Int32 :=
  some (S.1 3 6)
set_option maxHeartbeats 4000000 in
set_option maxRecDepth 100000 in
theorem c_X4_faultAt (l : Launch) (g : GG) (ad : Nat → Nat) (S : ST) (sz : Nat)   {res : Int32} (h : f_X4_faultAt S = some res) : Met l yX4_faultAt (WS (.code yX4_faultAt cX4_faultAt 1 (some Jvm.ClassFile.FieldType.int))) rmX4_faultAt (va_Pc [.ref (ad 3)] (PW kC g ad S sz)) (QI kC g ad (res, S) (AA kC ad sz)) 0 0 (AA kC ad sz) := by
  refine go_m (Qc := fun A => QI kC g ad (res, S) A) (by decide) (Nat.le_of_ble_eq_true rfl) (fun p e s m below meth c ls H locs C X hl => ?_)
  have hx := C.1.1
  have hb := C.1.2.1
  have hl : lv_has ls 1 [(0, .ref (ad 3))] := hl
  have h : (some (S.1 3 6) : Option Int32) = some res := h
  refine lv_aload_n hx hb dX4_faultAt_0 rfl (lv_at hl 0 rfl) ?_
  refine g_get C X inT4 3 (by decide) (eC_3 g ad S) rfl 6 (by decide) wd_123 (v := .int (S.1 3 6)) rfl dX4_faultAt_1 ?_
  exact rt_i C X rfl (congrArg (fun z => (z, S)) (Option.some.inj h)) dX4_faultAt_4

def rmX4_faultNumber : Room := { frames := 0, cells := 0, slots := 0, locals := 0 }
def f_X4_faultNumber  (S : ST) : Option Int32 :=
  some (S.1 3 5)
set_option maxHeartbeats 4000000 in
set_option maxRecDepth 100000 in
theorem c_X4_faultNumber (l : Launch) (g : GG) (ad : Nat → Nat) (S : ST) (sz : Nat)   {res : Int32} (h : f_X4_faultNumber S = some res) : Met l yX4_faultNumber (WS (.code yX4_faultNumber cX4_faultNumber 1 (some Jvm.ClassFile.FieldType.int))) rmX4_faultNumber (va_Pc [.ref (ad 3)] (PW kC g ad S sz)) (QI kC g ad (res, S) (AA kC ad sz)) 0 0 (AA kC ad sz) := by
  refine go_m (Qc := fun A => QI kC g ad (res, S) A) (by decide) (Nat.le_of_ble_eq_true rfl) (fun p e s m below meth c ls H locs C X hl => ?_)
  have hx := C.1.1
  have hb := C.1.2.1
  have hl : lv_has ls 1 [(0, .ref (ad 3))] := hl
  have h : (some (S.1 3 5) : Option Int32) = some res := h
  refine lv_aload_n hx hb dX4_faultNumber_0 rfl (lv_at hl 0 rfl) ?_
  refine g_get C X inT4 3 (by decide) (eC_3 g ad S) rfl 5 (by decide) wd_122 (v := .int (S.1 3 5)) rfl dX4_faultNumber_1 ?_
  exact rt_i C X rfl (congrArg (fun z => (z, S)) (Option.some.inj h)) dX4_faultNumber_4

def rmX4_clauses : Room := { frames := 0, cells := 0, slots := 0, locals := 0 }
def f_X4_clauses  (S : ST) : Option Int32 :=
  some (S.1 3 7)
set_option maxHeartbeats 4000000 in
set_option maxRecDepth 100000 in
theorem c_X4_clauses (l : Launch) (g : GG) (ad : Nat → Nat) (S : ST) (sz : Nat)   {res : Int32} (h : f_X4_clauses S = some res) : Met l yX4_clauses (WS (.code yX4_clauses cX4_clauses 1 (some Jvm.ClassFile.FieldType.int))) rmX4_clauses (va_Pc [.ref (ad 3)] (PW kC g ad S sz)) (QI kC g ad (res, S) (AA kC ad sz)) 0 0 (AA kC ad sz) := by
  refine go_m (Qc := fun A => QI kC g ad (res, S) A) (by decide) (Nat.le_of_ble_eq_true rfl) (fun p e s m below meth c ls H locs C X hl => ?_)
  have hx := C.1.1
  have hb := C.1.2.1
  have hl : lv_has ls 1 [(0, .ref (ad 3))] := hl
  have h : (some (S.1 3 7) : Option Int32) = some res := h
  refine lv_aload_n hx hb dX4_clauses_0 rfl (lv_at hl 0 rfl) ?_
  refine g_get C X inT4 3 (by decide) (eC_3 g ad S) rfl 7 (by decide) wd_124 (v := .int (S.1 3 7)) rfl dX4_clauses_1 ?_
  exact rt_i C X rfl (congrArg (fun z => (z, S)) (Option.some.inj h)) dX4_clauses_4

def rmX4_readSwinger : Room := { frames := 3, cells := 0, slots := 0, locals := 65 }
def b_X4_readSwinger_6 (K6 : Nat → Int32 → ST → Option (Int32 × ST)) (v2 : Nat) (v3 : Int32) (S : ST) : Option (Int32 × ST) :=
  if ((5 : Int32)) ≤ v3 then (bn1 (f_X4_take S) fun S3 => if (S3.1 3 2) = 0 then (some ((1 : Int32), S3)) else (bnd (f_X4_fail ((1 : Int32)) S3) fun r6 S5 => if r6 = 0 then (some ((0 : Int32), S5)) else (some ((1 : Int32), S5)))) else (bn1 (f_X6_least v3 S) fun r8 => bn1 (f_X6_most v3 S) fun r9 => bnd (f_X4_takeNumber r8 r9 S) fun r11 S10 => if r11 = 0 then (some ((0 : Int32), S10)) else (bn1 (f_X9_put (v2 + 1) v3 (S10.1 3 4) S10) fun S13 => nm (v3 + (1 : Int32)) fun x14 => K6 v2 x14 S13))
def f_X4_readSwinger (a1 : Nat) (S : ST) : Option (Int32 × ST) :=
  bn1 (f_X4_begin S) fun S1 => lp (fun _ _ _ => none) (b_X4_readSwinger_6) 1000 a1 ((0 : Int32)) S1
set_option maxHeartbeats 4000000 in
set_option maxRecDepth 100000 in
theorem kb_X4_readSwinger_6 {p : Program} {l : Launch} {e : Env} {s : State} {m : MethodId} {args : Array Value} {below : List Frame} {meth : Method} {c : Code} {g : GG} {ad : Nat → Nat} {res : (Int32 × ST)} {S : ST} (C : CX kC g ad p s m args meth c cX4_readSwinger (some Jvm.ClassFile.FieldType.boolean) 3 yX4_readSwinger.cls (.code yX4_readSwinger cX4_readSwinger 3 (some Jvm.ClassFile.FieldType.boolean))) {K6 : Nat → Int32 → ST → Option (Int32 × ST)} (hK6 : ∀ {v2 : Nat} {v3 : Int32} {S : ST} {H : Heap} {locs : List Loc} {ls : Array Slot}, K6 v2 v3 S = some res → WX kC g ad s S H locs → lv_has ls 3 [(0, .ref (ad 3)), (1, .ref (ad v2)), (2, .int v3)] → (swk v2 = true) → W p l e rmX4_readSwinger s m args below meth c H locs 0 0 (MQ below (QI kC g ad res (AA kC ad s.heap.size)) args s 0 0 (AA kC ad s.heap.size)) (F0 m 6 ls [])) {v2 : Nat} {v3 : Int32}  {H : Heap} {locs : List Loc} {ls : Array Slot} (h : b_X4_readSwinger_6 K6 v2 v3 S = some res) (X : WX kC g ad s S H locs) (hl : lv_has ls 3 [(0, .ref (ad 3)), (1, .ref (ad v2)), (2, .int v3)]) (g2 : swk v2 = true) : W p l e rmX4_readSwinger s m args below meth c H locs 0 0 (MQ below (QI kC g ad res (AA kC ad s.heap.size)) args s 0 0 (AA kC ad s.heap.size)) (F0 m 6 ls []) := by
  have hx := C.1.1
  have hb := C.1.2.1
  have h : (if ((5 : Int32)) ≤ v3 then (bn1 (f_X4_take S) fun S3 => if (S3.1 3 2) = 0 then (some ((1 : Int32), S3)) else (bnd (f_X4_fail ((1 : Int32)) S3) fun r6 S5 => if r6 = 0 then (some ((0 : Int32), S5)) else (some ((1 : Int32), S5)))) else (bn1 (f_X6_least v3 S) fun r8 => bn1 (f_X6_most v3 S) fun r9 => bnd (f_X4_takeNumber r8 r9 S) fun r11 S10 => if r11 = 0 then (some ((0 : Int32), S10)) else (bn1 (f_X9_put (v2 + 1) v3 (S10.1 3 4) S10) fun S13 => nm (v3 + (1 : Int32)) fun x14 => K6 v2 x14 S13)) : Option (Int32 × ST)) = some res := h
  refine lv_iload_n hx hb dX4_readSwinger_6 rfl (lv_at hl 2 rfl) ?_
  refine lv_iconst (v := (5 : Int32)) hx hb dX4_readSwinger_7 (by decide) ?_
  refine lv_icmp_ge (tgt := 46) hx hb dX4_readSwinger_8 (by decide) (fun c2 => ?_) (fun c2 => ?_)
  · have h := ip h c2
    refine lv_aload_n hx hb dX4_readSwinger_46 rfl (lv_at hl 0 rfl) ?_
    obtain ⟨S3, qS3, h⟩ := bn1_s h
    refine kc_v X (res := S3) (rV (As := []) (rest := []) (n := 0) (k := 3) C X (c_X4_take l g ad S _   qS3) wd_464 wd_466 wd_1 wd_72 wd_467 (by decide) (eC_3 g ad S) rfl rfl rfl (by decide +kernel) ⟨Nat.le_of_ble_eq_true rfl, Nat.le_of_ble_eq_true rfl⟩ rfl hl.1 (lv_room (Nat.le_of_ble_eq_true rfl)) dX4_readSwinger_47) (fun H locs X => ?_)
    refine lv_aload_n hx hb dX4_readSwinger_50 rfl (lv_at hl 0 rfl) ?_
    refine g_get C X inT4 3 (by decide) (eC_3 g ad S3) rfl 2 (by decide) wd_119 (v := .int (S3.1 3 2)) rfl dX4_readSwinger_51 ?_
    refine lv_if_eq (tgt := 65) hx hb dX4_readSwinger_54 (by decide) (fun c4 => ?_) (fun c4 => ?_)
    · have h := ip h c4
      refine lv_iconst (v := (1 : Int32)) hx hb dX4_readSwinger_65 (by decide) ?_
      refine lv_goto (tgt := 70) hx hb dX4_readSwinger_66 (by decide) ?_
      exact rt_z C X rfl (by decide) (Option.some.inj h) dX4_readSwinger_70
    · have h := inn h c4
      refine lv_aload_n hx hb dX4_readSwinger_57 rfl (lv_at hl 0 rfl) ?_
      refine lv_iconst (v := (1 : Int32)) hx hb dX4_readSwinger_58 (by decide) ?_
      obtain ⟨r6, S5, qr6, h⟩ := bnd_s h
      refine kc_i X (res := (r6, S5)) (rV (As := [.int ((1 : Int32))]) (rest := []) (n := 1) (k := 3) C X (c_X4_fail l g ad S3 _ ((1 : Int32))  qr6) wd_547 wd_549 wd_4 wd_72 wd_550 (by decide) (eC_3 g ad S3) rfl rfl rfl (by decide +kernel) ⟨Nat.le_of_ble_eq_true rfl, Nat.le_of_ble_eq_true rfl⟩ rfl hl.1 (lv_room (Nat.le_of_ble_eq_true rfl)) dX4_readSwinger_59) (fun H locs X => ?_)
      refine lv_if_eq (tgt := 69) hx hb dX4_readSwinger_62 (by decide) (fun c7 => ?_) (fun c7 => ?_)
      · have h := ip h c7
        refine lv_iconst (v := (0 : Int32)) hx hb dX4_readSwinger_69 (by decide) ?_
        exact rt_z C X rfl (by decide) (Option.some.inj h) dX4_readSwinger_70
      · have h := inn h c7
        refine lv_iconst (v := (1 : Int32)) hx hb dX4_readSwinger_65 (by decide) ?_
        refine lv_goto (tgt := 70) hx hb dX4_readSwinger_66 (by decide) ?_
        exact rt_z C X rfl (by decide) (Option.some.inj h) dX4_readSwinger_70
  · have h := inn h c2
    refine lv_aload_n hx hb dX4_readSwinger_11 rfl (lv_at hl 0 rfl) ?_
    refine lv_iload_n hx hb dX4_readSwinger_12 rfl (lv_at hl 2 rfl) ?_
    obtain ⟨r8, qr8, h⟩ := bn1_s h
    refine kc_i X (res := (r8, S)) (rS (As := [.int v3]) (rest := [.ref (ad 3)]) (n := 1) C X (c_X6_least l g ad S _ v3  qr8) wd_620 wd_621 wd_77 wd_622 rfl rfl (by decide +kernel) ⟨Nat.le_of_ble_eq_true rfl, Nat.le_of_ble_eq_true rfl⟩ rfl hl.1 (lv_room (Nat.le_of_ble_eq_true rfl)) dX4_readSwinger_13) (fun H locs X => ?_)
    refine lv_iload_n hx hb dX4_readSwinger_16 rfl (lv_at hl 2 rfl) ?_
    obtain ⟨r9, qr9, h⟩ := bn1_s h
    refine kc_i X (res := (r9, S)) (rS (As := [.int v3]) (rest := [.int r8, .ref (ad 3)]) (n := 1) C X (c_X6_most l g ad S _ v3  qr9) wd_626 wd_627 wd_77 wd_628 rfl rfl (by decide +kernel) ⟨Nat.le_of_ble_eq_true rfl, Nat.le_of_ble_eq_true rfl⟩ rfl hl.1 (lv_room (Nat.le_of_ble_eq_true rfl)) dX4_readSwinger_17) (fun H locs X => ?_)
    obtain ⟨r11, S10, qr11, h⟩ := bnd_s h
    refine kc_i X (res := (r11, S10)) (rV (As := [.int r8, .int r9]) (rest := []) (n := 2) (k := 3) C X (c_X4_takeNumber l g ad S _ r8 r9  qr11) wd_559 wd_561 wd_7 wd_72 wd_562 (by decide) (eC_3 g ad S) rfl rfl rfl (by decide +kernel) ⟨Nat.le_of_ble_eq_true rfl, Nat.le_of_ble_eq_true rfl⟩ rfl hl.1 (lv_room (Nat.le_of_ble_eq_true rfl)) dX4_readSwinger_20) (fun H locs X => ?_)
    refine lv_if_ne (tgt := 28) hx hb dX4_readSwinger_23 (by decide) (fun c12 => ?_) (fun c12 => ?_)
    · have h := inn h c12
      refine lv_aload_n hx hb dX4_readSwinger_28 rfl (lv_at hl 1 rfl) ?_
      refine g_getN C X inT6 v2 (lt_sw g2) (e_sw g ad S10 g2) rfl 0 (by decide) nw_188 (v := .ref (ad (v2 + 1))) rfl dX4_readSwinger_29 ?_
      refine lv_iload_n hx hb dX4_readSwinger_32 rfl (lv_at hl 2 rfl) ?_
      refine lv_aload_n hx hb dX4_readSwinger_33 rfl (lv_at hl 0 rfl) ?_
      refine g_get C X inT4 3 (by decide) (eC_3 g ad S10) rfl 4 (by decide) wd_121 (v := .int (S10.1 3 4)) rfl dX4_readSwinger_34 ?_
      obtain ⟨S13, qS13, h⟩ := bn1_s h
      refine kc_v X (res := S13) (rSN (As := [.ref (ad (v2 + 1)), .int v3, .int (S10.1 3 4)]) (rest := []) (n := 3) C X (c_X9_put l g ad S10 _ (v2 + 1) v3 (S10.1 3 4) (ia_sw_1 g2) qS13) nw_566 wd_387 wd_70 wd_388 rfl rfl (by decide +kernel) ⟨Nat.le_of_ble_eq_true rfl, Nat.le_of_ble_eq_true rfl⟩ rfl hl.1 (lv_room (Nat.le_of_ble_eq_true rfl)) dX4_readSwinger_37) (fun H locs X => ?_)
      obtain ⟨x14, ex14, h⟩ := nm_s h
      refine lv_iinc (v := x14) (lv' := [(2, .int x14), (0, .ref (ad 3)), (1, .ref (ad v2))]) hx hb dX4_readSwinger_40 hl (k := 2) rfl (by rw [ex14]; rfl) (by decide) rfl (fun ls hl => ?_)
      refine lv_goto (tgt := 6) hx hb dX4_readSwinger_43 (by decide) ?_
      exact hK6 h X (lv_sub hl [1, 2, 0] rfl) g2
    · have h := ip h c12
      refine lv_iconst (v := (0 : Int32)) hx hb dX4_readSwinger_26 (by decide) ?_
      exact rt_z C X rfl (by decide) (Option.some.inj h) dX4_readSwinger_27
set_option maxHeartbeats 4000000 in
set_option maxRecDepth 100000 in
theorem kl_X4_readSwinger_6 {p : Program} {l : Launch} {e : Env} {s : State} {m : MethodId} {args : Array Value} {below : List Frame} {meth : Method} {c : Code} {g : GG} {ad : Nat → Nat} {res : (Int32 × ST)}  (C : CX kC g ad p s m args meth c cX4_readSwinger (some Jvm.ClassFile.FieldType.boolean) 3 yX4_readSwinger.cls (.code yX4_readSwinger cX4_readSwinger 3 (some Jvm.ClassFile.FieldType.boolean)))  : ∀ (n : Nat) {v2 : Nat} {v3 : Int32} {S : ST} {H : Heap} {locs : List Loc} {ls : Array Slot}, (lp (fun _ _ _ => none) (b_X4_readSwinger_6)) n v2 v3 S = some res → WX kC g ad s S H locs → lv_has ls 3 [(0, .ref (ad 3)), (1, .ref (ad v2)), (2, .int v3)] → (swk v2 = true) → W p l e rmX4_readSwinger s m args below meth c H locs 0 0 (MQ below (QI kC g ad res (AA kC ad s.heap.size)) args s 0 0 (AA kC ad s.heap.size)) (F0 m 6 ls []) := by
  intro n
  induction n with
  | zero =>
    intro v2 v3 S H locs ls h
    cases (show (none : Option (Int32 × ST)) = some res from h)
  | succ n ih =>
    intro v2 v3 S H locs ls h X hl g2
    exact kb_X4_readSwinger_6 C ih h X hl g2
set_option maxHeartbeats 4000000 in
set_option maxRecDepth 100000 in
theorem c_X4_readSwinger (l : Launch) (g : GG) (ad : Nat → Nat) (S : ST) (sz : Nat) (a1 : Nat) (f1 : swk a1 = true) {res : (Int32 × ST)} (h : f_X4_readSwinger a1 S = some res) : Met l yX4_readSwinger (WS (.code yX4_readSwinger cX4_readSwinger 3 (some Jvm.ClassFile.FieldType.boolean))) rmX4_readSwinger (va_Pc [.ref (ad 3), .ref (ad a1)] (PW kC g ad S sz)) (QI kC g ad res (AA kC ad sz)) 0 0 (AA kC ad sz) := by
  refine go_m (Qc := fun A => QI kC g ad res A) (by decide) (Nat.le_of_ble_eq_true rfl) (fun p e s m below meth c ls H locs C X hl => ?_)
  have hx := C.1.1
  have hb := C.1.2.1
  have hl : lv_has ls 3 [(0, .ref (ad 3)), (1, .ref (ad a1))] := hl
  have h : (bn1 (f_X4_begin S) fun S1 => lp (fun _ _ _ => none) (b_X4_readSwinger_6) 1000 a1 ((0 : Int32)) S1 : Option (Int32 × ST)) = some res := h
  refine lv_aload_n hx hb dX4_readSwinger_0 rfl (lv_at hl 0 rfl) ?_
  obtain ⟨S1, qS1, h⟩ := bn1_s h
  refine kc_v X (res := S1) (rV (As := []) (rest := []) (n := 0) (k := 3) C X (c_X4_begin l g ad S _   qS1) wd_460 wd_462 wd_0 wd_72 wd_463 (by decide) (eC_3 g ad S) rfl rfl rfl (by decide +kernel) ⟨Nat.le_of_ble_eq_true rfl, Nat.le_of_ble_eq_true rfl⟩ rfl hl.1 (lv_room (Nat.le_of_ble_eq_true rfl)) dX4_readSwinger_1) (fun H locs X => ?_)
  refine lv_iconst (v := (0 : Int32)) hx hb dX4_readSwinger_4 (by decide) ?_
  refine lv_istore_n (lv' := [(2, .int ((0 : Int32))), (0, .ref (ad 3)), (1, .ref (ad a1))]) hx hb dX4_readSwinger_5 rfl hl (by decide) rfl (fun ls hl => ?_)
  exact kl_X4_readSwinger_6 C _ h X (lv_sub hl [1, 2, 0] rfl) f1

def rmX9_place : Room := { frames := 8, cells := 0, slots := 0, locals := 173 }
def f_X9_place  (S : ST) : Option (Int32 × ST) :=
  bn1 (f_X3_clear S) fun S1 => bnd (f_X4_readPlace S1) fun r3 S2 => bn1 (f_X7_clear S2) fun S4 => bn1 (f_X4_faultAt S4) fun r5 => nm (su S4 0 13 r5) fun S6 => if r3 = 0 then (bn1 (f_X4_faultNumber S6) fun r11 => some (((-10 : Int32)) - r11, S6)) else (bn1 (f_X3_copy S6) fun S8 => bn1 (f_X5_begin S8) fun S9 => bn1 (f_X4_clauses S9) fun r10 => some (r10, S9))
set_option maxHeartbeats 4000000 in
set_option maxRecDepth 100000 in
theorem c_X9_place (l : Launch) (g : GG) (ad : Nat → Nat) (S : ST) (sz : Nat)   {res : (Int32 × ST)} (h : f_X9_place S = some res) : Met l yX9_place (WS (.code yX9_place cX9_place 2 (some Jvm.ClassFile.FieldType.int))) rmX9_place (va_Pc [.ref (ad 0)] (PW kC g ad S sz)) (QI kC g ad res (AA kC ad sz)) 0 0 (AA kC ad sz) := by
  refine go_m (Qc := fun A => QI kC g ad res A) (by decide) (Nat.le_of_ble_eq_true rfl) (fun p e s m below meth c ls H locs C X hl => ?_)
  have hx := C.1.1
  have hb := C.1.2.1
  have hl : lv_has ls 2 [(0, .ref (ad 0))] := hl
  have h : (bn1 (f_X3_clear S) fun S1 => bnd (f_X4_readPlace S1) fun r3 S2 => bn1 (f_X7_clear S2) fun S4 => bn1 (f_X4_faultAt S4) fun r5 => nm (su S4 0 13 r5) fun S6 => if r3 = 0 then (bn1 (f_X4_faultNumber S6) fun r11 => some (((-10 : Int32)) - r11, S6)) else (bn1 (f_X3_copy S6) fun S8 => bn1 (f_X5_begin S8) fun S9 => bn1 (f_X4_clauses S9) fun r10 => some (r10, S9)) : Option (Int32 × ST)) = some res := h
  refine lv_aload_n hx hb dX9_place_0 rfl (lv_at hl 0 rfl) ?_
  refine g_get C X inT9 0 (by decide) (eC_0 g ad S) rfl 3 (by decide) wd_396 (v := .ref (ad 9)) rfl dX9_place_1 ?_
  obtain ⟨S1, qS1, h⟩ := bn1_s h
  refine kc_v X (res := S1) (rV (As := []) (rest := []) (n := 0) (k := 9) C X (c_X3_clear l g ad S _   qS1) wd_455 wd_149 wd_150 wd_73 wd_151 (by decide) (eC_9 g ad S) rfl rfl rfl (by decide +kernel) ⟨Nat.le_of_ble_eq_true rfl, Nat.le_of_ble_eq_true rfl⟩ rfl hl.1 (lv_room (Nat.le_of_ble_eq_true rfl)) dX9_place_4) (fun H locs X => ?_)
  refine lv_aload_n hx hb dX9_place_7 rfl (lv_at hl 0 rfl) ?_
  refine g_get C X inT9 0 (by decide) (eC_0 g ad S1) rfl 1 (by decide) wd_394 (v := .ref (ad 3)) rfl dX9_place_8 ?_
  refine lv_aload_n hx hb dX9_place_11 rfl (lv_at hl 0 rfl) ?_
  refine g_get C X inT9 0 (by decide) (eC_0 g ad S1) rfl 3 (by decide) wd_396 (v := .ref (ad 9)) rfl dX9_place_12 ?_
  obtain ⟨r3, S2, qr3, h⟩ := bnd_s h
  refine kc_i X (res := (r3, S2)) (rV (As := [.ref (ad 9)]) (rest := []) (n := 1) (k := 3) C X (c_X4_readPlace l g ad S1 _   qr3) wd_456 wd_457 wd_458 wd_72 wd_459 (by decide) (eC_3 g ad S1) rfl rfl rfl (by decide +kernel) ⟨Nat.le_of_ble_eq_true rfl, Nat.le_of_ble_eq_true rfl⟩ rfl hl.1 (lv_room (Nat.le_of_ble_eq_true rfl)) dX9_place_15) (fun H locs X => ?_)
  refine lv_istore_n (lv' := [(1, .int r3), (0, .ref (ad 0))]) hx hb dX9_place_18 rfl hl (by decide) rfl (fun ls hl => ?_)
  refine lv_aload_n hx hb dX9_place_19 rfl (lv_at hl 1 rfl) ?_
  refine g_get C X inT9 0 (by decide) (eC_0 g ad S2) rfl 0 (by decide) wd_393 (v := .ref (ad 1)) rfl dX9_place_20 ?_
  obtain ⟨S4, qS4, h⟩ := bn1_s h
  refine kc_v X (res := S4) (rV (As := []) (rest := []) (n := 0) (k := 1) C X (c_X7_clear l g ad S2 _   qS4) wd_590 wd_591 wd_592 wd_71 wd_593 (by decide) (eC_1 g ad S2) rfl rfl rfl (by decide +kernel) ⟨Nat.le_of_ble_eq_true rfl, Nat.le_of_ble_eq_true rfl⟩ rfl hl.1 (lv_room (Nat.le_of_ble_eq_true rfl)) dX9_place_23) (fun H locs X => ?_)
  refine lv_aload_n hx hb dX9_place_26 rfl (lv_at hl 1 rfl) ?_
  refine lv_aload_n hx hb dX9_place_27 rfl (lv_at hl 1 rfl) ?_
  refine g_get C X inT9 0 (by decide) (eC_0 g ad S4) rfl 1 (by decide) wd_394 (v := .ref (ad 3)) rfl dX9_place_28 ?_
  obtain ⟨r5, qr5, h⟩ := bn1_s h
  refine kc_i X (res := (r5, S4)) (rV (As := []) (rest := [.ref (ad 0)]) (n := 0) (k := 3) C X (c_X4_faultAt l g ad S4 _   qr5) wd_594 wd_595 wd_596 wd_72 wd_597 (by decide) (eC_3 g ad S4) rfl rfl rfl (by decide +kernel) ⟨Nat.le_of_ble_eq_true rfl, Nat.le_of_ble_eq_true rfl⟩ rfl hl.1 (lv_room (Nat.le_of_ble_eq_true rfl)) dX9_place_31) (fun H locs X => ?_)
  obtain ⟨S6, eS6, h⟩ := nm_s h
  refine g_put (S' := S6) C X inT9 tyX9 tyX9_ok nmX9 0 (by decide) (eC_0 g ad S4) rfl 13 (by decide) wd_406 rfl (by rfl) rfl (Nat.le_of_ble_eq_true rfl) (by subst eS6; rfl) (by subst eS6; exact fun i hi => ent_offu hi) dX9_place_34 (fun H locs X => ?_)
  refine lv_iload_n hx hb dX9_place_37 rfl (lv_at hl 0 rfl) ?_
  refine lv_if_ne (tgt := 52) hx hb dX9_place_38 (by decide) (fun c7 => ?_) (fun c7 => ?_)
  · have h := inn h c7
    refine lv_aload_n hx hb dX9_place_52 rfl (lv_at hl 1 rfl) ?_
    refine g_get C X inT9 0 (by decide) (eC_0 g ad S6) rfl 2 (by decide) wd_395 (v := .ref (ad 4)) rfl dX9_place_53 ?_
    refine lv_aload_n hx hb dX9_place_56 rfl (lv_at hl 1 rfl) ?_
    refine g_get C X inT9 0 (by decide) (eC_0 g ad S6) rfl 3 (by decide) wd_396 (v := .ref (ad 9)) rfl dX9_place_57 ?_
    obtain ⟨S8, qS8, h⟩ := bn1_s h
    refine kc_v X (res := S8) (rV (As := [.ref (ad 9)]) (rest := []) (n := 1) (k := 4) C X (c_X3_copy l g ad S6 _   qS8) wd_602 wd_603 wd_604 wd_73 wd_605 (by decide) (eC_4 g ad S6) rfl rfl rfl (by decide +kernel) ⟨Nat.le_of_ble_eq_true rfl, Nat.le_of_ble_eq_true rfl⟩ rfl hl.1 (lv_room (Nat.le_of_ble_eq_true rfl)) dX9_place_60) (fun H locs X => ?_)
    refine lv_aload_n hx hb dX9_place_63 rfl (lv_at hl 1 rfl) ?_
    refine g_get C X inT9 0 (by decide) (eC_0 g ad S8) rfl 6 (by decide) wd_399 (v := .ref (ad 31)) rfl dX9_place_64 ?_
    refine lv_aload_n hx hb dX9_place_67 rfl (lv_at hl 1 rfl) ?_
    refine g_get C X inT9 0 (by decide) (eC_0 g ad S8) rfl 2 (by decide) wd_395 (v := .ref (ad 4)) rfl dX9_place_68 ?_
    obtain ⟨S9, qS9, h⟩ := bn1_s h
    refine kc_v X (res := S9) (rV (As := [.ref (ad 4)]) (rest := []) (n := 1) (k := 31) C X (c_X5_begin l g ad S8 _   qS9) wd_378 wd_379 wd_380 wd_78 wd_381 (by decide) (eC_31 g ad S8) rfl rfl rfl (by decide +kernel) ⟨Nat.le_of_ble_eq_true rfl, Nat.le_of_ble_eq_true rfl⟩ rfl hl.1 (lv_room (Nat.le_of_ble_eq_true rfl)) dX9_place_71) (fun H locs X => ?_)
    refine lv_aload_n hx hb dX9_place_74 rfl (lv_at hl 1 rfl) ?_
    refine g_get C X inT9 0 (by decide) (eC_0 g ad S9) rfl 1 (by decide) wd_394 (v := .ref (ad 3)) rfl dX9_place_75 ?_
    obtain ⟨r10, qr10, h⟩ := bn1_s h
    refine kc_i X (res := (r10, S9)) (rV (As := []) (rest := []) (n := 0) (k := 3) C X (c_X4_clauses l g ad S9 _   qr10) wd_606 wd_607 wd_608 wd_72 wd_609 (by decide) (eC_3 g ad S9) rfl rfl rfl (by decide +kernel) ⟨Nat.le_of_ble_eq_true rfl, Nat.le_of_ble_eq_true rfl⟩ rfl hl.1 (lv_room (Nat.le_of_ble_eq_true rfl)) dX9_place_78) (fun H locs X => ?_)
    exact rt_i C X rfl (Option.some.inj h) dX9_place_81
  · have h := ip h c7
    refine lv_bipush (v := (-10 : Int32)) hx hb dX9_place_41 (by decide) ?_
    refine lv_aload_n hx hb dX9_place_43 rfl (lv_at hl 1 rfl) ?_
    refine g_get C X inT9 0 (by decide) (eC_0 g ad S6) rfl 1 (by decide) wd_394 (v := .ref (ad 3)) rfl dX9_place_44 ?_
    obtain ⟨r11, qr11, h⟩ := bn1_s h
    refine kc_i X (res := (r11, S6)) (rV (As := []) (rest := [.int ((-10 : Int32))]) (n := 0) (k := 3) C X (c_X4_faultNumber l g ad S6 _   qr11) wd_598 wd_599 wd_600 wd_72 wd_601 (by decide) (eC_3 g ad S6) rfl rfl rfl (by decide +kernel) ⟨Nat.le_of_ble_eq_true rfl, Nat.le_of_ble_eq_true rfl⟩ rfl hl.1 (lv_room (Nat.le_of_ble_eq_true rfl)) dX9_place_47) (fun H locs X => ?_)
    refine lv_isub hx hb dX9_place_50 ?_
    exact rt_i C X rfl (Option.some.inj h) dX9_place_51

def rmX9_swinger : Room := { frames := 4, cells := 0, slots := 0, locals := 87 }
def b_X9_swinger_47  (v2 : Option Nat) (S : ST) : Option (Int32 × ST) :=
  om v2 (some ((-1000000004 : Int32), S)) fun k4 => bnd (f_X4_readSwinger k4 S) fun r7 S6 => bn1 (f_X7_clear S6) fun S8 => bn1 (f_X4_faultAt S8) fun r9 => nm (su S8 0 13 r9) fun S10 => if r7 = 0 then (bn1 (f_X4_faultNumber S10) fun r13 => some (((-10 : Int32)) - r13, S10)) else (nm (su S10 0 5 ((S10.1 0 5) + ((1 : Int32)))) fun S12 => some ((S12.1 0 5) - ((1 : Int32)), S12))
def f_X9_swinger  (S : ST) : Option (Int32 × ST) :=
  bn1 (f_X7_length S) fun r1 => if r1 ≤ ((40 : Int32)) then (if (S.1 0 5) < 0 then (b_X9_swinger_47 none S) else (if ((8 : Int32)) ≤ (S.1 0 5) then (b_X9_swinger_47 none S) else (chk (ib (S.1 0 5) 8) (nm (15 + 2 * (S.1 0 5).toNatClampNeg) fun x16 => b_X9_swinger_47 (some x16) S)))) else (some ((-1000000003 : Int32), S))
set_option maxHeartbeats 4000000 in
set_option maxRecDepth 100000 in
theorem kb_X9_swinger_47 {p : Program} {l : Launch} {e : Env} {s : State} {m : MethodId} {args : Array Value} {below : List Frame} {meth : Method} {c : Code} {g : GG} {ad : Nat → Nat} {res : (Int32 × ST)} {S : ST} (C : CX kC g ad p s m args meth c cX9_swinger (some Jvm.ClassFile.FieldType.int) 3 yX9_swinger.cls (.code yX9_swinger cX9_swinger 3 (some Jvm.ClassFile.FieldType.int)))  {v2 : Option Nat}  {H : Heap} {locs : List Loc} {ls : Array Slot} (h : b_X9_swinger_47 v2 S = some res) (X : WX kC g ad s S H locs) (hl : lv_has ls 3 [(0, .ref (ad 0))]) (g2 : ∀ k, v2 = some k → swk k = true) : W p l e rmX9_swinger s m args below meth c H locs 0 0 (MQ below (QI kC g ad res (AA kC ad s.heap.size)) args s 0 0 (AA kC ad s.heap.size)) (F0 m 47 ls [va_rf (Option.map ad v2)]) := by
  have hx := C.1.1
  have hb := C.1.2.1
  have h : (om v2 (some ((-1000000004 : Int32), S)) fun k4 => bnd (f_X4_readSwinger k4 S) fun r7 S6 => bn1 (f_X7_clear S6) fun S8 => bn1 (f_X4_faultAt S8) fun r9 => nm (su S8 0 13 r9) fun S10 => if r7 = 0 then (bn1 (f_X4_faultNumber S10) fun r13 => some (((-10 : Int32)) - r13, S10)) else (nm (su S10 0 5 ((S10.1 0 5) + ((1 : Int32)))) fun S12 => some ((S12.1 0 5) - ((1 : Int32)), S12)) : Option (Int32 × ST)) = some res := h
  cases v2 with
  | none =>
    have h := om_n h
    refine lv_astore_nN (lv' := [(1, .null), (0, .ref (ad 0))]) hx hb dX9_swinger_47 rfl hl (by decide) rfl (fun ls hl => ?_)
    refine lv_aload_nN hx hb dX9_swinger_48 rfl (lv_at hl 0 rfl) ?_
    refine lv_ifnonnullN hx hb dX9_swinger_49 ?_
    refine lv_ldc (v := (-1000000004 : Int32)) hx hb C.1.2.2.2.2.2.1 (C.1.2.2.2.2.2.2 _ (ws_in wd_445)) dX9_swinger_52 ?_
    exact rt_i C X rfl (Option.some.inj h) dX9_swinger_54
  | some k4 =>
    have h := om_s h
    have y5 : swk k4 = true := g2 _ rfl
    refine lv_astore_n (lv' := [(1, .ref (ad k4)), (0, .ref (ad 0))]) hx hb dX9_swinger_47 rfl hl (by decide) rfl (fun ls hl => ?_)
    refine lv_aload_n hx hb dX9_swinger_48 rfl (lv_at hl 0 rfl) ?_
    refine lv_ifnonnull (tgt := 55) hx hb dX9_swinger_49 (by decide) ?_
    refine lv_aload_n hx hb dX9_swinger_55 rfl (lv_at hl 1 rfl) ?_
    refine g_get C X inT9 0 (by decide) (eC_0 g ad S) rfl 1 (by decide) wd_394 (v := .ref (ad 3)) rfl dX9_swinger_56 ?_
    refine lv_aload_n hx hb dX9_swinger_59 rfl (lv_at hl 0 rfl) ?_
    obtain ⟨r7, S6, qr7, h⟩ := bnd_s h
    refine kc_i X (res := (r7, S6)) (rV (As := [.ref (ad k4)]) (rest := []) (n := 1) (k := 3) C X (c_X4_readSwinger l g ad S _ k4 y5 qr7) wd_616 wd_617 wd_618 wd_72 wd_619 (by decide) (eC_3 g ad S) rfl rfl rfl (by decide +kernel) ⟨Nat.le_of_ble_eq_true rfl, Nat.le_of_ble_eq_true rfl⟩ rfl hl.1 (lv_room (Nat.le_of_ble_eq_true rfl)) dX9_swinger_60) (fun H locs X => ?_)
    refine lv_istore_n (lv' := [(2, .int r7), (1, .ref (ad k4)), (0, .ref (ad 0))]) hx hb dX9_swinger_63 rfl hl (by decide) rfl (fun ls hl => ?_)
    refine lv_aload_n hx hb dX9_swinger_64 rfl (lv_at hl 2 rfl) ?_
    refine g_get C X inT9 0 (by decide) (eC_0 g ad S6) rfl 0 (by decide) wd_393 (v := .ref (ad 1)) rfl dX9_swinger_65 ?_
    obtain ⟨S8, qS8, h⟩ := bn1_s h
    refine kc_v X (res := S8) (rV (As := []) (rest := []) (n := 0) (k := 1) C X (c_X7_clear l g ad S6 _   qS8) wd_590 wd_591 wd_592 wd_71 wd_593 (by decide) (eC_1 g ad S6) rfl rfl rfl (by decide +kernel) ⟨Nat.le_of_ble_eq_true rfl, Nat.le_of_ble_eq_true rfl⟩ rfl hl.1 (lv_room (Nat.le_of_ble_eq_true rfl)) dX9_swinger_68) (fun H locs X => ?_)
    refine lv_aload_n hx hb dX9_swinger_71 rfl (lv_at hl 2 rfl) ?_
    refine lv_aload_n hx hb dX9_swinger_72 rfl (lv_at hl 2 rfl) ?_
    refine g_get C X inT9 0 (by decide) (eC_0 g ad S8) rfl 1 (by decide) wd_394 (v := .ref (ad 3)) rfl dX9_swinger_73 ?_
    obtain ⟨r9, qr9, h⟩ := bn1_s h
    refine kc_i X (res := (r9, S8)) (rV (As := []) (rest := [.ref (ad 0)]) (n := 0) (k := 3) C X (c_X4_faultAt l g ad S8 _   qr9) wd_594 wd_595 wd_596 wd_72 wd_597 (by decide) (eC_3 g ad S8) rfl rfl rfl (by decide +kernel) ⟨Nat.le_of_ble_eq_true rfl, Nat.le_of_ble_eq_true rfl⟩ rfl hl.1 (lv_room (Nat.le_of_ble_eq_true rfl)) dX9_swinger_76) (fun H locs X => ?_)
    obtain ⟨S10, eS10, h⟩ := nm_s h
    refine g_put (S' := S10) C X inT9 tyX9 tyX9_ok nmX9 0 (by decide) (eC_0 g ad S8) rfl 13 (by decide) wd_406 rfl (by rfl) rfl (Nat.le_of_ble_eq_true rfl) (by subst eS10; rfl) (by subst eS10; exact fun i hi => ent_offu hi) dX9_swinger_79 (fun H locs X => ?_)
    refine lv_iload_n hx hb dX9_swinger_82 rfl (lv_at hl 0 rfl) ?_
    refine lv_if_ne (tgt := 97) hx hb dX9_swinger_83 (by decide) (fun c11 => ?_) (fun c11 => ?_)
    · have h := inn h c11
      refine lv_aload_n hx hb dX9_swinger_97 rfl (lv_at hl 2 rfl) ?_
      refine lv_dup hx hb dX9_swinger_98 rfl ?_
      refine g_get C X inT9 0 (by decide) (eC_0 g ad S10) rfl 5 (by decide) wd_398 (v := .int (S10.1 0 5)) rfl dX9_swinger_99 ?_
      refine lv_iconst (v := (1 : Int32)) hx hb dX9_swinger_102 (by decide) ?_
      refine lv_iadd hx hb dX9_swinger_103 ?_
      obtain ⟨S12, eS12, h⟩ := nm_s h
      refine g_put (S' := S12) C X inT9 tyX9 tyX9_ok nmX9 0 (by decide) (eC_0 g ad S10) rfl 5 (by decide) wd_398 rfl (by rfl) rfl (Nat.le_of_ble_eq_true rfl) (by subst eS12; rfl) (by subst eS12; exact fun i hi => ent_offu hi) dX9_swinger_104 (fun H locs X => ?_)
      refine lv_aload_n hx hb dX9_swinger_107 rfl (lv_at hl 2 rfl) ?_
      refine g_get C X inT9 0 (by decide) (eC_0 g ad S12) rfl 5 (by decide) wd_398 (v := .int (S12.1 0 5)) rfl dX9_swinger_108 ?_
      refine lv_iconst (v := (1 : Int32)) hx hb dX9_swinger_111 (by decide) ?_
      refine lv_isub hx hb dX9_swinger_112 ?_
      exact rt_i C X rfl (Option.some.inj h) dX9_swinger_113
    · have h := ip h c11
      refine lv_bipush (v := (-10 : Int32)) hx hb dX9_swinger_86 (by decide) ?_
      refine lv_aload_n hx hb dX9_swinger_88 rfl (lv_at hl 2 rfl) ?_
      refine g_get C X inT9 0 (by decide) (eC_0 g ad S10) rfl 1 (by decide) wd_394 (v := .ref (ad 3)) rfl dX9_swinger_89 ?_
      obtain ⟨r13, qr13, h⟩ := bn1_s h
      refine kc_i X (res := (r13, S10)) (rV (As := []) (rest := [.int ((-10 : Int32))]) (n := 0) (k := 3) C X (c_X4_faultNumber l g ad S10 _   qr13) wd_598 wd_599 wd_600 wd_72 wd_601 (by decide) (eC_3 g ad S10) rfl rfl rfl (by decide +kernel) ⟨Nat.le_of_ble_eq_true rfl, Nat.le_of_ble_eq_true rfl⟩ rfl hl.1 (lv_room (Nat.le_of_ble_eq_true rfl)) dX9_swinger_92) (fun H locs X => ?_)
      refine lv_isub hx hb dX9_swinger_95 ?_
      exact rt_i C X rfl (Option.some.inj h) dX9_swinger_96
set_option maxHeartbeats 4000000 in
set_option maxRecDepth 100000 in
theorem c_X9_swinger (l : Launch) (g : GG) (ad : Nat → Nat) (S : ST) (sz : Nat)   {res : (Int32 × ST)} (h : f_X9_swinger S = some res) : Met l yX9_swinger (WS (.code yX9_swinger cX9_swinger 3 (some Jvm.ClassFile.FieldType.int))) rmX9_swinger (va_Pc [.ref (ad 0)] (PW kC g ad S sz)) (QI kC g ad res (AA kC ad sz)) 0 0 (AA kC ad sz) := by
  refine go_m (Qc := fun A => QI kC g ad res A) (by decide) (Nat.le_of_ble_eq_true rfl) (fun p e s m below meth c ls H locs C X hl => ?_)
  have hx := C.1.1
  have hb := C.1.2.1
  have hl : lv_has ls 3 [(0, .ref (ad 0))] := hl
  have h : (bn1 (f_X7_length S) fun r1 => if r1 ≤ ((40 : Int32)) then (if (S.1 0 5) < 0 then (b_X9_swinger_47 none S) else (if ((8 : Int32)) ≤ (S.1 0 5) then (b_X9_swinger_47 none S) else (chk (ib (S.1 0 5) 8) (nm (15 + 2 * (S.1 0 5).toNatClampNeg) fun x16 => b_X9_swinger_47 (some x16) S)))) else (some ((-1000000003 : Int32), S)) : Option (Int32 × ST)) = some res := h
  refine lv_aload_n hx hb dX9_swinger_0 rfl (lv_at hl 0 rfl) ?_
  refine g_get C X inT9 0 (by decide) (eC_0 g ad S) rfl 0 (by decide) wd_393 (v := .ref (ad 1)) rfl dX9_swinger_1 ?_
  obtain ⟨r1, qr1, h⟩ := bn1_s h
  refine kc_i X (res := (r1, S)) (rV (As := []) (rest := []) (n := 0) (k := 1) C X (c_X7_length l g ad S _   qr1) wd_441 wd_442 wd_443 wd_71 wd_444 (by decide) (eC_1 g ad S) rfl rfl rfl (by decide +kernel) ⟨Nat.le_of_ble_eq_true rfl, Nat.le_of_ble_eq_true rfl⟩ rfl hl.1 (lv_room (Nat.le_of_ble_eq_true rfl)) dX9_swinger_4) (fun H locs X => ?_)
  refine lv_bipush (v := (40 : Int32)) hx hb dX9_swinger_7 (by decide) ?_
  refine lv_icmp_le (tgt := 15) hx hb dX9_swinger_9 (by decide) (fun c2 => ?_) (fun c2 => ?_)
  · have h := ip h c2
    refine lv_aload_n hx hb dX9_swinger_15 rfl (lv_at hl 0 rfl) ?_
    refine g_get C X inT9 0 (by decide) (eC_0 g ad S) rfl 5 (by decide) wd_398 (v := .int (S.1 0 5)) rfl dX9_swinger_16 ?_
    refine lv_if_lt (tgt := 46) hx hb dX9_swinger_19 (by decide) (fun c3 => ?_) (fun c3 => ?_)
    · have h := ip h c3
      refine lv_null hx hb dX9_swinger_46 ?_
      exact kb_X9_swinger_47 C h X (lv_sub hl [0] rfl) (fun k e => by cases e)
    · have h := inn h c3
      refine lv_aload_n hx hb dX9_swinger_22 rfl (lv_at hl 0 rfl) ?_
      refine g_get C X inT9 0 (by decide) (eC_0 g ad S) rfl 5 (by decide) wd_398 (v := .int (S.1 0 5)) rfl dX9_swinger_23 ?_
      refine lv_aload_n hx hb dX9_swinger_26 rfl (lv_at hl 0 rfl) ?_
      refine g_get C X inT9 0 (by decide) (eC_0 g ad S) rfl 4 (by decide) wd_397 (v := .ref (ad 14)) rfl dX9_swinger_27 ?_
      refine g_alen C X 14 2 (by decide) (eC_14 g ad S) rfl (v := (8 : Int32)) (by first | rfl | decide) dX9_swinger_30 ?_
      refine lv_icmp_ge (tgt := 46) hx hb dX9_swinger_31 (by decide) (fun c14 => ?_) (fun c14 => ?_)
      · have h := ip h c14
        refine lv_null hx hb dX9_swinger_46 ?_
        exact kb_X9_swinger_47 C h X (lv_sub hl [0] rfl) (fun k e => by cases e)
      · have h := inn h c14
        refine lv_aload_n hx hb dX9_swinger_34 rfl (lv_at hl 0 rfl) ?_
        refine g_get C X inT9 0 (by decide) (eC_0 g ad S) rfl 4 (by decide) wd_397 (v := .ref (ad 14)) rfl dX9_swinger_35 ?_
        refine lv_aload_n hx hb dX9_swinger_38 rfl (lv_at hl 0 rfl) ?_
        refine g_get C X inT9 0 (by decide) (eC_0 g ad S) rfl 5 (by decide) wd_398 (v := .int (S.1 0 5)) rfl dX9_swinger_39 ?_
        obtain ⟨k15, h⟩ := chk_s h
        refine g_aald C X 14 2 (by decide) (eC_14 g ad S) rfl k15 dX9_swinger_42 ?_
        obtain ⟨x16, ex16, h⟩ := nm_s h
        have y17 : swk x16 = true := by rw [ex16]; exact sw_ld k15
        refine tp_r ex16 ?_
        refine lv_goto (tgt := 47) hx hb dX9_swinger_43 (by decide) ?_
        exact kb_X9_swinger_47 C h X (lv_sub hl [0] rfl) (fun k e => by cases e; exact y17)
  · have h := inn h c2
    refine lv_ldc (v := (-1000000003 : Int32)) hx hb C.1.2.2.2.2.2.1 (C.1.2.2.2.2.2.2 _ (ws_in wd_615)) dX9_swinger_12 ?_
    exact rt_i C X rfl (Option.some.inj h) dX9_swinger_14
