def rmX10_in : Room := { frames := 0, cells := 0, slots := 0, locals := 0 }
def f_X10_in (a1 : Int64) (a2 : Int64) (a3 : Int64) : Option Int32 :=
  if (lg_cmp a1 a2) < 0 then (some ((0 : Int32))) else (if 0 < (lg_cmp a1 a3) then (some ((0 : Int32))) else (some ((1 : Int32))))
set_option maxHeartbeats 4000000 in
set_option maxRecDepth 100000 in
theorem c_X10_in (l : Launch) (g : GG) (ad : Nat → Nat) (S : ST) (sz : Nat) (a1 : Int64) (a2 : Int64) (a3 : Int64)  {res : Int32} (h : f_X10_in a1 a2 a3 = some res) : Met l yX10_in (WS (.code yX10_in cX10_in 6 (some Jvm.ClassFile.FieldType.boolean))) rmX10_in (va_Pc [.long a1, .long a2, .long a3] (PW kM g ad S sz)) (QI kM g ad (res, S) (AA kM ad sz)) 0 0 (AA kM ad sz) := by
  refine go_m (Qc := fun A => QI kM g ad (res, S) A) (by decide) (Nat.le_of_ble_eq_true rfl) (fun p e s m below meth c ls H locs C X hl => ?_)
  have hx := C.1.1
  have hb := C.1.2.1
  have hl : lv_has ls 6 [(0, .long a1), (2, .long a2), (4, .long a3)] := hl
  have h : (if (lg_cmp a1 a2) < 0 then (some ((0 : Int32))) else (if 0 < (lg_cmp a1 a3) then (some ((0 : Int32))) else (some ((1 : Int32)))) : Option Int32) = some res := h
  refine lv_lload_n hx hb dX10_in_0 rfl (lv_at hl 0 rfl) ?_
  refine lv_lload_n hx hb dX10_in_1 rfl (lv_at hl 1 rfl) ?_
  refine W.lcmp hx hb dX10_in_2 ?_
  refine lv_if_lt (tgt := 17) hx hb dX10_in_3 (by decide) (fun c1 => ?_) (fun c1 => ?_)
  · have h := ip h c1
    refine lv_iconst (v := (0 : Int32)) hx hb dX10_in_17 (by decide) ?_
    exact rt_z C X rfl (by decide) (congrArg (fun z => (z, S)) (Option.some.inj h)) dX10_in_18
  · have h := inn h c1
    refine lv_lload_n hx hb dX10_in_6 rfl (lv_at hl 0 rfl) ?_
    refine lv_lload hx hb dX10_in_7 (lv_at hl 2 rfl) ?_
    refine W.lcmp hx hb dX10_in_9 ?_
    refine lv_if_gt (tgt := 17) hx hb dX10_in_10 (by decide) (fun c2 => ?_) (fun c2 => ?_)
    · have h := ip h c2
      refine lv_iconst (v := (0 : Int32)) hx hb dX10_in_17 (by decide) ?_
      exact rt_z C X rfl (by decide) (congrArg (fun z => (z, S)) (Option.some.inj h)) dX10_in_18
    · have h := inn h c2
      refine lv_iconst (v := (1 : Int32)) hx hb dX10_in_13 (by decide) ?_
      refine lv_goto (tgt := 18) hx hb dX10_in_14 (by decide) ?_
      exact rt_z C X rfl (by decide) (congrArg (fun z => (z, S)) (Option.some.inj h)) dX10_in_18

def rmX10_isSwinger : Room := { frames := 1, cells := 0, slots := 0, locals := 25 }
def f_X10_isSwinger (a1 : Int32) (S : ST) : Option Int32 :=
  bn1 (f_X10_in (a1.toInt64) ((0 : Int64)) (((S.1 0 4) - ((1 : Int32))).toInt64)) fun r1 => chk (zb r1) (some r1)
set_option maxHeartbeats 4000000 in
set_option maxRecDepth 100000 in
theorem c_X10_isSwinger (l : Launch) (g : GG) (ad : Nat → Nat) (S : ST) (sz : Nat) (a1 : Int32)  {res : Int32} (h : f_X10_isSwinger a1 S = some res) : Met l yX10_isSwinger (WS (.code yX10_isSwinger cX10_isSwinger 2 (some Jvm.ClassFile.FieldType.boolean))) rmX10_isSwinger (va_Pc [.ref (ad 0), .int a1] (PW kM g ad S sz)) (QI kM g ad (res, S) (AA kM ad sz)) 0 0 (AA kM ad sz) := by
  refine go_m (Qc := fun A => QI kM g ad (res, S) A) (by decide) (Nat.le_of_ble_eq_true rfl) (fun p e s m below meth c ls H locs C X hl => ?_)
  have hx := C.1.1
  have hb := C.1.2.1
  have hl : lv_has ls 2 [(0, .ref (ad 0)), (1, .int a1)] := hl
  have h : (bn1 (f_X10_in (a1.toInt64) ((0 : Int64)) (((S.1 0 4) - ((1 : Int32))).toInt64)) fun r1 => chk (zb r1) (some r1) : Option Int32) = some res := h
  refine lv_iload_n hx hb dX10_isSwinger_0 rfl (lv_at hl 1 rfl) ?_
  refine lv_i2l hx hb dX10_isSwinger_1 rfl ?_
  refine lv_lconst (v := (0 : Int64)) hx hb dX10_isSwinger_2 (by decide) ?_
  refine lv_aload_n hx hb dX10_isSwinger_3 rfl (lv_at hl 0 rfl) ?_
  refine g_get C X inT10 0 (by decide) (eM_0 g ad S) rfl 4 (by decide) wd_1010 (v := .int (S.1 0 4)) rfl dX10_isSwinger_4 ?_
  refine lv_iconst (v := (1 : Int32)) hx hb dX10_isSwinger_7 (by decide) ?_
  refine lv_isub hx hb dX10_isSwinger_8 ?_
  refine lv_i2l hx hb dX10_isSwinger_9 rfl ?_
  obtain ⟨r1, qr1, h⟩ := bn1_s h
  refine kc_i X (res := (r1, S)) (rS (As := [.long (a1.toInt64), .long ((0 : Int64)), .long (((S.1 0 4) - ((1 : Int32))).toInt64)]) (rest := []) (n := 3) C X (c_X10_in l g ad S _ (a1.toInt64) ((0 : Int64)) (((S.1 0 4) - ((1 : Int32))).toInt64)  qr1) wd_1151 wd_1152 wd_83 wd_1153 rfl rfl (by decide +kernel) ⟨Nat.le_of_ble_eq_true rfl, Nat.le_of_ble_eq_true rfl⟩ rfl hl.1 (lv_room (Nat.le_of_ble_eq_true rfl)) dX10_isSwinger_10) (fun H locs X => ?_)
  obtain ⟨k2, h⟩ := chk_s h
  exact rt_z C X rfl (zb_or k2) (congrArg (fun z => (z, S)) (Option.some.inj h)) dX10_isSwinger_13

def rmX10_feed : Room := { frames := 1, cells := 0, slots := 0, locals := 25 }
def b_X10_feed_35 (K35 : Int64 → Int32 → ST → Option (Int32 × ST)) (v2 : Int64) (v3 : Int32) (S : ST) : Option (Int32 × ST) :=
  if v3 < 0 then (some (S.1 0 8, S)) else (chk (ib (S.1 0 8) 300) (nm (su S 7 (S.1 0 8).toNatClampNeg (((v2 >>> ((((8 : Int32)) * v3).toInt64 &&& 63)) &&& ((255 : Int64))).toInt32)) fun S7 => nm (su S7 0 8 ((S7.1 0 8) + ((1 : Int32)))) fun S8 => nm (v3 + (-1 : Int32)) fun x9 => K35 v2 x9 S8))
def f_X10_feed (a1 : Int32) (a2 : Int64) (S : ST) : Option (Int32 × ST) :=
  bn1 (f_X10_in (a1.toInt64) ((1 : Int64)) ((8 : Int64))) fun r1 => if r1 = 0 then (some ((-1000000002 : Int32), S)) else (if ((S.1 0 8) + a1) ≤ ((300 : Int32)) then (nm (a1 - ((1 : Int32))) fun x4 => lp (fun _ _ _ => none) (b_X10_feed_35) 1000 a2 x4 S) else (some ((-1000000004 : Int32), S)))
set_option maxHeartbeats 4000000 in
set_option maxRecDepth 100000 in
theorem kb_X10_feed_35 {p : Program} {l : Launch} {e : Env} {s : State} {m : MethodId} {args : Array Value} {below : List Frame} {meth : Method} {c : Code} {g : GG} {ad : Nat → Nat} {res : (Int32 × ST)} {S : ST} (C : CX kM g ad p s m args meth c cX10_feed (some Jvm.ClassFile.FieldType.int) 5 yX10_feed.cls (.code yX10_feed cX10_feed 5 (some Jvm.ClassFile.FieldType.int))) {K35 : Int64 → Int32 → ST → Option (Int32 × ST)} (hK35 : ∀ {v2 : Int64} {v3 : Int32} {S : ST} {H : Heap} {locs : List Loc} {ls : Array Slot}, K35 v2 v3 S = some res → WX kM g ad s S H locs → lv_has ls 5 [(0, .ref (ad 0)), (2, .long v2), (4, .int v3)] → W p l e rmX10_feed s m args below meth c H locs 0 0 (MQ below (QI kM g ad res (AA kM ad s.heap.size)) args s 0 0 (AA kM ad s.heap.size)) (F0 m 35 ls [])) {v2 : Int64} {v3 : Int32}  {H : Heap} {locs : List Loc} {ls : Array Slot} (h : b_X10_feed_35 K35 v2 v3 S = some res) (X : WX kM g ad s S H locs) (hl : lv_has ls 5 [(0, .ref (ad 0)), (2, .long v2), (4, .int v3)])  : W p l e rmX10_feed s m args below meth c H locs 0 0 (MQ below (QI kM g ad res (AA kM ad s.heap.size)) args s 0 0 (AA kM ad s.heap.size)) (F0 m 35 ls []) := by
  have hx := C.1.1
  have hb := C.1.2.1
  have h : (if v3 < 0 then (some (S.1 0 8, S)) else (chk (ib (S.1 0 8) 300) (nm (su S 7 (S.1 0 8).toNatClampNeg (((v2 >>> ((((8 : Int32)) * v3).toInt64 &&& 63)) &&& ((255 : Int64))).toInt32)) fun S7 => nm (su S7 0 8 ((S7.1 0 8) + ((1 : Int32)))) fun S8 => nm (v3 + (-1 : Int32)) fun x9 => K35 v2 x9 S8)) : Option (Int32 × ST)) = some res := h
  refine lv_iload hx hb dX10_feed_35 (lv_at hl 2 rfl) ?_
  refine lv_if_lt (tgt := 77) hx hb dX10_feed_37 (by decide) (fun c5 => ?_) (fun c5 => ?_)
  · have h := ip h c5
    refine lv_aload_n hx hb dX10_feed_77 rfl (lv_at hl 0 rfl) ?_
    refine g_get C X inT10 0 (by decide) (eM_0 g ad S) rfl 8 (by decide) wd_1014 (v := .int (S.1 0 8)) rfl dX10_feed_78 ?_
    exact rt_i C X rfl (Option.some.inj h) dX10_feed_81
  · have h := inn h c5
    refine lv_aload_n hx hb dX10_feed_40 rfl (lv_at hl 0 rfl) ?_
    refine g_get C X inT10 0 (by decide) (eM_0 g ad S) rfl 7 (by decide) wd_1013 (v := .ref (ad 7)) rfl dX10_feed_41 ?_
    refine lv_aload_n hx hb dX10_feed_44 rfl (lv_at hl 0 rfl) ?_
    refine g_get C X inT10 0 (by decide) (eM_0 g ad S) rfl 8 (by decide) wd_1014 (v := .int (S.1 0 8)) rfl dX10_feed_45 ?_
    refine lv_lload_n hx hb dX10_feed_48 rfl (lv_at hl 1 rfl) ?_
    refine lv_bipush (v := (8 : Int32)) hx hb dX10_feed_49 (by decide) ?_
    refine lv_iload hx hb dX10_feed_51 (lv_at hl 2 rfl) ?_
    refine lv_imul hx hb dX10_feed_53 ?_
    refine lv_lshr hx hb dX10_feed_54 rfl ?_
    refine lv_ldc2 (v := (255 : Int64)) hx hb C.1.2.2.2.2.2.1 (C.1.2.2.2.2.2.2 _ (ws_in wd_1156)) dX10_feed_55 ?_
    refine lv_land hx hb dX10_feed_58 ?_
    refine lv_l2i hx hb dX10_feed_59 rfl ?_
    obtain ⟨k6, h⟩ := chk_s h
    obtain ⟨S7, eS7, h⟩ := nm_s h
    refine g_iast (S' := S7) C X 7 (by decide) (eM_7 g ad S) k6 (by subst eS7; rfl) (by subst eS7; exact fun i hi => ent_offu hi) dX10_feed_60 (fun H locs X => ?_)
    refine lv_aload_n hx hb dX10_feed_61 rfl (lv_at hl 0 rfl) ?_
    refine lv_dup hx hb dX10_feed_62 rfl ?_
    refine g_get C X inT10 0 (by decide) (eM_0 g ad S7) rfl 8 (by decide) wd_1014 (v := .int (S7.1 0 8)) rfl dX10_feed_63 ?_
    refine lv_iconst (v := (1 : Int32)) hx hb dX10_feed_66 (by decide) ?_
    refine lv_iadd hx hb dX10_feed_67 ?_
    obtain ⟨S8, eS8, h⟩ := nm_s h
    refine g_put (S' := S8) C X inT10 tyX10 tyX10_ok nmX10 0 (by decide) (eM_0 g ad S7) rfl 8 (by decide) wd_1014 rfl (by rfl) rfl (Nat.le_of_ble_eq_true rfl) (by subst eS8; rfl) (by subst eS8; exact fun i hi => ent_offu hi) dX10_feed_68 (fun H locs X => ?_)
    obtain ⟨x9, ex9, h⟩ := nm_s h
    refine lv_iinc (v := x9) (lv' := [(4, .int x9), (0, .ref (ad 0)), (2, .long v2)]) hx hb dX10_feed_71 hl (k := 2) rfl (by rw [ex9]; rfl) (by decide) rfl (fun ls hl => ?_)
    refine lv_goto (tgt := 35) hx hb dX10_feed_74 (by decide) ?_
    exact hK35 h X (lv_sub hl [1, 2, 0] rfl) 
set_option maxHeartbeats 4000000 in
set_option maxRecDepth 100000 in
theorem kl_X10_feed_35 {p : Program} {l : Launch} {e : Env} {s : State} {m : MethodId} {args : Array Value} {below : List Frame} {meth : Method} {c : Code} {g : GG} {ad : Nat → Nat} {res : (Int32 × ST)}  (C : CX kM g ad p s m args meth c cX10_feed (some Jvm.ClassFile.FieldType.int) 5 yX10_feed.cls (.code yX10_feed cX10_feed 5 (some Jvm.ClassFile.FieldType.int)))  : ∀ (n : Nat) {v2 : Int64} {v3 : Int32} {S : ST} {H : Heap} {locs : List Loc} {ls : Array Slot}, (lp (fun _ _ _ => none) (b_X10_feed_35)) n v2 v3 S = some res → WX kM g ad s S H locs → lv_has ls 5 [(0, .ref (ad 0)), (2, .long v2), (4, .int v3)] → W p l e rmX10_feed s m args below meth c H locs 0 0 (MQ below (QI kM g ad res (AA kM ad s.heap.size)) args s 0 0 (AA kM ad s.heap.size)) (F0 m 35 ls []) := by
  intro n
  induction n with
  | zero =>
    intro v2 v3 S H locs ls h
    cases (show (none : Option (Int32 × ST)) = some res from h)
  | succ n ih =>
    intro v2 v3 S H locs ls h X hl 
    exact kb_X10_feed_35 C ih h X hl 
set_option maxHeartbeats 4000000 in
set_option maxRecDepth 100000 in
theorem c_X10_feed (l : Launch) (g : GG) (ad : Nat → Nat) (S : ST) (sz : Nat) (a1 : Int32) (a2 : Int64)  {res : (Int32 × ST)} (h : f_X10_feed a1 a2 S = some res) : Met l yX10_feed (WS (.code yX10_feed cX10_feed 5 (some Jvm.ClassFile.FieldType.int))) rmX10_feed (va_Pc [.ref (ad 0), .int a1, .long a2] (PW kM g ad S sz)) (QI kM g ad res (AA kM ad sz)) 0 0 (AA kM ad sz) := by
  refine go_m (Qc := fun A => QI kM g ad res A) (by decide) (Nat.le_of_ble_eq_true rfl) (fun p e s m below meth c ls H locs C X hl => ?_)
  have hx := C.1.1
  have hb := C.1.2.1
  have hl : lv_has ls 5 [(0, .ref (ad 0)), (1, .int a1), (2, .long a2)] := hl
  have h : (bn1 (f_X10_in (a1.toInt64) ((1 : Int64)) ((8 : Int64))) fun r1 => if r1 = 0 then (some ((-1000000002 : Int32), S)) else (if ((S.1 0 8) + a1) ≤ ((300 : Int32)) then (nm (a1 - ((1 : Int32))) fun x4 => lp (fun _ _ _ => none) (b_X10_feed_35) 1000 a2 x4 S) else (some ((-1000000004 : Int32), S))) : Option (Int32 × ST)) = some res := h
  refine lv_iload_n hx hb dX10_feed_0 rfl (lv_at hl 1 rfl) ?_
  refine lv_i2l hx hb dX10_feed_1 rfl ?_
  refine lv_lconst (v := (1 : Int64)) hx hb dX10_feed_2 (by decide) ?_
  refine lv_ldc2 (v := (8 : Int64)) hx hb C.1.2.2.2.2.2.1 (C.1.2.2.2.2.2.2 _ (ws_in wd_1150)) dX10_feed_3 ?_
  obtain ⟨r1, qr1, h⟩ := bn1_s h
  refine kc_i X (res := (r1, S)) (rS (As := [.long (a1.toInt64), .long ((1 : Int64)), .long ((8 : Int64))]) (rest := []) (n := 3) C X (c_X10_in l g ad S _ (a1.toInt64) ((1 : Int64)) ((8 : Int64))  qr1) wd_1151 wd_1152 wd_83 wd_1153 rfl rfl (by decide +kernel) ⟨Nat.le_of_ble_eq_true rfl, Nat.le_of_ble_eq_true rfl⟩ rfl hl.1 (lv_room (Nat.le_of_ble_eq_true rfl)) dX10_feed_6) (fun H locs X => ?_)
  refine lv_if_ne (tgt := 15) hx hb dX10_feed_9 (by decide) (fun c2 => ?_) (fun c2 => ?_)
  · have h := inn h c2
    refine lv_aload_n hx hb dX10_feed_15 rfl (lv_at hl 0 rfl) ?_
    refine g_get C X inT10 0 (by decide) (eM_0 g ad S) rfl 8 (by decide) wd_1014 (v := .int (S.1 0 8)) rfl dX10_feed_16 ?_
    refine lv_iload_n hx hb dX10_feed_19 rfl (lv_at hl 1 rfl) ?_
    refine lv_iadd hx hb dX10_feed_20 ?_
    refine lv_sipush (v := (300 : Int32)) hx hb dX10_feed_21 (by decide) ?_
    refine lv_icmp_le (tgt := 30) hx hb dX10_feed_24 (by decide) (fun c3 => ?_) (fun c3 => ?_)
    · have h := ip h c3
      refine lv_iload_n hx hb dX10_feed_30 rfl (lv_at hl 1 rfl) ?_
      refine lv_iconst (v := (1 : Int32)) hx hb dX10_feed_31 (by decide) ?_
      refine lv_isub hx hb dX10_feed_32 ?_
      obtain ⟨x4, ex4, h⟩ := nm_s h
      refine tp_i ex4 ?_
      refine lv_istore (lv' := [(4, .int x4), (0, .ref (ad 0)), (1, .int a1), (2, .long a2)]) hx hb dX10_feed_33 hl (by decide) rfl (fun ls hl => ?_)
      exact kl_X10_feed_35 C _ h X (lv_sub hl [1, 3, 0] rfl) 
    · have h := inn h c3
      refine lv_ldc (v := (-1000000004 : Int32)) hx hb C.1.2.2.2.2.2.1 (C.1.2.2.2.2.2.2 _ (ws_in wd_1155)) dX10_feed_27 ?_
      exact rt_i C X rfl (Option.some.inj h) dX10_feed_29
  · have h := ip h c2
    refine lv_ldc (v := (-1000000002 : Int32)) hx hb C.1.2.2.2.2.2.1 (C.1.2.2.2.2.2.2 _ (ws_in wd_1154)) dX10_feed_12 ?_
    exact rt_i C X rfl (Option.some.inj h) dX10_feed_14

def rmX10_here : Room := { frames := 0, cells := 0, slots := 0, locals := 0 }
def b_X10_here_38   (S : ST) : Option (Int32 × ST) :=
  if (S.1 0 8) ≤ (S.1 0 10) then (some ((-1 : Int32), S)) else (chk (ib (S.1 0 10) 300) (some (S.1 7 (S.1 0 10).toNatClampNeg, S)))
def b_X10_here_0 (K0 : ST → Option (Int32 × ST))  (S : ST) : Option (Int32 × ST) :=
  if (S.1 0 8) ≤ (S.1 0 10) then (b_X10_here_38 S) else (chk (ib (S.1 0 10) 300) (if (S.1 7 (S.1 0 10).toNatClampNeg) = ((32 : Int32)) then (nm (su S 0 10 ((S.1 0 10) + ((1 : Int32)))) fun S6 => K0 S6) else (b_X10_here_38 S)))
def f_X10_here  (S : ST) : Option (Int32 × ST) :=
  lp (fun _ => none) (b_X10_here_0) 1000 S
set_option maxHeartbeats 4000000 in
set_option maxRecDepth 100000 in
theorem kb_X10_here_38 {p : Program} {l : Launch} {e : Env} {s : State} {m : MethodId} {args : Array Value} {below : List Frame} {meth : Method} {c : Code} {g : GG} {ad : Nat → Nat} {res : (Int32 × ST)} {S : ST} (C : CX kM g ad p s m args meth c cX10_here (some Jvm.ClassFile.FieldType.int) 1 yX10_here.cls (.code yX10_here cX10_here 1 (some Jvm.ClassFile.FieldType.int)))    {H : Heap} {locs : List Loc} {ls : Array Slot} (h : b_X10_here_38 S = some res) (X : WX kM g ad s S H locs) (hl : lv_has ls 1 [(0, .ref (ad 0))])  : W p l e rmX10_here s m args below meth c H locs 0 0 (MQ below (QI kM g ad res (AA kM ad s.heap.size)) args s 0 0 (AA kM ad s.heap.size)) (F0 m 38 ls []) := by
  have hx := C.1.1
  have hb := C.1.2.1
  have h : (if (S.1 0 8) ≤ (S.1 0 10) then (some ((-1 : Int32), S)) else (chk (ib (S.1 0 10) 300) (some (S.1 7 (S.1 0 10).toNatClampNeg, S))) : Option (Int32 × ST)) = some res := h
  refine lv_aload_n hx hb dX10_here_38 rfl (lv_at hl 0 rfl) ?_
  refine g_get C X inT10 0 (by decide) (eM_0 g ad S) rfl 10 (by decide) wd_1016 (v := .int (S.1 0 10)) rfl dX10_here_39 ?_
  refine lv_aload_n hx hb dX10_here_42 rfl (lv_at hl 0 rfl) ?_
  refine g_get C X inT10 0 (by decide) (eM_0 g ad S) rfl 8 (by decide) wd_1014 (v := .int (S.1 0 8)) rfl dX10_here_43 ?_
  refine lv_icmp_ge (tgt := 61) hx hb dX10_here_46 (by decide) (fun c2 => ?_) (fun c2 => ?_)
  · have h := ip h c2
    refine lv_iconst (v := (-1 : Int32)) hx hb dX10_here_61 (by decide) ?_
    exact rt_i C X rfl (Option.some.inj h) dX10_here_62
  · have h := inn h c2
    refine lv_aload_n hx hb dX10_here_49 rfl (lv_at hl 0 rfl) ?_
    refine g_get C X inT10 0 (by decide) (eM_0 g ad S) rfl 7 (by decide) wd_1013 (v := .ref (ad 7)) rfl dX10_here_50 ?_
    refine lv_aload_n hx hb dX10_here_53 rfl (lv_at hl 0 rfl) ?_
    refine g_get C X inT10 0 (by decide) (eM_0 g ad S) rfl 10 (by decide) wd_1016 (v := .int (S.1 0 10)) rfl dX10_here_54 ?_
    obtain ⟨k3, h⟩ := chk_s h
    refine g_iald C X 7 (by decide) (eM_7 g ad S) k3 dX10_here_57 ?_
    refine lv_goto (tgt := 62) hx hb dX10_here_58 (by decide) ?_
    exact rt_i C X rfl (Option.some.inj h) dX10_here_62
set_option maxHeartbeats 4000000 in
set_option maxRecDepth 100000 in
theorem kb_X10_here_0 {p : Program} {l : Launch} {e : Env} {s : State} {m : MethodId} {args : Array Value} {below : List Frame} {meth : Method} {c : Code} {g : GG} {ad : Nat → Nat} {res : (Int32 × ST)} {S : ST} (C : CX kM g ad p s m args meth c cX10_here (some Jvm.ClassFile.FieldType.int) 1 yX10_here.cls (.code yX10_here cX10_here 1 (some Jvm.ClassFile.FieldType.int))) {K0 : ST → Option (Int32 × ST)} (hK0 : ∀  {S : ST} {H : Heap} {locs : List Loc} {ls : Array Slot}, K0 S = some res → WX kM g ad s S H locs → lv_has ls 1 [(0, .ref (ad 0))] → W p l e rmX10_here s m args below meth c H locs 0 0 (MQ below (QI kM g ad res (AA kM ad s.heap.size)) args s 0 0 (AA kM ad s.heap.size)) (F0 m 0 ls []))   {H : Heap} {locs : List Loc} {ls : Array Slot} (h : b_X10_here_0 K0 S = some res) (X : WX kM g ad s S H locs) (hl : lv_has ls 1 [(0, .ref (ad 0))])  : W p l e rmX10_here s m args below meth c H locs 0 0 (MQ below (QI kM g ad res (AA kM ad s.heap.size)) args s 0 0 (AA kM ad s.heap.size)) (F0 m 0 ls []) := by
  have hx := C.1.1
  have hb := C.1.2.1
  have h : (if (S.1 0 8) ≤ (S.1 0 10) then (b_X10_here_38 S) else (chk (ib (S.1 0 10) 300) (if (S.1 7 (S.1 0 10).toNatClampNeg) = ((32 : Int32)) then (nm (su S 0 10 ((S.1 0 10) + ((1 : Int32)))) fun S6 => K0 S6) else (b_X10_here_38 S))) : Option (Int32 × ST)) = some res := h
  refine lv_aload_n hx hb dX10_here_0 rfl (lv_at hl 0 rfl) ?_
  refine g_get C X inT10 0 (by decide) (eM_0 g ad S) rfl 10 (by decide) wd_1016 (v := .int (S.1 0 10)) rfl dX10_here_1 ?_
  refine lv_aload_n hx hb dX10_here_4 rfl (lv_at hl 0 rfl) ?_
  refine g_get C X inT10 0 (by decide) (eM_0 g ad S) rfl 8 (by decide) wd_1014 (v := .int (S.1 0 8)) rfl dX10_here_5 ?_
  refine lv_icmp_ge (tgt := 38) hx hb dX10_here_8 (by decide) (fun c1 => ?_) (fun c1 => ?_)
  · have h := ip h c1
    exact kb_X10_here_38 C h X (lv_sub hl [0] rfl) 
  · have h := inn h c1
    refine lv_aload_n hx hb dX10_here_11 rfl (lv_at hl 0 rfl) ?_
    refine g_get C X inT10 0 (by decide) (eM_0 g ad S) rfl 7 (by decide) wd_1013 (v := .ref (ad 7)) rfl dX10_here_12 ?_
    refine lv_aload_n hx hb dX10_here_15 rfl (lv_at hl 0 rfl) ?_
    refine g_get C X inT10 0 (by decide) (eM_0 g ad S) rfl 10 (by decide) wd_1016 (v := .int (S.1 0 10)) rfl dX10_here_16 ?_
    obtain ⟨k4, h⟩ := chk_s h
    refine g_iald C X 7 (by decide) (eM_7 g ad S) k4 dX10_here_19 ?_
    refine lv_bipush (v := (32 : Int32)) hx hb dX10_here_20 (by decide) ?_
    refine lv_icmp_ne (tgt := 38) hx hb dX10_here_22 (by decide) (fun c5 => ?_) (fun c5 => ?_)
    · have h := inn h c5
      exact kb_X10_here_38 C h X (lv_sub hl [0] rfl) 
    · have h := ip h c5
      refine lv_aload_n hx hb dX10_here_25 rfl (lv_at hl 0 rfl) ?_
      refine lv_dup hx hb dX10_here_26 rfl ?_
      refine g_get C X inT10 0 (by decide) (eM_0 g ad S) rfl 10 (by decide) wd_1016 (v := .int (S.1 0 10)) rfl dX10_here_27 ?_
      refine lv_iconst (v := (1 : Int32)) hx hb dX10_here_30 (by decide) ?_
      refine lv_iadd hx hb dX10_here_31 ?_
      obtain ⟨S6, eS6, h⟩ := nm_s h
      refine g_put (S' := S6) C X inT10 tyX10 tyX10_ok nmX10 0 (by decide) (eM_0 g ad S) rfl 10 (by decide) wd_1016 rfl (by rfl) rfl (Nat.le_of_ble_eq_true rfl) (by subst eS6; rfl) (by subst eS6; exact fun i hi => ent_offu hi) dX10_here_32 (fun H locs X => ?_)
      refine lv_goto (tgt := 0) hx hb dX10_here_35 (by decide) ?_
      exact hK0 h X (lv_sub hl [0] rfl) 
set_option maxHeartbeats 4000000 in
set_option maxRecDepth 100000 in
theorem kl_X10_here_0 {p : Program} {l : Launch} {e : Env} {s : State} {m : MethodId} {args : Array Value} {below : List Frame} {meth : Method} {c : Code} {g : GG} {ad : Nat → Nat} {res : (Int32 × ST)}  (C : CX kM g ad p s m args meth c cX10_here (some Jvm.ClassFile.FieldType.int) 1 yX10_here.cls (.code yX10_here cX10_here 1 (some Jvm.ClassFile.FieldType.int)))  : ∀ (n : Nat)  {S : ST} {H : Heap} {locs : List Loc} {ls : Array Slot}, (lp (fun _ => none) (b_X10_here_0)) n S = some res → WX kM g ad s S H locs → lv_has ls 1 [(0, .ref (ad 0))] → W p l e rmX10_here s m args below meth c H locs 0 0 (MQ below (QI kM g ad res (AA kM ad s.heap.size)) args s 0 0 (AA kM ad s.heap.size)) (F0 m 0 ls []) := by
  intro n
  induction n with
  | zero =>
    intro S H locs ls h
    cases (show (none : Option (Int32 × ST)) = some res from h)
  | succ n ih =>
    intro S H locs ls h X hl 
    exact kb_X10_here_0 C ih h X hl 
set_option maxHeartbeats 4000000 in
set_option maxRecDepth 100000 in
theorem c_X10_here (l : Launch) (g : GG) (ad : Nat → Nat) (S : ST) (sz : Nat)   {res : (Int32 × ST)} (h : f_X10_here S = some res) : Met l yX10_here (WS (.code yX10_here cX10_here 1 (some Jvm.ClassFile.FieldType.int))) rmX10_here (va_Pc [.ref (ad 0)] (PW kM g ad S sz)) (QI kM g ad res (AA kM ad sz)) 0 0 (AA kM ad sz) := by
  refine go_m (Qc := fun A => QI kM g ad res A) (by decide) (Nat.le_of_ble_eq_true rfl) (fun p e s m below meth c ls H locs C X hl => ?_)
  have hx := C.1.1
  have hb := C.1.2.1
  have hl : lv_has ls 1 [(0, .ref (ad 0))] := hl
  have h : (lp (fun _ => none) (b_X10_here_0) 1000 S : Option (Int32 × ST)) = some res := h
  exact kl_X10_here_0 C _ h X (lv_sub hl [0] rfl) 

def rmX10_fails : Room := { frames := 0, cells := 0, slots := 0, locals := 0 }
def f_X10_fails (a1 : Int32) (a2 : Int32) (S : ST) : Option (Int32 × ST) :=
  nm (su S 0 9 a2) fun S1 => some (a1, S1)
set_option maxHeartbeats 4000000 in
set_option maxRecDepth 100000 in
theorem c_X10_fails (l : Launch) (g : GG) (ad : Nat → Nat) (S : ST) (sz : Nat) (a1 : Int32) (a2 : Int32)  {res : (Int32 × ST)} (h : f_X10_fails a1 a2 S = some res) : Met l yX10_fails (WS (.code yX10_fails cX10_fails 3 (some Jvm.ClassFile.FieldType.int))) rmX10_fails (va_Pc [.ref (ad 0), .int a1, .int a2] (PW kM g ad S sz)) (QI kM g ad res (AA kM ad sz)) 0 0 (AA kM ad sz) := by
  refine go_m (Qc := fun A => QI kM g ad res A) (by decide) (Nat.le_of_ble_eq_true rfl) (fun p e s m below meth c ls H locs C X hl => ?_)
  have hx := C.1.1
  have hb := C.1.2.1
  have hl : lv_has ls 3 [(0, .ref (ad 0)), (1, .int a1), (2, .int a2)] := hl
  have h : (nm (su S 0 9 a2) fun S1 => some (a1, S1) : Option (Int32 × ST)) = some res := h
  refine lv_aload_n hx hb dX10_fails_0 rfl (lv_at hl 0 rfl) ?_
  refine lv_iload_n hx hb dX10_fails_1 rfl (lv_at hl 2 rfl) ?_
  obtain ⟨S1, eS1, h⟩ := nm_s h
  refine g_put (S' := S1) C X inT10 tyX10 tyX10_ok nmX10 0 (by decide) (eM_0 g ad S) rfl 9 (by decide) wd_1015 rfl (by rfl) rfl (Nat.le_of_ble_eq_true rfl) (by subst eS1; rfl) (by subst eS1; exact fun i hi => ent_offu hi) dX10_fails_2 (fun H locs X => ?_)
  refine lv_iload_n hx hb dX10_fails_5 rfl (lv_at hl 1 rfl) ?_
  exact rt_i C X rfl (Option.some.inj h) dX10_fails_6

def rmX10_readWord : Room := { frames := 1, cells := 0, slots := 0, locals := 25 }
def b_X10_readWord_92 (K18 : ST → Option ST) (v2 : Int64) (S : ST) : Option ST :=
  nm (sl S v2) fun S11 => nm (su S11 0 12 ((S11.1 0 12) + ((1 : Int32)))) fun S12 => K18 S12
def b_X10_readWord_18 (K18 : ST → Option ST)  (S : ST) : Option ST :=
  if (S.1 0 8) ≤ (S.1 0 12) then (some S) else (chk (ib (S.1 0 12) 300) (bn1 (f_X10_in ((S.1 7 (S.1 0 12).toNatClampNeg).toInt64) ((97 : Int64)) ((122 : Int64))) fun r7 => if r7 = 0 then (some S) else (if (lg_cmp (S.2) ((1000000000000 : Int64))) ≤ 0 then (chk (ib (S.1 0 12) 300) (b_X10_readWord_92 K18 (((((27 : Int64)) * (S.2)) + ((S.1 7 (S.1 0 12).toNatClampNeg).toInt64)) - ((96 : Int64))) S)) else (b_X10_readWord_92 K18 ((2000000000000 : Int64)) S))))
def f_X10_readWord  (S : ST) : Option ST :=
  bnd (f_X10_here S) fun r2 S1 => nm (sl S1 ((0 : Int64))) fun S3 => nm (su S3 0 12 (S3.1 0 10)) fun S4 => lp (fun _ => none) (b_X10_readWord_18) 1000 S4
set_option maxHeartbeats 4000000 in
set_option maxRecDepth 100000 in
theorem kb_X10_readWord_92 {p : Program} {l : Launch} {e : Env} {s : State} {m : MethodId} {args : Array Value} {below : List Frame} {meth : Method} {c : Code} {g : GG} {ad : Nat → Nat} {res : ST} {S : ST} (C : CX kM g ad p s m args meth c cX10_readWord none 2 yX10_readWord.cls (.code yX10_readWord cX10_readWord 2 none)) {K18 : ST → Option ST} (hK18 : ∀  {S : ST} {H : Heap} {locs : List Loc} {ls : Array Slot}, K18 S = some res → WX kM g ad s S H locs → lv_has ls 2 [(0, .ref (ad 0))] → W p l e rmX10_readWord s m args below meth c H locs 0 0 (MQ below (QV kM g ad res (AA kM ad s.heap.size)) args s 0 0 (AA kM ad s.heap.size)) (F0 m 18 ls [])) {v2 : Int64}  {H : Heap} {locs : List Loc} {ls : Array Slot} (h : b_X10_readWord_92 K18 v2 S = some res) (X : WX kM g ad s S H locs) (hl : lv_has ls 2 [(0, .ref (ad 0))])  : W p l e rmX10_readWord s m args below meth c H locs 0 0 (MQ below (QV kM g ad res (AA kM ad s.heap.size)) args s 0 0 (AA kM ad s.heap.size)) (F0 m 92 ls [.long v2, .ref (ad 0)]) := by
  have hx := C.1.1
  have hb := C.1.2.1
  have h : (nm (sl S v2) fun S11 => nm (su S11 0 12 ((S11.1 0 12) + ((1 : Int32)))) fun S12 => K18 S12 : Option ST) = some res := h
  obtain ⟨S11, eS11, h⟩ := nm_s h
  refine g_put (S' := S11) C X inT10 tyX10 tyX10_ok nmX10 0 (by decide) (eM_0 g ad S) rfl 11 (by decide) wd_1017 rfl (by rfl) rfl (Nat.le_of_ble_eq_true rfl) (by subst eS11; rfl) (by subst eS11; exact fun i hi => ent_offl hi) dX10_readWord_92 (fun H locs X => ?_)
  refine lv_aload_n hx hb dX10_readWord_95 rfl (lv_at hl 0 rfl) ?_
  refine lv_dup hx hb dX10_readWord_96 rfl ?_
  refine g_get C X inT10 0 (by decide) (eM_0 g ad S11) rfl 12 (by decide) wd_1018 (v := .int (S11.1 0 12)) rfl dX10_readWord_97 ?_
  refine lv_iconst (v := (1 : Int32)) hx hb dX10_readWord_100 (by decide) ?_
  refine lv_iadd hx hb dX10_readWord_101 ?_
  obtain ⟨S12, eS12, h⟩ := nm_s h
  refine g_put (S' := S12) C X inT10 tyX10 tyX10_ok nmX10 0 (by decide) (eM_0 g ad S11) rfl 12 (by decide) wd_1018 rfl (by rfl) rfl (Nat.le_of_ble_eq_true rfl) (by subst eS12; rfl) (by subst eS12; exact fun i hi => ent_offu hi) dX10_readWord_102 (fun H locs X => ?_)
  refine lv_goto (tgt := 18) hx hb dX10_readWord_105 (by decide) ?_
  exact hK18 h X (lv_sub hl [0] rfl) 
set_option maxHeartbeats 4000000 in
set_option maxRecDepth 100000 in
theorem kb_X10_readWord_18 {p : Program} {l : Launch} {e : Env} {s : State} {m : MethodId} {args : Array Value} {below : List Frame} {meth : Method} {c : Code} {g : GG} {ad : Nat → Nat} {res : ST} {S : ST} (C : CX kM g ad p s m args meth c cX10_readWord none 2 yX10_readWord.cls (.code yX10_readWord cX10_readWord 2 none)) {K18 : ST → Option ST} (hK18 : ∀  {S : ST} {H : Heap} {locs : List Loc} {ls : Array Slot}, K18 S = some res → WX kM g ad s S H locs → lv_has ls 2 [(0, .ref (ad 0))] → W p l e rmX10_readWord s m args below meth c H locs 0 0 (MQ below (QV kM g ad res (AA kM ad s.heap.size)) args s 0 0 (AA kM ad s.heap.size)) (F0 m 18 ls []))   {H : Heap} {locs : List Loc} {ls : Array Slot} (h : b_X10_readWord_18 K18 S = some res) (X : WX kM g ad s S H locs) (hl : lv_has ls 2 [(0, .ref (ad 0))])  : W p l e rmX10_readWord s m args below meth c H locs 0 0 (MQ below (QV kM g ad res (AA kM ad s.heap.size)) args s 0 0 (AA kM ad s.heap.size)) (F0 m 18 ls []) := by
  have hx := C.1.1
  have hb := C.1.2.1
  have h : (if (S.1 0 8) ≤ (S.1 0 12) then (some S) else (chk (ib (S.1 0 12) 300) (bn1 (f_X10_in ((S.1 7 (S.1 0 12).toNatClampNeg).toInt64) ((97 : Int64)) ((122 : Int64))) fun r7 => if r7 = 0 then (some S) else (if (lg_cmp (S.2) ((1000000000000 : Int64))) ≤ 0 then (chk (ib (S.1 0 12) 300) (b_X10_readWord_92 K18 (((((27 : Int64)) * (S.2)) + ((S.1 7 (S.1 0 12).toNatClampNeg).toInt64)) - ((96 : Int64))) S)) else (b_X10_readWord_92 K18 ((2000000000000 : Int64)) S)))) : Option ST) = some res := h
  refine lv_aload_n hx hb dX10_readWord_18 rfl (lv_at hl 0 rfl) ?_
  refine g_get C X inT10 0 (by decide) (eM_0 g ad S) rfl 12 (by decide) wd_1018 (v := .int (S.1 0 12)) rfl dX10_readWord_19 ?_
  refine lv_aload_n hx hb dX10_readWord_22 rfl (lv_at hl 0 rfl) ?_
  refine g_get C X inT10 0 (by decide) (eM_0 g ad S) rfl 8 (by decide) wd_1014 (v := .int (S.1 0 8)) rfl dX10_readWord_23 ?_
  refine lv_icmp_ge (tgt := 108) hx hb dX10_readWord_26 (by decide) (fun c5 => ?_) (fun c5 => ?_)
  · have h := ip h c5
    exact rt_v C X rfl (Option.some.inj h) dX10_readWord_108
  · have h := inn h c5
    refine lv_aload_n hx hb dX10_readWord_29 rfl (lv_at hl 0 rfl) ?_
    refine g_get C X inT10 0 (by decide) (eM_0 g ad S) rfl 7 (by decide) wd_1013 (v := .ref (ad 7)) rfl dX10_readWord_30 ?_
    refine lv_aload_n hx hb dX10_readWord_33 rfl (lv_at hl 0 rfl) ?_
    refine g_get C X inT10 0 (by decide) (eM_0 g ad S) rfl 12 (by decide) wd_1018 (v := .int (S.1 0 12)) rfl dX10_readWord_34 ?_
    obtain ⟨k6, h⟩ := chk_s h
    refine g_iald C X 7 (by decide) (eM_7 g ad S) k6 dX10_readWord_37 ?_
    refine lv_i2l hx hb dX10_readWord_38 rfl ?_
    refine lv_ldc2 (v := (97 : Int64)) hx hb C.1.2.2.2.2.2.1 (C.1.2.2.2.2.2.2 _ (ws_in wd_1173)) dX10_readWord_39 ?_
    refine lv_ldc2 (v := (122 : Int64)) hx hb C.1.2.2.2.2.2.1 (C.1.2.2.2.2.2.2 _ (ws_in wd_1174)) dX10_readWord_42 ?_
    obtain ⟨r7, qr7, h⟩ := bn1_s h
    refine kc_i X (res := (r7, S)) (rS (As := [.long ((S.1 7 (S.1 0 12).toNatClampNeg).toInt64), .long ((97 : Int64)), .long ((122 : Int64))]) (rest := []) (n := 3) C X (c_X10_in l g ad S _ ((S.1 7 (S.1 0 12).toNatClampNeg).toInt64) ((97 : Int64)) ((122 : Int64))  qr7) wd_1151 wd_1152 wd_83 wd_1153 rfl rfl (by decide +kernel) ⟨Nat.le_of_ble_eq_true rfl, Nat.le_of_ble_eq_true rfl⟩ rfl hl.1 (lv_room (Nat.le_of_ble_eq_true rfl)) dX10_readWord_45) (fun H locs X => ?_)
    refine lv_if_eq (tgt := 108) hx hb dX10_readWord_48 (by decide) (fun c8 => ?_) (fun c8 => ?_)
    · have h := ip h c8
      exact rt_v C X rfl (Option.some.inj h) dX10_readWord_108
    · have h := inn h c8
      refine lv_aload_n hx hb dX10_readWord_51 rfl (lv_at hl 0 rfl) ?_
      refine lv_aload_n hx hb dX10_readWord_52 rfl (lv_at hl 0 rfl) ?_
      refine g_get C X inT10 0 (by decide) (eM_0 g ad S) rfl 11 (by decide) wd_1017 (v := .long (S.2)) rfl dX10_readWord_53 ?_
      refine lv_ldc2 (v := (1000000000000 : Int64)) hx hb C.1.2.2.2.2.2.1 (C.1.2.2.2.2.2.2 _ (ws_in wd_1175)) dX10_readWord_56 ?_
      refine W.lcmp hx hb dX10_readWord_59 ?_
      refine lv_if_le (tgt := 69) hx hb dX10_readWord_60 (by decide) (fun c9 => ?_) (fun c9 => ?_)
      · have h := ip h c9
        refine lv_ldc2 (v := (27 : Int64)) hx hb C.1.2.2.2.2.2.1 (C.1.2.2.2.2.2.2 _ (ws_in wd_1177)) dX10_readWord_69 ?_
        refine lv_aload_n hx hb dX10_readWord_72 rfl (lv_at hl 0 rfl) ?_
        refine g_get C X inT10 0 (by decide) (eM_0 g ad S) rfl 11 (by decide) wd_1017 (v := .long (S.2)) rfl dX10_readWord_73 ?_
        refine lv_lmul hx hb dX10_readWord_76 ?_
        refine lv_aload_n hx hb dX10_readWord_77 rfl (lv_at hl 0 rfl) ?_
        refine g_get C X inT10 0 (by decide) (eM_0 g ad S) rfl 7 (by decide) wd_1013 (v := .ref (ad 7)) rfl dX10_readWord_78 ?_
        refine lv_aload_n hx hb dX10_readWord_81 rfl (lv_at hl 0 rfl) ?_
        refine g_get C X inT10 0 (by decide) (eM_0 g ad S) rfl 12 (by decide) wd_1018 (v := .int (S.1 0 12)) rfl dX10_readWord_82 ?_
        obtain ⟨k10, h⟩ := chk_s h
        refine g_iald C X 7 (by decide) (eM_7 g ad S) k10 dX10_readWord_85 ?_
        refine lv_i2l hx hb dX10_readWord_86 rfl ?_
        refine lv_ladd hx hb dX10_readWord_87 ?_
        refine lv_ldc2 (v := (96 : Int64)) hx hb C.1.2.2.2.2.2.1 (C.1.2.2.2.2.2.2 _ (ws_in wd_1178)) dX10_readWord_88 ?_
        refine lv_lsub hx hb dX10_readWord_91 ?_
        exact kb_X10_readWord_92 C hK18 h X (lv_sub hl [0] rfl) 
      · have h := inn h c9
        refine lv_ldc2 (v := (2000000000000 : Int64)) hx hb C.1.2.2.2.2.2.1 (C.1.2.2.2.2.2.2 _ (ws_in wd_1176)) dX10_readWord_63 ?_
        refine lv_goto (tgt := 92) hx hb dX10_readWord_66 (by decide) ?_
        exact kb_X10_readWord_92 C hK18 h X (lv_sub hl [0] rfl) 
set_option maxHeartbeats 4000000 in
set_option maxRecDepth 100000 in
theorem kl_X10_readWord_18 {p : Program} {l : Launch} {e : Env} {s : State} {m : MethodId} {args : Array Value} {below : List Frame} {meth : Method} {c : Code} {g : GG} {ad : Nat → Nat} {res : ST}  (C : CX kM g ad p s m args meth c cX10_readWord none 2 yX10_readWord.cls (.code yX10_readWord cX10_readWord 2 none))  : ∀ (n : Nat)  {S : ST} {H : Heap} {locs : List Loc} {ls : Array Slot}, (lp (fun _ => none) (b_X10_readWord_18)) n S = some res → WX kM g ad s S H locs → lv_has ls 2 [(0, .ref (ad 0))] → W p l e rmX10_readWord s m args below meth c H locs 0 0 (MQ below (QV kM g ad res (AA kM ad s.heap.size)) args s 0 0 (AA kM ad s.heap.size)) (F0 m 18 ls []) := by
  intro n
  induction n with
  | zero =>
    intro S H locs ls h
    cases (show (none : Option ST) = some res from h)
  | succ n ih =>
    intro S H locs ls h X hl 
    exact kb_X10_readWord_18 C ih h X hl 
set_option maxHeartbeats 4000000 in
set_option maxRecDepth 100000 in
theorem c_X10_readWord (l : Launch) (g : GG) (ad : Nat → Nat) (S : ST) (sz : Nat)   {res : ST} (h : f_X10_readWord S = some res) : Met l yX10_readWord (WS (.code yX10_readWord cX10_readWord 2 none)) rmX10_readWord (va_Pc [.ref (ad 0)] (PW kM g ad S sz)) (QV kM g ad res (AA kM ad sz)) 0 0 (AA kM ad sz) := by
  refine go_m (Qc := fun A => QV kM g ad res A) (by decide) (Nat.le_of_ble_eq_true rfl) (fun p e s m below meth c ls H locs C X hl => ?_)
  have hx := C.1.1
  have hb := C.1.2.1
  have hl : lv_has ls 2 [(0, .ref (ad 0))] := hl
  have h : (bnd (f_X10_here S) fun r2 S1 => nm (sl S1 ((0 : Int64))) fun S3 => nm (su S3 0 12 (S3.1 0 10)) fun S4 => lp (fun _ => none) (b_X10_readWord_18) 1000 S4 : Option ST) = some res := h
  refine lv_aload_n hx hb dX10_readWord_0 rfl (lv_at hl 0 rfl) ?_
  obtain ⟨r2, S1, qr2, h⟩ := bnd_s h
  refine kc_i X (res := (r2, S1)) (rV (As := []) (rest := []) (n := 0) (k := 0) C X (c_X10_here l g ad S _   qr2) wd_1161 wd_1163 wd_30 wd_83 wd_1164 (by decide) (eM_0 g ad S) rfl rfl rfl (by decide +kernel) ⟨Nat.le_of_ble_eq_true rfl, Nat.le_of_ble_eq_true rfl⟩ rfl hl.1 (lv_room (Nat.le_of_ble_eq_true rfl)) dX10_readWord_1) (fun H locs X => ?_)
  refine lv_istore_n (lv' := [(1, .int r2), (0, .ref (ad 0))]) hx hb dX10_readWord_4 rfl hl (by decide) rfl (fun ls hl => ?_)
  refine lv_aload_n hx hb dX10_readWord_5 rfl (lv_at hl 1 rfl) ?_
  refine lv_lconst (v := (0 : Int64)) hx hb dX10_readWord_6 (by decide) ?_
  obtain ⟨S3, eS3, h⟩ := nm_s h
  refine g_put (S' := S3) C X inT10 tyX10 tyX10_ok nmX10 0 (by decide) (eM_0 g ad S1) rfl 11 (by decide) wd_1017 rfl (by rfl) rfl (Nat.le_of_ble_eq_true rfl) (by subst eS3; rfl) (by subst eS3; exact fun i hi => ent_offl hi) dX10_readWord_7 (fun H locs X => ?_)
  refine lv_aload_n hx hb dX10_readWord_10 rfl (lv_at hl 1 rfl) ?_
  refine lv_aload_n hx hb dX10_readWord_11 rfl (lv_at hl 1 rfl) ?_
  refine g_get C X inT10 0 (by decide) (eM_0 g ad S3) rfl 10 (by decide) wd_1016 (v := .int (S3.1 0 10)) rfl dX10_readWord_12 ?_
  obtain ⟨S4, eS4, h⟩ := nm_s h
  refine g_put (S' := S4) C X inT10 tyX10 tyX10_ok nmX10 0 (by decide) (eM_0 g ad S3) rfl 12 (by decide) wd_1018 rfl (by rfl) rfl (Nat.le_of_ble_eq_true rfl) (by subst eS4; rfl) (by subst eS4; exact fun i hi => ent_offu hi) dX10_readWord_15 (fun H locs X => ?_)
  exact kl_X10_readWord_18 C _ h X (lv_sub hl [1] rfl) 

def rmX10_code : Room := { frames := 0, cells := 0, slots := 0, locals := 0 }
def f_X10_code (a1 : Int32) (a2 : Int32) (a3 : Int32) (a4 : Int32) : Option Int64 :=
  some (((((27 : Int64)) * (((((27 : Int64)) * (((((27 : Int64)) * ((a1.toInt64) - ((96 : Int64)))) + (a2.toInt64)) - ((96 : Int64)))) + (a3.toInt64)) - ((96 : Int64)))) + (a4.toInt64)) - ((96 : Int64)))
set_option maxHeartbeats 4000000 in
set_option maxRecDepth 100000 in
theorem c_X10_code (l : Launch) (g : GG) (ad : Nat → Nat) (S : ST) (sz : Nat) (a1 : Int32) (a2 : Int32) (a3 : Int32) (a4 : Int32)  {res : Int64} (h : f_X10_code a1 a2 a3 a4 = some res) : Met l yX10_code (WS (.code yX10_code cX10_code 4 (some Jvm.ClassFile.FieldType.long))) rmX10_code (va_Pc [.int a1, .int a2, .int a3, .int a4] (PW kM g ad S sz)) (QL kM g ad (res, S) (AA kM ad sz)) 0 0 (AA kM ad sz) := by
  refine go_m (Qc := fun A => QL kM g ad (res, S) A) (by decide) (Nat.le_of_ble_eq_true rfl) (fun p e s m below meth c ls H locs C X hl => ?_)
  have hx := C.1.1
  have hb := C.1.2.1
  have hl : lv_has ls 4 [(0, .int a1), (1, .int a2), (2, .int a3), (3, .int a4)] := hl
  have h : (some (((((27 : Int64)) * (((((27 : Int64)) * (((((27 : Int64)) * ((a1.toInt64) - ((96 : Int64)))) + (a2.toInt64)) - ((96 : Int64)))) + (a3.toInt64)) - ((96 : Int64)))) + (a4.toInt64)) - ((96 : Int64))) : Option Int64) = some res := h
  refine lv_ldc2 (v := (27 : Int64)) hx hb C.1.2.2.2.2.2.1 (C.1.2.2.2.2.2.2 _ (ws_in wd_1177)) dX10_code_0 ?_
  refine lv_ldc2 (v := (27 : Int64)) hx hb C.1.2.2.2.2.2.1 (C.1.2.2.2.2.2.2 _ (ws_in wd_1177)) dX10_code_3 ?_
  refine lv_ldc2 (v := (27 : Int64)) hx hb C.1.2.2.2.2.2.1 (C.1.2.2.2.2.2.2 _ (ws_in wd_1177)) dX10_code_6 ?_
  refine lv_iload_n hx hb dX10_code_9 rfl (lv_at hl 0 rfl) ?_
  refine lv_i2l hx hb dX10_code_10 rfl ?_
  refine lv_ldc2 (v := (96 : Int64)) hx hb C.1.2.2.2.2.2.1 (C.1.2.2.2.2.2.2 _ (ws_in wd_1178)) dX10_code_11 ?_
  refine lv_lsub hx hb dX10_code_14 ?_
  refine lv_lmul hx hb dX10_code_15 ?_
  refine lv_iload_n hx hb dX10_code_16 rfl (lv_at hl 1 rfl) ?_
  refine lv_i2l hx hb dX10_code_17 rfl ?_
  refine lv_ladd hx hb dX10_code_18 ?_
  refine lv_ldc2 (v := (96 : Int64)) hx hb C.1.2.2.2.2.2.1 (C.1.2.2.2.2.2.2 _ (ws_in wd_1178)) dX10_code_19 ?_
  refine lv_lsub hx hb dX10_code_22 ?_
  refine lv_lmul hx hb dX10_code_23 ?_
  refine lv_iload_n hx hb dX10_code_24 rfl (lv_at hl 2 rfl) ?_
  refine lv_i2l hx hb dX10_code_25 rfl ?_
  refine lv_ladd hx hb dX10_code_26 ?_
  refine lv_ldc2 (v := (96 : Int64)) hx hb C.1.2.2.2.2.2.1 (C.1.2.2.2.2.2.2 _ (ws_in wd_1178)) dX10_code_27 ?_
  refine lv_lsub hx hb dX10_code_30 ?_
  refine lv_lmul hx hb dX10_code_31 ?_
  refine lv_iload_n hx hb dX10_code_32 rfl (lv_at hl 3 rfl) ?_
  refine lv_i2l hx hb dX10_code_33 rfl ?_
  refine lv_ladd hx hb dX10_code_34 ?_
  refine lv_ldc2 (v := (96 : Int64)) hx hb C.1.2.2.2.2.2.1 (C.1.2.2.2.2.2.2 _ (ws_in wd_1178)) dX10_code_35 ?_
  refine lv_lsub hx hb dX10_code_38 ?_
  exact rt_l C X rfl (congrArg (fun z => (z, S)) (Option.some.inj h)) dX10_code_39

def rmX10_longer : Room := { frames := 0, cells := 0, slots := 0, locals := 0 }
def f_X10_longer (a1 : Int64) (a2 : Int32) : Option Int64 :=
  some (((((27 : Int64)) * a1) + (a2.toInt64)) - ((96 : Int64)))
set_option maxHeartbeats 4000000 in
set_option maxRecDepth 100000 in
theorem c_X10_longer (l : Launch) (g : GG) (ad : Nat → Nat) (S : ST) (sz : Nat) (a1 : Int64) (a2 : Int32)  {res : Int64} (h : f_X10_longer a1 a2 = some res) : Met l yX10_longer (WS (.code yX10_longer cX10_longer 3 (some Jvm.ClassFile.FieldType.long))) rmX10_longer (va_Pc [.long a1, .int a2] (PW kM g ad S sz)) (QL kM g ad (res, S) (AA kM ad sz)) 0 0 (AA kM ad sz) := by
  refine go_m (Qc := fun A => QL kM g ad (res, S) A) (by decide) (Nat.le_of_ble_eq_true rfl) (fun p e s m below meth c ls H locs C X hl => ?_)
  have hx := C.1.1
  have hb := C.1.2.1
  have hl : lv_has ls 3 [(0, .long a1), (2, .int a2)] := hl
  have h : (some (((((27 : Int64)) * a1) + (a2.toInt64)) - ((96 : Int64))) : Option Int64) = some res := h
  refine lv_ldc2 (v := (27 : Int64)) hx hb C.1.2.2.2.2.2.1 (C.1.2.2.2.2.2.2 _ (ws_in wd_1177)) dX10_longer_0 ?_
  refine lv_lload_n hx hb dX10_longer_3 rfl (lv_at hl 0 rfl) ?_
  refine lv_lmul hx hb dX10_longer_4 ?_
  refine lv_iload_n hx hb dX10_longer_5 rfl (lv_at hl 1 rfl) ?_
  refine lv_i2l hx hb dX10_longer_6 rfl ?_
  refine lv_ladd hx hb dX10_longer_7 ?_
  refine lv_ldc2 (v := (96 : Int64)) hx hb C.1.2.2.2.2.2.1 (C.1.2.2.2.2.2.2 _ (ws_in wd_1178)) dX10_longer_8 ?_
  refine lv_lsub hx hb dX10_longer_11 ?_
  exact rt_l C X rfl (congrArg (fun z => (z, S)) (Option.some.inj h)) dX10_longer_12

def rmX10_takeNumber : Room := { frames := 1, cells := 0, slots := 0, locals := 25 }
def b_X10_takeNumber_157   (S : ST) : Option (Int32 × ST) :=
  bnd (f_X10_fails ((2 : Int32)) (S.1 0 14) S) fun r10 S9 => some (r10, S9)
def b_X10_takeNumber_129  (v2 : Int32) (v3 : Int32) (S : ST) : Option (Int32 × ST) :=
  if ((3 : Int32)) < ((S.1 0 10) - (S.1 0 14)) then (b_X10_takeNumber_157 S) else (bn1 (f_X10_in ((S.1 0 13).toInt64) (v2.toInt64) (v3.toInt64)) fun r11 => if r11 = 0 then (b_X10_takeNumber_157 S) else (some ((0 : Int32), S)))
def b_X10_takeNumber_113 (K42 : Int32 → Int32 → ST → Option (Int32 × ST)) (v2 : Int32) (v3 : Int32) (v4 : Int32) (S : ST) : Option (Int32 × ST) :=
  nm (su S 0 13 v4) fun S18 => nm (su S18 0 10 ((S18.1 0 10) + ((1 : Int32)))) fun S19 => K42 v2 v3 S19
def b_X10_takeNumber_42 (K42 : Int32 → Int32 → ST → Option (Int32 × ST)) (v2 : Int32) (v3 : Int32) (S : ST) : Option (Int32 × ST) :=
  if (S.1 0 8) ≤ (S.1 0 10) then (b_X10_takeNumber_129 v2 v3 S) else (chk (ib (S.1 0 10) 300) (bn1 (f_X10_in ((S.1 7 (S.1 0 10).toNatClampNeg).toInt64) ((48 : Int64)) ((57 : Int64))) fun r14 => if r14 = 0 then (b_X10_takeNumber_129 v2 v3 S) else (if (S.1 0 13) ≤ ((10000 : Int32)) then (chk (ib (S.1 0 10) 300) (b_X10_takeNumber_113 K42 v2 v3 (((((10 : Int32)) * (S.1 0 13)) + (S.1 7 (S.1 0 10).toNatClampNeg)) - ((48 : Int32))) S)) else (b_X10_takeNumber_113 K42 v2 v3 (S.1 0 13) S))))
def f_X10_takeNumber (a1 : Int32) (a2 : Int32) (S : ST) : Option (Int32 × ST) :=
  bnd (f_X10_here S) fun r2 S1 => bn1 (f_X10_in (r2.toInt64) ((48 : Int64)) ((57 : Int64))) fun r3 => if r3 = 0 then (bnd (f_X10_fails ((1 : Int32)) (S1.1 0 10) S1) fun r21 S20 => some (r21, S20)) else (nm (su S1 0 14 (S1.1 0 10)) fun S5 => nm (su S5 0 13 ((0 : Int32))) fun S6 => lp (fun _ _ _ => none) (b_X10_takeNumber_42) 1000 a1 a2 S6)
set_option maxHeartbeats 4000000 in
set_option maxRecDepth 100000 in
theorem kb_X10_takeNumber_157 {p : Program} {l : Launch} {e : Env} {s : State} {m : MethodId} {args : Array Value} {below : List Frame} {meth : Method} {c : Code} {g : GG} {ad : Nat → Nat} {res : (Int32 × ST)} {S : ST} (C : CX kM g ad p s m args meth c cX10_takeNumber (some Jvm.ClassFile.FieldType.int) 4 yX10_takeNumber.cls (.code yX10_takeNumber cX10_takeNumber 4 (some Jvm.ClassFile.FieldType.int)))    {H : Heap} {locs : List Loc} {ls : Array Slot} (h : b_X10_takeNumber_157 S = some res) (X : WX kM g ad s S H locs) (hl : lv_has ls 4 [(0, .ref (ad 0))])  : W p l e rmX10_takeNumber s m args below meth c H locs 0 0 (MQ below (QI kM g ad res (AA kM ad s.heap.size)) args s 0 0 (AA kM ad s.heap.size)) (F0 m 157 ls []) := by
  have hx := C.1.1
  have hb := C.1.2.1
  have h : (bnd (f_X10_fails ((2 : Int32)) (S.1 0 14) S) fun r10 S9 => some (r10, S9) : Option (Int32 × ST)) = some res := h
  refine lv_aload_n hx hb dX10_takeNumber_157 rfl (lv_at hl 0 rfl) ?_
  refine lv_iconst (v := (2 : Int32)) hx hb dX10_takeNumber_158 (by decide) ?_
  refine lv_aload_n hx hb dX10_takeNumber_159 rfl (lv_at hl 0 rfl) ?_
  refine g_get C X inT10 0 (by decide) (eM_0 g ad S) rfl 14 (by decide) wd_1020 (v := .int (S.1 0 14)) rfl dX10_takeNumber_160 ?_
  obtain ⟨r10, S9, qr10, h⟩ := bnd_s h
  refine kc_i X (res := (r10, S9)) (rV (As := [.int ((2 : Int32)), .int (S.1 0 14)]) (rest := []) (n := 2) (k := 0) C X (c_X10_fails l g ad S _ ((2 : Int32)) (S.1 0 14)  qr10) wd_1189 wd_1191 wd_34 wd_83 wd_1192 (by decide) (eM_0 g ad S) rfl rfl rfl (by decide +kernel) ⟨Nat.le_of_ble_eq_true rfl, Nat.le_of_ble_eq_true rfl⟩ rfl hl.1 (lv_room (Nat.le_of_ble_eq_true rfl)) dX10_takeNumber_163) (fun H locs X => ?_)
  refine lv_goto (tgt := 170) hx hb dX10_takeNumber_166 (by decide) ?_
  exact rt_i C X rfl (Option.some.inj h) dX10_takeNumber_170
set_option maxHeartbeats 4000000 in
set_option maxRecDepth 100000 in
theorem kb_X10_takeNumber_129 {p : Program} {l : Launch} {e : Env} {s : State} {m : MethodId} {args : Array Value} {below : List Frame} {meth : Method} {c : Code} {g : GG} {ad : Nat → Nat} {res : (Int32 × ST)} {S : ST} (C : CX kM g ad p s m args meth c cX10_takeNumber (some Jvm.ClassFile.FieldType.int) 4 yX10_takeNumber.cls (.code yX10_takeNumber cX10_takeNumber 4 (some Jvm.ClassFile.FieldType.int)))  {v2 : Int32} {v3 : Int32}  {H : Heap} {locs : List Loc} {ls : Array Slot} (h : b_X10_takeNumber_129 v2 v3 S = some res) (X : WX kM g ad s S H locs) (hl : lv_has ls 4 [(0, .ref (ad 0)), (1, .int v2), (2, .int v3)])  : W p l e rmX10_takeNumber s m args below meth c H locs 0 0 (MQ below (QI kM g ad res (AA kM ad s.heap.size)) args s 0 0 (AA kM ad s.heap.size)) (F0 m 129 ls []) := by
  have hx := C.1.1
  have hb := C.1.2.1
  have h : (if ((3 : Int32)) < ((S.1 0 10) - (S.1 0 14)) then (b_X10_takeNumber_157 S) else (bn1 (f_X10_in ((S.1 0 13).toInt64) (v2.toInt64) (v3.toInt64)) fun r11 => if r11 = 0 then (b_X10_takeNumber_157 S) else (some ((0 : Int32), S))) : Option (Int32 × ST)) = some res := h
  refine lv_aload_n hx hb dX10_takeNumber_129 rfl (lv_at hl 0 rfl) ?_
  refine g_get C X inT10 0 (by decide) (eM_0 g ad S) rfl 10 (by decide) wd_1016 (v := .int (S.1 0 10)) rfl dX10_takeNumber_130 ?_
  refine lv_aload_n hx hb dX10_takeNumber_133 rfl (lv_at hl 0 rfl) ?_
  refine g_get C X inT10 0 (by decide) (eM_0 g ad S) rfl 14 (by decide) wd_1020 (v := .int (S.1 0 14)) rfl dX10_takeNumber_134 ?_
  refine lv_isub hx hb dX10_takeNumber_137 ?_
  refine lv_iconst (v := (3 : Int32)) hx hb dX10_takeNumber_138 (by decide) ?_
  refine lv_icmp_gt (tgt := 157) hx hb dX10_takeNumber_139 (by decide) (fun c8 => ?_) (fun c8 => ?_)
  · have h := ip h c8
    exact kb_X10_takeNumber_157 C h X (lv_sub hl [0] rfl) 
  · have h := inn h c8
    refine lv_aload_n hx hb dX10_takeNumber_142 rfl (lv_at hl 0 rfl) ?_
    refine g_get C X inT10 0 (by decide) (eM_0 g ad S) rfl 13 (by decide) wd_1019 (v := .int (S.1 0 13)) rfl dX10_takeNumber_143 ?_
    refine lv_i2l hx hb dX10_takeNumber_146 rfl ?_
    refine lv_iload_n hx hb dX10_takeNumber_147 rfl (lv_at hl 1 rfl) ?_
    refine lv_i2l hx hb dX10_takeNumber_148 rfl ?_
    refine lv_iload_n hx hb dX10_takeNumber_149 rfl (lv_at hl 2 rfl) ?_
    refine lv_i2l hx hb dX10_takeNumber_150 rfl ?_
    obtain ⟨r11, qr11, h⟩ := bn1_s h
    refine kc_i X (res := (r11, S)) (rS (As := [.long ((S.1 0 13).toInt64), .long (v2.toInt64), .long (v3.toInt64)]) (rest := []) (n := 3) C X (c_X10_in l g ad S _ ((S.1 0 13).toInt64) (v2.toInt64) (v3.toInt64)  qr11) wd_1151 wd_1152 wd_83 wd_1153 rfl rfl (by decide +kernel) ⟨Nat.le_of_ble_eq_true rfl, Nat.le_of_ble_eq_true rfl⟩ rfl hl.1 (lv_room (Nat.le_of_ble_eq_true rfl)) dX10_takeNumber_151) (fun H locs X => ?_)
    refine lv_if_ne (tgt := 169) hx hb dX10_takeNumber_154 (by decide) (fun c12 => ?_) (fun c12 => ?_)
    · have h := inn h c12
      refine lv_iconst (v := (0 : Int32)) hx hb dX10_takeNumber_169 (by decide) ?_
      exact rt_i C X rfl (Option.some.inj h) dX10_takeNumber_170
    · have h := ip h c12
      exact kb_X10_takeNumber_157 C h X (lv_sub hl [0] rfl) 
set_option maxHeartbeats 4000000 in
set_option maxRecDepth 100000 in
theorem kb_X10_takeNumber_113 {p : Program} {l : Launch} {e : Env} {s : State} {m : MethodId} {args : Array Value} {below : List Frame} {meth : Method} {c : Code} {g : GG} {ad : Nat → Nat} {res : (Int32 × ST)} {S : ST} (C : CX kM g ad p s m args meth c cX10_takeNumber (some Jvm.ClassFile.FieldType.int) 4 yX10_takeNumber.cls (.code yX10_takeNumber cX10_takeNumber 4 (some Jvm.ClassFile.FieldType.int))) {K42 : Int32 → Int32 → ST → Option (Int32 × ST)} (hK42 : ∀ {v2 : Int32} {v3 : Int32} {S : ST} {H : Heap} {locs : List Loc} {ls : Array Slot}, K42 v2 v3 S = some res → WX kM g ad s S H locs → lv_has ls 4 [(0, .ref (ad 0)), (1, .int v2), (2, .int v3)] → W p l e rmX10_takeNumber s m args below meth c H locs 0 0 (MQ below (QI kM g ad res (AA kM ad s.heap.size)) args s 0 0 (AA kM ad s.heap.size)) (F0 m 42 ls [])) {v2 : Int32} {v3 : Int32} {v4 : Int32}  {H : Heap} {locs : List Loc} {ls : Array Slot} (h : b_X10_takeNumber_113 K42 v2 v3 v4 S = some res) (X : WX kM g ad s S H locs) (hl : lv_has ls 4 [(0, .ref (ad 0)), (1, .int v2), (2, .int v3)])  : W p l e rmX10_takeNumber s m args below meth c H locs 0 0 (MQ below (QI kM g ad res (AA kM ad s.heap.size)) args s 0 0 (AA kM ad s.heap.size)) (F0 m 113 ls [.int v4, .ref (ad 0)]) := by
  have hx := C.1.1
  have hb := C.1.2.1
  have h : (nm (su S 0 13 v4) fun S18 => nm (su S18 0 10 ((S18.1 0 10) + ((1 : Int32)))) fun S19 => K42 v2 v3 S19 : Option (Int32 × ST)) = some res := h
  obtain ⟨S18, eS18, h⟩ := nm_s h
  refine g_put (S' := S18) C X inT10 tyX10 tyX10_ok nmX10 0 (by decide) (eM_0 g ad S) rfl 13 (by decide) wd_1019 rfl (by rfl) rfl (Nat.le_of_ble_eq_true rfl) (by subst eS18; rfl) (by subst eS18; exact fun i hi => ent_offu hi) dX10_takeNumber_113 (fun H locs X => ?_)
  refine lv_aload_n hx hb dX10_takeNumber_116 rfl (lv_at hl 0 rfl) ?_
  refine lv_dup hx hb dX10_takeNumber_117 rfl ?_
  refine g_get C X inT10 0 (by decide) (eM_0 g ad S18) rfl 10 (by decide) wd_1016 (v := .int (S18.1 0 10)) rfl dX10_takeNumber_118 ?_
  refine lv_iconst (v := (1 : Int32)) hx hb dX10_takeNumber_121 (by decide) ?_
  refine lv_iadd hx hb dX10_takeNumber_122 ?_
  obtain ⟨S19, eS19, h⟩ := nm_s h
  refine g_put (S' := S19) C X inT10 tyX10 tyX10_ok nmX10 0 (by decide) (eM_0 g ad S18) rfl 10 (by decide) wd_1016 rfl (by rfl) rfl (Nat.le_of_ble_eq_true rfl) (by subst eS19; rfl) (by subst eS19; exact fun i hi => ent_offu hi) dX10_takeNumber_123 (fun H locs X => ?_)
  refine lv_goto (tgt := 42) hx hb dX10_takeNumber_126 (by decide) ?_
  exact hK42 h X (lv_sub hl [0, 1, 2] rfl) 
set_option maxHeartbeats 4000000 in
set_option maxRecDepth 100000 in
theorem kb_X10_takeNumber_42 {p : Program} {l : Launch} {e : Env} {s : State} {m : MethodId} {args : Array Value} {below : List Frame} {meth : Method} {c : Code} {g : GG} {ad : Nat → Nat} {res : (Int32 × ST)} {S : ST} (C : CX kM g ad p s m args meth c cX10_takeNumber (some Jvm.ClassFile.FieldType.int) 4 yX10_takeNumber.cls (.code yX10_takeNumber cX10_takeNumber 4 (some Jvm.ClassFile.FieldType.int))) {K42 : Int32 → Int32 → ST → Option (Int32 × ST)} (hK42 : ∀ {v2 : Int32} {v3 : Int32} {S : ST} {H : Heap} {locs : List Loc} {ls : Array Slot}, K42 v2 v3 S = some res → WX kM g ad s S H locs → lv_has ls 4 [(0, .ref (ad 0)), (1, .int v2), (2, .int v3)] → W p l e rmX10_takeNumber s m args below meth c H locs 0 0 (MQ below (QI kM g ad res (AA kM ad s.heap.size)) args s 0 0 (AA kM ad s.heap.size)) (F0 m 42 ls [])) {v2 : Int32} {v3 : Int32}  {H : Heap} {locs : List Loc} {ls : Array Slot} (h : b_X10_takeNumber_42 K42 v2 v3 S = some res) (X : WX kM g ad s S H locs) (hl : lv_has ls 4 [(0, .ref (ad 0)), (1, .int v2), (2, .int v3)])  : W p l e rmX10_takeNumber s m args below meth c H locs 0 0 (MQ below (QI kM g ad res (AA kM ad s.heap.size)) args s 0 0 (AA kM ad s.heap.size)) (F0 m 42 ls []) := by
  have hx := C.1.1
  have hb := C.1.2.1
  have h : (if (S.1 0 8) ≤ (S.1 0 10) then (b_X10_takeNumber_129 v2 v3 S) else (chk (ib (S.1 0 10) 300) (bn1 (f_X10_in ((S.1 7 (S.1 0 10).toNatClampNeg).toInt64) ((48 : Int64)) ((57 : Int64))) fun r14 => if r14 = 0 then (b_X10_takeNumber_129 v2 v3 S) else (if (S.1 0 13) ≤ ((10000 : Int32)) then (chk (ib (S.1 0 10) 300) (b_X10_takeNumber_113 K42 v2 v3 (((((10 : Int32)) * (S.1 0 13)) + (S.1 7 (S.1 0 10).toNatClampNeg)) - ((48 : Int32))) S)) else (b_X10_takeNumber_113 K42 v2 v3 (S.1 0 13) S)))) : Option (Int32 × ST)) = some res := h
  refine lv_aload_n hx hb dX10_takeNumber_42 rfl (lv_at hl 0 rfl) ?_
  refine g_get C X inT10 0 (by decide) (eM_0 g ad S) rfl 10 (by decide) wd_1016 (v := .int (S.1 0 10)) rfl dX10_takeNumber_43 ?_
  refine lv_aload_n hx hb dX10_takeNumber_46 rfl (lv_at hl 0 rfl) ?_
  refine g_get C X inT10 0 (by decide) (eM_0 g ad S) rfl 8 (by decide) wd_1014 (v := .int (S.1 0 8)) rfl dX10_takeNumber_47 ?_
  refine lv_icmp_ge (tgt := 129) hx hb dX10_takeNumber_50 (by decide) (fun c7 => ?_) (fun c7 => ?_)
  · have h := ip h c7
    exact kb_X10_takeNumber_129 C h X (lv_sub hl [0, 1, 2] rfl) 
  · have h := inn h c7
    refine lv_aload_n hx hb dX10_takeNumber_53 rfl (lv_at hl 0 rfl) ?_
    refine g_get C X inT10 0 (by decide) (eM_0 g ad S) rfl 7 (by decide) wd_1013 (v := .ref (ad 7)) rfl dX10_takeNumber_54 ?_
    refine lv_aload_n hx hb dX10_takeNumber_57 rfl (lv_at hl 0 rfl) ?_
    refine g_get C X inT10 0 (by decide) (eM_0 g ad S) rfl 10 (by decide) wd_1016 (v := .int (S.1 0 10)) rfl dX10_takeNumber_58 ?_
    obtain ⟨k13, h⟩ := chk_s h
    refine g_iald C X 7 (by decide) (eM_7 g ad S) k13 dX10_takeNumber_61 ?_
    refine lv_i2l hx hb dX10_takeNumber_62 rfl ?_
    refine lv_ldc2 (v := (48 : Int64)) hx hb C.1.2.2.2.2.2.1 (C.1.2.2.2.2.2.2 _ (ws_in wd_1201)) dX10_takeNumber_63 ?_
    refine lv_ldc2 (v := (57 : Int64)) hx hb C.1.2.2.2.2.2.1 (C.1.2.2.2.2.2.2 _ (ws_in wd_1202)) dX10_takeNumber_66 ?_
    obtain ⟨r14, qr14, h⟩ := bn1_s h
    refine kc_i X (res := (r14, S)) (rS (As := [.long ((S.1 7 (S.1 0 10).toNatClampNeg).toInt64), .long ((48 : Int64)), .long ((57 : Int64))]) (rest := []) (n := 3) C X (c_X10_in l g ad S _ ((S.1 7 (S.1 0 10).toNatClampNeg).toInt64) ((48 : Int64)) ((57 : Int64))  qr14) wd_1151 wd_1152 wd_83 wd_1153 rfl rfl (by decide +kernel) ⟨Nat.le_of_ble_eq_true rfl, Nat.le_of_ble_eq_true rfl⟩ rfl hl.1 (lv_room (Nat.le_of_ble_eq_true rfl)) dX10_takeNumber_69) (fun H locs X => ?_)
    refine lv_if_eq (tgt := 129) hx hb dX10_takeNumber_72 (by decide) (fun c15 => ?_) (fun c15 => ?_)
    · have h := ip h c15
      exact kb_X10_takeNumber_129 C h X (lv_sub hl [0, 1, 2] rfl) 
    · have h := inn h c15
      refine lv_aload_n hx hb dX10_takeNumber_75 rfl (lv_at hl 0 rfl) ?_
      refine lv_aload_n hx hb dX10_takeNumber_76 rfl (lv_at hl 0 rfl) ?_
      refine g_get C X inT10 0 (by decide) (eM_0 g ad S) rfl 13 (by decide) wd_1019 (v := .int (S.1 0 13)) rfl dX10_takeNumber_77 ?_
      refine lv_sipush (v := (10000 : Int32)) hx hb dX10_takeNumber_80 (by decide) ?_
      refine lv_icmp_le (tgt := 93) hx hb dX10_takeNumber_83 (by decide) (fun c16 => ?_) (fun c16 => ?_)
      · have h := ip h c16
        refine lv_bipush (v := (10 : Int32)) hx hb dX10_takeNumber_93 (by decide) ?_
        refine lv_aload_n hx hb dX10_takeNumber_95 rfl (lv_at hl 0 rfl) ?_
        refine g_get C X inT10 0 (by decide) (eM_0 g ad S) rfl 13 (by decide) wd_1019 (v := .int (S.1 0 13)) rfl dX10_takeNumber_96 ?_
        refine lv_imul hx hb dX10_takeNumber_99 ?_
        refine lv_aload_n hx hb dX10_takeNumber_100 rfl (lv_at hl 0 rfl) ?_
        refine g_get C X inT10 0 (by decide) (eM_0 g ad S) rfl 7 (by decide) wd_1013 (v := .ref (ad 7)) rfl dX10_takeNumber_101 ?_
        refine lv_aload_n hx hb dX10_takeNumber_104 rfl (lv_at hl 0 rfl) ?_
        refine g_get C X inT10 0 (by decide) (eM_0 g ad S) rfl 10 (by decide) wd_1016 (v := .int (S.1 0 10)) rfl dX10_takeNumber_105 ?_
        obtain ⟨k17, h⟩ := chk_s h
        refine g_iald C X 7 (by decide) (eM_7 g ad S) k17 dX10_takeNumber_108 ?_
        refine lv_iadd hx hb dX10_takeNumber_109 ?_
        refine lv_bipush (v := (48 : Int32)) hx hb dX10_takeNumber_110 (by decide) ?_
        refine lv_isub hx hb dX10_takeNumber_112 ?_
        exact kb_X10_takeNumber_113 C hK42 h X (lv_sub hl [0, 1, 2] rfl) 
      · have h := inn h c16
        refine lv_aload_n hx hb dX10_takeNumber_86 rfl (lv_at hl 0 rfl) ?_
        refine g_get C X inT10 0 (by decide) (eM_0 g ad S) rfl 13 (by decide) wd_1019 (v := .int (S.1 0 13)) rfl dX10_takeNumber_87 ?_
        refine lv_goto (tgt := 113) hx hb dX10_takeNumber_90 (by decide) ?_
        exact kb_X10_takeNumber_113 C hK42 h X (lv_sub hl [0, 1, 2] rfl) 
set_option maxHeartbeats 4000000 in
set_option maxRecDepth 100000 in
theorem kl_X10_takeNumber_42 {p : Program} {l : Launch} {e : Env} {s : State} {m : MethodId} {args : Array Value} {below : List Frame} {meth : Method} {c : Code} {g : GG} {ad : Nat → Nat} {res : (Int32 × ST)}  (C : CX kM g ad p s m args meth c cX10_takeNumber (some Jvm.ClassFile.FieldType.int) 4 yX10_takeNumber.cls (.code yX10_takeNumber cX10_takeNumber 4 (some Jvm.ClassFile.FieldType.int)))  : ∀ (n : Nat) {v2 : Int32} {v3 : Int32} {S : ST} {H : Heap} {locs : List Loc} {ls : Array Slot}, (lp (fun _ _ _ => none) (b_X10_takeNumber_42)) n v2 v3 S = some res → WX kM g ad s S H locs → lv_has ls 4 [(0, .ref (ad 0)), (1, .int v2), (2, .int v3)] → W p l e rmX10_takeNumber s m args below meth c H locs 0 0 (MQ below (QI kM g ad res (AA kM ad s.heap.size)) args s 0 0 (AA kM ad s.heap.size)) (F0 m 42 ls []) := by
  intro n
  induction n with
  | zero =>
    intro v2 v3 S H locs ls h
    cases (show (none : Option (Int32 × ST)) = some res from h)
  | succ n ih =>
    intro v2 v3 S H locs ls h X hl 
    exact kb_X10_takeNumber_42 C ih h X hl 
set_option maxHeartbeats 4000000 in
set_option maxRecDepth 100000 in
theorem c_X10_takeNumber (l : Launch) (g : GG) (ad : Nat → Nat) (S : ST) (sz : Nat) (a1 : Int32) (a2 : Int32)  {res : (Int32 × ST)} (h : f_X10_takeNumber a1 a2 S = some res) : Met l yX10_takeNumber (WS (.code yX10_takeNumber cX10_takeNumber 4 (some Jvm.ClassFile.FieldType.int))) rmX10_takeNumber (va_Pc [.ref (ad 0), .int a1, .int a2] (PW kM g ad S sz)) (QI kM g ad res (AA kM ad sz)) 0 0 (AA kM ad sz) := by
  refine go_m (Qc := fun A => QI kM g ad res A) (by decide) (Nat.le_of_ble_eq_true rfl) (fun p e s m below meth c ls H locs C X hl => ?_)
  have hx := C.1.1
  have hb := C.1.2.1
  have hl : lv_has ls 4 [(0, .ref (ad 0)), (1, .int a1), (2, .int a2)] := hl
  have h : (bnd (f_X10_here S) fun r2 S1 => bn1 (f_X10_in (r2.toInt64) ((48 : Int64)) ((57 : Int64))) fun r3 => if r3 = 0 then (bnd (f_X10_fails ((1 : Int32)) (S1.1 0 10) S1) fun r21 S20 => some (r21, S20)) else (nm (su S1 0 14 (S1.1 0 10)) fun S5 => nm (su S5 0 13 ((0 : Int32))) fun S6 => lp (fun _ _ _ => none) (b_X10_takeNumber_42) 1000 a1 a2 S6) : Option (Int32 × ST)) = some res := h
  refine lv_aload_n hx hb dX10_takeNumber_0 rfl (lv_at hl 0 rfl) ?_
  obtain ⟨r2, S1, qr2, h⟩ := bnd_s h
  refine kc_i X (res := (r2, S1)) (rV (As := []) (rest := []) (n := 0) (k := 0) C X (c_X10_here l g ad S _   qr2) wd_1161 wd_1163 wd_30 wd_83 wd_1164 (by decide) (eM_0 g ad S) rfl rfl rfl (by decide +kernel) ⟨Nat.le_of_ble_eq_true rfl, Nat.le_of_ble_eq_true rfl⟩ rfl hl.1 (lv_room (Nat.le_of_ble_eq_true rfl)) dX10_takeNumber_1) (fun H locs X => ?_)
  refine lv_istore_n (lv' := [(3, .int r2), (0, .ref (ad 0)), (1, .int a1), (2, .int a2)]) hx hb dX10_takeNumber_4 rfl hl (by decide) rfl (fun ls hl => ?_)
  refine lv_iload_n hx hb dX10_takeNumber_5 rfl (lv_at hl 0 rfl) ?_
  refine lv_i2l hx hb dX10_takeNumber_6 rfl ?_
  refine lv_ldc2 (v := (48 : Int64)) hx hb C.1.2.2.2.2.2.1 (C.1.2.2.2.2.2.2 _ (ws_in wd_1201)) dX10_takeNumber_7 ?_
  refine lv_ldc2 (v := (57 : Int64)) hx hb C.1.2.2.2.2.2.1 (C.1.2.2.2.2.2.2 _ (ws_in wd_1202)) dX10_takeNumber_10 ?_
  obtain ⟨r3, qr3, h⟩ := bn1_s h
  refine kc_i X (res := (r3, S1)) (rS (As := [.long (r2.toInt64), .long ((48 : Int64)), .long ((57 : Int64))]) (rest := []) (n := 3) C X (c_X10_in l g ad S1 _ (r2.toInt64) ((48 : Int64)) ((57 : Int64))  qr3) wd_1151 wd_1152 wd_83 wd_1153 rfl rfl (by decide +kernel) ⟨Nat.le_of_ble_eq_true rfl, Nat.le_of_ble_eq_true rfl⟩ rfl hl.1 (lv_room (Nat.le_of_ble_eq_true rfl)) dX10_takeNumber_13) (fun H locs X => ?_)
  refine lv_if_ne (tgt := 29) hx hb dX10_takeNumber_16 (by decide) (fun c4 => ?_) (fun c4 => ?_)
  · have h := inn h c4
    refine lv_aload_n hx hb dX10_takeNumber_29 rfl (lv_at hl 1 rfl) ?_
    refine lv_aload_n hx hb dX10_takeNumber_30 rfl (lv_at hl 1 rfl) ?_
    refine g_get C X inT10 0 (by decide) (eM_0 g ad S1) rfl 10 (by decide) wd_1016 (v := .int (S1.1 0 10)) rfl dX10_takeNumber_31 ?_
    obtain ⟨S5, eS5, h⟩ := nm_s h
    refine g_put (S' := S5) C X inT10 tyX10 tyX10_ok nmX10 0 (by decide) (eM_0 g ad S1) rfl 14 (by decide) wd_1020 rfl (by rfl) rfl (Nat.le_of_ble_eq_true rfl) (by subst eS5; rfl) (by subst eS5; exact fun i hi => ent_offu hi) dX10_takeNumber_34 (fun H locs X => ?_)
    refine lv_aload_n hx hb dX10_takeNumber_37 rfl (lv_at hl 1 rfl) ?_
    refine lv_iconst (v := (0 : Int32)) hx hb dX10_takeNumber_38 (by decide) ?_
    obtain ⟨S6, eS6, h⟩ := nm_s h
    refine g_put (S' := S6) C X inT10 tyX10 tyX10_ok nmX10 0 (by decide) (eM_0 g ad S5) rfl 13 (by decide) wd_1019 rfl (by rfl) rfl (Nat.le_of_ble_eq_true rfl) (by subst eS6; rfl) (by subst eS6; exact fun i hi => ent_offu hi) dX10_takeNumber_39 (fun H locs X => ?_)
    exact kl_X10_takeNumber_42 C _ h X (lv_sub hl [1, 2, 3] rfl) 
  · have h := ip h c4
    refine lv_aload_n hx hb dX10_takeNumber_19 rfl (lv_at hl 1 rfl) ?_
    refine lv_iconst (v := (1 : Int32)) hx hb dX10_takeNumber_20 (by decide) ?_
    refine lv_aload_n hx hb dX10_takeNumber_21 rfl (lv_at hl 1 rfl) ?_
    refine g_get C X inT10 0 (by decide) (eM_0 g ad S1) rfl 10 (by decide) wd_1016 (v := .int (S1.1 0 10)) rfl dX10_takeNumber_22 ?_
    obtain ⟨r21, S20, qr21, h⟩ := bnd_s h
    refine kc_i X (res := (r21, S20)) (rV (As := [.int ((1 : Int32)), .int (S1.1 0 10)]) (rest := []) (n := 2) (k := 0) C X (c_X10_fails l g ad S1 _ ((1 : Int32)) (S1.1 0 10)  qr21) wd_1189 wd_1191 wd_34 wd_83 wd_1192 (by decide) (eM_0 g ad S1) rfl rfl rfl (by decide +kernel) ⟨Nat.le_of_ble_eq_true rfl, Nat.le_of_ble_eq_true rfl⟩ rfl hl.1 (lv_room (Nat.le_of_ble_eq_true rfl)) dX10_takeNumber_25) (fun H locs X => ?_)
    exact rt_i C X rfl (Option.some.inj h) dX10_takeNumber_28

def rmX10_takeStop : Room := { frames := 1, cells := 0, slots := 0, locals := 22 }
def f_X10_takeStop  (S : ST) : Option (Int32 × ST) :=
  bnd (f_X10_here S) fun r2 S1 => if r2 = ((59 : Int32)) then (nm (su S1 0 10 ((S1.1 0 10) + ((1 : Int32)))) fun S4 => some ((0 : Int32), S4)) else (bnd (f_X10_fails ((1 : Int32)) (S1.1 0 10) S1) fun r6 S5 => some (r6, S5))
set_option maxHeartbeats 4000000 in
set_option maxRecDepth 100000 in
theorem c_X10_takeStop (l : Launch) (g : GG) (ad : Nat → Nat) (S : ST) (sz : Nat)   {res : (Int32 × ST)} (h : f_X10_takeStop S = some res) : Met l yX10_takeStop (WS (.code yX10_takeStop cX10_takeStop 1 (some Jvm.ClassFile.FieldType.int))) rmX10_takeStop (va_Pc [.ref (ad 0)] (PW kM g ad S sz)) (QI kM g ad res (AA kM ad sz)) 0 0 (AA kM ad sz) := by
  refine go_m (Qc := fun A => QI kM g ad res A) (by decide) (Nat.le_of_ble_eq_true rfl) (fun p e s m below meth c ls H locs C X hl => ?_)
  have hx := C.1.1
  have hb := C.1.2.1
  have hl : lv_has ls 1 [(0, .ref (ad 0))] := hl
  have h : (bnd (f_X10_here S) fun r2 S1 => if r2 = ((59 : Int32)) then (nm (su S1 0 10 ((S1.1 0 10) + ((1 : Int32)))) fun S4 => some ((0 : Int32), S4)) else (bnd (f_X10_fails ((1 : Int32)) (S1.1 0 10) S1) fun r6 S5 => some (r6, S5)) : Option (Int32 × ST)) = some res := h
  refine lv_aload_n hx hb dX10_takeStop_0 rfl (lv_at hl 0 rfl) ?_
  obtain ⟨r2, S1, qr2, h⟩ := bnd_s h
  refine kc_i X (res := (r2, S1)) (rV (As := []) (rest := []) (n := 0) (k := 0) C X (c_X10_here l g ad S _   qr2) wd_1161 wd_1163 wd_30 wd_83 wd_1164 (by decide) (eM_0 g ad S) rfl rfl rfl (by decide +kernel) ⟨Nat.le_of_ble_eq_true rfl, Nat.le_of_ble_eq_true rfl⟩ rfl hl.1 (lv_room (Nat.le_of_ble_eq_true rfl)) dX10_takeStop_1) (fun H locs X => ?_)
  refine lv_bipush (v := (59 : Int32)) hx hb dX10_takeStop_4 (by decide) ?_
  refine lv_icmp_eq (tgt := 19) hx hb dX10_takeStop_6 (by decide) (fun c3 => ?_) (fun c3 => ?_)
  · have h := ip h c3
    refine lv_aload_n hx hb dX10_takeStop_19 rfl (lv_at hl 0 rfl) ?_
    refine lv_dup hx hb dX10_takeStop_20 rfl ?_
    refine g_get C X inT10 0 (by decide) (eM_0 g ad S1) rfl 10 (by decide) wd_1016 (v := .int (S1.1 0 10)) rfl dX10_takeStop_21 ?_
    refine lv_iconst (v := (1 : Int32)) hx hb dX10_takeStop_24 (by decide) ?_
    refine lv_iadd hx hb dX10_takeStop_25 ?_
    obtain ⟨S4, eS4, h⟩ := nm_s h
    refine g_put (S' := S4) C X inT10 tyX10 tyX10_ok nmX10 0 (by decide) (eM_0 g ad S1) rfl 10 (by decide) wd_1016 rfl (by rfl) rfl (Nat.le_of_ble_eq_true rfl) (by subst eS4; rfl) (by subst eS4; exact fun i hi => ent_offu hi) dX10_takeStop_26 (fun H locs X => ?_)
    refine lv_iconst (v := (0 : Int32)) hx hb dX10_takeStop_29 (by decide) ?_
    exact rt_i C X rfl (Option.some.inj h) dX10_takeStop_30
  · have h := inn h c3
    refine lv_aload_n hx hb dX10_takeStop_9 rfl (lv_at hl 0 rfl) ?_
    refine lv_iconst (v := (1 : Int32)) hx hb dX10_takeStop_10 (by decide) ?_
    refine lv_aload_n hx hb dX10_takeStop_11 rfl (lv_at hl 0 rfl) ?_
    refine g_get C X inT10 0 (by decide) (eM_0 g ad S1) rfl 10 (by decide) wd_1016 (v := .int (S1.1 0 10)) rfl dX10_takeStop_12 ?_
    obtain ⟨r6, S5, qr6, h⟩ := bnd_s h
    refine kc_i X (res := (r6, S5)) (rV (As := [.int ((1 : Int32)), .int (S1.1 0 10)]) (rest := []) (n := 2) (k := 0) C X (c_X10_fails l g ad S1 _ ((1 : Int32)) (S1.1 0 10)  qr6) wd_1189 wd_1191 wd_34 wd_83 wd_1192 (by decide) (eM_0 g ad S1) rfl rfl rfl (by decide +kernel) ⟨Nat.le_of_ble_eq_true rfl, Nat.le_of_ble_eq_true rfl⟩ rfl hl.1 (lv_room (Nat.le_of_ble_eq_true rfl)) dX10_takeStop_15) (fun H locs X => ?_)
    exact rt_i C X rfl (Option.some.inj h) dX10_takeStop_18

def rmX10_isComma : Room := { frames := 1, cells := 0, slots := 0, locals := 20 }
def b_X10_isComma_29  (v1 : Int32) (v2 : Int32) (v3 : Int32) (S : ST) : Option (Int32 × ST) :=
  nm (su S 0 10 (v3 + v2)) fun S5 => chk (zb v1) (some (v1, S5))
def b_X10_isComma_14  (v2 : Int32) (S : ST) : Option (Int32 × ST) :=
  if v2 = 0 then (b_X10_isComma_29 v2 ((0 : Int32)) (S.1 0 10) S) else (b_X10_isComma_29 v2 ((1 : Int32)) (S.1 0 10) S)
def f_X10_isComma  (S : ST) : Option (Int32 × ST) :=
  bnd (f_X10_here S) fun r2 S1 => if r2 = ((44 : Int32)) then (b_X10_isComma_14 ((1 : Int32)) S1) else (b_X10_isComma_14 ((0 : Int32)) S1)
set_option maxHeartbeats 4000000 in
set_option maxRecDepth 100000 in
theorem kb_X10_isComma_29 {p : Program} {l : Launch} {e : Env} {s : State} {m : MethodId} {args : Array Value} {below : List Frame} {meth : Method} {c : Code} {g : GG} {ad : Nat → Nat} {res : (Int32 × ST)} {S : ST} (C : CX kM g ad p s m args meth c cX10_isComma (some Jvm.ClassFile.FieldType.boolean) 2 yX10_isComma.cls (.code yX10_isComma cX10_isComma 2 (some Jvm.ClassFile.FieldType.boolean)))  {v1 : Int32} {v2 : Int32} {v3 : Int32}  {H : Heap} {locs : List Loc} {ls : Array Slot} (h : b_X10_isComma_29 v1 v2 v3 S = some res) (X : WX kM g ad s S H locs) (hl : lv_has ls 2 [(1, .int v1)])  : W p l e rmX10_isComma s m args below meth c H locs 0 0 (MQ below (QI kM g ad res (AA kM ad s.heap.size)) args s 0 0 (AA kM ad s.heap.size)) (F0 m 29 ls [.int v2, .int v3, .ref (ad 0)]) := by
  have hx := C.1.1
  have hb := C.1.2.1
  have h : (nm (su S 0 10 (v3 + v2)) fun S5 => chk (zb v1) (some (v1, S5)) : Option (Int32 × ST)) = some res := h
  refine lv_iadd hx hb dX10_isComma_29 ?_
  obtain ⟨S5, eS5, h⟩ := nm_s h
  refine g_put (S' := S5) C X inT10 tyX10 tyX10_ok nmX10 0 (by decide) (eM_0 g ad S) rfl 10 (by decide) wd_1016 rfl (by rfl) rfl (Nat.le_of_ble_eq_true rfl) (by subst eS5; rfl) (by subst eS5; exact fun i hi => ent_offu hi) dX10_isComma_30 (fun H locs X => ?_)
  refine lv_iload_n hx hb dX10_isComma_33 rfl (lv_at hl 0 rfl) ?_
  obtain ⟨k6, h⟩ := chk_s h
  exact rt_z C X rfl (zb_or k6) (Option.some.inj h) dX10_isComma_34
set_option maxHeartbeats 4000000 in
set_option maxRecDepth 100000 in
theorem kb_X10_isComma_14 {p : Program} {l : Launch} {e : Env} {s : State} {m : MethodId} {args : Array Value} {below : List Frame} {meth : Method} {c : Code} {g : GG} {ad : Nat → Nat} {res : (Int32 × ST)} {S : ST} (C : CX kM g ad p s m args meth c cX10_isComma (some Jvm.ClassFile.FieldType.boolean) 2 yX10_isComma.cls (.code yX10_isComma cX10_isComma 2 (some Jvm.ClassFile.FieldType.boolean)))  {v2 : Int32}  {H : Heap} {locs : List Loc} {ls : Array Slot} (h : b_X10_isComma_14 v2 S = some res) (X : WX kM g ad s S H locs) (hl : lv_has ls 2 [(0, .ref (ad 0))])  : W p l e rmX10_isComma s m args below meth c H locs 0 0 (MQ below (QI kM g ad res (AA kM ad s.heap.size)) args s 0 0 (AA kM ad s.heap.size)) (F0 m 14 ls [.int v2]) := by
  have hx := C.1.1
  have hb := C.1.2.1
  have h : (if v2 = 0 then (b_X10_isComma_29 v2 ((0 : Int32)) (S.1 0 10) S) else (b_X10_isComma_29 v2 ((1 : Int32)) (S.1 0 10) S) : Option (Int32 × ST)) = some res := h
  refine lv_istore_n (lv' := [(1, .int v2), (0, .ref (ad 0))]) hx hb dX10_isComma_14 rfl hl (by decide) rfl (fun ls hl => ?_)
  refine lv_aload_n hx hb dX10_isComma_15 rfl (lv_at hl 1 rfl) ?_
  refine lv_dup hx hb dX10_isComma_16 rfl ?_
  refine g_get C X inT10 0 (by decide) (eM_0 g ad S) rfl 10 (by decide) wd_1016 (v := .int (S.1 0 10)) rfl dX10_isComma_17 ?_
  refine lv_iload_n hx hb dX10_isComma_20 rfl (lv_at hl 0 rfl) ?_
  refine lv_if_eq (tgt := 28) hx hb dX10_isComma_21 (by decide) (fun c4 => ?_) (fun c4 => ?_)
  · have h := ip h c4
    refine lv_iconst (v := (0 : Int32)) hx hb dX10_isComma_28 (by decide) ?_
    exact kb_X10_isComma_29 C h X (lv_sub hl [0] rfl) 
  · have h := inn h c4
    refine lv_iconst (v := (1 : Int32)) hx hb dX10_isComma_24 (by decide) ?_
    refine lv_goto (tgt := 29) hx hb dX10_isComma_25 (by decide) ?_
    exact kb_X10_isComma_29 C h X (lv_sub hl [0] rfl) 
set_option maxHeartbeats 4000000 in
set_option maxRecDepth 100000 in
theorem c_X10_isComma (l : Launch) (g : GG) (ad : Nat → Nat) (S : ST) (sz : Nat)   {res : (Int32 × ST)} (h : f_X10_isComma S = some res) : Met l yX10_isComma (WS (.code yX10_isComma cX10_isComma 2 (some Jvm.ClassFile.FieldType.boolean))) rmX10_isComma (va_Pc [.ref (ad 0)] (PW kM g ad S sz)) (QI kM g ad res (AA kM ad sz)) 0 0 (AA kM ad sz) := by
  refine go_m (Qc := fun A => QI kM g ad res A) (by decide) (Nat.le_of_ble_eq_true rfl) (fun p e s m below meth c ls H locs C X hl => ?_)
  have hx := C.1.1
  have hb := C.1.2.1
  have hl : lv_has ls 2 [(0, .ref (ad 0))] := hl
  have h : (bnd (f_X10_here S) fun r2 S1 => if r2 = ((44 : Int32)) then (b_X10_isComma_14 ((1 : Int32)) S1) else (b_X10_isComma_14 ((0 : Int32)) S1) : Option (Int32 × ST)) = some res := h
  refine lv_aload_n hx hb dX10_isComma_0 rfl (lv_at hl 0 rfl) ?_
  obtain ⟨r2, S1, qr2, h⟩ := bnd_s h
  refine kc_i X (res := (r2, S1)) (rV (As := []) (rest := []) (n := 0) (k := 0) C X (c_X10_here l g ad S _   qr2) wd_1161 wd_1163 wd_30 wd_83 wd_1164 (by decide) (eM_0 g ad S) rfl rfl rfl (by decide +kernel) ⟨Nat.le_of_ble_eq_true rfl, Nat.le_of_ble_eq_true rfl⟩ rfl hl.1 (lv_room (Nat.le_of_ble_eq_true rfl)) dX10_isComma_1) (fun H locs X => ?_)
  refine lv_bipush (v := (44 : Int32)) hx hb dX10_isComma_4 (by decide) ?_
  refine lv_icmp_ne (tgt := 13) hx hb dX10_isComma_6 (by decide) (fun c3 => ?_) (fun c3 => ?_)
  · have h := inn h c3
    refine lv_iconst (v := (0 : Int32)) hx hb dX10_isComma_13 (by decide) ?_
    exact kb_X10_isComma_14 C h X (lv_sub hl [0] rfl) 
  · have h := ip h c3
    refine lv_iconst (v := (1 : Int32)) hx hb dX10_isComma_9 (by decide) ?_
    refine lv_goto (tgt := 14) hx hb dX10_isComma_10 (by decide) ?_
    exact kb_X10_isComma_14 C h X (lv_sub hl [0] rfl) 

def rmX10_untold : Room := { frames := 0, cells := 0, slots := 0, locals := 0 }
def f_X10_untold (a1 : Int32) : Option Int32 :=
  if a1 = (0 : Int32) then (some ((660 : Int32))) else (if a1 = (1 : Int32) then (some ((450 : Int32))) else (if a1 = (2 : Int32) then (some ((300 : Int32))) else (if a1 = (3 : Int32) then (some ((10 : Int32))) else (if a1 = (4 : Int32) then (some ((40 : Int32))) else (if a1 = (5 : Int32) then (some ((100 : Int32))) else (if a1 = (6 : Int32) then (some ((400 : Int32))) else (if a1 = (7 : Int32) then (some ((150 : Int32))) else (some ((16 : Int32))))))))))
set_option maxHeartbeats 4000000 in
set_option maxRecDepth 100000 in
theorem c_X10_untold (l : Launch) (g : GG) (ad : Nat → Nat) (S : ST) (sz : Nat) (a1 : Int32)  {res : Int32} (h : f_X10_untold a1 = some res) : Met l yX10_untold (WS (.code yX10_untold cX10_untold 1 (some Jvm.ClassFile.FieldType.int))) rmX10_untold (va_Pc [.int a1] (PW kM g ad S sz)) (QI kM g ad (res, S) (AA kM ad sz)) 0 0 (AA kM ad sz) := by
  refine go_m (Qc := fun A => QI kM g ad (res, S) A) (by decide) (Nat.le_of_ble_eq_true rfl) (fun p e s m below meth c ls H locs C X hl => ?_)
  have hx := C.1.1
  have hb := C.1.2.1
  have hl : lv_has ls 1 [(0, .int a1)] := hl
  have h : (if a1 = (0 : Int32) then (some ((660 : Int32))) else (if a1 = (1 : Int32) then (some ((450 : Int32))) else (if a1 = (2 : Int32) then (some ((300 : Int32))) else (if a1 = (3 : Int32) then (some ((10 : Int32))) else (if a1 = (4 : Int32) then (some ((40 : Int32))) else (if a1 = (5 : Int32) then (some ((100 : Int32))) else (if a1 = (6 : Int32) then (some ((400 : Int32))) else (if a1 = (7 : Int32) then (some ((150 : Int32))) else (some ((16 : Int32)))))))))) : Option Int32) = some res := h
  refine lv_iload_n hx hb dX10_untold_0 rfl (lv_at hl 0 rfl) ?_
  by_cases t1 : a1 = (0 : Int32)
  · have h := ip h t1
    refine lv_tableIn (tgt := 48) (off := 47) hx hb dX10_untold_1 (by rw [t1]; decide) (by rw [t1]; decide) (by rw [t1]; rfl) (by decide) ?_
    refine lv_sipush (v := (660 : Int32)) hx hb dX10_untold_48 (by decide) ?_
    exact rt_i C X rfl (congrArg (fun z => (z, S)) (Option.some.inj h)) dX10_untold_51
  have h := inn h t1
  by_cases t2 : a1 = (1 : Int32)
  · have h := ip h t2
    refine lv_tableIn (tgt := 52) (off := 51) hx hb dX10_untold_1 (by rw [t2]; decide) (by rw [t2]; decide) (by rw [t2]; rfl) (by decide) ?_
    refine lv_sipush (v := (450 : Int32)) hx hb dX10_untold_52 (by decide) ?_
    exact rt_i C X rfl (congrArg (fun z => (z, S)) (Option.some.inj h)) dX10_untold_55
  have h := inn h t2
  by_cases t3 : a1 = (2 : Int32)
  · have h := ip h t3
    refine lv_tableIn (tgt := 56) (off := 55) hx hb dX10_untold_1 (by rw [t3]; decide) (by rw [t3]; decide) (by rw [t3]; rfl) (by decide) ?_
    refine lv_sipush (v := (300 : Int32)) hx hb dX10_untold_56 (by decide) ?_
    exact rt_i C X rfl (congrArg (fun z => (z, S)) (Option.some.inj h)) dX10_untold_59
  have h := inn h t3
  by_cases t4 : a1 = (3 : Int32)
  · have h := ip h t4
    refine lv_tableIn (tgt := 60) (off := 59) hx hb dX10_untold_1 (by rw [t4]; decide) (by rw [t4]; decide) (by rw [t4]; rfl) (by decide) ?_
    refine lv_bipush (v := (10 : Int32)) hx hb dX10_untold_60 (by decide) ?_
    exact rt_i C X rfl (congrArg (fun z => (z, S)) (Option.some.inj h)) dX10_untold_62
  have h := inn h t4
  by_cases t5 : a1 = (4 : Int32)
  · have h := ip h t5
    refine lv_tableIn (tgt := 63) (off := 62) hx hb dX10_untold_1 (by rw [t5]; decide) (by rw [t5]; decide) (by rw [t5]; rfl) (by decide) ?_
    refine lv_bipush (v := (40 : Int32)) hx hb dX10_untold_63 (by decide) ?_
    exact rt_i C X rfl (congrArg (fun z => (z, S)) (Option.some.inj h)) dX10_untold_65
  have h := inn h t5
  by_cases t6 : a1 = (5 : Int32)
  · have h := ip h t6
    refine lv_tableIn (tgt := 66) (off := 65) hx hb dX10_untold_1 (by rw [t6]; decide) (by rw [t6]; decide) (by rw [t6]; rfl) (by decide) ?_
    refine lv_bipush (v := (100 : Int32)) hx hb dX10_untold_66 (by decide) ?_
    exact rt_i C X rfl (congrArg (fun z => (z, S)) (Option.some.inj h)) dX10_untold_68
  have h := inn h t6
  by_cases t7 : a1 = (6 : Int32)
  · have h := ip h t7
    refine lv_tableIn (tgt := 69) (off := 68) hx hb dX10_untold_1 (by rw [t7]; decide) (by rw [t7]; decide) (by rw [t7]; rfl) (by decide) ?_
    refine lv_sipush (v := (400 : Int32)) hx hb dX10_untold_69 (by decide) ?_
    exact rt_i C X rfl (congrArg (fun z => (z, S)) (Option.some.inj h)) dX10_untold_72
  have h := inn h t7
  by_cases t8 : a1 = (7 : Int32)
  · have h := ip h t8
    refine lv_tableIn (tgt := 73) (off := 72) hx hb dX10_untold_1 (by rw [t8]; decide) (by rw [t8]; decide) (by rw [t8]; rfl) (by decide) ?_
    refine lv_sipush (v := (150 : Int32)) hx hb dX10_untold_73 (by decide) ?_
    exact rt_i C X rfl (congrArg (fun z => (z, S)) (Option.some.inj h)) dX10_untold_76
  have h := inn h t8
  refine lv_tableOut (tgt := 77) hx hb dX10_untold_1 (tb_out (fun z z1 z2 ze => ?_)) (by decide) ?_
  · rcases (show z = 0 ∨ z = 1 ∨ z = 2 ∨ z = 3 ∨ z = 4 ∨ z = 5 ∨ z = 6 ∨ z = 7 by omega) with rfl | rfl | rfl | rfl | rfl | rfl | rfl | rfl
    · exact t1 (Int32.toInt_inj.mp (ze.trans (by decide)))
    · exact t2 (Int32.toInt_inj.mp (ze.trans (by decide)))
    · exact t3 (Int32.toInt_inj.mp (ze.trans (by decide)))
    · exact t4 (Int32.toInt_inj.mp (ze.trans (by decide)))
    · exact t5 (Int32.toInt_inj.mp (ze.trans (by decide)))
    · exact t6 (Int32.toInt_inj.mp (ze.trans (by decide)))
    · exact t7 (Int32.toInt_inj.mp (ze.trans (by decide)))
    · exact t8 (Int32.toInt_inj.mp (ze.trans (by decide)))
  refine lv_bipush (v := (16 : Int32)) hx hb dX10_untold_77 (by decide) ?_
  exact rt_i C X rfl (congrArg (fun z => (z, S)) (Option.some.inj h)) dX10_untold_79

def rmX10_bare : Room := { frames := 1, cells := 0, slots := 0, locals := 20 }
def b_X10_bare_66 (K66 : Int32 → ST → Option ST) (v2 : Int32) (S : ST) : Option ST :=
  if ((12 : Int32)) ≤ v2 then (some S) else (chk (ib v2 12) (nm (su S 11 v2.toNatClampNeg ((0 : Int32))) fun S7 => nm (v2 + (1 : Int32)) fun x8 => K66 x8 S7))
def b_X10_bare_36 (K36 : Int32 → ST → Option ST) (v2 : Int32) (S : ST) : Option ST :=
  if ((24 : Int32)) ≤ v2 then (lp (fun _ _ => none) (b_X10_bare_66) 1000 ((0 : Int32)) S) else (chk (ib v2 24) (nm (su S 9 v2.toNatClampNeg ((200 : Int32))) fun S10 => chk (ib v2 24) (nm (su S10 10 v2.toNatClampNeg (vp_nar .boolean ((0 : Int32)))) fun S12 => nm (v2 + (1 : Int32)) fun x13 => K36 x13 S12)))
def b_X10_bare_12 (K12 : Int32 → ST → Option ST) (v2 : Int32) (S : ST) : Option ST :=
  if ((9 : Int32)) ≤ v2 then (lp (fun _ _ => none) (b_X10_bare_36) 1000 ((0 : Int32)) S) else (bn1 (f_X10_untold v2) fun r14 => chk (ib v2 9) (nm (su S 8 v2.toNatClampNeg r14) fun S16 => nm (v2 + (1 : Int32)) fun x17 => K12 x17 S16))
def f_X10_bare  (S : ST) : Option ST :=
  nm (su S 0 19 ((0 : Int32))) fun S1 => nm (su S1 0 20 ((0 : Int32))) fun S2 => lp (fun _ _ => none) (b_X10_bare_12) 1000 ((0 : Int32)) S2
set_option maxHeartbeats 4000000 in
set_option maxRecDepth 100000 in
theorem kb_X10_bare_66 {p : Program} {l : Launch} {e : Env} {s : State} {m : MethodId} {args : Array Value} {below : List Frame} {meth : Method} {c : Code} {g : GG} {ad : Nat → Nat} {res : ST} {S : ST} (C : CX kM g ad p s m args meth c cX10_bare none 2 yX10_bare.cls (.code yX10_bare cX10_bare 2 none)) {K66 : Int32 → ST → Option ST} (hK66 : ∀ {v2 : Int32} {S : ST} {H : Heap} {locs : List Loc} {ls : Array Slot}, K66 v2 S = some res → WX kM g ad s S H locs → lv_has ls 2 [(0, .ref (ad 0)), (1, .int v2)] → W p l e rmX10_bare s m args below meth c H locs 0 0 (MQ below (QV kM g ad res (AA kM ad s.heap.size)) args s 0 0 (AA kM ad s.heap.size)) (F0 m 66 ls [])) {v2 : Int32}  {H : Heap} {locs : List Loc} {ls : Array Slot} (h : b_X10_bare_66 K66 v2 S = some res) (X : WX kM g ad s S H locs) (hl : lv_has ls 2 [(0, .ref (ad 0)), (1, .int v2)])  : W p l e rmX10_bare s m args below meth c H locs 0 0 (MQ below (QV kM g ad res (AA kM ad s.heap.size)) args s 0 0 (AA kM ad s.heap.size)) (F0 m 66 ls []) := by
  have hx := C.1.1
  have hb := C.1.2.1
  have h : (if ((12 : Int32)) ≤ v2 then (some S) else (chk (ib v2 12) (nm (su S 11 v2.toNatClampNeg ((0 : Int32))) fun S7 => nm (v2 + (1 : Int32)) fun x8 => K66 x8 S7)) : Option ST) = some res := h
  refine lv_iload_n hx hb dX10_bare_66 rfl (lv_at hl 1 rfl) ?_
  refine lv_bipush (v := (12 : Int32)) hx hb dX10_bare_67 (by decide) ?_
  refine lv_icmp_ge (tgt := 85) hx hb dX10_bare_69 (by decide) (fun c5 => ?_) (fun c5 => ?_)
  · have h := ip h c5
    exact rt_v C X rfl (Option.some.inj h) dX10_bare_85
  · have h := inn h c5
    refine lv_aload_n hx hb dX10_bare_72 rfl (lv_at hl 0 rfl) ?_
    refine g_get C X inT10 0 (by decide) (eM_0 g ad S) rfl 18 (by decide) wd_1024 (v := .ref (ad 11)) rfl dX10_bare_73 ?_
    refine lv_iload_n hx hb dX10_bare_76 rfl (lv_at hl 1 rfl) ?_
    refine lv_iconst (v := (0 : Int32)) hx hb dX10_bare_77 (by decide) ?_
    obtain ⟨k6, h⟩ := chk_s h
    obtain ⟨S7, eS7, h⟩ := nm_s h
    refine g_iast (S' := S7) C X 11 (by decide) (eM_11 g ad S) k6 (by subst eS7; rfl) (by subst eS7; exact fun i hi => ent_offu hi) dX10_bare_78 (fun H locs X => ?_)
    obtain ⟨x8, ex8, h⟩ := nm_s h
    refine lv_iinc (v := x8) (lv' := [(1, .int x8), (0, .ref (ad 0))]) hx hb dX10_bare_79 hl (k := 1) rfl (by rw [ex8]; rfl) (by decide) rfl (fun ls hl => ?_)
    refine lv_goto (tgt := 66) hx hb dX10_bare_82 (by decide) ?_
    exact hK66 h X (lv_sub hl [1, 0] rfl) 
set_option maxHeartbeats 4000000 in
set_option maxRecDepth 100000 in
theorem kl_X10_bare_66 {p : Program} {l : Launch} {e : Env} {s : State} {m : MethodId} {args : Array Value} {below : List Frame} {meth : Method} {c : Code} {g : GG} {ad : Nat → Nat} {res : ST}  (C : CX kM g ad p s m args meth c cX10_bare none 2 yX10_bare.cls (.code yX10_bare cX10_bare 2 none))  : ∀ (n : Nat) {v2 : Int32} {S : ST} {H : Heap} {locs : List Loc} {ls : Array Slot}, (lp (fun _ _ => none) (b_X10_bare_66)) n v2 S = some res → WX kM g ad s S H locs → lv_has ls 2 [(0, .ref (ad 0)), (1, .int v2)] → W p l e rmX10_bare s m args below meth c H locs 0 0 (MQ below (QV kM g ad res (AA kM ad s.heap.size)) args s 0 0 (AA kM ad s.heap.size)) (F0 m 66 ls []) := by
  intro n
  induction n with
  | zero =>
    intro v2 S H locs ls h
    cases (show (none : Option ST) = some res from h)
  | succ n ih =>
    intro v2 S H locs ls h X hl 
    exact kb_X10_bare_66 C ih h X hl 
set_option maxHeartbeats 4000000 in
set_option maxRecDepth 100000 in
theorem kb_X10_bare_36 {p : Program} {l : Launch} {e : Env} {s : State} {m : MethodId} {args : Array Value} {below : List Frame} {meth : Method} {c : Code} {g : GG} {ad : Nat → Nat} {res : ST} {S : ST} (C : CX kM g ad p s m args meth c cX10_bare none 2 yX10_bare.cls (.code yX10_bare cX10_bare 2 none)) {K36 : Int32 → ST → Option ST} (hK36 : ∀ {v2 : Int32} {S : ST} {H : Heap} {locs : List Loc} {ls : Array Slot}, K36 v2 S = some res → WX kM g ad s S H locs → lv_has ls 2 [(0, .ref (ad 0)), (1, .int v2)] → W p l e rmX10_bare s m args below meth c H locs 0 0 (MQ below (QV kM g ad res (AA kM ad s.heap.size)) args s 0 0 (AA kM ad s.heap.size)) (F0 m 36 ls [])) {v2 : Int32}  {H : Heap} {locs : List Loc} {ls : Array Slot} (h : b_X10_bare_36 K36 v2 S = some res) (X : WX kM g ad s S H locs) (hl : lv_has ls 2 [(0, .ref (ad 0)), (1, .int v2)])  : W p l e rmX10_bare s m args below meth c H locs 0 0 (MQ below (QV kM g ad res (AA kM ad s.heap.size)) args s 0 0 (AA kM ad s.heap.size)) (F0 m 36 ls []) := by
  have hx := C.1.1
  have hb := C.1.2.1
  have h : (if ((24 : Int32)) ≤ v2 then (lp (fun _ _ => none) (b_X10_bare_66) 1000 ((0 : Int32)) S) else (chk (ib v2 24) (nm (su S 9 v2.toNatClampNeg ((200 : Int32))) fun S10 => chk (ib v2 24) (nm (su S10 10 v2.toNatClampNeg (vp_nar .boolean ((0 : Int32)))) fun S12 => nm (v2 + (1 : Int32)) fun x13 => K36 x13 S12))) : Option ST) = some res := h
  refine lv_iload_n hx hb dX10_bare_36 rfl (lv_at hl 1 rfl) ?_
  refine lv_bipush (v := (24 : Int32)) hx hb dX10_bare_37 (by decide) ?_
  refine lv_icmp_ge (tgt := 64) hx hb dX10_bare_39 (by decide) (fun c4 => ?_) (fun c4 => ?_)
  · have h := ip h c4
    refine lv_iconst (v := (0 : Int32)) hx hb dX10_bare_64 (by decide) ?_
    refine lv_istore_n (lv' := [(1, .int ((0 : Int32))), (0, .ref (ad 0))]) hx hb dX10_bare_65 rfl hl (by decide) rfl (fun ls hl => ?_)
    exact kl_X10_bare_66 C _ h X (lv_sub hl [1, 0] rfl) 
  · have h := inn h c4
    refine lv_aload_n hx hb dX10_bare_42 rfl (lv_at hl 0 rfl) ?_
    refine g_get C X inT10 0 (by decide) (eM_0 g ad S) rfl 16 (by decide) wd_1022 (v := .ref (ad 9)) rfl dX10_bare_43 ?_
    refine lv_iload_n hx hb dX10_bare_46 rfl (lv_at hl 1 rfl) ?_
    refine lv_sipush (v := (200 : Int32)) hx hb dX10_bare_47 (by decide) ?_
    obtain ⟨k9, h⟩ := chk_s h
    obtain ⟨S10, eS10, h⟩ := nm_s h
    refine g_iast (S' := S10) C X 9 (by decide) (eM_9 g ad S) k9 (by subst eS10; rfl) (by subst eS10; exact fun i hi => ent_offu hi) dX10_bare_50 (fun H locs X => ?_)
    refine lv_aload_n hx hb dX10_bare_51 rfl (lv_at hl 0 rfl) ?_
    refine g_get C X inT10 0 (by decide) (eM_0 g ad S10) rfl 17 (by decide) wd_1023 (v := .ref (ad 10)) rfl dX10_bare_52 ?_
    refine lv_iload_n hx hb dX10_bare_55 rfl (lv_at hl 1 rfl) ?_
    refine lv_iconst (v := (0 : Int32)) hx hb dX10_bare_56 (by decide) ?_
    obtain ⟨k11, h⟩ := chk_s h
    obtain ⟨S12, eS12, h⟩ := nm_s h
    refine g_zast (S' := S12) C X 10 (by decide) (eM_10 g ad S10) k11 (by subst eS12; rfl) (by subst eS12; exact fun i hi => ent_offu hi) dX10_bare_57 (fun H locs X => ?_)
    obtain ⟨x13, ex13, h⟩ := nm_s h
    refine lv_iinc (v := x13) (lv' := [(1, .int x13), (0, .ref (ad 0))]) hx hb dX10_bare_58 hl (k := 1) rfl (by rw [ex13]; rfl) (by decide) rfl (fun ls hl => ?_)
    refine lv_goto (tgt := 36) hx hb dX10_bare_61 (by decide) ?_
    exact hK36 h X (lv_sub hl [1, 0] rfl) 
set_option maxHeartbeats 4000000 in
set_option maxRecDepth 100000 in
theorem kl_X10_bare_36 {p : Program} {l : Launch} {e : Env} {s : State} {m : MethodId} {args : Array Value} {below : List Frame} {meth : Method} {c : Code} {g : GG} {ad : Nat → Nat} {res : ST}  (C : CX kM g ad p s m args meth c cX10_bare none 2 yX10_bare.cls (.code yX10_bare cX10_bare 2 none))  : ∀ (n : Nat) {v2 : Int32} {S : ST} {H : Heap} {locs : List Loc} {ls : Array Slot}, (lp (fun _ _ => none) (b_X10_bare_36)) n v2 S = some res → WX kM g ad s S H locs → lv_has ls 2 [(0, .ref (ad 0)), (1, .int v2)] → W p l e rmX10_bare s m args below meth c H locs 0 0 (MQ below (QV kM g ad res (AA kM ad s.heap.size)) args s 0 0 (AA kM ad s.heap.size)) (F0 m 36 ls []) := by
  intro n
  induction n with
  | zero =>
    intro v2 S H locs ls h
    cases (show (none : Option ST) = some res from h)
  | succ n ih =>
    intro v2 S H locs ls h X hl 
    exact kb_X10_bare_36 C ih h X hl 
set_option maxHeartbeats 4000000 in
set_option maxRecDepth 100000 in
theorem kb_X10_bare_12 {p : Program} {l : Launch} {e : Env} {s : State} {m : MethodId} {args : Array Value} {below : List Frame} {meth : Method} {c : Code} {g : GG} {ad : Nat → Nat} {res : ST} {S : ST} (C : CX kM g ad p s m args meth c cX10_bare none 2 yX10_bare.cls (.code yX10_bare cX10_bare 2 none)) {K12 : Int32 → ST → Option ST} (hK12 : ∀ {v2 : Int32} {S : ST} {H : Heap} {locs : List Loc} {ls : Array Slot}, K12 v2 S = some res → WX kM g ad s S H locs → lv_has ls 2 [(0, .ref (ad 0)), (1, .int v2)] → W p l e rmX10_bare s m args below meth c H locs 0 0 (MQ below (QV kM g ad res (AA kM ad s.heap.size)) args s 0 0 (AA kM ad s.heap.size)) (F0 m 12 ls [])) {v2 : Int32}  {H : Heap} {locs : List Loc} {ls : Array Slot} (h : b_X10_bare_12 K12 v2 S = some res) (X : WX kM g ad s S H locs) (hl : lv_has ls 2 [(0, .ref (ad 0)), (1, .int v2)])  : W p l e rmX10_bare s m args below meth c H locs 0 0 (MQ below (QV kM g ad res (AA kM ad s.heap.size)) args s 0 0 (AA kM ad s.heap.size)) (F0 m 12 ls []) := by
  have hx := C.1.1
  have hb := C.1.2.1
  have h : (if ((9 : Int32)) ≤ v2 then (lp (fun _ _ => none) (b_X10_bare_36) 1000 ((0 : Int32)) S) else (bn1 (f_X10_untold v2) fun r14 => chk (ib v2 9) (nm (su S 8 v2.toNatClampNeg r14) fun S16 => nm (v2 + (1 : Int32)) fun x17 => K12 x17 S16)) : Option ST) = some res := h
  refine lv_iload_n hx hb dX10_bare_12 rfl (lv_at hl 1 rfl) ?_
  refine lv_bipush (v := (9 : Int32)) hx hb dX10_bare_13 (by decide) ?_
  refine lv_icmp_ge (tgt := 34) hx hb dX10_bare_15 (by decide) (fun c3 => ?_) (fun c3 => ?_)
  · have h := ip h c3
    refine lv_iconst (v := (0 : Int32)) hx hb dX10_bare_34 (by decide) ?_
    refine lv_istore_n (lv' := [(1, .int ((0 : Int32))), (0, .ref (ad 0))]) hx hb dX10_bare_35 rfl hl (by decide) rfl (fun ls hl => ?_)
    exact kl_X10_bare_36 C _ h X (lv_sub hl [1, 0] rfl) 
  · have h := inn h c3
    refine lv_aload_n hx hb dX10_bare_18 rfl (lv_at hl 0 rfl) ?_
    refine g_get C X inT10 0 (by decide) (eM_0 g ad S) rfl 15 (by decide) wd_1021 (v := .ref (ad 8)) rfl dX10_bare_19 ?_
    refine lv_iload_n hx hb dX10_bare_22 rfl (lv_at hl 1 rfl) ?_
    refine lv_iload_n hx hb dX10_bare_23 rfl (lv_at hl 1 rfl) ?_
    obtain ⟨r14, qr14, h⟩ := bn1_s h
    refine kc_i X (res := (r14, S)) (rS (As := [.int v2]) (rest := [.int v2, .ref (ad 8)]) (n := 1) C X (c_X10_untold l g ad S _ v2  qr14) wd_999 wd_1000 wd_83 wd_1001 rfl rfl (by decide +kernel) ⟨Nat.le_of_ble_eq_true rfl, Nat.le_of_ble_eq_true rfl⟩ rfl hl.1 (lv_room (Nat.le_of_ble_eq_true rfl)) dX10_bare_24) (fun H locs X => ?_)
    obtain ⟨k15, h⟩ := chk_s h
    obtain ⟨S16, eS16, h⟩ := nm_s h
    refine g_iast (S' := S16) C X 8 (by decide) (eM_8 g ad S) k15 (by subst eS16; rfl) (by subst eS16; exact fun i hi => ent_offu hi) dX10_bare_27 (fun H locs X => ?_)
    obtain ⟨x17, ex17, h⟩ := nm_s h
    refine lv_iinc (v := x17) (lv' := [(1, .int x17), (0, .ref (ad 0))]) hx hb dX10_bare_28 hl (k := 1) rfl (by rw [ex17]; rfl) (by decide) rfl (fun ls hl => ?_)
    refine lv_goto (tgt := 12) hx hb dX10_bare_31 (by decide) ?_
    exact hK12 h X (lv_sub hl [1, 0] rfl) 
set_option maxHeartbeats 4000000 in
set_option maxRecDepth 100000 in
theorem kl_X10_bare_12 {p : Program} {l : Launch} {e : Env} {s : State} {m : MethodId} {args : Array Value} {below : List Frame} {meth : Method} {c : Code} {g : GG} {ad : Nat → Nat} {res : ST}  (C : CX kM g ad p s m args meth c cX10_bare none 2 yX10_bare.cls (.code yX10_bare cX10_bare 2 none))  : ∀ (n : Nat) {v2 : Int32} {S : ST} {H : Heap} {locs : List Loc} {ls : Array Slot}, (lp (fun _ _ => none) (b_X10_bare_12)) n v2 S = some res → WX kM g ad s S H locs → lv_has ls 2 [(0, .ref (ad 0)), (1, .int v2)] → W p l e rmX10_bare s m args below meth c H locs 0 0 (MQ below (QV kM g ad res (AA kM ad s.heap.size)) args s 0 0 (AA kM ad s.heap.size)) (F0 m 12 ls []) := by
  intro n
  induction n with
  | zero =>
    intro v2 S H locs ls h
    cases (show (none : Option ST) = some res from h)
  | succ n ih =>
    intro v2 S H locs ls h X hl 
    exact kb_X10_bare_12 C ih h X hl 
set_option maxHeartbeats 4000000 in
set_option maxRecDepth 100000 in
theorem c_X10_bare (l : Launch) (g : GG) (ad : Nat → Nat) (S : ST) (sz : Nat)   {res : ST} (h : f_X10_bare S = some res) : Met l yX10_bare (WS (.code yX10_bare cX10_bare 2 none)) rmX10_bare (va_Pc [.ref (ad 0)] (PW kM g ad S sz)) (QV kM g ad res (AA kM ad sz)) 0 0 (AA kM ad sz) := by
  refine go_m (Qc := fun A => QV kM g ad res A) (by decide) (Nat.le_of_ble_eq_true rfl) (fun p e s m below meth c ls H locs C X hl => ?_)
  have hx := C.1.1
  have hb := C.1.2.1
  have hl : lv_has ls 2 [(0, .ref (ad 0))] := hl
  have h : (nm (su S 0 19 ((0 : Int32))) fun S1 => nm (su S1 0 20 ((0 : Int32))) fun S2 => lp (fun _ _ => none) (b_X10_bare_12) 1000 ((0 : Int32)) S2 : Option ST) = some res := h
  refine lv_aload_n hx hb dX10_bare_0 rfl (lv_at hl 0 rfl) ?_
  refine lv_iconst (v := (0 : Int32)) hx hb dX10_bare_1 (by decide) ?_
  obtain ⟨S1, eS1, h⟩ := nm_s h
  refine g_put (S' := S1) C X inT10 tyX10 tyX10_ok nmX10 0 (by decide) (eM_0 g ad S) rfl 19 (by decide) wd_1025 rfl (by rfl) rfl (Nat.le_of_ble_eq_true rfl) (by subst eS1; rfl) (by subst eS1; exact fun i hi => ent_offu hi) dX10_bare_2 (fun H locs X => ?_)
  refine lv_aload_n hx hb dX10_bare_5 rfl (lv_at hl 0 rfl) ?_
  refine lv_iconst (v := (0 : Int32)) hx hb dX10_bare_6 (by decide) ?_
  obtain ⟨S2, eS2, h⟩ := nm_s h
  refine g_put (S' := S2) C X inT10 tyX10 tyX10_ok nmX10 0 (by decide) (eM_0 g ad S1) rfl 20 (by decide) wd_1026 rfl (by rfl) rfl (Nat.le_of_ble_eq_true rfl) (by subst eS2; rfl) (by subst eS2; exact fun i hi => ent_offu hi) dX10_bare_7 (fun H locs X => ?_)
  refine lv_iconst (v := (0 : Int32)) hx hb dX10_bare_10 (by decide) ?_
  refine lv_istore_n (lv' := [(1, .int ((0 : Int32))), (0, .ref (ad 0))]) hx hb dX10_bare_11 rfl hl (by decide) rfl (fun ls hl => ?_)
  exact kl_X10_bare_12 C _ h X (lv_sub hl [1, 0] rfl) 

def rmX10_take : Room := { frames := 2, cells := 0, slots := 0, locals := 48 }
def f_X10_take (a1 : Int32) (a2 : Int32) (a3 : Int32) (S : ST) : Option (Int32 × ST) :=
  bnd (f_X10_takeNumber a2 a3 S) fun r2 S1 => chk (ib a1 9) (nm (su S1 8 a1.toNatClampNeg (S1.1 0 13)) fun S4 => some (r2, S4))
set_option maxHeartbeats 4000000 in
set_option maxRecDepth 100000 in
theorem c_X10_take (l : Launch) (g : GG) (ad : Nat → Nat) (S : ST) (sz : Nat) (a1 : Int32) (a2 : Int32) (a3 : Int32)  {res : (Int32 × ST)} (h : f_X10_take a1 a2 a3 S = some res) : Met l yX10_take (WS (.code yX10_take cX10_take 5 (some Jvm.ClassFile.FieldType.int))) rmX10_take (va_Pc [.ref (ad 0), .int a1, .int a2, .int a3] (PW kM g ad S sz)) (QI kM g ad res (AA kM ad sz)) 0 0 (AA kM ad sz) := by
  refine go_m (Qc := fun A => QI kM g ad res A) (by decide) (Nat.le_of_ble_eq_true rfl) (fun p e s m below meth c ls H locs C X hl => ?_)
  have hx := C.1.1
  have hb := C.1.2.1
  have hl : lv_has ls 5 [(0, .ref (ad 0)), (1, .int a1), (2, .int a2), (3, .int a3)] := hl
  have h : (bnd (f_X10_takeNumber a2 a3 S) fun r2 S1 => chk (ib a1 9) (nm (su S1 8 a1.toNatClampNeg (S1.1 0 13)) fun S4 => some (r2, S4)) : Option (Int32 × ST)) = some res := h
  refine lv_aload_n hx hb dX10_take_0 rfl (lv_at hl 0 rfl) ?_
  refine lv_iload_n hx hb dX10_take_1 rfl (lv_at hl 2 rfl) ?_
  refine lv_iload_n hx hb dX10_take_2 rfl (lv_at hl 3 rfl) ?_
  obtain ⟨r2, S1, qr2, h⟩ := bnd_s h
  refine kc_i X (res := (r2, S1)) (rV (As := [.int a2, .int a3]) (rest := []) (n := 2) (k := 0) C X (c_X10_takeNumber l g ad S _ a2 a3  qr2) wd_1197 wd_1199 wd_36 wd_83 wd_1200 (by decide) (eM_0 g ad S) rfl rfl rfl (by decide +kernel) ⟨Nat.le_of_ble_eq_true rfl, Nat.le_of_ble_eq_true rfl⟩ rfl hl.1 (lv_room (Nat.le_of_ble_eq_true rfl)) dX10_take_3) (fun H locs X => ?_)
  refine lv_istore (lv' := [(4, .int r2), (0, .ref (ad 0)), (1, .int a1), (2, .int a2), (3, .int a3)]) hx hb dX10_take_6 hl (by decide) rfl (fun ls hl => ?_)
  refine lv_aload_n hx hb dX10_take_8 rfl (lv_at hl 1 rfl) ?_
  refine g_get C X inT10 0 (by decide) (eM_0 g ad S1) rfl 15 (by decide) wd_1021 (v := .ref (ad 8)) rfl dX10_take_9 ?_
  refine lv_iload_n hx hb dX10_take_12 rfl (lv_at hl 2 rfl) ?_
  refine lv_aload_n hx hb dX10_take_13 rfl (lv_at hl 1 rfl) ?_
  refine g_get C X inT10 0 (by decide) (eM_0 g ad S1) rfl 13 (by decide) wd_1019 (v := .int (S1.1 0 13)) rfl dX10_take_14 ?_
  obtain ⟨k3, h⟩ := chk_s h
  obtain ⟨S4, eS4, h⟩ := nm_s h
  refine g_iast (S' := S4) C X 8 (by decide) (eM_8 g ad S1) k3 (by subst eS4; rfl) (by subst eS4; exact fun i hi => ent_offu hi) dX10_take_17 (fun H locs X => ?_)
  refine lv_iload hx hb dX10_take_18 (lv_at hl 0 rfl) ?_
  exact rt_i C X rfl (Option.some.inj h) dX10_take_20

def rmX10_takeRope : Room := { frames := 3, cells := 0, slots := 0, locals := 72 }
def b_X10_takeRope_29  (v2 : Int32) (S : ST) : Option (Int32 × ST) :=
  if v2 ≤ 0 then (bnd (f_X10_take ((3 : Int32)) ((0 : Int32)) ((99 : Int32)) S) fun r8 S7 => some (r8, S7)) else (some (v2, S))
def f_X10_takeRope  (S : ST) : Option (Int32 × ST) :=
  bnd (f_X10_take ((1 : Int32)) ((100 : Int32)) ((900 : Int32)) S) fun r2 S1 => if r2 ≤ 0 then (bnd (f_X10_take ((2 : Int32)) ((20 : Int32)) ((999 : Int32)) S1) fun r5 S4 => b_X10_takeRope_29 r5 S4) else (b_X10_takeRope_29 r2 S1)
set_option maxHeartbeats 4000000 in
set_option maxRecDepth 100000 in
theorem kb_X10_takeRope_29 {p : Program} {l : Launch} {e : Env} {s : State} {m : MethodId} {args : Array Value} {below : List Frame} {meth : Method} {c : Code} {g : GG} {ad : Nat → Nat} {res : (Int32 × ST)} {S : ST} (C : CX kM g ad p s m args meth c cX10_takeRope (some Jvm.ClassFile.FieldType.int) 2 yX10_takeRope.cls (.code yX10_takeRope cX10_takeRope 2 (some Jvm.ClassFile.FieldType.int)))  {v2 : Int32}  {H : Heap} {locs : List Loc} {ls : Array Slot} (h : b_X10_takeRope_29 v2 S = some res) (X : WX kM g ad s S H locs) (hl : lv_has ls 2 [(0, .ref (ad 0))])  : W p l e rmX10_takeRope s m args below meth c H locs 0 0 (MQ below (QI kM g ad res (AA kM ad s.heap.size)) args s 0 0 (AA kM ad s.heap.size)) (F0 m 29 ls [.int v2]) := by
  have hx := C.1.1
  have hb := C.1.2.1
  have h : (if v2 ≤ 0 then (bnd (f_X10_take ((3 : Int32)) ((0 : Int32)) ((99 : Int32)) S) fun r8 S7 => some (r8, S7)) else (some (v2, S)) : Option (Int32 × ST)) = some res := h
  refine lv_istore_n (lv' := [(1, .int v2), (0, .ref (ad 0))]) hx hb dX10_takeRope_29 rfl hl (by decide) rfl (fun ls hl => ?_)
  refine lv_iload_n hx hb dX10_takeRope_30 rfl (lv_at hl 0 rfl) ?_
  refine lv_if_le (tgt := 38) hx hb dX10_takeRope_31 (by decide) (fun c6 => ?_) (fun c6 => ?_)
  · have h := ip h c6
    refine lv_aload_n hx hb dX10_takeRope_38 rfl (lv_at hl 1 rfl) ?_
    refine lv_iconst (v := (3 : Int32)) hx hb dX10_takeRope_39 (by decide) ?_
    refine lv_iconst (v := (0 : Int32)) hx hb dX10_takeRope_40 (by decide) ?_
    refine lv_bipush (v := (99 : Int32)) hx hb dX10_takeRope_41 (by decide) ?_
    obtain ⟨r8, S7, qr8, h⟩ := bnd_s h
    refine kc_i X (res := (r8, S7)) (rV (As := [.int ((3 : Int32)), .int ((0 : Int32)), .int ((99 : Int32))]) (rest := []) (n := 3) (k := 0) C X (c_X10_take l g ad S _ ((3 : Int32)) ((0 : Int32)) ((99 : Int32))  qr8) wd_1193 wd_1195 wd_35 wd_83 wd_1196 (by decide) (eM_0 g ad S) rfl rfl rfl (by decide +kernel) ⟨Nat.le_of_ble_eq_true rfl, Nat.le_of_ble_eq_true rfl⟩ rfl hl.1 (lv_room (Nat.le_of_ble_eq_true rfl)) dX10_takeRope_43) (fun H locs X => ?_)
    exact rt_i C X rfl (Option.some.inj h) dX10_takeRope_46
  · have h := inn h c6
    refine lv_iload_n hx hb dX10_takeRope_34 rfl (lv_at hl 0 rfl) ?_
    refine lv_goto (tgt := 46) hx hb dX10_takeRope_35 (by decide) ?_
    exact rt_i C X rfl (Option.some.inj h) dX10_takeRope_46
set_option maxHeartbeats 4000000 in
set_option maxRecDepth 100000 in
theorem c_X10_takeRope (l : Launch) (g : GG) (ad : Nat → Nat) (S : ST) (sz : Nat)   {res : (Int32 × ST)} (h : f_X10_takeRope S = some res) : Met l yX10_takeRope (WS (.code yX10_takeRope cX10_takeRope 2 (some Jvm.ClassFile.FieldType.int))) rmX10_takeRope (va_Pc [.ref (ad 0)] (PW kM g ad S sz)) (QI kM g ad res (AA kM ad sz)) 0 0 (AA kM ad sz) := by
  refine go_m (Qc := fun A => QI kM g ad res A) (by decide) (Nat.le_of_ble_eq_true rfl) (fun p e s m below meth c ls H locs C X hl => ?_)
  have hx := C.1.1
  have hb := C.1.2.1
  have hl : lv_has ls 2 [(0, .ref (ad 0))] := hl
  have h : (bnd (f_X10_take ((1 : Int32)) ((100 : Int32)) ((900 : Int32)) S) fun r2 S1 => if r2 ≤ 0 then (bnd (f_X10_take ((2 : Int32)) ((20 : Int32)) ((999 : Int32)) S1) fun r5 S4 => b_X10_takeRope_29 r5 S4) else (b_X10_takeRope_29 r2 S1) : Option (Int32 × ST)) = some res := h
  refine lv_aload_n hx hb dX10_takeRope_0 rfl (lv_at hl 0 rfl) ?_
  refine lv_iconst (v := (1 : Int32)) hx hb dX10_takeRope_1 (by decide) ?_
  refine lv_bipush (v := (100 : Int32)) hx hb dX10_takeRope_2 (by decide) ?_
  refine lv_sipush (v := (900 : Int32)) hx hb dX10_takeRope_4 (by decide) ?_
  obtain ⟨r2, S1, qr2, h⟩ := bnd_s h
  refine kc_i X (res := (r2, S1)) (rV (As := [.int ((1 : Int32)), .int ((100 : Int32)), .int ((900 : Int32))]) (rest := []) (n := 3) (k := 0) C X (c_X10_take l g ad S _ ((1 : Int32)) ((100 : Int32)) ((900 : Int32))  qr2) wd_1193 wd_1195 wd_35 wd_83 wd_1196 (by decide) (eM_0 g ad S) rfl rfl rfl (by decide +kernel) ⟨Nat.le_of_ble_eq_true rfl, Nat.le_of_ble_eq_true rfl⟩ rfl hl.1 (lv_room (Nat.le_of_ble_eq_true rfl)) dX10_takeRope_7) (fun H locs X => ?_)
  refine lv_istore_n (lv' := [(1, .int r2), (0, .ref (ad 0))]) hx hb dX10_takeRope_10 rfl hl (by decide) rfl (fun ls hl => ?_)
  refine lv_iload_n hx hb dX10_takeRope_11 rfl (lv_at hl 0 rfl) ?_
  refine lv_if_le (tgt := 19) hx hb dX10_takeRope_12 (by decide) (fun c3 => ?_) (fun c3 => ?_)
  · have h := ip h c3
    refine lv_aload_n hx hb dX10_takeRope_19 rfl (lv_at hl 1 rfl) ?_
    refine lv_iconst (v := (2 : Int32)) hx hb dX10_takeRope_20 (by decide) ?_
    refine lv_bipush (v := (20 : Int32)) hx hb dX10_takeRope_21 (by decide) ?_
    refine lv_sipush (v := (999 : Int32)) hx hb dX10_takeRope_23 (by decide) ?_
    obtain ⟨r5, S4, qr5, h⟩ := bnd_s h
    refine kc_i X (res := (r5, S4)) (rV (As := [.int ((2 : Int32)), .int ((20 : Int32)), .int ((999 : Int32))]) (rest := []) (n := 3) (k := 0) C X (c_X10_take l g ad S1 _ ((2 : Int32)) ((20 : Int32)) ((999 : Int32))  qr5) wd_1193 wd_1195 wd_35 wd_83 wd_1196 (by decide) (eM_0 g ad S1) rfl rfl rfl (by decide +kernel) ⟨Nat.le_of_ble_eq_true rfl, Nat.le_of_ble_eq_true rfl⟩ rfl hl.1 (lv_room (Nat.le_of_ble_eq_true rfl)) dX10_takeRope_26) (fun H locs X => ?_)
    exact kb_X10_takeRope_29 C h X (lv_sub hl [1] rfl) 
  · have h := inn h c3
    refine lv_iload_n hx hb dX10_takeRope_15 rfl (lv_at hl 0 rfl) ?_
    refine lv_goto (tgt := 29) hx hb dX10_takeRope_16 (by decide) ?_
    exact kb_X10_takeRope_29 C h X (lv_sub hl [1] rfl) 

def rmX10_takeStart : Room := { frames := 3, cells := 0, slots := 0, locals := 72 }
def f_X10_takeStart  (S : ST) : Option (Int32 × ST) :=
  bnd (f_X10_take ((4 : Int32)) ((0 : Int32)) ((80 : Int32)) S) fun r2 S1 => if r2 ≤ 0 then (bnd (f_X10_take ((5 : Int32)) ((0 : Int32)) ((600 : Int32)) S1) fun r5 S4 => some (r5, S4)) else (some (r2, S1))
set_option maxHeartbeats 4000000 in
set_option maxRecDepth 100000 in
theorem c_X10_takeStart (l : Launch) (g : GG) (ad : Nat → Nat) (S : ST) (sz : Nat)   {res : (Int32 × ST)} (h : f_X10_takeStart S = some res) : Met l yX10_takeStart (WS (.code yX10_takeStart cX10_takeStart 2 (some Jvm.ClassFile.FieldType.int))) rmX10_takeStart (va_Pc [.ref (ad 0)] (PW kM g ad S sz)) (QI kM g ad res (AA kM ad sz)) 0 0 (AA kM ad sz) := by
  refine go_m (Qc := fun A => QI kM g ad res A) (by decide) (Nat.le_of_ble_eq_true rfl) (fun p e s m below meth c ls H locs C X hl => ?_)
  have hx := C.1.1
  have hb := C.1.2.1
  have hl : lv_has ls 2 [(0, .ref (ad 0))] := hl
  have h : (bnd (f_X10_take ((4 : Int32)) ((0 : Int32)) ((80 : Int32)) S) fun r2 S1 => if r2 ≤ 0 then (bnd (f_X10_take ((5 : Int32)) ((0 : Int32)) ((600 : Int32)) S1) fun r5 S4 => some (r5, S4)) else (some (r2, S1)) : Option (Int32 × ST)) = some res := h
  refine lv_aload_n hx hb dX10_takeStart_0 rfl (lv_at hl 0 rfl) ?_
  refine lv_iconst (v := (4 : Int32)) hx hb dX10_takeStart_1 (by decide) ?_
  refine lv_iconst (v := (0 : Int32)) hx hb dX10_takeStart_2 (by decide) ?_
  refine lv_bipush (v := (80 : Int32)) hx hb dX10_takeStart_3 (by decide) ?_
  obtain ⟨r2, S1, qr2, h⟩ := bnd_s h
  refine kc_i X (res := (r2, S1)) (rV (As := [.int ((4 : Int32)), .int ((0 : Int32)), .int ((80 : Int32))]) (rest := []) (n := 3) (k := 0) C X (c_X10_take l g ad S _ ((4 : Int32)) ((0 : Int32)) ((80 : Int32))  qr2) wd_1193 wd_1195 wd_35 wd_83 wd_1196 (by decide) (eM_0 g ad S) rfl rfl rfl (by decide +kernel) ⟨Nat.le_of_ble_eq_true rfl, Nat.le_of_ble_eq_true rfl⟩ rfl hl.1 (lv_room (Nat.le_of_ble_eq_true rfl)) dX10_takeStart_5) (fun H locs X => ?_)
  refine lv_istore_n (lv' := [(1, .int r2), (0, .ref (ad 0))]) hx hb dX10_takeStart_8 rfl hl (by decide) rfl (fun ls hl => ?_)
  refine lv_iload_n hx hb dX10_takeStart_9 rfl (lv_at hl 0 rfl) ?_
  refine lv_if_le (tgt := 17) hx hb dX10_takeStart_10 (by decide) (fun c3 => ?_) (fun c3 => ?_)
  · have h := ip h c3
    refine lv_aload_n hx hb dX10_takeStart_17 rfl (lv_at hl 1 rfl) ?_
    refine lv_iconst (v := (5 : Int32)) hx hb dX10_takeStart_18 (by decide) ?_
    refine lv_iconst (v := (0 : Int32)) hx hb dX10_takeStart_19 (by decide) ?_
    refine lv_sipush (v := (600 : Int32)) hx hb dX10_takeStart_20 (by decide) ?_
    obtain ⟨r5, S4, qr5, h⟩ := bnd_s h
    refine kc_i X (res := (r5, S4)) (rV (As := [.int ((5 : Int32)), .int ((0 : Int32)), .int ((600 : Int32))]) (rest := []) (n := 3) (k := 0) C X (c_X10_take l g ad S1 _ ((5 : Int32)) ((0 : Int32)) ((600 : Int32))  qr5) wd_1193 wd_1195 wd_35 wd_83 wd_1196 (by decide) (eM_0 g ad S1) rfl rfl rfl (by decide +kernel) ⟨Nat.le_of_ble_eq_true rfl, Nat.le_of_ble_eq_true rfl⟩ rfl hl.1 (lv_room (Nat.le_of_ble_eq_true rfl)) dX10_takeStart_23) (fun H locs X => ?_)
    exact rt_i C X rfl (Option.some.inj h) dX10_takeStart_26
  · have h := inn h c3
    refine lv_iload_n hx hb dX10_takeStart_13 rfl (lv_at hl 0 rfl) ?_
    refine lv_goto (tgt := 26) hx hb dX10_takeStart_14 (by decide) ?_
    exact rt_i C X rfl (Option.some.inj h) dX10_takeStart_26

def rmX10_takeRow : Room := { frames := 2, cells := 0, slots := 0, locals := 48 }
def b_X10_takeRow_44 (K6 : Nat → Int32 → Int32 → Int32 → Int32 → ST → Option (Int32 × ST)) (v2 : Nat) (v3 : Int32) (v4 : Int32) (v5 : Int32) (v6 : Int32) (S : ST) : Option (Int32 × ST) :=
  if v6 ≤ 0 then (chk (ib v5 (lnM v2)) (nm (su S v2 v5.toNatClampNeg (S.1 0 13)) fun S7 => nm (v5 + (1 : Int32)) fun x8 => bnd (f_X10_isComma S7) fun r10 S9 => K6 v2 v3 v4 x8 r10 S9)) else (some (v6, S))
def b_X10_takeRow_6 (K6 : Nat → Int32 → Int32 → Int32 → Int32 → ST → Option (Int32 × ST)) (v2 : Nat) (v3 : Int32) (v4 : Int32) (v5 : Int32) (v6 : Int32) (S : ST) : Option (Int32 × ST) :=
  if v6 = 0 then (some ((0 : Int32), S)) else (bnd (f_X10_takeNumber ((0 : Int32)) v4 S) fun r3 S2 => if r3 = 0 then (if v5 = v3 then (bnd (f_X10_fails ((4 : Int32)) (S2.1 0 14) S2) fun r13 S12 => b_X10_takeRow_44 K6 v2 v3 v4 v5 r13 S12) else (b_X10_takeRow_44 K6 v2 v3 v4 v5 r3 S2)) else (b_X10_takeRow_44 K6 v2 v3 v4 v5 r3 S2))
def f_X10_takeRow (a1 : Nat) (a2 : Int32) (a3 : Int32) (S : ST) : Option (Int32 × ST) :=
  lp (fun _ _ _ _ _ _ => none) (b_X10_takeRow_6) 1000 a1 a2 a3 ((0 : Int32)) ((1 : Int32)) S
set_option maxHeartbeats 4000000 in
set_option maxRecDepth 100000 in
theorem kb_X10_takeRow_44 {p : Program} {l : Launch} {e : Env} {s : State} {m : MethodId} {args : Array Value} {below : List Frame} {meth : Method} {c : Code} {g : GG} {ad : Nat → Nat} {res : (Int32 × ST)} {S : ST} (C : CX kM g ad p s m args meth c cX10_takeRow (some Jvm.ClassFile.FieldType.int) 7 yX10_takeRow.cls (.code yX10_takeRow cX10_takeRow 7 (some Jvm.ClassFile.FieldType.int))) {K6 : Nat → Int32 → Int32 → Int32 → Int32 → ST → Option (Int32 × ST)} (hK6 : ∀ {v2 : Nat} {v3 : Int32} {v4 : Int32} {v5 : Int32} {v6 : Int32} {S : ST} {H : Heap} {locs : List Loc} {ls : Array Slot}, K6 v2 v3 v4 v5 v6 S = some res → WX kM g ad s S H locs → lv_has ls 7 [(0, .ref (ad 0)), (1, .ref (ad v2)), (2, .int v3), (3, .int v4), (4, .int v5), (5, .int v6)] → (iaM v2 = true) → W p l e rmX10_takeRow s m args below meth c H locs 0 0 (MQ below (QI kM g ad res (AA kM ad s.heap.size)) args s 0 0 (AA kM ad s.heap.size)) (F0 m 6 ls [])) {v2 : Nat} {v3 : Int32} {v4 : Int32} {v5 : Int32} {v6 : Int32}  {H : Heap} {locs : List Loc} {ls : Array Slot} (h : b_X10_takeRow_44 K6 v2 v3 v4 v5 v6 S = some res) (X : WX kM g ad s S H locs) (hl : lv_has ls 7 [(0, .ref (ad 0)), (1, .ref (ad v2)), (2, .int v3), (3, .int v4), (4, .int v5)]) (g2 : iaM v2 = true) : W p l e rmX10_takeRow s m args below meth c H locs 0 0 (MQ below (QI kM g ad res (AA kM ad s.heap.size)) args s 0 0 (AA kM ad s.heap.size)) (F0 m 44 ls [.int v6]) := by
  have hx := C.1.1
  have hb := C.1.2.1
  have h : (if v6 ≤ 0 then (chk (ib v5 (lnM v2)) (nm (su S v2 v5.toNatClampNeg (S.1 0 13)) fun S7 => nm (v5 + (1 : Int32)) fun x8 => bnd (f_X10_isComma S7) fun r10 S9 => K6 v2 v3 v4 x8 r10 S9)) else (some (v6, S)) : Option (Int32 × ST)) = some res := h
  refine lv_istore (lv' := [(6, .int v6), (0, .ref (ad 0)), (1, .ref (ad v2)), (2, .int v3), (3, .int v4), (4, .int v5)]) hx hb dX10_takeRow_44 hl (by decide) rfl (fun ls hl => ?_)
  refine lv_iload hx hb dX10_takeRow_46 (lv_at hl 0 rfl) ?_
  refine lv_if_le (tgt := 54) hx hb dX10_takeRow_48 (by decide) (fun c5 => ?_) (fun c5 => ?_)
  · have h := ip h c5
    refine lv_aload_n hx hb dX10_takeRow_54 rfl (lv_at hl 2 rfl) ?_
    refine lv_iload hx hb dX10_takeRow_55 (lv_at hl 5 rfl) ?_
    refine lv_aload_n hx hb dX10_takeRow_57 rfl (lv_at hl 1 rfl) ?_
    refine g_get C X inT10 0 (by decide) (eM_0 g ad S) rfl 13 (by decide) wd_1019 (v := .int (S.1 0 13)) rfl dX10_takeRow_58 ?_
    obtain ⟨k6, h⟩ := chk_s h
    obtain ⟨S7, eS7, h⟩ := nm_s h
    refine g_iast (S' := S7) C X v2 (ltiaM g2) (eiaM g ad S g2) k6 (by subst eS7; rw [eiaM g ad _ g2, su_k]) (by subst eS7; exact fun i hi => ent_offu hi) dX10_takeRow_61 (fun H locs X => ?_)
    obtain ⟨x8, ex8, h⟩ := nm_s h
    refine lv_iinc (v := x8) (lv' := [(4, .int x8), (6, .int v6), (0, .ref (ad 0)), (1, .ref (ad v2)), (2, .int v3), (3, .int v4)]) hx hb dX10_takeRow_62 hl (k := 5) rfl (by rw [ex8]; rfl) (by decide) rfl (fun ls hl => ?_)
    refine lv_aload_n hx hb dX10_takeRow_65 rfl (lv_at hl 2 rfl) ?_
    obtain ⟨r10, S9, qr10, h⟩ := bnd_s h
    refine kc_i X (res := (r10, S9)) (rV (As := []) (rest := []) (n := 0) (k := 0) C X (c_X10_isComma l g ad S7 _   qr10) wd_1215 wd_1217 wd_40 wd_83 wd_1218 (by decide) (eM_0 g ad S7) rfl rfl rfl (by decide +kernel) ⟨Nat.le_of_ble_eq_true rfl, Nat.le_of_ble_eq_true rfl⟩ rfl hl.1 (lv_room (Nat.le_of_ble_eq_true rfl)) dX10_takeRow_66) (fun H locs X => ?_)
    refine lv_istore (lv' := [(5, .int r10), (4, .int x8), (6, .int v6), (0, .ref (ad 0)), (1, .ref (ad v2)), (2, .int v3), (3, .int v4)]) hx hb dX10_takeRow_69 hl (by decide) rfl (fun ls hl => ?_)
    refine lv_goto (tgt := 6) hx hb dX10_takeRow_71 (by decide) ?_
    exact hK6 h X (lv_sub hl [3, 4, 5, 6, 1, 0] rfl) g2
  · have h := inn h c5
    refine lv_iload hx hb dX10_takeRow_51 (lv_at hl 0 rfl) ?_
    exact rt_i C X rfl (Option.some.inj h) dX10_takeRow_53
set_option maxHeartbeats 4000000 in
set_option maxRecDepth 100000 in
theorem kb_X10_takeRow_6 {p : Program} {l : Launch} {e : Env} {s : State} {m : MethodId} {args : Array Value} {below : List Frame} {meth : Method} {c : Code} {g : GG} {ad : Nat → Nat} {res : (Int32 × ST)} {S : ST} (C : CX kM g ad p s m args meth c cX10_takeRow (some Jvm.ClassFile.FieldType.int) 7 yX10_takeRow.cls (.code yX10_takeRow cX10_takeRow 7 (some Jvm.ClassFile.FieldType.int))) {K6 : Nat → Int32 → Int32 → Int32 → Int32 → ST → Option (Int32 × ST)} (hK6 : ∀ {v2 : Nat} {v3 : Int32} {v4 : Int32} {v5 : Int32} {v6 : Int32} {S : ST} {H : Heap} {locs : List Loc} {ls : Array Slot}, K6 v2 v3 v4 v5 v6 S = some res → WX kM g ad s S H locs → lv_has ls 7 [(0, .ref (ad 0)), (1, .ref (ad v2)), (2, .int v3), (3, .int v4), (4, .int v5), (5, .int v6)] → (iaM v2 = true) → W p l e rmX10_takeRow s m args below meth c H locs 0 0 (MQ below (QI kM g ad res (AA kM ad s.heap.size)) args s 0 0 (AA kM ad s.heap.size)) (F0 m 6 ls [])) {v2 : Nat} {v3 : Int32} {v4 : Int32} {v5 : Int32} {v6 : Int32}  {H : Heap} {locs : List Loc} {ls : Array Slot} (h : b_X10_takeRow_6 K6 v2 v3 v4 v5 v6 S = some res) (X : WX kM g ad s S H locs) (hl : lv_has ls 7 [(0, .ref (ad 0)), (1, .ref (ad v2)), (2, .int v3), (3, .int v4), (4, .int v5), (5, .int v6)]) (g2 : iaM v2 = true) : W p l e rmX10_takeRow s m args below meth c H locs 0 0 (MQ below (QI kM g ad res (AA kM ad s.heap.size)) args s 0 0 (AA kM ad s.heap.size)) (F0 m 6 ls []) := by
  have hx := C.1.1
  have hb := C.1.2.1
  have h : (if v6 = 0 then (some ((0 : Int32), S)) else (bnd (f_X10_takeNumber ((0 : Int32)) v4 S) fun r3 S2 => if r3 = 0 then (if v5 = v3 then (bnd (f_X10_fails ((4 : Int32)) (S2.1 0 14) S2) fun r13 S12 => b_X10_takeRow_44 K6 v2 v3 v4 v5 r13 S12) else (b_X10_takeRow_44 K6 v2 v3 v4 v5 r3 S2)) else (b_X10_takeRow_44 K6 v2 v3 v4 v5 r3 S2)) : Option (Int32 × ST)) = some res := h
  refine lv_iload hx hb dX10_takeRow_6 (lv_at hl 5 rfl) ?_
  refine lv_if_eq (tgt := 74) hx hb dX10_takeRow_8 (by decide) (fun c1 => ?_) (fun c1 => ?_)
  · have h := ip h c1
    refine lv_iconst (v := (0 : Int32)) hx hb dX10_takeRow_74 (by decide) ?_
    exact rt_i C X rfl (Option.some.inj h) dX10_takeRow_75
  · have h := inn h c1
    refine lv_aload_n hx hb dX10_takeRow_11 rfl (lv_at hl 0 rfl) ?_
    refine lv_iconst (v := (0 : Int32)) hx hb dX10_takeRow_12 (by decide) ?_
    refine lv_iload_n hx hb dX10_takeRow_13 rfl (lv_at hl 3 rfl) ?_
    obtain ⟨r3, S2, qr3, h⟩ := bnd_s h
    refine kc_i X (res := (r3, S2)) (rV (As := [.int ((0 : Int32)), .int v4]) (rest := []) (n := 2) (k := 0) C X (c_X10_takeNumber l g ad S _ ((0 : Int32)) v4  qr3) wd_1197 wd_1199 wd_36 wd_83 wd_1200 (by decide) (eM_0 g ad S) rfl rfl rfl (by decide +kernel) ⟨Nat.le_of_ble_eq_true rfl, Nat.le_of_ble_eq_true rfl⟩ rfl hl.1 (lv_room (Nat.le_of_ble_eq_true rfl)) dX10_takeRow_14) (fun H locs X => ?_)
    refine lv_istore (lv' := [(6, .int r3), (0, .ref (ad 0)), (1, .ref (ad v2)), (2, .int v3), (3, .int v4), (4, .int v5), (5, .int v6)]) hx hb dX10_takeRow_17 hl (by decide) rfl (fun ls hl => ?_)
    refine lv_iload hx hb dX10_takeRow_19 (lv_at hl 0 rfl) ?_
    refine lv_if_ne (tgt := 42) hx hb dX10_takeRow_21 (by decide) (fun c4 => ?_) (fun c4 => ?_)
    · have h := inn h c4
      refine lv_iload hx hb dX10_takeRow_42 (lv_at hl 0 rfl) ?_
      exact kb_X10_takeRow_44 C hK6 h X (lv_sub hl [1, 2, 3, 4, 5] rfl) g2
    · have h := ip h c4
      refine lv_iload hx hb dX10_takeRow_24 (lv_at hl 5 rfl) ?_
      refine lv_iload_n hx hb dX10_takeRow_26 rfl (lv_at hl 3 rfl) ?_
      refine lv_icmp_ne (tgt := 42) hx hb dX10_takeRow_27 (by decide) (fun c11 => ?_) (fun c11 => ?_)
      · have h := inn h c11
        refine lv_iload hx hb dX10_takeRow_42 (lv_at hl 0 rfl) ?_
        exact kb_X10_takeRow_44 C hK6 h X (lv_sub hl [1, 2, 3, 4, 5] rfl) g2
      · have h := ip h c11
        refine lv_aload_n hx hb dX10_takeRow_30 rfl (lv_at hl 1 rfl) ?_
        refine lv_iconst (v := (4 : Int32)) hx hb dX10_takeRow_31 (by decide) ?_
        refine lv_aload_n hx hb dX10_takeRow_32 rfl (lv_at hl 1 rfl) ?_
        refine g_get C X inT10 0 (by decide) (eM_0 g ad S2) rfl 14 (by decide) wd_1020 (v := .int (S2.1 0 14)) rfl dX10_takeRow_33 ?_
        obtain ⟨r13, S12, qr13, h⟩ := bnd_s h
        refine kc_i X (res := (r13, S12)) (rV (As := [.int ((4 : Int32)), .int (S2.1 0 14)]) (rest := []) (n := 2) (k := 0) C X (c_X10_fails l g ad S2 _ ((4 : Int32)) (S2.1 0 14)  qr13) wd_1189 wd_1191 wd_34 wd_83 wd_1192 (by decide) (eM_0 g ad S2) rfl rfl rfl (by decide +kernel) ⟨Nat.le_of_ble_eq_true rfl, Nat.le_of_ble_eq_true rfl⟩ rfl hl.1 (lv_room (Nat.le_of_ble_eq_true rfl)) dX10_takeRow_36) (fun H locs X => ?_)
        refine lv_goto (tgt := 44) hx hb dX10_takeRow_39 (by decide) ?_
        exact kb_X10_takeRow_44 C hK6 h X (lv_sub hl [1, 2, 3, 4, 5] rfl) g2
set_option maxHeartbeats 4000000 in
set_option maxRecDepth 100000 in
theorem kl_X10_takeRow_6 {p : Program} {l : Launch} {e : Env} {s : State} {m : MethodId} {args : Array Value} {below : List Frame} {meth : Method} {c : Code} {g : GG} {ad : Nat → Nat} {res : (Int32 × ST)}  (C : CX kM g ad p s m args meth c cX10_takeRow (some Jvm.ClassFile.FieldType.int) 7 yX10_takeRow.cls (.code yX10_takeRow cX10_takeRow 7 (some Jvm.ClassFile.FieldType.int)))  : ∀ (n : Nat) {v2 : Nat} {v3 : Int32} {v4 : Int32} {v5 : Int32} {v6 : Int32} {S : ST} {H : Heap} {locs : List Loc} {ls : Array Slot}, (lp (fun _ _ _ _ _ _ => none) (b_X10_takeRow_6)) n v2 v3 v4 v5 v6 S = some res → WX kM g ad s S H locs → lv_has ls 7 [(0, .ref (ad 0)), (1, .ref (ad v2)), (2, .int v3), (3, .int v4), (4, .int v5), (5, .int v6)] → (iaM v2 = true) → W p l e rmX10_takeRow s m args below meth c H locs 0 0 (MQ below (QI kM g ad res (AA kM ad s.heap.size)) args s 0 0 (AA kM ad s.heap.size)) (F0 m 6 ls []) := by
  intro n
  induction n with
  | zero =>
    intro v2 v3 v4 v5 v6 S H locs ls h
    cases (show (none : Option (Int32 × ST)) = some res from h)
  | succ n ih =>
    intro v2 v3 v4 v5 v6 S H locs ls h X hl g2
    exact kb_X10_takeRow_6 C ih h X hl g2
set_option maxHeartbeats 4000000 in
set_option maxRecDepth 100000 in
theorem c_X10_takeRow (l : Launch) (g : GG) (ad : Nat → Nat) (S : ST) (sz : Nat) (a1 : Nat) (a2 : Int32) (a3 : Int32) (f1 : iaM a1 = true) {res : (Int32 × ST)} (h : f_X10_takeRow a1 a2 a3 S = some res) : Met l yX10_takeRow (WS (.code yX10_takeRow cX10_takeRow 7 (some Jvm.ClassFile.FieldType.int))) rmX10_takeRow (va_Pc [.ref (ad 0), .ref (ad a1), .int a2, .int a3] (PW kM g ad S sz)) (QI kM g ad res (AA kM ad sz)) 0 0 (AA kM ad sz) := by
  refine go_m (Qc := fun A => QI kM g ad res A) (by decide) (Nat.le_of_ble_eq_true rfl) (fun p e s m below meth c ls H locs C X hl => ?_)
  have hx := C.1.1
  have hb := C.1.2.1
  have hl : lv_has ls 7 [(0, .ref (ad 0)), (1, .ref (ad a1)), (2, .int a2), (3, .int a3)] := hl
  have h : (lp (fun _ _ _ _ _ _ => none) (b_X10_takeRow_6) 1000 a1 a2 a3 ((0 : Int32)) ((1 : Int32)) S : Option (Int32 × ST)) = some res := h
  refine lv_iconst (v := (0 : Int32)) hx hb dX10_takeRow_0 (by decide) ?_
  refine lv_istore (lv' := [(4, .int ((0 : Int32))), (0, .ref (ad 0)), (1, .ref (ad a1)), (2, .int a2), (3, .int a3)]) hx hb dX10_takeRow_1 hl (by decide) rfl (fun ls hl => ?_)
  refine lv_iconst (v := (1 : Int32)) hx hb dX10_takeRow_3 (by decide) ?_
  refine lv_istore (lv' := [(5, .int ((1 : Int32))), (4, .int ((0 : Int32))), (0, .ref (ad 0)), (1, .ref (ad a1)), (2, .int a2), (3, .int a3)]) hx hb dX10_takeRow_4 hl (by decide) rfl (fun ls hl => ?_)
  exact kl_X10_takeRow_6 C _ h X (lv_sub hl [2, 3, 4, 5, 1, 0] rfl) f1

def rmX10_takeStones : Room := { frames := 2, cells := 0, slots := 0, locals := 48 }
def b_X10_takeStones_43 (K2 : Int32 → ST → Option (Int32 × ST)) (v2 : Int32) (S : ST) : Option (Int32 × ST) :=
  if v2 ≤ 0 then (chk (ib (S.1 0 13) 24) (nm (su S 10 (S.1 0 13).toNatClampNeg (vp_nar .boolean ((1 : Int32)))) fun S7 => bnd (f_X10_isComma S7) fun r9 S8 => K2 r9 S8)) else (some (v2, S))
def b_X10_takeStones_2 (K2 : Int32 → ST → Option (Int32 × ST)) (v2 : Int32) (S : ST) : Option (Int32 × ST) :=
  if v2 = 0 then (some ((0 : Int32), S)) else (bnd (f_X10_takeNumber ((0 : Int32)) ((23 : Int32)) S) fun r3 S2 => if r3 = 0 then (chk (ib (S2.1 0 13) 24) (if (S2.1 10 (S2.1 0 13).toNatClampNeg) = 0 then (b_X10_takeStones_43 K2 r3 S2) else (bnd (f_X10_fails ((3 : Int32)) (S2.1 0 14) S2) fun r13 S12 => b_X10_takeStones_43 K2 r13 S12))) else (b_X10_takeStones_43 K2 r3 S2))
def f_X10_takeStones  (S : ST) : Option (Int32 × ST) :=
  lp (fun _ _ => none) (b_X10_takeStones_2) 1000 ((1 : Int32)) S
set_option maxHeartbeats 4000000 in
set_option maxRecDepth 100000 in
theorem kb_X10_takeStones_43 {p : Program} {l : Launch} {e : Env} {s : State} {m : MethodId} {args : Array Value} {below : List Frame} {meth : Method} {c : Code} {g : GG} {ad : Nat → Nat} {res : (Int32 × ST)} {S : ST} (C : CX kM g ad p s m args meth c cX10_takeStones (some Jvm.ClassFile.FieldType.int) 3 yX10_takeStones.cls (.code yX10_takeStones cX10_takeStones 3 (some Jvm.ClassFile.FieldType.int))) {K2 : Int32 → ST → Option (Int32 × ST)} (hK2 : ∀ {v2 : Int32} {S : ST} {H : Heap} {locs : List Loc} {ls : Array Slot}, K2 v2 S = some res → WX kM g ad s S H locs → lv_has ls 3 [(0, .ref (ad 0)), (1, .int v2)] → W p l e rmX10_takeStones s m args below meth c H locs 0 0 (MQ below (QI kM g ad res (AA kM ad s.heap.size)) args s 0 0 (AA kM ad s.heap.size)) (F0 m 2 ls [])) {v2 : Int32}  {H : Heap} {locs : List Loc} {ls : Array Slot} (h : b_X10_takeStones_43 K2 v2 S = some res) (X : WX kM g ad s S H locs) (hl : lv_has ls 3 [(0, .ref (ad 0))])  : W p l e rmX10_takeStones s m args below meth c H locs 0 0 (MQ below (QI kM g ad res (AA kM ad s.heap.size)) args s 0 0 (AA kM ad s.heap.size)) (F0 m 43 ls [.int v2]) := by
  have hx := C.1.1
  have hb := C.1.2.1
  have h : (if v2 ≤ 0 then (chk (ib (S.1 0 13) 24) (nm (su S 10 (S.1 0 13).toNatClampNeg (vp_nar .boolean ((1 : Int32)))) fun S7 => bnd (f_X10_isComma S7) fun r9 S8 => K2 r9 S8)) else (some (v2, S)) : Option (Int32 × ST)) = some res := h
  refine lv_istore_n (lv' := [(2, .int v2), (0, .ref (ad 0))]) hx hb dX10_takeStones_43 rfl hl (by decide) rfl (fun ls hl => ?_)
  refine lv_iload_n hx hb dX10_takeStones_44 rfl (lv_at hl 0 rfl) ?_
  refine lv_if_le (tgt := 50) hx hb dX10_takeStones_45 (by decide) (fun c5 => ?_) (fun c5 => ?_)
  · have h := ip h c5
    refine lv_aload_n hx hb dX10_takeStones_50 rfl (lv_at hl 1 rfl) ?_
    refine g_get C X inT10 0 (by decide) (eM_0 g ad S) rfl 17 (by decide) wd_1023 (v := .ref (ad 10)) rfl dX10_takeStones_51 ?_
    refine lv_aload_n hx hb dX10_takeStones_54 rfl (lv_at hl 1 rfl) ?_
    refine g_get C X inT10 0 (by decide) (eM_0 g ad S) rfl 13 (by decide) wd_1019 (v := .int (S.1 0 13)) rfl dX10_takeStones_55 ?_
    refine lv_iconst (v := (1 : Int32)) hx hb dX10_takeStones_58 (by decide) ?_
    obtain ⟨k6, h⟩ := chk_s h
    obtain ⟨S7, eS7, h⟩ := nm_s h
    refine g_zast (S' := S7) C X 10 (by decide) (eM_10 g ad S) k6 (by subst eS7; rfl) (by subst eS7; exact fun i hi => ent_offu hi) dX10_takeStones_59 (fun H locs X => ?_)
    refine lv_aload_n hx hb dX10_takeStones_60 rfl (lv_at hl 1 rfl) ?_
    obtain ⟨r9, S8, qr9, h⟩ := bnd_s h
    refine kc_i X (res := (r9, S8)) (rV (As := []) (rest := []) (n := 0) (k := 0) C X (c_X10_isComma l g ad S7 _   qr9) wd_1215 wd_1217 wd_40 wd_83 wd_1218 (by decide) (eM_0 g ad S7) rfl rfl rfl (by decide +kernel) ⟨Nat.le_of_ble_eq_true rfl, Nat.le_of_ble_eq_true rfl⟩ rfl hl.1 (lv_room (Nat.le_of_ble_eq_true rfl)) dX10_takeStones_61) (fun H locs X => ?_)
    refine lv_istore_n (lv' := [(1, .int r9), (2, .int v2), (0, .ref (ad 0))]) hx hb dX10_takeStones_64 rfl hl (by decide) rfl (fun ls hl => ?_)
    refine lv_goto (tgt := 2) hx hb dX10_takeStones_65 (by decide) ?_
    exact hK2 h X (lv_sub hl [2, 0] rfl) 
  · have h := inn h c5
    refine lv_iload_n hx hb dX10_takeStones_48 rfl (lv_at hl 0 rfl) ?_
    exact rt_i C X rfl (Option.some.inj h) dX10_takeStones_49
set_option maxHeartbeats 4000000 in
set_option maxRecDepth 100000 in
theorem kb_X10_takeStones_2 {p : Program} {l : Launch} {e : Env} {s : State} {m : MethodId} {args : Array Value} {below : List Frame} {meth : Method} {c : Code} {g : GG} {ad : Nat → Nat} {res : (Int32 × ST)} {S : ST} (C : CX kM g ad p s m args meth c cX10_takeStones (some Jvm.ClassFile.FieldType.int) 3 yX10_takeStones.cls (.code yX10_takeStones cX10_takeStones 3 (some Jvm.ClassFile.FieldType.int))) {K2 : Int32 → ST → Option (Int32 × ST)} (hK2 : ∀ {v2 : Int32} {S : ST} {H : Heap} {locs : List Loc} {ls : Array Slot}, K2 v2 S = some res → WX kM g ad s S H locs → lv_has ls 3 [(0, .ref (ad 0)), (1, .int v2)] → W p l e rmX10_takeStones s m args below meth c H locs 0 0 (MQ below (QI kM g ad res (AA kM ad s.heap.size)) args s 0 0 (AA kM ad s.heap.size)) (F0 m 2 ls [])) {v2 : Int32}  {H : Heap} {locs : List Loc} {ls : Array Slot} (h : b_X10_takeStones_2 K2 v2 S = some res) (X : WX kM g ad s S H locs) (hl : lv_has ls 3 [(0, .ref (ad 0)), (1, .int v2)])  : W p l e rmX10_takeStones s m args below meth c H locs 0 0 (MQ below (QI kM g ad res (AA kM ad s.heap.size)) args s 0 0 (AA kM ad s.heap.size)) (F0 m 2 ls []) := by
  have hx := C.1.1
  have hb := C.1.2.1
  have h : (if v2 = 0 then (some ((0 : Int32), S)) else (bnd (f_X10_takeNumber ((0 : Int32)) ((23 : Int32)) S) fun r3 S2 => if r3 = 0 then (chk (ib (S2.1 0 13) 24) (if (S2.1 10 (S2.1 0 13).toNatClampNeg) = 0 then (b_X10_takeStones_43 K2 r3 S2) else (bnd (f_X10_fails ((3 : Int32)) (S2.1 0 14) S2) fun r13 S12 => b_X10_takeStones_43 K2 r13 S12))) else (b_X10_takeStones_43 K2 r3 S2)) : Option (Int32 × ST)) = some res := h
  refine lv_iload_n hx hb dX10_takeStones_2 rfl (lv_at hl 1 rfl) ?_
  refine lv_if_eq (tgt := 68) hx hb dX10_takeStones_3 (by decide) (fun c1 => ?_) (fun c1 => ?_)
  · have h := ip h c1
    refine lv_iconst (v := (0 : Int32)) hx hb dX10_takeStones_68 (by decide) ?_
    exact rt_i C X rfl (Option.some.inj h) dX10_takeStones_69
  · have h := inn h c1
    refine lv_aload_n hx hb dX10_takeStones_6 rfl (lv_at hl 0 rfl) ?_
    refine lv_iconst (v := (0 : Int32)) hx hb dX10_takeStones_7 (by decide) ?_
    refine lv_bipush (v := (23 : Int32)) hx hb dX10_takeStones_8 (by decide) ?_
    obtain ⟨r3, S2, qr3, h⟩ := bnd_s h
    refine kc_i X (res := (r3, S2)) (rV (As := [.int ((0 : Int32)), .int ((23 : Int32))]) (rest := []) (n := 2) (k := 0) C X (c_X10_takeNumber l g ad S _ ((0 : Int32)) ((23 : Int32))  qr3) wd_1197 wd_1199 wd_36 wd_83 wd_1200 (by decide) (eM_0 g ad S) rfl rfl rfl (by decide +kernel) ⟨Nat.le_of_ble_eq_true rfl, Nat.le_of_ble_eq_true rfl⟩ rfl hl.1 (lv_room (Nat.le_of_ble_eq_true rfl)) dX10_takeStones_10) (fun H locs X => ?_)
    refine lv_istore_n (lv' := [(2, .int r3), (0, .ref (ad 0)), (1, .int v2)]) hx hb dX10_takeStones_13 rfl hl (by decide) rfl (fun ls hl => ?_)
    refine lv_iload_n hx hb dX10_takeStones_14 rfl (lv_at hl 0 rfl) ?_
    refine lv_if_ne (tgt := 42) hx hb dX10_takeStones_15 (by decide) (fun c4 => ?_) (fun c4 => ?_)
    · have h := inn h c4
      refine lv_iload_n hx hb dX10_takeStones_42 rfl (lv_at hl 0 rfl) ?_
      exact kb_X10_takeStones_43 C hK2 h X (lv_sub hl [1] rfl) 
    · have h := ip h c4
      refine lv_aload_n hx hb dX10_takeStones_18 rfl (lv_at hl 1 rfl) ?_
      refine g_get C X inT10 0 (by decide) (eM_0 g ad S2) rfl 17 (by decide) wd_1023 (v := .ref (ad 10)) rfl dX10_takeStones_19 ?_
      refine lv_aload_n hx hb dX10_takeStones_22 rfl (lv_at hl 1 rfl) ?_
      refine g_get C X inT10 0 (by decide) (eM_0 g ad S2) rfl 13 (by decide) wd_1019 (v := .int (S2.1 0 13)) rfl dX10_takeStones_23 ?_
      obtain ⟨k10, h⟩ := chk_s h
      refine g_zald C X 10 (by decide) (eM_10 g ad S2) k10 dX10_takeStones_26 ?_
      refine lv_if_eq (tgt := 42) hx hb dX10_takeStones_27 (by decide) (fun c11 => ?_) (fun c11 => ?_)
      · have h := ip h c11
        refine lv_iload_n hx hb dX10_takeStones_42 rfl (lv_at hl 0 rfl) ?_
        exact kb_X10_takeStones_43 C hK2 h X (lv_sub hl [1] rfl) 
      · have h := inn h c11
        refine lv_aload_n hx hb dX10_takeStones_30 rfl (lv_at hl 1 rfl) ?_
        refine lv_iconst (v := (3 : Int32)) hx hb dX10_takeStones_31 (by decide) ?_
        refine lv_aload_n hx hb dX10_takeStones_32 rfl (lv_at hl 1 rfl) ?_
        refine g_get C X inT10 0 (by decide) (eM_0 g ad S2) rfl 14 (by decide) wd_1020 (v := .int (S2.1 0 14)) rfl dX10_takeStones_33 ?_
        obtain ⟨r13, S12, qr13, h⟩ := bnd_s h
        refine kc_i X (res := (r13, S12)) (rV (As := [.int ((3 : Int32)), .int (S2.1 0 14)]) (rest := []) (n := 2) (k := 0) C X (c_X10_fails l g ad S2 _ ((3 : Int32)) (S2.1 0 14)  qr13) wd_1189 wd_1191 wd_34 wd_83 wd_1192 (by decide) (eM_0 g ad S2) rfl rfl rfl (by decide +kernel) ⟨Nat.le_of_ble_eq_true rfl, Nat.le_of_ble_eq_true rfl⟩ rfl hl.1 (lv_room (Nat.le_of_ble_eq_true rfl)) dX10_takeStones_36) (fun H locs X => ?_)
        refine lv_goto (tgt := 43) hx hb dX10_takeStones_39 (by decide) ?_
        exact kb_X10_takeStones_43 C hK2 h X (lv_sub hl [1] rfl) 
set_option maxHeartbeats 4000000 in
set_option maxRecDepth 100000 in
theorem kl_X10_takeStones_2 {p : Program} {l : Launch} {e : Env} {s : State} {m : MethodId} {args : Array Value} {below : List Frame} {meth : Method} {c : Code} {g : GG} {ad : Nat → Nat} {res : (Int32 × ST)}  (C : CX kM g ad p s m args meth c cX10_takeStones (some Jvm.ClassFile.FieldType.int) 3 yX10_takeStones.cls (.code yX10_takeStones cX10_takeStones 3 (some Jvm.ClassFile.FieldType.int)))  : ∀ (n : Nat) {v2 : Int32} {S : ST} {H : Heap} {locs : List Loc} {ls : Array Slot}, (lp (fun _ _ => none) (b_X10_takeStones_2)) n v2 S = some res → WX kM g ad s S H locs → lv_has ls 3 [(0, .ref (ad 0)), (1, .int v2)] → W p l e rmX10_takeStones s m args below meth c H locs 0 0 (MQ below (QI kM g ad res (AA kM ad s.heap.size)) args s 0 0 (AA kM ad s.heap.size)) (F0 m 2 ls []) := by
  intro n
  induction n with
  | zero =>
    intro v2 S H locs ls h
    cases (show (none : Option (Int32 × ST)) = some res from h)
  | succ n ih =>
    intro v2 S H locs ls h X hl 
    exact kb_X10_takeStones_2 C ih h X hl 
set_option maxHeartbeats 4000000 in
set_option maxRecDepth 100000 in
theorem c_X10_takeStones (l : Launch) (g : GG) (ad : Nat → Nat) (S : ST) (sz : Nat)   {res : (Int32 × ST)} (h : f_X10_takeStones S = some res) : Met l yX10_takeStones (WS (.code yX10_takeStones cX10_takeStones 3 (some Jvm.ClassFile.FieldType.int))) rmX10_takeStones (va_Pc [.ref (ad 0)] (PW kM g ad S sz)) (QI kM g ad res (AA kM ad sz)) 0 0 (AA kM ad sz) := by
  refine go_m (Qc := fun A => QI kM g ad res A) (by decide) (Nat.le_of_ble_eq_true rfl) (fun p e s m below meth c ls H locs C X hl => ?_)
  have hx := C.1.1
  have hb := C.1.2.1
  have hl : lv_has ls 3 [(0, .ref (ad 0))] := hl
  have h : (lp (fun _ _ => none) (b_X10_takeStones_2) 1000 ((1 : Int32)) S : Option (Int32 × ST)) = some res := h
  refine lv_iconst (v := (1 : Int32)) hx hb dX10_takeStones_0 (by decide) ?_
  refine lv_istore_n (lv' := [(1, .int ((1 : Int32))), (0, .ref (ad 0))]) hx hb dX10_takeStones_1 rfl hl (by decide) rfl (fun ls hl => ?_)
  exact kl_X10_takeStones_2 C _ h X (lv_sub hl [1, 0] rfl) 

def rmX10_clauseOf : Room := { frames := 1, cells := 0, slots := 0, locals := 23 }
def b_X10_clauseOf_219 (S : ST)  (v2 : Int32) (v3 : Int32) : Option Int32 :=
  if v2 < 0 then (if v3 < 0 then (bn1 (f_X10_code ((109 : Int32)) ((111 : Int32)) ((110 : Int32)) ((116 : Int32))) fun r25 => bn1 (f_X10_longer r25 ((104 : Int32))) fun r26 => bn1 (f_X10_longer r26 ((115 : Int32))) fun r27 => if (lg_cmp (S.2) r27) = 0 then (some ((8 : Int32))) else (some ((-1 : Int32)))) else (some v3)) else (some v2)
def b_X10_clauseOf_108 (S : ST)  (v2 : Int32) : Option Int32 :=
  bn1 (f_X10_code ((110 : Int32)) ((101 : Int32)) ((101 : Int32)) ((100 : Int32))) fun r12 => if (lg_cmp (S.2) r12) = 0 then (b_X10_clauseOf_219 S v2 ((4 : Int32))) else (bn1 (f_X10_code ((119 : Int32)) ((97 : Int32)) ((116 : Int32)) ((101 : Int32))) fun r14 => bn1 (f_X10_longer r14 ((114 : Int32))) fun r15 => if (lg_cmp (S.2) r15) = 0 then (b_X10_clauseOf_219 S v2 ((5 : Int32))) else (bn1 (f_X10_code ((115 : Int32)) ((116 : Int32)) ((111 : Int32)) ((110 : Int32))) fun r17 => bn1 (f_X10_longer r17 ((101 : Int32))) fun r18 => bn1 (f_X10_longer r18 ((115 : Int32))) fun r19 => if (lg_cmp (S.2) r19) = 0 then (b_X10_clauseOf_219 S v2 ((6 : Int32))) else (bn1 (f_X10_code ((115 : Int32)) ((97 : Int32)) ((110 : Int32)) ((100 : Int32))) fun r21 => if (lg_cmp (S.2) r21) = 0 then (b_X10_clauseOf_219 S v2 ((7 : Int32))) else (b_X10_clauseOf_219 S v2 ((-1 : Int32))))))
def f_X10_clauseOf  (S : ST) : Option Int32 :=
  bn1 (f_X10_code ((98 : Int32)) ((111 : Int32)) ((117 : Int32)) ((103 : Int32))) fun r1 => bn1 (f_X10_longer r1 ((104 : Int32))) fun r2 => if (lg_cmp (S.2) r2) = 0 then (b_X10_clauseOf_108 S ((0 : Int32))) else (bn1 (f_X10_code ((114 : Int32)) ((111 : Int32)) ((112 : Int32)) ((101 : Int32))) fun r4 => if (lg_cmp (S.2) r4) = 0 then (b_X10_clauseOf_108 S ((1 : Int32))) else (bn1 (f_X10_code ((115 : Int32)) ((116 : Int32)) ((97 : Int32)) ((114 : Int32))) fun r6 => bn1 (f_X10_longer r6 ((116 : Int32))) fun r7 => if (lg_cmp (S.2) r7) = 0 then (b_X10_clauseOf_108 S ((2 : Int32))) else (bn1 (f_X10_code ((116 : Int32)) ((114 : Int32)) ((117 : Int32)) ((110 : Int32))) fun r9 => bn1 (f_X10_longer r9 ((107 : Int32))) fun r10 => if (lg_cmp (S.2) r10) = 0 then (b_X10_clauseOf_108 S ((3 : Int32))) else (b_X10_clauseOf_108 S ((-1 : Int32))))))
set_option maxHeartbeats 4000000 in
set_option maxRecDepth 100000 in
theorem kb_X10_clauseOf_219 {p : Program} {l : Launch} {e : Env} {s : State} {m : MethodId} {args : Array Value} {below : List Frame} {meth : Method} {c : Code} {g : GG} {ad : Nat → Nat} {res : Int32} {S : ST} (C : CX kM g ad p s m args meth c cX10_clauseOf (some Jvm.ClassFile.FieldType.int) 3 yX10_clauseOf.cls (.code yX10_clauseOf cX10_clauseOf 3 (some Jvm.ClassFile.FieldType.int)))  {v2 : Int32} {v3 : Int32}  {H : Heap} {locs : List Loc} {ls : Array Slot} (h : b_X10_clauseOf_219 S v2 v3 = some res) (X : WX kM g ad s S H locs) (hl : lv_has ls 3 [(0, .ref (ad 0)), (1, .int v2)])  : W p l e rmX10_clauseOf s m args below meth c H locs 0 0 (MQ below (QI kM g ad (res, S) (AA kM ad s.heap.size)) args s 0 0 (AA kM ad s.heap.size)) (F0 m 219 ls [.int v3]) := by
  have hx := C.1.1
  have hb := C.1.2.1
  have h : (if v2 < 0 then (if v3 < 0 then (bn1 (f_X10_code ((109 : Int32)) ((111 : Int32)) ((110 : Int32)) ((116 : Int32))) fun r25 => bn1 (f_X10_longer r25 ((104 : Int32))) fun r26 => bn1 (f_X10_longer r26 ((115 : Int32))) fun r27 => if (lg_cmp (S.2) r27) = 0 then (some ((8 : Int32))) else (some ((-1 : Int32)))) else (some v3)) else (some v2) : Option Int32) = some res := h
  refine lv_istore_n (lv' := [(2, .int v3), (0, .ref (ad 0)), (1, .int v2)]) hx hb dX10_clauseOf_219 rfl hl (by decide) rfl (fun ls hl => ?_)
  refine lv_iload_n hx hb dX10_clauseOf_220 rfl (lv_at hl 2 rfl) ?_
  refine lv_if_lt (tgt := 228) hx hb dX10_clauseOf_221 (by decide) (fun c23 => ?_) (fun c23 => ?_)
  · have h := ip h c23
    refine lv_iload_n hx hb dX10_clauseOf_228 rfl (lv_at hl 0 rfl) ?_
    refine lv_if_lt (tgt := 236) hx hb dX10_clauseOf_229 (by decide) (fun c24 => ?_) (fun c24 => ?_)
    · have h := ip h c24
      refine lv_aload_n hx hb dX10_clauseOf_236 rfl (lv_at hl 1 rfl) ?_
      refine g_get C X inT10 0 (by decide) (eM_0 g ad S) rfl 11 (by decide) wd_1017 (v := .long (S.2)) rfl dX10_clauseOf_237 ?_
      refine lv_bipush (v := (109 : Int32)) hx hb dX10_clauseOf_240 (by decide) ?_
      refine lv_bipush (v := (111 : Int32)) hx hb dX10_clauseOf_242 (by decide) ?_
      refine lv_bipush (v := (110 : Int32)) hx hb dX10_clauseOf_244 (by decide) ?_
      refine lv_bipush (v := (116 : Int32)) hx hb dX10_clauseOf_246 (by decide) ?_
      obtain ⟨r25, qr25, h⟩ := bn1_s h
      refine kc_l X (res := (r25, S)) (rS (As := [.int ((109 : Int32)), .int ((111 : Int32)), .int ((110 : Int32)), .int ((116 : Int32))]) (rest := [.long (S.2)]) (n := 4) C X (c_X10_code l g ad S _ ((109 : Int32)) ((111 : Int32)) ((110 : Int32)) ((116 : Int32))  qr25) wd_1183 wd_1184 wd_83 wd_1185 rfl rfl (by decide +kernel) ⟨Nat.le_of_ble_eq_true rfl, Nat.le_of_ble_eq_true rfl⟩ rfl hl.1 (lv_room (Nat.le_of_ble_eq_true rfl)) dX10_clauseOf_248) (fun H locs X => ?_)
      refine lv_bipush (v := (104 : Int32)) hx hb dX10_clauseOf_251 (by decide) ?_
      obtain ⟨r26, qr26, h⟩ := bn1_s h
      refine kc_l X (res := (r26, S)) (rS (As := [.long r25, .int ((104 : Int32))]) (rest := [.long (S.2)]) (n := 2) C X (c_X10_longer l g ad S _ r25 ((104 : Int32))  qr26) wd_1186 wd_1187 wd_83 wd_1188 rfl rfl (by decide +kernel) ⟨Nat.le_of_ble_eq_true rfl, Nat.le_of_ble_eq_true rfl⟩ rfl hl.1 (lv_room (Nat.le_of_ble_eq_true rfl)) dX10_clauseOf_253) (fun H locs X => ?_)
      refine lv_bipush (v := (115 : Int32)) hx hb dX10_clauseOf_256 (by decide) ?_
      obtain ⟨r27, qr27, h⟩ := bn1_s h
      refine kc_l X (res := (r27, S)) (rS (As := [.long r26, .int ((115 : Int32))]) (rest := [.long (S.2)]) (n := 2) C X (c_X10_longer l g ad S _ r26 ((115 : Int32))  qr27) wd_1186 wd_1187 wd_83 wd_1188 rfl rfl (by decide +kernel) ⟨Nat.le_of_ble_eq_true rfl, Nat.le_of_ble_eq_true rfl⟩ rfl hl.1 (lv_room (Nat.le_of_ble_eq_true rfl)) dX10_clauseOf_258) (fun H locs X => ?_)
      refine W.lcmp hx hb dX10_clauseOf_261 ?_
      refine lv_if_ne (tgt := 270) hx hb dX10_clauseOf_262 (by decide) (fun c28 => ?_) (fun c28 => ?_)
      · have h := inn h c28
        refine lv_iconst (v := (-1 : Int32)) hx hb dX10_clauseOf_270 (by decide) ?_
        exact rt_i C X rfl (congrArg (fun z => (z, S)) (Option.some.inj h)) dX10_clauseOf_271
      · have h := ip h c28
        refine lv_bipush (v := (8 : Int32)) hx hb dX10_clauseOf_265 (by decide) ?_
        refine lv_goto (tgt := 271) hx hb dX10_clauseOf_267 (by decide) ?_
        exact rt_i C X rfl (congrArg (fun z => (z, S)) (Option.some.inj h)) dX10_clauseOf_271
    · have h := inn h c24
      refine lv_iload_n hx hb dX10_clauseOf_232 rfl (lv_at hl 0 rfl) ?_
      refine lv_goto (tgt := 271) hx hb dX10_clauseOf_233 (by decide) ?_
      exact rt_i C X rfl (congrArg (fun z => (z, S)) (Option.some.inj h)) dX10_clauseOf_271
  · have h := inn h c23
    refine lv_iload_n hx hb dX10_clauseOf_224 rfl (lv_at hl 2 rfl) ?_
    refine lv_goto (tgt := 271) hx hb dX10_clauseOf_225 (by decide) ?_
    exact rt_i C X rfl (congrArg (fun z => (z, S)) (Option.some.inj h)) dX10_clauseOf_271
set_option maxHeartbeats 4000000 in
set_option maxRecDepth 100000 in
theorem kb_X10_clauseOf_108 {p : Program} {l : Launch} {e : Env} {s : State} {m : MethodId} {args : Array Value} {below : List Frame} {meth : Method} {c : Code} {g : GG} {ad : Nat → Nat} {res : Int32} {S : ST} (C : CX kM g ad p s m args meth c cX10_clauseOf (some Jvm.ClassFile.FieldType.int) 3 yX10_clauseOf.cls (.code yX10_clauseOf cX10_clauseOf 3 (some Jvm.ClassFile.FieldType.int)))  {v2 : Int32}  {H : Heap} {locs : List Loc} {ls : Array Slot} (h : b_X10_clauseOf_108 S v2 = some res) (X : WX kM g ad s S H locs) (hl : lv_has ls 3 [(0, .ref (ad 0))])  : W p l e rmX10_clauseOf s m args below meth c H locs 0 0 (MQ below (QI kM g ad (res, S) (AA kM ad s.heap.size)) args s 0 0 (AA kM ad s.heap.size)) (F0 m 108 ls [.int v2]) := by
  have hx := C.1.1
  have hb := C.1.2.1
  have h : (bn1 (f_X10_code ((110 : Int32)) ((101 : Int32)) ((101 : Int32)) ((100 : Int32))) fun r12 => if (lg_cmp (S.2) r12) = 0 then (b_X10_clauseOf_219 S v2 ((4 : Int32))) else (bn1 (f_X10_code ((119 : Int32)) ((97 : Int32)) ((116 : Int32)) ((101 : Int32))) fun r14 => bn1 (f_X10_longer r14 ((114 : Int32))) fun r15 => if (lg_cmp (S.2) r15) = 0 then (b_X10_clauseOf_219 S v2 ((5 : Int32))) else (bn1 (f_X10_code ((115 : Int32)) ((116 : Int32)) ((111 : Int32)) ((110 : Int32))) fun r17 => bn1 (f_X10_longer r17 ((101 : Int32))) fun r18 => bn1 (f_X10_longer r18 ((115 : Int32))) fun r19 => if (lg_cmp (S.2) r19) = 0 then (b_X10_clauseOf_219 S v2 ((6 : Int32))) else (bn1 (f_X10_code ((115 : Int32)) ((97 : Int32)) ((110 : Int32)) ((100 : Int32))) fun r21 => if (lg_cmp (S.2) r21) = 0 then (b_X10_clauseOf_219 S v2 ((7 : Int32))) else (b_X10_clauseOf_219 S v2 ((-1 : Int32)))))) : Option Int32) = some res := h
  refine lv_istore_n (lv' := [(1, .int v2), (0, .ref (ad 0))]) hx hb dX10_clauseOf_108 rfl hl (by decide) rfl (fun ls hl => ?_)
  refine lv_aload_n hx hb dX10_clauseOf_109 rfl (lv_at hl 1 rfl) ?_
  refine g_get C X inT10 0 (by decide) (eM_0 g ad S) rfl 11 (by decide) wd_1017 (v := .long (S.2)) rfl dX10_clauseOf_110 ?_
  refine lv_bipush (v := (110 : Int32)) hx hb dX10_clauseOf_113 (by decide) ?_
  refine lv_bipush (v := (101 : Int32)) hx hb dX10_clauseOf_115 (by decide) ?_
  refine lv_bipush (v := (101 : Int32)) hx hb dX10_clauseOf_117 (by decide) ?_
  refine lv_bipush (v := (100 : Int32)) hx hb dX10_clauseOf_119 (by decide) ?_
  obtain ⟨r12, qr12, h⟩ := bn1_s h
  refine kc_l X (res := (r12, S)) (rS (As := [.int ((110 : Int32)), .int ((101 : Int32)), .int ((101 : Int32)), .int ((100 : Int32))]) (rest := [.long (S.2)]) (n := 4) C X (c_X10_code l g ad S _ ((110 : Int32)) ((101 : Int32)) ((101 : Int32)) ((100 : Int32))  qr12) wd_1183 wd_1184 wd_83 wd_1185 rfl rfl (by decide +kernel) ⟨Nat.le_of_ble_eq_true rfl, Nat.le_of_ble_eq_true rfl⟩ rfl hl.1 (lv_room (Nat.le_of_ble_eq_true rfl)) dX10_clauseOf_121) (fun H locs X => ?_)
  refine W.lcmp hx hb dX10_clauseOf_124 ?_
  refine lv_if_ne (tgt := 132) hx hb dX10_clauseOf_125 (by decide) (fun c13 => ?_) (fun c13 => ?_)
  · have h := inn h c13
    refine lv_aload_n hx hb dX10_clauseOf_132 rfl (lv_at hl 1 rfl) ?_
    refine g_get C X inT10 0 (by decide) (eM_0 g ad S) rfl 11 (by decide) wd_1017 (v := .long (S.2)) rfl dX10_clauseOf_133 ?_
    refine lv_bipush (v := (119 : Int32)) hx hb dX10_clauseOf_136 (by decide) ?_
    refine lv_bipush (v := (97 : Int32)) hx hb dX10_clauseOf_138 (by decide) ?_
    refine lv_bipush (v := (116 : Int32)) hx hb dX10_clauseOf_140 (by decide) ?_
    refine lv_bipush (v := (101 : Int32)) hx hb dX10_clauseOf_142 (by decide) ?_
    obtain ⟨r14, qr14, h⟩ := bn1_s h
    refine kc_l X (res := (r14, S)) (rS (As := [.int ((119 : Int32)), .int ((97 : Int32)), .int ((116 : Int32)), .int ((101 : Int32))]) (rest := [.long (S.2)]) (n := 4) C X (c_X10_code l g ad S _ ((119 : Int32)) ((97 : Int32)) ((116 : Int32)) ((101 : Int32))  qr14) wd_1183 wd_1184 wd_83 wd_1185 rfl rfl (by decide +kernel) ⟨Nat.le_of_ble_eq_true rfl, Nat.le_of_ble_eq_true rfl⟩ rfl hl.1 (lv_room (Nat.le_of_ble_eq_true rfl)) dX10_clauseOf_144) (fun H locs X => ?_)
    refine lv_bipush (v := (114 : Int32)) hx hb dX10_clauseOf_147 (by decide) ?_
    obtain ⟨r15, qr15, h⟩ := bn1_s h
    refine kc_l X (res := (r15, S)) (rS (As := [.long r14, .int ((114 : Int32))]) (rest := [.long (S.2)]) (n := 2) C X (c_X10_longer l g ad S _ r14 ((114 : Int32))  qr15) wd_1186 wd_1187 wd_83 wd_1188 rfl rfl (by decide +kernel) ⟨Nat.le_of_ble_eq_true rfl, Nat.le_of_ble_eq_true rfl⟩ rfl hl.1 (lv_room (Nat.le_of_ble_eq_true rfl)) dX10_clauseOf_149) (fun H locs X => ?_)
    refine W.lcmp hx hb dX10_clauseOf_152 ?_
    refine lv_if_ne (tgt := 160) hx hb dX10_clauseOf_153 (by decide) (fun c16 => ?_) (fun c16 => ?_)
    · have h := inn h c16
      refine lv_aload_n hx hb dX10_clauseOf_160 rfl (lv_at hl 1 rfl) ?_
      refine g_get C X inT10 0 (by decide) (eM_0 g ad S) rfl 11 (by decide) wd_1017 (v := .long (S.2)) rfl dX10_clauseOf_161 ?_
      refine lv_bipush (v := (115 : Int32)) hx hb dX10_clauseOf_164 (by decide) ?_
      refine lv_bipush (v := (116 : Int32)) hx hb dX10_clauseOf_166 (by decide) ?_
      refine lv_bipush (v := (111 : Int32)) hx hb dX10_clauseOf_168 (by decide) ?_
      refine lv_bipush (v := (110 : Int32)) hx hb dX10_clauseOf_170 (by decide) ?_
      obtain ⟨r17, qr17, h⟩ := bn1_s h
      refine kc_l X (res := (r17, S)) (rS (As := [.int ((115 : Int32)), .int ((116 : Int32)), .int ((111 : Int32)), .int ((110 : Int32))]) (rest := [.long (S.2)]) (n := 4) C X (c_X10_code l g ad S _ ((115 : Int32)) ((116 : Int32)) ((111 : Int32)) ((110 : Int32))  qr17) wd_1183 wd_1184 wd_83 wd_1185 rfl rfl (by decide +kernel) ⟨Nat.le_of_ble_eq_true rfl, Nat.le_of_ble_eq_true rfl⟩ rfl hl.1 (lv_room (Nat.le_of_ble_eq_true rfl)) dX10_clauseOf_172) (fun H locs X => ?_)
      refine lv_bipush (v := (101 : Int32)) hx hb dX10_clauseOf_175 (by decide) ?_
      obtain ⟨r18, qr18, h⟩ := bn1_s h
      refine kc_l X (res := (r18, S)) (rS (As := [.long r17, .int ((101 : Int32))]) (rest := [.long (S.2)]) (n := 2) C X (c_X10_longer l g ad S _ r17 ((101 : Int32))  qr18) wd_1186 wd_1187 wd_83 wd_1188 rfl rfl (by decide +kernel) ⟨Nat.le_of_ble_eq_true rfl, Nat.le_of_ble_eq_true rfl⟩ rfl hl.1 (lv_room (Nat.le_of_ble_eq_true rfl)) dX10_clauseOf_177) (fun H locs X => ?_)
      refine lv_bipush (v := (115 : Int32)) hx hb dX10_clauseOf_180 (by decide) ?_
      obtain ⟨r19, qr19, h⟩ := bn1_s h
      refine kc_l X (res := (r19, S)) (rS (As := [.long r18, .int ((115 : Int32))]) (rest := [.long (S.2)]) (n := 2) C X (c_X10_longer l g ad S _ r18 ((115 : Int32))  qr19) wd_1186 wd_1187 wd_83 wd_1188 rfl rfl (by decide +kernel) ⟨Nat.le_of_ble_eq_true rfl, Nat.le_of_ble_eq_true rfl⟩ rfl hl.1 (lv_room (Nat.le_of_ble_eq_true rfl)) dX10_clauseOf_182) (fun H locs X => ?_)
      refine W.lcmp hx hb dX10_clauseOf_185 ?_
      refine lv_if_ne (tgt := 194) hx hb dX10_clauseOf_186 (by decide) (fun c20 => ?_) (fun c20 => ?_)
      · have h := inn h c20
        refine lv_aload_n hx hb dX10_clauseOf_194 rfl (lv_at hl 1 rfl) ?_
        refine g_get C X inT10 0 (by decide) (eM_0 g ad S) rfl 11 (by decide) wd_1017 (v := .long (S.2)) rfl dX10_clauseOf_195 ?_
        refine lv_bipush (v := (115 : Int32)) hx hb dX10_clauseOf_198 (by decide) ?_
        refine lv_bipush (v := (97 : Int32)) hx hb dX10_clauseOf_200 (by decide) ?_
        refine lv_bipush (v := (110 : Int32)) hx hb dX10_clauseOf_202 (by decide) ?_
        refine lv_bipush (v := (100 : Int32)) hx hb dX10_clauseOf_204 (by decide) ?_
        obtain ⟨r21, qr21, h⟩ := bn1_s h
        refine kc_l X (res := (r21, S)) (rS (As := [.int ((115 : Int32)), .int ((97 : Int32)), .int ((110 : Int32)), .int ((100 : Int32))]) (rest := [.long (S.2)]) (n := 4) C X (c_X10_code l g ad S _ ((115 : Int32)) ((97 : Int32)) ((110 : Int32)) ((100 : Int32))  qr21) wd_1183 wd_1184 wd_83 wd_1185 rfl rfl (by decide +kernel) ⟨Nat.le_of_ble_eq_true rfl, Nat.le_of_ble_eq_true rfl⟩ rfl hl.1 (lv_room (Nat.le_of_ble_eq_true rfl)) dX10_clauseOf_206) (fun H locs X => ?_)
        refine W.lcmp hx hb dX10_clauseOf_209 ?_
        refine lv_if_ne (tgt := 218) hx hb dX10_clauseOf_210 (by decide) (fun c22 => ?_) (fun c22 => ?_)
        · have h := inn h c22
          refine lv_iconst (v := (-1 : Int32)) hx hb dX10_clauseOf_218 (by decide) ?_
          exact kb_X10_clauseOf_219 C h X (lv_sub hl [1, 0] rfl) 
        · have h := ip h c22
          refine lv_bipush (v := (7 : Int32)) hx hb dX10_clauseOf_213 (by decide) ?_
          refine lv_goto (tgt := 219) hx hb dX10_clauseOf_215 (by decide) ?_
          exact kb_X10_clauseOf_219 C h X (lv_sub hl [1, 0] rfl) 
      · have h := ip h c20
        refine lv_bipush (v := (6 : Int32)) hx hb dX10_clauseOf_189 (by decide) ?_
        refine lv_goto (tgt := 219) hx hb dX10_clauseOf_191 (by decide) ?_
        exact kb_X10_clauseOf_219 C h X (lv_sub hl [1, 0] rfl) 
    · have h := ip h c16
      refine lv_iconst (v := (5 : Int32)) hx hb dX10_clauseOf_156 (by decide) ?_
      refine lv_goto (tgt := 219) hx hb dX10_clauseOf_157 (by decide) ?_
      exact kb_X10_clauseOf_219 C h X (lv_sub hl [1, 0] rfl) 
  · have h := ip h c13
    refine lv_iconst (v := (4 : Int32)) hx hb dX10_clauseOf_128 (by decide) ?_
    refine lv_goto (tgt := 219) hx hb dX10_clauseOf_129 (by decide) ?_
    exact kb_X10_clauseOf_219 C h X (lv_sub hl [1, 0] rfl) 
set_option maxHeartbeats 4000000 in
set_option maxRecDepth 100000 in
theorem c_X10_clauseOf (l : Launch) (g : GG) (ad : Nat → Nat) (S : ST) (sz : Nat)   {res : Int32} (h : f_X10_clauseOf S = some res) : Met l yX10_clauseOf (WS (.code yX10_clauseOf cX10_clauseOf 3 (some Jvm.ClassFile.FieldType.int))) rmX10_clauseOf (va_Pc [.ref (ad 0)] (PW kM g ad S sz)) (QI kM g ad (res, S) (AA kM ad sz)) 0 0 (AA kM ad sz) := by
  refine go_m (Qc := fun A => QI kM g ad (res, S) A) (by decide) (Nat.le_of_ble_eq_true rfl) (fun p e s m below meth c ls H locs C X hl => ?_)
  have hx := C.1.1
  have hb := C.1.2.1
  have hl : lv_has ls 3 [(0, .ref (ad 0))] := hl
  have h : (bn1 (f_X10_code ((98 : Int32)) ((111 : Int32)) ((117 : Int32)) ((103 : Int32))) fun r1 => bn1 (f_X10_longer r1 ((104 : Int32))) fun r2 => if (lg_cmp (S.2) r2) = 0 then (b_X10_clauseOf_108 S ((0 : Int32))) else (bn1 (f_X10_code ((114 : Int32)) ((111 : Int32)) ((112 : Int32)) ((101 : Int32))) fun r4 => if (lg_cmp (S.2) r4) = 0 then (b_X10_clauseOf_108 S ((1 : Int32))) else (bn1 (f_X10_code ((115 : Int32)) ((116 : Int32)) ((97 : Int32)) ((114 : Int32))) fun r6 => bn1 (f_X10_longer r6 ((116 : Int32))) fun r7 => if (lg_cmp (S.2) r7) = 0 then (b_X10_clauseOf_108 S ((2 : Int32))) else (bn1 (f_X10_code ((116 : Int32)) ((114 : Int32)) ((117 : Int32)) ((110 : Int32))) fun r9 => bn1 (f_X10_longer r9 ((107 : Int32))) fun r10 => if (lg_cmp (S.2) r10) = 0 then (b_X10_clauseOf_108 S ((3 : Int32))) else (b_X10_clauseOf_108 S ((-1 : Int32)))))) : Option Int32) = some res := h
  refine lv_aload_n hx hb dX10_clauseOf_0 rfl (lv_at hl 0 rfl) ?_
  refine g_get C X inT10 0 (by decide) (eM_0 g ad S) rfl 11 (by decide) wd_1017 (v := .long (S.2)) rfl dX10_clauseOf_1 ?_
  refine lv_bipush (v := (98 : Int32)) hx hb dX10_clauseOf_4 (by decide) ?_
  refine lv_bipush (v := (111 : Int32)) hx hb dX10_clauseOf_6 (by decide) ?_
  refine lv_bipush (v := (117 : Int32)) hx hb dX10_clauseOf_8 (by decide) ?_
  refine lv_bipush (v := (103 : Int32)) hx hb dX10_clauseOf_10 (by decide) ?_
  obtain ⟨r1, qr1, h⟩ := bn1_s h
  refine kc_l X (res := (r1, S)) (rS (As := [.int ((98 : Int32)), .int ((111 : Int32)), .int ((117 : Int32)), .int ((103 : Int32))]) (rest := [.long (S.2)]) (n := 4) C X (c_X10_code l g ad S _ ((98 : Int32)) ((111 : Int32)) ((117 : Int32)) ((103 : Int32))  qr1) wd_1183 wd_1184 wd_83 wd_1185 rfl rfl (by decide +kernel) ⟨Nat.le_of_ble_eq_true rfl, Nat.le_of_ble_eq_true rfl⟩ rfl hl.1 (lv_room (Nat.le_of_ble_eq_true rfl)) dX10_clauseOf_12) (fun H locs X => ?_)
  refine lv_bipush (v := (104 : Int32)) hx hb dX10_clauseOf_15 (by decide) ?_
  obtain ⟨r2, qr2, h⟩ := bn1_s h
  refine kc_l X (res := (r2, S)) (rS (As := [.long r1, .int ((104 : Int32))]) (rest := [.long (S.2)]) (n := 2) C X (c_X10_longer l g ad S _ r1 ((104 : Int32))  qr2) wd_1186 wd_1187 wd_83 wd_1188 rfl rfl (by decide +kernel) ⟨Nat.le_of_ble_eq_true rfl, Nat.le_of_ble_eq_true rfl⟩ rfl hl.1 (lv_room (Nat.le_of_ble_eq_true rfl)) dX10_clauseOf_17) (fun H locs X => ?_)
  refine W.lcmp hx hb dX10_clauseOf_20 ?_
  refine lv_if_ne (tgt := 28) hx hb dX10_clauseOf_21 (by decide) (fun c3 => ?_) (fun c3 => ?_)
  · have h := inn h c3
    refine lv_aload_n hx hb dX10_clauseOf_28 rfl (lv_at hl 0 rfl) ?_
    refine g_get C X inT10 0 (by decide) (eM_0 g ad S) rfl 11 (by decide) wd_1017 (v := .long (S.2)) rfl dX10_clauseOf_29 ?_
    refine lv_bipush (v := (114 : Int32)) hx hb dX10_clauseOf_32 (by decide) ?_
    refine lv_bipush (v := (111 : Int32)) hx hb dX10_clauseOf_34 (by decide) ?_
    refine lv_bipush (v := (112 : Int32)) hx hb dX10_clauseOf_36 (by decide) ?_
    refine lv_bipush (v := (101 : Int32)) hx hb dX10_clauseOf_38 (by decide) ?_
    obtain ⟨r4, qr4, h⟩ := bn1_s h
    refine kc_l X (res := (r4, S)) (rS (As := [.int ((114 : Int32)), .int ((111 : Int32)), .int ((112 : Int32)), .int ((101 : Int32))]) (rest := [.long (S.2)]) (n := 4) C X (c_X10_code l g ad S _ ((114 : Int32)) ((111 : Int32)) ((112 : Int32)) ((101 : Int32))  qr4) wd_1183 wd_1184 wd_83 wd_1185 rfl rfl (by decide +kernel) ⟨Nat.le_of_ble_eq_true rfl, Nat.le_of_ble_eq_true rfl⟩ rfl hl.1 (lv_room (Nat.le_of_ble_eq_true rfl)) dX10_clauseOf_40) (fun H locs X => ?_)
    refine W.lcmp hx hb dX10_clauseOf_43 ?_
    refine lv_if_ne (tgt := 51) hx hb dX10_clauseOf_44 (by decide) (fun c5 => ?_) (fun c5 => ?_)
    · have h := inn h c5
      refine lv_aload_n hx hb dX10_clauseOf_51 rfl (lv_at hl 0 rfl) ?_
      refine g_get C X inT10 0 (by decide) (eM_0 g ad S) rfl 11 (by decide) wd_1017 (v := .long (S.2)) rfl dX10_clauseOf_52 ?_
      refine lv_bipush (v := (115 : Int32)) hx hb dX10_clauseOf_55 (by decide) ?_
      refine lv_bipush (v := (116 : Int32)) hx hb dX10_clauseOf_57 (by decide) ?_
      refine lv_bipush (v := (97 : Int32)) hx hb dX10_clauseOf_59 (by decide) ?_
      refine lv_bipush (v := (114 : Int32)) hx hb dX10_clauseOf_61 (by decide) ?_
      obtain ⟨r6, qr6, h⟩ := bn1_s h
      refine kc_l X (res := (r6, S)) (rS (As := [.int ((115 : Int32)), .int ((116 : Int32)), .int ((97 : Int32)), .int ((114 : Int32))]) (rest := [.long (S.2)]) (n := 4) C X (c_X10_code l g ad S _ ((115 : Int32)) ((116 : Int32)) ((97 : Int32)) ((114 : Int32))  qr6) wd_1183 wd_1184 wd_83 wd_1185 rfl rfl (by decide +kernel) ⟨Nat.le_of_ble_eq_true rfl, Nat.le_of_ble_eq_true rfl⟩ rfl hl.1 (lv_room (Nat.le_of_ble_eq_true rfl)) dX10_clauseOf_63) (fun H locs X => ?_)
      refine lv_bipush (v := (116 : Int32)) hx hb dX10_clauseOf_66 (by decide) ?_
      obtain ⟨r7, qr7, h⟩ := bn1_s h
      refine kc_l X (res := (r7, S)) (rS (As := [.long r6, .int ((116 : Int32))]) (rest := [.long (S.2)]) (n := 2) C X (c_X10_longer l g ad S _ r6 ((116 : Int32))  qr7) wd_1186 wd_1187 wd_83 wd_1188 rfl rfl (by decide +kernel) ⟨Nat.le_of_ble_eq_true rfl, Nat.le_of_ble_eq_true rfl⟩ rfl hl.1 (lv_room (Nat.le_of_ble_eq_true rfl)) dX10_clauseOf_68) (fun H locs X => ?_)
      refine W.lcmp hx hb dX10_clauseOf_71 ?_
      refine lv_if_ne (tgt := 79) hx hb dX10_clauseOf_72 (by decide) (fun c8 => ?_) (fun c8 => ?_)
      · have h := inn h c8
        refine lv_aload_n hx hb dX10_clauseOf_79 rfl (lv_at hl 0 rfl) ?_
        refine g_get C X inT10 0 (by decide) (eM_0 g ad S) rfl 11 (by decide) wd_1017 (v := .long (S.2)) rfl dX10_clauseOf_80 ?_
        refine lv_bipush (v := (116 : Int32)) hx hb dX10_clauseOf_83 (by decide) ?_
        refine lv_bipush (v := (114 : Int32)) hx hb dX10_clauseOf_85 (by decide) ?_
        refine lv_bipush (v := (117 : Int32)) hx hb dX10_clauseOf_87 (by decide) ?_
        refine lv_bipush (v := (110 : Int32)) hx hb dX10_clauseOf_89 (by decide) ?_
        obtain ⟨r9, qr9, h⟩ := bn1_s h
        refine kc_l X (res := (r9, S)) (rS (As := [.int ((116 : Int32)), .int ((114 : Int32)), .int ((117 : Int32)), .int ((110 : Int32))]) (rest := [.long (S.2)]) (n := 4) C X (c_X10_code l g ad S _ ((116 : Int32)) ((114 : Int32)) ((117 : Int32)) ((110 : Int32))  qr9) wd_1183 wd_1184 wd_83 wd_1185 rfl rfl (by decide +kernel) ⟨Nat.le_of_ble_eq_true rfl, Nat.le_of_ble_eq_true rfl⟩ rfl hl.1 (lv_room (Nat.le_of_ble_eq_true rfl)) dX10_clauseOf_91) (fun H locs X => ?_)
        refine lv_bipush (v := (107 : Int32)) hx hb dX10_clauseOf_94 (by decide) ?_
        obtain ⟨r10, qr10, h⟩ := bn1_s h
        refine kc_l X (res := (r10, S)) (rS (As := [.long r9, .int ((107 : Int32))]) (rest := [.long (S.2)]) (n := 2) C X (c_X10_longer l g ad S _ r9 ((107 : Int32))  qr10) wd_1186 wd_1187 wd_83 wd_1188 rfl rfl (by decide +kernel) ⟨Nat.le_of_ble_eq_true rfl, Nat.le_of_ble_eq_true rfl⟩ rfl hl.1 (lv_room (Nat.le_of_ble_eq_true rfl)) dX10_clauseOf_96) (fun H locs X => ?_)
        refine W.lcmp hx hb dX10_clauseOf_99 ?_
        refine lv_if_ne (tgt := 107) hx hb dX10_clauseOf_100 (by decide) (fun c11 => ?_) (fun c11 => ?_)
        · have h := inn h c11
          refine lv_iconst (v := (-1 : Int32)) hx hb dX10_clauseOf_107 (by decide) ?_
          exact kb_X10_clauseOf_108 C h X (lv_sub hl [0] rfl) 
        · have h := ip h c11
          refine lv_iconst (v := (3 : Int32)) hx hb dX10_clauseOf_103 (by decide) ?_
          refine lv_goto (tgt := 108) hx hb dX10_clauseOf_104 (by decide) ?_
          exact kb_X10_clauseOf_108 C h X (lv_sub hl [0] rfl) 
      · have h := ip h c8
        refine lv_iconst (v := (2 : Int32)) hx hb dX10_clauseOf_75 (by decide) ?_
        refine lv_goto (tgt := 108) hx hb dX10_clauseOf_76 (by decide) ?_
        exact kb_X10_clauseOf_108 C h X (lv_sub hl [0] rfl) 
    · have h := ip h c5
      refine lv_iconst (v := (1 : Int32)) hx hb dX10_clauseOf_47 (by decide) ?_
      refine lv_goto (tgt := 108) hx hb dX10_clauseOf_48 (by decide) ?_
      exact kb_X10_clauseOf_108 C h X (lv_sub hl [0] rfl) 
  · have h := ip h c3
    refine lv_iconst (v := (0 : Int32)) hx hb dX10_clauseOf_24 (by decide) ?_
    refine lv_goto (tgt := 108) hx hb dX10_clauseOf_25 (by decide) ?_
    exact kb_X10_clauseOf_108 C h X (lv_sub hl [0] rfl) 

def rmX10_takeClause : Room := { frames := 4, cells := 0, slots := 0, locals := 93 }
def b_X10_takeClause_35  (v2 : Int32) (S : ST) : Option (Int32 × ST) :=
  bnd (f_X10_fails v2 (S.1 0 10) S) fun r6 S5 => some (r6, S5)
def b_X10_takeClause_25  (v2 : Int32) (S : ST) : Option (Int32 × ST) :=
  if 0 ≤ v2 then (b_X10_takeClause_35 ((3 : Int32)) S) else (b_X10_takeClause_35 ((1 : Int32)) S)
def b_X10_takeClause_236  (v2 : Int32) (S : ST) : Option (Int32 × ST) :=
  if v2 ≤ 0 then (bnd (f_X10_takeStop S) fun r16 S15 => some (r16, S15)) else (some (v2, S))
def f_X10_takeClause  (S : ST) : Option (Int32 × ST) :=
  bn1 (f_X10_readWord S) fun S1 => bn1 (f_X10_clauseOf S1) fun r2 => if r2 < 0 then (b_X10_takeClause_25 r2 S1) else (if (((S1.1 0 19) >>> (r2 &&& 31)) &&& ((1 : Int32))) = ((1 : Int32)) then (b_X10_takeClause_25 r2 S1) else (nm (su S1 0 19 ((S1.1 0 19) ||| (((1 : Int32)) <<< (r2 &&& 31)))) fun S8 => nm (su S8 0 20 ((S8.1 0 20) + ((1 : Int32)))) fun S9 => nm (su S9 0 10 (S9.1 0 12)) fun S10 => if r2 = (0 : Int32) then (bnd (f_X10_take ((0 : Int32)) ((200 : Int32)) ((999 : Int32)) S10) fun r13 S12 => b_X10_takeClause_236 r13 S12) else (if r2 = (1 : Int32) then (bnd (f_X10_takeRope S10) fun r19 S18 => b_X10_takeClause_236 r19 S18) else (if r2 = (2 : Int32) then (bnd (f_X10_takeStart S10) fun r22 S21 => b_X10_takeClause_236 r22 S21) else (if r2 = (3 : Int32) then (bnd (f_X10_take ((6 : Int32)) ((50 : Int32)) ((600 : Int32)) S10) fun r25 S24 => b_X10_takeClause_236 r25 S24) else (if r2 = (4 : Int32) then (bnd (f_X10_take ((7 : Int32)) ((0 : Int32)) ((300 : Int32)) S10) fun r28 S27 => b_X10_takeClause_236 r28 S27) else (if r2 = (5 : Int32) then (bnd (f_X10_takeRow 9 ((24 : Int32)) ((600 : Int32)) S10) fun r31 S30 => b_X10_takeClause_236 r31 S30) else (if r2 = (6 : Int32) then (bnd (f_X10_takeStones S10) fun r34 S33 => b_X10_takeClause_236 r34 S33) else (if r2 = (7 : Int32) then (bnd (f_X10_take ((8 : Int32)) ((1 : Int32)) ((24 : Int32)) S10) fun r37 S36 => b_X10_takeClause_236 r37 S36) else (bnd (f_X10_takeRow 11 ((12 : Int32)) ((300 : Int32)) S10) fun r39 S38 => b_X10_takeClause_236 r39 S38))))))))))
set_option maxHeartbeats 4000000 in
set_option maxRecDepth 100000 in
theorem kb_X10_takeClause_35 {p : Program} {l : Launch} {e : Env} {s : State} {m : MethodId} {args : Array Value} {below : List Frame} {meth : Method} {c : Code} {g : GG} {ad : Nat → Nat} {res : (Int32 × ST)} {S : ST} (C : CX kM g ad p s m args meth c cX10_takeClause (some Jvm.ClassFile.FieldType.int) 3 yX10_takeClause.cls (.code yX10_takeClause cX10_takeClause 3 (some Jvm.ClassFile.FieldType.int)))  {v2 : Int32}  {H : Heap} {locs : List Loc} {ls : Array Slot} (h : b_X10_takeClause_35 v2 S = some res) (X : WX kM g ad s S H locs) (hl : lv_has ls 3 [(0, .ref (ad 0))])  : W p l e rmX10_takeClause s m args below meth c H locs 0 0 (MQ below (QI kM g ad res (AA kM ad s.heap.size)) args s 0 0 (AA kM ad s.heap.size)) (F0 m 35 ls [.int v2, .ref (ad 0)]) := by
  have hx := C.1.1
  have hb := C.1.2.1
  have h : (bnd (f_X10_fails v2 (S.1 0 10) S) fun r6 S5 => some (r6, S5) : Option (Int32 × ST)) = some res := h
  refine lv_aload_n hx hb dX10_takeClause_35 rfl (lv_at hl 0 rfl) ?_
  refine g_get C X inT10 0 (by decide) (eM_0 g ad S) rfl 10 (by decide) wd_1016 (v := .int (S.1 0 10)) rfl dX10_takeClause_36 ?_
  obtain ⟨r6, S5, qr6, h⟩ := bnd_s h
  refine kc_i X (res := (r6, S5)) (rV (As := [.int v2, .int (S.1 0 10)]) (rest := []) (n := 2) (k := 0) C X (c_X10_fails l g ad S _ v2 (S.1 0 10)  qr6) wd_1189 wd_1191 wd_34 wd_83 wd_1192 (by decide) (eM_0 g ad S) rfl rfl rfl (by decide +kernel) ⟨Nat.le_of_ble_eq_true rfl, Nat.le_of_ble_eq_true rfl⟩ rfl hl.1 (lv_room (Nat.le_of_ble_eq_true rfl)) dX10_takeClause_39) (fun H locs X => ?_)
  exact rt_i C X rfl (Option.some.inj h) dX10_takeClause_42
set_option maxHeartbeats 4000000 in
set_option maxRecDepth 100000 in
theorem kb_X10_takeClause_25 {p : Program} {l : Launch} {e : Env} {s : State} {m : MethodId} {args : Array Value} {below : List Frame} {meth : Method} {c : Code} {g : GG} {ad : Nat → Nat} {res : (Int32 × ST)} {S : ST} (C : CX kM g ad p s m args meth c cX10_takeClause (some Jvm.ClassFile.FieldType.int) 3 yX10_takeClause.cls (.code yX10_takeClause cX10_takeClause 3 (some Jvm.ClassFile.FieldType.int)))  {v2 : Int32}  {H : Heap} {locs : List Loc} {ls : Array Slot} (h : b_X10_takeClause_25 v2 S = some res) (X : WX kM g ad s S H locs) (hl : lv_has ls 3 [(0, .ref (ad 0)), (1, .int v2)])  : W p l e rmX10_takeClause s m args below meth c H locs 0 0 (MQ below (QI kM g ad res (AA kM ad s.heap.size)) args s 0 0 (AA kM ad s.heap.size)) (F0 m 25 ls []) := by
  have hx := C.1.1
  have hb := C.1.2.1
  have h : (if 0 ≤ v2 then (b_X10_takeClause_35 ((3 : Int32)) S) else (b_X10_takeClause_35 ((1 : Int32)) S) : Option (Int32 × ST)) = some res := h
  refine lv_aload_n hx hb dX10_takeClause_25 rfl (lv_at hl 0 rfl) ?_
  refine lv_iload_n hx hb dX10_takeClause_26 rfl (lv_at hl 1 rfl) ?_
  refine lv_if_ge (tgt := 34) hx hb dX10_takeClause_27 (by decide) (fun c4 => ?_) (fun c4 => ?_)
  · have h := ip h c4
    refine lv_iconst (v := (3 : Int32)) hx hb dX10_takeClause_34 (by decide) ?_
    exact kb_X10_takeClause_35 C h X (lv_sub hl [0] rfl) 
  · have h := inn h c4
    refine lv_iconst (v := (1 : Int32)) hx hb dX10_takeClause_30 (by decide) ?_
    refine lv_goto (tgt := 35) hx hb dX10_takeClause_31 (by decide) ?_
    exact kb_X10_takeClause_35 C h X (lv_sub hl [0] rfl) 
set_option maxHeartbeats 4000000 in
set_option maxRecDepth 100000 in
theorem kb_X10_takeClause_236 {p : Program} {l : Launch} {e : Env} {s : State} {m : MethodId} {args : Array Value} {below : List Frame} {meth : Method} {c : Code} {g : GG} {ad : Nat → Nat} {res : (Int32 × ST)} {S : ST} (C : CX kM g ad p s m args meth c cX10_takeClause (some Jvm.ClassFile.FieldType.int) 3 yX10_takeClause.cls (.code yX10_takeClause cX10_takeClause 3 (some Jvm.ClassFile.FieldType.int)))  {v2 : Int32}  {H : Heap} {locs : List Loc} {ls : Array Slot} (h : b_X10_takeClause_236 v2 S = some res) (X : WX kM g ad s S H locs) (hl : lv_has ls 3 [(0, .ref (ad 0)), (2, .int v2)])  : W p l e rmX10_takeClause s m args below meth c H locs 0 0 (MQ below (QI kM g ad res (AA kM ad s.heap.size)) args s 0 0 (AA kM ad s.heap.size)) (F0 m 236 ls []) := by
  have hx := C.1.1
  have hb := C.1.2.1
  have h : (if v2 ≤ 0 then (bnd (f_X10_takeStop S) fun r16 S15 => some (r16, S15)) else (some (v2, S)) : Option (Int32 × ST)) = some res := h
  refine lv_iload_n hx hb dX10_takeClause_236 rfl (lv_at hl 1 rfl) ?_
  refine lv_if_le (tgt := 244) hx hb dX10_takeClause_237 (by decide) (fun c14 => ?_) (fun c14 => ?_)
  · have h := ip h c14
    refine lv_aload_n hx hb dX10_takeClause_244 rfl (lv_at hl 0 rfl) ?_
    obtain ⟨r16, S15, qr16, h⟩ := bnd_s h
    refine kc_i X (res := (r16, S15)) (rV (As := []) (rest := []) (n := 0) (k := 0) C X (c_X10_takeStop l g ad S _   qr16) wd_1223 wd_1225 wd_42 wd_83 wd_1226 (by decide) (eM_0 g ad S) rfl rfl rfl (by decide +kernel) ⟨Nat.le_of_ble_eq_true rfl, Nat.le_of_ble_eq_true rfl⟩ rfl hl.1 (lv_room (Nat.le_of_ble_eq_true rfl)) dX10_takeClause_245) (fun H locs X => ?_)
    exact rt_i C X rfl (Option.some.inj h) dX10_takeClause_248
  · have h := inn h c14
    refine lv_iload_n hx hb dX10_takeClause_240 rfl (lv_at hl 1 rfl) ?_
    refine lv_goto (tgt := 248) hx hb dX10_takeClause_241 (by decide) ?_
    exact rt_i C X rfl (Option.some.inj h) dX10_takeClause_248
set_option maxHeartbeats 4000000 in
set_option maxRecDepth 100000 in
theorem c_X10_takeClause (l : Launch) (g : GG) (ad : Nat → Nat) (S : ST) (sz : Nat)   {res : (Int32 × ST)} (h : f_X10_takeClause S = some res) : Met l yX10_takeClause (WS (.code yX10_takeClause cX10_takeClause 3 (some Jvm.ClassFile.FieldType.int))) rmX10_takeClause (va_Pc [.ref (ad 0)] (PW kM g ad S sz)) (QI kM g ad res (AA kM ad sz)) 0 0 (AA kM ad sz) := by
  refine go_m (Qc := fun A => QI kM g ad res A) (by decide) (Nat.le_of_ble_eq_true rfl) (fun p e s m below meth c ls H locs C X hl => ?_)
  have hx := C.1.1
  have hb := C.1.2.1
  have hl : lv_has ls 3 [(0, .ref (ad 0))] := hl
  have h : (bn1 (f_X10_readWord S) fun S1 => bn1 (f_X10_clauseOf S1) fun r2 => if r2 < 0 then (b_X10_takeClause_25 r2 S1) else (if (((S1.1 0 19) >>> (r2 &&& 31)) &&& ((1 : Int32))) = ((1 : Int32)) then (b_X10_takeClause_25 r2 S1) else (nm (su S1 0 19 ((S1.1 0 19) ||| (((1 : Int32)) <<< (r2 &&& 31)))) fun S8 => nm (su S8 0 20 ((S8.1 0 20) + ((1 : Int32)))) fun S9 => nm (su S9 0 10 (S9.1 0 12)) fun S10 => if r2 = (0 : Int32) then (bnd (f_X10_take ((0 : Int32)) ((200 : Int32)) ((999 : Int32)) S10) fun r13 S12 => b_X10_takeClause_236 r13 S12) else (if r2 = (1 : Int32) then (bnd (f_X10_takeRope S10) fun r19 S18 => b_X10_takeClause_236 r19 S18) else (if r2 = (2 : Int32) then (bnd (f_X10_takeStart S10) fun r22 S21 => b_X10_takeClause_236 r22 S21) else (if r2 = (3 : Int32) then (bnd (f_X10_take ((6 : Int32)) ((50 : Int32)) ((600 : Int32)) S10) fun r25 S24 => b_X10_takeClause_236 r25 S24) else (if r2 = (4 : Int32) then (bnd (f_X10_take ((7 : Int32)) ((0 : Int32)) ((300 : Int32)) S10) fun r28 S27 => b_X10_takeClause_236 r28 S27) else (if r2 = (5 : Int32) then (bnd (f_X10_takeRow 9 ((24 : Int32)) ((600 : Int32)) S10) fun r31 S30 => b_X10_takeClause_236 r31 S30) else (if r2 = (6 : Int32) then (bnd (f_X10_takeStones S10) fun r34 S33 => b_X10_takeClause_236 r34 S33) else (if r2 = (7 : Int32) then (bnd (f_X10_take ((8 : Int32)) ((1 : Int32)) ((24 : Int32)) S10) fun r37 S36 => b_X10_takeClause_236 r37 S36) else (bnd (f_X10_takeRow 11 ((12 : Int32)) ((300 : Int32)) S10) fun r39 S38 => b_X10_takeClause_236 r39 S38)))))))))) : Option (Int32 × ST)) = some res := h
  refine lv_aload_n hx hb dX10_takeClause_0 rfl (lv_at hl 0 rfl) ?_
  obtain ⟨S1, qS1, h⟩ := bn1_s h
  refine kc_v X (res := S1) (rV (As := []) (rest := []) (n := 0) (k := 0) C X (c_X10_readWord l g ad S _   qS1) wd_1169 wd_1171 wd_32 wd_83 wd_1172 (by decide) (eM_0 g ad S) rfl rfl rfl (by decide +kernel) ⟨Nat.le_of_ble_eq_true rfl, Nat.le_of_ble_eq_true rfl⟩ rfl hl.1 (lv_room (Nat.le_of_ble_eq_true rfl)) dX10_takeClause_1) (fun H locs X => ?_)
  refine lv_aload_n hx hb dX10_takeClause_4 rfl (lv_at hl 0 rfl) ?_
  obtain ⟨r2, qr2, h⟩ := bn1_s h
  refine kc_i X (res := (r2, S1)) (rV (As := []) (rest := []) (n := 0) (k := 0) C X (c_X10_clauseOf l g ad S1 _   qr2) wd_1179 wd_1181 wd_33 wd_83 wd_1182 (by decide) (eM_0 g ad S1) rfl rfl rfl (by decide +kernel) ⟨Nat.le_of_ble_eq_true rfl, Nat.le_of_ble_eq_true rfl⟩ rfl hl.1 (lv_room (Nat.le_of_ble_eq_true rfl)) dX10_takeClause_5) (fun H locs X => ?_)
  refine lv_istore_n (lv' := [(1, .int r2), (0, .ref (ad 0))]) hx hb dX10_takeClause_8 rfl hl (by decide) rfl (fun ls hl => ?_)
  refine lv_iload_n hx hb dX10_takeClause_9 rfl (lv_at hl 0 rfl) ?_
  refine lv_if_lt (tgt := 25) hx hb dX10_takeClause_10 (by decide) (fun c3 => ?_) (fun c3 => ?_)
  · have h := ip h c3
    exact kb_X10_takeClause_25 C h X (lv_sub hl [1, 0] rfl) 
  · have h := inn h c3
    refine lv_aload_n hx hb dX10_takeClause_13 rfl (lv_at hl 1 rfl) ?_
    refine g_get C X inT10 0 (by decide) (eM_0 g ad S1) rfl 19 (by decide) wd_1025 (v := .int (S1.1 0 19)) rfl dX10_takeClause_14 ?_
    refine lv_iload_n hx hb dX10_takeClause_17 rfl (lv_at hl 0 rfl) ?_
    refine lv_ishr hx hb dX10_takeClause_18 ?_
    refine lv_iconst (v := (1 : Int32)) hx hb dX10_takeClause_19 (by decide) ?_
    refine lv_iand hx hb dX10_takeClause_20 ?_
    refine lv_iconst (v := (1 : Int32)) hx hb dX10_takeClause_21 (by decide) ?_
    refine lv_icmp_ne (tgt := 43) hx hb dX10_takeClause_22 (by decide) (fun c7 => ?_) (fun c7 => ?_)
    · have h := inn h c7
      refine lv_aload_n hx hb dX10_takeClause_43 rfl (lv_at hl 1 rfl) ?_
      refine lv_dup hx hb dX10_takeClause_44 rfl ?_
      refine g_get C X inT10 0 (by decide) (eM_0 g ad S1) rfl 19 (by decide) wd_1025 (v := .int (S1.1 0 19)) rfl dX10_takeClause_45 ?_
      refine lv_iconst (v := (1 : Int32)) hx hb dX10_takeClause_48 (by decide) ?_
      refine lv_iload_n hx hb dX10_takeClause_49 rfl (lv_at hl 0 rfl) ?_
      refine lv_ishl hx hb dX10_takeClause_50 ?_
      refine lv_ior hx hb dX10_takeClause_51 ?_
      obtain ⟨S8, eS8, h⟩ := nm_s h
      refine g_put (S' := S8) C X inT10 tyX10 tyX10_ok nmX10 0 (by decide) (eM_0 g ad S1) rfl 19 (by decide) wd_1025 rfl (by rfl) rfl (Nat.le_of_ble_eq_true rfl) (by subst eS8; rfl) (by subst eS8; exact fun i hi => ent_offu hi) dX10_takeClause_52 (fun H locs X => ?_)
      refine lv_aload_n hx hb dX10_takeClause_55 rfl (lv_at hl 1 rfl) ?_
      refine lv_dup hx hb dX10_takeClause_56 rfl ?_
      refine g_get C X inT10 0 (by decide) (eM_0 g ad S8) rfl 20 (by decide) wd_1026 (v := .int (S8.1 0 20)) rfl dX10_takeClause_57 ?_
      refine lv_iconst (v := (1 : Int32)) hx hb dX10_takeClause_60 (by decide) ?_
      refine lv_iadd hx hb dX10_takeClause_61 ?_
      obtain ⟨S9, eS9, h⟩ := nm_s h
      refine g_put (S' := S9) C X inT10 tyX10 tyX10_ok nmX10 0 (by decide) (eM_0 g ad S8) rfl 20 (by decide) wd_1026 rfl (by rfl) rfl (Nat.le_of_ble_eq_true rfl) (by subst eS9; rfl) (by subst eS9; exact fun i hi => ent_offu hi) dX10_takeClause_62 (fun H locs X => ?_)
      refine lv_aload_n hx hb dX10_takeClause_65 rfl (lv_at hl 1 rfl) ?_
      refine lv_aload_n hx hb dX10_takeClause_66 rfl (lv_at hl 1 rfl) ?_
      refine g_get C X inT10 0 (by decide) (eM_0 g ad S9) rfl 12 (by decide) wd_1018 (v := .int (S9.1 0 12)) rfl dX10_takeClause_67 ?_
      obtain ⟨S10, eS10, h⟩ := nm_s h
      refine g_put (S' := S10) C X inT10 tyX10 tyX10_ok nmX10 0 (by decide) (eM_0 g ad S9) rfl 10 (by decide) wd_1016 rfl (by rfl) rfl (Nat.le_of_ble_eq_true rfl) (by subst eS10; rfl) (by subst eS10; exact fun i hi => ent_offu hi) dX10_takeClause_70 (fun H locs X => ?_)
      refine lv_iconst (v := (0 : Int32)) hx hb dX10_takeClause_73 (by decide) ?_
      refine lv_istore_n (lv' := [(2, .int ((0 : Int32))), (1, .int r2), (0, .ref (ad 0))]) hx hb dX10_takeClause_74 rfl hl (by decide) rfl (fun ls hl => ?_)
      refine lv_iload_n hx hb dX10_takeClause_75 rfl (lv_at hl 1 rfl) ?_
      by_cases t11 : r2 = (0 : Int32)
      · have h := ip h t11
        refine lv_tableIn (tgt := 124) (off := 48) hx hb dX10_takeClause_76 (by rw [t11]; decide) (by rw [t11]; decide) (by rw [t11]; rfl) (by decide) ?_
        refine lv_aload_n hx hb dX10_takeClause_124 rfl (lv_at hl 2 rfl) ?_
        refine lv_iconst (v := (0 : Int32)) hx hb dX10_takeClause_125 (by decide) ?_
        refine lv_sipush (v := (200 : Int32)) hx hb dX10_takeClause_126 (by decide) ?_
        refine lv_sipush (v := (999 : Int32)) hx hb dX10_takeClause_129 (by decide) ?_
        obtain ⟨r13, S12, qr13, h⟩ := bnd_s h
        refine kc_i X (res := (r13, S12)) (rV (As := [.int ((0 : Int32)), .int ((200 : Int32)), .int ((999 : Int32))]) (rest := []) (n := 3) (k := 0) C X (c_X10_take l g ad S10 _ ((0 : Int32)) ((200 : Int32)) ((999 : Int32))  qr13) wd_1193 wd_1195 wd_35 wd_83 wd_1196 (by decide) (eM_0 g ad S10) rfl rfl rfl (by decide +kernel) ⟨Nat.le_of_ble_eq_true rfl, Nat.le_of_ble_eq_true rfl⟩ rfl hl.1 (lv_room (Nat.le_of_ble_eq_true rfl)) dX10_takeClause_132) (fun H locs X => ?_)
        refine lv_istore_n (lv' := [(2, .int r13), (1, .int r2), (0, .ref (ad 0))]) hx hb dX10_takeClause_135 rfl hl (by decide) rfl (fun ls hl => ?_)
        refine lv_goto (tgt := 236) hx hb dX10_takeClause_136 (by decide) ?_
        exact kb_X10_takeClause_236 C h X (lv_sub hl [2, 0] rfl) 
      have h := inn h t11
      by_cases t17 : r2 = (1 : Int32)
      · have h := ip h t17
        refine lv_tableIn (tgt := 139) (off := 63) hx hb dX10_takeClause_76 (by rw [t17]; decide) (by rw [t17]; decide) (by rw [t17]; rfl) (by decide) ?_
        refine lv_aload_n hx hb dX10_takeClause_139 rfl (lv_at hl 2 rfl) ?_
        obtain ⟨r19, S18, qr19, h⟩ := bnd_s h
        refine kc_i X (res := (r19, S18)) (rV (As := []) (rest := []) (n := 0) (k := 0) C X (c_X10_takeRope l g ad S10 _   qr19) wd_1203 wd_1205 wd_37 wd_83 wd_1206 (by decide) (eM_0 g ad S10) rfl rfl rfl (by decide +kernel) ⟨Nat.le_of_ble_eq_true rfl, Nat.le_of_ble_eq_true rfl⟩ rfl hl.1 (lv_room (Nat.le_of_ble_eq_true rfl)) dX10_takeClause_140) (fun H locs X => ?_)
        refine lv_istore_n (lv' := [(2, .int r19), (1, .int r2), (0, .ref (ad 0))]) hx hb dX10_takeClause_143 rfl hl (by decide) rfl (fun ls hl => ?_)
        refine lv_goto (tgt := 236) hx hb dX10_takeClause_144 (by decide) ?_
        exact kb_X10_takeClause_236 C h X (lv_sub hl [2, 0] rfl) 
      have h := inn h t17
      by_cases t20 : r2 = (2 : Int32)
      · have h := ip h t20
        refine lv_tableIn (tgt := 147) (off := 71) hx hb dX10_takeClause_76 (by rw [t20]; decide) (by rw [t20]; decide) (by rw [t20]; rfl) (by decide) ?_
        refine lv_aload_n hx hb dX10_takeClause_147 rfl (lv_at hl 2 rfl) ?_
        obtain ⟨r22, S21, qr22, h⟩ := bnd_s h
        refine kc_i X (res := (r22, S21)) (rV (As := []) (rest := []) (n := 0) (k := 0) C X (c_X10_takeStart l g ad S10 _   qr22) wd_1207 wd_1209 wd_38 wd_83 wd_1210 (by decide) (eM_0 g ad S10) rfl rfl rfl (by decide +kernel) ⟨Nat.le_of_ble_eq_true rfl, Nat.le_of_ble_eq_true rfl⟩ rfl hl.1 (lv_room (Nat.le_of_ble_eq_true rfl)) dX10_takeClause_148) (fun H locs X => ?_)
        refine lv_istore_n (lv' := [(2, .int r22), (1, .int r2), (0, .ref (ad 0))]) hx hb dX10_takeClause_151 rfl hl (by decide) rfl (fun ls hl => ?_)
        refine lv_goto (tgt := 236) hx hb dX10_takeClause_152 (by decide) ?_
        exact kb_X10_takeClause_236 C h X (lv_sub hl [2, 0] rfl) 
      have h := inn h t20
      by_cases t23 : r2 = (3 : Int32)
      · have h := ip h t23
        refine lv_tableIn (tgt := 155) (off := 79) hx hb dX10_takeClause_76 (by rw [t23]; decide) (by rw [t23]; decide) (by rw [t23]; rfl) (by decide) ?_
        refine lv_aload_n hx hb dX10_takeClause_155 rfl (lv_at hl 2 rfl) ?_
        refine lv_bipush (v := (6 : Int32)) hx hb dX10_takeClause_156 (by decide) ?_
        refine lv_bipush (v := (50 : Int32)) hx hb dX10_takeClause_158 (by decide) ?_
        refine lv_sipush (v := (600 : Int32)) hx hb dX10_takeClause_160 (by decide) ?_
        obtain ⟨r25, S24, qr25, h⟩ := bnd_s h
        refine kc_i X (res := (r25, S24)) (rV (As := [.int ((6 : Int32)), .int ((50 : Int32)), .int ((600 : Int32))]) (rest := []) (n := 3) (k := 0) C X (c_X10_take l g ad S10 _ ((6 : Int32)) ((50 : Int32)) ((600 : Int32))  qr25) wd_1193 wd_1195 wd_35 wd_83 wd_1196 (by decide) (eM_0 g ad S10) rfl rfl rfl (by decide +kernel) ⟨Nat.le_of_ble_eq_true rfl, Nat.le_of_ble_eq_true rfl⟩ rfl hl.1 (lv_room (Nat.le_of_ble_eq_true rfl)) dX10_takeClause_163) (fun H locs X => ?_)
        refine lv_istore_n (lv' := [(2, .int r25), (1, .int r2), (0, .ref (ad 0))]) hx hb dX10_takeClause_166 rfl hl (by decide) rfl (fun ls hl => ?_)
        refine lv_goto (tgt := 236) hx hb dX10_takeClause_167 (by decide) ?_
        exact kb_X10_takeClause_236 C h X (lv_sub hl [2, 0] rfl) 
      have h := inn h t23
      by_cases t26 : r2 = (4 : Int32)
      · have h := ip h t26
        refine lv_tableIn (tgt := 170) (off := 94) hx hb dX10_takeClause_76 (by rw [t26]; decide) (by rw [t26]; decide) (by rw [t26]; rfl) (by decide) ?_
        refine lv_aload_n hx hb dX10_takeClause_170 rfl (lv_at hl 2 rfl) ?_
        refine lv_bipush (v := (7 : Int32)) hx hb dX10_takeClause_171 (by decide) ?_
        refine lv_iconst (v := (0 : Int32)) hx hb dX10_takeClause_173 (by decide) ?_
        refine lv_sipush (v := (300 : Int32)) hx hb dX10_takeClause_174 (by decide) ?_
        obtain ⟨r28, S27, qr28, h⟩ := bnd_s h
        refine kc_i X (res := (r28, S27)) (rV (As := [.int ((7 : Int32)), .int ((0 : Int32)), .int ((300 : Int32))]) (rest := []) (n := 3) (k := 0) C X (c_X10_take l g ad S10 _ ((7 : Int32)) ((0 : Int32)) ((300 : Int32))  qr28) wd_1193 wd_1195 wd_35 wd_83 wd_1196 (by decide) (eM_0 g ad S10) rfl rfl rfl (by decide +kernel) ⟨Nat.le_of_ble_eq_true rfl, Nat.le_of_ble_eq_true rfl⟩ rfl hl.1 (lv_room (Nat.le_of_ble_eq_true rfl)) dX10_takeClause_177) (fun H locs X => ?_)
        refine lv_istore_n (lv' := [(2, .int r28), (1, .int r2), (0, .ref (ad 0))]) hx hb dX10_takeClause_180 rfl hl (by decide) rfl (fun ls hl => ?_)
        refine lv_goto (tgt := 236) hx hb dX10_takeClause_181 (by decide) ?_
        exact kb_X10_takeClause_236 C h X (lv_sub hl [2, 0] rfl) 
      have h := inn h t26
      by_cases t29 : r2 = (5 : Int32)
      · have h := ip h t29
        refine lv_tableIn (tgt := 184) (off := 108) hx hb dX10_takeClause_76 (by rw [t29]; decide) (by rw [t29]; decide) (by rw [t29]; rfl) (by decide) ?_
        refine lv_aload_n hx hb dX10_takeClause_184 rfl (lv_at hl 2 rfl) ?_
        refine lv_aload_n hx hb dX10_takeClause_185 rfl (lv_at hl 2 rfl) ?_
        refine g_get C X inT10 0 (by decide) (eM_0 g ad S10) rfl 16 (by decide) wd_1022 (v := .ref (ad 9)) rfl dX10_takeClause_186 ?_
        refine lv_bipush (v := (24 : Int32)) hx hb dX10_takeClause_189 (by decide) ?_
        refine lv_sipush (v := (600 : Int32)) hx hb dX10_takeClause_191 (by decide) ?_
        obtain ⟨r31, S30, qr31, h⟩ := bnd_s h
        refine kc_i X (res := (r31, S30)) (rV (As := [.ref (ad 9), .int ((24 : Int32)), .int ((600 : Int32))]) (rest := []) (n := 3) (k := 0) C X (c_X10_takeRow l g ad S10 _ 9 ((24 : Int32)) ((600 : Int32)) (by decide) qr31) wd_1211 wd_1213 wd_39 wd_83 wd_1214 (by decide) (eM_0 g ad S10) rfl rfl rfl (by decide +kernel) ⟨Nat.le_of_ble_eq_true rfl, Nat.le_of_ble_eq_true rfl⟩ rfl hl.1 (lv_room (Nat.le_of_ble_eq_true rfl)) dX10_takeClause_194) (fun H locs X => ?_)
        refine lv_istore_n (lv' := [(2, .int r31), (1, .int r2), (0, .ref (ad 0))]) hx hb dX10_takeClause_197 rfl hl (by decide) rfl (fun ls hl => ?_)
        refine lv_goto (tgt := 236) hx hb dX10_takeClause_198 (by decide) ?_
        exact kb_X10_takeClause_236 C h X (lv_sub hl [2, 0] rfl) 
      have h := inn h t29
      by_cases t32 : r2 = (6 : Int32)
      · have h := ip h t32
        refine lv_tableIn (tgt := 201) (off := 125) hx hb dX10_takeClause_76 (by rw [t32]; decide) (by rw [t32]; decide) (by rw [t32]; rfl) (by decide) ?_
        refine lv_aload_n hx hb dX10_takeClause_201 rfl (lv_at hl 2 rfl) ?_
        obtain ⟨r34, S33, qr34, h⟩ := bnd_s h
        refine kc_i X (res := (r34, S33)) (rV (As := []) (rest := []) (n := 0) (k := 0) C X (c_X10_takeStones l g ad S10 _   qr34) wd_1219 wd_1221 wd_41 wd_83 wd_1222 (by decide) (eM_0 g ad S10) rfl rfl rfl (by decide +kernel) ⟨Nat.le_of_ble_eq_true rfl, Nat.le_of_ble_eq_true rfl⟩ rfl hl.1 (lv_room (Nat.le_of_ble_eq_true rfl)) dX10_takeClause_202) (fun H locs X => ?_)
        refine lv_istore_n (lv' := [(2, .int r34), (1, .int r2), (0, .ref (ad 0))]) hx hb dX10_takeClause_205 rfl hl (by decide) rfl (fun ls hl => ?_)
        refine lv_goto (tgt := 236) hx hb dX10_takeClause_206 (by decide) ?_
        exact kb_X10_takeClause_236 C h X (lv_sub hl [2, 0] rfl) 
      have h := inn h t32
      by_cases t35 : r2 = (7 : Int32)
      · have h := ip h t35
        refine lv_tableIn (tgt := 209) (off := 133) hx hb dX10_takeClause_76 (by rw [t35]; decide) (by rw [t35]; decide) (by rw [t35]; rfl) (by decide) ?_
        refine lv_aload_n hx hb dX10_takeClause_209 rfl (lv_at hl 2 rfl) ?_
        refine lv_bipush (v := (8 : Int32)) hx hb dX10_takeClause_210 (by decide) ?_
        refine lv_iconst (v := (1 : Int32)) hx hb dX10_takeClause_212 (by decide) ?_
        refine lv_bipush (v := (24 : Int32)) hx hb dX10_takeClause_213 (by decide) ?_
        obtain ⟨r37, S36, qr37, h⟩ := bnd_s h
        refine kc_i X (res := (r37, S36)) (rV (As := [.int ((8 : Int32)), .int ((1 : Int32)), .int ((24 : Int32))]) (rest := []) (n := 3) (k := 0) C X (c_X10_take l g ad S10 _ ((8 : Int32)) ((1 : Int32)) ((24 : Int32))  qr37) wd_1193 wd_1195 wd_35 wd_83 wd_1196 (by decide) (eM_0 g ad S10) rfl rfl rfl (by decide +kernel) ⟨Nat.le_of_ble_eq_true rfl, Nat.le_of_ble_eq_true rfl⟩ rfl hl.1 (lv_room (Nat.le_of_ble_eq_true rfl)) dX10_takeClause_215) (fun H locs X => ?_)
        refine lv_istore_n (lv' := [(2, .int r37), (1, .int r2), (0, .ref (ad 0))]) hx hb dX10_takeClause_218 rfl hl (by decide) rfl (fun ls hl => ?_)
        refine lv_goto (tgt := 236) hx hb dX10_takeClause_219 (by decide) ?_
        exact kb_X10_takeClause_236 C h X (lv_sub hl [2, 0] rfl) 
      have h := inn h t35
      refine lv_tableOut (tgt := 222) hx hb dX10_takeClause_76 (tb_out (fun z z1 z2 ze => ?_)) (by decide) ?_
      · rcases (show z = 0 ∨ z = 1 ∨ z = 2 ∨ z = 3 ∨ z = 4 ∨ z = 5 ∨ z = 6 ∨ z = 7 by omega) with rfl | rfl | rfl | rfl | rfl | rfl | rfl | rfl
        · exact t11 (Int32.toInt_inj.mp (ze.trans (by decide)))
        · exact t17 (Int32.toInt_inj.mp (ze.trans (by decide)))
        · exact t20 (Int32.toInt_inj.mp (ze.trans (by decide)))
        · exact t23 (Int32.toInt_inj.mp (ze.trans (by decide)))
        · exact t26 (Int32.toInt_inj.mp (ze.trans (by decide)))
        · exact t29 (Int32.toInt_inj.mp (ze.trans (by decide)))
        · exact t32 (Int32.toInt_inj.mp (ze.trans (by decide)))
        · exact t35 (Int32.toInt_inj.mp (ze.trans (by decide)))
      refine lv_aload_n hx hb dX10_takeClause_222 rfl (lv_at hl 2 rfl) ?_
      refine lv_aload_n hx hb dX10_takeClause_223 rfl (lv_at hl 2 rfl) ?_
      refine g_get C X inT10 0 (by decide) (eM_0 g ad S10) rfl 18 (by decide) wd_1024 (v := .ref (ad 11)) rfl dX10_takeClause_224 ?_
      refine lv_bipush (v := (12 : Int32)) hx hb dX10_takeClause_227 (by decide) ?_
      refine lv_sipush (v := (300 : Int32)) hx hb dX10_takeClause_229 (by decide) ?_
      obtain ⟨r39, S38, qr39, h⟩ := bnd_s h
      refine kc_i X (res := (r39, S38)) (rV (As := [.ref (ad 11), .int ((12 : Int32)), .int ((300 : Int32))]) (rest := []) (n := 3) (k := 0) C X (c_X10_takeRow l g ad S10 _ 11 ((12 : Int32)) ((300 : Int32)) (by decide) qr39) wd_1211 wd_1213 wd_39 wd_83 wd_1214 (by decide) (eM_0 g ad S10) rfl rfl rfl (by decide +kernel) ⟨Nat.le_of_ble_eq_true rfl, Nat.le_of_ble_eq_true rfl⟩ rfl hl.1 (lv_room (Nat.le_of_ble_eq_true rfl)) dX10_takeClause_232) (fun H locs X => ?_)
      refine lv_istore_n (lv' := [(2, .int r39), (1, .int r2), (0, .ref (ad 0))]) hx hb dX10_takeClause_235 rfl hl (by decide) rfl (fun ls hl => ?_)
      exact kb_X10_takeClause_236 C h X (lv_sub hl [2, 0] rfl) 
    · have h := ip h c7
      exact kb_X10_takeClause_25 C h X (lv_sub hl [1, 0] rfl) 

def rmX10_takePlace : Room := { frames := 0, cells := 0, slots := 0, locals := 0 }
def b_X10_takePlace_66 (K66 : Int32 → ST → Option ST) (v2 : Int32) (S : ST) : Option ST :=
  if ((12 : Int32)) ≤ v2 then (nm (su S 6 ((0 : Int32)).toNatClampNeg ((0 : Int32))) fun S4 => nm (su S4 6 ((1 : Int32)).toNatClampNeg ((0 : Int32))) fun S5 => nm (su S5 6 ((2 : Int32)).toNatClampNeg ((0 : Int32))) fun S6 => nm (su S6 6 ((3 : Int32)).toNatClampNeg (S6.1 1 ((4 : Int32)).toNatClampNeg)) fun S7 => nm (su S7 6 ((4 : Int32)).toNatClampNeg (S7.1 1 ((5 : Int32)).toNatClampNeg)) fun S8 => some S8) else (chk (ib v2 12) (chk (ib v2 12) (nm (su S 4 v2.toNatClampNeg (S.1 11 v2.toNatClampNeg)) fun S11 => nm (v2 + (1 : Int32)) fun x12 => K66 x12 S11)))
def b_X10_takePlace_28 (K28 : Int32 → ST → Option ST) (v2 : Int32) (S : ST) : Option ST :=
  if ((24 : Int32)) ≤ v2 then (lp (fun _ _ => none) (b_X10_takePlace_66) 1000 ((0 : Int32)) S) else (chk (ib v2 24) (chk (ib v2 24) (nm (su S 2 v2.toNatClampNeg (S.1 9 v2.toNatClampNeg)) fun S15 => chk (ib v2 24) (chk (ib v2 24) (nm (su S15 3 v2.toNatClampNeg (vp_nar .boolean (S15.1 10 v2.toNatClampNeg))) fun S18 => nm (v2 + (1 : Int32)) fun x19 => K28 x19 S18)))))
def b_X10_takePlace_2 (K2 : Int32 → ST → Option ST) (v2 : Int32) (S : ST) : Option ST :=
  if ((9 : Int32)) ≤ v2 then (lp (fun _ _ => none) (b_X10_takePlace_28) 1000 ((0 : Int32)) S) else (chk (ib v2 9) (chk (ib v2 9) (nm (su S 1 v2.toNatClampNeg (S.1 8 v2.toNatClampNeg)) fun S22 => nm (v2 + (1 : Int32)) fun x23 => K2 x23 S22)))
def f_X10_takePlace  (S : ST) : Option ST :=
  lp (fun _ _ => none) (b_X10_takePlace_2) 1000 ((0 : Int32)) S
set_option maxHeartbeats 4000000 in
set_option maxRecDepth 100000 in
theorem kb_X10_takePlace_66 {p : Program} {l : Launch} {e : Env} {s : State} {m : MethodId} {args : Array Value} {below : List Frame} {meth : Method} {c : Code} {g : GG} {ad : Nat → Nat} {res : ST} {S : ST} (C : CX kM g ad p s m args meth c cX10_takePlace none 2 yX10_takePlace.cls (.code yX10_takePlace cX10_takePlace 2 none)) {K66 : Int32 → ST → Option ST} (hK66 : ∀ {v2 : Int32} {S : ST} {H : Heap} {locs : List Loc} {ls : Array Slot}, K66 v2 S = some res → WX kM g ad s S H locs → lv_has ls 2 [(0, .ref (ad 0)), (1, .int v2)] → W p l e rmX10_takePlace s m args below meth c H locs 0 0 (MQ below (QV kM g ad res (AA kM ad s.heap.size)) args s 0 0 (AA kM ad s.heap.size)) (F0 m 66 ls [])) {v2 : Int32}  {H : Heap} {locs : List Loc} {ls : Array Slot} (h : b_X10_takePlace_66 K66 v2 S = some res) (X : WX kM g ad s S H locs) (hl : lv_has ls 2 [(0, .ref (ad 0)), (1, .int v2)])  : W p l e rmX10_takePlace s m args below meth c H locs 0 0 (MQ below (QV kM g ad res (AA kM ad s.heap.size)) args s 0 0 (AA kM ad s.heap.size)) (F0 m 66 ls []) := by
  have hx := C.1.1
  have hb := C.1.2.1
  have h : (if ((12 : Int32)) ≤ v2 then (nm (su S 6 ((0 : Int32)).toNatClampNeg ((0 : Int32))) fun S4 => nm (su S4 6 ((1 : Int32)).toNatClampNeg ((0 : Int32))) fun S5 => nm (su S5 6 ((2 : Int32)).toNatClampNeg ((0 : Int32))) fun S6 => nm (su S6 6 ((3 : Int32)).toNatClampNeg (S6.1 1 ((4 : Int32)).toNatClampNeg)) fun S7 => nm (su S7 6 ((4 : Int32)).toNatClampNeg (S7.1 1 ((5 : Int32)).toNatClampNeg)) fun S8 => some S8) else (chk (ib v2 12) (chk (ib v2 12) (nm (su S 4 v2.toNatClampNeg (S.1 11 v2.toNatClampNeg)) fun S11 => nm (v2 + (1 : Int32)) fun x12 => K66 x12 S11))) : Option ST) = some res := h
  refine lv_iload_n hx hb dX10_takePlace_66 rfl (lv_at hl 1 rfl) ?_
  refine lv_bipush (v := (12 : Int32)) hx hb dX10_takePlace_67 (by decide) ?_
  refine lv_icmp_ge (tgt := 90) hx hb dX10_takePlace_69 (by decide) (fun c3 => ?_) (fun c3 => ?_)
  · have h := ip h c3
    refine lv_aload_n hx hb dX10_takePlace_90 rfl (lv_at hl 0 rfl) ?_
    refine g_get C X inT10 0 (by decide) (eM_0 g ad S) rfl 6 (by decide) wd_1012 (v := .ref (ad 6)) rfl dX10_takePlace_91 ?_
    refine lv_iconst (v := (0 : Int32)) hx hb dX10_takePlace_94 (by decide) ?_
    refine lv_iconst (v := (0 : Int32)) hx hb dX10_takePlace_95 (by decide) ?_
    obtain ⟨S4, eS4, h⟩ := nm_s h
    refine g_iast (S' := S4) C X 6 (by decide) (eM_6 g ad S) (by decide) (by subst eS4; rfl) (by subst eS4; exact fun i hi => ent_offu hi) dX10_takePlace_96 (fun H locs X => ?_)
    refine lv_aload_n hx hb dX10_takePlace_97 rfl (lv_at hl 0 rfl) ?_
    refine g_get C X inT10 0 (by decide) (eM_0 g ad S4) rfl 6 (by decide) wd_1012 (v := .ref (ad 6)) rfl dX10_takePlace_98 ?_
    refine lv_iconst (v := (1 : Int32)) hx hb dX10_takePlace_101 (by decide) ?_
    refine lv_iconst (v := (0 : Int32)) hx hb dX10_takePlace_102 (by decide) ?_
    obtain ⟨S5, eS5, h⟩ := nm_s h
    refine g_iast (S' := S5) C X 6 (by decide) (eM_6 g ad S4) (by decide) (by subst eS5; rfl) (by subst eS5; exact fun i hi => ent_offu hi) dX10_takePlace_103 (fun H locs X => ?_)
    refine lv_aload_n hx hb dX10_takePlace_104 rfl (lv_at hl 0 rfl) ?_
    refine g_get C X inT10 0 (by decide) (eM_0 g ad S5) rfl 6 (by decide) wd_1012 (v := .ref (ad 6)) rfl dX10_takePlace_105 ?_
    refine lv_iconst (v := (2 : Int32)) hx hb dX10_takePlace_108 (by decide) ?_
    refine lv_iconst (v := (0 : Int32)) hx hb dX10_takePlace_109 (by decide) ?_
    obtain ⟨S6, eS6, h⟩ := nm_s h
    refine g_iast (S' := S6) C X 6 (by decide) (eM_6 g ad S5) (by decide) (by subst eS6; rfl) (by subst eS6; exact fun i hi => ent_offu hi) dX10_takePlace_110 (fun H locs X => ?_)
    refine lv_aload_n hx hb dX10_takePlace_111 rfl (lv_at hl 0 rfl) ?_
    refine g_get C X inT10 0 (by decide) (eM_0 g ad S6) rfl 6 (by decide) wd_1012 (v := .ref (ad 6)) rfl dX10_takePlace_112 ?_
    refine lv_iconst (v := (3 : Int32)) hx hb dX10_takePlace_115 (by decide) ?_
    refine lv_aload_n hx hb dX10_takePlace_116 rfl (lv_at hl 0 rfl) ?_
    refine g_get C X inT10 0 (by decide) (eM_0 g ad S6) rfl 0 (by decide) wd_1006 (v := .ref (ad 1)) rfl dX10_takePlace_117 ?_
    refine lv_iconst (v := (4 : Int32)) hx hb dX10_takePlace_120 (by decide) ?_
    refine g_iald C X 1 (by decide) (eM_1 g ad S6) (by decide) dX10_takePlace_121 ?_
    obtain ⟨S7, eS7, h⟩ := nm_s h
    refine g_iast (S' := S7) C X 6 (by decide) (eM_6 g ad S6) (by decide) (by subst eS7; rfl) (by subst eS7; exact fun i hi => ent_offu hi) dX10_takePlace_122 (fun H locs X => ?_)
    refine lv_aload_n hx hb dX10_takePlace_123 rfl (lv_at hl 0 rfl) ?_
    refine g_get C X inT10 0 (by decide) (eM_0 g ad S7) rfl 6 (by decide) wd_1012 (v := .ref (ad 6)) rfl dX10_takePlace_124 ?_
    refine lv_iconst (v := (4 : Int32)) hx hb dX10_takePlace_127 (by decide) ?_
    refine lv_aload_n hx hb dX10_takePlace_128 rfl (lv_at hl 0 rfl) ?_
    refine g_get C X inT10 0 (by decide) (eM_0 g ad S7) rfl 0 (by decide) wd_1006 (v := .ref (ad 1)) rfl dX10_takePlace_129 ?_
    refine lv_iconst (v := (5 : Int32)) hx hb dX10_takePlace_132 (by decide) ?_
    refine g_iald C X 1 (by decide) (eM_1 g ad S7) (by decide) dX10_takePlace_133 ?_
    obtain ⟨S8, eS8, h⟩ := nm_s h
    refine g_iast (S' := S8) C X 6 (by decide) (eM_6 g ad S7) (by decide) (by subst eS8; rfl) (by subst eS8; exact fun i hi => ent_offu hi) dX10_takePlace_134 (fun H locs X => ?_)
    exact rt_v C X rfl (Option.some.inj h) dX10_takePlace_135
  · have h := inn h c3
    refine lv_aload_n hx hb dX10_takePlace_72 rfl (lv_at hl 0 rfl) ?_
    refine g_get C X inT10 0 (by decide) (eM_0 g ad S) rfl 3 (by decide) wd_1009 (v := .ref (ad 4)) rfl dX10_takePlace_73 ?_
    refine lv_iload_n hx hb dX10_takePlace_76 rfl (lv_at hl 1 rfl) ?_
    refine lv_aload_n hx hb dX10_takePlace_77 rfl (lv_at hl 0 rfl) ?_
    refine g_get C X inT10 0 (by decide) (eM_0 g ad S) rfl 18 (by decide) wd_1024 (v := .ref (ad 11)) rfl dX10_takePlace_78 ?_
    refine lv_iload_n hx hb dX10_takePlace_81 rfl (lv_at hl 1 rfl) ?_
    obtain ⟨k9, h⟩ := chk_s h
    refine g_iald C X 11 (by decide) (eM_11 g ad S) k9 dX10_takePlace_82 ?_
    obtain ⟨k10, h⟩ := chk_s h
    obtain ⟨S11, eS11, h⟩ := nm_s h
    refine g_iast (S' := S11) C X 4 (by decide) (eM_4 g ad S) k10 (by subst eS11; rfl) (by subst eS11; exact fun i hi => ent_offu hi) dX10_takePlace_83 (fun H locs X => ?_)
    obtain ⟨x12, ex12, h⟩ := nm_s h
    refine lv_iinc (v := x12) (lv' := [(1, .int x12), (0, .ref (ad 0))]) hx hb dX10_takePlace_84 hl (k := 1) rfl (by rw [ex12]; rfl) (by decide) rfl (fun ls hl => ?_)
    refine lv_goto (tgt := 66) hx hb dX10_takePlace_87 (by decide) ?_
    exact hK66 h X (lv_sub hl [1, 0] rfl) 
set_option maxHeartbeats 4000000 in
set_option maxRecDepth 100000 in
theorem kl_X10_takePlace_66 {p : Program} {l : Launch} {e : Env} {s : State} {m : MethodId} {args : Array Value} {below : List Frame} {meth : Method} {c : Code} {g : GG} {ad : Nat → Nat} {res : ST}  (C : CX kM g ad p s m args meth c cX10_takePlace none 2 yX10_takePlace.cls (.code yX10_takePlace cX10_takePlace 2 none))  : ∀ (n : Nat) {v2 : Int32} {S : ST} {H : Heap} {locs : List Loc} {ls : Array Slot}, (lp (fun _ _ => none) (b_X10_takePlace_66)) n v2 S = some res → WX kM g ad s S H locs → lv_has ls 2 [(0, .ref (ad 0)), (1, .int v2)] → W p l e rmX10_takePlace s m args below meth c H locs 0 0 (MQ below (QV kM g ad res (AA kM ad s.heap.size)) args s 0 0 (AA kM ad s.heap.size)) (F0 m 66 ls []) := by
  intro n
  induction n with
  | zero =>
    intro v2 S H locs ls h
    cases (show (none : Option ST) = some res from h)
  | succ n ih =>
    intro v2 S H locs ls h X hl 
    exact kb_X10_takePlace_66 C ih h X hl 
set_option maxHeartbeats 4000000 in
set_option maxRecDepth 100000 in
theorem kb_X10_takePlace_28 {p : Program} {l : Launch} {e : Env} {s : State} {m : MethodId} {args : Array Value} {below : List Frame} {meth : Method} {c : Code} {g : GG} {ad : Nat → Nat} {res : ST} {S : ST} (C : CX kM g ad p s m args meth c cX10_takePlace none 2 yX10_takePlace.cls (.code yX10_takePlace cX10_takePlace 2 none)) {K28 : Int32 → ST → Option ST} (hK28 : ∀ {v2 : Int32} {S : ST} {H : Heap} {locs : List Loc} {ls : Array Slot}, K28 v2 S = some res → WX kM g ad s S H locs → lv_has ls 2 [(0, .ref (ad 0)), (1, .int v2)] → W p l e rmX10_takePlace s m args below meth c H locs 0 0 (MQ below (QV kM g ad res (AA kM ad s.heap.size)) args s 0 0 (AA kM ad s.heap.size)) (F0 m 28 ls [])) {v2 : Int32}  {H : Heap} {locs : List Loc} {ls : Array Slot} (h : b_X10_takePlace_28 K28 v2 S = some res) (X : WX kM g ad s S H locs) (hl : lv_has ls 2 [(0, .ref (ad 0)), (1, .int v2)])  : W p l e rmX10_takePlace s m args below meth c H locs 0 0 (MQ below (QV kM g ad res (AA kM ad s.heap.size)) args s 0 0 (AA kM ad s.heap.size)) (F0 m 28 ls []) := by
  have hx := C.1.1
  have hb := C.1.2.1
  have h : (if ((24 : Int32)) ≤ v2 then (lp (fun _ _ => none) (b_X10_takePlace_66) 1000 ((0 : Int32)) S) else (chk (ib v2 24) (chk (ib v2 24) (nm (su S 2 v2.toNatClampNeg (S.1 9 v2.toNatClampNeg)) fun S15 => chk (ib v2 24) (chk (ib v2 24) (nm (su S15 3 v2.toNatClampNeg (vp_nar .boolean (S15.1 10 v2.toNatClampNeg))) fun S18 => nm (v2 + (1 : Int32)) fun x19 => K28 x19 S18))))) : Option ST) = some res := h
  refine lv_iload_n hx hb dX10_takePlace_28 rfl (lv_at hl 1 rfl) ?_
  refine lv_bipush (v := (24 : Int32)) hx hb dX10_takePlace_29 (by decide) ?_
  refine lv_icmp_ge (tgt := 64) hx hb dX10_takePlace_31 (by decide) (fun c2 => ?_) (fun c2 => ?_)
  · have h := ip h c2
    refine lv_iconst (v := (0 : Int32)) hx hb dX10_takePlace_64 (by decide) ?_
    refine lv_istore_n (lv' := [(1, .int ((0 : Int32))), (0, .ref (ad 0))]) hx hb dX10_takePlace_65 rfl hl (by decide) rfl (fun ls hl => ?_)
    exact kl_X10_takePlace_66 C _ h X (lv_sub hl [1, 0] rfl) 
  · have h := inn h c2
    refine lv_aload_n hx hb dX10_takePlace_34 rfl (lv_at hl 0 rfl) ?_
    refine g_get C X inT10 0 (by decide) (eM_0 g ad S) rfl 1 (by decide) wd_1007 (v := .ref (ad 2)) rfl dX10_takePlace_35 ?_
    refine lv_iload_n hx hb dX10_takePlace_38 rfl (lv_at hl 1 rfl) ?_
    refine lv_aload_n hx hb dX10_takePlace_39 rfl (lv_at hl 0 rfl) ?_
    refine g_get C X inT10 0 (by decide) (eM_0 g ad S) rfl 16 (by decide) wd_1022 (v := .ref (ad 9)) rfl dX10_takePlace_40 ?_
    refine lv_iload_n hx hb dX10_takePlace_43 rfl (lv_at hl 1 rfl) ?_
    obtain ⟨k13, h⟩ := chk_s h
    refine g_iald C X 9 (by decide) (eM_9 g ad S) k13 dX10_takePlace_44 ?_
    obtain ⟨k14, h⟩ := chk_s h
    obtain ⟨S15, eS15, h⟩ := nm_s h
    refine g_iast (S' := S15) C X 2 (by decide) (eM_2 g ad S) k14 (by subst eS15; rfl) (by subst eS15; exact fun i hi => ent_offu hi) dX10_takePlace_45 (fun H locs X => ?_)
    refine lv_aload_n hx hb dX10_takePlace_46 rfl (lv_at hl 0 rfl) ?_
    refine g_get C X inT10 0 (by decide) (eM_0 g ad S15) rfl 2 (by decide) wd_1008 (v := .ref (ad 3)) rfl dX10_takePlace_47 ?_
    refine lv_iload_n hx hb dX10_takePlace_50 rfl (lv_at hl 1 rfl) ?_
    refine lv_aload_n hx hb dX10_takePlace_51 rfl (lv_at hl 0 rfl) ?_
    refine g_get C X inT10 0 (by decide) (eM_0 g ad S15) rfl 17 (by decide) wd_1023 (v := .ref (ad 10)) rfl dX10_takePlace_52 ?_
    refine lv_iload_n hx hb dX10_takePlace_55 rfl (lv_at hl 1 rfl) ?_
    obtain ⟨k16, h⟩ := chk_s h
    refine g_zald C X 10 (by decide) (eM_10 g ad S15) k16 dX10_takePlace_56 ?_
    obtain ⟨k17, h⟩ := chk_s h
    obtain ⟨S18, eS18, h⟩ := nm_s h
    refine g_zast (S' := S18) C X 3 (by decide) (eM_3 g ad S15) k17 (by subst eS18; rfl) (by subst eS18; exact fun i hi => ent_offu hi) dX10_takePlace_57 (fun H locs X => ?_)
    obtain ⟨x19, ex19, h⟩ := nm_s h
    refine lv_iinc (v := x19) (lv' := [(1, .int x19), (0, .ref (ad 0))]) hx hb dX10_takePlace_58 hl (k := 1) rfl (by rw [ex19]; rfl) (by decide) rfl (fun ls hl => ?_)
    refine lv_goto (tgt := 28) hx hb dX10_takePlace_61 (by decide) ?_
    exact hK28 h X (lv_sub hl [1, 0] rfl) 
set_option maxHeartbeats 4000000 in
set_option maxRecDepth 100000 in
theorem kl_X10_takePlace_28 {p : Program} {l : Launch} {e : Env} {s : State} {m : MethodId} {args : Array Value} {below : List Frame} {meth : Method} {c : Code} {g : GG} {ad : Nat → Nat} {res : ST}  (C : CX kM g ad p s m args meth c cX10_takePlace none 2 yX10_takePlace.cls (.code yX10_takePlace cX10_takePlace 2 none))  : ∀ (n : Nat) {v2 : Int32} {S : ST} {H : Heap} {locs : List Loc} {ls : Array Slot}, (lp (fun _ _ => none) (b_X10_takePlace_28)) n v2 S = some res → WX kM g ad s S H locs → lv_has ls 2 [(0, .ref (ad 0)), (1, .int v2)] → W p l e rmX10_takePlace s m args below meth c H locs 0 0 (MQ below (QV kM g ad res (AA kM ad s.heap.size)) args s 0 0 (AA kM ad s.heap.size)) (F0 m 28 ls []) := by
  intro n
  induction n with
  | zero =>
    intro v2 S H locs ls h
    cases (show (none : Option ST) = some res from h)
  | succ n ih =>
    intro v2 S H locs ls h X hl 
    exact kb_X10_takePlace_28 C ih h X hl 
set_option maxHeartbeats 4000000 in
set_option maxRecDepth 100000 in
theorem kb_X10_takePlace_2 {p : Program} {l : Launch} {e : Env} {s : State} {m : MethodId} {args : Array Value} {below : List Frame} {meth : Method} {c : Code} {g : GG} {ad : Nat → Nat} {res : ST} {S : ST} (C : CX kM g ad p s m args meth c cX10_takePlace none 2 yX10_takePlace.cls (.code yX10_takePlace cX10_takePlace 2 none)) {K2 : Int32 → ST → Option ST} (hK2 : ∀ {v2 : Int32} {S : ST} {H : Heap} {locs : List Loc} {ls : Array Slot}, K2 v2 S = some res → WX kM g ad s S H locs → lv_has ls 2 [(0, .ref (ad 0)), (1, .int v2)] → W p l e rmX10_takePlace s m args below meth c H locs 0 0 (MQ below (QV kM g ad res (AA kM ad s.heap.size)) args s 0 0 (AA kM ad s.heap.size)) (F0 m 2 ls [])) {v2 : Int32}  {H : Heap} {locs : List Loc} {ls : Array Slot} (h : b_X10_takePlace_2 K2 v2 S = some res) (X : WX kM g ad s S H locs) (hl : lv_has ls 2 [(0, .ref (ad 0)), (1, .int v2)])  : W p l e rmX10_takePlace s m args below meth c H locs 0 0 (MQ below (QV kM g ad res (AA kM ad s.heap.size)) args s 0 0 (AA kM ad s.heap.size)) (F0 m 2 ls []) := by
  have hx := C.1.1
  have hb := C.1.2.1
  have h : (if ((9 : Int32)) ≤ v2 then (lp (fun _ _ => none) (b_X10_takePlace_28) 1000 ((0 : Int32)) S) else (chk (ib v2 9) (chk (ib v2 9) (nm (su S 1 v2.toNatClampNeg (S.1 8 v2.toNatClampNeg)) fun S22 => nm (v2 + (1 : Int32)) fun x23 => K2 x23 S22))) : Option ST) = some res := h
  refine lv_iload_n hx hb dX10_takePlace_2 rfl (lv_at hl 1 rfl) ?_
  refine lv_bipush (v := (9 : Int32)) hx hb dX10_takePlace_3 (by decide) ?_
  refine lv_icmp_ge (tgt := 26) hx hb dX10_takePlace_5 (by decide) (fun c1 => ?_) (fun c1 => ?_)
  · have h := ip h c1
    refine lv_iconst (v := (0 : Int32)) hx hb dX10_takePlace_26 (by decide) ?_
    refine lv_istore_n (lv' := [(1, .int ((0 : Int32))), (0, .ref (ad 0))]) hx hb dX10_takePlace_27 rfl hl (by decide) rfl (fun ls hl => ?_)
    exact kl_X10_takePlace_28 C _ h X (lv_sub hl [1, 0] rfl) 
  · have h := inn h c1
    refine lv_aload_n hx hb dX10_takePlace_8 rfl (lv_at hl 0 rfl) ?_
    refine g_get C X inT10 0 (by decide) (eM_0 g ad S) rfl 0 (by decide) wd_1006 (v := .ref (ad 1)) rfl dX10_takePlace_9 ?_
    refine lv_iload_n hx hb dX10_takePlace_12 rfl (lv_at hl 1 rfl) ?_
    refine lv_aload_n hx hb dX10_takePlace_13 rfl (lv_at hl 0 rfl) ?_
    refine g_get C X inT10 0 (by decide) (eM_0 g ad S) rfl 15 (by decide) wd_1021 (v := .ref (ad 8)) rfl dX10_takePlace_14 ?_
    refine lv_iload_n hx hb dX10_takePlace_17 rfl (lv_at hl 1 rfl) ?_
    obtain ⟨k20, h⟩ := chk_s h
    refine g_iald C X 8 (by decide) (eM_8 g ad S) k20 dX10_takePlace_18 ?_
    obtain ⟨k21, h⟩ := chk_s h
    obtain ⟨S22, eS22, h⟩ := nm_s h
    refine g_iast (S' := S22) C X 1 (by decide) (eM_1 g ad S) k21 (by subst eS22; rfl) (by subst eS22; exact fun i hi => ent_offu hi) dX10_takePlace_19 (fun H locs X => ?_)
    obtain ⟨x23, ex23, h⟩ := nm_s h
    refine lv_iinc (v := x23) (lv' := [(1, .int x23), (0, .ref (ad 0))]) hx hb dX10_takePlace_20 hl (k := 1) rfl (by rw [ex23]; rfl) (by decide) rfl (fun ls hl => ?_)
    refine lv_goto (tgt := 2) hx hb dX10_takePlace_23 (by decide) ?_
    exact hK2 h X (lv_sub hl [1, 0] rfl) 
set_option maxHeartbeats 4000000 in
set_option maxRecDepth 100000 in
theorem kl_X10_takePlace_2 {p : Program} {l : Launch} {e : Env} {s : State} {m : MethodId} {args : Array Value} {below : List Frame} {meth : Method} {c : Code} {g : GG} {ad : Nat → Nat} {res : ST}  (C : CX kM g ad p s m args meth c cX10_takePlace none 2 yX10_takePlace.cls (.code yX10_takePlace cX10_takePlace 2 none))  : ∀ (n : Nat) {v2 : Int32} {S : ST} {H : Heap} {locs : List Loc} {ls : Array Slot}, (lp (fun _ _ => none) (b_X10_takePlace_2)) n v2 S = some res → WX kM g ad s S H locs → lv_has ls 2 [(0, .ref (ad 0)), (1, .int v2)] → W p l e rmX10_takePlace s m args below meth c H locs 0 0 (MQ below (QV kM g ad res (AA kM ad s.heap.size)) args s 0 0 (AA kM ad s.heap.size)) (F0 m 2 ls []) := by
  intro n
  induction n with
  | zero =>
    intro v2 S H locs ls h
    cases (show (none : Option ST) = some res from h)
  | succ n ih =>
    intro v2 S H locs ls h X hl 
    exact kb_X10_takePlace_2 C ih h X hl 
set_option maxHeartbeats 4000000 in
set_option maxRecDepth 100000 in
theorem c_X10_takePlace (l : Launch) (g : GG) (ad : Nat → Nat) (S : ST) (sz : Nat)   {res : ST} (h : f_X10_takePlace S = some res) : Met l yX10_takePlace (WS (.code yX10_takePlace cX10_takePlace 2 none)) rmX10_takePlace (va_Pc [.ref (ad 0)] (PW kM g ad S sz)) (QV kM g ad res (AA kM ad sz)) 0 0 (AA kM ad sz) := by
  refine go_m (Qc := fun A => QV kM g ad res A) (by decide) (Nat.le_of_ble_eq_true rfl) (fun p e s m below meth c ls H locs C X hl => ?_)
  have hx := C.1.1
  have hb := C.1.2.1
  have hl : lv_has ls 2 [(0, .ref (ad 0))] := hl
  have h : (lp (fun _ _ => none) (b_X10_takePlace_2) 1000 ((0 : Int32)) S : Option ST) = some res := h
  refine lv_iconst (v := (0 : Int32)) hx hb dX10_takePlace_0 (by decide) ?_
  refine lv_istore_n (lv' := [(1, .int ((0 : Int32))), (0, .ref (ad 0))]) hx hb dX10_takePlace_1 rfl hl (by decide) rfl (fun ls hl => ?_)
  exact kl_X10_takePlace_2 C _ h X (lv_sub hl [1, 0] rfl) 

def rmX10_place : Room := { frames := 5, cells := 0, slots := 0, locals := 115 }
def b_X10_place_35  (v2 : Int32) (S : ST) : Option (Int32 × ST) :=
  nm (su S 0 8 ((0 : Int32))) fun S5 => if v2 ≤ 0 then (bn1 (f_X10_takePlace S5) fun S7 => some (S7.1 0 20, S7)) else (some (((-10 : Int32)) - v2, S5))
def b_X10_place_16 (K16 : Int32 → ST → Option (Int32 × ST)) (v2 : Int32) (S : ST) : Option (Int32 × ST) :=
  if v2 = 0 then (bnd (f_X10_here S) fun r9 S8 => if r9 < 0 then (b_X10_place_35 v2 S8) else (bnd (f_X10_takeClause S8) fun r12 S11 => K16 r12 S11)) else (b_X10_place_35 v2 S)
def f_X10_place  (S : ST) : Option (Int32 × ST) :=
  nm (su S 0 9 ((-1 : Int32))) fun S1 => nm (su S1 0 10 ((0 : Int32))) fun S2 => bn1 (f_X10_bare S2) fun S3 => lp (fun _ _ => none) (b_X10_place_16) 1000 ((0 : Int32)) S3
set_option maxHeartbeats 4000000 in
set_option maxRecDepth 100000 in
theorem kb_X10_place_35 {p : Program} {l : Launch} {e : Env} {s : State} {m : MethodId} {args : Array Value} {below : List Frame} {meth : Method} {c : Code} {g : GG} {ad : Nat → Nat} {res : (Int32 × ST)} {S : ST} (C : CX kM g ad p s m args meth c cX10_place (some Jvm.ClassFile.FieldType.int) 2 yX10_place.cls (.code yX10_place cX10_place 2 (some Jvm.ClassFile.FieldType.int)))  {v2 : Int32}  {H : Heap} {locs : List Loc} {ls : Array Slot} (h : b_X10_place_35 v2 S = some res) (X : WX kM g ad s S H locs) (hl : lv_has ls 2 [(0, .ref (ad 0)), (1, .int v2)])  : W p l e rmX10_place s m args below meth c H locs 0 0 (MQ below (QI kM g ad res (AA kM ad s.heap.size)) args s 0 0 (AA kM ad s.heap.size)) (F0 m 35 ls []) := by
  have hx := C.1.1
  have hb := C.1.2.1
  have h : (nm (su S 0 8 ((0 : Int32))) fun S5 => if v2 ≤ 0 then (bn1 (f_X10_takePlace S5) fun S7 => some (S7.1 0 20, S7)) else (some (((-10 : Int32)) - v2, S5)) : Option (Int32 × ST)) = some res := h
  refine lv_aload_n hx hb dX10_place_35 rfl (lv_at hl 0 rfl) ?_
  refine lv_iconst (v := (0 : Int32)) hx hb dX10_place_36 (by decide) ?_
  obtain ⟨S5, eS5, h⟩ := nm_s h
  refine g_put (S' := S5) C X inT10 tyX10 tyX10_ok nmX10 0 (by decide) (eM_0 g ad S) rfl 8 (by decide) wd_1014 rfl (by rfl) rfl (Nat.le_of_ble_eq_true rfl) (by subst eS5; rfl) (by subst eS5; exact fun i hi => ent_offu hi) dX10_place_37 (fun H locs X => ?_)
  refine lv_iload_n hx hb dX10_place_40 rfl (lv_at hl 1 rfl) ?_
  refine lv_if_le (tgt := 49) hx hb dX10_place_41 (by decide) (fun c6 => ?_) (fun c6 => ?_)
  · have h := ip h c6
    refine lv_aload_n hx hb dX10_place_49 rfl (lv_at hl 0 rfl) ?_
    obtain ⟨S7, qS7, h⟩ := bn1_s h
    refine kc_v X (res := S7) (rV (As := []) (rest := []) (n := 0) (k := 0) C X (c_X10_takePlace l g ad S5 _   qS7) wd_1002 wd_1004 wd_29 wd_83 wd_1005 (by decide) (eM_0 g ad S5) rfl rfl rfl (by decide +kernel) ⟨Nat.le_of_ble_eq_true rfl, Nat.le_of_ble_eq_true rfl⟩ rfl hl.1 (lv_room (Nat.le_of_ble_eq_true rfl)) dX10_place_50) (fun H locs X => ?_)
    refine lv_aload_n hx hb dX10_place_53 rfl (lv_at hl 0 rfl) ?_
    refine g_get C X inT10 0 (by decide) (eM_0 g ad S7) rfl 20 (by decide) wd_1026 (v := .int (S7.1 0 20)) rfl dX10_place_54 ?_
    exact rt_i C X rfl (Option.some.inj h) dX10_place_57
  · have h := inn h c6
    refine lv_bipush (v := (-10 : Int32)) hx hb dX10_place_44 (by decide) ?_
    refine lv_iload_n hx hb dX10_place_46 rfl (lv_at hl 1 rfl) ?_
    refine lv_isub hx hb dX10_place_47 ?_
    exact rt_i C X rfl (Option.some.inj h) dX10_place_48
set_option maxHeartbeats 4000000 in
set_option maxRecDepth 100000 in
theorem kb_X10_place_16 {p : Program} {l : Launch} {e : Env} {s : State} {m : MethodId} {args : Array Value} {below : List Frame} {meth : Method} {c : Code} {g : GG} {ad : Nat → Nat} {res : (Int32 × ST)} {S : ST} (C : CX kM g ad p s m args meth c cX10_place (some Jvm.ClassFile.FieldType.int) 2 yX10_place.cls (.code yX10_place cX10_place 2 (some Jvm.ClassFile.FieldType.int))) {K16 : Int32 → ST → Option (Int32 × ST)} (hK16 : ∀ {v2 : Int32} {S : ST} {H : Heap} {locs : List Loc} {ls : Array Slot}, K16 v2 S = some res → WX kM g ad s S H locs → lv_has ls 2 [(0, .ref (ad 0)), (1, .int v2)] → W p l e rmX10_place s m args below meth c H locs 0 0 (MQ below (QI kM g ad res (AA kM ad s.heap.size)) args s 0 0 (AA kM ad s.heap.size)) (F0 m 16 ls [])) {v2 : Int32}  {H : Heap} {locs : List Loc} {ls : Array Slot} (h : b_X10_place_16 K16 v2 S = some res) (X : WX kM g ad s S H locs) (hl : lv_has ls 2 [(0, .ref (ad 0)), (1, .int v2)])  : W p l e rmX10_place s m args below meth c H locs 0 0 (MQ below (QI kM g ad res (AA kM ad s.heap.size)) args s 0 0 (AA kM ad s.heap.size)) (F0 m 16 ls []) := by
  have hx := C.1.1
  have hb := C.1.2.1
  have h : (if v2 = 0 then (bnd (f_X10_here S) fun r9 S8 => if r9 < 0 then (b_X10_place_35 v2 S8) else (bnd (f_X10_takeClause S8) fun r12 S11 => K16 r12 S11)) else (b_X10_place_35 v2 S) : Option (Int32 × ST)) = some res := h
  refine lv_iload_n hx hb dX10_place_16 rfl (lv_at hl 1 rfl) ?_
  refine lv_if_ne (tgt := 35) hx hb dX10_place_17 (by decide) (fun c4 => ?_) (fun c4 => ?_)
  · have h := inn h c4
    exact kb_X10_place_35 C h X (lv_sub hl [0, 1] rfl) 
  · have h := ip h c4
    refine lv_aload_n hx hb dX10_place_20 rfl (lv_at hl 0 rfl) ?_
    obtain ⟨r9, S8, qr9, h⟩ := bnd_s h
    refine kc_i X (res := (r9, S8)) (rV (As := []) (rest := []) (n := 0) (k := 0) C X (c_X10_here l g ad S _   qr9) wd_1161 wd_1163 wd_30 wd_83 wd_1164 (by decide) (eM_0 g ad S) rfl rfl rfl (by decide +kernel) ⟨Nat.le_of_ble_eq_true rfl, Nat.le_of_ble_eq_true rfl⟩ rfl hl.1 (lv_room (Nat.le_of_ble_eq_true rfl)) dX10_place_21) (fun H locs X => ?_)
    refine lv_if_lt (tgt := 35) hx hb dX10_place_24 (by decide) (fun c10 => ?_) (fun c10 => ?_)
    · have h := ip h c10
      exact kb_X10_place_35 C h X (lv_sub hl [0, 1] rfl) 
    · have h := inn h c10
      refine lv_aload_n hx hb dX10_place_27 rfl (lv_at hl 0 rfl) ?_
      obtain ⟨r12, S11, qr12, h⟩ := bnd_s h
      refine kc_i X (res := (r12, S11)) (rV (As := []) (rest := []) (n := 0) (k := 0) C X (c_X10_takeClause l g ad S8 _   qr12) wd_1165 wd_1167 wd_31 wd_83 wd_1168 (by decide) (eM_0 g ad S8) rfl rfl rfl (by decide +kernel) ⟨Nat.le_of_ble_eq_true rfl, Nat.le_of_ble_eq_true rfl⟩ rfl hl.1 (lv_room (Nat.le_of_ble_eq_true rfl)) dX10_place_28) (fun H locs X => ?_)
      refine lv_istore_n (lv' := [(1, .int r12), (0, .ref (ad 0))]) hx hb dX10_place_31 rfl hl (by decide) rfl (fun ls hl => ?_)
      refine lv_goto (tgt := 16) hx hb dX10_place_32 (by decide) ?_
      exact hK16 h X (lv_sub hl [1, 0] rfl) 
set_option maxHeartbeats 4000000 in
set_option maxRecDepth 100000 in
theorem kl_X10_place_16 {p : Program} {l : Launch} {e : Env} {s : State} {m : MethodId} {args : Array Value} {below : List Frame} {meth : Method} {c : Code} {g : GG} {ad : Nat → Nat} {res : (Int32 × ST)}  (C : CX kM g ad p s m args meth c cX10_place (some Jvm.ClassFile.FieldType.int) 2 yX10_place.cls (.code yX10_place cX10_place 2 (some Jvm.ClassFile.FieldType.int)))  : ∀ (n : Nat) {v2 : Int32} {S : ST} {H : Heap} {locs : List Loc} {ls : Array Slot}, (lp (fun _ _ => none) (b_X10_place_16)) n v2 S = some res → WX kM g ad s S H locs → lv_has ls 2 [(0, .ref (ad 0)), (1, .int v2)] → W p l e rmX10_place s m args below meth c H locs 0 0 (MQ below (QI kM g ad res (AA kM ad s.heap.size)) args s 0 0 (AA kM ad s.heap.size)) (F0 m 16 ls []) := by
  intro n
  induction n with
  | zero =>
    intro v2 S H locs ls h
    cases (show (none : Option (Int32 × ST)) = some res from h)
  | succ n ih =>
    intro v2 S H locs ls h X hl 
    exact kb_X10_place_16 C ih h X hl 
set_option maxHeartbeats 4000000 in
set_option maxRecDepth 100000 in
theorem c_X10_place (l : Launch) (g : GG) (ad : Nat → Nat) (S : ST) (sz : Nat)   {res : (Int32 × ST)} (h : f_X10_place S = some res) : Met l yX10_place (WS (.code yX10_place cX10_place 2 (some Jvm.ClassFile.FieldType.int))) rmX10_place (va_Pc [.ref (ad 0)] (PW kM g ad S sz)) (QI kM g ad res (AA kM ad sz)) 0 0 (AA kM ad sz) := by
  refine go_m (Qc := fun A => QI kM g ad res A) (by decide) (Nat.le_of_ble_eq_true rfl) (fun p e s m below meth c ls H locs C X hl => ?_)
  have hx := C.1.1
  have hb := C.1.2.1
  have hl : lv_has ls 2 [(0, .ref (ad 0))] := hl
  have h : (nm (su S 0 9 ((-1 : Int32))) fun S1 => nm (su S1 0 10 ((0 : Int32))) fun S2 => bn1 (f_X10_bare S2) fun S3 => lp (fun _ _ => none) (b_X10_place_16) 1000 ((0 : Int32)) S3 : Option (Int32 × ST)) = some res := h
  refine lv_aload_n hx hb dX10_place_0 rfl (lv_at hl 0 rfl) ?_
  refine lv_iconst (v := (-1 : Int32)) hx hb dX10_place_1 (by decide) ?_
  obtain ⟨S1, eS1, h⟩ := nm_s h
  refine g_put (S' := S1) C X inT10 tyX10 tyX10_ok nmX10 0 (by decide) (eM_0 g ad S) rfl 9 (by decide) wd_1015 rfl (by rfl) rfl (Nat.le_of_ble_eq_true rfl) (by subst eS1; rfl) (by subst eS1; exact fun i hi => ent_offu hi) dX10_place_2 (fun H locs X => ?_)
  refine lv_aload_n hx hb dX10_place_5 rfl (lv_at hl 0 rfl) ?_
  refine lv_iconst (v := (0 : Int32)) hx hb dX10_place_6 (by decide) ?_
  obtain ⟨S2, eS2, h⟩ := nm_s h
  refine g_put (S' := S2) C X inT10 tyX10 tyX10_ok nmX10 0 (by decide) (eM_0 g ad S1) rfl 10 (by decide) wd_1016 rfl (by rfl) rfl (Nat.le_of_ble_eq_true rfl) (by subst eS2; rfl) (by subst eS2; exact fun i hi => ent_offu hi) dX10_place_7 (fun H locs X => ?_)
  refine lv_aload_n hx hb dX10_place_10 rfl (lv_at hl 0 rfl) ?_
  obtain ⟨S3, qS3, h⟩ := bn1_s h
  refine kc_v X (res := S3) (rV (As := []) (rest := []) (n := 0) (k := 0) C X (c_X10_bare l g ad S2 _   qS3) wd_995 wd_997 wd_28 wd_83 wd_998 (by decide) (eM_0 g ad S2) rfl rfl rfl (by decide +kernel) ⟨Nat.le_of_ble_eq_true rfl, Nat.le_of_ble_eq_true rfl⟩ rfl hl.1 (lv_room (Nat.le_of_ble_eq_true rfl)) dX10_place_11) (fun H locs X => ?_)
  refine lv_iconst (v := (0 : Int32)) hx hb dX10_place_14 (by decide) ?_
  refine lv_istore_n (lv' := [(1, .int ((0 : Int32))), (0, .ref (ad 0))]) hx hb dX10_place_15 rfl hl (by decide) rfl (fun ls hl => ?_)
  exact kl_X10_place_16 C _ h X (lv_sub hl [1, 0] rfl) 

def rmX10_takeSwinger : Room := { frames := 2, cells := 0, slots := 0, locals := 48 }
def b_X10_takeSwinger_130  (v2 : Int32) (v3 : Int32) (S : ST) : Option (Int32 × ST) :=
  chk (ib (v2 + ((4 : Int32))) 40) (nm (su S 5 (v2 + ((4 : Int32))).toNatClampNeg (S.1 0 13)) fun S25 => if v3 = 0 then (bnd (f_X10_here S25) fun r28 S27 => if r28 < 0 then (some (v3, S27)) else (bnd (f_X10_fails ((1 : Int32)) (S27.1 0 10) S27) fun r31 S30 => some (r31, S30))) else (some (v3, S25)))
def b_X10_takeSwinger_102  (v2 : Int32) (v3 : Int32) (S : ST) : Option (Int32 × ST) :=
  chk (ib (v2 + ((3 : Int32))) 40) (nm (su S 5 (v2 + ((3 : Int32))).toNatClampNeg (S.1 0 13)) fun S20 => if v3 ≤ 0 then (bnd (f_X10_takeNumber ((0 : Int32)) ((36 : Int32)) S20) fun r23 S22 => b_X10_takeSwinger_130 v2 r23 S22) else (b_X10_takeSwinger_130 v2 v3 S20))
def b_X10_takeSwinger_74  (v2 : Int32) (v3 : Int32) (S : ST) : Option (Int32 × ST) :=
  chk (ib (v2 + ((2 : Int32))) 40) (nm (su S 5 (v2 + ((2 : Int32))).toNatClampNeg (S.1 0 13)) fun S15 => if v3 ≤ 0 then (bnd (f_X10_takeNumber ((0 : Int32)) ((20 : Int32)) S15) fun r18 S17 => b_X10_takeSwinger_102 v2 r18 S17) else (b_X10_takeSwinger_102 v2 v3 S15))
def b_X10_takeSwinger_44  (v2 : Int32) (v3 : Int32) (S : ST) : Option (Int32 × ST) :=
  chk (ib (v2 + ((1 : Int32))) 40) (nm (su S 5 (v2 + ((1 : Int32))).toNatClampNeg (S.1 0 13)) fun S10 => if v3 ≤ 0 then (bnd (f_X10_takeNumber ((10 : Int32)) ((300 : Int32)) S10) fun r13 S12 => b_X10_takeSwinger_74 v2 r13 S12) else (b_X10_takeSwinger_74 v2 v3 S10))
def f_X10_takeSwinger  (S : ST) : Option (Int32 × ST) :=
  nm (((5 : Int32)) * (S.1 0 4)) fun x1 => bnd (f_X10_takeNumber ((10 : Int32)) ((150 : Int32)) S) fun r3 S2 => chk (ib x1 40) (nm (su S2 5 x1.toNatClampNeg (S2.1 0 13)) fun S5 => if r3 ≤ 0 then (bnd (f_X10_takeNumber ((50 : Int32)) ((220 : Int32)) S5) fun r8 S7 => b_X10_takeSwinger_44 x1 r8 S7) else (b_X10_takeSwinger_44 x1 r3 S5))
set_option maxHeartbeats 4000000 in
set_option maxRecDepth 100000 in
theorem kb_X10_takeSwinger_130 {p : Program} {l : Launch} {e : Env} {s : State} {m : MethodId} {args : Array Value} {below : List Frame} {meth : Method} {c : Code} {g : GG} {ad : Nat → Nat} {res : (Int32 × ST)} {S : ST} (C : CX kM g ad p s m args meth c cX10_takeSwinger (some Jvm.ClassFile.FieldType.int) 3 yX10_takeSwinger.cls (.code yX10_takeSwinger cX10_takeSwinger 3 (some Jvm.ClassFile.FieldType.int)))  {v2 : Int32} {v3 : Int32}  {H : Heap} {locs : List Loc} {ls : Array Slot} (h : b_X10_takeSwinger_130 v2 v3 S = some res) (X : WX kM g ad s S H locs) (hl : lv_has ls 3 [(0, .ref (ad 0)), (1, .int v2)])  : W p l e rmX10_takeSwinger s m args below meth c H locs 0 0 (MQ below (QI kM g ad res (AA kM ad s.heap.size)) args s 0 0 (AA kM ad s.heap.size)) (F0 m 130 ls [.int v3]) := by
  have hx := C.1.1
  have hb := C.1.2.1
  have h : (chk (ib (v2 + ((4 : Int32))) 40) (nm (su S 5 (v2 + ((4 : Int32))).toNatClampNeg (S.1 0 13)) fun S25 => if v3 = 0 then (bnd (f_X10_here S25) fun r28 S27 => if r28 < 0 then (some (v3, S27)) else (bnd (f_X10_fails ((1 : Int32)) (S27.1 0 10) S27) fun r31 S30 => some (r31, S30))) else (some (v3, S25))) : Option (Int32 × ST)) = some res := h
  refine lv_istore_n (lv' := [(2, .int v3), (0, .ref (ad 0)), (1, .int v2)]) hx hb dX10_takeSwinger_130 rfl hl (by decide) rfl (fun ls hl => ?_)
  refine lv_aload_n hx hb dX10_takeSwinger_131 rfl (lv_at hl 1 rfl) ?_
  refine g_get C X inT10 0 (by decide) (eM_0 g ad S) rfl 5 (by decide) wd_1011 (v := .ref (ad 5)) rfl dX10_takeSwinger_132 ?_
  refine lv_iload_n hx hb dX10_takeSwinger_135 rfl (lv_at hl 2 rfl) ?_
  refine lv_iconst (v := (4 : Int32)) hx hb dX10_takeSwinger_136 (by decide) ?_
  refine lv_iadd hx hb dX10_takeSwinger_137 ?_
  refine lv_aload_n hx hb dX10_takeSwinger_138 rfl (lv_at hl 1 rfl) ?_
  refine g_get C X inT10 0 (by decide) (eM_0 g ad S) rfl 13 (by decide) wd_1019 (v := .int (S.1 0 13)) rfl dX10_takeSwinger_139 ?_
  obtain ⟨k24, h⟩ := chk_s h
  obtain ⟨S25, eS25, h⟩ := nm_s h
  refine g_iast (S' := S25) C X 5 (by decide) (eM_5 g ad S) k24 (by subst eS25; rfl) (by subst eS25; exact fun i hi => ent_offu hi) dX10_takeSwinger_142 (fun H locs X => ?_)
  refine lv_iload_n hx hb dX10_takeSwinger_143 rfl (lv_at hl 0 rfl) ?_
  refine lv_if_ne (tgt := 166) hx hb dX10_takeSwinger_144 (by decide) (fun c26 => ?_) (fun c26 => ?_)
  · have h := inn h c26
    refine lv_iload_n hx hb dX10_takeSwinger_166 rfl (lv_at hl 0 rfl) ?_
    exact rt_i C X rfl (Option.some.inj h) dX10_takeSwinger_167
  · have h := ip h c26
    refine lv_aload_n hx hb dX10_takeSwinger_147 rfl (lv_at hl 1 rfl) ?_
    obtain ⟨r28, S27, qr28, h⟩ := bnd_s h
    refine kc_i X (res := (r28, S27)) (rV (As := []) (rest := []) (n := 0) (k := 0) C X (c_X10_here l g ad S25 _   qr28) wd_1161 wd_1163 wd_30 wd_83 wd_1164 (by decide) (eM_0 g ad S25) rfl rfl rfl (by decide +kernel) ⟨Nat.le_of_ble_eq_true rfl, Nat.le_of_ble_eq_true rfl⟩ rfl hl.1 (lv_room (Nat.le_of_ble_eq_true rfl)) dX10_takeSwinger_148) (fun H locs X => ?_)
    refine lv_if_lt (tgt := 166) hx hb dX10_takeSwinger_151 (by decide) (fun c29 => ?_) (fun c29 => ?_)
    · have h := ip h c29
      refine lv_iload_n hx hb dX10_takeSwinger_166 rfl (lv_at hl 0 rfl) ?_
      exact rt_i C X rfl (Option.some.inj h) dX10_takeSwinger_167
    · have h := inn h c29
      refine lv_aload_n hx hb dX10_takeSwinger_154 rfl (lv_at hl 1 rfl) ?_
      refine lv_iconst (v := (1 : Int32)) hx hb dX10_takeSwinger_155 (by decide) ?_
      refine lv_aload_n hx hb dX10_takeSwinger_156 rfl (lv_at hl 1 rfl) ?_
      refine g_get C X inT10 0 (by decide) (eM_0 g ad S27) rfl 10 (by decide) wd_1016 (v := .int (S27.1 0 10)) rfl dX10_takeSwinger_157 ?_
      obtain ⟨r31, S30, qr31, h⟩ := bnd_s h
      refine kc_i X (res := (r31, S30)) (rV (As := [.int ((1 : Int32)), .int (S27.1 0 10)]) (rest := []) (n := 2) (k := 0) C X (c_X10_fails l g ad S27 _ ((1 : Int32)) (S27.1 0 10)  qr31) wd_1189 wd_1191 wd_34 wd_83 wd_1192 (by decide) (eM_0 g ad S27) rfl rfl rfl (by decide +kernel) ⟨Nat.le_of_ble_eq_true rfl, Nat.le_of_ble_eq_true rfl⟩ rfl hl.1 (lv_room (Nat.le_of_ble_eq_true rfl)) dX10_takeSwinger_160) (fun H locs X => ?_)
      refine lv_goto (tgt := 167) hx hb dX10_takeSwinger_163 (by decide) ?_
      exact rt_i C X rfl (Option.some.inj h) dX10_takeSwinger_167
set_option maxHeartbeats 4000000 in
set_option maxRecDepth 100000 in
theorem kb_X10_takeSwinger_102 {p : Program} {l : Launch} {e : Env} {s : State} {m : MethodId} {args : Array Value} {below : List Frame} {meth : Method} {c : Code} {g : GG} {ad : Nat → Nat} {res : (Int32 × ST)} {S : ST} (C : CX kM g ad p s m args meth c cX10_takeSwinger (some Jvm.ClassFile.FieldType.int) 3 yX10_takeSwinger.cls (.code yX10_takeSwinger cX10_takeSwinger 3 (some Jvm.ClassFile.FieldType.int)))  {v2 : Int32} {v3 : Int32}  {H : Heap} {locs : List Loc} {ls : Array Slot} (h : b_X10_takeSwinger_102 v2 v3 S = some res) (X : WX kM g ad s S H locs) (hl : lv_has ls 3 [(0, .ref (ad 0)), (1, .int v2)])  : W p l e rmX10_takeSwinger s m args below meth c H locs 0 0 (MQ below (QI kM g ad res (AA kM ad s.heap.size)) args s 0 0 (AA kM ad s.heap.size)) (F0 m 102 ls [.int v3]) := by
  have hx := C.1.1
  have hb := C.1.2.1
  have h : (chk (ib (v2 + ((3 : Int32))) 40) (nm (su S 5 (v2 + ((3 : Int32))).toNatClampNeg (S.1 0 13)) fun S20 => if v3 ≤ 0 then (bnd (f_X10_takeNumber ((0 : Int32)) ((36 : Int32)) S20) fun r23 S22 => b_X10_takeSwinger_130 v2 r23 S22) else (b_X10_takeSwinger_130 v2 v3 S20)) : Option (Int32 × ST)) = some res := h
  refine lv_istore_n (lv' := [(2, .int v3), (0, .ref (ad 0)), (1, .int v2)]) hx hb dX10_takeSwinger_102 rfl hl (by decide) rfl (fun ls hl => ?_)
  refine lv_aload_n hx hb dX10_takeSwinger_103 rfl (lv_at hl 1 rfl) ?_
  refine g_get C X inT10 0 (by decide) (eM_0 g ad S) rfl 5 (by decide) wd_1011 (v := .ref (ad 5)) rfl dX10_takeSwinger_104 ?_
  refine lv_iload_n hx hb dX10_takeSwinger_107 rfl (lv_at hl 2 rfl) ?_
  refine lv_iconst (v := (3 : Int32)) hx hb dX10_takeSwinger_108 (by decide) ?_
  refine lv_iadd hx hb dX10_takeSwinger_109 ?_
  refine lv_aload_n hx hb dX10_takeSwinger_110 rfl (lv_at hl 1 rfl) ?_
  refine g_get C X inT10 0 (by decide) (eM_0 g ad S) rfl 13 (by decide) wd_1019 (v := .int (S.1 0 13)) rfl dX10_takeSwinger_111 ?_
  obtain ⟨k19, h⟩ := chk_s h
  obtain ⟨S20, eS20, h⟩ := nm_s h
  refine g_iast (S' := S20) C X 5 (by decide) (eM_5 g ad S) k19 (by subst eS20; rfl) (by subst eS20; exact fun i hi => ent_offu hi) dX10_takeSwinger_114 (fun H locs X => ?_)
  refine lv_iload_n hx hb dX10_takeSwinger_115 rfl (lv_at hl 0 rfl) ?_
  refine lv_if_le (tgt := 123) hx hb dX10_takeSwinger_116 (by decide) (fun c21 => ?_) (fun c21 => ?_)
  · have h := ip h c21
    refine lv_aload_n hx hb dX10_takeSwinger_123 rfl (lv_at hl 1 rfl) ?_
    refine lv_iconst (v := (0 : Int32)) hx hb dX10_takeSwinger_124 (by decide) ?_
    refine lv_bipush (v := (36 : Int32)) hx hb dX10_takeSwinger_125 (by decide) ?_
    obtain ⟨r23, S22, qr23, h⟩ := bnd_s h
    refine kc_i X (res := (r23, S22)) (rV (As := [.int ((0 : Int32)), .int ((36 : Int32))]) (rest := []) (n := 2) (k := 0) C X (c_X10_takeNumber l g ad S20 _ ((0 : Int32)) ((36 : Int32))  qr23) wd_1197 wd_1199 wd_36 wd_83 wd_1200 (by decide) (eM_0 g ad S20) rfl rfl rfl (by decide +kernel) ⟨Nat.le_of_ble_eq_true rfl, Nat.le_of_ble_eq_true rfl⟩ rfl hl.1 (lv_room (Nat.le_of_ble_eq_true rfl)) dX10_takeSwinger_127) (fun H locs X => ?_)
    exact kb_X10_takeSwinger_130 C h X (lv_sub hl [1, 2] rfl) 
  · have h := inn h c21
    refine lv_iload_n hx hb dX10_takeSwinger_119 rfl (lv_at hl 0 rfl) ?_
    refine lv_goto (tgt := 130) hx hb dX10_takeSwinger_120 (by decide) ?_
    exact kb_X10_takeSwinger_130 C h X (lv_sub hl [1, 2] rfl) 
set_option maxHeartbeats 4000000 in
set_option maxRecDepth 100000 in
theorem kb_X10_takeSwinger_74 {p : Program} {l : Launch} {e : Env} {s : State} {m : MethodId} {args : Array Value} {below : List Frame} {meth : Method} {c : Code} {g : GG} {ad : Nat → Nat} {res : (Int32 × ST)} {S : ST} (C : CX kM g ad p s m args meth c cX10_takeSwinger (some Jvm.ClassFile.FieldType.int) 3 yX10_takeSwinger.cls (.code yX10_takeSwinger cX10_takeSwinger 3 (some Jvm.ClassFile.FieldType.int)))  {v2 : Int32} {v3 : Int32}  {H : Heap} {locs : List Loc} {ls : Array Slot} (h : b_X10_takeSwinger_74 v2 v3 S = some res) (X : WX kM g ad s S H locs) (hl : lv_has ls 3 [(0, .ref (ad 0)), (1, .int v2)])  : W p l e rmX10_takeSwinger s m args below meth c H locs 0 0 (MQ below (QI kM g ad res (AA kM ad s.heap.size)) args s 0 0 (AA kM ad s.heap.size)) (F0 m 74 ls [.int v3]) := by
  have hx := C.1.1
  have hb := C.1.2.1
  have h : (chk (ib (v2 + ((2 : Int32))) 40) (nm (su S 5 (v2 + ((2 : Int32))).toNatClampNeg (S.1 0 13)) fun S15 => if v3 ≤ 0 then (bnd (f_X10_takeNumber ((0 : Int32)) ((20 : Int32)) S15) fun r18 S17 => b_X10_takeSwinger_102 v2 r18 S17) else (b_X10_takeSwinger_102 v2 v3 S15)) : Option (Int32 × ST)) = some res := h
  refine lv_istore_n (lv' := [(2, .int v3), (0, .ref (ad 0)), (1, .int v2)]) hx hb dX10_takeSwinger_74 rfl hl (by decide) rfl (fun ls hl => ?_)
  refine lv_aload_n hx hb dX10_takeSwinger_75 rfl (lv_at hl 1 rfl) ?_
  refine g_get C X inT10 0 (by decide) (eM_0 g ad S) rfl 5 (by decide) wd_1011 (v := .ref (ad 5)) rfl dX10_takeSwinger_76 ?_
  refine lv_iload_n hx hb dX10_takeSwinger_79 rfl (lv_at hl 2 rfl) ?_
  refine lv_iconst (v := (2 : Int32)) hx hb dX10_takeSwinger_80 (by decide) ?_
  refine lv_iadd hx hb dX10_takeSwinger_81 ?_
  refine lv_aload_n hx hb dX10_takeSwinger_82 rfl (lv_at hl 1 rfl) ?_
  refine g_get C X inT10 0 (by decide) (eM_0 g ad S) rfl 13 (by decide) wd_1019 (v := .int (S.1 0 13)) rfl dX10_takeSwinger_83 ?_
  obtain ⟨k14, h⟩ := chk_s h
  obtain ⟨S15, eS15, h⟩ := nm_s h
  refine g_iast (S' := S15) C X 5 (by decide) (eM_5 g ad S) k14 (by subst eS15; rfl) (by subst eS15; exact fun i hi => ent_offu hi) dX10_takeSwinger_86 (fun H locs X => ?_)
  refine lv_iload_n hx hb dX10_takeSwinger_87 rfl (lv_at hl 0 rfl) ?_
  refine lv_if_le (tgt := 95) hx hb dX10_takeSwinger_88 (by decide) (fun c16 => ?_) (fun c16 => ?_)
  · have h := ip h c16
    refine lv_aload_n hx hb dX10_takeSwinger_95 rfl (lv_at hl 1 rfl) ?_
    refine lv_iconst (v := (0 : Int32)) hx hb dX10_takeSwinger_96 (by decide) ?_
    refine lv_bipush (v := (20 : Int32)) hx hb dX10_takeSwinger_97 (by decide) ?_
    obtain ⟨r18, S17, qr18, h⟩ := bnd_s h
    refine kc_i X (res := (r18, S17)) (rV (As := [.int ((0 : Int32)), .int ((20 : Int32))]) (rest := []) (n := 2) (k := 0) C X (c_X10_takeNumber l g ad S15 _ ((0 : Int32)) ((20 : Int32))  qr18) wd_1197 wd_1199 wd_36 wd_83 wd_1200 (by decide) (eM_0 g ad S15) rfl rfl rfl (by decide +kernel) ⟨Nat.le_of_ble_eq_true rfl, Nat.le_of_ble_eq_true rfl⟩ rfl hl.1 (lv_room (Nat.le_of_ble_eq_true rfl)) dX10_takeSwinger_99) (fun H locs X => ?_)
    exact kb_X10_takeSwinger_102 C h X (lv_sub hl [1, 2] rfl) 
  · have h := inn h c16
    refine lv_iload_n hx hb dX10_takeSwinger_91 rfl (lv_at hl 0 rfl) ?_
    refine lv_goto (tgt := 102) hx hb dX10_takeSwinger_92 (by decide) ?_
    exact kb_X10_takeSwinger_102 C h X (lv_sub hl [1, 2] rfl) 
set_option maxHeartbeats 4000000 in
set_option maxRecDepth 100000 in
theorem kb_X10_takeSwinger_44 {p : Program} {l : Launch} {e : Env} {s : State} {m : MethodId} {args : Array Value} {below : List Frame} {meth : Method} {c : Code} {g : GG} {ad : Nat → Nat} {res : (Int32 × ST)} {S : ST} (C : CX kM g ad p s m args meth c cX10_takeSwinger (some Jvm.ClassFile.FieldType.int) 3 yX10_takeSwinger.cls (.code yX10_takeSwinger cX10_takeSwinger 3 (some Jvm.ClassFile.FieldType.int)))  {v2 : Int32} {v3 : Int32}  {H : Heap} {locs : List Loc} {ls : Array Slot} (h : b_X10_takeSwinger_44 v2 v3 S = some res) (X : WX kM g ad s S H locs) (hl : lv_has ls 3 [(0, .ref (ad 0)), (1, .int v2)])  : W p l e rmX10_takeSwinger s m args below meth c H locs 0 0 (MQ below (QI kM g ad res (AA kM ad s.heap.size)) args s 0 0 (AA kM ad s.heap.size)) (F0 m 44 ls [.int v3]) := by
  have hx := C.1.1
  have hb := C.1.2.1
  have h : (chk (ib (v2 + ((1 : Int32))) 40) (nm (su S 5 (v2 + ((1 : Int32))).toNatClampNeg (S.1 0 13)) fun S10 => if v3 ≤ 0 then (bnd (f_X10_takeNumber ((10 : Int32)) ((300 : Int32)) S10) fun r13 S12 => b_X10_takeSwinger_74 v2 r13 S12) else (b_X10_takeSwinger_74 v2 v3 S10)) : Option (Int32 × ST)) = some res := h
  refine lv_istore_n (lv' := [(2, .int v3), (0, .ref (ad 0)), (1, .int v2)]) hx hb dX10_takeSwinger_44 rfl hl (by decide) rfl (fun ls hl => ?_)
  refine lv_aload_n hx hb dX10_takeSwinger_45 rfl (lv_at hl 1 rfl) ?_
  refine g_get C X inT10 0 (by decide) (eM_0 g ad S) rfl 5 (by decide) wd_1011 (v := .ref (ad 5)) rfl dX10_takeSwinger_46 ?_
  refine lv_iload_n hx hb dX10_takeSwinger_49 rfl (lv_at hl 2 rfl) ?_
  refine lv_iconst (v := (1 : Int32)) hx hb dX10_takeSwinger_50 (by decide) ?_
  refine lv_iadd hx hb dX10_takeSwinger_51 ?_
  refine lv_aload_n hx hb dX10_takeSwinger_52 rfl (lv_at hl 1 rfl) ?_
  refine g_get C X inT10 0 (by decide) (eM_0 g ad S) rfl 13 (by decide) wd_1019 (v := .int (S.1 0 13)) rfl dX10_takeSwinger_53 ?_
  obtain ⟨k9, h⟩ := chk_s h
  obtain ⟨S10, eS10, h⟩ := nm_s h
  refine g_iast (S' := S10) C X 5 (by decide) (eM_5 g ad S) k9 (by subst eS10; rfl) (by subst eS10; exact fun i hi => ent_offu hi) dX10_takeSwinger_56 (fun H locs X => ?_)
  refine lv_iload_n hx hb dX10_takeSwinger_57 rfl (lv_at hl 0 rfl) ?_
  refine lv_if_le (tgt := 65) hx hb dX10_takeSwinger_58 (by decide) (fun c11 => ?_) (fun c11 => ?_)
  · have h := ip h c11
    refine lv_aload_n hx hb dX10_takeSwinger_65 rfl (lv_at hl 1 rfl) ?_
    refine lv_bipush (v := (10 : Int32)) hx hb dX10_takeSwinger_66 (by decide) ?_
    refine lv_sipush (v := (300 : Int32)) hx hb dX10_takeSwinger_68 (by decide) ?_
    obtain ⟨r13, S12, qr13, h⟩ := bnd_s h
    refine kc_i X (res := (r13, S12)) (rV (As := [.int ((10 : Int32)), .int ((300 : Int32))]) (rest := []) (n := 2) (k := 0) C X (c_X10_takeNumber l g ad S10 _ ((10 : Int32)) ((300 : Int32))  qr13) wd_1197 wd_1199 wd_36 wd_83 wd_1200 (by decide) (eM_0 g ad S10) rfl rfl rfl (by decide +kernel) ⟨Nat.le_of_ble_eq_true rfl, Nat.le_of_ble_eq_true rfl⟩ rfl hl.1 (lv_room (Nat.le_of_ble_eq_true rfl)) dX10_takeSwinger_71) (fun H locs X => ?_)
    exact kb_X10_takeSwinger_74 C h X (lv_sub hl [1, 2] rfl) 
  · have h := inn h c11
    refine lv_iload_n hx hb dX10_takeSwinger_61 rfl (lv_at hl 0 rfl) ?_
    refine lv_goto (tgt := 74) hx hb dX10_takeSwinger_62 (by decide) ?_
    exact kb_X10_takeSwinger_74 C h X (lv_sub hl [1, 2] rfl) 
set_option maxHeartbeats 4000000 in
set_option maxRecDepth 100000 in
theorem c_X10_takeSwinger (l : Launch) (g : GG) (ad : Nat → Nat) (S : ST) (sz : Nat)   {res : (Int32 × ST)} (h : f_X10_takeSwinger S = some res) : Met l yX10_takeSwinger (WS (.code yX10_takeSwinger cX10_takeSwinger 3 (some Jvm.ClassFile.FieldType.int))) rmX10_takeSwinger (va_Pc [.ref (ad 0)] (PW kM g ad S sz)) (QI kM g ad res (AA kM ad sz)) 0 0 (AA kM ad sz) := by
  refine go_m (Qc := fun A => QI kM g ad res A) (by decide) (Nat.le_of_ble_eq_true rfl) (fun p e s m below meth c ls H locs C X hl => ?_)
  have hx := C.1.1
  have hb := C.1.2.1
  have hl : lv_has ls 3 [(0, .ref (ad 0))] := hl
  have h : (nm (((5 : Int32)) * (S.1 0 4)) fun x1 => bnd (f_X10_takeNumber ((10 : Int32)) ((150 : Int32)) S) fun r3 S2 => chk (ib x1 40) (nm (su S2 5 x1.toNatClampNeg (S2.1 0 13)) fun S5 => if r3 ≤ 0 then (bnd (f_X10_takeNumber ((50 : Int32)) ((220 : Int32)) S5) fun r8 S7 => b_X10_takeSwinger_44 x1 r8 S7) else (b_X10_takeSwinger_44 x1 r3 S5)) : Option (Int32 × ST)) = some res := h
  refine lv_iconst (v := (5 : Int32)) hx hb dX10_takeSwinger_0 (by decide) ?_
  refine lv_aload_n hx hb dX10_takeSwinger_1 rfl (lv_at hl 0 rfl) ?_
  refine g_get C X inT10 0 (by decide) (eM_0 g ad S) rfl 4 (by decide) wd_1010 (v := .int (S.1 0 4)) rfl dX10_takeSwinger_2 ?_
  refine lv_imul hx hb dX10_takeSwinger_5 ?_
  obtain ⟨x1, ex1, h⟩ := nm_s h
  refine tp_i ex1 ?_
  refine lv_istore_n (lv' := [(1, .int x1), (0, .ref (ad 0))]) hx hb dX10_takeSwinger_6 rfl hl (by decide) rfl (fun ls hl => ?_)
  refine lv_aload_n hx hb dX10_takeSwinger_7 rfl (lv_at hl 1 rfl) ?_
  refine lv_bipush (v := (10 : Int32)) hx hb dX10_takeSwinger_8 (by decide) ?_
  refine lv_sipush (v := (150 : Int32)) hx hb dX10_takeSwinger_10 (by decide) ?_
  obtain ⟨r3, S2, qr3, h⟩ := bnd_s h
  refine kc_i X (res := (r3, S2)) (rV (As := [.int ((10 : Int32)), .int ((150 : Int32))]) (rest := []) (n := 2) (k := 0) C X (c_X10_takeNumber l g ad S _ ((10 : Int32)) ((150 : Int32))  qr3) wd_1197 wd_1199 wd_36 wd_83 wd_1200 (by decide) (eM_0 g ad S) rfl rfl rfl (by decide +kernel) ⟨Nat.le_of_ble_eq_true rfl, Nat.le_of_ble_eq_true rfl⟩ rfl hl.1 (lv_room (Nat.le_of_ble_eq_true rfl)) dX10_takeSwinger_13) (fun H locs X => ?_)
  refine lv_istore_n (lv' := [(2, .int r3), (1, .int x1), (0, .ref (ad 0))]) hx hb dX10_takeSwinger_16 rfl hl (by decide) rfl (fun ls hl => ?_)
  refine lv_aload_n hx hb dX10_takeSwinger_17 rfl (lv_at hl 2 rfl) ?_
  refine g_get C X inT10 0 (by decide) (eM_0 g ad S2) rfl 5 (by decide) wd_1011 (v := .ref (ad 5)) rfl dX10_takeSwinger_18 ?_
  refine lv_iload_n hx hb dX10_takeSwinger_21 rfl (lv_at hl 1 rfl) ?_
  refine lv_aload_n hx hb dX10_takeSwinger_22 rfl (lv_at hl 2 rfl) ?_
  refine g_get C X inT10 0 (by decide) (eM_0 g ad S2) rfl 13 (by decide) wd_1019 (v := .int (S2.1 0 13)) rfl dX10_takeSwinger_23 ?_
  obtain ⟨k4, h⟩ := chk_s h
  obtain ⟨S5, eS5, h⟩ := nm_s h
  refine g_iast (S' := S5) C X 5 (by decide) (eM_5 g ad S2) k4 (by subst eS5; rfl) (by subst eS5; exact fun i hi => ent_offu hi) dX10_takeSwinger_26 (fun H locs X => ?_)
  refine lv_iload_n hx hb dX10_takeSwinger_27 rfl (lv_at hl 0 rfl) ?_
  refine lv_if_le (tgt := 35) hx hb dX10_takeSwinger_28 (by decide) (fun c6 => ?_) (fun c6 => ?_)
  · have h := ip h c6
    refine lv_aload_n hx hb dX10_takeSwinger_35 rfl (lv_at hl 2 rfl) ?_
    refine lv_bipush (v := (50 : Int32)) hx hb dX10_takeSwinger_36 (by decide) ?_
    refine lv_sipush (v := (220 : Int32)) hx hb dX10_takeSwinger_38 (by decide) ?_
    obtain ⟨r8, S7, qr8, h⟩ := bnd_s h
    refine kc_i X (res := (r8, S7)) (rV (As := [.int ((50 : Int32)), .int ((220 : Int32))]) (rest := []) (n := 2) (k := 0) C X (c_X10_takeNumber l g ad S5 _ ((50 : Int32)) ((220 : Int32))  qr8) wd_1197 wd_1199 wd_36 wd_83 wd_1200 (by decide) (eM_0 g ad S5) rfl rfl rfl (by decide +kernel) ⟨Nat.le_of_ble_eq_true rfl, Nat.le_of_ble_eq_true rfl⟩ rfl hl.1 (lv_room (Nat.le_of_ble_eq_true rfl)) dX10_takeSwinger_41) (fun H locs X => ?_)
    exact kb_X10_takeSwinger_44 C h X (lv_sub hl [2, 1] rfl) 
  · have h := inn h c6
    refine lv_iload_n hx hb dX10_takeSwinger_31 rfl (lv_at hl 0 rfl) ?_
    refine lv_goto (tgt := 44) hx hb dX10_takeSwinger_32 (by decide) ?_
    exact kb_X10_takeSwinger_44 C h X (lv_sub hl [2, 1] rfl) 

def rmX10_swinger : Room := { frames := 3, cells := 0, slots := 0, locals := 70 }
def f_X10_swinger  (S : ST) : Option (Int32 × ST) :=
  if (S.1 0 8) ≤ ((40 : Int32)) then (if (S.1 0 4) = ((8 : Int32)) then (some ((-1000000004 : Int32), S)) else (nm (su S 0 9 ((-1 : Int32))) fun S3 => nm (su S3 0 10 ((0 : Int32))) fun S4 => bnd (f_X10_takeSwinger S4) fun r6 S5 => nm (su S5 0 8 ((0 : Int32))) fun S7 => if r6 ≤ 0 then (nm (su S7 0 4 ((S7.1 0 4) + ((1 : Int32)))) fun S9 => some ((S9.1 0 4) - ((1 : Int32)), S9)) else (some (((-10 : Int32)) - r6, S7)))) else (some ((-1000000003 : Int32), S))
set_option maxHeartbeats 4000000 in
set_option maxRecDepth 100000 in
theorem c_X10_swinger (l : Launch) (g : GG) (ad : Nat → Nat) (S : ST) (sz : Nat)   {res : (Int32 × ST)} (h : f_X10_swinger S = some res) : Met l yX10_swinger (WS (.code yX10_swinger cX10_swinger 2 (some Jvm.ClassFile.FieldType.int))) rmX10_swinger (va_Pc [.ref (ad 0)] (PW kM g ad S sz)) (QI kM g ad res (AA kM ad sz)) 0 0 (AA kM ad sz) := by
  refine go_m (Qc := fun A => QI kM g ad res A) (by decide) (Nat.le_of_ble_eq_true rfl) (fun p e s m below meth c ls H locs C X hl => ?_)
  have hx := C.1.1
  have hb := C.1.2.1
  have hl : lv_has ls 2 [(0, .ref (ad 0))] := hl
  have h : (if (S.1 0 8) ≤ ((40 : Int32)) then (if (S.1 0 4) = ((8 : Int32)) then (some ((-1000000004 : Int32), S)) else (nm (su S 0 9 ((-1 : Int32))) fun S3 => nm (su S3 0 10 ((0 : Int32))) fun S4 => bnd (f_X10_takeSwinger S4) fun r6 S5 => nm (su S5 0 8 ((0 : Int32))) fun S7 => if r6 ≤ 0 then (nm (su S7 0 4 ((S7.1 0 4) + ((1 : Int32)))) fun S9 => some ((S9.1 0 4) - ((1 : Int32)), S9)) else (some (((-10 : Int32)) - r6, S7)))) else (some ((-1000000003 : Int32), S)) : Option (Int32 × ST)) = some res := h
  refine lv_aload_n hx hb dX10_swinger_0 rfl (lv_at hl 0 rfl) ?_
  refine g_get C X inT10 0 (by decide) (eM_0 g ad S) rfl 8 (by decide) wd_1014 (v := .int (S.1 0 8)) rfl dX10_swinger_1 ?_
  refine lv_bipush (v := (40 : Int32)) hx hb dX10_swinger_4 (by decide) ?_
  refine lv_icmp_le (tgt := 12) hx hb dX10_swinger_6 (by decide) (fun c1 => ?_) (fun c1 => ?_)
  · have h := ip h c1
    refine lv_aload_n hx hb dX10_swinger_12 rfl (lv_at hl 0 rfl) ?_
    refine g_get C X inT10 0 (by decide) (eM_0 g ad S) rfl 4 (by decide) wd_1010 (v := .int (S.1 0 4)) rfl dX10_swinger_13 ?_
    refine lv_bipush (v := (8 : Int32)) hx hb dX10_swinger_16 (by decide) ?_
    refine lv_icmp_ne (tgt := 24) hx hb dX10_swinger_18 (by decide) (fun c2 => ?_) (fun c2 => ?_)
    · have h := inn h c2
      refine lv_aload_n hx hb dX10_swinger_24 rfl (lv_at hl 0 rfl) ?_
      refine lv_iconst (v := (-1 : Int32)) hx hb dX10_swinger_25 (by decide) ?_
      obtain ⟨S3, eS3, h⟩ := nm_s h
      refine g_put (S' := S3) C X inT10 tyX10 tyX10_ok nmX10 0 (by decide) (eM_0 g ad S) rfl 9 (by decide) wd_1015 rfl (by rfl) rfl (Nat.le_of_ble_eq_true rfl) (by subst eS3; rfl) (by subst eS3; exact fun i hi => ent_offu hi) dX10_swinger_26 (fun H locs X => ?_)
      refine lv_aload_n hx hb dX10_swinger_29 rfl (lv_at hl 0 rfl) ?_
      refine lv_iconst (v := (0 : Int32)) hx hb dX10_swinger_30 (by decide) ?_
      obtain ⟨S4, eS4, h⟩ := nm_s h
      refine g_put (S' := S4) C X inT10 tyX10 tyX10_ok nmX10 0 (by decide) (eM_0 g ad S3) rfl 10 (by decide) wd_1016 rfl (by rfl) rfl (Nat.le_of_ble_eq_true rfl) (by subst eS4; rfl) (by subst eS4; exact fun i hi => ent_offu hi) dX10_swinger_31 (fun H locs X => ?_)
      refine lv_aload_n hx hb dX10_swinger_34 rfl (lv_at hl 0 rfl) ?_
      obtain ⟨r6, S5, qr6, h⟩ := bnd_s h
      refine kc_i X (res := (r6, S5)) (rV (As := []) (rest := []) (n := 0) (k := 0) C X (c_X10_takeSwinger l g ad S4 _   qr6) wd_1232 wd_1234 wd_43 wd_83 wd_1235 (by decide) (eM_0 g ad S4) rfl rfl rfl (by decide +kernel) ⟨Nat.le_of_ble_eq_true rfl, Nat.le_of_ble_eq_true rfl⟩ rfl hl.1 (lv_room (Nat.le_of_ble_eq_true rfl)) dX10_swinger_35) (fun H locs X => ?_)
      refine lv_istore_n (lv' := [(1, .int r6), (0, .ref (ad 0))]) hx hb dX10_swinger_38 rfl hl (by decide) rfl (fun ls hl => ?_)
      refine lv_aload_n hx hb dX10_swinger_39 rfl (lv_at hl 1 rfl) ?_
      refine lv_iconst (v := (0 : Int32)) hx hb dX10_swinger_40 (by decide) ?_
      obtain ⟨S7, eS7, h⟩ := nm_s h
      refine g_put (S' := S7) C X inT10 tyX10 tyX10_ok nmX10 0 (by decide) (eM_0 g ad S5) rfl 8 (by decide) wd_1014 rfl (by rfl) rfl (Nat.le_of_ble_eq_true rfl) (by subst eS7; rfl) (by subst eS7; exact fun i hi => ent_offu hi) dX10_swinger_41 (fun H locs X => ?_)
      refine lv_iload_n hx hb dX10_swinger_44 rfl (lv_at hl 0 rfl) ?_
      refine lv_if_le (tgt := 53) hx hb dX10_swinger_45 (by decide) (fun c8 => ?_) (fun c8 => ?_)
      · have h := ip h c8
        refine lv_aload_n hx hb dX10_swinger_53 rfl (lv_at hl 1 rfl) ?_
        refine lv_dup hx hb dX10_swinger_54 rfl ?_
        refine g_get C X inT10 0 (by decide) (eM_0 g ad S7) rfl 4 (by decide) wd_1010 (v := .int (S7.1 0 4)) rfl dX10_swinger_55 ?_
        refine lv_iconst (v := (1 : Int32)) hx hb dX10_swinger_58 (by decide) ?_
        refine lv_iadd hx hb dX10_swinger_59 ?_
        obtain ⟨S9, eS9, h⟩ := nm_s h
        refine g_put (S' := S9) C X inT10 tyX10 tyX10_ok nmX10 0 (by decide) (eM_0 g ad S7) rfl 4 (by decide) wd_1010 rfl (by rfl) rfl (Nat.le_of_ble_eq_true rfl) (by subst eS9; rfl) (by subst eS9; exact fun i hi => ent_offu hi) dX10_swinger_60 (fun H locs X => ?_)
        refine lv_aload_n hx hb dX10_swinger_63 rfl (lv_at hl 1 rfl) ?_
        refine g_get C X inT10 0 (by decide) (eM_0 g ad S9) rfl 4 (by decide) wd_1010 (v := .int (S9.1 0 4)) rfl dX10_swinger_64 ?_
        refine lv_iconst (v := (1 : Int32)) hx hb dX10_swinger_67 (by decide) ?_
        refine lv_isub hx hb dX10_swinger_68 ?_
        exact rt_i C X rfl (Option.some.inj h) dX10_swinger_69
      · have h := inn h c8
        refine lv_bipush (v := (-10 : Int32)) hx hb dX10_swinger_48 (by decide) ?_
        refine lv_iload_n hx hb dX10_swinger_50 rfl (lv_at hl 0 rfl) ?_
        refine lv_isub hx hb dX10_swinger_51 ?_
        exact rt_i C X rfl (Option.some.inj h) dX10_swinger_52
    · have h := ip h c2
      refine lv_ldc (v := (-1000000004 : Int32)) hx hb C.1.2.2.2.2.2.1 (C.1.2.2.2.2.2.2 _ (ws_in wd_1155)) dX10_swinger_21 ?_
      exact rt_i C X rfl (Option.some.inj h) dX10_swinger_23
  · have h := inn h c1
    refine lv_ldc (v := (-1000000003 : Int32)) hx hb C.1.2.2.2.2.2.1 (C.1.2.2.2.2.2.2 _ (ws_in wd_1231)) dX10_swinger_9 ?_
    exact rt_i C X rfl (Option.some.inj h) dX10_swinger_11

def rmX10_fault : Room := { frames := 0, cells := 0, slots := 0, locals := 0 }
def f_X10_fault  (S : ST) : Option Int32 :=
  some (S.1 0 9)
set_option maxHeartbeats 4000000 in
set_option maxRecDepth 100000 in
theorem c_X10_fault (l : Launch) (g : GG) (ad : Nat → Nat) (S : ST) (sz : Nat)   {res : Int32} (h : f_X10_fault S = some res) : Met l yX10_fault (WS (.code yX10_fault cX10_fault 1 (some Jvm.ClassFile.FieldType.int))) rmX10_fault (va_Pc [.ref (ad 0)] (PW kM g ad S sz)) (QI kM g ad (res, S) (AA kM ad sz)) 0 0 (AA kM ad sz) := by
  refine go_m (Qc := fun A => QI kM g ad (res, S) A) (by decide) (Nat.le_of_ble_eq_true rfl) (fun p e s m below meth c ls H locs C X hl => ?_)
  have hx := C.1.1
  have hb := C.1.2.1
  have hl : lv_has ls 1 [(0, .ref (ad 0))] := hl
  have h : (some (S.1 0 9) : Option Int32) = some res := h
  refine lv_aload_n hx hb dX10_fault_0 rfl (lv_at hl 0 rfl) ?_
  refine g_get C X inT10 0 (by decide) (eM_0 g ad S) rfl 9 (by decide) wd_1015 (v := .int (S.1 0 9)) rfl dX10_fault_1 ?_
  exact rt_i C X rfl (congrArg (fun z => (z, S)) (Option.some.inj h)) dX10_fault_4

def rmX10_told : Room := { frames := 1, cells := 0, slots := 0, locals := 25 }
def f_X10_told (a1 : Int32) (S : ST) : Option Int32 :=
  bn1 (f_X10_in (a1.toInt64) ((0 : Int64)) ((8 : Int64))) fun r1 => if r1 = 0 then (if a1 = ((9 : Int32)) then (some (S.1 0 4)) else (if a1 = ((10 : Int32)) then (some (S.1 0 8)) else (some ((-1000000002 : Int32))))) else (chk (ib a1 9) (some (S.1 1 a1.toNatClampNeg)))
set_option maxHeartbeats 4000000 in
set_option maxRecDepth 100000 in
theorem c_X10_told (l : Launch) (g : GG) (ad : Nat → Nat) (S : ST) (sz : Nat) (a1 : Int32)  {res : Int32} (h : f_X10_told a1 S = some res) : Met l yX10_told (WS (.code yX10_told cX10_told 2 (some Jvm.ClassFile.FieldType.int))) rmX10_told (va_Pc [.ref (ad 0), .int a1] (PW kM g ad S sz)) (QI kM g ad (res, S) (AA kM ad sz)) 0 0 (AA kM ad sz) := by
  refine go_m (Qc := fun A => QI kM g ad (res, S) A) (by decide) (Nat.le_of_ble_eq_true rfl) (fun p e s m below meth c ls H locs C X hl => ?_)
  have hx := C.1.1
  have hb := C.1.2.1
  have hl : lv_has ls 2 [(0, .ref (ad 0)), (1, .int a1)] := hl
  have h : (bn1 (f_X10_in (a1.toInt64) ((0 : Int64)) ((8 : Int64))) fun r1 => if r1 = 0 then (if a1 = ((9 : Int32)) then (some (S.1 0 4)) else (if a1 = ((10 : Int32)) then (some (S.1 0 8)) else (some ((-1000000002 : Int32))))) else (chk (ib a1 9) (some (S.1 1 a1.toNatClampNeg))) : Option Int32) = some res := h
  refine lv_iload_n hx hb dX10_told_0 rfl (lv_at hl 1 rfl) ?_
  refine lv_i2l hx hb dX10_told_1 rfl ?_
  refine lv_lconst (v := (0 : Int64)) hx hb dX10_told_2 (by decide) ?_
  refine lv_ldc2 (v := (8 : Int64)) hx hb C.1.2.2.2.2.2.1 (C.1.2.2.2.2.2.2 _ (ws_in wd_1150)) dX10_told_3 ?_
  obtain ⟨r1, qr1, h⟩ := bn1_s h
  refine kc_i X (res := (r1, S)) (rS (As := [.long (a1.toInt64), .long ((0 : Int64)), .long ((8 : Int64))]) (rest := []) (n := 3) C X (c_X10_in l g ad S _ (a1.toInt64) ((0 : Int64)) ((8 : Int64))  qr1) wd_1151 wd_1152 wd_83 wd_1153 rfl rfl (by decide +kernel) ⟨Nat.le_of_ble_eq_true rfl, Nat.le_of_ble_eq_true rfl⟩ rfl hl.1 (lv_room (Nat.le_of_ble_eq_true rfl)) dX10_told_6) (fun H locs X => ?_)
  refine lv_if_eq (tgt := 21) hx hb dX10_told_9 (by decide) (fun c2 => ?_) (fun c2 => ?_)
  · have h := ip h c2
    refine lv_iload_n hx hb dX10_told_21 rfl (lv_at hl 1 rfl) ?_
    refine lv_bipush (v := (9 : Int32)) hx hb dX10_told_22 (by decide) ?_
    refine lv_icmp_ne (tgt := 34) hx hb dX10_told_24 (by decide) (fun c3 => ?_) (fun c3 => ?_)
    · have h := inn h c3
      refine lv_iload_n hx hb dX10_told_34 rfl (lv_at hl 1 rfl) ?_
      refine lv_bipush (v := (10 : Int32)) hx hb dX10_told_35 (by decide) ?_
      refine lv_icmp_ne (tgt := 47) hx hb dX10_told_37 (by decide) (fun c4 => ?_) (fun c4 => ?_)
      · have h := inn h c4
        refine lv_ldc (v := (-1000000002 : Int32)) hx hb C.1.2.2.2.2.2.1 (C.1.2.2.2.2.2.2 _ (ws_in wd_1154)) dX10_told_47 ?_
        exact rt_i C X rfl (congrArg (fun z => (z, S)) (Option.some.inj h)) dX10_told_49
      · have h := ip h c4
        refine lv_aload_n hx hb dX10_told_40 rfl (lv_at hl 0 rfl) ?_
        refine g_get C X inT10 0 (by decide) (eM_0 g ad S) rfl 8 (by decide) wd_1014 (v := .int (S.1 0 8)) rfl dX10_told_41 ?_
        refine lv_goto (tgt := 49) hx hb dX10_told_44 (by decide) ?_
        exact rt_i C X rfl (congrArg (fun z => (z, S)) (Option.some.inj h)) dX10_told_49
    · have h := ip h c3
      refine lv_aload_n hx hb dX10_told_27 rfl (lv_at hl 0 rfl) ?_
      refine g_get C X inT10 0 (by decide) (eM_0 g ad S) rfl 4 (by decide) wd_1010 (v := .int (S.1 0 4)) rfl dX10_told_28 ?_
      refine lv_goto (tgt := 49) hx hb dX10_told_31 (by decide) ?_
      exact rt_i C X rfl (congrArg (fun z => (z, S)) (Option.some.inj h)) dX10_told_49
  · have h := inn h c2
    refine lv_aload_n hx hb dX10_told_12 rfl (lv_at hl 0 rfl) ?_
    refine g_get C X inT10 0 (by decide) (eM_0 g ad S) rfl 0 (by decide) wd_1006 (v := .ref (ad 1)) rfl dX10_told_13 ?_
    refine lv_iload_n hx hb dX10_told_16 rfl (lv_at hl 1 rfl) ?_
    obtain ⟨k5, h⟩ := chk_s h
    refine g_iald C X 1 (by decide) (eM_1 g ad S) k5 dX10_told_17 ?_
    refine lv_goto (tgt := 49) hx hb dX10_told_18 (by decide) ?_
    exact rt_i C X rfl (congrArg (fun z => (z, S)) (Option.some.inj h)) dX10_told_49
