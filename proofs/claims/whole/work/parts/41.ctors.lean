def entP (g : GG) (ad : Nat → Nat) (x : Int64) (i : Nat) (r : Nat → Int32) : va_E := match i with
  | 0 => .inr (3, [.ref (ad 1), .ref (ad 2), .ref (ad 3), .ref (ad 4)])
  | 1 => .inl (g.2.1 0, (9, .inl r))
  | 2 => .inl (g.2.1 0, (24, .inl r))
  | 3 => .inl (g.2.1 0, (24, .inl r))
  | _ => .inl (g.2.1 0, (12, .inl r))
def kP : WK := (5, entP)
theorem eP_0 (g : GG) (ad : Nat → Nat) (S : ST) : ent kP g ad S 0 = .inr (3, [.ref (ad 1), .ref (ad 2), .ref (ad 3), .ref (ad 4)]) := rfl
theorem eP_1 (g : GG) (ad : Nat → Nat) (S : ST) : ent kP g ad S 1 = .inl (g.2.1 0, (9, .inl (S.1 1))) := rfl
theorem eP_2 (g : GG) (ad : Nat → Nat) (S : ST) : ent kP g ad S 2 = .inl (g.2.1 0, (24, .inl (S.1 2))) := rfl
theorem eP_3 (g : GG) (ad : Nat → Nat) (S : ST) : ent kP g ad S 3 = .inl (g.2.1 0, (24, .inl (S.1 3))) := rfl
theorem eP_4 (g : GG) (ad : Nat → Nat) (S : ST) : ent kP g ad S 4 = .inl (g.2.1 0, (12, .inl (S.1 4))) := rfl
def iaPL : List Nat := [1, 2, 3, 4]
def iaP (k : Nat) : Bool := iaPL.contains k
def lnP (k : Nat) : Nat := ([0, 9, 24, 24, 12] : List Nat).getD k 0
theorem iaP_cases {P : Nat → Prop} (h : ∀ k ∈ iaPL, P k) {k : Nat} (hk : iaP k = true) : P k := h k (by simpa [iaP] using hk)
theorem ltiaP {k : Nat} (h : iaP k = true) : k < kP.1 := iaP_cases (P := fun k => k < kP.1) (by decide) h
theorem eiaP (g : GG) (ad : Nat → Nat) (S : ST) {k : Nat} (h : iaP k = true) : ent kP g ad S k = .inl (g.2.1 0, (lnP k, .inl (S.1 k))) := iaP_cases (P := fun k => ent kP g ad S k = .inl (g.2.1 0, (lnP k, .inl (S.1 k)))) (by
  simp only [iaPL, List.forall_mem_cons]
  exact ⟨rfl, rfl, rfl, rfl, fun _ q => absurd q List.not_mem_nil⟩) h
def b_J7_fill_53178P_5 (K5 : Nat → Int32 → Int32 → Int32 → ST → Option ST) (v1 : Nat) (v2 : Int32) (v3 : Int32) (v4 : Int32) (S : ST) : Option ST :=
  if v4 ≤ v3 then (some S) else (chk (ib v3 (lnP v1)) (nm (su S v1 v3.toNatClampNeg v2) fun S4 => nm (v3 + (1 : Int32)) fun x5 => K5 v1 v2 x5 v4 S4))
def f_J7_fill_53178P (a1 : Nat) (a2 : Int32) (S : ST) : Option ST :=
  nm (Int32.ofNat (lnP a1)) fun x1 => lp (fun _ _ _ _ _ => none) (b_J7_fill_53178P_5) 1000 a1 a2 ((0 : Int32)) x1 S
set_option maxHeartbeats 4000000 in
set_option maxRecDepth 100000 in
theorem kb_J7_fill_53178P_5 {p : Program} {l : Launch} {e : Env} {s : State} {m : MethodId} {args : Array Value} {below : List Frame} {meth : Method} {c : Code} {g : GG} {ad : Nat → Nat} {res : ST} {S : ST} (C : CX kP g ad p s m args meth c cJ7_fill_53178 none 4 yJ7_fill_53178.cls (.code yJ7_fill_53178 cJ7_fill_53178 4 none)) {K5 : Nat → Int32 → Int32 → Int32 → ST → Option ST} (hK5 : ∀ {v1 : Nat} {v2 : Int32} {v3 : Int32} {v4 : Int32} {S : ST} {H : Heap} {locs : List Loc} {ls : Array Slot}, K5 v1 v2 v3 v4 S = some res → WX kP g ad s S H locs → lv_has ls 4 [(0, .ref (ad v1)), (1, .int v2), (2, .int v3), (3, .int v4)] → (iaP v1 = true) → W p l e rmJ7_fill_53178 s m args below meth c H locs 0 0 (MQ below (QV kP g ad res (AA kP ad s.heap.size)) args s 0 0 (AA kP ad s.heap.size)) (F0 m 5 ls [])) {v1 : Nat} {v2 : Int32} {v3 : Int32} {v4 : Int32}  {H : Heap} {locs : List Loc} {ls : Array Slot} (h : b_J7_fill_53178P_5 K5 v1 v2 v3 v4 S = some res) (X : WX kP g ad s S H locs) (hl : lv_has ls 4 [(0, .ref (ad v1)), (1, .int v2), (2, .int v3), (3, .int v4)]) (g1 : iaP v1 = true) : W p l e rmJ7_fill_53178 s m args below meth c H locs 0 0 (MQ below (QV kP g ad res (AA kP ad s.heap.size)) args s 0 0 (AA kP ad s.heap.size)) (F0 m 5 ls []) := by
  have hx := C.1.1
  have hb := C.1.2.1
  have h : (if v4 ≤ v3 then (some S) else (chk (ib v3 (lnP v1)) (nm (su S v1 v3.toNatClampNeg v2) fun S4 => nm (v3 + (1 : Int32)) fun x5 => K5 v1 v2 x5 v4 S4)) : Option ST) = some res := h
  refine lv_iload_n hx hb dJ7_fill_53178_5 rfl (lv_at hl 2 rfl) ?_
  refine lv_iload_n hx hb dJ7_fill_53178_6 rfl (lv_at hl 3 rfl) ?_
  refine lv_icmp_ge (tgt := 20) hx hb dJ7_fill_53178_7 (by decide) (fun c2 => ?_) (fun c2 => ?_)
  · have h := ip h c2
    exact rt_v C X rfl (Option.some.inj h) dJ7_fill_53178_20
  · have h := inn h c2
    refine lv_aload_n hx hb dJ7_fill_53178_10 rfl (lv_at hl 0 rfl) ?_
    refine lv_iload_n hx hb dJ7_fill_53178_11 rfl (lv_at hl 2 rfl) ?_
    refine lv_iload_n hx hb dJ7_fill_53178_12 rfl (lv_at hl 1 rfl) ?_
    obtain ⟨k3, h⟩ := chk_s h
    obtain ⟨S4, eS4, h⟩ := nm_s h
    refine g_iast (S' := S4) C X v1 (ltiaP g1) (eiaP g ad S g1) k3 (by subst eS4; rw [eiaP g ad _ g1, su_k]) (by subst eS4; exact fun i hi => ent_offu hi) dJ7_fill_53178_13 (fun H locs X => ?_)
    obtain ⟨x5, ex5, h⟩ := nm_s h
    refine lv_iinc (v := x5) (lv' := [(2, .int x5), (0, .ref (ad v1)), (1, .int v2), (3, .int v4)]) hx hb dJ7_fill_53178_14 hl (k := 2) rfl (by rw [ex5]; rfl) (by decide) rfl (fun ls hl => ?_)
    refine lv_goto (tgt := 5) hx hb dJ7_fill_53178_17 (by decide) ?_
    exact hK5 h X (lv_sub hl [1, 2, 0, 3] rfl) g1
set_option maxHeartbeats 4000000 in
set_option maxRecDepth 100000 in
theorem kl_J7_fill_53178P_5 {p : Program} {l : Launch} {e : Env} {s : State} {m : MethodId} {args : Array Value} {below : List Frame} {meth : Method} {c : Code} {g : GG} {ad : Nat → Nat} {res : ST}  (C : CX kP g ad p s m args meth c cJ7_fill_53178 none 4 yJ7_fill_53178.cls (.code yJ7_fill_53178 cJ7_fill_53178 4 none))  : ∀ (n : Nat) {v1 : Nat} {v2 : Int32} {v3 : Int32} {v4 : Int32} {S : ST} {H : Heap} {locs : List Loc} {ls : Array Slot}, (lp (fun _ _ _ _ _ => none) (b_J7_fill_53178P_5)) n v1 v2 v3 v4 S = some res → WX kP g ad s S H locs → lv_has ls 4 [(0, .ref (ad v1)), (1, .int v2), (2, .int v3), (3, .int v4)] → (iaP v1 = true) → W p l e rmJ7_fill_53178 s m args below meth c H locs 0 0 (MQ below (QV kP g ad res (AA kP ad s.heap.size)) args s 0 0 (AA kP ad s.heap.size)) (F0 m 5 ls []) := by
  intro n
  induction n with
  | zero =>
    intro v1 v2 v3 v4 S H locs ls h
    cases (show (none : Option ST) = some res from h)
  | succ n ih =>
    intro v1 v2 v3 v4 S H locs ls h X hl g1
    exact kb_J7_fill_53178P_5 C ih h X hl g1
set_option maxHeartbeats 4000000 in
set_option maxRecDepth 100000 in
theorem c_J7_fill_53178P (l : Launch) (g : GG) (ad : Nat → Nat) (S : ST) (sz : Nat) (a1 : Nat) (a2 : Int32) (f1 : iaP a1 = true) {res : ST} (h : f_J7_fill_53178P a1 a2 S = some res) : Met l yJ7_fill_53178 (WS (.code yJ7_fill_53178 cJ7_fill_53178 4 none)) rmJ7_fill_53178 (va_Pc [.ref (ad a1), .int a2] (PW kP g ad S sz)) (QV kP g ad res (AA kP ad sz)) 0 0 (AA kP ad sz) := by
  refine go_m (Qc := fun A => QV kP g ad res A) (by decide) (Nat.le_of_ble_eq_true rfl) (fun p e s m below meth c ls H locs C X hl => ?_)
  have hx := C.1.1
  have hb := C.1.2.1
  have hl : lv_has ls 4 [(0, .ref (ad a1)), (1, .int a2)] := hl
  have h : (nm (Int32.ofNat (lnP a1)) fun x1 => lp (fun _ _ _ _ _ => none) (b_J7_fill_53178P_5) 1000 a1 a2 ((0 : Int32)) x1 S : Option ST) = some res := h
  refine lv_iconst (v := (0 : Int32)) hx hb dJ7_fill_53178_0 (by decide) ?_
  refine lv_istore_n (lv' := [(2, .int ((0 : Int32))), (0, .ref (ad a1)), (1, .int a2)]) hx hb dJ7_fill_53178_1 rfl hl (by decide) rfl (fun ls hl => ?_)
  refine lv_aload_n hx hb dJ7_fill_53178_2 rfl (lv_at hl 1 rfl) ?_
  refine g_alen C X a1 0 (ltiaP f1) (eiaP g ad S f1) rfl (v := Int32.ofNat (lnP a1)) (by first | rfl | decide) dJ7_fill_53178_3 ?_
  obtain ⟨x1, ex1, h⟩ := nm_s h
  refine tp_i ex1 ?_
  refine lv_istore_n (lv' := [(3, .int x1), (2, .int ((0 : Int32))), (0, .ref (ad a1)), (1, .int a2)]) hx hb dJ7_fill_53178_4 rfl hl (by decide) rfl (fun ls hl => ?_)
  exact kl_J7_fill_53178P_5 C _ h X (lv_sub hl [2, 3, 1, 0] rfl) f1
def f_X3_clearP  (S : ST) : Option ST :=
  nm (if ((9 : Int32)) < ((9 : Int32)) then ((9 : Int32)) else ((9 : Int32))) fun x1 => chk (cpk ((0 : Int32)) ((0 : Int32)) x1 9 9) (nm (sr S 1 (va_cpy (fun j => (sal 0).getD j 0) (S.1 1) ((0 : Int32)).toNatClampNeg ((0 : Int32)).toNatClampNeg x1.toNatClampNeg)) fun S3 => bn1 (f_J7_fill_53178P 2 ((200 : Int32)) S3) fun S4 => bn1 (f_J7_fill_53178P 3 ((0 : Int32)) S4) fun S5 => bn1 (f_J7_fill_53178P 4 ((0 : Int32)) S5) fun S6 => some S6)
set_option maxHeartbeats 4000000 in
set_option maxRecDepth 100000 in
theorem c_X3_clearP (l : Launch) (g : GG) (ad : Nat → Nat) (S : ST) (sz : Nat)   {res : ST} (h : f_X3_clearP S = some res) : Met l yX3_clear (WS (.code yX3_clear cX3_clear 1 none)) rmX3_clear (va_Pc [.ref (ad 0)] (PW kP g ad S sz)) (QV kP g ad res (AA kP ad sz)) 0 0 (AA kP ad sz) := by
  refine go_m (Qc := fun A => QV kP g ad res A) (by decide) (Nat.le_of_ble_eq_true rfl) (fun p e s m below meth c ls H locs C X hl => ?_)
  have hx := C.1.1
  have hb := C.1.2.1
  have hl : lv_has ls 1 [(0, .ref (ad 0))] := hl
  have h : (nm (if ((9 : Int32)) < ((9 : Int32)) then ((9 : Int32)) else ((9 : Int32))) fun x1 => chk (cpk ((0 : Int32)) ((0 : Int32)) x1 9 9) (nm (sr S 1 (va_cpy (fun j => (sal 0).getD j 0) (S.1 1) ((0 : Int32)).toNatClampNeg ((0 : Int32)).toNatClampNeg x1.toNatClampNeg)) fun S3 => bn1 (f_J7_fill_53178P 2 ((200 : Int32)) S3) fun S4 => bn1 (f_J7_fill_53178P 3 ((0 : Int32)) S4) fun S5 => bn1 (f_J7_fill_53178P 4 ((0 : Int32)) S5) fun S6 => some S6) : Option ST) = some res := h
  refine g_gets C X 0 rfl wd_152 dX3_clear_0 ?_
  refine lv_iconst (v := (0 : Int32)) hx hb dX3_clear_3 (by decide) ?_
  refine lv_aload_n hx hb dX3_clear_4 rfl (lv_at hl 0 rfl) ?_
  refine g_get C X inT3 0 (by decide) (eP_0 g ad S) rfl 0 (by decide) wd_163 (v := .ref (ad 1)) rfl dX3_clear_5 ?_
  refine lv_iconst (v := (0 : Int32)) hx hb dX3_clear_8 (by decide) ?_
  refine g_gets C X 0 rfl wd_152 dX3_clear_9 ?_
  refine g_slen C X 0 rfl (v := (9 : Int32)) rfl dX3_clear_12 ?_
  refine lv_aload_n hx hb dX3_clear_13 rfl (lv_at hl 0 rfl) ?_
  refine g_get C X inT3 0 (by decide) (eP_0 g ad S) rfl 0 (by decide) wd_163 (v := .ref (ad 1)) rfl dX3_clear_14 ?_
  refine g_alen C X 1 0 (by decide) (eP_1 g ad S) rfl (v := (9 : Int32)) (by first | rfl | decide) dX3_clear_17 ?_
  refine va_mmin hx hb (C.1.2.2.2.2.1.trans hl.1.symm) C.1.2.2.2.2.2.1 (C.1.2.2.2.2.2.2 _ (ws_in wd_154)) (C.1.2.2.2.2.2.2 _ (ws_in wd_155)) (C.1.2.2.2.2.2.2 _ (ws_in wd_74)) (C.1.2.2.2.2.2.2 _ (ws_in wd_156)) (Nat.le_of_ble_eq_true rfl) (Nat.le_of_ble_eq_true rfl) (Nat.zero_le _) (Nat.zero_le _) dX3_clear_18 ?_
  obtain ⟨x1, ex1, h⟩ := nm_s h
  refine tp_i ex1 ?_
  obtain ⟨k2, h⟩ := chk_s h
  obtain ⟨S3, eS3, h⟩ := nm_s h
  refine g_cpyS (S' := S3) C X hl.1 wd_157 nat_cp wd_158 wd_75 0 rfl 1 (by decide) (eP_1 g ad S) k2 (by subst eS3; rfl) (by subst eS3; exact fun i hi => ent_off hi) (Nat.le_of_ble_eq_true rfl) (Nat.le_of_ble_eq_true rfl) dX3_clear_21 (fun H locs X => ?_)
  refine lv_aload_n hx hb dX3_clear_24 rfl (lv_at hl 0 rfl) ?_
  refine g_get C X inT3 0 (by decide) (eP_0 g ad S3) rfl 1 (by decide) wd_165 (v := .ref (ad 2)) rfl dX3_clear_25 ?_
  refine lv_sipush (v := (200 : Int32)) hx hb dX3_clear_28 (by decide) ?_
  obtain ⟨S4, qS4, h⟩ := bn1_s h
  refine kc_v X (res := S4) (rS (As := [.ref (ad 2), .int ((200 : Int32))]) (rest := []) (n := 2) C X (c_J7_fill_53178P l g ad S3 _ 2 ((200 : Int32)) (by decide) qS4) wd_160 wd_161 wd_76 wd_162 rfl rfl (by decide +kernel) ⟨Nat.le_of_ble_eq_true rfl, Nat.le_of_ble_eq_true rfl⟩ rfl hl.1 (lv_room (Nat.le_of_ble_eq_true rfl)) dX3_clear_31) (fun H locs X => ?_)
  refine lv_aload_n hx hb dX3_clear_34 rfl (lv_at hl 0 rfl) ?_
  refine g_get C X inT3 0 (by decide) (eP_0 g ad S4) rfl 2 (by decide) wd_167 (v := .ref (ad 3)) rfl dX3_clear_35 ?_
  refine lv_iconst (v := (0 : Int32)) hx hb dX3_clear_38 (by decide) ?_
  obtain ⟨S5, qS5, h⟩ := bn1_s h
  refine kc_v X (res := S5) (rS (As := [.ref (ad 3), .int ((0 : Int32))]) (rest := []) (n := 2) C X (c_J7_fill_53178P l g ad S4 _ 3 ((0 : Int32)) (by decide) qS5) wd_160 wd_161 wd_76 wd_162 rfl rfl (by decide +kernel) ⟨Nat.le_of_ble_eq_true rfl, Nat.le_of_ble_eq_true rfl⟩ rfl hl.1 (lv_room (Nat.le_of_ble_eq_true rfl)) dX3_clear_39) (fun H locs X => ?_)
  refine lv_aload_n hx hb dX3_clear_42 rfl (lv_at hl 0 rfl) ?_
  refine g_get C X inT3 0 (by decide) (eP_0 g ad S5) rfl 3 (by decide) wd_169 (v := .ref (ad 4)) rfl dX3_clear_43 ?_
  refine lv_iconst (v := (0 : Int32)) hx hb dX3_clear_46 (by decide) ?_
  obtain ⟨S6, qS6, h⟩ := bn1_s h
  refine kc_v X (res := S6) (rS (As := [.ref (ad 4), .int ((0 : Int32))]) (rest := []) (n := 2) C X (c_J7_fill_53178P l g ad S5 _ 4 ((0 : Int32)) (by decide) qS6) wd_160 wd_161 wd_76 wd_162 rfl rfl (by decide +kernel) ⟨Nat.le_of_ble_eq_true rfl, Nat.le_of_ble_eq_true rfl⟩ rfl hl.1 (lv_room (Nat.le_of_ble_eq_true rfl)) dX3_clear_47) (fun H locs X => ?_)
  exact rt_v C X rfl (Option.some.inj h) dX3_clear_50

def SP00 : ST := (fun _ _ => 0, 0)
theorem opt_get {α : Type} {o : Option α} {d : α} (h : o.isSome = true) : o = some (o.getD d) := by
  cases o with
  | none => cases h
  | some x => rfl
theorem SP0_ex : ∃ P : ST, f_X3_clearP SP00 = some P ∧ (∀ j, j < 9 → P.1 1 j = (sal 0).getD j 0) ∧ (∀ j, j < 24 → P.1 2 j = 200) ∧ (∀ j, j < 24 → P.1 3 j = 0) ∧ ∀ j, j < 12 → P.1 4 j = 0 :=
  ⟨(f_X3_clearP SP00).getD SP00, opt_get (by decide +kernel), by decide +kernel, by decide +kernel, by decide +kernel, by decide +kernel⟩
noncomputable def SP0 : ST := Classical.choose SP0_ex
theorem SP0_ok : f_X3_clearP SP00 = some SP0 := (Classical.choose_spec SP0_ex).1
theorem SP0_at : (∀ j, j < 9 → SP0.1 1 j = (sal 0).getD j 0) ∧ (∀ j, j < 24 → SP0.1 2 j = 200) ∧ (∀ j, j < 24 → SP0.1 3 j = 0) ∧ ∀ j, j < 12 → SP0.1 4 j = 0 := (Classical.choose_spec SP0_ex).2
def rmX7_init : Room := { frames := 1, cells := 1, slots := 300, locals := 20 }
noncomputable def p_X7_init (g : GG) (h0 : Nat) : (Nat → Nat) → va_W := fun u => [(h0, .inr (7, [.ref (u 1), .int 0])), (u 1, .inl (g.2.1 0, (300, .inl (fun _ => 0))))]
set_option maxHeartbeats 16000000 in
set_option maxRecDepth 100000 in
theorem c_X7_init (l : Launch) (g : GG) (h0 : Nat) (sz : Nat) : Met l yX7_init (WS (.code yX7_init cX7_init 1 none)) rmX7_init (va_Pc [.ref h0] (PI g [(h0, .inr (7, [.null, .int 0]))] sz)) (QC g (p_X7_init g h0) (va_A [(h0, .inr (7, [.null, .int 0]))] sz)) 1 300 (va_A [(h0, .inr (7, [.null, .int 0]))] sz) := by
  refine go_c (Qc := fun A => QC g (p_X7_init g h0) A) (by decide) rfl (Nat.le_of_ble_eq_true rfl) (fun p e s m below meth c ls H locs C X hl => ?_)
  generalize va_A [(h0, .inr (7, [.null, .int 0]))] s.heap.size = A at C X ⊢
  have hl : lv_has ls 1 [(0, .ref h0)] := hl
  refine lv_aload_n C.1.1 C.1.2.1 dX7_init_0 rfl (lv_at hl 0 rfl) ?_
  refine n_obj C wd_102 wd_95 wd_96 hl.1 dX7_init_1 (Nat.le_of_ble_eq_true rfl) (Nat.le_of_ble_eq_true rfl) ?_
  refine lv_aload_n C.1.1 C.1.2.1 dX7_init_4 rfl (lv_at hl 0 rfl) ?_
  refine lv_sipush (v := (300 : Int32)) C.1.1 C.1.2.1 dX7_init_5 (by decide) ?_
  refine n_newa (N' := 300) C X wd_110 (by decide) (by decide) (by decide) (Nat.le_of_ble_eq_true rfl) (Nat.le_of_ble_eq_true rfl) dX7_init_8 (fun q1 H X => ?_)
  have X : WI g A s [(h0, .inr (7, [.null, .int 0])), (q1, .inl (g.2.1 0, (300, .inl (fun _ => 0))))] H locs := X
  refine n_putF (v := .ref q1) C X inT7 tyX7 tyX7_ok nmX7 0 rfl rfl 0 (by decide) wd_103 rfl rfl rfl rfl (Nat.le_of_ble_eq_true rfl) dX7_init_10 (fun H locs X => ?_)
  have X : WI g A s [(h0, .inr (7, [.ref q1, .int 0])), (q1, .inl (g.2.1 0, (300, .inl (fun _ => 0))))] H locs := X
  exact n_ret C X (fun k => ([h0, q1] : List Nat).getD k 0) [0, 1] rfl (by decide) dX7_init_13

def rmX4_init : Room := { frames := 1, cells := 0, slots := 0, locals := 20 }
noncomputable def p_X4_init (g : GG) (h0 : Nat) (h1 : Nat) : (Nat → Nat) → va_W := fun u => [(h0, .inr (4, [.ref h1, .int 0, .int 0, .int 0, .int 0, .int 0, .int 0, .int 0]))]
set_option maxHeartbeats 16000000 in
set_option maxRecDepth 100000 in
theorem c_X4_init (l : Launch) (g : GG) (h0 : Nat) (h1 : Nat) (sz : Nat) : Met l yX4_init (WS (.code yX4_init cX4_init 2 none)) rmX4_init (va_Pc [.ref h0, .ref h1] (PI g [(h0, .inr (4, [.null, .int 0, .int 0, .int 0, .int 0, .int 0, .int 0, .int 0]))] sz)) (QC g (p_X4_init g h0 h1) (va_A [(h0, .inr (4, [.null, .int 0, .int 0, .int 0, .int 0, .int 0, .int 0, .int 0]))] sz)) 0 0 (va_A [(h0, .inr (4, [.null, .int 0, .int 0, .int 0, .int 0, .int 0, .int 0, .int 0]))] sz) := by
  refine go_c (Qc := fun A => QC g (p_X4_init g h0 h1) A) (by decide) rfl (Nat.le_of_ble_eq_true rfl) (fun p e s m below meth c ls H locs C X hl => ?_)
  generalize va_A [(h0, .inr (4, [.null, .int 0, .int 0, .int 0, .int 0, .int 0, .int 0, .int 0]))] s.heap.size = A at C X ⊢
  have hl : lv_has ls 2 [(0, .ref h0), (1, .ref h1)] := hl
  refine lv_aload_n C.1.1 C.1.2.1 dX4_init_0 rfl (lv_at hl 0 rfl) ?_
  refine n_obj C wd_116 wd_95 wd_96 hl.1 dX4_init_1 (Nat.le_of_ble_eq_true rfl) (Nat.le_of_ble_eq_true rfl) ?_
  refine lv_aload_n C.1.1 C.1.2.1 dX4_init_4 rfl (lv_at hl 0 rfl) ?_
  refine lv_aload_n C.1.1 C.1.2.1 dX4_init_5 rfl (lv_at hl 1 rfl) ?_
  refine n_putF (v := .ref h1) C X inT4 tyX4 tyX4_ok nmX4 0 rfl rfl 0 (by decide) wd_117 rfl rfl rfl rfl (Nat.le_of_ble_eq_true rfl) dX4_init_6 (fun H locs X => ?_)
  have X : WI g A s [(h0, .inr (4, [.ref h1, .int 0, .int 0, .int 0, .int 0, .int 0, .int 0, .int 0]))] H locs := X
  exact n_ret C X (fun k => ([h0] : List Nat).getD k 0) [0] rfl (by decide) dX4_init_9

def rmX6_init : Room := { frames := 1, cells := 1, slots := 5, locals := 20 }
noncomputable def p_X6_init (g : GG) (h0 : Nat) : (Nat → Nat) → va_W := fun u => [(h0, .inr (6, [.ref (u 1)])), (u 1, .inl (g.2.1 0, (5, .inl (fun _ => 0))))]
set_option maxHeartbeats 16000000 in
set_option maxRecDepth 100000 in
theorem c_X6_init (l : Launch) (g : GG) (h0 : Nat) (sz : Nat) : Met l yX6_init (WS (.code yX6_init cX6_init 1 none)) rmX6_init (va_Pc [.ref h0] (PI g [(h0, .inr (6, [.null]))] sz)) (QC g (p_X6_init g h0) (va_A [(h0, .inr (6, [.null]))] sz)) 1 5 (va_A [(h0, .inr (6, [.null]))] sz) := by
  refine go_c (Qc := fun A => QC g (p_X6_init g h0) A) (by decide) rfl (Nat.le_of_ble_eq_true rfl) (fun p e s m below meth c ls H locs C X hl => ?_)
  generalize va_A [(h0, .inr (6, [.null]))] s.heap.size = A at C X ⊢
  have hl : lv_has ls 1 [(0, .ref h0)] := hl
  refine lv_aload_n C.1.1 C.1.2.1 dX6_init_0 rfl (lv_at hl 0 rfl) ?_
  refine n_obj C wd_186 wd_95 wd_96 hl.1 dX6_init_1 (Nat.le_of_ble_eq_true rfl) (Nat.le_of_ble_eq_true rfl) ?_
  refine lv_aload_n C.1.1 C.1.2.1 dX6_init_4 rfl (lv_at hl 0 rfl) ?_
  refine lv_iconst (v := (5 : Int32)) C.1.1 C.1.2.1 dX6_init_5 (by decide) ?_
  refine n_newa (N' := 5) C X wd_110 (by decide) (by decide) (by decide) (Nat.le_of_ble_eq_true rfl) (Nat.le_of_ble_eq_true rfl) dX6_init_6 (fun q1 H X => ?_)
  have X : WI g A s [(h0, .inr (6, [.null])), (q1, .inl (g.2.1 0, (5, .inl (fun _ => 0))))] H locs := X
  refine n_putF (v := .ref q1) C X inT6 tyX6 tyX6_ok nmX6 0 rfl rfl 0 (by decide) wd_187 rfl rfl rfl rfl (Nat.le_of_ble_eq_true rfl) dX6_init_8 (fun H locs X => ?_)
  have X : WI g A s [(h0, .inr (6, [.ref q1])), (q1, .inl (g.2.1 0, (5, .inl (fun _ => 0))))] H locs := X
  exact n_ret C X (fun k => ([h0, q1] : List Nat).getD k 0) [0, 1] rfl (by decide) dX6_init_11

def rmX5_init : Room := { frames := 1, cells := 2, slots := 14, locals := 20 }
noncomputable def p_X5_init (g : GG) (h0 : Nat) : (Nat → Nat) → va_W := fun u => [(h0, .inr (5, [.ref (u 1), .ref (u 2), .int 0, .int 0])), (u 1, .inl (g.2.1 0, (5, .inl (fun _ => 0)))), (u 2, .inl (g.2.1 0, (9, .inl (fun _ => 0))))]
set_option maxHeartbeats 16000000 in
set_option maxRecDepth 100000 in
theorem c_X5_init (l : Launch) (g : GG) (h0 : Nat) (sz : Nat) : Met l yX5_init (WS (.code yX5_init cX5_init 1 none)) rmX5_init (va_Pc [.ref h0] (PI g [(h0, .inr (5, [.null, .null, .int 0, .int 0]))] sz)) (QC g (p_X5_init g h0) (va_A [(h0, .inr (5, [.null, .null, .int 0, .int 0]))] sz)) 2 14 (va_A [(h0, .inr (5, [.null, .null, .int 0, .int 0]))] sz) := by
  refine go_c (Qc := fun A => QC g (p_X5_init g h0) A) (by decide) rfl (Nat.le_of_ble_eq_true rfl) (fun p e s m below meth c ls H locs C X hl => ?_)
  generalize va_A [(h0, .inr (5, [.null, .null, .int 0, .int 0]))] s.heap.size = A at C X ⊢
  have hl : lv_has ls 1 [(0, .ref h0)] := hl
  refine lv_aload_n C.1.1 C.1.2.1 dX5_init_0 rfl (lv_at hl 0 rfl) ?_
  refine n_obj C wd_197 wd_95 wd_96 hl.1 dX5_init_1 (Nat.le_of_ble_eq_true rfl) (Nat.le_of_ble_eq_true rfl) ?_
  refine lv_aload_n C.1.1 C.1.2.1 dX5_init_4 rfl (lv_at hl 0 rfl) ?_
  refine lv_iconst (v := (5 : Int32)) C.1.1 C.1.2.1 dX5_init_5 (by decide) ?_
  refine n_newa (N' := 5) C X wd_110 (by decide) (by decide) (by decide) (Nat.le_of_ble_eq_true rfl) (Nat.le_of_ble_eq_true rfl) dX5_init_6 (fun q1 H X => ?_)
  have X : WI g A s [(h0, .inr (5, [.null, .null, .int 0, .int 0])), (q1, .inl (g.2.1 0, (5, .inl (fun _ => 0))))] H locs := X
  refine n_putF (v := .ref q1) C X inT5 tyX5 tyX5_ok nmX5 0 rfl rfl 0 (by decide) wd_198 rfl rfl rfl rfl (Nat.le_of_ble_eq_true rfl) dX5_init_8 (fun H locs X => ?_)
  have X : WI g A s [(h0, .inr (5, [.ref q1, .null, .int 0, .int 0])), (q1, .inl (g.2.1 0, (5, .inl (fun _ => 0))))] H locs := X
  refine lv_aload_n C.1.1 C.1.2.1 dX5_init_11 rfl (lv_at hl 0 rfl) ?_
  refine lv_bipush (v := (9 : Int32)) C.1.1 C.1.2.1 dX5_init_12 (by decide) ?_
  refine n_newa (N' := 9) C X wd_110 (by decide) (by decide) (by decide) (Nat.le_of_ble_eq_true rfl) (Nat.le_of_ble_eq_true rfl) dX5_init_14 (fun q2 H X => ?_)
  have X : WI g A s [(h0, .inr (5, [.ref q1, .null, .int 0, .int 0])), (q1, .inl (g.2.1 0, (5, .inl (fun _ => 0)))), (q2, .inl (g.2.1 0, (9, .inl (fun _ => 0))))] H locs := X
  refine n_putF (v := .ref q2) C X inT5 tyX5 tyX5_ok nmX5 0 rfl rfl 1 (by decide) wd_199 rfl rfl rfl rfl (Nat.le_of_ble_eq_true rfl) dX5_init_16 (fun H locs X => ?_)
  have X : WI g A s [(h0, .inr (5, [.ref q1, .ref q2, .int 0, .int 0])), (q1, .inl (g.2.1 0, (5, .inl (fun _ => 0)))), (q2, .inl (g.2.1 0, (9, .inl (fun _ => 0))))] H locs := X
  exact n_ret C X (fun k => ([h0, q1, q2] : List Nat).getD k 0) [0, 1, 2] rfl (by decide) dX5_init_19

def rmX2_init : Room := { frames := 1, cells := 0, slots := 0, locals := 20 }
noncomputable def p_X2_init (g : GG) (h0 : Nat) : (Nat → Nat) → va_W := fun u => [(h0, .inr (2, [.int 0, .int 0, .int 0]))]
set_option maxHeartbeats 16000000 in
set_option maxRecDepth 100000 in
theorem c_X2_init (l : Launch) (g : GG) (h0 : Nat) (sz : Nat) : Met l yX2_init (WS (.code yX2_init cX2_init 1 none)) rmX2_init (va_Pc [.ref h0] (PI g [(h0, .inr (2, [.int 0, .int 0, .int 0]))] sz)) (QC g (p_X2_init g h0) (va_A [(h0, .inr (2, [.int 0, .int 0, .int 0]))] sz)) 0 0 (va_A [(h0, .inr (2, [.int 0, .int 0, .int 0]))] sz) := by
  refine go_c (Qc := fun A => QC g (p_X2_init g h0) A) (by decide) rfl (Nat.le_of_ble_eq_true rfl) (fun p e s m below meth c ls H locs C X hl => ?_)
  generalize va_A [(h0, .inr (2, [.int 0, .int 0, .int 0]))] s.heap.size = A at C X ⊢
  have hl : lv_has ls 1 [(0, .ref h0)] := hl
  refine lv_aload_n C.1.1 C.1.2.1 dX2_init_0 rfl (lv_at hl 0 rfl) ?_
  refine n_obj C wd_218 wd_95 wd_96 hl.1 dX2_init_1 (Nat.le_of_ble_eq_true rfl) (Nat.le_of_ble_eq_true rfl) ?_
  exact n_ret C X (fun k => ([h0] : List Nat).getD k 0) [0] rfl (by decide) dX2_init_4

def rmX8_init : Room := { frames := 1, cells := 0, slots := 0, locals := 20 }
noncomputable def p_X8_init (g : GG) (h0 : Nat) : (Nat → Nat) → va_W := fun u => [(h0, .inr (8, [.int 0, .int 0, .int 0, .int 0, .int 0]))]
set_option maxHeartbeats 16000000 in
set_option maxRecDepth 100000 in
theorem c_X8_init (l : Launch) (g : GG) (h0 : Nat) (sz : Nat) : Met l yX8_init (WS (.code yX8_init cX8_init 1 none)) rmX8_init (va_Pc [.ref h0] (PI g [(h0, .inr (8, [.int 0, .int 0, .int 0, .int 0, .int 0]))] sz)) (QC g (p_X8_init g h0) (va_A [(h0, .inr (8, [.int 0, .int 0, .int 0, .int 0, .int 0]))] sz)) 0 0 (va_A [(h0, .inr (8, [.int 0, .int 0, .int 0, .int 0, .int 0]))] sz) := by
  refine go_c (Qc := fun A => QC g (p_X8_init g h0) A) (by decide) rfl (Nat.le_of_ble_eq_true rfl) (fun p e s m below meth c ls H locs C X hl => ?_)
  generalize va_A [(h0, .inr (8, [.int 0, .int 0, .int 0, .int 0, .int 0]))] s.heap.size = A at C X ⊢
  have hl : lv_has ls 1 [(0, .ref h0)] := hl
  refine lv_aload_n C.1.1 C.1.2.1 dX8_init_0 rfl (lv_at hl 0 rfl) ?_
  refine n_obj C wd_356 wd_95 wd_96 hl.1 dX8_init_1 (Nat.le_of_ble_eq_true rfl) (Nat.le_of_ble_eq_true rfl) ?_
  exact n_ret C X (fun k => ([h0] : List Nat).getD k 0) [0] rfl (by decide) dX8_init_4

def rmX0_init : Room := { frames := 1, cells := 0, slots := 0, locals := 20 }
noncomputable def p_X0_init (g : GG) (h0 : Nat) (h1 h2 : Nat) : (Nat → Nat) → va_W := fun u => [(h0, .inr (0, [.ref h1, .ref h2, .int 0, .int 0, .int 0, .int 0, .int 0, .int 0, .int 0, .int 0, .int 0, .int 0, .int 0, .int 0, .int 0, .int 0, .int 0]))]
set_option maxHeartbeats 16000000 in
set_option maxRecDepth 100000 in
theorem c_X0_init (l : Launch) (g : GG) (h0 : Nat) (h1 h2 : Nat) (sz : Nat) : Met l yX0_init (WS (.code yX0_init cX0_init 3 none)) rmX0_init (va_Pc [.ref h0, .ref h1, .ref h2] (PI g [(h0, .inr (0, [.null, .null, .int 0, .int 0, .int 0, .int 0, .int 0, .int 0, .int 0, .int 0, .int 0, .int 0, .int 0, .int 0, .int 0, .int 0, .int 0]))] sz)) (QC g (p_X0_init g h0 h1 h2) (va_A [(h0, .inr (0, [.null, .null, .int 0, .int 0, .int 0, .int 0, .int 0, .int 0, .int 0, .int 0, .int 0, .int 0, .int 0, .int 0, .int 0, .int 0, .int 0]))] sz)) 0 0 (va_A [(h0, .inr (0, [.null, .null, .int 0, .int 0, .int 0, .int 0, .int 0, .int 0, .int 0, .int 0, .int 0, .int 0, .int 0, .int 0, .int 0, .int 0, .int 0]))] sz) := by
  refine go_c (Qc := fun A => QC g (p_X0_init g h0 h1 h2) A) (by decide) rfl (Nat.le_of_ble_eq_true rfl) (fun p e s m below meth c ls H locs C X hl => ?_)
  generalize va_A [(h0, .inr (0, [.null, .null, .int 0, .int 0, .int 0, .int 0, .int 0, .int 0, .int 0, .int 0, .int 0, .int 0, .int 0, .int 0, .int 0, .int 0, .int 0]))] s.heap.size = A at C X ⊢
  have hl : lv_has ls 3 [(0, .ref h0), (1, .ref h1), (2, .ref h2)] := hl
  refine lv_aload_n C.1.1 C.1.2.1 dX0_init_0 rfl (lv_at hl 0 rfl) ?_
  refine n_obj C wd_285 wd_95 wd_96 hl.1 dX0_init_1 (Nat.le_of_ble_eq_true rfl) (Nat.le_of_ble_eq_true rfl) ?_
  refine lv_aload_n C.1.1 C.1.2.1 dX0_init_4 rfl (lv_at hl 0 rfl) ?_
  refine lv_aload_n C.1.1 C.1.2.1 dX0_init_5 rfl (lv_at hl 1 rfl) ?_
  refine n_putF (v := .ref h1) C X inT0 tyX0 tyX0_ok nmX0 0 rfl rfl 0 (by decide) wd_286 rfl rfl rfl rfl (Nat.le_of_ble_eq_true rfl) dX0_init_6 (fun H locs X => ?_)
  have X : WI g A s [(h0, .inr (0, [.ref h1, .null, .int 0, .int 0, .int 0, .int 0, .int 0, .int 0, .int 0, .int 0, .int 0, .int 0, .int 0, .int 0, .int 0, .int 0, .int 0]))] H locs := X
  refine lv_aload_n C.1.1 C.1.2.1 dX0_init_9 rfl (lv_at hl 0 rfl) ?_
  refine lv_aload_n C.1.1 C.1.2.1 dX0_init_10 rfl (lv_at hl 2 rfl) ?_
  refine n_putF (v := .ref h2) C X inT0 tyX0 tyX0_ok nmX0 0 rfl rfl 1 (by decide) wd_287 rfl rfl rfl rfl (Nat.le_of_ble_eq_true rfl) dX0_init_11 (fun H locs X => ?_)
  have X : WI g A s [(h0, .inr (0, [.ref h1, .ref h2, .int 0, .int 0, .int 0, .int 0, .int 0, .int 0, .int 0, .int 0, .int 0, .int 0, .int 0, .int 0, .int 0, .int 0, .int 0]))] H locs := X
  exact n_ret C X (fun k => ([h0] : List Nat).getD k 0) [0] rfl (by decide) dX0_init_14

def rmX1_init : Room := { frames := 2, cells := 8, slots := 1410, locals := 40 }
noncomputable def p_X1_init (g : GG) (h0 : Nat) : (Nat → Nat) → va_W := fun u => [(h0, .inr (1, [.ref (u 1), .ref (u 2), .ref (u 3), .ref (u 4), .ref (u 5), .ref (u 6), .ref (u 7), .ref (u 8), .int 0, .int 0, .int 0, .int 0, .int 0])), (u 1, .inr (2, [.int 0, .int 0, .int 0])), (u 2, .inl (g.2.1 0, (201, .inl (fun _ => 0)))), (u 3, .inl (g.2.1 0, (201, .inl (fun _ => 0)))), (u 4, .inl (g.2.1 0, (201, .inl (fun _ => 0)))), (u 5, .inl (g.2.1 0, (201, .inl (fun _ => 0)))), (u 6, .inl (g.2.1 0, (201, .inl (fun _ => 0)))), (u 7, .inl (g.2.1 0, (201, .inl (fun _ => 0)))), (u 8, .inl (g.2.1 0, (201, .inl (fun _ => 0))))]
set_option maxHeartbeats 16000000 in
set_option maxRecDepth 100000 in
theorem c_X1_init (l : Launch) (g : GG) (h0 : Nat) (sz : Nat) : Met l yX1_init (WS (.code yX1_init cX1_init 1 none)) rmX1_init (va_Pc [.ref h0] (PI g [(h0, .inr (1, [.null, .null, .null, .null, .null, .null, .null, .null, .int 0, .int 0, .int 0, .int 0, .int 0]))] sz)) (QC g (p_X1_init g h0) (va_A [(h0, .inr (1, [.null, .null, .null, .null, .null, .null, .null, .null, .int 0, .int 0, .int 0, .int 0, .int 0]))] sz)) 8 1410 (va_A [(h0, .inr (1, [.null, .null, .null, .null, .null, .null, .null, .null, .int 0, .int 0, .int 0, .int 0, .int 0]))] sz) := by
  refine go_c (Qc := fun A => QC g (p_X1_init g h0) A) (by decide) rfl (Nat.le_of_ble_eq_true rfl) (fun p e s m below meth c ls H locs C X hl => ?_)
  generalize va_A [(h0, .inr (1, [.null, .null, .null, .null, .null, .null, .null, .null, .int 0, .int 0, .int 0, .int 0, .int 0]))] s.heap.size = A at C X ⊢
  have hl : lv_has ls 1 [(0, .ref h0)] := hl
  refine lv_aload_n C.1.1 C.1.2.1 dX1_init_0 rfl (lv_at hl 0 rfl) ?_
  refine n_obj C wd_237 wd_95 wd_96 hl.1 dX1_init_1 (Nat.le_of_ble_eq_true rfl) (Nat.le_of_ble_eq_true rfl) ?_
  refine lv_aload_n C.1.1 C.1.2.1 dX1_init_4 rfl (lv_at hl 0 rfl) ?_
  refine n_new (ci := 2) (fs := [.int 0, .int 0, .int 0]) C X inT2 tyX2 tyX2_ok wd_238 wd_214 wd_79 rfl (fun j hj => by rcases (show j = 0 ∨ j = 1 ∨ j = 2 by omega) with rfl | rfl | rfl <;> rfl) (Nat.le_of_ble_eq_true rfl) (Nat.le_of_ble_eq_true rfl) dX1_init_5 (fun q1 H X => ?_)
  have X : WI g A s [(h0, .inr (1, [.null, .null, .null, .null, .null, .null, .null, .null, .int 0, .int 0, .int 0, .int 0, .int 0])), (q1, .inr (2, [.int 0, .int 0, .int 0]))] H locs := X
  refine lv_dup C.1.1 C.1.2.1 dX1_init_8 rfl ?_
  refine n_initN (As := []) (rest := [.ref q1, .ref h0]) (n := 0) (post := p_X2_init g q1) C X [(q1, .inr (2, [.int 0, .int 0, .int 0]))] [(h0, .inr (1, [.null, .null, .null, .null, .null, .null, .null, .null, .int 0, .int 0, .int 0, .int 0, .int 0]))] [1] [0] (c_X2_init l g q1 _) nw_239 wd_216 wd_79 wd_217 rfl rfl rfl (by decide) (by decide) (by decide) rfl rfl (by decide +kernel) ⟨Nat.le_of_ble_eq_true rfl, Nat.le_of_ble_eq_true rfl⟩ rfl hl.1 (lv_room (Nat.le_of_ble_eq_true rfl)) dX1_init_9 ⟨Nat.le_of_ble_eq_true rfl, Nat.le_of_ble_eq_true rfl⟩ (fun u2 H locs X => ?_)
  have X : WI g A s [(h0, .inr (1, [.null, .null, .null, .null, .null, .null, .null, .null, .int 0, .int 0, .int 0, .int 0, .int 0])), (q1, .inr (2, [.int 0, .int 0, .int 0]))] H locs := X
  refine n_putF (v := .ref q1) C X inT1 tyX1 tyX1_ok nmX1 0 rfl rfl 0 (by decide) wd_240 rfl rfl rfl rfl (Nat.le_of_ble_eq_true rfl) dX1_init_12 (fun H locs X => ?_)
  have X : WI g A s [(h0, .inr (1, [.ref q1, .null, .null, .null, .null, .null, .null, .null, .int 0, .int 0, .int 0, .int 0, .int 0])), (q1, .inr (2, [.int 0, .int 0, .int 0]))] H locs := X
  refine lv_aload_n C.1.1 C.1.2.1 dX1_init_15 rfl (lv_at hl 0 rfl) ?_
  refine lv_sipush (v := (201 : Int32)) C.1.1 C.1.2.1 dX1_init_16 (by decide) ?_
  refine n_newa (N' := 201) C X wd_110 (by decide) (by decide) (by decide) (Nat.le_of_ble_eq_true rfl) (Nat.le_of_ble_eq_true rfl) dX1_init_19 (fun q3 H X => ?_)
  have X : WI g A s [(h0, .inr (1, [.ref q1, .null, .null, .null, .null, .null, .null, .null, .int 0, .int 0, .int 0, .int 0, .int 0])), (q1, .inr (2, [.int 0, .int 0, .int 0])), (q3, .inl (g.2.1 0, (201, .inl (fun _ => 0))))] H locs := X
  refine n_putF (v := .ref q3) C X inT1 tyX1 tyX1_ok nmX1 0 rfl rfl 1 (by decide) wd_241 rfl rfl rfl rfl (Nat.le_of_ble_eq_true rfl) dX1_init_21 (fun H locs X => ?_)
  have X : WI g A s [(h0, .inr (1, [.ref q1, .ref q3, .null, .null, .null, .null, .null, .null, .int 0, .int 0, .int 0, .int 0, .int 0])), (q1, .inr (2, [.int 0, .int 0, .int 0])), (q3, .inl (g.2.1 0, (201, .inl (fun _ => 0))))] H locs := X
  refine lv_aload_n C.1.1 C.1.2.1 dX1_init_24 rfl (lv_at hl 0 rfl) ?_
  refine lv_sipush (v := (201 : Int32)) C.1.1 C.1.2.1 dX1_init_25 (by decide) ?_
  refine n_newa (N' := 201) C X wd_110 (by decide) (by decide) (by decide) (Nat.le_of_ble_eq_true rfl) (Nat.le_of_ble_eq_true rfl) dX1_init_28 (fun q4 H X => ?_)
  have X : WI g A s [(h0, .inr (1, [.ref q1, .ref q3, .null, .null, .null, .null, .null, .null, .int 0, .int 0, .int 0, .int 0, .int 0])), (q1, .inr (2, [.int 0, .int 0, .int 0])), (q3, .inl (g.2.1 0, (201, .inl (fun _ => 0)))), (q4, .inl (g.2.1 0, (201, .inl (fun _ => 0))))] H locs := X
  refine n_putF (v := .ref q4) C X inT1 tyX1 tyX1_ok nmX1 0 rfl rfl 2 (by decide) wd_242 rfl rfl rfl rfl (Nat.le_of_ble_eq_true rfl) dX1_init_30 (fun H locs X => ?_)
  have X : WI g A s [(h0, .inr (1, [.ref q1, .ref q3, .ref q4, .null, .null, .null, .null, .null, .int 0, .int 0, .int 0, .int 0, .int 0])), (q1, .inr (2, [.int 0, .int 0, .int 0])), (q3, .inl (g.2.1 0, (201, .inl (fun _ => 0)))), (q4, .inl (g.2.1 0, (201, .inl (fun _ => 0))))] H locs := X
  refine lv_aload_n C.1.1 C.1.2.1 dX1_init_33 rfl (lv_at hl 0 rfl) ?_
  refine lv_sipush (v := (201 : Int32)) C.1.1 C.1.2.1 dX1_init_34 (by decide) ?_
  refine n_newa (N' := 201) C X wd_110 (by decide) (by decide) (by decide) (Nat.le_of_ble_eq_true rfl) (Nat.le_of_ble_eq_true rfl) dX1_init_37 (fun q5 H X => ?_)
  have X : WI g A s [(h0, .inr (1, [.ref q1, .ref q3, .ref q4, .null, .null, .null, .null, .null, .int 0, .int 0, .int 0, .int 0, .int 0])), (q1, .inr (2, [.int 0, .int 0, .int 0])), (q3, .inl (g.2.1 0, (201, .inl (fun _ => 0)))), (q4, .inl (g.2.1 0, (201, .inl (fun _ => 0)))), (q5, .inl (g.2.1 0, (201, .inl (fun _ => 0))))] H locs := X
  refine n_putF (v := .ref q5) C X inT1 tyX1 tyX1_ok nmX1 0 rfl rfl 3 (by decide) wd_243 rfl rfl rfl rfl (Nat.le_of_ble_eq_true rfl) dX1_init_39 (fun H locs X => ?_)
  have X : WI g A s [(h0, .inr (1, [.ref q1, .ref q3, .ref q4, .ref q5, .null, .null, .null, .null, .int 0, .int 0, .int 0, .int 0, .int 0])), (q1, .inr (2, [.int 0, .int 0, .int 0])), (q3, .inl (g.2.1 0, (201, .inl (fun _ => 0)))), (q4, .inl (g.2.1 0, (201, .inl (fun _ => 0)))), (q5, .inl (g.2.1 0, (201, .inl (fun _ => 0))))] H locs := X
  refine lv_aload_n C.1.1 C.1.2.1 dX1_init_42 rfl (lv_at hl 0 rfl) ?_
  refine lv_sipush (v := (201 : Int32)) C.1.1 C.1.2.1 dX1_init_43 (by decide) ?_
  refine n_newa (N' := 201) C X wd_110 (by decide) (by decide) (by decide) (Nat.le_of_ble_eq_true rfl) (Nat.le_of_ble_eq_true rfl) dX1_init_46 (fun q6 H X => ?_)
  have X : WI g A s [(h0, .inr (1, [.ref q1, .ref q3, .ref q4, .ref q5, .null, .null, .null, .null, .int 0, .int 0, .int 0, .int 0, .int 0])), (q1, .inr (2, [.int 0, .int 0, .int 0])), (q3, .inl (g.2.1 0, (201, .inl (fun _ => 0)))), (q4, .inl (g.2.1 0, (201, .inl (fun _ => 0)))), (q5, .inl (g.2.1 0, (201, .inl (fun _ => 0)))), (q6, .inl (g.2.1 0, (201, .inl (fun _ => 0))))] H locs := X
  refine n_putF (v := .ref q6) C X inT1 tyX1 tyX1_ok nmX1 0 rfl rfl 4 (by decide) wd_244 rfl rfl rfl rfl (Nat.le_of_ble_eq_true rfl) dX1_init_48 (fun H locs X => ?_)
  have X : WI g A s [(h0, .inr (1, [.ref q1, .ref q3, .ref q4, .ref q5, .ref q6, .null, .null, .null, .int 0, .int 0, .int 0, .int 0, .int 0])), (q1, .inr (2, [.int 0, .int 0, .int 0])), (q3, .inl (g.2.1 0, (201, .inl (fun _ => 0)))), (q4, .inl (g.2.1 0, (201, .inl (fun _ => 0)))), (q5, .inl (g.2.1 0, (201, .inl (fun _ => 0)))), (q6, .inl (g.2.1 0, (201, .inl (fun _ => 0))))] H locs := X
  refine lv_aload_n C.1.1 C.1.2.1 dX1_init_51 rfl (lv_at hl 0 rfl) ?_
  refine lv_sipush (v := (201 : Int32)) C.1.1 C.1.2.1 dX1_init_52 (by decide) ?_
  refine n_newa (N' := 201) C X wd_110 (by decide) (by decide) (by decide) (Nat.le_of_ble_eq_true rfl) (Nat.le_of_ble_eq_true rfl) dX1_init_55 (fun q7 H X => ?_)
  have X : WI g A s [(h0, .inr (1, [.ref q1, .ref q3, .ref q4, .ref q5, .ref q6, .null, .null, .null, .int 0, .int 0, .int 0, .int 0, .int 0])), (q1, .inr (2, [.int 0, .int 0, .int 0])), (q3, .inl (g.2.1 0, (201, .inl (fun _ => 0)))), (q4, .inl (g.2.1 0, (201, .inl (fun _ => 0)))), (q5, .inl (g.2.1 0, (201, .inl (fun _ => 0)))), (q6, .inl (g.2.1 0, (201, .inl (fun _ => 0)))), (q7, .inl (g.2.1 0, (201, .inl (fun _ => 0))))] H locs := X
  refine n_putF (v := .ref q7) C X inT1 tyX1 tyX1_ok nmX1 0 rfl rfl 5 (by decide) wd_245 rfl rfl rfl rfl (Nat.le_of_ble_eq_true rfl) dX1_init_57 (fun H locs X => ?_)
  have X : WI g A s [(h0, .inr (1, [.ref q1, .ref q3, .ref q4, .ref q5, .ref q6, .ref q7, .null, .null, .int 0, .int 0, .int 0, .int 0, .int 0])), (q1, .inr (2, [.int 0, .int 0, .int 0])), (q3, .inl (g.2.1 0, (201, .inl (fun _ => 0)))), (q4, .inl (g.2.1 0, (201, .inl (fun _ => 0)))), (q5, .inl (g.2.1 0, (201, .inl (fun _ => 0)))), (q6, .inl (g.2.1 0, (201, .inl (fun _ => 0)))), (q7, .inl (g.2.1 0, (201, .inl (fun _ => 0))))] H locs := X
  refine lv_aload_n C.1.1 C.1.2.1 dX1_init_60 rfl (lv_at hl 0 rfl) ?_
  refine lv_sipush (v := (201 : Int32)) C.1.1 C.1.2.1 dX1_init_61 (by decide) ?_
  refine n_newa (N' := 201) C X wd_110 (by decide) (by decide) (by decide) (Nat.le_of_ble_eq_true rfl) (Nat.le_of_ble_eq_true rfl) dX1_init_64 (fun q8 H X => ?_)
  have X : WI g A s [(h0, .inr (1, [.ref q1, .ref q3, .ref q4, .ref q5, .ref q6, .ref q7, .null, .null, .int 0, .int 0, .int 0, .int 0, .int 0])), (q1, .inr (2, [.int 0, .int 0, .int 0])), (q3, .inl (g.2.1 0, (201, .inl (fun _ => 0)))), (q4, .inl (g.2.1 0, (201, .inl (fun _ => 0)))), (q5, .inl (g.2.1 0, (201, .inl (fun _ => 0)))), (q6, .inl (g.2.1 0, (201, .inl (fun _ => 0)))), (q7, .inl (g.2.1 0, (201, .inl (fun _ => 0)))), (q8, .inl (g.2.1 0, (201, .inl (fun _ => 0))))] H locs := X
  refine n_putF (v := .ref q8) C X inT1 tyX1 tyX1_ok nmX1 0 rfl rfl 6 (by decide) wd_246 rfl rfl rfl rfl (Nat.le_of_ble_eq_true rfl) dX1_init_66 (fun H locs X => ?_)
  have X : WI g A s [(h0, .inr (1, [.ref q1, .ref q3, .ref q4, .ref q5, .ref q6, .ref q7, .ref q8, .null, .int 0, .int 0, .int 0, .int 0, .int 0])), (q1, .inr (2, [.int 0, .int 0, .int 0])), (q3, .inl (g.2.1 0, (201, .inl (fun _ => 0)))), (q4, .inl (g.2.1 0, (201, .inl (fun _ => 0)))), (q5, .inl (g.2.1 0, (201, .inl (fun _ => 0)))), (q6, .inl (g.2.1 0, (201, .inl (fun _ => 0)))), (q7, .inl (g.2.1 0, (201, .inl (fun _ => 0)))), (q8, .inl (g.2.1 0, (201, .inl (fun _ => 0))))] H locs := X
  refine lv_aload_n C.1.1 C.1.2.1 dX1_init_69 rfl (lv_at hl 0 rfl) ?_
  refine lv_sipush (v := (201 : Int32)) C.1.1 C.1.2.1 dX1_init_70 (by decide) ?_
  refine n_newa (N' := 201) C X wd_110 (by decide) (by decide) (by decide) (Nat.le_of_ble_eq_true rfl) (Nat.le_of_ble_eq_true rfl) dX1_init_73 (fun q9 H X => ?_)
  have X : WI g A s [(h0, .inr (1, [.ref q1, .ref q3, .ref q4, .ref q5, .ref q6, .ref q7, .ref q8, .null, .int 0, .int 0, .int 0, .int 0, .int 0])), (q1, .inr (2, [.int 0, .int 0, .int 0])), (q3, .inl (g.2.1 0, (201, .inl (fun _ => 0)))), (q4, .inl (g.2.1 0, (201, .inl (fun _ => 0)))), (q5, .inl (g.2.1 0, (201, .inl (fun _ => 0)))), (q6, .inl (g.2.1 0, (201, .inl (fun _ => 0)))), (q7, .inl (g.2.1 0, (201, .inl (fun _ => 0)))), (q8, .inl (g.2.1 0, (201, .inl (fun _ => 0)))), (q9, .inl (g.2.1 0, (201, .inl (fun _ => 0))))] H locs := X
  refine n_putF (v := .ref q9) C X inT1 tyX1 tyX1_ok nmX1 0 rfl rfl 7 (by decide) wd_247 rfl rfl rfl rfl (Nat.le_of_ble_eq_true rfl) dX1_init_75 (fun H locs X => ?_)
  have X : WI g A s [(h0, .inr (1, [.ref q1, .ref q3, .ref q4, .ref q5, .ref q6, .ref q7, .ref q8, .ref q9, .int 0, .int 0, .int 0, .int 0, .int 0])), (q1, .inr (2, [.int 0, .int 0, .int 0])), (q3, .inl (g.2.1 0, (201, .inl (fun _ => 0)))), (q4, .inl (g.2.1 0, (201, .inl (fun _ => 0)))), (q5, .inl (g.2.1 0, (201, .inl (fun _ => 0)))), (q6, .inl (g.2.1 0, (201, .inl (fun _ => 0)))), (q7, .inl (g.2.1 0, (201, .inl (fun _ => 0)))), (q8, .inl (g.2.1 0, (201, .inl (fun _ => 0)))), (q9, .inl (g.2.1 0, (201, .inl (fun _ => 0))))] H locs := X
  exact n_ret C X (fun k => ([h0, q1, q3, q4, q5, q6, q7, q8, q9] : List Nat).getD k 0) [0, 1, 2, 3, 4, 5, 6, 7, 8] rfl (by decide) dX1_init_78

def rmX3_init : Room := { frames := 2, cells := 4, slots := 69, locals := 60 }
noncomputable def p_X3_init (g : GG) (h0 : Nat) : (Nat → Nat) → va_W := fun u => [(h0, .inr (3, [.ref (u 1), .ref (u 2), .ref (u 3), .ref (u 4)])), (u 1, .inl (g.2.1 0, (9, .inl (SP0.1 1)))), (u 2, .inl (g.2.1 0, (24, .inl (SP0.1 2)))), (u 3, .inl (g.2.1 0, (24, .inl (SP0.1 3)))), (u 4, .inl (g.2.1 0, (12, .inl (SP0.1 4))))]
set_option maxHeartbeats 16000000 in
set_option maxRecDepth 100000 in
theorem c_X3_init (l : Launch) (g : GG) (h0 : Nat) (sz : Nat) : Met l yX3_init (WS (.code yX3_init cX3_init 1 none)) rmX3_init (va_Pc [.ref h0] (PI g [(h0, .inr (3, [.null, .null, .null, .null]))] sz)) (QC g (p_X3_init g h0) (va_A [(h0, .inr (3, [.null, .null, .null, .null]))] sz)) 4 69 (va_A [(h0, .inr (3, [.null, .null, .null, .null]))] sz) := by
  refine go_c (Qc := fun A => QC g (p_X3_init g h0) A) (by decide) rfl (Nat.le_of_ble_eq_true rfl) (fun p e s m below meth c ls H locs C X hl => ?_)
  generalize va_A [(h0, .inr (3, [.null, .null, .null, .null]))] s.heap.size = A at C X ⊢
  have hl : lv_has ls 1 [(0, .ref h0)] := hl
  refine lv_aload_n C.1.1 C.1.2.1 dX3_init_0 rfl (lv_at hl 0 rfl) ?_
  refine n_obj C wd_147 wd_95 wd_96 hl.1 dX3_init_1 (Nat.le_of_ble_eq_true rfl) (Nat.le_of_ble_eq_true rfl) ?_
  refine lv_aload_n C.1.1 C.1.2.1 dX3_init_4 rfl (lv_at hl 0 rfl) ?_
  refine lv_bipush (v := (9 : Int32)) C.1.1 C.1.2.1 dX3_init_5 (by decide) ?_
  refine n_newa (N' := 9) C X wd_110 (by decide) (by decide) (by decide) (Nat.le_of_ble_eq_true rfl) (Nat.le_of_ble_eq_true rfl) dX3_init_7 (fun q1 H X => ?_)
  have X : WI g A s [(h0, .inr (3, [.null, .null, .null, .null])), (q1, .inl (g.2.1 0, (9, .inl (fun _ => 0))))] H locs := X
  refine n_putF (v := .ref q1) C X inT3 tyX3 tyX3_ok nmX3 0 rfl rfl 0 (by decide) wd_163 rfl rfl rfl rfl (Nat.le_of_ble_eq_true rfl) dX3_init_9 (fun H locs X => ?_)
  have X : WI g A s [(h0, .inr (3, [.ref q1, .null, .null, .null])), (q1, .inl (g.2.1 0, (9, .inl (fun _ => 0))))] H locs := X
  refine lv_aload_n C.1.1 C.1.2.1 dX3_init_12 rfl (lv_at hl 0 rfl) ?_
  refine lv_bipush (v := (24 : Int32)) C.1.1 C.1.2.1 dX3_init_13 (by decide) ?_
  refine n_newa (N' := 24) C X wd_110 (by decide) (by decide) (by decide) (Nat.le_of_ble_eq_true rfl) (Nat.le_of_ble_eq_true rfl) dX3_init_15 (fun q2 H X => ?_)
  have X : WI g A s [(h0, .inr (3, [.ref q1, .null, .null, .null])), (q1, .inl (g.2.1 0, (9, .inl (fun _ => 0)))), (q2, .inl (g.2.1 0, (24, .inl (fun _ => 0))))] H locs := X
  refine n_putF (v := .ref q2) C X inT3 tyX3 tyX3_ok nmX3 0 rfl rfl 1 (by decide) wd_165 rfl rfl rfl rfl (Nat.le_of_ble_eq_true rfl) dX3_init_17 (fun H locs X => ?_)
  have X : WI g A s [(h0, .inr (3, [.ref q1, .ref q2, .null, .null])), (q1, .inl (g.2.1 0, (9, .inl (fun _ => 0)))), (q2, .inl (g.2.1 0, (24, .inl (fun _ => 0))))] H locs := X
  refine lv_aload_n C.1.1 C.1.2.1 dX3_init_20 rfl (lv_at hl 0 rfl) ?_
  refine lv_bipush (v := (24 : Int32)) C.1.1 C.1.2.1 dX3_init_21 (by decide) ?_
  refine n_newa (N' := 24) C X wd_110 (by decide) (by decide) (by decide) (Nat.le_of_ble_eq_true rfl) (Nat.le_of_ble_eq_true rfl) dX3_init_23 (fun q3 H X => ?_)
  have X : WI g A s [(h0, .inr (3, [.ref q1, .ref q2, .null, .null])), (q1, .inl (g.2.1 0, (9, .inl (fun _ => 0)))), (q2, .inl (g.2.1 0, (24, .inl (fun _ => 0)))), (q3, .inl (g.2.1 0, (24, .inl (fun _ => 0))))] H locs := X
  refine n_putF (v := .ref q3) C X inT3 tyX3 tyX3_ok nmX3 0 rfl rfl 2 (by decide) wd_167 rfl rfl rfl rfl (Nat.le_of_ble_eq_true rfl) dX3_init_25 (fun H locs X => ?_)
  have X : WI g A s [(h0, .inr (3, [.ref q1, .ref q2, .ref q3, .null])), (q1, .inl (g.2.1 0, (9, .inl (fun _ => 0)))), (q2, .inl (g.2.1 0, (24, .inl (fun _ => 0)))), (q3, .inl (g.2.1 0, (24, .inl (fun _ => 0))))] H locs := X
  refine lv_aload_n C.1.1 C.1.2.1 dX3_init_28 rfl (lv_at hl 0 rfl) ?_
  refine lv_bipush (v := (12 : Int32)) C.1.1 C.1.2.1 dX3_init_29 (by decide) ?_
  refine n_newa (N' := 12) C X wd_110 (by decide) (by decide) (by decide) (Nat.le_of_ble_eq_true rfl) (Nat.le_of_ble_eq_true rfl) dX3_init_31 (fun q4 H X => ?_)
  have X : WI g A s [(h0, .inr (3, [.ref q1, .ref q2, .ref q3, .null])), (q1, .inl (g.2.1 0, (9, .inl (fun _ => 0)))), (q2, .inl (g.2.1 0, (24, .inl (fun _ => 0)))), (q3, .inl (g.2.1 0, (24, .inl (fun _ => 0)))), (q4, .inl (g.2.1 0, (12, .inl (fun _ => 0))))] H locs := X
  refine n_putF (v := .ref q4) C X inT3 tyX3 tyX3_ok nmX3 0 rfl rfl 3 (by decide) wd_169 rfl rfl rfl rfl (Nat.le_of_ble_eq_true rfl) dX3_init_33 (fun H locs X => ?_)
  have X : WI g A s [(h0, .inr (3, [.ref q1, .ref q2, .ref q3, .ref q4])), (q1, .inl (g.2.1 0, (9, .inl (fun _ => 0)))), (q2, .inl (g.2.1 0, (24, .inl (fun _ => 0)))), (q3, .inl (g.2.1 0, (24, .inl (fun _ => 0)))), (q4, .inl (g.2.1 0, (12, .inl (fun _ => 0))))] H locs := X
  refine lv_aload_n C.1.1 C.1.2.1 dX3_init_36 rfl (lv_at hl 0 rfl) ?_
  refine n_meth (ad := (fun k => ([h0, q1, q2, q3, q4] : List Nat).getD k 0)) (K := kP) (S := SP00) (res := SP0) (k := 0) (As := []) (rest := []) (n := 0) C X [0, 1, 2, 3, 4] (c_X3_clearP l g (fun k => ([h0, q1, q2, q3, q4] : List Nat).getD k 0) SP00 _ SP0_ok) wd_148 wd_149 wd_150 wd_73 wd_151 rfl (by decide) (by decide) (eP_0 g _ SP00) rfl rfl rfl (by decide +kernel) ⟨Nat.le_of_ble_eq_true rfl, Nat.le_of_ble_eq_true rfl⟩ rfl hl.1 (lv_room (Nat.le_of_ble_eq_true rfl)) dX3_init_37 ⟨Nat.le_of_ble_eq_true rfl, Nat.le_of_ble_eq_true rfl⟩ (fun H locs X => ?_)
  exact n_ret C X (fun k => ([h0, q1, q2, q3, q4] : List Nat).getD k 0) [0, 1, 2, 3, 4] rfl (by decide) dX3_init_40

