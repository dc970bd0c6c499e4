def LX (g : GG) (K1 : WK) (ad1 : Nat → Nat) (S1 : ST) (K2 : WK) (ad2 : Nat → Nat) (S2 : ST) (s : State) (H : Heap) (locs : List Loc) : Prop :=
  va_P g.1 vwCl (Wld K1 g ad1 S1) H ∧ va_P g.1 vwCl (Wld K2 g ad2 S2) H ∧ va_D (fun q => s.heap.size ≤ q) (Wld K1 g ad1 S1) ∧ va_D (fun q => s.heap.size ≤ q) (Wld K2 g ad2 S2) ∧ (∀ i j, i < K1.1 → j < K2.1 → ad1 i ≠ ad2 j) ∧ va_S (fun q => s.heap.size ≤ q) s.heap H locs
theorem LX.swap {g : GG} {K1 K2 : WK} {ad1 ad2 : Nat → Nat} {S1 S2 : ST} {s : State} {H : Heap} {locs : List Loc} (X : LX g K1 ad1 S1 K2 ad2 S2 s H locs) : LX g K2 ad2 S2 K1 ad1 S1 s H locs := ⟨X.2.1, X.1, X.2.2.2.1, X.2.2.1, fun i j hi hj e => X.2.2.2.2.1 j i hj hi e.symm, X.2.2.2.2.2⟩
theorem lw_V {own C : String} {idx n : Nat} {y : MethodName} {b : ByteArray} {r : Option FieldType} (h1 : Cond.methodLink own idx y ∈ TB) (h2 : Cond.instanceMethod y ∈ TB) (h3 : Cond.selects C y y ∈ TB) (h4 : Cond.initialized C ∈ TB) (h5 : Cond.code y b n r ∈ TB) : GoodIn lw_tbl (wsV own idx C y (WS (.code y b n r))) := by
  intro w hw
  have h := ws_V (c0 := .code y b n r) h1 h2 h3 h4 h5 w hw
  refine ⟨?_, h.2⟩
  rcases List.mem_cons.mp h.1 with e | e
  · rw [e]; exact tb_lw h5
  · exact tb_lw e
theorem lw_G {c1 : Cond} (h : c1 ∈ TB) : GoodIn lw_tbl (WS c1) := fun w hw => (List.mem_cons.mp hw).elim (fun e => by subst e; exact ⟨tb_lw h, good_of_word (tb_good h)⟩) (fun q => ⟨tb_lw q, good_of_word (tb_good q)⟩)
section LR
variable {p : Program} {l : Launch} {e : Env} {R : Room} {s : State} {m : MethodId} {args : Array Value} {below : List Frame} {meth : Method} {c : Code} {H : Heap} {locs : List Loc} {Q : State → Prop} {g : GG} {K1 K2 : WK} {ad1 ad2 : Nat → Nat} {S1 S2 : ST} {cc : ByteArray} {nL : Nat} {own : String} {pc cells slots : Nat} {ls : Array Slot} {rest : List Value}
set_option maxHeartbeats 1000000 in
theorem l_call (hx : p.tables.exec = Jvm.exec) (hb : c.code = cc) (hml : c.maxLocals = nL) (hown : s.vm.findClass own = some m.cls) (hts : ∀ w ∈ lw_tbl, w.before args s = true) (hK : va_K g.1 vwCl (TYg g) s) (hE : EV g (fun q => s.heap.size ≤ q) s s.heap) (X : LX g K1 ad1 S1 K2 ad2 S2 s H locs)
    {y : MethodName} {b : ByteArray} {maxL n index ci : Nat} {rt : Option FieldType} {rm : Room} {As fs : List Value} {q : vw_C} {res : Int32 × ST}
    (hM : Met l y (WS (.code y b maxL rt)) rm (va_Pc (.ref (ad1 0) :: As) (PW K1 g ad1 S1 H.size)) (QI K1 g ad1 res (AA K1 ad1 H.size)) 0 0 (AA K1 ad1 H.size)) (h1 : Cond.methodLink own index y ∈ TB) (h2 : Cond.instanceMethod y ∈ TB) (h3 : Cond.selects q.1 y y ∈ TB) (h4 : Cond.initialized q.1 ∈ TB) (h5 : Cond.code y b maxL rt ∈ TB)
    (hk : 0 < K1.1) (he : ent K1 g ad1 S1 0 = .inr (ci, fs)) (hc : vwCl[ci]? = some q) (hrc : rm.cells = 0) (hrs : rm.slots = 0) (hd : y.cls = q.1 ∧ (y.cls ≠ "java/lang/invoke/MethodHandle" ∧ y.cls ≠ "java/lang/invoke/VarHandle" ∧ (parseMethodDescriptor y.desc).map (fun d => d.parameters.length) = some n)) (hRm : rm.frames + 1 ≤ R.frames ∧ 8 + (maxL + 11) + rm.locals ≤ R.locals)
    (hn : As.length = n) (hl : ls.size = nL) (hW : 2 * (F0 m pc ls (As.reverse ++ .ref (ad1 0) :: rest)).monitorRoom + (rest.map fun v => v.category).sum ≤ 8) (hdg : decode cc pc = .ok (.invokevirtual index, 3)) (hf : cells ≤ R.cells ∧ slots ≤ R.slots)
    (kk : ∀ (H : Heap) (locs : List Loc), LX g K1 ad1 res.2 K2 ad2 S2 s H locs → W p l e R s m args below meth c H locs cells slots Q (F0 m (pc + 3) ls (.int res.1 :: rest))) : W p l e R s m args below meth c H locs cells slots Q (F0 m pc ls (As.reverse ++ .ref (ad1 0) :: rest)) := by
  obtain ⟨hP1, hP2, hD1, hD2, hne, hS⟩ := X
  have hF : ∀ q, AA K1 ad1 H.size q → s.heap.size ≤ q := fun q h => h.elim (fun ⟨i, hi, e⟩ => by rw [e]; exact hD1.2 i _ (Wld_get hi)) (fun h => Nat.le_trans hS.1 h)
  refine va_calli (va_runV (As := As) (rest := rest) (C := q.1) (b := ad1 0) (nL := nL) (mc := 0) (ms := 0) ⟨hx, hb, hml, hown, hts⟩ hM (cwV n hts (lw_V h1 h2 h3 h4 h5) rfl hrc hrs hd hRm) ⟨pw_blind, va_recv hK hP1 hc (by rw [Wld_get hk, he]), fun U hU hW => ⟨rfl, ?_⟩⟩ rfl hn hl rfl hW hdg hf) hS (fun q _ h => hF q h) hF (fun r u t H1 locs1 ht hvm hw hB hz hk hS => ?_)
  · exact ⟨by rw [hU], by rw [hU]; exact hP1, va_K.moved hW.alike hK, hD1.weaken (fun _ _ _ _ => trivial), EV.to hE hW hU hS.2.1 hF⟩
  · subst hw
    refine kk H1 locs1 ⟨by rw [← ht]; exact hB, hP2.kept (fun k q hq => ?_), Wld_D hD1, hD2, hne, hS⟩
    obtain ⟨hk2, rfl⟩ := Wld_lt hq
    have hlt : ad2 k < H.size := (hP2 k _ hq).lt
    exact hk _ hlt (fun h => h.elim (fun ⟨i, hi, e⟩ => hne i k hi hk2 e.symm) (fun h => Nat.not_le.mpr hlt h))
end LR

set_option maxHeartbeats 16000000 in
set_option maxRecDepth 100000 in
/-- THE LAW'S LOOP: the class and the reference stand in the relation -/
theorem law_loop {p : Program} {l : Launch} {e : Env} {s : State} {m : MethodId} {below : List Frame} {meth : Method} {c : Code} {g : GG} {b L : Nat} {xs : Nat → Int32} {ad am : Nat → Nat} (hL : L ≤ 2048) (C0 : lw_At p s m meth c b L xs) (hK : va_K g.1 vwCl (TYg g) s) (hE : EV g (fun q => s.heap.size ≤ q) s s.heap) :
    ∀ (n i : Nat) (x3 : Int32), L + 1 ≤ i + n → x3 = nI i → i ≤ L → ∀ (S M : ST), Rel S M → ∀ (H : Heap) (locs : List Loc), LX g kC ad S kM am M s H locs → ∀ (ls : Array Slot), lv_has ls 4 [(0, .ref b), (1, .ref (ad 0)), (2, .ref (am 0)), (3, .int x3)] → W p l e room_1 s m #[Value.ref b] below meth c H locs 74 3430 (lw_Z below #[Value.ref b] s) (F0 m 18 ls []) := by
  obtain ⟨hx, hb, hr, hml, hown, hts, hX, hbl, hlocks, hgv⟩ := C0
  have hbA : ¬ (fun q : Nat => s.heap.size ≤ q) b := Nat.not_le.mpr hbl
  intro n
  induction n with
  | zero =>
    intro i x3 h1 h2 h3
    exact absurd h1 (by omega)
  | succ n ih =>
    intro i x3 hin ex3 hi S M hR H locs X ls hl
    refine lv_iload_n hx hb dL_law_18 rfl (lv_at hl 3 rfl) ?_
    refine lv_aload_n hx hb dL_law_19 rfl (lv_at hl 0 rfl) ?_
    refine va_slen hx hb hX hbl hbA X.2.2.2.2.2 dL_law_20 ?_
    refine lv_iconst (v := 4) hx hb dL_law_21 (by decide) ?_
    refine lv_isub hx hb dL_law_22 ?_
    refine lv_icmp_gt (tgt := 994) hx hb dL_law_23 (by decide) (fun c_10 => ?_) (fun c_10 => ?_)
    · refine lv_iconst (v := 1) hx hb dL_law_994 (by decide) ?_
      refine va_forget (fun q hq => X.2.2.2.2.2.2.2 q hq) ?_
      refine W.widen (k := 600000) (n := 7302250) (Nat.le_of_ble_eq_true rfl) (Nat.le_of_ble_eq_true rfl) ?_
      exact lw_ret hx hb hr hlocks dL_law_995
    · have h4 : i + 4 ≤ L := by
        have q1 : (nI L - nI 4).toInt = (L : Int) - 4 := pk_sub_toInt (by omega) (by omega)
        have q2 : (nI i).toInt = (i : Int) := nI_toInt (by omega)
        have q3 : ¬ (nI L - nI 4).toInt < x3.toInt := fun q => c_10 (Int32.lt_iff_toInt_lt.mpr q)
        rw [q1, ex3, q2] at q3
        omega
      have i0 : vp_in x3 L := by rw [ex3]; exact vp_in_nI (by omega) (by omega)
      have i1 : vp_in (x3 + 1) L := by rw [ex3, nI_1]; exact vp_in_nI (by omega) (by omega)
      have i2 : vp_in (x3 + 2) L := by rw [ex3]; rw [show nI i + 2 = nI (i + 2) from nI_add i 2]; exact vp_in_nI (by omega) (by omega)
      have i3 : vp_in (x3 + 3) L := by rw [ex3]; rw [show nI i + 3 = nI (i + 3) from nI_add i 3]; exact vp_in_nI (by omega) (by omega)
      have next : ∀ (S M : ST), Rel S M → ∀ (H : Heap) (locs : List Loc), LX g kC ad S kM am M s H locs → W p l e room_1 s m #[Value.ref b] below meth c H locs 74 3430 (lw_Z below #[Value.ref b] s) (F0 m 988 ls []) := by
        intro S M hR H locs X
        obtain ⟨x3_2, ex3_2⟩ : ∃ y : Int32, y = x3 + 4 := ⟨_, rfl⟩
        refine lv_iinc (v := x3_2) (lv' := [(3, .int x3_2), (0, .ref b), (1, .ref (ad 0)), (2, .ref (am 0))]) hx hb dL_law_988 hl (k := 3) rfl (by rw [ex3_2]; rfl) (by decide) rfl (fun ls hl => ?_)
        refine lv_goto (tgt := 18) hx hb dL_law_991 (by decide) ?_
        exact ih (i + 4) x3_2 (by omega) (by rw [ex3_2, ex3]; exact nI_add i 4) h4 S M hR H locs X ls (lv_sub hl [1, 2, 3, 0] rfl)
      refine lv_aload_n hx hb dL_law_26 rfl (lv_at hl 0 rfl) ?_
      refine lv_iload_n hx hb dL_law_27 rfl (lv_at hl 3 rfl) ?_
      refine va_sld hx hb hX hbl hbA X.2.2.2.2.2 i0 dL_law_28 ?_
      refine lv_bipush (v := 31) hx hb dL_law_29 (by decide) ?_
      refine lv_iand hx hb dL_law_31 ?_
      refine lv_topi (fun op eop => ?_)
      by_cases t0 : op = (0 : Int32)
      · refine lv_tableIn (tgt := 168) (off := 136) hx hb dL_law_32 (by rw [t0]; decide) (by rw [t0]; decide) (by rw [t0]; rfl) (by decide) ?_
        refine lv_aload_n hx hb dL_law_168 rfl (lv_at hl 1 rfl) ?_
        refine lv_aload_n hx hb dL_law_169 rfl (lv_at hl 0 rfl) ?_
        refine lv_iload_n hx hb dL_law_170 rfl (lv_at hl 3 rfl) ?_
        refine lv_iconst (v := 1) hx hb dL_law_171 (by decide) ?_
        refine lv_iadd hx hb dL_law_172 ?_
        refine va_sld hx hb hX hbl hbA X.2.2.2.2.2 i1 dL_law_173 ?_
        refine lv_aload_n hx hb dL_law_174 rfl (lv_at hl 0 rfl) ?_
        refine lv_iload_n hx hb dL_law_175 rfl (lv_at hl 3 rfl) ?_
        refine lv_iconst (v := 2) hx hb dL_law_176 (by decide) ?_
        refine lv_iadd hx hb dL_law_177 ?_
        refine va_sld hx hb hX hbl hbA X.2.2.2.2.2 i2 dL_law_178 ?_
        refine lv_i2l hx hb dL_law_179 rfl ?_
        refine lv_bipush (v := 32) hx hb dL_law_180 (by decide) ?_
        refine lv_lshl hx hb dL_law_182 rfl ?_
        refine lv_aload_n hx hb dL_law_183 rfl (lv_at hl 0 rfl) ?_
        refine lv_iload_n hx hb dL_law_184 rfl (lv_at hl 3 rfl) ?_
        refine lv_iconst (v := 3) hx hb dL_law_185 (by decide) ?_
        refine lv_iadd hx hb dL_law_186 ?_
        refine va_sld hx hb hX hbl hbA X.2.2.2.2.2 i3 dL_law_187 ?_
        refine lv_i2l hx hb dL_law_188 rfl ?_
        refine lv_ldc2 (v := 4294967295) hx hb hown (hts _ (tb_lw wd_1490)) dL_law_189 ?_
        refine lv_land hx hb dL_law_192 ?_
        refine lv_lor hx hb dL_law_193 ?_
        obtain ⟨r0, S', M', h9, h10, hR2⟩ := E_feed hR (xs (x3 + 1).toNatClampNeg) ((((xs (x3 + 2).toNatClampNeg).toInt64) <<< ((32 : Int32).toInt64 &&& 63)) ||| (((xs (x3 + 3).toNatClampNeg).toInt64) &&& ((4294967295 : Int64))))
        refine l_call (K1 := kC) (ad1 := ad) (As := [.int (xs (x3 + 1).toNatClampNeg), .long ((((xs (x3 + 2).toNatClampNeg).toInt64) <<< ((32 : Int32).toInt64 &&& 63)) ||| (((xs (x3 + 3).toNatClampNeg).toInt64) &&& ((4294967295 : Int64))))]) (rest := []) (n := 2) (res := (r0, S')) hx hb hml hown hts hK hE X (c_X9_feed l g ad S _ (xs (x3 + 1).toNatClampNeg) ((((xs (x3 + 2).toNatClampNeg).toInt64) <<< ((32 : Int32).toInt64 &&& 63)) ||| (((xs (x3 + 3).toNatClampNeg).toInt64) &&& ((4294967295 : Int64)))) h9) wd_436 wd_437 wd_438 wd_70 wd_439 (by decide) (eC_0 g ad S) rfl rfl rfl (by decide +kernel) ⟨Nat.le_of_ble_eq_true rfl, Nat.le_of_ble_eq_true rfl⟩ rfl hl.1 (lv_room (Nat.le_of_ble_eq_true rfl)) dL_law_194 ⟨Nat.le_of_ble_eq_true rfl, Nat.le_of_ble_eq_true rfl⟩ (fun H locs X => ?_)
        refine lv_aload_n hx hb dL_law_197 rfl (lv_at hl 2 rfl) ?_
        refine lv_aload_n hx hb dL_law_198 rfl (lv_at hl 0 rfl) ?_
        refine lv_iload_n hx hb dL_law_199 rfl (lv_at hl 3 rfl) ?_
        refine lv_iconst (v := 1) hx hb dL_law_200 (by decide) ?_
        refine lv_iadd hx hb dL_law_201 ?_
        refine va_sld hx hb hX hbl hbA X.2.2.2.2.2 i1 dL_law_202 ?_
        refine lv_aload_n hx hb dL_law_203 rfl (lv_at hl 0 rfl) ?_
        refine lv_iload_n hx hb dL_law_204 rfl (lv_at hl 3 rfl) ?_
        refine lv_iconst (v := 2) hx hb dL_law_205 (by decide) ?_
        refine lv_iadd hx hb dL_law_206 ?_
        refine va_sld hx hb hX hbl hbA X.2.2.2.2.2 i2 dL_law_207 ?_
        refine lv_i2l hx hb dL_law_208 rfl ?_
        refine lv_bipush (v := 32) hx hb dL_law_209 (by decide) ?_
        refine lv_lshl hx hb dL_law_211 rfl ?_
        refine lv_aload_n hx hb dL_law_212 rfl (lv_at hl 0 rfl) ?_
        refine lv_iload_n hx hb dL_law_213 rfl (lv_at hl 3 rfl) ?_
        refine lv_iconst (v := 3) hx hb dL_law_214 (by decide) ?_
        refine lv_iadd hx hb dL_law_215 ?_
        refine va_sld hx hb hX hbl hbA X.2.2.2.2.2 i3 dL_law_216 ?_
        refine lv_i2l hx hb dL_law_217 rfl ?_
        refine lv_ldc2 (v := 4294967295) hx hb hown (hts _ (tb_lw wd_1490)) dL_law_218 ?_
        refine lv_land hx hb dL_law_221 ?_
        refine lv_lor hx hb dL_law_222 ?_
        have X := X.swap
        refine l_call (K1 := kM) (ad1 := am) (As := [.int (xs (x3 + 1).toNatClampNeg), .long ((((xs (x3 + 2).toNatClampNeg).toInt64) <<< ((32 : Int32).toInt64 &&& 63)) ||| (((xs (x3 + 3).toNatClampNeg).toInt64) &&& ((4294967295 : Int64))))]) (rest := [.int (r0)]) (n := 2) (res := (r0, M')) hx hb hml hown hts hK hE X (c_X10_feed l g am M _ (xs (x3 + 1).toNatClampNeg) ((((xs (x3 + 2).toNatClampNeg).toInt64) <<< ((32 : Int32).toInt64 &&& 63)) ||| (((xs (x3 + 3).toNatClampNeg).toInt64) &&& ((4294967295 : Int64)))) h10) wd_1146 wd_1147 wd_1148 wd_83 wd_1149 (by decide) (eM_0 g am M) rfl rfl rfl (by decide +kernel) ⟨Nat.le_of_ble_eq_true rfl, Nat.le_of_ble_eq_true rfl⟩ rfl hl.1 (lv_room (Nat.le_of_ble_eq_true rfl)) dL_law_223 ⟨Nat.le_of_ble_eq_true rfl, Nat.le_of_ble_eq_true rfl⟩ (fun H locs X => ?_)
        have X := X.swap
        refine lv_icmp_eq (tgt := 988) hx hb dL_law_226 (by decide) (fun _ => ?_) (fun q => absurd rfl q)
        exact next _ _ hR2 H locs X
      by_cases t1 : op = (1 : Int32)
      · refine lv_tableIn (tgt := 231) (off := 199) hx hb dL_law_32 (by rw [t1]; decide) (by rw [t1]; decide) (by rw [t1]; rfl) (by decide) ?_
        refine lv_aload_n hx hb dL_law_231 rfl (lv_at hl 1 rfl) ?_
        obtain ⟨r1, S', M', h9, h10, hR2⟩ := E_place hR
        refine l_call (K1 := kC) (ad1 := ad) (As := []) (rest := []) (n := 0) (res := (r1, S')) hx hb hml hown hts hK hE X (c_X9_place l g ad S _  h9) wd_451 wd_452 wd_453 wd_70 wd_454 (by decide) (eC_0 g ad S) rfl rfl rfl (by decide +kernel) ⟨Nat.le_of_ble_eq_true rfl, Nat.le_of_ble_eq_true rfl⟩ rfl hl.1 (lv_room (Nat.le_of_ble_eq_true rfl)) dL_law_232 ⟨Nat.le_of_ble_eq_true rfl, Nat.le_of_ble_eq_true rfl⟩ (fun H locs X => ?_)
        refine lv_aload_n hx hb dL_law_235 rfl (lv_at hl 2 rfl) ?_
        have X := X.swap
        refine l_call (K1 := kM) (ad1 := am) (As := []) (rest := [.int (r1)]) (n := 0) (res := (r1, M')) hx hb hml hown hts hK hE X (c_X10_place l g am M _  h10) wd_1157 wd_1158 wd_1159 wd_83 wd_1160 (by decide) (eM_0 g am M) rfl rfl rfl (by decide +kernel) ⟨Nat.le_of_ble_eq_true rfl, Nat.le_of_ble_eq_true rfl⟩ rfl hl.1 (lv_room (Nat.le_of_ble_eq_true rfl)) dL_law_236 ⟨Nat.le_of_ble_eq_true rfl, Nat.le_of_ble_eq_true rfl⟩ (fun H locs X => ?_)
        have X := X.swap
        refine lv_icmp_eq (tgt := 988) hx hb dL_law_239 (by decide) (fun _ => ?_) (fun q => absurd rfl q)
        exact next _ _ hR2 H locs X
      by_cases t2 : op = (2 : Int32)
      · refine lv_tableIn (tgt := 244) (off := 212) hx hb dL_law_32 (by rw [t2]; decide) (by rw [t2]; decide) (by rw [t2]; rfl) (by decide) ?_
        refine lv_aload_n hx hb dL_law_244 rfl (lv_at hl 1 rfl) ?_
        obtain ⟨r2, S', M', h9, h10, hR2⟩ := E_swinger hR
        refine l_call (K1 := kC) (ad1 := ad) (As := []) (rest := []) (n := 0) (res := (r2, S')) hx hb hml hown hts hK hE X (c_X9_swinger l g ad S _  h9) wd_611 wd_612 wd_613 wd_70 wd_614 (by decide) (eC_0 g ad S) rfl rfl rfl (by decide +kernel) ⟨Nat.le_of_ble_eq_true rfl, Nat.le_of_ble_eq_true rfl⟩ rfl hl.1 (lv_room (Nat.le_of_ble_eq_true rfl)) dL_law_245 ⟨Nat.le_of_ble_eq_true rfl, Nat.le_of_ble_eq_true rfl⟩ (fun H locs X => ?_)
        refine lv_aload_n hx hb dL_law_248 rfl (lv_at hl 2 rfl) ?_
        have X := X.swap
        refine l_call (K1 := kM) (ad1 := am) (As := []) (rest := [.int (r2)]) (n := 0) (res := (r2, M')) hx hb hml hown hts hK hE X (c_X10_swinger l g am M _  h10) wd_1227 wd_1228 wd_1229 wd_83 wd_1230 (by decide) (eM_0 g am M) rfl rfl rfl (by decide +kernel) ⟨Nat.le_of_ble_eq_true rfl, Nat.le_of_ble_eq_true rfl⟩ rfl hl.1 (lv_room (Nat.le_of_ble_eq_true rfl)) dL_law_249 ⟨Nat.le_of_ble_eq_true rfl, Nat.le_of_ble_eq_true rfl⟩ (fun H locs X => ?_)
        have X := X.swap
        refine lv_icmp_eq (tgt := 988) hx hb dL_law_252 (by decide) (fun _ => ?_) (fun q => absurd rfl q)
        exact next _ _ hR2 H locs X
      by_cases t3 : op = (3 : Int32)
      · refine lv_tableIn (tgt := 257) (off := 225) hx hb dL_law_32 (by rw [t3]; decide) (by rw [t3]; decide) (by rw [t3]; rfl) (by decide) ?_
        refine lv_aload_n hx hb dL_law_257 rfl (lv_at hl 1 rfl) ?_
        obtain ⟨r3, h9, h10, hR2⟩ := E_fault hR
        refine l_call (K1 := kC) (ad1 := ad) (As := []) (rest := []) (n := 0) (res := (r3, S)) hx hb hml hown hts hK hE X (c_X9_fault l g ad S _  h9) wd_631 wd_632 wd_633 wd_70 wd_634 (by decide) (eC_0 g ad S) rfl rfl rfl (by decide +kernel) ⟨Nat.le_of_ble_eq_true rfl, Nat.le_of_ble_eq_true rfl⟩ rfl hl.1 (lv_room (Nat.le_of_ble_eq_true rfl)) dL_law_258 ⟨Nat.le_of_ble_eq_true rfl, Nat.le_of_ble_eq_true rfl⟩ (fun H locs X => ?_)
        refine lv_aload_n hx hb dL_law_261 rfl (lv_at hl 2 rfl) ?_
        have X := X.swap
        refine l_call (K1 := kM) (ad1 := am) (As := []) (rest := [.int (r3)]) (n := 0) (res := (r3, M)) hx hb hml hown hts hK hE X (c_X10_fault l g am M _  h10) wd_1236 wd_1237 wd_1238 wd_83 wd_1239 (by decide) (eM_0 g am M) rfl rfl rfl (by decide +kernel) ⟨Nat.le_of_ble_eq_true rfl, Nat.le_of_ble_eq_true rfl⟩ rfl hl.1 (lv_room (Nat.le_of_ble_eq_true rfl)) dL_law_262 ⟨Nat.le_of_ble_eq_true rfl, Nat.le_of_ble_eq_true rfl⟩ (fun H locs X => ?_)
        have X := X.swap
        refine lv_icmp_eq (tgt := 988) hx hb dL_law_265 (by decide) (fun _ => ?_) (fun q => absurd rfl q)
        exact next _ _ hR2 H locs X
      by_cases t4 : op = (4 : Int32)
      · refine lv_tableIn (tgt := 270) (off := 238) hx hb dL_law_32 (by rw [t4]; decide) (by rw [t4]; decide) (by rw [t4]; rfl) (by decide) ?_
        refine lv_aload_n hx hb dL_law_270 rfl (lv_at hl 1 rfl) ?_
        refine lv_aload_n hx hb dL_law_271 rfl (lv_at hl 0 rfl) ?_
        refine lv_iload_n hx hb dL_law_272 rfl (lv_at hl 3 rfl) ?_
        refine lv_iconst (v := 1) hx hb dL_law_273 (by decide) ?_
        refine lv_iadd hx hb dL_law_274 ?_
        refine va_sld hx hb hX hbl hbA X.2.2.2.2.2 i1 dL_law_275 ?_
        obtain ⟨r4, h9, h10, hR2⟩ := E_told hR (xs (x3 + 1).toNatClampNeg)
        refine l_call (K1 := kC) (ad1 := ad) (As := [.int (xs (x3 + 1).toNatClampNeg)]) (rest := []) (n := 1) (res := (r4, S)) hx hb hml hown hts hK hE X (c_X9_told l g ad S _ (xs (x3 + 1).toNatClampNeg) h9) wd_635 wd_636 wd_637 wd_70 wd_638 (by decide) (eC_0 g ad S) rfl rfl rfl (by decide +kernel) ⟨Nat.le_of_ble_eq_true rfl, Nat.le_of_ble_eq_true rfl⟩ rfl hl.1 (lv_room (Nat.le_of_ble_eq_true rfl)) dL_law_276 ⟨Nat.le_of_ble_eq_true rfl, Nat.le_of_ble_eq_true rfl⟩ (fun H locs X => ?_)
        refine lv_aload_n hx hb dL_law_279 rfl (lv_at hl 2 rfl) ?_
        refine lv_aload_n hx hb dL_law_280 rfl (lv_at hl 0 rfl) ?_
        refine lv_iload_n hx hb dL_law_281 rfl (lv_at hl 3 rfl) ?_
        refine lv_iconst (v := 1) hx hb dL_law_282 (by decide) ?_
        refine lv_iadd hx hb dL_law_283 ?_
        refine va_sld hx hb hX hbl hbA X.2.2.2.2.2 i1 dL_law_284 ?_
        have X := X.swap
        refine l_call (K1 := kM) (ad1 := am) (As := [.int (xs (x3 + 1).toNatClampNeg)]) (rest := [.int (r4)]) (n := 1) (res := (r4, M)) hx hb hml hown hts hK hE X (c_X10_told l g am M _ (xs (x3 + 1).toNatClampNeg) h10) wd_1240 wd_1241 wd_1242 wd_83 wd_1243 (by decide) (eM_0 g am M) rfl rfl rfl (by decide +kernel) ⟨Nat.le_of_ble_eq_true rfl, Nat.le_of_ble_eq_true rfl⟩ rfl hl.1 (lv_room (Nat.le_of_ble_eq_true rfl)) dL_law_285 ⟨Nat.le_of_ble_eq_true rfl, Nat.le_of_ble_eq_true rfl⟩ (fun H locs X => ?_)
        have X := X.swap
        refine lv_icmp_eq (tgt := 988) hx hb dL_law_288 (by decide) (fun _ => ?_) (fun q => absurd rfl q)
        exact next _ _ hR2 H locs X
      by_cases t5 : op = (5 : Int32)
      · refine lv_tableIn (tgt := 293) (off := 261) hx hb dL_law_32 (by rw [t5]; decide) (by rw [t5]; decide) (by rw [t5]; rfl) (by decide) ?_
        refine lv_aload_n hx hb dL_law_293 rfl (lv_at hl 1 rfl) ?_
        refine lv_aload_n hx hb dL_law_294 rfl (lv_at hl 0 rfl) ?_
        refine lv_iload_n hx hb dL_law_295 rfl (lv_at hl 3 rfl) ?_
        refine lv_iconst (v := 1) hx hb dL_law_296 (by decide) ?_
        refine lv_iadd hx hb dL_law_297 ?_
        refine va_sld hx hb hX hbl hbA X.2.2.2.2.2 i1 dL_law_298 ?_
        refine lv_aload_n hx hb dL_law_299 rfl (lv_at hl 0 rfl) ?_
        refine lv_iload_n hx hb dL_law_300 rfl (lv_at hl 3 rfl) ?_
        refine lv_iconst (v := 2) hx hb dL_law_301 (by decide) ?_
        refine lv_iadd hx hb dL_law_302 ?_
        refine va_sld hx hb hX hbl hbA X.2.2.2.2.2 i2 dL_law_303 ?_
        obtain ⟨r5, h9, h10, hR2⟩ := E_cell hR (xs (x3 + 1).toNatClampNeg) (xs (x3 + 2).toNatClampNeg)
        refine l_call (K1 := kC) (ad1 := ad) (As := [.int (xs (x3 + 1).toNatClampNeg), .int (xs (x3 + 2).toNatClampNeg)]) (rest := []) (n := 2) (res := (r5, S)) hx hb hml hown hts hK hE X (c_X9_cell l g ad S _ (xs (x3 + 1).toNatClampNeg) (xs (x3 + 2).toNatClampNeg) h9) wd_640 wd_641 wd_642 wd_70 wd_643 (by decide) (eC_0 g ad S) rfl rfl rfl (by decide +kernel) ⟨Nat.le_of_ble_eq_true rfl, Nat.le_of_ble_eq_true rfl⟩ rfl hl.1 (lv_room (Nat.le_of_ble_eq_true rfl)) dL_law_304 ⟨Nat.le_of_ble_eq_true rfl, Nat.le_of_ble_eq_true rfl⟩ (fun H locs X => ?_)
        refine lv_aload_n hx hb dL_law_307 rfl (lv_at hl 2 rfl) ?_
        refine lv_aload_n hx hb dL_law_308 rfl (lv_at hl 0 rfl) ?_
        refine lv_iload_n hx hb dL_law_309 rfl (lv_at hl 3 rfl) ?_
        refine lv_iconst (v := 1) hx hb dL_law_310 (by decide) ?_
        refine lv_iadd hx hb dL_law_311 ?_
        refine va_sld hx hb hX hbl hbA X.2.2.2.2.2 i1 dL_law_312 ?_
        refine lv_aload_n hx hb dL_law_313 rfl (lv_at hl 0 rfl) ?_
        refine lv_iload_n hx hb dL_law_314 rfl (lv_at hl 3 rfl) ?_
        refine lv_iconst (v := 2) hx hb dL_law_315 (by decide) ?_
        refine lv_iadd hx hb dL_law_316 ?_
        refine va_sld hx hb hX hbl hbA X.2.2.2.2.2 i2 dL_law_317 ?_
        have X := X.swap
        refine l_call (K1 := kM) (ad1 := am) (As := [.int (xs (x3 + 1).toNatClampNeg), .int (xs (x3 + 2).toNatClampNeg)]) (rest := [.int (r5)]) (n := 2) (res := (r5, M)) hx hb hml hown hts hK hE X (c_X10_cell l g am M _ (xs (x3 + 1).toNatClampNeg) (xs (x3 + 2).toNatClampNeg) h10) wd_1244 wd_1245 wd_1246 wd_83 wd_1247 (by decide) (eM_0 g am M) rfl rfl rfl (by decide +kernel) ⟨Nat.le_of_ble_eq_true rfl, Nat.le_of_ble_eq_true rfl⟩ rfl hl.1 (lv_room (Nat.le_of_ble_eq_true rfl)) dL_law_318 ⟨Nat.le_of_ble_eq_true rfl, Nat.le_of_ble_eq_true rfl⟩ (fun H locs X => ?_)
        have X := X.swap
        refine lv_icmp_eq (tgt := 988) hx hb dL_law_321 (by decide) (fun _ => ?_) (fun q => absurd rfl q)
        exact next _ _ hR2 H locs X
      by_cases t6 : op = (6 : Int32)
      · refine lv_tableIn (tgt := 326) (off := 294) hx hb dL_law_32 (by rw [t6]; decide) (by rw [t6]; decide) (by rw [t6]; rfl) (by decide) ?_
        refine lv_aload_n hx hb dL_law_326 rfl (lv_at hl 1 rfl) ?_
        refine lv_aload_n hx hb dL_law_327 rfl (lv_at hl 0 rfl) ?_
        refine lv_iload_n hx hb dL_law_328 rfl (lv_at hl 3 rfl) ?_
        refine lv_iconst (v := 1) hx hb dL_law_329 (by decide) ?_
        refine lv_iadd hx hb dL_law_330 ?_
        refine va_sld hx hb hX hbl hbA X.2.2.2.2.2 i1 dL_law_331 ?_
        refine lv_aload_n hx hb dL_law_332 rfl (lv_at hl 0 rfl) ?_
        refine lv_iload_n hx hb dL_law_333 rfl (lv_at hl 3 rfl) ?_
        refine lv_iconst (v := 2) hx hb dL_law_334 (by decide) ?_
        refine lv_iadd hx hb dL_law_335 ?_
        refine va_sld hx hb hX hbl hbA X.2.2.2.2.2 i2 dL_law_336 ?_
        obtain ⟨r6, h9, h10, hR2⟩ := E_who hR (xs (x3 + 1).toNatClampNeg) (xs (x3 + 2).toNatClampNeg)
        refine l_call (K1 := kC) (ad1 := ad) (As := [.int (xs (x3 + 1).toNatClampNeg), .int (xs (x3 + 2).toNatClampNeg)]) (rest := []) (n := 2) (res := (r6, S)) hx hb hml hown hts hK hE X (c_X9_who l g ad S _ (xs (x3 + 1).toNatClampNeg) (xs (x3 + 2).toNatClampNeg) h9) wd_667 wd_668 wd_669 wd_70 wd_670 (by decide) (eC_0 g ad S) rfl rfl rfl (by decide +kernel) ⟨Nat.le_of_ble_eq_true rfl, Nat.le_of_ble_eq_true rfl⟩ rfl hl.1 (lv_room (Nat.le_of_ble_eq_true rfl)) dL_law_337 ⟨Nat.le_of_ble_eq_true rfl, Nat.le_of_ble_eq_true rfl⟩ (fun H locs X => ?_)
        refine lv_aload_n hx hb dL_law_340 rfl (lv_at hl 2 rfl) ?_
        refine lv_aload_n hx hb dL_law_341 rfl (lv_at hl 0 rfl) ?_
        refine lv_iload_n hx hb dL_law_342 rfl (lv_at hl 3 rfl) ?_
        refine lv_iconst (v := 1) hx hb dL_law_343 (by decide) ?_
        refine lv_iadd hx hb dL_law_344 ?_
        refine va_sld hx hb hX hbl hbA X.2.2.2.2.2 i1 dL_law_345 ?_
        refine lv_aload_n hx hb dL_law_346 rfl (lv_at hl 0 rfl) ?_
        refine lv_iload_n hx hb dL_law_347 rfl (lv_at hl 3 rfl) ?_
        refine lv_iconst (v := 2) hx hb dL_law_348 (by decide) ?_
        refine lv_iadd hx hb dL_law_349 ?_
        refine va_sld hx hb hX hbl hbA X.2.2.2.2.2 i2 dL_law_350 ?_
        have X := X.swap
        refine l_call (K1 := kM) (ad1 := am) (As := [.int (xs (x3 + 1).toNatClampNeg), .int (xs (x3 + 2).toNatClampNeg)]) (rest := [.int (r6)]) (n := 2) (res := (r6, M)) hx hb hml hown hts hK hE X (c_X10_who l g am M _ (xs (x3 + 1).toNatClampNeg) (xs (x3 + 2).toNatClampNeg) h10) wd_1262 wd_1263 wd_1264 wd_83 wd_1265 (by decide) (eM_0 g am M) rfl rfl rfl (by decide +kernel) ⟨Nat.le_of_ble_eq_true rfl, Nat.le_of_ble_eq_true rfl⟩ rfl hl.1 (lv_room (Nat.le_of_ble_eq_true rfl)) dL_law_351 ⟨Nat.le_of_ble_eq_true rfl, Nat.le_of_ble_eq_true rfl⟩ (fun H locs X => ?_)
        have X := X.swap
        refine lv_icmp_eq (tgt := 988) hx hb dL_law_354 (by decide) (fun _ => ?_) (fun q => absurd rfl q)
        exact next _ _ hR2 H locs X
      by_cases t7 : op = (7 : Int32)
      · refine lv_tableIn (tgt := 359) (off := 327) hx hb dL_law_32 (by rw [t7]; decide) (by rw [t7]; decide) (by rw [t7]; rfl) (by decide) ?_
        refine lv_aload_n hx hb dL_law_359 rfl (lv_at hl 1 rfl) ?_
        refine lv_aload_n hx hb dL_law_360 rfl (lv_at hl 0 rfl) ?_
        refine lv_iload_n hx hb dL_law_361 rfl (lv_at hl 3 rfl) ?_
        refine lv_iconst (v := 1) hx hb dL_law_362 (by decide) ?_
        refine lv_iadd hx hb dL_law_363 ?_
        refine va_sld hx hb hX hbl hbA X.2.2.2.2.2 i1 dL_law_364 ?_
        refine lv_aload_n hx hb dL_law_365 rfl (lv_at hl 0 rfl) ?_
        refine lv_iload_n hx hb dL_law_366 rfl (lv_at hl 3 rfl) ?_
        refine lv_iconst (v := 2) hx hb dL_law_367 (by decide) ?_
        refine lv_iadd hx hb dL_law_368 ?_
        refine va_sld hx hb hX hbl hbA X.2.2.2.2.2 i2 dL_law_369 ?_
        obtain ⟨r7, S', M', h9, h10, hR2⟩ := E_set hR (xs (x3 + 1).toNatClampNeg) (xs (x3 + 2).toNatClampNeg)
        refine l_call (K1 := kC) (ad1 := ad) (As := [.int (xs (x3 + 1).toNatClampNeg), .int (xs (x3 + 2).toNatClampNeg)]) (rest := []) (n := 2) (res := (r7, S')) hx hb hml hown hts hK hE X (c_X9_set l g ad S _ (xs (x3 + 1).toNatClampNeg) (xs (x3 + 2).toNatClampNeg) h9) wd_680 wd_681 wd_682 wd_70 wd_683 (by decide) (eC_0 g ad S) rfl rfl rfl (by decide +kernel) ⟨Nat.le_of_ble_eq_true rfl, Nat.le_of_ble_eq_true rfl⟩ rfl hl.1 (lv_room (Nat.le_of_ble_eq_true rfl)) dL_law_370 ⟨Nat.le_of_ble_eq_true rfl, Nat.le_of_ble_eq_true rfl⟩ (fun H locs X => ?_)
        refine lv_aload_n hx hb dL_law_373 rfl (lv_at hl 2 rfl) ?_
        refine lv_aload_n hx hb dL_law_374 rfl (lv_at hl 0 rfl) ?_
        refine lv_iload_n hx hb dL_law_375 rfl (lv_at hl 3 rfl) ?_
        refine lv_iconst (v := 1) hx hb dL_law_376 (by decide) ?_
        refine lv_iadd hx hb dL_law_377 ?_
        refine va_sld hx hb hX hbl hbA X.2.2.2.2.2 i1 dL_law_378 ?_
        refine lv_aload_n hx hb dL_law_379 rfl (lv_at hl 0 rfl) ?_
        refine lv_iload_n hx hb dL_law_380 rfl (lv_at hl 3 rfl) ?_
        refine lv_iconst (v := 2) hx hb dL_law_381 (by decide) ?_
        refine lv_iadd hx hb dL_law_382 ?_
        refine va_sld hx hb hX hbl hbA X.2.2.2.2.2 i2 dL_law_383 ?_
        have X := X.swap
        refine l_call (K1 := kM) (ad1 := am) (As := [.int (xs (x3 + 1).toNatClampNeg), .int (xs (x3 + 2).toNatClampNeg)]) (rest := [.int (r7)]) (n := 2) (res := (r7, M')) hx hb hml hown hts hK hE X (c_X10_set l g am M _ (xs (x3 + 1).toNatClampNeg) (xs (x3 + 2).toNatClampNeg) h10) wd_1271 wd_1272 wd_1273 wd_83 wd_1274 (by decide) (eM_0 g am M) rfl rfl rfl (by decide +kernel) ⟨Nat.le_of_ble_eq_true rfl, Nat.le_of_ble_eq_true rfl⟩ rfl hl.1 (lv_room (Nat.le_of_ble_eq_true rfl)) dL_law_384 ⟨Nat.le_of_ble_eq_true rfl, Nat.le_of_ble_eq_true rfl⟩ (fun H locs X => ?_)
        have X := X.swap
        refine lv_icmp_eq (tgt := 988) hx hb dL_law_387 (by decide) (fun _ => ?_) (fun q => absurd rfl q)
        exact next _ _ hR2 H locs X
      by_cases t8 : op = (8 : Int32)
      · refine lv_tableIn (tgt := 392) (off := 360) hx hb dL_law_32 (by rw [t8]; decide) (by rw [t8]; decide) (by rw [t8]; rfl) (by decide) ?_
        refine lv_aload_n hx hb dL_law_392 rfl (lv_at hl 1 rfl) ?_
        refine lv_aload_n hx hb dL_law_393 rfl (lv_at hl 0 rfl) ?_
        refine lv_iload_n hx hb dL_law_394 rfl (lv_at hl 3 rfl) ?_
        refine lv_iconst (v := 1) hx hb dL_law_395 (by decide) ?_
        refine lv_iadd hx hb dL_law_396 ?_
        refine va_sld hx hb hX hbl hbA X.2.2.2.2.2 i1 dL_law_397 ?_
        obtain ⟨r8, h9, h10, hR2⟩ := E_now hR (xs (x3 + 1).toNatClampNeg)
        refine l_call (K1 := kC) (ad1 := ad) (As := [.int (xs (x3 + 1).toNatClampNeg)]) (rest := []) (n := 1) (res := (r8, S)) hx hb hml hown hts hK hE X (c_X9_now l g ad S _ (xs (x3 + 1).toNatClampNeg) h9) wd_693 wd_694 wd_695 wd_70 wd_696 (by decide) (eC_0 g ad S) rfl rfl rfl (by decide +kernel) ⟨Nat.le_of_ble_eq_true rfl, Nat.le_of_ble_eq_true rfl⟩ rfl hl.1 (lv_room (Nat.le_of_ble_eq_true rfl)) dL_law_398 ⟨Nat.le_of_ble_eq_true rfl, Nat.le_of_ble_eq_true rfl⟩ (fun H locs X => ?_)
        refine lv_aload_n hx hb dL_law_401 rfl (lv_at hl 2 rfl) ?_
        refine lv_aload_n hx hb dL_law_402 rfl (lv_at hl 0 rfl) ?_
        refine lv_iload_n hx hb dL_law_403 rfl (lv_at hl 3 rfl) ?_
        refine lv_iconst (v := 1) hx hb dL_law_404 (by decide) ?_
        refine lv_iadd hx hb dL_law_405 ?_
        refine va_sld hx hb hX hbl hbA X.2.2.2.2.2 i1 dL_law_406 ?_
        have X := X.swap
        refine l_call (K1 := kM) (ad1 := am) (As := [.int (xs (x3 + 1).toNatClampNeg)]) (rest := [.int (r8)]) (n := 1) (res := (r8, M)) hx hb hml hown hts hK hE X (c_X10_now l g am M _ (xs (x3 + 1).toNatClampNeg) h10) wd_1278 wd_1279 wd_1280 wd_83 wd_1281 (by decide) (eM_0 g am M) rfl rfl rfl (by decide +kernel) ⟨Nat.le_of_ble_eq_true rfl, Nat.le_of_ble_eq_true rfl⟩ rfl hl.1 (lv_room (Nat.le_of_ble_eq_true rfl)) dL_law_407 ⟨Nat.le_of_ble_eq_true rfl, Nat.le_of_ble_eq_true rfl⟩ (fun H locs X => ?_)
        have X := X.swap
        refine lv_icmp_eq (tgt := 988) hx hb dL_law_410 (by decide) (fun _ => ?_) (fun q => absurd rfl q)
        exact next _ _ hR2 H locs X
      by_cases t9 : op = (9 : Int32)
      · refine lv_tableIn (tgt := 415) (off := 383) hx hb dL_law_32 (by rw [t9]; decide) (by rw [t9]; decide) (by rw [t9]; rfl) (by decide) ?_
        refine lv_aload_n hx hb dL_law_415 rfl (lv_at hl 1 rfl) ?_
        refine lv_aload_n hx hb dL_law_416 rfl (lv_at hl 0 rfl) ?_
        refine lv_iload_n hx hb dL_law_417 rfl (lv_at hl 3 rfl) ?_
        refine lv_iconst (v := 1) hx hb dL_law_418 (by decide) ?_
        refine lv_iadd hx hb dL_law_419 ?_
        refine va_sld hx hb hX hbl hbA X.2.2.2.2.2 i1 dL_law_420 ?_
        obtain ⟨r9, h9, h10, hR2⟩ := E_sine hR (xs (x3 + 1).toNatClampNeg)
        refine l_call (K1 := kC) (ad1 := ad) (As := [.int (xs (x3 + 1).toNatClampNeg)]) (rest := []) (n := 1) (res := (r9, S)) hx hb hml hown hts hK hE X (c_X9_sine l g ad S _ (xs (x3 + 1).toNatClampNeg) h9) wd_705 wd_706 wd_707 wd_70 wd_708 (by decide) (eC_0 g ad S) rfl rfl rfl (by decide +kernel) ⟨Nat.le_of_ble_eq_true rfl, Nat.le_of_ble_eq_true rfl⟩ rfl hl.1 (lv_room (Nat.le_of_ble_eq_true rfl)) dL_law_421 ⟨Nat.le_of_ble_eq_true rfl, Nat.le_of_ble_eq_true rfl⟩ (fun H locs X => ?_)
        refine lv_aload_n hx hb dL_law_424 rfl (lv_at hl 2 rfl) ?_
        refine lv_aload_n hx hb dL_law_425 rfl (lv_at hl 0 rfl) ?_
        refine lv_iload_n hx hb dL_law_426 rfl (lv_at hl 3 rfl) ?_
        refine lv_iconst (v := 1) hx hb dL_law_427 (by decide) ?_
        refine lv_iadd hx hb dL_law_428 ?_
        refine va_sld hx hb hX hbl hbA X.2.2.2.2.2 i1 dL_law_429 ?_
        have X := X.swap
        refine l_call (K1 := kM) (ad1 := am) (As := [.int (xs (x3 + 1).toNatClampNeg)]) (rest := [.int (r9)]) (n := 1) (res := (r9, M)) hx hb hml hown hts hK hE X (c_X10_sine l g am M _ (xs (x3 + 1).toNatClampNeg) h10) wd_1286 wd_1287 wd_1288 wd_83 wd_1289 (by decide) (eM_0 g am M) rfl rfl rfl (by decide +kernel) ⟨Nat.le_of_ble_eq_true rfl, Nat.le_of_ble_eq_true rfl⟩ rfl hl.1 (lv_room (Nat.le_of_ble_eq_true rfl)) dL_law_430 ⟨Nat.le_of_ble_eq_true rfl, Nat.le_of_ble_eq_true rfl⟩ (fun H locs X => ?_)
        have X := X.swap
        refine lv_icmp_eq (tgt := 988) hx hb dL_law_433 (by decide) (fun _ => ?_) (fun q => absurd rfl q)
        exact next _ _ hR2 H locs X
      by_cases t10 : op = (10 : Int32)
      · refine lv_tableIn (tgt := 438) (off := 406) hx hb dL_law_32 (by rw [t10]; decide) (by rw [t10]; decide) (by rw [t10]; rfl) (by decide) ?_
        refine lv_aload_n hx hb dL_law_438 rfl (lv_at hl 1 rfl) ?_
        refine lv_aload_n hx hb dL_law_439 rfl (lv_at hl 0 rfl) ?_
        refine lv_iload_n hx hb dL_law_440 rfl (lv_at hl 3 rfl) ?_
        refine lv_iconst (v := 1) hx hb dL_law_441 (by decide) ?_
        refine lv_iadd hx hb dL_law_442 ?_
        refine va_sld hx hb hX hbl hbA X.2.2.2.2.2 i1 dL_law_443 ?_
        refine lv_aload_n hx hb dL_law_444 rfl (lv_at hl 0 rfl) ?_
        refine lv_iload_n hx hb dL_law_445 rfl (lv_at hl 3 rfl) ?_
        refine lv_iconst (v := 2) hx hb dL_law_446 (by decide) ?_
        refine lv_iadd hx hb dL_law_447 ?_
        refine va_sld hx hb hX hbl hbA X.2.2.2.2.2 i2 dL_law_448 ?_
        refine lv_aload_n hx hb dL_law_449 rfl (lv_at hl 0 rfl) ?_
        refine lv_iload_n hx hb dL_law_450 rfl (lv_at hl 3 rfl) ?_
        refine lv_iconst (v := 3) hx hb dL_law_451 (by decide) ?_
        refine lv_iadd hx hb dL_law_452 ?_
        refine va_sld hx hb hX hbl hbA X.2.2.2.2.2 i3 dL_law_453 ?_
        obtain ⟨r10, S', M', h9, h10, hR2⟩ := E_holds hR (xs (x3 + 1).toNatClampNeg) (xs (x3 + 2).toNatClampNeg) (xs (x3 + 3).toNatClampNeg)
        refine l_call (K1 := kC) (ad1 := ad) (As := [.int (xs (x3 + 1).toNatClampNeg), .int (xs (x3 + 2).toNatClampNeg), .int (xs (x3 + 3).toNatClampNeg)]) (rest := []) (n := 3) (res := (r10, S')) hx hb hml hown hts hK hE X (c_X9_holds l g ad S _ (xs (x3 + 1).toNatClampNeg) (xs (x3 + 2).toNatClampNeg) (xs (x3 + 3).toNatClampNeg) h9) wd_718 wd_719 wd_720 wd_70 wd_721 (by decide) (eC_0 g ad S) rfl rfl rfl (by decide +kernel) ⟨Nat.le_of_ble_eq_true rfl, Nat.le_of_ble_eq_true rfl⟩ rfl hl.1 (lv_room (Nat.le_of_ble_eq_true rfl)) dL_law_454 ⟨Nat.le_of_ble_eq_true rfl, Nat.le_of_ble_eq_true rfl⟩ (fun H locs X => ?_)
        refine lv_aload_n hx hb dL_law_457 rfl (lv_at hl 2 rfl) ?_
        refine lv_aload_n hx hb dL_law_458 rfl (lv_at hl 0 rfl) ?_
        refine lv_iload_n hx hb dL_law_459 rfl (lv_at hl 3 rfl) ?_
        refine lv_iconst (v := 1) hx hb dL_law_460 (by decide) ?_
        refine lv_iadd hx hb dL_law_461 ?_
        refine va_sld hx hb hX hbl hbA X.2.2.2.2.2 i1 dL_law_462 ?_
        refine lv_aload_n hx hb dL_law_463 rfl (lv_at hl 0 rfl) ?_
        refine lv_iload_n hx hb dL_law_464 rfl (lv_at hl 3 rfl) ?_
        refine lv_iconst (v := 2) hx hb dL_law_465 (by decide) ?_
        refine lv_iadd hx hb dL_law_466 ?_
        refine va_sld hx hb hX hbl hbA X.2.2.2.2.2 i2 dL_law_467 ?_
        refine lv_aload_n hx hb dL_law_468 rfl (lv_at hl 0 rfl) ?_
        refine lv_iload_n hx hb dL_law_469 rfl (lv_at hl 3 rfl) ?_
        refine lv_iconst (v := 3) hx hb dL_law_470 (by decide) ?_
        refine lv_iadd hx hb dL_law_471 ?_
        refine va_sld hx hb hX hbl hbA X.2.2.2.2.2 i3 dL_law_472 ?_
        have X := X.swap
        refine l_call (K1 := kM) (ad1 := am) (As := [.int (xs (x3 + 1).toNatClampNeg), .int (xs (x3 + 2).toNatClampNeg), .int (xs (x3 + 3).toNatClampNeg)]) (rest := [.int (r10)]) (n := 3) (res := (r10, M')) hx hb hml hown hts hK hE X (c_X10_holds l g am M _ (xs (x3 + 1).toNatClampNeg) (xs (x3 + 2).toNatClampNeg) (xs (x3 + 3).toNatClampNeg) h10) wd_1300 wd_1301 wd_1302 wd_83 wd_1303 (by decide) (eM_0 g am M) rfl rfl rfl (by decide +kernel) ⟨Nat.le_of_ble_eq_true rfl, Nat.le_of_ble_eq_true rfl⟩ rfl hl.1 (lv_room (Nat.le_of_ble_eq_true rfl)) dL_law_473 ⟨Nat.le_of_ble_eq_true rfl, Nat.le_of_ble_eq_true rfl⟩ (fun H locs X => ?_)
        have X := X.swap
        refine lv_icmp_eq (tgt := 988) hx hb dL_law_476 (by decide) (fun _ => ?_) (fun q => absurd rfl q)
        exact next _ _ hR2 H locs X
      by_cases t11 : op = (11 : Int32)
      · refine lv_tableIn (tgt := 481) (off := 449) hx hb dL_law_32 (by rw [t11]; decide) (by rw [t11]; decide) (by rw [t11]; rfl) (by decide) ?_
        refine lv_aload_n hx hb dL_law_481 rfl (lv_at hl 1 rfl) ?_
        refine lv_aload_n hx hb dL_law_482 rfl (lv_at hl 0 rfl) ?_
        refine lv_iload_n hx hb dL_law_483 rfl (lv_at hl 3 rfl) ?_
        refine lv_iconst (v := 1) hx hb dL_law_484 (by decide) ?_
        refine lv_iadd hx hb dL_law_485 ?_
        refine va_sld hx hb hX hbl hbA X.2.2.2.2.2 i1 dL_law_486 ?_
        refine lv_aload_n hx hb dL_law_487 rfl (lv_at hl 0 rfl) ?_
        refine lv_iload_n hx hb dL_law_488 rfl (lv_at hl 3 rfl) ?_
        refine lv_iconst (v := 2) hx hb dL_law_489 (by decide) ?_
        refine lv_iadd hx hb dL_law_490 ?_
        refine va_sld hx hb hX hbl hbA X.2.2.2.2.2 i2 dL_law_491 ?_
        refine lv_aload_n hx hb dL_law_492 rfl (lv_at hl 0 rfl) ?_
        refine lv_iload_n hx hb dL_law_493 rfl (lv_at hl 3 rfl) ?_
        refine lv_iconst (v := 3) hx hb dL_law_494 (by decide) ?_
        refine lv_iadd hx hb dL_law_495 ?_
        refine va_sld hx hb hX hbl hbA X.2.2.2.2.2 i3 dL_law_496 ?_
        obtain ⟨r11, S', M', h9, h10, hR2⟩ := E_lands hR (xs (x3 + 1).toNatClampNeg) (xs (x3 + 2).toNatClampNeg) (xs (x3 + 3).toNatClampNeg)
        refine l_call (K1 := kC) (ad1 := ad) (As := [.int (xs (x3 + 1).toNatClampNeg), .int (xs (x3 + 2).toNatClampNeg), .int (xs (x3 + 3).toNatClampNeg)]) (rest := []) (n := 3) (res := (r11, S')) hx hb hml hown hts hK hE X (c_X9_lands l g ad S _ (xs (x3 + 1).toNatClampNeg) (xs (x3 + 2).toNatClampNeg) (xs (x3 + 3).toNatClampNeg) h9) wd_780 wd_781 wd_782 wd_70 wd_783 (by decide) (eC_0 g ad S) rfl rfl rfl (by decide +kernel) ⟨Nat.le_of_ble_eq_true rfl, Nat.le_of_ble_eq_true rfl⟩ rfl hl.1 (lv_room (Nat.le_of_ble_eq_true rfl)) dL_law_497 ⟨Nat.le_of_ble_eq_true rfl, Nat.le_of_ble_eq_true rfl⟩ (fun H locs X => ?_)
        refine lv_aload_n hx hb dL_law_500 rfl (lv_at hl 2 rfl) ?_
        refine lv_aload_n hx hb dL_law_501 rfl (lv_at hl 0 rfl) ?_
        refine lv_iload_n hx hb dL_law_502 rfl (lv_at hl 3 rfl) ?_
        refine lv_iconst (v := 1) hx hb dL_law_503 (by decide) ?_
        refine lv_iadd hx hb dL_law_504 ?_
        refine va_sld hx hb hX hbl hbA X.2.2.2.2.2 i1 dL_law_505 ?_
        refine lv_aload_n hx hb dL_law_506 rfl (lv_at hl 0 rfl) ?_
        refine lv_iload_n hx hb dL_law_507 rfl (lv_at hl 3 rfl) ?_
        refine lv_iconst (v := 2) hx hb dL_law_508 (by decide) ?_
        refine lv_iadd hx hb dL_law_509 ?_
        refine va_sld hx hb hX hbl hbA X.2.2.2.2.2 i2 dL_law_510 ?_
        refine lv_aload_n hx hb dL_law_511 rfl (lv_at hl 0 rfl) ?_
        refine lv_iload_n hx hb dL_law_512 rfl (lv_at hl 3 rfl) ?_
        refine lv_iconst (v := 3) hx hb dL_law_513 (by decide) ?_
        refine lv_iadd hx hb dL_law_514 ?_
        refine va_sld hx hb hX hbl hbA X.2.2.2.2.2 i3 dL_law_515 ?_
        have X := X.swap
        refine l_call (K1 := kM) (ad1 := am) (As := [.int (xs (x3 + 1).toNatClampNeg), .int (xs (x3 + 2).toNatClampNeg), .int (xs (x3 + 3).toNatClampNeg)]) (rest := [.int (r11)]) (n := 3) (res := (r11, M')) hx hb hml hown hts hK hE X (c_X10_lands l g am M _ (xs (x3 + 1).toNatClampNeg) (xs (x3 + 2).toNatClampNeg) (xs (x3 + 3).toNatClampNeg) h10) wd_1335 wd_1336 wd_1337 wd_83 wd_1338 (by decide) (eM_0 g am M) rfl rfl rfl (by decide +kernel) ⟨Nat.le_of_ble_eq_true rfl, Nat.le_of_ble_eq_true rfl⟩ rfl hl.1 (lv_room (Nat.le_of_ble_eq_true rfl)) dL_law_516 ⟨Nat.le_of_ble_eq_true rfl, Nat.le_of_ble_eq_true rfl⟩ (fun H locs X => ?_)
        have X := X.swap
        refine lv_icmp_eq (tgt := 988) hx hb dL_law_519 (by decide) (fun _ => ?_) (fun q => absurd rfl q)
        exact next _ _ hR2 H locs X
      by_cases t12 : op = (12 : Int32)
      · refine lv_tableIn (tgt := 524) (off := 492) hx hb dL_law_32 (by rw [t12]; decide) (by rw [t12]; decide) (by rw [t12]; rfl) (by decide) ?_
        refine lv_aload_n hx hb dL_law_524 rfl (lv_at hl 1 rfl) ?_
        refine lv_aload_n hx hb dL_law_525 rfl (lv_at hl 0 rfl) ?_
        refine lv_iload_n hx hb dL_law_526 rfl (lv_at hl 3 rfl) ?_
        refine lv_iconst (v := 1) hx hb dL_law_527 (by decide) ?_
        refine lv_iadd hx hb dL_law_528 ?_
        refine va_sld hx hb hX hbl hbA X.2.2.2.2.2 i1 dL_law_529 ?_
        refine lv_aload_n hx hb dL_law_530 rfl (lv_at hl 0 rfl) ?_
        refine lv_iload_n hx hb dL_law_531 rfl (lv_at hl 3 rfl) ?_
        refine lv_iconst (v := 2) hx hb dL_law_532 (by decide) ?_
        refine lv_iadd hx hb dL_law_533 ?_
        refine va_sld hx hb hX hbl hbA X.2.2.2.2.2 i2 dL_law_534 ?_
        obtain ⟨r12, S', M', h9, h10, hR2⟩ := E_best hR (xs (x3 + 1).toNatClampNeg) (xs (x3 + 2).toNatClampNeg)
        refine l_call (K1 := kC) (ad1 := ad) (As := [.int (xs (x3 + 1).toNatClampNeg), .int (xs (x3 + 2).toNatClampNeg)]) (rest := []) (n := 2) (res := (r12, S')) hx hb hml hown hts hK hE X (c_X9_best l g ad S _ (xs (x3 + 1).toNatClampNeg) (xs (x3 + 2).toNatClampNeg) h9) wd_836 wd_837 wd_838 wd_70 wd_839 (by decide) (eC_0 g ad S) rfl rfl rfl (by decide +kernel) ⟨Nat.le_of_ble_eq_true rfl, Nat.le_of_ble_eq_true rfl⟩ rfl hl.1 (lv_room (Nat.le_of_ble_eq_true rfl)) dL_law_535 ⟨Nat.le_of_ble_eq_true rfl, Nat.le_of_ble_eq_true rfl⟩ (fun H locs X => ?_)
        refine lv_aload_n hx hb dL_law_538 rfl (lv_at hl 2 rfl) ?_
        refine lv_aload_n hx hb dL_law_539 rfl (lv_at hl 0 rfl) ?_
        refine lv_iload_n hx hb dL_law_540 rfl (lv_at hl 3 rfl) ?_
        refine lv_iconst (v := 1) hx hb dL_law_541 (by decide) ?_
        refine lv_iadd hx hb dL_law_542 ?_
        refine va_sld hx hb hX hbl hbA X.2.2.2.2.2 i1 dL_law_543 ?_
        refine lv_aload_n hx hb dL_law_544 rfl (lv_at hl 0 rfl) ?_
        refine lv_iload_n hx hb dL_law_545 rfl (lv_at hl 3 rfl) ?_
        refine lv_iconst (v := 2) hx hb dL_law_546 (by decide) ?_
        refine lv_iadd hx hb dL_law_547 ?_
        refine va_sld hx hb hX hbl hbA X.2.2.2.2.2 i2 dL_law_548 ?_
        have X := X.swap
        refine l_call (K1 := kM) (ad1 := am) (As := [.int (xs (x3 + 1).toNatClampNeg), .int (xs (x3 + 2).toNatClampNeg)]) (rest := [.int (r12)]) (n := 2) (res := (r12, M')) hx hb hml hown hts hK hE X (c_X10_best l g am M _ (xs (x3 + 1).toNatClampNeg) (xs (x3 + 2).toNatClampNeg) h10) wd_1373 wd_1374 wd_1375 wd_83 wd_1376 (by decide) (eM_0 g am M) rfl rfl rfl (by decide +kernel) ⟨Nat.le_of_ble_eq_true rfl, Nat.le_of_ble_eq_true rfl⟩ rfl hl.1 (lv_room (Nat.le_of_ble_eq_true rfl)) dL_law_549 ⟨Nat.le_of_ble_eq_true rfl, Nat.le_of_ble_eq_true rfl⟩ (fun H locs X => ?_)
        have X := X.swap
        refine lv_icmp_eq (tgt := 988) hx hb dL_law_552 (by decide) (fun _ => ?_) (fun q => absurd rfl q)
        exact next _ _ hR2 H locs X
      by_cases t13 : op = (13 : Int32)
      · refine lv_tableIn (tgt := 557) (off := 525) hx hb dL_law_32 (by rw [t13]; decide) (by rw [t13]; decide) (by rw [t13]; rfl) (by decide) ?_
        refine lv_aload_n hx hb dL_law_557 rfl (lv_at hl 1 rfl) ?_
        refine lv_aload_n hx hb dL_law_558 rfl (lv_at hl 0 rfl) ?_
        refine lv_iload_n hx hb dL_law_559 rfl (lv_at hl 3 rfl) ?_
        refine lv_iconst (v := 1) hx hb dL_law_560 (by decide) ?_
        refine lv_iadd hx hb dL_law_561 ?_
        refine va_sld hx hb hX hbl hbA X.2.2.2.2.2 i1 dL_law_562 ?_
        refine lv_aload_n hx hb dL_law_563 rfl (lv_at hl 0 rfl) ?_
        refine lv_iload_n hx hb dL_law_564 rfl (lv_at hl 3 rfl) ?_
        refine lv_iconst (v := 2) hx hb dL_law_565 (by decide) ?_
        refine lv_iadd hx hb dL_law_566 ?_
        refine va_sld hx hb hX hbl hbA X.2.2.2.2.2 i2 dL_law_567 ?_
        obtain ⟨r13, S', M', h9, h10, hR2⟩ := E_wide hR (xs (x3 + 1).toNatClampNeg) (xs (x3 + 2).toNatClampNeg)
        refine l_call (K1 := kC) (ad1 := ad) (As := [.int (xs (x3 + 1).toNatClampNeg), .int (xs (x3 + 2).toNatClampNeg)]) (rest := []) (n := 2) (res := (r13, S')) hx hb hml hown hts hK hE X (c_X9_wide l g ad S _ (xs (x3 + 1).toNatClampNeg) (xs (x3 + 2).toNatClampNeg) h9) wd_851 wd_852 wd_853 wd_70 wd_854 (by decide) (eC_0 g ad S) rfl rfl rfl (by decide +kernel) ⟨Nat.le_of_ble_eq_true rfl, Nat.le_of_ble_eq_true rfl⟩ rfl hl.1 (lv_room (Nat.le_of_ble_eq_true rfl)) dL_law_568 ⟨Nat.le_of_ble_eq_true rfl, Nat.le_of_ble_eq_true rfl⟩ (fun H locs X => ?_)
        refine lv_aload_n hx hb dL_law_571 rfl (lv_at hl 2 rfl) ?_
        refine lv_aload_n hx hb dL_law_572 rfl (lv_at hl 0 rfl) ?_
        refine lv_iload_n hx hb dL_law_573 rfl (lv_at hl 3 rfl) ?_
        refine lv_iconst (v := 1) hx hb dL_law_574 (by decide) ?_
        refine lv_iadd hx hb dL_law_575 ?_
        refine va_sld hx hb hX hbl hbA X.2.2.2.2.2 i1 dL_law_576 ?_
        refine lv_aload_n hx hb dL_law_577 rfl (lv_at hl 0 rfl) ?_
        refine lv_iload_n hx hb dL_law_578 rfl (lv_at hl 3 rfl) ?_
        refine lv_iconst (v := 2) hx hb dL_law_579 (by decide) ?_
        refine lv_iadd hx hb dL_law_580 ?_
        refine va_sld hx hb hX hbl hbA X.2.2.2.2.2 i2 dL_law_581 ?_
        have X := X.swap
        refine l_call (K1 := kM) (ad1 := am) (As := [.int (xs (x3 + 1).toNatClampNeg), .int (xs (x3 + 2).toNatClampNeg)]) (rest := [.int (r13)]) (n := 2) (res := (r13, M')) hx hb hml hown hts hK hE X (c_X10_wide l g am M _ (xs (x3 + 1).toNatClampNeg) (xs (x3 + 2).toNatClampNeg) h10) wd_1385 wd_1386 wd_1387 wd_83 wd_1388 (by decide) (eM_0 g am M) rfl rfl rfl (by decide +kernel) ⟨Nat.le_of_ble_eq_true rfl, Nat.le_of_ble_eq_true rfl⟩ rfl hl.1 (lv_room (Nat.le_of_ble_eq_true rfl)) dL_law_582 ⟨Nat.le_of_ble_eq_true rfl, Nat.le_of_ble_eq_true rfl⟩ (fun H locs X => ?_)
        have X := X.swap
        refine lv_icmp_eq (tgt := 988) hx hb dL_law_585 (by decide) (fun _ => ?_) (fun q => absurd rfl q)
        exact next _ _ hR2 H locs X
      by_cases t14 : op = (14 : Int32)
      · refine lv_tableIn (tgt := 590) (off := 558) hx hb dL_law_32 (by rw [t14]; decide) (by rw [t14]; decide) (by rw [t14]; rfl) (by decide) ?_
        refine lv_aload_n hx hb dL_law_590 rfl (lv_at hl 1 rfl) ?_
        refine lv_aload_n hx hb dL_law_591 rfl (lv_at hl 0 rfl) ?_
        refine lv_iload_n hx hb dL_law_592 rfl (lv_at hl 3 rfl) ?_
        refine lv_iconst (v := 1) hx hb dL_law_593 (by decide) ?_
        refine lv_iadd hx hb dL_law_594 ?_
        refine va_sld hx hb hX hbl hbA X.2.2.2.2.2 i1 dL_law_595 ?_
        refine lv_aload_n hx hb dL_law_596 rfl (lv_at hl 0 rfl) ?_
        refine lv_iload_n hx hb dL_law_597 rfl (lv_at hl 3 rfl) ?_
        refine lv_iconst (v := 2) hx hb dL_law_598 (by decide) ?_
        refine lv_iadd hx hb dL_law_599 ?_
        refine va_sld hx hb hX hbl hbA X.2.2.2.2.2 i2 dL_law_600 ?_
        refine lv_aload_n hx hb dL_law_601 rfl (lv_at hl 0 rfl) ?_
        refine lv_iload_n hx hb dL_law_602 rfl (lv_at hl 3 rfl) ?_
        refine lv_iconst (v := 3) hx hb dL_law_603 (by decide) ?_
        refine lv_iadd hx hb dL_law_604 ?_
        refine va_sld hx hb hX hbl hbA X.2.2.2.2.2 i3 dL_law_605 ?_
        obtain ⟨r14, S', M', h9, h10, hR2⟩ := E_odds hR (xs (x3 + 1).toNatClampNeg) (xs (x3 + 2).toNatClampNeg) (xs (x3 + 3).toNatClampNeg)
        refine l_call (K1 := kC) (ad1 := ad) (As := [.int (xs (x3 + 1).toNatClampNeg), .int (xs (x3 + 2).toNatClampNeg), .int (xs (x3 + 3).toNatClampNeg)]) (rest := []) (n := 3) (res := (r14, S')) hx hb hml hown hts hK hE X (c_X9_odds l g ad S _ (xs (x3 + 1).toNatClampNeg) (xs (x3 + 2).toNatClampNeg) (xs (x3 + 3).toNatClampNeg) h9) wd_855 wd_856 wd_857 wd_70 wd_858 (by decide) (eC_0 g ad S) rfl rfl rfl (by decide +kernel) ⟨Nat.le_of_ble_eq_true rfl, Nat.le_of_ble_eq_true rfl⟩ rfl hl.1 (lv_room (Nat.le_of_ble_eq_true rfl)) dL_law_606 ⟨Nat.le_of_ble_eq_true rfl, Nat.le_of_ble_eq_true rfl⟩ (fun H locs X => ?_)
        refine lv_aload_n hx hb dL_law_609 rfl (lv_at hl 2 rfl) ?_
        refine lv_aload_n hx hb dL_law_610 rfl (lv_at hl 0 rfl) ?_
        refine lv_iload_n hx hb dL_law_611 rfl (lv_at hl 3 rfl) ?_
        refine lv_iconst (v := 1) hx hb dL_law_612 (by decide) ?_
        refine lv_iadd hx hb dL_law_613 ?_
        refine va_sld hx hb hX hbl hbA X.2.2.2.2.2 i1 dL_law_614 ?_
        refine lv_aload_n hx hb dL_law_615 rfl (lv_at hl 0 rfl) ?_
        refine lv_iload_n hx hb dL_law_616 rfl (lv_at hl 3 rfl) ?_
        refine lv_iconst (v := 2) hx hb dL_law_617 (by decide) ?_
        refine lv_iadd hx hb dL_law_618 ?_
        refine va_sld hx hb hX hbl hbA X.2.2.2.2.2 i2 dL_law_619 ?_
        refine lv_aload_n hx hb dL_law_620 rfl (lv_at hl 0 rfl) ?_
        refine lv_iload_n hx hb dL_law_621 rfl (lv_at hl 3 rfl) ?_
        refine lv_iconst (v := 3) hx hb dL_law_622 (by decide) ?_
        refine lv_iadd hx hb dL_law_623 ?_
        refine va_sld hx hb hX hbl hbA X.2.2.2.2.2 i3 dL_law_624 ?_
        have X := X.swap
        refine l_call (K1 := kM) (ad1 := am) (As := [.int (xs (x3 + 1).toNatClampNeg), .int (xs (x3 + 2).toNatClampNeg), .int (xs (x3 + 3).toNatClampNeg)]) (rest := [.int (r14)]) (n := 3) (res := (r14, M')) hx hb hml hown hts hK hE X (c_X10_odds l g am M _ (xs (x3 + 1).toNatClampNeg) (xs (x3 + 2).toNatClampNeg) (xs (x3 + 3).toNatClampNeg) h10) wd_1394 wd_1395 wd_1396 wd_83 wd_1397 (by decide) (eM_0 g am M) rfl rfl rfl (by decide +kernel) ⟨Nat.le_of_ble_eq_true rfl, Nat.le_of_ble_eq_true rfl⟩ rfl hl.1 (lv_room (Nat.le_of_ble_eq_true rfl)) dL_law_625 ⟨Nat.le_of_ble_eq_true rfl, Nat.le_of_ble_eq_true rfl⟩ (fun H locs X => ?_)
        have X := X.swap
        refine lv_icmp_eq (tgt := 988) hx hb dL_law_628 (by decide) (fun _ => ?_) (fun q => absurd rfl q)
        exact next _ _ hR2 H locs X
      by_cases t15 : op = (15 : Int32)
      · refine lv_tableIn (tgt := 633) (off := 601) hx hb dL_law_32 (by rw [t15]; decide) (by rw [t15]; decide) (by rw [t15]; rfl) (by decide) ?_
        refine lv_aload_n hx hb dL_law_633 rfl (lv_at hl 1 rfl) ?_
        refine lv_aload_n hx hb dL_law_634 rfl (lv_at hl 0 rfl) ?_
        refine lv_iload_n hx hb dL_law_635 rfl (lv_at hl 3 rfl) ?_
        refine lv_iconst (v := 1) hx hb dL_law_636 (by decide) ?_
        refine lv_iadd hx hb dL_law_637 ?_
        refine va_sld hx hb hX hbl hbA X.2.2.2.2.2 i1 dL_law_638 ?_
        refine lv_aload_n hx hb dL_law_639 rfl (lv_at hl 0 rfl) ?_
        refine lv_iload_n hx hb dL_law_640 rfl (lv_at hl 3 rfl) ?_
        refine lv_iconst (v := 2) hx hb dL_law_641 (by decide) ?_
        refine lv_iadd hx hb dL_law_642 ?_
        refine va_sld hx hb hX hbl hbA X.2.2.2.2.2 i2 dL_law_643 ?_
        obtain ⟨r15, S', M', h9, h10, hR2⟩ := E_strong hR (xs (x3 + 1).toNatClampNeg) (xs (x3 + 2).toNatClampNeg)
        refine l_call (K1 := kC) (ad1 := ad) (As := [.int (xs (x3 + 1).toNatClampNeg), .int (xs (x3 + 2).toNatClampNeg)]) (rest := []) (n := 2) (res := (r15, S')) hx hb hml hown hts hK hE X (c_X9_strong l g ad S _ (xs (x3 + 1).toNatClampNeg) (xs (x3 + 2).toNatClampNeg) h9) wd_862 wd_863 wd_864 wd_70 wd_865 (by decide) (eC_0 g ad S) rfl rfl rfl (by decide +kernel) ⟨Nat.le_of_ble_eq_true rfl, Nat.le_of_ble_eq_true rfl⟩ rfl hl.1 (lv_room (Nat.le_of_ble_eq_true rfl)) dL_law_644 ⟨Nat.le_of_ble_eq_true rfl, Nat.le_of_ble_eq_true rfl⟩ (fun H locs X => ?_)
        refine lv_aload_n hx hb dL_law_647 rfl (lv_at hl 2 rfl) ?_
        refine lv_aload_n hx hb dL_law_648 rfl (lv_at hl 0 rfl) ?_
        refine lv_iload_n hx hb dL_law_649 rfl (lv_at hl 3 rfl) ?_
        refine lv_iconst (v := 1) hx hb dL_law_650 (by decide) ?_
        refine lv_iadd hx hb dL_law_651 ?_
        refine va_sld hx hb hX hbl hbA X.2.2.2.2.2 i1 dL_law_652 ?_
        refine lv_aload_n hx hb dL_law_653 rfl (lv_at hl 0 rfl) ?_
        refine lv_iload_n hx hb dL_law_654 rfl (lv_at hl 3 rfl) ?_
        refine lv_iconst (v := 2) hx hb dL_law_655 (by decide) ?_
        refine lv_iadd hx hb dL_law_656 ?_
        refine va_sld hx hb hX hbl hbA X.2.2.2.2.2 i2 dL_law_657 ?_
        have X := X.swap
        refine l_call (K1 := kM) (ad1 := am) (As := [.int (xs (x3 + 1).toNatClampNeg), .int (xs (x3 + 2).toNatClampNeg)]) (rest := [.int (r15)]) (n := 2) (res := (r15, M')) hx hb hml hown hts hK hE X (c_X10_strong l g am M _ (xs (x3 + 1).toNatClampNeg) (xs (x3 + 2).toNatClampNeg) h10) wd_1400 wd_1401 wd_1402 wd_83 wd_1403 (by decide) (eM_0 g am M) rfl rfl rfl (by decide +kernel) ⟨Nat.le_of_ble_eq_true rfl, Nat.le_of_ble_eq_true rfl⟩ rfl hl.1 (lv_room (Nat.le_of_ble_eq_true rfl)) dL_law_658 ⟨Nat.le_of_ble_eq_true rfl, Nat.le_of_ble_eq_true rfl⟩ (fun H locs X => ?_)
        have X := X.swap
        refine lv_icmp_eq (tgt := 988) hx hb dL_law_661 (by decide) (fun _ => ?_) (fun q => absurd rfl q)
        exact next _ _ hR2 H locs X
      by_cases t16 : op = (16 : Int32)
      · refine lv_tableIn (tgt := 666) (off := 634) hx hb dL_law_32 (by rw [t16]; decide) (by rw [t16]; decide) (by rw [t16]; rfl) (by decide) ?_
        refine lv_aload_n hx hb dL_law_666 rfl (lv_at hl 1 rfl) ?_
        obtain ⟨r16, S', M', h9, h10, hR2⟩ := E_heavy hR
        refine l_call (K1 := kC) (ad1 := ad) (As := []) (rest := []) (n := 0) (res := (r16, S')) hx hb hml hown hts hK hE X (c_X9_heavy l g ad S _  h9) wd_868 wd_869 wd_870 wd_70 wd_871 (by decide) (eC_0 g ad S) rfl rfl rfl (by decide +kernel) ⟨Nat.le_of_ble_eq_true rfl, Nat.le_of_ble_eq_true rfl⟩ rfl hl.1 (lv_room (Nat.le_of_ble_eq_true rfl)) dL_law_667 ⟨Nat.le_of_ble_eq_true rfl, Nat.le_of_ble_eq_true rfl⟩ (fun H locs X => ?_)
        refine lv_aload_n hx hb dL_law_670 rfl (lv_at hl 2 rfl) ?_
        have X := X.swap
        refine l_call (K1 := kM) (ad1 := am) (As := []) (rest := [.int (r16)]) (n := 0) (res := (r16, M')) hx hb hml hown hts hK hE X (c_X10_heavy l g am M _  h10) wd_1404 wd_1405 wd_1406 wd_83 wd_1407 (by decide) (eM_0 g am M) rfl rfl rfl (by decide +kernel) ⟨Nat.le_of_ble_eq_true rfl, Nat.le_of_ble_eq_true rfl⟩ rfl hl.1 (lv_room (Nat.le_of_ble_eq_true rfl)) dL_law_671 ⟨Nat.le_of_ble_eq_true rfl, Nat.le_of_ble_eq_true rfl⟩ (fun H locs X => ?_)
        have X := X.swap
        refine lv_icmp_eq (tgt := 988) hx hb dL_law_674 (by decide) (fun _ => ?_) (fun q => absurd rfl q)
        exact next _ _ hR2 H locs X
      by_cases t17 : op = (17 : Int32)
      · refine lv_tableIn (tgt := 679) (off := 647) hx hb dL_law_32 (by rw [t17]; decide) (by rw [t17]; decide) (by rw [t17]; rfl) (by decide) ?_
        refine lv_aload_n hx hb dL_law_679 rfl (lv_at hl 1 rfl) ?_
        obtain ⟨r17, S', M', h9, h10, hR2⟩ := E_may hR
        refine l_call (K1 := kC) (ad1 := ad) (As := []) (rest := []) (n := 0) (res := (r17, S')) hx hb hml hown hts hK hE X (c_X9_may l g ad S _  h9) wd_876 wd_877 wd_878 wd_70 wd_879 (by decide) (eC_0 g ad S) rfl rfl rfl (by decide +kernel) ⟨Nat.le_of_ble_eq_true rfl, Nat.le_of_ble_eq_true rfl⟩ rfl hl.1 (lv_room (Nat.le_of_ble_eq_true rfl)) dL_law_680 ⟨Nat.le_of_ble_eq_true rfl, Nat.le_of_ble_eq_true rfl⟩ (fun H locs X => ?_)
        refine lv_aload_n hx hb dL_law_683 rfl (lv_at hl 2 rfl) ?_
        have X := X.swap
        refine l_call (K1 := kM) (ad1 := am) (As := []) (rest := [.int (r17)]) (n := 0) (res := (r17, M')) hx hb hml hown hts hK hE X (c_X10_may l g am M _  h10) wd_1408 wd_1409 wd_1410 wd_83 wd_1411 (by decide) (eM_0 g am M) rfl rfl rfl (by decide +kernel) ⟨Nat.le_of_ble_eq_true rfl, Nat.le_of_ble_eq_true rfl⟩ rfl hl.1 (lv_room (Nat.le_of_ble_eq_true rfl)) dL_law_684 ⟨Nat.le_of_ble_eq_true rfl, Nat.le_of_ble_eq_true rfl⟩ (fun H locs X => ?_)
        have X := X.swap
        refine lv_icmp_eq (tgt := 988) hx hb dL_law_687 (by decide) (fun _ => ?_) (fun q => absurd rfl q)
        exact next _ _ hR2 H locs X
      by_cases t18 : op = (18 : Int32)
      · refine lv_tableIn (tgt := 692) (off := 660) hx hb dL_law_32 (by rw [t18]; decide) (by rw [t18]; decide) (by rw [t18]; rfl) (by decide) ?_
        refine lv_aload_n hx hb dL_law_692 rfl (lv_at hl 1 rfl) ?_
        refine lv_aload_n hx hb dL_law_693 rfl (lv_at hl 0 rfl) ?_
        refine lv_iload_n hx hb dL_law_694 rfl (lv_at hl 3 rfl) ?_
        refine lv_iconst (v := 1) hx hb dL_law_695 (by decide) ?_
        refine lv_iadd hx hb dL_law_696 ?_
        refine va_sld hx hb hX hbl hbA X.2.2.2.2.2 i1 dL_law_697 ?_
        obtain ⟨r18, S', M', h9, h10, hR2⟩ := E_months hR (xs (x3 + 1).toNatClampNeg)
        refine l_call (K1 := kC) (ad1 := ad) (As := [.int (xs (x3 + 1).toNatClampNeg)]) (rest := []) (n := 1) (res := (r18, S')) hx hb hml hown hts hK hE X (c_X9_months l g ad S _ (xs (x3 + 1).toNatClampNeg) h9) wd_885 wd_886 wd_887 wd_70 wd_888 (by decide) (eC_0 g ad S) rfl rfl rfl (by decide +kernel) ⟨Nat.le_of_ble_eq_true rfl, Nat.le_of_ble_eq_true rfl⟩ rfl hl.1 (lv_room (Nat.le_of_ble_eq_true rfl)) dL_law_698 ⟨Nat.le_of_ble_eq_true rfl, Nat.le_of_ble_eq_true rfl⟩ (fun H locs X => ?_)
        refine lv_aload_n hx hb dL_law_701 rfl (lv_at hl 2 rfl) ?_
        refine lv_aload_n hx hb dL_law_702 rfl (lv_at hl 0 rfl) ?_
        refine lv_iload_n hx hb dL_law_703 rfl (lv_at hl 3 rfl) ?_
        refine lv_iconst (v := 1) hx hb dL_law_704 (by decide) ?_
        refine lv_iadd hx hb dL_law_705 ?_
        refine va_sld hx hb hX hbl hbA X.2.2.2.2.2 i1 dL_law_706 ?_
        have X := X.swap
        refine l_call (K1 := kM) (ad1 := am) (As := [.int (xs (x3 + 1).toNatClampNeg)]) (rest := [.int (r18)]) (n := 1) (res := (r18, M')) hx hb hml hown hts hK hE X (c_X10_months l g am M _ (xs (x3 + 1).toNatClampNeg) h10) wd_1416 wd_1417 wd_1418 wd_83 wd_1419 (by decide) (eM_0 g am M) rfl rfl rfl (by decide +kernel) ⟨Nat.le_of_ble_eq_true rfl, Nat.le_of_ble_eq_true rfl⟩ rfl hl.1 (lv_room (Nat.le_of_ble_eq_true rfl)) dL_law_707 ⟨Nat.le_of_ble_eq_true rfl, Nat.le_of_ble_eq_true rfl⟩ (fun H locs X => ?_)
        have X := X.swap
        refine lv_icmp_eq (tgt := 988) hx hb dL_law_710 (by decide) (fun _ => ?_) (fun q => absurd rfl q)
        exact next _ _ hR2 H locs X
      by_cases t19 : op = (19 : Int32)
      · refine lv_tableIn (tgt := 715) (off := 683) hx hb dL_law_32 (by rw [t19]; decide) (by rw [t19]; decide) (by rw [t19]; rfl) (by decide) ?_
        refine lv_aload_n hx hb dL_law_715 rfl (lv_at hl 1 rfl) ?_
        refine lv_aload_n hx hb dL_law_716 rfl (lv_at hl 0 rfl) ?_
        refine lv_iload_n hx hb dL_law_717 rfl (lv_at hl 3 rfl) ?_
        refine lv_iconst (v := 1) hx hb dL_law_718 (by decide) ?_
        refine lv_iadd hx hb dL_law_719 ?_
        refine va_sld hx hb hX hbl hbA X.2.2.2.2.2 i1 dL_law_720 ?_
        refine lv_aload_n hx hb dL_law_721 rfl (lv_at hl 0 rfl) ?_
        refine lv_iload_n hx hb dL_law_722 rfl (lv_at hl 3 rfl) ?_
        refine lv_iconst (v := 2) hx hb dL_law_723 (by decide) ?_
        refine lv_iadd hx hb dL_law_724 ?_
        refine va_sld hx hb hX hbl hbA X.2.2.2.2.2 i2 dL_law_725 ?_
        obtain ⟨r19, S', M', h9, h10, hR2⟩ := E_rope hR (xs (x3 + 1).toNatClampNeg) (xs (x3 + 2).toNatClampNeg)
        refine l_call (K1 := kC) (ad1 := ad) (As := [.int (xs (x3 + 1).toNatClampNeg), .int (xs (x3 + 2).toNatClampNeg)]) (rest := []) (n := 2) (res := (r19, S')) hx hb hml hown hts hK hE X (c_X9_rope l g ad S _ (xs (x3 + 1).toNatClampNeg) (xs (x3 + 2).toNatClampNeg) h9) wd_889 wd_890 wd_891 wd_70 wd_892 (by decide) (eC_0 g ad S) rfl rfl rfl (by decide +kernel) ⟨Nat.le_of_ble_eq_true rfl, Nat.le_of_ble_eq_true rfl⟩ rfl hl.1 (lv_room (Nat.le_of_ble_eq_true rfl)) dL_law_726 ⟨Nat.le_of_ble_eq_true rfl, Nat.le_of_ble_eq_true rfl⟩ (fun H locs X => ?_)
        refine lv_aload_n hx hb dL_law_729 rfl (lv_at hl 2 rfl) ?_
        refine lv_aload_n hx hb dL_law_730 rfl (lv_at hl 0 rfl) ?_
        refine lv_iload_n hx hb dL_law_731 rfl (lv_at hl 3 rfl) ?_
        refine lv_iconst (v := 1) hx hb dL_law_732 (by decide) ?_
        refine lv_iadd hx hb dL_law_733 ?_
        refine va_sld hx hb hX hbl hbA X.2.2.2.2.2 i1 dL_law_734 ?_
        refine lv_aload_n hx hb dL_law_735 rfl (lv_at hl 0 rfl) ?_
        refine lv_iload_n hx hb dL_law_736 rfl (lv_at hl 3 rfl) ?_
        refine lv_iconst (v := 2) hx hb dL_law_737 (by decide) ?_
        refine lv_iadd hx hb dL_law_738 ?_
        refine va_sld hx hb hX hbl hbA X.2.2.2.2.2 i2 dL_law_739 ?_
        have X := X.swap
        refine l_call (K1 := kM) (ad1 := am) (As := [.int (xs (x3 + 1).toNatClampNeg), .int (xs (x3 + 2).toNatClampNeg)]) (rest := [.int (r19)]) (n := 2) (res := (r19, M')) hx hb hml hown hts hK hE X (c_X10_rope l g am M _ (xs (x3 + 1).toNatClampNeg) (xs (x3 + 2).toNatClampNeg) h10) wd_1420 wd_1421 wd_1422 wd_83 wd_1423 (by decide) (eM_0 g am M) rfl rfl rfl (by decide +kernel) ⟨Nat.le_of_ble_eq_true rfl, Nat.le_of_ble_eq_true rfl⟩ rfl hl.1 (lv_room (Nat.le_of_ble_eq_true rfl)) dL_law_740 ⟨Nat.le_of_ble_eq_true rfl, Nat.le_of_ble_eq_true rfl⟩ (fun H locs X => ?_)
        have X := X.swap
        refine lv_icmp_eq (tgt := 988) hx hb dL_law_743 (by decide) (fun _ => ?_) (fun q => absurd rfl q)
        exact next _ _ hR2 H locs X
      by_cases t20 : op = (20 : Int32)
      · refine lv_tableIn (tgt := 748) (off := 716) hx hb dL_law_32 (by rw [t20]; decide) (by rw [t20]; decide) (by rw [t20]; rfl) (by decide) ?_
        refine lv_aload_n hx hb dL_law_748 rfl (lv_at hl 1 rfl) ?_
        refine lv_aload_n hx hb dL_law_749 rfl (lv_at hl 0 rfl) ?_
        refine lv_iload_n hx hb dL_law_750 rfl (lv_at hl 3 rfl) ?_
        refine lv_iconst (v := 1) hx hb dL_law_751 (by decide) ?_
        refine lv_iadd hx hb dL_law_752 ?_
        refine va_sld hx hb hX hbl hbA X.2.2.2.2.2 i1 dL_law_753 ?_
        refine lv_aload_n hx hb dL_law_754 rfl (lv_at hl 0 rfl) ?_
        refine lv_iload_n hx hb dL_law_755 rfl (lv_at hl 3 rfl) ?_
        refine lv_iconst (v := 2) hx hb dL_law_756 (by decide) ?_
        refine lv_iadd hx hb dL_law_757 ?_
        refine va_sld hx hb hX hbl hbA X.2.2.2.2.2 i2 dL_law_758 ?_
        obtain ⟨r20, S', M', h9, h10, hR2⟩ := E_turn hR (xs (x3 + 1).toNatClampNeg) (xs (x3 + 2).toNatClampNeg)
        refine l_call (K1 := kC) (ad1 := ad) (As := [.int (xs (x3 + 1).toNatClampNeg), .int (xs (x3 + 2).toNatClampNeg)]) (rest := []) (n := 2) (res := (r20, S')) hx hb hml hown hts hK hE X (c_X9_turn l g ad S _ (xs (x3 + 1).toNatClampNeg) (xs (x3 + 2).toNatClampNeg) h9) wd_893 wd_894 wd_895 wd_70 wd_896 (by decide) (eC_0 g ad S) rfl rfl rfl (by decide +kernel) ⟨Nat.le_of_ble_eq_true rfl, Nat.le_of_ble_eq_true rfl⟩ rfl hl.1 (lv_room (Nat.le_of_ble_eq_true rfl)) dL_law_759 ⟨Nat.le_of_ble_eq_true rfl, Nat.le_of_ble_eq_true rfl⟩ (fun H locs X => ?_)
        refine lv_aload_n hx hb dL_law_762 rfl (lv_at hl 2 rfl) ?_
        refine lv_aload_n hx hb dL_law_763 rfl (lv_at hl 0 rfl) ?_
        refine lv_iload_n hx hb dL_law_764 rfl (lv_at hl 3 rfl) ?_
        refine lv_iconst (v := 1) hx hb dL_law_765 (by decide) ?_
        refine lv_iadd hx hb dL_law_766 ?_
        refine va_sld hx hb hX hbl hbA X.2.2.2.2.2 i1 dL_law_767 ?_
        refine lv_aload_n hx hb dL_law_768 rfl (lv_at hl 0 rfl) ?_
        refine lv_iload_n hx hb dL_law_769 rfl (lv_at hl 3 rfl) ?_
        refine lv_iconst (v := 2) hx hb dL_law_770 (by decide) ?_
        refine lv_iadd hx hb dL_law_771 ?_
        refine va_sld hx hb hX hbl hbA X.2.2.2.2.2 i2 dL_law_772 ?_
        have X := X.swap
        refine l_call (K1 := kM) (ad1 := am) (As := [.int (xs (x3 + 1).toNatClampNeg), .int (xs (x3 + 2).toNatClampNeg)]) (rest := [.int (r20)]) (n := 2) (res := (r20, M')) hx hb hml hown hts hK hE X (c_X10_turn l g am M _ (xs (x3 + 1).toNatClampNeg) (xs (x3 + 2).toNatClampNeg) h10) wd_1424 wd_1425 wd_1426 wd_83 wd_1427 (by decide) (eM_0 g am M) rfl rfl rfl (by decide +kernel) ⟨Nat.le_of_ble_eq_true rfl, Nat.le_of_ble_eq_true rfl⟩ rfl hl.1 (lv_room (Nat.le_of_ble_eq_true rfl)) dL_law_773 ⟨Nat.le_of_ble_eq_true rfl, Nat.le_of_ble_eq_true rfl⟩ (fun H locs X => ?_)
        have X := X.swap
        refine lv_icmp_eq (tgt := 988) hx hb dL_law_776 (by decide) (fun _ => ?_) (fun q => absurd rfl q)
        exact next _ _ hR2 H locs X
      by_cases t21 : op = (21 : Int32)
      · refine lv_tableIn (tgt := 781) (off := 749) hx hb dL_law_32 (by rw [t21]; decide) (by rw [t21]; decide) (by rw [t21]; rfl) (by decide) ?_
        refine lv_aload_n hx hb dL_law_781 rfl (lv_at hl 1 rfl) ?_
        refine lv_aload_n hx hb dL_law_782 rfl (lv_at hl 0 rfl) ?_
        refine lv_iload_n hx hb dL_law_783 rfl (lv_at hl 3 rfl) ?_
        refine lv_iconst (v := 1) hx hb dL_law_784 (by decide) ?_
        refine lv_iadd hx hb dL_law_785 ?_
        refine va_sld hx hb hX hbl hbA X.2.2.2.2.2 i1 dL_law_786 ?_
        refine lv_aload_n hx hb dL_law_787 rfl (lv_at hl 0 rfl) ?_
        refine lv_iload_n hx hb dL_law_788 rfl (lv_at hl 3 rfl) ?_
        refine lv_iconst (v := 2) hx hb dL_law_789 (by decide) ?_
        refine lv_iadd hx hb dL_law_790 ?_
        refine va_sld hx hb hX hbl hbA X.2.2.2.2.2 i2 dL_law_791 ?_
        obtain ⟨r21, S', M', h9, h10, hR2⟩ := E_film hR (xs (x3 + 1).toNatClampNeg) (xs (x3 + 2).toNatClampNeg)
        refine l_call (K1 := kC) (ad1 := ad) (As := [.int (xs (x3 + 1).toNatClampNeg), .int (xs (x3 + 2).toNatClampNeg)]) (rest := []) (n := 2) (res := (r21, S')) hx hb hml hown hts hK hE X (c_X9_film l g ad S _ (xs (x3 + 1).toNatClampNeg) (xs (x3 + 2).toNatClampNeg) h9) wd_897 wd_898 wd_899 wd_70 wd_900 (by decide) (eC_0 g ad S) rfl rfl rfl (by decide +kernel) ⟨Nat.le_of_ble_eq_true rfl, Nat.le_of_ble_eq_true rfl⟩ rfl hl.1 (lv_room (Nat.le_of_ble_eq_true rfl)) dL_law_792 ⟨Nat.le_of_ble_eq_true rfl, Nat.le_of_ble_eq_true rfl⟩ (fun H locs X => ?_)
        refine lv_aload_n hx hb dL_law_795 rfl (lv_at hl 2 rfl) ?_
        refine lv_aload_n hx hb dL_law_796 rfl (lv_at hl 0 rfl) ?_
        refine lv_iload_n hx hb dL_law_797 rfl (lv_at hl 3 rfl) ?_
        refine lv_iconst (v := 1) hx hb dL_law_798 (by decide) ?_
        refine lv_iadd hx hb dL_law_799 ?_
        refine va_sld hx hb hX hbl hbA X.2.2.2.2.2 i1 dL_law_800 ?_
        refine lv_aload_n hx hb dL_law_801 rfl (lv_at hl 0 rfl) ?_
        refine lv_iload_n hx hb dL_law_802 rfl (lv_at hl 3 rfl) ?_
        refine lv_iconst (v := 2) hx hb dL_law_803 (by decide) ?_
        refine lv_iadd hx hb dL_law_804 ?_
        refine va_sld hx hb hX hbl hbA X.2.2.2.2.2 i2 dL_law_805 ?_
        have X := X.swap
        refine l_call (K1 := kM) (ad1 := am) (As := [.int (xs (x3 + 1).toNatClampNeg), .int (xs (x3 + 2).toNatClampNeg)]) (rest := [.int (r21)]) (n := 2) (res := (r21, M')) hx hb hml hown hts hK hE X (c_X10_film l g am M _ (xs (x3 + 1).toNatClampNeg) (xs (x3 + 2).toNatClampNeg) h10) wd_1428 wd_1429 wd_1430 wd_83 wd_1431 (by decide) (eM_0 g am M) rfl rfl rfl (by decide +kernel) ⟨Nat.le_of_ble_eq_true rfl, Nat.le_of_ble_eq_true rfl⟩ rfl hl.1 (lv_room (Nat.le_of_ble_eq_true rfl)) dL_law_806 ⟨Nat.le_of_ble_eq_true rfl, Nat.le_of_ble_eq_true rfl⟩ (fun H locs X => ?_)
        have X := X.swap
        refine lv_icmp_eq (tgt := 988) hx hb dL_law_809 (by decide) (fun _ => ?_) (fun q => absurd rfl q)
        exact next _ _ hR2 H locs X
      by_cases t22 : op = (22 : Int32)
      · refine lv_tableIn (tgt := 814) (off := 782) hx hb dL_law_32 (by rw [t22]; decide) (by rw [t22]; decide) (by rw [t22]; rfl) (by decide) ?_
        refine lv_aload_n hx hb dL_law_814 rfl (lv_at hl 1 rfl) ?_
        refine lv_aload_n hx hb dL_law_815 rfl (lv_at hl 0 rfl) ?_
        refine lv_iload_n hx hb dL_law_816 rfl (lv_at hl 3 rfl) ?_
        refine lv_iconst (v := 1) hx hb dL_law_817 (by decide) ?_
        refine lv_iadd hx hb dL_law_818 ?_
        refine va_sld hx hb hX hbl hbA X.2.2.2.2.2 i1 dL_law_819 ?_
        obtain ⟨r22, S', M', h9, h10, hR2⟩ := E_age hR (xs (x3 + 1).toNatClampNeg)
        refine l_call (K1 := kC) (ad1 := ad) (As := [.int (xs (x3 + 1).toNatClampNeg)]) (rest := []) (n := 1) (res := (r22, S')) hx hb hml hown hts hK hE X (c_X9_age l g ad S _ (xs (x3 + 1).toNatClampNeg) h9) wd_907 wd_908 wd_909 wd_70 wd_910 (by decide) (eC_0 g ad S) rfl rfl rfl (by decide +kernel) ⟨Nat.le_of_ble_eq_true rfl, Nat.le_of_ble_eq_true rfl⟩ rfl hl.1 (lv_room (Nat.le_of_ble_eq_true rfl)) dL_law_820 ⟨Nat.le_of_ble_eq_true rfl, Nat.le_of_ble_eq_true rfl⟩ (fun H locs X => ?_)
        refine lv_aload_n hx hb dL_law_823 rfl (lv_at hl 2 rfl) ?_
        refine lv_aload_n hx hb dL_law_824 rfl (lv_at hl 0 rfl) ?_
        refine lv_iload_n hx hb dL_law_825 rfl (lv_at hl 3 rfl) ?_
        refine lv_iconst (v := 1) hx hb dL_law_826 (by decide) ?_
        refine lv_iadd hx hb dL_law_827 ?_
        refine va_sld hx hb hX hbl hbA X.2.2.2.2.2 i1 dL_law_828 ?_
        have X := X.swap
        refine l_call (K1 := kM) (ad1 := am) (As := [.int (xs (x3 + 1).toNatClampNeg)]) (rest := [.int (r22)]) (n := 1) (res := (r22, M')) hx hb hml hown hts hK hE X (c_X10_age l g am M _ (xs (x3 + 1).toNatClampNeg) h10) wd_1434 wd_1435 wd_1436 wd_83 wd_1437 (by decide) (eM_0 g am M) rfl rfl rfl (by decide +kernel) ⟨Nat.le_of_ble_eq_true rfl, Nat.le_of_ble_eq_true rfl⟩ rfl hl.1 (lv_room (Nat.le_of_ble_eq_true rfl)) dL_law_829 ⟨Nat.le_of_ble_eq_true rfl, Nat.le_of_ble_eq_true rfl⟩ (fun H locs X => ?_)
        have X := X.swap
        refine lv_icmp_eq (tgt := 988) hx hb dL_law_832 (by decide) (fun _ => ?_) (fun q => absurd rfl q)
        exact next _ _ hR2 H locs X
      by_cases t23 : op = (23 : Int32)
      · refine lv_tableIn (tgt := 837) (off := 805) hx hb dL_law_32 (by rw [t23]; decide) (by rw [t23]; decide) (by rw [t23]; rfl) (by decide) ?_
        refine lv_aload_n hx hb dL_law_837 rfl (lv_at hl 1 rfl) ?_
        refine lv_aload_n hx hb dL_law_838 rfl (lv_at hl 0 rfl) ?_
        refine lv_iload_n hx hb dL_law_839 rfl (lv_at hl 3 rfl) ?_
        refine lv_iconst (v := 1) hx hb dL_law_840 (by decide) ?_
        refine lv_iadd hx hb dL_law_841 ?_
        refine va_sld hx hb hX hbl hbA X.2.2.2.2.2 i1 dL_law_842 ?_
        obtain ⟨r23, S', M', h9, h10, hR2⟩ := E_harmed hR (xs (x3 + 1).toNatClampNeg)
        refine l_call (K1 := kC) (ad1 := ad) (As := [.int (xs (x3 + 1).toNatClampNeg)]) (rest := []) (n := 1) (res := (r23, S')) hx hb hml hown hts hK hE X (c_X9_harmed l g ad S _ (xs (x3 + 1).toNatClampNeg) h9) wd_911 wd_912 wd_913 wd_70 wd_914 (by decide) (eC_0 g ad S) rfl rfl rfl (by decide +kernel) ⟨Nat.le_of_ble_eq_true rfl, Nat.le_of_ble_eq_true rfl⟩ rfl hl.1 (lv_room (Nat.le_of_ble_eq_true rfl)) dL_law_843 ⟨Nat.le_of_ble_eq_true rfl, Nat.le_of_ble_eq_true rfl⟩ (fun H locs X => ?_)
        refine lv_aload_n hx hb dL_law_846 rfl (lv_at hl 2 rfl) ?_
        refine lv_aload_n hx hb dL_law_847 rfl (lv_at hl 0 rfl) ?_
        refine lv_iload_n hx hb dL_law_848 rfl (lv_at hl 3 rfl) ?_
        refine lv_iconst (v := 1) hx hb dL_law_849 (by decide) ?_
        refine lv_iadd hx hb dL_law_850 ?_
        refine va_sld hx hb hX hbl hbA X.2.2.2.2.2 i1 dL_law_851 ?_
        have X := X.swap
        refine l_call (K1 := kM) (ad1 := am) (As := [.int (xs (x3 + 1).toNatClampNeg)]) (rest := [.int (r23)]) (n := 1) (res := (r23, M')) hx hb hml hown hts hK hE X (c_X10_harmed l g am M _ (xs (x3 + 1).toNatClampNeg) h10) wd_1438 wd_1439 wd_1440 wd_83 wd_1441 (by decide) (eM_0 g am M) rfl rfl rfl (by decide +kernel) ⟨Nat.le_of_ble_eq_true rfl, Nat.le_of_ble_eq_true rfl⟩ rfl hl.1 (lv_room (Nat.le_of_ble_eq_true rfl)) dL_law_852 ⟨Nat.le_of_ble_eq_true rfl, Nat.le_of_ble_eq_true rfl⟩ (fun H locs X => ?_)
        have X := X.swap
        refine lv_icmp_eq (tgt := 988) hx hb dL_law_855 (by decide) (fun _ => ?_) (fun q => absurd rfl q)
        exact next _ _ hR2 H locs X
      by_cases t24 : op = (24 : Int32)
      · refine lv_tableIn (tgt := 860) (off := 828) hx hb dL_law_32 (by rw [t24]; decide) (by rw [t24]; decide) (by rw [t24]; rfl) (by decide) ?_
        refine lv_aload_n hx hb dL_law_860 rfl (lv_at hl 1 rfl) ?_
        obtain ⟨r24, S', M', h9, h10, hR2⟩ := E_enough hR
        refine l_call (K1 := kC) (ad1 := ad) (As := []) (rest := []) (n := 0) (res := (r24, S')) hx hb hml hown hts hK hE X (c_X9_enough l g ad S _  h9) wd_932 wd_933 wd_934 wd_70 wd_935 (by decide) (eC_0 g ad S) rfl rfl rfl (by decide +kernel) ⟨Nat.le_of_ble_eq_true rfl, Nat.le_of_ble_eq_true rfl⟩ rfl hl.1 (lv_room (Nat.le_of_ble_eq_true rfl)) dL_law_861 ⟨Nat.le_of_ble_eq_true rfl, Nat.le_of_ble_eq_true rfl⟩ (fun H locs X => ?_)
        refine lv_aload_n hx hb dL_law_864 rfl (lv_at hl 2 rfl) ?_
        have X := X.swap
        refine l_call (K1 := kM) (ad1 := am) (As := []) (rest := [.int (r24)]) (n := 0) (res := (r24, M')) hx hb hml hown hts hK hE X (c_X10_enough l g am M _  h10) wd_1455 wd_1456 wd_1457 wd_83 wd_1458 (by decide) (eM_0 g am M) rfl rfl rfl (by decide +kernel) ⟨Nat.le_of_ble_eq_true rfl, Nat.le_of_ble_eq_true rfl⟩ rfl hl.1 (lv_room (Nat.le_of_ble_eq_true rfl)) dL_law_865 ⟨Nat.le_of_ble_eq_true rfl, Nat.le_of_ble_eq_true rfl⟩ (fun H locs X => ?_)
        have X := X.swap
        refine lv_icmp_eq (tgt := 988) hx hb dL_law_868 (by decide) (fun _ => ?_) (fun q => absurd rfl q)
        exact next _ _ hR2 H locs X
      by_cases t25 : op = (25 : Int32)
      · refine lv_tableIn (tgt := 873) (off := 841) hx hb dL_law_32 (by rw [t25]; decide) (by rw [t25]; decide) (by rw [t25]; rfl) (by decide) ?_
        refine lv_aload_n hx hb dL_law_873 rfl (lv_at hl 1 rfl) ?_
        refine lv_aload_n hx hb dL_law_874 rfl (lv_at hl 0 rfl) ?_
        refine lv_iload_n hx hb dL_law_875 rfl (lv_at hl 3 rfl) ?_
        refine lv_iconst (v := 1) hx hb dL_law_876 (by decide) ?_
        refine lv_iadd hx hb dL_law_877 ?_
        refine va_sld hx hb hX hbl hbA X.2.2.2.2.2 i1 dL_law_878 ?_
        obtain ⟨r25, S', M', h9, h10, hR2⟩ := E_seed hR (xs (x3 + 1).toNatClampNeg)
        refine l_call (K1 := kC) (ad1 := ad) (As := [.int (xs (x3 + 1).toNatClampNeg)]) (rest := []) (n := 1) (res := (r25, S')) hx hb hml hown hts hK hE X (c_X9_seed l g ad S _ (xs (x3 + 1).toNatClampNeg) h9) wd_942 wd_943 wd_944 wd_70 wd_945 (by decide) (eC_0 g ad S) rfl rfl rfl (by decide +kernel) ⟨Nat.le_of_ble_eq_true rfl, Nat.le_of_ble_eq_true rfl⟩ rfl hl.1 (lv_room (Nat.le_of_ble_eq_true rfl)) dL_law_879 ⟨Nat.le_of_ble_eq_true rfl, Nat.le_of_ble_eq_true rfl⟩ (fun H locs X => ?_)
        refine lv_aload_n hx hb dL_law_882 rfl (lv_at hl 2 rfl) ?_
        refine lv_aload_n hx hb dL_law_883 rfl (lv_at hl 0 rfl) ?_
        refine lv_iload_n hx hb dL_law_884 rfl (lv_at hl 3 rfl) ?_
        refine lv_iconst (v := 1) hx hb dL_law_885 (by decide) ?_
        refine lv_iadd hx hb dL_law_886 ?_
        refine va_sld hx hb hX hbl hbA X.2.2.2.2.2 i1 dL_law_887 ?_
        have X := X.swap
        refine l_call (K1 := kM) (ad1 := am) (As := [.int (xs (x3 + 1).toNatClampNeg)]) (rest := [.int (r25)]) (n := 1) (res := (r25, M')) hx hb hml hown hts hK hE X (c_X10_seed l g am M _ (xs (x3 + 1).toNatClampNeg) h10) wd_1462 wd_1463 wd_1464 wd_83 wd_1465 (by decide) (eM_0 g am M) rfl rfl rfl (by decide +kernel) ⟨Nat.le_of_ble_eq_true rfl, Nat.le_of_ble_eq_true rfl⟩ rfl hl.1 (lv_room (Nat.le_of_ble_eq_true rfl)) dL_law_888 ⟨Nat.le_of_ble_eq_true rfl, Nat.le_of_ble_eq_true rfl⟩ (fun H locs X => ?_)
        have X := X.swap
        refine lv_icmp_eq (tgt := 988) hx hb dL_law_891 (by decide) (fun _ => ?_) (fun q => absurd rfl q)
        exact next _ _ hR2 H locs X
      by_cases t26 : op = (26 : Int32)
      · refine lv_tableIn (tgt := 896) (off := 864) hx hb dL_law_32 (by rw [t26]; decide) (by rw [t26]; decide) (by rw [t26]; rfl) (by decide) ?_
        refine lv_aload_n hx hb dL_law_896 rfl (lv_at hl 1 rfl) ?_
        refine lv_aload_n hx hb dL_law_897 rfl (lv_at hl 0 rfl) ?_
        refine lv_iload_n hx hb dL_law_898 rfl (lv_at hl 3 rfl) ?_
        refine lv_iconst (v := 1) hx hb dL_law_899 (by decide) ?_
        refine lv_iadd hx hb dL_law_900 ?_
        refine va_sld hx hb hX hbl hbA X.2.2.2.2.2 i1 dL_law_901 ?_
        obtain ⟨r26, S', M', h9, h10, hR2⟩ := E_afternoon hR (xs (x3 + 1).toNatClampNeg)
        refine l_call (K1 := kC) (ad1 := ad) (As := [.int (xs (x3 + 1).toNatClampNeg)]) (rest := []) (n := 1) (res := (r26, S')) hx hb hml hown hts hK hE X (c_X9_afternoon l g ad S _ (xs (x3 + 1).toNatClampNeg) h9) wd_946 wd_947 wd_948 wd_70 wd_949 (by decide) (eC_0 g ad S) rfl rfl rfl (by decide +kernel) ⟨Nat.le_of_ble_eq_true rfl, Nat.le_of_ble_eq_true rfl⟩ rfl hl.1 (lv_room (Nat.le_of_ble_eq_true rfl)) dL_law_902 ⟨Nat.le_of_ble_eq_true rfl, Nat.le_of_ble_eq_true rfl⟩ (fun H locs X => ?_)
        refine lv_aload_n hx hb dL_law_905 rfl (lv_at hl 2 rfl) ?_
        refine lv_aload_n hx hb dL_law_906 rfl (lv_at hl 0 rfl) ?_
        refine lv_iload_n hx hb dL_law_907 rfl (lv_at hl 3 rfl) ?_
        refine lv_iconst (v := 1) hx hb dL_law_908 (by decide) ?_
        refine lv_iadd hx hb dL_law_909 ?_
        refine va_sld hx hb hX hbl hbA X.2.2.2.2.2 i1 dL_law_910 ?_
        have X := X.swap
        refine l_call (K1 := kM) (ad1 := am) (As := [.int (xs (x3 + 1).toNatClampNeg)]) (rest := [.int (r26)]) (n := 1) (res := (r26, M')) hx hb hml hown hts hK hE X (c_X10_afternoon l g am M _ (xs (x3 + 1).toNatClampNeg) h10) wd_1466 wd_1467 wd_1468 wd_83 wd_1469 (by decide) (eM_0 g am M) rfl rfl rfl (by decide +kernel) ⟨Nat.le_of_ble_eq_true rfl, Nat.le_of_ble_eq_true rfl⟩ rfl hl.1 (lv_room (Nat.le_of_ble_eq_true rfl)) dL_law_911 ⟨Nat.le_of_ble_eq_true rfl, Nat.le_of_ble_eq_true rfl⟩ (fun H locs X => ?_)
        have X := X.swap
        refine lv_icmp_eq (tgt := 988) hx hb dL_law_914 (by decide) (fun _ => ?_) (fun q => absurd rfl q)
        exact next _ _ hR2 H locs X
      by_cases t27 : op = (27 : Int32)
      · refine lv_tableIn (tgt := 919) (off := 887) hx hb dL_law_32 (by rw [t27]; decide) (by rw [t27]; decide) (by rw [t27]; rfl) (by decide) ?_
        refine lv_aload_n hx hb dL_law_919 rfl (lv_at hl 1 rfl) ?_
        refine lv_aload_n hx hb dL_law_920 rfl (lv_at hl 0 rfl) ?_
        refine lv_iload_n hx hb dL_law_921 rfl (lv_at hl 3 rfl) ?_
        refine lv_iconst (v := 1) hx hb dL_law_922 (by decide) ?_
        refine lv_iadd hx hb dL_law_923 ?_
        refine va_sld hx hb hX hbl hbA X.2.2.2.2.2 i1 dL_law_924 ?_
        obtain ⟨r27, h9, h10, hR2⟩ := E_ends hR (xs (x3 + 1).toNatClampNeg)
        refine l_call (K1 := kC) (ad1 := ad) (As := [.int (xs (x3 + 1).toNatClampNeg)]) (rest := []) (n := 1) (res := (r27, S)) hx hb hml hown hts hK hE X (c_X9_ends l g ad S _ (xs (x3 + 1).toNatClampNeg) h9) wd_963 wd_964 wd_965 wd_70 wd_966 (by decide) (eC_0 g ad S) rfl rfl rfl (by decide +kernel) ⟨Nat.le_of_ble_eq_true rfl, Nat.le_of_ble_eq_true rfl⟩ rfl hl.1 (lv_room (Nat.le_of_ble_eq_true rfl)) dL_law_925 ⟨Nat.le_of_ble_eq_true rfl, Nat.le_of_ble_eq_true rfl⟩ (fun H locs X => ?_)
        refine lv_aload_n hx hb dL_law_928 rfl (lv_at hl 2 rfl) ?_
        refine lv_aload_n hx hb dL_law_929 rfl (lv_at hl 0 rfl) ?_
        refine lv_iload_n hx hb dL_law_930 rfl (lv_at hl 3 rfl) ?_
        refine lv_iconst (v := 1) hx hb dL_law_931 (by decide) ?_
        refine lv_iadd hx hb dL_law_932 ?_
        refine va_sld hx hb hX hbl hbA X.2.2.2.2.2 i1 dL_law_933 ?_
        have X := X.swap
        refine l_call (K1 := kM) (ad1 := am) (As := [.int (xs (x3 + 1).toNatClampNeg)]) (rest := [.int (r27)]) (n := 1) (res := (r27, M)) hx hb hml hown hts hK hE X (c_X10_ends l g am M _ (xs (x3 + 1).toNatClampNeg) h10) wd_1478 wd_1479 wd_1480 wd_83 wd_1481 (by decide) (eM_0 g am M) rfl rfl rfl (by decide +kernel) ⟨Nat.le_of_ble_eq_true rfl, Nat.le_of_ble_eq_true rfl⟩ rfl hl.1 (lv_room (Nat.le_of_ble_eq_true rfl)) dL_law_934 ⟨Nat.le_of_ble_eq_true rfl, Nat.le_of_ble_eq_true rfl⟩ (fun H locs X => ?_)
        have X := X.swap
        refine lv_icmp_eq (tgt := 988) hx hb dL_law_937 (by decide) (fun _ => ?_) (fun q => absurd rfl q)
        exact next _ _ hR2 H locs X
      by_cases t28 : op = (28 : Int32)
      · refine lv_tableIn (tgt := 942) (off := 910) hx hb dL_law_32 (by rw [t28]; decide) (by rw [t28]; decide) (by rw [t28]; rfl) (by decide) ?_
        refine lv_aload_n hx hb dL_law_942 rfl (lv_at hl 1 rfl) ?_
        refine lv_aload_n hx hb dL_law_943 rfl (lv_at hl 0 rfl) ?_
        refine lv_iload_n hx hb dL_law_944 rfl (lv_at hl 3 rfl) ?_
        refine lv_iconst (v := 1) hx hb dL_law_945 (by decide) ?_
        refine lv_iadd hx hb dL_law_946 ?_
        refine va_sld hx hb hX hbl hbA X.2.2.2.2.2 i1 dL_law_947 ?_
        obtain ⟨r28, S', M', h9, h10, hR2⟩ := E_keep hR (xs (x3 + 1).toNatClampNeg)
        refine l_call (K1 := kC) (ad1 := ad) (As := [.int (xs (x3 + 1).toNatClampNeg)]) (rest := []) (n := 1) (res := (r28, S')) hx hb hml hown hts hK hE X (c_X9_keep l g ad S _ (xs (x3 + 1).toNatClampNeg) h9) wd_971 wd_972 wd_973 wd_70 wd_974 (by decide) (eC_0 g ad S) rfl rfl rfl (by decide +kernel) ⟨Nat.le_of_ble_eq_true rfl, Nat.le_of_ble_eq_true rfl⟩ rfl hl.1 (lv_room (Nat.le_of_ble_eq_true rfl)) dL_law_948 ⟨Nat.le_of_ble_eq_true rfl, Nat.le_of_ble_eq_true rfl⟩ (fun H locs X => ?_)
        refine lv_aload_n hx hb dL_law_951 rfl (lv_at hl 2 rfl) ?_
        refine lv_aload_n hx hb dL_law_952 rfl (lv_at hl 0 rfl) ?_
        refine lv_iload_n hx hb dL_law_953 rfl (lv_at hl 3 rfl) ?_
        refine lv_iconst (v := 1) hx hb dL_law_954 (by decide) ?_
        refine lv_iadd hx hb dL_law_955 ?_
        refine va_sld hx hb hX hbl hbA X.2.2.2.2.2 i1 dL_law_956 ?_
        have X := X.swap
        refine l_call (K1 := kM) (ad1 := am) (As := [.int (xs (x3 + 1).toNatClampNeg)]) (rest := [.int (r28)]) (n := 1) (res := (r28, M')) hx hb hml hown hts hK hE X (c_X10_keep l g am M _ (xs (x3 + 1).toNatClampNeg) h10) wd_1482 wd_1483 wd_1484 wd_83 wd_1485 (by decide) (eM_0 g am M) rfl rfl rfl (by decide +kernel) ⟨Nat.le_of_ble_eq_true rfl, Nat.le_of_ble_eq_true rfl⟩ rfl hl.1 (lv_room (Nat.le_of_ble_eq_true rfl)) dL_law_957 ⟨Nat.le_of_ble_eq_true rfl, Nat.le_of_ble_eq_true rfl⟩ (fun H locs X => ?_)
        have X := X.swap
        refine lv_icmp_eq (tgt := 988) hx hb dL_law_960 (by decide) (fun _ => ?_) (fun q => absurd rfl q)
        exact next _ _ hR2 H locs X
      by_cases t29 : op = (29 : Int32)
      · refine lv_tableIn (tgt := 965) (off := 933) hx hb dL_law_32 (by rw [t29]; decide) (by rw [t29]; decide) (by rw [t29]; rfl) (by decide) ?_
        refine lv_aload_n hx hb dL_law_965 rfl (lv_at hl 1 rfl) ?_
        refine lv_aload_n hx hb dL_law_966 rfl (lv_at hl 0 rfl) ?_
        refine lv_iload_n hx hb dL_law_967 rfl (lv_at hl 3 rfl) ?_
        refine lv_iconst (v := 1) hx hb dL_law_968 (by decide) ?_
        refine lv_iadd hx hb dL_law_969 ?_
        refine va_sld hx hb hX hbl hbA X.2.2.2.2.2 i1 dL_law_970 ?_
        obtain ⟨r29, S', M', h9, h10, hR2⟩ := E_goBack hR (xs (x3 + 1).toNatClampNeg)
        refine l_call (K1 := kC) (ad1 := ad) (As := [.int (xs (x3 + 1).toNatClampNeg)]) (rest := []) (n := 1) (res := (r29, S')) hx hb hml hown hts hK hE X (c_X9_goBack l g ad S _ (xs (x3 + 1).toNatClampNeg) h9) wd_985 wd_986 wd_987 wd_70 wd_988 (by decide) (eC_0 g ad S) rfl rfl rfl (by decide +kernel) ⟨Nat.le_of_ble_eq_true rfl, Nat.le_of_ble_eq_true rfl⟩ rfl hl.1 (lv_room (Nat.le_of_ble_eq_true rfl)) dL_law_971 ⟨Nat.le_of_ble_eq_true rfl, Nat.le_of_ble_eq_true rfl⟩ (fun H locs X => ?_)
        refine lv_aload_n hx hb dL_law_974 rfl (lv_at hl 2 rfl) ?_
        refine lv_aload_n hx hb dL_law_975 rfl (lv_at hl 0 rfl) ?_
        refine lv_iload_n hx hb dL_law_976 rfl (lv_at hl 3 rfl) ?_
        refine lv_iconst (v := 1) hx hb dL_law_977 (by decide) ?_
        refine lv_iadd hx hb dL_law_978 ?_
        refine va_sld hx hb hX hbl hbA X.2.2.2.2.2 i1 dL_law_979 ?_
        have X := X.swap
        refine l_call (K1 := kM) (ad1 := am) (As := [.int (xs (x3 + 1).toNatClampNeg)]) (rest := [.int (r29)]) (n := 1) (res := (r29, M')) hx hb hml hown hts hK hE X (c_X10_goBack l g am M _ (xs (x3 + 1).toNatClampNeg) h10) wd_1486 wd_1487 wd_1488 wd_83 wd_1489 (by decide) (eM_0 g am M) rfl rfl rfl (by decide +kernel) ⟨Nat.le_of_ble_eq_true rfl, Nat.le_of_ble_eq_true rfl⟩ rfl hl.1 (lv_room (Nat.le_of_ble_eq_true rfl)) dL_law_980 ⟨Nat.le_of_ble_eq_true rfl, Nat.le_of_ble_eq_true rfl⟩ (fun H locs X => ?_)
        have X := X.swap
        refine lv_icmp_eq (tgt := 988) hx hb dL_law_983 (by decide) (fun _ => ?_) (fun q => absurd rfl q)
        exact next _ _ hR2 H locs X
      refine lv_tableOut (tgt := 988) hx hb dL_law_32 (tb_out (fun z z1 z2 ze => ?_)) (by decide) ?_
      · rcases (show z = 0 ∨ z = 1 ∨ z = 2 ∨ z = 3 ∨ z = 4 ∨ z = 5 ∨ z = 6 ∨ z = 7 ∨ z = 8 ∨ z = 9 ∨ z = 10 ∨ z = 11 ∨ z = 12 ∨ z = 13 ∨ z = 14 ∨ z = 15 ∨ z = 16 ∨ z = 17 ∨ z = 18 ∨ z = 19 ∨ z = 20 ∨ z = 21 ∨ z = 22 ∨ z = 23 ∨ z = 24 ∨ z = 25 ∨ z = 26 ∨ z = 27 ∨ z = 28 ∨ z = 29 by omega) with rfl | rfl | rfl | rfl | rfl | rfl | rfl | rfl | rfl | rfl | rfl | rfl | rfl | rfl | rfl | rfl | rfl | rfl | rfl | rfl | rfl | rfl | rfl | rfl | rfl | rfl | rfl | rfl | rfl | rfl
        · exact t0 (Int32.toInt_inj.mp (ze.trans (by decide)))
        · exact t1 (Int32.toInt_inj.mp (ze.trans (by decide)))
        · exact t2 (Int32.toInt_inj.mp (ze.trans (by decide)))
        · exact t3 (Int32.toInt_inj.mp (ze.trans (by decide)))
        · exact t4 (Int32.toInt_inj.mp (ze.trans (by decide)))
        · exact t5 (Int32.toInt_inj.mp (ze.trans (by decide)))
        · exact t6 (Int32.toInt_inj.mp (ze.trans (by decide)))
        · exact t7 (Int32.toInt_inj.mp (ze.trans (by decide)))
        · exact t8 (Int32.toInt_inj.mp (ze.trans (by decide)))
        · exact t9 (Int32.toInt_inj.mp (ze.trans (by decide)))
        · exact t10 (Int32.toInt_inj.mp (ze.trans (by decide)))
        · exact t11 (Int32.toInt_inj.mp (ze.trans (by decide)))
        · exact t12 (Int32.toInt_inj.mp (ze.trans (by decide)))
        · exact t13 (Int32.toInt_inj.mp (ze.trans (by decide)))
        · exact t14 (Int32.toInt_inj.mp (ze.trans (by decide)))
        · exact t15 (Int32.toInt_inj.mp (ze.trans (by decide)))
        · exact t16 (Int32.toInt_inj.mp (ze.trans (by decide)))
        · exact t17 (Int32.toInt_inj.mp (ze.trans (by decide)))
        · exact t18 (Int32.toInt_inj.mp (ze.trans (by decide)))
        · exact t19 (Int32.toInt_inj.mp (ze.trans (by decide)))
        · exact t20 (Int32.toInt_inj.mp (ze.trans (by decide)))
        · exact t21 (Int32.toInt_inj.mp (ze.trans (by decide)))
        · exact t22 (Int32.toInt_inj.mp (ze.trans (by decide)))
        · exact t23 (Int32.toInt_inj.mp (ze.trans (by decide)))
        · exact t24 (Int32.toInt_inj.mp (ze.trans (by decide)))
        · exact t25 (Int32.toInt_inj.mp (ze.trans (by decide)))
        · exact t26 (Int32.toInt_inj.mp (ze.trans (by decide)))
        · exact t27 (Int32.toInt_inj.mp (ze.trans (by decide)))
        · exact t28 (Int32.toInt_inj.mp (ze.trans (by decide)))
        · exact t29 (Int32.toInt_inj.mp (ze.trans (by decide)))
      exact next S M hR H locs X
