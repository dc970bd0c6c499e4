theorem nestW_on {w : Cond} (h : nestW w = true) : w.onTables = true := by
  cases w <;> first | rfl | (simp [nestW] at h)
theorem EV.same {g : GG} {A : Nat → Prop} {u U : State} (hv : u.vm = U.vm) (hh : u.heap = U.heap) (h : EV g A u u.heap) : EV g A U U.heap := by
  obtain ⟨h1, h2, h3, h4, h5, h6⟩ := h
  have ha : u.vm.Alike U.vm := hv ▸ Vm.Alike.refl u.vm
  rw [← hh]
  exact ⟨fun w hw => va_Nw.same (nestW_on (List.mem_filter.mp hw).2) hv (h1 w hw), fun t q ht => ⟨(h2 t q ht).1.moved ha, (h2 t q ht).2.moved ha⟩, h3.moved ha, h4.moved ha, h5.moved ha, fun i q hi => (h6 i q hi).same hv.symm⟩
section GR
variable {p : Program} {l : Launch} {e : Env} {R : Room} {s : State} {m : MethodId} {args : Array Value} {below : List Frame} {meth : Method} {c : Code} {H : Heap} {locs : List Loc} {Q : State → Prop} {K : WK} {g : GG} {ad : Nat → Nat} {S S' : ST} {cc : ByteArray} {ret : Option FieldType} {nL : Nat} {own : String} {c0 : Cond} {pc : Nat} {ls : Array Slot} {rest : List Value}
theorem g_get (C : CX K g ad p s m args meth c cc ret nL own c0) (X : WX K g ad s S H locs) {Cn : String} {T : u_T} {N ci index : Nat} {v : Value} {fs : List Value} (hin : ∀ w ∈ u_ws Cn T N, w ∈ TB) (q : Nat) (hq : q < K.1) (he : ent K g ad S q = .inr (ci, fs)) (hc : vwCl[ci]? = some (Cn, T, N)) (k : Nat) (hk : k < N) (hlink : Cond.fieldLink own index (T k).1 (T k).2.1 (T k).2.2.1 ∈ TB) (hv : fs[k]? = some v) (hdg : decode cc pc = .ok (.getfield index, 3))
    (kk : W p l e R s m args below meth c H locs 0 0 Q (F0 m (pc + 3) ls (v :: rest))) : W p l e R s m args below meth c H locs 0 0 Q (F0 m pc ls (.ref (ad q) :: rest)) :=
  va_get C.1.1 C.1.2.1 C.1.2.2.2.2.2.2 (fun w h => ws_in (hin w h)) C.1.2.2.2.2.2.1 C.2.1 X.1 q (by rw [Wld_get hq, he]) hc k hk (C.1.2.2.2.2.2.2 _ (ws_in hlink)) (fun _ h => h) hv hdg kk
theorem g_getN (C : CX K g ad p s m args meth c cc ret nL own c0) (X : WX K g ad s S H locs) {Cn host : String} {T : u_T} {N ci index : Nat} {v : Value} {fs : List Value} (hin : ∀ w ∈ u_ws Cn T N, w ∈ TB) (q : Nat) (hq : q < K.1) (he : ent K g ad S q = .inr (ci, fs)) (hc : vwCl[ci]? = some (Cn, T, N)) (k : Nat) (hk : k < N) (hlink : Cond.fieldLinkNest own index (T k).1 (T k).2.1 (T k).2.2.1 host ∈ NWW) (hv : fs[k]? = some v) (hdg : decode cc pc = .ok (.getfield index, 3))
    (kk : W p l e R s m args below meth c H locs 0 0 Q (F0 m (pc + 3) ls (v :: rest))) : W p l e R s m args below meth c H locs 0 0 Q (F0 m pc ls (.ref (ad q) :: rest)) :=
  va_getN C.1.1 C.1.2.1 C.1.2.2.2.2.2.2 (fun w h => ws_in (hin w h)) C.1.2.2.2.2.2.1 C.2.1 X.1 q (by rw [Wld_get hq, he]) hc k hk (va_Nw.use rfl (C.2.2.1 _ hlink)) (fun _ h => h) hv hdg kk
theorem WX.set {k : Nat} {x : va_E} {H1 : Heap} {locs1 : List Loc} (h1 : va_P g.1 vwCl ((Wld K g ad S).set k (ad k, x)) H1) (h3 : va_D (AA K ad s.heap.size) ((Wld K g ad S).set k (ad k, x))) (h2 : va_S (AA K ad s.heap.size) s.heap H1 locs1) (hst : ent K g ad S' k = x) (hoff : ∀ i, i ≠ k → ent K g ad S' i = ent K g ad S i) : WX K g ad s S' H1 locs1 := by
  rw [Wld_set hst hoff] at h1 h3
  exact ⟨h1, h3, h2⟩
theorem g_put (C : CX K g ad p s m args meth c cc ret nL own c0) (X : WX K g ad s S H locs) {Cn : String} {T : u_T} {N ci index : Nat} {v : Value} {fs : List Value} (hin : ∀ w ∈ u_ws Cn T N, w ∈ TB) (ty0 : Nat → FieldType) (hty : ∀ k, k < N → parseFieldDescriptor (T k).2.2.1 = some (ty0 k)) (hnm : ∀ a, a < N → ∀ b, b < N → a ≠ b → (T a).2.1 ≠ (T b).2.1) (q : Nat) (hq : q < K.1) (he : ent K g ad S q = .inr (ci, fs)) (hc : vwCl[ci]? = some (Cn, T, N)) (k : Nat) (hk : k < N) (hlink : Cond.fieldLink own index (T k).1 (T k).2.1 (T k).2.2.1 ∈ TB) (hfin : (T k).2.2.2 = false) (hn : narrow (ty0 k) v = v) (hfit : fits (ty0 k) v = true) (hlen : k < fs.length)
    (hst : ent K g ad S' q = .inr (ci, fs.set k v)) (hoff : ∀ i, i ≠ q → ent K g ad S' i = ent K g ad S i) (hdg : decode cc pc = .ok (.putfield index, 3))
    (kk : ∀ (H : Heap) (locs : List Loc), WX K g ad s S' H locs → W p l e R s m args below meth c H locs 0 0 Q (F0 m (pc + 3) ls rest)) : W p l e R s m args below meth c H locs 0 0 Q (F0 m pc ls (v :: .ref (ad q) :: rest)) :=
  va_put C.1.1 C.1.2.1 C.1.2.2.2.2.2.2 (fun w h => ws_in (hin w h)) ty0 hty hnm C.1.2.2.2.2.2.1 C.2.1 X.1 X.2.1 X.2.2 q (by rw [Wld_get hq, he]) hc k hk (C.1.2.2.2.2.2.2 _ (ws_in hlink)) (fun _ h => h) hfin (hty k hk) hn hfit hlen hdg (fun H1 locs1 h1 h3 h2 => kk H1 locs1 (WX.set h1 h3 h2 hst hoff))
theorem g_putN (C : CX K g ad p s m args meth c cc ret nL own c0) (X : WX K g ad s S H locs) {Cn host : String} {T : u_T} {N ci index : Nat} {v : Value} {fs : List Value} (hin : ∀ w ∈ u_ws Cn T N, w ∈ TB) (ty0 : Nat → FieldType) (hty : ∀ k, k < N → parseFieldDescriptor (T k).2.2.1 = some (ty0 k)) (hnm : ∀ a, a < N → ∀ b, b < N → a ≠ b → (T a).2.1 ≠ (T b).2.1) (q : Nat) (hq : q < K.1) (he : ent K g ad S q = .inr (ci, fs)) (hc : vwCl[ci]? = some (Cn, T, N)) (k : Nat) (hk : k < N) (hlink : Cond.fieldLinkNest own index (T k).1 (T k).2.1 (T k).2.2.1 host ∈ NWW) (hfin : (T k).2.2.2 = false) (hn : narrow (ty0 k) v = v) (hfit : fits (ty0 k) v = true) (hlen : k < fs.length)
    (hst : ent K g ad S' q = .inr (ci, fs.set k v)) (hoff : ∀ i, i ≠ q → ent K g ad S' i = ent K g ad S i) (hdg : decode cc pc = .ok (.putfield index, 3))
    (kk : ∀ (H : Heap) (locs : List Loc), WX K g ad s S' H locs → W p l e R s m args below meth c H locs 0 0 Q (F0 m (pc + 3) ls rest)) : W p l e R s m args below meth c H locs 0 0 Q (F0 m pc ls (v :: .ref (ad q) :: rest)) :=
  va_putN C.1.1 C.1.2.1 C.1.2.2.2.2.2.2 (fun w h => ws_in (hin w h)) ty0 hty hnm C.1.2.2.2.2.2.1 C.2.1 X.1 X.2.1 X.2.2 q (by rw [Wld_get hq, he]) hc k hk (va_Nw.use rfl (C.2.2.1 _ hlink)) (fun _ h => h) hfin (hty k hk) hn hfit hlen hdg (fun H1 locs1 h1 h3 h2 => kk H1 locs1 (WX.set h1 h3 h2 hst hoff))
theorem g_iald (C : CX K g ad p s m args meth c cc ret nL own c0) (X : WX K g ad s S H locs) (q : Nat) (hq : q < K.1) {n : Nat} {f : Nat → Int32} (he : ent K g ad S q = .inl (g.2.1 0, (n, .inl f))) {i : Int32} (hi : ib i n = true) (hdg : decode cc pc = .ok (.iaload, 1))
    (kk : W p l e R s m args below meth c H locs 0 0 Q (F0 m (pc + 1) ls (.int (f i.toNatClampNeg) :: rest))) : W p l e R s m args below meth c H locs 0 0 Q (F0 m pc ls (.int i :: .ref (ad q) :: rest)) :=
  va_iald C.1.1 C.1.2.1 C.2.1 X.1 q 0 (by rw [Wld_get hq, he]) rfl (ib_in hi) hdg kk
theorem g_zald (C : CX K g ad p s m args meth c cc ret nL own c0) (X : WX K g ad s S H locs) (q : Nat) (hq : q < K.1) {n : Nat} {f : Nat → Int32} (he : ent K g ad S q = .inl (g.2.1 1, (n, .inl f))) {i : Int32} (hi : ib i n = true) (hdg : decode cc pc = .ok (.baload, 1))
    (kk : W p l e R s m args below meth c H locs 0 0 Q (F0 m (pc + 1) ls (.int (f i.toNatClampNeg) :: rest))) : W p l e R s m args below meth c H locs 0 0 Q (F0 m pc ls (.int i :: .ref (ad q) :: rest)) :=
  va_zald C.1.1 C.1.2.1 C.2.1 X.1 q 1 (by rw [Wld_get hq, he]) rfl (ib_in hi) hdg kk
theorem g_alen (C : CX K g ad p s m args meth c cc ret nL own c0) (X : WX K g ad s S H locs) (q t0 : Nat) (hq : q < K.1) {cA : ClassId} {x : vp_A} (he : ent K g ad S q = .inl (cA, x)) {ty : FieldType} (ht : (TYg g)[t0]? = some (cA, ty)) {v : Int32} (hv : Int32.ofNat x.1 = v) (hdg : decode cc pc = .ok (.arraylength, 1))
    (kk : W p l e R s m args below meth c H locs 0 0 Q (F0 m (pc + 1) ls (.int v :: rest))) : W p l e R s m args below meth c H locs 0 0 Q (F0 m pc ls (.ref (ad q) :: rest)) :=
  va_alen C.1.1 C.1.2.1 C.2.1 X.1 q t0 (by rw [Wld_get hq, he]) ht hv hdg kk
theorem g_aald (C : CX K g ad p s m args meth c cc ret nL own c0) (X : WX K g ad s S H locs) (q t0 : Nat) (hq : q < K.1) {cA : ClassId} {Cn : String} {n b w : Nat} (he : ent K g ad S q = .inl (cA, (n, .inr (.inr (.inr (.inr (fun j => some (ad (b + w * j))))))))) (ht : (TYg g)[t0]? = some (cA, .object Cn)) {i : Int32} (hi : ib i n = true) (hdg : decode cc pc = .ok (.aaload, 1))
    (kk : W p l e R s m args below meth c H locs 0 0 Q (F0 m (pc + 1) ls (.ref (ad (b + w * i.toNatClampNeg)) :: rest))) : W p l e R s m args below meth c H locs 0 0 Q (F0 m pc ls (.int i :: .ref (ad q) :: rest)) :=
  va_aldq (f := fun j => some (ad (b + w * j))) C.1.1 C.1.2.1 C.2.1 X.1 q t0 (by rw [Wld_get hq, he]) ht (ib_in hi) hdg kk
theorem g_iast (C : CX K g ad p s m args meth c cc ret nL own c0) (X : WX K g ad s S H locs) (q : Nat) (hq : q < K.1) {n : Nat} {f : Nat → Int32} (he : ent K g ad S q = .inl (g.2.1 0, (n, .inl f))) {i x : Int32} (hi : ib i n = true)
    (hst : ent K g ad S' q = .inl (g.2.1 0, (n, .inl (upd f i.toNatClampNeg x)))) (hoff : ∀ i, i ≠ q → ent K g ad S' i = ent K g ad S i) (hdg : decode cc pc = .ok (.iastore, 1))
    (kk : ∀ (H : Heap) (locs : List Loc), WX K g ad s S' H locs → W p l e R s m args below meth c H locs 0 0 Q (F0 m (pc + 1) ls rest)) : W p l e R s m args below meth c H locs 0 0 Q (F0 m pc ls (.int x :: .int i :: .ref (ad q) :: rest)) :=
  va_iast C.1.1 C.1.2.1 C.2.1 X.1 X.2.1 X.2.2 q 0 (by rw [Wld_get hq, he]) rfl (ib_in hi) hdg (fun H1 locs1 h1 h3 h2 => kk H1 locs1 (WX.set h1 h3 h2 hst hoff))
theorem g_zast (C : CX K g ad p s m args meth c cc ret nL own c0) (X : WX K g ad s S H locs) (q : Nat) (hq : q < K.1) {n : Nat} {f : Nat → Int32} (he : ent K g ad S q = .inl (g.2.1 1, (n, .inl f))) {i x : Int32} (hi : ib i n = true)
    (hst : ent K g ad S' q = .inl (g.2.1 1, (n, .inl (upd f i.toNatClampNeg (vp_nar .boolean x))))) (hoff : ∀ i, i ≠ q → ent K g ad S' i = ent K g ad S i) (hdg : decode cc pc = .ok (.bastore, 1))
    (kk : ∀ (H : Heap) (locs : List Loc), WX K g ad s S' H locs → W p l e R s m args below meth c H locs 0 0 Q (F0 m (pc + 1) ls rest)) : W p l e R s m args below meth c H locs 0 0 Q (F0 m pc ls (.int x :: .int i :: .ref (ad q) :: rest)) :=
  va_zast C.1.1 C.1.2.1 C.2.1 X.1 X.2.1 X.2.2 q 1 (by rw [Wld_get hq, he]) rfl (ib_in hi) hdg (fun H1 locs1 h1 h3 h2 => kk H1 locs1 (WX.set h1 h3 h2 hst hoff))
/-- a constant array: its reference -/
theorem g_gets (C : CX K g ad p s m args meth c cc ret nL own c0) (X : WX K g ad s S H locs) (t : Nat) {q : String × String × List Int32} {index : Nat} (ht : SAL[t]? = some q) (hlink : Cond.fieldLink own index q.1 q.2.1 "[I" ∈ TB) (hdg : decode cc pc = .ok (.getstatic index, 3))
    (kk : W p l e R s m args below meth c H locs 0 0 Q (F0 m (pc + 3) ls (.ref (g.2.2.1 t) :: rest))) : W p l e R s m args below meth c H locs 0 0 Q (F0 m pc ls rest) :=
  va_gets C.1.1 C.1.2.1 (C.2.2.2.1 t q ht).1 X.2.2 C.1.2.2.2.2.2.1 (C.1.2.2.2.2.2.2 _ (ws_in hlink)) (fun _ h => h) hdg kk
theorem g_slen (C : CX K g ad p s m args meth c cc ret nL own c0) (X : WX K g ad s S H locs) (t : Nat) {q : String × String × List Int32} (ht : SAL[t]? = some q) {v : Int32} (hv : Int32.ofNat q.2.2.length = v) (hdg : decode cc pc = .ok (.arraylength, 1))
    (kk : W p l e R s m args below meth c H locs 0 0 Q (F0 m (pc + 1) ls (.int v :: rest))) : W p l e R s m args below meth c H locs 0 0 Q (F0 m pc ls (.ref (g.2.2.1 t) :: rest)) :=
  va_tlen C.1.1 C.1.2.1 (C.2.2.2.1 t q ht).2 X.2.2 hv hdg kk
theorem g_sald (C : CX K g ad p s m args meth c cc ret nL own c0) (X : WX K g ad s S H locs) (t : Nat) {q : String × String × List Int32} (ht : SAL[t]? = some q) {i : Int32} (hi : ib i q.2.2.length = true) (hdg : decode cc pc = .ok (.iaload, 1))
    (kk : W p l e R s m args below meth c H locs 0 0 Q (F0 m (pc + 1) ls (.int (q.2.2.getD i.toNatClampNeg 0) :: rest))) : W p l e R s m args below meth c H locs 0 0 Q (F0 m pc ls (.int i :: .ref (g.2.2.1 t) :: rest)) := by
  obtain ⟨cell, hc, ho, hk, hn, hsz, hv, hA⟩ := (C.2.2.2.1 t q ht).2
  have hlt := ib_in hi
  refine W.iald C.1.1 C.1.2.1 (cell := cell) ((X.2.2.2.1 _ (Array.getElem?_eq_some_iff.mp hc).1 hA).trans hc) ho hk (fun h => hlt (h.imp id (fun h => Nat.le_trans hn h))) ?_ rfl rfl hdg kk
  have h1 : i.toNatClampNeg < q.2.2.length := Nat.not_le.mp fun h => hlt (Or.inr h)
  exact hv _ h1
-- calls
theorem pw_blind {as : List Value} {sz : Nat} : FrameBlind (va_Pc as (PW K g ad S sz)) := by
  intro a U f mk h
  obtain ⟨h0, h1, h2, h3, h4, h5⟩ := h
  exact ⟨h0, h1, h2, va_K.moved (u := U) (U := U.calling f mk a) (Vm.Alike.refl U.vm) h3, h4, EV.same (u := U) (U := U.calling f mk a) rfl rfl h5⟩
theorem pw_pre (C : CX K g ad p s m args meth c cc ret nL own c0) (X : WX K g ad s S H locs) {U : State} (hU : U.heap = H) (hW : s.WarmedH U.vm) : PW K g ad S H.size U := by
  refine ⟨by rw [hU], by rw [hU]; exact X.1, va_K.moved hW.alike C.2.1, X.2.1.weaken (fun _ _ _ _ => trivial), ?_⟩
  exact EV.to C.2.2 hW hU X.2.2.2.1 (fun q h => h.elim Or.inl (fun h => Or.inr (Nat.le_trans X.2.2.1 h)))
theorem rV (C : CX K g ad p s m args meth c cc ret nL own c0) (X : WX K g ad s S H locs) {y : MethodName} {b : ByteArray} {maxL n index ci k : Nat} {rt : Option FieldType} {rm : Room} {As : List Value} {fs : List Value} {q : vw_C} {Qc : Array Value → State → Outcome → State → Prop}
    (hM : Met l y (WS (.code y b maxL rt)) rm (va_Pc (.ref (ad k) :: As) (PW K g ad S H.size)) Qc 0 0 (AA K ad H.size)) (h1 : Cond.methodLink own index y ∈ TB) (h2 : Cond.instanceMethod y ∈ TB) (h3 : Cond.selects q.1 y y ∈ TB) (h4 : Cond.initialized q.1 ∈ TB) (h5 : Cond.code y b maxL rt ∈ TB)
    (hk : k < K.1) (he : ent K g ad S k = .inr (ci, fs)) (hc : vwCl[ci]? = some q) (hrc : rm.cells = 0) (hrs : rm.slots = 0) (hd : y.cls = q.1 ∧ (y.cls ≠ "java/lang/invoke/MethodHandle" ∧ y.cls ≠ "java/lang/invoke/VarHandle" ∧ (parseMethodDescriptor y.desc).map (fun d => d.parameters.length) = some n)) (hR : rm.frames + 1 ≤ R.frames ∧ 8 + (maxL + 11) + rm.locals ≤ R.locals)
    (hn : As.length = n) (hl : ls.size = nL) (hW : 2 * (F0 m pc ls (As.reverse ++ .ref (ad k) :: rest)).monitorRoom + (rest.map fun v => v.category).sum ≤ 8) (hdg : decode cc pc = .ok (.invokevirtual index, 3)) :
    va_Run p l e R s m args below meth c H locs 0 0 0 0 (F0 m pc ls (As.reverse ++ .ref (ad k) :: rest)) rest (Qc (Value.ref (ad k) :: As).toArray) (AA K ad H.size) :=
  va_runV (C := q.1) ⟨C.1.1, C.1.2.1, C.1.2.2.2.2.1, C.1.2.2.2.2.2.1, C.1.2.2.2.2.2.2⟩ hM (cwV n C.1.2.2.2.2.2.2 (ws_V h1 h2 h3 h4 h5) rfl hrc hrs hd hR) ⟨pw_blind, va_recv C.2.1 X.1 hc (by rw [Wld_get hk, he]), fun U hU hW => ⟨rfl, pw_pre C X hU hW⟩⟩ rfl hn hl rfl hW hdg ⟨Nat.zero_le _, Nat.zero_le _⟩
theorem rS (C : CX K g ad p s m args meth c cc ret nL own c0) (X : WX K g ad s S H locs) {y : MethodName} {b : ByteArray} {maxL n index : Nat} {rt : Option FieldType} {rm : Room} {As : List Value} {Qc : Array Value → State → Outcome → State → Prop}
    (hM : Met l y (WS (.code y b maxL rt)) rm (va_Pc As (PW K g ad S H.size)) Qc 0 0 (AA K ad H.size)) (h1 : Cond.methodLink own index y ∈ TB) (h2 : Cond.static y ∈ TB) (h4 : Cond.initialized y.cls ∈ TB) (h5 : Cond.code y b maxL rt ∈ TB) (hrc : rm.cells = 0) (hrs : rm.slots = 0)
    (hd : y.cls ≠ "java/lang/invoke/MethodHandle" ∧ y.cls ≠ "java/lang/invoke/VarHandle" ∧ (parseMethodDescriptor y.desc).map (fun d => d.parameters.length) = some n) (hR : rm.frames + 1 ≤ R.frames ∧ 8 + (maxL + 11) + rm.locals ≤ R.locals)
    (hn : As.length = n) (hl : ls.size = nL) (hW : 2 * (F0 m pc ls (As.reverse ++ rest)).monitorRoom + (rest.map fun v => v.category).sum ≤ 8) (hdg : decode cc pc = .ok (.invokestatic index, 3)) :
    va_Run p l e R s m args below meth c H locs 0 0 0 0 (F0 m pc ls (As.reverse ++ rest)) rest (Qc As.toArray) (AA K ad H.size) :=
  va_runS ⟨C.1.1, C.1.2.1, C.1.2.2.2.2.1, C.1.2.2.2.2.2.1, C.1.2.2.2.2.2.2⟩ hM (va_cwS n C.1.2.2.2.2.2.2 (ws_S h1 h2 h4 h5) rfl hrc hrs hd hR) ⟨pw_blind, fun U hU hW => ⟨rfl, pw_pre C X hU hW⟩⟩ rfl hn hl rfl hW hdg ⟨Nat.zero_le _, Nat.zero_le _⟩
theorem rVN (C : CX K g ad p s m args meth c cc ret nL own c0) (X : WX K g ad s S H locs) {y : MethodName} {b : ByteArray} {maxL n index ci k : Nat} {host : String} {rt : Option FieldType} {rm : Room} {As : List Value} {fs : List Value} {q : vw_C} {Qc : Array Value → State → Outcome → State → Prop}
    (hM : Met l y (WS (.code y b maxL rt)) rm (va_Pc (.ref (ad k) :: As) (PW K g ad S H.size)) Qc 0 0 (AA K ad H.size)) (h1 : Cond.methodLinkNest own index y host ∈ NWW) (h2 : Cond.instanceMethod y ∈ TB) (h3 : Cond.selects q.1 y y ∈ TB) (h4 : Cond.initialized y.cls ∈ TB) (h5 : Cond.code y b maxL rt ∈ TB)
    (hk : k < K.1) (he : ent K g ad S k = .inr (ci, fs)) (hc : vwCl[ci]? = some q) (hrc : rm.cells = 0) (hrs : rm.slots = 0) (hd : y.cls = q.1 ∧ (y.cls ≠ "java/lang/invoke/MethodHandle" ∧ y.cls ≠ "java/lang/invoke/VarHandle" ∧ (parseMethodDescriptor y.desc).map (fun d => d.parameters.length) = some n)) (hR : rm.frames + 1 ≤ R.frames ∧ 8 + (maxL + 11) + rm.locals ≤ R.locals)
    (hn : As.length = n) (hl : ls.size = nL) (hW : 2 * (F0 m pc ls (As.reverse ++ .ref (ad k) :: rest)).monitorRoom + (rest.map fun v => v.category).sum ≤ 8) (hdg : decode cc pc = .ok (.invokevirtual index, 3)) :
    va_Run p l e R s m args below meth c H locs 0 0 0 0 (F0 m pc ls (As.reverse ++ .ref (ad k) :: rest)) rest (Qc (Value.ref (ad k) :: As).toArray) (AA K ad H.size) :=
  va_runVN (C := q.1) ⟨C.1.1, C.1.2.1, C.1.2.2.2.2.1, C.1.2.2.2.2.2.1, C.1.2.2.2.2.2.2⟩ hM ⟨va_cnB n C.1.2.2.2.2.2.2 (ws_good h5) rfl hrc hrs (C.2.2.1 _ h1) (C.1.2.2.2.2.2.2 _ (ws_in h4)) hd.2 hR, C.1.2.2.2.2.2.2 _ (ws_in h2), C.1.2.2.2.2.2.2 _ (ws_in h3)⟩ ⟨pw_blind, va_recv C.2.1 X.1 hc (by rw [Wld_get hk, he]), fun U hU hW => ⟨rfl, pw_pre C X hU hW⟩⟩ rfl hn hl rfl hW hdg ⟨Nat.zero_le _, Nat.zero_le _⟩
theorem rSN (C : CX K g ad p s m args meth c cc ret nL own c0) (X : WX K g ad s S H locs) {y : MethodName} {b : ByteArray} {maxL n index : Nat} {host : String} {rt : Option FieldType} {rm : Room} {As : List Value} {Qc : Array Value → State → Outcome → State → Prop}
    (hM : Met l y (WS (.code y b maxL rt)) rm (va_Pc As (PW K g ad S H.size)) Qc 0 0 (AA K ad H.size)) (h1 : Cond.methodLinkNest own index y host ∈ NWW) (h2 : Cond.static y ∈ TB) (h4 : Cond.initialized y.cls ∈ TB) (h5 : Cond.code y b maxL rt ∈ TB) (hrc : rm.cells = 0) (hrs : rm.slots = 0)
    (hd : y.cls ≠ "java/lang/invoke/MethodHandle" ∧ y.cls ≠ "java/lang/invoke/VarHandle" ∧ (parseMethodDescriptor y.desc).map (fun d => d.parameters.length) = some n) (hR : rm.frames + 1 ≤ R.frames ∧ 8 + (maxL + 11) + rm.locals ≤ R.locals)
    (hn : As.length = n) (hl : ls.size = nL) (hW : 2 * (F0 m pc ls (As.reverse ++ rest)).monitorRoom + (rest.map fun v => v.category).sum ≤ 8) (hdg : decode cc pc = .ok (.invokestatic index, 3)) :
    va_Run p l e R s m args below meth c H locs 0 0 0 0 (F0 m pc ls (As.reverse ++ rest)) rest (Qc As.toArray) (AA K ad H.size) :=
  va_runSN ⟨C.1.1, C.1.2.1, C.1.2.2.2.2.1, C.1.2.2.2.2.2.1, C.1.2.2.2.2.2.2⟩ hM ⟨va_cnB n C.1.2.2.2.2.2.2 (ws_good h5) rfl hrc hrs (C.2.2.1 _ h1) (C.1.2.2.2.2.2.2 _ (ws_in h4)) hd hR, C.1.2.2.2.2.2.2 _ (ws_in h2), trivial⟩ ⟨pw_blind, fun U hU hW => ⟨rfl, pw_pre C X hU hW⟩⟩ rfl hn hl rfl hW hdg ⟨Nat.zero_le _, Nat.zero_le _⟩
theorem aa_up (X : WX K g ad s S H locs) : ∀ q, AA K ad H.size q → AA K ad s.heap.size q := fun q h => h.elim Or.inl (fun h => Or.inr (Nat.le_trans X.2.2.1 h))
variable {st0 : List Value} {a : Array Value}
theorem kc_i (X : WX K g ad s S H locs) {res : Int32 × ST} (hr : va_Run p l e R s m args below meth c H locs 0 0 0 0 (F0 m pc ls st0) rest (QI K g ad res (AA K ad H.size) a) (AA K ad H.size)) (kk : ∀ (H : Heap) (locs : List Loc), WX K g ad s res.2 H locs → W p l e R s m args below meth c H locs 0 0 Q (F0 m (pc + 3) ls (.int res.1 :: rest))) : W p l e R s m args below meth c H locs 0 0 Q (F0 m pc ls st0) := by
  refine va_calli hr X.2.2 (fun q _ h => aa_up X q h) (aa_up X) (fun r u t H1 locs1 ht hvm hw hB hz hk hS => ?_)
  subst hw
  exact kk H1 locs1 ⟨by rw [← ht]; exact hB, Wld_D X.2.1, hS⟩
theorem kc_l (X : WX K g ad s S H locs) {res : Int64 × ST} (hr : va_Run p l e R s m args below meth c H locs 0 0 0 0 (F0 m pc ls st0) rest (QL K g ad res (AA K ad H.size) a) (AA K ad H.size)) (kk : ∀ (H : Heap) (locs : List Loc), WX K g ad s res.2 H locs → W p l e R s m args below meth c H locs 0 0 Q (F0 m (pc + 3) ls (.long res.1 :: rest))) : W p l e R s m args below meth c H locs 0 0 Q (F0 m pc ls st0) := by
  refine va_calll hr X.2.2 (fun q _ h => aa_up X q h) (aa_up X) (fun r u t H1 locs1 ht hvm hw hB hz hk hS => ?_)
  subst hw
  exact kk H1 locs1 ⟨by rw [← ht]; exact hB, Wld_D X.2.1, hS⟩
theorem kc_v (X : WX K g ad s S H locs) {res : ST} (hr : va_Run p l e R s m args below meth c H locs 0 0 0 0 (F0 m pc ls st0) rest (QV K g ad res (AA K ad H.size) a) (AA K ad H.size)) (kk : ∀ (H : Heap) (locs : List Loc), WX K g ad s res H locs → W p l e R s m args below meth c H locs 0 0 Q (F0 m (pc + 3) ls rest)) : W p l e R s m args below meth c H locs 0 0 Q (F0 m pc ls st0) := by
  refine va_callv hr X.2.2 (fun q _ h => aa_up X q h) (aa_up X) (fun u t H1 locs1 ht hvm hw hB hz hk hS => ?_)
  subst hw
  exact kk H1 locs1 ⟨by rw [← ht]; exact hB, Wld_D X.2.1, hS⟩
theorem kc_q (X : WX K g ad s S H locs) {res : Option Nat × ST} (hr : va_Run p l e R s m args below meth c H locs 0 0 0 0 (F0 m pc ls st0) rest (QQ K g ad res (AA K ad H.size) a) (AA K ad H.size)) (kk : ∀ (H : Heap) (locs : List Loc), WX K g ad s res.2 H locs → W p l e R s m args below meth c H locs 0 0 Q (F0 m (pc + 3) ls (va_rf (res.1.map ad) :: rest))) : W p l e R s m args below meth c H locs 0 0 Q (F0 m pc ls st0) := by
  refine va_callq hr X.2.2 (fun q _ h => aa_up X q h) (aa_up X) (fun r u t H1 locs1 ht hvm hw hB hz hk hS => ?_)
  obtain ⟨e1, e2⟩ := hw
  subst e1; subst e2
  exact kk H1 locs1 ⟨by rw [← ht]; exact hB, Wld_D X.2.1, hS⟩
theorem kc_k (X : WX K g ad s S H locs) {res : Nat × ST} (hr : va_Run p l e R s m args below meth c H locs 0 0 0 0 (F0 m pc ls st0) rest (QK K g ad res (AA K ad H.size) a) (AA K ad H.size)) (kk : ∀ (H : Heap) (locs : List Loc), WX K g ad s res.2 H locs → W p l e R s m args below meth c H locs 0 0 Q (F0 m (pc + 3) ls (.ref (g.2.2.2.1 res.1) :: rest))) : W p l e R s m args below meth c H locs 0 0 Q (F0 m pc ls st0) := by
  refine va_callr hr X.2.2 (fun q _ h => aa_up X q h) (aa_up X) (fun u ra t H1 locs1 ht hvm hw hB hz hk hS => ?_)
  obtain ⟨e1, hB⟩ := hB
  subst e1; subst hw
  exact kk H1 locs1 ⟨by rw [← ht]; exact hB, Wld_D X.2.1, hS⟩
-- returns
theorem rt_i (C : CX K g ad p s m args meth c cc ret nL own c0) (X : WX K g ad s S H locs) {v : Int32} {res : Int32 × ST} (hr : ret = some .int) (hres : (v, S) = res) (hdg : decode cc pc = .ok (.ireturn, 1)) : W p l e R s m args below meth c H locs 0 0 (MQ below (QI K g ad res (AA K ad s.heap.size)) args s 0 0 (AA K ad s.heap.size)) (F0 m pc ls [.int v]) :=
  W.iret C.1.1 C.1.2.1 (C.1.2.2.1.trans hr) (fun t ht hW => ⟨⟨v, S, rfl, hres, by show va_P _ _ _ t.heap; rw [ht]; exact X.1⟩, X.2.2.F ht⟩) X.2.2.2.2 hdg C.1.2.2.2.1
theorem rt_z (C : CX K g ad p s m args meth c cc ret nL own c0) (X : WX K g ad s S H locs) {v : Int32} {res : Int32 × ST} (hr : ret = some .boolean) (hz : v = 0 ∨ v = 1) (hres : (v, S) = res) (hdg : decode cc pc = .ok (.ireturn, 1)) : W p l e R s m args below meth c H locs 0 0 (MQ below (QI K g ad res (AA K ad s.heap.size)) args s 0 0 (AA K ad s.heap.size)) (F0 m pc ls [.int v]) :=
  W.zret C.1.1 C.1.2.1 (C.1.2.2.1.trans hr) (by rcases hz with rfl | rfl <;> decide) (fun t ht hW => ⟨⟨v, S, rfl, hres, by show va_P _ _ _ t.heap; rw [ht]; exact X.1⟩, X.2.2.F ht⟩) X.2.2.2.2 hdg C.1.2.2.2.1
theorem rt_l (C : CX K g ad p s m args meth c cc ret nL own c0) (X : WX K g ad s S H locs) {v : Int64} {res : Int64 × ST} (hr : ret = some .long) (hres : (v, S) = res) (hdg : decode cc pc = .ok (.lreturn, 1)) : W p l e R s m args below meth c H locs 0 0 (MQ below (QL K g ad res (AA K ad s.heap.size)) args s 0 0 (AA K ad s.heap.size)) (F0 m pc ls [.long v]) :=
  W.lret C.1.1 C.1.2.1 (C.1.2.2.1.trans hr) (fun t ht hW => ⟨⟨v, S, rfl, hres, by show va_P _ _ _ t.heap; rw [ht]; exact X.1⟩, X.2.2.F ht⟩) X.2.2.2.2 hdg C.1.2.2.2.1
theorem rt_v (C : CX K g ad p s m args meth c cc ret nL own c0) (X : WX K g ad s S H locs) {res : ST} (hr : ret = none) (hres : S = res) (hdg : decode cc pc = .ok (.return_, 1)) : W p l e R s m args below meth c H locs 0 0 (MQ below (QV K g ad res (AA K ad s.heap.size)) args s 0 0 (AA K ad s.heap.size)) (F0 m pc ls []) :=
  W.vret C.1.1 C.1.2.1 (C.1.2.2.1.trans hr) (fun t ht hW => ⟨⟨S, rfl, hres, by show va_P _ _ _ t.heap; rw [ht]; exact X.1⟩, X.2.2.F ht⟩) X.2.2.2.2 hdg C.1.2.2.2.1
theorem rt_q (C : CX K g ad p s m args meth c cc ret nL own c0) (X : WX K g ad s S H locs) {o : Option Nat} {v : Value} {res : Option Nat × ST} {cn : String} (hr : ret = some (.object cn)) (hv : v = va_rf (o.map ad)) (hres : (o, S) = res) (hdg : decode cc pc = .ok (.areturn, 1)) : W p l e R s m args below meth c H locs 0 0 (MQ below (QQ K g ad res (AA K ad s.heap.size)) args s 0 0 (AA K ad s.heap.size)) (F0 m pc ls [v]) := by
  subst hres; subst hv
  exact W.aret C.1.1 C.1.2.1 (C.1.2.2.1.trans hr) (Or.inl ⟨_, rfl⟩) (by cases o with | none => exact Or.inl rfl | some k => exact Or.inr ⟨_, rfl⟩) (fun t ht hW => ⟨⟨o.map ad, S, rfl, ⟨rfl, rfl⟩, by show va_P _ _ _ t.heap; rw [ht]; exact X.1⟩, X.2.2.F ht⟩) X.2.2.2.2 hdg C.1.2.2.2.1
theorem rt_k (C : CX K g ad p s m args meth c cc ret nL own c0) (X : WX K g ad s S H locs) {o : Nat} {res : Nat × ST} {cn : String} (hr : ret = some (.object cn)) (hres : (o, S) = res) (hdg : decode cc pc = .ok (.areturn, 1)) : W p l e R s m args below meth c H locs 0 0 (MQ below (QK K g ad res (AA K ad s.heap.size)) args s 0 0 (AA K ad s.heap.size)) (F0 m pc ls [.ref (g.2.2.2.1 o)]) := by
  subst hres
  exact W.aret C.1.1 C.1.2.1 (C.1.2.2.1.trans hr) (Or.inl ⟨_, rfl⟩) (Or.inr ⟨_, rfl⟩) (fun t ht hW => ⟨⟨S, _, rfl, rfl, rfl, by show va_P _ _ _ t.heap; rw [ht]; exact X.1⟩, X.2.2.F ht⟩) X.2.2.2.2 hdg C.1.2.2.2.1
/-- a switch's value outside its table -/
theorem tb_out {x : Int32} {lo hi : Int} (h : ∀ z : Int, lo ≤ z → z ≤ hi → ¬ x.toInt = z) : x.toInt < lo ∨ hi < x.toInt := by
  rcases Int.lt_or_le x.toInt lo with q | q
  · exact Or.inl q
  · rcases Int.lt_or_le hi x.toInt with q2 | q2
    · exact Or.inr q2
    · exact absurd rfl (h x.toInt q q2)
end GR
