/-- what stands while a constructor's body runs -/
def CI (g : GG) (A : Nat → Prop) (p : Program) (s : State) (m : MethodId) (args : Array Value) (meth : Method) (c : Code) (cc : ByteArray) (ret : Option FieldType) (nL : Nat) (own : String) (c0 : Cond) : Prop :=
  (p.tables.exec = Jvm.exec ∧ c.code = cc ∧ meth.sig.returnType = ret ∧ meth.locks = false ∧ c.maxLocals = nL ∧ s.vm.findClass own = some m.cls ∧ ∀ w ∈ WS c0, w.before args s = true) ∧ va_K g.1 vwCl (TYg g) s ∧ EV g A s s.heap ∧ (∀ q, s.heap.size ≤ q → A q) ∧ meth.name = "<init>"
/-- the world, cell by cell -/
def WI (g : GG) (A : Nat → Prop) (s : State) (ws : va_W) (H : Heap) (locs : List Loc) : Prop := va_P g.1 vwCl ws H ∧ va_D A ws ∧ va_S A s.heap H locs
def PI (g : GG) (ws : va_W) (sz : Nat) (U : State) : Prop :=
  U.heap.size = sz ∧ va_P g.1 vwCl ws U.heap ∧ va_K g.1 vwCl (TYg g) U ∧ va_D (fun _ => True) ws ∧ EV g (va_A ws sz) U U.heap
abbrev QC (g : GG) (post : (Nat → Nat) → va_W) (A : Nat → Prop) := va_Qv (fun (_ : Nat → Nat) => True) (fun u t => va_P g.1 vwCl (post u) t.heap ∧ va_D A (post u)) A
section GOC
variable {g : GG} {l : Launch} {y : MethodName} {cc : ByteArray} {nL sz mc ms : Nat} {rm : Room} {as : List Value} {ws : va_W} {Qc : (Nat → Prop) → Array Value → State → Outcome → State → Prop}
set_option maxHeartbeats 4000000 in
theorem go_c (hy : plainName y.cls = true) (hyn : y.name = "<init>") (hn : (lg_sl as).length ≤ nL)
    (body : ∀ (p : Program) (e : Env) (s : State) (m : MethodId) (below : List Frame) (meth : Method) (c : Code) (ls : Array Slot) (H : Heap) (locs : List Loc), CI g (va_A ws s.heap.size) p s m as.toArray meth c cc none nL y.cls (.code y cc nL none) → WI g (va_A ws s.heap.size) s ws H locs → lv_has ls nL (lv_args 0 as) → W p l e rm s m as.toArray below meth c H locs 0 0 (MQ below (Qc (va_A ws s.heap.size)) as.toArray s mc ms (va_A ws s.heap.size)) (F0 m 0 ls [])) :
    Met l y (WS (.code y cc nL none)) rm (va_Pc as (PI g ws sz)) (Qc (va_A ws sz)) mc ms (va_A ws sz) := by
  refine Met.ofW (cc := cc) (maxL := nL) (ret := none) hy rfl ?_
  intro p e s m args below meth c s₁ B hml hv
  obtain ⟨rfl, hsz, hP, hK, hD0, hE⟩ := hv
  subst hsz
  have hts := atoms_spec (ws := WS (.code y cc nL none)) B.pre
  have hl := lv_entry as hn
  rw [lg_entry_eq]
  exact body p e s m below meth c _ s.heap [] ⟨⟨B.exec, B.bytes, B.returns, B.notSynchronized, hml, findClass_of_methodNamed B.named, hts⟩, hK, hE, fun q h => Or.inr h, ((name_of_methodNamed B.named B.method).1).trans hyn⟩ ⟨hP, hD0.self, va_S.rf⟩ hl
end GOC
section NR
variable {p : Program} {l : Launch} {e : Env} {R : Room} {s : State} {m : MethodId} {args : Array Value} {below : List Frame} {meth : Method} {c : Code} {H : Heap} {locs : List Loc} {Q : State → Prop} {g : GG} {A : Nat → Prop} {ws : va_W} {cc : ByteArray} {ret : Option FieldType} {nL : Nat} {own : String} {c0 : Cond} {pc cells slots : Nat} {ls : Array Slot} {rest : List Value}
theorem n_obj (C : CI g A p s m args meth c cc ret nL own c0) {idx a : Nat} (hl : Cond.methodLink own idx Lib.objectInit ∈ TB) (hi : Cond.instanceMethod Lib.objectInit ∈ TB) (hc : Cond.code Lib.objectInit ⟨#[0xb1]⟩ 1 none ∈ TB) (hsize : ls.size = nL) (hd : decode cc pc = .ok (.invokespecial idx, 3)) (hframes : 1 ≤ R.frames) (hlocals : 2 * (F0 m pc ls (.ref a :: rest)).monitorRoom + (rest.map fun v => v.category).sum + 12 ≤ R.locals)
    (kk : W p l e R s m args below meth c H locs cells slots Q (F0 m (pc + 3) ls rest)) : W p l e R s m args below meth c H locs cells slots Q (F0 m pc ls (.ref a :: rest)) :=
  W.objInit C.1.1 C.1.2.1 C.1.2.2.2.2.2.1 (C.1.2.2.2.2.2.2 _ (ws_in hl)) (C.1.2.2.2.2.2.2 _ (ws_in hi)) (C.1.2.2.2.2.2.2 _ (ws_in hc)) rfl (by rw [C.1.2.2.2.2.1]; exact hsize) rfl hd hframes hlocals kk
theorem n_new (C : CI g A p s m args meth c cc ret nL own c0) (X : WI g A s ws H locs) {Cn : String} {T : u_T} {N ci index : Nat} (hin : ∀ w ∈ u_ws Cn T N, w ∈ TB) (ty : Nat → FieldType) (hty : ∀ k, k < N → parseFieldDescriptor (T k).2.2.1 = some (ty k)) (hcl : Cond.classLink own index Cn ∈ TB) (hinst : Cond.instantiable Cn N ∈ TB) (hini : Cond.initialized Cn ∈ TB) (hc : vwCl[ci]? = some (Cn, T, N)) {fs : List Value} (hfs : ∀ j, j < N → defaultValue (ty j) = vp_V fs j) (hcells : cells + 1 ≤ R.cells) (hslots : slots + N ≤ R.slots) (hdg : decode cc pc = .ok (.new index, 3))
    (kk : ∀ (q : Nat) (H : Heap), WI g A s (ws ++ [(q, .inr (ci, fs))]) H locs → W p l e R s m args below meth c H locs (cells + 1) (slots + N) Q (F0 m (pc + 3) ls (.ref q :: rest))) : W p l e R s m args below meth c H locs cells slots Q (F0 m pc ls rest) :=
  va_new C.1.1 C.1.2.1 C.1.2.2.2.2.2.2 (fun w h => ws_in (hin w h)) ty hty C.1.2.2.2.2.2.1 (C.1.2.2.2.2.2.2 _ (ws_in hcl)) (C.1.2.2.2.2.2.2 _ (ws_in hinst)) (C.1.2.2.2.2.2.2 _ (ws_in hini)) C.2.1 X.1 X.2.1 X.2.2 C.2.2.2.1 hc hfs hcells hslots hdg (fun q H1 h1 h2 h3 => kk q H1 ⟨h1, h2, h3⟩)
theorem n_newa (C : CI g A p s m args meth c cc ret nL own c0) (X : WI g A s ws H locs) (ha : Cond.arrayClass .int ∈ TB) {n : Int32} {N' : Nat} (hn : ¬ n < 0) (hN : n.toNatClampNeg = N') (hbytes : N' * componentBytes .int ≤ 536870912) (hcells : cells + 1 ≤ R.cells) (hslots : slots + N' ≤ R.slots) (hdg : decode cc pc = .ok (.newarray .int, 2))
    (kk : ∀ (q : Nat) (H : Heap), WI g A s (ws ++ [(q, .inl (g.2.1 0, (N', .inl (fun _ => 0))))]) H locs → W p l e R s m args below meth c H locs (cells + 1) (slots + N') Q (F0 m (pc + 2) ls (.ref q :: rest))) : W p l e R s m args below meth c H locs cells slots Q (F0 m pc ls (.int n :: rest)) := by
  refine va_newa (atype := .int) (a0 := (N', .inl (fun _ => 0))) C.1.1 C.1.2.1 (C.1.2.2.2.2.2.2 _ (ws_in ha)) rfl C.2.1 X.1 X.2.1 X.2.2 C.2.2.2.1 (fun _ => rfl) hn hN hbytes hcells hslots hdg (fun q cA H1 hK h1 h2 h3 => ?_)
  have e1 : s.vm.findClass ("[" ++ FieldType.int.toString) = some cA := (hK.2 4 (cA, .int) rfl).2
  have e2 : s.vm.findClass ("[" ++ FieldType.int.toString) = some (g.2.1 0) := (C.2.1.2 0 (g.2.1 0, .int) rfl).2
  have e3 : cA = g.2.1 0 := Option.some.inj (e1.symm.trans e2)
  subst e3
  exact kk q H1 ⟨h1, h2, h3⟩
theorem n_newz (C : CI g A p s m args meth c cc ret nL own c0) (X : WI g A s ws H locs) (ha : Cond.arrayClass .boolean ∈ TB) {n : Int32} {N' : Nat} (hn : ¬ n < 0) (hN : n.toNatClampNeg = N') (hbytes : N' * componentBytes .boolean ≤ 536870912) (hcells : cells + 1 ≤ R.cells) (hslots : slots + N' ≤ R.slots) (hdg : decode cc pc = .ok (.newarray .boolean, 2))
    (kk : ∀ (q : Nat) (H : Heap), WI g A s (ws ++ [(q, .inl (g.2.1 1, (N', .inl (fun _ => 0))))]) H locs → W p l e R s m args below meth c H locs (cells + 1) (slots + N') Q (F0 m (pc + 2) ls (.ref q :: rest))) : W p l e R s m args below meth c H locs cells slots Q (F0 m pc ls (.int n :: rest)) := by
  refine va_newa (atype := .boolean) (a0 := (N', .inl (fun _ => 0))) C.1.1 C.1.2.1 (C.1.2.2.2.2.2.2 _ (ws_in ha)) rfl C.2.1 X.1 X.2.1 X.2.2 C.2.2.2.1 (fun _ => rfl) hn hN hbytes hcells hslots hdg (fun q cA H1 hK h1 h2 h3 => ?_)
  have e1 : s.vm.findClass ("[" ++ FieldType.boolean.toString) = some cA := (hK.2 4 (cA, .boolean) rfl).2
  have e2 : s.vm.findClass ("[" ++ FieldType.boolean.toString) = some (g.2.1 1) := (C.2.1.2 1 (g.2.1 1, .boolean) rfl).2
  have e3 : cA = g.2.1 1 := Option.some.inj (e1.symm.trans e2)
  subst e3
  exact kk q H1 ⟨h1, h2, h3⟩
theorem n_newq (C : CI g A p s m args meth c cc ret nL own c0) (X : WI g A s ws H locs) {Cn : String} {index t : Nat} (hcl : Cond.classLink own index Cn ∈ TB) (hover : va_AO Cn s) (ht : (TYg g)[t]? = some (g.2.1 t, .object Cn)) {n : Int32} {N' : Nat} (hn : ¬ n < 0) (hN : n.toNatClampNeg = N') (hbytes : N' * 4 ≤ 536870912) (hcells : cells + 1 ≤ R.cells) (hslots : slots + N' ≤ R.slots) (hdg : decode cc pc = .ok (.anewarray index, 3))
    (kk : ∀ (q : Nat) (H : Heap), WI g A s (ws ++ [(q, .inl (g.2.1 t, (N', .inr (.inr (.inr (.inr (fun _ => none)))))))]) H locs → W p l e R s m args below meth c H locs (cells + 1) (slots + N') Q (F0 m (pc + 3) ls (.ref q :: rest))) : W p l e R s m args below meth c H locs cells slots Q (F0 m pc ls (.int n :: rest)) := by
  refine va_newq C.1.1 C.1.2.1 C.1.2.2.2.2.2.1 (C.1.2.2.2.2.2.2 _ (ws_in hcl)) hover C.2.1 X.1 X.2.1 X.2.2 C.2.2.2.1 hn hN hbytes hcells hslots hdg (fun q cA H1 hK h1 h2 h3 => ?_)
  obtain ⟨-, -, -, -, -, e1⟩ := (hK.2 4 (cA, .object Cn) rfl).2
  obtain ⟨-, -, -, -, -, e2⟩ := (C.2.1.2 t (g.2.1 t, .object Cn) ht).2
  have e3 : cA = g.2.1 t := Option.some.inj (e1.symm.trans e2)
  subst e3
  exact kk q H1 ⟨h1, h2, h3⟩
theorem n_get (C : CI g A p s m args meth c cc ret nL own c0) (X : WI g A s ws H locs) {Cn : String} {T : u_T} {N ci index a : Nat} {v : Value} {fs : List Value} (hin : ∀ w ∈ u_ws Cn T N, w ∈ TB) (q : Nat) (he : ws[q]? = some (a, .inr (ci, fs))) (hc : vwCl[ci]? = some (Cn, T, N)) (k : Nat) (hk : k < N) (hlink : Cond.fieldLink own index (T k).1 (T k).2.1 (T k).2.2.1 ∈ TB) (hv : fs[k]? = some v) (hdg : decode cc pc = .ok (.getfield index, 3))
    (kk : W p l e R s m args below meth c H locs cells slots Q (F0 m (pc + 3) ls (v :: rest))) : W p l e R s m args below meth c H locs cells slots Q (F0 m pc ls (.ref a :: rest)) :=
  va_get C.1.1 C.1.2.1 C.1.2.2.2.2.2.2 (fun w h => ws_in (hin w h)) C.1.2.2.2.2.2.1 C.2.1 X.1 q he hc k hk (C.1.2.2.2.2.2.2 _ (ws_in hlink)) (fun _ h => h) hv hdg kk
theorem n_put (C : CI g A p s m args meth c cc ret nL own c0) (X : WI g A s ws H locs) {Cn : String} {T : u_T} {N ci index a : Nat} {v : Value} {fs : List Value} (hin : ∀ w ∈ u_ws Cn T N, w ∈ TB) (ty0 : Nat → FieldType) (hty : ∀ k, k < N → parseFieldDescriptor (T k).2.2.1 = some (ty0 k)) (hnm : ∀ a, a < N → ∀ b, b < N → a ≠ b → (T a).2.1 ≠ (T b).2.1) (q : Nat) (he : ws[q]? = some (a, .inr (ci, fs))) (hc : vwCl[ci]? = some (Cn, T, N)) (k : Nat) (hk : k < N) (hlink : Cond.fieldLink own index (T k).1 (T k).2.1 (T k).2.2.1 ∈ TB) (hfin : (T k).2.2.2 = false) (hn : narrow (ty0 k) v = v) (hfit : fits (ty0 k) v = true) (hlen : k < fs.length) (hdg : decode cc pc = .ok (.putfield index, 3))
    (kk : ∀ (H : Heap) (locs : List Loc), WI g A s (ws.set q (a, .inr (ci, fs.set k v))) H locs → W p l e R s m args below meth c H locs cells slots Q (F0 m (pc + 3) ls rest)) : W p l e R s m args below meth c H locs cells slots Q (F0 m pc ls (v :: .ref a :: rest)) :=
  va_put C.1.1 C.1.2.1 C.1.2.2.2.2.2.2 (fun w h => ws_in (hin w h)) ty0 hty hnm C.1.2.2.2.2.2.1 C.2.1 X.1 X.2.1 X.2.2 q he hc k hk (C.1.2.2.2.2.2.2 _ (ws_in hlink)) (fun _ h => h) hfin (hty k hk) hn hfit hlen hdg (fun H1 locs1 h1 h3 h2 => kk H1 locs1 ⟨h1, h3, h2⟩)
theorem n_putF (C : CI g A p s m args meth c cc ret nL own c0) (X : WI g A s ws H locs) {Cn : String} {T : u_T} {N ci index a : Nat} {v : Value} {fs : List Value} (hin : ∀ w ∈ u_ws Cn T N, w ∈ TB) (ty0 : Nat → FieldType) (hty : ∀ k, k < N → parseFieldDescriptor (T k).2.2.1 = some (ty0 k)) (hnm : ∀ a, a < N → ∀ b, b < N → a ≠ b → (T a).2.1 ≠ (T b).2.1) (q : Nat) (he : ws[q]? = some (a, .inr (ci, fs))) (hc : vwCl[ci]? = some (Cn, T, N)) (k : Nat) (hk : k < N) (hlink : Cond.fieldLink own index (T k).1 (T k).2.1 (T k).2.2.1 ∈ TB) (hfin : (T k).2.2.2 = true) (hdecl : (T k).1 = own) (hn : narrow (ty0 k) v = v) (hfit : fits (ty0 k) v = true) (hlen : k < fs.length) (hdg : decode cc pc = .ok (.putfield index, 3))
    (kk : ∀ (H : Heap) (locs : List Loc), WI g A s (ws.set q (a, .inr (ci, fs.set k v))) H locs → W p l e R s m args below meth c H locs cells slots Q (F0 m (pc + 3) ls rest)) : W p l e R s m args below meth c H locs cells slots Q (F0 m pc ls (v :: .ref a :: rest)) :=
  va_putF C.1.1 C.1.2.1 C.1.2.2.2.2.2.2 (fun w h => ws_in (hin w h)) ty0 hty hnm C.1.2.2.2.2.2.1 C.2.1 X.1 X.2.1 X.2.2 q he hc k hk (C.1.2.2.2.2.2.2 _ (ws_in hlink)) (fun _ h => h) hfin C.2.2.2.2 hdecl (hty k hk) hn hfit hlen hdg (fun H1 locs1 h1 h3 h2 => kk H1 locs1 ⟨h1, h3, h2⟩)
theorem n_alen (C : CI g A p s m args meth c cc ret nL own c0) (X : WI g A s ws H locs) (q t0 : Nat) {cA : ClassId} {a : Nat} {x : vp_A} (he : ws[q]? = some (a, .inl (cA, x))) {ty : FieldType} (ht : (TYg g)[t0]? = some (cA, ty)) {v : Int32} (hv : Int32.ofNat x.1 = v) (hdg : decode cc pc = .ok (.arraylength, 1))
    (kk : W p l e R s m args below meth c H locs cells slots Q (F0 m (pc + 1) ls (.int v :: rest))) : W p l e R s m args below meth c H locs cells slots Q (F0 m pc ls (.ref a :: rest)) :=
  va_alen C.1.1 C.1.2.1 C.2.1 X.1 q t0 he ht hv hdg kk
theorem n_astq (C : CI g A p s m args meth c cc ret nL own c0) (X : WI g A s ws H locs) (q0 t0 qk ci : Nat) {cA : ClassId} {r : vw_C} {n a v : Nat} {vs : List Value} {f : Nat → Option Nat} (ha : ws[q0]? = some (a, .inl (cA, n, .inr (.inr (.inr (.inr f)))))) (ht : (TYg g)[t0]? = some (cA, .object r.1)) (hv : ws[qk]? = some (v, .inr (ci, vs))) (hc : vwCl[ci]? = some r) {i : Int32} {j : Nat} (hi : ib i n = true) (hj : i.toNatClampNeg = j) (hdg : decode cc pc = .ok (.aastore, 1))
    (kk : ∀ (H : Heap) (locs : List Loc), WI g A s (ws.set q0 (a, .inl (cA, n, .inr (.inr (.inr (.inr (va_up f j (some v)))))))) H locs → W p l e R s m args below meth c H locs cells slots Q (F0 m (pc + 1) ls rest)) : W p l e R s m args below meth c H locs cells slots Q (F0 m pc ls (.ref v :: .int i :: .ref a :: rest)) := by
  subst hj
  exact va_astq C.1.1 C.1.2.1 C.2.1 X.1 X.2.1 X.2.2 q0 t0 qk ci ha ht hv hc (ib_in hi) hdg (fun H1 locs1 h1 h3 h2 => kk H1 locs1 ⟨h1, h3, h2⟩)
theorem pi_blind {as : List Value} {sz : Nat} : FrameBlind (va_Pc as (PI g ws sz)) := by
  intro a U f mk h
  obtain ⟨h0, h1, h2, h3, h4, h5⟩ := h
  exact ⟨h0, h1, h2, va_K.moved (u := U) (U := U.calling f mk a) (Vm.Alike.refl U.vm) h3, h4, EV.same (u := U) (U := U.calling f mk a) rfl rfl h5⟩
theorem pi_pre (C : CI g A p s m args meth c cc ret nL own c0) (X : WI g A s ws H locs) {wc : va_W} {isC : List Nat} (hC : isC.map (fun i => ws[i]?) = wc.map some) (hnd : va_nd isC = true) {U : State} (hU : U.heap = H) (hW : s.WarmedH U.vm) : PI g wc H.size U := by
  have hF := va_free X.2.1 X.2.2 C.2.2.2.1 isC hC
  have hP : va_P g.1 vwCl wc H := X.1.sub isC (by
    have h := congrArg (List.filterMap id) hC
    rw [List.filterMap_map, List.filterMap_map] at h
    simpa [Function.comp_def] using h)
  exact ⟨by rw [hU], by rw [hU]; exact hP, va_K.moved hW.alike C.2.1, (X.2.1.sub isC hnd hC).weaken (fun _ _ _ _ => trivial), EV.to C.2.2.1 hW hU X.2.2.2.1 hF⟩
/-- a constructor is called; its cells come back grown -/
theorem n_init (C : CI g A p s m args meth c cc ret nL own c0) (X : WI g A s ws H locs) {y : MethodName} {b : ByteArray} {maxL n index mc ms k : Nat} {rm : Room} {As : List Value} {post : (Nat → Nat) → va_W} (wc wr : va_W) (isC isR : List Nat)
    (hM : Met l y (WS (.code y b maxL none)) rm (va_Pc (.ref k :: As) (PI g wc H.size)) (QC g post (va_A wc H.size)) mc ms (va_A wc H.size)) (h1 : Cond.methodLink own index y ∈ TB) (h2 : Cond.instanceMethod y ∈ TB) (h4 : Cond.initialized y.cls ∈ TB) (h5 : Cond.code y b maxL none ∈ TB) (hy : y.name = "<init>")
    (hC : isC.map (fun i => ws[i]?) = wc.map some) (hR : isR.map (fun i => ws[i]?) = wr.map some) (hndC : va_nd isC = true) (hnd : va_nd isR = true) (hdis : ∀ i ∈ isR, i ∉ isC)
    (hrc : rm.cells = mc) (hrs : rm.slots = ms) (hd : y.cls ≠ "java/lang/invoke/MethodHandle" ∧ y.cls ≠ "java/lang/invoke/VarHandle" ∧ (parseMethodDescriptor y.desc).map (fun d => d.parameters.length) = some n) (hRm : rm.frames + 1 ≤ R.frames ∧ 8 + (maxL + 11) + rm.locals ≤ R.locals)
    (hn : As.length = n) (hl : ls.size = nL) (hW : 2 * (F0 m pc ls (As.reverse ++ .ref k :: rest)).monitorRoom + (rest.map fun v => v.category).sum ≤ 8) (hdg : decode cc pc = .ok (.invokespecial index, 3)) (hf : cells + mc ≤ R.cells ∧ slots + ms ≤ R.slots)
    (kk : ∀ (u : Nat → Nat) (H : Heap) (locs : List Loc), WI g A s (wr ++ post u) H locs → W p l e R s m args below meth c H locs (cells + mc) (slots + ms) Q (F0 m (pc + 3) ls rest)) : W p l e R s m args below meth c H locs cells slots Q (F0 m pc ls (As.reverse ++ .ref k :: rest)) := by
  have hF := va_free X.2.1 X.2.2 C.2.2.2.1 isC hC
  refine va_callv (va_runI (As := As) (rest := rest) (b := k) (nL := nL) ⟨C.1.1, C.1.2.1, C.1.2.2.2.2.1, C.1.2.2.2.2.2.1, C.1.2.2.2.2.2.2⟩ hM (cwI n C.1.2.2.2.2.2.2 (ws_good h5) rfl hrc hrs (C.1.2.2.2.2.2.2 _ (ws_in h4)) (C.1.2.2.2.2.2.2 _ (ws_in h1)) (C.1.2.2.2.2.2.2 _ (ws_in h2)) hy hd hRm) ⟨pi_blind, fun U hU hW => ⟨rfl, pi_pre C X hC hndC hU hW⟩⟩ rfl hn hl rfl hW hdg hf) X.2.2 (fun q _ h => hF q h) hF (fun u t H1 locs1 ht hvm hw hB hz hk hS => ?_)
  obtain ⟨hP1, hD1⟩ := hB
  rw [ht] at hP1
  obtain ⟨hP, hD⟩ := va_join X.1 X.2.1 isC isR hC hR hnd hdis hk hF hP1 hD1
  exact kk u H1 locs1 ⟨hP, hD, hS⟩
theorem n_initN (C : CI g A p s m args meth c cc ret nL own c0) (X : WI g A s ws H locs) {y : MethodName} {b : ByteArray} {maxL n index mc ms k : Nat} {host : String} {rm : Room} {As : List Value} {post : (Nat → Nat) → va_W} (wc wr : va_W) (isC isR : List Nat)
    (hM : Met l y (WS (.code y b maxL none)) rm (va_Pc (.ref k :: As) (PI g wc H.size)) (QC g post (va_A wc H.size)) mc ms (va_A wc H.size)) (h1 : Cond.methodLinkNest own index y host ∈ NWW) (h2 : Cond.instanceMethod y ∈ TB) (h4 : Cond.initialized y.cls ∈ TB) (h5 : Cond.code y b maxL none ∈ TB) (hy : y.name = "<init>")
    (hC : isC.map (fun i => ws[i]?) = wc.map some) (hR : isR.map (fun i => ws[i]?) = wr.map some) (hndC : va_nd isC = true) (hnd : va_nd isR = true) (hdis : ∀ i ∈ isR, i ∉ isC)
    (hrc : rm.cells = mc) (hrs : rm.slots = ms) (hd : y.cls ≠ "java/lang/invoke/MethodHandle" ∧ y.cls ≠ "java/lang/invoke/VarHandle" ∧ (parseMethodDescriptor y.desc).map (fun d => d.parameters.length) = some n) (hRm : rm.frames + 1 ≤ R.frames ∧ 8 + (maxL + 11) + rm.locals ≤ R.locals)
    (hn : As.length = n) (hl : ls.size = nL) (hW : 2 * (F0 m pc ls (As.reverse ++ .ref k :: rest)).monitorRoom + (rest.map fun v => v.category).sum ≤ 8) (hdg : decode cc pc = .ok (.invokespecial index, 3)) (hf : cells + mc ≤ R.cells ∧ slots + ms ≤ R.slots)
    (kk : ∀ (u : Nat → Nat) (H : Heap) (locs : List Loc), WI g A s (wr ++ post u) H locs → W p l e R s m args below meth c H locs (cells + mc) (slots + ms) Q (F0 m (pc + 3) ls rest)) : W p l e R s m args below meth c H locs cells slots Q (F0 m pc ls (As.reverse ++ .ref k :: rest)) := by
  have hF := va_free X.2.1 X.2.2 C.2.2.2.1 isC hC
  refine va_callv (va_runIN (As := As) (rest := rest) (b := k) (nL := nL) ⟨C.1.1, C.1.2.1, C.1.2.2.2.2.1, C.1.2.2.2.2.2.1, C.1.2.2.2.2.2.2⟩ hM ⟨va_cnB n C.1.2.2.2.2.2.2 (ws_good h5) rfl hrc hrs (C.2.2.1.1 _ h1) (C.1.2.2.2.2.2.2 _ (ws_in h4)) hd hRm, hy, C.1.2.2.2.2.2.2 _ (ws_in h2)⟩ ⟨pi_blind, fun U hU hW => ⟨rfl, pi_pre C X hC hndC hU hW⟩⟩ rfl hn hl rfl hW hdg hf) X.2.2 (fun q _ h => hF q h) hF (fun u t H1 locs1 ht hvm hw hB hz hk hS => ?_)
  obtain ⟨hP1, hD1⟩ := hB
  rw [ht] at hP1
  obtain ⟨hP, hD⟩ := va_join X.1 X.2.1 isC isR hC hR hnd hdis hk hF hP1 hD1
  exact kk u H1 locs1 ⟨hP, hD, hS⟩
/-- a method on the whole world, out of a constructor -/
theorem n_meth (C : CI g A p s m args meth c cc ret nL own c0) (X : WI g A s ws H locs) {K : WK} {ad : Nat → Nat} {S res : ST} {y : MethodName} {b : ByteArray} {maxL n index ci k : Nat} {rm : Room} {As : List Value} {fs : List Value} {q : vw_C} (isC : List Nat)
    (hM : Met l y (WS (.code y b maxL none)) rm (va_Pc (.ref (ad k) :: As) (PW K g ad S H.size)) (QV K g ad res (AA K ad H.size)) 0 0 (AA K ad H.size)) (h1 : Cond.methodLink own index y ∈ TB) (h2 : Cond.instanceMethod y ∈ TB) (h3 : Cond.selects q.1 y y ∈ TB) (h4 : Cond.initialized q.1 ∈ TB) (h5 : Cond.code y b maxL none ∈ TB)
    (hC : isC.map (fun i => ws[i]?) = (Wld K g ad S).map some) (hndC : va_nd isC = true) (hk : k < K.1) (he : ent K g ad S k = .inr (ci, fs)) (hc : vwCl[ci]? = some q)
    (hrc : rm.cells = 0) (hrs : rm.slots = 0) (hd : y.cls = q.1 ∧ (y.cls ≠ "java/lang/invoke/MethodHandle" ∧ y.cls ≠ "java/lang/invoke/VarHandle" ∧ (parseMethodDescriptor y.desc).map (fun d => d.parameters.length) = some n)) (hRm : rm.frames + 1 ≤ R.frames ∧ 8 + (maxL + 11) + rm.locals ≤ R.locals)
    (hn : As.length = n) (hl : ls.size = nL) (hW : 2 * (F0 m pc ls (As.reverse ++ .ref (ad k) :: rest)).monitorRoom + (rest.map fun v => v.category).sum ≤ 8) (hdg : decode cc pc = .ok (.invokevirtual index, 3)) (hf : cells ≤ R.cells ∧ slots ≤ R.slots)
    (kk : ∀ (H : Heap) (locs : List Loc), WI g A s (Wld K g ad res) H locs → W p l e R s m args below meth c H locs cells slots Q (F0 m (pc + 3) ls rest)) : W p l e R s m args below meth c H locs cells slots Q (F0 m pc ls (As.reverse ++ .ref (ad k) :: rest)) := by
  have hDw : va_D A (Wld K g ad S) := X.2.1.sub isC hndC hC
  have hPw : va_P g.1 vwCl (Wld K g ad S) H := X.1.sub isC (by
    have h := congrArg (List.filterMap id) hC
    rw [List.filterMap_map, List.filterMap_map] at h
    simpa [Function.comp_def] using h)
  have hF : ∀ q, AA K ad H.size q → A q := fun q h => h.elim (fun ⟨i, hi, e⟩ => by rw [e]; exact hDw.2 i _ (Wld_get hi)) (fun h => C.2.2.2.1 q (Nat.le_trans X.2.2.1 h))
  refine va_callv (va_runV (As := As) (rest := rest) (C := q.1) (b := ad k) (nL := nL) (mc := 0) (ms := 0) ⟨C.1.1, C.1.2.1, C.1.2.2.2.2.1, C.1.2.2.2.2.2.1, C.1.2.2.2.2.2.2⟩ hM (cwV n C.1.2.2.2.2.2.2 (ws_V h1 h2 h3 h4 h5) rfl hrc hrs hd hRm) ⟨pw_blind, va_recv C.2.1 hPw hc (by rw [Wld_get hk, he]), fun U hU hW => ⟨rfl, ?_⟩⟩ rfl hn hl rfl hW hdg hf) X.2.2 (fun q _ h => hF q h) hF (fun u t H1 locs1 ht hvm hw hB hz hk hS => ?_)
  · exact ⟨by rw [hU], by rw [hU]; exact hPw, va_K.moved hW.alike C.2.1, hDw.weaken (fun _ _ _ _ => trivial), EV.to C.2.2.1 hW hU X.2.2.2.1 hF⟩
  · subst hw
    exact kk H1 locs1 ⟨by rw [← ht]; exact hB, Wld_D hDw, hS⟩
theorem n_ret (C : CI g A p s m args meth c cc none nL own c0) {post : (Nat → Nat) → va_W} (X : WI g A s ws H locs) (u : Nat → Nat) (isC : List Nat) (hC : isC.map (fun i => ws[i]?) = (post u).map some) (hnd : va_nd isC = true) (hdg : decode cc pc = .ok (.return_, 1)) : W p l e R s m args below meth c H locs cells slots (MQ below (QC g post A) args s cells slots A) (F0 m pc ls []) := by
  have hP : va_P g.1 vwCl (post u) H := X.1.sub isC (by
    have h := congrArg (List.filterMap id) hC
    rw [List.filterMap_map, List.filterMap_map] at h
    simpa [Function.comp_def] using h)
  exact W.vret C.1.1 C.1.2.1 C.1.2.2.1 (fun t ht hW => ⟨⟨u, rfl, trivial, by rw [ht]; exact hP, X.2.1.sub isC hnd hC⟩, X.2.2.F ht⟩) X.2.2.2.2 hdg C.1.2.2.2.1
end NR
