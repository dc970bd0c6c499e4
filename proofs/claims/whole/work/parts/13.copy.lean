theorem nat_cp : Cond.native arraycopyName ∈ TB := tb_of 159 _ (by decide +kernel) rfl
section CPY
variable {p : Program} {l : Launch} {e : Env} {R : Room} {s : State} {m : MethodId} {args : Array Value} {below : List Frame} {meth : Method} {c : Code} {H : Heap} {locs : List Loc} {Q : State → Prop} {K : WK} {g : GG} {ad : Nat → Nat} {S S' : ST} {cc : ByteArray} {ret : Option FieldType} {nL : Nat} {own : String} {c0 : Cond} {pc : Nat} {ls : Array Slot} {rest : List Value}
theorem g_cpy (C : CX K g ad p s m args meth c cc ret nL own c0) (X : WX K g ad s S H locs) (hsz : ls.size = nL) {index : Nat} (w1 : Cond.methodLink own index arraycopyName ∈ TB) (w2 : Cond.native arraycopyName ∈ TB) (w3 : Cond.static arraycopyName ∈ TB) (w4 : Cond.initialized "java/lang/System" ∈ TB)
    (q0 : Nat) (hq0 : q0 < K.1) {n0 : Nat} {f : Nat → Int32} (he0 : ent K g ad S q0 = .inl (g.2.1 0, (n0, .inl f))) (q1 : Nat) (hq1 : q1 < K.1) {n1 : Nat} {f1 : Nat → Int32} (he1 : ent K g ad S q1 = .inl (g.2.1 0, (n1, .inl f1))) {sp dp n : Int32} (hk : cpk sp dp n n0 n1 = true)
    (hst : ent K g ad S' q1 = .inl (g.2.1 0, (n1, .inl (va_cpy f f1 sp.toNatClampNeg dp.toNatClampNeg n.toNatClampNeg)))) (hoff : ∀ i, i ≠ q1 → ent K g ad S' i = ent K g ad S i) (hframes : 1 ≤ R.frames) (hlocals : (rest.map fun v => v.category).sum + (nativeFrameWords "java/lang/System" "arraycopy" 5 + 11) ≤ R.locals) (hdg : decode cc pc = .ok (.invokestatic index, 3))
    (kk : ∀ (H : Heap) (locs : List Loc), WX K g ad s S' H locs → W p l e R s m args below meth c H locs 0 0 Q (F0 m (pc + 3) ls rest)) : W p l e R s m args below meth c H locs 0 0 Q (F0 m pc ls (.int n :: .int dp :: .ref (ad q1) :: .int sp :: .ref (ad q0) :: rest)) := by
  obtain ⟨h1, h2, h3, h4, h5⟩ := cpk_s hk
  have hts := C.1.2.2.2.2.2.2
  exact va_copyi C.1.1 C.1.2.1 (C.1.2.2.2.2.1.trans hsz.symm) C.1.2.2.2.2.2.1 (hts _ (ws_in w1)) (hts _ (ws_in w2)) (hts _ (ws_in w3)) (hts _ (ws_in w4)) C.2.1 X.1 X.2.1 X.2.2 q0 q1 0 0 (by rw [Wld_get hq0, he0]) (by rw [Wld_get hq1, he1]) rfl rfl rfl h1 h2 h3 h4 h5 (fun _ _ => rfl) hframes hlocals hdg (fun H1 locs1 a1 a3 a2 => kk H1 locs1 (WX.set a1 a3 a2 hst hoff))
set_option maxHeartbeats 1000000 in
/-- a copy out of a constant array -/
theorem g_cpyS (C : CX K g ad p s m args meth c cc ret nL own c0) (X : WX K g ad s S H locs) (hsz : ls.size = nL) {index : Nat} (w1 : Cond.methodLink own index arraycopyName ∈ TB) (w2 : Cond.native arraycopyName ∈ TB) (w3 : Cond.static arraycopyName ∈ TB) (w4 : Cond.initialized "java/lang/System" ∈ TB)
    (t : Nat) {q : String × String × List Int32} (ht : SAL[t]? = some q) (q1 : Nat) (hq1 : q1 < K.1) {n1 : Nat} {f1 : Nat → Int32} (he1 : ent K g ad S q1 = .inl (g.2.1 0, (n1, .inl f1))) {sp dp n : Int32} (hk : cpk sp dp n q.2.2.length n1 = true)
    (hst : ent K g ad S' q1 = .inl (g.2.1 0, (n1, .inl (va_cpy (fun j => q.2.2.getD j 0) f1 sp.toNatClampNeg dp.toNatClampNeg n.toNatClampNeg)))) (hoff : ∀ i, i ≠ q1 → ent K g ad S' i = ent K g ad S i) (hframes : 1 ≤ R.frames) (hlocals : (rest.map fun v => v.category).sum + (nativeFrameWords "java/lang/System" "arraycopy" 5 + 11) ≤ R.locals) (hdg : decode cc pc = .ok (.invokestatic index, 3))
    (kk : ∀ (H : Heap) (locs : List Loc), WX K g ad s S' H locs → W p l e R s m args below meth c H locs 0 0 Q (F0 m (pc + 3) ls rest)) : W p l e R s m args below meth c H locs 0 0 Q (F0 m pc ls (.int n :: .int dp :: .ref (ad q1) :: .int sp :: .ref (g.2.2.1 t) :: rest)) := by
  obtain ⟨h1, h2, h3, h4, h5⟩ := cpk_s hk
  have hts := C.1.2.2.2.2.2.2
  have nn : ∀ z : Int32, ¬ z < 0 → z.toInt = (z.toNatClampNeg : Int) := by
    intro z hz
    have hz0 : (0 : Int) ≤ z.toInt := by
      have := Int32.not_lt.mp hz
      simpa using Int32.le_iff_toInt_le.mp this
    show z.toInt = ((z.toInt.toNat : Nat) : Int)
    omega
  have hq1' : (Wld K g ad S)[q1]? = some (ad q1, .inl (g.2.1 0, (n1, .inl f1))) := by rw [Wld_get hq1, he1]
  intro T hT Y
  obtain ⟨scr, hs1, hs2, hs3, hs4, -, hs5, hs7⟩ := (C.2.2.2.1 t q ht).2
  have hc0 : H[g.2.2.1 t]? = some scr := by rw [X.2.2.2.1 _ (Array.getElem?_eq_some_iff.mp hs1).1 hs7]; exact hs1
  have hc1 : H[ad q1]? = some (vp_cell (g.2.1 0) (n1, .inl f1)) := X.1 q1 _ hq1'
  obtain ⟨hs6, k0, hk0, cm0, hkk0⟩ := hs2
  obtain ⟨-, k1, hk1, cm1, hkk1⟩ := (C.2.1.2 0 (g.2.1 0, .int) rfl).1 n1 (fun j => .int (f1 j))
  obtain ⟨vm', X', step⟩ := Y.arraycopy C.1.1 C.1.2.2.2.2.2.1 (hts _ (ws_in w1)) (hts _ (ws_in w2)) (hts _ (ws_in w3)) (hts _ (ws_in w4)) (src := g.2.2.1 t) (dst := ad q1) (cs := scr) (cd := vp_cell (g.2.1 0) (n1, .inl f1)) (srcPos := sp) (destPos := dp) (n := n) (by rw [hT]; exact hc0) (by rw [hT]; exact hc1)
    hs6 (fun _ h => by cases h) hs3 (fun h => by cases h) hk0 hk1 hkk0 hkk1 (by simp [refKind]) h1 h2 h3
    (by rw [nn sp h1, nn n h3]; omega)
    (by rw [nn dp h2, nn n h3]; show ¬ _ > ((arrV (g.2.1 0) n1 (fun j => .int (f1 j))).slots.size : Int); rw [arrV_size]; omega)
    (fun vm₁ _ i hi => by
      have e : scr.slots.getD (sp.toNatClampNeg + i) .null = .int (q.2.2.getD (sp.toNatClampNeg + i) 0) := by
        rw [Array.getD_eq_getD_getElem?, hs5 _ (by omega)]
        rfl
      refine ⟨?_, ?_⟩
      · rw [e]
        rfl
      · rw [e]
        exact trivial)
    (g := F0 m pc ls (.int n :: .int dp :: .ref (ad q1) :: .int sp :: .ref (g.2.2.1 t) :: rest)) rfl (by rw [C.1.2.2.2.2.1]; exact hsz) (rest := rest) rfl (by rw [C.1.2.1]; exact hdg) hframes (by show 2 * 0 + _ + _ ≤ _; omega)
  have e1 : copied scr (vp_cell (g.2.1 0) (n1, .inl f1)) sp dp n = vp_cell (g.2.1 0) (n1, .inl (va_cpy (fun j => q.2.2.getD j 0) f1 sp.toNatClampNeg dp.toNatClampNeg n.toNatClampNeg)) := va_copiedX (fun z => .int z) scr (g.2.1 0) (fun j => q.2.2.getD j 0) f1 hs5 h4
  rw [e1] at X' step
  have hl : ad q1 < H.size := (Array.getElem?_eq_some_iff.mp hc1).1
  have hheap : ((T.setVm vm').setCell (ad q1) (vp_cell (g.2.1 0) (n1, .inl (va_cpy (fun j => q.2.2.getD j 0) f1 sp.toNatClampNeg dp.toNatClampNeg n.toNatClampNeg)))).heap = H.setIfInBounds (ad q1) (vp_cell (g.2.1 0) (n1, .inl (va_cpy (fun j => q.2.2.getD j 0) f1 sp.toNatClampNeg dp.toNatClampNeg n.toNatClampNeg))) := by rw [← hT]; rfl
  have oq : ∀ z : Nat, z ≠ ad q1 → (H.setIfInBounds (ad q1) (vp_cell (g.2.1 0) (n1, .inl (va_cpy (fun j => q.2.2.getD j 0) f1 sp.toNatClampNeg dp.toNatClampNeg n.toNatClampNeg))))[z]? = H[z]? := fun z hz => by simp [Array.getElem?_setIfInBounds, Ne.symm hz]
  have hP1 : va_P g.1 vwCl ((Wld K g ad S).set q1 (ad q1, .inl (g.2.1 0, (n1, .inl (va_cpy (fun j => q.2.2.getD j 0) f1 sp.toNatClampNeg dp.toNatClampNeg n.toNatClampNeg))))) (H.setIfInBounds (ad q1) (vp_cell (g.2.1 0) (n1, .inl (va_cpy (fun j => q.2.2.getD j 0) f1 sp.toNatClampNeg dp.toNatClampNeg n.toNatClampNeg)))) := X.1.set X.2.1 hq1' (show (H.setIfInBounds (ad q1) (vp_cell (g.2.1 0) (n1, .inl (va_cpy (fun j => q.2.2.getD j 0) f1 sp.toNatClampNeg dp.toNatClampNeg n.toNatClampNeg))))[ad q1]? = some (vp_cell (g.2.1 0) (n1, .inl (va_cpy (fun j => q.2.2.getD j 0) f1 sp.toNatClampNeg dp.toNatClampNeg n.toNatClampNeg))) by simp [Array.getElem?_setIfInBounds, hl]) oq
  obtain ⟨t, a1, b1⟩ := kk _ _ (WX.set hP1 (X.2.1.set hq1') ⟨by simp; exact X.2.2.1, fun z g1 g2 => by
      rw [oq z (fun e => g2 (by rw [e]; exact X.2.1.2 q1 _ hq1'))]
      exact X.2.2.2.1 z g1 g2, fun z hz => by
      rcases List.mem_append.mp hz with h | h
      · exact X.2.2.2.2 z h
      · obtain ⟨z', -, hz'⟩ := List.mem_map.mp h
        rw [← hz']
        exact X.2.1.2 q1 _ hq1'⟩ hst hoff) _ hheap X'
  exact ⟨t, step t a1, b1⟩
end CPY
