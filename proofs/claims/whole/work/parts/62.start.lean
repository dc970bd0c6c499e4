def narL : List Cond := flatC (Jvm.Cond.and given_1 narrow_1)
def SALc (t : Nat) : String := ((SAL[t]?).map fun q => q.1).getD ""
def SALn (t : Nat) : String := ((SAL[t]?).map fun q => q.2.1).getD ""
def STRk (i : Nat) : Nat := ((STRS[i]?).map fun q => q.2.1).getD 0
def STRt (i : Nat) : String := ((STRS[i]?).map fun q => q.2.2).getD ""
set_option maxRecDepth 100000 in
theorem st_arr : ∀ t, t < 8 → Cond.arrayOf (.static (SALc t) (SALn t) "[I") .int ∈ narL := by decide +kernel
set_option maxRecDepth 100000 in
theorem st_len : ∀ t, t < 8 → Cond.eq (.length (.static (SALc t) (SALn t) "[I")) (.int (Int32.ofNat (sal t).length)) ∈ narL := by decide +kernel
set_option maxRecDepth 100000 in
theorem st_el : ∀ t, t < 8 → ∀ j, j < (sal t).length → Cond.eq (.elem (.static (SALc t) (SALn t) "[I") (.int (Int32.ofNat j))) (.int ((sal t).getD j 0)) ∈ narL := by decide +kernel
set_option maxRecDepth 100000 in
theorem st_lay : ∀ t, t < 8 → Cond.laysStatic (SALc t) (SALn t) "[I" ∈ lw_tbl ∧ Cond.initialized (SALc t) ∈ lw_tbl ∧ (sal t).length < 2 ^ 31 := by decide +kernel
set_option maxRecDepth 100000 in
theorem sg_ex : ∀ i, i < 9 → Cond.exactly (.string "RopeSwing$Reader" (STRk i)) "java/lang/String" ∈ narL ∧ Cond.eq (.field (.string "RopeSwing$Reader" (STRk i)) "java/lang/String" "coder" "B") (.int 0) ∈ narL ∧ Cond.arrayOf (.field (.string "RopeSwing$Reader" (STRk i)) "java/lang/String" "value" "[B") .byte ∈ narL ∧ Cond.eq (.length (.field (.string "RopeSwing$Reader" (STRk i)) "java/lang/String" "value" "[B")) (.int (Int32.ofNat (LENS.getD i 0))) ∈ narL ∧ LENS.getD i 0 < 2 ^ 31 := by decide +kernel
set_option maxRecDepth 100000 in
theorem sg_el : ∀ i, i < 9 → ∀ j, j < LENS.getD i 0 → Cond.eq (.elem (.field (.string "RopeSwing$Reader" (STRk i)) "java/lang/String" "value" "[B") (.int (Int32.ofNat j))) (.int ((BYTS.getD i []).getD j 0)) ∈ narL := by decide +kernel
set_option maxRecDepth 100000 in
theorem sg_ne : ∀ i, i < 9 → ∀ j, j < 9 → i ≠ j → Cond.not (Cond.eq (.string "RopeSwing$Reader" (STRk i)) (.string "RopeSwing$Reader" (STRk j))) ∈ narL ∨ Cond.not (Cond.eq (.string "RopeSwing$Reader" (STRk j)) (.string "RopeSwing$Reader" (STRk i))) ∈ narL := by decide +kernel
set_option maxRecDepth 100000 in
theorem sg_ref : ∀ i, i < 9 → Cond.stringRef "RopeSwing$Reader" (STRk i) (STRt i) ∈ lw_tbl := by decide +kernel
theorem strs_at : ∀ i, i < 9 → STRS[i]? = some ("RopeSwing$Reader", STRk i, STRt i) := by decide +kernel
theorem sal_at2 : ∀ t, t < 8 → SAL[t]? = some (SALc t, SALn t, sal t) := by decide +kernel
theorem LX_of {g : GG} {K1 K2 : WK} {ad1 ad2 : Nat → Nat} {S1 S2 : ST} {s : State} {H : Heap} {locs : List Loc} (hP : va_P g.1 vwCl (Wld K1 g ad1 S1 ++ Wld K2 g ad2 S2) H) (hD : va_D (fun q => s.heap.size ≤ q) (Wld K1 g ad1 S1 ++ Wld K2 g ad2 S2)) (hS : va_S (fun q => s.heap.size ≤ q) s.heap H locs) : LX g K1 ad1 S1 K2 ad2 S2 s H locs := by
  have hlen : (Wld K1 g ad1 S1).length = K1.1 := by simp [Wld]
  have h1 : ∀ (k : Nat) (q : Nat × va_E), (Wld K1 g ad1 S1)[k]? = some q → (Wld K1 g ad1 S1 ++ Wld K2 g ad2 S2)[k]? = some q := fun k q h => by
    rw [List.getElem?_append_left (List.getElem?_eq_some_iff.mp h).1]; exact h
  have h2 : ∀ (k : Nat) (q : Nat × va_E), (Wld K2 g ad2 S2)[k]? = some q → (Wld K1 g ad1 S1 ++ Wld K2 g ad2 S2)[K1.1 + k]? = some q := fun k q h => by
    rw [List.getElem?_append_right (by omega), hlen, Nat.add_sub_cancel_left]; exact h
  refine ⟨fun k q h => hP k q (h1 k q h), fun k q h => hP _ q (h2 k q h), ⟨fun i j p q hi hj e => hD.1 i j p q (h1 i p hi) (h1 j q hj) e, fun k q h => hD.2 k q (h1 k q h)⟩, ⟨fun i j p q hi hj e => ?_, fun k q h => hD.2 _ q (h2 k q h)⟩, fun i j hi hj e => ?_, hS⟩
  · have := hD.1 _ _ p q (h2 i p hi) (h2 j q hj) e
    omega
  · have := hD.1 _ _ _ _ (h1 i _ (Wld_get hi)) (h2 j _ (Wld_get hj)) e
    omega
set_option maxHeartbeats 8000000 in
set_option maxRecDepth 100000 in
/-- what the Statement gives of the start: the classes, the arrays' classes, the constant arrays, the texts -/
theorem start_env {s : State} {b : Nat} (hts : ∀ w ∈ lw_tbl, w.before #[Value.ref b] s = true) (hgv : (Jvm.Cond.and given_1 narrow_1).before #[Value.ref b] s = true) : ∃ g : GG, va_K g.1 vwCl (TYg g) s ∧ EV g (fun q => s.heap.size ≤ q) s s.heap := by
  have hs : ∀ c ∈ narL, c.before #[Value.ref b] s = true := flat_of_before _ hgv
  have hA : ∀ a : Nat, a < s.heap.size → ¬ (fun q : Nat => s.heap.size ≤ q) a := fun a h => Nat.not_le.mpr h
  obtain ⟨c0, iS0, hKn0⟩ := u_known (C := RX0) (T := TX0) (N := 17) hts (fun w h => tb_lw (inT0 w h)) (hts _ (tb_lw wd_281))
  obtain ⟨c1, iS1, hKn1⟩ := u_known (C := RX1) (T := TX1) (N := 13) hts (fun w h => tb_lw (inT1 w h)) (hts _ (tb_lw wd_233))
  obtain ⟨c2, iS2, hKn2⟩ := u_known (C := RX2) (T := TX2) (N := 3) hts (fun w h => tb_lw (inT2 w h)) (hts _ (tb_lw wd_214))
  obtain ⟨c3, iS3, hKn3⟩ := u_known (C := RX3) (T := TX3) (N := 4) hts (fun w h => tb_lw (inT3 w h)) (hts _ (tb_lw wd_143))
  obtain ⟨c4, iS4, hKn4⟩ := u_known (C := RX4) (T := TX4) (N := 8) hts (fun w h => tb_lw (inT4 w h)) (hts _ (tb_lw wd_112))
  obtain ⟨c5, iS5, hKn5⟩ := u_known (C := RX5) (T := TX5) (N := 4) hts (fun w h => tb_lw (inT5 w h)) (hts _ (tb_lw wd_193))
  obtain ⟨c6, iS6, hKn6⟩ := u_known (C := RX6) (T := TX6) (N := 1) hts (fun w h => tb_lw (inT6 w h)) (hts _ (tb_lw wd_182))
  obtain ⟨c7, iS7, hKn7⟩ := u_known (C := RX7) (T := TX7) (N := 2) hts (fun w h => tb_lw (inT7 w h)) (hts _ (tb_lw wd_98))
  obtain ⟨c8, iS8, hKn8⟩ := u_known (C := RX8) (T := TX8) (N := 5) hts (fun w h => tb_lw (inT8 w h)) (hts _ (tb_lw wd_352))
  obtain ⟨c9, iS9, hKn9⟩ := u_known (C := RX9) (T := TX9) (N := 14) hts (fun w h => tb_lw (inT9 w h)) (hts _ (tb_lw wd_90))
  obtain ⟨c10, iS10, hKn10⟩ := u_known (C := RX10) (T := TX10) (N := 46) hts (fun w h => tb_lw (inT10 w h)) (hts _ (tb_lw wd_990))
  obtain ⟨dC, dI, hKc⟩ : ∃ (dC : Nat → ClassId) (dI : Nat → Nat → Nat), ∀ (k : Nat) (q : vw_C), vwCl[k]? = some q → u_Kn s q.1 q.2.1 q.2.2 (dC k) (dI k) := by
    refine ⟨fun k => ([c0, c1, c2, c3, c4, c5, c6, c7, c8, c9, c10] : List ClassId).getD k 0, fun k => ([iS0, iS1, iS2, iS3, iS4, iS5, iS6, iS7, iS8, iS9, iS10] : List (Nat → Nat)).getD k (fun _ => 0), ?_⟩
    intro k q hq
    match k, hq with
    | 0, hq => cases hq; exact hKn0
    | 1, hq => cases hq; exact hKn1
    | 2, hq => cases hq; exact hKn2
    | 3, hq => cases hq; exact hKn3
    | 4, hq => cases hq; exact hKn4
    | 5, hq => cases hq; exact hKn5
    | 6, hq => cases hq; exact hKn6
    | 7, hq => cases hq; exact hKn7
    | 8, hq => cases hq; exact hKn8
    | 9, hq => cases hq; exact hKn9
    | 10, hq => cases hq; exact hKn10
    | k + 11, hq => simp [vwCl] at hq
  obtain ⟨cI, kI, pI, i1, i2, i3⟩ := Cond.arrayClass_spec (hts (Cond.arrayClass .int) (tb_lw wd_110))
  obtain ⟨cZ, kZ, pZ, z1, z2, z3⟩ := Cond.arrayClass_spec (hts (Cond.arrayClass .boolean) (tb_lw wd_1145))
  obtain ⟨pW, cW, kW, w1, -, w2, w3, w4⟩ := Cond.arrayOver_spec (hts (Cond.arrayOver (.object "RopeSwing$Swinger")) (List.mem_of_getElem? (i := 181) (by decide +kernel)))
  obtain ⟨pT, cT, kT, t1, -, t2, t3, t4⟩ := Cond.arrayOver_spec (hts (Cond.arrayOver (.object "RopeSwing$State")) (List.mem_of_getElem? (i := 212) (by decide +kernel)))
  have hst : ∀ t, ∃ q : Nat, t < 8 → (va_Z (SALc t) (SALn t) "[I" (.ref q) (fun q => s.heap.size ≤ q) s s.heap ∧ va_T .int q (sal t).length (fun j => .int ((sal t).getD j 0)) (fun q => s.heap.size ≤ q) s s.heap) := by
    intro t
    by_cases ht : t < 8
    · obtain ⟨l1, l2, l3⟩ := st_lay t ht
      obtain ⟨q, q1, q2⟩ := va_Tof (f := fun j => .int ((sal t).getD j 0)) (A := fun q => s.heap.size ≤ q) l3 (hs _ (st_arr t ht)) (va_eqt (hs _ (st_len t ht))) (fun j hj => va_eqt (hs _ (st_el t ht j hj))) hA
      exact ⟨q, fun _ => ⟨va_Zref (hts _ l1) (hts _ l2) q1 hA, q2⟩⟩
    · exact ⟨0, fun h => absurd h ht⟩
  obtain ⟨sa, hsa⟩ := Classical.axiomOfChoice hst
  obtain ⟨adK, adV, hvk, hev⟩ := vk_Sof (N := 9) (tm := fun i => .string "RopeSwing$Reader" (STRk i)) (len := LENS) (byt := BYTS) (A := fun q => s.heap.size ≤ q) (fun i hi => (sg_ex i hi).2.2.2.2) (fun i hi => hs _ (sg_ex i hi).1) (fun i hi => hs _ (sg_ex i hi).2.1) (fun i hi => hs _ (sg_ex i hi).2.2.1) (fun i hi => hs _ (sg_ex i hi).2.2.2.1) (fun i hi j hj => hs _ (sg_el i hi j hj)) (fun i j hi hj h => (sg_ne i hi j hj h).imp (fun q => hs _ q) (fun q => hs _ q)) hA
  refine ⟨((dC, dI), fun k => ([cI, cZ, cW, cT] : List ClassId).getD k 0, sa, adK, adV), ⟨hKc, fun k q hk => ?_⟩, fun w hw => ?_, fun t q ht => ?_, ?_, ?_, hvk, fun i q hi => ?_⟩
  · match k, hk with
    | 0, hk => cases hk; exact ⟨fun n z => ⟨fun k h => (by cases h), kI, i2, pI, i3⟩, i1⟩
    | 1, hk => cases hk; exact ⟨fun n z => ⟨fun k h => (by cases h), kZ, z2, pZ, z3⟩, z1⟩
    | 2, hk => cases hk; exact ⟨fun n z => ⟨fun k h => (by cases h), kW, w2, pW, w3⟩, kW, pW, w2, w3, w1, w4⟩
    | 3, hk => cases hk; exact ⟨fun n z => ⟨fun k h => (by cases h), kT, t2, pT, t3⟩, kT, pT, t2, t3, t1, t4⟩
    | k + 4, hk => simp at hk
  · exact va_Nw.of (nestW_on (List.mem_filter.mp hw).2) (hts w (List.mem_filter.mp hw).1)
  · have ht8 : t < 8 := (List.getElem?_eq_some_iff.mp ht).1
    rw [sal_at2 t ht8] at ht
    cases ht
    exact hsa t ht8
  · exact va_Zof (hts (Cond.laysStatic "java/lang/String" "COMPACT_STRINGS" "Z") (List.mem_of_getElem? (i := 508) (by decide +kernel))) (hts _ (tb_lw wd_84)) (va_eqi (hs (Cond.eq (.static "java/lang/String" "COMPACT_STRINGS" "Z") (.int 1)) (by decide +kernel))) hA
  · exact va_Zqof (hts (Cond.laysStatic "jdk/internal/util/Preconditions" "SIOOBE_FORMATTER" "Ljava/util/function/BiFunction;") (List.mem_of_getElem? (i := 524) (by decide +kernel))) (hts _ (tb_lw wd_86)) (hs (Cond.isRef (.static "jdk/internal/util/Preconditions" "SIOOBE_FORMATTER" "Ljava/util/function/BiFunction;")) (by decide +kernel)) hA
  · have hi9 : i < 9 := (List.getElem?_eq_some_iff.mp hi).1
    rw [strs_at i hi9] at hi
    cases hi
    have h1 := hts _ (sg_ref i hi9)
    have h2 := hev i hi9
    exact vk_R.of (A := #[Value.ref b]) h1 h2
set_option maxHeartbeats 16000000 in
set_option maxRecDepth 100000 in
/-- THE LAW, from its entry -/
theorem whole_start {p : Program} {e : Env} {s : State} {m : MethodId} {below : List Frame} {meth : Method} {c : Code} (l : Launch) (hflags : l.flags = flags0) {b L : Nat} {xs : Nat → Int32} (hL : L ≤ 2048) (C0 : lw_At p s m meth c b L xs) : W p l e room_1 s m #[Value.ref b] below meth c s.heap [] 0 0 (lw_Z below #[Value.ref b] s) (entryFrame m ([Value.ref b] : List Value).toArray 4) := by
  obtain ⟨hx, hb, hr, hml, hown, hts, hX, hbl, hlocks, hgv⟩ := id C0
  obtain ⟨g, hK, hE⟩ := start_env hts hgv
  have hA : ∀ q : Nat, s.heap.size ≤ q → (fun q : Nat => s.heap.size ≤ q) q := fun _ h => h
  have hS : va_S (fun q : Nat => s.heap.size ≤ q) s.heap s.heap [] := va_S.rf
  have hP : va_P g.1 vwCl [] s.heap := fun k q h => by simp at h
  have hD : va_D (fun q : Nat => s.heap.size ≤ q) [] := ⟨fun i j p q h => by simp at h, fun k q h => by simp at h⟩
  have hl := lv_entry ([.ref b]) (n := 4) (Nat.le_of_ble_eq_true rfl)
  rw [lg_entry_eq]
  generalize (lg_sl ([.ref b]) ++ List.replicate (4 - (lg_sl ([.ref b])).length) Slot.unset).toArray = ls at hl ⊢
  have hl : lv_has ls 4 [(0, .ref b)] := hl
  refine va_new (ci := 9) (fs := [.null, .null, .null, .null, .null, .int 0, .null, .null, .null, .null, .null, .null, .null, .int 0]) (C := RX9) (T := TX9) (N := 14) hx hb hts (fun w h => tb_lw (inT9 w h)) tyX9 tyX9_ok hown (hts _ (tb_lw wd_89)) (hts _ (tb_lw wd_90)) (hts _ (tb_lw wd_70)) hK hP hD hS hA rfl (fun j hj => by rcases (show j = 0 ∨ j = 1 ∨ j = 2 ∨ j = 3 ∨ j = 4 ∨ j = 5 ∨ j = 6 ∨ j = 7 ∨ j = 8 ∨ j = 9 ∨ j = 10 ∨ j = 11 ∨ j = 12 ∨ j = 13 by omega) with rfl | rfl | rfl | rfl | rfl | rfl | rfl | rfl | rfl | rfl | rfl | rfl | rfl | rfl <;> rfl) (Nat.le_of_ble_eq_true rfl) (Nat.le_of_ble_eq_true rfl) dL_law_0 (fun q1 H hP hD hS => ?_)
  have hP : va_P g.1 vwCl [(q1, .inr (9, [.null, .null, .null, .null, .null, .int 0, .null, .null, .null, .null, .null, .null, .null, .int 0]))] H := hP
  have hD : va_D (fun q : Nat => s.heap.size ≤ q) [(q1, .inr (9, [.null, .null, .null, .null, .null, .int 0, .null, .null, .null, .null, .null, .null, .null, .int 0]))] := hD
  refine lv_dup hx hb dL_law_3 rfl ?_
  have hF := va_free (wc := [(q1, .inr (9, [.null, .null, .null, .null, .null, .int 0, .null, .null, .null, .null, .null, .null, .null, .int 0]))]) hD hS hA [0] rfl
  have aoS : va_AO "RopeSwing$Swinger" s := va_AO.of (hts (Cond.arrayOver (.object "RopeSwing$Swinger")) (List.mem_of_getElem? (i := 181) (by decide +kernel)))
  have aoT : va_AO "RopeSwing$State" s := va_AO.of (hts (Cond.arrayOver (.object "RopeSwing$State")) (List.mem_of_getElem? (i := 212) (by decide +kernel)))
  refine va_callv (va_runI (As := []) (rest := [.ref q1]) ⟨hx, hb, hml, hown, hts⟩ (c_X9_init l g q1 H.size) (cwI 0 hts (lw_G wd_93) rfl rfl rfl (hts _ (tb_lw wd_70)) (hts _ (tb_lw wd_91)) (hts _ (tb_lw wd_92)) rfl (by decide +kernel) ⟨Nat.le_of_ble_eq_true rfl, Nat.le_of_ble_eq_true rfl⟩) ⟨pio_blind, fun U hU hW => ⟨rfl, ⟨by rw [hU], by rw [hU]; exact hP, va_K.moved hW.alike hK, hD.weaken (fun _ _ _ _ => trivial), EV.to hE hW hU hS.2.1 hF⟩, va_AO.moved hW.alike aoS, va_AO.moved hW.alike aoT⟩⟩ rfl rfl hl.1 rfl (lv_room (Nat.le_of_ble_eq_true rfl)) dL_law_4 ⟨Nat.le_of_ble_eq_true rfl, Nat.le_of_ble_eq_true rfl⟩) hS (fun q _ h => hF q h) hF (fun u t H1 locs ht hvm hw hB hz1 hk1 hS => ?_)
  obtain ⟨hP1, hD1⟩ := hB
  rw [ht] at hP1
  obtain ⟨ad, had⟩ : ∃ ad : Nat → Nat, ad = fun k => if k = 0 then q1 else u k := ⟨_, rfl⟩
  have had0 : ad 0 = q1 := by rw [had]; rfl
  have hP : va_P g.1 vwCl (Wld kC g ad SC0) H1 := by rw [had]; exact hP1
  have hD : va_D (fun q : Nat => s.heap.size ≤ q) (Wld kC g ad SC0) := by rw [had]; exact hD1.weaken (fun k q hk h => hF _ h)
  generalize H1 = H at hP hS ⊢
  refine lv_astore_n (lv' := [(1, .ref q1), (0, .ref b)]) hx hb dL_law_7 rfl hl (by decide) rfl (fun ls hl => ?_)
  refine va_new (ci := 10) (fs := [.null, .null, .null, .null, .int 0, .null, .null, .null, .int 0, .int 0, .int 0, .long 0, .int 0, .int 0, .int 0, .null, .null, .null, .null, .int 0, .int 0, .int 0, .int 0, .int 0, .int 0, .int 0, .int 0, .int 0, .int 0, .null, .null, .null, .null, .int 0, .int 0, .int 0, .int 0, .int 0, .int 0, .int 0, .int 0, .null, .int 0, .null, .null, .null]) (C := RX10) (T := TX10) (N := 46) hx hb hts (fun w h => tb_lw (inT10 w h)) tyX10 tyX10_ok hown (hts _ (tb_lw wd_989)) (hts _ (tb_lw wd_990)) (hts _ (tb_lw wd_83)) hK hP hD hS hA rfl (fun j hj => by rcases (show j = 0 ∨ j = 1 ∨ j = 2 ∨ j = 3 ∨ j = 4 ∨ j = 5 ∨ j = 6 ∨ j = 7 ∨ j = 8 ∨ j = 9 ∨ j = 10 ∨ j = 11 ∨ j = 12 ∨ j = 13 ∨ j = 14 ∨ j = 15 ∨ j = 16 ∨ j = 17 ∨ j = 18 ∨ j = 19 ∨ j = 20 ∨ j = 21 ∨ j = 22 ∨ j = 23 ∨ j = 24 ∨ j = 25 ∨ j = 26 ∨ j = 27 ∨ j = 28 ∨ j = 29 ∨ j = 30 ∨ j = 31 ∨ j = 32 ∨ j = 33 ∨ j = 34 ∨ j = 35 ∨ j = 36 ∨ j = 37 ∨ j = 38 ∨ j = 39 ∨ j = 40 ∨ j = 41 ∨ j = 42 ∨ j = 43 ∨ j = 44 ∨ j = 45 by omega) with rfl | rfl | rfl | rfl | rfl | rfl | rfl | rfl | rfl | rfl | rfl | rfl | rfl | rfl | rfl | rfl | rfl | rfl | rfl | rfl | rfl | rfl | rfl | rfl | rfl | rfl | rfl | rfl | rfl | rfl | rfl | rfl | rfl | rfl | rfl | rfl | rfl | rfl | rfl | rfl | rfl | rfl | rfl | rfl | rfl | rfl <;> rfl) (Nat.le_of_ble_eq_true rfl) (Nat.le_of_ble_eq_true rfl) dL_law_8 (fun q2 H hP hD hS => ?_)
  refine lv_dup hx hb dL_law_11 rfl ?_
  have hC : [54].map (fun i => (Wld kC g ad SC0 ++ [(q2, .inr (10, [.null, .null, .null, .null, .int 0, .null, .null, .null, .int 0, .int 0, .int 0, .long 0, .int 0, .int 0, .int 0, .null, .null, .null, .null, .int 0, .int 0, .int 0, .int 0, .int 0, .int 0, .int 0, .int 0, .int 0, .int 0, .null, .null, .null, .null, .int 0, .int 0, .int 0, .int 0, .int 0, .int 0, .int 0, .int 0, .null, .int 0, .null, .null, .null]))] : va_W)[i]?) = ([(q2, .inr (10, [.null, .null, .null, .null, .int 0, .null, .null, .null, .int 0, .int 0, .int 0, .long 0, .int 0, .int 0, .int 0, .null, .null, .null, .null, .int 0, .int 0, .int 0, .int 0, .int 0, .int 0, .int 0, .int 0, .int 0, .int 0, .null, .null, .null, .null, .int 0, .int 0, .int 0, .int 0, .int 0, .int 0, .int 0, .int 0, .null, .int 0, .null, .null, .null]))] : va_W).map some := rfl
  have hF := va_free (wc := [(q2, .inr (10, [.null, .null, .null, .null, .int 0, .null, .null, .null, .int 0, .int 0, .int 0, .long 0, .int 0, .int 0, .int 0, .null, .null, .null, .null, .int 0, .int 0, .int 0, .int 0, .int 0, .int 0, .int 0, .int 0, .int 0, .int 0, .null, .null, .null, .null, .int 0, .int 0, .int 0, .int 0, .int 0, .int 0, .int 0, .int 0, .null, .int 0, .null, .null, .null]))]) hD hS hA [54] hC
  have hP2 : va_P g.1 vwCl [(q2, .inr (10, [.null, .null, .null, .null, .int 0, .null, .null, .null, .int 0, .int 0, .int 0, .long 0, .int 0, .int 0, .int 0, .null, .null, .null, .null, .int 0, .int 0, .int 0, .int 0, .int 0, .int 0, .int 0, .int 0, .int 0, .int 0, .null, .null, .null, .null, .int 0, .int 0, .int 0, .int 0, .int 0, .int 0, .int 0, .int 0, .null, .int 0, .null, .null, .null]))] H := hP.sub [54] rfl
  have hD2 : va_D (fun q : Nat => s.heap.size ≤ q) [(q2, .inr (10, [.null, .null, .null, .null, .int 0, .null, .null, .null, .int 0, .int 0, .int 0, .long 0, .int 0, .int 0, .int 0, .null, .null, .null, .null, .int 0, .int 0, .int 0, .int 0, .int 0, .int 0, .int 0, .int 0, .int 0, .int 0, .null, .null, .null, .null, .int 0, .int 0, .int 0, .int 0, .int 0, .int 0, .int 0, .int 0, .null, .int 0, .null, .null, .null]))] := hD.sub [54] rfl hC
  refine va_callv (va_runI (As := []) (rest := [.ref q2]) ⟨hx, hb, hml, hown, hts⟩ (c_X10_init l g q2 H.size) (cwI 0 hts (lw_G wd_993) rfl rfl rfl (hts _ (tb_lw wd_83)) (hts _ (tb_lw wd_991)) (hts _ (tb_lw wd_992)) rfl (by decide +kernel) ⟨Nat.le_of_ble_eq_true rfl, Nat.le_of_ble_eq_true rfl⟩) ⟨pi_blind, fun U hU hW => ⟨rfl, by rw [hU], by rw [hU]; exact hP2, va_K.moved hW.alike hK, hD2.weaken (fun _ _ _ _ => trivial), EV.to hE hW hU hS.2.1 hF⟩⟩ rfl rfl hl.1 rfl (lv_room (Nat.le_of_ble_eq_true rfl)) dL_law_12 ⟨Nat.le_of_ble_eq_true rfl, Nat.le_of_ble_eq_true rfl⟩) hS (fun q _ h => hF q h) hF (fun u2 t H1 locs ht hvm hw hB hz1 hk1 hS => ?_)
  obtain ⟨hP1, hD1⟩ := hB
  rw [ht] at hP1
  obtain ⟨am, ham⟩ : ∃ am : Nat → Nat, am = fun k => if k = 0 then q2 else u2 k := ⟨_, rfl⟩
  have ham0 : am 0 = q2 := by rw [ham]; rfl
  have hP3 : va_P g.1 vwCl (Wld kM g am SM0) H1 := by rw [ham]; exact hP1
  have hD3 : va_D (va_A [(q2, .inr (10, [.null, .null, .null, .null, .int 0, .null, .null, .null, .int 0, .int 0, .int 0, .long 0, .int 0, .int 0, .int 0, .null, .null, .null, .null, .int 0, .int 0, .int 0, .int 0, .int 0, .int 0, .int 0, .int 0, .int 0, .int 0, .null, .null, .null, .null, .int 0, .int 0, .int 0, .int 0, .int 0, .int 0, .int 0, .int 0, .null, .int 0, .null, .null, .null]))] H.size) (Wld kM g am SM0) := by rw [ham]; exact hD1
  obtain ⟨hP, hD⟩ := va_join (wr := Wld kC g ad SC0) hP hD [54] (List.range 54) hC rfl (by decide) (by decide) hk1 hF hP3 hD3
  have X := LX_of hP hD hS
  rw [← ham0]
  refine lv_astore_n (lv' := [(2, .ref (am 0)), (1, .ref q1), (0, .ref b)]) hx hb dL_law_15 rfl hl (by decide) rfl (fun ls hl => ?_)
  refine lv_iconst (v := 0) hx hb dL_law_16 (by decide) ?_
  refine lv_istore_n (lv' := [(3, .int 0), (2, .ref (am 0)), (1, .ref q1), (0, .ref b)]) hx hb dL_law_17 rfl hl (by decide) rfl (fun ls hl => ?_)
  exact law_loop hL C0 hK hE (L + 1) 0 0 (by omega) nI_0.symm (Nat.zero_le L) SC0 SM0 E_init H1 locs X ls (by rw [had0]; exact lv_sub hl [3, 2, 1, 0] rfl)
