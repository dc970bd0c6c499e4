/-- how far off a film's angle is -/
def offv (L A V a : Int32) (T : Nat) : Int32 := if 0 ≤ (trs L A V T).1 / 1000 - a then (trs L A V T).1 / 1000 - a else 0 - ((trs L A V T).1 / 1000 - a)
theorem offv_b (L A V : Int32) {a : Int32} (a1 : -180 ≤ a.toInt) (a2 : a.toInt ≤ 180) (T : Nat) : ¬ (2147483647 : Int32) ≤ offv L A V a T := by
  have c1 : (1000 : Int32).toInt = 1000 := rfl
  have c0 : (0 : Int32).toInt = 0 := rfl
  have cb : (2147483647 : Int32).toInt = 2147483647 := rfl
  have h1 := Int32.le_toInt (trs L A V T).1
  have h2 := Int32.toInt_lt (trs L A V T).1
  have e1 : ((trs L A V T).1 / 1000).toInt = (trs L A V T).1.toInt.tdiv 1000 := by rw [ti_div (by rw [c1]; decide), c1]
  have b1 := tdiv_b (x := (trs L A V T).1.toInt) (d := 1000) (m := 2147483648) (by omega)
  have b2 : (2147483648 : Nat) / (1000 : Int).natAbs = 2147483 := by decide
  have e2 : ((trs L A V T).1 / 1000 - a).toInt = (trs L A V T).1.toInt.tdiv 1000 - a.toInt := by rw [ti_sub (by rw [e1]; omega) (by rw [e1]; omega), e1]
  have e3 : (0 - ((trs L A V T).1 / 1000 - a)).toInt = -((trs L A V T).1.toInt.tdiv 1000 - a.toInt) := by rw [ti_sub (by rw [e2, c0]; omega) (by rw [e2, c0]; omega), e2, c0]; omega
  rw [i_le, cb]
  unfold offv
  by_cases q : 0 ≤ (trs L A V T).1 / 1000 - a
  · rw [if_pos q, e2]; omega
  · rw [if_neg q, e3]; omega
theorem sizeO (L A V a : Int32) (T : Nat) : f_X10_size ((trs L A V T).1 / 1000 - a) = some (offv L A V a T) := by
  have e : ∀ y : Int32, -y = 0 - y := fun y => (Int32.zero_sub y).symm
  unfold f_X10_size offv
  by_cases q : 0 ≤ (trs L A V T).1 / 1000 - a
  · rw [if_pos q, if_pos q]
  · rw [if_neg q, if_neg q, e]
theorem film69 {L A V a : Int32} (hL : ¬ L = 0) {T : Nat} (hT : T ≤ 200) (K : Int32 → Int32 → Int32 → Int32 → Int32 → ST → Option (Int32 × ST)) (v4 v5 : Int32) (v : Nat) : ∀ (r u n : Nat) (S : ST), u + r = T → r < n → PD 41 L A V u S → ∃ S', (lp (fun _ _ _ _ _ _ _ => none) (b_X9_film_69 K) n (nI T) a v4 v5 (nI v) (nI (u + 1)) S = if v5 ≤ offv L A V a T then K (nI T) a v4 v5 (nI (v + 1)) S' else K (nI T) a (nI v) (offv L A V a T) (nI (v + 1)) S') ∧ ∀ k, k ≠ 41 → S'.1 k = S.1 k := by
  intro r
  induction r with
  | zero =>
    intro u n S hu hn hP
    obtain ⟨n, rfl⟩ : ∃ k, n = k + 1 := ⟨n - 1, by omega⟩
    have e : u = T := by omega
    subst e
    refine ⟨S, ?_, fun _ _ => rfl⟩
    rw [lp_s]; rw [b_X9_film_69]; rw [if_pos (nI_lt (by omega) (by omega)), nm_x, nm_x, nm_x, nI_1, hP.2.1]
    rfl
  | succ r ih =>
    intro u n S hu hn hP
    obtain ⟨n, rfl⟩ : ∃ k, n = k + 1 := ⟨n - 1, by omega⟩
    obtain ⟨S1, a1, a2, a3⟩ := swing_ok 41 hL hP
    obtain ⟨S2, b1, b2⟩ := ih (u + 1) n S1 (by omega) (by omega) a2
    refine ⟨S2, ?_, fun k hk => (b2 k hk).trans (a3 k hk)⟩
    rw [lp_s]; rw [b_X9_film_69]; rw [if_neg (nI_nlt (by omega) (by omega)), a1, bn1_some, nm_x, nI_1 (u + 1)]
    exact b1
theorem filmC {L A a : Int32} (hL : ¬ L = 0) {T v : Nat} (hT : T ≤ 200) (hv : v ≤ 600) (K : Int32 → Int32 → Int32 → Int32 → Int32 → ST → Option (Int32 × ST)) (v4 v5 : Int32) {S : ST} (h1 : S.1 5 1 - S.1 32 1 = L) (h3 : S.1 32 3 = A) : ∃ S', (b_X9_film_37 K (nI T) a v4 v5 (nI v) S = if v5 ≤ offv L A (nI v) a T then K (nI T) a v4 v5 (nI (v + 1)) S' else K (nI T) a (nI v) (offv L A (nI v) a T) (nI (v + 1)) S') ∧ ∀ k, k ≠ 41 → S'.1 k = S.1 k := by
  obtain ⟨S1, a1, a2, a3⟩ := begin_ok 41 L A (nI v) S hL
  obtain ⟨S2, b1, b2⟩ := film69 (a := a) hL hT K v4 v5 v T 0 1000 S1 (by omega) (by omega) a2
  have b1' : lp (fun _ _ _ _ _ _ _ => none) (b_X9_film_69 K) 1000 (nI T) a v4 v5 (nI v) (1 : Int32) S1 = _ := b1
  have k3 : f_X5_inHand (3 : Int32) S = some A := (handC (i := 3) S (by omega)).trans (congrArg some h3)
  refine ⟨S2, ?_, fun k hk => (b2 k hk).trans (a3 k hk)⟩
  rw [b_X9_film_37]; rw [if_neg (show ¬ (600 : Int32) < nI v from nI_nlt (a := 600) (by omega) (by omega)), lenC, h1, bn1_some, k3, bn1_some, a1, bn1_some, b1']
theorem filmM {L A a : Int32} {T v : Nat} (hT : T ≤ 200) (hv : v ≤ 600) (hR : Rg L A (nI v)) (K : Int32 → Int32 → Int32 → Int32 → Int32 → ST → Option (Int32 × ST)) (b l : Int32) {M : ST} (h21 : M.1 0 21 = L) (h3 : M.1 6 3 = A) (h24 : M.1 0 24 = 10) (h26 : M.1 0 26 = 300) : ∃ M', (b_X10_film_49 K (nI T) a b l (nI v) M = if b < 0 ∨ ¬ l ≤ offv L A (nI v) a T then K (nI T) a (nI v) (offv L A (nI v) a T) (nI (v + 1)) M' else K (nI T) a b l (nI (v + 1)) M') ∧ MF M M' ∧ M'.1 0 21 = L ∧ M'.1 0 24 = 10 ∧ M'.1 0 26 = 300 := by
  obtain ⟨U, hU⟩ : ∃ U : ST, U = su M 0 22 (nI v) := ⟨_, rfl⟩
  have oU : Off 0 [22] M U := by rw [hU]; exact Off.rf.su 22 _ (by simp)
  obtain ⟨M2, g1, g2, g3⟩ := mswing_ok (W := 10) (G := 300) hR (by decide) (by decide) (by decide) (S := U) (by rw [oU.at (by simp)]; exact h21) (by rw [hU]; simp [su_1]) (by rw [oU.row (k := 6) (by omega)]; exact h3) (by rw [oU.at (by simp)]; exact h24) (by rw [oU.at (by simp)]; exact h26)
  have e0 : M2.1 0 = U.1 0 := g3 0 (by omega)
  refine ⟨M2, ?_, (MF.off (by intro j hj; simp at hj; omega) oU).tr (MF.fr (by omega) (by omega) g3), by rw [e0, oU.at (by simp)]; exact h21, by rw [e0, oU.at (by simp)]; exact h24, by rw [e0, oU.at (by simp)]; exact h26⟩
  have y1 : ∀ x, b_X10_film_100 K (nI T) a b l (nI v) x 1 M2 = K (nI T) a (nI v) x (nI (v + 1)) M2 := fun x => by
    unfold b_X10_film_100 b_X10_film_113
    rw [if_neg w10, if_neg w10, nm_x, nI_1]
  have y0 : ∀ x, b_X10_film_100 K (nI T) a b l (nI v) x 0 M2 = K (nI T) a b l (nI (v + 1)) M2 := fun x => by
    unfold b_X10_film_100 b_X10_film_113
    rw [if_pos rfl, if_pos rfl, nm_x, nI_1]
  rw [b_X10_film_49]; rw [if_neg (show ¬ (600 : Int32) < nI v from nI_nlt (a := 600) (by omega) (by omega)), nm_x, ← hU, g1, bn1_some, chk_t _ (ib_nI (by omega) (by omega)), nI_n (by omega), (g2 T (by omega)).1, sizeO, bn1_some]
  by_cases z : b < 0
  · rw [if_pos z, if_pos (Or.inl z), y1]
  · rw [if_neg z]
    by_cases w : l ≤ offv L A (nI v) a T
    · rw [if_pos w, if_neg (fun h => h.elim z (fun h => h w)), y0]
    · rw [if_neg w, if_pos (Or.inr w), y1]
theorem film_loop {L A a : Int32} {T : Nat} (hT : T ≤ 200) (hR : ∀ v, v ≤ 600 → Rg L A (nI v)) : ∀ (r v n1 n2 : Nat) (b l : Int32) (S M : ST), 1 ≤ v → v + r = 601 → r < n1 → r < n2 → ¬ b < 0 → S.1 5 1 - S.1 32 1 = L → S.1 32 3 = A → M.1 0 21 = L → M.1 6 3 = A → M.1 0 24 = 10 → M.1 0 26 = 300 →
    ∃ S' M' x, lp (fun _ _ _ _ _ _ => none) b_X9_film_37 n1 (nI T) a b l (nI v) S = some (x, S') ∧ lp (fun _ _ _ _ _ _ => none) b_X10_film_49 n2 (nI T) a b l (nI v) M = some (x, M') ∧ (∀ k, k ≠ 41 → S'.1 k = S.1 k) ∧ MF M M' := by
  intro r
  induction r with
  | zero =>
    intro v n1 n2 b l S M h1 hv hn1 hn2 hb s1 s3 m21 m3 m24 m26
    obtain ⟨n1, rfl⟩ : ∃ k, n1 = k + 1 := ⟨n1 - 1, by omega⟩
    obtain ⟨n2, rfl⟩ : ∃ k, n2 = k + 1 := ⟨n2 - 1, by omega⟩
    have z : (600 : Int32) < nI v := nI_lt (a := 600) (by omega) (by omega)
    refine ⟨S, M, b, ?_, ?_, fun _ _ => rfl, ⟨fun _ _ => rfl, fun _ _ => rfl⟩⟩
    · rw [lp_s]; rw [b_X9_film_37]; rw [if_pos z]
    · rw [lp_s]; rw [b_X10_film_49]; rw [if_pos z]
  | succ r ih =>
    intro v n1 n2 b l S M h1 hv hn1 hn2 hb s1 s3 m21 m3 m24 m26
    obtain ⟨n1, rfl⟩ : ∃ k, n1 = k + 1 := ⟨n1 - 1, by omega⟩
    obtain ⟨n2, rfl⟩ : ∃ k, n2 = k + 1 := ⟨n2 - 1, by omega⟩
    obtain ⟨S1, a1, a2⟩ := filmC (a := a) (hR v (by omega)).ne hT (v := v) (by omega) (lp (fun _ _ _ _ _ _ => none) b_X9_film_37 n1) b l s1 s3
    obtain ⟨M1, c1, c2, c3, c4, c5⟩ := filmM (a := a) hT (v := v) (by omega) (hR v (by omega)) (lp (fun _ _ _ _ _ _ => none) b_X10_film_49 n2) b l m21 m3 m24 m26
    rw [lp_s, lp_s, a1, c1]
    by_cases w : l ≤ offv L A (nI v) a T
    · rw [if_pos w, if_neg (fun h => h.elim hb (fun h => h w))]
      obtain ⟨S2, M2, x, x1, x2, x3, x4⟩ := ih (v + 1) n1 n2 b l S1 M1 (by omega) (by omega) (by omega) (by omega) hb (by rw [a2 5 (by omega), a2 32 (by omega)]; exact s1) (by rw [a2 32 (by omega)]; exact s3) c3 (by rw [c2.1 6 (by omega)]; exact m3) c4 c5
      exact ⟨S2, M2, x, x1, x2, fun k hk => (x3 k hk).trans (a2 k hk), c2.tr x4⟩
    · rw [if_neg w, if_pos (Or.inr w)]
      obtain ⟨S2, M2, x, x1, x2, x3, x4⟩ := ih (v + 1) n1 n2 (nI v) (offv L A (nI v) a T) S1 M1 (by omega) (by omega) (by omega) (by omega) (nI_pos (by omega)) (by rw [a2 5 (by omega), a2 32 (by omega)]; exact s1) (by rw [a2 32 (by omega)]; exact s3) c3 (by rw [c2.1 6 (by omega)]; exact m3) c4 c5
      exact ⟨S2, M2, x, x1, x2, fun k hk => (x3 k hk).trans (a2 k hk), c2.tr x4⟩
theorem film_ok {h : Nat} {S M : ST} (hQ : QR h S M) (a1 a2 : Int32) : Ans S M (f_X9_film a1 a2 S) (f_X10_film a1 a2 M) := by
  have hPC := hQ.2.2.2.2.2.2
  unfold f_X9_film f_X10_film
  rw [isTimeC, isTimeM, bn1_some, bn1_some]
  by_cases p : 1 ≤ a1.toInt ∧ a1.toInt ≤ 200
  · rw [if_pos p, if_neg w10, if_neg w10, wiC a2 (p := -180) (q := 180) rfl rfl, wiM a2 (p := -180) (q := 180) rfl rfl, bn1_some, bn1_some]
    by_cases p3 : -180 ≤ a2.toInt ∧ a2.toInt ≤ 180
    · rw [if_pos p3, if_neg w10, if_neg w10]
      obtain ⟨T, t1, t2, rfl⟩ := n_in (a := 1) (b := 200) p.1 p.2
      have hR0 := hQ.rg
      have hR : ∀ v, v ≤ 600 → Rg (M.1 1 1 - M.1 6 1) (M.1 6 3) (nI v) := fun v hv => ⟨hR0.1, hR0.2.1, hR0.2.2.1, hR0.2.2.2.1, by rw [nI_i (by omega)]; omega, by rw [nI_i (by omega)]; omega⟩
      have hH := hQ.2.1
      have p0 := hQ.1.1
      obtain ⟨y, hy, ey⟩ := In.n (b := 40) hH.2.2.2.2.1
      obtain ⟨M1, d1, d2, d3, d4, d5⟩ := useHandM (y := y) M (by omega) ey
      obtain ⟨U, hU⟩ : ∃ T : ST, T = su (su M1 0 24 10) 0 26 300 := ⟨_, rfl⟩
      have OU : Off 0 [21, 22, 23, 24, 26] M U := by rw [hU]; exact ((d2.wd (by intro j hj; simp at hj ⊢; omega)).su 24 _ (by simp)).su 26 _ (by simp)
      have u21 : U.1 0 21 = M.1 1 1 - M.1 6 1 := by rw [hU]; simp [su_1, d3]
      have u24 : U.1 0 24 = 10 := by rw [hU]; simp [su_1]
      have u26 : U.1 0 26 = 300 := by rw [hU]; simp [su_1]
      have s1 : S.1 5 1 - S.1 32 1 = M.1 1 1 - M.1 6 1 := by rw [p0.1 1 (by omega), hH.1 1 (by omega)]
      have s3 : S.1 32 3 = M.1 6 3 := hH.1 3 (by omega)
      have e999 : (1000 : Nat) = 999 + 1 := rfl
      obtain ⟨S1, f1, f2⟩ := filmC (a := a2) (hR 0 (by omega)).ne t2 (v := 0) (by omega) (lp (fun _ _ _ _ _ _ => none) b_X9_film_37 999) (0 : Int32) (2147483647 : Int32) s1 s3
      obtain ⟨M2, c1, c2, c3, c4, c5⟩ := filmM (a := a2) t2 (v := 0) (by omega) (hR 0 (by omega)) (lp (fun _ _ _ _ _ _ => none) b_X10_film_49 999) (-1 : Int32) (0 : Int32) u21 (by rw [OU.row (k := 6) (by omega)]) u24 u26
      rw [if_neg (offv_b _ _ _ p3.1 p3.2 T)] at f1
      rw [if_pos (Or.inl (show (-1 : Int32) < 0 by decide))] at c1
      obtain ⟨S2, M3, x, x1, x2, x3, x4⟩ := film_loop (a := a2) t2 hR 600 1 999 999 (nI 0) (offv (M.1 1 1 - M.1 6 1) (M.1 6 3) (nI 0) a2 T) S1 M2 (by omega) (by omega) (by omega) (by omega) (by decide) (by rw [f2 5 (by omega), f2 32 (by omega)]; exact s1) (by rw [f2 32 (by omega)]; exact s3) c3 (by rw [c2.1 6 (by omega), OU.row (k := 6) (by omega)]) c4 c5
      have g1 : lp (fun _ _ _ _ _ _ => none) b_X9_film_37 1000 (nI T) a2 (0 : Int32) (2147483647 : Int32) (0 : Int32) S = some (x, S2) := by
        rw [e999, lp_s]; exact f1.trans x1
      have g2 : lp (fun _ _ _ _ _ _ => none) b_X10_film_49 1000 (nI T) a2 (-1 : Int32) (0 : Int32) (0 : Int32) U = some (x, M3) := by
        rw [e999, lp_s]; exact c1.trans x2
      rw [d1, bn1_some, nm_x, nm_x, ← hU, g1, g2]
      exact Ans.of _ (fun k hk => (x3 k (by omega)).trans (f2 k (by omega))) ((MF.off (by intro j hj; simp at hj; omega) OU).tr (c2.tr x4)) (hPC.fr (fun k k1 k2 => (x3 k (by omega)).trans (f2 k (by omega))))
    · rw [if_neg p3, if_pos rfl, if_pos rfl]; exact Ans.same hPC _
  · rw [if_neg p, if_pos rfl, if_pos rfl]; exact Ans.same hPC _
