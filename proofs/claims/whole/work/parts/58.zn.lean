/-- a rope's worth: the same number wherever it is asked -/
theorem rope_val {B L A V W G R lo : Int32} {mo q : Nat} {S1 M1 : ST} (h : RB B A V W G R lo mo q S1 M1) (hPC : PC S1) (hR : Rg L A V) : ∃ g : Int32, 0 ≤ g ∧ (∀ S, SK S1 S → ∃ S', chC B L A V S = some S' ∧ S'.1 52 2 = g ∧ SK S1 S') ∧ ∀ M, MK M1 M → ∃ M', chM L M = some (g, M') ∧ MK M1 M' := by
  obtain ⟨S2, M2, g, a1, a2, a3, a4, a5, a6⟩ := rope_pair h hPC hR
  refine ⟨g, a3, fun S hS => ?_, fun M hM => ?_⟩
  · obtain ⟨S3, M3, g2, b1, b2, b3, b4, b5, b6⟩ := rope_pair (h.fr hS MK.rf) hS.2.2 hR
    rw [a5] at b5
    have e : g = g2 := congrArg Prod.fst (Option.some.inj b5)
    exact ⟨S3, b1, by rw [e]; exact b2, hS.tr b4⟩
  · obtain ⟨S3, M3, g2, b1, b2, b3, b4, b5, b6⟩ := rope_pair (h.fr ⟨fun _ _ => rfl, fun _ _ => rfl, hPC⟩ hM) hPC hR
    rw [a1] at b1
    have e : S2 = S3 := Option.some.inj b1
    have e2 : g = g2 := by rw [← a2, ← b2, e]
    exact ⟨M3, by rw [e2]; exact b5, hM.tr b6⟩
/-- the worth of every rope, one function -/
def RV (B A V : Int32) (F : Nat → Int32) (S1 M1 : ST) : Prop := ∀ j, j < 18 → 0 ≤ F j ∧ (∀ S, SK S1 S → ∃ S', chC B (nI (50 * (j + 1))) A V S = some S' ∧ S'.1 52 2 = F j ∧ SK S1 S') ∧ ∀ M, MK M1 M → ∃ M', chM (nI (50 * (j + 1))) M = some (F j, M') ∧ MK M1 M'
theorem rope_vals {B A V W G R lo : Int32} {mo q : Nat} {S1 M1 : ST} (h : RB B A V W G R lo mo q S1 M1) (hPC : PC S1) (hA : 0 ≤ A.toInt ∧ A.toInt ≤ 80) (hV : 0 ≤ V.toInt ∧ V.toInt ≤ 600) : ∃ F, RV B A V F S1 M1 := by
  have hv : ∀ j, j < 18 → ∃ g : Int32, 0 ≤ g ∧ (∀ S, SK S1 S → ∃ S', chC B (nI (50 * (j + 1))) A V S = some S' ∧ S'.1 52 2 = g ∧ SK S1 S') ∧ ∀ M, MK M1 M → ∃ M', chM (nI (50 * (j + 1))) M = some (g, M') ∧ MK M1 M' := fun j hj => rope_val h hPC ⟨by rw [nI_i (by omega)]; omega, by rw [nI_i (by omega)]; omega, hA.1, hA.2, hV.1, hV.2⟩
  refine ⟨fun j => if h : j < 18 then Classical.choose (hv j h) else 0, fun j hj => ?_⟩
  simp only [dif_pos hj]
  exact Classical.choose_spec (hv j hj)
/-- the class: one rope and knot tried -/
theorem ropeC1 {B A V : Int32} {F : Nat → Int32} {S1 M1 : ST} (hF : RV B A V F S1 M1) (b0 : S1.1 5 0 = B) (b3 : S1.1 32 3 = A) (b4 : S1.1 32 4 = V) (K43 : Int32 → Int32 → Int32 → Int32 → Int32 → ST → Option (Int32 × ST)) (K54 : Int32 → Int32 → Int32 → Int32 → Int32 → Int32 → ST → Option (Int32 × ST)) (v2 v3 v4 v5 v8 : Int32) {l kn j : Nat} (hj : j < 18) (hl : l < 1000) (e : l = kn + 50 * (j + 1)) (h8 : ¬ v8 < nI kn) {S : ST} (hS : SK S1 S) : ∃ S', (b_X9_rope_69 K43 K54 v2 v3 v4 v5 (nI l) (nI kn) v8 (nI kn) S = if F j ≤ v5 then K54 v2 v3 v4 v5 (nI l) (nI (kn + 50)) S' else K54 v2 (nI l) (nI kn) (F j) (nI l) (nI (kn + 50)) S') ∧ SK S1 S' := by
  obtain ⟨S2, a1, a2, a3⟩ := (hF j hj).2.1 S hS
  unfold chC at a1
  obtain ⟨S3, c1, a1⟩ := bn1_s a1
  obtain ⟨S4, c2, a1⟩ := bn1_s a1
  have eL : nI l - nI kn = nI (50 * (j + 1)) := by
    refine i_ext ?_
    rw [ti_sub (by rw [nI_i (by omega), nI_i (by omega)]; omega) (by rw [nI_i (by omega), nI_i (by omega)]; omega), nI_i (by omega), nI_i (by omega), nI_i (by omega)]
    omega
  have k0 : f_X3_number (0 : Int32) S = some B := (numC (i := 0) S (by omega)).trans (congrArg some (by rw [hS.1 5 (by omega)]; exact b0))
  have k3 : f_X5_inHand (3 : Int32) S = some A := (handC (i := 3) S (by omega)).trans (congrArg some (by rw [hS.1 32 (by omega)]; exact b3))
  have k4 : f_X5_inHand (4 : Int32) S = some V := (handC (i := 4) S (by omega)).trans (congrArg some (by rw [hS.1 32 (by omega)]; exact b4))
  have e50 : nI kn + 50 = nI (kn + 50) := nI_add kn 50
  refine ⟨S2, ?_, a3⟩
  rw [b_X9_rope_69]; rw [if_neg h8, k0, bn1_some, k3, bn1_some, k4, bn1_some, eL, c1, bn1_some, c2, bn1_some, a1, bn1_some, a2, nm_x, nm_x, nm_x, e50]
/-- the reference: one rope and knot tried -/
theorem ropeM1 {B A V : Int32} {F : Nat → Int32} {S1 M1 : ST} (hF : RV B A V F S1 M1) (K44 : Int32 → Int32 → Int32 → Int32 → ST → Option (Int32 × ST)) (K55 : Int32 → Int32 → Int32 → Int32 → Int32 → ST → Option (Int32 × ST)) (v2 v3 v4 : Int32) {l kn j : Nat} (hj : j < 18) (hl : l < 1000) (e : l = kn + 50 * (j + 1)) (h3 : kn ≤ 300) {M : ST} (hM : MK M1 M) : ∃ M', (b_X10_rope_55 K44 K55 v2 v3 v4 (nI l) (nI kn) M = if F j ≤ v3 then K55 v2 v3 v4 (nI l) (nI (kn + 50)) M' else K55 v2 (F j) (1000 * nI l + nI kn) (nI l) (nI (kn + 50)) M') ∧ MK M1 M' := by
  obtain ⟨M2, a1, a3⟩ := (hF j hj).2.2 M hM
  unfold chM at a1
  obtain ⟨M3, c1, a1⟩ := bn1_s a1
  have eL : nI l - nI kn = nI (50 * (j + 1)) := by
    refine i_ext ?_
    rw [ti_sub (by rw [nI_i (by omega), nI_i (by omega)]; omega) (by rw [nI_i (by omega), nI_i (by omega)]; omega), nI_i (by omega), nI_i (by omega), nI_i (by omega)]
    omega
  have e50 : nI kn + 50 = nI (kn + 50) := nI_add kn 50
  refine ⟨M2, ?_, a3⟩
  rw [b_X10_rope_55]; rw [if_neg (show ¬ (300 : Int32) < nI kn from nI_nlt (a := 300) (by omega) (by omega)), eL, if_neg (show ¬ nI (50 * (j + 1)) < (50 : Int32) from nI_nlt (b := 50) (by omega) (by omega)), nm_x, c1, bn1_some, a1, bnd_some]
  by_cases q : F j ≤ v3
  · rw [if_pos q, if_pos q]
    unfold b_X10_rope_112
    rw [if_pos q, nm_x, e50]
  · rw [if_neg q, if_neg q]
    unfold b_X10_rope_112
    rw [if_neg q, nm_x, e50]
/-- the reference: the knots that tell a shorter rope again -/
theorem ropeM2 {B A V : Int32} {F : Nat → Int32} {S1 M1 : ST} (hF : RV B A V F S1 M1) (K44 : Int32 → Int32 → Int32 → Int32 → ST → Option (Int32 × ST)) (v2 v3 v4 : Int32) {k : Nat} (hk : k ≤ 16) (hb : ∀ j, j ≤ k → F j ≤ v3) : ∀ (r c n : Nat) (M : ST), 1 ≤ c → (c + r = 7 ∨ c + r = k + 2) → c + r ≤ 7 → c + r ≤ k + 2 → r < n → MK M1 M → ∃ M', lp (fun _ _ _ _ _ _ => none) (b_X10_rope_55 K44) n v2 v3 v4 (nI (50 * (k + 2))) (nI (50 * c)) M = K44 v2 v3 v4 (nI (50 * (k + 2) + 50)) M' ∧ MK M1 M' := by
  intro r
  induction r with
  | zero =>
    intro c n M h1 hc h7 h2 hn hM
    obtain ⟨n, rfl⟩ : ∃ k, n = k + 1 := ⟨n - 1, by omega⟩
    refine ⟨M, ?_, hM⟩
    have e50 : nI (50 * (k + 2)) + 50 = nI (50 * (k + 2) + 50) := nI_add _ 50
    rw [lp_s]; rw [b_X10_rope_55]
    by_cases z : (300 : Int32) < nI (50 * c)
    · rw [if_pos z, nm_x, e50]
    · have z2 : c = k + 2 := by
        rcases hc with hc | hc
        · exact absurd (nI_lt (a := 300) (b := 50 * c) (by omega) (by omega)) z
        · omega
      subst z2
      have e0 : nI (50 * (k + 2)) - nI (50 * (k + 2)) = 0 := Int32.sub_self _
      rw [if_neg z, e0, if_pos (show (0 : Int32) < 50 by decide), nm_x, e50]
  | succ r ih =>
    intro c n M h1 hc h7 h2 hn hM
    obtain ⟨n, rfl⟩ : ∃ k, n = k + 1 := ⟨n - 1, by omega⟩
    obtain ⟨M2, a1, a2⟩ := ropeM1 hF K44 (lp (fun _ _ _ _ _ _ => none) (b_X10_rope_55 K44) n) v2 v3 v4 (l := 50 * (k + 2)) (kn := 50 * c) (j := k + 1 - c) (by omega) (by omega) (by omega) (by omega) hM
    rw [if_pos (hb _ (by omega)), show 50 * c + 50 = 50 * (c + 1) by omega] at a1
    obtain ⟨M3, b1, b2⟩ := ih (c + 1) n M2 (by omega) (by omega) (by omega) (by omega) (by omega) a2
    exact ⟨M3, by rw [lp_s, a1]; exact b1, b2⟩
theorem rope_fin : ∀ p, p < 17 → ∀ c, c < 2 → ((1000 : Int32) * nI (50 * (p + 2)) + nI (50 * c)) / 1000 = nI (50 * (p + 2)) ∧ ((1000 : Int32) * nI (50 * (p + 2)) + nI (50 * c)) - ((1000 : Int32) * nI (50 * (p + 2)) + nI (50 * c)) / 1000 * 1000 = nI (50 * c) := by decide +kernel
/-- both searches, from the second rope on -/
theorem rope_loop {B A V : Int32} {F : Nat → Int32} {S1 M1 : ST} (hF : RV B A V F S1 M1) (b0 : S1.1 5 0 = B) (b3 : S1.1 32 3 = A) (b4 : S1.1 32 4 = V) (v2 : Int32) : ∀ (r k n1 n2 p c : Nat) (mx : Int32) (S M : ST), 1 ≤ k → k + r = 17 → r < n1 → r < n2 → p < 17 → c < 2 → (∀ j, j ≤ k → F j ≤ mx) → SK S1 S → MK M1 M →
    ∃ x S' M', lp (fun _ _ _ _ _ _ => none) b_X9_rope_43 n1 v2 (nI (50 * (p + 2))) (nI (50 * c)) mx (nI (50 * (k + 2))) S = some (x, S') ∧ lp (fun _ _ _ _ _ => none) b_X10_rope_44 n2 v2 mx (1000 * nI (50 * (p + 2)) + nI (50 * c)) (nI (50 * (k + 2))) M = some (x, M') ∧ SK S1 S' ∧ MK M1 M' := by
  intro r
  induction r with
  | zero =>
    intro k n1 n2 p c mx S M h1 hk hn1 hn2 hp hc hb hS hM
    obtain ⟨n1, rfl⟩ : ∃ k, n1 = k + 1 := ⟨n1 - 1, by omega⟩
    obtain ⟨n2, rfl⟩ : ∃ k, n2 = k + 1 := ⟨n2 - 1, by omega⟩
    have z : (900 : Int32) < nI (50 * (k + 2)) := nI_lt (a := 900) (by omega) (by omega)
    obtain ⟨f1, f2⟩ := rope_fin p hp c hc
    rw [lp_s, lp_s]; rw [b_X9_rope_43, b_X10_rope_44]; rw [if_pos z, if_pos z, f2, f1]
    by_cases w : v2 = 0
    · rw [if_pos w, if_pos w]; exact ⟨_, _, _, rfl, rfl, hS, hM⟩
    · rw [if_neg w, if_neg w]
      by_cases w1 : v2 = 1
      · rw [if_pos w1, if_pos w1]; exact ⟨_, _, _, rfl, rfl, hS, hM⟩
      · rw [if_neg w1, if_neg w1]; exact ⟨_, _, _, rfl, rfl, hS, hM⟩
  | succ r ih =>
    intro k n1 n2 p c mx S M h1 hk hn1 hn2 hp hc hb hS hM
    obtain ⟨n1, rfl⟩ : ∃ k, n1 = k + 1 := ⟨n1 - 1, by omega⟩
    obtain ⟨n2, rfl⟩ : ∃ k, n2 = k + 1 := ⟨n2 - 1, by omega⟩
    have z : ¬ (900 : Int32) < nI (50 * (k + 2)) := nI_nlt (a := 900) (by omega) (by omega)
    have zh : ¬ nI (50 * (k + 2)) = (100 : Int32) := fun e => by
      have e2 := congrArg Int32.toInt e
      rw [nI_i (by omega), show (100 : Int32).toInt = 100 from rfl] at e2
      omega
    have e999 : (1000 : Nat) = 998 + 1 + 1 := rfl
    have e50 : nI (50 * (k + 2)) + 50 = nI (50 * (k + 1 + 2)) := (nI_add _ 50).trans (congrArg nI (by omega))
    -- the class: one knot alone
    obtain ⟨S2, a1, a2⟩ := ropeC1 hF b0 b3 b4 (lp (fun _ _ _ _ _ _ => none) b_X9_rope_43 n1) (lp (fun _ _ _ _ _ _ _ => none) (b_X9_rope_54 (lp (fun _ _ _ _ _ _ => none) b_X9_rope_43 n1)) (998 + 1)) v2 (nI (50 * (p + 2))) (nI (50 * c)) mx 0 (l := 50 * (k + 2)) (kn := 0) (j := k + 1) (by omega) (by omega) (by omega) (by decide) hS
    have stop : ∀ x y w : Int32, lp (fun _ _ _ _ _ _ _ => none) (b_X9_rope_54 (lp (fun _ _ _ _ _ _ => none) b_X9_rope_43 n1)) (998 + 1) v2 x y w (nI (50 * (k + 2))) (nI (0 + 50)) S2 = lp (fun _ _ _ _ _ _ => none) b_X9_rope_43 n1 v2 x y w (nI (50 * (k + 1 + 2))) S2 := by
      intro x y w
      rw [lp_s]; rw [b_X9_rope_54]; rw [if_neg zh, b_X9_rope_69, if_pos (show (0 : Int32) < nI (0 + 50) by decide), nm_x, e50]
    rw [stop, stop] at a1
    have hC : lp (fun _ _ _ _ _ _ => none) b_X9_rope_43 (n1 + 1) v2 (nI (50 * (p + 2))) (nI (50 * c)) mx (nI (50 * (k + 2))) S = if F (k + 1) ≤ mx then lp (fun _ _ _ _ _ _ => none) b_X9_rope_43 n1 v2 (nI (50 * (p + 2))) (nI (50 * c)) mx (nI (50 * (k + 1 + 2))) S2 else lp (fun _ _ _ _ _ _ => none) b_X9_rope_43 n1 v2 (nI (50 * (k + 2))) (nI 0) (F (k + 1)) (nI (50 * (k + 1 + 2))) S2 := by
      rw [lp_s]; rw [b_X9_rope_43]; rw [if_neg z, e999, lp_s]; rw [b_X9_rope_54]; rw [if_neg zh]; exact a1
    -- the reference
    obtain ⟨M2, c1, c2⟩ := ropeM1 hF (lp (fun _ _ _ _ _ => none) b_X10_rope_44 n2) (lp (fun _ _ _ _ _ _ => none) (b_X10_rope_55 (lp (fun _ _ _ _ _ => none) b_X10_rope_44 n2)) (998 + 1)) v2 mx (1000 * nI (50 * (p + 2)) + nI (50 * c)) (l := 50 * (k + 2)) (kn := 0) (j := k + 1) (by omega) (by omega) (by omega) (by omega) hM
    have hM1 : lp (fun _ _ _ _ _ => none) b_X10_rope_44 (n2 + 1) v2 mx (1000 * nI (50 * (p + 2)) + nI (50 * c)) (nI (50 * (k + 2))) M = b_X10_rope_55 (lp (fun _ _ _ _ _ => none) b_X10_rope_44 n2) (lp (fun _ _ _ _ _ _ => none) (b_X10_rope_55 (lp (fun _ _ _ _ _ => none) b_X10_rope_44 n2)) (998 + 1)) v2 mx (1000 * nI (50 * (p + 2)) + nI (50 * c)) (nI (50 * (k + 2))) (nI 0) M := by
      rw [lp_s]; rw [b_X10_rope_44]; rw [if_neg z, e999, lp_s]; rfl
    rw [hC, hM1, c1]
    have en : 50 * (k + 2) + 50 = 50 * (k + 1 + 2) := by omega
    by_cases w : F (k + 1) ≤ mx
    · rw [if_pos w, if_pos w]
      have hb' : ∀ j, j ≤ k + 1 → F j ≤ mx := fun j hj => by
        by_cases e : j = k + 1
        · rw [e]; exact w
        · exact hb j (by omega)
      obtain ⟨M3, d1, d2⟩ := ropeM2 hF (lp (fun _ _ _ _ _ => none) b_X10_rope_44 n2) v2 mx (1000 * nI (50 * (p + 2)) + nI (50 * c)) (k := k) (by omega) (fun j hj => hb j hj) (min 7 (k + 2) - 1) 1 (998 + 1) M2 (by omega) (by omega) (by omega) (by omega) (by omega) c2
      rw [en] at d1
      obtain ⟨x, S4, M4, x1, x2, x3, x4⟩ := ih (k + 1) n1 n2 p c mx S2 M3 (by omega) (by omega) (by omega) (by omega) hp hc hb' a2 d2
      exact ⟨x, S4, M4, x1, d1.trans x2, x3, x4⟩
    · rw [if_neg w, if_neg w]
      have w2 : mx.toInt ≤ (F (k + 1)).toInt := by
        have : ¬ (F (k + 1)).toInt ≤ mx.toInt := fun h => w (i_le.mpr h)
        omega
      have hb' : ∀ j, j ≤ k + 1 → F j ≤ F (k + 1) := fun j hj => by
        by_cases e : j = k + 1
        · rw [e, i_le]; exact Int.le_refl _
        · have := i_le.mp (hb j (by omega))
          rw [i_le]; omega
      obtain ⟨M3, d1, d2⟩ := ropeM2 hF (lp (fun _ _ _ _ _ => none) b_X10_rope_44 n2) v2 (F (k + 1)) (1000 * nI (50 * (k + 2)) + nI 0) (k := k) (by omega) (fun j hj => hb' j (by omega)) (min 7 (k + 2) - 1) 1 (998 + 1) M2 (by omega) (by omega) (by omega) (by omega) (by omega) c2
      rw [en] at d1
      obtain ⟨x, S4, M4, x1, x2, x3, x4⟩ := ih (k + 1) n1 n2 k 0 (F (k + 1)) S2 M3 (by omega) (by omega) (by omega) (by omega) (by omega) (by omega) hb' a2 d2
      exact ⟨x, S4, M4, x1, d1.trans x2, x3, x4⟩
