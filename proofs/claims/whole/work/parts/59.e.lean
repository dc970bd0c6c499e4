theorem E_feed {S M : ST} (hR : Rel S M) (a1 : Int32) (a2 : Int64) : ∃ r : Int32, ∃ S' : ST, ∃ M' : ST, f_X9_feed a1 a2 S = some (r, S') ∧ f_X10_feed a1 a2 M = some (r, M') ∧ Rel S' M' := by
  sorry
theorem E_place {S M : ST} (hR : Rel S M)  : ∃ r : Int32, ∃ S' : ST, ∃ M' : ST, f_X9_place S = some (r, S') ∧ f_X10_place M = some (r, M') ∧ Rel S' M' := by
  sorry
theorem E_swinger {S M : ST} (hR : Rel S M)  : ∃ r : Int32, ∃ S' : ST, ∃ M' : ST, f_X9_swinger S = some (r, S') ∧ f_X10_swinger M = some (r, M') ∧ Rel S' M' := by
  sorry
theorem E_fault {S M : ST} (hR : Rel S M)  : ∃ r : Int32, f_X9_fault S = some r ∧ f_X10_fault M = some r ∧ Rel S M := by
  sorry
theorem E_told {S M : ST} (hR : Rel S M) (a1 : Int32) : ∃ r : Int32, f_X9_told a1 S = some r ∧ f_X10_told a1 M = some r ∧ Rel S M := by
  sorry
theorem E_cell {S M : ST} (hR : Rel S M) (a1 : Int32) (a2 : Int32) : ∃ r : Int32, f_X9_cell a1 a2 S = some r ∧ f_X10_cell a1 a2 M = some r ∧ Rel S M := by
  sorry
theorem E_who {S M : ST} (hR : Rel S M) (a1 : Int32) (a2 : Int32) : ∃ r : Int32, f_X9_who a1 a2 S = some r ∧ f_X10_who a1 a2 M = some r ∧ Rel S M := by
  sorry
theorem E_set {S M : ST} (hR : Rel S M) (a1 : Int32) (a2 : Int32) : ∃ r : Int32, ∃ S' : ST, ∃ M' : ST, f_X9_set a1 a2 S = some (r, S') ∧ f_X10_set a1 a2 M = some (r, M') ∧ Rel S' M' := by
  sorry
theorem E_now {S M : ST} (hR : Rel S M) (a1 : Int32) : ∃ r : Int32, f_X9_now a1 S = some r ∧ f_X10_now a1 M = some r ∧ Rel S M := by
  sorry
theorem E_sine {S M : ST} (hR : Rel S M) (a1 : Int32) : ∃ r : Int32, f_X9_sine a1 = some r ∧ f_X10_sine a1 = some r ∧ Rel S M := by
  sorry
theorem E_holds {S M : ST} (hR : Rel S M) (a1 : Int32) (a2 : Int32) (a3 : Int32) : ∃ r : Int32, ∃ S' : ST, ∃ M' : ST, f_X9_holds a1 a2 a3 S = some (r, S') ∧ f_X10_holds a1 a2 a3 M = some (r, M') ∧ Rel S' M' := by
  sorry
theorem E_lands {S M : ST} (hR : Rel S M) (a1 : Int32) (a2 : Int32) (a3 : Int32) : ∃ r : Int32, ∃ S' : ST, ∃ M' : ST, f_X9_lands a1 a2 a3 S = some (r, S') ∧ f_X10_lands a1 a2 a3 M = some (r, M') ∧ Rel S' M' := by
  sorry
theorem E_best {S M : ST} (hR : Rel S M) (a1 : Int32) (a2 : Int32) : ∃ r : Int32, ∃ S' : ST, ∃ M' : ST, f_X9_best a1 a2 S = some (r, S') ∧ f_X10_best a1 a2 M = some (r, M') ∧ Rel S' M' := by
  sorry
theorem E_wide {S M : ST} (hR : Rel S M) (a1 : Int32) (a2 : Int32) : ∃ r : Int32, ∃ S' : ST, ∃ M' : ST, f_X9_wide a1 a2 S = some (r, S') ∧ f_X10_wide a1 a2 M = some (r, M') ∧ Rel S' M' := by
  sorry
theorem E_odds {S M : ST} (hR : Rel S M) (a1 : Int32) (a2 : Int32) (a3 : Int32) : ∃ r : Int32, ∃ S' : ST, ∃ M' : ST, f_X9_odds a1 a2 a3 S = some (r, S') ∧ f_X10_odds a1 a2 a3 M = some (r, M') ∧ Rel S' M' := by
  sorry
theorem E_strong {S M : ST} (hR : Rel S M) (a1 : Int32) (a2 : Int32) : ∃ r : Int32, ∃ S' : ST, ∃ M' : ST, f_X9_strong a1 a2 S = some (r, S') ∧ f_X10_strong a1 a2 M = some (r, M') ∧ Rel S' M' := by
  sorry
theorem E_heavy {S M : ST} (hR : Rel S M)  : ∃ r : Int32, ∃ S' : ST, ∃ M' : ST, f_X9_heavy S = some (r, S') ∧ f_X10_heavy M = some (r, M') ∧ Rel S' M' := by
  sorry
theorem E_may {S M : ST} (hR : Rel S M)  : ∃ r : Int32, ∃ S' : ST, ∃ M' : ST, f_X9_may S = some (r, S') ∧ f_X10_may M = some (r, M') ∧ Rel S' M' := by
  sorry
theorem E_months {S M : ST} (hR : Rel S M) (a1 : Int32) : ∃ r : Int32, ∃ S' : ST, ∃ M' : ST, f_X9_months a1 S = some (r, S') ∧ f_X10_months a1 M = some (r, M') ∧ Rel S' M' := by
  sorry
theorem E_rope {S M : ST} (hR : Rel S M) (a1 : Int32) (a2 : Int32) : ∃ r : Int32, ∃ S' : ST, ∃ M' : ST, f_X9_rope a1 a2 S = some (r, S') ∧ f_X10_rope a1 a2 M = some (r, M') ∧ Rel S' M' := by
  sorry
theorem E_turn {S M : ST} (hR : Rel S M) (a1 : Int32) (a2 : Int32) : ∃ r : Int32, ∃ S' : ST, ∃ M' : ST, f_X9_turn a1 a2 S = some (r, S') ∧ f_X10_turn a1 a2 M = some (r, M') ∧ Rel S' M' := by
  sorry
theorem E_film {S M : ST} (hR : Rel S M) (a1 : Int32) (a2 : Int32) : ∃ r : Int32, ∃ S' : ST, ∃ M' : ST, f_X9_film a1 a2 S = some (r, S') ∧ f_X10_film a1 a2 M = some (r, M') ∧ Rel S' M' := by
  sorry
theorem E_age {S M : ST} (hR : Rel S M) (a1 : Int32) : ∃ r : Int32, ∃ S' : ST, ∃ M' : ST, f_X9_age a1 S = some (r, S') ∧ f_X10_age a1 M = some (r, M') ∧ Rel S' M' := by
  sorry
theorem E_harmed {S M : ST} (hR : Rel S M) (a1 : Int32) : ∃ r : Int32, ∃ S' : ST, ∃ M' : ST, f_X9_harmed a1 S = some (r, S') ∧ f_X10_harmed a1 M = some (r, M') ∧ Rel S' M' := by
  sorry
theorem E_enough {S M : ST} (hR : Rel S M)  : ∃ r : Int32, ∃ S' : ST, ∃ M' : ST, f_X9_enough S = some (r, S') ∧ f_X10_enough M = some (r, M') ∧ Rel S' M' := by
  sorry
theorem E_seed {S M : ST} (hR : Rel S M) (a1 : Int32) : ∃ r : Int32, ∃ S' : ST, ∃ M' : ST, f_X9_seed a1 S = some (r, S') ∧ f_X10_seed a1 M = some (r, M') ∧ Rel S' M' := by
  sorry
theorem E_afternoon {S M : ST} (hR : Rel S M) (a1 : Int32) : ∃ r : Int32, ∃ S' : ST, ∃ M' : ST, f_X9_afternoon a1 S = some (r, S') ∧ f_X10_afternoon a1 M = some (r, M') ∧ Rel S' M' := by
  sorry
theorem E_ends {S M : ST} (hR : Rel S M) (a1 : Int32) : ∃ r : Int32, f_X9_ends a1 S = some r ∧ f_X10_ends a1 M = some r ∧ Rel S M := by
  sorry
theorem E_keep {S M : ST} (hR : Rel S M) (a1 : Int32) : ∃ r : Int32, ∃ S' : ST, ∃ M' : ST, f_X9_keep a1 S = some (r, S') ∧ f_X10_keep a1 M = some (r, M') ∧ Rel S' M' := by
  sorry
theorem E_goBack {S M : ST} (hR : Rel S M) (a1 : Int32) : ∃ r : Int32, ∃ S' : ST, ∃ M' : ST, f_X9_goBack a1 S = some (r, S') ∧ f_X10_goBack a1 M = some (r, M') ∧ Rel S' M' := by
  sorry
theorem E_init : Rel SC0 SM0 := by
  sorry
