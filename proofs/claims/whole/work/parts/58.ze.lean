/-- the class: the swing of what is in hand is traced -/
theorem traceNow_ok {h : Nat} {S M : ST} (hQ : QR h S M) : ∃ S', f_X9_traceNow S = some S' ∧ PathOK (M.1 1 0) (M.1 1 1 - M.1 6 1) (M.1 6 3) (M.1 6 4) S' ∧ Fr 42 50 S S' ∧ Rg (M.1 1 1 - M.1 6 1) (M.1 6 3) (M.1 6 4) := by
  obtain ⟨hP, hH, h8, hn1, hn2, hSw, hPC⟩ := hQ
  obtain ⟨p0, ⟨pB1, pB2⟩, ⟨pL1, pL2⟩, -⟩ := hP
  obtain ⟨q0, qm, ⟨qk1, qk2⟩, qk, qy, ⟨qA1, qA2⟩, ⟨qV1, qV2⟩⟩ := hH
  obtain ⟨pr1, pr2, pr3, pr4⟩ := id p0
  have eL : (M.1 1 1 - M.1 6 1).toInt = (M.1 1 1).toInt - (M.1 6 1).toInt := ti_sub (by omega) (by omega)
  have hR : Rg (M.1 1 1 - M.1 6 1) (M.1 6 3) (M.1 6 4) := ⟨by omega, by omega, qA1, qA2, qV1, qV2⟩
  obtain ⟨S1, a1, a2, a3⟩ := trace_ok (B := M.1 1 0) (A := M.1 6 3) (V := M.1 6 4) hR.ne hPC
  refine ⟨S1, ?_, a2, a3, hR⟩
  have k0 : f_X3_number (0 : Int32) S = some (M.1 1 0) := (numC (i := 0) S (by omega)).trans (congrArg some (pr1 0 (by omega)))
  have k1 : f_X9_lengthNow S = some (M.1 1 1 - M.1 6 1) := by rw [lenC, pr1 1 (by omega), q0 1 (by omega)]
  have k3 : f_X5_inHand (3 : Int32) S = some (M.1 6 3) := (handC (i := 3) S (by omega)).trans (congrArg some (q0 3 (by omega)))
  have k4 : f_X5_inHand (4 : Int32) S = some (M.1 6 4) := (handC (i := 4) S (by omega)).trans (congrArg some (q0 4 (by omega)))
  unfold f_X9_traceNow
  rw [k0, bn1_some, k1, bn1_some, k3, bn1_some, k4, bn1_some, a1, bn1_some]
