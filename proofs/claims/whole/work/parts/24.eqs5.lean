/-! the methods' equations, printed by wip/gen/eqs.py -/
/-- 231 BlackSunModel.solves()Z -/
noncomputable def M_solves (v0 : Nat) (h : ax_H) : Option (Int32 × ax_H) := (ax_EE 231).2.1 [.ref v0] h
noncomputable def M_solves_2  (v0 : Nat) (v1 : Int32) (h : ax_H) : Option (Int32 × ax_H) := ax_S ax_ρI (ax_env ax_EE 231) ax_nn r_231 r_231_2 [(0, .ref v0), (1, .int v1)] [] h
noncomputable def M_solves_63  (v0 : Nat) (v1 : Int64) (v3 : Int32) (h : ax_H) : Option (Int32 × ax_H) := ax_S ax_ρI (ax_env ax_EE 231) ax_nn r_231 r_231_63 [(0, .ref v0), (1, .long v1), (3, .int v3)] [] h
noncomputable def M_solves_106  (v0 : Nat) (v1 : Int64) (v3 : Int32) (v4 : Int32) (h : ax_H) : Option (Int32 × ax_H) := ax_S ax_ρI (ax_env ax_EE 231) ax_nn r_231 r_231_106 [(0, .ref v0), (1, .long v1), (3, .int v3), (4, .int v4)] [] h
noncomputable def M_solves_128  (v0 : Nat) (v1 : Int64) (v3 : Int32) (v4 : Int32) (v5 : Int32) (h : ax_H) : Option (Int32 × ax_H) := ax_S ax_ρI (ax_env ax_EE 231) ax_nn r_231 r_231_128 [(0, .ref v0), (1, .long v1), (3, .int v3), (4, .int v4), (5, .int v5)] [] h
noncomputable def M_solves_234 (k0 : Int64) (v0 : Nat) (v1 : Int64) (v3 : Int32) (v4 : Int32) (v9 : Int32) (h : ax_H) : Option (Int32 × ax_H) := ax_S ax_ρI (ax_env ax_EE 231) ax_nn r_231 r_231_234 [(0, .ref v0), (1, .long v1), (3, .int v3), (4, .int v4), (9, .int v9)] [.long k0] h
set_option maxRecDepth 100000 in
set_option maxHeartbeats 4000000 in
theorem M_solves_eq (v0 : Nat) (h : ax_H) : M_solves v0 h =
  (M_solves_2 v0 0 h ) :=
  (ax_entI (N := 231) (C := r_231) (by decide) rfl (Nat.le_of_ble_eq_true rfl)).trans rfl
set_option maxRecDepth 100000 in
set_option maxHeartbeats 4000000 in
theorem M_solves_2_eq  (v0 : Nat) (v1 : Int32) (h : ax_H) : M_solves_2  v0 v1 h =
  (if decide ((6 : Int32) ≤ v1) then
    (if (gS h v0).1 = 11 then if decide (¬ (gI h v0 49) = 0) then
      (M_solves_63 v0 0 0 h )
    else
      (if (gS h v0).1 = 11 then if decide ((gI h v0 50) ≤ 0) then
        (some (0, h) )
      else
        (some (1, h) ) else none) else none)
  else
    (if (gS h v0).1 = 11 then if (gS h v0).1 = 11 then if ax_in h (gR h v0 45) 19 v1 then if decide ((gI h (gR h v0 45) (Int32.toNatClampNeg v1)) = 0) then
      (if ax_in h (gR h v0 44) 17 v1 then let h1 := pL h (gR h v0 44) (Int32.toNatClampNeg v1) 0; M_solves_2 v0 (v1 + 1) h1 else none)
    else
      (if (gS h v0).1 = 11 then if ax_in h (gR h v0 40) 17 v1 then if ax_in h (gR h v0 44) 17 v1 then let h2 := pL h (gR h v0 44) (Int32.toNatClampNeg v1) (gL h (gR h v0 40) (Int32.toNatClampNeg v1)); M_solves_2 v0 (v1 + 1) h2 else none else none else none) else none else none else none) ) :=
  (ax_S_eq _ _ _ _).trans rfl
set_option maxRecDepth 100000 in
set_option maxHeartbeats 4000000 in
theorem M_solves_63_eq  (v0 : Nat) (v1 : Int64) (v3 : Int32) (h : ax_H) : M_solves_63  v0 v1 v3 h =
  (if (gS h v0).1 = 11 then if decide ((gI h v0 49) ≤ v3) then
    (if decide (¬ (lg_cmp v1 0) = 0) then
      (M_solves_106 v0 v1 1 0 h )
    else
      (some (0, h) ) )
  else
    (if (gS h v0).1 = 11 then if ax_in h (gR h v0 41) 17 v3 then if (gS h v0).1 = 11 then (M_factor v0 0 v3 h).bind (fun r1 => let x2 := (v1 + ((gL h (gR h v0 41) (Int32.toNatClampNeg v3)) * r1.1)); M_solves_63 v0 x2 (v3 + 1) r1.2 ) else none else none else none) else none) :=
  (ax_S_eq _ _ _ _).trans rfl
set_option maxRecDepth 100000 in
set_option maxHeartbeats 4000000 in
theorem M_solves_106_eq  (v0 : Nat) (v1 : Int64) (v3 : Int32) (v4 : Int32) (h : ax_H) : M_solves_106  v0 v1 v3 v4 h =
  (if (gS h v0).1 = 11 then if decide ((gI h v0 49) ≤ v4) then
    (if v3 = 0 ∨ v3 = 1 then some (v3, h) else none)
  else
    (if (gS h v0).1 = 11 then let h1 := pL h v0 51 0; if (gS h1 v0).1 = 11 then let h2 := pL h1 v0 52 0; M_solves_128 v0 v1 v3 v4 0 h2 else none else none) else none) :=
  (ax_S_eq _ _ _ _).trans rfl
set_option maxRecDepth 100000 in
set_option maxHeartbeats 4000000 in
theorem M_solves_128_eq  (v0 : Nat) (v1 : Int64) (v3 : Int32) (v4 : Int32) (v5 : Int32) (h : ax_H) : M_solves_128  v0 v1 v3 v4 v5 h =
  (if (gS h v0).1 = 11 then if decide ((gI h v0 49) ≤ v5) then
    (if (gS h v0).1 = 11 then if (gS h v0).1 = 11 then (M_floorOf (gL h v0 52) v1 h).bind (fun r1 => if (gS r1.2 v0).1 = 11 then if (gS r1.2 v0).1 = 11 then (M_floorOf (gL r1.2 v0 52) v1 r1.2).bind (fun r2 => let x3 := ((gL r1.2 v0 52) - (r2.1 * v1)); (M_in ((gL h v0 51) + r1.1) (-1000000) 1000000 r2.2).bind (fun r4 => if decide (r4.1 = 0) then
      (M_solves_234 0 v0 v1 v3 v4 r4.1 r4.2 )
    else
      ((M_floorOf ((1000 : Int64) * x3) v1 r4.2).bind (fun r5 => M_solves_234 ((((gL h v0 51) + r1.1) * 1000) + r5.1) v0 v1 v3 v4 r4.1 r5.2 )) ) ) else none else none ) else none else none)
  else
    (if (gS h v0).1 = 11 then (M_factor v0 v4 v5 h).bind (fun r6 => if (gS r6.2 v0).1 = 11 then if ax_in r6.2 (gR r6.2 v0 42) 17 v5 then if (gS r6.2 v0).1 = 11 then (M_adds v0 r6.1 (gL r6.2 (gR r6.2 v0 42) (Int32.toNatClampNeg v5)) v1 r6.2).bind (fun h7 => M_solves_128 v0 v1 v3 v4 (v5 + 1) h7 ) else none else none else none ) else none) else none) :=
  (ax_S_eq _ _ _ _).trans rfl
set_option maxRecDepth 100000 in
set_option maxHeartbeats 4000000 in
theorem M_solves_234_eq (k0 : Int64) (v0 : Nat) (v1 : Int64) (v3 : Int32) (v4 : Int32) (v9 : Int32) (h : ax_H) : M_solves_234 k0 v0 v1 v3 v4 v9 h =
  (if decide (v3 = 0) then
    (if (gS h v0).1 = 11 then if (gS h v0).1 = 11 then if ax_in h (gR h v0 39) 16 v4 then if ax_in h (gR h v0 44) 17 (gI h (gR h v0 39) (Int32.toNatClampNeg v4)) then let h1 := pL h (gR h v0 44) (Int32.toNatClampNeg (gI h (gR h v0 39) (Int32.toNatClampNeg v4))) k0; M_solves_106 v0 v1 0 (v4 + 1) h1 else none else none else none else none)
  else
    (if decide (v9 = 0) then
      (if (gS h v0).1 = 11 then if (gS h v0).1 = 11 then if ax_in h (gR h v0 39) 16 v4 then if ax_in h (gR h v0 44) 17 (gI h (gR h v0 39) (Int32.toNatClampNeg v4)) then let h2 := pL h (gR h v0 44) (Int32.toNatClampNeg (gI h (gR h v0 39) (Int32.toNatClampNeg v4))) k0; M_solves_106 v0 v1 0 (v4 + 1) h2 else none else none else none else none)
    else
      ((M_in k0 (-99999999) 99999999 h).bind (fun r3 => if decide (r3.1 = 0) then
        (if (gS r3.2 v0).1 = 11 then if (gS r3.2 v0).1 = 11 then if ax_in r3.2 (gR r3.2 v0 39) 16 v4 then if ax_in r3.2 (gR r3.2 v0 44) 17 (gI r3.2 (gR r3.2 v0 39) (Int32.toNatClampNeg v4)) then let h4 := pL r3.2 (gR r3.2 v0 44) (Int32.toNatClampNeg (gI r3.2 (gR r3.2 v0 39) (Int32.toNatClampNeg v4))) k0; M_solves_106 v0 v1 0 (v4 + 1) h4 else none else none else none else none)
      else
        (if (gS r3.2 v0).1 = 11 then if (gS r3.2 v0).1 = 11 then if ax_in r3.2 (gR r3.2 v0 39) 16 v4 then if ax_in r3.2 (gR r3.2 v0 44) 17 (gI r3.2 (gR r3.2 v0 39) (Int32.toNatClampNeg v4)) then let h5 := pL r3.2 (gR r3.2 v0 44) (Int32.toNatClampNeg (gI r3.2 (gR r3.2 v0 39) (Int32.toNatClampNeg v4))) k0; M_solves_106 v0 v1 1 (v4 + 1) h5 else none else none else none else none) )) ) ) :=
  (ax_S_eq _ _ _ _).trans rfl
/-- 232 BlackSunModel.empties()V -/
noncomputable def M_empties (v0 : Nat) (h : ax_H) : Option (ax_H) := (ax_EE 232).1 [.ref v0] h
noncomputable def M_empties_7  (v0 : Nat) (v1 : Int32) (h : ax_H) : Option (ax_H) := ax_S ax_ρV (ax_env ax_EE 232) ax_nn r_232 r_232_7 [(0, .ref v0), (1, .int v1)] [] h
noncomputable def M_empties_21  (v0 : Nat) (v1 : Int32) (v2 : Int32) (h : ax_H) : Option (ax_H) := ax_S ax_ρV (ax_env ax_EE 232) ax_nn r_232 r_232_21 [(0, .ref v0), (1, .int v1), (2, .int v2)] [] h
set_option maxRecDepth 100000 in
set_option maxHeartbeats 4000000 in
theorem M_empties_eq (v0 : Nat) (h : ax_H) : M_empties v0 h =
  (if (gS h v0).1 = 11 then let h1 := pI h v0 50 0; M_empties_7 v0 0 h1 else none) :=
  (ax_entV (N := 232) (C := r_232) (by decide) rfl (Nat.le_of_ble_eq_true rfl)).trans rfl
set_option maxRecDepth 100000 in
set_option maxHeartbeats 4000000 in
theorem M_empties_7_eq  (v0 : Nat) (v1 : Int32) (h : ax_H) : M_empties_7  v0 v1 h =
  (if decide ((3 : Int32) ≤ v1) then
    (some h )
  else
    (if (gS h v0).1 = 11 then if ax_in h (gR h v0 42) 17 v1 then let h1 := pL h (gR h v0 42) (Int32.toNatClampNeg v1) 0; M_empties_21 v0 v1 0 h1 else none else none) ) :=
  (ax_S_eq _ _ _ _).trans rfl
set_option maxRecDepth 100000 in
set_option maxHeartbeats 4000000 in
theorem M_empties_21_eq  (v0 : Nat) (v1 : Int32) (v2 : Int32) (h : ax_H) : M_empties_21  v0 v1 v2 h =
  (if decide ((3 : Int32) ≤ v2) then
    (M_empties_7 v0 (v1 + 1) h )
  else
    (if (gS h v0).1 = 11 then if ax_in h (gR h v0 41) 17 (((3 : Int32) * v1) + v2) then let h1 := pL h (gR h v0 41) (Int32.toNatClampNeg (((3 : Int32) * v1) + v2)) 0; M_empties_21 v0 v1 (v2 + 1) h1 else none else none) ) :=
  (ax_S_eq _ _ _ _).trans rfl
/-- 233 BlackSunModel.fit()Z -/
noncomputable def M_fit (v0 : Nat) (h : ax_H) : Option (Int32 × ax_H) := (ax_EE 233).2.1 [.ref v0] h
noncomputable def M_fit_6  (v0 : Nat) (v1 : Int32) (h : ax_H) : Option (Int32 × ax_H) := ax_S ax_ρI (ax_env ax_EE 233) ax_nn r_233 r_233_6 [(0, .ref v0), (1, .int v1)] [] h
set_option maxRecDepth 100000 in
set_option maxHeartbeats 4000000 in
theorem M_fit_eq (v0 : Nat) (h : ax_H) : M_fit v0 h =
  (if (gS h v0).1 = 11 then (M_empties v0 h).bind (fun h1 => M_fit_6 v0 0 h1 ) else none) :=
  (ax_entI (N := 233) (C := r_233) (by decide) rfl (Nat.le_of_ble_eq_true rfl)).trans rfl
set_option maxRecDepth 100000 in
set_option maxHeartbeats 4000000 in
theorem M_fit_6_eq  (v0 : Nat) (v1 : Int32) (h : ax_H) : M_fit_6  v0 v1 h =
  (if (gS h v0).1 = 11 then if decide ((gI h v0 4) ≤ v1) then
    (if (gS h v0).1 = 11 then (M_solves v0 h).bind (fun r1 => if r1.1 = 0 ∨ r1.1 = 1 then some (r1.1, r1.2) else none ) else none)
  else
    (if (gS h v0).1 = 11 then if ax_in h (gR h v0 48) 19 v1 then if decide (¬ (gI h (gR h v0 48) (Int32.toNatClampNeg v1)) = 0) then
      (M_fit_6 v0 (v1 + 1) h )
    else
      (if (gS h v0).1 = 11 then (M_rows v0 v1 1 h).bind (fun h2 => M_fit_6 v0 (v1 + 1) h2 ) else none) else none else none) else none) :=
  (ax_S_eq _ _ _ _).trans rfl
/-- 234 BlackSunModel.missed()J -/
noncomputable def M_missed (v0 : Nat) (h : ax_H) : Option (Int64 × ax_H) := (ax_EE 234).2.2.1 [.ref v0] h
noncomputable def M_missed_4  (v0 : Nat) (v1 : Int64) (v3 : Int32) (h : ax_H) : Option (Int64 × ax_H) := ax_S ax_ρL (ax_env ax_EE 234) ax_nn r_234 r_234_4 [(0, .ref v0), (1, .long v1), (3, .int v3)] [] h
noncomputable def M_missed_15  (v0 : Nat) (v1 : Int64) (v3 : Int32) (v4 : Int32) (h : ax_H) : Option (Int64 × ax_H) := ax_S ax_ρL (ax_env ax_EE 234) ax_nn r_234 r_234_15 [(0, .ref v0), (1, .long v1), (3, .int v3), (4, .int v4)] [] h
noncomputable def M_missed_36  (v0 : Nat) (v1 : Int64) (v3 : Int32) (v4 : Int32) (v5 : Int64) (v7 : Int32) (h : ax_H) : Option (Int64 × ax_H) := ax_S ax_ρL (ax_env ax_EE 234) ax_nn r_234 r_234_36 [(0, .ref v0), (1, .long v1), (3, .int v3), (4, .int v4), (5, .long v5), (7, .int v7)] [] h
set_option maxRecDepth 100000 in
set_option maxHeartbeats 4000000 in
theorem M_missed_eq (v0 : Nat) (h : ax_H) : M_missed v0 h =
  (M_missed_4 v0 0 0 h ) :=
  (ax_entL (N := 234) (C := r_234) (by decide) rfl (Nat.le_of_ble_eq_true rfl)).trans rfl
set_option maxRecDepth 100000 in
set_option maxHeartbeats 4000000 in
theorem M_missed_4_eq  (v0 : Nat) (v1 : Int64) (v3 : Int32) (h : ax_H) : M_missed_4  v0 v1 v3 h =
  (if (gS h v0).1 = 11 then if decide ((gI h v0 4) ≤ v3) then
    (some (v1, h) )
  else
    (M_missed_15 v0 v1 v3 0 h ) else none) :=
  (ax_S_eq _ _ _ _).trans rfl
set_option maxRecDepth 100000 in
set_option maxHeartbeats 4000000 in
theorem M_missed_15_eq  (v0 : Nat) (v1 : Int64) (v3 : Int32) (v4 : Int32) (h : ax_H) : M_missed_15  v0 v1 v3 v4 h =
  (if decide ((2 : Int32) ≤ v4) then
    (M_missed_4 v0 v1 (v3 + 1) h )
  else
    (if (gS h v0).1 = 11 then if ax_in h (gR h v0 48) 19 v3 then if decide (¬ (gI h (gR h v0 48) (Int32.toNatClampNeg v3)) = 0) then
      (M_missed_4 v0 v1 (v3 + 1) h )
    else
      (M_missed_36 v0 v1 v3 v4 0 0 h ) else none else none) ) :=
  (ax_S_eq _ _ _ _).trans rfl
set_option maxRecDepth 100000 in
set_option maxHeartbeats 4000000 in
theorem M_missed_36_eq  (v0 : Nat) (v1 : Int64) (v3 : Int32) (v4 : Int32) (v5 : Int64) (v7 : Int32) (h : ax_H) : M_missed_36  v0 v1 v3 v4 v5 v7 h =
  (if (gS h v0).1 = 11 then if decide ((gI h v0 49) ≤ v7) then
    (if (gS h v0).1 = 11 then (M_left v0 v3 v4 h).bind (fun r1 => let x2 := (v1 + ((r1.1 - (v5 / 1000)) * (r1.1 - (v5 / 1000)))); M_missed_15 v0 x2 v3 (v4 + 1) r1.2 ) else none)
  else
    (if (gS h v0).1 = 11 then if (gS h v0).1 = 11 then if ax_in h (gR h v0 39) 16 v7 then if ax_in h (gR h v0 44) 17 (gI h (gR h v0 39) (Int32.toNatClampNeg v7)) then if (gS h v0).1 = 11 then if ax_in h (gR h v0 39) 16 v7 then if (gS h v0).1 = 11 then (M_givenOn v0 (gI h (gR h v0 39) (Int32.toNatClampNeg v7)) v3 v4 h).bind (fun r3 => let x4 := (v5 + ((gL h (gR h v0 44) (Int32.toNatClampNeg (gI h (gR h v0 39) (Int32.toNatClampNeg v7)))) * r3.1)); M_missed_36 v0 v1 v3 v4 x4 (v7 + 1) r3.2 ) else none else none else none else none else none else none else none) else none) :=
  (ax_S_eq _ _ _ _).trans rfl
/-- 235 BlackSunModel.isAnswered(II)Z -/
noncomputable def M_isAnswered (v0 : Nat) (v1 : Int32) (v2 : Int32) (h : ax_H) : Option (Int32 × ax_H) := (ax_EE 235).2.1 [.ref v0, .int v1, .int v2] h
set_option maxRecDepth 100000 in
set_option maxHeartbeats 4000000 in
theorem M_isAnswered_eq (v0 : Nat) (v1 : Int32) (v2 : Int32) (h : ax_H) : M_isAnswered v0 v1 v2 h =
  (if (gS h v0).1 = 11 then (M_takesAll v0 v1 v2 h).bind (fun h1 => if (gS h1 v0).1 = 11 then (M_measures v0 h1).bind (fun h2 => if (gS h2 v0).1 = 11 then (M_begins v0 v1 v2 0 0 h2).bind (fun r3 => if decide (r3.1 = 0) then
    (some (0, r3.2) )
  else
    (if (gS r3.2 v0).1 = 11 then (M_fit v0 r3.2).bind (fun r4 => if decide (r4.1 = 0) then
      (some (0, r4.2) )
    else
      (some (1, r4.2) ) ) else none) ) else none ) else none ) else none) :=
  (ax_entI (N := 235) (C := r_235) (by decide) rfl (Nat.le_of_ble_eq_true rfl)).trans rfl
/-- 236 BlackSunModel.answerIn(III)I -/
noncomputable def M_answerIn (v0 : Nat) (v1 : Int32) (v2 : Int32) (v3 : Int32) (h : ax_H) : Option (Int32 × ax_H) := (ax_EE 236).2.1 [.ref v0, .int v1, .int v2, .int v3] h
set_option maxRecDepth 100000 in
set_option maxHeartbeats 4000000 in
theorem M_answerIn_eq (v0 : Nat) (v1 : Int32) (v2 : Int32) (v3 : Int32) (h : ax_H) : M_answerIn v0 v1 v2 v3 h =
  (if (gS h v0).1 = 11 then (M_isAnswered v0 v1 v3 h).bind (fun r1 => if decide (r1.1 = 0) then
    (some ((-1000000000), r1.2) )
  else
    (if (gS r1.2 v0).1 = 11 then if ax_in r1.2 (gR r1.2 v0 44) 17 v2 then some ((Int64.toInt32 (gL r1.2 (gR r1.2 v0 44) (Int32.toNatClampNeg v2))), r1.2) else none else none) ) else none) :=
  (ax_entI (N := 236) (C := r_236) (by decide) rfl (Nat.le_of_ble_eq_true rfl)).trans rfl
/-- 237 BlackSunModel.answer(III)I -/
noncomputable def M_answer (v0 : Nat) (v1 : Int32) (v2 : Int32) (v3 : Int32) (h : ax_H) : Option (Int32 × ax_H) := (ax_EE 237).2.1 [.ref v0, .int v1, .int v2, .int v3] h
set_option maxRecDepth 100000 in
set_option maxHeartbeats 4000000 in
theorem M_answer_eq (v0 : Nat) (v1 : Int32) (v2 : Int32) (v3 : Int32) (h : ax_H) : M_answer v0 v1 v2 v3 h =
  (if (gS h v0).1 = 11 then (M_isWay v0 v1 h).bind (fun r1 => if decide (r1.1 = 0) then
    (some ((-2000000000), r1.2) )
  else
    ((M_isTerm v2 r1.2).bind (fun r2 => if decide (r2.1 = 0) then
      (some ((-2000000000), r2.2) )
    else
      ((M_isWeek v3 r2.2).bind (fun r3 => if decide (r3.1 = 0) then
        (some ((-2000000000), r3.2) )
      else
        (if (gS r3.2 v0).1 = 11 then (M_answerIn v0 v1 v2 v3 r3.2).bind (fun r4 => some (r4.1, r4.2) ) else none) )) )) ) else none) :=
  (ax_entI (N := 237) (C := r_237) (by decide) rfl (Nat.le_of_ble_eq_true rfl)).trans rfl
/-- 238 BlackSunModel.miss(II)J -/
noncomputable def M_miss (v0 : Nat) (v1 : Int32) (v2 : Int32) (h : ax_H) : Option (Int64 × ax_H) := (ax_EE 238).2.2.1 [.ref v0, .int v1, .int v2] h
set_option maxRecDepth 100000 in
set_option maxHeartbeats 4000000 in
theorem M_miss_eq (v0 : Nat) (v1 : Int32) (v2 : Int32) (h : ax_H) : M_miss v0 v1 v2 h =
  (if (gS h v0).1 = 11 then (M_isWay v0 v1 h).bind (fun r1 => if decide (r1.1 = 0) then
    (some ((-1), r1.2) )
  else
    ((M_isWeek v2 r1.2).bind (fun r2 => if decide (r2.1 = 0) then
      (some ((-1), r2.2) )
    else
      (if (gS r2.2 v0).1 = 11 then (M_isAnswered v0 v1 v2 r2.2).bind (fun r3 => if decide (r3.1 = 0) then
        (some ((-1), r3.2) )
      else
        (if (gS r3.2 v0).1 = 11 then (M_missed v0 r3.2).bind (fun r4 => some (r4.1, r4.2) ) else none) ) else none) )) ) else none) :=
  (ax_entL (N := 238) (C := r_238) (by decide) rfl (Nat.le_of_ble_eq_true rfl)).trans rfl
/-- 239 BlackSunModel.each(IIII)I -/
noncomputable def M_each (v0 : Nat) (v1 : Int32) (v2 : Int32) (v3 : Int32) (v4 : Int32) (h : ax_H) : Option (Int32 × ax_H) := (ax_EE 239).2.1 [.ref v0, .int v1, .int v2, .int v3, .int v4] h
noncomputable def M_each_67  (v0 : Nat) (v1 : Int32) (v2 : Int32) (v3 : Int32) (v4 : Int32) (v5 : Int32) (h : ax_H) : Option (Int32 × ax_H) := ax_S ax_ρI (ax_env ax_EE 239) ax_nn r_239 r_239_67 [(0, .ref v0), (1, .int v1), (2, .int v2), (3, .int v3), (4, .int v4), (5, .int v5)] [] h
set_option maxRecDepth 100000 in
set_option maxHeartbeats 4000000 in
theorem M_each_eq (v0 : Nat) (v1 : Int32) (v2 : Int32) (v3 : Int32) (v4 : Int32) (h : ax_H) : M_each v0 v1 v2 v3 v4 h =
  (if (gS h v0).1 = 11 then (M_isWay v0 v1 h).bind (fun r1 => if decide (r1.1 = 0) then
    (some ((-2000000000), r1.2) )
  else
    ((M_isWeek v2 r1.2).bind (fun r2 => if decide (r2.1 = 0) then
      (some ((-2000000000), r2.2) )
    else
      ((M_in (Int32.toInt64 v3) 0 1 r2.2).bind (fun r3 => if decide (r3.1 = 0) then
        (some ((-2000000000), r3.2) )
      else
        (if decide (¬ v3 = 0) then
          (if (gS r3.2 v0).1 = 11 then (M_isStar v0 v4 r3.2).bind (fun r4 => if decide (¬ r4.1 = 0) then
            (if (gS r4.2 v0).1 = 11 then (M_takesAll v0 v1 v2 r4.2).bind (fun h5 => if (gS h5 v0).1 = 11 then (M_measures v0 h5).bind (fun h6 => M_each_67 v0 v1 v2 v3 v4 0 h6 ) else none ) else none)
          else
            (some ((-2000000000), r4.2) ) ) else none)
        else
          (if (gS r3.2 v0).1 = 11 then (M_isPlate v0 v4 r3.2).bind (fun r7 => if decide (r7.1 = 0) then
            (some ((-2000000000), r7.2) )
          else
            (if (gS r7.2 v0).1 = 11 then (M_takesAll v0 v1 v2 r7.2).bind (fun h8 => if (gS h8 v0).1 = 11 then (M_measures v0 h8).bind (fun h9 => M_each_67 v0 v1 v2 v3 v4 0 h9 ) else none ) else none) ) else none) ) )) )) ) else none) :=
  (ax_entI (N := 239) (C := r_239) (by decide) rfl (Nat.le_of_ble_eq_true rfl)).trans rfl
set_option maxRecDepth 100000 in
set_option maxHeartbeats 4000000 in
theorem M_each_67_eq  (v0 : Nat) (v1 : Int32) (v2 : Int32) (v3 : Int32) (v4 : Int32) (v5 : Int32) (h : ax_H) : M_each_67  v0 v1 v2 v3 v4 v5 h =
  (if (gS h v0).1 = 11 then if decide ((gI h v0 4) ≤ v5) then
    (if (gS h v0).1 = 11 then (M_begins v0 v1 v2 0 0 h).bind (fun r1 => if decide (r1.1 = 0) then
      (some ((-1000000000), r1.2) )
    else
      (if (gS r1.2 v0).1 = 11 then (M_fit v0 r1.2).bind (fun r2 => if decide (r2.1 = 0) then
        (some ((-1000000000), r2.2) )
      else
        (if (gS r2.2 v0).1 = 11 then if ax_in r2.2 (gR r2.2 v0 44) 17 4 then some ((Int64.toInt32 (gL r2.2 (gR r2.2 v0 44) (Int32.toNatClampNeg 4))), r2.2) else none else none) ) else none) ) else none)
  else
    (if (gS h v0).1 = 11 then if (gS h v0).1 = 11 then if ax_in h (gR h v0 48) 19 v5 then if decide (¬ (gI h (gR h v0 48) (Int32.toNatClampNeg v5)) = 0) then
      (if ax_in h (gR h v0 48) 19 v5 then let h3 := pI h (gR h v0 48) (Int32.toNatClampNeg v5) ((1 : Int32) &&& 1); M_each_67 v0 v1 v2 v3 v4 (v5 + 1) h3 else none)
    else
      (if decide (¬ v3 = 0) then
        (if (gS h v0).1 = 11 then if ax_in h (gR h v0 12) 16 v5 then if decide (¬ (gI h (gR h v0 12) (Int32.toNatClampNeg v5)) = v4) then
          (if ax_in h (gR h v0 48) 19 v5 then let h4 := pI h (gR h v0 48) (Int32.toNatClampNeg v5) ((0 : Int32) &&& 1); M_each_67 v0 v1 v2 v3 v4 (v5 + 1) h4 else none)
        else
          (if ax_in h (gR h v0 48) 19 v5 then let h5 := pI h (gR h v0 48) (Int32.toNatClampNeg v5) ((1 : Int32) &&& 1); M_each_67 v0 v1 v2 v3 v4 (v5 + 1) h5 else none) else none else none)
      else
        (if (gS h v0).1 = 11 then if ax_in h (gR h v0 11) 16 v5 then if decide (¬ (gI h (gR h v0 11) (Int32.toNatClampNeg v5)) = v4) then
          (if ax_in h (gR h v0 48) 19 v5 then let h6 := pI h (gR h v0 48) (Int32.toNatClampNeg v5) ((0 : Int32) &&& 1); M_each_67 v0 v1 v2 v3 v4 (v5 + 1) h6 else none)
        else
          (if ax_in h (gR h v0 48) 19 v5 then let h7 := pI h (gR h v0 48) (Int32.toNatClampNeg v5) ((1 : Int32) &&& 1); M_each_67 v0 v1 v2 v3 v4 (v5 + 1) h7 else none) else none else none) ) else none else none else none) else none) :=
  (ax_S_eq _ _ _ _).trans rfl
/-- 240 BlackSunModel.bits(I)I -/
noncomputable def M_bits (v0 : Int32) (h : ax_H) : Option (Int32 × ax_H) := (ax_EE 240).2.1 [.int v0] h
noncomputable def M_bits_4  (v1 : Int32) (v2 : Int32) (h : ax_H) : Option (Int32 × ax_H) := ax_S ax_ρI (ax_env ax_EE 240) ax_nn r_240 r_240_4 [(1, .int v1), (2, .int v2)] [] h
set_option maxRecDepth 100000 in
set_option maxHeartbeats 4000000 in
theorem M_bits_eq (v0 : Int32) (h : ax_H) : M_bits v0 h =
  (M_bits_4 0 v0 h ) :=
  (ax_entI (N := 240) (C := r_240) (by decide) rfl (Nat.le_of_ble_eq_true rfl)).trans rfl
set_option maxRecDepth 100000 in
set_option maxHeartbeats 4000000 in
theorem M_bits_4_eq  (v1 : Int32) (v2 : Int32) (h : ax_H) : M_bits_4  v1 v2 h =
  (if decide (v2 = 0) then
    (some (v1, h) )
  else
    (M_bits_4 (v1 + 1) (v2 &&& (v2 - 1)) h ) ) :=
  (ax_S_eq _ _ _ _).trans rfl
/-- 241 BlackSunModel.ruled(IIIII)I -/
noncomputable def M_ruled (v0 : Nat) (v1 : Int32) (v2 : Int32) (v3 : Int32) (v4 : Int32) (v5 : Int32) (h : ax_H) : Option (Int32 × ax_H) := (ax_EE 241).2.1 [.ref v0, .int v1, .int v2, .int v3, .int v4, .int v5] h
noncomputable def M_ruled_76  (v0 : Nat) (v1 : Int32) (v2 : Int32) (v3 : Int32) (v4 : Int32) (v5 : Int32) (v6 : Int32) (v7 : Int32) (v8 : Int32) (h : ax_H) : Option (Int32 × ax_H) := ax_S ax_ρI (ax_env ax_EE 241) ax_nn r_241 r_241_76 [(0, .ref v0), (1, .int v1), (2, .int v2), (3, .int v3), (4, .int v4), (5, .int v5), (6, .int v6), (7, .int v7), (8, .int v8)] [] h
noncomputable def M_ruled_161  (v0 : Nat) (v2 : Int32) (v4 : Int32) (v5 : Int32) (v6 : Int32) (v8 : Int32) (v9 : Int64) (v11 : Int64) (v13 : Int32) (v14 : Int32) (h : ax_H) : Option (Int32 × ax_H) := ax_S ax_ρI (ax_env ax_EE 241) ax_nn r_241 r_241_161 [(0, .ref v0), (2, .int v2), (4, .int v4), (5, .int v5), (6, .int v6), (8, .int v8), (9, .long v9), (11, .long v11), (13, .int v13), (14, .int v14)] [] h
noncomputable def M_ruled_169  (v0 : Nat) (v2 : Int32) (v4 : Int32) (v5 : Int32) (v6 : Int32) (v8 : Int32) (v9 : Int64) (v11 : Int64) (v13 : Int32) (v15 : Int32) (h : ax_H) : Option (Int32 × ax_H) := ax_S ax_ρI (ax_env ax_EE 241) ax_nn r_241 r_241_169 [(0, .ref v0), (2, .int v2), (4, .int v4), (5, .int v5), (6, .int v6), (8, .int v8), (9, .long v9), (11, .long v11), (13, .int v13), (15, .int v15)] [] h
noncomputable def M_ruled_265 (k0 : Int64) (v0 : Nat) (v2 : Int32) (v4 : Int32) (v5 : Int32) (v6 : Int32) (v8 : Int32) (v9 : Int64) (v11 : Int64) (v13 : Int32) (h : ax_H) : Option (Int32 × ax_H) := ax_S ax_ρI (ax_env ax_EE 241) ax_nn r_241 r_241_265 [(0, .ref v0), (2, .int v2), (4, .int v4), (5, .int v5), (6, .int v6), (8, .int v8), (9, .long v9), (11, .long v11), (13, .int v13)] [.long k0] h
noncomputable def M_ruled_321 (k0 : Int32) (v0 : Nat) (v2 : Int32) (v4 : Int32) (v5 : Int32) (v6 : Int32) (v9 : Int64) (v11 : Int64) (v13 : Int32) (v15 : Int64) (v17 : Int32) (h : ax_H) : Option (Int32 × ax_H) := ax_S ax_ρI (ax_env ax_EE 241) ax_nn r_241 r_241_321 [(0, .ref v0), (2, .int v2), (4, .int v4), (5, .int v5), (6, .int v6), (9, .long v9), (11, .long v11), (13, .int v13), (15, .long v15), (17, .int v17)] [.int k0] h
noncomputable def M_ruled_355  (v0 : Nat) (v2 : Int32) (v4 : Int32) (v5 : Int32) (v6 : Int32) (v8 : Int32) (v9 : Int64) (v11 : Int64) (v13 : Int32) (h : ax_H) : Option (Int32 × ax_H) := ax_S ax_ρI (ax_env ax_EE 241) ax_nn r_241 r_241_355 [(0, .ref v0), (2, .int v2), (4, .int v4), (5, .int v5), (6, .int v6), (8, .int v8), (9, .long v9), (11, .long v11), (13, .int v13)] [] h
set_option maxRecDepth 100000 in
set_option maxHeartbeats 4000000 in
theorem M_ruled_eq (v0 : Nat) (v1 : Int32) (v2 : Int32) (v3 : Int32) (v4 : Int32) (v5 : Int32) (h : ax_H) : M_ruled v0 v1 v2 v3 v4 v5 h =
  (if (gS h v0).1 = 11 then (M_isWay v0 v1 h).bind (fun r1 => if decide (r1.1 = 0) then
    (some ((-2000000000), r1.2) )
  else
    ((M_isTerm v2 r1.2).bind (fun r2 => if decide (r2.1 = 0) then
      (some ((-2000000000), r2.2) )
    else
      (if (gS r2.2 v0).1 = 11 then if ax_in r2.2 (gR r2.2 v0 33) 16 (((6 : Int32) * v1) + v2) then if decide (¬ (gI r2.2 (gR r2.2 v0 33) (Int32.toNatClampNeg (((6 : Int32) * v1) + v2))) = 1) then
        (some ((-2000000000), r2.2) )
      else
        ((M_isWeek v3 r2.2).bind (fun r3 => if decide (r3.1 = 0) then
          (some ((-2000000000), r3.2) )
        else
          ((M_in (Int32.toInt64 v4) (-99999) 99999 r3.2).bind (fun r4 => if decide (r4.1 = 0) then
            (some ((-2000000000), r4.2) )
          else
            ((M_in (Int32.toInt64 v5) 0 1 r4.2).bind (fun r5 => if decide (¬ r5.1 = 0) then
              (M_ruled_76 v0 v1 v2 v3 v4 v5 0 0 0 r5.2 )
            else
              (some ((-2000000000), r5.2) ) )) )) )) else none else none) )) ) else none) :=
  (ax_entI (N := 241) (C := r_241) (by decide) rfl (Nat.le_of_ble_eq_true rfl)).trans rfl
set_option maxRecDepth 100000 in
set_option maxHeartbeats 4000000 in
theorem M_ruled_76_eq  (v0 : Nat) (v1 : Int32) (v2 : Int32) (v3 : Int32) (v4 : Int32) (v5 : Int32) (v6 : Int32) (v7 : Int32) (v8 : Int32) (h : ax_H) : M_ruled_76  v0 v1 v2 v3 v4 v5 v6 v7 v8 h =
  (if (gS h v0).1 = 11 then if decide ((gI h v0 3) ≤ v8) then
    (if (gS h v0).1 = 11 then (M_takesAll v0 v1 v3 h).bind (fun h1 => if (gS h1 v0).1 = 11 then (M_measures v0 h1).bind (fun h2 => if (gS h2 v0).1 = 11 then (M_begins v0 v1 v3 0 0 h2).bind (fun r3 => if decide (¬ r3.1 = 0) then
      (M_ruled_161 v0 v2 v4 v5 v6 (-1) 0 0 0 1 r3.2 )
    else
      (some ((-1000000000), r3.2) ) ) else none ) else none ) else none)
  else
    (if (gS h v0).1 = 11 then if ax_in h (gR h v0 9) 16 v8 then if decide ((gI h (gR h v0 9) (Int32.toNatClampNeg v8)) = 2) then
      (M_ruled_76 v0 v1 v2 v3 v4 v5 v6 v7 (v8 + 1) h )
    else
      (if decide ((8 : Int32) ≤ v7) then
        (M_ruled_76 v0 v1 v2 v3 v4 v5 v6 v7 (v8 + 1) h )
      else
        (let x4 := (v6 ||| ((1 : Int32) <<< (v8 &&& 31))); M_ruled_76 v0 v1 v2 v3 v4 v5 x4 (v7 + 1) (v8 + 1) h ) ) else none else none) else none) :=
  (ax_S_eq _ _ _ _).trans rfl
set_option maxRecDepth 100000 in
set_option maxHeartbeats 4000000 in
theorem M_ruled_161_eq  (v0 : Nat) (v2 : Int32) (v4 : Int32) (v5 : Int32) (v6 : Int32) (v8 : Int32) (v9 : Int64) (v11 : Int64) (v13 : Int32) (v14 : Int32) (h : ax_H) : M_ruled_161  v0 v2 v4 v5 v6 v8 v9 v11 v13 v14 h =
  (if decide (v14 = 0) then
    (if decide (¬ v8 = (-1)) then
      (if decide (¬ v5 = 0) then
        (some ((Int64.toInt32 v11), h) )
      else
        (some (v8, h) ) )
    else
      (some ((-1000000000), h) ) )
  else
    (M_ruled_169 v0 v2 v4 v5 v6 v8 v9 v11 v13 0 h ) ) :=
  (ax_S_eq _ _ _ _).trans rfl
set_option maxRecDepth 100000 in
set_option maxHeartbeats 4000000 in
theorem M_ruled_169_eq  (v0 : Nat) (v2 : Int32) (v4 : Int32) (v5 : Int32) (v6 : Int32) (v8 : Int32) (v9 : Int64) (v11 : Int64) (v13 : Int32) (v15 : Int32) (h : ax_H) : M_ruled_169  v0 v2 v4 v5 v6 v8 v9 v11 v13 v15 h =
  (if (gS h v0).1 = 11 then if decide ((gI h v0 4) ≤ v15) then
    (if (gS h v0).1 = 11 then (M_fit v0 h).bind (fun r1 => if decide (r1.1 = 0) then
      (M_ruled_355 v0 v2 v4 v5 v6 v8 v9 v11 v13 r1.2 )
    else
      (if (gS r1.2 v0).1 = 11 then if ax_in r1.2 (gR r1.2 v0 44) 17 v2 then if decide ((lg_cmp (gL r1.2 (gR r1.2 v0 44) (Int32.toNatClampNeg v2)) (Int32.toInt64 v4)) ≤ 0) then
        (if (gS r1.2 v0).1 = 11 then if ax_in r1.2 (gR r1.2 v0 44) 17 v2 then M_ruled_265 ((Int32.toInt64 v4) - (gL r1.2 (gR r1.2 v0 44) (Int32.toNatClampNeg v2))) v0 v2 v4 v5 v6 v8 v9 v11 v13 r1.2 else none else none)
      else
        (if (gS r1.2 v0).1 = 11 then if ax_in r1.2 (gR r1.2 v0 44) 17 v2 then M_ruled_265 ((gL r1.2 (gR r1.2 v0 44) (Int32.toNatClampNeg v2)) - (Int32.toInt64 v4)) v0 v2 v4 v5 v6 v8 v9 v11 v13 r1.2 else none else none) else none else none) ) else none)
  else
    (if (gS h v0).1 = 11 then if (gS h v0).1 = 11 then if ax_in h (gR h v0 38) 19 v15 then if decide ((gI h (gR h v0 38) (Int32.toNatClampNeg v15)) = 0) then
      (if ax_in h (gR h v0 48) 19 v15 then let h2 := pI h (gR h v0 48) (Int32.toNatClampNeg v15) ((1 : Int32) &&& 1); M_ruled_169 v0 v2 v4 v5 v6 v8 v9 v11 v13 (v15 + 1) h2 else none)
    else
      (if (gS h v0).1 = 11 then if ax_in h (gR h v0 11) 16 v15 then if decide (¬ ((v13 >>> ((gI h (gR h v0 11) (Int32.toNatClampNeg v15)) &&& 31)) &&& 1) = 1) then
        (if ax_in h (gR h v0 48) 19 v15 then let h3 := pI h (gR h v0 48) (Int32.toNatClampNeg v15) ((0 : Int32) &&& 1); M_ruled_169 v0 v2 v4 v5 v6 v8 v9 v11 v13 (v15 + 1) h3 else none)
      else
        (if ax_in h (gR h v0 48) 19 v15 then let h4 := pI h (gR h v0 48) (Int32.toNatClampNeg v15) ((1 : Int32) &&& 1); M_ruled_169 v0 v2 v4 v5 v6 v8 v9 v11 v13 (v15 + 1) h4 else none) else none else none) else none else none else none) else none) :=
  (ax_S_eq _ _ _ _).trans rfl
set_option maxRecDepth 100000 in
set_option maxHeartbeats 4000000 in
theorem M_ruled_265_eq (k0 : Int64) (v0 : Nat) (v2 : Int32) (v4 : Int32) (v5 : Int32) (v6 : Int32) (v8 : Int32) (v9 : Int64) (v11 : Int64) (v13 : Int32) (h : ax_H) : M_ruled_265 k0 v0 v2 v4 v5 v6 v8 v9 v11 v13 h =
  (if decide (v8 = (-1)) then
    (M_ruled_321 v13 v0 v2 v4 v5 v6 v9 v11 v13 k0 1 h )
  else
    (if decide ((lg_cmp k0 v9) < 0) then
      (M_ruled_321 v13 v0 v2 v4 v5 v6 v9 v11 v13 k0 1 h )
    else
      (if decide (¬ (lg_cmp k0 v9) = 0) then
        (M_ruled_321 v8 v0 v2 v4 v5 v6 v9 v11 v13 k0 0 h )
      else
        ((M_bits v13 h).bind (fun r1 => (M_bits v8 r1.2).bind (fun r2 => if decide (r2.1 ≤ r1.1) then
          (M_ruled_321 v8 v0 v2 v4 v5 v6 v9 v11 v13 k0 0 r2.2 )
        else
          (M_ruled_321 v13 v0 v2 v4 v5 v6 v9 v11 v13 k0 1 r2.2 ) ) )) ) ) ) :=
  (ax_S_eq _ _ _ _).trans rfl
set_option maxRecDepth 100000 in
set_option maxHeartbeats 4000000 in
theorem M_ruled_321_eq (k0 : Int32) (v0 : Nat) (v2 : Int32) (v4 : Int32) (v5 : Int32) (v6 : Int32) (v9 : Int64) (v11 : Int64) (v13 : Int32) (v15 : Int64) (v17 : Int32) (h : ax_H) : M_ruled_321 k0 v0 v2 v4 v5 v6 v9 v11 v13 v15 v17 h =
  (if decide (v17 = 0) then
    (if decide (v17 = 0) then
      (M_ruled_355 v0 v2 v4 v5 v6 k0 v9 v11 v13 h )
    else
      (if (gS h v0).1 = 11 then if ax_in h (gR h v0 44) 17 v2 then let x1 := (gL h (gR h v0 44) (Int32.toNatClampNeg v2)); M_ruled_355 v0 v2 v4 v5 v6 k0 v9 x1 v13 h else none else none) )
  else
    (if decide (v17 = 0) then
      (M_ruled_355 v0 v2 v4 v5 v6 k0 v15 v11 v13 h )
    else
      (if (gS h v0).1 = 11 then if ax_in h (gR h v0 44) 17 v2 then let x2 := (gL h (gR h v0 44) (Int32.toNatClampNeg v2)); M_ruled_355 v0 v2 v4 v5 v6 k0 v15 x2 v13 h else none else none) ) ) :=
  (ax_S_eq _ _ _ _).trans rfl
set_option maxRecDepth 100000 in
set_option maxHeartbeats 4000000 in
theorem M_ruled_355_eq  (v0 : Nat) (v2 : Int32) (v4 : Int32) (v5 : Int32) (v6 : Int32) (v8 : Int32) (v9 : Int64) (v11 : Int64) (v13 : Int32) (h : ax_H) : M_ruled_355  v0 v2 v4 v5 v6 v8 v9 v11 v13 h =
  (if decide (((v13 - v6) &&& v6) = 0) then
    (M_ruled_161 v0 v2 v4 v5 v6 v8 v9 v11 ((v13 - v6) &&& v6) 0 h )
  else
    (M_ruled_161 v0 v2 v4 v5 v6 v8 v9 v11 ((v13 - v6) &&& v6) 1 h ) ) :=
  (ax_S_eq _ _ _ _).trans rfl
/-- 242 BlackSunModel.three(IIIII)I -/
noncomputable def M_three (v0 : Nat) (v1 : Int32) (v2 : Int32) (v3 : Int32) (v4 : Int32) (v5 : Int32) (h : ax_H) : Option (Int32 × ax_H) := (ax_EE 242).2.1 [.ref v0, .int v1, .int v2, .int v3, .int v4, .int v5] h
noncomputable def M_three_75  (v0 : Nat) (v1 : Int32) (v2 : Int32) (v3 : Int32) (v4 : Int32) (v5 : Int32) (v6 : Int32) (v7 : Int64) (v9 : Int32) (h : ax_H) : Option (Int32 × ax_H) := ax_S ax_ρI (ax_env ax_EE 242) ax_nn r_242 r_242_75 [(0, .ref v0), (1, .int v1), (2, .int v2), (3, .int v3), (4, .int v4), (5, .int v5), (6, .int v6), (7, .long v7), (9, .int v9)] [] h
noncomputable def M_three_107 (k0 : Int32) (k1 : Int32) (k2 : Int32) (k3 : Int32) (k4 : Nat) (v0 : Nat) (v1 : Int32) (v2 : Int32) (v3 : Int32) (v4 : Int32) (v5 : Int32) (v6 : Int32) (v7 : Int64) (v9 : Int32) (h : ax_H) : Option (Int32 × ax_H) := ax_S ax_ρI (ax_env ax_EE 242) ax_nn r_242 r_242_107 [(0, .ref v0), (1, .int v1), (2, .int v2), (3, .int v3), (4, .int v4), (5, .int v5), (6, .int v6), (7, .long v7), (9, .int v9)] [.int k0, .int k1, .int k2, .int k3, .ref k4] h
noncomputable def M_three_146 (k0 : Int32) (v0 : Nat) (v1 : Int32) (v2 : Int32) (v3 : Int32) (v4 : Int32) (v5 : Int32) (v6 : Int32) (v7 : Int64) (v9 : Int32) (v10 : Int64) (h : ax_H) : Option (Int32 × ax_H) := ax_S ax_ρI (ax_env ax_EE 242) ax_nn r_242 r_242_146 [(0, .ref v0), (1, .int v1), (2, .int v2), (3, .int v3), (4, .int v4), (5, .int v5), (6, .int v6), (7, .long v7), (9, .int v9), (10, .long v10)] [.int k0] h
set_option maxRecDepth 100000 in
set_option maxHeartbeats 4000000 in
theorem M_three_eq (v0 : Nat) (v1 : Int32) (v2 : Int32) (v3 : Int32) (v4 : Int32) (v5 : Int32) (h : ax_H) : M_three v0 v1 v2 v3 v4 v5 h =
  (if (gS h v0).1 = 11 then (M_isWay v0 v1 h).bind (fun r1 => if decide (r1.1 = 0) then
    (some ((-1), r1.2) )
  else
    ((M_isWeek v2 r1.2).bind (fun r2 => if decide (r2.1 = 0) then
      (some ((-1), r2.2) )
    else
      ((M_in (Int32.toInt64 v3) 0 99999 r2.2).bind (fun r3 => if decide (r3.1 = 0) then
        (some ((-1), r3.2) )
      else
        ((M_in (Int32.toInt64 v4) 0 99999 r3.2).bind (fun r4 => if decide (r4.1 = 0) then
          (some ((-1), r4.2) )
        else
          ((M_in (Int32.toInt64 v5) 0 99999 r4.2).bind (fun r5 => if decide (¬ r5.1 = 0) then
            (if (gS r5.2 v0).1 = 11 then (M_takesAll v0 v1 v2 r5.2).bind (fun h6 => if (gS h6 v0).1 = 11 then (M_measures v0 h6).bind (fun h7 => M_three_75 v0 v1 v2 v3 v4 v5 (-2) 0 0 h7 ) else none ) else none)
          else
            (some ((-1), r5.2) ) )) )) )) )) ) else none) :=
  (ax_entI (N := 242) (C := r_242) (by decide) rfl (Nat.le_of_ble_eq_true rfl)).trans rfl
set_option maxRecDepth 100000 in
set_option maxHeartbeats 4000000 in
theorem M_three_75_eq  (v0 : Nat) (v1 : Int32) (v2 : Int32) (v3 : Int32) (v4 : Int32) (v5 : Int32) (v6 : Int32) (v7 : Int64) (v9 : Int32) (h : ax_H) : M_three_75  v0 v1 v2 v3 v4 v5 v6 v7 v9 h =
  (if decide ((3 : Int32) ≤ v9) then
    (some (v6, h) )
  else
    (if decide (¬ v9 = 0) then
      (if decide (¬ v9 = 1) then
        (M_three_107 v5 1 v2 v1 v0 v0 v1 v2 v3 v4 v5 v6 v7 v9 h )
      else
        (M_three_107 v4 1 v2 v1 v0 v0 v1 v2 v3 v4 v5 v6 v7 v9 h ) )
    else
      (M_three_107 v3 1 v2 v1 v0 v0 v1 v2 v3 v4 v5 v6 v7 v9 h ) ) ) :=
  (ax_S_eq _ _ _ _).trans rfl
set_option maxRecDepth 100000 in
set_option maxHeartbeats 4000000 in
theorem M_three_107_eq (k0 : Int32) (k1 : Int32) (k2 : Int32) (k3 : Int32) (k4 : Nat) (v0 : Nat) (v1 : Int32) (v2 : Int32) (v3 : Int32) (v4 : Int32) (v5 : Int32) (v6 : Int32) (v7 : Int64) (v9 : Int32) (h : ax_H) : M_three_107 k0 k1 k2 k3 k4 v0 v1 v2 v3 v4 v5 v6 v7 v9 h =
  (if (gS h k4).1 = 11 then (M_begins k4 k3 k2 k1 k0 h).bind (fun r1 => if decide (r1.1 = 0) then
    (M_three_75 v0 v1 v2 v3 v4 v5 v6 v7 (v9 + 1) r1.2 )
  else
    (if (gS r1.2 v0).1 = 11 then (M_fit v0 r1.2).bind (fun r2 => if decide (r2.1 = 0) then
      (M_three_75 v0 v1 v2 v3 v4 v5 v6 v7 (v9 + 1) r2.2 )
    else
      (if (gS r2.2 v0).1 = 11 then (M_missed v0 r2.2).bind (fun r3 => if decide (v6 = (-2)) then
        (M_three_146 1 v0 v1 v2 v3 v4 v5 v6 v7 v9 r3.1 r3.2 )
      else
        (if decide ((0 : Int32) ≤ (lg_cmp r3.1 v7)) then
          (M_three_146 0 v0 v1 v2 v3 v4 v5 v6 v7 v9 r3.1 r3.2 )
        else
          (M_three_146 1 v0 v1 v2 v3 v4 v5 v6 v7 v9 r3.1 r3.2 ) ) ) else none) ) else none) ) else none) :=
  (ax_S_eq _ _ _ _).trans rfl
set_option maxRecDepth 100000 in
set_option maxHeartbeats 4000000 in
theorem M_three_146_eq (k0 : Int32) (v0 : Nat) (v1 : Int32) (v2 : Int32) (v3 : Int32) (v4 : Int32) (v5 : Int32) (v6 : Int32) (v7 : Int64) (v9 : Int32) (v10 : Int64) (h : ax_H) : M_three_146 k0 v0 v1 v2 v3 v4 v5 v6 v7 v9 v10 h =
  (if decide (k0 = 0) then
    (if decide (k0 = 0) then
      (M_three_75 v0 v1 v2 v3 v4 v5 v6 v7 (v9 + 1) h )
    else
      (M_three_75 v0 v1 v2 v3 v4 v5 v6 v10 (v9 + 1) h ) )
  else
    (if decide (k0 = 0) then
      (M_three_75 v0 v1 v2 v3 v4 v5 v9 v7 (v9 + 1) h )
    else
      (M_three_75 v0 v1 v2 v3 v4 v5 v9 v10 (v9 + 1) h ) ) ) :=
  (ax_S_eq _ _ _ _).trans rfl
/-- 243 BlackSunModel.divisor(JJ)J -/
noncomputable def M_divisor (v0 : Int64) (v2 : Int64) (h : ax_H) : Option (Int64 × ax_H) := (ax_EE 243).2.2.1 [.long v0, .long v2] h
noncomputable def M_divisor_28  (v4 : Int64) (v6 : Int64) (h : ax_H) : Option (Int64 × ax_H) := ax_S ax_ρL (ax_env ax_EE 243) ax_nn r_243 r_243_28 [(4, .long v4), (6, .long v6)] [] h
set_option maxRecDepth 100000 in
set_option maxHeartbeats 4000000 in
theorem M_divisor_eq (v0 : Int64) (v2 : Int64) (h : ax_H) : M_divisor v0 v2 h =
  (if decide ((0 : Int32) ≤ (lg_cmp v0 0)) then
    (if decide ((0 : Int32) ≤ (lg_cmp v2 0)) then
      (M_divisor_28 v0 v2 h )
    else
      (M_divisor_28 v0 (-v2) h ) )
  else
    (if decide ((0 : Int32) ≤ (lg_cmp v2 0)) then
      (M_divisor_28 (-v0) v2 h )
    else
      (M_divisor_28 (-v0) (-v2) h ) ) ) :=
  (ax_entL (N := 243) (C := r_243) (by decide) rfl (Nat.le_of_ble_eq_true rfl)).trans rfl
set_option maxRecDepth 100000 in
set_option maxHeartbeats 4000000 in
theorem M_divisor_28_eq  (v4 : Int64) (v6 : Int64) (h : ax_H) : M_divisor_28  v4 v6 h =
  (if decide ((lg_cmp v6 0) = 0) then
    (some (v4, h) )
  else
    (if v6 = 0 then none else M_divisor_28 v6 (v4 - v4 / v6 * v6) h ) ) :=
  (ax_S_eq _ _ _ _).trans rfl
/-- 244 BlackSunModel.known(II)V -/
noncomputable def M_known (v0 : Nat) (v1 : Int32) (v2 : Int32) (h : ax_H) : Option (ax_H) := (ax_EE 244).1 [.ref v0, .int v1, .int v2] h
noncomputable def M_known_2  (v0 : Nat) (v1 : Int32) (v2 : Int32) (v3 : Int32) (h : ax_H) : Option (ax_H) := ax_S ax_ρV (ax_env ax_EE 244) ax_nn r_244 r_244_2 [(0, .ref v0), (1, .int v1), (2, .int v2), (3, .int v3)] [] h
noncomputable def M_known_23  (v0 : Nat) (v1 : Int32) (v2 : Int32) (v3 : Int32) (h : ax_H) : Option (ax_H) := ax_S ax_ρV (ax_env ax_EE 244) ax_nn r_244 r_244_23 [(0, .ref v0), (1, .int v1), (2, .int v2), (3, .int v3)] [] h
set_option maxRecDepth 100000 in
set_option maxHeartbeats 4000000 in
theorem M_known_eq (v0 : Nat) (v1 : Int32) (v2 : Int32) (h : ax_H) : M_known v0 v1 v2 h =
  (M_known_2 v0 v1 v2 0 h ) :=
  (ax_entV (N := 244) (C := r_244) (by decide) rfl (Nat.le_of_ble_eq_true rfl)).trans rfl
set_option maxRecDepth 100000 in
set_option maxHeartbeats 4000000 in
theorem M_known_2_eq  (v0 : Nat) (v1 : Int32) (v2 : Int32) (v3 : Int32) (h : ax_H) : M_known_2  v0 v1 v2 v3 h =
  (if decide ((30 : Int32) ≤ v3) then
    (M_known_23 v0 v1 v2 0 h )
  else
    (if (gS h v0).1 = 11 then if ax_in h (gR h v0 53) 19 v3 then let h1 := pI h (gR h v0 53) (Int32.toNatClampNeg v3) ((0 : Int32) &&& 1); M_known_2 v0 v1 v2 (v3 + 1) h1 else none else none) ) :=
  (ax_S_eq _ _ _ _).trans rfl
set_option maxRecDepth 100000 in
set_option maxHeartbeats 4000000 in
theorem M_known_23_eq  (v0 : Nat) (v1 : Int32) (v2 : Int32) (v3 : Int32) (h : ax_H) : M_known_23  v0 v1 v2 v3 h =
  (if (gS h v0).1 = 11 then if decide ((gI h v0 4) ≤ v3) then
    (some h )
  else
    (if (gS h v0).1 = 11 then if ax_in h (gR h v0 11) 16 v3 then if decide (¬ (gI h (gR h v0 11) (Int32.toNatClampNeg v3)) = v1) then
      (M_known_23 v0 v1 v2 (v3 + 1) h )
    else
      (if (gS h v0).1 = 11 then if ax_in h (gR h v0 16) 16 v3 then if decide (v2 < (gI h (gR h v0 16) (Int32.toNatClampNeg v3))) then
        (M_known_23 v0 v1 v2 (v3 + 1) h )
      else
        (if (gS h v0).1 = 11 then if (gS h v0).1 = 11 then if ax_in h (gR h v0 12) 16 v3 then if ax_in h (gR h v0 53) 19 (gI h (gR h v0 12) (Int32.toNatClampNeg v3)) then let h1 := pI h (gR h v0 53) (Int32.toNatClampNeg (gI h (gR h v0 12) (Int32.toNatClampNeg v3))) ((1 : Int32) &&& 1); M_known_23 v0 v1 v2 (v3 + 1) h1 else none else none else none else none) else none else none) else none else none) else none) :=
  (ax_S_eq _ _ _ _).trans rfl
/-- 245 BlackSunModel.mixes()V -/
noncomputable def M_mixes (v0 : Nat) (h : ax_H) : Option (ax_H) := (ax_EE 245).1 [.ref v0] h
noncomputable def M_mixes_10  (v0 : Nat) (v1 : Int64) (v3 : Int64) (v5 : Int64) (v7 : Int32) (h : ax_H) : Option (ax_H) := ax_S ax_ρV (ax_env ax_EE 245) ax_nn r_245 r_245_10 [(0, .ref v0), (1, .long v1), (3, .long v3), (5, .long v5), (7, .int v7)] [] h
noncomputable def M_mixes_22  (v0 : Nat) (v1 : Int64) (v3 : Int64) (v5 : Int64) (v7 : Int32) (v8 : Int32) (h : ax_H) : Option (ax_H) := ax_S ax_ρV (ax_env ax_EE 245) ax_nn r_245 r_245_22 [(0, .ref v0), (1, .long v1), (3, .long v3), (5, .long v5), (7, .int v7), (8, .int v8)] [] h
noncomputable def M_mixes_143  (v0 : Nat) (h : ax_H) : Option (ax_H) := ax_S ax_ρV (ax_env ax_EE 245) ax_nn r_245 r_245_143 [(0, .ref v0)] [] h
set_option maxRecDepth 100000 in
set_option maxHeartbeats 4000000 in
theorem M_mixes_eq (v0 : Nat) (h : ax_H) : M_mixes v0 h =
  (M_mixes_10 v0 0 0 0 0 h ) :=
  (ax_entV (N := 245) (C := r_245) (by decide) rfl (Nat.le_of_ble_eq_true rfl)).trans rfl
set_option maxRecDepth 100000 in
set_option maxHeartbeats 4000000 in
theorem M_mixes_10_eq  (v0 : Nat) (v1 : Int64) (v3 : Int64) (v5 : Int64) (v7 : Int32) (h : ax_H) : M_mixes_10  v0 v1 v3 v5 v7 h =
  (if (gS h v0).1 = 11 then if decide ((gI h v0 2) ≤ v7) then
    (if (gS h v0).1 = 11 then let h1 := pL h v0 54 (v1 * v1); if (gS h1 v0).1 = 11 then let h2 := pL h1 v0 55 (v3 * v5); if (gS h2 v0).1 = 11 then if decide ((lg_cmp (gL h2 v0 54) 0) = 0) then
      (if (gS h2 v0).1 = 11 then let h3 := pL h2 v0 54 0; if (gS h3 v0).1 = 11 then let h4 := pL h3 v0 55 1; M_mixes_143 v0 h4 else none else none)
    else
      (if (gS h2 v0).1 = 11 then if decide (¬ (lg_cmp (gL h2 v0 55) 0) = 0) then
        (M_mixes_143 v0 h2 )
      else
        (if (gS h2 v0).1 = 11 then let h5 := pL h2 v0 54 0; if (gS h5 v0).1 = 11 then let h6 := pL h5 v0 55 1; M_mixes_143 v0 h6 else none else none) else none) else none else none else none)
  else
    (M_mixes_22 v0 v1 v3 v5 v7 0 h ) else none) :=
  (ax_S_eq _ _ _ _).trans rfl
set_option maxRecDepth 100000 in
set_option maxHeartbeats 4000000 in
theorem M_mixes_22_eq  (v0 : Nat) (v1 : Int64) (v3 : Int64) (v5 : Int64) (v7 : Int32) (v8 : Int32) (h : ax_H) : M_mixes_22  v0 v1 v3 v5 v7 v8 h =
  (if decide ((2 : Int32) ≤ v8) then
    (M_mixes_10 v0 v1 v3 v5 (v7 + 1) h )
  else
    (if (gS h v0).1 = 11 then if ax_in h (gR h v0 53) 19 v7 then if decide ((gI h (gR h v0 53) (Int32.toNatClampNeg v7)) = 0) then
      (M_mixes_10 v0 v1 v3 v5 (v7 + 1) h )
    else
      (if (gS h v0).1 = 11 then (M_given v0 2 v7 v8 h).bind (fun r1 => if (gS r1.2 v0).1 = 11 then (M_given v0 4 v7 v8 r1.2).bind (fun r2 => let x3 := (v1 + ((Int32.toInt64 r1.1) * (Int32.toInt64 r2.1))); let x4 := (v3 + ((Int32.toInt64 r1.1) * (Int32.toInt64 r1.1))); let x5 := (v5 + ((Int32.toInt64 r2.1) * (Int32.toInt64 r2.1))); M_mixes_22 v0 x3 x4 x5 v7 (v8 + 1) r2.2 ) else none ) else none) else none else none) ) :=
  (ax_S_eq _ _ _ _).trans rfl
set_option maxRecDepth 100000 in
set_option maxHeartbeats 4000000 in
theorem M_mixes_143_eq  (v0 : Nat) (h : ax_H) : M_mixes_143  v0 h =
  (if (gS h v0).1 = 11 then if (gS h v0).1 = 11 then (M_divisor (gL h v0 54) (gL h v0 55) h).bind (fun r1 => if (gS r1.2 v0).1 = 11 then if r1.1 = 0 then none else if (gS r1.2 v0).1 = 11 then let h2 := pL r1.2 v0 54 ((gL r1.2 v0 54) / r1.1); if (gS h2 v0).1 = 11 then if r1.1 = 0 then none else if (gS h2 v0).1 = 11 then let h3 := pL h2 v0 55 ((gL h2 v0 55) / r1.1); some h3 else none else none else none else none ) else none else none) :=
  (ax_S_eq _ _ _ _).trans rfl
/-- 246 BlackSunModel.mixed(III)J -/
noncomputable def M_mixed (v0 : Nat) (v1 : Int32) (v2 : Int32) (v3 : Int32) (h : ax_H) : Option (Int64 × ax_H) := (ax_EE 246).2.2.1 [.ref v0, .int v1, .int v2, .int v3] h
set_option maxRecDepth 100000 in
set_option maxHeartbeats 4000000 in
theorem M_mixed_eq (v0 : Nat) (v1 : Int32) (v2 : Int32) (v3 : Int32) (h : ax_H) : M_mixed v0 v1 v2 v3 h =
  (if (gS h v0).1 = 11 then (M_isPlate v0 v1 h).bind (fun r1 => if decide (r1.1 = 0) then
    (some ((-1), r1.2) )
  else
    ((M_isWeek v2 r1.2).bind (fun r2 => if decide (r2.1 = 0) then
      (some ((-1), r2.2) )
    else
      ((M_in (Int32.toInt64 v3) 0 1 r2.2).bind (fun r3 => if decide (¬ r3.1 = 0) then
        (if (gS r3.2 v0).1 = 11 then (M_known v0 v1 v2 r3.2).bind (fun h4 => if (gS h4 v0).1 = 11 then (M_mixes v0 h4).bind (fun h5 => if decide (¬ v3 = 0) then
          (if (gS h5 v0).1 = 11 then some ((gL h5 v0 55), h5) else none)
        else
          (if (gS h5 v0).1 = 11 then some ((gL h5 v0 54), h5) else none) ) else none ) else none)
      else
        (some ((-1), r3.2) ) )) )) ) else none) :=
  (ax_entL (N := 246) (C := r_246) (by decide) rfl (Nat.le_of_ble_eq_true rfl)).trans rfl
/-- 247 BlackSunModel.parter(II)I -/
noncomputable def M_parter (v0 : Nat) (v1 : Int32) (v2 : Int32) (h : ax_H) : Option (Int32 × ax_H) := (ax_EE 247).2.1 [.ref v0, .int v1, .int v2] h
noncomputable def M_parter_34  (v0 : Nat) (v3 : Int32) (v4 : Int64) (v6 : Int64) (v8 : Int32) (h : ax_H) : Option (Int32 × ax_H) := ax_S ax_ρI (ax_env ax_EE 247) ax_nn r_247 r_247_34 [(0, .ref v0), (3, .int v3), (4, .long v4), (6, .long v6), (8, .int v8)] [] h
set_option maxRecDepth 100000 in
set_option maxHeartbeats 4000000 in
theorem M_parter_eq (v0 : Nat) (v1 : Int32) (v2 : Int32) (h : ax_H) : M_parter v0 v1 v2 h =
  (if (gS h v0).1 = 11 then (M_isPlate v0 v1 h).bind (fun r1 => if decide (r1.1 = 0) then
    (some ((-1), r1.2) )
  else
    ((M_isWeek v2 r1.2).bind (fun r2 => if decide (¬ r2.1 = 0) then
      (if (gS r2.2 v0).1 = 11 then (M_known v0 v1 v2 r2.2).bind (fun h3 => M_parter_34 v0 (-1) 0 1 0 h3 ) else none)
    else
      (some ((-1), r2.2) ) )) ) else none) :=
  (ax_entI (N := 247) (C := r_247) (by decide) rfl (Nat.le_of_ble_eq_true rfl)).trans rfl
set_option maxRecDepth 100000 in
set_option maxHeartbeats 4000000 in
theorem M_parter_34_eq  (v0 : Nat) (v3 : Int32) (v4 : Int64) (v6 : Int64) (v8 : Int32) (h : ax_H) : M_parter_34  v0 v3 v4 v6 v8 h =
  (if (gS h v0).1 = 11 then if decide ((gI h v0 2) ≤ v8) then
    (some (v3, h) )
  else
    (if (gS h v0).1 = 11 then if ax_in h (gR h v0 53) 19 v8 then if decide (¬ (gI h (gR h v0 53) (Int32.toNatClampNeg v8)) = 0) then
      (M_parter_34 v0 v3 v4 v6 (v8 + 1) h )
    else
      (if (gS h v0).1 = 11 then if ax_in h (gR h v0 53) 19 v8 then let h1 := pI h (gR h v0 53) (Int32.toNatClampNeg v8) ((1 : Int32) &&& 1); if (gS h1 v0).1 = 11 then (M_mixes v0 h1).bind (fun h2 => if (gS h2 v0).1 = 11 then if ax_in h2 (gR h2 v0 53) 19 v8 then let h3 := pI h2 (gR h2 v0 53) (Int32.toNatClampNeg v8) ((0 : Int32) &&& 1); if decide (v3 = (-1)) then
        (if (gS h3 v0).1 = 11 then if (gS h3 v0).1 = 11 then M_parter_34 v0 v8 (gL h3 v0 54) (gL h3 v0 55) (v8 + 1) h3 else none else none)
      else
        (if (gS h3 v0).1 = 11 then if (gS h3 v0).1 = 11 then if decide ((0 : Int32) ≤ (lg_cmp ((gL h3 v0 54) * v6) (v4 * (gL h3 v0 55)))) then
          (M_parter_34 v0 v3 v4 v6 (v8 + 1) h3 )
        else
          (if (gS h3 v0).1 = 11 then if (gS h3 v0).1 = 11 then M_parter_34 v0 v8 (gL h3 v0 54) (gL h3 v0 55) (v8 + 1) h3 else none else none) else none else none) else none else none ) else none else none else none) else none else none) else none) :=
  (ax_S_eq _ _ _ _).trans rfl
/-- 248 BlackSunModel.usable(III)I -/
noncomputable def M_usable (v0 : Nat) (v1 : Int32) (v2 : Int32) (v3 : Int32) (h : ax_H) : Option (Int32 × ax_H) := (ax_EE 248).2.1 [.ref v0, .int v1, .int v2, .int v3] h
noncomputable def M_usable_44  (v0 : Nat) (v1 : Int32) (v2 : Int32) (v3 : Int32) (v4 : Int32) (v5 : Int32) (h : ax_H) : Option (Int32 × ax_H) := ax_S ax_ρI (ax_env ax_EE 248) ax_nn r_248 r_248_44 [(0, .ref v0), (1, .int v1), (2, .int v2), (3, .int v3), (4, .int v4), (5, .int v5)] [] h
set_option maxRecDepth 100000 in
set_option maxHeartbeats 4000000 in
theorem M_usable_eq (v0 : Nat) (v1 : Int32) (v2 : Int32) (v3 : Int32) (h : ax_H) : M_usable v0 v1 v2 v3 h =
  (if (gS h v0).1 = 11 then (M_isPlate v0 v1 h).bind (fun r1 => if decide (r1.1 = 0) then
    (some ((-1), r1.2) )
  else
    (if (gS r1.2 v0).1 = 11 then if ax_in r1.2 (gR r1.2 v0 9) 16 v1 then if decide (¬ (gI r1.2 (gR r1.2 v0 9) (Int32.toNatClampNeg v1)) = 0) then
      (some ((-1), r1.2) )
    else
      ((M_isWeek v2 r1.2).bind (fun r2 => if decide (r2.1 = 0) then
        (some ((-1), r2.2) )
      else
        ((M_in (Int32.toInt64 v3) 0 99 r2.2).bind (fun r3 => if decide (¬ r3.1 = 0) then
          (M_usable_44 v0 v1 v2 v3 0 0 r3.2 )
        else
          (some ((-1), r3.2) ) )) )) else none else none) ) else none) :=
  (ax_entI (N := 248) (C := r_248) (by decide) rfl (Nat.le_of_ble_eq_true rfl)).trans rfl
set_option maxRecDepth 100000 in
set_option maxHeartbeats 4000000 in
theorem M_usable_44_eq  (v0 : Nat) (v1 : Int32) (v2 : Int32) (v3 : Int32) (v4 : Int32) (v5 : Int32) (h : ax_H) : M_usable_44  v0 v1 v2 v3 v4 v5 h =
  (if (gS h v0).1 = 11 then if decide ((gI h v0 4) ≤ v5) then
    (if decide (v4 = 0) then
      (some (0, h) )
    else
      (some (1, h) ) )
  else
    (if (gS h v0).1 = 11 then if ax_in h (gR h v0 11) 16 v5 then let x1 := (gI h (gR h v0 11) (Int32.toNatClampNeg v5)); if (gS h v0).1 = 11 then if ax_in h (gR h v0 10) 16 x1 then if (gS h v0).1 = 11 then if ax_in h (gR h v0 10) 16 v1 then let x2 := ((gI h (gR h v0 10) (Int32.toNatClampNeg x1)) - (gI h (gR h v0 10) (Int32.toNatClampNeg v1))); if decide (¬ v4 = 0) then
      (M_usable_44 v0 v1 v2 v3 1 (v5 + 1) h )
    else
      (if (gS h v0).1 = 11 then if ax_in h (gR h v0 9) 16 x1 then if decide (¬ (gI h (gR h v0 9) (Int32.toNatClampNeg x1)) = 2) then
        (M_usable_44 v0 v1 v2 v3 0 (v5 + 1) h )
      else
        (if (gS h v0).1 = 11 then if ax_in h (gR h v0 8) 16 x1 then if (gS h v0).1 = 11 then if ax_in h (gR h v0 8) 16 v1 then if decide (¬ (gI h (gR h v0 8) (Int32.toNatClampNeg x1)) = (gI h (gR h v0 8) (Int32.toNatClampNeg v1))) then
          (M_usable_44 v0 v1 v2 v3 0 (v5 + 1) h )
        else
          (if decide (v3 < x2) then
            (M_usable_44 v0 v1 v2 v3 0 (v5 + 1) h )
          else
            (if decide (v3 < (-x2)) then
              (M_usable_44 v0 v1 v2 v3 0 (v5 + 1) h )
            else
              (if (gS h v0).1 = 11 then if ax_in h (gR h v0 16) 16 v5 then if decide (v2 < (gI h (gR h v0 16) (Int32.toNatClampNeg v5))) then
                (M_usable_44 v0 v1 v2 v3 0 (v5 + 1) h )
              else
                (M_usable_44 v0 v1 v2 v3 1 (v5 + 1) h ) else none else none) ) ) else none else none else none else none) else none else none) else none else none else none else none else none else none) else none) :=
  (ax_S_eq _ _ _ _).trans rfl
/-- 249 BlackSunModel.tell(II)Z -/
noncomputable def M_tell (v0 : Nat) (v1 : Int32) (v2 : Int32) (h : ax_H) : Option (Int32 × ax_H) := (ax_EE 249).2.1 [.ref v0, .int v1, .int v2] h
set_option maxRecDepth 100000 in
set_option maxHeartbeats 4000000 in
theorem M_tell_eq (v0 : Nat) (v1 : Int32) (v2 : Int32) (h : ax_H) : M_tell v0 v1 v2 h =
  ((M_isHand v1 h).bind (fun r1 => if decide (r1.1 = 0) then
    (some (0, r1.2) )
  else
    (if (gS r1.2 v0).1 = 11 then (M_in (Int32.toInt64 v2) 0 (Int32.toInt64 (gI r1.2 v0 1)) r1.2).bind (fun r2 => if decide (¬ r2.1 = 0) then
      (if (gS r2.2 v0).1 = 11 then if (gS r2.2 v0).1 = 11 then if ax_in r2.2 (gR r2.2 v0 56) 16 v1 then if decide ((gI r2.2 (gR r2.2 v0 56) (Int32.toNatClampNeg v1)) = (-1)) then
        (if ax_in r2.2 (gR r2.2 v0 56) 16 v1 then let h3 := pI r2.2 (gR r2.2 v0 56) (Int32.toNatClampNeg v1) v2; some (1, h3) else none)
      else
        (if (gS r2.2 v0).1 = 11 then if ax_in r2.2 (gR r2.2 v0 56) 16 v1 then if decide ((gI r2.2 (gR r2.2 v0 56) (Int32.toNatClampNeg v1)) ≤ v2) then
          (if (gS r2.2 v0).1 = 11 then if ax_in r2.2 (gR r2.2 v0 56) 16 v1 then if ax_in r2.2 (gR r2.2 v0 56) 16 v1 then let h4 := pI r2.2 (gR r2.2 v0 56) (Int32.toNatClampNeg v1) (gI r2.2 (gR r2.2 v0 56) (Int32.toNatClampNeg v1)); some (1, h4) else none else none else none)
        else
          (if ax_in r2.2 (gR r2.2 v0 56) 16 v1 then let h5 := pI r2.2 (gR r2.2 v0 56) (Int32.toNatClampNeg v1) v2; some (1, h5) else none) else none else none) else none else none else none)
    else
      (some (0, r2.2) ) ) else none) )) :=
  (ax_entI (N := 249) (C := r_249) (by decide) rfl (Nat.le_of_ble_eq_true rfl)).trans rfl
/-- 250 BlackSunModel.isKnowing(II)Z -/
noncomputable def M_isKnowing (v0 : Nat) (v1 : Int32) (v2 : Int32) (h : ax_H) : Option (Int32 × ax_H) := (ax_EE 250).2.1 [.ref v0, .int v1, .int v2] h
set_option maxRecDepth 100000 in
set_option maxHeartbeats 4000000 in
theorem M_isKnowing_eq (v0 : Nat) (v1 : Int32) (v2 : Int32) (h : ax_H) : M_isKnowing v0 v1 v2 h =
  (if (gS h v0).1 = 11 then if ax_in h (gR h v0 56) 16 v1 then if decide ((gI h (gR h v0 56) (Int32.toNatClampNeg v1)) = (-1)) then
    (some (0, h) )
  else
    (if (gS h v0).1 = 11 then if ax_in h (gR h v0 56) 16 v1 then if decide (v2 < (gI h (gR h v0 56) (Int32.toNatClampNeg v1))) then
      (some (0, h) )
    else
      (some (1, h) ) else none else none) else none else none) :=
  (ax_entI (N := 250) (C := r_250) (by decide) rfl (Nat.le_of_ble_eq_true rfl)).trans rfl
/-- 251 BlackSunModel.knows(II)I -/
noncomputable def M_knows (v0 : Nat) (v1 : Int32) (v2 : Int32) (h : ax_H) : Option (Int32 × ax_H) := (ax_EE 251).2.1 [.ref v0, .int v1, .int v2] h
set_option maxRecDepth 100000 in
set_option maxHeartbeats 4000000 in
theorem M_knows_eq (v0 : Nat) (v1 : Int32) (v2 : Int32) (h : ax_H) : M_knows v0 v1 v2 h =
  ((M_isHand v1 h).bind (fun r1 => if decide (r1.1 = 0) then
    (some ((-1), r1.2) )
  else
    ((M_isWeek v2 r1.2).bind (fun r2 => if decide (¬ r2.1 = 0) then
      (if (gS r2.2 v0).1 = 11 then (M_isKnowing v0 v1 v2 r2.2).bind (fun r3 => if decide (r3.1 = 0) then
        (some (0, r3.2) )
      else
        (some (1, r3.2) ) ) else none)
    else
      (some ((-1), r2.2) ) )) )) :=
  (ax_entI (N := 251) (C := r_251) (by decide) rfl (Nat.le_of_ble_eq_true rfl)).trans rfl
/-- 252 BlackSunModel.toldBy(II)I -/
noncomputable def M_toldBy (v0 : Nat) (v1 : Int32) (v2 : Int32) (h : ax_H) : Option (Int32 × ax_H) := (ax_EE 252).2.1 [.ref v0, .int v1, .int v2] h
set_option maxRecDepth 100000 in
set_option maxHeartbeats 4000000 in
theorem M_toldBy_eq (v0 : Nat) (v1 : Int32) (v2 : Int32) (h : ax_H) : M_toldBy v0 v1 v2 h =
  (if decide (¬ v2 = 0) then
    (if (gS h v0).1 = 11 then if (gS h v0).1 = 11 then if ax_in h (gR h v0 12) 16 v1 then if ax_in h (gR h v0 5) 16 (gI h (gR h v0 12) (Int32.toNatClampNeg v1)) then if (gS h v0).1 = 11 then if ax_in h (gR h v0 14) 16 v1 then if (gS h v0).1 = 11 then if (gS h v0).1 = 11 then if ax_in h (gR h v0 12) 16 v1 then if ax_in h (gR h v0 6) 16 (gI h (gR h v0 12) (Int32.toNatClampNeg v1)) then if (gS h v0).1 = 11 then if ax_in h (gR h v0 15) 16 v1 then some ((((gI h (gR h v0 5) (Int32.toNatClampNeg (gI h (gR h v0 12) (Int32.toNatClampNeg v1)))) * (gI h (gR h v0 14) (Int32.toNatClampNeg v1))) + ((gI h (gR h v0 6) (Int32.toNatClampNeg (gI h (gR h v0 12) (Int32.toNatClampNeg v1)))) * (gI h (gR h v0 15) (Int32.toNatClampNeg v1)))), h) else none else none else none else none else none else none else none else none else none else none else none else none)
  else
    (if (gS h v0).1 = 11 then if ax_in h (gR h v0 14) 16 v1 then some ((gI h (gR h v0 14) (Int32.toNatClampNeg v1)), h) else none else none) ) :=
  (ax_entI (N := 252) (C := r_252) (by decide) rfl (Nat.le_of_ble_eq_true rfl)).trans rfl
/-- 253 BlackSunModel.leans(IIII)J -/
noncomputable def M_leans (v0 : Nat) (v1 : Int32) (v2 : Int32) (v3 : Int32) (v4 : Int32) (h : ax_H) : Option (Int64 × ax_H) := (ax_EE 253).2.2.1 [.ref v0, .int v1, .int v2, .int v3, .int v4] h
noncomputable def M_leans_48  (v0 : Nat) (v1 : Int32) (v2 : Int32) (v3 : Int32) (v4 : Int32) (v5 : Int64) (v7 : Int64) (v9 : Int32) (h : ax_H) : Option (Int64 × ax_H) := ax_S ax_ρL (ax_env ax_EE 253) ax_nn r_253 r_253_48 [(0, .ref v0), (1, .int v1), (2, .int v2), (3, .int v3), (4, .int v4), (5, .long v5), (7, .long v7), (9, .int v9)] [] h
noncomputable def M_leans_87  (v0 : Nat) (v1 : Int32) (v2 : Int32) (v3 : Int32) (v4 : Int32) (v5 : Int64) (v7 : Int64) (v9 : Int32) (v10 : Int64) (v12 : Int32) (v13 : Int32) (h : ax_H) : Option (Int64 × ax_H) := ax_S ax_ρL (ax_env ax_EE 253) ax_nn r_253 r_253_87 [(0, .ref v0), (1, .int v1), (2, .int v2), (3, .int v3), (4, .int v4), (5, .long v5), (7, .long v7), (9, .int v9), (10, .long v10), (12, .int v12), (13, .int v13)] [] h
noncomputable def M_leans_110  (v0 : Nat) (v1 : Int32) (v2 : Int32) (v3 : Int32) (v4 : Int32) (v5 : Int64) (v7 : Int64) (v9 : Int32) (v10 : Int64) (v12 : Int32) (v13 : Int32) (h : ax_H) : Option (Int64 × ax_H) := ax_S ax_ρL (ax_env ax_EE 253) ax_nn r_253 r_253_110 [(0, .ref v0), (1, .int v1), (2, .int v2), (3, .int v3), (4, .int v4), (5, .long v5), (7, .long v7), (9, .int v9), (10, .long v10), (12, .int v12), (13, .int v13)] [] h
noncomputable def M_leans_157 (k0 : Int64) (k1 : Int64) (v0 : Nat) (v1 : Int32) (v2 : Int32) (v3 : Int32) (v4 : Int32) (v5 : Int64) (v7 : Int64) (v9 : Int32) (v12 : Int32) (v13 : Int32) (v14 : Int32) (h : ax_H) : Option (Int64 × ax_H) := ax_S ax_ρL (ax_env ax_EE 253) ax_nn r_253 r_253_157 [(0, .ref v0), (1, .int v1), (2, .int v2), (3, .int v3), (4, .int v4), (5, .long v5), (7, .long v7), (9, .int v9), (12, .int v12), (13, .int v13), (14, .int v14)] [.long k0, .long k1] h
noncomputable def M_leans_215 (k0 : Int64) (k1 : Int64) (v0 : Nat) (v1 : Int32) (v2 : Int32) (v3 : Int32) (v4 : Int32) (v7 : Int64) (v9 : Int32) (v12 : Int32) (h : ax_H) : Option (Int64 × ax_H) := ax_S ax_ρL (ax_env ax_EE 253) ax_nn r_253 r_253_215 [(0, .ref v0), (1, .int v1), (2, .int v2), (3, .int v3), (4, .int v4), (7, .long v7), (9, .int v9), (12, .int v12)] [.long k0, .long k1] h
set_option maxRecDepth 100000 in
set_option maxHeartbeats 4000000 in
theorem M_leans_eq (v0 : Nat) (v1 : Int32) (v2 : Int32) (v3 : Int32) (v4 : Int32) (h : ax_H) : M_leans v0 v1 v2 v3 v4 h =
  ((M_isHand v1 h).bind (fun r1 => if decide (r1.1 = 0) then
    (some ((-1000000000000), r1.2) )
  else
    ((M_isWeek v2 r1.2).bind (fun r2 => if decide (r2.1 = 0) then
      (some ((-1000000000000), r2.2) )
    else
      ((M_in (Int32.toInt64 v3) 0 1 r2.2).bind (fun r3 => if decide (r3.1 = 0) then
        (some ((-1000000000000), r3.2) )
      else
        ((M_in (Int32.toInt64 v4) 0 1 r3.2).bind (fun r4 => if decide (¬ r4.1 = 0) then
          (M_leans_48 v0 v1 v2 v3 v4 0 0 0 r4.2 )
        else
          (some ((-1000000000000), r4.2) ) )) )) )) )) :=
  (ax_entL (N := 253) (C := r_253) (by decide) rfl (Nat.le_of_ble_eq_true rfl)).trans rfl
set_option maxRecDepth 100000 in
set_option maxHeartbeats 4000000 in
theorem M_leans_48_eq  (v0 : Nat) (v1 : Int32) (v2 : Int32) (v3 : Int32) (v4 : Int32) (v5 : Int64) (v7 : Int64) (v9 : Int32) (h : ax_H) : M_leans_48  v0 v1 v2 v3 v4 v5 v7 v9 h =
  (if (gS h v0).1 = 11 then if decide ((gI h v0 4) ≤ v9) then
    (if decide (¬ (lg_cmp v7 0) = 0) then
      ((M_divisor v5 ((420 : Int64) * v7) h).bind (fun r1 => if decide (¬ v4 = 0) then
        (if r1.1 = 0 then none else some ((((420 : Int64) * v7) / r1.1), r1.2) )
      else
        (if r1.1 = 0 then none else some ((v5 / r1.1), r1.2) ) ))
    else
      (some ((Int32.toInt64 v4), h) ) )
  else
    (if (gS h v0).1 = 11 then if ax_in h (gR h v0 13) 16 v9 then if decide (¬ (gI h (gR h v0 13) (Int32.toNatClampNeg v9)) = v1) then
      (M_leans_48 v0 v1 v2 v3 v4 v5 v7 (v9 + 1) h )
    else
      (if (gS h v0).1 = 11 then (M_counts v0 v9 v2 h).bind (fun r2 => if decide (r2.1 = 0) then
        (M_leans_48 v0 v1 v2 v3 v4 v5 v7 (v9 + 1) r2.2 )
      else
        (M_leans_87 v0 v1 v2 v3 v4 v5 v7 v9 0 0 0 r2.2 ) ) else none) else none else none) else none) :=
  (ax_S_eq _ _ _ _).trans rfl
set_option maxRecDepth 100000 in
set_option maxHeartbeats 4000000 in
theorem M_leans_87_eq  (v0 : Nat) (v1 : Int32) (v2 : Int32) (v3 : Int32) (v4 : Int32) (v5 : Int64) (v7 : Int64) (v9 : Int32) (v10 : Int64) (v12 : Int32) (v13 : Int32) (h : ax_H) : M_leans_87  v0 v1 v2 v3 v4 v5 v7 v9 v10 v12 v13 h =
  (if decide ((8 : Int32) ≤ v13) then
    (if decide (¬ v12 = 0) then
      (if (gS h v0).1 = 11 then (M_toldBy v0 v9 v3 h).bind (fun r1 => if v12 = 0 then none else M_leans_215 (((Int32.toInt64 (v12 * r1.1)) - v10) * (Int32.toInt64 ((420 : Int32) / v12))) v5 v0 v1 v2 v3 v4 v7 v9 v12 r1.2 ) else none)
    else
      (M_leans_215 0 v5 v0 v1 v2 v3 v4 v7 v9 v12 h ) )
  else
    (if decide (v13 = v1) then
      (M_leans_110 v0 v1 v2 v3 v4 v5 v7 v9 v10 v12 v13 h )
    else
      (if (gS h v0).1 = 11 then (M_isKnowing v0 v13 v2 h).bind (fun r2 => if decide (r2.1 = 0) then
        (if (gS r2.2 v0).1 = 11 then if ax_in r2.2 (gR r2.2 v0 11) 16 v9 then if (gS r2.2 v0).1 = 11 then if ax_in r2.2 (gR r2.2 v0 12) 16 v9 then if (gS r2.2 v0).1 = 11 then (M_counting v0 (gI r2.2 (gR r2.2 v0 11) (Int32.toNatClampNeg v9)) (gI r2.2 (gR r2.2 v0 12) (Int32.toNatClampNeg v9)) v13 v2 r2.2).bind (fun r3 => if decide (¬ r3.1 = (-1)) then
          (if (gS r3.2 v0).1 = 11 then (M_toldBy v0 r3.1 v3 r3.2).bind (fun r4 => M_leans_157 (Int32.toInt64 r4.1) v10 v0 v1 v2 v3 v4 v5 v7 v9 v12 v13 r3.1 r4.2 ) else none)
        else
          (M_leans_157 0 v10 v0 v1 v2 v3 v4 v5 v7 v9 v12 v13 r3.1 r3.2 ) ) else none else none else none else none else none)
      else
        (M_leans_110 v0 v1 v2 v3 v4 v5 v7 v9 v10 v12 v13 r2.2 ) ) else none) ) ) :=
  (ax_S_eq _ _ _ _).trans rfl
set_option maxRecDepth 100000 in
set_option maxHeartbeats 4000000 in
theorem M_leans_110_eq  (v0 : Nat) (v1 : Int32) (v2 : Int32) (v3 : Int32) (v4 : Int32) (v5 : Int64) (v7 : Int64) (v9 : Int32) (v10 : Int64) (v12 : Int32) (v13 : Int32) (h : ax_H) : M_leans_110  v0 v1 v2 v3 v4 v5 v7 v9 v10 v12 v13 h =
  (M_leans_157 0 v10 v0 v1 v2 v3 v4 v5 v7 v9 v12 v13 (-1) h ) :=
  (ax_S_eq _ _ _ _).trans rfl
set_option maxRecDepth 100000 in
set_option maxHeartbeats 4000000 in
theorem M_leans_157_eq (k0 : Int64) (k1 : Int64) (v0 : Nat) (v1 : Int32) (v2 : Int32) (v3 : Int32) (v4 : Int32) (v5 : Int64) (v7 : Int64) (v9 : Int32) (v12 : Int32) (v13 : Int32) (v14 : Int32) (h : ax_H) : M_leans_157 k0 k1 v0 v1 v2 v3 v4 v5 v7 v9 v12 v13 v14 h =
  (if decide (¬ v14 = (-1)) then
    (M_leans_87 v0 v1 v2 v3 v4 v5 v7 v9 (k1 + k0) (v12 + 1) (v13 + 1) h )
  else
    (M_leans_87 v0 v1 v2 v3 v4 v5 v7 v9 (k1 + k0) (v12 + 0) (v13 + 1) h ) ) :=
  (ax_S_eq _ _ _ _).trans rfl
set_option maxRecDepth 100000 in
set_option maxHeartbeats 4000000 in
theorem M_leans_215_eq (k0 : Int64) (k1 : Int64) (v0 : Nat) (v1 : Int32) (v2 : Int32) (v3 : Int32) (v4 : Int32) (v7 : Int64) (v9 : Int32) (v12 : Int32) (h : ax_H) : M_leans_215 k0 k1 v0 v1 v2 v3 v4 v7 v9 v12 h =
  (if decide (¬ v12 = 0) then
    (M_leans_48 v0 v1 v2 v3 v4 (k1 + k0) (v7 + 1) (v9 + 1) h )
  else
    (M_leans_48 v0 v1 v2 v3 v4 (k1 + k0) (v7 + 0) (v9 + 1) h ) ) :=
  (ax_S_eq _ _ _ _).trans rfl
/-- 254 BlackSunModel.alone(III)Z -/
noncomputable def M_alone (v0 : Nat) (v1 : Int32) (v2 : Int32) (v3 : Int32) (h : ax_H) : Option (Int32 × ax_H) := (ax_EE 254).2.1 [.ref v0, .int v1, .int v2, .int v3] h
noncomputable def M_alone_13  (v0 : Nat) (v1 : Int32) (v2 : Int32) (v3 : Int32) (v4 : Int32) (h : ax_H) : Option (Int32 × ax_H) := ax_S ax_ρI (ax_env ax_EE 254) ax_nn r_254 r_254_13 [(0, .ref v0), (1, .int v1), (2, .int v2), (3, .int v3), (4, .int v4)] [] h
set_option maxRecDepth 100000 in
set_option maxHeartbeats 4000000 in
theorem M_alone_eq (v0 : Nat) (v1 : Int32) (v2 : Int32) (v3 : Int32) (h : ax_H) : M_alone v0 v1 v2 v3 h =
  (if (gS h v0).1 = 11 then (M_takesAll v0 v1 v2 h).bind (fun h1 => if (gS h1 v0).1 = 11 then (M_measures v0 h1).bind (fun h2 => M_alone_13 v0 v1 v2 v3 0 h2 ) else none ) else none) :=
  (ax_entI (N := 254) (C := r_254) (by decide) rfl (Nat.le_of_ble_eq_true rfl)).trans rfl
set_option maxRecDepth 100000 in
set_option maxHeartbeats 4000000 in
theorem M_alone_13_eq  (v0 : Nat) (v1 : Int32) (v2 : Int32) (v3 : Int32) (v4 : Int32) (h : ax_H) : M_alone_13  v0 v1 v2 v3 v4 h =
  (if (gS h v0).1 = 11 then if decide ((gI h v0 4) ≤ v4) then
    (if (gS h v0).1 = 11 then (M_begins v0 v1 v2 0 0 h).bind (fun r1 => if decide (r1.1 = 0) then
      (if (gS r1.2 v0).1 = 11 then if ax_in r1.2 (gR r1.2 v0 44) 17 4 then if (gS r1.2 v0).1 = 11 then let h2 := pL r1.2 v0 57 (gL r1.2 (gR r1.2 v0 44) (Int32.toNatClampNeg 4)); if (gS h2 v0).1 = 11 then if (gS h2 v0).1 = 11 then let h3 := pI h2 v0 58 (gI h2 v0 50); some (0, h3) else none else none else none else none else none)
    else
      (if (gS r1.2 v0).1 = 11 then (M_fit v0 r1.2).bind (fun r4 => if decide (r4.1 = 0) then
        (if (gS r4.2 v0).1 = 11 then if ax_in r4.2 (gR r4.2 v0 44) 17 4 then if (gS r4.2 v0).1 = 11 then let h5 := pL r4.2 v0 57 (gL r4.2 (gR r4.2 v0 44) (Int32.toNatClampNeg 4)); if (gS h5 v0).1 = 11 then if (gS h5 v0).1 = 11 then let h6 := pI h5 v0 58 (gI h5 v0 50); some (0, h6) else none else none else none else none else none)
      else
        (if (gS r4.2 v0).1 = 11 then if ax_in r4.2 (gR r4.2 v0 44) 17 4 then if (gS r4.2 v0).1 = 11 then let h7 := pL r4.2 v0 57 (gL r4.2 (gR r4.2 v0 44) (Int32.toNatClampNeg 4)); if (gS h7 v0).1 = 11 then if (gS h7 v0).1 = 11 then let h8 := pI h7 v0 58 (gI h7 v0 50); some (1, h8) else none else none else none else none else none) ) else none) ) else none)
  else
    (if (gS h v0).1 = 11 then if (gS h v0).1 = 11 then if ax_in h (gR h v0 48) 19 v4 then if decide (¬ (gI h (gR h v0 48) (Int32.toNatClampNeg v4)) = 0) then
      (if ax_in h (gR h v0 48) 19 v4 then let h9 := pI h (gR h v0 48) (Int32.toNatClampNeg v4) ((1 : Int32) &&& 1); M_alone_13 v0 v1 v2 v3 (v4 + 1) h9 else none)
    else
      (if (gS h v0).1 = 11 then if (gS h v0).1 = 11 then if ax_in h (gR h v0 11) 16 v4 then if ax_in h (gR h v0 8) 16 (gI h (gR h v0 11) (Int32.toNatClampNeg v4)) then if decide ((gI h (gR h v0 8) (Int32.toNatClampNeg (gI h (gR h v0 11) (Int32.toNatClampNeg v4)))) = v3) then
        (if ax_in h (gR h v0 48) 19 v4 then let h10 := pI h (gR h v0 48) (Int32.toNatClampNeg v4) ((0 : Int32) &&& 1); M_alone_13 v0 v1 v2 v3 (v4 + 1) h10 else none)
      else
        (if ax_in h (gR h v0 48) 19 v4 then let h11 := pI h (gR h v0 48) (Int32.toNatClampNeg v4) ((1 : Int32) &&& 1); M_alone_13 v0 v1 v2 v3 (v4 + 1) h11 else none) else none else none else none else none) else none else none else none) else none) :=
  (ax_S_eq _ _ _ _).trans rfl
/-- 255 BlackSunModel.areIslands(IIII)Z -/
noncomputable def M_areIslands (v0 : Nat) (v1 : Int32) (v2 : Int32) (v3 : Int32) (v4 : Int32) (h : ax_H) : Option (Int32 × ax_H) := (ax_EE 255).2.1 [.ref v0, .int v1, .int v2, .int v3, .int v4] h
set_option maxRecDepth 100000 in
set_option maxHeartbeats 4000000 in
theorem M_areIslands_eq (v0 : Nat) (v1 : Int32) (v2 : Int32) (v3 : Int32) (v4 : Int32) (h : ax_H) : M_areIslands v0 v1 v2 v3 v4 h =
  (if (gS h v0).1 = 11 then (M_isWay v0 v1 h).bind (fun r1 => if decide (r1.1 = 0) then
    (some (0, r1.2) )
  else
    ((M_isWeek v2 r1.2).bind (fun r2 => if decide (r2.1 = 0) then
      (some (0, r2.2) )
    else
      ((M_in (Int32.toInt64 v3) 0 3 r2.2).bind (fun r3 => if decide (r3.1 = 0) then
        (some (0, r3.2) )
      else
        ((M_in (Int32.toInt64 v4) 0 3 r3.2).bind (fun r4 => if decide (r4.1 = 0) then
          (some (0, r4.2) )
        else
          (if decide (v3 = v4) then
            (some (0, r4.2) )
          else
            (some (1, r4.2) ) ) )) )) )) ) else none) :=
  (ax_entI (N := 255) (C := r_255) (by decide) rfl (Nat.le_of_ble_eq_true rfl)).trans rfl
/-- 256 BlackSunModel.joined(IIII)I -/
noncomputable def M_joined (v0 : Nat) (v1 : Int32) (v2 : Int32) (v3 : Int32) (v4 : Int32) (h : ax_H) : Option (Int32 × ax_H) := (ax_EE 256).2.1 [.ref v0, .int v1, .int v2, .int v3, .int v4] h
set_option maxRecDepth 100000 in
set_option maxHeartbeats 4000000 in
theorem M_joined_eq (v0 : Nat) (v1 : Int32) (v2 : Int32) (v3 : Int32) (v4 : Int32) (h : ax_H) : M_joined v0 v1 v2 v3 v4 h =
  (if (gS h v0).1 = 11 then (M_areIslands v0 v1 v2 v3 v4 h).bind (fun r1 => if decide (¬ r1.1 = 0) then
    (if (gS r1.2 v0).1 = 11 then (M_alone v0 v1 v2 v3 r1.2).bind (fun r2 => if decide (¬ r2.1 = 0) then
      (if (gS r2.2 v0).1 = 11 then if (gS r2.2 v0).1 = 11 then let x3 := ((gL r2.2 v0 57) * (Int32.toInt64 (gI r2.2 v0 58))); if (gS r2.2 v0).1 = 11 then if (gS r2.2 v0).1 = 11 then (M_alone v0 v1 v2 v4 r2.2).bind (fun r4 => if decide (¬ r4.1 = 0) then
        (if (gS r4.2 v0).1 = 11 then if (gS r4.2 v0).1 = 11 then if (gS r4.2 v0).1 = 11 then (M_floorOf (x3 + ((gL r4.2 v0 57) * (Int32.toInt64 (gI r4.2 v0 58)))) (Int32.toInt64 ((gI r2.2 v0 58) + (gI r4.2 v0 58))) r4.2).bind (fun r5 => some ((Int64.toInt32 r5.1), r5.2) ) else none else none else none)
      else
        (some ((-1000000000), r4.2) ) ) else none else none else none else none)
    else
      (some ((-1000000000), r2.2) ) ) else none)
  else
    (some ((-2000000000), r1.2) ) ) else none) :=
  (ax_entI (N := 256) (C := r_256) (by decide) rfl (Nat.le_of_ble_eq_true rfl)).trans rfl
/-- 257 BlackSunModel.quarrel(IIIII)I -/
noncomputable def M_quarrel (v0 : Nat) (v1 : Int32) (v2 : Int32) (v3 : Int32) (v4 : Int32) (v5 : Int32) (h : ax_H) : Option (Int32 × ax_H) := (ax_EE 257).2.1 [.ref v0, .int v1, .int v2, .int v3, .int v4, .int v5] h
set_option maxRecDepth 100000 in
set_option maxHeartbeats 4000000 in
theorem M_quarrel_eq (v0 : Nat) (v1 : Int32) (v2 : Int32) (v3 : Int32) (v4 : Int32) (v5 : Int32) (h : ax_H) : M_quarrel v0 v1 v2 v3 v4 v5 h =
  (if (gS h v0).1 = 11 then (M_areIslands v0 v1 v2 v3 v4 h).bind (fun r1 => if decide (r1.1 = 0) then
    (some ((-1), r1.2) )
  else
    ((M_in (Int32.toInt64 v5) 0 99999 r1.2).bind (fun r2 => if decide (¬ r2.1 = 0) then
      (if (gS r2.2 v0).1 = 11 then (M_alone v0 v1 v2 v3 r2.2).bind (fun r3 => if decide (¬ r3.1 = 0) then
        (if (gS r3.2 v0).1 = 11 then if (gS r3.2 v0).1 = 11 then (M_alone v0 v1 v2 v4 r3.2).bind (fun r4 => if decide (r4.1 = 0) then
          (some (0, r4.2) )
        else
          (if (gS r4.2 v0).1 = 11 then (M_in ((gL r4.2 v0 57) - (gL r3.2 v0 57)) (Int32.toInt64 (-v5)) (Int32.toInt64 v5) r4.2).bind (fun r5 => if decide (¬ r5.1 = 0) then
            (some (0, r5.2) )
          else
            (some (1, r5.2) ) ) else none) ) else none else none)
      else
        (some (0, r3.2) ) ) else none)
    else
      (some ((-1), r2.2) ) )) ) else none) :=
  (ax_entI (N := 257) (C := r_257) (by decide) rfl (Nat.le_of_ble_eq_true rfl)).trans rfl
/-- 258 BlackSunModel.say(II)I -/
noncomputable def M_say (v0 : Nat) (v1 : Int32) (v2 : Int32) (h : ax_H) : Option (Int32 × ax_H) := (ax_EE 258).2.1 [.ref v0, .int v1, .int v2] h
set_option maxRecDepth 100000 in
set_option maxHeartbeats 4000000 in
theorem M_say_eq (v0 : Nat) (v1 : Int32) (v2 : Int32) (h : ax_H) : M_say v0 v1 v2 h =
  (if (gS h v0).1 = 11 then if decide ((gI h v0 59) = 40) then
    (some ((-1), h) )
  else
    (if (gS h v0).1 = 11 then (M_isWay v0 v1 h).bind (fun r1 => if decide (r1.1 = 0) then
      (some ((-1), r1.2) )
    else
      ((M_in (Int32.toInt64 v2) (-99999) 99999 r1.2).bind (fun r2 => if decide (¬ r2.1 = 0) then
        (if (gS r2.2 v0).1 = 11 then if (gS r2.2 v0).1 = 11 then if ax_in r2.2 (gR r2.2 v0 60) 16 (gI r2.2 v0 59) then let h3 := pI r2.2 (gR r2.2 v0 60) (Int32.toNatClampNeg (gI r2.2 v0 59)) v1; if (gS h3 v0).1 = 11 then if (gS h3 v0).1 = 11 then if ax_in h3 (gR h3 v0 61) 16 (gI h3 v0 59) then let h4 := pI h3 (gR h3 v0 61) (Int32.toNatClampNeg (gI h3 v0 59)) v2; if (gS h4 v0).1 = 11 then if (gS h4 v0).1 = 11 then if (gS h4 v0).1 = 11 then if ax_in h4 (gR h4 v0 62) 16 (gI h4 v0 59) then let h5 := pI h4 (gR h4 v0 62) (Int32.toNatClampNeg (gI h4 v0 59)) (gI h4 v0 1); if (gS h5 v0).1 = 11 then if (gS h5 v0).1 = 11 then let h6 := pI h5 v0 59 ((gI h5 v0 59) + 1); if (gS h6 v0).1 = 11 then some (((gI h6 v0 59) - 1), h6) else none else none else none else none else none else none else none else none else none else none else none else none else none)
      else
        (some ((-1), r2.2) ) )) ) else none) else none) :=
  (ax_entI (N := 258) (C := r_258) (by decide) rfl (Nat.le_of_ble_eq_true rfl)).trans rfl
/-- 259 BlackSunModel.could(IIZ)I -/
noncomputable def M_could (v0 : Nat) (v1 : Int32) (v2 : Int32) (v3 : Int32) (h : ax_H) : Option (Int32 × ax_H) := (ax_EE 259).2.1 [.ref v0, .int v1, .int v2, .int v3] h
noncomputable def M_could_55 (k0 : Int32) (k1 : Int32) (k2 : Int32) (k3 : Nat) (v0 : Nat) (v1 : Int32) (v2 : Int32) (h : ax_H) : Option (Int32 × ax_H) := ax_S ax_ρI (ax_env ax_EE 259) ax_nn r_259 r_259_55 [(0, .ref v0), (1, .int v1), (2, .int v2)] [.int k0, .int k1, .int k2, .ref k3] h
set_option maxRecDepth 100000 in
set_option maxHeartbeats 4000000 in
theorem M_could_eq (v0 : Nat) (v1 : Int32) (v2 : Int32) (v3 : Int32) (h : ax_H) : M_could v0 v1 v2 v3 h =
  (if (gS h v0).1 = 11 then (M_in (Int32.toInt64 v1) 0 (Int32.toInt64 ((gI h v0 59) - 1)) h).bind (fun r1 => if decide (r1.1 = 0) then
    (some ((-1), r1.2) )
  else
    ((M_in (Int32.toInt64 v2) 0 99999 r1.2).bind (fun r2 => if decide (¬ r2.1 = 0) then
      (if (gS r2.2 v0).1 = 11 then if ax_in r2.2 (gR r2.2 v0 60) 16 v1 then if decide (v3 = 0) then
        (if (gS r2.2 v0).1 = 11 then if ax_in r2.2 (gR r2.2 v0 62) 16 v1 then M_could_55 (gI r2.2 (gR r2.2 v0 62) (Int32.toNatClampNeg v1)) 4 (gI r2.2 (gR r2.2 v0 60) (Int32.toNatClampNeg v1)) v0 v0 v1 v2 r2.2 else none else none)
      else
        (if (gS r2.2 v0).1 = 11 then M_could_55 (gI r2.2 v0 1) 4 (gI r2.2 (gR r2.2 v0 60) (Int32.toNatClampNeg v1)) v0 v0 v1 v2 r2.2 else none) else none else none)
    else
      (some ((-1), r2.2) ) )) ) else none) :=
  (ax_entI (N := 259) (C := r_259) (by decide) rfl (Nat.le_of_ble_eq_true rfl)).trans rfl
set_option maxRecDepth 100000 in
set_option maxHeartbeats 4000000 in
theorem M_could_55_eq (k0 : Int32) (k1 : Int32) (k2 : Int32) (k3 : Nat) (v0 : Nat) (v1 : Int32) (v2 : Int32) (h : ax_H) : M_could_55 k0 k1 k2 k3 v0 v1 v2 h =
  (if (gS h k3).1 = 11 then (M_answerIn k3 k2 k1 k0 h).bind (fun r1 => if decide (r1.1 = (-1000000000)) then
    (some (0, r1.2) )
  else
    (if (gS r1.2 v0).1 = 11 then if ax_in r1.2 (gR r1.2 v0 61) 16 v1 then (M_in ((Int32.toInt64 r1.1) - (Int32.toInt64 (gI r1.2 (gR r1.2 v0 61) (Int32.toNatClampNeg v1)))) (Int32.toInt64 (-v2)) (Int32.toInt64 v2) r1.2).bind (fun r2 => if decide (r2.1 = 0) then
      (some (0, r2.2) )
    else
      (some (1, r2.2) ) ) else none else none) ) else none) :=
  (ax_S_eq _ _ _ _).trans rfl
/-- 260 BlackSunModel.field(II)I -/
noncomputable def M_field (v0 : Nat) (v1 : Int32) (v2 : Int32) (h : ax_H) : Option (Int32 × ax_H) := (ax_EE 260).2.1 [.ref v0, .int v1, .int v2] h
set_option maxRecDepth 100000 in
set_option maxHeartbeats 4000000 in
theorem M_field_eq (v0 : Nat) (v1 : Int32) (v2 : Int32) (h : ax_H) : M_field v0 v1 v2 h =
  (if (gS h v0).1 = 11 then if decide ((gI h v0 63) = 9) then
    (some ((-1), h) )
  else
    ((M_in (Int32.toInt64 v1) 1 99 h).bind (fun r1 => if decide (r1.1 = 0) then
      (some ((-1), r1.2) )
    else
      (if decide (v2 < 0) then
        (some ((-1), r1.2) )
      else
        (if (gS r1.2 v0).1 = 11 then if decide ((v2 >>> ((gI r1.2 v0 2) &&& 31)) = 0) then
          (if (gS r1.2 v0).1 = 11 then if (gS r1.2 v0).1 = 11 then if ax_in r1.2 (gR r1.2 v0 64) 16 (gI r1.2 v0 63) then let h2 := pI r1.2 (gR r1.2 v0 64) (Int32.toNatClampNeg (gI r1.2 v0 63)) v1; if (gS h2 v0).1 = 11 then if (gS h2 v0).1 = 11 then if ax_in h2 (gR h2 v0 65) 16 (gI h2 v0 63) then let h3 := pI h2 (gR h2 v0 65) (Int32.toNatClampNeg (gI h2 v0 63)) v2; if (gS h3 v0).1 = 11 then if (gS h3 v0).1 = 11 then let h4 := pI h3 v0 63 ((gI h3 v0 63) + 1); if (gS h4 v0).1 = 11 then some (((gI h4 v0 63) - 1), h4) else none else none else none else none else none else none else none else none else none)
        else
          (some ((-1), r1.2) ) else none) ) )) else none) :=
  (ax_entI (N := 260) (C := r_260) (by decide) rfl (Nat.le_of_ble_eq_true rfl)).trans rfl
/-- 261 BlackSunModel.planned(II)I -/
noncomputable def M_planned (v0 : Nat) (v1 : Int32) (v2 : Int32) (h : ax_H) : Option (Int32 × ax_H) := (ax_EE 261).2.1 [.ref v0, .int v1, .int v2] h
noncomputable def M_planned_37  (v0 : Nat) (v1 : Int32) (v2 : Int32) (v3 : Int32) (v4 : Int32) (v5 : Int32) (v6 : Int32) (h : ax_H) : Option (Int32 × ax_H) := ax_S ax_ρI (ax_env ax_EE 261) ax_nn r_261 r_261_37 [(0, .ref v0), (1, .int v1), (2, .int v2), (3, .int v3), (4, .int v4), (5, .int v5), (6, .int v6)] [] h
noncomputable def M_planned_57  (v0 : Nat) (v1 : Int32) (v2 : Int32) (v3 : Int32) (v4 : Int32) (v5 : Int32) (v6 : Int32) (v7 : Int32) (v8 : Int32) (v9 : Int32) (h : ax_H) : Option (Int32 × ax_H) := ax_S ax_ρI (ax_env ax_EE 261) ax_nn r_261 r_261_57 [(0, .ref v0), (1, .int v1), (2, .int v2), (3, .int v3), (4, .int v4), (5, .int v5), (6, .int v6), (7, .int v7), (8, .int v8), (9, .int v9)] [] h
noncomputable def M_planned_90 (k0 : Int32) (k1 : Int32) (v0 : Nat) (v1 : Int32) (v2 : Int32) (v3 : Int32) (v4 : Int32) (v5 : Int32) (v6 : Int32) (v8 : Int32) (v9 : Int32) (h : ax_H) : Option (Int32 × ax_H) := ax_S ax_ρI (ax_env ax_EE 261) ax_nn r_261 r_261_90 [(0, .ref v0), (1, .int v1), (2, .int v2), (3, .int v3), (4, .int v4), (5, .int v5), (6, .int v6), (8, .int v8), (9, .int v9)] [.int k0, .int k1] h
noncomputable def M_planned_132  (v0 : Nat) (v1 : Int32) (v2 : Int32) (v3 : Int32) (v4 : Int32) (v5 : Int32) (v6 : Int32) (v7 : Int32) (v8 : Int32) (v9 : Int32) (v10 : Int32) (h : ax_H) : Option (Int32 × ax_H) := ax_S ax_ρI (ax_env ax_EE 261) ax_nn r_261 r_261_132 [(0, .ref v0), (1, .int v1), (2, .int v2), (3, .int v3), (4, .int v4), (5, .int v5), (6, .int v6), (7, .int v7), (8, .int v8), (9, .int v9), (10, .int v10)] [] h
set_option maxRecDepth 100000 in
set_option maxHeartbeats 4000000 in
theorem M_planned_eq (v0 : Nat) (v1 : Int32) (v2 : Int32) (h : ax_H) : M_planned v0 v1 v2 h =
  ((M_in (Int32.toInt64 v1) 1 999 h).bind (fun r1 => if decide (r1.1 = 0) then
    (some ((-1), r1.2) )
  else
    ((M_in (Int32.toInt64 v2) 0 2 r1.2).bind (fun r2 => if decide (¬ r2.1 = 0) then
      (M_planned_37 v0 v1 v2 0 0 0 0 r2.2 )
    else
      (some ((-1), r2.2) ) )) )) :=
  (ax_entI (N := 261) (C := r_261) (by decide) rfl (Nat.le_of_ble_eq_true rfl)).trans rfl
set_option maxRecDepth 100000 in
set_option maxHeartbeats 4000000 in
theorem M_planned_37_eq  (v0 : Nat) (v1 : Int32) (v2 : Int32) (v3 : Int32) (v4 : Int32) (v5 : Int32) (v6 : Int32) (h : ax_H) : M_planned_37  v0 v1 v2 v3 v4 v5 v6 h =
  (if (gS h v0).1 = 11 then if decide (((1 : Int32) <<< ((gI h v0 63) &&& 31)) ≤ v6) then
    (if decide (¬ v2 = 0) then
      (if decide (¬ v2 = 1) then
        (some (v5, h) )
      else
        (some (v4, h) ) )
    else
      (some (v3, h) ) )
  else
    (M_planned_57 v0 v1 v2 v3 v4 v5 v6 0 0 0 h ) else none) :=
  (ax_S_eq _ _ _ _).trans rfl
set_option maxRecDepth 100000 in
set_option maxHeartbeats 4000000 in
theorem M_planned_57_eq  (v0 : Nat) (v1 : Int32) (v2 : Int32) (v3 : Int32) (v4 : Int32) (v5 : Int32) (v6 : Int32) (v7 : Int32) (v8 : Int32) (v9 : Int32) (h : ax_H) : M_planned_57  v0 v1 v2 v3 v4 v5 v6 v7 v8 v9 h =
  (if (gS h v0).1 = 11 then if decide ((gI h v0 63) ≤ v9) then
    (M_planned_132 v0 v1 v2 v3 v4 v5 v6 v7 v8 0 0 h )
  else
    (if decide (¬ ((v6 >>> (v9 &&& 31)) &&& 1) = 1) then
      (M_planned_90 0 v7 v0 v1 v2 v3 v4 v5 v6 v8 v9 h )
    else
      (if (gS h v0).1 = 11 then if ax_in h (gR h v0 64) 16 v9 then M_planned_90 (gI h (gR h v0 64) (Int32.toNatClampNeg v9)) v7 v0 v1 v2 v3 v4 v5 v6 v8 v9 h else none else none) ) else none) :=
  (ax_S_eq _ _ _ _).trans rfl
set_option maxRecDepth 100000 in
set_option maxHeartbeats 4000000 in
theorem M_planned_90_eq (k0 : Int32) (k1 : Int32) (v0 : Nat) (v1 : Int32) (v2 : Int32) (v3 : Int32) (v4 : Int32) (v5 : Int32) (v6 : Int32) (v8 : Int32) (v9 : Int32) (h : ax_H) : M_planned_90 k0 k1 v0 v1 v2 v3 v4 v5 v6 v8 v9 h =
  (if decide (¬ ((v6 >>> (v9 &&& 31)) &&& 1) = 1) then
    (M_planned_57 v0 v1 v2 v3 v4 v5 v6 (k1 + k0) (v8 ||| 0) (v9 + 1) h )
  else
    (if (gS h v0).1 = 11 then if ax_in h (gR h v0 65) 16 v9 then let x1 := (v8 ||| (gI h (gR h v0 65) (Int32.toNatClampNeg v9))); M_planned_57 v0 v1 v2 v3 v4 v5 v6 (k1 + k0) x1 (v9 + 1) h else none else none) ) :=
  (ax_S_eq _ _ _ _).trans rfl
set_option maxRecDepth 100000 in
set_option maxHeartbeats 4000000 in
theorem M_planned_132_eq  (v0 : Nat) (v1 : Int32) (v2 : Int32) (v3 : Int32) (v4 : Int32) (v5 : Int32) (v6 : Int32) (v7 : Int32) (v8 : Int32) (v9 : Int32) (v10 : Int32) (h : ax_H) : M_planned_132  v0 v1 v2 v3 v4 v5 v6 v7 v8 v9 v10 h =
  (if (gS h v0).1 = 11 then if decide ((gI h v0 2) ≤ v10) then
    (if decide (v1 < v7) then
      (M_planned_37 v0 v1 v2 v3 v4 v5 (v6 + 1) h )
    else
      (if decide (v4 < v9) then
        (M_planned_37 v0 v1 v2 v6 v9 v7 (v6 + 1) h )
      else
        (if decide (¬ v9 = v4) then
          (M_planned_37 v0 v1 v2 v3 v4 v5 (v6 + 1) h )
        else
          (if decide (v5 ≤ v7) then
            (M_planned_37 v0 v1 v2 v3 v4 v5 (v6 + 1) h )
          else
            (M_planned_37 v0 v1 v2 v6 v9 v7 (v6 + 1) h ) ) ) ) )
  else
    (if (gS h v0).1 = 11 then (M_given v0 4 v10 0 h).bind (fun r1 => if (gS r1.2 v0).1 = 11 then (M_given v0 4 v10 1 r1.2).bind (fun r2 => if decide (¬ ((v8 >>> (v10 &&& 31)) &&& 1) = 1) then
      (M_planned_132 v0 v1 v2 v3 v4 v5 v6 v7 v8 (v9 + 0) (v10 + 1) r2.2 )
    else
      (let x3 := (v9 + ((r1.1 * r1.1) + (r2.1 * r2.1))); M_planned_132 v0 v1 v2 v3 v4 v5 v6 v7 v8 x3 (v10 + 1) r2.2 ) ) else none ) else none) else none) :=
  (ax_S_eq _ _ _ _).trans rfl
