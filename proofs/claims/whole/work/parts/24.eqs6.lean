/-! the methods' equations, printed by wip/gen/eqs.py -/
/-- 262 BlackSunModel.slipOf(I)I -/
noncomputable def M_slipOf (v0 : Nat) (v1 : Int32) (h : ax_H) : Option (Int32 × ax_H) := (ax_EE 262).2.1 [.ref v0, .int v1] h
set_option maxRecDepth 100000 in
set_option maxHeartbeats 4000000 in
theorem M_slipOf_eq (v0 : Nat) (v1 : Int32) (h : ax_H) : M_slipOf v0 v1 h =
  (if (gS h v0).1 = 11 then let x1 := (((gL h v0 66) * 1103515245) + 12345); if (gS h v0).1 = 11 then let h2 := pL h v0 66 (x1 - x1 / 2147483648 * 2147483648); if (gS h2 v0).1 = 11 then if (Int32.toInt64 (((2 : Int32) * v1) + 1)) = 0 then none else some (((Int64.toInt32 (((gL h2 v0 66) / 65536) - ((gL h2 v0 66) / 65536) / (Int32.toInt64 (((2 : Int32) * v1) + 1)) * (Int32.toInt64 (((2 : Int32) * v1) + 1)))) - v1), h2) else none else none else none) :=
  (ax_entI (N := 262) (C := r_262) (by decide) rfl (Nat.le_of_ble_eq_true rfl)).trans rfl
/-- 263 BlackSunModel.right(IIIIII)I -/
noncomputable def M_right (v0 : Nat) (v1 : Int32) (v2 : Int32) (v3 : Int32) (v4 : Int32) (v5 : Int32) (v6 : Int32) (h : ax_H) : Option (Int32 × ax_H) := (ax_EE 263).2.1 [.ref v0, .int v1, .int v2, .int v3, .int v4, .int v5, .int v6] h
noncomputable def M_right_90  (v0 : Nat) (v1 : Int32) (v3 : Int32) (v4 : Int32) (v5 : Int32) (v6 : Int32) (v7 : Int32) (v8 : Int32) (h : ax_H) : Option (Int32 × ax_H) := ax_S ax_ρI (ax_env ax_EE 263) ax_nn r_263 r_263_90 [(0, .ref v0), (1, .int v1), (3, .int v3), (4, .int v4), (5, .int v5), (6, .int v6), (7, .int v7), (8, .int v8)] [] h
noncomputable def M_right_100  (v0 : Nat) (v1 : Int32) (v3 : Int32) (v4 : Int32) (v5 : Int32) (v6 : Int32) (v7 : Int32) (v8 : Int32) (v9 : Int32) (h : ax_H) : Option (Int32 × ax_H) := ax_S ax_ρI (ax_env ax_EE 263) ax_nn r_263 r_263_100 [(0, .ref v0), (1, .int v1), (3, .int v3), (4, .int v4), (5, .int v5), (6, .int v6), (7, .int v7), (8, .int v8), (9, .int v9)] [] h
noncomputable def M_right_140 (k0 : Int32) (v0 : Nat) (v1 : Int32) (v3 : Int32) (v4 : Int32) (v5 : Int32) (v6 : Int32) (v7 : Int32) (v8 : Int32) (v9 : Int32) (h : ax_H) : Option (Int32 × ax_H) := ax_S ax_ρI (ax_env ax_EE 263) ax_nn r_263 r_263_140 [(0, .ref v0), (1, .int v1), (3, .int v3), (4, .int v4), (5, .int v5), (6, .int v6), (7, .int v7), (8, .int v8), (9, .int v9)] [.int k0] h
set_option maxRecDepth 100000 in
set_option maxHeartbeats 4000000 in
theorem M_right_eq (v0 : Nat) (v1 : Int32) (v2 : Int32) (v3 : Int32) (v4 : Int32) (v5 : Int32) (v6 : Int32) (h : ax_H) : M_right v0 v1 v2 v3 v4 v5 v6 h =
  (if (gS h v0).1 = 11 then (M_isWay v0 v1 h).bind (fun r1 => if decide (r1.1 = 0) then
    (some ((-1), r1.2) )
  else
    (if decide (v2 < 0) then
      (some ((-1), r1.2) )
    else
      ((M_in (Int32.toInt64 v3) 0 9999 r1.2).bind (fun r2 => if decide (r2.1 = 0) then
        (some ((-1), r2.2) )
      else
        ((M_in (Int32.toInt64 v4) 0 99 r2.2).bind (fun r3 => if decide (r3.1 = 0) then
          (some ((-1), r3.2) )
        else
          ((M_in (Int32.toInt64 v5) 1 50 r3.2).bind (fun r4 => if decide (r4.1 = 0) then
            (some ((-1), r4.2) )
          else
            ((M_in (Int32.toInt64 v6) 0 99999 r4.2).bind (fun r5 => if decide (¬ r5.1 = 0) then
              (if (gS r5.2 v0).1 = 11 then if (gS r5.2 v0).1 = 11 then (M_takesAll v0 v1 (gI r5.2 v0 1) r5.2).bind (fun h6 => if (gS h6 v0).1 = 11 then (M_measures v0 h6).bind (fun h7 => if (gS h7 v0).1 = 11 then let h8 := pL h7 v0 66 (Int32.toInt64 v2); M_right_90 v0 v1 v3 v4 v5 v6 0 0 h8 else none ) else none ) else none else none)
            else
              (some ((-1), r5.2) ) )) )) )) )) ) ) else none) :=
  (ax_entI (N := 263) (C := r_263) (by decide) rfl (Nat.le_of_ble_eq_true rfl)).trans rfl
set_option maxRecDepth 100000 in
set_option maxHeartbeats 4000000 in
theorem M_right_90_eq  (v0 : Nat) (v1 : Int32) (v3 : Int32) (v4 : Int32) (v5 : Int32) (v6 : Int32) (v7 : Int32) (v8 : Int32) (h : ax_H) : M_right_90  v0 v1 v3 v4 v5 v6 v7 v8 h =
  (if decide (v5 ≤ v8) then
    (some (v7, h) )
  else
    (M_right_100 v0 v1 v3 v4 v5 v6 v7 v8 0 h ) ) :=
  (ax_S_eq _ _ _ _).trans rfl
set_option maxRecDepth 100000 in
set_option maxHeartbeats 4000000 in
theorem M_right_100_eq  (v0 : Nat) (v1 : Int32) (v3 : Int32) (v4 : Int32) (v5 : Int32) (v6 : Int32) (v7 : Int32) (v8 : Int32) (v9 : Int32) (h : ax_H) : M_right_100  v0 v1 v3 v4 v5 v6 v7 v8 v9 h =
  (if (gS h v0).1 = 11 then if decide ((gI h v0 4) ≤ v9) then
    (if (gS h v0).1 = 11 then if (gS h v0).1 = 11 then (M_begins v0 v1 (gI h v0 1) 0 0 h).bind (fun r1 => if decide (r1.1 = 0) then
      (M_right_90 v0 v1 v3 v4 v5 v6 (v7 + 0) (v8 + 1) r1.2 )
    else
      (if (gS r1.2 v0).1 = 11 then (M_fit v0 r1.2).bind (fun r2 => if decide (r2.1 = 0) then
        (M_right_90 v0 v1 v3 v4 v5 v6 (v7 + 0) (v8 + 1) r2.2 )
      else
        (if (gS r2.2 v0).1 = 11 then if ax_in r2.2 (gR r2.2 v0 44) 17 4 then (M_in ((gL r2.2 (gR r2.2 v0 44) (Int32.toNatClampNeg 4)) - (Int32.toInt64 v3)) (Int32.toInt64 (-v6)) (Int32.toInt64 v6) r2.2).bind (fun r3 => if decide (r3.1 = 0) then
          (M_right_90 v0 v1 v3 v4 v5 v6 (v7 + 0) (v8 + 1) r3.2 )
        else
          (M_right_90 v0 v1 v3 v4 v5 v6 (v7 + 1) (v8 + 1) r3.2 ) ) else none else none) ) else none) ) else none else none)
  else
    (if (gS h v0).1 = 11 then if ax_in h (gR h v0 38) 19 v9 then if decide ((gI h (gR h v0 38) (Int32.toNatClampNeg v9)) = 0) then
      (M_right_100 v0 v1 v3 v4 v5 v6 v7 v8 (v9 + 1) h )
    else
      (if (gS h v0).1 = 11 then if (gS h v0).1 = 11 then if ax_in h (gR h v0 11) 16 v9 then if ax_in h (gR h v0 9) 16 (gI h (gR h v0 11) (Int32.toNatClampNeg v9)) then if decide (¬ (gI h (gR h v0 9) (Int32.toNatClampNeg (gI h (gR h v0 11) (Int32.toNatClampNeg v9)))) = 1) then
        (M_right_140 1 v0 v1 v3 v4 v5 v6 v7 v8 v9 h )
      else
        (M_right_140 (-1) v0 v1 v3 v4 v5 v6 v7 v8 v9 h ) else none else none else none else none) else none else none) else none) :=
  (ax_S_eq _ _ _ _).trans rfl
set_option maxRecDepth 100000 in
set_option maxHeartbeats 4000000 in
theorem M_right_140_eq (k0 : Int32) (v0 : Nat) (v1 : Int32) (v3 : Int32) (v4 : Int32) (v5 : Int32) (v6 : Int32) (v7 : Int32) (v8 : Int32) (v9 : Int32) (h : ax_H) : M_right_140 k0 v0 v1 v3 v4 v5 v6 v7 v8 v9 h =
  (if (gS h v0).1 = 11 then (M_givenOn v0 4 v9 0 h).bind (fun r1 => if (gS r1.2 v0).1 = 11 then (M_slipOf v0 v4 r1.2).bind (fun r2 => let x3 := ((Int64.toInt32 (((Int32.toInt64 v3) * r1.1) / 1000)) + r2.1); if (gS r2.2 v0).1 = 11 then (M_givenOn v0 4 v9 1 r2.2).bind (fun r4 => if (gS r4.2 v0).1 = 11 then (M_slipOf v0 v4 r4.2).bind (fun r5 => let x6 := ((Int64.toInt32 (((Int32.toInt64 v3) * r4.1) / 1000)) + r5.1); if (gS r5.2 v0).1 = 11 then if ax_in r5.2 (gR r5.2 v0 46) 16 v9 then let h7 := pI r5.2 (gR r5.2 v0 46) (Int32.toNatClampNeg v9) (k0 * x3); if (gS h7 v0).1 = 11 then if ax_in h7 (gR h7 v0 47) 16 v9 then let h8 := pI h7 (gR h7 v0 47) (Int32.toNatClampNeg v9) (k0 * x6); M_right_100 v0 v1 v3 v4 v5 v6 v7 v8 (v9 + 1) h8 else none else none else none else none ) else none ) else none ) else none ) else none) :=
  (ax_S_eq _ _ _ _).trans rfl
/-- 264 BlackSunModel.span(III)I -/
noncomputable def M_span (v0 : Nat) (v1 : Int32) (v2 : Int32) (v3 : Int32) (h : ax_H) : Option (Int32 × ax_H) := (ax_EE 264).2.1 [.ref v0, .int v1, .int v2, .int v3] h
noncomputable def M_span_41  (v0 : Nat) (v1 : Int32) (v2 : Int32) (v3 : Int32) (v4 : Int32) (v5 : Int32) (h : ax_H) : Option (Int32 × ax_H) := ax_S ax_ρI (ax_env ax_EE 264) ax_nn r_264 r_264_41 [(0, .ref v0), (1, .int v1), (2, .int v2), (3, .int v3), (4, .int v4), (5, .int v5)] [] h
noncomputable def M_span_90 (k0 : Int32) (v0 : Nat) (v1 : Int32) (v2 : Int32) (v3 : Int32) (v4 : Int32) (v5 : Int32) (h : ax_H) : Option (Int32 × ax_H) := ax_S ax_ρI (ax_env ax_EE 264) ax_nn r_264 r_264_90 [(0, .ref v0), (1, .int v1), (2, .int v2), (3, .int v3), (4, .int v4), (5, .int v5)] [.int k0] h
noncomputable def M_span_129  (v0 : Nat) (v1 : Int32) (v2 : Int32) (v3 : Int32) (v4 : Int32) (v5 : Int32) (v6 : Int32) (h : ax_H) : Option (Int32 × ax_H) := ax_S ax_ρI (ax_env ax_EE 264) ax_nn r_264 r_264_129 [(0, .ref v0), (1, .int v1), (2, .int v2), (3, .int v3), (4, .int v4), (5, .int v5), (6, .int v6)] [] h
noncomputable def M_span_133  (v0 : Nat) (v1 : Int32) (v2 : Int32) (v3 : Int32) (v4 : Int32) (v5 : Int32) (v6 : Int32) (h : ax_H) : Option (Int32 × ax_H) := ax_S ax_ρI (ax_env ax_EE 264) ax_nn r_264 r_264_133 [(0, .ref v0), (1, .int v1), (2, .int v2), (3, .int v3), (4, .int v4), (5, .int v5), (6, .int v6)] [] h
set_option maxRecDepth 100000 in
set_option maxHeartbeats 4000000 in
theorem M_span_eq (v0 : Nat) (v1 : Int32) (v2 : Int32) (v3 : Int32) (h : ax_H) : M_span v0 v1 v2 v3 h =
  (if (gS h v0).1 = 11 then (M_isWay v0 v1 h).bind (fun r1 => if decide (r1.1 = 0) then
    (some ((-2000000000), r1.2) )
  else
    ((M_isWeek v2 r1.2).bind (fun r2 => if decide (r2.1 = 0) then
      (some ((-2000000000), r2.2) )
    else
      ((M_in (Int32.toInt64 v3) 0 1 r2.2).bind (fun r3 => if decide (¬ r3.1 = 0) then
        (if (gS r3.2 v0).1 = 11 then (M_answerIn v0 v1 4 v2 r3.2).bind (fun r4 => M_span_41 v0 v1 v2 v3 r4.1 0 r4.2 ) else none)
      else
        (some ((-2000000000), r3.2) ) )) )) ) else none) :=
  (ax_entI (N := 264) (C := r_264) (by decide) rfl (Nat.le_of_ble_eq_true rfl)).trans rfl
set_option maxRecDepth 100000 in
set_option maxHeartbeats 4000000 in
theorem M_span_41_eq  (v0 : Nat) (v1 : Int32) (v2 : Int32) (v3 : Int32) (v4 : Int32) (v5 : Int32) (h : ax_H) : M_span_41  v0 v1 v2 v3 v4 v5 h =
  (if (gS h v0).1 = 11 then if (gS h v0).1 = 11 then if decide (((gI h v0 3) + (gI h v0 2)) ≤ v5) then
    (some (v4, h) )
  else
    (if (gS h v0).1 = 11 then if decide ((gI h v0 3) ≤ v5) then
      (if (gS h v0).1 = 11 then if (gS h v0).1 = 11 then (M_each v0 v1 v2 1 (v5 - (gI h v0 3)) h).bind (fun r1 => M_span_90 r1.1 v0 v1 v2 v3 v4 v5 r1.2 ) else none else none)
    else
      (if (gS h v0).1 = 11 then (M_each v0 v1 v2 0 v5 h).bind (fun r2 => M_span_90 r2.1 v0 v1 v2 v3 v4 v5 r2.2 ) else none) else none) else none else none) :=
  (ax_S_eq _ _ _ _).trans rfl
set_option maxRecDepth 100000 in
set_option maxHeartbeats 4000000 in
theorem M_span_90_eq (k0 : Int32) (v0 : Nat) (v1 : Int32) (v2 : Int32) (v3 : Int32) (v4 : Int32) (v5 : Int32) (h : ax_H) : M_span_90 k0 v0 v1 v2 v3 v4 v5 h =
  (if decide (k0 = (-1000000000)) then
    (M_span_133 v0 v1 v2 v3 v4 v5 k0 h )
  else
    (if decide (v4 = (-1000000000)) then
      (M_span_129 v0 v1 v2 v3 v4 v5 k0 h )
    else
      (if decide (¬ v3 = 0) then
        (if decide (k0 ≤ v4) then
          (M_span_133 v0 v1 v2 v3 v4 v5 k0 h )
        else
          (M_span_129 v0 v1 v2 v3 v4 v5 k0 h ) )
      else
        (if decide (v4 ≤ k0) then
          (M_span_133 v0 v1 v2 v3 v4 v5 k0 h )
        else
          (M_span_129 v0 v1 v2 v3 v4 v5 k0 h ) ) ) ) ) :=
  (ax_S_eq _ _ _ _).trans rfl
set_option maxRecDepth 100000 in
set_option maxHeartbeats 4000000 in
theorem M_span_129_eq  (v0 : Nat) (v1 : Int32) (v2 : Int32) (v3 : Int32) (v4 : Int32) (v5 : Int32) (v6 : Int32) (h : ax_H) : M_span_129  v0 v1 v2 v3 v4 v5 v6 h =
  (M_span_41 v0 v1 v2 v3 v6 (v5 + 1) h ) :=
  (ax_S_eq _ _ _ _).trans rfl
set_option maxRecDepth 100000 in
set_option maxHeartbeats 4000000 in
theorem M_span_133_eq  (v0 : Nat) (v1 : Int32) (v2 : Int32) (v3 : Int32) (v4 : Int32) (v5 : Int32) (v6 : Int32) (h : ax_H) : M_span_133  v0 v1 v2 v3 v4 v5 v6 h =
  (M_span_41 v0 v1 v2 v3 v4 (v5 + 1) h ) :=
  (ax_S_eq _ _ _ _).trans rfl
/-- 265 BlackSunModel.named(IIIII)I -/
noncomputable def M_named (v0 : Nat) (v1 : Int32) (v2 : Int32) (v3 : Int32) (v4 : Int32) (v5 : Int32) (h : ax_H) : Option (Int32 × ax_H) := (ax_EE 265).2.1 [.ref v0, .int v1, .int v2, .int v3, .int v4, .int v5] h
noncomputable def M_named_65  (v0 : Nat) (v1 : Int32) (v2 : Int32) (v3 : Int32) (v4 : Int32) (v5 : Int32) (v6 : Int32) (v7 : Int32) (h : ax_H) : Option (Int32 × ax_H) := ax_S ax_ρI (ax_env ax_EE 265) ax_nn r_265 r_265_65 [(0, .ref v0), (1, .int v1), (2, .int v2), (3, .int v3), (4, .int v4), (5, .int v5), (6, .int v6), (7, .int v7)] [] h
noncomputable def M_named_102 (k0 : Int32) (k1 : Int32) (v0 : Nat) (v1 : Int32) (v2 : Int32) (v3 : Int32) (v4 : Int32) (v5 : Int32) (v7 : Int32) (h : ax_H) : Option (Int32 × ax_H) := ax_S ax_ρI (ax_env ax_EE 265) ax_nn r_265 r_265_102 [(0, .ref v0), (1, .int v1), (2, .int v2), (3, .int v3), (4, .int v4), (5, .int v5), (7, .int v7)] [.int k0, .int k1] h
set_option maxRecDepth 100000 in
set_option maxHeartbeats 4000000 in
theorem M_named_eq (v0 : Nat) (v1 : Int32) (v2 : Int32) (v3 : Int32) (v4 : Int32) (v5 : Int32) (h : ax_H) : M_named v0 v1 v2 v3 v4 v5 h =
  ((M_isWeek v1 h).bind (fun r1 => if decide (r1.1 = 0) then
    (some ((-1), r1.2) )
  else
    ((M_in (Int32.toInt64 v2) 0 99999 r1.2).bind (fun r2 => if decide (r2.1 = 0) then
      (some ((-1), r2.2) )
    else
      ((M_in (Int32.toInt64 v3) 0 99999 r2.2).bind (fun r3 => if decide (r3.1 = 0) then
        (some ((-1), r3.2) )
      else
        ((M_in (Int32.toInt64 v4) 0 99999 r3.2).bind (fun r4 => if decide (r4.1 = 0) then
          (some ((-1), r4.2) )
        else
          ((M_in (Int32.toInt64 v5) 0 3 r4.2).bind (fun r5 => if decide (¬ r5.1 = 0) then
            (M_named_65 v0 v1 v2 v3 v4 v5 0 0 r5.2 )
          else
            (some ((-1), r5.2) ) )) )) )) )) )) :=
  (ax_entI (N := 265) (C := r_265) (by decide) rfl (Nat.le_of_ble_eq_true rfl)).trans rfl
set_option maxRecDepth 100000 in
set_option maxHeartbeats 4000000 in
theorem M_named_65_eq  (v0 : Nat) (v1 : Int32) (v2 : Int32) (v3 : Int32) (v4 : Int32) (v5 : Int32) (v6 : Int32) (v7 : Int32) (h : ax_H) : M_named_65  v0 v1 v2 v3 v4 v5 v6 v7 h =
  (if (gS h v0).1 = 11 then if decide ((gI h v0 20) ≤ v7) then
    (some (v6, h) )
  else
    (if (gS h v0).1 = 11 then (M_three v0 v7 v1 v2 v3 v4 h).bind (fun r1 => if decide (¬ r1.1 = (-2)) then
      (M_named_102 r1.1 v6 v0 v1 v2 v3 v4 v5 v7 r1.2 )
    else
      (M_named_102 3 v6 v0 v1 v2 v3 v4 v5 v7 r1.2 ) ) else none) else none) :=
  (ax_S_eq _ _ _ _).trans rfl
set_option maxRecDepth 100000 in
set_option maxHeartbeats 4000000 in
theorem M_named_102_eq (k0 : Int32) (k1 : Int32) (v0 : Nat) (v1 : Int32) (v2 : Int32) (v3 : Int32) (v4 : Int32) (v5 : Int32) (v7 : Int32) (h : ax_H) : M_named_102 k0 k1 v0 v1 v2 v3 v4 v5 v7 h =
  (if decide (¬ k0 = v5) then
    (M_named_65 v0 v1 v2 v3 v4 v5 (k1 + 0) (v7 + 1) h )
  else
    (M_named_65 v0 v1 v2 v3 v4 v5 (k1 + 1) (v7 + 1) h ) ) :=
  (ax_S_eq _ _ _ _).trans rfl
/-- 266 BlackSunModel.glass(IIII)Z -/
noncomputable def M_glass (v0 : Nat) (v1 : Int32) (v2 : Int32) (v3 : Int32) (v4 : Int32) (h : ax_H) : Option (Int32 × ax_H) := (ax_EE 266).2.1 [.ref v0, .int v1, .int v2, .int v3, .int v4] h
set_option maxRecDepth 100000 in
set_option maxHeartbeats 4000000 in
theorem M_glass_eq (v0 : Nat) (v1 : Int32) (v2 : Int32) (v3 : Int32) (v4 : Int32) (h : ax_H) : M_glass v0 v1 v2 v3 v4 h =
  ((M_in (Int32.toInt64 v1) 0 3 h).bind (fun r1 => if decide (r1.1 = 0) then
    (some (0, r1.2) )
  else
    ((M_isTerm v2 r1.2).bind (fun r2 => if decide (r2.1 = 0) then
      (some (0, r2.2) )
    else
      (if decide (v2 = 4) then
        (some (0, r2.2) )
      else
        ((M_in (Int32.toInt64 v3) (-9999) 9999 r2.2).bind (fun r3 => if decide (r3.1 = 0) then
          (some (0, r3.2) )
        else
          ((M_in (Int32.toInt64 v4) (-99) 99 r3.2).bind (fun r4 => if decide (¬ r4.1 = 0) then
            (if (gS r4.2 v0).1 = 11 then if ax_in r4.2 (gR r4.2 v0 67) 16 (((6 : Int32) * v1) + v2) then let h5 := pI r4.2 (gR r4.2 v0 67) (Int32.toNatClampNeg (((6 : Int32) * v1) + v2)) v3; if (gS h5 v0).1 = 11 then if ax_in h5 (gR h5 v0 68) 16 (((6 : Int32) * v1) + v2) then let h6 := pI h5 (gR h5 v0 68) (Int32.toNatClampNeg (((6 : Int32) * v1) + v2)) v4; some (1, h6) else none else none else none else none)
          else
            (some (0, r4.2) ) )) )) ) )) )) :=
  (ax_entI (N := 266) (C := r_266) (by decide) rfl (Nat.le_of_ble_eq_true rfl)).trans rfl
/-- 267 BlackSunModel.standing(IIIII)I -/
noncomputable def M_standing (v0 : Nat) (v1 : Int32) (v2 : Int32) (v3 : Int32) (v4 : Int32) (v5 : Int32) (h : ax_H) : Option (Int32 × ax_H) := (ax_EE 267).2.1 [.ref v0, .int v1, .int v2, .int v3, .int v4, .int v5] h
noncomputable def M_standing_6  (v0 : Nat) (v1 : Int32) (v2 : Int32) (v3 : Int32) (v4 : Int32) (v5 : Int32) (v6 : Int32) (v7 : Int32) (h : ax_H) : Option (Int32 × ax_H) := ax_S ax_ρI (ax_env ax_EE 267) ax_nn r_267 r_267_6 [(0, .ref v0), (1, .int v1), (2, .int v2), (3, .int v3), (4, .int v4), (5, .int v5), (6, .int v6), (7, .int v7)] [] h
noncomputable def M_standing_69 (k0 : Int32) (v0 : Nat) (v1 : Int32) (v2 : Int32) (v3 : Int32) (v4 : Int32) (v5 : Int32) (v6 : Int32) (v7 : Int32) (h : ax_H) : Option (Int32 × ax_H) := ax_S ax_ρI (ax_env ax_EE 267) ax_nn r_267 r_267_69 [(0, .ref v0), (1, .int v1), (2, .int v2), (3, .int v3), (4, .int v4), (5, .int v5), (6, .int v6), (7, .int v7)] [.int k0] h
set_option maxRecDepth 100000 in
set_option maxHeartbeats 4000000 in
theorem M_standing_eq (v0 : Nat) (v1 : Int32) (v2 : Int32) (v3 : Int32) (v4 : Int32) (v5 : Int32) (h : ax_H) : M_standing v0 v1 v2 v3 v4 v5 h =
  (M_standing_6 v0 v1 v2 v3 v4 v5 0 0 h ) :=
  (ax_entI (N := 267) (C := r_267) (by decide) rfl (Nat.le_of_ble_eq_true rfl)).trans rfl
set_option maxRecDepth 100000 in
set_option maxHeartbeats 4000000 in
theorem M_standing_6_eq  (v0 : Nat) (v1 : Int32) (v2 : Int32) (v3 : Int32) (v4 : Int32) (v5 : Int32) (v6 : Int32) (v7 : Int32) (h : ax_H) : M_standing_6  v0 v1 v2 v3 v4 v5 v6 v7 h =
  (if decide ((6 : Int32) ≤ v7) then
    (some (v6, h) )
  else
    (if (gS h v0).1 = 11 then if ax_in h (gR h v0 8) 16 v1 then let x1 := (((6 : Int32) * (gI h (gR h v0 8) (Int32.toNatClampNeg v1))) + v7); if decide (¬ v7 = 4) then
      (if (gS h v0).1 = 11 then if ax_in h (gR h v0 67) 16 x1 then if (gS h v0).1 = 11 then if ax_in h (gR h v0 68) 16 x1 then M_standing_69 ((gI h (gR h v0 67) (Int32.toNatClampNeg x1)) + (v2 * (gI h (gR h v0 68) (Int32.toNatClampNeg x1)))) v0 v1 v2 v3 v4 v5 v6 v7 h else none else none else none else none)
    else
      (if (gS h v0).1 = 11 then if ax_in h (gR h v0 9) 16 v1 then if decide (¬ (gI h (gR h v0 9) (Int32.toNatClampNeg v1)) = 1) then
        (M_standing_69 v4 v0 v1 v2 v3 v4 v5 v6 v7 h )
      else
        (M_standing_69 0 v0 v1 v2 v3 v4 v5 v6 v7 h ) else none else none) else none else none) ) :=
  (ax_S_eq _ _ _ _).trans rfl
set_option maxRecDepth 100000 in
set_option maxHeartbeats 4000000 in
theorem M_standing_69_eq (k0 : Int32) (v0 : Nat) (v1 : Int32) (v2 : Int32) (v3 : Int32) (v4 : Int32) (v5 : Int32) (v6 : Int32) (v7 : Int32) (h : ax_H) : M_standing_69 k0 v0 v1 v2 v3 v4 v5 v6 v7 h =
  (if (gS h v0).1 = 11 then (M_given v0 v7 v3 v5 h).bind (fun r1 => M_standing_6 v0 v1 v2 v3 v4 v5 (v6 + ((k0 * r1.1) / 1000)) (v7 + 1) r1.2 ) else none) :=
  (ax_S_eq _ _ _ _).trans rfl
/-- 268 BlackSunModel.stands(IIII)I -/
noncomputable def M_stands_X268 (v0 : Nat) (v1 : Int32) (v2 : Int32) (v3 : Int32) (v4 : Int32) (h : ax_H) : Option (Int32 × ax_H) := (ax_EE 268).2.1 [.ref v0, .int v1, .int v2, .int v3, .int v4] h
set_option maxRecDepth 100000 in
set_option maxHeartbeats 4000000 in
theorem M_stands_X268_eq (v0 : Nat) (v1 : Int32) (v2 : Int32) (v3 : Int32) (v4 : Int32) (h : ax_H) : M_stands_X268 v0 v1 v2 v3 v4 h =
  (if (gS h v0).1 = 11 then (M_isPlate v0 v1 h).bind (fun r1 => if decide (r1.1 = 0) then
    (some ((-1000000), r1.2) )
  else
    (if (gS r1.2 v0).1 = 11 then (M_isStar v0 v2 r1.2).bind (fun r2 => if decide (r2.1 = 0) then
      (some ((-1000000), r2.2) )
    else
      ((M_in (Int32.toInt64 v3) 0 99999 r2.2).bind (fun r3 => if decide (r3.1 = 0) then
        (some ((-1000000), r3.2) )
      else
        ((M_in (Int32.toInt64 v4) 0 1 r3.2).bind (fun r4 => if decide (r4.1 = 0) then
          (some ((-1000000), r4.2) )
        else
          (if (gS r4.2 v0).1 = 11 then if ax_in r4.2 (gR r4.2 v0 10) 16 v1 then if (gS r4.2 v0).1 = 11 then (M_standing v0 v1 (gI r4.2 (gR r4.2 v0 10) (Int32.toNatClampNeg v1)) v2 v3 v4 r4.2).bind (fun r5 => some (r5.1, r5.2) ) else none else none else none) )) )) ) else none) ) else none) :=
  (ax_entI (N := 268) (C := r_268) (by decide) rfl (Nat.le_of_ble_eq_true rfl)).trans rfl
/-- 269 BlackSunModel.offBy(IIII)J -/
noncomputable def M_offBy (v0 : Nat) (v1 : Int32) (v2 : Int32) (v3 : Int32) (v4 : Int32) (h : ax_H) : Option (Int64 × ax_H) := (ax_EE 269).2.2.1 [.ref v0, .int v1, .int v2, .int v3, .int v4] h
noncomputable def M_offBy_11  (v0 : Nat) (v1 : Int32) (v2 : Int32) (v3 : Int32) (v4 : Int32) (v5 : Int64) (v7 : Int32) (h : ax_H) : Option (Int64 × ax_H) := ax_S ax_ρL (ax_env ax_EE 269) ax_nn r_269 r_269_11 [(0, .ref v0), (1, .int v1), (2, .int v2), (3, .int v3), (4, .int v4), (5, .long v5), (7, .int v7)] [] h
set_option maxRecDepth 100000 in
set_option maxHeartbeats 4000000 in
theorem M_offBy_eq (v0 : Nat) (v1 : Int32) (v2 : Int32) (v3 : Int32) (v4 : Int32) (h : ax_H) : M_offBy v0 v1 v2 v3 v4 h =
  (if (gS h v0).1 = 11 then let h1 := pI h v0 69 0; M_offBy_11 v0 v1 v2 v3 v4 0 0 h1 else none) :=
  (ax_entL (N := 269) (C := r_269) (by decide) rfl (Nat.le_of_ble_eq_true rfl)).trans rfl
set_option maxRecDepth 100000 in
set_option maxHeartbeats 4000000 in
theorem M_offBy_11_eq  (v0 : Nat) (v1 : Int32) (v2 : Int32) (v3 : Int32) (v4 : Int32) (v5 : Int64) (v7 : Int32) (h : ax_H) : M_offBy_11  v0 v1 v2 v3 v4 v5 v7 h =
  (if (gS h v0).1 = 11 then if decide ((gI h v0 4) ≤ v7) then
    (some (v5, h) )
  else
    (if (gS h v0).1 = 11 then if ax_in h (gR h v0 11) 16 v7 then if decide (¬ (gI h (gR h v0 11) (Int32.toNatClampNeg v7)) = v1) then
      (M_offBy_11 v0 v1 v2 v3 v4 v5 (v7 + 1) h )
    else
      (if (gS h v0).1 = 11 then (M_counts v0 v7 v2 h).bind (fun r1 => if decide (r1.1 = 0) then
        (M_offBy_11 v0 v1 v2 v3 v4 v5 (v7 + 1) r1.2 )
      else
        (if (gS r1.2 v0).1 = 11 then if ax_in r1.2 (gR r1.2 v0 14) 16 v7 then if (gS r1.2 v0).1 = 11 then if ax_in r1.2 (gR r1.2 v0 12) 16 v7 then if (gS r1.2 v0).1 = 11 then (M_standing v0 v1 v4 (gI r1.2 (gR r1.2 v0 12) (Int32.toNatClampNeg v7)) v3 0 r1.2).bind (fun r2 => let x3 := (Int32.toInt64 ((gI r1.2 (gR r1.2 v0 14) (Int32.toNatClampNeg v7)) - r2.1)); if (gS r2.2 v0).1 = 11 then if ax_in r2.2 (gR r2.2 v0 15) 16 v7 then if (gS r2.2 v0).1 = 11 then if ax_in r2.2 (gR r2.2 v0 12) 16 v7 then if (gS r2.2 v0).1 = 11 then (M_standing v0 v1 v4 (gI r2.2 (gR r2.2 v0 12) (Int32.toNatClampNeg v7)) v3 1 r2.2).bind (fun r4 => let x5 := (Int32.toInt64 ((gI r2.2 (gR r2.2 v0 15) (Int32.toNatClampNeg v7)) - r4.1)); if (gS r4.2 v0).1 = 11 then if (gS r4.2 v0).1 = 11 then let h6 := pI r4.2 v0 69 ((gI r4.2 v0 69) + 1); M_offBy_11 v0 v1 v2 v3 v4 (v5 + ((x3 * x3) + (x5 * x5))) (v7 + 1) h6 else none else none ) else none else none else none else none else none ) else none else none else none else none else none) ) else none) else none else none) else none) :=
  (ax_S_eq _ _ _ _).trans rfl
/-- 270 BlackSunModel.off(III)J -/
noncomputable def M_off (v0 : Nat) (v1 : Int32) (v2 : Int32) (v3 : Int32) (h : ax_H) : Option (Int64 × ax_H) := (ax_EE 270).2.2.1 [.ref v0, .int v1, .int v2, .int v3] h
set_option maxRecDepth 100000 in
set_option maxHeartbeats 4000000 in
theorem M_off_eq (v0 : Nat) (v1 : Int32) (v2 : Int32) (v3 : Int32) (h : ax_H) : M_off v0 v1 v2 v3 h =
  (if (gS h v0).1 = 11 then (M_isPlate v0 v1 h).bind (fun r1 => if decide (r1.1 = 0) then
    (some ((-1), r1.2) )
  else
    ((M_isWeek v2 r1.2).bind (fun r2 => if decide (r2.1 = 0) then
      (some ((-1), r2.2) )
    else
      ((M_in (Int32.toInt64 v3) 0 99999 r2.2).bind (fun r3 => if decide (r3.1 = 0) then
        (some ((-1), r3.2) )
      else
        (if (gS r3.2 v0).1 = 11 then if ax_in r3.2 (gR r3.2 v0 10) 16 v1 then if (gS r3.2 v0).1 = 11 then (M_offBy v0 v1 v2 v3 (gI r3.2 (gR r3.2 v0 10) (Int32.toNatClampNeg v1)) r3.2).bind (fun r4 => some (r4.1, r4.2) ) else none else none else none) )) )) ) else none) :=
  (ax_entL (N := 270) (C := r_270) (by decide) rfl (Nat.le_of_ble_eq_true rfl)).trans rfl
/-- 271 BlackSunModel.heat(III)I -/
noncomputable def M_heat (v0 : Nat) (v1 : Int32) (v2 : Int32) (v3 : Int32) (h : ax_H) : Option (Int32 × ax_H) := (ax_EE 271).2.1 [.ref v0, .int v1, .int v2, .int v3] h
noncomputable def M_heat_54  (v0 : Nat) (v1 : Int32) (v2 : Int32) (v3 : Int32) (v4 : Int32) (v5 : Int64) (v7 : Int32) (h : ax_H) : Option (Int32 × ax_H) := ax_S ax_ρI (ax_env ax_EE 271) ax_nn r_271 r_271_54 [(0, .ref v0), (1, .int v1), (2, .int v2), (3, .int v3), (4, .int v4), (5, .long v5), (7, .int v7)] [] h
noncomputable def M_heat_87 (k0 : Int32) (v0 : Nat) (v1 : Int32) (v2 : Int32) (v3 : Int32) (v5 : Int64) (v7 : Int32) (v8 : Int64) (h : ax_H) : Option (Int32 × ax_H) := ax_S ax_ρI (ax_env ax_EE 271) ax_nn r_271 r_271_87 [(0, .ref v0), (1, .int v1), (2, .int v2), (3, .int v3), (5, .long v5), (7, .int v7), (8, .long v8)] [.int k0] h
set_option maxRecDepth 100000 in
set_option maxHeartbeats 4000000 in
theorem M_heat_eq (v0 : Nat) (v1 : Int32) (v2 : Int32) (v3 : Int32) (h : ax_H) : M_heat v0 v1 v2 v3 h =
  (if (gS h v0).1 = 11 then (M_isPlate v0 v1 h).bind (fun r1 => if decide (r1.1 = 0) then
    (some ((-1), r1.2) )
  else
    ((M_isWeek v2 r1.2).bind (fun r2 => if decide (r2.1 = 0) then
      (some ((-1), r2.2) )
    else
      ((M_in (Int32.toInt64 v3) 0 99999 r2.2).bind (fun r3 => if decide (¬ r3.1 = 0) then
        (if (gS r3.2 v0).1 = 11 then (M_offBy v0 v1 v2 v3 0 r3.2).bind (fun r4 => if (gS r4.2 v0).1 = 11 then if decide (¬ (gI r4.2 v0 69) = 0) then
          (M_heat_54 v0 v1 v2 v3 0 r4.1 1 r4.2 )
        else
          (some ((-1), r4.2) ) else none ) else none)
      else
        (some ((-1), r3.2) ) )) )) ) else none) :=
  (ax_entI (N := 271) (C := r_271) (by decide) rfl (Nat.le_of_ble_eq_true rfl)).trans rfl
set_option maxRecDepth 100000 in
set_option maxHeartbeats 4000000 in
theorem M_heat_54_eq  (v0 : Nat) (v1 : Int32) (v2 : Int32) (v3 : Int32) (v4 : Int32) (v5 : Int64) (v7 : Int32) (h : ax_H) : M_heat_54  v0 v1 v2 v3 v4 v5 v7 h =
  (if decide ((100 : Int32) ≤ v7) then
    (some (v4, h) )
  else
    (if (gS h v0).1 = 11 then (M_offBy v0 v1 v2 v3 v7 h).bind (fun r1 => if decide ((0 : Int32) ≤ (lg_cmp r1.1 v5)) then
      (M_heat_87 v4 v0 v1 v2 v3 v5 v7 r1.1 r1.2 )
    else
      (M_heat_87 v7 v0 v1 v2 v3 v5 v7 r1.1 r1.2 ) ) else none) ) :=
  (ax_S_eq _ _ _ _).trans rfl
set_option maxRecDepth 100000 in
set_option maxHeartbeats 4000000 in
theorem M_heat_87_eq (k0 : Int32) (v0 : Nat) (v1 : Int32) (v2 : Int32) (v3 : Int32) (v5 : Int64) (v7 : Int32) (v8 : Int64) (h : ax_H) : M_heat_87 k0 v0 v1 v2 v3 v5 v7 v8 h =
  (if decide ((0 : Int32) ≤ (lg_cmp v8 v5)) then
    (M_heat_54 v0 v1 v2 v3 k0 v5 (v7 + 1) h )
  else
    (M_heat_54 v0 v1 v2 v3 k0 v8 (v7 + 1) h ) ) :=
  (ax_S_eq _ _ _ _).trans rfl
/-- 272 BlackSunModel.again(IIII)I -/
noncomputable def M_again (v0 : Nat) (v1 : Int32) (v2 : Int32) (v3 : Int32) (v4 : Int32) (h : ax_H) : Option (Int32 × ax_H) := (ax_EE 272).2.1 [.ref v0, .int v1, .int v2, .int v3, .int v4] h
noncomputable def M_again_64  (v0 : Nat) (v1 : Int32) (v2 : Int32) (v3 : Int32) (v4 : Int32) (v5 : Int32) (v6 : Int32) (v7 : Int32) (v8 : Int32) (v9 : Int32) (v10 : Int32) (v11 : Int32) (h : ax_H) : Option (Int32 × ax_H) := ax_S ax_ρI (ax_env ax_EE 272) ax_nn r_272 r_272_64 [(0, .ref v0), (1, .int v1), (2, .int v2), (3, .int v3), (4, .int v4), (5, .int v5), (6, .int v6), (7, .int v7), (8, .int v8), (9, .int v9), (10, .int v10), (11, .int v11)] [] h
noncomputable def M_again_76  (v0 : Nat) (v1 : Int32) (v2 : Int32) (v3 : Int32) (v4 : Int32) (v5 : Int32) (v6 : Int32) (v7 : Int32) (v8 : Int32) (v9 : Int32) (v10 : Int32) (v11 : Int32) (v12 : Int32) (h : ax_H) : Option (Int32 × ax_H) := ax_S ax_ρI (ax_env ax_EE 272) ax_nn r_272 r_272_76 [(0, .ref v0), (1, .int v1), (2, .int v2), (3, .int v3), (4, .int v4), (5, .int v5), (6, .int v6), (7, .int v7), (8, .int v8), (9, .int v9), (10, .int v10), (11, .int v11), (12, .int v12)] [] h
noncomputable def M_again_194  (v0 : Nat) (v1 : Int32) (v2 : Int32) (v3 : Int32) (v4 : Int32) (v5 : Int32) (v6 : Int32) (v7 : Int32) (v11 : Int32) (v12 : Int32) (v15 : Int32) (v16 : Int32) (h : ax_H) : Option (Int32 × ax_H) := ax_S ax_ρI (ax_env ax_EE 272) ax_nn r_272 r_272_194 [(0, .ref v0), (1, .int v1), (2, .int v2), (3, .int v3), (4, .int v4), (5, .int v5), (6, .int v6), (7, .int v7), (11, .int v11), (12, .int v12), (15, .int v15), (16, .int v16)] [] h
set_option maxRecDepth 100000 in
set_option maxHeartbeats 4000000 in
theorem M_again_eq (v0 : Nat) (v1 : Int32) (v2 : Int32) (v3 : Int32) (v4 : Int32) (h : ax_H) : M_again v0 v1 v2 v3 v4 h =
  ((M_isHand v1 h).bind (fun r1 => if decide (r1.1 = 0) then
    (some ((-1000000), r1.2) )
  else
    ((M_isHand v2 r1.2).bind (fun r2 => if decide (r2.1 = 0) then
      (some ((-1000000), r2.2) )
    else
      (if decide (v1 = v2) then
        (some ((-1000000), r2.2) )
      else
        ((M_isWeek v3 r2.2).bind (fun r3 => if decide (r3.1 = 0) then
          (some ((-1000000), r3.2) )
        else
          ((M_in (Int32.toInt64 v4) 0 5 r3.2).bind (fun r4 => if decide (¬ r4.1 = 0) then
            (M_again_64 v0 v1 v2 v3 v4 0 0 0 0 (-1) (-1) 0 r4.2 )
          else
            (some ((-1000000), r4.2) ) )) )) ) )) )) :=
  (ax_entI (N := 272) (C := r_272) (by decide) rfl (Nat.le_of_ble_eq_true rfl)).trans rfl
set_option maxRecDepth 100000 in
set_option maxHeartbeats 4000000 in
theorem M_again_64_eq  (v0 : Nat) (v1 : Int32) (v2 : Int32) (v3 : Int32) (v4 : Int32) (v5 : Int32) (v6 : Int32) (v7 : Int32) (v8 : Int32) (v9 : Int32) (v10 : Int32) (v11 : Int32) (h : ax_H) : M_again_64  v0 v1 v2 v3 v4 v5 v6 v7 v8 v9 v10 v11 h =
  (if (gS h v0).1 = 11 then if decide ((gI h v0 3) ≤ v11) then
    (if v4 = 0 then
      (some (v5, h) )
    else if v4 = 1 then
      (some (v6, h) )
    else if v4 = 2 then
      (some (v7, h) )
    else if v4 = 3 then
      (some (v8, h) )
    else if v4 = 4 then
      (some (v9, h) )
    else 
      (some (v10, h) ) )
  else
    (M_again_76 v0 v1 v2 v3 v4 v5 v6 v7 v8 v9 v10 v11 0 h ) else none) :=
  (ax_S_eq _ _ _ _).trans rfl
set_option maxRecDepth 100000 in
set_option maxHeartbeats 4000000 in
theorem M_again_76_eq  (v0 : Nat) (v1 : Int32) (v2 : Int32) (v3 : Int32) (v4 : Int32) (v5 : Int32) (v6 : Int32) (v7 : Int32) (v8 : Int32) (v9 : Int32) (v10 : Int32) (v11 : Int32) (v12 : Int32) (h : ax_H) : M_again_76  v0 v1 v2 v3 v4 v5 v6 v7 v8 v9 v10 v11 v12 h =
  (if (gS h v0).1 = 11 then if decide ((gI h v0 2) ≤ v12) then
    (M_again_64 v0 v1 v2 v3 v4 v5 v6 v7 v8 v9 v10 (v11 + 1) h )
  else
    (if (gS h v0).1 = 11 then (M_counting v0 v11 v12 v1 v3 h).bind (fun r1 => if (gS r1.2 v0).1 = 11 then (M_counting v0 v11 v12 v2 v3 r1.2).bind (fun r2 => if decide (r1.1 = (-1)) then
      (M_again_76 v0 v1 v2 v3 v4 v5 v6 v7 v8 v9 v10 v11 (v12 + 1) r2.2 )
    else
      (if decide (r2.1 = (-1)) then
        (M_again_76 v0 v1 v2 v3 v4 v5 v6 v7 v8 v9 v10 v11 (v12 + 1) r2.2 )
      else
        (if (gS r2.2 v0).1 = 11 then if ax_in r2.2 (gR r2.2 v0 14) 16 r2.1 then if (gS r2.2 v0).1 = 11 then if ax_in r2.2 (gR r2.2 v0 14) 16 r1.1 then let x3 := ((gI r2.2 (gR r2.2 v0 14) (Int32.toNatClampNeg r2.1)) - (gI r2.2 (gR r2.2 v0 14) (Int32.toNatClampNeg r1.1))); if (gS r2.2 v0).1 = 11 then if ax_in r2.2 (gR r2.2 v0 15) 16 r2.1 then if (gS r2.2 v0).1 = 11 then if ax_in r2.2 (gR r2.2 v0 15) 16 r1.1 then let x4 := ((gI r2.2 (gR r2.2 v0 15) (Int32.toNatClampNeg r2.1)) - (gI r2.2 (gR r2.2 v0 15) (Int32.toNatClampNeg r1.1))); if decide (v9 = (-1)) then
          (M_again_194 v0 v1 v2 v3 v4 (v5 + 1) (v6 + x3) (v7 + x4) v11 v12 x3 x4 r2.2 )
        else
          (if decide (((x3 * x3) + (x4 * x4)) ≤ v8) then
            (M_again_76 v0 v1 v2 v3 v4 (v5 + 1) (v6 + x3) (v7 + x4) v8 v9 v10 v11 (v12 + 1) r2.2 )
          else
            (M_again_194 v0 v1 v2 v3 v4 (v5 + 1) (v6 + x3) (v7 + x4) v11 v12 x3 x4 r2.2 ) ) else none else none else none else none else none else none else none else none) ) ) else none ) else none) else none) :=
  (ax_S_eq _ _ _ _).trans rfl
set_option maxRecDepth 100000 in
set_option maxHeartbeats 4000000 in
theorem M_again_194_eq  (v0 : Nat) (v1 : Int32) (v2 : Int32) (v3 : Int32) (v4 : Int32) (v5 : Int32) (v6 : Int32) (v7 : Int32) (v11 : Int32) (v12 : Int32) (v15 : Int32) (v16 : Int32) (h : ax_H) : M_again_194  v0 v1 v2 v3 v4 v5 v6 v7 v11 v12 v15 v16 h =
  (M_again_76 v0 v1 v2 v3 v4 v5 v6 v7 ((v15 * v15) + (v16 * v16)) v11 v12 v11 (v12 + 1) h ) :=
  (ax_S_eq _ _ _ _).trans rfl
/-- 273 BlackSunModel.carry([I)V -/
noncomputable def M_carry (v0 : Nat) (v1 : Nat) (h : ax_H) : Option (ax_H) := (ax_EE 273).1 [.ref v0, .ref v1] h
noncomputable def M_carry_2  (v0 : Nat) (v1 : Nat) (v2 : Int32) (h : ax_H) : Option (ax_H) := ax_S ax_ρV (ax_env ax_EE 273) ax_nn r_273 r_273_2 [(0, .ref v0), (1, .ref v1), (2, .int v2)] [] h
set_option maxRecDepth 100000 in
set_option maxHeartbeats 4000000 in
theorem M_carry_eq (v0 : Nat) (v1 : Nat) (h : ax_H) : M_carry v0 v1 h =
  (M_carry_2 v0 v1 0 h ) :=
  (ax_entV (N := 273) (C := r_273) (by decide) rfl (Nat.le_of_ble_eq_true rfl)).trans rfl
set_option maxRecDepth 100000 in
set_option maxHeartbeats 4000000 in
theorem M_carry_2_eq  (v0 : Nat) (v1 : Nat) (v2 : Int32) (h : ax_H) : M_carry_2  v0 v1 v2 h =
  (if (gS h v1).1 = 16 then if decide ((nI (gS h v1).2) ≤ v2) then
    (some h )
  else
    (if (gS h v0).1 = 11 then if decide ((gI h v0 74) = 0) then
      (if (gS h v0).1 = 11 then if (gS h v0).1 = 11 then if ax_in h v1 16 v2 then if ax_in h (gR h v0 70) 16 (gI h v0 73) then let h1 := pI h (gR h v0 70) (Int32.toNatClampNeg (gI h v0 73)) (gI h v1 (Int32.toNatClampNeg v2)); if (gS h1 v0).1 = 11 then if (gS h1 v0).1 = 11 then let h2 := pI h1 v0 73 ((gI h1 v0 73) + 1); M_carry_2 v0 v1 (v2 + 1) h2 else none else none else none else none else none else none)
    else
      (if (gS h v0).1 = 11 then if (gS h v0).1 = 11 then if ax_in h (gR h v0 70) 16 (gI h v0 73) then if ax_in h v1 16 v2 then let h3 := pI h v1 (Int32.toNatClampNeg v2) (gI h (gR h v0 70) (Int32.toNatClampNeg (gI h v0 73))); if (gS h3 v0).1 = 11 then if (gS h3 v0).1 = 11 then let h4 := pI h3 v0 73 ((gI h3 v0 73) + 1); M_carry_2 v0 v1 (v2 + 1) h4 else none else none else none else none else none else none) else none) else none) :=
  (ax_S_eq _ _ _ _).trans rfl
/-- 274 BlackSunModel.carries(I)V -/
noncomputable def M_carries (v0 : Nat) (v1 : Int32) (h : ax_H) : Option (ax_H) := (ax_EE 274).1 [.ref v0, .int v1] h
set_option maxRecDepth 100000 in
set_option maxHeartbeats 4000000 in
theorem M_carries_eq (v0 : Nat) (v1 : Int32) (h : ax_H) : M_carries v0 v1 h =
  (if (gS h v0).1 = 11 then let h1 := pI h v0 73 ((8000 : Int32) * v1); if (gS h1 v0).1 = 11 then if (gS h1 v0).1 = 11 then (M_carry v0 (gR h1 v0 71) h1).bind (fun h2 => if (gS h2 v0).1 = 11 then if (gS h2 v0).1 = 11 then (M_carry v0 (gR h2 v0 5) h2).bind (fun h3 => if (gS h3 v0).1 = 11 then if (gS h3 v0).1 = 11 then (M_carry v0 (gR h3 v0 6) h3).bind (fun h4 => if (gS h4 v0).1 = 11 then if (gS h4 v0).1 = 11 then (M_carry v0 (gR h4 v0 7) h4).bind (fun h5 => if (gS h5 v0).1 = 11 then if (gS h5 v0).1 = 11 then (M_carry v0 (gR h5 v0 8) h5).bind (fun h6 => if (gS h6 v0).1 = 11 then if (gS h6 v0).1 = 11 then (M_carry v0 (gR h6 v0 9) h6).bind (fun h7 => if (gS h7 v0).1 = 11 then if (gS h7 v0).1 = 11 then (M_carry v0 (gR h7 v0 10) h7).bind (fun h8 => if (gS h8 v0).1 = 11 then if (gS h8 v0).1 = 11 then (M_carry v0 (gR h8 v0 11) h8).bind (fun h9 => if (gS h9 v0).1 = 11 then if (gS h9 v0).1 = 11 then (M_carry v0 (gR h9 v0 12) h9).bind (fun h10 => if (gS h10 v0).1 = 11 then if (gS h10 v0).1 = 11 then (M_carry v0 (gR h10 v0 13) h10).bind (fun h11 => if (gS h11 v0).1 = 11 then if (gS h11 v0).1 = 11 then (M_carry v0 (gR h11 v0 14) h11).bind (fun h12 => if (gS h12 v0).1 = 11 then if (gS h12 v0).1 = 11 then (M_carry v0 (gR h12 v0 15) h12).bind (fun h13 => if (gS h13 v0).1 = 11 then if (gS h13 v0).1 = 11 then (M_carry v0 (gR h13 v0 16) h13).bind (fun h14 => if (gS h14 v0).1 = 11 then if (gS h14 v0).1 = 11 then (M_carry v0 (gR h14 v0 27) h14).bind (fun h15 => if (gS h15 v0).1 = 11 then if (gS h15 v0).1 = 11 then (M_carry v0 (gR h15 v0 28) h15).bind (fun h16 => if (gS h16 v0).1 = 11 then if (gS h16 v0).1 = 11 then (M_carry v0 (gR h16 v0 29) h16).bind (fun h17 => if (gS h17 v0).1 = 11 then if (gS h17 v0).1 = 11 then (M_carry v0 (gR h17 v0 30) h17).bind (fun h18 => if (gS h18 v0).1 = 11 then if (gS h18 v0).1 = 11 then (M_carry v0 (gR h18 v0 31) h18).bind (fun h19 => if (gS h19 v0).1 = 11 then if (gS h19 v0).1 = 11 then (M_carry v0 (gR h19 v0 32) h19).bind (fun h20 => if (gS h20 v0).1 = 11 then if (gS h20 v0).1 = 11 then (M_carry v0 (gR h20 v0 33) h20).bind (fun h21 => if (gS h21 v0).1 = 11 then if (gS h21 v0).1 = 11 then (M_carry v0 (gR h21 v0 34) h21).bind (fun h22 => if (gS h22 v0).1 = 11 then if (gS h22 v0).1 = 11 then (M_carry v0 (gR h22 v0 60) h22).bind (fun h23 => if (gS h23 v0).1 = 11 then if (gS h23 v0).1 = 11 then (M_carry v0 (gR h23 v0 61) h23).bind (fun h24 => if (gS h24 v0).1 = 11 then if (gS h24 v0).1 = 11 then (M_carry v0 (gR h24 v0 62) h24).bind (fun h25 => if (gS h25 v0).1 = 11 then if (gS h25 v0).1 = 11 then (M_carry v0 (gR h25 v0 64) h25).bind (fun h26 => if (gS h26 v0).1 = 11 then if (gS h26 v0).1 = 11 then (M_carry v0 (gR h26 v0 65) h26).bind (fun h27 => if (gS h27 v0).1 = 11 then if (gS h27 v0).1 = 11 then (M_carry v0 (gR h27 v0 67) h27).bind (fun h28 => if (gS h28 v0).1 = 11 then if (gS h28 v0).1 = 11 then (M_carry v0 (gR h28 v0 68) h28).bind (fun h29 => if (gS h29 v0).1 = 11 then if (gS h29 v0).1 = 11 then (M_carry v0 (gR h29 v0 56) h29).bind (fun h30 => some h30 ) else none else none ) else none else none ) else none else none ) else none else none ) else none else none ) else none else none ) else none else none ) else none else none ) else none else none ) else none else none ) else none else none ) else none else none ) else none else none ) else none else none ) else none else none ) else none else none ) else none else none ) else none else none ) else none else none ) else none else none ) else none else none ) else none else none ) else none else none ) else none else none ) else none else none ) else none else none ) else none else none ) else none else none ) else none else none else none) :=
  (ax_entV (N := 274) (C := r_274) (by decide) rfl (Nat.le_of_ble_eq_true rfl)).trans rfl
/-- 275 BlackSunModel.mark(I)I -/
noncomputable def M_mark (v0 : Nat) (v1 : Int32) (h : ax_H) : Option (Int32 × ax_H) := (ax_EE 275).2.1 [.ref v0, .int v1] h
set_option maxRecDepth 100000 in
set_option maxHeartbeats 4000000 in
theorem M_mark_eq (v0 : Nat) (v1 : Int32) (h : ax_H) : M_mark v0 v1 h =
  ((M_in (Int32.toInt64 v1) 0 3 h).bind (fun r1 => if decide (¬ r1.1 = 0) then
    (if (gS r1.2 v0).1 = 11 then if (gS r1.2 v0).1 = 11 then if ax_in r1.2 (gR r1.2 v0 71) 16 0 then let h2 := pI r1.2 (gR r1.2 v0 71) (Int32.toNatClampNeg 0) (gI r1.2 v0 1); if (gS h2 v0).1 = 11 then if (gS h2 v0).1 = 11 then if ax_in h2 (gR h2 v0 71) 16 1 then let h3 := pI h2 (gR h2 v0 71) (Int32.toNatClampNeg 1) (gI h2 v0 2); if (gS h3 v0).1 = 11 then if (gS h3 v0).1 = 11 then if ax_in h3 (gR h3 v0 71) 16 2 then let h4 := pI h3 (gR h3 v0 71) (Int32.toNatClampNeg 2) (gI h3 v0 3); if (gS h4 v0).1 = 11 then if (gS h4 v0).1 = 11 then if ax_in h4 (gR h4 v0 71) 16 3 then let h5 := pI h4 (gR h4 v0 71) (Int32.toNatClampNeg 3) (gI h4 v0 4); if (gS h5 v0).1 = 11 then if (gS h5 v0).1 = 11 then if ax_in h5 (gR h5 v0 71) 16 4 then let h6 := pI h5 (gR h5 v0 71) (Int32.toNatClampNeg 4) (gI h5 v0 20); if (gS h6 v0).1 = 11 then if (gS h6 v0).1 = 11 then if ax_in h6 (gR h6 v0 71) 16 5 then let h7 := pI h6 (gR h6 v0 71) (Int32.toNatClampNeg 5) (gI h6 v0 59); if (gS h7 v0).1 = 11 then if (gS h7 v0).1 = 11 then if ax_in h7 (gR h7 v0 71) 16 6 then let h8 := pI h7 (gR h7 v0 71) (Int32.toNatClampNeg 6) (gI h7 v0 63); if (gS h8 v0).1 = 11 then if ax_in h8 (gR h8 v0 72) 19 v1 then let h9 := pI h8 (gR h8 v0 72) (Int32.toNatClampNeg v1) ((1 : Int32) &&& 1); if (gS h9 v0).1 = 11 then let h10 := pI h9 v0 74 0; if (gS h10 v0).1 = 11 then (M_carries v0 v1 h10).bind (fun h11 => if (gS h11 v0).1 = 11 then some ((gI h11 v0 1), h11) else none ) else none else none else none else none else none else none else none else none else none else none else none else none else none else none else none else none else none else none else none else none else none else none else none else none else none)
  else
    (some ((-1), r1.2) ) )) :=
  (ax_entI (N := 275) (C := r_275) (by decide) rfl (Nat.le_of_ble_eq_true rfl)).trans rfl
/-- 276 BlackSunModel.back(I)I -/
noncomputable def M_back (v0 : Nat) (v1 : Int32) (h : ax_H) : Option (Int32 × ax_H) := (ax_EE 276).2.1 [.ref v0, .int v1] h
set_option maxRecDepth 100000 in
set_option maxHeartbeats 4000000 in
theorem M_back_eq (v0 : Nat) (v1 : Int32) (h : ax_H) : M_back v0 v1 h =
  ((M_in (Int32.toInt64 v1) 0 3 h).bind (fun r1 => if decide (r1.1 = 0) then
    (some ((-1), r1.2) )
  else
    (if (gS r1.2 v0).1 = 11 then if ax_in r1.2 (gR r1.2 v0 72) 19 v1 then if decide (¬ (gI r1.2 (gR r1.2 v0 72) (Int32.toNatClampNeg v1)) = 0) then
      (if (gS r1.2 v0).1 = 11 then let h2 := pI r1.2 v0 74 1; if (gS h2 v0).1 = 11 then (M_carries v0 v1 h2).bind (fun h3 => if (gS h3 v0).1 = 11 then if ax_in h3 (gR h3 v0 71) 16 0 then if (gS h3 v0).1 = 11 then let h4 := pI h3 v0 1 (gI h3 (gR h3 v0 71) (Int32.toNatClampNeg 0)); if (gS h4 v0).1 = 11 then if ax_in h4 (gR h4 v0 71) 16 1 then if (gS h4 v0).1 = 11 then let h5 := pI h4 v0 2 (gI h4 (gR h4 v0 71) (Int32.toNatClampNeg 1)); if (gS h5 v0).1 = 11 then if ax_in h5 (gR h5 v0 71) 16 2 then if (gS h5 v0).1 = 11 then let h6 := pI h5 v0 3 (gI h5 (gR h5 v0 71) (Int32.toNatClampNeg 2)); if (gS h6 v0).1 = 11 then if ax_in h6 (gR h6 v0 71) 16 3 then if (gS h6 v0).1 = 11 then let h7 := pI h6 v0 4 (gI h6 (gR h6 v0 71) (Int32.toNatClampNeg 3)); if (gS h7 v0).1 = 11 then if ax_in h7 (gR h7 v0 71) 16 4 then if (gS h7 v0).1 = 11 then let h8 := pI h7 v0 20 (gI h7 (gR h7 v0 71) (Int32.toNatClampNeg 4)); if (gS h8 v0).1 = 11 then if ax_in h8 (gR h8 v0 71) 16 5 then if (gS h8 v0).1 = 11 then let h9 := pI h8 v0 59 (gI h8 (gR h8 v0 71) (Int32.toNatClampNeg 5)); if (gS h9 v0).1 = 11 then if ax_in h9 (gR h9 v0 71) 16 6 then if (gS h9 v0).1 = 11 then let h10 := pI h9 v0 63 (gI h9 (gR h9 v0 71) (Int32.toNatClampNeg 6)); if (gS h10 v0).1 = 11 then some ((gI h10 v0 1), h10) else none else none else none else none else none else none else none else none else none else none else none else none else none else none else none else none else none else none else none else none else none else none ) else none else none)
    else
      (some ((-1), r1.2) ) else none else none) )) :=
  (ax_entI (N := 276) (C := r_276) (by decide) rfl (Nat.le_of_ble_eq_true rfl)).trans rfl
/-- 277 BlackSunModel.count(I)I -/
noncomputable def M_count (v0 : Nat) (v1 : Int32) (h : ax_H) : Option (Int32 × ax_H) := (ax_EE 277).2.1 [.ref v0, .int v1] h
set_option maxRecDepth 100000 in
set_option maxHeartbeats 4000000 in
theorem M_count_eq (v0 : Nat) (v1 : Int32) (h : ax_H) : M_count v0 v1 h =
  (if v1 = 0 then
    (if (gS h v0).1 = 11 then some ((gI h v0 1), h) else none)
  else if v1 = 1 then
    (if (gS h v0).1 = 11 then some ((gI h v0 2), h) else none)
  else if v1 = 2 then
    (if (gS h v0).1 = 11 then some ((gI h v0 3), h) else none)
  else if v1 = 3 then
    (if (gS h v0).1 = 11 then some ((gI h v0 4), h) else none)
  else if v1 = 4 then
    (if (gS h v0).1 = 11 then some ((gI h v0 20), h) else none)
  else if v1 = 5 then
    (if (gS h v0).1 = 11 then some ((gI h v0 59), h) else none)
  else if v1 = 6 then
    (if (gS h v0).1 = 11 then some ((gI h v0 63), h) else none)
  else if v1 = 7 then
    (if (gS h v0).1 = 11 then some ((gI h v0 17), h) else none)
  else 
    (some ((-1), h) ) ) :=
  (ax_entI (N := 277) (C := r_277) (by decide) rfl (Nat.le_of_ble_eq_true rfl)).trans rfl
/-- 278 BlackSunLaw.law([I)Z -/
noncomputable def Law_law (v0 : Nat) (h : ax_H) : Option (Int32 × ax_H) := (ax_EE 278).2.1 [.ref v0] h
noncomputable def Law_law_18  (v0 : Nat) (v1 : Nat) (v2 : Nat) (v3 : Int32) (h : ax_H) : Option (Int32 × ax_H) := ax_S ax_ρI (ax_env ax_EE 278) ax_nn r_278 r_278_18 [(0, .ref v0), (1, .ref v1), (2, .ref v2), (3, .int v3)] [] h
noncomputable def Law_law_1363 (k0 : Int32) (k1 : Int32) (k2 : Int32) (k3 : Nat) (v0 : Nat) (v1 : Nat) (v2 : Nat) (v3 : Int32) (h : ax_H) : Option (Int32 × ax_H) := ax_S ax_ρI (ax_env ax_EE 278) ax_nn r_278 r_278_1363 [(0, .ref v0), (1, .ref v1), (2, .ref v2), (3, .int v3)] [.int k0, .int k1, .int k2, .ref k3] h
