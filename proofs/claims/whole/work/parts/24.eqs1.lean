/-! the methods' equations, printed by wip/gen/eqs.py -/
/-- 59 BlackSun$Reader.readWay()LBlackSun$Way; -/
noncomputable def Rd_readWay (v0 : Nat) (h : ax_H) : Option (Nat × ax_H) := (ax_EE 59).2.2.2 [.ref v0] h
noncomputable def Rd_readWay_6  (v0 : Nat) (v1 : Int32) (h : ax_H) : Option (Nat × ax_H) := ax_S ax_ρR (ax_env ax_EE 59) ax_nn r_59 r_59_6 [(0, .ref v0), (1, .int v1)] [] h
set_option maxRecDepth 100000 in
set_option maxHeartbeats 4000000 in
theorem Rd_readWay_eq (v0 : Nat) (h : ax_H) : Rd_readWay v0 h =
  (if (gS h v0).1 = 6 then (Rd_forget v0 h).bind (fun h1 => Rd_readWay_6 v0 0 h1 ) else none) :=
  (ax_entR (N := 59) (C := r_59) (by decide) rfl (Nat.le_of_ble_eq_true rfl)).trans rfl
set_option maxRecDepth 100000 in
set_option maxHeartbeats 4000000 in
theorem Rd_readWay_6_eq  (v0 : Nat) (v1 : Int32) (h : ax_H) : Rd_readWay_6  v0 v1 h =
  (if decide ((12 : Int32) < v1) then
    (some (0, h) )
  else
    (if (gS h v0).1 = 6 then (Rd_readClause v0 v1 h).bind (fun r1 => if decide (¬ r1.1 = 0) then
      (if (gS r1.2 v0).1 = 6 then (Rd_next v0 r1.2).bind (fun r2 => if decide (¬ r2.1 = (-1)) then
        (if decide (r2.1 = 59) then
          (if (gS r2.2 v0).1 = 6 then if (gS r2.2 v0).1 = 6 then let h3 := pI r2.2 v0 3 ((gI r2.2 v0 3) + 1); Rd_readWay_6 v0 (v1 + 1) h3 else none else none)
        else
          (if (gS r2.2 v0).1 = 6 then if (gS r2.2 v0).1 = 6 then (Rd_fail v0 (gI r2.2 v0 3) 0 r2.2).bind (fun r4 => some (0, r4.2) ) else none else none) )
      else
        (let h5 := nW r2.2 5 0 4; if (gS h5 v0).1 = 6 then if (gS h5 (gR h5 v0 13)).1 = 16 ∧ (gS h5 (gR h5 v0 13)).2 ≤ 100000 ∧ (([.ref (gN r2.2), .ref (gN r2.2)] : List Value).map (fun v => v.category)).sum ≤ 8 then let h6 := rI (nW h5 16 (gS h5 (gR h5 v0 13)).2 (gS h5 (gR h5 v0 13)).2) (gN h5) (gI h5 (gR h5 v0 13)); if (gS h6 (gN h5)).1 = 16 then if (gS h6 v0).1 = 6 then if (gS h6 (gR h6 v0 14)).1 = 16 ∧ (gS h6 (gR h6 v0 14)).2 ≤ 100000 ∧ (([.ref (gN h5), .ref (gN r2.2), .ref (gN r2.2)] : List Value).map (fun v => v.category)).sum ≤ 8 then let h7 := rI (nW h6 16 (gS h6 (gR h6 v0 14)).2 (gS h6 (gR h6 v0 14)).2) (gN h6) (gI h6 (gR h6 v0 14)); if (gS h7 (gN h6)).1 = 16 then if (gS h7 v0).1 = 6 then if (gS h7 v0).1 = 6 then (Rd_copyOfSteps v0 h7).bind (fun r8 => if (gS r8.2 (gN r2.2)).1 = 5 then (Wy_init (gN r2.2) (gN h5) (gN h6) (gI h7 v0 6) r8.1 r8.2).bind (fun h9 => some ((gN r2.2), h9) ) else none ) else none else none else none else none else none else none else none else none) ) else none)
    else
      (some (0, r1.2) ) ) else none) ) :=
  (ax_S_eq _ _ _ _).trans rfl
/-- 60 BlackSun.way()I -/
noncomputable def B_way (v0 : Nat) (h : ax_H) : Option (Int32 × ax_H) := (ax_EE 60).2.1 [.ref v0] h
set_option maxRecDepth 100000 in
set_option maxHeartbeats 4000000 in
theorem B_way_eq (v0 : Nat) (h : ax_H) : B_way v0 h =
  (if (gS h v0).1 = 0 then if (gS h (gR h v0 0)).1 = 1 then if decide ((gI h (gR h v0 0) 4) < 10) then
    (if (gS h v0).1 = 0 then if (gS h (gR h v0 2)).1 = 6 then (Rd_readWay (gR h v0 2) h).bind (fun r1 => if (gS r1.2 v0).1 = 0 then if (gS r1.2 (gR r1.2 v0 2)).1 = 6 then let h2 := pI r1.2 (gR r1.2 v0 2) 0 0; if r1.1 = 0 then
      (if (gS h2 v0).1 = 0 then if (gS h2 (gR h2 v0 2)).1 = 6 then some ((((-2) : Int32) - (gI h2 (gR h2 v0 2) 1)), h2) else none else none)
    else
      (if (gS h2 v0).1 = 0 then if (gS h2 (gR h2 v0 0)).1 = 1 then if (gS h2 v0).1 = 0 then if (gS h2 (gR h2 v0 0)).1 = 1 then if ax_in h2 (gR h2 (gR h2 v0 0) 5) 20 (gI h2 (gR h2 v0 0) 4) then if r1.1 = 0 ∨ (gS h2 r1.1).1 = 5 then let h3 := pR h2 (gR h2 (gR h2 v0 0) 5) (Int32.toNatClampNeg (gI h2 (gR h2 v0 0) 4)) r1.1; if (gS h3 v0).1 = 0 then if (gS h3 (gR h3 v0 0)).1 = 1 then if (gS h3 (gR h3 v0 0)).1 = 1 then let h4 := pI h3 (gR h3 v0 0) 4 ((gI h3 (gR h3 v0 0) 4) + 1); if (gS h4 v0).1 = 0 then if (gS h4 (gR h4 v0 0)).1 = 1 then some (((gI h4 (gR h4 v0 0) 4) - 1), h4) else none else none else none else none else none else none else none else none else none else none else none) else none else none ) else none else none)
  else
    (some ((-1), h) ) else none else none) :=
  (ax_entI (N := 60) (C := r_60) (by decide) rfl (Nat.le_of_ble_eq_true rfl)).trans rfl
/-- 61 BlackSun$Book.wayAt(I)LBlackSun$Way; -/
noncomputable def Bk_wayAt (v0 : Nat) (v1 : Int32) (h : ax_H) : Option (Nat × ax_H) := (ax_EE 61).2.2.2 [.ref v0, .int v1] h
set_option maxRecDepth 100000 in
set_option maxHeartbeats 4000000 in
theorem Bk_wayAt_eq (v0 : Nat) (v1 : Int32) (h : ax_H) : Bk_wayAt v0 v1 h =
  (if (gS h v0).1 = 1 then (B_isWithin v1 0 ((gI h v0 4) - 1) h).bind (fun r1 => if decide (r1.1 = 0) then
    (some (0, r1.2) )
  else
    (if (gS r1.2 v0).1 = 1 then if ax_in r1.2 (gR r1.2 v0 5) 20 v1 then some ((gR r1.2 (gR r1.2 v0 5) (Int32.toNatClampNeg v1)), r1.2) else none else none) ) else none) :=
  (ax_entR (N := 61) (C := r_61) (by decide) rfl (Nat.le_of_ble_eq_true rfl)).trans rfl
/-- 62 BlackSun.ways(II)I -/
noncomputable def B_ways (v0 : Nat) (v1 : Int32) (v2 : Int32) (h : ax_H) : Option (Int32 × ax_H) := (ax_EE 62).2.1 [.ref v0, .int v1, .int v2] h
set_option maxRecDepth 100000 in
set_option maxHeartbeats 4000000 in
theorem B_ways_eq (v0 : Nat) (v1 : Int32) (v2 : Int32) (h : ax_H) : B_ways v0 v1 v2 h =
  (if (gS h v0).1 = 0 then if (gS h (gR h v0 0)).1 = 1 then (Bk_wayAt (gR h v0 0) v1 h).bind (fun r1 => if r1.1 = 0 then
    (some ((-1), r1.2) )
  else
    ((B_isTerm v2 r1.2).bind (fun r2 => if decide (¬ r2.1 = 0) then
      (if (gS r2.2 r1.1).1 = 5 then if ax_in r2.2 (gR r2.2 r1.1 0) 16 v2 then some ((gI r2.2 (gR r2.2 r1.1 0) (Int32.toNatClampNeg v2)), r2.2) else none else none)
    else
      (some ((-1), r2.2) ) )) ) else none else none) :=
  (ax_entI (N := 62) (C := r_62) (by decide) rfl (Nat.le_of_ble_eq_true rfl)).trans rfl
/-- 63 BlackSun$Book.kindOf(I)I -/
noncomputable def Bk_kindOf (v0 : Nat) (v1 : Int32) (h : ax_H) : Option (Int32 × ax_H) := (ax_EE 63).2.1 [.ref v0, .int v1] h
set_option maxRecDepth 100000 in
set_option maxHeartbeats 4000000 in
theorem Bk_kindOf_eq (v0 : Nat) (v1 : Int32) (h : ax_H) : Bk_kindOf v0 v1 h =
  (if (gS h v0).1 = 1 then if (gS h (gR h v0 2)).1 = 3 then if (gS h v0).1 = 1 then if (gS h (gR h v0 3)).1 = 4 then if ax_in h (gR h (gR h v0 3) 1) 16 v1 then if ax_in h (gR h (gR h v0 2) 2) 16 (gI h (gR h (gR h v0 3) 1) (Int32.toNatClampNeg v1)) then some ((gI h (gR h (gR h v0 2) 2) (Int32.toNatClampNeg (gI h (gR h (gR h v0 3) 1) (Int32.toNatClampNeg v1)))), h) else none else none else none else none else none else none) :=
  (ax_entI (N := 63) (C := r_63) (by decide) rfl (Nat.le_of_ble_eq_true rfl)).trans rfl
/-- 64 BlackSun$Way.isReading(I)Z -/
noncomputable def Wy_isReading (v0 : Nat) (v1 : Int32) (h : ax_H) : Option (Int32 × ax_H) := (ax_EE 64).2.1 [.ref v0, .int v1] h
set_option maxRecDepth 100000 in
set_option maxHeartbeats 4000000 in
theorem Wy_isReading_eq (v0 : Nat) (v1 : Int32) (h : ax_H) : Wy_isReading v0 v1 h =
  (if (gS h v0).1 = 5 then if decide ((gI h v0 2) = (-1)) then
    (some (1, h) )
  else
    (if (gS h v0).1 = 5 then if decide (¬ (gI h v0 2) = v1) then
      (some (0, h) )
    else
      (some (1, h) ) else none) else none) :=
  (ax_entI (N := 64) (C := r_64) (by decide) rfl (Nat.le_of_ble_eq_true rfl)).trans rfl
/-- 65 BlackSun$Book.factOf(II)I -/
noncomputable def Bk_factOf (v0 : Nat) (v1 : Int32) (v2 : Int32) (h : ax_H) : Option (Int32 × ax_H) := (ax_EE 65).2.1 [.ref v0, .int v1, .int v2] h
set_option maxRecDepth 100000 in
set_option maxHeartbeats 4000000 in
theorem Bk_factOf_eq (v0 : Nat) (v1 : Int32) (v2 : Int32) (h : ax_H) : Bk_factOf v0 v1 v2 h =
  (if (gS h v0).1 = 1 then if (gS h (gR h v0 3)).1 = 4 then if ax_in h (gR h (gR h v0 3) 1) 16 v2 then let x1 := (gI h (gR h (gR h v0 3) 1) (Int32.toNatClampNeg v2)); if (gS h v0).1 = 1 then if (gS h (gR h v0 3)).1 = 4 then if ax_in h (gR h (gR h v0 3) 2) 16 v2 then let x2 := (gI h (gR h (gR h v0 3) 2) (Int32.toNatClampNeg v2)); if v1 = 0 then
    (some (x1, h) )
  else if v1 = 1 then
    (if (gS h v0).1 = 1 then if (gS h (gR h v0 2)).1 = 3 then if ax_in h (gR h (gR h v0 2) 1) 16 x1 then some ((gI h (gR h (gR h v0 2) 1) (Int32.toNatClampNeg x1)), h) else none else none else none)
  else if v1 = 2 then
    (if (gS h v0).1 = 1 then if (gS h (gR h v0 2)).1 = 3 then if ax_in h (gR h (gR h v0 2) 2) 16 x1 then some ((gI h (gR h (gR h v0 2) 2) (Int32.toNatClampNeg x1)), h) else none else none else none)
  else if v1 = 3 then
    (if (gS h v0).1 = 1 then if (gS h (gR h v0 2)).1 = 3 then if ax_in h (gR h (gR h v0 2) 3) 16 x1 then some ((gI h (gR h (gR h v0 2) 3) (Int32.toNatClampNeg x1)), h) else none else none else none)
  else if v1 = 4 then
    (some (x2, h) )
  else if v1 = 5 then
    (if (gS h v0).1 = 1 then if (gS h (gR h v0 1)).1 = 2 then if ax_in h (gR h (gR h v0 1) 3) 16 x2 then some ((gI h (gR h (gR h v0 1) 3) (Int32.toNatClampNeg x2)), h) else none else none else none)
  else if v1 = 6 then
    (if (gS h v0).1 = 1 then if (gS h (gR h v0 1)).1 = 2 then (St_far (gR h v0 1) x2 h).bind (fun r3 => some (r3.1, r3.2) ) else none else none)
  else if v1 = 7 then
    (if (gS h v0).1 = 1 then if (gS h (gR h v0 1)).1 = 2 then if ax_in h (gR h (gR h v0 1) 1) 16 x2 then some ((gI h (gR h (gR h v0 1) 1) (Int32.toNatClampNeg x2)), h) else none else none else none)
  else if v1 = 8 then
    (if (gS h v0).1 = 1 then if (gS h (gR h v0 1)).1 = 2 then if ax_in h (gR h (gR h v0 1) 2) 16 x2 then some ((gI h (gR h (gR h v0 1) 2) (Int32.toNatClampNeg x2)), h) else none else none else none)
  else if v1 = 9 then
    (if (gS h v0).1 = 1 then if (gS h (gR h v0 3)).1 = 4 then if ax_in h (gR h (gR h v0 3) 4) 16 v2 then some ((gI h (gR h (gR h v0 3) 4) (Int32.toNatClampNeg v2)), h) else none else none else none)
  else if v1 = 10 then
    (if (gS h v0).1 = 1 then if (gS h (gR h v0 3)).1 = 4 then if ax_in h (gR h (gR h v0 3) 5) 16 v2 then some ((gI h (gR h (gR h v0 3) 5) (Int32.toNatClampNeg v2)), h) else none else none else none)
  else if v1 = 11 then
    (if (gS h v0).1 = 1 then if (gS h (gR h v0 3)).1 = 4 then if ax_in h (gR h (gR h v0 3) 6) 16 v2 then some ((gI h (gR h (gR h v0 3) 6) (Int32.toNatClampNeg v2)), h) else none else none else none)
  else 
    (if (gS h v0).1 = 1 then if (gS h (gR h v0 3)).1 = 4 then if ax_in h (gR h (gR h v0 3) 3) 16 v2 then some ((gI h (gR h (gR h v0 3) 3) (Int32.toNatClampNeg v2)), h) else none else none else none) else none else none else none else none else none else none) :=
  (ax_entI (N := 65) (C := r_65) (by decide) rfl (Nat.le_of_ble_eq_true rfl)).trans rfl
/-- 66 BlackSun$Way.combine(III)I -/
noncomputable def Wy_combine (v0 : Int32) (v1 : Int32) (v2 : Int32) (h : ax_H) : Option (Int32 × ax_H) := (ax_EE 66).2.1 [.int v0, .int v1, .int v2] h
set_option maxRecDepth 100000 in
set_option maxHeartbeats 4000000 in
theorem Wy_combine_eq (v0 : Int32) (v1 : Int32) (v2 : Int32) (h : ax_H) : Wy_combine v0 v1 v2 h =
  (if v0 = 2 then
    (some ((v1 + v2), h) )
  else if v0 = 3 then
    (some ((v1 - v2), h) )
  else if v0 = 4 then
    (if decide (v2 ≤ v1) then
      (some (0, h) )
    else
      (some (1, h) ) )
  else if v0 = 5 then
    (if decide (v2 < v1) then
      (some (0, h) )
    else
      (some (1, h) ) )
  else if v0 = 6 then
    (if decide (¬ v1 = v2) then
      (some (0, h) )
    else
      (some (1, h) ) )
  else if v0 = 7 then
    (if decide (v1 < v2) then
      (some (0, h) )
    else
      (some (1, h) ) )
  else if v0 = 8 then
    (if decide (v1 ≤ v2) then
      (some (0, h) )
    else
      (some (1, h) ) )
  else if v0 = 9 then
    (some ((v1 ||| v2), h) )
  else if v0 = 10 then
    (some ((v1 &&& v2), h) )
  else 
    (some ((v1 ||| v2), h) ) ) :=
  (ax_entI (N := 66) (C := r_66) (by decide) rfl (Nat.le_of_ble_eq_true rfl)).trans rfl
/-- 67 BlackSun$Way.isLeaving(LBlackSun$Book;I[I)Z -/
noncomputable def Wy_isLeaving (v0 : Nat) (v1 : Nat) (v2 : Int32) (v3 : Nat) (h : ax_H) : Option (Int32 × ax_H) := (ax_EE 67).2.1 [.ref v0, .ref v1, .int v2, .ref v3] h
noncomputable def Wy_isLeaving_6  (v0 : Nat) (v1 : Nat) (v2 : Int32) (v3 : Nat) (v4 : Int32) (v5 : Int32) (h : ax_H) : Option (Int32 × ax_H) := ax_S ax_ρI (ax_env ax_EE 67) ax_nn r_67 r_67_6 [(0, .ref v0), (1, .ref v1), (2, .int v2), (3, .ref v3), (4, .int v4), (5, .int v5)] [] h
noncomputable def Wy_isLeaving_39  (v0 : Nat) (v1 : Nat) (v2 : Int32) (v3 : Nat) (v4 : Int32) (v5 : Int32) (v6 : Int32) (h : ax_H) : Option (Int32 × ax_H) := ax_S ax_ρI (ax_env ax_EE 67) ax_nn r_67 r_67_39 [(0, .ref v0), (1, .ref v1), (2, .int v2), (3, .ref v3), (4, .int v4), (5, .int v5), (6, .int v6)] [] h
set_option maxRecDepth 100000 in
set_option maxHeartbeats 4000000 in
theorem Wy_isLeaving_eq (v0 : Nat) (v1 : Nat) (v2 : Int32) (v3 : Nat) (h : ax_H) : Wy_isLeaving v0 v1 v2 v3 h =
  (Wy_isLeaving_6 v0 v1 v2 v3 0 0 h ) :=
  (ax_entI (N := 67) (C := r_67) (by decide) rfl (Nat.le_of_ble_eq_true rfl)).trans rfl
set_option maxRecDepth 100000 in
set_option maxHeartbeats 4000000 in
theorem Wy_isLeaving_6_eq  (v0 : Nat) (v1 : Nat) (v2 : Int32) (v3 : Nat) (v4 : Int32) (v5 : Int32) (h : ax_H) : Wy_isLeaving_6  v0 v1 v2 v3 v4 v5 h =
  (if (gS h v0).1 = 5 then if (gS h (gR h v0 3)).1 = 16 then if decide ((nI (gS h (gR h v0 3)).2) ≤ v5) then
    (if decide (¬ v4 = 1) then
      (some (0, h) )
    else
      (if ax_in h v3 16 0 then if decide (¬ (gI h v3 (Int32.toNatClampNeg 0)) = 1) then
        (some (0, h) )
      else
        (some (1, h) ) else none) )
  else
    (if (gS h v0).1 = 5 then if ax_in h (gR h v0 3) 16 v5 then let x1 := ((gI h (gR h v0 3) (Int32.toNatClampNeg v5)) &&& 15); if decide (x1 = 0) then
      (Wy_isLeaving_39 v0 v1 v2 v3 v4 v5 x1 h )
    else
      (if decide (¬ x1 = 1) then
        (if decide (¬ x1 = 9) then
          (if decide ((2 : Int32) ≤ v4) then
            (if ax_in h v3 16 ((v4 + (-1)) - 1) then if ax_in h v3 16 (v4 + (-1)) then (Wy_combine x1 (gI h v3 (Int32.toNatClampNeg ((v4 + (-1)) - 1))) (gI h v3 (Int32.toNatClampNeg (v4 + (-1)))) h).bind (fun r2 => if ax_in r2.2 v3 16 ((v4 + (-1)) - 1) then let h3 := pI r2.2 v3 (Int32.toNatClampNeg ((v4 + (-1)) - 1)) r2.1; Wy_isLeaving_6 v0 v1 v2 v3 (v4 + (-1)) (v5 + 1) h3 else none ) else none else none)
          else
            (some (0, h) ) )
        else
          (if decide ((1 : Int32) ≤ v4) then
            (if ax_in h v3 16 (v4 - 1) then if ax_in h v3 16 (v4 - 1) then let h4 := pI h v3 (Int32.toNatClampNeg (v4 - 1)) ((1 : Int32) - (gI h v3 (Int32.toNatClampNeg (v4 - 1)))); Wy_isLeaving_6 v0 v1 v2 v3 v4 (v5 + 1) h4 else none else none)
          else
            (some (0, h) ) ) )
      else
        (Wy_isLeaving_39 v0 v1 v2 v3 v4 v5 x1 h ) ) else none else none) else none else none) :=
  (ax_S_eq _ _ _ _).trans rfl
set_option maxRecDepth 100000 in
set_option maxHeartbeats 4000000 in
theorem Wy_isLeaving_39_eq  (v0 : Nat) (v1 : Nat) (v2 : Int32) (v3 : Nat) (v4 : Int32) (v5 : Int32) (v6 : Int32) (h : ax_H) : Wy_isLeaving_39  v0 v1 v2 v3 v4 v5 v6 h =
  (if (gS h v3).1 = 16 then if decide (v4 < (nI (gS h v3).2)) then
    (if (gS h v0).1 = 5 then if ax_in h (gR h v0 3) 16 v5 then let x1 := ((gI h (gR h v0 3) (Int32.toNatClampNeg v5)) >>> (4 &&& 31)); if decide (¬ v6 = 0) then
      (if (gS h v1).1 = 1 then (Bk_factOf v1 x1 v2 h).bind (fun r2 => if ax_in r2.2 v3 16 v4 then let h3 := pI r2.2 v3 (Int32.toNatClampNeg v4) r2.1; Wy_isLeaving_6 v0 v1 v2 v3 (v4 + 1) (v5 + 1) h3 else none ) else none)
    else
      (if ax_in h v3 16 v4 then let h4 := pI h v3 (Int32.toNatClampNeg v4) x1; Wy_isLeaving_6 v0 v1 v2 v3 (v4 + 1) (v5 + 1) h4 else none) else none else none)
  else
    (some (0, h) ) else none) :=
  (ax_S_eq _ _ _ _).trans rfl
/-- 68 BlackSun$Fit.take(LBlackSun$Book;LBlackSun$Way;I)V -/
noncomputable def Ft_take (v0 : Nat) (v1 : Nat) (v2 : Nat) (v3 : Int32) (h : ax_H) : Option (ax_H) := (ax_EE 68).1 [.ref v0, .ref v1, .ref v2, .int v3] h
noncomputable def Ft_take_14  (v0 : Nat) (v1 : Nat) (v2 : Nat) (v3 : Int32) (v4 : Nat) (v5 : Int32) (h : ax_H) : Option (ax_H) := ax_S ax_ρV (ax_env ax_EE 68) ax_nn r_68 r_68_14 [(0, .ref v0), (1, .ref v1), (2, .ref v2), (3, .int v3), (4, .ref v4), (5, .int v5)] [] h
noncomputable def Ft_take_65 (k0 : Int32) (v0 : Nat) (v1 : Nat) (v2 : Nat) (v3 : Int32) (v4 : Nat) (v5 : Int32) (h : ax_H) : Option (ax_H) := ax_S ax_ρV (ax_env ax_EE 68) ax_nn r_68 r_68_65 [(0, .ref v0), (1, .ref v1), (2, .ref v2), (3, .int v3), (4, .ref v4), (5, .int v5)] [.int k0] h
set_option maxRecDepth 100000 in
set_option maxHeartbeats 4000000 in
theorem Ft_take_eq (v0 : Nat) (v1 : Nat) (v2 : Nat) (v3 : Int32) (h : ax_H) : Ft_take v0 v1 v2 v3 h =
  (if (gS h v1).1 = 1 then if (gS h v0).1 = 7 then let h1 := pI h v0 0 0; Ft_take_14 v0 v1 v2 v3 (gR h v1 3) 0 h1 else none else none) :=
  (ax_entV (N := 68) (C := r_68) (by decide) rfl (Nat.le_of_ble_eq_true rfl)).trans rfl
set_option maxRecDepth 100000 in
set_option maxHeartbeats 4000000 in
theorem Ft_take_14_eq  (v0 : Nat) (v1 : Nat) (v2 : Nat) (v3 : Int32) (v4 : Nat) (v5 : Int32) (h : ax_H) : Ft_take_14  v0 v1 v2 v3 v4 v5 h =
  (if (gS h v4).1 = 4 then if decide ((gI h v4 0) ≤ v5) then
    (some h )
  else
    (if (gS h v4).1 = 4 then (Im_isKnown v4 v5 v3 h).bind (fun r1 => if decide (r1.1 = 0) then
      (Ft_take_65 0 v0 v1 v2 v3 v4 v5 r1.2 )
    else
      (if (gS r1.2 v1).1 = 1 then (Bk_kindOf v1 v5 r1.2).bind (fun r2 => if decide (r2.1 = 2) then
        (Ft_take_65 0 v0 v1 v2 v3 v4 v5 r2.2 )
      else
        (if (gS r2.2 v4).1 = 4 then if ax_in r2.2 (gR r2.2 v4 3) 16 v5 then if (gS r2.2 v2).1 = 5 then (Wy_isReading v2 (gI r2.2 (gR r2.2 v4 3) (Int32.toNatClampNeg v5)) r2.2).bind (fun r3 => if decide (r3.1 = 0) then
          (Ft_take_65 0 v0 v1 v2 v3 v4 v5 r3.2 )
        else
          (Ft_take_65 1 v0 v1 v2 v3 v4 v5 r3.2 ) ) else none else none else none) ) else none) ) else none) else none) :=
  (ax_S_eq _ _ _ _).trans rfl
set_option maxRecDepth 100000 in
set_option maxHeartbeats 4000000 in
theorem Ft_take_65_eq (k0 : Int32) (v0 : Nat) (v1 : Nat) (v2 : Nat) (v3 : Int32) (v4 : Nat) (v5 : Int32) (h : ax_H) : Ft_take_65 k0 v0 v1 v2 v3 v4 v5 h =
  (if decide (k0 = 0) then
    (Ft_take_14 v0 v1 v2 v3 v4 (v5 + 1) h )
  else
    (if (gS h v0).1 = 7 then if (gS h v2).1 = 5 then (Wy_isLeaving v2 v1 v5 (gR h v0 13) h).bind (fun r1 => if decide (¬ r1.1 = 0) then
      (Ft_take_14 v0 v1 v2 v3 v4 (v5 + 1) r1.2 )
    else
      (if (gS r1.2 v0).1 = 7 then if (gS r1.2 v0).1 = 7 then if ax_in r1.2 (gR r1.2 v0 1) 16 (gI r1.2 v0 0) then let h2 := pI r1.2 (gR r1.2 v0 1) (Int32.toNatClampNeg (gI r1.2 v0 0)) v5; if (gS h2 v0).1 = 7 then if (gS h2 v0).1 = 7 then let h3 := pI h2 v0 0 ((gI h2 v0 0) + 1); Ft_take_14 v0 v1 v2 v3 v4 (v5 + 1) h3 else none else none else none else none else none) ) else none else none) ) :=
  (ax_S_eq _ _ _ _).trans rfl
/-- 69 BlackSun.takes(III)I -/
noncomputable def B_takes (v0 : Nat) (v1 : Int32) (v2 : Int32) (v3 : Int32) (h : ax_H) : Option (Int32 × ax_H) := (ax_EE 69).2.1 [.ref v0, .int v1, .int v2, .int v3] h
set_option maxRecDepth 100000 in
set_option maxHeartbeats 4000000 in
theorem B_takes_eq (v0 : Nat) (v1 : Int32) (v2 : Int32) (v3 : Int32) (h : ax_H) : B_takes v0 v1 v2 v3 h =
  (if (gS h v0).1 = 0 then if (gS h (gR h v0 0)).1 = 1 then (Bk_wayAt (gR h v0 0) v1 h).bind (fun r1 => if r1.1 = 0 then
    (some ((-1), r1.2) )
  else
    ((B_isWeek v2 r1.2).bind (fun r2 => if decide (¬ r2.1 = 0) then
      (if (gS r2.2 v0).1 = 0 then if (gS r2.2 v0).1 = 0 then if (gS r2.2 (gR r2.2 v0 3)).1 = 7 then (Ft_take (gR r2.2 v0 3) (gR r2.2 v0 0) r1.1 v2 r2.2).bind (fun h3 => if decide (¬ v3 = (-1)) then
        (if (gS h3 v0).1 = 0 then if (gS h3 (gR h3 v0 3)).1 = 7 then (B_isWithin v3 0 ((gI h3 (gR h3 v0 3) 0) - 1) h3).bind (fun r4 => if decide (r4.1 = 0) then
          (some ((-1), r4.2) )
        else
          (if (gS r4.2 v0).1 = 0 then if (gS r4.2 (gR r4.2 v0 3)).1 = 7 then if ax_in r4.2 (gR r4.2 (gR r4.2 v0 3) 1) 16 v3 then some ((gI r4.2 (gR r4.2 (gR r4.2 v0 3) 1) (Int32.toNatClampNeg v3)), r4.2) else none else none else none) ) else none else none)
      else
        (if (gS h3 v0).1 = 0 then if (gS h3 (gR h3 v0 3)).1 = 7 then some ((gI h3 (gR h3 v0 3) 0), h3) else none else none) ) else none else none else none)
    else
      (some ((-1), r2.2) ) )) ) else none else none) :=
  (ax_entI (N := 69) (C := r_69) (by decide) rfl (Nat.le_of_ble_eq_true rfl)).trans rfl
/-- 70 BlackSun$Book.termOf(III)I -/
noncomputable def Bk_termOf (v0 : Nat) (v1 : Int32) (v2 : Int32) (v3 : Int32) (h : ax_H) : Option (Int32 × ax_H) := (ax_EE 70).2.1 [.ref v0, .int v1, .int v2, .int v3] h
set_option maxRecDepth 100000 in
set_option maxHeartbeats 4000000 in
theorem Bk_termOf_eq (v0 : Nat) (v1 : Int32) (v2 : Int32) (v3 : Int32) (h : ax_H) : Bk_termOf v0 v1 v2 v3 h =
  (if decide (¬ v1 = 4) then
    (if (gS h v0).1 = 1 then if (gS h v0).1 = 1 then if (gS h (gR h v0 3)).1 = 4 then if ax_in h (gR h (gR h v0 3) 2) 16 v2 then if (gS h (gR h v0 1)).1 = 2 then (St_give (gR h v0 1) v1 (gI h (gR h (gR h v0 3) 2) (Int32.toNatClampNeg v2)) v3 h).bind (fun r1 => some (r1.1, r1.2) ) else none else none else none else none else none)
  else
    (if (gS h v0).1 = 1 then (Bk_kindOf v0 v2 h).bind (fun r2 => if decide (¬ r2.1 = 1) then
      (if (gS r2.2 v0).1 = 1 then if (gS r2.2 v0).1 = 1 then if (gS r2.2 (gR r2.2 v0 3)).1 = 4 then if ax_in r2.2 (gR r2.2 (gR r2.2 v0 3) 2) 16 v2 then if (gS r2.2 (gR r2.2 v0 1)).1 = 2 then (St_give (gR r2.2 v0 1) v1 (gI r2.2 (gR r2.2 (gR r2.2 v0 3) 2) (Int32.toNatClampNeg v2)) v3 r2.2).bind (fun r3 => some (r3.1, r3.2) ) else none else none else none else none else none)
    else
      (some (0, r2.2) ) ) else none) ) :=
  (ax_entI (N := 70) (C := r_70) (by decide) rfl (Nat.le_of_ble_eq_true rfl)).trans rfl
/-- 71 java/lang/Math.floorDiv(JJ)J -/
noncomputable def Jm_floorDiv (v0 : Int64) (v2 : Int64) (h : ax_H) : Option (Int64 × ax_H) := (ax_EE 71).2.2.1 [.long v0, .long v2] h
set_option maxRecDepth 100000 in
set_option maxHeartbeats 4000000 in
theorem Jm_floorDiv_eq (v0 : Int64) (v2 : Int64) (h : ax_H) : Jm_floorDiv v0 v2 h =
  (if v2 = 0 then none else if decide ((0 : Int32) ≤ (lg_cmp (v0 ^^^ v2) 0)) then
    (some ((v0 / v2), h) )
  else
    (if decide ((lg_cmp ((v0 / v2) * v2) v0) = 0) then
      (some ((v0 / v2), h) )
    else
      (some (((v0 / v2) - 1), h) ) ) ) :=
  (ax_entL (N := 71) (C := r_71) (by decide) rfl (Nat.le_of_ble_eq_true rfl)).trans rfl
/-- 72 BlackSun$Fit.put(IJJ)Z -/
noncomputable def Ft_put (v0 : Nat) (v1 : Int32) (v2 : Int64) (v4 : Int64) (h : ax_H) : Option (Int32 × ax_H) := (ax_EE 72).2.1 [.ref v0, .int v1, .long v2, .long v4] h
set_option maxRecDepth 100000 in
set_option maxHeartbeats 4000000 in
theorem Ft_put_eq (v0 : Nat) (v1 : Int32) (v2 : Int64) (v4 : Int64) (h : ax_H) : Ft_put v0 v1 v2 v4 h =
  (if decide ((0 : Int32) < (lg_cmp v4 0)) then
    ((Jm_floorDiv v2 v4 h).bind (fun r1 => if decide ((0 : Int32) < (lg_cmp r1.1 99999999)) then
      (some (0, r1.2) )
    else
      (if decide ((0 : Int32) ≤ (lg_cmp r1.1 (-99999999))) then
        (if v4 = 0 then none else let x2 := ((r1.1 * 1000) + (((v2 - (r1.1 * v4)) * 1000) / v4)); if decide ((0 : Int32) < (lg_cmp x2 99999999)) then
          (some (0, r1.2) )
        else
          (if decide ((0 : Int32) ≤ (lg_cmp x2 (-99999999))) then
            (if (gS r1.2 v0).1 = 7 then if ax_in r1.2 (gR r1.2 v0 2) 16 v1 then let h3 := pI r1.2 (gR r1.2 v0 2) (Int32.toNatClampNeg v1) (Int64.toInt32 x2); some (1, h3) else none else none)
          else
            (some (0, r1.2) ) ) )
      else
        (some (0, r1.2) ) ) ))
  else
    (some (0, h) ) ) :=
  (ax_entI (N := 72) (C := r_72) (by decide) rfl (Nat.le_of_ble_eq_true rfl)).trans rfl
/-- 73 BlackSun$Fit.settleCheck(LBlackSun$Book;LBlackSun$Way;II)Z -/
noncomputable def Ft_settleCheck (v0 : Nat) (v1 : Nat) (v2 : Nat) (v3 : Int32) (v4 : Int32) (h : ax_H) : Option (Int32 × ax_H) := (ax_EE 73).2.1 [.ref v0, .ref v1, .ref v2, .int v3, .int v4] h
noncomputable def Ft_settleCheck_15  (v0 : Nat) (v1 : Nat) (v2 : Nat) (v3 : Int32) (v4 : Int32) (v5 : Nat) (v6 : Int64) (v8 : Int64) (v10 : Int32) (h : ax_H) : Option (Int32 × ax_H) := ax_S ax_ρI (ax_env ax_EE 73) ax_nn r_73 r_73_15 [(0, .ref v0), (1, .ref v1), (2, .ref v2), (3, .int v3), (4, .int v4), (5, .ref v5), (6, .long v6), (8, .long v8), (10, .int v10)] [] h
set_option maxRecDepth 100000 in
set_option maxHeartbeats 4000000 in
theorem Ft_settleCheck_eq (v0 : Nat) (v1 : Nat) (v2 : Nat) (v3 : Int32) (v4 : Int32) (h : ax_H) : Ft_settleCheck v0 v1 v2 v3 v4 h =
  (if (gS h v1).1 = 1 then Ft_settleCheck_15 v0 v1 v2 v3 v4 (gR h v1 3) 0 0 0 h else none) :=
  (ax_entI (N := 73) (C := r_73) (by decide) rfl (Nat.le_of_ble_eq_true rfl)).trans rfl
set_option maxRecDepth 100000 in
set_option maxHeartbeats 4000000 in
theorem Ft_settleCheck_15_eq  (v0 : Nat) (v1 : Nat) (v2 : Nat) (v3 : Int32) (v4 : Int32) (v5 : Nat) (v6 : Int64) (v8 : Int64) (v10 : Int32) (h : ax_H) : Ft_settleCheck_15  v0 v1 v2 v3 v4 v5 v6 v8 v10 h =
  (if (gS h v5).1 = 4 then if decide ((gI h v5 0) ≤ v10) then
    (if (gS h v0).1 = 7 then (Ft_put v0 v4 v6 v8 h).bind (fun r1 => if r1.1 = 0 ∨ r1.1 = 1 then some (r1.1, r1.2) else none ) else none)
  else
    (if (gS h v5).1 = 4 then (Im_isKnown v5 v10 v3 h).bind (fun r2 => if decide (r2.1 = 0) then
      (Ft_settleCheck_15 v0 v1 v2 v3 v4 v5 v6 v8 (v10 + 1) r2.2 )
    else
      (if (gS r2.2 v1).1 = 1 then (Bk_kindOf v1 v10 r2.2).bind (fun r3 => if decide (¬ r3.1 = 2) then
        (Ft_settleCheck_15 v0 v1 v2 v3 v4 v5 v6 v8 (v10 + 1) r3.2 )
      else
        (if (gS r3.2 v5).1 = 4 then if ax_in r3.2 (gR r3.2 v5 3) 16 v10 then if (gS r3.2 v2).1 = 5 then (Wy_isReading v2 (gI r3.2 (gR r3.2 v5 3) (Int32.toNatClampNeg v10)) r3.2).bind (fun r4 => if decide (r4.1 = 0) then
          (Ft_settleCheck_15 v0 v1 v2 v3 v4 v5 v6 v8 (v10 + 1) r4.2 )
        else
          (if (gS r4.2 v1).1 = 1 then (Bk_termOf v1 v4 v10 0 r4.2).bind (fun r5 => if (gS r5.2 v1).1 = 1 then (Bk_termOf v1 v4 v10 1 r5.2).bind (fun r6 => if (gS r6.2 v5).1 = 4 then if ax_in r6.2 (gR r6.2 v5 4) 16 v10 then if (gS r6.2 v5).1 = 4 then if ax_in r6.2 (gR r6.2 v5 5) 16 v10 then let x7 := (v6 + (Int32.toInt64 ((r5.1 * (gI r6.2 (gR r6.2 v5 4) (Int32.toNatClampNeg v10))) + (r6.1 * (gI r6.2 (gR r6.2 v5 5) (Int32.toNatClampNeg v10)))))); let x8 := (v8 + (Int32.toInt64 ((r5.1 * r5.1) + (r6.1 * r6.1)))); Ft_settleCheck_15 v0 v1 v2 v3 v4 v5 x7 x8 (v10 + 1) r6.2 else none else none else none else none ) else none ) else none) ) else none else none else none) ) else none) ) else none) else none) :=
  (ax_S_eq _ _ _ _).trans rfl
/-- 74 BlackSun$Fit.settle(LBlackSun$Book;LBlackSun$Way;II)Z -/
noncomputable def Ft_settle (v0 : Nat) (v1 : Nat) (v2 : Nat) (v3 : Int32) (v4 : Int32) (h : ax_H) : Option (Int32 × ax_H) := (ax_EE 74).2.1 [.ref v0, .ref v1, .ref v2, .int v3, .int v4] h
noncomputable def Ft_settle_8  (v0 : Nat) (v1 : Nat) (v2 : Nat) (v3 : Int32) (v4 : Int32) (v5 : Int32) (h : ax_H) : Option (Int32 × ax_H) := ax_S ax_ρI (ax_env ax_EE 74) ax_nn r_74 r_74_8 [(0, .ref v0), (1, .ref v1), (2, .ref v2), (3, .int v3), (4, .int v4), (5, .int v5)] [] h
noncomputable def Ft_settle_32 (k0 : Int32) (v0 : Nat) (v1 : Nat) (v2 : Nat) (v3 : Int32) (v4 : Int32) (v5 : Int32) (h : ax_H) : Option (Int32 × ax_H) := ax_S ax_ρI (ax_env ax_EE 74) ax_nn r_74 r_74_32 [(0, .ref v0), (1, .ref v1), (2, .ref v2), (3, .int v3), (4, .int v4), (5, .int v5)] [.int k0] h
noncomputable def Ft_settle_75 (k0 : Int32) (k1 : Int32) (k2 : Nat) (v0 : Nat) (v1 : Nat) (v2 : Nat) (v3 : Int32) (v4 : Int32) (v5 : Int32) (v7 : Int32) (h : ax_H) : Option (Int32 × ax_H) := ax_S ax_ρI (ax_env ax_EE 74) ax_nn r_74 r_74_75 [(0, .ref v0), (1, .ref v1), (2, .ref v2), (3, .int v3), (4, .int v4), (5, .int v5), (7, .int v7)] [.int k0, .int k1, .ref k2] h
noncomputable def Ft_settle_111  (v0 : Nat) (v1 : Nat) (v2 : Nat) (v3 : Int32) (v4 : Int32) (v5 : Int32) (v7 : Int32) (h : ax_H) : Option (Int32 × ax_H) := ax_S ax_ρI (ax_env ax_EE 74) ax_nn r_74 r_74_111 [(0, .ref v0), (1, .ref v1), (2, .ref v2), (3, .int v3), (4, .int v4), (5, .int v5), (7, .int v7)] [] h
set_option maxRecDepth 100000 in
set_option maxHeartbeats 4000000 in
theorem Ft_settle_eq (v0 : Nat) (v1 : Nat) (v2 : Nat) (v3 : Int32) (v4 : Int32) (h : ax_H) : Ft_settle v0 v1 v2 v3 v4 h =
  (if (gS h v0).1 = 7 then let h1 := pI h v0 4 0; Ft_settle_8 v0 v1 v2 v3 v4 0 h1 else none) :=
  (ax_entI (N := 74) (C := r_74) (by decide) rfl (Nat.le_of_ble_eq_true rfl)).trans rfl
set_option maxRecDepth 100000 in
set_option maxHeartbeats 4000000 in
theorem Ft_settle_8_eq  (v0 : Nat) (v1 : Nat) (v2 : Nat) (v3 : Int32) (v4 : Int32) (v5 : Int32) (h : ax_H) : Ft_settle_8  v0 v1 v2 v3 v4 v5 h =
  (if decide ((6 : Int32) ≤ v5) then
    (some (1, h) )
  else
    (if decide (¬ v5 = 4) then
      (Ft_settle_32 0 v0 v1 v2 v3 v4 v5 h )
    else
      (if decide (v4 = (-1)) then
        (Ft_settle_32 0 v0 v1 v2 v3 v4 v5 h )
      else
        (Ft_settle_32 1 v0 v1 v2 v3 v4 v5 h ) ) ) ) :=
  (ax_S_eq _ _ _ _).trans rfl
set_option maxRecDepth 100000 in
set_option maxHeartbeats 4000000 in
theorem Ft_settle_32_eq (k0 : Int32) (v0 : Nat) (v1 : Nat) (v2 : Nat) (v3 : Int32) (v4 : Int32) (v5 : Int32) (h : ax_H) : Ft_settle_32 k0 v0 v1 v2 v3 v4 v5 h =
  (if decide (k0 = 0) then
    (if (gS h v2).1 = 5 then if ax_in h (gR h v2 0) 16 v5 then let x1 := (gI h (gR h v2 0) (Int32.toNatClampNeg v5)); if (gS h v0).1 = 7 then if decide (k0 = 0) then
      (if (gS h v2).1 = 5 then if ax_in h (gR h v2 1) 16 v5 then Ft_settle_75 (gI h (gR h v2 1) (Int32.toNatClampNeg v5)) v5 (gR h v0 2) v0 v1 v2 v3 v4 v5 x1 h else none else none)
    else
      (Ft_settle_75 v4 v5 (gR h v0 2) v0 v1 v2 v3 v4 v5 x1 h ) else none else none else none)
  else
    (if (gS h v0).1 = 7 then if decide (k0 = 0) then
      (if (gS h v2).1 = 5 then if ax_in h (gR h v2 1) 16 v5 then Ft_settle_75 (gI h (gR h v2 1) (Int32.toNatClampNeg v5)) v5 (gR h v0 2) v0 v1 v2 v3 v4 v5 2 h else none else none)
    else
      (Ft_settle_75 v4 v5 (gR h v0 2) v0 v1 v2 v3 v4 v5 2 h ) else none) ) :=
  (ax_S_eq _ _ _ _).trans rfl
set_option maxRecDepth 100000 in
set_option maxHeartbeats 4000000 in
theorem Ft_settle_75_eq (k0 : Int32) (k1 : Int32) (k2 : Nat) (v0 : Nat) (v1 : Nat) (v2 : Nat) (v3 : Int32) (v4 : Int32) (v5 : Int32) (v7 : Int32) (h : ax_H) : Ft_settle_75 k0 k1 k2 v0 v1 v2 v3 v4 v5 v7 h =
  (if ax_in h k2 16 k1 then let h1 := pI h k2 (Int32.toNatClampNeg k1) k0; if decide (¬ v7 = 1) then
    (Ft_settle_111 v0 v1 v2 v3 v4 v5 v7 h1 )
  else
    (if (gS h1 v0).1 = 7 then if decide ((3 : Int32) ≤ (gI h1 v0 4)) then
      (Ft_settle_111 v0 v1 v2 v3 v4 v5 v7 h1 )
    else
      (if (gS h1 v0).1 = 7 then if (gS h1 v0).1 = 7 then if ax_in h1 (gR h1 v0 5) 16 (gI h1 v0 4) then let h2 := pI h1 (gR h1 v0 5) (Int32.toNatClampNeg (gI h1 v0 4)) v5; if (gS h2 v0).1 = 7 then if (gS h2 v0).1 = 7 then let h3 := pI h2 v0 4 ((gI h2 v0 4) + 1); Ft_settle_111 v0 v1 v2 v3 v4 v5 v7 h3 else none else none else none else none else none) else none) else none) :=
  (ax_S_eq _ _ _ _).trans rfl
set_option maxRecDepth 100000 in
set_option maxHeartbeats 4000000 in
theorem Ft_settle_111_eq  (v0 : Nat) (v1 : Nat) (v2 : Nat) (v3 : Int32) (v4 : Int32) (v5 : Int32) (v7 : Int32) (h : ax_H) : Ft_settle_111  v0 v1 v2 v3 v4 v5 v7 h =
  (if decide (¬ v7 = 3) then
    (Ft_settle_8 v0 v1 v2 v3 v4 (v5 + 1) h )
  else
    (if (gS h v0).1 = 7 then (Ft_settleCheck v0 v1 v2 v3 v5 h).bind (fun r1 => if decide (¬ r1.1 = 0) then
      (Ft_settle_8 v0 v1 v2 v3 v4 (v5 + 1) r1.2 )
    else
      (some (0, r1.2) ) ) else none) ) :=
  (ax_S_eq _ _ _ _).trans rfl
/-- 75 BlackSun$Fit.settledOf(LBlackSun$Book;II)I -/
noncomputable def Ft_settledOf (v0 : Nat) (v1 : Nat) (v2 : Int32) (v3 : Int32) (h : ax_H) : Option (Int32 × ax_H) := (ax_EE 75).2.1 [.ref v0, .ref v1, .int v2, .int v3] h
noncomputable def Ft_settledOf_6  (v0 : Nat) (v1 : Nat) (v2 : Int32) (v3 : Int32) (v4 : Int32) (v5 : Int32) (h : ax_H) : Option (Int32 × ax_H) := ax_S ax_ρI (ax_env ax_EE 75) ax_nn r_75 r_75_6 [(0, .ref v0), (1, .ref v1), (2, .int v2), (3, .int v3), (4, .int v4), (5, .int v5)] [] h
set_option maxRecDepth 100000 in
set_option maxHeartbeats 4000000 in
theorem Ft_settledOf_eq (v0 : Nat) (v1 : Nat) (v2 : Int32) (v3 : Int32) (h : ax_H) : Ft_settledOf v0 v1 v2 v3 h =
  (Ft_settledOf_6 v0 v1 v2 v3 0 0 h ) :=
  (ax_entI (N := 75) (C := r_75) (by decide) rfl (Nat.le_of_ble_eq_true rfl)).trans rfl
set_option maxRecDepth 100000 in
set_option maxHeartbeats 4000000 in
theorem Ft_settledOf_6_eq  (v0 : Nat) (v1 : Nat) (v2 : Int32) (v3 : Int32) (v4 : Int32) (v5 : Int32) (h : ax_H) : Ft_settledOf_6  v0 v1 v2 v3 v4 v5 h =
  (if decide ((6 : Int32) ≤ v5) then
    (some (v4, h) )
  else
    (if (gS h v0).1 = 7 then if ax_in h (gR h v0 2) 16 v5 then if decide ((gI h (gR h v0 2) (Int32.toNatClampNeg v5)) = 0) then
      (Ft_settledOf_6 v0 v1 v2 v3 v4 (v5 + 1) h )
    else
      (if (gS h v0).1 = 7 then if ax_in h (gR h v0 2) 16 v5 then if (gS h v1).1 = 1 then (Bk_termOf v1 v5 v2 v3 h).bind (fun r1 => let x2 := ((gI h (gR h v0 2) (Int32.toNatClampNeg v5)) * r1.1); Ft_settledOf_6 v0 v1 v2 v3 (v4 + (x2 / 1000)) (v5 + 1) r1.2 ) else none else none else none) else none else none) ) :=
  (ax_S_eq _ _ _ _).trans rfl
/-- 76 BlackSun$Fit.makeRows(LBlackSun$Book;)V -/
noncomputable def Ft_makeRows (v0 : Nat) (v1 : Nat) (h : ax_H) : Option (ax_H) := (ax_EE 76).1 [.ref v0, .ref v1] h
noncomputable def Ft_makeRows_2  (v0 : Nat) (v1 : Nat) (v2 : Int32) (h : ax_H) : Option (ax_H) := ax_S ax_ρV (ax_env ax_EE 76) ax_nn r_76 r_76_2 [(0, .ref v0), (1, .ref v1), (2, .int v2)] [] h
noncomputable def Ft_makeRows_36  (v0 : Nat) (v1 : Nat) (v2 : Int32) (v3 : Int32) (v4 : Int32) (v5 : Int32) (h : ax_H) : Option (ax_H) := ax_S ax_ρV (ax_env ax_EE 76) ax_nn r_76 r_76_36 [(0, .ref v0), (1, .ref v1), (2, .int v2), (3, .int v3), (4, .int v4), (5, .int v5)] [] h
noncomputable def Ft_makeRows_53  (v0 : Nat) (v1 : Nat) (v2 : Int32) (v3 : Int32) (v4 : Int32) (v5 : Int32) (v6 : Int32) (v7 : Int32) (h : ax_H) : Option (ax_H) := ax_S ax_ρV (ax_env ax_EE 76) ax_nn r_76 r_76_53 [(0, .ref v0), (1, .ref v1), (2, .int v2), (3, .int v3), (4, .int v4), (5, .int v5), (6, .int v6), (7, .int v7)] [] h
set_option maxRecDepth 100000 in
set_option maxHeartbeats 4000000 in
theorem Ft_makeRows_eq (v0 : Nat) (v1 : Nat) (h : ax_H) : Ft_makeRows v0 v1 h =
  (Ft_makeRows_2 v0 v1 0 h ) :=
  (ax_entV (N := 76) (C := r_76) (by decide) rfl (Nat.le_of_ble_eq_true rfl)).trans rfl
set_option maxRecDepth 100000 in
set_option maxHeartbeats 4000000 in
theorem Ft_makeRows_2_eq  (v0 : Nat) (v1 : Nat) (v2 : Int32) (h : ax_H) : Ft_makeRows_2  v0 v1 v2 h =
  (if (gS h v0).1 = 7 then if decide ((gI h v0 0) ≤ v2) then
    (some h )
  else
    (if (gS h v0).1 = 7 then if ax_in h (gR h v0 1) 16 v2 then let x1 := (gI h (gR h v0 1) (Int32.toNatClampNeg v2)); if (gS h v1).1 = 1 then (Bk_kindOf v1 x1 h).bind (fun r2 => if decide (¬ r2.1 = 1) then
      (Ft_makeRows_36 v0 v1 v2 x1 0 0 r2.2 )
    else
      (Ft_makeRows_36 v0 v1 v2 x1 1 0 r2.2 ) ) else none else none else none) else none) :=
  (ax_S_eq _ _ _ _).trans rfl
set_option maxRecDepth 100000 in
set_option maxHeartbeats 4000000 in
theorem Ft_makeRows_36_eq  (v0 : Nat) (v1 : Nat) (v2 : Int32) (v3 : Int32) (v4 : Int32) (v5 : Int32) (h : ax_H) : Ft_makeRows_36  v0 v1 v2 v3 v4 v5 h =
  (if decide ((2 : Int32) ≤ v5) then
    (Ft_makeRows_2 v0 v1 (v2 + 1) h )
  else
    (Ft_makeRows_53 v0 v1 v2 v3 v4 v5 (((2 : Int32) * v2) + v5) 0 h ) ) :=
  (ax_S_eq _ _ _ _).trans rfl
set_option maxRecDepth 100000 in
set_option maxHeartbeats 4000000 in
theorem Ft_makeRows_53_eq  (v0 : Nat) (v1 : Nat) (v2 : Int32) (v3 : Int32) (v4 : Int32) (v5 : Int32) (v6 : Int32) (v7 : Int32) (h : ax_H) : Ft_makeRows_53  v0 v1 v2 v3 v4 v5 v6 v7 h =
  (if (gS h v0).1 = 7 then if decide ((gI h v0 4) ≤ v7) then
    (if (gS h v0).1 = 7 then if (gS h v0).1 = 7 then (Ft_settledOf v0 v1 v3 v5 h).bind (fun r1 => if ax_in r1.2 (gR h v0 7) 16 v6 then let h2 := pI r1.2 (gR h v0 7) (Int32.toNatClampNeg v6) r1.1; if (gS h2 v1).1 = 1 then if (gS h2 (gR h2 v1 3)).1 = 4 then (Im_measured (gR h2 v1 3) v3 v5 h2).bind (fun r3 => if (gS r3.2 v0).1 = 7 then if decide (v4 = 0) then
      (if (gS r3.2 v0).1 = 7 then if ax_in r3.2 (gR r3.2 v0 7) 16 v6 then if ax_in r3.2 (gR r3.2 v0 8) 16 v6 then let h4 := pI r3.2 (gR r3.2 v0 8) (Int32.toNatClampNeg v6) (r3.1 - (gI r3.2 (gR r3.2 v0 7) (Int32.toNatClampNeg v6))); Ft_makeRows_36 v0 v1 v2 v3 v4 (v5 + 1) h4 else none else none else none)
    else
      (if (gS r3.2 v0).1 = 7 then if ax_in r3.2 (gR r3.2 v0 7) 16 v6 then if ax_in r3.2 (gR r3.2 v0 8) 16 v6 then let h5 := pI r3.2 (gR r3.2 v0 8) (Int32.toNatClampNeg v6) ((-r3.1) - (gI r3.2 (gR r3.2 v0 7) (Int32.toNatClampNeg v6))); Ft_makeRows_36 v0 v1 v2 v3 v4 (v5 + 1) h5 else none else none else none) else none ) else none else none else none ) else none else none)
  else
    (if (gS h v0).1 = 7 then if (gS h v0).1 = 7 then if ax_in h (gR h v0 5) 16 v7 then if (gS h v1).1 = 1 then (Bk_termOf v1 (gI h (gR h v0 5) (Int32.toNatClampNeg v7)) v3 v5 h).bind (fun r6 => if ax_in r6.2 (gR h v0 6) 16 ((v6 * 3) + v7) then let h7 := pI r6.2 (gR h v0 6) (Int32.toNatClampNeg ((v6 * 3) + v7)) r6.1; Ft_makeRows_53 v0 v1 v2 v3 v4 v5 v6 (v7 + 1) h7 else none ) else none else none else none else none) else none) :=
  (ax_S_eq _ _ _ _).trans rfl
/-- 77 BlackSun$Fit.clearSum()V -/
noncomputable def Ft_clearSum (v0 : Nat) (h : ax_H) : Option (ax_H) := (ax_EE 77).1 [.ref v0] h
noncomputable def Ft_clearSum_2  (v0 : Nat) (v1 : Int32) (h : ax_H) : Option (ax_H) := ax_S ax_ρV (ax_env ax_EE 77) ax_nn r_77 r_77_2 [(0, .ref v0), (1, .int v1)] [] h
set_option maxRecDepth 100000 in
set_option maxHeartbeats 4000000 in
theorem Ft_clearSum_eq (v0 : Nat) (h : ax_H) : Ft_clearSum v0 h =
  (Ft_clearSum_2 v0 0 h ) :=
  (ax_entV (N := 77) (C := r_77) (by decide) rfl (Nat.le_of_ble_eq_true rfl)).trans rfl
set_option maxRecDepth 100000 in
set_option maxHeartbeats 4000000 in
theorem Ft_clearSum_2_eq  (v0 : Nat) (v1 : Int32) (h : ax_H) : Ft_clearSum_2  v0 v1 h =
  (if decide ((13 : Int32) ≤ v1) then
    (some h )
  else
    (if (gS h v0).1 = 7 then if ax_in h (gR h v0 11) 17 v1 then let h1 := pL h (gR h v0 11) (Int32.toNatClampNeg v1) 0; Ft_clearSum_2 v0 (v1 + 1) h1 else none else none) ) :=
  (ax_S_eq _ _ _ _).trans rfl
/-- 78 BlackSun$Fit.addRow(I)V -/
noncomputable def Ft_addRow (v0 : Nat) (v1 : Int32) (h : ax_H) : Option (ax_H) := (ax_EE 78).1 [.ref v0, .int v1] h
noncomputable def Ft_addRow_6  (v0 : Nat) (v1 : Int32) (v2 : Int32) (v3 : Int32) (h : ax_H) : Option (ax_H) := ax_S ax_ρV (ax_env ax_EE 78) ax_nn r_78 r_78_6 [(0, .ref v0), (1, .int v1), (2, .int v2), (3, .int v3)] [] h
noncomputable def Ft_addRow_28  (v0 : Nat) (v1 : Int32) (v2 : Int32) (v3 : Int32) (v4 : Int64) (v6 : Int32) (h : ax_H) : Option (ax_H) := ax_S ax_ρV (ax_env ax_EE 78) ax_nn r_78 r_78_28 [(0, .ref v0), (1, .int v1), (2, .int v2), (3, .int v3), (4, .long v4), (6, .int v6)] [] h
set_option maxRecDepth 100000 in
set_option maxHeartbeats 4000000 in
theorem Ft_addRow_eq (v0 : Nat) (v1 : Int32) (h : ax_H) : Ft_addRow v0 v1 h =
  (Ft_addRow_6 v0 v1 (v1 * 3) 0 h ) :=
  (ax_entV (N := 78) (C := r_78) (by decide) rfl (Nat.le_of_ble_eq_true rfl)).trans rfl
set_option maxRecDepth 100000 in
set_option maxHeartbeats 4000000 in
theorem Ft_addRow_6_eq  (v0 : Nat) (v1 : Int32) (v2 : Int32) (v3 : Int32) (h : ax_H) : Ft_addRow_6  v0 v1 v2 v3 h =
  (if (gS h v0).1 = 7 then if decide ((gI h v0 4) ≤ v3) then
    (some h )
  else
    (if (gS h v0).1 = 7 then if ax_in h (gR h v0 6) 16 (v2 + v3) then let x1 := (Int32.toInt64 (gI h (gR h v0 6) (Int32.toNatClampNeg (v2 + v3)))); Ft_addRow_28 v0 v1 v2 v3 x1 v3 h else none else none) else none) :=
  (ax_S_eq _ _ _ _).trans rfl
set_option maxRecDepth 100000 in
set_option maxHeartbeats 4000000 in
theorem Ft_addRow_28_eq  (v0 : Nat) (v1 : Int32) (v2 : Int32) (v3 : Int32) (v4 : Int64) (v6 : Int32) (h : ax_H) : Ft_addRow_28  v0 v1 v2 v3 v4 v6 h =
  (if (gS h v0).1 = 7 then if decide ((gI h v0 4) ≤ v6) then
    (if (gS h v0).1 = 7 then if ax_in h (gR h v0 11) 17 ((v3 * 4) + 3) then if (gS h v0).1 = 7 then if ax_in h (gR h v0 8) 16 v1 then if ax_in h (gR h v0 11) 17 ((v3 * 4) + 3) then let h1 := pL h (gR h v0 11) (Int32.toNatClampNeg ((v3 * 4) + 3)) ((gL h (gR h v0 11) (Int32.toNatClampNeg ((v3 * 4) + 3))) + (v4 * (Int32.toInt64 (gI h (gR h v0 8) (Int32.toNatClampNeg v1))))); Ft_addRow_6 v0 v1 v2 (v3 + 1) h1 else none else none else none else none else none)
  else
    (if (gS h v0).1 = 7 then if ax_in h (gR h v0 11) 17 ((v3 * 4) + v6) then if (gS h v0).1 = 7 then if ax_in h (gR h v0 6) 16 (v2 + v6) then if ax_in h (gR h v0 11) 17 ((v3 * 4) + v6) then let h2 := pL h (gR h v0 11) (Int32.toNatClampNeg ((v3 * 4) + v6)) ((gL h (gR h v0 11) (Int32.toNatClampNeg ((v3 * 4) + v6))) + (v4 * (Int32.toInt64 (gI h (gR h v0 6) (Int32.toNatClampNeg (v2 + v6)))))); Ft_addRow_28 v0 v1 v2 v3 v4 (v6 + 1) h2 else none else none else none else none else none) else none) :=
  (ax_S_eq _ _ _ _).trans rfl
/-- 79 BlackSun$Fit.addSum([J[J)V -/
noncomputable def Ft_addSum (v0 : Nat) (v1 : Nat) (h : ax_H) : Option (ax_H) := (ax_EE 79).1 [.ref v0, .ref v1] h
noncomputable def Ft_addSum_2  (v0 : Nat) (v1 : Nat) (v2 : Int32) (h : ax_H) : Option (ax_H) := ax_S ax_ρV (ax_env ax_EE 79) ax_nn r_79 r_79_2 [(0, .ref v0), (1, .ref v1), (2, .int v2)] [] h
set_option maxRecDepth 100000 in
set_option maxHeartbeats 4000000 in
theorem Ft_addSum_eq (v0 : Nat) (v1 : Nat) (h : ax_H) : Ft_addSum v0 v1 h =
  (Ft_addSum_2 v0 v1 0 h ) :=
  (ax_entV (N := 79) (C := r_79) (by decide) rfl (Nat.le_of_ble_eq_true rfl)).trans rfl
set_option maxRecDepth 100000 in
set_option maxHeartbeats 4000000 in
theorem Ft_addSum_2_eq  (v0 : Nat) (v1 : Nat) (v2 : Int32) (h : ax_H) : Ft_addSum_2  v0 v1 v2 h =
  (if decide ((13 : Int32) ≤ v2) then
    (some h )
  else
    (if ax_in h v0 17 v2 then if ax_in h v1 17 v2 then if ax_in h v0 17 v2 then let h1 := pL h v0 (Int32.toNatClampNeg v2) ((gL h v0 (Int32.toNatClampNeg v2)) + (gL h v1 (Int32.toNatClampNeg v2))); Ft_addSum_2 v0 v1 (v2 + 1) h1 else none else none else none) ) :=
  (ax_S_eq _ _ _ _).trans rfl
/-- 80 BlackSun$Fit.addUp(LBlackSun$Images;)V -/
noncomputable def Ft_addUp (v0 : Nat) (v1 : Nat) (h : ax_H) : Option (ax_H) := (ax_EE 80).1 [.ref v0, .ref v1] h
noncomputable def Ft_addUp_2  (v0 : Nat) (v1 : Nat) (v2 : Int32) (h : ax_H) : Option (ax_H) := ax_S ax_ρV (ax_env ax_EE 80) ax_nn r_80 r_80_2 [(0, .ref v0), (1, .ref v1), (2, .int v2)] [] h
noncomputable def Ft_addUp_10  (v0 : Nat) (v1 : Nat) (v2 : Int32) (v3 : Int32) (h : ax_H) : Option (ax_H) := ax_S ax_ρV (ax_env ax_EE 80) ax_nn r_80 r_80_10 [(0, .ref v0), (1, .ref v1), (2, .int v2), (3, .int v3)] [] h
noncomputable def Ft_addUp_39  (v0 : Nat) (v1 : Nat) (v2 : Int32) (h : ax_H) : Option (ax_H) := ax_S ax_ρV (ax_env ax_EE 80) ax_nn r_80 r_80_39 [(0, .ref v0), (1, .ref v1), (2, .int v2)] [] h
set_option maxRecDepth 100000 in
set_option maxHeartbeats 4000000 in
theorem Ft_addUp_eq (v0 : Nat) (v1 : Nat) (h : ax_H) : Ft_addUp v0 v1 h =
  (Ft_addUp_2 v0 v1 0 h ) :=
  (ax_entV (N := 80) (C := r_80) (by decide) rfl (Nat.le_of_ble_eq_true rfl)).trans rfl
set_option maxRecDepth 100000 in
set_option maxHeartbeats 4000000 in
theorem Ft_addUp_2_eq  (v0 : Nat) (v1 : Nat) (v2 : Int32) (h : ax_H) : Ft_addUp_2  v0 v1 v2 h =
  (if decide ((46 : Int32) < v2) then
    (Ft_addUp_39 v0 v1 0 h )
  else
    (Ft_addUp_10 v0 v1 v2 0 h ) ) :=
  (ax_S_eq _ _ _ _).trans rfl
set_option maxRecDepth 100000 in
set_option maxHeartbeats 4000000 in
theorem Ft_addUp_10_eq  (v0 : Nat) (v1 : Nat) (v2 : Int32) (v3 : Int32) (h : ax_H) : Ft_addUp_10  v0 v1 v2 v3 h =
  (if decide ((13 : Int32) ≤ v3) then
    (Ft_addUp_2 v0 v1 (v2 + 1) h )
  else
    (if (gS h v0).1 = 7 then if ax_in h (gR h v0 10) 22 v2 then if ax_in h (gR h (gR h v0 10) (Int32.toNatClampNeg v2)) 17 v3 then let h1 := pL h (gR h (gR h v0 10) (Int32.toNatClampNeg v2)) (Int32.toNatClampNeg v3) 0; Ft_addUp_10 v0 v1 v2 (v3 + 1) h1 else none else none else none) ) :=
  (ax_S_eq _ _ _ _).trans rfl
set_option maxRecDepth 100000 in
set_option maxHeartbeats 4000000 in
theorem Ft_addUp_39_eq  (v0 : Nat) (v1 : Nat) (v2 : Int32) (h : ax_H) : Ft_addUp_39  v0 v1 v2 h =
  (if (gS h v0).1 = 7 then if decide ((gI h v0 0) ≤ v2) then
    (some h )
  else
    (if (gS h v0).1 = 7 then (Ft_clearSum v0 h).bind (fun h1 => if (gS h1 v0).1 = 7 then if ax_in h1 (gR h1 v0 11) 17 12 then let h2 := pL h1 (gR h1 v0 11) (Int32.toNatClampNeg 12) 1; if (gS h2 v0).1 = 7 then (Ft_addRow v0 ((2 : Int32) * v2) h2).bind (fun h3 => if (gS h3 v0).1 = 7 then (Ft_addRow v0 (((2 : Int32) * v2) + 1) h3).bind (fun h4 => if (gS h4 v0).1 = 7 then if ax_in h4 (gR h4 v0 10) 22 46 then if (gS h4 v0).1 = 7 then (Ft_addSum (gR h4 (gR h4 v0 10) (Int32.toNatClampNeg 46)) (gR h4 v0 11) h4).bind (fun h5 => if (gS h5 v0).1 = 7 then if (gS h5 v1).1 = 4 then if (gS h5 v0).1 = 7 then if ax_in h5 (gR h5 v0 1) 16 v2 then if ax_in h5 (gR h5 v1 1) 16 (gI h5 (gR h5 v0 1) (Int32.toNatClampNeg v2)) then if ax_in h5 (gR h5 v0 10) 22 (gI h5 (gR h5 v1 1) (Int32.toNatClampNeg (gI h5 (gR h5 v0 1) (Int32.toNatClampNeg v2)))) then if (gS h5 v0).1 = 7 then (Ft_addSum (gR h5 (gR h5 v0 10) (Int32.toNatClampNeg (gI h5 (gR h5 v1 1) (Int32.toNatClampNeg (gI h5 (gR h5 v0 1) (Int32.toNatClampNeg v2)))))) (gR h5 v0 11) h5).bind (fun h6 => if (gS h6 v0).1 = 7 then if (gS h6 v1).1 = 4 then if (gS h6 v0).1 = 7 then if ax_in h6 (gR h6 v0 1) 16 v2 then if ax_in h6 (gR h6 v1 2) 16 (gI h6 (gR h6 v0 1) (Int32.toNatClampNeg v2)) then if ax_in h6 (gR h6 v0 10) 22 ((16 : Int32) + (gI h6 (gR h6 v1 2) (Int32.toNatClampNeg (gI h6 (gR h6 v0 1) (Int32.toNatClampNeg v2))))) then if (gS h6 v0).1 = 7 then (Ft_addSum (gR h6 (gR h6 v0 10) (Int32.toNatClampNeg ((16 : Int32) + (gI h6 (gR h6 v1 2) (Int32.toNatClampNeg (gI h6 (gR h6 v0 1) (Int32.toNatClampNeg v2))))))) (gR h6 v0 11) h6).bind (fun h7 => Ft_addUp_39 v0 v1 (v2 + 1) h7 ) else none else none else none else none else none else none else none ) else none else none else none else none else none else none else none ) else none else none else none ) else none ) else none else none else none ) else none) else none) :=
  (ax_S_eq _ _ _ _).trans rfl
/-- 81 BlackSun$Fit.open(LBlackSun$Book;LBlackSun$Way;I)Z -/
noncomputable def Ft_open (v0 : Nat) (v1 : Nat) (v2 : Nat) (v3 : Int32) (h : ax_H) : Option (Int32 × ax_H) := (ax_EE 81).2.1 [.ref v0, .ref v1, .ref v2, .int v3] h
set_option maxRecDepth 100000 in
set_option maxHeartbeats 4000000 in
theorem Ft_open_eq (v0 : Nat) (v1 : Nat) (v2 : Nat) (v3 : Int32) (h : ax_H) : Ft_open v0 v1 v2 v3 h =
  (if (gS h v0).1 = 7 then (Ft_take v0 v1 v2 v3 h).bind (fun h1 => if (gS h1 v0).1 = 7 then (Ft_settle v0 v1 v2 v3 (-1) h1).bind (fun r2 => if decide (¬ r2.1 = 0) then
    (if (gS r2.2 v0).1 = 7 then (Ft_makeRows v0 v1 r2.2).bind (fun h3 => if (gS h3 v1).1 = 1 then if (gS h3 v0).1 = 7 then (Ft_addUp v0 (gR h3 v1 3) h3).bind (fun h4 => some (1, h4) ) else none else none ) else none)
  else
    (some (0, r2.2) ) ) else none ) else none) :=
  (ax_entI (N := 81) (C := r_81) (by decide) rfl (Nat.le_of_ble_eq_true rfl)).trans rfl
/-- 82 BlackSun$Fit.solve()Z -/
noncomputable def Ft_solve (v0 : Nat) (h : ax_H) : Option (Int32 × ax_H) := (ax_EE 82).2.1 [.ref v0] h
noncomputable def Ft_solve_31 (k0 : Int64) (v0 : Nat) (h : ax_H) : Option (Int32 × ax_H) := ax_S ax_ρI (ax_env ax_EE 82) ax_nn r_82 r_82_31 [(0, .ref v0)] [.long k0] h
noncomputable def Ft_solve_65 (k0 : Int64) (v0 : Nat) (v1 : Int64) (v3 : Int64) (v5 : Int64) (h : ax_H) : Option (Int32 × ax_H) := ax_S ax_ρI (ax_env ax_EE 82) ax_nn r_82 r_82_65 [(0, .ref v0), (1, .long v1), (3, .long v3), (5, .long v5)] [.long k0] h
noncomputable def Ft_solve_95 (k0 : Int64) (v0 : Nat) (v1 : Int64) (v3 : Int64) (v5 : Int64) (v7 : Int64) (v9 : Int64) (h : ax_H) : Option (Int32 × ax_H) := ax_S ax_ρI (ax_env ax_EE 82) ax_nn r_82 r_82_95 [(0, .ref v0), (1, .long v1), (3, .long v3), (5, .long v5), (7, .long v7), (9, .long v9)] [.long k0] h
noncomputable def Ft_solve_217  (v0 : Nat) (v1 : Int64) (v3 : Int64) (v5 : Int64) (v7 : Int64) (v9 : Int64) (v11 : Int64) (v13 : Int64) (v15 : Int64) (v17 : Int64) (v21 : Int64) (v23 : Int64) (v25 : Int64) (h : ax_H) : Option (Int32 × ax_H) := ax_S ax_ρI (ax_env ax_EE 82) ax_nn r_82 r_82_217 [(0, .ref v0), (1, .long v1), (3, .long v3), (5, .long v5), (7, .long v7), (9, .long v9), (11, .long v11), (13, .long v13), (15, .long v15), (17, .long v17), (21, .long v21), (23, .long v23), (25, .long v25)] [] h
noncomputable def Ft_solve_272  (v0 : Nat) (v1 : Int64) (v3 : Int64) (v5 : Int64) (v7 : Int64) (v9 : Int64) (v13 : Int64) (v15 : Int64) (v17 : Int64) (v23 : Int64) (v25 : Int64) (h : ax_H) : Option (Int32 × ax_H) := ax_S ax_ρI (ax_env ax_EE 82) ax_nn r_82 r_82_272 [(0, .ref v0), (1, .long v1), (3, .long v3), (5, .long v5), (7, .long v7), (9, .long v9), (13, .long v13), (15, .long v15), (17, .long v17), (23, .long v23), (25, .long v25)] [] h
set_option maxRecDepth 100000 in
set_option maxHeartbeats 4000000 in
theorem Ft_solve_eq (v0 : Nat) (h : ax_H) : Ft_solve v0 h =
  (if (gS h v0).1 = 7 then if ax_in h (gR h v0 11) 17 12 then if decide (¬ (lg_cmp (gL h (gR h v0 11) (Int32.toNatClampNeg 12)) 0) = 0) then
    (if (gS h v0).1 = 7 then if decide ((gI h v0 4) ≤ 0) then
      (Ft_solve_31 1 v0 h )
    else
      (if (gS h v0).1 = 7 then if ax_in h (gR h v0 11) 17 0 then Ft_solve_31 (gL h (gR h v0 11) (Int32.toNatClampNeg 0)) v0 h else none else none) else none)
  else
    (some (0, h) ) else none else none) :=
  (ax_entI (N := 82) (C := r_82) (by decide) rfl (Nat.le_of_ble_eq_true rfl)).trans rfl
set_option maxRecDepth 100000 in
set_option maxHeartbeats 4000000 in
theorem Ft_solve_31_eq (k0 : Int64) (v0 : Nat) (h : ax_H) : Ft_solve_31 k0 v0 h =
  (if (gS h v0).1 = 7 then if ax_in h (gR h v0 11) 17 1 then let x1 := (gL h (gR h v0 11) (Int32.toNatClampNeg 1)); if (gS h v0).1 = 7 then if ax_in h (gR h v0 11) 17 2 then let x2 := (gL h (gR h v0 11) (Int32.toNatClampNeg 2)); if (gS h v0).1 = 7 then if decide ((gI h v0 4) ≤ 1) then
    (Ft_solve_65 1 v0 k0 x1 x2 h )
  else
    (if (gS h v0).1 = 7 then if ax_in h (gR h v0 11) 17 5 then Ft_solve_65 (gL h (gR h v0 11) (Int32.toNatClampNeg 5)) v0 k0 x1 x2 h else none else none) else none else none else none else none else none) :=
  (ax_S_eq _ _ _ _).trans rfl
set_option maxRecDepth 100000 in
set_option maxHeartbeats 4000000 in
theorem Ft_solve_65_eq (k0 : Int64) (v0 : Nat) (v1 : Int64) (v3 : Int64) (v5 : Int64) (h : ax_H) : Ft_solve_65 k0 v0 v1 v3 v5 h =
  (if (gS h v0).1 = 7 then if ax_in h (gR h v0 11) 17 6 then let x1 := (gL h (gR h v0 11) (Int32.toNatClampNeg 6)); if (gS h v0).1 = 7 then if decide ((gI h v0 4) ≤ 2) then
    (Ft_solve_95 1 v0 v1 v3 v5 k0 x1 h )
  else
    (if (gS h v0).1 = 7 then if ax_in h (gR h v0 11) 17 10 then Ft_solve_95 (gL h (gR h v0 11) (Int32.toNatClampNeg 10)) v0 v1 v3 v5 k0 x1 h else none else none) else none else none else none) :=
  (ax_S_eq _ _ _ _).trans rfl
set_option maxRecDepth 100000 in
set_option maxHeartbeats 4000000 in
theorem Ft_solve_95_eq (k0 : Int64) (v0 : Nat) (v1 : Int64) (v3 : Int64) (v5 : Int64) (v7 : Int64) (v9 : Int64) (h : ax_H) : Ft_solve_95 k0 v0 v1 v3 v5 v7 v9 h =
  (if (gS h v0).1 = 7 then if ax_in h (gR h v0 11) 17 3 then let x1 := (gL h (gR h v0 11) (Int32.toNatClampNeg 3)); if (gS h v0).1 = 7 then if ax_in h (gR h v0 11) 17 7 then let x2 := (gL h (gR h v0 11) (Int32.toNatClampNeg 7)); if (gS h v0).1 = 7 then if ax_in h (gR h v0 11) 17 11 then let x3 := (gL h (gR h v0 11) (Int32.toNatClampNeg 11)); let x4 := (((v1 * ((v7 * k0) - (v9 * v9))) + (v3 * ((v5 * v9) - (v3 * k0)))) + (v5 * ((v3 * v9) - (v5 * v7)))); if (gS h v0).1 = 7 then if decide ((gI h v0 4) < 1) then
    (Ft_solve_217 v0 v1 v3 v5 v7 v9 k0 x1 x2 x3 ((v5 * v9) - (v3 * k0)) ((v3 * v9) - (v5 * v7)) x4 h )
  else
    (if (gS h v0).1 = 7 then if ax_in h (gR h v0 5) 16 0 then if (gS h v0).1 = 7 then (Ft_put v0 (gI h (gR h v0 5) (Int32.toNatClampNeg 0)) (((((v7 * k0) - (v9 * v9)) * x1) + (((v5 * v9) - (v3 * k0)) * x2)) + (((v3 * v9) - (v5 * v7)) * x3)) x4 h).bind (fun r5 => if decide (r5.1 = 0) then
      (some (0, r5.2) )
    else
      (Ft_solve_217 v0 v1 v3 v5 v7 v9 k0 x1 x2 x3 ((v5 * v9) - (v3 * k0)) ((v3 * v9) - (v5 * v7)) x4 r5.2 ) ) else none else none else none) else none else none else none else none else none else none else none) :=
  (ax_S_eq _ _ _ _).trans rfl
set_option maxRecDepth 100000 in
set_option maxHeartbeats 4000000 in
theorem Ft_solve_217_eq  (v0 : Nat) (v1 : Int64) (v3 : Int64) (v5 : Int64) (v7 : Int64) (v9 : Int64) (v11 : Int64) (v13 : Int64) (v15 : Int64) (v17 : Int64) (v21 : Int64) (v23 : Int64) (v25 : Int64) (h : ax_H) : Ft_solve_217  v0 v1 v3 v5 v7 v9 v11 v13 v15 v17 v21 v23 v25 h =
  (if (gS h v0).1 = 7 then if decide ((gI h v0 4) < 2) then
    (Ft_solve_272 v0 v1 v3 v5 v7 v9 v13 v15 v17 v23 v25 h )
  else
    (if (gS h v0).1 = 7 then if ax_in h (gR h v0 5) 16 1 then if (gS h v0).1 = 7 then (Ft_put v0 (gI h (gR h v0 5) (Int32.toNatClampNeg 1)) (((v21 * v13) + (((v1 * v11) - (v5 * v5)) * v15)) + (((v3 * v5) - (v1 * v9)) * v17)) v25 h).bind (fun r1 => if decide (r1.1 = 0) then
      (some (0, r1.2) )
    else
      (Ft_solve_272 v0 v1 v3 v5 v7 v9 v13 v15 v17 v23 v25 r1.2 ) ) else none else none else none) else none) :=
  (ax_S_eq _ _ _ _).trans rfl
set_option maxRecDepth 100000 in
set_option maxHeartbeats 4000000 in
theorem Ft_solve_272_eq  (v0 : Nat) (v1 : Int64) (v3 : Int64) (v5 : Int64) (v7 : Int64) (v9 : Int64) (v13 : Int64) (v15 : Int64) (v17 : Int64) (v23 : Int64) (v25 : Int64) (h : ax_H) : Ft_solve_272  v0 v1 v3 v5 v7 v9 v13 v15 v17 v23 v25 h =
  (if (gS h v0).1 = 7 then if decide ((gI h v0 4) < 3) then
    (some (1, h) )
  else
    (if (gS h v0).1 = 7 then if ax_in h (gR h v0 5) 16 2 then if (gS h v0).1 = 7 then (Ft_put v0 (gI h (gR h v0 5) (Int32.toNatClampNeg 2)) (((v23 * v13) + (((v3 * v5) - (v1 * v9)) * v15)) + (((v1 * v7) - (v3 * v3)) * v17)) v25 h).bind (fun r1 => if decide (r1.1 = 0) then
      (some (0, r1.2) )
    else
      (some (1, r1.2) ) ) else none else none else none) else none) :=
  (ax_S_eq _ _ _ _).trans rfl
/-- 83 BlackSun$Fit.solveAll()Z -/
noncomputable def Ft_solveAll (v0 : Nat) (h : ax_H) : Option (Int32 × ax_H) := (ax_EE 83).2.1 [.ref v0] h
set_option maxRecDepth 100000 in
set_option maxHeartbeats 4000000 in
theorem Ft_solveAll_eq (v0 : Nat) (h : ax_H) : Ft_solveAll v0 h =
  (if (gS h v0).1 = 7 then if ax_in h (gR h v0 10) 22 46 then if (gS h v0).1 = 7 then if ax_cp h (gR h (gR h v0 10) (Int32.toNatClampNeg 46)) 17 0 13 ∧ ax_cp h (gR h v0 11) 17 0 13 ∧ ¬ (13 : Int32) < 0 ∧ (([] : List Value).map (fun v => v.category)).sum ≤ 8 then let h1 := rL h (gR h v0 11) (va_cpy (gL h (gR h (gR h v0 10) (Int32.toNatClampNeg 46))) (gL h (gR h v0 11)) (Int32.toNatClampNeg 0) (Int32.toNatClampNeg 0) (Int32.toNatClampNeg 13)); if (gS h1 v0).1 = 7 then (Ft_solve v0 h1).bind (fun r2 => if r2.1 = 0 ∨ r2.1 = 1 then some (r2.1, r2.2) else none ) else none else none else none else none else none) :=
  (ax_entI (N := 83) (C := r_83) (by decide) rfl (Nat.le_of_ble_eq_true rfl)).trans rfl
/-- 84 BlackSun.answerOf(LBlackSun$Way;II)I -/
noncomputable def B_answerOf (v0 : Nat) (v1 : Nat) (v2 : Int32) (v3 : Int32) (h : ax_H) : Option (Int32 × ax_H) := (ax_EE 84).2.1 [.ref v0, .ref v1, .int v2, .int v3] h
set_option maxRecDepth 100000 in
set_option maxHeartbeats 4000000 in
theorem B_answerOf_eq (v0 : Nat) (v1 : Nat) (v2 : Int32) (v3 : Int32) (h : ax_H) : B_answerOf v0 v1 v2 v3 h =
  (if (gS h v0).1 = 0 then if (gS h v0).1 = 0 then if (gS h (gR h v0 3)).1 = 7 then (Ft_open (gR h v0 3) (gR h v0 0) v1 v3 h).bind (fun r1 => if decide (r1.1 = 0) then
    (some ((-1000000000), r1.2) )
  else
    (if (gS r1.2 v0).1 = 0 then if (gS r1.2 (gR r1.2 v0 3)).1 = 7 then (Ft_solveAll (gR r1.2 v0 3) r1.2).bind (fun r2 => if decide (r2.1 = 0) then
      (some ((-1000000000), r2.2) )
    else
      (if (gS r2.2 v0).1 = 0 then if (gS r2.2 (gR r2.2 v0 3)).1 = 7 then if ax_in r2.2 (gR r2.2 (gR r2.2 v0 3) 2) 16 v2 then some ((gI r2.2 (gR r2.2 (gR r2.2 v0 3) 2) (Int32.toNatClampNeg v2)), r2.2) else none else none else none) ) else none else none) ) else none else none else none) :=
  (ax_entI (N := 84) (C := r_84) (by decide) rfl (Nat.le_of_ble_eq_true rfl)).trans rfl
/-- 85 BlackSun.answer(III)I -/
noncomputable def B_answer (v0 : Nat) (v1 : Int32) (v2 : Int32) (v3 : Int32) (h : ax_H) : Option (Int32 × ax_H) := (ax_EE 85).2.1 [.ref v0, .int v1, .int v2, .int v3] h
set_option maxRecDepth 100000 in
set_option maxHeartbeats 4000000 in
theorem B_answer_eq (v0 : Nat) (v1 : Int32) (v2 : Int32) (v3 : Int32) (h : ax_H) : B_answer v0 v1 v2 v3 h =
  (if (gS h v0).1 = 0 then if (gS h (gR h v0 0)).1 = 1 then (Bk_wayAt (gR h v0 0) v1 h).bind (fun r1 => if r1.1 = 0 then
    (some ((-2000000000), r1.2) )
  else
    ((B_isTerm v2 r1.2).bind (fun r2 => if decide (r2.1 = 0) then
      (some ((-2000000000), r2.2) )
    else
      ((B_isWeek v3 r2.2).bind (fun r3 => if decide (¬ r3.1 = 0) then
        (if (gS r3.2 v0).1 = 0 then (B_answerOf v0 r1.1 v2 v3 r3.2).bind (fun r4 => some (r4.1, r4.2) ) else none)
      else
        (some ((-2000000000), r3.2) ) )) )) ) else none else none) :=
  (ax_entI (N := 85) (C := r_85) (by decide) rfl (Nat.le_of_ble_eq_true rfl)).trans rfl
/-- 86 BlackSun$Fit.missed()J -/
noncomputable def Ft_missed (v0 : Nat) (h : ax_H) : Option (Int64 × ax_H) := (ax_EE 86).2.2.1 [.ref v0] h
noncomputable def Ft_missed_4  (v0 : Nat) (v1 : Int64) (v3 : Int32) (h : ax_H) : Option (Int64 × ax_H) := ax_S ax_ρL (ax_env ax_EE 86) ax_nn r_86 r_86_4 [(0, .ref v0), (1, .long v1), (3, .int v3)] [] h
noncomputable def Ft_missed_20  (v0 : Nat) (v1 : Int64) (v3 : Int32) (v4 : Int64) (v6 : Int32) (h : ax_H) : Option (Int64 × ax_H) := ax_S ax_ρL (ax_env ax_EE 86) ax_nn r_86 r_86_20 [(0, .ref v0), (1, .long v1), (3, .int v3), (4, .long v4), (6, .int v6)] [] h
set_option maxRecDepth 100000 in
set_option maxHeartbeats 4000000 in
theorem Ft_missed_eq (v0 : Nat) (h : ax_H) : Ft_missed v0 h =
  (Ft_missed_4 v0 0 0 h ) :=
  (ax_entL (N := 86) (C := r_86) (by decide) rfl (Nat.le_of_ble_eq_true rfl)).trans rfl
set_option maxRecDepth 100000 in
set_option maxHeartbeats 4000000 in
theorem Ft_missed_4_eq  (v0 : Nat) (v1 : Int64) (v3 : Int32) (h : ax_H) : Ft_missed_4  v0 v1 v3 h =
  (if (gS h v0).1 = 7 then if decide (((2 : Int32) * (gI h v0 0)) ≤ v3) then
    (some (v1, h) )
  else
    (Ft_missed_20 v0 v1 v3 0 0 h ) else none) :=
  (ax_S_eq _ _ _ _).trans rfl
set_option maxRecDepth 100000 in
set_option maxHeartbeats 4000000 in
theorem Ft_missed_20_eq  (v0 : Nat) (v1 : Int64) (v3 : Int32) (v4 : Int64) (v6 : Int32) (h : ax_H) : Ft_missed_20  v0 v1 v3 v4 v6 h =
  (if (gS h v0).1 = 7 then if decide ((gI h v0 4) ≤ v6) then
    (if (gS h v0).1 = 7 then if ax_in h (gR h v0 8) 16 v3 then let x1 := ((Int32.toInt64 (gI h (gR h v0 8) (Int32.toNatClampNeg v3))) - (v4 / 1000)); Ft_missed_4 v0 (v1 + (x1 * x1)) (v3 + 1) h else none else none)
  else
    (if (gS h v0).1 = 7 then if (gS h v0).1 = 7 then if ax_in h (gR h v0 5) 16 v6 then if ax_in h (gR h v0 2) 16 (gI h (gR h v0 5) (Int32.toNatClampNeg v6)) then if (gS h v0).1 = 7 then if ax_in h (gR h v0 6) 16 ((v3 * 3) + v6) then let x2 := (v4 + ((Int32.toInt64 (gI h (gR h v0 2) (Int32.toNatClampNeg (gI h (gR h v0 5) (Int32.toNatClampNeg v6))))) * (Int32.toInt64 (gI h (gR h v0 6) (Int32.toNatClampNeg ((v3 * 3) + v6)))))); Ft_missed_20 v0 v1 v3 x2 (v6 + 1) h else none else none else none else none else none else none) else none) :=
  (ax_S_eq _ _ _ _).trans rfl
/-- 87 BlackSun.miss(II)J -/
noncomputable def B_miss (v0 : Nat) (v1 : Int32) (v2 : Int32) (h : ax_H) : Option (Int64 × ax_H) := (ax_EE 87).2.2.1 [.ref v0, .int v1, .int v2] h
set_option maxRecDepth 100000 in
set_option maxHeartbeats 4000000 in
theorem B_miss_eq (v0 : Nat) (v1 : Int32) (v2 : Int32) (h : ax_H) : B_miss v0 v1 v2 h =
  (if (gS h v0).1 = 0 then if (gS h (gR h v0 0)).1 = 1 then (Bk_wayAt (gR h v0 0) v1 h).bind (fun r1 => if r1.1 = 0 then
    (some ((-1), r1.2) )
  else
    ((B_isWeek v2 r1.2).bind (fun r2 => if decide (¬ r2.1 = 0) then
      (if (gS r2.2 v0).1 = 0 then if (gS r2.2 v0).1 = 0 then if (gS r2.2 (gR r2.2 v0 3)).1 = 7 then (Ft_open (gR r2.2 v0 3) (gR r2.2 v0 0) r1.1 v2 r2.2).bind (fun r3 => if decide (r3.1 = 0) then
        (some ((-1), r3.2) )
      else
        (if (gS r3.2 v0).1 = 0 then if (gS r3.2 (gR r3.2 v0 3)).1 = 7 then (Ft_solveAll (gR r3.2 v0 3) r3.2).bind (fun r4 => if decide (¬ r4.1 = 0) then
          (if (gS r4.2 v0).1 = 0 then if (gS r4.2 (gR r4.2 v0 3)).1 = 7 then (Ft_missed (gR r4.2 v0 3) r4.2).bind (fun r5 => some (r5.1, r5.2) ) else none else none)
        else
          (some ((-1), r4.2) ) ) else none else none) ) else none else none else none)
    else
      (some ((-1), r2.2) ) )) ) else none else none) :=
  (ax_entL (N := 87) (C := r_87) (by decide) rfl (Nat.le_of_ble_eq_true rfl)).trans rfl
/-- 88 BlackSun$Fit.leaveOut([J)V -/
noncomputable def Ft_leaveOut (v0 : Nat) (v1 : Nat) (h : ax_H) : Option (ax_H) := (ax_EE 88).1 [.ref v0, .ref v1] h
noncomputable def Ft_leaveOut_11  (v0 : Nat) (v1 : Nat) (v2 : Int32) (h : ax_H) : Option (ax_H) := ax_S ax_ρV (ax_env ax_EE 88) ax_nn r_88 r_88_11 [(0, .ref v0), (1, .ref v1), (2, .int v2)] [] h
set_option maxRecDepth 100000 in
set_option maxHeartbeats 4000000 in
theorem Ft_leaveOut_eq (v0 : Nat) (v1 : Nat) (h : ax_H) : Ft_leaveOut v0 v1 h =
  (if ax_in h v1 17 12 then if decide ((lg_cmp (gL h v1 (Int32.toNatClampNeg 12)) 0) = 0) then
    (some h )
  else
    (Ft_leaveOut_11 v0 v1 0 h ) else none) :=
  (ax_entV (N := 88) (C := r_88) (by decide) rfl (Nat.le_of_ble_eq_true rfl)).trans rfl
set_option maxRecDepth 100000 in
set_option maxHeartbeats 4000000 in
theorem Ft_leaveOut_11_eq  (v0 : Nat) (v1 : Nat) (v2 : Int32) (h : ax_H) : Ft_leaveOut_11  v0 v1 v2 h =
  (if decide ((13 : Int32) ≤ v2) then
    (some h )
  else
    (if (gS h v0).1 = 7 then if ax_in h (gR h v0 11) 17 v2 then if ax_in h v1 17 v2 then if ax_in h (gR h v0 11) 17 v2 then let h1 := pL h (gR h v0 11) (Int32.toNatClampNeg v2) ((gL h (gR h v0 11) (Int32.toNatClampNeg v2)) - (gL h v1 (Int32.toNatClampNeg v2))); Ft_leaveOut_11 v0 v1 (v2 + 1) h1 else none else none else none else none) ) :=
  (ax_S_eq _ _ _ _).trans rfl
/-- 89 BlackSun$Fit.solveWithout(I)Z -/
noncomputable def Ft_solveWithout (v0 : Nat) (v1 : Int32) (h : ax_H) : Option (Int32 × ax_H) := (ax_EE 89).2.1 [.ref v0, .int v1] h
set_option maxRecDepth 100000 in
set_option maxHeartbeats 4000000 in
theorem Ft_solveWithout_eq (v0 : Nat) (v1 : Int32) (h : ax_H) : Ft_solveWithout v0 v1 h =
  (if (gS h v0).1 = 7 then if ax_in h (gR h v0 10) 22 46 then if (gS h v0).1 = 7 then if ax_cp h (gR h (gR h v0 10) (Int32.toNatClampNeg 46)) 17 0 13 ∧ ax_cp h (gR h v0 11) 17 0 13 ∧ ¬ (13 : Int32) < 0 ∧ (([] : List Value).map (fun v => v.category)).sum ≤ 8 then let h1 := rL h (gR h v0 11) (va_cpy (gL h (gR h (gR h v0 10) (Int32.toNatClampNeg 46))) (gL h (gR h v0 11)) (Int32.toNatClampNeg 0) (Int32.toNatClampNeg 0) (Int32.toNatClampNeg 13)); if (gS h1 v0).1 = 7 then if ax_in h1 (gR h1 v0 10) 22 v1 then if (gS h1 v0).1 = 7 then (Ft_leaveOut v0 (gR h1 (gR h1 v0 10) (Int32.toNatClampNeg v1)) h1).bind (fun h2 => if (gS h2 v0).1 = 7 then (Ft_solve v0 h2).bind (fun r3 => if r3.1 = 0 ∨ r3.1 = 1 then some (r3.1, r3.2) else none ) else none ) else none else none else none else none else none else none else none) :=
  (ax_entI (N := 89) (C := r_89) (by decide) rfl (Nat.le_of_ble_eq_true rfl)).trans rfl
/-- 90 BlackSun.each(IIII)I -/
noncomputable def B_each (v0 : Nat) (v1 : Int32) (v2 : Int32) (v3 : Int32) (v4 : Int32) (h : ax_H) : Option (Int32 × ax_H) := (ax_EE 90).2.1 [.ref v0, .int v1, .int v2, .int v3, .int v4] h
noncomputable def B_each_86 (k0 : Int32) (v0 : Nat) (v2 : Int32) (v5 : Nat) (h : ax_H) : Option (Int32 × ax_H) := ax_S ax_ρI (ax_env ax_EE 90) ax_nn r_90 r_90_86 [(0, .ref v0), (2, .int v2), (5, .ref v5)] [.int k0] h
set_option maxRecDepth 100000 in
set_option maxHeartbeats 4000000 in
theorem B_each_eq (v0 : Nat) (v1 : Int32) (v2 : Int32) (v3 : Int32) (v4 : Int32) (h : ax_H) : B_each v0 v1 v2 v3 v4 h =
  (if (gS h v0).1 = 0 then if (gS h (gR h v0 0)).1 = 1 then (Bk_wayAt (gR h v0 0) v1 h).bind (fun r1 => if r1.1 = 0 then
    (some ((-2000000000), r1.2) )
  else
    ((B_isWeek v2 r1.2).bind (fun r2 => if decide (r2.1 = 0) then
      (some ((-2000000000), r2.2) )
    else
      ((B_isChoice v3 r2.2).bind (fun r3 => if decide (¬ r3.1 = 0) then
        (if decide (¬ v3 = 0) then
          (if (gS r3.2 v0).1 = 0 then if (gS r3.2 (gR r3.2 v0 0)).1 = 1 then if (gS r3.2 (gR r3.2 (gR r3.2 v0 0) 1)).1 = 2 then (St_has (gR r3.2 (gR r3.2 v0 0) 1) v4 r3.2).bind (fun r4 => if decide (¬ r4.1 = 0) then
            (if decide (¬ v3 = 0) then
              (B_each_86 ((16 : Int32) + v4) v0 v2 r1.1 r4.2 )
            else
              (B_each_86 v4 v0 v2 r1.1 r4.2 ) )
          else
            (some ((-2000000000), r4.2) ) ) else none else none else none)
        else
          (if (gS r3.2 v0).1 = 0 then if (gS r3.2 (gR r3.2 v0 0)).1 = 1 then if (gS r3.2 (gR r3.2 (gR r3.2 v0 0) 2)).1 = 3 then (Pl_has (gR r3.2 (gR r3.2 v0 0) 2) v4 r3.2).bind (fun r5 => if decide (¬ r5.1 = 0) then
            (if decide (¬ v3 = 0) then
              (B_each_86 ((16 : Int32) + v4) v0 v2 r1.1 r5.2 )
            else
              (B_each_86 v4 v0 v2 r1.1 r5.2 ) )
          else
            (some ((-2000000000), r5.2) ) ) else none else none else none) )
      else
        (some ((-2000000000), r3.2) ) )) )) ) else none else none) :=
  (ax_entI (N := 90) (C := r_90) (by decide) rfl (Nat.le_of_ble_eq_true rfl)).trans rfl
set_option maxRecDepth 100000 in
set_option maxHeartbeats 4000000 in
theorem B_each_86_eq (k0 : Int32) (v0 : Nat) (v2 : Int32) (v5 : Nat) (h : ax_H) : B_each_86 k0 v0 v2 v5 h =
  (if (gS h v0).1 = 0 then if (gS h v0).1 = 0 then if (gS h (gR h v0 3)).1 = 7 then (Ft_open (gR h v0 3) (gR h v0 0) v5 v2 h).bind (fun r1 => if decide (r1.1 = 0) then
    (some ((-1000000000), r1.2) )
  else
    (if (gS r1.2 v0).1 = 0 then if (gS r1.2 (gR r1.2 v0 3)).1 = 7 then (Ft_solveWithout (gR r1.2 v0 3) k0 r1.2).bind (fun r2 => if decide (¬ r2.1 = 0) then
      (if (gS r2.2 v0).1 = 0 then if (gS r2.2 (gR r2.2 v0 3)).1 = 7 then if ax_in r2.2 (gR r2.2 (gR r2.2 v0 3) 2) 16 4 then some ((gI r2.2 (gR r2.2 (gR r2.2 v0 3) 2) (Int32.toNatClampNeg 4)), r2.2) else none else none else none)
    else
      (some ((-1000000000), r2.2) ) ) else none else none) ) else none else none else none) :=
  (ax_S_eq _ _ _ _).trans rfl
/-- 91 BlackSun$Fit.findRulable(LBlackSun$Plates;)I -/
noncomputable def Ft_findRulable (v0 : Nat) (v1 : Nat) (h : ax_H) : Option (Int32 × ax_H) := (ax_EE 91).2.1 [.ref v0, .ref v1] h
noncomputable def Ft_findRulable_7  (v0 : Nat) (v1 : Nat) (v2 : Int32) (v3 : Int32) (v4 : Int32) (h : ax_H) : Option (Int32 × ax_H) := ax_S ax_ρI (ax_env ax_EE 91) ax_nn r_91 r_91_7 [(0, .ref v0), (1, .ref v1), (2, .int v2), (3, .int v3), (4, .int v4)] [] h
set_option maxRecDepth 100000 in
set_option maxHeartbeats 4000000 in
theorem Ft_findRulable_eq (v0 : Nat) (v1 : Nat) (h : ax_H) : Ft_findRulable v0 v1 h =
  (Ft_findRulable_7 v0 v1 0 0 0 h ) :=
  (ax_entI (N := 91) (C := r_91) (by decide) rfl (Nat.le_of_ble_eq_true rfl)).trans rfl
set_option maxRecDepth 100000 in
set_option maxHeartbeats 4000000 in
theorem Ft_findRulable_7_eq  (v0 : Nat) (v1 : Nat) (v2 : Int32) (v3 : Int32) (v4 : Int32) (h : ax_H) : Ft_findRulable_7  v0 v1 v2 v3 v4 h =
  (if (gS h v1).1 = 3 then if decide ((gI h v1 0) ≤ v4) then
    (some (v3, h) )
  else
    (if decide ((8 : Int32) ≤ v2) then
      (some (v3, h) )
    else
      (if (gS h v1).1 = 3 then if ax_in h (gR h v1 2) 16 v4 then if decide ((gI h (gR h v1 2) (Int32.toNatClampNeg v4)) = 2) then
        (Ft_findRulable_7 v0 v1 v2 v3 (v4 + 1) h )
      else
        (if (gS h v0).1 = 7 then if ax_in h (gR h v0 10) 22 v4 then if ax_in h (gR h (gR h v0 10) (Int32.toNatClampNeg v4)) 17 12 then if decide ((lg_cmp (gL h (gR h (gR h v0 10) (Int32.toNatClampNeg v4)) (Int32.toNatClampNeg 12)) 0) = 0) then
          (Ft_findRulable_7 v0 v1 (v2 + 1) v3 (v4 + 1) h )
        else
          (if (gS h v0).1 = 7 then if ax_in h (gR h v0 12) 16 v3 then let h1 := pI h (gR h v0 12) (Int32.toNatClampNeg v3) v4; Ft_findRulable_7 v0 v1 (v2 + 1) (v3 + 1) (v4 + 1) h1 else none else none) else none else none else none) else none else none) ) else none) :=
  (ax_S_eq _ _ _ _).trans rfl
/-- 92 BlackSun$Fit.leaveOutChoice(II)I -/
noncomputable def Ft_leaveOutChoice (v0 : Nat) (v1 : Int32) (v2 : Int32) (h : ax_H) : Option (Int32 × ax_H) := (ax_EE 92).2.1 [.ref v0, .int v1, .int v2] h
noncomputable def Ft_leaveOutChoice_23  (v0 : Nat) (v1 : Int32) (v2 : Int32) (v3 : Int32) (v4 : Int32) (h : ax_H) : Option (Int32 × ax_H) := ax_S ax_ρI (ax_env ax_EE 92) ax_nn r_92 r_92_23 [(0, .ref v0), (1, .int v1), (2, .int v2), (3, .int v3), (4, .int v4)] [] h
set_option maxRecDepth 100000 in
set_option maxHeartbeats 4000000 in
theorem Ft_leaveOutChoice_eq (v0 : Nat) (v1 : Int32) (v2 : Int32) (h : ax_H) : Ft_leaveOutChoice v0 v1 v2 h =
  (if (gS h v0).1 = 7 then if ax_in h (gR h v0 10) 22 46 then if (gS h v0).1 = 7 then if ax_cp h (gR h (gR h v0 10) (Int32.toNatClampNeg 46)) 17 0 13 ∧ ax_cp h (gR h v0 11) 17 0 13 ∧ ¬ (13 : Int32) < 0 ∧ (([] : List Value).map (fun v => v.category)).sum ≤ 8 then let h1 := rL h (gR h v0 11) (va_cpy (gL h (gR h (gR h v0 10) (Int32.toNatClampNeg 46))) (gL h (gR h v0 11)) (Int32.toNatClampNeg 0) (Int32.toNatClampNeg 0) (Int32.toNatClampNeg 13)); Ft_leaveOutChoice_23 v0 v1 v2 0 0 h1 else none else none else none else none) :=
  (ax_entI (N := 92) (C := r_92) (by decide) rfl (Nat.le_of_ble_eq_true rfl)).trans rfl
set_option maxRecDepth 100000 in
set_option maxHeartbeats 4000000 in
theorem Ft_leaveOutChoice_23_eq  (v0 : Nat) (v1 : Int32) (v2 : Int32) (v3 : Int32) (v4 : Int32) (h : ax_H) : Ft_leaveOutChoice_23  v0 v1 v2 v3 v4 h =
  (if decide (v1 ≤ v4) then
    (some (v3, h) )
  else
    (if decide (((v2 >>> (v4 &&& 31)) &&& 1) = 0) then
      (Ft_leaveOutChoice_23 v0 v1 v2 v3 (v4 + 1) h )
    else
      (if (gS h v0).1 = 7 then if (gS h v0).1 = 7 then if ax_in h (gR h v0 12) 16 v4 then if ax_in h (gR h v0 10) 22 (gI h (gR h v0 12) (Int32.toNatClampNeg v4)) then if (gS h v0).1 = 7 then (Ft_leaveOut v0 (gR h (gR h v0 10) (Int32.toNatClampNeg (gI h (gR h v0 12) (Int32.toNatClampNeg v4)))) h).bind (fun h1 => if (gS h1 v0).1 = 7 then if ax_in h1 (gR h1 v0 12) 16 v4 then let x2 := (v3 ||| ((1 : Int32) <<< ((gI h1 (gR h1 v0 12) (Int32.toNatClampNeg v4)) &&& 31))); Ft_leaveOutChoice_23 v0 v1 v2 x2 (v4 + 1) h1 else none else none ) else none else none else none else none else none) ) ) :=
  (ax_S_eq _ _ _ _).trans rfl
/-- 93 java/lang/Math.abs(J)J -/
noncomputable def Jm_abs (v0 : Int64) (h : ax_H) : Option (Int64 × ax_H) := (ax_EE 93).2.2.1 [.long v0] h
set_option maxRecDepth 100000 in
set_option maxHeartbeats 4000000 in
theorem Jm_abs_eq (v0 : Int64) (h : ax_H) : Jm_abs v0 h =
  (if decide ((0 : Int32) ≤ (lg_cmp v0 0)) then
    (some (v0, h) )
  else
    (some ((-v0), h) ) ) :=
  (ax_entL (N := 93) (C := r_93) (by decide) rfl (Nat.le_of_ble_eq_true rfl)).trans rfl
/-- 94 java/lang/Integer.bitCount(I)I -/
noncomputable def Ji_bitCount (v0 : Int32) (h : ax_H) : Option (Int32 × ax_H) := (ax_EE 94).2.1 [.int v0] h
set_option maxRecDepth 100000 in
set_option maxHeartbeats 4000000 in
theorem Ji_bitCount_eq (v0 : Int32) (h : ax_H) : Ji_bitCount v0 h =
  (let x1 := (v0 - ((Int32.toUInt32 v0 >>> (Int32.toUInt32 1 &&& Int32.toUInt32 31)).toInt32 &&& 1431655765)); let x2 := ((x1 &&& 858993459) + ((Int32.toUInt32 x1 >>> (Int32.toUInt32 2 &&& Int32.toUInt32 31)).toInt32 &&& 858993459)); let x3 := ((x2 + (Int32.toUInt32 x2 >>> (Int32.toUInt32 4 &&& Int32.toUInt32 31)).toInt32) &&& 252645135); let x4 := (x3 + (Int32.toUInt32 x3 >>> (Int32.toUInt32 8 &&& Int32.toUInt32 31)).toInt32); let x5 := (x4 + (Int32.toUInt32 x4 >>> (Int32.toUInt32 16 &&& Int32.toUInt32 31)).toInt32); some ((x5 &&& 63), h) ) :=
  (ax_entI (N := 94) (C := r_94) (by decide) rfl (Nat.le_of_ble_eq_true rfl)).trans rfl
/-- 95 BlackSun$Fit.nearestSet(LBlackSun$Book;II)I -/
noncomputable def Ft_nearestSet (v0 : Nat) (v1 : Nat) (v2 : Int32) (v3 : Int32) (h : ax_H) : Option (Int32 × ax_H) := (ax_EE 95).2.1 [.ref v0, .ref v1, .int v2, .int v3] h
noncomputable def Ft_nearestSet_19  (v0 : Nat) (v2 : Int32) (v3 : Int32) (v4 : Int32) (v5 : Int32) (v6 : Int64) (v8 : Int32) (h : ax_H) : Option (Int32 × ax_H) := ax_S ax_ρI (ax_env ax_EE 95) ax_nn r_95 r_95_19 [(0, .ref v0), (2, .int v2), (3, .int v3), (4, .int v4), (5, .int v5), (6, .long v6), (8, .int v8)] [] h
noncomputable def Ft_nearestSet_87 (k0 : Int32) (v0 : Nat) (v2 : Int32) (v3 : Int32) (v4 : Int32) (v5 : Int32) (v6 : Int64) (v8 : Int32) (v9 : Int32) (v10 : Int64) (h : ax_H) : Option (Int32 × ax_H) := ax_S ax_ρI (ax_env ax_EE 95) ax_nn r_95 r_95_87 [(0, .ref v0), (2, .int v2), (3, .int v3), (4, .int v4), (5, .int v5), (6, .long v6), (8, .int v8), (9, .int v9), (10, .long v10)] [.int k0] h
set_option maxRecDepth 100000 in
set_option maxHeartbeats 4000000 in
theorem Ft_nearestSet_eq (v0 : Nat) (v1 : Nat) (v2 : Int32) (v3 : Int32) (h : ax_H) : Ft_nearestSet v0 v1 v2 v3 h =
  (if (gS h v1).1 = 1 then if (gS h v0).1 = 7 then (Ft_findRulable v0 (gR h v1 2) h).bind (fun r1 => Ft_nearestSet_19 v0 v2 v3 r1.1 (-1) 0 0 r1.2 ) else none else none) :=
  (ax_entI (N := 95) (C := r_95) (by decide) rfl (Nat.le_of_ble_eq_true rfl)).trans rfl
set_option maxRecDepth 100000 in
set_option maxHeartbeats 4000000 in
theorem Ft_nearestSet_19_eq  (v0 : Nat) (v2 : Int32) (v3 : Int32) (v4 : Int32) (v5 : Int32) (v6 : Int64) (v8 : Int32) (h : ax_H) : Ft_nearestSet_19  v0 v2 v3 v4 v5 v6 v8 h =
  (if decide (((1 : Int32) <<< (v4 &&& 31)) ≤ v8) then
    (some (v5, h) )
  else
    (if (gS h v0).1 = 7 then (Ft_leaveOutChoice v0 v4 v8 h).bind (fun r1 => if (gS r1.2 v0).1 = 7 then (Ft_solve v0 r1.2).bind (fun r2 => if decide (¬ r2.1 = 0) then
      (if (gS r2.2 v0).1 = 7 then if ax_in r2.2 (gR r2.2 v0 2) 16 v2 then (Jm_abs ((Int32.toInt64 (gI r2.2 (gR r2.2 v0 2) (Int32.toNatClampNeg v2))) - (Int32.toInt64 v3)) r2.2).bind (fun r3 => if decide (v5 = (-1)) then
        (Ft_nearestSet_87 0 v0 v2 v3 v4 v5 v6 v8 r1.1 r3.1 r3.2 )
      else
        ((Ji_bitCount r1.1 r3.2).bind (fun r4 => (Ji_bitCount v5 r4.2).bind (fun r5 => if decide (r5.1 ≤ r4.1) then
          (Ft_nearestSet_87 0 v0 v2 v3 v4 v5 v6 v8 r1.1 r3.1 r5.2 )
        else
          (Ft_nearestSet_87 1 v0 v2 v3 v4 v5 v6 v8 r1.1 r3.1 r5.2 ) ) )) ) else none else none)
    else
      (Ft_nearestSet_19 v0 v2 v3 v4 v5 v6 (v8 + 1) r2.2 ) ) else none ) else none) ) :=
  (ax_S_eq _ _ _ _).trans rfl
set_option maxRecDepth 100000 in
set_option maxHeartbeats 4000000 in
theorem Ft_nearestSet_87_eq (k0 : Int32) (v0 : Nat) (v2 : Int32) (v3 : Int32) (v4 : Int32) (v5 : Int32) (v6 : Int64) (v8 : Int32) (v9 : Int32) (v10 : Int64) (h : ax_H) : Ft_nearestSet_87 k0 v0 v2 v3 v4 v5 v6 v8 v9 v10 h =
  (if decide (v5 = (-1)) then
    (if (gS h v0).1 = 7 then if ax_in h (gR h v0 2) 16 v2 then if (gS h v0).1 = 7 then let h1 := pI h v0 3 (gI h (gR h v0 2) (Int32.toNatClampNeg v2)); Ft_nearestSet_19 v0 v2 v3 v4 v9 v10 (v8 + 1) h1 else none else none else none)
  else
    (if decide ((lg_cmp v10 v6) < 0) then
      (if (gS h v0).1 = 7 then if ax_in h (gR h v0 2) 16 v2 then if (gS h v0).1 = 7 then let h2 := pI h v0 3 (gI h (gR h v0 2) (Int32.toNatClampNeg v2)); Ft_nearestSet_19 v0 v2 v3 v4 v9 v10 (v8 + 1) h2 else none else none else none)
    else
      (if decide (¬ (lg_cmp v10 v6) = 0) then
        (Ft_nearestSet_19 v0 v2 v3 v4 v5 v6 (v8 + 1) h )
      else
        (if decide (k0 = 0) then
          (Ft_nearestSet_19 v0 v2 v3 v4 v5 v6 (v8 + 1) h )
        else
          (if (gS h v0).1 = 7 then if ax_in h (gR h v0 2) 16 v2 then if (gS h v0).1 = 7 then let h3 := pI h v0 3 (gI h (gR h v0 2) (Int32.toNatClampNeg v2)); Ft_nearestSet_19 v0 v2 v3 v4 v9 v10 (v8 + 1) h3 else none else none else none) ) ) ) ) :=
  (ax_S_eq _ _ _ _).trans rfl
/-- 96 BlackSun.ruled(IIIII)I -/
noncomputable def B_ruled (v0 : Nat) (v1 : Int32) (v2 : Int32) (v3 : Int32) (v4 : Int32) (v5 : Int32) (h : ax_H) : Option (Int32 × ax_H) := (ax_EE 96).2.1 [.ref v0, .int v1, .int v2, .int v3, .int v4, .int v5] h
set_option maxRecDepth 100000 in
set_option maxHeartbeats 4000000 in
theorem B_ruled_eq (v0 : Nat) (v1 : Int32) (v2 : Int32) (v3 : Int32) (v4 : Int32) (v5 : Int32) (h : ax_H) : B_ruled v0 v1 v2 v3 v4 v5 h =
  (if (gS h v0).1 = 0 then if (gS h (gR h v0 0)).1 = 1 then (Bk_wayAt (gR h v0 0) v1 h).bind (fun r1 => if r1.1 = 0 then
    (some ((-2000000000), r1.2) )
  else
    ((B_isTerm v2 r1.2).bind (fun r2 => if decide (r2.1 = 0) then
      (some ((-2000000000), r2.2) )
    else
      (if (gS r2.2 r1.1).1 = 5 then if ax_in r2.2 (gR r2.2 r1.1 0) 16 v2 then if decide (¬ (gI r2.2 (gR r2.2 r1.1 0) (Int32.toNatClampNeg v2)) = 1) then
        (some ((-2000000000), r2.2) )
      else
        ((B_isWeek v3 r2.2).bind (fun r3 => if decide (¬ r3.1 = 0) then
          ((B_isWithin v4 (-99999) 99999 r3.2).bind (fun r4 => if decide (r4.1 = 0) then
            (some ((-2000000000), r4.2) )
          else
            ((B_isChoice v5 r4.2).bind (fun r5 => if decide (¬ r5.1 = 0) then
              (if (gS r5.2 v0).1 = 0 then if (gS r5.2 v0).1 = 0 then if (gS r5.2 (gR r5.2 v0 3)).1 = 7 then (Ft_open (gR r5.2 v0 3) (gR r5.2 v0 0) r1.1 v3 r5.2).bind (fun r6 => if decide (¬ r6.1 = 0) then
                (if (gS r6.2 v0).1 = 0 then if (gS r6.2 v0).1 = 0 then if (gS r6.2 (gR r6.2 v0 3)).1 = 7 then (Ft_nearestSet (gR r6.2 v0 3) (gR r6.2 v0 0) v2 v4 r6.2).bind (fun r7 => if decide (¬ r7.1 = (-1)) then
                  (if decide (¬ v5 = 0) then
                    (if (gS r7.2 v0).1 = 0 then if (gS r7.2 (gR r7.2 v0 3)).1 = 7 then some ((gI r7.2 (gR r7.2 v0 3) 3), r7.2) else none else none)
                  else
                    (some (r7.1, r7.2) ) )
                else
                  (some ((-1000000000), r7.2) ) ) else none else none else none)
              else
                (some ((-1000000000), r6.2) ) ) else none else none else none)
            else
              (some ((-2000000000), r5.2) ) )) ))
        else
          (some ((-2000000000), r3.2) ) )) else none else none) )) ) else none else none) :=
  (ax_entI (N := 96) (C := r_96) (by decide) rfl (Nat.le_of_ble_eq_true rfl)).trans rfl
/-- 97 BlackSun.isNumber(I)Z -/
noncomputable def B_isNumber (v0 : Int32) (h : ax_H) : Option (Int32 × ax_H) := (ax_EE 97).2.1 [.int v0] h
set_option maxRecDepth 100000 in
set_option maxHeartbeats 4000000 in
theorem B_isNumber_eq (v0 : Int32) (h : ax_H) : B_isNumber v0 h =
  ((B_isWithin v0 0 99999 h).bind (fun r1 => if r1.1 = 0 ∨ r1.1 = 1 then some (r1.1, r1.2) else none )) :=
  (ax_entI (N := 97) (C := r_97) (by decide) rfl (Nat.le_of_ble_eq_true rfl)).trans rfl
/-- 98 BlackSun.areThree(III)Z -/
noncomputable def B_areThree (v0 : Int32) (v1 : Int32) (v2 : Int32) (h : ax_H) : Option (Int32 × ax_H) := (ax_EE 98).2.1 [.int v0, .int v1, .int v2] h
set_option maxRecDepth 100000 in
set_option maxHeartbeats 4000000 in
theorem B_areThree_eq (v0 : Int32) (v1 : Int32) (v2 : Int32) (h : ax_H) : B_areThree v0 v1 v2 h =
  ((B_isNumber v0 h).bind (fun r1 => if decide (r1.1 = 0) then
    (some (0, r1.2) )
  else
    ((B_isNumber v1 r1.2).bind (fun r2 => if decide (r2.1 = 0) then
      (some (0, r2.2) )
    else
      ((B_isNumber v2 r2.2).bind (fun r3 => if decide (r3.1 = 0) then
        (some (0, r3.2) )
      else
        (some (1, r3.2) ) )) )) )) :=
  (ax_entI (N := 98) (C := r_98) (by decide) rfl (Nat.le_of_ble_eq_true rfl)).trans rfl
