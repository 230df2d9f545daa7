/-! the methods' equations, printed by wip/gen/eqs.py -/
/-- 99 BlackSun$Fit.leastOfThree(LBlackSun$Book;LBlackSun$Way;IIII)I -/
noncomputable def Ft_leastOfThree (v0 : Nat) (v1 : Nat) (v2 : Nat) (v3 : Int32) (v4 : Int32) (v5 : Int32) (v6 : Int32) (h : ax_H) : Option (Int32 × ax_H) := (ax_EE 99).2.1 [.ref v0, .ref v1, .ref v2, .int v3, .int v4, .int v5, .int v6] h
noncomputable def Ft_leastOfThree_17  (v0 : Nat) (v1 : Nat) (v2 : Nat) (v3 : Int32) (v4 : Int32) (v5 : Int32) (v6 : Int32) (v7 : Int32) (v8 : Int64) (v10 : Int32) (h : ax_H) : Option (Int32 × ax_H) := ax_S ax_ρI (ax_env ax_EE 99) ax_nn r_99 r_99_17 [(0, .ref v0), (1, .ref v1), (2, .ref v2), (3, .int v3), (4, .int v4), (5, .int v5), (6, .int v6), (7, .int v7), (8, .long v8), (10, .int v10)] [] h
noncomputable def Ft_leastOfThree_46 (k0 : Int32) (v0 : Nat) (v1 : Nat) (v2 : Nat) (v3 : Int32) (v4 : Int32) (v5 : Int32) (v6 : Int32) (v7 : Int32) (v8 : Int64) (v10 : Int32) (h : ax_H) : Option (Int32 × ax_H) := ax_S ax_ρI (ax_env ax_EE 99) ax_nn r_99 r_99_46 [(0, .ref v0), (1, .ref v1), (2, .ref v2), (3, .int v3), (4, .int v4), (5, .int v5), (6, .int v6), (7, .int v7), (8, .long v8), (10, .int v10)] [.int k0] h
noncomputable def Ft_leastOfThree_93 (k0 : Int64) (v0 : Nat) (v1 : Nat) (v2 : Nat) (v3 : Int32) (v4 : Int32) (v5 : Int32) (v6 : Int32) (v7 : Int32) (v8 : Int64) (v10 : Int32) (h : ax_H) : Option (Int32 × ax_H) := ax_S ax_ρI (ax_env ax_EE 99) ax_nn r_99 r_99_93 [(0, .ref v0), (1, .ref v1), (2, .ref v2), (3, .int v3), (4, .int v4), (5, .int v5), (6, .int v6), (7, .int v7), (8, .long v8), (10, .int v10)] [.long k0] h
set_option maxRecDepth 100000 in
set_option maxHeartbeats 4000000 in
theorem Ft_leastOfThree_eq (v0 : Nat) (v1 : Nat) (v2 : Nat) (v3 : Int32) (v4 : Int32) (v5 : Int32) (v6 : Int32) (h : ax_H) : Ft_leastOfThree v0 v1 v2 v3 v4 v5 v6 h =
  (if (gS h v0).1 = 7 then (Ft_take v0 v1 v2 v3 h).bind (fun h1 => Ft_leastOfThree_17 v0 v1 v2 v3 v4 v5 v6 (-2) 0 0 h1 ) else none) :=
  (ax_entI (N := 99) (C := r_99) (by decide) rfl (Nat.le_of_ble_eq_true rfl)).trans rfl
set_option maxRecDepth 100000 in
set_option maxHeartbeats 4000000 in
theorem Ft_leastOfThree_17_eq  (v0 : Nat) (v1 : Nat) (v2 : Nat) (v3 : Int32) (v4 : Int32) (v5 : Int32) (v6 : Int32) (v7 : Int32) (v8 : Int64) (v10 : Int32) (h : ax_H) : Ft_leastOfThree_17  v0 v1 v2 v3 v4 v5 v6 v7 v8 v10 h =
  (if decide ((3 : Int32) ≤ v10) then
    (some (v7, h) )
  else
    (if decide (¬ v10 = 0) then
      (if decide (¬ v10 = 1) then
        (Ft_leastOfThree_46 v6 v0 v1 v2 v3 v4 v5 v6 v7 v8 v10 h )
      else
        (Ft_leastOfThree_46 v5 v0 v1 v2 v3 v4 v5 v6 v7 v8 v10 h ) )
    else
      (Ft_leastOfThree_46 v4 v0 v1 v2 v3 v4 v5 v6 v7 v8 v10 h ) ) ) :=
  (ax_S_eq _ _ _ _).trans rfl
set_option maxRecDepth 100000 in
set_option maxHeartbeats 4000000 in
theorem Ft_leastOfThree_46_eq (k0 : Int32) (v0 : Nat) (v1 : Nat) (v2 : Nat) (v3 : Int32) (v4 : Int32) (v5 : Int32) (v6 : Int32) (v7 : Int32) (v8 : Int64) (v10 : Int32) (h : ax_H) : Ft_leastOfThree_46 k0 v0 v1 v2 v3 v4 v5 v6 v7 v8 v10 h =
  (if (gS h v0).1 = 7 then (Ft_settle v0 v1 v2 v3 k0 h).bind (fun r1 => if decide (¬ r1.1 = 0) then
    (if (gS r1.2 v0).1 = 7 then (Ft_makeRows v0 v1 r1.2).bind (fun h2 => if (gS h2 v1).1 = 1 then if (gS h2 v0).1 = 7 then (Ft_addUp v0 (gR h2 v1 3) h2).bind (fun h3 => if (gS h3 v0).1 = 7 then (Ft_solveAll v0 h3).bind (fun r4 => if decide (r4.1 = 0) then
      (Ft_leastOfThree_93 (-1) v0 v1 v2 v3 v4 v5 v6 v7 v8 v10 r4.2 )
    else
      (if (gS r4.2 v0).1 = 7 then (Ft_missed v0 r4.2).bind (fun r5 => Ft_leastOfThree_93 r5.1 v0 v1 v2 v3 v4 v5 v6 v7 v8 v10 r5.2 ) else none) ) else none ) else none else none ) else none)
  else
    (some (v7, r1.2) ) ) else none) :=
  (ax_S_eq _ _ _ _).trans rfl
set_option maxRecDepth 100000 in
set_option maxHeartbeats 4000000 in
theorem Ft_leastOfThree_93_eq (k0 : Int64) (v0 : Nat) (v1 : Nat) (v2 : Nat) (v3 : Int32) (v4 : Int32) (v5 : Int32) (v6 : Int32) (v7 : Int32) (v8 : Int64) (v10 : Int32) (h : ax_H) : Ft_leastOfThree_93 k0 v0 v1 v2 v3 v4 v5 v6 v7 v8 v10 h =
  (if decide ((lg_cmp k0 (-1)) = 0) then
    (Ft_leastOfThree_17 v0 v1 v2 v3 v4 v5 v6 v7 v8 (v10 + 1) h )
  else
    (if decide (v7 < 0) then
      (Ft_leastOfThree_17 v0 v1 v2 v3 v4 v5 v6 v10 k0 (v10 + 1) h )
    else
      (if decide ((0 : Int32) ≤ (lg_cmp k0 v8)) then
        (Ft_leastOfThree_17 v0 v1 v2 v3 v4 v5 v6 v7 v8 (v10 + 1) h )
      else
        (Ft_leastOfThree_17 v0 v1 v2 v3 v4 v5 v6 v10 k0 (v10 + 1) h ) ) ) ) :=
  (ax_S_eq _ _ _ _).trans rfl
/-- 100 BlackSun.three(IIIII)I -/
noncomputable def B_three (v0 : Nat) (v1 : Int32) (v2 : Int32) (v3 : Int32) (v4 : Int32) (v5 : Int32) (h : ax_H) : Option (Int32 × ax_H) := (ax_EE 100).2.1 [.ref v0, .int v1, .int v2, .int v3, .int v4, .int v5] h
set_option maxRecDepth 100000 in
set_option maxHeartbeats 4000000 in
theorem B_three_eq (v0 : Nat) (v1 : Int32) (v2 : Int32) (v3 : Int32) (v4 : Int32) (v5 : Int32) (h : ax_H) : B_three v0 v1 v2 v3 v4 v5 h =
  (if (gS h v0).1 = 0 then if (gS h (gR h v0 0)).1 = 1 then (Bk_wayAt (gR h v0 0) v1 h).bind (fun r1 => if r1.1 = 0 then
    (some ((-1), r1.2) )
  else
    ((B_isWeek v2 r1.2).bind (fun r2 => if decide (r2.1 = 0) then
      (some ((-1), r2.2) )
    else
      ((B_areThree v3 v4 v5 r2.2).bind (fun r3 => if decide (¬ r3.1 = 0) then
        (if (gS r3.2 v0).1 = 0 then if (gS r3.2 v0).1 = 0 then if (gS r3.2 (gR r3.2 v0 3)).1 = 7 then (Ft_leastOfThree (gR r3.2 v0 3) (gR r3.2 v0 0) r1.1 v2 v3 v4 v5 r3.2).bind (fun r4 => some (r4.1, r4.2) ) else none else none else none)
      else
        (some ((-1), r3.2) ) )) )) ) else none else none) :=
  (ax_entI (N := 100) (C := r_100) (by decide) rfl (Nat.le_of_ble_eq_true rfl)).trans rfl
/-- 101 BlackSun$Images.starsOnPlate(II)I -/
noncomputable def Im_starsOnPlate (v0 : Nat) (v1 : Int32) (v2 : Int32) (h : ax_H) : Option (Int32 × ax_H) := (ax_EE 101).2.1 [.ref v0, .int v1, .int v2] h
noncomputable def Im_starsOnPlate_5  (v0 : Nat) (v1 : Int32) (v2 : Int32) (v3 : Int32) (v4 : Int32) (h : ax_H) : Option (Int32 × ax_H) := ax_S ax_ρI (ax_env ax_EE 101) ax_nn r_101 r_101_5 [(0, .ref v0), (1, .int v1), (2, .int v2), (3, .int v3), (4, .int v4)] [] h
set_option maxRecDepth 100000 in
set_option maxHeartbeats 4000000 in
theorem Im_starsOnPlate_eq (v0 : Nat) (v1 : Int32) (v2 : Int32) (h : ax_H) : Im_starsOnPlate v0 v1 v2 h =
  (Im_starsOnPlate_5 v0 v1 v2 0 0 h ) :=
  (ax_entI (N := 101) (C := r_101) (by decide) rfl (Nat.le_of_ble_eq_true rfl)).trans rfl
set_option maxRecDepth 100000 in
set_option maxHeartbeats 4000000 in
theorem Im_starsOnPlate_5_eq  (v0 : Nat) (v1 : Int32) (v2 : Int32) (v3 : Int32) (v4 : Int32) (h : ax_H) : Im_starsOnPlate_5  v0 v1 v2 v3 v4 h =
  (if (gS h v0).1 = 4 then if decide ((gI h v0 0) ≤ v4) then
    (some (v3, h) )
  else
    (if (gS h v0).1 = 4 then if ax_in h (gR h v0 1) 16 v4 then if decide (¬ (gI h (gR h v0 1) (Int32.toNatClampNeg v4)) = v1) then
      (Im_starsOnPlate_5 v0 v1 v2 v3 (v4 + 1) h )
    else
      (if (gS h v0).1 = 4 then (Im_isKnown v0 v4 v2 h).bind (fun r1 => if decide (r1.1 = 0) then
        (Im_starsOnPlate_5 v0 v1 v2 v3 (v4 + 1) r1.2 )
      else
        (if (gS r1.2 v0).1 = 4 then if ax_in r1.2 (gR r1.2 v0 2) 16 v4 then let x2 := (v3 ||| ((1 : Int32) <<< ((gI r1.2 (gR r1.2 v0 2) (Int32.toNatClampNeg v4)) &&& 31))); Im_starsOnPlate_5 v0 v1 v2 x2 (v4 + 1) r1.2 else none else none) ) else none) else none else none) else none) :=
  (ax_S_eq _ _ _ _).trans rfl
/-- 102 BlackSun$Mix.add(LBlackSun$Stars;II)V -/
noncomputable def Mx_add (v0 : Nat) (v1 : Nat) (v2 : Int32) (v3 : Int32) (h : ax_H) : Option (ax_H) := (ax_EE 102).1 [.ref v0, .ref v1, .int v2, .int v3] h
noncomputable def Mx_add_3  (v0 : Nat) (v1 : Nat) (v2 : Int32) (v3 : Int32) (v4 : Int32) (h : ax_H) : Option (ax_H) := ax_S ax_ρV (ax_env ax_EE 102) ax_nn r_102 r_102_3 [(0, .ref v0), (1, .ref v1), (2, .int v2), (3, .int v3), (4, .int v4)] [] h
noncomputable def Mx_add_29  (v0 : Nat) (v1 : Nat) (v2 : Int32) (v3 : Int32) (v4 : Int32) (v5 : Int32) (v6 : Int32) (h : ax_H) : Option (ax_H) := ax_S ax_ρV (ax_env ax_EE 102) ax_nn r_102 r_102_29 [(0, .ref v0), (1, .ref v1), (2, .int v2), (3, .int v3), (4, .int v4), (5, .int v5), (6, .int v6)] [] h
noncomputable def Mx_add_46  (v0 : Nat) (v1 : Nat) (v2 : Int32) (v3 : Int32) (v4 : Int32) (v5 : Int32) (v6 : Int32) (h : ax_H) : Option (ax_H) := ax_S ax_ρV (ax_env ax_EE 102) ax_nn r_102 r_102_46 [(0, .ref v0), (1, .ref v1), (2, .int v2), (3, .int v3), (4, .int v4), (5, .int v5), (6, .int v6)] [] h
noncomputable def Mx_add_63  (v0 : Nat) (v1 : Nat) (v2 : Int32) (v3 : Int32) (v4 : Int32) (v5 : Int32) (v6 : Int32) (h : ax_H) : Option (ax_H) := ax_S ax_ρV (ax_env ax_EE 102) ax_nn r_102 r_102_63 [(0, .ref v0), (1, .ref v1), (2, .int v2), (3, .int v3), (4, .int v4), (5, .int v5), (6, .int v6)] [] h
set_option maxRecDepth 100000 in
set_option maxHeartbeats 4000000 in
theorem Mx_add_eq (v0 : Nat) (v1 : Nat) (v2 : Int32) (v3 : Int32) (h : ax_H) : Mx_add v0 v1 v2 v3 h =
  (Mx_add_3 v0 v1 v2 v3 0 h ) :=
  (ax_entV (N := 102) (C := r_102) (by decide) rfl (Nat.le_of_ble_eq_true rfl)).trans rfl
set_option maxRecDepth 100000 in
set_option maxHeartbeats 4000000 in
theorem Mx_add_3_eq  (v0 : Nat) (v1 : Nat) (v2 : Int32) (v3 : Int32) (v4 : Int32) (h : ax_H) : Mx_add_3  v0 v1 v2 v3 v4 h =
  (if decide ((2 : Int32) ≤ v4) then
    (some h )
  else
    (if (gS h v1).1 = 2 then (St_give v1 2 v2 v4 h).bind (fun r1 => if (gS r1.2 v1).1 = 2 then (St_give v1 4 v2 v4 r1.2).bind (fun r2 => Mx_add_29 v0 v1 v2 v3 v4 r1.1 r2.1 r2.2 ) else none ) else none) ) :=
  (ax_S_eq _ _ _ _).trans rfl
set_option maxRecDepth 100000 in
set_option maxHeartbeats 4000000 in
theorem Mx_add_29_eq  (v0 : Nat) (v1 : Nat) (v2 : Int32) (v3 : Int32) (v4 : Int32) (v5 : Int32) (v6 : Int32) (h : ax_H) : Mx_add_29  v0 v1 v2 v3 v4 v5 v6 h =
  (if (gS h v0).1 = 8 then if (gS h v0).1 = 8 then let h1 := pL h v0 0 ((gL h v0 0) + (Int32.toInt64 ((v3 * v5) * v5))); Mx_add_46 v0 v1 v2 v3 v4 v5 v6 h1 else none else none) :=
  (ax_S_eq _ _ _ _).trans rfl
set_option maxRecDepth 100000 in
set_option maxHeartbeats 4000000 in
theorem Mx_add_46_eq  (v0 : Nat) (v1 : Nat) (v2 : Int32) (v3 : Int32) (v4 : Int32) (v5 : Int32) (v6 : Int32) (h : ax_H) : Mx_add_46  v0 v1 v2 v3 v4 v5 v6 h =
  (if (gS h v0).1 = 8 then if (gS h v0).1 = 8 then let h1 := pL h v0 1 ((gL h v0 1) + (Int32.toInt64 ((v3 * v6) * v6))); Mx_add_63 v0 v1 v2 v3 v4 v5 v6 h1 else none else none) :=
  (ax_S_eq _ _ _ _).trans rfl
set_option maxRecDepth 100000 in
set_option maxHeartbeats 4000000 in
theorem Mx_add_63_eq  (v0 : Nat) (v1 : Nat) (v2 : Int32) (v3 : Int32) (v4 : Int32) (v5 : Int32) (v6 : Int32) (h : ax_H) : Mx_add_63  v0 v1 v2 v3 v4 v5 v6 h =
  (if (gS h v0).1 = 8 then if (gS h v0).1 = 8 then let h1 := pL h v0 2 ((gL h v0 2) + (Int32.toInt64 ((v3 * v5) * v6))); Mx_add_3 v0 v1 v2 v3 (v4 + 1) h1 else none else none) :=
  (ax_S_eq _ _ _ _).trans rfl
/-- 103 BlackSun$Mix.gather(LBlackSun$Book;II)V -/
noncomputable def Mx_gather (v0 : Nat) (v1 : Nat) (v2 : Int32) (v3 : Int32) (h : ax_H) : Option (ax_H) := (ax_EE 103).1 [.ref v0, .ref v1, .int v2, .int v3] h
noncomputable def Mx_gather_29  (v0 : Nat) (v1 : Nat) (v4 : Int32) (v5 : Int32) (h : ax_H) : Option (ax_H) := ax_S ax_ρV (ax_env ax_EE 103) ax_nn r_103 r_103_29 [(0, .ref v0), (1, .ref v1), (4, .int v4), (5, .int v5)] [] h
set_option maxRecDepth 100000 in
set_option maxHeartbeats 4000000 in
theorem Mx_gather_eq (v0 : Nat) (v1 : Nat) (v2 : Int32) (v3 : Int32) (h : ax_H) : Mx_gather v0 v1 v2 v3 h =
  (if (gS h v0).1 = 8 then let h1 := pL h v0 0 0; if (gS h1 v0).1 = 8 then let h2 := pL h1 v0 1 0; if (gS h2 v0).1 = 8 then let h3 := pL h2 v0 2 0; if (gS h3 v1).1 = 1 then if (gS h3 (gR h3 v1 3)).1 = 4 then (Im_starsOnPlate (gR h3 v1 3) v2 v3 h3).bind (fun r4 => Mx_gather_29 v0 v1 r4.1 0 r4.2 ) else none else none else none else none else none) :=
  (ax_entV (N := 103) (C := r_103) (by decide) rfl (Nat.le_of_ble_eq_true rfl)).trans rfl
set_option maxRecDepth 100000 in
set_option maxHeartbeats 4000000 in
theorem Mx_gather_29_eq  (v0 : Nat) (v1 : Nat) (v4 : Int32) (v5 : Int32) (h : ax_H) : Mx_gather_29  v0 v1 v4 v5 h =
  (if (gS h v1).1 = 1 then if (gS h (gR h v1 1)).1 = 2 then if decide ((gI h (gR h v1 1) 0) ≤ v5) then
    (some h )
  else
    (if decide (((v4 >>> (v5 &&& 31)) &&& 1) = 0) then
      (Mx_gather_29 v0 v1 v4 (v5 + 1) h )
    else
      (if (gS h v1).1 = 1 then if (gS h v0).1 = 8 then (Mx_add v0 (gR h v1 1) v5 1 h).bind (fun h1 => Mx_gather_29 v0 v1 v4 (v5 + 1) h1 ) else none else none) ) else none else none) :=
  (ax_S_eq _ _ _ _).trans rfl
/-- 104 BlackSun$Mix.above()J -/
noncomputable def Mx_above (v0 : Nat) (h : ax_H) : Option (Int64 × ax_H) := (ax_EE 104).2.2.1 [.ref v0] h
set_option maxRecDepth 100000 in
set_option maxHeartbeats 4000000 in
theorem Mx_above_eq (v0 : Nat) (h : ax_H) : Mx_above v0 h =
  (if (gS h v0).1 = 8 then if (gS h v0).1 = 8 then some (((gL h v0 2) * (gL h v0 2)), h) else none else none) :=
  (ax_entL (N := 104) (C := r_104) (by decide) rfl (Nat.le_of_ble_eq_true rfl)).trans rfl
/-- 105 BlackSun$Mix.below()J -/
noncomputable def Mx_below (v0 : Nat) (h : ax_H) : Option (Int64 × ax_H) := (ax_EE 105).2.2.1 [.ref v0] h
set_option maxRecDepth 100000 in
set_option maxHeartbeats 4000000 in
theorem Mx_below_eq (v0 : Nat) (h : ax_H) : Mx_below v0 h =
  (if (gS h v0).1 = 8 then if (gS h v0).1 = 8 then some (((gL h v0 0) * (gL h v0 1)), h) else none else none) :=
  (ax_entL (N := 105) (C := r_105) (by decide) rfl (Nat.le_of_ble_eq_true rfl)).trans rfl
/-- 106 BlackSun.commonDivisor(JJ)J -/
noncomputable def B_commonDivisor (v0 : Int64) (v2 : Int64) (h : ax_H) : Option (Int64 × ax_H) := (ax_EE 106).2.2.1 [.long v0, .long v2] h
noncomputable def B_commonDivisor_9  (v4 : Int64) (v6 : Int64) (v8 : Int32) (h : ax_H) : Option (Int64 × ax_H) := ax_S ax_ρL (ax_env ax_EE 106) ax_nn r_106 r_106_9 [(4, .long v4), (6, .long v6), (8, .int v8)] [] h
set_option maxRecDepth 100000 in
set_option maxHeartbeats 4000000 in
theorem B_commonDivisor_eq (v0 : Int64) (v2 : Int64) (h : ax_H) : B_commonDivisor v0 v2 h =
  (B_commonDivisor_9 v0 v2 0 h ) :=
  (ax_entL (N := 106) (C := r_106) (by decide) rfl (Nat.le_of_ble_eq_true rfl)).trans rfl
set_option maxRecDepth 100000 in
set_option maxHeartbeats 4000000 in
theorem B_commonDivisor_9_eq  (v4 : Int64) (v6 : Int64) (v8 : Int32) (h : ax_H) : B_commonDivisor_9  v4 v6 v8 h =
  (if decide ((100 : Int32) ≤ v8) then
    (some (v4, h) )
  else
    (if decide ((lg_cmp v6 0) = 0) then
      (some (v4, h) )
    else
      (if v6 = 0 then none else B_commonDivisor_9 v6 (v4 - v4 / v6 * v6) (v8 + 1) h ) ) ) :=
  (ax_S_eq _ _ _ _).trans rfl
/-- 107 BlackSun.lowest(JJI)J -/
noncomputable def B_lowest (v0 : Int64) (v2 : Int64) (v4 : Int32) (h : ax_H) : Option (Int64 × ax_H) := (ax_EE 107).2.2.1 [.long v0, .long v2, .int v4] h
set_option maxRecDepth 100000 in
set_option maxHeartbeats 4000000 in
theorem B_lowest_eq (v0 : Int64) (v2 : Int64) (v4 : Int32) (h : ax_H) : B_lowest v0 v2 v4 h =
  (if decide ((lg_cmp v0 0) = 0) then
    (some ((Int32.toInt64 v4), h) )
  else
    (if decide ((0 : Int32) < (lg_cmp v2 0)) then
      ((Jm_abs v0 h).bind (fun r1 => (B_commonDivisor r1.1 v2 r1.2).bind (fun r2 => if decide ((0 : Int32) < (lg_cmp r2.1 0)) then
        (if decide (¬ v4 = 0) then
          (if r2.1 = 0 then none else some ((v2 / r2.1), r2.2) )
        else
          (if r2.1 = 0 then none else some ((v0 / r2.1), r2.2) ) )
      else
        (some ((Int32.toInt64 v4), r2.2) ) ) ))
    else
      (some ((Int32.toInt64 v4), h) ) ) ) :=
  (ax_entL (N := 107) (C := r_107) (by decide) rfl (Nat.le_of_ble_eq_true rfl)).trans rfl
/-- 108 BlackSun.mixed(III)J -/
noncomputable def B_mixed (v0 : Nat) (v1 : Int32) (v2 : Int32) (v3 : Int32) (h : ax_H) : Option (Int64 × ax_H) := (ax_EE 108).2.2.1 [.ref v0, .int v1, .int v2, .int v3] h
set_option maxRecDepth 100000 in
set_option maxHeartbeats 4000000 in
theorem B_mixed_eq (v0 : Nat) (v1 : Int32) (v2 : Int32) (v3 : Int32) (h : ax_H) : B_mixed v0 v1 v2 v3 h =
  (if (gS h v0).1 = 0 then if (gS h (gR h v0 0)).1 = 1 then if (gS h (gR h (gR h v0 0) 2)).1 = 3 then (Pl_has (gR h (gR h v0 0) 2) v1 h).bind (fun r1 => if decide (r1.1 = 0) then
    (some ((-1), r1.2) )
  else
    ((B_isWeek v2 r1.2).bind (fun r2 => if decide (r2.1 = 0) then
      (some ((-1), r2.2) )
    else
      ((B_isChoice v3 r2.2).bind (fun r3 => if decide (¬ r3.1 = 0) then
        (if (gS r3.2 v0).1 = 0 then if (gS r3.2 v0).1 = 0 then if (gS r3.2 (gR r3.2 v0 4)).1 = 8 then (Mx_gather (gR r3.2 v0 4) (gR r3.2 v0 0) v1 v2 r3.2).bind (fun h4 => if (gS h4 v0).1 = 0 then if (gS h4 (gR h4 v0 4)).1 = 8 then (Mx_above (gR h4 v0 4) h4).bind (fun r5 => if (gS r5.2 v0).1 = 0 then if (gS r5.2 (gR r5.2 v0 4)).1 = 8 then (Mx_below (gR r5.2 v0 4) r5.2).bind (fun r6 => (B_lowest r5.1 r6.1 v3 r6.2).bind (fun r7 => some (r7.1, r7.2) ) ) else none else none ) else none else none ) else none else none else none)
      else
        (some ((-1), r3.2) ) )) )) ) else none else none else none) :=
  (ax_entL (N := 108) (C := r_108) (by decide) rfl (Nat.le_of_ble_eq_true rfl)).trans rfl
/-- 109 BlackSun$Mix.bestParter(LBlackSun$Book;II)I -/
noncomputable def Mx_bestParter (v0 : Nat) (v1 : Nat) (v2 : Int32) (v3 : Int32) (h : ax_H) : Option (Int32 × ax_H) := (ax_EE 109).2.1 [.ref v0, .ref v1, .int v2, .int v3] h
noncomputable def Mx_bestParter_30  (v0 : Nat) (v1 : Nat) (v4 : Int32) (v5 : Int32) (v6 : Int64) (v8 : Int64) (v10 : Int32) (h : ax_H) : Option (Int32 × ax_H) := ax_S ax_ρI (ax_env ax_EE 109) ax_nn r_109 r_109_30 [(0, .ref v0), (1, .ref v1), (4, .int v4), (5, .int v5), (6, .long v6), (8, .long v8), (10, .int v10)] [] h
noncomputable def Mx_bestParter_87  (v0 : Nat) (v1 : Nat) (v4 : Int32) (v10 : Int32) (h : ax_H) : Option (Int32 × ax_H) := ax_S ax_ρI (ax_env ax_EE 109) ax_nn r_109 r_109_87 [(0, .ref v0), (1, .ref v1), (4, .int v4), (10, .int v10)] [] h
set_option maxRecDepth 100000 in
set_option maxHeartbeats 4000000 in
theorem Mx_bestParter_eq (v0 : Nat) (v1 : Nat) (v2 : Int32) (v3 : Int32) (h : ax_H) : Mx_bestParter v0 v1 v2 v3 h =
  (if (gS h v0).1 = 8 then (Mx_gather v0 v1 v2 v3 h).bind (fun h1 => if (gS h1 v1).1 = 1 then if (gS h1 (gR h1 v1 3)).1 = 4 then (Im_starsOnPlate (gR h1 v1 3) v2 v3 h1).bind (fun r2 => Mx_bestParter_30 v0 v1 r2.1 (-1) 0 1 0 r2.2 ) else none else none ) else none) :=
  (ax_entI (N := 109) (C := r_109) (by decide) rfl (Nat.le_of_ble_eq_true rfl)).trans rfl
set_option maxRecDepth 100000 in
set_option maxHeartbeats 4000000 in
theorem Mx_bestParter_30_eq  (v0 : Nat) (v1 : Nat) (v4 : Int32) (v5 : Int32) (v6 : Int64) (v8 : Int64) (v10 : Int32) (h : ax_H) : Mx_bestParter_30  v0 v1 v4 v5 v6 v8 v10 h =
  (if (gS h v1).1 = 1 then if (gS h (gR h v1 1)).1 = 2 then if decide ((gI h (gR h v1 1) 0) ≤ v10) then
    (some (v5, h) )
  else
    (if decide (¬ ((v4 >>> (v10 &&& 31)) &&& 1) = 0) then
      (Mx_bestParter_30 v0 v1 v4 v5 v6 v8 (v10 + 1) h )
    else
      (if (gS h v1).1 = 1 then if (gS h v0).1 = 8 then (Mx_add v0 (gR h v1 1) v10 1 h).bind (fun h1 => if decide (v5 = (-1)) then
        (Mx_bestParter_87 v0 v1 v4 v10 h1 )
      else
        (if (gS h1 v0).1 = 8 then (Mx_above v0 h1).bind (fun r2 => if (gS r2.2 v0).1 = 8 then (Mx_below v0 r2.2).bind (fun r3 => if decide ((0 : Int32) ≤ (lg_cmp (r2.1 * v8) (v6 * r3.1))) then
          (if (gS r3.2 v1).1 = 1 then if (gS r3.2 v0).1 = 8 then (Mx_add v0 (gR r3.2 v1 1) v10 (-1) r3.2).bind (fun h4 => Mx_bestParter_30 v0 v1 v4 v5 v6 v8 (v10 + 1) h4 ) else none else none)
        else
          (Mx_bestParter_87 v0 v1 v4 v10 r3.2 ) ) else none ) else none) ) else none else none) ) else none else none) :=
  (ax_S_eq _ _ _ _).trans rfl
set_option maxRecDepth 100000 in
set_option maxHeartbeats 4000000 in
theorem Mx_bestParter_87_eq  (v0 : Nat) (v1 : Nat) (v4 : Int32) (v10 : Int32) (h : ax_H) : Mx_bestParter_87  v0 v1 v4 v10 h =
  (if (gS h v0).1 = 8 then (Mx_above v0 h).bind (fun r1 => if (gS r1.2 v0).1 = 8 then (Mx_below v0 r1.2).bind (fun r2 => if (gS r2.2 v1).1 = 1 then if (gS r2.2 v0).1 = 8 then (Mx_add v0 (gR r2.2 v1 1) v10 (-1) r2.2).bind (fun h3 => Mx_bestParter_30 v0 v1 v4 v10 r1.1 r2.1 (v10 + 1) h3 ) else none else none ) else none ) else none) :=
  (ax_S_eq _ _ _ _).trans rfl
/-- 110 BlackSun.parter(II)I -/
noncomputable def B_parter (v0 : Nat) (v1 : Int32) (v2 : Int32) (h : ax_H) : Option (Int32 × ax_H) := (ax_EE 110).2.1 [.ref v0, .int v1, .int v2] h
set_option maxRecDepth 100000 in
set_option maxHeartbeats 4000000 in
theorem B_parter_eq (v0 : Nat) (v1 : Int32) (v2 : Int32) (h : ax_H) : B_parter v0 v1 v2 h =
  (if (gS h v0).1 = 0 then if (gS h (gR h v0 0)).1 = 1 then if (gS h (gR h (gR h v0 0) 2)).1 = 3 then (Pl_has (gR h (gR h v0 0) 2) v1 h).bind (fun r1 => if decide (r1.1 = 0) then
    (some ((-1), r1.2) )
  else
    ((B_isWeek v2 r1.2).bind (fun r2 => if decide (¬ r2.1 = 0) then
      (if (gS r2.2 v0).1 = 0 then if (gS r2.2 v0).1 = 0 then if (gS r2.2 (gR r2.2 v0 4)).1 = 8 then (Mx_bestParter (gR r2.2 v0 4) (gR r2.2 v0 0) v1 v2 r2.2).bind (fun r3 => some (r3.1, r3.2) ) else none else none else none)
    else
      (some ((-1), r2.2) ) )) ) else none else none else none) :=
  (ax_entI (N := 110) (C := r_110) (by decide) rfl (Nat.le_of_ble_eq_true rfl)).trans rfl
/-- 111 BlackSun.isNear(III)Z -/
noncomputable def B_isNear (v0 : Int32) (v1 : Int32) (v2 : Int32) (h : ax_H) : Option (Int32 × ax_H) := (ax_EE 111).2.1 [.int v0, .int v1, .int v2] h
set_option maxRecDepth 100000 in
set_option maxHeartbeats 4000000 in
theorem B_isNear_eq (v0 : Int32) (v1 : Int32) (v2 : Int32) (h : ax_H) : B_isNear v0 v1 v2 h =
  ((Jm_abs ((Int32.toInt64 v0) - (Int32.toInt64 v1)) h).bind (fun r1 => if decide ((0 : Int32) < (lg_cmp r1.1 (Int32.toInt64 v2))) then
    (some (0, r1.2) )
  else
    (some (1, r1.2) ) )) :=
  (ax_entI (N := 111) (C := r_111) (by decide) rfl (Nat.le_of_ble_eq_true rfl)).trans rfl
/-- 112 BlackSun$Images.isOnPlate(II)Z -/
noncomputable def Im_isOnPlate (v0 : Nat) (v1 : Int32) (v2 : Int32) (h : ax_H) : Option (Int32 × ax_H) := (ax_EE 112).2.1 [.ref v0, .int v1, .int v2] h
noncomputable def Im_isOnPlate_2  (v0 : Nat) (v1 : Int32) (v2 : Int32) (v3 : Int32) (h : ax_H) : Option (Int32 × ax_H) := ax_S ax_ρI (ax_env ax_EE 112) ax_nn r_112 r_112_2 [(0, .ref v0), (1, .int v1), (2, .int v2), (3, .int v3)] [] h
set_option maxRecDepth 100000 in
set_option maxHeartbeats 4000000 in
theorem Im_isOnPlate_eq (v0 : Nat) (v1 : Int32) (v2 : Int32) (h : ax_H) : Im_isOnPlate v0 v1 v2 h =
  (Im_isOnPlate_2 v0 v1 v2 0 h ) :=
  (ax_entI (N := 112) (C := r_112) (by decide) rfl (Nat.le_of_ble_eq_true rfl)).trans rfl
set_option maxRecDepth 100000 in
set_option maxHeartbeats 4000000 in
theorem Im_isOnPlate_2_eq  (v0 : Nat) (v1 : Int32) (v2 : Int32) (v3 : Int32) (h : ax_H) : Im_isOnPlate_2  v0 v1 v2 v3 h =
  (if (gS h v0).1 = 4 then if decide ((gI h v0 0) ≤ v3) then
    (some (0, h) )
  else
    (if (gS h v0).1 = 4 then if ax_in h (gR h v0 1) 16 v3 then if decide (¬ (gI h (gR h v0 1) (Int32.toNatClampNeg v3)) = v1) then
      (Im_isOnPlate_2 v0 v1 v2 (v3 + 1) h )
    else
      (if (gS h v0).1 = 4 then (Im_isKnown v0 v3 v2 h).bind (fun r1 => if decide (r1.1 = 0) then
        (Im_isOnPlate_2 v0 v1 v2 (v3 + 1) r1.2 )
      else
        (some (1, r1.2) ) ) else none) else none else none) else none) :=
  (ax_S_eq _ _ _ _).trans rfl
/-- 113 BlackSun$Book.hasCheckNear(III)Z -/
noncomputable def Bk_hasCheckNear (v0 : Nat) (v1 : Int32) (v2 : Int32) (v3 : Int32) (h : ax_H) : Option (Int32 × ax_H) := (ax_EE 113).2.1 [.ref v0, .int v1, .int v2, .int v3] h
noncomputable def Bk_hasCheckNear_3  (v0 : Nat) (v1 : Int32) (v2 : Int32) (v3 : Int32) (v4 : Int32) (h : ax_H) : Option (Int32 × ax_H) := ax_S ax_ρI (ax_env ax_EE 113) ax_nn r_113 r_113_3 [(0, .ref v0), (1, .int v1), (2, .int v2), (3, .int v3), (4, .int v4)] [] h
noncomputable def Bk_hasCheckNear_82 (k0 : Int32) (v0 : Nat) (v1 : Int32) (v2 : Int32) (v3 : Int32) (v4 : Int32) (h : ax_H) : Option (Int32 × ax_H) := ax_S ax_ρI (ax_env ax_EE 113) ax_nn r_113 r_113_82 [(0, .ref v0), (1, .int v1), (2, .int v2), (3, .int v3), (4, .int v4)] [.int k0] h
set_option maxRecDepth 100000 in
set_option maxHeartbeats 4000000 in
theorem Bk_hasCheckNear_eq (v0 : Nat) (v1 : Int32) (v2 : Int32) (v3 : Int32) (h : ax_H) : Bk_hasCheckNear v0 v1 v2 v3 h =
  (Bk_hasCheckNear_3 v0 v1 v2 v3 0 h ) :=
  (ax_entI (N := 113) (C := r_113) (by decide) rfl (Nat.le_of_ble_eq_true rfl)).trans rfl
set_option maxRecDepth 100000 in
set_option maxHeartbeats 4000000 in
theorem Bk_hasCheckNear_3_eq  (v0 : Nat) (v1 : Int32) (v2 : Int32) (v3 : Int32) (v4 : Int32) (h : ax_H) : Bk_hasCheckNear_3  v0 v1 v2 v3 v4 h =
  (if (gS h v0).1 = 1 then if (gS h (gR h v0 2)).1 = 3 then if decide ((gI h (gR h v0 2) 0) ≤ v4) then
    (some (0, h) )
  else
    (if (gS h v0).1 = 1 then if (gS h (gR h v0 2)).1 = 3 then if ax_in h (gR h (gR h v0 2) 2) 16 v4 then if decide (¬ (gI h (gR h (gR h v0 2) 2) (Int32.toNatClampNeg v4)) = 2) then
      (Bk_hasCheckNear_82 0 v0 v1 v2 v3 v4 h )
    else
      (if (gS h v0).1 = 1 then if (gS h (gR h v0 2)).1 = 3 then if ax_in h (gR h (gR h v0 2) 1) 16 v4 then if (gS h v0).1 = 1 then if (gS h (gR h v0 2)).1 = 3 then if ax_in h (gR h (gR h v0 2) 1) 16 v1 then if decide (¬ (gI h (gR h (gR h v0 2) 1) (Int32.toNatClampNeg v4)) = (gI h (gR h (gR h v0 2) 1) (Int32.toNatClampNeg v1))) then
        (Bk_hasCheckNear_82 0 v0 v1 v2 v3 v4 h )
      else
        (if (gS h v0).1 = 1 then if (gS h (gR h v0 2)).1 = 3 then if ax_in h (gR h (gR h v0 2) 3) 16 v4 then if (gS h v0).1 = 1 then if (gS h (gR h v0 2)).1 = 3 then if ax_in h (gR h (gR h v0 2) 3) 16 v1 then (B_isNear (gI h (gR h (gR h v0 2) 3) (Int32.toNatClampNeg v4)) (gI h (gR h (gR h v0 2) 3) (Int32.toNatClampNeg v1)) v3 h).bind (fun r1 => if decide (r1.1 = 0) then
          (Bk_hasCheckNear_82 0 v0 v1 v2 v3 v4 r1.2 )
        else
          (Bk_hasCheckNear_82 1 v0 v1 v2 v3 v4 r1.2 ) ) else none else none else none else none else none else none) else none else none else none else none else none else none) else none else none else none) else none else none) :=
  (ax_S_eq _ _ _ _).trans rfl
set_option maxRecDepth 100000 in
set_option maxHeartbeats 4000000 in
theorem Bk_hasCheckNear_82_eq (k0 : Int32) (v0 : Nat) (v1 : Int32) (v2 : Int32) (v3 : Int32) (v4 : Int32) (h : ax_H) : Bk_hasCheckNear_82 k0 v0 v1 v2 v3 v4 h =
  (if decide (k0 = 0) then
    (Bk_hasCheckNear_3 v0 v1 v2 v3 (v4 + 1) h )
  else
    (if (gS h v0).1 = 1 then if (gS h (gR h v0 3)).1 = 4 then (Im_isOnPlate (gR h v0 3) v4 v2 h).bind (fun r1 => if decide (r1.1 = 0) then
      (Bk_hasCheckNear_3 v0 v1 v2 v3 (v4 + 1) r1.2 )
    else
      (some (1, r1.2) ) ) else none else none) ) :=
  (ax_S_eq _ _ _ _).trans rfl
/-- 114 BlackSun.usable(III)I -/
noncomputable def B_usable (v0 : Nat) (v1 : Int32) (v2 : Int32) (v3 : Int32) (h : ax_H) : Option (Int32 × ax_H) := (ax_EE 114).2.1 [.ref v0, .int v1, .int v2, .int v3] h
set_option maxRecDepth 100000 in
set_option maxHeartbeats 4000000 in
theorem B_usable_eq (v0 : Nat) (v1 : Int32) (v2 : Int32) (v3 : Int32) (h : ax_H) : B_usable v0 v1 v2 v3 h =
  (if (gS h v0).1 = 0 then if (gS h (gR h v0 0)).1 = 1 then if (gS h (gR h (gR h v0 0) 2)).1 = 3 then (Pl_has (gR h (gR h v0 0) 2) v1 h).bind (fun r1 => if decide (r1.1 = 0) then
    (some ((-1), r1.2) )
  else
    (if (gS r1.2 v0).1 = 0 then if (gS r1.2 (gR r1.2 v0 0)).1 = 1 then if (gS r1.2 (gR r1.2 (gR r1.2 v0 0) 2)).1 = 3 then if ax_in r1.2 (gR r1.2 (gR r1.2 (gR r1.2 v0 0) 2) 2) 16 v1 then if decide ((gI r1.2 (gR r1.2 (gR r1.2 (gR r1.2 v0 0) 2) 2) (Int32.toNatClampNeg v1)) = 0) then
      ((B_isWeek v2 r1.2).bind (fun r2 => if decide (r2.1 = 0) then
        (some ((-1), r2.2) )
      else
        ((B_isWithin v3 0 99 r2.2).bind (fun r3 => if decide (¬ r3.1 = 0) then
          (if (gS r3.2 v0).1 = 0 then if (gS r3.2 (gR r3.2 v0 0)).1 = 1 then (Bk_hasCheckNear (gR r3.2 v0 0) v1 v2 v3 r3.2).bind (fun r4 => if decide (r4.1 = 0) then
            (some (0, r4.2) )
          else
            (some (1, r4.2) ) ) else none else none)
        else
          (some ((-1), r3.2) ) )) ))
    else
      (some ((-1), r1.2) ) else none else none else none else none) ) else none else none else none) :=
  (ax_entI (N := 114) (C := r_114) (by decide) rfl (Nat.le_of_ble_eq_true rfl)).trans rfl
/-- 115 java/lang/Math.min(II)I -/
noncomputable def Jm_min (v0 : Int32) (v1 : Int32) (h : ax_H) : Option (Int32 × ax_H) := (ax_EE 115).2.1 [.int v0, .int v1] h
set_option maxRecDepth 100000 in
set_option maxHeartbeats 4000000 in
theorem Jm_min_eq (v0 : Int32) (v1 : Int32) (h : ax_H) : Jm_min v0 v1 h =
  (if decide (v1 < v0) then
    (some (v1, h) )
  else
    (some (v0, h) ) ) :=
  (ax_entI (N := 115) (C := r_115) (by decide) rfl (Nat.le_of_ble_eq_true rfl)).trans rfl
/-- 116 BlackSun.tell(II)Z -/
noncomputable def B_tell (v0 : Nat) (v1 : Int32) (v2 : Int32) (h : ax_H) : Option (Int32 × ax_H) := (ax_EE 116).2.1 [.ref v0, .int v1, .int v2] h
set_option maxRecDepth 100000 in
set_option maxHeartbeats 4000000 in
theorem B_tell_eq (v0 : Nat) (v1 : Int32) (v2 : Int32) (h : ax_H) : B_tell v0 v1 v2 h =
  ((B_isHand v1 h).bind (fun r1 => if decide (r1.1 = 0) then
    (some (0, r1.2) )
  else
    (if (gS r1.2 v0).1 = 0 then if (gS r1.2 (gR r1.2 v0 0)).1 = 1 then (B_isWithin v2 0 (gI r1.2 (gR r1.2 v0 0) 0) r1.2).bind (fun r2 => if decide (¬ r2.1 = 0) then
      (if (gS r2.2 v0).1 = 0 then if (gS r2.2 (gR r2.2 v0 0)).1 = 1 then if (gS r2.2 v0).1 = 0 then if (gS r2.2 (gR r2.2 v0 0)).1 = 1 then if ax_in r2.2 (gR r2.2 (gR r2.2 v0 0) 15) 16 v1 then (Jm_min (gI r2.2 (gR r2.2 (gR r2.2 v0 0) 15) (Int32.toNatClampNeg v1)) v2 r2.2).bind (fun r3 => if ax_in r3.2 (gR r2.2 (gR r2.2 v0 0) 15) 16 v1 then let h4 := pI r3.2 (gR r2.2 (gR r2.2 v0 0) 15) (Int32.toNatClampNeg v1) r3.1; some (1, h4) else none ) else none else none else none else none else none)
    else
      (some (0, r2.2) ) ) else none else none) )) :=
  (ax_entI (N := 116) (C := r_116) (by decide) rfl (Nat.le_of_ble_eq_true rfl)).trans rfl
/-- 117 BlackSun$Book.hasKnowledge(II)Z -/
noncomputable def Bk_hasKnowledge (v0 : Nat) (v1 : Int32) (v2 : Int32) (h : ax_H) : Option (Int32 × ax_H) := (ax_EE 117).2.1 [.ref v0, .int v1, .int v2] h
set_option maxRecDepth 100000 in
set_option maxHeartbeats 4000000 in
theorem Bk_hasKnowledge_eq (v0 : Nat) (v1 : Int32) (v2 : Int32) (h : ax_H) : Bk_hasKnowledge v0 v1 v2 h =
  (if (gS h v0).1 = 1 then if ax_in h (gR h v0 15) 16 v1 then if decide (v2 < (gI h (gR h v0 15) (Int32.toNatClampNeg v1))) then
    (some (0, h) )
  else
    (some (1, h) ) else none else none) :=
  (ax_entI (N := 117) (C := r_117) (by decide) rfl (Nat.le_of_ble_eq_true rfl)).trans rfl
/-- 118 BlackSun.knows(II)I -/
noncomputable def B_knows (v0 : Nat) (v1 : Int32) (v2 : Int32) (h : ax_H) : Option (Int32 × ax_H) := (ax_EE 118).2.1 [.ref v0, .int v1, .int v2] h
set_option maxRecDepth 100000 in
set_option maxHeartbeats 4000000 in
theorem B_knows_eq (v0 : Nat) (v1 : Int32) (v2 : Int32) (h : ax_H) : B_knows v0 v1 v2 h =
  ((B_isHand v1 h).bind (fun r1 => if decide (r1.1 = 0) then
    (some ((-1), r1.2) )
  else
    ((B_isWeek v2 r1.2).bind (fun r2 => if decide (¬ r2.1 = 0) then
      (if (gS r2.2 v0).1 = 0 then if (gS r2.2 (gR r2.2 v0 0)).1 = 1 then (Bk_hasKnowledge (gR r2.2 v0 0) v1 v2 r2.2).bind (fun r3 => if decide (r3.1 = 0) then
        (some (0, r3.2) )
      else
        (some (1, r3.2) ) ) else none else none)
    else
      (some ((-1), r2.2) ) )) )) :=
  (ax_entI (N := 118) (C := r_118) (by decide) rfl (Nat.le_of_ble_eq_true rfl)).trans rfl
/-- 119 BlackSun$Lean.<init>()V -/
noncomputable def Ln_init (v0 : Nat) (h : ax_H) : Option (ax_H) := (ax_EE 119).1 [.ref v0] h
set_option maxRecDepth 100000 in
set_option maxHeartbeats 4000000 in
theorem Ln_init_eq (v0 : Nat) (h : ax_H) : Ln_init v0 h =
  (if (gS h v0).1 < 12 ∧ (([] : List Value).map (fun v => v.category)).sum ≤ 8 then some h else none) :=
  (ax_entV (N := 119) (C := r_119) (by decide) rfl (Nat.le_of_ble_eq_true rfl)).trans rfl
/-- 120 BlackSun$Lean.measure(LBlackSun$Book;II)J -/
noncomputable def Ln_measure (v0 : Nat) (v1 : Int32) (v2 : Int32) (h : ax_H) : Option (Int64 × ax_H) := (ax_EE 120).2.2.1 [.ref v0, .int v1, .int v2] h
set_option maxRecDepth 100000 in
set_option maxHeartbeats 4000000 in
theorem Ln_measure_eq (v0 : Nat) (v1 : Int32) (v2 : Int32) (h : ax_H) : Ln_measure v0 v1 v2 h =
  (if (gS h v0).1 = 1 then if (gS h (gR h v0 3)).1 = 4 then if ax_in h (gR h (gR h v0 3) 4) 16 v1 then let x1 := (gI h (gR h (gR h v0 3) 4) (Int32.toNatClampNeg v1)); if decide (¬ v2 = 0) then
    (if (gS h v0).1 = 1 then if (gS h (gR h v0 3)).1 = 4 then if ax_in h (gR h (gR h v0 3) 2) 16 v1 then let x2 := (gI h (gR h (gR h v0 3) 2) (Int32.toNatClampNeg v1)); if (gS h v0).1 = 1 then if (gS h (gR h v0 1)).1 = 2 then if ax_in h (gR h (gR h v0 1) 1) 16 x2 then if (gS h v0).1 = 1 then if (gS h (gR h v0 1)).1 = 2 then if ax_in h (gR h (gR h v0 1) 2) 16 x2 then if (gS h v0).1 = 1 then if (gS h (gR h v0 3)).1 = 4 then if ax_in h (gR h (gR h v0 3) 5) 16 v1 then some ((Int32.toInt64 (((gI h (gR h (gR h v0 1) 1) (Int32.toNatClampNeg x2)) * x1) + ((gI h (gR h (gR h v0 1) 2) (Int32.toNatClampNeg x2)) * (gI h (gR h (gR h v0 3) 5) (Int32.toNatClampNeg v1))))), h) else none else none else none else none else none else none else none else none else none else none else none else none)
  else
    (some ((Int32.toInt64 x1), h) ) else none else none else none) :=
  (ax_entL (N := 120) (C := r_120) (by decide) rfl (Nat.le_of_ble_eq_true rfl)).trans rfl
/-- 121 BlackSun$Lean.addPlace(LBlackSun$Book;III)V -/
noncomputable def Ln_addPlace (v0 : Nat) (v1 : Nat) (v2 : Int32) (v3 : Int32) (v4 : Int32) (h : ax_H) : Option (ax_H) := (ax_EE 121).1 [.ref v0, .ref v1, .int v2, .int v3, .int v4] h
noncomputable def Ln_addPlace_15  (v0 : Nat) (v1 : Nat) (v2 : Int32) (v3 : Int32) (v4 : Int32) (v5 : Nat) (v6 : Int64) (v8 : Int32) (v9 : Int32) (h : ax_H) : Option (ax_H) := ax_S ax_ρV (ax_env ax_EE 121) ax_nn r_121 r_121_15 [(0, .ref v0), (1, .ref v1), (2, .int v2), (3, .int v3), (4, .int v4), (5, .ref v5), (6, .long v6), (8, .int v8), (9, .int v9)] [] h
noncomputable def Ln_addPlace_95 (k0 : Int32) (v0 : Nat) (v1 : Nat) (v2 : Int32) (v3 : Int32) (v4 : Int32) (v5 : Nat) (v6 : Int64) (v8 : Int32) (v9 : Int32) (h : ax_H) : Option (ax_H) := ax_S ax_ρV (ax_env ax_EE 121) ax_nn r_121 r_121_95 [(0, .ref v0), (1, .ref v1), (2, .int v2), (3, .int v3), (4, .int v4), (5, .ref v5), (6, .long v6), (8, .int v8), (9, .int v9)] [.int k0] h
set_option maxRecDepth 100000 in
set_option maxHeartbeats 4000000 in
theorem Ln_addPlace_eq (v0 : Nat) (v1 : Nat) (v2 : Int32) (v3 : Int32) (v4 : Int32) (h : ax_H) : Ln_addPlace v0 v1 v2 v3 v4 h =
  (if (gS h v1).1 = 1 then Ln_addPlace_15 v0 v1 v2 v3 v4 (gR h v1 3) 0 0 0 h else none) :=
  (ax_entV (N := 121) (C := r_121) (by decide) rfl (Nat.le_of_ble_eq_true rfl)).trans rfl
set_option maxRecDepth 100000 in
set_option maxHeartbeats 4000000 in
theorem Ln_addPlace_15_eq  (v0 : Nat) (v1 : Nat) (v2 : Int32) (v3 : Int32) (v4 : Int32) (v5 : Nat) (v6 : Int64) (v8 : Int32) (v9 : Int32) (h : ax_H) : Ln_addPlace_15  v0 v1 v2 v3 v4 v5 v6 v8 v9 h =
  (if (gS h v5).1 = 4 then if decide ((gI h v5 0) ≤ v9) then
    (if decide (v8 ≤ 0) then
      (some h )
    else
      (if (gS h v0).1 = 9 then (Ln_measure v1 v2 v4 h).bind (fun r1 => if v8 = 0 then none else if (gS r1.2 v0).1 = 9 then let h2 := pL r1.2 v0 0 ((gL h v0 0) + (((420 : Int64) * r1.1) - ((Int32.toInt64 ((420 : Int32) / v8)) * v6))); if (gS h2 v0).1 = 9 then if (gS h2 v0).1 = 9 then let h3 := pL h2 v0 1 ((gL h2 v0 1) + 420); some h3 else none else none else none ) else none) )
  else
    (if (gS h v5).1 = 4 then if ax_in h (gR h v5 1) 16 v9 then if (gS h v5).1 = 4 then if ax_in h (gR h v5 1) 16 v2 then if decide (¬ (gI h (gR h v5 1) (Int32.toNatClampNeg v9)) = (gI h (gR h v5 1) (Int32.toNatClampNeg v2))) then
      (Ln_addPlace_95 0 v0 v1 v2 v3 v4 v5 v6 v8 v9 h )
    else
      (if (gS h v5).1 = 4 then if ax_in h (gR h v5 2) 16 v9 then if (gS h v5).1 = 4 then if ax_in h (gR h v5 2) 16 v2 then if decide (¬ (gI h (gR h v5 2) (Int32.toNatClampNeg v9)) = (gI h (gR h v5 2) (Int32.toNatClampNeg v2))) then
        (Ln_addPlace_95 0 v0 v1 v2 v3 v4 v5 v6 v8 v9 h )
      else
        (if (gS h v5).1 = 4 then if ax_in h (gR h v5 3) 16 v9 then if (gS h v5).1 = 4 then if ax_in h (gR h v5 3) 16 v2 then if decide ((gI h (gR h v5 3) (Int32.toNatClampNeg v9)) = (gI h (gR h v5 3) (Int32.toNatClampNeg v2))) then
          (Ln_addPlace_95 0 v0 v1 v2 v3 v4 v5 v6 v8 v9 h )
        else
          (if (gS h v5).1 = 4 then (Im_isKnown v5 v9 v3 h).bind (fun r4 => if decide (r4.1 = 0) then
            (Ln_addPlace_95 0 v0 v1 v2 v3 v4 v5 v6 v8 v9 r4.2 )
          else
            (Ln_addPlace_95 1 v0 v1 v2 v3 v4 v5 v6 v8 v9 r4.2 ) ) else none) else none else none else none else none) else none else none else none else none) else none else none else none else none) else none) :=
  (ax_S_eq _ _ _ _).trans rfl
set_option maxRecDepth 100000 in
set_option maxHeartbeats 4000000 in
theorem Ln_addPlace_95_eq (k0 : Int32) (v0 : Nat) (v1 : Nat) (v2 : Int32) (v3 : Int32) (v4 : Int32) (v5 : Nat) (v6 : Int64) (v8 : Int32) (v9 : Int32) (h : ax_H) : Ln_addPlace_95 k0 v0 v1 v2 v3 v4 v5 v6 v8 v9 h =
  (if decide (k0 = 0) then
    (Ln_addPlace_15 v0 v1 v2 v3 v4 v5 v6 v8 (v9 + 1) h )
  else
    (if (gS h v5).1 = 4 then if ax_in h (gR h v5 3) 16 v9 then if (gS h v1).1 = 1 then (Bk_hasKnowledge v1 (gI h (gR h v5 3) (Int32.toNatClampNeg v9)) v3 h).bind (fun r1 => if decide (¬ r1.1 = 0) then
      (Ln_addPlace_15 v0 v1 v2 v3 v4 v5 v6 v8 (v9 + 1) r1.2 )
    else
      ((Ln_measure v1 v9 v4 r1.2).bind (fun r2 => Ln_addPlace_15 v0 v1 v2 v3 v4 v5 (v6 + r2.1) (v8 + 1) (v9 + 1) r2.2 )) ) else none else none else none) ) :=
  (ax_S_eq _ _ _ _).trans rfl
/-- 122 BlackSun$Lean.gather(LBlackSun$Book;III)V -/
noncomputable def Ln_gather (v0 : Nat) (v1 : Nat) (v2 : Int32) (v3 : Int32) (v4 : Int32) (h : ax_H) : Option (ax_H) := (ax_EE 122).1 [.ref v0, .ref v1, .int v2, .int v3, .int v4] h
noncomputable def Ln_gather_9  (v0 : Nat) (v1 : Nat) (v2 : Int32) (v3 : Int32) (v4 : Int32) (v5 : Nat) (v6 : Int32) (h : ax_H) : Option (ax_H) := ax_S ax_ρV (ax_env ax_EE 122) ax_nn r_122 r_122_9 [(0, .ref v0), (1, .ref v1), (2, .int v2), (3, .int v3), (4, .int v4), (5, .ref v5), (6, .int v6)] [] h
set_option maxRecDepth 100000 in
set_option maxHeartbeats 4000000 in
theorem Ln_gather_eq (v0 : Nat) (v1 : Nat) (v2 : Int32) (v3 : Int32) (v4 : Int32) (h : ax_H) : Ln_gather v0 v1 v2 v3 v4 h =
  (if (gS h v1).1 = 1 then Ln_gather_9 v0 v1 v2 v3 v4 (gR h v1 3) 0 h else none) :=
  (ax_entV (N := 122) (C := r_122) (by decide) rfl (Nat.le_of_ble_eq_true rfl)).trans rfl
set_option maxRecDepth 100000 in
set_option maxHeartbeats 4000000 in
theorem Ln_gather_9_eq  (v0 : Nat) (v1 : Nat) (v2 : Int32) (v3 : Int32) (v4 : Int32) (v5 : Nat) (v6 : Int32) (h : ax_H) : Ln_gather_9  v0 v1 v2 v3 v4 v5 v6 h =
  (if (gS h v5).1 = 4 then if decide ((gI h v5 0) ≤ v6) then
    (some h )
  else
    (if (gS h v5).1 = 4 then if ax_in h (gR h v5 3) 16 v6 then if decide (¬ (gI h (gR h v5 3) (Int32.toNatClampNeg v6)) = v2) then
      (Ln_gather_9 v0 v1 v2 v3 v4 v5 (v6 + 1) h )
    else
      (if (gS h v5).1 = 4 then (Im_isKnown v5 v6 v3 h).bind (fun r1 => if decide (r1.1 = 0) then
        (Ln_gather_9 v0 v1 v2 v3 v4 v5 (v6 + 1) r1.2 )
      else
        (if (gS r1.2 v0).1 = 9 then (Ln_addPlace v0 v1 v6 v3 v4 r1.2).bind (fun h2 => Ln_gather_9 v0 v1 v2 v3 v4 v5 (v6 + 1) h2 ) else none) ) else none) else none else none) else none) :=
  (ax_S_eq _ _ _ _).trans rfl
/-- 123 BlackSun.leans(IIII)J -/
noncomputable def B_leans (v0 : Nat) (v1 : Int32) (v2 : Int32) (v3 : Int32) (v4 : Int32) (h : ax_H) : Option (Int64 × ax_H) := (ax_EE 123).2.2.1 [.ref v0, .int v1, .int v2, .int v3, .int v4] h
set_option maxRecDepth 100000 in
set_option maxHeartbeats 4000000 in
theorem B_leans_eq (v0 : Nat) (v1 : Int32) (v2 : Int32) (v3 : Int32) (v4 : Int32) (h : ax_H) : B_leans v0 v1 v2 v3 v4 h =
  ((B_isHand v1 h).bind (fun r1 => if decide (r1.1 = 0) then
    (some ((-1000000000000), r1.2) )
  else
    ((B_isWeek v2 r1.2).bind (fun r2 => if decide (r2.1 = 0) then
      (some ((-1000000000000), r2.2) )
    else
      ((B_isChoice v3 r2.2).bind (fun r3 => if decide (r3.1 = 0) then
        (some ((-1000000000000), r3.2) )
      else
        ((B_isChoice v4 r3.2).bind (fun r4 => if decide (¬ r4.1 = 0) then
          (let h5 := nW r4.2 9 0 2; if (gS h5 (gN r4.2)).1 = 9 then (Ln_init (gN r4.2) h5).bind (fun h6 => if (gS h6 v0).1 = 0 then if (gS h6 (gN r4.2)).1 = 9 then (Ln_gather (gN r4.2) (gR h6 v0 0) v1 v2 v3 h6).bind (fun h7 => if (gS h7 (gN r4.2)).1 = 9 then if (gS h7 (gN r4.2)).1 = 9 then (B_lowest (gL h7 (gN r4.2) 0) (gL h7 (gN r4.2) 1) v4 h7).bind (fun r8 => some (r8.1, r8.2) ) else none else none ) else none else none ) else none)
        else
          (some ((-1000000000000), r4.2) ) )) )) )) )) :=
  (ax_entL (N := 123) (C := r_123) (by decide) rfl (Nat.le_of_ble_eq_true rfl)).trans rfl
/-- 124 BlackSun.areTwoIslands(II)Z -/
noncomputable def B_areTwoIslands (v0 : Int32) (v1 : Int32) (h : ax_H) : Option (Int32 × ax_H) := (ax_EE 124).2.1 [.int v0, .int v1] h
set_option maxRecDepth 100000 in
set_option maxHeartbeats 4000000 in
theorem B_areTwoIslands_eq (v0 : Int32) (v1 : Int32) (h : ax_H) : B_areTwoIslands v0 v1 h =
  ((B_isIsland v0 h).bind (fun r1 => if decide (r1.1 = 0) then
    (some (0, r1.2) )
  else
    ((B_isIsland v1 r1.2).bind (fun r2 => if decide (r2.1 = 0) then
      (some (0, r2.2) )
    else
      (if decide (v0 = v1) then
        (some (0, r2.2) )
      else
        (some (1, r2.2) ) ) )) )) :=
  (ax_entI (N := 124) (C := r_124) (by decide) rfl (Nat.le_of_ble_eq_true rfl)).trans rfl
/-- 125 BlackSun$Fit.solveIsland(LBlackSun$Book;I)Z -/
noncomputable def Ft_solveIsland (v0 : Nat) (v1 : Nat) (v2 : Int32) (h : ax_H) : Option (Int32 × ax_H) := (ax_EE 125).2.1 [.ref v0, .ref v1, .int v2] h
noncomputable def Ft_solveIsland_6  (v0 : Nat) (v1 : Nat) (v2 : Int32) (v3 : Int32) (h : ax_H) : Option (Int32 × ax_H) := ax_S ax_ρI (ax_env ax_EE 125) ax_nn r_125 r_125_6 [(0, .ref v0), (1, .ref v1), (2, .int v2), (3, .int v3)] [] h
set_option maxRecDepth 100000 in
set_option maxHeartbeats 4000000 in
theorem Ft_solveIsland_eq (v0 : Nat) (v1 : Nat) (v2 : Int32) (h : ax_H) : Ft_solveIsland v0 v1 v2 h =
  (if (gS h v0).1 = 7 then (Ft_clearSum v0 h).bind (fun h1 => Ft_solveIsland_6 v0 v1 v2 0 h1 ) else none) :=
  (ax_entI (N := 125) (C := r_125) (by decide) rfl (Nat.le_of_ble_eq_true rfl)).trans rfl
set_option maxRecDepth 100000 in
set_option maxHeartbeats 4000000 in
theorem Ft_solveIsland_6_eq  (v0 : Nat) (v1 : Nat) (v2 : Int32) (v3 : Int32) (h : ax_H) : Ft_solveIsland_6  v0 v1 v2 v3 h =
  (if (gS h v1).1 = 1 then if (gS h (gR h v1 2)).1 = 3 then if decide ((gI h (gR h v1 2) 0) ≤ v3) then
    (if (gS h v0).1 = 7 then (Ft_solve v0 h).bind (fun r1 => if r1.1 = 0 ∨ r1.1 = 1 then some (r1.1, r1.2) else none ) else none)
  else
    (if (gS h v1).1 = 1 then if (gS h (gR h v1 2)).1 = 3 then if ax_in h (gR h (gR h v1 2) 1) 16 v3 then if decide (¬ (gI h (gR h (gR h v1 2) 1) (Int32.toNatClampNeg v3)) = v2) then
      (Ft_solveIsland_6 v0 v1 v2 (v3 + 1) h )
    else
      (if (gS h v0).1 = 7 then if (gS h v0).1 = 7 then if ax_in h (gR h v0 10) 22 v3 then (Ft_addSum (gR h v0 11) (gR h (gR h v0 10) (Int32.toNatClampNeg v3)) h).bind (fun h2 => Ft_solveIsland_6 v0 v1 v2 (v3 + 1) h2 ) else none else none else none) else none else none else none) else none else none) :=
  (ax_S_eq _ _ _ _).trans rfl
/-- 126 BlackSun$Fit.solvedImages()J -/
noncomputable def Ft_solvedImages (v0 : Nat) (h : ax_H) : Option (Int64 × ax_H) := (ax_EE 126).2.2.1 [.ref v0] h
set_option maxRecDepth 100000 in
set_option maxHeartbeats 4000000 in
theorem Ft_solvedImages_eq (v0 : Nat) (h : ax_H) : Ft_solvedImages v0 h =
  (if (gS h v0).1 = 7 then if ax_in h (gR h v0 11) 17 12 then some ((gL h (gR h v0 11) (Int32.toNatClampNeg 12)), h) else none else none) :=
  (ax_entL (N := 126) (C := r_126) (by decide) rfl (Nat.le_of_ble_eq_true rfl)).trans rfl
/-- 127 BlackSun.joined(IIII)I -/
noncomputable def B_joined (v0 : Nat) (v1 : Int32) (v2 : Int32) (v3 : Int32) (v4 : Int32) (h : ax_H) : Option (Int32 × ax_H) := (ax_EE 127).2.1 [.ref v0, .int v1, .int v2, .int v3, .int v4] h
set_option maxRecDepth 100000 in
set_option maxHeartbeats 4000000 in
theorem B_joined_eq (v0 : Nat) (v1 : Int32) (v2 : Int32) (v3 : Int32) (v4 : Int32) (h : ax_H) : B_joined v0 v1 v2 v3 v4 h =
  (if (gS h v0).1 = 0 then if (gS h (gR h v0 0)).1 = 1 then (Bk_wayAt (gR h v0 0) v1 h).bind (fun r1 => if r1.1 = 0 then
    (some ((-2000000000), r1.2) )
  else
    ((B_isWeek v2 r1.2).bind (fun r2 => if decide (r2.1 = 0) then
      (some ((-2000000000), r2.2) )
    else
      ((B_areTwoIslands v3 v4 r2.2).bind (fun r3 => if decide (¬ r3.1 = 0) then
        (if (gS r3.2 v0).1 = 0 then if (gS r3.2 v0).1 = 0 then if (gS r3.2 (gR r3.2 v0 3)).1 = 7 then (Ft_open (gR r3.2 v0 3) (gR r3.2 v0 0) r1.1 v2 r3.2).bind (fun r4 => if decide (r4.1 = 0) then
          (some ((-1000000000), r4.2) )
        else
          (if (gS r4.2 v0).1 = 0 then if (gS r4.2 v0).1 = 0 then if (gS r4.2 (gR r4.2 v0 3)).1 = 7 then (Ft_solveIsland (gR r4.2 v0 3) (gR r4.2 v0 0) v3 r4.2).bind (fun r5 => if decide (¬ r5.1 = 0) then
            (if (gS r5.2 v0).1 = 0 then if (gS r5.2 (gR r5.2 v0 3)).1 = 7 then (Ft_solvedImages (gR r5.2 v0 3) r5.2).bind (fun r6 => if (gS r6.2 v0).1 = 0 then if (gS r6.2 (gR r6.2 v0 3)).1 = 7 then if ax_in r6.2 (gR r6.2 (gR r6.2 v0 3) 2) 16 4 then let x7 := (r6.1 * (Int32.toInt64 (gI r6.2 (gR r6.2 (gR r6.2 v0 3) 2) (Int32.toNatClampNeg 4)))); if (gS r6.2 v0).1 = 0 then if (gS r6.2 v0).1 = 0 then if (gS r6.2 (gR r6.2 v0 3)).1 = 7 then (Ft_solveIsland (gR r6.2 v0 3) (gR r6.2 v0 0) v4 r6.2).bind (fun r8 => if decide (¬ r8.1 = 0) then
              (if (gS r8.2 v0).1 = 0 then if (gS r8.2 (gR r8.2 v0 3)).1 = 7 then (Ft_solvedImages (gR r8.2 v0 3) r8.2).bind (fun r9 => if (gS r9.2 v0).1 = 0 then if (gS r9.2 (gR r9.2 v0 3)).1 = 7 then (Ft_solvedImages (gR r9.2 v0 3) r9.2).bind (fun r10 => if (gS r10.2 v0).1 = 0 then if (gS r10.2 (gR r10.2 v0 3)).1 = 7 then if ax_in r10.2 (gR r10.2 (gR r10.2 v0 3) 2) 16 4 then let x11 := (x7 + (r10.1 * (Int32.toInt64 (gI r10.2 (gR r10.2 (gR r10.2 v0 3) 2) (Int32.toNatClampNeg 4))))); if decide ((0 : Int32) < (lg_cmp (r6.1 + r9.1) 0)) then
                ((Jm_floorDiv x11 (r6.1 + r9.1) r10.2).bind (fun r12 => some ((Int64.toInt32 r12.1), r12.2) ))
              else
                (some ((-1000000000), r10.2) ) else none else none else none ) else none else none ) else none else none)
            else
              (some ((-1000000000), r8.2) ) ) else none else none else none else none else none else none ) else none else none)
          else
            (some ((-1000000000), r5.2) ) ) else none else none else none) ) else none else none else none)
      else
        (some ((-2000000000), r3.2) ) )) )) ) else none else none) :=
  (ax_entI (N := 127) (C := r_127) (by decide) rfl (Nat.le_of_ble_eq_true rfl)).trans rfl
/-- 128 BlackSun.quarrel(IIIII)I -/
noncomputable def B_quarrel (v0 : Nat) (v1 : Int32) (v2 : Int32) (v3 : Int32) (v4 : Int32) (v5 : Int32) (h : ax_H) : Option (Int32 × ax_H) := (ax_EE 128).2.1 [.ref v0, .int v1, .int v2, .int v3, .int v4, .int v5] h
set_option maxRecDepth 100000 in
set_option maxHeartbeats 4000000 in
theorem B_quarrel_eq (v0 : Nat) (v1 : Int32) (v2 : Int32) (v3 : Int32) (v4 : Int32) (v5 : Int32) (h : ax_H) : B_quarrel v0 v1 v2 v3 v4 v5 h =
  (if (gS h v0).1 = 0 then if (gS h (gR h v0 0)).1 = 1 then (Bk_wayAt (gR h v0 0) v1 h).bind (fun r1 => if r1.1 = 0 then
    (some ((-1), r1.2) )
  else
    ((B_isWeek v2 r1.2).bind (fun r2 => if decide (r2.1 = 0) then
      (some ((-1), r2.2) )
    else
      ((B_areTwoIslands v3 v4 r2.2).bind (fun r3 => if decide (r3.1 = 0) then
        (some ((-1), r3.2) )
      else
        ((B_isWithin v5 0 99999 r3.2).bind (fun r4 => if decide (¬ r4.1 = 0) then
          (if (gS r4.2 v0).1 = 0 then if (gS r4.2 v0).1 = 0 then if (gS r4.2 (gR r4.2 v0 3)).1 = 7 then (Ft_open (gR r4.2 v0 3) (gR r4.2 v0 0) r1.1 v2 r4.2).bind (fun r5 => if decide (r5.1 = 0) then
            (some (0, r5.2) )
          else
            (if (gS r5.2 v0).1 = 0 then if (gS r5.2 v0).1 = 0 then if (gS r5.2 (gR r5.2 v0 3)).1 = 7 then (Ft_solveIsland (gR r5.2 v0 3) (gR r5.2 v0 0) v3 r5.2).bind (fun r6 => if decide (¬ r6.1 = 0) then
              (if (gS r6.2 v0).1 = 0 then if (gS r6.2 (gR r6.2 v0 3)).1 = 7 then if ax_in r6.2 (gR r6.2 (gR r6.2 v0 3) 2) 16 4 then let x7 := (gI r6.2 (gR r6.2 (gR r6.2 v0 3) 2) (Int32.toNatClampNeg 4)); if (gS r6.2 v0).1 = 0 then if (gS r6.2 v0).1 = 0 then if (gS r6.2 (gR r6.2 v0 3)).1 = 7 then (Ft_solveIsland (gR r6.2 v0 3) (gR r6.2 v0 0) v4 r6.2).bind (fun r8 => if decide (¬ r8.1 = 0) then
                (if (gS r8.2 v0).1 = 0 then if (gS r8.2 (gR r8.2 v0 3)).1 = 7 then if ax_in r8.2 (gR r8.2 (gR r8.2 v0 3) 2) 16 4 then (B_isNear x7 (gI r8.2 (gR r8.2 (gR r8.2 v0 3) 2) (Int32.toNatClampNeg 4)) v5 r8.2).bind (fun r9 => if decide (r9.1 = 0) then
                  (some (1, r9.2) )
                else
                  (some (0, r9.2) ) ) else none else none else none)
              else
                (some (0, r8.2) ) ) else none else none else none else none else none else none)
            else
              (some (0, r6.2) ) ) else none else none else none) ) else none else none else none)
        else
          (some ((-1), r4.2) ) )) )) )) ) else none else none) :=
  (ax_entI (N := 128) (C := r_128) (by decide) rfl (Nat.le_of_ble_eq_true rfl)).trans rfl
/-- 129 BlackSun$Book.putSaid(II)I -/
noncomputable def Bk_putSaid (v0 : Nat) (v1 : Int32) (v2 : Int32) (h : ax_H) : Option (Int32 × ax_H) := (ax_EE 129).2.1 [.ref v0, .int v1, .int v2] h
set_option maxRecDepth 100000 in
set_option maxHeartbeats 4000000 in
theorem Bk_putSaid_eq (v0 : Nat) (v1 : Int32) (v2 : Int32) (h : ax_H) : Bk_putSaid v0 v1 v2 h =
  (if (gS h v0).1 = 1 then if decide ((gI h v0 6) < 40) then
    (if (gS h v0).1 = 1 then if (gS h v0).1 = 1 then if ax_in h (gR h v0 7) 16 (gI h v0 6) then let h1 := pI h (gR h v0 7) (Int32.toNatClampNeg (gI h v0 6)) v1; if (gS h1 v0).1 = 1 then if (gS h1 v0).1 = 1 then if (gS h1 v0).1 = 1 then if ax_in h1 (gR h1 v0 8) 16 (gI h1 v0 6) then let h2 := pI h1 (gR h1 v0 8) (Int32.toNatClampNeg (gI h1 v0 6)) (gI h1 v0 0); if (gS h2 v0).1 = 1 then if (gS h2 v0).1 = 1 then if ax_in h2 (gR h2 v0 9) 16 (gI h2 v0 6) then let h3 := pI h2 (gR h2 v0 9) (Int32.toNatClampNeg (gI h2 v0 6)) v2; if (gS h3 v0).1 = 1 then if (gS h3 v0).1 = 1 then let h4 := pI h3 v0 6 ((gI h3 v0 6) + 1); if (gS h4 v0).1 = 1 then some (((gI h4 v0 6) - 1), h4) else none else none else none else none else none else none else none else none else none else none else none else none else none)
  else
    (some ((-1), h) ) else none) :=
  (ax_entI (N := 129) (C := r_129) (by decide) rfl (Nat.le_of_ble_eq_true rfl)).trans rfl
/-- 130 BlackSun.say(II)I -/
noncomputable def B_say (v0 : Nat) (v1 : Int32) (v2 : Int32) (h : ax_H) : Option (Int32 × ax_H) := (ax_EE 130).2.1 [.ref v0, .int v1, .int v2] h
set_option maxRecDepth 100000 in
set_option maxHeartbeats 4000000 in
theorem B_say_eq (v0 : Nat) (v1 : Int32) (v2 : Int32) (h : ax_H) : B_say v0 v1 v2 h =
  (if (gS h v0).1 = 0 then if (gS h (gR h v0 0)).1 = 1 then (Bk_wayAt (gR h v0 0) v1 h).bind (fun r1 => if r1.1 = 0 then
    (some ((-1), r1.2) )
  else
    ((B_isWithin v2 (-99999) 99999 r1.2).bind (fun r2 => if decide (¬ r2.1 = 0) then
      (if (gS r2.2 v0).1 = 0 then if (gS r2.2 (gR r2.2 v0 0)).1 = 1 then (Bk_putSaid (gR r2.2 v0 0) v1 v2 r2.2).bind (fun r3 => some (r3.1, r3.2) ) else none else none)
    else
      (some ((-1), r2.2) ) )) ) else none else none) :=
  (ax_entI (N := 130) (C := r_130) (by decide) rfl (Nat.le_of_ble_eq_true rfl)).trans rfl
/-- 131 BlackSun.could(IIZ)I -/
noncomputable def B_could (v0 : Nat) (v1 : Int32) (v2 : Int32) (v3 : Int32) (h : ax_H) : Option (Int32 × ax_H) := (ax_EE 131).2.1 [.ref v0, .int v1, .int v2, .int v3] h
noncomputable def B_could_81 (k0 : Int32) (k1 : Int32) (k2 : Nat) (k3 : Nat) (v0 : Nat) (v1 : Int32) (v2 : Int32) (h : ax_H) : Option (Int32 × ax_H) := ax_S ax_ρI (ax_env ax_EE 131) ax_nn r_131 r_131_81 [(0, .ref v0), (1, .int v1), (2, .int v2)] [.int k0, .int k1, .ref k2, .ref k3] h
set_option maxRecDepth 100000 in
set_option maxHeartbeats 4000000 in
theorem B_could_eq (v0 : Nat) (v1 : Int32) (v2 : Int32) (v3 : Int32) (h : ax_H) : B_could v0 v1 v2 v3 h =
  (if (gS h v0).1 = 0 then if (gS h (gR h v0 0)).1 = 1 then (B_isWithin v1 0 ((gI h (gR h v0 0) 6) - 1) h).bind (fun r1 => if decide (r1.1 = 0) then
    (some ((-1), r1.2) )
  else
    ((B_isWithin v2 0 99999 r1.2).bind (fun r2 => if decide (¬ r2.1 = 0) then
      (if (gS r2.2 v0).1 = 0 then if (gS r2.2 v0).1 = 0 then if (gS r2.2 (gR r2.2 v0 0)).1 = 1 then if ax_in r2.2 (gR r2.2 (gR r2.2 v0 0) 7) 16 v1 then if (gS r2.2 (gR r2.2 v0 0)).1 = 1 then (Bk_wayAt (gR r2.2 v0 0) (gI r2.2 (gR r2.2 (gR r2.2 v0 0) 7) (Int32.toNatClampNeg v1)) r2.2).bind (fun r3 => if r3.1 = 0 then
        (some ((-1), r3.2) )
      else
        (if decide (v3 = 0) then
          (if (gS r3.2 v0).1 = 0 then if (gS r3.2 (gR r3.2 v0 0)).1 = 1 then if ax_in r3.2 (gR r3.2 (gR r3.2 v0 0) 8) 16 v1 then B_could_81 (gI r3.2 (gR r3.2 (gR r3.2 v0 0) 8) (Int32.toNatClampNeg v1)) 4 r3.1 v0 v0 v1 v2 r3.2 else none else none else none)
        else
          (if (gS r3.2 v0).1 = 0 then if (gS r3.2 (gR r3.2 v0 0)).1 = 1 then B_could_81 (gI r3.2 (gR r3.2 v0 0) 0) 4 r3.1 v0 v0 v1 v2 r3.2 else none else none) ) ) else none else none else none else none else none)
    else
      (some ((-1), r2.2) ) )) ) else none else none) :=
  (ax_entI (N := 131) (C := r_131) (by decide) rfl (Nat.le_of_ble_eq_true rfl)).trans rfl
set_option maxRecDepth 100000 in
set_option maxHeartbeats 4000000 in
theorem B_could_81_eq (k0 : Int32) (k1 : Int32) (k2 : Nat) (k3 : Nat) (v0 : Nat) (v1 : Int32) (v2 : Int32) (h : ax_H) : B_could_81 k0 k1 k2 k3 v0 v1 v2 h =
  (if (gS h k3).1 = 0 then (B_answerOf k3 k2 k1 k0 h).bind (fun r1 => if decide (r1.1 = (-1000000000)) then
    (some (0, r1.2) )
  else
    (if (gS r1.2 v0).1 = 0 then if (gS r1.2 (gR r1.2 v0 0)).1 = 1 then if ax_in r1.2 (gR r1.2 (gR r1.2 v0 0) 9) 16 v1 then (B_isNear r1.1 (gI r1.2 (gR r1.2 (gR r1.2 v0 0) 9) (Int32.toNatClampNeg v1)) v2 r1.2).bind (fun r2 => if decide (r2.1 = 0) then
      (some (0, r2.2) )
    else
      (some (1, r2.2) ) ) else none else none else none) ) else none) :=
  (ax_S_eq _ _ _ _).trans rfl
/-- 132 BlackSun$Book.putField(II)I -/
noncomputable def Bk_putField (v0 : Nat) (v1 : Int32) (v2 : Int32) (h : ax_H) : Option (Int32 × ax_H) := (ax_EE 132).2.1 [.ref v0, .int v1, .int v2] h
set_option maxRecDepth 100000 in
set_option maxHeartbeats 4000000 in
theorem Bk_putField_eq (v0 : Nat) (v1 : Int32) (v2 : Int32) (h : ax_H) : Bk_putField v0 v1 v2 h =
  (if (gS h v0).1 = 1 then if decide ((gI h v0 10) < 9) then
    (if (gS h v0).1 = 1 then if (gS h v0).1 = 1 then if ax_in h (gR h v0 11) 16 (gI h v0 10) then let h1 := pI h (gR h v0 11) (Int32.toNatClampNeg (gI h v0 10)) v1; if (gS h1 v0).1 = 1 then if (gS h1 v0).1 = 1 then if ax_in h1 (gR h1 v0 12) 16 (gI h1 v0 10) then let h2 := pI h1 (gR h1 v0 12) (Int32.toNatClampNeg (gI h1 v0 10)) v2; if (gS h2 v0).1 = 1 then if (gS h2 v0).1 = 1 then let h3 := pI h2 v0 10 ((gI h2 v0 10) + 1); if (gS h3 v0).1 = 1 then some (((gI h3 v0 10) - 1), h3) else none else none else none else none else none else none else none else none else none)
  else
    (some ((-1), h) ) else none) :=
  (ax_entI (N := 132) (C := r_132) (by decide) rfl (Nat.le_of_ble_eq_true rfl)).trans rfl
/-- 133 BlackSun.field(II)I -/
noncomputable def B_field (v0 : Nat) (v1 : Int32) (v2 : Int32) (h : ax_H) : Option (Int32 × ax_H) := (ax_EE 133).2.1 [.ref v0, .int v1, .int v2] h
set_option maxRecDepth 100000 in
set_option maxHeartbeats 4000000 in
theorem B_field_eq (v0 : Nat) (v1 : Int32) (v2 : Int32) (h : ax_H) : B_field v0 v1 v2 h =
  ((B_isWithin v1 1 99 h).bind (fun r1 => if decide (r1.1 = 0) then
    (some ((-1), r1.2) )
  else
    (if (gS r1.2 v0).1 = 0 then if (gS r1.2 (gR r1.2 v0 0)).1 = 1 then if (gS r1.2 (gR r1.2 (gR r1.2 v0 0) 1)).1 = 2 then if decide ((Int32.toUInt32 v2 >>> (Int32.toUInt32 (gI r1.2 (gR r1.2 (gR r1.2 v0 0) 1) 0) &&& Int32.toUInt32 31)).toInt32 = 0) then
      (if (gS r1.2 v0).1 = 0 then if (gS r1.2 (gR r1.2 v0 0)).1 = 1 then (Bk_putField (gR r1.2 v0 0) v1 v2 r1.2).bind (fun r2 => some (r2.1, r2.2) ) else none else none)
    else
      (some ((-1), r1.2) ) else none else none else none) )) :=
  (ax_entI (N := 133) (C := r_133) (by decide) rfl (Nat.le_of_ble_eq_true rfl)).trans rfl
/-- 134 BlackSun$Book.minutesOf(I)I -/
noncomputable def Bk_minutesOf (v0 : Nat) (v1 : Int32) (h : ax_H) : Option (Int32 × ax_H) := (ax_EE 134).2.1 [.ref v0, .int v1] h
noncomputable def Bk_minutesOf_4  (v0 : Nat) (v1 : Int32) (v2 : Int32) (v3 : Int32) (h : ax_H) : Option (Int32 × ax_H) := ax_S ax_ρI (ax_env ax_EE 134) ax_nn r_134 r_134_4 [(0, .ref v0), (1, .int v1), (2, .int v2), (3, .int v3)] [] h
set_option maxRecDepth 100000 in
set_option maxHeartbeats 4000000 in
theorem Bk_minutesOf_eq (v0 : Nat) (v1 : Int32) (h : ax_H) : Bk_minutesOf v0 v1 h =
  (Bk_minutesOf_4 v0 v1 0 0 h ) :=
  (ax_entI (N := 134) (C := r_134) (by decide) rfl (Nat.le_of_ble_eq_true rfl)).trans rfl
set_option maxRecDepth 100000 in
set_option maxHeartbeats 4000000 in
theorem Bk_minutesOf_4_eq  (v0 : Nat) (v1 : Int32) (v2 : Int32) (v3 : Int32) (h : ax_H) : Bk_minutesOf_4  v0 v1 v2 v3 h =
  (if (gS h v0).1 = 1 then if decide ((gI h v0 10) ≤ v3) then
    (some (v2, h) )
  else
    (if decide (((v1 >>> (v3 &&& 31)) &&& 1) = 0) then
      (Bk_minutesOf_4 v0 v1 v2 (v3 + 1) h )
    else
      (if (gS h v0).1 = 1 then if ax_in h (gR h v0 11) 16 v3 then let x1 := (v2 + (gI h (gR h v0 11) (Int32.toNatClampNeg v3))); Bk_minutesOf_4 v0 v1 x1 (v3 + 1) h else none else none) ) else none) :=
  (ax_S_eq _ _ _ _).trans rfl
/-- 135 BlackSun$Stars.lightSquared(I)I -/
noncomputable def St_lightSquared (v0 : Nat) (v1 : Int32) (h : ax_H) : Option (Int32 × ax_H) := (ax_EE 135).2.1 [.ref v0, .int v1] h
set_option maxRecDepth 100000 in
set_option maxHeartbeats 4000000 in
theorem St_lightSquared_eq (v0 : Nat) (v1 : Int32) (h : ax_H) : St_lightSquared v0 v1 h =
  (if (gS h v0).1 = 2 then (St_give v0 4 v1 0 h).bind (fun r1 => if (gS r1.2 v0).1 = 2 then (St_give v0 4 v1 1 r1.2).bind (fun r2 => some (((r1.1 * r1.1) + (r2.1 * r2.1)), r2.2) ) else none ) else none) :=
  (ax_entI (N := 135) (C := r_135) (by decide) rfl (Nat.le_of_ble_eq_true rfl)).trans rfl
/-- 136 BlackSun$Book.worthOf(I)I -/
noncomputable def Bk_worthOf (v0 : Nat) (v1 : Int32) (h : ax_H) : Option (Int32 × ax_H) := (ax_EE 136).2.1 [.ref v0, .int v1] h
noncomputable def Bk_worthOf_4  (v0 : Nat) (v1 : Int32) (v2 : Int32) (v3 : Int32) (h : ax_H) : Option (Int32 × ax_H) := ax_S ax_ρI (ax_env ax_EE 136) ax_nn r_136 r_136_4 [(0, .ref v0), (1, .int v1), (2, .int v2), (3, .int v3)] [] h
noncomputable def Bk_worthOf_40  (v0 : Nat) (v2 : Int32) (v3 : Int32) (v4 : Int32) (h : ax_H) : Option (Int32 × ax_H) := ax_S ax_ρI (ax_env ax_EE 136) ax_nn r_136 r_136_40 [(0, .ref v0), (2, .int v2), (3, .int v3), (4, .int v4)] [] h
set_option maxRecDepth 100000 in
set_option maxHeartbeats 4000000 in
theorem Bk_worthOf_eq (v0 : Nat) (v1 : Int32) (h : ax_H) : Bk_worthOf v0 v1 h =
  (Bk_worthOf_4 v0 v1 0 0 h ) :=
  (ax_entI (N := 136) (C := r_136) (by decide) rfl (Nat.le_of_ble_eq_true rfl)).trans rfl
set_option maxRecDepth 100000 in
set_option maxHeartbeats 4000000 in
theorem Bk_worthOf_4_eq  (v0 : Nat) (v1 : Int32) (v2 : Int32) (v3 : Int32) (h : ax_H) : Bk_worthOf_4  v0 v1 v2 v3 h =
  (if (gS h v0).1 = 1 then if decide ((gI h v0 10) ≤ v3) then
    (Bk_worthOf_40 v0 v2 0 0 h )
  else
    (if decide (((v1 >>> (v3 &&& 31)) &&& 1) = 0) then
      (Bk_worthOf_4 v0 v1 v2 (v3 + 1) h )
    else
      (if (gS h v0).1 = 1 then if ax_in h (gR h v0 12) 16 v3 then let x1 := (v2 ||| (gI h (gR h v0 12) (Int32.toNatClampNeg v3))); Bk_worthOf_4 v0 v1 x1 (v3 + 1) h else none else none) ) else none) :=
  (ax_S_eq _ _ _ _).trans rfl
set_option maxRecDepth 100000 in
set_option maxHeartbeats 4000000 in
theorem Bk_worthOf_40_eq  (v0 : Nat) (v2 : Int32) (v3 : Int32) (v4 : Int32) (h : ax_H) : Bk_worthOf_40  v0 v2 v3 v4 h =
  (if (gS h v0).1 = 1 then if (gS h (gR h v0 1)).1 = 2 then if decide ((gI h (gR h v0 1) 0) ≤ v4) then
    (some (v3, h) )
  else
    (if decide (((v2 >>> (v4 &&& 31)) &&& 1) = 0) then
      (Bk_worthOf_40 v0 v2 v3 (v4 + 1) h )
    else
      (if (gS h v0).1 = 1 then if (gS h (gR h v0 1)).1 = 2 then (St_lightSquared (gR h v0 1) v4 h).bind (fun r1 => Bk_worthOf_40 v0 v2 (v3 + r1.1) (v4 + 1) r1.2 ) else none else none) ) else none else none) :=
  (ax_S_eq _ _ _ _).trans rfl
/-- 137 BlackSun$Book.bestFields(I)I -/
noncomputable def Bk_bestFields (v0 : Nat) (v1 : Int32) (h : ax_H) : Option (Int32 × ax_H) := (ax_EE 137).2.1 [.ref v0, .int v1] h
noncomputable def Bk_bestFields_10  (v0 : Nat) (v1 : Int32) (v2 : Int32) (v3 : Int32) (v4 : Int32) (v5 : Int32) (h : ax_H) : Option (Int32 × ax_H) := ax_S ax_ρI (ax_env ax_EE 137) ax_nn r_137 r_137_10 [(0, .ref v0), (1, .int v1), (2, .int v2), (3, .int v3), (4, .int v4), (5, .int v5)] [] h
set_option maxRecDepth 100000 in
set_option maxHeartbeats 4000000 in
theorem Bk_bestFields_eq (v0 : Nat) (v1 : Int32) (h : ax_H) : Bk_bestFields v0 v1 h =
  (Bk_bestFields_10 v0 v1 0 0 0 1 h ) :=
  (ax_entI (N := 137) (C := r_137) (by decide) rfl (Nat.le_of_ble_eq_true rfl)).trans rfl
set_option maxRecDepth 100000 in
set_option maxHeartbeats 4000000 in
theorem Bk_bestFields_10_eq  (v0 : Nat) (v1 : Int32) (v2 : Int32) (v3 : Int32) (v4 : Int32) (v5 : Int32) (h : ax_H) : Bk_bestFields_10  v0 v1 v2 v3 v4 v5 h =
  (if (gS h v0).1 = 1 then if decide (((1 : Int32) <<< ((gI h v0 10) &&& 31)) ≤ v5) then
    (some (v2, h) )
  else
    (if (gS h v0).1 = 1 then (Bk_minutesOf v0 v5 h).bind (fun r1 => if decide (r1.1 ≤ v1) then
      (if (gS r1.2 v0).1 = 1 then (Bk_worthOf v0 v5 r1.2).bind (fun r2 => if decide (v3 < r2.1) then
        (Bk_bestFields_10 v0 v1 v5 r2.1 r1.1 (v5 + 1) r2.2 )
      else
        (if decide (¬ r2.1 = v3) then
          (Bk_bestFields_10 v0 v1 v2 v3 v4 (v5 + 1) r2.2 )
        else
          (if decide (v4 ≤ r1.1) then
            (Bk_bestFields_10 v0 v1 v2 v3 v4 (v5 + 1) r2.2 )
          else
            (Bk_bestFields_10 v0 v1 v5 r2.1 r1.1 (v5 + 1) r2.2 ) ) ) ) else none)
    else
      (Bk_bestFields_10 v0 v1 v2 v3 v4 (v5 + 1) r1.2 ) ) else none) else none) :=
  (ax_S_eq _ _ _ _).trans rfl
/-- 138 BlackSun.planned(II)I -/
noncomputable def B_planned (v0 : Nat) (v1 : Int32) (v2 : Int32) (h : ax_H) : Option (Int32 × ax_H) := (ax_EE 138).2.1 [.ref v0, .int v1, .int v2] h
set_option maxRecDepth 100000 in
set_option maxHeartbeats 4000000 in
theorem B_planned_eq (v0 : Nat) (v1 : Int32) (v2 : Int32) (h : ax_H) : B_planned v0 v1 v2 h =
  ((B_isWithin v1 1 999 h).bind (fun r1 => if decide (r1.1 = 0) then
    (some ((-1), r1.2) )
  else
    ((B_isWithin v2 0 2 r1.2).bind (fun r2 => if decide (¬ r2.1 = 0) then
      (if (gS r2.2 v0).1 = 0 then if (gS r2.2 (gR r2.2 v0 0)).1 = 1 then (Bk_bestFields (gR r2.2 v0 0) v1 r2.2).bind (fun r3 => if v2 = 0 then
        (some (r3.1, r3.2) )
      else if v2 = 1 then
        (if (gS r3.2 v0).1 = 0 then if (gS r3.2 (gR r3.2 v0 0)).1 = 1 then (Bk_worthOf (gR r3.2 v0 0) r3.1 r3.2).bind (fun r4 => some (r4.1, r4.2) ) else none else none)
      else 
        (if (gS r3.2 v0).1 = 0 then if (gS r3.2 (gR r3.2 v0 0)).1 = 1 then (Bk_minutesOf (gR r3.2 v0 0) r3.1 r3.2).bind (fun r5 => some (r5.1, r5.2) ) else none else none) ) else none else none)
    else
      (some ((-1), r2.2) ) )) )) :=
  (ax_entI (N := 138) (C := r_138) (by decide) rfl (Nat.le_of_ble_eq_true rfl)).trans rfl
/-- 139 BlackSun$Fit.makeLawful(LBlackSun$Book;I)V -/
noncomputable def Ft_makeLawful (v0 : Nat) (v1 : Nat) (v2 : Int32) (h : ax_H) : Option (ax_H) := (ax_EE 139).1 [.ref v0, .ref v1, .int v2] h
noncomputable def Ft_makeLawful_2  (v0 : Nat) (v1 : Nat) (v2 : Int32) (v3 : Int32) (h : ax_H) : Option (ax_H) := ax_S ax_ρV (ax_env ax_EE 139) ax_nn r_139 r_139_2 [(0, .ref v0), (1, .ref v1), (2, .int v2), (3, .int v3)] [] h
set_option maxRecDepth 100000 in
set_option maxHeartbeats 4000000 in
theorem Ft_makeLawful_eq (v0 : Nat) (v1 : Nat) (v2 : Int32) (h : ax_H) : Ft_makeLawful v0 v1 v2 h =
  (Ft_makeLawful_2 v0 v1 v2 0 h ) :=
  (ax_entV (N := 139) (C := r_139) (by decide) rfl (Nat.le_of_ble_eq_true rfl)).trans rfl
set_option maxRecDepth 100000 in
set_option maxHeartbeats 4000000 in
theorem Ft_makeLawful_2_eq  (v0 : Nat) (v1 : Nat) (v2 : Int32) (v3 : Int32) (h : ax_H) : Ft_makeLawful_2  v0 v1 v2 v3 h =
  (if (gS h v0).1 = 7 then if decide (((2 : Int32) * (gI h v0 0)) ≤ v3) then
    (some h )
  else
    (if (gS h v0).1 = 7 then if (gS h v0).1 = 7 then if ax_in h (gR h v0 1) 16 (v3 / 2) then if (gS h v1).1 = 1 then (Bk_termOf v1 4 (gI h (gR h v0 1) (Int32.toNatClampNeg (v3 / 2))) (v3 - v3 / 2 * 2) h).bind (fun r1 => if ax_in r1.2 (gR h v0 9) 16 v3 then let h2 := pI r1.2 (gR h v0 9) (Int32.toNatClampNeg v3) ((v2 * r1.1) / 1000); Ft_makeLawful_2 v0 v1 v2 (v3 + 1) h2 else none ) else none else none else none else none) else none) :=
  (ax_S_eq _ _ _ _).trans rfl
/-- 140 BlackSun$Fit.drawSlip(I)I -/
noncomputable def Ft_drawSlip (v0 : Nat) (v1 : Int32) (h : ax_H) : Option (Int32 × ax_H) := (ax_EE 140).2.1 [.ref v0, .int v1] h
set_option maxRecDepth 100000 in
set_option maxHeartbeats 4000000 in
theorem Ft_drawSlip_eq (v0 : Nat) (v1 : Int32) (h : ax_H) : Ft_drawSlip v0 v1 h =
  (if (gS h v0).1 = 7 then let x1 := (((gL h v0 14) * 1103515245) + 12345); if (gS h v0).1 = 7 then let h2 := pL h v0 14 (x1 - x1 / 2147483648 * 2147483648); if decide ((0 : Int32) < (((2 : Int32) * v1) + 1)) then
    (if (gS h2 v0).1 = 7 then if (Int32.toInt64 (((2 : Int32) * v1) + 1)) = 0 then none else some (((Int64.toInt32 (((gL h2 v0 14) / 65536) - ((gL h2 v0 14) / 65536) / (Int32.toInt64 (((2 : Int32) * v1) + 1)) * (Int32.toInt64 (((2 : Int32) * v1) + 1)))) - v1), h2) else none)
  else
    (some (0, h2) ) else none else none) :=
  (ax_entI (N := 140) (C := r_140) (by decide) rfl (Nat.le_of_ble_eq_true rfl)).trans rfl
/-- 141 BlackSun$Fit.drawWorld(LBlackSun$Book;I)V -/
noncomputable def Ft_drawWorld (v0 : Nat) (v1 : Nat) (v2 : Int32) (h : ax_H) : Option (ax_H) := (ax_EE 141).1 [.ref v0, .ref v1, .int v2] h
noncomputable def Ft_drawWorld_2  (v0 : Nat) (v1 : Nat) (v2 : Int32) (v3 : Int32) (h : ax_H) : Option (ax_H) := ax_S ax_ρV (ax_env ax_EE 141) ax_nn r_141 r_141_2 [(0, .ref v0), (1, .ref v1), (2, .int v2), (3, .int v3)] [] h
noncomputable def Ft_drawWorld_29  (v0 : Nat) (v1 : Nat) (v2 : Int32) (v3 : Int32) (h : ax_H) : Option (ax_H) := ax_S ax_ρV (ax_env ax_EE 141) ax_nn r_141 r_141_29 [(0, .ref v0), (1, .ref v1), (2, .int v2), (3, .int v3)] [] h
noncomputable def Ft_drawWorld_74 (k0 : Int32) (v0 : Nat) (v1 : Nat) (v2 : Int32) (v3 : Int32) (v4 : Int32) (h : ax_H) : Option (ax_H) := ax_S ax_ρV (ax_env ax_EE 141) ax_nn r_141 r_141_74 [(0, .ref v0), (1, .ref v1), (2, .int v2), (3, .int v3), (4, .int v4)] [.int k0] h
noncomputable def Ft_drawWorld_102  (v0 : Nat) (v1 : Nat) (v2 : Int32) (v3 : Int32) (v6 : Int64) (v8 : Int32) (h : ax_H) : Option (ax_H) := ax_S ax_ρV (ax_env ax_EE 141) ax_nn r_141 r_141_102 [(0, .ref v0), (1, .ref v1), (2, .int v2), (3, .int v3), (6, .long v6), (8, .int v8)] [] h
set_option maxRecDepth 100000 in
set_option maxHeartbeats 4000000 in
theorem Ft_drawWorld_eq (v0 : Nat) (v1 : Nat) (v2 : Int32) (h : ax_H) : Ft_drawWorld v0 v1 v2 h =
  (Ft_drawWorld_2 v0 v1 v2 0 h ) :=
  (ax_entV (N := 141) (C := r_141) (by decide) rfl (Nat.le_of_ble_eq_true rfl)).trans rfl
set_option maxRecDepth 100000 in
set_option maxHeartbeats 4000000 in
theorem Ft_drawWorld_2_eq  (v0 : Nat) (v1 : Nat) (v2 : Int32) (v3 : Int32) (h : ax_H) : Ft_drawWorld_2  v0 v1 v2 v3 h =
  (if (gS h v0).1 = 7 then if decide ((gI h v0 4) ≤ v3) then
    (Ft_drawWorld_29 v0 v1 v2 0 h )
  else
    (if (gS h v0).1 = 7 then if ax_in h (gR h v0 11) 17 ((v3 * 4) + 3) then let h1 := pL h (gR h v0 11) (Int32.toNatClampNeg ((v3 * 4) + 3)) 0; Ft_drawWorld_2 v0 v1 v2 (v3 + 1) h1 else none else none) else none) :=
  (ax_S_eq _ _ _ _).trans rfl
set_option maxRecDepth 100000 in
set_option maxHeartbeats 4000000 in
theorem Ft_drawWorld_29_eq  (v0 : Nat) (v1 : Nat) (v2 : Int32) (v3 : Int32) (h : ax_H) : Ft_drawWorld_29  v0 v1 v2 v3 h =
  (if (gS h v0).1 = 7 then if decide (((2 : Int32) * (gI h v0 0)) ≤ v3) then
    (some h )
  else
    (if (gS h v0).1 = 7 then if ax_in h (gR h v0 9) 16 v3 then if (gS h v0).1 = 7 then (Ft_drawSlip v0 v2 h).bind (fun r1 => let x2 := ((gI h (gR h v0 9) (Int32.toNatClampNeg v3)) + r1.1); if (gS r1.2 v0).1 = 7 then if ax_in r1.2 (gR r1.2 v0 1) 16 (v3 / 2) then if (gS r1.2 v1).1 = 1 then (Bk_kindOf v1 (gI r1.2 (gR r1.2 v0 1) (Int32.toNatClampNeg (v3 / 2))) r1.2).bind (fun r3 => if decide (¬ r3.1 = 1) then
      (Ft_drawWorld_74 0 v0 v1 v2 v3 x2 r3.2 )
    else
      (Ft_drawWorld_74 1 v0 v1 v2 v3 x2 r3.2 ) ) else none else none else none ) else none else none else none) else none) :=
  (ax_S_eq _ _ _ _).trans rfl
set_option maxRecDepth 100000 in
set_option maxHeartbeats 4000000 in
theorem Ft_drawWorld_74_eq (k0 : Int32) (v0 : Nat) (v1 : Nat) (v2 : Int32) (v3 : Int32) (v4 : Int32) (h : ax_H) : Ft_drawWorld_74 k0 v0 v1 v2 v3 v4 h =
  (if decide (k0 = 0) then
    (if (gS h v0).1 = 7 then if ax_in h (gR h v0 7) 16 v3 then let x1 := (Int32.toInt64 (v4 - (gI h (gR h v0 7) (Int32.toNatClampNeg v3)))); Ft_drawWorld_102 v0 v1 v2 v3 x1 0 h else none else none)
  else
    (if (gS h v0).1 = 7 then if ax_in h (gR h v0 7) 16 v3 then let x2 := (Int32.toInt64 ((-v4) - (gI h (gR h v0 7) (Int32.toNatClampNeg v3)))); Ft_drawWorld_102 v0 v1 v2 v3 x2 0 h else none else none) ) :=
  (ax_S_eq _ _ _ _).trans rfl
set_option maxRecDepth 100000 in
set_option maxHeartbeats 4000000 in
theorem Ft_drawWorld_102_eq  (v0 : Nat) (v1 : Nat) (v2 : Int32) (v3 : Int32) (v6 : Int64) (v8 : Int32) (h : ax_H) : Ft_drawWorld_102  v0 v1 v2 v3 v6 v8 h =
  (if (gS h v0).1 = 7 then if decide ((gI h v0 4) ≤ v8) then
    (Ft_drawWorld_29 v0 v1 v2 (v3 + 1) h )
  else
    (if (gS h v0).1 = 7 then if ax_in h (gR h v0 11) 17 ((v8 * 4) + 3) then if (gS h v0).1 = 7 then if ax_in h (gR h v0 6) 16 ((v3 * 3) + v8) then if ax_in h (gR h v0 11) 17 ((v8 * 4) + 3) then let h1 := pL h (gR h v0 11) (Int32.toNatClampNeg ((v8 * 4) + 3)) ((gL h (gR h v0 11) (Int32.toNatClampNeg ((v8 * 4) + 3))) + (v6 * (Int32.toInt64 (gI h (gR h v0 6) (Int32.toNatClampNeg ((v3 * 3) + v8)))))); Ft_drawWorld_102 v0 v1 v2 v3 v6 (v8 + 1) h1 else none else none else none else none else none) else none) :=
  (ax_S_eq _ _ _ _).trans rfl
/-- 142 BlackSun$Fit.rightWorlds(LBlackSun$Book;IIIII)I -/
noncomputable def Ft_rightWorlds (v0 : Nat) (v1 : Nat) (v2 : Int32) (v3 : Int32) (v4 : Int32) (v5 : Int32) (v6 : Int32) (h : ax_H) : Option (Int32 × ax_H) := (ax_EE 142).2.1 [.ref v0, .ref v1, .int v2, .int v3, .int v4, .int v5, .int v6] h
noncomputable def Ft_rightWorlds_36  (v0 : Nat) (v1 : Nat) (v3 : Int32) (v4 : Int32) (v5 : Int32) (v6 : Int32) (v7 : Int32) (v8 : Int32) (h : ax_H) : Option (Int32 × ax_H) := ax_S ax_ρI (ax_env ax_EE 142) ax_nn r_142 r_142_36 [(0, .ref v0), (1, .ref v1), (3, .int v3), (4, .int v4), (5, .int v5), (6, .int v6), (7, .int v7), (8, .int v8)] [] h
set_option maxRecDepth 100000 in
set_option maxHeartbeats 4000000 in
theorem Ft_rightWorlds_eq (v0 : Nat) (v1 : Nat) (v2 : Int32) (v3 : Int32) (v4 : Int32) (v5 : Int32) (v6 : Int32) (h : ax_H) : Ft_rightWorlds v0 v1 v2 v3 v4 v5 v6 h =
  (if (gS h v0).1 = 7 then (Ft_makeLawful v0 v1 v3 h).bind (fun h1 => if (gS h1 v0).1 = 7 then if ax_in h1 (gR h1 v0 10) 22 46 then if (gS h1 v0).1 = 7 then if ax_cp h1 (gR h1 (gR h1 v0 10) (Int32.toNatClampNeg 46)) 17 0 13 ∧ ax_cp h1 (gR h1 v0 11) 17 0 13 ∧ ¬ (13 : Int32) < 0 ∧ (([] : List Value).map (fun v => v.category)).sum ≤ 8 then let h2 := rL h1 (gR h1 v0 11) (va_cpy (gL h1 (gR h1 (gR h1 v0 10) (Int32.toNatClampNeg 46))) (gL h1 (gR h1 v0 11)) (Int32.toNatClampNeg 0) (Int32.toNatClampNeg 0) (Int32.toNatClampNeg 13)); if (gS h2 v0).1 = 7 then let h3 := pL h2 v0 14 (Int32.toInt64 v2); Ft_rightWorlds_36 v0 v1 v3 v4 v5 v6 0 0 h3 else none else none else none else none else none ) else none) :=
  (ax_entI (N := 142) (C := r_142) (by decide) rfl (Nat.le_of_ble_eq_true rfl)).trans rfl
set_option maxRecDepth 100000 in
set_option maxHeartbeats 4000000 in
theorem Ft_rightWorlds_36_eq  (v0 : Nat) (v1 : Nat) (v3 : Int32) (v4 : Int32) (v5 : Int32) (v6 : Int32) (v7 : Int32) (v8 : Int32) (h : ax_H) : Ft_rightWorlds_36  v0 v1 v3 v4 v5 v6 v7 v8 h =
  (if decide (v5 ≤ v8) then
    (some (v7, h) )
  else
    (if (gS h v0).1 = 7 then (Ft_drawWorld v0 v1 v4 h).bind (fun h1 => if (gS h1 v0).1 = 7 then (Ft_solve v0 h1).bind (fun r2 => if decide (r2.1 = 0) then
      (Ft_rightWorlds_36 v0 v1 v3 v4 v5 v6 v7 (v8 + 1) r2.2 )
    else
      (if (gS r2.2 v0).1 = 7 then if ax_in r2.2 (gR r2.2 v0 2) 16 4 then (B_isNear (gI r2.2 (gR r2.2 v0 2) (Int32.toNatClampNeg 4)) v3 v6 r2.2).bind (fun r3 => if decide (r3.1 = 0) then
        (Ft_rightWorlds_36 v0 v1 v3 v4 v5 v6 v7 (v8 + 1) r3.2 )
      else
        (Ft_rightWorlds_36 v0 v1 v3 v4 v5 v6 (v7 + 1) (v8 + 1) r3.2 ) ) else none else none) ) else none ) else none) ) :=
  (ax_S_eq _ _ _ _).trans rfl
/-- 143 BlackSun.right(IIIIII)I -/
noncomputable def B_right (v0 : Nat) (v1 : Int32) (v2 : Int32) (v3 : Int32) (v4 : Int32) (v5 : Int32) (v6 : Int32) (h : ax_H) : Option (Int32 × ax_H) := (ax_EE 143).2.1 [.ref v0, .int v1, .int v2, .int v3, .int v4, .int v5, .int v6] h
set_option maxRecDepth 100000 in
set_option maxHeartbeats 4000000 in
theorem B_right_eq (v0 : Nat) (v1 : Int32) (v2 : Int32) (v3 : Int32) (v4 : Int32) (v5 : Int32) (v6 : Int32) (h : ax_H) : B_right v0 v1 v2 v3 v4 v5 v6 h =
  (if (gS h v0).1 = 0 then if (gS h (gR h v0 0)).1 = 1 then (Bk_wayAt (gR h v0 0) v1 h).bind (fun r1 => if r1.1 = 0 then
    (some ((-1), r1.2) )
  else
    (if decide (v2 < 0) then
      (some ((-1), r1.2) )
    else
      ((B_isWithin v3 0 9999 r1.2).bind (fun r2 => if decide (r2.1 = 0) then
        (some ((-1), r2.2) )
      else
        ((B_isWithin v4 0 99 r2.2).bind (fun r3 => if decide (¬ r3.1 = 0) then
          ((B_isWithin v5 1 50 r3.2).bind (fun r4 => if decide (r4.1 = 0) then
            (some ((-1), r4.2) )
          else
            ((B_isWithin v6 0 99999 r4.2).bind (fun r5 => if decide (¬ r5.1 = 0) then
              (if (gS r5.2 v0).1 = 0 then if (gS r5.2 v0).1 = 0 then if (gS r5.2 v0).1 = 0 then if (gS r5.2 (gR r5.2 v0 0)).1 = 1 then if (gS r5.2 (gR r5.2 v0 3)).1 = 7 then (Ft_open (gR r5.2 v0 3) (gR r5.2 v0 0) r1.1 (gI r5.2 (gR r5.2 v0 0) 0) r5.2).bind (fun r6 => if decide (¬ r6.1 = 0) then
                (if (gS r6.2 v0).1 = 0 then if (gS r6.2 v0).1 = 0 then if (gS r6.2 (gR r6.2 v0 3)).1 = 7 then (Ft_rightWorlds (gR r6.2 v0 3) (gR r6.2 v0 0) v2 v3 v4 v5 v6 r6.2).bind (fun r7 => some (r7.1, r7.2) ) else none else none else none)
              else
                (some (0, r6.2) ) ) else none else none else none else none else none)
            else
              (some ((-1), r5.2) ) )) ))
        else
          (some ((-1), r3.2) ) )) )) ) ) else none else none) :=
  (ax_entI (N := 143) (C := r_143) (by decide) rfl (Nat.le_of_ble_eq_true rfl)).trans rfl
/-- 144 BlackSun$Fit.farthest(Z)I -/
noncomputable def Ft_farthest (v0 : Nat) (v1 : Int32) (h : ax_H) : Option (Int32 × ax_H) := (ax_EE 144).2.1 [.ref v0, .int v1] h
noncomputable def Ft_farthest_21  (v0 : Nat) (v1 : Int32) (v2 : Int32) (v3 : Int32) (h : ax_H) : Option (Int32 × ax_H) := ax_S ax_ρI (ax_env ax_EE 144) ax_nn r_144 r_144_21 [(0, .ref v0), (1, .int v1), (2, .int v2), (3, .int v3)] [] h
set_option maxRecDepth 100000 in
set_option maxHeartbeats 4000000 in
theorem Ft_farthest_eq (v0 : Nat) (v1 : Int32) (h : ax_H) : Ft_farthest v0 v1 h =
  (if (gS h v0).1 = 7 then (Ft_solveAll v0 h).bind (fun r1 => if decide (r1.1 = 0) then
    (Ft_farthest_21 v0 v1 (-1000000000) 0 r1.2 )
  else
    (if (gS r1.2 v0).1 = 7 then if ax_in r1.2 (gR r1.2 v0 2) 16 4 then let x2 := (gI r1.2 (gR r1.2 v0 2) (Int32.toNatClampNeg 4)); Ft_farthest_21 v0 v1 x2 0 r1.2 else none else none) ) else none) :=
  (ax_entI (N := 144) (C := r_144) (by decide) rfl (Nat.le_of_ble_eq_true rfl)).trans rfl
set_option maxRecDepth 100000 in
set_option maxHeartbeats 4000000 in
theorem Ft_farthest_21_eq  (v0 : Nat) (v1 : Int32) (v2 : Int32) (v3 : Int32) (h : ax_H) : Ft_farthest_21  v0 v1 v2 v3 h =
  (if decide ((46 : Int32) ≤ v3) then
    (some (v2, h) )
  else
    (if (gS h v0).1 = 7 then if ax_in h (gR h v0 10) 22 v3 then if ax_in h (gR h (gR h v0 10) (Int32.toNatClampNeg v3)) 17 12 then if decide ((lg_cmp (gL h (gR h (gR h v0 10) (Int32.toNatClampNeg v3)) (Int32.toNatClampNeg 12)) 0) = 0) then
      (Ft_farthest_21 v0 v1 v2 (v3 + 1) h )
    else
      (if (gS h v0).1 = 7 then (Ft_solveWithout v0 v3 h).bind (fun r1 => if decide (r1.1 = 0) then
        (Ft_farthest_21 v0 v1 v2 (v3 + 1) r1.2 )
      else
        (if (gS r1.2 v0).1 = 7 then if ax_in r1.2 (gR r1.2 v0 2) 16 4 then let x2 := (gI r1.2 (gR r1.2 v0 2) (Int32.toNatClampNeg 4)); if decide (v2 = (-1000000000)) then
          (Ft_farthest_21 v0 v1 x2 (v3 + 1) r1.2 )
        else
          (if decide (v1 = 0) then
            (if decide (v2 ≤ x2) then
              (Ft_farthest_21 v0 v1 v2 (v3 + 1) r1.2 )
            else
              (Ft_farthest_21 v0 v1 x2 (v3 + 1) r1.2 ) )
          else
            (if decide (x2 ≤ v2) then
              (Ft_farthest_21 v0 v1 v2 (v3 + 1) r1.2 )
            else
              (Ft_farthest_21 v0 v1 x2 (v3 + 1) r1.2 ) ) ) else none else none) ) else none) else none else none else none) ) :=
  (ax_S_eq _ _ _ _).trans rfl
/-- 145 BlackSun.span(III)I -/
noncomputable def B_span (v0 : Nat) (v1 : Int32) (v2 : Int32) (v3 : Int32) (h : ax_H) : Option (Int32 × ax_H) := (ax_EE 145).2.1 [.ref v0, .int v1, .int v2, .int v3] h
set_option maxRecDepth 100000 in
set_option maxHeartbeats 4000000 in
theorem B_span_eq (v0 : Nat) (v1 : Int32) (v2 : Int32) (v3 : Int32) (h : ax_H) : B_span v0 v1 v2 v3 h =
  (if (gS h v0).1 = 0 then if (gS h (gR h v0 0)).1 = 1 then (Bk_wayAt (gR h v0 0) v1 h).bind (fun r1 => if r1.1 = 0 then
    (some ((-2000000000), r1.2) )
  else
    ((B_isWeek v2 r1.2).bind (fun r2 => if decide (r2.1 = 0) then
      (some ((-2000000000), r2.2) )
    else
      ((B_isChoice v3 r2.2).bind (fun r3 => if decide (¬ r3.1 = 0) then
        (if (gS r3.2 v0).1 = 0 then if (gS r3.2 v0).1 = 0 then if (gS r3.2 (gR r3.2 v0 3)).1 = 7 then (Ft_open (gR r3.2 v0 3) (gR r3.2 v0 0) r1.1 v2 r3.2).bind (fun r4 => if decide (r4.1 = 0) then
          (some ((-1000000000), r4.2) )
        else
          (if (gS r4.2 v0).1 = 0 then if decide (¬ v3 = 1) then
            (if (gS r4.2 (gR r4.2 v0 3)).1 = 7 then (Ft_farthest (gR r4.2 v0 3) 0 r4.2).bind (fun r5 => some (r5.1, r5.2) ) else none)
          else
            (if (gS r4.2 (gR r4.2 v0 3)).1 = 7 then (Ft_farthest (gR r4.2 v0 3) 1 r4.2).bind (fun r6 => some (r6.1, r6.2) ) else none) else none) ) else none else none else none)
      else
        (some ((-2000000000), r3.2) ) )) )) ) else none else none) :=
  (ax_entI (N := 145) (C := r_145) (by decide) rfl (Nat.le_of_ble_eq_true rfl)).trans rfl
/-- 146 BlackSun.named(IIIII)I -/
noncomputable def B_named (v0 : Nat) (v1 : Int32) (v2 : Int32) (v3 : Int32) (v4 : Int32) (v5 : Int32) (h : ax_H) : Option (Int32 × ax_H) := (ax_EE 146).2.1 [.ref v0, .int v1, .int v2, .int v3, .int v4, .int v5] h
noncomputable def B_named_50  (v0 : Nat) (v1 : Int32) (v2 : Int32) (v3 : Int32) (v4 : Int32) (v6 : Int32) (v7 : Int32) (v8 : Int32) (h : ax_H) : Option (Int32 × ax_H) := ax_S ax_ρI (ax_env ax_EE 146) ax_nn r_146 r_146_50 [(0, .ref v0), (1, .int v1), (2, .int v2), (3, .int v3), (4, .int v4), (6, .int v6), (7, .int v7), (8, .int v8)] [] h
set_option maxRecDepth 100000 in
set_option maxHeartbeats 4000000 in
theorem B_named_eq (v0 : Nat) (v1 : Int32) (v2 : Int32) (v3 : Int32) (v4 : Int32) (v5 : Int32) (h : ax_H) : B_named v0 v1 v2 v3 v4 v5 h =
  ((B_isWeek v1 h).bind (fun r1 => if decide (r1.1 = 0) then
    (some ((-1), r1.2) )
  else
    ((B_areThree v2 v3 v4 r1.2).bind (fun r2 => if decide (r2.1 = 0) then
      (some ((-1), r2.2) )
    else
      ((B_isWithin v5 0 3 r2.2).bind (fun r3 => if decide (¬ r3.1 = 0) then
        (if decide (¬ v5 = 3) then
          (B_named_50 v0 v1 v2 v3 v4 v5 0 0 r3.2 )
        else
          (B_named_50 v0 v1 v2 v3 v4 (-2) 0 0 r3.2 ) )
      else
        (some ((-1), r3.2) ) )) )) )) :=
  (ax_entI (N := 146) (C := r_146) (by decide) rfl (Nat.le_of_ble_eq_true rfl)).trans rfl
set_option maxRecDepth 100000 in
set_option maxHeartbeats 4000000 in
theorem B_named_50_eq  (v0 : Nat) (v1 : Int32) (v2 : Int32) (v3 : Int32) (v4 : Int32) (v6 : Int32) (v7 : Int32) (v8 : Int32) (h : ax_H) : B_named_50  v0 v1 v2 v3 v4 v6 v7 v8 h =
  (if (gS h v0).1 = 0 then if (gS h (gR h v0 0)).1 = 1 then if decide ((gI h (gR h v0 0) 4) ≤ v8) then
    (some (v7, h) )
  else
    (if (gS h v0).1 = 0 then if (gS h (gR h v0 0)).1 = 1 then (Bk_wayAt (gR h v0 0) v8 h).bind (fun r1 => if r1.1 = 0 then
      (B_named_50 v0 v1 v2 v3 v4 v6 v7 (v8 + 1) r1.2 )
    else
      (if (gS r1.2 v0).1 = 0 then if (gS r1.2 v0).1 = 0 then if (gS r1.2 (gR r1.2 v0 3)).1 = 7 then (Ft_leastOfThree (gR r1.2 v0 3) (gR r1.2 v0 0) r1.1 v1 v2 v3 v4 r1.2).bind (fun r2 => if decide (¬ r2.1 = v6) then
        (B_named_50 v0 v1 v2 v3 v4 v6 v7 (v8 + 1) r2.2 )
      else
        (B_named_50 v0 v1 v2 v3 v4 v6 (v7 + 1) (v8 + 1) r2.2 ) ) else none else none else none) ) else none else none) else none else none) :=
  (ax_S_eq _ _ _ _).trans rfl
/-- 147 BlackSun.glass(IIII)Z -/
noncomputable def B_glass (v0 : Nat) (v1 : Int32) (v2 : Int32) (v3 : Int32) (v4 : Int32) (h : ax_H) : Option (Int32 × ax_H) := (ax_EE 147).2.1 [.ref v0, .int v1, .int v2, .int v3, .int v4] h
set_option maxRecDepth 100000 in
set_option maxHeartbeats 4000000 in
theorem B_glass_eq (v0 : Nat) (v1 : Int32) (v2 : Int32) (v3 : Int32) (v4 : Int32) (h : ax_H) : B_glass v0 v1 v2 v3 v4 h =
  ((B_isIsland v1 h).bind (fun r1 => if decide (r1.1 = 0) then
    (some (0, r1.2) )
  else
    ((B_isTerm v2 r1.2).bind (fun r2 => if decide (r2.1 = 0) then
      (some (0, r2.2) )
    else
      (if decide (¬ v2 = 4) then
        ((B_isWithin v3 (-9999) 9999 r2.2).bind (fun r3 => if decide (r3.1 = 0) then
          (some (0, r3.2) )
        else
          ((B_isWithin v4 (-99) 99 r3.2).bind (fun r4 => if decide (¬ r4.1 = 0) then
            (if (gS r4.2 v0).1 = 0 then if (gS r4.2 (gR r4.2 v0 0)).1 = 1 then if ax_in r4.2 (gR r4.2 (gR r4.2 v0 0) 13) 16 ((v1 * 6) + v2) then let h5 := pI r4.2 (gR r4.2 (gR r4.2 v0 0) 13) (Int32.toNatClampNeg ((v1 * 6) + v2)) v3; if (gS h5 v0).1 = 0 then if (gS h5 (gR h5 v0 0)).1 = 1 then if ax_in h5 (gR h5 (gR h5 v0 0) 14) 16 ((v1 * 6) + v2) then let h6 := pI h5 (gR h5 (gR h5 v0 0) 14) (Int32.toNatClampNeg ((v1 * 6) + v2)) v4; some (1, h6) else none else none else none else none else none else none)
          else
            (some (0, r4.2) ) )) ))
      else
        (some (0, r2.2) ) ) )) )) :=
  (ax_entI (N := 147) (C := r_147) (by decide) rfl (Nat.le_of_ble_eq_true rfl)).trans rfl
/-- 148 BlackSun$Book.warm(III)V -/
noncomputable def Bk_warm (v0 : Nat) (v1 : Int32) (v2 : Int32) (v3 : Int32) (h : ax_H) : Option (ax_H) := (ax_EE 148).1 [.ref v0, .int v1, .int v2, .int v3] h
noncomputable def Bk_warm_17  (v0 : Nat) (v1 : Int32) (v2 : Int32) (v3 : Int32) (v4 : Int32) (v5 : Int32) (h : ax_H) : Option (ax_H) := ax_S ax_ρV (ax_env ax_EE 148) ax_nn r_148 r_148_17 [(0, .ref v0), (1, .int v1), (2, .int v2), (3, .int v3), (4, .int v4), (5, .int v5)] [] h
set_option maxRecDepth 100000 in
set_option maxHeartbeats 4000000 in
theorem Bk_warm_eq (v0 : Nat) (v1 : Int32) (v2 : Int32) (v3 : Int32) (h : ax_H) : Bk_warm v0 v1 v2 v3 h =
  (if (gS h v0).1 = 1 then if (gS h (gR h v0 2)).1 = 3 then if ax_in h (gR h (gR h v0 2) 1) 16 v1 then let x1 := ((gI h (gR h (gR h v0 2) 1) (Int32.toNatClampNeg v1)) * 6); Bk_warm_17 v0 v1 v2 v3 x1 0 h else none else none else none) :=
  (ax_entV (N := 148) (C := r_148) (by decide) rfl (Nat.le_of_ble_eq_true rfl)).trans rfl
set_option maxRecDepth 100000 in
set_option maxHeartbeats 4000000 in
theorem Bk_warm_17_eq  (v0 : Nat) (v1 : Int32) (v2 : Int32) (v3 : Int32) (v4 : Int32) (v5 : Int32) (h : ax_H) : Bk_warm_17  v0 v1 v2 v3 v4 v5 h =
  (if decide ((6 : Int32) ≤ v5) then
    (if (gS h v0).1 = 1 then if (gS h v0).1 = 1 then if (gS h (gR h v0 2)).1 = 3 then if ax_in h (gR h (gR h v0 2) 2) 16 v1 then if decide (¬ (gI h (gR h (gR h v0 2) 2) (Int32.toNatClampNeg v1)) = 1) then
      (if ax_in h (gR h v0 16) 16 4 then let h1 := pI h (gR h v0 16) (Int32.toNatClampNeg 4) v3; some h1 else none)
    else
      (if ax_in h (gR h v0 16) 16 4 then let h2 := pI h (gR h v0 16) (Int32.toNatClampNeg 4) 0; some h2 else none) else none else none else none else none)
  else
    (if (gS h v0).1 = 1 then if (gS h v0).1 = 1 then if ax_in h (gR h v0 13) 16 (v4 + v5) then if (gS h v0).1 = 1 then if ax_in h (gR h v0 14) 16 (v4 + v5) then if ax_in h (gR h v0 16) 16 v5 then let h3 := pI h (gR h v0 16) (Int32.toNatClampNeg v5) ((gI h (gR h v0 13) (Int32.toNatClampNeg (v4 + v5))) + (v2 * (gI h (gR h v0 14) (Int32.toNatClampNeg (v4 + v5))))); Bk_warm_17 v0 v1 v2 v3 v4 (v5 + 1) h3 else none else none else none else none else none else none) ) :=
  (ax_S_eq _ _ _ _).trans rfl
