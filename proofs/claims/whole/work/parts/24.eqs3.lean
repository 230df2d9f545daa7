/-! the methods' equations, printed by wip/gen/eqs.py -/
/-- 149 BlackSun$Book.standing(II)I -/
noncomputable def Bk_standing (v0 : Nat) (v1 : Int32) (v2 : Int32) (h : ax_H) : Option (Int32 × ax_H) := (ax_EE 149).2.1 [.ref v0, .int v1, .int v2] h
noncomputable def Bk_standing_5  (v0 : Nat) (v1 : Int32) (v2 : Int32) (v3 : Int32) (v4 : Int32) (h : ax_H) : Option (Int32 × ax_H) := ax_S ax_ρI (ax_env ax_EE 149) ax_nn r_149 r_149_5 [(0, .ref v0), (1, .int v1), (2, .int v2), (3, .int v3), (4, .int v4)] [] h
set_option maxRecDepth 100000 in
set_option maxHeartbeats 4000000 in
theorem Bk_standing_eq (v0 : Nat) (v1 : Int32) (v2 : Int32) (h : ax_H) : Bk_standing v0 v1 v2 h =
  (Bk_standing_5 v0 v1 v2 0 0 h ) :=
  (ax_entI (N := 149) (C := r_149) (by decide) rfl (Nat.le_of_ble_eq_true rfl)).trans rfl
set_option maxRecDepth 100000 in
set_option maxHeartbeats 4000000 in
theorem Bk_standing_5_eq  (v0 : Nat) (v1 : Int32) (v2 : Int32) (v3 : Int32) (v4 : Int32) (h : ax_H) : Bk_standing_5  v0 v1 v2 v3 v4 h =
  (if decide ((6 : Int32) ≤ v4) then
    (some (v3, h) )
  else
    (if (gS h v0).1 = 1 then if ax_in h (gR h v0 16) 16 v4 then if decide ((gI h (gR h v0 16) (Int32.toNatClampNeg v4)) = 0) then
      (Bk_standing_5 v0 v1 v2 v3 (v4 + 1) h )
    else
      (if (gS h v0).1 = 1 then if ax_in h (gR h v0 16) 16 v4 then if (gS h v0).1 = 1 then if (gS h (gR h v0 1)).1 = 2 then (St_give (gR h v0 1) v4 v1 v2 h).bind (fun r1 => let x2 := ((gI h (gR h v0 16) (Int32.toNatClampNeg v4)) * r1.1); Bk_standing_5 v0 v1 v2 (v3 + (x2 / 1000)) (v4 + 1) r1.2 ) else none else none else none else none) else none else none) ) :=
  (ax_S_eq _ _ _ _).trans rfl
/-- 150 BlackSun.stands(IIII)I -/
noncomputable def B_stands (v0 : Nat) (v1 : Int32) (v2 : Int32) (v3 : Int32) (v4 : Int32) (h : ax_H) : Option (Int32 × ax_H) := (ax_EE 150).2.1 [.ref v0, .int v1, .int v2, .int v3, .int v4] h
set_option maxRecDepth 100000 in
set_option maxHeartbeats 4000000 in
theorem B_stands_eq (v0 : Nat) (v1 : Int32) (v2 : Int32) (v3 : Int32) (v4 : Int32) (h : ax_H) : B_stands v0 v1 v2 v3 v4 h =
  (if (gS h v0).1 = 0 then if (gS h (gR h v0 0)).1 = 1 then if (gS h (gR h (gR h v0 0) 2)).1 = 3 then (Pl_has (gR h (gR h v0 0) 2) v1 h).bind (fun r1 => if decide (r1.1 = 0) then
    (some ((-1000000), r1.2) )
  else
    (if (gS r1.2 v0).1 = 0 then if (gS r1.2 (gR r1.2 v0 0)).1 = 1 then if (gS r1.2 (gR r1.2 (gR r1.2 v0 0) 1)).1 = 2 then (St_has (gR r1.2 (gR r1.2 v0 0) 1) v2 r1.2).bind (fun r2 => if decide (r2.1 = 0) then
      (some ((-1000000), r2.2) )
    else
      ((B_isNumber v3 r2.2).bind (fun r3 => if decide (r3.1 = 0) then
        (some ((-1000000), r3.2) )
      else
        ((B_isChoice v4 r3.2).bind (fun r4 => if decide (¬ r4.1 = 0) then
          (if (gS r4.2 v0).1 = 0 then if (gS r4.2 v0).1 = 0 then if (gS r4.2 (gR r4.2 v0 0)).1 = 1 then if (gS r4.2 (gR r4.2 (gR r4.2 v0 0) 2)).1 = 3 then if ax_in r4.2 (gR r4.2 (gR r4.2 (gR r4.2 v0 0) 2) 3) 16 v1 then if (gS r4.2 (gR r4.2 v0 0)).1 = 1 then (Bk_warm (gR r4.2 v0 0) v1 (gI r4.2 (gR r4.2 (gR r4.2 (gR r4.2 v0 0) 2) 3) (Int32.toNatClampNeg v1)) v3 r4.2).bind (fun h5 => if (gS h5 v0).1 = 0 then if (gS h5 (gR h5 v0 0)).1 = 1 then (Bk_standing (gR h5 v0 0) v2 v4 h5).bind (fun r6 => some (r6.1, r6.2) ) else none else none ) else none else none else none else none else none else none)
        else
          (some ((-1000000), r4.2) ) )) )) ) else none else none else none) ) else none else none else none) :=
  (ax_entI (N := 150) (C := r_150) (by decide) rfl (Nat.le_of_ble_eq_true rfl)).trans rfl
/-- 151 BlackSun$Book.squaresOff(II)J -/
noncomputable def Bk_squaresOff (v0 : Nat) (v1 : Int32) (v2 : Int32) (h : ax_H) : Option (Int64 × ax_H) := (ax_EE 151).2.2.1 [.ref v0, .int v1, .int v2] h
noncomputable def Bk_squaresOff_5  (v0 : Nat) (v1 : Int32) (v2 : Int32) (v3 : Int64) (v5 : Int32) (h : ax_H) : Option (Int64 × ax_H) := ax_S ax_ρL (ax_env ax_EE 151) ax_nn r_151 r_151_5 [(0, .ref v0), (1, .int v1), (2, .int v2), (3, .long v3), (5, .int v5)] [] h
set_option maxRecDepth 100000 in
set_option maxHeartbeats 4000000 in
theorem Bk_squaresOff_eq (v0 : Nat) (v1 : Int32) (v2 : Int32) (h : ax_H) : Bk_squaresOff v0 v1 v2 h =
  (Bk_squaresOff_5 v0 v1 v2 0 0 h ) :=
  (ax_entL (N := 151) (C := r_151) (by decide) rfl (Nat.le_of_ble_eq_true rfl)).trans rfl
set_option maxRecDepth 100000 in
set_option maxHeartbeats 4000000 in
theorem Bk_squaresOff_5_eq  (v0 : Nat) (v1 : Int32) (v2 : Int32) (v3 : Int64) (v5 : Int32) (h : ax_H) : Bk_squaresOff_5  v0 v1 v2 v3 v5 h =
  (if (gS h v0).1 = 1 then if (gS h (gR h v0 3)).1 = 4 then if decide ((gI h (gR h v0 3) 0) ≤ v5) then
    (some (v3, h) )
  else
    (if (gS h v0).1 = 1 then if (gS h (gR h v0 3)).1 = 4 then if ax_in h (gR h (gR h v0 3) 1) 16 v5 then if decide (¬ (gI h (gR h (gR h v0 3) 1) (Int32.toNatClampNeg v5)) = v1) then
      (Bk_squaresOff_5 v0 v1 v2 v3 (v5 + 1) h )
    else
      (if (gS h v0).1 = 1 then if (gS h (gR h v0 3)).1 = 4 then (Im_isKnown (gR h v0 3) v5 v2 h).bind (fun r1 => if decide (r1.1 = 0) then
        (Bk_squaresOff_5 v0 v1 v2 v3 (v5 + 1) r1.2 )
      else
        (if (gS r1.2 v0).1 = 1 then if (gS r1.2 (gR r1.2 v0 3)).1 = 4 then if ax_in r1.2 (gR r1.2 (gR r1.2 v0 3) 4) 16 v5 then if (gS r1.2 v0).1 = 1 then if (gS r1.2 (gR r1.2 v0 3)).1 = 4 then if ax_in r1.2 (gR r1.2 (gR r1.2 v0 3) 2) 16 v5 then if (gS r1.2 v0).1 = 1 then (Bk_standing v0 (gI r1.2 (gR r1.2 (gR r1.2 v0 3) 2) (Int32.toNatClampNeg v5)) 0 r1.2).bind (fun r2 => let x3 := (Int32.toInt64 ((gI r1.2 (gR r1.2 (gR r1.2 v0 3) 4) (Int32.toNatClampNeg v5)) - r2.1)); if (gS r2.2 v0).1 = 1 then if (gS r2.2 (gR r2.2 v0 3)).1 = 4 then if ax_in r2.2 (gR r2.2 (gR r2.2 v0 3) 5) 16 v5 then if (gS r2.2 v0).1 = 1 then if (gS r2.2 (gR r2.2 v0 3)).1 = 4 then if ax_in r2.2 (gR r2.2 (gR r2.2 v0 3) 2) 16 v5 then if (gS r2.2 v0).1 = 1 then (Bk_standing v0 (gI r2.2 (gR r2.2 (gR r2.2 v0 3) 2) (Int32.toNatClampNeg v5)) 1 r2.2).bind (fun r4 => let x5 := (Int32.toInt64 ((gI r2.2 (gR r2.2 (gR r2.2 v0 3) 5) (Int32.toNatClampNeg v5)) - r4.1)); Bk_squaresOff_5 v0 v1 v2 (v3 + ((x3 * x3) + (x5 * x5))) (v5 + 1) r4.2 ) else none else none else none else none else none else none else none ) else none else none else none else none else none else none else none) ) else none else none) else none else none else none) else none else none) :=
  (ax_S_eq _ _ _ _).trans rfl
/-- 152 BlackSun.off(III)J -/
noncomputable def B_off (v0 : Nat) (v1 : Int32) (v2 : Int32) (v3 : Int32) (h : ax_H) : Option (Int64 × ax_H) := (ax_EE 152).2.2.1 [.ref v0, .int v1, .int v2, .int v3] h
set_option maxRecDepth 100000 in
set_option maxHeartbeats 4000000 in
theorem B_off_eq (v0 : Nat) (v1 : Int32) (v2 : Int32) (v3 : Int32) (h : ax_H) : B_off v0 v1 v2 v3 h =
  (if (gS h v0).1 = 0 then if (gS h (gR h v0 0)).1 = 1 then if (gS h (gR h (gR h v0 0) 2)).1 = 3 then (Pl_has (gR h (gR h v0 0) 2) v1 h).bind (fun r1 => if decide (r1.1 = 0) then
    (some ((-1), r1.2) )
  else
    ((B_isWeek v2 r1.2).bind (fun r2 => if decide (r2.1 = 0) then
      (some ((-1), r2.2) )
    else
      ((B_isNumber v3 r2.2).bind (fun r3 => if decide (¬ r3.1 = 0) then
        (if (gS r3.2 v0).1 = 0 then if (gS r3.2 v0).1 = 0 then if (gS r3.2 (gR r3.2 v0 0)).1 = 1 then if (gS r3.2 (gR r3.2 (gR r3.2 v0 0) 2)).1 = 3 then if ax_in r3.2 (gR r3.2 (gR r3.2 (gR r3.2 v0 0) 2) 3) 16 v1 then if (gS r3.2 (gR r3.2 v0 0)).1 = 1 then (Bk_warm (gR r3.2 v0 0) v1 (gI r3.2 (gR r3.2 (gR r3.2 (gR r3.2 v0 0) 2) 3) (Int32.toNatClampNeg v1)) v3 r3.2).bind (fun h4 => if (gS h4 v0).1 = 0 then if (gS h4 (gR h4 v0 0)).1 = 1 then (Bk_squaresOff (gR h4 v0 0) v1 v2 h4).bind (fun r5 => some (r5.1, r5.2) ) else none else none ) else none else none else none else none else none else none)
      else
        (some ((-1), r3.2) ) )) )) ) else none else none else none) :=
  (ax_entL (N := 152) (C := r_152) (by decide) rfl (Nat.le_of_ble_eq_true rfl)).trans rfl
/-- 153 BlackSun$Book.likeliestHeat(III)I -/
noncomputable def Bk_likeliestHeat (v0 : Nat) (v1 : Int32) (v2 : Int32) (v3 : Int32) (h : ax_H) : Option (Int32 × ax_H) := (ax_EE 153).2.1 [.ref v0, .int v1, .int v2, .int v3] h
noncomputable def Bk_likeliestHeat_11  (v0 : Nat) (v1 : Int32) (v2 : Int32) (v3 : Int32) (v4 : Int32) (v5 : Int64) (v7 : Int32) (h : ax_H) : Option (Int32 × ax_H) := ax_S ax_ρI (ax_env ax_EE 153) ax_nn r_153 r_153_11 [(0, .ref v0), (1, .int v1), (2, .int v2), (3, .int v3), (4, .int v4), (5, .long v5), (7, .int v7)] [] h
set_option maxRecDepth 100000 in
set_option maxHeartbeats 4000000 in
theorem Bk_likeliestHeat_eq (v0 : Nat) (v1 : Int32) (v2 : Int32) (v3 : Int32) (h : ax_H) : Bk_likeliestHeat v0 v1 v2 v3 h =
  (Bk_likeliestHeat_11 v0 v1 v2 v3 0 (-1) 0 h ) :=
  (ax_entI (N := 153) (C := r_153) (by decide) rfl (Nat.le_of_ble_eq_true rfl)).trans rfl
set_option maxRecDepth 100000 in
set_option maxHeartbeats 4000000 in
theorem Bk_likeliestHeat_11_eq  (v0 : Nat) (v1 : Int32) (v2 : Int32) (v3 : Int32) (v4 : Int32) (v5 : Int64) (v7 : Int32) (h : ax_H) : Bk_likeliestHeat_11  v0 v1 v2 v3 v4 v5 v7 h =
  (if decide ((99 : Int32) < v7) then
    (some (v4, h) )
  else
    (if (gS h v0).1 = 1 then (Bk_warm v0 v1 v7 v3 h).bind (fun h1 => if (gS h1 v0).1 = 1 then (Bk_squaresOff v0 v1 v2 h1).bind (fun r2 => if decide ((lg_cmp v5 0) < 0) then
      (Bk_likeliestHeat_11 v0 v1 v2 v3 v7 r2.1 (v7 + 1) r2.2 )
    else
      (if decide ((0 : Int32) ≤ (lg_cmp r2.1 v5)) then
        (Bk_likeliestHeat_11 v0 v1 v2 v3 v4 v5 (v7 + 1) r2.2 )
      else
        (Bk_likeliestHeat_11 v0 v1 v2 v3 v7 r2.1 (v7 + 1) r2.2 ) ) ) else none ) else none) ) :=
  (ax_S_eq _ _ _ _).trans rfl
/-- 154 BlackSun.heat(III)I -/
noncomputable def B_heat (v0 : Nat) (v1 : Int32) (v2 : Int32) (v3 : Int32) (h : ax_H) : Option (Int32 × ax_H) := (ax_EE 154).2.1 [.ref v0, .int v1, .int v2, .int v3] h
set_option maxRecDepth 100000 in
set_option maxHeartbeats 4000000 in
theorem B_heat_eq (v0 : Nat) (v1 : Int32) (v2 : Int32) (v3 : Int32) (h : ax_H) : B_heat v0 v1 v2 v3 h =
  (if (gS h v0).1 = 0 then if (gS h (gR h v0 0)).1 = 1 then if (gS h (gR h (gR h v0 0) 2)).1 = 3 then (Pl_has (gR h (gR h v0 0) 2) v1 h).bind (fun r1 => if decide (r1.1 = 0) then
    (some ((-1), r1.2) )
  else
    ((B_isWeek v2 r1.2).bind (fun r2 => if decide (r2.1 = 0) then
      (some ((-1), r2.2) )
    else
      ((B_isNumber v3 r2.2).bind (fun r3 => if decide (¬ r3.1 = 0) then
        (if (gS r3.2 v0).1 = 0 then if (gS r3.2 (gR r3.2 v0 0)).1 = 1 then if (gS r3.2 (gR r3.2 (gR r3.2 v0 0) 3)).1 = 4 then (Im_isOnPlate (gR r3.2 (gR r3.2 v0 0) 3) v1 v2 r3.2).bind (fun r4 => if decide (r4.1 = 0) then
          (some ((-1), r4.2) )
        else
          (if (gS r4.2 v0).1 = 0 then if (gS r4.2 (gR r4.2 v0 0)).1 = 1 then (Bk_likeliestHeat (gR r4.2 v0 0) v1 v2 v3 r4.2).bind (fun r5 => some (r5.1, r5.2) ) else none else none) ) else none else none else none)
      else
        (some ((-1), r3.2) ) )) )) ) else none else none else none) :=
  (ax_entI (N := 154) (C := r_154) (by decide) rfl (Nat.le_of_ble_eq_true rfl)).trans rfl
/-- 155 BlackSun$Moves.<init>()V -/
noncomputable def Mv_init (v0 : Nat) (h : ax_H) : Option (ax_H) := (ax_EE 155).1 [.ref v0] h
set_option maxRecDepth 100000 in
set_option maxHeartbeats 4000000 in
theorem Mv_init_eq (v0 : Nat) (h : ax_H) : Mv_init v0 h =
  (if (gS h v0).1 < 12 ∧ (([] : List Value).map (fun v => v.category)).sum ≤ 8 then if (gS h v0).1 = 10 then let h1 := pI h v0 4 (-1); if (gS h1 v0).1 = 10 then let h2 := pI h1 v0 5 (-1); some h2 else none else none else none) :=
  (ax_entV (N := 155) (C := r_155) (by decide) rfl (Nat.le_of_ble_eq_true rfl)).trans rfl
/-- 156 BlackSun$Moves.isBefore(LBlackSun$Images;I)Z -/
noncomputable def Mv_isBefore (v0 : Nat) (v1 : Nat) (v2 : Int32) (h : ax_H) : Option (Int32 × ax_H) := (ax_EE 156).2.1 [.ref v0, .ref v1, .int v2] h
set_option maxRecDepth 100000 in
set_option maxHeartbeats 4000000 in
theorem Mv_isBefore_eq (v0 : Nat) (v1 : Nat) (v2 : Int32) (h : ax_H) : Mv_isBefore v0 v1 v2 h =
  (if (gS h v1).1 = 4 then if ax_in h (gR h v1 1) 16 v2 then if (gS h v0).1 = 10 then if decide ((gI h (gR h v1 1) (Int32.toNatClampNeg v2)) < (gI h v0 4)) then
    (some (1, h) )
  else
    (if (gS h v1).1 = 4 then if ax_in h (gR h v1 1) 16 v2 then if (gS h v0).1 = 10 then if decide (¬ (gI h (gR h v1 1) (Int32.toNatClampNeg v2)) = (gI h v0 4)) then
      (some (0, h) )
    else
      (if (gS h v1).1 = 4 then if ax_in h (gR h v1 2) 16 v2 then if (gS h v0).1 = 10 then if decide ((gI h v0 5) ≤ (gI h (gR h v1 2) (Int32.toNatClampNeg v2))) then
        (some (0, h) )
      else
        (some (1, h) ) else none else none else none) else none else none else none) else none else none else none) :=
  (ax_entI (N := 156) (C := r_156) (by decide) rfl (Nat.le_of_ble_eq_true rfl)).trans rfl
/-- 157 BlackSun$Moves.add(LBlackSun$Images;II)V -/
noncomputable def Mv_add (v0 : Nat) (v1 : Nat) (v2 : Int32) (v3 : Int32) (h : ax_H) : Option (ax_H) := (ax_EE 157).1 [.ref v0, .ref v1, .int v2, .int v3] h
noncomputable def Mv_add_110  (v0 : Nat) (v1 : Nat) (v2 : Int32) (v6 : Int32) (h : ax_H) : Option (ax_H) := ax_S ax_ρV (ax_env ax_EE 157) ax_nn r_157 r_157_110 [(0, .ref v0), (1, .ref v1), (2, .int v2), (6, .int v6)] [] h
set_option maxRecDepth 100000 in
set_option maxHeartbeats 4000000 in
theorem Mv_add_eq (v0 : Nat) (v1 : Nat) (v2 : Int32) (v3 : Int32) (h : ax_H) : Mv_add v0 v1 v2 v3 h =
  (if (gS h v1).1 = 4 then if ax_in h (gR h v1 4) 16 v3 then if (gS h v1).1 = 4 then if ax_in h (gR h v1 4) 16 v2 then let x1 := ((gI h (gR h v1 4) (Int32.toNatClampNeg v3)) - (gI h (gR h v1 4) (Int32.toNatClampNeg v2))); if (gS h v1).1 = 4 then if ax_in h (gR h v1 5) 16 v3 then if (gS h v1).1 = 4 then if ax_in h (gR h v1 5) 16 v2 then let x2 := ((gI h (gR h v1 5) (Int32.toNatClampNeg v3)) - (gI h (gR h v1 5) (Int32.toNatClampNeg v2))); if (gS h v0).1 = 10 then if (gS h v0).1 = 10 then let h3 := pI h v0 0 ((gI h v0 0) + 1); if (gS h3 v0).1 = 10 then if (gS h3 v0).1 = 10 then let h4 := pI h3 v0 1 ((gI h3 v0 1) + x1); if (gS h4 v0).1 = 10 then if (gS h4 v0).1 = 10 then let h5 := pI h4 v0 2 ((gI h4 v0 2) + x2); if (gS h5 v0).1 = 10 then if decide ((gI h5 v0 4) = (-1)) then
    (Mv_add_110 v0 v1 v2 ((x1 * x1) + (x2 * x2)) h5 )
  else
    (if (gS h5 v0).1 = 10 then if decide ((gI h5 v0 3) < ((x1 * x1) + (x2 * x2))) then
      (Mv_add_110 v0 v1 v2 ((x1 * x1) + (x2 * x2)) h5 )
    else
      (if (gS h5 v0).1 = 10 then if decide (¬ ((x1 * x1) + (x2 * x2)) = (gI h5 v0 3)) then
        (some h5 )
      else
        (if (gS h5 v0).1 = 10 then (Mv_isBefore v0 v1 v2 h5).bind (fun r6 => if decide (r6.1 = 0) then
          (some r6.2 )
        else
          (Mv_add_110 v0 v1 v2 ((x1 * x1) + (x2 * x2)) r6.2 ) ) else none) else none) else none) else none else none else none else none else none else none else none else none else none else none else none else none else none else none else none) :=
  (ax_entV (N := 157) (C := r_157) (by decide) rfl (Nat.le_of_ble_eq_true rfl)).trans rfl
set_option maxRecDepth 100000 in
set_option maxHeartbeats 4000000 in
theorem Mv_add_110_eq  (v0 : Nat) (v1 : Nat) (v2 : Int32) (v6 : Int32) (h : ax_H) : Mv_add_110  v0 v1 v2 v6 h =
  (if (gS h v0).1 = 10 then let h1 := pI h v0 3 v6; if (gS h1 v1).1 = 4 then if ax_in h1 (gR h1 v1 1) 16 v2 then if (gS h1 v0).1 = 10 then let h2 := pI h1 v0 4 (gI h1 (gR h1 v1 1) (Int32.toNatClampNeg v2)); if (gS h2 v1).1 = 4 then if ax_in h2 (gR h2 v1 2) 16 v2 then if (gS h2 v0).1 = 10 then let h3 := pI h2 v0 5 (gI h2 (gR h2 v1 2) (Int32.toNatClampNeg v2)); some h3 else none else none else none else none else none else none else none) :=
  (ax_S_eq _ _ _ _).trans rfl
/-- 158 BlackSun$Moves.gather(LBlackSun$Images;III)V -/
noncomputable def Mv_gather (v0 : Nat) (v1 : Nat) (v2 : Int32) (v3 : Int32) (v4 : Int32) (h : ax_H) : Option (ax_H) := (ax_EE 158).1 [.ref v0, .ref v1, .int v2, .int v3, .int v4] h
noncomputable def Mv_gather_3  (v0 : Nat) (v1 : Nat) (v2 : Int32) (v3 : Int32) (v4 : Int32) (v5 : Int32) (h : ax_H) : Option (ax_H) := ax_S ax_ρV (ax_env ax_EE 158) ax_nn r_158 r_158_3 [(0, .ref v0), (1, .ref v1), (2, .int v2), (3, .int v3), (4, .int v4), (5, .int v5)] [] h
set_option maxRecDepth 100000 in
set_option maxHeartbeats 4000000 in
theorem Mv_gather_eq (v0 : Nat) (v1 : Nat) (v2 : Int32) (v3 : Int32) (v4 : Int32) (h : ax_H) : Mv_gather v0 v1 v2 v3 v4 h =
  (Mv_gather_3 v0 v1 v2 v3 v4 0 h ) :=
  (ax_entV (N := 158) (C := r_158) (by decide) rfl (Nat.le_of_ble_eq_true rfl)).trans rfl
set_option maxRecDepth 100000 in
set_option maxHeartbeats 4000000 in
theorem Mv_gather_3_eq  (v0 : Nat) (v1 : Nat) (v2 : Int32) (v3 : Int32) (v4 : Int32) (v5 : Int32) (h : ax_H) : Mv_gather_3  v0 v1 v2 v3 v4 v5 h =
  (if (gS h v1).1 = 4 then if decide ((gI h v1 0) ≤ v5) then
    (some h )
  else
    (if (gS h v1).1 = 4 then if ax_in h (gR h v1 3) 16 v5 then if decide (¬ (gI h (gR h v1 3) (Int32.toNatClampNeg v5)) = v2) then
      (Mv_gather_3 v0 v1 v2 v3 v4 (v5 + 1) h )
    else
      (if (gS h v1).1 = 4 then (Im_isKnown v1 v5 v4 h).bind (fun r1 => if decide (r1.1 = 0) then
        (Mv_gather_3 v0 v1 v2 v3 v4 (v5 + 1) r1.2 )
      else
        (if (gS r1.2 v1).1 = 4 then if ax_in r1.2 (gR r1.2 v1 1) 16 v5 then if (gS r1.2 v1).1 = 4 then if ax_in r1.2 (gR r1.2 v1 2) 16 v5 then if (gS r1.2 v1).1 = 4 then (Im_find v1 (gI r1.2 (gR r1.2 v1 1) (Int32.toNatClampNeg v5)) (gI r1.2 (gR r1.2 v1 2) (Int32.toNatClampNeg v5)) v3 v4 r1.2).bind (fun r2 => if decide (r2.1 = (-1)) then
          (Mv_gather_3 v0 v1 v2 v3 v4 (v5 + 1) r2.2 )
        else
          (if (gS r2.2 v0).1 = 10 then (Mv_add v0 v1 v5 r2.1 r2.2).bind (fun h3 => Mv_gather_3 v0 v1 v2 v3 v4 (v5 + 1) h3 ) else none) ) else none else none else none else none else none) ) else none) else none else none) else none) :=
  (ax_S_eq _ _ _ _).trans rfl
/-- 159 BlackSun$Moves.told(I)I -/
noncomputable def Mv_told (v0 : Nat) (v1 : Int32) (h : ax_H) : Option (Int32 × ax_H) := (ax_EE 159).2.1 [.ref v0, .int v1] h
set_option maxRecDepth 100000 in
set_option maxHeartbeats 4000000 in
theorem Mv_told_eq (v0 : Nat) (v1 : Int32) (h : ax_H) : Mv_told v0 v1 h =
  (if v1 = 0 then
    (if (gS h v0).1 = 10 then some ((gI h v0 0), h) else none)
  else if v1 = 1 then
    (if (gS h v0).1 = 10 then some ((gI h v0 1), h) else none)
  else if v1 = 2 then
    (if (gS h v0).1 = 10 then some ((gI h v0 2), h) else none)
  else if v1 = 3 then
    (if (gS h v0).1 = 10 then some ((gI h v0 3), h) else none)
  else if v1 = 4 then
    (if (gS h v0).1 = 10 then some ((gI h v0 4), h) else none)
  else 
    (if (gS h v0).1 = 10 then some ((gI h v0 5), h) else none) ) :=
  (ax_entI (N := 159) (C := r_159) (by decide) rfl (Nat.le_of_ble_eq_true rfl)).trans rfl
/-- 160 BlackSun.again(IIII)I -/
noncomputable def B_again (v0 : Nat) (v1 : Int32) (v2 : Int32) (v3 : Int32) (v4 : Int32) (h : ax_H) : Option (Int32 × ax_H) := (ax_EE 160).2.1 [.ref v0, .int v1, .int v2, .int v3, .int v4] h
set_option maxRecDepth 100000 in
set_option maxHeartbeats 4000000 in
theorem B_again_eq (v0 : Nat) (v1 : Int32) (v2 : Int32) (v3 : Int32) (v4 : Int32) (h : ax_H) : B_again v0 v1 v2 v3 v4 h =
  ((B_isHand v1 h).bind (fun r1 => if decide (r1.1 = 0) then
    (some ((-1000000), r1.2) )
  else
    ((B_isHand v2 r1.2).bind (fun r2 => if decide (r2.1 = 0) then
      (some ((-1000000), r2.2) )
    else
      (if decide (v1 = v2) then
        (some ((-1000000), r2.2) )
      else
        ((B_isWeek v3 r2.2).bind (fun r3 => if decide (r3.1 = 0) then
          (some ((-1000000), r3.2) )
        else
          ((B_isWithin v4 0 5 r3.2).bind (fun r4 => if decide (¬ r4.1 = 0) then
            (let h5 := nW r4.2 10 0 6; if (gS h5 (gN r4.2)).1 = 10 then (Mv_init (gN r4.2) h5).bind (fun h6 => if (gS h6 v0).1 = 0 then if (gS h6 (gR h6 v0 0)).1 = 1 then if (gS h6 (gN r4.2)).1 = 10 then (Mv_gather (gN r4.2) (gR h6 (gR h6 v0 0) 3) v1 v2 v3 h6).bind (fun h7 => if (gS h7 (gN r4.2)).1 = 10 then (Mv_told (gN r4.2) v4 h7).bind (fun r8 => some (r8.1, r8.2) ) else none ) else none else none else none ) else none)
          else
            (some ((-1000000), r4.2) ) )) )) ) )) )) :=
  (ax_entI (N := 160) (C := r_160) (by decide) rfl (Nat.le_of_ble_eq_true rfl)).trans rfl
/-- 161 BlackSun$Stars.copyFrom(LBlackSun$Stars;)V -/
noncomputable def St_copyFrom (v0 : Nat) (v1 : Nat) (h : ax_H) : Option (ax_H) := (ax_EE 161).1 [.ref v0, .ref v1] h
set_option maxRecDepth 100000 in
set_option maxHeartbeats 4000000 in
theorem St_copyFrom_eq (v0 : Nat) (v1 : Nat) (h : ax_H) : St_copyFrom v0 v1 h =
  (if (gS h v1).1 = 2 then if (gS h v0).1 = 2 then let h1 := pI h v0 0 (gI h v1 0); if (gS h1 v1).1 = 2 then if (gS h1 v0).1 = 2 then if ax_cp h1 (gR h1 v1 1) 16 0 30 ∧ ax_cp h1 (gR h1 v0 1) 16 0 30 ∧ ¬ (30 : Int32) < 0 ∧ (([] : List Value).map (fun v => v.category)).sum ≤ 8 then let h2 := rI h1 (gR h1 v0 1) (va_cpy (gI h1 (gR h1 v1 1)) (gI h1 (gR h1 v0 1)) (Int32.toNatClampNeg 0) (Int32.toNatClampNeg 0) (Int32.toNatClampNeg 30)); if (gS h2 v1).1 = 2 then if (gS h2 v0).1 = 2 then if ax_cp h2 (gR h2 v1 2) 16 0 30 ∧ ax_cp h2 (gR h2 v0 2) 16 0 30 ∧ ¬ (30 : Int32) < 0 ∧ (([] : List Value).map (fun v => v.category)).sum ≤ 8 then let h3 := rI h2 (gR h2 v0 2) (va_cpy (gI h2 (gR h2 v1 2)) (gI h2 (gR h2 v0 2)) (Int32.toNatClampNeg 0) (Int32.toNatClampNeg 0) (Int32.toNatClampNeg 30)); if (gS h3 v1).1 = 2 then if (gS h3 v0).1 = 2 then if ax_cp h3 (gR h3 v1 3) 16 0 30 ∧ ax_cp h3 (gR h3 v0 3) 16 0 30 ∧ ¬ (30 : Int32) < 0 ∧ (([] : List Value).map (fun v => v.category)).sum ≤ 8 then let h4 := rI h3 (gR h3 v0 3) (va_cpy (gI h3 (gR h3 v1 3)) (gI h3 (gR h3 v0 3)) (Int32.toNatClampNeg 0) (Int32.toNatClampNeg 0) (Int32.toNatClampNeg 30)); some h4 else none else none else none else none else none else none else none else none else none else none else none) :=
  (ax_entV (N := 161) (C := r_161) (by decide) rfl (Nat.le_of_ble_eq_true rfl)).trans rfl
/-- 162 BlackSun$Plates.copyFrom(LBlackSun$Plates;)V -/
noncomputable def Pl_copyFrom (v0 : Nat) (v1 : Nat) (h : ax_H) : Option (ax_H) := (ax_EE 162).1 [.ref v0, .ref v1] h
set_option maxRecDepth 100000 in
set_option maxHeartbeats 4000000 in
theorem Pl_copyFrom_eq (v0 : Nat) (v1 : Nat) (h : ax_H) : Pl_copyFrom v0 v1 h =
  (if (gS h v1).1 = 3 then if (gS h v0).1 = 3 then let h1 := pI h v0 0 (gI h v1 0); if (gS h1 v1).1 = 3 then if (gS h1 v0).1 = 3 then if ax_cp h1 (gR h1 v1 1) 16 0 16 ∧ ax_cp h1 (gR h1 v0 1) 16 0 16 ∧ ¬ (16 : Int32) < 0 ∧ (([] : List Value).map (fun v => v.category)).sum ≤ 8 then let h2 := rI h1 (gR h1 v0 1) (va_cpy (gI h1 (gR h1 v1 1)) (gI h1 (gR h1 v0 1)) (Int32.toNatClampNeg 0) (Int32.toNatClampNeg 0) (Int32.toNatClampNeg 16)); if (gS h2 v1).1 = 3 then if (gS h2 v0).1 = 3 then if ax_cp h2 (gR h2 v1 2) 16 0 16 ∧ ax_cp h2 (gR h2 v0 2) 16 0 16 ∧ ¬ (16 : Int32) < 0 ∧ (([] : List Value).map (fun v => v.category)).sum ≤ 8 then let h3 := rI h2 (gR h2 v0 2) (va_cpy (gI h2 (gR h2 v1 2)) (gI h2 (gR h2 v0 2)) (Int32.toNatClampNeg 0) (Int32.toNatClampNeg 0) (Int32.toNatClampNeg 16)); if (gS h3 v1).1 = 3 then if (gS h3 v0).1 = 3 then if ax_cp h3 (gR h3 v1 3) 16 0 16 ∧ ax_cp h3 (gR h3 v0 3) 16 0 16 ∧ ¬ (16 : Int32) < 0 ∧ (([] : List Value).map (fun v => v.category)).sum ≤ 8 then let h4 := rI h3 (gR h3 v0 3) (va_cpy (gI h3 (gR h3 v1 3)) (gI h3 (gR h3 v0 3)) (Int32.toNatClampNeg 0) (Int32.toNatClampNeg 0) (Int32.toNatClampNeg 16)); some h4 else none else none else none else none else none else none else none else none else none else none else none) :=
  (ax_entV (N := 162) (C := r_162) (by decide) rfl (Nat.le_of_ble_eq_true rfl)).trans rfl
/-- 163 BlackSun$Images.copyFrom(LBlackSun$Images;)V -/
noncomputable def Im_copyFrom (v0 : Nat) (v1 : Nat) (h : ax_H) : Option (ax_H) := (ax_EE 163).1 [.ref v0, .ref v1] h
set_option maxRecDepth 100000 in
set_option maxHeartbeats 4000000 in
theorem Im_copyFrom_eq (v0 : Nat) (v1 : Nat) (h : ax_H) : Im_copyFrom v0 v1 h =
  (if (gS h v1).1 = 4 then if (gS h v0).1 = 4 then let h1 := pI h v0 0 (gI h v1 0); if (gS h1 v1).1 = 4 then if (gS h1 v0).1 = 4 then if ax_cp h1 (gR h1 v1 1) 16 0 100 ∧ ax_cp h1 (gR h1 v0 1) 16 0 100 ∧ ¬ (100 : Int32) < 0 ∧ (([] : List Value).map (fun v => v.category)).sum ≤ 8 then let h2 := rI h1 (gR h1 v0 1) (va_cpy (gI h1 (gR h1 v1 1)) (gI h1 (gR h1 v0 1)) (Int32.toNatClampNeg 0) (Int32.toNatClampNeg 0) (Int32.toNatClampNeg 100)); if (gS h2 v1).1 = 4 then if (gS h2 v0).1 = 4 then if ax_cp h2 (gR h2 v1 2) 16 0 100 ∧ ax_cp h2 (gR h2 v0 2) 16 0 100 ∧ ¬ (100 : Int32) < 0 ∧ (([] : List Value).map (fun v => v.category)).sum ≤ 8 then let h3 := rI h2 (gR h2 v0 2) (va_cpy (gI h2 (gR h2 v1 2)) (gI h2 (gR h2 v0 2)) (Int32.toNatClampNeg 0) (Int32.toNatClampNeg 0) (Int32.toNatClampNeg 100)); if (gS h3 v1).1 = 4 then if (gS h3 v0).1 = 4 then if ax_cp h3 (gR h3 v1 3) 16 0 100 ∧ ax_cp h3 (gR h3 v0 3) 16 0 100 ∧ ¬ (100 : Int32) < 0 ∧ (([] : List Value).map (fun v => v.category)).sum ≤ 8 then let h4 := rI h3 (gR h3 v0 3) (va_cpy (gI h3 (gR h3 v1 3)) (gI h3 (gR h3 v0 3)) (Int32.toNatClampNeg 0) (Int32.toNatClampNeg 0) (Int32.toNatClampNeg 100)); if (gS h4 v1).1 = 4 then if (gS h4 v0).1 = 4 then if ax_cp h4 (gR h4 v1 4) 16 0 100 ∧ ax_cp h4 (gR h4 v0 4) 16 0 100 ∧ ¬ (100 : Int32) < 0 ∧ (([] : List Value).map (fun v => v.category)).sum ≤ 8 then let h5 := rI h4 (gR h4 v0 4) (va_cpy (gI h4 (gR h4 v1 4)) (gI h4 (gR h4 v0 4)) (Int32.toNatClampNeg 0) (Int32.toNatClampNeg 0) (Int32.toNatClampNeg 100)); if (gS h5 v1).1 = 4 then if (gS h5 v0).1 = 4 then if ax_cp h5 (gR h5 v1 5) 16 0 100 ∧ ax_cp h5 (gR h5 v0 5) 16 0 100 ∧ ¬ (100 : Int32) < 0 ∧ (([] : List Value).map (fun v => v.category)).sum ≤ 8 then let h6 := rI h5 (gR h5 v0 5) (va_cpy (gI h5 (gR h5 v1 5)) (gI h5 (gR h5 v0 5)) (Int32.toNatClampNeg 0) (Int32.toNatClampNeg 0) (Int32.toNatClampNeg 100)); if (gS h6 v1).1 = 4 then if (gS h6 v0).1 = 4 then if ax_cp h6 (gR h6 v1 6) 16 0 100 ∧ ax_cp h6 (gR h6 v0 6) 16 0 100 ∧ ¬ (100 : Int32) < 0 ∧ (([] : List Value).map (fun v => v.category)).sum ≤ 8 then let h7 := rI h6 (gR h6 v0 6) (va_cpy (gI h6 (gR h6 v1 6)) (gI h6 (gR h6 v0 6)) (Int32.toNatClampNeg 0) (Int32.toNatClampNeg 0) (Int32.toNatClampNeg 100)); if (gS h7 v1).1 = 4 then if (gS h7 v0).1 = 4 then if ax_cp h7 (gR h7 v1 7) 16 0 100 ∧ ax_cp h7 (gR h7 v0 7) 16 0 100 ∧ ¬ (100 : Int32) < 0 ∧ (([] : List Value).map (fun v => v.category)).sum ≤ 8 then let h8 := rI h7 (gR h7 v0 7) (va_cpy (gI h7 (gR h7 v1 7)) (gI h7 (gR h7 v0 7)) (Int32.toNatClampNeg 0) (Int32.toNatClampNeg 0) (Int32.toNatClampNeg 100)); some h8 else none else none else none else none else none else none else none else none else none else none else none else none else none else none else none else none else none else none else none else none else none else none else none) :=
  (ax_entV (N := 163) (C := r_163) (by decide) rfl (Nat.le_of_ble_eq_true rfl)).trans rfl
/-- 164 BlackSun$Book.copyFrom(LBlackSun$Book;)V -/
noncomputable def Bk_copyFrom (v0 : Nat) (v1 : Nat) (h : ax_H) : Option (ax_H) := (ax_EE 164).1 [.ref v0, .ref v1] h
noncomputable def Bk_copyFrom_51  (v0 : Nat) (v1 : Nat) (v2 : Int32) (h : ax_H) : Option (ax_H) := ax_S ax_ρV (ax_env ax_EE 164) ax_nn r_164 r_164_51 [(0, .ref v0), (1, .ref v1), (2, .int v2)] [] h
set_option maxRecDepth 100000 in
set_option maxHeartbeats 4000000 in
theorem Bk_copyFrom_eq (v0 : Nat) (v1 : Nat) (h : ax_H) : Bk_copyFrom v0 v1 h =
  (if (gS h v1).1 = 1 then if (gS h v0).1 = 1 then let h1 := pI h v0 0 (gI h v1 0); if (gS h1 v0).1 = 1 then if (gS h1 v1).1 = 1 then if (gS h1 (gR h1 v0 1)).1 = 2 then (St_copyFrom (gR h1 v0 1) (gR h1 v1 1) h1).bind (fun h2 => if (gS h2 v0).1 = 1 then if (gS h2 v1).1 = 1 then if (gS h2 (gR h2 v0 2)).1 = 3 then (Pl_copyFrom (gR h2 v0 2) (gR h2 v1 2) h2).bind (fun h3 => if (gS h3 v0).1 = 1 then if (gS h3 v1).1 = 1 then if (gS h3 (gR h3 v0 3)).1 = 4 then (Im_copyFrom (gR h3 v0 3) (gR h3 v1 3) h3).bind (fun h4 => if (gS h4 v1).1 = 1 then if (gS h4 v0).1 = 1 then let h5 := pI h4 v0 4 (gI h4 v1 4); Bk_copyFrom_51 v0 v1 0 h5 else none else none ) else none else none else none ) else none else none else none ) else none else none else none else none else none) :=
  (ax_entV (N := 164) (C := r_164) (by decide) rfl (Nat.le_of_ble_eq_true rfl)).trans rfl
set_option maxRecDepth 100000 in
set_option maxHeartbeats 4000000 in
theorem Bk_copyFrom_51_eq  (v0 : Nat) (v1 : Nat) (v2 : Int32) (h : ax_H) : Bk_copyFrom_51  v0 v1 v2 h =
  (if decide ((10 : Int32) ≤ v2) then
    (if (gS h v1).1 = 1 then if (gS h v0).1 = 1 then let h1 := pI h v0 6 (gI h v1 6); if (gS h1 v1).1 = 1 then if (gS h1 v0).1 = 1 then if ax_cp h1 (gR h1 v1 7) 16 0 40 ∧ ax_cp h1 (gR h1 v0 7) 16 0 40 ∧ ¬ (40 : Int32) < 0 ∧ (([] : List Value).map (fun v => v.category)).sum ≤ 8 then let h2 := rI h1 (gR h1 v0 7) (va_cpy (gI h1 (gR h1 v1 7)) (gI h1 (gR h1 v0 7)) (Int32.toNatClampNeg 0) (Int32.toNatClampNeg 0) (Int32.toNatClampNeg 40)); if (gS h2 v1).1 = 1 then if (gS h2 v0).1 = 1 then if ax_cp h2 (gR h2 v1 8) 16 0 40 ∧ ax_cp h2 (gR h2 v0 8) 16 0 40 ∧ ¬ (40 : Int32) < 0 ∧ (([] : List Value).map (fun v => v.category)).sum ≤ 8 then let h3 := rI h2 (gR h2 v0 8) (va_cpy (gI h2 (gR h2 v1 8)) (gI h2 (gR h2 v0 8)) (Int32.toNatClampNeg 0) (Int32.toNatClampNeg 0) (Int32.toNatClampNeg 40)); if (gS h3 v1).1 = 1 then if (gS h3 v0).1 = 1 then if ax_cp h3 (gR h3 v1 9) 16 0 40 ∧ ax_cp h3 (gR h3 v0 9) 16 0 40 ∧ ¬ (40 : Int32) < 0 ∧ (([] : List Value).map (fun v => v.category)).sum ≤ 8 then let h4 := rI h3 (gR h3 v0 9) (va_cpy (gI h3 (gR h3 v1 9)) (gI h3 (gR h3 v0 9)) (Int32.toNatClampNeg 0) (Int32.toNatClampNeg 0) (Int32.toNatClampNeg 40)); if (gS h4 v1).1 = 1 then if (gS h4 v0).1 = 1 then let h5 := pI h4 v0 10 (gI h4 v1 10); if (gS h5 v1).1 = 1 then if (gS h5 v0).1 = 1 then if ax_cp h5 (gR h5 v1 11) 16 0 9 ∧ ax_cp h5 (gR h5 v0 11) 16 0 9 ∧ ¬ (9 : Int32) < 0 ∧ (([] : List Value).map (fun v => v.category)).sum ≤ 8 then let h6 := rI h5 (gR h5 v0 11) (va_cpy (gI h5 (gR h5 v1 11)) (gI h5 (gR h5 v0 11)) (Int32.toNatClampNeg 0) (Int32.toNatClampNeg 0) (Int32.toNatClampNeg 9)); if (gS h6 v1).1 = 1 then if (gS h6 v0).1 = 1 then if ax_cp h6 (gR h6 v1 12) 16 0 9 ∧ ax_cp h6 (gR h6 v0 12) 16 0 9 ∧ ¬ (9 : Int32) < 0 ∧ (([] : List Value).map (fun v => v.category)).sum ≤ 8 then let h7 := rI h6 (gR h6 v0 12) (va_cpy (gI h6 (gR h6 v1 12)) (gI h6 (gR h6 v0 12)) (Int32.toNatClampNeg 0) (Int32.toNatClampNeg 0) (Int32.toNatClampNeg 9)); if (gS h7 v1).1 = 1 then if (gS h7 v0).1 = 1 then if ax_cp h7 (gR h7 v1 13) 16 0 24 ∧ ax_cp h7 (gR h7 v0 13) 16 0 24 ∧ ¬ (24 : Int32) < 0 ∧ (([] : List Value).map (fun v => v.category)).sum ≤ 8 then let h8 := rI h7 (gR h7 v0 13) (va_cpy (gI h7 (gR h7 v1 13)) (gI h7 (gR h7 v0 13)) (Int32.toNatClampNeg 0) (Int32.toNatClampNeg 0) (Int32.toNatClampNeg 24)); if (gS h8 v1).1 = 1 then if (gS h8 v0).1 = 1 then if ax_cp h8 (gR h8 v1 14) 16 0 24 ∧ ax_cp h8 (gR h8 v0 14) 16 0 24 ∧ ¬ (24 : Int32) < 0 ∧ (([] : List Value).map (fun v => v.category)).sum ≤ 8 then let h9 := rI h8 (gR h8 v0 14) (va_cpy (gI h8 (gR h8 v1 14)) (gI h8 (gR h8 v0 14)) (Int32.toNatClampNeg 0) (Int32.toNatClampNeg 0) (Int32.toNatClampNeg 24)); if (gS h9 v1).1 = 1 then if (gS h9 v0).1 = 1 then if ax_cp h9 (gR h9 v1 15) 16 0 8 ∧ ax_cp h9 (gR h9 v0 15) 16 0 8 ∧ ¬ (8 : Int32) < 0 ∧ (([] : List Value).map (fun v => v.category)).sum ≤ 8 then let h10 := rI h9 (gR h9 v0 15) (va_cpy (gI h9 (gR h9 v1 15)) (gI h9 (gR h9 v0 15)) (Int32.toNatClampNeg 0) (Int32.toNatClampNeg 0) (Int32.toNatClampNeg 8)); some h10 else none else none else none else none else none else none else none else none else none else none else none else none else none else none else none else none else none else none else none else none else none else none else none else none else none else none else none else none)
  else
    (if (gS h v0).1 = 1 then if (gS h v1).1 = 1 then if ax_in h (gR h v1 5) 20 v2 then if ax_in h (gR h v0 5) 20 v2 then if (gR h (gR h v1 5) (Int32.toNatClampNeg v2)) = 0 ∨ (gS h (gR h (gR h v1 5) (Int32.toNatClampNeg v2))).1 = 5 then let h11 := pR h (gR h v0 5) (Int32.toNatClampNeg v2) (gR h (gR h v1 5) (Int32.toNatClampNeg v2)); Bk_copyFrom_51 v0 v1 (v2 + 1) h11 else none else none else none else none else none) ) :=
  (ax_S_eq _ _ _ _).trans rfl
/-- 165 BlackSun.mark(I)I -/
noncomputable def B_mark (v0 : Nat) (v1 : Int32) (h : ax_H) : Option (Int32 × ax_H) := (ax_EE 165).2.1 [.ref v0, .int v1] h
set_option maxRecDepth 100000 in
set_option maxHeartbeats 4000000 in
theorem B_mark_eq (v0 : Nat) (v1 : Int32) (h : ax_H) : B_mark v0 v1 h =
  ((B_isWithin v1 0 3 h).bind (fun r1 => if decide (¬ r1.1 = 0) then
    (if (gS r1.2 v0).1 = 0 then if ax_in r1.2 (gR r1.2 v0 1) 21 v1 then let x2 := (gR r1.2 (gR r1.2 v0 1) (Int32.toNatClampNeg v1)); if x2 = 0 then
      (let h4 := nW r1.2 1 0 17; if (gS h4 (gN r1.2)).1 = 1 then (Bk_init (gN r1.2) h4).bind (fun h5 => if (gS h5 v0).1 = 0 then if ax_in h5 (gR h5 v0 1) 21 v1 then if (gN r1.2) = 0 ∨ (gS h5 (gN r1.2)).1 = 1 then let h6 := pR h5 (gR h5 v0 1) (Int32.toNatClampNeg v1) (gN r1.2); if (gS h6 v0).1 = 0 then if (gS h6 (gN r1.2)).1 = 1 then (Bk_copyFrom (gN r1.2) (gR h6 v0 0) h6).bind (fun h7 => if (gS h7 v0).1 = 0 then if (gS h7 (gR h7 v0 0)).1 = 1 then some ((gI h7 (gR h7 v0 0) 0), h7) else none else none ) else none else none else none else none else none ) else none)
    else
      (if (gS r1.2 v0).1 = 0 then if (gS r1.2 x2).1 = 1 then (Bk_copyFrom x2 (gR r1.2 v0 0) r1.2).bind (fun h3 => if (gS h3 v0).1 = 0 then if (gS h3 (gR h3 v0 0)).1 = 1 then some ((gI h3 (gR h3 v0 0) 0), h3) else none else none ) else none else none) else none else none)
  else
    (some ((-1), r1.2) ) )) :=
  (ax_entI (N := 165) (C := r_165) (by decide) rfl (Nat.le_of_ble_eq_true rfl)).trans rfl
/-- 166 BlackSun.back(I)I -/
noncomputable def B_back (v0 : Nat) (v1 : Int32) (h : ax_H) : Option (Int32 × ax_H) := (ax_EE 166).2.1 [.ref v0, .int v1] h
set_option maxRecDepth 100000 in
set_option maxHeartbeats 4000000 in
theorem B_back_eq (v0 : Nat) (v1 : Int32) (h : ax_H) : B_back v0 v1 h =
  ((B_isWithin v1 0 3 h).bind (fun r1 => if decide (¬ r1.1 = 0) then
    (if (gS r1.2 v0).1 = 0 then if ax_in r1.2 (gR r1.2 v0 1) 21 v1 then let x2 := (gR r1.2 (gR r1.2 v0 1) (Int32.toNatClampNeg v1)); if x2 = 0 then
      (some ((-1), r1.2) )
    else
      (if (gS r1.2 v0).1 = 0 then if (gS r1.2 (gR r1.2 v0 0)).1 = 1 then (Bk_copyFrom (gR r1.2 v0 0) x2 r1.2).bind (fun h3 => if (gS h3 v0).1 = 0 then if (gS h3 (gR h3 v0 0)).1 = 1 then some ((gI h3 (gR h3 v0 0) 0), h3) else none else none ) else none else none) else none else none)
  else
    (some ((-1), r1.2) ) )) :=
  (ax_entI (N := 166) (C := r_166) (by decide) rfl (Nat.le_of_ble_eq_true rfl)).trans rfl
/-- 167 BlackSun.count(I)I -/
noncomputable def B_count (v0 : Nat) (v1 : Int32) (h : ax_H) : Option (Int32 × ax_H) := (ax_EE 167).2.1 [.ref v0, .int v1] h
set_option maxRecDepth 100000 in
set_option maxHeartbeats 4000000 in
theorem B_count_eq (v0 : Nat) (v1 : Int32) (h : ax_H) : B_count v0 v1 h =
  (if v1 = 0 then
    (if (gS h v0).1 = 0 then if (gS h (gR h v0 0)).1 = 1 then some ((gI h (gR h v0 0) 0), h) else none else none)
  else if v1 = 1 then
    (if (gS h v0).1 = 0 then if (gS h (gR h v0 0)).1 = 1 then if (gS h (gR h (gR h v0 0) 1)).1 = 2 then some ((gI h (gR h (gR h v0 0) 1) 0), h) else none else none else none)
  else if v1 = 2 then
    (if (gS h v0).1 = 0 then if (gS h (gR h v0 0)).1 = 1 then if (gS h (gR h (gR h v0 0) 2)).1 = 3 then some ((gI h (gR h (gR h v0 0) 2) 0), h) else none else none else none)
  else if v1 = 3 then
    (if (gS h v0).1 = 0 then if (gS h (gR h v0 0)).1 = 1 then if (gS h (gR h (gR h v0 0) 3)).1 = 4 then some ((gI h (gR h (gR h v0 0) 3) 0), h) else none else none else none)
  else if v1 = 4 then
    (if (gS h v0).1 = 0 then if (gS h (gR h v0 0)).1 = 1 then some ((gI h (gR h v0 0) 4), h) else none else none)
  else if v1 = 5 then
    (if (gS h v0).1 = 0 then if (gS h (gR h v0 0)).1 = 1 then some ((gI h (gR h v0 0) 6), h) else none else none)
  else if v1 = 6 then
    (if (gS h v0).1 = 0 then if (gS h (gR h v0 0)).1 = 1 then some ((gI h (gR h v0 0) 10), h) else none else none)
  else if v1 = 7 then
    (if (gS h v0).1 = 0 then if (gS h (gR h v0 2)).1 = 6 then some ((gI h (gR h v0 2) 0), h) else none else none)
  else 
    (some ((-1), h) ) ) :=
  (ax_entI (N := 167) (C := r_167) (by decide) rfl (Nat.le_of_ble_eq_true rfl)).trans rfl
/-- 168 BlackSunModel.<init>()V -/
noncomputable def M_init (v0 : Nat) (h : ax_H) : Option (ax_H) := (ax_EE 168).1 [.ref v0] h
noncomputable def M_init_384  (v0 : Nat) (v1 : Int32) (h : ax_H) : Option (ax_H) := ax_S ax_ρV (ax_env ax_EE 168) ax_nn r_168 r_168_384 [(0, .ref v0), (1, .int v1)] [] h
set_option maxRecDepth 100000 in
set_option maxHeartbeats 4000000 in
theorem M_init_eq (v0 : Nat) (h : ax_H) : M_init v0 h =
  (if (gS h v0).1 < 12 ∧ (([] : List Value).map (fun v => v.category)).sum ≤ 8 then let h1 := nW h 16 30 30; if (gS h1 v0).1 = 11 then let h2 := pR h1 v0 5 (gN h); let h3 := nW h2 16 30 30; if (gS h3 v0).1 = 11 then let h4 := pR h3 v0 6 (gN h2); let h5 := nW h4 16 30 30; if (gS h5 v0).1 = 11 then let h6 := pR h5 v0 7 (gN h4); let h7 := nW h6 16 16 16; if (gS h7 v0).1 = 11 then let h8 := pR h7 v0 8 (gN h6); let h9 := nW h8 16 16 16; if (gS h9 v0).1 = 11 then let h10 := pR h9 v0 9 (gN h8); let h11 := nW h10 16 16 16; if (gS h11 v0).1 = 11 then let h12 := pR h11 v0 10 (gN h10); let h13 := nW h12 16 100 100; if (gS h13 v0).1 = 11 then let h14 := pR h13 v0 11 (gN h12); let h15 := nW h14 16 100 100; if (gS h15 v0).1 = 11 then let h16 := pR h15 v0 12 (gN h14); let h17 := nW h16 16 100 100; if (gS h17 v0).1 = 11 then let h18 := pR h17 v0 13 (gN h16); let h19 := nW h18 16 100 100; if (gS h19 v0).1 = 11 then let h20 := pR h19 v0 14 (gN h18); let h21 := nW h20 16 100 100; if (gS h21 v0).1 = 11 then let h22 := pR h21 v0 15 (gN h20); let h23 := nW h22 16 100 100; if (gS h23 v0).1 = 11 then let h24 := pR h23 v0 16 (gN h22); let h25 := nW h24 18 400 400; if (gS h25 v0).1 = 11 then let h26 := pR h25 v0 26 (gN h24); let h27 := nW h26 16 3000 3000; if (gS h27 v0).1 = 11 then let h28 := pR h27 v0 27 (gN h26); let h29 := nW h28 16 3000 3000; if (gS h29 v0).1 = 11 then let h30 := pR h29 v0 28 (gN h28); let h31 := nW h30 16 120 120; if (gS h31 v0).1 = 11 then let h32 := pR h31 v0 29 (gN h30); let h33 := nW h32 16 120 120; if (gS h33 v0).1 = 11 then let h34 := pR h33 v0 30 (gN h32); let h35 := nW h34 16 10 10; if (gS h35 v0).1 = 11 then let h36 := pR h35 v0 31 (gN h34); let h37 := nW h36 16 10 10; if (gS h37 v0).1 = 11 then let h38 := pR h37 v0 32 (gN h36); let h39 := nW h38 16 60 60; if (gS h39 v0).1 = 11 then let h40 := pR h39 v0 33 (gN h38); let h41 := nW h40 16 60 60; if (gS h41 v0).1 = 11 then let h42 := pR h41 v0 34 (gN h40); let h43 := nW h42 16 402 402; if (gS h43 v0).1 = 11 then let h44 := pR h43 v0 35 (gN h42); let h45 := nW h44 17 13 13; if (gS h45 v0).1 = 11 then let h46 := pR h45 v0 36 (gN h44); let h47 := nW h46 17 300 300; if (gS h47 v0).1 = 11 then let h48 := pR h47 v0 37 (gN h46); let h49 := nW h48 19 100 100; if (gS h49 v0).1 = 11 then let h50 := pR h49 v0 38 (gN h48); let h51 := nW h50 16 3 3; if (gS h51 v0).1 = 11 then let h52 := pR h51 v0 39 (gN h50); let h53 := nW h52 17 6 6; if (gS h53 v0).1 = 11 then let h54 := pR h53 v0 40 (gN h52); let h55 := nW h54 17 9 9; if (gS h55 v0).1 = 11 then let h56 := pR h55 v0 41 (gN h54); let h57 := nW h56 17 3 3; if (gS h57 v0).1 = 11 then let h58 := pR h57 v0 42 (gN h56); let h59 := nW h58 17 3 3; if (gS h59 v0).1 = 11 then let h60 := pR h59 v0 43 (gN h58); let h61 := nW h60 17 6 6; if (gS h61 v0).1 = 11 then let h62 := pR h61 v0 44 (gN h60); let h63 := nW h62 19 6 6; if (gS h63 v0).1 = 11 then let h64 := pR h63 v0 45 (gN h62); let h65 := nW h64 16 100 100; if (gS h65 v0).1 = 11 then let h66 := pR h65 v0 46 (gN h64); let h67 := nW h66 16 100 100; if (gS h67 v0).1 = 11 then let h68 := pR h67 v0 47 (gN h66); let h69 := nW h68 19 100 100; if (gS h69 v0).1 = 11 then let h70 := pR h69 v0 48 (gN h68); let h71 := nW h70 19 30 30; if (gS h71 v0).1 = 11 then let h72 := pR h71 v0 53 (gN h70); let h73 := nW h72 16 8 8; if (gS h73 v0).1 = 11 then let h74 := pR h73 v0 56 (gN h72); let h75 := nW h74 16 40 40; if (gS h75 v0).1 = 11 then let h76 := pR h75 v0 60 (gN h74); let h77 := nW h76 16 40 40; if (gS h77 v0).1 = 11 then let h78 := pR h77 v0 61 (gN h76); let h79 := nW h78 16 40 40; if (gS h79 v0).1 = 11 then let h80 := pR h79 v0 62 (gN h78); let h81 := nW h80 16 9 9; if (gS h81 v0).1 = 11 then let h82 := pR h81 v0 64 (gN h80); let h83 := nW h82 16 9 9; if (gS h83 v0).1 = 11 then let h84 := pR h83 v0 65 (gN h82); let h85 := nW h84 16 24 24; if (gS h85 v0).1 = 11 then let h86 := pR h85 v0 67 (gN h84); let h87 := nW h86 16 24 24; if (gS h87 v0).1 = 11 then let h88 := pR h87 v0 68 (gN h86); let h89 := nW h88 16 32000 32000; if (gS h89 v0).1 = 11 then let h90 := pR h89 v0 70 (gN h88); let h91 := nW h90 16 8 8; if (gS h91 v0).1 = 11 then let h92 := pR h91 v0 71 (gN h90); let h93 := nW h92 19 4 4; if (gS h93 v0).1 = 11 then let h94 := pR h93 v0 72 (gN h92); M_init_384 v0 0 h94 else none else none else none else none else none else none else none else none else none else none else none else none else none else none else none else none else none else none else none else none else none else none else none else none else none else none else none else none else none else none else none else none else none else none else none else none else none else none else none else none else none else none else none else none else none else none else none else none) :=
  (ax_entV (N := 168) (C := r_168) (by decide) rfl (Nat.le_of_ble_eq_true rfl)).trans rfl
set_option maxRecDepth 100000 in
set_option maxHeartbeats 4000000 in
theorem M_init_384_eq  (v0 : Nat) (v1 : Int32) (h : ax_H) : M_init_384  v0 v1 h =
  (if decide ((8 : Int32) ≤ v1) then
    (some h )
  else
    (if (gS h v0).1 = 11 then if ax_in h (gR h v0 56) 16 v1 then let h1 := pI h (gR h v0 56) (Int32.toNatClampNeg v1) (-1); M_init_384 v0 (v1 + 1) h1 else none else none) ) :=
  (ax_S_eq _ _ _ _).trans rfl
/-- 169 BlackSunModel.in(JJJ)Z -/
noncomputable def M_in (v0 : Int64) (v2 : Int64) (v4 : Int64) (h : ax_H) : Option (Int32 × ax_H) := (ax_EE 169).2.1 [.long v0, .long v2, .long v4] h
set_option maxRecDepth 100000 in
set_option maxHeartbeats 4000000 in
theorem M_in_eq (v0 : Int64) (v2 : Int64) (v4 : Int64) (h : ax_H) : M_in v0 v2 v4 h =
  (if decide ((lg_cmp v0 v2) < 0) then
    (some (0, h) )
  else
    (if decide ((0 : Int32) < (lg_cmp v0 v4)) then
      (some (0, h) )
    else
      (some (1, h) ) ) ) :=
  (ax_entI (N := 169) (C := r_169) (by decide) rfl (Nat.le_of_ble_eq_true rfl)).trans rfl
/-- 170 BlackSunModel.isWeek(I)Z -/
noncomputable def M_isWeek (v0 : Int32) (h : ax_H) : Option (Int32 × ax_H) := (ax_EE 170).2.1 [.int v0] h
set_option maxRecDepth 100000 in
set_option maxHeartbeats 4000000 in
theorem M_isWeek_eq (v0 : Int32) (h : ax_H) : M_isWeek v0 h =
  ((M_in (Int32.toInt64 v0) 0 9999 h).bind (fun r1 => if r1.1 = 0 ∨ r1.1 = 1 then some (r1.1, r1.2) else none )) :=
  (ax_entI (N := 170) (C := r_170) (by decide) rfl (Nat.le_of_ble_eq_true rfl)).trans rfl
/-- 171 BlackSunModel.clock(I)Z -/
noncomputable def M_clock (v0 : Nat) (v1 : Int32) (h : ax_H) : Option (Int32 × ax_H) := (ax_EE 171).2.1 [.ref v0, .int v1] h
set_option maxRecDepth 100000 in
set_option maxHeartbeats 4000000 in
theorem M_clock_eq (v0 : Nat) (v1 : Int32) (h : ax_H) : M_clock v0 v1 h =
  (if (gS h v0).1 = 11 then (M_in (Int32.toInt64 v1) (Int32.toInt64 (gI h v0 1)) 9999 h).bind (fun r1 => if decide (¬ r1.1 = 0) then
    (if (gS r1.2 v0).1 = 11 then let h2 := pI r1.2 v0 1 v1; some (1, h2) else none)
  else
    (some (0, r1.2) ) ) else none) :=
  (ax_entI (N := 171) (C := r_171) (by decide) rfl (Nat.le_of_ble_eq_true rfl)).trans rfl
/-- 172 BlackSunModel.isStar(I)Z -/
noncomputable def M_isStar (v0 : Nat) (v1 : Int32) (h : ax_H) : Option (Int32 × ax_H) := (ax_EE 172).2.1 [.ref v0, .int v1] h
set_option maxRecDepth 100000 in
set_option maxHeartbeats 4000000 in
theorem M_isStar_eq (v0 : Nat) (v1 : Int32) (h : ax_H) : M_isStar v0 v1 h =
  (if (gS h v0).1 = 11 then (M_in (Int32.toInt64 v1) 0 (Int32.toInt64 ((gI h v0 2) - 1)) h).bind (fun r1 => if r1.1 = 0 ∨ r1.1 = 1 then some (r1.1, r1.2) else none ) else none) :=
  (ax_entI (N := 172) (C := r_172) (by decide) rfl (Nat.le_of_ble_eq_true rfl)).trans rfl
/-- 173 BlackSunModel.isPlate(I)Z -/
noncomputable def M_isPlate (v0 : Nat) (v1 : Int32) (h : ax_H) : Option (Int32 × ax_H) := (ax_EE 173).2.1 [.ref v0, .int v1] h
set_option maxRecDepth 100000 in
set_option maxHeartbeats 4000000 in
theorem M_isPlate_eq (v0 : Nat) (v1 : Int32) (h : ax_H) : M_isPlate v0 v1 h =
  (if (gS h v0).1 = 11 then (M_in (Int32.toInt64 v1) 0 (Int32.toInt64 ((gI h v0 3) - 1)) h).bind (fun r1 => if r1.1 = 0 ∨ r1.1 = 1 then some (r1.1, r1.2) else none ) else none) :=
  (ax_entI (N := 173) (C := r_173) (by decide) rfl (Nat.le_of_ble_eq_true rfl)).trans rfl
/-- 174 BlackSunModel.isHand(I)Z -/
noncomputable def M_isHand (v0 : Int32) (h : ax_H) : Option (Int32 × ax_H) := (ax_EE 174).2.1 [.int v0] h
set_option maxRecDepth 100000 in
set_option maxHeartbeats 4000000 in
theorem M_isHand_eq (v0 : Int32) (h : ax_H) : M_isHand v0 h =
  ((M_in (Int32.toInt64 v0) 0 7 h).bind (fun r1 => if r1.1 = 0 ∨ r1.1 = 1 then some (r1.1, r1.2) else none )) :=
  (ax_entI (N := 174) (C := r_174) (by decide) rfl (Nat.le_of_ble_eq_true rfl)).trans rfl
/-- 175 BlackSunModel.far(I)I -/
noncomputable def M_far (v0 : Nat) (v1 : Int32) (h : ax_H) : Option (Int32 × ax_H) := (ax_EE 175).2.1 [.ref v0, .int v1] h
set_option maxRecDepth 100000 in
set_option maxHeartbeats 4000000 in
theorem M_far_eq (v0 : Nat) (v1 : Int32) (h : ax_H) : M_far v0 v1 h =
  (if (gS h v0).1 = 11 then if ax_in h (gR h v0 5) 16 v1 then if (gS h v0).1 = 11 then if ax_in h (gR h v0 5) 16 v1 then if (gS h v0).1 = 11 then if ax_in h (gR h v0 6) 16 v1 then if (gS h v0).1 = 11 then if ax_in h (gR h v0 6) 16 v1 then some ((((gI h (gR h v0 5) (Int32.toNatClampNeg v1)) * (gI h (gR h v0 5) (Int32.toNatClampNeg v1))) + ((gI h (gR h v0 6) (Int32.toNatClampNeg v1)) * (gI h (gR h v0 6) (Int32.toNatClampNeg v1)))), h) else none else none else none else none else none else none else none else none) :=
  (ax_entI (N := 175) (C := r_175) (by decide) rfl (Nat.le_of_ble_eq_true rfl)).trans rfl
/-- 176 BlackSunModel.star(III)I -/
noncomputable def M_star (v0 : Nat) (v1 : Int32) (v2 : Int32) (v3 : Int32) (h : ax_H) : Option (Int32 × ax_H) := (ax_EE 176).2.1 [.ref v0, .int v1, .int v2, .int v3] h
noncomputable def M_star_45  (v0 : Nat) (v1 : Int32) (v2 : Int32) (v3 : Int32) (h : ax_H) : Option (Int32 × ax_H) := ax_S ax_ρI (ax_env ax_EE 176) ax_nn r_176 r_176_45 [(0, .ref v0), (1, .int v1), (2, .int v2), (3, .int v3)] [] h
set_option maxRecDepth 100000 in
set_option maxHeartbeats 4000000 in
theorem M_star_eq (v0 : Nat) (v1 : Int32) (v2 : Int32) (v3 : Int32) (h : ax_H) : M_star v0 v1 v2 v3 h =
  (if (gS h v0).1 = 11 then if decide ((gI h v0 2) = 30) then
    (some ((-1), h) )
  else
    ((M_in (Int32.toInt64 v1) (-9) 9 h).bind (fun r1 => if decide (r1.1 = 0) then
      (some ((-1), r1.2) )
    else
      ((M_in (Int32.toInt64 v2) (-9) 9 r1.2).bind (fun r2 => if decide (r2.1 = 0) then
        (some ((-1), r2.2) )
      else
        (if decide (¬ v1 = 0) then
          (M_star_45 v0 v1 v2 v3 r2.2 )
        else
          (if decide (v2 = 0) then
            (some ((-1), r2.2) )
          else
            (M_star_45 v0 v1 v2 v3 r2.2 ) ) ) )) )) else none) :=
  (ax_entI (N := 176) (C := r_176) (by decide) rfl (Nat.le_of_ble_eq_true rfl)).trans rfl
set_option maxRecDepth 100000 in
set_option maxHeartbeats 4000000 in
theorem M_star_45_eq  (v0 : Nat) (v1 : Int32) (v2 : Int32) (v3 : Int32) (h : ax_H) : M_star_45  v0 v1 v2 v3 h =
  ((M_in (Int32.toInt64 v3) 0 99 h).bind (fun r1 => if decide (¬ r1.1 = 0) then
    (if (gS r1.2 v0).1 = 11 then if (gS r1.2 v0).1 = 11 then if ax_in r1.2 (gR r1.2 v0 5) 16 (gI r1.2 v0 2) then let h2 := pI r1.2 (gR r1.2 v0 5) (Int32.toNatClampNeg (gI r1.2 v0 2)) v1; if (gS h2 v0).1 = 11 then if (gS h2 v0).1 = 11 then if ax_in h2 (gR h2 v0 6) 16 (gI h2 v0 2) then let h3 := pI h2 (gR h2 v0 6) (Int32.toNatClampNeg (gI h2 v0 2)) v2; if (gS h3 v0).1 = 11 then if (gS h3 v0).1 = 11 then if ax_in h3 (gR h3 v0 7) 16 (gI h3 v0 2) then let h4 := pI h3 (gR h3 v0 7) (Int32.toNatClampNeg (gI h3 v0 2)) v3; if (gS h4 v0).1 = 11 then if (gS h4 v0).1 = 11 then let h5 := pI h4 v0 2 ((gI h4 v0 2) + 1); if (gS h5 v0).1 = 11 then some (((gI h5 v0 2) - 1), h5) else none else none else none else none else none else none else none else none else none else none else none else none)
  else
    (some ((-1), r1.2) ) )) :=
  (ax_S_eq _ _ _ _).trans rfl
/-- 177 BlackSunModel.stars(II)I -/
noncomputable def M_stars (v0 : Nat) (v1 : Int32) (v2 : Int32) (h : ax_H) : Option (Int32 × ax_H) := (ax_EE 177).2.1 [.ref v0, .int v1, .int v2] h
set_option maxRecDepth 100000 in
set_option maxHeartbeats 4000000 in
theorem M_stars_eq (v0 : Nat) (v1 : Int32) (v2 : Int32) (h : ax_H) : M_stars v0 v1 v2 h =
  (if (gS h v0).1 = 11 then (M_isStar v0 v1 h).bind (fun r1 => if decide (¬ r1.1 = 0) then
    (if v2 = 0 then
      (if (gS r1.2 v0).1 = 11 then if ax_in r1.2 (gR r1.2 v0 5) 16 v1 then some ((gI r1.2 (gR r1.2 v0 5) (Int32.toNatClampNeg v1)), r1.2) else none else none)
    else if v2 = 1 then
      (if (gS r1.2 v0).1 = 11 then if ax_in r1.2 (gR r1.2 v0 6) 16 v1 then some ((gI r1.2 (gR r1.2 v0 6) (Int32.toNatClampNeg v1)), r1.2) else none else none)
    else if v2 = 2 then
      (if (gS r1.2 v0).1 = 11 then if ax_in r1.2 (gR r1.2 v0 7) 16 v1 then some ((gI r1.2 (gR r1.2 v0 7) (Int32.toNatClampNeg v1)), r1.2) else none else none)
    else if v2 = 3 then
      (if (gS r1.2 v0).1 = 11 then (M_far v0 v1 r1.2).bind (fun r2 => some (r2.1, r2.2) ) else none)
    else 
      (some ((-1000), r1.2) ) )
  else
    (some ((-1000), r1.2) ) ) else none) :=
  (ax_entI (N := 177) (C := r_177) (by decide) rfl (Nat.le_of_ble_eq_true rfl)).trans rfl
/-- 178 BlackSunModel.plate(III)I -/
noncomputable def M_plate (v0 : Nat) (v1 : Int32) (v2 : Int32) (v3 : Int32) (h : ax_H) : Option (Int32 × ax_H) := (ax_EE 178).2.1 [.ref v0, .int v1, .int v2, .int v3] h
set_option maxRecDepth 100000 in
set_option maxHeartbeats 4000000 in
theorem M_plate_eq (v0 : Nat) (v1 : Int32) (v2 : Int32) (v3 : Int32) (h : ax_H) : M_plate v0 v1 v2 v3 h =
  (if (gS h v0).1 = 11 then if decide ((gI h v0 3) = 16) then
    (some ((-1), h) )
  else
    ((M_in (Int32.toInt64 v1) 0 3 h).bind (fun r1 => if decide (r1.1 = 0) then
      (some ((-1), r1.2) )
    else
      ((M_in (Int32.toInt64 v2) 0 2 r1.2).bind (fun r2 => if decide (r2.1 = 0) then
        (some ((-1), r2.2) )
      else
        ((M_in (Int32.toInt64 v3) 0 99 r2.2).bind (fun r3 => if decide (¬ r3.1 = 0) then
          (if (gS r3.2 v0).1 = 11 then if (gS r3.2 v0).1 = 11 then if ax_in r3.2 (gR r3.2 v0 8) 16 (gI r3.2 v0 3) then let h4 := pI r3.2 (gR r3.2 v0 8) (Int32.toNatClampNeg (gI r3.2 v0 3)) v1; if (gS h4 v0).1 = 11 then if (gS h4 v0).1 = 11 then if ax_in h4 (gR h4 v0 9) 16 (gI h4 v0 3) then let h5 := pI h4 (gR h4 v0 9) (Int32.toNatClampNeg (gI h4 v0 3)) v2; if (gS h5 v0).1 = 11 then if (gS h5 v0).1 = 11 then if ax_in h5 (gR h5 v0 10) 16 (gI h5 v0 3) then let h6 := pI h5 (gR h5 v0 10) (Int32.toNatClampNeg (gI h5 v0 3)) v3; if (gS h6 v0).1 = 11 then if (gS h6 v0).1 = 11 then let h7 := pI h6 v0 3 ((gI h6 v0 3) + 1); if (gS h7 v0).1 = 11 then some (((gI h7 v0 3) - 1), h7) else none else none else none else none else none else none else none else none else none else none else none else none)
        else
          (some ((-1), r3.2) ) )) )) )) else none) :=
  (ax_entI (N := 178) (C := r_178) (by decide) rfl (Nat.le_of_ble_eq_true rfl)).trans rfl
/-- 179 BlackSunModel.image(IIIII)I -/
noncomputable def M_image (v0 : Nat) (v1 : Int32) (v2 : Int32) (v3 : Int32) (v4 : Int32) (v5 : Int32) (h : ax_H) : Option (Int32 × ax_H) := (ax_EE 179).2.1 [.ref v0, .int v1, .int v2, .int v3, .int v4, .int v5] h
set_option maxRecDepth 100000 in
set_option maxHeartbeats 4000000 in
theorem M_image_eq (v0 : Nat) (v1 : Int32) (v2 : Int32) (v3 : Int32) (v4 : Int32) (v5 : Int32) (h : ax_H) : M_image v0 v1 v2 v3 v4 v5 h =
  (if (gS h v0).1 = 11 then if decide ((gI h v0 4) = 100) then
    (some ((-1), h) )
  else
    (if (gS h v0).1 = 11 then (M_isPlate v0 v1 h).bind (fun r1 => if decide (r1.1 = 0) then
      (some ((-1), r1.2) )
    else
      (if (gS r1.2 v0).1 = 11 then (M_isStar v0 v2 r1.2).bind (fun r2 => if decide (r2.1 = 0) then
        (some ((-1), r2.2) )
      else
        ((M_isHand v3 r2.2).bind (fun r3 => if decide (r3.1 = 0) then
          (some ((-1), r3.2) )
        else
          ((M_in (Int32.toInt64 v4) (-299) 299 r3.2).bind (fun r4 => if decide (r4.1 = 0) then
            (some ((-1), r4.2) )
          else
            ((M_in (Int32.toInt64 v5) (-299) 299 r4.2).bind (fun r5 => if decide (¬ r5.1 = 0) then
              (if (gS r5.2 v0).1 = 11 then if (gS r5.2 v0).1 = 11 then if ax_in r5.2 (gR r5.2 v0 11) 16 (gI r5.2 v0 4) then let h6 := pI r5.2 (gR r5.2 v0 11) (Int32.toNatClampNeg (gI r5.2 v0 4)) v1; if (gS h6 v0).1 = 11 then if (gS h6 v0).1 = 11 then if ax_in h6 (gR h6 v0 12) 16 (gI h6 v0 4) then let h7 := pI h6 (gR h6 v0 12) (Int32.toNatClampNeg (gI h6 v0 4)) v2; if (gS h7 v0).1 = 11 then if (gS h7 v0).1 = 11 then if ax_in h7 (gR h7 v0 13) 16 (gI h7 v0 4) then let h8 := pI h7 (gR h7 v0 13) (Int32.toNatClampNeg (gI h7 v0 4)) v3; if (gS h8 v0).1 = 11 then if (gS h8 v0).1 = 11 then if ax_in h8 (gR h8 v0 14) 16 (gI h8 v0 4) then let h9 := pI h8 (gR h8 v0 14) (Int32.toNatClampNeg (gI h8 v0 4)) v4; if (gS h9 v0).1 = 11 then if (gS h9 v0).1 = 11 then if ax_in h9 (gR h9 v0 15) 16 (gI h9 v0 4) then let h10 := pI h9 (gR h9 v0 15) (Int32.toNatClampNeg (gI h9 v0 4)) v5; if (gS h10 v0).1 = 11 then if (gS h10 v0).1 = 11 then if (gS h10 v0).1 = 11 then if ax_in h10 (gR h10 v0 16) 16 (gI h10 v0 4) then let h11 := pI h10 (gR h10 v0 16) (Int32.toNatClampNeg (gI h10 v0 4)) (gI h10 v0 1); if (gS h11 v0).1 = 11 then if (gS h11 v0).1 = 11 then let h12 := pI h11 v0 4 ((gI h11 v0 4) + 1); if (gS h12 v0).1 = 11 then some (((gI h12 v0 4) - 1), h12) else none else none else none else none else none else none else none else none else none else none else none else none else none else none else none else none else none else none else none else none else none else none)
            else
              (some ((-1), r5.2) ) )) )) )) ) else none) ) else none) else none) :=
  (ax_entI (N := 179) (C := r_179) (by decide) rfl (Nat.le_of_ble_eq_true rfl)).trans rfl
/-- 180 BlackSunModel.counting(IIII)I -/
noncomputable def M_counting (v0 : Nat) (v1 : Int32) (v2 : Int32) (v3 : Int32) (v4 : Int32) (h : ax_H) : Option (Int32 × ax_H) := (ax_EE 180).2.1 [.ref v0, .int v1, .int v2, .int v3, .int v4] h
noncomputable def M_counting_6  (v0 : Nat) (v1 : Int32) (v2 : Int32) (v3 : Int32) (v4 : Int32) (v5 : Int32) (v6 : Int32) (h : ax_H) : Option (Int32 × ax_H) := ax_S ax_ρI (ax_env ax_EE 180) ax_nn r_180 r_180_6 [(0, .ref v0), (1, .int v1), (2, .int v2), (3, .int v3), (4, .int v4), (5, .int v5), (6, .int v6)] [] h
set_option maxRecDepth 100000 in
set_option maxHeartbeats 4000000 in
theorem M_counting_eq (v0 : Nat) (v1 : Int32) (v2 : Int32) (v3 : Int32) (v4 : Int32) (h : ax_H) : M_counting v0 v1 v2 v3 v4 h =
  (M_counting_6 v0 v1 v2 v3 v4 (-1) 0 h ) :=
  (ax_entI (N := 180) (C := r_180) (by decide) rfl (Nat.le_of_ble_eq_true rfl)).trans rfl
set_option maxRecDepth 100000 in
set_option maxHeartbeats 4000000 in
theorem M_counting_6_eq  (v0 : Nat) (v1 : Int32) (v2 : Int32) (v3 : Int32) (v4 : Int32) (v5 : Int32) (v6 : Int32) (h : ax_H) : M_counting_6  v0 v1 v2 v3 v4 v5 v6 h =
  (if (gS h v0).1 = 11 then if decide ((gI h v0 4) ≤ v6) then
    (some (v5, h) )
  else
    (if (gS h v0).1 = 11 then if ax_in h (gR h v0 11) 16 v6 then if decide (¬ (gI h (gR h v0 11) (Int32.toNatClampNeg v6)) = v1) then
      (M_counting_6 v0 v1 v2 v3 v4 v5 (v6 + 1) h )
    else
      (if (gS h v0).1 = 11 then if ax_in h (gR h v0 12) 16 v6 then if decide (¬ (gI h (gR h v0 12) (Int32.toNatClampNeg v6)) = v2) then
        (M_counting_6 v0 v1 v2 v3 v4 v5 (v6 + 1) h )
      else
        (if (gS h v0).1 = 11 then if ax_in h (gR h v0 13) 16 v6 then if decide (¬ (gI h (gR h v0 13) (Int32.toNatClampNeg v6)) = v3) then
          (M_counting_6 v0 v1 v2 v3 v4 v5 (v6 + 1) h )
        else
          (if (gS h v0).1 = 11 then if ax_in h (gR h v0 16) 16 v6 then if decide (v4 < (gI h (gR h v0 16) (Int32.toNatClampNeg v6))) then
            (M_counting_6 v0 v1 v2 v3 v4 v5 (v6 + 1) h )
          else
            (M_counting_6 v0 v1 v2 v3 v4 v6 (v6 + 1) h ) else none else none) else none else none) else none else none) else none else none) else none) :=
  (ax_S_eq _ _ _ _).trans rfl
/-- 181 BlackSunModel.counts(II)Z -/
noncomputable def M_counts (v0 : Nat) (v1 : Int32) (v2 : Int32) (h : ax_H) : Option (Int32 × ax_H) := (ax_EE 181).2.1 [.ref v0, .int v1, .int v2] h
set_option maxRecDepth 100000 in
set_option maxHeartbeats 4000000 in
theorem M_counts_eq (v0 : Nat) (v1 : Int32) (v2 : Int32) (h : ax_H) : M_counts v0 v1 v2 h =
  (if (gS h v0).1 = 11 then if ax_in h (gR h v0 16) 16 v1 then if decide (v2 < (gI h (gR h v0 16) (Int32.toNatClampNeg v1))) then
    (some (0, h) )
  else
    (if (gS h v0).1 = 11 then if ax_in h (gR h v0 11) 16 v1 then if (gS h v0).1 = 11 then if ax_in h (gR h v0 12) 16 v1 then if (gS h v0).1 = 11 then if ax_in h (gR h v0 13) 16 v1 then if (gS h v0).1 = 11 then (M_counting v0 (gI h (gR h v0 11) (Int32.toNatClampNeg v1)) (gI h (gR h v0 12) (Int32.toNatClampNeg v1)) (gI h (gR h v0 13) (Int32.toNatClampNeg v1)) v2 h).bind (fun r1 => if decide (¬ r1.1 = v1) then
      (some (0, r1.2) )
    else
      (some (1, r1.2) ) ) else none else none else none else none else none else none else none) else none else none) :=
  (ax_entI (N := 181) (C := r_181) (by decide) rfl (Nat.le_of_ble_eq_true rfl)).trans rfl
/-- 182 BlackSunModel.images(IIIII)I -/
noncomputable def M_images (v0 : Nat) (v1 : Int32) (v2 : Int32) (v3 : Int32) (v4 : Int32) (v5 : Int32) (h : ax_H) : Option (Int32 × ax_H) := (ax_EE 182).2.1 [.ref v0, .int v1, .int v2, .int v3, .int v4, .int v5] h
set_option maxRecDepth 100000 in
set_option maxHeartbeats 4000000 in
theorem M_images_eq (v0 : Nat) (v1 : Int32) (v2 : Int32) (v3 : Int32) (v4 : Int32) (v5 : Int32) (h : ax_H) : M_images v0 v1 v2 v3 v4 v5 h =
  (if (gS h v0).1 = 11 then (M_isPlate v0 v1 h).bind (fun r1 => if decide (r1.1 = 0) then
    (some ((-1000), r1.2) )
  else
    (if (gS r1.2 v0).1 = 11 then (M_isStar v0 v2 r1.2).bind (fun r2 => if decide (r2.1 = 0) then
      (some ((-1000), r2.2) )
    else
      ((M_isHand v3 r2.2).bind (fun r3 => if decide (r3.1 = 0) then
        (some ((-1000), r3.2) )
      else
        ((M_isWeek v4 r3.2).bind (fun r4 => if decide (r4.1 = 0) then
          (some ((-1000), r4.2) )
        else
          ((M_in (Int32.toInt64 v5) 0 1 r4.2).bind (fun r5 => if decide (¬ r5.1 = 0) then
            (if (gS r5.2 v0).1 = 11 then (M_counting v0 v1 v2 v3 v4 r5.2).bind (fun r6 => if decide (¬ r6.1 = (-1)) then
              (if decide (¬ v5 = 0) then
                (if (gS r6.2 v0).1 = 11 then if ax_in r6.2 (gR r6.2 v0 15) 16 r6.1 then some ((gI r6.2 (gR r6.2 v0 15) (Int32.toNatClampNeg r6.1)), r6.2) else none else none)
              else
                (if (gS r6.2 v0).1 = 11 then if ax_in r6.2 (gR r6.2 v0 14) 16 r6.1 then some ((gI r6.2 (gR r6.2 v0 14) (Int32.toNatClampNeg r6.1)), r6.2) else none else none) )
            else
              (some ((-1000), r6.2) ) ) else none)
          else
            (some ((-1000), r5.2) ) )) )) )) ) else none) ) else none) :=
  (ax_entI (N := 182) (C := r_182) (by decide) rfl (Nat.le_of_ble_eq_true rfl)).trans rfl
/-- 183 BlackSunModel.given(III)I -/
noncomputable def M_given (v0 : Nat) (v1 : Int32) (v2 : Int32) (v3 : Int32) (h : ax_H) : Option (Int32 × ax_H) := (ax_EE 183).2.1 [.ref v0, .int v1, .int v2, .int v3] h
set_option maxRecDepth 100000 in
set_option maxHeartbeats 4000000 in
theorem M_given_eq (v0 : Nat) (v1 : Int32) (v2 : Int32) (v3 : Int32) (h : ax_H) : M_given v0 v1 v2 v3 h =
  (if (gS h v0).1 = 11 then if ax_in h (gR h v0 5) 16 v2 then let x1 := (gI h (gR h v0 5) (Int32.toNatClampNeg v2)); if (gS h v0).1 = 11 then if ax_in h (gR h v0 6) 16 v2 then let x2 := (gI h (gR h v0 6) (Int32.toNatClampNeg v2)); if v1 = 0 then
    (some (((1 : Int32) - v3), h) )
  else if v1 = 1 then
    (some (v3, h) )
  else if v1 = 2 then
    (if decide (¬ v3 = 0) then
      (some (x2, h) )
    else
      (some (x1, h) ) )
  else if v1 = 3 then
    (if decide (¬ v3 = 0) then
      (some (x1, h) )
    else
      (some ((-x2), h) ) )
  else if v1 = 4 then
    (if decide (¬ v3 = 0) then
      (if (gS h v0).1 = 11 then (M_far v0 v2 h).bind (fun r3 => if r3.1 = 0 then none else some ((((40 : Int32) * x2) / r3.1), r3.2) ) else none)
    else
      (if (gS h v0).1 = 11 then (M_far v0 v2 h).bind (fun r4 => if r4.1 = 0 then none else some ((((40 : Int32) * x1) / r4.1), r4.2) ) else none) )
  else 
    (if decide (¬ v3 = 0) then
      (some (0, h) )
    else
      (some ((x1 * x2), h) ) ) else none else none else none else none) :=
  (ax_entI (N := 183) (C := r_183) (by decide) rfl (Nat.le_of_ble_eq_true rfl)).trans rfl
/-- 184 BlackSunModel.gives(III)I -/
noncomputable def M_gives (v0 : Nat) (v1 : Int32) (v2 : Int32) (v3 : Int32) (h : ax_H) : Option (Int32 × ax_H) := (ax_EE 184).2.1 [.ref v0, .int v1, .int v2, .int v3] h
set_option maxRecDepth 100000 in
set_option maxHeartbeats 4000000 in
theorem M_gives_eq (v0 : Nat) (v1 : Int32) (v2 : Int32) (v3 : Int32) (h : ax_H) : M_gives v0 v1 v2 v3 h =
  ((M_in (Int32.toInt64 v1) 0 5 h).bind (fun r1 => if decide (r1.1 = 0) then
    (some ((-1000), r1.2) )
  else
    (if (gS r1.2 v0).1 = 11 then (M_isStar v0 v2 r1.2).bind (fun r2 => if decide (r2.1 = 0) then
      (some ((-1000), r2.2) )
    else
      ((M_in (Int32.toInt64 v3) 0 1 r2.2).bind (fun r3 => if decide (r3.1 = 0) then
        (some ((-1000), r3.2) )
      else
        (if (gS r3.2 v0).1 = 11 then (M_given v0 v1 v2 v3 r3.2).bind (fun r4 => some (r4.1, r4.2) ) else none) )) ) else none) )) :=
  (ax_entI (N := 184) (C := r_184) (by decide) rfl (Nat.le_of_ble_eq_true rfl)).trans rfl
/-- 185 BlackSunModel.put(I)V -/
noncomputable def M_put (v0 : Nat) (v1 : Int32) (h : ax_H) : Option (ax_H) := (ax_EE 185).1 [.ref v0, .int v1] h
noncomputable def M_put_3  (v0 : Nat) (v1 : Int32) (v2 : Int32) (h : ax_H) : Option (ax_H) := ax_S ax_ρV (ax_env ax_EE 185) ax_nn r_185 r_185_3 [(0, .ref v0), (1, .int v1), (2, .int v2)] [] h
set_option maxRecDepth 100000 in
set_option maxHeartbeats 4000000 in
theorem M_put_eq (v0 : Nat) (v1 : Int32) (h : ax_H) : M_put v0 v1 h =
  (M_put_3 v0 v1 24 h ) :=
  (ax_entV (N := 185) (C := r_185) (by decide) rfl (Nat.le_of_ble_eq_true rfl)).trans rfl
set_option maxRecDepth 100000 in
set_option maxHeartbeats 4000000 in
theorem M_put_3_eq  (v0 : Nat) (v1 : Int32) (v2 : Int32) (h : ax_H) : M_put_3  v0 v1 v2 h =
  (if decide (v2 < 0) then
    (some h )
  else
    (if (gS h v0).1 = 11 then if (gS h v0).1 = 11 then if ax_in h (gR h v0 26) 18 (gI h v0 17) then let h1 := pI h (gR h v0 26) (Int32.toNatClampNeg (gI h v0 17)) (Int32.toInt8 (Int32.toInt8 (v1 >>> (v2 &&& 31))).toInt32).toInt32; if (gS h1 v0).1 = 11 then if (gS h1 v0).1 = 11 then let h2 := pI h1 v0 17 ((gI h1 v0 17) + 1); M_put_3 v0 v1 (v2 + (-8)) h2 else none else none else none else none else none) ) :=
  (ax_S_eq _ _ _ _).trans rfl
/-- 186 BlackSunModel.feed(IIIII)I -/
noncomputable def M_feed (v0 : Nat) (v1 : Int32) (v2 : Int32) (v3 : Int32) (v4 : Int32) (v5 : Int32) (h : ax_H) : Option (Int32 × ax_H) := (ax_EE 186).2.1 [.ref v0, .int v1, .int v2, .int v3, .int v4, .int v5] h
set_option maxRecDepth 100000 in
set_option maxHeartbeats 4000000 in
theorem M_feed_eq (v0 : Nat) (v1 : Int32) (v2 : Int32) (v3 : Int32) (v4 : Int32) (v5 : Int32) (h : ax_H) : M_feed v0 v1 v2 v3 v4 v5 h =
  (if (gS h v0).1 = 11 then if decide (((gI h v0 17) + 20) ≤ 400) then
    (if (gS h v0).1 = 11 then (M_put v0 v1 h).bind (fun h1 => if (gS h1 v0).1 = 11 then (M_put v0 v2 h1).bind (fun h2 => if (gS h2 v0).1 = 11 then (M_put v0 v3 h2).bind (fun h3 => if (gS h3 v0).1 = 11 then (M_put v0 v4 h3).bind (fun h4 => if (gS h4 v0).1 = 11 then (M_put v0 v5 h4).bind (fun h5 => if (gS h5 v0).1 = 11 then some ((gI h5 v0 17), h5) else none ) else none ) else none ) else none ) else none ) else none)
  else
    (some ((-1), h) ) else none) :=
  (ax_entI (N := 186) (C := r_186) (by decide) rfl (Nat.le_of_ble_eq_true rfl)).trans rfl
/-- 187 BlackSunModel.end(I)I -/
noncomputable def M_end (v0 : Nat) (v1 : Int32) (h : ax_H) : Option (Int32 × ax_H) := (ax_EE 187).2.1 [.ref v0, .int v1] h
set_option maxRecDepth 100000 in
set_option maxHeartbeats 4000000 in
theorem M_end_eq (v0 : Nat) (v1 : Int32) (h : ax_H) : M_end v0 v1 h =
  (if decide (v1 < 0) then
    (some ((-1), h) )
  else
    (if (gS h v0).1 = 11 then if decide (v1 ≤ (gI h v0 17)) then
      (if (gS h v0).1 = 11 then let h1 := pI h v0 17 v1; some (v1, h1) else none)
    else
      (some ((-1), h) ) else none) ) :=
  (ax_entI (N := 187) (C := r_187) (by decide) rfl (Nat.le_of_ble_eq_true rfl)).trans rfl
/-- 188 BlackSunModel.termName(I)Ljava/lang/String; -/
noncomputable def M_termName (v0 : Int32) (h : ax_H) : Option (Nat × ax_H) := (ax_EE 188).2.2.2 [.int v0] h
set_option maxRecDepth 100000 in
set_option maxHeartbeats 4000000 in
theorem M_termName_eq (v0 : Int32) (h : ax_H) : M_termName v0 h =
  (if v0 = 0 then
    (some (29, h) )
  else if v0 = 1 then
    (some (30, h) )
  else if v0 = 2 then
    (some (31, h) )
  else if v0 = 3 then
    (some (32, h) )
  else if v0 = 4 then
    (some (33, h) )
  else 
    (some (34, h) ) ) :=
  (ax_entR (N := 188) (C := r_188) (by decide) rfl (Nat.le_of_ble_eq_true rfl)).trans rfl
/-- 189 BlackSunModel.wordOf(I)Ljava/lang/String; -/
noncomputable def M_wordOf (v0 : Int32) (h : ax_H) : Option (Nat × ax_H) := (ax_EE 189).2.2.2 [.int v0] h
set_option maxRecDepth 100000 in
set_option maxHeartbeats 4000000 in
theorem M_wordOf_eq (v0 : Int32) (h : ax_H) : M_wordOf v0 h =
  (if v0 = 0 then
    (some (15, h) )
  else if v0 = 1 then
    (some (16, h) )
  else if v0 = 2 then
    (some (17, h) )
  else if v0 = 3 then
    (some (18, h) )
  else if v0 = 4 then
    (some (19, h) )
  else if v0 = 5 then
    (some (20, h) )
  else if v0 = 6 then
    (some (21, h) )
  else if v0 = 7 then
    (some (22, h) )
  else if v0 = 8 then
    (some (23, h) )
  else if v0 = 9 then
    (some (24, h) )
  else if v0 = 10 then
    (some (25, h) )
  else if v0 = 11 then
    (some (26, h) )
  else 
    (some (12, h) ) ) :=
  (ax_entR (N := 189) (C := r_189) (by decide) rfl (Nat.le_of_ble_eq_true rfl)).trans rfl
/-- 190 BlackSunModel.fails(II)V -/
noncomputable def M_fails (v0 : Nat) (v1 : Int32) (v2 : Int32) (h : ax_H) : Option (ax_H) := (ax_EE 190).1 [.ref v0, .int v1, .int v2] h
set_option maxRecDepth 100000 in
set_option maxHeartbeats 4000000 in
theorem M_fails_eq (v0 : Nat) (v1 : Int32) (v2 : Int32) (h : ax_H) : M_fails v0 v1 v2 h =
  (if (gS h v0).1 = 11 then if decide (¬ (gI h v0 19) = 0) then
    (if (gS h v0).1 = 11 then if (gS h v0).1 = 11 then let h1 := pI h v0 19 (gI h v0 19); some h1 else none else none)
  else
    (if (gS h v0).1 = 11 then let h2 := pI h v0 19 (((1 : Int32) + ((8 : Int32) * v2)) + v1); some h2 else none) else none) :=
  (ax_entV (N := 190) (C := r_190) (by decide) rfl (Nat.le_of_ble_eq_true rfl)).trans rfl
/-- 191 BlackSunModel.sign()I -/
noncomputable def M_sign (v0 : Nat) (h : ax_H) : Option (Int32 × ax_H) := (ax_EE 191).2.1 [.ref v0] h
set_option maxRecDepth 100000 in
set_option maxHeartbeats 4000000 in
theorem M_sign_eq (v0 : Nat) (h : ax_H) : M_sign v0 h =
  (if (gS h v0).1 = 11 then if (gS h v0).1 = 11 then if decide ((gI h v0 17) ≤ (gI h v0 18)) then
    (some ((-1), h) )
  else
    (if (gS h v0).1 = 11 then if (gS h v0).1 = 11 then if ax_in h (gR h v0 26) 18 (gI h v0 18) then some (((gI h (gR h v0 26) (Int32.toNatClampNeg (gI h v0 18))) &&& 255), h) else none else none else none) else none else none) :=
  (ax_entI (N := 191) (C := r_191) (by decide) rfl (Nat.le_of_ble_eq_true rfl)).trans rfl
/-- 192 BlackSunModel.blanks()V -/
noncomputable def M_blanks (v0 : Nat) (h : ax_H) : Option (ax_H) := (ax_EE 192).1 [.ref v0] h
noncomputable def M_blanks_0  (v0 : Nat) (h : ax_H) : Option (ax_H) := ax_S ax_ρV (ax_env ax_EE 192) ax_nn r_192 r_192_0 [(0, .ref v0)] [] h
set_option maxRecDepth 100000 in
set_option maxHeartbeats 4000000 in
theorem M_blanks_eq (v0 : Nat) (h : ax_H) : M_blanks v0 h =
  (M_blanks_0 v0 h ) :=
  (ax_entV (N := 192) (C := r_192) (by decide) rfl (Nat.le_of_ble_eq_true rfl)).trans rfl
set_option maxRecDepth 100000 in
set_option maxHeartbeats 4000000 in
theorem M_blanks_0_eq  (v0 : Nat) (h : ax_H) : M_blanks_0  v0 h =
  (if (gS h v0).1 = 11 then (M_sign v0 h).bind (fun r1 => if decide (¬ r1.1 = 32) then
    (some r1.2 )
  else
    (if (gS r1.2 v0).1 = 11 then if (gS r1.2 v0).1 = 11 then let h2 := pI r1.2 v0 18 ((gI r1.2 v0 18) + 1); M_blanks_0 v0 h2 else none else none) ) else none) :=
  (ax_S_eq _ _ _ _).trans rfl
/-- 193 BlackSunModel.isDigit()Z -/
noncomputable def M_isDigit (v0 : Nat) (h : ax_H) : Option (Int32 × ax_H) := (ax_EE 193).2.1 [.ref v0] h
set_option maxRecDepth 100000 in
set_option maxHeartbeats 4000000 in
theorem M_isDigit_eq (v0 : Nat) (h : ax_H) : M_isDigit v0 h =
  (if (gS h v0).1 = 11 then (M_sign v0 h).bind (fun r1 => (M_in (Int32.toInt64 r1.1) 48 57 r1.2).bind (fun r2 => if r2.1 = 0 ∨ r2.1 = 1 then some (r2.1, r2.2) else none ) ) else none) :=
  (ax_entI (N := 193) (C := r_193) (by decide) rfl (Nat.le_of_ble_eq_true rfl)).trans rfl
/-- 194 BlackSunModel.stands(Ljava/lang/String;)Z -/
noncomputable def M_stands (v0 : Nat) (v1 : Nat) (h : ax_H) : Option (Int32 × ax_H) := (ax_EE 194).2.1 [.ref v0, .ref v1] h
noncomputable def M_stands_5  (v0 : Nat) (v1 : Nat) (v2 : Int32) (h : ax_H) : Option (Int32 × ax_H) := ax_S ax_ρI (ax_env ax_EE 194) ax_nn r_194 r_194_5 [(0, .ref v0), (1, .ref v1), (2, .int v2)] [] h
noncomputable def M_stands_41  (v0 : Nat) (v1 : Nat) (v2 : Int32) (h : ax_H) : Option (Int32 × ax_H) := ax_S ax_ρI (ax_env ax_EE 194) ax_nn r_194 r_194_41 [(0, .ref v0), (1, .ref v1), (2, .int v2)] [] h
noncomputable def M_stands_63  (v0 : Nat) (v1 : Nat) (v3 : Int32) (v4 : Int32) (h : ax_H) : Option (Int32 × ax_H) := ax_S ax_ρI (ax_env ax_EE 194) ax_nn r_194 r_194_63 [(0, .ref v0), (1, .ref v1), (3, .int v3), (4, .int v4)] [] h
set_option maxRecDepth 100000 in
set_option maxHeartbeats 4000000 in
theorem M_stands_eq (v0 : Nat) (v1 : Nat) (h : ax_H) : M_stands v0 v1 h =
  (if (gS h v0).1 = 11 then M_stands_5 v0 v1 (gI h v0 18) h else none) :=
  (ax_entI (N := 194) (C := r_194) (by decide) rfl (Nat.le_of_ble_eq_true rfl)).trans rfl
set_option maxRecDepth 100000 in
set_option maxHeartbeats 4000000 in
theorem M_stands_5_eq  (v0 : Nat) (v1 : Nat) (v2 : Int32) (h : ax_H) : M_stands_5  v0 v1 v2 h =
  (if (gS h v0).1 = 11 then if decide ((gI h v0 17) ≤ v2) then
    (M_stands_41 v0 v1 v2 h )
  else
    (if (gS h v0).1 = 11 then if ax_in h (gR h v0 26) 18 v2 then if decide ((gI h (gR h v0 26) (Int32.toNatClampNeg v2)) < 97) then
      (M_stands_41 v0 v1 v2 h )
    else
      (if (gS h v0).1 = 11 then if ax_in h (gR h v0 26) 18 v2 then if decide ((122 : Int32) < (gI h (gR h v0 26) (Int32.toNatClampNeg v2))) then
        (M_stands_41 v0 v1 v2 h )
      else
        (M_stands_5 v0 v1 (v2 + 1) h ) else none else none) else none else none) else none) :=
  (ax_S_eq _ _ _ _).trans rfl
set_option maxRecDepth 100000 in
set_option maxHeartbeats 4000000 in
theorem M_stands_41_eq  (v0 : Nat) (v1 : Nat) (v2 : Int32) (h : ax_H) : M_stands_41  v0 v1 v2 h =
  (if (gS h v0).1 = 11 then if 1 ≤ v1 ∧ v1 ≤ 34 then (Js_length v1 h).bind (fun r1 => if decide (¬ (v2 - (gI h v0 18)) = r1.1) then
    (M_stands_63 v0 v1 0 0 r1.2 )
  else
    (M_stands_63 v0 v1 1 0 r1.2 ) ) else none else none) :=
  (ax_S_eq _ _ _ _).trans rfl
set_option maxRecDepth 100000 in
set_option maxHeartbeats 4000000 in
theorem M_stands_63_eq  (v0 : Nat) (v1 : Nat) (v3 : Int32) (v4 : Int32) (h : ax_H) : M_stands_63  v0 v1 v3 v4 h =
  (if 1 ≤ v1 ∧ v1 ≤ 34 then (Js_length v1 h).bind (fun r1 => if decide (r1.1 ≤ v4) then
    (if v3 = 0 ∨ v3 = 1 then some (v3, r1.2) else none)
  else
    (if decide (v3 = 0) then
      (if v3 = 0 ∨ v3 = 1 then some (v3, r1.2) else none)
    else
      (if (gS r1.2 v0).1 = 11 then if (gS r1.2 v0).1 = 11 then if ax_in r1.2 (gR r1.2 v0 26) 18 ((gI r1.2 v0 18) + v4) then if 1 ≤ v1 ∧ v1 ≤ 34 then (Js_charAt v1 v4 r1.2).bind (fun r2 => if decide (¬ (gI r1.2 (gR r1.2 v0 26) (Int32.toNatClampNeg ((gI r1.2 v0 18) + v4))) = r2.1) then
        (M_stands_63 v0 v1 0 (v4 + 1) r2.2 )
      else
        (M_stands_63 v0 v1 1 (v4 + 1) r2.2 ) ) else none else none else none else none) ) ) else none) :=
  (ax_S_eq _ _ _ _).trans rfl
/-- 195 BlackSunModel.takes(Ljava/lang/String;)Z -/
noncomputable def M_takes (v0 : Nat) (v1 : Nat) (h : ax_H) : Option (Int32 × ax_H) := (ax_EE 195).2.1 [.ref v0, .ref v1] h
set_option maxRecDepth 100000 in
set_option maxHeartbeats 4000000 in
theorem M_takes_eq (v0 : Nat) (v1 : Nat) (h : ax_H) : M_takes v0 v1 h =
  (if (gS h v0).1 = 11 then (M_blanks v0 h).bind (fun h1 => if (gS h1 v0).1 = 11 then (M_stands v0 v1 h1).bind (fun r2 => if (gS r2.2 v0).1 = 11 then if decide (r2.1 = 0) then
    (if (gS r2.2 v0).1 = 11 then let h3 := pI r2.2 v0 18 ((gI r2.2 v0 18) + 0); if r2.1 = 0 ∨ r2.1 = 1 then some (r2.1, h3) else none else none)
  else
    (if 1 ≤ v1 ∧ v1 ≤ 34 then (Js_length v1 r2.2).bind (fun r4 => if (gS r4.2 v0).1 = 11 then let h5 := pI r4.2 v0 18 ((gI r2.2 v0 18) + r4.1); if r2.1 = 0 ∨ r2.1 = 1 then some (r2.1, h5) else none else none ) else none) else none ) else none ) else none) :=
  (ax_entI (N := 195) (C := r_195) (by decide) rfl (Nat.le_of_ble_eq_true rfl)).trans rfl
/-- 196 BlackSunModel.entry(II)V -/
noncomputable def M_entry (v0 : Nat) (v1 : Int32) (v2 : Int32) (h : ax_H) : Option (ax_H) := (ax_EE 196).1 [.ref v0, .int v1, .int v2] h
set_option maxRecDepth 100000 in
set_option maxHeartbeats 4000000 in
theorem M_entry_eq (v0 : Nat) (v1 : Int32) (v2 : Int32) (h : ax_H) : M_entry v0 v1 v2 h =
  (if (gS h v0).1 = 11 then if decide (¬ (gI h v0 19) = 0) then
    (some h )
  else
    (if (gS h v0).1 = 11 then if (gS h v0).1 = 11 then if (gS h v0).1 = 11 then if ax_in h (gR h v0 27) 16 (((300 : Int32) * (gI h v0 20)) + (gI h v0 21)) then let h1 := pI h (gR h v0 27) (Int32.toNatClampNeg (((300 : Int32) * (gI h v0 20)) + (gI h v0 21))) v1; if (gS h1 v0).1 = 11 then if (gS h1 v0).1 = 11 then if (gS h1 v0).1 = 11 then if ax_in h1 (gR h1 v0 28) 16 (((300 : Int32) * (gI h1 v0 20)) + (gI h1 v0 21)) then let h2 := pI h1 (gR h1 v0 28) (Int32.toNatClampNeg (((300 : Int32) * (gI h1 v0 20)) + (gI h1 v0 21))) v2; if (gS h2 v0).1 = 11 then if (gS h2 v0).1 = 11 then let h3 := pI h2 v0 21 ((gI h2 v0 21) + 1); some h3 else none else none else none else none else none else none else none else none else none else none) else none) :=
  (ax_entV (N := 196) (C := r_196) (by decide) rfl (Nat.le_of_ble_eq_true rfl)).trans rfl
/-- 197 BlackSunModel.isCounted(I)V -/
noncomputable def M_isCounted (v0 : Nat) (v1 : Int32) (h : ax_H) : Option (ax_H) := (ax_EE 197).1 [.ref v0, .int v1] h
set_option maxRecDepth 100000 in
set_option maxHeartbeats 4000000 in
theorem M_isCounted_eq (v0 : Nat) (v1 : Int32) (h : ax_H) : M_isCounted v0 v1 h =
  (if (gS h v0).1 = 11 then if decide (¬ (gI h v0 23) = 60) then
    (if (gS h v0).1 = 11 then if (gS h v0).1 = 11 then let h1 := pI h v0 23 ((gI h v0 23) + 1); some h1 else none else none)
  else
    (if (gS h v0).1 = 11 then (M_fails v0 3 v1 h).bind (fun h2 => if (gS h2 v0).1 = 11 then if (gS h2 v0).1 = 11 then let h3 := pI h2 v0 23 ((gI h2 v0 23) + 1); some h3 else none else none ) else none) else none) :=
  (ax_entV (N := 197) (C := r_197) (by decide) rfl (Nat.le_of_ble_eq_true rfl)).trans rfl
/-- 198 BlackSunModel.digits(I)I -/
noncomputable def M_digits (v0 : Nat) (v1 : Int32) (h : ax_H) : Option (Int32 × ax_H) := (ax_EE 198).2.1 [.ref v0, .int v1] h
noncomputable def M_digits_25  (v0 : Nat) (v1 : Int32) (v2 : Int32) (v3 : Int32) (h : ax_H) : Option (Int32 × ax_H) := ax_S ax_ρI (ax_env ax_EE 198) ax_nn r_198 r_198_25 [(0, .ref v0), (1, .int v1), (2, .int v2), (3, .int v3)] [] h
set_option maxRecDepth 100000 in
set_option maxHeartbeats 4000000 in
theorem M_digits_eq (v0 : Nat) (v1 : Int32) (h : ax_H) : M_digits v0 v1 h =
  (if (gS h v0).1 = 11 then (M_isDigit v0 h).bind (fun r1 => if decide (¬ r1.1 = 0) then
    (if (gS r1.2 v0).1 = 11 then M_digits_25 v0 v1 (gI r1.2 v0 18) 0 r1.2 else none)
  else
    (if (gS r1.2 v0).1 = 11 then if (gS r1.2 v0).1 = 11 then (M_fails v0 0 (gI r1.2 v0 18) r1.2).bind (fun h2 => some (0, h2) ) else none else none) ) else none) :=
  (ax_entI (N := 198) (C := r_198) (by decide) rfl (Nat.le_of_ble_eq_true rfl)).trans rfl
set_option maxRecDepth 100000 in
set_option maxHeartbeats 4000000 in
theorem M_digits_25_eq  (v0 : Nat) (v1 : Int32) (v2 : Int32) (v3 : Int32) (h : ax_H) : M_digits_25  v0 v1 v2 v3 h =
  (if (gS h v0).1 = 11 then (M_isDigit v0 h).bind (fun r1 => if decide (r1.1 = 0) then
    (if (gS r1.2 v0).1 = 11 then if decide ((5 : Int32) < ((gI r1.2 v0 18) - v2)) then
      (if (gS r1.2 v0).1 = 11 then (M_fails v0 1 v2 r1.2).bind (fun h2 => some (v3, h2) ) else none)
    else
      (if decide (v3 ≤ v1) then
        (some (v3, r1.2) )
      else
        (if (gS r1.2 v0).1 = 11 then (M_fails v0 1 v2 r1.2).bind (fun h3 => some (v3, h3) ) else none) ) else none)
  else
    (if (gS r1.2 v0).1 = 11 then if decide ((5 : Int32) ≤ ((gI r1.2 v0 18) - v2)) then
      (if (gS r1.2 v0).1 = 11 then if (gS r1.2 v0).1 = 11 then let h4 := pI r1.2 v0 18 ((gI r1.2 v0 18) + 1); M_digits_25 v0 v1 v2 v3 h4 else none else none)
    else
      (if (gS r1.2 v0).1 = 11 then (M_sign v0 r1.2).bind (fun r5 => let x6 := ((((10 : Int32) * v3) + r5.1) - 48); if (gS r5.2 v0).1 = 11 then if (gS r5.2 v0).1 = 11 then let h7 := pI r5.2 v0 18 ((gI r5.2 v0 18) + 1); M_digits_25 v0 v1 v2 x6 h7 else none else none ) else none) else none) ) else none) :=
  (ax_S_eq _ _ _ _).trans rfl
/-- 199 BlackSunModel.value()V -/
noncomputable def M_value (v0 : Nat) (h : ax_H) : Option (ax_H) := (ax_EE 199).1 [.ref v0] h
noncomputable def M_value_38  (v0 : Nat) (v1 : Int32) (v2 : Int32) (h : ax_H) : Option (ax_H) := ax_S ax_ρV (ax_env ax_EE 199) ax_nn r_199 r_199_38 [(0, .ref v0), (1, .int v1), (2, .int v2)] [] h
noncomputable def M_value_61  (v0 : Nat) (v1 : Int32) (v2 : Int32) (h : ax_H) : Option (ax_H) := ax_S ax_ρV (ax_env ax_EE 199) ax_nn r_199 r_199_61 [(0, .ref v0), (1, .int v1), (2, .int v2)] [] h
set_option maxRecDepth 100000 in
set_option maxHeartbeats 4000000 in
theorem M_value_eq (v0 : Nat) (h : ax_H) : M_value v0 h =
  (if (gS h v0).1 = 11 then (M_blanks v0 h).bind (fun h1 => if (gS h1 v0).1 = 11 then if (gS h1 v0).1 = 11 then (M_isDigit v0 h1).bind (fun r2 => if decide (r2.1 = 0) then
    (M_value_38 v0 (gI h1 v0 18) 0 r2.2 )
  else
    (if (gS r2.2 v0).1 = 11 then (M_digits v0 99999 r2.2).bind (fun r3 => if (gS r3.2 v0).1 = 11 then (M_isCounted v0 (gI h1 v0 18) r3.2).bind (fun h4 => if (gS h4 v0).1 = 11 then (M_entry v0 0 r3.1 h4).bind (fun h5 => some h5 ) else none ) else none ) else none) ) else none else none ) else none) :=
  (ax_entV (N := 199) (C := r_199) (by decide) rfl (Nat.le_of_ble_eq_true rfl)).trans rfl
set_option maxRecDepth 100000 in
set_option maxHeartbeats 4000000 in
theorem M_value_38_eq  (v0 : Nat) (v1 : Int32) (v2 : Int32) (h : ax_H) : M_value_38  v0 v1 v2 h =
  (if decide ((13 : Int32) ≤ v2) then
    (M_value_61 v0 v1 v2 h )
  else
    ((M_wordOf v2 h).bind (fun r1 => if (gS r1.2 v0).1 = 11 then (M_stands v0 r1.1 r1.2).bind (fun r2 => if decide (¬ r2.1 = 0) then
      (M_value_61 v0 v1 v2 r2.2 )
    else
      (M_value_38 v0 v1 (v2 + 1) r2.2 ) ) else none )) ) :=
  (ax_S_eq _ _ _ _).trans rfl
set_option maxRecDepth 100000 in
set_option maxHeartbeats 4000000 in
theorem M_value_61_eq  (v0 : Nat) (v1 : Int32) (v2 : Int32) (h : ax_H) : M_value_61  v0 v1 v2 h =
  (if decide (¬ v2 = 13) then
    (if (gS h v0).1 = 11 then (M_isCounted v0 v1 h).bind (fun h1 => if (gS h1 v0).1 = 11 then (M_wordOf v2 h1).bind (fun r2 => if 1 ≤ r2.1 ∧ r2.1 ≤ 34 then (Js_length r2.1 r2.2).bind (fun r3 => if (gS r3.2 v0).1 = 11 then let h4 := pI r3.2 v0 18 ((gI h1 v0 18) + r3.1); if (gS h4 v0).1 = 11 then (M_entry v0 1 v2 h4).bind (fun h5 => some h5 ) else none else none ) else none ) else none ) else none)
  else
    (if (gS h v0).1 = 11 then (M_fails v0 0 v1 h).bind (fun h6 => some h6 ) else none) ) :=
  (ax_S_eq _ _ _ _).trans rfl
