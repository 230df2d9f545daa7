/-! the methods' equations, printed by wip/gen/eqs.py -/
/-- 0 java/lang/String.length()I -/
noncomputable def Js_length (v0 : Nat) (h : ax_H) : Option (Int32 × ax_H) := (ax_EE 0).2.1 [.ref v0] h
/-- 1 java/lang/String.charAt(I)C -/
noncomputable def Js_charAt (v0 : Nat) (v1 : Int32) (h : ax_H) : Option (Int32 × ax_H) := (ax_EE 1).2.1 [.ref v0, .int v1] h
/-- 2 BlackSun$Stars.<init>()V -/
noncomputable def St_init (v0 : Nat) (h : ax_H) : Option (ax_H) := (ax_EE 2).1 [.ref v0] h
set_option maxRecDepth 100000 in
set_option maxHeartbeats 4000000 in
theorem St_init_eq (v0 : Nat) (h : ax_H) : St_init v0 h =
  (if (gS h v0).1 < 12 ∧ (([] : List Value).map (fun v => v.category)).sum ≤ 8 then let h1 := nW h 16 30 30; if (gS h1 v0).1 = 2 then let h2 := pR h1 v0 1 (gN h); let h3 := nW h2 16 30 30; if (gS h3 v0).1 = 2 then let h4 := pR h3 v0 2 (gN h2); let h5 := nW h4 16 30 30; if (gS h5 v0).1 = 2 then let h6 := pR h5 v0 3 (gN h4); some h6 else none else none else none else none) :=
  (ax_entV (N := 2) (C := r_2) (by decide) rfl (Nat.le_of_ble_eq_true rfl)).trans rfl
/-- 3 BlackSun$Plates.<init>()V -/
noncomputable def Pl_init (v0 : Nat) (h : ax_H) : Option (ax_H) := (ax_EE 3).1 [.ref v0] h
set_option maxRecDepth 100000 in
set_option maxHeartbeats 4000000 in
theorem Pl_init_eq (v0 : Nat) (h : ax_H) : Pl_init v0 h =
  (if (gS h v0).1 < 12 ∧ (([] : List Value).map (fun v => v.category)).sum ≤ 8 then let h1 := nW h 16 16 16; if (gS h1 v0).1 = 3 then let h2 := pR h1 v0 1 (gN h); let h3 := nW h2 16 16 16; if (gS h3 v0).1 = 3 then let h4 := pR h3 v0 2 (gN h2); let h5 := nW h4 16 16 16; if (gS h5 v0).1 = 3 then let h6 := pR h5 v0 3 (gN h4); some h6 else none else none else none else none) :=
  (ax_entV (N := 3) (C := r_3) (by decide) rfl (Nat.le_of_ble_eq_true rfl)).trans rfl
/-- 4 BlackSun$Images.<init>()V -/
noncomputable def Im_init (v0 : Nat) (h : ax_H) : Option (ax_H) := (ax_EE 4).1 [.ref v0] h
set_option maxRecDepth 100000 in
set_option maxHeartbeats 4000000 in
theorem Im_init_eq (v0 : Nat) (h : ax_H) : Im_init v0 h =
  (if (gS h v0).1 < 12 ∧ (([] : List Value).map (fun v => v.category)).sum ≤ 8 then let h1 := nW h 16 100 100; if (gS h1 v0).1 = 4 then let h2 := pR h1 v0 1 (gN h); let h3 := nW h2 16 100 100; if (gS h3 v0).1 = 4 then let h4 := pR h3 v0 2 (gN h2); let h5 := nW h4 16 100 100; if (gS h5 v0).1 = 4 then let h6 := pR h5 v0 3 (gN h4); let h7 := nW h6 16 100 100; if (gS h7 v0).1 = 4 then let h8 := pR h7 v0 4 (gN h6); let h9 := nW h8 16 100 100; if (gS h9 v0).1 = 4 then let h10 := pR h9 v0 5 (gN h8); let h11 := nW h10 16 100 100; if (gS h11 v0).1 = 4 then let h12 := pR h11 v0 6 (gN h10); let h13 := nW h12 16 100 100; if (gS h13 v0).1 = 4 then let h14 := pR h13 v0 7 (gN h12); some h14 else none else none else none else none else none else none else none else none) :=
  (ax_entV (N := 4) (C := r_4) (by decide) rfl (Nat.le_of_ble_eq_true rfl)).trans rfl
/-- 5 BlackSun$Book.<init>()V -/
noncomputable def Bk_init (v0 : Nat) (h : ax_H) : Option (ax_H) := (ax_EE 5).1 [.ref v0] h
noncomputable def Bk_init_120  (v0 : Nat) (v1 : Int32) (h : ax_H) : Option (ax_H) := ax_S ax_ρV (ax_env ax_EE 5) ax_nn r_5 r_5_120 [(0, .ref v0), (1, .int v1)] [] h
set_option maxRecDepth 100000 in
set_option maxHeartbeats 4000000 in
theorem Bk_init_eq (v0 : Nat) (h : ax_H) : Bk_init v0 h =
  (if (gS h v0).1 < 12 ∧ (([] : List Value).map (fun v => v.category)).sum ≤ 8 then let h1 := nW h 2 0 4; if (gS h1 (gN h)).1 = 2 then (St_init (gN h) h1).bind (fun h2 => if (gS h2 v0).1 = 1 then let h3 := pR h2 v0 1 (gN h); let h4 := nW h3 3 0 4; if (gS h4 (gN h3)).1 = 3 then (Pl_init (gN h3) h4).bind (fun h5 => if (gS h5 v0).1 = 1 then let h6 := pR h5 v0 2 (gN h3); let h7 := nW h6 4 0 8; if (gS h7 (gN h6)).1 = 4 then (Im_init (gN h6) h7).bind (fun h8 => if (gS h8 v0).1 = 1 then let h9 := pR h8 v0 3 (gN h6); let h10 := nW h9 20 10 10; if (gS h10 v0).1 = 1 then let h11 := pR h10 v0 5 (gN h9); let h12 := nW h11 16 40 40; if (gS h12 v0).1 = 1 then let h13 := pR h12 v0 7 (gN h11); let h14 := nW h13 16 40 40; if (gS h14 v0).1 = 1 then let h15 := pR h14 v0 8 (gN h13); let h16 := nW h15 16 40 40; if (gS h16 v0).1 = 1 then let h17 := pR h16 v0 9 (gN h15); let h18 := nW h17 16 9 9; if (gS h18 v0).1 = 1 then let h19 := pR h18 v0 11 (gN h17); let h20 := nW h19 16 9 9; if (gS h20 v0).1 = 1 then let h21 := pR h20 v0 12 (gN h19); let h22 := nW h21 16 24 24; if (gS h22 v0).1 = 1 then let h23 := pR h22 v0 13 (gN h21); let h24 := nW h23 16 24 24; if (gS h24 v0).1 = 1 then let h25 := pR h24 v0 14 (gN h23); let h26 := nW h25 16 8 8; if (gS h26 v0).1 = 1 then let h27 := pR h26 v0 15 (gN h25); let h28 := nW h27 16 6 6; if (gS h28 v0).1 = 1 then let h29 := pR h28 v0 16 (gN h27); Bk_init_120 v0 0 h29 else none else none else none else none else none else none else none else none else none else none else none ) else none else none ) else none else none ) else none else none) :=
  (ax_entV (N := 5) (C := r_5) (by decide) rfl (Nat.le_of_ble_eq_true rfl)).trans rfl
set_option maxRecDepth 100000 in
set_option maxHeartbeats 4000000 in
theorem Bk_init_120_eq  (v0 : Nat) (v1 : Int32) (h : ax_H) : Bk_init_120  v0 v1 h =
  (if decide ((8 : Int32) ≤ v1) then
    (some h )
  else
    (if (gS h v0).1 = 1 then if ax_in h (gR h v0 15) 16 v1 then let h1 := pI h (gR h v0 15) (Int32.toNatClampNeg v1) 10000; Bk_init_120 v0 (v1 + 1) h1 else none else none) ) :=
  (ax_S_eq _ _ _ _).trans rfl
/-- 6 BlackSun$Reader.<init>()V -/
noncomputable def Rd_init (v0 : Nat) (h : ax_H) : Option (ax_H) := (ax_EE 6).1 [.ref v0] h
set_option maxRecDepth 100000 in
set_option maxHeartbeats 4000000 in
theorem Rd_init_eq (v0 : Nat) (h : ax_H) : Rd_init v0 h =
  (if (gS h v0).1 < 12 ∧ (([] : List Value).map (fun v => v.category)).sum ≤ 8 then let h1 := nW h 16 400 400; if (gS h1 v0).1 = 6 then let h2 := pR h1 v0 2 (gN h); let h3 := nW h2 16 64 64; if (gS h3 v0).1 = 6 then let h4 := pR h3 v0 10 (gN h2); let h5 := nW h4 16 400 400; if (gS h5 v0).1 = 6 then let h6 := pR h5 v0 12 (gN h4); let h7 := nW h6 16 6 6; if (gS h7 v0).1 = 6 then let h8 := pR h7 v0 13 (gN h6); let h9 := nW h8 16 6 6; if (gS h9 v0).1 = 6 then let h10 := pR h9 v0 14 (gN h8); some h10 else none else none else none else none else none else none) :=
  (ax_entV (N := 6) (C := r_6) (by decide) rfl (Nat.le_of_ble_eq_true rfl)).trans rfl
/-- 7 BlackSun$Fit.<init>()V -/
noncomputable def Ft_init (v0 : Nat) (h : ax_H) : Option (ax_H) := (ax_EE 7).1 [.ref v0] h
set_option maxRecDepth 100000 in
set_option maxHeartbeats 4000000 in
theorem Ft_init_eq (v0 : Nat) (h : ax_H) : Ft_init v0 h =
  (if (gS h v0).1 < 12 ∧ (([] : List Value).map (fun v => v.category)).sum ≤ 8 then let h1 := nW h 16 100 100; if (gS h1 v0).1 = 7 then let h2 := pR h1 v0 1 (gN h); let h3 := nW h2 16 6 6; if (gS h3 v0).1 = 7 then let h4 := pR h3 v0 2 (gN h2); let h5 := nW h4 16 3 3; if (gS h5 v0).1 = 7 then let h6 := pR h5 v0 5 (gN h4); let h7 := nW h6 16 600 600; if (gS h7 v0).1 = 7 then let h8 := pR h7 v0 6 (gN h6); let h9 := nW h8 16 200 200; if (gS h9 v0).1 = 7 then let h10 := pR h9 v0 7 (gN h8); let h11 := nW h10 16 200 200; if (gS h11 v0).1 = 7 then let h12 := pR h11 v0 8 (gN h10); let h13 := nW h12 16 200 200; if (gS h13 v0).1 = 7 then let h14 := pR h13 v0 9 (gN h12); let h15 := nG h14 22 17 47 13; if (gS h15 v0).1 = 7 then let h16 := pR h15 v0 10 (gN h14); let h17 := nW h16 17 13 13; if (gS h17 v0).1 = 7 then let h18 := pR h17 v0 11 (gN h16); let h19 := nW h18 16 8 8; if (gS h19 v0).1 = 7 then let h20 := pR h19 v0 12 (gN h18); let h21 := nW h20 16 64 64; if (gS h21 v0).1 = 7 then let h22 := pR h21 v0 13 (gN h20); some h22 else none else none else none else none else none else none else none else none else none else none else none else none) :=
  (ax_entV (N := 7) (C := r_7) (by decide) rfl (Nat.le_of_ble_eq_true rfl)).trans rfl
/-- 8 BlackSun$Mix.<init>()V -/
noncomputable def Mx_init (v0 : Nat) (h : ax_H) : Option (ax_H) := (ax_EE 8).1 [.ref v0] h
set_option maxRecDepth 100000 in
set_option maxHeartbeats 4000000 in
theorem Mx_init_eq (v0 : Nat) (h : ax_H) : Mx_init v0 h =
  (if (gS h v0).1 < 12 ∧ (([] : List Value).map (fun v => v.category)).sum ≤ 8 then some h else none) :=
  (ax_entV (N := 8) (C := r_8) (by decide) rfl (Nat.le_of_ble_eq_true rfl)).trans rfl
/-- 9 BlackSun.<init>()V -/
noncomputable def B_init (v0 : Nat) (h : ax_H) : Option (ax_H) := (ax_EE 9).1 [.ref v0] h
set_option maxRecDepth 100000 in
set_option maxHeartbeats 4000000 in
theorem B_init_eq (v0 : Nat) (h : ax_H) : B_init v0 h =
  (if (gS h v0).1 < 12 ∧ (([] : List Value).map (fun v => v.category)).sum ≤ 8 then let h1 := nW h 1 0 17; if (gS h1 (gN h)).1 = 1 then (Bk_init (gN h) h1).bind (fun h2 => if (gS h2 v0).1 = 0 then let h3 := pR h2 v0 0 (gN h); let h4 := nW h3 21 4 4; if (gS h4 v0).1 = 0 then let h5 := pR h4 v0 1 (gN h3); let h6 := nW h5 6 0 15; if (gS h6 (gN h5)).1 = 6 then (Rd_init (gN h5) h6).bind (fun h7 => if (gS h7 v0).1 = 0 then let h8 := pR h7 v0 2 (gN h5); let h9 := nW h8 7 0 15; if (gS h9 (gN h8)).1 = 7 then (Ft_init (gN h8) h9).bind (fun h10 => if (gS h10 v0).1 = 0 then let h11 := pR h10 v0 3 (gN h8); let h12 := nW h11 8 0 3; if (gS h12 (gN h11)).1 = 8 then (Mx_init (gN h11) h12).bind (fun h13 => if (gS h13 v0).1 = 0 then let h14 := pR h13 v0 4 (gN h11); some h14 else none ) else none else none ) else none else none ) else none else none else none ) else none else none) :=
  (ax_entV (N := 9) (C := r_9) (by decide) rfl (Nat.le_of_ble_eq_true rfl)).trans rfl
/-- 10 BlackSun.clock(I)Z -/
noncomputable def B_clock (v0 : Nat) (v1 : Int32) (h : ax_H) : Option (Int32 × ax_H) := (ax_EE 10).2.1 [.ref v0, .int v1] h
set_option maxRecDepth 100000 in
set_option maxHeartbeats 4000000 in
theorem B_clock_eq (v0 : Nat) (v1 : Int32) (h : ax_H) : B_clock v0 v1 h =
  (if (gS h v0).1 = 0 then if (gS h (gR h v0 0)).1 = 1 then if decide (v1 < (gI h (gR h v0 0) 0)) then
    (some (0, h) )
  else
    (if decide (v1 ≤ 9999) then
      (if (gS h v0).1 = 0 then if (gS h (gR h v0 0)).1 = 1 then let h1 := pI h (gR h v0 0) 0 v1; some (1, h1) else none else none)
    else
      (some (0, h) ) ) else none else none) :=
  (ax_entI (N := 10) (C := r_10) (by decide) rfl (Nat.le_of_ble_eq_true rfl)).trans rfl
/-- 11 BlackSun.isWithin(III)Z -/
noncomputable def B_isWithin (v0 : Int32) (v1 : Int32) (v2 : Int32) (h : ax_H) : Option (Int32 × ax_H) := (ax_EE 11).2.1 [.int v0, .int v1, .int v2] h
set_option maxRecDepth 100000 in
set_option maxHeartbeats 4000000 in
theorem B_isWithin_eq (v0 : Int32) (v1 : Int32) (v2 : Int32) (h : ax_H) : B_isWithin v0 v1 v2 h =
  (if decide (v0 < v1) then
    (some (0, h) )
  else
    (if decide (v2 < v0) then
      (some (0, h) )
    else
      (some (1, h) ) ) ) :=
  (ax_entI (N := 11) (C := r_11) (by decide) rfl (Nat.le_of_ble_eq_true rfl)).trans rfl
/-- 12 BlackSun$Stars.put(III)I -/
noncomputable def St_put (v0 : Nat) (v1 : Int32) (v2 : Int32) (v3 : Int32) (h : ax_H) : Option (Int32 × ax_H) := (ax_EE 12).2.1 [.ref v0, .int v1, .int v2, .int v3] h
set_option maxRecDepth 100000 in
set_option maxHeartbeats 4000000 in
theorem St_put_eq (v0 : Nat) (v1 : Int32) (v2 : Int32) (v3 : Int32) (h : ax_H) : St_put v0 v1 v2 v3 h =
  (if (gS h v0).1 = 2 then if decide ((gI h v0 0) < 30) then
    (if (gS h v0).1 = 2 then if (gS h v0).1 = 2 then if ax_in h (gR h v0 1) 16 (gI h v0 0) then let h1 := pI h (gR h v0 1) (Int32.toNatClampNeg (gI h v0 0)) v1; if (gS h1 v0).1 = 2 then if (gS h1 v0).1 = 2 then if ax_in h1 (gR h1 v0 2) 16 (gI h1 v0 0) then let h2 := pI h1 (gR h1 v0 2) (Int32.toNatClampNeg (gI h1 v0 0)) v2; if (gS h2 v0).1 = 2 then if (gS h2 v0).1 = 2 then if ax_in h2 (gR h2 v0 3) 16 (gI h2 v0 0) then let h3 := pI h2 (gR h2 v0 3) (Int32.toNatClampNeg (gI h2 v0 0)) v3; if (gS h3 v0).1 = 2 then if (gS h3 v0).1 = 2 then let h4 := pI h3 v0 0 ((gI h3 v0 0) + 1); if (gS h4 v0).1 = 2 then some (((gI h4 v0 0) - 1), h4) else none else none else none else none else none else none else none else none else none else none else none else none)
  else
    (some ((-1), h) ) else none) :=
  (ax_entI (N := 12) (C := r_12) (by decide) rfl (Nat.le_of_ble_eq_true rfl)).trans rfl
/-- 13 BlackSun.star(III)I -/
noncomputable def B_star (v0 : Nat) (v1 : Int32) (v2 : Int32) (v3 : Int32) (h : ax_H) : Option (Int32 × ax_H) := (ax_EE 13).2.1 [.ref v0, .int v1, .int v2, .int v3] h
noncomputable def B_star_13 (k0 : Int32) (v0 : Nat) (v1 : Int32) (v2 : Int32) (v3 : Int32) (h : ax_H) : Option (Int32 × ax_H) := ax_S ax_ρI (ax_env ax_EE 13) ax_nn r_13 r_13_13 [(0, .ref v0), (1, .int v1), (2, .int v2), (3, .int v3)] [.int k0] h
set_option maxRecDepth 100000 in
set_option maxHeartbeats 4000000 in
theorem B_star_eq (v0 : Nat) (v1 : Int32) (v2 : Int32) (v3 : Int32) (h : ax_H) : B_star v0 v1 v2 v3 h =
  (if decide (¬ v1 = 0) then
    (B_star_13 0 v0 v1 v2 v3 h )
  else
    (if decide (¬ v2 = 0) then
      (B_star_13 0 v0 v1 v2 v3 h )
    else
      (B_star_13 1 v0 v1 v2 v3 h ) ) ) :=
  (ax_entI (N := 13) (C := r_13) (by decide) rfl (Nat.le_of_ble_eq_true rfl)).trans rfl
set_option maxRecDepth 100000 in
set_option maxHeartbeats 4000000 in
theorem B_star_13_eq (k0 : Int32) (v0 : Nat) (v1 : Int32) (v2 : Int32) (v3 : Int32) (h : ax_H) : B_star_13 k0 v0 v1 v2 v3 h =
  (if decide (¬ k0 = 0) then
    (some ((-1), h) )
  else
    ((B_isWithin v1 (-9) 9 h).bind (fun r1 => if decide (r1.1 = 0) then
      (some ((-1), r1.2) )
    else
      ((B_isWithin v2 (-9) 9 r1.2).bind (fun r2 => if decide (r2.1 = 0) then
        (some ((-1), r2.2) )
      else
        ((B_isWithin v3 0 99 r2.2).bind (fun r3 => if decide (¬ r3.1 = 0) then
          (if (gS r3.2 v0).1 = 0 then if (gS r3.2 (gR r3.2 v0 0)).1 = 1 then if (gS r3.2 (gR r3.2 (gR r3.2 v0 0) 1)).1 = 2 then (St_put (gR r3.2 (gR r3.2 v0 0) 1) v1 v2 v3 r3.2).bind (fun r4 => some (r4.1, r4.2) ) else none else none else none)
        else
          (some ((-1), r3.2) ) )) )) )) ) :=
  (ax_S_eq _ _ _ _).trans rfl
/-- 14 BlackSun$Stars.has(I)Z -/
noncomputable def St_has (v0 : Nat) (v1 : Int32) (h : ax_H) : Option (Int32 × ax_H) := (ax_EE 14).2.1 [.ref v0, .int v1] h
set_option maxRecDepth 100000 in
set_option maxHeartbeats 4000000 in
theorem St_has_eq (v0 : Nat) (v1 : Int32) (h : ax_H) : St_has v0 v1 h =
  (if (gS h v0).1 = 2 then (B_isWithin v1 0 ((gI h v0 0) - 1) h).bind (fun r1 => if r1.1 = 0 ∨ r1.1 = 1 then some (r1.1, r1.2) else none ) else none) :=
  (ax_entI (N := 14) (C := r_14) (by decide) rfl (Nat.le_of_ble_eq_true rfl)).trans rfl
/-- 15 BlackSun$Stars.far(I)I -/
noncomputable def St_far (v0 : Nat) (v1 : Int32) (h : ax_H) : Option (Int32 × ax_H) := (ax_EE 15).2.1 [.ref v0, .int v1] h
set_option maxRecDepth 100000 in
set_option maxHeartbeats 4000000 in
theorem St_far_eq (v0 : Nat) (v1 : Int32) (h : ax_H) : St_far v0 v1 h =
  (if (gS h v0).1 = 2 then if ax_in h (gR h v0 1) 16 v1 then if (gS h v0).1 = 2 then if ax_in h (gR h v0 1) 16 v1 then if (gS h v0).1 = 2 then if ax_in h (gR h v0 2) 16 v1 then if (gS h v0).1 = 2 then if ax_in h (gR h v0 2) 16 v1 then some ((((gI h (gR h v0 1) (Int32.toNatClampNeg v1)) * (gI h (gR h v0 1) (Int32.toNatClampNeg v1))) + ((gI h (gR h v0 2) (Int32.toNatClampNeg v1)) * (gI h (gR h v0 2) (Int32.toNatClampNeg v1)))), h) else none else none else none else none else none else none else none else none) :=
  (ax_entI (N := 15) (C := r_15) (by decide) rfl (Nat.le_of_ble_eq_true rfl)).trans rfl
/-- 16 BlackSun.stars(II)I -/
noncomputable def B_stars (v0 : Nat) (v1 : Int32) (v2 : Int32) (h : ax_H) : Option (Int32 × ax_H) := (ax_EE 16).2.1 [.ref v0, .int v1, .int v2] h
set_option maxRecDepth 100000 in
set_option maxHeartbeats 4000000 in
theorem B_stars_eq (v0 : Nat) (v1 : Int32) (v2 : Int32) (h : ax_H) : B_stars v0 v1 v2 h =
  (if (gS h v0).1 = 0 then if (gS h (gR h v0 0)).1 = 1 then if (gS h (gR h (gR h v0 0) 1)).1 = 2 then (St_has (gR h (gR h v0 0) 1) v1 h).bind (fun r1 => if decide (¬ r1.1 = 0) then
    (if v2 = 0 then
      (if (gS r1.2 v0).1 = 0 then if (gS r1.2 (gR r1.2 v0 0)).1 = 1 then if (gS r1.2 (gR r1.2 (gR r1.2 v0 0) 1)).1 = 2 then if ax_in r1.2 (gR r1.2 (gR r1.2 (gR r1.2 v0 0) 1) 1) 16 v1 then some ((gI r1.2 (gR r1.2 (gR r1.2 (gR r1.2 v0 0) 1) 1) (Int32.toNatClampNeg v1)), r1.2) else none else none else none else none)
    else if v2 = 1 then
      (if (gS r1.2 v0).1 = 0 then if (gS r1.2 (gR r1.2 v0 0)).1 = 1 then if (gS r1.2 (gR r1.2 (gR r1.2 v0 0) 1)).1 = 2 then if ax_in r1.2 (gR r1.2 (gR r1.2 (gR r1.2 v0 0) 1) 2) 16 v1 then some ((gI r1.2 (gR r1.2 (gR r1.2 (gR r1.2 v0 0) 1) 2) (Int32.toNatClampNeg v1)), r1.2) else none else none else none else none)
    else if v2 = 2 then
      (if (gS r1.2 v0).1 = 0 then if (gS r1.2 (gR r1.2 v0 0)).1 = 1 then if (gS r1.2 (gR r1.2 (gR r1.2 v0 0) 1)).1 = 2 then if ax_in r1.2 (gR r1.2 (gR r1.2 (gR r1.2 v0 0) 1) 3) 16 v1 then some ((gI r1.2 (gR r1.2 (gR r1.2 (gR r1.2 v0 0) 1) 3) (Int32.toNatClampNeg v1)), r1.2) else none else none else none else none)
    else if v2 = 3 then
      (if (gS r1.2 v0).1 = 0 then if (gS r1.2 (gR r1.2 v0 0)).1 = 1 then if (gS r1.2 (gR r1.2 (gR r1.2 v0 0) 1)).1 = 2 then (St_far (gR r1.2 (gR r1.2 v0 0) 1) v1 r1.2).bind (fun r2 => some (r2.1, r2.2) ) else none else none else none)
    else 
      (some ((-1000), r1.2) ) )
  else
    (some ((-1000), r1.2) ) ) else none else none else none) :=
  (ax_entI (N := 16) (C := r_16) (by decide) rfl (Nat.le_of_ble_eq_true rfl)).trans rfl
/-- 17 BlackSun.isIsland(I)Z -/
noncomputable def B_isIsland (v0 : Int32) (h : ax_H) : Option (Int32 × ax_H) := (ax_EE 17).2.1 [.int v0] h
set_option maxRecDepth 100000 in
set_option maxHeartbeats 4000000 in
theorem B_isIsland_eq (v0 : Int32) (h : ax_H) : B_isIsland v0 h =
  ((B_isWithin v0 0 3 h).bind (fun r1 => if r1.1 = 0 ∨ r1.1 = 1 then some (r1.1, r1.2) else none )) :=
  (ax_entI (N := 17) (C := r_17) (by decide) rfl (Nat.le_of_ble_eq_true rfl)).trans rfl
/-- 18 BlackSun$Plates.put(III)I -/
noncomputable def Pl_put (v0 : Nat) (v1 : Int32) (v2 : Int32) (v3 : Int32) (h : ax_H) : Option (Int32 × ax_H) := (ax_EE 18).2.1 [.ref v0, .int v1, .int v2, .int v3] h
set_option maxRecDepth 100000 in
set_option maxHeartbeats 4000000 in
theorem Pl_put_eq (v0 : Nat) (v1 : Int32) (v2 : Int32) (v3 : Int32) (h : ax_H) : Pl_put v0 v1 v2 v3 h =
  (if (gS h v0).1 = 3 then if decide ((gI h v0 0) < 16) then
    (if (gS h v0).1 = 3 then if (gS h v0).1 = 3 then if ax_in h (gR h v0 1) 16 (gI h v0 0) then let h1 := pI h (gR h v0 1) (Int32.toNatClampNeg (gI h v0 0)) v1; if (gS h1 v0).1 = 3 then if (gS h1 v0).1 = 3 then if ax_in h1 (gR h1 v0 2) 16 (gI h1 v0 0) then let h2 := pI h1 (gR h1 v0 2) (Int32.toNatClampNeg (gI h1 v0 0)) v2; if (gS h2 v0).1 = 3 then if (gS h2 v0).1 = 3 then if ax_in h2 (gR h2 v0 3) 16 (gI h2 v0 0) then let h3 := pI h2 (gR h2 v0 3) (Int32.toNatClampNeg (gI h2 v0 0)) v3; if (gS h3 v0).1 = 3 then if (gS h3 v0).1 = 3 then let h4 := pI h3 v0 0 ((gI h3 v0 0) + 1); if (gS h4 v0).1 = 3 then some (((gI h4 v0 0) - 1), h4) else none else none else none else none else none else none else none else none else none else none else none else none)
  else
    (some ((-1), h) ) else none) :=
  (ax_entI (N := 18) (C := r_18) (by decide) rfl (Nat.le_of_ble_eq_true rfl)).trans rfl
/-- 19 BlackSun.plate(III)I -/
noncomputable def B_plate (v0 : Nat) (v1 : Int32) (v2 : Int32) (v3 : Int32) (h : ax_H) : Option (Int32 × ax_H) := (ax_EE 19).2.1 [.ref v0, .int v1, .int v2, .int v3] h
set_option maxRecDepth 100000 in
set_option maxHeartbeats 4000000 in
theorem B_plate_eq (v0 : Nat) (v1 : Int32) (v2 : Int32) (v3 : Int32) (h : ax_H) : B_plate v0 v1 v2 v3 h =
  ((B_isIsland v1 h).bind (fun r1 => if decide (r1.1 = 0) then
    (some ((-1), r1.2) )
  else
    ((B_isWithin v2 0 2 r1.2).bind (fun r2 => if decide (r2.1 = 0) then
      (some ((-1), r2.2) )
    else
      ((B_isWithin v3 0 99 r2.2).bind (fun r3 => if decide (¬ r3.1 = 0) then
        (if (gS r3.2 v0).1 = 0 then if (gS r3.2 (gR r3.2 v0 0)).1 = 1 then if (gS r3.2 (gR r3.2 (gR r3.2 v0 0) 2)).1 = 3 then (Pl_put (gR r3.2 (gR r3.2 v0 0) 2) v1 v2 v3 r3.2).bind (fun r4 => some (r4.1, r4.2) ) else none else none else none)
      else
        (some ((-1), r3.2) ) )) )) )) :=
  (ax_entI (N := 19) (C := r_19) (by decide) rfl (Nat.le_of_ble_eq_true rfl)).trans rfl
/-- 20 BlackSun$Plates.has(I)Z -/
noncomputable def Pl_has (v0 : Nat) (v1 : Int32) (h : ax_H) : Option (Int32 × ax_H) := (ax_EE 20).2.1 [.ref v0, .int v1] h
set_option maxRecDepth 100000 in
set_option maxHeartbeats 4000000 in
theorem Pl_has_eq (v0 : Nat) (v1 : Int32) (h : ax_H) : Pl_has v0 v1 h =
  (if (gS h v0).1 = 3 then (B_isWithin v1 0 ((gI h v0 0) - 1) h).bind (fun r1 => if r1.1 = 0 ∨ r1.1 = 1 then some (r1.1, r1.2) else none ) else none) :=
  (ax_entI (N := 20) (C := r_20) (by decide) rfl (Nat.le_of_ble_eq_true rfl)).trans rfl
/-- 21 BlackSun.isHand(I)Z -/
noncomputable def B_isHand (v0 : Int32) (h : ax_H) : Option (Int32 × ax_H) := (ax_EE 21).2.1 [.int v0] h
set_option maxRecDepth 100000 in
set_option maxHeartbeats 4000000 in
theorem B_isHand_eq (v0 : Int32) (h : ax_H) : B_isHand v0 h =
  ((B_isWithin v0 0 7 h).bind (fun r1 => if r1.1 = 0 ∨ r1.1 = 1 then some (r1.1, r1.2) else none )) :=
  (ax_entI (N := 21) (C := r_21) (by decide) rfl (Nat.le_of_ble_eq_true rfl)).trans rfl
/-- 22 BlackSun$Images.isKnown(II)Z -/
noncomputable def Im_isKnown (v0 : Nat) (v1 : Int32) (v2 : Int32) (h : ax_H) : Option (Int32 × ax_H) := (ax_EE 22).2.1 [.ref v0, .int v1, .int v2] h
set_option maxRecDepth 100000 in
set_option maxHeartbeats 4000000 in
theorem Im_isKnown_eq (v0 : Nat) (v1 : Int32) (v2 : Int32) (h : ax_H) : Im_isKnown v0 v1 v2 h =
  (if (gS h v0).1 = 4 then if ax_in h (gR h v0 6) 16 v1 then if decide (v2 < (gI h (gR h v0 6) (Int32.toNatClampNeg v1))) then
    (some (0, h) )
  else
    (if (gS h v0).1 = 4 then if ax_in h (gR h v0 7) 16 v1 then if decide ((gI h (gR h v0 7) (Int32.toNatClampNeg v1)) ≤ v2) then
      (some (0, h) )
    else
      (some (1, h) ) else none else none) else none else none) :=
  (ax_entI (N := 22) (C := r_22) (by decide) rfl (Nat.le_of_ble_eq_true rfl)).trans rfl
/-- 23 BlackSun$Images.find(IIII)I -/
noncomputable def Im_find (v0 : Nat) (v1 : Int32) (v2 : Int32) (v3 : Int32) (v4 : Int32) (h : ax_H) : Option (Int32 × ax_H) := (ax_EE 23).2.1 [.ref v0, .int v1, .int v2, .int v3, .int v4] h
noncomputable def Im_find_3  (v0 : Nat) (v1 : Int32) (v2 : Int32) (v3 : Int32) (v4 : Int32) (v5 : Int32) (h : ax_H) : Option (Int32 × ax_H) := ax_S ax_ρI (ax_env ax_EE 23) ax_nn r_23 r_23_3 [(0, .ref v0), (1, .int v1), (2, .int v2), (3, .int v3), (4, .int v4), (5, .int v5)] [] h
set_option maxRecDepth 100000 in
set_option maxHeartbeats 4000000 in
theorem Im_find_eq (v0 : Nat) (v1 : Int32) (v2 : Int32) (v3 : Int32) (v4 : Int32) (h : ax_H) : Im_find v0 v1 v2 v3 v4 h =
  (Im_find_3 v0 v1 v2 v3 v4 0 h ) :=
  (ax_entI (N := 23) (C := r_23) (by decide) rfl (Nat.le_of_ble_eq_true rfl)).trans rfl
set_option maxRecDepth 100000 in
set_option maxHeartbeats 4000000 in
theorem Im_find_3_eq  (v0 : Nat) (v1 : Int32) (v2 : Int32) (v3 : Int32) (v4 : Int32) (v5 : Int32) (h : ax_H) : Im_find_3  v0 v1 v2 v3 v4 v5 h =
  (if (gS h v0).1 = 4 then if decide ((gI h v0 0) ≤ v5) then
    (some ((-1), h) )
  else
    (if (gS h v0).1 = 4 then if ax_in h (gR h v0 1) 16 v5 then if decide (¬ (gI h (gR h v0 1) (Int32.toNatClampNeg v5)) = v1) then
      (Im_find_3 v0 v1 v2 v3 v4 (v5 + 1) h )
    else
      (if (gS h v0).1 = 4 then if ax_in h (gR h v0 2) 16 v5 then if decide (¬ (gI h (gR h v0 2) (Int32.toNatClampNeg v5)) = v2) then
        (Im_find_3 v0 v1 v2 v3 v4 (v5 + 1) h )
      else
        (if (gS h v0).1 = 4 then if ax_in h (gR h v0 3) 16 v5 then if decide (¬ (gI h (gR h v0 3) (Int32.toNatClampNeg v5)) = v3) then
          (Im_find_3 v0 v1 v2 v3 v4 (v5 + 1) h )
        else
          (if (gS h v0).1 = 4 then (Im_isKnown v0 v5 v4 h).bind (fun r1 => if decide (r1.1 = 0) then
            (Im_find_3 v0 v1 v2 v3 v4 (v5 + 1) r1.2 )
          else
            (some (v5, r1.2) ) ) else none) else none else none) else none else none) else none else none) else none) :=
  (ax_S_eq _ _ _ _).trans rfl
/-- 24 BlackSun$Images.put(IIIIII)I -/
noncomputable def Im_put (v0 : Nat) (v1 : Int32) (v2 : Int32) (v3 : Int32) (v4 : Int32) (v5 : Int32) (v6 : Int32) (h : ax_H) : Option (Int32 × ax_H) := (ax_EE 24).2.1 [.ref v0, .int v1, .int v2, .int v3, .int v4, .int v5, .int v6] h
noncomputable def Im_put_37  (v0 : Nat) (v1 : Int32) (v2 : Int32) (v3 : Int32) (v4 : Int32) (v5 : Int32) (v6 : Int32) (h : ax_H) : Option (Int32 × ax_H) := ax_S ax_ρI (ax_env ax_EE 24) ax_nn r_24 r_24_37 [(0, .ref v0), (1, .int v1), (2, .int v2), (3, .int v3), (4, .int v4), (5, .int v5), (6, .int v6)] [] h
set_option maxRecDepth 100000 in
set_option maxHeartbeats 4000000 in
theorem Im_put_eq (v0 : Nat) (v1 : Int32) (v2 : Int32) (v3 : Int32) (v4 : Int32) (v5 : Int32) (v6 : Int32) (h : ax_H) : Im_put v0 v1 v2 v3 v4 v5 v6 h =
  (if (gS h v0).1 = 4 then if decide ((gI h v0 0) < 100) then
    (if (gS h v0).1 = 4 then (Im_find v0 v1 v2 v3 v6 h).bind (fun r1 => if decide (r1.1 = (-1)) then
      (Im_put_37 v0 v1 v2 v3 v4 v5 v6 r1.2 )
    else
      (if (gS r1.2 v0).1 = 4 then if ax_in r1.2 (gR r1.2 v0 7) 16 r1.1 then let h2 := pI r1.2 (gR r1.2 v0 7) (Int32.toNatClampNeg r1.1) v6; Im_put_37 v0 v1 v2 v3 v4 v5 v6 h2 else none else none) ) else none)
  else
    (some ((-1), h) ) else none) :=
  (ax_entI (N := 24) (C := r_24) (by decide) rfl (Nat.le_of_ble_eq_true rfl)).trans rfl
set_option maxRecDepth 100000 in
set_option maxHeartbeats 4000000 in
theorem Im_put_37_eq  (v0 : Nat) (v1 : Int32) (v2 : Int32) (v3 : Int32) (v4 : Int32) (v5 : Int32) (v6 : Int32) (h : ax_H) : Im_put_37  v0 v1 v2 v3 v4 v5 v6 h =
  (if (gS h v0).1 = 4 then if (gS h v0).1 = 4 then if ax_in h (gR h v0 1) 16 (gI h v0 0) then let h1 := pI h (gR h v0 1) (Int32.toNatClampNeg (gI h v0 0)) v1; if (gS h1 v0).1 = 4 then if (gS h1 v0).1 = 4 then if ax_in h1 (gR h1 v0 2) 16 (gI h1 v0 0) then let h2 := pI h1 (gR h1 v0 2) (Int32.toNatClampNeg (gI h1 v0 0)) v2; if (gS h2 v0).1 = 4 then if (gS h2 v0).1 = 4 then if ax_in h2 (gR h2 v0 3) 16 (gI h2 v0 0) then let h3 := pI h2 (gR h2 v0 3) (Int32.toNatClampNeg (gI h2 v0 0)) v3; if (gS h3 v0).1 = 4 then if (gS h3 v0).1 = 4 then if ax_in h3 (gR h3 v0 4) 16 (gI h3 v0 0) then let h4 := pI h3 (gR h3 v0 4) (Int32.toNatClampNeg (gI h3 v0 0)) v4; if (gS h4 v0).1 = 4 then if (gS h4 v0).1 = 4 then if ax_in h4 (gR h4 v0 5) 16 (gI h4 v0 0) then let h5 := pI h4 (gR h4 v0 5) (Int32.toNatClampNeg (gI h4 v0 0)) v5; if (gS h5 v0).1 = 4 then if (gS h5 v0).1 = 4 then if ax_in h5 (gR h5 v0 6) 16 (gI h5 v0 0) then let h6 := pI h5 (gR h5 v0 6) (Int32.toNatClampNeg (gI h5 v0 0)) v6; if (gS h6 v0).1 = 4 then if (gS h6 v0).1 = 4 then if ax_in h6 (gR h6 v0 7) 16 (gI h6 v0 0) then let h7 := pI h6 (gR h6 v0 7) (Int32.toNatClampNeg (gI h6 v0 0)) 10000; if (gS h7 v0).1 = 4 then if (gS h7 v0).1 = 4 then let h8 := pI h7 v0 0 ((gI h7 v0 0) + 1); if (gS h8 v0).1 = 4 then some (((gI h8 v0 0) - 1), h8) else none else none else none else none else none else none else none else none else none else none else none else none else none else none else none else none else none else none else none else none else none else none else none else none) :=
  (ax_S_eq _ _ _ _).trans rfl
/-- 25 BlackSun.image(IIIII)I -/
noncomputable def B_image (v0 : Nat) (v1 : Int32) (v2 : Int32) (v3 : Int32) (v4 : Int32) (v5 : Int32) (h : ax_H) : Option (Int32 × ax_H) := (ax_EE 25).2.1 [.ref v0, .int v1, .int v2, .int v3, .int v4, .int v5] h
set_option maxRecDepth 100000 in
set_option maxHeartbeats 4000000 in
theorem B_image_eq (v0 : Nat) (v1 : Int32) (v2 : Int32) (v3 : Int32) (v4 : Int32) (v5 : Int32) (h : ax_H) : B_image v0 v1 v2 v3 v4 v5 h =
  (if (gS h v0).1 = 0 then if (gS h (gR h v0 0)).1 = 1 then if (gS h (gR h (gR h v0 0) 2)).1 = 3 then (Pl_has (gR h (gR h v0 0) 2) v1 h).bind (fun r1 => if decide (r1.1 = 0) then
    (some ((-1), r1.2) )
  else
    (if (gS r1.2 v0).1 = 0 then if (gS r1.2 (gR r1.2 v0 0)).1 = 1 then if (gS r1.2 (gR r1.2 (gR r1.2 v0 0) 1)).1 = 2 then (St_has (gR r1.2 (gR r1.2 v0 0) 1) v2 r1.2).bind (fun r2 => if decide (r2.1 = 0) then
      (some ((-1), r2.2) )
    else
      ((B_isHand v3 r2.2).bind (fun r3 => if decide (¬ r3.1 = 0) then
        ((B_isWithin v4 (-299) 299 r3.2).bind (fun r4 => if decide (r4.1 = 0) then
          (some ((-1), r4.2) )
        else
          ((B_isWithin v5 (-299) 299 r4.2).bind (fun r5 => if decide (¬ r5.1 = 0) then
            (if (gS r5.2 v0).1 = 0 then if (gS r5.2 (gR r5.2 v0 0)).1 = 1 then if (gS r5.2 v0).1 = 0 then if (gS r5.2 (gR r5.2 v0 0)).1 = 1 then if (gS r5.2 (gR r5.2 (gR r5.2 v0 0) 3)).1 = 4 then (Im_put (gR r5.2 (gR r5.2 v0 0) 3) v1 v2 v3 v4 v5 (gI r5.2 (gR r5.2 v0 0) 0) r5.2).bind (fun r6 => some (r6.1, r6.2) ) else none else none else none else none else none)
          else
            (some ((-1), r5.2) ) )) ))
      else
        (some ((-1), r3.2) ) )) ) else none else none else none) ) else none else none else none) :=
  (ax_entI (N := 25) (C := r_25) (by decide) rfl (Nat.le_of_ble_eq_true rfl)).trans rfl
/-- 26 BlackSun.isWeek(I)Z -/
noncomputable def B_isWeek (v0 : Int32) (h : ax_H) : Option (Int32 × ax_H) := (ax_EE 26).2.1 [.int v0] h
set_option maxRecDepth 100000 in
set_option maxHeartbeats 4000000 in
theorem B_isWeek_eq (v0 : Int32) (h : ax_H) : B_isWeek v0 h =
  ((B_isWithin v0 0 9999 h).bind (fun r1 => if r1.1 = 0 ∨ r1.1 = 1 then some (r1.1, r1.2) else none )) :=
  (ax_entI (N := 26) (C := r_26) (by decide) rfl (Nat.le_of_ble_eq_true rfl)).trans rfl
/-- 27 BlackSun.isChoice(I)Z -/
noncomputable def B_isChoice (v0 : Int32) (h : ax_H) : Option (Int32 × ax_H) := (ax_EE 27).2.1 [.int v0] h
set_option maxRecDepth 100000 in
set_option maxHeartbeats 4000000 in
theorem B_isChoice_eq (v0 : Int32) (h : ax_H) : B_isChoice v0 h =
  (if decide (v0 = 0) then
    (some (1, h) )
  else
    (if decide (¬ v0 = 1) then
      (some (0, h) )
    else
      (some (1, h) ) ) ) :=
  (ax_entI (N := 27) (C := r_27) (by decide) rfl (Nat.le_of_ble_eq_true rfl)).trans rfl
/-- 28 BlackSun$Images.measured(II)I -/
noncomputable def Im_measured (v0 : Nat) (v1 : Int32) (v2 : Int32) (h : ax_H) : Option (Int32 × ax_H) := (ax_EE 28).2.1 [.ref v0, .int v1, .int v2] h
set_option maxRecDepth 100000 in
set_option maxHeartbeats 4000000 in
theorem Im_measured_eq (v0 : Nat) (v1 : Int32) (v2 : Int32) (h : ax_H) : Im_measured v0 v1 v2 h =
  (if decide (¬ v2 = 0) then
    (if (gS h v0).1 = 4 then if ax_in h (gR h v0 5) 16 v1 then some ((gI h (gR h v0 5) (Int32.toNatClampNeg v1)), h) else none else none)
  else
    (if (gS h v0).1 = 4 then if ax_in h (gR h v0 4) 16 v1 then some ((gI h (gR h v0 4) (Int32.toNatClampNeg v1)), h) else none else none) ) :=
  (ax_entI (N := 28) (C := r_28) (by decide) rfl (Nat.le_of_ble_eq_true rfl)).trans rfl
/-- 29 BlackSun.images(IIIII)I -/
noncomputable def B_images (v0 : Nat) (v1 : Int32) (v2 : Int32) (v3 : Int32) (v4 : Int32) (v5 : Int32) (h : ax_H) : Option (Int32 × ax_H) := (ax_EE 29).2.1 [.ref v0, .int v1, .int v2, .int v3, .int v4, .int v5] h
set_option maxRecDepth 100000 in
set_option maxHeartbeats 4000000 in
theorem B_images_eq (v0 : Nat) (v1 : Int32) (v2 : Int32) (v3 : Int32) (v4 : Int32) (v5 : Int32) (h : ax_H) : B_images v0 v1 v2 v3 v4 v5 h =
  ((B_isWeek v4 h).bind (fun r1 => if decide (r1.1 = 0) then
    (some ((-1000), r1.2) )
  else
    ((B_isChoice v5 r1.2).bind (fun r2 => if decide (¬ r2.1 = 0) then
      (if (gS r2.2 v0).1 = 0 then if (gS r2.2 (gR r2.2 v0 0)).1 = 1 then if (gS r2.2 (gR r2.2 (gR r2.2 v0 0) 3)).1 = 4 then (Im_find (gR r2.2 (gR r2.2 v0 0) 3) v1 v2 v3 v4 r2.2).bind (fun r3 => if decide (¬ r3.1 = (-1)) then
        (if (gS r3.2 v0).1 = 0 then if (gS r3.2 (gR r3.2 v0 0)).1 = 1 then if (gS r3.2 (gR r3.2 (gR r3.2 v0 0) 3)).1 = 4 then (Im_measured (gR r3.2 (gR r3.2 v0 0) 3) r3.1 v5 r3.2).bind (fun r4 => some (r4.1, r4.2) ) else none else none else none)
      else
        (some ((-1000), r3.2) ) ) else none else none else none)
    else
      (some ((-1000), r2.2) ) )) )) :=
  (ax_entI (N := 29) (C := r_29) (by decide) rfl (Nat.le_of_ble_eq_true rfl)).trans rfl
/-- 30 BlackSun.isTerm(I)Z -/
noncomputable def B_isTerm (v0 : Int32) (h : ax_H) : Option (Int32 × ax_H) := (ax_EE 30).2.1 [.int v0] h
set_option maxRecDepth 100000 in
set_option maxHeartbeats 4000000 in
theorem B_isTerm_eq (v0 : Int32) (h : ax_H) : B_isTerm v0 h =
  ((B_isWithin v0 0 5 h).bind (fun r1 => if r1.1 = 0 ∨ r1.1 = 1 then some (r1.1, r1.2) else none )) :=
  (ax_entI (N := 30) (C := r_30) (by decide) rfl (Nat.le_of_ble_eq_true rfl)).trans rfl
/-- 31 BlackSun$Stars.give(III)I -/
noncomputable def St_give (v0 : Nat) (v1 : Int32) (v2 : Int32) (v3 : Int32) (h : ax_H) : Option (Int32 × ax_H) := (ax_EE 31).2.1 [.ref v0, .int v1, .int v2, .int v3] h
noncomputable def St_give_19 (k0 : Int32) (v0 : Nat) (v1 : Int32) (v2 : Int32) (v3 : Int32) (h : ax_H) : Option (Int32 × ax_H) := ax_S ax_ρI (ax_env ax_EE 31) ax_nn r_31 r_31_19 [(0, .ref v0), (1, .int v1), (2, .int v2), (3, .int v3)] [.int k0] h
set_option maxRecDepth 100000 in
set_option maxHeartbeats 4000000 in
theorem St_give_eq (v0 : Nat) (v1 : Int32) (v2 : Int32) (v3 : Int32) (h : ax_H) : St_give v0 v1 v2 v3 h =
  (if decide (¬ v3 = 0) then
    (if (gS h v0).1 = 2 then if ax_in h (gR h v0 2) 16 v2 then St_give_19 (gI h (gR h v0 2) (Int32.toNatClampNeg v2)) v0 v1 v2 v3 h else none else none)
  else
    (if (gS h v0).1 = 2 then if ax_in h (gR h v0 1) 16 v2 then St_give_19 (gI h (gR h v0 1) (Int32.toNatClampNeg v2)) v0 v1 v2 v3 h else none else none) ) :=
  (ax_entI (N := 31) (C := r_31) (by decide) rfl (Nat.le_of_ble_eq_true rfl)).trans rfl
set_option maxRecDepth 100000 in
set_option maxHeartbeats 4000000 in
theorem St_give_19_eq (k0 : Int32) (v0 : Nat) (v1 : Int32) (v2 : Int32) (v3 : Int32) (h : ax_H) : St_give_19 k0 v0 v1 v2 v3 h =
  (if v1 = 0 then
    (if decide (¬ v3 = 0) then
      (some (0, h) )
    else
      (some (1, h) ) )
  else if v1 = 1 then
    (if decide (¬ v3 = 0) then
      (some (1, h) )
    else
      (some (0, h) ) )
  else if v1 = 2 then
    (some (k0, h) )
  else if v1 = 3 then
    (if decide (¬ v3 = 0) then
      (if (gS h v0).1 = 2 then if ax_in h (gR h v0 1) 16 v2 then some ((gI h (gR h v0 1) (Int32.toNatClampNeg v2)), h) else none else none)
    else
      (if (gS h v0).1 = 2 then if ax_in h (gR h v0 2) 16 v2 then some ((-(gI h (gR h v0 2) (Int32.toNatClampNeg v2))), h) else none else none) )
  else if v1 = 4 then
    (if (gS h v0).1 = 2 then if ax_in h (gR h v0 1) 16 v2 then if (gS h v0).1 = 2 then if ax_in h (gR h v0 1) 16 v2 then if (gS h v0).1 = 2 then if ax_in h (gR h v0 2) 16 v2 then if (gS h v0).1 = 2 then if ax_in h (gR h v0 2) 16 v2 then let x1 := (((gI h (gR h v0 1) (Int32.toNatClampNeg v2)) * (gI h (gR h v0 1) (Int32.toNatClampNeg v2))) + ((gI h (gR h v0 2) (Int32.toNatClampNeg v2)) * (gI h (gR h v0 2) (Int32.toNatClampNeg v2)))); if decide (¬ x1 = 0) then
      (if x1 = 0 then none else some ((((40 : Int32) * k0) / x1), h) )
    else
      (some (0, h) ) else none else none else none else none else none else none else none else none)
  else if v1 = 5 then
    (if decide (¬ v3 = 0) then
      (some (0, h) )
    else
      (if (gS h v0).1 = 2 then if ax_in h (gR h v0 1) 16 v2 then if (gS h v0).1 = 2 then if ax_in h (gR h v0 2) 16 v2 then some (((gI h (gR h v0 1) (Int32.toNatClampNeg v2)) * (gI h (gR h v0 2) (Int32.toNatClampNeg v2))), h) else none else none else none else none) )
  else 
    (some (0, h) ) ) :=
  (ax_S_eq _ _ _ _).trans rfl
/-- 32 BlackSun.gives(III)I -/
noncomputable def B_gives (v0 : Nat) (v1 : Int32) (v2 : Int32) (v3 : Int32) (h : ax_H) : Option (Int32 × ax_H) := (ax_EE 32).2.1 [.ref v0, .int v1, .int v2, .int v3] h
set_option maxRecDepth 100000 in
set_option maxHeartbeats 4000000 in
theorem B_gives_eq (v0 : Nat) (v1 : Int32) (v2 : Int32) (v3 : Int32) (h : ax_H) : B_gives v0 v1 v2 v3 h =
  ((B_isTerm v1 h).bind (fun r1 => if decide (r1.1 = 0) then
    (some ((-1000), r1.2) )
  else
    (if (gS r1.2 v0).1 = 0 then if (gS r1.2 (gR r1.2 v0 0)).1 = 1 then if (gS r1.2 (gR r1.2 (gR r1.2 v0 0) 1)).1 = 2 then (St_has (gR r1.2 (gR r1.2 v0 0) 1) v2 r1.2).bind (fun r2 => if decide (r2.1 = 0) then
      (some ((-1000), r2.2) )
    else
      ((B_isChoice v3 r2.2).bind (fun r3 => if decide (¬ r3.1 = 0) then
        (if (gS r3.2 v0).1 = 0 then if (gS r3.2 (gR r3.2 v0 0)).1 = 1 then if (gS r3.2 (gR r3.2 (gR r3.2 v0 0) 1)).1 = 2 then (St_give (gR r3.2 (gR r3.2 v0 0) 1) v1 v2 v3 r3.2).bind (fun r4 => some (r4.1, r4.2) ) else none else none else none)
      else
        (some ((-1000), r3.2) ) )) ) else none else none else none) )) :=
  (ax_entI (N := 32) (C := r_32) (by decide) rfl (Nat.le_of_ble_eq_true rfl)).trans rfl
/-- 33 BlackSun$Reader.append(I)V -/
noncomputable def Rd_append (v0 : Nat) (v1 : Int32) (h : ax_H) : Option (ax_H) := (ax_EE 33).1 [.ref v0, .int v1] h
noncomputable def Rd_append_3  (v0 : Nat) (v1 : Int32) (v2 : Int32) (h : ax_H) : Option (ax_H) := ax_S ax_ρV (ax_env ax_EE 33) ax_nn r_33 r_33_3 [(0, .ref v0), (1, .int v1), (2, .int v2)] [] h
set_option maxRecDepth 100000 in
set_option maxHeartbeats 4000000 in
theorem Rd_append_eq (v0 : Nat) (v1 : Int32) (h : ax_H) : Rd_append v0 v1 h =
  (Rd_append_3 v0 v1 24 h ) :=
  (ax_entV (N := 33) (C := r_33) (by decide) rfl (Nat.le_of_ble_eq_true rfl)).trans rfl
set_option maxRecDepth 100000 in
set_option maxHeartbeats 4000000 in
theorem Rd_append_3_eq  (v0 : Nat) (v1 : Int32) (v2 : Int32) (h : ax_H) : Rd_append_3  v0 v1 v2 h =
  (if decide (v2 < 0) then
    (some h )
  else
    (if (gS h v0).1 = 6 then if decide ((400 : Int32) ≤ (gI h v0 0)) then
      (some h )
    else
      (if (gS h v0).1 = 6 then if (gS h v0).1 = 6 then if ax_in h (gR h v0 2) 16 (gI h v0 0) then let h1 := pI h (gR h v0 2) (Int32.toNatClampNeg (gI h v0 0)) ((v1 >>> (v2 &&& 31)) &&& 255); if (gS h1 v0).1 = 6 then if (gS h1 v0).1 = 6 then let h2 := pI h1 v0 0 ((gI h1 v0 0) + 1); Rd_append_3 v0 v1 (v2 + (-8)) h2 else none else none else none else none else none) else none) ) :=
  (ax_S_eq _ _ _ _).trans rfl
/-- 34 BlackSun.feed(IIIII)I -/
noncomputable def B_feed (v0 : Nat) (v1 : Int32) (v2 : Int32) (v3 : Int32) (v4 : Int32) (v5 : Int32) (h : ax_H) : Option (Int32 × ax_H) := (ax_EE 34).2.1 [.ref v0, .int v1, .int v2, .int v3, .int v4, .int v5] h
set_option maxRecDepth 100000 in
set_option maxHeartbeats 4000000 in
theorem B_feed_eq (v0 : Nat) (v1 : Int32) (v2 : Int32) (v3 : Int32) (v4 : Int32) (v5 : Int32) (h : ax_H) : B_feed v0 v1 v2 v3 v4 v5 h =
  (if (gS h v0).1 = 0 then if (gS h (gR h v0 2)).1 = 6 then if decide (((gI h (gR h v0 2) 0) + 20) ≤ 400) then
    (if (gS h v0).1 = 0 then if (gS h (gR h v0 2)).1 = 6 then (Rd_append (gR h v0 2) v1 h).bind (fun h1 => if (gS h1 v0).1 = 0 then if (gS h1 (gR h1 v0 2)).1 = 6 then (Rd_append (gR h1 v0 2) v2 h1).bind (fun h2 => if (gS h2 v0).1 = 0 then if (gS h2 (gR h2 v0 2)).1 = 6 then (Rd_append (gR h2 v0 2) v3 h2).bind (fun h3 => if (gS h3 v0).1 = 0 then if (gS h3 (gR h3 v0 2)).1 = 6 then (Rd_append (gR h3 v0 2) v4 h3).bind (fun h4 => if (gS h4 v0).1 = 0 then if (gS h4 (gR h4 v0 2)).1 = 6 then (Rd_append (gR h4 v0 2) v5 h4).bind (fun h5 => if (gS h5 v0).1 = 0 then if (gS h5 (gR h5 v0 2)).1 = 6 then some ((gI h5 (gR h5 v0 2) 0), h5) else none else none ) else none else none ) else none else none ) else none else none ) else none else none ) else none else none)
  else
    (some ((-1), h) ) else none else none) :=
  (ax_entI (N := 34) (C := r_34) (by decide) rfl (Nat.le_of_ble_eq_true rfl)).trans rfl
/-- 35 BlackSun.end(I)I -/
noncomputable def B_end (v0 : Nat) (v1 : Int32) (h : ax_H) : Option (Int32 × ax_H) := (ax_EE 35).2.1 [.ref v0, .int v1] h
set_option maxRecDepth 100000 in
set_option maxHeartbeats 4000000 in
theorem B_end_eq (v0 : Nat) (v1 : Int32) (h : ax_H) : B_end v0 v1 h =
  (if (gS h v0).1 = 0 then if (gS h (gR h v0 2)).1 = 6 then (B_isWithin v1 0 (gI h (gR h v0 2) 0) h).bind (fun r1 => if decide (¬ r1.1 = 0) then
    (if (gS r1.2 v0).1 = 0 then if (gS r1.2 (gR r1.2 v0 2)).1 = 6 then let h2 := pI r1.2 (gR r1.2 v0 2) 0 v1; some (v1, h2) else none else none)
  else
    (some ((-1), r1.2) ) ) else none else none) :=
  (ax_entI (N := 35) (C := r_35) (by decide) rfl (Nat.le_of_ble_eq_true rfl)).trans rfl
/-- 36 BlackSun$Reader.forget()V -/
noncomputable def Rd_forget (v0 : Nat) (h : ax_H) : Option (ax_H) := (ax_EE 36).1 [.ref v0] h
noncomputable def Rd_forget_32  (v0 : Nat) (v1 : Int32) (h : ax_H) : Option (ax_H) := ax_S ax_ρV (ax_env ax_EE 36) ax_nn r_36 r_36_32 [(0, .ref v0), (1, .int v1)] [] h
set_option maxRecDepth 100000 in
set_option maxHeartbeats 4000000 in
theorem Rd_forget_eq (v0 : Nat) (h : ax_H) : Rd_forget v0 h =
  (if (gS h v0).1 = 6 then let h1 := pI h v0 1 0; if (gS h1 v0).1 = 6 then let h2 := pI h1 v0 3 0; if (gS h2 v0).1 = 6 then let h3 := pI h2 v0 4 0; if (gS h3 v0).1 = 6 then let h4 := pI h3 v0 5 0; if (gS h4 v0).1 = 6 then let h5 := pI h4 v0 6 (-1); if (gS h5 v0).1 = 6 then let h6 := pI h5 v0 11 0; Rd_forget_32 v0 0 h6 else none else none else none else none else none else none) :=
  (ax_entV (N := 36) (C := r_36) (by decide) rfl (Nat.le_of_ble_eq_true rfl)).trans rfl
set_option maxRecDepth 100000 in
set_option maxHeartbeats 4000000 in
theorem Rd_forget_32_eq  (v0 : Nat) (v1 : Int32) (h : ax_H) : Rd_forget_32  v0 v1 h =
  (if decide ((6 : Int32) ≤ v1) then
    (some h )
  else
    (if (gS h v0).1 = 6 then if ax_in h (gR h v0 13) 16 v1 then let h1 := pI h (gR h v0 13) (Int32.toNatClampNeg v1) 0; if (gS h1 v0).1 = 6 then if ax_in h1 (gR h1 v0 14) 16 v1 then let h2 := pI h1 (gR h1 v0 14) (Int32.toNatClampNeg v1) 0; Rd_forget_32 v0 (v1 + 1) h2 else none else none else none else none) ) :=
  (ax_S_eq _ _ _ _).trans rfl
/-- 37 BlackSun$Reader.next()I -/
noncomputable def Rd_next (v0 : Nat) (h : ax_H) : Option (Int32 × ax_H) := (ax_EE 37).2.1 [.ref v0] h
noncomputable def Rd_next_0  (v0 : Nat) (h : ax_H) : Option (Int32 × ax_H) := ax_S ax_ρI (ax_env ax_EE 37) ax_nn r_37 r_37_0 [(0, .ref v0)] [] h
set_option maxRecDepth 100000 in
set_option maxHeartbeats 4000000 in
theorem Rd_next_eq (v0 : Nat) (h : ax_H) : Rd_next v0 h =
  (Rd_next_0 v0 h ) :=
  (ax_entI (N := 37) (C := r_37) (by decide) rfl (Nat.le_of_ble_eq_true rfl)).trans rfl
set_option maxRecDepth 100000 in
set_option maxHeartbeats 4000000 in
theorem Rd_next_0_eq  (v0 : Nat) (h : ax_H) : Rd_next_0  v0 h =
  (if (gS h v0).1 = 6 then if (gS h v0).1 = 6 then if decide ((gI h v0 0) ≤ (gI h v0 3)) then
    (if (gS h v0).1 = 6 then if (gS h v0).1 = 6 then if decide ((gI h v0 0) ≤ (gI h v0 3)) then
      (some ((-1), h) )
    else
      (if (gS h v0).1 = 6 then if (gS h v0).1 = 6 then if ax_in h (gR h v0 2) 16 (gI h v0 3) then some ((gI h (gR h v0 2) (Int32.toNatClampNeg (gI h v0 3))), h) else none else none else none) else none else none)
  else
    (if (gS h v0).1 = 6 then if (gS h v0).1 = 6 then if ax_in h (gR h v0 2) 16 (gI h v0 3) then if decide (¬ (gI h (gR h v0 2) (Int32.toNatClampNeg (gI h v0 3))) = 32) then
      (if (gS h v0).1 = 6 then if (gS h v0).1 = 6 then if decide ((gI h v0 0) ≤ (gI h v0 3)) then
        (some ((-1), h) )
      else
        (if (gS h v0).1 = 6 then if (gS h v0).1 = 6 then if ax_in h (gR h v0 2) 16 (gI h v0 3) then some ((gI h (gR h v0 2) (Int32.toNatClampNeg (gI h v0 3))), h) else none else none else none) else none else none)
    else
      (if (gS h v0).1 = 6 then if (gS h v0).1 = 6 then let h1 := pI h v0 3 ((gI h v0 3) + 1); Rd_next_0 v0 h1 else none else none) else none else none else none) else none else none) :=
  (ax_S_eq _ _ _ _).trans rfl
/-- 38 BlackSun$Reader.takeWord(Ljava/lang/String;)I -/
noncomputable def Rd_takeWord (v0 : Nat) (v1 : Nat) (h : ax_H) : Option (Int32 × ax_H) := (ax_EE 38).2.1 [.ref v0, .ref v1] h
noncomputable def Rd_takeWord_13  (v0 : Nat) (v1 : Nat) (v2 : Int32) (v3 : Int32) (v4 : Int32) (v5 : Int32) (h : ax_H) : Option (Int32 × ax_H) := ax_S ax_ρI (ax_env ax_EE 38) ax_nn r_38 r_38_13 [(0, .ref v0), (1, .ref v1), (2, .int v2), (3, .int v3), (4, .int v4), (5, .int v5)] [] h
noncomputable def Rd_takeWord_109 (k0 : Int32) (v0 : Nat) (v1 : Nat) (v2 : Int32) (v3 : Int32) (v4 : Int32) (v5 : Int32) (h : ax_H) : Option (Int32 × ax_H) := ax_S ax_ρI (ax_env ax_EE 38) ax_nn r_38 r_38_109 [(0, .ref v0), (1, .ref v1), (2, .int v2), (3, .int v3), (4, .int v4), (5, .int v5)] [.int k0] h
set_option maxRecDepth 100000 in
set_option maxHeartbeats 4000000 in
theorem Rd_takeWord_eq (v0 : Nat) (v1 : Nat) (h : ax_H) : Rd_takeWord v0 v1 h =
  (if (gS h v0).1 = 6 then Rd_takeWord_13 v0 v1 0 (gI h v0 3) 1 0 h else none) :=
  (ax_entI (N := 38) (C := r_38) (by decide) rfl (Nat.le_of_ble_eq_true rfl)).trans rfl
set_option maxRecDepth 100000 in
set_option maxHeartbeats 4000000 in
theorem Rd_takeWord_13_eq  (v0 : Nat) (v1 : Nat) (v2 : Int32) (v3 : Int32) (v4 : Int32) (v5 : Int32) (h : ax_H) : Rd_takeWord_13  v0 v1 v2 v3 v4 v5 h =
  (if 1 ≤ v1 ∧ v1 ≤ 34 then (Js_length v1 h).bind (fun r1 => if decide (r1.1 ≤ v5) then
    (some ((-1), r1.2) )
  else
    (if 1 ≤ v1 ∧ v1 ≤ 34 then (Js_charAt v1 v5 r1.2).bind (fun r2 => if decide (r2.1 = 32) then
      (if (gS r2.2 v0).1 = 6 then if decide ((gI r2.2 v0 0) ≤ v3) then
        (Rd_takeWord_109 0 v0 v1 v2 v3 v4 v5 r2.2 )
      else
        (if (gS r2.2 v0).1 = 6 then if ax_in r2.2 (gR r2.2 v0 2) 16 v3 then if decide ((gI r2.2 (gR r2.2 v0 2) (Int32.toNatClampNeg v3)) < 97) then
          (Rd_takeWord_109 0 v0 v1 v2 v3 v4 v5 r2.2 )
        else
          (if (gS r2.2 v0).1 = 6 then if ax_in r2.2 (gR r2.2 v0 2) 16 v3 then if decide ((122 : Int32) < (gI r2.2 (gR r2.2 v0 2) (Int32.toNatClampNeg v3))) then
            (Rd_takeWord_109 0 v0 v1 v2 v3 v4 v5 r2.2 )
          else
            (Rd_takeWord_109 1 v0 v1 v2 v3 v4 v5 r2.2 ) else none else none) else none else none) else none)
    else
      (if decide (v4 = 0) then
        (Rd_takeWord_13 v0 v1 v2 (v3 + 1) 0 (v5 + 1) r2.2 )
      else
        (if (gS r2.2 v0).1 = 6 then if decide ((gI r2.2 v0 0) ≤ v3) then
          (Rd_takeWord_13 v0 v1 v2 (v3 + 1) 0 (v5 + 1) r2.2 )
        else
          (if (gS r2.2 v0).1 = 6 then if ax_in r2.2 (gR r2.2 v0 2) 16 v3 then if decide (¬ (gI r2.2 (gR r2.2 v0 2) (Int32.toNatClampNeg v3)) = r2.1) then
            (Rd_takeWord_13 v0 v1 v2 (v3 + 1) 0 (v5 + 1) r2.2 )
          else
            (Rd_takeWord_13 v0 v1 v2 (v3 + 1) 1 (v5 + 1) r2.2 ) else none else none) else none) ) ) else none) ) else none) :=
  (ax_S_eq _ _ _ _).trans rfl
set_option maxRecDepth 100000 in
set_option maxHeartbeats 4000000 in
theorem Rd_takeWord_109_eq (k0 : Int32) (v0 : Nat) (v1 : Nat) (v2 : Int32) (v3 : Int32) (v4 : Int32) (v5 : Int32) (h : ax_H) : Rd_takeWord_109 k0 v0 v1 v2 v3 v4 v5 h =
  (if decide (v4 = 0) then
    (if (gS h v0).1 = 6 then Rd_takeWord_13 v0 v1 (v2 + 1) (gI h v0 3) 1 (v5 + 1) h else none)
  else
    (if decide (¬ k0 = 0) then
      (if (gS h v0).1 = 6 then Rd_takeWord_13 v0 v1 (v2 + 1) (gI h v0 3) 1 (v5 + 1) h else none)
    else
      (if (gS h v0).1 = 6 then let h1 := pI h v0 3 v3; some (v2, h1) else none) ) ) :=
  (ax_S_eq _ _ _ _).trans rfl
/-- 39 BlackSun$Reader.fail(II)Z -/
noncomputable def Rd_fail (v0 : Nat) (v1 : Int32) (v2 : Int32) (h : ax_H) : Option (Int32 × ax_H) := (ax_EE 39).2.1 [.ref v0, .int v1, .int v2] h
set_option maxRecDepth 100000 in
set_option maxHeartbeats 4000000 in
theorem Rd_fail_eq (v0 : Nat) (v1 : Int32) (v2 : Int32) (h : ax_H) : Rd_fail v0 v1 v2 h =
  (if (gS h v0).1 = 6 then let h1 := pI h v0 1 (((1 : Int32) + ((8 : Int32) * v1)) + v2); some (0, h1) else none) :=
  (ax_entI (N := 39) (C := r_39) (by decide) rfl (Nat.le_of_ble_eq_true rfl)).trans rfl
/-- 40 BlackSun$Reader.isDigit(I)Z -/
noncomputable def Rd_isDigit (v0 : Int32) (h : ax_H) : Option (Int32 × ax_H) := (ax_EE 40).2.1 [.int v0] h
set_option maxRecDepth 100000 in
set_option maxHeartbeats 4000000 in
theorem Rd_isDigit_eq (v0 : Int32) (h : ax_H) : Rd_isDigit v0 h =
  (if decide (v0 < 48) then
    (some (0, h) )
  else
    (if decide ((57 : Int32) < v0) then
      (some (0, h) )
    else
      (some (1, h) ) ) ) :=
  (ax_entI (N := 40) (C := r_40) (by decide) rfl (Nat.le_of_ble_eq_true rfl)).trans rfl
/-- 41 BlackSun$Reader.readNumber(I)I -/
noncomputable def Rd_readNumber (v0 : Nat) (v1 : Int32) (h : ax_H) : Option (Int32 × ax_H) := (ax_EE 41).2.1 [.ref v0, .int v1] h
noncomputable def Rd_readNumber_10  (v0 : Nat) (v1 : Int32) (v2 : Int32) (v3 : Int32) (v4 : Int32) (h : ax_H) : Option (Int32 × ax_H) := ax_S ax_ρI (ax_env ax_EE 41) ax_nn r_41 r_41_10 [(0, .ref v0), (1, .int v1), (2, .int v2), (3, .int v3), (4, .int v4)] [] h
noncomputable def Rd_readNumber_77  (v0 : Nat) (v1 : Int32) (v2 : Int32) (v3 : Int32) (v4 : Int32) (h : ax_H) : Option (Int32 × ax_H) := ax_S ax_ρI (ax_env ax_EE 41) ax_nn r_41 r_41_77 [(0, .ref v0), (1, .int v1), (2, .int v2), (3, .int v3), (4, .int v4)] [] h
set_option maxRecDepth 100000 in
set_option maxHeartbeats 4000000 in
theorem Rd_readNumber_eq (v0 : Nat) (v1 : Int32) (h : ax_H) : Rd_readNumber v0 v1 h =
  (if (gS h v0).1 = 6 then Rd_readNumber_10 v0 v1 (gI h v0 3) 0 0 h else none) :=
  (ax_entI (N := 41) (C := r_41) (by decide) rfl (Nat.le_of_ble_eq_true rfl)).trans rfl
set_option maxRecDepth 100000 in
set_option maxHeartbeats 4000000 in
theorem Rd_readNumber_10_eq  (v0 : Nat) (v1 : Int32) (v2 : Int32) (v3 : Int32) (v4 : Int32) (h : ax_H) : Rd_readNumber_10  v0 v1 v2 v3 v4 h =
  (if (gS h v0).1 = 6 then if (gS h v0).1 = 6 then if decide ((gI h v0 0) ≤ (gI h v0 3)) then
    (Rd_readNumber_77 v0 v1 v2 v3 v4 h )
  else
    (if (gS h v0).1 = 6 then if (gS h v0).1 = 6 then if ax_in h (gR h v0 2) 16 (gI h v0 3) then (Rd_isDigit (gI h (gR h v0 2) (Int32.toNatClampNeg (gI h v0 3))) h).bind (fun r1 => if decide (r1.1 = 0) then
      (Rd_readNumber_77 v0 v1 v2 v3 v4 r1.2 )
    else
      (if decide ((5 : Int32) ≤ v3) then
        (if (gS r1.2 v0).1 = 6 then if (gS r1.2 v0).1 = 6 then let h2 := pI r1.2 v0 3 ((gI r1.2 v0 3) + 1); Rd_readNumber_10 v0 v1 v2 (v3 + 1) v4 h2 else none else none)
      else
        (if (gS r1.2 v0).1 = 6 then if (gS r1.2 v0).1 = 6 then if ax_in r1.2 (gR r1.2 v0 2) 16 (gI r1.2 v0 3) then let x3 := (((v4 * 10) + (gI r1.2 (gR r1.2 v0 2) (Int32.toNatClampNeg (gI r1.2 v0 3)))) - 48); if (gS r1.2 v0).1 = 6 then if (gS r1.2 v0).1 = 6 then let h4 := pI r1.2 v0 3 ((gI r1.2 v0 3) + 1); Rd_readNumber_10 v0 v1 v2 (v3 + 1) x3 h4 else none else none else none else none else none) ) ) else none else none else none) else none else none) :=
  (ax_S_eq _ _ _ _).trans rfl
set_option maxRecDepth 100000 in
set_option maxHeartbeats 4000000 in
theorem Rd_readNumber_77_eq  (v0 : Nat) (v1 : Int32) (v2 : Int32) (v3 : Int32) (v4 : Int32) (h : ax_H) : Rd_readNumber_77  v0 v1 v2 v3 v4 h =
  (if decide (¬ v3 = 0) then
    (if decide ((5 : Int32) < v3) then
      (if (gS h v0).1 = 6 then (Rd_fail v0 v2 1 h).bind (fun r1 => some ((-1), r1.2) ) else none)
    else
      (if decide (v4 ≤ v1) then
        (some (v4, h) )
      else
        (if (gS h v0).1 = 6 then (Rd_fail v0 v2 1 h).bind (fun r2 => some ((-1), r2.2) ) else none) ) )
  else
    (if (gS h v0).1 = 6 then (Rd_fail v0 v2 0 h).bind (fun r3 => some ((-1), r3.2) ) else none) ) :=
  (ax_S_eq _ _ _ _).trans rfl
/-- 42 BlackSun$Reader.readHeld(I)Z -/
noncomputable def Rd_readHeld (v0 : Nat) (v1 : Int32) (h : ax_H) : Option (Int32 × ax_H) := (ax_EE 42).2.1 [.ref v0, .int v1] h
noncomputable def Rd_readHeld_29  (v0 : Nat) (v1 : Int32) (v2 : Int32) (h : ax_H) : Option (Int32 × ax_H) := ax_S ax_ρI (ax_env ax_EE 42) ax_nn r_42 r_42_29 [(0, .ref v0), (1, .int v1), (2, .int v2)] [] h
set_option maxRecDepth 100000 in
set_option maxHeartbeats 4000000 in
theorem Rd_readHeld_eq (v0 : Nat) (v1 : Int32) (h : ax_H) : Rd_readHeld v0 v1 h =
  (if (gS h v0).1 = 6 then (Rd_next v0 h).bind (fun r1 => if decide (¬ r1.1 = 45) then
    (Rd_readHeld_29 v0 v1 0 r1.2 )
  else
    (if (gS r1.2 v0).1 = 6 then if (gS r1.2 v0).1 = 6 then let h2 := pI r1.2 v0 3 ((gI r1.2 v0 3) + 1); Rd_readHeld_29 v0 v1 1 h2 else none else none) ) else none) :=
  (ax_entI (N := 42) (C := r_42) (by decide) rfl (Nat.le_of_ble_eq_true rfl)).trans rfl
set_option maxRecDepth 100000 in
set_option maxHeartbeats 4000000 in
theorem Rd_readHeld_29_eq  (v0 : Nat) (v1 : Int32) (v2 : Int32) (h : ax_H) : Rd_readHeld_29  v0 v1 v2 h =
  (if (gS h v0).1 = 6 then (Rd_readNumber v0 99999 h).bind (fun r1 => if decide (¬ r1.1 = (-1)) then
    (if (gS r1.2 v0).1 = 6 then if decide (v2 = 0) then
      (if ax_in r1.2 (gR r1.2 v0 14) 16 v1 then let h2 := pI r1.2 (gR r1.2 v0 14) (Int32.toNatClampNeg v1) r1.1; some (1, h2) else none)
    else
      (if ax_in r1.2 (gR r1.2 v0 14) 16 v1 then let h3 := pI r1.2 (gR r1.2 v0 14) (Int32.toNatClampNeg v1) (-r1.1); some (1, h3) else none) else none)
  else
    (some (0, r1.2) ) ) else none) :=
  (ax_S_eq _ _ _ _).trans rfl
/-- 43 BlackSun$Reader.readTerm(I)Z -/
noncomputable def Rd_readTerm (v0 : Nat) (v1 : Int32) (h : ax_H) : Option (Int32 × ax_H) := (ax_EE 43).2.1 [.ref v0, .int v1] h
noncomputable def Rd_readTerm_58  (v0 : Nat) (v1 : Int32) (v3 : Int32) (h : ax_H) : Option (Int32 × ax_H) := ax_S ax_ρI (ax_env ax_EE 43) ax_nn r_43 r_43_58 [(0, .ref v0), (1, .int v1), (3, .int v3)] [] h
noncomputable def Rd_readTerm_80  (v0 : Nat) (v1 : Int32) (v3 : Int32) (h : ax_H) : Option (Int32 × ax_H) := ax_S ax_ρI (ax_env ax_EE 43) ax_nn r_43 r_43_80 [(0, .ref v0), (1, .int v1), (3, .int v3)] [] h
set_option maxRecDepth 100000 in
set_option maxHeartbeats 4000000 in
theorem Rd_readTerm_eq (v0 : Nat) (v1 : Int32) (h : ax_H) : Rd_readTerm v0 v1 h =
  (if (gS h v0).1 = 6 then (Rd_next v0 h).bind (fun r1 => if (gS r1.2 v0).1 = 6 then if (gS r1.2 v0).1 = 6 then (Rd_takeWord v0 2 r1.2).bind (fun r2 => if decide (¬ r2.1 = (-1)) then
    (if (gS r2.2 v0).1 = 6 then if ax_in r2.2 (gR r2.2 v0 13) 16 r2.1 then if decide (¬ (gI r2.2 (gR r2.2 v0 13) (Int32.toNatClampNeg r2.1)) = 0) then
      (if (gS r2.2 v0).1 = 6 then (Rd_fail v0 (gI r1.2 v0 3) 5 r2.2).bind (fun r3 => if r3.1 = 0 ∨ r3.1 = 1 then some (r3.1, r3.2) else none ) else none)
    else
      (if decide (¬ v1 = 1) then
        (Rd_readTerm_58 v0 v1 r2.1 r2.2 )
      else
        (if (gS r2.2 v0).1 = 6 then if decide (¬ (gI r2.2 v0 5) = 3) then
          (Rd_readTerm_58 v0 v1 r2.1 r2.2 )
        else
          (if (gS r2.2 v0).1 = 6 then (Rd_fail v0 (gI r1.2 v0 3) 5 r2.2).bind (fun r4 => if r4.1 = 0 ∨ r4.1 = 1 then some (r4.1, r4.2) else none ) else none) else none) ) else none else none)
  else
    (if (gS r2.2 v0).1 = 6 then (Rd_fail v0 (gI r1.2 v0 3) 0 r2.2).bind (fun r5 => if r5.1 = 0 ∨ r5.1 = 1 then some (r5.1, r5.2) else none ) else none) ) else none else none ) else none) :=
  (ax_entI (N := 43) (C := r_43) (by decide) rfl (Nat.le_of_ble_eq_true rfl)).trans rfl
set_option maxRecDepth 100000 in
set_option maxHeartbeats 4000000 in
theorem Rd_readTerm_58_eq  (v0 : Nat) (v1 : Int32) (v3 : Int32) (h : ax_H) : Rd_readTerm_58  v0 v1 v3 h =
  (if (gS h v0).1 = 6 then if ax_in h (gR h v0 13) 16 v3 then let h1 := pI h (gR h v0 13) (Int32.toNatClampNeg v3) v1; if decide (¬ v1 = 1) then
    (Rd_readTerm_80 v0 v1 v3 h1 )
  else
    (if (gS h1 v0).1 = 6 then if (gS h1 v0).1 = 6 then let h2 := pI h1 v0 5 ((gI h1 v0 5) + 1); Rd_readTerm_80 v0 v1 v3 h2 else none else none) else none else none) :=
  (ax_S_eq _ _ _ _).trans rfl
set_option maxRecDepth 100000 in
set_option maxHeartbeats 4000000 in
theorem Rd_readTerm_80_eq  (v0 : Nat) (v1 : Int32) (v3 : Int32) (h : ax_H) : Rd_readTerm_80  v0 v1 v3 h =
  (if decide (¬ v1 = 2) then
    (some (1, h) )
  else
    (if (gS h v0).1 = 6 then (Rd_readHeld v0 v3 h).bind (fun r1 => if decide (r1.1 = 0) then
      (some (0, r1.2) )
    else
      (some (1, r1.2) ) ) else none) ) :=
  (ax_S_eq _ _ _ _).trans rfl
/-- 44 BlackSun$Reader.await(I)V -/
noncomputable def Rd_await (v0 : Nat) (v1 : Int32) (h : ax_H) : Option (ax_H) := (ax_EE 44).1 [.ref v0, .int v1] h
set_option maxRecDepth 100000 in
set_option maxHeartbeats 4000000 in
theorem Rd_await_eq (v0 : Nat) (v1 : Int32) (h : ax_H) : Rd_await v0 v1 h =
  (if (gS h v0).1 = 6 then if decide ((64 : Int32) ≤ (gI h v0 9)) then
    (some h )
  else
    (if (gS h v0).1 = 6 then if (gS h v0).1 = 6 then if ax_in h (gR h v0 10) 16 (gI h v0 9) then let h1 := pI h (gR h v0 10) (Int32.toNatClampNeg (gI h v0 9)) v1; if (gS h1 v0).1 = 6 then if (gS h1 v0).1 = 6 then let h2 := pI h1 v0 9 ((gI h1 v0 9) + 1); some h2 else none else none else none else none else none) else none) :=
  (ax_entV (N := 44) (C := r_44) (by decide) rfl (Nat.le_of_ble_eq_true rfl)).trans rfl
/-- 45 BlackSun$Reader.openDeeper(II)Z -/
noncomputable def Rd_openDeeper (v0 : Nat) (v1 : Int32) (v2 : Int32) (h : ax_H) : Option (Int32 × ax_H) := (ax_EE 45).2.1 [.ref v0, .int v1, .int v2] h
set_option maxRecDepth 100000 in
set_option maxHeartbeats 4000000 in
theorem Rd_openDeeper_eq (v0 : Nat) (v1 : Int32) (v2 : Int32) (h : ax_H) : Rd_openDeeper v0 v1 v2 h =
  (if (gS h v0).1 = 6 then if decide ((gI h v0 8) < 10) then
    (if (gS h v0).1 = 6 then if (gS h v0).1 = 6 then let h1 := pI h v0 8 ((gI h v0 8) + 1); if (gS h1 v0).1 = 6 then (Rd_await v0 v2 h1).bind (fun h2 => some (1, h2) ) else none else none else none)
  else
    (if (gS h v0).1 = 6 then (Rd_fail v0 v1 2 h).bind (fun r3 => if r3.1 = 0 ∨ r3.1 = 1 then some (r3.1, r3.2) else none ) else none) else none) :=
  (ax_entI (N := 45) (C := r_45) (by decide) rfl (Nat.le_of_ble_eq_true rfl)).trans rfl
/-- 46 BlackSun$Reader.step(II)V -/
noncomputable def Rd_step (v0 : Nat) (v1 : Int32) (v2 : Int32) (h : ax_H) : Option (ax_H) := (ax_EE 46).1 [.ref v0, .int v1, .int v2] h
set_option maxRecDepth 100000 in
set_option maxHeartbeats 4000000 in
theorem Rd_step_eq (v0 : Nat) (v1 : Int32) (v2 : Int32) (h : ax_H) : Rd_step v0 v1 v2 h =
  (if (gS h v0).1 = 6 then if decide ((400 : Int32) ≤ (gI h v0 11)) then
    (some h )
  else
    (if (gS h v0).1 = 6 then if (gS h v0).1 = 6 then if ax_in h (gR h v0 12) 16 (gI h v0 11) then let h1 := pI h (gR h v0 12) (Int32.toNatClampNeg (gI h v0 11)) (v1 ||| (v2 <<< (4 &&& 31))); if (gS h1 v0).1 = 6 then if (gS h1 v0).1 = 6 then let h2 := pI h1 v0 11 ((gI h1 v0 11) + 1); some h2 else none else none else none else none else none) else none) :=
  (ax_entV (N := 46) (C := r_46) (by decide) rfl (Nat.le_of_ble_eq_true rfl)).trans rfl
/-- 47 BlackSun$Reader.countOneMore(I)Z -/
noncomputable def Rd_countOneMore (v0 : Nat) (v1 : Int32) (h : ax_H) : Option (Int32 × ax_H) := (ax_EE 47).2.1 [.ref v0, .int v1] h
set_option maxRecDepth 100000 in
set_option maxHeartbeats 4000000 in
theorem Rd_countOneMore_eq (v0 : Nat) (v1 : Int32) (h : ax_H) : Rd_countOneMore v0 v1 h =
  (if (gS h v0).1 = 6 then if (gS h v0).1 = 6 then let h1 := pI h v0 4 ((gI h v0 4) + 1); if (gS h1 v0).1 = 6 then if decide ((gI h1 v0 4) ≤ 60) then
    (some (1, h1) )
  else
    (if (gS h1 v0).1 = 6 then (Rd_fail v0 v1 3 h1).bind (fun r2 => if decide (r2.1 = 0) then
      (some (0, r2.2) )
    else
      (some (1, r2.2) ) ) else none) else none else none else none) :=
  (ax_entI (N := 47) (C := r_47) (by decide) rfl (Nat.le_of_ble_eq_true rfl)).trans rfl
/-- 48 BlackSun$Reader.readValue()Z -/
noncomputable def Rd_readValue (v0 : Nat) (h : ax_H) : Option (Int32 × ax_H) := (ax_EE 48).2.1 [.ref v0] h
noncomputable def Rd_readValue_32 (k0 : Int32) (v0 : Nat) (v1 : Int32) (v2 : Int32) (h : ax_H) : Option (Int32 × ax_H) := ax_S ax_ρI (ax_env ax_EE 48) ax_nn r_48 r_48_32 [(0, .ref v0), (1, .int v1), (2, .int v2)] [.int k0] h
set_option maxRecDepth 100000 in
set_option maxHeartbeats 4000000 in
theorem Rd_readValue_eq (v0 : Nat) (h : ax_H) : Rd_readValue v0 h =
  (if (gS h v0).1 = 6 then (Rd_next v0 h).bind (fun r1 => (Rd_isDigit r1.1 r1.2).bind (fun r2 => if (gS r2.2 v0).1 = 6 then if decide (r2.1 = 0) then
    (if (gS r2.2 v0).1 = 6 then (Rd_takeWord v0 5 r2.2).bind (fun r3 => Rd_readValue_32 r3.1 v0 r2.1 (gI r2.2 v0 3) r3.2 ) else none)
  else
    (if (gS r2.2 v0).1 = 6 then (Rd_readNumber v0 99999 r2.2).bind (fun r4 => Rd_readValue_32 r4.1 v0 r2.1 (gI r2.2 v0 3) r4.2 ) else none) else none ) ) else none) :=
  (ax_entI (N := 48) (C := r_48) (by decide) rfl (Nat.le_of_ble_eq_true rfl)).trans rfl
set_option maxRecDepth 100000 in
set_option maxHeartbeats 4000000 in
theorem Rd_readValue_32_eq (k0 : Int32) (v0 : Nat) (v1 : Int32) (v2 : Int32) (h : ax_H) : Rd_readValue_32 k0 v0 v1 v2 h =
  (if decide (¬ k0 = (-1)) then
    (if decide (v1 = 0) then
      (if (gS h v0).1 = 6 then (Rd_step v0 1 k0 h).bind (fun h1 => if (gS h1 v0).1 = 6 then (Rd_countOneMore v0 v2 h1).bind (fun r2 => if r2.1 = 0 ∨ r2.1 = 1 then some (r2.1, r2.2) else none ) else none ) else none)
    else
      (if (gS h v0).1 = 6 then (Rd_step v0 0 k0 h).bind (fun h3 => if (gS h3 v0).1 = 6 then (Rd_countOneMore v0 v2 h3).bind (fun r4 => if r4.1 = 0 ∨ r4.1 = 1 then some (r4.1, r4.2) else none ) else none ) else none) )
  else
    (if decide (v1 = 0) then
      (if (gS h v0).1 = 6 then (Rd_fail v0 v2 0 h).bind (fun r5 => if r5.1 = 0 ∨ r5.1 = 1 then some (r5.1, r5.2) else none ) else none)
    else
      (some (0, h) ) ) ) :=
  (ax_S_eq _ _ _ _).trans rfl
/-- 49 BlackSun$Reader.readOperand()Z -/
noncomputable def Rd_readOperand (v0 : Nat) (h : ax_H) : Option (Int32 × ax_H) := (ax_EE 49).2.1 [.ref v0] h
noncomputable def Rd_readOperand_14 (k0 : Int32) (v0 : Nat) (h : ax_H) : Option (Int32 × ax_H) := ax_S ax_ρI (ax_env ax_EE 49) ax_nn r_49 r_49_14 [(0, .ref v0)] [.int k0] h
noncomputable def Rd_readOperand_49  (v0 : Nat) (v2 : Int32) (h : ax_H) : Option (Int32 × ax_H) := ax_S ax_ρI (ax_env ax_EE 49) ax_nn r_49 r_49_49 [(0, .ref v0), (2, .int v2)] [] h
noncomputable def Rd_readOperand_74  (v0 : Nat) (h : ax_H) : Option (Int32 × ax_H) := ax_S ax_ρI (ax_env ax_EE 49) ax_nn r_49 r_49_74 [(0, .ref v0)] [] h
set_option maxRecDepth 100000 in
set_option maxHeartbeats 4000000 in
theorem Rd_readOperand_eq (v0 : Nat) (h : ax_H) : Rd_readOperand v0 h =
  (if (gS h v0).1 = 6 then (Rd_next v0 h).bind (fun r1 => if decide (¬ r1.1 = 91) then
    (Rd_readOperand_14 0 v0 r1.2 )
  else
    (Rd_readOperand_14 1 v0 r1.2 ) ) else none) :=
  (ax_entI (N := 49) (C := r_49) (by decide) rfl (Nat.le_of_ble_eq_true rfl)).trans rfl
set_option maxRecDepth 100000 in
set_option maxHeartbeats 4000000 in
theorem Rd_readOperand_14_eq (k0 : Int32) (v0 : Nat) (h : ax_H) : Rd_readOperand_14 k0 v0 h =
  (if (gS h v0).1 = 6 then if (gS h v0).1 = 6 then if decide (¬ (gI h v0 7) = 0) then
    (Rd_readOperand_49 v0 (gI h v0 3) h )
  else
    (if decide (k0 = 0) then
      (Rd_readOperand_49 v0 (gI h v0 3) h )
    else
      (if (gS h v0).1 = 6 then if (gS h v0).1 = 6 then let h1 := pI h v0 3 ((gI h v0 3) + 1); if (gS h1 v0).1 = 6 then (Rd_openDeeper v0 (gI h v0 3) 12 h1).bind (fun r2 => if r2.1 = 0 ∨ r2.1 = 1 then some (r2.1, r2.2) else none ) else none else none else none) ) else none else none) :=
  (ax_S_eq _ _ _ _).trans rfl
set_option maxRecDepth 100000 in
set_option maxHeartbeats 4000000 in
theorem Rd_readOperand_49_eq  (v0 : Nat) (v2 : Int32) (h : ax_H) : Rd_readOperand_49  v0 v2 h =
  (if (gS h v0).1 = 6 then if decide (¬ (gI h v0 7) = 0) then
    (Rd_readOperand_74 v0 h )
  else
    (if (gS h v0).1 = 6 then (Rd_takeWord v0 4 h).bind (fun r1 => if decide (r1.1 = (-1)) then
      (Rd_readOperand_74 v0 r1.2 )
    else
      (if (gS r1.2 v0).1 = 6 then (Rd_openDeeper v0 v2 9 r1.2).bind (fun r2 => if r2.1 = 0 ∨ r2.1 = 1 then some (r2.1, r2.2) else none ) else none) ) else none) else none) :=
  (ax_S_eq _ _ _ _).trans rfl
set_option maxRecDepth 100000 in
set_option maxHeartbeats 4000000 in
theorem Rd_readOperand_74_eq  (v0 : Nat) (h : ax_H) : Rd_readOperand_74  v0 h =
  (if (gS h v0).1 = 6 then if decide (¬ (gI h v0 7) = 3) then
    (if (gS h v0).1 = 6 then let h1 := pI h v0 7 2; if (gS h1 v0).1 = 6 then (Rd_readValue v0 h1).bind (fun r2 => if r2.1 = 0 ∨ r2.1 = 1 then some (r2.1, r2.2) else none ) else none else none)
  else
    (if (gS h v0).1 = 6 then let h3 := pI h v0 7 4; if (gS h3 v0).1 = 6 then (Rd_readValue v0 h3).bind (fun r4 => if r4.1 = 0 ∨ r4.1 = 1 then some (r4.1, r4.2) else none ) else none else none) else none) :=
  (ax_S_eq _ _ _ _).trans rfl
/-- 50 BlackSun$Reader.bind(I)V -/
noncomputable def Rd_bind (v0 : Nat) (v1 : Int32) (h : ax_H) : Option (ax_H) := (ax_EE 50).1 [.ref v0, .int v1] h
noncomputable def Rd_bind_7  (v0 : Nat) (v1 : Int32) (v2 : Int32) (h : ax_H) : Option (ax_H) := ax_S ax_ρV (ax_env ax_EE 50) ax_nn r_50 r_50_7 [(0, .ref v0), (1, .int v1), (2, .int v2)] [] h
set_option maxRecDepth 100000 in
set_option maxHeartbeats 4000000 in
theorem Rd_bind_eq (v0 : Nat) (v1 : Int32) (h : ax_H) : Rd_bind v0 v1 h =
  (if (gS h v0).1 = 6 then Rd_bind_7 v0 v1 ((gI h v0 9) - 1) h else none) :=
  (ax_entV (N := 50) (C := r_50) (by decide) rfl (Nat.le_of_ble_eq_true rfl)).trans rfl
set_option maxRecDepth 100000 in
set_option maxHeartbeats 4000000 in
theorem Rd_bind_7_eq  (v0 : Nat) (v1 : Int32) (v2 : Int32) (h : ax_H) : Rd_bind_7  v0 v1 v2 h =
  (if decide (v2 < 0) then
    (some h )
  else
    (if (gS h v0).1 = 6 then if ax_in h (gR h v0 10) 16 v2 then if decide (v1 < (gI h (gR h v0 10) (Int32.toNatClampNeg v2))) then
      (some h )
    else
      (if (gS h v0).1 = 6 then if ax_in h (gR h v0 10) 16 v2 then if (gS h v0).1 = 6 then (Rd_step v0 (gI h (gR h v0 10) (Int32.toNatClampNeg v2)) 0 h).bind (fun h1 => if (gS h1 v0).1 = 6 then if ax_in h1 (gR h1 v0 10) 16 v2 then if decide (¬ (gI h1 (gR h1 v0 10) (Int32.toNatClampNeg v2)) = 9) then
        (if (gS h1 v0).1 = 6 then let h2 := pI h1 v0 9 v2; Rd_bind_7 v0 v1 (v2 + (-1)) h2 else none)
      else
        (if (gS h1 v0).1 = 6 then if (gS h1 v0).1 = 6 then let h3 := pI h1 v0 8 ((gI h1 v0 8) - 1); if (gS h3 v0).1 = 6 then let h4 := pI h3 v0 9 v2; Rd_bind_7 v0 v1 (v2 + (-1)) h4 else none else none else none) else none else none ) else none else none else none) else none else none) ) :=
  (ax_S_eq _ _ _ _).trans rfl
/-- 51 BlackSun$Reader.readSign(I)Z -/
noncomputable def Rd_readSign (v0 : Nat) (v1 : Int32) (h : ax_H) : Option (Int32 × ax_H) := (ax_EE 51).2.1 [.ref v0, .int v1] h
noncomputable def Rd_readSign_28  (v0 : Nat) (v1 : Int32) (h : ax_H) : Option (Int32 × ax_H) := ax_S ax_ρI (ax_env ax_EE 51) ax_nn r_51 r_51_28 [(0, .ref v0), (1, .int v1)] [] h
noncomputable def Rd_readSign_102  (v0 : Nat) (v1 : Int32) (v2 : Int32) (h : ax_H) : Option (Int32 × ax_H) := ax_S ax_ρI (ax_env ax_EE 51) ax_nn r_51 r_51_102 [(0, .ref v0), (1, .int v1), (2, .int v2)] [] h
set_option maxRecDepth 100000 in
set_option maxHeartbeats 4000000 in
theorem Rd_readSign_eq (v0 : Nat) (v1 : Int32) (h : ax_H) : Rd_readSign v0 v1 h =
  (if decide (v1 = 60) then
    (Rd_readSign_28 v0 v1 h )
  else
    (if decide (v1 = 61) then
      (Rd_readSign_28 v0 v1 h )
    else
      (if decide (v1 = 62) then
        (Rd_readSign_28 v0 v1 h )
      else
        (if (gS h v0).1 = 6 then if (gS h v0).1 = 6 then (Rd_fail v0 (gI h v0 3) 0 h).bind (fun r1 => if r1.1 = 0 ∨ r1.1 = 1 then some (r1.1, r1.2) else none ) else none else none) ) ) ) :=
  (ax_entI (N := 51) (C := r_51) (by decide) rfl (Nat.le_of_ble_eq_true rfl)).trans rfl
set_option maxRecDepth 100000 in
set_option maxHeartbeats 4000000 in
theorem Rd_readSign_28_eq  (v0 : Nat) (v1 : Int32) (h : ax_H) : Rd_readSign_28  v0 v1 h =
  (if (gS h v0).1 = 6 then if (gS h v0).1 = 6 then (Rd_countOneMore v0 (gI h v0 3) h).bind (fun r1 => if decide (¬ r1.1 = 0) then
    (if (gS r1.2 v0).1 = 6 then if (gS r1.2 v0).1 = 6 then let h2 := pI r1.2 v0 3 ((gI r1.2 v0 3) + 1); if decide (v1 = 61) then
      (Rd_readSign_102 v0 v1 0 h2 )
    else
      (if (gS h2 v0).1 = 6 then if (gS h2 v0).1 = 6 then if decide ((gI h2 v0 0) ≤ (gI h2 v0 3)) then
        (Rd_readSign_102 v0 v1 0 h2 )
      else
        (if (gS h2 v0).1 = 6 then if (gS h2 v0).1 = 6 then if ax_in h2 (gR h2 v0 2) 16 (gI h2 v0 3) then if decide (¬ (gI h2 (gR h2 v0 2) (Int32.toNatClampNeg (gI h2 v0 3))) = 61) then
          (Rd_readSign_102 v0 v1 0 h2 )
        else
          (if (gS h2 v0).1 = 6 then if (gS h2 v0).1 = 6 then let h3 := pI h2 v0 3 ((gI h2 v0 3) + 1); Rd_readSign_102 v0 v1 1 h3 else none else none) else none else none else none) else none else none) else none else none)
  else
    (some (0, r1.2) ) ) else none else none) :=
  (ax_S_eq _ _ _ _).trans rfl
set_option maxRecDepth 100000 in
set_option maxHeartbeats 4000000 in
theorem Rd_readSign_102_eq  (v0 : Nat) (v1 : Int32) (v2 : Int32) (h : ax_H) : Rd_readSign_102  v0 v1 v2 h =
  (if (gS h v0).1 = 6 then (Rd_bind v0 3 h).bind (fun h1 => if decide (¬ v1 = 61) then
    (if decide (¬ v1 = 60) then
      (if decide (v2 = 0) then
        (if (gS h1 v0).1 = 6 then (Rd_await v0 8 h1).bind (fun h2 => if (gS h2 v0).1 = 6 then let h3 := pI h2 v0 7 3; some (1, h3) else none ) else none)
      else
        (if (gS h1 v0).1 = 6 then (Rd_await v0 7 h1).bind (fun h4 => if (gS h4 v0).1 = 6 then let h5 := pI h4 v0 7 3; some (1, h5) else none ) else none) )
    else
      (if decide (v2 = 0) then
        (if (gS h1 v0).1 = 6 then (Rd_await v0 4 h1).bind (fun h6 => if (gS h6 v0).1 = 6 then let h7 := pI h6 v0 7 3; some (1, h7) else none ) else none)
      else
        (if (gS h1 v0).1 = 6 then (Rd_await v0 5 h1).bind (fun h8 => if (gS h8 v0).1 = 6 then let h9 := pI h8 v0 7 3; some (1, h9) else none ) else none) ) )
  else
    (if (gS h1 v0).1 = 6 then (Rd_await v0 6 h1).bind (fun h10 => if (gS h10 v0).1 = 6 then let h11 := pI h10 v0 7 3; some (1, h11) else none ) else none) ) else none) :=
  (ax_S_eq _ _ _ _).trans rfl
/-- 52 BlackSun$Reader.readClosing(I)Z -/
noncomputable def Rd_readClosing (v0 : Nat) (v1 : Int32) (h : ax_H) : Option (Int32 × ax_H) := (ax_EE 52).2.1 [.ref v0, .int v1] h
set_option maxRecDepth 100000 in
set_option maxHeartbeats 4000000 in
theorem Rd_readClosing_eq (v0 : Nat) (v1 : Int32) (h : ax_H) : Rd_readClosing v0 v1 h =
  (if (gS h v0).1 = 6 then (Rd_bind v0 11 h).bind (fun h1 => if (gS h1 v0).1 = 6 then if decide (¬ (gI h1 v0 9) = 0) then
    (if decide (v1 = 93) then
      (if (gS h1 v0).1 = 6 then if (gS h1 v0).1 = 6 then let h2 := pI h1 v0 3 ((gI h1 v0 3) + 1); if (gS h2 v0).1 = 6 then if (gS h2 v0).1 = 6 then let h3 := pI h2 v0 9 ((gI h2 v0 9) - 1); if (gS h3 v0).1 = 6 then if (gS h3 v0).1 = 6 then let h4 := pI h3 v0 8 ((gI h3 v0 8) - 1); if (gS h4 v0).1 = 6 then let h5 := pI h4 v0 7 5; some (1, h5) else none else none else none else none else none else none else none)
    else
      (if (gS h1 v0).1 = 6 then if (gS h1 v0).1 = 6 then (Rd_fail v0 (gI h1 v0 3) 0 h1).bind (fun r6 => if r6.1 = 0 ∨ r6.1 = 1 then some (r6.1, r6.2) else none ) else none else none) )
  else
    (if (gS h1 v0).1 = 6 then let h7 := pI h1 v0 7 6; some (1, h7) else none) else none ) else none) :=
  (ax_entI (N := 52) (C := r_52) (by decide) rfl (Nat.le_of_ble_eq_true rfl)).trans rfl
/-- 53 BlackSun$Reader.readOperator()Z -/
noncomputable def Rd_readOperator (v0 : Nat) (h : ax_H) : Option (Int32 × ax_H) := (ax_EE 53).2.1 [.ref v0] h
noncomputable def Rd_readOperator_25  (v0 : Nat) (v1 : Int32) (h : ax_H) : Option (Int32 × ax_H) := ax_S ax_ρI (ax_env ax_EE 53) ax_nn r_53 r_53_25 [(0, .ref v0), (1, .int v1)] [] h
noncomputable def Rd_readOperator_52 (k0 : Int32) (k1 : Nat) (v0 : Nat) (h : ax_H) : Option (Int32 × ax_H) := ax_S ax_ρI (ax_env ax_EE 53) ax_nn r_53 r_53_52 [(0, .ref v0)] [.int k0, .ref k1] h
noncomputable def Rd_readOperator_74  (v0 : Nat) (v1 : Int32) (h : ax_H) : Option (Int32 × ax_H) := ax_S ax_ρI (ax_env ax_EE 53) ax_nn r_53 r_53_74 [(0, .ref v0), (1, .int v1)] [] h
noncomputable def Rd_readOperator_118  (v0 : Nat) (v2 : Int32) (h : ax_H) : Option (Int32 × ax_H) := ax_S ax_ρI (ax_env ax_EE 53) ax_nn r_53 r_53_118 [(0, .ref v0), (2, .int v2)] [] h
set_option maxRecDepth 100000 in
set_option maxHeartbeats 4000000 in
theorem Rd_readOperator_eq (v0 : Nat) (h : ax_H) : Rd_readOperator v0 h =
  (if (gS h v0).1 = 6 then (Rd_next v0 h).bind (fun r1 => if (gS r1.2 v0).1 = 6 then if decide ((gI r1.2 v0 7) = 5) then
    (Rd_readOperator_74 v0 r1.1 r1.2 )
  else
    (if decide (r1.1 = 43) then
      (Rd_readOperator_25 v0 r1.1 r1.2 )
    else
      (if decide (¬ r1.1 = 45) then
        (Rd_readOperator_74 v0 r1.1 r1.2 )
      else
        (Rd_readOperator_25 v0 r1.1 r1.2 ) ) ) else none ) else none) :=
  (ax_entI (N := 53) (C := r_53) (by decide) rfl (Nat.le_of_ble_eq_true rfl)).trans rfl
set_option maxRecDepth 100000 in
set_option maxHeartbeats 4000000 in
theorem Rd_readOperator_25_eq  (v0 : Nat) (v1 : Int32) (h : ax_H) : Rd_readOperator_25  v0 v1 h =
  (if (gS h v0).1 = 6 then if (gS h v0).1 = 6 then let h1 := pI h v0 3 ((gI h v0 3) + 1); if (gS h1 v0).1 = 6 then (Rd_bind v0 3 h1).bind (fun h2 => if decide (¬ v1 = 43) then
    (Rd_readOperator_52 3 v0 v0 h2 )
  else
    (Rd_readOperator_52 2 v0 v0 h2 ) ) else none else none else none) :=
  (ax_S_eq _ _ _ _).trans rfl
set_option maxRecDepth 100000 in
set_option maxHeartbeats 4000000 in
theorem Rd_readOperator_52_eq (k0 : Int32) (k1 : Nat) (v0 : Nat) (h : ax_H) : Rd_readOperator_52 k0 k1 v0 h =
  (if (gS h k1).1 = 6 then (Rd_await k1 k0 h).bind (fun h1 => if (gS h1 v0).1 = 6 then if decide (¬ (gI h1 v0 7) = 2) then
    (if (gS h1 v0).1 = 6 then let h2 := pI h1 v0 7 3; some (1, h2) else none)
  else
    (if (gS h1 v0).1 = 6 then let h3 := pI h1 v0 7 1; some (1, h3) else none) else none ) else none) :=
  (ax_S_eq _ _ _ _).trans rfl
set_option maxRecDepth 100000 in
set_option maxHeartbeats 4000000 in
theorem Rd_readOperator_74_eq  (v0 : Nat) (v1 : Int32) (h : ax_H) : Rd_readOperator_74  v0 v1 h =
  (if (gS h v0).1 = 6 then if decide (¬ (gI h v0 7) = 2) then
    (if (gS h v0).1 = 6 then (Rd_takeWord v0 6 h).bind (fun r1 => if decide (r1.1 = (-1)) then
      (if (gS r1.2 v0).1 = 6 then (Rd_takeWord v0 7 r1.2).bind (fun r2 => if decide (r2.1 = (-1)) then
        (if (gS r2.2 v0).1 = 6 then (Rd_readClosing v0 v1 r2.2).bind (fun r3 => if r3.1 = 0 ∨ r3.1 = 1 then some (r3.1, r3.2) else none ) else none)
      else
        (Rd_readOperator_118 v0 0 r2.2 ) ) else none)
    else
      (Rd_readOperator_118 v0 1 r1.2 ) ) else none)
  else
    (if (gS h v0).1 = 6 then (Rd_readSign v0 v1 h).bind (fun r4 => if r4.1 = 0 ∨ r4.1 = 1 then some (r4.1, r4.2) else none ) else none) else none) :=
  (ax_S_eq _ _ _ _).trans rfl
set_option maxRecDepth 100000 in
set_option maxHeartbeats 4000000 in
theorem Rd_readOperator_118_eq  (v0 : Nat) (v2 : Int32) (h : ax_H) : Rd_readOperator_118  v0 v2 h =
  (if decide (v2 = 0) then
    (if (gS h v0).1 = 6 then (Rd_bind v0 11 h).bind (fun h1 => if (gS h1 v0).1 = 6 then (Rd_await v0 11 h1).bind (fun h2 => if (gS h2 v0).1 = 6 then let h3 := pI h2 v0 7 0; some (1, h3) else none ) else none ) else none)
  else
    (if (gS h v0).1 = 6 then (Rd_bind v0 10 h).bind (fun h4 => if (gS h4 v0).1 = 6 then (Rd_await v0 10 h4).bind (fun h5 => if (gS h5 v0).1 = 6 then let h6 := pI h5 v0 7 0; some (1, h6) else none ) else none ) else none) ) :=
  (ax_S_eq _ _ _ _).trans rfl
/-- 54 BlackSun$Reader.readLeave()Z -/
noncomputable def Rd_readLeave (v0 : Nat) (h : ax_H) : Option (Int32 × ax_H) := (ax_EE 54).2.1 [.ref v0] h
noncomputable def Rd_readLeave_55  (v0 : Nat) (v1 : Int32) (v2 : Int32) (h : ax_H) : Option (Int32 × ax_H) := ax_S ax_ρI (ax_env ax_EE 54) ax_nn r_54 r_54_55 [(0, .ref v0), (1, .int v1), (2, .int v2)] [] h
noncomputable def Rd_readLeave_99 (k0 : Int32) (v0 : Nat) (v1 : Int32) (v2 : Int32) (h : ax_H) : Option (Int32 × ax_H) := ax_S ax_ρI (ax_env ax_EE 54) ax_nn r_54 r_54_99 [(0, .ref v0), (1, .int v1), (2, .int v2)] [.int k0] h
set_option maxRecDepth 100000 in
set_option maxHeartbeats 4000000 in
theorem Rd_readLeave_eq (v0 : Nat) (h : ax_H) : Rd_readLeave v0 h =
  (if (gS h v0).1 = 6 then (Rd_next v0 h).bind (fun r1 => if (gS r1.2 v0).1 = 6 then (Rd_takeWord v0 3 r1.2).bind (fun r2 => if decide (¬ r2.1 = (-1)) then
    (if (gS r2.2 v0).1 = 6 then if decide (¬ (gI r2.2 v0 11) = 0) then
      (if (gS r2.2 v0).1 = 6 then let h3 := pI r2.2 v0 9 0; if (gS h3 v0).1 = 6 then let h4 := pI h3 v0 8 0; if (gS h4 v0).1 = 6 then let h5 := pI h4 v0 7 0; Rd_readLeave_55 v0 0 0 h5 else none else none else none)
    else
      (if (gS r2.2 v0).1 = 6 then let h6 := pI r2.2 v0 9 0; if (gS h6 v0).1 = 6 then let h7 := pI h6 v0 8 0; if (gS h7 v0).1 = 6 then let h8 := pI h7 v0 7 0; Rd_readLeave_55 v0 1 0 h8 else none else none else none) else none)
  else
    (if (gS r2.2 v0).1 = 6 then if (gS r2.2 v0).1 = 6 then (Rd_fail v0 (gI r2.2 v0 3) 0 r2.2).bind (fun r9 => if r9.1 = 0 ∨ r9.1 = 1 then some (r9.1, r9.2) else none ) else none else none) ) else none ) else none) :=
  (ax_entI (N := 54) (C := r_54) (by decide) rfl (Nat.le_of_ble_eq_true rfl)).trans rfl
set_option maxRecDepth 100000 in
set_option maxHeartbeats 4000000 in
theorem Rd_readLeave_55_eq  (v0 : Nat) (v1 : Int32) (v2 : Int32) (h : ax_H) : Rd_readLeave_55  v0 v1 v2 h =
  (if decide ((400 : Int32) < v2) then
    (if decide (¬ v1 = 0) then
      (some (1, h) )
    else
      (if (gS h v0).1 = 6 then (Rd_step v0 11 0 h).bind (fun h1 => some (1, h1) ) else none) )
  else
    (if (gS h v0).1 = 6 then if decide ((gI h v0 7) = 6) then
      (if decide (¬ v1 = 0) then
        (some (1, h) )
      else
        (if (gS h v0).1 = 6 then (Rd_step v0 11 0 h).bind (fun h2 => some (1, h2) ) else none) )
    else
      (if (gS h v0).1 = 6 then if decide ((gI h v0 7) = 0) then
        (Rd_readLeave_99 1 v0 v1 v2 h )
      else
        (if (gS h v0).1 = 6 then if decide ((gI h v0 7) = 1) then
          (Rd_readLeave_99 1 v0 v1 v2 h )
        else
          (if (gS h v0).1 = 6 then if decide (¬ (gI h v0 7) = 3) then
            (Rd_readLeave_99 0 v0 v1 v2 h )
          else
            (Rd_readLeave_99 1 v0 v1 v2 h ) else none) else none) else none) else none) ) :=
  (ax_S_eq _ _ _ _).trans rfl
set_option maxRecDepth 100000 in
set_option maxHeartbeats 4000000 in
theorem Rd_readLeave_99_eq (k0 : Int32) (v0 : Nat) (v1 : Int32) (v2 : Int32) (h : ax_H) : Rd_readLeave_99 k0 v0 v1 v2 h =
  (if decide (k0 = 0) then
    (if (gS h v0).1 = 6 then (Rd_readOperator v0 h).bind (fun r1 => if decide (¬ r1.1 = 0) then
      (Rd_readLeave_55 v0 v1 (v2 + 1) r1.2 )
    else
      (some (0, r1.2) ) ) else none)
  else
    (if (gS h v0).1 = 6 then (Rd_readOperand v0 h).bind (fun r2 => if decide (r2.1 = 0) then
      (some (0, r2.2) )
    else
      (Rd_readLeave_55 v0 v1 (v2 + 1) r2.2 ) ) else none) ) :=
  (ax_S_eq _ _ _ _).trans rfl
/-- 55 BlackSun$Reader.readHand(I)Z -/
noncomputable def Rd_readHand (v0 : Nat) (v1 : Int32) (h : ax_H) : Option (Int32 × ax_H) := (ax_EE 55).2.1 [.ref v0, .int v1] h
set_option maxRecDepth 100000 in
set_option maxHeartbeats 4000000 in
theorem Rd_readHand_eq (v0 : Nat) (v1 : Int32) (h : ax_H) : Rd_readHand v0 v1 h =
  (if (gS h v0).1 = 6 then if decide ((gI h v0 6) = (-1)) then
    (if (gS h v0).1 = 6 then (Rd_next v0 h).bind (fun r1 => if (gS r1.2 v0).1 = 6 then (Rd_readNumber v0 7 r1.2).bind (fun r2 => if (gS r2.2 v0).1 = 6 then let h3 := pI r2.2 v0 6 r2.1; if (gS h3 v0).1 = 6 then if decide ((gI h3 v0 6) = (-1)) then
      (some (0, h3) )
    else
      (some (1, h3) ) else none else none ) else none ) else none)
  else
    (if (gS h v0).1 = 6 then (Rd_fail v0 v1 5 h).bind (fun r4 => if r4.1 = 0 ∨ r4.1 = 1 then some (r4.1, r4.2) else none ) else none) else none) :=
  (ax_entI (N := 55) (C := r_55) (by decide) rfl (Nat.le_of_ble_eq_true rfl)).trans rfl
/-- 56 BlackSun$Reader.readClause(I)Z -/
noncomputable def Rd_readClause (v0 : Nat) (v1 : Int32) (h : ax_H) : Option (Int32 × ax_H) := (ax_EE 56).2.1 [.ref v0, .int v1] h
set_option maxRecDepth 100000 in
set_option maxHeartbeats 4000000 in
theorem Rd_readClause_eq (v0 : Nat) (v1 : Int32) (h : ax_H) : Rd_readClause v0 v1 h =
  (if (gS h v0).1 = 6 then (Rd_next v0 h).bind (fun r1 => if (gS r1.2 v0).1 = 6 then if (gS r1.2 v0).1 = 6 then (Rd_takeWord v0 1 r1.2).bind (fun r2 => if decide (¬ r2.1 = (-1)) then
    (if decide (v1 < 12) then
      (if r2.1 = 0 then
        (if (gS r2.2 v0).1 = 6 then (Rd_readTerm v0 1 r2.2).bind (fun r3 => if r3.1 = 0 ∨ r3.1 = 1 then some (r3.1, r3.2) else none ) else none)
      else if r2.1 = 1 then
        (if (gS r2.2 v0).1 = 6 then (Rd_readTerm v0 2 r2.2).bind (fun r4 => if r4.1 = 0 ∨ r4.1 = 1 then some (r4.1, r4.2) else none ) else none)
      else if r2.1 = 2 then
        (if (gS r2.2 v0).1 = 6 then (Rd_readTerm v0 3 r2.2).bind (fun r5 => if r5.1 = 0 ∨ r5.1 = 1 then some (r5.1, r5.2) else none ) else none)
      else if r2.1 = 3 then
        (if (gS r2.2 v0).1 = 6 then (Rd_readLeave v0 r2.2).bind (fun r6 => if r6.1 = 0 ∨ r6.1 = 1 then some (r6.1, r6.2) else none ) else none)
      else 
        (if (gS r2.2 v0).1 = 6 then (Rd_readHand v0 (gI r1.2 v0 3) r2.2).bind (fun r7 => if r7.1 = 0 ∨ r7.1 = 1 then some (r7.1, r7.2) else none ) else none) )
    else
      (if (gS r2.2 v0).1 = 6 then (Rd_fail v0 (gI r1.2 v0 3) 4 r2.2).bind (fun r8 => if r8.1 = 0 ∨ r8.1 = 1 then some (r8.1, r8.2) else none ) else none) )
  else
    (if (gS r2.2 v0).1 = 6 then (Rd_fail v0 (gI r1.2 v0 3) 0 r2.2).bind (fun r9 => if r9.1 = 0 ∨ r9.1 = 1 then some (r9.1, r9.2) else none ) else none) ) else none else none ) else none) :=
  (ax_entI (N := 56) (C := r_56) (by decide) rfl (Nat.le_of_ble_eq_true rfl)).trans rfl
/-- 57 BlackSun$Reader.copyOfSteps()[I -/
noncomputable def Rd_copyOfSteps (v0 : Nat) (h : ax_H) : Option (Nat × ax_H) := (ax_EE 57).2.2.2 [.ref v0] h
set_option maxRecDepth 100000 in
set_option maxHeartbeats 4000000 in
theorem Rd_copyOfSteps_eq (v0 : Nat) (h : ax_H) : Rd_copyOfSteps v0 h =
  (if (gS h v0).1 = 6 then if ¬ (gI h v0 11) < 0 ∧ (Int32.toNatClampNeg (gI h v0 11)) ≤ 100000 then let h1 := nW h 16 (Int32.toNatClampNeg (gI h v0 11)) (Int32.toNatClampNeg (gI h v0 11)); if (gS h1 v0).1 = 6 then if (gS h1 v0).1 = 6 then if ax_cp h1 (gR h1 v0 12) 16 0 (gI h1 v0 11) ∧ ax_cp h1 (gN h) 16 0 (gI h1 v0 11) ∧ ¬ (gI h1 v0 11) < 0 ∧ (([] : List Value).map (fun v => v.category)).sum ≤ 8 then let h2 := rI h1 (gN h) (va_cpy (gI h1 (gR h1 v0 12)) (gI h1 (gN h)) (Int32.toNatClampNeg 0) (Int32.toNatClampNeg 0) (Int32.toNatClampNeg (gI h1 v0 11))); some ((gN h), h2) else none else none else none else none else none) :=
  (ax_entR (N := 57) (C := r_57) (by decide) rfl (Nat.le_of_ble_eq_true rfl)).trans rfl
/-- 58 BlackSun$Way.<init>([I[II[I)V -/
noncomputable def Wy_init (v0 : Nat) (v1 : Nat) (v2 : Nat) (v3 : Int32) (v4 : Nat) (h : ax_H) : Option (ax_H) := (ax_EE 58).1 [.ref v0, .ref v1, .ref v2, .int v3, .ref v4] h
set_option maxRecDepth 100000 in
set_option maxHeartbeats 4000000 in
theorem Wy_init_eq (v0 : Nat) (v1 : Nat) (v2 : Nat) (v3 : Int32) (v4 : Nat) (h : ax_H) : Wy_init v0 v1 v2 v3 v4 h =
  (if (gS h v0).1 < 12 ∧ (([] : List Value).map (fun v => v.category)).sum ≤ 8 then if (gS h v0).1 = 5 then let h1 := pR h v0 0 v1; if (gS h1 v0).1 = 5 then let h2 := pR h1 v0 1 v2; if (gS h2 v0).1 = 5 then let h3 := pI h2 v0 2 v3; if (gS h3 v0).1 = 5 then let h4 := pR h3 v0 3 v4; some h4 else none else none else none else none else none) :=
  (ax_entV (N := 58) (C := r_58) (by decide) rfl (Nat.le_of_ble_eq_true rfl)).trans rfl
