/-! the methods' equations, printed by wip/gen/eqs.py -/
/-- 200 BlackSunModel.sum()V -/
noncomputable def M_sum (v0 : Nat) (h : ax_H) : Option (ax_H) := (ax_EE 200).1 [.ref v0] h
noncomputable def M_sum_8  (v0 : Nat) (h : ax_H) : Option (ax_H) := ax_S ax_ρV (ax_env ax_EE 200) ax_nn r_200 r_200_8 [(0, .ref v0)] [] h
noncomputable def M_sum_47 (k0 : Int32) (v0 : Nat) (h : ax_H) : Option (ax_H) := ax_S ax_ρV (ax_env ax_EE 200) ax_nn r_200 r_200_47 [(0, .ref v0)] [.int k0] h
set_option maxRecDepth 100000 in
set_option maxHeartbeats 4000000 in
theorem M_sum_eq (v0 : Nat) (h : ax_H) : M_sum v0 h =
  (if (gS h v0).1 = 11 then (M_value v0 h).bind (fun h1 => if (gS h1 v0).1 = 11 then (M_blanks v0 h1).bind (fun h2 => M_sum_8 v0 h2 ) else none ) else none) :=
  (ax_entV (N := 200) (C := r_200) (by decide) rfl (Nat.le_of_ble_eq_true rfl)).trans rfl
set_option maxRecDepth 100000 in
set_option maxHeartbeats 4000000 in
theorem M_sum_8_eq  (v0 : Nat) (h : ax_H) : M_sum_8  v0 h =
  (if (gS h v0).1 = 11 then if decide (¬ (gI h v0 19) = 0) then
    (some h )
  else
    (if (gS h v0).1 = 11 then (M_sign v0 h).bind (fun r1 => if decide (r1.1 = 43) then
      (if (gS r1.2 v0).1 = 11 then (M_sign v0 r1.2).bind (fun r2 => if decide (¬ r2.1 = 43) then
        (M_sum_47 3 v0 r2.2 )
      else
        (M_sum_47 2 v0 r2.2 ) ) else none)
    else
      (if (gS r1.2 v0).1 = 11 then (M_sign v0 r1.2).bind (fun r3 => if decide (¬ r3.1 = 45) then
        (some r3.2 )
      else
        (if (gS r3.2 v0).1 = 11 then (M_sign v0 r3.2).bind (fun r4 => if decide (¬ r4.1 = 43) then
          (M_sum_47 3 v0 r4.2 )
        else
          (M_sum_47 2 v0 r4.2 ) ) else none) ) else none) ) else none) else none) :=
  (ax_S_eq _ _ _ _).trans rfl
set_option maxRecDepth 100000 in
set_option maxHeartbeats 4000000 in
theorem M_sum_47_eq (k0 : Int32) (v0 : Nat) (h : ax_H) : M_sum_47 k0 v0 h =
  (if (gS h v0).1 = 11 then if (gS h v0).1 = 11 then let h1 := pI h v0 18 ((gI h v0 18) + 1); if (gS h1 v0).1 = 11 then (M_value v0 h1).bind (fun h2 => if (gS h2 v0).1 = 11 then (M_entry v0 k0 0 h2).bind (fun h3 => if (gS h3 v0).1 = 11 then (M_blanks v0 h3).bind (fun h4 => M_sum_8 v0 h4 ) else none ) else none ) else none else none else none) :=
  (ax_S_eq _ _ _ _).trans rfl
/-- 201 BlackSunModel.compared()V -/
noncomputable def M_compared (v0 : Nat) (h : ax_H) : Option (ax_H) := (ax_EE 201).1 [.ref v0] h
noncomputable def M_compared_37  (v0 : Nat) (v1 : Int32) (h : ax_H) : Option (ax_H) := ax_S ax_ρV (ax_env ax_EE 201) ax_nn r_201 r_201_37 [(0, .ref v0), (1, .int v1)] [] h
noncomputable def M_compared_90 (k0 : Int32) (k1 : Int32) (k2 : Nat) (v0 : Nat) (v1 : Int32) (v2 : Int32) (h : ax_H) : Option (ax_H) := ax_S ax_ρV (ax_env ax_EE 201) ax_nn r_201 r_201_90 [(0, .ref v0), (1, .int v1), (2, .int v2)] [.int k0, .int k1, .ref k2] h
set_option maxRecDepth 100000 in
set_option maxHeartbeats 4000000 in
theorem M_compared_eq (v0 : Nat) (h : ax_H) : M_compared v0 h =
  (if (gS h v0).1 = 11 then (M_sum v0 h).bind (fun h1 => if (gS h1 v0).1 = 11 then (M_sign v0 h1).bind (fun r2 => if decide (r2.1 = 60) then
    (M_compared_37 v0 r2.1 r2.2 )
  else
    (if decide (r2.1 = 61) then
      (M_compared_37 v0 r2.1 r2.2 )
    else
      (if decide (r2.1 = 62) then
        (M_compared_37 v0 r2.1 r2.2 )
      else
        (if (gS r2.2 v0).1 = 11 then if (gS r2.2 v0).1 = 11 then (M_fails v0 0 (gI r2.2 v0 18) r2.2).bind (fun h3 => some h3 ) else none else none) ) ) ) else none ) else none) :=
  (ax_entV (N := 201) (C := r_201) (by decide) rfl (Nat.le_of_ble_eq_true rfl)).trans rfl
set_option maxRecDepth 100000 in
set_option maxHeartbeats 4000000 in
theorem M_compared_37_eq  (v0 : Nat) (v1 : Int32) (h : ax_H) : M_compared_37  v0 v1 h =
  (if (gS h v0).1 = 11 then if (gS h v0).1 = 11 then (M_isCounted v0 (gI h v0 18) h).bind (fun h1 => if (gS h1 v0).1 = 11 then if (gS h1 v0).1 = 11 then let h2 := pI h1 v0 18 ((gI h1 v0 18) + 1); if decide (v1 = 61) then
    (if (gS h2 v0).1 = 11 then M_compared_90 0 (gI h2 v0 18) v0 v0 v1 0 h2 else none)
  else
    (if (gS h2 v0).1 = 11 then (M_sign v0 h2).bind (fun r3 => if decide (¬ r3.1 = 61) then
      (if (gS r3.2 v0).1 = 11 then M_compared_90 0 (gI r3.2 v0 18) v0 v0 v1 0 r3.2 else none)
    else
      (if (gS r3.2 v0).1 = 11 then M_compared_90 1 (gI r3.2 v0 18) v0 v0 v1 1 r3.2 else none) ) else none) else none else none ) else none else none) :=
  (ax_S_eq _ _ _ _).trans rfl
set_option maxRecDepth 100000 in
set_option maxHeartbeats 4000000 in
theorem M_compared_90_eq (k0 : Int32) (k1 : Int32) (k2 : Nat) (v0 : Nat) (v1 : Int32) (v2 : Int32) (h : ax_H) : M_compared_90 k0 k1 k2 v0 v1 v2 h =
  (if (gS h k2).1 = 11 then let h1 := pI h k2 18 (k1 + k0); if (gS h1 v0).1 = 11 then (M_sum v0 h1).bind (fun h2 => if decide (¬ v1 = 61) then
    (if decide (¬ v1 = 60) then
      (if decide (v2 = 0) then
        (if (gS h2 v0).1 = 11 then (M_entry v0 8 0 h2).bind (fun h3 => some h3 ) else none)
      else
        (if (gS h2 v0).1 = 11 then (M_entry v0 7 0 h2).bind (fun h4 => some h4 ) else none) )
    else
      (if decide (v2 = 0) then
        (if (gS h2 v0).1 = 11 then (M_entry v0 4 0 h2).bind (fun h5 => some h5 ) else none)
      else
        (if (gS h2 v0).1 = 11 then (M_entry v0 5 0 h2).bind (fun h6 => some h6 ) else none) ) )
  else
    (if (gS h2 v0).1 = 11 then (M_entry v0 6 0 h2).bind (fun h7 => some h7 ) else none) ) else none else none) :=
  (ax_S_eq _ _ _ _).trans rfl
/-- 202 BlackSunModel.top()I -/
noncomputable def M_top (v0 : Nat) (h : ax_H) : Option (Int32 × ax_H) := (ax_EE 202).2.1 [.ref v0] h
set_option maxRecDepth 100000 in
set_option maxHeartbeats 4000000 in
theorem M_top_eq (v0 : Nat) (h : ax_H) : M_top v0 h =
  (if (gS h v0).1 = 11 then if decide (¬ (gI h v0 24) = 0) then
    (if (gS h v0).1 = 11 then if (gS h v0).1 = 11 then if ax_in h (gR h v0 35) 16 ((gI h v0 24) - 1) then some ((gI h (gR h v0 35) (Int32.toNatClampNeg ((gI h v0 24) - 1))), h) else none else none else none)
  else
    (some ((-1), h) ) else none) :=
  (ax_entI (N := 202) (C := r_202) (by decide) rfl (Nat.le_of_ble_eq_true rfl)).trans rfl
/-- 203 BlackSunModel.opens(I)V -/
noncomputable def M_opens (v0 : Nat) (v1 : Int32) (h : ax_H) : Option (ax_H) := (ax_EE 203).1 [.ref v0, .int v1] h
noncomputable def M_opens_30  (v0 : Nat) (v1 : Int32) (h : ax_H) : Option (ax_H) := ax_S ax_ρV (ax_env ax_EE 203) ax_nn r_203 r_203_30 [(0, .ref v0), (1, .int v1)] [] h
set_option maxRecDepth 100000 in
set_option maxHeartbeats 4000000 in
theorem M_opens_eq (v0 : Nat) (v1 : Int32) (h : ax_H) : M_opens v0 v1 h =
  (if decide (v1 = 9) then
    (if (gS h v0).1 = 11 then if decide (¬ (gI h v0 22) = 10) then
      (M_opens_30 v0 v1 h )
    else
      (if (gS h v0).1 = 11 then if (gS h v0).1 = 11 then (M_fails v0 2 (gI h v0 18) h).bind (fun h1 => M_opens_30 v0 v1 h1 ) else none else none) else none)
  else
    (if decide (¬ v1 = 12) then
      (if (gS h v0).1 = 11 then if (gS h v0).1 = 11 then if ax_in h (gR h v0 35) 16 (gI h v0 24) then let h2 := pI h (gR h v0 35) (Int32.toNatClampNeg (gI h v0 24)) v1; if (gS h2 v0).1 = 11 then if (gS h2 v0).1 = 11 then let h3 := pI h2 v0 24 ((gI h2 v0 24) + 1); some h3 else none else none else none else none else none)
    else
      (if (gS h v0).1 = 11 then if decide (¬ (gI h v0 22) = 10) then
        (M_opens_30 v0 v1 h )
      else
        (if (gS h v0).1 = 11 then if (gS h v0).1 = 11 then (M_fails v0 2 (gI h v0 18) h).bind (fun h4 => M_opens_30 v0 v1 h4 ) else none else none) else none) ) ) :=
  (ax_entV (N := 203) (C := r_203) (by decide) rfl (Nat.le_of_ble_eq_true rfl)).trans rfl
set_option maxRecDepth 100000 in
set_option maxHeartbeats 4000000 in
theorem M_opens_30_eq  (v0 : Nat) (v1 : Int32) (h : ax_H) : M_opens_30  v0 v1 h =
  (if (gS h v0).1 = 11 then if (gS h v0).1 = 11 then let h1 := pI h v0 22 ((gI h v0 22) + 1); if (gS h1 v0).1 = 11 then if (gS h1 v0).1 = 11 then if ax_in h1 (gR h1 v0 35) 16 (gI h1 v0 24) then let h2 := pI h1 (gR h1 v0 35) (Int32.toNatClampNeg (gI h1 v0 24)) v1; if (gS h2 v0).1 = 11 then if (gS h2 v0).1 = 11 then let h3 := pI h2 v0 24 ((gI h2 v0 24) + 1); some h3 else none else none else none else none else none else none else none) :=
  (ax_S_eq _ _ _ _).trans rfl
/-- 204 BlackSunModel.answers(I)V -/
noncomputable def M_answers (v0 : Nat) (v1 : Int32) (h : ax_H) : Option (ax_H) := (ax_EE 204).1 [.ref v0, .int v1] h
noncomputable def M_answers_0  (v0 : Nat) (v1 : Int32) (h : ax_H) : Option (ax_H) := ax_S ax_ρV (ax_env ax_EE 204) ax_nn r_204 r_204_0 [(0, .ref v0), (1, .int v1)] [] h
set_option maxRecDepth 100000 in
set_option maxHeartbeats 4000000 in
theorem M_answers_eq (v0 : Nat) (v1 : Int32) (h : ax_H) : M_answers v0 v1 h =
  (M_answers_0 v0 v1 h ) :=
  (ax_entV (N := 204) (C := r_204) (by decide) rfl (Nat.le_of_ble_eq_true rfl)).trans rfl
set_option maxRecDepth 100000 in
set_option maxHeartbeats 4000000 in
theorem M_answers_0_eq  (v0 : Nat) (v1 : Int32) (h : ax_H) : M_answers_0  v0 v1 h =
  (if (gS h v0).1 = 11 then (M_top v0 h).bind (fun r1 => if decide (¬ r1.1 = v1) then
    (some r1.2 )
  else
    (if (gS r1.2 v0).1 = 11 then if decide (¬ (gI r1.2 v0 19) = 0) then
      (some r1.2 )
    else
      (if (gS r1.2 v0).1 = 11 then (M_entry v0 v1 0 r1.2).bind (fun h2 => if (gS h2 v0).1 = 11 then if (gS h2 v0).1 = 11 then let h3 := pI h2 v0 24 ((gI h2 v0 24) - 1); if (gS h3 v0).1 = 11 then if decide (¬ v1 = 9) then
        (if (gS h3 v0).1 = 11 then let h4 := pI h3 v0 22 ((gI h3 v0 22) - 0); M_answers_0 v0 v1 h4 else none)
      else
        (if (gS h3 v0).1 = 11 then let h5 := pI h3 v0 22 ((gI h3 v0 22) - 1); M_answers_0 v0 v1 h5 else none) else none else none else none ) else none) else none) ) else none) :=
  (ax_S_eq _ _ _ _).trans rfl
/-- 205 BlackSunModel.fact()Z -/
noncomputable def M_fact (v0 : Nat) (h : ax_H) : Option (Int32 × ax_H) := (ax_EE 205).2.1 [.ref v0] h
set_option maxRecDepth 100000 in
set_option maxHeartbeats 4000000 in
theorem M_fact_eq (v0 : Nat) (h : ax_H) : M_fact v0 h =
  (if (gS h v0).1 = 11 then (M_blanks v0 h).bind (fun h1 => if (gS h1 v0).1 = 11 then (M_stands v0 14 h1).bind (fun r2 => if decide (r2.1 = 0) then
    (if (gS r2.2 v0).1 = 11 then (M_sign v0 r2.2).bind (fun r3 => if decide (¬ r3.1 = 91) then
      (if (gS r3.2 v0).1 = 11 then (M_compared v0 r3.2).bind (fun h4 => some (1, h4) ) else none)
    else
      (if (gS r3.2 v0).1 = 11 then (M_opens v0 12 r3.2).bind (fun h5 => if (gS h5 v0).1 = 11 then if (gS h5 v0).1 = 11 then let h6 := pI h5 v0 18 ((gI h5 v0 18) + 1); some (0, h6) else none else none ) else none) ) else none)
  else
    (if (gS r2.2 v0).1 = 11 then (M_opens v0 9 r2.2).bind (fun h7 => if (gS h7 v0).1 = 11 then if (gS h7 v0).1 = 11 then let h8 := pI h7 v0 18 ((gI h7 v0 18) + 3); some (0, h8) else none else none ) else none) ) else none ) else none) :=
  (ax_entI (N := 205) (C := r_205) (by decide) rfl (Nat.le_of_ble_eq_true rfl)).trans rfl
/-- 206 BlackSunModel.test()V -/
noncomputable def M_test (v0 : Nat) (h : ax_H) : Option (ax_H) := (ax_EE 206).1 [.ref v0] h
noncomputable def M_test_9  (v0 : Nat) (v1 : Int32) (v2 : Int32) (h : ax_H) : Option (ax_H) := ax_S ax_ρV (ax_env ax_EE 206) ax_nn r_206 r_206_9 [(0, .ref v0), (1, .int v1), (2, .int v2)] [] h
noncomputable def M_test_82  (v0 : Nat) (v2 : Int32) (v3 : Int32) (v4 : Int32) (h : ax_H) : Option (ax_H) := ax_S ax_ρV (ax_env ax_EE 206) ax_nn r_206 r_206_82 [(0, .ref v0), (2, .int v2), (3, .int v3), (4, .int v4)] [] h
noncomputable def M_test_105 (k0 : Int32) (k1 : Nat) (v0 : Nat) (v2 : Int32) (v3 : Int32) (h : ax_H) : Option (ax_H) := ax_S ax_ρV (ax_env ax_EE 206) ax_nn r_206 r_206_105 [(0, .ref v0), (2, .int v2), (3, .int v3)] [.int k0, .ref k1] h
noncomputable def M_test_164  (v0 : Nat) (v1 : Int32) (v2 : Int32) (h : ax_H) : Option (ax_H) := ax_S ax_ρV (ax_env ax_EE 206) ax_nn r_206 r_206_164 [(0, .ref v0), (1, .int v1), (2, .int v2)] [] h
set_option maxRecDepth 100000 in
set_option maxHeartbeats 4000000 in
theorem M_test_eq (v0 : Nat) (h : ax_H) : M_test v0 h =
  (if (gS h v0).1 = 11 then let h1 := pI h v0 24 0; M_test_9 v0 1 1 h1 else none) :=
  (ax_entV (N := 206) (C := r_206) (by decide) rfl (Nat.le_of_ble_eq_true rfl)).trans rfl
set_option maxRecDepth 100000 in
set_option maxHeartbeats 4000000 in
theorem M_test_9_eq  (v0 : Nat) (v1 : Int32) (v2 : Int32) (h : ax_H) : M_test_9  v0 v1 v2 h =
  (if decide (v2 = 0) then
    (some h )
  else
    (if (gS h v0).1 = 11 then if decide (¬ (gI h v0 19) = 0) then
      (some h )
    else
      (if decide (v1 = 0) then
        (if (gS h v0).1 = 11 then (M_answers v0 9 h).bind (fun h1 => if (gS h1 v0).1 = 11 then (M_blanks v0 h1).bind (fun h2 => if (gS h2 v0).1 = 11 then (M_stands v0 27 h2).bind (fun r3 => if (gS r3.2 v0).1 = 11 then (M_stands v0 28 r3.2).bind (fun r4 => if (gS r4.2 v0).1 = 11 then (M_answers v0 10 r4.2).bind (fun h5 => if decide (¬ r3.1 = 0) then
          (M_test_82 v0 v2 r3.1 r4.1 h5 )
        else
          (if decide (r4.1 = 0) then
            (if (gS h5 v0).1 = 11 then (M_answers v0 11 h5).bind (fun h6 => if (gS h6 v0).1 = 11 then (M_top v0 h6).bind (fun r7 => if decide (¬ r7.1 = 12) then
              (M_test_9 v0 v1 0 r7.2 )
            else
              (if (gS r7.2 v0).1 = 11 then (M_sign v0 r7.2).bind (fun r8 => if decide (r8.1 = 93) then
                (M_test_164 v0 v1 v2 r8.2 )
              else
                (if (gS r8.2 v0).1 = 11 then if (gS r8.2 v0).1 = 11 then (M_fails v0 0 (gI r8.2 v0 18) r8.2).bind (fun h9 => M_test_164 v0 v1 v2 h9 ) else none else none) ) else none) ) else none ) else none)
          else
            (M_test_82 v0 v2 r3.1 r4.1 h5 ) ) ) else none ) else none ) else none ) else none ) else none)
      else
        (if (gS h v0).1 = 11 then (M_fact v0 h).bind (fun r10 => if decide (¬ r10.1 = 0) then
          (M_test_9 v0 0 v2 r10.2 )
        else
          (M_test_9 v0 1 v2 r10.2 ) ) else none) ) else none) ) :=
  (ax_S_eq _ _ _ _).trans rfl
set_option maxRecDepth 100000 in
set_option maxHeartbeats 4000000 in
theorem M_test_82_eq  (v0 : Nat) (v2 : Int32) (v3 : Int32) (v4 : Int32) (h : ax_H) : M_test_82  v0 v2 v3 v4 h =
  (if decide (v4 = 0) then
    (if decide (v3 = 0) then
      (M_test_105 11 v0 v0 v2 v3 h )
    else
      (M_test_105 10 v0 v0 v2 v3 h ) )
  else
    (if (gS h v0).1 = 11 then (M_answers v0 11 h).bind (fun h1 => if decide (v3 = 0) then
      (M_test_105 11 v0 v0 v2 v3 h1 )
    else
      (M_test_105 10 v0 v0 v2 v3 h1 ) ) else none) ) :=
  (ax_S_eq _ _ _ _).trans rfl
set_option maxRecDepth 100000 in
set_option maxHeartbeats 4000000 in
theorem M_test_105_eq (k0 : Int32) (k1 : Nat) (v0 : Nat) (v2 : Int32) (v3 : Int32) (h : ax_H) : M_test_105 k0 k1 v0 v2 v3 h =
  (if (gS h k1).1 = 11 then (M_opens k1 k0 h).bind (fun h1 => if (gS h1 v0).1 = 11 then if decide (v3 = 0) then
    (if (gS h1 v0).1 = 11 then let h2 := pI h1 v0 18 ((gI h1 v0 18) + 2); M_test_9 v0 1 v2 h2 else none)
  else
    (if (gS h1 v0).1 = 11 then let h3 := pI h1 v0 18 ((gI h1 v0 18) + 3); M_test_9 v0 1 v2 h3 else none) else none ) else none) :=
  (ax_S_eq _ _ _ _).trans rfl
set_option maxRecDepth 100000 in
set_option maxHeartbeats 4000000 in
theorem M_test_164_eq  (v0 : Nat) (v1 : Int32) (v2 : Int32) (h : ax_H) : M_test_164  v0 v1 v2 h =
  (if (gS h v0).1 = 11 then if (gS h v0).1 = 11 then let h1 := pI h v0 18 ((gI h v0 18) + 1); if (gS h1 v0).1 = 11 then if (gS h1 v0).1 = 11 then let h2 := pI h1 v0 24 ((gI h1 v0 24) - 1); if (gS h2 v0).1 = 11 then if (gS h2 v0).1 = 11 then let h3 := pI h2 v0 22 ((gI h2 v0 22) - 1); M_test_9 v0 v1 v2 h3 else none else none else none else none else none else none) :=
  (ax_S_eq _ _ _ _).trans rfl
/-- 207 BlackSunModel.term(Z)I -/
noncomputable def M_term (v0 : Nat) (v1 : Int32) (h : ax_H) : Option (Int32 × ax_H) := (ax_EE 207).2.1 [.ref v0, .int v1] h
noncomputable def M_term_6  (v0 : Nat) (v1 : Int32) (v2 : Int32) (h : ax_H) : Option (Int32 × ax_H) := ax_S ax_ρI (ax_env ax_EE 207) ax_nn r_207 r_207_6 [(0, .ref v0), (1, .int v1), (2, .int v2)] [] h
noncomputable def M_term_29  (v0 : Nat) (v1 : Int32) (v2 : Int32) (h : ax_H) : Option (Int32 × ax_H) := ax_S ax_ρI (ax_env ax_EE 207) ax_nn r_207 r_207_29 [(0, .ref v0), (1, .int v1), (2, .int v2)] [] h
noncomputable def M_term_75  (v0 : Nat) (v2 : Int32) (h : ax_H) : Option (Int32 × ax_H) := ax_S ax_ρI (ax_env ax_EE 207) ax_nn r_207 r_207_75 [(0, .ref v0), (2, .int v2)] [] h
set_option maxRecDepth 100000 in
set_option maxHeartbeats 4000000 in
theorem M_term_eq (v0 : Nat) (v1 : Int32) (h : ax_H) : M_term v0 v1 h =
  (if (gS h v0).1 = 11 then (M_blanks v0 h).bind (fun h1 => M_term_6 v0 v1 0 h1 ) else none) :=
  (ax_entI (N := 207) (C := r_207) (by decide) rfl (Nat.le_of_ble_eq_true rfl)).trans rfl
set_option maxRecDepth 100000 in
set_option maxHeartbeats 4000000 in
theorem M_term_6_eq  (v0 : Nat) (v1 : Int32) (v2 : Int32) (h : ax_H) : M_term_6  v0 v1 v2 h =
  (if decide ((6 : Int32) ≤ v2) then
    (M_term_29 v0 v1 v2 h )
  else
    ((M_termName v2 h).bind (fun r1 => if (gS r1.2 v0).1 = 11 then (M_stands v0 r1.1 r1.2).bind (fun r2 => if decide (¬ r2.1 = 0) then
      (M_term_29 v0 v1 v2 r2.2 )
    else
      (M_term_6 v0 v1 (v2 + 1) r2.2 ) ) else none )) ) :=
  (ax_S_eq _ _ _ _).trans rfl
set_option maxRecDepth 100000 in
set_option maxHeartbeats 4000000 in
theorem M_term_29_eq  (v0 : Nat) (v1 : Int32) (v2 : Int32) (h : ax_H) : M_term_29  v0 v1 v2 h =
  (if decide (¬ v2 = 6) then
    (if (gS h v0).1 = 11 then if (gS h v0).1 = 11 then if ax_in h (gR h v0 33) 16 (((6 : Int32) * (gI h v0 20)) + v2) then if decide (¬ (gI h (gR h v0 33) (Int32.toNatClampNeg (((6 : Int32) * (gI h v0 20)) + v2))) = 0) then
      (M_term_75 v0 v2 h )
    else
      (if decide (v1 = 0) then
        (if (gS h v0).1 = 11 then (M_termName v2 h).bind (fun r1 => if 1 ≤ r1.1 ∧ r1.1 ≤ 34 then (Js_length r1.1 r1.2).bind (fun r2 => if (gS r2.2 v0).1 = 11 then let h3 := pI r2.2 v0 18 ((gI h v0 18) + r2.1); some (v2, h3) else none ) else none ) else none)
      else
        (if (gS h v0).1 = 11 then if decide (¬ (gI h v0 25) = 3) then
          (if (gS h v0).1 = 11 then (M_termName v2 h).bind (fun r4 => if 1 ≤ r4.1 ∧ r4.1 ≤ 34 then (Js_length r4.1 r4.2).bind (fun r5 => if (gS r5.2 v0).1 = 11 then let h6 := pI r5.2 v0 18 ((gI h v0 18) + r5.1); some (v2, h6) else none ) else none ) else none)
        else
          (M_term_75 v0 v2 h ) else none) ) else none else none else none)
  else
    (if (gS h v0).1 = 11 then if (gS h v0).1 = 11 then (M_fails v0 0 (gI h v0 18) h).bind (fun h7 => some (0, h7) ) else none else none) ) :=
  (ax_S_eq _ _ _ _).trans rfl
set_option maxRecDepth 100000 in
set_option maxHeartbeats 4000000 in
theorem M_term_75_eq  (v0 : Nat) (v2 : Int32) (h : ax_H) : M_term_75  v0 v2 h =
  (if (gS h v0).1 = 11 then if (gS h v0).1 = 11 then (M_fails v0 5 (gI h v0 18) h).bind (fun h1 => if (gS h1 v0).1 = 11 then (M_termName v2 h1).bind (fun r2 => if 1 ≤ r2.1 ∧ r2.1 ≤ 34 then (Js_length r2.1 r2.2).bind (fun r3 => if (gS r3.2 v0).1 = 11 then let h4 := pI r3.2 v0 18 ((gI h1 v0 18) + r3.1); some (v2, h4) else none ) else none ) else none ) else none else none) :=
  (ax_S_eq _ _ _ _).trans rfl
/-- 208 BlackSunModel.names(II)V -/
noncomputable def M_names (v0 : Nat) (v1 : Int32) (v2 : Int32) (h : ax_H) : Option (ax_H) := (ax_EE 208).1 [.ref v0, .int v1, .int v2] h
set_option maxRecDepth 100000 in
set_option maxHeartbeats 4000000 in
theorem M_names_eq (v0 : Nat) (v1 : Int32) (v2 : Int32) (h : ax_H) : M_names v0 v1 v2 h =
  (if (gS h v0).1 = 11 then if decide (¬ (gI h v0 19) = 0) then
    (some h )
  else
    (if (gS h v0).1 = 11 then if (gS h v0).1 = 11 then if ax_in h (gR h v0 33) 16 (((6 : Int32) * (gI h v0 20)) + v1) then let h1 := pI h (gR h v0 33) (Int32.toNatClampNeg (((6 : Int32) * (gI h v0 20)) + v1)) v2; if (gS h1 v0).1 = 11 then if decide (¬ v2 = 1) then
      (if (gS h1 v0).1 = 11 then let h2 := pI h1 v0 25 ((gI h1 v0 25) + 0); some h2 else none)
    else
      (if (gS h1 v0).1 = 11 then let h3 := pI h1 v0 25 ((gI h1 v0 25) + 1); some h3 else none) else none else none else none else none) else none) :=
  (ax_entV (N := 208) (C := r_208) (by decide) rfl (Nat.le_of_ble_eq_true rfl)).trans rfl
/-- 209 BlackSunModel.clause(I)V -/
noncomputable def M_clause (v0 : Nat) (v1 : Int32) (h : ax_H) : Option (ax_H) := (ax_EE 209).1 [.ref v0, .int v1] h
noncomputable def M_clause_84  (v0 : Nat) (v1 : Int32) (v2 : Int32) (v3 : Int32) (v4 : Int32) (v6 : Int32) (v7 : Int32) (h : ax_H) : Option (ax_H) := ax_S ax_ρV (ax_env ax_EE 209) ax_nn r_209 r_209_84 [(0, .ref v0), (1, .int v1), (2, .int v2), (3, .int v3), (4, .int v4), (6, .int v6), (7, .int v7)] [] h
noncomputable def M_clause_122  (v0 : Nat) (v3 : Int32) (v4 : Int32) (v6 : Int32) (v7 : Int32) (h : ax_H) : Option (ax_H) := ax_S ax_ρV (ax_env ax_EE 209) ax_nn r_209 r_209_122 [(0, .ref v0), (3, .int v3), (4, .int v4), (6, .int v6), (7, .int v7)] [] h
noncomputable def M_clause_150 (k0 : Int32) (k1 : Int32) (k2 : Nat) (v0 : Nat) (v3 : Int32) (v4 : Int32) (v6 : Int32) (v7 : Int32) (h : ax_H) : Option (ax_H) := ax_S ax_ρV (ax_env ax_EE 209) ax_nn r_209 r_209_150 [(0, .ref v0), (3, .int v3), (4, .int v4), (6, .int v6), (7, .int v7)] [.int k0, .int k1, .ref k2] h
noncomputable def M_clause_295 (k0 : Int32) (k1 : Int32) (k2 : Nat) (v0 : Nat) (v4 : Int32) (v8 : Int32) (h : ax_H) : Option (ax_H) := ax_S ax_ρV (ax_env ax_EE 209) ax_nn r_209 r_209_295 [(0, .ref v0), (4, .int v4), (8, .int v8)] [.int k0, .int k1, .ref k2] h
noncomputable def M_clause_345 (k0 : Int32) (k1 : Int32) (k2 : Nat) (v0 : Nat) (v8 : Int32) (v9 : Int32) (h : ax_H) : Option (ax_H) := ax_S ax_ρV (ax_env ax_EE 209) ax_nn r_209 r_209_345 [(0, .ref v0), (8, .int v8), (9, .int v9)] [.int k0, .int k1, .ref k2] h
set_option maxRecDepth 100000 in
set_option maxHeartbeats 4000000 in
theorem M_clause_eq (v0 : Nat) (v1 : Int32) (h : ax_H) : M_clause v0 v1 h =
  (if (gS h v0).1 = 11 then (M_blanks v0 h).bind (fun h1 => if (gS h1 v0).1 = 11 then if (gS h1 v0).1 = 11 then (M_stands v0 8 h1).bind (fun r2 => if (gS r2.2 v0).1 = 11 then (M_stands v0 9 r2.2).bind (fun r3 => if (gS r3.2 v0).1 = 11 then (M_stands v0 10 r3.2).bind (fun r4 => if (gS r4.2 v0).1 = 11 then (M_stands v0 11 r4.2).bind (fun r5 => if (gS r5.2 v0).1 = 11 then (M_stands v0 12 r5.2).bind (fun r6 => if decide (¬ r2.1 = 0) then
    (M_clause_84 v0 v1 (gI h1 v0 18) r2.1 r3.1 r5.1 r6.1 r6.2 )
  else
    (if decide (¬ r3.1 = 0) then
      (M_clause_84 v0 v1 (gI h1 v0 18) r2.1 r3.1 r5.1 r6.1 r6.2 )
    else
      (if decide (¬ r4.1 = 0) then
        (M_clause_84 v0 v1 (gI h1 v0 18) r2.1 r3.1 r5.1 r6.1 r6.2 )
      else
        (if decide (¬ r5.1 = 0) then
          (M_clause_84 v0 v1 (gI h1 v0 18) r2.1 r3.1 r5.1 r6.1 r6.2 )
        else
          (if decide (¬ r6.1 = 0) then
            (M_clause_84 v0 v1 (gI h1 v0 18) r2.1 r3.1 r5.1 r6.1 r6.2 )
          else
            (if (gS r6.2 v0).1 = 11 then (M_fails v0 0 (gI h1 v0 18) r6.2).bind (fun h7 => some h7 ) else none) ) ) ) ) ) else none ) else none ) else none ) else none ) else none else none ) else none) :=
  (ax_entV (N := 209) (C := r_209) (by decide) rfl (Nat.le_of_ble_eq_true rfl)).trans rfl
set_option maxRecDepth 100000 in
set_option maxHeartbeats 4000000 in
theorem M_clause_84_eq  (v0 : Nat) (v1 : Int32) (v2 : Int32) (v3 : Int32) (v4 : Int32) (v6 : Int32) (v7 : Int32) (h : ax_H) : M_clause_84  v0 v1 v2 v3 v4 v6 v7 h =
  (if decide (¬ v1 = 12) then
    (if decide (v7 = 0) then
      (M_clause_122 v0 v3 v4 v6 v7 h )
    else
      (if (gS h v0).1 = 11 then if (gS h v0).1 = 11 then if ax_in h (gR h v0 32) 16 (gI h v0 20) then if decide ((gI h (gR h v0 32) (Int32.toNatClampNeg (gI h v0 20))) = (-1)) then
        (M_clause_122 v0 v3 v4 v6 v7 h )
      else
        (if (gS h v0).1 = 11 then (M_fails v0 5 v2 h).bind (fun h1 => some h1 ) else none) else none else none else none) )
  else
    (if (gS h v0).1 = 11 then (M_fails v0 4 v2 h).bind (fun h2 => some h2 ) else none) ) :=
  (ax_S_eq _ _ _ _).trans rfl
set_option maxRecDepth 100000 in
set_option maxHeartbeats 4000000 in
theorem M_clause_122_eq  (v0 : Nat) (v3 : Int32) (v4 : Int32) (v6 : Int32) (v7 : Int32) (h : ax_H) : M_clause_122  v0 v3 v4 v6 v7 h =
  (if (gS h v0).1 = 11 then if decide (v3 = 0) then
    (if decide (¬ v4 = 0) then
      (M_clause_150 4 (gI h v0 18) v0 v0 v3 v4 v6 v7 h )
    else
      (if decide (v7 = 0) then
        (M_clause_150 5 (gI h v0 18) v0 v0 v3 v4 v6 v7 h )
      else
        (M_clause_150 4 (gI h v0 18) v0 v0 v3 v4 v6 v7 h ) ) )
  else
    (M_clause_150 3 (gI h v0 18) v0 v0 v3 v4 v6 v7 h ) else none) :=
  (ax_S_eq _ _ _ _).trans rfl
set_option maxRecDepth 100000 in
set_option maxHeartbeats 4000000 in
theorem M_clause_150_eq (k0 : Int32) (k1 : Int32) (k2 : Nat) (v0 : Nat) (v3 : Int32) (v4 : Int32) (v6 : Int32) (v7 : Int32) (h : ax_H) : M_clause_150 k0 k1 k2 v0 v3 v4 v6 v7 h =
  (if (gS h k2).1 = 11 then let h1 := pI h k2 18 (k1 + k0); if decide (v7 = 0) then
    (if decide (v6 = 0) then
      (if (gS h1 v0).1 = 11 then (M_term v0 v3 h1).bind (fun r2 => if decide (v3 = 0) then
        (if decide (v4 = 0) then
          (M_clause_295 3 r2.1 v0 v0 v4 r2.1 r2.2 )
        else
          (M_clause_295 2 r2.1 v0 v0 v4 r2.1 r2.2 ) )
      else
        (M_clause_295 1 r2.1 v0 v0 v4 r2.1 r2.2 ) ) else none)
    else
      (if (gS h1 v0).1 = 11 then (M_takes v0 13 h1).bind (fun r3 => if decide (¬ r3.1 = 0) then
        (if (gS r3.2 v0).1 = 11 then if (gS r3.2 v0).1 = 11 then if (gS r3.2 v0).1 = 11 then if ax_in r3.2 (gR r3.2 v0 31) 16 (gI r3.2 v0 20) then let x4 := (((12 : Int32) * (gI r3.2 v0 20)) + (gI r3.2 (gR r3.2 v0 31) (Int32.toNatClampNeg (gI r3.2 v0 20)))); if (gS r3.2 v0).1 = 11 then if (gS r3.2 v0).1 = 11 then if ax_in r3.2 (gR r3.2 v0 29) 16 x4 then let h5 := pI r3.2 (gR r3.2 v0 29) (Int32.toNatClampNeg x4) (gI r3.2 v0 21); if (gS h5 v0).1 = 11 then (M_test v0 h5).bind (fun h6 => if (gS h6 v0).1 = 11 then if (gS h6 v0).1 = 11 then if ax_in h6 (gR h6 v0 30) 16 x4 then let h7 := pI h6 (gR h6 v0 30) (Int32.toNatClampNeg x4) (gI h6 v0 21); if (gS h7 v0).1 = 11 then if (gS h7 v0).1 = 11 then if ax_in h7 (gR h7 v0 31) 16 (gI h7 v0 20) then if ax_in h7 (gR h7 v0 31) 16 (gI h7 v0 20) then let h8 := pI h7 (gR h7 v0 31) (Int32.toNatClampNeg (gI h7 v0 20)) ((gI h7 (gR h7 v0 31) (Int32.toNatClampNeg (gI h7 v0 20))) + 1); some h8 else none else none else none else none else none else none else none ) else none else none else none else none else none else none else none else none)
      else
        (if (gS r3.2 v0).1 = 11 then if (gS r3.2 v0).1 = 11 then (M_fails v0 0 (gI r3.2 v0 18) r3.2).bind (fun h9 => some h9 ) else none else none) ) else none) )
  else
    (if (gS h1 v0).1 = 11 then (M_blanks v0 h1).bind (fun h10 => if (gS h10 v0).1 = 11 then if (gS h10 v0).1 = 11 then if (gS h10 v0).1 = 11 then (M_digits v0 7 h10).bind (fun r11 => if ax_in r11.2 (gR h10 v0 32) 16 (gI h10 v0 20) then let h12 := pI r11.2 (gR h10 v0 32) (Int32.toNatClampNeg (gI h10 v0 20)) r11.1; some h12 else none ) else none else none else none ) else none) else none) :=
  (ax_S_eq _ _ _ _).trans rfl
set_option maxRecDepth 100000 in
set_option maxHeartbeats 4000000 in
theorem M_clause_295_eq (k0 : Int32) (k1 : Int32) (k2 : Nat) (v0 : Nat) (v4 : Int32) (v8 : Int32) (h : ax_H) : M_clause_295 k0 k1 k2 v0 v4 v8 h =
  (if (gS h k2).1 = 11 then (M_names k2 k1 k0 h).bind (fun h1 => if decide (v4 = 0) then
    (some h1 )
  else
    (if (gS h1 v0).1 = 11 then if decide (¬ (gI h1 v0 19) = 0) then
      (some h1 )
    else
      (if (gS h1 v0).1 = 11 then (M_blanks v0 h1).bind (fun h2 => if (gS h2 v0).1 = 11 then (M_sign v0 h2).bind (fun r3 => if decide (¬ r3.1 = 45) then
        (if (gS r3.2 v0).1 = 11 then M_clause_345 0 (gI r3.2 v0 18) v0 v0 v8 0 r3.2 else none)
      else
        (if (gS r3.2 v0).1 = 11 then M_clause_345 1 (gI r3.2 v0 18) v0 v0 v8 1 r3.2 else none) ) else none ) else none) else none) ) else none) :=
  (ax_S_eq _ _ _ _).trans rfl
set_option maxRecDepth 100000 in
set_option maxHeartbeats 4000000 in
theorem M_clause_345_eq (k0 : Int32) (k1 : Int32) (k2 : Nat) (v0 : Nat) (v8 : Int32) (v9 : Int32) (h : ax_H) : M_clause_345 k0 k1 k2 v0 v8 v9 h =
  (if (gS h k2).1 = 11 then let h1 := pI h k2 18 (k1 + k0); if (gS h1 v0).1 = 11 then (M_digits v0 99999 h1).bind (fun r2 => if (gS r2.2 v0).1 = 11 then if (gS r2.2 v0).1 = 11 then if decide (v9 = 0) then
    (if ax_in r2.2 (gR r2.2 v0 34) 16 (((6 : Int32) * (gI r2.2 v0 20)) + v8) then let h3 := pI r2.2 (gR r2.2 v0 34) (Int32.toNatClampNeg (((6 : Int32) * (gI r2.2 v0 20)) + v8)) r2.1; some h3 else none)
  else
    (if ax_in r2.2 (gR r2.2 v0 34) 16 (((6 : Int32) * (gI r2.2 v0 20)) + v8) then let h4 := pI r2.2 (gR r2.2 v0 34) (Int32.toNatClampNeg (((6 : Int32) * (gI r2.2 v0 20)) + v8)) (-r2.1); some h4 else none) else none else none ) else none else none) :=
  (ax_S_eq _ _ _ _).trans rfl
/-- 210 BlackSunModel.way()I -/
noncomputable def M_way (v0 : Nat) (h : ax_H) : Option (Int32 × ax_H) := (ax_EE 210).2.1 [.ref v0] h
noncomputable def M_way_63  (v0 : Nat) (v1 : Int32) (h : ax_H) : Option (Int32 × ax_H) := ax_S ax_ρI (ax_env ax_EE 210) ax_nn r_210 r_210_63 [(0, .ref v0), (1, .int v1)] [] h
noncomputable def M_way_109  (v0 : Nat) (v1 : Int32) (v2 : Int32) (h : ax_H) : Option (Int32 × ax_H) := ax_S ax_ρI (ax_env ax_EE 210) ax_nn r_210 r_210_109 [(0, .ref v0), (1, .int v1), (2, .int v2)] [] h
noncomputable def M_way_161  (v0 : Nat) (v1 : Int32) (h : ax_H) : Option (Int32 × ax_H) := ax_S ax_ρI (ax_env ax_EE 210) ax_nn r_210 r_210_161 [(0, .ref v0), (1, .int v1)] [] h
set_option maxRecDepth 100000 in
set_option maxHeartbeats 4000000 in
theorem M_way_eq (v0 : Nat) (h : ax_H) : M_way v0 h =
  (if (gS h v0).1 = 11 then if decide (¬ (gI h v0 20) = 10) then
    (if (gS h v0).1 = 11 then let h1 := pI h v0 18 0; if (gS h1 v0).1 = 11 then let h2 := pI h1 v0 19 0; if (gS h2 v0).1 = 11 then let h3 := pI h2 v0 21 0; if (gS h3 v0).1 = 11 then let h4 := pI h3 v0 22 0; if (gS h4 v0).1 = 11 then let h5 := pI h4 v0 23 0; if (gS h5 v0).1 = 11 then let h6 := pI h5 v0 25 0; if (gS h6 v0).1 = 11 then if (gS h6 v0).1 = 11 then if ax_in h6 (gR h6 v0 31) 16 (gI h6 v0 20) then let h7 := pI h6 (gR h6 v0 31) (Int32.toNatClampNeg (gI h6 v0 20)) 0; if (gS h7 v0).1 = 11 then if (gS h7 v0).1 = 11 then if ax_in h7 (gR h7 v0 32) 16 (gI h7 v0 20) then let h8 := pI h7 (gR h7 v0 32) (Int32.toNatClampNeg (gI h7 v0 20)) (-1); M_way_63 v0 0 h8 else none else none else none else none else none else none else none else none else none else none else none else none)
  else
    (some ((-1), h) ) else none) :=
  (ax_entI (N := 210) (C := r_210) (by decide) rfl (Nat.le_of_ble_eq_true rfl)).trans rfl
set_option maxRecDepth 100000 in
set_option maxHeartbeats 4000000 in
theorem M_way_63_eq  (v0 : Nat) (v1 : Int32) (h : ax_H) : M_way_63  v0 v1 h =
  (if decide ((6 : Int32) ≤ v1) then
    (M_way_109 v0 0 1 h )
  else
    (if (gS h v0).1 = 11 then if (gS h v0).1 = 11 then if ax_in h (gR h v0 33) 16 (((6 : Int32) * (gI h v0 20)) + v1) then let h1 := pI h (gR h v0 33) (Int32.toNatClampNeg (((6 : Int32) * (gI h v0 20)) + v1)) 0; if (gS h1 v0).1 = 11 then if (gS h1 v0).1 = 11 then if ax_in h1 (gR h1 v0 34) 16 (((6 : Int32) * (gI h1 v0 20)) + v1) then let h2 := pI h1 (gR h1 v0 34) (Int32.toNatClampNeg (((6 : Int32) * (gI h1 v0 20)) + v1)) 0; M_way_63 v0 (v1 + 1) h2 else none else none else none else none else none else none) ) :=
  (ax_S_eq _ _ _ _).trans rfl
set_option maxRecDepth 100000 in
set_option maxHeartbeats 4000000 in
theorem M_way_109_eq  (v0 : Nat) (v1 : Int32) (v2 : Int32) (h : ax_H) : M_way_109  v0 v1 v2 h =
  (if decide (v2 = 0) then
    (if (gS h v0).1 = 11 then let h1 := pI h v0 17 0; if (gS h1 v0).1 = 11 then if decide ((gI h1 v0 19) ≤ 0) then
      (if (gS h1 v0).1 = 11 then if (gS h1 v0).1 = 11 then let h2 := pI h1 v0 20 ((gI h1 v0 20) + 1); if (gS h2 v0).1 = 11 then some (((gI h2 v0 20) - 1), h2) else none else none else none)
    else
      (if (gS h1 v0).1 = 11 then some ((((-2) : Int32) - (gI h1 v0 19)), h1) else none) else none else none)
  else
    (if (gS h v0).1 = 11 then (M_clause v0 v1 h).bind (fun h3 => if (gS h3 v0).1 = 11 then (M_blanks v0 h3).bind (fun h4 => if (gS h4 v0).1 = 11 then if decide (¬ (gI h4 v0 19) = 0) then
      (M_way_161 v0 (v1 + 1) h4 )
    else
      (if (gS h4 v0).1 = 11 then if (gS h4 v0).1 = 11 then if decide ((gI h4 v0 17) ≤ (gI h4 v0 18)) then
        (M_way_161 v0 (v1 + 1) h4 )
      else
        (if (gS h4 v0).1 = 11 then (M_sign v0 h4).bind (fun r5 => if decide (r5.1 = 59) then
          (M_way_161 v0 (v1 + 1) r5.2 )
        else
          (if (gS r5.2 v0).1 = 11 then if (gS r5.2 v0).1 = 11 then (M_fails v0 0 (gI r5.2 v0 18) r5.2).bind (fun h6 => M_way_161 v0 (v1 + 1) h6 ) else none else none) ) else none) else none else none) else none ) else none ) else none) ) :=
  (ax_S_eq _ _ _ _).trans rfl
set_option maxRecDepth 100000 in
set_option maxHeartbeats 4000000 in
theorem M_way_161_eq  (v0 : Nat) (v1 : Int32) (h : ax_H) : M_way_161  v0 v1 h =
  (if (gS h v0).1 = 11 then if decide (¬ (gI h v0 19) = 0) then
    (if (gS h v0).1 = 11 then if (gS h v0).1 = 11 then let h1 := pI h v0 18 ((gI h v0 18) + 1); M_way_109 v0 v1 0 h1 else none else none)
  else
    (if (gS h v0).1 = 11 then if (gS h v0).1 = 11 then if decide ((gI h v0 17) ≤ (gI h v0 18)) then
      (if (gS h v0).1 = 11 then if (gS h v0).1 = 11 then let h2 := pI h v0 18 ((gI h v0 18) + 1); M_way_109 v0 v1 0 h2 else none else none)
    else
      (if (gS h v0).1 = 11 then if (gS h v0).1 = 11 then let h3 := pI h v0 18 ((gI h v0 18) + 1); M_way_109 v0 v1 1 h3 else none else none) else none else none) else none) :=
  (ax_S_eq _ _ _ _).trans rfl
/-- 211 BlackSunModel.isWay(I)Z -/
noncomputable def M_isWay (v0 : Nat) (v1 : Int32) (h : ax_H) : Option (Int32 × ax_H) := (ax_EE 211).2.1 [.ref v0, .int v1] h
set_option maxRecDepth 100000 in
set_option maxHeartbeats 4000000 in
theorem M_isWay_eq (v0 : Nat) (v1 : Int32) (h : ax_H) : M_isWay v0 v1 h =
  (if (gS h v0).1 = 11 then (M_in (Int32.toInt64 v1) 0 (Int32.toInt64 ((gI h v0 20) - 1)) h).bind (fun r1 => if r1.1 = 0 ∨ r1.1 = 1 then some (r1.1, r1.2) else none ) else none) :=
  (ax_entI (N := 211) (C := r_211) (by decide) rfl (Nat.le_of_ble_eq_true rfl)).trans rfl
/-- 212 BlackSunModel.isTerm(I)Z -/
noncomputable def M_isTerm (v0 : Int32) (h : ax_H) : Option (Int32 × ax_H) := (ax_EE 212).2.1 [.int v0] h
set_option maxRecDepth 100000 in
set_option maxHeartbeats 4000000 in
theorem M_isTerm_eq (v0 : Int32) (h : ax_H) : M_isTerm v0 h =
  ((M_in (Int32.toInt64 v0) 0 5 h).bind (fun r1 => if r1.1 = 0 ∨ r1.1 = 1 then some (r1.1, r1.2) else none )) :=
  (ax_entI (N := 212) (C := r_212) (by decide) rfl (Nat.le_of_ble_eq_true rfl)).trans rfl
/-- 213 BlackSunModel.ways(II)I -/
noncomputable def M_ways (v0 : Nat) (v1 : Int32) (v2 : Int32) (h : ax_H) : Option (Int32 × ax_H) := (ax_EE 213).2.1 [.ref v0, .int v1, .int v2] h
set_option maxRecDepth 100000 in
set_option maxHeartbeats 4000000 in
theorem M_ways_eq (v0 : Nat) (v1 : Int32) (v2 : Int32) (h : ax_H) : M_ways v0 v1 v2 h =
  (if (gS h v0).1 = 11 then (M_isWay v0 v1 h).bind (fun r1 => if decide (r1.1 = 0) then
    (some ((-1), r1.2) )
  else
    ((M_isTerm v2 r1.2).bind (fun r2 => if decide (r2.1 = 0) then
      (some ((-1), r2.2) )
    else
      (if (gS r2.2 v0).1 = 11 then if ax_in r2.2 (gR r2.2 v0 33) 16 (((6 : Int32) * v1) + v2) then some ((gI r2.2 (gR r2.2 v0 33) (Int32.toNatClampNeg (((6 : Int32) * v1) + v2))), r2.2) else none else none) )) ) else none) :=
  (ax_entI (N := 213) (C := r_213) (by decide) rfl (Nat.le_of_ble_eq_true rfl)).trans rfl
/-- 214 BlackSunModel.truth(Z)J -/
noncomputable def M_truth (v0 : Int32) (h : ax_H) : Option (Int64 × ax_H) := (ax_EE 214).2.2.1 [.int v0] h
set_option maxRecDepth 100000 in
set_option maxHeartbeats 4000000 in
theorem M_truth_eq (v0 : Int32) (h : ax_H) : M_truth v0 h =
  (if decide (v0 = 0) then
    (some (0, h) )
  else
    (some (1, h) ) ) :=
  (ax_entL (N := 214) (C := r_214) (by decide) rfl (Nat.le_of_ble_eq_true rfl)).trans rfl
/-- 215 BlackSunModel.both(IJJ)J -/
noncomputable def M_both (v0 : Int32) (v1 : Int64) (v3 : Int64) (h : ax_H) : Option (Int64 × ax_H) := (ax_EE 215).2.2.1 [.int v0, .long v1, .long v3] h
set_option maxRecDepth 100000 in
set_option maxHeartbeats 4000000 in
theorem M_both_eq (v0 : Int32) (v1 : Int64) (v3 : Int64) (h : ax_H) : M_both v0 v1 v3 h =
  (if v0 = 2 then
    (some ((v1 + v3), h) )
  else if v0 = 3 then
    (some ((v1 - v3), h) )
  else if v0 = 4 then
    (if decide ((0 : Int32) ≤ (lg_cmp v1 v3)) then
      ((M_truth 0 h).bind (fun r1 => some (r1.1, r1.2) ))
    else
      ((M_truth 1 h).bind (fun r2 => some (r2.1, r2.2) )) )
  else if v0 = 5 then
    (if decide ((0 : Int32) < (lg_cmp v1 v3)) then
      ((M_truth 0 h).bind (fun r3 => some (r3.1, r3.2) ))
    else
      ((M_truth 1 h).bind (fun r4 => some (r4.1, r4.2) )) )
  else if v0 = 6 then
    (if decide (¬ (lg_cmp v1 v3) = 0) then
      ((M_truth 0 h).bind (fun r5 => some (r5.1, r5.2) ))
    else
      ((M_truth 1 h).bind (fun r6 => some (r6.1, r6.2) )) )
  else if v0 = 7 then
    (if decide ((lg_cmp v1 v3) < 0) then
      ((M_truth 0 h).bind (fun r7 => some (r7.1, r7.2) ))
    else
      ((M_truth 1 h).bind (fun r8 => some (r8.1, r8.2) )) )
  else if v0 = 8 then
    (if decide ((lg_cmp v1 v3) ≤ 0) then
      ((M_truth 0 h).bind (fun r9 => some (r9.1, r9.2) ))
    else
      ((M_truth 1 h).bind (fun r10 => some (r10.1, r10.2) )) )
  else if v0 = 9 then
    (some ((v1 ||| v3), h) )
  else if v0 = 10 then
    (some ((v1 &&& v3), h) )
  else 
    (some ((v1 ||| v3), h) ) ) :=
  (ax_entL (N := 215) (C := r_215) (by decide) rfl (Nat.le_of_ble_eq_true rfl)).trans rfl
/-- 216 BlackSunModel.isTrue(III)Z -/
noncomputable def M_isTrue (v0 : Nat) (v1 : Int32) (v2 : Int32) (v3 : Int32) (h : ax_H) : Option (Int32 × ax_H) := (ax_EE 216).2.1 [.ref v0, .int v1, .int v2, .int v3] h
noncomputable def M_isTrue_6  (v0 : Nat) (v1 : Int32) (v3 : Int32) (v4 : Int32) (v5 : Int32) (h : ax_H) : Option (Int32 × ax_H) := ax_S ax_ρI (ax_env ax_EE 216) ax_nn r_216 r_216_6 [(0, .ref v0), (1, .int v1), (3, .int v3), (4, .int v4), (5, .int v5)] [] h
noncomputable def M_isTrue_53  (v0 : Nat) (v1 : Int32) (v3 : Int32) (v4 : Int32) (v5 : Int32) (v6 : Int32) (v7 : Int32) (h : ax_H) : Option (Int32 × ax_H) := ax_S ax_ρI (ax_env ax_EE 216) ax_nn r_216 r_216_53 [(0, .ref v0), (1, .int v1), (3, .int v3), (4, .int v4), (5, .int v5), (6, .int v6), (7, .int v7)] [] h
set_option maxRecDepth 100000 in
set_option maxHeartbeats 4000000 in
theorem M_isTrue_eq (v0 : Nat) (v1 : Int32) (v2 : Int32) (v3 : Int32) (h : ax_H) : M_isTrue v0 v1 v2 v3 h =
  (M_isTrue_6 v0 v1 v3 0 v2 h ) :=
  (ax_entI (N := 216) (C := r_216) (by decide) rfl (Nat.le_of_ble_eq_true rfl)).trans rfl
set_option maxRecDepth 100000 in
set_option maxHeartbeats 4000000 in
theorem M_isTrue_6_eq  (v0 : Nat) (v1 : Int32) (v3 : Int32) (v4 : Int32) (v5 : Int32) (h : ax_H) : M_isTrue_6  v0 v1 v3 v4 v5 h =
  (if decide (v3 ≤ v5) then
    (if (gS h v0).1 = 11 then if ax_in h (gR h v0 37) 17 0 then if decide (¬ (lg_cmp (gL h (gR h v0 37) (Int32.toNatClampNeg 0)) 1) = 0) then
      (some (0, h) )
    else
      (some (1, h) ) else none else none)
  else
    (if (gS h v0).1 = 11 then if ax_in h (gR h v0 27) 16 (((300 : Int32) * v1) + v5) then let x1 := (gI h (gR h v0 27) (Int32.toNatClampNeg (((300 : Int32) * v1) + v5))); if (gS h v0).1 = 11 then if ax_in h (gR h v0 28) 16 (((300 : Int32) * v1) + v5) then let x2 := (gI h (gR h v0 28) (Int32.toNatClampNeg (((300 : Int32) * v1) + v5))); if decide (x1 = 0) then
      (M_isTrue_53 v0 v1 v3 v4 v5 x1 x2 h )
    else
      (if decide (¬ x1 = 1) then
        (if decide (¬ x1 = 9) then
          (if (gS h v0).1 = 11 then if (gS h v0).1 = 11 then if ax_in h (gR h v0 37) 17 ((v4 + (-1)) - 1) then if (gS h v0).1 = 11 then if ax_in h (gR h v0 37) 17 (v4 + (-1)) then (M_both x1 (gL h (gR h v0 37) (Int32.toNatClampNeg ((v4 + (-1)) - 1))) (gL h (gR h v0 37) (Int32.toNatClampNeg (v4 + (-1)))) h).bind (fun r3 => if ax_in r3.2 (gR h v0 37) 17 ((v4 + (-1)) - 1) then let h4 := pL r3.2 (gR h v0 37) (Int32.toNatClampNeg ((v4 + (-1)) - 1)) r3.1; M_isTrue_6 v0 v1 v3 (v4 + (-1)) (v5 + 1) h4 else none ) else none else none else none else none else none)
        else
          (if (gS h v0).1 = 11 then if (gS h v0).1 = 11 then if ax_in h (gR h v0 37) 17 (v4 - 1) then if ax_in h (gR h v0 37) 17 (v4 - 1) then let h5 := pL h (gR h v0 37) (Int32.toNatClampNeg (v4 - 1)) ((1 : Int64) - (gL h (gR h v0 37) (Int32.toNatClampNeg (v4 - 1)))); M_isTrue_6 v0 v1 v3 v4 (v5 + 1) h5 else none else none else none else none) )
      else
        (M_isTrue_53 v0 v1 v3 v4 v5 x1 x2 h ) ) else none else none else none else none) ) :=
  (ax_S_eq _ _ _ _).trans rfl
set_option maxRecDepth 100000 in
set_option maxHeartbeats 4000000 in
theorem M_isTrue_53_eq  (v0 : Nat) (v1 : Int32) (v3 : Int32) (v4 : Int32) (v5 : Int32) (v6 : Int32) (v7 : Int32) (h : ax_H) : M_isTrue_53  v0 v1 v3 v4 v5 v6 v7 h =
  (if (gS h v0).1 = 11 then if decide (¬ v6 = 0) then
    (if (gS h v0).1 = 11 then if ax_in h (gR h v0 36) 17 v7 then if ax_in h (gR h v0 37) 17 v4 then let h1 := pL h (gR h v0 37) (Int32.toNatClampNeg v4) (gL h (gR h v0 36) (Int32.toNatClampNeg v7)); M_isTrue_6 v0 v1 v3 (v4 + 1) (v5 + 1) h1 else none else none else none)
  else
    (if ax_in h (gR h v0 37) 17 v4 then let h2 := pL h (gR h v0 37) (Int32.toNatClampNeg v4) (Int32.toInt64 v7); M_isTrue_6 v0 v1 v3 (v4 + 1) (v5 + 1) h2 else none) else none) :=
  (ax_S_eq _ _ _ _).trans rfl
/-- 217 BlackSunModel.isLeft(II)Z -/
noncomputable def M_isLeft (v0 : Nat) (v1 : Int32) (v2 : Int32) (h : ax_H) : Option (Int32 × ax_H) := (ax_EE 217).2.1 [.ref v0, .int v1, .int v2] h
noncomputable def M_isLeft_190  (v0 : Nat) (v1 : Int32) (v5 : Int32) (v6 : Int32) (h : ax_H) : Option (Int32 × ax_H) := ax_S ax_ρI (ax_env ax_EE 217) ax_nn r_217 r_217_190 [(0, .ref v0), (1, .int v1), (5, .int v5), (6, .int v6)] [] h
set_option maxRecDepth 100000 in
set_option maxHeartbeats 4000000 in
theorem M_isLeft_eq (v0 : Nat) (v1 : Int32) (v2 : Int32) (h : ax_H) : M_isLeft v0 v1 v2 h =
  (if (gS h v0).1 = 11 then if ax_in h (gR h v0 12) 16 v2 then let x1 := (gI h (gR h v0 12) (Int32.toNatClampNeg v2)); if (gS h v0).1 = 11 then if ax_in h (gR h v0 11) 16 v2 then let x2 := (gI h (gR h v0 11) (Int32.toNatClampNeg v2)); if (gS h v0).1 = 11 then if ax_in h (gR h v0 36) 17 0 then let h3 := pL h (gR h v0 36) (Int32.toNatClampNeg 0) (Int32.toInt64 x2); if (gS h3 v0).1 = 11 then if (gS h3 v0).1 = 11 then if ax_in h3 (gR h3 v0 8) 16 x2 then if ax_in h3 (gR h3 v0 36) 17 1 then let h4 := pL h3 (gR h3 v0 36) (Int32.toNatClampNeg 1) (Int32.toInt64 (gI h3 (gR h3 v0 8) (Int32.toNatClampNeg x2))); if (gS h4 v0).1 = 11 then if (gS h4 v0).1 = 11 then if ax_in h4 (gR h4 v0 9) 16 x2 then if ax_in h4 (gR h4 v0 36) 17 2 then let h5 := pL h4 (gR h4 v0 36) (Int32.toNatClampNeg 2) (Int32.toInt64 (gI h4 (gR h4 v0 9) (Int32.toNatClampNeg x2))); if (gS h5 v0).1 = 11 then if (gS h5 v0).1 = 11 then if ax_in h5 (gR h5 v0 10) 16 x2 then if ax_in h5 (gR h5 v0 36) 17 3 then let h6 := pL h5 (gR h5 v0 36) (Int32.toNatClampNeg 3) (Int32.toInt64 (gI h5 (gR h5 v0 10) (Int32.toNatClampNeg x2))); if (gS h6 v0).1 = 11 then if ax_in h6 (gR h6 v0 36) 17 4 then let h7 := pL h6 (gR h6 v0 36) (Int32.toNatClampNeg 4) (Int32.toInt64 x1); if (gS h7 v0).1 = 11 then if (gS h7 v0).1 = 11 then if ax_in h7 (gR h7 v0 7) 16 x1 then if ax_in h7 (gR h7 v0 36) 17 5 then let h8 := pL h7 (gR h7 v0 36) (Int32.toNatClampNeg 5) (Int32.toInt64 (gI h7 (gR h7 v0 7) (Int32.toNatClampNeg x1))); if (gS h8 v0).1 = 11 then if (gS h8 v0).1 = 11 then (M_far v0 x1 h8).bind (fun r9 => if ax_in r9.2 (gR h8 v0 36) 17 6 then let h10 := pL r9.2 (gR h8 v0 36) (Int32.toNatClampNeg 6) (Int32.toInt64 r9.1); if (gS h10 v0).1 = 11 then if (gS h10 v0).1 = 11 then if ax_in h10 (gR h10 v0 5) 16 x1 then if ax_in h10 (gR h10 v0 36) 17 7 then let h11 := pL h10 (gR h10 v0 36) (Int32.toNatClampNeg 7) (Int32.toInt64 (gI h10 (gR h10 v0 5) (Int32.toNatClampNeg x1))); if (gS h11 v0).1 = 11 then if (gS h11 v0).1 = 11 then if ax_in h11 (gR h11 v0 6) 16 x1 then if ax_in h11 (gR h11 v0 36) 17 8 then let h12 := pL h11 (gR h11 v0 36) (Int32.toNatClampNeg 8) (Int32.toInt64 (gI h11 (gR h11 v0 6) (Int32.toNatClampNeg x1))); if (gS h12 v0).1 = 11 then if (gS h12 v0).1 = 11 then if ax_in h12 (gR h12 v0 14) 16 v2 then if ax_in h12 (gR h12 v0 36) 17 9 then let h13 := pL h12 (gR h12 v0 36) (Int32.toNatClampNeg 9) (Int32.toInt64 (gI h12 (gR h12 v0 14) (Int32.toNatClampNeg v2))); if (gS h13 v0).1 = 11 then if (gS h13 v0).1 = 11 then if ax_in h13 (gR h13 v0 15) 16 v2 then if ax_in h13 (gR h13 v0 36) 17 10 then let h14 := pL h13 (gR h13 v0 36) (Int32.toNatClampNeg 10) (Int32.toInt64 (gI h13 (gR h13 v0 15) (Int32.toNatClampNeg v2))); if (gS h14 v0).1 = 11 then if (gS h14 v0).1 = 11 then if ax_in h14 (gR h14 v0 16) 16 v2 then if ax_in h14 (gR h14 v0 36) 17 11 then let h15 := pL h14 (gR h14 v0 36) (Int32.toNatClampNeg 11) (Int32.toInt64 (gI h14 (gR h14 v0 16) (Int32.toNatClampNeg v2))); if (gS h15 v0).1 = 11 then if (gS h15 v0).1 = 11 then if ax_in h15 (gR h15 v0 13) 16 v2 then if ax_in h15 (gR h15 v0 36) 17 12 then let h16 := pL h15 (gR h15 v0 36) (Int32.toNatClampNeg 12) (Int32.toInt64 (gI h15 (gR h15 v0 13) (Int32.toNatClampNeg v2))); M_isLeft_190 v0 v1 0 0 h16 else none else none else none else none else none else none else none else none else none else none else none else none else none else none else none else none else none else none else none else none else none else none else none else none else none ) else none else none else none else none else none else none else none else none else none else none else none else none else none else none else none else none else none else none else none else none else none else none else none else none else none else none) :=
  (ax_entI (N := 217) (C := r_217) (by decide) rfl (Nat.le_of_ble_eq_true rfl)).trans rfl
set_option maxRecDepth 100000 in
set_option maxHeartbeats 4000000 in
theorem M_isLeft_190_eq  (v0 : Nat) (v1 : Int32) (v5 : Int32) (v6 : Int32) (h : ax_H) : M_isLeft_190  v0 v1 v5 v6 h =
  (if (gS h v0).1 = 11 then if ax_in h (gR h v0 31) 16 v1 then if decide ((gI h (gR h v0 31) (Int32.toNatClampNeg v1)) ≤ v6) then
    (if v5 = 0 ∨ v5 = 1 then some (v5, h) else none)
  else
    (if decide (¬ v5 = 0) then
      (if v5 = 0 ∨ v5 = 1 then some (v5, h) else none)
    else
      (if (gS h v0).1 = 11 then if ax_in h (gR h v0 29) 16 (((12 : Int32) * v1) + v6) then if (gS h v0).1 = 11 then if ax_in h (gR h v0 30) 16 (((12 : Int32) * v1) + v6) then if (gS h v0).1 = 11 then (M_isTrue v0 v1 (gI h (gR h v0 29) (Int32.toNatClampNeg (((12 : Int32) * v1) + v6))) (gI h (gR h v0 30) (Int32.toNatClampNeg (((12 : Int32) * v1) + v6))) h).bind (fun r1 => M_isLeft_190 v0 v1 r1.1 (v6 + 1) r1.2 ) else none else none else none else none else none) ) else none else none) :=
  (ax_S_eq _ _ _ _).trans rfl
/-- 218 BlackSunModel.isByHand(II)Z -/
noncomputable def M_isByHand (v0 : Nat) (v1 : Int32) (v2 : Int32) (h : ax_H) : Option (Int32 × ax_H) := (ax_EE 218).2.1 [.ref v0, .int v1, .int v2] h
set_option maxRecDepth 100000 in
set_option maxHeartbeats 4000000 in
theorem M_isByHand_eq (v0 : Nat) (v1 : Int32) (v2 : Int32) (h : ax_H) : M_isByHand v0 v1 v2 h =
  (if (gS h v0).1 = 11 then if ax_in h (gR h v0 32) 16 v1 then if decide ((gI h (gR h v0 32) (Int32.toNatClampNeg v1)) = (-1)) then
    (some (1, h) )
  else
    (if (gS h v0).1 = 11 then if ax_in h (gR h v0 32) 16 v1 then if (gS h v0).1 = 11 then if ax_in h (gR h v0 13) 16 v2 then if decide (¬ (gI h (gR h v0 32) (Int32.toNatClampNeg v1)) = (gI h (gR h v0 13) (Int32.toNatClampNeg v2))) then
      (some (0, h) )
    else
      (some (1, h) ) else none else none else none else none) else none else none) :=
  (ax_entI (N := 218) (C := r_218) (by decide) rfl (Nat.le_of_ble_eq_true rfl)).trans rfl
/-- 219 BlackSunModel.takesAll(II)V -/
noncomputable def M_takesAll (v0 : Nat) (v1 : Int32) (v2 : Int32) (h : ax_H) : Option (ax_H) := (ax_EE 219).1 [.ref v0, .int v1, .int v2] h
noncomputable def M_takesAll_2  (v0 : Nat) (v1 : Int32) (v2 : Int32) (v3 : Int32) (h : ax_H) : Option (ax_H) := ax_S ax_ρV (ax_env ax_EE 219) ax_nn r_219 r_219_2 [(0, .ref v0), (1, .int v1), (2, .int v2), (3, .int v3)] [] h
set_option maxRecDepth 100000 in
set_option maxHeartbeats 4000000 in
theorem M_takesAll_eq (v0 : Nat) (v1 : Int32) (v2 : Int32) (h : ax_H) : M_takesAll v0 v1 v2 h =
  (M_takesAll_2 v0 v1 v2 0 h ) :=
  (ax_entV (N := 219) (C := r_219) (by decide) rfl (Nat.le_of_ble_eq_true rfl)).trans rfl
set_option maxRecDepth 100000 in
set_option maxHeartbeats 4000000 in
theorem M_takesAll_2_eq  (v0 : Nat) (v1 : Int32) (v2 : Int32) (v3 : Int32) (h : ax_H) : M_takesAll_2  v0 v1 v2 v3 h =
  (if (gS h v0).1 = 11 then if decide ((gI h v0 4) ≤ v3) then
    (some h )
  else
    (if (gS h v0).1 = 11 then if (gS h v0).1 = 11 then if (gS h v0).1 = 11 then if ax_in h (gR h v0 11) 16 v3 then if ax_in h (gR h v0 9) 16 (gI h (gR h v0 11) (Int32.toNatClampNeg v3)) then if decide ((gI h (gR h v0 9) (Int32.toNatClampNeg (gI h (gR h v0 11) (Int32.toNatClampNeg v3)))) = 2) then
      (if ax_in h (gR h v0 38) 19 v3 then let h1 := pI h (gR h v0 38) (Int32.toNatClampNeg v3) ((0 : Int32) &&& 1); M_takesAll_2 v0 v1 v2 (v3 + 1) h1 else none)
    else
      (if (gS h v0).1 = 11 then (M_isByHand v0 v1 v3 h).bind (fun r2 => if decide (r2.1 = 0) then
        (if ax_in r2.2 (gR h v0 38) 19 v3 then let h3 := pI r2.2 (gR h v0 38) (Int32.toNatClampNeg v3) ((0 : Int32) &&& 1); M_takesAll_2 v0 v1 v2 (v3 + 1) h3 else none)
      else
        (if (gS r2.2 v0).1 = 11 then (M_counts v0 v3 v2 r2.2).bind (fun r4 => if decide (r4.1 = 0) then
          (if ax_in r4.2 (gR h v0 38) 19 v3 then let h5 := pI r4.2 (gR h v0 38) (Int32.toNatClampNeg v3) ((0 : Int32) &&& 1); M_takesAll_2 v0 v1 v2 (v3 + 1) h5 else none)
        else
          (if (gS r4.2 v0).1 = 11 then (M_isLeft v0 v1 v3 r4.2).bind (fun r6 => if decide (¬ r6.1 = 0) then
            (if ax_in r6.2 (gR h v0 38) 19 v3 then let h7 := pI r6.2 (gR h v0 38) (Int32.toNatClampNeg v3) ((0 : Int32) &&& 1); M_takesAll_2 v0 v1 v2 (v3 + 1) h7 else none)
          else
            (if ax_in r6.2 (gR h v0 38) 19 v3 then let h8 := pI r6.2 (gR h v0 38) (Int32.toNatClampNeg v3) ((1 : Int32) &&& 1); M_takesAll_2 v0 v1 v2 (v3 + 1) h8 else none) ) else none) ) else none) ) else none) else none else none else none else none else none) else none) :=
  (ax_S_eq _ _ _ _).trans rfl
/-- 220 BlackSunModel.takes(III)I -/
noncomputable def M_takes_X220 (v0 : Nat) (v1 : Int32) (v2 : Int32) (v3 : Int32) (h : ax_H) : Option (Int32 × ax_H) := (ax_EE 220).2.1 [.ref v0, .int v1, .int v2, .int v3] h
noncomputable def M_takes_X220_29  (v0 : Nat) (v3 : Int32) (v4 : Int32) (v5 : Int32) (h : ax_H) : Option (Int32 × ax_H) := ax_S ax_ρI (ax_env ax_EE 220) ax_nn r_220 r_220_29 [(0, .ref v0), (3, .int v3), (4, .int v4), (5, .int v5)] [] h
set_option maxRecDepth 100000 in
set_option maxHeartbeats 4000000 in
theorem M_takes_X220_eq (v0 : Nat) (v1 : Int32) (v2 : Int32) (v3 : Int32) (h : ax_H) : M_takes_X220 v0 v1 v2 v3 h =
  (if (gS h v0).1 = 11 then (M_isWay v0 v1 h).bind (fun r1 => if decide (r1.1 = 0) then
    (some ((-1), r1.2) )
  else
    ((M_isWeek v2 r1.2).bind (fun r2 => if decide (¬ r2.1 = 0) then
      (if (gS r2.2 v0).1 = 11 then (M_takesAll v0 v1 v2 r2.2).bind (fun h3 => M_takes_X220_29 v0 v3 0 0 h3 ) else none)
    else
      (some ((-1), r2.2) ) )) ) else none) :=
  (ax_entI (N := 220) (C := r_220) (by decide) rfl (Nat.le_of_ble_eq_true rfl)).trans rfl
set_option maxRecDepth 100000 in
set_option maxHeartbeats 4000000 in
theorem M_takes_X220_29_eq  (v0 : Nat) (v3 : Int32) (v4 : Int32) (v5 : Int32) (h : ax_H) : M_takes_X220_29  v0 v3 v4 v5 h =
  (if (gS h v0).1 = 11 then if decide ((gI h v0 4) ≤ v5) then
    (if decide (¬ v3 = (-1)) then
      (some ((-1), h) )
    else
      (some (v4, h) ) )
  else
    (if (gS h v0).1 = 11 then if ax_in h (gR h v0 38) 19 v5 then if decide ((gI h (gR h v0 38) (Int32.toNatClampNeg v5)) = 0) then
      (M_takes_X220_29 v0 v3 v4 (v5 + 1) h )
    else
      (if decide (¬ v4 = v3) then
        (M_takes_X220_29 v0 v3 (v4 + 1) (v5 + 1) h )
      else
        (some (v5, h) ) ) else none else none) else none) :=
  (ax_S_eq _ _ _ _).trans rfl
/-- 221 BlackSunModel.floorOf(JJ)J -/
noncomputable def M_floorOf (v0 : Int64) (v2 : Int64) (h : ax_H) : Option (Int64 × ax_H) := (ax_EE 221).2.2.1 [.long v0, .long v2] h
set_option maxRecDepth 100000 in
set_option maxHeartbeats 4000000 in
theorem M_floorOf_eq (v0 : Int64) (v2 : Int64) (h : ax_H) : M_floorOf v0 v2 h =
  (if v2 = 0 then none else if v2 = 0 then none else if decide ((0 : Int32) ≤ (lg_cmp (v0 - v0 / v2 * v2) 0)) then
    (some ((v0 / v2), h) )
  else
    (some (((v0 / v2) - 1), h) ) ) :=
  (ax_entL (N := 221) (C := r_221) (by decide) rfl (Nat.le_of_ble_eq_true rfl)).trans rfl
/-- 222 BlackSunModel.checks(III)Z -/
noncomputable def M_checks (v0 : Nat) (v1 : Int32) (v2 : Int32) (v3 : Int32) (h : ax_H) : Option (Int32 × ax_H) := (ax_EE 222).2.1 [.ref v0, .int v1, .int v2, .int v3] h
noncomputable def M_checks_9  (v0 : Nat) (v1 : Int32) (v2 : Int32) (v3 : Int32) (v4 : Int64) (v6 : Int64) (v8 : Int32) (h : ax_H) : Option (Int32 × ax_H) := ax_S ax_ρI (ax_env ax_EE 222) ax_nn r_222 r_222_9 [(0, .ref v0), (1, .int v1), (2, .int v2), (3, .int v3), (4, .long v4), (6, .long v6), (8, .int v8)] [] h
set_option maxRecDepth 100000 in
set_option maxHeartbeats 4000000 in
theorem M_checks_eq (v0 : Nat) (v1 : Int32) (v2 : Int32) (v3 : Int32) (h : ax_H) : M_checks v0 v1 v2 v3 h =
  (M_checks_9 v0 v1 v2 v3 0 0 0 h ) :=
  (ax_entI (N := 222) (C := r_222) (by decide) rfl (Nat.le_of_ble_eq_true rfl)).trans rfl
set_option maxRecDepth 100000 in
set_option maxHeartbeats 4000000 in
theorem M_checks_9_eq  (v0 : Nat) (v1 : Int32) (v2 : Int32) (v3 : Int32) (v4 : Int64) (v6 : Int64) (v8 : Int32) (h : ax_H) : M_checks_9  v0 v1 v2 v3 v4 v6 v8 h =
  (if (gS h v0).1 = 11 then if decide ((gI h v0 4) ≤ v8) then
    (if decide (¬ (lg_cmp v4 0) = 0) then
      (if (gS h v0).1 = 11 then (M_floorOf ((1000 : Int64) * v6) v4 h).bind (fun r1 => if ax_in r1.2 (gR h v0 40) 17 v2 then let h2 := pL r1.2 (gR h v0 40) (Int32.toNatClampNeg v2) r1.1; some (1, h2) else none ) else none)
    else
      (some (0, h) ) )
  else
    (if (gS h v0).1 = 11 then if (gS h v0).1 = 11 then if ax_in h (gR h v0 11) 16 v8 then if ax_in h (gR h v0 9) 16 (gI h (gR h v0 11) (Int32.toNatClampNeg v8)) then if decide (¬ (gI h (gR h v0 9) (Int32.toNatClampNeg (gI h (gR h v0 11) (Int32.toNatClampNeg v8)))) = 2) then
      (M_checks_9 v0 v1 v2 v3 v4 v6 (v8 + 1) h )
    else
      (if (gS h v0).1 = 11 then (M_isByHand v0 v1 v8 h).bind (fun r3 => if decide (r3.1 = 0) then
        (M_checks_9 v0 v1 v2 v3 v4 v6 (v8 + 1) r3.2 )
      else
        (if (gS r3.2 v0).1 = 11 then (M_counts v0 v8 v3 r3.2).bind (fun r4 => if decide (r4.1 = 0) then
          (M_checks_9 v0 v1 v2 v3 v4 v6 (v8 + 1) r4.2 )
        else
          (if (gS r4.2 v0).1 = 11 then if ax_in r4.2 (gR r4.2 v0 12) 16 v8 then if (gS r4.2 v0).1 = 11 then (M_given v0 v2 (gI r4.2 (gR r4.2 v0 12) (Int32.toNatClampNeg v8)) 0 r4.2).bind (fun r5 => if (gS r5.2 v0).1 = 11 then if ax_in r5.2 (gR r5.2 v0 12) 16 v8 then if (gS r5.2 v0).1 = 11 then (M_given v0 v2 (gI r5.2 (gR r5.2 v0 12) (Int32.toNatClampNeg v8)) 1 r5.2).bind (fun r6 => let x7 := (v4 + (((Int32.toInt64 r5.1) * (Int32.toInt64 r5.1)) + ((Int32.toInt64 r6.1) * (Int32.toInt64 r6.1)))); if (gS r6.2 v0).1 = 11 then if ax_in r6.2 (gR r6.2 v0 14) 16 v8 then if (gS r6.2 v0).1 = 11 then if ax_in r6.2 (gR r6.2 v0 15) 16 v8 then let x8 := (v6 + (((Int32.toInt64 r5.1) * (Int32.toInt64 (gI r6.2 (gR r6.2 v0 14) (Int32.toNatClampNeg v8)))) + ((Int32.toInt64 r6.1) * (Int32.toInt64 (gI r6.2 (gR r6.2 v0 15) (Int32.toNatClampNeg v8)))))); M_checks_9 v0 v1 v2 v3 x7 x8 (v8 + 1) r6.2 else none else none else none else none ) else none else none else none ) else none else none else none) ) else none) ) else none) else none else none else none else none) else none) :=
  (ax_S_eq _ _ _ _).trans rfl
/-- 223 BlackSunModel.begins(IIZI)Z -/
noncomputable def M_begins (v0 : Nat) (v1 : Int32) (v2 : Int32) (v3 : Int32) (v4 : Int32) (h : ax_H) : Option (Int32 × ax_H) := (ax_EE 223).2.1 [.ref v0, .int v1, .int v2, .int v3, .int v4] h
noncomputable def M_begins_11  (v0 : Nat) (v1 : Int32) (v2 : Int32) (v3 : Int32) (v4 : Int32) (v5 : Int32) (v6 : Int32) (h : ax_H) : Option (Int32 × ax_H) := ax_S ax_ρI (ax_env ax_EE 223) ax_nn r_223 r_223_11 [(0, .ref v0), (1, .int v1), (2, .int v2), (3, .int v3), (4, .int v4), (5, .int v5), (6, .int v6)] [] h
noncomputable def M_begins_44 (k0 : Int32) (v0 : Nat) (v1 : Int32) (v2 : Int32) (v3 : Int32) (v4 : Int32) (v5 : Int32) (v6 : Int32) (h : ax_H) : Option (Int32 × ax_H) := ax_S ax_ρI (ax_env ax_EE 223) ax_nn r_223 r_223_44 [(0, .ref v0), (1, .int v1), (2, .int v2), (3, .int v3), (4, .int v4), (5, .int v5), (6, .int v6)] [.int k0] h
noncomputable def M_begins_91 (k0 : Int64) (k1 : Int32) (k2 : Nat) (v0 : Nat) (v1 : Int32) (v2 : Int32) (v3 : Int32) (v4 : Int32) (v5 : Int32) (v6 : Int32) (v7 : Int32) (h : ax_H) : Option (Int32 × ax_H) := ax_S ax_ρI (ax_env ax_EE 223) ax_nn r_223 r_223_91 [(0, .ref v0), (1, .int v1), (2, .int v2), (3, .int v3), (4, .int v4), (5, .int v5), (6, .int v6), (7, .int v7)] [.long k0, .int k1, .ref k2] h
noncomputable def M_begins_115 (k0 : Int32) (k1 : Int32) (k2 : Nat) (v0 : Nat) (v1 : Int32) (v2 : Int32) (v3 : Int32) (v4 : Int32) (v5 : Int32) (v6 : Int32) (v7 : Int32) (h : ax_H) : Option (Int32 × ax_H) := ax_S ax_ρI (ax_env ax_EE 223) ax_nn r_223 r_223_115 [(0, .ref v0), (1, .int v1), (2, .int v2), (3, .int v3), (4, .int v4), (5, .int v5), (6, .int v6), (7, .int v7)] [.int k0, .int k1, .ref k2] h
noncomputable def M_begins_143  (v0 : Nat) (v1 : Int32) (v2 : Int32) (v3 : Int32) (v4 : Int32) (v5 : Int32) (v6 : Int32) (v7 : Int32) (h : ax_H) : Option (Int32 × ax_H) := ax_S ax_ρI (ax_env ax_EE 223) ax_nn r_223 r_223_143 [(0, .ref v0), (1, .int v1), (2, .int v2), (3, .int v3), (4, .int v4), (5, .int v5), (6, .int v6), (7, .int v7)] [] h
set_option maxRecDepth 100000 in
set_option maxHeartbeats 4000000 in
theorem M_begins_eq (v0 : Nat) (v1 : Int32) (v2 : Int32) (v3 : Int32) (v4 : Int32) (h : ax_H) : M_begins v0 v1 v2 v3 v4 h =
  (if (gS h v0).1 = 11 then let h1 := pI h v0 49 0; M_begins_11 v0 v1 v2 v3 v4 1 0 h1 else none) :=
  (ax_entI (N := 223) (C := r_223) (by decide) rfl (Nat.le_of_ble_eq_true rfl)).trans rfl
set_option maxRecDepth 100000 in
set_option maxHeartbeats 4000000 in
theorem M_begins_11_eq  (v0 : Nat) (v1 : Int32) (v2 : Int32) (v3 : Int32) (v4 : Int32) (v5 : Int32) (v6 : Int32) (h : ax_H) : M_begins_11  v0 v1 v2 v3 v4 v5 v6 h =
  (if decide ((6 : Int32) ≤ v6) then
    (if v5 = 0 ∨ v5 = 1 then some (v5, h) else none)
  else
    (if decide (v3 = 0) then
      (if (gS h v0).1 = 11 then if ax_in h (gR h v0 33) 16 (((6 : Int32) * v1) + v6) then M_begins_44 (gI h (gR h v0 33) (Int32.toNatClampNeg (((6 : Int32) * v1) + v6))) v0 v1 v2 v3 v4 v5 v6 h else none else none)
    else
      (if decide (¬ v6 = 4) then
        (if (gS h v0).1 = 11 then if ax_in h (gR h v0 33) 16 (((6 : Int32) * v1) + v6) then M_begins_44 (gI h (gR h v0 33) (Int32.toNatClampNeg (((6 : Int32) * v1) + v6))) v0 v1 v2 v3 v4 v5 v6 h else none else none)
      else
        (M_begins_44 2 v0 v1 v2 v3 v4 v5 v6 h ) ) ) ) :=
  (ax_S_eq _ _ _ _).trans rfl
set_option maxRecDepth 100000 in
set_option maxHeartbeats 4000000 in
theorem M_begins_44_eq (k0 : Int32) (v0 : Nat) (v1 : Int32) (v2 : Int32) (v3 : Int32) (v4 : Int32) (v5 : Int32) (v6 : Int32) (h : ax_H) : M_begins_44 k0 v0 v1 v2 v3 v4 v5 v6 h =
  (if (gS h v0).1 = 11 then if decide (¬ k0 = 2) then
    (M_begins_91 0 v6 (gR h v0 40) v0 v1 v2 v3 v4 v5 v6 k0 h )
  else
    (if decide (v3 = 0) then
      (if (gS h v0).1 = 11 then if ax_in h (gR h v0 34) 16 (((6 : Int32) * v1) + v6) then M_begins_91 (Int32.toInt64 (gI h (gR h v0 34) (Int32.toNatClampNeg (((6 : Int32) * v1) + v6)))) v6 (gR h v0 40) v0 v1 v2 v3 v4 v5 v6 k0 h else none else none)
    else
      (if decide (¬ v6 = 4) then
        (if (gS h v0).1 = 11 then if ax_in h (gR h v0 34) 16 (((6 : Int32) * v1) + v6) then M_begins_91 (Int32.toInt64 (gI h (gR h v0 34) (Int32.toNatClampNeg (((6 : Int32) * v1) + v6)))) v6 (gR h v0 40) v0 v1 v2 v3 v4 v5 v6 k0 h else none else none)
      else
        (M_begins_91 (Int32.toInt64 v4) v6 (gR h v0 40) v0 v1 v2 v3 v4 v5 v6 k0 h ) ) ) else none) :=
  (ax_S_eq _ _ _ _).trans rfl
set_option maxRecDepth 100000 in
set_option maxHeartbeats 4000000 in
theorem M_begins_91_eq (k0 : Int64) (k1 : Int32) (k2 : Nat) (v0 : Nat) (v1 : Int32) (v2 : Int32) (v3 : Int32) (v4 : Int32) (v5 : Int32) (v6 : Int32) (v7 : Int32) (h : ax_H) : M_begins_91 k0 k1 k2 v0 v1 v2 v3 v4 v5 v6 v7 h =
  (if ax_in h k2 17 k1 then let h1 := pL h k2 (Int32.toNatClampNeg k1) k0; if (gS h1 v0).1 = 11 then if decide (v7 = 2) then
    (M_begins_115 1 v6 (gR h1 v0 45) v0 v1 v2 v3 v4 v5 v6 v7 h1 )
  else
    (if decide (¬ v7 = 3) then
      (M_begins_115 0 v6 (gR h1 v0 45) v0 v1 v2 v3 v4 v5 v6 v7 h1 )
    else
      (M_begins_115 1 v6 (gR h1 v0 45) v0 v1 v2 v3 v4 v5 v6 v7 h1 ) ) else none else none) :=
  (ax_S_eq _ _ _ _).trans rfl
set_option maxRecDepth 100000 in
set_option maxHeartbeats 4000000 in
theorem M_begins_115_eq (k0 : Int32) (k1 : Int32) (k2 : Nat) (v0 : Nat) (v1 : Int32) (v2 : Int32) (v3 : Int32) (v4 : Int32) (v5 : Int32) (v6 : Int32) (v7 : Int32) (h : ax_H) : M_begins_115 k0 k1 k2 v0 v1 v2 v3 v4 v5 v6 v7 h =
  (if ax_in h k2 19 k1 then let h1 := pI h k2 (Int32.toNatClampNeg k1) (k0 &&& 1); if decide (¬ v7 = 1) then
    (M_begins_143 v0 v1 v2 v3 v4 v5 v6 v7 h1 )
  else
    (if (gS h1 v0).1 = 11 then if (gS h1 v0).1 = 11 then if ax_in h1 (gR h1 v0 39) 16 (gI h1 v0 49) then let h2 := pI h1 (gR h1 v0 39) (Int32.toNatClampNeg (gI h1 v0 49)) v6; if (gS h2 v0).1 = 11 then if (gS h2 v0).1 = 11 then let h3 := pI h2 v0 49 ((gI h2 v0 49) + 1); M_begins_143 v0 v1 v2 v3 v4 v5 v6 v7 h3 else none else none else none else none else none) else none) :=
  (ax_S_eq _ _ _ _).trans rfl
set_option maxRecDepth 100000 in
set_option maxHeartbeats 4000000 in
theorem M_begins_143_eq  (v0 : Nat) (v1 : Int32) (v2 : Int32) (v3 : Int32) (v4 : Int32) (v5 : Int32) (v6 : Int32) (v7 : Int32) (h : ax_H) : M_begins_143  v0 v1 v2 v3 v4 v5 v6 v7 h =
  (if decide (¬ v7 = 3) then
    (M_begins_11 v0 v1 v2 v3 v4 v5 (v6 + 1) h )
  else
    (if (gS h v0).1 = 11 then (M_checks v0 v1 v6 v2 h).bind (fun r1 => if decide (r1.1 = 0) then
      (M_begins_11 v0 v1 v2 v3 v4 0 (v6 + 1) r1.2 )
    else
      (if decide (v5 = 0) then
        (M_begins_11 v0 v1 v2 v3 v4 0 (v6 + 1) r1.2 )
      else
        (M_begins_11 v0 v1 v2 v3 v4 1 (v6 + 1) r1.2 ) ) ) else none) ) :=
  (ax_S_eq _ _ _ _).trans rfl
/-- 224 BlackSunModel.measures()V -/
noncomputable def M_measures (v0 : Nat) (h : ax_H) : Option (ax_H) := (ax_EE 224).1 [.ref v0] h
noncomputable def M_measures_2  (v0 : Nat) (v1 : Int32) (h : ax_H) : Option (ax_H) := ax_S ax_ρV (ax_env ax_EE 224) ax_nn r_224 r_224_2 [(0, .ref v0), (1, .int v1)] [] h
noncomputable def M_measures_30 (k0 : Int32) (v0 : Nat) (v1 : Int32) (h : ax_H) : Option (ax_H) := ax_S ax_ρV (ax_env ax_EE 224) ax_nn r_224 r_224_30 [(0, .ref v0), (1, .int v1)] [.int k0] h
set_option maxRecDepth 100000 in
set_option maxHeartbeats 4000000 in
theorem M_measures_eq (v0 : Nat) (h : ax_H) : M_measures v0 h =
  (M_measures_2 v0 0 h ) :=
  (ax_entV (N := 224) (C := r_224) (by decide) rfl (Nat.le_of_ble_eq_true rfl)).trans rfl
set_option maxRecDepth 100000 in
set_option maxHeartbeats 4000000 in
theorem M_measures_2_eq  (v0 : Nat) (v1 : Int32) (h : ax_H) : M_measures_2  v0 v1 h =
  (if (gS h v0).1 = 11 then if decide ((gI h v0 4) ≤ v1) then
    (some h )
  else
    (if (gS h v0).1 = 11 then if (gS h v0).1 = 11 then if ax_in h (gR h v0 11) 16 v1 then if ax_in h (gR h v0 9) 16 (gI h (gR h v0 11) (Int32.toNatClampNeg v1)) then if decide (¬ (gI h (gR h v0 9) (Int32.toNatClampNeg (gI h (gR h v0 11) (Int32.toNatClampNeg v1)))) = 1) then
      (M_measures_30 1 v0 v1 h )
    else
      (M_measures_30 (-1) v0 v1 h ) else none else none else none else none) else none) :=
  (ax_S_eq _ _ _ _).trans rfl
set_option maxRecDepth 100000 in
set_option maxHeartbeats 4000000 in
theorem M_measures_30_eq (k0 : Int32) (v0 : Nat) (v1 : Int32) (h : ax_H) : M_measures_30 k0 v0 v1 h =
  (if (gS h v0).1 = 11 then if (gS h v0).1 = 11 then if ax_in h (gR h v0 14) 16 v1 then if ax_in h (gR h v0 46) 16 v1 then let h1 := pI h (gR h v0 46) (Int32.toNatClampNeg v1) (k0 * (gI h (gR h v0 14) (Int32.toNatClampNeg v1))); if (gS h1 v0).1 = 11 then if (gS h1 v0).1 = 11 then if ax_in h1 (gR h1 v0 15) 16 v1 then if ax_in h1 (gR h1 v0 47) 16 v1 then let h2 := pI h1 (gR h1 v0 47) (Int32.toNatClampNeg v1) (k0 * (gI h1 (gR h1 v0 15) (Int32.toNatClampNeg v1))); if (gS h2 v0).1 = 11 then if (gS h2 v0).1 = 11 then if ax_in h2 (gR h2 v0 38) 19 v1 then if decide (¬ (gI h2 (gR h2 v0 38) (Int32.toNatClampNeg v1)) = 0) then
    (if ax_in h2 (gR h2 v0 48) 19 v1 then let h3 := pI h2 (gR h2 v0 48) (Int32.toNatClampNeg v1) ((0 : Int32) &&& 1); M_measures_2 v0 (v1 + 1) h3 else none)
  else
    (if ax_in h2 (gR h2 v0 48) 19 v1 then let h4 := pI h2 (gR h2 v0 48) (Int32.toNatClampNeg v1) ((1 : Int32) &&& 1); M_measures_2 v0 (v1 + 1) h4 else none) else none else none else none else none else none else none else none else none else none else none else none) :=
  (ax_S_eq _ _ _ _).trans rfl
/-- 225 BlackSunModel.givenOn(III)J -/
noncomputable def M_givenOn (v0 : Nat) (v1 : Int32) (v2 : Int32) (v3 : Int32) (h : ax_H) : Option (Int64 × ax_H) := (ax_EE 225).2.2.1 [.ref v0, .int v1, .int v2, .int v3] h
set_option maxRecDepth 100000 in
set_option maxHeartbeats 4000000 in
theorem M_givenOn_eq (v0 : Nat) (v1 : Int32) (v2 : Int32) (v3 : Int32) (h : ax_H) : M_givenOn v0 v1 v2 v3 h =
  (if decide (¬ v1 = 4) then
    (if (gS h v0).1 = 11 then if ax_in h (gR h v0 12) 16 v2 then if (gS h v0).1 = 11 then (M_given v0 v1 (gI h (gR h v0 12) (Int32.toNatClampNeg v2)) v3 h).bind (fun r1 => some ((Int32.toInt64 r1.1), r1.2) ) else none else none else none)
  else
    (if (gS h v0).1 = 11 then if (gS h v0).1 = 11 then if ax_in h (gR h v0 11) 16 v2 then if ax_in h (gR h v0 9) 16 (gI h (gR h v0 11) (Int32.toNatClampNeg v2)) then if decide (¬ (gI h (gR h v0 9) (Int32.toNatClampNeg (gI h (gR h v0 11) (Int32.toNatClampNeg v2)))) = 1) then
      (if (gS h v0).1 = 11 then if ax_in h (gR h v0 12) 16 v2 then if (gS h v0).1 = 11 then (M_given v0 v1 (gI h (gR h v0 12) (Int32.toNatClampNeg v2)) v3 h).bind (fun r2 => some ((Int32.toInt64 r2.1), r2.2) ) else none else none else none)
    else
      (some (0, h) ) else none else none else none else none) ) :=
  (ax_entL (N := 225) (C := r_225) (by decide) rfl (Nat.le_of_ble_eq_true rfl)).trans rfl
/-- 226 BlackSunModel.left(II)J -/
noncomputable def M_left (v0 : Nat) (v1 : Int32) (v2 : Int32) (h : ax_H) : Option (Int64 × ax_H) := (ax_EE 226).2.2.1 [.ref v0, .int v1, .int v2] h
noncomputable def M_left_25  (v0 : Nat) (v1 : Int32) (v2 : Int32) (v3 : Int64) (v5 : Int32) (h : ax_H) : Option (Int64 × ax_H) := ax_S ax_ρL (ax_env ax_EE 226) ax_nn r_226 r_226_25 [(0, .ref v0), (1, .int v1), (2, .int v2), (3, .long v3), (5, .int v5)] [] h
set_option maxRecDepth 100000 in
set_option maxHeartbeats 4000000 in
theorem M_left_eq (v0 : Nat) (v1 : Int32) (v2 : Int32) (h : ax_H) : M_left v0 v1 v2 h =
  (if decide (¬ v2 = 0) then
    (if (gS h v0).1 = 11 then if ax_in h (gR h v0 47) 16 v1 then let x1 := (Int32.toInt64 (gI h (gR h v0 47) (Int32.toNatClampNeg v1))); M_left_25 v0 v1 v2 x1 0 h else none else none)
  else
    (if (gS h v0).1 = 11 then if ax_in h (gR h v0 46) 16 v1 then let x2 := (Int32.toInt64 (gI h (gR h v0 46) (Int32.toNatClampNeg v1))); M_left_25 v0 v1 v2 x2 0 h else none else none) ) :=
  (ax_entL (N := 226) (C := r_226) (by decide) rfl (Nat.le_of_ble_eq_true rfl)).trans rfl
set_option maxRecDepth 100000 in
set_option maxHeartbeats 4000000 in
theorem M_left_25_eq  (v0 : Nat) (v1 : Int32) (v2 : Int32) (v3 : Int64) (v5 : Int32) (h : ax_H) : M_left_25  v0 v1 v2 v3 v5 h =
  (if decide ((6 : Int32) ≤ v5) then
    (some (v3, h) )
  else
    (if (gS h v0).1 = 11 then if ax_in h (gR h v0 45) 19 v5 then if decide ((gI h (gR h v0 45) (Int32.toNatClampNeg v5)) = 0) then
      (M_left_25 v0 v1 v2 (v3 - 0) (v5 + 1) h )
    else
      (if (gS h v0).1 = 11 then if ax_in h (gR h v0 40) 17 v5 then if (gS h v0).1 = 11 then (M_givenOn v0 v5 v1 v2 h).bind (fun r1 => let x2 := ((gL h (gR h v0 40) (Int32.toNatClampNeg v5)) * r1.1); M_left_25 v0 v1 v2 (v3 - (x2 / 1000)) (v5 + 1) r1.2 ) else none else none else none) else none else none) ) :=
  (ax_S_eq _ _ _ _).trans rfl
/-- 227 BlackSunModel.rows(II)V -/
noncomputable def M_rows (v0 : Nat) (v1 : Int32) (v2 : Int32) (h : ax_H) : Option (ax_H) := (ax_EE 227).1 [.ref v0, .int v1, .int v2] h
noncomputable def M_rows_12  (v0 : Nat) (v1 : Int32) (v2 : Int32) (v3 : Int32) (h : ax_H) : Option (ax_H) := ax_S ax_ρV (ax_env ax_EE 227) ax_nn r_227 r_227_12 [(0, .ref v0), (1, .int v1), (2, .int v2), (3, .int v3)] [] h
noncomputable def M_rows_28  (v0 : Nat) (v1 : Int32) (v2 : Int32) (v3 : Int32) (v4 : Int64) (v6 : Int32) (h : ax_H) : Option (ax_H) := ax_S ax_ρV (ax_env ax_EE 227) ax_nn r_227 r_227_28 [(0, .ref v0), (1, .int v1), (2, .int v2), (3, .int v3), (4, .long v4), (6, .int v6)] [] h
noncomputable def M_rows_73  (v0 : Nat) (v1 : Int32) (v2 : Int32) (v3 : Int32) (v4 : Int64) (v6 : Int32) (v7 : Int64) (v9 : Int32) (h : ax_H) : Option (ax_H) := ax_S ax_ρV (ax_env ax_EE 227) ax_nn r_227 r_227_73 [(0, .ref v0), (1, .int v1), (2, .int v2), (3, .int v3), (4, .long v4), (6, .int v6), (7, .long v7), (9, .int v9)] [] h
set_option maxRecDepth 100000 in
set_option maxHeartbeats 4000000 in
theorem M_rows_eq (v0 : Nat) (v1 : Int32) (v2 : Int32) (h : ax_H) : M_rows v0 v1 v2 h =
  (if (gS h v0).1 = 11 then if (gS h v0).1 = 11 then let h1 := pI h v0 50 ((gI h v0 50) + v2); M_rows_12 v0 v1 v2 0 h1 else none else none) :=
  (ax_entV (N := 227) (C := r_227) (by decide) rfl (Nat.le_of_ble_eq_true rfl)).trans rfl
set_option maxRecDepth 100000 in
set_option maxHeartbeats 4000000 in
theorem M_rows_12_eq  (v0 : Nat) (v1 : Int32) (v2 : Int32) (v3 : Int32) (h : ax_H) : M_rows_12  v0 v1 v2 v3 h =
  (if decide ((2 : Int32) ≤ v3) then
    (some h )
  else
    (if (gS h v0).1 = 11 then (M_left v0 v1 v3 h).bind (fun r1 => M_rows_28 v0 v1 v2 v3 r1.1 0 r1.2 ) else none) ) :=
  (ax_S_eq _ _ _ _).trans rfl
set_option maxRecDepth 100000 in
set_option maxHeartbeats 4000000 in
theorem M_rows_28_eq  (v0 : Nat) (v1 : Int32) (v2 : Int32) (v3 : Int32) (v4 : Int64) (v6 : Int32) (h : ax_H) : M_rows_28  v0 v1 v2 v3 v4 v6 h =
  (if (gS h v0).1 = 11 then if decide ((gI h v0 49) ≤ v6) then
    (M_rows_12 v0 v1 v2 (v3 + 1) h )
  else
    (if (gS h v0).1 = 11 then if ax_in h (gR h v0 39) 16 v6 then if (gS h v0).1 = 11 then (M_givenOn v0 (gI h (gR h v0 39) (Int32.toNatClampNeg v6)) v1 v3 h).bind (fun r1 => if (gS r1.2 v0).1 = 11 then if ax_in r1.2 (gR r1.2 v0 42) 17 v6 then if ax_in r1.2 (gR r1.2 v0 42) 17 v6 then let h2 := pL r1.2 (gR r1.2 v0 42) (Int32.toNatClampNeg v6) ((gL r1.2 (gR r1.2 v0 42) (Int32.toNatClampNeg v6)) + (((Int32.toInt64 v2) * r1.1) * v4)); M_rows_73 v0 v1 v2 v3 v4 v6 ((Int32.toInt64 v2) * r1.1) 0 h2 else none else none else none ) else none else none else none) else none) :=
  (ax_S_eq _ _ _ _).trans rfl
set_option maxRecDepth 100000 in
set_option maxHeartbeats 4000000 in
theorem M_rows_73_eq  (v0 : Nat) (v1 : Int32) (v2 : Int32) (v3 : Int32) (v4 : Int64) (v6 : Int32) (v7 : Int64) (v9 : Int32) (h : ax_H) : M_rows_73  v0 v1 v2 v3 v4 v6 v7 v9 h =
  (if (gS h v0).1 = 11 then if decide ((gI h v0 49) ≤ v9) then
    (M_rows_28 v0 v1 v2 v3 v4 (v6 + 1) h )
  else
    (if (gS h v0).1 = 11 then if ax_in h (gR h v0 41) 17 (((3 : Int32) * v6) + v9) then if (gS h v0).1 = 11 then if ax_in h (gR h v0 39) 16 v9 then if (gS h v0).1 = 11 then (M_givenOn v0 (gI h (gR h v0 39) (Int32.toNatClampNeg v9)) v1 v3 h).bind (fun r1 => if ax_in r1.2 (gR h v0 41) 17 (((3 : Int32) * v6) + v9) then let h2 := pL r1.2 (gR h v0 41) (Int32.toNatClampNeg (((3 : Int32) * v6) + v9)) ((gL h (gR h v0 41) (Int32.toNatClampNeg (((3 : Int32) * v6) + v9))) + (v7 * r1.1)); M_rows_73 v0 v1 v2 v3 v4 v6 v7 (v9 + 1) h2 else none ) else none else none else none else none else none) else none) :=
  (ax_S_eq _ _ _ _).trans rfl
/-- 228 BlackSunModel.sumAt(II)J -/
noncomputable def M_sumAt (v0 : Nat) (v1 : Int32) (v2 : Int32) (h : ax_H) : Option (Int64 × ax_H) := (ax_EE 228).2.2.1 [.ref v0, .int v1, .int v2] h
set_option maxRecDepth 100000 in
set_option maxHeartbeats 4000000 in
theorem M_sumAt_eq (v0 : Nat) (v1 : Int32) (v2 : Int32) (h : ax_H) : M_sumAt v0 v1 v2 h =
  (if (gS h v0).1 = 11 then if (gS h v0).1 = 11 then if (gI h v0 49) = 0 then none else if (gS h v0).1 = 11 then if (gI h v0 49) = 0 then none else if ax_in h (gR h v0 41) 17 (((3 : Int32) * (v1 - v1 / (gI h v0 49) * (gI h v0 49))) + (v2 - v2 / (gI h v0 49) * (gI h v0 49))) then some ((gL h (gR h v0 41) (Int32.toNatClampNeg (((3 : Int32) * (v1 - v1 / (gI h v0 49) * (gI h v0 49))) + (v2 - v2 / (gI h v0 49) * (gI h v0 49))))), h) else none else none else none else none) :=
  (ax_entL (N := 228) (C := r_228) (by decide) rfl (Nat.le_of_ble_eq_true rfl)).trans rfl
/-- 229 BlackSunModel.factor(II)J -/
noncomputable def M_factor (v0 : Nat) (v1 : Int32) (v2 : Int32) (h : ax_H) : Option (Int64 × ax_H) := (ax_EE 229).2.2.1 [.ref v0, .int v1, .int v2] h
set_option maxRecDepth 100000 in
set_option maxHeartbeats 4000000 in
theorem M_factor_eq (v0 : Nat) (v1 : Int32) (v2 : Int32) (h : ax_H) : M_factor v0 v1 v2 h =
  (if (gS h v0).1 = 11 then if decide (¬ (gI h v0 49) = 1) then
    (if (gS h v0).1 = 11 then if decide (¬ (gI h v0 49) = 2) then
      (if (gS h v0).1 = 11 then (M_sumAt v0 (v1 + 1) (v2 + 1) h).bind (fun r1 => if (gS r1.2 v0).1 = 11 then (M_sumAt v0 (v1 + 2) (v2 + 2) r1.2).bind (fun r2 => if (gS r2.2 v0).1 = 11 then (M_sumAt v0 (v1 + 1) (v2 + 2) r2.2).bind (fun r3 => if (gS r3.2 v0).1 = 11 then (M_sumAt v0 (v1 + 2) (v2 + 1) r3.2).bind (fun r4 => some (((r1.1 * r2.1) - (r3.1 * r4.1)), r4.2) ) else none ) else none ) else none ) else none)
    else
      (if decide (¬ v1 = v2) then
        (if (gS h v0).1 = 11 then (M_sumAt v0 (v1 + 1) (v2 + 1) h).bind (fun r5 => some ((-r5.1), r5.2) ) else none)
      else
        (if (gS h v0).1 = 11 then (M_sumAt v0 (v1 + 1) (v2 + 1) h).bind (fun r6 => some (r6.1, r6.2) ) else none) ) else none)
  else
    (some (1, h) ) else none) :=
  (ax_entL (N := 229) (C := r_229) (by decide) rfl (Nat.le_of_ble_eq_true rfl)).trans rfl
/-- 230 BlackSunModel.adds(JJJ)V -/
noncomputable def M_adds (v0 : Nat) (v1 : Int64) (v3 : Int64) (v5 : Int64) (h : ax_H) : Option (ax_H) := (ax_EE 230).1 [.ref v0, .long v1, .long v3, .long v5] h
noncomputable def M_adds_12 (k0 : Int64) (v0 : Nat) (v1 : Int64) (v3 : Int64) (v5 : Int64) (h : ax_H) : Option (ax_H) := ax_S ax_ρV (ax_env ax_EE 230) ax_nn r_230 r_230_12 [(0, .ref v0), (1, .long v1), (3, .long v3), (5, .long v5)] [.long k0] h
noncomputable def M_adds_31  (v0 : Nat) (v1 : Int64) (v3 : Int64) (v5 : Int64) (v7 : Int64) (v9 : Int64) (v11 : Int64) (h : ax_H) : Option (ax_H) := ax_S ax_ρV (ax_env ax_EE 230) ax_nn r_230 r_230_31 [(0, .ref v0), (1, .long v1), (3, .long v3), (5, .long v5), (7, .long v7), (9, .long v9), (11, .long v11)] [] h
noncomputable def M_adds_60  (v0 : Nat) (v1 : Int64) (v3 : Int64) (v5 : Int64) (v7 : Int64) (v9 : Int64) (v11 : Int64) (v13 : Int64) (v15 : Int64) (h : ax_H) : Option (ax_H) := ax_S ax_ρV (ax_env ax_EE 230) ax_nn r_230 r_230_60 [(0, .ref v0), (1, .long v1), (3, .long v3), (5, .long v5), (7, .long v7), (9, .long v9), (11, .long v11), (13, .long v13), (15, .long v15)] [] h
noncomputable def M_adds_142 (k0 : Int32) (k1 : Int32) (v0 : Nat) (v13 : Int64) (v15 : Int64) (h : ax_H) : Option (ax_H) := ax_S ax_ρV (ax_env ax_EE 230) ax_nn r_230 r_230_142 [(0, .ref v0), (13, .long v13), (15, .long v15)] [.int k0, .int k1] h
noncomputable def M_adds_170 (k0 : Int64) (k1 : Int64) (k2 : Nat) (v0 : Nat) (v15 : Int64) (v17 : Int32) (h : ax_H) : Option (ax_H) := ax_S ax_ρV (ax_env ax_EE 230) ax_nn r_230 r_230_170 [(0, .ref v0), (15, .long v15), (17, .int v17)] [.long k0, .long k1, .ref k2] h
set_option maxRecDepth 100000 in
set_option maxHeartbeats 4000000 in
theorem M_adds_eq (v0 : Nat) (v1 : Int64) (v3 : Int64) (v5 : Int64) (h : ax_H) : M_adds v0 v1 v3 v5 h =
  (if decide ((0 : Int32) ≤ (lg_cmp v1 0)) then
    (M_adds_12 v1 v0 v1 v3 v5 h )
  else
    (M_adds_12 (-v1) v0 v1 v3 v5 h ) ) :=
  (ax_entV (N := 230) (C := r_230) (by decide) rfl (Nat.le_of_ble_eq_true rfl)).trans rfl
set_option maxRecDepth 100000 in
set_option maxHeartbeats 4000000 in
theorem M_adds_12_eq (k0 : Int64) (v0 : Nat) (v1 : Int64) (v3 : Int64) (v5 : Int64) (h : ax_H) : M_adds_12 k0 v0 v1 v3 v5 h =
  (if decide ((0 : Int32) ≤ (lg_cmp v3 0)) then
    (M_adds_31 v0 v1 v3 v5 k0 v3 1 h )
  else
    (M_adds_31 v0 v1 v3 v5 k0 (-v3) 1 h ) ) :=
  (ax_S_eq _ _ _ _).trans rfl
set_option maxRecDepth 100000 in
set_option maxHeartbeats 4000000 in
theorem M_adds_31_eq  (v0 : Nat) (v1 : Int64) (v3 : Int64) (v5 : Int64) (v7 : Int64) (v9 : Int64) (v11 : Int64) (h : ax_H) : M_adds_31  v0 v1 v3 v5 v7 v9 v11 h =
  (if v11 = 0 then none else if decide ((lg_cmp (v9 / v11) 999) ≤ 0) then
    (M_adds_60 v0 v1 v3 v5 v7 v9 v11 0 0 h )
  else
    (M_adds_31 v0 v1 v3 v5 v7 v9 (v11 * 1000) h ) ) :=
  (ax_S_eq _ _ _ _).trans rfl
set_option maxRecDepth 100000 in
set_option maxHeartbeats 4000000 in
theorem M_adds_60_eq  (v0 : Nat) (v1 : Int64) (v3 : Int64) (v5 : Int64) (v7 : Int64) (v9 : Int64) (v11 : Int64) (v13 : Int64) (v15 : Int64) (h : ax_H) : M_adds_60  v0 v1 v3 v5 v7 v9 v11 v13 v15 h =
  (if decide ((lg_cmp v11 0) ≤ 0) then
    (if decide ((0 : Int32) ≤ (lg_cmp v1 0)) then
      (if decide ((0 : Int32) ≤ (lg_cmp v3 0)) then
        (M_adds_142 0 0 v0 v13 v15 h )
      else
        (M_adds_142 1 0 v0 v13 v15 h ) )
    else
      (if decide ((0 : Int32) ≤ (lg_cmp v3 0)) then
        (M_adds_142 0 1 v0 v13 v15 h )
      else
        (M_adds_142 1 1 v0 v13 v15 h ) ) )
  else
    (if v11 = 0 then none else let x1 := ((v15 * 1000) + (v7 * ((v9 / v11) - (v9 / v11) / 1000 * 1000))); if v5 = 0 then none else if v5 = 0 then none else M_adds_60 v0 v1 v3 v5 v7 v9 (v11 / 1000) ((v13 * 1000) + (x1 / v5)) (x1 - x1 / v5 * v5) h ) ) :=
  (ax_S_eq _ _ _ _).trans rfl
set_option maxRecDepth 100000 in
set_option maxHeartbeats 4000000 in
theorem M_adds_142_eq (k0 : Int32) (k1 : Int32) (v0 : Nat) (v13 : Int64) (v15 : Int64) (h : ax_H) : M_adds_142 k0 k1 v0 v13 v15 h =
  (if decide (k1 = k0) then
    (if (gS h v0).1 = 11 then M_adds_170 v13 (gL h v0 51) v0 v0 v15 0 h else none)
  else
    (if (gS h v0).1 = 11 then M_adds_170 (-v13) (gL h v0 51) v0 v0 v15 1 h else none) ) :=
  (ax_S_eq _ _ _ _).trans rfl
set_option maxRecDepth 100000 in
set_option maxHeartbeats 4000000 in
theorem M_adds_170_eq (k0 : Int64) (k1 : Int64) (k2 : Nat) (v0 : Nat) (v15 : Int64) (v17 : Int32) (h : ax_H) : M_adds_170 k0 k1 k2 v0 v15 v17 h =
  (if (gS h k2).1 = 11 then let h1 := pL h k2 51 (k1 + k0); if (gS h1 v0).1 = 11 then if decide (v17 = 0) then
    (if (gS h1 v0).1 = 11 then let h2 := pL h1 v0 52 ((gL h1 v0 52) + v15); some h2 else none)
  else
    (if (gS h1 v0).1 = 11 then let h3 := pL h1 v0 52 ((gL h1 v0 52) + (-v15)); some h3 else none) else none else none) :=
  (ax_S_eq _ _ _ _).trans rfl
