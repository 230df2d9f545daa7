/-! the law's equations, printed by wip/gen/eqs.py law -/
set_option maxRecDepth 100000 in
set_option maxHeartbeats 4000000 in
theorem Law_law_eq (v0 : Nat) (h : ax_H) : Law_law v0 h =
  (let h1 := nW h 0 0 5; if (gS h1 (gN h)).1 = 0 then (B_init (gN h) h1).bind (fun h2 => let h3 := nW h2 11 0 75; if (gS h3 (gN h2)).1 = 11 then (M_init (gN h2) h3).bind (fun h4 => Law_law_18 v0 (gN h) (gN h2) 0 h4 ) else none ) else none) :=
  (ax_entI (N := 278) (C := r_278) (by decide) rfl (Nat.le_of_ble_eq_true rfl)).trans rfl
set_option maxRecDepth 100000 in
set_option maxHeartbeats 4000000 in
theorem Law_law_18_eq  (v0 : Nat) (v1 : Nat) (v2 : Nat) (v3 : Int32) (h : ax_H) : Law_law_18  v0 v1 v2 v3 h =
  (if (gS h v0).1 = 24 then if decide (((nI (gS h v0).2) - 7) < v3) then
    (some (1, h) )
  else
    (if ax_in h v0 24 v3 then if ((gI h v0 (Int32.toNatClampNeg v3)) &&& 63) = 0 then
      (if ax_in h v0 24 (v3 + 1) then if (gS h v1).1 = 0 then (B_clock v1 (gI h v0 (Int32.toNatClampNeg (v3 + 1))) h).bind (fun r1 => if ax_in r1.2 v0 24 (v3 + 1) then if (gS r1.2 v2).1 = 11 then (M_clock v2 (gI r1.2 v0 (Int32.toNatClampNeg (v3 + 1))) r1.2).bind (fun r2 => if decide (r1.1 = r2.1) then
        (Law_law_18 v0 v1 v2 (v3 + 7) r2.2 )
      else
        (some (0, r2.2) ) ) else none else none ) else none else none)
    else if ((gI h v0 (Int32.toNatClampNeg v3)) &&& 63) = 1 then
      (if ax_in h v0 24 (v3 + 1) then if ax_in h v0 24 (v3 + 2) then if ax_in h v0 24 (v3 + 3) then if (gS h v1).1 = 0 then (B_star v1 (gI h v0 (Int32.toNatClampNeg (v3 + 1))) (gI h v0 (Int32.toNatClampNeg (v3 + 2))) (gI h v0 (Int32.toNatClampNeg (v3 + 3))) h).bind (fun r3 => if ax_in r3.2 v0 24 (v3 + 1) then if ax_in r3.2 v0 24 (v3 + 2) then if ax_in r3.2 v0 24 (v3 + 3) then if (gS r3.2 v2).1 = 11 then (M_star v2 (gI r3.2 v0 (Int32.toNatClampNeg (v3 + 1))) (gI r3.2 v0 (Int32.toNatClampNeg (v3 + 2))) (gI r3.2 v0 (Int32.toNatClampNeg (v3 + 3))) r3.2).bind (fun r4 => if decide (r3.1 = r4.1) then
        (Law_law_18 v0 v1 v2 (v3 + 7) r4.2 )
      else
        (some (0, r4.2) ) ) else none else none else none else none ) else none else none else none else none)
    else if ((gI h v0 (Int32.toNatClampNeg v3)) &&& 63) = 2 then
      (if ax_in h v0 24 (v3 + 1) then if ax_in h v0 24 (v3 + 2) then if (gS h v1).1 = 0 then (B_stars v1 (gI h v0 (Int32.toNatClampNeg (v3 + 1))) (gI h v0 (Int32.toNatClampNeg (v3 + 2))) h).bind (fun r5 => if ax_in r5.2 v0 24 (v3 + 1) then if ax_in r5.2 v0 24 (v3 + 2) then if (gS r5.2 v2).1 = 11 then (M_stars v2 (gI r5.2 v0 (Int32.toNatClampNeg (v3 + 1))) (gI r5.2 v0 (Int32.toNatClampNeg (v3 + 2))) r5.2).bind (fun r6 => if decide (r5.1 = r6.1) then
        (Law_law_18 v0 v1 v2 (v3 + 7) r6.2 )
      else
        (some (0, r6.2) ) ) else none else none else none ) else none else none else none)
    else if ((gI h v0 (Int32.toNatClampNeg v3)) &&& 63) = 3 then
      (if ax_in h v0 24 (v3 + 1) then if ax_in h v0 24 (v3 + 2) then if ax_in h v0 24 (v3 + 3) then if (gS h v1).1 = 0 then (B_plate v1 (gI h v0 (Int32.toNatClampNeg (v3 + 1))) (gI h v0 (Int32.toNatClampNeg (v3 + 2))) (gI h v0 (Int32.toNatClampNeg (v3 + 3))) h).bind (fun r7 => if ax_in r7.2 v0 24 (v3 + 1) then if ax_in r7.2 v0 24 (v3 + 2) then if ax_in r7.2 v0 24 (v3 + 3) then if (gS r7.2 v2).1 = 11 then (M_plate v2 (gI r7.2 v0 (Int32.toNatClampNeg (v3 + 1))) (gI r7.2 v0 (Int32.toNatClampNeg (v3 + 2))) (gI r7.2 v0 (Int32.toNatClampNeg (v3 + 3))) r7.2).bind (fun r8 => if decide (r7.1 = r8.1) then
        (Law_law_18 v0 v1 v2 (v3 + 7) r8.2 )
      else
        (some (0, r8.2) ) ) else none else none else none else none ) else none else none else none else none)
    else if ((gI h v0 (Int32.toNatClampNeg v3)) &&& 63) = 4 then
      (if ax_in h v0 24 (v3 + 1) then if ax_in h v0 24 (v3 + 2) then if ax_in h v0 24 (v3 + 3) then if ax_in h v0 24 (v3 + 4) then if ax_in h v0 24 (v3 + 5) then if (gS h v1).1 = 0 then (B_image v1 (gI h v0 (Int32.toNatClampNeg (v3 + 1))) (gI h v0 (Int32.toNatClampNeg (v3 + 2))) (gI h v0 (Int32.toNatClampNeg (v3 + 3))) (gI h v0 (Int32.toNatClampNeg (v3 + 4))) (gI h v0 (Int32.toNatClampNeg (v3 + 5))) h).bind (fun r9 => if ax_in r9.2 v0 24 (v3 + 1) then if ax_in r9.2 v0 24 (v3 + 2) then if ax_in r9.2 v0 24 (v3 + 3) then if ax_in r9.2 v0 24 (v3 + 4) then if ax_in r9.2 v0 24 (v3 + 5) then if (gS r9.2 v2).1 = 11 then (M_image v2 (gI r9.2 v0 (Int32.toNatClampNeg (v3 + 1))) (gI r9.2 v0 (Int32.toNatClampNeg (v3 + 2))) (gI r9.2 v0 (Int32.toNatClampNeg (v3 + 3))) (gI r9.2 v0 (Int32.toNatClampNeg (v3 + 4))) (gI r9.2 v0 (Int32.toNatClampNeg (v3 + 5))) r9.2).bind (fun r10 => if decide (r9.1 = r10.1) then
        (Law_law_18 v0 v1 v2 (v3 + 7) r10.2 )
      else
        (some (0, r10.2) ) ) else none else none else none else none else none else none ) else none else none else none else none else none else none)
    else if ((gI h v0 (Int32.toNatClampNeg v3)) &&& 63) = 5 then
      (if ax_in h v0 24 (v3 + 1) then if ax_in h v0 24 (v3 + 2) then if ax_in h v0 24 (v3 + 3) then if ax_in h v0 24 (v3 + 4) then if ax_in h v0 24 (v3 + 5) then if (gS h v1).1 = 0 then (B_images v1 (gI h v0 (Int32.toNatClampNeg (v3 + 1))) (gI h v0 (Int32.toNatClampNeg (v3 + 2))) (gI h v0 (Int32.toNatClampNeg (v3 + 3))) (gI h v0 (Int32.toNatClampNeg (v3 + 4))) (gI h v0 (Int32.toNatClampNeg (v3 + 5))) h).bind (fun r11 => if ax_in r11.2 v0 24 (v3 + 1) then if ax_in r11.2 v0 24 (v3 + 2) then if ax_in r11.2 v0 24 (v3 + 3) then if ax_in r11.2 v0 24 (v3 + 4) then if ax_in r11.2 v0 24 (v3 + 5) then if (gS r11.2 v2).1 = 11 then (M_images v2 (gI r11.2 v0 (Int32.toNatClampNeg (v3 + 1))) (gI r11.2 v0 (Int32.toNatClampNeg (v3 + 2))) (gI r11.2 v0 (Int32.toNatClampNeg (v3 + 3))) (gI r11.2 v0 (Int32.toNatClampNeg (v3 + 4))) (gI r11.2 v0 (Int32.toNatClampNeg (v3 + 5))) r11.2).bind (fun r12 => if decide (r11.1 = r12.1) then
        (Law_law_18 v0 v1 v2 (v3 + 7) r12.2 )
      else
        (some (0, r12.2) ) ) else none else none else none else none else none else none ) else none else none else none else none else none else none)
    else if ((gI h v0 (Int32.toNatClampNeg v3)) &&& 63) = 6 then
      (if ax_in h v0 24 (v3 + 1) then if ax_in h v0 24 (v3 + 2) then if ax_in h v0 24 (v3 + 3) then if (gS h v1).1 = 0 then (B_gives v1 (gI h v0 (Int32.toNatClampNeg (v3 + 1))) (gI h v0 (Int32.toNatClampNeg (v3 + 2))) (gI h v0 (Int32.toNatClampNeg (v3 + 3))) h).bind (fun r13 => if ax_in r13.2 v0 24 (v3 + 1) then if ax_in r13.2 v0 24 (v3 + 2) then if ax_in r13.2 v0 24 (v3 + 3) then if (gS r13.2 v2).1 = 11 then (M_gives v2 (gI r13.2 v0 (Int32.toNatClampNeg (v3 + 1))) (gI r13.2 v0 (Int32.toNatClampNeg (v3 + 2))) (gI r13.2 v0 (Int32.toNatClampNeg (v3 + 3))) r13.2).bind (fun r14 => if decide (r13.1 = r14.1) then
        (Law_law_18 v0 v1 v2 (v3 + 7) r14.2 )
      else
        (some (0, r14.2) ) ) else none else none else none else none ) else none else none else none else none)
    else if ((gI h v0 (Int32.toNatClampNeg v3)) &&& 63) = 7 then
      (if ax_in h v0 24 (v3 + 1) then if ax_in h v0 24 (v3 + 2) then if ax_in h v0 24 (v3 + 3) then if ax_in h v0 24 (v3 + 4) then if ax_in h v0 24 (v3 + 5) then if (gS h v1).1 = 0 then (B_feed v1 (gI h v0 (Int32.toNatClampNeg (v3 + 1))) (gI h v0 (Int32.toNatClampNeg (v3 + 2))) (gI h v0 (Int32.toNatClampNeg (v3 + 3))) (gI h v0 (Int32.toNatClampNeg (v3 + 4))) (gI h v0 (Int32.toNatClampNeg (v3 + 5))) h).bind (fun r15 => if ax_in r15.2 v0 24 (v3 + 1) then if ax_in r15.2 v0 24 (v3 + 2) then if ax_in r15.2 v0 24 (v3 + 3) then if ax_in r15.2 v0 24 (v3 + 4) then if ax_in r15.2 v0 24 (v3 + 5) then if (gS r15.2 v2).1 = 11 then (M_feed v2 (gI r15.2 v0 (Int32.toNatClampNeg (v3 + 1))) (gI r15.2 v0 (Int32.toNatClampNeg (v3 + 2))) (gI r15.2 v0 (Int32.toNatClampNeg (v3 + 3))) (gI r15.2 v0 (Int32.toNatClampNeg (v3 + 4))) (gI r15.2 v0 (Int32.toNatClampNeg (v3 + 5))) r15.2).bind (fun r16 => if decide (r15.1 = r16.1) then
        (Law_law_18 v0 v1 v2 (v3 + 7) r16.2 )
      else
        (some (0, r16.2) ) ) else none else none else none else none else none else none ) else none else none else none else none else none else none)
    else if ((gI h v0 (Int32.toNatClampNeg v3)) &&& 63) = 8 then
      (if ax_in h v0 24 (v3 + 1) then if (gS h v1).1 = 0 then (B_end v1 (gI h v0 (Int32.toNatClampNeg (v3 + 1))) h).bind (fun r17 => if ax_in r17.2 v0 24 (v3 + 1) then if (gS r17.2 v2).1 = 11 then (M_end v2 (gI r17.2 v0 (Int32.toNatClampNeg (v3 + 1))) r17.2).bind (fun r18 => if decide (r17.1 = r18.1) then
        (Law_law_18 v0 v1 v2 (v3 + 7) r18.2 )
      else
        (some (0, r18.2) ) ) else none else none ) else none else none)
    else if ((gI h v0 (Int32.toNatClampNeg v3)) &&& 63) = 9 then
      (if (gS h v1).1 = 0 then (B_way v1 h).bind (fun r19 => if (gS r19.2 v2).1 = 11 then (M_way v2 r19.2).bind (fun r20 => if decide (r19.1 = r20.1) then
        (Law_law_18 v0 v1 v2 (v3 + 7) r20.2 )
      else
        (some (0, r20.2) ) ) else none ) else none)
    else if ((gI h v0 (Int32.toNatClampNeg v3)) &&& 63) = 10 then
      (if ax_in h v0 24 (v3 + 1) then if ax_in h v0 24 (v3 + 2) then if (gS h v1).1 = 0 then (B_ways v1 (gI h v0 (Int32.toNatClampNeg (v3 + 1))) (gI h v0 (Int32.toNatClampNeg (v3 + 2))) h).bind (fun r21 => if ax_in r21.2 v0 24 (v3 + 1) then if ax_in r21.2 v0 24 (v3 + 2) then if (gS r21.2 v2).1 = 11 then (M_ways v2 (gI r21.2 v0 (Int32.toNatClampNeg (v3 + 1))) (gI r21.2 v0 (Int32.toNatClampNeg (v3 + 2))) r21.2).bind (fun r22 => if decide (r21.1 = r22.1) then
        (Law_law_18 v0 v1 v2 (v3 + 7) r22.2 )
      else
        (some (0, r22.2) ) ) else none else none else none ) else none else none else none)
    else if ((gI h v0 (Int32.toNatClampNeg v3)) &&& 63) = 11 then
      (if ax_in h v0 24 (v3 + 1) then if ax_in h v0 24 (v3 + 2) then if ax_in h v0 24 (v3 + 3) then if (gS h v1).1 = 0 then (B_takes v1 (gI h v0 (Int32.toNatClampNeg (v3 + 1))) (gI h v0 (Int32.toNatClampNeg (v3 + 2))) (gI h v0 (Int32.toNatClampNeg (v3 + 3))) h).bind (fun r23 => if ax_in r23.2 v0 24 (v3 + 1) then if ax_in r23.2 v0 24 (v3 + 2) then if ax_in r23.2 v0 24 (v3 + 3) then if (gS r23.2 v2).1 = 11 then (M_takes_X220 v2 (gI r23.2 v0 (Int32.toNatClampNeg (v3 + 1))) (gI r23.2 v0 (Int32.toNatClampNeg (v3 + 2))) (gI r23.2 v0 (Int32.toNatClampNeg (v3 + 3))) r23.2).bind (fun r24 => if decide (r23.1 = r24.1) then
        (Law_law_18 v0 v1 v2 (v3 + 7) r24.2 )
      else
        (some (0, r24.2) ) ) else none else none else none else none ) else none else none else none else none)
    else if ((gI h v0 (Int32.toNatClampNeg v3)) &&& 63) = 12 then
      (if ax_in h v0 24 (v3 + 1) then if ax_in h v0 24 (v3 + 2) then if ax_in h v0 24 (v3 + 3) then if (gS h v1).1 = 0 then (B_answer v1 (gI h v0 (Int32.toNatClampNeg (v3 + 1))) (gI h v0 (Int32.toNatClampNeg (v3 + 2))) (gI h v0 (Int32.toNatClampNeg (v3 + 3))) h).bind (fun r25 => if ax_in r25.2 v0 24 (v3 + 1) then if ax_in r25.2 v0 24 (v3 + 2) then if ax_in r25.2 v0 24 (v3 + 3) then if (gS r25.2 v2).1 = 11 then (M_answer v2 (gI r25.2 v0 (Int32.toNatClampNeg (v3 + 1))) (gI r25.2 v0 (Int32.toNatClampNeg (v3 + 2))) (gI r25.2 v0 (Int32.toNatClampNeg (v3 + 3))) r25.2).bind (fun r26 => if decide (r25.1 = r26.1) then
        (Law_law_18 v0 v1 v2 (v3 + 7) r26.2 )
      else
        (some (0, r26.2) ) ) else none else none else none else none ) else none else none else none else none)
    else if ((gI h v0 (Int32.toNatClampNeg v3)) &&& 63) = 13 then
      (if ax_in h v0 24 (v3 + 1) then if ax_in h v0 24 (v3 + 2) then if (gS h v1).1 = 0 then (B_miss v1 (gI h v0 (Int32.toNatClampNeg (v3 + 1))) (gI h v0 (Int32.toNatClampNeg (v3 + 2))) h).bind (fun r27 => if ax_in r27.2 v0 24 (v3 + 1) then if ax_in r27.2 v0 24 (v3 + 2) then if (gS r27.2 v2).1 = 11 then (M_miss v2 (gI r27.2 v0 (Int32.toNatClampNeg (v3 + 1))) (gI r27.2 v0 (Int32.toNatClampNeg (v3 + 2))) r27.2).bind (fun r28 => if decide ((lg_cmp r27.1 r28.1) = 0) then
        (Law_law_18 v0 v1 v2 (v3 + 7) r28.2 )
      else
        (some (0, r28.2) ) ) else none else none else none ) else none else none else none)
    else if ((gI h v0 (Int32.toNatClampNeg v3)) &&& 63) = 14 then
      (if ax_in h v0 24 (v3 + 1) then if ax_in h v0 24 (v3 + 2) then if ax_in h v0 24 (v3 + 3) then if ax_in h v0 24 (v3 + 4) then if (gS h v1).1 = 0 then (B_each v1 (gI h v0 (Int32.toNatClampNeg (v3 + 1))) (gI h v0 (Int32.toNatClampNeg (v3 + 2))) (gI h v0 (Int32.toNatClampNeg (v3 + 3))) (gI h v0 (Int32.toNatClampNeg (v3 + 4))) h).bind (fun r29 => if ax_in r29.2 v0 24 (v3 + 1) then if ax_in r29.2 v0 24 (v3 + 2) then if ax_in r29.2 v0 24 (v3 + 3) then if ax_in r29.2 v0 24 (v3 + 4) then if (gS r29.2 v2).1 = 11 then (M_each v2 (gI r29.2 v0 (Int32.toNatClampNeg (v3 + 1))) (gI r29.2 v0 (Int32.toNatClampNeg (v3 + 2))) (gI r29.2 v0 (Int32.toNatClampNeg (v3 + 3))) (gI r29.2 v0 (Int32.toNatClampNeg (v3 + 4))) r29.2).bind (fun r30 => if decide (r29.1 = r30.1) then
        (Law_law_18 v0 v1 v2 (v3 + 7) r30.2 )
      else
        (some (0, r30.2) ) ) else none else none else none else none else none ) else none else none else none else none else none)
    else if ((gI h v0 (Int32.toNatClampNeg v3)) &&& 63) = 15 then
      (if ax_in h v0 24 (v3 + 1) then if ax_in h v0 24 (v3 + 2) then if ax_in h v0 24 (v3 + 3) then if ax_in h v0 24 (v3 + 4) then if ax_in h v0 24 (v3 + 5) then if (gS h v1).1 = 0 then (B_ruled v1 (gI h v0 (Int32.toNatClampNeg (v3 + 1))) (gI h v0 (Int32.toNatClampNeg (v3 + 2))) (gI h v0 (Int32.toNatClampNeg (v3 + 3))) (gI h v0 (Int32.toNatClampNeg (v3 + 4))) (gI h v0 (Int32.toNatClampNeg (v3 + 5))) h).bind (fun r31 => if ax_in r31.2 v0 24 (v3 + 1) then if ax_in r31.2 v0 24 (v3 + 2) then if ax_in r31.2 v0 24 (v3 + 3) then if ax_in r31.2 v0 24 (v3 + 4) then if ax_in r31.2 v0 24 (v3 + 5) then if (gS r31.2 v2).1 = 11 then (M_ruled v2 (gI r31.2 v0 (Int32.toNatClampNeg (v3 + 1))) (gI r31.2 v0 (Int32.toNatClampNeg (v3 + 2))) (gI r31.2 v0 (Int32.toNatClampNeg (v3 + 3))) (gI r31.2 v0 (Int32.toNatClampNeg (v3 + 4))) (gI r31.2 v0 (Int32.toNatClampNeg (v3 + 5))) r31.2).bind (fun r32 => if decide (r31.1 = r32.1) then
        (Law_law_18 v0 v1 v2 (v3 + 7) r32.2 )
      else
        (some (0, r32.2) ) ) else none else none else none else none else none else none ) else none else none else none else none else none else none)
    else if ((gI h v0 (Int32.toNatClampNeg v3)) &&& 63) = 16 then
      (if ax_in h v0 24 (v3 + 1) then if ax_in h v0 24 (v3 + 2) then if ax_in h v0 24 (v3 + 3) then if ax_in h v0 24 (v3 + 4) then if ax_in h v0 24 (v3 + 5) then if (gS h v1).1 = 0 then (B_three v1 (gI h v0 (Int32.toNatClampNeg (v3 + 1))) (gI h v0 (Int32.toNatClampNeg (v3 + 2))) (gI h v0 (Int32.toNatClampNeg (v3 + 3))) (gI h v0 (Int32.toNatClampNeg (v3 + 4))) (gI h v0 (Int32.toNatClampNeg (v3 + 5))) h).bind (fun r33 => if ax_in r33.2 v0 24 (v3 + 1) then if ax_in r33.2 v0 24 (v3 + 2) then if ax_in r33.2 v0 24 (v3 + 3) then if ax_in r33.2 v0 24 (v3 + 4) then if ax_in r33.2 v0 24 (v3 + 5) then if (gS r33.2 v2).1 = 11 then (M_three v2 (gI r33.2 v0 (Int32.toNatClampNeg (v3 + 1))) (gI r33.2 v0 (Int32.toNatClampNeg (v3 + 2))) (gI r33.2 v0 (Int32.toNatClampNeg (v3 + 3))) (gI r33.2 v0 (Int32.toNatClampNeg (v3 + 4))) (gI r33.2 v0 (Int32.toNatClampNeg (v3 + 5))) r33.2).bind (fun r34 => if decide (r33.1 = r34.1) then
        (Law_law_18 v0 v1 v2 (v3 + 7) r34.2 )
      else
        (some (0, r34.2) ) ) else none else none else none else none else none else none ) else none else none else none else none else none else none)
    else if ((gI h v0 (Int32.toNatClampNeg v3)) &&& 63) = 17 then
      (if ax_in h v0 24 (v3 + 1) then if ax_in h v0 24 (v3 + 2) then if ax_in h v0 24 (v3 + 3) then if (gS h v1).1 = 0 then (B_mixed v1 (gI h v0 (Int32.toNatClampNeg (v3 + 1))) (gI h v0 (Int32.toNatClampNeg (v3 + 2))) (gI h v0 (Int32.toNatClampNeg (v3 + 3))) h).bind (fun r35 => if ax_in r35.2 v0 24 (v3 + 1) then if ax_in r35.2 v0 24 (v3 + 2) then if ax_in r35.2 v0 24 (v3 + 3) then if (gS r35.2 v2).1 = 11 then (M_mixed v2 (gI r35.2 v0 (Int32.toNatClampNeg (v3 + 1))) (gI r35.2 v0 (Int32.toNatClampNeg (v3 + 2))) (gI r35.2 v0 (Int32.toNatClampNeg (v3 + 3))) r35.2).bind (fun r36 => if decide ((lg_cmp r35.1 r36.1) = 0) then
        (Law_law_18 v0 v1 v2 (v3 + 7) r36.2 )
      else
        (some (0, r36.2) ) ) else none else none else none else none ) else none else none else none else none)
    else if ((gI h v0 (Int32.toNatClampNeg v3)) &&& 63) = 18 then
      (if ax_in h v0 24 (v3 + 1) then if ax_in h v0 24 (v3 + 2) then if (gS h v1).1 = 0 then (B_parter v1 (gI h v0 (Int32.toNatClampNeg (v3 + 1))) (gI h v0 (Int32.toNatClampNeg (v3 + 2))) h).bind (fun r37 => if ax_in r37.2 v0 24 (v3 + 1) then if ax_in r37.2 v0 24 (v3 + 2) then if (gS r37.2 v2).1 = 11 then (M_parter v2 (gI r37.2 v0 (Int32.toNatClampNeg (v3 + 1))) (gI r37.2 v0 (Int32.toNatClampNeg (v3 + 2))) r37.2).bind (fun r38 => if decide (r37.1 = r38.1) then
        (Law_law_18 v0 v1 v2 (v3 + 7) r38.2 )
      else
        (some (0, r38.2) ) ) else none else none else none ) else none else none else none)
    else if ((gI h v0 (Int32.toNatClampNeg v3)) &&& 63) = 19 then
      (if ax_in h v0 24 (v3 + 1) then if ax_in h v0 24 (v3 + 2) then if ax_in h v0 24 (v3 + 3) then if (gS h v1).1 = 0 then (B_usable v1 (gI h v0 (Int32.toNatClampNeg (v3 + 1))) (gI h v0 (Int32.toNatClampNeg (v3 + 2))) (gI h v0 (Int32.toNatClampNeg (v3 + 3))) h).bind (fun r39 => if ax_in r39.2 v0 24 (v3 + 1) then if ax_in r39.2 v0 24 (v3 + 2) then if ax_in r39.2 v0 24 (v3 + 3) then if (gS r39.2 v2).1 = 11 then (M_usable v2 (gI r39.2 v0 (Int32.toNatClampNeg (v3 + 1))) (gI r39.2 v0 (Int32.toNatClampNeg (v3 + 2))) (gI r39.2 v0 (Int32.toNatClampNeg (v3 + 3))) r39.2).bind (fun r40 => if decide (r39.1 = r40.1) then
        (Law_law_18 v0 v1 v2 (v3 + 7) r40.2 )
      else
        (some (0, r40.2) ) ) else none else none else none else none ) else none else none else none else none)
    else if ((gI h v0 (Int32.toNatClampNeg v3)) &&& 63) = 20 then
      (if ax_in h v0 24 (v3 + 1) then if ax_in h v0 24 (v3 + 2) then if (gS h v1).1 = 0 then (B_tell v1 (gI h v0 (Int32.toNatClampNeg (v3 + 1))) (gI h v0 (Int32.toNatClampNeg (v3 + 2))) h).bind (fun r41 => if ax_in r41.2 v0 24 (v3 + 1) then if ax_in r41.2 v0 24 (v3 + 2) then if (gS r41.2 v2).1 = 11 then (M_tell v2 (gI r41.2 v0 (Int32.toNatClampNeg (v3 + 1))) (gI r41.2 v0 (Int32.toNatClampNeg (v3 + 2))) r41.2).bind (fun r42 => if decide (r41.1 = r42.1) then
        (Law_law_18 v0 v1 v2 (v3 + 7) r42.2 )
      else
        (some (0, r42.2) ) ) else none else none else none ) else none else none else none)
    else if ((gI h v0 (Int32.toNatClampNeg v3)) &&& 63) = 21 then
      (if ax_in h v0 24 (v3 + 1) then if ax_in h v0 24 (v3 + 2) then if (gS h v1).1 = 0 then (B_knows v1 (gI h v0 (Int32.toNatClampNeg (v3 + 1))) (gI h v0 (Int32.toNatClampNeg (v3 + 2))) h).bind (fun r43 => if ax_in r43.2 v0 24 (v3 + 1) then if ax_in r43.2 v0 24 (v3 + 2) then if (gS r43.2 v2).1 = 11 then (M_knows v2 (gI r43.2 v0 (Int32.toNatClampNeg (v3 + 1))) (gI r43.2 v0 (Int32.toNatClampNeg (v3 + 2))) r43.2).bind (fun r44 => if decide (r43.1 = r44.1) then
        (Law_law_18 v0 v1 v2 (v3 + 7) r44.2 )
      else
        (some (0, r44.2) ) ) else none else none else none ) else none else none else none)
    else if ((gI h v0 (Int32.toNatClampNeg v3)) &&& 63) = 22 then
      (if ax_in h v0 24 (v3 + 1) then if ax_in h v0 24 (v3 + 2) then if ax_in h v0 24 (v3 + 3) then if ax_in h v0 24 (v3 + 4) then if (gS h v1).1 = 0 then (B_leans v1 (gI h v0 (Int32.toNatClampNeg (v3 + 1))) (gI h v0 (Int32.toNatClampNeg (v3 + 2))) (gI h v0 (Int32.toNatClampNeg (v3 + 3))) (gI h v0 (Int32.toNatClampNeg (v3 + 4))) h).bind (fun r45 => if ax_in r45.2 v0 24 (v3 + 1) then if ax_in r45.2 v0 24 (v3 + 2) then if ax_in r45.2 v0 24 (v3 + 3) then if ax_in r45.2 v0 24 (v3 + 4) then if (gS r45.2 v2).1 = 11 then (M_leans v2 (gI r45.2 v0 (Int32.toNatClampNeg (v3 + 1))) (gI r45.2 v0 (Int32.toNatClampNeg (v3 + 2))) (gI r45.2 v0 (Int32.toNatClampNeg (v3 + 3))) (gI r45.2 v0 (Int32.toNatClampNeg (v3 + 4))) r45.2).bind (fun r46 => if decide ((lg_cmp r45.1 r46.1) = 0) then
        (Law_law_18 v0 v1 v2 (v3 + 7) r46.2 )
      else
        (some (0, r46.2) ) ) else none else none else none else none else none ) else none else none else none else none else none)
    else if ((gI h v0 (Int32.toNatClampNeg v3)) &&& 63) = 23 then
      (if ax_in h v0 24 (v3 + 1) then if ax_in h v0 24 (v3 + 2) then if ax_in h v0 24 (v3 + 3) then if ax_in h v0 24 (v3 + 4) then if (gS h v1).1 = 0 then (B_joined v1 (gI h v0 (Int32.toNatClampNeg (v3 + 1))) (gI h v0 (Int32.toNatClampNeg (v3 + 2))) (gI h v0 (Int32.toNatClampNeg (v3 + 3))) (gI h v0 (Int32.toNatClampNeg (v3 + 4))) h).bind (fun r47 => if ax_in r47.2 v0 24 (v3 + 1) then if ax_in r47.2 v0 24 (v3 + 2) then if ax_in r47.2 v0 24 (v3 + 3) then if ax_in r47.2 v0 24 (v3 + 4) then if (gS r47.2 v2).1 = 11 then (M_joined v2 (gI r47.2 v0 (Int32.toNatClampNeg (v3 + 1))) (gI r47.2 v0 (Int32.toNatClampNeg (v3 + 2))) (gI r47.2 v0 (Int32.toNatClampNeg (v3 + 3))) (gI r47.2 v0 (Int32.toNatClampNeg (v3 + 4))) r47.2).bind (fun r48 => if decide (r47.1 = r48.1) then
        (Law_law_18 v0 v1 v2 (v3 + 7) r48.2 )
      else
        (some (0, r48.2) ) ) else none else none else none else none else none ) else none else none else none else none else none)
    else if ((gI h v0 (Int32.toNatClampNeg v3)) &&& 63) = 24 then
      (if ax_in h v0 24 (v3 + 1) then if ax_in h v0 24 (v3 + 2) then if ax_in h v0 24 (v3 + 3) then if ax_in h v0 24 (v3 + 4) then if ax_in h v0 24 (v3 + 5) then if (gS h v1).1 = 0 then (B_quarrel v1 (gI h v0 (Int32.toNatClampNeg (v3 + 1))) (gI h v0 (Int32.toNatClampNeg (v3 + 2))) (gI h v0 (Int32.toNatClampNeg (v3 + 3))) (gI h v0 (Int32.toNatClampNeg (v3 + 4))) (gI h v0 (Int32.toNatClampNeg (v3 + 5))) h).bind (fun r49 => if ax_in r49.2 v0 24 (v3 + 1) then if ax_in r49.2 v0 24 (v3 + 2) then if ax_in r49.2 v0 24 (v3 + 3) then if ax_in r49.2 v0 24 (v3 + 4) then if ax_in r49.2 v0 24 (v3 + 5) then if (gS r49.2 v2).1 = 11 then (M_quarrel v2 (gI r49.2 v0 (Int32.toNatClampNeg (v3 + 1))) (gI r49.2 v0 (Int32.toNatClampNeg (v3 + 2))) (gI r49.2 v0 (Int32.toNatClampNeg (v3 + 3))) (gI r49.2 v0 (Int32.toNatClampNeg (v3 + 4))) (gI r49.2 v0 (Int32.toNatClampNeg (v3 + 5))) r49.2).bind (fun r50 => if decide (r49.1 = r50.1) then
        (Law_law_18 v0 v1 v2 (v3 + 7) r50.2 )
      else
        (some (0, r50.2) ) ) else none else none else none else none else none else none ) else none else none else none else none else none else none)
    else if ((gI h v0 (Int32.toNatClampNeg v3)) &&& 63) = 25 then
      (if ax_in h v0 24 (v3 + 1) then if ax_in h v0 24 (v3 + 2) then if (gS h v1).1 = 0 then (B_say v1 (gI h v0 (Int32.toNatClampNeg (v3 + 1))) (gI h v0 (Int32.toNatClampNeg (v3 + 2))) h).bind (fun r51 => if ax_in r51.2 v0 24 (v3 + 1) then if ax_in r51.2 v0 24 (v3 + 2) then if (gS r51.2 v2).1 = 11 then (M_say v2 (gI r51.2 v0 (Int32.toNatClampNeg (v3 + 1))) (gI r51.2 v0 (Int32.toNatClampNeg (v3 + 2))) r51.2).bind (fun r52 => if decide (r51.1 = r52.1) then
        (Law_law_18 v0 v1 v2 (v3 + 7) r52.2 )
      else
        (some (0, r52.2) ) ) else none else none else none ) else none else none else none)
    else if ((gI h v0 (Int32.toNatClampNeg v3)) &&& 63) = 26 then
      (if ax_in h v0 24 (v3 + 1) then if ax_in h v0 24 (v3 + 2) then if ax_in h v0 24 (v3 + 3) then if decide ((gI h v0 (Int32.toNatClampNeg (v3 + 3))) = 0) then
        (Law_law_1363 0 (gI h v0 (Int32.toNatClampNeg (v3 + 2))) (gI h v0 (Int32.toNatClampNeg (v3 + 1))) v1 v0 v1 v2 v3 h )
      else
        (Law_law_1363 1 (gI h v0 (Int32.toNatClampNeg (v3 + 2))) (gI h v0 (Int32.toNatClampNeg (v3 + 1))) v1 v0 v1 v2 v3 h ) else none else none else none)
    else if ((gI h v0 (Int32.toNatClampNeg v3)) &&& 63) = 27 then
      (if ax_in h v0 24 (v3 + 1) then if ax_in h v0 24 (v3 + 2) then if (gS h v1).1 = 0 then (B_field v1 (gI h v0 (Int32.toNatClampNeg (v3 + 1))) (gI h v0 (Int32.toNatClampNeg (v3 + 2))) h).bind (fun r53 => if ax_in r53.2 v0 24 (v3 + 1) then if ax_in r53.2 v0 24 (v3 + 2) then if (gS r53.2 v2).1 = 11 then (M_field v2 (gI r53.2 v0 (Int32.toNatClampNeg (v3 + 1))) (gI r53.2 v0 (Int32.toNatClampNeg (v3 + 2))) r53.2).bind (fun r54 => if decide (r53.1 = r54.1) then
        (Law_law_18 v0 v1 v2 (v3 + 7) r54.2 )
      else
        (some (0, r54.2) ) ) else none else none else none ) else none else none else none)
    else if ((gI h v0 (Int32.toNatClampNeg v3)) &&& 63) = 28 then
      (if ax_in h v0 24 (v3 + 1) then if ax_in h v0 24 (v3 + 2) then if (gS h v1).1 = 0 then (B_planned v1 (gI h v0 (Int32.toNatClampNeg (v3 + 1))) (gI h v0 (Int32.toNatClampNeg (v3 + 2))) h).bind (fun r55 => if ax_in r55.2 v0 24 (v3 + 1) then if ax_in r55.2 v0 24 (v3 + 2) then if (gS r55.2 v2).1 = 11 then (M_planned v2 (gI r55.2 v0 (Int32.toNatClampNeg (v3 + 1))) (gI r55.2 v0 (Int32.toNatClampNeg (v3 + 2))) r55.2).bind (fun r56 => if decide (r55.1 = r56.1) then
        (Law_law_18 v0 v1 v2 (v3 + 7) r56.2 )
      else
        (some (0, r56.2) ) ) else none else none else none ) else none else none else none)
    else if ((gI h v0 (Int32.toNatClampNeg v3)) &&& 63) = 29 then
      (if ax_in h v0 24 (v3 + 1) then if ax_in h v0 24 (v3 + 2) then if ax_in h v0 24 (v3 + 3) then if ax_in h v0 24 (v3 + 4) then if ax_in h v0 24 (v3 + 5) then if ax_in h v0 24 (v3 + 6) then if (gS h v1).1 = 0 then (B_right v1 (gI h v0 (Int32.toNatClampNeg (v3 + 1))) (gI h v0 (Int32.toNatClampNeg (v3 + 2))) (gI h v0 (Int32.toNatClampNeg (v3 + 3))) (gI h v0 (Int32.toNatClampNeg (v3 + 4))) (gI h v0 (Int32.toNatClampNeg (v3 + 5))) (gI h v0 (Int32.toNatClampNeg (v3 + 6))) h).bind (fun r57 => if ax_in r57.2 v0 24 (v3 + 1) then if ax_in r57.2 v0 24 (v3 + 2) then if ax_in r57.2 v0 24 (v3 + 3) then if ax_in r57.2 v0 24 (v3 + 4) then if ax_in r57.2 v0 24 (v3 + 5) then if ax_in r57.2 v0 24 (v3 + 6) then if (gS r57.2 v2).1 = 11 then (M_right v2 (gI r57.2 v0 (Int32.toNatClampNeg (v3 + 1))) (gI r57.2 v0 (Int32.toNatClampNeg (v3 + 2))) (gI r57.2 v0 (Int32.toNatClampNeg (v3 + 3))) (gI r57.2 v0 (Int32.toNatClampNeg (v3 + 4))) (gI r57.2 v0 (Int32.toNatClampNeg (v3 + 5))) (gI r57.2 v0 (Int32.toNatClampNeg (v3 + 6))) r57.2).bind (fun r58 => if decide (r57.1 = r58.1) then
        (Law_law_18 v0 v1 v2 (v3 + 7) r58.2 )
      else
        (some (0, r58.2) ) ) else none else none else none else none else none else none else none ) else none else none else none else none else none else none else none)
    else if ((gI h v0 (Int32.toNatClampNeg v3)) &&& 63) = 30 then
      (if ax_in h v0 24 (v3 + 1) then if ax_in h v0 24 (v3 + 2) then if ax_in h v0 24 (v3 + 3) then if (gS h v1).1 = 0 then (B_span v1 (gI h v0 (Int32.toNatClampNeg (v3 + 1))) (gI h v0 (Int32.toNatClampNeg (v3 + 2))) (gI h v0 (Int32.toNatClampNeg (v3 + 3))) h).bind (fun r59 => if ax_in r59.2 v0 24 (v3 + 1) then if ax_in r59.2 v0 24 (v3 + 2) then if ax_in r59.2 v0 24 (v3 + 3) then if (gS r59.2 v2).1 = 11 then (M_span v2 (gI r59.2 v0 (Int32.toNatClampNeg (v3 + 1))) (gI r59.2 v0 (Int32.toNatClampNeg (v3 + 2))) (gI r59.2 v0 (Int32.toNatClampNeg (v3 + 3))) r59.2).bind (fun r60 => if decide (r59.1 = r60.1) then
        (Law_law_18 v0 v1 v2 (v3 + 7) r60.2 )
      else
        (some (0, r60.2) ) ) else none else none else none else none ) else none else none else none else none)
    else if ((gI h v0 (Int32.toNatClampNeg v3)) &&& 63) = 31 then
      (if ax_in h v0 24 (v3 + 1) then if ax_in h v0 24 (v3 + 2) then if ax_in h v0 24 (v3 + 3) then if ax_in h v0 24 (v3 + 4) then if ax_in h v0 24 (v3 + 5) then if (gS h v1).1 = 0 then (B_named v1 (gI h v0 (Int32.toNatClampNeg (v3 + 1))) (gI h v0 (Int32.toNatClampNeg (v3 + 2))) (gI h v0 (Int32.toNatClampNeg (v3 + 3))) (gI h v0 (Int32.toNatClampNeg (v3 + 4))) (gI h v0 (Int32.toNatClampNeg (v3 + 5))) h).bind (fun r61 => if ax_in r61.2 v0 24 (v3 + 1) then if ax_in r61.2 v0 24 (v3 + 2) then if ax_in r61.2 v0 24 (v3 + 3) then if ax_in r61.2 v0 24 (v3 + 4) then if ax_in r61.2 v0 24 (v3 + 5) then if (gS r61.2 v2).1 = 11 then (M_named v2 (gI r61.2 v0 (Int32.toNatClampNeg (v3 + 1))) (gI r61.2 v0 (Int32.toNatClampNeg (v3 + 2))) (gI r61.2 v0 (Int32.toNatClampNeg (v3 + 3))) (gI r61.2 v0 (Int32.toNatClampNeg (v3 + 4))) (gI r61.2 v0 (Int32.toNatClampNeg (v3 + 5))) r61.2).bind (fun r62 => if decide (r61.1 = r62.1) then
        (Law_law_18 v0 v1 v2 (v3 + 7) r62.2 )
      else
        (some (0, r62.2) ) ) else none else none else none else none else none else none ) else none else none else none else none else none else none)
    else if ((gI h v0 (Int32.toNatClampNeg v3)) &&& 63) = 32 then
      (if ax_in h v0 24 (v3 + 1) then if ax_in h v0 24 (v3 + 2) then if ax_in h v0 24 (v3 + 3) then if ax_in h v0 24 (v3 + 4) then if (gS h v1).1 = 0 then (B_glass v1 (gI h v0 (Int32.toNatClampNeg (v3 + 1))) (gI h v0 (Int32.toNatClampNeg (v3 + 2))) (gI h v0 (Int32.toNatClampNeg (v3 + 3))) (gI h v0 (Int32.toNatClampNeg (v3 + 4))) h).bind (fun r63 => if ax_in r63.2 v0 24 (v3 + 1) then if ax_in r63.2 v0 24 (v3 + 2) then if ax_in r63.2 v0 24 (v3 + 3) then if ax_in r63.2 v0 24 (v3 + 4) then if (gS r63.2 v2).1 = 11 then (M_glass v2 (gI r63.2 v0 (Int32.toNatClampNeg (v3 + 1))) (gI r63.2 v0 (Int32.toNatClampNeg (v3 + 2))) (gI r63.2 v0 (Int32.toNatClampNeg (v3 + 3))) (gI r63.2 v0 (Int32.toNatClampNeg (v3 + 4))) r63.2).bind (fun r64 => if decide (r63.1 = r64.1) then
        (Law_law_18 v0 v1 v2 (v3 + 7) r64.2 )
      else
        (some (0, r64.2) ) ) else none else none else none else none else none ) else none else none else none else none else none)
    else if ((gI h v0 (Int32.toNatClampNeg v3)) &&& 63) = 33 then
      (if ax_in h v0 24 (v3 + 1) then if ax_in h v0 24 (v3 + 2) then if ax_in h v0 24 (v3 + 3) then if ax_in h v0 24 (v3 + 4) then if (gS h v1).1 = 0 then (B_stands v1 (gI h v0 (Int32.toNatClampNeg (v3 + 1))) (gI h v0 (Int32.toNatClampNeg (v3 + 2))) (gI h v0 (Int32.toNatClampNeg (v3 + 3))) (gI h v0 (Int32.toNatClampNeg (v3 + 4))) h).bind (fun r65 => if ax_in r65.2 v0 24 (v3 + 1) then if ax_in r65.2 v0 24 (v3 + 2) then if ax_in r65.2 v0 24 (v3 + 3) then if ax_in r65.2 v0 24 (v3 + 4) then if (gS r65.2 v2).1 = 11 then (M_stands_X268 v2 (gI r65.2 v0 (Int32.toNatClampNeg (v3 + 1))) (gI r65.2 v0 (Int32.toNatClampNeg (v3 + 2))) (gI r65.2 v0 (Int32.toNatClampNeg (v3 + 3))) (gI r65.2 v0 (Int32.toNatClampNeg (v3 + 4))) r65.2).bind (fun r66 => if decide (r65.1 = r66.1) then
        (Law_law_18 v0 v1 v2 (v3 + 7) r66.2 )
      else
        (some (0, r66.2) ) ) else none else none else none else none else none ) else none else none else none else none else none)
    else if ((gI h v0 (Int32.toNatClampNeg v3)) &&& 63) = 34 then
      (if ax_in h v0 24 (v3 + 1) then if ax_in h v0 24 (v3 + 2) then if ax_in h v0 24 (v3 + 3) then if (gS h v1).1 = 0 then (B_off v1 (gI h v0 (Int32.toNatClampNeg (v3 + 1))) (gI h v0 (Int32.toNatClampNeg (v3 + 2))) (gI h v0 (Int32.toNatClampNeg (v3 + 3))) h).bind (fun r67 => if ax_in r67.2 v0 24 (v3 + 1) then if ax_in r67.2 v0 24 (v3 + 2) then if ax_in r67.2 v0 24 (v3 + 3) then if (gS r67.2 v2).1 = 11 then (M_off v2 (gI r67.2 v0 (Int32.toNatClampNeg (v3 + 1))) (gI r67.2 v0 (Int32.toNatClampNeg (v3 + 2))) (gI r67.2 v0 (Int32.toNatClampNeg (v3 + 3))) r67.2).bind (fun r68 => if decide ((lg_cmp r67.1 r68.1) = 0) then
        (Law_law_18 v0 v1 v2 (v3 + 7) r68.2 )
      else
        (some (0, r68.2) ) ) else none else none else none else none ) else none else none else none else none)
    else if ((gI h v0 (Int32.toNatClampNeg v3)) &&& 63) = 35 then
      (if ax_in h v0 24 (v3 + 1) then if ax_in h v0 24 (v3 + 2) then if ax_in h v0 24 (v3 + 3) then if (gS h v1).1 = 0 then (B_heat v1 (gI h v0 (Int32.toNatClampNeg (v3 + 1))) (gI h v0 (Int32.toNatClampNeg (v3 + 2))) (gI h v0 (Int32.toNatClampNeg (v3 + 3))) h).bind (fun r69 => if ax_in r69.2 v0 24 (v3 + 1) then if ax_in r69.2 v0 24 (v3 + 2) then if ax_in r69.2 v0 24 (v3 + 3) then if (gS r69.2 v2).1 = 11 then (M_heat v2 (gI r69.2 v0 (Int32.toNatClampNeg (v3 + 1))) (gI r69.2 v0 (Int32.toNatClampNeg (v3 + 2))) (gI r69.2 v0 (Int32.toNatClampNeg (v3 + 3))) r69.2).bind (fun r70 => if decide (r69.1 = r70.1) then
        (Law_law_18 v0 v1 v2 (v3 + 7) r70.2 )
      else
        (some (0, r70.2) ) ) else none else none else none else none ) else none else none else none else none)
    else if ((gI h v0 (Int32.toNatClampNeg v3)) &&& 63) = 36 then
      (if ax_in h v0 24 (v3 + 1) then if ax_in h v0 24 (v3 + 2) then if ax_in h v0 24 (v3 + 3) then if ax_in h v0 24 (v3 + 4) then if (gS h v1).1 = 0 then (B_again v1 (gI h v0 (Int32.toNatClampNeg (v3 + 1))) (gI h v0 (Int32.toNatClampNeg (v3 + 2))) (gI h v0 (Int32.toNatClampNeg (v3 + 3))) (gI h v0 (Int32.toNatClampNeg (v3 + 4))) h).bind (fun r71 => if ax_in r71.2 v0 24 (v3 + 1) then if ax_in r71.2 v0 24 (v3 + 2) then if ax_in r71.2 v0 24 (v3 + 3) then if ax_in r71.2 v0 24 (v3 + 4) then if (gS r71.2 v2).1 = 11 then (M_again v2 (gI r71.2 v0 (Int32.toNatClampNeg (v3 + 1))) (gI r71.2 v0 (Int32.toNatClampNeg (v3 + 2))) (gI r71.2 v0 (Int32.toNatClampNeg (v3 + 3))) (gI r71.2 v0 (Int32.toNatClampNeg (v3 + 4))) r71.2).bind (fun r72 => if decide (r71.1 = r72.1) then
        (Law_law_18 v0 v1 v2 (v3 + 7) r72.2 )
      else
        (some (0, r72.2) ) ) else none else none else none else none else none ) else none else none else none else none else none)
    else if ((gI h v0 (Int32.toNatClampNeg v3)) &&& 63) = 37 then
      (if ax_in h v0 24 (v3 + 1) then if (gS h v1).1 = 0 then (B_mark v1 (gI h v0 (Int32.toNatClampNeg (v3 + 1))) h).bind (fun r73 => if ax_in r73.2 v0 24 (v3 + 1) then if (gS r73.2 v2).1 = 11 then (M_mark v2 (gI r73.2 v0 (Int32.toNatClampNeg (v3 + 1))) r73.2).bind (fun r74 => if decide (r73.1 = r74.1) then
        (Law_law_18 v0 v1 v2 (v3 + 7) r74.2 )
      else
        (some (0, r74.2) ) ) else none else none ) else none else none)
    else if ((gI h v0 (Int32.toNatClampNeg v3)) &&& 63) = 38 then
      (if ax_in h v0 24 (v3 + 1) then if (gS h v1).1 = 0 then (B_back v1 (gI h v0 (Int32.toNatClampNeg (v3 + 1))) h).bind (fun r75 => if ax_in r75.2 v0 24 (v3 + 1) then if (gS r75.2 v2).1 = 11 then (M_back v2 (gI r75.2 v0 (Int32.toNatClampNeg (v3 + 1))) r75.2).bind (fun r76 => if decide (r75.1 = r76.1) then
        (Law_law_18 v0 v1 v2 (v3 + 7) r76.2 )
      else
        (some (0, r76.2) ) ) else none else none ) else none else none)
    else if ((gI h v0 (Int32.toNatClampNeg v3)) &&& 63) = 39 then
      (if ax_in h v0 24 (v3 + 1) then if (gS h v1).1 = 0 then (B_count v1 (gI h v0 (Int32.toNatClampNeg (v3 + 1))) h).bind (fun r77 => if ax_in r77.2 v0 24 (v3 + 1) then if (gS r77.2 v2).1 = 11 then (M_count v2 (gI r77.2 v0 (Int32.toNatClampNeg (v3 + 1))) r77.2).bind (fun r78 => if decide (r77.1 = r78.1) then
        (Law_law_18 v0 v1 v2 (v3 + 7) r78.2 )
      else
        (some (0, r78.2) ) ) else none else none ) else none else none)
    else 
      (Law_law_18 v0 v1 v2 (v3 + 7) h ) else none) else none) :=
  (ax_S_eq _ _ _ _).trans rfl
set_option maxRecDepth 100000 in
set_option maxHeartbeats 4000000 in
theorem Law_law_1363_eq (k0 : Int32) (k1 : Int32) (k2 : Int32) (k3 : Nat) (v0 : Nat) (v1 : Nat) (v2 : Nat) (v3 : Int32) (h : ax_H) : Law_law_1363 k0 k1 k2 k3 v0 v1 v2 v3 h =
  (if (gS h k3).1 = 0 then (B_could k3 k2 k1 k0 h).bind (fun r1 => if ax_in r1.2 v0 24 (v3 + 1) then if ax_in r1.2 v0 24 (v3 + 2) then if ax_in r1.2 v0 24 (v3 + 3) then if decide ((gI r1.2 v0 (Int32.toNatClampNeg (v3 + 3))) = 0) then
    (if (gS r1.2 v2).1 = 11 then (M_could v2 (gI r1.2 v0 (Int32.toNatClampNeg (v3 + 1))) (gI r1.2 v0 (Int32.toNatClampNeg (v3 + 2))) 0 r1.2).bind (fun r2 => if decide (r1.1 = r2.1) then
      (Law_law_18 v0 v1 v2 (v3 + 7) r2.2 )
    else
      (some (0, r2.2) ) ) else none)
  else
    (if (gS r1.2 v2).1 = 11 then (M_could v2 (gI r1.2 v0 (Int32.toNatClampNeg (v3 + 1))) (gI r1.2 v0 (Int32.toNatClampNeg (v3 + 2))) 1 r1.2).bind (fun r3 => if decide (r1.1 = r3.1) then
      (Law_law_18 v0 v1 v2 (v3 + 7) r3.2 )
    else
      (some (0, r3.2) ) ) else none) else none else none else none ) else none) :=
  (ax_S_eq _ _ _ _).trans rfl
