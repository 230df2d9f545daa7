/-! the law's turn (printed by wip/gen/law.py) -/
theorem lw_lt {i L : Nat} (hL : L ≤ 3584) (hi : i ≤ 4000) : (nI L - 7 < nI i) ↔ L < i + 7 := by
  rw [i32_lt, i32_sub (by rw [nJ_i (by omega)]; show -2147483648 ≤ (L : Int) - 7; omega) (by rw [nJ_i (by omega)]; show (L : Int) - 7 < 2147483648; omega), nJ_i (by omega), nJ_i (by omega)]
  show (L : Int) - 7 < (i : Int) ↔ _
  omega
set_option maxRecDepth 100000 in
set_option maxHeartbeats 4000000 in
theorem lw_turn {h : ax_H} {i L : Nat} (v : Inv h) (s40 : gS h 40 = (24, L)) (hi : i + 7 ≤ L) (hL : L ≤ 3584) : ∃ h2, nxt h h2 ∧ Law_law_18 40 64 159 (nI i) h = Law_law_18 40 64 159 (nI (i + 7)) h2 := by
  have s0 : (gS h 40).1 = 24 := by rw [s40]
  have n0 : ¬ decide ((nI (gS h 40).2) - 7 < nI i) = true := by rw [decide_eq_true_eq, s40]; exact fun z => by have := (lw_lt hL (by omega)).mp z; omega
  have i0 : ax_in h 40 24 (nI i) := by unfold ax_in; rw [s40, nJ_n (by omega)]; exact ⟨rfl, nJ_nn (by omega), by show i < L; omega⟩
  have ea : nI i + 7 = nI (i + 7) := by rw [show (7 : Int32) = nI 7 from rfl, nI_add]
  have e0 := (Law_law_18_eq 40 64 159 (nI i) h).trans ((if_pos s0).trans ((if_neg n0).trans (if_pos i0)))
  by_cases c0 : ((gI h 40 (Int32.toNatClampNeg (nI i))) &&& 63) = 0
  · obtain ⟨h2, n, q⟩ := cs_1i v s40 hi hL (B := B_clock 64) (M := M_clock 159) (cal_stl v (st_clock v.1 _))
    exact ⟨h2, n, (e0.trans (if_pos c0)).trans q⟩
  have e1 := e0.trans (if_neg c0)
  by_cases c1 : ((gI h 40 (Int32.toNatClampNeg (nI i))) &&& 63) = 1
  · obtain ⟨h2, n, q⟩ := cs_3i v s40 hi hL (B := B_star 64) (M := M_star 159) (cal_stl v (st_star v.1 _ _ _))
    exact ⟨h2, n, (e1.trans (if_pos c1)).trans q⟩
  have e2 := e1.trans (if_neg c1)
  by_cases c2 : ((gI h 40 (Int32.toNatClampNeg (nI i))) &&& 63) = 2
  · obtain ⟨h2, n, q⟩ := cs_2i v s40 hi hL (B := B_stars 64) (M := M_stars 159) (cal_ask v (as_stars v.1 _ _))
    exact ⟨h2, n, (e2.trans (if_pos c2)).trans q⟩
  have e3 := e2.trans (if_neg c2)
  by_cases c3 : ((gI h 40 (Int32.toNatClampNeg (nI i))) &&& 63) = 3
  · obtain ⟨h2, n, q⟩ := cs_3i v s40 hi hL (B := B_plate 64) (M := M_plate 159) (cal_stl v (st_plate v.1 _ _ _))
    exact ⟨h2, n, (e3.trans (if_pos c3)).trans q⟩
  have e4 := e3.trans (if_neg c3)
  by_cases c4 : ((gI h 40 (Int32.toNatClampNeg (nI i))) &&& 63) = 4
  · obtain ⟨h2, n, q⟩ := cs_5i v s40 hi hL (B := B_image 64) (M := M_image 159) (cal_stl v (st_image v.1 _ _ _ _ _))
    exact ⟨h2, n, (e4.trans (if_pos c4)).trans q⟩
  have e5 := e4.trans (if_neg c4)
  by_cases c5 : ((gI h 40 (Int32.toNatClampNeg (nI i))) &&& 63) = 5
  · obtain ⟨h2, n, q⟩ := cs_5i v s40 hi hL (B := B_images 64) (M := M_images 159) (cal_ask v (as_images v.1 _ _ _ _ _))
    exact ⟨h2, n, (e5.trans (if_pos c5)).trans q⟩
  have e6 := e5.trans (if_neg c5)
  by_cases c6 : ((gI h 40 (Int32.toNatClampNeg (nI i))) &&& 63) = 6
  · obtain ⟨h2, n, q⟩ := cs_3i v s40 hi hL (B := B_gives 64) (M := M_gives 159) (cal_ask v (as_gives v.1 _ _ _))
    exact ⟨h2, n, (e6.trans (if_pos c6)).trans q⟩
  have e7 := e6.trans (if_neg c6)
  by_cases c7 : ((gI h 40 (Int32.toNatClampNeg (nI i))) &&& 63) = 7
  · obtain ⟨h2, n, q⟩ := cs_5i v s40 hi hL (B := B_feed 64) (M := M_feed 159) (cal_stt v (st_feed v.1.1 v.2.1 _ _ _ _ _))
    exact ⟨h2, n, (e7.trans (if_pos c7)).trans q⟩
  have e8 := e7.trans (if_neg c7)
  by_cases c8 : ((gI h 40 (Int32.toNatClampNeg (nI i))) &&& 63) = 8
  · obtain ⟨h2, n, q⟩ := cs_1i v s40 hi hL (B := B_end 64) (M := M_end 159) (cal_stt v (st_end v.1.1 v.2.1 _))
    exact ⟨h2, n, (e8.trans (if_pos c8)).trans q⟩
  have e9 := e8.trans (if_neg c8)
  by_cases c9 : ((gI h 40 (Int32.toNatClampNeg (nI i))) &&& 63) = 9
  · obtain ⟨h2, n, q⟩ := cs_0i v s40 hi hL (B := B_way 64) (M := M_way 159) (cal_nx (st_way v))
    exact ⟨h2, n, (e9.trans (if_pos c9)).trans q⟩
  have e10 := e9.trans (if_neg c9)
  by_cases c10 : ((gI h 40 (Int32.toNatClampNeg (nI i))) &&& 63) = 10
  · obtain ⟨h2, n, q⟩ := cs_2i v s40 hi hL (B := B_ways 64) (M := M_ways 159) (cal_ask v (as_ways v.1 (IM_IW v.2.2) _ _))
    exact ⟨h2, n, (e10.trans (if_pos c10)).trans q⟩
  have e11 := e10.trans (if_neg c10)
  by_cases c11 : ((gI h 40 (Int32.toNatClampNeg (nI i))) &&& 63) = 11
  · obtain ⟨h2, n, q⟩ := cs_3i v s40 hi hL (B := B_takes 64) (M := M_takes_X220 159) (cal_qry v (qy_takes v.1 (IM_IW v.2.2) _ _ _))
    exact ⟨h2, n, (e11.trans (if_pos c11)).trans q⟩
  have e12 := e11.trans (if_neg c11)
  by_cases c12 : ((gI h 40 (Int32.toNatClampNeg (nI i))) &&& 63) = 12
  · obtain ⟨h2, n, q⟩ := cs_3i v s40 hi hL (B := B_answer 64) (M := M_answer 159) (cal_qry v (qy_answer v.1 (IM_IW v.2.2) _ _ _))
    exact ⟨h2, n, (e12.trans (if_pos c12)).trans q⟩
  have e13 := e12.trans (if_neg c12)
  by_cases c13 : ((gI h 40 (Int32.toNatClampNeg (nI i))) &&& 63) = 13
  · obtain ⟨h2, n, q⟩ := cs_2l v s40 hi hL (B := B_miss 64) (M := M_miss 159) (cal_qry v (qy_miss v.1 (IM_IW v.2.2) _ _))
    exact ⟨h2, n, (e13.trans (if_pos c13)).trans q⟩
  have e14 := e13.trans (if_neg c13)
  by_cases c14 : ((gI h 40 (Int32.toNatClampNeg (nI i))) &&& 63) = 14
  · obtain ⟨h2, n, q⟩ := cs_4i v s40 hi hL (B := B_each 64) (M := M_each 159) (cal_qry v (qy_each v.1 (IM_IW v.2.2) _ _ _ _))
    exact ⟨h2, n, (e14.trans (if_pos c14)).trans q⟩
  have e15 := e14.trans (if_neg c14)
  by_cases c15 : ((gI h 40 (Int32.toNatClampNeg (nI i))) &&& 63) = 15
  · obtain ⟨h2, n, q⟩ := cs_5i v s40 hi hL (B := B_ruled 64) (M := M_ruled 159) (cal_qry v (qy_ruled v.1 (IM_IW v.2.2) _ _ _ _ _))
    exact ⟨h2, n, (e15.trans (if_pos c15)).trans q⟩
  have e16 := e15.trans (if_neg c15)
  by_cases c16 : ((gI h 40 (Int32.toNatClampNeg (nI i))) &&& 63) = 16
  · obtain ⟨h2, n, q⟩ := cs_5i v s40 hi hL (B := B_three 64) (M := M_three 159) (cal_qry v (qy_three v.1 (IM_IW v.2.2) _ _ _ _ _))
    exact ⟨h2, n, (e16.trans (if_pos c16)).trans q⟩
  have e17 := e16.trans (if_neg c16)
  by_cases c17 : ((gI h 40 (Int32.toNatClampNeg (nI i))) &&& 63) = 17
  · obtain ⟨h2, n, q⟩ := cs_3l v s40 hi hL (B := B_mixed 64) (M := M_mixed 159) (cal_qry v (qy_mixed v.1 _ _ _))
    exact ⟨h2, n, (e17.trans (if_pos c17)).trans q⟩
  have e18 := e17.trans (if_neg c17)
  by_cases c18 : ((gI h 40 (Int32.toNatClampNeg (nI i))) &&& 63) = 18
  · obtain ⟨h2, n, q⟩ := cs_2i v s40 hi hL (B := B_parter 64) (M := M_parter 159) (cal_qry v (qy_parter v.1 _ _))
    exact ⟨h2, n, (e18.trans (if_pos c18)).trans q⟩
  have e19 := e18.trans (if_neg c18)
  by_cases c19 : ((gI h 40 (Int32.toNatClampNeg (nI i))) &&& 63) = 19
  · obtain ⟨h2, n, q⟩ := cs_3i v s40 hi hL (B := B_usable 64) (M := M_usable 159) (cal_ask v (as_usable v.1 _ _ _))
    exact ⟨h2, n, (e19.trans (if_pos c19)).trans q⟩
  have e20 := e19.trans (if_neg c19)
  by_cases c20 : ((gI h 40 (Int32.toNatClampNeg (nI i))) &&& 63) = 20
  · obtain ⟨h2, n, q⟩ := cs_2i v s40 hi hL (B := B_tell 64) (M := M_tell 159) (cal_stl v (st_tell v.1 _ _))
    exact ⟨h2, n, (e20.trans (if_pos c20)).trans q⟩
  have e21 := e20.trans (if_neg c20)
  by_cases c21 : ((gI h 40 (Int32.toNatClampNeg (nI i))) &&& 63) = 21
  · obtain ⟨h2, n, q⟩ := cs_2i v s40 hi hL (B := B_knows 64) (M := M_knows 159) (cal_ask v (as_knows v.1 _ _))
    exact ⟨h2, n, (e21.trans (if_pos c21)).trans q⟩
  have e22 := e21.trans (if_neg c21)
  by_cases c22 : ((gI h 40 (Int32.toNatClampNeg (nI i))) &&& 63) = 22
  · obtain ⟨h2, n, q⟩ := cs_4l v s40 hi hL (B := B_leans 64) (M := M_leans 159) (cal_mkq v (mk_leans v.1 _ _ _ _))
    exact ⟨h2, n, (e22.trans (if_pos c22)).trans q⟩
  have e23 := e22.trans (if_neg c22)
  by_cases c23 : ((gI h 40 (Int32.toNatClampNeg (nI i))) &&& 63) = 23
  · obtain ⟨h2, n, q⟩ := cs_4i v s40 hi hL (B := B_joined 64) (M := M_joined 159) (cal_qry v (qy_joined v.1 (IM_IW v.2.2) _ _ _ _))
    exact ⟨h2, n, (e23.trans (if_pos c23)).trans q⟩
  have e24 := e23.trans (if_neg c23)
  by_cases c24 : ((gI h 40 (Int32.toNatClampNeg (nI i))) &&& 63) = 24
  · obtain ⟨h2, n, q⟩ := cs_5i v s40 hi hL (B := B_quarrel 64) (M := M_quarrel 159) (cal_qry v (qy_quarrel v.1 (IM_IW v.2.2) _ _ _ _ _))
    exact ⟨h2, n, (e24.trans (if_pos c24)).trans q⟩
  have e25 := e24.trans (if_neg c24)
  by_cases c25 : ((gI h 40 (Int32.toNatClampNeg (nI i))) &&& 63) = 25
  · obtain ⟨h2, n, q⟩ := cs_2i v s40 hi hL (B := B_say 64) (M := M_say 159) (cal_stl v (st_say v.1 (Inv_say v) _ _))
    exact ⟨h2, n, (e25.trans (if_pos c25)).trans q⟩
  have e26 := e25.trans (if_neg c25)
  by_cases c26 : ((gI h 40 (Int32.toNatClampNeg (nI i))) &&& 63) = 26
  · have a1 : ax_in h 40 24 (nI i + 1) := in_sc s40 hi hL (j := 1) (by omega) rfl
    have a2 : ax_in h 40 24 (nI i + 2) := in_sc s40 hi hL (j := 2) (by omega) rfl
    have a3 : ax_in h 40 24 (nI i + 3) := in_sc s40 hi hL (j := 3) (by omega) rfl
    by_cases z : gI h 40 (Int32.toNatClampNeg (nI i + 3)) = 0
    · obtain ⟨h2, n, q⟩ := cs_could v s40 hi hL (fun b => cal_qry v (qy_could v.1 (IM_IW v.2.2) _ _ b)) (b := 0) (if_pos z).symm
      exact ⟨h2, n, ((e26.trans (if_pos c26)).trans ((if_pos a1).trans ((if_pos a2).trans ((if_pos a3).trans (if_pos (decide_eq_true z)))))).trans q⟩
    · obtain ⟨h2, n, q⟩ := cs_could v s40 hi hL (fun b => cal_qry v (qy_could v.1 (IM_IW v.2.2) _ _ b)) (b := 1) (if_neg z).symm
      exact ⟨h2, n, ((e26.trans (if_pos c26)).trans ((if_pos a1).trans ((if_pos a2).trans ((if_pos a3).trans (if_neg (show ¬ decide (gI h 40 (Int32.toNatClampNeg (nI i + 3)) = 0) = true by rw [decide_eq_true_eq]; exact z)))))).trans q⟩
  have e27 := e26.trans (if_neg c26)
  by_cases c27 : ((gI h 40 (Int32.toNatClampNeg (nI i))) &&& 63) = 27
  · obtain ⟨h2, n, q⟩ := cs_2i v s40 hi hL (B := B_field 64) (M := M_field 159) (cal_stl v (st_field v.1 _ _))
    exact ⟨h2, n, (e27.trans (if_pos c27)).trans q⟩
  have e28 := e27.trans (if_neg c27)
  by_cases c28 : ((gI h 40 (Int32.toNatClampNeg (nI i))) &&& 63) = 28
  · obtain ⟨h2, n, q⟩ := cs_2i v s40 hi hL (B := B_planned 64) (M := M_planned 159) (cal_ask v (as_planned v.1 _ _))
    exact ⟨h2, n, (e28.trans (if_pos c28)).trans q⟩
  have e29 := e28.trans (if_neg c28)
  by_cases c29 : ((gI h 40 (Int32.toNatClampNeg (nI i))) &&& 63) = 29
  · obtain ⟨h2, n, q⟩ := cs_6i v s40 hi hL (B := B_right 64) (M := M_right 159) (cal_qry v (qy_right v.1 (IM_IW v.2.2) _ _ _ _ _ _))
    exact ⟨h2, n, (e29.trans (if_pos c29)).trans q⟩
  have e30 := e29.trans (if_neg c29)
  by_cases c30 : ((gI h 40 (Int32.toNatClampNeg (nI i))) &&& 63) = 30
  · obtain ⟨h2, n, q⟩ := cs_3i v s40 hi hL (B := B_span 64) (M := M_span 159) (cal_qry v (qy_span v.1 (IM_IW v.2.2) _ _ _))
    exact ⟨h2, n, (e30.trans (if_pos c30)).trans q⟩
  have e31 := e30.trans (if_neg c30)
  by_cases c31 : ((gI h 40 (Int32.toNatClampNeg (nI i))) &&& 63) = 31
  · obtain ⟨h2, n, q⟩ := cs_5i v s40 hi hL (B := B_named 64) (M := M_named 159) (cal_qry v (qy_named v.1 (IM_IW v.2.2) _ _ _ _ _))
    exact ⟨h2, n, (e31.trans (if_pos c31)).trans q⟩
  have e32 := e31.trans (if_neg c31)
  by_cases c32 : ((gI h 40 (Int32.toNatClampNeg (nI i))) &&& 63) = 32
  · obtain ⟨h2, n, q⟩ := cs_4i v s40 hi hL (B := B_glass 64) (M := M_glass 159) (cal_stl v (st_glass v.1 _ _ _ _))
    exact ⟨h2, n, (e32.trans (if_pos c32)).trans q⟩
  have e33 := e32.trans (if_neg c32)
  by_cases c33 : ((gI h 40 (Int32.toNatClampNeg (nI i))) &&& 63) = 33
  · obtain ⟨h2, n, q⟩ := cs_4i v s40 hi hL (B := B_stands 64) (M := M_stands_X268 159) (cal_qry v (qy_stands v.1 _ _ _ _))
    exact ⟨h2, n, (e33.trans (if_pos c33)).trans q⟩
  have e34 := e33.trans (if_neg c33)
  by_cases c34 : ((gI h 40 (Int32.toNatClampNeg (nI i))) &&& 63) = 34
  · obtain ⟨h2, n, q⟩ := cs_3l v s40 hi hL (B := B_off 64) (M := M_off 159) (cal_qry v (qy_off v.1 _ _ _))
    exact ⟨h2, n, (e34.trans (if_pos c34)).trans q⟩
  have e35 := e34.trans (if_neg c34)
  by_cases c35 : ((gI h 40 (Int32.toNatClampNeg (nI i))) &&& 63) = 35
  · obtain ⟨h2, n, q⟩ := cs_3i v s40 hi hL (B := B_heat 64) (M := M_heat 159) (cal_qry v (qy_heat v.1 _ _ _))
    exact ⟨h2, n, (e35.trans (if_pos c35)).trans q⟩
  have e36 := e35.trans (if_neg c35)
  by_cases c36 : ((gI h 40 (Int32.toNatClampNeg (nI i))) &&& 63) = 36
  · obtain ⟨h2, n, q⟩ := cs_4i v s40 hi hL (B := B_again 64) (M := M_again 159) (cal_mkq v (mk_again v.1 _ _ _ _))
    exact ⟨h2, n, (e36.trans (if_pos c36)).trans q⟩
  have e37 := e36.trans (if_neg c36)
  by_cases c37 : ((gI h 40 (Int32.toNatClampNeg (nI i))) &&& 63) = 37
  · obtain ⟨h2, n, q⟩ := cs_1i v s40 hi hL (B := B_mark 64) (M := M_mark 159) (cal_nx (st_mark v _))
    exact ⟨h2, n, (e37.trans (if_pos c37)).trans q⟩
  have e38 := e37.trans (if_neg c37)
  by_cases c38 : ((gI h 40 (Int32.toNatClampNeg (nI i))) &&& 63) = 38
  · obtain ⟨h2, n, q⟩ := cs_1i v s40 hi hL (B := B_back 64) (M := M_back 159) (cal_nx (st_back v _))
    exact ⟨h2, n, (e38.trans (if_pos c38)).trans q⟩
  have e39 := e38.trans (if_neg c38)
  by_cases c39 : ((gI h 40 (Int32.toNatClampNeg (nI i))) &&& 63) = 39
  · obtain ⟨h2, n, q⟩ := cs_1i v s40 hi hL (B := B_count 64) (M := M_count 159) (cal_ask v (as_count v.1 v.2.1 _))
    exact ⟨h2, n, (e39.trans (if_pos c39)).trans q⟩
  have e40 := e39.trans (if_neg c39)
  exact ⟨h, nxt_rf v, e40.trans (by rw [ea])⟩
theorem lw_run {L : Nat} (hL : L ≤ 3584) : ∀ (m i : Nat) (h : ax_H), Inv h → gS h 40 = (24, L) → L < i + 7 * m + 7 → i ≤ 4000 → ∃ hf, Law_law_18 40 64 159 (nI i) h = some (1, hf) ∧ gN hf ≤ gN h + 30 * m ∧ gZ hf ≤ gZ h + 6000 * m := by
  intro m
  induction m with
  | zero =>
    intro i h v s40 hi h4
    refine ⟨h, ?_, by omega, by omega⟩
    have s0 : (gS h 40).1 = 24 := by rw [s40]
    have n0 : decide ((nI (gS h 40).2) - 7 < nI i) = true := by rw [decide_eq_true_eq, s40]; exact (lw_lt hL h4).mpr (by omega)
    exact (Law_law_18_eq 40 64 159 (nI i) h).trans ((if_pos s0).trans (if_pos n0))
  | succ m ih =>
    intro i h v s40 hi h4
    by_cases q : i + 7 ≤ L
    · obtain ⟨h2, nx, e⟩ := lw_turn v s40 q hL
      obtain ⟨n1, n2, n3, n4, n5⟩ := nx
      obtain ⟨hf, a, b, c⟩ := ih (i + 7) h2 n1 (n4.trans s40) (by omega) (by omega)
      exact ⟨hf, e.trans a, by omega, by omega⟩
    · refine ⟨h, ?_, by omega, by omega⟩
      have s0 : (gS h 40).1 = 24 := by rw [s40]
      have n0 : decide ((nI (gS h 40).2) - 7 < nI i) = true := by rw [decide_eq_true_eq, s40]; exact (lw_lt hL h4).mpr (by omega)
      exact (Law_law_18_eq 40 64 159 (nI i) h).trans ((if_pos s0).trans (if_pos n0))
theorem law_ok : ax_LawOk := by
  intro L xs hL
  obtain ⟨h2, h4, y1, n2, y2, iv, n4, z4, s4, g4⟩ := ax_made (L := L) (xs := xs)
  obtain ⟨hf, a, b, c⟩ := lw_run hL 512 0 h4 iv s4 (by omega) (by omega)
  refine ⟨hf, ?_, by omega, by omega⟩
  have e1 : (gS (nW (ax_h0 L xs) 0 0 5) 64).1 = 0 := rfl
  have e2 : (gS (nW h2 11 0 75) 159).1 = 11 := by rw [gS_nW, if_pos n2.symm]
  refine (Law_law_eq 40 (ax_h0 L xs)).trans ?_
  show (if (gS (nW (ax_h0 L xs) 0 0 5) 64).1 = 0 then (B_init 64 (nW (ax_h0 L xs) 0 0 5)).bind (fun h2 => if (gS (nW h2 11 0 75) (gN h2)).1 = 11 then (M_init (gN h2) (nW h2 11 0 75)).bind (fun h4 => Law_law_18 40 64 (gN h2) 0 h4) else none) else none) = _
  rw [if_pos e1, bnd y1, n2, if_pos e2, bnd y2]
  exact a
