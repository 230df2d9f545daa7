/-! the law's rows pass the check, in pieces (printed by program) -/
theorem ax_all_split {P : ax_E → Bool} (n : Nat) {L L' : List ax_E} (h1 : (L.take n).all P = true) (h2 : L.drop n = L') (h3 : L'.all P = true) : L.all P = true := by
  rw [← List.take_append_drop n L, List.all_append, h1, h2, h3]; rfl
theorem ax_all_last {P : ax_E → Bool} (n : Nat) {L : List ax_E} (h1 : (L.take n).all P = true) (h2 : L.drop n = []) : L.all P = true := ax_all_split n h1 h2 rfl
theorem lc_0_0 : ((r_278.drop 0).take 11).all (ax_okB 278 12 false) = true := by decide +kernel
theorem lc_1_0 : ((r_278_18.drop 0).take 48).all (ax_okB 278 12 false) = true := by decide +kernel
theorem lc_2_0 : ((r_278_x252.drop 0).take 60).all (ax_okB 278 12 false) = true := by decide +kernel
theorem lc_2_60 : ((r_278_x252.drop 60).take 60).all (ax_okB 278 12 false) = true := by decide +kernel
theorem lc_2_120 : ((r_278_x252.drop 120).take 40).all (ax_okB 278 12 false) = true := by decide +kernel
theorem lc_3_0 : ((r_278_x434.drop 0).take 60).all (ax_okB 278 12 false) = true := by decide +kernel
theorem lc_3_60 : ((r_278_x434.drop 60).take 60).all (ax_okB 278 12 false) = true := by decide +kernel
theorem lc_3_120 : ((r_278_x434.drop 120).take 40).all (ax_okB 278 12 false) = true := by decide +kernel
theorem lc_4_0 : ((r_278_x624.drop 0).take 60).all (ax_okB 278 12 false) = true := by decide +kernel
theorem lc_4_60 : ((r_278_x624.drop 60).take 60).all (ax_okB 278 12 false) = true := by decide +kernel
theorem lc_4_120 : ((r_278_x624.drop 120).take 40).all (ax_okB 278 12 false) = true := by decide +kernel
theorem lc_5_0 : ((r_278_x810.drop 0).take 60).all (ax_okB 278 12 false) = true := by decide +kernel
theorem lc_5_60 : ((r_278_x810.drop 60).take 60).all (ax_okB 278 12 false) = true := by decide +kernel
theorem lc_5_120 : ((r_278_x810.drop 120).take 40).all (ax_okB 278 12 false) = true := by decide +kernel
theorem lc_6_0 : ((r_278_x992.drop 0).take 60).all (ax_okB 278 12 false) = true := by decide +kernel
theorem lc_6_60 : ((r_278_x992.drop 60).take 60).all (ax_okB 278 12 false) = true := by decide +kernel
theorem lc_6_120 : ((r_278_x992.drop 120).take 40).all (ax_okB 278 12 false) = true := by decide +kernel
theorem lc_7_0 : ((r_278_x1178.drop 0).take 60).all (ax_okB 278 12 false) = true := by decide +kernel
theorem lc_7_60 : ((r_278_x1178.drop 60).take 60).all (ax_okB 278 12 false) = true := by decide +kernel
theorem lc_7_120 : ((r_278_x1178.drop 120).take 40).all (ax_okB 278 12 false) = true := by decide +kernel
theorem lc_8_0 : ((r_278_1363.drop 0).take 31).all (ax_okB 278 12 false) = true := by decide +kernel
theorem lc_9_0 : ((r_278_x1404.drop 0).take 60).all (ax_okB 278 12 false) = true := by decide +kernel
theorem lc_9_60 : ((r_278_x1404.drop 60).take 60).all (ax_okB 278 12 false) = true := by decide +kernel
theorem lc_9_120 : ((r_278_x1404.drop 120).take 40).all (ax_okB 278 12 false) = true := by decide +kernel
theorem lc_10_0 : ((r_278_x1590.drop 0).take 60).all (ax_okB 278 12 false) = true := by decide +kernel
theorem lc_10_60 : ((r_278_x1590.drop 60).take 60).all (ax_okB 278 12 false) = true := by decide +kernel
theorem lc_10_120 : ((r_278_x1590.drop 120).take 40).all (ax_okB 278 12 false) = true := by decide +kernel
theorem lc_11_0 : ((r_278_x1770.drop 0).take 60).all (ax_okB 278 12 false) = true := by decide +kernel
theorem lc_11_60 : ((r_278_x1770.drop 60).take 60).all (ax_okB 278 12 false) = true := by decide +kernel
theorem lc_11_120 : ((r_278_x1770.drop 120).take 40).all (ax_okB 278 12 false) = true := by decide +kernel
theorem ld_11_120 : (r_278_x1770.drop 120).all (ax_okB 278 12 false) = true := ax_all_last 40 lc_11_120 rfl
theorem ld_11_60 : (r_278_x1770.drop 60).all (ax_okB 278 12 false) = true := ax_all_split 60 lc_11_60 (L' := r_278_x1770.drop 120) rfl ld_11_120
theorem ld_11_0 : (r_278_x1770.drop 0).all (ax_okB 278 12 false) = true := ax_all_split 60 lc_11_0 (L' := r_278_x1770.drop 60) rfl ld_11_60
theorem ld_10_120 : (r_278_x1590.drop 120).all (ax_okB 278 12 false) = true := ax_all_split 40 lc_10_120 (L' := r_278_x1770) rfl ld_11_0
theorem ld_10_60 : (r_278_x1590.drop 60).all (ax_okB 278 12 false) = true := ax_all_split 60 lc_10_60 (L' := r_278_x1590.drop 120) rfl ld_10_120
theorem ld_10_0 : (r_278_x1590.drop 0).all (ax_okB 278 12 false) = true := ax_all_split 60 lc_10_0 (L' := r_278_x1590.drop 60) rfl ld_10_60
theorem ld_9_120 : (r_278_x1404.drop 120).all (ax_okB 278 12 false) = true := ax_all_split 40 lc_9_120 (L' := r_278_x1590) rfl ld_10_0
theorem ld_9_60 : (r_278_x1404.drop 60).all (ax_okB 278 12 false) = true := ax_all_split 60 lc_9_60 (L' := r_278_x1404.drop 120) rfl ld_9_120
theorem ld_9_0 : (r_278_x1404.drop 0).all (ax_okB 278 12 false) = true := ax_all_split 60 lc_9_0 (L' := r_278_x1404.drop 60) rfl ld_9_60
theorem ld_8_0 : (r_278_1363.drop 0).all (ax_okB 278 12 false) = true := ax_all_split 31 lc_8_0 (L' := r_278_x1404) rfl ld_9_0
theorem ld_7_120 : (r_278_x1178.drop 120).all (ax_okB 278 12 false) = true := ax_all_split 40 lc_7_120 (L' := r_278_1363) rfl ld_8_0
theorem ld_7_60 : (r_278_x1178.drop 60).all (ax_okB 278 12 false) = true := ax_all_split 60 lc_7_60 (L' := r_278_x1178.drop 120) rfl ld_7_120
theorem ld_7_0 : (r_278_x1178.drop 0).all (ax_okB 278 12 false) = true := ax_all_split 60 lc_7_0 (L' := r_278_x1178.drop 60) rfl ld_7_60
theorem ld_6_120 : (r_278_x992.drop 120).all (ax_okB 278 12 false) = true := ax_all_split 40 lc_6_120 (L' := r_278_x1178) rfl ld_7_0
theorem ld_6_60 : (r_278_x992.drop 60).all (ax_okB 278 12 false) = true := ax_all_split 60 lc_6_60 (L' := r_278_x992.drop 120) rfl ld_6_120
theorem ld_6_0 : (r_278_x992.drop 0).all (ax_okB 278 12 false) = true := ax_all_split 60 lc_6_0 (L' := r_278_x992.drop 60) rfl ld_6_60
theorem ld_5_120 : (r_278_x810.drop 120).all (ax_okB 278 12 false) = true := ax_all_split 40 lc_5_120 (L' := r_278_x992) rfl ld_6_0
theorem ld_5_60 : (r_278_x810.drop 60).all (ax_okB 278 12 false) = true := ax_all_split 60 lc_5_60 (L' := r_278_x810.drop 120) rfl ld_5_120
theorem ld_5_0 : (r_278_x810.drop 0).all (ax_okB 278 12 false) = true := ax_all_split 60 lc_5_0 (L' := r_278_x810.drop 60) rfl ld_5_60
theorem ld_4_120 : (r_278_x624.drop 120).all (ax_okB 278 12 false) = true := ax_all_split 40 lc_4_120 (L' := r_278_x810) rfl ld_5_0
theorem ld_4_60 : (r_278_x624.drop 60).all (ax_okB 278 12 false) = true := ax_all_split 60 lc_4_60 (L' := r_278_x624.drop 120) rfl ld_4_120
theorem ld_4_0 : (r_278_x624.drop 0).all (ax_okB 278 12 false) = true := ax_all_split 60 lc_4_0 (L' := r_278_x624.drop 60) rfl ld_4_60
theorem ld_3_120 : (r_278_x434.drop 120).all (ax_okB 278 12 false) = true := ax_all_split 40 lc_3_120 (L' := r_278_x624) rfl ld_4_0
theorem ld_3_60 : (r_278_x434.drop 60).all (ax_okB 278 12 false) = true := ax_all_split 60 lc_3_60 (L' := r_278_x434.drop 120) rfl ld_3_120
theorem ld_3_0 : (r_278_x434.drop 0).all (ax_okB 278 12 false) = true := ax_all_split 60 lc_3_0 (L' := r_278_x434.drop 60) rfl ld_3_60
theorem ld_2_120 : (r_278_x252.drop 120).all (ax_okB 278 12 false) = true := ax_all_split 40 lc_2_120 (L' := r_278_x434) rfl ld_3_0
theorem ld_2_60 : (r_278_x252.drop 60).all (ax_okB 278 12 false) = true := ax_all_split 60 lc_2_60 (L' := r_278_x252.drop 120) rfl ld_2_120
theorem ld_2_0 : (r_278_x252.drop 0).all (ax_okB 278 12 false) = true := ax_all_split 60 lc_2_0 (L' := r_278_x252.drop 60) rfl ld_2_60
theorem ld_1_0 : (r_278_18.drop 0).all (ax_okB 278 12 false) = true := ax_all_split 48 lc_1_0 (L' := r_278_x252) rfl ld_2_0
theorem ld_0_0 : (r_278.drop 0).all (ax_okB 278 12 false) = true := ax_all_split 11 lc_0_0 (L' := r_278_18) rfl ld_1_0
theorem lc_a : (decide ((ax_M 278).1.cls = ax_on 12) && plainFor (ax_M 278).1 && (!false || decide ((ax_M 278).1.name = "<init>"))) = true := by decide +kernel
theorem lc_b : ax_seqB r_278 = true := by decide +kernel
theorem lc_c : (match r_278 with | r :: _ => r.1 == 0 | [] => false) = true := by decide +kernel
theorem lc_d : r_278.all (fun r => !(ax_kind r == 8) || decide (0 < ax_nn r.2.2.2.1) || (match r.2.1 with | .invokestatic _ => true | _ => false)) = true := by decide +kernel
theorem ck_278 : ax_chk 278 12 false = true := by
  have hr : ax_rows 278 = r_278 := rfl
  have h0 : r_278.all (ax_okB 278 12 false) = true := ld_0_0
  unfold ax_chk
  rw [hr, lc_a, h0, lc_b]
  simp only [Bool.true_and]
  rw [Bool.and_eq_true]
  exact ⟨lc_c, lc_d⟩
