/-! joined, quarrel: both -/
theorem zm_areIslands {h : ax_H} (i0 : I0 h) (a kn x y : Int32) : M_areIslands 159 a kn x y h = some (bI ((0 ≤ a.toInt ∧ a.toInt ≤ (V h 65 4).toInt - 1) ∧ (0 ≤ kn.toInt ∧ kn.toInt ≤ 9999) ∧ (inI x 0 3 ∧ inI y 0 3 ∧ x ≠ y)), h) := by
  obtain ⟨w0, e, g⟩ := i0
  have w00 := w0
  obtain ⟨wS, wR, wG, wN⟩ := w0
  rw [M_areIslands_eq]
  simp only [gI_pI, gI_pL, gI_pR, gL_pI, gL_pL, gL_pR, gR_pI, gR_pL, gR_pR, gS_pI, gS_pL, gS_pR, ↓reduceIte, Nat.reduceEqDiff, decide_eq_true_eq, Option.bind_some, false_and, and_false, true_and, and_true, and_self, Nat.reduceAdd, not_false_eq_true, not_true_eq_false, wS, wR, inI, ite_self, Classical.not_not, ↓bnd (zm_isWay w00 g.1 e _), bI_0, ↓bnd (zm_isWeek _ _), ↓bnd (zm_in _ _ _ _), Int32.toInt_toInt64, Int32.reduceToInt, Int64.reduceToInt, tN9, tN299, tN99999, tN9999, tN99, tL9, tL299, tL99999, tL9999, tL99, i1_0, i0_1]
  unfold bI
  by_cases h1 : 0 ≤ a.toInt ∧ a.toInt ≤ (V h 65 4).toInt - 1
  · by_cases h2 : 0 ≤ kn.toInt ∧ kn.toInt ≤ 9999
    · by_cases h3 : 0 ≤ x.toInt ∧ x.toInt ≤ 3
      · by_cases h4 : 0 ≤ y.toInt ∧ y.toInt ≤ 3
        · by_cases h5 : x = y
          · rw [if_neg (not_not_intro h1), if_neg (not_not_intro h2), if_neg (not_not_intro h3), if_neg (not_not_intro h4), if_pos h5, if_neg (fun q => q.2.2.2.2 h5)]
          · rw [if_neg (not_not_intro h1), if_neg (not_not_intro h2), if_neg (not_not_intro h3), if_neg (not_not_intro h4), if_neg h5, if_pos ⟨h1, h2, h3, h4, h5⟩]
        · rw [if_neg (not_not_intro h1), if_neg (not_not_intro h2), if_neg (not_not_intro h3), if_pos h4, if_neg (fun q => h4 q.2.2.2.1)]
      · rw [if_neg (not_not_intro h1), if_neg (not_not_intro h2), if_pos h3, if_neg (fun q => h3 q.2.2.1)]
    · rw [if_neg (not_not_intro h1), if_pos h2, if_neg (fun q => h2 q.2.1)]
  · rw [if_pos h1, if_neg (fun q => h1 q.1)]
def cnZ (V : BV) (D : WD) (kn : Int32) (P : Nat → Bool) : Nat := ((tkL V D kn).filter P).length
theorem cnZ_bd {V : BV} (g : GV V) (D : WD) (kn : Int32) (P : Nat → Bool) : cnZ V D kn P ≤ 100 := by
  have hcn := cnts g.1
  have hl := flF_len (P := tkB V D kn) (nM V) 0
  have hl2 := List.length_filter_le P (tkL V D kn)
  unfold cnZ
  unfold tkL at hl2 ⊢
  omega
theorem slB_cn {V : BV} {D : WD} {kn : Int32} {P : Nat → Bool} {n : Nat} (h : slB (SP V D kn P) n = true) : 0 < cnZ V D kn P := by
  unfold slB at h
  rw [Bool.and_eq_true] at h
  have := of_decide_eq_true h.1
  rw [SP_12] at this
  unfold cnZ
  omega
theorem z_solvedImages {h : ax_H} (w : ok h) {v : Int64} (hv : gL h 155 12 = v) : Ft_solvedImages 99 h = some (v, h) := by
  obtain ⟨wS, wR, wG, wN⟩ := w
  rw [Ft_solvedImages_eq]
  simp only [gI_pI, gI_pL, gI_pR, gL_pI, gL_pL, gL_pR, gR_pI, gR_pL, gR_pR, gS_pI, gS_pL, gS_pR, ↓reduceIte, Nat.reduceEqDiff, decide_eq_true_eq, Option.bind_some, false_and, and_false, true_and, and_true, and_self, Nat.reduceAdd, not_false_eq_true, not_true_eq_false, wS, wR, inI, ite_self, Classical.not_not, ax_in, show Int32.toNatClampNeg 12 = 12 from rfl, show ¬ (12 : Int32) < 0 by decide, show (12 : Nat) < 13 by decide, hv]
theorem qy_joined {h : ax_H} (i : I0 h) (iw : IW h) (a kn x y : Int32) : qry (B_joined 64 a kn x y h) (M_joined 159 a kn x y) h := by
  have i0 := i
  obtain ⟨w, e, g⟩ := i
  have hcn := cnts g.1
  have w0 := w
  obtain ⟨wS, wR, wG, wN⟩ := w
  have hAI := fun h (i : I0 h) => zm_areIslands i a kn x y
  by_cases h1 : 0 ≤ a.toInt ∧ a.toInt ≤ (V h 65 4).toInt - 1
  case neg =>
    refine qry_no (v := -2000000000) ?_ ?_
    · rw [B_joined_eq]
      try simp only [wS, wR, ↓reduceIte]
      simp only [gI_pI, gI_pL, gI_pR, gL_pI, gL_pL, gL_pR, gR_pI, gR_pL, gR_pR, gS_pI, gS_pL, gS_pR, ↓reduceIte, Nat.reduceEqDiff, decide_eq_true_eq, Option.bind_some, false_and, and_false, true_and, and_true, and_self, Nat.reduceAdd, not_false_eq_true, not_true_eq_false, wS, wR, inI, ite_self, Classical.not_not, ↓bnd (z_wayNo w0 g.1 h1)]
    · rw [M_joined_eq]
      simp only [gI_pI, gI_pL, gI_pR, gL_pI, gL_pL, gL_pR, gR_pI, gR_pL, gR_pR, gS_pI, gS_pL, gS_pR, ↓reduceIte, Nat.reduceEqDiff, decide_eq_true_eq, Option.bind_some, false_and, and_false, true_and, and_true, and_self, Nat.reduceAdd, not_false_eq_true, not_true_eq_false, wS, wR, inI, ite_self, Classical.not_not, ↓bnd (hAI h i0), bI_0, h1]
  obtain ⟨j, rfl, hj, hj2, hj3⟩ := nI_ex h1
  obtain ⟨D, c, m, f⟩ := iw j (by omega)
  have hnz : ¬ gR h 82 j = 0 := by have := c.1; omega
  have hWA := z_wayAt w0 g.1 (j := j) (by omega)
  by_cases h2 : 0 ≤ kn.toInt ∧ kn.toInt ≤ 9999
  case neg =>
    refine qry_no (v := -2000000000) ?_ ?_
    · rw [B_joined_eq]
      try simp only [wS, wR, ↓reduceIte]
      simp only [gI_pI, gI_pL, gI_pR, gL_pI, gL_pL, gL_pR, gR_pI, gR_pL, gR_pR, gS_pI, gS_pL, gS_pR, ↓reduceIte, Nat.reduceEqDiff, decide_eq_true_eq, Option.bind_some, false_and, and_false, true_and, and_true, and_self, Nat.reduceAdd, not_false_eq_true, not_true_eq_false, wS, wR, inI, ite_self, Classical.not_not, ↓bnd hWA, hnz, ↓bnd (z_isWeek _ _), bI_0, h2]
    · rw [M_joined_eq]
      simp only [gI_pI, gI_pL, gI_pR, gL_pI, gL_pL, gL_pR, gR_pI, gR_pL, gR_pR, gS_pI, gS_pL, gS_pR, ↓reduceIte, Nat.reduceEqDiff, decide_eq_true_eq, Option.bind_some, false_and, and_false, true_and, and_true, and_self, Nat.reduceAdd, not_false_eq_true, not_true_eq_false, wS, wR, inI, ite_self, Classical.not_not, ↓bnd (hAI h i0), bI_0, h1, h2]
  by_cases h3 : inI x 0 3 ∧ inI y 0 3 ∧ x ≠ y
  case neg =>
    refine qry_no (v := -2000000000) ?_ ?_
    · rw [B_joined_eq]
      try simp only [wS, wR, ↓reduceIte]
      rw [bnd hWA]
      simp only [hnz, ↓reduceIte]
      rw [bnd (z_isWeek _ _)]
      simp only [bI_0, h2, and_self, not_true_eq_false, decide_false, Bool.false_eq_true, ↓reduceIte]
      rw [bnd (z_areTwoIslands _ _ _)]
      simp only [bI_0, h3, not_false_eq_true, not_true_eq_false, decide_false, Bool.false_eq_true, ↓reduceIte]
    · rw [M_joined_eq]
      simp only [wS, ↓reduceIte]
      rw [bnd (hAI h i0)]
      simp only [bI_0, h3, and_false, not_false_eq_true, not_true_eq_false, decide_false, Bool.false_eq_true, ↓reduceIte]
  -- the class
  obtain ⟨x1, a1, a2, a3⟩ := z_open w0 g f c kn
  have hV := V_frc a2
  have w1 := ok_fr a2 w0
  have a1' : Ft_open (gR h 64 3) (gR h 64 0) (gR h 82 j) kn h = some (bB (cko (V h) D kn 6 0), x1) := by
    simp only [wR]
    exact a1
  have S1 : gS x1 = gS h := fr_S a2
  have R1 : gR x1 = gR h := fr_R a2
  have t4 : Int32.toNatClampNeg 4 = 4 := rfl
  have n4 : (¬ (4 : Int32) < 0) ∧ (4 : Nat) < 6 := by decide
  have cb := cnZ_bd g D kn (isB (V h) x)
  have cy := cnZ_bd g D kn (isB (V h) y)
  have hcl : ∃ x2, B_joined 64 (nI j) kn x y h = some (if agk (V h) D kn (isB (V h) x) = true ∧ agk (V h) D kn (isB (V h) y) = true then Int64.toInt32 (Int64.ofInt (((cnZ (V h) D kn (isB (V h) x) : Int) * anZ (V h) D kn (SP (V h) D kn (isB (V h) x)) 4 + (cnZ (V h) D kn (isB (V h) y) : Int) * anZ (V h) D kn (SP (V h) D kn (isB (V h) y)) 4) / ((cnZ (V h) D kn (isB (V h) x) : Int) + (cnZ (V h) D kn (isB (V h) y) : Int)))) else -1000000000, x2) ∧ fr Sc h x2 := by
    have pre : ∀ r, (Ft_open (gR h 64 3) (gR h 64 0) (gR h 82 j) kn h).bind (fun r4 => if decide (r4.1 = 0) then
          (some ((-1000000000), r4.2) )
        else
          (if (gS r4.2 64).1 = 0 then if (gS r4.2 64).1 = 0 then if (gS r4.2 (gR r4.2 64 3)).1 = 7 then (Ft_solveIsland (gR r4.2 64 3) (gR r4.2 64 0) x r4.2).bind (fun r5 => if decide (¬ r5.1 = 0) then
            (if (gS r5.2 64).1 = 0 then if (gS r5.2 (gR r5.2 64 3)).1 = 7 then (Ft_solvedImages (gR r5.2 64 3) r5.2).bind (fun r6 => if (gS r6.2 64).1 = 0 then if (gS r6.2 (gR r6.2 64 3)).1 = 7 then if ax_in r6.2 (gR r6.2 (gR r6.2 64 3) 2) 16 4 then let x7 := (r6.1 * (Int32.toInt64 (gI r6.2 (gR r6.2 (gR r6.2 64 3) 2) (Int32.toNatClampNeg 4)))); if (gS r6.2 64).1 = 0 then if (gS r6.2 64).1 = 0 then if (gS r6.2 (gR r6.2 64 3)).1 = 7 then (Ft_solveIsland (gR r6.2 64 3) (gR r6.2 64 0) y r6.2).bind (fun r8 => if decide (¬ r8.1 = 0) then
              (if (gS r8.2 64).1 = 0 then if (gS r8.2 (gR r8.2 64 3)).1 = 7 then (Ft_solvedImages (gR r8.2 64 3) r8.2).bind (fun r9 => if (gS r9.2 64).1 = 0 then if (gS r9.2 (gR r9.2 64 3)).1 = 7 then (Ft_solvedImages (gR r9.2 64 3) r9.2).bind (fun r10 => if (gS r10.2 64).1 = 0 then if (gS r10.2 (gR r10.2 64 3)).1 = 7 then if ax_in r10.2 (gR r10.2 (gR r10.2 64 3) 2) 16 4 then let x11 := (x7 + (r10.1 * (Int32.toInt64 (gI r10.2 (gR r10.2 (gR r10.2 64 3) 2) (Int32.toNatClampNeg 4))))); if decide ((0 : Int32) < (lg_cmp (r6.1 + r9.1) 0)) then
                ((Jm_floorDiv x11 (r6.1 + r9.1) r10.2).bind (fun r12 => some ((Int64.toInt32 r12.1), r12.2) ))
              else
                (some ((-1000000000), r10.2) ) else none else none else none ) else none else none ) else none else none)
            else
              (some ((-1000000000), r8.2) ) ) else none else none else none else none else none else none ) else none else none)
          else
            (some ((-1000000000), r5.2) ) ) else none else none else none) ) = r → B_joined 64 (nI j) kn x y h = r := fun r hr => by
      rw [← hr, B_joined_eq]
      simp only [wS, ↓reduceIte]
      have hWA' : Bk_wayAt (gR h 64 0) (nI j) h = some (gR h 82 j, h) := by simp only [wR]; exact hWA
      rw [if_pos (by simp only [wR, wS]), bnd hWA']
      rw [if_neg hnz, bnd (z_isWeek _ _), if_neg (by rw [decide_eq_true_eq, bI_0]; exact not_not_intro h2), bnd (z_areTwoIslands _ _ _), if_pos (by rw [decide_eq_true_eq, bI_0]; exact not_not_intro h3)]
      simp only [wS, wR, ↓reduceIte]
    cases hk : cko (V h) D kn 6 0 with
    | false =>
      rw [hk] at a1'
      refine ⟨x1, pre _ ?_, a2⟩
      have ga : agk (V h) D kn (isB (V h) x) = false := by unfold agk; rw [hk]; rfl
      rw [bnd a1', if_neg (show ¬ (agk (V h) D kn (isB (V h) x) = true ∧ agk (V h) D kn (isB (V h) y) = true) from fun q => by rw [ga] at q; cases q.1)]
      rfl
    | true =>
      rw [hk] at a1'
      have hc := cko_ok.mp hk
      obtain ⟨x2, b1, b2, b3, b4, b5⟩ := z_solveIsland w1 (by rw [hV]; exact g) f (kn := kn) (by rw [hV]; exact hc) (by rw [hV]; exact a3 hk) x
      rw [hV] at b1 b3 b4 b5
      have hV2 : V x2 = V h := (V_frc (S1x_c b2)).trans hV
      have w2 := ok_fr b2 w1
      have S2 : gS x2 = gS h := (fr_S b2).trans S1
      have R2 : gR x2 = gR h := (fr_R b2).trans R1
      have b1' : Ft_solveIsland (gR x1 64 3) (gR x1 64 0) x x1 = some (bB (slB (SP (V h) D kn (isB (V h) x)) (FT D).length), x2) := by
        rw [R1]
        simp only [wR]
        exact b1
      rw [SP_12] at b4
      have im2 := z_solvedImages w2 b4
      have im2' : Ft_solvedImages (gR x2 64 3) x2 = some (Int64.ofInt (cnZ (V h) D kn (isB (V h) x) : Int), x2) := by
        rw [R2]
        simp only [wR]
        exact im2
      cases hs : slB (SP (V h) D kn (isB (V h) x)) (FT D).length with
      | false =>
        rw [hs] at b1'
        refine ⟨x2, pre _ ?_, fr_tr a2 (S1x_c b2)⟩
        have ga : agk (V h) D kn (isB (V h) x) = false := by unfold agk; rw [hk, hs]; rfl
        rw [bnd a1', if_neg (show ¬ (agk (V h) D kn (isB (V h) x) = true ∧ agk (V h) D kn (isB (V h) y) = true) from fun q => by rw [ga] at q; cases q.1)]
        simp only [show ¬ bB true = 0 by decide, decide_false, Bool.false_eq_true, ↓reduceIte, S1, R1, wS, wR]
        have b1'' := b1'
        rw [R1] at b1''
        simp only [wR] at b1''
        rw [bnd b1'']
        rfl
      | true =>
        rw [hs] at b1'
        have v1 := b5 hs 4 (by omega)
        have ab1 := anZ_bd g.2.2.2.1 f hc hs (t := 4) (by omega)
        obtain ⟨x3, d1, d2, d3, d4, d5⟩ := z_solveIsland w2 (by rw [hV2]; exact g) f (kn := kn) (by rw [hV2]; exact hc) (by rw [hV2]; exact b3) y
        rw [hV2] at d1 d3 d4 d5
        have w3 := ok_fr d2 w2
        have S3 : gS x3 = gS h := (fr_S d2).trans S2
        have R3 : gR x3 = gR h := (fr_R d2).trans R2
        rw [SP_12] at d4
        have im3 := z_solvedImages w3 d4
        have F3 : fr Sc h x3 := fr_tr a2 (fr_tr (S1x_c b2) (S1x_c d2))
        have e1 : (Int32.ofInt (anZ (V h) D kn (SP (V h) D kn (isB (V h) x)) 4)).toInt64 = Int64.ofInt (anZ (V h) D kn (SP (V h) D kn (isB (V h) x)) 4) := i_toL (by omega)
        have b1'' := b1'
        rw [R1] at b1''
        simp only [wR] at b1''
        have im2'' : Ft_solvedImages 99 x2 = some (Int64.ofInt (cnZ (V h) D kn (isB (V h) x) : Int), x2) := im2
        cases hs2 : slB (SP (V h) D kn (isB (V h) y)) (FT D).length with
        | false =>
          rw [hs2] at d1
          refine ⟨x3, pre _ ?_, F3⟩
          have ga : agk (V h) D kn (isB (V h) y) = false := by unfold agk; rw [hk, hs2]; rfl
          rw [bnd a1', if_neg (show ¬ (agk (V h) D kn (isB (V h) x) = true ∧ agk (V h) D kn (isB (V h) y) = true) from fun q => by rw [ga] at q; cases q.2)]
          simp only [show ¬ bB true = 0 by decide, decide_false, Bool.false_eq_true, ↓reduceIte, S1, R1, wS, wR]
          rw [bnd b1'']
          simp only [show ¬ bB true = 0 by decide, not_false_eq_true, decide_true, ↓reduceIte, S2, R2, wS, wR]
          rw [bnd im2'']
          simp only [S2, R2, wS, wR, ↓reduceIte, ax_in, t4, n4, not_false_eq_true, and_self]
          rw [bnd d1]
          rfl
        | true =>
          rw [hs2] at d1
          have v2 := d5 hs2 4 (by omega)
          have ab2 := anZ_bd g.2.2.2.1 f hc hs2 (t := 4) (by omega)
          have e2 : (Int32.ofInt (anZ (V h) D kn (SP (V h) D kn (isB (V h) y)) 4)).toInt64 = Int64.ofInt (anZ (V h) D kn (SP (V h) D kn (isB (V h) y)) 4) := i_toL (by omega)
          have im3'' : Ft_solvedImages 99 x3 = some (Int64.ofInt (cnZ (V h) D kn (isB (V h) y) : Int), x3) := im3
          have p1 := slB_cn hs
          have p2 := slB_cn hs2
          have m1 := mul_bd (x := (cnZ (V h) D kn (isB (V h) x) : Int)) (y := anZ (V h) D kn (SP (V h) D kn (isB (V h) x)) 4) (k := 100) (m := 99999999) (by omega) ab1
          have m2 := mul_bd (x := (cnZ (V h) D kn (isB (V h) y) : Int)) (y := anZ (V h) D kn (SP (V h) D kn (isB (V h) y)) 4) (k := 100) (m := 99999999) (by omega) ab2
          have fd := z_floorDiv (A := (cnZ (V h) D kn (isB (V h) x) : Int) * anZ (V h) D kn (SP (V h) D kn (isB (V h) x)) 4 + (cnZ (V h) D kn (isB (V h) y) : Int) * anZ (V h) D kn (SP (V h) D kn (isB (V h) y)) 4) (B := (cnZ (V h) D kn (isB (V h) x) : Int) + (cnZ (V h) D kn (isB (V h) y) : Int)) (by omega) (by omega) x3
          have cp : (0 : Int32) < lg_cmp (Int64.ofInt ((cnZ (V h) D kn (isB (V h) x) : Int) + (cnZ (V h) D kn (isB (V h) y) : Int))) 0 := by
            rw [lgc_gt, l_toInt (by omega)]
            show (0 : Int) < _
            omega
          refine ⟨x3, pre _ ?_, F3⟩
          have ga : agk (V h) D kn (isB (V h) x) = true := by unfold agk; rw [hk, hs]; rfl
          have gb : agk (V h) D kn (isB (V h) y) = true := by unfold agk; rw [hk, hs2]; rfl
          rw [bnd a1', if_pos (show agk (V h) D kn (isB (V h) x) = true ∧ agk (V h) D kn (isB (V h) y) = true from ⟨ga, gb⟩)]
          simp only [show ¬ bB true = 0 by decide, decide_false, Bool.false_eq_true, ↓reduceIte, S1, R1, wS, wR]
          rw [bnd b1'']
          simp only [show ¬ bB true = 0 by decide, not_false_eq_true, decide_true, ↓reduceIte, S2, R2, wS, wR]
          rw [bnd im2'']
          simp only [S2, R2, wS, wR, ↓reduceIte, ax_in, t4, n4, not_false_eq_true, and_self, v1, e1]
          rw [bnd d1]
          simp only [show ¬ bB true = 0 by decide, not_false_eq_true, decide_true, ↓reduceIte, S3, R3, wS, wR]
          rw [bnd im3'']
          simp only [S3, R3, wS, wR, ↓reduceIte]
          rw [bnd im3'']
          simp only [S3, R3, wS, wR, ↓reduceIte, ax_in, t4, n4, not_false_eq_true, and_self, v2, e2, ← Int64.ofInt_mul, ← Int64.ofInt_add, cp, decide_true]
          rw [bnd fd]
  obtain ⟨x2, hB, F2⟩ := hcl
  have hV2 := V_frc F2
  have i2 := I0_frc F2 i0
  obtain ⟨y1, s1, s2, s3⟩ := zm_alone i2 (w := j) (by omega) f (WM_c F2 m) h2.2 x
  rw [hV2] at s1 s3
  have iy := I0_frm s2 i2
  have hVy : V y1 = V h := (V_frm s2).trans hV2
  have my : WM y1 j D := WM_eq (fun a k z1 z2 => fr_I s2 (by simp only [Sm, decide_eq_false_iff_not]; omega)) (WM_c F2 m)
  obtain ⟨y2, t1, t2, t3⟩ := zm_alone iy (w := j) (by omega) f my h2.2 y
  rw [hVy] at t1 t3
  have hA : M_areIslands 159 (nI j) kn x y x2 = some (1, x2) := by
    rw [hAI x2 i2]
    unfold bI
    rw [if_pos]
    rw [hV2]
    exact ⟨h1, h2, h3⟩
  obtain ⟨vS, vR, -, -⟩ := i2.1
  have Sy : gS y1 = gS x2 := fr_S s2
  have Sy2 : gS y2 = gS x2 := (fr_S t2).trans Sy
  cases q1 : agk (V h) D kn (isB (V h) x) with
  | false =>
    rw [q1] at hB s1
    refine ⟨-1000000000, x2, y1, ?_, ?_, F2, s2⟩
    · rw [hB, if_neg (fun q => by cases q.1)]
    · rw [M_joined_eq]
      simp only [vS, ↓reduceIte]
      rw [bnd hA]
      simp only [i1_0, not_false_eq_true, decide_true, ↓reduceIte, vS]
      rw [bnd s1]
      rfl
  | true =>
    rw [q1] at hB s1
    obtain ⟨s4, s5⟩ := s3 q1
    cases q2 : agk (V h) D kn (isB (V h) y) with
    | false =>
      rw [q2] at hB t1
      refine ⟨-1000000000, x2, y2, ?_, ?_, F2, fr_tr s2 t2⟩
      · rw [hB, if_neg (fun q => by cases q.2)]
      · rw [M_joined_eq]
        simp only [vS, ↓reduceIte]
        rw [bnd hA]
        simp only [i1_0, not_false_eq_true, decide_true, ↓reduceIte, vS]
        rw [bnd s1]
        simp only [show ¬ bB true = 0 by decide, not_false_eq_true, decide_true, ↓reduceIte, Sy, vS]
        rw [bnd t1]
        rfl
    | true =>
      rw [q2] at hB t1
      obtain ⟨t4', t5⟩ := t3 q2
      rw [if_pos ⟨rfl, rfl⟩] at hB
      refine ⟨_, x2, y2, hB, ?_, F2, fr_tr s2 t2⟩
      have q1' := q1
      have q2' := q2
      unfold agk at q1' q2'
      rw [Bool.and_eq_true] at q1' q2'
      have ab1 := anZ_bd g.2.2.2.1 f (cko_ok.mp q1'.1) q1'.2 (t := 4) (by omega)
      have ab2 := anZ_bd g.2.2.2.1 f (cko_ok.mp q1'.1) q2'.2 (t := 4) (by omega)
      have p1 := slB_cn q1'.2
      have p2 := slB_cn q2'.2
      have m1 := mul_bd (x := (cnZ (V h) D kn (isB (V h) x) : Int)) (y := anZ (V h) D kn (SP (V h) D kn (isB (V h) x)) 4) (k := 100) (m := 99999999) (by omega) ab1
      have m2 := mul_bd (x := (cnZ (V h) D kn (isB (V h) y) : Int)) (y := anZ (V h) D kn (SP (V h) D kn (isB (V h) y)) 4) (k := 100) (m := 99999999) (by omega) ab2
      have fo := zm_floorOf (A := (cnZ (V h) D kn (isB (V h) x) : Int) * anZ (V h) D kn (SP (V h) D kn (isB (V h) x)) 4 + (cnZ (V h) D kn (isB (V h) y) : Int) * anZ (V h) D kn (SP (V h) D kn (isB (V h) y)) 4) (B := (cnZ (V h) D kn (isB (V h) x) : Int) + (cnZ (V h) D kn (isB (V h) y) : Int)) (by omega) (by omega) y2
      have k1 : (nI (cnZ (V h) D kn (isB (V h) x))).toInt64 = Int64.ofInt (cnZ (V h) D kn (isB (V h) x) : Int) := by rw [i_L, nJ_i (by omega)]
      have k2 : (nI (cnZ (V h) D kn (isB (V h) y))).toInt64 = Int64.ofInt (cnZ (V h) D kn (isB (V h) y) : Int) := by rw [i_L, nJ_i (by omega)]
      have k3 : (nI (cnZ (V h) D kn (isB (V h) x)) + nI (cnZ (V h) D kn (isB (V h) y))).toInt64 = Int64.ofInt ((cnZ (V h) D kn (isB (V h) x) : Int) + (cnZ (V h) D kn (isB (V h) y) : Int)) := by
        rw [nI_add, i_L, nJ_i (by omega)]
        rfl
      have s5' : gI y1 159 58 = nI (cnZ (V h) D kn (isB (V h) x)) := s5
      have t5' : gI y2 159 58 = nI (cnZ (V h) D kn (isB (V h) y)) := t5
      have ec : Int64.ofInt (anZ (V h) D kn (SP (V h) D kn (isB (V h) x)) 4) * Int64.ofInt (cnZ (V h) D kn (isB (V h) x) : Int) + Int64.ofInt (anZ (V h) D kn (SP (V h) D kn (isB (V h) y)) 4) * Int64.ofInt (cnZ (V h) D kn (isB (V h) y) : Int) = Int64.ofInt ((cnZ (V h) D kn (isB (V h) x) : Int) * anZ (V h) D kn (SP (V h) D kn (isB (V h) x)) 4 + (cnZ (V h) D kn (isB (V h) y) : Int) * anZ (V h) D kn (SP (V h) D kn (isB (V h) y)) 4) := by
        rw [← Int64.ofInt_mul, ← Int64.ofInt_mul, ← Int64.ofInt_add, Int.mul_comm, Int.mul_comm (anZ (V h) D kn (SP (V h) D kn (isB (V h) y)) 4)]
      rw [M_joined_eq]
      simp only [vS, ↓reduceIte]
      rw [bnd hA]
      simp only [i1_0, not_false_eq_true, decide_true, ↓reduceIte, vS]
      rw [bnd s1]
      simp only [show ¬ bB true = 0 by decide, not_false_eq_true, decide_true, ↓reduceIte, Sy, vS, s4, s5']
      rw [bnd t1]
      simp only [show ¬ bB true = 0 by decide, not_false_eq_true, decide_true, ↓reduceIte, Sy2, vS, t4', t5', k1, k2, k3, ec]
      rw [bnd fo]
