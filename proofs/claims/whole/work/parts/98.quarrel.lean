/-! quarrel -/
theorem bI_b (p : Prop) [Decidable p] {α : Type} (a b : α) : (if decide (bI p = 0) = true then a else b) = if p then b else a := by
  unfold bI
  by_cases h : p
  · rw [if_pos h, if_pos h, if_neg (by decide)]
  · rw [if_neg h, if_neg h, if_pos (by decide)]
theorem bI_c (p : Prop) [Decidable p] {α : Type} (a b : α) : (if decide (¬ bI p = 0) = true then a else b) = if p then a else b := by
  unfold bI
  by_cases h : p
  · rw [if_pos h, if_pos h, if_pos (by decide)]
  · rw [if_neg h, if_neg h, if_neg (by decide)]
theorem i_neg {c : Int32} (h : 0 ≤ c.toInt ∧ c.toInt ≤ 99999) : (-c).toInt = - c.toInt := by
  rw [Int32.toInt_neg]
  exact Int.bmod_eq_of_le (by omega) (by omega)
/-- the class's nearness and the reference's -/
theorem zm_near {A B : Int} {c : Int32} (hA : -99999999 ≤ A ∧ A ≤ 99999999) (hB : -99999999 ≤ B ∧ B ≤ 99999999) (hc : 0 ≤ c.toInt ∧ c.toInt ≤ 99999) (h : ax_H) : M_in (Int64.ofInt B - Int64.ofInt A) (-c).toInt64 c.toInt64 h = some (bI (A - B ≤ c.toInt ∧ B - A ≤ c.toInt), h) := by
  rw [zm_in, ← Int64.ofInt_sub, l_toInt (by omega), Int32.toInt_toInt64, Int32.toInt_toInt64, i_neg hc]
  unfold bI
  by_cases q : A - B ≤ c.toInt ∧ B - A ≤ c.toInt
  · rw [if_pos q, if_pos (by omega)]
  · rw [if_neg q, if_neg (by omega)]
theorem qy_quarrel {h : ax_H} (i : I0 h) (iw : IW h) (a kn x y l : Int32) : qry (B_quarrel 64 a kn x y l h) (M_quarrel 159 a kn x y l) h := by
  have i0 := i
  obtain ⟨w, e, g⟩ := i
  have hcn := cnts g.1
  have w0 := w
  obtain ⟨wS, wR, wG, wN⟩ := w
  have hAI := fun h (i : I0 h) => zm_areIslands i a kn x y
  by_cases h1 : 0 ≤ a.toInt ∧ a.toInt ≤ (V h 65 4).toInt - 1
  case neg =>
    refine qry_no (v := -1) ?_ ?_
    · rw [B_quarrel_eq]
      try simp only [wS, wR, ↓reduceIte]
      simp only [gI_pI, gI_pL, gI_pR, gL_pI, gL_pL, gL_pR, gR_pI, gR_pL, gR_pR, gS_pI, gS_pL, gS_pR, ↓reduceIte, Nat.reduceEqDiff, decide_eq_true_eq, Option.bind_some, false_and, and_false, true_and, and_true, and_self, Nat.reduceAdd, not_false_eq_true, not_true_eq_false, wS, wR, inI, ite_self, Classical.not_not, ↓bnd (z_wayNo w0 g.1 h1)]
    · rw [M_quarrel_eq]
      simp only [gI_pI, gI_pL, gI_pR, gL_pI, gL_pL, gL_pR, gR_pI, gR_pL, gR_pR, gS_pI, gS_pL, gS_pR, ↓reduceIte, Nat.reduceEqDiff, decide_eq_true_eq, Option.bind_some, false_and, and_false, true_and, and_true, and_self, Nat.reduceAdd, not_false_eq_true, not_true_eq_false, wS, wR, inI, ite_self, Classical.not_not, ↓bnd (hAI h i0), bI_0, h1]
  obtain ⟨j, rfl, hj, hj2, hj3⟩ := nI_ex h1
  obtain ⟨D, c, m, f⟩ := iw j (by omega)
  have hnz : ¬ gR h 82 j = 0 := by have := c.1; omega
  have hWA := z_wayAt w0 g.1 (j := j) (by omega)
  by_cases h2 : 0 ≤ kn.toInt ∧ kn.toInt ≤ 9999
  case neg =>
    refine qry_no (v := -1) ?_ ?_
    · rw [B_quarrel_eq]
      try simp only [wS, wR, ↓reduceIte]
      simp only [gI_pI, gI_pL, gI_pR, gL_pI, gL_pL, gL_pR, gR_pI, gR_pL, gR_pR, gS_pI, gS_pL, gS_pR, ↓reduceIte, Nat.reduceEqDiff, decide_eq_true_eq, Option.bind_some, false_and, and_false, true_and, and_true, and_self, Nat.reduceAdd, not_false_eq_true, not_true_eq_false, wS, wR, inI, ite_self, Classical.not_not, ↓bnd hWA, hnz, ↓bnd (z_isWeek _ _), bI_0, h2]
    · rw [M_quarrel_eq]
      simp only [gI_pI, gI_pL, gI_pR, gL_pI, gL_pL, gL_pR, gR_pI, gR_pL, gR_pR, gS_pI, gS_pL, gS_pR, ↓reduceIte, Nat.reduceEqDiff, decide_eq_true_eq, Option.bind_some, false_and, and_false, true_and, and_true, and_self, Nat.reduceAdd, not_false_eq_true, not_true_eq_false, wS, wR, inI, ite_self, Classical.not_not, ↓bnd (hAI h i0), bI_0, h1, h2]
  by_cases h3 : inI x 0 3 ∧ inI y 0 3 ∧ x ≠ y
  case neg =>
    refine qry_no (v := -1) ?_ ?_
    · rw [B_quarrel_eq]
      try simp only [wS, wR, ↓reduceIte]
      rw [bnd hWA]
      simp only [hnz, ↓reduceIte]
      rw [bnd (z_isWeek _ _)]
      simp only [bI_0, h2, and_self, not_true_eq_false, decide_false, Bool.false_eq_true, ↓reduceIte]
      rw [bnd (z_areTwoIslands _ _ _)]
      simp only [bI_0, h3, not_false_eq_true, not_true_eq_false, decide_true, decide_false, Bool.false_eq_true, ↓reduceIte]
    · rw [M_quarrel_eq]
      simp only [wS, ↓reduceIte]
      rw [bnd (hAI h i0)]
      simp only [bI_0, h3, and_false, not_false_eq_true, not_true_eq_false, decide_true, decide_false, Bool.false_eq_true, ↓reduceIte]
  have hWA' : Bk_wayAt (gR h 64 0) (nI j) h = some (gR h 82 j, h) := by simp only [wR]; exact hWA
  have hA0 : ∀ x2, I0 x2 → V x2 = V h → M_areIslands 159 (nI j) kn x y x2 = some (1, x2) := fun x2 i2 hV2 => by
    rw [hAI x2 i2]
    unfold bI
    rw [if_pos]
    rw [hV2]
    exact ⟨h1, h2, h3⟩
  by_cases hl : 0 ≤ l.toInt ∧ l.toInt ≤ 99999
  case neg =>
    refine qry_no (v := -1) ?_ ?_
    · rw [B_quarrel_eq]
      simp only [wS, ↓reduceIte]
      rw [if_pos (by simp only [wR, wS]), bnd hWA']
      rw [if_neg hnz, bnd (z_isWeek _ _), if_neg (by rw [decide_eq_true_eq, bI_0]; exact not_not_intro h2), bnd (z_areTwoIslands _ _ _), if_neg (by rw [decide_eq_true_eq, bI_0]; exact not_not_intro h3), bnd (z_isWithin _ _ _ _), if_neg (by rw [decide_eq_true_eq, bI_0]; exact fun q => q hl)]
    · rw [M_quarrel_eq]
      simp only [wS, ↓reduceIte]
      rw [bnd (hA0 h i0 rfl)]
      simp only [i1_0, decide_false, Bool.false_eq_true, ↓reduceIte]
      rw [bnd (zm_in _ _ _ _), if_neg (by rw [decide_eq_true_eq, bI_0, Int32.toInt_toInt64]; exact fun q => q hl)]
  -- the class
  obtain ⟨x1, a1, a2, a3⟩ := z_open w0 g f c kn
  have hV := V_frc a2
  have w1 := ok_fr a2 w0
  have a1' : Ft_open (gR h 64 3) (gR h 64 0) (gR h 82 j) kn h = some (bB (cko (V h) D kn 6 0), x1) := by
    simp only [wR]
    exact a1
  have S1 : gS x1 = gS h := fr_S a2
  have R1 : gR x1 = gR h := fr_R a2
  have t4 : Int32.toNatClampNeg 4 = 4 := rfl
  have n4 : (¬ (4 : Int32) < 0) ∧ (4 : Nat) < 6 := by decide
  have hcl : ∃ x2, B_quarrel 64 (nI j) kn x y l h = some (if agk (V h) D kn (isB (V h) x) = true ∧ agk (V h) D kn (isB (V h) y) = true then (if anZ (V h) D kn (SP (V h) D kn (isB (V h) x)) 4 - anZ (V h) D kn (SP (V h) D kn (isB (V h) y)) 4 ≤ l.toInt ∧ anZ (V h) D kn (SP (V h) D kn (isB (V h) y)) 4 - anZ (V h) D kn (SP (V h) D kn (isB (V h) x)) 4 ≤ l.toInt then 0 else 1) else 0, x2) ∧ fr Sc h x2 := by
    have pre : ∀ r, (Ft_open (gR h 64 3) (gR h 64 0) (gR h 82 j) kn h).bind (fun r5 => if decide (r5.1 = 0) then
            (some (0, r5.2) )
          else
            (if (gS r5.2 64).1 = 0 then if (gS r5.2 64).1 = 0 then if (gS r5.2 (gR r5.2 64 3)).1 = 7 then (Ft_solveIsland (gR r5.2 64 3) (gR r5.2 64 0) x r5.2).bind (fun r6 => if decide (¬ r6.1 = 0) then
              (if (gS r6.2 64).1 = 0 then if (gS r6.2 (gR r6.2 64 3)).1 = 7 then if ax_in r6.2 (gR r6.2 (gR r6.2 64 3) 2) 16 4 then let x7 := (gI r6.2 (gR r6.2 (gR r6.2 64 3) 2) (Int32.toNatClampNeg 4)); if (gS r6.2 64).1 = 0 then if (gS r6.2 64).1 = 0 then if (gS r6.2 (gR r6.2 64 3)).1 = 7 then (Ft_solveIsland (gR r6.2 64 3) (gR r6.2 64 0) y r6.2).bind (fun r8 => if decide (¬ r8.1 = 0) then
                (if (gS r8.2 64).1 = 0 then if (gS r8.2 (gR r8.2 64 3)).1 = 7 then if ax_in r8.2 (gR r8.2 (gR r8.2 64 3) 2) 16 4 then (B_isNear x7 (gI r8.2 (gR r8.2 (gR r8.2 64 3) 2) (Int32.toNatClampNeg 4)) l r8.2).bind (fun r9 => if decide (r9.1 = 0) then
                  (some (1, r9.2) )
                else
                  (some (0, r9.2) ) ) else none else none else none)
              else
                (some (0, r8.2) ) ) else none else none else none else none else none else none)
            else
              (some (0, r6.2) ) ) else none else none else none) ) = r → B_quarrel 64 (nI j) kn x y l h = r := fun r hr => by
      rw [← hr, B_quarrel_eq]
      simp only [wS, ↓reduceIte]
      rw [if_pos (by simp only [wR, wS]), bnd hWA']
      rw [if_neg hnz, bnd (z_isWeek _ _), if_neg (by rw [decide_eq_true_eq, bI_0]; exact not_not_intro h2), bnd (z_areTwoIslands _ _ _), if_neg (by rw [decide_eq_true_eq, bI_0]; exact not_not_intro h3), bnd (z_isWithin _ _ _ _), if_pos (by rw [decide_eq_true_eq, bI_0]; exact not_not_intro hl)]
      simp only [wS, wR, ↓reduceIte]
    cases hk : cko (V h) D kn 6 0 with
    | false =>
      rw [hk] at a1'
      refine ⟨x1, pre _ ?_, a2⟩
      have ga : agk (V h) D kn (isB (V h) x) = false := by unfold agk; rw [hk]; rfl
      rw [bnd a1', if_neg (show ¬ (agk (V h) D kn (isB (V h) x) = true ∧ agk (V h) D kn (isB (V h) y) = true) from fun q => by rw [ga] at q; cases q.1)]
      rfl
    | true =>
      rw [hk] at a1'
      have hc := cko_ok.mp hk
      obtain ⟨x2, b1, b2, b3, b4, b5⟩ := z_solveIsland w1 (by rw [hV]; exact g) f (kn := kn) (by rw [hV]; exact hc) (by rw [hV]; exact a3 hk) x
      rw [hV] at b1 b3 b4 b5
      have hV2 : V x2 = V h := (V_frc (S1x_c b2)).trans hV
      have w2 := ok_fr b2 w1
      have S2 : gS x2 = gS h := (fr_S b2).trans S1
      have R2 : gR x2 = gR h := (fr_R b2).trans R1
      cases hs : slB (SP (V h) D kn (isB (V h) x)) (FT D).length with
      | false =>
        rw [hs] at b1
        refine ⟨x2, pre _ ?_, fr_tr a2 (S1x_c b2)⟩
        have ga : agk (V h) D kn (isB (V h) x) = false := by unfold agk; rw [hk, hs]; rfl
        rw [bnd a1', if_neg (show ¬ (agk (V h) D kn (isB (V h) x) = true ∧ agk (V h) D kn (isB (V h) y) = true) from fun q => by rw [ga] at q; cases q.1)]
        simp only [show ¬ bB true = 0 by decide, decide_false, Bool.false_eq_true, ↓reduceIte, S1, R1, wS, wR]
        rw [bnd b1]
        rfl
      | true =>
        rw [hs] at b1
        have v1 := b5 hs 4 (by omega)
        have ab1 := anZ_bd g.2.2.2.1 f hc hs (t := 4) (by omega)
        obtain ⟨x3, d1, d2, d3, d4, d5⟩ := z_solveIsland w2 (by rw [hV2]; exact g) f (kn := kn) (by rw [hV2]; exact hc) (by rw [hV2]; exact b3) y
        rw [hV2] at d1 d3 d4 d5
        have w3 := ok_fr d2 w2
        have S3 : gS x3 = gS h := (fr_S d2).trans S2
        have R3 : gR x3 = gR h := (fr_R d2).trans R2
        have F3 : fr Sc h x3 := fr_tr a2 (fr_tr (S1x_c b2) (S1x_c d2))
        cases hs2 : slB (SP (V h) D kn (isB (V h) y)) (FT D).length with
        | false =>
          rw [hs2] at d1
          refine ⟨x3, pre _ ?_, F3⟩
          have ga : agk (V h) D kn (isB (V h) y) = false := by unfold agk; rw [hk, hs2]; rfl
          rw [bnd a1', if_neg (show ¬ (agk (V h) D kn (isB (V h) x) = true ∧ agk (V h) D kn (isB (V h) y) = true) from fun q => by rw [ga] at q; cases q.2)]
          simp only [show ¬ bB true = 0 by decide, decide_false, Bool.false_eq_true, ↓reduceIte, S1, R1, wS, wR]
          rw [bnd b1]
          simp only [show ¬ bB true = 0 by decide, not_false_eq_true, decide_true, ↓reduceIte, S2, R2, wS, wR, ax_in, t4, n4, and_self]
          rw [bnd d1]
          rfl
        | true =>
          rw [hs2] at d1
          have v2 := d5 hs2 4 (by omega)
          have ab2 := anZ_bd g.2.2.2.1 f hc hs2 (t := 4) (by omega)
          have ga : agk (V h) D kn (isB (V h) x) = true := by unfold agk; rw [hk, hs]; rfl
          have gb : agk (V h) D kn (isB (V h) y) = true := by unfold agk; rw [hk, hs2]; rfl
          refine ⟨x3, pre _ ?_, F3⟩
          rw [bnd a1', if_pos (show agk (V h) D kn (isB (V h) x) = true ∧ agk (V h) D kn (isB (V h) y) = true from ⟨ga, gb⟩)]
          simp only [show ¬ bB true = 0 by decide, decide_false, Bool.false_eq_true, ↓reduceIte, S1, R1, wS, wR]
          rw [bnd b1]
          simp only [show ¬ bB true = 0 by decide, not_false_eq_true, decide_true, ↓reduceIte, S2, R2, wS, wR, ax_in, t4, n4, and_self, v1]
          rw [bnd d1]
          simp only [show ¬ bB true = 0 by decide, not_false_eq_true, decide_true, ↓reduceIte, S3, R3, wS, wR, v2, ax_in, t4, n4, and_self]
          rw [bnd (z_isNear _ _ _ _), bI_b, i_toInt (z := anZ (V h) D kn (SP (V h) D kn (isB (V h) x)) 4) (by omega), i_toInt (z := anZ (V h) D kn (SP (V h) D kn (isB (V h) y)) 4) (by omega)]
          split <;> rfl
  obtain ⟨x2, hB, F2⟩ := hcl
  have hV2 := V_frc F2
  have i2 := I0_frc F2 i0
  obtain ⟨y1, s1, s2, s3⟩ := zm_alone i2 (w := j) (by omega) f (WM_c F2 m) h2.2 x
  rw [hV2] at s1 s3
  have iy := I0_frm s2 i2
  have hVy : V y1 = V h := (V_frm s2).trans hV2
  have my : WM y1 j D := WM_eq (fun a k z1 z2 => fr_I s2 (by simp only [Sm, decide_eq_false_iff_not]; omega)) (WM_c F2 m)
  obtain ⟨y2, t1, t2, t3⟩ := zm_alone iy (w := j) (by omega) f my h2.2 y
  rw [hVy] at t1 t3
  have hA := hA0 x2 i2 hV2
  obtain ⟨vS, vR, -, -⟩ := i2.1
  have Sy : gS y1 = gS x2 := fr_S s2
  have Sy2 : gS y2 = gS x2 := (fr_S t2).trans Sy
  have pre2 : ∀ r, (M_alone 159 (nI j) kn x x2).bind (fun r3 => if decide (¬ r3.1 = 0) then
        (if (gS r3.2 159).1 = 11 then if (gS r3.2 159).1 = 11 then (M_alone 159 (nI j) kn y r3.2).bind (fun r4 => if decide (r4.1 = 0) then
          (some (0, r4.2) )
        else
          (if (gS r4.2 159).1 = 11 then (M_in ((gL r4.2 159 57) - (gL r3.2 159 57)) (Int32.toInt64 (-l)) (Int32.toInt64 l) r4.2).bind (fun r5 => if decide (¬ r5.1 = 0) then
            (some (0, r5.2) )
          else
            (some (1, r5.2) ) ) else none) ) else none else none)
      else
        (some (0, r3.2) ) ) = r → M_quarrel 159 (nI j) kn x y l x2 = r := fun r hr => by
    rw [← hr, M_quarrel_eq]
    simp only [vS, ↓reduceIte]
    rw [bnd hA, if_neg (by rw [decide_eq_true_eq]; exact i1_0), bnd (zm_in _ _ _ _), if_pos (by rw [decide_eq_true_eq, bI_0, Int32.toInt_toInt64]; exact not_not_intro hl)]
    simp only [vS, ↓reduceIte]
  cases q1 : agk (V h) D kn (isB (V h) x) with
  | false =>
    rw [q1] at hB s1
    refine ⟨0, x2, y1, ?_, pre2 _ ?_, F2, s2⟩
    · rw [hB, if_neg (fun q => by cases q.1)]
    · rw [bnd s1]
      rfl
  | true =>
    rw [q1] at hB s1
    obtain ⟨s4, s5⟩ := s3 q1
    cases q2 : agk (V h) D kn (isB (V h) y) with
    | false =>
      rw [q2] at hB t1
      refine ⟨0, x2, y2, ?_, pre2 _ ?_, F2, fr_tr s2 t2⟩
      · rw [hB, if_neg (fun q => by cases q.2)]
      · rw [bnd s1]
        simp only [show ¬ bB true = 0 by decide, not_false_eq_true, decide_true, ↓reduceIte, Sy, vS]
        rw [bnd t1]
        rfl
    | true =>
      rw [q2] at hB t1
      obtain ⟨t4', t5⟩ := t3 q2
      rw [if_pos (show true = true ∧ true = true from ⟨rfl, rfl⟩)] at hB
      refine ⟨_, x2, y2, hB, pre2 _ ?_, F2, fr_tr s2 t2⟩
      have q1' := q1
      have q2' := q2
      unfold agk at q1' q2'
      rw [Bool.and_eq_true] at q1' q2'
      have ab1 := anZ_bd g.2.2.2.1 f (cko_ok.mp q1'.1) q1'.2 (t := 4) (by omega)
      have ab2 := anZ_bd g.2.2.2.1 f (cko_ok.mp q1'.1) q2'.2 (t := 4) (by omega)
      rw [bnd s1]
      simp only [show ¬ bB true = 0 by decide, not_false_eq_true, decide_true, ↓reduceIte, Sy, vS]
      rw [bnd t1]
      simp only [show ¬ bB true = 0 by decide, decide_false, Bool.false_eq_true, ↓reduceIte, Sy2, vS, s4, t4']
      rw [bnd (zm_near ab1 ab2 hl _), bI_c]
      split <;> rfl
