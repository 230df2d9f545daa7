/-! knows, count, tell, glass, field, say -/
section
theorem z_hasK {h : ax_H} (w : ok h) {j : Nat} (hj : j < 8) (wk : Int32) : Bk_hasKnowledge 65 (nI j) wk h = some (bI ((V h 90 j).toInt ≤ wk.toInt), h) := by
  obtain ⟨wS, wR, wG, wN⟩ := w
  rw [Bk_hasKnowledge_eq]
  try simp only [wS, wR, ↓reduceIte]
  simp (disch := omega) only [gI_pI, gI_pL, gI_pR, gL_pI, gL_pL, gL_pR, gR_pI, gR_pL, gR_pR, gS_pI, gS_pL, gS_pR, ↓reduceIte, Nat.reduceEqDiff, decide_eq_true_eq, Option.bind_some, false_and, and_false, true_and, and_true, and_self, Nat.reduceAdd, not_false_eq_true, not_true_eq_false, wS, wR, inI, ite_self, Classical.not_not, cV65, cV66, cV67, cV68, cV69, cV70, cV71, cV72, cV73, cV74, cV75, cV76, cV77, cV78, cV79, cV80, cV81, cV82, cV83, cV84, cV85, cV86, cV87, cV88, cV89, cV90, ax_in, nJ_nn, nJ_n, hj]
  simp only [i32_lt]
  unfold bI
  by_cases h1 : wk.toInt < (V h 90 j).toInt
  · rw [if_pos h1, if_neg (by omega)]
  · rw [if_neg h1, if_pos (by omega)]
theorem zm_isK {h : ax_H} (w : ok h) (e : EQ h) {j : Nat} (hj : j < 8) {wk : Int32} (hk : wk.toInt ≤ 9999) : M_isKnowing 159 (nI j) wk h = some (bI ((V h 90 j).toInt ≤ wk.toInt), h) := by
  obtain ⟨wS, wR, wG, wN⟩ := w
  have e27 := e.2.2.2.2.2.2.2.2.2.2.2.2.2.2.2.2.2.2.2.2.2.2.2.2.2.2 j hj
  rw [M_isKnowing_eq]
  try simp only [wS, wR, ↓reduceIte]
  simp (disch := omega) only [gI_pI, gI_pL, gI_pR, gL_pI, gL_pL, gL_pR, gR_pI, gR_pL, gR_pR, gS_pI, gS_pL, gS_pR, ↓reduceIte, Nat.reduceEqDiff, decide_eq_true_eq, Option.bind_some, false_and, and_false, true_and, and_true, and_self, Nat.reduceAdd, not_false_eq_true, not_true_eq_false, wS, wR, inI, ite_self, Classical.not_not, ax_in, nJ_nn, nJ_n, hj]
  simp only [i32_lt]
  unfold bI
  by_cases h0 : gI h 196 j = -1
  · rw [if_pos h0] at e27
    rw [if_pos h0, e27, if_neg (by show ¬ (10000 : Int) ≤ _; omega)]
  · rw [if_neg h0] at e27
    rw [if_neg h0, e27]
    by_cases h1 : wk.toInt < (gI h 196 j).toInt
    · rw [if_pos h1, if_neg (by omega)]
    · rw [if_neg h1, if_pos (by omega)]
end
theorem as_knows {h : ax_H} (i : I0 h) (d wk : Int32) : asks (B_knows 64 d wk h) (M_knows 159 d wk h) h := by
  obtain ⟨w, e, g⟩ := i
  have w0 := w
  obtain ⟨wS, wR, wG, wN⟩ := w
  by_cases hd : 0 ≤ d.toInt ∧ d.toInt ≤ 7
  · by_cases hk : 0 ≤ wk.toInt ∧ wk.toInt ≤ 9999
    · obtain ⟨j, rfl, hj, hj2, hj3⟩ := nI_ex hd
      have hj8 : j < 8 := by omega
      refine ⟨bI ((V h 90 j).toInt ≤ wk.toInt), ?_, ?_⟩
      · rw [B_knows_eq]
        try simp only [wS, wR, ↓reduceIte]
        simp only [gI_pI, gI_pL, gI_pR, gL_pI, gL_pL, gL_pR, gR_pI, gR_pL, gR_pR, gS_pI, gS_pL, gS_pR, ↓reduceIte, Nat.reduceEqDiff, decide_eq_true_eq, Option.bind_some, false_and, and_false, true_and, and_true, and_self, Nat.reduceAdd, not_false_eq_true, not_true_eq_false, wS, wR, inI, ite_self, Classical.not_not, ↓bnd (z_isHand _ _), ↓bnd (z_isWeek _ _), ↓bnd (z_hasK w0 hj8 wk), bI_0, hd, hk]
        unfold bI
        by_cases q : (V h 90 j).toInt ≤ wk.toInt
        · rw [if_neg (not_not_intro q), if_pos q]
        · rw [if_pos q, if_neg q]
      · rw [M_knows_eq]
        try simp only [wS, wR, ↓reduceIte]
        simp only [gI_pI, gI_pL, gI_pR, gL_pI, gL_pL, gL_pR, gR_pI, gR_pL, gR_pR, gS_pI, gS_pL, gS_pR, ↓reduceIte, Nat.reduceEqDiff, decide_eq_true_eq, Option.bind_some, false_and, and_false, true_and, and_true, and_self, Nat.reduceAdd, not_false_eq_true, not_true_eq_false, wS, wR, inI, ite_self, Classical.not_not, ↓bnd (zm_isHand _ _), ↓bnd (zm_isWeek _ _), ↓bnd (zm_isK w0 e hj8 hk.2), bI_0, hd, hk]
        unfold bI
        by_cases q : (V h 90 j).toInt ≤ wk.toInt
        · rw [if_neg (not_not_intro q), if_pos q]
        · rw [if_pos q, if_neg q]
    · refine ⟨-1, ?_, ?_⟩
      · rw [B_knows_eq]
        simp only [gI_pI, gI_pL, gI_pR, gL_pI, gL_pL, gL_pR, gR_pI, gR_pL, gR_pR, gS_pI, gS_pL, gS_pR, ↓reduceIte, Nat.reduceEqDiff, decide_eq_true_eq, Option.bind_some, false_and, and_false, true_and, and_true, and_self, Nat.reduceAdd, not_false_eq_true, not_true_eq_false, wS, wR, inI, ite_self, Classical.not_not, ↓bnd (z_isHand _ _), ↓bnd (z_isWeek _ _), bI_0, hd, hk]
      · rw [M_knows_eq]
        simp only [gI_pI, gI_pL, gI_pR, gL_pI, gL_pL, gL_pR, gR_pI, gR_pL, gR_pR, gS_pI, gS_pL, gS_pR, ↓reduceIte, Nat.reduceEqDiff, decide_eq_true_eq, Option.bind_some, false_and, and_false, true_and, and_true, and_self, Nat.reduceAdd, not_false_eq_true, not_true_eq_false, wS, wR, inI, ite_self, Classical.not_not, ↓bnd (zm_isHand _ _), ↓bnd (zm_isWeek _ _), bI_0, hd, hk]
  · refine ⟨-1, ?_, ?_⟩
    · rw [B_knows_eq]
      simp only [gI_pI, gI_pL, gI_pR, gL_pI, gL_pL, gL_pR, gR_pI, gR_pL, gR_pR, gS_pI, gS_pL, gS_pR, ↓reduceIte, Nat.reduceEqDiff, decide_eq_true_eq, Option.bind_some, false_and, and_false, true_and, and_true, and_self, Nat.reduceAdd, not_false_eq_true, not_true_eq_false, wS, wR, inI, ite_self, Classical.not_not, ↓bnd (z_isHand _ _), bI_0, hd]
    · rw [M_knows_eq]
      simp only [gI_pI, gI_pL, gI_pR, gL_pI, gL_pL, gL_pR, gR_pI, gR_pL, gR_pR, gS_pI, gS_pL, gS_pR, ↓reduceIte, Nat.reduceEqDiff, decide_eq_true_eq, Option.bind_some, false_and, and_false, true_and, and_true, and_self, Nat.reduceAdd, not_false_eq_true, not_true_eq_false, wS, wR, inI, ite_self, Classical.not_not, ↓bnd (zm_isHand _ _), bI_0, hd]
theorem as_count {h : ax_H} (i : I0 h) (t : IT h) (a : Int32) : asks (B_count 64 a h) (M_count 159 a h) h := by
  obtain ⟨w, e, g⟩ := i
  obtain ⟨wS, wR, wG, wN⟩ := w
  unfold EQ at e
  obtain ⟨T, n, -, t1, t2⟩ := t
  have v1 := t1.2.1
  have v2 := t2.1
  refine ⟨if a = 0 then V h 65 0 else if a = 1 then V h 66 0 else if a = 2 then V h 70 0 else if a = 3 then V h 74 0 else if a = 4 then V h 65 4 else if a = 5 then V h 65 6 else if a = 6 then V h 65 10 else if a = 7 then nI n else -1, ?_, ?_⟩
  · rw [B_count_eq]
    simp only [gI_pI, gI_pL, gI_pR, gL_pI, gL_pL, gL_pR, gR_pI, gR_pL, gR_pR, gS_pI, gS_pL, gS_pR, ↓reduceIte, Nat.reduceEqDiff, decide_eq_true_eq, Option.bind_some, false_and, and_false, true_and, and_true, and_self, Nat.reduceAdd, not_false_eq_true, not_true_eq_false, wS, wR, inI, ite_self, Classical.not_not, cV65, cV66, cV67, cV68, cV69, cV70, cV71, cV72, cV73, cV74, cV75, cV76, cV77, cV78, cV79, cV80, cV81, cV82, cV83, cV84, cV85, cV86, cV87, cV88, cV89, cV90, v1]
    repeat' split
    all_goals rfl
  · rw [M_count_eq]
    simp only [gI_pI, gI_pL, gI_pR, gL_pI, gL_pL, gL_pR, gR_pI, gR_pL, gR_pR, gS_pI, gS_pL, gS_pR, ↓reduceIte, Nat.reduceEqDiff, decide_eq_true_eq, Option.bind_some, false_and, and_false, true_and, and_true, and_self, Nat.reduceAdd, not_false_eq_true, not_true_eq_false, wS, wR, inI, ite_self, Classical.not_not, e, v2]
    repeat' split
    all_goals rfl
theorem z_min (a b : Int32) (h : ax_H) : Jm_min a b h = some (if b < a then b else a, h) := by
  rw [Jm_min_eq]
  simp only [decide_eq_true_eq]
  split <;> rfl
theorem st_tell {h : ax_H} (i : I0 h) (d wk : Int32) : stp (B_tell 64 d wk h) (M_tell 159 d wk) (stl h) := by
  obtain ⟨w, e, g⟩ := i
  have w0 := w
  obtain ⟨wS, wR, wG, wN⟩ := w
  have e0 := e
  unfold EQ at e
  by_cases hd : 0 ≤ d.toInt ∧ d.toInt ≤ 7
  case neg =>
    refine ⟨0, h, h, ?_, ?_, ⟨w0, e0, g⟩, fr_rf _ _, fr_rf _ _, rfl⟩
    · rw [B_tell_eq]
      simp only [gI_pI, gI_pL, gI_pR, gL_pI, gL_pL, gL_pR, gR_pI, gR_pL, gR_pR, gS_pI, gS_pL, gS_pR, ↓reduceIte, Nat.reduceEqDiff, decide_eq_true_eq, Option.bind_some, false_and, and_false, true_and, and_true, and_self, Nat.reduceAdd, not_false_eq_true, not_true_eq_false, wS, wR, inI, ite_self, Classical.not_not, ↓bnd (z_isHand _ _), bI_0, hd]
    · rw [M_tell_eq]
      simp only [gI_pI, gI_pL, gI_pR, gL_pI, gL_pL, gL_pR, gR_pI, gR_pL, gR_pR, gS_pI, gS_pL, gS_pR, ↓reduceIte, Nat.reduceEqDiff, decide_eq_true_eq, Option.bind_some, false_and, and_false, true_and, and_true, and_self, Nat.reduceAdd, not_false_eq_true, not_true_eq_false, wS, wR, inI, ite_self, Classical.not_not, ↓bnd (zm_isHand _ _), bI_0, hd]
  by_cases hk : 0 ≤ wk.toInt ∧ wk.toInt ≤ (V h 65 0).toInt
  case neg =>
    refine ⟨0, h, h, ?_, ?_, ⟨w0, e0, g⟩, fr_rf _ _, fr_rf _ _, rfl⟩
    · rw [B_tell_eq]
      try simp only [wS, wR, ↓reduceIte]
      simp only [gI_pI, gI_pL, gI_pR, gL_pI, gL_pL, gL_pR, gR_pI, gR_pL, gR_pR, gS_pI, gS_pL, gS_pR, ↓reduceIte, Nat.reduceEqDiff, decide_eq_true_eq, Option.bind_some, false_and, and_false, true_and, and_true, and_self, Nat.reduceAdd, not_false_eq_true, not_true_eq_false, wS, wR, inI, ite_self, Classical.not_not, cV65, cV66, cV67, cV68, cV69, cV70, cV71, cV72, cV73, cV74, cV75, cV76, cV77, cV78, cV79, cV80, cV81, cV82, cV83, cV84, cV85, cV86, cV87, cV88, cV89, cV90, ↓bnd (z_isHand _ _), ↓bnd (z_isWithin _ _ _ _), bI_0, hd, hk, Int32.reduceToInt, Int64.reduceToInt, tN9, tN299, tN99999, tN9999, tN99, tL9, tL299, tL99999, tL9999, tL99, i1_0, i0_1]
    · rw [M_tell_eq]
      try simp only [wS, wR, ↓reduceIte]
      simp only [gI_pI, gI_pL, gI_pR, gL_pI, gL_pL, gL_pR, gR_pI, gR_pL, gR_pR, gS_pI, gS_pL, gS_pR, ↓reduceIte, Nat.reduceEqDiff, decide_eq_true_eq, Option.bind_some, false_and, and_false, true_and, and_true, and_self, Nat.reduceAdd, not_false_eq_true, not_true_eq_false, wS, wR, inI, ite_self, Classical.not_not, e, ↓bnd (zm_isHand _ _), ↓bnd (zm_in _ _ _ _), bI_0, hd, hk, Int32.toInt_toInt64, Int32.reduceToInt, Int64.reduceToInt, tN9, tN299, tN99999, tN9999, tN99, tL9, tL299, tL99999, tL9999, tL99, i1_0, i0_1]
  obtain ⟨j, rfl, hj, hj2, hj3⟩ := nI_ex hd
  have hj8 : j < 8 := by omega
  have e27 := e.2.2.2.2.2.2.2.2.2.2.2.2.2.2.2.2.2.2.2.2.2.2.2.2.2.2 j hj8
  have g0 := g
  obtain ⟨g1, g2, g3, g4, g5, g6, g7⟩ := g
  have hkk := g7.2 j hj8
  have hnow := g1.1
  have hB : B_tell 64 (nI j) wk h = some (1, pI h 90 j (if wk < V h 90 j then wk else V h 90 j)) := by
    rw [B_tell_eq]
    try simp only [wS, wR, ↓reduceIte]
    simp (disch := omega) only [gI_pI, gI_pL, gI_pR, gL_pI, gL_pL, gL_pR, gR_pI, gR_pL, gR_pR, gS_pI, gS_pL, gS_pR, ↓reduceIte, Nat.reduceEqDiff, decide_eq_true_eq, Option.bind_some, false_and, and_false, true_and, and_true, and_self, Nat.reduceAdd, not_false_eq_true, not_true_eq_false, wS, wR, inI, ite_self, Classical.not_not, cV65, cV66, cV67, cV68, cV69, cV70, cV71, cV72, cV73, cV74, cV75, cV76, cV77, cV78, cV79, cV80, cV81, cV82, cV83, cV84, cV85, cV86, cV87, cV88, cV89, cV90, ↓bnd (z_isHand _ _), ↓bnd (z_isWithin _ _ _ _), ↓bnd (z_min _ _ _), bI_0, hd, hk, Int32.reduceToInt, Int64.reduceToInt, tN9, tN299, tN99999, tN9999, tN99, tL9, tL299, tL99999, tL9999, tL99, i1_0, i0_1, ax_in, nJ_nn, nJ_n, hj8]
  have hgv : ∀ v : Int32, inI v 0 10000 → GV (V (pI h 90 j v)) := fun v hv => by
    unfold GV GC GS GP GI GD GF GK at *
    simp (disch := omega) only [gI_pI, gI_pL, gI_pR, gL_pI, gL_pL, gL_pR, gR_pI, gR_pL, gR_pR, gS_pI, gS_pL, gS_pR, ↓reduceIte, Nat.reduceEqDiff, decide_eq_true_eq, Option.bind_some, false_and, and_false, true_and, and_true, and_self, Nat.reduceAdd, not_false_eq_true, not_true_eq_false, wS, wR, inI, ite_self, Classical.not_not, inI, V_pI, u2, Nat.reduceLeDiff, nS, nP, nM, nD, nF, nW', sameK]
    refine ⟨g1, g2, g3, g4, g5, g6, g7.1, fun k hk8 => ?_⟩
    by_cases hkj : k = j
    · simp only [hkj, ↓reduceIte]; exact hv
    · simp only [hkj, ↓reduceIte]; exact g7.2 k hk8
  have key : ∀ v u : Int32, (v = if u = -1 then 10000 else u) → EQ (pI (pI h 90 j v) 196 j u) := fun v u hvu => by
    unfold EQ
    simp (disch := omega) only [gI_pI, gI_pL, gI_pR, gL_pI, gL_pL, gL_pR, gR_pI, gR_pL, gR_pR, gS_pI, gS_pL, gS_pR, ↓reduceIte, Nat.reduceEqDiff, decide_eq_true_eq, Option.bind_some, false_and, and_false, true_and, and_true, and_self, Nat.reduceAdd, not_false_eq_true, not_true_eq_false, wS, wR, inI, ite_self, Classical.not_not, inI, V_pI, u2, Nat.reduceLeDiff, nS, nP, nM, nD, nF, nW', e, implies_true]
    intro k hk8
    by_cases hkj : k = j
    · simp only [hkj, ↓reduceIte]; exact hvu
    · simp only [hkj, ↓reduceIte]; exact e.2.2.2.2.2.2.2.2.2.2.2.2.2.2.2.2.2.2.2.2.2.2.2.2.2.2 k hk8
  have hneg : ¬ wk = -1 := fun q => by rw [q] at hk; exact absurd hk.1 (by decide)
  have hM : ∀ v : Int32, M_tell 159 (nI j) wk (pI h 90 j v) = some (1, pI (pI h 90 j v) 196 j (if gI h 196 j = -1 then wk else if gI h 196 j ≤ wk then gI h 196 j else wk)) := fun v => by
    rw [M_tell_eq]
    simp only [gS_pI, gR_pI, wS, wR, ↓reduceIte]
    simp (disch := omega) only [gI_pI, gI_pL, gI_pR, gL_pI, gL_pL, gL_pR, gR_pI, gR_pL, gR_pR, gS_pI, gS_pL, gS_pR, ↓reduceIte, Nat.reduceEqDiff, decide_eq_true_eq, Option.bind_some, false_and, and_false, true_and, and_true, and_self, Nat.reduceAdd, not_false_eq_true, not_true_eq_false, wS, wR, inI, ite_self, Classical.not_not, inI, V_pI, u2, Nat.reduceLeDiff, nS, nP, nM, nD, nF, nW', e, ↓bnd (zm_isHand _ _), ↓bnd (zm_in _ _ _ _), bI_0, hd, hk, Int32.toInt_toInt64, Int32.reduceToInt, Int64.reduceToInt, tN9, tN299, tN99999, tN9999, tN99, tL9, tL299, tL99999, tL9999, tL99, i1_0, i0_1, ax_in, nJ_nn, nJ_n, hj8]
    by_cases q1 : gI h 196 j = -1
    · simp only [q1, ↓reduceIte]
    · simp only [q1, ↓reduceIte]
      by_cases q2 : gI h 196 j ≤ wk
      · simp only [q2, ↓reduceIte]
      · simp only [q2, ↓reduceIte]
  refine ⟨1, _, _, hB, hM _, ⟨w0, key _ _ ?_, hgv _ ?_⟩, fr_pI (by show decide _ = true; simp), fr_tr (fr_pI (by show decide _ = true; simp)) (fr_pI (by show decide _ = true; simp)), ?_⟩
  · by_cases q1 : gI h 196 j = -1
    · rw [if_pos q1] at e27
      rw [e27, if_pos q1, if_neg hneg, if_pos (by rw [i32_lt]; show _ < (10000 : Int); omega)]
    · rw [if_neg q1] at e27
      rw [e27, if_neg q1]
      by_cases q2 : gI h 196 j ≤ wk
      · rw [if_pos q2, if_neg q1, if_neg (by rw [i32_le] at q2; rw [i32_lt]; omega)]
      · rw [if_neg q2, if_neg hneg, if_pos (by rw [i32_le] at q2; rw [i32_lt]; omega)]
  · show inI (if _ then _ else _) 0 10000
    split
    · omega
    · exact hkk
  · simp only [gI_pI, gI_pL, gI_pR, gL_pI, gL_pL, gL_pR, gR_pI, gR_pL, gR_pR, gS_pI, gS_pL, gS_pR, ↓reduceIte, Nat.reduceEqDiff, decide_eq_true_eq, Option.bind_some, false_and, and_false, true_and, and_true, and_self, Nat.reduceAdd, not_false_eq_true, not_true_eq_false, wS, wR, inI, ite_self, Classical.not_not, inI, V_pI, u2, Nat.reduceLeDiff, nS, nP, nM, nD, nF, nW']
