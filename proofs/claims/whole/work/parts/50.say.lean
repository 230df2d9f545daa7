/-! ways by number; say; image -/
section
theorem z_wayAt {h : ax_H} (w : ok h) (g : GC (V h)) {j : Nat} (hj : j < nW' (V h)) : Bk_wayAt 65 (nI j) h = some (gR h 82 j, h) := by
  have hcn := cnts g
  obtain ⟨wS, wR, wG, wN⟩ := w
  have hj2 : j < 10 := by omega
  have hc : 0 ≤ (nI j).toInt ∧ (nI j).toInt ≤ (V h 65 4).toInt - 1 := by rw [nJ_i (by omega)]; omega
  rw [Bk_wayAt_eq]
  try simp only [wS, wR, ↓reduceIte]
  simp (disch := omega) only [gI_pI, gI_pL, gI_pR, gL_pI, gL_pL, gL_pR, gR_pI, gR_pL, gR_pR, gS_pI, gS_pL, gS_pR, ↓reduceIte, Nat.reduceEqDiff, decide_eq_true_eq, Option.bind_some, false_and, and_false, true_and, and_true, and_self, Nat.reduceAdd, not_false_eq_true, not_true_eq_false, wS, wR, inI, ite_self, Classical.not_not, cV65, cV66, cV67, cV68, cV69, cV70, cV71, cV72, cV73, cV74, cV75, cV76, cV77, cV78, cV79, cV80, cV81, cV82, cV83, cV84, cV85, cV86, cV87, cV88, cV89, cV90, ↓bnd (z_isWithin _ _ _ _), sub1 g.2.2.2.2.1, bI_0, Int32.reduceToInt, Int64.reduceToInt, tN9, tN299, tN99999, tN9999, tN99, tL9, tL299, tL99999, tL9999, tL99, i1_0, i0_1, hc, ax_in, nJ_nn, nJ_n, hj2]
theorem z_wayNo {h : ax_H} (w : ok h) (g : GC (V h)) {a : Int32} (ha : ¬ (0 ≤ a.toInt ∧ a.toInt ≤ (V h 65 4).toInt - 1)) : Bk_wayAt 65 a h = some (0, h) := by
  obtain ⟨wS, wR, wG, wN⟩ := w
  rw [Bk_wayAt_eq]
  try simp only [wS, wR, ↓reduceIte]
  simp (disch := omega) only [gI_pI, gI_pL, gI_pR, gL_pI, gL_pL, gL_pR, gR_pI, gR_pL, gR_pR, gS_pI, gS_pL, gS_pR, ↓reduceIte, Nat.reduceEqDiff, decide_eq_true_eq, Option.bind_some, false_and, and_false, true_and, and_true, and_self, Nat.reduceAdd, not_false_eq_true, not_true_eq_false, wS, wR, inI, ite_self, Classical.not_not, cV65, cV66, cV67, cV68, cV69, cV70, cV71, cV72, cV73, cV74, cV75, cV76, cV77, cV78, cV79, cV80, cV81, cV82, cV83, cV84, cV85, cV86, cV87, cV88, cV89, cV90, ↓bnd (z_isWithin _ _ _ _), sub1 g.2.2.2.2.1, bI_0, Int32.reduceToInt, Int64.reduceToInt, tN9, tN299, tN99999, tN9999, tN99, tL9, tL299, tL99999, tL9999, tL99, i1_0, i0_1, ha]
end
theorem st_say {h : ax_H} (i : I0 h) (hw : ∀ j, j < nW' (V h) → gR h 82 j ≠ 0) (a v : Int32) : stp (B_say 64 a v h) (M_say 159 a v) (stl h) := by
  obtain ⟨w, e, g⟩ := i
  have w0 := w
  obtain ⟨wS, wR, wG, wN⟩ := w
  have e0 := e
  unfold EQ at e
  have hcn := cnts g.1
  obtain ⟨n, hn, hn2, hn3, hn4⟩ := nI_ex g.1.2.2.2.2.2.1
  have hnD : nD (V h) = n := by show (V h 65 6).toInt.toNat = n; omega
  by_cases h1 : 0 ≤ a.toInt ∧ a.toInt ≤ (V h 65 4).toInt - 1
  case neg =>
    refine ⟨-1, h, h, ?_, ?_, ⟨w0, e0, g⟩, fr_rf _ _, fr_rf _ _, rfl⟩
    · rw [B_say_eq]
      try simp only [wS, wR, ↓reduceIte]
      simp only [gI_pI, gI_pL, gI_pR, gL_pI, gL_pL, gL_pR, gR_pI, gR_pL, gR_pR, gS_pI, gS_pL, gS_pR, ↓reduceIte, Nat.reduceEqDiff, decide_eq_true_eq, Option.bind_some, false_and, and_false, true_and, and_true, and_self, Nat.reduceAdd, not_false_eq_true, not_true_eq_false, wS, wR, inI, ite_self, Classical.not_not, ↓bnd (z_wayNo w0 g.1 h1)]
    · rw [M_say_eq]
      try simp only [wS, wR, ↓reduceIte]
      simp only [gI_pI, gI_pL, gI_pR, gL_pI, gL_pL, gL_pR, gR_pI, gR_pL, gR_pR, gS_pI, gS_pL, gS_pR, ↓reduceIte, Nat.reduceEqDiff, decide_eq_true_eq, Option.bind_some, false_and, and_false, true_and, and_true, and_self, Nat.reduceAdd, not_false_eq_true, not_true_eq_false, wS, wR, inI, ite_self, Classical.not_not, ↓bnd (zm_isWay w0 g.1 e0 _), bI_0, h1]
  obtain ⟨j, rfl, hj, hj2, hj3⟩ := nI_ex h1
  have hjw : j < nW' (V h) := by omega
  have hne := hw j hjw
  by_cases h2 : -99999 ≤ v.toInt ∧ v.toInt ≤ 99999
  case neg =>
    refine ⟨-1, h, h, ?_, ?_, ⟨w0, e0, g⟩, fr_rf _ _, fr_rf _ _, rfl⟩
    · rw [B_say_eq]
      try simp only [wS, wR, ↓reduceIte]
      simp only [gI_pI, gI_pL, gI_pR, gL_pI, gL_pL, gL_pR, gR_pI, gR_pL, gR_pR, gS_pI, gS_pL, gS_pR, ↓reduceIte, Nat.reduceEqDiff, decide_eq_true_eq, Option.bind_some, false_and, and_false, true_and, and_true, and_self, Nat.reduceAdd, not_false_eq_true, not_true_eq_false, wS, wR, inI, ite_self, Classical.not_not, ↓bnd (z_wayAt w0 g.1 hjw), hne, ↓bnd (z_isWithin _ _ _ _), bI_0, h2, Int32.reduceToInt, Int64.reduceToInt, tN9, tN299, tN99999, tN9999, tN99, tL9, tL299, tL99999, tL9999, tL99, i1_0, i0_1]
    · rw [M_say_eq]
      try simp only [wS, wR, ↓reduceIte]
      simp only [gI_pI, gI_pL, gI_pR, gL_pI, gL_pL, gL_pR, gR_pI, gR_pL, gR_pR, gS_pI, gS_pL, gS_pR, ↓reduceIte, Nat.reduceEqDiff, decide_eq_true_eq, Option.bind_some, false_and, and_false, true_and, and_true, and_self, Nat.reduceAdd, not_false_eq_true, not_true_eq_false, wS, wR, inI, ite_self, Classical.not_not, ↓bnd (zm_isWay w0 g.1 e0 _), bI_0, h1, ↓bnd (zm_in _ _ _ _), h2, Int32.toInt_toInt64, Int32.reduceToInt, Int64.reduceToInt, tN9, tN299, tN99999, tN9999, tN99, tL9, tL299, tL99999, tL9999, tL99, i1_0, i0_1]
  by_cases h3 : n = 40
  case pos =>
    refine ⟨-1, h, h, ?_, ?_, ⟨w0, e0, g⟩, fr_rf _ _, fr_rf _ _, rfl⟩
    · rw [B_say_eq]
      try simp only [wS, wR, ↓reduceIte]
      simp (disch := omega) only [gI_pI, gI_pL, gI_pR, gL_pI, gL_pL, gL_pR, gR_pI, gR_pL, gR_pR, gS_pI, gS_pL, gS_pR, ↓reduceIte, Nat.reduceEqDiff, decide_eq_true_eq, Option.bind_some, false_and, and_false, true_and, and_true, and_self, Nat.reduceAdd, not_false_eq_true, not_true_eq_false, wS, wR, inI, ite_self, Classical.not_not, cV65, cV66, cV67, cV68, cV69, cV70, cV71, cV72, cV73, cV74, cV75, cV76, cV77, cV78, cV79, cV80, cV81, cV82, cV83, cV84, cV85, cV86, cV87, cV88, cV89, cV90, ↓bnd (z_wayAt w0 g.1 hjw), hne, ↓bnd (z_isWithin _ _ _ _), bI_0, h2, Int32.reduceToInt, Int64.reduceToInt, tN9, tN299, tN99999, tN9999, tN99, tL9, tL299, tL99999, tL9999, tL99, i1_0, i0_1, Bk_putSaid_eq, hn, show (40 : Int32) = nI 40 from rfl, nJ_lt, h3, Nat.lt_irrefl]
    · rw [M_say_eq]
      try simp only [wS, wR, ↓reduceIte]
      simp (disch := omega) only [gI_pI, gI_pL, gI_pR, gL_pI, gL_pL, gL_pR, gR_pI, gR_pL, gR_pR, gS_pI, gS_pL, gS_pR, ↓reduceIte, Nat.reduceEqDiff, decide_eq_true_eq, Option.bind_some, false_and, and_false, true_and, and_true, and_self, Nat.reduceAdd, not_false_eq_true, not_true_eq_false, wS, wR, inI, ite_self, Classical.not_not, e, hn, h3, show (40 : Int32) = nI 40 from rfl]
  have h9 : n < 40 := by omega
  have e1 : nI (n + 1) - 1 = nI n := nI_pred n
  refine ⟨nI n, pI (pI (pI (pI h 83 n (nI j)) 84 n (V h 65 0)) 85 n v) 65 6 (nI (n + 1)), pI (pI (pI (pI (pI (pI (pI (pI h 83 n (nI j)) 84 n (V h 65 0)) 85 n v) 65 6 (nI (n + 1))) 197 n (nI j)) 198 n v) 199 n (V h 65 0)) 159 59 (nI (n + 1)), ?_, ?_, ⟨(ok_pI (ok_pI (ok_pI (ok_pI (ok_pI (ok_pI (ok_pI (ok_pI w0 _ _ _) _ _ _) _ _ _) _ _ _) _ _ _) _ _ _) _ _ _) _ _ _), ?_, ?_⟩, fr_c (fr_c (fr_c (fr_c (fr_rf _ _) rfl) rfl) rfl) rfl, fr_c (fr_c (fr_c (fr_c (fr_c (fr_c (fr_c (fr_c (fr_rf _ _) rfl) rfl) rfl) rfl) rfl) rfl) rfl) rfl, ?_⟩
  · have hp : Bk_putSaid 65 (nI j) v h = some (nI n, pI (pI (pI (pI h 83 n (nI j)) 84 n (V h 65 0)) 85 n v) 65 6 (nI (n + 1))) := by
      rw [Bk_putSaid_eq]
      try simp only [wS, wR, ↓reduceIte]
      simp (disch := omega) only [gI_pI, gI_pL, gI_pR, gL_pI, gL_pL, gL_pR, gR_pI, gR_pL, gR_pR, gS_pI, gS_pL, gS_pR, ↓reduceIte, Nat.reduceEqDiff, decide_eq_true_eq, Option.bind_some, false_and, and_false, true_and, and_true, and_self, Nat.reduceAdd, not_false_eq_true, not_true_eq_false, wS, wR, inI, ite_self, Classical.not_not, cV65, cV66, cV67, cV68, cV69, cV70, cV71, cV72, cV73, cV74, cV75, cV76, cV77, cV78, cV79, cV80, cV81, cV82, cV83, cV84, cV85, cV86, cV87, cV88, cV89, cV90, inI, V_pI, u2, Nat.reduceLeDiff, nS, nP, nM, nD, nF, nW', hn, show (40 : Int32) = nI 40 from rfl, nJ_lt, h9, ax_in, nJ_nn, nJ_n, nJ_p1, e1]
    rw [B_say_eq]
    try simp only [wS, wR, ↓reduceIte]
    simp (disch := omega) only [gI_pI, gI_pL, gI_pR, gL_pI, gL_pL, gL_pR, gR_pI, gR_pL, gR_pR, gS_pI, gS_pL, gS_pR, ↓reduceIte, Nat.reduceEqDiff, decide_eq_true_eq, Option.bind_some, false_and, and_false, true_and, and_true, and_self, Nat.reduceAdd, not_false_eq_true, not_true_eq_false, wS, wR, inI, ite_self, Classical.not_not, cV65, cV66, cV67, cV68, cV69, cV70, cV71, cV72, cV73, cV74, cV75, cV76, cV77, cV78, cV79, cV80, cV81, cV82, cV83, cV84, cV85, cV86, cV87, cV88, cV89, cV90, ↓bnd (z_wayAt w0 g.1 hjw), hne, ↓bnd (z_isWithin _ _ _ _), bI_0, h2, Int32.reduceToInt, Int64.reduceToInt, tN9, tN299, tN99999, tN9999, tN99, tL9, tL299, tL99999, tL9999, tL99, i1_0, i0_1, ↓bnd hp]
  · have hW : M_isWay 159 (nI j) (pI (pI (pI (pI h 83 n (nI j)) 84 n (V h 65 0)) 85 n v) 65 6 (nI (n + 1))) = some (bI (inI (nI j) 0 ((V h 65 4).toInt - 1)), (pI (pI (pI (pI h 83 n (nI j)) 84 n (V h 65 0)) 85 n v) 65 6 (nI (n + 1)))) := by
      rw [M_isWay_eq]
      simp only [gS_pI, gR_pI, wS, wR, ↓reduceIte]
      simp only [gI_pI, gI_pL, gI_pR, gL_pI, gL_pL, gL_pR, gR_pI, gR_pL, gR_pR, gS_pI, gS_pL, gS_pR, ↓reduceIte, Nat.reduceEqDiff, decide_eq_true_eq, Option.bind_some, false_and, and_false, true_and, and_true, and_self, Nat.reduceAdd, not_false_eq_true, not_true_eq_false, wS, wR, inI, ite_self, Classical.not_not, inI, V_pI, u2, Nat.reduceLeDiff, nS, nP, nM, nD, nF, nW', e, ↓bnd (zm_in _ _ _ _), bI_1, if_true, Int32.toInt_toInt64, sub1 g.1.2.2.2.2.1, Int32.reduceToInt, Int64.reduceToInt, tN9, tN299, tN99999, tN9999, tN99, tL9, tL299, tL99999, tL9999, tL99, i1_0, i0_1]
    rw [M_say_eq]
    simp only [gS_pI, gR_pI, wS, wR, ↓reduceIte]
    simp (disch := omega) only [gI_pI, gI_pL, gI_pR, gL_pI, gL_pL, gL_pR, gR_pI, gR_pL, gR_pR, gS_pI, gS_pL, gS_pR, ↓reduceIte, Nat.reduceEqDiff, decide_eq_true_eq, Option.bind_some, false_and, and_false, true_and, and_true, and_self, Nat.reduceAdd, not_false_eq_true, not_true_eq_false, wS, wR, inI, ite_self, Classical.not_not, inI, V_pI, u2, Nat.reduceLeDiff, nS, nP, nM, nD, nF, nW', e, ↓bnd hW, ↓bnd (zm_in _ _ _ _), bI_0, h1, h2, Int32.toInt_toInt64, Int32.reduceToInt, Int64.reduceToInt, tN9, tN299, tN99999, tN9999, tN99, tL9, tL299, tL99999, tL9999, tL99, i1_0, i0_1, hn, h3, show (40 : Int32) = nI 40 from rfl, nJ_eq, ax_in, nJ_nn, nJ_n, nJ_p1, e1, h9]
  · unfold EQ
    simp (disch := omega) only [gI_pI, gI_pL, gI_pR, gL_pI, gL_pL, gL_pR, gR_pI, gR_pL, gR_pR, gS_pI, gS_pL, gS_pR, ↓reduceIte, Nat.reduceEqDiff, decide_eq_true_eq, Option.bind_some, false_and, and_false, true_and, and_true, and_self, Nat.reduceAdd, not_false_eq_true, not_true_eq_false, wS, wR, inI, ite_self, Classical.not_not, inI, V_pI, u2, Nat.reduceLeDiff, nS, nP, nM, nD, nF, nW', e, implies_true]
    exact e27e e0
  · obtain ⟨g1, g2, g3, g4, g5, g6, g7⟩ := g
    unfold GV GC GS GP GI GD GF GK at *
    simp (disch := omega) only [gI_pI, gI_pL, gI_pR, gL_pI, gL_pL, gL_pR, gR_pI, gR_pL, gR_pR, gS_pI, gS_pL, gS_pR, ↓reduceIte, Nat.reduceEqDiff, decide_eq_true_eq, Option.bind_some, false_and, and_false, true_and, and_true, and_self, Nat.reduceAdd, not_false_eq_true, not_true_eq_false, wS, wR, inI, ite_self, Classical.not_not, inI, V_pI, u2, Nat.reduceLeDiff, nS, nP, nM, nD, nF, nW', sameK, nJ_i]
    refine ⟨⟨g1.1, g1.2.1, g1.2.2.1, g1.2.2.2.1, g1.2.2.2.2.1, by omega, g1.2.2.2.2.2.2⟩, g2, g3, g4, fun q hq => ?_, g6, g7⟩
    by_cases hqk : q = n
    · simp only [hqk, ↓reduceIte]; exact ⟨h1, ⟨g1.1.1, Int.le_refl _⟩, h2⟩
    · simp only [hqk, ↓reduceIte]; exact g5 q (by omega)
  · simp only [gI_pI, gI_pL, gI_pR, gL_pI, gL_pL, gL_pR, gR_pI, gR_pL, gR_pR, gS_pI, gS_pL, gS_pR, ↓reduceIte, Nat.reduceEqDiff, decide_eq_true_eq, Option.bind_some, false_and, and_false, true_and, and_true, and_self, Nat.reduceAdd, not_false_eq_true, not_true_eq_false, wS, wR, inI, ite_self, Classical.not_not, inI, V_pI, u2, Nat.reduceLeDiff, nS, nP, nM, nD, nF, nW']
