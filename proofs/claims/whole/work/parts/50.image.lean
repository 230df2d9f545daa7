/-! ways by number; say; image -/
section
theorem z_wayAt {h : ax_H} (w : ok h) (g : GC (V h)) {j : Nat} (hj : j < nW' (V h)) : Bk_wayAt 65 (nI j) h = some (gR h 82 j, h) := by
  have hcn := cnts g
  obtain ⟨wS, wR, wG, wN⟩ := w
  have hj2 : j < 10 := by omega
  have hc : 0 ≤ (nI j).toInt ∧ (nI j).toInt ≤ (V h 65 4).toInt - 1 := by rw [nJ_i (by omega)]; omega
  rw [Bk_wayAt_eq]
  try simp only [wS, wR, ↓reduceIte]
  simp (disch := omega) only [gI_pI, gI_pL, gI_pR, gL_pI, gL_pL, gL_pR, gR_pI, gR_pL, gR_pR, gS_pI, gS_pL, gS_pR, ↓reduceIte, Nat.reduceEqDiff, decide_eq_true_eq, Option.bind_some, false_and, and_false, true_and, and_true, and_self, Nat.reduceAdd, not_false_eq_true, not_true_eq_false, wS, wR, inI, ite_self, Classical.not_not, cV65, cV66, cV67, cV68, cV69, cV70, cV71, cV72, cV73, cV74, cV75, cV76, cV77, cV78, cV79, cV80, cV81, cV82, cV83, cV84, cV85, cV86, cV87, cV88, cV89, cV90, ↓bnd (z_isWithin _ _ _ _), sub1 g.2.2.2.2.1, bI_0, Int32.reduceToInt, Int64.reduceToInt, tN9, tN299, tN99999, tN9999, tN99, tL9, tL299, tL99999, tL9999, tL99, i1_0, i0_1, hc, ax_in, nJ_nn, nJ_n, hj2]
theorem z_wayNo {h : ax_H} (w : ok h) (g : GC (V h)) {a : Int32} (ha : ¬ (0 ≤ a.toInt ∧ a.toInt ≤ (V h 65 4).toInt - 1)) : Bk_wayAt 65 a h = some (0, h) := by
  obtain ⟨wS, wR, wG, wN⟩ := w
  rw [Bk_wayAt_eq]
  try simp only [wS, wR, ↓reduceIte]
  simp (disch := omega) only [gI_pI, gI_pL, gI_pR, gL_pI, gL_pL, gL_pR, gR_pI, gR_pL, gR_pR, gS_pI, gS_pL, gS_pR, ↓reduceIte, Nat.reduceEqDiff, decide_eq_true_eq, Option.bind_some, false_and, and_false, true_and, and_true, and_self, Nat.reduceAdd, not_false_eq_true, not_true_eq_false, wS, wR, inI, ite_self, Classical.not_not, cV65, cV66, cV67, cV68, cV69, cV70, cV71, cV72, cV73, cV74, cV75, cV76, cV77, cV78, cV79, cV80, cV81, cV82, cV83, cV84, cV85, cV86, cV87, cV88, cV89, cV90, ↓bnd (z_isWithin _ _ _ _), sub1 g.2.2.2.2.1, bI_0, Int32.reduceToInt, Int64.reduceToInt, tN9, tN299, tN99999, tN9999, tN99, tL9, tL299, tL99999, tL9999, tL99, i1_0, i0_1, ha]
end
theorem st_say {h : ax_H} (i : I0 h) (hw : ∀ j, j < nW' (V h) → gR h 82 j ≠ 0) (a v : Int32) : stp (B_say 64 a v h) (M_say 159 a v) (stl h) := by
  obtain ⟨w, e, g⟩ := i
  have w0 := w
  obtain ⟨wS, wR, wG, wN⟩ := w
  have e0 := e
  unfold EQ at e
  have hcn := cnts g.1
  obtain ⟨n, hn, hn2, hn3, hn4⟩ := nI_ex g.1.2.2.2.2.2.1
  have hnD : nD (V h) = n := by show (V h 65 6).toInt.toNat = n; omega
  by_cases h1 : 0 ≤ a.toInt ∧ a.toInt ≤ (V h 65 4).toInt - 1
  case neg =>
    refine ⟨-1, h, h, ?_, ?_, ⟨w0, e0, g⟩, fr_rf _ _, fr_rf _ _, rfl⟩
    · rw [B_say_eq]
      try simp only [wS, wR, ↓reduceIte]
      simp only [gI_pI, gI_pL, gI_pR, gL_pI, gL_pL, gL_pR, gR_pI, gR_pL, gR_pR, gS_pI, gS_pL, gS_pR, ↓reduceIte, Nat.reduceEqDiff, decide_eq_true_eq, Option.bind_some, false_and, and_false, true_and, and_true, and_self, Nat.reduceAdd, not_false_eq_true, not_true_eq_false, wS, wR, inI, ite_self, Classical.not_not, ↓bnd (z_wayNo w0 g.1 h1)]
    · rw [M_say_eq]
      try simp only [wS, wR, ↓reduceIte]
      simp only [gI_pI, gI_pL, gI_pR, gL_pI, gL_pL, gL_pR, gR_pI, gR_pL, gR_pR, gS_pI, gS_pL, gS_pR, ↓reduceIte, Nat.reduceEqDiff, decide_eq_true_eq, Option.bind_some, false_and, and_false, true_and, and_true, and_self, Nat.reduceAdd, not_false_eq_true, not_true_eq_false, wS, wR, inI, ite_self, Classical.not_not, ↓bnd (zm_isWay w0 g.1 e0 _), bI_0, h1]
  obtain ⟨j, rfl, hj, hj2, hj3⟩ := nI_ex h1
  have hjw : j < nW' (V h) := by omega
  have hne := hw j hjw
  by_cases h2 : -99999 ≤ v.toInt ∧ v.toInt ≤ 99999
  case neg =>
    refine ⟨-1, h, h, ?_, ?_, ⟨w0, e0, g⟩, fr_rf _ _, fr_rf _ _, rfl⟩
    · rw [B_say_eq]
      try simp only [wS, wR, ↓reduceIte]
      simp only [gI_pI, gI_pL, gI_pR, gL_pI, gL_pL, gL_pR, gR_pI, gR_pL, gR_pR, gS_pI, gS_pL, gS_pR, ↓reduceIte, Nat.reduceEqDiff, decide_eq_true_eq, Option.bind_some, false_and, and_false, true_and, and_true, and_self, Nat.reduceAdd, not_false_eq_true, not_true_eq_false, wS, wR, inI, ite_self, Classical.not_not, ↓bnd (z_wayAt w0 g.1 hjw), hne, ↓bnd (z_isWithin _ _ _ _), bI_0, h2, Int32.reduceToInt, Int64.reduceToInt, tN9, tN299, tN99999, tN9999, tN99, tL9, tL299, tL99999, tL9999, tL99, i1_0, i0_1]
    · rw [M_say_eq]
      try simp only [wS, wR, ↓reduceIte]
      simp only [gI_pI, gI_pL, gI_pR, gL_pI, gL_pL, gL_pR, gR_pI, gR_pL, gR_pR, gS_pI, gS_pL, gS_pR, ↓reduceIte, Nat.reduceEqDiff, decide_eq_true_eq, Option.bind_some, false_and, and_false, true_and, and_true, and_self, Nat.reduceAdd, not_false_eq_true, not_true_eq_false, wS, wR, inI, ite_self, Classical.not_not, ↓bnd (zm_isWay w0 g.1 e0 _), bI_0, h1, ↓bnd (zm_in _ _ _ _), h2, Int32.toInt_toInt64, Int32.reduceToInt, Int64.reduceToInt, tN9, tN299, tN99999, tN9999, tN99, tL9, tL299, tL99999, tL9999, tL99, i1_0, i0_1]
  by_cases h3 : n = 40
  case pos =>
    refine ⟨-1, h, h, ?_, ?_, ⟨w0, e0, g⟩, fr_rf _ _, fr_rf _ _, rfl⟩
    · rw [B_say_eq]
      try simp only [wS, wR, ↓reduceIte]
      simp (disch := omega) only [gI_pI, gI_pL, gI_pR, gL_pI, gL_pL, gL_pR, gR_pI, gR_pL, gR_pR, gS_pI, gS_pL, gS_pR, ↓reduceIte, Nat.reduceEqDiff, decide_eq_true_eq, Option.bind_some, false_and, and_false, true_and, and_true, and_self, Nat.reduceAdd, not_false_eq_true, not_true_eq_false, wS, wR, inI, ite_self, Classical.not_not, cV65, cV66, cV67, cV68, cV69, cV70, cV71, cV72, cV73, cV74, cV75, cV76, cV77, cV78, cV79, cV80, cV81, cV82, cV83, cV84, cV85, cV86, cV87, cV88, cV89, cV90, ↓bnd (z_wayAt w0 g.1 hjw), hne, ↓bnd (z_isWithin _ _ _ _), bI_0, h2, Int32.reduceToInt, Int64.reduceToInt, tN9, tN299, tN99999, tN9999, tN99, tL9, tL299, tL99999, tL9999, tL99, i1_0, i0_1, Bk_putSaid_eq, hn, show (40 : Int32) = nI 40 from rfl, nJ_lt, h3, Nat.lt_irrefl]
    · rw [M_say_eq]
      try simp only [wS, wR, ↓reduceIte]
      simp (disch := omega) only [gI_pI, gI_pL, gI_pR, gL_pI, gL_pL, gL_pR, gR_pI, gR_pL, gR_pR, gS_pI, gS_pL, gS_pR, ↓reduceIte, Nat.reduceEqDiff, decide_eq_true_eq, Option.bind_some, false_and, and_false, true_and, and_true, and_self, Nat.reduceAdd, not_false_eq_true, not_true_eq_false, wS, wR, inI, ite_self, Classical.not_not, e, hn, h3, show (40 : Int32) = nI 40 from rfl]
  have h9 : n < 40 := by omega
  have e1 : nI (n + 1) - 1 = nI n := nI_pred n
  refine ⟨nI n, pI (pI (pI (pI h 83 n (nI j)) 84 n (V h 65 0)) 85 n v) 65 6 (nI (n + 1)), pI (pI (pI (pI (pI (pI (pI (pI h 83 n (nI j)) 84 n (V h 65 0)) 85 n v) 65 6 (nI (n + 1))) 197 n (nI j)) 198 n v) 199 n (V h 65 0)) 159 59 (nI (n + 1)), ?_, ?_, ⟨w0, ?_, ?_⟩, fr_tr (fr_tr (fr_tr (fr_pI rfl) (fr_pI rfl)) (fr_pI rfl)) (fr_pI rfl), fr_tr (fr_tr (fr_tr (fr_tr (fr_tr (fr_tr (fr_tr (fr_pI rfl) (fr_pI rfl)) (fr_pI rfl)) (fr_pI rfl)) (fr_pI rfl)) (fr_pI rfl)) (fr_pI rfl)) (fr_pI rfl), ?_⟩
  · have hp : Bk_putSaid 65 (nI j) v h = some (nI n, pI (pI (pI (pI h 83 n (nI j)) 84 n (V h 65 0)) 85 n v) 65 6 (nI (n + 1))) := by
      rw [Bk_putSaid_eq]
      try simp only [wS, wR, ↓reduceIte]
      simp (disch := omega) only [gI_pI, gI_pL, gI_pR, gL_pI, gL_pL, gL_pR, gR_pI, gR_pL, gR_pR, gS_pI, gS_pL, gS_pR, ↓reduceIte, Nat.reduceEqDiff, decide_eq_true_eq, Option.bind_some, false_and, and_false, true_and, and_true, and_self, Nat.reduceAdd, not_false_eq_true, not_true_eq_false, wS, wR, inI, ite_self, Classical.not_not, cV65, cV66, cV67, cV68, cV69, cV70, cV71, cV72, cV73, cV74, cV75, cV76, cV77, cV78, cV79, cV80, cV81, cV82, cV83, cV84, cV85, cV86, cV87, cV88, cV89, cV90, inI, V_pI, u2, Nat.reduceLeDiff, nS, nP, nM, nD, nF, nW', hn, show (40 : Int32) = nI 40 from rfl, nJ_lt, h9, ax_in, nJ_nn, nJ_n, nJ_p1, e1]
    rw [B_say_eq]
    try simp only [wS, wR, ↓reduceIte]
    simp (disch := omega) only [gI_pI, gI_pL, gI_pR, gL_pI, gL_pL, gL_pR, gR_pI, gR_pL, gR_pR, gS_pI, gS_pL, gS_pR, ↓reduceIte, Nat.reduceEqDiff, decide_eq_true_eq, Option.bind_some, false_and, and_false, true_and, and_true, and_self, Nat.reduceAdd, not_false_eq_true, not_true_eq_false, wS, wR, inI, ite_self, Classical.not_not, cV65, cV66, cV67, cV68, cV69, cV70, cV71, cV72, cV73, cV74, cV75, cV76, cV77, cV78, cV79, cV80, cV81, cV82, cV83, cV84, cV85, cV86, cV87, cV88, cV89, cV90, ↓bnd (z_wayAt w0 g.1 hjw), hne, ↓bnd (z_isWithin _ _ _ _), bI_0, h2, Int32.reduceToInt, Int64.reduceToInt, tN9, tN299, tN99999, tN9999, tN99, tL9, tL299, tL99999, tL9999, tL99, i1_0, i0_1, ↓bnd hp]
  · have hW : M_isWay 159 (nI j) (pI (pI (pI (pI h 83 n (nI j)) 84 n (V h 65 0)) 85 n v) 65 6 (nI (n + 1))) = some (bI (inI (nI j) 0 ((V h 65 4).toInt - 1)), (pI (pI (pI (pI h 83 n (nI j)) 84 n (V h 65 0)) 85 n v) 65 6 (nI (n + 1)))) := by
      rw [M_isWay_eq]
      simp only [gS_pI, gR_pI, wS, wR, ↓reduceIte]
      simp only [gI_pI, gI_pL, gI_pR, gL_pI, gL_pL, gL_pR, gR_pI, gR_pL, gR_pR, gS_pI, gS_pL, gS_pR, ↓reduceIte, Nat.reduceEqDiff, decide_eq_true_eq, Option.bind_some, false_and, and_false, true_and, and_true, and_self, Nat.reduceAdd, not_false_eq_true, not_true_eq_false, wS, wR, inI, ite_self, Classical.not_not, inI, V_pI, u2, Nat.reduceLeDiff, nS, nP, nM, nD, nF, nW', e, ↓bnd (zm_in _ _ _ _), bI_1, if_true, Int32.toInt_toInt64, sub1 g.1.2.2.2.2.1, Int32.reduceToInt, Int64.reduceToInt, tN9, tN299, tN99999, tN9999, tN99, tL9, tL299, tL99999, tL9999, tL99, i1_0, i0_1]
    rw [M_say_eq]
    simp only [gS_pI, gR_pI, wS, wR, ↓reduceIte]
    simp (disch := omega) only [gI_pI, gI_pL, gI_pR, gL_pI, gL_pL, gL_pR, gR_pI, gR_pL, gR_pR, gS_pI, gS_pL, gS_pR, ↓reduceIte, Nat.reduceEqDiff, decide_eq_true_eq, Option.bind_some, false_and, and_false, true_and, and_true, and_self, Nat.reduceAdd, not_false_eq_true, not_true_eq_false, wS, wR, inI, ite_self, Classical.not_not, inI, V_pI, u2, Nat.reduceLeDiff, nS, nP, nM, nD, nF, nW', e, ↓bnd hW, ↓bnd (zm_in _ _ _ _), bI_0, h1, h2, Int32.toInt_toInt64, Int32.reduceToInt, Int64.reduceToInt, tN9, tN299, tN99999, tN9999, tN99, tL9, tL299, tL99999, tL9999, tL99, i1_0, i0_1, hn, h3, show (40 : Int32) = nI 40 from rfl, nJ_eq, ax_in, nJ_nn, nJ_n, nJ_p1, e1, h9]
  · unfold EQ
    simp (disch := omega) only [gI_pI, gI_pL, gI_pR, gL_pI, gL_pL, gL_pR, gR_pI, gR_pL, gR_pR, gS_pI, gS_pL, gS_pR, ↓reduceIte, Nat.reduceEqDiff, decide_eq_true_eq, Option.bind_some, false_and, and_false, true_and, and_true, and_self, Nat.reduceAdd, not_false_eq_true, not_true_eq_false, wS, wR, inI, ite_self, Classical.not_not, inI, V_pI, u2, Nat.reduceLeDiff, nS, nP, nM, nD, nF, nW', e, implies_true]
    exact e27e e0
  · obtain ⟨g1, g2, g3, g4, g5, g6, g7⟩ := g
    unfold GV GC GS GP GI GD GF GK at *
    simp (disch := omega) only [gI_pI, gI_pL, gI_pR, gL_pI, gL_pL, gL_pR, gR_pI, gR_pL, gR_pR, gS_pI, gS_pL, gS_pR, ↓reduceIte, Nat.reduceEqDiff, decide_eq_true_eq, Option.bind_some, false_and, and_false, true_and, and_true, and_self, Nat.reduceAdd, not_false_eq_true, not_true_eq_false, wS, wR, inI, ite_self, Classical.not_not, inI, V_pI, u2, Nat.reduceLeDiff, nS, nP, nM, nD, nF, nW', sameK, nJ_i]
    refine ⟨⟨g1.1, g1.2.1, g1.2.2.1, g1.2.2.2.1, g1.2.2.2.2.1, by omega, g1.2.2.2.2.2.2⟩, g2, g3, g4, fun q hq => ?_, g6, g7⟩
    by_cases hqk : q = n
    · simp only [hqk, ↓reduceIte]; exact ⟨h1, ⟨g1.1.1, Int.le_refl _⟩, h2⟩
    · simp only [hqk, ↓reduceIte]; exact g5 q (by omega)
  · simp only [gI_pI, gI_pL, gI_pR, gL_pI, gL_pL, gL_pR, gR_pI, gR_pL, gR_pR, gS_pI, gS_pL, gS_pR, ↓reduceIte, Nat.reduceEqDiff, decide_eq_true_eq, Option.bind_some, false_and, and_false, true_and, and_true, and_self, Nat.reduceAdd, not_false_eq_true, not_true_eq_false, wS, wR, inI, ite_self, Classical.not_not, inI, V_pI, u2, Nat.reduceLeDiff, nS, nP, nM, nD, nF, nW']
/-! image -/
section
theorem z_put37 {h : ax_H} (w : ok h) {n : Nat} (hn : gI h 74 0 = nI n) (hn2 : n < 100) (p s d x y t : Int32) : Im_put_37 74 p s d x y t h = some (nI n, pI (pI (pI (pI (pI (pI (pI (pI h 75 n p) 76 n s) 77 n d) 78 n x) 79 n y) 80 n t) 81 n 10000) 74 0 (nI (n + 1))) := by
  obtain ⟨wS, wR, wG, wN⟩ := w
  have e1 : nI (n + 1) - 1 = nI n := nI_pred n
  rw [Im_put_37_eq]
  try simp only [wS, wR, ↓reduceIte]
  simp (disch := omega) only [gI_pI, gI_pL, gI_pR, gL_pI, gL_pL, gL_pR, gR_pI, gR_pL, gR_pR, gS_pI, gS_pL, gS_pR, ↓reduceIte, Nat.reduceEqDiff, decide_eq_true_eq, Option.bind_some, false_and, and_false, true_and, and_true, and_self, Nat.reduceAdd, not_false_eq_true, not_true_eq_false, wS, wR, inI, ite_self, Classical.not_not, hn, ax_in, nJ_nn, nJ_n, nJ_p1, e1, hn2]
theorem zm_put {h : ax_H} (w : ok h) {n : Nat} (hn : gI h 159 4 = nI n) (hn2 : n < 100) {p s d x y : Int32} (hp : M_isPlate 159 p h = some (1, h)) (hs : M_isStar 159 s h = some (1, h)) (hd : 0 ≤ d.toInt ∧ d.toInt ≤ 7) (hx : -299 ≤ x.toInt ∧ x.toInt ≤ 299) (hy : -299 ≤ y.toInt ∧ y.toInt ≤ 299) :
    M_image 159 p s d x y h = some (nI n, pI (pI (pI (pI (pI (pI (pI h 166 n p) 167 n s) 168 n d) 169 n x) 170 n y) 171 n (gI h 159 1)) 159 4 (nI (n + 1))) := by
  obtain ⟨wS, wR, wG, wN⟩ := w
  have e1 : nI (n + 1) - 1 = nI n := nI_pred n
  have h100 : ¬ n = 100 := by omega
  rw [M_image_eq]
  try simp only [wS, wR, ↓reduceIte]
  simp (disch := omega) only [gI_pI, gI_pL, gI_pR, gL_pI, gL_pL, gL_pR, gR_pI, gR_pL, gR_pR, gS_pI, gS_pL, gS_pR, ↓reduceIte, Nat.reduceEqDiff, decide_eq_true_eq, Option.bind_some, false_and, and_false, true_and, and_true, and_self, Nat.reduceAdd, not_false_eq_true, not_true_eq_false, wS, wR, inI, ite_self, Classical.not_not, hn, show (100 : Int32) = nI 100 from rfl, nJ_eq, h100, ↓bnd hp, ↓bnd hs, ↓bnd (zm_isHand _ _), ↓bnd (zm_in _ _ _ _), bI_0, hd, hx, hy, Int32.toInt_toInt64, Int32.reduceToInt, Int64.reduceToInt, tN9, tN299, tN99999, tN9999, tN99, tL9, tL299, tL99999, tL9999, tL99, i1_0, i0_1, ax_in, nJ_nn, nJ_n, nJ_p1, e1, hn2]
end
/-- a row more of images, and the one before that counts no more -/
theorem GI_push {V W : BV} {n : Nat} (g : GI V) (gc : GC V) (hn : V 74 0 = nI n) (hn2 : n < 100) {p s d x y : Int32} (hp : inI p 0 ((V 70 0).toInt - 1)) (hs : inI s 0 ((V 66 0).toInt - 1)) (hd : inI d 0 7) (hx : inI x (-299) 299) (hy : inI y (-299) 299)
    (w70 : W 70 0 = V 70 0) (w66 : W 66 0 = V 66 0) (w65 : W 65 0 = V 65 0) (w74 : W 74 0 = nI (n + 1))
    (w75 : ∀ i, W 75 i = if i = n then p else V 75 i) (w76 : ∀ i, W 76 i = if i = n then s else V 76 i) (w77 : ∀ i, W 77 i = if i = n then d else V 77 i) (w78 : ∀ i, W 78 i = if i = n then x else V 78 i) (w79 : ∀ i, W 79 i = if i = n then y else V 79 i) (w80 : ∀ i, W 80 i = if i = n then V 65 0 else V 80 i)
    (w81 : ∀ i, W 81 i = if i = n then 10000 else if nI i = firstI (fun i => keyB V p s d i && kvB V (V 65 0) i) n 0 then V 65 0 else V 81 i) : GI W := by
  have hcn := cnts gc
  have hnow := gc.1
  have hM : nM V = n := by show (V 74 0).toInt.toNat = n; rw [hn, nJ_i (by omega)]; omega
  have hM' : nM W = n + 1 := by show (W 74 0).toInt.toNat = n + 1; rw [w74, nJ_i (by omega)]; omega
  have hold : ∀ i, i < n → W 75 i = V 75 i ∧ W 76 i = V 76 i ∧ W 77 i = V 77 i ∧ W 78 i = V 78 i ∧ W 79 i = V 79 i ∧ W 80 i = V 80 i := fun i hi => by
    have : ¬ i = n := by omega
    simp only [w75, w76, w77, w78, w79, w80, this, ↓reduceIte, and_self]
  have hnew : W 75 n = p ∧ W 76 n = s ∧ W 77 n = d ∧ W 78 n = x ∧ W 79 n = y ∧ W 80 n = V 65 0 ∧ W 81 n = 10000 := by
    simp only [w75, w76, w77, w78, w79, w80, w81, ↓reduceIte, and_self]
  have g0 := g
  obtain ⟨g1, g2, g3⟩ := g
  rw [hM] at g1 g2 g3
  refine ⟨fun i hi => ?_, fun i j h1 h2 => ?_, fun i hi => ?_⟩
  · rw [hM'] at hi
    rw [w70, w66, w65]
    by_cases hin : i = n
    · subst hin
      obtain ⟨a1, a2, a3, a4, a5, a6, -⟩ := hnew
      rw [a1, a2, a3, a4, a5, a6]
      exact ⟨hp, hs, hd, hx, hy, hnow.1, Int.le_refl _⟩
    · obtain ⟨a1, a2, a3, a4, a5, a6⟩ := hold i (by omega)
      rw [a1, a2, a3, a4, a5, a6]
      exact g1 i (by omega)
  · rw [hM'] at h2
    rw [(hold i (by omega)).2.2.2.2.2]
    by_cases hjn : j = n
    · subst hjn
      rw [hnew.2.2.2.2.2.1]
      have := g1 i (by omega)
      omega
    · rw [(hold j (by omega)).2.2.2.2.2]
      exact g2 i j h1 (by omega)
  · rw [hM'] at hi ⊢
    by_cases hin : i = n
    · subst hin
      exact Or.inl ⟨hnew.2.2.2.2.2.2, fun k h1 h2 => by omega⟩
    have hi' : i < n := by omega
    obtain ⟨a1, a2, a3, a4, a5, a6⟩ := hold i hi'
    have hsK : ∀ k, k < n → (sameK W i k ↔ sameK V i k) := fun k hk => by
      obtain ⟨b1, b2, b3, -⟩ := hold k hk
      simp only [sameK, a1, a2, a3, b1, b2, b3]
    have hsN : sameK W i n ↔ keyB V p s d i = true := by
      simp only [sameK, a1, a2, a3, hnew.1, hnew.2.1, hnew.2.2.1, keyB, decide_eq_true_eq]
    by_cases hf : nI i = firstI (fun i => keyB V p s d i && kvB V (V 65 0) i) n 0
    · rcases firstI_ne (P := fun i => keyB V p s d i && kvB V (V 65 0) i) n 0 (by omega) with q | ⟨m, q, m1, m2, m3⟩
      · rw [q] at hf; exact absurd hf (nI_neg1 (by omega))
      · rw [q, nJ_eq (by omega) (by omega)] at hf
        subst hf
        rw [Bool.and_eq_true] at m3
        have hk := (kv_iff g0 (kn := V 65 0) (by omega) (i := i) (by omega)).mp m3.2
        rw [hM] at hk
        refine Or.inr ⟨n, by omega, by omega, hsN.mpr m3.1, ?_, fun k h1 h2 hs => ?_⟩
        · rw [w81, if_neg hin, q, if_pos rfl, hnew.2.2.2.2.2.1]
        · have := hk.2 k h1 (by omega) ((hsK k (by omega)).mp hs)
          have := g1 k (by omega)
          omega
    · rw [w81, if_neg hin, if_neg hf]
      rcases g3 i hi' with ⟨c1, c2⟩ | ⟨j, c1, c2, c3, c4, c5⟩
      · refine Or.inl ⟨c1, fun k h1 h2 hs => ?_⟩
        by_cases hkn : k = n
        · subst hkn
          have hkey := hsN.mp hs
          have hkv : kvB V (V 65 0) i = true := by
            have := g1 i hi'
            unfold kvB
            rw [decide_eq_true_eq, c1]
            exact ⟨by omega, by show _ < (10000 : Int); omega⟩
          -- it is the one that is found
          have hfi : firstI (fun i => keyB V p s d i && kvB V (V 65 0) i) k 0 = nI i := by
            refine firstI_some (m := i) (by rw [hkey, hkv]; rfl) k 0 (by omega) (by omega) fun j _ hj => ?_
            cases hb : (keyB V p s d j && kvB V (V 65 0) j) with
            | false => rfl
            | true =>
              rw [Bool.and_eq_true] at hb
              have hkj := (kv_iff g0 (kn := V 65 0) (by omega) (i := j) (by omega)).mp hb.2
              have hsj : sameK V j i := by
                have q1 := hb.1
                simp only [keyB, decide_eq_true_eq] at q1 hkey
                exact ⟨q1.1.trans hkey.1.symm, q1.2.1.trans hkey.2.1.symm, q1.2.2.trans hkey.2.2.symm⟩
              have := hkj.2 i hj (by omega) hsj
              have := g1 i hi'
              omega
          exact hf hfi.symm
        · exact c2 k h1 (by omega) ((hsK k (by omega)).mp hs)
      · refine Or.inr ⟨j, c1, by omega, (hsK j c2).mpr c3, ?_, fun k h1 h2 hs => c5 k h1 h2 ((hsK k (by omega)).mp hs)⟩
        rw [c4, (hold j c2).2.2.2.2.2]
