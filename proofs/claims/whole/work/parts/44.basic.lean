/-! clock, star, plate: what changes the live rows -/
theorem V_pI (h : ax_H) (a k : Nat) (v : Int32) : V (pI h a k v) = if 65 ≤ a ∧ a ≤ 90 then u2 (V h) a k v else V h := by
  by_cases ha : 65 ≤ a ∧ a ≤ 90
  · rw [if_pos ha]
    funext x y
    simp only [V, u2, gI_pI]
    by_cases hx : x = a ∧ y = k
    · obtain ⟨rfl, rfl⟩ := hx; simp [ha]
    · simp [hx]
  · rw [if_neg ha]
    funext x y
    simp only [V, gI_pI]
    by_cases hx : x = a
    · subst hx; simp [ha]
    · simp [hx]
theorem fr_c {S : Nat → Nat → Bool} {h h1 : ax_H} {a k : Nat} {v : Int32} (q : fr S h h1) (z : S a k = true) : fr S h (pI h1 a k v) := fr_tr q (fr_pI z)
/-- live rows -/
def Sl (a k : Nat) : Bool := decide ((65 ≤ a ∧ a ≤ 90) ∨ (a = 159 ∧ ((1 ≤ k ∧ k ≤ 4) ∨ k = 59 ∨ k = 63)) ∨ (160 ≤ a ∧ a ≤ 171) ∨ (196 ≤ a ∧ a ≤ 203))
def stp (P : Option (Int32 × ax_H)) (Q : ax_H → Option (Int32 × ax_H)) (R : ax_H → ax_H → Prop) : Prop := ∃ v h1 h2, P = some (v, h1) ∧ Q h1 = some (v, h2) ∧ R h1 h2
abbrev stl (h h1 h2 : ax_H) : Prop := I0 h2 ∧ fr Sl h h1 ∧ fr Sl h h2 ∧ V h2 65 4 = V h 65 4
theorem nI_tN {x : Int32} {n : Nat} (h : x = nI n) (hn : n < 2147483648) : x.toInt.toNat = n := by rw [h, nJ_i hn]; rfl
theorem st_clock {h : ax_H} (i : I0 h) (a : Int32) : stp (B_clock 64 a h) (M_clock 159 a) (stl h) := by
  obtain ⟨w, e, g⟩ := i
  have w0 := w
  obtain ⟨wS, wR, wG, wN⟩ := w
  have e0 := e
  unfold EQ at e
  by_cases hc : (V h 65 0).toInt ≤ a.toInt ∧ a.toInt ≤ 9999
  · refine ⟨1, pI h 65 0 a, pI (pI h 65 0 a) 159 1 a, ?_, ?_, ⟨w0, ?_, ?_⟩, fr_pI rfl, fr_tr (fr_pI rfl) (fr_pI rfl), ?_⟩
    · rw [B_clock_eq]
      simp only [gI_pI, gI_pL, gI_pR, gL_pI, gL_pL, gL_pR, gR_pI, gR_pL, gR_pR, gS_pI, gS_pL, gS_pR, ↓reduceIte, Nat.reduceEqDiff, decide_eq_true_eq, Option.bind_some, false_and, and_false, true_and, and_true, and_self, Nat.reduceAdd, not_false_eq_true, not_true_eq_false, wS, wR, cV65, cV66, cV67, cV68, cV69, cV70, cV71, cV72, cV73, cV74, cV75, cV76, cV77, cV78, cV79, cV80, cV81, cV82, cV83, cV84, cV85, cV86, cV87, cV88, cV89, cV90, i32_lt, i32_le, Int32.reduceToInt]
      rw [if_neg (by omega), if_pos (by omega)]
    · rw [M_clock_eq]
      simp only [gI_pI, gI_pL, gI_pR, gL_pI, gL_pL, gL_pR, gR_pI, gR_pL, gR_pR, gS_pI, gS_pL, gS_pR, ↓reduceIte, Nat.reduceEqDiff, decide_eq_true_eq, Option.bind_some, false_and, and_false, true_and, and_true, and_self, Nat.reduceAdd, not_false_eq_true, not_true_eq_false, wS, wR, zm_in, Int32.toInt_toInt64, e, bI_0, Int64.reduceToInt]
      rw [if_pos (by omega)]
    · unfold EQ
      simp only [gI_pI, gI_pL, gI_pR, gL_pI, gL_pL, gL_pR, gR_pI, gR_pL, gR_pR, gS_pI, gS_pL, gS_pR, ↓reduceIte, Nat.reduceEqDiff, decide_eq_true_eq, Option.bind_some, false_and, and_false, true_and, and_true, and_self, Nat.reduceAdd, not_false_eq_true, not_true_eq_false, wS, wR, V_pI, u2, e, Nat.reduceLeDiff, implies_true]
      exact e.2.2.2.2.2.2.2.2.2.2.2.2.2.2.2.2.2.2.2.2.2.2.2.2.2.2
    · obtain ⟨g1, g2, g3, g4, g5, g6, g7⟩ := g
      unfold GV GC GS GP GI GD GF GK at *
      simp only [gI_pI, gI_pL, gI_pR, gL_pI, gL_pL, gL_pR, gR_pI, gR_pL, gR_pR, gS_pI, gS_pL, gS_pR, ↓reduceIte, Nat.reduceEqDiff, decide_eq_true_eq, Option.bind_some, false_and, and_false, true_and, and_true, and_self, Nat.reduceAdd, not_false_eq_true, not_true_eq_false, wS, wR, V_pI, u2, Nat.reduceLeDiff]
      refine ⟨⟨⟨by omega, by omega⟩, g1.2⟩, g2, g3, ⟨fun i hi => ?_, g4.2⟩, fun j hj => ?_, g6, g7⟩
      · have := g4.1 i hi
        omega
      · have := g5 j hj
        omega
    · simp only [V_pI, u2, gI_pI, gI_pL, gI_pR, gL_pI, gL_pL, gL_pR, gR_pI, gR_pL, gR_pR, gS_pI, gS_pL, gS_pR, ↓reduceIte, Nat.reduceEqDiff, decide_eq_true_eq, Option.bind_some, false_and, and_false, true_and, and_true, and_self, Nat.reduceAdd, not_false_eq_true, not_true_eq_false, wS, wR, Nat.reduceLeDiff]
  · refine ⟨0, h, h, ?_, ?_, ⟨w0, e0, g⟩, fr_rf _ _, fr_rf _ _, rfl⟩
    · rw [B_clock_eq]
      simp only [gI_pI, gI_pL, gI_pR, gL_pI, gL_pL, gL_pR, gR_pI, gR_pL, gR_pR, gS_pI, gS_pL, gS_pR, ↓reduceIte, Nat.reduceEqDiff, decide_eq_true_eq, Option.bind_some, false_and, and_false, true_and, and_true, and_self, Nat.reduceAdd, not_false_eq_true, not_true_eq_false, wS, wR, cV65, cV66, cV67, cV68, cV69, cV70, cV71, cV72, cV73, cV74, cV75, cV76, cV77, cV78, cV79, cV80, cV81, cV82, cV83, cV84, cV85, cV86, cV87, cV88, cV89, cV90, i32_lt, i32_le, Int32.reduceToInt]
      by_cases h1 : a.toInt < (V h 65 0).toInt
      · rw [if_pos h1]
      · rw [if_neg h1, if_neg (by omega)]
    · rw [M_clock_eq]
      simp only [gI_pI, gI_pL, gI_pR, gL_pI, gL_pL, gL_pR, gR_pI, gR_pL, gR_pR, gS_pI, gS_pL, gS_pR, ↓reduceIte, Nat.reduceEqDiff, decide_eq_true_eq, Option.bind_some, false_and, and_false, true_and, and_true, and_self, Nat.reduceAdd, not_false_eq_true, not_true_eq_false, wS, wR, zm_in, Int32.toInt_toInt64, e, bI_0, Int64.reduceToInt]
      rw [if_neg (by omega)]

section
theorem z_St_put {h : ax_H} (w : ok h) {n : Nat} (hn : V h 66 0 = nI n) (hn2 : n < 30) (x y b : Int32) : St_put 66 x y b h = some (nI n, pI (pI (pI (pI h 67 n x) 68 n y) 69 n b) 66 0 (nI (n + 1))) := by
  obtain ⟨wS, wR, wG, wN⟩ := w
  have e1 : nI (n + 1) - 1 = nI n := by rw [← nJ_p1]; exact Int32.add_sub_cancel _ _
  rw [St_put_eq]
  simp (disch := omega) only [gI_pI, gI_pL, gI_pR, gL_pI, gL_pL, gL_pR, gR_pI, gR_pL, gR_pR, gS_pI, gS_pL, gS_pR, ↓reduceIte, Nat.reduceEqDiff, decide_eq_true_eq, Option.bind_some, false_and, and_false, true_and, and_true, and_self, Nat.reduceAdd, not_false_eq_true, not_true_eq_false, wS, wR, cV65, cV66, cV67, cV68, cV69, cV70, cV71, cV72, cV73, cV74, cV75, cV76, cV77, cV78, cV79, cV80, cV81, cV82, cV83, cV84, cV85, cV86, cV87, cV88, cV89, cV90, inI, V_pI, u2, Nat.reduceLeDiff, nS, nP, nM, nD, nF, nW', ax_in, hn, nJ_nn, nJ_n, nJ_p1, hn2, e1, show (30 : Int32) = nI 30 from rfl, nJ_lt]
theorem z_Pl_put {h : ax_H} (w : ok h) {n : Nat} (hn : V h 70 0 = nI n) (hn2 : n < 16) (x y b : Int32) : Pl_put 70 x y b h = some (nI n, pI (pI (pI (pI h 71 n x) 72 n y) 73 n b) 70 0 (nI (n + 1))) := by
  obtain ⟨wS, wR, wG, wN⟩ := w
  have e1 : nI (n + 1) - 1 = nI n := by rw [← nJ_p1]; exact Int32.add_sub_cancel _ _
  rw [Pl_put_eq]
  simp (disch := omega) only [gI_pI, gI_pL, gI_pR, gL_pI, gL_pL, gL_pR, gR_pI, gR_pL, gR_pR, gS_pI, gS_pL, gS_pR, ↓reduceIte, Nat.reduceEqDiff, decide_eq_true_eq, Option.bind_some, false_and, and_false, true_and, and_true, and_self, Nat.reduceAdd, not_false_eq_true, not_true_eq_false, wS, wR, cV65, cV66, cV67, cV68, cV69, cV70, cV71, cV72, cV73, cV74, cV75, cV76, cV77, cV78, cV79, cV80, cV81, cV82, cV83, cV84, cV85, cV86, cV87, cV88, cV89, cV90, inI, V_pI, u2, Nat.reduceLeDiff, nS, nP, nM, nD, nF, nW', ax_in, hn, nJ_nn, nJ_n, nJ_p1, hn2, e1, show (16 : Int32) = nI 16 from rfl, nJ_lt]
theorem z_St_full {h : ax_H} (w : ok h) {n : Nat} (hn : V h 66 0 = nI n) (hn2 : n = 30) (x y b : Int32) : St_put 66 x y b h = some (-1, h) := by
  obtain ⟨wS, wR, wG, wN⟩ := w
  rw [St_put_eq]
  simp (disch := omega) only [gI_pI, gI_pL, gI_pR, gL_pI, gL_pL, gL_pR, gR_pI, gR_pL, gR_pR, gS_pI, gS_pL, gS_pR, ↓reduceIte, Nat.reduceEqDiff, decide_eq_true_eq, Option.bind_some, false_and, and_false, true_and, and_true, and_self, Nat.reduceAdd, not_false_eq_true, not_true_eq_false, wS, wR, cV65, cV66, cV67, cV68, cV69, cV70, cV71, cV72, cV73, cV74, cV75, cV76, cV77, cV78, cV79, cV80, cV81, cV82, cV83, cV84, cV85, cV86, cV87, cV88, cV89, cV90, hn, show (30 : Int32) = nI 30 from rfl, nJ_lt]
  rw [if_neg (by omega)]
theorem z_Pl_full {h : ax_H} (w : ok h) {n : Nat} (hn : V h 70 0 = nI n) (hn2 : n = 16) (x y b : Int32) : Pl_put 70 x y b h = some (-1, h) := by
  obtain ⟨wS, wR, wG, wN⟩ := w
  rw [Pl_put_eq]
  simp (disch := omega) only [gI_pI, gI_pL, gI_pR, gL_pI, gL_pL, gL_pR, gR_pI, gR_pL, gR_pR, gS_pI, gS_pL, gS_pR, ↓reduceIte, Nat.reduceEqDiff, decide_eq_true_eq, Option.bind_some, false_and, and_false, true_and, and_true, and_self, Nat.reduceAdd, not_false_eq_true, not_true_eq_false, wS, wR, cV65, cV66, cV67, cV68, cV69, cV70, cV71, cV72, cV73, cV74, cV75, cV76, cV77, cV78, cV79, cV80, cV81, cV82, cV83, cV84, cV85, cV86, cV87, cV88, cV89, cV90, hn, show (16 : Int32) = nI 16 from rfl, nJ_lt]
  rw [if_neg (by omega)]
end
set_option maxHeartbeats 2000000 in
theorem st_star {h : ax_H} (i : I0 h) (x y b : Int32) : stp (B_star 64 x y b h) (M_star 159 x y b) (stl h) := by
  obtain ⟨w, e, g⟩ := i
  have w0 := w
  obtain ⟨wS, wR, wG, wN⟩ := w
  have e0 := e
  unfold EQ at e
  obtain ⟨n, hn, hn2, hn3, hn4⟩ := nI_ex g.1.2.1
  have hnS : nS (V h) = n := by show (V h 66 0).toInt.toNat = n; omega
  by_cases a1 : inI x (-9) 9
  case neg =>
    refine ⟨-1, h, h, ?_, ?_, ⟨w0, e0, g⟩, fr_rf _ _, fr_rf _ _, rfl⟩
    · rw [B_star_eq]
      simp (disch := omega) only [gI_pI, gI_pL, gI_pR, gL_pI, gL_pL, gL_pR, gR_pI, gR_pL, gR_pR, gS_pI, gS_pL, gS_pR, ↓reduceIte, Nat.reduceEqDiff, decide_eq_true_eq, Option.bind_some, false_and, and_false, true_and, and_true, and_self, Nat.reduceAdd, not_false_eq_true, not_true_eq_false, wS, wR, cV65, cV66, cV67, cV68, cV69, cV70, cV71, cV72, cV73, cV74, cV75, cV76, cV77, cV78, cV79, cV80, cV81, cV82, cV83, cV84, cV85, cV86, cV87, cV88, cV89, cV90, ite_self, Classical.not_not, B_star_13_eq, ↓bnd (z_isWithin _ _ _ _), bI_0, Int32.reduceToInt, Int64.reduceToInt, tN9, tN299, tN99999, tN9999, tN99, tL9, tL299, tL99999, tL9999, tL99, i1_0, i0_1, a1]
    · rw [M_star_eq]
      simp (disch := omega) only [gI_pI, gI_pL, gI_pR, gL_pI, gL_pL, gL_pR, gR_pI, gR_pL, gR_pR, gS_pI, gS_pL, gS_pR, ↓reduceIte, Nat.reduceEqDiff, decide_eq_true_eq, Option.bind_some, false_and, and_false, true_and, and_true, and_self, Nat.reduceAdd, not_false_eq_true, not_true_eq_false, wS, wR, e, ite_self, Classical.not_not, M_star_45_eq, ↓bnd (zm_in _ _ _ _), bI_0, Int32.toInt_toInt64, hn, Int32.reduceToInt, Int64.reduceToInt, tN9, tN299, tN99999, tN9999, tN99, tL9, tL299, tL99999, tL9999, tL99, i1_0, i0_1, show (30 : Int32) = nI 30 from rfl, nJ_eq, a1]
  by_cases a2 : inI y (-9) 9
  case neg =>
    refine ⟨-1, h, h, ?_, ?_, ⟨w0, e0, g⟩, fr_rf _ _, fr_rf _ _, rfl⟩
    · rw [B_star_eq]
      simp (disch := omega) only [gI_pI, gI_pL, gI_pR, gL_pI, gL_pL, gL_pR, gR_pI, gR_pL, gR_pR, gS_pI, gS_pL, gS_pR, ↓reduceIte, Nat.reduceEqDiff, decide_eq_true_eq, Option.bind_some, false_and, and_false, true_and, and_true, and_self, Nat.reduceAdd, not_false_eq_true, not_true_eq_false, wS, wR, cV65, cV66, cV67, cV68, cV69, cV70, cV71, cV72, cV73, cV74, cV75, cV76, cV77, cV78, cV79, cV80, cV81, cV82, cV83, cV84, cV85, cV86, cV87, cV88, cV89, cV90, ite_self, Classical.not_not, B_star_13_eq, ↓bnd (z_isWithin _ _ _ _), bI_0, Int32.reduceToInt, Int64.reduceToInt, tN9, tN299, tN99999, tN9999, tN99, tL9, tL299, tL99999, tL9999, tL99, i1_0, i0_1, a1, a2]
    · rw [M_star_eq]
      simp (disch := omega) only [gI_pI, gI_pL, gI_pR, gL_pI, gL_pL, gL_pR, gR_pI, gR_pL, gR_pR, gS_pI, gS_pL, gS_pR, ↓reduceIte, Nat.reduceEqDiff, decide_eq_true_eq, Option.bind_some, false_and, and_false, true_and, and_true, and_self, Nat.reduceAdd, not_false_eq_true, not_true_eq_false, wS, wR, e, ite_self, Classical.not_not, M_star_45_eq, ↓bnd (zm_in _ _ _ _), bI_0, Int32.toInt_toInt64, hn, Int32.reduceToInt, Int64.reduceToInt, tN9, tN299, tN99999, tN9999, tN99, tL9, tL299, tL99999, tL9999, tL99, i1_0, i0_1, show (30 : Int32) = nI 30 from rfl, nJ_eq, a1, a2]
  by_cases a3 : x = 0 ∧ y = 0
  case pos =>
    refine ⟨-1, h, h, ?_, ?_, ⟨w0, e0, g⟩, fr_rf _ _, fr_rf _ _, rfl⟩
    · rw [B_star_eq]
      simp (disch := omega) only [gI_pI, gI_pL, gI_pR, gL_pI, gL_pL, gL_pR, gR_pI, gR_pL, gR_pR, gS_pI, gS_pL, gS_pR, ↓reduceIte, Nat.reduceEqDiff, decide_eq_true_eq, Option.bind_some, false_and, and_false, true_and, and_true, and_self, Nat.reduceAdd, not_false_eq_true, not_true_eq_false, wS, wR, cV65, cV66, cV67, cV68, cV69, cV70, cV71, cV72, cV73, cV74, cV75, cV76, cV77, cV78, cV79, cV80, cV81, cV82, cV83, cV84, cV85, cV86, cV87, cV88, cV89, cV90, ite_self, Classical.not_not, B_star_13_eq, ↓bnd (z_isWithin _ _ _ _), bI_0, Int32.reduceToInt, Int64.reduceToInt, tN9, tN299, tN99999, tN9999, tN99, tL9, tL299, tL99999, tL9999, tL99, i1_0, i0_1, a1, a2, a3]
    · rw [M_star_eq]
      simp (disch := omega) only [gI_pI, gI_pL, gI_pR, gL_pI, gL_pL, gL_pR, gR_pI, gR_pL, gR_pR, gS_pI, gS_pL, gS_pR, ↓reduceIte, Nat.reduceEqDiff, decide_eq_true_eq, Option.bind_some, false_and, and_false, true_and, and_true, and_self, Nat.reduceAdd, not_false_eq_true, not_true_eq_false, wS, wR, e, ite_self, Classical.not_not, M_star_45_eq, ↓bnd (zm_in _ _ _ _), bI_0, Int32.toInt_toInt64, hn, Int32.reduceToInt, Int64.reduceToInt, tN9, tN299, tN99999, tN9999, tN99, tL9, tL299, tL99999, tL9999, tL99, i1_0, i0_1, show (30 : Int32) = nI 30 from rfl, nJ_eq, a1, a2, a3]
  by_cases a5 : inI b 0 99
  case neg =>
    refine ⟨-1, h, h, ?_, ?_, ⟨w0, e0, g⟩, fr_rf _ _, fr_rf _ _, rfl⟩
    · rw [B_star_eq]
      simp (disch := omega) only [gI_pI, gI_pL, gI_pR, gL_pI, gL_pL, gL_pR, gR_pI, gR_pL, gR_pR, gS_pI, gS_pL, gS_pR, ↓reduceIte, Nat.reduceEqDiff, decide_eq_true_eq, Option.bind_some, false_and, and_false, true_and, and_true, and_self, Nat.reduceAdd, not_false_eq_true, not_true_eq_false, wS, wR, cV65, cV66, cV67, cV68, cV69, cV70, cV71, cV72, cV73, cV74, cV75, cV76, cV77, cV78, cV79, cV80, cV81, cV82, cV83, cV84, cV85, cV86, cV87, cV88, cV89, cV90, ite_self, Classical.not_not, B_star_13_eq, ↓bnd (z_isWithin _ _ _ _), bI_0, Int32.reduceToInt, Int64.reduceToInt, tN9, tN299, tN99999, tN9999, tN99, tL9, tL299, tL99999, tL9999, tL99, i1_0, i0_1, a1, a2, a3, a5]
    · rw [M_star_eq]
      simp (disch := omega) only [gI_pI, gI_pL, gI_pR, gL_pI, gL_pL, gL_pR, gR_pI, gR_pL, gR_pR, gS_pI, gS_pL, gS_pR, ↓reduceIte, Nat.reduceEqDiff, decide_eq_true_eq, Option.bind_some, false_and, and_false, true_and, and_true, and_self, Nat.reduceAdd, not_false_eq_true, not_true_eq_false, wS, wR, e, ite_self, Classical.not_not, M_star_45_eq, ↓bnd (zm_in _ _ _ _), bI_0, Int32.toInt_toInt64, hn, Int32.reduceToInt, Int64.reduceToInt, tN9, tN299, tN99999, tN9999, tN99, tL9, tL299, tL99999, tL9999, tL99, i1_0, i0_1, show (30 : Int32) = nI 30 from rfl, nJ_eq, a1, a2, a3, a5]
  by_cases a6 : n = 30
  case pos =>
    refine ⟨-1, h, h, ?_, ?_, ⟨w0, e0, g⟩, fr_rf _ _, fr_rf _ _, rfl⟩
    · rw [B_star_eq]
      simp (disch := omega) only [gI_pI, gI_pL, gI_pR, gL_pI, gL_pL, gL_pR, gR_pI, gR_pL, gR_pR, gS_pI, gS_pL, gS_pR, ↓reduceIte, Nat.reduceEqDiff, decide_eq_true_eq, Option.bind_some, false_and, and_false, true_and, and_true, and_self, Nat.reduceAdd, not_false_eq_true, not_true_eq_false, wS, wR, cV65, cV66, cV67, cV68, cV69, cV70, cV71, cV72, cV73, cV74, cV75, cV76, cV77, cV78, cV79, cV80, cV81, cV82, cV83, cV84, cV85, cV86, cV87, cV88, cV89, cV90, ite_self, Classical.not_not, B_star_13_eq, ↓bnd (z_isWithin _ _ _ _), bI_0, Int32.reduceToInt, Int64.reduceToInt, tN9, tN299, tN99999, tN9999, tN99, tL9, tL299, tL99999, tL9999, tL99, i1_0, i0_1, ↓bnd (z_St_full w0 hn a6 _ _ _), a1, a2, a3, a5, a6]
    · rw [M_star_eq]
      simp (disch := omega) only [gI_pI, gI_pL, gI_pR, gL_pI, gL_pL, gL_pR, gR_pI, gR_pL, gR_pR, gS_pI, gS_pL, gS_pR, ↓reduceIte, Nat.reduceEqDiff, decide_eq_true_eq, Option.bind_some, false_and, and_false, true_and, and_true, and_self, Nat.reduceAdd, not_false_eq_true, not_true_eq_false, wS, wR, e, ite_self, Classical.not_not, M_star_45_eq, ↓bnd (zm_in _ _ _ _), bI_0, Int32.toInt_toInt64, hn, Int32.reduceToInt, Int64.reduceToInt, tN9, tN299, tN99999, tN9999, tN99, tL9, tL299, tL99999, tL9999, tL99, i1_0, i0_1, show (30 : Int32) = nI 30 from rfl, nJ_eq, a1, a2, a3, a5, a6]
  have hn5 : n < 30 := by omega
  have e1 : nI (n + 1) - 1 = nI n := by rw [← nJ_p1]; exact Int32.add_sub_cancel _ _
  refine ⟨nI n, (pI (pI (pI (pI h 67 n x) 68 n y) 69 n b) 66 0 (nI (n + 1))), (pI (pI (pI (pI (pI (pI (pI (pI h 67 n x) 68 n y) 69 n b) 66 0 (nI (n + 1))) 160 n x) 161 n y) 162 n b) 159 2 (nI (n + 1))), ?_, ?_, ⟨(ok_pI (ok_pI (ok_pI (ok_pI (ok_pI (ok_pI (ok_pI (ok_pI w0 _ _ _) _ _ _) _ _ _) _ _ _) _ _ _) _ _ _) _ _ _) _ _ _), ?_, ?_⟩, (fr_c (fr_c (fr_c (fr_c (fr_rf _ _) rfl) rfl) rfl) rfl), (fr_c (fr_c (fr_c (fr_c (fr_c (fr_c (fr_c (fr_c (fr_rf _ _) rfl) rfl) rfl) rfl) rfl) rfl) rfl) rfl), ?_⟩
  · rw [B_star_eq]
    simp (disch := omega) only [gI_pI, gI_pL, gI_pR, gL_pI, gL_pL, gL_pR, gR_pI, gR_pL, gR_pR, gS_pI, gS_pL, gS_pR, ↓reduceIte, Nat.reduceEqDiff, decide_eq_true_eq, Option.bind_some, false_and, and_false, true_and, and_true, and_self, Nat.reduceAdd, not_false_eq_true, not_true_eq_false, wS, wR, cV65, cV66, cV67, cV68, cV69, cV70, cV71, cV72, cV73, cV74, cV75, cV76, cV77, cV78, cV79, cV80, cV81, cV82, cV83, cV84, cV85, cV86, cV87, cV88, cV89, cV90, ite_self, Classical.not_not, B_star_13_eq, ↓bnd (z_isWithin _ _ _ _), bI_0, Int32.reduceToInt, Int64.reduceToInt, tN9, tN299, tN99999, tN9999, tN99, tL9, tL299, tL99999, tL9999, tL99, i1_0, i0_1, ↓bnd (z_St_put w0 hn hn5 _ _ _), e1, hn5, a1, a2, a3, a5, a6]
    by_cases q1 : x = 0
    · have q2 : ¬ y = 0 := fun q => a3 ⟨q1, q⟩
      simp only [q1, q2, not_true_eq_false, not_false_eq_true, ↓reduceIte]
    · simp only [q1, not_false_eq_true, ↓reduceIte]
  · rw [M_star_eq]
    simp (disch := omega) only [gI_pI, gI_pL, gI_pR, gL_pI, gL_pL, gL_pR, gR_pI, gR_pL, gR_pR, gS_pI, gS_pL, gS_pR, ↓reduceIte, Nat.reduceEqDiff, decide_eq_true_eq, Option.bind_some, false_and, and_false, true_and, and_true, and_self, Nat.reduceAdd, not_false_eq_true, not_true_eq_false, wS, wR, inI, V_pI, u2, Nat.reduceLeDiff, nS, nP, nM, nD, nF, nW', e, ite_self, Classical.not_not, ax_in, nJ_nn, nJ_n, nJ_p1, M_star_45_eq, ↓bnd (zm_in _ _ _ _), bI_0, Int32.toInt_toInt64, hn, Int32.reduceToInt, Int64.reduceToInt, tN9, tN299, tN99999, tN9999, tN99, tL9, tL299, tL99999, tL9999, tL99, i1_0, i0_1, show (30 : Int32) = nI 30 from rfl, nJ_eq, hn5, e1, a1, a2, a3, a5, a6]
    by_cases q1 : x = 0
    · have q2 : ¬ y = 0 := fun q => a3 ⟨q1, q⟩
      simp only [q1, q2, not_true_eq_false, not_false_eq_true, ↓reduceIte]
    · simp only [q1, not_false_eq_true, ↓reduceIte]
  · unfold EQ
    simp (disch := omega) only [gI_pI, gI_pL, gI_pR, gL_pI, gL_pL, gL_pR, gR_pI, gR_pL, gR_pR, gS_pI, gS_pL, gS_pR, ↓reduceIte, Nat.reduceEqDiff, decide_eq_true_eq, Option.bind_some, false_and, and_false, true_and, and_true, and_self, Nat.reduceAdd, not_false_eq_true, not_true_eq_false, wS, wR, inI, V_pI, u2, Nat.reduceLeDiff, nS, nP, nM, nD, nF, nW', e, implies_true]
    exact e.2.2.2.2.2.2.2.2.2.2.2.2.2.2.2.2.2.2.2.2.2.2.2.2.2.2
  · obtain ⟨g1, g2, g3, g4, g5, g6, g7⟩ := g
    unfold GV GC GS GP GI GD GF GK at *
    simp (disch := omega) only [gI_pI, gI_pL, gI_pR, gL_pI, gL_pL, gL_pR, gR_pI, gR_pL, gR_pR, gS_pI, gS_pL, gS_pR, ↓reduceIte, Nat.reduceEqDiff, decide_eq_true_eq, Option.bind_some, false_and, and_false, true_and, and_true, and_self, Nat.reduceAdd, not_false_eq_true, not_true_eq_false, wS, wR, inI, V_pI, u2, Nat.reduceLeDiff, nS, nP, nM, nD, nF, nW', nJ_i, sameK]
    refine ⟨⟨g1.1, by omega, g1.2.2⟩, fun s hs => ?_, g3, ⟨fun i hi => ?_, g4.2⟩, g5, g6, g7⟩
    · by_cases hsn : s = n
      · subst hsn; simp only [if_true]; exact ⟨a1, a2, a3, a5⟩
      · simp only [hsn, if_false]; exact g2 s (by omega)
    · have := g4.1 i hi
      omega
  · simp only [gI_pI, gI_pL, gI_pR, gL_pI, gL_pL, gL_pR, gR_pI, gR_pL, gR_pR, gS_pI, gS_pL, gS_pR, ↓reduceIte, Nat.reduceEqDiff, decide_eq_true_eq, Option.bind_some, false_and, and_false, true_and, and_true, and_self, Nat.reduceAdd, not_false_eq_true, not_true_eq_false, wS, wR, inI, V_pI, u2, Nat.reduceLeDiff, nS, nP, nM, nD, nF, nW']
set_option maxHeartbeats 2000000 in
theorem st_plate {h : ax_H} (i : I0 h) (x y b : Int32) : stp (B_plate 64 x y b h) (M_plate 159 x y b) (stl h) := by
  obtain ⟨w, e, g⟩ := i
  have w0 := w
  obtain ⟨wS, wR, wG, wN⟩ := w
  have e0 := e
  unfold EQ at e
  obtain ⟨n, hn, hn2, hn3, hn4⟩ := nI_ex g.1.2.2.1
  have hnS : nP (V h) = n := by show (V h 70 0).toInt.toNat = n; omega
  by_cases a1 : inI x 0 3
  case neg =>
    refine ⟨-1, h, h, ?_, ?_, ⟨w0, e0, g⟩, fr_rf _ _, fr_rf _ _, rfl⟩
    · rw [B_plate_eq]
      simp (disch := omega) only [gI_pI, gI_pL, gI_pR, gL_pI, gL_pL, gL_pR, gR_pI, gR_pL, gR_pR, gS_pI, gS_pL, gS_pR, ↓reduceIte, Nat.reduceEqDiff, decide_eq_true_eq, Option.bind_some, false_and, and_false, true_and, and_true, and_self, Nat.reduceAdd, not_false_eq_true, not_true_eq_false, wS, wR, cV65, cV66, cV67, cV68, cV69, cV70, cV71, cV72, cV73, cV74, cV75, cV76, cV77, cV78, cV79, cV80, cV81, cV82, cV83, cV84, cV85, cV86, cV87, cV88, cV89, cV90, ite_self, Classical.not_not, ↓bnd (z_isIsland _ _), ↓bnd (z_isWithin _ _ _ _), bI_0, Int32.reduceToInt, Int64.reduceToInt, tN9, tN299, tN99999, tN9999, tN99, tL9, tL299, tL99999, tL9999, tL99, i1_0, i0_1, a1]
    · rw [M_plate_eq]
      simp (disch := omega) only [gI_pI, gI_pL, gI_pR, gL_pI, gL_pL, gL_pR, gR_pI, gR_pL, gR_pR, gS_pI, gS_pL, gS_pR, ↓reduceIte, Nat.reduceEqDiff, decide_eq_true_eq, Option.bind_some, false_and, and_false, true_and, and_true, and_self, Nat.reduceAdd, not_false_eq_true, not_true_eq_false, wS, wR, e, ite_self, Classical.not_not, ↓bnd (zm_in _ _ _ _), bI_0, Int32.toInt_toInt64, hn, Int32.reduceToInt, Int64.reduceToInt, tN9, tN299, tN99999, tN9999, tN99, tL9, tL299, tL99999, tL9999, tL99, i1_0, i0_1, show (16 : Int32) = nI 16 from rfl, nJ_eq, a1]
  by_cases a2 : inI y 0 2
  case neg =>
    refine ⟨-1, h, h, ?_, ?_, ⟨w0, e0, g⟩, fr_rf _ _, fr_rf _ _, rfl⟩
    · rw [B_plate_eq]
      simp (disch := omega) only [gI_pI, gI_pL, gI_pR, gL_pI, gL_pL, gL_pR, gR_pI, gR_pL, gR_pR, gS_pI, gS_pL, gS_pR, ↓reduceIte, Nat.reduceEqDiff, decide_eq_true_eq, Option.bind_some, false_and, and_false, true_and, and_true, and_self, Nat.reduceAdd, not_false_eq_true, not_true_eq_false, wS, wR, cV65, cV66, cV67, cV68, cV69, cV70, cV71, cV72, cV73, cV74, cV75, cV76, cV77, cV78, cV79, cV80, cV81, cV82, cV83, cV84, cV85, cV86, cV87, cV88, cV89, cV90, ite_self, Classical.not_not, ↓bnd (z_isIsland _ _), ↓bnd (z_isWithin _ _ _ _), bI_0, Int32.reduceToInt, Int64.reduceToInt, tN9, tN299, tN99999, tN9999, tN99, tL9, tL299, tL99999, tL9999, tL99, i1_0, i0_1, a1, a2]
    · rw [M_plate_eq]
      simp (disch := omega) only [gI_pI, gI_pL, gI_pR, gL_pI, gL_pL, gL_pR, gR_pI, gR_pL, gR_pR, gS_pI, gS_pL, gS_pR, ↓reduceIte, Nat.reduceEqDiff, decide_eq_true_eq, Option.bind_some, false_and, and_false, true_and, and_true, and_self, Nat.reduceAdd, not_false_eq_true, not_true_eq_false, wS, wR, e, ite_self, Classical.not_not, ↓bnd (zm_in _ _ _ _), bI_0, Int32.toInt_toInt64, hn, Int32.reduceToInt, Int64.reduceToInt, tN9, tN299, tN99999, tN9999, tN99, tL9, tL299, tL99999, tL9999, tL99, i1_0, i0_1, show (16 : Int32) = nI 16 from rfl, nJ_eq, a1, a2]
  by_cases a5 : inI b 0 99
  case neg =>
    refine ⟨-1, h, h, ?_, ?_, ⟨w0, e0, g⟩, fr_rf _ _, fr_rf _ _, rfl⟩
    · rw [B_plate_eq]
      simp (disch := omega) only [gI_pI, gI_pL, gI_pR, gL_pI, gL_pL, gL_pR, gR_pI, gR_pL, gR_pR, gS_pI, gS_pL, gS_pR, ↓reduceIte, Nat.reduceEqDiff, decide_eq_true_eq, Option.bind_some, false_and, and_false, true_and, and_true, and_self, Nat.reduceAdd, not_false_eq_true, not_true_eq_false, wS, wR, cV65, cV66, cV67, cV68, cV69, cV70, cV71, cV72, cV73, cV74, cV75, cV76, cV77, cV78, cV79, cV80, cV81, cV82, cV83, cV84, cV85, cV86, cV87, cV88, cV89, cV90, ite_self, Classical.not_not, ↓bnd (z_isIsland _ _), ↓bnd (z_isWithin _ _ _ _), bI_0, Int32.reduceToInt, Int64.reduceToInt, tN9, tN299, tN99999, tN9999, tN99, tL9, tL299, tL99999, tL9999, tL99, i1_0, i0_1, a1, a2, a5]
    · rw [M_plate_eq]
      simp (disch := omega) only [gI_pI, gI_pL, gI_pR, gL_pI, gL_pL, gL_pR, gR_pI, gR_pL, gR_pR, gS_pI, gS_pL, gS_pR, ↓reduceIte, Nat.reduceEqDiff, decide_eq_true_eq, Option.bind_some, false_and, and_false, true_and, and_true, and_self, Nat.reduceAdd, not_false_eq_true, not_true_eq_false, wS, wR, e, ite_self, Classical.not_not, ↓bnd (zm_in _ _ _ _), bI_0, Int32.toInt_toInt64, hn, Int32.reduceToInt, Int64.reduceToInt, tN9, tN299, tN99999, tN9999, tN99, tL9, tL299, tL99999, tL9999, tL99, i1_0, i0_1, show (16 : Int32) = nI 16 from rfl, nJ_eq, a1, a2, a5]
  by_cases a6 : n = 16
  case pos =>
    refine ⟨-1, h, h, ?_, ?_, ⟨w0, e0, g⟩, fr_rf _ _, fr_rf _ _, rfl⟩
    · rw [B_plate_eq]
      simp (disch := omega) only [gI_pI, gI_pL, gI_pR, gL_pI, gL_pL, gL_pR, gR_pI, gR_pL, gR_pR, gS_pI, gS_pL, gS_pR, ↓reduceIte, Nat.reduceEqDiff, decide_eq_true_eq, Option.bind_some, false_and, and_false, true_and, and_true, and_self, Nat.reduceAdd, not_false_eq_true, not_true_eq_false, wS, wR, cV65, cV66, cV67, cV68, cV69, cV70, cV71, cV72, cV73, cV74, cV75, cV76, cV77, cV78, cV79, cV80, cV81, cV82, cV83, cV84, cV85, cV86, cV87, cV88, cV89, cV90, ite_self, Classical.not_not, ↓bnd (z_isIsland _ _), ↓bnd (z_isWithin _ _ _ _), bI_0, Int32.reduceToInt, Int64.reduceToInt, tN9, tN299, tN99999, tN9999, tN99, tL9, tL299, tL99999, tL9999, tL99, i1_0, i0_1, ↓bnd (z_Pl_full w0 hn a6 _ _ _), a1, a2, a5, a6]
    · rw [M_plate_eq]
      simp (disch := omega) only [gI_pI, gI_pL, gI_pR, gL_pI, gL_pL, gL_pR, gR_pI, gR_pL, gR_pR, gS_pI, gS_pL, gS_pR, ↓reduceIte, Nat.reduceEqDiff, decide_eq_true_eq, Option.bind_some, false_and, and_false, true_and, and_true, and_self, Nat.reduceAdd, not_false_eq_true, not_true_eq_false, wS, wR, e, ite_self, Classical.not_not, ↓bnd (zm_in _ _ _ _), bI_0, Int32.toInt_toInt64, hn, Int32.reduceToInt, Int64.reduceToInt, tN9, tN299, tN99999, tN9999, tN99, tL9, tL299, tL99999, tL9999, tL99, i1_0, i0_1, show (16 : Int32) = nI 16 from rfl, nJ_eq, a1, a2, a5, a6]
  have hn5 : n < 16 := by omega
  have e1 : nI (n + 1) - 1 = nI n := by rw [← nJ_p1]; exact Int32.add_sub_cancel _ _
  refine ⟨nI n, (pI (pI (pI (pI h 71 n x) 72 n y) 73 n b) 70 0 (nI (n + 1))), (pI (pI (pI (pI (pI (pI (pI (pI h 71 n x) 72 n y) 73 n b) 70 0 (nI (n + 1))) 163 n x) 164 n y) 165 n b) 159 3 (nI (n + 1))), ?_, ?_, ⟨(ok_pI (ok_pI (ok_pI (ok_pI (ok_pI (ok_pI (ok_pI (ok_pI w0 _ _ _) _ _ _) _ _ _) _ _ _) _ _ _) _ _ _) _ _ _) _ _ _), ?_, ?_⟩, (fr_c (fr_c (fr_c (fr_c (fr_rf _ _) rfl) rfl) rfl) rfl), (fr_c (fr_c (fr_c (fr_c (fr_c (fr_c (fr_c (fr_c (fr_rf _ _) rfl) rfl) rfl) rfl) rfl) rfl) rfl) rfl), ?_⟩
  · rw [B_plate_eq]
    simp (disch := omega) only [gI_pI, gI_pL, gI_pR, gL_pI, gL_pL, gL_pR, gR_pI, gR_pL, gR_pR, gS_pI, gS_pL, gS_pR, ↓reduceIte, Nat.reduceEqDiff, decide_eq_true_eq, Option.bind_some, false_and, and_false, true_and, and_true, and_self, Nat.reduceAdd, not_false_eq_true, not_true_eq_false, wS, wR, cV65, cV66, cV67, cV68, cV69, cV70, cV71, cV72, cV73, cV74, cV75, cV76, cV77, cV78, cV79, cV80, cV81, cV82, cV83, cV84, cV85, cV86, cV87, cV88, cV89, cV90, ite_self, Classical.not_not, ↓bnd (z_isIsland _ _), ↓bnd (z_isWithin _ _ _ _), bI_0, Int32.reduceToInt, Int64.reduceToInt, tN9, tN299, tN99999, tN9999, tN99, tL9, tL299, tL99999, tL9999, tL99, i1_0, i0_1, ↓bnd (z_Pl_put w0 hn hn5 _ _ _), e1, hn5, a1, a2, a5, a6]
  · rw [M_plate_eq]
    simp (disch := omega) only [gI_pI, gI_pL, gI_pR, gL_pI, gL_pL, gL_pR, gR_pI, gR_pL, gR_pR, gS_pI, gS_pL, gS_pR, ↓reduceIte, Nat.reduceEqDiff, decide_eq_true_eq, Option.bind_some, false_and, and_false, true_and, and_true, and_self, Nat.reduceAdd, not_false_eq_true, not_true_eq_false, wS, wR, inI, V_pI, u2, Nat.reduceLeDiff, nS, nP, nM, nD, nF, nW', e, ite_self, Classical.not_not, ax_in, nJ_nn, nJ_n, nJ_p1, ↓bnd (zm_in _ _ _ _), bI_0, Int32.toInt_toInt64, hn, Int32.reduceToInt, Int64.reduceToInt, tN9, tN299, tN99999, tN9999, tN99, tL9, tL299, tL99999, tL9999, tL99, i1_0, i0_1, show (16 : Int32) = nI 16 from rfl, nJ_eq, hn5, e1, a1, a2, a5, a6]
  · unfold EQ
    simp (disch := omega) only [gI_pI, gI_pL, gI_pR, gL_pI, gL_pL, gL_pR, gR_pI, gR_pL, gR_pR, gS_pI, gS_pL, gS_pR, ↓reduceIte, Nat.reduceEqDiff, decide_eq_true_eq, Option.bind_some, false_and, and_false, true_and, and_true, and_self, Nat.reduceAdd, not_false_eq_true, not_true_eq_false, wS, wR, inI, V_pI, u2, Nat.reduceLeDiff, nS, nP, nM, nD, nF, nW', e, implies_true]
    exact e.2.2.2.2.2.2.2.2.2.2.2.2.2.2.2.2.2.2.2.2.2.2.2.2.2.2
  · obtain ⟨g1, g2, g3, g4, g5, g6, g7⟩ := g
    unfold GV GC GS GP GI GD GF GK at *
    simp (disch := omega) only [gI_pI, gI_pL, gI_pR, gL_pI, gL_pL, gL_pR, gR_pI, gR_pL, gR_pR, gS_pI, gS_pL, gS_pR, ↓reduceIte, Nat.reduceEqDiff, decide_eq_true_eq, Option.bind_some, false_and, and_false, true_and, and_true, and_self, Nat.reduceAdd, not_false_eq_true, not_true_eq_false, wS, wR, inI, V_pI, u2, Nat.reduceLeDiff, nS, nP, nM, nD, nF, nW', nJ_i, sameK]
    refine ⟨⟨g1.1, g1.2.1, by omega, g1.2.2.2⟩, g2, fun s hs => ?_, ⟨fun i hi => ?_, g4.2⟩, g5, g6, g7⟩
    · by_cases hsn : s = n
      · subst hsn; simp only [if_true]; exact ⟨a1, a2, a5⟩
      · simp only [hsn, if_false]; exact g3 s (by omega)
    · have := g4.1 i hi
      omega
  · simp only [gI_pI, gI_pL, gI_pR, gL_pI, gL_pL, gL_pR, gR_pI, gR_pL, gR_pR, gS_pI, gS_pL, gS_pR, ↓reduceIte, Nat.reduceEqDiff, decide_eq_true_eq, Option.bind_some, false_and, and_false, true_and, and_true, and_self, Nat.reduceAdd, not_false_eq_true, not_true_eq_false, wS, wR, inI, V_pI, u2, Nat.reduceLeDiff, nS, nP, nM, nD, nF, nW']

