/-! clock, star, plate: what changes the live rows -/
theorem V_pI (h : ax_H) (a k : Nat) (v : Int32) : V (pI h a k v) = if 65 ≤ a ∧ a ≤ 90 then u2 (V h) a k v else V h := by
  funext x y
  unfold V
  split
  · rename_i hc
    simp only [gI_pI, u2]
    by_cases hx : x = a
    · subst hx; simp [hc]
    · simp [hx]
  · rename_i hc
    by_cases hx : x = a
    · subst hx; simp [hc]
    · simp [gI_pI, hx]
/-- live rows -/
def Sl (a k : Nat) : Bool := decide ((65 ≤ a ∧ a ≤ 90) ∨ (a = 159 ∧ ((1 ≤ k ∧ k ≤ 4) ∨ k = 59 ∨ k = 63)) ∨ (160 ≤ a ∧ a ≤ 171) ∨ (196 ≤ a ∧ a ≤ 203))
def stp (P : Option (Int32 × ax_H)) (Q : ax_H → Option (Int32 × ax_H)) (R : ax_H → ax_H → Prop) : Prop := ∃ v h1 h2, P = some (v, h1) ∧ Q h1 = some (v, h2) ∧ R h1 h2
abbrev stl (h h1 h2 : ax_H) : Prop := I0 h2 ∧ fr Sl h h1 ∧ fr Sl h h2 ∧ V h2 65 4 = V h 65 4
theorem nI_tN {x : Int32} {n : Nat} (h : x = nI n) (hn : n < 2147483648) : x.toInt.toNat = n := by rw [h, nJ_i hn]; rfl
theorem st_clock {h : ax_H} (i : I0 h) (a : Int32) : stp (B_clock 64 a h) (M_clock 159 a) (stl h) := by
  obtain ⟨w, e, g⟩ := i
  have w0 := w
  obtain ⟨wS, wR, wG, wN⟩ := w
  have e0 := e
  unfold EQ at e
  by_cases hc : (V h 65 0).toInt ≤ a.toInt ∧ a.toInt ≤ 9999
  · refine ⟨1, pI h 65 0 a, pI (pI h 65 0 a) 159 1 a, ?_, ?_, ⟨w0, ?_, ?_⟩, fr_pI rfl, fr_tr (fr_pI rfl) (fr_pI rfl), ?_⟩
    · rw [B_clock_eq]
      simp only [gI_pI, gI_pL, gI_pR, gL_pI, gL_pL, gL_pR, gR_pI, gR_pL, gR_pR, gS_pI, gS_pL, gS_pR, reduceIte, Nat.reduceEqDiff, decide_eq_true_eq, Option.bind_some, false_and, and_false, true_and, and_true, and_self, Nat.reduceAdd, not_false_eq_true, not_true_eq_false, wS, wR, cV65, cV66, cV67, cV68, cV69, cV70, cV71, cV72, cV73, cV74, cV75, cV76, cV77, cV78, cV79, cV80, cV81, cV82, cV83, cV84, cV85, cV86, cV87, cV88, cV89, cV90, i32_lt, i32_le, Int32.reduceToInt]
      rw [if_neg (by omega), if_pos (by omega)]
    · rw [M_clock_eq]
      simp only [gI_pI, gI_pL, gI_pR, gL_pI, gL_pL, gL_pR, gR_pI, gR_pL, gR_pR, gS_pI, gS_pL, gS_pR, reduceIte, Nat.reduceEqDiff, decide_eq_true_eq, Option.bind_some, false_and, and_false, true_and, and_true, and_self, Nat.reduceAdd, not_false_eq_true, not_true_eq_false, wS, wR, zm_in, Int32.toInt_toInt64, e, bI_0, Int64.reduceToInt]
      rw [if_pos (by omega)]
    · unfold EQ
      simp only [gI_pI, gI_pL, gI_pR, gL_pI, gL_pL, gL_pR, gR_pI, gR_pL, gR_pR, gS_pI, gS_pL, gS_pR, reduceIte, Nat.reduceEqDiff, decide_eq_true_eq, Option.bind_some, false_and, and_false, true_and, and_true, and_self, Nat.reduceAdd, not_false_eq_true, not_true_eq_false, wS, wR, V_pI, u2, e, Nat.reduceLeDiff, implies_true]
      exact e.2.2.2.2.2.2.2.2.2.2.2.2.2.2.2.2.2.2.2.2.2.2.2.2.2.2
    · obtain ⟨g1, g2, g3, g4, g5, g6, g7⟩ := g
      unfold GV GC GS GP GI GD GF GK at *
      simp only [gI_pI, gI_pL, gI_pR, gL_pI, gL_pL, gL_pR, gR_pI, gR_pL, gR_pR, gS_pI, gS_pL, gS_pR, reduceIte, Nat.reduceEqDiff, decide_eq_true_eq, Option.bind_some, false_and, and_false, true_and, and_true, and_self, Nat.reduceAdd, not_false_eq_true, not_true_eq_false, wS, wR, V_pI, u2, Nat.reduceLeDiff]
      refine ⟨⟨⟨by omega, by omega⟩, g1.2⟩, g2, g3, ⟨fun i hi => ?_, g4.2⟩, fun j hj => ?_, g6, g7⟩
      · have := g4.1 i hi
        omega
      · have := g5 j hj
        omega
    · simp only [V_pI, u2, gI_pI, gI_pL, gI_pR, gL_pI, gL_pL, gL_pR, gR_pI, gR_pL, gR_pR, gS_pI, gS_pL, gS_pR, reduceIte, Nat.reduceEqDiff, decide_eq_true_eq, Option.bind_some, false_and, and_false, true_and, and_true, and_self, Nat.reduceAdd, not_false_eq_true, not_true_eq_false, wS, wR, Nat.reduceLeDiff]
  · refine ⟨0, h, h, ?_, ?_, ⟨w0, e0, g⟩, fr_rf _ _, fr_rf _ _, rfl⟩
    · rw [B_clock_eq]
      simp only [gI_pI, gI_pL, gI_pR, gL_pI, gL_pL, gL_pR, gR_pI, gR_pL, gR_pR, gS_pI, gS_pL, gS_pR, reduceIte, Nat.reduceEqDiff, decide_eq_true_eq, Option.bind_some, false_and, and_false, true_and, and_true, and_self, Nat.reduceAdd, not_false_eq_true, not_true_eq_false, wS, wR, cV65, cV66, cV67, cV68, cV69, cV70, cV71, cV72, cV73, cV74, cV75, cV76, cV77, cV78, cV79, cV80, cV81, cV82, cV83, cV84, cV85, cV86, cV87, cV88, cV89, cV90, i32_lt, i32_le, Int32.reduceToInt]
      by_cases h1 : a.toInt < (V h 65 0).toInt
      · rw [if_pos h1]
      · rw [if_neg h1, if_neg (by omega)]
    · rw [M_clock_eq]
      simp only [gI_pI, gI_pL, gI_pR, gL_pI, gL_pL, gL_pR, gR_pI, gR_pL, gR_pR, gS_pI, gS_pL, gS_pR, reduceIte, Nat.reduceEqDiff, decide_eq_true_eq, Option.bind_some, false_and, and_false, true_and, and_true, and_self, Nat.reduceAdd, not_false_eq_true, not_true_eq_false, wS, wR, zm_in, Int32.toInt_toInt64, e, bI_0, Int64.reduceToInt]
      rw [if_neg (by omega)]
