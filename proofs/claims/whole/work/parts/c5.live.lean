/-! the live book is a book; the rows that are carried -/
theorem bkP_65 {h : ax_H} (w : ok h) : bkP h 65 := by
  obtain ⟨wS, wR, wG, wN⟩ := w
  refine ⟨fun i x z => ?_, fun n i j r z => ?_⟩
  · have hi : i < 27 := (List.getElem?_eq_some_iff.mp z).1
    have hc : i = 0 ∨ i = 1 ∨ i = 2 ∨ i = 3 ∨ i = 4 ∨ i = 5 ∨ i = 6 ∨ i = 7 ∨ i = 8 ∨ i = 9 ∨ i = 10 ∨ i = 11 ∨ i = 12 ∨ i = 13 ∨ i = 14 ∨ i = 15 ∨ i = 16 ∨ i = 17 ∨ i = 18 ∨ i = 19 ∨ i = 20 ∨ i = 21 ∨ i = 22 ∨ i = 23 ∨ i = 24 ∨ i = 25 ∨ i = 26 := by omega
    rcases hc with rfl | rfl | rfl | rfl | rfl | rfl | rfl | rfl | rfl | rfl | rfl | rfl | rfl | rfl | rfl | rfl | rfl | rfl | rfl | rfl | rfl | rfl | rfl | rfl | rfl | rfl | rfl <;> (injection z with z; rw [← z]; simp only [Nat.reduceAdd, wS])
  · have hi : n < 26 := (List.getElem?_eq_some_iff.mp z).1
    have hc : n = 0 ∨ n = 1 ∨ n = 2 ∨ n = 3 ∨ n = 4 ∨ n = 5 ∨ n = 6 ∨ n = 7 ∨ n = 8 ∨ n = 9 ∨ n = 10 ∨ n = 11 ∨ n = 12 ∨ n = 13 ∨ n = 14 ∨ n = 15 ∨ n = 16 ∨ n = 17 ∨ n = 18 ∨ n = 19 ∨ n = 20 ∨ n = 21 ∨ n = 22 ∨ n = 23 ∨ n = 24 ∨ n = 25 := by omega
    rcases hc with rfl | rfl | rfl | rfl | rfl | rfl | rfl | rfl | rfl | rfl | rfl | rfl | rfl | rfl | rfl | rfl | rfl | rfl | rfl | rfl | rfl | rfl | rfl | rfl | rfl | rfl <;> (injection z with z; injection z with z1 z; injection z with z2 z3; rw [← z1, ← z2, ← z3]; simp only [Nat.reduceAdd, wR])
theorem fld_ok {h : ax_H} (w : ok h) : fldP h cfL crL := by
  obtain ⟨wS, wR, wG, wN⟩ := w
  unfold cfL crL
  simp only [fldP, wS, wR, Nat.reduceEqDiff, not_false_eq_true, Nat.reduceLeDiff, and_self, true_and]
theorem dis_ok : disL crL := by
  unfold crL
  simp only [disL, List.mem_cons, List.not_mem_nil, or_false, forall_eq_or_imp, forall_eq, Nat.reduceEqDiff, not_false_eq_true, and_self, true_and, and_true, false_implies, implies_true]
theorem tot_ok : totL crL = 7320 := rfl
