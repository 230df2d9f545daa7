/-! leans: the class's sums -/
def hkB (V : BV) (d : Int32) (kn : Int32) (i : Nat) : Bool := decide (V 77 i = d) && kvB V kn i
theorem Sa_V {a : Nat} (ha : 207 ≤ a) {h h' : ax_H} (q : fr (Sa a) h h') : V h' = V h := V_fr q fun x k h1 h2 => by simp only [Sa, decide_eq_false_iff_not]; omega
theorem z_ga_9 {a : Nat} (ha : 207 ≤ a) {u : Nat} (hu : u < 2) (d kn : Int32) : ∀ (k i : Nat) (h : ax_H), ok h → GV (V h) → (gS h a).1 = 9 → i + k = nM (V h) → ∀ A B, LN h a A B → ∃ h', Ln_gather_9 a 65 d kn (nI u) 74 (nI i) h = some h' ∧ fr (Sa a) h h' ∧ LN h' a (zo (hkB (V h) d kn) (leA (V h) kn u) k i A) (zo (hkB (V h) d kn) (leB (V h) kn) k i B) := by
  intro k
  induction k with
  | zero =>
    intro i h w g hsa hi A B hl
    have hcn := cnts g.1
    have hn := nI_nM g.1.2.2.2.1
    obtain ⟨wS, wR, wG, wN⟩ := w
    have hle : nM (V h) ≤ i := by omega
    refine ⟨h, ?_, fr_rf _ _, hl⟩
    rw [Ln_gather_9_eq]
    try simp only [wS, wR, ↓reduceIte]
    simp (disch := omega) only [gI_pI, gI_pL, gI_pR, gL_pI, gL_pL, gL_pR, gR_pI, gR_pL, gR_pR, gS_pI, gS_pL, gS_pR, ↓reduceIte, Nat.reduceEqDiff, decide_eq_true_eq, Option.bind_some, false_and, and_false, true_and, and_true, and_self, Nat.reduceAdd, not_false_eq_true, not_true_eq_false, wS, wR, inI, ite_self, Classical.not_not, cV65, cV66, cV67, cV68, cV69, cV70, cV71, cV72, cV73, cV74, cV75, cV76, cV77, cV78, cV79, cV80, cV81, cV82, cV83, cV84, cV85, cV86, cV87, cV88, cV89, cV90, hn, nJ_le, hle]
  | succ k ih =>
    intro i h w g hsa hi A B hl
    have hcn := cnts g.1
    have hn := nI_nM g.1.2.2.2.1
    have w0 := w
    obtain ⟨wS, wR, wG, wN⟩ := w
    have hle : ¬ nM (V h) ≤ i := by omega
    have hi2 : i < 100 := by omega
    by_cases q1 : V h 77 i = d
    case neg =>
      have hb : hkB (V h) d kn i = false := by unfold hkB; rw [decide_eq_false q1, Bool.false_and]
      obtain ⟨h', r1, r2, r3⟩ := ih (i + 1) h w0 g hsa (by omega) A B hl
      refine ⟨h', ?_, r2, by rw [zo, zo, hb, if_neg (by decide), if_neg (by decide)]; exact r3⟩
      rw [← r1, Ln_gather_9_eq]
      try simp only [wS, wR, ↓reduceIte]
      simp (disch := omega) only [gI_pI, gI_pL, gI_pR, gL_pI, gL_pL, gL_pR, gR_pI, gR_pL, gR_pR, gS_pI, gS_pL, gS_pR, ↓reduceIte, Nat.reduceEqDiff, decide_eq_true_eq, Option.bind_some, false_and, and_false, true_and, and_true, and_self, Nat.reduceAdd, not_false_eq_true, not_true_eq_false, wS, wR, inI, ite_self, Classical.not_not, cV65, cV66, cV67, cV68, cV69, cV70, cV71, cV72, cV73, cV74, cV75, cV76, cV77, cV78, cV79, cV80, cV81, cV82, cV83, cV84, cV85, cV86, cV87, cV88, cV89, cV90, hn, nJ_le, hle, ax_in, nJ_nn, nJ_n, nJ_p1, hi2, q1]
    by_cases q2 : kvB (V h) kn i = true
    case neg =>
      have q2' : kvB (V h) kn i = false := by rw [Bool.not_eq_true] at q2; exact q2
      have hb : hkB (V h) d kn i = false := by unfold hkB; rw [q2', Bool.and_false]
      obtain ⟨h', r1, r2, r3⟩ := ih (i + 1) h w0 g hsa (by omega) A B hl
      refine ⟨h', ?_, r2, by rw [zo, zo, hb, if_neg (by decide), if_neg (by decide)]; exact r3⟩
      rw [← r1, Ln_gather_9_eq]
      try simp only [wS, wR, ↓reduceIte]
      simp (disch := omega) only [gI_pI, gI_pL, gI_pR, gL_pI, gL_pL, gL_pR, gR_pI, gR_pL, gR_pR, gS_pI, gS_pL, gS_pR, ↓reduceIte, Nat.reduceEqDiff, decide_eq_true_eq, Option.bind_some, false_and, and_false, true_and, and_true, and_self, Nat.reduceAdd, not_false_eq_true, not_true_eq_false, wS, wR, inI, ite_self, Classical.not_not, cV65, cV66, cV67, cV68, cV69, cV70, cV71, cV72, cV73, cV74, cV75, cV76, cV77, cV78, cV79, cV80, cV81, cV82, cV83, cV84, cV85, cV86, cV87, cV88, cV89, cV90, hn, nJ_le, hle, ax_in, nJ_nn, nJ_n, nJ_p1, hi2, q1, ↓bnd (z_isKnown w0 hi2 _), bI_0, q2', Bool.false_eq_true]
    have hb : hkB (V h) d kn i = true := by unfold hkB; rw [decide_eq_true q1, q2]; rfl
    obtain ⟨h1, a1, a2, a3⟩ := z_addPlace w0 g ha hsa (m := i) (by omega) hu kn hl
    have hV := Sa_V ha a2
    obtain ⟨h', r1, r2, r3⟩ := ih (i + 1) h1 (ok_fr a2 w0) (by rw [hV]; exact g) (by rw [fr_S a2]; exact hsa) (by rw [hV]; omega) _ _ a3
    rw [hV] at r3
    refine ⟨h', ?_, fr_tr a2 r2, by rw [zo, zo, hb, if_pos rfl, if_pos rfl]; exact r3⟩
    rw [← r1, Ln_gather_9_eq]
    try simp only [wS, wR, ↓reduceIte]
    simp (disch := omega) only [gI_pI, gI_pL, gI_pR, gL_pI, gL_pL, gL_pR, gR_pI, gR_pL, gR_pR, gS_pI, gS_pL, gS_pR, ↓reduceIte, Nat.reduceEqDiff, decide_eq_true_eq, Option.bind_some, false_and, and_false, true_and, and_true, and_self, Nat.reduceAdd, not_false_eq_true, not_true_eq_false, wS, wR, inI, ite_self, Classical.not_not, cV65, cV66, cV67, cV68, cV69, cV70, cV71, cV72, cV73, cV74, cV75, cV76, cV77, cV78, cV79, cV80, cV81, cV82, cV83, cV84, cV85, cV86, cV87, cV88, cV89, cV90, hn, nJ_le, hle, ax_in, nJ_nn, nJ_n, nJ_p1, hi2, q1, ↓bnd (z_isKnown w0 hi2 _), bI_0, q2, hsa, ↓bnd a1]
