/-! planned, the reference's side -/
section
theorem zm_pl_57 {h : ax_H} (w : ok h) (e : EQ h) (g : GV (V h)) (m what b mo le v : Int32) : ∀ (k i : Nat) (c u : Int32), i + k = nF (V h) → M_planned_57 159 m what b mo le v c u (nI i) h = M_planned_132 159 m what b mo le v (fo (bt v) (fun a i => a + V h 86 i) k i c) (fo (bt v) (fun a i => a ||| V h 87 i) k i u) 0 0 h := by
  have hcn := cnts g.1
  have hn := nI_nF g.1.2.2.2.2.2.2
  obtain ⟨wS, wR, wG, wN⟩ := w
  unfold EQ at e
  intro k
  induction k with
  | zero =>
    intro i c u hi
    have hle : nF (V h) ≤ i := by omega
    rw [M_planned_57_eq]
    try simp only [wS, wR, ↓reduceIte]
    simp (disch := omega) only [gI_pI, gI_pL, gI_pR, gL_pI, gL_pL, gL_pR, gR_pI, gR_pL, gR_pR, gS_pI, gS_pL, gS_pR, ↓reduceIte, Nat.reduceEqDiff, decide_eq_true_eq, Option.bind_some, false_and, and_false, true_and, and_true, and_self, Nat.reduceAdd, not_false_eq_true, not_true_eq_false, wS, wR, inI, ite_self, Classical.not_not, e, hn, nJ_le, hle]
    rfl
  | succ k ih =>
    intro i c u hi
    have hle : ¬ nF (V h) ≤ i := by omega
    have hi9 : i < 9 := by omega
    rw [M_planned_57_eq, fo, fo]
    try simp only [wS, wR, ↓reduceIte]
    cases hb : bt v i with
    | false =>
      simp (disch := omega) only [gI_pI, gI_pL, gI_pR, gL_pI, gL_pL, gL_pR, gR_pI, gR_pL, gR_pR, gS_pI, gS_pL, gS_pR, ↓reduceIte, Nat.reduceEqDiff, decide_eq_true_eq, Option.bind_some, false_and, and_false, true_and, and_true, and_self, Nat.reduceAdd, not_false_eq_true, not_true_eq_false, wS, wR, inI, ite_self, Classical.not_not, e, hn, nJ_le, hle, bt_o, hb, nJ_p1, Bool.false_eq_true, M_planned_90_eq, Int32.add_zero, Int32.or_zero]
      exact ih (i + 1) c u (by omega)
    | true =>
      simp (disch := omega) only [gI_pI, gI_pL, gI_pR, gL_pI, gL_pL, gL_pR, gR_pI, gR_pL, gR_pR, gS_pI, gS_pL, gS_pR, ↓reduceIte, Nat.reduceEqDiff, decide_eq_true_eq, Option.bind_some, false_and, and_false, true_and, and_true, and_self, Nat.reduceAdd, not_false_eq_true, not_true_eq_false, wS, wR, inI, ite_self, Classical.not_not, e, hn, nJ_le, hle, bt_o, hb, nJ_p1, M_planned_90_eq, ax_in, nJ_nn, nJ_n, hi9]
      exact ih (i + 1) _ _ (by omega)
theorem zm_pl_132 {h : ax_H} (w : ok h) (e : EQ h) (g : GV (V h)) (m what b mo le v c u : Int32) : ∀ (k i : Nat) (a : Int32), i + k = nS (V h) → M_planned_132 159 m what b mo le v c u a (nI i) h = M_planned_132 159 m what b mo le v c u (fo (bt u) (fun a s => a + lsq (V h) s) k i a) (nI (nS (V h))) h := by
  have hcn := cnts g.1
  have hn := nI_nS g.1.2.1
  have w0 := w
  have e0 := e
  obtain ⟨wS, wR, wG, wN⟩ := w
  unfold EQ at e
  intro k
  induction k with
  | zero =>
    intro i a hi
    have : i = nS (V h) := by omega
    rw [this]
    rfl
  | succ k ih =>
    intro i a hi
    have hle : ¬ nS (V h) ≤ i := by omega
    have h0 : M_given 159 4 (nI i) 0 h = some (Int32.ofInt (gz 4 (sx (V h) i) (sy (V h) i) 0), h) := zm_given w0 g.1 g.2.1 e0 (t := 4) (ax := 0) (by omega) (by omega) (by omega)
    have h1 : M_given 159 4 (nI i) 1 h = some (Int32.ofInt (gz 4 (sx (V h) i) (sy (V h) i) 1), h) := zm_given w0 g.1 g.2.1 e0 (t := 4) (ax := 1) (by omega) (by omega) (by omega)
    rw [fo]
    cases hb : bt u i with
    | false =>
      rw [if_neg (by decide), ← ih (i + 1) a (by omega), M_planned_132_eq]
      try simp only [wS, wR, ↓reduceIte]
      simp (disch := omega) only [gI_pI, gI_pL, gI_pR, gL_pI, gL_pL, gL_pR, gR_pI, gR_pL, gR_pR, gS_pI, gS_pL, gS_pR, ↓reduceIte, Nat.reduceEqDiff, decide_eq_true_eq, Option.bind_some, false_and, and_false, true_and, and_true, and_self, Nat.reduceAdd, not_false_eq_true, not_true_eq_false, wS, wR, inI, ite_self, Classical.not_not, e, hn, nJ_le, hle, ↓bnd h0, ↓bnd h1, bt_o, hb, nJ_p1, Bool.false_eq_true, Int32.add_zero]
    | true =>
      rw [if_pos rfl, ← ih (i + 1) _ (by omega), M_planned_132_eq]
      try simp only [wS, wR, ↓reduceIte]
      simp (disch := omega) only [gI_pI, gI_pL, gI_pR, gL_pI, gL_pL, gL_pR, gR_pI, gR_pL, gR_pR, gS_pI, gS_pL, gS_pR, ↓reduceIte, Nat.reduceEqDiff, decide_eq_true_eq, Option.bind_some, false_and, and_false, true_and, and_true, and_self, Nat.reduceAdd, not_false_eq_true, not_true_eq_false, wS, wR, inI, ite_self, Classical.not_not, e, hn, nJ_le, hle, ↓bnd h0, ↓bnd h1, bt_o, hb, nJ_p1]
      rfl
theorem zm_pl_37 {h : ax_H} (w : ok h) (e : EQ h) (g : GV (V h)) (m what : Int32) : ∀ (k s : Nat) (b : Int32), s + k = 2 ^ nF (V h) → M_planned_37 159 m what b (wor (V h) (uni (V h) b)) (cst (V h) b) (nI s) h = some (if what = 0 then plF (V h) m k s b else if what = 1 then wor (V h) (uni (V h) (plF (V h) m k s b)) else cst (V h) (plF (V h) m k s b), h) := by
  have hcn := cnts g.1
  have hn := nI_nF g.1.2.2.2.2.2.2
  have hs0 := nI_nS g.1.2.1
  have h2 := p2_n (nF (V h)) (by omega)
  have h512 : 2 ^ nF (V h) ≤ 512 := Nat.pow_le_pow_right (n := 2) (by omega) (show nF (V h) ≤ 9 by omega)
  have w0 := w
  have e0 := e
  obtain ⟨wS, wR, wG, wN⟩ := w
  unfold EQ at e
  intro k
  induction k with
  | zero =>
    intro s b hs
    have hle : 2 ^ nF (V h) ≤ s := by omega
    rw [M_planned_37_eq]
    try simp only [wS, wR, ↓reduceIte]
    simp (disch := omega) only [gI_pI, gI_pL, gI_pR, gL_pI, gL_pL, gL_pR, gR_pI, gR_pL, gR_pR, gS_pI, gS_pL, gS_pR, ↓reduceIte, Nat.reduceEqDiff, decide_eq_true_eq, Option.bind_some, false_and, and_false, true_and, and_true, and_self, Nat.reduceAdd, not_false_eq_true, not_true_eq_false, wS, wR, inI, ite_self, Classical.not_not, e, hn, h2, nJ_le, hle, plF]
    by_cases q0 : what = 0
    · simp only [q0, ↓reduceIte, not_true_eq_false]
    · by_cases q1 : what = 1
      · simp only [q0, q1, ↓reduceIte, not_true_eq_false, not_false_eq_true, i1_0]
      · simp only [q0, q1, ↓reduceIte, not_false_eq_true]
  | succ k ih =>
    intro s b hs
    have hle : ¬ 2 ^ nF (V h) ≤ s := by omega
    have i1 := ih (s + 1) b (by omega)
    have i2 := ih (s + 1) (nI s) (by omega)
    have k1 := zm_pl_57 w0 e0 g m what b (wor (V h) (uni (V h) b)) (cst (V h) b) (nI s) (nF (V h)) 0 0 0 (by omega)
    have k2 := zm_pl_132 w0 e0 g m what b (wor (V h) (uni (V h) b)) (cst (V h) b) (nI s) (cst (V h) (nI s)) (uni (V h) (nI s)) (nS (V h)) 0 0 (by omega)
    have k3 : M_planned_37 159 m what b (wor (V h) (uni (V h) b)) (cst (V h) b) (nI s) h = M_planned_132 159 m what b (wor (V h) (uni (V h) b)) (cst (V h) b) (nI s) (cst (V h) (nI s)) (uni (V h) (nI s)) (wor (V h) (uni (V h) (nI s))) (nI (nS (V h))) h := by
      rw [M_planned_37_eq]
      try simp only [wS, wR, ↓reduceIte]
      simp (disch := omega) only [gI_pI, gI_pL, gI_pR, gL_pI, gL_pL, gL_pR, gR_pI, gR_pL, gR_pR, gS_pI, gS_pL, gS_pR, ↓reduceIte, Nat.reduceEqDiff, decide_eq_true_eq, Option.bind_some, false_and, and_false, true_and, and_true, and_self, Nat.reduceAdd, not_false_eq_true, not_true_eq_false, wS, wR, inI, ite_self, Classical.not_not, e, hn, h2, nJ_le, hle]
      exact k1.trans k2
    rw [k3, plF, M_planned_132_eq]
    try simp only [wS, wR, ↓reduceIte]
    unfold btr
    by_cases c1 : cst (V h) (nI s) ≤ m
    · have c0 : ¬ m < cst (V h) (nI s) := by rw [i32_le] at c1; rw [i32_lt]; omega
      by_cases c2 : wor (V h) (uni (V h) b) < wor (V h) (uni (V h) (nI s))
      · simp (disch := omega) only [gI_pI, gI_pL, gI_pR, gL_pI, gL_pL, gL_pR, gR_pI, gR_pL, gR_pR, gS_pI, gS_pL, gS_pR, ↓reduceIte, Nat.reduceEqDiff, decide_eq_true_eq, Option.bind_some, false_and, and_false, true_and, and_true, and_self, Nat.reduceAdd, not_false_eq_true, not_true_eq_false, wS, wR, inI, ite_self, Classical.not_not, e, hs0, nJ_le, Nat.le_refl, c0, c1, c2, nJ_p1, true_or, decide_true, i2]
      · by_cases c3 : wor (V h) (uni (V h) (nI s)) = wor (V h) (uni (V h) b)
        · by_cases c4 : cst (V h) b ≤ cst (V h) (nI s)
          · have c5 : ¬ cst (V h) (nI s) < cst (V h) b := by rw [i32_le] at c4; rw [i32_lt]; omega
            simp (disch := omega) only [gI_pI, gI_pL, gI_pR, gL_pI, gL_pL, gL_pR, gR_pI, gR_pL, gR_pR, gS_pI, gS_pL, gS_pR, ↓reduceIte, Nat.reduceEqDiff, decide_eq_true_eq, Option.bind_some, false_and, and_false, true_and, and_true, and_self, Nat.reduceAdd, not_false_eq_true, not_true_eq_false, wS, wR, inI, ite_self, Classical.not_not, e, hs0, nJ_le, Nat.le_refl, c0, c1, c3, c4, c5, nJ_p1, or_self, decide_false, Bool.false_eq_true, i1, Int32.lt_irrefl]
          · have c5 : cst (V h) (nI s) < cst (V h) b := by rw [i32_le] at c4; rw [i32_lt]; omega
            simp (disch := omega) only [gI_pI, gI_pL, gI_pR, gL_pI, gL_pL, gL_pR, gR_pI, gR_pL, gR_pR, gS_pI, gS_pL, gS_pR, ↓reduceIte, Nat.reduceEqDiff, decide_eq_true_eq, Option.bind_some, false_and, and_false, true_and, and_true, and_self, Nat.reduceAdd, not_false_eq_true, not_true_eq_false, wS, wR, inI, ite_self, Classical.not_not, e, hs0, nJ_le, Nat.le_refl, c0, c1, c3, c4, c5, nJ_p1, or_true, decide_true, Int32.lt_irrefl]
            rw [← c3]
            exact i2
        · simp (disch := omega) only [gI_pI, gI_pL, gI_pR, gL_pI, gL_pL, gL_pR, gR_pI, gR_pL, gR_pR, gS_pI, gS_pL, gS_pR, ↓reduceIte, Nat.reduceEqDiff, decide_eq_true_eq, Option.bind_some, false_and, and_false, true_and, and_true, and_self, Nat.reduceAdd, not_false_eq_true, not_true_eq_false, wS, wR, inI, ite_self, Classical.not_not, e, hs0, nJ_le, Nat.le_refl, c0, c1, c2, c3, nJ_p1, or_self, decide_false, Bool.false_eq_true, i1]
    · have c0 : m < cst (V h) (nI s) := by rw [i32_le] at c1; rw [i32_lt]; omega
      simp (disch := omega) only [gI_pI, gI_pL, gI_pR, gL_pI, gL_pL, gL_pR, gR_pI, gR_pL, gR_pR, gS_pI, gS_pL, gS_pR, ↓reduceIte, Nat.reduceEqDiff, decide_eq_true_eq, Option.bind_some, false_and, and_false, true_and, and_true, and_self, Nat.reduceAdd, not_false_eq_true, not_true_eq_false, wS, wR, inI, ite_self, Classical.not_not, e, hs0, nJ_le, Nat.le_refl, c0, c1, nJ_p1, decide_false, Bool.false_eq_true, i1]
end
theorem as_planned {h : ax_H} (i : I0 h) (m what : Int32) : asks (B_planned 64 m what h) (M_planned 159 m what h) h := by
  obtain ⟨w, e, g⟩ := i
  have w0 := w
  obtain ⟨wS, wR, wG, wN⟩ := w
  have hp : 0 < 2 ^ nF (V h) := Nat.pow_pos (by omega)
  by_cases h1 : 1 ≤ m.toInt ∧ m.toInt ≤ 999
  case neg =>
    refine ⟨-1, ?_, ?_⟩
    · rw [B_planned_eq]
      simp only [gI_pI, gI_pL, gI_pR, gL_pI, gL_pL, gL_pR, gR_pI, gR_pL, gR_pR, gS_pI, gS_pL, gS_pR, ↓reduceIte, Nat.reduceEqDiff, decide_eq_true_eq, Option.bind_some, false_and, and_false, true_and, and_true, and_self, Nat.reduceAdd, not_false_eq_true, not_true_eq_false, wS, wR, inI, ite_self, Classical.not_not, ↓bnd (z_isWithin _ _ _ _), bI_0, h1, Int32.reduceToInt, Int64.reduceToInt, tN9, tN299, tN99999, tN9999, tN99, tL9, tL299, tL99999, tL9999, tL99, i1_0, i0_1]
    · rw [M_planned_eq]
      simp only [gI_pI, gI_pL, gI_pR, gL_pI, gL_pL, gL_pR, gR_pI, gR_pL, gR_pR, gS_pI, gS_pL, gS_pR, ↓reduceIte, Nat.reduceEqDiff, decide_eq_true_eq, Option.bind_some, false_and, and_false, true_and, and_true, and_self, Nat.reduceAdd, not_false_eq_true, not_true_eq_false, wS, wR, inI, ite_self, Classical.not_not, ↓bnd (zm_in _ _ _ _), bI_0, h1, Int32.toInt_toInt64, Int32.reduceToInt, Int64.reduceToInt, tN9, tN299, tN99999, tN9999, tN99, tL9, tL299, tL99999, tL9999, tL99, i1_0, i0_1]
  by_cases h2 : 0 ≤ what.toInt ∧ what.toInt ≤ 2
  case neg =>
    refine ⟨-1, ?_, ?_⟩
    · rw [B_planned_eq]
      simp only [gI_pI, gI_pL, gI_pR, gL_pI, gL_pL, gL_pR, gR_pI, gR_pL, gR_pR, gS_pI, gS_pL, gS_pR, ↓reduceIte, Nat.reduceEqDiff, decide_eq_true_eq, Option.bind_some, false_and, and_false, true_and, and_true, and_self, Nat.reduceAdd, not_false_eq_true, not_true_eq_false, wS, wR, inI, ite_self, Classical.not_not, ↓bnd (z_isWithin _ _ _ _), bI_0, h1, h2, Int32.reduceToInt, Int64.reduceToInt, tN9, tN299, tN99999, tN9999, tN99, tL9, tL299, tL99999, tL9999, tL99, i1_0, i0_1]
    · rw [M_planned_eq]
      simp only [gI_pI, gI_pL, gI_pR, gL_pI, gL_pL, gL_pR, gR_pI, gR_pL, gR_pR, gS_pI, gS_pL, gS_pR, ↓reduceIte, Nat.reduceEqDiff, decide_eq_true_eq, Option.bind_some, false_and, and_false, true_and, and_true, and_self, Nat.reduceAdd, not_false_eq_true, not_true_eq_false, wS, wR, inI, ite_self, Classical.not_not, ↓bnd (zm_in _ _ _ _), bI_0, h1, h2, Int32.toInt_toInt64, Int32.reduceToInt, Int64.reduceToInt, tN9, tN299, tN99999, tN9999, tN99, tL9, tL299, tL99999, tL9999, tL99, i1_0, i0_1]
  have hb := z_best w0 g m
  have hbw := z_worth w0 g (plF (V h) m (2 ^ nF (V h) - 1) 1 0)
  have hbm := z_minutes w0 g (plF (V h) m (2 ^ nF (V h) - 1) 1 0)
  have hM := zm_pl_37 w0 e g m what (2 ^ nF (V h)) 0 0 (by omega)
  rw [uni_0, wor_0, cst_0] at hM
  have hz : plF (V h) m (2 ^ nF (V h)) 0 0 = plF (V h) m (2 ^ nF (V h) - 1) 1 0 := by
    obtain ⟨q, hq⟩ : ∃ q, 2 ^ nF (V h) = q + 1 := ⟨2 ^ nF (V h) - 1, by omega⟩
    rw [hq, plF]
    have : (if btr (V h) m 0 (nI 0) then nI 0 else 0) = (0 : Int32) := by split <;> rfl
    rw [this]
    rfl
  rw [hz] at hM
  refine ⟨_, ?_, by
    rw [M_planned_eq]
    simp only [gI_pI, gI_pL, gI_pR, gL_pI, gL_pL, gL_pR, gR_pI, gR_pL, gR_pR, gS_pI, gS_pL, gS_pR, ↓reduceIte, Nat.reduceEqDiff, decide_eq_true_eq, Option.bind_some, false_and, and_false, true_and, and_true, and_self, Nat.reduceAdd, not_false_eq_true, not_true_eq_false, wS, wR, inI, ite_self, Classical.not_not, ↓bnd (zm_in _ _ _ _), bI_0, h1, h2, Int32.toInt_toInt64, Int32.reduceToInt, Int64.reduceToInt, tN9, tN299, tN99999, tN9999, tN99, tL9, tL299, tL99999, tL9999, tL99, i1_0, i0_1]
    exact hM⟩
  rw [B_planned_eq]
  simp only [gI_pI, gI_pL, gI_pR, gL_pI, gL_pL, gL_pR, gR_pI, gR_pL, gR_pR, gS_pI, gS_pL, gS_pR, ↓reduceIte, Nat.reduceEqDiff, decide_eq_true_eq, Option.bind_some, false_and, and_false, true_and, and_true, and_self, Nat.reduceAdd, not_false_eq_true, not_true_eq_false, wS, wR, inI, ite_self, Classical.not_not, ↓bnd (z_isWithin _ _ _ _), bI_0, h1, h2, Int32.reduceToInt, Int64.reduceToInt, tN9, tN299, tN99999, tN9999, tN99, tL9, tL299, tL99999, tL9999, tL99, i1_0, i0_1, ↓bnd hb, ↓bnd hbw, ↓bnd hbm]
  by_cases q0 : what = 0
  · simp only [q0, ↓reduceIte]
  · by_cases q1 : what = 1
    · simp only [q0, q1, ↓reduceIte, i1_0]
    · simp only [q0, q1, ↓reduceIte]
