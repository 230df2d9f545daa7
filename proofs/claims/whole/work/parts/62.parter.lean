/-! parter: the class's side -/
def pA (V : BV) (B : Nat → Bool) (i : Nat) : Int := (tB V B + mB V i) * (tB V B + mB V i)
def pW (V : BV) (B : Nat → Bool) (i : Nat) : Int := (tS V B + mS V i) * (tL V B + mL V i)
def prF (V : BV) (B : Nat → Bool) : Nat → Nat → Int32 → Int → Int → Int32
  | 0, _, b, _, _ => b
  | k + 1, i, b, x, y => if B i then prF V B k (i + 1) b x y else (if b = -1 ∨ pA V B i * y < x * pW V B i then prF V B k (i + 1) (nI i) (pA V B i) (pW V B i) else prF V B k (i + 1) b x y)
theorem p_bd {V : BV} (gc : GC V) (g : GS V) (B : Nat → Bool) {i : Nat} (hi : i < nS V) : (0 ≤ pA V B i ∧ pA V B i ≤ 498182400) ∧ (0 < pW V B i ∧ pW V B i ≤ 249091200) := by
  have hb := t_bd gc g B
  have hm := m_bd g hi
  have m1 := mul_bd (x := tB V B + mB V i) (y := tB V B + mB V i) (k := 22320) (m := 22320) (by omega) (by omega)
  have n1 := sq_nn (tB V B + mB V i)
  have m2 := mul_bd (x := tS V B + mS V i) (y := tL V B + mL V i) (k := 5022) (m := 49600) (by omega) (by omega)
  have m3 := Int.mul_pos (a := tS V B + mS V i) (b := tL V B + mL V i) (by omega) (by omega)
  unfold pA pW
  omega
theorem mx_cmp {a b c d : Int} (ha : 0 ≤ a ∧ a ≤ 498182400) (hb : 0 ≤ b ∧ b ≤ 498182400) (hc : 0 ≤ c ∧ c ≤ 498182400) (hd : 0 ≤ d ∧ d ≤ 498182400) : 0 ≤ lg_cmp (Int64.ofInt a * Int64.ofInt b) (Int64.ofInt c * Int64.ofInt d) ↔ ¬ a * b < c * d := by
  have m1 := mul_bd (x := a) (y := b) (k := 498182400) (m := 498182400) (by omega) (by omega)
  have m2 := mul_bd (x := c) (y := d) (k := 498182400) (m := 498182400) (by omega) (by omega)
  rw [lgc_ge, ← Int64.ofInt_mul, ← Int64.ofInt_mul, l_toInt (by omega), l_toInt (by omega)]
  omega
theorem z_par_30 (v : Int32) {B : Nat → Bool} : ∀ (k i : Nat) (b : Int32) (x y : Int) (h : ax_H), ok h → GV (V h) → i + k = nS (V h) → (∀ s, s < 32 → bt v s = B s) → (0 ≤ x ∧ x ≤ 498182400) → (0 ≤ y ∧ y ≤ 498182400) → MX h (tS (V h) B) (tL (V h) B) (tB (V h) B) → ∃ h', Mx_bestParter_30 158 65 v b (Int64.ofInt x) (Int64.ofInt y) (nI i) h = some (prF (V h) B k i b x y, h') ∧ fr S158 h h' := by
  intro k
  induction k with
  | zero =>
    intro i b x y h w g hi hv hx hy hm
    have hcn := cnts g.1
    have hn := nI_nS g.1.2.1
    obtain ⟨wS, wR, wG, wN⟩ := w
    have hle : nS (V h) ≤ i := by omega
    refine ⟨h, ?_, fr_rf _ _⟩
    rw [Mx_bestParter_30_eq]
    try simp only [wS, wR, ↓reduceIte]
    simp (disch := omega) only [gI_pI, gI_pL, gI_pR, gL_pI, gL_pL, gL_pR, gR_pI, gR_pL, gR_pR, gS_pI, gS_pL, gS_pR, ↓reduceIte, Nat.reduceEqDiff, decide_eq_true_eq, Option.bind_some, false_and, and_false, true_and, and_true, and_self, Nat.reduceAdd, not_false_eq_true, not_true_eq_false, wS, wR, inI, ite_self, Classical.not_not, cV65, cV66, cV67, cV68, cV69, cV70, cV71, cV72, cV73, cV74, cV75, cV76, cV77, cV78, cV79, cV80, cV81, cV82, cV83, cV84, cV85, cV86, cV87, cV88, cV89, cV90, hn, nJ_le, hle]
    rfl
  | succ k ih =>
    intro i b x y h w g hi hv hx hy hm
    have hcn := cnts g.1
    have hn := nI_nS g.1.2.1
    have w0 := w
    obtain ⟨wS, wR, wG, wN⟩ := w
    have hle : ¬ nS (V h) ≤ i := by omega
    have hvi := hv i (by omega)
    cases hBi : B i with
    | true =>
      rw [hBi] at hvi
      obtain ⟨h', q1, q2⟩ := ih (i + 1) b x y h w0 g (by omega) hv hx hy hm
      refine ⟨h', ?_, q2⟩
      rw [prF, hBi, if_pos rfl, ← q1, Mx_bestParter_30_eq]
      try simp only [wS, wR, ↓reduceIte]
      simp (disch := omega) only [gI_pI, gI_pL, gI_pR, gL_pI, gL_pL, gL_pR, gR_pI, gR_pL, gR_pR, gS_pI, gS_pL, gS_pR, ↓reduceIte, Nat.reduceEqDiff, decide_eq_true_eq, Option.bind_some, false_and, and_false, true_and, and_true, and_self, Nat.reduceAdd, not_false_eq_true, not_true_eq_false, wS, wR, inI, ite_self, Classical.not_not, cV65, cV66, cV67, cV68, cV69, cV70, cV71, cV72, cV73, cV74, cV75, cV76, cV77, cV78, cV79, cV80, cV81, cV82, cV83, cV84, cV85, cV86, cV87, cV88, cV89, cV90, hn, nJ_le, hle, bt_t, hvi, nJ_p1, Bool.true_eq_false]
    | false =>
      rw [hBi] at hvi
      have hp := p_bd g.1 g.2.1 B (i := i) (by omega)
      obtain ⟨h1, a1, f1, m1⟩ := z_mxadd (t := 1) (by omega) w0 g (s := i) (by omega) hm
      have a1' : Mx_add 158 66 (nI i) 1 h = some h1 := a1
      have hV1 := V_frc (S158_c f1)
      have w1 := ok_fr f1 w0
      obtain ⟨h2, a2, f2, m2⟩ := z_mxadd (t := -1) (by omega) w1 (by rw [hV1]; exact g) (s := i) (by rw [hV1]; omega) m1
      have a2' : Mx_add 158 66 (nI i) (-1) h1 = some h2 := a2
      have hV2 : V h2 = V h := (V_frc (S158_c f2)).trans hV1
      have w2 := ok_fr f2 w1
      rw [hV1] at m2
      have m2' : MX h2 (tS (V h2) B) (tL (V h2) B) (tB (V h2) B) := by
        rw [hV2]
        obtain ⟨c1, c2, c3⟩ := m2
        refine ⟨c1.trans (congrArg _ (by omega)), c2.trans (congrArg _ (by omega)), c3.trans (congrArg _ (by omega))⟩
      have f12 := fr_tr f1 f2
      rw [Int.one_mul, Int.one_mul, Int.one_mul] at m1
      obtain ⟨c1, c2, c3⟩ := m1
      have s1 := fr_S f1
      have t1 := fr_R f1
      have hA : Mx_above 158 h1 = some (Int64.ofInt (pA (V h) B i), h1) := by
        rw [Mx_above_eq]
        simp only [gI_pI, gI_pL, gI_pR, gL_pI, gL_pL, gL_pR, gR_pI, gR_pL, gR_pR, gS_pI, gS_pL, gS_pR, ↓reduceIte, Nat.reduceEqDiff, decide_eq_true_eq, Option.bind_some, false_and, and_false, true_and, and_true, and_self, Nat.reduceAdd, not_false_eq_true, not_true_eq_false, wS, wR, inI, ite_self, Classical.not_not, s1, c3, ← Int64.ofInt_mul]
        rfl
      have hW : Mx_below 158 h1 = some (Int64.ofInt (pW (V h) B i), h1) := by
        rw [Mx_below_eq]
        simp only [gI_pI, gI_pL, gI_pR, gL_pI, gL_pL, gL_pR, gR_pI, gR_pL, gR_pR, gS_pI, gS_pL, gS_pR, ↓reduceIte, Nat.reduceEqDiff, decide_eq_true_eq, Option.bind_some, false_and, and_false, true_and, and_true, and_self, Nat.reduceAdd, not_false_eq_true, not_true_eq_false, wS, wR, inI, ite_self, Classical.not_not, s1, c1, c2, ← Int64.ofInt_mul]
        rfl
      have hcmp := mx_cmp (a := pA (V h) B i) (b := y) (c := x) (d := pW (V h) B i) (by omega) (by omega) (by omega) (by omega)
      by_cases hb : b = -1
      · obtain ⟨h', q1, q2⟩ := ih (i + 1) (nI i) (pA (V h) B i) (pW (V h) B i) h2 w2 (by rw [hV2]; exact g) (by rw [hV2]; omega) hv (by omega) (by omega) m2'
        rw [hV2] at q1
        refine ⟨h', ?_, fr_tr f12 q2⟩
        rw [prF, hBi, if_neg (by decide), if_pos (Or.inl hb), ← q1, Mx_bestParter_30_eq]
        try simp only [wS, wR, ↓reduceIte]
        simp (disch := omega) only [gI_pI, gI_pL, gI_pR, gL_pI, gL_pL, gL_pR, gR_pI, gR_pL, gR_pR, gS_pI, gS_pL, gS_pR, ↓reduceIte, Nat.reduceEqDiff, decide_eq_true_eq, Option.bind_some, false_and, and_false, true_and, and_true, and_self, Nat.reduceAdd, not_false_eq_true, not_true_eq_false, wS, wR, inI, ite_self, Classical.not_not, cV65, cV66, cV67, cV68, cV69, cV70, cV71, cV72, cV73, cV74, cV75, cV76, cV77, cV78, cV79, cV80, cV81, cV82, cV83, cV84, cV85, cV86, cV87, cV88, cV89, cV90, hn, nJ_le, hle, bt_t, hvi, nJ_p1, ↓bnd a1', hb, Mx_bestParter_87_eq, s1, t1, ↓bnd hA, ↓bnd hW, ↓bnd a2']
      · by_cases hlt : pA (V h) B i * y < x * pW (V h) B i
        · have hc2 : ¬ 0 ≤ lg_cmp (Int64.ofInt (pA (V h) B i) * Int64.ofInt y) (Int64.ofInt x * Int64.ofInt (pW (V h) B i)) := fun q => hcmp.mp q hlt
          obtain ⟨h', q1, q2⟩ := ih (i + 1) (nI i) (pA (V h) B i) (pW (V h) B i) h2 w2 (by rw [hV2]; exact g) (by rw [hV2]; omega) hv (by omega) (by omega) m2'
          rw [hV2] at q1
          refine ⟨h', ?_, fr_tr f12 q2⟩
          rw [prF, hBi, if_neg (by decide), if_pos (Or.inr hlt), ← q1, Mx_bestParter_30_eq]
          try simp only [wS, wR, ↓reduceIte]
          simp (disch := omega) only [gI_pI, gI_pL, gI_pR, gL_pI, gL_pL, gL_pR, gR_pI, gR_pL, gR_pR, gS_pI, gS_pL, gS_pR, ↓reduceIte, Nat.reduceEqDiff, decide_eq_true_eq, Option.bind_some, false_and, and_false, true_and, and_true, and_self, Nat.reduceAdd, not_false_eq_true, not_true_eq_false, wS, wR, inI, ite_self, Classical.not_not, cV65, cV66, cV67, cV68, cV69, cV70, cV71, cV72, cV73, cV74, cV75, cV76, cV77, cV78, cV79, cV80, cV81, cV82, cV83, cV84, cV85, cV86, cV87, cV88, cV89, cV90, hn, nJ_le, hle, bt_t, hvi, nJ_p1, ↓bnd a1', hb, hc2, Mx_bestParter_87_eq, s1, t1, ↓bnd hA, ↓bnd hW, ↓bnd a2']
        · have hc2 : 0 ≤ lg_cmp (Int64.ofInt (pA (V h) B i) * Int64.ofInt y) (Int64.ofInt x * Int64.ofInt (pW (V h) B i)) := hcmp.mpr hlt
          obtain ⟨h', q1, q2⟩ := ih (i + 1) b x y h2 w2 (by rw [hV2]; exact g) (by rw [hV2]; omega) hv hx hy m2'
          rw [hV2] at q1
          refine ⟨h', ?_, fr_tr f12 q2⟩
          rw [prF, hBi, if_neg (by decide), if_neg (fun q => by rcases q with q | q; exact hb q; exact hlt q), ← q1, Mx_bestParter_30_eq]
          try simp only [wS, wR, ↓reduceIte]
          simp (disch := omega) only [gI_pI, gI_pL, gI_pR, gL_pI, gL_pL, gL_pR, gR_pI, gR_pL, gR_pR, gS_pI, gS_pL, gS_pR, ↓reduceIte, Nat.reduceEqDiff, decide_eq_true_eq, Option.bind_some, false_and, and_false, true_and, and_true, and_self, Nat.reduceAdd, not_false_eq_true, not_true_eq_false, wS, wR, inI, ite_self, Classical.not_not, cV65, cV66, cV67, cV68, cV69, cV70, cV71, cV72, cV73, cV74, cV75, cV76, cV77, cV78, cV79, cV80, cV81, cV82, cV83, cV84, cV85, cV86, cV87, cV88, cV89, cV90, hn, nJ_le, hle, bt_t, hvi, nJ_p1, ↓bnd a1', hb, hc2, s1, t1, ↓bnd hA, ↓bnd hW, ↓bnd a2']
