/-! planned -/
def fo (B : Nat → Bool) (F : Int32 → Nat → Int32) : Nat → Nat → Int32 → Int32
  | 0, _, a => a
  | k + 1, i, a => fo B F k (i + 1) (if B i then F a i else a)
theorem fo_none {B : Nat → Bool} {F : Int32 → Nat → Int32} : ∀ (k i : Nat) (a : Int32), (∀ j, B j = false) → fo B F k i a = a
  | 0, _, _, _ => rfl
  | k + 1, i, a, h => by rw [fo, h i, if_neg (by decide)]; exact fo_none k (i + 1) a h
def cst (V : BV) (v : Int32) : Int32 := fo (bt v) (fun a i => a + V 86 i) (nF V) 0 0
def uni (V : BV) (v : Int32) : Int32 := fo (bt v) (fun a i => a ||| V 87 i) (nF V) 0 0
def lsq (V : BV) (s : Nat) : Int32 := Int32.ofInt (gz 4 (sx V s) (sy V s) 0) * Int32.ofInt (gz 4 (sx V s) (sy V s) 0) + Int32.ofInt (gz 4 (sx V s) (sy V s) 1) * Int32.ofInt (gz 4 (sx V s) (sy V s) 1)
def wor (V : BV) (u : Int32) : Int32 := fo (bt u) (fun a s => a + lsq V s) (nS V) 0 0
theorem cst_0 (V : BV) : cst V 0 = 0 := fo_none _ _ _ b_0
theorem uni_0 (V : BV) : uni V 0 = 0 := fo_none _ _ _ b_0
theorem wor_0 (V : BV) : wor V 0 = 0 := fo_none _ _ _ b_0
theorem p2_n : ∀ n, n < 10 → (1 : Int32) <<< (nI n &&& 31) = nI (2 ^ n) := by decide +kernel
section
theorem z_min_4 {h : ax_H} (w : ok h) (g : GV (V h)) (v : Int32) : ∀ (k i : Nat) (a : Int32), i + k = nF (V h) → Bk_minutesOf_4 65 v a (nI i) h = some (fo (bt v) (fun a i => a + V h 86 i) k i a, h) := by
  have hcn := cnts g.1
  have hn := nI_nF g.1.2.2.2.2.2.2
  obtain ⟨wS, wR, wG, wN⟩ := w
  intro k
  induction k with
  | zero =>
    intro i a hi
    have hle : nF (V h) ≤ i := by omega
    rw [Bk_minutesOf_4_eq]
    try simp only [wS, wR, ↓reduceIte]
    simp (disch := omega) only [gI_pI, gI_pL, gI_pR, gL_pI, gL_pL, gL_pR, gR_pI, gR_pL, gR_pR, gS_pI, gS_pL, gS_pR, ↓reduceIte, Nat.reduceEqDiff, decide_eq_true_eq, Option.bind_some, false_and, and_false, true_and, and_true, and_self, Nat.reduceAdd, not_false_eq_true, not_true_eq_false, wS, wR, inI, ite_self, Classical.not_not, cV65, cV66, cV67, cV68, cV69, cV70, cV71, cV72, cV73, cV74, cV75, cV76, cV77, cV78, cV79, cV80, cV81, cV82, cV83, cV84, cV85, cV86, cV87, cV88, cV89, cV90, hn, nJ_le, hle]
    rfl
  | succ k ih =>
    intro i a hi
    have hle : ¬ nF (V h) ≤ i := by omega
    have hi9 : i < 9 := by omega
    rw [Bk_minutesOf_4_eq, fo]
    try simp only [wS, wR, ↓reduceIte]
    cases hb : bt v i with
    | false =>
      simp (disch := omega) only [gI_pI, gI_pL, gI_pR, gL_pI, gL_pL, gL_pR, gR_pI, gR_pL, gR_pR, gS_pI, gS_pL, gS_pR, ↓reduceIte, Nat.reduceEqDiff, decide_eq_true_eq, Option.bind_some, false_and, and_false, true_and, and_true, and_self, Nat.reduceAdd, not_false_eq_true, not_true_eq_false, wS, wR, inI, ite_self, Classical.not_not, cV65, cV66, cV67, cV68, cV69, cV70, cV71, cV72, cV73, cV74, cV75, cV76, cV77, cV78, cV79, cV80, cV81, cV82, cV83, cV84, cV85, cV86, cV87, cV88, cV89, cV90, hn, nJ_le, hle, bt_t, hb, nJ_p1, Bool.false_eq_true]
      exact ih (i + 1) a (by omega)
    | true =>
      simp (disch := omega) only [gI_pI, gI_pL, gI_pR, gL_pI, gL_pL, gL_pR, gR_pI, gR_pL, gR_pR, gS_pI, gS_pL, gS_pR, ↓reduceIte, Nat.reduceEqDiff, decide_eq_true_eq, Option.bind_some, false_and, and_false, true_and, and_true, and_self, Nat.reduceAdd, not_false_eq_true, not_true_eq_false, wS, wR, inI, ite_self, Classical.not_not, cV65, cV66, cV67, cV68, cV69, cV70, cV71, cV72, cV73, cV74, cV75, cV76, cV77, cV78, cV79, cV80, cV81, cV82, cV83, cV84, cV85, cV86, cV87, cV88, cV89, cV90, hn, nJ_le, hle, bt_t, hb, nJ_p1, Bool.true_eq_false, ax_in, nJ_nn, nJ_n, hi9]
      exact ih (i + 1) _ (by omega)
theorem z_minutes {h : ax_H} (w : ok h) (g : GV (V h)) (v : Int32) : Bk_minutesOf 65 v h = some (cst (V h) v, h) := by
  rw [Bk_minutesOf_eq]
  exact z_min_4 w g v (nF (V h)) 0 0 (by omega)
theorem z_lsq {h : ax_H} (w : ok h) (g : GV (V h)) {s : Nat} (hs : s < nS (V h)) : St_lightSquared 66 (nI s) h = some (lsq (V h) s, h) := by
  have w0 := w
  obtain ⟨wS, wR, wG, wN⟩ := w
  have h0 : St_give 66 4 (nI s) 0 h = some (Int32.ofInt (gz 4 (sx (V h) s) (sy (V h) s) 0), h) := z_give w0 g.1 g.2.1 (t := 4) (ax := 0) (by omega) hs (by omega)
  have h1 : St_give 66 4 (nI s) 1 h = some (Int32.ofInt (gz 4 (sx (V h) s) (sy (V h) s) 1), h) := z_give w0 g.1 g.2.1 (t := 4) (ax := 1) (by omega) hs (by omega)
  rw [St_lightSquared_eq]
  try simp only [wS, wR, ↓reduceIte]
  simp only [gI_pI, gI_pL, gI_pR, gL_pI, gL_pL, gL_pR, gR_pI, gR_pL, gR_pR, gS_pI, gS_pL, gS_pR, ↓reduceIte, Nat.reduceEqDiff, decide_eq_true_eq, Option.bind_some, false_and, and_false, true_and, and_true, and_self, Nat.reduceAdd, not_false_eq_true, not_true_eq_false, wS, wR, inI, ite_self, Classical.not_not, ↓bnd h0, ↓bnd h1]
  rfl
theorem z_wor_40 {h : ax_H} (w : ok h) (g : GV (V h)) (u : Int32) : ∀ (k i : Nat) (a : Int32), i + k = nS (V h) → Bk_worthOf_40 65 u a (nI i) h = some (fo (bt u) (fun a s => a + lsq (V h) s) k i a, h) := by
  have hcn := cnts g.1
  have hn := nI_nS g.1.2.1
  have w0 := w
  obtain ⟨wS, wR, wG, wN⟩ := w
  intro k
  induction k with
  | zero =>
    intro i a hi
    have hle : nS (V h) ≤ i := by omega
    rw [Bk_worthOf_40_eq]
    try simp only [wS, wR, ↓reduceIte]
    simp (disch := omega) only [gI_pI, gI_pL, gI_pR, gL_pI, gL_pL, gL_pR, gR_pI, gR_pL, gR_pR, gS_pI, gS_pL, gS_pR, ↓reduceIte, Nat.reduceEqDiff, decide_eq_true_eq, Option.bind_some, false_and, and_false, true_and, and_true, and_self, Nat.reduceAdd, not_false_eq_true, not_true_eq_false, wS, wR, inI, ite_self, Classical.not_not, cV65, cV66, cV67, cV68, cV69, cV70, cV71, cV72, cV73, cV74, cV75, cV76, cV77, cV78, cV79, cV80, cV81, cV82, cV83, cV84, cV85, cV86, cV87, cV88, cV89, cV90, hn, nJ_le, hle]
    rfl
  | succ k ih =>
    intro i a hi
    have hle : ¬ nS (V h) ≤ i := by omega
    have hl := z_lsq w0 g (s := i) (by omega)
    rw [Bk_worthOf_40_eq, fo]
    try simp only [wS, wR, ↓reduceIte]
    cases hb : bt u i with
    | false =>
      simp (disch := omega) only [gI_pI, gI_pL, gI_pR, gL_pI, gL_pL, gL_pR, gR_pI, gR_pL, gR_pR, gS_pI, gS_pL, gS_pR, ↓reduceIte, Nat.reduceEqDiff, decide_eq_true_eq, Option.bind_some, false_and, and_false, true_and, and_true, and_self, Nat.reduceAdd, not_false_eq_true, not_true_eq_false, wS, wR, inI, ite_self, Classical.not_not, cV65, cV66, cV67, cV68, cV69, cV70, cV71, cV72, cV73, cV74, cV75, cV76, cV77, cV78, cV79, cV80, cV81, cV82, cV83, cV84, cV85, cV86, cV87, cV88, cV89, cV90, hn, nJ_le, hle, bt_t, hb, nJ_p1, Bool.false_eq_true]
      exact ih (i + 1) a (by omega)
    | true =>
      simp (disch := omega) only [gI_pI, gI_pL, gI_pR, gL_pI, gL_pL, gL_pR, gR_pI, gR_pL, gR_pR, gS_pI, gS_pL, gS_pR, ↓reduceIte, Nat.reduceEqDiff, decide_eq_true_eq, Option.bind_some, false_and, and_false, true_and, and_true, and_self, Nat.reduceAdd, not_false_eq_true, not_true_eq_false, wS, wR, inI, ite_self, Classical.not_not, cV65, cV66, cV67, cV68, cV69, cV70, cV71, cV72, cV73, cV74, cV75, cV76, cV77, cV78, cV79, cV80, cV81, cV82, cV83, cV84, cV85, cV86, cV87, cV88, cV89, cV90, hn, nJ_le, hle, bt_t, hb, nJ_p1, Bool.true_eq_false, ↓bnd hl]
      exact ih (i + 1) _ (by omega)
theorem z_wor_4 {h : ax_H} (w : ok h) (g : GV (V h)) (v : Int32) : ∀ (k i : Nat) (a : Int32), i + k = nF (V h) → Bk_worthOf_4 65 v a (nI i) h = some (wor (V h) (fo (bt v) (fun a i => a ||| V h 87 i) k i a), h) := by
  have hcn := cnts g.1
  have hn := nI_nF g.1.2.2.2.2.2.2
  have w0 := w
  obtain ⟨wS, wR, wG, wN⟩ := w
  intro k
  induction k with
  | zero =>
    intro i a hi
    have hle : nF (V h) ≤ i := by omega
    have := z_wor_40 w0 g a (nS (V h)) 0 0 (by omega)
    rw [Bk_worthOf_4_eq]
    try simp only [wS, wR, ↓reduceIte]
    simp (disch := omega) only [gI_pI, gI_pL, gI_pR, gL_pI, gL_pL, gL_pR, gR_pI, gR_pL, gR_pR, gS_pI, gS_pL, gS_pR, ↓reduceIte, Nat.reduceEqDiff, decide_eq_true_eq, Option.bind_some, false_and, and_false, true_and, and_true, and_self, Nat.reduceAdd, not_false_eq_true, not_true_eq_false, wS, wR, inI, ite_self, Classical.not_not, cV65, cV66, cV67, cV68, cV69, cV70, cV71, cV72, cV73, cV74, cV75, cV76, cV77, cV78, cV79, cV80, cV81, cV82, cV83, cV84, cV85, cV86, cV87, cV88, cV89, cV90, hn, nJ_le, hle]
    exact this
  | succ k ih =>
    intro i a hi
    have hle : ¬ nF (V h) ≤ i := by omega
    have hi9 : i < 9 := by omega
    rw [Bk_worthOf_4_eq, fo]
    try simp only [wS, wR, ↓reduceIte]
    cases hb : bt v i with
    | false =>
      simp (disch := omega) only [gI_pI, gI_pL, gI_pR, gL_pI, gL_pL, gL_pR, gR_pI, gR_pL, gR_pR, gS_pI, gS_pL, gS_pR, ↓reduceIte, Nat.reduceEqDiff, decide_eq_true_eq, Option.bind_some, false_and, and_false, true_and, and_true, and_self, Nat.reduceAdd, not_false_eq_true, not_true_eq_false, wS, wR, inI, ite_self, Classical.not_not, cV65, cV66, cV67, cV68, cV69, cV70, cV71, cV72, cV73, cV74, cV75, cV76, cV77, cV78, cV79, cV80, cV81, cV82, cV83, cV84, cV85, cV86, cV87, cV88, cV89, cV90, hn, nJ_le, hle, bt_t, hb, nJ_p1, Bool.false_eq_true]
      exact ih (i + 1) a (by omega)
    | true =>
      simp (disch := omega) only [gI_pI, gI_pL, gI_pR, gL_pI, gL_pL, gL_pR, gR_pI, gR_pL, gR_pR, gS_pI, gS_pL, gS_pR, ↓reduceIte, Nat.reduceEqDiff, decide_eq_true_eq, Option.bind_some, false_and, and_false, true_and, and_true, and_self, Nat.reduceAdd, not_false_eq_true, not_true_eq_false, wS, wR, inI, ite_self, Classical.not_not, cV65, cV66, cV67, cV68, cV69, cV70, cV71, cV72, cV73, cV74, cV75, cV76, cV77, cV78, cV79, cV80, cV81, cV82, cV83, cV84, cV85, cV86, cV87, cV88, cV89, cV90, hn, nJ_le, hle, bt_t, hb, nJ_p1, Bool.true_eq_false, ax_in, nJ_nn, nJ_n, hi9]
      exact ih (i + 1) _ (by omega)
theorem z_worth {h : ax_H} (w : ok h) (g : GV (V h)) (v : Int32) : Bk_worthOf 65 v h = some (wor (V h) (uni (V h) v), h) := by
  rw [Bk_worthOf_eq]
  exact z_wor_4 w g v (nF (V h)) 0 0 (by omega)
end
/-- a set is better than another -/
def btr (V : BV) (m : Int32) (b s : Int32) : Bool := decide (cst V s ≤ m ∧ (wor V (uni V b) < wor V (uni V s) ∨ (wor V (uni V s) = wor V (uni V b) ∧ cst V s < cst V b)))
def plF (V : BV) (m : Int32) : Nat → Nat → Int32 → Int32
  | 0, _, b => b
  | k + 1, s, b => plF V m k (s + 1) (if btr V m b (nI s) then nI s else b)
section
theorem z_best_10 {h : ax_H} (w : ok h) (g : GV (V h)) (m : Int32) : ∀ (k s : Nat) (b : Int32), s + k = 2 ^ nF (V h) → Bk_bestFields_10 65 m b (wor (V h) (uni (V h) b)) (cst (V h) b) (nI s) h = some (plF (V h) m k s b, h) := by
  have hcn := cnts g.1
  have hn := nI_nF g.1.2.2.2.2.2.2
  have h2 := p2_n (nF (V h)) (by omega)
  have h512 : 2 ^ nF (V h) ≤ 512 := Nat.pow_le_pow_right (n := 2) (by omega) (show nF (V h) ≤ 9 by omega)
  have w0 := w
  obtain ⟨wS, wR, wG, wN⟩ := w
  intro k
  induction k with
  | zero =>
    intro s b hs
    have hle : 2 ^ nF (V h) ≤ s := by omega
    rw [Bk_bestFields_10_eq]
    try simp only [wS, wR, ↓reduceIte]
    simp (disch := omega) only [gI_pI, gI_pL, gI_pR, gL_pI, gL_pL, gL_pR, gR_pI, gR_pL, gR_pR, gS_pI, gS_pL, gS_pR, ↓reduceIte, Nat.reduceEqDiff, decide_eq_true_eq, Option.bind_some, false_and, and_false, true_and, and_true, and_self, Nat.reduceAdd, not_false_eq_true, not_true_eq_false, wS, wR, inI, ite_self, Classical.not_not, cV65, cV66, cV67, cV68, cV69, cV70, cV71, cV72, cV73, cV74, cV75, cV76, cV77, cV78, cV79, cV80, cV81, cV82, cV83, cV84, cV85, cV86, cV87, cV88, cV89, cV90, hn, h2, nJ_le, hle]
    rfl
  | succ k ih =>
    intro s b hs
    have hle : ¬ 2 ^ nF (V h) ≤ s := by omega
    have hm := z_minutes w0 g (nI s)
    have hw := z_worth w0 g (nI s)
    have i1 := ih (s + 1) b (by omega)
    have i2 := ih (s + 1) (nI s) (by omega)
    rw [Bk_bestFields_10_eq, plF]
    try simp only [wS, wR, ↓reduceIte]
    unfold btr
    by_cases c1 : cst (V h) (nI s) ≤ m
    · by_cases c2 : wor (V h) (uni (V h) b) < wor (V h) (uni (V h) (nI s))
      · simp (disch := omega) only [gI_pI, gI_pL, gI_pR, gL_pI, gL_pL, gL_pR, gR_pI, gR_pL, gR_pR, gS_pI, gS_pL, gS_pR, ↓reduceIte, Nat.reduceEqDiff, decide_eq_true_eq, Option.bind_some, false_and, and_false, true_and, and_true, and_self, Nat.reduceAdd, not_false_eq_true, not_true_eq_false, wS, wR, inI, ite_self, Classical.not_not, cV65, cV66, cV67, cV68, cV69, cV70, cV71, cV72, cV73, cV74, cV75, cV76, cV77, cV78, cV79, cV80, cV81, cV82, cV83, cV84, cV85, cV86, cV87, cV88, cV89, cV90, hn, h2, nJ_le, hle, ↓bnd hm, ↓bnd hw, c1, c2, nJ_p1, true_or, decide_true, i2]
      · by_cases c3 : wor (V h) (uni (V h) (nI s)) = wor (V h) (uni (V h) b)
        · by_cases c4 : cst (V h) b ≤ cst (V h) (nI s)
          · have c5 : ¬ cst (V h) (nI s) < cst (V h) b := by rw [i32_le] at c4; rw [i32_lt]; omega
            simp (disch := omega) only [gI_pI, gI_pL, gI_pR, gL_pI, gL_pL, gL_pR, gR_pI, gR_pL, gR_pR, gS_pI, gS_pL, gS_pR, ↓reduceIte, Nat.reduceEqDiff, decide_eq_true_eq, Option.bind_some, false_and, and_false, true_and, and_true, and_self, Nat.reduceAdd, not_false_eq_true, not_true_eq_false, wS, wR, inI, ite_self, Classical.not_not, cV65, cV66, cV67, cV68, cV69, cV70, cV71, cV72, cV73, cV74, cV75, cV76, cV77, cV78, cV79, cV80, cV81, cV82, cV83, cV84, cV85, cV86, cV87, cV88, cV89, cV90, hn, h2, nJ_le, hle, ↓bnd hm, ↓bnd hw, c1, c3, c4, c5, nJ_p1, or_self, decide_false, Bool.false_eq_true, i1, Int32.lt_irrefl]
          · have c5 : cst (V h) (nI s) < cst (V h) b := by rw [i32_le] at c4; rw [i32_lt]; omega
            simp (disch := omega) only [gI_pI, gI_pL, gI_pR, gL_pI, gL_pL, gL_pR, gR_pI, gR_pL, gR_pR, gS_pI, gS_pL, gS_pR, ↓reduceIte, Nat.reduceEqDiff, decide_eq_true_eq, Option.bind_some, false_and, and_false, true_and, and_true, and_self, Nat.reduceAdd, not_false_eq_true, not_true_eq_false, wS, wR, inI, ite_self, Classical.not_not, cV65, cV66, cV67, cV68, cV69, cV70, cV71, cV72, cV73, cV74, cV75, cV76, cV77, cV78, cV79, cV80, cV81, cV82, cV83, cV84, cV85, cV86, cV87, cV88, cV89, cV90, hn, h2, nJ_le, hle, ↓bnd hm, ↓bnd hw, c1, c3, c4, c5, nJ_p1, or_true, decide_true, Int32.lt_irrefl]
            rw [← c3]
            exact i2
        · simp (disch := omega) only [gI_pI, gI_pL, gI_pR, gL_pI, gL_pL, gL_pR, gR_pI, gR_pL, gR_pR, gS_pI, gS_pL, gS_pR, ↓reduceIte, Nat.reduceEqDiff, decide_eq_true_eq, Option.bind_some, false_and, and_false, true_and, and_true, and_self, Nat.reduceAdd, not_false_eq_true, not_true_eq_false, wS, wR, inI, ite_self, Classical.not_not, cV65, cV66, cV67, cV68, cV69, cV70, cV71, cV72, cV73, cV74, cV75, cV76, cV77, cV78, cV79, cV80, cV81, cV82, cV83, cV84, cV85, cV86, cV87, cV88, cV89, cV90, hn, h2, nJ_le, hle, ↓bnd hm, ↓bnd hw, c1, c2, c3, nJ_p1, or_self, decide_false, Bool.false_eq_true, i1]
    · simp (disch := omega) only [gI_pI, gI_pL, gI_pR, gL_pI, gL_pL, gL_pR, gR_pI, gR_pL, gR_pR, gS_pI, gS_pL, gS_pR, ↓reduceIte, Nat.reduceEqDiff, decide_eq_true_eq, Option.bind_some, false_and, and_false, true_and, and_true, and_self, Nat.reduceAdd, not_false_eq_true, not_true_eq_false, wS, wR, inI, ite_self, Classical.not_not, cV65, cV66, cV67, cV68, cV69, cV70, cV71, cV72, cV73, cV74, cV75, cV76, cV77, cV78, cV79, cV80, cV81, cV82, cV83, cV84, cV85, cV86, cV87, cV88, cV89, cV90, hn, h2, nJ_le, hle, ↓bnd hm, c1, nJ_p1, decide_false, Bool.false_eq_true, i1]
theorem z_best {h : ax_H} (w : ok h) (g : GV (V h)) (m : Int32) : Bk_bestFields 65 m h = some (plF (V h) m (2 ^ nF (V h) - 1) 1 0, h) := by
  have hp : 0 < 2 ^ nF (V h) := Nat.pow_pos (by omega)
  have := z_best_10 w g m (2 ^ nF (V h) - 1) 1 0 (by omega)
  rw [uni_0, wor_0, cst_0] at this
  rw [Bk_bestFields_eq]
  exact this
end
