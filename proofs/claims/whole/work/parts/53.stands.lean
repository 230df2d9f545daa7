/-! stands, off -/
def qry {α : Type} (P : Option (α × ax_H)) (Q : ax_H → Option (α × ax_H)) (h : ax_H) : Prop := ∃ v h1 h2, P = some (v, h1) ∧ Q h1 = some (v, h2) ∧ fr Sc h h1 ∧ fr Sm h1 h2
theorem qry_no {α : Type} {P : Option (α × ax_H)} {Q : ax_H → Option (α × ax_H)} {h : ax_H} {v : α} (a : P = some (v, h)) (b : Q h = some (v, h)) : qry P Q h := ⟨v, h, h, a, b, fr_rf _ _, fr_rf _ _⟩
/-- thousandths of a term on a plate -/
def wm (V : BV) (p : Nat) (ht li : Int32) (t : Nat) : Int32 := if t = 4 then (if V 72 p = 1 then 0 else li) else V 88 (6 * (V 71 p).toInt.toNat + t) + ht * V 89 (6 * (V 71 p).toInt.toNat + t)
def sumT (F : Nat → Int32) : Nat → Nat → Int32 → Int32
  | 0, _, a => a
  | k + 1, t, a => sumT F k (t + 1) (a + F t)
def stF (V : BV) (p : Nat) (ht li : Int32) (s ax t : Nat) : Int32 := wm V p ht li t * Int32.ofInt (gz t (sx V s) (sy V s) ax) / 1000
def stV (V : BV) (p : Nat) (ht li : Int32) (s ax : Nat) : Int32 := sumT (stF V p ht li s ax) 6 0 0
def Sw (a _k : Nat) : Bool := decide (a = 91)
theorem Sw_c {h h' : ax_H} (q : fr Sw h h') : fr Sc h h' := fr_le q fun a k z => by simp only [Sc, Sw, decide_eq_false_iff_not] at z ⊢; omega
theorem z_warm_17 {p : Nat} (hp : p < 16) (ht li : Int32) : ∀ (k t : Nat), t + k = 6 → ∀ (h : ax_H), ok h → inI (V h 71 p) 0 3 → ∃ h', Bk_warm_17 65 (nI p) ht li (V h 71 p * 6) (nI t) h = some h' ∧ fr Sw h h' ∧ (∀ u, u < 6 → t ≤ u ∨ u = 4 → gI h' 91 u = wm (V h) p ht li u) ∧ (∀ u, u < t → u ≠ 4 → gI h' 91 u = gI h 91 u) := by
  intro k
  induction k with
  | zero =>
    intro t hk h w hi
    have w0 := w
    obtain ⟨wS, wR, wG, wN⟩ := w
    have h6 : (6 : Int32) ≤ nI t := by rw [show (6 : Int32) = nI 6 from rfl, nJ_le (by omega) (by omega)]; omega
    refine ⟨pI h 91 4 (wm (V h) p ht li 4), ?_, fr_pI rfl, fun u h1 h2 => ?_, fun u h1 h2 => ?_⟩
    · rw [Bk_warm_17_eq]
      try simp only [wS, wR, ↓reduceIte]
      simp (disch := omega) only [gI_pI, gI_pL, gI_pR, gL_pI, gL_pL, gL_pR, gR_pI, gR_pL, gR_pR, gS_pI, gS_pL, gS_pR, ↓reduceIte, Nat.reduceEqDiff, decide_eq_true_eq, Option.bind_some, false_and, and_false, true_and, and_true, and_self, Nat.reduceAdd, not_false_eq_true, not_true_eq_false, wS, wR, inI, ite_self, Classical.not_not, cV65, cV66, cV67, cV68, cV69, cV70, cV71, cV72, cV73, cV74, cV75, cV76, cV77, cV78, cV79, cV80, cV81, cV82, cV83, cV84, cV85, cV86, cV87, cV88, cV89, cV90, h6, ax_in, nJ_nn, nJ_n, hp]
      unfold wm
      by_cases q : V h 72 p = 1
      · simp only [q, ↓reduceIte, not_true_eq_false]; rfl
      · simp only [q, ↓reduceIte, not_false_eq_true]; rfl
    · have : u = 4 := by omega
      subst this
      simp only [gI_pI, gI_pL, gI_pR, gL_pI, gL_pL, gL_pR, gR_pI, gR_pL, gR_pR, gS_pI, gS_pL, gS_pR, ↓reduceIte, Nat.reduceEqDiff, decide_eq_true_eq, Option.bind_some, false_and, and_false, true_and, and_true, and_self, Nat.reduceAdd, not_false_eq_true, not_true_eq_false, wS, wR, inI, ite_self, Classical.not_not]
    · simp only [gI_pI, gI_pL, gI_pR, gL_pI, gL_pL, gL_pR, gR_pI, gR_pL, gR_pR, gS_pI, gS_pL, gS_pR, ↓reduceIte, Nat.reduceEqDiff, decide_eq_true_eq, Option.bind_some, false_and, and_false, true_and, and_true, and_self, Nat.reduceAdd, not_false_eq_true, not_true_eq_false, wS, wR, inI, ite_self, Classical.not_not, h2]
  | succ k ih =>
    intro t hk h w hi
    have w0 := w
    obtain ⟨wS, wR, wG, wN⟩ := w
    have h6 : ¬ (6 : Int32) ≤ nI t := by rw [show (6 : Int32) = nI 6 from rfl, nJ_le (by omega) (by omega)]; omega
    obtain ⟨j, hj, hj2, hj3, hj4⟩ := nI_ex hi
    have e1 : nI j * 6 + nI t = nI (6 * j + t) := by rw [show (6 : Int32) = nI 6 from rfl, pk_mul, nI_add, Nat.mul_comm]
    have hjt : 6 * j + t < 24 := by omega
    have ht6 : t < 6 := by omega
    have hjn : (V h 71 p).toInt.toNat = j := by omega
    obtain ⟨h', q1, q2, q3, q4⟩ := ih (t + 1) (by omega) (pI h 91 t (V h 88 (6 * j + t) + ht * V h 89 (6 * j + t))) (ok_pI w0 _ _ _) (by simp only [gI_pI, gI_pL, gI_pR, gL_pI, gL_pL, gL_pR, gR_pI, gR_pL, gR_pR, gS_pI, gS_pL, gS_pR, ↓reduceIte, Nat.reduceEqDiff, decide_eq_true_eq, Option.bind_some, false_and, and_false, true_and, and_true, and_self, Nat.reduceAdd, not_false_eq_true, not_true_eq_false, wS, wR, inI, ite_self, Classical.not_not, inI, V_pI, u2, Nat.reduceLeDiff, nS, nP, nM, nD, nF, nW']; exact hi)
    have hV : V (pI h 91 t (V h 88 (6 * j + t) + ht * V h 89 (6 * j + t))) = V h := by simp only [gI_pI, gI_pL, gI_pR, gL_pI, gL_pL, gL_pR, gR_pI, gR_pL, gR_pR, gS_pI, gS_pL, gS_pR, ↓reduceIte, Nat.reduceEqDiff, decide_eq_true_eq, Option.bind_some, false_and, and_false, true_and, and_true, and_self, Nat.reduceAdd, not_false_eq_true, not_true_eq_false, wS, wR, inI, ite_self, Classical.not_not, inI, V_pI, u2, Nat.reduceLeDiff, nS, nP, nM, nD, nF, nW']
    rw [hV] at q1 q3
    refine ⟨h', ?_, fr_tr (fr_pI rfl) q2, fun u h1 h2 => ?_, fun u h1 h2 => ?_⟩
    · rw [Bk_warm_17_eq]
      try simp only [wS, wR, ↓reduceIte]
      rw [hj] at q1 ⊢
      simp (disch := omega) only [gI_pI, gI_pL, gI_pR, gL_pI, gL_pL, gL_pR, gR_pI, gR_pL, gR_pR, gS_pI, gS_pL, gS_pR, ↓reduceIte, Nat.reduceEqDiff, decide_eq_true_eq, Option.bind_some, false_and, and_false, true_and, and_true, and_self, Nat.reduceAdd, not_false_eq_true, not_true_eq_false, wS, wR, inI, ite_self, Classical.not_not, cV65, cV66, cV67, cV68, cV69, cV70, cV71, cV72, cV73, cV74, cV75, cV76, cV77, cV78, cV79, cV80, cV81, cV82, cV83, cV84, cV85, cV86, cV87, cV88, cV89, cV90, h6, ax_in, e1, nJ_nn, nJ_n, nJ_p1, hjt, ht6, q1]
    · by_cases hu : t + 1 ≤ u ∨ u = 4
      · exact q3 u h1 hu
      · have : u = t := by omega
        subst this
        rw [q4 u (by omega) (by omega)]
        unfold wm
        rw [if_neg (by omega), hjn]
        simp only [gI_pI, gI_pL, gI_pR, gL_pI, gL_pL, gL_pR, gR_pI, gR_pL, gR_pR, gS_pI, gS_pL, gS_pR, ↓reduceIte, Nat.reduceEqDiff, decide_eq_true_eq, Option.bind_some, false_and, and_false, true_and, and_true, and_self, Nat.reduceAdd, not_false_eq_true, not_true_eq_false, wS, wR, inI, ite_self, Classical.not_not]
    · rw [q4 u (by omega) h2]
      have : ¬ u = t := by omega
      simp only [gI_pI, gI_pL, gI_pR, gL_pI, gL_pL, gL_pR, gR_pI, gR_pL, gR_pR, gS_pI, gS_pL, gS_pR, ↓reduceIte, Nat.reduceEqDiff, decide_eq_true_eq, Option.bind_some, false_and, and_false, true_and, and_true, and_self, Nat.reduceAdd, not_false_eq_true, not_true_eq_false, wS, wR, inI, ite_self, Classical.not_not, this]
theorem z_warm {h : ax_H} (w : ok h) {p : Nat} (hp : p < 16) (hi : inI (V h 71 p) 0 3) (ht li : Int32) : ∃ h', Bk_warm 65 (nI p) ht li h = some h' ∧ fr Sw h h' ∧ (∀ u, u < 6 → gI h' 91 u = wm (V h) p ht li u) := by
  obtain ⟨h', q1, q2, q3, -⟩ := z_warm_17 hp ht li 6 0 (by omega) h w hi
  refine ⟨h', ?_, q2, fun u hu => q3 u hu (Or.inl (by omega))⟩
  obtain ⟨wS, wR, wG, wN⟩ := w
  rw [Bk_warm_eq]
  try simp only [wS, wR, ↓reduceIte]
  simp (disch := omega) only [gI_pI, gI_pL, gI_pR, gL_pI, gL_pL, gL_pR, gR_pI, gR_pL, gR_pR, gS_pI, gS_pL, gS_pR, ↓reduceIte, Nat.reduceEqDiff, decide_eq_true_eq, Option.bind_some, false_and, and_false, true_and, and_true, and_self, Nat.reduceAdd, not_false_eq_true, not_true_eq_false, wS, wR, inI, ite_self, Classical.not_not, cV65, cV66, cV67, cV68, cV69, cV70, cV71, cV72, cV73, cV74, cV75, cV76, cV77, cV78, cV79, cV80, cV81, cV82, cV83, cV84, cV85, cV86, cV87, cV88, cV89, cV90, ax_in, nJ_nn, nJ_n, hp]
  exact q1
section
theorem z_st_5 {h : ax_H} (w : ok h) (g : GV (V h)) {s ax : Nat} (hs : s < nS (V h)) (ha : ax < 2) {F : Nat → Int32} (hF : ∀ t, t < 6 → F t = gI h 91 t * Int32.ofInt (gz t (sx (V h) s) (sy (V h) s) ax) / 1000) : ∀ (k t : Nat) (a : Int32), t + k = 6 → Bk_standing_5 65 (nI s) (nI ax) a (nI t) h = some (sumT F k t a, h) := by
  have w0 := w
  obtain ⟨wS, wR, wG, wN⟩ := w
  intro k
  induction k with
  | zero =>
    intro t a hk
    have h6 : (6 : Int32) ≤ nI t := by rw [show (6 : Int32) = nI 6 from rfl, nJ_le (by omega) (by omega)]; omega
    rw [Bk_standing_5_eq]
    simp only [gI_pI, gI_pL, gI_pR, gL_pI, gL_pL, gL_pR, gR_pI, gR_pL, gR_pR, gS_pI, gS_pL, gS_pR, ↓reduceIte, Nat.reduceEqDiff, decide_eq_true_eq, Option.bind_some, false_and, and_false, true_and, and_true, and_self, Nat.reduceAdd, not_false_eq_true, not_true_eq_false, wS, wR, inI, ite_self, Classical.not_not, h6]
    rfl
  | succ k ih =>
    intro t a hk
    have ht6 : t < 6 := by omega
    have h6 : ¬ (6 : Int32) ≤ nI t := by rw [show (6 : Int32) = nI 6 from rfl, nJ_le (by omega) (by omega)]; omega
    have hg := z_give w0 g.1 g.2.1 ht6 hs ha
    have hFt := hF t ht6
    rw [Bk_standing_5_eq, sumT]
    try simp only [wS, wR, ↓reduceIte]
    by_cases q : gI h 91 t = 0
    · have : F t = 0 := by rw [hFt, q, Int32.zero_mul]; rfl
      rw [this, Int32.add_zero]
      simp (disch := omega) only [gI_pI, gI_pL, gI_pR, gL_pI, gL_pL, gL_pR, gR_pI, gR_pL, gR_pR, gS_pI, gS_pL, gS_pR, ↓reduceIte, Nat.reduceEqDiff, decide_eq_true_eq, Option.bind_some, false_and, and_false, true_and, and_true, and_self, Nat.reduceAdd, not_false_eq_true, not_true_eq_false, wS, wR, inI, ite_self, Classical.not_not, h6, ax_in, nJ_nn, nJ_n, nJ_p1, ht6, q]
      exact ih (t + 1) a (by omega)
    · simp (disch := omega) only [gI_pI, gI_pL, gI_pR, gL_pI, gL_pL, gL_pR, gR_pI, gR_pL, gR_pR, gS_pI, gS_pL, gS_pR, ↓reduceIte, Nat.reduceEqDiff, decide_eq_true_eq, Option.bind_some, false_and, and_false, true_and, and_true, and_self, Nat.reduceAdd, not_false_eq_true, not_true_eq_false, wS, wR, inI, ite_self, Classical.not_not, h6, ax_in, nJ_nn, nJ_n, nJ_p1, ht6, q, ↓bnd hg]
      rw [hFt]
      exact ih (t + 1) _ (by omega)
theorem zm_st_6 {h : ax_H} (w : ok h) (g : GV (V h)) (e : EQ h) {p s ax : Nat} (hp : p < nP (V h)) (hs : s < nS (V h)) (ha : ax < 2) (ht li : Int32) : ∀ (k t : Nat) (a : Int32), t + k = 6 → M_standing_6 159 (nI p) ht (nI s) li (nI ax) a (nI t) h = some (sumT (stF (V h) p ht li s ax) k t a, h) := by
  have hcn := cnts g.1
  have w0 := w
  have e0 := e
  unfold EQ at e
  obtain ⟨wS, wR, wG, wN⟩ := w
  obtain ⟨j, hj, hj2, hj3, hj4⟩ := nI_ex (g.2.2.1 p hp).1
  have hjn : (V h 71 p).toInt.toNat = j := by omega
  have hp2 : p < 16 := by omega
  intro k
  induction k with
  | zero =>
    intro t a hk
    have h6 : (6 : Int32) ≤ nI t := by rw [show (6 : Int32) = nI 6 from rfl, nJ_le (by omega) (by omega)]; omega
    rw [M_standing_6_eq]
    simp only [gI_pI, gI_pL, gI_pR, gL_pI, gL_pL, gL_pR, gR_pI, gR_pL, gR_pR, gS_pI, gS_pL, gS_pR, ↓reduceIte, Nat.reduceEqDiff, decide_eq_true_eq, Option.bind_some, false_and, and_false, true_and, and_true, and_self, Nat.reduceAdd, not_false_eq_true, not_true_eq_false, wS, wR, inI, ite_self, Classical.not_not, h6]
    rfl
  | succ k ih =>
    intro t a hk
    have ht6 : t < 6 := by omega
    have h6 : ¬ (6 : Int32) ≤ nI t := by rw [show (6 : Int32) = nI 6 from rfl, nJ_le (by omega) (by omega)]; omega
    have e1 : (6 : Int32) * nI j + nI t = nI (6 * j + t) := by rw [show (6 : Int32) = nI 6 from rfl, pk_mul, nI_add]
    have hjt : 6 * j + t < 24 := by omega
    have hg := zm_given w0 g.1 g.2.1 e0 ht6 hs ha
    have hI : M_standing_6 159 (nI p) ht (nI s) li (nI ax) (a + stF (V h) p ht li s ax t) (nI (t + 1)) h = some (sumT (stF (V h) p ht li s ax) k (t + 1) (a + stF (V h) p ht li s ax t), h) := ih (t + 1) _ (by omega)
    rw [sumT, ← hI]
    unfold stF wm
    rw [M_standing_6_eq]
    try simp only [wS, wR, ↓reduceIte]
    by_cases h4 : t = 4
    · by_cases hk1 : V h 72 p = 1
      · simp (disch := omega) only [gI_pI, gI_pL, gI_pR, gL_pI, gL_pL, gL_pR, gR_pI, gR_pL, gR_pR, gS_pI, gS_pL, gS_pR, ↓reduceIte, Nat.reduceEqDiff, decide_eq_true_eq, Option.bind_some, false_and, and_false, true_and, and_true, and_self, Nat.reduceAdd, not_false_eq_true, not_true_eq_false, wS, wR, inI, ite_self, Classical.not_not, e, h6, ax_in, nJ_nn, nJ_n, nJ_p1, hp2, h4, hk1, nI_eq4, hj, M_standing_69_eq, show nI 4 = 4 from rfl]
        rw [h4] at hg
        simp only [gI_pI, gI_pL, gI_pR, gL_pI, gL_pL, gL_pR, gR_pI, gR_pL, gR_pR, gS_pI, gS_pL, gS_pR, ↓reduceIte, Nat.reduceEqDiff, decide_eq_true_eq, Option.bind_some, false_and, and_false, true_and, and_true, and_self, Nat.reduceAdd, not_false_eq_true, not_true_eq_false, wS, wR, inI, ite_self, Classical.not_not, ↓bnd hg, show (4 : Int32) = nI 4 from rfl, nJ_p1]
        exact if_neg (by decide)
      · simp (disch := omega) only [gI_pI, gI_pL, gI_pR, gL_pI, gL_pL, gL_pR, gR_pI, gR_pL, gR_pR, gS_pI, gS_pL, gS_pR, ↓reduceIte, Nat.reduceEqDiff, decide_eq_true_eq, Option.bind_some, false_and, and_false, true_and, and_true, and_self, Nat.reduceAdd, not_false_eq_true, not_true_eq_false, wS, wR, inI, ite_self, Classical.not_not, e, h6, ax_in, nJ_nn, nJ_n, nJ_p1, hp2, h4, hk1, nI_eq4, hj, M_standing_69_eq, show nI 4 = 4 from rfl]
        rw [h4] at hg
        simp only [gI_pI, gI_pL, gI_pR, gL_pI, gL_pL, gL_pR, gR_pI, gR_pL, gR_pR, gS_pI, gS_pL, gS_pR, ↓reduceIte, Nat.reduceEqDiff, decide_eq_true_eq, Option.bind_some, false_and, and_false, true_and, and_true, and_self, Nat.reduceAdd, not_false_eq_true, not_true_eq_false, wS, wR, inI, ite_self, Classical.not_not, ↓bnd hg, show (4 : Int32) = nI 4 from rfl, nJ_p1]
        exact if_neg (by decide)
    · simp (disch := omega) only [gI_pI, gI_pL, gI_pR, gL_pI, gL_pL, gL_pR, gR_pI, gR_pL, gR_pR, gS_pI, gS_pL, gS_pR, ↓reduceIte, Nat.reduceEqDiff, decide_eq_true_eq, Option.bind_some, false_and, and_false, true_and, and_true, and_self, Nat.reduceAdd, not_false_eq_true, not_true_eq_false, wS, wR, inI, ite_self, Classical.not_not, e, h6, ax_in, nJ_nn, nJ_n, nJ_p1, hp2, h4, nI_eq4, hj, e1, hjt, M_standing_69_eq, ↓bnd hg, nJ_i, Int.toNat_natCast]
theorem zm_standing {h : ax_H} (w : ok h) (g : GV (V h)) (e : EQ h) {p s ax : Nat} (hp : p < nP (V h)) (hs : s < nS (V h)) (ha : ax < 2) (ht li : Int32) : M_standing 159 (nI p) ht (nI s) li (nI ax) h = some (stV (V h) p ht li s ax, h) := by
  rw [M_standing_eq]
  exact zm_st_6 w g e hp hs ha ht li 6 0 0 (by omega)
end
theorem sumT_eq {F G : Nat → Int32} : ∀ (k t : Nat) (a : Int32), (∀ u, t ≤ u → u < t + k → F u = G u) → sumT F k t a = sumT G k t a
  | 0, _, _, _ => rfl
  | k + 1, t, a, hh => by
    rw [sumT, sumT, hh t (by omega) (by omega)]
    exact sumT_eq k (t + 1) _ fun u h1 h2 => hh u (by omega) (by omega)
/-- a heap in which what each term amounts to is set -/
def Wm (h : ax_H) (p : Nat) (ht li : Int32) : Prop := ∀ u, u < 6 → gI h 91 u = wm (V h) p ht li u
theorem z_standing {h : ax_H} (w : ok h) (g : GV (V h)) {p s ax : Nat} (hs : s < nS (V h)) (ha : ax < 2) {ht li : Int32} (hw : Wm h p ht li) : Bk_standing 65 (nI s) (nI ax) h = some (stV (V h) p ht li s ax, h) := by
  rw [Bk_standing_eq]
  exact z_st_5 w g hs ha (fun t ht6 => by rw [hw t ht6]; rfl) 6 0 0 (by omega)
theorem qy_stands {h : ax_H} (i : I0 h) (p s li a : Int32) : qry (B_stands 64 p s li a h) (M_stands_X268 159 p s li a) h := by
  have i0 := i
  obtain ⟨w, e, g⟩ := i
  have w0 := w
  obtain ⟨wS, wR, wG, wN⟩ := w
  have e0 := e
  unfold EQ at e
  have hcn := cnts g.1
  by_cases h1 : inI p 0 ((V h 70 0).toInt - 1)
  case neg =>
    refine qry_no (v := -1000000) ?_ ?_
    · rw [B_stands_eq]
      try simp only [wS, wR, ↓reduceIte]
      simp only [gI_pI, gI_pL, gI_pR, gL_pI, gL_pL, gL_pR, gR_pI, gR_pL, gR_pR, gS_pI, gS_pL, gS_pR, ↓reduceIte, Nat.reduceEqDiff, decide_eq_true_eq, Option.bind_some, false_and, and_false, true_and, and_true, and_self, Nat.reduceAdd, not_false_eq_true, not_true_eq_false, wS, wR, inI, ite_self, Classical.not_not, ↓bnd (z_Pl_has w0 g.1 _), bI_0, h1]
    · rw [M_stands_X268_eq]
      try simp only [wS, wR, ↓reduceIte]
      simp only [gI_pI, gI_pL, gI_pR, gL_pI, gL_pL, gL_pR, gR_pI, gR_pL, gR_pR, gS_pI, gS_pL, gS_pR, ↓reduceIte, Nat.reduceEqDiff, decide_eq_true_eq, Option.bind_some, false_and, and_false, true_and, and_true, and_self, Nat.reduceAdd, not_false_eq_true, not_true_eq_false, wS, wR, inI, ite_self, Classical.not_not, ↓bnd (zm_isPlate w0 g.1 e0 _), bI_0, h1]
  by_cases h2 : inI s 0 ((V h 66 0).toInt - 1)
  case neg =>
    refine qry_no (v := -1000000) ?_ ?_
    · rw [B_stands_eq]
      try simp only [wS, wR, ↓reduceIte]
      simp only [gI_pI, gI_pL, gI_pR, gL_pI, gL_pL, gL_pR, gR_pI, gR_pL, gR_pR, gS_pI, gS_pL, gS_pR, ↓reduceIte, Nat.reduceEqDiff, decide_eq_true_eq, Option.bind_some, false_and, and_false, true_and, and_true, and_self, Nat.reduceAdd, not_false_eq_true, not_true_eq_false, wS, wR, inI, ite_self, Classical.not_not, ↓bnd (z_Pl_has w0 g.1 _), ↓bnd (z_St_has w0 g.1 _), bI_0, h1, h2]
    · rw [M_stands_X268_eq]
      try simp only [wS, wR, ↓reduceIte]
      simp only [gI_pI, gI_pL, gI_pR, gL_pI, gL_pL, gL_pR, gR_pI, gR_pL, gR_pR, gS_pI, gS_pL, gS_pR, ↓reduceIte, Nat.reduceEqDiff, decide_eq_true_eq, Option.bind_some, false_and, and_false, true_and, and_true, and_self, Nat.reduceAdd, not_false_eq_true, not_true_eq_false, wS, wR, inI, ite_self, Classical.not_not, ↓bnd (zm_isPlate w0 g.1 e0 _), ↓bnd (zm_isStar w0 g.1 e0 _), bI_0, h1, h2]
  by_cases h3 : 0 ≤ li.toInt ∧ li.toInt ≤ 99999
  case neg =>
    refine qry_no (v := -1000000) ?_ ?_
    · rw [B_stands_eq]
      try simp only [wS, wR, ↓reduceIte]
      simp only [gI_pI, gI_pL, gI_pR, gL_pI, gL_pL, gL_pR, gR_pI, gR_pL, gR_pR, gS_pI, gS_pL, gS_pR, ↓reduceIte, Nat.reduceEqDiff, decide_eq_true_eq, Option.bind_some, false_and, and_false, true_and, and_true, and_self, Nat.reduceAdd, not_false_eq_true, not_true_eq_false, wS, wR, inI, ite_self, Classical.not_not, ↓bnd (z_Pl_has w0 g.1 _), ↓bnd (z_St_has w0 g.1 _), ↓bnd (z_isNumber _ _), bI_0, h1, h2, h3]
    · rw [M_stands_X268_eq]
      try simp only [wS, wR, ↓reduceIte]
      simp only [gI_pI, gI_pL, gI_pR, gL_pI, gL_pL, gL_pR, gR_pI, gR_pL, gR_pR, gS_pI, gS_pL, gS_pR, ↓reduceIte, Nat.reduceEqDiff, decide_eq_true_eq, Option.bind_some, false_and, and_false, true_and, and_true, and_self, Nat.reduceAdd, not_false_eq_true, not_true_eq_false, wS, wR, inI, ite_self, Classical.not_not, ↓bnd (zm_isPlate w0 g.1 e0 _), ↓bnd (zm_isStar w0 g.1 e0 _), ↓bnd (zm_in _ _ _ _), bI_0, h1, h2, h3, Int32.toInt_toInt64, Int32.reduceToInt, Int64.reduceToInt, tN9, tN299, tN99999, tN9999, tN99, tL9, tL299, tL99999, tL9999, tL99, i1_0, i0_1]
  by_cases h4 : a = 0 ∨ a = 1
  case neg =>
    have h4' : ¬ (0 ≤ a.toInt ∧ a.toInt ≤ 1) := fun q => h4 (ch_iff.mp q)
    refine qry_no (v := -1000000) ?_ ?_
    · rw [B_stands_eq]
      try simp only [wS, wR, ↓reduceIte]
      simp only [gI_pI, gI_pL, gI_pR, gL_pI, gL_pL, gL_pR, gR_pI, gR_pL, gR_pR, gS_pI, gS_pL, gS_pR, ↓reduceIte, Nat.reduceEqDiff, decide_eq_true_eq, Option.bind_some, false_and, and_false, true_and, and_true, and_self, Nat.reduceAdd, not_false_eq_true, not_true_eq_false, wS, wR, inI, ite_self, Classical.not_not, ↓bnd (z_Pl_has w0 g.1 _), ↓bnd (z_St_has w0 g.1 _), ↓bnd (z_isNumber _ _), ↓bnd (z_isChoice _ _), bI_0, h1, h2, h3, h4]
    · rw [M_stands_X268_eq]
      try simp only [wS, wR, ↓reduceIte]
      simp only [gI_pI, gI_pL, gI_pR, gL_pI, gL_pL, gL_pR, gR_pI, gR_pL, gR_pR, gS_pI, gS_pL, gS_pR, ↓reduceIte, Nat.reduceEqDiff, decide_eq_true_eq, Option.bind_some, false_and, and_false, true_and, and_true, and_self, Nat.reduceAdd, not_false_eq_true, not_true_eq_false, wS, wR, inI, ite_self, Classical.not_not, ↓bnd (zm_isPlate w0 g.1 e0 _), ↓bnd (zm_isStar w0 g.1 e0 _), ↓bnd (zm_in _ _ _ _), bI_0, h1, h2, h3, h4', Int32.toInt_toInt64, Int32.reduceToInt, Int64.reduceToInt, tN9, tN299, tN99999, tN9999, tN99, tL9, tL299, tL99999, tL9999, tL99, i1_0, i0_1]
  have h4' := ch_iff.mpr h4
  obtain ⟨j, rfl, hj, hj2, hj3⟩ := nI_ex h1
  obtain ⟨t, rfl, ht, ht2, ht3⟩ := nI_ex h2
  obtain ⟨a', rfl, ha'⟩ := ch_ex h4
  have hj4 : j < 16 := by omega
  have hj5 : j < nP (V h) := by omega
  obtain ⟨h', q1, q2, q3⟩ := z_warm w0 hj4 (g.2.2.1 j hj5).1 (V h 73 j) li
  have qc := Sw_c q2
  have hV := V_frc qc
  have i1 := I0_frc qc i0
  have hst := z_standing (h := h') i1.1 i1.2.2 (p := j) (s := t) (ax := a') (by rw [hV]; omega) ha' (ht := V h 73 j) (li := li) (fun u hu => by rw [hV]; exact q3 u hu)
  rw [hV] at hst
  refine ⟨stV (V h) j (V h 73 j) li t a', h', h', ?_, ?_, qc, fr_rf _ _⟩
  · have sS := fr_S q2
    have sR := fr_R q2
    rw [B_stands_eq]
    try simp only [wS, wR, ↓reduceIte]
    simp (disch := omega) only [gI_pI, gI_pL, gI_pR, gL_pI, gL_pL, gL_pR, gR_pI, gR_pL, gR_pR, gS_pI, gS_pL, gS_pR, ↓reduceIte, Nat.reduceEqDiff, decide_eq_true_eq, Option.bind_some, false_and, and_false, true_and, and_true, and_self, Nat.reduceAdd, not_false_eq_true, not_true_eq_false, wS, wR, inI, ite_self, Classical.not_not, cV65, cV66, cV67, cV68, cV69, cV70, cV71, cV72, cV73, cV74, cV75, cV76, cV77, cV78, cV79, cV80, cV81, cV82, cV83, cV84, cV85, cV86, cV87, cV88, cV89, cV90, ↓bnd (z_Pl_has w0 g.1 _), ↓bnd (z_St_has w0 g.1 _), ↓bnd (z_isNumber _ _), ↓bnd (z_isChoice _ _), bI_0, h1, h2, h3, h4, ax_in, nJ_nn, nJ_n, hj4, ↓bnd q1, sS, sR, ↓bnd hst]
  · obtain ⟨w1, e1, g1⟩ := i1
    have hM := zm_standing w1 g1 e1 (p := j) (s := t) (ax := a') (by rw [hV]; omega) (by rw [hV]; omega) ha' (V h 73 j) li
    have hP := zm_isPlate w1 g1.1 e1 (nI j)
    have hS := zm_isStar w1 g1.1 e1 (nI t)
    rw [hV] at hM hP hS
    obtain ⟨vS, vR, vG, vN⟩ := w1
    have e1' := e1
    unfold EQ at e1'
    rw [hV] at e1'
    rw [M_stands_X268_eq]
    simp only [vS, vR, ↓reduceIte]
    simp (disch := omega) only [gI_pI, gI_pL, gI_pR, gL_pI, gL_pL, gL_pR, gR_pI, gR_pL, gR_pR, gS_pI, gS_pL, gS_pR, ↓reduceIte, Nat.reduceEqDiff, decide_eq_true_eq, Option.bind_some, false_and, and_false, true_and, and_true, and_self, Nat.reduceAdd, not_false_eq_true, not_true_eq_false, wS, wR, inI, ite_self, Classical.not_not, vS, vR, e1', ↓bnd hP, ↓bnd hS, ↓bnd (zm_in _ _ _ _), bI_0, h1, h2, h3, h4', Int32.toInt_toInt64, Int32.reduceToInt, Int64.reduceToInt, tN9, tN299, tN99999, tN9999, tN99, tL9, tL299, tL99999, tL9999, tL99, i1_0, i0_1, ax_in, nJ_nn, nJ_n, hj4, ↓bnd hM]
