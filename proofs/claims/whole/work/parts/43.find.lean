/-! first and last; which image counts -/
def firstI (P : Nat → Bool) : Nat → Nat → Int32
  | 0, _ => -1
  | k + 1, i => if P i then nI i else firstI P k (i + 1)
def lastI (Q : Nat → Bool) : Nat → Nat → Int32 → Int32
  | 0, _, l => l
  | k + 1, i, l => lastI Q k (i + 1) (if Q i then nI i else l)
theorem firstI_none {P : Nat → Bool} : ∀ (k i : Nat), (∀ j, i ≤ j → j < i + k → P j = false) → firstI P k i = -1
  | 0, _, _ => rfl
  | k + 1, i, h => by
    rw [firstI, if_neg (by rw [h i (by omega) (by omega)]; decide)]
    exact firstI_none k (i + 1) (fun j a b => h j (by omega) (by omega))
theorem firstI_some {P : Nat → Bool} {m : Nat} (hm : P m = true) : ∀ (k i : Nat), i ≤ m → m < i + k → (∀ j, i ≤ j → j < m → P j = false) → firstI P k i = nI m
  | 0, i, h1, h2, _ => by omega
  | k + 1, i, h1, h2, h => by
    rw [firstI]
    by_cases e : i = m
    · subst e; rw [if_pos hm]
    · rw [if_neg (by rw [h i (by omega) (by omega)]; decide)]
      exact firstI_some hm k (i + 1) (by omega) (by omega) (fun j a b => h j (by omega) b)
theorem lastI_none {Q : Nat → Bool} : ∀ (k i : Nat) (l : Int32), (∀ j, i ≤ j → j < i + k → Q j = false) → lastI Q k i l = l
  | 0, _, _, _ => rfl
  | k + 1, i, l, h => by
    rw [lastI, if_neg (by rw [h i (by omega) (by omega)]; decide)]
    exact lastI_none k (i + 1) l (fun j a b => h j (by omega) (by omega))
theorem lastI_some {Q : Nat → Bool} {m : Nat} (hm : Q m = true) : ∀ (k i : Nat) (l : Int32), i ≤ m → m < i + k → (∀ j, m < j → j < i + k → Q j = false) → lastI Q k i l = nI m
  | 0, i, l, h1, h2, _ => by omega
  | k + 1, i, l, h1, h2, h => by
    rw [lastI]
    by_cases e : i = m
    · subst e
      rw [if_pos hm]
      exact lastI_none k (i + 1) _ (fun j a b => h j (by omega) (by omega))
    · exact lastI_some hm k (i + 1) _ (by omega) (by omega) (fun j a b => h j a (by omega))
theorem max_ex {Q : Nat → Bool} : ∀ (n : Nat), (∀ j, j < n → Q j = false) ∨ ∃ m, m < n ∧ Q m = true ∧ ∀ j, m < j → j < n → Q j = false
  | 0 => Or.inl (fun j h => by omega)
  | n + 1 => by
    cases hq : Q n with
    | true => exact Or.inr ⟨n, by omega, hq, fun j a b => by omega⟩
    | false =>
      rcases max_ex (Q := Q) n with h | ⟨m, h1, h2, h3⟩
      · refine Or.inl (fun j hj => ?_)
        by_cases e : j = n
        · subst e; exact hq
        · exact h j (by omega)
      · refine Or.inr ⟨m, by omega, h2, fun j a b => ?_⟩
        by_cases e : j = n
        · subst e; exact hq
        · exact h3 j a (by omega)
theorem first_last {P Q : Nat → Bool} {n : Nat} (h : ∀ i, i < n → (P i = true ↔ (Q i = true ∧ ∀ k, i < k → k < n → Q k = false))) : firstI P n 0 = lastI Q n 0 (-1) := by
  rcases max_ex (Q := Q) n with hq | ⟨m, h1, h2, h3⟩
  · rw [lastI_none n 0 _ (fun j _ b => hq j (by omega)), firstI_none n 0 (fun j _ b => ?_)]
    cases hp : P j with
    | false => rfl
    | true => have := ((h j (by omega)).mp hp).1; rw [hq j (by omega)] at this; cases this
  · rw [lastI_some h2 n 0 _ (by omega) (by omega) (fun j a b => h3 j a (by omega)), firstI_some ((h m h1).mpr ⟨h2, h3⟩) n 0 (by omega) (by omega) (fun j _ b => ?_)]
    cases hp : P j with
    | false => rfl
    | true => have := ((h j (by omega)).mp hp).2 m b h1; rw [h2] at this; cases this
/-- an image counts at a week -/
def kvB (V : BV) (kn : Int32) (i : Nat) : Bool := decide ((V 80 i).toInt ≤ kn.toInt ∧ kn.toInt < (V 81 i).toInt)
def keyB (V : BV) (p s d : Int32) (i : Nat) : Bool := decide (V 75 i = p ∧ V 76 i = s ∧ V 77 i = d)
def wkB (V : BV) (kn : Int32) (i : Nat) : Bool := decide ((V 80 i).toInt ≤ kn.toInt)
theorem kv_iff {V : BV} (g : GI V) {kn : Int32} (hk : kn.toInt ≤ 9999) {i : Nat} (hi : i < nM V) : kvB V kn i = true ↔ ((V 80 i).toInt ≤ kn.toInt ∧ ∀ k, i < k → k < nM V → sameK V i k → kn.toInt < (V 80 k).toInt) := by
  unfold kvB
  rw [decide_eq_true_eq]
  obtain ⟨g2, g3, g4⟩ := g
  constructor
  · rintro ⟨a, b⟩
    refine ⟨a, fun k h1 h2 hs => ?_⟩
    rcases g4 i hi with ⟨-, c⟩ | ⟨j, c1, c2, c3, c4, c5⟩
    · exact absurd hs (c k h1 h2)
    · have hjk : j ≤ k := Nat.le_of_not_lt fun q => c5 k h1 q hs
      rw [c4] at b
      by_cases e : j = k
      · subst e; exact b
      · have := g3 j k (by omega) h2
        omega
  · rintro ⟨a, b⟩
    refine ⟨a, ?_⟩
    rcases g4 i hi with ⟨c, -⟩ | ⟨j, c1, c2, c3, c4, c5⟩
    · rw [c]
      show kn.toInt < 10000
      omega
    · rw [c4]; exact b j c1 c2 c3
/-- finding the image that counts is finding the last one told -/
theorem find_cnt {V : BV} (g : GI V) {kn : Int32} (hk : kn.toInt ≤ 9999) (p s d : Int32) : firstI (fun i => keyB V p s d i && kvB V kn i) (nM V) 0 = lastI (fun i => keyB V p s d i && wkB V kn i) (nM V) 0 (-1) := by
  refine first_last fun i hi => ?_
  rw [Bool.and_eq_true, kv_iff g hk hi, Bool.and_eq_true]
  constructor
  · rintro ⟨a, b, c⟩
    refine ⟨⟨a, by simpa [wkB] using b⟩, fun k h1 h2 => ?_⟩
    cases hq : keyB V p s d k with
    | false => rfl
    | true =>
      have ek : sameK V i k := by
        simp only [keyB, decide_eq_true_eq] at a hq
        exact ⟨a.1.trans hq.1.symm, a.2.1.trans hq.2.1.symm, a.2.2.trans hq.2.2.symm⟩
      have := c k h1 h2 ek
      simp only [Bool.true_and, wkB, decide_eq_false_iff_not]
      omega
  · rintro ⟨⟨a, b⟩, c⟩
    refine ⟨a, by simpa [wkB] using b, fun k h1 h2 hs => ?_⟩
    have hq : keyB V p s d k = true := by
      simp only [keyB, decide_eq_true_eq] at a ⊢
      exact ⟨hs.1.symm.trans a.1, hs.2.1.symm.trans a.2.1, hs.2.2.symm.trans a.2.2⟩
    have := c k h1 h2
    rw [hq, Bool.true_and] at this
    simp only [wkB, decide_eq_false_iff_not] at this
    omega
/-- the reference's test: the last one told of its own key -/
theorem counts_iff {V : BV} (g : GI V) (hn : nM V ≤ 100) {kn : Int32} (hk : kn.toInt ≤ 9999) {i : Nat} (hi : i < nM V) : ((V 80 i).toInt ≤ kn.toInt ∧ lastI (fun j => keyB V (V 75 i) (V 76 i) (V 77 i) j && wkB V kn j) (nM V) 0 (-1) = nI i) ↔ kvB V kn i = true := by
  constructor
  · rintro ⟨a, b⟩
    rw [kv_iff g hk hi]
    refine ⟨a, fun k h1 h2 hs => ?_⟩
    rcases max_ex (Q := fun j => keyB V (V 75 i) (V 76 i) (V 77 i) j && wkB V kn j) (nM V) with hq | ⟨m, m1, m2, m3⟩
    · have := hq i hi
      simp [keyB, wkB, a] at this
    · rw [lastI_some m2 (nM V) 0 _ (by omega) (by omega) (fun j x y => m3 j x (by omega)), nJ_eq (by omega) (by omega)] at b
      subst b
      have := m3 k h1 h2
      obtain ⟨e1, e2, e3⟩ := hs
      simp only [keyB, ← e1, ← e2, ← e3, wkB, and_self, decide_true, Bool.true_and, decide_eq_false_iff_not] at this
      omega
  · intro h
    have h' := (kv_iff g hk hi).mp h
    refine ⟨h'.1, lastI_some (by simp [keyB, wkB, h'.1]) (nM V) 0 _ (by omega) (by omega) (fun j x y => ?_)⟩
    cases hq : keyB V (V 75 i) (V 76 i) (V 77 i) j with
    | false => rfl
    | true =>
      simp only [keyB, decide_eq_true_eq] at hq
      have := h'.2 j x (by omega) ⟨hq.1.symm, hq.2.1.symm, hq.2.2.symm⟩
      simp only [Bool.true_and, wkB, decide_eq_false_iff_not]
      omega
/-! the rows of both sides -/
section
theorem z_isKnown {h : ax_H} (w : ok h) {i : Nat} (hi : i < 100) (kn : Int32) : Im_isKnown 74 (nI i) kn h = some (bI (kvB (V h) kn i = true), h) := by
  obtain ⟨wS, wR, wG, wN⟩ := w
  rw [Im_isKnown_eq]
  simp (disch := omega) only [gI_pI, gI_pL, gI_pR, gL_pI, gL_pL, gL_pR, gR_pI, gR_pL, gR_pR, gS_pI, gS_pL, gS_pR, ↓reduceIte, Nat.reduceEqDiff, decide_eq_true_eq, Option.bind_some, false_and, and_false, true_and, and_true, and_self, Nat.reduceAdd, not_false_eq_true, not_true_eq_false, wS, wR, cV65, cV66, cV67, cV68, cV69, cV70, cV71, cV72, cV73, cV74, cV75, cV76, cV77, cV78, cV79, cV80, cV81, cV82, cV83, cV84, cV85, cV86, cV87, cV88, cV89, cV90, ax_in, nJ_nn, nJ_n, hi, kvB]
  simp only [i32_lt, i32_le]
  unfold bI
  by_cases h1 : kn.toInt < (V h 80 i).toInt
  · rw [if_pos h1, if_neg (by omega)]
  · rw [if_neg h1]
    by_cases h2 : (V h 81 i).toInt ≤ kn.toInt
    · rw [if_pos h2, if_neg (by omega)]
    · rw [if_neg h2, if_pos (by omega)]
theorem z_find_3 {h : ax_H} (w : ok h) {n : Nat} (hn : V h 74 0 = nI n) (hn2 : n ≤ 100) (p s d kn : Int32) : ∀ (k i : Nat), i + k = n → Im_find_3 74 p s d kn (nI i) h = some (firstI (fun i => keyB (V h) p s d i && kvB (V h) kn i) k i, h) := by
  have w' := w
  obtain ⟨wS, wR, wG, wN⟩ := w
  intro k
  induction k with
  | zero =>
    intro i hi
    rw [Im_find_3_eq]
    simp (disch := omega) only [gI_pI, gI_pL, gI_pR, gL_pI, gL_pL, gL_pR, gR_pI, gR_pL, gR_pR, gS_pI, gS_pL, gS_pR, ↓reduceIte, Nat.reduceEqDiff, decide_eq_true_eq, Option.bind_some, false_and, and_false, true_and, and_true, and_self, Nat.reduceAdd, not_false_eq_true, not_true_eq_false, wS, wR, cV65, cV66, cV67, cV68, cV69, cV70, cV71, cV72, cV73, cV74, cV75, cV76, cV77, cV78, cV79, cV80, cV81, cV82, cV83, cV84, cV85, cV86, cV87, cV88, cV89, cV90, hn, nJ_le]
    rw [if_pos (by omega)]
    rfl
  | succ k ih =>
    intro i hi
    have hi2 : i < 100 := by omega
    have hle : ¬ n ≤ i := by omega
    rw [Im_find_3_eq]
    simp (disch := omega) only [gI_pI, gI_pL, gI_pR, gL_pI, gL_pL, gL_pR, gR_pI, gR_pL, gR_pR, gS_pI, gS_pL, gS_pR, ↓reduceIte, Nat.reduceEqDiff, decide_eq_true_eq, Option.bind_some, false_and, and_false, true_and, and_true, and_self, Nat.reduceAdd, not_false_eq_true, not_true_eq_false, wS, wR, cV65, cV66, cV67, cV68, cV69, cV70, cV71, cV72, cV73, cV74, cV75, cV76, cV77, cV78, cV79, cV80, cV81, cV82, cV83, cV84, cV85, cV86, cV87, cV88, cV89, cV90, ax_in, hn, nJ_le, nJ_nn, nJ_n, nJ_p1, hi2, hle, z_isKnown w' hi2, bI_0, ih (i + 1) (by omega)]
    rw [firstI]
    simp only [keyB]
    by_cases a : V h 75 i = p <;> by_cases b : V h 76 i = s <;> by_cases c : V h 77 i = d <;> by_cases e : kvB (V h) kn i = true <;> simp [a, b, c, e]
theorem z_find {h : ax_H} (w : ok h) {n : Nat} (hn : V h 74 0 = nI n) (hn2 : n ≤ 100) (p s d kn : Int32) : Im_find 74 p s d kn h = some (firstI (fun i => keyB (V h) p s d i && kvB (V h) kn i) n 0, h) := by
  rw [Im_find_eq]
  exact z_find_3 w hn hn2 p s d kn n 0 (by omega)
theorem zm_counting_6 {h : ax_H} (w : ok h) (e : EQ h) {n : Nat} (hn : V h 74 0 = nI n) (hn2 : n ≤ 100) (p s d kn : Int32) : ∀ (k i : Nat) (l : Int32), i + k = n → M_counting_6 159 p s d kn l (nI i) h = some (lastI (fun i => keyB (V h) p s d i && wkB (V h) kn i) k i l, h) := by
  obtain ⟨wS, wR, wG, wN⟩ := w
  unfold EQ at e
  intro k
  induction k with
  | zero =>
    intro i l hi
    rw [M_counting_6_eq]
    simp (disch := omega) only [gI_pI, gI_pL, gI_pR, gL_pI, gL_pL, gL_pR, gR_pI, gR_pL, gR_pR, gS_pI, gS_pL, gS_pR, ↓reduceIte, Nat.reduceEqDiff, decide_eq_true_eq, Option.bind_some, false_and, and_false, true_and, and_true, and_self, Nat.reduceAdd, not_false_eq_true, not_true_eq_false, wS, wR, e, hn, nJ_le]
    rw [if_pos (by omega)]
    rfl
  | succ k ih =>
    intro i l hi
    have hi2 : i < 100 := by omega
    have hle : ¬ n ≤ i := by omega
    rw [M_counting_6_eq]
    simp (disch := omega) only [gI_pI, gI_pL, gI_pR, gL_pI, gL_pL, gL_pR, gR_pI, gR_pL, gR_pR, gS_pI, gS_pL, gS_pR, ↓reduceIte, Nat.reduceEqDiff, decide_eq_true_eq, Option.bind_some, false_and, and_false, true_and, and_true, and_self, Nat.reduceAdd, not_false_eq_true, not_true_eq_false, wS, wR, e, ax_in, hn, nJ_le, nJ_nn, nJ_n, nJ_p1, hi2, hle, ih (i + 1) _ (by omega)]
    rw [lastI]
    simp only [keyB, wkB, i32_lt]
    by_cases a : V h 75 i = p <;> by_cases b : V h 76 i = s <;> by_cases c : V h 77 i = d <;> by_cases e : kn.toInt < (V h 80 i).toInt <;> simp [a, b, c, e, Int.not_le.mpr, Int.not_lt.mp]
theorem zm_counting {h : ax_H} (w : ok h) (e : EQ h) {n : Nat} (hn : V h 74 0 = nI n) (hn2 : n ≤ 100) (p s d kn : Int32) : M_counting 159 p s d kn h = some (lastI (fun i => keyB (V h) p s d i && wkB (V h) kn i) n 0 (-1), h) := by
  rw [M_counting_eq]
  exact zm_counting_6 w e hn hn2 p s d kn n 0 (-1) (by omega)
theorem zm_counts {h : ax_H} (w : ok h) (e : EQ h) {n : Nat} (g : GI (V h)) (hn : V h 74 0 = nI n) (hn2 : n ≤ 100) {i : Nat} (hi : i < n) {kn : Int32} (hk : kn.toInt ≤ 9999) : M_counts 159 (nI i) kn h = some (bI (kvB (V h) kn i = true), h) := by
  have w' := w
  obtain ⟨wS, wR, wG, wN⟩ := w
  have e' := e
  have hi2 : i < 100 := by omega
  unfold EQ at e
  have hm : nM (V h) = n := by unfold nM; rw [hn, nJ_i (by omega)]; rfl
  have hc := counts_iff g (by omega) hk (i := i) (by omega)
  rw [hm] at hc
  rw [M_counts_eq]
  simp (disch := omega) only [gI_pI, gI_pL, gI_pR, gL_pI, gL_pL, gL_pR, gR_pI, gR_pL, gR_pR, gS_pI, gS_pL, gS_pR, ↓reduceIte, Nat.reduceEqDiff, decide_eq_true_eq, Option.bind_some, false_and, and_false, true_and, and_true, and_self, Nat.reduceAdd, not_false_eq_true, not_true_eq_false, wS, wR, e, ax_in, nJ_nn, nJ_n, hi2, zm_counting w' e' hn hn2]
  simp only [i32_lt]
  unfold bI
  by_cases h1 : kn.toInt < (V h 80 i).toInt
  · rw [if_pos h1, if_neg (fun q => by have := hc.mpr q; omega)]
  · rw [if_neg h1]
    by_cases h2 : lastI (fun j => keyB (V h) (V h 75 i) (V h 76 i) (V h 77 i) j && wkB (V h) kn j) n 0 (-1) = nI i
    · rw [if_neg (by simpa using h2), if_pos (hc.mp ⟨by omega, h2⟩)]
    · rw [if_pos (by simpa using h2), if_neg (fun q => h2 (hc.mpr q).2)]
end
