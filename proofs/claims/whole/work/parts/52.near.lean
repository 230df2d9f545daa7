/-! near; whether a plate has an image; usable -/
theorem lgc_ge (a b : Int64) : 0 ≤ lg_cmp a b ↔ b.toInt ≤ a.toInt := by
  have h := lgc_lt a b
  rw [i32_lt] at h
  rw [i32_le]
  replace h : (lg_cmp a b).toInt < 0 ↔ a.toInt < b.toInt := h
  show 0 ≤ (lg_cmp a b).toInt ↔ _
  omega
theorem lgc_le (a b : Int64) : lg_cmp a b ≤ 0 ↔ a.toInt ≤ b.toInt := by
  have h := lgc_gt a b
  rw [i32_lt] at h
  rw [i32_le]
  replace h : 0 < (lg_cmp a b).toInt ↔ b.toInt < a.toInt := h
  show (lg_cmp a b).toInt ≤ 0 ↔ _
  omega
theorem lgc_eq (a b : Int64) : lg_cmp a b = 0 ↔ a.toInt = b.toInt := by
  have h1 := lgc_ge a b
  have h2 := lgc_le a b
  rw [i32_le] at h1 h2
  rw [i32_eq]
  replace h1 : 0 ≤ (lg_cmp a b).toInt ↔ b.toInt ≤ a.toInt := h1
  replace h2 : (lg_cmp a b).toInt ≤ 0 ↔ a.toInt ≤ b.toInt := h2
  show (lg_cmp a b).toInt = 0 ↔ _
  omega
def zabs (z : Int) : Int := if 0 ≤ z then z else -z
theorem z_abs {z : Int} (hz : -4611686018427387904 ≤ z ∧ z ≤ 4611686018427387904) (h : ax_H) : Jm_abs (Int64.ofInt z) h = some (Int64.ofInt (zabs z), h) := by
  rw [Jm_abs_eq]
  simp only [decide_eq_true_eq, lgc_ge, l_toInt (show -9223372036854775808 ≤ z ∧ z ≤ 9223372036854775807 by omega)]
  unfold zabs
  replace : (0 : Int64).toInt = 0 := rfl
  rw [this]
  by_cases hc : 0 ≤ z
  · rw [if_pos hc, if_pos hc]
  · rw [if_neg hc, if_neg hc, Int64.ofInt_neg]
theorem z_isNear (a b c : Int32) (h : ax_H) : B_isNear a b c h = some (bI (a.toInt - b.toInt ≤ c.toInt ∧ b.toInt - a.toInt ≤ c.toInt), h) := by
  have a1 := Int32.toInt_lt a
  have a2 := Int32.le_toInt a
  have b1 := Int32.toInt_lt b
  have b2 := Int32.le_toInt b
  have c1 := Int32.toInt_lt c
  have c2 := Int32.le_toInt c
  have e1 : a.toInt64 - b.toInt64 = Int64.ofInt (a.toInt - b.toInt) := by rw [i_L, i_L, Int64.ofInt_sub]
  have e2 : zabs (a.toInt - b.toInt) ≤ 4294967296 ∧ 0 ≤ zabs (a.toInt - b.toInt) := by unfold zabs; split <;> omega
  rw [B_isNear_eq, e1, bnd (z_abs (by omega) h)]
  simp only [decide_eq_true_eq, lgc_gt, Int32.toInt_toInt64, l_toInt (show -9223372036854775808 ≤ zabs (a.toInt - b.toInt) ∧ zabs (a.toInt - b.toInt) ≤ 9223372036854775807 by omega)]
  unfold bI
  by_cases hc : c.toInt < zabs (a.toInt - b.toInt)
  · rw [if_pos hc, if_neg]
    unfold zabs at hc
    split at hc <;> omega
  · rw [if_neg hc, if_pos]
    unfold zabs at hc
    split at hc <;> omega
def anyB (P : Nat → Bool) : Nat → Nat → Bool
  | 0, _ => false
  | k + 1, i => P i || anyB P k (i + 1)
theorem anyB_iff {P : Nat → Bool} : ∀ (k i : Nat), anyB P k i = true ↔ ∃ j, i ≤ j ∧ j < i + k ∧ P j = true
  | 0, i => by simp only [anyB]; exact ⟨fun q => (by cases q), fun ⟨j, a, b, _⟩ => (by omega)⟩
  | k + 1, i => by
    rw [anyB, Bool.or_eq_true, anyB_iff k (i + 1)]
    constructor
    · rintro (q | ⟨j, a, b, c⟩)
      · exact ⟨i, by omega, by omega, q⟩
      · exact ⟨j, by omega, by omega, c⟩
    · rintro ⟨j, a, b, c⟩
      by_cases e : j = i
      · subst e; exact Or.inl c
      · exact Or.inr ⟨j, by omega, by omega, c⟩
theorem ex_kv {V : BV} (g : GI V) {kn : Int32} (hk : kn.toInt ≤ 9999) {i : Nat} (hi : i < nM V) (hw : (V 80 i).toInt ≤ kn.toInt) : ∃ j, j < nM V ∧ sameK V i j ∧ kvB V kn j = true := by
  rcases max_ex (Q := fun j => decide (sameK V i j) && wkB V kn j) (nM V) with h | ⟨m, h1, h2, h3⟩
  · have := h i hi
    simp [sameK, wkB, hw] at this
  · rw [Bool.and_eq_true, decide_eq_true_eq] at h2
    refine ⟨m, h1, h2.1, (kv_iff g hk h1).mpr ⟨by simpa [wkB] using h2.2, fun k a b c => ?_⟩⟩
    have h4 := h3 k a b
    have hs : sameK V i k := ⟨h2.1.1.trans c.1, h2.1.2.1.trans c.2.1, h2.1.2.2.trans c.2.2⟩
    rw [decide_eq_true hs, Bool.true_and] at h4
    simp only [wkB, decide_eq_false_iff_not] at h4
    omega
section
theorem z_onP_2 {h : ax_H} (w : ok h) {n : Nat} (hn : V h 74 0 = nI n) (hn2 : n ≤ 100) (p kn : Int32) : ∀ (k i : Nat), i + k = n → Im_isOnPlate_2 74 p kn (nI i) h = some (bI (anyB (fun i => decide (V h 75 i = p) && kvB (V h) kn i) k i = true), h) := by
  have w' := w
  obtain ⟨wS, wR, wG, wN⟩ := w
  intro k
  induction k with
  | zero =>
    intro i hi
    rw [Im_isOnPlate_2_eq]
    simp (disch := omega) only [gI_pI, gI_pL, gI_pR, gL_pI, gL_pL, gL_pR, gR_pI, gR_pL, gR_pR, gS_pI, gS_pL, gS_pR, ↓reduceIte, Nat.reduceEqDiff, decide_eq_true_eq, Option.bind_some, false_and, and_false, true_and, and_true, and_self, Nat.reduceAdd, not_false_eq_true, not_true_eq_false, wS, wR, inI, ite_self, Classical.not_not, cV65, cV66, cV67, cV68, cV69, cV70, cV71, cV72, cV73, cV74, cV75, cV76, cV77, cV78, cV79, cV80, cV81, cV82, cV83, cV84, cV85, cV86, cV87, cV88, cV89, cV90, hn, nJ_le]
    rw [if_pos (by omega)]
    rfl
  | succ k ih =>
    intro i hi
    have hi2 : i < 100 := by omega
    have hle : ¬ n ≤ i := by omega
    rw [Im_isOnPlate_2_eq]
    try simp only [wS, wR, ↓reduceIte]
    simp (disch := omega) only [gI_pI, gI_pL, gI_pR, gL_pI, gL_pL, gL_pR, gR_pI, gR_pL, gR_pR, gS_pI, gS_pL, gS_pR, ↓reduceIte, Nat.reduceEqDiff, decide_eq_true_eq, Option.bind_some, false_and, and_false, true_and, and_true, and_self, Nat.reduceAdd, not_false_eq_true, not_true_eq_false, wS, wR, inI, ite_self, Classical.not_not, cV65, cV66, cV67, cV68, cV69, cV70, cV71, cV72, cV73, cV74, cV75, cV76, cV77, cV78, cV79, cV80, cV81, cV82, cV83, cV84, cV85, cV86, cV87, cV88, cV89, cV90, ax_in, hn, nJ_le, nJ_nn, nJ_n, nJ_p1, hi2, hle, ↓bnd (z_isKnown w' hi2 _), bI_0, ih (i + 1) (by omega)]
    rw [anyB]
    by_cases a : V h 75 i = p <;> by_cases e : kvB (V h) kn i = true <;> simp [a, e, bI]
theorem z_onP {h : ax_H} (w : ok h) {n : Nat} (hn : V h 74 0 = nI n) (hn2 : n ≤ 100) (p kn : Int32) : Im_isOnPlate 74 p kn h = some (bI (anyB (fun i => decide (V h 75 i = p) && kvB (V h) kn i) n 0 = true), h) := by
  rw [Im_isOnPlate_eq]
  exact z_onP_2 w hn hn2 p kn n 0 (by omega)
end
/-- a check plate near -/
def nrB (V : BV) (p : Nat) (off : Int32) (q : Nat) : Bool := decide (V 72 q = 2 ∧ V 71 q = V 71 p ∧ (V 73 q).toInt - (V 73 p).toInt ≤ off.toInt ∧ (V 73 p).toInt - (V 73 q).toInt ≤ off.toInt)
section
theorem z_chk_3 {h : ax_H} (w : ok h) {n m p : Nat} (hn : V h 74 0 = nI n) (hn2 : n ≤ 100) (hm : V h 70 0 = nI m) (hm2 : m ≤ 16) (hp : p < 16) (kn off : Int32) : ∀ (k i : Nat), i + k = m → Bk_hasCheckNear_3 65 (nI p) kn off (nI i) h = some (bI (anyB (fun q => nrB (V h) p off q && anyB (fun i => decide (V h 75 i = nI q) && kvB (V h) kn i) n 0) k i = true), h) := by
  have w' := w
  obtain ⟨wS, wR, wG, wN⟩ := w
  intro k
  induction k with
  | zero =>
    intro i hi
    rw [Bk_hasCheckNear_3_eq]
    try simp only [wS, wR, ↓reduceIte]
    simp (disch := omega) only [gI_pI, gI_pL, gI_pR, gL_pI, gL_pL, gL_pR, gR_pI, gR_pL, gR_pR, gS_pI, gS_pL, gS_pR, ↓reduceIte, Nat.reduceEqDiff, decide_eq_true_eq, Option.bind_some, false_and, and_false, true_and, and_true, and_self, Nat.reduceAdd, not_false_eq_true, not_true_eq_false, wS, wR, inI, ite_self, Classical.not_not, cV65, cV66, cV67, cV68, cV69, cV70, cV71, cV72, cV73, cV74, cV75, cV76, cV77, cV78, cV79, cV80, cV81, cV82, cV83, cV84, cV85, cV86, cV87, cV88, cV89, cV90, hm, nJ_le]
    rw [if_pos (by omega)]
    rfl
  | succ k ih =>
    intro i hi
    have hi2 : i < 16 := by omega
    have hle : ¬ m ≤ i := by omega
    rw [Bk_hasCheckNear_3_eq]
    try simp only [wS, wR, ↓reduceIte]
    simp (disch := omega) only [gI_pI, gI_pL, gI_pR, gL_pI, gL_pL, gL_pR, gR_pI, gR_pL, gR_pR, gS_pI, gS_pL, gS_pR, ↓reduceIte, Nat.reduceEqDiff, decide_eq_true_eq, Option.bind_some, false_and, and_false, true_and, and_true, and_self, Nat.reduceAdd, not_false_eq_true, not_true_eq_false, wS, wR, inI, ite_self, Classical.not_not, cV65, cV66, cV67, cV68, cV69, cV70, cV71, cV72, cV73, cV74, cV75, cV76, cV77, cV78, cV79, cV80, cV81, cV82, cV83, cV84, cV85, cV86, cV87, cV88, cV89, cV90, ax_in, hm, nJ_le, nJ_nn, nJ_n, nJ_p1, hi2, hle, hp, ↓bnd (z_isNear _ _ _ _), bI_0, Bk_hasCheckNear_82_eq, i1_0, ↓bnd (z_onP w' hn hn2 _ _), ih (i + 1) (by omega)]
    rw [anyB]
    by_cases a : V h 72 i = 2
    · by_cases b : V h 71 i = V h 71 p
      · by_cases c : (V h 73 i).toInt - (V h 73 p).toInt ≤ off.toInt ∧ (V h 73 p).toInt - (V h 73 i).toInt ≤ off.toInt
        · have e1 : nrB (V h) p off i = true := by unfold nrB; simp only [a, b, c, and_self, decide_true]
          by_cases d : anyB (fun j => decide (V h 75 j = nI i) && kvB (V h) kn j) n 0 = true
          · simp [a, b, c, d, e1, bI]
          · simp [a, b, c, d, e1, bI]
        · have e1 : nrB (V h) p off i = false := by unfold nrB; simp only [a, b, c, and_false, decide_false]
          simp only [a, b, c, e1, not_true_eq_false, ↓reduceIte, not_false_eq_true, Bool.false_and, Bool.false_or]
      · have e1 : nrB (V h) p off i = false := by unfold nrB; simp only [a, b, false_and, and_false, decide_false]
        simp only [a, b, e1, not_true_eq_false, ↓reduceIte, not_false_eq_true, Bool.false_and, Bool.false_or]
    · have e1 : nrB (V h) p off i = false := by unfold nrB; simp only [a, false_and, decide_false]
      simp only [a, e1, ↓reduceIte, not_false_eq_true, Bool.false_and, Bool.false_or]
end
section
/-- the reference's test of an image -/
theorem zm_us_44 {h : ax_H} (w : ok h) (e : EQ h) (g : GV (V h)) {n p : Nat} (hn : V h 74 0 = nI n) (hn2 : n ≤ 100) (hp : p < nP (V h)) (kn off : Int32) : ∀ (k i : Nat) (b : Bool), i + k = n → M_usable_44 159 (nI p) kn off (if b then 1 else 0) (nI i) h = some (bI ((b || anyB (fun i => nrB (V h) p off (V h 75 i).toInt.toNat && wkB (V h) kn i) k i) = true), h) := by
  have hcn := cnts g.1
  obtain ⟨wS, wR, wG, wN⟩ := w
  unfold EQ at e
  have hnM : nM (V h) = n := by show (V h 74 0).toInt.toNat = n; rw [hn, nJ_i (by omega)]; omega
  have hp2 : p < 16 := by omega
  intro k
  induction k with
  | zero =>
    intro i b hi
    have hle : n ≤ i := by omega
    rw [M_usable_44_eq]
    try simp only [wS, wR, ↓reduceIte]
    simp (disch := omega) only [gI_pI, gI_pL, gI_pR, gL_pI, gL_pL, gL_pR, gR_pI, gR_pL, gR_pR, gS_pI, gS_pL, gS_pR, ↓reduceIte, Nat.reduceEqDiff, decide_eq_true_eq, Option.bind_some, false_and, and_false, true_and, and_true, and_self, Nat.reduceAdd, not_false_eq_true, not_true_eq_false, wS, wR, inI, ite_self, Classical.not_not, e, hn, nJ_le, hle]
    cases b <;> simp [bI, anyB]
  | succ k ih =>
    intro i b hi
    have hi2 : i < 100 := by omega
    have hle : ¬ n ≤ i := by omega
    obtain ⟨q, hq, hq2, hq3, hq4⟩ := nI_ex (g.2.2.2.1.1 i (by omega)).1
    have hq5 : q < 16 := by omega
    have hq6 : (V h 75 i).toInt.toNat = q := by omega
    have g1 := (g.2.2.1 q (by omega)).2.2
    have g2 := (g.2.2.1 p hp).2.2
    have s1 : (V h 73 q - V h 73 p).toInt = (V h 73 q).toInt - (V h 73 p).toInt := i32_sub (by omega) (by omega)
    have s2 : (-(V h 73 q - V h 73 p)).toInt = -((V h 73 q).toInt - (V h 73 p).toInt) := by rw [i32_neg (by omega), s1]
    have i1 := ih (i + 1) true (by omega)
    have i0 := ih (i + 1) false (by omega)
    simp only [Bool.false_eq_true, ↓reduceIte, Bool.false_or, Bool.true_or] at i0 i1
    rw [anyB, hq6]
    cases b with
    | true =>
      simp only [↓reduceIte, Bool.true_or]
      rw [M_usable_44_eq]
      try simp only [wS, wR, ↓reduceIte]
      simp (disch := omega) only [gI_pI, gI_pL, gI_pR, gL_pI, gL_pL, gL_pR, gR_pI, gR_pL, gR_pR, gS_pI, gS_pL, gS_pR, ↓reduceIte, Nat.reduceEqDiff, decide_eq_true_eq, Option.bind_some, false_and, and_false, true_and, and_true, and_self, Nat.reduceAdd, not_false_eq_true, not_true_eq_false, wS, wR, inI, ite_self, Classical.not_not, e, ax_in, hn, nJ_le, nJ_nn, nJ_n, nJ_p1, hi2, hle, hp2, hq, hq5, i0, i1, i1_0]
    | false =>
      simp only [Bool.false_eq_true, ↓reduceIte, Bool.false_or]
      have x1 : off < V h 73 q - V h 73 p ↔ off.toInt < (V h 73 q).toInt - (V h 73 p).toInt := by rw [i32_lt, s1]
      have x2 : off < -(V h 73 q - V h 73 p) ↔ off.toInt < -((V h 73 q).toInt - (V h 73 p).toInt) := by rw [i32_lt, s2]
      have x3 : kn < V h 80 i ↔ kn.toInt < (V h 80 i).toInt := i32_lt
      by_cases a : V h 72 q = 2
      · by_cases b : V h 71 q = V h 71 p
        · by_cases c1 : off.toInt < (V h 73 q).toInt - (V h 73 p).toInt
          · have e1 : nrB (V h) p off q = false := by unfold nrB; rw [decide_eq_false_iff_not]; omega
            rw [M_usable_44_eq]
            try simp only [wS, wR, ↓reduceIte]
            simp (disch := omega) only [gI_pI, gI_pL, gI_pR, gL_pI, gL_pL, gL_pR, gR_pI, gR_pL, gR_pR, gS_pI, gS_pL, gS_pR, ↓reduceIte, Nat.reduceEqDiff, decide_eq_true_eq, Option.bind_some, false_and, and_false, true_and, and_true, and_self, Nat.reduceAdd, not_false_eq_true, not_true_eq_false, wS, wR, inI, ite_self, Classical.not_not, e, ax_in, hn, nJ_le, nJ_nn, nJ_n, nJ_p1, hi2, hle, hp2, hq, hq5, i0, i1, i1_0, a, b, x1, c1]
            simp only [e1, Bool.false_and, Bool.and_false, Bool.and_true, Bool.true_or, Bool.false_or]
          · by_cases c2 : off.toInt < -((V h 73 q).toInt - (V h 73 p).toInt)
            · have e1 : nrB (V h) p off q = false := by unfold nrB; rw [decide_eq_false_iff_not]; omega
              rw [M_usable_44_eq]
              try simp only [wS, wR, ↓reduceIte]
              simp (disch := omega) only [gI_pI, gI_pL, gI_pR, gL_pI, gL_pL, gL_pR, gR_pI, gR_pL, gR_pR, gS_pI, gS_pL, gS_pR, ↓reduceIte, Nat.reduceEqDiff, decide_eq_true_eq, Option.bind_some, false_and, and_false, true_and, and_true, and_self, Nat.reduceAdd, not_false_eq_true, not_true_eq_false, wS, wR, inI, ite_self, Classical.not_not, e, ax_in, hn, nJ_le, nJ_nn, nJ_n, nJ_p1, hi2, hle, hp2, hq, hq5, i0, i1, i1_0, a, b, x1, c1, x2, c2]
              simp only [e1, Bool.false_and, Bool.and_false, Bool.and_true, Bool.true_or, Bool.false_or]
            · have e1 : nrB (V h) p off q = true := by unfold nrB; rw [decide_eq_true_eq]; exact ⟨a, b, by omega, by omega⟩
              by_cases d : kn.toInt < (V h 80 i).toInt
              · have e2 : wkB (V h) kn i = false := by unfold wkB; rw [decide_eq_false_iff_not]; omega
                rw [M_usable_44_eq]
                try simp only [wS, wR, ↓reduceIte]
                simp (disch := omega) only [gI_pI, gI_pL, gI_pR, gL_pI, gL_pL, gL_pR, gR_pI, gR_pL, gR_pR, gS_pI, gS_pL, gS_pR, ↓reduceIte, Nat.reduceEqDiff, decide_eq_true_eq, Option.bind_some, false_and, and_false, true_and, and_true, and_self, Nat.reduceAdd, not_false_eq_true, not_true_eq_false, wS, wR, inI, ite_self, Classical.not_not, e, ax_in, hn, nJ_le, nJ_nn, nJ_n, nJ_p1, hi2, hle, hp2, hq, hq5, i0, i1, i1_0, a, b, x1, c1, x2, c2, x3, d]
                simp only [e1, e2, Bool.false_and, Bool.and_false, Bool.and_true, Bool.true_or, Bool.false_or]
              · have e2 : wkB (V h) kn i = true := by unfold wkB; rw [decide_eq_true_eq]; omega
                rw [M_usable_44_eq]
                try simp only [wS, wR, ↓reduceIte]
                simp (disch := omega) only [gI_pI, gI_pL, gI_pR, gL_pI, gL_pL, gL_pR, gR_pI, gR_pL, gR_pR, gS_pI, gS_pL, gS_pR, ↓reduceIte, Nat.reduceEqDiff, decide_eq_true_eq, Option.bind_some, false_and, and_false, true_and, and_true, and_self, Nat.reduceAdd, not_false_eq_true, not_true_eq_false, wS, wR, inI, ite_self, Classical.not_not, e, ax_in, hn, nJ_le, nJ_nn, nJ_n, nJ_p1, hi2, hle, hp2, hq, hq5, i0, i1, i1_0, a, b, x1, c1, x2, c2, x3, d]
                simp only [e1, e2, Bool.false_and, Bool.and_false, Bool.and_true, Bool.true_or, Bool.false_or]
        · have e1 : nrB (V h) p off q = false := by unfold nrB; simp only [a, b, false_and, and_false, decide_false]
          rw [M_usable_44_eq]
          try simp only [wS, wR, ↓reduceIte]
          simp (disch := omega) only [gI_pI, gI_pL, gI_pR, gL_pI, gL_pL, gL_pR, gR_pI, gR_pL, gR_pR, gS_pI, gS_pL, gS_pR, ↓reduceIte, Nat.reduceEqDiff, decide_eq_true_eq, Option.bind_some, false_and, and_false, true_and, and_true, and_self, Nat.reduceAdd, not_false_eq_true, not_true_eq_false, wS, wR, inI, ite_self, Classical.not_not, e, ax_in, hn, nJ_le, nJ_nn, nJ_n, nJ_p1, hi2, hle, hp2, hq, hq5, i0, i1, i1_0, a, b]
          simp only [e1, Bool.false_and, Bool.and_false, Bool.and_true, Bool.true_or, Bool.false_or]
      · have e1 : nrB (V h) p off q = false := by unfold nrB; simp only [a, false_and, decide_false]
        rw [M_usable_44_eq]
        try simp only [wS, wR, ↓reduceIte]
        simp (disch := omega) only [gI_pI, gI_pL, gI_pR, gL_pI, gL_pL, gL_pR, gR_pI, gR_pL, gR_pR, gS_pI, gS_pL, gS_pR, ↓reduceIte, Nat.reduceEqDiff, decide_eq_true_eq, Option.bind_some, false_and, and_false, true_and, and_true, and_self, Nat.reduceAdd, not_false_eq_true, not_true_eq_false, wS, wR, inI, ite_self, Classical.not_not, e, ax_in, hn, nJ_le, nJ_nn, nJ_n, nJ_p1, hi2, hle, hp2, hq, hq5, i0, i1, i1_0, a]
        simp only [e1, Bool.false_and, Bool.and_false, Bool.and_true, Bool.true_or, Bool.false_or]
end
theorem us_eq {V : BV} (g : GV V) {p : Nat} (off : Int32) {kn : Int32} (hk : kn.toInt ≤ 9999) : anyB (fun q => nrB V p off q && anyB (fun i => decide (V 75 i = nI q) && kvB V kn i) (nM V) 0) (nP V) 0 = true ↔ anyB (fun i => nrB V p off (V 75 i).toInt.toNat && wkB V kn i) (nM V) 0 = true := by
  have hcn := cnts g.1
  have gI := g.2.2.2.1
  rw [anyB_iff, anyB_iff]
  constructor
  · rintro ⟨q, -, h2, h3⟩
    rw [Bool.and_eq_true, anyB_iff] at h3
    obtain ⟨a, i, -, b2, b3⟩ := h3
    rw [Bool.and_eq_true, decide_eq_true_eq] at b3
    refine ⟨i, by omega, b2, ?_⟩
    rw [b3.1, nJ_i (by omega), Bool.and_eq_true]
    refine ⟨by simpa using a, ?_⟩
    have := (kv_iff gI hk (i := i) (by omega)).mp b3.2
    simpa [wkB] using this.1
  · rintro ⟨i, -, h2, h3⟩
    rw [Bool.and_eq_true] at h3
    have hw : (V 80 i).toInt ≤ kn.toInt := by simpa [wkB] using h3.2
    obtain ⟨j, j1, j2, j3⟩ := ex_kv gI hk (i := i) (by omega) hw
    have gi := gI.1 i (by omega)
    refine ⟨(V 75 i).toInt.toNat, by omega, by omega, ?_⟩
    rw [Bool.and_eq_true, anyB_iff]
    refine ⟨h3.1, j, by omega, by omega, ?_⟩
    rw [Bool.and_eq_true, decide_eq_true_eq]
    exact ⟨by rw [← j2.1]; exact nJ_of gi.1.1, j3⟩
theorem as_usable {h : ax_H} (i : I0 h) (p kn off : Int32) : asks (B_usable 64 p kn off h) (M_usable 159 p kn off h) h := by
  obtain ⟨w, e, g⟩ := i
  have w0 := w
  obtain ⟨wS, wR, wG, wN⟩ := w
  have e0 := e
  unfold EQ at e
  have hcn := cnts g.1
  have hn := nI_nM g.1.2.2.2.1
  have hm := nI_nP g.1.2.2.1
  by_cases h1 : inI p 0 ((V h 70 0).toInt - 1)
  case neg =>
    refine ⟨-1, ?_, ?_⟩
    · rw [B_usable_eq]
      try simp only [wS, wR, ↓reduceIte]
      simp only [gI_pI, gI_pL, gI_pR, gL_pI, gL_pL, gL_pR, gR_pI, gR_pL, gR_pR, gS_pI, gS_pL, gS_pR, ↓reduceIte, Nat.reduceEqDiff, decide_eq_true_eq, Option.bind_some, false_and, and_false, true_and, and_true, and_self, Nat.reduceAdd, not_false_eq_true, not_true_eq_false, wS, wR, inI, ite_self, Classical.not_not, ↓bnd (z_Pl_has w0 g.1 _), bI_0, h1]
    · rw [M_usable_eq]
      try simp only [wS, wR, ↓reduceIte]
      simp only [gI_pI, gI_pL, gI_pR, gL_pI, gL_pL, gL_pR, gR_pI, gR_pL, gR_pR, gS_pI, gS_pL, gS_pR, ↓reduceIte, Nat.reduceEqDiff, decide_eq_true_eq, Option.bind_some, false_and, and_false, true_and, and_true, and_self, Nat.reduceAdd, not_false_eq_true, not_true_eq_false, wS, wR, inI, ite_self, Classical.not_not, ↓bnd (zm_isPlate w0 g.1 e0 _), bI_0, h1]
  obtain ⟨j, rfl, hj, hj2, hj3⟩ := nI_ex h1
  have hj4 : j < 16 := by omega
  by_cases h2 : V h 72 j = 0
  case neg =>
    refine ⟨-1, ?_, ?_⟩
    · rw [B_usable_eq]
      try simp only [wS, wR, ↓reduceIte]
      simp (disch := omega) only [gI_pI, gI_pL, gI_pR, gL_pI, gL_pL, gL_pR, gR_pI, gR_pL, gR_pR, gS_pI, gS_pL, gS_pR, ↓reduceIte, Nat.reduceEqDiff, decide_eq_true_eq, Option.bind_some, false_and, and_false, true_and, and_true, and_self, Nat.reduceAdd, not_false_eq_true, not_true_eq_false, wS, wR, inI, ite_self, Classical.not_not, cV65, cV66, cV67, cV68, cV69, cV70, cV71, cV72, cV73, cV74, cV75, cV76, cV77, cV78, cV79, cV80, cV81, cV82, cV83, cV84, cV85, cV86, cV87, cV88, cV89, cV90, ↓bnd (z_Pl_has w0 g.1 _), bI_0, h1, h2, ax_in, nJ_nn, nJ_n, hj4]
    · rw [M_usable_eq]
      try simp only [wS, wR, ↓reduceIte]
      simp (disch := omega) only [gI_pI, gI_pL, gI_pR, gL_pI, gL_pL, gL_pR, gR_pI, gR_pL, gR_pR, gS_pI, gS_pL, gS_pR, ↓reduceIte, Nat.reduceEqDiff, decide_eq_true_eq, Option.bind_some, false_and, and_false, true_and, and_true, and_self, Nat.reduceAdd, not_false_eq_true, not_true_eq_false, wS, wR, inI, ite_self, Classical.not_not, e, ↓bnd (zm_isPlate w0 g.1 e0 _), bI_0, h1, h2, ax_in, nJ_nn, nJ_n, hj4]
  by_cases h3 : 0 ≤ kn.toInt ∧ kn.toInt ≤ 9999
  case neg =>
    refine ⟨-1, ?_, ?_⟩
    · rw [B_usable_eq]
      try simp only [wS, wR, ↓reduceIte]
      simp (disch := omega) only [gI_pI, gI_pL, gI_pR, gL_pI, gL_pL, gL_pR, gR_pI, gR_pL, gR_pR, gS_pI, gS_pL, gS_pR, ↓reduceIte, Nat.reduceEqDiff, decide_eq_true_eq, Option.bind_some, false_and, and_false, true_and, and_true, and_self, Nat.reduceAdd, not_false_eq_true, not_true_eq_false, wS, wR, inI, ite_self, Classical.not_not, cV65, cV66, cV67, cV68, cV69, cV70, cV71, cV72, cV73, cV74, cV75, cV76, cV77, cV78, cV79, cV80, cV81, cV82, cV83, cV84, cV85, cV86, cV87, cV88, cV89, cV90, ↓bnd (z_Pl_has w0 g.1 _), ↓bnd (z_isWeek _ _), bI_0, h1, h2, h3, ax_in, nJ_nn, nJ_n, hj4]
    · rw [M_usable_eq]
      try simp only [wS, wR, ↓reduceIte]
      simp (disch := omega) only [gI_pI, gI_pL, gI_pR, gL_pI, gL_pL, gL_pR, gR_pI, gR_pL, gR_pR, gS_pI, gS_pL, gS_pR, ↓reduceIte, Nat.reduceEqDiff, decide_eq_true_eq, Option.bind_some, false_and, and_false, true_and, and_true, and_self, Nat.reduceAdd, not_false_eq_true, not_true_eq_false, wS, wR, inI, ite_self, Classical.not_not, e, ↓bnd (zm_isPlate w0 g.1 e0 _), ↓bnd (zm_isWeek _ _), bI_0, h1, h2, h3, ax_in, nJ_nn, nJ_n, hj4]
  by_cases h4 : 0 ≤ off.toInt ∧ off.toInt ≤ 99
  case neg =>
    refine ⟨-1, ?_, ?_⟩
    · rw [B_usable_eq]
      try simp only [wS, wR, ↓reduceIte]
      simp (disch := omega) only [gI_pI, gI_pL, gI_pR, gL_pI, gL_pL, gL_pR, gR_pI, gR_pL, gR_pR, gS_pI, gS_pL, gS_pR, ↓reduceIte, Nat.reduceEqDiff, decide_eq_true_eq, Option.bind_some, false_and, and_false, true_and, and_true, and_self, Nat.reduceAdd, not_false_eq_true, not_true_eq_false, wS, wR, inI, ite_self, Classical.not_not, cV65, cV66, cV67, cV68, cV69, cV70, cV71, cV72, cV73, cV74, cV75, cV76, cV77, cV78, cV79, cV80, cV81, cV82, cV83, cV84, cV85, cV86, cV87, cV88, cV89, cV90, ↓bnd (z_Pl_has w0 g.1 _), ↓bnd (z_isWeek _ _), ↓bnd (z_isWithin _ _ _ _), bI_0, h1, h2, h3, h4, ax_in, nJ_nn, nJ_n, hj4, Int32.reduceToInt, Int64.reduceToInt, tN9, tN299, tN99999, tN9999, tN99, tL9, tL299, tL99999, tL9999, tL99, i1_0, i0_1]
    · rw [M_usable_eq]
      try simp only [wS, wR, ↓reduceIte]
      simp (disch := omega) only [gI_pI, gI_pL, gI_pR, gL_pI, gL_pL, gL_pR, gR_pI, gR_pL, gR_pR, gS_pI, gS_pL, gS_pR, ↓reduceIte, Nat.reduceEqDiff, decide_eq_true_eq, Option.bind_some, false_and, and_false, true_and, and_true, and_self, Nat.reduceAdd, not_false_eq_true, not_true_eq_false, wS, wR, inI, ite_self, Classical.not_not, e, ↓bnd (zm_isPlate w0 g.1 e0 _), ↓bnd (zm_isWeek _ _), ↓bnd (zm_in _ _ _ _), bI_0, h1, h2, h3, h4, ax_in, nJ_nn, nJ_n, hj4, Int32.toInt_toInt64, Int32.reduceToInt, Int64.reduceToInt, tN9, tN299, tN99999, tN9999, tN99, tL9, tL299, tL99999, tL9999, tL99, i1_0, i0_1]
  have hC : Bk_hasCheckNear 65 (nI j) kn off h = some (bI (anyB (fun q => nrB (V h) j off q && anyB (fun i => decide (V h 75 i = nI q) && kvB (V h) kn i) (nM (V h)) 0) (nP (V h)) 0 = true), h) := by
    rw [Bk_hasCheckNear_eq]
    exact z_chk_3 w0 hn (by omega) hm (by omega) hj4 kn off (nP (V h)) 0 (by omega)
  have hM := zm_us_44 w0 e0 g hn (by omega) (p := j) (by omega) kn off (nM (V h)) 0 false (by omega)
  simp only [Bool.false_eq_true, ↓reduceIte, Bool.false_or] at hM
  have hE := us_eq g (p := j) off h3.2
  refine ⟨bI (anyB (fun i => nrB (V h) j off (V h 75 i).toInt.toNat && wkB (V h) kn i) (nM (V h)) 0 = true), ?_, ?_⟩
  · rw [B_usable_eq]
    try simp only [wS, wR, ↓reduceIte]
    simp (disch := omega) only [gI_pI, gI_pL, gI_pR, gL_pI, gL_pL, gL_pR, gR_pI, gR_pL, gR_pR, gS_pI, gS_pL, gS_pR, ↓reduceIte, Nat.reduceEqDiff, decide_eq_true_eq, Option.bind_some, false_and, and_false, true_and, and_true, and_self, Nat.reduceAdd, not_false_eq_true, not_true_eq_false, wS, wR, inI, ite_self, Classical.not_not, cV65, cV66, cV67, cV68, cV69, cV70, cV71, cV72, cV73, cV74, cV75, cV76, cV77, cV78, cV79, cV80, cV81, cV82, cV83, cV84, cV85, cV86, cV87, cV88, cV89, cV90, ↓bnd (z_Pl_has w0 g.1 _), ↓bnd (z_isWeek _ _), ↓bnd (z_isWithin _ _ _ _), bI_0, h1, h2, h3, h4, ax_in, nJ_nn, nJ_n, hj4, Int32.reduceToInt, Int64.reduceToInt, tN9, tN299, tN99999, tN9999, tN99, tL9, tL299, tL99999, tL9999, tL99, i1_0, i0_1, ↓bnd hC]
    rw [bI_iff hE.symm]
    unfold bI
    by_cases q : anyB (fun q => nrB (V h) j off q && anyB (fun i => decide (V h 75 i = nI q) && kvB (V h) kn i) (nM (V h)) 0) (nP (V h)) 0 = true
    · rw [if_neg (not_not_intro q), if_pos q]
    · rw [if_pos q, if_neg q]
  · rw [M_usable_eq]
    try simp only [wS, wR, ↓reduceIte]
    simp (disch := omega) only [gI_pI, gI_pL, gI_pR, gL_pI, gL_pL, gL_pR, gR_pI, gR_pL, gR_pR, gS_pI, gS_pL, gS_pR, ↓reduceIte, Nat.reduceEqDiff, decide_eq_true_eq, Option.bind_some, false_and, and_false, true_and, and_true, and_self, Nat.reduceAdd, not_false_eq_true, not_true_eq_false, wS, wR, inI, ite_self, Classical.not_not, e, ↓bnd (zm_isPlate w0 g.1 e0 _), ↓bnd (zm_isWeek _ _), ↓bnd (zm_in _ _ _ _), bI_0, h1, h2, h3, h4, ax_in, nJ_nn, nJ_n, hj4, Int32.toInt_toInt64, Int32.reduceToInt, Int64.reduceToInt, tN9, tN299, tN99999, tN9999, tN99, tL9, tL299, tL99999, tL9999, tL99, i1_0, i0_1]
    exact hM
