/-! what a hand measures; the others at its place -/
def me (V : BV) (w i : Nat) : Int := if w = 0 then (V 78 i).toInt else sx V (V 76 i).toInt.toNat * (V 78 i).toInt + sy V (V 76 i).toInt.toNat * (V 79 i).toInt
theorem me_bd {V : BV} (g : GV V) {i : Nat} (hi : i < nM V) (w : Nat) : -5382 ≤ me V w i ∧ me V w i ≤ 5382 := by
  have hcn := cnts g.1
  have gi := g.2.2.2.1.1 i hi
  obtain ⟨s1, s2, -, -⟩ := g.2.1 (V 76 i).toInt.toNat (by omega)
  have m1 := mul_bd (x := (V 67 (V 76 i).toInt.toNat).toInt) (y := (V 78 i).toInt) (k := 9) (m := 299) s1 (by omega)
  have m2 := mul_bd (x := (V 68 (V 76 i).toInt.toNat).toInt) (y := (V 79 i).toInt) (k := 9) (m := 299) s2 (by omega)
  unfold me
  split
  · omega
  · simp only [sx, sy]; omega
theorem me_i {V : BV} {i s : Nat} (hs : (V 76 i).toInt.toNat = s) : V 67 s * V 78 i + V 68 s * V 79 i = Int32.ofInt (me V 1 i) := by
  unfold me
  rw [if_neg (by omega), hs, Int32.ofInt_add, Int32.ofInt_mul, Int32.ofInt_mul, Int32.ofInt_toInt, Int32.ofInt_toInt, Int32.ofInt_toInt, Int32.ofInt_toInt]
section
theorem z_measure {h : ax_H} (w : ok h) (g : GV (V h)) {i u : Nat} (hi : i < nM (V h)) (hu : u < 2) : Ln_measure 65 (nI i) (nI u) h = some (Int64.ofInt (me (V h) u i), h) := by
  have hcn := cnts g.1
  have hb := me_bd g hi u
  obtain ⟨wS, wR, wG, wN⟩ := w
  obtain ⟨s, hs, hs2, hs3, hs4⟩ := nI_ex (g.2.2.2.1.1 i hi).2.1
  have hs6 : (V h 76 i).toInt.toNat = s := by omega
  have hs30 : s < 30 := by omega
  have hi2 : i < 100 := by omega
  rw [Ln_measure_eq]
  try simp only [wS, wR, ↓reduceIte]
  match u, hu with
  | 0, _ =>
    simp (disch := omega) only [gI_pI, gI_pL, gI_pR, gL_pI, gL_pL, gL_pR, gR_pI, gR_pL, gR_pR, gS_pI, gS_pL, gS_pR, ↓reduceIte, Nat.reduceEqDiff, decide_eq_true_eq, Option.bind_some, false_and, and_false, true_and, and_true, and_self, Nat.reduceAdd, not_false_eq_true, not_true_eq_false, wS, wR, inI, ite_self, Classical.not_not, cV65, cV66, cV67, cV68, cV69, cV70, cV71, cV72, cV73, cV74, cV75, cV76, cV77, cV78, cV79, cV80, cV81, cV82, cV83, cV84, cV85, cV86, cV87, cV88, cV89, cV90, ax_in, nJ_nn, nJ_n, hi2, show nI 0 = 0 from rfl]
    rw [i_L]
    rfl
  | 1, _ =>
    simp (disch := omega) only [gI_pI, gI_pL, gI_pR, gL_pI, gL_pL, gL_pR, gR_pI, gR_pL, gR_pR, gS_pI, gS_pL, gS_pR, ↓reduceIte, Nat.reduceEqDiff, decide_eq_true_eq, Option.bind_some, false_and, and_false, true_and, and_true, and_self, Nat.reduceAdd, not_false_eq_true, not_true_eq_false, wS, wR, inI, ite_self, Classical.not_not, cV65, cV66, cV67, cV68, cV69, cV70, cV71, cV72, cV73, cV74, cV75, cV76, cV77, cV78, cV79, cV80, cV81, cV82, cV83, cV84, cV85, cV86, cV87, cV88, cV89, cV90, ax_in, nJ_nn, nJ_n, hi2, hs, hs30, show nI 1 = 1 from rfl, i1_0, me_i hs6]
    rw [i_toL (by omega)]
theorem zm_told {h : ax_H} (w : ok h) (g : GV (V h)) (e : EQ h) {i u : Nat} (hi : i < nM (V h)) (hu : u < 2) : M_toldBy 159 (nI i) (nI u) h = some (Int32.ofInt (me (V h) u i), h) := by
  have hcn := cnts g.1
  obtain ⟨wS, wR, wG, wN⟩ := w
  unfold EQ at e
  obtain ⟨s, hs, hs2, hs3, hs4⟩ := nI_ex (g.2.2.2.1.1 i hi).2.1
  have hs6 : (V h 76 i).toInt.toNat = s := by omega
  have hs30 : s < 30 := by omega
  have hi2 : i < 100 := by omega
  rw [M_toldBy_eq]
  try simp only [wS, wR, ↓reduceIte]
  match u, hu with
  | 0, _ =>
    simp (disch := omega) only [gI_pI, gI_pL, gI_pR, gL_pI, gL_pL, gL_pR, gR_pI, gR_pL, gR_pR, gS_pI, gS_pL, gS_pR, ↓reduceIte, Nat.reduceEqDiff, decide_eq_true_eq, Option.bind_some, false_and, and_false, true_and, and_true, and_self, Nat.reduceAdd, not_false_eq_true, not_true_eq_false, wS, wR, inI, ite_self, Classical.not_not, e, ax_in, nJ_nn, nJ_n, hi2, show nI 0 = 0 from rfl]
    exact congrArg (fun z => some (z, h)) (i_of _)
  | 1, _ =>
    simp (disch := omega) only [gI_pI, gI_pL, gI_pR, gL_pI, gL_pL, gL_pR, gR_pI, gR_pL, gR_pR, gS_pI, gS_pL, gS_pR, ↓reduceIte, Nat.reduceEqDiff, decide_eq_true_eq, Option.bind_some, false_and, and_false, true_and, and_true, and_self, Nat.reduceAdd, not_false_eq_true, not_true_eq_false, wS, wR, inI, ite_self, Classical.not_not, e, ax_in, nJ_nn, nJ_n, hi2, hs, hs30, show nI 1 = 1 from rfl, i1_0, me_i hs6]
end
/-- another hand's image at the place of one, by a hand that does not know -/
def otB (V : BV) (kn : Int32) (m j : Nat) : Bool := decide (V 75 j = V 75 m ∧ V 76 j = V 76 m ∧ ¬ V 77 j = V 77 m) && (kvB V kn j && decide (¬ (V 90 (V 77 j).toInt.toNat).toInt ≤ kn.toInt))
theorem z_ap_15 {h : ax_H} (w : ok h) (g : GV (V h)) (a : Nat) {m u : Nat} (hm : m < nM (V h)) (hu : u < 2) (kn : Int32) : ∀ (k j : Nat) (x : Int) (c : Nat), j + k = nM (V h) → c + k ≤ 200 → Ln_addPlace_15 a 65 (nI m) kn (nI u) 74 (Int64.ofInt x) (nI c) (nI j) h = Ln_addPlace_15 a 65 (nI m) kn (nI u) 74 (Int64.ofInt (zo (otB (V h) kn m) (me (V h) u) k j x)) (nI (c + cntB (otB (V h) kn m) k j)) (nI (nM (V h))) h := by
  have hcn := cnts g.1
  have hn := nI_nM g.1.2.2.2.1
  have w0 := w
  obtain ⟨wS, wR, wG, wN⟩ := w
  have hm2 : m < 100 := by omega
  intro k
  induction k with
  | zero =>
    intro j x c hj hc
    have : j = nM (V h) := by omega
    rw [this]
    rfl
  | succ k ih =>
    intro j x c hj hc
    have hle : ¬ nM (V h) ≤ j := by omega
    have hj2 : j < 100 := by omega
    obtain ⟨d, hd, hd2, hd3, hd4⟩ := nI_ex (g.2.2.2.1.1 j (by omega)).2.2.1
    have hd6 : (V h 77 j).toInt.toNat = d := by omega
    have hk := z_hasK w0 (j := d) (by omega) kn
    have hme := z_measure w0 g (i := j) (u := u) (by omega) hu
    have i0 := ih (j + 1) x c (by omega) (by omega)
    have i1 := ih (j + 1) (x + me (V h) u j) (c + 1) (by omega) (by omega)
    rw [Int64.ofInt_add] at i1
    have no : otB (V h) kn m j = false → Ln_addPlace_15 a 65 (nI m) kn (nI u) 74 (Int64.ofInt x) (nI c) (nI j) h = Ln_addPlace_15 a 65 (nI m) kn (nI u) 74 (Int64.ofInt x) (nI c) (nI (j + 1)) h → Ln_addPlace_15 a 65 (nI m) kn (nI u) 74 (Int64.ofInt x) (nI c) (nI j) h = Ln_addPlace_15 a 65 (nI m) kn (nI u) 74 (Int64.ofInt (zo (otB (V h) kn m) (me (V h) u) (k + 1) j x)) (nI (c + cntB (otB (V h) kn m) (k + 1) j)) (nI (nM (V h))) h := fun q1 q2 => by
      rw [q2, zo, cntB, q1, if_neg (by decide), if_neg (by decide), Nat.zero_add]
      exact i0
    by_cases q1 : V h 75 j = V h 75 m
    case neg =>
      refine no (by unfold otB; simp only [q1, false_and, decide_false, Bool.false_and]) ?_
      rw [Ln_addPlace_15_eq]
      try simp only [wS, wR, ↓reduceIte]
      simp (disch := omega) only [gI_pI, gI_pL, gI_pR, gL_pI, gL_pL, gL_pR, gR_pI, gR_pL, gR_pR, gS_pI, gS_pL, gS_pR, ↓reduceIte, Nat.reduceEqDiff, decide_eq_true_eq, Option.bind_some, false_and, and_false, true_and, and_true, and_self, Nat.reduceAdd, not_false_eq_true, not_true_eq_false, wS, wR, inI, ite_self, Classical.not_not, cV65, cV66, cV67, cV68, cV69, cV70, cV71, cV72, cV73, cV74, cV75, cV76, cV77, cV78, cV79, cV80, cV81, cV82, cV83, cV84, cV85, cV86, cV87, cV88, cV89, cV90, hn, nJ_le, hle, ax_in, nJ_nn, nJ_n, nJ_p1, hj2, hm2, q1, Ln_addPlace_95_eq]
    by_cases q2 : V h 76 j = V h 76 m
    case neg =>
      refine no (by unfold otB; simp only [q2, false_and, and_false, decide_false, Bool.false_and]) ?_
      rw [Ln_addPlace_15_eq]
      try simp only [wS, wR, ↓reduceIte]
      simp (disch := omega) only [gI_pI, gI_pL, gI_pR, gL_pI, gL_pL, gL_pR, gR_pI, gR_pL, gR_pR, gS_pI, gS_pL, gS_pR, ↓reduceIte, Nat.reduceEqDiff, decide_eq_true_eq, Option.bind_some, false_and, and_false, true_and, and_true, and_self, Nat.reduceAdd, not_false_eq_true, not_true_eq_false, wS, wR, inI, ite_self, Classical.not_not, cV65, cV66, cV67, cV68, cV69, cV70, cV71, cV72, cV73, cV74, cV75, cV76, cV77, cV78, cV79, cV80, cV81, cV82, cV83, cV84, cV85, cV86, cV87, cV88, cV89, cV90, hn, nJ_le, hle, ax_in, nJ_nn, nJ_n, nJ_p1, hj2, hm2, q1, q2, Ln_addPlace_95_eq]
    by_cases q3 : V h 77 j = V h 77 m
    case pos =>
      refine no (by unfold otB; simp only [q3, not_true_eq_false, and_false, decide_false, Bool.false_and]) ?_
      rw [Ln_addPlace_15_eq]
      try simp only [wS, wR, ↓reduceIte]
      simp (disch := omega) only [gI_pI, gI_pL, gI_pR, gL_pI, gL_pL, gL_pR, gR_pI, gR_pL, gR_pR, gS_pI, gS_pL, gS_pR, ↓reduceIte, Nat.reduceEqDiff, decide_eq_true_eq, Option.bind_some, false_and, and_false, true_and, and_true, and_self, Nat.reduceAdd, not_false_eq_true, not_true_eq_false, wS, wR, inI, ite_self, Classical.not_not, cV65, cV66, cV67, cV68, cV69, cV70, cV71, cV72, cV73, cV74, cV75, cV76, cV77, cV78, cV79, cV80, cV81, cV82, cV83, cV84, cV85, cV86, cV87, cV88, cV89, cV90, hn, nJ_le, hle, ax_in, nJ_nn, nJ_n, nJ_p1, hj2, hm2, q1, q2, q3, Ln_addPlace_95_eq]
    have q3' : ¬ nI d = V h 77 m := by rw [← hd]; exact q3
    by_cases q4 : kvB (V h) kn j = true
    case neg =>
      have q4' : kvB (V h) kn j = false := by rw [Bool.not_eq_true] at q4; exact q4
      refine no (by unfold otB; rw [q4', Bool.false_and, Bool.and_false]) ?_
      rw [Ln_addPlace_15_eq]
      try simp only [wS, wR, ↓reduceIte]
      simp (disch := omega) only [gI_pI, gI_pL, gI_pR, gL_pI, gL_pL, gL_pR, gR_pI, gR_pL, gR_pR, gS_pI, gS_pL, gS_pR, ↓reduceIte, Nat.reduceEqDiff, decide_eq_true_eq, Option.bind_some, false_and, and_false, true_and, and_true, and_self, Nat.reduceAdd, not_false_eq_true, not_true_eq_false, wS, wR, inI, ite_self, Classical.not_not, cV65, cV66, cV67, cV68, cV69, cV70, cV71, cV72, cV73, cV74, cV75, cV76, cV77, cV78, cV79, cV80, cV81, cV82, cV83, cV84, cV85, cV86, cV87, cV88, cV89, cV90, hn, nJ_le, hle, ax_in, nJ_nn, nJ_n, nJ_p1, hj2, hm2, q1, q2, q3, ↓bnd (z_isKnown w0 hj2 _), bI_0, q4', Bool.false_eq_true, Ln_addPlace_95_eq]
    by_cases q5 : (V h 90 d).toInt ≤ kn.toInt
    case pos =>
      refine no (by unfold otB; rw [hd6, decide_eq_false (p := ¬ (V h 90 d).toInt ≤ kn.toInt) (not_not_intro q5), Bool.and_false, Bool.and_false]) ?_
      rw [Ln_addPlace_15_eq]
      try simp only [wS, wR, ↓reduceIte]
      simp (disch := omega) only [gI_pI, gI_pL, gI_pR, gL_pI, gL_pL, gL_pR, gR_pI, gR_pL, gR_pR, gS_pI, gS_pL, gS_pR, ↓reduceIte, Nat.reduceEqDiff, decide_eq_true_eq, Option.bind_some, false_and, and_false, true_and, and_true, and_self, Nat.reduceAdd, not_false_eq_true, not_true_eq_false, wS, wR, inI, ite_self, Classical.not_not, cV65, cV66, cV67, cV68, cV69, cV70, cV71, cV72, cV73, cV74, cV75, cV76, cV77, cV78, cV79, cV80, cV81, cV82, cV83, cV84, cV85, cV86, cV87, cV88, cV89, cV90, hn, nJ_le, hle, ax_in, nJ_nn, nJ_n, nJ_p1, hj2, hm2, q1, q2, hd, q3', ↓bnd (z_isKnown w0 hj2 _), bI_0, q4, Ln_addPlace_95_eq, i1_0, ↓bnd hk, q5]
    have hot : otB (V h) kn m j = true := by
      unfold otB
      rw [hd6, q4, decide_eq_true (p := ¬ (V h 90 d).toInt ≤ kn.toInt) q5, decide_eq_true (p := V h 75 j = V h 75 m ∧ V h 76 j = V h 76 m ∧ ¬ V h 77 j = V h 77 m) ⟨q1, q2, q3⟩]
      rfl
    rw [zo, cntB, hot, if_pos rfl, if_pos rfl, show c + (1 + cntB (otB (V h) kn m) k (j + 1)) = c + 1 + cntB (otB (V h) kn m) k (j + 1) by omega, ← i1, Ln_addPlace_15_eq]
    try simp only [wS, wR, ↓reduceIte]
    simp (disch := omega) only [gI_pI, gI_pL, gI_pR, gL_pI, gL_pL, gL_pR, gR_pI, gR_pL, gR_pR, gS_pI, gS_pL, gS_pR, ↓reduceIte, Nat.reduceEqDiff, decide_eq_true_eq, Option.bind_some, false_and, and_false, true_and, and_true, and_self, Nat.reduceAdd, not_false_eq_true, not_true_eq_false, wS, wR, inI, ite_self, Classical.not_not, cV65, cV66, cV67, cV68, cV69, cV70, cV71, cV72, cV73, cV74, cV75, cV76, cV77, cV78, cV79, cV80, cV81, cV82, cV83, cV84, cV85, cV86, cV87, cV88, cV89, cV90, hn, nJ_le, hle, ax_in, nJ_nn, nJ_n, nJ_p1, hj2, hm2, q1, q2, hd, q3', ↓bnd (z_isKnown w0 hj2 _), bI_0, q4, Ln_addPlace_95_eq, i1_0, ↓bnd hk, q5, ↓bnd hme]
