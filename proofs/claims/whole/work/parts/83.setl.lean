/-! what is held and checked: the class's settle -/
def D4 (D : WD) (li : Int32) : WD := (fun t => if t = 4 then 2 else D.1 t, fun t => if t = 4 then li else D.2.1 t, D.2.2)
theorem cntB_mono {P Q : Nat → Bool} (h : ∀ j, P j = true → Q j = true) : ∀ (k i : Nat), cntB P k i ≤ cntB Q k i
  | 0, _ => Nat.le_refl _
  | k + 1, i => by
    have := cntB_mono h k (i + 1)
    have hi := h i
    rw [cntB, cntB]
    cases hp : P i with
    | true => rw [hi hp, if_pos rfl]; omega
    | false =>
      rw [if_neg (by decide)]
      split <;> omega
theorem WF_4 {D : WD} (f : WF D) {li : Int32} (hl : 0 ≤ li.toInt ∧ li.toInt ≤ 99999) : WF (D4 D li) := by
  obtain ⟨f1, f2, f3, f4, f5, f6, f7⟩ := f
  refine ⟨fun t ht => ?_, f2, f3, f4, f5, f6, Nat.le_trans (cntB_mono (fun j q => ?_) 6 0) f7⟩
  · by_cases q : t = 4
    · have e1 : (D4 D li).1 t = 2 := if_pos q
      have e2 : (D4 D li).2.1 t = li := if_pos q
      rw [e1, e2]
      exact ⟨by decide, ⟨by omega, by omega⟩, fun z => absurd rfl z⟩
    · have e1 : (D4 D li).1 t = D.1 t := if_neg q
      have e2 : (D4 D li).2.1 t = D.2.1 t := if_neg q
      rw [e1, e2]
      exact f1 t ht
  · rw [decide_eq_true_eq] at q ⊢
    by_cases z : j = 4
    · have e1 : (D4 D li).1 j = 2 := if_pos z
      rw [e1] at q
      exact absurd q (by decide)
    · have e1 : (D4 D li).1 j = D.1 j := if_neg z
      rw [← e1]; exact q
def fA (V : BV) (t i : Nat) : Int := gi V t i 0 * mX V i 0 + gi V t i 1 * mX V i 1
def fB (V : BV) (t i : Nat) : Int := gi V t i 0 * gi V t i 0 + gi V t i 1 * gi V t i 1
theorem fA_bd {V : BV} (g : GV V) {t : Nat} (ht : t < 6) {i : Nat} (hi : i < nM V) : (-48438 ≤ fA V t i ∧ fA V t i ≤ 48438) ∧ (0 ≤ fB V t i ∧ fB V t i ≤ 6561) := by
  have a0 := gi_bx g ht hi 0
  have a1 := gi_bx g ht hi 1
  have h0 := gMx_81 t
  have b0 := mul_bd (x := gi V t i 0) (y := mX V i 0) (k := 81) (m := 299) (by omega) (mX_bd g.2.2.2.1 hi 0)
  have b1 := mul_bd (x := gi V t i 1) (y := mX V i 1) (k := 81) (m := 299) (by omega) (mX_bd g.2.2.2.1 hi 1)
  have s := (gi_bd g.1 g.2.1 g.2.2.2.1 ht hi).2.2
  have k : kMx t ≤ 6561 := by
    unfold kMx
    repeat' split
    all_goals decide
  have n0 := sq_nn (gi V t i 0)
  have n1 := sq_nn (gi V t i 1)
  unfold fA fB
  omega
theorem z_sc_15 {h : ax_H} (w : ok h) (g : GV (V h)) {a : Nat} {D : WD} (c : WC h a D) {t : Nat} (ht : t < 6) (kn : Int32) : ∀ (k i : Nat) (A B : Int), i + k = nM (V h) → Ft_settleCheck_15 99 65 a kn (nI t) 74 (Int64.ofInt A) (Int64.ofInt B) (nI i) h = Ft_settleCheck_15 99 65 a kn (nI t) 74 (Int64.ofInt (A + sg (fA (V h) t) (flF (ckP (V h) D kn) k i))) (Int64.ofInt (B + sg (fB (V h) t) (flF (ckP (V h) D kn) k i))) (nI (nM (V h))) h := by
  have hcn := cnts g.1
  have hn := nI_nM g.1.2.2.2.1
  have w0 := w
  obtain ⟨wS, wR, wG, wN⟩ := w
  have sa := c.1.2.2
  intro k
  induction k with
  | zero =>
    intro i A B hi
    have : i = nM (V h) := by omega
    subst this
    rw [flF, sg_nil, sg_nil, Int.add_zero, Int.add_zero]
  | succ k ih =>
    intro i A B hi
    have hle : ¬ nI (nM (V h)) ≤ nI i := by rw [nJ_le (by omega) (by omega)]; omega
    have hi2 : i < 100 := by omega
    have tn : (nI i).toNatClampNeg = i := nJ_n (by omega)
    have nn : ¬ nI i < 0 := nJ_nn (by omega)
    have hK := z_isKnown w0 hi2 kn
    have hKd := z_kindOf w0 g (i := i) (by omega)
    have hR : Wy_isReading a (gI h (gR h 74 3) (Int32.toNatClampNeg (nI i))) h = some (bI (rdB D (V h 77 i) = true), h) := by
      simp only [wR, tn]
      exact z_isReading c (V h 77 i)
    have hT0 : Bk_termOf 65 (nI t) (nI i) 0 h = some (Int32.ofInt (gi (V h) t i 0), h) := z_termOf w0 g ht (i := i) (by omega) (ax := 0) (by omega)
    have hT1 : Bk_termOf 65 (nI t) (nI i) 1 h = some (Int32.ofInt (gi (V h) t i 1), h) := z_termOf w0 g ht (i := i) (by omega) (ax := 1) (by omega)
    have no : ckP (V h) D kn i = false → Ft_settleCheck_15 99 65 a kn (nI t) 74 (Int64.ofInt A) (Int64.ofInt B) (nI i) h = Ft_settleCheck_15 99 65 a kn (nI t) 74 (Int64.ofInt A) (Int64.ofInt B) (nI (i + 1)) h → Ft_settleCheck_15 99 65 a kn (nI t) 74 (Int64.ofInt A) (Int64.ofInt B) (nI i) h = Ft_settleCheck_15 99 65 a kn (nI t) 74 (Int64.ofInt (A + sg (fA (V h) t) (flF (ckP (V h) D kn) (k + 1) i))) (Int64.ofInt (B + sg (fB (V h) t) (flF (ckP (V h) D kn) (k + 1) i))) (nI (nM (V h))) h := fun q1 q2 => by
      rw [q2, flF, q1, if_neg (by decide)]
      exact ih (i + 1) A B (by omega)
    cases q1 : kvB (V h) kn i with
    | false =>
      refine no (by unfold ckP; rw [q1, Bool.false_and]) ?_
      rw [Ft_settleCheck_15_eq]
      try simp only [wS, wR, ↓reduceIte]
      simp only [gI_pI, gI_pL, gI_pR, gL_pI, gL_pL, gL_pR, gR_pI, gR_pL, gR_pR, gS_pI, gS_pL, gS_pR, ↓reduceIte, Nat.reduceEqDiff, decide_eq_true_eq, Option.bind_some, false_and, and_false, true_and, and_true, and_self, Nat.reduceAdd, not_false_eq_true, not_true_eq_false, wS, wR, inI, ite_self, Classical.not_not, cV65, cV66, cV67, cV68, cV69, cV70, cV71, cV72, cV73, cV74, cV75, cV76, cV77, cV78, cV79, cV80, cV81, cV82, cV83, cV84, cV85, cV86, cV87, cV88, cV89, cV90, hn, hle, nJ_p1, ↓bnd hK, bI_0, q1, Bool.false_eq_true]
    | true =>
      by_cases q2 : V h 72 (V h 75 i).toInt.toNat = 2
      case neg =>
        refine no (by unfold ckP; rw [decide_eq_false q2, Bool.false_and, Bool.and_false]) ?_
        rw [Ft_settleCheck_15_eq]
        try simp only [wS, wR, ↓reduceIte]
        simp only [gI_pI, gI_pL, gI_pR, gL_pI, gL_pL, gL_pR, gR_pI, gR_pL, gR_pR, gS_pI, gS_pL, gS_pR, ↓reduceIte, Nat.reduceEqDiff, decide_eq_true_eq, Option.bind_some, false_and, and_false, true_and, and_true, and_self, Nat.reduceAdd, not_false_eq_true, not_true_eq_false, wS, wR, inI, ite_self, Classical.not_not, cV65, cV66, cV67, cV68, cV69, cV70, cV71, cV72, cV73, cV74, cV75, cV76, cV77, cV78, cV79, cV80, cV81, cV82, cV83, cV84, cV85, cV86, cV87, cV88, cV89, cV90, hn, hle, nJ_p1, ↓bnd hK, bI_0, q1, ↓bnd hKd, q2]
      cases q3 : rdB D (V h 77 i) with
      | false =>
        refine no (by unfold ckP; rw [q3, Bool.and_false, Bool.and_false]) ?_
        rw [Ft_settleCheck_15_eq]
        try simp only [wS, wR, ↓reduceIte]
        simp only [gI_pI, gI_pL, gI_pR, gL_pI, gL_pL, gL_pR, gR_pI, gR_pL, gR_pR, gS_pI, gS_pL, gS_pR, ↓reduceIte, Nat.reduceEqDiff, decide_eq_true_eq, Option.bind_some, false_and, and_false, true_and, and_true, and_self, Nat.reduceAdd, not_false_eq_true, not_true_eq_false, wS, wR, inI, ite_self, Classical.not_not, cV65, cV66, cV67, cV68, cV69, cV70, cV71, cV72, cV73, cV74, cV75, cV76, cV77, cV78, cV79, cV80, cV81, cV82, cV83, cV84, cV85, cV86, cV87, cV88, cV89, cV90, hn, hle, nJ_p1, ↓bnd hK, bI_0, q1, ↓bnd hKd, q2, ax_in, nn, tn, hi2, sa, ↓bnd hR, q3, Bool.false_eq_true]
      | true =>
        have hb : ckP (V h) D kn i = true := by unfold ckP; rw [q1, q3, decide_eq_true q2]; rfl
        obtain ⟨b1, b2⟩ := fA_bd g ht (i := i) (by omega)
        have eA : (Int32.ofInt (gi (V h) t i 0) * V h 78 i + Int32.ofInt (gi (V h) t i 1) * V h 79 i).toInt64 = Int64.ofInt (fA (V h) t i) := by
          rw [i_of (V h 78 i), i_of (V h 79 i), ← Int32.ofInt_mul, ← Int32.ofInt_mul, ← Int32.ofInt_add]
          exact i_toL (z := fA (V h) t i) (by omega)
        have eB : (Int32.ofInt (gi (V h) t i 0) * Int32.ofInt (gi (V h) t i 0) + Int32.ofInt (gi (V h) t i 1) * Int32.ofInt (gi (V h) t i 1)).toInt64 = Int64.ofInt (fB (V h) t i) := by
          rw [← Int32.ofInt_mul, ← Int32.ofInt_mul, ← Int32.ofInt_add]
          exact i_toL (z := fB (V h) t i) (by omega)
        have i1 := ih (i + 1) (A + fA (V h) t i) (B + fB (V h) t i) (by omega)
        rw [flF, hb, if_pos rfl, sg_cons, sg_cons, ← Int.add_assoc, ← Int.add_assoc, ← i1, Ft_settleCheck_15_eq]
        try simp only [wS, wR, ↓reduceIte]
        simp only [gI_pI, gI_pL, gI_pR, gL_pI, gL_pL, gL_pR, gR_pI, gR_pL, gR_pR, gS_pI, gS_pL, gS_pR, ↓reduceIte, Nat.reduceEqDiff, decide_eq_true_eq, Option.bind_some, false_and, and_false, true_and, and_true, and_self, Nat.reduceAdd, not_false_eq_true, not_true_eq_false, wS, wR, inI, ite_self, Classical.not_not, cV65, cV66, cV67, cV68, cV69, cV70, cV71, cV72, cV73, cV74, cV75, cV76, cV77, cV78, cV79, cV80, cV81, cV82, cV83, cV84, cV85, cV86, cV87, cV88, cV89, cV90, hn, hle, nJ_p1, ↓bnd hK, bI_0, q1, ↓bnd hKd, q2, ax_in, nn, tn, hi2, sa, ↓bnd hR, q3, ↓bnd hT0, ↓bnd hT1, eA, eB, ← Int64.ofInt_add]
theorem ckB_bd {V : BV} (g : GV V) {D : WD} {t : Nat} (ht : t < 6) (kn : Int32) : 0 ≤ ckB V D kn t ∧ ckB V D kn t ≤ 656100 := by
  have hcn := cnts g.1
  have hl := flF_len (P := ckP V D kn) (nM V) 0
  constructor
  · have : sg (fun _ => (0 : Int)) (ckL V D kn) ≤ ckB V D kn t := sg_le fun i hi => (fA_bd g ht (ckL_lt hi)).2.1
    rw [sg_const, Int.zero_mul] at this
    exact this
  · have : ckB V D kn t ≤ sg (fun _ => (6561 : Int)) (ckL V D kn) := sg_le fun i hi => (fA_bd g ht (ckL_lt hi)).2.2
    rw [sg_const] at this
    unfold ckL at this
    omega
theorem z_settleCheck {h : ax_H} (w : ok h) (g : GV (V h)) {a : Nat} {D : WD} (c : WC h a D) {t : Nat} (ht : t < 6) (kn : Int32) : (0 < ckB (V h) D kn t → Ft_settleCheck 99 65 a kn (nI t) h = some (1, pI h 101 t (Int32.ofInt ((1000 * ckA (V h) D kn t) / ckB (V h) D kn t)))) ∧ (¬ 0 < ckB (V h) D kn t → Ft_settleCheck 99 65 a kn (nI t) h = some (0, h)) := by
  have key := z_sc_15 w g c ht kn (nM (V h)) 0 0 0 (by omega)
  rw [Int.zero_add, Int.zero_add] at key
  have hcn := cnts g.1
  have hn := nI_nM g.1.2.2.2.1
  have hb := ckB_bd g (D := D) ht kn
  have ha := ck_bd g.2.2.2.1 D kn t
  have w0 := w
  obtain ⟨wS, wR, wG, wN⟩ := w
  have hle : nI (nM (V h)) ≤ nI (nM (V h)) := Int32.le_refl _
  have st : Ft_settleCheck 99 65 a kn (nI t) h = (Ft_put 99 (nI t) (Int64.ofInt (ckA (V h) D kn t)) (Int64.ofInt (ckB (V h) D kn t)) h).bind (fun r1 => if r1.1 = 0 ∨ r1.1 = 1 then some (r1.1, r1.2) else none) := by
    rw [Ft_settleCheck_eq]
    try simp only [wS, wR, ↓reduceIte]
    refine Eq.trans key ?_
    rw [Ft_settleCheck_15_eq]
    try simp only [wS, wR, ↓reduceIte]
    simp only [gI_pI, gI_pL, gI_pR, gL_pI, gL_pL, gL_pR, gR_pI, gR_pL, gR_pR, gS_pI, gS_pL, gS_pR, ↓reduceIte, Nat.reduceEqDiff, decide_eq_true_eq, Option.bind_some, false_and, and_false, true_and, and_true, and_self, Nat.reduceAdd, not_false_eq_true, not_true_eq_false, wS, wR, inI, ite_self, Classical.not_not, cV65, cV66, cV67, cV68, cV69, cV70, cV71, cV72, cV73, cV74, cV75, cV76, cV77, cV78, cV79, cV80, cV81, cV82, cV83, cV84, cV85, cV86, cV87, cV88, cV89, cV90, hn, hle]
    rfl
  constructor
  · intro hp
    have pp : ptP (ckA (V h) D kn t) (ckB (V h) D kn t) := by
      refine ⟨hp, ?_, ?_⟩
      · exact Int.le_ediv_of_mul_le hp (by omega)
      · exact Int.ediv_le_of_le_mul hp (by omega)
    rw [st, bnd (z_put_y w0 ht (by omega) (by omega) pp)]
    rfl
  · intro hp
    rw [st, bnd (z_put_n (by omega) (by omega) (fun q => hp q.1))]
    rfl
/-! settle -/
def cko (V : BV) (D : WD) (kn : Int32) : Nat → Nat → Bool
  | 0, _ => true
  | k + 1, t => (!decide (D.1 t = 3) || decide (0 < ckB V D kn t)) && cko V D kn k (t + 1)
theorem cko_iff {V : BV} {D : WD} {kn : Int32} : ∀ (k t : Nat), cko V D kn k t = true ↔ ∀ u, t ≤ u → u < t + k → D.1 u = 3 → 0 < ckB V D kn u
  | 0, t => ⟨fun _ u a b => by omega, fun _ => rfl⟩
  | k + 1, t => by
    rw [cko, Bool.and_eq_true, cko_iff k (t + 1), Bool.or_eq_true, Bool.not_eq_true', decide_eq_false_iff_not, decide_eq_true_eq]
    constructor
    · rintro ⟨h1, h2⟩ u a b c
      by_cases q : u = t
      · subst q; exact h1.resolve_left (fun z => z c)
      · exact h2 u (by omega) (by omega) c
    · intro H
      refine ⟨?_, fun u a b c => H u (by omega) (by omega) c⟩
      by_cases q : D.1 t = 3
      · exact Or.inr (H t (by omega) (by omega) q)
      · exact Or.inl q
theorem cko_ok {V : BV} {D : WD} {kn : Int32} : cko V D kn 6 0 = true ↔ ckOk V D kn := by
  rw [cko_iff]
  exact ⟨fun H t a b => H t (by omega) (by omega) b, fun H t a b c => H t (by omega) c⟩
def Sse (a k : Nat) : Bool := decide ((a = 99 ∧ k = 4) ∨ a = 101 ∨ a = 102)
theorem Sse_c {h h' : ax_H} (q : fr Sse h h') : fr Sc h h' := fr_le q fun a k z => by simp only [Sc, Sse, decide_eq_false_iff_not] at z ⊢; omega
theorem Sse_hi {a k : Nat} (h : 207 ≤ a) : Sse a k = false := by simp only [Sse, decide_eq_false_iff_not]; omega
def ftP (h : ax_H) (l : List Nat) : Prop := gI h 99 4 = nI l.length ∧ ∀ k x, l[k]? = some x → gI h 102 k = nI x
theorem z_se_st {h : ax_H} (w : ok h) {a : Nat} {D De : WD} {li : Int32} (c : WC h a D) (hD : (li = -1 ∧ De = D) ∨ (¬ li = -1 ∧ De = D4 D li)) {t : Nat} (ht : t < 6) (kn : Int32) : Ft_settle_8 99 65 a kn li (nI t) h = Ft_settle_75 (De.2.1 t) (nI t) 101 99 65 a kn li (nI t) (De.1 t) h := by
  obtain ⟨c1, c2, c3, c4, c5, c6, c7, c8⟩ := c
  obtain ⟨wS, wR, wG, wN⟩ := w
  have hle : ¬ (6 : Int32) ≤ nI t := by rw [show (6 : Int32) = nI 6 from rfl, nJ_le (by omega) (by omega)]; omega
  have tn : (nI t).toNatClampNeg = t := nJ_n (by omega)
  have nn : ¬ nI t < 0 := nJ_nn (by omega)
  have r5 := c5 t ht
  have r6 := c6 t ht
  have i4 : (nI t = 4) ↔ t = 4 := nI_eq4 (by omega)
  rw [Ft_settle_8_eq]
  rcases hD with ⟨rfl, rfl⟩ | ⟨hl, rfl⟩
  · simp only [gI_pI, gI_pL, gI_pR, gL_pI, gL_pL, gL_pR, gR_pI, gR_pL, gR_pR, gS_pI, gS_pL, gS_pR, ↓reduceIte, Nat.reduceEqDiff, decide_eq_true_eq, Option.bind_some, false_and, and_false, true_and, and_true, and_self, Nat.reduceAdd, not_false_eq_true, not_true_eq_false, wS, wR, inI, ite_self, Classical.not_not, hle, Ft_settle_32_eq, c1.2.2, c2.2.2, c3.2.2, ax_in, tn, nn, ht, r5, r6]
  · by_cases q : t = 4
    · have e1 : (D4 D li).1 t = 2 := if_pos q
      have e2 : (D4 D li).2.1 t = li := if_pos q
      rw [e1, e2]
      subst q
      have h4 : nI 4 = (4 : Int32) := rfl
      rw [h4] at hle ⊢
      simp only [gI_pI, gI_pL, gI_pR, gL_pI, gL_pL, gL_pR, gR_pI, gR_pL, gR_pR, gS_pI, gS_pL, gS_pR, ↓reduceIte, Nat.reduceEqDiff, decide_eq_true_eq, Option.bind_some, false_and, and_false, true_and, and_true, and_self, Nat.reduceAdd, not_false_eq_true, not_true_eq_false, wS, wR, inI, ite_self, Classical.not_not, hle, hl, Ft_settle_32_eq, i1_0]
    · have e1 : (D4 D li).1 t = D.1 t := if_neg q
      have e2 : (D4 D li).2.1 t = D.2.1 t := if_neg q
      rw [e1, e2]
      simp only [gI_pI, gI_pL, gI_pR, gL_pI, gL_pL, gL_pR, gR_pI, gR_pL, gR_pR, gS_pI, gS_pL, gS_pR, ↓reduceIte, Nat.reduceEqDiff, decide_eq_true_eq, Option.bind_some, false_and, and_false, true_and, and_true, and_self, Nat.reduceAdd, not_false_eq_true, not_true_eq_false, wS, wR, inI, ite_self, Classical.not_not, hle, i4, q, Ft_settle_32_eq, c1.2.2, c2.2.2, c3.2.2, ax_in, tn, nn, ht, r5, r6]
theorem ckB_4 (V : BV) {D De : WD} {li : Int32} (hD : (li = -1 ∧ De = D) ∨ (¬ li = -1 ∧ De = D4 D li)) (kn : Int32) (t : Nat) : ckB V De kn t = ckB V D kn t ∧ ckA V De kn t = ckA V D kn t := by
  rcases hD with ⟨-, rfl⟩ | ⟨-, rfl⟩ <;> exact ⟨rfl, rfl⟩
theorem z_se_8 {a : Nat} {D De : WD} {li : Int32} (hD : (li = -1 ∧ De = D) ∨ (¬ li = -1 ∧ De = D4 D li)) (fe : WF De) (kn : Int32) : ∀ (k t : Nat) (l : List Nat) (h : ax_H), ok h → GV (V h) → WC h a D → ftP h l → l.length + (flF (fun t => decide (De.1 t = 1)) k t).length ≤ 3 → t + k = 6 → ∃ h', Ft_settle_8 99 65 a kn li (nI t) h = some (bB (cko (V h) De kn k t), h') ∧ fr Sse h h' ∧ (cko (V h) De kn k t = true → ftP h' (l ++ flF (fun t => decide (De.1 t = 1)) k t) ∧ ∀ u, u < 6 → gI h' 101 u = if t ≤ u then Int32.ofInt (nmZ (V h) De kn u) else gI h 101 u) := by
  intro k
  induction k with
  | zero =>
    intro t l h w g c hl hb ht
    have : t = 6 := by omega
    subst this
    refine ⟨h, ?_, fr_rf _ _, fun _ => ⟨by rw [flF, List.append_nil]; exact hl, fun u hu => by rw [if_neg (by omega)]⟩⟩
    rw [Ft_settle_8_eq]
    have h66 : (6 : Int32) ≤ nI 6 := by decide
    simp only [h66, decide_true, ↓reduceIte]
    rfl
  | succ k ih =>
    intro t l h w g c hl hb ht
    have ht6 : t < 6 := by omega
    have w0 := w
    have st := z_se_st w0 c hD ht6 kn
    obtain ⟨wS, wR, wG, wN⟩ := w
    have tn : (nI t).toNatClampNeg = t := nJ_n (by omega)
    have nn : ¬ nI t < 0 := nJ_nn (by omega)
    obtain ⟨cb, ca⟩ := ckB_4 (V h) hD kn t
    have n75 := Ft_settle_75_eq (De.2.1 t) (nI t) 101 99 65 a kn li (nI t) (De.1 t) h
    rw [cko]
    by_cases q1 : De.1 t = 1
    · -- fitted
      have n3 : ¬ De.1 t = 3 := by rw [q1]; decide
      have hz : nmZ (V h) De kn t = (De.2.1 t).toInt := by unfold nmZ; rw [if_neg n3]
      rw [flF, decide_eq_true q1, if_pos rfl, List.length_cons] at hb
      have hl3 : l.length < 3 := by omega
      have l3 : ¬ (3 : Int32) ≤ nI l.length := by rw [show (3 : Int32) = nI 3 from rfl, nJ_le (by omega) (by omega)]; omega
      have hl0 := hl.1
      have tl : (nI l.length).toNatClampNeg = l.length := nJ_n (by omega)
      have nl : ¬ nI l.length < 0 := nJ_nn (by omega)
      have un : Ft_settle_8 99 65 a kn li (nI t) h = Ft_settle_8 99 65 a kn li (nI (t + 1)) (pI (pI (pI h 101 t (De.2.1 t)) 102 l.length (nI t)) 99 4 (nI (l.length + 1))) := by
        rw [st, n75]
        try simp only [wS, wR, ↓reduceIte]
        simp only [gI_pI, gI_pL, gI_pR, gL_pI, gL_pL, gL_pR, gR_pI, gR_pL, gR_pR, gS_pI, gS_pL, gS_pR, ↓reduceIte, Nat.reduceEqDiff, decide_eq_true_eq, Option.bind_some, false_and, and_false, true_and, and_true, and_self, Nat.reduceAdd, not_false_eq_true, not_true_eq_false, wS, wR, inI, ite_self, Classical.not_not, ax_in, tn, nn, ht6, q1, hl0, l3, tl, nl, hl3, nJ_p1, Ft_settle_111_eq, show ¬ (1 : Int32) = 3 by decide]
      have F : fr Sse h (pI (pI (pI h 101 t (De.2.1 t)) 102 l.length (nI t)) 99 4 (nI (l.length + 1))) := fr_c (fr_c (fr_pI rfl) rfl) rfl
      have hV := V_frc (Sse_c F)
      obtain ⟨h', r1, r2, r3⟩ := ih (t + 1) (l ++ [t]) _ (ok_fr F w0) (by rw [hV]; exact g) (WC_fr F (fun a k z => Sse_hi z) c) ⟨by rw [gI_pI, if_pos ⟨rfl, rfl⟩, List.length_append]; rfl, fun k x z => by
        rw [gI_pI, if_neg (fun q => absurd q.1 (by decide)), gI_pI]
        rw [List.getElem?_append] at z
        by_cases kl : k < l.length
        · rw [if_pos kl] at z
          rw [if_neg (by rintro ⟨_, rfl⟩; omega), gI_pI, if_neg (fun q => absurd q.1 (by decide))]
          exact hl.2 k x z
        · rw [if_neg kl] at z
          by_cases kl2 : k = l.length
          · subst kl2
            rw [Nat.sub_self] at z
            rw [if_pos ⟨rfl, rfl⟩]
            injection z with z
            rw [z]
          · have hk2 := (List.getElem?_eq_some_iff.mp z).1
            rw [List.length_singleton] at hk2
            omega⟩ (by rw [List.length_append, List.length_singleton]; omega) (by omega)
      rw [hV] at r1 r3
      rw [decide_eq_false n3]
      simp only [Bool.not_false, Bool.true_or, Bool.true_and]
      refine ⟨h', un.trans r1, fr_tr F r2, fun hc => ?_⟩
      obtain ⟨s1, s2⟩ := r3 hc
      refine ⟨by rw [flF, decide_eq_true q1, if_pos rfl]; rw [List.append_assoc] at s1; exact s1, fun u hu => ?_⟩
      rw [s2 u hu]
      by_cases q : u = t
      · subst q
        rw [if_neg (by omega), if_pos (Nat.le_refl _), gI_pI, if_neg (fun q => absurd q.1 (by decide)), gI_pI, if_neg (fun q => absurd q.1 (by decide)), gI_pI, if_pos ⟨rfl, rfl⟩, hz]
        exact i_of _
      · by_cases q2 : t ≤ u
        · rw [if_pos (by omega), if_pos q2]
        · rw [if_neg (by omega), if_neg q2, gI_pI, if_neg (fun q => absurd q.1 (by decide)), gI_pI, if_neg (fun q => absurd q.1 (by decide)), gI_pI, if_neg (fun z => q z.2)]
    · have hft : flF (fun t => decide (De.1 t = 1)) (k + 1) t = flF (fun t => decide (De.1 t = 1)) k (t + 1) := by rw [flF, decide_eq_false q1, if_neg (by decide)]
      rw [hft] at hb
      rw [hft]
      have F : fr Sse h (pI h 101 t (De.2.1 t)) := fr_pI rfl
      have hV := V_frc (Sse_c F)
      have c' := WC_fr F (fun a k z => Sse_hi z) c
      have hl' : ftP (pI h 101 t (De.2.1 t)) l := ⟨by rw [gI_pI, if_neg (fun q => absurd q.1 (by decide))]; exact hl.1, fun k x z => by rw [gI_pI, if_neg (fun q => absurd q.1 (by decide))]; exact hl.2 k x z⟩
      have un : Ft_settle_8 99 65 a kn li (nI t) h = Ft_settle_111 99 65 a kn li (nI t) (De.1 t) (pI h 101 t (De.2.1 t)) := by
        rw [st, n75]
        try simp only [wS, wR, ↓reduceIte]
        simp only [gI_pI, gI_pL, gI_pR, gL_pI, gL_pL, gL_pR, gR_pI, gR_pL, gR_pR, gS_pI, gS_pL, gS_pR, ↓reduceIte, Nat.reduceEqDiff, decide_eq_true_eq, Option.bind_some, false_and, and_false, true_and, and_true, and_self, Nat.reduceAdd, not_false_eq_true, not_true_eq_false, wS, wR, inI, ite_self, Classical.not_not, ax_in, tn, nn, ht6, q1]
      by_cases q3 : De.1 t = 3
      · have sc := z_settleCheck (ok_fr F w0) (by rw [hV]; exact g) c' ht6 kn
        rw [hV] at sc
        obtain ⟨sy, sn⟩ := sc
        by_cases q4 : 0 < ckB (V h) D kn t
        · have hy := sy q4
          have e2 : pI (pI h 101 t (De.2.1 t)) 101 t (Int32.ofInt ((1000 * ckA (V h) D kn t) / ckB (V h) D kn t)) = pI h 101 t (Int32.ofInt ((1000 * ckA (V h) D kn t) / ckB (V h) D kn t)) := by
            unfold pI u2
            simp only [Prod.mk.injEq, true_and, and_true]
            funext x y
            split <;> rfl
          rw [e2] at hy
          have F2 : fr Sse h (pI h 101 t (Int32.ofInt ((1000 * ckA (V h) D kn t) / ckB (V h) D kn t))) := fr_pI rfl
          have hV2 := V_frc (Sse_c F2)
          obtain ⟨h', r1, r2, r3⟩ := ih (t + 1) l _ (ok_fr F2 w0) (by rw [hV2]; exact g) (WC_fr F2 (fun a k z => Sse_hi z) c) ⟨by rw [gI_pI, if_neg (fun q => absurd q.1 (by decide))]; exact hl.1, fun k x z => by rw [gI_pI, if_neg (fun q => absurd q.1 (by decide))]; exact hl.2 k x z⟩ (by omega) (by omega)
          rw [hV2] at r1 r3
          have cc : (!decide (De.1 t = 3) || decide (0 < ckB (V h) De kn t)) = true := by rw [cb, decide_eq_true q4, Bool.or_true]
          rw [cc, Bool.true_and]
          refine ⟨h', ?_, fr_tr F2 r2, fun hc => ?_⟩
          · rw [un, Ft_settle_111_eq]
            simp only [gI_pI, gI_pL, gI_pR, gL_pI, gL_pL, gL_pR, gR_pI, gR_pL, gR_pR, gS_pI, gS_pL, gS_pR, ↓reduceIte, Nat.reduceEqDiff, decide_eq_true_eq, Option.bind_some, false_and, and_false, true_and, and_true, and_self, Nat.reduceAdd, not_false_eq_true, not_true_eq_false, wS, wR, inI, ite_self, Classical.not_not, q3, ↓bnd hy, i1_0, nJ_p1]
            exact r1
          · obtain ⟨s1, s2⟩ := r3 hc
            refine ⟨s1, fun u hu => ?_⟩
            rw [s2 u hu]
            by_cases q : u = t
            · subst q
              rw [if_neg (by omega), if_pos (Nat.le_refl _), gI_pI, if_pos ⟨rfl, rfl⟩]
              unfold nmZ
              rw [if_pos q3, cb, ca]
            · by_cases q2 : t ≤ u
              · rw [if_pos (by omega), if_pos q2]
              · rw [if_neg (by omega), if_neg q2, gI_pI, if_neg (fun z => q z.2)]
        · have hy := sn q4
          have cc : (!decide (De.1 t = 3) || decide (0 < ckB (V h) De kn t)) = false := by rw [cb, decide_eq_false q4, decide_eq_true q3]; rfl
          rw [cc, Bool.false_and]
          refine ⟨_, ?_, F, fun hc => by cases hc⟩
          rw [un, Ft_settle_111_eq]
          simp only [gI_pI, gI_pL, gI_pR, gL_pI, gL_pL, gL_pR, gR_pI, gR_pL, gR_pR, gS_pI, gS_pL, gS_pR, ↓reduceIte, Nat.reduceEqDiff, decide_eq_true_eq, Option.bind_some, false_and, and_false, true_and, and_true, and_self, Nat.reduceAdd, not_false_eq_true, not_true_eq_false, wS, wR, inI, ite_self, Classical.not_not, q3, ↓bnd hy]
          rfl
      · have hz : nmZ (V h) De kn t = (De.2.1 t).toInt := by unfold nmZ; rw [if_neg q3]
        obtain ⟨h', r1, r2, r3⟩ := ih (t + 1) l _ (ok_fr F w0) (by rw [hV]; exact g) c' hl' (by omega) (by omega)
        rw [hV] at r1 r3
        rw [decide_eq_false q3]
        simp only [Bool.not_false, Bool.true_or, Bool.true_and]
        refine ⟨h', ?_, fr_tr F r2, fun hc => ?_⟩
        · rw [un, Ft_settle_111_eq]
          simp only [gI_pI, gI_pL, gI_pR, gL_pI, gL_pL, gL_pR, gR_pI, gR_pL, gR_pR, gS_pI, gS_pL, gS_pR, ↓reduceIte, Nat.reduceEqDiff, decide_eq_true_eq, Option.bind_some, false_and, and_false, true_and, and_true, and_self, Nat.reduceAdd, not_false_eq_true, not_true_eq_false, wS, wR, inI, ite_self, Classical.not_not, q3, nJ_p1]
          exact r1
        · obtain ⟨s1, s2⟩ := r3 hc
          refine ⟨s1, fun u hu => ?_⟩
          rw [s2 u hu]
          by_cases q : u = t
          · subst q
            rw [if_neg (by omega), if_pos (Nat.le_refl _), gI_pI, if_pos ⟨rfl, rfl⟩, hz]
            exact i_of _
          · by_cases q2 : t ≤ u
            · rw [if_pos (by omega), if_pos q2]
            · rw [if_neg (by omega), if_neg q2, gI_pI, if_neg (fun z => q z.2)]
def SET (h : ax_H) (V0 : BV) (D : WD) (kn : Int32) : Prop := ftP h (FT D) ∧ ∀ u, u < 6 → gI h 101 u = Int32.ofInt (nmZ V0 D kn u)
theorem z_settle {h : ax_H} (w : ok h) (g : GV (V h)) {a : Nat} {D De : WD} {li : Int32} (hD : (li = -1 ∧ De = D) ∨ (¬ li = -1 ∧ De = D4 D li)) (fe : WF De) (c : WC h a D) (kn : Int32) : ∃ h', Ft_settle 99 65 a kn li h = some (bB (cko (V h) De kn 6 0), h') ∧ fr Sse h h' ∧ (cko (V h) De kn 6 0 = true → SET h' (V h) De kn) := by
  have F : fr Sse h (pI h 99 4 0) := fr_pI rfl
  have hV := V_frc (Sse_c F)
  have h3 := FT_3 fe
  obtain ⟨h', r1, r2, r3⟩ := z_se_8 (a := a) hD fe kn 6 0 [] (pI h 99 4 0) (ok_fr F w) (by rw [hV]; exact g) (WC_fr F (fun a k z => Sse_hi z) c) ⟨by rw [gI_pI, if_pos ⟨rfl, rfl⟩]; rfl, fun k x z => by cases z⟩ (by show 0 + (FT De).length ≤ 3; omega) (by omega)
  rw [hV] at r1 r3
  obtain ⟨wS, wR, wG, wN⟩ := w
  refine ⟨h', ?_, fr_tr F r2, fun hc => ?_⟩
  · rw [Ft_settle_eq]
    simp only [wS, wR, ↓reduceIte]
    exact r1
  · obtain ⟨s1, s2⟩ := r3 hc
    exact ⟨s1, fun u hu => by rw [s2 u hu, if_pos (Nat.zero_le _)]⟩
