/-! one place of leans, the class's -/
def LN (h : ax_H) (a : Nat) (A B : Int) : Prop := gL h a 0 = Int64.ofInt A ∧ gL h a 1 = Int64.ofInt B
def Sa (a x _k : Nat) : Bool := decide (x = a)
def otN (V : BV) (kn : Int32) (m : Nat) : Nat := cntB (otB V kn m) (nM V) 0
def otS (V : BV) (kn : Int32) (u m : Nat) : Int := zo (otB V kn m) (me V u) (nM V) 0 0
def leA (V : BV) (kn : Int32) (u m : Nat) : Int := if otN V kn m = 0 then 0 else 420 * me V u m - ((420 / otN V kn m : Nat) : Int) * otS V kn u m
def leB (V : BV) (kn : Int32) (m : Nat) : Int := if otN V kn m = 0 then 0 else 420
theorem z_addPlace {h : ax_H} (w : ok h) (g : GV (V h)) {a : Nat} (ha : 207 ≤ a) (hsa : (gS h a).1 = 9) {m u : Nat} (hm : m < nM (V h)) (hu : u < 2) (kn : Int32) {A B : Int} (hl : LN h a A B) : ∃ h', Ln_addPlace a 65 (nI m) kn (nI u) h = some h' ∧ fr (Sa a) h h' ∧ LN h' a (A + leA (V h) kn u m) (B + leB (V h) kn m) := by
  have hcn := cnts g.1
  have hn := nI_nM g.1.2.2.2.1
  have hc := cntB_le (otB (V h) kn m) (nM (V h)) 0
  have key := z_ap_15 w g a hm hu kn (nM (V h)) 0 0 0 (by omega) (by omega)
  rw [Nat.zero_add] at key
  have hme := z_measure w g (i := m) (u := u) hm hu
  obtain ⟨l1, l2⟩ := hl
  obtain ⟨wS, wR, wG, wN⟩ := w
  have hst : Ln_addPlace a 65 (nI m) kn (nI u) h = Ln_addPlace_15 a 65 (nI m) kn (nI u) 74 (Int64.ofInt (otS (V h) kn u m)) (nI (otN (V h) kn m)) (nI (nM (V h))) h := by
    rw [Ln_addPlace_eq]
    try simp only [wS, wR, ↓reduceIte]
    exact key
  have hc' : otN (V h) kn m ≤ nM (V h) := hc
  rw [hst, Ln_addPlace_15_eq]
  try simp only [wS, wR, ↓reduceIte]
  unfold leA leB
  by_cases h0 : otN (V h) kn m = 0
  · refine ⟨h, ?_, fr_rf _ _, ?_⟩
    · simp (disch := omega) only [gI_pI, gI_pL, gI_pR, gL_pI, gL_pL, gL_pR, gR_pI, gR_pL, gR_pR, gS_pI, gS_pL, gS_pR, ↓reduceIte, Nat.reduceEqDiff, decide_eq_true_eq, Option.bind_some, false_and, and_false, true_and, and_true, and_self, Nat.reduceAdd, not_false_eq_true, not_true_eq_false, wS, wR, inI, ite_self, Classical.not_not, cV65, cV66, cV67, cV68, cV69, cV70, cV71, cV72, cV73, cV74, cV75, cV76, cV77, cV78, cV79, cV80, cV81, cV82, cV83, cV84, cV85, cV86, cV87, cV88, cV89, cV90, hn, nJ_le, Nat.le_refl, h0, show nI 0 = 0 from rfl, Int32.le_refl]
    · rw [if_pos h0, if_pos h0, Int.add_zero, Int.add_zero]
      exact ⟨l1, l2⟩
  · have c1 : ¬ nI (otN (V h) kn m) ≤ 0 := nI_nle (by omega) (by omega)
    have c2 : ¬ nI (otN (V h) kn m) = 0 := nI_ne0 (by omega) (by omega)
    have e1 : ((420 : Int32) / nI (otN (V h) kn m)).toInt64 = Int64.ofInt ((420 / otN (V h) kn m : Nat) : Int) := by
      have h420 : 420 / otN (V h) kn m ≤ 420 := Nat.div_le_self _ _
      rw [show (420 : Int32) = nI 420 from rfl, pk_div (by omega) (by omega) (by omega), i_L, nJ_i (by omega)]
    have e2 : (420 : Int64) = Int64.ofInt 420 := rfl
    refine ⟨pL (pL h a 0 (Int64.ofInt (A + (420 * me (V h) u m - ((420 / otN (V h) kn m : Nat) : Int) * otS (V h) kn u m)))) a 1 (Int64.ofInt (B + 420)), ?_, fr_tr (fr_pL (by simp [Sa])) (fr_pL (by simp [Sa])), ?_⟩
    · simp (disch := omega) only [gI_pI, gI_pL, gI_pR, gL_pI, gL_pL, gL_pR, gR_pI, gR_pL, gR_pR, gS_pI, gS_pL, gS_pR, ↓reduceIte, Nat.reduceEqDiff, decide_eq_true_eq, Option.bind_some, false_and, and_false, true_and, and_true, and_self, Nat.reduceAdd, not_false_eq_true, not_true_eq_false, wS, wR, inI, ite_self, Classical.not_not, cV65, cV66, cV67, cV68, cV69, cV70, cV71, cV72, cV73, cV74, cV75, cV76, cV77, cV78, cV79, cV80, cV81, cV82, cV83, cV84, cV85, cV86, cV87, cV88, cV89, cV90, hn, nJ_le, Nat.le_refl, c1, c2, hsa, ↓bnd hme, e1, e2, l1, l2, ← Int64.ofInt_mul, ← Int64.ofInt_sub, ← Int64.ofInt_add, Nat.zero_ne_one, Nat.one_ne_zero]
    · rw [if_neg h0, if_neg h0]
      refine ⟨?_, ?_⟩
      · rw [gL_pL, if_neg (fun q => absurd q.2 (by decide)), gL_pL, if_pos ⟨rfl, rfl⟩]
      · rw [gL_pL, if_pos ⟨rfl, rfl⟩]
