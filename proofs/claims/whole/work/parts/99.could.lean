/-! could -/
theorem anV_ok {V : BV} (g : GI V) {D : WD} (f : WF D) {kn : Int32} {P : Nat → Bool} {t : Nat} (ht : t < 6) : anV V D kn P t = -1000000000 ∨ (¬ anV V D kn P t = -1000000000 ∧ -99999999 ≤ (anV V D kn P t).toInt ∧ (anV V D kn P t).toInt ≤ 99999999) := by
  unfold anV
  cases hc : agk V D kn P with
  | false => exact Or.inl (if_neg (by decide))
  | true =>
    unfold agk at hc
    rw [Bool.and_eq_true] at hc
    have hb := anZ_bd g f (cko_ok.mp hc.1) hc.2 ht
    rw [if_pos rfl]
    refine Or.inr ⟨fun q => ?_, ?_⟩
    · have := congrArg Int32.toInt q
      rw [i_toInt (by omega)] at this
      have e : (-1000000000 : Int32).toInt = -1000000000 := by decide
      omega
    · rw [i_toInt (by omega)]
      exact hb
def cdV (V : BV) (D : WD) (kn : Int32) (s l : Int32) : Int32 := if anV V D kn allB 4 = -1000000000 then 0 else if (anV V D kn allB 4).toInt - s.toInt ≤ l.toInt ∧ s.toInt - (anV V D kn allB 4).toInt ≤ l.toInt then 1 else 0
theorem z_could_81 {h : ax_H} (w : ok h) (g : GV (V h)) {a : Nat} {D : WD} (f : WF D) (c : WC h a D) (kn l : Int32) {k : Nat} (hk : k < 40) : ∃ h', B_could_81 kn 4 a 64 64 (nI k) l h = some (cdV (V h) D kn (V h 85 k) l, h') ∧ fr Sc h h' := by
  obtain ⟨x1, r1, r2⟩ := z_answerOf w g f c kn (t := 4) (by omega)
  have hV := V_frc r2
  have S1 : gS x1 = gS h := fr_S r2
  have R1 : gR x1 = gR h := fr_R r2
  obtain ⟨wS, wR, wG, wN⟩ := w
  have tk : (nI k).toNatClampNeg = k := nJ_n (by omega)
  have nk : ¬ nI k < 0 := nJ_nn (by omega)
  have hv : gI x1 85 k = V h 85 k := by rw [← hV]; rfl
  refine ⟨x1, ?_, r2⟩
  rw [B_could_81_eq]
  simp only [wS, ↓reduceIte]
  rw [show (4 : Int32) = nI 4 from rfl, bnd r1]
  unfold cdV
  by_cases q : anV (V h) D kn allB 4 = -1000000000
  · simp only [q, decide_true, ↓reduceIte]
  · simp only [q, decide_false, Bool.false_eq_true, ↓reduceIte, S1, R1, wS, wR, ax_in, tk, nk, hk, hv, not_false_eq_true, and_self]
    rw [bnd (z_isNear _ _ _ _), bI_b]
    split <;> rfl
theorem zm_could_55 {h : ax_H} (i0 : I0 h) {w : Nat} (hw : w < 10) {D : WD} (f : WF D) (m : WM h w D) {kn : Int32} (hkn : kn.toInt ≤ 9999) {l : Int32} (hl : 0 ≤ l.toInt ∧ l.toInt ≤ 99999) {k : Nat} (hk : k < 40) (hs : inI (V h 85 k) (-99999) 99999) : ∃ h', M_could_55 kn 4 (nI w) 159 159 (nI k) l h = some (cdV (V h) D kn (V h 85 k) l, h') ∧ fr Sm h h' := by
  obtain ⟨x1, r1, r2⟩ := zm_answerIn i0 hw f m hkn (t := 4) (by omega)
  have S1 : gS x1 = gS h := fr_S r2
  have R1 : gR x1 = gR h := fr_R r2
  have ix := I0_frm r2 i0
  have hV := V_frm r2
  have hv : gI x1 198 k = V h 85 k := by
    have e := ix.2.1
    unfold EQ at e
    rw [e.2.2.2.2.2.2.2.2.2.2.2.2.2.2.2.2.2.2.2.2.2.1 k, hV]
  obtain ⟨wS, wR, wG, wN⟩ := i0.1
  have tk : (nI k).toNatClampNeg = k := nJ_n (by omega)
  have nk : ¬ nI k < 0 := nJ_nn (by omega)
  refine ⟨x1, ?_, r2⟩
  rw [M_could_55_eq]
  simp only [wS, ↓reduceIte]
  rw [show (4 : Int32) = nI 4 from rfl, bnd r1]
  unfold cdV
  rcases anV_ok i0.2.2.2.2.2.1 f (kn := kn) (P := allB) (t := 4) (by omega) with q | ⟨q, qb⟩
  · simp only [q, decide_true, ↓reduceIte]
  · simp only [q, decide_false, Bool.false_eq_true, ↓reduceIte, S1, R1, wS, wR, ax_in, tk, nk, hk, hv, not_false_eq_true, and_self]
    have := zm_near (A := (V h 85 k).toInt) (B := (anV (V h) D kn allB 4).toInt) (c := l) (by unfold inI at hs; omega) qb hl x1
    rw [i_L, i_L (V h 85 k), bnd this, bI_b]
    by_cases z : (anV (V h) D kn allB 4).toInt - (V h 85 k).toInt ≤ l.toInt ∧ (V h 85 k).toInt - (anV (V h) D kn allB 4).toInt ≤ l.toInt
    · rw [if_pos z, if_pos ⟨z.2, z.1⟩]
    · rw [if_neg z, if_neg fun q => z ⟨q.2, q.1⟩]
theorem qy_could {h : ax_H} (i : I0 h) (iw : IW h) (a l n : Int32) : qry (B_could 64 a l n h) (M_could 159 a l n) h := by
  have i0 := i
  obtain ⟨w, e, g⟩ := i
  have hcn := cnts g.1
  have w0 := w
  obtain ⟨wS, wR, wG, wN⟩ := w
  have e0 := e
  unfold EQ at e
  by_cases h1 : 0 ≤ a.toInt ∧ a.toInt ≤ (V h 65 6).toInt - 1
  case neg =>
    refine qry_no (v := -1) ?_ ?_
    · rw [B_could_eq]
      try simp only [wS, wR, ↓reduceIte]
      simp only [gI_pI, gI_pL, gI_pR, gL_pI, gL_pL, gL_pR, gR_pI, gR_pL, gR_pR, gS_pI, gS_pL, gS_pR, ↓reduceIte, Nat.reduceEqDiff, decide_eq_true_eq, Option.bind_some, false_and, and_false, true_and, and_true, and_self, Nat.reduceAdd, not_false_eq_true, not_true_eq_false, wS, wR, inI, ite_self, Classical.not_not, cV65, cV66, cV67, cV68, cV69, cV70, cV71, cV72, cV73, cV74, cV75, cV76, cV77, cV78, cV79, cV80, cV81, cV82, cV83, cV84, cV85, cV86, cV87, cV88, cV89, cV90, ↓bnd (z_isWithin _ _ _ _), sub1 g.1.2.2.2.2.2.1, bI_0, Int32.reduceToInt, Int64.reduceToInt, tN9, tN299, tN99999, tN9999, tN99, tL9, tL299, tL99999, tL9999, tL99, i1_0, i0_1, h1]
    · rw [M_could_eq]
      simp only [gI_pI, gI_pL, gI_pR, gL_pI, gL_pL, gL_pR, gR_pI, gR_pL, gR_pR, gS_pI, gS_pL, gS_pR, ↓reduceIte, Nat.reduceEqDiff, decide_eq_true_eq, Option.bind_some, false_and, and_false, true_and, and_true, and_self, Nat.reduceAdd, not_false_eq_true, not_true_eq_false, wS, wR, inI, ite_self, Classical.not_not, e.2.2.2.2.2.1, ↓bnd (zm_in _ _ _ _), Int32.toInt_toInt64, sub1 g.1.2.2.2.2.2.1, bI_0, Int32.reduceToInt, Int64.reduceToInt, tN9, tN299, tN99999, tN9999, tN99, tL9, tL299, tL99999, tL9999, tL99, i1_0, i0_1, h1]
  by_cases h2 : 0 ≤ l.toInt ∧ l.toInt ≤ 99999
  case neg =>
    refine qry_no (v := -1) ?_ ?_
    · rw [B_could_eq]
      try simp only [wS, wR, ↓reduceIte]
      simp only [gI_pI, gI_pL, gI_pR, gL_pI, gL_pL, gL_pR, gR_pI, gR_pL, gR_pR, gS_pI, gS_pL, gS_pR, ↓reduceIte, Nat.reduceEqDiff, decide_eq_true_eq, Option.bind_some, false_and, and_false, true_and, and_true, and_self, Nat.reduceAdd, not_false_eq_true, not_true_eq_false, wS, wR, inI, ite_self, Classical.not_not, cV65, cV66, cV67, cV68, cV69, cV70, cV71, cV72, cV73, cV74, cV75, cV76, cV77, cV78, cV79, cV80, cV81, cV82, cV83, cV84, cV85, cV86, cV87, cV88, cV89, cV90, ↓bnd (z_isWithin _ _ _ _), sub1 g.1.2.2.2.2.2.1, bI_0, Int32.reduceToInt, Int64.reduceToInt, tN9, tN299, tN99999, tN9999, tN99, tL9, tL299, tL99999, tL9999, tL99, i1_0, i0_1, h1, h2]
    · rw [M_could_eq]
      simp only [gI_pI, gI_pL, gI_pR, gL_pI, gL_pL, gL_pR, gR_pI, gR_pL, gR_pR, gS_pI, gS_pL, gS_pR, ↓reduceIte, Nat.reduceEqDiff, decide_eq_true_eq, Option.bind_some, false_and, and_false, true_and, and_true, and_self, Nat.reduceAdd, not_false_eq_true, not_true_eq_false, wS, wR, inI, ite_self, Classical.not_not, e.2.2.2.2.2.1, ↓bnd (zm_in _ _ _ _), Int32.toInt_toInt64, sub1 g.1.2.2.2.2.2.1, bI_0, Int32.reduceToInt, Int64.reduceToInt, tN9, tN299, tN99999, tN9999, tN99, tL9, tL299, tL99999, tL9999, tL99, i1_0, i0_1, h1, h2]
  obtain ⟨k, rfl, hk, hk2, hk3⟩ := nI_ex h1
  have hkD : k < nD (V h) := by show k < (V h 65 6).toInt.toNat; omega
  have hk40 : k < 40 := by have := g.1.2.2.2.2.2.1; unfold inI at this; omega
  obtain ⟨d1, d2, d3⟩ := g.2.2.2.2.1 k hkD
  obtain ⟨j, hj, hj2, hj3, hj4⟩ := nI_ex d1
  obtain ⟨D, c, m, f⟩ := iw j (by omega)
  have hnz : ¬ gR h 82 j = 0 := by have := c.1; omega
  have hWA := z_wayAt w0 g.1 (j := j) (by omega)
  have tk : (nI k).toNatClampNeg = k := nJ_n (by omega)
  have nk : ¬ nI k < 0 := nJ_nn (by omega)
  have now9 : (V h 65 0).toInt ≤ 9999 := g.1.1.2
  obtain ⟨kn, hkn, hk9⟩ : ∃ kn, (if n = 0 then V h 84 k else V h 65 0) = kn ∧ kn.toInt ≤ 9999 := ⟨_, rfl, by split <;> (unfold inI at d2; omega)⟩
  obtain ⟨x1, r1, r2⟩ := z_could_81 w0 g f c kn l hk40
  have hV := V_frc r2
  have ix := I0_frc r2 i0
  obtain ⟨x2, s1, s2⟩ := zm_could_55 ix (w := j) (by omega) f (WM_c r2 m) hk9 h2 hk40 (by rw [hV]; exact d3)
  rw [hV] at s1
  refine ⟨cdV (V h) D kn (V h 85 k) l, x1, x2, ?_, ?_, r2, s2⟩
  · rw [← r1, ← hkn, B_could_eq]
    simp only [wS, wR, ↓reduceIte, cV65, cV66, cV67, cV68, cV69, cV70, cV71, cV72, cV73, cV74, cV75, cV76, cV77, cV78, cV79, cV80, cV81, cV82, cV83, cV84, cV85, cV86, cV87, cV88, cV89, cV90]
    rw [bnd (z_isWithin _ _ _ _), if_neg (by rw [decide_eq_true_eq, bI_0, sub1 g.1.2.2.2.2.2.1]; exact not_not_intro h1), bnd (z_isWithin _ _ _ _), if_pos (by rw [decide_eq_true_eq, bI_0]; exact not_not_intro h2)]
    simp only [wS, wR, ↓reduceIte, cV65, cV66, cV67, cV68, cV69, cV70, cV71, cV72, cV73, cV74, cV75, cV76, cV77, cV78, cV79, cV80, cV81, cV82, cV83, cV84, cV85, cV86, cV87, cV88, cV89, cV90, ax_in, tk, nk, hk40, hj, not_false_eq_true, and_self]
    rw [bnd hWA, if_neg hnz]
    by_cases q : n = 0
    · simp only [q, decide_true, ↓reduceIte, wS, wR, ax_in, tk, nk, hk40, not_false_eq_true, and_self, cV65, cV66, cV67, cV68, cV69, cV70, cV71, cV72, cV73, cV74, cV75, cV76, cV77, cV78, cV79, cV80, cV81, cV82, cV83, cV84, cV85, cV86, cV87, cV88, cV89, cV90]
    · simp only [q, decide_false, Bool.false_eq_true, ↓reduceIte, wS, wR, cV65, cV66, cV67, cV68, cV69, cV70, cV71, cV72, cV73, cV74, cV75, cV76, cV77, cV78, cV79, cV80, cV81, cV82, cV83, cV84, cV85, cV86, cV87, cV88, cV89, cV90]
  · obtain ⟨vS, vR, -, -⟩ := ix.1
    have e := ix.2.1
    unfold EQ at e
    rw [hV] at e
    rw [← s1, ← hkn, M_could_eq]
    simp only [vS, vR, ↓reduceIte, e.2.2.2.2.2.1, e.1]
    rw [bnd (zm_in _ _ _ _), if_neg (by rw [decide_eq_true_eq, bI_0, Int32.toInt_toInt64, Int32.toInt_toInt64, sub1 g.1.2.2.2.2.2.1]; exact not_not_intro h1), bnd (zm_in _ _ _ _), if_pos (by rw [decide_eq_true_eq, bI_0, Int32.toInt_toInt64]; exact not_not_intro h2)]
    simp only [vS, vR, ↓reduceIte, ax_in, tk, nk, hk40, hj, not_false_eq_true, and_self, e.1, e.2.2.2.2.2.2.2.2.2.2.2.2.2.2.2.2.2.2.2.1 k, e.2.2.2.2.2.2.2.2.2.2.2.2.2.2.2.2.2.2.2.2.1 k]
    by_cases q : n = 0
    · simp only [q, decide_true, ↓reduceIte]
    · simp only [q, decide_false, Bool.false_eq_true, ↓reduceIte]
