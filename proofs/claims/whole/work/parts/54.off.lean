/-! off, heat -/
def offX (V : BV) (p : Nat) (ht li : Int32) (i ax : Nat) : Int64 := ((if ax = 0 then V 78 i else V 79 i) - stV V p ht li (V 76 i).toInt.toNat ax).toInt64
def opB (V : BV) (p : Nat) (kn : Int32) (i : Nat) : Bool := decide (V 75 i = nI p) && kvB V kn i
def sqF (V : BV) (p : Nat) (kn ht li : Int32) : Nat → Nat → Int64 → Int64
  | 0, _, a => a
  | k + 1, i, a => sqF V p kn ht li k (i + 1) (if opB V p kn i then a + (offX V p ht li i 0 * offX V p ht li i 0 + offX V p ht li i 1 * offX V p ht li i 1) else a)
def cntB (P : Nat → Bool) : Nat → Nat → Nat
  | 0, _ => 0
  | k + 1, i => (if P i then 1 else 0) + cntB P k (i + 1)
theorem cntB_le (P : Nat → Bool) : ∀ (k i : Nat), cntB P k i ≤ k
  | 0, _ => Nat.le_refl _
  | k + 1, i => by
    have := cntB_le P k (i + 1)
    rw [cntB]
    split <;> omega
theorem cntB_0 {P : Nat → Bool} : ∀ (k i : Nat), cntB P k i = 0 ↔ anyB P k i = false
  | 0, _ => by simp [cntB, anyB]
  | k + 1, i => by
    have := cntB_0 (P := P) k (i + 1)
    rw [cntB, anyB]
    cases P i <;> simp [this]
theorem z_sq_5 {h : ax_H} (w : ok h) (g : GV (V h)) {p n : Nat} (hn : V h 74 0 = nI n) (hn2 : n ≤ 100) {ht li : Int32} (hw : Wm h p ht li) (kn : Int32) : ∀ (k i : Nat) (a : Int64), i + k = n → Bk_squaresOff_5 65 (nI p) kn a (nI i) h = some (sqF (V h) p kn ht li k i a, h) := by
  have hcn := cnts g.1
  have w0 := w
  obtain ⟨wS, wR, wG, wN⟩ := w
  have hnM : nM (V h) = n := by show (V h 74 0).toInt.toNat = n; rw [hn, nJ_i (by omega)]; omega
  intro k
  induction k with
  | zero =>
    intro i a hi
    have hle : n ≤ i := by omega
    rw [Bk_squaresOff_5_eq]
    try simp only [wS, wR, ↓reduceIte]
    simp (disch := omega) only [gI_pI, gI_pL, gI_pR, gL_pI, gL_pL, gL_pR, gR_pI, gR_pL, gR_pR, gS_pI, gS_pL, gS_pR, ↓reduceIte, Nat.reduceEqDiff, decide_eq_true_eq, Option.bind_some, false_and, and_false, true_and, and_true, and_self, Nat.reduceAdd, not_false_eq_true, not_true_eq_false, wS, wR, inI, ite_self, Classical.not_not, cV65, cV66, cV67, cV68, cV69, cV70, cV71, cV72, cV73, cV74, cV75, cV76, cV77, cV78, cV79, cV80, cV81, cV82, cV83, cV84, cV85, cV86, cV87, cV88, cV89, cV90, hn, nJ_le, hle]
    rfl
  | succ k ih =>
    intro i a hi
    have hi2 : i < 100 := by omega
    have hle : ¬ n ≤ i := by omega
    obtain ⟨s, hs, hs2, hs3, hs4⟩ := nI_ex (g.2.2.2.1.1 i (by omega)).2.1
    have hs6 : (V h 76 i).toInt.toNat = s := by omega
    have hx0 : Bk_standing 65 (nI s) 0 h = some (stV (V h) p ht li s 0, h) := z_standing w0 g (p := p) (s := s) (ax := 0) (by omega) (by omega) hw
    have hx1 : Bk_standing 65 (nI s) 1 h = some (stV (V h) p ht li s 1, h) := z_standing w0 g (p := p) (s := s) (ax := 1) (by omega) (by omega) hw
    by_cases q1 : V h 75 i = nI p
    · by_cases q2 : kvB (V h) kn i = true
      · have hop : opB (V h) p kn i = true := by unfold opB; rw [decide_eq_true q1, q2]; rfl
        rw [sqF, hop, Bk_squaresOff_5_eq]
        try simp only [wS, wR, ↓reduceIte]
        simp (disch := omega) only [gI_pI, gI_pL, gI_pR, gL_pI, gL_pL, gL_pR, gR_pI, gR_pL, gR_pR, gS_pI, gS_pL, gS_pR, ↓reduceIte, Nat.reduceEqDiff, decide_eq_true_eq, Option.bind_some, false_and, and_false, true_and, and_true, and_self, Nat.reduceAdd, not_false_eq_true, not_true_eq_false, wS, wR, inI, ite_self, Classical.not_not, cV65, cV66, cV67, cV68, cV69, cV70, cV71, cV72, cV73, cV74, cV75, cV76, cV77, cV78, cV79, cV80, cV81, cV82, cV83, cV84, cV85, cV86, cV87, cV88, cV89, cV90, ax_in, hn, nJ_le, nJ_nn, nJ_n, nJ_p1, hi2, hle, q1, q2, ↓bnd (z_isKnown w0 hi2 _), bI_0, hs, ↓bnd hx0, ↓bnd hx1, ih (i + 1) _ (by omega)]
        unfold offX
        rw [hs6]
        rfl
      · have hop : opB (V h) p kn i = false := by unfold opB; rw [Bool.not_eq_true] at q2; rw [q2, Bool.and_false]
        rw [sqF, hop, Bk_squaresOff_5_eq]
        try simp only [wS, wR, ↓reduceIte]
        simp (disch := omega) only [gI_pI, gI_pL, gI_pR, gL_pI, gL_pL, gL_pR, gR_pI, gR_pL, gR_pR, gS_pI, gS_pL, gS_pR, ↓reduceIte, Nat.reduceEqDiff, decide_eq_true_eq, Option.bind_some, false_and, and_false, true_and, and_true, and_self, Nat.reduceAdd, not_false_eq_true, not_true_eq_false, wS, wR, inI, ite_self, Classical.not_not, cV65, cV66, cV67, cV68, cV69, cV70, cV71, cV72, cV73, cV74, cV75, cV76, cV77, cV78, cV79, cV80, cV81, cV82, cV83, cV84, cV85, cV86, cV87, cV88, cV89, cV90, ax_in, hn, nJ_le, nJ_nn, nJ_n, nJ_p1, hi2, hle, q1, q2, ↓bnd (z_isKnown w0 hi2 _), bI_0, ih (i + 1) _ (by omega), Bool.false_eq_true]
    · have hop : opB (V h) p kn i = false := by unfold opB; rw [decide_eq_false q1, Bool.false_and]
      rw [sqF, hop, Bk_squaresOff_5_eq]
      try simp only [wS, wR, ↓reduceIte]
      simp (disch := omega) only [gI_pI, gI_pL, gI_pR, gL_pI, gL_pL, gL_pR, gR_pI, gR_pL, gR_pR, gS_pI, gS_pL, gS_pR, ↓reduceIte, Nat.reduceEqDiff, decide_eq_true_eq, Option.bind_some, false_and, and_false, true_and, and_true, and_self, Nat.reduceAdd, not_false_eq_true, not_true_eq_false, wS, wR, inI, ite_self, Classical.not_not, cV65, cV66, cV67, cV68, cV69, cV70, cV71, cV72, cV73, cV74, cV75, cV76, cV77, cV78, cV79, cV80, cV81, cV82, cV83, cV84, cV85, cV86, cV87, cV88, cV89, cV90, ax_in, hn, nJ_le, nJ_nn, nJ_n, nJ_p1, hi2, hle, q1, ih (i + 1) _ (by omega), Bool.false_eq_true]
def S69 (a k : Nat) : Bool := decide (a = 159 ∧ k = 69)
theorem S69_m {h h' : ax_H} (q : fr S69 h h') : fr Sm h h' := fr_le q fun a k z => by simp only [Sm, S69, decide_eq_false_iff_not] at z ⊢; omega
theorem zm_sq_11 {p n : Nat} (hn2 : n ≤ 100) (ht li : Int32) {kn : Int32} (hk : kn.toInt ≤ 9999) : ∀ (k i c : Nat) (a : Int64) (h : ax_H), I0 h → V h 74 0 = nI n → p < nP (V h) → gI h 159 69 = nI c → c + k ≤ 200 → i + k = n → ∃ h', M_offBy_11 159 (nI p) kn li ht a (nI i) h = some (sqF (V h) p kn ht li k i a, h') ∧ fr S69 h h' ∧ gI h' 159 69 = nI (c + cntB (opB (V h) p kn) k i) := by
  intro k
  induction k with
  | zero =>
    intro i c a h i0 hn hp hc hck hi
    obtain ⟨w, e, g⟩ := i0
    obtain ⟨wS, wR, wG, wN⟩ := w
    unfold EQ at e
    have hle : n ≤ i := by omega
    refine ⟨h, ?_, fr_rf _ _, by rw [hc]; rfl⟩
    rw [M_offBy_11_eq]
    try simp only [wS, wR, ↓reduceIte]
    simp (disch := omega) only [gI_pI, gI_pL, gI_pR, gL_pI, gL_pL, gL_pR, gR_pI, gR_pL, gR_pR, gS_pI, gS_pL, gS_pR, ↓reduceIte, Nat.reduceEqDiff, decide_eq_true_eq, Option.bind_some, false_and, and_false, true_and, and_true, and_self, Nat.reduceAdd, not_false_eq_true, not_true_eq_false, wS, wR, inI, ite_self, Classical.not_not, e, hn, nJ_le, hle]
    rfl
  | succ k ih =>
    intro i c a h i0 hn hp hc hck hi
    have i00 := i0
    obtain ⟨w, e, g⟩ := i0
    have hcn := cnts g.1
    have w0 := w
    have e0 := e
    obtain ⟨wS, wR, wG, wN⟩ := w
    unfold EQ at e
    have hnM : nM (V h) = n := by show (V h 74 0).toInt.toNat = n; rw [hn, nJ_i (by omega)]; omega
    have hi2 : i < 100 := by omega
    have hle : ¬ n ≤ i := by omega
    obtain ⟨s, hs, hs2, hs3, hs4⟩ := nI_ex (g.2.2.2.1.1 i (by omega)).2.1
    have hs6 : (V h 76 i).toInt.toNat = s := by omega
    have hx0 : M_standing 159 (nI p) ht (nI s) li 0 h = some (stV (V h) p ht li s 0, h) := zm_standing w0 g e0 hp (s := s) (ax := 0) (by omega) (by omega) ht li
    have hx1 : M_standing 159 (nI p) ht (nI s) li 1 h = some (stV (V h) p ht li s 1, h) := zm_standing w0 g e0 hp (s := s) (ax := 1) (by omega) (by omega) ht li
    have hcc := zm_counts w0 e0 g.2.2.2.1 hn hn2 (i := i) (by omega) hk
    by_cases q1 : V h 75 i = nI p
    · by_cases q2 : kvB (V h) kn i = true
      · have hop : opB (V h) p kn i = true := by unfold opB; rw [decide_eq_true q1, q2]; rfl
        have fq : fr S69 h (pI h 159 69 (nI (c + 1))) := fr_pI rfl
        have hV := V_frm (S69_m fq)
        obtain ⟨h', r1, r2, r3⟩ := ih (i + 1) (c + 1) (a + (offX (V h) p ht li i 0 * offX (V h) p ht li i 0 + offX (V h) p ht li i 1 * offX (V h) p ht li i 1)) (pI h 159 69 (nI (c + 1))) (I0_frm (S69_m fq) i00) (by rw [hV]; exact hn) (by rw [hV]; exact hp) rfl (by omega) (by omega)
        rw [hV] at r1 r3
        refine ⟨h', ?_, fr_tr fq r2, ?_⟩
        · rw [sqF, hop, if_pos rfl, ← r1, M_offBy_11_eq]
          try simp only [wS, wR, ↓reduceIte]
          simp (disch := omega) only [gI_pI, gI_pL, gI_pR, gL_pI, gL_pL, gL_pR, gR_pI, gR_pL, gR_pR, gS_pI, gS_pL, gS_pR, ↓reduceIte, Nat.reduceEqDiff, decide_eq_true_eq, Option.bind_some, false_and, and_false, true_and, and_true, and_self, Nat.reduceAdd, not_false_eq_true, not_true_eq_false, wS, wR, inI, ite_self, Classical.not_not, e, ax_in, hn, nJ_le, nJ_nn, nJ_n, nJ_p1, hi2, hle, q1, q2, ↓bnd hcc, bI_0, hs, ↓bnd hx0, ↓bnd hx1, hc]
          unfold offX
          rw [hs6]
          rfl
        · rw [r3, cntB, hop, if_pos rfl, Nat.add_assoc]
      · have hop : opB (V h) p kn i = false := by unfold opB; rw [Bool.not_eq_true] at q2; rw [q2, Bool.and_false]
        obtain ⟨h', r1, r2, r3⟩ := ih (i + 1) c a h i00 hn hp hc (by omega) (by omega)
        refine ⟨h', ?_, r2, ?_⟩
        · rw [sqF, hop, if_neg (by decide), ← r1, M_offBy_11_eq]
          try simp only [wS, wR, ↓reduceIte]
          simp (disch := omega) only [gI_pI, gI_pL, gI_pR, gL_pI, gL_pL, gL_pR, gR_pI, gR_pL, gR_pR, gS_pI, gS_pL, gS_pR, ↓reduceIte, Nat.reduceEqDiff, decide_eq_true_eq, Option.bind_some, false_and, and_false, true_and, and_true, and_self, Nat.reduceAdd, not_false_eq_true, not_true_eq_false, wS, wR, inI, ite_self, Classical.not_not, e, ax_in, hn, nJ_le, nJ_nn, nJ_n, nJ_p1, hi2, hle, q1, q2, ↓bnd hcc, bI_0, Bool.false_eq_true]
        · rw [r3, cntB, hop, if_neg (by decide), Nat.zero_add]
    · have hop : opB (V h) p kn i = false := by unfold opB; rw [decide_eq_false q1, Bool.false_and]
      obtain ⟨h', r1, r2, r3⟩ := ih (i + 1) c a h i00 hn hp hc (by omega) (by omega)
      refine ⟨h', ?_, r2, ?_⟩
      · rw [sqF, hop, if_neg (by decide), ← r1, M_offBy_11_eq]
        try simp only [wS, wR, ↓reduceIte]
        simp (disch := omega) only [gI_pI, gI_pL, gI_pR, gL_pI, gL_pL, gL_pR, gR_pI, gR_pL, gR_pR, gS_pI, gS_pL, gS_pR, ↓reduceIte, Nat.reduceEqDiff, decide_eq_true_eq, Option.bind_some, false_and, and_false, true_and, and_true, and_self, Nat.reduceAdd, not_false_eq_true, not_true_eq_false, wS, wR, inI, ite_self, Classical.not_not, e, ax_in, hn, nJ_le, nJ_nn, nJ_n, nJ_p1, hi2, hle, q1]
      · rw [r3, cntB, hop, if_neg (by decide), Nat.zero_add]
def sqV (V : BV) (p : Nat) (kn ht li : Int32) : Int64 := sqF V p kn ht li (nM V) 0 0
theorem z_sq {h : ax_H} (w : ok h) (g : GV (V h)) {p : Nat} {ht li : Int32} (hw : Wm h p ht li) (kn : Int32) : Bk_squaresOff 65 (nI p) kn h = some (sqV (V h) p kn ht li, h) := by
  have hcn := cnts g.1
  rw [Bk_squaresOff_eq]
  exact z_sq_5 w g (nI_nM g.1.2.2.2.1) (by omega) hw kn (nM (V h)) 0 0 (by omega)
theorem zm_sq {h : ax_H} (i : I0 h) {p : Nat} (hp : p < nP (V h)) (ht li : Int32) {kn : Int32} (hk : kn.toInt ≤ 9999) : ∃ h', M_offBy 159 (nI p) kn li ht h = some (sqV (V h) p kn ht li, h') ∧ fr S69 h h' ∧ gI h' 159 69 = nI (cntB (opB (V h) p kn) (nM (V h)) 0) := by
  have i0 := i
  obtain ⟨w, e, g⟩ := i
  have hcn := cnts g.1
  have fq : fr S69 h (pI h 159 69 0) := fr_pI rfl
  have hV := V_frm (S69_m fq)
  obtain ⟨h', r1, r2, r3⟩ := zm_sq_11 (p := p) (n := nM (V h)) (by omega) ht li hk (nM (V h)) 0 0 0 (pI h 159 69 0) (I0_frm (S69_m fq) i0) (by rw [hV]; exact nI_nM g.1.2.2.2.1) (by rw [hV]; exact hp) rfl (by omega) (by omega)
  rw [hV] at r1 r3
  refine ⟨h', ?_, fr_tr fq r2, by rw [r3, Nat.zero_add]⟩
  obtain ⟨wS, wR, wG, wN⟩ := w
  rw [M_offBy_eq]
  try simp only [wS, wR, ↓reduceIte]
  exact r1
theorem qy_off {h : ax_H} (i : I0 h) (p kn li : Int32) : qry (B_off 64 p kn li h) (M_off 159 p kn li) h := by
  have i0 := i
  obtain ⟨w, e, g⟩ := i
  have w0 := w
  obtain ⟨wS, wR, wG, wN⟩ := w
  have e0 := e
  have hcn := cnts g.1
  by_cases h1 : inI p 0 ((V h 70 0).toInt - 1)
  case neg =>
    refine qry_no (v := -1) ?_ ?_
    · rw [B_off_eq]
      try simp only [wS, wR, ↓reduceIte]
      simp only [gI_pI, gI_pL, gI_pR, gL_pI, gL_pL, gL_pR, gR_pI, gR_pL, gR_pR, gS_pI, gS_pL, gS_pR, ↓reduceIte, Nat.reduceEqDiff, decide_eq_true_eq, Option.bind_some, false_and, and_false, true_and, and_true, and_self, Nat.reduceAdd, not_false_eq_true, not_true_eq_false, wS, wR, inI, ite_self, Classical.not_not, ↓bnd (z_Pl_has w0 g.1 _), bI_0, h1]
    · rw [M_off_eq]
      try simp only [wS, wR, ↓reduceIte]
      simp only [gI_pI, gI_pL, gI_pR, gL_pI, gL_pL, gL_pR, gR_pI, gR_pL, gR_pR, gS_pI, gS_pL, gS_pR, ↓reduceIte, Nat.reduceEqDiff, decide_eq_true_eq, Option.bind_some, false_and, and_false, true_and, and_true, and_self, Nat.reduceAdd, not_false_eq_true, not_true_eq_false, wS, wR, inI, ite_self, Classical.not_not, ↓bnd (zm_isPlate w0 g.1 e0 _), bI_0, h1]
  by_cases h2 : 0 ≤ kn.toInt ∧ kn.toInt ≤ 9999
  case neg =>
    refine qry_no (v := -1) ?_ ?_
    · rw [B_off_eq]
      try simp only [wS, wR, ↓reduceIte]
      simp only [gI_pI, gI_pL, gI_pR, gL_pI, gL_pL, gL_pR, gR_pI, gR_pL, gR_pR, gS_pI, gS_pL, gS_pR, ↓reduceIte, Nat.reduceEqDiff, decide_eq_true_eq, Option.bind_some, false_and, and_false, true_and, and_true, and_self, Nat.reduceAdd, not_false_eq_true, not_true_eq_false, wS, wR, inI, ite_self, Classical.not_not, ↓bnd (z_Pl_has w0 g.1 _), ↓bnd (z_isWeek _ _), bI_0, h1, h2]
    · rw [M_off_eq]
      try simp only [wS, wR, ↓reduceIte]
      simp only [gI_pI, gI_pL, gI_pR, gL_pI, gL_pL, gL_pR, gR_pI, gR_pL, gR_pR, gS_pI, gS_pL, gS_pR, ↓reduceIte, Nat.reduceEqDiff, decide_eq_true_eq, Option.bind_some, false_and, and_false, true_and, and_true, and_self, Nat.reduceAdd, not_false_eq_true, not_true_eq_false, wS, wR, inI, ite_self, Classical.not_not, ↓bnd (zm_isPlate w0 g.1 e0 _), ↓bnd (zm_isWeek _ _), bI_0, h1, h2]
  by_cases h3 : 0 ≤ li.toInt ∧ li.toInt ≤ 99999
  case neg =>
    refine qry_no (v := -1) ?_ ?_
    · rw [B_off_eq]
      try simp only [wS, wR, ↓reduceIte]
      simp only [gI_pI, gI_pL, gI_pR, gL_pI, gL_pL, gL_pR, gR_pI, gR_pL, gR_pR, gS_pI, gS_pL, gS_pR, ↓reduceIte, Nat.reduceEqDiff, decide_eq_true_eq, Option.bind_some, false_and, and_false, true_and, and_true, and_self, Nat.reduceAdd, not_false_eq_true, not_true_eq_false, wS, wR, inI, ite_self, Classical.not_not, ↓bnd (z_Pl_has w0 g.1 _), ↓bnd (z_isWeek _ _), ↓bnd (z_isNumber _ _), bI_0, h1, h2, h3]
    · rw [M_off_eq]
      try simp only [wS, wR, ↓reduceIte]
      simp only [gI_pI, gI_pL, gI_pR, gL_pI, gL_pL, gL_pR, gR_pI, gR_pL, gR_pR, gS_pI, gS_pL, gS_pR, ↓reduceIte, Nat.reduceEqDiff, decide_eq_true_eq, Option.bind_some, false_and, and_false, true_and, and_true, and_self, Nat.reduceAdd, not_false_eq_true, not_true_eq_false, wS, wR, inI, ite_self, Classical.not_not, ↓bnd (zm_isPlate w0 g.1 e0 _), ↓bnd (zm_isWeek _ _), ↓bnd (zm_in _ _ _ _), bI_0, h1, h2, h3, Int32.toInt_toInt64, Int32.reduceToInt, Int64.reduceToInt, tN9, tN299, tN99999, tN9999, tN99, tL9, tL299, tL99999, tL9999, tL99, i1_0, i0_1]
  obtain ⟨j, rfl, hj, hj2, hj3⟩ := nI_ex h1
  have hj4 : j < 16 := by omega
  have hj5 : j < nP (V h) := by omega
  obtain ⟨h', q1, q2, q3⟩ := z_warm w0 hj4 (g.2.2.1 j hj5).1 (V h 73 j) li
  have qc := Sw_c q2
  have hV := V_frc qc
  have i1 := I0_frc qc i0
  have hst := z_sq (h := h') i1.1 i1.2.2 (p := j) (ht := V h 73 j) (li := li) (fun u hu => by rw [hV]; exact q3 u hu) kn
  rw [hV] at hst
  obtain ⟨h2', r1, r2, r3⟩ := zm_sq i1 (p := j) (by rw [hV]; exact hj5) (V h 73 j) li h2.2
  rw [hV] at r1
  refine ⟨sqV (V h) j kn (V h 73 j) li, h', h2', ?_, ?_, qc, S69_m r2⟩
  · have sS := fr_S q2
    have sR := fr_R q2
    rw [B_off_eq]
    try simp only [wS, wR, ↓reduceIte]
    simp (disch := omega) only [gI_pI, gI_pL, gI_pR, gL_pI, gL_pL, gL_pR, gR_pI, gR_pL, gR_pR, gS_pI, gS_pL, gS_pR, ↓reduceIte, Nat.reduceEqDiff, decide_eq_true_eq, Option.bind_some, false_and, and_false, true_and, and_true, and_self, Nat.reduceAdd, not_false_eq_true, not_true_eq_false, wS, wR, inI, ite_self, Classical.not_not, cV65, cV66, cV67, cV68, cV69, cV70, cV71, cV72, cV73, cV74, cV75, cV76, cV77, cV78, cV79, cV80, cV81, cV82, cV83, cV84, cV85, cV86, cV87, cV88, cV89, cV90, ↓bnd (z_Pl_has w0 g.1 _), ↓bnd (z_isWeek _ _), ↓bnd (z_isNumber _ _), bI_0, h1, h2, h3, ax_in, nJ_nn, nJ_n, hj4, ↓bnd q1, sS, sR, ↓bnd hst]
  · obtain ⟨w1, e1, g1⟩ := i1
    have hP := zm_isPlate w1 g1.1 e1 (nI j)
    rw [hV] at hP
    obtain ⟨vS, vR, vG, vN⟩ := w1
    have e1' := e1
    unfold EQ at e1'
    rw [hV] at e1'
    rw [M_off_eq]
    simp only [vS, vR, ↓reduceIte]
    simp (disch := omega) only [gI_pI, gI_pL, gI_pR, gL_pI, gL_pL, gL_pR, gR_pI, gR_pL, gR_pR, gS_pI, gS_pL, gS_pR, ↓reduceIte, Nat.reduceEqDiff, decide_eq_true_eq, Option.bind_some, false_and, and_false, true_and, and_true, and_self, Nat.reduceAdd, not_false_eq_true, not_true_eq_false, wS, wR, inI, ite_self, Classical.not_not, vS, vR, e1', ↓bnd hP, ↓bnd (zm_isWeek _ _), ↓bnd (zm_in _ _ _ _), bI_0, h1, h2, h3, Int32.toInt_toInt64, Int32.reduceToInt, Int64.reduceToInt, tN9, tN299, tN99999, tN9999, tN99, tL9, tL299, tL99999, tL9999, tL99, i1_0, i0_1, ax_in, nJ_nn, nJ_n, hj4, ↓bnd r1]
