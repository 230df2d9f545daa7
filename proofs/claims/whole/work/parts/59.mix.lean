/-! mixed: the class's side -/
theorem bt_pow {n i : Nat} (hn : n < 32) (hi : i < 32) : bt ((1 : Int32) <<< (nI n &&& 31)) i = decide (i = n) := by
  rw [b_shl n hn 1 hi]
  by_cases h : n ≤ i
  · rw [bt_1 (i - n) (by omega)]
    by_cases e : i = n
    · simp [e]
    · have : ¬ i - n = 0 := by omega
      simp [e, this]
  · have : ¬ i = n := by omega
    simp [h, this]
/-- a plate has an image of a star: known, or told by then -/
def psB (V : BV) (p kn : Int32) (s i : Nat) : Bool := (decide (V 75 i = p) && kvB V kn i) && decide (V 76 i = nI s)
def pwB (V : BV) (p kn : Int32) (s i : Nat) : Bool := (decide (V 75 i = p) && wkB V kn i) && decide (V 76 i = nI s)
def hasS (V : BV) (p kn : Int32) (s : Nat) : Bool := anyB (pwB V p kn s) (nM V) 0
theorem has_eq {V : BV} (g : GI V) {p kn : Int32} (hk : kn.toInt ≤ 9999) (s : Nat) : anyB (psB V p kn s) (nM V) 0 = hasS V p kn s := by
  unfold hasS
  rw [Bool.eq_iff_iff, anyB_iff, anyB_iff]
  constructor
  · rintro ⟨i, h1, h2, h3⟩
    refine ⟨i, h1, h2, ?_⟩
    unfold psB at h3
    unfold pwB
    rw [Bool.and_eq_true, Bool.and_eq_true] at h3 ⊢
    have := (kv_iff g hk (i := i) (by omega)).mp h3.1.2
    exact ⟨⟨h3.1.1, by simpa [wkB] using this.1⟩, h3.2⟩
  · rintro ⟨i, h1, h2, h3⟩
    unfold pwB at h3
    rw [Bool.and_eq_true, Bool.and_eq_true, decide_eq_true_eq, decide_eq_true_eq] at h3
    obtain ⟨j, j1, j2, j3⟩ := ex_kv g hk (i := i) (by omega) (by simpa [wkB] using h3.1.2)
    refine ⟨j, by omega, by omega, ?_⟩
    unfold psB
    rw [Bool.and_eq_true, Bool.and_eq_true, decide_eq_true_eq, decide_eq_true_eq]
    exact ⟨⟨j2.1.symm.trans h3.1.1, j3⟩, j2.2.1.symm.trans h3.2⟩
theorem z_sop_5 {h : ax_H} (w : ok h) (g : GV (V h)) (p kn : Int32) : ∀ (k i : Nat) (a : Int32), i + k = nM (V h) → ∃ r, Im_starsOnPlate_5 74 p kn a (nI i) h = some (r, h) ∧ ∀ s, s < 32 → bt r s = (bt a s || anyB (psB (V h) p kn s) k i) := by
  have hcn := cnts g.1
  have hn := nI_nM g.1.2.2.2.1
  have w0 := w
  obtain ⟨wS, wR, wG, wN⟩ := w
  intro k
  induction k with
  | zero =>
    intro i a hi
    have hle : nM (V h) ≤ i := by omega
    refine ⟨a, ?_, fun s _ => by rw [anyB, Bool.or_false]⟩
    rw [Im_starsOnPlate_5_eq]
    try simp only [wS, wR, ↓reduceIte]
    simp (disch := omega) only [gI_pI, gI_pL, gI_pR, gL_pI, gL_pL, gL_pR, gR_pI, gR_pL, gR_pR, gS_pI, gS_pL, gS_pR, ↓reduceIte, Nat.reduceEqDiff, decide_eq_true_eq, Option.bind_some, false_and, and_false, true_and, and_true, and_self, Nat.reduceAdd, not_false_eq_true, not_true_eq_false, wS, wR, inI, ite_self, Classical.not_not, cV65, cV66, cV67, cV68, cV69, cV70, cV71, cV72, cV73, cV74, cV75, cV76, cV77, cV78, cV79, cV80, cV81, cV82, cV83, cV84, cV85, cV86, cV87, cV88, cV89, cV90, hn, nJ_le, hle]
  | succ k ih =>
    intro i a hi
    have hle : ¬ nM (V h) ≤ i := by omega
    have hi2 : i < 100 := by omega
    obtain ⟨s0, hs, hs2, hs3, hs4⟩ := nI_ex (g.2.2.2.1.1 i (by omega)).2.1
    rw [Im_starsOnPlate_5_eq]
    try simp only [wS, wR, ↓reduceIte]
    by_cases q1 : V h 75 i = p
    · by_cases q2 : kvB (V h) kn i = true
      · obtain ⟨r, r1, r2⟩ := ih (i + 1) (a ||| ((1 : Int32) <<< (nI s0 &&& 31))) (by omega)
        refine ⟨r, ?_, fun s hs32 => ?_⟩
        · simp (disch := omega) only [gI_pI, gI_pL, gI_pR, gL_pI, gL_pL, gL_pR, gR_pI, gR_pL, gR_pR, gS_pI, gS_pL, gS_pR, ↓reduceIte, Nat.reduceEqDiff, decide_eq_true_eq, Option.bind_some, false_and, and_false, true_and, and_true, and_self, Nat.reduceAdd, not_false_eq_true, not_true_eq_false, wS, wR, inI, ite_self, Classical.not_not, cV65, cV66, cV67, cV68, cV69, cV70, cV71, cV72, cV73, cV74, cV75, cV76, cV77, cV78, cV79, cV80, cV81, cV82, cV83, cV84, cV85, cV86, cV87, cV88, cV89, cV90, ax_in, hn, nJ_le, nJ_nn, nJ_n, nJ_p1, hi2, hle, q1, q2, ↓bnd (z_isKnown w0 hi2 _), bI_0, hs]
          exact r1
        · rw [r2 s hs32, b_or, bt_pow (by omega) hs32, anyB]
          have : psB (V h) p kn s i = decide (s = s0) := by
            unfold psB
            rw [decide_eq_true q1, q2, hs, Bool.and_self, Bool.true_and, decide_eq_decide, nJ_eq (by omega) (by omega)]
            exact ⟨fun q => q.symm, fun q => q.symm⟩
          rw [this, Bool.or_assoc]
      · obtain ⟨r, r1, r2⟩ := ih (i + 1) a (by omega)
        refine ⟨r, ?_, fun s hs32 => ?_⟩
        · simp (disch := omega) only [gI_pI, gI_pL, gI_pR, gL_pI, gL_pL, gL_pR, gR_pI, gR_pL, gR_pR, gS_pI, gS_pL, gS_pR, ↓reduceIte, Nat.reduceEqDiff, decide_eq_true_eq, Option.bind_some, false_and, and_false, true_and, and_true, and_self, Nat.reduceAdd, not_false_eq_true, not_true_eq_false, wS, wR, inI, ite_self, Classical.not_not, cV65, cV66, cV67, cV68, cV69, cV70, cV71, cV72, cV73, cV74, cV75, cV76, cV77, cV78, cV79, cV80, cV81, cV82, cV83, cV84, cV85, cV86, cV87, cV88, cV89, cV90, ax_in, hn, nJ_le, nJ_nn, nJ_n, nJ_p1, hi2, hle, q1, q2, ↓bnd (z_isKnown w0 hi2 _), bI_0, Bool.false_eq_true]
          exact r1
        · rw [r2 s hs32, anyB]
          have : psB (V h) p kn s i = false := by
            unfold psB
            rw [Bool.not_eq_true] at q2
            rw [q2, Bool.and_false, Bool.false_and]
          rw [this, Bool.false_or]
    · obtain ⟨r, r1, r2⟩ := ih (i + 1) a (by omega)
      refine ⟨r, ?_, fun s hs32 => ?_⟩
      · simp (disch := omega) only [gI_pI, gI_pL, gI_pR, gL_pI, gL_pL, gL_pR, gR_pI, gR_pL, gR_pR, gS_pI, gS_pL, gS_pR, ↓reduceIte, Nat.reduceEqDiff, decide_eq_true_eq, Option.bind_some, false_and, and_false, true_and, and_true, and_self, Nat.reduceAdd, not_false_eq_true, not_true_eq_false, wS, wR, inI, ite_self, Classical.not_not, cV65, cV66, cV67, cV68, cV69, cV70, cV71, cV72, cV73, cV74, cV75, cV76, cV77, cV78, cV79, cV80, cV81, cV82, cV83, cV84, cV85, cV86, cV87, cV88, cV89, cV90, ax_in, hn, nJ_le, nJ_nn, nJ_n, nJ_p1, hi2, hle, q1]
        exact r1
      · rw [r2 s hs32, anyB]
        have : psB (V h) p kn s i = false := by
          unfold psB
          rw [decide_eq_false q1, Bool.false_and, Bool.false_and]
        rw [this, Bool.false_or]
theorem z_sop {h : ax_H} (w : ok h) (g : GV (V h)) (p : Int32) {kn : Int32} (hk : kn.toInt ≤ 9999) : ∃ r, Im_starsOnPlate 74 p kn h = some (r, h) ∧ ∀ s, s < 32 → bt r s = hasS (V h) p kn s := by
  obtain ⟨r, r1, r2⟩ := z_sop_5 w g p kn (nM (V h)) 0 0 (by omega)
  refine ⟨r, by rw [Im_starsOnPlate_eq]; exact r1, fun s hs => ?_⟩
  rw [r2 s hs, b_0, Bool.false_or, has_eq g.2.2.2.1 hk]
/-- sums over stars -/
def zo (B : Nat → Bool) (F : Nat → Int) : Nat → Nat → Int → Int
  | 0, _, a => a
  | k + 1, i, a => zo B F k (i + 1) (if B i then a + F i else a)
def mS (V : BV) (s : Nat) : Int := gz 2 (sx V s) (sy V s) 0 * gz 2 (sx V s) (sy V s) 0 + gz 2 (sx V s) (sy V s) 1 * gz 2 (sx V s) (sy V s) 1
def mL (V : BV) (s : Nat) : Int := gz 4 (sx V s) (sy V s) 0 * gz 4 (sx V s) (sy V s) 0 + gz 4 (sx V s) (sy V s) 1 * gz 4 (sx V s) (sy V s) 1
def mB (V : BV) (s : Nat) : Int := gz 2 (sx V s) (sy V s) 0 * gz 4 (sx V s) (sy V s) 0 + gz 2 (sx V s) (sy V s) 1 * gz 4 (sx V s) (sy V s) 1
def S158 (a _k : Nat) : Bool := decide (a = 158)
theorem S158_c {h h' : ax_H} (q : fr S158 h h') : fr Sc h h' := fr_le q fun a k z => by simp only [Sc, S158, decide_eq_false_iff_not] at z ⊢; omega
/-- what the class's Mix holds -/
def MX (h : ax_H) (a b c : Int) : Prop := gL h 158 0 = Int64.ofInt a ∧ gL h 158 1 = Int64.ofInt b ∧ gL h 158 2 = Int64.ofInt c
theorem mx_p {t x y : Int} (ht : -1 ≤ t ∧ t ≤ 1) (hx : -81 ≤ x ∧ x ≤ 81) (hy : -81 ≤ y ∧ y ≤ 81) : (Int32.ofInt t * Int32.ofInt x * Int32.ofInt y).toInt64 = Int64.ofInt (t * (x * y)) := by
  have m1 := mul_bd hx hy
  have m2 := mul_bd (x := t) (y := x * y) (k := 1) (m := 81 * 81) (by omega) (by omega)
  rw [← Int32.ofInt_mul, ← Int32.ofInt_mul, Int.mul_assoc]
  exact i_toL (by omega)
theorem z_mxadd_3 {s : Nat} {t : Int} (ht : -1 ≤ t ∧ t ≤ 1) (ax : Nat) (ha : ax < 2) {h : ax_H} (w : ok h) (g : GV (V h)) (hs : s < nS (V h)) {a b c : Int} (hm : MX h a b c) : ∃ h', Mx_add_3 158 66 (nI s) (Int32.ofInt t) (nI ax) h = Mx_add_3 158 66 (nI s) (Int32.ofInt t) (nI (ax + 1)) h' ∧ fr S158 h h' ∧ MX h' (a + t * (gz 2 (sx (V h) s) (sy (V h) s) ax * gz 2 (sx (V h) s) (sy (V h) s) ax)) (b + t * (gz 4 (sx (V h) s) (sy (V h) s) ax * gz 4 (sx (V h) s) (sy (V h) s) ax)) (c + t * (gz 2 (sx (V h) s) (sy (V h) s) ax * gz 4 (sx (V h) s) (sy (V h) s) ax)) := by
  have w0 := w
  obtain ⟨wS, wR, wG, wN⟩ := w
  obtain ⟨m1, m2, m3⟩ := hm
  have g2 : St_give 66 2 (nI s) (nI ax) h = some (Int32.ofInt (gz 2 (sx (V h) s) (sy (V h) s) ax), h) := z_give w0 g.1 g.2.1 (t := 2) (by omega) hs ha
  have g4 : St_give 66 4 (nI s) (nI ax) h = some (Int32.ofInt (gz 4 (sx (V h) s) (sy (V h) s) ax), h) := z_give w0 g.1 g.2.1 (t := 4) (by omega) hs ha
  obtain ⟨s1, s2, s3, -⟩ := g.2.1 s hs
  have hb : ∀ u, u < 6 → -81 ≤ gz u (sx (V h) s) (sy (V h) s) ax ∧ gz u (sx (V h) s) (sy (V h) s) ax ≤ 81 := fun u hu => by
    have hb := gz_bd (t := u) hu s1 s2 (fun q => s3 ⟨i32_eq.mpr q.1, i32_eq.mpr q.2⟩)
    have hm := gMx_81 u
    match ax, ha with
    | 0, _ => simp only [sx, sy]; omega
    | 1, _ => simp only [sx, sy]; omega
  have p1 := mx_p ht (hb 2 (by omega)) (hb 2 (by omega))
  have p2 := mx_p ht (hb 4 (by omega)) (hb 4 (by omega))
  have p3 := mx_p ht (hb 2 (by omega)) (hb 4 (by omega))
  have h2 : ¬ (2 : Int32) ≤ nI ax := by rw [show (2 : Int32) = nI 2 from rfl, nJ_le (by omega) (by omega)]; omega
  refine ⟨pL (pL (pL h 158 0 (Int64.ofInt (a + t * (gz 2 (sx (V h) s) (sy (V h) s) ax * gz 2 (sx (V h) s) (sy (V h) s) ax)))) 158 1 (Int64.ofInt (b + t * (gz 4 (sx (V h) s) (sy (V h) s) ax * gz 4 (sx (V h) s) (sy (V h) s) ax)))) 158 2 (Int64.ofInt (c + t * (gz 2 (sx (V h) s) (sy (V h) s) ax * gz 4 (sx (V h) s) (sy (V h) s) ax))), ?_, fr_tr (fr_tr (fr_pL rfl) (fr_pL rfl)) (fr_pL rfl), ⟨?_, ?_, ?_⟩⟩
  · rw [Mx_add_3_eq]
    try simp only [wS, wR, ↓reduceIte]
    simp (disch := omega) only [gI_pI, gI_pL, gI_pR, gL_pI, gL_pL, gL_pR, gR_pI, gR_pL, gR_pR, gS_pI, gS_pL, gS_pR, ↓reduceIte, Nat.reduceEqDiff, decide_eq_true_eq, Option.bind_some, false_and, and_false, true_and, and_true, and_self, Nat.reduceAdd, not_false_eq_true, not_true_eq_false, wS, wR, inI, ite_self, Classical.not_not, h2, ↓bnd g2, ↓bnd g4, Mx_add_29_eq, Mx_add_46_eq, Mx_add_63_eq, p1, p2, p3, m1, m2, m3, nJ_p1, ← Int64.ofInt_add]
  · rfl
  · rfl
  · rfl
theorem z_mxadd {s : Nat} {t : Int} (ht : -1 ≤ t ∧ t ≤ 1) {h : ax_H} (w : ok h) (g : GV (V h)) (hs : s < nS (V h)) {a b c : Int} (hm : MX h a b c) : ∃ h', Mx_add 158 66 (nI s) (Int32.ofInt t) h = some h' ∧ fr S158 h h' ∧ MX h' (a + t * mS (V h) s) (b + t * mL (V h) s) (c + t * mB (V h) s) := by
  obtain ⟨h1, q1, f1, m1⟩ := z_mxadd_3 ht 0 (by omega) w g hs hm
  have hV := V_frc (S158_c f1)
  obtain ⟨h2, q2, f2, m2⟩ := z_mxadd_3 (s := s) ht 1 (by omega) (ok_fr f1 w) (by rw [hV]; exact g) (by rw [hV]; exact hs) m1
  rw [hV] at m2
  refine ⟨h2, ?_, fr_tr f1 f2, ?_⟩
  · rw [Mx_add_eq]
    refine q1.trans (q2.trans ?_)
    rw [Mx_add_3_eq, if_pos (by decide)]
  · unfold mS mL mB
    rw [Int.mul_add, Int.mul_add, Int.mul_add, ← Int.add_assoc, ← Int.add_assoc, ← Int.add_assoc]
    exact m2
theorem z_gat_29 (v : Int32) : ∀ (k i : Nat) (h : ax_H), ok h → GV (V h) → i + k = nS (V h) → ∀ a b c, MX h a b c → ∃ h', Mx_gather_29 158 65 v (nI i) h = some h' ∧ fr S158 h h' ∧ MX h' (zo (bt v) (mS (V h)) k i a) (zo (bt v) (mL (V h)) k i b) (zo (bt v) (mB (V h)) k i c) := by
  intro k
  induction k with
  | zero =>
    intro i h w g hi a b c hm
    have hcn := cnts g.1
    have hn := nI_nS g.1.2.1
    obtain ⟨wS, wR, wG, wN⟩ := w
    have hle : nS (V h) ≤ i := by omega
    refine ⟨h, ?_, fr_rf _ _, hm⟩
    rw [Mx_gather_29_eq]
    try simp only [wS, wR, ↓reduceIte]
    simp (disch := omega) only [gI_pI, gI_pL, gI_pR, gL_pI, gL_pL, gL_pR, gR_pI, gR_pL, gR_pR, gS_pI, gS_pL, gS_pR, ↓reduceIte, Nat.reduceEqDiff, decide_eq_true_eq, Option.bind_some, false_and, and_false, true_and, and_true, and_self, Nat.reduceAdd, not_false_eq_true, not_true_eq_false, wS, wR, inI, ite_self, Classical.not_not, cV65, cV66, cV67, cV68, cV69, cV70, cV71, cV72, cV73, cV74, cV75, cV76, cV77, cV78, cV79, cV80, cV81, cV82, cV83, cV84, cV85, cV86, cV87, cV88, cV89, cV90, hn, nJ_le, hle]
  | succ k ih =>
    intro i h w g hi a b c hm
    have hcn := cnts g.1
    have hn := nI_nS g.1.2.1
    have w0 := w
    obtain ⟨wS, wR, wG, wN⟩ := w
    have hle : ¬ nS (V h) ≤ i := by omega
    rw [zo, zo, zo]
    cases hb : bt v i with
    | false =>
      obtain ⟨h', q1, f1, m1⟩ := ih (i + 1) h w0 g (by omega) a b c hm
      refine ⟨h', ?_, f1, m1⟩
      rw [Mx_gather_29_eq]
      try simp only [wS, wR, ↓reduceIte]
      simp (disch := omega) only [gI_pI, gI_pL, gI_pR, gL_pI, gL_pL, gL_pR, gR_pI, gR_pL, gR_pR, gS_pI, gS_pL, gS_pR, ↓reduceIte, Nat.reduceEqDiff, decide_eq_true_eq, Option.bind_some, false_and, and_false, true_and, and_true, and_self, Nat.reduceAdd, not_false_eq_true, not_true_eq_false, wS, wR, inI, ite_self, Classical.not_not, cV65, cV66, cV67, cV68, cV69, cV70, cV71, cV72, cV73, cV74, cV75, cV76, cV77, cV78, cV79, cV80, cV81, cV82, cV83, cV84, cV85, cV86, cV87, cV88, cV89, cV90, hn, nJ_le, hle, bt_t, hb, nJ_p1]
      exact q1
    | true =>
      obtain ⟨h1, q1, f1, m1⟩ := z_mxadd (t := 1) (by omega) w0 g (s := i) (by omega) hm
      rw [Int.one_mul, Int.one_mul, Int.one_mul] at m1
      have hV := V_frc (S158_c f1)
      obtain ⟨h', q2, f2, m2⟩ := ih (i + 1) h1 (ok_fr f1 w0) (by rw [hV]; exact g) (by rw [hV]; omega) _ _ _ m1
      rw [hV] at m2
      refine ⟨h', ?_, fr_tr f1 f2, m2⟩
      have q1' : Mx_add 158 66 (nI i) 1 h = some h1 := q1
      rw [Mx_gather_29_eq]
      try simp only [wS, wR, ↓reduceIte]
      simp (disch := omega) only [gI_pI, gI_pL, gI_pR, gL_pI, gL_pL, gL_pR, gR_pI, gR_pL, gR_pR, gS_pI, gS_pL, gS_pR, ↓reduceIte, Nat.reduceEqDiff, decide_eq_true_eq, Option.bind_some, false_and, and_false, true_and, and_true, and_self, Nat.reduceAdd, not_false_eq_true, not_true_eq_false, wS, wR, inI, ite_self, Classical.not_not, cV65, cV66, cV67, cV68, cV69, cV70, cV71, cV72, cV73, cV74, cV75, cV76, cV77, cV78, cV79, cV80, cV81, cV82, cV83, cV84, cV85, cV86, cV87, cV88, cV89, cV90, hn, nJ_le, hle, bt_t, hb, nJ_p1, Bool.true_eq_false, ↓bnd q1']
      exact q2
theorem zo_eq {B C : Nat → Bool} {F : Nat → Int} : ∀ (k i : Nat) (a : Int), (∀ j, i ≤ j → j < i + k → B j = C j) → zo B F k i a = zo C F k i a
  | 0, _, _, _ => rfl
  | k + 1, i, a, hh => by
    rw [zo, zo, hh i (by omega) (by omega)]
    exact zo_eq k (i + 1) _ fun j h1 h2 => hh j (by omega) (by omega)
def tS (V : BV) (B : Nat → Bool) : Int := zo B (mS V) (nS V) 0 0
def tL (V : BV) (B : Nat → Bool) : Int := zo B (mL V) (nS V) 0 0
def tB (V : BV) (B : Nat → Bool) : Int := zo B (mB V) (nS V) 0 0
theorem z_gather {h : ax_H} (w : ok h) (g : GV (V h)) (p : Int32) {kn : Int32} (hk : kn.toInt ≤ 9999) : ∃ h', Mx_gather 158 65 p kn h = some h' ∧ fr S158 h h' ∧ MX h' (tS (V h) (hasS (V h) p kn)) (tL (V h) (hasS (V h) p kn)) (tB (V h) (hasS (V h) p kn)) := by
  have hcn := cnts g.1
  have f0 : fr S158 h (pL (pL (pL h 158 0 0) 158 1 0) 158 2 0) := fr_tr (fr_tr (fr_pL rfl) (fr_pL rfl)) (fr_pL rfl)
  have hV := V_frc (S158_c f0)
  have w1 := ok_fr f0 w
  have m0 : MX (pL (pL (pL h 158 0 0) 158 1 0) 158 2 0) 0 0 0 := ⟨rfl, rfl, rfl⟩
  obtain ⟨r, r1, r2⟩ := z_sop (h := pL (pL (pL h 158 0 0) 158 1 0) 158 2 0) w1 (by rw [hV]; exact g) p hk
  rw [hV] at r2
  obtain ⟨h', q1, q2, q3⟩ := z_gat_29 r (nS (V h)) 0 (pL (pL (pL h 158 0 0) 158 1 0) 158 2 0) w1 (by rw [hV]; exact g) (by rw [hV]; omega) 0 0 0 m0
  rw [hV] at q3
  have eB : ∀ j, 0 ≤ j → j < 0 + nS (V h) → bt r j = hasS (V h) p kn j := fun j _ hj => r2 j (by omega)
  rw [zo_eq _ _ _ eB, zo_eq _ _ _ eB, zo_eq _ _ _ eB] at q3
  refine ⟨h', ?_, fr_tr f0 q2, q3⟩
  obtain ⟨wS, wR, wG, wN⟩ := w
  rw [Mx_gather_eq]
  try simp only [wS, wR, ↓reduceIte]
  simp only [gI_pI, gI_pL, gI_pR, gL_pI, gL_pL, gL_pR, gR_pI, gR_pL, gR_pR, gS_pI, gS_pL, gS_pR, ↓reduceIte, Nat.reduceEqDiff, decide_eq_true_eq, Option.bind_some, false_and, and_false, true_and, and_true, and_self, Nat.reduceAdd, not_false_eq_true, not_true_eq_false, wS, wR, inI, ite_self, Classical.not_not, ↓bnd r1]
  exact q1
