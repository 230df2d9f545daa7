/-! mixed: the reference's side -/
def S195 (a _k : Nat) : Bool := decide (a = 195)
theorem S195_m {h h' : ax_H} (q : fr S195 h h') : fr Sm h h' := fr_le q fun a k z => by simp only [Sm, S195, decide_eq_false_iff_not] at z ⊢; omega
theorem zm_kn_2 (p kn : Int32) : ∀ (k i : Nat) (h : ax_H), ok h → i + k = 30 → ∃ h', M_known_2 159 p kn (nI i) h = M_known_23 159 p kn 0 h' ∧ fr S195 h h' ∧ (∀ s, i ≤ s → s < 30 → gI h' 195 s = 0) ∧ (∀ s, s < i → gI h' 195 s = gI h 195 s) := by
  intro k
  induction k with
  | zero =>
    intro i h w hi
    obtain ⟨wS, wR, wG, wN⟩ := w
    refine ⟨h, ?_, fr_rf _ _, fun s h1 h2 => by omega, fun s _ => rfl⟩
    have h30 : (30 : Int32) ≤ nI i := by rw [show (30 : Int32) = nI 30 from rfl, nJ_le (by omega) (by omega)]; omega
    rw [M_known_2_eq]
    simp only [gI_pI, gI_pL, gI_pR, gL_pI, gL_pL, gL_pR, gR_pI, gR_pL, gR_pR, gS_pI, gS_pL, gS_pR, ↓reduceIte, Nat.reduceEqDiff, decide_eq_true_eq, Option.bind_some, false_and, and_false, true_and, and_true, and_self, Nat.reduceAdd, not_false_eq_true, not_true_eq_false, wS, wR, inI, ite_self, Classical.not_not, h30]
  | succ k ih =>
    intro i h w hi
    have w0 := w
    obtain ⟨wS, wR, wG, wN⟩ := w
    have h30 : ¬ (30 : Int32) ≤ nI i := by rw [show (30 : Int32) = nI 30 from rfl, nJ_le (by omega) (by omega)]; omega
    have hi2 : i < 30 := by omega
    obtain ⟨h', q1, q2, q3, q4⟩ := ih (i + 1) (pI h 195 i 0) (ok_pI w0 _ _ _) (by omega)
    refine ⟨h', ?_, fr_tr (fr_pI rfl) q2, fun s h1 h2 => ?_, fun s h1 => ?_⟩
    · rw [M_known_2_eq]
      try simp only [wS, wR, ↓reduceIte]
      simp (disch := omega) only [gI_pI, gI_pL, gI_pR, gL_pI, gL_pL, gL_pR, gR_pI, gR_pL, gR_pR, gS_pI, gS_pL, gS_pR, ↓reduceIte, Nat.reduceEqDiff, decide_eq_true_eq, Option.bind_some, false_and, and_false, true_and, and_true, and_self, Nat.reduceAdd, not_false_eq_true, not_true_eq_false, wS, wR, inI, ite_self, Classical.not_not, h30, ax_in, nJ_nn, nJ_n, nJ_p1, hi2, show (0 : Int32) &&& 1 = 0 from rfl]
      exact q1
    · by_cases hs : s = i
      · rw [q4 s (by omega), hs]
        simp only [gI_pI, gI_pL, gI_pR, gL_pI, gL_pL, gL_pR, gR_pI, gR_pL, gR_pR, gS_pI, gS_pL, gS_pR, ↓reduceIte, Nat.reduceEqDiff, decide_eq_true_eq, Option.bind_some, false_and, and_false, true_and, and_true, and_self, Nat.reduceAdd, not_false_eq_true, not_true_eq_false, wS, wR, inI, ite_self, Classical.not_not]
      · exact q3 s (by omega) h2
    · rw [q4 s (by omega)]
      have : ¬ s = i := by omega
      simp only [gI_pI, gI_pL, gI_pR, gL_pI, gL_pL, gL_pR, gR_pI, gR_pL, gR_pR, gS_pI, gS_pL, gS_pR, ↓reduceIte, Nat.reduceEqDiff, decide_eq_true_eq, Option.bind_some, false_and, and_false, true_and, and_true, and_self, Nat.reduceAdd, not_false_eq_true, not_true_eq_false, wS, wR, inI, ite_self, Classical.not_not, this]
theorem zm_kn_23 (p kn : Int32) : ∀ (k i : Nat) (h : ax_H), I0 h → i + k = nM (V h) → ∃ h', M_known_23 159 p kn (nI i) h = some h' ∧ fr S195 h h' ∧ ∀ s, s < 30 → gI h' 195 s = if anyB (pwB (V h) p kn s) k i then 1 else gI h 195 s := by
  intro k
  induction k with
  | zero =>
    intro i h i0 hi
    obtain ⟨w, e, g⟩ := i0
    have hcn := cnts g.1
    have hn := nI_nM g.1.2.2.2.1
    obtain ⟨wS, wR, wG, wN⟩ := w
    unfold EQ at e
    have hle : nM (V h) ≤ i := by omega
    refine ⟨h, ?_, fr_rf _ _, fun s _ => by rw [anyB, if_neg (by decide)]⟩
    rw [M_known_23_eq]
    try simp only [wS, wR, ↓reduceIte]
    simp (disch := omega) only [gI_pI, gI_pL, gI_pR, gL_pI, gL_pL, gL_pR, gR_pI, gR_pL, gR_pR, gS_pI, gS_pL, gS_pR, ↓reduceIte, Nat.reduceEqDiff, decide_eq_true_eq, Option.bind_some, false_and, and_false, true_and, and_true, and_self, Nat.reduceAdd, not_false_eq_true, not_true_eq_false, wS, wR, inI, ite_self, Classical.not_not, e, hn, nJ_le, hle]
  | succ k ih =>
    intro i h i0 hi
    have i00 := i0
    obtain ⟨w, e, g⟩ := i0
    have hcn := cnts g.1
    have hn := nI_nM g.1.2.2.2.1
    obtain ⟨wS, wR, wG, wN⟩ := w
    unfold EQ at e
    have hle : ¬ nM (V h) ≤ i := by omega
    have hi2 : i < 100 := by omega
    obtain ⟨s0, hs, hs2, hs3, hs4⟩ := nI_ex (g.2.2.2.1.1 i (by omega)).2.1
    have hs30 : s0 < 30 := by omega
    by_cases q1 : V h 75 i = p
    · by_cases q2 : kn < V h 80 i
      · obtain ⟨h', r1, r2, r3⟩ := ih (i + 1) h i00 (by omega)
        refine ⟨h', ?_, r2, fun s hs30 => ?_⟩
        · rw [M_known_23_eq]
          try simp only [wS, wR, ↓reduceIte]
          simp (disch := omega) only [gI_pI, gI_pL, gI_pR, gL_pI, gL_pL, gL_pR, gR_pI, gR_pL, gR_pR, gS_pI, gS_pL, gS_pR, ↓reduceIte, Nat.reduceEqDiff, decide_eq_true_eq, Option.bind_some, false_and, and_false, true_and, and_true, and_self, Nat.reduceAdd, not_false_eq_true, not_true_eq_false, wS, wR, inI, ite_self, Classical.not_not, e, ax_in, hn, nJ_le, nJ_nn, nJ_n, nJ_p1, hi2, hle, q1, q2]
          exact r1
        · have : pwB (V h) p kn s i = false := by
            rw [i32_lt] at q2
            have : wkB (V h) kn i = false := by unfold wkB; rw [decide_eq_false_iff_not]; omega
            unfold pwB
            rw [this, Bool.and_false, Bool.false_and]
          rw [r3 s hs30, anyB, this, Bool.false_or]
      · have f1 : fr S195 h (pI h 195 s0 1) := fr_pI rfl
        have hV := V_frm (S195_m f1)
        obtain ⟨h', r1, r2, r3⟩ := ih (i + 1) (pI h 195 s0 1) (I0_frm (S195_m f1) i00) (by rw [hV]; omega)
        rw [hV] at r3
        refine ⟨h', ?_, fr_tr f1 r2, fun s hs30' => ?_⟩
        · rw [M_known_23_eq]
          try simp only [wS, wR, ↓reduceIte]
          simp (disch := omega) only [gI_pI, gI_pL, gI_pR, gL_pI, gL_pL, gL_pR, gR_pI, gR_pL, gR_pR, gS_pI, gS_pL, gS_pR, ↓reduceIte, Nat.reduceEqDiff, decide_eq_true_eq, Option.bind_some, false_and, and_false, true_and, and_true, and_self, Nat.reduceAdd, not_false_eq_true, not_true_eq_false, wS, wR, inI, ite_self, Classical.not_not, e, ax_in, hn, nJ_le, nJ_nn, nJ_n, nJ_p1, hi2, hle, q1, q2, hs, hs30, show (1 : Int32) &&& 1 = 1 from rfl]
          exact r1
        · have hp : pwB (V h) p kn s i = decide (s = s0) := by
            rw [i32_lt] at q2
            have : wkB (V h) kn i = true := by unfold wkB; rw [decide_eq_true_eq]; omega
            unfold pwB
            rw [decide_eq_true q1, this, hs, Bool.and_self, Bool.true_and, decide_eq_decide, nJ_eq (by omega) (by omega)]
            exact ⟨fun q => q.symm, fun q => q.symm⟩
          rw [r3 s hs30', anyB, hp]
          by_cases hss : s = s0
          · rw [decide_eq_true hss, Bool.true_or, if_pos rfl]
            split
            · rfl
            · rw [hss]; simp only [gI_pI, gI_pL, gI_pR, gL_pI, gL_pL, gL_pR, gR_pI, gR_pL, gR_pR, gS_pI, gS_pL, gS_pR, ↓reduceIte, Nat.reduceEqDiff, decide_eq_true_eq, Option.bind_some, false_and, and_false, true_and, and_true, and_self, Nat.reduceAdd, not_false_eq_true, not_true_eq_false, wS, wR, inI, ite_self, Classical.not_not]
          · rw [decide_eq_false hss, Bool.false_or]
            simp only [gI_pI, gI_pL, gI_pR, gL_pI, gL_pL, gL_pR, gR_pI, gR_pL, gR_pR, gS_pI, gS_pL, gS_pR, ↓reduceIte, Nat.reduceEqDiff, decide_eq_true_eq, Option.bind_some, false_and, and_false, true_and, and_true, and_self, Nat.reduceAdd, not_false_eq_true, not_true_eq_false, wS, wR, inI, ite_self, Classical.not_not, hss]
    · obtain ⟨h', r1, r2, r3⟩ := ih (i + 1) h i00 (by omega)
      refine ⟨h', ?_, r2, fun s hs30 => ?_⟩
      · rw [M_known_23_eq]
        try simp only [wS, wR, ↓reduceIte]
        simp (disch := omega) only [gI_pI, gI_pL, gI_pR, gL_pI, gL_pL, gL_pR, gR_pI, gR_pL, gR_pR, gS_pI, gS_pL, gS_pR, ↓reduceIte, Nat.reduceEqDiff, decide_eq_true_eq, Option.bind_some, false_and, and_false, true_and, and_true, and_self, Nat.reduceAdd, not_false_eq_true, not_true_eq_false, wS, wR, inI, ite_self, Classical.not_not, e, ax_in, hn, nJ_le, nJ_nn, nJ_n, nJ_p1, hi2, hle, q1]
        exact r1
      · have : pwB (V h) p kn s i = false := by
          unfold pwB
          rw [decide_eq_false q1, Bool.false_and, Bool.false_and]
        rw [r3 s hs30, anyB, this, Bool.false_or]
/-- the row of stars that are there -/
def HB (h : ax_H) (B : Nat → Bool) : Prop := ∀ s, s < 30 → gI h 195 s = if B s then 1 else 0
theorem zm_known {h : ax_H} (i : I0 h) (p kn : Int32) : ∃ h', M_known 159 p kn h = some h' ∧ fr S195 h h' ∧ HB h' (hasS (V h) p kn) := by
  obtain ⟨h1, q1, q2, q3, -⟩ := zm_kn_2 p kn 30 0 h i.1 (by omega)
  have hV := V_frm (S195_m q2)
  obtain ⟨h2, r1, r2, r3⟩ := zm_kn_23 p kn (nM (V h1)) 0 h1 (I0_frm (S195_m q2) i) (by omega)
  rw [hV] at r3
  refine ⟨h2, ?_, fr_tr q2 r2, fun s hs => ?_⟩
  · rw [M_known_eq]
    exact q1.trans r1
  · rw [r3 s hs, q3 s (by omega) hs]
    rfl
theorem zm_mx_10 {h : ax_H} (i0 : I0 h) {B : Nat → Bool} (hB : HB h B) : ∀ (k i : Nat) (a b c : Int), i + k = nS (V h) → M_mixes_10 159 (Int64.ofInt c) (Int64.ofInt a) (Int64.ofInt b) (nI i) h = M_mixes_10 159 (Int64.ofInt (zo B (mB (V h)) k i c)) (Int64.ofInt (zo B (mS (V h)) k i a)) (Int64.ofInt (zo B (mL (V h)) k i b)) (nI (nS (V h))) h := by
  obtain ⟨w, e, g⟩ := i0
  have hcn := cnts g.1
  have hn := nI_nS g.1.2.1
  have w0 := w
  have e0 := e
  obtain ⟨wS, wR, wG, wN⟩ := w
  unfold EQ at e
  intro k
  induction k with
  | zero =>
    intro i a b c hi
    have : i = nS (V h) := by omega
    rw [this]
    rfl
  | succ k ih =>
    intro i a b c hi
    have hle : ¬ nS (V h) ≤ i := by omega
    have hi30 : i < 30 := by omega
    have hbi := hB i hi30
    have a2 : ∀ ax, ax < 2 → M_given 159 2 (nI i) (nI ax) h = some (Int32.ofInt (gz 2 (sx (V h) i) (sy (V h) i) ax), h) := fun ax ha => zm_given w0 g.1 g.2.1 e0 (t := 2) (by omega) (by omega) ha
    have a4 : ∀ ax, ax < 2 → M_given 159 4 (nI i) (nI ax) h = some (Int32.ofInt (gz 4 (sx (V h) i) (sy (V h) i) ax), h) := fun ax ha => zm_given w0 g.1 g.2.1 e0 (t := 4) (by omega) (by omega) ha
    have a20 : M_given 159 2 (nI i) 0 h = _ := a2 0 (by omega)
    have a21 : M_given 159 2 (nI i) 1 h = _ := a2 1 (by omega)
    have a40 : M_given 159 4 (nI i) 0 h = _ := a4 0 (by omega)
    have a41 : M_given 159 4 (nI i) 1 h = _ := a4 1 (by omega)
    obtain ⟨s1, s2, s3, -⟩ := g.2.1 i (by omega)
    have hb : ∀ u ax, u < 6 → ax < 2 → (Int32.ofInt (gz u (sx (V h) i) (sy (V h) i) ax)).toInt64 = Int64.ofInt (gz u (sx (V h) i) (sy (V h) i) ax) := fun u ax hu ha => by
      have hb := gz_bd (t := u) hu s1 s2 (fun q => s3 ⟨i32_eq.mpr q.1, i32_eq.mpr q.2⟩)
      have hm := gMx_81 u
      refine i_toL ?_
      match ax, ha with
      | 0, _ => simp only [sx, sy]; omega
      | 1, _ => simp only [sx, sy]; omega
    have b20 := hb 2 0 (by omega) (by omega)
    have b21 := hb 2 1 (by omega) (by omega)
    have b40 := hb 4 0 (by omega) (by omega)
    have b41 := hb 4 1 (by omega) (by omega)
    rw [zo, zo, zo]
    cases hBi : B i with
    | false =>
      rw [hBi, if_neg (by decide)] at hbi
      rw [if_neg (by decide), if_neg (by decide), if_neg (by decide), ← ih (i + 1) a b c (by omega), M_mixes_10_eq]
      try simp only [wS, wR, ↓reduceIte]
      simp (disch := omega) only [gI_pI, gI_pL, gI_pR, gL_pI, gL_pL, gL_pR, gR_pI, gR_pL, gR_pR, gS_pI, gS_pL, gS_pR, ↓reduceIte, Nat.reduceEqDiff, decide_eq_true_eq, Option.bind_some, false_and, and_false, true_and, and_true, and_self, Nat.reduceAdd, not_false_eq_true, not_true_eq_false, wS, wR, inI, ite_self, Classical.not_not, e, hn, nJ_le, hle]
      rw [M_mixes_22_eq]
      have d2 : ¬ (2 : Int32) ≤ 0 := by decide
      try simp only [wS, wR, ↓reduceIte]
      simp (disch := omega) only [gI_pI, gI_pL, gI_pR, gL_pI, gL_pL, gL_pR, gR_pI, gR_pL, gR_pR, gS_pI, gS_pL, gS_pR, ↓reduceIte, Nat.reduceEqDiff, decide_eq_true_eq, Option.bind_some, false_and, and_false, true_and, and_true, and_self, Nat.reduceAdd, not_false_eq_true, not_true_eq_false, wS, wR, inI, ite_self, Classical.not_not, d2, ax_in, nJ_nn, nJ_n, hi30, hbi, nJ_p1]
    | true =>
      rw [hBi, if_pos rfl] at hbi
      rw [if_pos rfl, if_pos rfl, if_pos rfl, ← ih (i + 1) _ _ _ (by omega), M_mixes_10_eq]
      try simp only [wS, wR, ↓reduceIte]
      simp (disch := omega) only [gI_pI, gI_pL, gI_pR, gL_pI, gL_pL, gL_pR, gR_pI, gR_pL, gR_pR, gS_pI, gS_pL, gS_pR, ↓reduceIte, Nat.reduceEqDiff, decide_eq_true_eq, Option.bind_some, false_and, and_false, true_and, and_true, and_self, Nat.reduceAdd, not_false_eq_true, not_true_eq_false, wS, wR, inI, ite_self, Classical.not_not, e, hn, nJ_le, hle]
      rw [M_mixes_22_eq]
      have d2 : ¬ (2 : Int32) ≤ 0 := by decide
      have d3 : ¬ (2 : Int32) ≤ 1 := by decide
      have d4 : (2 : Int32) ≤ 2 := by decide
      try simp only [wS, wR, ↓reduceIte]
      simp (disch := omega) only [gI_pI, gI_pL, gI_pR, gL_pI, gL_pL, gL_pR, gR_pI, gR_pL, gR_pR, gS_pI, gS_pL, gS_pR, ↓reduceIte, Nat.reduceEqDiff, decide_eq_true_eq, Option.bind_some, false_and, and_false, true_and, and_true, and_self, Nat.reduceAdd, not_false_eq_true, not_true_eq_false, wS, wR, inI, ite_self, Classical.not_not, d2, ax_in, nJ_nn, nJ_n, hi30, hbi, i1_0, ↓bnd a20, ↓bnd a40, b20, b40, show (0 : Int32) + 1 = 1 from rfl]
      rw [M_mixes_22_eq]
      try simp only [wS, wR, ↓reduceIte]
      simp (disch := omega) only [gI_pI, gI_pL, gI_pR, gL_pI, gL_pL, gL_pR, gR_pI, gR_pL, gR_pR, gS_pI, gS_pL, gS_pR, ↓reduceIte, Nat.reduceEqDiff, decide_eq_true_eq, Option.bind_some, false_and, and_false, true_and, and_true, and_self, Nat.reduceAdd, not_false_eq_true, not_true_eq_false, wS, wR, inI, ite_self, Classical.not_not, d3, ax_in, nJ_nn, nJ_n, hi30, hbi, i1_0, ↓bnd a21, ↓bnd a41, b21, b41, show (1 : Int32) + 1 = 2 from rfl]
      rw [M_mixes_22_eq]
      simp only [d4, decide_true, ↓reduceIte, nJ_p1, ← Int64.ofInt_mul, ← Int64.ofInt_add, mS, mL, mB, Int.add_assoc]
