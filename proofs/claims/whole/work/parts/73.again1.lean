/-! again: the class's side -/
def MV (h : ax_H) (a : Nat) (n x y : Int) (t p s : Int32) : Prop := gI h a 0 = Int32.ofInt n ∧ gI h a 1 = Int32.ofInt x ∧ gI h a 2 = Int32.ofInt y ∧ gI h a 3 = t ∧ gI h a 4 = p ∧ gI h a 5 = s
theorem z_isBefore {h : ax_H} (w : ok h) {a i : Nat} (hsa : (gS h a).1 = 10) (hi2 : i < 100) {x y p s : Int32} (hx : gI h 75 i = x) (hy : gI h 76 i = y) (hp : gI h a 4 = p) (hs : gI h a 5 = s) : Mv_isBefore a 74 (nI i) h = some (bI (x < p ∨ (x = p ∧ y < s)), h) := by
  obtain ⟨wS, wR, wG, wN⟩ := w
  rw [Mv_isBefore_eq]
  try simp only [wS, wR, ↓reduceIte]
  simp (disch := omega) only [gI_pI, gI_pL, gI_pR, gL_pI, gL_pL, gL_pR, gR_pI, gR_pL, gR_pR, gS_pI, gS_pL, gS_pR, ↓reduceIte, Nat.reduceEqDiff, decide_eq_true_eq, Option.bind_some, false_and, and_false, true_and, and_true, and_self, Nat.reduceAdd, not_false_eq_true, not_true_eq_false, wS, wR, inI, ite_self, Classical.not_not, ax_in, nJ_nn, nJ_n, hi2, hsa, hx, hy, hp, hs]
  unfold bI
  by_cases c1 : x < p
  · rw [if_pos c1, if_pos (Or.inl c1)]
  · by_cases c2 : x = p
    · by_cases c3 : s ≤ y
      · have c4 : ¬ y < s := by rw [i32_lt]; rw [i32_le] at c3; omega
        rw [if_neg c1, if_neg (not_not_intro c2), if_pos c3, if_neg (fun q => q.elim c1 (fun z => c4 z.2))]
      · have c4 : y < s := by rw [i32_lt]; rw [i32_le] at c3; omega
        rw [if_neg c1, if_neg (not_not_intro c2), if_neg c3, if_pos (Or.inr ⟨c2, c4⟩)]
    · rw [if_neg c1, if_pos c2, if_neg (fun q => q.elim c1 (fun z => c2 z.1))]
theorem z_mvadd {h : ax_H} (w : ok h) (g : GV (V h)) {a : Nat} (ha : 207 ≤ a) (hsa : (gS h a).1 = 10) {i : Nat} (hi : i < nM (V h)) {kn b : Int32} {j : Nat} (hj : j < nM (V h)) (ho : oj (V h) kn b i = j) {n x y : Int} {t p s : Int32} (hm : MV h a n x y t p s) : ∃ h', Mv_add a 74 (nI i) (nI j) h = some h' ∧ fr (Sa a) h h' ∧ MV h' a (n + 1) (x + agX (V h) kn b i) (y + agY (V h) kn b i) (if agC (V h) kn b i t p s then agQ (V h) kn b i else t) (if agC (V h) kn b i t p s then V h 75 i else p) (if agC (V h) kn b i t p s then V h 76 i else s) := by
  have hcn := cnts g.1
  have w0 := w
  obtain ⟨wS, wR, wG, wN⟩ := w
  obtain ⟨m0, m1, m2, m3, m4, m5⟩ := hm
  have hi2 : i < 100 := by omega
  have hj2 : j < 100 := by omega
  have n75 : ¬ 75 = a := by omega
  have n76 : ¬ 76 = a := by omega
  have n78 : ¬ 78 = a := by omega
  have n79 : ¬ 79 = a := by omega
  have eX : V h 78 j - V h 78 i = Int32.ofInt (agX (V h) kn b i) := by unfold agX; rw [ho, ag_sub]
  have eY : V h 79 j - V h 79 i = Int32.ofInt (agY (V h) kn b i) := by unfold agY; rw [ho, ag_sub]
  have eQ : Int32.ofInt (agX (V h) kn b i) * Int32.ofInt (agX (V h) kn b i) + Int32.ofInt (agY (V h) kn b i) * Int32.ofInt (agY (V h) kn b i) = agQ (V h) kn b i := by unfold agQ; rw [ho, eX, eY]
  have e1 : Int32.ofInt n + 1 = Int32.ofInt (n + 1) := by rw [Int32.ofInt_add]; rfl
  obtain ⟨h5, hh5⟩ : ∃ h5, h5 = pI (pI (pI h a 0 (Int32.ofInt (n + 1))) a 1 (Int32.ofInt (x + agX (V h) kn b i))) a 2 (Int32.ofInt (y + agY (V h) kn b i)) := ⟨_, rfl⟩
  have hB := z_isBefore (h := h5) (a := a) (i := i) (x := V h 75 i) (y := V h 76 i) (p := p) (s := s) (by rw [hh5]; exact w0) (by rw [hh5]; exact hsa) hi2 (by rw [hh5]; simp only [gI_pI, n75, false_and, ↓reduceIte]; rfl) (by rw [hh5]; simp only [gI_pI, n76, false_and, ↓reduceIte]; rfl) (by rw [hh5]; simp only [gI_pI, Nat.reduceEqDiff, and_false, ↓reduceIte, m4]) (by rw [hh5]; simp only [gI_pI, Nat.reduceEqDiff, and_false, ↓reduceIte, m5])
  have f5 : fr (Sa a) h h5 := by rw [hh5]; exact fr_c (fr_c (fr_pI (by simp [Sa])) (by simp [Sa])) (by simp [Sa])
  have r5 : MV h5 a (n + 1) (x + agX (V h) kn b i) (y + agY (V h) kn b i) t p s := by
    rw [hh5]
    refine ⟨?_, ?_, ?_, ?_, ?_, ?_⟩ <;> simp only [gI_pI, Nat.reduceEqDiff, and_false, and_self, and_true, ↓reduceIte, m3, m4, m5]
  have w5 : ok h5 := ok_fr f5 w0
  have hs5 : (gS h5 a).1 = 10 := by rw [fr_S f5]; exact hsa
  have V5 := Sa_V ha f5
  have g110 : Mv_add_110 a 74 (nI i) (agQ (V h) kn b i) h5 = some (pI (pI (pI h5 a 3 (agQ (V h) kn b i)) a 4 (V h 75 i)) a 5 (V h 76 i)) := by
    have x75 : gI h5 75 i = V h 75 i := by rw [← V5]; rfl
    have x76 : gI h5 76 i = V h 76 i := by rw [← V5]; rfl
    obtain ⟨wS, wR, wG, wN⟩ := w5
    rw [Mv_add_110_eq]
    try simp only [wS, wR, ↓reduceIte]
    simp (disch := omega) only [gI_pI, gI_pL, gI_pR, gL_pI, gL_pL, gL_pR, gR_pI, gR_pL, gR_pR, gS_pI, gS_pL, gS_pR, ↓reduceIte, Nat.reduceEqDiff, decide_eq_true_eq, Option.bind_some, false_and, and_false, true_and, and_true, and_self, Nat.reduceAdd, not_false_eq_true, not_true_eq_false, wS, wR, inI, ite_self, Classical.not_not, ax_in, nJ_nn, nJ_n, hi2, hs5, n75, n76, x75, x76]
  have E : Mv_add a 74 (nI i) (nI j) h = if agC (V h) kn b i t p s then some (pI (pI (pI h5 a 3 (agQ (V h) kn b i)) a 4 (V h 75 i)) a 5 (V h 76 i)) else some h5 := by
    rw [Mv_add_eq]
    try simp only [wS, wR, ↓reduceIte]
    simp (disch := omega) only [gI_pI, gI_pL, gI_pR, gL_pI, gL_pL, gL_pR, gR_pI, gR_pL, gR_pR, gS_pI, gS_pL, gS_pR, ↓reduceIte, Nat.reduceEqDiff, decide_eq_true_eq, Option.bind_some, false_and, and_false, true_and, and_true, and_self, Nat.reduceAdd, not_false_eq_true, not_true_eq_false, wS, wR, inI, ite_self, Classical.not_not, cV65, cV66, cV67, cV68, cV69, cV70, cV71, cV72, cV73, cV74, cV75, cV76, cV77, cV78, cV79, cV80, cV81, cV82, cV83, cV84, cV85, cV86, cV87, cV88, cV89, cV90, ax_in, nJ_nn, nJ_n, hi2, hj2, hsa, n75, n76, n78, n79, m0, m1, m2, m3, m4, m5, e1, eX, eY, eQ, ← Int32.ofInt_add]
    rw [← hh5]
    by_cases c1 : p = -1
    · rw [if_pos c1, if_pos (Or.inl c1), g110]
    · by_cases c2 : t < agQ (V h) kn b i
      · rw [if_neg c1, if_pos c2, if_pos (Or.inr (Or.inl c2)), g110]
      · by_cases c3 : agQ (V h) kn b i = t
        · rw [if_neg c1, if_neg c2, if_neg (not_not_intro c3), bnd hB]
          by_cases c4 : V h 75 i < p ∨ (V h 75 i = p ∧ V h 76 i < s)
          · rw [if_neg (by rw [bI_0]; exact not_not_intro c4), if_pos (Or.inr (Or.inr ⟨c3, c4⟩)), g110]
          · rw [if_pos (by rw [bI_0]; exact c4), if_neg (fun q => q.elim c1 (fun q => q.elim c2 (fun q => c4 q.2)))]
        · rw [if_neg c1, if_neg c2, if_pos c3, if_neg (fun q => q.elim c1 (fun q => q.elim c2 (fun q => c3 q.1)))]
  by_cases c : agC (V h) kn b i t p s
  · rw [if_pos c] at E
    rw [if_pos c, if_pos c, if_pos c]
    refine ⟨_, E, fr_tr f5 (fr_c (fr_c (fr_pI (by simp [Sa])) (by simp [Sa])) (by simp [Sa])), ?_⟩
    obtain ⟨k0, k1, k2, k3, k4, k5⟩ := r5
    refine ⟨?_, ?_, ?_, ?_, ?_, ?_⟩ <;> simp only [gI_pI, Nat.reduceEqDiff, and_false, and_self, and_true, ↓reduceIte, k0, k1, k2]
  · rw [if_neg c] at E
    rw [if_neg c, if_neg c, if_neg c]
    exact ⟨h5, E, f5, r5⟩
theorem z_mg_3 {a : Nat} (ha : 207 ≤ a) {kn : Int32} (hk : kn.toInt ≤ 9999) (d b : Int32) : ∀ (k i : Nat) (h : ax_H), ok h → GV (V h) → (gS h a).1 = 10 → i + k = nM (V h) → ∀ n x y t p s, MV h a n x y t p s → Bok (V h) kn d b (fun m => m < i) t p s → ∃ h' t' p' s', Mv_gather_3 a 74 d b kn (nI i) h = some h' ∧ fr (Sa a) h h' ∧ MV h' a (zo (agB (V h) kn d b) (fun _ => 1) k i n) (zo (agB (V h) kn d b) (agX (V h) kn b) k i x) (zo (agB (V h) kn d b) (agY (V h) kn b) k i y) t' p' s' ∧ Bok (V h) kn d b (fun m => m < nM (V h)) t' p' s' := by
  intro k
  induction k with
  | zero =>
    intro i h w g hsa hi n x y t p s hm hB
    have hcn := cnts g.1
    have hn := nI_nM g.1.2.2.2.1
    obtain ⟨wS, wR, wG, wN⟩ := w
    have hle : nM (V h) ≤ i := by omega
    have : i = nM (V h) := by omega
    refine ⟨h, t, p, s, ?_, fr_rf _ _, hm, by rw [← this]; exact hB⟩
    rw [Mv_gather_3_eq]
    try simp only [wS, wR, ↓reduceIte]
    simp (disch := omega) only [gI_pI, gI_pL, gI_pR, gL_pI, gL_pL, gL_pR, gR_pI, gR_pL, gR_pR, gS_pI, gS_pL, gS_pR, ↓reduceIte, Nat.reduceEqDiff, decide_eq_true_eq, Option.bind_some, false_and, and_false, true_and, and_true, and_self, Nat.reduceAdd, not_false_eq_true, not_true_eq_false, wS, wR, inI, ite_self, Classical.not_not, cV65, cV66, cV67, cV68, cV69, cV70, cV71, cV72, cV73, cV74, cV75, cV76, cV77, cV78, cV79, cV80, cV81, cV82, cV83, cV84, cV85, cV86, cV87, cV88, cV89, cV90, hn, nJ_le, hle]
  | succ k ih =>
    intro i h w g hsa hi n x y t p s hm hB
    have hcn := cnts g.1
    have hn := nI_nM g.1.2.2.2.1
    have w0 := w
    obtain ⟨wS, wR, wG, wN⟩ := w
    have hle : ¬ nM (V h) ≤ i := by omega
    have hi2 : i < 100 := by omega
    have hB' := Bok_c g (i := i) (by omega) hB
    rw [zo, zo, zo]
    cases hb : agB (V h) kn d b i with
    | false =>
      rw [hb] at hB'
      simp only [Bool.false_eq_true, if_false] at hB' ⊢
      obtain ⟨h', t', p', s', r1, r2, r3, r4⟩ := ih (i + 1) h w0 g hsa (by omega) n x y t p s hm hB'
      refine ⟨h', t', p', s', ?_, r2, r3, r4⟩
      rw [← r1, Mv_gather_3_eq]
      try simp only [wS, wR, ↓reduceIte]
      by_cases q1 : V h 77 i = d
      case neg =>
        simp (disch := omega) only [gI_pI, gI_pL, gI_pR, gL_pI, gL_pL, gL_pR, gR_pI, gR_pL, gR_pR, gS_pI, gS_pL, gS_pR, ↓reduceIte, Nat.reduceEqDiff, decide_eq_true_eq, Option.bind_some, false_and, and_false, true_and, and_true, and_self, Nat.reduceAdd, not_false_eq_true, not_true_eq_false, wS, wR, inI, ite_self, Classical.not_not, cV65, cV66, cV67, cV68, cV69, cV70, cV71, cV72, cV73, cV74, cV75, cV76, cV77, cV78, cV79, cV80, cV81, cV82, cV83, cV84, cV85, cV86, cV87, cV88, cV89, cV90, hn, nJ_le, hle, ax_in, nJ_nn, nJ_n, nJ_p1, hi2, q1]
      cases q2 : kvB (V h) kn i with
      | false =>
        simp (disch := omega) only [gI_pI, gI_pL, gI_pR, gL_pI, gL_pL, gL_pR, gR_pI, gR_pL, gR_pR, gS_pI, gS_pL, gS_pR, ↓reduceIte, Nat.reduceEqDiff, decide_eq_true_eq, Option.bind_some, false_and, and_false, true_and, and_true, and_self, Nat.reduceAdd, not_false_eq_true, not_true_eq_false, wS, wR, inI, ite_self, Classical.not_not, cV65, cV66, cV67, cV68, cV69, cV70, cV71, cV72, cV73, cV74, cV75, cV76, cV77, cV78, cV79, cV80, cV81, cV82, cV83, cV84, cV85, cV86, cV87, cV88, cV89, cV90, hn, nJ_le, hle, ax_in, nJ_nn, nJ_n, nJ_p1, hi2, q1, ↓bnd (z_isKnown w0 hi2 _), bI_0, q2, Bool.false_eq_true]
      | true =>
        have q3 : fdI (V h) kn (V h 75 i) (V h 76 i) b = -1 := by
          unfold agB hkB at hb
          rw [decide_eq_true q1, q2, Bool.and_self, Bool.true_and, decide_eq_false_iff_not, Classical.not_not] at hb
          exact hb
        have hF : Im_find 74 (V h 75 i) (V h 76 i) b kn h = some (-1, h) := by rw [← q3]; exact z_find w0 hn (by omega) _ _ _ _
        simp (disch := omega) only [gI_pI, gI_pL, gI_pR, gL_pI, gL_pL, gL_pR, gR_pI, gR_pL, gR_pR, gS_pI, gS_pL, gS_pR, ↓reduceIte, Nat.reduceEqDiff, decide_eq_true_eq, Option.bind_some, false_and, and_false, true_and, and_true, and_self, Nat.reduceAdd, not_false_eq_true, not_true_eq_false, wS, wR, inI, ite_self, Classical.not_not, cV65, cV66, cV67, cV68, cV69, cV70, cV71, cV72, cV73, cV74, cV75, cV76, cV77, cV78, cV79, cV80, cV81, cV82, cV83, cV84, cV85, cV86, cV87, cV88, cV89, cV90, hn, nJ_le, hle, ax_in, nJ_nn, nJ_n, nJ_p1, hi2, q1, ↓bnd (z_isKnown w0 hi2 _), bI_0, q2, ↓bnd hF]
    | true =>
      rw [hb] at hB'
      simp only [if_true] at hB' ⊢
      have hb' := hb
      unfold agB hkB at hb'
      rw [Bool.and_eq_true, Bool.and_eq_true, decide_eq_true_eq, decide_eq_true_eq] at hb'
      obtain ⟨⟨q1, q2⟩, q3⟩ := hb'
      rcases fd_sp g.2.2.2.1 hk (V h 75 i) (V h 76 i) b with ⟨z, -⟩ | ⟨j, j1, j2, -⟩
      · exact absurd z q3
      have ho : oj (V h) kn b i = j := by unfold oj; rw [j2, nJ_i (by omega)]; rfl
      have hF : Im_find 74 (V h 75 i) (V h 76 i) b kn h = some (nI j, h) := by rw [← j2]; exact z_find w0 hn (by omega) _ _ _ _
      have jn : ¬ nI j = -1 := nI_neg1 (by omega)
      obtain ⟨h1, a1, a2, a3⟩ := z_mvadd w0 g ha hsa (i := i) (by omega) j1 ho hm
      have hV := Sa_V ha a2
      obtain ⟨h', t', p', s', r1, r2, r3, r4⟩ := ih (i + 1) h1 (ok_fr a2 w0) (by rw [hV]; exact g) (by rw [fr_S a2]; exact hsa) (by rw [hV]; omega) _ _ _ _ _ _ a3 (by rw [hV]; exact hB')
      rw [hV] at r3 r4
      refine ⟨h', t', p', s', ?_, fr_tr a2 r2, r3, r4⟩
      rw [← r1, Mv_gather_3_eq]
      try simp only [wS, wR, ↓reduceIte]
      simp (disch := omega) only [gI_pI, gI_pL, gI_pR, gL_pI, gL_pL, gL_pR, gR_pI, gR_pL, gR_pR, gS_pI, gS_pL, gS_pR, ↓reduceIte, Nat.reduceEqDiff, decide_eq_true_eq, Option.bind_some, false_and, and_false, true_and, and_true, and_self, Nat.reduceAdd, not_false_eq_true, not_true_eq_false, wS, wR, inI, ite_self, Classical.not_not, cV65, cV66, cV67, cV68, cV69, cV70, cV71, cV72, cV73, cV74, cV75, cV76, cV77, cV78, cV79, cV80, cV81, cV82, cV83, cV84, cV85, cV86, cV87, cV88, cV89, cV90, hn, nJ_le, hle, ax_in, nJ_nn, nJ_n, nJ_p1, hi2, q1, ↓bnd (z_isKnown w0 hi2 _), bI_0, q2, ↓bnd hF, jn, hsa, ↓bnd a1]
