/-! glass, field, say -/
theorem e27e {h : ax_H} (e : EQ h) : ∀ k, k < 8 → V h 90 k = if gI h 196 k = -1 then 10000 else gI h 196 k := e.2.2.2.2.2.2.2.2.2.2.2.2.2.2.2.2.2.2.2.2.2.2.2.2.2.2
theorem st_glass {h : ax_H} (i : I0 h) (a t c m : Int32) : stp (B_glass 64 a t c m h) (M_glass 159 a t c m) (stl h) := by
  obtain ⟨w, e, g⟩ := i
  have w0 := w
  obtain ⟨wS, wR, wG, wN⟩ := w
  have e0 := e
  unfold EQ at e
  by_cases h1 : 0 ≤ a.toInt ∧ a.toInt ≤ 3
  case neg =>
    refine ⟨0, h, h, ?_, ?_, ⟨w0, e0, g⟩, fr_rf _ _, fr_rf _ _, rfl⟩
    · rw [B_glass_eq]
      simp only [gI_pI, gI_pL, gI_pR, gL_pI, gL_pL, gL_pR, gR_pI, gR_pL, gR_pR, gS_pI, gS_pL, gS_pR, ↓reduceIte, Nat.reduceEqDiff, decide_eq_true_eq, Option.bind_some, false_and, and_false, true_and, and_true, and_self, Nat.reduceAdd, not_false_eq_true, not_true_eq_false, wS, wR, inI, ite_self, Classical.not_not, ↓bnd (z_isIsland _ _), bI_0, h1]
    · rw [M_glass_eq]
      simp only [gI_pI, gI_pL, gI_pR, gL_pI, gL_pL, gL_pR, gR_pI, gR_pL, gR_pR, gS_pI, gS_pL, gS_pR, ↓reduceIte, Nat.reduceEqDiff, decide_eq_true_eq, Option.bind_some, false_and, and_false, true_and, and_true, and_self, Nat.reduceAdd, not_false_eq_true, not_true_eq_false, wS, wR, inI, ite_self, Classical.not_not, ↓bnd (zm_in _ _ _ _), bI_0, h1, Int32.toInt_toInt64, Int32.reduceToInt, Int64.reduceToInt, tN9, tN299, tN99999, tN9999, tN99, tL9, tL299, tL99999, tL9999, tL99, i1_0, i0_1]
  by_cases h2 : 0 ≤ t.toInt ∧ t.toInt ≤ 5
  case neg =>
    refine ⟨0, h, h, ?_, ?_, ⟨w0, e0, g⟩, fr_rf _ _, fr_rf _ _, rfl⟩
    · rw [B_glass_eq]
      simp only [gI_pI, gI_pL, gI_pR, gL_pI, gL_pL, gL_pR, gR_pI, gR_pL, gR_pR, gS_pI, gS_pL, gS_pR, ↓reduceIte, Nat.reduceEqDiff, decide_eq_true_eq, Option.bind_some, false_and, and_false, true_and, and_true, and_self, Nat.reduceAdd, not_false_eq_true, not_true_eq_false, wS, wR, inI, ite_self, Classical.not_not, ↓bnd (z_isIsland _ _), ↓bnd (z_isTerm _ _), bI_0, h1, h2]
    · rw [M_glass_eq]
      simp only [gI_pI, gI_pL, gI_pR, gL_pI, gL_pL, gL_pR, gR_pI, gR_pL, gR_pR, gS_pI, gS_pL, gS_pR, ↓reduceIte, Nat.reduceEqDiff, decide_eq_true_eq, Option.bind_some, false_and, and_false, true_and, and_true, and_self, Nat.reduceAdd, not_false_eq_true, not_true_eq_false, wS, wR, inI, ite_self, Classical.not_not, ↓bnd (zm_in _ _ _ _), ↓bnd (zm_isTerm _ _), bI_0, h1, h2, Int32.toInt_toInt64, Int32.reduceToInt, Int64.reduceToInt, tN9, tN299, tN99999, tN9999, tN99, tL9, tL299, tL99999, tL9999, tL99, i1_0, i0_1]
  by_cases h3 : t = 4
  case pos =>
    refine ⟨0, h, h, ?_, ?_, ⟨w0, e0, g⟩, fr_rf _ _, fr_rf _ _, rfl⟩
    · rw [B_glass_eq]
      simp only [gI_pI, gI_pL, gI_pR, gL_pI, gL_pL, gL_pR, gR_pI, gR_pL, gR_pR, gS_pI, gS_pL, gS_pR, ↓reduceIte, Nat.reduceEqDiff, decide_eq_true_eq, Option.bind_some, false_and, and_false, true_and, and_true, and_self, Nat.reduceAdd, not_false_eq_true, not_true_eq_false, wS, wR, inI, ite_self, Classical.not_not, ↓bnd (z_isIsland _ _), ↓bnd (z_isTerm _ _), bI_0, h1, h2, h3]
    · rw [M_glass_eq]
      simp only [gI_pI, gI_pL, gI_pR, gL_pI, gL_pL, gL_pR, gR_pI, gR_pL, gR_pR, gS_pI, gS_pL, gS_pR, ↓reduceIte, Nat.reduceEqDiff, decide_eq_true_eq, Option.bind_some, false_and, and_false, true_and, and_true, and_self, Nat.reduceAdd, not_false_eq_true, not_true_eq_false, wS, wR, inI, ite_self, Classical.not_not, ↓bnd (zm_in _ _ _ _), ↓bnd (zm_isTerm _ _), bI_0, h1, h2, h3, Int32.toInt_toInt64, Int32.reduceToInt, Int64.reduceToInt, tN9, tN299, tN99999, tN9999, tN99, tL9, tL299, tL99999, tL9999, tL99, i1_0, i0_1]
  by_cases h4 : -9999 ≤ c.toInt ∧ c.toInt ≤ 9999
  case neg =>
    refine ⟨0, h, h, ?_, ?_, ⟨w0, e0, g⟩, fr_rf _ _, fr_rf _ _, rfl⟩
    · rw [B_glass_eq]
      simp only [gI_pI, gI_pL, gI_pR, gL_pI, gL_pL, gL_pR, gR_pI, gR_pL, gR_pR, gS_pI, gS_pL, gS_pR, ↓reduceIte, Nat.reduceEqDiff, decide_eq_true_eq, Option.bind_some, false_and, and_false, true_and, and_true, and_self, Nat.reduceAdd, not_false_eq_true, not_true_eq_false, wS, wR, inI, ite_self, Classical.not_not, ↓bnd (z_isIsland _ _), ↓bnd (z_isTerm _ _), ↓bnd (z_isWithin _ _ _ _), bI_0, h1, h2, h3, h4, Int32.reduceToInt, Int64.reduceToInt, tN9, tN299, tN99999, tN9999, tN99, tL9, tL299, tL99999, tL9999, tL99, i1_0, i0_1]
    · rw [M_glass_eq]
      simp only [gI_pI, gI_pL, gI_pR, gL_pI, gL_pL, gL_pR, gR_pI, gR_pL, gR_pR, gS_pI, gS_pL, gS_pR, ↓reduceIte, Nat.reduceEqDiff, decide_eq_true_eq, Option.bind_some, false_and, and_false, true_and, and_true, and_self, Nat.reduceAdd, not_false_eq_true, not_true_eq_false, wS, wR, inI, ite_self, Classical.not_not, ↓bnd (zm_in _ _ _ _), ↓bnd (zm_isTerm _ _), bI_0, h1, h2, h3, h4, Int32.toInt_toInt64, Int32.reduceToInt, Int64.reduceToInt, tN9, tN299, tN99999, tN9999, tN99, tL9, tL299, tL99999, tL9999, tL99, i1_0, i0_1]
  by_cases h5 : -99 ≤ m.toInt ∧ m.toInt ≤ 99
  case neg =>
    refine ⟨0, h, h, ?_, ?_, ⟨w0, e0, g⟩, fr_rf _ _, fr_rf _ _, rfl⟩
    · rw [B_glass_eq]
      simp only [gI_pI, gI_pL, gI_pR, gL_pI, gL_pL, gL_pR, gR_pI, gR_pL, gR_pR, gS_pI, gS_pL, gS_pR, ↓reduceIte, Nat.reduceEqDiff, decide_eq_true_eq, Option.bind_some, false_and, and_false, true_and, and_true, and_self, Nat.reduceAdd, not_false_eq_true, not_true_eq_false, wS, wR, inI, ite_self, Classical.not_not, ↓bnd (z_isIsland _ _), ↓bnd (z_isTerm _ _), ↓bnd (z_isWithin _ _ _ _), bI_0, h1, h2, h3, h4, h5, Int32.reduceToInt, Int64.reduceToInt, tN9, tN299, tN99999, tN9999, tN99, tL9, tL299, tL99999, tL9999, tL99, i1_0, i0_1]
    · rw [M_glass_eq]
      simp only [gI_pI, gI_pL, gI_pR, gL_pI, gL_pL, gL_pR, gR_pI, gR_pL, gR_pR, gS_pI, gS_pL, gS_pR, ↓reduceIte, Nat.reduceEqDiff, decide_eq_true_eq, Option.bind_some, false_and, and_false, true_and, and_true, and_self, Nat.reduceAdd, not_false_eq_true, not_true_eq_false, wS, wR, inI, ite_self, Classical.not_not, ↓bnd (zm_in _ _ _ _), ↓bnd (zm_isTerm _ _), bI_0, h1, h2, h3, h4, h5, Int32.toInt_toInt64, Int32.reduceToInt, Int64.reduceToInt, tN9, tN299, tN99999, tN9999, tN99, tL9, tL299, tL99999, tL9999, tL99, i1_0, i0_1]
  obtain ⟨i, rfl, hi, hi2, hi3⟩ := nI_ex h1
  obtain ⟨j, rfl, hj, hj2, hj3⟩ := nI_ex h2
  have e1 : nI i * 6 + nI j = nI (6 * i + j) := by
    rw [show (6 : Int32) = nI 6 from rfl, pk_mul, nI_add, Nat.mul_comm]
  have e2 : (6 : Int32) * nI i + nI j = nI (6 * i + j) := by
    rw [show (6 : Int32) = nI 6 from rfl, pk_mul, nI_add]
  have hk : 6 * i + j < 24 := by omega
  generalize 6 * i + j = k at e1 e2 hk
  refine ⟨1, pI (pI h 88 k c) 89 k m, pI (pI (pI (pI h 88 k c) 89 k m) 202 k c) 203 k m, ?_, ?_, ⟨(ok_pI (ok_pI (ok_pI (ok_pI w0 _ _ _) _ _ _) _ _ _) _ _ _), ?_, ?_⟩, fr_c (fr_c (fr_rf _ _) rfl) rfl, fr_c (fr_c (fr_c (fr_c (fr_rf _ _) rfl) rfl) rfl) rfl, ?_⟩
  · rw [B_glass_eq]
    simp (disch := omega) only [gI_pI, gI_pL, gI_pR, gL_pI, gL_pL, gL_pR, gR_pI, gR_pL, gR_pR, gS_pI, gS_pL, gS_pR, ↓reduceIte, Nat.reduceEqDiff, decide_eq_true_eq, Option.bind_some, false_and, and_false, true_and, and_true, and_self, Nat.reduceAdd, not_false_eq_true, not_true_eq_false, wS, wR, inI, ite_self, Classical.not_not, ↓bnd (z_isIsland _ _), ↓bnd (z_isTerm _ _), ↓bnd (z_isWithin _ _ _ _), bI_0, h1, h2, h3, h4, h5, Int32.reduceToInt, Int64.reduceToInt, tN9, tN299, tN99999, tN9999, tN99, tL9, tL299, tL99999, tL9999, tL99, i1_0, i0_1, e1, ax_in, nJ_nn, nJ_n, hk]
  · rw [M_glass_eq]
    simp (disch := omega) only [gI_pI, gI_pL, gI_pR, gL_pI, gL_pL, gL_pR, gR_pI, gR_pL, gR_pR, gS_pI, gS_pL, gS_pR, ↓reduceIte, Nat.reduceEqDiff, decide_eq_true_eq, Option.bind_some, false_and, and_false, true_and, and_true, and_self, Nat.reduceAdd, not_false_eq_true, not_true_eq_false, wS, wR, inI, ite_self, Classical.not_not, ↓bnd (zm_in _ _ _ _), ↓bnd (zm_isTerm _ _), bI_0, h1, h2, h3, h4, h5, Int32.toInt_toInt64, Int32.reduceToInt, Int64.reduceToInt, tN9, tN299, tN99999, tN9999, tN99, tL9, tL299, tL99999, tL9999, tL99, i1_0, i0_1, e2, ax_in, nJ_nn, nJ_n, hk]
  · unfold EQ
    simp (disch := omega) only [gI_pI, gI_pL, gI_pR, gL_pI, gL_pL, gL_pR, gR_pI, gR_pL, gR_pR, gS_pI, gS_pL, gS_pR, ↓reduceIte, Nat.reduceEqDiff, decide_eq_true_eq, Option.bind_some, false_and, and_false, true_and, and_true, and_self, Nat.reduceAdd, not_false_eq_true, not_true_eq_false, wS, wR, inI, ite_self, Classical.not_not, inI, V_pI, u2, Nat.reduceLeDiff, nS, nP, nM, nD, nF, nW', e, implies_true]
    exact e27e e0
  · obtain ⟨g1, g2, g3, g4, g5, g6, g7⟩ := g
    unfold GV GC GS GP GI GD GF GK at *
    simp (disch := omega) only [gI_pI, gI_pL, gI_pR, gL_pI, gL_pL, gL_pR, gR_pI, gR_pL, gR_pR, gS_pI, gS_pL, gS_pR, ↓reduceIte, Nat.reduceEqDiff, decide_eq_true_eq, Option.bind_some, false_and, and_false, true_and, and_true, and_self, Nat.reduceAdd, not_false_eq_true, not_true_eq_false, wS, wR, inI, ite_self, Classical.not_not, inI, V_pI, u2, Nat.reduceLeDiff, nS, nP, nM, nD, nF, nW', sameK]
    refine ⟨g1, g2, g3, g4, g5, g6, fun q hq => ?_, g7.2⟩
    by_cases hqk : q = k
    · simp only [hqk, ↓reduceIte]; exact ⟨h4, h5⟩
    · simp only [hqk, ↓reduceIte]; exact g7.1 q hq
  · simp only [gI_pI, gI_pL, gI_pR, gL_pI, gL_pL, gL_pR, gR_pI, gR_pL, gR_pR, gS_pI, gS_pL, gS_pR, ↓reduceIte, Nat.reduceEqDiff, decide_eq_true_eq, Option.bind_some, false_and, and_false, true_and, and_true, and_self, Nat.reduceAdd, not_false_eq_true, not_true_eq_false, wS, wR, inI, ite_self, Classical.not_not, inI, V_pI, u2, Nat.reduceLeDiff, nS, nP, nM, nD, nF, nW']
/-- a set of stars that are there -/
def fsB (v : Int32) (n : Nat) : Prop := ∀ i, n ≤ i → i < 32 → bt v i = false
theorem fs_c {v : Int32} {n : Nat} (hn : n < 32) : (v.toUInt32 >>> ((nI n).toUInt32 &&& Int32.toUInt32 31)).toInt32 = 0 ↔ fsB v n := by
  constructor
  · intro h i h1 h2
    have := b_ushr n hn v (i - n)
    rw [h, b_0, show n + (i - n) = i by omega] at this
    exact this.symm
  · intro h
    refine b_ext fun i hi => ?_
    rw [b_ushr n hn v i, b_0]
    by_cases hb : n + i < 32
    · exact h _ (by omega) hb
    · exact b_big (by omega)
theorem fs_n {v : Int32} {n : Nat} (hn : n ≤ 30) (h : fsB v n) : 0 ≤ v.toInt ∧ v.toInt ≤ 1073741823 := by
  have h1 : v.toBitVec.toNat < 2 ^ 30 := Nat.lt_pow_two_of_testBit _ fun i hi => by
    by_cases h32 : i < 32
    · exact h i (by omega) h32
    · exact b_big (x := v) (by omega)
  have h3 : v.toInt = (v.toBitVec.toNat : Int) := by
    show v.toBitVec.toInt = _
    exact BitVec.toInt_eq_toNat_of_lt (by omega)
  omega
theorem fs_m {v : Int32} {n : Nat} (hn : n ≤ 30) (hv : ¬ v < 0) : v >>> (nI n &&& 31) = 0 ↔ fsB v n := by
  have h31 : bt v 31 = false := by
    rw [i32_lt] at hv
    replace hv : ¬ v.toInt < 0 := hv
    cases hb : bt v 31 with
    | false => rfl
    | true =>
      have : v.toBitVec.toInt < 0 := BitVec.toInt_neg_of_msb_true (by rw [BitVec.msb_eq_getLsbD_last]; exact hb)
      exact absurd this hv
  constructor
  · intro h i h1 h2
    have := b_sshr n (by omega) v (i := i - n) (by omega)
    rw [h, b_0, show n + (i - n) = i by omega, if_pos h2] at this
    exact this.symm
  · intro h
    refine b_ext fun i hi => ?_
    rw [b_sshr n (by omega) v hi, b_0]
    split
    · exact h _ (by omega) (by assumption)
    · exact h31
theorem st_field {h : ax_H} (i : I0 h) (a v : Int32) : stp (B_field 64 a v h) (M_field 159 a v) (stl h) := by
  obtain ⟨w, e, g⟩ := i
  have w0 := w
  obtain ⟨wS, wR, wG, wN⟩ := w
  have e0 := e
  unfold EQ at e
  have hcn := cnts g.1
  have hs := nI_nS g.1.2.1
  obtain ⟨n, hn, hn2, hn3, hn4⟩ := nI_ex g.1.2.2.2.2.2.2
  have hnF : nF (V h) = n := by show (V h 65 10).toInt.toNat = n; omega
  have hu : (v.toUInt32 >>> ((V h 66 0).toUInt32 &&& Int32.toUInt32 31)).toInt32 = 0 ↔ fsB v (nS (V h)) := by
    rw [hs]
    have : nS (fun a k => V h a k) = nS (V h) := rfl
    exact fs_c (by omega)
  by_cases h1 : 1 ≤ a.toInt ∧ a.toInt ≤ 99
  case neg =>
    refine ⟨-1, h, h, ?_, ?_, ⟨w0, e0, g⟩, fr_rf _ _, fr_rf _ _, rfl⟩
    · rw [B_field_eq]
      simp only [gI_pI, gI_pL, gI_pR, gL_pI, gL_pL, gL_pR, gR_pI, gR_pL, gR_pR, gS_pI, gS_pL, gS_pR, ↓reduceIte, Nat.reduceEqDiff, decide_eq_true_eq, Option.bind_some, false_and, and_false, true_and, and_true, and_self, Nat.reduceAdd, not_false_eq_true, not_true_eq_false, wS, wR, inI, ite_self, Classical.not_not, ↓bnd (z_isWithin _ _ _ _), bI_0, h1, Int32.reduceToInt, Int64.reduceToInt, tN9, tN299, tN99999, tN9999, tN99, tL9, tL299, tL99999, tL9999, tL99, i1_0, i0_1]
    · rw [M_field_eq]
      try simp only [wS, wR, ↓reduceIte]
      simp only [gI_pI, gI_pL, gI_pR, gL_pI, gL_pL, gL_pR, gR_pI, gR_pL, gR_pR, gS_pI, gS_pL, gS_pR, ↓reduceIte, Nat.reduceEqDiff, decide_eq_true_eq, Option.bind_some, false_and, and_false, true_and, and_true, and_self, Nat.reduceAdd, not_false_eq_true, not_true_eq_false, wS, wR, inI, ite_self, Classical.not_not, ↓bnd (zm_in _ _ _ _), bI_0, h1, Int32.toInt_toInt64, Int32.reduceToInt, Int64.reduceToInt, tN9, tN299, tN99999, tN9999, tN99, tL9, tL299, tL99999, tL9999, tL99, i1_0, i0_1]
  by_cases h2 : fsB v (nS (V h))
  case neg =>
    refine ⟨-1, h, h, ?_, ?_, ⟨w0, e0, g⟩, fr_rf _ _, fr_rf _ _, rfl⟩
    · rw [B_field_eq]
      try simp only [wS, wR, ↓reduceIte]
      simp only [gI_pI, gI_pL, gI_pR, gL_pI, gL_pL, gL_pR, gR_pI, gR_pL, gR_pR, gS_pI, gS_pL, gS_pR, ↓reduceIte, Nat.reduceEqDiff, decide_eq_true_eq, Option.bind_some, false_and, and_false, true_and, and_true, and_self, Nat.reduceAdd, not_false_eq_true, not_true_eq_false, wS, wR, inI, ite_self, Classical.not_not, cV65, cV66, cV67, cV68, cV69, cV70, cV71, cV72, cV73, cV74, cV75, cV76, cV77, cV78, cV79, cV80, cV81, cV82, cV83, cV84, cV85, cV86, cV87, cV88, cV89, cV90, ↓bnd (z_isWithin _ _ _ _), bI_0, h1, hu, h2, Int32.reduceToInt, Int64.reduceToInt, tN9, tN299, tN99999, tN9999, tN99, tL9, tL299, tL99999, tL9999, tL99, i1_0, i0_1]
    · rw [M_field_eq]
      try simp only [wS, wR, ↓reduceIte]
      simp only [gI_pI, gI_pL, gI_pR, gL_pI, gL_pL, gL_pR, gR_pI, gR_pL, gR_pR, gS_pI, gS_pL, gS_pR, ↓reduceIte, Nat.reduceEqDiff, decide_eq_true_eq, Option.bind_some, false_and, and_false, true_and, and_true, and_self, Nat.reduceAdd, not_false_eq_true, not_true_eq_false, wS, wR, inI, ite_self, Classical.not_not, e, ↓bnd (zm_in _ _ _ _), bI_0, h1, Int32.toInt_toInt64, Int32.reduceToInt, Int64.reduceToInt, tN9, tN299, tN99999, tN9999, tN99, tL9, tL299, tL99999, tL9999, tL99, i1_0, i0_1]
      by_cases hv : v < 0
      · simp only [hv, ↓reduceIte, ite_self]
      · have := fs_m (v := v) (n := nS (V h)) (by omega) hv
        rw [← hs] at this
        simp only [hv, ↓reduceIte, this, h2, ite_self]
  have hv : ¬ v < 0 := by
    have := (fs_n (by omega) h2).1
    rw [i32_lt]
    show ¬ v.toInt < 0
    omega
  have hm : v >>> (V h 66 0 &&& 31) = 0 := by
    rw [hs]
    exact (fs_m (v := v) (n := nS (V h)) (by omega) hv).mpr h2
  by_cases h3 : n = 9
  case pos =>
    refine ⟨-1, h, h, ?_, ?_, ⟨w0, e0, g⟩, fr_rf _ _, fr_rf _ _, rfl⟩
    · rw [B_field_eq]
      try simp only [wS, wR, ↓reduceIte]
      simp (disch := omega) only [gI_pI, gI_pL, gI_pR, gL_pI, gL_pL, gL_pR, gR_pI, gR_pL, gR_pR, gS_pI, gS_pL, gS_pR, ↓reduceIte, Nat.reduceEqDiff, decide_eq_true_eq, Option.bind_some, false_and, and_false, true_and, and_true, and_self, Nat.reduceAdd, not_false_eq_true, not_true_eq_false, wS, wR, inI, ite_self, Classical.not_not, cV65, cV66, cV67, cV68, cV69, cV70, cV71, cV72, cV73, cV74, cV75, cV76, cV77, cV78, cV79, cV80, cV81, cV82, cV83, cV84, cV85, cV86, cV87, cV88, cV89, cV90, ↓bnd (z_isWithin _ _ _ _), bI_0, h1, hu, h2, Int32.reduceToInt, Int64.reduceToInt, tN9, tN299, tN99999, tN9999, tN99, tL9, tL299, tL99999, tL9999, tL99, i1_0, i0_1, Bk_putField_eq, hn, show (9 : Int32) = nI 9 from rfl, nJ_lt, h3, Nat.lt_irrefl]
    · rw [M_field_eq]
      try simp only [wS, wR, ↓reduceIte]
      simp (disch := omega) only [gI_pI, gI_pL, gI_pR, gL_pI, gL_pL, gL_pR, gR_pI, gR_pL, gR_pR, gS_pI, gS_pL, gS_pR, ↓reduceIte, Nat.reduceEqDiff, decide_eq_true_eq, Option.bind_some, false_and, and_false, true_and, and_true, and_self, Nat.reduceAdd, not_false_eq_true, not_true_eq_false, wS, wR, inI, ite_self, Classical.not_not, e, ↓bnd (zm_in _ _ _ _), bI_0, h1, Int32.toInt_toInt64, Int32.reduceToInt, Int64.reduceToInt, tN9, tN299, tN99999, tN9999, tN99, tL9, tL299, tL99999, tL9999, tL99, i1_0, i0_1, hn, h3, show (9 : Int32) = nI 9 from rfl]
  have h9 : n < 9 := by omega
  have e1 : nI (n + 1) - 1 = nI n := nI_pred n
  refine ⟨nI n, pI (pI (pI h 86 n a) 87 n v) 65 10 (nI (n + 1)), pI (pI (pI (pI (pI (pI h 86 n a) 87 n v) 65 10 (nI (n + 1))) 200 n a) 201 n v) 159 63 (nI (n + 1)), ?_, ?_, ⟨(ok_pI (ok_pI (ok_pI (ok_pI (ok_pI (ok_pI w0 _ _ _) _ _ _) _ _ _) _ _ _) _ _ _) _ _ _), ?_, ?_⟩, fr_c (fr_c (fr_c (fr_rf _ _) rfl) rfl) rfl, fr_c (fr_c (fr_c (fr_c (fr_c (fr_c (fr_rf _ _) rfl) rfl) rfl) rfl) rfl) rfl, ?_⟩
  · have hp : Bk_putField 65 a v h = some (nI n, pI (pI (pI h 86 n a) 87 n v) 65 10 (nI (n + 1))) := by
      rw [Bk_putField_eq]
      try simp only [wS, wR, ↓reduceIte]
      simp (disch := omega) only [gI_pI, gI_pL, gI_pR, gL_pI, gL_pL, gL_pR, gR_pI, gR_pL, gR_pR, gS_pI, gS_pL, gS_pR, ↓reduceIte, Nat.reduceEqDiff, decide_eq_true_eq, Option.bind_some, false_and, and_false, true_and, and_true, and_self, Nat.reduceAdd, not_false_eq_true, not_true_eq_false, wS, wR, inI, ite_self, Classical.not_not, cV65, cV66, cV67, cV68, cV69, cV70, cV71, cV72, cV73, cV74, cV75, cV76, cV77, cV78, cV79, cV80, cV81, cV82, cV83, cV84, cV85, cV86, cV87, cV88, cV89, cV90, inI, V_pI, u2, Nat.reduceLeDiff, nS, nP, nM, nD, nF, nW', hn, show (9 : Int32) = nI 9 from rfl, nJ_lt, h9, ax_in, nJ_nn, nJ_n, nJ_p1, e1]
    rw [B_field_eq]
    try simp only [wS, wR, ↓reduceIte]
    simp (disch := omega) only [gI_pI, gI_pL, gI_pR, gL_pI, gL_pL, gL_pR, gR_pI, gR_pL, gR_pR, gS_pI, gS_pL, gS_pR, ↓reduceIte, Nat.reduceEqDiff, decide_eq_true_eq, Option.bind_some, false_and, and_false, true_and, and_true, and_self, Nat.reduceAdd, not_false_eq_true, not_true_eq_false, wS, wR, inI, ite_self, Classical.not_not, cV65, cV66, cV67, cV68, cV69, cV70, cV71, cV72, cV73, cV74, cV75, cV76, cV77, cV78, cV79, cV80, cV81, cV82, cV83, cV84, cV85, cV86, cV87, cV88, cV89, cV90, ↓bnd (z_isWithin _ _ _ _), bI_0, h1, hu, h2, Int32.reduceToInt, Int64.reduceToInt, tN9, tN299, tN99999, tN9999, tN99, tL9, tL299, tL99999, tL9999, tL99, i1_0, i0_1, ↓bnd hp]
  · rw [M_field_eq]
    simp only [gS_pI, gR_pI, wS, wR, ↓reduceIte]
    simp (disch := omega) only [gI_pI, gI_pL, gI_pR, gL_pI, gL_pL, gL_pR, gR_pI, gR_pL, gR_pR, gS_pI, gS_pL, gS_pR, ↓reduceIte, Nat.reduceEqDiff, decide_eq_true_eq, Option.bind_some, false_and, and_false, true_and, and_true, and_self, Nat.reduceAdd, not_false_eq_true, not_true_eq_false, wS, wR, inI, ite_self, Classical.not_not, inI, V_pI, u2, Nat.reduceLeDiff, nS, nP, nM, nD, nF, nW', e, ↓bnd (zm_in _ _ _ _), bI_0, h1, Int32.toInt_toInt64, Int32.reduceToInt, Int64.reduceToInt, tN9, tN299, tN99999, tN9999, tN99, tL9, tL299, tL99999, tL9999, tL99, i1_0, i0_1, hn, h3, show (9 : Int32) = nI 9 from rfl, nJ_eq, hv, hm, ax_in, nJ_nn, nJ_n, nJ_p1, e1, h9]
  · unfold EQ
    simp (disch := omega) only [gI_pI, gI_pL, gI_pR, gL_pI, gL_pL, gL_pR, gR_pI, gR_pL, gR_pR, gS_pI, gS_pL, gS_pR, ↓reduceIte, Nat.reduceEqDiff, decide_eq_true_eq, Option.bind_some, false_and, and_false, true_and, and_true, and_self, Nat.reduceAdd, not_false_eq_true, not_true_eq_false, wS, wR, inI, ite_self, Classical.not_not, inI, V_pI, u2, Nat.reduceLeDiff, nS, nP, nM, nD, nF, nW', e, implies_true]
    exact e27e e0
  · obtain ⟨g1, g2, g3, g4, g5, g6, g7⟩ := g
    unfold GV GC GS GP GI GD GF GK at *
    simp (disch := omega) only [gI_pI, gI_pL, gI_pR, gL_pI, gL_pL, gL_pR, gR_pI, gR_pL, gR_pR, gS_pI, gS_pL, gS_pR, ↓reduceIte, Nat.reduceEqDiff, decide_eq_true_eq, Option.bind_some, false_and, and_false, true_and, and_true, and_self, Nat.reduceAdd, not_false_eq_true, not_true_eq_false, wS, wR, inI, ite_self, Classical.not_not, inI, V_pI, u2, Nat.reduceLeDiff, nS, nP, nM, nD, nF, nW', sameK, nJ_i]
    refine ⟨⟨g1.1, g1.2.1, g1.2.2.1, g1.2.2.2.1, g1.2.2.2.2.1, g1.2.2.2.2.2.1, by omega⟩, g2, g3, g4, g5, fun q hq => ?_, g7⟩
    by_cases hqk : q = n
    · simp only [hqk, ↓reduceIte]; exact ⟨h1, fs_n (by omega) h2⟩
    · simp only [hqk, ↓reduceIte]; exact g6 q (by omega)
  · simp only [gI_pI, gI_pL, gI_pR, gL_pI, gL_pL, gL_pR, gR_pI, gR_pL, gR_pR, gS_pI, gS_pL, gS_pR, ↓reduceIte, Nat.reduceEqDiff, decide_eq_true_eq, Option.bind_some, false_and, and_false, true_and, and_true, and_self, Nat.reduceAdd, not_false_eq_true, not_true_eq_false, wS, wR, inI, ite_self, Classical.not_not, inI, V_pI, u2, Nat.reduceLeDiff, nS, nP, nM, nD, nF, nW']
