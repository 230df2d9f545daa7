/-! questions that change nothing: stars, images, gives, knows, count -/
theorem nI_eq0 {a : Nat} (h : a < 2147483648) : nI a = 0 ↔ a = 0 := nJ_eq (b := 0) h (by omega)
theorem nI_eq1 {a : Nat} (h : a < 2147483648) : nI a = 1 ↔ a = 1 := nJ_eq (b := 1) h (by omega)
theorem nI_eq4 {a : Nat} (h : a < 2147483648) : nI a = 4 ↔ a = 4 := nJ_eq (b := 4) h (by omega)
def asks {α : Type} (P Q : Option (α × ax_H)) (h : ax_H) : Prop := ∃ v, P = some (v, h) ∧ Q = some (v, h)
theorem tN_eq {x : Int32} {j : Nat} (h : x = nI j) (hj : j < 2147483648) : x.toNatClampNeg = j := by rw [h, nJ_n hj]
theorem as_stars {h : ax_H} (i : I0 h) (k what : Int32) : asks (B_stars 64 k what h) (M_stars 159 k what h) h := by
  obtain ⟨w, e, g⟩ := i
  have w0 := w
  obtain ⟨wS, wR, wG, wN⟩ := w
  have e0 := e
  unfold EQ at e
  have hcn := cnts g.1
  by_cases hc : inI k 0 ((V h 66 0).toInt - 1)
  · obtain ⟨j, rfl, hj, hj2, hj3⟩ := nI_ex hc
    have hj4 : j < 30 := by have := cnts g.1; omega
    refine ⟨if what = 0 then V h 67 j else if what = 1 then V h 68 j else if what = 2 then V h 69 j else if what = 3 then V h 67 j * V h 67 j + V h 68 j * V h 68 j else -1000, ?_, ?_⟩
    · rw [B_stars_eq]
      simp only [wS, wR, ↓reduceIte]
      simp (disch := omega) only [gI_pI, gI_pL, gI_pR, gL_pI, gL_pL, gL_pR, gR_pI, gR_pL, gR_pR, gS_pI, gS_pL, gS_pR, ↓reduceIte, Nat.reduceEqDiff, decide_eq_true_eq, Option.bind_some, false_and, and_false, true_and, and_true, and_self, Nat.reduceAdd, not_false_eq_true, not_true_eq_false, wS, wR, inI, ite_self, Classical.not_not, cV65, cV66, cV67, cV68, cV69, cV70, cV71, cV72, cV73, cV74, cV75, cV76, cV77, cV78, cV79, cV80, cV81, cV82, cV83, cV84, cV85, cV86, cV87, cV88, cV89, cV90, ax_in, ↓bnd (z_St_has w0 g.1 _), bI_0, hc, nJ_nn, nJ_n, hj4, ↓bnd (z_far w0 hj4)]
      repeat' split
      all_goals rfl
    · rw [M_stars_eq]
      simp (disch := omega) only [gI_pI, gI_pL, gI_pR, gL_pI, gL_pL, gL_pR, gR_pI, gR_pL, gR_pR, gS_pI, gS_pL, gS_pR, ↓reduceIte, Nat.reduceEqDiff, decide_eq_true_eq, Option.bind_some, false_and, and_false, true_and, and_true, and_self, Nat.reduceAdd, not_false_eq_true, not_true_eq_false, wS, wR, inI, ite_self, Classical.not_not, e, ax_in, ↓bnd (zm_isStar w0 g.1 e0 _), bI_0, hc, nJ_nn, nJ_n, hj4, ↓bnd (zm_far w0 e0 hj4)]
      repeat' split
      all_goals rfl
  · refine ⟨-1000, ?_, ?_⟩
    · rw [B_stars_eq]
      simp only [gI_pI, gI_pL, gI_pR, gL_pI, gL_pL, gL_pR, gR_pI, gR_pL, gR_pR, gS_pI, gS_pL, gS_pR, ↓reduceIte, Nat.reduceEqDiff, decide_eq_true_eq, Option.bind_some, false_and, and_false, true_and, and_true, and_self, Nat.reduceAdd, not_false_eq_true, not_true_eq_false, wS, wR, inI, ite_self, Classical.not_not, ↓bnd (z_St_has w0 g.1 _), bI_0, hc]
    · rw [M_stars_eq]
      simp only [gI_pI, gI_pL, gI_pR, gL_pI, gL_pL, gL_pR, gR_pI, gR_pL, gR_pR, gS_pI, gS_pL, gS_pR, ↓reduceIte, Nat.reduceEqDiff, decide_eq_true_eq, Option.bind_some, false_and, and_false, true_and, and_true, and_self, Nat.reduceAdd, not_false_eq_true, not_true_eq_false, wS, wR, inI, ite_self, Classical.not_not, ↓bnd (zm_isStar w0 g.1 e0 _), bI_0, hc]
theorem ch_ex {x : Int32} (h : x = 0 ∨ x = 1) : ∃ a : Nat, x = nI a ∧ a < 2 := by
  rcases h with h | h
  · exact ⟨0, h, by omega⟩
  · exact ⟨1, h, by omega⟩
theorem ch_iff {x : Int32} : (0 ≤ x.toInt ∧ x.toInt ≤ 1) ↔ (x = 0 ∨ x = 1) := by
  rw [i32_eq, i32_eq]
  show _ ↔ x.toInt = 0 ∨ x.toInt = 1
  omega
theorem as_gives {h : ax_H} (i : I0 h) (t k a : Int32) : asks (B_gives 64 t k a h) (M_gives 159 t k a h) h := by
  obtain ⟨w, e, g⟩ := i
  have w0 := w
  obtain ⟨wS, wR, wG, wN⟩ := w
  have e0 := e
  unfold EQ at e
  have hcn := cnts g.1
  by_cases ht : 0 ≤ t.toInt ∧ t.toInt ≤ 5
  · by_cases hc : inI k 0 ((V h 66 0).toInt - 1)
    · by_cases ha : a = 0 ∨ a = 1
      · have ha2 := ch_iff.mpr ha
        obtain ⟨j, rfl, hj, hj2, hj3⟩ := nI_ex hc
        obtain ⟨t', rfl, ht', ht2, ht3⟩ := nI_ex ht
        obtain ⟨a', rfl, ha'⟩ := ch_ex ha
        have hgB := z_give w0 g.1 g.2.1 (t := t') (s := j) (by omega) (by omega) ha'
        have hgM := zm_given w0 g.1 g.2.1 e0 (t := t') (s := j) (by omega) (by omega) ha'
        refine ⟨Int32.ofInt (gz t' (sx (V h) j) (sy (V h) j) a'), ?_, ?_⟩
        · rw [B_gives_eq]
          simp only [gI_pI, gI_pL, gI_pR, gL_pI, gL_pL, gL_pR, gR_pI, gR_pL, gR_pR, gS_pI, gS_pL, gS_pR, ↓reduceIte, Nat.reduceEqDiff, decide_eq_true_eq, Option.bind_some, false_and, and_false, true_and, and_true, and_self, Nat.reduceAdd, not_false_eq_true, not_true_eq_false, wS, wR, inI, ite_self, Classical.not_not, ↓bnd (z_isTerm _ _), ↓bnd (z_St_has w0 g.1 _), ↓bnd (z_isChoice _ _), bI_0, hc, ht, ha, ↓bnd (hgB)]
        · rw [M_gives_eq]
          simp only [gI_pI, gI_pL, gI_pR, gL_pI, gL_pL, gL_pR, gR_pI, gR_pL, gR_pR, gS_pI, gS_pL, gS_pR, ↓reduceIte, Nat.reduceEqDiff, decide_eq_true_eq, Option.bind_some, false_and, and_false, true_and, and_true, and_self, Nat.reduceAdd, not_false_eq_true, not_true_eq_false, wS, wR, inI, ite_self, Classical.not_not, ↓bnd (zm_in _ _ _ _), ↓bnd (zm_isStar w0 g.1 e0 _), bI_0, hc, ht, ha2, Int32.toInt_toInt64, Int32.reduceToInt, Int64.reduceToInt, tN9, tN299, tN99999, tN9999, tN99, tL9, tL299, tL99999, tL9999, tL99, i1_0, i0_1, ↓bnd (hgM)]
      · have ha2 : ¬ (0 ≤ a.toInt ∧ a.toInt ≤ 1) := fun q => ha (ch_iff.mp q)
        refine ⟨-1000, ?_, ?_⟩
        · rw [B_gives_eq]
          simp only [gI_pI, gI_pL, gI_pR, gL_pI, gL_pL, gL_pR, gR_pI, gR_pL, gR_pR, gS_pI, gS_pL, gS_pR, ↓reduceIte, Nat.reduceEqDiff, decide_eq_true_eq, Option.bind_some, false_and, and_false, true_and, and_true, and_self, Nat.reduceAdd, not_false_eq_true, not_true_eq_false, wS, wR, inI, ite_self, Classical.not_not, ↓bnd (z_isTerm _ _), ↓bnd (z_St_has w0 g.1 _), ↓bnd (z_isChoice _ _), bI_0, hc, ht, ha]
        · rw [M_gives_eq]
          simp only [gI_pI, gI_pL, gI_pR, gL_pI, gL_pL, gL_pR, gR_pI, gR_pL, gR_pR, gS_pI, gS_pL, gS_pR, ↓reduceIte, Nat.reduceEqDiff, decide_eq_true_eq, Option.bind_some, false_and, and_false, true_and, and_true, and_self, Nat.reduceAdd, not_false_eq_true, not_true_eq_false, wS, wR, inI, ite_self, Classical.not_not, ↓bnd (zm_in _ _ _ _), ↓bnd (zm_isStar w0 g.1 e0 _), bI_0, hc, ht, ha2, Int32.toInt_toInt64, Int32.reduceToInt, Int64.reduceToInt, tN9, tN299, tN99999, tN9999, tN99, tL9, tL299, tL99999, tL9999, tL99, i1_0, i0_1]
    · refine ⟨-1000, ?_, ?_⟩
      · rw [B_gives_eq]
        simp only [gI_pI, gI_pL, gI_pR, gL_pI, gL_pL, gL_pR, gR_pI, gR_pL, gR_pR, gS_pI, gS_pL, gS_pR, ↓reduceIte, Nat.reduceEqDiff, decide_eq_true_eq, Option.bind_some, false_and, and_false, true_and, and_true, and_self, Nat.reduceAdd, not_false_eq_true, not_true_eq_false, wS, wR, inI, ite_self, Classical.not_not, ↓bnd (z_isTerm _ _), ↓bnd (z_St_has w0 g.1 _), bI_0, hc, ht]
      · rw [M_gives_eq]
        simp only [gI_pI, gI_pL, gI_pR, gL_pI, gL_pL, gL_pR, gR_pI, gR_pL, gR_pR, gS_pI, gS_pL, gS_pR, ↓reduceIte, Nat.reduceEqDiff, decide_eq_true_eq, Option.bind_some, false_and, and_false, true_and, and_true, and_self, Nat.reduceAdd, not_false_eq_true, not_true_eq_false, wS, wR, inI, ite_self, Classical.not_not, ↓bnd (zm_in _ _ _ _), ↓bnd (zm_isStar w0 g.1 e0 _), bI_0, hc, ht, Int32.toInt_toInt64, Int32.reduceToInt, Int64.reduceToInt, tN9, tN299, tN99999, tN9999, tN99, tL9, tL299, tL99999, tL9999, tL99, i1_0, i0_1]
  · refine ⟨-1000, ?_, ?_⟩
    · rw [B_gives_eq]
      simp only [gI_pI, gI_pL, gI_pR, gL_pI, gL_pL, gL_pR, gR_pI, gR_pL, gR_pR, gS_pI, gS_pL, gS_pR, ↓reduceIte, Nat.reduceEqDiff, decide_eq_true_eq, Option.bind_some, false_and, and_false, true_and, and_true, and_self, Nat.reduceAdd, not_false_eq_true, not_true_eq_false, wS, wR, inI, ite_self, Classical.not_not, ↓bnd (z_isTerm _ _), bI_0, ht]
    · rw [M_gives_eq]
      simp only [gI_pI, gI_pL, gI_pR, gL_pI, gL_pL, gL_pR, gR_pI, gR_pL, gR_pR, gS_pI, gS_pL, gS_pR, ↓reduceIte, Nat.reduceEqDiff, decide_eq_true_eq, Option.bind_some, false_and, and_false, true_and, and_true, and_self, Nat.reduceAdd, not_false_eq_true, not_true_eq_false, wS, wR, inI, ite_self, Classical.not_not, ↓bnd (zm_in _ _ _ _), bI_0, ht, Int32.toInt_toInt64, Int32.reduceToInt, Int64.reduceToInt, tN9, tN299, tN99999, tN9999, tN99, tL9, tL299, tL99999, tL9999, tL99, i1_0, i0_1]
theorem firstI_ne {P : Nat → Bool} : ∀ (k i : Nat), i + k ≤ 100 → firstI P k i = -1 ∨ ∃ m, firstI P k i = nI m ∧ i ≤ m ∧ m < i + k ∧ P m = true
  | 0, i, _ => Or.inl rfl
  | k + 1, i, h => by
    rw [firstI]
    cases hp : P i with
    | true => exact Or.inr ⟨i, by simp, by omega, by omega, hp⟩
    | false =>
      simp only [Bool.false_eq_true, if_false]
      rcases firstI_ne (P := P) k (i + 1) (by omega) with q | ⟨m, a, b, c, d⟩
      · exact Or.inl q
      · exact Or.inr ⟨m, a, by omega, by omega, d⟩
theorem nI_neg1 {m : Nat} (h : m < 2147483648) : ¬ nI m = -1 := by
  rw [i32_eq, nJ_i h]
  show ¬ (m : Int) = -1
  omega
section
theorem z_measured {h : ax_H} (w : ok h) {j a : Nat} (hj : j < 100) (ha : a < 2) : Im_measured 74 (nI j) (nI a) h = some (if a = 0 then V h 78 j else V h 79 j, h) := by
  obtain ⟨wS, wR, wG, wN⟩ := w
  rw [Im_measured_eq]
  simp (disch := omega) only [gI_pI, gI_pL, gI_pR, gL_pI, gL_pL, gL_pR, gR_pI, gR_pL, gR_pR, gS_pI, gS_pL, gS_pR, ↓reduceIte, Nat.reduceEqDiff, decide_eq_true_eq, Option.bind_some, false_and, and_false, true_and, and_true, and_self, Nat.reduceAdd, not_false_eq_true, not_true_eq_false, wS, wR, inI, ite_self, Classical.not_not, cV65, cV66, cV67, cV68, cV69, cV70, cV71, cV72, cV73, cV74, cV75, cV76, cV77, cV78, cV79, cV80, cV81, cV82, cV83, cV84, cV85, cV86, cV87, cV88, cV89, cV90, ax_in, nJ_nn, nJ_n, hj, nI_eq0]
  by_cases h0 : a = 0
  · rw [if_neg (by omega), if_pos h0]
  · rw [if_pos h0, if_neg h0]
end
theorem as_images {h : ax_H} (i : I0 h) (p s d kn a : Int32) : asks (B_images 64 p s d kn a h) (M_images 159 p s d kn a h) h := by
  obtain ⟨w, e, g⟩ := i
  have w0 := w
  obtain ⟨wS, wR, wG, wN⟩ := w
  have e0 := e
  unfold EQ at e
  have hcn := cnts g.1
  have g0 := g
  obtain ⟨gc, gs, gp, gI, -⟩ := g
  have hn := nI_nM gc.2.2.2.1
  have hn2 : nM (V h) ≤ 100 := by have := cnts gc; omega
  by_cases hk : 0 ≤ kn.toInt ∧ kn.toInt ≤ 9999
  · by_cases ha : a = 0 ∨ a = 1
    · have ha2 := ch_iff.mpr ha
      obtain ⟨a', rfl, ha'⟩ := ch_ex ha
      have hf := find_cnt gI hk.2 p s d
      have hB : B_images 64 p s d kn (nI a') h = if firstI (fun i => keyB (V h) p s d i && kvB (V h) kn i) (nM (V h)) 0 = -1 then some (-1000, h) else (Im_measured 74 (firstI (fun i => keyB (V h) p s d i && kvB (V h) kn i) (nM (V h)) 0) (nI a') h) := by
        rw [B_images_eq]
        simp only [gI_pI, gI_pL, gI_pR, gL_pI, gL_pL, gL_pR, gR_pI, gR_pL, gR_pR, gS_pI, gS_pL, gS_pR, ↓reduceIte, Nat.reduceEqDiff, decide_eq_true_eq, Option.bind_some, false_and, and_false, true_and, and_true, and_self, Nat.reduceAdd, not_false_eq_true, not_true_eq_false, wS, wR, inI, ite_self, Classical.not_not, ↓bnd (z_isWeek _ _), ↓bnd (z_isChoice _ _), bI_0, hk, ha, ↓bnd (z_find w0 hn hn2 _ _ _ _)]
        by_cases q : firstI (fun i => keyB (V h) p s d i && kvB (V h) kn i) (nM (V h)) 0 = -1
        · rw [if_neg (not_not_intro q), if_pos q]
        · rw [if_pos q, if_neg q]
          cases Im_measured 74 (firstI (fun i => keyB (V h) p s d i && kvB (V h) kn i) (nM (V h)) 0) (nI a') h <;> rfl
      rcases firstI_ne (P := fun i => keyB (V h) p s d i && kvB (V h) kn i) (nM (V h)) 0 (by omega) with q | ⟨m, q, m1, m2, m3⟩
      · refine ⟨-1000, ?_, ?_⟩
        · rw [hB, if_pos q]
        · rw [M_images_eq]
          simp only [gI_pI, gI_pL, gI_pR, gL_pI, gL_pL, gL_pR, gR_pI, gR_pL, gR_pR, gS_pI, gS_pL, gS_pR, ↓reduceIte, Nat.reduceEqDiff, decide_eq_true_eq, Option.bind_some, false_and, and_false, true_and, and_true, and_self, Nat.reduceAdd, not_false_eq_true, not_true_eq_false, wS, wR, inI, ite_self, Classical.not_not, ↓bnd (zm_in _ _ _ _), ↓bnd (zm_isStar w0 gc e0 _), ↓bnd (zm_isPlate w0 gc e0 _), ↓bnd (zm_isHand _ _), ↓bnd (zm_isWeek _ _), bI_0, hk, ha2, Int32.toInt_toInt64, Int32.reduceToInt, Int64.reduceToInt, tN9, tN299, tN99999, tN9999, tN99, tL9, tL299, tL99999, tL9999, tL99, i1_0, i0_1, ↓bnd (zm_counting w0 e0 hn hn2 _ _ _ _), ← hf, q]
          repeat' split
          all_goals rfl
      · have hm : m < 100 := by omega
        have h1 := nI_neg1 (m := m) (by omega)
        rw [Bool.and_eq_true] at m3
        have m4 := m3.1
        simp only [keyB, decide_eq_true_eq] at m4
        have g1 := gI.1 m (by omega)
        rw [m4.1, m4.2.1, m4.2.2] at g1
        refine ⟨if a' = 0 then V h 78 m else V h 79 m, ?_, ?_⟩
        · rw [hB, q, if_neg h1, z_measured w0 hm ha']
        · rw [M_images_eq]
          simp (disch := omega) only [gI_pI, gI_pL, gI_pR, gL_pI, gL_pL, gL_pR, gR_pI, gR_pL, gR_pR, gS_pI, gS_pL, gS_pR, ↓reduceIte, Nat.reduceEqDiff, decide_eq_true_eq, Option.bind_some, false_and, and_false, true_and, and_true, and_self, Nat.reduceAdd, not_false_eq_true, not_true_eq_false, wS, wR, inI, ite_self, Classical.not_not, e, ax_in, ↓bnd (zm_in _ _ _ _), ↓bnd (zm_isStar w0 gc e0 _), ↓bnd (zm_isPlate w0 gc e0 _), ↓bnd (zm_isHand _ _), ↓bnd (zm_isWeek _ _), bI_0, hk, ha2, Int32.toInt_toInt64, Int32.reduceToInt, Int64.reduceToInt, tN9, tN299, tN99999, tN9999, tN99, tL9, tL299, tL99999, tL9999, tL99, i1_0, i0_1, ↓bnd (zm_counting w0 e0 hn hn2 _ _ _ _), ← hf, q, h1, g1, nJ_nn, nJ_n, hm, nI_eq0]
          by_cases h0 : a' = 0
          · rw [if_neg (by omega), if_pos h0]
          · rw [if_pos h0, if_neg h0]
    · have ha2 : ¬ (0 ≤ a.toInt ∧ a.toInt ≤ 1) := fun q => ha (ch_iff.mp q)
      refine ⟨-1000, ?_, ?_⟩
      · rw [B_images_eq]
        simp only [gI_pI, gI_pL, gI_pR, gL_pI, gL_pL, gL_pR, gR_pI, gR_pL, gR_pR, gS_pI, gS_pL, gS_pR, ↓reduceIte, Nat.reduceEqDiff, decide_eq_true_eq, Option.bind_some, false_and, and_false, true_and, and_true, and_self, Nat.reduceAdd, not_false_eq_true, not_true_eq_false, wS, wR, inI, ite_self, Classical.not_not, ↓bnd (z_isWeek _ _), ↓bnd (z_isChoice _ _), bI_0, hk, ha]
      · rw [M_images_eq]
        simp only [gI_pI, gI_pL, gI_pR, gL_pI, gL_pL, gL_pR, gR_pI, gR_pL, gR_pR, gS_pI, gS_pL, gS_pR, ↓reduceIte, Nat.reduceEqDiff, decide_eq_true_eq, Option.bind_some, false_and, and_false, true_and, and_true, and_self, Nat.reduceAdd, not_false_eq_true, not_true_eq_false, wS, wR, inI, ite_self, Classical.not_not, ↓bnd (zm_in _ _ _ _), ↓bnd (zm_isStar w0 gc e0 _), ↓bnd (zm_isPlate w0 gc e0 _), ↓bnd (zm_isHand _ _), ↓bnd (zm_isWeek _ _), bI_0, hk, ha2, Int32.toInt_toInt64, Int32.reduceToInt, Int64.reduceToInt, tN9, tN299, tN99999, tN9999, tN99, tL9, tL299, tL99999, tL9999, tL99, i1_0, i0_1]
        repeat' split
        all_goals rfl
  · refine ⟨-1000, ?_, ?_⟩
    · rw [B_images_eq]
      simp only [gI_pI, gI_pL, gI_pR, gL_pI, gL_pL, gL_pR, gR_pI, gR_pL, gR_pR, gS_pI, gS_pL, gS_pR, ↓reduceIte, Nat.reduceEqDiff, decide_eq_true_eq, Option.bind_some, false_and, and_false, true_and, and_true, and_self, Nat.reduceAdd, not_false_eq_true, not_true_eq_false, wS, wR, inI, ite_self, Classical.not_not, ↓bnd (z_isWeek _ _), bI_0, hk]
    · rw [M_images_eq]
      simp only [gI_pI, gI_pL, gI_pR, gL_pI, gL_pL, gL_pR, gR_pI, gR_pL, gR_pR, gS_pI, gS_pL, gS_pR, ↓reduceIte, Nat.reduceEqDiff, decide_eq_true_eq, Option.bind_some, false_and, and_false, true_and, and_true, and_self, Nat.reduceAdd, not_false_eq_true, not_true_eq_false, wS, wR, inI, ite_self, Classical.not_not, ↓bnd (zm_isStar w0 gc e0 _), ↓bnd (zm_isPlate w0 gc e0 _), ↓bnd (zm_isHand _ _), ↓bnd (zm_isWeek _ _), bI_0, hk]
      repeat' split
      all_goals rfl
