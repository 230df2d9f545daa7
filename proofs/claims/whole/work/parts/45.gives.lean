/-! what terms give a star, an image -/
abbrev sx (V : BV) (s : Nat) : Int := (V 67 s).toInt
abbrev sy (V : BV) (s : Nat) : Int := (V 68 s).toInt
theorem lgt {x y a : Int32} (hx : inI x (-9) 9) (hy : inI y (-9) 9) (ha : inI a (-9) 9) : 40 * a / (x * x + y * y) = Int32.ofInt ((40 * a.toInt).tdiv (x.toInt * x.toInt + y.toInt * y.toInt)) := by
  have hx2 := sq_bd hx
  have hy2 := sq_bd hy
  have hx3 := sq_nn x.toInt
  have hy3 := sq_nn y.toInt
  have e1 : 40 * a = Int32.ofInt (40 * a.toInt) := by rw [Int32.ofInt_mul, Int32.ofInt_toInt]; rfl
  have e2 : x * x + y * y = Int32.ofInt (x.toInt * x.toInt + y.toInt * y.toInt) := by rw [Int32.ofInt_add, Int32.ofInt_mul, Int32.ofInt_mul, Int32.ofInt_toInt, Int32.ofInt_toInt]
  rw [e1, e2, i_tdiv (by omega) (by omega)]
theorem far_pos {x y : Int32} (hx : inI x (-9) 9) (hy : inI y (-9) 9) (hn : ¬ (x = 0 ∧ y = 0)) : ¬ x * x + y * y = 0 := by
  have hx2 := sq_bd hx
  have hy2 := sq_bd hy
  have hx3 := sq_nn x.toInt
  have hy3 := sq_nn y.toInt
  have e2 : x * x + y * y = Int32.ofInt (x.toInt * x.toInt + y.toInt * y.toInt) := by rw [Int32.ofInt_add, Int32.ofInt_mul, Int32.ofInt_mul, Int32.ofInt_toInt, Int32.ofInt_toInt]
  rw [e2, i32_eq, i_toInt (by omega)]
  intro q
  replace q : x.toInt * x.toInt + y.toInt * y.toInt = 0 := q
  have q1 : x.toInt = 0 := by
    have : x.toInt * x.toInt = 0 := by omega
    rcases Int.mul_eq_zero.mp this with h | h <;> exact h
  have q2 : y.toInt = 0 := by
    have : y.toInt * y.toInt = 0 := by omega
    rcases Int.mul_eq_zero.mp this with h | h <;> exact h
  exact hn ⟨i32_eq.mpr q1, i32_eq.mpr q2⟩
section
theorem z_far {h : ax_H} (w : ok h) {s : Nat} (hs : s < 30) : St_far 66 (nI s) h = some (V h 67 s * V h 67 s + V h 68 s * V h 68 s, h) := by
  obtain ⟨wS, wR, wG, wN⟩ := w
  rw [St_far_eq]
  simp (disch := omega) only [gI_pI, gI_pL, gI_pR, gL_pI, gL_pL, gL_pR, gR_pI, gR_pL, gR_pR, gS_pI, gS_pL, gS_pR, ↓reduceIte, Nat.reduceEqDiff, decide_eq_true_eq, Option.bind_some, false_and, and_false, true_and, and_true, and_self, Nat.reduceAdd, not_false_eq_true, not_true_eq_false, wS, wR, cV65, cV66, cV67, cV68, cV69, cV70, cV71, cV72, cV73, cV74, cV75, cV76, cV77, cV78, cV79, cV80, cV81, cV82, cV83, cV84, cV85, cV86, cV87, cV88, cV89, cV90, ax_in, nJ_nn, nJ_n, hs]
theorem zm_far {h : ax_H} (w : ok h) (e : EQ h) {s : Nat} (hs : s < 30) : M_far 159 (nI s) h = some (V h 67 s * V h 67 s + V h 68 s * V h 68 s, h) := by
  obtain ⟨wS, wR, wG, wN⟩ := w
  unfold EQ at e
  rw [M_far_eq]
  simp (disch := omega) only [gI_pI, gI_pL, gI_pR, gL_pI, gL_pL, gL_pR, gR_pI, gR_pL, gR_pR, gS_pI, gS_pL, gS_pR, ↓reduceIte, Nat.reduceEqDiff, decide_eq_true_eq, Option.bind_some, false_and, and_false, true_and, and_true, and_self, Nat.reduceAdd, not_false_eq_true, not_true_eq_false, wS, wR, e, ax_in, nJ_nn, nJ_n, hs]
end
section
set_option maxHeartbeats 1000000 in
theorem z_give {h : ax_H} (w : ok h) (gc : GC (V h)) (gs : GS (V h)) {t s ax : Nat} (ht : t < 6) (hs : s < nS (V h)) (ha : ax < 2) : St_give 66 (nI t) (nI s) (nI ax) h = some (Int32.ofInt (gz t (sx (V h) s) (sy (V h) s) ax), h) := by
  obtain ⟨wS, wR, wG, wN⟩ := w
  obtain ⟨g1, g2, g3, -⟩ := gs s hs
  have hs2 : s < 30 := by have := cnts gc; omega
  have f0 := far_pos g1 g2 g3
  have l1 := lgt g1 g2 g1
  have l2 := lgt g1 g2 g2
  rw [St_give_eq]
  simp (disch := omega) only [gI_pI, gI_pL, gI_pR, gL_pI, gL_pL, gL_pR, gR_pI, gR_pL, gR_pR, gS_pI, gS_pL, gS_pR, ↓reduceIte, Nat.reduceEqDiff, decide_eq_true_eq, Option.bind_some, false_and, and_false, true_and, and_true, and_self, Nat.reduceAdd, not_false_eq_true, not_true_eq_false, wS, wR, cV65, cV66, cV67, cV68, cV69, cV70, cV71, cV72, cV73, cV74, cV75, cV76, cV77, cV78, cV79, cV80, cV81, cV82, cV83, cV84, cV85, cV86, cV87, cV88, cV89, cV90, ax_in, St_give_19_eq, nJ_nn, nJ_n, hs2, f0, l1, l2]
  match t, ht, ax, ha with
  | 0, _, 0, _ => rfl
  | 0, _, 1, _ => rfl
  | 1, _, 0, _ => rfl
  | 1, _, 1, _ => rfl
  | 2, _, 0, _ => exact congrArg (fun z => some (z, h)) (i_of _)
  | 2, _, 1, _ => exact congrArg (fun z => some (z, h)) (i_of _)
  | 3, _, 0, _ => exact congrArg (fun z => some (z, h)) (by show - V h 68 s = Int32.ofInt (-(V h 68 s).toInt); rw [Int32.ofInt_neg, Int32.ofInt_toInt])
  | 3, _, 1, _ => exact congrArg (fun z => some (z, h)) (i_of _)
  | 4, _, 0, _ => rfl
  | 4, _, 1, _ => rfl
  | 5, _, 0, _ => exact congrArg (fun z => some (z, h)) (by show V h 67 s * V h 68 s = Int32.ofInt ((V h 67 s).toInt * (V h 68 s).toInt); rw [Int32.ofInt_mul, Int32.ofInt_toInt, Int32.ofInt_toInt])
  | 5, _, 1, _ => rfl
set_option maxHeartbeats 1000000 in
theorem zm_given {h : ax_H} (w : ok h) (gc : GC (V h)) (gs : GS (V h)) (e : EQ h) {t s ax : Nat} (ht : t < 6) (hs : s < nS (V h)) (ha : ax < 2) : M_given 159 (nI t) (nI s) (nI ax) h = some (Int32.ofInt (gz t (sx (V h) s) (sy (V h) s) ax), h) := by
  have w0 := w
  have e0 := e
  obtain ⟨wS, wR, wG, wN⟩ := w
  unfold EQ at e
  obtain ⟨g1, g2, g3, -⟩ := gs s hs
  have hs2 : s < 30 := by have := cnts gc; omega
  have f0 := far_pos g1 g2 g3
  have l1 := lgt g1 g2 g1
  have l2 := lgt g1 g2 g2
  rw [M_given_eq]
  simp (disch := omega) only [gI_pI, gI_pL, gI_pR, gL_pI, gL_pL, gL_pR, gR_pI, gR_pL, gR_pR, gS_pI, gS_pL, gS_pR, ↓reduceIte, Nat.reduceEqDiff, decide_eq_true_eq, Option.bind_some, false_and, and_false, true_and, and_true, and_self, Nat.reduceAdd, not_false_eq_true, not_true_eq_false, wS, wR, e, ax_in, nJ_nn, nJ_n, hs2, f0, l1, l2, zm_far w0 e0 hs2]
  match t, ht, ax, ha with
  | 0, _, 0, _ => rfl
  | 0, _, 1, _ => rfl
  | 1, _, 0, _ => rfl
  | 1, _, 1, _ => rfl
  | 2, _, 0, _ => exact congrArg (fun z => some (z, h)) (i_of _)
  | 2, _, 1, _ => exact congrArg (fun z => some (z, h)) (i_of _)
  | 3, _, 0, _ => exact congrArg (fun z => some (z, h)) (by show - V h 68 s = Int32.ofInt (-(V h 68 s).toInt); rw [Int32.ofInt_neg, Int32.ofInt_toInt])
  | 3, _, 1, _ => exact congrArg (fun z => some (z, h)) (i_of _)
  | 4, _, 0, _ => rfl
  | 4, _, 1, _ => rfl
  | 5, _, 0, _ => exact congrArg (fun z => some (z, h)) (by show V h 67 s * V h 68 s = Int32.ofInt ((V h 67 s).toInt * (V h 68 s).toInt); rw [Int32.ofInt_mul, Int32.ofInt_toInt, Int32.ofInt_toInt])
  | 5, _, 1, _ => rfl
end
theorem gMx_81 (t : Nat) : gMx t ≤ 81 ∧ 0 ≤ gMx t := by
  unfold gMx
  repeat' split
  all_goals omega
/-- of an image -/
def gi (V : BV) (t i ax : Nat) : Int := if t = 4 ∧ V 72 (V 75 i).toInt.toNat = 1 then 0 else gz t (sx V (V 76 i).toInt.toNat) (sy V (V 76 i).toInt.toNat) ax
theorem gi_bd {V : BV} (gc : GC V) (gs : GS V) (gi' : GI V) {t : Nat} (ht : t < 6) {i : Nat} (hi : i < nM V) : (-gMx t ≤ gi V t i 0 ∧ gi V t i 0 ≤ gMx t) ∧ (-gMx t ≤ gi V t i 1 ∧ gi V t i 1 ≤ gMx t) ∧ gi V t i 0 * gi V t i 0 + gi V t i 1 * gi V t i 1 ≤ kMx t := by
  obtain ⟨g1, g2, g3⟩ := gi'
  have hp := g1 i hi
  have hcn := cnts gc
  obtain ⟨s1, s2, s3, -⟩ := gs (V 76 i).toInt.toNat (by omega)
  have hb := gz_bd ht s1 s2 (fun q => s3 ⟨i32_eq.mpr q.1, i32_eq.mpr q.2⟩)
  unfold gi
  by_cases hc : t = 4 ∧ V 72 (V 75 i).toInt.toNat = 1
  · rw [if_pos hc, if_pos hc]
    rw [hc.1]
    decide
  · rw [if_neg hc, if_neg hc]
    exact ⟨hb.1, hb.2.1, hb.2.2.1⟩
section
theorem z_kindOf {h : ax_H} (w : ok h) (g : GV (V h)) {i : Nat} (hi : i < nM (V h)) : Bk_kindOf 65 (nI i) h = some (V h 72 (V h 75 i).toInt.toNat, h) := by
  obtain ⟨wS, wR, wG, wN⟩ := w
  obtain ⟨gc, gs, gp, gI, -⟩ := g
  have hcn := cnts gc
  have hi2 : i < 100 := by have := cnts gc; omega
  obtain ⟨p, hp, hp2, hp3, hp4⟩ := nI_ex (gI.1 i hi).1
  have hp5 : p < 16 := by have := cnts gc; omega
  have hp6 : (V h 75 i).toInt.toNat = p := by omega
  rw [Bk_kindOf_eq, hp6]
  simp (disch := omega) only [gI_pI, gI_pL, gI_pR, gL_pI, gL_pL, gL_pR, gR_pI, gR_pL, gR_pR, gS_pI, gS_pL, gS_pR, ↓reduceIte, Nat.reduceEqDiff, decide_eq_true_eq, Option.bind_some, false_and, and_false, true_and, and_true, and_self, Nat.reduceAdd, not_false_eq_true, not_true_eq_false, wS, wR, cV65, cV66, cV67, cV68, cV69, cV70, cV71, cV72, cV73, cV74, cV75, cV76, cV77, cV78, cV79, cV80, cV81, cV82, cV83, cV84, cV85, cV86, cV87, cV88, cV89, cV90, ax_in, nJ_nn, nJ_n, hi2, hp, hp5]
theorem z_termOf {h : ax_H} (w : ok h) (g : GV (V h)) {t i ax : Nat} (ht : t < 6) (hi : i < nM (V h)) (ha : ax < 2) : Bk_termOf 65 (nI t) (nI i) (nI ax) h = some (Int32.ofInt (gi (V h) t i ax), h) := by
  have w0 := w
  have g0 := g
  obtain ⟨wS, wR, wG, wN⟩ := w
  obtain ⟨gc, gs, gp, gI, -⟩ := g
  have hcn := cnts gc
  have hi2 : i < 100 := by have := cnts gc; omega
  obtain ⟨s, hp, hp2, hp3, hp4⟩ := nI_ex (gI.1 i hi).2.1
  have hp6 : (V h 76 i).toInt.toNat = s := by omega
  rw [Bk_termOf_eq]
  simp (disch := omega) only [gI_pI, gI_pL, gI_pR, gL_pI, gL_pL, gL_pR, gR_pI, gR_pL, gR_pR, gS_pI, gS_pL, gS_pR, ↓reduceIte, Nat.reduceEqDiff, decide_eq_true_eq, Option.bind_some, false_and, and_false, true_and, and_true, and_self, Nat.reduceAdd, not_false_eq_true, not_true_eq_false, wS, wR, cV65, cV66, cV67, cV68, cV69, cV70, cV71, cV72, cV73, cV74, cV75, cV76, cV77, cV78, cV79, cV80, cV81, cV82, cV83, cV84, cV85, cV86, cV87, cV88, cV89, cV90, ax_in, nJ_nn, nJ_n, hi2, hp, z_kindOf w0 g0 hi, z_give w0 gc gs ht (s := s) (by omega) ha, show (4 : Int32) = nI 4 from rfl, nJ_eq]
  unfold gi
  rw [hp6]
  by_cases h4 : t = 4
  · by_cases hk : V h 72 (V h 75 i).toInt.toNat = 1
    · rw [if_neg (not_not_intro h4), if_neg (not_not_intro hk), if_pos ⟨h4, hk⟩]; rfl
    · rw [if_neg (not_not_intro h4), if_pos hk, if_neg (fun q => hk q.2)]
  · rw [if_pos h4, if_neg (fun q => h4 q.1)]
theorem zm_givenOn {h : ax_H} (w : ok h) (g : GV (V h)) (e : EQ h) {t i ax : Nat} (ht : t < 6) (hi : i < nM (V h)) (ha : ax < 2) : M_givenOn 159 (nI t) (nI i) (nI ax) h = some (Int64.ofInt (gi (V h) t i ax), h) := by
  have w0 := w
  have g0 := g
  have e0 := e
  unfold EQ at e
  obtain ⟨wS, wR, wG, wN⟩ := w
  obtain ⟨gc, gs, gp, gI, -⟩ := g
  have hcn := cnts gc
  have hi2 : i < 100 := by have := cnts gc; omega
  obtain ⟨s, hp, hp2, hp3, hp4⟩ := nI_ex (gI.1 i hi).2.1
  have hp6 : (V h 76 i).toInt.toNat = s := by omega
  obtain ⟨p, hq, hq2, hq3, hq4⟩ := nI_ex (gI.1 i hi).1
  have hq5 : p < 16 := by have := cnts gc; omega
  have hq6 : (V h 75 i).toInt.toNat = p := by omega
  obtain ⟨s1, s2, s3, -⟩ := gs s (by omega)
  have hb := gz_bd ht s1 s2 (fun q => s3 ⟨i32_eq.mpr q.1, i32_eq.mpr q.2⟩)
  have hm := gMx_81 t
  have hL : (Int32.ofInt (gz t (sx (V h) s) (sy (V h) s) ax)).toInt64 = Int64.ofInt (gz t (sx (V h) s) (sy (V h) s) ax) := i_toL (by
    match ax, ha with
    | 0, _ => simp only [sx, sy]; omega
    | 1, _ => simp only [sx, sy]; omega)
  rw [M_givenOn_eq]
  simp (disch := omega) only [gI_pI, gI_pL, gI_pR, gL_pI, gL_pL, gL_pR, gR_pI, gR_pL, gR_pR, gS_pI, gS_pL, gS_pR, ↓reduceIte, Nat.reduceEqDiff, decide_eq_true_eq, Option.bind_some, false_and, and_false, true_and, and_true, and_self, Nat.reduceAdd, not_false_eq_true, not_true_eq_false, wS, wR, e, ax_in, nJ_nn, nJ_n, hi2, hp, hq, hq5, zm_given w0 gc gs e0 ht (s := s) (by omega) ha, show (4 : Int32) = nI 4 from rfl, nJ_eq, hL]
  unfold gi
  rw [hp6, hq6]
  by_cases h4 : t = 4
  · by_cases hk : V h 72 p = 1
    · rw [if_neg (not_not_intro h4), if_neg (not_not_intro hk), if_pos ⟨h4, hk⟩]; rfl
    · rw [if_neg (not_not_intro h4), if_pos hk, if_neg (fun q => hk q.2)]
  · rw [if_pos h4, if_neg (fun q => h4 q.1)]
end
