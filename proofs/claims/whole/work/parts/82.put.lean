/-! dividing downwards; put -/
theorem div_un {A B s : Int} (hB : 0 < B) (h1 : s * B ≤ A) (h2 : A < s * B + B) : A / B = s := by
  have a := Int.ediv_mul_le A (show B ≠ 0 by omega)
  have b := Int.lt_ediv_add_one_mul_self A hB
  rw [Int.add_mul, Int.one_mul] at b
  rcases Int.lt_trichotomy (A / B) s with q | q | q
  · have := Int.mul_le_mul_of_nonneg_right (show A / B + 1 ≤ s by omega) (show 0 ≤ B by omega)
    rw [Int.add_mul, Int.one_mul] at this
    omega
  · exact q
  · have := Int.mul_le_mul_of_nonneg_right (show s + 1 ≤ A / B by omega) (show 0 ≤ B by omega)
    rw [Int.add_mul, Int.one_mul] at this
    omega
theorem td_sp (A : Int) {B : Int} (hB : 0 < B) : A = A.tdiv B * B + A.tmod B ∧ (0 ≤ A → 0 ≤ A.tmod B ∧ A.tmod B < B) ∧ (A < 0 → -B < A.tmod B ∧ A.tmod B ≤ 0) := by
  have e := Int.mul_tdiv_add_tmod A B
  refine ⟨by rw [Int.mul_comm] at e; exact e.symm, fun h => ⟨Int.tmod_nonneg B h, Int.tmod_lt_of_pos A hB⟩, fun h => ?_⟩
  have n := Int.neg_tmod A B
  have h1 := Int.tmod_nonneg B (show 0 ≤ -A by omega)
  have h2 := Int.tmod_lt_of_pos (-A) hB
  omega
theorem fl_td {A B : Int} (hB : 0 < B) : A / B = if 0 ≤ A ∨ A.tdiv B * B = A then A.tdiv B else A.tdiv B - 1 := by
  obtain ⟨e, p, n⟩ := td_sp A hB
  by_cases h : 0 ≤ A
  · rw [if_pos (Or.inl h)]
    have := p h
    exact div_un hB (by omega) (by omega)
  · have := n (by omega)
    by_cases h2 : A.tdiv B * B = A
    · rw [if_pos (Or.inr h2)]
      exact div_un hB (by omega) (by omega)
    · rw [if_neg (fun q => q.elim h h2)]
      refine div_un hB ?_ ?_
      · rw [Int.sub_mul, Int.one_mul]; omega
      · rw [Int.sub_mul, Int.one_mul]; omega
theorem l_xor (x y : Int64) : (x ^^^ y).toInt < 0 ↔ ¬ ((x.toInt < 0) ↔ (y.toInt < 0)) := by
  have e1 : ∀ z : Int64, (z.toInt < 0) ↔ z.toBitVec.msb = true := fun z => by
    have := BitVec.msb_eq_toInt (x := z.toBitVec)
    rw [this, decide_eq_true_eq]
    rfl
  rw [e1, e1, e1, Int64.toBitVec_xor, BitVec.msb_xor]
  cases x.toBitVec.msb <;> cases y.toBitVec.msb <;> simp
theorem td_abs (A : Int) {B : Int} (hB : 0 < B) : (A.tdiv B * B).natAbs ≤ A.natAbs := by
  obtain ⟨e, p, n⟩ := td_sp A hB
  by_cases h : 0 ≤ A
  · have := p h
    have h2 := Int.tdiv_nonneg h (show 0 ≤ B by omega)
    have h3 := Int.mul_nonneg h2 (show 0 ≤ B by omega)
    omega
  · have := n (by omega)
    have h2 : A.tdiv B ≤ 0 := by
      have := Int.tdiv_nonneg (show 0 ≤ -A by omega) (show 0 ≤ B by omega)
      rw [Int.neg_tdiv] at this
      omega
    have h3 := Int.mul_nonneg (show 0 ≤ -(A.tdiv B) by omega) (show 0 ≤ B by omega)
    rw [Int.neg_mul] at h3
    omega
theorem z_floorDiv {A B : Int} (hA : -9223372036854775806 ≤ A ∧ A ≤ 9223372036854775806) (hB : 0 < B ∧ B ≤ 4611686018427387904) (h : ax_H) : Jm_floorDiv (Int64.ofInt A) (Int64.ofInt B) h = some (Int64.ofInt (A / B), h) := by
  have tA := l_toInt (z := A) (by omega)
  have tB := l_toInt (z := B) (by omega)
  have hb := td_abs A hB.1
  have tP := l_toInt (z := A.tdiv B * B) (by omega)
  have c0 : ¬ Int64.ofInt B = 0 := fun q => by
    have : (Int64.ofInt B).toInt = 0 := by rw [q]; rfl
    omega
  have z0 : (0 : Int64).toInt = 0 := rfl
  have e1 : (0 : Int32) ≤ lg_cmp (Int64.ofInt A ^^^ Int64.ofInt B) 0 ↔ 0 ≤ A := by
    rw [lgc_ge, z0]
    have := l_xor (Int64.ofInt A) (Int64.ofInt B)
    rw [tA, tB] at this
    omega
  have e2 : lg_cmp (Int64.ofInt (A.tdiv B) * Int64.ofInt B) (Int64.ofInt A) = 0 ↔ A.tdiv B * B = A := by
    rw [← Int64.ofInt_mul, lgc_eq, tP, tA]
  rw [Jm_floorDiv_eq, fl_td hB.1]
  simp only [c0, ↓reduceIte, l_tdiv (a := A) (b := B) (by omega) (by omega), decide_eq_true_eq, e1, e2]
  by_cases q : 0 ≤ A
  · rw [if_pos q, if_pos (Or.inl q)]
  · by_cases q2 : A.tdiv B * B = A
    · rw [if_neg q, if_pos q2, if_pos (Or.inr q2)]
    · rw [if_neg q, if_neg q2, if_neg (fun z => z.elim q q2), show (1 : Int64) = Int64.ofInt 1 from rfl, ← Int64.ofInt_sub]
theorem zm_floorOf {A B : Int} (hA : -9223372036854775806 ≤ A ∧ A ≤ 9223372036854775806) (hB : 0 < B ∧ B ≤ 4611686018427387904) (h : ax_H) : M_floorOf (Int64.ofInt A) (Int64.ofInt B) h = some (Int64.ofInt (A / B), h) := by
  have tB := l_toInt (z := B) (by omega)
  obtain ⟨e, p, n⟩ := td_sp A hB.1
  have c0 : ¬ Int64.ofInt B = 0 := fun q => by
    have : (Int64.ofInt B).toInt = 0 := by rw [q]; rfl
    omega
  have z0 : (0 : Int64).toInt = 0 := rfl
  have tM : (Int64.ofInt (A - A.tdiv B * B)).toInt = A - A.tdiv B * B := l_toInt (by
    by_cases q : 0 ≤ A
    · have := p q; omega
    · have := n (by omega); omega)
  have e1 : (0 : Int32) ≤ lg_cmp (Int64.ofInt A - Int64.ofInt (A.tdiv B) * Int64.ofInt B) 0 ↔ (0 ≤ A ∨ A.tdiv B * B = A) := by
    rw [← Int64.ofInt_mul, ← Int64.ofInt_sub, lgc_ge, z0, tM]
    by_cases q : 0 ≤ A
    · have := p q; omega
    · have := n (by omega); omega
  rw [M_floorOf_eq, fl_td hB.1]
  simp only [c0, ↓reduceIte, l_tdiv (a := A) (b := B) (by omega) (by omega), decide_eq_true_eq, e1]
  by_cases q : 0 ≤ A ∨ A.tdiv B * B = A
  · rw [if_pos q, if_pos q]
  · rw [if_neg q, if_neg q, show (1 : Int64) = Int64.ofInt 1 from rfl, ← Int64.ofInt_sub]
theorem th_div (A : Int) {B : Int} (hB : 0 < B) : (1000 * A) / B = (A / B) * 1000 + ((A - A / B * B) * 1000) / B ∧ 0 ≤ A - A / B * B ∧ A - A / B * B < B ∧ 0 ≤ ((A - A / B * B) * 1000) / B ∧ ((A - A / B * B) * 1000) / B < 1000 := by
  have a := Int.ediv_mul_le A (show B ≠ 0 by omega)
  have b := Int.lt_ediv_add_one_mul_self A hB
  rw [Int.add_mul, Int.one_mul] at b
  have e : 1000 * A = (A - A / B * B) * 1000 + (A / B * 1000) * B := by grind
  have c1 := Int.ediv_nonneg (show 0 ≤ (A - A / B * B) * 1000 by omega) (show 0 ≤ B by omega)
  have c2 : ((A - A / B * B) * 1000) / B < 1000 := Int.ediv_lt_of_lt_mul hB (by omega)
  refine ⟨?_, by omega, by omega, c1, c2⟩
  rw [e, Int.add_mul_ediv_right _ _ (show B ≠ 0 by omega)]
  omega
theorem l_i32 {z : Int} (h : -1073741824 ≤ z ∧ z ≤ 1073741824) : Int64.toInt32 (Int64.ofInt z) = Int32.ofInt z := by
  rw [← Int32.toInt_inj, Int64.toInt_toInt32, l_toInt (by omega), i_toInt (by omega), Int.bmod_eq_of_le (by omega) (by omega)]
def ptP (A B : Int) : Prop := 0 < B ∧ -99999999 ≤ (1000 * A) / B ∧ (1000 * A) / B ≤ 99999999
theorem z_put_y {h : ax_H} (w : ok h) {t : Nat} (ht : t < 6) {A B : Int} (hA : -9223372036854775806 ≤ A ∧ A ≤ 9223372036854775806) (hB : B ≤ 1701000000000000) (hp : ptP A B) : Ft_put 99 (nI t) (Int64.ofInt A) (Int64.ofInt B) h = some (1, pI h 101 t (Int32.ofInt ((1000 * A) / B))) := by
  obtain ⟨p1, p2, p3⟩ := hp
  obtain ⟨d1, d2, d3, d4, d5⟩ := th_div A p1
  have hF := z_floorDiv hA (B := B) (by omega) h
  obtain ⟨wS, wR, wG, wN⟩ := w
  have z0 : (0 : Int64).toInt = 0 := rfl
  have t9 : (99999999 : Int64).toInt = 99999999 := rfl
  have t8 : (-99999999 : Int64).toInt = -99999999 := rfl
  have tW := l_toInt (z := A / B) (by omega)
  have c1 : (0 : Int32) < lg_cmp (Int64.ofInt B) 0 := by rw [lgc_gt, l_toInt (by omega), z0]; exact p1
  have c2 : ¬ (0 : Int32) < lg_cmp (Int64.ofInt (A / B)) 99999999 := by rw [lgc_gt, tW, t9]; omega
  have c3 : (0 : Int32) ≤ lg_cmp (Int64.ofInt (A / B)) (-99999999) := by rw [lgc_ge, tW, t8]; omega
  have c4 : ¬ Int64.ofInt B = 0 := fun q => by
    have : (Int64.ofInt B).toInt = 0 := by rw [q]; rfl
    rw [l_toInt (by omega)] at this
    omega
  have e1 : Int64.ofInt (A / B) * 1000 + (Int64.ofInt A - Int64.ofInt (A / B) * Int64.ofInt B) * 1000 / Int64.ofInt B = Int64.ofInt ((1000 * A) / B) := by
    rw [show (1000 : Int64) = Int64.ofInt 1000 from rfl, ← Int64.ofInt_mul, ← Int64.ofInt_mul, ← Int64.ofInt_sub, ← Int64.ofInt_mul, l_tdiv (by omega) (by omega), ← Int64.ofInt_add, d1, Int.tdiv_eq_ediv_of_nonneg (by omega)]
  have c5 : ¬ (0 : Int32) < lg_cmp (Int64.ofInt ((1000 * A) / B)) 99999999 := by rw [lgc_gt, l_toInt (by omega), t9]; omega
  have c6 : (0 : Int32) ≤ lg_cmp (Int64.ofInt ((1000 * A) / B)) (-99999999) := by rw [lgc_ge, l_toInt (by omega), t8]; omega
  have tn : (nI t).toNatClampNeg = t := nJ_n (by omega)
  have nn : ¬ nI t < 0 := nJ_nn (by omega)
  rw [Ft_put_eq]
  simp only [gI_pI, gI_pL, gI_pR, gL_pI, gL_pL, gL_pR, gR_pI, gR_pL, gR_pR, gS_pI, gS_pL, gS_pR, ↓reduceIte, Nat.reduceEqDiff, decide_eq_true_eq, Option.bind_some, false_and, and_false, true_and, and_true, and_self, Nat.reduceAdd, not_false_eq_true, not_true_eq_false, wS, wR, inI, ite_self, Classical.not_not, c1, ↓bnd hF, c2, c3, c4, e1, c5, c6, ax_in, tn, nn, ht, l_i32 (z := (1000 * A) / B) (by omega)]
theorem z_put_n {h : ax_H} {t : Int32} {A B : Int} (hA : -9223372036854775806 ≤ A ∧ A ≤ 9223372036854775806) (hB : 0 ≤ B ∧ B ≤ 1701000000000000) (hp : ¬ ptP A B) : Ft_put 99 t (Int64.ofInt A) (Int64.ofInt B) h = some (0, h) := by
  have z0 : (0 : Int64).toInt = 0 := rfl
  have t9 : (99999999 : Int64).toInt = 99999999 := rfl
  have t8 : (-99999999 : Int64).toInt = -99999999 := rfl
  by_cases p1 : 0 < B
  case neg =>
    have c1 : ¬ (0 : Int32) < lg_cmp (Int64.ofInt B) 0 := by rw [lgc_gt, l_toInt (by omega), z0]; exact p1
    rw [Ft_put_eq]
    simp only [c1, decide_false, Bool.false_eq_true, ↓reduceIte]
  have hF := z_floorDiv hA (B := B) (by omega) h
  obtain ⟨d1, d2, d3, d4, d5⟩ := th_div A p1
  have hw : (A / B).natAbs ≤ A.natAbs := Int.natAbs_ediv_le_natAbs A B
  have tW := l_toInt (z := A / B) (by omega)
  have c1 : (0 : Int32) < lg_cmp (Int64.ofInt B) 0 := by rw [lgc_gt, l_toInt (by omega), z0]; exact p1
  by_cases q1 : 99999999 < A / B
  · have c2 : (0 : Int32) < lg_cmp (Int64.ofInt (A / B)) 99999999 := by rw [lgc_gt, tW, t9]; exact q1
    rw [Ft_put_eq]
    simp only [decide_eq_true_eq, c1, ↓bnd hF, c2, ↓reduceIte]
  have c2 : ¬ (0 : Int32) < lg_cmp (Int64.ofInt (A / B)) 99999999 := by rw [lgc_gt, tW, t9]; exact q1
  by_cases q2 : -99999999 ≤ A / B
  case neg =>
    have c3 : ¬ (0 : Int32) ≤ lg_cmp (Int64.ofInt (A / B)) (-99999999) := by rw [lgc_ge, tW, t8]; exact q2
    rw [Ft_put_eq]
    simp only [decide_eq_true_eq, c1, ↓bnd hF, c2, c3, ↓reduceIte]
  have c3 : (0 : Int32) ≤ lg_cmp (Int64.ofInt (A / B)) (-99999999) := by rw [lgc_ge, tW, t8]; exact q2
  have c4 : ¬ Int64.ofInt B = 0 := fun q => by
    have : (Int64.ofInt B).toInt = 0 := by rw [q]; rfl
    rw [l_toInt (by omega)] at this
    omega
  have e1 : Int64.ofInt (A / B) * 1000 + (Int64.ofInt A - Int64.ofInt (A / B) * Int64.ofInt B) * 1000 / Int64.ofInt B = Int64.ofInt ((1000 * A) / B) := by
    rw [show (1000 : Int64) = Int64.ofInt 1000 from rfl, ← Int64.ofInt_mul, ← Int64.ofInt_mul, ← Int64.ofInt_sub, ← Int64.ofInt_mul, l_tdiv (by omega) (by omega), ← Int64.ofInt_add, d1, Int.tdiv_eq_ediv_of_nonneg (by omega)]
  have tX := l_toInt (z := (1000 * A) / B) (by omega)
  rw [Ft_put_eq]
  by_cases q3 : 99999999 < (1000 * A) / B
  · have c5 : (0 : Int32) < lg_cmp (Int64.ofInt ((1000 * A) / B)) 99999999 := by rw [lgc_gt, tX, t9]; exact q3
    simp only [decide_eq_true_eq, c1, ↓bnd hF, c2, c3, c4, e1, c5, ↓reduceIte]
  · have c5 : ¬ (0 : Int32) < lg_cmp (Int64.ofInt ((1000 * A) / B)) 99999999 := by rw [lgc_gt, tX, t9]; exact q3
    have c6 : ¬ (0 : Int32) ≤ lg_cmp (Int64.ofInt ((1000 * A) / B)) (-99999999) := by
      rw [lgc_ge, tX, t8]
      intro z
      exact hp ⟨p1, z, by omega⟩
    simp only [decide_eq_true_eq, c1, ↓bnd hF, c2, c3, c4, e1, c5, c6, ↓reduceIte]
