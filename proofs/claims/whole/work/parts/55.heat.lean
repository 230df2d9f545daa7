/-! heat -/
theorem l64_add {a b : Int64} (h : -9223372036854775808 ≤ a.toInt + b.toInt ∧ a.toInt + b.toInt < 9223372036854775808) : (a + b).toInt = a.toInt + b.toInt := by
  rw [Int64.toInt_add, Int.bmod_eq_of_le (by omega) (by omega)]
theorem l64_mul {a b : Int64} (h : -9223372036854775808 ≤ a.toInt * b.toInt ∧ a.toInt * b.toInt < 9223372036854775808) : (a * b).toInt = a.toInt * b.toInt := by
  rw [Int64.toInt_mul, Int.bmod_eq_of_le (by omega) (by omega)]
theorem wm_bd {V : BV} (g : GK V) {p : Nat} (hp : inI (V 71 p) 0 3) {ht li : Int32} (h1 : inI ht 0 99) (h2 : inI li 0 99999) {t : Nat} (ht6 : t < 6) : -99999 ≤ (wm V p ht li t).toInt ∧ (wm V p ht li t).toInt ≤ 99999 := by
  unfold wm
  split
  · split
    · exact ⟨by decide, by decide⟩
    · omega
  · have g1 := g.1 (6 * (V 71 p).toInt.toNat + t) (by omega)
    have m := mul_bd (x := ht.toInt) (y := (V 89 (6 * (V 71 p).toInt.toNat + t)).toInt) (k := 99) (m := 99) (by omega) (by omega)
    have e1 : (ht * V 89 (6 * (V 71 p).toInt.toNat + t)).toInt = ht.toInt * (V 89 (6 * (V 71 p).toInt.toNat + t)).toInt := i32_mul (by omega) (by omega)
    rw [i32_add (by omega) (by omega), e1]
    omega
theorem sumT_bd {F : Nat → Int32} {B : Int} (hB : 0 ≤ B) : ∀ (k t : Nat) (a : Int32) (A : Int), 0 ≤ A → A + k * B < 2147483648 → (-A ≤ a.toInt ∧ a.toInt ≤ A) → (∀ u, t ≤ u → u < t + k → -B ≤ (F u).toInt ∧ (F u).toInt ≤ B) → -(A + k * B) ≤ (sumT F k t a).toInt ∧ (sumT F k t a).toInt ≤ A + k * B
  | 0, _, a, A, hA, _, ha, _ => by rw [sumT]; simp only [Int.natCast_zero, Int.zero_mul, Int.add_zero]; exact ha
  | k + 1, t, a, A, hA, hl, ha, hF => by
    have hf := hF t (by omega) (by omega)
    have e1 : ((k + 1 : Nat) : Int) * B = k * B + B := by rw [Int.natCast_add, Int.add_mul]; simp
    have hk : 0 ≤ (k : Int) * B := Int.mul_nonneg (by omega) hB
    rw [e1] at hl ⊢
    have e2 : (a + F t).toInt = a.toInt + (F t).toInt := i32_add (by omega) (by omega)
    have := sumT_bd hB k (t + 1) (a + F t) (A + B) (by omega) (by omega) (by rw [e2]; omega) (fun u h1 h2 => hF u (by omega) (by omega))
    rw [sumT]
    omega
theorem stV_bd {V : BV} (g : GV V) {p s ax : Nat} (hp : p < nP V) (hs : s < nS V) (ha : ax < 2) {ht li : Int32} (h1 : inI ht 0 99) (h2 : inI li 0 99999) : -48599514 ≤ (stV V p ht li s ax).toInt ∧ (stV V p ht li s ax).toInt ≤ 48599514 := by
  have key := sumT_bd (F := stF V p ht li s ax) (B := 8099919) (by omega) 6 0 0 0 (by omega) (by omega) ⟨by decide, by decide⟩ (fun u _ hu => by
    obtain ⟨s1, s2, s3, -⟩ := g.2.1 s hs
    have hb := gz_bd (t := u) (by omega) s1 s2 (fun q => s3 ⟨i32_eq.mpr q.1, i32_eq.mpr q.2⟩)
    have hm := gMx_81 u
    have hz : -81 ≤ gz u (sx V s) (sy V s) ax ∧ gz u (sx V s) (sy V s) ax ≤ 81 := by
      match ax, ha with
      | 0, _ => simp only [sx, sy]; omega
      | 1, _ => simp only [sx, sy]; omega
    have hw := wm_bd g.2.2.2.2.2.2 (g.2.2.1 p hp).1 h1 h2 (t := u) (by omega)
    have m := mul_bd (x := (wm V p ht li u).toInt) (y := gz u (sx V s) (sy V s) ax) (k := 99999) (m := 81) (by omega) (by omega)
    have e0 : (Int32.ofInt (gz u (sx V s) (sy V s) ax)).toInt = gz u (sx V s) (sy V s) ax := i_toInt (by omega)
    have e1 : (wm V p ht li u * Int32.ofInt (gz u (sx V s) (sy V s) ax)).toInt = (wm V p ht li u).toInt * gz u (sx V s) (sy V s) ax := by
      rw [i32_mul (by rw [e0]; omega) (by rw [e0]; omega), e0]
    unfold stF
    rw [Int32.toInt_div_of_ne_right _ _ (by decide), e1]
    exact tdiv_bd (by omega) (by decide))
  unfold stV
  omega
theorem offX_bd {V : BV} (g : GV V) {p : Nat} (hp : p < nP V) {i : Nat} (hi : i < nM V) {ax : Nat} (ha : ax < 2) {ht li : Int32} (h1 : inI ht 0 99) (h2 : inI li 0 99999) : -48600000 ≤ (offX V p ht li i ax).toInt ∧ (offX V p ht li i ax).toInt ≤ 48600000 := by
  have hcn := cnts g.1
  have gi := g.2.2.2.1.1 i hi
  have hb := stV_bd g hp (s := (V 76 i).toInt.toNat) (by omega) ha h1 h2
  unfold offX
  rw [Int32.toInt_toInt64]
  by_cases h0 : ax = 0
  · rw [if_pos h0, i32_sub (by omega) (by omega)]; omega
  · rw [if_neg h0, i32_sub (by omega) (by omega)]; omega
theorem sqF_nn {V : BV} (g : GV V) {p : Nat} (hp : p < nP V) {kn ht li : Int32} (h1 : inI ht 0 99) (h2 : inI li 0 99999) (k : Nat) : ∀ (i : Nat) (a : Int64), i + k ≤ nM V → 0 ≤ a.toInt → a.toInt ≤ (i : Int) * 4723920000000000 → 0 ≤ (sqF V p kn ht li k i a).toInt := by
  have hcn := cnts g.1
  induction k with
  | zero => intro i a _ ha _; exact ha
  | succ k ih =>
    intro i a hi ha hb
    have hb' : ((i + 1 : Nat) : Int) * 4723920000000000 = (i : Int) * 4723920000000000 + 4723920000000000 := by omega
    rw [sqF]
    split
    · have x1 := offX_bd g hp (i := i) (by omega) (ax := 0) (by omega) h1 h2
      have x2 := offX_bd g hp (i := i) (by omega) (ax := 1) (by omega) h1 h2
      have m1 := sq_bd x1
      have m2 := sq_bd x2
      have n1 := sq_nn (offX V p ht li i 0).toInt
      have n2 := sq_nn (offX V p ht li i 1).toInt
      have e1 : (offX V p ht li i 0 * offX V p ht li i 0).toInt = (offX V p ht li i 0).toInt * (offX V p ht li i 0).toInt := l64_mul (by omega)
      have e2 : (offX V p ht li i 1 * offX V p ht li i 1).toInt = (offX V p ht li i 1).toInt * (offX V p ht li i 1).toInt := l64_mul (by omega)
      have e3 : (offX V p ht li i 0 * offX V p ht li i 0 + offX V p ht li i 1 * offX V p ht li i 1).toInt = (offX V p ht li i 0).toInt * (offX V p ht li i 0).toInt + (offX V p ht li i 1).toInt * (offX V p ht li i 1).toInt := by rw [l64_add (by rw [e1, e2]; omega), e1, e2]
      have e4 : (a + (offX V p ht li i 0 * offX V p ht li i 0 + offX V p ht li i 1 * offX V p ht li i 1)).toInt = a.toInt + ((offX V p ht li i 0).toInt * (offX V p ht li i 0).toInt + (offX V p ht li i 1).toInt * (offX V p ht li i 1).toInt) := by rw [l64_add (by rw [e3]; omega), e3]
      exact ih (i + 1) _ (by omega) (by rw [e4]; omega) (by rw [e4]; omega)
    · exact ih (i + 1) a (by omega) ha (by omega)
theorem sqV_nn {V : BV} (g : GV V) {p : Nat} (hp : p < nP V) {kn ht li : Int32} (h1 : inI ht 0 99) (h2 : inI li 0 99999) : 0 ≤ (sqV V p kn ht li).toInt := sqF_nn g hp h1 h2 (nM V) 0 0 (by omega) (by decide) (by show (0 : Int) ≤ _; omega)
/-- the best of the degrees from d on -/
def hbF (V : BV) (p : Nat) (kn li : Int32) : Nat → Nat → Int32 → Int64 → Int32
  | 0, _, b, _ => b
  | k + 1, d, b, l => if (sqV V p kn (nI d) li).toInt < l.toInt then hbF V p kn li k (d + 1) (nI d) (sqV V p kn (nI d) li) else hbF V p kn li k (d + 1) b l
theorem nI_d {d : Nat} (h : d < 100) : inI (nI d) 0 99 := by rw [inI, nJ_i (by omega)]; omega
theorem z_heat_11 {p : Nat} (kn : Int32) {li : Int32} (h2 : inI li 0 99999) : ∀ (k d : Nat) (b : Int32) (l : Int64) (h : ax_H), d + k = 100 → I0 h → p < nP (V h) → 0 ≤ l.toInt → ∃ h', Bk_likeliestHeat_11 65 (nI p) kn li b l (nI d) h = some (hbF (V h) p kn li k d b l, h') ∧ fr Sw h h' := by
  intro k
  induction k with
  | zero =>
    intro d b l h hd i hp hl
    obtain ⟨⟨wS, wR, wG, wN⟩, e, g⟩ := i
    refine ⟨h, ?_, fr_rf _ _⟩
    rw [Bk_likeliestHeat_11_eq]
    have h9 : (99 : Int32) < nI d := by rw [show (99 : Int32) = nI 99 from rfl, nJ_lt (by omega) (by omega)]; omega
    simp only [gI_pI, gI_pL, gI_pR, gL_pI, gL_pL, gL_pR, gR_pI, gR_pL, gR_pR, gS_pI, gS_pL, gS_pR, ↓reduceIte, Nat.reduceEqDiff, decide_eq_true_eq, Option.bind_some, false_and, and_false, true_and, and_true, and_self, Nat.reduceAdd, not_false_eq_true, not_true_eq_false, wS, wR, inI, ite_self, Classical.not_not, h9]
    rfl
  | succ k ih =>
    intro d b l h hd i hp hl
    have i0 := i
    obtain ⟨w, e, g⟩ := i
    have hcn := cnts g.1
    have h9 : ¬ (99 : Int32) < nI d := by rw [show (99 : Int32) = nI 99 from rfl, nJ_lt (by omega) (by omega)]; omega
    obtain ⟨h1, q1, q2, q3⟩ := z_warm w (p := p) (by omega) (g.2.2.1 p hp).1 (nI d) li
    have qc := Sw_c q2
    have hV := V_frc qc
    have i1 := I0_frc qc i0
    have hst := z_sq (h := h1) i1.1 i1.2.2 (p := p) (ht := nI d) (li := li) (fun u hu => by rw [hV]; exact q3 u hu) kn
    rw [hV] at hst
    have hnn := sqV_nn g hp (kn := kn) (nI_d (d := d) (by omega)) h2
    have hl0 : ¬ lg_cmp l 0 < 0 := by rw [lgc_lt]; show ¬ l.toInt < 0; omega
    have sS := fr_S q2
    obtain ⟨wS, wR, wG, wN⟩ := w
    by_cases hc : (sqV (V h) p kn (nI d) li).toInt < l.toInt
    · obtain ⟨h', r1, r2⟩ := ih (d + 1) (nI d) (sqV (V h) p kn (nI d) li) h1 (by omega) i1 (by rw [hV]; exact hp) hnn
      rw [hV] at r1
      refine ⟨h', ?_, fr_tr q2 r2⟩
      have hc2 : ¬ 0 ≤ lg_cmp (sqV (V h) p kn (nI d) li) l := by rw [lgc_ge]; omega
      rw [Bk_likeliestHeat_11_eq, hbF, if_pos hc, ← r1]
      try simp only [wS, wR, ↓reduceIte]
      simp only [gI_pI, gI_pL, gI_pR, gL_pI, gL_pL, gL_pR, gR_pI, gR_pL, gR_pR, gS_pI, gS_pL, gS_pR, ↓reduceIte, Nat.reduceEqDiff, decide_eq_true_eq, Option.bind_some, false_and, and_false, true_and, and_true, and_self, Nat.reduceAdd, not_false_eq_true, not_true_eq_false, wS, wR, inI, ite_self, Classical.not_not, h9, ↓bnd q1, sS, ↓bnd hst, hl0, hc2, nJ_p1]
    · obtain ⟨h', r1, r2⟩ := ih (d + 1) b l h1 (by omega) i1 (by rw [hV]; exact hp) hl
      rw [hV] at r1
      refine ⟨h', ?_, fr_tr q2 r2⟩
      have hc2 : 0 ≤ lg_cmp (sqV (V h) p kn (nI d) li) l := by rw [lgc_ge]; omega
      rw [Bk_likeliestHeat_11_eq, hbF, if_neg hc, ← r1]
      try simp only [wS, wR, ↓reduceIte]
      simp only [gI_pI, gI_pL, gI_pR, gL_pI, gL_pL, gL_pR, gR_pI, gR_pL, gR_pR, gS_pI, gS_pL, gS_pR, ↓reduceIte, Nat.reduceEqDiff, decide_eq_true_eq, Option.bind_some, false_and, and_false, true_and, and_true, and_self, Nat.reduceAdd, not_false_eq_true, not_true_eq_false, wS, wR, inI, ite_self, Classical.not_not, h9, ↓bnd q1, sS, ↓bnd hst, hl0, hc2, nJ_p1]
theorem zm_heat_54 {p : Nat} {kn : Int32} (hk : kn.toInt ≤ 9999) (li : Int32) : ∀ (k d : Nat) (b : Int32) (l : Int64) (h : ax_H), d + k = 100 → I0 h → p < nP (V h) → ∃ h', M_heat_54 159 (nI p) kn li b l (nI d) h = some (hbF (V h) p kn li k d b l, h') ∧ fr S69 h h' := by
  intro k
  induction k with
  | zero =>
    intro d b l h hd i hp
    obtain ⟨⟨wS, wR, wG, wN⟩, e, g⟩ := i
    refine ⟨h, ?_, fr_rf _ _⟩
    rw [M_heat_54_eq]
    have h9 : (100 : Int32) ≤ nI d := by rw [show (100 : Int32) = nI 100 from rfl, nJ_le (by omega) (by omega)]; omega
    simp only [gI_pI, gI_pL, gI_pR, gL_pI, gL_pL, gL_pR, gR_pI, gR_pL, gR_pR, gS_pI, gS_pL, gS_pR, ↓reduceIte, Nat.reduceEqDiff, decide_eq_true_eq, Option.bind_some, false_and, and_false, true_and, and_true, and_self, Nat.reduceAdd, not_false_eq_true, not_true_eq_false, wS, wR, inI, ite_self, Classical.not_not, h9]
    rfl
  | succ k ih =>
    intro d b l h hd i hp
    have i0 := i
    obtain ⟨w, e, g⟩ := i
    have h9 : ¬ (100 : Int32) ≤ nI d := by rw [show (100 : Int32) = nI 100 from rfl, nJ_le (by omega) (by omega)]; omega
    obtain ⟨h1, q1, q2, q3⟩ := zm_sq i0 hp (nI d) li hk
    have qc := S69_m q2
    have hV := V_frm qc
    have i1 := I0_frm qc i0
    obtain ⟨wS, wR, wG, wN⟩ := w
    by_cases hc : (sqV (V h) p kn (nI d) li).toInt < l.toInt
    · obtain ⟨h', r1, r2⟩ := ih (d + 1) (nI d) (sqV (V h) p kn (nI d) li) h1 (by omega) i1 (by rw [hV]; exact hp)
      rw [hV] at r1
      refine ⟨h', ?_, fr_tr q2 r2⟩
      have hc2 : ¬ 0 ≤ lg_cmp (sqV (V h) p kn (nI d) li) l := by rw [lgc_ge]; omega
      rw [M_heat_54_eq, hbF, if_pos hc, ← r1]
      try simp only [wS, wR, ↓reduceIte]
      simp only [gI_pI, gI_pL, gI_pR, gL_pI, gL_pL, gL_pR, gR_pI, gR_pL, gR_pR, gS_pI, gS_pL, gS_pR, ↓reduceIte, Nat.reduceEqDiff, decide_eq_true_eq, Option.bind_some, false_and, and_false, true_and, and_true, and_self, Nat.reduceAdd, not_false_eq_true, not_true_eq_false, wS, wR, inI, ite_self, Classical.not_not, h9, ↓bnd q1, hc2, M_heat_87_eq, nJ_p1]
    · obtain ⟨h', r1, r2⟩ := ih (d + 1) b l h1 (by omega) i1 (by rw [hV]; exact hp)
      rw [hV] at r1
      refine ⟨h', ?_, fr_tr q2 r2⟩
      have hc2 : 0 ≤ lg_cmp (sqV (V h) p kn (nI d) li) l := by rw [lgc_ge]; omega
      rw [M_heat_54_eq, hbF, if_neg hc, ← r1]
      try simp only [wS, wR, ↓reduceIte]
      simp only [gI_pI, gI_pL, gI_pR, gL_pI, gL_pL, gL_pR, gR_pI, gR_pL, gR_pR, gS_pI, gS_pL, gS_pR, ↓reduceIte, Nat.reduceEqDiff, decide_eq_true_eq, Option.bind_some, false_and, and_false, true_and, and_true, and_self, Nat.reduceAdd, not_false_eq_true, not_true_eq_false, wS, wR, inI, ite_self, Classical.not_not, h9, ↓bnd q1, hc2, M_heat_87_eq, nJ_p1]
theorem qy_heat {h : ax_H} (i : I0 h) (p kn li : Int32) : qry (B_heat 64 p kn li h) (M_heat 159 p kn li) h := by
  have i0 := i
  obtain ⟨w, e, g⟩ := i
  have w0 := w
  obtain ⟨wS, wR, wG, wN⟩ := w
  have e0 := e
  have hcn := cnts g.1
  by_cases h1 : inI p 0 ((V h 70 0).toInt - 1)
  case neg =>
    refine qry_no (v := -1) ?_ ?_
    · rw [B_heat_eq]
      try simp only [wS, wR, ↓reduceIte]
      simp only [gI_pI, gI_pL, gI_pR, gL_pI, gL_pL, gL_pR, gR_pI, gR_pL, gR_pR, gS_pI, gS_pL, gS_pR, ↓reduceIte, Nat.reduceEqDiff, decide_eq_true_eq, Option.bind_some, false_and, and_false, true_and, and_true, and_self, Nat.reduceAdd, not_false_eq_true, not_true_eq_false, wS, wR, inI, ite_self, Classical.not_not, ↓bnd (z_Pl_has w0 g.1 _), bI_0, h1]
    · rw [M_heat_eq]
      try simp only [wS, wR, ↓reduceIte]
      simp only [gI_pI, gI_pL, gI_pR, gL_pI, gL_pL, gL_pR, gR_pI, gR_pL, gR_pR, gS_pI, gS_pL, gS_pR, ↓reduceIte, Nat.reduceEqDiff, decide_eq_true_eq, Option.bind_some, false_and, and_false, true_and, and_true, and_self, Nat.reduceAdd, not_false_eq_true, not_true_eq_false, wS, wR, inI, ite_self, Classical.not_not, ↓bnd (zm_isPlate w0 g.1 e0 _), bI_0, h1]
  by_cases h2 : 0 ≤ kn.toInt ∧ kn.toInt ≤ 9999
  case neg =>
    refine qry_no (v := -1) ?_ ?_
    · rw [B_heat_eq]
      try simp only [wS, wR, ↓reduceIte]
      simp only [gI_pI, gI_pL, gI_pR, gL_pI, gL_pL, gL_pR, gR_pI, gR_pL, gR_pR, gS_pI, gS_pL, gS_pR, ↓reduceIte, Nat.reduceEqDiff, decide_eq_true_eq, Option.bind_some, false_and, and_false, true_and, and_true, and_self, Nat.reduceAdd, not_false_eq_true, not_true_eq_false, wS, wR, inI, ite_self, Classical.not_not, ↓bnd (z_Pl_has w0 g.1 _), ↓bnd (z_isWeek _ _), bI_0, h1, h2]
    · rw [M_heat_eq]
      try simp only [wS, wR, ↓reduceIte]
      simp only [gI_pI, gI_pL, gI_pR, gL_pI, gL_pL, gL_pR, gR_pI, gR_pL, gR_pR, gS_pI, gS_pL, gS_pR, ↓reduceIte, Nat.reduceEqDiff, decide_eq_true_eq, Option.bind_some, false_and, and_false, true_and, and_true, and_self, Nat.reduceAdd, not_false_eq_true, not_true_eq_false, wS, wR, inI, ite_self, Classical.not_not, ↓bnd (zm_isPlate w0 g.1 e0 _), ↓bnd (zm_isWeek _ _), bI_0, h1, h2]
  by_cases h3 : 0 ≤ li.toInt ∧ li.toInt ≤ 99999
  case neg =>
    refine qry_no (v := -1) ?_ ?_
    · rw [B_heat_eq]
      try simp only [wS, wR, ↓reduceIte]
      simp only [gI_pI, gI_pL, gI_pR, gL_pI, gL_pL, gL_pR, gR_pI, gR_pL, gR_pR, gS_pI, gS_pL, gS_pR, ↓reduceIte, Nat.reduceEqDiff, decide_eq_true_eq, Option.bind_some, false_and, and_false, true_and, and_true, and_self, Nat.reduceAdd, not_false_eq_true, not_true_eq_false, wS, wR, inI, ite_self, Classical.not_not, ↓bnd (z_Pl_has w0 g.1 _), ↓bnd (z_isWeek _ _), ↓bnd (z_isNumber _ _), bI_0, h1, h2, h3]
    · rw [M_heat_eq]
      try simp only [wS, wR, ↓reduceIte]
      simp only [gI_pI, gI_pL, gI_pR, gL_pI, gL_pL, gL_pR, gR_pI, gR_pL, gR_pR, gS_pI, gS_pL, gS_pR, ↓reduceIte, Nat.reduceEqDiff, decide_eq_true_eq, Option.bind_some, false_and, and_false, true_and, and_true, and_self, Nat.reduceAdd, not_false_eq_true, not_true_eq_false, wS, wR, inI, ite_self, Classical.not_not, ↓bnd (zm_isPlate w0 g.1 e0 _), ↓bnd (zm_isWeek _ _), ↓bnd (zm_in _ _ _ _), bI_0, h1, h2, h3, Int32.toInt_toInt64, Int32.reduceToInt, Int64.reduceToInt, tN9, tN299, tN99999, tN9999, tN99, tL9, tL299, tL99999, tL9999, tL99, i1_0, i0_1]
  obtain ⟨j, rfl, hj, hj2, hj3⟩ := nI_ex h1
  have hj4 : j < 16 := by omega
  have hj5 : j < nP (V h) := by omega
  have hn := nI_nM g.1.2.2.2.1
  have hon := z_onP w0 hn (by omega) (nI j) kn
  by_cases h4 : anyB (fun i => decide (V h 75 i = nI j) && kvB (V h) kn i) (nM (V h)) 0 = true
  case neg =>
    have h4' : cntB (opB (V h) j kn) (nM (V h)) 0 = 0 := (cntB_0 _ _).mpr (by rw [Bool.not_eq_true] at h4; exact h4)
    obtain ⟨h2', r1, r2, r3⟩ := zm_sq i0 (p := j) hj5 0 li h2.2
    rw [h4'] at r3
    have sS := fr_S r2
    refine ⟨-1, h, h2', ?_, ?_, fr_rf _ _, S69_m r2⟩
    · rw [B_heat_eq]
      try simp only [wS, wR, ↓reduceIte]
      simp only [gI_pI, gI_pL, gI_pR, gL_pI, gL_pL, gL_pR, gR_pI, gR_pL, gR_pR, gS_pI, gS_pL, gS_pR, ↓reduceIte, Nat.reduceEqDiff, decide_eq_true_eq, Option.bind_some, false_and, and_false, true_and, and_true, and_self, Nat.reduceAdd, not_false_eq_true, not_true_eq_false, wS, wR, inI, ite_self, Classical.not_not, ↓bnd (z_Pl_has w0 g.1 _), ↓bnd (z_isWeek _ _), ↓bnd (z_isNumber _ _), ↓bnd hon, bI_0, h1, h2, h3, h4, Bool.false_eq_true]
    · rw [M_heat_eq]
      try simp only [wS, wR, ↓reduceIte]
      simp only [gI_pI, gI_pL, gI_pR, gL_pI, gL_pL, gL_pR, gR_pI, gR_pL, gR_pR, gS_pI, gS_pL, gS_pR, ↓reduceIte, Nat.reduceEqDiff, decide_eq_true_eq, Option.bind_some, false_and, and_false, true_and, and_true, and_self, Nat.reduceAdd, not_false_eq_true, not_true_eq_false, wS, wR, inI, ite_self, Classical.not_not, ↓bnd (zm_isPlate w0 g.1 e0 _), ↓bnd (zm_isWeek _ _), ↓bnd (zm_in _ _ _ _), bI_0, h1, h2, h3, Int32.toInt_toInt64, Int32.reduceToInt, Int64.reduceToInt, tN9, tN299, tN99999, tN9999, tN99, tL9, tL299, tL99999, tL9999, tL99, i1_0, i0_1, ↓bnd r1, sS, r3, show nI 0 = 0 from rfl]
  have h4' : ¬ cntB (opB (V h) j kn) (nM (V h)) 0 = 0 := fun q => by
    have := (cntB_0 _ _).mp q
    exact absurd (h4.symm.trans this) (by decide)
  -- the class: degree 0, then the others
  have hw0 := z_warm w0 hj4 (g.2.2.1 j hj5).1 0 li
  obtain ⟨h', q1, q2, q3⟩ := hw0
  have qc := Sw_c q2
  have hV := V_frc qc
  have i1 := I0_frc qc i0
  have hst := z_sq (h := h') i1.1 i1.2.2 (p := j) (ht := 0) (li := li) (fun u hu => by rw [hV]; exact q3 u hu) kn
  rw [hV] at hst
  have hnn := sqV_nn g hj5 (kn := kn) (nI_d (d := 0) (by omega)) h3
  obtain ⟨k1, t1, t2⟩ := z_heat_11 (p := j) kn h3 99 1 0 (sqV (V h) j kn 0 li) h' (by omega) i1 (by rw [hV]; exact hj5) hnn
  rw [hV] at t1
  have F1 := fr_tr q2 t2
  have Fc := Sw_c F1
  have hV1 := V_frc Fc
  have i2 := I0_frc Fc i0
  obtain ⟨m1, u1, u2, u3⟩ := zm_sq i2 (p := j) (by rw [hV1]; exact hj5) 0 li h2.2
  rw [hV1] at u1 u3
  have Fm := S69_m u2
  have hV2 := V_frm Fm
  obtain ⟨m2, v1, v2⟩ := zm_heat_54 (p := j) h2.2 li 99 1 0 (sqV (V h) j kn 0 li) m1 (by omega) (I0_frm Fm i2) (by rw [hV2, hV1]; exact hj5)
  rw [hV2, hV1] at v1
  have hl : Bk_likeliestHeat 65 (nI j) kn li h = some (hbF (V h) j kn li 99 1 0 (sqV (V h) j kn 0 li), k1) := by
    have sS := fr_S q2
    have hneg : lg_cmp (-1) 0 < 0 := by decide
    have h99 : ¬ (99 : Int32) < 0 := by decide
    rw [Bk_likeliestHeat_eq, Bk_likeliestHeat_11_eq]
    try simp only [wS, wR, ↓reduceIte]
    simp only [gI_pI, gI_pL, gI_pR, gL_pI, gL_pL, gL_pR, gR_pI, gR_pL, gR_pR, gS_pI, gS_pL, gS_pR, ↓reduceIte, Nat.reduceEqDiff, decide_eq_true_eq, Option.bind_some, false_and, and_false, true_and, and_true, and_self, Nat.reduceAdd, not_false_eq_true, not_true_eq_false, wS, wR, inI, ite_self, Classical.not_not, h99, ↓bnd q1, sS, ↓bnd hst, hneg]
    exact t1
  refine ⟨hbF (V h) j kn li 99 1 0 (sqV (V h) j kn 0 li), k1, m2, ?_, ?_, Fc, fr_tr Fm (S69_m v2)⟩
  · rw [B_heat_eq]
    try simp only [wS, wR, ↓reduceIte]
    simp only [gI_pI, gI_pL, gI_pR, gL_pI, gL_pL, gL_pR, gR_pI, gR_pL, gR_pR, gS_pI, gS_pL, gS_pR, ↓reduceIte, Nat.reduceEqDiff, decide_eq_true_eq, Option.bind_some, false_and, and_false, true_and, and_true, and_self, Nat.reduceAdd, not_false_eq_true, not_true_eq_false, wS, wR, inI, ite_self, Classical.not_not, ↓bnd (z_Pl_has w0 g.1 _), ↓bnd (z_isWeek _ _), ↓bnd (z_isNumber _ _), ↓bnd hon, bI_0, h1, h2, h3, h4, ↓bnd hl]
  · obtain ⟨w1, e1, g1⟩ := i2
    have hP := zm_isPlate w1 g1.1 e1 (nI j)
    rw [hV1] at hP
    obtain ⟨vS, vR, vG, vN⟩ := w1
    have sS := fr_S u2
    have hc0 : ¬ nI (cntB (opB (V h) j kn) (nM (V h)) 0) = 0 := by
      have := cntB_le (opB (V h) j kn) (nM (V h)) 0
      rw [nI_eq0 (by omega)]
      exact h4'
    rw [M_heat_eq]
    simp only [vS, vR, ↓reduceIte]
    simp only [gI_pI, gI_pL, gI_pR, gL_pI, gL_pL, gL_pR, gR_pI, gR_pL, gR_pR, gS_pI, gS_pL, gS_pR, ↓reduceIte, Nat.reduceEqDiff, decide_eq_true_eq, Option.bind_some, false_and, and_false, true_and, and_true, and_self, Nat.reduceAdd, not_false_eq_true, not_true_eq_false, wS, wR, inI, ite_self, Classical.not_not, vS, vR, ↓bnd hP, ↓bnd (zm_isWeek _ _), ↓bnd (zm_in _ _ _ _), bI_0, h1, h2, h3, Int32.toInt_toInt64, Int32.reduceToInt, Int64.reduceToInt, tN9, tN299, tN99999, tN9999, tN99, tL9, tL299, tL99999, tL9999, tL99, i1_0, i0_1, ↓bnd u1, sS, u3, hc0]
    exact v1
