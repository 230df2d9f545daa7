/-! mixed -/
theorem zo_bd {B : Nat → Bool} {F : Nat → Int} {M : Int} (hM : 0 ≤ M) : ∀ (k i : Nat) (a A : Int), (-A ≤ a ∧ a ≤ A) → (∀ j, i ≤ j → j < i + k → -M ≤ F j ∧ F j ≤ M) → -(A + k * M) ≤ zo B F k i a ∧ zo B F k i a ≤ A + k * M
  | 0, _, a, A, ha, _ => by rw [zo]; simp only [Int.natCast_zero, Int.zero_mul, Int.add_zero]; exact ha
  | k + 1, i, a, A, ha, hF => by
    have hf := hF i (by omega) (by omega)
    have e1 : ((k + 1 : Nat) : Int) * M = k * M + M := by rw [Int.natCast_add, Int.add_mul]; simp
    rw [e1, zo]
    have := zo_bd (B := B) hM k (i + 1) (if B i then a + F i else a) (A + M) (by split <;> omega) (fun u h1 h2 => hF u (by omega) (by omega))
    omega
theorem zo_mono {B : Nat → Bool} {F : Nat → Int} : ∀ (k i : Nat) (a : Int), (∀ j, i ≤ j → j < i + k → 0 ≤ F j) → a ≤ zo B F k i a
  | 0, _, a, _ => Int.le_refl _
  | k + 1, i, a, hF => by
    have hf := hF i (by omega) (by omega)
    rw [zo]
    cases hb : B i with
    | true =>
      have := zo_mono (B := B) (F := F) k (i + 1) (a + F i) (fun u h1 h2 => hF u (by omega) (by omega))
      rw [if_pos rfl]
      omega
    | false =>
      have := zo_mono (B := B) (F := F) k (i + 1) a (fun u h1 h2 => hF u (by omega) (by omega))
      rw [if_neg (by decide)]
      exact this
theorem zo_none {B : Nat → Bool} {F : Nat → Int} : ∀ (k i : Nat) (a : Int), anyB B k i = false → zo B F k i a = a
  | 0, _, _, _ => rfl
  | k + 1, i, a, h => by
    rw [anyB, Bool.or_eq_false_iff] at h
    rw [zo, h.1, if_neg (by decide)]
    exact zo_none k (i + 1) a h.2
theorem zo_pos {B : Nat → Bool} {F : Nat → Int} : ∀ (k i : Nat) (a : Int), 0 ≤ a → (∀ j, i ≤ j → j < i + k → 0 < F j) → anyB B k i = true → 0 < zo B F k i a
  | 0, _, _, _, _, h => by cases h
  | k + 1, i, a, ha, hF, h => by
    have hf := hF i (by omega) (by omega)
    rw [zo]
    cases hb : B i with
    | true =>
      have := zo_mono (B := B) (F := F) k (i + 1) (a + F i) (fun u h1 h2 => Int.le_of_lt (hF u (by omega) (by omega)))
      rw [if_pos rfl]
      omega
    | false =>
      rw [anyB, hb, Bool.false_or] at h
      rw [if_neg (by decide)]
      exact zo_pos k (i + 1) a ha (fun u h1 h2 => hF u (by omega) (by omega)) h
theorem m_bd {V : BV} (g : GS V) {s : Nat} (hs : s < nS V) : (0 < mS V s ∧ mS V s ≤ 162) ∧ (0 < mL V s ∧ mL V s ≤ 1600) ∧ (-720 ≤ mB V s ∧ mB V s ≤ 720) := by
  obtain ⟨s1, s2, s3, -⟩ := g s hs
  have hn : ¬ ((V 67 s).toInt = 0 ∧ (V 68 s).toInt = 0) := fun q => s3 ⟨i32_eq.mpr q.1, i32_eq.mpr q.2⟩
  have h2 := gz_bd (t := 2) (by omega) s1 s2 hn
  have h4 := gz_bd (t := 4) (by omega) s1 s2 hn
  have e0 : gz 2 (sx V s) (sy V s) 0 = (V 67 s).toInt := rfl
  have e1 : gz 2 (sx V s) (sy V s) 1 = (V 68 s).toInt := rfl
  have m0 := mul_bd (x := (V 67 s).toInt) (y := gz 4 (sx V s) (sy V s) 0) (k := 9) (m := 40) s1 h4.1
  have m1 := mul_bd (x := (V 68 s).toInt) (y := gz 4 (sx V s) (sy V s) 1) (k := 9) (m := 40) s2 h4.2.1
  have q0 := sq_bd s1
  have q1 := sq_bd s2
  have n0 := sq_nn (V 67 s).toInt
  have n1 := sq_nn (V 68 s).toInt
  have pos : 0 < (V 67 s).toInt * (V 67 s).toInt + (V 68 s).toInt * (V 68 s).toInt := by
    rcases Int.lt_or_eq_of_le (Int.add_nonneg n0 n1) with h | h
    · exact h
    · exfalso
      have z0 : (V 67 s).toInt * (V 67 s).toInt = 0 := by omega
      have z1 : (V 68 s).toInt * (V 68 s).toInt = 0 := by omega
      exact hn ⟨by rcases Int.mul_eq_zero.mp z0 with h | h <;> exact h, by rcases Int.mul_eq_zero.mp z1 with h | h <;> exact h⟩
  have k4 : kMx 4 = 1600 := rfl
  refine ⟨?_, ⟨?_, ?_⟩, ?_⟩
  · unfold mS; rw [e0, e1]; omega
  · unfold mL
    rcases h4.2.2.2 with q | q
    · exact absurd rfl q
    · exact q
  · unfold mL
    have := h4.2.2.1
    rw [k4] at this
    exact this
  · unfold mB; rw [e0, e1]; omega
theorem t_bd {V : BV} (gc : GC V) (g : GS V) (B : Nat → Bool) : (0 ≤ tS V B ∧ tS V B ≤ 4860) ∧ (0 ≤ tL V B ∧ tL V B ≤ 48000) ∧ (-21600 ≤ tB V B ∧ tB V B ≤ 21600) ∧ (tB V B = 0 ∨ (0 < tS V B ∧ 0 < tL V B)) := by
  have hcn := cnts gc
  have a1 := zo_bd (B := B) (F := mS V) (M := 162) (by omega) (nS V) 0 0 0 (by omega) (fun j _ hj => by have := (m_bd g (s := j) (by omega)).1; omega)
  have a2 := zo_bd (B := B) (F := mL V) (M := 1600) (by omega) (nS V) 0 0 0 (by omega) (fun j _ hj => by have := (m_bd g (s := j) (by omega)).2.1; omega)
  have a3 := zo_bd (B := B) (F := mB V) (M := 720) (by omega) (nS V) 0 0 0 (by omega) (fun j _ hj => (m_bd g (s := j) (by omega)).2.2)
  have b1 := zo_mono (B := B) (F := mS V) (nS V) 0 0 (fun j _ hj => by have := (m_bd g (s := j) (by omega)).1; omega)
  have b2 := zo_mono (B := B) (F := mL V) (nS V) 0 0 (fun j _ hj => by have := (m_bd g (s := j) (by omega)).2.1; omega)
  refine ⟨⟨b1, by unfold tS; omega⟩, ⟨b2, by unfold tL; omega⟩, by unfold tB; omega, ?_⟩
  cases hb : anyB B (nS V) 0 with
  | false => exact Or.inl (zo_none _ _ _ hb)
  | true => exact Or.inr ⟨zo_pos _ _ _ (by omega) (fun j _ hj => (m_bd g (s := j) (by omega)).1.1) hb, zo_pos _ _ _ (by omega) (fun j _ hj => (m_bd g (s := j) (by omega)).2.1.1) hb⟩
def S545 (a k : Nat) : Bool := decide (a = 159 ∧ (k = 54 ∨ k = 55))
theorem S545_m {h h' : ax_H} (q : fr S545 h h') : fr Sm h h' := fr_le q fun a k z => by simp only [Sm, S545, decide_eq_false_iff_not] at z ⊢; omega
theorem zm_mx_143 {h : ax_H} (w : ok h) {x y : Int} (hx : 0 ≤ x ∧ x < 1152921504606846976) (hy : 0 < y ∧ y < 1152921504606846976) (h1 : gL h 159 54 = Int64.ofInt x) (h2 : gL h 159 55 = Int64.ofInt y) : M_mixes_143 159 h = some (pL (pL h 159 54 (Int64.ofInt (x.tdiv (Nat.gcd x.natAbs y.natAbs)))) 159 55 (Int64.ofInt (y.tdiv (Nat.gcd x.natAbs y.natAbs)))) := by
  have hd := zm_div (A := x) (B := y) (by omega) (by omega) h
  have g1 : 0 < Nat.gcd x.natAbs y.natAbs := Nat.gcd_pos_of_pos_right _ (by omega)
  have g2 : Nat.gcd x.natAbs y.natAbs ≤ y.natAbs := Nat.gcd_le_right _ (by omega)
  have c3 : ¬ Int64.ofInt ((Nat.gcd x.natAbs y.natAbs : Nat) : Int) = 0 := fun q => by
    have := (lz_eq0 (by omega)).mp q
    omega
  have d1 : Int64.ofInt x / Int64.ofInt ((Nat.gcd x.natAbs y.natAbs : Nat) : Int) = Int64.ofInt (x.tdiv (Nat.gcd x.natAbs y.natAbs)) := l_tdiv (by omega) (by omega)
  have d2 : Int64.ofInt y / Int64.ofInt ((Nat.gcd x.natAbs y.natAbs : Nat) : Int) = Int64.ofInt (y.tdiv (Nat.gcd x.natAbs y.natAbs)) := l_tdiv (by omega) (by omega)
  obtain ⟨wS, wR, wG, wN⟩ := w
  rw [M_mixes_143_eq]
  try simp only [wS, wR, ↓reduceIte]
  rw [h1, h2]
  simp only [gI_pI, gI_pL, gI_pR, gL_pI, gL_pL, gL_pR, gR_pI, gR_pL, gR_pR, gS_pI, gS_pL, gS_pR, ↓reduceIte, Nat.reduceEqDiff, decide_eq_true_eq, Option.bind_some, false_and, and_false, true_and, and_true, and_self, Nat.reduceAdd, not_false_eq_true, not_true_eq_false, wS, wR, inI, ite_self, Classical.not_not, ↓bnd hd, c3, h1, h2, d1, d2]
theorem zm_mixes {h : ax_H} (i0 : I0 h) {B : Nat → Bool} (hB : HB h B) : ∃ h', M_mixes 159 h = some h' ∧ fr S545 h h' ∧ gL h' 159 54 = Int64.ofInt (lowZ (tB (V h) B * tB (V h) B) (tS (V h) B * tL (V h) B) 0) ∧ gL h' 159 55 = Int64.ofInt (lowZ (tB (V h) B * tB (V h) B) (tS (V h) B * tL (V h) B) 1) := by
  have key := zm_mx_10 i0 hB (nS (V h)) 0 0 0 0 (by omega)
  obtain ⟨w, e, g⟩ := i0
  have hcn := cnts g.1
  have hn := nI_nS g.1.2.1
  have hb := t_bd g.1 g.2.1 B
  have w0 := w
  obtain ⟨wS, wR, wG, wN⟩ := w
  unfold EQ at e
  have mb := mul_bd (x := tB (V h) B) (y := tB (V h) B) (k := 21600) (m := 21600) hb.2.2.1 hb.2.2.1
  have msl := mul_bd (x := tS (V h) B) (y := tL (V h) B) (k := 4860) (m := 48000) (by omega) (by omega)
  have nb := sq_nn (tB (V h) B)
  have ha0 : (Int64.ofInt (tB (V h) B * tB (V h) B)).toInt = tB (V h) B * tB (V h) B := l_toInt (by omega)
  have hw0 : (Int64.ofInt (tS (V h) B * tL (V h) B)).toInt = tS (V h) B * tL (V h) B := l_toInt (by omega)
  have hM : M_mixes 159 h = M_mixes_10 159 (Int64.ofInt (tB (V h) B)) (Int64.ofInt (tS (V h) B)) (Int64.ofInt (tL (V h) B)) (nI (nS (V h))) h := by
    rw [M_mixes_eq]
    exact key
  rw [hM, M_mixes_10_eq]
  try simp only [wS, wR, ↓reduceIte]
  by_cases hA : tB (V h) B * tB (V h) B = 0
  · have c0 : lg_cmp (Int64.ofInt (tB (V h) B * tB (V h) B)) 0 = 0 := by rw [lgc_eq, ha0]; exact hA
    have hl := zm_mx_143 (h := pL (pL (pL (pL h 159 54 (Int64.ofInt (tB (V h) B * tB (V h) B))) 159 55 (Int64.ofInt (tS (V h) B * tL (V h) B))) 159 54 0) 159 55 1) w0 (x := 0) (y := 1) (by omega) (by omega) rfl rfl
    refine ⟨_, Eq.trans ?_ hl, ?_, ?_, ?_⟩
    · simp (disch := omega) only [gI_pI, gI_pL, gI_pR, gL_pI, gL_pL, gL_pR, gR_pI, gR_pL, gR_pR, gS_pI, gS_pL, gS_pR, ↓reduceIte, Nat.reduceEqDiff, decide_eq_true_eq, Option.bind_some, false_and, and_false, true_and, and_true, and_self, Nat.reduceAdd, not_false_eq_true, not_true_eq_false, wS, wR, inI, ite_self, Classical.not_not, e, hn, nJ_le, Nat.le_refl, ← Int64.ofInt_mul, c0]
    · exact fr_tr (fr_tr (fr_tr (fr_tr (fr_tr (fr_pL rfl) (fr_pL rfl)) (fr_pL rfl)) (fr_pL rfl)) (fr_pL rfl)) (fr_pL rfl)
    · unfold lowZ
      rw [if_pos hA]
      rfl
    · unfold lowZ
      rw [if_pos hA]
      rfl
  · have hne : ¬ tB (V h) B = 0 := fun q => hA (by rw [q]; rfl)
    have hpos : 0 < tS (V h) B ∧ 0 < tL (V h) B := by
      rcases hb.2.2.2 with q | q
      · exact absurd q hne
      · exact q
    have hW : 0 < tS (V h) B * tL (V h) B := Int.mul_pos hpos.1 hpos.2
    have c0 : ¬ lg_cmp (Int64.ofInt (tB (V h) B * tB (V h) B)) 0 = 0 := by rw [lgc_eq, ha0]; exact hA
    have c1 : ¬ lg_cmp (Int64.ofInt (tS (V h) B * tL (V h) B)) 0 = 0 := by rw [lgc_eq, hw0]; show ¬ _ = (0 : Int); omega
    have hl := zm_mx_143 (h := pL (pL h 159 54 (Int64.ofInt (tB (V h) B * tB (V h) B))) 159 55 (Int64.ofInt (tS (V h) B * tL (V h) B))) w0 (x := tB (V h) B * tB (V h) B) (y := tS (V h) B * tL (V h) B) (by omega) (by omega) rfl rfl
    refine ⟨_, Eq.trans ?_ hl, ?_, ?_, ?_⟩
    · simp (disch := omega) only [gI_pI, gI_pL, gI_pR, gL_pI, gL_pL, gL_pR, gR_pI, gR_pL, gR_pR, gS_pI, gS_pL, gS_pR, ↓reduceIte, Nat.reduceEqDiff, decide_eq_true_eq, Option.bind_some, false_and, and_false, true_and, and_true, and_self, Nat.reduceAdd, not_false_eq_true, not_true_eq_false, wS, wR, inI, ite_self, Classical.not_not, e, hn, nJ_le, Nat.le_refl, ← Int64.ofInt_mul, c0, c1]
    · exact fr_tr (fr_tr (fr_tr (fr_pL rfl) (fr_pL rfl)) (fr_pL rfl)) (fr_pL rfl)
    · unfold lowZ
      rw [if_neg hA, if_pos rfl]
      rfl
    · unfold lowZ
      rw [if_neg hA, if_neg (by omega)]
      rfl
theorem qy_mixed {h : ax_H} (i : I0 h) (p kn a : Int32) : qry (B_mixed 64 p kn a h) (M_mixed 159 p kn a) h := by
  have i0 := i
  obtain ⟨w, e, g⟩ := i
  have w0 := w
  obtain ⟨wS, wR, wG, wN⟩ := w
  have e0 := e
  have hcn := cnts g.1
  by_cases h1 : inI p 0 ((V h 70 0).toInt - 1)
  case neg =>
    refine qry_no (v := -1) ?_ ?_
    · rw [B_mixed_eq]
      try simp only [wS, wR, ↓reduceIte]
      simp only [gI_pI, gI_pL, gI_pR, gL_pI, gL_pL, gL_pR, gR_pI, gR_pL, gR_pR, gS_pI, gS_pL, gS_pR, ↓reduceIte, Nat.reduceEqDiff, decide_eq_true_eq, Option.bind_some, false_and, and_false, true_and, and_true, and_self, Nat.reduceAdd, not_false_eq_true, not_true_eq_false, wS, wR, inI, ite_self, Classical.not_not, ↓bnd (z_Pl_has w0 g.1 _), bI_0, h1]
    · rw [M_mixed_eq]
      try simp only [wS, wR, ↓reduceIte]
      simp only [gI_pI, gI_pL, gI_pR, gL_pI, gL_pL, gL_pR, gR_pI, gR_pL, gR_pR, gS_pI, gS_pL, gS_pR, ↓reduceIte, Nat.reduceEqDiff, decide_eq_true_eq, Option.bind_some, false_and, and_false, true_and, and_true, and_self, Nat.reduceAdd, not_false_eq_true, not_true_eq_false, wS, wR, inI, ite_self, Classical.not_not, ↓bnd (zm_isPlate w0 g.1 e0 _), bI_0, h1]
  by_cases h2 : 0 ≤ kn.toInt ∧ kn.toInt ≤ 9999
  case neg =>
    refine qry_no (v := -1) ?_ ?_
    · rw [B_mixed_eq]
      try simp only [wS, wR, ↓reduceIte]
      simp only [gI_pI, gI_pL, gI_pR, gL_pI, gL_pL, gL_pR, gR_pI, gR_pL, gR_pR, gS_pI, gS_pL, gS_pR, ↓reduceIte, Nat.reduceEqDiff, decide_eq_true_eq, Option.bind_some, false_and, and_false, true_and, and_true, and_self, Nat.reduceAdd, not_false_eq_true, not_true_eq_false, wS, wR, inI, ite_self, Classical.not_not, ↓bnd (z_Pl_has w0 g.1 _), ↓bnd (z_isWeek _ _), bI_0, h1, h2]
    · rw [M_mixed_eq]
      try simp only [wS, wR, ↓reduceIte]
      simp only [gI_pI, gI_pL, gI_pR, gL_pI, gL_pL, gL_pR, gR_pI, gR_pL, gR_pR, gS_pI, gS_pL, gS_pR, ↓reduceIte, Nat.reduceEqDiff, decide_eq_true_eq, Option.bind_some, false_and, and_false, true_and, and_true, and_self, Nat.reduceAdd, not_false_eq_true, not_true_eq_false, wS, wR, inI, ite_self, Classical.not_not, ↓bnd (zm_isPlate w0 g.1 e0 _), ↓bnd (zm_isWeek _ _), bI_0, h1, h2]
  by_cases h4 : a = 0 ∨ a = 1
  case neg =>
    have h4' : ¬ (0 ≤ a.toInt ∧ a.toInt ≤ 1) := fun q => h4 (ch_iff.mp q)
    refine qry_no (v := -1) ?_ ?_
    · rw [B_mixed_eq]
      try simp only [wS, wR, ↓reduceIte]
      simp only [gI_pI, gI_pL, gI_pR, gL_pI, gL_pL, gL_pR, gR_pI, gR_pL, gR_pR, gS_pI, gS_pL, gS_pR, ↓reduceIte, Nat.reduceEqDiff, decide_eq_true_eq, Option.bind_some, false_and, and_false, true_and, and_true, and_self, Nat.reduceAdd, not_false_eq_true, not_true_eq_false, wS, wR, inI, ite_self, Classical.not_not, ↓bnd (z_Pl_has w0 g.1 _), ↓bnd (z_isWeek _ _), ↓bnd (z_isChoice _ _), bI_0, h1, h2, h4]
    · rw [M_mixed_eq]
      try simp only [wS, wR, ↓reduceIte]
      simp only [gI_pI, gI_pL, gI_pR, gL_pI, gL_pL, gL_pR, gR_pI, gR_pL, gR_pR, gS_pI, gS_pL, gS_pR, ↓reduceIte, Nat.reduceEqDiff, decide_eq_true_eq, Option.bind_some, false_and, and_false, true_and, and_true, and_self, Nat.reduceAdd, not_false_eq_true, not_true_eq_false, wS, wR, inI, ite_self, Classical.not_not, ↓bnd (zm_isPlate w0 g.1 e0 _), ↓bnd (zm_isWeek _ _), ↓bnd (zm_in _ _ _ _), bI_0, h1, h2, h4', Int32.toInt_toInt64, Int32.reduceToInt, Int64.reduceToInt, tN9, tN299, tN99999, tN9999, tN99, tL9, tL299, tL99999, tL9999, tL99, i1_0, i0_1]
  have h4' := ch_iff.mpr h4
  obtain ⟨a', rfl, ha'⟩ := ch_ex h4
  obtain ⟨k1, q1, q2, q3⟩ := z_gather w0 g p h2.2
  have qc := S158_c q2
  have hV := V_frc qc
  have i1 := I0_frc qc i0
  obtain ⟨k2, r1, r2, r3⟩ := zm_known i1 p kn
  have hV2 := V_frm (S195_m r2)
  have i2 := I0_frm (S195_m r2) i1
  obtain ⟨k3, t1, t2, t3, t4⟩ := zm_mixes i2 r3
  rw [hV2, hV] at t3 t4
  have hb := t_bd g.1 g.2.1 (hasS (V h) p kn)
  have mb := mul_bd (x := tB (V h) (hasS (V h) p kn)) (y := tB (V h) (hasS (V h) p kn)) (k := 21600) (m := 21600) hb.2.2.1 hb.2.2.1
  have msl := mul_bd (x := tS (V h) (hasS (V h) p kn)) (y := tL (V h) (hasS (V h) p kn)) (k := 4860) (m := 48000) (by omega) (by omega)
  refine ⟨Int64.ofInt (lowZ (tB (V h) (hasS (V h) p kn) * tB (V h) (hasS (V h) p kn)) (tS (V h) (hasS (V h) p kn) * tL (V h) (hasS (V h) p kn)) a'), k1, k3, ?_, ?_, qc, fr_tr (S195_m r2) (S545_m t2)⟩
  · have sS := fr_S q2
    have sR := fr_R q2
    obtain ⟨m1, m2, m3⟩ := q3
    have hA : Mx_above 158 k1 = some (Int64.ofInt (tB (V h) (hasS (V h) p kn) * tB (V h) (hasS (V h) p kn)), k1) := by
      rw [Mx_above_eq]
      simp only [gI_pI, gI_pL, gI_pR, gL_pI, gL_pL, gL_pR, gR_pI, gR_pL, gR_pR, gS_pI, gS_pL, gS_pR, ↓reduceIte, Nat.reduceEqDiff, decide_eq_true_eq, Option.bind_some, false_and, and_false, true_and, and_true, and_self, Nat.reduceAdd, not_false_eq_true, not_true_eq_false, wS, wR, inI, ite_self, Classical.not_not, sS, m3, ← Int64.ofInt_mul]
    have hW : Mx_below 158 k1 = some (Int64.ofInt (tS (V h) (hasS (V h) p kn) * tL (V h) (hasS (V h) p kn)), k1) := by
      rw [Mx_below_eq]
      simp only [gI_pI, gI_pL, gI_pR, gL_pI, gL_pL, gL_pR, gR_pI, gR_pL, gR_pR, gS_pI, gS_pL, gS_pR, ↓reduceIte, Nat.reduceEqDiff, decide_eq_true_eq, Option.bind_some, false_and, and_false, true_and, and_true, and_self, Nat.reduceAdd, not_false_eq_true, not_true_eq_false, wS, wR, inI, ite_self, Classical.not_not, sS, m1, m2, ← Int64.ofInt_mul]
    have hL : B_lowest (Int64.ofInt (tB (V h) (hasS (V h) p kn) * tB (V h) (hasS (V h) p kn))) (Int64.ofInt (tS (V h) (hasS (V h) p kn) * tL (V h) (hasS (V h) p kn))) (nI a') k1 = some (Int64.ofInt (lowZ (tB (V h) (hasS (V h) p kn) * tB (V h) (hasS (V h) p kn)) (tS (V h) (hasS (V h) p kn) * tL (V h) (hasS (V h) p kn)) a'), k1) := by
      rcases hb.2.2.2 with q | q
      · rw [q, Int.zero_mul]
        have c0 : lg_cmp (Int64.ofInt 0) 0 = 0 := by decide
        rw [B_lowest_eq, if_pos (decide_eq_true c0)]
        unfold lowZ
        rw [if_pos rfl, i_L, nJ_i (by omega)]
      · exact z_lowest (by omega) ⟨Int.mul_pos q.1 q.2, by omega⟩ ha' k1
    rw [B_mixed_eq]
    try simp only [wS, wR, ↓reduceIte]
    simp only [gI_pI, gI_pL, gI_pR, gL_pI, gL_pL, gL_pR, gR_pI, gR_pL, gR_pR, gS_pI, gS_pL, gS_pR, ↓reduceIte, Nat.reduceEqDiff, decide_eq_true_eq, Option.bind_some, false_and, and_false, true_and, and_true, and_self, Nat.reduceAdd, not_false_eq_true, not_true_eq_false, wS, wR, inI, ite_self, Classical.not_not, ↓bnd (z_Pl_has w0 g.1 _), ↓bnd (z_isWeek _ _), ↓bnd (z_isChoice _ _), bI_0, h1, h2, h4, ↓bnd q1, sS, sR, ↓bnd hA, ↓bnd hW, ↓bnd hL]
  · obtain ⟨w1, e1, g1⟩ := i1
    have hP := zm_isPlate w1 g1.1 e1 p
    rw [hV] at hP
    obtain ⟨vS, vR, vG, vN⟩ := w1
    have sS := fr_S r2
    have sT := fr_S t2
    rw [M_mixed_eq]
    simp only [vS, vR, ↓reduceIte]
    simp only [gI_pI, gI_pL, gI_pR, gL_pI, gL_pL, gL_pR, gR_pI, gR_pL, gR_pR, gS_pI, gS_pL, gS_pR, ↓reduceIte, Nat.reduceEqDiff, decide_eq_true_eq, Option.bind_some, false_and, and_false, true_and, and_true, and_self, Nat.reduceAdd, not_false_eq_true, not_true_eq_false, wS, wR, inI, ite_self, Classical.not_not, vS, vR, ↓bnd hP, ↓bnd (zm_isWeek _ _), ↓bnd (zm_in _ _ _ _), bI_0, h1, h2, h4', Int32.toInt_toInt64, Int32.reduceToInt, Int64.reduceToInt, tN9, tN299, tN99999, tN9999, tN99, tL9, tL299, tL99999, tL9999, tL99, i1_0, i0_1, ↓bnd r1, sS, ↓bnd t1, sT, t3, t4]
    match a', ha' with
    | 0, _ => rfl
    | 1, _ => rfl
