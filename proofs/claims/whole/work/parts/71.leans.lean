/-! leans: both -/
def lec (V : BV) (kn : Int32) (m : Nat) : Int := if otN V kn m = 0 then 0 else 1
theorem zo_sc {B : Nat → Bool} {F G : Nat → Int} (c : Int) (hF : ∀ j, F j = c * G j) : ∀ (k i : Nat) (a : Int), zo B F k i (c * a) = c * zo B G k i a
  | 0, i, a => rfl
  | k + 1, i, a => by
    rw [zo, zo, ← zo_sc c hF k (i + 1)]
    cases B i with
    | true => rw [if_pos rfl, if_pos rfl, hF, Int.mul_add]
    | false => rw [if_neg (by decide), if_neg (by decide)]
theorem laB_c (V : BV) (d kn : Int32) : laB V d kn = 420 * zo (hkB V d kn) (lec V kn) (nM V) 0 0 := zo_sc 420 (fun j => by unfold leB lec; split <;> rfl) (nM V) 0 0
section
theorem zm_le_48 {h : ax_H} (i0 : I0 h) {u d : Nat} (hu : u < 2) (hd8 : d < 8) {kn : Int32} (hk : 0 ≤ kn.toInt ∧ kn.toInt ≤ 9999) (pt : Int32) : ∀ (k i : Nat) (A C : Int), i + k = nM (V h) → M_leans_48 159 (nI d) kn (nI u) pt (Int64.ofInt A) (Int64.ofInt C) (nI i) h = M_leans_48 159 (nI d) kn (nI u) pt (Int64.ofInt (zo (hkB (V h) (nI d) kn) (leA (V h) kn u) k i A)) (Int64.ofInt (zo (hkB (V h) (nI d) kn) (lec (V h) kn) k i C)) (nI (nM (V h))) h := by
  have i00 := i0
  obtain ⟨w, e, g⟩ := i0
  have hcn := cnts g.1
  have hn := nI_nM g.1.2.2.2.1
  have w0 := w
  have e0 := e
  obtain ⟨wS, wR, wG, wN⟩ := w
  unfold EQ at e
  intro k
  induction k with
  | zero =>
    intro i A C hi
    have : i = nM (V h) := by omega
    subst this
    rfl
  | succ k ih =>
    intro i A C hi
    have hle : ¬ nM (V h) ≤ i := by omega
    have hi2 : i < 100 := by omega
    have hC := zm_counts w0 e0 g.2.2.2.1 hn (by omega) (i := i) (by omega) hk.2
    rw [zo, zo]
    by_cases q1 : V h 77 i = nI d
    case neg =>
      have hb : hkB (V h) (nI d) kn i = false := by unfold hkB; rw [decide_eq_false q1, Bool.false_and]
      rw [hb, if_neg (by decide), if_neg (by decide), ← ih (i + 1) A C (by omega), M_leans_48_eq]
      try simp only [wS, wR, ↓reduceIte]
      simp (disch := omega) only [gI_pI, gI_pL, gI_pR, gL_pI, gL_pL, gL_pR, gR_pI, gR_pL, gR_pR, gS_pI, gS_pL, gS_pR, ↓reduceIte, Nat.reduceEqDiff, decide_eq_true_eq, Option.bind_some, false_and, and_false, true_and, and_true, and_self, Nat.reduceAdd, not_false_eq_true, not_true_eq_false, wS, wR, inI, ite_self, Classical.not_not, e, hn, nJ_le, hle, ax_in, nJ_nn, nJ_n, nJ_p1, hi2, q1]
    by_cases q2 : kvB (V h) kn i = true
    case neg =>
      have q2' : kvB (V h) kn i = false := by rw [Bool.not_eq_true] at q2; exact q2
      have hb : hkB (V h) (nI d) kn i = false := by unfold hkB; rw [q2', Bool.and_false]
      rw [hb, if_neg (by decide), if_neg (by decide), ← ih (i + 1) A C (by omega), M_leans_48_eq]
      try simp only [wS, wR, ↓reduceIte]
      simp (disch := omega) only [gI_pI, gI_pL, gI_pR, gL_pI, gL_pL, gL_pR, gR_pI, gR_pL, gR_pR, gS_pI, gS_pL, gS_pR, ↓reduceIte, Nat.reduceEqDiff, decide_eq_true_eq, Option.bind_some, false_and, and_false, true_and, and_true, and_self, Nat.reduceAdd, not_false_eq_true, not_true_eq_false, wS, wR, inI, ite_self, Classical.not_not, e, hn, nJ_le, hle, ax_in, nJ_nn, nJ_n, nJ_p1, hi2, q1, ↓bnd hC, bI_0, q2', Bool.false_eq_true]
    have hb : hkB (V h) (nI d) kn i = true := by unfold hkB; rw [decide_eq_true q1, q2]; rfl
    have st := zm_le_st i00 (m := i) (by omega) hu q1 hd8 hk pt A C
    rw [hb, if_pos rfl, if_pos rfl, ← ih (i + 1) _ _ (by omega)]
    refine Eq.trans ?_ st
    rw [M_leans_48_eq]
    try simp only [wS, wR, ↓reduceIte]
    simp (disch := omega) only [gI_pI, gI_pL, gI_pR, gL_pI, gL_pL, gL_pR, gR_pI, gR_pL, gR_pR, gS_pI, gS_pL, gS_pR, ↓reduceIte, Nat.reduceEqDiff, decide_eq_true_eq, Option.bind_some, false_and, and_false, true_and, and_true, and_self, Nat.reduceAdd, not_false_eq_true, not_true_eq_false, wS, wR, inI, ite_self, Classical.not_not, e, hn, nJ_le, hle, ax_in, nJ_nn, nJ_n, nJ_p1, hi2, q1, ↓bnd hC, bI_0, q2]
end
theorem low_z {B : Int} (hB : 0 < B) {part : Nat} (hp : part < 2) (A : Int) : (if part = 0 then A.tdiv (Nat.gcd A.natAbs B.natAbs) else B.tdiv (Nat.gcd A.natAbs B.natAbs)) = lowZ A B part := by
  unfold lowZ
  by_cases h : A = 0
  · subst h
    rw [if_pos rfl, show (0 : Int).natAbs = 0 from rfl, Nat.gcd_zero_left]
    have : ((B.natAbs : Nat) : Int) = B := by omega
    rw [this]
    match part, hp with
    | 0, _ => rw [if_pos rfl]; exact Int.zero_tdiv _
    | 1, _ => rw [if_neg (by decide), Int.tdiv_self (by omega)]; rfl
  · rw [if_neg h]
theorem zm_leans {h : ax_H} (i0 : I0 h) {u d part : Nat} (hu : u < 2) (hd8 : d < 8) (hp : part < 2) {kn : Int32} (hk : 0 ≤ kn.toInt ∧ kn.toInt ≤ 9999) : M_leans_48 159 (nI d) kn (nI u) (nI part) 0 0 0 h = some (Int64.ofInt (lnV (V h) (nI d) kn u part), h) := by
  have key := zm_le_48 i0 hu hd8 hk (nI part) (nM (V h)) 0 0 0 (by omega)
  replace key : M_leans_48 159 (nI d) kn (nI u) (nI part) 0 0 0 h = M_leans_48 159 (nI d) kn (nI u) (nI part) (Int64.ofInt (laA (V h) (nI d) kn u)) (Int64.ofInt (zo (hkB (V h) (nI d) kn) (lec (V h) kn) (nM (V h)) 0 0)) (nI (nM (V h))) h := key
  obtain ⟨w, e, g⟩ := i0
  have hcn := cnts g.1
  have hn := nI_nM g.1.2.2.2.1
  have hb := la_bd g (nI d) kn u
  have hc := laB_c (V h) (nI d) kn
  obtain ⟨wS, wR, wG, wN⟩ := w
  unfold EQ at e
  rw [key, M_leans_48_eq]
  unfold lnV
  generalize zo (hkB (V h) (nI d) kn) (lec (V h) kn) (nM (V h)) 0 0 = C at hc ⊢
  generalize laB (V h) (nI d) kn = B at hb hc ⊢
  generalize laA (V h) (nI d) kn u = A at hb ⊢
  have hle : nM (V h) ≤ nM (V h) := Nat.le_refl _
  have e9 : (nI part).toInt64 = Int64.ofInt (part : Int) := by rw [i_L, nJ_i (by omega)]
  by_cases q : B = 0
  · have q2 : C = 0 := by omega
    have c0 : lg_cmp (Int64.ofInt 0) 0 = 0 := by decide
    try simp only [wS, wR, ↓reduceIte]
    simp (disch := omega) only [gI_pI, gI_pL, gI_pR, gL_pI, gL_pL, gL_pR, gR_pI, gR_pL, gR_pR, gS_pI, gS_pL, gS_pR, ↓reduceIte, Nat.reduceEqDiff, decide_eq_true_eq, Option.bind_some, false_and, and_false, true_and, and_true, and_self, Nat.reduceAdd, not_false_eq_true, not_true_eq_false, wS, wR, inI, ite_self, Classical.not_not, e, hn, nJ_le, hle, q, q2, c0, e9]
  · have c0 : ¬ lg_cmp (Int64.ofInt C) 0 = 0 := by
      rw [lgc_eq, l_toInt (by omega)]
      show ¬ C = 0
      omega
    have e4 : (420 : Int64) * Int64.ofInt C = Int64.ofInt B := by rw [show (420 : Int64) = Int64.ofInt 420 from rfl, ← Int64.ofInt_mul, hc]
    have hD := zm_div (A := A) (B := B) (by omega) (by omega) h
    have hG : 0 < Nat.gcd A.natAbs B.natAbs := Nat.gcd_pos_of_pos_right _ (by omega)
    have hG2 : Nat.gcd A.natAbs B.natAbs ≤ B.natAbs := Nat.le_of_dvd (by omega) (Nat.gcd_dvd_right _ _)
    have hz := low_z (B := B) (by omega) hp A
    generalize Nat.gcd A.natAbs B.natAbs = G at hD hG hG2 hz
    have cg : ¬ Int64.ofInt (G : Int) = 0 := by rw [lz_eq0 (by omega)]; omega
    rw [← hz]
    try simp only [wS, wR, ↓reduceIte]
    match part, hp with
    | 0, _ =>
      simp (disch := omega) only [gI_pI, gI_pL, gI_pR, gL_pI, gL_pL, gL_pR, gR_pI, gR_pL, gR_pR, gS_pI, gS_pL, gS_pR, ↓reduceIte, Nat.reduceEqDiff, decide_eq_true_eq, Option.bind_some, false_and, and_false, true_and, and_true, and_self, Nat.reduceAdd, not_false_eq_true, not_true_eq_false, wS, wR, inI, ite_self, Classical.not_not, e, hn, nJ_le, hle, q, c0, e4, ↓bnd hD, cg, show nI 0 = 0 from rfl, l_tdiv (a := A) (b := (G : Int)) (by omega) (by omega)]
    | 1, _ =>
      simp (disch := omega) only [gI_pI, gI_pL, gI_pR, gL_pI, gL_pL, gL_pR, gR_pI, gR_pL, gR_pR, gS_pI, gS_pL, gS_pR, ↓reduceIte, Nat.reduceEqDiff, decide_eq_true_eq, Option.bind_some, false_and, and_false, true_and, and_true, and_self, Nat.reduceAdd, not_false_eq_true, not_true_eq_false, wS, wR, inI, ite_self, Classical.not_not, e, hn, nJ_le, hle, q, c0, e4, ↓bnd hD, cg, show nI 1 = 1 from rfl, i1_0, l_tdiv (a := B) (b := (G : Int)) (by omega) (by omega), Nat.one_ne_zero]
def mkq {α : Type} (P : Option (α × ax_H)) (Q : ax_H → Option (α × ax_H)) (h : ax_H) : Prop := ∃ v h1, P = some (v, h1) ∧ Q h1 = some (v, h1) ∧ frA (fun _ _ => false) h h1 ∧ gN h1 ≤ gN h + 1 ∧ gZ h1 ≤ gZ h + 6
theorem mkq_no {α : Type} {P : Option (α × ax_H)} {Q : ax_H → Option (α × ax_H)} {h : ax_H} {v : α} (a : P = some (v, h)) (b : Q h = some (v, h)) : mkq P Q h := ⟨v, h, a, b, frA_rf _ _, by omega, by omega⟩
theorem mk_leans {h : ax_H} (i : I0 h) (d kn a p : Int32) : mkq (B_leans 64 d kn a p h) (M_leans 159 d kn a p) h := by
  obtain ⟨wS, wR, -, -⟩ := i.1
  by_cases h1 : 0 ≤ d.toInt ∧ d.toInt ≤ 7
  case neg =>
    refine mkq_no (v := -1000000000000) ?_ ?_
    · rw [B_leans_eq]
      simp only [gI_pI, gI_pL, gI_pR, gL_pI, gL_pL, gL_pR, gR_pI, gR_pL, gR_pR, gS_pI, gS_pL, gS_pR, ↓reduceIte, Nat.reduceEqDiff, decide_eq_true_eq, Option.bind_some, false_and, and_false, true_and, and_true, and_self, Nat.reduceAdd, not_false_eq_true, not_true_eq_false, wS, wR, inI, ite_self, Classical.not_not, ↓bnd (z_isHand _ _), bI_0, h1]
    · rw [M_leans_eq]
      simp only [gI_pI, gI_pL, gI_pR, gL_pI, gL_pL, gL_pR, gR_pI, gR_pL, gR_pR, gS_pI, gS_pL, gS_pR, ↓reduceIte, Nat.reduceEqDiff, decide_eq_true_eq, Option.bind_some, false_and, and_false, true_and, and_true, and_self, Nat.reduceAdd, not_false_eq_true, not_true_eq_false, wS, wR, inI, ite_self, Classical.not_not, ↓bnd (zm_isHand _ _), bI_0, h1]
  by_cases h2 : 0 ≤ kn.toInt ∧ kn.toInt ≤ 9999
  case neg =>
    refine mkq_no (v := -1000000000000) ?_ ?_
    · rw [B_leans_eq]
      simp only [gI_pI, gI_pL, gI_pR, gL_pI, gL_pL, gL_pR, gR_pI, gR_pL, gR_pR, gS_pI, gS_pL, gS_pR, ↓reduceIte, Nat.reduceEqDiff, decide_eq_true_eq, Option.bind_some, false_and, and_false, true_and, and_true, and_self, Nat.reduceAdd, not_false_eq_true, not_true_eq_false, wS, wR, inI, ite_self, Classical.not_not, ↓bnd (z_isHand _ _), ↓bnd (z_isWeek _ _), bI_0, h1, h2]
    · rw [M_leans_eq]
      simp only [gI_pI, gI_pL, gI_pR, gL_pI, gL_pL, gL_pR, gR_pI, gR_pL, gR_pR, gS_pI, gS_pL, gS_pR, ↓reduceIte, Nat.reduceEqDiff, decide_eq_true_eq, Option.bind_some, false_and, and_false, true_and, and_true, and_self, Nat.reduceAdd, not_false_eq_true, not_true_eq_false, wS, wR, inI, ite_self, Classical.not_not, ↓bnd (zm_isHand _ _), ↓bnd (zm_isWeek _ _), bI_0, h1, h2]
  by_cases h3 : a = 0 ∨ a = 1
  case neg =>
    have h3' : ¬ (0 ≤ a.toInt ∧ a.toInt ≤ 1) := fun q => h3 (ch_iff.mp q)
    refine mkq_no (v := -1000000000000) ?_ ?_
    · rw [B_leans_eq]
      simp only [gI_pI, gI_pL, gI_pR, gL_pI, gL_pL, gL_pR, gR_pI, gR_pL, gR_pR, gS_pI, gS_pL, gS_pR, ↓reduceIte, Nat.reduceEqDiff, decide_eq_true_eq, Option.bind_some, false_and, and_false, true_and, and_true, and_self, Nat.reduceAdd, not_false_eq_true, not_true_eq_false, wS, wR, inI, ite_self, Classical.not_not, ↓bnd (z_isHand _ _), ↓bnd (z_isWeek _ _), ↓bnd (z_isChoice _ _), bI_0, h1, h2, h3]
    · rw [M_leans_eq]
      simp only [gI_pI, gI_pL, gI_pR, gL_pI, gL_pL, gL_pR, gR_pI, gR_pL, gR_pR, gS_pI, gS_pL, gS_pR, ↓reduceIte, Nat.reduceEqDiff, decide_eq_true_eq, Option.bind_some, false_and, and_false, true_and, and_true, and_self, Nat.reduceAdd, not_false_eq_true, not_true_eq_false, wS, wR, inI, ite_self, Classical.not_not, ↓bnd (zm_isHand _ _), ↓bnd (zm_isWeek _ _), ↓bnd (zm_in _ _ _ _), bI_0, h1, h2, h3', Int32.toInt_toInt64, Int32.reduceToInt, Int64.reduceToInt, tN9, tN299, tN99999, tN9999, tN99, tL9, tL299, tL99999, tL9999, tL99, i1_0, i0_1]
  have h3' := ch_iff.mpr h3
  by_cases h4 : p = 0 ∨ p = 1
  case neg =>
    have h4' : ¬ (0 ≤ p.toInt ∧ p.toInt ≤ 1) := fun q => h4 (ch_iff.mp q)
    refine mkq_no (v := -1000000000000) ?_ ?_
    · rw [B_leans_eq]
      simp only [gI_pI, gI_pL, gI_pR, gL_pI, gL_pL, gL_pR, gR_pI, gR_pL, gR_pR, gS_pI, gS_pL, gS_pR, ↓reduceIte, Nat.reduceEqDiff, decide_eq_true_eq, Option.bind_some, false_and, and_false, true_and, and_true, and_self, Nat.reduceAdd, not_false_eq_true, not_true_eq_false, wS, wR, inI, ite_self, Classical.not_not, ↓bnd (z_isHand _ _), ↓bnd (z_isWeek _ _), ↓bnd (z_isChoice _ _), bI_0, h1, h2, h3, h4]
    · rw [M_leans_eq]
      simp only [gI_pI, gI_pL, gI_pR, gL_pI, gL_pL, gL_pR, gR_pI, gR_pL, gR_pR, gS_pI, gS_pL, gS_pR, ↓reduceIte, Nat.reduceEqDiff, decide_eq_true_eq, Option.bind_some, false_and, and_false, true_and, and_true, and_self, Nat.reduceAdd, not_false_eq_true, not_true_eq_false, wS, wR, inI, ite_self, Classical.not_not, ↓bnd (zm_isHand _ _), ↓bnd (zm_isWeek _ _), ↓bnd (zm_in _ _ _ _), bI_0, h1, h2, h3', h4', Int32.toInt_toInt64, Int32.reduceToInt, Int64.reduceToInt, tN9, tN299, tN99999, tN9999, tN99, tL9, tL299, tL99999, tL9999, tL99, i1_0, i0_1]
  have h4' := ch_iff.mpr h4
  obtain ⟨u, rfl, hu⟩ := ch_ex h3
  obtain ⟨pt, rfl, hp⟩ := ch_ex h4
  obtain ⟨d', rfl, hd, hd2, hd3⟩ := nI_ex h1
  obtain ⟨h', r1, r2, r3, r4⟩ := z_leans i h1 h2 hu hp
  have i' := I0_frA r2 i (fun a k z => by cases z)
  have hV := V_frA r2 i.1 (fun _ _ _ _ => rfl)
  have hM := zm_leans i' hu (d := d') (by omega) hp h2
  rw [hV] at hM
  refine ⟨_, h', r1, ?_, r2, by omega, by omega⟩
  rw [M_leans_eq]
  simp only [gI_pI, gI_pL, gI_pR, gL_pI, gL_pL, gL_pR, gR_pI, gR_pL, gR_pR, gS_pI, gS_pL, gS_pR, ↓reduceIte, Nat.reduceEqDiff, decide_eq_true_eq, Option.bind_some, false_and, and_false, true_and, and_true, and_self, Nat.reduceAdd, not_false_eq_true, not_true_eq_false, wS, wR, inI, ite_self, Classical.not_not, ↓bnd (zm_isHand _ _), ↓bnd (zm_isWeek _ _), ↓bnd (zm_in _ _ _ _), bI_0, h1, h2, h3', h4', Int32.toInt_toInt64, Int32.reduceToInt, Int64.reduceToInt, tN9, tN299, tN99999, tN9999, tN99, tL9, tL299, tL99999, tL9999, tL99, i1_0, i0_1]
  exact hM
