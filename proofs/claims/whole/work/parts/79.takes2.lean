/-! ways, takes -/
def IW (h : ax_H) : Prop := ∀ w, w < nW' (V h) → ∃ D, WC h (gR h 82 w) D ∧ WM h w D ∧ WF D
theorem as_ways {h : ax_H} (i : I0 h) (iw : IW h) (a t : Int32) : asks (B_ways 64 a t h) (M_ways 159 a t h) h := by
  obtain ⟨w, e, g⟩ := i
  have hcn := cnts g.1
  have w0 := w
  have e0 := e
  obtain ⟨wS, wR, wG, wN⟩ := w
  unfold EQ at e
  by_cases h1 : 0 ≤ a.toInt ∧ a.toInt ≤ (V h 65 4).toInt - 1
  case neg =>
    refine ⟨-1, ?_, ?_⟩
    · rw [B_ways_eq]
      simp only [gI_pI, gI_pL, gI_pR, gL_pI, gL_pL, gL_pR, gR_pI, gR_pL, gR_pR, gS_pI, gS_pL, gS_pR, ↓reduceIte, Nat.reduceEqDiff, decide_eq_true_eq, Option.bind_some, false_and, and_false, true_and, and_true, and_self, Nat.reduceAdd, not_false_eq_true, not_true_eq_false, wS, wR, inI, ite_self, Classical.not_not, ↓bnd (z_wayNo w0 g.1 h1)]
    · rw [M_ways_eq]
      simp only [gI_pI, gI_pL, gI_pR, gL_pI, gL_pL, gL_pR, gR_pI, gR_pL, gR_pR, gS_pI, gS_pL, gS_pR, ↓reduceIte, Nat.reduceEqDiff, decide_eq_true_eq, Option.bind_some, false_and, and_false, true_and, and_true, and_self, Nat.reduceAdd, not_false_eq_true, not_true_eq_false, wS, wR, inI, ite_self, Classical.not_not, ↓bnd (zm_isWay w0 g.1 e0 _), bI_0, h1]
  obtain ⟨j, rfl, hj, hj2, hj3⟩ := nI_ex h1
  obtain ⟨D, c, m, f⟩ := iw j (by omega)
  obtain ⟨c1, c2, c3, c4, c5, c6, c7, c8⟩ := c
  have hnz : ¬ gR h 82 j = 0 := by omega
  have hWA := z_wayAt w0 g.1 (j := j) (by omega)
  by_cases h2 : 0 ≤ t.toInt ∧ t.toInt ≤ 5
  case neg =>
    refine ⟨-1, ?_, ?_⟩
    · rw [B_ways_eq]
      simp only [gI_pI, gI_pL, gI_pR, gL_pI, gL_pL, gL_pR, gR_pI, gR_pL, gR_pR, gS_pI, gS_pL, gS_pR, ↓reduceIte, Nat.reduceEqDiff, decide_eq_true_eq, Option.bind_some, false_and, and_false, true_and, and_true, and_self, Nat.reduceAdd, not_false_eq_true, not_true_eq_false, wS, wR, inI, ite_self, Classical.not_not, ↓bnd hWA, hnz, ↓bnd (z_isTerm _ _), bI_0, h2]
    · rw [M_ways_eq]
      simp only [gI_pI, gI_pL, gI_pR, gL_pI, gL_pL, gL_pR, gR_pI, gR_pL, gR_pR, gS_pI, gS_pL, gS_pR, ↓reduceIte, Nat.reduceEqDiff, decide_eq_true_eq, Option.bind_some, false_and, and_false, true_and, and_true, and_self, Nat.reduceAdd, not_false_eq_true, not_true_eq_false, wS, wR, inI, ite_self, Classical.not_not, ↓bnd (zm_isWay w0 g.1 e0 _), bI_0, h1, ↓bnd (zm_isTerm _ _), h2]
  obtain ⟨t', rfl, ht, ht2, ht3⟩ := nI_ex h2
  have ht6 : t' < 6 := by omega
  have i1 : 6 * j + t' < 60 := by omega
  have r1 := c5 t' ht6
  have r2 := m.1 t' ht6
  refine ⟨D.1 t', ?_, ?_⟩
  · rw [B_ways_eq]
    simp (disch := omega) only [gI_pI, gI_pL, gI_pR, gL_pI, gL_pL, gL_pR, gR_pI, gR_pL, gR_pR, gS_pI, gS_pL, gS_pR, ↓reduceIte, Nat.reduceEqDiff, decide_eq_true_eq, Option.bind_some, false_and, and_false, true_and, and_true, and_self, Nat.reduceAdd, not_false_eq_true, not_true_eq_false, wS, wR, inI, ite_self, Classical.not_not, ↓bnd hWA, hnz, ↓bnd (z_isTerm _ _), bI_0, h2, c1.2.2, c2.2.2, ax_in, nJ_nn, nJ_n, ht6, r1]
  · rw [M_ways_eq]
    simp (disch := omega) only [gI_pI, gI_pL, gI_pR, gL_pI, gL_pL, gL_pR, gR_pI, gR_pL, gR_pR, gS_pI, gS_pL, gS_pR, ↓reduceIte, Nat.reduceEqDiff, decide_eq_true_eq, Option.bind_some, false_and, and_false, true_and, and_true, and_self, Nat.reduceAdd, not_false_eq_true, not_true_eq_false, wS, wR, inI, ite_self, Classical.not_not, ↓bnd (zm_isWay w0 g.1 e0 _), bI_0, h1, ↓bnd (zm_isTerm _ _), h2, ax_in, show (6 : Int32) = nI 6 from rfl, pk_mul, nI_add, nJ_nn, nJ_n, i1, r2]
def pickL (k : Int32) : Nat → List Nat → Int32
  | n, [] => if k = -1 then nI n else -1
  | n, x :: l => if nI n = k then nI x else pickL k (n + 1) l
theorem pick_m1 : ∀ (l : List Nat) (n : Nat), n + l.length < 2147483648 → pickL (-1) n l = nI (n + l.length)
  | [], n, _ => by rw [pickL, if_pos rfl]; rfl
  | x :: l, n, h => by
    rw [List.length_cons] at h
    rw [pickL, if_neg (nI_neg1 (by omega)), pick_m1 l (n + 1) (by omega), List.length_cons, show n + 1 + l.length = n + (l.length + 1) by omega]
theorem pick_no {k : Int32} (hk : ¬ k = -1) : ∀ (l : List Nat) (n : Nat), n + l.length < 2147483648 → ¬ ((n : Int) ≤ k.toInt ∧ k.toInt < ((n + l.length : Nat) : Int)) → pickL k n l = -1
  | [], n, _, _ => by rw [pickL, if_neg hk]
  | x :: l, n, h, hc => by
    rw [List.length_cons] at h hc
    rw [pickL, if_neg, pick_no hk l (n + 1) (by omega) (by omega)]
    intro q
    rw [← q, nJ_i (by omega)] at hc
    omega
theorem pick_at {k : Nat} : ∀ (l : List Nat) (n : Nat) {x : Nat}, n + l.length < 2147483648 → n ≤ k → l[k - n]? = some x → pickL (nI k) n l = nI x
  | [], n, x, _, _, q => by cases q
  | y :: l, n, x, h, hn, q => by
    rw [List.length_cons] at h
    have hlt := (List.getElem?_eq_some_iff.mp q).1
    rw [List.length_cons] at hlt
    rw [pickL]
    by_cases e : n = k
    · subst e
      rw [if_pos rfl]
      rw [Nat.sub_self] at q
      injection q with q
      rw [q]
    · rw [if_neg (by rw [nJ_eq (by omega) (by omega)]; exact e)]
      refine pick_at l (n + 1) (by omega) (by omega) ?_
      rw [show k - n = (k - (n + 1)) + 1 by omega] at q
      exact q
theorem zm_tk_29 {h : ax_H} (i0 : I0 h) {P : Nat → Bool} (hP : TKM h P) (k0 : Int32) : ∀ (k i n : Nat), i + k = nM (V h) → n ≤ i → M_takes_X220_29 159 k0 (nI n) (nI i) h = some (pickL k0 n (flF P k i), h) := by
  obtain ⟨w, e, g⟩ := i0
  have hcn := cnts g.1
  have hn := nI_nM g.1.2.2.2.1
  obtain ⟨wS, wR, wG, wN⟩ := w
  unfold EQ at e
  intro k
  induction k with
  | zero =>
    intro i n hi hni
    have hle : nM (V h) ≤ i := by omega
    rw [M_takes_X220_29_eq]
    try simp only [wS, wR, ↓reduceIte]
    simp (disch := omega) only [gI_pI, gI_pL, gI_pR, gL_pI, gL_pL, gL_pR, gR_pI, gR_pL, gR_pR, gS_pI, gS_pL, gS_pR, ↓reduceIte, Nat.reduceEqDiff, decide_eq_true_eq, Option.bind_some, false_and, and_false, true_and, and_true, and_self, Nat.reduceAdd, not_false_eq_true, not_true_eq_false, wS, wR, inI, ite_self, Classical.not_not, e, hn, nJ_le, hle]
    rw [flF, pickL]
    by_cases q : k0 = -1
    · rw [if_neg (not_not_intro q), if_pos q]
    · rw [if_pos q, if_neg q]
  | succ k ih =>
    intro i n hi hni
    have hle : ¬ nM (V h) ≤ i := by omega
    have hi2 : i < 100 := by omega
    have hp := hP i (by omega)
    rw [M_takes_X220_29_eq]
    try simp only [wS, wR, ↓reduceIte]
    simp (disch := omega) only [gI_pI, gI_pL, gI_pR, gL_pI, gL_pL, gL_pR, gR_pI, gR_pL, gR_pR, gS_pI, gS_pL, gS_pR, ↓reduceIte, Nat.reduceEqDiff, decide_eq_true_eq, Option.bind_some, false_and, and_false, true_and, and_true, and_self, Nat.reduceAdd, not_false_eq_true, not_true_eq_false, wS, wR, inI, ite_self, Classical.not_not, e, hn, nJ_le, hle, ax_in, nJ_nn, nJ_n, hi2, hp, nJ_p1]
    rw [flF]
    cases hb : P i with
    | false =>
      have : bB false = 0 := rfl
      rw [this, if_pos rfl, if_neg (by decide)]
      exact ih (i + 1) n (by omega) (by omega)
    | true =>
      have : ¬ bB true = 0 := by decide
      rw [if_neg this, if_pos rfl, pickL]
      by_cases q : nI n = k0
      · rw [if_neg (not_not_intro q), if_pos q]
      · rw [if_pos q, if_neg q]
        exact ih (i + 1) (n + 1) (by omega) (by omega)
theorem qy_takes {h : ax_H} (i : I0 h) (iw : IW h) (a kn k0 : Int32) : qry (B_takes 64 a kn k0 h) (M_takes_X220 159 a kn k0) h := by
  have i0 := i
  obtain ⟨w, e, g⟩ := i
  have hcn := cnts g.1
  have w0 := w
  have e0 := e
  obtain ⟨wS, wR, wG, wN⟩ := w
  by_cases h1 : 0 ≤ a.toInt ∧ a.toInt ≤ (V h 65 4).toInt - 1
  case neg =>
    refine qry_no (v := -1) ?_ ?_
    · rw [B_takes_eq]
      simp only [gI_pI, gI_pL, gI_pR, gL_pI, gL_pL, gL_pR, gR_pI, gR_pL, gR_pR, gS_pI, gS_pL, gS_pR, ↓reduceIte, Nat.reduceEqDiff, decide_eq_true_eq, Option.bind_some, false_and, and_false, true_and, and_true, and_self, Nat.reduceAdd, not_false_eq_true, not_true_eq_false, wS, wR, inI, ite_self, Classical.not_not, ↓bnd (z_wayNo w0 g.1 h1)]
    · rw [M_takes_X220_eq]
      simp only [gI_pI, gI_pL, gI_pR, gL_pI, gL_pL, gL_pR, gR_pI, gR_pL, gR_pR, gS_pI, gS_pL, gS_pR, ↓reduceIte, Nat.reduceEqDiff, decide_eq_true_eq, Option.bind_some, false_and, and_false, true_and, and_true, and_self, Nat.reduceAdd, not_false_eq_true, not_true_eq_false, wS, wR, inI, ite_self, Classical.not_not, ↓bnd (zm_isWay w0 g.1 e0 _), bI_0, h1]
  obtain ⟨j, rfl, hj, hj2, hj3⟩ := nI_ex h1
  obtain ⟨D, c, m, f⟩ := iw j (by omega)
  have hnz : ¬ gR h 82 j = 0 := by have := c.1; omega
  have hWA := z_wayAt w0 g.1 (j := j) (by omega)
  by_cases h2 : 0 ≤ kn.toInt ∧ kn.toInt ≤ 9999
  case neg =>
    refine qry_no (v := -1) ?_ ?_
    · rw [B_takes_eq]
      simp only [gI_pI, gI_pL, gI_pR, gL_pI, gL_pL, gL_pR, gR_pI, gR_pL, gR_pR, gS_pI, gS_pL, gS_pR, ↓reduceIte, Nat.reduceEqDiff, decide_eq_true_eq, Option.bind_some, false_and, and_false, true_and, and_true, and_self, Nat.reduceAdd, not_false_eq_true, not_true_eq_false, wS, wR, inI, ite_self, Classical.not_not, ↓bnd hWA, hnz, ↓bnd (z_isWeek _ _), bI_0, h2]
    · rw [M_takes_X220_eq]
      simp only [gI_pI, gI_pL, gI_pR, gL_pI, gL_pL, gL_pR, gR_pI, gR_pL, gR_pR, gS_pI, gS_pL, gS_pR, ↓reduceIte, Nat.reduceEqDiff, decide_eq_true_eq, Option.bind_some, false_and, and_false, true_and, and_true, and_self, Nat.reduceAdd, not_false_eq_true, not_true_eq_false, wS, wR, inI, ite_self, Classical.not_not, ↓bnd (zm_isWay w0 g.1 e0 _), bI_0, h1, ↓bnd (zm_isWeek _ _), h2]
  obtain ⟨x1, r1, r2, r3⟩ := z_take w0 g c f kn
  have hV := V_frc (Stk_c r2)
  have ix := I0_frc (Stk_c r2) i0
  have mx : WM x1 j D := WM_eq (fun a k z1 z2 => fr_I r2 (by simp only [Stk, decide_eq_false_iff_not]; omega)) m
  obtain ⟨x2, s1, s2, s3⟩ := zm_takesAll ix (w := j) (by omega) f mx h2.2
  rw [hV] at s3
  have hV2 := V_frm (S824_m s2)
  have i2 := I0_frm (S824_m s2) ix
  have t1 := zm_tk_29 i2 s3 k0 (nM (V h)) 0 0 (by rw [hV2, hV]; omega) (Nat.le_refl _)
  have hlen := flF_len (P := tkB (V h) D kn) (nM (V h)) 0
  refine ⟨pickL k0 0 (tkL (V h) D kn), x1, x2, ?_, ?_, Stk_c r2, S824_m s2⟩
  · obtain ⟨vS, vR, -, -⟩ := ok_fr r2 w0
    have l0 := r3.1
    unfold tkL at l0 ⊢
    have hl3 := r3.2
    unfold tkL at hl3
    have r1' : Ft_take (gR h 64 3) (gR h 64 0) (gR h 82 j) kn h = some x1 := by
      simp only [wR]
      exact r1
    rw [B_takes_eq]
    try simp only [wS, wR, ↓reduceIte]
    simp only [gI_pI, gI_pL, gI_pR, gL_pI, gL_pL, gL_pR, gR_pI, gR_pL, gR_pR, gS_pI, gS_pL, gS_pR, ↓reduceIte, Nat.reduceEqDiff, decide_eq_true_eq, Option.bind_some, false_and, and_false, true_and, and_true, and_self, Nat.reduceAdd, not_false_eq_true, not_true_eq_false, wS, wR, inI, ite_self, Classical.not_not, ↓bnd hWA, hnz, ↓bnd (z_isWeek _ _), bI_0, h2, ↓bnd r1', vS, vR, l0]
    by_cases q : k0 = -1
    · rw [if_neg (not_not_intro q), q, pick_m1 _ _ (by omega), Nat.zero_add]
    · rw [if_pos q]
      have hsub : (nI (flF (tkB (V h) D kn) (nM (V h)) 0).length - 1).toInt = ((flF (tkB (V h) D kn) (nM (V h)) 0).length : Int) - 1 := by
        rw [sub1 (n := 100) (by rw [inI, nJ_i (by omega)]; omega), nJ_i (by omega)]
      by_cases q2 : 0 ≤ k0.toInt ∧ k0.toInt ≤ ((flF (tkB (V h) D kn) (nM (V h)) 0).length : Int) - 1
      · obtain ⟨k, rfl, hk, hk2, hk3⟩ := nI_ex q2
        have hkl : k < (flF (tkB (V h) D kn) (nM (V h)) 0).length := by omega
        have hg := List.getElem?_eq_getElem hkl
        have hk100 : k < 100 := by omega
        have hv := hl3 k _ hg
        rw [pick_at (k := k) _ 0 (by omega) (by omega) (by rw [Nat.sub_zero]; exact hg)]
        rw [bnd (z_isWithin _ _ _ _), if_neg (by rw [bI_0, hsub]; exact not_not_intro q2)]
        simp (disch := omega) only [gI_pI, gI_pL, gI_pR, gL_pI, gL_pL, gL_pR, gR_pI, gR_pL, gR_pR, gS_pI, gS_pL, gS_pR, ↓reduceIte, Nat.reduceEqDiff, decide_eq_true_eq, Option.bind_some, false_and, and_false, true_and, and_true, and_self, Nat.reduceAdd, not_false_eq_true, not_true_eq_false, wS, wR, inI, ite_self, Classical.not_not, vS, vR, ax_in, nJ_nn, nJ_n, hk100, hv]
      · rw [bnd (z_isWithin _ _ _ _), if_pos (by rw [bI_0, hsub]; exact q2), pick_no q _ _ (by omega) (by omega)]
  · have hT : M_takesAll 159 (nI j) kn x1 = some x2 := s1
    obtain ⟨vS, vR, -, -⟩ := ok_fr r2 w0
    have e1 := ix.2.1
    have g1 := ix.2.2.1
    have h1' : inI (nI j) 0 ((V x1 65 4).toInt - 1) := by rw [hV]; exact h1
    rw [M_takes_X220_eq]
    simp only [vS, vR, ↓reduceIte, ↓bnd (zm_isWay ix.1 g1 e1 _), bI_0, inI, h1', ↓bnd (zm_isWeek _ _), h2, ↓bnd hT, and_self, not_true_eq_false, decide_false, decide_true, not_false_eq_true, Bool.false_eq_true]
    exact t1
