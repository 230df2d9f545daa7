/-! each: the reference's, and both -/
def S194 (a _k : Nat) : Bool := decide (a = 194)
theorem S194_m {h h' : ax_H} (q : fr S194 h h') : fr Sm h h' := fr_le q fun a k z => by simp only [Sm, S194, decide_eq_false_iff_not] at z ⊢; omega
/-- what is left out from the i-th image on -/
def lfB (P c : Nat → Bool) (i j : Nat) : Bool := P j && (decide (i ≤ j) || !c j)
theorem ISO_lf {h : ax_H} {P c : Nat → Bool} {i : Nat} (hi : i < 100) (is : ISO h (lfB P c i)) : ISO (pI h 194 i (bB (!(P i && !c i)))) (lfB P c (i + 1)) := fun j hj => by
  have hV : V (pI h 194 i (bB (!(P i && !c i)))) = V h := V_frm (S194_m (fr_pI rfl))
  rw [hV] at hj
  rw [gI_pI]
  unfold lfB
  by_cases q : j = i
  · subst q
    rw [if_pos ⟨rfl, rfl⟩, decide_eq_false (by omega), Bool.false_or]
  · rw [if_neg (fun z => q z.2), is j hj]
    unfold lfB
    have : decide (i ≤ j) = decide (i + 1 ≤ j) := by
      by_cases q2 : i ≤ j
      · rw [decide_eq_true q2, decide_eq_true (by omega)]
      · rw [decide_eq_false q2, decide_eq_false (by omega)]
    rw [this]
theorem ISO_end {h : ax_H} {P c : Nat → Bool} (is : ISO h (lfB P c (nM (V h)))) : ISO h (fun j => P j && !c j) := fun j hj => by
  rw [is j hj]
  unfold lfB
  rw [decide_eq_false (by omega), Bool.false_or]
theorem ISO_beg {h : ax_H} {P c : Nat → Bool} (is : ISO h P) : ISO h (lfB P c 0) := fun j hj => by
  rw [is j hj]
  unfold lfB
  rw [decide_eq_true (Nat.zero_le _), Bool.true_or, Bool.and_true]
def eaC (V : BV) (u k : Nat) (i : Nat) : Bool := decide ((if u = 0 then V 75 i else V 76 i) = nI k)
theorem zm_ea_67 {w u k : Nat} (hu : u < 2) (kn : Int32) {P : Nat → Bool} : ∀ (m i : Nat) (h : ax_H), I0 h → ISO h (lfB P (eaC (V h) u k) i) → i + m = nM (V h) → ∃ h', M_each_67 159 (nI w) kn (nI u) (nI k) (nI i) h = M_each_67 159 (nI w) kn (nI u) (nI k) (nI (nM (V h))) h' ∧ fr S194 h h' ∧ ISO h' (fun j => P j && !eaC (V h) u k j) := by
  intro m
  induction m with
  | zero =>
    intro i h i0 is hi
    have : i = nM (V h) := by omega
    subst this
    exact ⟨h, rfl, fr_rf _ _, ISO_end is⟩
  | succ m ih =>
    intro i h i0 is hi
    have i00 := i0
    obtain ⟨w0, e0, g⟩ := i0
    have hcn := cnts g.1
    have hn := nI_nM g.1.2.2.2.1
    obtain ⟨wS, wR, wG, wN⟩ := w0
    have e := EQ_a e0
    unfold EQa at e
    have hle : ¬ nI (nM (V h)) ≤ nI i := by rw [nJ_le (by omega) (by omega)]; omega
    have hi2 : i < 100 := by omega
    have tn : (nI i).toNatClampNeg = i := nJ_n (by omega)
    have nn : ¬ nI i < 0 := nJ_nn (by omega)
    have hP := is i (by omega)
    have hP' : gI h 194 i = bB (!P i) := by
      rw [hP]
      unfold lfB
      rw [decide_eq_true (Nat.le_refl _), Bool.true_or, Bool.and_true]
    have z1 : (0 : Int32) &&& 1 = 0 := by decide
    have z2 : (1 : Int32) &&& 1 = 1 := by decide
    have F1 : fr S194 h (pI h 194 i (bB (!(P i && !eaC (V h) u k i)))) := fr_pI rfl
    have hV := V_frm (S194_m F1)
    obtain ⟨h', r1, r2, r3⟩ := ih (i + 1) _ (I0_frm (S194_m F1) i00) (by rw [hV]; exact ISO_lf hi2 is) (by rw [hV]; omega)
    rw [hV] at r1 r3
    refine ⟨h', ?_, fr_tr F1 r2, r3⟩
    rw [← r1, M_each_67_eq]
    cases hp : P i with
    | false =>
      rw [hp] at hP'
      simp only [gI_pI, gI_pL, gI_pR, gL_pI, gL_pL, gL_pR, gR_pI, gR_pL, gR_pR, gS_pI, gS_pL, gS_pR, ↓reduceIte, Nat.reduceEqDiff, decide_eq_true_eq, Option.bind_some, false_and, and_false, true_and, and_true, and_self, Nat.reduceAdd, not_false_eq_true, not_true_eq_false, wS, wR, inI, ite_self, Classical.not_not, e, hn, hle, ax_in, tn, nn, hi2, hP', show ¬ bB (!false) = 0 by decide, z2, nJ_p1]
      rfl
    | true =>
      rw [hp] at hP'
      rw [Bool.true_and]
      match u, hu with
      | 0, _ =>
        by_cases q : V h 75 i = nI k
        · have : eaC (V h) 0 k i = true := by unfold eaC; rw [if_pos rfl, decide_eq_true q]
          rw [this]
          simp only [gI_pI, gI_pL, gI_pR, gL_pI, gL_pL, gL_pR, gR_pI, gR_pL, gR_pR, gS_pI, gS_pL, gS_pR, ↓reduceIte, Nat.reduceEqDiff, decide_eq_true_eq, Option.bind_some, false_and, and_false, true_and, and_true, and_self, Nat.reduceAdd, not_false_eq_true, not_true_eq_false, wS, wR, inI, ite_self, Classical.not_not, e, hn, hle, ax_in, tn, nn, hi2, hP', show bB (!true) = 0 from rfl, show nI 0 = 0 from rfl, q, z2, nJ_p1]
          rfl
        · have : eaC (V h) 0 k i = false := by unfold eaC; rw [if_pos rfl, decide_eq_false q]
          rw [this]
          simp only [gI_pI, gI_pL, gI_pR, gL_pI, gL_pL, gL_pR, gR_pI, gR_pL, gR_pR, gS_pI, gS_pL, gS_pR, ↓reduceIte, Nat.reduceEqDiff, decide_eq_true_eq, Option.bind_some, false_and, and_false, true_and, and_true, and_self, Nat.reduceAdd, not_false_eq_true, not_true_eq_false, wS, wR, inI, ite_self, Classical.not_not, e, hn, hle, ax_in, tn, nn, hi2, hP', show bB (!true) = 0 from rfl, show nI 0 = 0 from rfl, q, z1, nJ_p1]
          rfl
      | 1, _ =>
        by_cases q : V h 76 i = nI k
        · have : eaC (V h) 1 k i = true := by unfold eaC; rw [if_neg (by decide), decide_eq_true q]
          rw [this]
          simp only [gI_pI, gI_pL, gI_pR, gL_pI, gL_pL, gL_pR, gR_pI, gR_pL, gR_pR, gS_pI, gS_pL, gS_pR, ↓reduceIte, Nat.reduceEqDiff, decide_eq_true_eq, Option.bind_some, false_and, and_false, true_and, and_true, and_self, Nat.reduceAdd, not_false_eq_true, not_true_eq_false, wS, wR, inI, ite_self, Classical.not_not, e, hn, hle, ax_in, tn, nn, hi2, hP', show bB (!true) = 0 from rfl, show nI 1 = 1 from rfl, i1_0, q, z2, nJ_p1]
          rfl
        · have : eaC (V h) 1 k i = false := by unfold eaC; rw [if_neg (by decide), decide_eq_false q]
          rw [this]
          simp only [gI_pI, gI_pL, gI_pR, gL_pI, gL_pL, gL_pR, gR_pI, gR_pL, gR_pR, gS_pI, gS_pL, gS_pR, ↓reduceIte, Nat.reduceEqDiff, decide_eq_true_eq, Option.bind_some, false_and, and_false, true_and, and_true, and_self, Nat.reduceAdd, not_false_eq_true, not_true_eq_false, wS, wR, inI, ite_self, Classical.not_not, e, hn, hle, ax_in, tn, nn, hi2, hP', show bB (!true) = 0 from rfl, show nI 1 = 1 from rfl, i1_0, q, z1, nJ_p1]
          rfl
def gOf (u k : Nat) : Nat := if u = 0 then k else 16 + k
theorem eaC_g {V : BV} (g : GV V) {u k : Nat} (hu : u < 2) (hk : if u = 0 then k < 16 else k < 30) {i : Nat} (hi : i < nM V) : eaC V u k i = grp V (gOf u k) i := by
  have hcn := cnts g.1
  have gi := g.2.2.2.1.1 i hi
  unfold eaC grp gOf
  match u, hu with
  | 0, _ =>
    rw [if_pos rfl] at hk
    rw [if_pos rfl, if_pos rfl, if_pos hk]
    have : (V 75 i = nI k) ↔ (V 75 i).toInt.toNat = k := by
      rw [i32_eq, nJ_i (by omega)]
      omega
    simp only [this]
  | 1, _ =>
    rw [if_neg (by decide)] at hk
    rw [show (if (1 : Nat) = 0 then k else 16 + k) = 16 + k from rfl, if_neg (show ¬ (1 : Nat) = 0 by decide), if_neg (show ¬ 16 + k < 16 by omega), if_pos (show 16 + k < 46 by omega)]
    have : (V 76 i = nI k) ↔ 16 + (V 76 i).toInt.toNat = 16 + k := by
      rw [i32_eq, nJ_i (by omega)]
      omega
    simp only [this]
theorem zm_each {h : ax_H} (i0 : I0 h) {w : Nat} (hw : w < nW' (V h)) {D : WD} (f : WF D) (m : WM h w D) {kn : Int32} (hk : 0 ≤ kn.toInt ∧ kn.toInt ≤ 9999) {u k : Nat} (hu : u < 2) (hkk : if u = 0 then k < nP (V h) else k < nS (V h)) : ∃ h', M_each 159 (nI w) kn (nI u) (nI k) h = some (anV (V h) D kn (ngr (V h) (gOf u k)) 4, h') ∧ fr Sm h h' := by
  have g := i0.2.2
  have hcn := cnts g.1
  have hn := nI_nM g.1.2.2.2.1
  obtain ⟨h1, a1, a2, a3⟩ := zm_takesAll i0 (w := w) (by omega) f m hk.2
  have hV1 := V_frm (S824_m a2)
  have i1 := I0_frm (S824_m a2) i0
  obtain ⟨h2, b1, b2, b3, b4⟩ := zm_measures i1 a3
  rw [hV1] at b3
  have hV2 : V h2 = V h := (V_frm (Sme_m b2)).trans hV1
  have i2 := I0_frm (Sme_m b2) i1
  have F2 : fr Sm h h2 := fr_tr (S824_m a2) (Sme_m b2)
  obtain ⟨h3, c1, c2, c3⟩ := zm_ea_67 (w := w) (k := k) hu kn (nM (V h2)) 0 h2 i2 (ISO_beg b4) (by omega)
  rw [hV2] at c1 c3
  have hV3 : V h3 = V h := (V_frm (S194_m c2)).trans hV2
  have i3 := I0_frm (S194_m c2) i2
  have F3 : fr Sm h h3 := fr_tr F2 (S194_m c2)
  have m3 : WM h3 w D := WM_eq (fun a k z1 z2 => fr_I F3 (by simp only [Sm, decide_eq_false_iff_not]; omega)) m
  have is3 : ISO h3 (fun i => tkB (V h3) D kn i && ngr (V h) (gOf u k) i) := fun i hi => by
    rw [c3 i hi]
    rw [hV3] at hi
    dsimp only
    rw [hV3, eaC_g g hu (by
      match u, hu with
      | 0, _ => rw [if_pos rfl] at hkk ⊢; omega
      | 1, _ => rw [if_neg (by decide)] at hkk ⊢; omega) hi]
    rfl
  obtain ⟨h4, d1, d2, d3⟩ := zm_bf i3 (w := w) (by omega) f m3 hk.2 (by rw [hV3]; exact OUT_fr c2 (hV3.trans hV2.symm) (fun _ => rfl) (fun _ => rfl) b3) is3
  rw [hV3] at d1 d3
  have F4 : fr Sm h h4 := fr_tr F3 d2
  obtain ⟨wS, wR, wG, wN⟩ := i0.1
  have S1 : gS h1 = gS h := fr_S a2
  have S3 : gS h3 = gS h := fr_S F3
  have S4 : gS h4 = gS h := fr_S F4
  have e3 := EQ_a i3.2.1
  unfold EQa at e3
  rw [hV3] at e3
  have hle : nI (nM (V h)) ≤ nI (nM (V h)) := Int32.le_refl _
  have hww : 0 ≤ (nI w).toInt ∧ (nI w).toInt ≤ (V h 65 4).toInt - 1 := by rw [nJ_i (by omega)]; omega
  have c1' : M_each_67 159 (nI w) kn (nI u) (nI k) 0 h2 = M_each_67 159 (nI w) kn (nI u) (nI k) (nI (nM (V h))) h3 := c1
  have st : M_each 159 (nI w) kn (nI u) (nI k) h = M_each_67 159 (nI w) kn (nI u) (nI k) (nI (nM (V h))) h3 := by
    rw [← c1', M_each_eq]
    match u, hu with
    | 0, _ =>
      rw [if_pos rfl] at hkk
      have hkP : 0 ≤ (nI k).toInt ∧ (nI k).toInt ≤ (V h 70 0).toInt - 1 := by rw [nJ_i (by omega)]; omega
      simp only [gI_pI, gI_pL, gI_pR, gL_pI, gL_pL, gL_pR, gR_pI, gR_pL, gR_pR, gS_pI, gS_pL, gS_pR, ↓reduceIte, Nat.reduceEqDiff, decide_eq_true_eq, Option.bind_some, false_and, and_false, true_and, and_true, and_self, Nat.reduceAdd, not_false_eq_true, not_true_eq_false, wS, wR, inI, ite_self, Classical.not_not, ↓bnd (zm_isWay i0.1 g.1 i0.2.1 _), bI_0, hww, ↓bnd (zm_isWeek _ _), hk, ↓bnd (zm_in _ _ _ _), Int32.toInt_toInt64, show nI 0 = 0 from rfl, Int32.reduceToInt, Int64.reduceToInt, tN9, tN299, tN99999, tN9999, tN99, tL9, tL299, tL99999, tL9999, tL99, i1_0, i0_1, show ((0 : Int) ≤ 0) from Int.le_refl _, show ((0 : Int) ≤ 1) by decide, ↓bnd (zm_isPlate i0.1 g.1 i0.2.1 _), hkP, ↓bnd a1, S1, ↓bnd b1]
    | 1, _ =>
      rw [if_neg (by decide)] at hkk
      have hkS : 0 ≤ (nI k).toInt ∧ (nI k).toInt ≤ (V h 66 0).toInt - 1 := by rw [nJ_i (by omega)]; omega
      simp only [gI_pI, gI_pL, gI_pR, gL_pI, gL_pL, gL_pR, gR_pI, gR_pL, gR_pR, gS_pI, gS_pL, gS_pR, ↓reduceIte, Nat.reduceEqDiff, decide_eq_true_eq, Option.bind_some, false_and, and_false, true_and, and_true, and_self, Nat.reduceAdd, not_false_eq_true, not_true_eq_false, wS, wR, inI, ite_self, Classical.not_not, ↓bnd (zm_isWay i0.1 g.1 i0.2.1 _), bI_0, hww, ↓bnd (zm_isWeek _ _), hk, ↓bnd (zm_in _ _ _ _), Int32.toInt_toInt64, show nI 1 = 1 from rfl, Int32.reduceToInt, Int64.reduceToInt, tN9, tN299, tN99999, tN9999, tN99, tL9, tL299, tL99999, tL9999, tL99, i1_0, i0_1, show ((1 : Int) ≤ 1) from Int.le_refl _, show ((0 : Int) ≤ 1) by decide, ↓bnd (zm_isStar i0.1 g.1 i0.2.1 _), hkS, ↓bnd a1, S1, ↓bnd b1]
  rw [st, M_each_67_eq]
  unfold anV agk
  cases hc : cko (V h) D kn 6 0 with
  | false =>
    rw [hc] at d1
    refine ⟨h4, ?_, F4⟩
    simp only [S3, wS, ↓reduceIte, e3, hn, hle, decide_true, ↓bnd d1, show bB false = 0 from rfl, Bool.false_and, Bool.false_eq_true]
  | true =>
    rw [hc] at d1
    obtain ⟨h5, x1, x2, x3, x4⟩ := d3 hc
    have F5 : fr Sm h h5 := fr_tr F3 x2
    have S5 : gS h5 = gS h := fr_S F5
    have R5 : gR h5 = gR h := fr_R F5
    refine ⟨h5, ?_, F5⟩
    have t4 : Int32.toNatClampNeg 4 = 4 := rfl
    cases hs : slB (SP (V h) D kn (ngr (V h) (gOf u k))) (FT D).length with
    | false =>
      rw [hs] at x1
      simp only [S3, S4, wS, ↓reduceIte, e3, hn, hle, decide_true, ↓bnd d1, show ¬ bB true = 0 by decide, decide_false, ↓bnd x1, show bB false = 0 from rfl, Bool.and_false, Bool.false_eq_true]
    | true =>
      rw [hs] at x1
      have v := x4 hs 4 (by omega)
      have hb := anZ_bd i0.2.2.2.2.2.1 f (cko_ok.mp hc) hs (t := 4) (by omega)
      simp only [S3, S4, S5, R5, wS, wR, ↓reduceIte, e3, hn, hle, decide_true, ↓bnd d1, show ¬ bB true = 0 by decide, decide_false, ↓bnd x1, Bool.and_true, Bool.false_eq_true, ax_in, t4, show ¬ (4 : Int32) < 0 by decide, show (4 : Nat) < 6 by decide, not_false_eq_true, and_self, v, l_i32 (z := anZ (V h) D kn (SP (V h) D kn (ngr (V h) (gOf u k))) 4) (by omega)]
theorem qy_each {h : ax_H} (i : I0 h) (iw : IW h) (a kn b k : Int32) : qry (B_each 64 a kn b k h) (M_each 159 a kn b k) h := by
  have i0 := i
  obtain ⟨w, e, g⟩ := i
  have hcn := cnts g.1
  have w0 := w
  obtain ⟨wS, wR, wG, wN⟩ := w
  by_cases h1 : 0 ≤ a.toInt ∧ a.toInt ≤ (V h 65 4).toInt - 1
  case neg =>
    refine qry_no (v := -2000000000) ?_ ?_
    · rw [B_each_eq]
      try simp only [wS, wR, ↓reduceIte]
      simp only [gI_pI, gI_pL, gI_pR, gL_pI, gL_pL, gL_pR, gR_pI, gR_pL, gR_pR, gS_pI, gS_pL, gS_pR, ↓reduceIte, Nat.reduceEqDiff, decide_eq_true_eq, Option.bind_some, false_and, and_false, true_and, and_true, and_self, Nat.reduceAdd, not_false_eq_true, not_true_eq_false, wS, wR, inI, ite_self, Classical.not_not, ↓bnd (z_wayNo w0 g.1 h1)]
    · rw [M_each_eq]
      simp only [gI_pI, gI_pL, gI_pR, gL_pI, gL_pL, gL_pR, gR_pI, gR_pL, gR_pR, gS_pI, gS_pL, gS_pR, ↓reduceIte, Nat.reduceEqDiff, decide_eq_true_eq, Option.bind_some, false_and, and_false, true_and, and_true, and_self, Nat.reduceAdd, not_false_eq_true, not_true_eq_false, wS, wR, inI, ite_self, Classical.not_not, ↓bnd (zm_isWay w0 g.1 e _), bI_0, h1]
  obtain ⟨j, rfl, hj, hj2, hj3⟩ := nI_ex h1
  obtain ⟨D, c, m, f⟩ := iw j (by omega)
  have hnz : ¬ gR h 82 j = 0 := by have := c.1; omega
  have hWA := z_wayAt w0 g.1 (j := j) (by omega)
  by_cases h2 : 0 ≤ kn.toInt ∧ kn.toInt ≤ 9999
  case neg =>
    refine qry_no (v := -2000000000) ?_ ?_
    · rw [B_each_eq]
      try simp only [wS, wR, ↓reduceIte]
      simp only [gI_pI, gI_pL, gI_pR, gL_pI, gL_pL, gL_pR, gR_pI, gR_pL, gR_pR, gS_pI, gS_pL, gS_pR, ↓reduceIte, Nat.reduceEqDiff, decide_eq_true_eq, Option.bind_some, false_and, and_false, true_and, and_true, and_self, Nat.reduceAdd, not_false_eq_true, not_true_eq_false, wS, wR, inI, ite_self, Classical.not_not, ↓bnd hWA, hnz, ↓bnd (z_isWeek _ _), bI_0, h2]
    · rw [M_each_eq]
      simp only [gI_pI, gI_pL, gI_pR, gL_pI, gL_pL, gL_pR, gR_pI, gR_pL, gR_pR, gS_pI, gS_pL, gS_pR, ↓reduceIte, Nat.reduceEqDiff, decide_eq_true_eq, Option.bind_some, false_and, and_false, true_and, and_true, and_self, Nat.reduceAdd, not_false_eq_true, not_true_eq_false, wS, wR, inI, ite_self, Classical.not_not, ↓bnd (zm_isWay w0 g.1 e _), bI_0, h1, ↓bnd (zm_isWeek _ _), h2]
  by_cases h3 : b = 0 ∨ b = 1
  case neg =>
    have h3' : ¬ (0 ≤ b.toInt ∧ b.toInt ≤ 1) := fun q => h3 (ch_iff.mp q)
    refine qry_no (v := -2000000000) ?_ ?_
    · rw [B_each_eq]
      try simp only [wS, wR, ↓reduceIte]
      simp only [gI_pI, gI_pL, gI_pR, gL_pI, gL_pL, gL_pR, gR_pI, gR_pL, gR_pR, gS_pI, gS_pL, gS_pR, ↓reduceIte, Nat.reduceEqDiff, decide_eq_true_eq, Option.bind_some, false_and, and_false, true_and, and_true, and_self, Nat.reduceAdd, not_false_eq_true, not_true_eq_false, wS, wR, inI, ite_self, Classical.not_not, ↓bnd hWA, hnz, ↓bnd (z_isWeek _ _), ↓bnd (z_isChoice _ _), bI_0, h2, h3]
    · rw [M_each_eq]
      simp only [gI_pI, gI_pL, gI_pR, gL_pI, gL_pL, gL_pR, gR_pI, gR_pL, gR_pR, gS_pI, gS_pL, gS_pR, ↓reduceIte, Nat.reduceEqDiff, decide_eq_true_eq, Option.bind_some, false_and, and_false, true_and, and_true, and_self, Nat.reduceAdd, not_false_eq_true, not_true_eq_false, wS, wR, inI, ite_self, Classical.not_not, ↓bnd (zm_isWay w0 g.1 e _), bI_0, h1, ↓bnd (zm_isWeek _ _), ↓bnd (zm_in _ _ _ _), h2, h3', Int32.toInt_toInt64, Int32.reduceToInt, Int64.reduceToInt, tN9, tN299, tN99999, tN9999, tN99, tL9, tL299, tL99999, tL9999, tL99, i1_0, i0_1]
  rcases h3 with rfl | rfl
  · by_cases h4 : 0 ≤ k.toInt ∧ k.toInt ≤ (V h 70 0).toInt - 1
    case neg =>
      refine qry_no (v := -2000000000) ?_ ?_
      · rw [B_each_eq]
        try simp only [wS, wR, ↓reduceIte]
        simp only [gI_pI, gI_pL, gI_pR, gL_pI, gL_pL, gL_pR, gR_pI, gR_pL, gR_pR, gS_pI, gS_pL, gS_pR, ↓reduceIte, Nat.reduceEqDiff, decide_eq_true_eq, Option.bind_some, false_and, and_false, true_and, and_true, and_self, Nat.reduceAdd, not_false_eq_true, not_true_eq_false, wS, wR, inI, ite_self, Classical.not_not, ↓bnd hWA, hnz, ↓bnd (z_isWeek _ _), ↓bnd (z_isChoice _ _), bI_0, h2, true_or, ↓bnd (z_Pl_has w0 g.1 _), h4]
      · rw [M_each_eq]
        simp only [gI_pI, gI_pL, gI_pR, gL_pI, gL_pL, gL_pR, gR_pI, gR_pL, gR_pR, gS_pI, gS_pL, gS_pR, ↓reduceIte, Nat.reduceEqDiff, decide_eq_true_eq, Option.bind_some, false_and, and_false, true_and, and_true, and_self, Nat.reduceAdd, not_false_eq_true, not_true_eq_false, wS, wR, inI, ite_self, Classical.not_not, ↓bnd (zm_isWay w0 g.1 e _), bI_0, h1, ↓bnd (zm_isWeek _ _), ↓bnd (zm_in _ _ _ _), h2, Int32.toInt_toInt64, Int32.reduceToInt, Int64.reduceToInt, tN9, tN299, tN99999, tN9999, tN99, tL9, tL299, tL99999, tL9999, tL99, i1_0, i0_1, show ((0 : Int) ≤ 0) from Int.le_refl _, show ((0 : Int) ≤ 1) by decide, ↓bnd (zm_isPlate w0 g.1 e _), h4]
    obtain ⟨k', rfl, hk', hk2, hk3⟩ := nI_ex h4
    obtain ⟨x1, r1, r2⟩ := z_each w0 g f c kn (gr := k') (by omega)
    have hV := V_frc r2
    have ix := I0_frc r2 i0
    obtain ⟨x2, s1, s2⟩ := zm_each ix (w := j) (by rw [hV]; omega) f (WM_c r2 m) h2 (u := 0) (k := k') (by omega) (by rw [if_pos rfl, hV]; omega)
    rw [hV] at s1
    refine ⟨_, x1, x2, ?_, s1, r2, s2⟩
    rw [B_each_eq]
    try simp only [wS, wR, ↓reduceIte]
    simp only [gI_pI, gI_pL, gI_pR, gL_pI, gL_pL, gL_pR, gR_pI, gR_pL, gR_pR, gS_pI, gS_pL, gS_pR, ↓reduceIte, Nat.reduceEqDiff, decide_eq_true_eq, Option.bind_some, false_and, and_false, true_and, and_true, and_self, Nat.reduceAdd, not_false_eq_true, not_true_eq_false, wS, wR, inI, ite_self, Classical.not_not, ↓bnd hWA, hnz, ↓bnd (z_isWeek _ _), ↓bnd (z_isChoice _ _), bI_0, h2, true_or, ↓bnd (z_Pl_has w0 g.1 _), h4]
    exact r1
  · by_cases h4 : 0 ≤ k.toInt ∧ k.toInt ≤ (V h 66 0).toInt - 1
    case neg =>
      refine qry_no (v := -2000000000) ?_ ?_
      · rw [B_each_eq]
        try simp only [wS, wR, ↓reduceIte]
        simp only [gI_pI, gI_pL, gI_pR, gL_pI, gL_pL, gL_pR, gR_pI, gR_pL, gR_pR, gS_pI, gS_pL, gS_pR, ↓reduceIte, Nat.reduceEqDiff, decide_eq_true_eq, Option.bind_some, false_and, and_false, true_and, and_true, and_self, Nat.reduceAdd, not_false_eq_true, not_true_eq_false, wS, wR, inI, ite_self, Classical.not_not, ↓bnd hWA, hnz, ↓bnd (z_isWeek _ _), ↓bnd (z_isChoice _ _), bI_0, h2, or_true, i1_0, ↓bnd (z_St_has w0 g.1 _), h4]
      · rw [M_each_eq]
        simp only [gI_pI, gI_pL, gI_pR, gL_pI, gL_pL, gL_pR, gR_pI, gR_pL, gR_pR, gS_pI, gS_pL, gS_pR, ↓reduceIte, Nat.reduceEqDiff, decide_eq_true_eq, Option.bind_some, false_and, and_false, true_and, and_true, and_self, Nat.reduceAdd, not_false_eq_true, not_true_eq_false, wS, wR, inI, ite_self, Classical.not_not, ↓bnd (zm_isWay w0 g.1 e _), bI_0, h1, ↓bnd (zm_isWeek _ _), ↓bnd (zm_in _ _ _ _), h2, Int32.toInt_toInt64, Int32.reduceToInt, Int64.reduceToInt, tN9, tN299, tN99999, tN9999, tN99, tL9, tL299, tL99999, tL9999, tL99, i1_0, i0_1, show ((1 : Int) ≤ 1) from Int.le_refl _, show ((0 : Int) ≤ 1) by decide, ↓bnd (zm_isStar w0 g.1 e _), h4]
    obtain ⟨k', rfl, hk', hk2, hk3⟩ := nI_ex h4
    obtain ⟨x1, r1, r2⟩ := z_each w0 g f c kn (gr := 16 + k') (by omega)
    have hV := V_frc r2
    have ix := I0_frc r2 i0
    obtain ⟨x2, s1, s2⟩ := zm_each ix (w := j) (by rw [hV]; omega) f (WM_c r2 m) h2 (u := 1) (k := k') (by omega) (by rw [if_neg (by decide), hV]; omega)
    rw [hV] at s1
    refine ⟨_, x1, x2, ?_, s1, r2, s2⟩
    have e16 : (16 : Int32) + nI k' = nI (16 + k') := by rw [show (16 : Int32) = nI 16 from rfl, nI_add]
    rw [B_each_eq]
    try simp only [wS, wR, ↓reduceIte]
    simp only [gI_pI, gI_pL, gI_pR, gL_pI, gL_pL, gL_pR, gR_pI, gR_pL, gR_pR, gS_pI, gS_pL, gS_pR, ↓reduceIte, Nat.reduceEqDiff, decide_eq_true_eq, Option.bind_some, false_and, and_false, true_and, and_true, and_self, Nat.reduceAdd, not_false_eq_true, not_true_eq_false, wS, wR, inI, ite_self, Classical.not_not, ↓bnd hWA, hnz, ↓bnd (z_isWeek _ _), ↓bnd (z_isChoice _ _), bI_0, h2, or_true, i1_0, ↓bnd (z_St_has w0 g.1 _), h4, e16]
    exact r1
