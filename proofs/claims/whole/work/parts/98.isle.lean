/-! joined, quarrel -/
def isB (V : BV) (x : Int32) (i : Nat) : Bool := decide (V 71 (V 75 i).toInt.toNat = x)
def isP (V : BV) (x : Int32) (p i : Nat) : Bool := decide ((V 75 i).toInt.toNat < p) && isB V x i
theorem SP_cg {V : BV} {D : WD} {kn : Int32} {P Q : Nat → Bool} (h : ∀ i, i < nM V → P i = Q i) (k : Nat) : SP V D kn P k = SP V D kn Q k := by
  rw [SP_ite, SP_ite]
  refine sg_cg fun i hi => ?_
  rw [h i (tkL_lt hi)]
theorem SP_isP {V : BV} {D : WD} {kn : Int32} {x : Int32} {p : Nat} (hp : p < 16) (k : Nat) : SP V D kn (isP V x (p + 1)) k = SP V D kn (isP V x p) k + (if V 71 p = x then SP V D kn (grp V p) k else 0) := by
  rw [SP_ite, SP_ite, SP_ite]
  have e : (if V 71 p = x then sg (fun i => if grp V p i then rowv V (FT D) (dZ V D kn) i k else 0) (tkL V D kn) else 0) = sg (fun i => if V 71 p = x then (if grp V p i then rowv V (FT D) (dZ V D kn) i k else 0) else 0) (tkL V D kn) := by
    by_cases q : V 71 p = x
    · rw [if_pos q]
      exact sg_cg fun i _ => by rw [if_pos q]
    · rw [if_neg q]
      exact (sg_0 fun i _ => by rw [if_neg q]).symm
  rw [e, ← sg_add]
  refine sg_cg fun i _ => ?_
  unfold isP isB grp
  rw [if_pos hp]
  by_cases q : (V 75 i).toInt.toNat = p
  · rw [decide_eq_true (show (V 75 i).toInt.toNat < p + 1 by omega), decide_eq_false (show ¬ (V 75 i).toInt.toNat < p by omega), Bool.true_and, Bool.false_and, decide_eq_true q, q]
    by_cases q2 : V 71 p = x
    · rw [decide_eq_true q2, if_pos rfl, if_neg (by decide), if_pos q2, Int.zero_add]
    · rw [decide_eq_false q2, if_neg (show ¬ false = true by decide), if_neg q2, Int.zero_add]
  · have : decide ((V 75 i).toInt.toNat < p + 1) = decide ((V 75 i).toInt.toNat < p) := by
      by_cases q2 : (V 75 i).toInt.toNat < p
      · rw [decide_eq_true q2, decide_eq_true (by omega)]
      · rw [decide_eq_false q2, decide_eq_false (by omega)]
    rw [this, decide_eq_false q, if_neg (show ¬ false = true by decide), ite_self, Int.add_zero]
theorem z_si_6 {D : WD} (f : WF D) {kn : Int32} (x : Int32) : ∀ (m p : Nat) (h : ax_H), p + m = nP (V h) → ok h → GV (V h) → ckOk (V h) D kn → OP h (V h) D kn → (∀ k, k < 13 → gL h 155 k = Int64.ofInt (SP (V h) D kn (isP (V h) x p) k)) → ∃ h', Ft_solveIsland_6 99 65 x (nI p) h = some (bB (slB (SP (V h) D kn (isB (V h) x)) (FT D).length), h') ∧ fr S1x h h' ∧ OP h' (V h) D kn ∧ gL h' 155 12 = Int64.ofInt (SP (V h) D kn (isB (V h) x) 12) ∧ (slB (SP (V h) D kn (isB (V h) x)) (FT D).length = true → ∀ t, t < 6 → gI h' 101 t = Int32.ofInt (anZ (V h) D kn (SP (V h) D kn (isB (V h) x)) t)) := by
  intro m
  induction m with
  | zero =>
    intro p h hp w g hc o hL
    have hcn := cnts g.1
    have hnP := nI_nP g.1.2.2.1
    have w0 := w
    obtain ⟨wS, wR, wG, wN⟩ := w
    have hle : nI (nP (V h)) ≤ nI p := by rw [nJ_le (by omega) (by omega)]; omega
    have eP : ∀ k, SP (V h) D kn (isP (V h) x p) k = SP (V h) D kn (isB (V h) x) k := SP_cg fun i hi => by
      have := (g.2.2.2.1.1 i hi).1
      unfold isP
      rw [decide_eq_true (by omega), Bool.true_and]
    have hL' : ∀ k, k < 13 → gL h 155 k = Int64.ofInt (SP (V h) D kn (isB (V h) x) k) := fun k hk => by rw [hL k hk, eP]
    obtain ⟨h', r1, r2, r3, r4⟩ := z_sol w0 g f hc o hL'
    refine ⟨h', ?_, S101_x r2, r3, (fr_L r2 rfl).trans (hL' 12 (by omega)), r4⟩
    rw [Ft_solveIsland_6_eq]
    try simp only [wS, wR, ↓reduceIte]
    simp only [gI_pI, gI_pL, gI_pR, gL_pI, gL_pL, gL_pR, gR_pI, gR_pL, gR_pR, gS_pI, gS_pL, gS_pR, ↓reduceIte, Nat.reduceEqDiff, decide_eq_true_eq, Option.bind_some, false_and, and_false, true_and, and_true, and_self, Nat.reduceAdd, not_false_eq_true, not_true_eq_false, wS, wR, inI, ite_self, Classical.not_not, cV65, cV66, cV67, cV68, cV69, cV70, cV71, cV72, cV73, cV74, cV75, cV76, cV77, cV78, cV79, cV80, cV81, cV82, cV83, cV84, cV85, cV86, cV87, cV88, cV89, cV90, hnP, hle, ↓bnd r1]
    cases slB (SP (V h) D kn (isB (V h) x)) (FT D).length <;> rfl
  | succ m ih =>
    intro p h hp w g hc o hL
    have hcn := cnts g.1
    have hnP := nI_nP g.1.2.2.1
    have w0 := w
    obtain ⟨wS, wR, wG, wN⟩ := w
    have hle : ¬ nI (nP (V h)) ≤ nI p := by rw [nJ_le (by omega) (by omega)]; omega
    have tp : (nI p).toNatClampNeg = p := nJ_n (by omega)
    have np : ¬ nI p < 0 := nJ_nn (by omega)
    have hp16 : p < 16 := by omega
    have hp47 : p < 47 := by omega
    have q1 := wG.1 p hp47
    have q2 := wG.2 p hp47
    have s155 : gS h 155 = (17, 13) := by simp only [wS]
    by_cases c : V h 71 p = x
    · obtain ⟨h1, a1, a2, a3⟩ := z_addSum (x := 155) (y := 108 + p) (by omega) (h := h) s155 q2
      have F : fr S155 h h1 := a2
      have hV := V_frc (S155_c F)
      obtain ⟨h', r1, r2, r3, r4, r5⟩ := ih (p + 1) h1 (by rw [hV]; omega) (ok_fr F w0) (by rw [hV]; exact g) (by rw [hV]; exact hc) (by rw [hV]; exact OP_155 f F o) (fun k hk => by
        rw [a3 k hk, hL k hk, o.2.2.2.1 p hp47 k hk, hV, SP_isP hp16, if_pos c, Int64.ofInt_add])
      rw [hV] at r1 r3 r4 r5
      refine ⟨h', ?_, fr_tr (S155_x F) r2, r3, r4, r5⟩
      have a1' : Ft_addSum 155 (gR h 107 (Int32.toNatClampNeg (nI p))) h = some h1 := by
        rw [tp, q1]
        exact a1
      rw [← r1, Ft_solveIsland_6_eq]
      try simp only [wS, wR, ↓reduceIte]
      simp only [gI_pI, gI_pL, gI_pR, gL_pI, gL_pL, gL_pR, gR_pI, gR_pL, gR_pR, gS_pI, gS_pL, gS_pR, ↓reduceIte, Nat.reduceEqDiff, decide_eq_true_eq, Option.bind_some, false_and, and_false, true_and, and_true, and_self, Nat.reduceAdd, not_false_eq_true, not_true_eq_false, wS, wR, inI, ite_self, Classical.not_not, cV65, cV66, cV67, cV68, cV69, cV70, cV71, cV72, cV73, cV74, cV75, cV76, cV77, cV78, cV79, cV80, cV81, cV82, cV83, cV84, cV85, cV86, cV87, cV88, cV89, cV90, hnP, hle, ax_in, tp, np, hp16, hp47, c, ↓bnd a1', q1, ↓bnd a1, nJ_p1]
    · obtain ⟨h', r1, r2, r3, r4, r5⟩ := ih (p + 1) h (by omega) w0 g hc o (fun k hk => by rw [hL k hk, SP_isP hp16, if_neg c, Int.add_zero])
      refine ⟨h', ?_, r2, r3, r4, r5⟩
      rw [← r1, Ft_solveIsland_6_eq]
      try simp only [wS, wR, ↓reduceIte]
      simp only [gI_pI, gI_pL, gI_pR, gL_pI, gL_pL, gL_pR, gR_pI, gR_pL, gR_pR, gS_pI, gS_pL, gS_pR, ↓reduceIte, Nat.reduceEqDiff, decide_eq_true_eq, Option.bind_some, false_and, and_false, true_and, and_true, and_self, Nat.reduceAdd, not_false_eq_true, not_true_eq_false, wS, wR, inI, ite_self, Classical.not_not, cV65, cV66, cV67, cV68, cV69, cV70, cV71, cV72, cV73, cV74, cV75, cV76, cV77, cV78, cV79, cV80, cV81, cV82, cV83, cV84, cV85, cV86, cV87, cV88, cV89, cV90, hnP, hle, ax_in, tp, np, hp16, c, nJ_p1]
theorem z_solveIsland {h : ax_H} (w : ok h) (g : GV (V h)) {D : WD} (f : WF D) {kn : Int32} (hc : ckOk (V h) D kn) (o : OP h (V h) D kn) (x : Int32) : ∃ h', Ft_solveIsland 99 65 x h = some (bB (slB (SP (V h) D kn (isB (V h) x)) (FT D).length), h') ∧ fr S1x h h' ∧ OP h' (V h) D kn ∧ gL h' 155 12 = Int64.ofInt (SP (V h) D kn (isB (V h) x) 12) ∧ (slB (SP (V h) D kn (isB (V h) x)) (FT D).length = true → ∀ t, t < 6 → gI h' 101 t = Int32.ofInt (anZ (V h) D kn (SP (V h) D kn (isB (V h) x)) t)) := by
  obtain ⟨h1, a1, a2, a3⟩ := z_clearSum w
  have hV := V_frc (S155_c a2)
  obtain ⟨h', r1, r2, r3, r4, r5⟩ := z_si_6 f (kn := kn) x (nP (V h1)) 0 h1 (by omega) (ok_fr a2 w) (by rw [hV]; exact g) (by rw [hV]; exact hc) (by rw [hV]; exact OP_155 f a2 o) (fun k hk => by
    rw [a3 k hk, SP_ite, sg_0]
    · rfl
    · intro i _
      unfold isP
      rw [decide_eq_false (by omega), Bool.false_and, if_neg (by decide)])
  rw [hV] at r1 r3 r4 r5
  obtain ⟨wS, wR, wG, wN⟩ := w
  refine ⟨h', ?_, fr_tr (S155_x a2) r2, r3, r4, r5⟩
  rw [Ft_solveIsland_eq]
  simp only [wS, ↓reduceIte, ↓bnd a1]
  exact r1
theorem zm_al_13 {w : Nat} (kn x : Int32) {P : Nat → Bool} : ∀ (m i : Nat) (h : ax_H), I0 h → ISO h (lfB P (fun j => !isB (V h) x j) i) → i + m = nM (V h) → ∃ h', M_alone_13 159 (nI w) kn x (nI i) h = M_alone_13 159 (nI w) kn x (nI (nM (V h))) h' ∧ fr S194 h h' ∧ ISO h' (fun j => P j && !!isB (V h) x j) := by
  intro m
  induction m with
  | zero =>
    intro i h i0 is hi
    have : i = nM (V h) := by omega
    subst this
    exact ⟨h, rfl, fr_rf _ _, ISO_end is⟩
  | succ m ih =>
    intro i h i0 is hi
    have i00 := i0
    obtain ⟨w0, e0, g⟩ := i0
    have hcn := cnts g.1
    have hn := nI_nM g.1.2.2.2.1
    obtain ⟨wS, wR, wG, wN⟩ := w0
    have e := EQ_a e0
    unfold EQa at e
    have hle : ¬ nI (nM (V h)) ≤ nI i := by rw [nJ_le (by omega) (by omega)]; omega
    have hi2 : i < 100 := by omega
    have tn : (nI i).toNatClampNeg = i := nJ_n (by omega)
    have nn : ¬ nI i < 0 := nJ_nn (by omega)
    obtain ⟨p, hp, hp2, hp3, hp4⟩ := nI_ex (g.2.2.2.1.1 i (by omega)).1
    have hp5 : p < 16 := by omega
    have hp6 : (V h 75 i).toInt.toNat = p := by omega
    have tp : (nI p).toNatClampNeg = p := nJ_n (by omega)
    have np : ¬ nI p < 0 := nJ_nn (by omega)
    have hP := is i (by omega)
    have hP' : gI h 194 i = bB (!P i) := by
      rw [hP]
      unfold lfB
      rw [decide_eq_true (Nat.le_refl _), Bool.true_or, Bool.and_true]
    have z1 : (0 : Int32) &&& 1 = 0 := by decide
    have z2 : (1 : Int32) &&& 1 = 1 := by decide
    have F1 : fr S194 h (pI h 194 i (bB (!(P i && !!isB (V h) x i)))) := fr_pI rfl
    have hV := V_frm (S194_m F1)
    obtain ⟨h', r1, r2, r3⟩ := ih (i + 1) _ (I0_frm (S194_m F1) i00) (by rw [hV]; exact ISO_lf (c := fun j => !isB (V h) x j) hi2 is) (by rw [hV]; omega)
    rw [hV] at r1 r3
    refine ⟨h', ?_, fr_tr F1 r2, r3⟩
    rw [← r1, M_alone_13_eq]
    cases hp' : P i with
    | false =>
      rw [hp'] at hP'
      simp only [gI_pI, gI_pL, gI_pR, gL_pI, gL_pL, gL_pR, gR_pI, gR_pL, gR_pR, gS_pI, gS_pL, gS_pR, ↓reduceIte, Nat.reduceEqDiff, decide_eq_true_eq, Option.bind_some, false_and, and_false, true_and, and_true, and_self, Nat.reduceAdd, not_false_eq_true, not_true_eq_false, wS, wR, inI, ite_self, Classical.not_not, e, hn, hle, ax_in, tn, nn, hi2, hP', show ¬ bB (!false) = 0 by decide, z2, nJ_p1]
      rfl
    | true =>
      rw [hp'] at hP'
      rw [Bool.true_and, Bool.not_not]
      by_cases q : V h 71 p = x
      · have : isB (V h) x i = true := by unfold isB; rw [hp6, decide_eq_true q]
        rw [this]
        simp only [gI_pI, gI_pL, gI_pR, gL_pI, gL_pL, gL_pR, gR_pI, gR_pL, gR_pR, gS_pI, gS_pL, gS_pR, ↓reduceIte, Nat.reduceEqDiff, decide_eq_true_eq, Option.bind_some, false_and, and_false, true_and, and_true, and_self, Nat.reduceAdd, not_false_eq_true, not_true_eq_false, wS, wR, inI, ite_self, Classical.not_not, e, hn, hle, ax_in, tn, nn, hi2, hP', show bB (!true) = 0 from rfl, hp, tp, np, hp5, q, z1, nJ_p1]
        all_goals rfl
      · have : isB (V h) x i = false := by unfold isB; rw [hp6, decide_eq_false q]
        rw [this]
        simp only [gI_pI, gI_pL, gI_pR, gL_pI, gL_pL, gL_pR, gR_pI, gR_pL, gR_pR, gS_pI, gS_pL, gS_pR, ↓reduceIte, Nat.reduceEqDiff, decide_eq_true_eq, Option.bind_some, false_and, and_false, true_and, and_true, and_self, Nat.reduceAdd, not_false_eq_true, not_true_eq_false, wS, wR, inI, ite_self, Classical.not_not, e, hn, hle, ax_in, tn, nn, hi2, hP', show bB (!true) = 0 from rfl, hp, tp, np, hp5, q, z2, nJ_p1]
        all_goals rfl
theorem zm_alone {h : ax_H} (i0 : I0 h) {w : Nat} (hw : w < 10) {D : WD} (f : WF D) (m : WM h w D) {kn : Int32} (hk : kn.toInt ≤ 9999) (x : Int32) : ∃ h', M_alone 159 (nI w) kn x h = some (bB (agk (V h) D kn (isB (V h) x)), h') ∧ fr Sm h h' ∧ (agk (V h) D kn (isB (V h) x) = true → gL h' 159 57 = Int64.ofInt (anZ (V h) D kn (SP (V h) D kn (isB (V h) x)) 4) ∧ gI h' 159 58 = nI ((tkL (V h) D kn).filter (isB (V h) x)).length) := by
  have g := i0.2.2
  have hcn := cnts g.1
  have hn := nI_nM g.1.2.2.2.1
  obtain ⟨h1, a1, a2, a3⟩ := zm_takesAll i0 hw f m hk
  have hV1 := V_frm (S824_m a2)
  have i1 := I0_frm (S824_m a2) i0
  obtain ⟨h2, b1, b2, b3, b4⟩ := zm_measures i1 a3
  rw [hV1] at b3
  have hV2 : V h2 = V h := (V_frm (Sme_m b2)).trans hV1
  have i2 := I0_frm (Sme_m b2) i1
  have F2 : fr Sm h h2 := fr_tr (S824_m a2) (Sme_m b2)
  obtain ⟨h3, c1, c2, c3⟩ := zm_al_13 (w := w) kn x (nM (V h2)) 0 h2 i2 (ISO_beg b4) (by omega)
  rw [hV2] at c1 c3
  have hV3 : V h3 = V h := (V_frm (S194_m c2)).trans hV2
  have i3 := I0_frm (S194_m c2) i2
  have F3 : fr Sm h h3 := fr_tr F2 (S194_m c2)
  have m3 : WM h3 w D := WM_eq (fun a k z1 z2 => fr_I F3 (by simp only [Sm, decide_eq_false_iff_not]; omega)) m
  have is3 : ISO h3 (fun i => tkB (V h3) D kn i && isB (V h) x i) := fun i hi => by
    rw [c3 i hi]
    dsimp only
    rw [hV3, Bool.not_not]
  obtain ⟨h4, d1, d2, d3⟩ := zm_bf i3 hw f m3 hk (by rw [hV3]; exact OUT_fr c2 (hV3.trans hV2.symm) (fun _ => rfl) (fun _ => rfl) b3) is3
  rw [hV3] at d1 d3
  have F4 : fr Sm h h4 := fr_tr F3 d2
  obtain ⟨wS, wR, wG, wN⟩ := i0.1
  have S1 : gS h1 = gS h := fr_S a2
  have S3 : gS h3 = gS h := fr_S F3
  have S4 : gS h4 = gS h := fr_S F4
  have R4 : gR h4 = gR h := fr_R F4
  have e3 := EQ_a i3.2.1
  unfold EQa at e3
  rw [hV3] at e3
  have hle : nI (nM (V h)) ≤ nI (nM (V h)) := Int32.le_refl _
  have c1' : M_alone_13 159 (nI w) kn x 0 h2 = M_alone_13 159 (nI w) kn x (nI (nM (V h))) h3 := c1
  have st : M_alone 159 (nI w) kn x h = M_alone_13 159 (nI w) kn x (nI (nM (V h))) h3 := by
    rw [← c1', M_alone_eq]
    simp only [gI_pI, gI_pL, gI_pR, gL_pI, gL_pL, gL_pR, gR_pI, gR_pL, gR_pR, gS_pI, gS_pL, gS_pR, ↓reduceIte, Nat.reduceEqDiff, decide_eq_true_eq, Option.bind_some, false_and, and_false, true_and, and_true, and_self, Nat.reduceAdd, not_false_eq_true, not_true_eq_false, wS, wR, inI, ite_self, Classical.not_not, ↓bnd a1, S1, ↓bnd b1]
  have t4 : Int32.toNatClampNeg 4 = 4 := rfl
  have n4 : (¬ (4 : Int32) < 0) ∧ (4 : Nat) < 6 := by decide
  rw [st, M_alone_13_eq]
  unfold agk
  cases hc : cko (V h) D kn 6 0 with
  | false =>
    rw [hc] at d1
    refine ⟨pI (pL h4 159 57 (gL h4 190 4)) 159 58 (gI h4 159 50), ?_, fr_tr F4 (fr_c (fr_pL rfl) rfl), fun z => by cases z⟩
    simp only [S3, S4, R4, wS, wR, ↓reduceIte, e3, hn, hle, decide_true, ↓bnd d1, show bB false = 0 from rfl, Bool.false_and, ax_in, t4, n4, not_false_eq_true, and_self, gS_pL, gI_pL]
  | true =>
    rw [hc] at d1
    obtain ⟨h5, x1, x2, x3, x4⟩ := d3 hc
    have F5 : fr Sm h h5 := fr_tr F3 x2
    have S5 : gS h5 = gS h := fr_S F5
    have R5 : gR h5 = gR h := fr_R F5
    refine ⟨pI (pL h5 159 57 (gL h5 190 4)) 159 58 (gI h5 159 50), ?_, fr_tr F5 (fr_c (fr_pL rfl) rfl), fun z => ?_⟩
    · cases hs : slB (SP (V h) D kn (isB (V h) x)) (FT D).length with
      | false =>
        rw [hs] at x1
        simp only [S3, S4, S5, R5, wS, wR, ↓reduceIte, e3, hn, hle, decide_true, ↓bnd d1, show ¬ bB true = 0 by decide, decide_false, Bool.false_eq_true, ↓bnd x1, show bB false = 0 from rfl, Bool.and_false, ax_in, t4, n4, not_false_eq_true, and_self, gS_pL, gI_pL]
      | true =>
        rw [hs] at x1
        simp only [S3, S4, S5, R5, wS, wR, ↓reduceIte, e3, hn, hle, decide_true, ↓bnd d1, show ¬ bB true = 0 by decide, decide_false, Bool.false_eq_true, ↓bnd x1, Bool.and_true, ax_in, t4, n4, not_false_eq_true, and_self, gS_pL, gI_pL]
        rfl
    · rw [Bool.true_and] at z
      have v := x4 z 4 (by omega)
      refine ⟨?_, ?_⟩
      · rw [gL_pI, gL_pL, if_pos ⟨rfl, rfl⟩]; exact v
      · rw [gI_pI, if_pos ⟨rfl, rfl⟩]; exact x3
