/-! answer, could -/
def agk (V : BV) (D : WD) (kn : Int32) (P : Nat → Bool) : Bool := cko V D kn 6 0 && slB (SP V D kn P) (FT D).length
def anV (V : BV) (D : WD) (kn : Int32) (P : Nat → Bool) (t : Nat) : Int32 := if agk V D kn P then Int32.ofInt (anZ V D kn (SP V D kn P) t) else -1000000000
theorem apB_at {S : Nat → Int} {n : Nat} : ∀ (k a : Nat), apB S n k a = true → ∀ j, a ≤ j → j < a + k → ptB S n j = true
  | 0, _, _, j, h1, h2 => by omega
  | k + 1, a, h, j, h1, h2 => by
    rw [apB, Bool.and_eq_true] at h
    by_cases q : j = a
    · rw [q]; exact h.1
    · exact apB_at k (a + 1) h.2 j (by omega) (by omega)
theorem slB_pt {S : Nat → Int} {n : Nat} (h3 : n ≤ 3) (h : slB S n = true) {j : Nat} (hj : j < n) : 0 < detS S n ∧ -99999999 ≤ ansS S n j ∧ ansS S n j ≤ 99999999 := by
  rw [slB_ap ⟨by omega, h3⟩, Bool.and_eq_true] at h
  have := apB_at n 0 h.2 j (by omega) (by omega)
  unfold ptB at this
  exact of_decide_eq_true this
theorem anZ_bd {V : BV} (g : GI V) {D : WD} (f : WF D) {kn : Int32} (hc : ckOk V D kn) {S : Nat → Int} (hs : slB S (FT D).length = true) {t : Nat} (ht : t < 6) : -99999999 ≤ anZ V D kn S t ∧ anZ V D kn S t ≤ 99999999 := by
  unfold anZ
  by_cases q : D.1 t = 1
  · rw [if_pos q]
    have hm : t ∈ FT D := (flF_mem 6 0).mpr ⟨by omega, by omega, decide_eq_true q⟩
    exact (slB_pt (FT_3 f) hs (List.getElem?_eq_some_iff.mp (ixL_get hm)).1).2
  · rw [if_neg q]
    have := nm_bd g f hc ht
    omega
theorem z_answerOf {h : ax_H} (w : ok h) (g : GV (V h)) {a : Nat} {D : WD} (f : WF D) (c : WC h a D) (kn : Int32) {t : Nat} (ht : t < 6) : ∃ h', B_answerOf 64 a (nI t) kn h = some (anV (V h) D kn allB t, h') ∧ fr Sc h h' := by
  obtain ⟨h1, a1, a2, a3⟩ := z_open w g f c kn
  have w1 := ok_fr a2 w
  have hV := V_frc a2
  have w0 := w
  obtain ⟨wS, wR, wG, wN⟩ := w
  have a1' : Ft_open (gR h 64 3) (gR h 64 0) a kn h = some (bB (cko (V h) D kn 6 0), h1) := by
    simp only [wR]
    exact a1
  unfold anV agk
  cases hk : cko (V h) D kn 6 0 with
  | false =>
    rw [hk] at a1 a1'
    refine ⟨h1, ?_, a2⟩
    rw [B_answerOf_eq]
    try simp only [wS, wR, ↓reduceIte]
    simp only [gI_pI, gI_pL, gI_pR, gL_pI, gL_pL, gL_pR, gR_pI, gR_pL, gR_pR, gS_pI, gS_pL, gS_pR, ↓reduceIte, Nat.reduceEqDiff, decide_eq_true_eq, Option.bind_some, false_and, and_false, true_and, and_true, and_self, Nat.reduceAdd, not_false_eq_true, not_true_eq_false, wS, wR, inI, ite_self, Classical.not_not, ↓bnd a1, ↓bnd a1', show bB false = 0 from rfl, Bool.false_and, Bool.false_eq_true]
  | true =>
    rw [hk] at a1 a1'
    have hc := cko_ok.mp hk
    have w1' := w1
    obtain ⟨h2, b1, b2, b3, b4⟩ := z_solveAll w1 (by rw [hV]; exact g) f (kn := kn) (by rw [hV]; exact hc) (by rw [hV]; exact a3 hk)
    rw [hV] at b1 b4
    obtain ⟨vS, vR, -, -⟩ := w1'
    have S2 : gS h2 = gS h1 := fr_S b2
    have R2 : gR h2 = gR h1 := fr_R b2
    have b1' : Ft_solveAll (gR h1 64 3) h1 = some (bB (slB (SP (V h) D kn allB) (FT D).length), h2) := by
      simp only [vR]
      exact b1
    have tt : (nI t).toNatClampNeg = t := nJ_n (by omega)
    have nt : ¬ nI t < 0 := nJ_nn (by omega)
    refine ⟨h2, ?_, fr_tr a2 (S1x_c b2)⟩
    rw [B_answerOf_eq]
    try simp only [wS, wR, ↓reduceIte]
    cases hs : slB (SP (V h) D kn allB) (FT D).length with
    | false =>
      rw [hs] at b1 b1'
      simp only [gI_pI, gI_pL, gI_pR, gL_pI, gL_pL, gL_pR, gR_pI, gR_pL, gR_pR, gS_pI, gS_pL, gS_pR, ↓reduceIte, Nat.reduceEqDiff, decide_eq_true_eq, Option.bind_some, false_and, and_false, true_and, and_true, and_self, Nat.reduceAdd, not_false_eq_true, not_true_eq_false, wS, wR, inI, ite_self, Classical.not_not, ↓bnd a1, ↓bnd a1', show ¬ bB true = 0 by decide, vS, vR, ↓bnd b1, ↓bnd b1', show bB false = 0 from rfl, Bool.and_false, Bool.false_eq_true]
    | true =>
      rw [hs] at b1 b1'
      have v := b4 hs t ht
      simp only [gI_pI, gI_pL, gI_pR, gL_pI, gL_pL, gL_pR, gR_pI, gR_pL, gR_pR, gS_pI, gS_pL, gS_pR, ↓reduceIte, Nat.reduceEqDiff, decide_eq_true_eq, Option.bind_some, false_and, and_false, true_and, and_true, and_self, Nat.reduceAdd, not_false_eq_true, not_true_eq_false, wS, wR, inI, ite_self, Classical.not_not, ↓bnd a1, ↓bnd a1', show ¬ bB true = 0 by decide, vS, vR, ↓bnd b1, ↓bnd b1', S2, R2, ax_in, tt, nt, ht, v, Bool.and_true]
/-- the reference's state behind a fit -/
def FM (h : ax_H) (V0 : BV) (D : WD) (kn : Int32) (S : Nat → Int) (P : Nat → Bool) : Prop := BEG h V0 D kn ∧ OUT h (tuZ V0) ∧ ISO h P ∧ ∀ t, t < 6 → gL h 190 t = Int64.ofInt (anZ V0 D kn S t)
theorem zm_answered {h : ax_H} (i0 : I0 h) {w : Nat} (hw : w < 10) {D : WD} (f : WF D) (m : WM h w D) {kn : Int32} (hk : kn.toInt ≤ 9999) : ∃ h', M_isAnswered 159 (nI w) kn h = some (bB (agk (V h) D kn allB), h') ∧ fr Sm h h' ∧ (agk (V h) D kn allB = true → FM h' (V h) D kn (SP (V h) D kn allB) (fun i => tkB (V h) D kn i)) := by
  obtain ⟨h1, a1, a2, a3⟩ := zm_takesAll i0 hw f m hk
  have hV1 := V_frm (S824_m a2)
  have i1 := I0_frm (S824_m a2) i0
  obtain ⟨h2, b1, b2, b3, b4⟩ := zm_measures i1 a3
  rw [hV1] at b3
  have hV2 : V h2 = V h := (V_frm (Sme_m b2)).trans hV1
  have i2 := I0_frm (Sme_m b2) i1
  have F2 : fr Sm h h2 := fr_tr (S824_m a2) (Sme_m b2)
  have m2 : WM h2 w D := WM_eq (fun a k z1 z2 => fr_I F2 (by simp only [Sm, decide_eq_false_iff_not]; omega)) m
  obtain ⟨h3, c1, c2, c3⟩ := zm_begins i2 hw (li := 0) (ins := false) (Or.inl ⟨rfl, rfl⟩) f m2 hk
  rw [hV2] at c1 c3
  have hV3 : V h3 = V h := (V_frm (Sbe_m c2)).trans hV2
  have i3 := I0_frm (Sbe_m c2) i2
  have F3 : fr Sm h h3 := fr_tr F2 (Sbe_m c2)
  have S1 : gS h1 = gS h := fr_S a2
  have S2 : gS h2 = gS h := fr_S F2
  have S3 : gS h3 = gS h := fr_S F3
  obtain ⟨wS, wR, wG, wN⟩ := i0.1
  have c1' : M_begins 159 (nI w) kn 0 0 h2 = some (bB (cko (V h) D kn 6 0), h3) := c1
  unfold agk
  rw [M_isAnswered_eq]
  cases hc : cko (V h) D kn 6 0 with
  | false =>
    rw [hc] at c1'
    refine ⟨h3, ?_, F3, fun z => by cases z⟩
    simp only [gI_pI, gI_pL, gI_pR, gL_pI, gL_pL, gL_pR, gR_pI, gR_pL, gR_pR, gS_pI, gS_pL, gS_pR, ↓reduceIte, Nat.reduceEqDiff, decide_eq_true_eq, Option.bind_some, false_and, and_false, true_and, and_true, and_self, Nat.reduceAdd, not_false_eq_true, not_true_eq_false, wS, wR, inI, ite_self, Classical.not_not, ↓bnd a1, S1, ↓bnd b1, S2, ↓bnd c1', show bB false = 0 from rfl, Bool.false_and]
  | true =>
    rw [hc] at c1'
    have hcc := cko_ok.mp hc
    have bg := c3 hc
    have ou3 : OUT h3 (tuZ (V h)) := OUT_fr c2 (hV3.trans hV2.symm) (fun _ => rfl) (fun _ => rfl) b3
    have is3 : ISO h3 (tkB (V h) D kn) := ISO_fr c2 (hV3.trans hV2.symm) (fun _ => rfl) b4
    obtain ⟨h4, d1, d2, d3, d4⟩ := zm_fit i3 f (by rw [hV3]; exact hcc) (by rw [hV3]; exact bg) ou3 is3 (fun i ax hi _ => by
      rw [hV3] at hi
      have := mX_bd i0.2.2.2.2.2.1 hi ax
      unfold tuZ
      split <;> omega)
    rw [hV3] at d1 d3 d4
    have eS : sv (V h) (FT D) (mdZ (V h) D kn (tuZ (V h))) (flF (tkB (V h) D kn) (nM (V h)) 0) = SP (V h) D kn allB := by
      funext k
      unfold SP tkL
      rw [flF_fil]
      have : (fun i => tkB (V h) D kn i && allB i) = tkB (V h) D kn := by
        funext i
        unfold allB
        rw [Bool.and_true]
      rw [this]
      rfl
    rw [eS] at d1 d4
    refine ⟨h4, ?_, fr_tr F3 (Sfi_m d2), fun hs => ?_⟩
    · simp only [gI_pI, gI_pL, gI_pR, gL_pI, gL_pL, gL_pR, gR_pI, gR_pL, gR_pR, gS_pI, gS_pL, gS_pR, ↓reduceIte, Nat.reduceEqDiff, decide_eq_true_eq, Option.bind_some, false_and, and_false, true_and, and_true, and_self, Nat.reduceAdd, not_false_eq_true, not_true_eq_false, wS, wR, inI, ite_self, Classical.not_not, ↓bnd a1, S1, ↓bnd b1, S2, ↓bnd c1', show ¬ bB true = 0 by decide, S3, ↓bnd d1, Bool.true_and]
      cases slB (SP (V h) D kn allB) (FT D).length <;> rfl
    · rw [Bool.true_and] at hs
      have hV4 : V h4 = V h := (V_frm (Sfi_m d2)).trans hV3
      exact ⟨BEG_fr d2 rfl (fun _ => rfl) (fun _ => rfl) (fun _ => rfl) bg, OUT_fr d2 (hV4.trans hV3.symm) (fun _ => rfl) (fun _ => rfl) ou3, ISO_fr d2 (hV4.trans hV3.symm) (fun _ => rfl) is3, d4 hs⟩
theorem zm_answerIn {h : ax_H} (i0 : I0 h) {w : Nat} (hw : w < 10) {D : WD} (f : WF D) (m : WM h w D) {kn : Int32} (hk : kn.toInt ≤ 9999) {t : Nat} (ht : t < 6) : ∃ h', M_answerIn 159 (nI w) (nI t) kn h = some (anV (V h) D kn allB t, h') ∧ fr Sm h h' := by
  obtain ⟨h1, a1, a2, a3⟩ := zm_answered i0 hw f m hk
  have S1 : gS h1 = gS h := fr_S a2
  have R1 : gR h1 = gR h := fr_R a2
  obtain ⟨wS, wR, wG, wN⟩ := i0.1
  refine ⟨h1, ?_, a2⟩
  unfold anV
  rw [M_answerIn_eq]
  cases hc : agk (V h) D kn allB with
  | false =>
    rw [hc] at a1
    simp only [gI_pI, gI_pL, gI_pR, gL_pI, gL_pL, gL_pR, gR_pI, gR_pL, gR_pR, gS_pI, gS_pL, gS_pR, ↓reduceIte, Nat.reduceEqDiff, decide_eq_true_eq, Option.bind_some, false_and, and_false, true_and, and_true, and_self, Nat.reduceAdd, not_false_eq_true, not_true_eq_false, wS, wR, inI, ite_self, Classical.not_not, ↓bnd a1, show bB false = 0 from rfl, Bool.false_eq_true]
  | true =>
    rw [hc] at a1
    obtain ⟨-, -, -, d4⟩ := a3 hc
    have v := d4 t ht
    unfold agk at hc
    rw [Bool.and_eq_true] at hc
    have hb := anZ_bd i0.2.2.2.2.2.1 f (cko_ok.mp hc.1) hc.2 ht
    have tt : (nI t).toNatClampNeg = t := nJ_n (by omega)
    have nt : ¬ nI t < 0 := nJ_nn (by omega)
    simp only [gI_pI, gI_pL, gI_pR, gL_pI, gL_pL, gL_pR, gR_pI, gR_pL, gR_pR, gS_pI, gS_pL, gS_pR, ↓reduceIte, Nat.reduceEqDiff, decide_eq_true_eq, Option.bind_some, false_and, and_false, true_and, and_true, and_self, Nat.reduceAdd, not_false_eq_true, not_true_eq_false, wS, wR, inI, ite_self, Classical.not_not, ↓bnd a1, show ¬ bB true = 0 by decide, S1, R1, ax_in, tt, nt, ht, v, l_i32 (z := anZ (V h) D kn (SP (V h) D kn allB) t) (by omega)]
theorem WM_c {h h' : ax_H} (q : fr Sc h h') {w : Nat} {D : WD} (m : WM h w D) : WM h' w D := WM_eq (fun a k z1 z2 => fr_I q (by simp only [Sc, decide_eq_false_iff_not]; omega)) m
theorem qy_answer {h : ax_H} (i : I0 h) (iw : IW h) (a t kn : Int32) : qry (B_answer 64 a t kn h) (M_answer 159 a t kn) h := by
  have i0 := i
  obtain ⟨w, e, g⟩ := i
  have hcn := cnts g.1
  have w0 := w
  obtain ⟨wS, wR, wG, wN⟩ := w
  by_cases h1 : 0 ≤ a.toInt ∧ a.toInt ≤ (V h 65 4).toInt - 1
  case neg =>
    refine qry_no (v := -2000000000) ?_ ?_
    · rw [B_answer_eq]
      try simp only [wS, wR, ↓reduceIte]
      simp only [gI_pI, gI_pL, gI_pR, gL_pI, gL_pL, gL_pR, gR_pI, gR_pL, gR_pR, gS_pI, gS_pL, gS_pR, ↓reduceIte, Nat.reduceEqDiff, decide_eq_true_eq, Option.bind_some, false_and, and_false, true_and, and_true, and_self, Nat.reduceAdd, not_false_eq_true, not_true_eq_false, wS, wR, inI, ite_self, Classical.not_not, ↓bnd (z_wayNo w0 g.1 h1)]
    · rw [M_answer_eq]
      simp only [gI_pI, gI_pL, gI_pR, gL_pI, gL_pL, gL_pR, gR_pI, gR_pL, gR_pR, gS_pI, gS_pL, gS_pR, ↓reduceIte, Nat.reduceEqDiff, decide_eq_true_eq, Option.bind_some, false_and, and_false, true_and, and_true, and_self, Nat.reduceAdd, not_false_eq_true, not_true_eq_false, wS, wR, inI, ite_self, Classical.not_not, ↓bnd (zm_isWay w0 g.1 e _), bI_0, h1]
  obtain ⟨j, rfl, hj, hj2, hj3⟩ := nI_ex h1
  obtain ⟨D, c, m, f⟩ := iw j (by omega)
  have hnz : ¬ gR h 82 j = 0 := by have := c.1; omega
  have hWA := z_wayAt w0 g.1 (j := j) (by omega)
  by_cases h2 : 0 ≤ t.toInt ∧ t.toInt ≤ 5
  case neg =>
    refine qry_no (v := -2000000000) ?_ ?_
    · rw [B_answer_eq]
      try simp only [wS, wR, ↓reduceIte]
      simp only [gI_pI, gI_pL, gI_pR, gL_pI, gL_pL, gL_pR, gR_pI, gR_pL, gR_pR, gS_pI, gS_pL, gS_pR, ↓reduceIte, Nat.reduceEqDiff, decide_eq_true_eq, Option.bind_some, false_and, and_false, true_and, and_true, and_self, Nat.reduceAdd, not_false_eq_true, not_true_eq_false, wS, wR, inI, ite_self, Classical.not_not, ↓bnd hWA, hnz, ↓bnd (z_isTerm _ _), bI_0, h2]
    · rw [M_answer_eq]
      simp only [gI_pI, gI_pL, gI_pR, gL_pI, gL_pL, gL_pR, gR_pI, gR_pL, gR_pR, gS_pI, gS_pL, gS_pR, ↓reduceIte, Nat.reduceEqDiff, decide_eq_true_eq, Option.bind_some, false_and, and_false, true_and, and_true, and_self, Nat.reduceAdd, not_false_eq_true, not_true_eq_false, wS, wR, inI, ite_self, Classical.not_not, ↓bnd (zm_isWay w0 g.1 e _), bI_0, h1, ↓bnd (zm_isTerm _ _), h2]
  by_cases h3 : 0 ≤ kn.toInt ∧ kn.toInt ≤ 9999
  case neg =>
    refine qry_no (v := -2000000000) ?_ ?_
    · rw [B_answer_eq]
      try simp only [wS, wR, ↓reduceIte]
      simp only [gI_pI, gI_pL, gI_pR, gL_pI, gL_pL, gL_pR, gR_pI, gR_pL, gR_pR, gS_pI, gS_pL, gS_pR, ↓reduceIte, Nat.reduceEqDiff, decide_eq_true_eq, Option.bind_some, false_and, and_false, true_and, and_true, and_self, Nat.reduceAdd, not_false_eq_true, not_true_eq_false, wS, wR, inI, ite_self, Classical.not_not, ↓bnd hWA, hnz, ↓bnd (z_isTerm _ _), ↓bnd (z_isWeek _ _), bI_0, h2, h3]
    · rw [M_answer_eq]
      simp only [gI_pI, gI_pL, gI_pR, gL_pI, gL_pL, gL_pR, gR_pI, gR_pL, gR_pR, gS_pI, gS_pL, gS_pR, ↓reduceIte, Nat.reduceEqDiff, decide_eq_true_eq, Option.bind_some, false_and, and_false, true_and, and_true, and_self, Nat.reduceAdd, not_false_eq_true, not_true_eq_false, wS, wR, inI, ite_self, Classical.not_not, ↓bnd (zm_isWay w0 g.1 e _), bI_0, h1, ↓bnd (zm_isTerm _ _), ↓bnd (zm_isWeek _ _), h2, h3]
  obtain ⟨t', rfl, ht, ht2, ht3⟩ := nI_ex h2
  obtain ⟨x1, r1, r2⟩ := z_answerOf w0 g f c kn (t := t') (by omega)
  have hV := V_frc r2
  have ix := I0_frc r2 i0
  obtain ⟨x2, s1, s2⟩ := zm_answerIn ix (w := j) (by omega) f (WM_c r2 m) h3.2 (t := t') (by omega)
  rw [hV] at s1
  refine ⟨anV (V h) D kn allB t', x1, x2, ?_, ?_, r2, s2⟩
  · rw [B_answer_eq]
    try simp only [wS, wR, ↓reduceIte]
    simp only [gI_pI, gI_pL, gI_pR, gL_pI, gL_pL, gL_pR, gR_pI, gR_pL, gR_pR, gS_pI, gS_pL, gS_pR, ↓reduceIte, Nat.reduceEqDiff, decide_eq_true_eq, Option.bind_some, false_and, and_false, true_and, and_true, and_self, Nat.reduceAdd, not_false_eq_true, not_true_eq_false, wS, wR, inI, ite_self, Classical.not_not, ↓bnd hWA, hnz, ↓bnd (z_isTerm _ _), ↓bnd (z_isWeek _ _), bI_0, h2, h3, ↓bnd r1]
  · obtain ⟨vS, vR, -, -⟩ := ix.1
    have h1' : 0 ≤ (nI j).toInt ∧ (nI j).toInt ≤ (V x1 65 4).toInt - 1 := by rw [hV]; exact h1
    rw [M_answer_eq]
    simp only [vS, vR, ↓reduceIte, ↓bnd (zm_isWay ix.1 ix.2.2.1 ix.2.1 _), bI_0, inI, h1', ↓bnd (zm_isTerm _ _), ↓bnd (zm_isWeek _ _), h2, h3, ↓bnd s1, and_self, not_true_eq_false, decide_false, decide_true, not_false_eq_true, Bool.false_eq_true]
