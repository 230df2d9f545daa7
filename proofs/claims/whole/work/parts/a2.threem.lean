/-! three: the reference; named -/
def Sbf (a k : Nat) : Bool := decide ((a = 159 ∧ (49 ≤ k ∧ k ≤ 52)) ∨ (185 ≤ a ∧ a ≤ 188) ∨ a = 190 ∨ a = 191)
theorem Sbf_m {h h' : ax_H} (q : fr Sbf h h') : fr Sm h h' := fr_le q fun a k z => by simp only [Sm, Sbf, decide_eq_false_iff_not] at z ⊢; omega
theorem Sbe_f {h h' : ax_H} (q : fr Sbe h h') : fr Sbf h h' := fr_le q fun a k z => by simp only [Sbe, Sbf, decide_eq_false_iff_not] at z ⊢; omega
theorem Sfi_f {h h' : ax_H} (q : fr Sfi h h') : fr Sbf h h' := fr_le q fun a k z => by simp only [Sfi, Sbf, decide_eq_false_iff_not] at z ⊢; omega
theorem WM_m {h h' : ax_H} (q : fr Sm h h') {w : Nat} {D : WD} (m : WM h w D) : WM h' w D := WM_eq (fun a k z1 z2 => fr_I q (by simp only [Sm, decide_eq_false_iff_not]; omega)) m
theorem zm_107 {h : ax_H} (i0 : I0 h) {w : Nat} (hw : w < 10) {D : WD} (f : WF D) (m : WM h w D) {kn : Int32} (hk : kn.toInt ≤ 9999) (ou : OUT h (tuZ (V h))) (iso : ISO h (tkB (V h) D kn)) {li : Int32} (hli : 0 ≤ li.toInt ∧ li.toInt ≤ 99999) (x y z b : Int32) (A : Int64) (n : Int32) : ∃ h', M_three_107 li 1 kn (nI w) 159 159 (nI w) kn x y z b A n h = M_three_75 159 (nI w) kn x y z (thr (b, A) n (mtO (V h) D kn li)).1 (thr (b, A) n (mtO (V h) D kn li)).2 (n + 1) h' ∧ fr Sbf h h' := by
  have fe := WF_4 f hli
  have i2 := i0
  obtain ⟨h3, c1, c2, c3⟩ := zm_begins i0 hw (li := li) (ins := true) (Or.inr ⟨rfl, rfl⟩) fe m hk
  have hV3 : V h3 = V h := V_frm (Sbe_m c2)
  have i3 := I0_frm (Sbe_m c2) i0
  have S3 : gS h3 = gS h := fr_S c2
  obtain ⟨wS, wR, wG, wN⟩ := i0.1
  have c1' : M_begins 159 (nI w) kn 1 li h = some (bB (cko (V h) (D4 D li) kn 6 0), h3) := c1
  cases hc : cko (V h) (D4 D li) kn 6 0 with
  | false =>
    rw [hc] at c1'
    have ga : agk (V h) (D4 D li) kn allB = false := by unfold agk; rw [hc]; rfl
    refine ⟨h3, ?_, Sbe_f c2⟩
    rw [mtO_no ga, M_three_107_eq]
    simp only [wS, ↓reduceIte]
    rw [bnd c1']
    rfl
  | true =>
    rw [hc] at c1'
    have hcc := cko_ok.mp hc
    have bg := c3 hc
    have ou3 : OUT h3 (tuZ (V h)) := OUT_fr c2 hV3 (fun _ => rfl) (fun _ => rfl) ou
    have is3 : ISO h3 (tkB (V h) (D4 D li) kn) := ISO_fr c2 hV3 (fun _ => rfl) iso
    obtain ⟨h4, d1, d2, d3, d4⟩ := zm_fit i3 fe (by rw [hV3]; exact hcc) (by rw [hV3]; exact bg) ou3 is3 (fun i ax hi _ => by
      rw [hV3] at hi
      have := mX_bd i0.2.2.2.2.2.1 hi ax
      unfold tuZ
      split <;> omega)
    rw [hV3] at d1 d3 d4
    have eS : sv (V h) (FT (D4 D li)) (mdZ (V h) (D4 D li) kn (tuZ (V h))) (flF (tkB (V h) (D4 D li) kn) (nM (V h)) 0) = SP (V h) (D4 D li) kn allB := by
      funext k
      unfold SP tkL
      rw [flF_fil]
      have : (fun i => tkB (V h) (D4 D li) kn i && allB i) = tkB (V h) (D4 D li) kn := by
        funext i
        unfold allB
        rw [Bool.and_true]
      rw [this]
      rfl
    rw [eS] at d1 d4
    have hV4 : V h4 = V h := (V_frm (Sfi_m d2)).trans hV3
    have i4 := I0_frm (Sfi_m d2) i3
    have S4 : gS h4 = gS h := (fr_S d2).trans S3
    refine ⟨h4, ?_, fr_tr (Sbe_f c2) (Sfi_f d2)⟩
    rw [M_three_107_eq]
    simp only [wS, ↓reduceIte]
    rw [bnd c1']
    simp only [show ¬ bB true = 0 by decide, decide_false, Bool.false_eq_true, ↓reduceIte, S3, wS]
    rw [bnd d1]
    cases hs : slB (SP (V h) (D4 D li) kn allB) (FT (D4 D li)).length with
    | false =>
      have ga : agk (V h) (D4 D li) kn allB = false := by unfold agk; rw [hc, hs]; rfl
      rw [mtO_no ga]
      rfl
    | true =>
      have ga : agk (V h) (D4 D li) kn allB = true := by unfold agk; rw [hc, hs]; rfl
      have fm : FM h4 (V h) (D4 D li) kn (SP (V h) (D4 D li) kn allB) (fun i => tkB (V h) (D4 D li) kn i) := ⟨BEG_fr d2 rfl (fun _ => rfl) (fun _ => rfl) (fun _ => rfl) bg, OUT_fr d2 (hV4.trans hV3.symm) (fun _ => rfl) (fun _ => rfl) ou3, ISO_fr d2 (hV4.trans hV3.symm) (fun _ => rfl) is3, d4 hs⟩
      have ms := zm_missed i4 fe (by rw [hV4]; exact hcc) (by rw [hV4]; exact anB_of i0.2.2.2.2.2.1 fe hcc hs) (by rw [hV4]; exact fm)
      rw [hV4] at ms
      rw [mtO_y ga]
      simp only [show ¬ bB true = 0 by decide, decide_false, Bool.false_eq_true, ↓reduceIte, S4, wS]
      rw [bnd ms]
      show _ = M_three_75 159 (nI w) kn x y z (if b = -2 then (n, Int64.ofInt (sg (msF (V h) (D4 D li) kn (SP (V h) (D4 D li) kn allB)) (tkL (V h) (D4 D li) kn))) else if (0 : Int32) ≤ lg_cmp (Int64.ofInt (sg (msF (V h) (D4 D li) kn (SP (V h) (D4 D li) kn allB)) (tkL (V h) (D4 D li) kn))) A then (b, A) else (n, Int64.ofInt (sg (msF (V h) (D4 D li) kn (SP (V h) (D4 D li) kn allB)) (tkL (V h) (D4 D li) kn)))).1 (if b = -2 then (n, Int64.ofInt (sg (msF (V h) (D4 D li) kn (SP (V h) (D4 D li) kn allB)) (tkL (V h) (D4 D li) kn))) else if (0 : Int32) ≤ lg_cmp (Int64.ofInt (sg (msF (V h) (D4 D li) kn (SP (V h) (D4 D li) kn allB)) (tkL (V h) (D4 D li) kn))) A then (b, A) else (n, Int64.ofInt (sg (msF (V h) (D4 D li) kn (SP (V h) (D4 D li) kn allB)) (tkL (V h) (D4 D li) kn)))).2 (n + 1) h4
      by_cases q1 : b = -2
      · rw [if_pos q1]
        simp only [q1, decide_true, ↓reduceIte]
        rw [M_three_146_eq]
        simp only [i1_0, decide_false, Bool.false_eq_true, ↓reduceIte]
      · simp only [q1, decide_false, Bool.false_eq_true, ↓reduceIte, decide_eq_true_eq]
        by_cases q3 : (0 : Int32) ≤ lg_cmp (Int64.ofInt (sg (msF (V h) (D4 D li) kn (SP (V h) (D4 D li) kn allB)) (tkL (V h) (D4 D li) kn))) A
        · simp only [q3, ↓reduceIte]
          rw [M_three_146_eq]
          simp only [decide_true, ↓reduceIte]
        · simp only [q3, ↓reduceIte]
          rw [M_three_146_eq]
          simp only [i1_0, decide_false, Bool.false_eq_true, ↓reduceIte]
theorem zm_three {h : ax_H} (i0 : I0 h) {w : Nat} (hw : w < nW' (V h)) {D : WD} (f : WF D) (m : WM h w D) {kn : Int32} (hk : 0 ≤ kn.toInt ∧ kn.toInt ≤ 9999) {x y z : Int32} (hx : 0 ≤ x.toInt ∧ x.toInt ≤ 99999) (hy : 0 ≤ y.toInt ∧ y.toInt ≤ 99999) (hz : 0 ≤ z.toInt ∧ z.toInt ≤ 99999) : ∃ h', M_three 159 (nI w) kn x y z h = some (thV (V h) D kn x y z, h') ∧ fr Sm h h' := by
  have hcn := cnts i0.2.2.1
  have hw10 : w < 10 := by omega
  obtain ⟨h1, a1, a2, a3⟩ := zm_takesAll i0 hw10 f m hk.2
  have hV1 := V_frm (S824_m a2)
  have i1 := I0_frm (S824_m a2) i0
  obtain ⟨h2, b1, b2, b3', b4⟩ := zm_measures i1 a3
  have hV2 : V h2 = V h := (V_frm (Sme_m b2)).trans hV1
  have i2 := I0_frm (Sme_m b2) i1
  have F2 : fr Sm h h2 := fr_tr (S824_m a2) (Sme_m b2)
  rw [hV1, ← hV2] at b3'
  rw [← hV2] at b4
  obtain ⟨h3, c1, c2⟩ := zm_107 i2 hw10 f (WM_m F2 m) hk.2 b3' b4 hx x y z (-2) 0 0
  have hV3 : V h3 = V h := (V_frm (Sbf_m c2)).trans hV2
  have i3 := I0_frm (Sbf_m c2) i2
  have F3 := fr_tr F2 (Sbf_m c2)
  have ou3 : OUT h3 (tuZ (V h3)) := by rw [hV3, ← hV2]; exact OUT_fr c2 (hV3.trans hV2.symm) (fun _ => rfl) (fun _ => rfl) b3'
  have is3 : ISO h3 (tkB (V h3) D kn) := by rw [hV3, ← hV2]; exact ISO_fr c2 (hV3.trans hV2.symm) (fun _ => rfl) b4
  obtain ⟨h4, d1, d2⟩ := zm_107 i3 hw10 f (WM_m F3 m) hk.2 ou3 is3 hy x y z (thr (-2, 0) 0 (mtO (V h) D kn x)).1 (thr (-2, 0) 0 (mtO (V h) D kn x)).2 1
  have hV4 : V h4 = V h := (V_frm (Sbf_m d2)).trans hV3
  have i4 := I0_frm (Sbf_m d2) i3
  have F4 := fr_tr F3 (Sbf_m d2)
  have ou4 : OUT h4 (tuZ (V h4)) := by rw [hV4, ← hV3]; exact OUT_fr d2 (hV4.trans hV3.symm) (fun _ => rfl) (fun _ => rfl) ou3
  have is4 : ISO h4 (tkB (V h4) D kn) := by rw [hV4, ← hV3]; exact ISO_fr d2 (hV4.trans hV3.symm) (fun _ => rfl) is3
  obtain ⟨h5, k1, k2⟩ := zm_107 i4 hw10 f (WM_m F4 m) hk.2 ou4 is4 hz x y z (thr (thr (-2, 0) 0 (mtO (V h) D kn x)) 1 (mtO (V h) D kn y)).1 (thr (thr (-2, 0) 0 (mtO (V h) D kn x)) 1 (mtO (V h) D kn y)).2 2
  rw [hV2] at c1
  rw [hV3] at d1
  rw [hV4] at k1
  have h1' : 0 ≤ (nI w).toInt ∧ (nI w).toInt ≤ (V h 65 4).toInt - 1 := by
    rw [nJ_i (by omega)]
    have : nW' (V h) = (V h 65 4).toInt.toNat := rfl
    omega
  have n30 : ¬ (3 : Int32) ≤ 0 := by decide
  have n31 : ¬ (3 : Int32) ≤ 0 + 1 := by decide
  have n32 : ¬ (3 : Int32) ≤ 1 + 1 := by decide
  have n33 : (3 : Int32) ≤ 2 + 1 := by decide
  have e1 : (0 : Int32) + 1 = 1 := by decide
  have e2 : (1 : Int32) + 1 = 2 := by decide
  obtain ⟨w00, e00, g00⟩ := i0
  have w000 := w00
  obtain ⟨wS, wR, wG, wN⟩ := w00
  have S1 : gS h1 = gS h := fr_S a2
  refine ⟨h5, ?_, fr_tr F4 (Sbf_m k2)⟩
  rw [M_three_eq]
  simp only [wS, ↓reduceIte]
  rw [bnd (zm_isWay w000 g00.1 e00 _), if_neg (by rw [decide_eq_true_eq, bI_0]; exact not_not_intro h1'), bnd (zm_isWeek _ _), if_neg (by rw [decide_eq_true_eq, bI_0]; exact not_not_intro hk)]
  rw [bnd (zm_in _ _ _ _), if_neg (by rw [decide_eq_true_eq, bI_0, Int32.toInt_toInt64]; exact not_not_intro hx), bnd (zm_in _ _ _ _), if_neg (by rw [decide_eq_true_eq, bI_0, Int32.toInt_toInt64]; exact not_not_intro hy), bnd (zm_in _ _ _ _), if_pos (by rw [decide_eq_true_eq, bI_0, Int32.toInt_toInt64]; exact not_not_intro hz)]
  simp only [wS, ↓reduceIte]
  rw [bnd a1]
  simp only [S1, wS, ↓reduceIte]
  rw [bnd b1, M_three_75_eq]
  simp only [n30, decide_false, Bool.false_eq_true, ↓reduceIte, not_true_eq_false]
  rw [c1, M_three_75_eq]
  simp only [n31, e1, decide_false, Bool.false_eq_true, ↓reduceIte, not_true_eq_false, show ¬ (1 : Int32) = 0 by decide, not_false_eq_true, decide_true]
  rw [d1, M_three_75_eq]
  simp only [n32, e2, decide_false, Bool.false_eq_true, ↓reduceIte, not_true_eq_false, show ¬ (2 : Int32) = 0 by decide, show ¬ (2 : Int32) = 1 by decide, not_false_eq_true, decide_true]
  rw [show thr ((thr (-2, 0) 0 (mtO (V h) D kn x)).1, (thr (-2, 0) 0 (mtO (V h) D kn x)).2) 1 (mtO (V h) D kn y) = (thr (thr (-2, 0) 0 (mtO (V h) D kn x)) 1 (mtO (V h) D kn y)) from rfl]
  rw [k1, M_three_75_eq]
  simp only [n33, decide_true, ↓reduceIte]
  rfl
theorem qy_three {h : ax_H} (i : I0 h) (iw : IW h) (a kn x y z : Int32) : qry (B_three 64 a kn x y z h) (M_three 159 a kn x y z) h := by
  have i0 := i
  obtain ⟨w, e, g⟩ := i
  have hcn := cnts g.1
  have w0 := w
  obtain ⟨wS, wR, wG, wN⟩ := w
  by_cases h1 : 0 ≤ a.toInt ∧ a.toInt ≤ (V h 65 4).toInt - 1
  case neg =>
    refine qry_no (v := -1) ?_ ?_
    · rw [B_three_eq]
      try simp only [wS, wR, ↓reduceIte]
      simp only [gI_pI, gI_pL, gI_pR, gL_pI, gL_pL, gL_pR, gR_pI, gR_pL, gR_pR, gS_pI, gS_pL, gS_pR, ↓reduceIte, Nat.reduceEqDiff, decide_eq_true_eq, Option.bind_some, false_and, and_false, true_and, and_true, and_self, Nat.reduceAdd, not_false_eq_true, not_true_eq_false, wS, wR, inI, ite_self, Classical.not_not, ↓bnd (z_wayNo w0 g.1 h1)]
    · rw [M_three_eq]
      simp only [gI_pI, gI_pL, gI_pR, gL_pI, gL_pL, gL_pR, gR_pI, gR_pL, gR_pR, gS_pI, gS_pL, gS_pR, ↓reduceIte, Nat.reduceEqDiff, decide_eq_true_eq, Option.bind_some, false_and, and_false, true_and, and_true, and_self, Nat.reduceAdd, not_false_eq_true, not_true_eq_false, wS, wR, inI, ite_self, Classical.not_not, ↓bnd (zm_isWay w0 g.1 e _), bI_0, h1]
  obtain ⟨j, rfl, hj, hj2, hj3⟩ := nI_ex h1
  have hjw : j < nW' (V h) := by show j < (V h 65 4).toInt.toNat; omega
  obtain ⟨D, c, m, f⟩ := iw j (by omega)
  have hnz : ¬ gR h 82 j = 0 := by have := c.1; omega
  have hWA := z_wayAt w0 g.1 (j := j) (by omega)
  have hWA' : Bk_wayAt (gR h 64 0) (nI j) h = some (gR h 82 j, h) := by simp only [wR]; exact hWA
  by_cases h2 : 0 ≤ kn.toInt ∧ kn.toInt ≤ 9999
  case neg =>
    refine qry_no (v := -1) ?_ ?_
    · rw [B_three_eq]
      try simp only [wS, wR, ↓reduceIte]
      simp only [gI_pI, gI_pL, gI_pR, gL_pI, gL_pL, gL_pR, gR_pI, gR_pL, gR_pR, gS_pI, gS_pL, gS_pR, ↓reduceIte, Nat.reduceEqDiff, decide_eq_true_eq, Option.bind_some, false_and, and_false, true_and, and_true, and_self, Nat.reduceAdd, not_false_eq_true, not_true_eq_false, wS, wR, inI, ite_self, Classical.not_not, ↓bnd hWA, hnz, ↓bnd (z_isWeek _ _), bI_0, h2]
    · rw [M_three_eq]
      simp only [gI_pI, gI_pL, gI_pR, gL_pI, gL_pL, gL_pR, gR_pI, gR_pL, gR_pR, gS_pI, gS_pL, gS_pR, ↓reduceIte, Nat.reduceEqDiff, decide_eq_true_eq, Option.bind_some, false_and, and_false, true_and, and_true, and_self, Nat.reduceAdd, not_false_eq_true, not_true_eq_false, wS, wR, inI, ite_self, Classical.not_not, ↓bnd (zm_isWay w0 g.1 e _), bI_0, h1, ↓bnd (zm_isWeek _ _), h2]
  by_cases h3 : inI x 0 99999 ∧ inI y 0 99999 ∧ inI z 0 99999
  case neg =>
    refine qry_no (v := -1) ?_ ?_
    · rw [B_three_eq]
      simp only [wS, ↓reduceIte]
      rw [if_pos (by simp only [wR, wS]), bnd hWA', if_neg hnz, bnd (z_isWeek _ _), if_neg (by rw [decide_eq_true_eq, bI_0]; exact not_not_intro h2), bnd (z_areThree _ _ _ _), if_neg (by rw [decide_eq_true_eq, bI_0]; exact fun q => q h3)]
    · rw [M_three_eq]
      simp only [wS, ↓reduceIte]
      rw [bnd (zm_isWay w0 g.1 e _), if_neg (by rw [decide_eq_true_eq, bI_0]; exact not_not_intro h1), bnd (zm_isWeek _ _), if_neg (by rw [decide_eq_true_eq, bI_0]; exact not_not_intro h2)]
      rw [bnd (zm_in _ _ _ _)]
      by_cases q1 : inI x 0 99999
      · rw [if_neg (by rw [decide_eq_true_eq, bI_0, Int32.toInt_toInt64]; exact not_not_intro q1), bnd (zm_in _ _ _ _)]
        by_cases q2 : inI y 0 99999
        · rw [if_neg (by rw [decide_eq_true_eq, bI_0, Int32.toInt_toInt64]; exact not_not_intro q2), bnd (zm_in _ _ _ _), if_neg (by rw [decide_eq_true_eq, bI_0, Int32.toInt_toInt64]; exact fun q => q fun q3 => h3 ⟨q1, q2, q3⟩)]
        · rw [if_pos (by rw [decide_eq_true_eq, bI_0, Int32.toInt_toInt64]; exact q2)]
      · rw [if_pos (by rw [decide_eq_true_eq, bI_0, Int32.toInt_toInt64]; exact q1)]
  obtain ⟨x1, r1, r2⟩ := z_least w0 g f c kn h3.1 h3.2.1 h3.2.2
  have hV := V_frc r2
  have ix := I0_frc r2 i0
  obtain ⟨x2, s1, s2⟩ := zm_three ix (w := j) (by rw [hV]; exact hjw) f (WM_c r2 m) h2 h3.1 h3.2.1 h3.2.2
  rw [hV] at s1
  refine ⟨thV (V h) D kn x y z, x1, x2, ?_, s1, r2, s2⟩
  rw [B_three_eq]
  simp only [wS, ↓reduceIte]
  rw [if_pos (by simp only [wR, wS]), bnd hWA', if_neg hnz, bnd (z_isWeek _ _), if_neg (by rw [decide_eq_true_eq, bI_0]; exact not_not_intro h2), bnd (z_areThree _ _ _ _), if_pos (by rw [decide_eq_true_eq, bI_0]; exact not_not_intro h3)]
  simp only [wS, wR, ↓reduceIte]
  rw [bnd r1]
