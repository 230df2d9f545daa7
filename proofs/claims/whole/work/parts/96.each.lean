/-! each -/
theorem SP_ite (V : BV) (D : WD) (kn : Int32) (P : Nat → Bool) (k : Nat) : SP V D kn P k = sg (fun i => if P i then rowv V (FT D) (dZ V D kn) i k else 0) (tkL V D kn) := sg_fil _ _ _
theorem SP_12 (V : BV) (D : WD) (kn : Int32) (P : Nat → Bool) : SP V D kn P 12 = (((tkL V D kn).filter P).length : Int) := by
  show sg (fun _ => (1 : Int)) _ = _
  rw [sg_const]
  omega
theorem SP_0 {V : BV} {D : WD} {kn : Int32} {P : Nat → Bool} (h : SP V D kn P 12 = 0) : (∀ k, SP V D kn P k = 0) ∧ ∀ i ∈ tkL V D kn, P i = false := by
  rw [SP_12] at h
  have hn : (tkL V D kn).filter P = [] := List.length_eq_zero_iff.mp (by omega)
  refine ⟨fun k => by unfold SP; rw [hn]; rfl, fun i hi => ?_⟩
  cases q : P i with
  | false => rfl
  | true =>
    have : i ∈ (tkL V D kn).filter P := List.mem_filter.mpr ⟨hi, q⟩
    rw [hn] at this
    cases this
theorem z_lo_11 {x : Nat} (hx : x ≠ 155) : ∀ (m k : Nat) (h : ax_H), k + m = 13 → ok h → gS h x = (17, 13) → ∃ h', Ft_leaveOut_11 99 x (nI k) h = some h' ∧ fr S155 h h' ∧ ∀ j, j < 13 → gL h' 155 j = if k ≤ j then gL h 155 j - gL h x j else gL h 155 j := by
  intro m
  induction m with
  | zero =>
    intro k h hk w s1
    have : k = 13 := by omega
    subst this
    refine ⟨h, ?_, fr_rf _ _, fun j hj => by rw [if_neg (by omega)]⟩
    have h13 : (13 : Int32) ≤ nI 13 := by decide
    rw [Ft_leaveOut_11_eq]
    simp only [h13, decide_true, ↓reduceIte]
  | succ m ih =>
    intro k h hk w s1
    have hle : ¬ (13 : Int32) ≤ nI k := by rw [show (13 : Int32) = nI 13 from rfl, nJ_le (by omega) (by omega)]; omega
    have tk : (nI k).toNatClampNeg = k := nJ_n (by omega)
    have nk : ¬ nI k < 0 := nJ_nn (by omega)
    have hk13 : k < 13 := by omega
    obtain ⟨h', r1, r2, r3⟩ := ih (k + 1) (pL h 155 k (gL h 155 k - gL h x k)) (by omega) (ok_pL w _ _ _) s1
    obtain ⟨wS, wR, wG, wN⟩ := w
    refine ⟨h', ?_, fr_tr (fr_pL rfl) r2, fun j hj => ?_⟩
    · rw [← r1, Ft_leaveOut_11_eq]
      simp only [gI_pI, gI_pL, gI_pR, gL_pI, gL_pL, gL_pR, gR_pI, gR_pL, gR_pR, gS_pI, gS_pL, gS_pR, ↓reduceIte, Nat.reduceEqDiff, decide_eq_true_eq, Option.bind_some, false_and, and_false, true_and, and_true, and_self, Nat.reduceAdd, not_false_eq_true, not_true_eq_false, wS, wR, inI, ite_self, Classical.not_not, hle, ax_in, s1, tk, nk, hk13, nJ_p1]
    · rw [r3 j hj, gL_pL, gL_pL]
      by_cases q : j = k
      · subst q
        rw [if_neg (by omega), if_pos ⟨rfl, rfl⟩, if_pos (Nat.le_refl _)]
      · simp only [q, and_false, ↓reduceIte]
        by_cases q2 : k ≤ j
        · rw [if_pos (by omega), if_pos q2]
        · rw [if_neg (by omega), if_neg q2]
theorem l_sub_0 (x : Int64) : x - Int64.ofInt 0 = x := Int64.sub_zero x
theorem z_leaveOut {h : ax_H} (w : ok h) {V0 : BV} {D : WD} {kn : Int32} (o : OP h V0 D kn) {g : Nat} (hg : g < 47) : ∃ h', Ft_leaveOut 99 (108 + g) h = some h' ∧ fr S155 h h' ∧ ∀ j, j < 13 → gL h' 155 j = gL h 155 j - Int64.ofInt (SP V0 D kn (grp V0 g) j) := by
  have hl := SP_12 V0 D kn (grp V0 g)
  have v12 := o.2.2.2.1 g hg 12 (by omega)
  have w0 := w
  obtain ⟨wS, wR, wG, wN⟩ := w
  have s1 : gS h (108 + g) = (17, 13) := wG.2 g hg
  have t12 : Int32.toNatClampNeg 12 = 12 := rfl
  rw [Ft_leaveOut_eq]
  by_cases q : SP V0 D kn (grp V0 g) 12 = 0
  · refine ⟨h, ?_, fr_rf _ _, fun j hj => ?_⟩
    · have c0 : lg_cmp (Int64.ofInt 0) 0 = 0 := by decide
      simp only [ax_in, s1, t12, v12, q, c0, show ¬ (12 : Int32) < 0 by decide, show (12 : Nat) < 13 by decide, not_false_eq_true, and_self, ↓reduceIte, decide_true]
    · rw [(SP_0 q).1 j, l_sub_0]
  · obtain ⟨h', r1, r2, r3⟩ := z_lo_11 (x := 108 + g) (by omega) 13 0 h (by omega) w0 s1
    have c0 : ¬ lg_cmp (Int64.ofInt (SP V0 D kn (grp V0 g) 12)) 0 = 0 := by
      rw [lgc_eq, hl]
      have hb := List.length_filter_le (grp V0 g) (tkL V0 D kn)
      have hb2 := flF_len (P := tkB V0 D kn) (nM V0) 0
      have hb3 : (nM V0 : Int) < 2147483648 := by
        show (((V0 74 0).toInt.toNat : Nat) : Int) < 2147483648
        have := Int32.toInt_lt (V0 74 0)
        omega
      unfold tkL at hb hl q ⊢
      rw [l_toInt (by omega)]
      intro z
      exact q (by rw [hl]; exact z)
    refine ⟨h', ?_, r2, fun j hj => by rw [r3 j hj, if_pos (Nat.zero_le _), o.2.2.2.1 g hg j hj]⟩
    simp only [ax_in, s1, t12, v12, c0, show ¬ (12 : Int32) < 0 by decide, show (12 : Nat) < 13 by decide, not_false_eq_true, and_self, ↓reduceIte, decide_false, Bool.false_eq_true]
    exact r1
def ngr (V : BV) (g : Nat) : Nat → Bool := fun i => !grp V g i
theorem SP_ngr (V : BV) (D : WD) (kn : Int32) (g k : Nat) : SP V D kn allB k - SP V D kn (grp V g) k = SP V D kn (ngr V g) k := by
  have e : SP V D kn allB k = SP V D kn (ngr V g) k + SP V D kn (grp V g) k := by
    rw [SP_ite, SP_ite, SP_ite, ← sg_add]
    refine sg_cg fun i _ => ?_
    unfold ngr allB
    cases grp V g i <;> simp
  omega
theorem z_solveWithout {h : ax_H} (w : ok h) (g : GV (V h)) {D : WD} (f : WF D) {kn : Int32} (hc : ckOk (V h) D kn) (o : OP h (V h) D kn) {gr : Nat} (hg : gr < 47) : ∃ h', Ft_solveWithout 99 (nI gr) h = some (bB (slB (SP (V h) D kn (ngr (V h) gr)) (FT D).length), h') ∧ fr S1x h h' ∧ OP h' (V h) D kn ∧ (slB (SP (V h) D kn (ngr (V h) gr)) (FT D).length = true → ∀ t, t < 6 → gI h' 101 t = Int32.ofInt (anZ (V h) D kn (SP (V h) D kn (ngr (V h) gr)) t)) := by
  have w0 := w
  obtain ⟨wS, wR, wG, wN⟩ := w
  have g46 : gR h 107 46 = 154 := wG.1 46 (by omega)
  have gg : gR h 107 gr = 108 + gr := wG.1 gr hg
  have s154 : gS h 154 = (17, 13) := wG.2 46 (by omega)
  have s155 : gS h 155 = (17, 13) := by simp only [wS]
  obtain ⟨h1, hh1⟩ : ∃ h1, h1 = rL h 155 (va_cpy (gL h 154) (gL h 155) (Int32.toNatClampNeg 0) (Int32.toNatClampNeg 0) (Int32.toNatClampNeg 13)) := ⟨_, rfl⟩
  have F : fr S155 h h1 := by rw [hh1]; exact fr_155
  have o1 := OP_155 f F o
  obtain ⟨h2, a1, a2, a3⟩ := z_leaveOut (ok_fr F w0) o1 hg
  have F2 : fr S155 h h2 := fr_tr F a2
  have hV := V_frc (S155_c F2)
  obtain ⟨h', r1, r2, r3, r4⟩ := z_sol (kn := kn) (P := ngr (V h) gr) (ok_fr F2 w0) (by rw [hV]; exact g) f (by rw [hV]; exact hc) (by rw [hV]; exact OP_155 f F2 o) (fun k hk => by
    rw [a3 k hk, hh1, cp_155 k hk, hV, ← SP_ngr, Int64.ofInt_sub]
    congr 1
    rw [← grp_46 (V h)]
    exact o.2.2.2.1 46 (by omega) k hk)
  rw [hV] at r1 r3 r4
  refine ⟨h', ?_, fr_tr (S155_x F2) (S101_x r2), r3, r4⟩
  have t46 : Int32.toNatClampNeg 46 = 46 := rfl
  have tg : (nI gr).toNatClampNeg = gr := nJ_n (by omega)
  have ng : ¬ nI gr < 0 := nJ_nn (by omega)
  have S1 : gS h1 = gS h := fr_S F
  have R1 : gR h1 = gR h := fr_R F
  have S2 : gS h2 = gS h := fr_S F2
  have a1' : Ft_leaveOut 99 (gR h1 (gR h1 99 10) (Int32.toNatClampNeg (nI gr))) h1 = some h2 := by
    rw [R1, tg]
    simp only [wR, gg]
    exact a1
  rw [Ft_solveWithout_eq]
  simp only [wS, wR, ↓reduceIte, ax_in, t46, g46, show ¬ (46 : Int32) < 0 by decide, show (46 : Nat) < 47 by decide, not_false_eq_true, and_self, ← hh1, S1, R1, tg, ng, hg, ↓bnd a1', S2, ↓bnd r1]
  rw [if_pos (cpc h 154 155 s154 s155), gg, bnd a1]
  simp only [S2, wS, ↓reduceIte, ↓bnd r1]
  cases slB (SP (V h) D kn (ngr (V h) gr)) (FT D).length <;> rfl
theorem z_each {h : ax_H} (w : ok h) (g : GV (V h)) {a : Nat} {D : WD} (f : WF D) (c : WC h a D) (kn : Int32) {gr : Nat} (hg : gr < 47) : ∃ h', B_each_86 (nI gr) 64 kn a h = some (anV (V h) D kn (ngr (V h) gr) 4, h') ∧ fr Sc h h' := by
  obtain ⟨h1, a1, a2, a3⟩ := z_open w g f c kn
  have w1 := ok_fr a2 w
  have hV := V_frc a2
  obtain ⟨wS, wR, wG, wN⟩ := w
  have a1' : Ft_open (gR h 64 3) (gR h 64 0) a kn h = some (bB (cko (V h) D kn 6 0), h1) := by
    simp only [wR]
    exact a1
  unfold anV agk
  cases hk : cko (V h) D kn 6 0 with
  | false =>
    rw [hk] at a1 a1'
    refine ⟨h1, ?_, a2⟩
    rw [B_each_86_eq]
    try simp only [wS, wR, ↓reduceIte]
    simp only [gI_pI, gI_pL, gI_pR, gL_pI, gL_pL, gL_pR, gR_pI, gR_pL, gR_pR, gS_pI, gS_pL, gS_pR, ↓reduceIte, Nat.reduceEqDiff, decide_eq_true_eq, Option.bind_some, false_and, and_false, true_and, and_true, and_self, Nat.reduceAdd, not_false_eq_true, not_true_eq_false, wS, wR, inI, ite_self, Classical.not_not, ↓bnd a1, ↓bnd a1', show bB false = 0 from rfl, Bool.false_and, Bool.false_eq_true]
  | true =>
    rw [hk] at a1 a1'
    have hc := cko_ok.mp hk
    obtain ⟨h2, b1, b2, b3, b4⟩ := z_solveWithout w1 (by rw [hV]; exact g) f (kn := kn) (by rw [hV]; exact hc) (by rw [hV]; exact a3 hk) hg
    rw [hV] at b1 b4
    obtain ⟨vS, vR, -, -⟩ := w1
    have S2 : gS h2 = gS h1 := fr_S b2
    have R2 : gR h2 = gR h1 := fr_R b2
    have b1' : Ft_solveWithout (gR h1 64 3) (nI gr) h1 = some (bB (slB (SP (V h) D kn (ngr (V h) gr)) (FT D).length), h2) := by
      simp only [vR]
      exact b1
    have t4 : Int32.toNatClampNeg 4 = 4 := rfl
    refine ⟨h2, ?_, fr_tr a2 (S1x_c b2)⟩
    rw [B_each_86_eq]
    try simp only [wS, wR, ↓reduceIte]
    cases hs : slB (SP (V h) D kn (ngr (V h) gr)) (FT D).length with
    | false =>
      rw [hs] at b1 b1'
      simp only [gI_pI, gI_pL, gI_pR, gL_pI, gL_pL, gL_pR, gR_pI, gR_pL, gR_pR, gS_pI, gS_pL, gS_pR, ↓reduceIte, Nat.reduceEqDiff, decide_eq_true_eq, Option.bind_some, false_and, and_false, true_and, and_true, and_self, Nat.reduceAdd, not_false_eq_true, not_true_eq_false, wS, wR, inI, ite_self, Classical.not_not, ↓bnd a1, ↓bnd a1', show ¬ bB true = 0 by decide, vS, vR, ↓bnd b1, ↓bnd b1', show bB false = 0 from rfl, Bool.and_false, Bool.false_eq_true]
    | true =>
      rw [hs] at b1 b1'
      have v := b4 hs 4 (by omega)
      simp only [gI_pI, gI_pL, gI_pR, gL_pI, gL_pL, gL_pR, gR_pI, gR_pL, gR_pR, gS_pI, gS_pL, gS_pR, ↓reduceIte, Nat.reduceEqDiff, decide_eq_true_eq, Option.bind_some, false_and, and_false, true_and, and_true, and_self, Nat.reduceAdd, not_false_eq_true, not_true_eq_false, wS, wR, inI, ite_self, Classical.not_not, ↓bnd a1, ↓bnd a1', show ¬ bB true = 0 by decide, vS, vR, ↓bnd b1, ↓bnd b1', S2, R2, ax_in, t4, show ¬ (4 : Int32) < 0 by decide, show (4 : Nat) < 6 by decide, v, Bool.and_true]
/-! the reference's: begins and fit over what is left -/
def FM2 (h : ax_H) (V0 : BV) (D : WD) (kn : Int32) (S : Nat → Int) : Prop := slB S (FT D).length = true → ∀ t, t < 6 → gL h 190 t = Int64.ofInt (anZ V0 D kn S t)
theorem zm_bf {h : ax_H} (i0 : I0 h) {w : Nat} (hw : w < 10) {D : WD} (f : WF D) (m : WM h w D) {kn : Int32} (hk : kn.toInt ≤ 9999) (ou : OUT h (tuZ (V h))) {P : Nat → Bool} (is : ISO h (fun i => tkB (V h) D kn i && P i)) : ∃ h3, M_begins 159 (nI w) kn 0 0 h = some (bB (cko (V h) D kn 6 0), h3) ∧ fr Sm h h3 ∧ (cko (V h) D kn 6 0 = true → ∃ h4, M_fit 159 h3 = some (bB (slB (SP (V h) D kn P) (FT D).length), h4) ∧ fr Sm h h4 ∧ gI h4 159 50 = nI ((tkL (V h) D kn).filter P).length ∧ FM2 h4 (V h) D kn (SP (V h) D kn P)) := by
  obtain ⟨h3, c1, c2, c3⟩ := zm_begins i0 hw (li := 0) (ins := false) (Or.inl ⟨rfl, rfl⟩) f m hk
  have hV3 := V_frm (Sbe_m c2)
  have i3 := I0_frm (Sbe_m c2) i0
  refine ⟨h3, c1, Sbe_m c2, fun hc => ?_⟩
  have hcc := cko_ok.mp hc
  have bg := c3 hc
  have ou3 : OUT h3 (tuZ (V h)) := OUT_fr c2 hV3 (fun _ => rfl) (fun _ => rfl) ou
  have is3 : ISO h3 (fun i => tkB (V h) D kn i && P i) := ISO_fr c2 hV3 (fun _ => rfl) is
  obtain ⟨h4, d1, d2, d3, d4⟩ := zm_fit i3 f (by rw [hV3]; exact hcc) (by rw [hV3]; exact bg) ou3 is3 (fun i ax hi _ => by
    rw [hV3] at hi
    have := mX_bd i0.2.2.2.2.2.1 hi ax
    unfold tuZ
    split <;> omega)
  rw [hV3] at d1 d3 d4
  have eS : sv (V h) (FT D) (mdZ (V h) D kn (tuZ (V h))) (flF (fun i => tkB (V h) D kn i && P i) (nM (V h)) 0) = SP (V h) D kn P := by
    funext k
    unfold SP tkL
    rw [flF_fil]
    rfl
  rw [eS] at d1 d4
  refine ⟨h4, d1, fr_tr (Sbe_m c2) (Sfi_m d2), ?_, d4⟩
  rw [d3]
  unfold tkL
  rw [flF_fil]
