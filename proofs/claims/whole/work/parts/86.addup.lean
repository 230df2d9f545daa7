/-! the sums by plates, by stars and of all -/
def grp (V : BV) (g i : Nat) : Bool := if g < 16 then decide ((V 75 i).toInt.toNat = g) else if g < 46 then decide (16 + (V 76 i).toInt.toNat = g) else true
def dZ (V : BV) (D : WD) (kn : Int32) (i ax : Nat) : Int := tuZ V i ax - stZ V D kn i ax
def SUM (h : ax_H) (S : Nat → Nat → Int) : Prop := ∀ g, g < 47 → ∀ k, k < 13 → gL h (108 + g) k = Int64.ofInt (S g k)
theorem z_au_10 {g : Nat} (hg : g < 47) : ∀ (m k : Nat) (h : ax_H), k + m = 13 → ok h → ∃ h', Ft_addUp_10 99 74 (nI g) (nI k) h = Ft_addUp_2 99 74 (nI (g + 1)) h' ∧ fr (Sad (108 + g)) h h' ∧ ∀ j, j < 13 → gL h' (108 + g) j = if k ≤ j then 0 else gL h (108 + g) j := by
  intro m
  induction m with
  | zero =>
    intro k h hk w
    have : k = 13 := by omega
    subst this
    refine ⟨h, ?_, fr_rf _ _, fun j hj => by rw [if_neg (by omega)]⟩
    have h13 : (13 : Int32) ≤ nI 13 := by decide
    rw [Ft_addUp_10_eq]
    simp only [h13, decide_true, ↓reduceIte, nJ_p1]
  | succ m ih =>
    intro k h hk w
    have hle : ¬ (13 : Int32) ≤ nI k := by rw [show (13 : Int32) = nI 13 from rfl, nJ_le (by omega) (by omega)]; omega
    have tk : (nI k).toNatClampNeg = k := nJ_n (by omega)
    have nk : ¬ nI k < 0 := nJ_nn (by omega)
    have tg : (nI g).toNatClampNeg = g := nJ_n (by omega)
    have ng : ¬ nI g < 0 := nJ_nn (by omega)
    have hk13 : k < 13 := by omega
    obtain ⟨h', r1, r2, r3⟩ := ih (k + 1) (pL h (108 + g) k 0) (by omega) (ok_pL w _ _ _)
    obtain ⟨wS, wR, wG, wN⟩ := w
    have q1 := wG.1 g hg
    have q2 := wG.2 g hg
    refine ⟨h', ?_, fr_tr (fr_pL (by simp [Sad])) r2, fun j hj => ?_⟩
    · rw [← r1, Ft_addUp_10_eq]
      simp only [gI_pI, gI_pL, gI_pR, gL_pI, gL_pL, gL_pR, gR_pI, gR_pL, gR_pR, gS_pI, gS_pL, gS_pR, ↓reduceIte, Nat.reduceEqDiff, decide_eq_true_eq, Option.bind_some, false_and, and_false, true_and, and_true, and_self, Nat.reduceAdd, not_false_eq_true, not_true_eq_false, wS, wR, inI, ite_self, Classical.not_not, hle, ax_in, tk, nk, tg, ng, hg, q1, q2, hk13, nJ_p1]
    · rw [r3 j hj]
      by_cases q : j = k
      · subst q
        rw [if_neg (by omega), if_pos (Nat.le_refl _), gL_pL, if_pos ⟨rfl, rfl⟩]
      · by_cases q2 : k ≤ j
        · rw [if_pos (by omega), if_pos q2]
        · rw [if_neg (by omega), if_neg q2, gL_pL, if_neg (fun z => q z.2)]
def Ssu (a _k : Nat) : Bool := decide (108 ≤ a ∧ a ≤ 155)
theorem Ssu_c {h h' : ax_H} (q : fr Ssu h h') : fr Sc h h' := fr_le q fun a k z => by simp only [Sc, Ssu, decide_eq_false_iff_not] at z ⊢; omega
theorem Sad_s {x : Nat} (hx : 108 ≤ x ∧ x ≤ 155) {h h' : ax_H} (q : fr (Sad x) h h') : fr Ssu h h' := fr_le q fun a k z => by simp only [Sad, Ssu, decide_eq_false_iff_not] at z ⊢; omega
theorem S155_s {h h' : ax_H} (q : fr S155 h h') : fr Ssu h h' := fr_le q fun a k z => by simp only [S155, Ssu, decide_eq_false_iff_not] at z ⊢; omega
theorem z_au_2 : ∀ (m g : Nat) (h : ax_H), g + m = 47 → ok h → ∃ h', Ft_addUp_2 99 74 (nI g) h = Ft_addUp_39 99 74 0 h' ∧ fr Ssu h h' ∧ ∀ g', g' < 47 → ∀ j, j < 13 → gL h' (108 + g') j = if g ≤ g' then 0 else gL h (108 + g') j := by
  intro m
  induction m with
  | zero =>
    intro g h hg w
    have : g = 47 := by omega
    subst this
    refine ⟨h, ?_, fr_rf _ _, fun g' hg' j hj => by rw [if_neg (by omega)]⟩
    have h13 : (46 : Int32) < nI 47 := by decide
    rw [Ft_addUp_2_eq]
    simp only [h13, decide_true, ↓reduceIte]
  | succ m ih =>
    intro g h hg w
    have hle : ¬ (46 : Int32) < nI g := by rw [show (46 : Int32) = nI 46 from rfl, nJ_lt (by omega) (by omega)]; omega
    obtain ⟨h1, r1, r2, r3⟩ := z_au_10 (g := g) (by omega) 13 0 h (by omega) w
    obtain ⟨h', s1, s2, s3⟩ := ih (g + 1) h1 (by omega) (ok_fr r2 w)
    refine ⟨h', ?_, fr_tr (Sad_s (by omega) r2) s2, fun g' hg' j hj => ?_⟩
    · rw [← s1, ← r1, Ft_addUp_2_eq]
      simp only [hle, decide_false, Bool.false_eq_true, ↓reduceIte]
      rfl
    · rw [s3 g' hg' j hj]
      by_cases q : g' = g
      · subst q
        rw [if_neg (by omega), if_pos (Nat.le_refl _), r3 j hj, if_pos (Nat.zero_le _)]
      · by_cases q2 : g ≤ g'
        · rw [if_pos (by omega), if_pos q2]
        · rw [if_neg (by omega), if_neg q2, fr_L r2 (by simp only [Sad, decide_eq_false_iff_not]; omega)]
theorem gF_bd {V : BV} (g : GV V) {D : WD} {i : Nat} (hi : i < nM V) (j ax : Nat) : -81 ≤ gF V (FT D) j i ax ∧ gF V (FT D) j i ax ≤ 81 := by
  unfold gF
  cases hh : (FT D)[j]? with
  | none => exact (show -81 ≤ (0 : Int) ∧ (0 : Int) ≤ 81 by decide)
  | some t =>
    have := gi_bx g (FT_mem hh).1 hi ax
    have h0 := gMx_81 t
    show -81 ≤ gi V t i ax ∧ gi V t i ax ≤ 81
    omega
theorem dZ_bd {V : BV} (g : GV V) {D : WD} (f : WF D) {kn : Int32} (hc : ckOk V D kn) {i : Nat} (hi : i < nM V) (ax : Nat) : (-rho (FT D) ≤ dZ V D kn i ax ∧ dZ V D kn i ax ≤ rho (FT D)) ∧ (-(rho (FT D) - 498) ≤ stZ V D kn i ax ∧ stZ V D kn i ax ≤ rho (FT D) - 498) ∧ rho (FT D) ≤ 50000 := by
  have h1 := st_bd g f hc hi ax 6 (Nat.le_refl _)
  have h2 := (FT_ok f).2
  have h3 := mX_bd g.2.2.2.1 hi ax
  have hcc := (FT_ok f).1
  unfold ftC at hcc
  simp only [Bool.and_eq_true, decide_eq_true_eq] at hcc
  unfold dZ tuZ stZ
  refine ⟨?_, by omega, hcc.1.2⟩
  split <;> omega
theorem RR_of {h : ax_H} {V0 : BV} {D : WD} {kn : Int32} {r i ax : Nat} (p : RWK h V0 D kn r i ax) (q : ftP h (FT D)) : RR h (FT D).length r (fun j => gF V0 (FT D) j i ax) (dZ V0 D kn i ax) := by
  refine ⟨q.1, fun j hj => ?_, p.2.2⟩
  have hg := List.getElem?_eq_getElem hj
  rw [p.1 j _ hg]
  show _ = Int32.ofInt (gF V0 (FT D) j i ax)
  unfold gF
  rw [hg]
theorem rowv_rv {V : BV} {ft : List Nat} {d : Nat → Nat → Int} {i k : Nat} (hk : k < 13) : rowv V ft d i k = (if k = 12 then 1 else 0) + rvZ (fun j => gF V ft j i 0) (d i 0) k + rvZ (fun j => gF V ft j i 1) (d i 1) k := by
  unfold rowv rvZ
  by_cases q : k = 12
  · subst q
    rfl
  · rw [if_neg q, if_neg q]
    by_cases q2 : k % 4 = 3
    · rw [if_pos q2, if_pos q2, if_pos q2]; dsimp only; omega
    · rw [if_neg q2, if_neg q2, if_neg q2]
      by_cases q3 : k / 4 ≤ k % 4
      · rw [if_pos q3, if_pos q3, if_pos q3]; dsimp only; omega
      · rw [if_neg q3, if_neg q3, if_neg q3]; rfl
theorem z_au_im {h : ax_H} (w : ok h) (g : GV (V h)) {D : WD} (f : WF D) {kn : Int32} (hc : ckOk (V h) D kn) (hS : ftP h (FT D)) {L : List Nat} (hL : L.length ≤ 100) (hl : lsP h L) (hR : RW h (V h) D kn L) {k i : Nat} (hk : L[k]? = some i) (hi : i < nM (V h)) : ∃ h', Ft_addUp_39 99 74 (nI k) h = Ft_addUp_39 99 74 (nI (k + 1)) h' ∧ fr Ssu h h' ∧ ∀ g', g' < 47 → ∀ j, j < 13 → gL h' (108 + g') j = if grp (V h) g' i then gL h (108 + g') j + Int64.ofInt (rowv (V h) (FT D) (dZ (V h) D kn) i j) else gL h (108 + g') j := by
  have hcn := cnts g.1
  have hf3 := FT_3 f
  have hkl := (List.getElem?_eq_some_iff.mp hk).1
  have l0 := hl.1
  have l1 := hl.2 k i hk
  obtain ⟨p, hp, hp2, hp3, hp4⟩ := nI_ex (g.2.2.2.1.1 i hi).1
  obtain ⟨s, hs, hs2, hs3, hs4⟩ := nI_ex (g.2.2.2.1.1 i hi).2.1
  have hp5 : p < 16 := by omega
  have hs5 : s < 30 := by omega
  have hp6 : (V h 75 i).toInt.toNat = p := by omega
  have hs6 : (V h 76 i).toInt.toNat = s := by omega
  have w0 := w
  obtain ⟨wS, wR, wG, wN⟩ := w
  have wG1 := wG.1
  have wG2 := wG.2
  have s155 : gS h 155 = (17, 13) := by simp only [wS]
  obtain ⟨rw0, rw1⟩ := hR k i hk
  have b0 := fun j => gF_bd g (D := D) hi j 0
  have b1 := fun j => gF_bd g (D := D) hi j 1
  have d0 := dZ_bd g f hc hi 0
  have d1 := dZ_bd g f hc hi 1
  -- the image's own sums
  obtain ⟨h1, a1, a2, a3⟩ := z_clearSum w0
  have F2 : fr S155 h1 (pL h1 155 12 1) := fr_pL rfl
  have e20 : (2 : Int32) * nI k = nI (2 * k) := by rw [show (2 : Int32) = nI 2 from rfl, pk_mul]
  have e21 : (2 : Int32) * nI k + 1 = nI (2 * k + 1) := by rw [e20, nJ_p1]
  obtain ⟨h3, c1, c2, c3⟩ := z_addRow hf3 (show 2 * k < 200 by omega) b0 (d := dZ (V h) D kn i 0) (by omega) (fun j hj => gF_no hj _ _) (ok_fr F2 (ok_fr a2 w0)) (RR_fr F2 (RR_fr a2 (RR_of rw0 hS)))
  obtain ⟨h4, e1, e2, e3⟩ := z_addRow hf3 (show 2 * k + 1 < 200 by omega) b1 (d := dZ (V h) D kn i 1) (by omega) (fun j hj => gF_no hj _ _) (ok_fr c2 (ok_fr F2 (ok_fr a2 w0))) (RR_fr c2 (RR_fr F2 (RR_fr a2 (RR_of rw1 hS))))
  have F4 : fr S155 h h4 := fr_tr a2 (fr_tr F2 (fr_tr c2 e2))
  have v4 : ∀ j, j < 13 → gL h4 155 j = Int64.ofInt (rowv (V h) (FT D) (dZ (V h) D kn) i j) := fun j hj => by
    rw [e3 j hj, c3 j hj, gL_pL, rowv_rv hj, Int64.ofInt_add, Int64.ofInt_add]
    congr 2
    by_cases q : j = 12
    · rw [if_pos ⟨rfl, q⟩, if_pos q]; rfl
    · rw [if_neg (fun z => q z.2), if_neg q, a3 j hj]; rfl
  -- into all, the plate, the star
  obtain ⟨h5, m1, m2, m3⟩ := z_addSum (x := 154) (y := 155) (by decide) (h := h4) (by rw [fr_S F4]; exact wG2 46 (by omega)) (by rw [fr_S F4]; exact s155)
  have S5 : gS h5 = gS h := (fr_S m2).trans (fr_S F4)
  have R5 : gR h5 = gR h := (fr_R m2).trans (fr_R F4)
  obtain ⟨h6, n1, n2, n3⟩ := z_addSum (x := 108 + p) (y := 155) (by omega) (h := h5) (by rw [S5]; exact wG2 p (by omega)) (by rw [S5]; exact s155)
  have S6 : gS h6 = gS h := (fr_S n2).trans S5
  have R6 : gR h6 = gR h := (fr_R n2).trans R5
  obtain ⟨h7, o1, o2, o3⟩ := z_addSum (x := 108 + (16 + s)) (y := 155) (by omega) (h := h6) (by rw [S6]; exact wG2 (16 + s) (by omega)) (by rw [S6]; exact s155)
  have F5 : fr Ssu h h5 := fr_tr (S155_s F4) (Sad_s (by omega) m2)
  have F6 : fr Ssu h h6 := fr_tr F5 (Sad_s (by omega) n2)
  have F7 : fr Ssu h h7 := fr_tr F6 (Sad_s (by omega) o2)
  have x51 : gI h5 100 k = nI i := (fr_I F5 rfl).trans l1
  have x52 : gI h5 75 i = nI p := (fr_I F5 rfl).trans hp
  have x61 : gI h6 100 k = nI i := (fr_I F6 rfl).trans l1
  have x62 : gI h6 76 i = nI s := (fr_I F6 rfl).trans hs
  have tk : (nI k).toNatClampNeg = k := nJ_n (by omega)
  have nk : ¬ nI k < 0 := nJ_nn (by omega)
  have ti : (nI i).toNatClampNeg = i := nJ_n (by omega)
  have ni : ¬ nI i < 0 := nJ_nn (by omega)
  have tp : (nI p).toNatClampNeg = p := nJ_n (by omega)
  have np : ¬ nI p < 0 := nJ_nn (by omega)
  have ts : (nI (16 + s)).toNatClampNeg = 16 + s := nJ_n (by omega)
  have ns : ¬ nI (16 + s) < 0 := nJ_nn (by omega)
  have hk100 : k < 100 := by omega
  have hi100 : i < 100 := by omega
  have hp47 : p < 47 := by omega
  have hs47 : 16 + s < 47 := by omega
  have g46 : gR h 107 46 = 154 := wG1 46 (by omega)
  have gp : gR h 107 p = 108 + p := wG1 p hp47
  have gs : gR h 107 (16 + s) = 108 + (16 + s) := wG1 (16 + s) hs47
  have e16 : (16 : Int32) + nI s = nI (16 + s) := by rw [show (16 : Int32) = nI 16 from rfl, nI_add]
  have t46 : Int32.toNatClampNeg 46 = 46 := rfl
  have t12 : Int32.toNatClampNeg 12 = 12 := rfl
  have S1 : gS h1 = gS h := fr_S a2
  have R1 : gR h1 = gR h := fr_R a2
  have S3 : gS h3 = gS h := (fr_S c2).trans S1
  have R3 : gR h3 = gR h := (fr_R c2).trans R1
  have S4 : gS h4 = gS h := fr_S F4
  have R4 : gR h4 = gR h := fr_R F4
  refine ⟨h7, ?_, F7, fun g' hg' j hj => ?_⟩
  · have hle : ¬ nI L.length ≤ nI k := by rw [nJ_le (by omega) (by omega)]; omega
    have q2 : Ft_addRow 99 ((2 : Int32) * nI k) (pL h1 (gR h1 99 11) (Int32.toNatClampNeg 12) 1) = some h3 := by
      rw [e20, R1, t12]
      simp only [wR]
      exact c1
    have q3 : Ft_addRow 99 (((2 : Int32) * nI k) + 1) h3 = some h4 := by rw [e21]; exact e1
    have q4 : Ft_addSum (gR h4 (gR h4 99 10) (Int32.toNatClampNeg 46)) (gR h4 99 11) h4 = some h5 := by
      rw [R4, t46]
      simp only [wR, g46]
      exact m1
    have q5 : Ft_addSum (gR h5 (gR h5 99 10) (Int32.toNatClampNeg (gI h5 (gR h5 74 1) (Int32.toNatClampNeg (gI h5 (gR h5 99 1) (Int32.toNatClampNeg (nI k))))))) (gR h5 99 11) h5 = some h6 := by
      rw [R5, tk]
      simp only [wR, x51, ti, x52, tp, gp]
      exact n1
    have q6 : Ft_addSum (gR h6 (gR h6 99 10) (Int32.toNatClampNeg ((16 : Int32) + (gI h6 (gR h6 74 2) (Int32.toNatClampNeg (gI h6 (gR h6 99 1) (Int32.toNatClampNeg (nI k)))))))) (gR h6 99 11) h6 = some h7 := by
      rw [R6, tk]
      simp only [wR, x61, ti, x62, e16, ts, gs]
      exact o1
    rw [Ft_addUp_39_eq]
    simp only [wS, ↓reduceIte, l0, hle, decide_false, Bool.false_eq_true, ↓bnd a1, ↓bnd q2, ↓bnd q3, ↓bnd q4, ↓bnd q5, ↓bnd q6, S1, R1, S3, R3, S4, R4, S5, R5, S6, R6, gS_pL, gR_pL, wR, ax_in, t12, t46, tk, nk, hk100, x51, x52, x61, x62, ti, ni, hi100, tp, np, hp47, e16, ts, ns, hs47, show ¬ (12 : Int32) < 0 by decide, show ¬ (46 : Int32) < 0 by decide, show (12 : Nat) < 13 by decide, show (46 : Nat) < 47 by decide, not_false_eq_true, and_self, nJ_p1]
  · have y5 : ∀ j, j < 13 → gL h5 155 j = gL h4 155 j := fun j hj => fr_L m2 (by simp [Sad])
    have y6 : ∀ j, j < 13 → gL h6 155 j = gL h4 155 j := fun j hj => (fr_L n2 (by simp only [Sad, decide_eq_false_iff_not]; omega)).trans (y5 j hj)
    have z4 : gL h4 (108 + g') j = gL h (108 + g') j := fr_L F4 (by simp only [S155, decide_eq_false_iff_not]; omega)
    unfold grp
    rw [hp6, hs6]
    by_cases c16 : g' < 16
    · rw [if_pos c16]
      have r7 : gL h7 (108 + g') j = gL h6 (108 + g') j := fr_L o2 (by simp only [Sad, decide_eq_false_iff_not]; omega)
      have r5 : gL h5 (108 + g') j = gL h4 (108 + g') j := fr_L m2 (by simp only [Sad, decide_eq_false_iff_not]; omega)
      by_cases q : p = g'
      · rw [decide_eq_true q, if_pos rfl, r7]
        subst q
        rw [n3 j hj, r5, z4, y5 j hj, v4 j hj]
      · rw [decide_eq_false q, if_neg (by decide), r7, fr_L n2 (by simp only [Sad, decide_eq_false_iff_not]; omega), r5, z4]
    · rw [if_neg c16]
      by_cases c46 : g' < 46
      · rw [if_pos c46]
        have r6 : gL h6 (108 + g') j = gL h5 (108 + g') j := fr_L n2 (by simp only [Sad, decide_eq_false_iff_not]; omega)
        have r5 : gL h5 (108 + g') j = gL h4 (108 + g') j := fr_L m2 (by simp only [Sad, decide_eq_false_iff_not]; omega)
        by_cases q : 16 + s = g'
        · rw [decide_eq_true q, if_pos rfl]
          subst q
          rw [o3 j hj, r6, r5, z4, y6 j hj, v4 j hj]
        · rw [decide_eq_false q, if_neg (by decide), fr_L o2 (by simp only [Sad, decide_eq_false_iff_not]; omega), r6, r5, z4]
      · rw [if_neg c46, if_pos rfl]
        have : g' = 46 := by omega
        subst this
        rw [fr_L o2 (by simp only [Sad, decide_eq_false_iff_not]; omega), fr_L n2 (by simp only [Sad, decide_eq_false_iff_not]; omega), m3 j hj, v4 j hj]
        rw [show (154 : Nat) = 108 + 46 from rfl, z4]
def svG (V : BV) (D : WD) (kn : Int32) (L : List Nat) (g k : Nat) : Int := sv V (FT D) (dZ V D kn) (L.filter (grp V g)) k
theorem RW_fr {S : Nat → Nat → Bool} {h h' : ax_H} (q : fr S h h') {D : WD} (f : WF D) (z : ∀ a j, 103 ≤ a → a ≤ 105 → S a j = false) {V0 : BV} {kn : Int32} {L : List Nat} (p : RW h V0 D kn L) : RW h' V0 D kn L := fun k i hk => ⟨RWK_fr q f (fun a j y => z a j (by simp only [Srow, decide_eq_true_eq] at y; omega) (by simp only [Srow, decide_eq_true_eq] at y; omega)) (p k i hk).1, RWK_fr q f (fun a j y => z a j (by simp only [Srow, decide_eq_true_eq] at y; omega) (by simp only [Srow, decide_eq_true_eq] at y; omega)) (p k i hk).2⟩
theorem z_au_39 {D : WD} (f : WF D) {kn : Int32} {L : List Nat} (hL : L.length ≤ 100) : ∀ (r pre : List Nat) (h : ax_H), L = pre ++ r → ok h → GV (V h) → ckOk (V h) D kn → ftP h (FT D) → lsP h L → RW h (V h) D kn L → (∀ i ∈ L, i < nM (V h)) → SUM h (svG (V h) D kn pre) → ∃ h', Ft_addUp_39 99 74 (nI pre.length) h = some h' ∧ fr Ssu h h' ∧ SUM h' (svG (V h) D kn L) := by
  intro r
  induction r with
  | nil =>
    intro pre h hL0 w g hc hS hl hR hLn hU
    rw [List.append_nil] at hL0
    subst hL0
    obtain ⟨wS, wR, wG, wN⟩ := w
    have l0 := hl.1
    have hle : nI L.length ≤ nI L.length := Int32.le_refl _
    refine ⟨h, ?_, fr_rf _ _, hU⟩
    rw [Ft_addUp_39_eq]
    simp only [wS, ↓reduceIte, l0, hle, decide_true]
  | cons i r ih =>
    intro pre h hL0 w g hc hS hl hR hLn hU
    have hget : L[pre.length]? = some i := by
      rw [hL0, List.getElem?_append_right (Nat.le_refl _), Nat.sub_self]
      rfl
    obtain ⟨h1, r1, r2, r3⟩ := z_au_im w g f hc hS hL hl hR hget (hLn i (List.mem_of_getElem? hget))
    have hV := V_frc (Ssu_c r2)
    obtain ⟨h', s1, s2, s3⟩ := ih (pre ++ [i]) h1 (by rw [List.append_assoc]; exact hL0) (ok_fr r2 w) (by rw [hV]; exact g) (by rw [hV]; exact hc) (ftP_fr r2 rfl (fun _ => rfl) hS) ⟨(fr_I r2 rfl).trans hl.1, fun k x z => (fr_I r2 rfl).trans (hl.2 k x z)⟩ (by
      rw [hV]
      exact RW_fr r2 f (fun a j z1 z2 => by simp only [Ssu, decide_eq_false_iff_not]; omega) hR) (by rw [hV]; exact hLn) (by
      rw [hV]
      intro g' hg' j hj
      rw [r3 g' hg' j hj, hU g' hg' j hj]
      unfold svG sv
      rw [List.filter_append, sg_app]
      by_cases q : grp (V h) g' i = true
      · rw [q, if_pos rfl, List.filter_cons_of_pos q, List.filter_nil, sg_cons, sg_nil, Int.add_zero, Int64.ofInt_add]
      · rw [if_neg q, List.filter_cons_of_neg q, List.filter_nil, sg_nil, Int.add_zero])
    rw [hV] at s3
    refine ⟨h', ?_, fr_tr r2 s2, s3⟩
    rw [r1, ← s1, List.length_append]
    rfl
theorem z_addUp {h : ax_H} (w : ok h) (g : GV (V h)) {D : WD} (f : WF D) {kn : Int32} (hc : ckOk (V h) D kn) (hS : ftP h (FT D)) {L : List Nat} (hL : L.length ≤ 100) (hl : lsP h L) (hR : RW h (V h) D kn L) (hLn : ∀ i ∈ L, i < nM (V h)) : ∃ h', Ft_addUp 99 74 h = some h' ∧ fr Ssu h h' ∧ SUM h' (svG (V h) D kn L) := by
  obtain ⟨h1, r1, r2, r3⟩ := z_au_2 47 0 h (by omega) w
  have hV := V_frc (Ssu_c r2)
  obtain ⟨h', s1, s2, s3⟩ := z_au_39 f hL L [] h1 rfl (ok_fr r2 w) (by rw [hV]; exact g) (by rw [hV]; exact hc) (ftP_fr r2 rfl (fun _ => rfl) hS) ⟨(fr_I r2 rfl).trans hl.1, fun k x z => (fr_I r2 rfl).trans (hl.2 k x z)⟩ (by
      rw [hV]
      exact RW_fr r2 f (fun a j z1 z2 => by simp only [Ssu, decide_eq_false_iff_not]; omega) hR) (by rw [hV]; exact hLn) (fun g' hg' j hj => by rw [r3 g' hg' j hj, if_pos (Nat.zero_le _)]; rfl)
  rw [hV] at s3
  refine ⟨h', ?_, fr_tr r2 s2, s3⟩
  rw [Ft_addUp_eq]
  exact r1.trans s1
