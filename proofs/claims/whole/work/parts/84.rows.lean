/-! the rows of a fit: the class's makeRows -/
def tuZ (V : BV) (i ax : Nat) : Int := if V 72 (V 75 i).toInt.toNat = 1 then - mX V i ax else mX V i ax
theorem of_0 {z : Int} (h : -1073741824 ≤ z ∧ z ≤ 1073741824) : Int32.ofInt z = 0 ↔ z = 0 := by
  rw [i32_eq, i_toInt (by omega)]
  rfl
section
theorem z_so_6 {h : ax_H} (w : ok h) (g : GV (V h)) {D : WD} (f : WF D) {kn : Int32} (hc : ckOk (V h) D kn) (hN : ∀ u, u < 6 → gI h 101 u = Int32.ofInt (nmZ (V h) D kn u)) {i ax : Nat} (hi : i < nM (V h)) (ha : ax < 2) : ∀ (k t : Nat), t + k = 6 → Ft_settledOf_6 99 65 (nI i) (nI ax) (Int32.ofInt (zN (stT (V h) D kn i ax) t)) (nI t) h = some (Int32.ofInt (stZ (V h) D kn i ax), h) := by
  have w0 := w
  obtain ⟨wS, wR, wG, wN⟩ := w
  intro k
  induction k with
  | zero =>
    intro t ht
    have : t = 6 := by omega
    subst this
    have h66 : (6 : Int32) ≤ nI 6 := by decide
    rw [Ft_settledOf_6_eq]
    simp only [h66, decide_true, ↓reduceIte]
    rfl
  | succ k ih =>
    intro t ht
    have ht6 : t < 6 := by omega
    have hle : ¬ (6 : Int32) ≤ nI t := by rw [show (6 : Int32) = nI 6 from rfl, nJ_le (by omega) (by omega)]; omega
    have tn : (nI t).toNatClampNeg = t := nJ_n (by omega)
    have nn : ¬ nI t < 0 := nJ_nn (by omega)
    have hT := z_termOf w0 g ht6 hi ha
    have hb := nm_bd g.2.2.2.1 f hc ht6
    have hg := gi_bx g ht6 hi ax
    have h81 := gMx_81 t
    have hm := mul_bd (x := nmZ (V h) D kn t) (y := gi (V h) t i ax) (k := 299000) (m := 81) hb (by omega)
    have hv := hN t ht6
    have i1 := ih (t + 1) (by omega)
    rw [zN] at i1
    rw [Ft_settledOf_6_eq]
    by_cases q : nmZ (V h) D kn t = 0
    · have e0 : stT (V h) D kn i ax t = 0 := by unfold stT; rw [q, Int.zero_mul, Int.zero_tdiv]
      have c0 : Int32.ofInt (nmZ (V h) D kn t) = 0 := by rw [of_0 (by omega)]; exact q
      rw [e0, Int.add_zero] at i1
      simp only [gI_pI, gI_pL, gI_pR, gL_pI, gL_pL, gL_pR, gR_pI, gR_pL, gR_pR, gS_pI, gS_pL, gS_pR, ↓reduceIte, Nat.reduceEqDiff, decide_eq_true_eq, Option.bind_some, false_and, and_false, true_and, and_true, and_self, Nat.reduceAdd, not_false_eq_true, not_true_eq_false, wS, wR, inI, ite_self, Classical.not_not, hle, ax_in, tn, nn, ht6, hv, c0, nJ_p1]
      exact i1
    · have c0 : ¬ Int32.ofInt (nmZ (V h) D kn t) = 0 := by rw [of_0 (by omega)]; exact q
      have e1 : Int32.ofInt (nmZ (V h) D kn t) * Int32.ofInt (gi (V h) t i ax) / 1000 = Int32.ofInt (stT (V h) D kn i ax t) := by
        rw [← Int32.ofInt_mul, show (1000 : Int32) = Int32.ofInt 1000 from rfl, i_tdiv (by omega) (by omega)]
        rfl
      simp only [gI_pI, gI_pL, gI_pR, gL_pI, gL_pL, gL_pR, gR_pI, gR_pL, gR_pR, gS_pI, gS_pL, gS_pR, ↓reduceIte, Nat.reduceEqDiff, decide_eq_true_eq, Option.bind_some, false_and, and_false, true_and, and_true, and_self, Nat.reduceAdd, not_false_eq_true, not_true_eq_false, wS, wR, inI, ite_self, Classical.not_not, hle, ax_in, tn, nn, ht6, hv, c0, nJ_p1, ↓bnd hT, e1, ← Int32.ofInt_add]
      exact i1
theorem z_settledOf {h : ax_H} (w : ok h) (g : GV (V h)) {D : WD} (f : WF D) {kn : Int32} (hc : ckOk (V h) D kn) (hN : ∀ u, u < 6 → gI h 101 u = Int32.ofInt (nmZ (V h) D kn u)) {i ax : Nat} (hi : i < nM (V h)) (ha : ax < 2) : Ft_settledOf 99 65 (nI i) (nI ax) h = some (Int32.ofInt (stZ (V h) D kn i ax), h) := by
  rw [Ft_settledOf_eq]
  exact z_so_6 w g f hc hN hi ha 6 0 (by omega)
end
def Srow (r a k : Nat) : Bool := decide ((a = 103 ∧ 3 * r ≤ k ∧ k < 3 * r + 3) ∨ ((a = 104 ∨ a = 105) ∧ k = r))
theorem Srow_c {r : Nat} {h h' : ax_H} (q : fr (Srow r) h h') : fr Sc h h' := fr_le q fun a k z => by simp only [Sc, Srow, decide_eq_false_iff_not] at z ⊢; omega
theorem ftP_fr {S : Nat → Nat → Bool} {h h' : ax_H} (q : fr S h h') (z1 : S 99 4 = false) (z2 : ∀ k, S 102 k = false) {l : List Nat} (p : ftP h l) : ftP h' l := ⟨(fr_I q z1).trans p.1, fun k x z => (fr_I q (z2 k)).trans (p.2 k x z)⟩
def RWK (h : ax_H) (V : BV) (D : WD) (kn : Int32) (r i ax : Nat) : Prop := (∀ j t, (FT D)[j]? = some t → gI h 103 (3 * r + j) = Int32.ofInt (gi V t i ax)) ∧ gI h 104 r = Int32.ofInt (stZ V D kn i ax) ∧ gI h 105 r = Int32.ofInt (tuZ V i ax - stZ V D kn i ax)
theorem z_mr_53 {D : WD} (f : WF D) {kn : Int32} {k i ax : Nat} (ha : ax < 2) (hk : k < 100) (tu : Int32) : ∀ (m j : Nat) (h : ax_H), j + m = (FT D).length → ok h → GV (V h) → ckOk (V h) D kn → SET h (V h) D kn → i < nM (V h) → (tu = if V h 72 (V h 75 i).toInt.toNat = 1 then 1 else 0) → (∀ j' t, j' < j → (FT D)[j']? = some t → gI h 103 (3 * (2 * k + ax) + j') = Int32.ofInt (gi (V h) t i ax)) → ∃ h', Ft_makeRows_53 99 65 (nI k) (nI i) tu (nI ax) (nI (2 * k + ax)) (nI j) h = Ft_makeRows_36 99 65 (nI k) (nI i) tu (nI (ax + 1)) h' ∧ fr (Srow (2 * k + ax)) h h' ∧ RWK h' (V h) D kn (2 * k + ax) i ax := by
  have hf3 := FT_3 f
  intro m
  induction m with
  | zero =>
    intro j h hj w g hc hS hi htu hdone
    have hcn := cnts g.1
    have w0 := w
    obtain ⟨wS, wR, wG, wN⟩ := w
    have hi2 : i < 100 := by omega
    have hSO := z_settledOf w0 g f hc hS.2 hi ha
    have c4 := hS.1.1
    have hle : nI (FT D).length ≤ nI j := by rw [nJ_le (by omega) (by omega)]; omega
    have tr : (nI (2 * k + ax)).toNatClampNeg = 2 * k + ax := nJ_n (by omega)
    have nr : ¬ nI (2 * k + ax) < 0 := nJ_nn (by omega)
    have hr : 2 * k + ax < 200 := by omega
    obtain ⟨h1, hh1⟩ : ∃ h1, h1 = pI h 104 (2 * k + ax) (Int32.ofInt (stZ (V h) D kn i ax)) := ⟨_, rfl⟩
    have F1 : fr (Srow (2 * k + ax)) h h1 := by rw [hh1]; exact fr_pI (by simp [Srow])
    have w1 := ok_fr F1 w0
    have hV := V_frc (Srow_c F1)
    have hMe := z_measured w1 hi2 ha
    rw [hV] at hMe
    have me : (if ax = 0 then V h 78 i else V h 79 i) = Int32.ofInt (mX (V h) i ax) := by
      unfold mX
      split <;> exact i_of _
    rw [me] at hMe
    have r4 : gI h1 104 (2 * k + ax) = Int32.ofInt (stZ (V h) D kn i ax) := by rw [hh1, gI_pI, if_pos ⟨rfl, rfl⟩]
    refine ⟨pI h1 105 (2 * k + ax) (Int32.ofInt (tuZ (V h) i ax - stZ (V h) D kn i ax)), ?_, fr_tr F1 (fr_pI (by simp [Srow])), ⟨fun j' t z => ?_, ?_, ?_⟩⟩
    · rw [Ft_makeRows_53_eq]
      try simp only [wS, wR, ↓reduceIte]
      simp only [gI_pI, gI_pL, gI_pR, gL_pI, gL_pL, gL_pR, gR_pI, gR_pL, gR_pR, gS_pI, gS_pL, gS_pR, ↓reduceIte, Nat.reduceEqDiff, decide_eq_true_eq, Option.bind_some, false_and, and_false, true_and, and_true, and_self, Nat.reduceAdd, not_false_eq_true, not_true_eq_false, wS, wR, inI, ite_self, Classical.not_not, c4, hle, ↓bnd hSO, ax_in, tr, nr, hr, ← hh1, ↓bnd hMe]
      obtain ⟨vS, vR, -, -⟩ := w1
      unfold tuZ
      by_cases q : V h 72 (V h 75 i).toInt.toNat = 1
      · rw [if_pos q] at htu
        rw [if_pos q, htu, Int32.ofInt_sub, Int32.ofInt_neg]
        simp only [↓bnd hMe, i1_0, decide_false, Bool.false_eq_true, ↓reduceIte, vS, vR, ax_in, tr, nr, hr, r4, nJ_p1, not_false_eq_true, and_self]
      · rw [if_neg q] at htu
        rw [if_neg q, htu, Int32.ofInt_sub]
        simp only [↓bnd hMe, ↓reduceIte, vS, vR, ax_in, tr, nr, hr, r4, nJ_p1, not_false_eq_true, and_self]
    · have hlt := (List.getElem?_eq_some_iff.mp z).1
      rw [gI_pI, if_neg (fun q => absurd q.1 (by decide)), hh1, gI_pI, if_neg (fun q => absurd q.1 (by decide))]
      exact hdone j' t (by omega) z
    · rw [gI_pI, if_neg (fun q => absurd q.1 (by decide))]; exact r4
    · rw [gI_pI, if_pos ⟨rfl, rfl⟩]
  | succ m ih =>
    intro j h hj w g hc hS hi htu hdone
    have hcn := cnts g.1
    have w0 := w
    obtain ⟨wS, wR, wG, wN⟩ := w
    have hjl : j < (FT D).length := by omega
    have hget := List.getElem?_eq_getElem hjl
    obtain ⟨t, ht⟩ : ∃ t, t = (FT D)[j] := ⟨_, rfl⟩
    rw [← ht] at hget
    obtain ⟨ht6, -⟩ := FT_mem hget
    have c4 := hS.1.1
    have f2 := hS.1.2 j t hget
    have hle : ¬ nI (FT D).length ≤ nI j := by rw [nJ_le (by omega) (by omega)]; omega
    have tj : (nI j).toNatClampNeg = j := nJ_n (by omega)
    have nj : ¬ nI j < 0 := nJ_nn (by omega)
    have hj3 : j < 3 := by omega
    have hT : Bk_termOf 65 (gI h (gR h 99 5) (Int32.toNatClampNeg (nI j))) (nI i) (nI ax) h = some (Int32.ofInt (gi (V h) t i ax), h) := by
      simp only [wR, tj, f2]
      exact z_termOf w0 g ht6 hi ha
    have e3 : nI (2 * k + ax) * 3 + nI j = nI (3 * (2 * k + ax) + j) := by
      rw [show (3 : Int32) = nI 3 from rfl, pk_mul, nI_add]
      congr 1
      omega
    have tx : (nI (3 * (2 * k + ax) + j)).toNatClampNeg = 3 * (2 * k + ax) + j := nJ_n (by omega)
    have nx : ¬ nI (3 * (2 * k + ax) + j) < 0 := nJ_nn (by omega)
    have hx : 3 * (2 * k + ax) + j < 600 := by omega
    obtain ⟨h1, hh1⟩ : ∃ h1, h1 = pI h 103 (3 * (2 * k + ax) + j) (Int32.ofInt (gi (V h) t i ax)) := ⟨_, rfl⟩
    have F1 : fr (Srow (2 * k + ax)) h h1 := by rw [hh1]; exact fr_pI (decide_eq_true (Or.inl ⟨rfl, by omega, by omega⟩))
    have hV := V_frc (Srow_c F1)
    obtain ⟨h', r1, r2, r3⟩ := ih (j + 1) h1 (by omega) (ok_fr F1 w0) (by rw [hV]; exact g) (by rw [hV]; exact hc) ⟨ftP_fr F1 (by simp only [Srow, decide_eq_false_iff_not]; omega) (fun k => by simp only [Srow, decide_eq_false_iff_not]; omega) hS.1, fun u hu => by rw [hV, fr_I F1 (by simp only [Srow, decide_eq_false_iff_not]; omega)]; exact hS.2 u hu⟩ (by rw [hV]; exact hi) (by rw [hV]; exact htu) (fun j' t' hj' z => by
      rw [hV, hh1, gI_pI]
      by_cases q : j' = j
      · subst q
        rw [if_pos ⟨rfl, rfl⟩]
        rw [hget] at z
        injection z with z
        rw [z]
      · rw [if_neg (by rintro ⟨_, q2⟩; omega)]
        exact hdone j' t' (by omega) z)
    rw [hV] at r3
    refine ⟨h', ?_, fr_tr F1 r2, r3⟩
    refine Eq.trans ?_ r1
    rw [Ft_makeRows_53_eq]
    try simp only [wS, wR, ↓reduceIte]
    simp only [gI_pI, gI_pL, gI_pR, gL_pI, gL_pL, gL_pR, gR_pI, gR_pL, gR_pR, gS_pI, gS_pL, gS_pR, ↓reduceIte, Nat.reduceEqDiff, decide_eq_true_eq, Option.bind_some, false_and, and_false, true_and, and_true, and_self, Nat.reduceAdd, not_false_eq_true, not_true_eq_false, wS, wR, inI, ite_self, Classical.not_not, c4, hle, ax_in, tj, nj, hj3, f2, e3, tx, nx, hx, nJ_p1]
    rw [bnd (z_termOf w0 g ht6 hi ha)]
    simp only [wS, hx, and_self, ↓reduceIte, ← hh1]
def Srw2 (k a j : Nat) : Bool := decide ((a = 103 ∧ 6 * k ≤ j ∧ j < 6 * k + 6) ∨ ((a = 104 ∨ a = 105) ∧ (j = 2 * k ∨ j = 2 * k + 1)))
theorem Srow_0 {k : Nat} {h h' : ax_H} (q : fr (Srow (2 * k + 0)) h h') : fr (Srw2 k) h h' := fr_le q fun a j z => by simp only [Srw2, Srow, decide_eq_false_iff_not] at z ⊢; omega
theorem Srow_1 {k : Nat} {h h' : ax_H} (q : fr (Srow (2 * k + 1)) h h') : fr (Srw2 k) h h' := fr_le q fun a j z => by simp only [Srw2, Srow, decide_eq_false_iff_not] at z ⊢; omega
theorem Srw2_c {k : Nat} {h h' : ax_H} (q : fr (Srw2 k) h h') : fr Sc h h' := fr_le q fun a j z => by simp only [Sc, Srw2, decide_eq_false_iff_not] at z ⊢; omega
theorem SET_fr {S : Nat → Nat → Bool} {h h' : ax_H} (q : fr S h h') (z1 : S 99 4 = false) (z2 : ∀ k, S 102 k = false) (z3 : ∀ k, S 101 k = false) {V0 : BV} {D : WD} {kn : Int32} (p : SET h V0 D kn) : SET h' V0 D kn := ⟨ftP_fr q z1 z2 p.1, fun u hu => (fr_I q (z3 u)).trans (p.2 u hu)⟩
theorem z_mr_im {D : WD} (f : WF D) {kn : Int32} {k i : Nat} (hk : k < 100) {h : ax_H} (w : ok h) (g : GV (V h)) (hc : ckOk (V h) D kn) (hS : SET h (V h) D kn) (hi : i < nM (V h)) {tu : Int32} (htu : tu = if V h 72 (V h 75 i).toInt.toNat = 1 then 1 else 0) : ∃ h', Ft_makeRows_36 99 65 (nI k) (nI i) tu 0 h = Ft_makeRows_2 99 65 (nI (k + 1)) h' ∧ fr (Srw2 k) h h' ∧ RWK h' (V h) D kn (2 * k) i 0 ∧ RWK h' (V h) D kn (2 * k + 1) i 1 := by
  obtain ⟨h1, r1, r2, r3⟩ := z_mr_53 f (ax := 0) (by omega) hk tu (FT D).length 0 h (by omega) w g hc hS hi htu (fun j' t z => by omega)
  have hV := V_frc (Srow_c r2)
  have S1 : SET h1 (V h1) D kn := by
    rw [hV]
    exact SET_fr r2 (by simp only [Srow, decide_eq_false_iff_not]; omega) (fun k => by simp only [Srow, decide_eq_false_iff_not]; omega) (fun k => by simp only [Srow, decide_eq_false_iff_not]; omega) hS
  obtain ⟨h2, s1, s2, s3⟩ := z_mr_53 f (ax := 1) (by omega) hk tu (FT D).length 0 h1 (by omega) (ok_fr r2 w) (by rw [hV]; exact g) (by rw [hV]; exact hc) S1 (by rw [hV]; exact hi) (by rw [hV]; exact htu) (fun j' t z => by omega)
  rw [hV] at s3
  have nz : ∀ a j, Srow (2 * k + 0) a j = true → Srow (2 * k + 1) a j = false := fun a j z => by simp only [Srow, decide_eq_true_eq, decide_eq_false_iff_not] at z ⊢; omega
  have hf3 := FT_3 f
  refine ⟨h2, ?_, fr_tr (Srow_0 r2) (Srow_1 s2), ⟨fun j t z => ?_, ?_, ?_⟩, s3⟩
  · have e0 : ((2 : Int32) * nI k) + 0 = nI (2 * k + 0) := by rw [Int32.add_zero, show (2 : Int32) = nI 2 from rfl, pk_mul]; rfl
    have e1 : ((2 : Int32) * nI k) + nI 1 = nI (2 * k + 1) := by rw [show (2 : Int32) = nI 2 from rfl, pk_mul, nI_add]
    rw [Ft_makeRows_36_eq, e0]
    simp only [show ¬ (2 : Int32) ≤ 0 by decide, decide_false, Bool.false_eq_true, ↓reduceIte]
    refine Eq.trans r1 ?_
    rw [Ft_makeRows_36_eq, e1]
    simp only [show ¬ (2 : Int32) ≤ nI (0 + 1) by decide, decide_false, Bool.false_eq_true, ↓reduceIte]
    refine Eq.trans s1 ?_
    rw [Ft_makeRows_36_eq]
    simp only [show (2 : Int32) ≤ nI (1 + 1) by decide, decide_true, ↓reduceIte, nJ_p1]
  · have hlt := (List.getElem?_eq_some_iff.mp z).1
    rw [fr_I s2 (nz _ _ (decide_eq_true (Or.inl ⟨rfl, by omega, by omega⟩)))]
    exact r3.1 j t z
  · exact (fr_I s2 (nz 104 (2 * k) (decide_eq_true (Or.inr ⟨Or.inl rfl, rfl⟩)))).trans r3.2.1
  · exact (fr_I s2 (nz 105 (2 * k) (decide_eq_true (Or.inr ⟨Or.inr rfl, rfl⟩)))).trans r3.2.2
def Srw (a _k : Nat) : Bool := decide (103 ≤ a ∧ a ≤ 105)
theorem Srw_c {h h' : ax_H} (q : fr Srw h h') : fr Sc h h' := fr_le q fun a k z => by simp only [Sc, Srw, decide_eq_false_iff_not] at z ⊢; omega
theorem Srw2_w {k : Nat} {h h' : ax_H} (q : fr (Srw2 k) h h') : fr Srw h h' := fr_le q fun a j z => by simp only [Srw, Srw2, decide_eq_false_iff_not] at z ⊢; omega
theorem RWK_fr {S : Nat → Nat → Bool} {h h' : ax_H} (q : fr S h h') {D : WD} (f : WF D) {r : Nat} (z : ∀ a j, Srow r a j = true → S a j = false) {V0 : BV} {kn : Int32} {i ax : Nat} (p : RWK h V0 D kn r i ax) : RWK h' V0 D kn r i ax := by
  have hf3 := FT_3 f
  refine ⟨fun j t zz => ?_, ?_, ?_⟩
  · have hlt := (List.getElem?_eq_some_iff.mp zz).1
    rw [fr_I q (z _ _ (decide_eq_true (Or.inl ⟨rfl, by omega, by omega⟩)))]
    exact p.1 j t zz
  · rw [fr_I q (z _ _ (decide_eq_true (Or.inr ⟨Or.inl rfl, rfl⟩)))]; exact p.2.1
  · rw [fr_I q (z _ _ (decide_eq_true (Or.inr ⟨Or.inr rfl, rfl⟩)))]; exact p.2.2
def RW (h : ax_H) (V0 : BV) (D : WD) (kn : Int32) (L : List Nat) : Prop := ∀ k i, L[k]? = some i → RWK h V0 D kn (2 * k) i 0 ∧ RWK h V0 D kn (2 * k + 1) i 1
theorem z_mr_2 {D : WD} (f : WF D) {kn : Int32} {L : List Nat} (hL : L.length ≤ 100) : ∀ (m k : Nat) (h : ax_H), k + m = L.length → ok h → GV (V h) → ckOk (V h) D kn → SET h (V h) D kn → lsP h L → (∀ i ∈ L, i < nM (V h)) → (∀ k' i, k' < k → L[k']? = some i → RWK h (V h) D kn (2 * k') i 0 ∧ RWK h (V h) D kn (2 * k' + 1) i 1) → ∃ h', Ft_makeRows_2 99 65 (nI k) h = some h' ∧ fr Srw h h' ∧ RW h' (V h) D kn L := by
  intro m
  induction m with
  | zero =>
    intro k h hk w g hc hS hl hLn hd
    have l0 := hl.1
    obtain ⟨wS, wR, wG, wN⟩ := w
    have hle : nI L.length ≤ nI k := by rw [nJ_le (by omega) (by omega)]; omega
    refine ⟨h, ?_, fr_rf _ _, fun k' i z => hd k' i (by have := (List.getElem?_eq_some_iff.mp z).1; omega) z⟩
    rw [Ft_makeRows_2_eq]
    try simp only [wS, wR, ↓reduceIte]
    simp only [gI_pI, gI_pL, gI_pR, gL_pI, gL_pL, gL_pR, gR_pI, gR_pL, gR_pR, gS_pI, gS_pL, gS_pR, ↓reduceIte, Nat.reduceEqDiff, decide_eq_true_eq, Option.bind_some, false_and, and_false, true_and, and_true, and_self, Nat.reduceAdd, not_false_eq_true, not_true_eq_false, wS, wR, inI, ite_self, Classical.not_not, l0, hle]
  | succ m ih =>
    intro k h hk w g hc hS hl hLn hd
    have hcn := cnts g.1
    have l0 := hl.1
    have w0 := w
    obtain ⟨wS, wR, wG, wN⟩ := w
    have hkl : k < L.length := by omega
    have hget := List.getElem?_eq_getElem hkl
    obtain ⟨i, hi'⟩ : ∃ i, i = L[k] := ⟨_, rfl⟩
    rw [← hi'] at hget
    have hi := hLn i (List.mem_of_getElem? hget)
    have l1 := hl.2 k i hget
    have hle : ¬ nI L.length ≤ nI k := by rw [nJ_le (by omega) (by omega)]; omega
    have tk : (nI k).toNatClampNeg = k := nJ_n (by omega)
    have nk : ¬ nI k < 0 := nJ_nn (by omega)
    have hk100 : k < 100 := by omega
    have hKd := z_kindOf w0 g hi
    obtain ⟨h1, r1, r2, r3, r4⟩ := z_mr_im f (k := k) (by omega) w0 g hc hS hi (tu := if V h 72 (V h 75 i).toInt.toNat = 1 then 1 else 0) rfl
    have hV := V_frc (Srw2_c r2)
    obtain ⟨h', s1, s2, s3⟩ := ih (k + 1) h1 (by omega) (ok_fr r2 w0) (by rw [hV]; exact g) (by rw [hV]; exact hc) (by
      rw [hV]
      exact SET_fr r2 (by simp only [Srw2, decide_eq_false_iff_not]; omega) (fun k => by simp only [Srw2, decide_eq_false_iff_not]; omega) (fun k => by simp only [Srw2, decide_eq_false_iff_not]; omega) hS) ⟨(fr_I r2 (by simp only [Srw2, decide_eq_false_iff_not]; omega)).trans l0, fun k x z => (fr_I r2 (by simp only [Srw2, decide_eq_false_iff_not]; omega)).trans (hl.2 k x z)⟩ (by rw [hV]; exact hLn) (fun k' i' hk' z => by
      rw [hV]
      by_cases q : k' = k
      · subst q
        rw [hget] at z
        injection z with z
        subst z
        exact ⟨r3, r4⟩
      · obtain ⟨a, b⟩ := hd k' i' (by omega) z
        exact ⟨RWK_fr r2 f (fun x j y => by simp only [Srw2, Srow, decide_eq_true_eq, decide_eq_false_iff_not] at y ⊢; omega) a, RWK_fr r2 f (fun x j y => by simp only [Srw2, Srow, decide_eq_true_eq, decide_eq_false_iff_not] at y ⊢; omega) b⟩)
    rw [hV] at s3
    refine ⟨h', ?_, fr_tr (Srw2_w r2) s2, s3⟩
    rw [← s1, ← r1, Ft_makeRows_2_eq]
    have hKd' : Bk_kindOf 65 (gI h (gR h 99 1) (Int32.toNatClampNeg (nI k))) h = some (V h 72 (V h 75 i).toInt.toNat, h) := by
      simp only [wR, tk, l1]
      exact hKd
    try simp only [wS, wR, ↓reduceIte]
    simp only [gI_pI, gI_pL, gI_pR, gL_pI, gL_pL, gL_pR, gR_pI, gR_pL, gR_pR, gS_pI, gS_pL, gS_pR, ↓reduceIte, Nat.reduceEqDiff, decide_eq_true_eq, Option.bind_some, false_and, and_false, true_and, and_true, and_self, Nat.reduceAdd, not_false_eq_true, not_true_eq_false, wS, wR, inI, ite_self, Classical.not_not, l0, hle, ax_in, tk, nk, hk100, l1, ↓bnd hKd, ↓bnd hKd']
    by_cases q : V h 72 (V h 75 i).toInt.toNat = 1
    · rw [if_neg (not_not_intro q), if_pos q]
    · rw [if_pos q, if_neg q]
theorem z_makeRows {h : ax_H} (w : ok h) (g : GV (V h)) {D : WD} (f : WF D) {kn : Int32} (hc : ckOk (V h) D kn) (hS : SET h (V h) D kn) {L : List Nat} (hL : L.length ≤ 100) (hl : lsP h L) (hLn : ∀ i ∈ L, i < nM (V h)) : ∃ h', Ft_makeRows 99 65 h = some h' ∧ fr Srw h h' ∧ RW h' (V h) D kn L := by
  obtain ⟨h', r1, r2, r3⟩ := z_mr_2 f hL L.length 0 h (by omega) w g hc hS hl hLn (fun k' i z => by omega)
  exact ⟨h', by rw [Ft_makeRows_eq]; exact r1, r2, r3⟩
