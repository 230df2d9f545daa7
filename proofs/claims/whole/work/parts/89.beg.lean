/-! what is held and checked: the reference's begins -/
theorem gi_2 {V : BV} {t i : Nat} (h : V 72 (V 75 i).toInt.toNat = 2) (ax : Nat) : gi V t i ax = gz t (sx V (V 76 i).toInt.toNat) (sy V (V 76 i).toInt.toNat) ax := by
  unfold gi
  rw [if_neg]
  rintro ⟨_, q⟩
  rw [h] at q
  exact absurd q (by decide)
theorem zm_ck_9 {h : ax_H} (i0 : I0 h) {w : Nat} (hw : w < 10) {D : WD} (c : WM h w D) {t : Nat} (ht : t < 6) {kn : Int32} (hk : kn.toInt ≤ 9999) : ∀ (k i : Nat) (A B : Int), i + k = nM (V h) → M_checks_9 159 (nI w) (nI t) kn (Int64.ofInt B) (Int64.ofInt A) (nI i) h = M_checks_9 159 (nI w) (nI t) kn (Int64.ofInt (B + sg (fB (V h) t) (flF (ckP (V h) D kn) k i))) (Int64.ofInt (A + sg (fA (V h) t) (flF (ckP (V h) D kn) k i))) (nI (nM (V h))) h := by
  have i00 := i0
  obtain ⟨w0, e0, g⟩ := i0
  have hcn := cnts g.1
  have hn := nI_nM g.1.2.2.2.1
  have w00 := w0
  obtain ⟨wS, wR, wG, wN⟩ := w0
  have e := EQ_a e0
  unfold EQa at e
  intro k
  induction k with
  | zero =>
    intro i A B hi
    have : i = nM (V h) := by omega
    subst this
    rw [flF, sg_nil, sg_nil, Int.add_zero, Int.add_zero]
  | succ k ih =>
    intro i A B hi
    have hle : ¬ nI (nM (V h)) ≤ nI i := by rw [nJ_le (by omega) (by omega)]; omega
    have hi2 : i < 100 := by omega
    have tn : (nI i).toNatClampNeg = i := nJ_n (by omega)
    have nn : ¬ nI i < 0 := nJ_nn (by omega)
    obtain ⟨p, hp, hp2, hp3, hp4⟩ := nI_ex (g.2.2.2.1.1 i (by omega)).1
    obtain ⟨s, hs, hs2, hs3, hs4⟩ := nI_ex (g.2.2.2.1.1 i (by omega)).2.1
    have hp5 : p < 16 := by omega
    have hp6 : (V h 75 i).toInt.toNat = p := by omega
    have hs6 : (V h 76 i).toInt.toNat = s := by omega
    have tp : (nI p).toNatClampNeg = p := nJ_n (by omega)
    have np : ¬ nI p < 0 := nJ_nn (by omega)
    have hC := zm_counts w00 e0 g.2.2.2.1 hn (by omega) (i := i) (by omega) hk
    have hB := zm_isByHand i00 hw (i := i) (by omega) c
    have no : ckP (V h) D kn i = false → M_checks_9 159 (nI w) (nI t) kn (Int64.ofInt B) (Int64.ofInt A) (nI i) h = M_checks_9 159 (nI w) (nI t) kn (Int64.ofInt B) (Int64.ofInt A) (nI (i + 1)) h → M_checks_9 159 (nI w) (nI t) kn (Int64.ofInt B) (Int64.ofInt A) (nI i) h = M_checks_9 159 (nI w) (nI t) kn (Int64.ofInt (B + sg (fB (V h) t) (flF (ckP (V h) D kn) (k + 1) i))) (Int64.ofInt (A + sg (fA (V h) t) (flF (ckP (V h) D kn) (k + 1) i))) (nI (nM (V h))) h := fun q1 q2 => by
      rw [q2, flF, q1, if_neg (by decide)]
      exact ih (i + 1) A B (by omega)
    by_cases q2 : V h 72 p = 2
    case neg =>
      refine no (by unfold ckP; rw [hp6, decide_eq_false q2, Bool.false_and, Bool.and_false]) ?_
      rw [M_checks_9_eq]
      try simp only [wS, wR, ↓reduceIte]
      simp only [gI_pI, gI_pL, gI_pR, gL_pI, gL_pL, gL_pR, gR_pI, gR_pL, gR_pR, gS_pI, gS_pL, gS_pR, ↓reduceIte, Nat.reduceEqDiff, decide_eq_true_eq, Option.bind_some, false_and, and_false, true_and, and_true, and_self, Nat.reduceAdd, not_false_eq_true, not_true_eq_false, wS, wR, inI, ite_self, Classical.not_not, e, hn, hle, ax_in, tn, nn, hi2, hp, tp, np, hp5, q2, nJ_p1]
    cases q3 : rdB D (V h 77 i) with
    | false =>
      refine no (by unfold ckP; rw [q3, Bool.and_false, Bool.and_false]) ?_
      rw [M_checks_9_eq]
      try simp only [wS, wR, ↓reduceIte]
      simp only [gI_pI, gI_pL, gI_pR, gL_pI, gL_pL, gL_pR, gR_pI, gR_pL, gR_pR, gS_pI, gS_pL, gS_pR, ↓reduceIte, Nat.reduceEqDiff, decide_eq_true_eq, Option.bind_some, false_and, and_false, true_and, and_true, and_self, Nat.reduceAdd, not_false_eq_true, not_true_eq_false, wS, wR, inI, ite_self, Classical.not_not, e, hn, hle, ax_in, tn, nn, hi2, hp, tp, np, hp5, q2, nJ_p1, ↓bnd hB, bI_0, q3, Bool.false_eq_true]
    | true =>
      cases q1 : kvB (V h) kn i with
      | false =>
        refine no (by unfold ckP; rw [q1, Bool.false_and]) ?_
        rw [M_checks_9_eq]
        try simp only [wS, wR, ↓reduceIte]
        simp only [gI_pI, gI_pL, gI_pR, gL_pI, gL_pL, gL_pR, gR_pI, gR_pL, gR_pR, gS_pI, gS_pL, gS_pR, ↓reduceIte, Nat.reduceEqDiff, decide_eq_true_eq, Option.bind_some, false_and, and_false, true_and, and_true, and_self, Nat.reduceAdd, not_false_eq_true, not_true_eq_false, wS, wR, inI, ite_self, Classical.not_not, e, hn, hle, ax_in, tn, nn, hi2, hp, tp, np, hp5, q2, nJ_p1, ↓bnd hB, bI_0, q3, ↓bnd hC, q1, Bool.false_eq_true]
      | true =>
        have hb : ckP (V h) D kn i = true := by unfold ckP; rw [q1, q3, hp6, decide_eq_true q2]; rfl
        have q2' : V h 72 (V h 75 i).toInt.toNat = 2 := by rw [hp6]; exact q2
        have hG0 : M_given 159 (nI t) (gI h (gR h 159 12) (Int32.toNatClampNeg (nI i))) 0 h = some (Int32.ofInt (gi (V h) t i 0), h) := by
          rw [gi_2 q2', hs6]
          simp only [wR, tn, e, hs]
          exact zm_given w00 g.1 g.2.1 e0 ht (s := s) (by omega) (ax := 0) (by omega)
        have hG1 : M_given 159 (nI t) (gI h (gR h 159 12) (Int32.toNatClampNeg (nI i))) 1 h = some (Int32.ofInt (gi (V h) t i 1), h) := by
          rw [gi_2 q2', hs6]
          simp only [wR, tn, e, hs]
          exact zm_given w00 g.1 g.2.1 e0 ht (s := s) (by omega) (ax := 1) (by omega)
        have b0 := gi_bx g ht (i := i) (by omega) 0
        have b1 := gi_bx g ht (i := i) (by omega) 1
        have h81 := gMx_81 t
        have c0 : (Int32.ofInt (gi (V h) t i 0)).toInt64 = Int64.ofInt (gi (V h) t i 0) := i_toL (by omega)
        have c1 : (Int32.ofInt (gi (V h) t i 1)).toInt64 = Int64.ofInt (gi (V h) t i 1) := i_toL (by omega)
        have x0 : (V h 78 i).toInt64 = Int64.ofInt (mX (V h) i 0) := i_L _
        have x1 : (V h 79 i).toInt64 = Int64.ofInt (mX (V h) i 1) := i_L _
        have eA : Int64.ofInt (gi (V h) t i 0) * Int64.ofInt (mX (V h) i 0) + Int64.ofInt (gi (V h) t i 1) * Int64.ofInt (mX (V h) i 1) = Int64.ofInt (fA (V h) t i) := by
          simp only [← Int64.ofInt_mul, ← Int64.ofInt_add]; rfl
        have eB : Int64.ofInt (gi (V h) t i 0) * Int64.ofInt (gi (V h) t i 0) + Int64.ofInt (gi (V h) t i 1) * Int64.ofInt (gi (V h) t i 1) = Int64.ofInt (fB (V h) t i) := by
          simp only [← Int64.ofInt_mul, ← Int64.ofInt_add]; rfl
        have i1 := ih (i + 1) (A + fA (V h) t i) (B + fB (V h) t i) (by omega)
        rw [flF, hb, if_pos rfl, sg_cons, sg_cons, ← Int.add_assoc, ← Int.add_assoc, ← i1, M_checks_9_eq]
        try simp only [wS, wR, ↓reduceIte]
        simp only [gI_pI, gI_pL, gI_pR, gL_pI, gL_pL, gL_pR, gR_pI, gR_pL, gR_pR, gS_pI, gS_pL, gS_pR, ↓reduceIte, Nat.reduceEqDiff, decide_eq_true_eq, Option.bind_some, false_and, and_false, true_and, and_true, and_self, Nat.reduceAdd, not_false_eq_true, not_true_eq_false, wS, wR, inI, ite_self, Classical.not_not, e, hn, hle, ax_in, tn, nn, hi2, hp, tp, np, hp5, q2, nJ_p1, ↓bnd hB, bI_0, q3, ↓bnd hC, q1, ↓bnd hG0, ↓bnd hG1, c0, c1, x0, x1, eA, eB, ← Int64.ofInt_add]
theorem zm_checks {h : ax_H} (i0 : I0 h) {w : Nat} (hw : w < 10) {D : WD} (c : WM h w D) {t : Nat} (ht : t < 6) {kn : Int32} (hk : kn.toInt ≤ 9999) : (0 < ckB (V h) D kn t → M_checks 159 (nI w) (nI t) kn h = some (1, pL h 186 t (Int64.ofInt ((1000 * ckA (V h) D kn t) / ckB (V h) D kn t)))) ∧ (¬ 0 < ckB (V h) D kn t → M_checks 159 (nI w) (nI t) kn h = some (0, h)) := by
  have key := zm_ck_9 i0 hw c ht hk (nM (V h)) 0 0 0 (by omega)
  rw [Int.zero_add, Int.zero_add] at key
  obtain ⟨w0, e0, g⟩ := i0
  have hcn := cnts g.1
  have hn := nI_nM g.1.2.2.2.1
  have hb := ckB_bd g (D := D) ht kn
  have ha := ck_bd g.2.2.2.1 D kn t
  obtain ⟨wS, wR, wG, wN⟩ := w0
  have e := EQ_a e0
  unfold EQa at e
  have hle : nI (nM (V h)) ≤ nI (nM (V h)) := Int32.le_refl _
  have st : M_checks 159 (nI w) (nI t) kn h = M_checks_9 159 (nI w) (nI t) kn (Int64.ofInt (ckB (V h) D kn t)) (Int64.ofInt (ckA (V h) D kn t)) (nI (nM (V h))) h := by
    rw [M_checks_eq]
    exact key
  have tt : (nI t).toNatClampNeg = t := nJ_n (by omega)
  have nt : ¬ nI t < 0 := nJ_nn (by omega)
  have c0 : lg_cmp (Int64.ofInt (ckB (V h) D kn t)) 0 = 0 ↔ ckB (V h) D kn t = 0 := by
    rw [lgc_eq, l_toInt (by omega)]
    rfl
  constructor
  · intro hp
    have hF : M_floorOf ((1000 : Int64) * Int64.ofInt (ckA (V h) D kn t)) (Int64.ofInt (ckB (V h) D kn t)) h = some (Int64.ofInt ((1000 * ckA (V h) D kn t) / ckB (V h) D kn t), h) := by
      rw [show (1000 : Int64) = Int64.ofInt 1000 from rfl, ← Int64.ofInt_mul]
      exact zm_floorOf (by omega) (by omega) h
    have hz : ¬ ckB (V h) D kn t = 0 := by omega
    rw [st, M_checks_9_eq]
    try simp only [wS, wR, ↓reduceIte]
    simp only [gI_pI, gI_pL, gI_pR, gL_pI, gL_pL, gL_pR, gR_pI, gR_pL, gR_pR, gS_pI, gS_pL, gS_pR, ↓reduceIte, Nat.reduceEqDiff, decide_eq_true_eq, Option.bind_some, false_and, and_false, true_and, and_true, and_self, Nat.reduceAdd, not_false_eq_true, not_true_eq_false, wS, wR, inI, ite_self, Classical.not_not, e, hn, hle, c0, hz, ↓bnd hF, ax_in, tt, nt, ht]
  · intro hp
    have hz : ckB (V h) D kn t = 0 := by omega
    rw [st, M_checks_9_eq]
    try simp only [wS, wR, ↓reduceIte]
    simp only [gI_pI, gI_pL, gI_pR, gL_pI, gL_pL, gL_pR, gR_pI, gR_pL, gR_pR, gS_pI, gS_pL, gS_pR, ↓reduceIte, Nat.reduceEqDiff, decide_eq_true_eq, Option.bind_some, false_and, and_false, true_and, and_true, and_self, Nat.reduceAdd, not_false_eq_true, not_true_eq_false, wS, wR, inI, ite_self, Classical.not_not, e, hn, hle, c0, hz]
    rfl
def Sbe (a k : Nat) : Bool := decide ((a = 159 ∧ k = 49) ∨ a = 185 ∨ a = 186 ∨ a = 191)
theorem Sbe_m {h h' : ax_H} (q : fr Sbe h h') : fr Sm h h' := fr_le q fun a k z => by simp only [Sm, Sbe, decide_eq_false_iff_not] at z ⊢; omega
def ftM (h : ax_H) (l : List Nat) : Prop := gI h 159 49 = nI l.length ∧ ∀ k x, l[k]? = some x → gI h 185 k = nI x
def hdB (D : WD) (t : Nat) : Bool := decide (D.1 t = 2 ∨ D.1 t = 3)
theorem zm_be_44 {h : ax_H} (w0 : ok h) {w : Nat} (hw : w < 10) {D De : WD} {ins : Bool} {li : Int32} (c : WM h w D) (f : WF De) (hD : (ins = false ∧ De = D) ∨ (ins = true ∧ De = D4 D li)) {t : Nat} (ht : t < 6) (kn all : Int32) : M_begins_11 159 (nI w) kn (bB ins) li all (nI t) h = M_begins_91 (Int64.ofInt (De.2.1 t).toInt) (nI t) 186 159 (nI w) kn (bB ins) li all (nI t) (De.1 t) h := by
  obtain ⟨wS, wR, wG, wN⟩ := w0
  have c1 := c.1 t ht
  have c2 := c.2.1 t ht
  have hle : ¬ (6 : Int32) ≤ nI t := by rw [show (6 : Int32) = nI 6 from rfl, nJ_le (by omega) (by omega)]; omega
  have i1 : 6 * w + t < 60 := by omega
  have e6 : (6 : Int32) * nI w + nI t = nI (6 * w + t) := by rw [show (6 : Int32) = nI 6 from rfl, pk_mul, nI_add]
  have tn : (nI (6 * w + t)).toNatClampNeg = 6 * w + t := nJ_n (by omega)
  have nn : ¬ nI (6 * w + t) < 0 := nJ_nn (by omega)
  have i4 : (nI t = 4) ↔ t = 4 := nI_eq4 (by omega)
  have fz := (f.1 t ht).2.2
  have b0 : bB false = 0 := rfl
  have b1 : ¬ bB true = 0 := by decide
  rcases hD with ⟨rfl, rfl⟩ | ⟨rfl, rfl⟩
  · rw [M_begins_11_eq]
    simp only [gI_pI, gI_pL, gI_pR, gL_pI, gL_pL, gL_pR, gR_pI, gR_pL, gR_pR, gS_pI, gS_pL, gS_pR, ↓reduceIte, Nat.reduceEqDiff, decide_eq_true_eq, Option.bind_some, false_and, and_false, true_and, and_true, and_self, Nat.reduceAdd, not_false_eq_true, not_true_eq_false, wS, wR, inI, ite_self, Classical.not_not, hle, b0, ax_in, e6, tn, nn, i1, c1, M_begins_44_eq, c2]
    by_cases q : De.1 t = 2
    · rw [if_neg (not_not_intro q), i_L]
    · rw [if_pos q, fz q]
      rfl
  · by_cases q : t = 4
    · have x1 : (D4 D li).1 t = 2 := if_pos q
      have x2 : (D4 D li).2.1 t = li := if_pos q
      rw [x1, x2]
      have h4 : nI t = 4 := i4.mpr q
      rw [M_begins_11_eq]
      simp only [gI_pI, gI_pL, gI_pR, gL_pI, gL_pL, gL_pR, gR_pI, gR_pL, gR_pR, gS_pI, gS_pL, gS_pR, ↓reduceIte, Nat.reduceEqDiff, decide_eq_true_eq, Option.bind_some, false_and, and_false, true_and, and_true, and_self, Nat.reduceAdd, not_false_eq_true, not_true_eq_false, wS, wR, inI, ite_self, Classical.not_not, hle, b1, h4, M_begins_44_eq, show ¬ (6 : Int32) ≤ 4 by decide]
      rw [i_L]
    · have x1 : (D4 D li).1 t = D.1 t := if_neg q
      have x2 : (D4 D li).2.1 t = D.2.1 t := if_neg q
      rw [x1, x2]
      rw [x1, x2] at fz
      have h4 : ¬ nI t = 4 := fun z => q (i4.mp z)
      rw [M_begins_11_eq]
      simp only [gI_pI, gI_pL, gI_pR, gL_pI, gL_pL, gL_pR, gR_pI, gR_pL, gR_pR, gS_pI, gS_pL, gS_pR, ↓reduceIte, Nat.reduceEqDiff, decide_eq_true_eq, Option.bind_some, false_and, and_false, true_and, and_true, and_self, Nat.reduceAdd, not_false_eq_true, not_true_eq_false, wS, wR, inI, ite_self, Classical.not_not, hle, b1, h4, ax_in, e6, tn, nn, i1, c1, M_begins_44_eq, c2]
      by_cases q : D.1 t = 2
      · rw [if_neg (not_not_intro q), i_L]
      · rw [if_pos q, fz q]
        rfl
theorem ckB_4m (V : BV) {D De : WD} {ins : Bool} {li : Int32} (hD : (ins = false ∧ De = D) ∨ (ins = true ∧ De = D4 D li)) (kn : Int32) (t : Nat) : ckB V De kn t = ckB V D kn t ∧ ckA V De kn t = ckA V D kn t := by
  rcases hD with ⟨-, rfl⟩ | ⟨-, rfl⟩ <;> exact ⟨rfl, rfl⟩
theorem zm_be_11 {w : Nat} (hw : w < 10) {D De : WD} {ins : Bool} {li : Int32} (hD : (ins = false ∧ De = D) ∨ (ins = true ∧ De = D4 D li)) (fe : WF De) {kn : Int32} (hk : kn.toInt ≤ 9999) : ∀ (k t : Nat) (b : Bool) (l : List Nat) (h : ax_H), I0 h → WM h w D → ftM h l → l.length + (flF (fun t => decide (De.1 t = 1)) k t).length ≤ 3 → t + k = 6 → ∃ h', M_begins_11 159 (nI w) kn (bB ins) li (bB b) (nI t) h = some (bB (b && cko (V h) De kn k t), h') ∧ fr Sbe h h' ∧ ftM h' (l ++ flF (fun t => decide (De.1 t = 1)) k t) ∧ ∀ u, u < 6 → (t ≤ u → gI h' 191 u = bB (hdB De u) ∧ ((De.1 u = 3 → 0 < ckB (V h) De kn u) → gL h' 186 u = Int64.ofInt (nmZ (V h) De kn u))) ∧ (u < t → gI h' 191 u = gI h 191 u ∧ gL h' 186 u = gL h 186 u) := by
  intro k
  induction k with
  | zero =>
    intro t b l h i0 c hl hb ht
    have : t = 6 := by omega
    subst this
    refine ⟨h, ?_, fr_rf _ _, by rw [flF, List.append_nil]; exact hl, fun u hu => ⟨fun z => by omega, fun _ => ⟨rfl, rfl⟩⟩⟩
    rw [M_begins_11_eq]
    have h66 : (6 : Int32) ≤ nI 6 := by decide
    simp only [h66, decide_true, ↓reduceIte]
    cases b <;> rfl
  | succ k ih =>
    intro t b l h i0 c hl hb ht
    have ht6 : t < 6 := by omega
    have i00 := i0
    obtain ⟨w0, e0, g⟩ := i0
    have st := zm_be_44 w0 hw c fe hD ht6 kn (bB b)
    have w00 := w0
    obtain ⟨wS, wR, wG, wN⟩ := w0
    have tn : (nI t).toNatClampNeg = t := nJ_n (by omega)
    have nn : ¬ nI t < 0 := nJ_nn (by omega)
    obtain ⟨cb, ca⟩ := ckB_4m (V h) hD kn t
    have z1 : (0 : Int32) &&& 1 = 0 := by decide
    have z2 : (1 : Int32) &&& 1 = 1 := by decide
    -- the heap after held and isHeld
    obtain ⟨h2, hh2⟩ : ∃ h2, h2 = pI (pL h 186 t (Int64.ofInt (De.2.1 t).toInt)) 191 t (bB (hdB De t)) := ⟨_, rfl⟩
    have F2 : fr Sbe h h2 := by rw [hh2]; exact fr_c (fr_pL rfl) rfl
    have hV2 := V_frm (Sbe_m F2)
    have c2 : WM h2 w D := WM_eq (fun a k z1 z2 => fr_I F2 (by simp only [Sbe, decide_eq_false_iff_not]; omega)) c
    have v191 : ∀ u, gI h2 191 u = if u = t then bB (hdB De t) else gI h 191 u := fun u => by
      rw [hh2, gI_pI]
      by_cases q : u = t
      · rw [if_pos ⟨rfl, q⟩, if_pos q]
      · rw [if_neg (fun z => q z.2), if_neg q]; rfl
    have v186 : ∀ u, gL h2 186 u = if u = t then Int64.ofInt (De.2.1 t).toInt else gL h 186 u := fun u => by
      rw [hh2, gL_pI, gL_pL]
      by_cases q : u = t
      · rw [if_pos ⟨rfl, q⟩, if_pos q]
      · rw [if_neg (fun z => q z.2), if_neg q]
    have l2 : ftM h2 l := ⟨(by rw [hh2, gI_pI, if_neg (fun q => absurd q.1 (by decide)), gI_pL]; exact hl.1), fun k x z => (by rw [hh2, gI_pI, if_neg (fun q => absurd q.1 (by decide)), gI_pL]; exact hl.2 k x z)⟩
    have st2 : M_begins_11 159 (nI w) kn (bB ins) li (bB b) (nI t) h = if De.1 t = 1 then M_begins_143 159 (nI w) kn (bB ins) li (bB b) (nI t) (De.1 t) (pI (pI h2 185 l.length (nI t)) 159 49 (nI (l.length + 1))) else M_begins_143 159 (nI w) kn (bB ins) li (bB b) (nI t) (De.1 t) h2 := by
      have l20 := l2.1
      have S2 : gS h2 = gS h := fr_S F2
      have R2 : gR h2 = gR h := fr_R F2
      have u91 : M_begins_91 (Int64.ofInt (De.2.1 t).toInt) (nI t) 186 159 (nI w) kn (bB ins) li (bB b) (nI t) (De.1 t) h = M_begins_115 (bB (hdB De t)) (nI t) 191 159 (nI w) kn (bB ins) li (bB b) (nI t) (De.1 t) (pL h 186 t (Int64.ofInt (De.2.1 t).toInt)) := by
        rw [M_begins_91_eq]
        simp only [gI_pI, gI_pL, gI_pR, gL_pI, gL_pL, gL_pR, gR_pI, gR_pL, gR_pR, gS_pI, gS_pL, gS_pR, ↓reduceIte, Nat.reduceEqDiff, decide_eq_true_eq, Option.bind_some, false_and, and_false, true_and, and_true, and_self, Nat.reduceAdd, not_false_eq_true, not_true_eq_false, wS, wR, inI, ite_self, Classical.not_not, ax_in, tn, nn, ht6]
        by_cases q2 : De.1 t = 2
        · have : bB (hdB De t) = 1 := by unfold hdB; rw [decide_eq_true (Or.inl q2)]; rfl
          rw [if_pos q2, this]
        · by_cases q3 : De.1 t = 3
          · have : bB (hdB De t) = 1 := by unfold hdB; rw [decide_eq_true (Or.inr q3)]; rfl
            rw [if_neg q2, if_neg (not_not_intro q3), this]
          · have : bB (hdB De t) = 0 := by unfold hdB; rw [decide_eq_false (fun z => z.elim q2 q3)]; rfl
            rw [if_neg q2, if_pos q3, this]
      have bm : bB (hdB De t) &&& 1 = bB (hdB De t) := by cases hdB De t <;> decide
      rw [st, u91, M_begins_115_eq]
      simp only [gI_pI, gI_pL, gI_pR, gL_pI, gL_pL, gL_pR, gR_pI, gR_pL, gR_pR, gS_pI, gS_pL, gS_pR, ↓reduceIte, Nat.reduceEqDiff, decide_eq_true_eq, Option.bind_some, false_and, and_false, true_and, and_true, and_self, Nat.reduceAdd, not_false_eq_true, not_true_eq_false, wS, wR, inI, ite_self, Classical.not_not, ax_in, tn, nn, ht6, bm, ← hh2]
      by_cases q1 : De.1 t = 1
      · rw [flF, decide_eq_true q1, if_pos rfl, List.length_cons] at hb
        have tl : (nI l.length).toNatClampNeg = l.length := nJ_n (by omega)
        have nl : ¬ nI l.length < 0 := nJ_nn (by omega)
        have hl3 : l.length < 3 := by omega
        simp only [q1, not_true_eq_false, ↓reduceIte, S2, R2, wS, wR, l20, tl, nl, hl3, not_false_eq_true, and_self, gI_pI, Nat.reduceEqDiff, false_and, and_false, nJ_p1]
      · simp only [q1, not_false_eq_true, ↓reduceIte]
    by_cases q1 : De.1 t = 1
    · have n3 : ¬ De.1 t = 3 := by rw [q1]; decide
      have hz : nmZ (V h) De kn t = (De.2.1 t).toInt := by unfold nmZ; rw [if_neg n3]
      have hb' := hb
      rw [flF, decide_eq_true q1, if_pos rfl, List.length_cons] at hb'
      have F3 : fr Sbe h2 (pI (pI h2 185 l.length (nI t)) 159 49 (nI (l.length + 1))) := fr_c (fr_pI rfl) rfl
      have hV3 : V (pI (pI h2 185 l.length (nI t)) 159 49 (nI (l.length + 1))) = V h := (V_frm (Sbe_m F3)).trans hV2
      obtain ⟨h', r1, r2, r3, r4⟩ := ih (t + 1) b (l ++ [t]) _ (I0_frm (Sbe_m (fr_tr F2 F3)) i00) (WM_eq (fun a k z1 z2 => fr_I F3 (by simp only [Sbe, decide_eq_false_iff_not]; omega)) c2) ⟨by rw [gI_pI, if_pos ⟨rfl, rfl⟩, List.length_append]; rfl, fun k x z => by
        rw [gI_pI, if_neg (fun q => absurd q.1 (by decide)), gI_pI]
        rw [List.getElem?_append] at z
        by_cases kl : k < l.length
        · rw [if_pos kl] at z
          rw [if_neg (by rintro ⟨_, rfl⟩; omega)]
          exact l2.2 k x z
        · rw [if_neg kl] at z
          by_cases kl2 : k = l.length
          · subst kl2
            rw [Nat.sub_self] at z
            rw [if_pos ⟨rfl, rfl⟩]
            injection z with z
            rw [z]
          · have hk2 := (List.getElem?_eq_some_iff.mp z).1
            rw [List.length_singleton] at hk2
            omega⟩ (by rw [List.length_append, List.length_singleton]; omega) (by omega)
      rw [hV3] at r1 r4
      refine ⟨h', ?_, fr_tr F2 (fr_tr F3 r2), by rw [flF, decide_eq_true q1, if_pos rfl]; rw [List.append_assoc] at r3; exact r3, fun u hu => ?_⟩
      · rw [st2, if_pos q1, cko, decide_eq_false n3]
        simp only [Bool.not_false, Bool.true_or, Bool.true_and]
        rw [← r1, M_begins_143_eq]
        simp only [n3, not_false_eq_true, decide_true, ↓reduceIte, nJ_p1]
      · obtain ⟨x1, x2⟩ := r4 u hu
        have y1 : gI (pI (pI h2 185 l.length (nI t)) 159 49 (nI (l.length + 1))) 191 u = gI h2 191 u := by rw [gI_pI, if_neg (fun q => absurd q.1 (by decide)), gI_pI, if_neg (fun q => absurd q.1 (by decide))]
        refine ⟨fun z => ?_, fun z => ?_⟩
        · by_cases q : u = t
          · subst q
            obtain ⟨a1, a2⟩ := x2 (by omega)
            rw [a1, y1, a2, v191, if_pos rfl]
            refine ⟨rfl, fun _ => ?_⟩
            show gL h2 186 u = _
            rw [v186, if_pos rfl, hz]
          · exact x1 (by omega)
        · obtain ⟨a1, a2⟩ := x2 (by omega)
          rw [a1, y1, a2, v191, if_neg (by omega)]
          refine ⟨rfl, ?_⟩
          show gL h2 186 u = _
          rw [v186, if_neg (by omega)]
    · have hft : flF (fun t => decide (De.1 t = 1)) (k + 1) t = flF (fun t => decide (De.1 t = 1)) k (t + 1) := by rw [flF, decide_eq_false q1, if_neg (by decide)]
      rw [hft] at hb
      rw [hft]
      rw [st2, if_neg q1, cko]
      by_cases q3 : De.1 t = 3
      · obtain ⟨sy, sn⟩ := zm_checks (I0_frm (Sbe_m F2) i00) hw c2 ht6 hk
        rw [hV2] at sy sn
        by_cases q4 : 0 < ckB (V h) D kn t
        · have hy := sy q4
          have F3 : fr Sbe h2 (pL h2 186 t (Int64.ofInt ((1000 * ckA (V h) D kn t) / ckB (V h) D kn t))) := fr_pL rfl
          have hV3 := (V_frm (Sbe_m F3)).trans hV2
          obtain ⟨h', r1, r2, r3, r4⟩ := ih (t + 1) b l _ (I0_frm (Sbe_m (fr_tr F2 F3)) i00) (WM_eq (fun a k z1 z2 => fr_I F3 (by simp only [Sbe, decide_eq_false_iff_not]; omega)) c2) ⟨l2.1, l2.2⟩ (by omega) (by omega)
          rw [hV3] at r1 r4
          have cc : (!decide (De.1 t = 3) || decide (0 < ckB (V h) De kn t)) = true := by rw [cb, decide_eq_true q4, Bool.or_true]
          rw [cc, Bool.true_and]
          refine ⟨h', ?_, fr_tr F2 (fr_tr F3 r2), r3, fun u hu => ?_⟩
          · obtain ⟨vS, vR, -, -⟩ := ok_fr F2 w00
            rw [← r1, M_begins_143_eq]
            simp only [q3, not_true_eq_false, decide_false, Bool.false_eq_true, ↓reduceIte, vS, ↓bnd hy, i1_0, nJ_p1]
            cases b <;> rfl
          · obtain ⟨x1, x2⟩ := r4 u hu
            refine ⟨fun z => ?_, fun z => ?_⟩
            · by_cases q : u = t
              · subst q
                obtain ⟨a1, a2⟩ := x2 (by omega)
                rw [a1, a2, gI_pL, v191, if_pos rfl, gL_pL, if_pos ⟨rfl, rfl⟩]
                refine ⟨rfl, fun _ => ?_⟩
                unfold nmZ
                rw [if_pos q3, cb, ca]
              · exact x1 (by omega)
            · obtain ⟨a1, a2⟩ := x2 (by omega)
              rw [a1, a2, gI_pL, v191, if_neg (by omega), gL_pL, if_neg (fun y => by have := y.2; omega), v186, if_neg (by omega)]
              exact ⟨rfl, rfl⟩
        · have hy := sn q4
          obtain ⟨h', r1, r2, r3, r4⟩ := ih (t + 1) false l h2 (I0_frm (Sbe_m F2) i00) c2 l2 (by omega) (by omega)
          rw [hV2] at r1 r4
          have cc : (!decide (De.1 t = 3) || decide (0 < ckB (V h) De kn t)) = false := by rw [cb, decide_eq_false q4, decide_eq_true q3]; rfl
          rw [cc, Bool.false_and, Bool.and_false]
          rw [Bool.false_and] at r1
          refine ⟨h', ?_, fr_tr F2 r2, r3, fun u hu => ?_⟩
          · obtain ⟨vS, vR, -, -⟩ := ok_fr F2 w00
            rw [← r1, M_begins_143_eq]
            simp only [q3, not_true_eq_false, decide_false, Bool.false_eq_true, ↓reduceIte, vS, ↓bnd hy, decide_true, nJ_p1]
            rfl
          · obtain ⟨x1, x2⟩ := r4 u hu
            refine ⟨fun z => ?_, fun z => ?_⟩
            · by_cases q : u = t
              · subst q
                obtain ⟨a1, a2⟩ := x2 (by omega)
                rw [a1, v191, if_pos rfl]
                exact ⟨rfl, fun y => absurd (y q3) (by rw [cb]; exact q4)⟩
              · exact x1 (by omega)
            · obtain ⟨a1, a2⟩ := x2 (by omega)
              rw [a1, a2, v191, if_neg (by omega), v186, if_neg (by omega)]
              exact ⟨rfl, rfl⟩
      · have hz : nmZ (V h) De kn t = (De.2.1 t).toInt := by unfold nmZ; rw [if_neg q3]
        obtain ⟨h', r1, r2, r3, r4⟩ := ih (t + 1) b l h2 (I0_frm (Sbe_m F2) i00) c2 l2 (by omega) (by omega)
        rw [hV2] at r1 r4
        rw [decide_eq_false q3]
        simp only [Bool.not_false, Bool.true_or, Bool.true_and]
        refine ⟨h', ?_, fr_tr F2 r2, r3, fun u hu => ?_⟩
        · rw [← r1, M_begins_143_eq]
          simp only [q3, not_false_eq_true, decide_true, ↓reduceIte, nJ_p1]
        · obtain ⟨x1, x2⟩ := r4 u hu
          refine ⟨fun z => ?_, fun z => ?_⟩
          · by_cases q : u = t
            · subst q
              obtain ⟨a1, a2⟩ := x2 (by omega)
              rw [a1, a2, v191, if_pos rfl, v186, if_pos rfl, hz]
              exact ⟨rfl, fun _ => rfl⟩
            · exact x1 (by omega)
          · obtain ⟨a1, a2⟩ := x2 (by omega)
            rw [a1, a2, v191, if_neg (by omega), v186, if_neg (by omega)]
            exact ⟨rfl, rfl⟩
def BEG (h : ax_H) (V0 : BV) (D : WD) (kn : Int32) : Prop := ftM h (FT D) ∧ ∀ u, u < 6 → gI h 191 u = bB (hdB D u) ∧ gL h 186 u = Int64.ofInt (nmZ V0 D kn u)
theorem zm_begins {h : ax_H} (i0 : I0 h) {w : Nat} (hw : w < 10) {D De : WD} {ins : Bool} {li : Int32} (hD : (ins = false ∧ De = D) ∨ (ins = true ∧ De = D4 D li)) (fe : WF De) (c : WM h w D) {kn : Int32} (hk : kn.toInt ≤ 9999) : ∃ h', M_begins 159 (nI w) kn (bB ins) li h = some (bB (cko (V h) De kn 6 0), h') ∧ fr Sbe h h' ∧ (cko (V h) De kn 6 0 = true → BEG h' (V h) De kn) := by
  have F : fr Sbe h (pI h 159 49 0) := fr_pI rfl
  have hV := V_frm (Sbe_m F)
  have h3 := FT_3 fe
  obtain ⟨h', r1, r2, r3, r4⟩ := zm_be_11 hw hD fe hk 6 0 true [] (pI h 159 49 0) (I0_frm (Sbe_m F) i0) (WM_eq (fun a k z1 z2 => fr_I F (by simp only [Sbe, decide_eq_false_iff_not]; omega)) c) ⟨by rw [gI_pI, if_pos ⟨rfl, rfl⟩]; rfl, fun k x z => by cases z⟩ (by show 0 + (FT De).length ≤ 3; omega) (by omega)
  rw [hV] at r1 r4
  rw [Bool.true_and] at r1
  obtain ⟨wS, wR, wG, wN⟩ := i0.1
  refine ⟨h', ?_, fr_tr F r2, fun hc => ⟨r3, fun u hu => ?_⟩⟩
  · rw [M_begins_eq]
    simp only [wS, wR, ↓reduceIte]
    exact r1
  · have hcc := cko_ok.mp hc
    obtain ⟨x1, -⟩ := r4 u hu
    obtain ⟨a, b⟩ := x1 (Nat.zero_le _)
    exact ⟨a, b (hcc u hu)⟩
