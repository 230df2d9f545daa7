/-! which images a way takes -/
def rdB (D : WD) (d : Int32) : Bool := decide (D.2.2.1 = -1 ∨ D.2.2.1 = d)
def tkB (V : BV) (D : WD) (kn : Int32) (i : Nat) : Bool := kvB V kn i && (decide (¬ V 72 (V 75 i).toInt.toNat = 2) && (rdB D (V 77 i) && !lvB V D i))
theorem z_isReading {h : ax_H} {a : Nat} {D : WD} (c : WC h a D) (d : Int32) : Wy_isReading a d h = some (bI (rdB D d = true), h) := by
  obtain ⟨c1, c2, c3, c4, c5, c6, c7, c8⟩ := c
  rw [Wy_isReading_eq]
  simp only [c1.2.2, ↓reduceIte, c7, decide_eq_true_eq]
  unfold bI rdB
  simp only [decide_eq_true_eq]
  by_cases q : D.2.2.1 = -1
  · rw [if_pos q, if_pos (Or.inl q)]
  · by_cases q2 : D.2.2.1 = d
    · rw [if_neg q, if_neg (not_not_intro q2), if_pos (Or.inr q2)]
    · rw [if_neg q, if_pos q2, if_neg (fun z => z.elim q q2)]
theorem zm_isByHand {h : ax_H} (i0 : I0 h) {w i : Nat} (hw : w < 10) (hi : i < nM (V h)) {D : WD} (c : WM h w D) : M_isByHand 159 (nI w) (nI i) h = some (bI (rdB D (V h 77 i) = true), h) := by
  obtain ⟨w0, e, g⟩ := i0
  have hcn := cnts g.1
  obtain ⟨wS, wR, wG, wN⟩ := w0
  unfold EQ at e
  have hi2 : i < 100 := by omega
  obtain ⟨c1, c2, c3, c4, c5⟩ := c
  rw [M_isByHand_eq]
  simp (disch := omega) only [gI_pI, gI_pL, gI_pR, gL_pI, gL_pL, gL_pR, gR_pI, gR_pL, gR_pR, gS_pI, gS_pL, gS_pR, ↓reduceIte, Nat.reduceEqDiff, decide_eq_true_eq, Option.bind_some, false_and, and_false, true_and, and_true, and_self, Nat.reduceAdd, not_false_eq_true, not_true_eq_false, wS, wR, inI, ite_self, Classical.not_not, e, ax_in, nJ_nn, nJ_n, hw, hi2, c3]
  unfold bI rdB
  simp only [decide_eq_true_eq]
  by_cases q : D.2.2.1 = -1
  · rw [if_pos q, if_pos (Or.inl q)]
  · by_cases q2 : D.2.2.1 = V h 77 i
    · rw [if_neg q, if_neg (not_not_intro q2), if_pos (Or.inr q2)]
    · rw [if_neg q, if_pos q2, if_neg (fun z => z.elim q q2)]
def flF (P : Nat → Bool) : Nat → Nat → List Nat
  | 0, _ => []
  | k + 1, i => if P i then i :: flF P k (i + 1) else flF P k (i + 1)
theorem flF_mem {P : Nat → Bool} : ∀ (k i : Nat) {x : Nat}, x ∈ flF P k i ↔ i ≤ x ∧ x < i + k ∧ P x = true
  | 0, i, x => by
    rw [flF]
    exact ⟨fun q => (by cases q), fun ⟨a, b, _⟩ => (by omega)⟩
  | k + 1, i, x => by
    have ih := flF_mem (P := P) k (i + 1) (x := x)
    rw [flF]
    cases hp : P i with
    | true =>
      rw [if_pos rfl, List.mem_cons, ih]
      constructor
      · rintro (rfl | ⟨a, b, c⟩)
        · exact ⟨by omega, by omega, hp⟩
        · exact ⟨by omega, by omega, c⟩
      · rintro ⟨a, b, c⟩
        by_cases q : x = i
        · exact Or.inl q
        · exact Or.inr ⟨by omega, by omega, c⟩
    | false =>
      rw [if_neg (by decide), ih]
      constructor
      · rintro ⟨a, b, c⟩
        exact ⟨by omega, by omega, c⟩
      · rintro ⟨a, b, c⟩
        by_cases q : x = i
        · rw [q, hp] at c; cases c
        · exact ⟨by omega, by omega, c⟩
theorem flF_len {P : Nat → Bool} : ∀ (k i : Nat), (flF P k i).length ≤ k
  | 0, _ => Nat.le_refl _
  | k + 1, i => by
    have := flF_len (P := P) k (i + 1)
    rw [flF]
    split
    · rw [List.length_cons]; omega
    · omega
def lsP (h : ax_H) (l : List Nat) : Prop := gI h 99 0 = nI l.length ∧ ∀ k x, l[k]? = some x → gI h 100 k = nI x
def Stk (a k : Nat) : Bool := decide ((a = 99 ∧ k = 0) ∨ a = 100 ∨ a = 157)
theorem Stk_c {h h' : ax_H} (q : fr Stk h h') : fr Sc h h' := fr_le q fun a k z => by simp only [Sc, Stk, decide_eq_false_iff_not] at z ⊢; omega
theorem S157_k {h h' : ax_H} (q : fr S157 h h') : fr Stk h h' := fr_le q fun a k z => by simp only [S157, Stk, decide_eq_false_iff_not] at z ⊢; omega
theorem Stk_hi {a k : Nat} (h : 207 ≤ a) : Stk a k = false := by simp only [Stk, decide_eq_false_iff_not]; omega
theorem z_tk_14 {a : Nat} {D : WD} (f : WF D) (kn : Int32) : ∀ (k i : Nat) (l : List Nat) (h : ax_H), ok h → GV (V h) → WC h a D → lsP h l → l.length ≤ i → i + k = nM (V h) → ∃ h', Ft_take_14 99 65 a kn 74 (nI i) h = some h' ∧ fr Stk h h' ∧ lsP h' (l ++ flF (tkB (V h) D kn) k i) := by
  intro k
  induction k with
  | zero =>
    intro i l h w g c hl hli hi
    have hcn := cnts g.1
    have hn := nI_nM g.1.2.2.2.1
    obtain ⟨wS, wR, wG, wN⟩ := w
    have hle : nM (V h) ≤ i := by omega
    refine ⟨h, ?_, fr_rf _ _, by rw [flF, List.append_nil]; exact hl⟩
    rw [Ft_take_14_eq]
    try simp only [wS, wR, ↓reduceIte]
    simp (disch := omega) only [gI_pI, gI_pL, gI_pR, gL_pI, gL_pL, gL_pR, gR_pI, gR_pL, gR_pR, gS_pI, gS_pL, gS_pR, ↓reduceIte, Nat.reduceEqDiff, decide_eq_true_eq, Option.bind_some, false_and, and_false, true_and, and_true, and_self, Nat.reduceAdd, not_false_eq_true, not_true_eq_false, wS, wR, inI, ite_self, Classical.not_not, cV65, cV66, cV67, cV68, cV69, cV70, cV71, cV72, cV73, cV74, cV75, cV76, cV77, cV78, cV79, cV80, cV81, cV82, cV83, cV84, cV85, cV86, cV87, cV88, cV89, cV90, hn, nJ_le, hle]
  | succ k ih =>
    intro i l h w g c hl hli hi
    have hcn := cnts g.1
    have hn := nI_nM g.1.2.2.2.1
    have w0 := w
    obtain ⟨wS, wR, wG, wN⟩ := w
    have hle : ¬ nM (V h) ≤ i := by omega
    have hi2 : i < 100 := by omega
    have hK := z_isKnown w0 hi2 kn
    have hKd := z_kindOf w0 g (i := i) (by omega)
    have hR : Wy_isReading a (gI h (gR h 74 3) (Int32.toNatClampNeg (nI i))) h = some (bI (rdB D (V h 77 i) = true), h) := by
      simp only [wR, nJ_n (show i < 2147483648 by omega)]
      exact z_isReading c (V h 77 i)
    have sa := c.1.2.2
    have no : tkB (V h) D kn i = false → Ft_take_14 99 65 a kn 74 (nI i) h = Ft_take_14 99 65 a kn 74 (nI (i + 1)) h → ∃ h', Ft_take_14 99 65 a kn 74 (nI i) h = some h' ∧ fr Stk h h' ∧ lsP h' (l ++ flF (tkB (V h) D kn) (k + 1) i) := fun q1 q2 => by
      obtain ⟨h', r1, r2, r3⟩ := ih (i + 1) l h w0 g c hl (by omega) (by omega)
      exact ⟨h', q2.trans r1, r2, by rw [flF, q1, if_neg (by decide)]; exact r3⟩
    cases q1 : kvB (V h) kn i with
    | false =>
      refine no (by unfold tkB; rw [q1, Bool.false_and]) ?_
      rw [Ft_take_14_eq]
      try simp only [wS, wR, ↓reduceIte]
      simp (disch := omega) only [gI_pI, gI_pL, gI_pR, gL_pI, gL_pL, gL_pR, gR_pI, gR_pL, gR_pR, gS_pI, gS_pL, gS_pR, ↓reduceIte, Nat.reduceEqDiff, decide_eq_true_eq, Option.bind_some, false_and, and_false, true_and, and_true, and_self, Nat.reduceAdd, not_false_eq_true, not_true_eq_false, wS, wR, inI, ite_self, Classical.not_not, cV65, cV66, cV67, cV68, cV69, cV70, cV71, cV72, cV73, cV74, cV75, cV76, cV77, cV78, cV79, cV80, cV81, cV82, cV83, cV84, cV85, cV86, cV87, cV88, cV89, cV90, hn, nJ_le, hle, nJ_p1, ↓bnd hK, bI_0, q1, Bool.false_eq_true, Ft_take_65_eq]
    | true =>
      by_cases q2 : V h 72 (V h 75 i).toInt.toNat = 2
      · refine no (by unfold tkB; rw [decide_eq_false (not_not_intro q2), Bool.false_and, Bool.and_false]) ?_
        rw [Ft_take_14_eq]
        try simp only [wS, wR, ↓reduceIte]
        simp (disch := omega) only [gI_pI, gI_pL, gI_pR, gL_pI, gL_pL, gL_pR, gR_pI, gR_pL, gR_pR, gS_pI, gS_pL, gS_pR, ↓reduceIte, Nat.reduceEqDiff, decide_eq_true_eq, Option.bind_some, false_and, and_false, true_and, and_true, and_self, Nat.reduceAdd, not_false_eq_true, not_true_eq_false, wS, wR, inI, ite_self, Classical.not_not, cV65, cV66, cV67, cV68, cV69, cV70, cV71, cV72, cV73, cV74, cV75, cV76, cV77, cV78, cV79, cV80, cV81, cV82, cV83, cV84, cV85, cV86, cV87, cV88, cV89, cV90, hn, nJ_le, hle, nJ_p1, ↓bnd hK, bI_0, q1, ↓bnd hKd, q2, Ft_take_65_eq]
      · cases q3 : rdB D (V h 77 i) with
        | false =>
          refine no (by unfold tkB; rw [q3, Bool.false_and, Bool.and_false, Bool.and_false]) ?_
          rw [Ft_take_14_eq]
          try simp only [wS, wR, ↓reduceIte]
          simp (disch := omega) only [gI_pI, gI_pL, gI_pR, gL_pI, gL_pL, gL_pR, gR_pI, gR_pL, gR_pR, gS_pI, gS_pL, gS_pR, ↓reduceIte, Nat.reduceEqDiff, decide_eq_true_eq, Option.bind_some, false_and, and_false, true_and, and_true, and_self, Nat.reduceAdd, not_false_eq_true, not_true_eq_false, wS, wR, inI, ite_self, Classical.not_not, cV65, cV66, cV67, cV68, cV69, cV70, cV71, cV72, cV73, cV74, cV75, cV76, cV77, cV78, cV79, cV80, cV81, cV82, cV83, cV84, cV85, cV86, cV87, cV88, cV89, cV90, hn, nJ_le, hle, nJ_p1, ↓bnd hK, bI_0, q1, ↓bnd hKd, q2, ax_in, nJ_nn, nJ_n, hi2, sa, ↓bnd hR, q3, Bool.false_eq_true, Ft_take_65_eq]
        | true =>
          obtain ⟨h1, r1, r2⟩ := z_isLeaving w0 g (m := i) (by omega) c f
          have hV := V_frc (S157_c r2)
          have w1 := ok_fr r2 w0
          have hl1 : lsP h1 l := ⟨(fr_I r2 rfl).trans hl.1, fun k x z => (fr_I r2 rfl).trans (hl.2 k x z)⟩
          have c1 : WC h1 a D := WC_fr r2 (fun a k z => by simp only [S157, decide_eq_false_iff_not]; omega) c
          have l0 := hl1.1
          have un : Ft_take_14 99 65 a kn 74 (nI i) h = if lvB (V h) D i = true then Ft_take_14 99 65 a kn 74 (nI (i + 1)) h1 else Ft_take_14 99 65 a kn 74 (nI (i + 1)) (pI (pI h1 100 l.length (nI i)) 99 0 (nI (l.length + 1))) := by
            rw [Ft_take_14_eq]
            try simp only [wS, wR, ↓reduceIte]
            simp (disch := omega) only [gI_pI, gI_pL, gI_pR, gL_pI, gL_pL, gL_pR, gR_pI, gR_pL, gR_pR, gS_pI, gS_pL, gS_pR, ↓reduceIte, Nat.reduceEqDiff, decide_eq_true_eq, Option.bind_some, false_and, and_false, true_and, and_true, and_self, Nat.reduceAdd, not_false_eq_true, not_true_eq_false, wS, wR, inI, ite_self, Classical.not_not, cV65, cV66, cV67, cV68, cV69, cV70, cV71, cV72, cV73, cV74, cV75, cV76, cV77, cV78, cV79, cV80, cV81, cV82, cV83, cV84, cV85, cV86, cV87, cV88, cV89, cV90, hn, nJ_le, hle, nJ_p1, ↓bnd hK, bI_0, q1, ↓bnd hKd, q2, ax_in, nJ_nn, nJ_n, hi2, sa, ↓bnd hR, q3, Ft_take_65_eq, i1_0, ↓bnd r1]
            obtain ⟨vS, vR, -, -⟩ := w1
            have hl100 : l.length < 100 := by omega
            by_cases q4 : lvB (V h) D i = true
            · simp only [q4, not_true_eq_false, not_false_eq_true, ↓reduceIte]
            · simp (disch := omega) only [q4, not_true_eq_false, not_false_eq_true, ↓reduceIte, vS, vR, ax_in, nJ_nn, nJ_n, hl100, l0, and_self, gS_pI, gI_pI, Nat.reduceEqDiff, false_and, nJ_p1, Bool.false_eq_true]
          cases q4 : lvB (V h) D i with
          | true =>
            rw [q4, if_pos rfl] at un
            obtain ⟨h', s1, s2, s3⟩ := ih (i + 1) l h1 w1 (by rw [hV]; exact g) c1 hl1 (by omega) (by rw [hV]; omega)
            rw [hV] at s3
            have tf : tkB (V h) D kn i = false := by unfold tkB; rw [q4]; simp
            exact ⟨h', un.trans s1, fr_tr (S157_k r2) s2, by rw [flF, tf, if_neg (by decide)]; exact s3⟩
          | false =>
            rw [q4, if_neg (by decide)] at un
            have tt : tkB (V h) D kn i = true := by unfold tkB; rw [q1, q3, q4, decide_eq_true q2]; rfl
            have F2 : fr Stk h1 (pI (pI h1 100 l.length (nI i)) 99 0 (nI (l.length + 1))) := fr_c (fr_pI rfl) rfl
            have hV2 := V_frc (Stk_c F2)
            obtain ⟨h', s1, s2, s3⟩ := ih (i + 1) (l ++ [i]) (pI (pI h1 100 l.length (nI i)) 99 0 (nI (l.length + 1))) (ok_fr F2 w1) (by rw [hV2, hV]; exact g) (WC_fr F2 (fun a k z => Stk_hi z) c1) ⟨by rw [gI_pI, if_pos ⟨rfl, rfl⟩, List.length_append]; rfl, fun k x z => by
              rw [gI_pI, if_neg (fun q => absurd q.1 (by decide)), gI_pI]
              rw [List.getElem?_append] at z
              by_cases kl : k < l.length
              · rw [if_pos kl] at z
                rw [if_neg (by rintro ⟨_, rfl⟩; omega)]
                exact hl1.2 k x z
              · rw [if_neg kl] at z
                by_cases kl2 : k = l.length
                · subst kl2
                  rw [Nat.sub_self] at z
                  rw [if_pos ⟨rfl, rfl⟩]
                  injection z with z
                  rw [z]
                · have hk2 := (List.getElem?_eq_some_iff.mp z).1
                  rw [List.length_singleton] at hk2
                  omega⟩ (by rw [List.length_append]; show _ + 1 ≤ _; omega) (by rw [hV2, hV]; omega)
            rw [hV2, hV, List.append_assoc] at s3
            exact ⟨h', un.trans s1, fr_tr (S157_k r2) (fr_tr F2 s2), by rw [flF, tt, if_pos rfl]; exact s3⟩
/-- the images taken, in their order -/
def tkL (V : BV) (D : WD) (kn : Int32) : List Nat := flF (tkB V D kn) (nM V) 0
theorem z_take {h : ax_H} (w : ok h) (g : GV (V h)) {a : Nat} {D : WD} (c : WC h a D) (f : WF D) (kn : Int32) : ∃ h', Ft_take 99 65 a kn h = some h' ∧ fr Stk h h' ∧ lsP h' (tkL (V h) D kn) := by
  have F0 : fr Stk h (pI h 99 0 0) := fr_pI rfl
  have hV := V_frc (Stk_c F0)
  obtain ⟨h', r1, r2, r3⟩ := z_tk_14 f kn (nM (V h)) 0 [] (pI h 99 0 0) (ok_pI w _ _ _) (by rw [hV]; exact g) (WC_fr F0 (fun a k z => Stk_hi z) c) ⟨by rw [gI_pI, if_pos ⟨rfl, rfl⟩]; rfl, fun k x z => by cases z⟩ (Nat.le_refl _) (by rw [hV]; omega)
  rw [hV, List.nil_append] at r3
  obtain ⟨wS, wR, wG, wN⟩ := w
  refine ⟨h', ?_, fr_tr F0 r2, r3⟩
  rw [Ft_take_eq]
  simp only [wS, wR, ↓reduceIte]
  exact r1
def S824 (a _k : Nat) : Bool := decide (182 ≤ a ∧ a ≤ 184)
theorem S824_m {h h' : ax_H} (q : fr S824 h h') : fr Sm h h' := fr_le q fun a k z => by simp only [Sm, S824, decide_eq_false_iff_not] at z ⊢; omega
theorem S823_4 {h h' : ax_H} (q : fr S823 h h') : fr S824 h h' := fr_le q fun a k z => by simp only [S823, S824, decide_eq_false_iff_not] at z ⊢; omega
def bB (b : Bool) : Int32 := if b then 1 else 0
theorem zm_tk_2 {w : Nat} (hw : w < 10) {D : WD} (f : WF D) {kn : Int32} (hk : kn.toInt ≤ 9999) : ∀ (k i : Nat) (h : ax_H), I0 h → WM h w D → i + k = nM (V h) → ∃ h', M_takesAll_2 159 (nI w) kn (nI i) h = some h' ∧ fr S824 h h' ∧ ∀ j, j < nM (V h) → gI h' 184 j = if i ≤ j then bB (tkB (V h) D kn j) else gI h 184 j := by
  intro k
  induction k with
  | zero =>
    intro i h i0 hM hi
    obtain ⟨w0, e, g⟩ := i0
    have hcn := cnts g.1
    have hn := nI_nM g.1.2.2.2.1
    obtain ⟨wS, wR, wG, wN⟩ := w0
    unfold EQ at e
    have hle : nM (V h) ≤ i := by omega
    refine ⟨h, ?_, fr_rf _ _, fun j hj => by rw [if_neg (by omega)]⟩
    rw [M_takesAll_2_eq]
    try simp only [wS, wR, ↓reduceIte]
    simp (disch := omega) only [gI_pI, gI_pL, gI_pR, gL_pI, gL_pL, gL_pR, gR_pI, gR_pL, gR_pR, gS_pI, gS_pL, gS_pR, ↓reduceIte, Nat.reduceEqDiff, decide_eq_true_eq, Option.bind_some, false_and, and_false, true_and, and_true, and_self, Nat.reduceAdd, not_false_eq_true, not_true_eq_false, wS, wR, inI, ite_self, Classical.not_not, e, hn, nJ_le, hle]
  | succ k ih =>
    intro i h i0 hM hi
    have i00 := i0
    obtain ⟨w0, e, g⟩ := i0
    have hcn := cnts g.1
    have hn := nI_nM g.1.2.2.2.1
    have hC := zm_counts w0 e g.2.2.2.1 hn (by omega) (i := i) (by omega) hk
    have hB := zm_isByHand i00 hw (i := i) (by omega) hM
    obtain ⟨wS, wR, wG, wN⟩ := w0
    unfold EQ at e
    have hle : ¬ nM (V h) ≤ i := by omega
    have hi2 : i < 100 := by omega
    obtain ⟨p, hp, hp2, hp3, hp4⟩ := nI_ex (g.2.2.2.1.1 i (by omega)).1
    have hp5 : p < 16 := by omega
    have hp6 : (V h 75 i).toInt.toNat = p := by omega
    have z1 : (0 : Int32) &&& 1 = 0 := by decide
    have z2 : (1 : Int32) &&& 1 = 1 := by decide
    have fin : ∀ h1, fr S823 h h1 → M_takesAll_2 159 (nI w) kn (nI i) h = M_takesAll_2 159 (nI w) kn (nI (i + 1)) (pI h1 184 i (bB (tkB (V h) D kn i))) → ∃ h', M_takesAll_2 159 (nI w) kn (nI i) h = some h' ∧ fr S824 h h' ∧ ∀ j, j < nM (V h) → gI h' 184 j = if i ≤ j then bB (tkB (V h) D kn j) else gI h 184 j := fun h1 q1 q2 => by
      have F : fr S824 h (pI h1 184 i (bB (tkB (V h) D kn i))) := fr_tr (S823_4 q1) (fr_pI rfl)
      have hV := V_frm (S824_m F)
      obtain ⟨h', r1, r2, r3⟩ := ih (i + 1) _ (I0_frm (S824_m F) i00) (WM_eq (fun a k z1 z2 => fr_I F (by simp only [S824, decide_eq_false_iff_not]; omega)) hM) (by rw [hV]; omega)
      rw [hV] at r3
      refine ⟨h', q2.trans r1, fr_tr F r2, fun j hj => ?_⟩
      rw [r3 j hj]
      by_cases q : i = j
      · subst q
        rw [if_neg (by omega), if_pos (Nat.le_refl _), gI_pI, if_pos ⟨rfl, rfl⟩]
      · by_cases q3 : i ≤ j
        · rw [if_pos (by omega), if_pos q3]
        · rw [if_neg (by omega), if_neg q3, gI_pI, if_neg (fun z => q z.2.symm), fr_I q1 rfl]
    by_cases q2 : V h 72 p = 2
    · refine fin h (fr_rf _ _) ?_
      have : tkB (V h) D kn i = false := by unfold tkB; rw [hp6, decide_eq_false (not_not_intro q2), Bool.false_and, Bool.and_false]
      rw [this, M_takesAll_2_eq]
      try simp only [wS, wR, ↓reduceIte]
      simp (disch := omega) only [gI_pI, gI_pL, gI_pR, gL_pI, gL_pL, gL_pR, gR_pI, gR_pL, gR_pR, gS_pI, gS_pL, gS_pR, ↓reduceIte, Nat.reduceEqDiff, decide_eq_true_eq, Option.bind_some, false_and, and_false, true_and, and_true, and_self, Nat.reduceAdd, not_false_eq_true, not_true_eq_false, wS, wR, inI, ite_self, Classical.not_not, e, hn, nJ_le, hle, ax_in, nJ_nn, nJ_n, nJ_p1, hi2, hp, hp5, q2, z1]
      rfl
    cases q3 : rdB D (V h 77 i) with
    | false =>
      refine fin h (fr_rf _ _) ?_
      have : tkB (V h) D kn i = false := by unfold tkB; rw [q3, Bool.false_and, Bool.and_false, Bool.and_false]
      rw [this, M_takesAll_2_eq]
      try simp only [wS, wR, ↓reduceIte]
      simp (disch := omega) only [gI_pI, gI_pL, gI_pR, gL_pI, gL_pL, gL_pR, gR_pI, gR_pL, gR_pR, gS_pI, gS_pL, gS_pR, ↓reduceIte, Nat.reduceEqDiff, decide_eq_true_eq, Option.bind_some, false_and, and_false, true_and, and_true, and_self, Nat.reduceAdd, not_false_eq_true, not_true_eq_false, wS, wR, inI, ite_self, Classical.not_not, e, hn, nJ_le, hle, ax_in, nJ_nn, nJ_n, nJ_p1, hi2, hp, hp5, q2, z1, ↓bnd hB, bI_0, q3, Bool.false_eq_true]
      rfl
    | true =>
      cases q1 : kvB (V h) kn i with
      | false =>
        refine fin h (fr_rf _ _) ?_
        have : tkB (V h) D kn i = false := by unfold tkB; rw [q1, Bool.false_and]
        rw [this, M_takesAll_2_eq]
        try simp only [wS, wR, ↓reduceIte]
        simp (disch := omega) only [gI_pI, gI_pL, gI_pR, gL_pI, gL_pL, gL_pR, gR_pI, gR_pL, gR_pR, gS_pI, gS_pL, gS_pR, ↓reduceIte, Nat.reduceEqDiff, decide_eq_true_eq, Option.bind_some, false_and, and_false, true_and, and_true, and_self, Nat.reduceAdd, not_false_eq_true, not_true_eq_false, wS, wR, inI, ite_self, Classical.not_not, e, hn, nJ_le, hle, ax_in, nJ_nn, nJ_n, nJ_p1, hi2, hp, hp5, q2, z1, ↓bnd hB, bI_0, q3, ↓bnd hC, q1, Bool.false_eq_true]
        rfl
      | true =>
        obtain ⟨h1, r1, r2⟩ := zm_isLeft i00 (m := i) (by omega) hw f hM
        refine fin h1 r2 ?_
        obtain ⟨vS, vR, -, -⟩ := ok_fr r2 i00.1
        have s184 : gS h1 184 = (19, 100) := by simp only [vS]
        have ht : tkB (V h) D kn i = !lvB (V h) D i := by unfold tkB; rw [q1, q3, hp6, decide_eq_true q2]; rfl
        rw [ht, M_takesAll_2_eq]
        try simp only [wS, wR, ↓reduceIte]
        simp (disch := omega) only [gI_pI, gI_pL, gI_pR, gL_pI, gL_pL, gL_pR, gR_pI, gR_pL, gR_pR, gS_pI, gS_pL, gS_pR, ↓reduceIte, Nat.reduceEqDiff, decide_eq_true_eq, Option.bind_some, false_and, and_false, true_and, and_true, and_self, Nat.reduceAdd, not_false_eq_true, not_true_eq_false, wS, wR, inI, ite_self, Classical.not_not, e, hn, nJ_le, hle, ax_in, nJ_nn, nJ_n, nJ_p1, hi2, hp, hp5, q2, z1, z2, ↓bnd hB, bI_0, q3, ↓bnd hC, q1, ↓bnd r1, s184]
        cases lvB (V h) D i with
        | true => simp only [not_true_eq_false, not_false_eq_true, ↓reduceIte]; rfl
        | false => simp only [Bool.false_eq_true, not_true_eq_false, not_false_eq_true, ↓reduceIte]; rfl
def TKM (h : ax_H) (P : Nat → Bool) : Prop := ∀ j, j < nM (V h) → gI h 184 j = bB (P j)
theorem zm_takesAll {h : ax_H} (i0 : I0 h) {w : Nat} (hw : w < 10) {D : WD} (f : WF D) (hM : WM h w D) {kn : Int32} (hk : kn.toInt ≤ 9999) : ∃ h', M_takesAll 159 (nI w) kn h = some h' ∧ fr S824 h h' ∧ TKM h' (tkB (V h) D kn) := by
  obtain ⟨h', r1, r2, r3⟩ := zm_tk_2 hw f hk (nM (V h)) 0 h i0 hM (by omega)
  have hV := V_frm (S824_m r2)
  refine ⟨h', by rw [M_takesAll_eq]; exact r1, r2, fun j hj => ?_⟩
  rw [hV] at hj
  rw [r3 j hj, if_pos (Nat.zero_le _)]
