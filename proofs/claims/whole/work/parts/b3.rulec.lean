/-! ruled: the class -/
def ncB (V : BV) (p : Nat) : Bool := decide (¬ V 72 p = 2)
def bfB (V : BV) (p : Nat) : Bool := decide (p < nP V) && (ncB V p && decide ((flF (ncB V) p 0).length < 8))
def brB (V : BV) (D : WD) (kn : Int32) (p : Nat) : Bool := bfB V p && decide (¬ SP V D kn (grp V p) 12 = 0)
def psQ (V : BV) (s i : Nat) : Bool := !(s.testBit (V 75 i).toInt.toNat)
theorem flF_nil {P : Nat → Bool} : ∀ k i, (∀ j, i ≤ j → j < i + k → P j = false) → flF P k i = []
  | 0, _, _ => rfl
  | k + 1, i, h => by
    rw [flF, h i (by omega) (by omega), if_neg (by decide)]
    exact flF_nil k (i + 1) fun j a b => h j (by omega) (by omega)
theorem flF_s (P : Nat → Bool) (p : Nat) : flF P (p + 1) 0 = flF P p 0 ++ (if P p then [p] else []) := by
  rw [flF_app P p 1 0, Nat.zero_add]
  congr 1
theorem flF_le (P : Nat → Bool) {p q : Nat} (h : p ≤ q) : (flF P p 0).length ≤ (flF P q 0).length := by
  have := flF_app P p (q - p) 0
  rw [show p + (q - p) = q by omega] at this
  rw [this, List.length_append]
  omega
theorem flF_cut {P : Nat → Bool} {p : Nat} (hp : p ≤ 16) (h : ∀ j, p ≤ j → j < 16 → P j = false) : flF P 16 0 = flF P p 0 := by
  have := flF_app P p (16 - p) 0
  rw [show p + (16 - p) = 16 by omega, Nat.zero_add, flF_nil (16 - p) p (fun j a b => h j a (by omega)), List.append_nil] at this
  exact this
def S156 (a _k : Nat) : Bool := decide (a = 156)
theorem S156_c {h h' : ax_H} (q : fr S156 h h') : fr Sc h h' := fr_le q fun a k z => by simp only [Sc, S156, decide_eq_false_iff_not] at z ⊢; omega
def ruP (h : ax_H) (l : List Nat) : Prop := ∀ k x, l[k]? = some x → gI h 156 k = nI x
theorem z_fr_7 {D : WD} (f : WF D) {kn : Int32} {V0 : BV} (g : GV V0) : ∀ (m p : Nat) (h : ax_H), p + m = nP V0 → V h = V0 → ok h → OP h V0 D kn → (flF (brB V0 D kn) p 0).length ≤ (flF (ncB V0) p 0).length → (flF (ncB V0) p 0).length ≤ 8 → ruP h (flF (brB V0 D kn) p 0) → ∃ h', Ft_findRulable_7 99 70 (nI (flF (ncB V0) p 0).length) (nI (flF (brB V0 D kn) p 0).length) (nI p) h = some (nI (flF (brB V0 D kn) 16 0).length, h') ∧ fr S156 h h' ∧ ruP h' (flF (brB V0 D kn) 16 0) ∧ (flF (brB V0 D kn) 16 0).length ≤ 8 := by
  have hcn := cnts g.1
  have hnP := nI_nP g.1.2.2.1
  intro m
  induction m with
  | zero =>
    intro p h hp hV w o h1 h2 h3
    subst hV
    obtain ⟨wS, wR, wG, wN⟩ := w
    have hle : nI (nP (V h)) ≤ nI p := by rw [nJ_le (by omega) (by omega)]; omega
    have e := flF_cut (P := brB (V h) D kn) (p := p) (by omega) (fun j a b => by
      unfold brB bfB
      rw [decide_eq_false (by omega), Bool.false_and, Bool.false_and])
    rw [e]
    refine ⟨h, ?_, fr_rf _ _, h3, by omega⟩
    rw [Ft_findRulable_7_eq]
    simp only [wS, ↓reduceIte, cV65, cV66, cV67, cV68, cV69, cV70, cV71, cV72, cV73, cV74, cV75, cV76, cV77, cV78, cV79, cV80, cV81, cV82, cV83, cV84, cV85, cV86, cV87, cV88, cV89, cV90, hnP, hle, decide_true]
  | succ m ih =>
    intro p h hp hV w o h1 h2 h3
    subst hV
    have w0 := w
    obtain ⟨wS, wR, wG, wN⟩ := w
    have hle : ¬ nI (nP (V h)) ≤ nI p := by rw [nJ_le (by omega) (by omega)]; omega
    have tp : (nI p).toNatClampNeg = p := nJ_n (by omega)
    have np : ¬ nI p < 0 := nJ_nn (by omega)
    have hp16 : p < 16 := by omega
    have hp47 : p < 47 := by omega
    have e8 : (8 : Int32) = nI 8 := rfl
    by_cases q8 : 8 ≤ (flF (ncB (V h)) p 0).length
    · have c8 : (8 : Int32) ≤ nI (flF (ncB (V h)) p 0).length := by rw [e8, nJ_le (by omega) (by omega)]; omega
      have e := flF_cut (P := brB (V h) D kn) (p := p) (by omega) (fun j a b => by
        have := flF_le (ncB (V h)) (p := p) (q := j) (by omega)
        unfold brB bfB
        rw [decide_eq_false (show ¬ (flF (ncB (V h)) j 0).length < 8 by omega), Bool.and_false, Bool.and_false, Bool.false_and])
      rw [e]
      refine ⟨h, ?_, fr_rf _ _, h3, by omega⟩
      rw [Ft_findRulable_7_eq]
      simp only [wS, ↓reduceIte, cV65, cV66, cV67, cV68, cV69, cV70, cV71, cV72, cV73, cV74, cV75, cV76, cV77, cV78, cV79, cV80, cV81, cV82, cV83, cV84, cV85, cV86, cV87, cV88, cV89, cV90, hnP, hle, decide_false, Bool.false_eq_true, c8, decide_true]
    have c8 : ¬ (8 : Int32) ≤ nI (flF (ncB (V h)) p 0).length := by rw [e8, nJ_le (by omega) (by omega)]; omega
    by_cases qk : V h 72 p = 2
    · have n0 : ncB (V h) p = false := decide_eq_false (not_not_intro qk)
      have b0 : brB (V h) D kn p = false := by
        unfold brB bfB
        rw [n0, Bool.false_and, Bool.and_false, Bool.false_and]
      have f1 := flF_s (ncB (V h)) p
      have f2 := flF_s (brB (V h) D kn) p
      rw [n0, if_neg (by decide), List.append_nil] at f1
      rw [b0, if_neg (by decide), List.append_nil] at f2
      obtain ⟨h', r1, r2, r3⟩ := ih (p + 1) h (by omega) rfl w0 o (by rw [f1, f2]; exact h1) (by rw [f1]; exact h2) (by rw [f2]; exact h3)
      rw [f1, f2] at r1
      refine ⟨h', ?_, r2, r3⟩
      rw [← r1, Ft_findRulable_7_eq]
      simp only [wS, wR, ↓reduceIte, cV65, cV66, cV67, cV68, cV69, cV70, cV71, cV72, cV73, cV74, cV75, cV76, cV77, cV78, cV79, cV80, cV81, cV82, cV83, cV84, cV85, cV86, cV87, cV88, cV89, cV90, hnP, hle, decide_false, Bool.false_eq_true, c8, ax_in, tp, np, hp16, qk, decide_true, not_false_eq_true, and_self, nJ_p1]
    · have n0 : ncB (V h) p = true := decide_eq_true qk
      have f1 := flF_s (ncB (V h)) p
      rw [n0, if_pos rfl] at f1
      have l1 : (flF (ncB (V h)) (p + 1) 0).length = (flF (ncB (V h)) p 0).length + 1 := by rw [f1, List.length_append]; rfl
      have v12 := o.2.2.2.1 p hp47 12 (by omega)
      have v12' : gL h (108 + p) 12 = Int64.ofInt (SP (V h) D kn (grp (V h) p) 12) := v12
      have hb := cnZ_bd g D kn (grp (V h) p)
      have hl := SP_12 (V h) D kn (grp (V h) p)
      have hl' : SP (V h) D kn (grp (V h) p) 12 = (cnZ (V h) D kn (grp (V h) p) : Int) := hl
      have q1 := wG.1 p hp47
      have q2 := wG.2 p hp47
      by_cases qs : SP (V h) D kn (grp (V h) p) 12 = 0
      · have b0 : brB (V h) D kn p = false := by
          unfold brB
          rw [decide_eq_false (not_not_intro qs), Bool.and_false]
        have f2 := flF_s (brB (V h) D kn) p
        rw [b0, if_neg (by decide), List.append_nil] at f2
        have c0 : lg_cmp (Int64.ofInt 0) 0 = 0 := by decide
        obtain ⟨h', r1, r2, r3⟩ := ih (p + 1) h (by omega) rfl w0 o (by rw [l1, f2]; omega) (by omega) (by rw [f2]; exact h3)
        rw [l1, f2] at r1
        refine ⟨h', ?_, r2, r3⟩
        rw [← r1, Ft_findRulable_7_eq]
        simp only [wS, wR, ↓reduceIte, cV65, cV66, cV67, cV68, cV69, cV70, cV71, cV72, cV73, cV74, cV75, cV76, cV77, cV78, cV79, cV80, cV81, cV82, cV83, cV84, cV85, cV86, cV87, cV88, cV89, cV90, hnP, hle, decide_false, Bool.false_eq_true, c8, ax_in, tp, np, hp16, hp47, qk, decide_true, not_false_eq_true, and_self, q1, q2, show Int32.toNatClampNeg 12 = 12 from rfl, show ¬ (12 : Int32) < 0 by decide, show (12 : Nat) < 13 by decide, v12', qs, c0, nJ_p1]
      · have b0 : brB (V h) D kn p = true := by
          unfold brB bfB
          rw [decide_eq_true qs, Bool.and_true, decide_eq_true (show p < nP (V h) by omega), n0, decide_eq_true (show (flF (ncB (V h)) p 0).length < 8 by omega)]
          rfl
        have f2 := flF_s (brB (V h) D kn) p
        rw [b0, if_pos rfl] at f2
        have l2 : (flF (brB (V h) D kn) (p + 1) 0).length = (flF (brB (V h) D kn) p 0).length + 1 := by rw [f2, List.length_append]; rfl
        have c0 : ¬ lg_cmp (Int64.ofInt (SP (V h) D kn (grp (V h) p) 12)) 0 = 0 := by
          rw [lgc_eq, l_toInt (by omega)]
          exact qs
        have tr : (nI (flF (brB (V h) D kn) p 0).length).toNatClampNeg = (flF (brB (V h) D kn) p 0).length := nJ_n (by omega)
        have nr : ¬ nI (flF (brB (V h) D kn) p 0).length < 0 := nJ_nn (by omega)
        have hr8 : (flF (brB (V h) D kn) p 0).length < 8 := by omega
        have F : fr S156 h (pI h 156 (flF (brB (V h) D kn) p 0).length (nI p)) := fr_pI rfl
        have hV := V_frc (S156_c F)
        obtain ⟨h', r1, r2, r3⟩ := ih (p + 1) _ (by omega) hV (ok_fr F w0) (OP_fr F f (fun a k z => by simp only [S156, decide_eq_false_iff_not]; omega) (fun t _ _ => fr_I F rfl) o) (by omega) (by omega) (fun k x hk => by
          rw [f2] at hk
          rw [gI_pI]
          by_cases z : k = (flF (brB (V h) D kn) p 0).length
          · rw [if_pos ⟨rfl, z⟩]
            rw [z, List.getElem?_append_right (Nat.le_refl _), Nat.sub_self] at hk
            injection hk with hk
            rw [hk]
          · rw [if_neg (fun y => z y.2)]
            have hk2 := (List.getElem?_eq_some_iff.mp hk).1
            rw [List.length_append] at hk2
            rw [List.getElem?_append_left (by
              have : [p].length = 1 := rfl
              omega)] at hk
            exact h3 k x hk)
        rw [l1, l2] at r1
        refine ⟨h', ?_, fr_tr F r2, r3⟩
        rw [← r1, Ft_findRulable_7_eq]
        simp only [wS, wR, ↓reduceIte, cV65, cV66, cV67, cV68, cV69, cV70, cV71, cV72, cV73, cV74, cV75, cV76, cV77, cV78, cV79, cV80, cV81, cV82, cV83, cV84, cV85, cV86, cV87, cV88, cV89, cV90, hnP, hle, decide_false, Bool.false_eq_true, c8, ax_in, tp, np, hp16, hp47, qk, not_false_eq_true, and_self, q1, q2, show Int32.toNatClampNeg 12 = 12 from rfl, show ¬ (12 : Int32) < 0 by decide, show (12 : Nat) < 13 by decide, v12', c0, tr, nr, hr8, nJ_p1]
