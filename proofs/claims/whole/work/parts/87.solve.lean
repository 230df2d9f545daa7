/-! solve: the class's -/
def ptB (S : Nat → Int) (n j : Nat) : Bool := decide (0 < detS S n ∧ -99999999 ≤ ansS S n j ∧ ansS S n j ≤ 99999999)
def slB (S : Nat → Int) (n : Nat) : Bool := decide (¬ S 12 = 0) && ((decide (n < 1) || ptB S n 0) && ((decide (n < 2) || ptB S n 1) && (decide (n < 3) || ptB S n 2)))
theorem ptB_P {S : Nat → Int} {n j : Nat} : ptB S n j = true ↔ ptP (numS S n j) (detS S n) := by
  unfold ptB ptP ansS
  rw [decide_eq_true_eq]
theorem flF_inc {P : Nat → Bool} : ∀ (k i : Nat) {j j' a b : Nat}, j < j' → (flF P k i)[j]? = some a → (flF P k i)[j']? = some b → a < b
  | 0, _, j, j', a, b, _, h1, _ => by cases h1
  | k + 1, i, j, j', a, b, hj, h1, h2 => by
    rw [flF] at h1 h2
    cases hp : P i with
    | false =>
      rw [hp, if_neg (by decide)] at h1 h2
      exact flF_inc k (i + 1) hj h1 h2
    | true =>
      rw [hp, if_pos rfl] at h1 h2
      match j, j', hj with
      | 0, j' + 1, _ =>
        injection h1 with h1
        have := (flF_mem k (i + 1)).mp (List.mem_of_getElem? (show (flF P k (i + 1))[j']? = some b from h2))
        omega
      | j + 1, j' + 1, hj => exact flF_inc k (i + 1) (by omega) (show (flF P k (i + 1))[j]? = some a from h1) (show (flF P k (i + 1))[j']? = some b from h2)
theorem FT_inj {D : WD} {j k t : Nat} (h1 : (FT D)[j]? = some t) (h2 : (FT D)[k]? = some t) : j = k := by
  rcases Nat.lt_trichotomy j k with q | q | q
  · have := flF_inc 6 0 q h1 h2; omega
  · exact q
  · have := flF_inc 6 0 q h2 h1; omega
def S101 (a _k : Nat) : Bool := decide (a = 101)
theorem S101_c {h h' : ax_H} (q : fr S101 h h') : fr Sc h h' := fr_le q fun a k z => by simp only [Sc, S101, decide_eq_false_iff_not] at z ⊢; omega
def AN (h : ax_H) (D : WD) (S : Nat → Int) (j : Nat) : Prop := ∀ j' t, j' < j → (FT D)[j']? = some t → gI h 101 t = Int32.ofInt (ansS S (FT D).length j')
/-- what is not fitted stays -/
def AK (h h' : ax_H) (D : WD) : Prop := fr S101 h h' ∧ ∀ t, t < 6 → ¬ D.1 t = 1 → gI h' 101 t = gI h 101 t
theorem AK_tr {h h1 h2 : ax_H} {D : WD} (a : AK h h1 D) (b : AK h1 h2 D) : AK h h2 D := ⟨fr_tr a.1 b.1, fun t ht q => (b.2 t ht q).trans (a.2 t ht q)⟩
theorem AK_rf (h : ax_H) (D : WD) : AK h h D := ⟨fr_rf _ _, fun _ _ _ => rfl⟩
theorem z_pt {h : ax_H} (w : ok h) {D : WD} {S : Nat → Int} (B : svB S (FT D).length) {j t : Nat} (hj : j < 3) (ht : (FT D)[j]? = some t) (an : AN h D S j) : (ptB S (FT D).length j = true → ∃ h', Ft_put 99 (nI t) (Int64.ofInt (numS S (FT D).length j)) (Int64.ofInt (detS S (FT D).length)) h = some (1, h') ∧ AK h h' D ∧ AN h' D S (j + 1)) ∧ (ptB S (FT D).length j = false → Ft_put 99 (nI t) (Int64.ofInt (numS S (FT D).length j)) (Int64.ofInt (detS S (FT D).length)) h = some (0, h)) := by
  obtain ⟨ht6, ht1⟩ := FT_mem ht
  constructor
  · intro hp
    refine ⟨_, z_put_y w ht6 (B.2.1 j) B.1.2 (ptB_P.mp hp), ⟨fr_pI rfl, fun u hu q => ?_⟩, fun j' u hj' hu => ?_⟩
    · rw [gI_pI, if_neg]
      rintro ⟨_, rfl⟩
      exact q ht1
    · rw [gI_pI]
      by_cases q : u = t
      · subst q
        have := FT_inj hu ht
        subst this
        rw [if_pos ⟨rfl, rfl⟩]
        rfl
      · rw [if_neg (fun z => q z.2)]
        refine an j' u ?_ hu
        by_cases q2 : j' = j
        · subst q2
          rw [ht] at hu
          injection hu with hu
          exact absurd hu.symm q
        · omega
  · intro hp
    exact z_put_n (B.2.1 j) B.1 (fun q => by rw [ptB_P.mpr q] at hp; cases hp)
theorem ftP_AK {h h' : ax_H} {D : WD} (a : AK h h' D) (p : ftP h (FT D)) : ftP h' (FT D) := ftP_fr a.1 rfl (fun _ => rfl) p
section
theorem z_sv_272 {D : WD} (f : WF D) {S : Nat → Int} (B : svB S (FT D).length) {h : ax_H} (w : ok h) (q : ftP h (FT D)) (an : (FT D).length < 3 ∨ AN h D S 2) : ∃ h', Ft_solve_272 99 (Int64.ofInt (pdS S (FT D).length 0 0)) (Int64.ofInt (S 1)) (Int64.ofInt (S 2)) (Int64.ofInt (pdS S (FT D).length 1 5)) (Int64.ofInt (S 6)) (Int64.ofInt (S 3)) (Int64.ofInt (S 7)) (Int64.ofInt (S 11)) (Int64.ofInt (S 1 * S 6 - S 2 * pdS S (FT D).length 1 5)) (Int64.ofInt (detS S (FT D).length)) h = some (bB (decide ((FT D).length < 3) || ptB S (FT D).length 2), h') ∧ AK h h' D ∧ ((FT D).length < 3 ∨ ptB S (FT D).length 2 = false ∨ AN h' D S 3) ∧ ((FT D).length < 3 → h' = h) := by
  have hf3 := FT_3 f
  have q1 := q.1
  have w0 := w
  obtain ⟨wS, wR, wG, wN⟩ := w
  by_cases c : (FT D).length < 3
  · have hlt : nI (FT D).length < 3 := by rw [show (3 : Int32) = nI 3 from rfl, nJ_lt (by omega) (by omega)]; exact c
    refine ⟨h, ?_, AK_rf h D, Or.inl c, fun _ => rfl⟩
    rw [Ft_solve_272_eq]
    simp only [gI_pI, gI_pL, gI_pR, gL_pI, gL_pL, gL_pR, gR_pI, gR_pL, gR_pR, gS_pI, gS_pL, gS_pR, ↓reduceIte, Nat.reduceEqDiff, decide_eq_true_eq, Option.bind_some, false_and, and_false, true_and, and_true, and_self, Nat.reduceAdd, not_false_eq_true, not_true_eq_false, wS, wR, inI, ite_self, Classical.not_not, q1, hlt, c]
    rfl
  · have hlt : ¬ nI (FT D).length < 3 := by rw [show (3 : Int32) = nI 3 from rfl, nJ_lt (by omega) (by omega)]; exact c
    have hget := List.getElem?_eq_getElem (show 2 < (FT D).length by omega)
    have t2 := q.2 2 _ hget
    obtain ⟨py, pn⟩ := z_pt w0 B (j := 2) (by omega) hget (an.resolve_left c)
    have eX : Int64.ofInt (S 1 * S 6 - S 2 * pdS S (FT D).length 1 5) * Int64.ofInt (S 3) + (Int64.ofInt (S 1) * Int64.ofInt (S 2) - Int64.ofInt (pdS S (FT D).length 0 0) * Int64.ofInt (S 6)) * Int64.ofInt (S 7) + (Int64.ofInt (pdS S (FT D).length 0 0) * Int64.ofInt (pdS S (FT D).length 1 5) - Int64.ofInt (S 1) * Int64.ofInt (S 1)) * Int64.ofInt (S 11) = Int64.ofInt (numS S (FT D).length 2) := by
      simp only [← Int64.ofInt_mul, ← Int64.ofInt_sub, ← Int64.ofInt_add]
      rfl
    have tt : Int32.toNatClampNeg 2 = 2 := rfl
    rw [Ft_solve_272_eq]
    cases hp : ptB S (FT D).length 2 with
    | true =>
      obtain ⟨h', r1, r2, r3⟩ := py hp
      refine ⟨h', ?_, r2, Or.inr (Or.inr r3), fun z => absurd z c⟩
      simp only [gI_pI, gI_pL, gI_pR, gL_pI, gL_pL, gL_pR, gR_pI, gR_pL, gR_pR, gS_pI, gS_pL, gS_pR, ↓reduceIte, Nat.reduceEqDiff, decide_eq_true_eq, Option.bind_some, false_and, and_false, true_and, and_true, and_self, Nat.reduceAdd, not_false_eq_true, not_true_eq_false, wS, wR, inI, ite_self, Classical.not_not, q1, hlt, ax_in, tt, show ¬ (2 : Int32) < 0 by decide, show (2 : Nat) < 3 by decide, t2, eX, r1, i1_0, Bool.or_true]
      rfl
    | false =>
      refine ⟨h, ?_, AK_rf h D, Or.inr (Or.inl rfl), fun _ => rfl⟩
      simp only [gI_pI, gI_pL, gI_pR, gL_pI, gL_pL, gL_pR, gR_pI, gR_pL, gR_pR, gS_pI, gS_pL, gS_pR, ↓reduceIte, Nat.reduceEqDiff, decide_eq_true_eq, Option.bind_some, false_and, and_false, true_and, and_true, and_self, Nat.reduceAdd, not_false_eq_true, not_true_eq_false, wS, wR, inI, ite_self, Classical.not_not, q1, hlt, ax_in, tt, show ¬ (2 : Int32) < 0 by decide, show (2 : Nat) < 3 by decide, t2, eX, pn hp, c, decide_false, Bool.or_false]
      rfl
theorem z_sv_217 {D : WD} (f : WF D) {S : Nat → Int} (B : svB S (FT D).length) {h : ax_H} (w : ok h) (q : ftP h (FT D)) (an : (FT D).length < 2 ∨ AN h D S 1) : ∃ h', Ft_solve_217 99 (Int64.ofInt (pdS S (FT D).length 0 0)) (Int64.ofInt (S 1)) (Int64.ofInt (S 2)) (Int64.ofInt (pdS S (FT D).length 1 5)) (Int64.ofInt (S 6)) (Int64.ofInt (pdS S (FT D).length 2 10)) (Int64.ofInt (S 3)) (Int64.ofInt (S 7)) (Int64.ofInt (S 11)) (Int64.ofInt (S 2 * S 6 - S 1 * pdS S (FT D).length 2 10)) (Int64.ofInt (S 1 * S 6 - S 2 * pdS S (FT D).length 1 5)) (Int64.ofInt (detS S (FT D).length)) h = some (bB ((decide ((FT D).length < 2) || ptB S (FT D).length 1) && (decide ((FT D).length < 3) || ptB S (FT D).length 2)), h') ∧ AK h h' D ∧ (((decide ((FT D).length < 2) || ptB S (FT D).length 1) && (decide ((FT D).length < 3) || ptB S (FT D).length 2)) = true → (2 ≤ (FT D).length → AN h' D S (FT D).length) ∧ ((FT D).length < 2 → h' = h)) := by
  have hf3 := FT_3 f
  have q1 := q.1
  have w0 := w
  obtain ⟨wS, wR, wG, wN⟩ := w
  by_cases c : (FT D).length < 2
  · have hlt : nI (FT D).length < 2 := by rw [show (2 : Int32) = nI 2 from rfl, nJ_lt (by omega) (by omega)]; exact c
    obtain ⟨h', r1, r2, r3, r4⟩ := z_sv_272 f B w0 q (Or.inl (by omega))
    refine ⟨h', ?_, r2, fun _ => ⟨fun z => by omega, fun z => r4 (by omega)⟩⟩
    rw [Ft_solve_217_eq]
    simp only [gI_pI, gI_pL, gI_pR, gL_pI, gL_pL, gL_pR, gR_pI, gR_pL, gR_pR, gS_pI, gS_pL, gS_pR, ↓reduceIte, Nat.reduceEqDiff, decide_eq_true_eq, Option.bind_some, false_and, and_false, true_and, and_true, and_self, Nat.reduceAdd, not_false_eq_true, not_true_eq_false, wS, wR, inI, ite_self, Classical.not_not, q1, hlt, c, decide_true, Bool.true_or, Bool.true_and]
    exact r1
  · have hlt : ¬ nI (FT D).length < 2 := by rw [show (2 : Int32) = nI 2 from rfl, nJ_lt (by omega) (by omega)]; exact c
    have hget := List.getElem?_eq_getElem (show 1 < (FT D).length by omega)
    have t2 := q.2 1 _ hget
    obtain ⟨py, pn⟩ := z_pt w0 B (j := 1) (by omega) hget (an.resolve_left c)
    have eX : Int64.ofInt (S 2 * S 6 - S 1 * pdS S (FT D).length 2 10) * Int64.ofInt (S 3) + (Int64.ofInt (pdS S (FT D).length 0 0) * Int64.ofInt (pdS S (FT D).length 2 10) - Int64.ofInt (S 2) * Int64.ofInt (S 2)) * Int64.ofInt (S 7) + (Int64.ofInt (S 1) * Int64.ofInt (S 2) - Int64.ofInt (pdS S (FT D).length 0 0) * Int64.ofInt (S 6)) * Int64.ofInt (S 11) = Int64.ofInt (numS S (FT D).length 1) := by
      simp only [← Int64.ofInt_mul, ← Int64.ofInt_sub, ← Int64.ofInt_add]
      rfl
    have tt : Int32.toNatClampNeg 1 = 1 := rfl
    rw [Ft_solve_217_eq]
    cases hp : ptB S (FT D).length 1 with
    | true =>
      obtain ⟨h1, r1, r2, r3⟩ := py hp
      obtain ⟨h', s1, s2, s3, s4⟩ := z_sv_272 f B (ok_fr r2.1 w0) (ftP_AK r2 q) (Or.inr r3)
      refine ⟨h', ?_, AK_tr r2 s2, fun hb => ⟨fun _ => ?_, fun z => absurd z c⟩⟩
      · simp only [gI_pI, gI_pL, gI_pR, gL_pI, gL_pL, gL_pR, gR_pI, gR_pL, gR_pR, gS_pI, gS_pL, gS_pR, ↓reduceIte, Nat.reduceEqDiff, decide_eq_true_eq, Option.bind_some, false_and, and_false, true_and, and_true, and_self, Nat.reduceAdd, not_false_eq_true, not_true_eq_false, wS, wR, inI, ite_self, Classical.not_not, q1, hlt, ax_in, tt, show ¬ (1 : Int32) < 0 by decide, show (1 : Nat) < 3 by decide, t2, eX, r1, i1_0, Bool.or_true, Bool.true_and]
        exact s1
      · rw [Bool.or_true, Bool.true_and] at hb
        by_cases c3 : (FT D).length < 3
        · have e2 : (FT D).length = 2 := by omega
          rw [s4 c3, e2]
          exact r3
        · have e3 : (FT D).length = 3 := by omega
          rw [decide_eq_false c3, Bool.false_or] at hb
          rcases s3 with z | z | z
          · exact absurd z c3
          · rw [z] at hb; cases hb
          · rw [e3]; exact z
    | false =>
      refine ⟨h, ?_, AK_rf h D, fun hb => ?_⟩
      · simp only [gI_pI, gI_pL, gI_pR, gL_pI, gL_pL, gL_pR, gR_pI, gR_pL, gR_pR, gS_pI, gS_pL, gS_pR, ↓reduceIte, Nat.reduceEqDiff, decide_eq_true_eq, Option.bind_some, false_and, and_false, true_and, and_true, and_self, Nat.reduceAdd, not_false_eq_true, not_true_eq_false, wS, wR, inI, ite_self, Classical.not_not, q1, hlt, ax_in, tt, show ¬ (1 : Int32) < 0 by decide, show (1 : Nat) < 3 by decide, t2, eX, pn hp, c, decide_false, Bool.or_false, Bool.false_and]
        rfl
      · rw [decide_eq_false c] at hb
        cases hb
theorem z_sv_95 {D : WD} (f : WF D) {S : Nat → Int} (B : svB S (FT D).length) {h : ax_H} (w : ok h) (q : ftP h (FT D)) (hL : ∀ k, k < 13 → gL h 155 k = Int64.ofInt (S k)) : ∃ h', Ft_solve_95 (Int64.ofInt (pdS S (FT D).length 2 10)) 99 (Int64.ofInt (pdS S (FT D).length 0 0)) (Int64.ofInt (S 1)) (Int64.ofInt (S 2)) (Int64.ofInt (pdS S (FT D).length 1 5)) (Int64.ofInt (S 6)) h = some (bB ((decide ((FT D).length < 1) || ptB S (FT D).length 0) && ((decide ((FT D).length < 2) || ptB S (FT D).length 1) && (decide ((FT D).length < 3) || ptB S (FT D).length 2))), h') ∧ AK h h' D ∧ (((decide ((FT D).length < 1) || ptB S (FT D).length 0) && ((decide ((FT D).length < 2) || ptB S (FT D).length 1) && (decide ((FT D).length < 3) || ptB S (FT D).length 2))) = true → AN h' D S (FT D).length) := by
  have hf3 := FT_3 f
  have q1 := q.1
  have w0 := w
  obtain ⟨wS, wR, wG, wN⟩ := w
  have l3 := hL 3 (by omega)
  have l7 := hL 7 (by omega)
  have l11 := hL 11 (by omega)
  have n3 : Int32.toNatClampNeg 3 = 3 := rfl
  have n7 : Int32.toNatClampNeg 7 = 7 := rfl
  have n11 : Int32.toNatClampNeg 11 = 11 := rfl
  have eD : Int64.ofInt (pdS S (FT D).length 0 0) * (Int64.ofInt (pdS S (FT D).length 1 5) * Int64.ofInt (pdS S (FT D).length 2 10) - Int64.ofInt (S 6) * Int64.ofInt (S 6)) + Int64.ofInt (S 1) * Int64.ofInt (S 2 * S 6 - S 1 * pdS S (FT D).length 2 10) + Int64.ofInt (S 2) * Int64.ofInt (S 1 * S 6 - S 2 * pdS S (FT D).length 1 5) = Int64.ofInt (detS S (FT D).length) := by
    simp only [← Int64.ofInt_mul, ← Int64.ofInt_sub, ← Int64.ofInt_add]
    rfl
  have e2 : Int64.ofInt (S 2) * Int64.ofInt (S 6) - Int64.ofInt (S 1) * Int64.ofInt (pdS S (FT D).length 2 10) = Int64.ofInt (S 2 * S 6 - S 1 * pdS S (FT D).length 2 10) := by
    simp only [← Int64.ofInt_mul, ← Int64.ofInt_sub]
  have e3 : Int64.ofInt (S 1) * Int64.ofInt (S 6) - Int64.ofInt (S 2) * Int64.ofInt (pdS S (FT D).length 1 5) = Int64.ofInt (S 1 * S 6 - S 2 * pdS S (FT D).length 1 5) := by
    simp only [← Int64.ofInt_mul, ← Int64.ofInt_sub]
  have nn : (¬ (3 : Int32) < 0) ∧ (¬ (7 : Int32) < 0) ∧ (¬ (11 : Int32) < 0) ∧ (3 : Nat) < 13 ∧ (7 : Nat) < 13 ∧ (11 : Nat) < 13 := by decide
  rw [Ft_solve_95_eq]
  by_cases c : (FT D).length < 1
  · have hlt : nI (FT D).length < 1 := by rw [show (1 : Int32) = nI 1 from rfl, nJ_lt (by omega) (by omega)]; exact c
    obtain ⟨h', r1, r2, r3⟩ := z_sv_217 f B w0 q (Or.inl (by omega))
    refine ⟨h', ?_, r2, fun hb j' t z => by omega⟩
    simp only [gI_pI, gI_pL, gI_pR, gL_pI, gL_pL, gL_pR, gR_pI, gR_pL, gR_pR, gS_pI, gS_pL, gS_pR, ↓reduceIte, Nat.reduceEqDiff, decide_eq_true_eq, Option.bind_some, false_and, and_false, true_and, and_true, and_self, Nat.reduceAdd, not_false_eq_true, not_true_eq_false, wS, wR, inI, ite_self, Classical.not_not, q1, hlt, ax_in, n3, n7, n11, nn, l3, l7, l11, eD, e2, e3, c, decide_true, Bool.true_or, Bool.true_and]
    exact r1
  · have hlt : ¬ nI (FT D).length < 1 := by rw [show (1 : Int32) = nI 1 from rfl, nJ_lt (by omega) (by omega)]; exact c
    have hget := List.getElem?_eq_getElem (show 0 < (FT D).length by omega)
    have t2 := q.2 0 _ hget
    obtain ⟨py, pn⟩ := z_pt w0 B (j := 0) (by omega) hget (fun j' t z => by omega)
    have eX : (Int64.ofInt (pdS S (FT D).length 1 5) * Int64.ofInt (pdS S (FT D).length 2 10) - Int64.ofInt (S 6) * Int64.ofInt (S 6)) * Int64.ofInt (S 3) + Int64.ofInt (S 2 * S 6 - S 1 * pdS S (FT D).length 2 10) * Int64.ofInt (S 7) + Int64.ofInt (S 1 * S 6 - S 2 * pdS S (FT D).length 1 5) * Int64.ofInt (S 11) = Int64.ofInt (numS S (FT D).length 0) := by
      simp only [← Int64.ofInt_mul, ← Int64.ofInt_sub, ← Int64.ofInt_add]
      rfl
    have tt : Int32.toNatClampNeg 0 = 0 := rfl
    cases hp : ptB S (FT D).length 0 with
    | true =>
      obtain ⟨h1, r1, r2, r3⟩ := py hp
      obtain ⟨h', s1, s2, s3⟩ := z_sv_217 f B (ok_fr r2.1 w0) (ftP_AK r2 q) (Or.inr r3)
      refine ⟨h', ?_, AK_tr r2 s2, fun hb => ?_⟩
      · simp only [gI_pI, gI_pL, gI_pR, gL_pI, gL_pL, gL_pR, gR_pI, gR_pL, gR_pR, gS_pI, gS_pL, gS_pR, ↓reduceIte, Nat.reduceEqDiff, decide_eq_true_eq, Option.bind_some, false_and, and_false, true_and, and_true, and_self, Nat.reduceAdd, not_false_eq_true, not_true_eq_false, wS, wR, inI, ite_self, Classical.not_not, q1, hlt, ax_in, n3, n7, n11, nn, l3, l7, l11, eD, e2, e3, tt, show ¬ (0 : Int32) < 0 by decide, show (0 : Nat) < 3 by decide, t2, eX, r1, i1_0, Bool.or_true, Bool.true_and]
        exact s1
      · rw [Bool.or_true, Bool.true_and] at hb
        obtain ⟨x1, x2⟩ := s3 hb
        by_cases c3 : (FT D).length < 2
        · have e1 : (FT D).length = 1 := by omega
          rw [x2 c3, e1]
          exact r3
        · exact x1 (by omega)
    | false =>
      refine ⟨h, ?_, AK_rf h D, fun hb => ?_⟩
      · simp only [gI_pI, gI_pL, gI_pR, gL_pI, gL_pL, gL_pR, gR_pI, gR_pL, gR_pR, gS_pI, gS_pL, gS_pR, ↓reduceIte, Nat.reduceEqDiff, decide_eq_true_eq, Option.bind_some, false_and, and_false, true_and, and_true, and_self, Nat.reduceAdd, not_false_eq_true, not_true_eq_false, wS, wR, inI, ite_self, Classical.not_not, q1, hlt, ax_in, n3, n7, n11, nn, l3, l7, l11, eD, e2, e3, tt, show ¬ (0 : Int32) < 0 by decide, show (0 : Nat) < 3 by decide, t2, eX, pn hp, c, decide_false, Bool.or_false, Bool.false_and]
        rfl
      · rw [decide_eq_false c] at hb
        cases hb
theorem z_solve {D : WD} (f : WF D) {S : Nat → Int} (B : svB S (FT D).length) {h : ax_H} (w : ok h) (q : ftP h (FT D)) (hL : ∀ k, k < 13 → gL h 155 k = Int64.ofInt (S k)) : ∃ h', Ft_solve 99 h = some (bB (slB S (FT D).length), h') ∧ AK h h' D ∧ (slB S (FT D).length = true → AN h' D S (FT D).length) := by
  have hf3 := FT_3 f
  have q1 := q.1
  have w0 := w
  obtain ⟨wS, wR, wG, wN⟩ := w
  have b12 := B.2.2.2.2
  have l12 := hL 12 (by omega)
  have l0 := hL 0 (by omega)
  have l1 := hL 1 (by omega)
  have l2 := hL 2 (by omega)
  have l5 := hL 5 (by omega)
  have l6 := hL 6 (by omega)
  have l10 := hL 10 (by omega)
  have c12 : lg_cmp (Int64.ofInt (S 12)) 0 = 0 ↔ S 12 = 0 := by
    rw [lgc_eq, l_toInt (by omega)]
    rfl
  have nn : (¬ (12 : Int32) < 0) ∧ (12 : Nat) < 13 ∧ Int32.toNatClampNeg 12 = 12 := by decide
  have n0 : (¬ (0 : Int32) < 0) ∧ (0 : Nat) < 13 ∧ Int32.toNatClampNeg 0 = 0 := by decide
  have n1 : (¬ (1 : Int32) < 0) ∧ (1 : Nat) < 13 ∧ Int32.toNatClampNeg 1 = 1 := by decide
  have n2 : (¬ (2 : Int32) < 0) ∧ (2 : Nat) < 13 ∧ Int32.toNatClampNeg 2 = 2 := by decide
  have n5 : (¬ (5 : Int32) < 0) ∧ (5 : Nat) < 13 ∧ Int32.toNatClampNeg 5 = 5 := by decide
  have n6 : (¬ (6 : Int32) < 0) ∧ (6 : Nat) < 13 ∧ Int32.toNatClampNeg 6 = 6 := by decide
  have n10 : (¬ (10 : Int32) < 0) ∧ (10 : Nat) < 13 ∧ Int32.toNatClampNeg 10 = 10 := by decide
  unfold slB
  by_cases z : S 12 = 0
  · refine ⟨h, ?_, AK_rf h D, fun hb => ?_⟩
    · rw [Ft_solve_eq]
      simp only [gI_pI, gI_pL, gI_pR, gL_pI, gL_pL, gL_pR, gR_pI, gR_pL, gR_pR, gS_pI, gS_pL, gS_pR, ↓reduceIte, Nat.reduceEqDiff, decide_eq_true_eq, Option.bind_some, false_and, and_false, true_and, and_true, and_self, Nat.reduceAdd, not_false_eq_true, not_true_eq_false, wS, wR, inI, ite_self, Classical.not_not, ax_in, nn, l12, c12, z, decide_false, Bool.false_and]
      rfl
    · rw [decide_eq_false (not_not_intro z), Bool.false_and] at hb
      cases hb
  · obtain ⟨h', r1, r2, r3⟩ := z_sv_95 f B w0 q hL
    rw [decide_eq_true z, Bool.true_and]
    refine ⟨h', ?_, r2, r3⟩
    rw [← r1]
    have u95 : Ft_solve_65 (Int64.ofInt (pdS S (FT D).length 1 5)) 99 (Int64.ofInt (pdS S (FT D).length 0 0)) (Int64.ofInt (S 1)) (Int64.ofInt (S 2)) h = Ft_solve_95 (Int64.ofInt (pdS S (FT D).length 2 10)) 99 (Int64.ofInt (pdS S (FT D).length 0 0)) (Int64.ofInt (S 1)) (Int64.ofInt (S 2)) (Int64.ofInt (pdS S (FT D).length 1 5)) (Int64.ofInt (S 6)) h := by
      rw [Ft_solve_65_eq]
      unfold pdS
      by_cases c : 2 < (FT D).length
      · have hlt : ¬ nI (FT D).length ≤ 2 := by rw [show (2 : Int32) = nI 2 from rfl, nJ_le (by omega) (by omega)]; omega
        simp only [gI_pI, gI_pL, gI_pR, gL_pI, gL_pL, gL_pR, gR_pI, gR_pL, gR_pR, gS_pI, gS_pL, gS_pR, ↓reduceIte, Nat.reduceEqDiff, decide_eq_true_eq, Option.bind_some, false_and, and_false, true_and, and_true, and_self, Nat.reduceAdd, not_false_eq_true, not_true_eq_false, wS, wR, inI, ite_self, Classical.not_not, ax_in, n6, n10, l6, l10, q1, hlt, c]
      · have hlt : nI (FT D).length ≤ 2 := by rw [show (2 : Int32) = nI 2 from rfl, nJ_le (by omega) (by omega)]; omega
        simp only [gI_pI, gI_pL, gI_pR, gL_pI, gL_pL, gL_pR, gR_pI, gR_pL, gR_pR, gS_pI, gS_pL, gS_pR, ↓reduceIte, Nat.reduceEqDiff, decide_eq_true_eq, Option.bind_some, false_and, and_false, true_and, and_true, and_self, Nat.reduceAdd, not_false_eq_true, not_true_eq_false, wS, wR, inI, ite_self, Classical.not_not, ax_in, n6, n10, l6, l10, q1, hlt, c]
        rfl
    have u65 : Ft_solve_31 (Int64.ofInt (pdS S (FT D).length 0 0)) 99 h = Ft_solve_65 (Int64.ofInt (pdS S (FT D).length 1 5)) 99 (Int64.ofInt (pdS S (FT D).length 0 0)) (Int64.ofInt (S 1)) (Int64.ofInt (S 2)) h := by
      rw [Ft_solve_31_eq]
      generalize Int64.ofInt (pdS S (FT D).length 0 0) = x0
      unfold pdS
      by_cases c : 1 < (FT D).length
      · have hlt : ¬ nI (FT D).length ≤ 1 := by rw [show (1 : Int32) = nI 1 from rfl, nJ_le (by omega) (by omega)]; omega
        simp only [gI_pI, gI_pL, gI_pR, gL_pI, gL_pL, gL_pR, gR_pI, gR_pL, gR_pR, gS_pI, gS_pL, gS_pR, ↓reduceIte, Nat.reduceEqDiff, decide_eq_true_eq, Option.bind_some, false_and, and_false, true_and, and_true, and_self, Nat.reduceAdd, not_false_eq_true, not_true_eq_false, wS, wR, inI, ite_self, Classical.not_not, ax_in, n1, n2, n5, l1, l2, l5, q1, hlt, c]
      · have hlt : nI (FT D).length ≤ 1 := by rw [show (1 : Int32) = nI 1 from rfl, nJ_le (by omega) (by omega)]; omega
        simp only [gI_pI, gI_pL, gI_pR, gL_pI, gL_pL, gL_pR, gR_pI, gR_pL, gR_pR, gS_pI, gS_pL, gS_pR, ↓reduceIte, Nat.reduceEqDiff, decide_eq_true_eq, Option.bind_some, false_and, and_false, true_and, and_true, and_self, Nat.reduceAdd, not_false_eq_true, not_true_eq_false, wS, wR, inI, ite_self, Classical.not_not, ax_in, n1, n2, n5, l1, l2, l5, q1, hlt, c]
        rfl
    rw [← u95, ← u65, Ft_solve_eq]
    unfold pdS
    by_cases c : 0 < (FT D).length
    · have hlt : ¬ nI (FT D).length ≤ 0 := by rw [show (0 : Int32) = nI 0 from rfl, nJ_le (by omega) (by omega)]; omega
      simp only [gI_pI, gI_pL, gI_pR, gL_pI, gL_pL, gL_pR, gR_pI, gR_pL, gR_pR, gS_pI, gS_pL, gS_pR, ↓reduceIte, Nat.reduceEqDiff, decide_eq_true_eq, Option.bind_some, false_and, and_false, true_and, and_true, and_self, Nat.reduceAdd, not_false_eq_true, not_true_eq_false, wS, wR, inI, ite_self, Classical.not_not, ax_in, nn, n0, l12, l0, c12, z, q1, hlt, c]
    · have hlt : nI (FT D).length ≤ 0 := by rw [show (0 : Int32) = nI 0 from rfl, nJ_le (by omega) (by omega)]; omega
      simp only [gI_pI, gI_pL, gI_pR, gL_pI, gL_pL, gL_pR, gR_pI, gR_pL, gR_pR, gS_pI, gS_pL, gS_pR, ↓reduceIte, Nat.reduceEqDiff, decide_eq_true_eq, Option.bind_some, false_and, and_false, true_and, and_true, and_self, Nat.reduceAdd, not_false_eq_true, not_true_eq_false, wS, wR, inI, ite_self, Classical.not_not, ax_in, nn, n0, l12, l0, c12, z, q1, hlt, c]
      rfl
end
