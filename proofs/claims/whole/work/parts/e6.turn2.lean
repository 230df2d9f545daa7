/-! the class's turns: an operator -/
def wdB (T : Nat → Nat) (n p : Nat) : Bool := decide (¬ sgI T n p = 61 ∧ sgI T n (p + 1) = 61)
def cmN (T : Nat → Nat) (n p : Nat) : Nat := if sgI T n p = 61 then 6 else if sgI T n p = 60 then (if wdB T n p = true then 5 else 4) else (if wdB T n p = true then 7 else 8)
def sgP (T : Nat → Nat) (n p c d : Nat) (W : List Nat) (E : Cd) : Sum Nat Ms :=
  if sgI T n p = 60 ∨ sgI T n p = 61 ∨ sgI T n p = 62 then
    (if c + 1 ≤ 60 then .inr (3, (if wdB T n p = true then p + 2 else p + 1), c + 1, (bdW 3 W E d).2.2, cmN T n p :: (bdW 3 W E d).1, (bdW 3 W E d).2.1) else .inl (1 + 8 * p + 3))
  else .inl (1 + 8 * p + 0)
def clP (T : Nat → Nat) (n p c : Nat) (b : List Nat × Cd × Nat) : Sum Nat Ms := match b.1 with
  | [] => .inr (6, p, c, b.2.2, [], b.2.1)
  | _ :: W => if sgI T n p = 93 then .inr (5, p + 1, c, b.2.2 - 1, W, b.2.1) else .inl (1 + 8 * p + 0)
def opR (T : Nat → Nat) (n st p c d : Nat) (W : List Nat) (E : Cd) : Sum Nat Ms :=
  if ¬ st = 5 ∧ (sgI T n (sb T n p) = 43 ∨ sgI T n (sb T n p) = 45) then .inr ((if st = 2 then 1 else 3), sb T n p + 1, c, (bdW 3 W E d).2.2, (if sgI T n (sb T n p) = 43 then 2 else 3) :: (bdW 3 W E d).1, (bdW 3 W E d).2.1)
  else if st = 2 then sgP T n (sb T n p) c d W E
  else if wD T n [97, 110, 100] (sb T n p) = true then .inr (0, sb T n p + 3, c, (bdW 10 W E d).2.2, 10 :: (bdW 10 W E d).1, (bdW 10 W E d).2.1)
  else if wD T n [111, 114] (sb T n p) = true then .inr (0, sb T n p + 2, c, (bdW 11 W E d).2.2, 11 :: (bdW 11 W E d).1, (bdW 11 W E d).2.1)
  else clP T n (sb T n p) c (bdW 11 W E d)
theorem bd_b (op : Nat) : ∀ (W : List Nat) (E : Cd) (d : Nat), dpW W ≤ d → (bdW op W E d).1.length + (bdW op W E d).2.1.length = W.length + E.length ∧ (bdW op W E d).1.length ≤ W.length ∧ (∀ x ∈ (bdW op W E d).1, x ∈ W) ∧ dpW (bdW op W E d).1 ≤ (bdW op W E d).2.2 ∧ (bdW op W E d).2.2 ≤ d ∧ (∀ x r, (bdW op W E d).1 = x :: r → op < x)
  | [], E, d, h => ⟨rfl, Nat.le_refl _, fun x hx => hx, h, Nat.le_refl _, fun x r e => (by cases e)⟩
  | x :: W, E, d, h => by
    rw [bdW]
    by_cases q : x ≤ op
    · rw [if_pos q]
      rw [dpW] at h
      have hd : (if x = 9 then d - 1 else d) ≤ d := by split <;> omega
      have hd2 : dpW W ≤ (if x = 9 then d - 1 else d) := by
        by_cases h9 : x = 9
        · rw [if_pos h9]; rw [if_pos (Or.inl h9)] at h; omega
        · rw [if_neg h9]; omega
      obtain ⟨a1, a2, a3, a4, a5, a6⟩ := bd_b op W ((x, 0) :: E) (if x = 9 then d - 1 else d) hd2
      exact ⟨by rw [a1, List.length_cons, List.length_cons]; omega, by rw [List.length_cons]; omega, fun y hy => List.mem_cons_of_mem _ (a3 y hy), a4, Nat.le_trans a5 hd, a6⟩
    · rw [if_neg q]
      refine ⟨rfl, Nat.le_refl _, fun y hy => hy, h, Nat.le_refl _, fun y r e => ?_⟩
      injection e with e1 e2
      omega
theorem bd_d {op : Nat} (ho : op < 12) : ∀ (W : List Nat) (E : Cd) (d : Nat), dpW W = d → dpW (bdW op W E d).1 = (bdW op W E d).2.2
  | [], E, d, h => h
  | x :: W, E, d, h => by
    rw [bdW]
    by_cases q : x ≤ op
    · rw [if_pos q]
      rw [dpW] at h
      refine bd_d ho W ((x, 0) :: E) _ ?_
      by_cases h9 : x = 9
      · rw [if_pos h9]; rw [if_pos (Or.inl h9)] at h; omega
      · rw [if_neg h9]; rw [if_neg (by omega)] at h; omega
    · rw [if_neg q]; exact h
/-- room for a turn -/
def rmM (n p c d : Nat) (W : List Nat) (E : Cd) : Prop := p ≤ n ∧ c ≤ 60 ∧ d ≤ 100 ∧ dpW W ≤ d ∧ (∀ x ∈ W, x ≤ 12) ∧ W.length ≤ 60 ∧ E.length + W.length ≤ 390
theorem z_bd {st p c op d n : Nat} (ho : op < 16) {W : List Nat} {E : Cd} {h : ax_H} (w : ok h) (r : RC h st p c d W E) (m : rmM n p c d W E) {op' : Int32} (eo : op' = nI op) : ∃ h', Rd_bind 93 op' h = some h' ∧ fr Sy h h' ∧ RC h' st p c (bdW op W E d).2.2 (bdW op W E d).1 (bdW op W E d).2.1 ∧ (bdW op W E d).1.length ≤ 60 := by
  obtain ⟨m1, m2, m3, m4, m5, m6, m7⟩ := m
  obtain ⟨h', a, b, e⟩ := z_bind ho w r (by omega) (by omega) (fun x hx => by have := m5 x hx; omega) m4 m3 eo
  exact ⟨h', a, b, e, by have := (bd_b op W E d m4).2.1; omega⟩
theorem z_sg_102 {h : ax_H} (w : ok h) {st p c d n : Nat} {W : List Nat} {E : Cd} (r : RC h st p c d W E) (m : rmM n p c d W E) {v1 v2 : Int32} (o : Nat) (ho : (v1 = 61 ∧ o = 6) ∨ (v1 = 60 ∧ v2 = 0 ∧ o = 4) ∨ (v1 = 60 ∧ ¬ v2 = 0 ∧ o = 5) ∨ (¬ v1 = 61 ∧ ¬ v1 = 60 ∧ v2 = 0 ∧ o = 8) ∨ (¬ v1 = 61 ∧ ¬ v1 = 60 ∧ ¬ v2 = 0 ∧ o = 7)) : rsl h (Rd_readSign_102 93 v1 v2 h) (.inr (3, p, c, (bdW 3 W E d).2.2, o :: (bdW 3 W E d).1, (bdW 3 W E d).2.1)) := by
  have s0 := s_93 w
  obtain ⟨h1, a1, a2, a3, a4⟩ := z_bd (op := 3) (by omega) w r m (op' := 3) rfl
  have w1 := ok_fr a2 w
  have s1 := s_93 w1
  have go : ∀ o' : Int32, o' = nI o → rsl h ((Rd_await 93 o' h1).bind (fun h2 => if (gS h2 93).1 = 6 then some (1, pI h2 93 7 3) else none)) (.inr (3, p, c, (bdW 3 W E d).2.2, o :: (bdW 3 W E d).1, (bdW 3 W E d).2.1)) := fun o' eo => by
    obtain ⟨h2, b1, b2, b3⟩ := z_await w1 a3 (by omega) o eo
    have s2 := s_93 (ok_fr b2 w1)
    refine ⟨pI h2 93 7 (nI 3), ?_, fr_tr a2 (fr_tr b2 (fr_pI rfl)), RC_st b3 3⟩
    rw [bnd b1, if_pos s2]
    rfl
  rw [Rd_readSign_102_eq, if_pos s0, bnd a1]
  rcases ho with ⟨e1, e2⟩ | ⟨e1, e2, e3⟩ | ⟨e1, e2, e3⟩ | ⟨e1, e2, e3, e4⟩ | ⟨e1, e2, e3, e4⟩
  · simp only [e1, not_true_eq_false, decide_false, Bool.false_eq_true, ↓reduceIte, s1]
    exact go 6 (by rw [e2]; rfl)
  · simp only [e1, e2, show ¬ (60 : Int32) = 61 by decide, not_true_eq_false, not_false_eq_true, decide_true, decide_false, Bool.false_eq_true, ↓reduceIte, s1]
    exact go 4 (by rw [e3]; rfl)
  · simp only [e1, e2, show ¬ (60 : Int32) = 61 by decide, not_true_eq_false, not_false_eq_true, decide_true, decide_false, Bool.false_eq_true, ↓reduceIte, s1]
    exact go 5 (by rw [e3]; rfl)
  · simp only [e1, e2, e3, not_false_eq_true, decide_true, ↓reduceIte, s1]
    exact go 8 (by rw [e4]; rfl)
  · simp only [e1, e2, e3, not_false_eq_true, decide_true, decide_false, Bool.false_eq_true, ↓reduceIte, s1]
    exact go 7 (by rw [e4]; rfl)
section
theorem z_sg_28 {T : Nat → Nat} {n : Nat} (tb : ∀ i, T i < 256) {h : ax_H} (w : ok h) (t : TC h T n) {st p c d : Nat} {W : List Nat} {E : Cd} (r : RC h st p c d W E) (m : rmM n p c d W E) (hs : sgI T n p = 60 ∨ sgI T n p = 61 ∨ sgI T n p = 62) : rsl h (Rd_readSign_28 93 (sgI T n p) h) (if c + 1 ≤ 60 then .inr (3, (if wdB T n p = true then p + 2 else p + 1), c + 1, (bdW 3 W E d).2.2, cmN T n p :: (bdW 3 W E d).1, (bdW 3 W E d).2.1) else .inl (1 + 8 * p + 3)) := by
  have s0 := s_93 w
  have t1 := t.1
  have hpn : p < n := by
    by_cases q : p < n
    · exact q
    · have e : sgI T n p = -1 := if_neg q
      rw [e] at hs
      exact absurd hs (by decide)
  obtain ⟨k1, k2⟩ := z_count w r m.2.1 p
  by_cases q : c + 1 ≤ 60
  · rw [if_pos q]
    obtain ⟨h1, a1, a2, a3⟩ := k1 q
    have w1 := ok_fr a2 w
    have s1 := s_93 w1
    have R := RC_p a3 (p + 1)
    have w2 : ok (pI h1 93 3 (nI (p + 1))) := ok_pI w1 _ _ _
    have tt : TC (pI h1 93 3 (nI (p + 1))) T n := TC_Sx (fr_tr (Sy_x a2) (fr_pI rfl)) t
    obtain ⟨h2, e2⟩ : ∃ h2, h2 = pI h1 93 3 (nI (p + 1)) := ⟨_, rfl⟩
    rw [← e2] at R w2 tt
    have f2 : fr Sy h h2 := by rw [e2]; exact fr_tr a2 (fr_pI rfl)
    have s2 := s_93 w2
    have m' : rmM n (p + 1) (c + 1) d W E := ⟨by omega, q, m.2.2⟩
    have g3 : gI h1 93 3 = nI p := a3.1.2.1
    have g32 : gI h2 93 3 = nI (p + 1) := R.1.2.1
    have g0 : gI h2 93 0 = nI n := tt.2.1
    have r2 : gR h2 93 2 = 94 := by obtain ⟨wS, wR, wG, wN⟩ := w2; simp only [wR]
    have s94 : gS h2 94 = (16, 400) := by obtain ⟨wS, wR, wG, wN⟩ := w2; simp only [wS]
    have e0 : ∀ o, rsl h2 (if decide (sgI T n p = 61) = true then Rd_readSign_102 93 (sgI T n p) 0 h2 else (if (gS h2 93).1 = 6 then if (gS h2 93).1 = 6 then if decide ((gI h2 93 0) ≤ (gI h2 93 3)) then (Rd_readSign_102 93 (sgI T n p) 0 h2) else (if (gS h2 93).1 = 6 then if (gS h2 93).1 = 6 then if ax_in h2 (gR h2 93 2) 16 (gI h2 93 3) then if decide (¬ (gI h2 (gR h2 93 2) (Int32.toNatClampNeg (gI h2 93 3))) = 61) then (Rd_readSign_102 93 (sgI T n p) 0 h2) else (if (gS h2 93).1 = 6 then if (gS h2 93).1 = 6 then Rd_readSign_102 93 (sgI T n p) 1 (pI h2 93 3 ((gI h2 93 3) + 1)) else none else none) else none else none else none) else none else none)) o → rsl h (Rd_readSign_28 93 (sgI T n p) h) o := fun o ho => by
      rw [Rd_readSign_28_eq]
      simp only [s0, ↓reduceIte, r.1.2.1]
      rw [bnd a1]
      simp only [show ¬ (1 : Int32) = 0 by decide, not_false_eq_true, decide_true, ↓reduceIte, s1, g3, nJ_p1, ← e2]
      refine rsl_y f2 ?_
      exact ho
    refine e0 _ ?_
    by_cases q61 : sgI T n p = 61
    · have hw : ¬ wdB T n p = true := fun z => (of_decide_eq_true z).1 q61
      have hc : cmN T n p = 6 := if_pos q61
      rw [if_neg hw, hc, if_pos (decide_eq_true q61)]
      exact z_sg_102 w2 R m' 6 (Or.inl ⟨q61, rfl⟩)
    · rw [if_neg (by rw [decide_eq_true_eq]; exact q61)]
      have nar : ¬ wdB T n p = true → rsl h2 (Rd_readSign_102 93 (sgI T n p) 0 h2) (.inr (3, (if wdB T n p = true then p + 2 else p + 1), c + 1, (bdW 3 W E d).2.2, cmN T n p :: (bdW 3 W E d).1, (bdW 3 W E d).2.1)) := fun hw => by
        rw [if_neg hw]
        refine z_sg_102 w2 R m' _ ?_
        unfold cmN
        rw [if_neg q61, if_neg hw, if_neg hw]
        by_cases q60 : sgI T n p = 60
        · rw [if_pos q60]; exact Or.inr (Or.inl ⟨q60, rfl, rfl⟩)
        · rw [if_neg q60]; exact Or.inr (Or.inr (Or.inr (Or.inl ⟨q61, q60, rfl, rfl⟩)))
      by_cases q1 : p + 1 < n
      · have hl : ¬ nI n ≤ nI (p + 1) := by rw [nJ_le (by omega) (by omega)]; omega
        have tp : (nI (p + 1)).toNatClampNeg = p + 1 := nJ_n (by omega)
        have np : ¬ nI (p + 1) < 0 := nJ_nn (by omega)
        have h4 : p + 1 < 400 := by omega
        have eT : gI h2 94 (p + 1) = nI (T (p + 1)) := tt.2.2 _
        have es : sgI T n (p + 1) = nI (T (p + 1)) := if_pos q1
        by_cases q2 : nI (T (p + 1)) = 61
        · have hw : wdB T n p = true := decide_eq_true ⟨q61, es.trans q2⟩
          have R3 := RC_p R (p + 1 + 1)
          have := z_sg_102 (ok_pI w2 93 3 (nI (p + 1 + 1))) R3 (show rmM n (p + 1 + 1) (c + 1) d W E from ⟨by omega, m'.2⟩) (v1 := sgI T n p) (v2 := 1) (cmN T n p) (by
            unfold cmN
            rw [if_neg q61, if_pos hw, if_pos hw]
            by_cases q60 : sgI T n p = 60
            · rw [if_pos q60]; exact Or.inr (Or.inr (Or.inl ⟨q60, by decide, rfl⟩))
            · rw [if_neg q60]; exact Or.inr (Or.inr (Or.inr (Or.inr ⟨q61, q60, by decide, rfl⟩))))
          rw [if_pos hw]
          simp only [s2, ↓reduceIte, g0, g32, hl, decide_false, Bool.false_eq_true, ax_in, r2, s94, tp, np, h4, not_false_eq_true, and_self, eT, q2, not_true_eq_false, nJ_p1]
          exact rsl_y (fr_pI rfl) this
        · have hw : ¬ wdB T n p = true := fun z => q2 (es.symm.trans (of_decide_eq_true z).2)
          simp only [s2, ↓reduceIte, g0, g32, hl, decide_false, Bool.false_eq_true, ax_in, r2, s94, tp, np, h4, not_false_eq_true, and_self, eT, q2, decide_true]
          exact nar hw
      · have hl : nI n ≤ nI (p + 1) := (nJ_le (by omega) (by omega)).mpr (by omega)
        have es : sgI T n (p + 1) = -1 := if_neg q1
        have hw : ¬ wdB T n p = true := fun z => by
          have := (of_decide_eq_true z).2
          rw [es] at this
          exact absurd this (by decide)
        simp only [s2, ↓reduceIte, g0, g32, hl, decide_true]
        exact nar hw
  · rw [if_neg q]
    obtain ⟨h1, a1, a2⟩ := k2 q
    refine ⟨h1, ?_, a2⟩
    rw [Rd_readSign_28_eq]
    simp only [s0, ↓reduceIte, r.1.2.1]
    rw [bnd a1]
    rfl
end
