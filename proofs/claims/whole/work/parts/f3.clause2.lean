/-! the class's clauses: terms, leaves, all -/
theorem jn2_app : ∀ (L : List Cd) (R : Cd), jn2 (L ++ [R]) = jn2 L ++ R ++ [(11, 0)]
  | [], R => by rw [List.nil_append, jn2, jn2]; rfl
  | S :: L, R => by rw [List.cons_append, jn2, jn2, jn2_app L R]; simp only [List.append_assoc, List.cons_append]
theorem jnT_app {L : List Cd} (h : ¬ L = []) (R : Cd) : (jnT (L ++ [R])).reverse = (11, 0) :: (R.reverse ++ (jnT L).reverse) := by
  cases L with
  | nil => exact absurd rfl h
  | cons S L => rw [List.cons_append, jnT, jnT, jn2_app]; simp only [List.reverse_append, List.reverse_cons, List.reverse_nil, List.nil_append, List.append_assoc, List.cons_append]
theorem jnT_1 (R : Cd) : jnT [R] = R := by rw [jnT, jn2, List.append_nil]
theorem jnT_ne {L : List Cd} (h : ¬ L = []) (t : ∀ R ∈ L, tOk R) : 1 ≤ (jnT L).length := by
  cases L with
  | nil => exact absurd rfl h
  | cons S L =>
    have h1 := t S List.mem_cons_self
    cases S with
    | nil => exact absurd (show ([] : List Nat) = [0] from h1) (by decide)
    | cons e S => rw [jnT, List.cons_append, List.length_cons]; omega
/-- what stays between clauses -/
def WI (n p c ft : Nat) (hd : Int32) (dg hl : Nat → Int32) (L : List Cd) : Prop := (p ≤ n ∧ c ≤ 60 ∧ ft ≤ 3 ∧ inI hd (-1) 7) ∧ (∀ t, t < 6 → inI (dg t) 0 3 ∧ inI (hl t) (-99999) 99999 ∧ (¬ dg t = 2 → hl t = 0)) ∧ cntB (fun t => decide (dg t = 1)) 6 0 = ft ∧ (∀ R ∈ L, tOk R) ∧ npT L ≤ c ∧ 2 * (jnT L).length ≤ p + 2 * c
section
theorem z_term {T : Nat → Nat} {n : Nat} (tb : ∀ i, T i < 256) {h : ax_H} (w : ok h) (t : TC h T n) {p c ft : Nat} {hd : Int32} {dg hl : Nat → Int32} {L : List Cd} (r : RWd h p c ft hd dg hl (jnT L).reverse) (hp : p ≤ n) (hf : ft ≤ 3) {how : Nat} (hw : how = 1 ∨ how = 2 ∨ how = 3) {how' : Int32} (eh : how' = nI how) : rsw h (Rd_readTerm 93 how' h) (tmP T n how p c ft hd dg hl L) := by
  have t1 := t.1
  have s0 := s_93 w
  obtain ⟨h1, a1, a2, a3⟩ := z_next tb w t r.1.1 (by omega)
  have hle : sb T n p ≤ n := sb_le hp
  have w1 := ok_fr a2 w
  have t1' := TC_Sp a2 t
  have R := RWd_Sp r a2 a3
  have s1 := s_93 w1
  unfold tmP
  generalize sb T n p = p1 at *
  obtain ⟨h2, b1, b2, b3⟩ := z_takeWord tb (x := 2) (by omega) w1 t1' a3 (by omega)
  have w2 := ok_fr b2 w1
  have t2' := TC_Sp b2 t1'
  have s2 := s_93 w2
  have R2 := RWd_Sp R b2 b3
  rw [Rd_readTerm_eq, if_pos s0, bnd a1]
  simp only [s1, ↓reduceIte, a3]
  rw [bnd b1]
  refine rsw_x (Sp_x a2) (rsw_x (Sp_x b2) ?_)
  cases hq : fW T n (wsL 2) 0 p1 with
  | none =>
    refine ⟨_, ?_, fr_pI rfl, by rw [gI_pI, if_pos ⟨rfl, rfl⟩]⟩
    simp only [show twR none = -1 from rfl, not_true_eq_false, decide_false, Bool.false_eq_true, ↓reduceIte, s2]
    rw [bnd (z_fail w2 p1 0 (c' := 0) rfl)]
    rfl
  | some q =>
    rw [hq] at R2
    have hl6 : q.1 < 6 := by
      have := fW_lt T n (wsL 2) 0 p1 q hq
      have e : (wsL 2).length = 6 := rfl
      omega
    have hq2 : q.2 ≤ n := (fW_le (wsL 2) 0 p1 q (by decide) hle hq).2
    have tk : (nI q.1).toNatClampNeg = q.1 := nJ_n (by omega)
    have nk : ¬ nI q.1 < 0 := nJ_nn (by omega)
    have nm : ¬ nI q.1 = -1 := nI_neg1 (by omega)
    obtain ⟨e97, e98, e13, e14⟩ := s97 w2
    have gd : gI h2 97 q.1 = dg q.1 := R2.2.1 q.1 hl6
    have g5 : gI h2 93 5 = nI ft := R2.1.2.2.1
    have hz : how' = 1 ↔ how = 1 := by rw [eh, show (1 : Int32) = nI 1 from rfl, nJ_eq (by omega) (by omega)]
    have hz2 : how' = 2 ↔ how = 2 := by rw [eh, show (2 : Int32) = nI 2 from rfl, nJ_eq (by omega) (by omega)]
    have hz3 : nI ft = 3 ↔ ft = 3 := by rw [show (3 : Int32) = nI 3 from rfl, nJ_eq (by omega) (by omega)]
    have bad : rsw h2 ((Rd_fail 93 (nI p1) 5 h2).bind fun r => if r.1 = 0 ∨ r.1 = 1 then some (r.1, r.2) else none) (.inl (1 + 8 * p1 + 5)) := ⟨_, by rw [bnd (z_fail w2 p1 5 (c' := 5) rfl)]; rfl, fr_pI rfl, by rw [gI_pI, if_pos ⟨rfl, rfl⟩]⟩
    have good : ∀ P, P = Rd_readTerm_58 93 how' (nI q.1) h2 → rsw h2 P (if how = 2 then hlP T n q.2 c ft hd (upI dg q.1 2) hl L q.1 else .inr (q.2, c, (if how = 1 then ft + 1 else ft), hd, upI dg q.1 (nI how), hl, L)) := by
      intro P eP
      subst eP
      have R3 : RWd (pI h2 97 q.1 how') q.2 c ft hd (upI dg q.1 how') hl (jnT L).reverse := by
        obtain ⟨⟨u1, u2, u3, u4, u5⟩, u6, u7, u8⟩ := R2
        refine ⟨⟨u1, u2, u3, u4, u5⟩, fun j hj => ?_, u7, stk_eq _ (fun j _ => by rw [gI_pI, if_neg (by omega)]) u8⟩
        unfold upI
        rw [gI_pI]
        by_cases z : j = q.1
        · rw [if_pos ⟨rfl, z⟩, if_pos z]
        · rw [if_neg (fun y => z y.2), if_neg z]; exact u6 j hj
      have w3 : ok (pI h2 97 q.1 how') := ok_pI w2 _ _ _
      have t3 : TC (pI h2 97 q.1 how') T n := TC_Sx (fr_pI rfl) t2'
      have e58 : Rd_readTerm_58 93 how' (nI q.1) h2 = if ¬ how' = 1 then Rd_readTerm_80 93 how' (nI q.1) (pI h2 97 q.1 how') else Rd_readTerm_80 93 how' (nI q.1) (pI (pI h2 97 q.1 how') 93 5 (nI (ft + 1))) := by
        have g5' : gI (pI h2 97 q.1 how') 93 5 = nI ft := by rw [gI_pI, if_neg (by omega)]; exact g5
        rw [Rd_readTerm_58_eq]
        simp only [s2, ↓reduceIte, e13, ax_in, e97, tk, nk, hl6, not_false_eq_true, and_self, decide_eq_true_eq, gS_pI, g5', nJ_p1]
      rw [e58]
      by_cases q1 : how = 1
      · rw [if_neg (fun z => z (hz.mpr q1)), if_neg (show ¬ how = 2 by omega), if_pos q1]
        have n2 : ¬ how' = 2 := fun z => by have := hz2.mp z; omega
        refine ⟨pI (pI h2 97 q.1 how') 93 5 (nI (ft + 1)), ?_, fr_tr (fr_pI rfl) (fr_pI rfl), ?_⟩
        · rw [Rd_readTerm_80_eq, if_pos (decide_eq_true n2)]
        · obtain ⟨⟨u1, u2, u3, u4, u5⟩, u6, u7, u8⟩ := R3
          refine ⟨⟨by rw [gI_pI, if_neg (by omega)]; exact u1, by rw [gI_pI, if_neg (by omega)]; exact u2, by rw [gI_pI, if_pos ⟨rfl, rfl⟩], by rw [gI_pI, if_neg (by omega)]; exact u4, by rw [gI_pI, if_neg (by omega)]; exact u5⟩, fun j hj => ?_, u7, stk_93 (by omega) u8⟩
          rw [gI_pI, if_neg (by omega), u6 j hj, eh]
      · rw [if_pos (fun z => q1 (hz.mp z))]
        by_cases q2 : how = 2
        · rw [if_pos q2, Rd_readTerm_80_eq, if_neg (by rw [decide_eq_true_eq]; exact fun z => z (hz2.mpr q2)), if_pos (s_93 w3)]
          have e2 : how' = 2 := hz2.mpr q2
          rw [e2] at R3 w3 t3 ⊢
          have k := z_held tb w3 t3 R3 hq2 (k := q.1) hl6
          refine rsw_x (show fr Sx h2 (pI h2 97 q.1 2) from fr_pI rfl) ?_
          generalize hlP T n q.2 c ft hd (upI dg q.1 2) hl L q.1 = o at *
          cases o with
          | inl f =>
            obtain ⟨h', x, y⟩ := k
            exact ⟨h', by rw [bnd x]; rfl, y⟩
          | inr s =>
            obtain ⟨h', x, y, z⟩ := k
            exact ⟨h', by rw [bnd x]; rfl, y, z⟩
        · have n2 : ¬ how' = 2 := fun z => q2 (hz2.mp z)
          rw [if_neg q2, if_neg q1]
          refine ⟨pI h2 97 q.1 how', ?_, fr_pI rfl, by rw [eh] at R3 ⊢; exact R3⟩
          rw [Rd_readTerm_80_eq, if_pos (decide_eq_true n2)]
    show rsw h2 _ (if ¬ dg q.1 = 0 ∨ (how = 1 ∧ ft = 3) then _ else _)
    simp only [show twR (some q) = nI q.1 from rfl, nm, not_false_eq_true, decide_true, ↓reduceIte, s2, e13, ax_in, e97, tk, nk, hl6, and_self, gd, g5]
    by_cases c1 : dg q.1 = 0
    · by_cases c2 : how = 1
      · by_cases c3 : ft = 3
        · rw [if_pos (Or.inr ⟨c2, c3⟩)]
          simp only [c1, not_true_eq_false, decide_false, Bool.false_eq_true, ↓reduceIte, hz.mpr c2, hz3.mpr c3]
          exact bad
        · rw [if_neg (show ¬ (¬ dg q.1 = 0 ∨ (how = 1 ∧ ft = 3)) from fun z => z.elim (fun y => y c1) (fun y => c3 y.2))]
          refine good _ ?_
          simp only [c1, not_true_eq_false, decide_false, Bool.false_eq_true, ↓reduceIte, hz.mpr c2, show ¬ nI ft = 3 from fun z => c3 (hz3.mp z), not_false_eq_true, decide_true]
      · rw [if_neg (show ¬ (¬ dg q.1 = 0 ∨ (how = 1 ∧ ft = 3)) from fun z => z.elim (fun y => y c1) (fun y => c2 y.1))]
        refine good _ ?_
        simp only [c1, not_true_eq_false, decide_false, Bool.false_eq_true, ↓reduceIte, show ¬ how' = 1 from fun z => c2 (hz.mp z), not_false_eq_true, decide_true]
    · rw [if_pos (Or.inl c1)]
      simp only [c1, not_false_eq_true, decide_true, ↓reduceIte]
      exact bad
end
