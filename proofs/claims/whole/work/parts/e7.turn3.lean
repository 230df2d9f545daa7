/-! the class's turns: signs, closing, the operator -/
section
theorem z_readSign {T : Nat → Nat} {n : Nat} (tb : ∀ i, T i < 256) {h : ax_H} (w : ok h) (t : TC h T n) {st p c d : Nat} {W : List Nat} {E : Cd} (r : RC h st p c d W E) (m : rmM n p c d W E) : rsl h (Rd_readSign 93 (sgI T n p) h) (sgP T n p c d W E) := by
  have s0 := s_93 w
  unfold sgP
  by_cases q : sgI T n p = 60 ∨ sgI T n p = 61 ∨ sgI T n p = 62
  · rw [if_pos q]
    have k := z_sg_28 tb w t r m q
    rw [Rd_readSign_eq]
    rcases q with q | q | q
    · simp only [q, decide_true, ↓reduceIte] at k ⊢; exact k
    · simp only [q, decide_true, ↓reduceIte, show ¬ (61 : Int32) = 60 by decide, decide_false, Bool.false_eq_true] at k ⊢; exact k
    · simp only [q, decide_true, ↓reduceIte, show ¬ (62 : Int32) = 60 by decide, show ¬ (62 : Int32) = 61 by decide, decide_false, Bool.false_eq_true] at k ⊢; exact k
  · rw [if_neg q]
    refine ⟨_, ?_, fr_pI rfl, by rw [gI_pI, if_pos ⟨rfl, rfl⟩]⟩
    rw [Rd_readSign_eq]
    simp only [show ¬ sgI T n p = 60 from fun z => q (Or.inl z), show ¬ sgI T n p = 61 from fun z => q (Or.inr (Or.inl z)), show ¬ sgI T n p = 62 from fun z => q (Or.inr (Or.inr z)), decide_false, Bool.false_eq_true, ↓reduceIte, s0, r.1.2.1]
    rw [bnd (z_fail w p 0 (c' := 0) rfl)]
    rfl
theorem z_closing {T : Nat → Nat} {n : Nat} (tb : ∀ i, T i < 256) {h : ax_H} (w : ok h) {st p c d : Nat} {W : List Nat} {E : Cd} (r : RC h st p c d W E) (m : rmM n p c d W E) : rsl h (Rd_readClosing 93 (sgI T n p) h) (clP T n p c (bdW 11 W E d)) := by
  have s0 := s_93 w
  obtain ⟨h1, a1, a2, a3, a4⟩ := z_bd (op := 11) (by omega) w r m (op' := 11) rfl
  obtain ⟨b1, b2, b3, b4, b5, b6⟩ := bd_b 11 W E d m.2.2.2.1
  have hx : ∀ x ∈ (bdW 11 W E d).1, x ≤ 12 := fun x hx => m.2.2.2.2.1 x (b3 x hx)
  have hd := m.2.2.1
  generalize bdW 11 W E d = b at *
  obtain ⟨W', E', d'⟩ := b
  have w1 := ok_fr a2 w
  have s1 := s_93 w1
  unfold clP
  rw [Rd_readClosing_eq, if_pos s0, bnd a1]
  have g9 : gI h1 93 9 = nI W'.length := a3.1.2.2.2.2.1
  have g8 : gI h1 93 8 = nI d' := a3.1.2.2.2.1
  have g3 : gI h1 93 3 = nI p := a3.1.2.1
  cases W' with
  | nil =>
    refine rsl_y a2 ⟨pI h1 93 7 (nI 6), ?_, fr_pI rfl, RC_st a3 6⟩
    have z : gI h1 93 9 = 0 := g9
    simp only [s1, ↓reduceIte, z, not_true_eq_false, decide_false, Bool.false_eq_true]
    rfl
  | cons x W' =>
    have z : ¬ nI (x :: W').length = 0 := by rw [show (0 : Int32) = nI 0 from rfl, nJ_eq (by have : (x :: W').length ≤ 60 := a4; omega) (by omega), List.length_cons]; omega
    have x12 : x = 12 := by
      have h1 := b6 x W' rfl
      have h2 := hx x List.mem_cons_self
      omega
    have d1 : 1 ≤ d' := by
      have : dpW (x :: W') ≤ d' := b4
      rw [dpW, if_pos (Or.inr x12)] at this
      omega
    refine rsl_y a2 ?_
    by_cases q : sgI T n p = 93
    · show rsl h1 _ (if sgI T n p = 93 then _ else _)
      rw [if_pos q]
      have R : RC (pI (pI (pI (pI h1 93 3 (nI (p + 1))) 93 9 (nI W'.length)) 93 8 (nI (d' - 1))) 93 7 (nI 5)) 5 (p + 1) c (d' - 1) W' E' := RC_st (RC_d (RC_pop (RC_p a3 (p + 1))) (d' - 1)) 5
      refine ⟨_, ?_, fr_tr (fr_tr (fr_tr (fr_pI rfl) (fr_pI rfl)) (fr_pI rfl)) (fr_pI rfl), R⟩
      have e9 : gI (pI h1 93 3 (nI (p + 1))) 93 9 = nI (W'.length + 1) := by rw [gI_pI, if_neg (by omega)]; exact g9
      have e8 : gI (pI (pI h1 93 3 (nI (p + 1))) 93 9 (nI W'.length)) 93 8 = nI d' := by rw [gI_pI, if_neg (by omega), gI_pI, if_neg (by omega)]; exact g8
      have y9 : nI (W'.length + 1) - 1 = nI W'.length := by rw [show (1 : Int32) = nI 1 from rfl, nI_sb (by omega), Nat.add_sub_cancel]
      have y8 : nI d' - 1 = nI (d' - 1) := by rw [show (1 : Int32) = nI 1 from rfl, nI_sb d1]
      simp only [s1, ↓reduceIte, g9, z, not_false_eq_true, decide_true, q, gS_pI, g3, nJ_p1, e9, y9, e8, y8]
      rfl
    · show rsl h1 _ (if sgI T n p = 93 then _ else _)
      rw [if_neg q]
      refine ⟨_, ?_, fr_pI rfl, by rw [gI_pI, if_pos ⟨rfl, rfl⟩]⟩
      simp only [s1, ↓reduceIte, g9, z, not_false_eq_true, decide_true, q, decide_false, Bool.false_eq_true, g3]
      rw [bnd (z_fail w1 p 0 (c' := 0) rfl)]
      rfl
theorem z_or_118 {T : Nat → Nat} {n : Nat} (tb : ∀ i, T i < 256) {h : ax_H} (w : ok h) {st p c d : Nat} {W : List Nat} {E : Cd} (r : RC h st p c d W E) (m : rmM n p c d W E) {v : Int32} (op : Nat) (ho : (v = 0 ∧ op = 11) ∨ (¬ v = 0 ∧ op = 10)) : rsl h (Rd_readOperator_118 93 v h) (.inr (0, p, c, (bdW op W E d).2.2, op :: (bdW op W E d).1, (bdW op W E d).2.1)) := by
  have s0 := s_93 w
  have go : ∀ o' : Int32, o' = nI op → rsl h ((Rd_bind 93 o' h).bind (fun h1 => if (gS h1 93).1 = 6 then (Rd_await 93 o' h1).bind (fun h2 => if (gS h2 93).1 = 6 then some (1, pI h2 93 7 0) else none) else none)) (.inr (0, p, c, (bdW op W E d).2.2, op :: (bdW op W E d).1, (bdW op W E d).2.1)) := fun o' eo => by
    obtain ⟨h1, a1, a2, a3, a4⟩ := z_bd (op := op) (by omega) w r m (op' := o') eo
    have w1 := ok_fr a2 w
    obtain ⟨h2, b1, b2, b3⟩ := z_await w1 a3 (by omega) op eo
    have s2 := s_93 (ok_fr b2 w1)
    refine ⟨pI h2 93 7 (nI 0), ?_, fr_tr a2 (fr_tr b2 (fr_pI rfl)), RC_st b3 0⟩
    rw [bnd a1, if_pos (s_93 w1), bnd b1, if_pos s2]
    rfl
  rw [Rd_readOperator_118_eq]
  rcases ho with ⟨e1, e2⟩ | ⟨e1, e2⟩
  · rw [if_pos (decide_eq_true e1), if_pos s0]
    exact go 11 (by rw [e2]; rfl)
  · rw [if_neg (by rw [decide_eq_true_eq]; exact e1), if_pos s0]
    exact go 10 (by rw [e2]; rfl)
theorem z_or_25 {T : Nat → Nat} {n : Nat} (tb : ∀ i, T i < 256) {h : ax_H} (w : ok h) {st p c d : Nat} {W : List Nat} {E : Cd} (r : RC h st p c d W E) (m : rmM n p c d W E) (hp : p < n) (hst : st ≤ 6) (v : Int32) : rsl h (Rd_readOperator_25 93 v h) (.inr ((if st = 2 then 1 else 3), p + 1, c, (bdW 3 W E d).2.2, (if v = 43 then 2 else 3) :: (bdW 3 W E d).1, (bdW 3 W E d).2.1)) := by
  have s0 := s_93 w
  have R := RC_p r (p + 1)
  have m' : rmM n (p + 1) c d W E := ⟨by omega, m.2⟩
  obtain ⟨h1, a1, a2, a3, a4⟩ := z_bd (op := 3) (by omega) (ok_pI w 93 3 (nI (p + 1))) R m' (op' := 3) rfl
  have w1 := ok_fr a2 (ok_pI w 93 3 (nI (p + 1)))
  have go : ∀ (o : Nat) (o' : Int32), o' = nI o → rsl h (Rd_readOperator_52 o' 93 93 h1) (.inr ((if st = 2 then 1 else 3), p + 1, c, (bdW 3 W E d).2.2, o :: (bdW 3 W E d).1, (bdW 3 W E d).2.1)) := fun o o' eo => by
    obtain ⟨h2, b1, b2, b3⟩ := z_await w1 a3 (by omega) o eo
    have s2 := s_93 (ok_fr b2 w1)
    have g7 : gI h2 93 7 = nI st := b3.1.1
    have f2 : fr Sy h h2 := fr_tr (fr_pI rfl) (fr_tr a2 b2)
    rw [Rd_readOperator_52_eq, if_pos (s_93 w1), bnd b1]
    by_cases q : st = 2
    · have z : nI st = 2 := by rw [q]; rfl
      rw [if_pos q]
      refine ⟨pI h2 93 7 (nI 1), ?_, fr_tr f2 (fr_pI rfl), RC_st b3 1⟩
      simp only [s2, ↓reduceIte, g7, z, not_true_eq_false, decide_false, Bool.false_eq_true]
      rfl
    · have z : ¬ nI st = 2 := by rw [show (2 : Int32) = nI 2 from rfl, nJ_eq (by omega) (by omega)]; exact q
      rw [if_neg q]
      refine ⟨pI h2 93 7 (nI 3), ?_, fr_tr f2 (fr_pI rfl), RC_st b3 3⟩
      simp only [s2, ↓reduceIte, g7, z, not_false_eq_true, decide_true]
      rfl
  by_cases q : v = 43
  · have k := go 2 2 rfl
    rw [if_pos q, Rd_readOperator_25_eq]
    simp only [s0, ↓reduceIte, r.1.2.1, nJ_p1, gS_pI]
    rw [bnd a1]
    simp only [q, not_true_eq_false, decide_false, Bool.false_eq_true, ↓reduceIte]
    exact k
  · have k := go 3 3 rfl
    rw [if_neg q, Rd_readOperator_25_eq]
    simp only [s0, ↓reduceIte, r.1.2.1, nJ_p1, gS_pI]
    rw [bnd a1]
    simp only [q, not_false_eq_true, decide_true, ↓reduceIte]
    exact k
theorem z_or_74 {T : Nat → Nat} {n : Nat} (tb : ∀ i, T i < 256) {h : ax_H} (w : ok h) (t : TC h T n) {st p c d : Nat} {W : List Nat} {E : Cd} (r : RC h st p c d W E) (m : rmM n p c d W E) (hst : st ≤ 6) : rsl h (Rd_readOperator_74 93 (sgI T n p) h) (if st = 2 then sgP T n p c d W E
  else if wD T n [97, 110, 100] p = true then .inr (0, p + 3, c, (bdW 10 W E d).2.2, 10 :: (bdW 10 W E d).1, (bdW 10 W E d).2.1)
  else if wD T n [111, 114] p = true then .inr (0, p + 2, c, (bdW 11 W E d).2.2, 11 :: (bdW 11 W E d).1, (bdW 11 W E d).2.1)
  else clP T n p c (bdW 11 W E d)) := by
  have s0 := s_93 w
  have t1 := t.1
  have m1 := m.1
  by_cases q : st = 2
  · have z : nI st = 2 := by rw [q]; rfl
    have k := z_readSign tb w t r m
    rw [if_pos q, Rd_readOperator_74_eq]
    simp only [s0, ↓reduceIte, r.1.1, z, not_true_eq_false, decide_false, Bool.false_eq_true]
    exact rsl_01 k
  · have z : ¬ nI st = 2 := by rw [show (2 : Int32) = nI 2 from rfl, nJ_eq (by omega) (by omega)]; exact q
    rw [if_neg q]
    obtain ⟨h1, a1, a2, a3⟩ := z_takeWord tb (x := 6) (by omega) w t r.1.2.1 (by omega)
    have e6 : fW T n (wsL 6) 0 p = if wD T n [97, 110, 100] p = true then some (0, p + 3) else none := fW_1 T n [97, 110, 100] p
    rw [e6] at a1 a3
    have w1 := ok_fr a2 w
    have R := RC_Sp r a2 a3
    have s1 := s_93 w1
    have wd3 : ∀ (l : List Nat) (p : Nat), wM T n l p = true → p ≤ n → p + l.length ≤ n := fun l => by
      induction l with
      | nil => intro p _ h; exact h
      | cons c l ih =>
        intro p h _
        rw [wM, Bool.and_eq_true] at h
        have h1 := (of_decide_eq_true h.1).1
        have := ih (p + 1) h.2 (by omega)
        rw [List.length_cons]
        omega
    by_cases q1 : wD T n [97, 110, 100] p = true
    · rw [if_pos q1] at a1 a3 R
      rw [if_pos q1, Rd_readOperator_74_eq]
      simp only [s0, ↓reduceIte, r.1.1, z, not_false_eq_true, decide_true]
      rw [bnd a1]
      have e3 : p + 3 ≤ n := by
        unfold wD at q1
        rw [Bool.and_eq_true] at q1
        exact wd3 _ p q1.1 m1
      simp only [show ¬ twR (some (0, p + 3)) = -1 from nI_neg1 (by omega), decide_false, Bool.false_eq_true, ↓reduceIte]
      exact rsl_y (Sp_y a2) (z_or_118 tb w1 R (show rmM n (p + 3) c d W E from ⟨e3, m.2⟩) 10 (Or.inr ⟨by decide, rfl⟩))
    · rw [if_neg q1] at a1 a3 R
      rw [if_neg q1]
      obtain ⟨h2, b1, b2, b3⟩ := z_takeWord tb (x := 7) (by omega) w1 (TC_Sp a2 t) a3 (by show p ≤ 1000; omega)
      have e7 : fW T n (wsL 7) 0 p = if wD T n [111, 114] p = true then some (0, p + 2) else none := fW_1 T n [111, 114] p
      have b1' : Rd_takeWord 93 7 h1 = some (twR (fW T n (wsL 7) 0 p), h2) := b1
      have b3' : gI h2 93 3 = nI (twP p (fW T n (wsL 7) 0 p)) := b3
      rw [e7] at b1' b3'
      have w2 := ok_fr b2 w1
      have R2 := RC_Sp R b2 b3'
      have s2 := s_93 w2
      by_cases q2 : wD T n [111, 114] p = true
      · rw [if_pos q2] at b1' b3' R2
        rw [if_pos q2, Rd_readOperator_74_eq]
        simp only [s0, ↓reduceIte, r.1.1, z, not_false_eq_true, decide_true]
        rw [bnd a1]
        simp only [show twR none = -1 from rfl, decide_true, ↓reduceIte, s1]
        rw [bnd b1']
        have e3 : p + 2 ≤ n := by
          unfold wD at q2
          rw [Bool.and_eq_true] at q2
          exact wd3 _ p q2.1 m1
        simp only [show ¬ twR (some (0, p + 2)) = -1 from nI_neg1 (by omega), decide_false, Bool.false_eq_true, ↓reduceIte]
        exact rsl_y (Sp_y a2) (rsl_y (Sp_y b2) (z_or_118 tb w2 R2 (show rmM n (p + 2) c d W E from ⟨e3, m.2⟩) 11 (Or.inl ⟨rfl, rfl⟩)))
      · rw [if_neg q2] at b1' b3' R2
        have k := z_closing tb w2 R2 m
        rw [if_neg q2, Rd_readOperator_74_eq]
        simp only [s0, ↓reduceIte, r.1.1, z, not_false_eq_true, decide_true]
        rw [bnd a1]
        simp only [show twR none = -1 from rfl, decide_true, ↓reduceIte, s1]
        rw [bnd b1']
        simp only [show twR none = -1 from rfl, decide_true, ↓reduceIte, s2]
        exact rsl_y (Sp_y a2) (rsl_y (Sp_y b2) (rsl_01 k))
theorem z_operator {T : Nat → Nat} {n : Nat} (tb : ∀ i, T i < 256) {h : ax_H} (w : ok h) (t : TC h T n) {st p c d : Nat} {W : List Nat} {E : Cd} (r : RC h st p c d W E) (m : rmM n p c d W E) (hst : st ≤ 6) : rsl h (Rd_readOperator 93 h) (opR T n st p c d W E) := by
  have s0 := s_93 w
  have t1 := t.1
  have m1 := m.1
  obtain ⟨h1, a1, a2, a3⟩ := z_next tb w t r.1.2.1 (by omega)
  have w1 := ok_fr a2 w
  have t1' := TC_Sp a2 t
  have R := RC_Sp r a2 a3
  have s1 := s_93 w1
  have m' : rmM n (sb T n p) c d W E := ⟨sb_le m1, m.2⟩
  unfold opR
  generalize sb T n p = p1 at *
  have k74 := z_or_74 tb w1 t1' R m' hst
  have g7 : gI h1 93 7 = nI st := R.1.1
  by_cases q : ¬ st = 5 ∧ (sgI T n p1 = 43 ∨ sgI T n p1 = 45)
  · have hp1 : p1 < n := by
      by_cases y : p1 < n
      · exact y
      · have e : sgI T n p1 = -1 := if_neg y
        rw [e] at q
        exact absurd q.2 (by decide)
    have k := z_or_25 tb w1 R m' hp1 hst (sgI T n p1)
    have z5 : ¬ nI st = 5 := by rw [show (5 : Int32) = nI 5 from rfl, nJ_eq (by omega) (by omega)]; exact q.1
    rw [if_pos q, Rd_readOperator_eq, if_pos s0, bnd a1]
    refine rsl_y (Sp_y a2) ?_
    by_cases q43 : sgI T n p1 = 43
    · simp only [s1, ↓reduceIte, g7, z5, decide_false, Bool.false_eq_true, q43, decide_true] at k ⊢
      exact k
    · have q45 : sgI T n p1 = 45 := q.2.resolve_left q43
      simp only [s1, ↓reduceIte, g7, z5, decide_false, Bool.false_eq_true, q45, show ¬ (45 : Int32) = 43 by decide, not_true_eq_false] at k ⊢
      exact k
  · rw [if_neg q, Rd_readOperator_eq, if_pos s0, bnd a1]
    refine rsl_y (Sp_y a2) ?_
    by_cases q5 : st = 5
    · have z5 : nI st = 5 := by rw [q5]; rfl
      simp only [s1, ↓reduceIte, g7, z5, decide_true]
      exact k74
    · have z5 : ¬ nI st = 5 := by rw [show (5 : Int32) = nI 5 from rfl, nJ_eq (by omega) (by omega)]; exact q5
      have n43 : ¬ sgI T n p1 = 43 := fun y => q ⟨q5, Or.inl y⟩
      have n45 : ¬ sgI T n p1 = 45 := fun y => q ⟨q5, Or.inr y⟩
      simp only [s1, ↓reduceIte, g7, z5, decide_false, Bool.false_eq_true, n43, n45, not_false_eq_true, decide_true]
      exact k74
end
