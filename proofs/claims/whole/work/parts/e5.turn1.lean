/-! the class's turns: an operand -/
def opD (T : Nat → Nat) (n st p c d : Nat) (W : List Nat) (E : Cd) : Sum Nat Ms :=
  if st = 0 ∧ sgI T n (sb T n p) = 91 then (if d < 10 then .inr (0, sb T n p + 1, c, d + 1, 12 :: W, E) else .inl (1 + 8 * sb T n p + 2))
  else if st = 0 ∧ wD T n [110, 111, 116] (sb T n p) = true then (if d < 10 then .inr (0, sb T n p + 3, c, d + 1, 9 :: W, E) else .inl (1 + 8 * sb T n p + 2))
  else vlP T n (if st = 3 then 4 else 2) (sb T n p) c d W E
theorem s_93 {h : ax_H} (w : ok h) : (gS h 93).1 = 6 := by obtain ⟨wS, wR, wG, wN⟩ := w; simp only [wS]
theorem z_deep {h : ax_H} (w : ok h) {st p c d : Nat} {W : List Nat} {E : Cd} (r : RC h st p c d W E) (hW : W.length < 64) (hd : d ≤ 100) (b op : Nat) {op' : Int32} (eo : op' = nI op) : rsl h (Rd_openDeeper 93 (nI b) op' h) (if d < 10 then .inr (st, p, c, d + 1, op :: W, E) else .inl (1 + 8 * b + 2)) := by
  have s0 := s_93 w
  have r4 := r.1.2.2.2.1
  by_cases q : d < 10
  · have z : nI d < 10 := (nJ_lt (a := d) (b := 10) (by omega) (by omega)).mpr q
    rw [if_pos q]
    obtain ⟨h1, a1, a2, a3⟩ := z_await (ok_pI w 93 8 (nI (d + 1))) (RC_d r (d + 1)) hW op eo
    refine ⟨h1, ?_, fr_tr (fr_pI rfl) a2, a3⟩
    rw [Rd_openDeeper_eq]
    simp only [s0, ↓reduceIte, r4, z, decide_true, nJ_p1, gS_pI]
    rw [bnd a1]
  · have z : ¬ nI d < 10 := fun y => q ((nJ_lt (a := d) (b := 10) (by omega) (by omega)).mp y)
    rw [if_neg q]
    refine ⟨_, ?_, fr_pI rfl, by rw [gI_pI, if_pos ⟨rfl, rfl⟩]⟩
    rw [Rd_openDeeper_eq]
    simp only [s0, ↓reduceIte, r4, z, decide_false, Bool.false_eq_true]
    rw [bnd (z_fail w b 2 (c' := 2) rfl)]
    rfl
theorem sg_eq {T : Nat → Nat} (tb : ∀ i, T i < 256) {n p c : Nat} (hc : c < 256) {c' : Int32} (e : c' = nI c) : sgI T n p = c' ↔ p < n ∧ T p = c := by
  subst e
  unfold sgI
  have := tb p
  by_cases q : p < n
  · rw [if_pos q, nJ_eq (by omega) (by omega)]
    exact ⟨fun z => ⟨q, z⟩, fun z => z.2⟩
  · rw [if_neg q]
    exact ⟨fun z => absurd z.symm (nI_neg1 (by omega)), fun z => absurd z.1 q⟩
theorem fW_1 (T : Nat → Nat) (n : Nat) (w : List Nat) (p : Nat) : fW T n [w] 0 p = if wD T n w p = true then some (0, p + w.length) else none := rfl
section
theorem z_od_74 {T : Nat → Nat} {n : Nat} (tb : ∀ i, T i < 256) {h : ax_H} (w : ok h) (t : TC h T n) {st p c d : Nat} {W : List Nat} {E : Cd} (r : RC h st p c d W E) (hst : st ≤ 6) (hp : p ≤ n) (hE : E.length < 400) (hc : c ≤ 60) (hb : sb T n p = p) : rsl h (Rd_readOperand_74 93 h) (vlP T n (if st = 3 then 4 else 2) p c d W E) := by
  have s0 := s_93 w
  have r1 := r.1.1
  by_cases q : st = 3
  · have z : nI st = 3 := by rw [q]; rfl
    have R := RC_st r 4
    have := z_readValue tb (ok_pI w 93 7 (nI 4)) (TC_Sx (fr_pI rfl) t) R hp hE hc hb
    rw [if_pos q, Rd_readOperand_74_eq]
    simp only [s0, ↓reduceIte, r1, z, not_true_eq_false, decide_false, Bool.false_eq_true, gS_pI]
    exact rsl_01 (rsl_y (fr_pI rfl) this)
  · have z : ¬ nI st = 3 := by rw [show (3 : Int32) = nI 3 from rfl, nJ_eq (by omega) (by omega)]; exact q
    have R := RC_st r 2
    have := z_readValue tb (ok_pI w 93 7 (nI 2)) (TC_Sx (fr_pI rfl) t) R hp hE hc hb
    rw [if_neg q, Rd_readOperand_74_eq]
    simp only [s0, ↓reduceIte, r1, z, not_false_eq_true, decide_true, gS_pI]
    exact rsl_01 (rsl_y (fr_pI rfl) this)
theorem z_od_49 {T : Nat → Nat} {n : Nat} (tb : ∀ i, T i < 256) {h : ax_H} (w : ok h) (t : TC h T n) {st p c d : Nat} {W : List Nat} {E : Cd} (r : RC h st p c d W E) (hst : st ≤ 6) (hp : p ≤ n) (hE : E.length < 400) (hW : W.length < 64) (hd : d ≤ 100) (hc : c ≤ 60) (hb : sb T n p = p) : rsl h (Rd_readOperand_49 93 (nI p) h) (if st = 0 ∧ wD T n [110, 111, 116] p = true then (if d < 10 then .inr (0, p + 3, c, d + 1, 9 :: W, E) else .inl (1 + 8 * p + 2)) else vlP T n (if st = 3 then 4 else 2) p c d W E) := by
  have s0 := s_93 w
  have r1 := r.1.1
  have t1 := t.1
  by_cases q : st = 0
  · have z : nI st = 0 := by rw [q]; rfl
    obtain ⟨h1, a1, a2, a3⟩ := z_takeWord tb (x := 4) (by omega) w t r.1.2.1 (by omega)
    have e4 : fW T n (wsL 4) 0 p = if wD T n [110, 111, 116] p = true then some (0, p + 3) else none := fW_1 T n [110, 111, 116] p
    rw [e4] at a1 a3
    have w1 := ok_fr a2 w
    have t1' := TC_Sp a2 t
    have s1 := s_93 w1
    by_cases q2 : wD T n [110, 111, 116] p = true
    · rw [if_pos q2] at a1 a3
      rw [if_pos ⟨q, q2⟩, Rd_readOperand_49_eq]
      simp only [s0, ↓reduceIte, r1, z, not_true_eq_false, decide_false, Bool.false_eq_true]
      rw [bnd a1]
      have R := RC_Sp r a2 a3
      rw [q] at R
      simp only [show ¬ twR (some (0, p + 3)) = -1 from nI_neg1 (by omega), decide_false, Bool.false_eq_true, ↓reduceIte, s1]
      exact rsl_y (Sp_y a2) (rsl_01 (z_deep w1 R hW hd p 9 rfl))
    · rw [if_neg q2] at a1 a3
      rw [if_neg (fun z => q2 z.2), Rd_readOperand_49_eq]
      simp only [s0, ↓reduceIte, r1, z, not_true_eq_false, decide_false, Bool.false_eq_true]
      rw [bnd a1]
      simp only [show twR none = -1 from rfl, decide_true, ↓reduceIte]
      exact rsl_y (Sp_y a2) (z_od_74 tb w1 t1' (RC_Sp r a2 a3) hst hp hE hc hb)
  · have z : ¬ nI st = 0 := by rw [show (0 : Int32) = nI 0 from rfl, nJ_eq (by omega) (by omega)]; exact q
    rw [if_neg (fun y => q y.1), Rd_readOperand_49_eq]
    simp only [s0, ↓reduceIte, r1, z, not_false_eq_true, decide_true]
    exact z_od_74 tb w t r hst hp hE hc hb
theorem z_operand {T : Nat → Nat} {n : Nat} (tb : ∀ i, T i < 256) {h : ax_H} (w : ok h) (t : TC h T n) {st p c d : Nat} {W : List Nat} {E : Cd} (r : RC h st p c d W E) (hst : st ≤ 6) (hp : p ≤ n) (hE : E.length < 400) (hW : W.length < 64) (hd : d ≤ 100) (hc : c ≤ 60) : rsl h (Rd_readOperand 93 h) (opD T n st p c d W E) := by
  have s0 := s_93 w
  have t1 := t.1
  obtain ⟨h1, a1, a2, a3⟩ := z_next tb w t r.1.2.1 (by omega)
  have w1 := ok_fr a2 w
  have t1' := TC_Sp a2 t
  have R := RC_Sp r a2 a3
  have s1 := s_93 w1
  have hq : sb T n p ≤ n := sb_le hp
  have hbb : sb T n (sb T n p) = sb T n p := sb_sb T n p
  have r1 := R.1.1
  unfold opD
  generalize sb T n p = p1 at *
  have d49 := z_od_49 tb w1 t1' R hst hq hE hW hd hc hbb
  by_cases q91 : sgI T n p1 = 91
  · by_cases q : st = 0
    · have z : nI st = 0 := by rw [q]; rfl
      rw [if_pos ⟨q, q91⟩, Rd_readOperand_eq, if_pos s0, bnd a1]
      refine rsl_y (Sp_y a2) ?_
      have R2 := RC_p R (p1 + 1)
      rw [q] at R2
      have := z_deep (ok_pI w1 93 3 (nI (p1 + 1))) R2 hW hd p1 12 (op' := 12) rfl
      simp only [q91, not_true_eq_false, decide_false, Bool.false_eq_true, ↓reduceIte]
      rw [Rd_readOperand_14_eq]
      simp only [s1, ↓reduceIte, r1, z, not_true_eq_false, decide_false, Bool.false_eq_true, show ¬ (1 : Int32) = 0 by decide, a3, nJ_p1, gS_pI]
      exact rsl_01 (rsl_y (fr_pI rfl) this)
    · have z : ¬ nI st = 0 := by rw [show (0 : Int32) = nI 0 from rfl, nJ_eq (by omega) (by omega)]; exact q
      rw [if_neg (fun y => q y.1), Rd_readOperand_eq, if_pos s0, bnd a1]
      refine rsl_y (Sp_y a2) ?_
      simp only [q91, not_true_eq_false, decide_false, Bool.false_eq_true, ↓reduceIte]
      rw [Rd_readOperand_14_eq]
      simp only [s1, ↓reduceIte, r1, z, not_false_eq_true, decide_true, a3]
      exact d49
  · rw [if_neg (fun y => q91 y.2), Rd_readOperand_eq, if_pos s0, bnd a1]
    refine rsl_y (Sp_y a2) ?_
    simp only [q91, not_false_eq_true, decide_true, ↓reduceIte]
    rw [Rd_readOperand_14_eq]
    simp only [s1, ↓reduceIte, decide_true, a3, ite_self]
    exact d49
end
