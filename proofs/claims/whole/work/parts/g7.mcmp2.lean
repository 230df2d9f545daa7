/-! the reference's comparison -/
def opI (v1 v2 : Int32) : Int32 := if v1 = 61 then 6 else if v1 = 60 then (if v2 = 0 then 4 else 5) else (if v2 = 0 then 8 else 7)
theorem zm_c90 {h : ax_H} (v : ok h) (k0 k1 v1 v2 : Int32) : M_compared_90 k0 k1 159 159 v1 v2 h = (M_sum 159 (pI h 159 18 (k1 + k0))).bind (fun h2 => if (gS h2 159).1 = 11 then (M_entry 159 (opI v1 v2) 0 h2).bind (fun h3 => some h3) else none) := by
  rw [M_compared_90_eq]
  simp only [m_159 v, ↓reduceIte, gS_pI]
  congr 1
  funext h2
  unfold opI
  by_cases q1 : v1 = 61
  · simp only [q1, not_true_eq_false, decide_false, Bool.false_eq_true, ↓reduceIte]
  · by_cases q2 : v1 = 60
    · by_cases q3 : v2 = 0
      · simp only [q2, q3, show ¬ (60 : Int32) = 61 by decide, not_true_eq_false, not_false_eq_true, decide_true, decide_false, Bool.false_eq_true, ↓reduceIte]
      · simp only [q2, q3, show ¬ (60 : Int32) = 61 by decide, not_true_eq_false, not_false_eq_true, decide_true, decide_false, Bool.false_eq_true, ↓reduceIte]
    · by_cases q3 : v2 = 0
      · simp only [q1, q2, q3, not_false_eq_true, decide_true, ↓reduceIte]
      · simp only [q1, q2, q3, not_false_eq_true, decide_true, decide_false, Bool.false_eq_true, ↓reduceIte]
section
theorem zm_c90F {T : Nat → Nat} {n : Nat} (hn : n ≤ 400) (tb : ∀ i, T i < 256) {h : ax_H} (v : ok h) (t : TM h T n) {u f q p : Nat} (r : RF h u f q) (hp : gI h 159 18 = nI p) (hpq : p + 1 ≤ q) (hq : 400 ≤ q ∧ q ≤ 900) {k0 : Int32} (hk : k0 = 0 ∨ k0 = 1) (v1 v2 : Int32) : ∃ h', M_compared_90 k0 (gI h 159 18) 159 159 v1 v2 h = some h' ∧ fr (Sv u) h h' ∧ RF h' u f q := by
  have e1 : ∃ p', gI h 159 18 + k0 = nI p' ∧ p' ≤ q := by
    rw [hp]
    rcases hk with z | z
    · exact ⟨p, by rw [z, show (0 : Int32) = nI 0 from rfl, nI_add, Nat.add_zero], by omega⟩
    · exact ⟨p + 1, by rw [z, nJ_p1], hpq⟩
  obtain ⟨p', e2, e3⟩ := e1
  have R1 : RF (pI h 159 18 (nI p')) u f q := RF_8 r (fr_pI rfl) (by rw [gI_pI, if_pos ⟨rfl, rfl⟩]) e3
  have f1 : fr (Sv u) h (pI h 159 18 (nI p')) := fr_pI (Sv_t (by omega))
  obtain ⟨h2, a1, a2, a3⟩ := zm_sumF hn tb (ok_pI v 159 18 (nI p')) (TM_w f1 t) R1 hq
  have v2' := ok_fr a2 (ok_pI v 159 18 (nI p'))
  refine ⟨h2, ?_, fr_tr f1 a2, a3⟩
  rw [zm_c90 v, e2, bnd a1, if_pos (m_159 v2'), bnd (zm_entryF v2' a3 _ 0)]
theorem zm_c37F {T : Nat → Nat} {n : Nat} (hn : n ≤ 400) (tb : ∀ i, T i < 256) {h : ax_H} (v : ok h) (t : TM h T n) {u f q : Nat} (r : RF h u f q) (hq : 400 ≤ q ∧ q ≤ 890) (v1 : Int32) : ∃ h', M_compared_37 159 v1 h = some h' ∧ fr (Sv u) h h' ∧ RF h' u f (q + 2) := by
  obtain ⟨h1, a1, a2, a3⟩ := zm_countF v r (gI h 159 18)
  have v1' := ok_fr a2 v
  have t1 := TM_w a2 t
  obtain ⟨x1, x2, x3, p, g18, hp⟩ := a3
  have R2 : RF (pI h1 159 18 (nI (p + 1))) u f (q + 2) := ⟨by rw [gI_pI, if_neg (by omega)]; exact x1, x2, by rw [gI_pI, if_neg (by omega)]; exact x3, p + 1, by rw [gI_pI, if_pos ⟨rfl, rfl⟩], by omega⟩
  have f2 : fr (Sv u) h1 (pI h1 159 18 (nI (p + 1))) := fr_pI (Sv_t (by omega))
  have w2 : ok (pI h1 159 18 (nI (p + 1))) := ok_pI v1' _ _ _
  have t2 := TM_w f2 t1
  have g2 : gI (pI h1 159 18 (nI (p + 1))) 159 18 = nI (p + 1) := by rw [gI_pI, if_pos ⟨rfl, rfl⟩]
  have fin : ∀ k0 v2, (k0 = 0 ∨ k0 = 1) → ∃ h', M_compared_90 k0 (gI (pI h1 159 18 (nI (p + 1))) 159 18) 159 159 v1 v2 (pI h1 159 18 (nI (p + 1))) = some h' ∧ fr (Sv u) h h' ∧ RF h' u f (q + 2) := fun k0 v2 hk => by
    obtain ⟨h', y1, y2, y3⟩ := zm_c90F hn tb w2 t2 R2 g2 (by omega) (by omega) hk v1 v2
    exact ⟨h', y1, fr_tr a2 (fr_tr f2 y2), y3⟩
  have sg := zm_sign hn tb w2 t2 g2 (by omega)
  rw [M_compared_37_eq]
  simp only [m_159 v, ↓reduceIte]
  rw [bnd a1]
  simp only [m_159 v1', ↓reduceIte, g18, nJ_p1]
  by_cases q61 : v1 = 61
  · simp only [q61, decide_true, ↓reduceIte, m_159 w2]
    have := fin 0 0 (Or.inl rfl)
    rw [q61] at this
    exact this
  · simp only [q61, decide_false, Bool.false_eq_true, ↓reduceIte, m_159 w2]
    rw [bnd sg]
    by_cases z : sgI T n (p + 1) = 61
    · simp only [z, not_true_eq_false, decide_false, Bool.false_eq_true, ↓reduceIte, m_159 w2]
      exact fin 1 1 (Or.inr rfl)
    · simp only [z, not_false_eq_true, decide_true, ↓reduceIte, m_159 w2]
      exact fin 0 0 (Or.inl rfl)
/-- after a sum that failed -/
theorem zm_cmpF2 {T : Nat → Nat} {n : Nat} (hn : n ≤ 400) (tb : ∀ i, T i < 256) {h : ax_H} (v : ok h) (t : TM h T n) {u f q : Nat} (r : RF h u f q) (hq : 400 ≤ q ∧ q ≤ 890) : ∃ h', (M_sign 159 h).bind (fun r2 => if decide (r2.1 = 60) = true then (M_compared_37 159 r2.1 r2.2) else (if decide (r2.1 = 61) = true then (M_compared_37 159 r2.1 r2.2) else (if decide (r2.1 = 62) = true then (M_compared_37 159 r2.1 r2.2) else (if (gS r2.2 159).1 = 11 then if (gS r2.2 159).1 = 11 then (M_fails 159 0 (gI r2.2 159 18) r2.2).bind (fun h3 => some h3) else none else none)))) = some h' ∧ fr (Sv u) h h' ∧ RF h' u f (q + 2) := by
  have r0 := r
  obtain ⟨x1, x2, x3, p, g18, hp⟩ := r
  have sg := zm_sign hn tb v t g18 (by omega)
  obtain ⟨h1, a1, a2, a3⟩ := zm_c37F hn tb v t r0 hq (sgI T n p)
  rw [bnd sg]
  by_cases q1 : sgI T n p = 60
  · refine ⟨h1, ?_, a2, a3⟩
    rw [if_pos (decide_eq_true q1)]; exact a1
  by_cases q2 : sgI T n p = 61
  · refine ⟨h1, ?_, a2, a3⟩
    rw [if_neg (by rw [decide_eq_true_eq]; exact q1), if_pos (decide_eq_true q2)]; exact a1
  by_cases q3 : sgI T n p = 62
  · refine ⟨h1, ?_, a2, a3⟩
    rw [if_neg (by rw [decide_eq_true_eq]; exact q1), if_neg (by rw [decide_eq_true_eq]; exact q2), if_pos (decide_eq_true q3)]; exact a1
  obtain ⟨h2, b1, b2, b3⟩ := zm_failsF v r0 0 (gI h 159 18)
  refine ⟨h2, ?_, b2, RF_mono (by omega) b3⟩
  rw [if_neg (by rw [decide_eq_true_eq]; exact q1), if_neg (by rw [decide_eq_true_eq]; exact q2), if_neg (by rw [decide_eq_true_eq]; exact q3)]
  simp only [m_159 v, ↓reduceIte]
  rw [bnd b1]
end
