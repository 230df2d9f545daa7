/-! the reference's comparison, no fault yet -/
def cpP (T : Nat → Nat) (n p c : Nat) (E : Cd) : Sum Nat (Nat × Nat × Cd) := match smP T n p c E with
  | .inl f => .inl f
  | .inr x => if sgI T n x.1 = 60 ∨ sgI T n x.1 = 61 ∨ sgI T n x.1 = 62 then (if x.2.1 + 1 ≤ 60 then (match smP T n (if wdB T n x.1 = true then x.1 + 2 else x.1 + 1) (x.2.1 + 1) x.2.2 with
      | .inl f => .inl f
      | .inr y => .inr (y.1, y.2.1, (cmN T n x.1, 0) :: y.2.2)) else .inl (1 + 8 * x.1 + 3)) else .inl (1 + 8 * x.1 + 0)
def rsc (h : ax_H) (w d : Nat) (o : List Nat) (P : Option ax_H) : Sum Nat (Nat × Nat × Cd) → Prop
  | .inl f => ∃ h', P = some h' ∧ fr (Sv w) h h' ∧ RF h' w f 500
  | .inr x => ∃ h', P = some h' ∧ fr (Sv w) h h' ∧ RM h' w x.1 x.2.1 d o x.2.2
theorem op_cm {T : Nat → Nat} {n p : Nat} {v2 : Int32} (h : v2 = 0 ↔ ¬ wdB T n p = true) : opI (sgI T n p) v2 = nI (cmN T n p) := by
  unfold opI cmN
  by_cases q1 : sgI T n p = 61
  · rw [if_pos q1, if_pos q1]; rfl
  · rw [if_neg q1, if_neg q1]
    by_cases q2 : sgI T n p = 60
    · rw [if_pos q2, if_pos q2]
      by_cases q3 : wdB T n p = true
      · rw [if_neg (fun z => h.mp z q3), if_pos q3]; rfl
      · rw [if_pos (h.mpr q3), if_neg q3]; rfl
    · rw [if_neg q2, if_neg q2]
      by_cases q3 : wdB T n p = true
      · rw [if_neg (fun z => h.mp z q3), if_pos q3]; rfl
      · rw [if_pos (h.mpr q3), if_neg q3]; rfl
section
theorem zm_c37R {T : Nat → Nat} {n : Nat} (hn : n ≤ 400) (tb : ∀ i, T i < 256) {h h1 : ax_H} (v : ok h) (t : TM h T n) {u f q : Nat} (a1 : M_isCounted 159 (gI h 159 18) h = some h1) (a2 : fr (Sv u) h h1) (a3 : RF h1 u f q) (hq : 400 ≤ q ∧ q ≤ 890) (v1 : Int32) : ∃ h', M_compared_37 159 v1 h = some h' ∧ fr (Sv u) h h' ∧ RF h' u f (q + 2) := by
  have v1' := ok_fr a2 v
  have t1 := TM_w a2 t
  obtain ⟨x1, x2, x3, p, g18, hp⟩ := a3
  have R2 : RF (pI h1 159 18 (nI (p + 1))) u f (q + 2) := ⟨by rw [gI_pI, if_neg (by omega)]; exact x1, x2, by rw [gI_pI, if_neg (by omega)]; exact x3, p + 1, by rw [gI_pI, if_pos ⟨rfl, rfl⟩], by omega⟩
  have f2 : fr (Sv u) h1 (pI h1 159 18 (nI (p + 1))) := fr_pI (Sv_t (by omega))
  have w2 : ok (pI h1 159 18 (nI (p + 1))) := ok_pI v1' _ _ _
  have t2 := TM_w f2 t1
  have g2 : gI (pI h1 159 18 (nI (p + 1))) 159 18 = nI (p + 1) := by rw [gI_pI, if_pos ⟨rfl, rfl⟩]
  have fin : ∀ k0 v2, (k0 = 0 ∨ k0 = 1) → ∃ h', M_compared_90 k0 (gI (pI h1 159 18 (nI (p + 1))) 159 18) 159 159 v1 v2 (pI h1 159 18 (nI (p + 1))) = some h' ∧ fr (Sv u) h h' ∧ RF h' u f (q + 2) := fun k0 v2 hk => by
    obtain ⟨h', y1, y2, y3⟩ := zm_c90F hn tb w2 t2 R2 g2 (by omega) (by omega) hk v1 v2
    exact ⟨h', y1, fr_tr a2 (fr_tr f2 y2), y3⟩
  have sg := zm_sign hn tb w2 t2 g2 (by omega)
  rw [M_compared_37_eq]
  simp only [m_159 v, ↓reduceIte]
  rw [bnd a1]
  simp only [m_159 v1', ↓reduceIte, g18, nJ_p1]
  by_cases q61 : v1 = 61
  · simp only [q61, decide_true, ↓reduceIte, m_159 w2]
    have := fin 0 0 (Or.inl rfl)
    rw [q61] at this
    exact this
  · simp only [q61, decide_false, Bool.false_eq_true, ↓reduceIte, m_159 w2]
    rw [bnd sg]
    by_cases z : sgI T n (p + 1) = 61
    · simp only [z, not_true_eq_false, decide_false, Bool.false_eq_true, ↓reduceIte, m_159 w2]
      exact fin 1 1 (Or.inr rfl)
    · simp only [z, not_false_eq_true, decide_true, ↓reduceIte, m_159 w2]
      exact fin 0 0 (Or.inl rfl)
theorem zm_c90G {T : Nat → Nat} {n : Nat} (hn : n ≤ 400) (tb : ∀ i, T i < 256) {h : ax_H} (v : ok h) (t : TM h T n) {w p c d : Nat} {o : List Nat} {E : Cd} (r : RM h w p c d o E) (hc : c ≤ 60) (hw : w < 10) {k0 : Int32} {p2 : Nat} (hE : E.length + 2 * (60 - c) ≤ 280 ∨ E.length + (n - p2) ≤ 280) (hk : nI p + k0 = nI p2) (h2n : p2 ≤ n) {v1 v2 : Int32} {k : Nat} (ho : opI v1 v2 = nI k) : rsc h w d o (M_compared_90 k0 (gI h 159 18) 159 159 v1 v2 h) (match smP T n p2 c E with
    | .inl f => .inl f
    | .inr y => .inr (y.1, y.2.1, (k, 0) :: y.2.2)) := by
  have g18 := r.1.2.2.1
  have f1 : fr (Sv w) h (pI h 159 18 (nI p2)) := fr_pI (Sv_t (by omega))
  have R1 : RM (pI h 159 18 (nI p2)) w p2 c d o E := RM_8 r (fr_pI rfl) (by rw [gI_pI, if_pos ⟨rfl, rfl⟩])
  have v1' : ok (pI h 159 18 (nI p2)) := ok_pI v _ _ _
  have sm := zm_sumG hn tb v1' (TM_w f1 t) R1 h2n hc hw (by omega)
  rw [zm_c90 v, g18, hk, ho]
  cases hx : smP T n p2 c E with
  | inl f =>
    rw [hx] at sm
    obtain ⟨h2, a1, a2, a3⟩ := sm
    have v2' := ok_fr a2 v1'
    refine ⟨h2, ?_, fr_tr f1 a2, RF_mono (by omega) a3⟩
    rw [bnd a1, if_pos (m_159 v2'), bnd (zm_entryF v2' a3 _ 0)]
  | inr y =>
    rw [hx] at sm
    obtain ⟨h2, a1, a2, a3⟩ := sm
    have v2' := ok_fr a2 v1'
    have b := smP_b h2n hx
    obtain ⟨h3, b1, b2, b3⟩ := zm_entryG v2' a3 hw (by omega) k 0 (k' := nI k) (x' := 0) rfl rfl
    refine ⟨h3, ?_, fr_tr f1 (fr_tr a2 b2), b3⟩
    rw [bnd a1, if_pos (m_159 v2'), bnd b1]
end
