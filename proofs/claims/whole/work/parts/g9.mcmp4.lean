/-! the reference's comparison, whole -/
theorem rsc_x {h h1 : ax_H} {w d : Nat} {o : List Nat} {P : Option ax_H} {x : Sum Nat (Nat × Nat × Cd)} (q : fr (Sv w) h h1) (p : rsc h1 w d o P x) : rsc h w d o P x := by
  cases x with
  | inl f =>
    obtain ⟨h', a, b, c⟩ := p
    exact ⟨h', a, fr_tr q b, c⟩
  | inr s =>
    obtain ⟨h', a, b, c⟩ := p
    exact ⟨h', a, fr_tr q b, c⟩
section
theorem zm_c37G {T : Nat → Nat} {n : Nat} (hn : n ≤ 400) (tb : ∀ i, T i < 256) {h : ax_H} (v : ok h) (t : TM h T n) {w p c d : Nat} {o : List Nat} {E : Cd} (r : RM h w p c d o E) (hp : p < n) (hc : c ≤ 60) (hw : w < 10) (hE : E.length + 2 * (60 - c) ≤ 280 ∨ E.length + (n - p) ≤ 280) : rsc h w d o (M_compared_37 159 (sgI T n p) h) (if c + 1 ≤ 60 then (match smP T n (if wdB T n p = true then p + 2 else p + 1) (c + 1) E with
      | .inl f => .inl f
      | .inr y => .inr (y.1, y.2.1, (cmN T n p, 0) :: y.2.2)) else .inl (1 + 8 * p + 3)) := by
  have g18 := r.1.2.2.1
  obtain ⟨k1, k2⟩ := zm_countG v r hc (b := p) (q := 400) (by omega) (by omega)
  by_cases q : c + 1 ≤ 60
  · rw [if_pos q]
    obtain ⟨h1, a1, a2, a3⟩ := k1 q
    rw [← g18] at a1
    have v1 := ok_fr a2 v
    have R2 : RM (pI h1 159 18 (nI (p + 1))) w (p + 1) (c + 1) d o E := RM_8 a3 (fr_pI rfl) (by rw [gI_pI, if_pos ⟨rfl, rfl⟩])
    have v2 : ok (pI h1 159 18 (nI (p + 1))) := ok_pI v1 _ _ _
    have f2 : fr (Sv w) h (pI h1 159 18 (nI (p + 1))) := fr_tr a2 (fr_pI (Sv_t (by omega)))
    have t2 := TM_w f2 t
    have g1 : gI h1 159 18 = nI p := a3.1.2.2.1
    have sg := zm_sign hn tb v2 t2 R2.1.2.2.1 (by omega)
    have e0 : ∀ X, (if decide (sgI T n p = 61) = true then M_compared_90 0 (gI (pI h1 159 18 (nI (p + 1))) 159 18) 159 159 (sgI T n p) 0 (pI h1 159 18 (nI (p + 1))) else (M_sign 159 (pI h1 159 18 (nI (p + 1)))).bind (fun r3 => if decide (¬ r3.1 = 61) = true then (if (gS r3.2 159).1 = 11 then M_compared_90 0 (gI r3.2 159 18) 159 159 (sgI T n p) 0 r3.2 else none) else (if (gS r3.2 159).1 = 11 then M_compared_90 1 (gI r3.2 159 18) 159 159 (sgI T n p) 1 r3.2 else none))) = X → M_compared_37 159 (sgI T n p) h = X := fun X hX => by
      rw [← hX, M_compared_37_eq]
      simp only [m_159 v, ↓reduceIte]
      rw [bnd a1]
      simp only [m_159 v1, ↓reduceIte, g1, nJ_p1, m_159 v2]
    refine rsc_x f2 ?_
    have nar : ¬ wdB T n p = true → ∀ P, M_compared_90 0 (gI (pI h1 159 18 (nI (p + 1))) 159 18) 159 159 (sgI T n p) 0 (pI h1 159 18 (nI (p + 1))) = P → rsc (pI h1 159 18 (nI (p + 1))) w d o P (match smP T n (if wdB T n p = true then p + 2 else p + 1) (c + 1) E with
      | .inl f => .inl f
      | .inr y => .inr (y.1, y.2.1, (cmN T n p, 0) :: y.2.2)) := fun hw1 P hP => by
      rw [if_neg hw1, ← hP]
      exact zm_c90G hn tb v2 t2 R2 q hw (by omega) (k0 := 0) (p2 := p + 1) (by rw [show (0 : Int32) = nI 0 from rfl, nI_add, Nat.add_zero]) hp (op_cm ⟨fun _ => hw1, fun _ => rfl⟩)
    by_cases q61 : sgI T n p = 61
    · have hw1 : ¬ wdB T n p = true := fun z => (of_decide_eq_true z).1 q61
      refine nar hw1 _ ?_
      symm
      refine e0 _ ?_
      rw [if_pos (decide_eq_true q61)]
    · by_cases q2 : sgI T n (p + 1) = 61
      · have hw1 : wdB T n p = true := decide_eq_true ⟨q61, q2⟩
        have hlt := sg_lt q2 (by decide)
        have k := zm_c90G hn tb v2 t2 R2 q hw (by omega) (k0 := 1) (p2 := p + 2) (by rw [nJ_p1]) (by omega) (v1 := sgI T n p) (v2 := 1) (k := cmN T n p) (op_cm ⟨fun z => absurd z (by decide), fun z => absurd hw1 z⟩)
        rw [if_pos hw1]
        have e1 : M_compared_37 159 (sgI T n p) h = M_compared_90 1 (gI (pI h1 159 18 (nI (p + 1))) 159 18) 159 159 (sgI T n p) 1 (pI h1 159 18 (nI (p + 1))) := by
          refine e0 _ ?_
          rw [if_neg (by rw [decide_eq_true_eq]; exact q61), bnd sg]
          show (if decide (¬ sgI T n (p + 1) = 61) = true then _ else _) = _
          rw [if_neg (by rw [decide_eq_true_eq]; exact fun z => z q2), if_pos (m_159 v2)]
        rw [e1]
        exact k
      · have hw1 : ¬ wdB T n p = true := fun z => q2 (of_decide_eq_true z).2
        refine nar hw1 _ ?_
        symm
        refine e0 _ ?_
        rw [if_neg (by rw [decide_eq_true_eq]; exact q61), bnd sg]
        show (if decide (¬ sgI T n (p + 1) = 61) = true then _ else _) = _
        rw [if_pos (decide_eq_true q2), if_pos (m_159 v2)]
  · rw [if_neg q]
    obtain ⟨h1, a1, a2, a3⟩ := k2 q
    rw [← g18] at a1
    obtain ⟨h', b1, b2, b3⟩ := zm_c37R hn tb v t a1 a2 a3 (by omega) (sgI T n p)
    exact ⟨h', b1, b2, RF_mono (by omega) b3⟩
theorem zm_compared {T : Nat → Nat} {n : Nat} (hn : n ≤ 400) (tb : ∀ i, T i < 256) {h : ax_H} (v : ok h) (t : TM h T n) {w p c d : Nat} {o : List Nat} {E : Cd} (r : RM h w p c d o E) (hp : p ≤ n) (hc : c ≤ 60) (hw : w < 10) (hE : E.length + 2 * (60 - c) ≤ 280 ∨ E.length + (n - p) ≤ 280) : rsc h w d o (M_compared 159 h) (cpP T n p c E) := by
  have sm := zm_sumG hn tb v t r hp hc hw (by omega)
  have e0 : ∀ h1, M_sum 159 h = some h1 → ok h1 → ∀ X, (M_sign 159 h1).bind (fun r2 => if decide (r2.1 = 60) = true then (M_compared_37 159 r2.1 r2.2) else (if decide (r2.1 = 61) = true then (M_compared_37 159 r2.1 r2.2) else (if decide (r2.1 = 62) = true then (M_compared_37 159 r2.1 r2.2) else (if (gS r2.2 159).1 = 11 then if (gS r2.2 159).1 = 11 then (M_fails 159 0 (gI r2.2 159 18) r2.2).bind (fun h3 => some h3) else none else none)))) = X → M_compared 159 h = X := fun h1 a1 v1 X hX => by
    rw [← hX, M_compared_eq, if_pos (m_159 v), bnd a1, if_pos (m_159 v1)]
  unfold cpP
  cases hx : smP T n p c E with
  | inl f =>
    rw [hx] at sm
    obtain ⟨h1, a1, a2, a3⟩ := sm
    have v1 := ok_fr a2 v
    obtain ⟨h2, b1, b2, b3⟩ := zm_cmpF2 hn tb v1 (TM_w a2 t) a3 (by omega)
    exact ⟨h2, e0 h1 a1 v1 _ b1, fr_tr a2 b2, RF_mono (by omega) b3⟩
  | inr x =>
    rw [hx] at sm
    obtain ⟨h1, a1, a2, a3⟩ := sm
    have v1 := ok_fr a2 v
    have t1 := TM_w a2 t
    have b := smP_b hp hx
    have g18 := a3.1.2.2.1
    have sg := zm_sign hn tb v1 t1 g18 (by omega)
    show rsc h w d o _ (if sgI T n x.1 = 60 ∨ sgI T n x.1 = 61 ∨ sgI T n x.1 = 62 then _ else _)
    by_cases q : sgI T n x.1 = 60 ∨ sgI T n x.1 = 61 ∨ sgI T n x.1 = 62
    · rw [if_pos q]
      have hlt : x.1 < n := by
        rcases q with z | z | z
        · exact sg_lt z (by decide)
        · exact sg_lt z (by decide)
        · exact sg_lt z (by decide)
      have k := zm_c37G hn tb v1 t1 a3 hlt (by omega) hw (by omega)
      have e1 : M_compared 159 h = M_compared_37 159 (sgI T n x.1) h1 := by
        refine e0 h1 a1 v1 _ ?_
        rw [bnd sg]
        by_cases q1 : sgI T n x.1 = 60
        · rw [if_pos (decide_eq_true q1)]
        rw [if_neg (by rw [decide_eq_true_eq]; exact q1)]
        by_cases q2 : sgI T n x.1 = 61
        · rw [if_pos (decide_eq_true q2)]
        rw [if_neg (by rw [decide_eq_true_eq]; exact q2), if_pos (decide_eq_true ((q.resolve_left q1).resolve_left q2))]
      rw [e1]
      exact rsc_x a2 k
    · rw [if_neg q]
      refine ⟨pI h1 159 19 (nI (1 + 8 * x.1 + 0)), ?_, fr_tr a2 (fr_pI (Sv_t (by omega))), RF_of a3 (by omega) (by omega)⟩
      refine e0 h1 a1 v1 _ ?_
      rw [bnd sg]
      show (if decide (sgI T n x.1 = 60) = true then _ else (if decide (sgI T n x.1 = 61) = true then _ else (if decide (sgI T n x.1 = 62) = true then _ else _))) = _
      rw [if_neg (by rw [decide_eq_true_eq]; exact fun z => q (Or.inl z)), if_neg (by rw [decide_eq_true_eq]; exact fun z => q (Or.inr (Or.inl z))), if_neg (by rw [decide_eq_true_eq]; exact fun z => q (Or.inr (Or.inr z))), if_pos (m_159 v1), if_pos (m_159 v1), g18, bnd (zm_failsG v1 a3.1.1 x.1 0 (c' := 0) rfl)]
end
