/-! the reference's sum, whole; its bounds -/
def smP (T : Nat → Nat) (n p c : Nat) (E : Cd) : Sum Nat (Nat × Nat × Cd) := match vlE T n (sb T n p) c with
  | .inl f => .inl f
  | .inr x => smL T n n (sb T n x.1) (c + 1) ((x.2.1, x.2.2) :: E)
theorem smL_b {T : Nat → Nat} {n : Nat} : ∀ (m p c : Nat) (E : Cd), p ≤ n → c ≤ 60 → ∀ x, smL T n m p c E = .inr x → (p ≤ x.1 ∧ x.1 ≤ n) ∧ (c ≤ x.2.1 ∧ x.2.1 ≤ 60) ∧ x.2.2.length + 2 * (60 - x.2.1) ≤ E.length + 2 * (60 - c) ∧ x.2.2.length + (n - x.1) ≤ E.length + (n - p)
  | 0, p, c, E, hp, hc, x, q => by
    injection q with q
    rw [← q]
    exact ⟨⟨Nat.le_refl _, hp⟩, ⟨Nat.le_refl _, hc⟩, Nat.le_refl _, Nat.le_refl _⟩
  | m + 1, p, c, E, hp, hc, x, q => by
    rw [smL] at q
    by_cases z : sgI T n p = 43 ∨ sgI T n p = 45
    · rw [if_pos z] at q
      have hlt : p < n := by
        rcases z with z | z
        · exact sg_lt z (by decide)
        · exact sg_lt z (by decide)
      have hge1 := sb_ge T n (p + 1)
      cases hv : vlE T n (sb T n (p + 1)) c with
      | inl f => rw [hv] at q; cases q
      | inr y =>
        rw [hv] at q
        have by1 := vlE_b (sb_le (T := T) (show p + 1 ≤ n from hlt)) hv
        have hge2 := sb_ge T n y.1
        have := smL_b m (sb T n y.1) (c + 1) _ (sb_le by1.2.1) by1.2.2.1 x q
        rw [List.length_cons, List.length_cons] at this
        omega
    · rw [if_neg z] at q
      injection q with q
      rw [← q]
      exact ⟨⟨Nat.le_refl _, hp⟩, ⟨Nat.le_refl _, hc⟩, Nat.le_refl _, Nat.le_refl _⟩
theorem smP_b {T : Nat → Nat} {n p c : Nat} {E : Cd} (hp : p ≤ n) {x : Nat × Nat × Cd} (q : smP T n p c E = .inr x) : (p < x.1 ∧ x.1 ≤ n) ∧ (c + 1 ≤ x.2.1 ∧ x.2.1 ≤ 60) ∧ x.2.2.length + 2 * (60 - x.2.1) ≤ E.length + 2 * (60 - c) ∧ x.2.2.length + (n - x.1) ≤ E.length + (n - p) := by
  unfold smP at q
  have hge := sb_ge T n p
  cases hv : vlE T n (sb T n p) c with
  | inl f => rw [hv] at q; cases q
  | inr y =>
    rw [hv] at q
    have by1 := vlE_b (sb_le (T := T) hp) hv
    have hge2 := sb_ge T n y.1
    have := smL_b n (sb T n y.1) (c + 1) _ (sb_le by1.2.1) by1.2.2.1 x q
    rw [List.length_cons] at this
    omega
section
theorem zm_sumG {T : Nat → Nat} {n : Nat} (hn : n ≤ 400) (tb : ∀ i, T i < 256) {h : ax_H} (v : ok h) (t : TM h T n) {w p c d : Nat} {o : List Nat} {E : Cd} (r : RM h w p c d o E) (hp : p ≤ n) (hc : c ≤ 60) (hw : w < 10) (hE : E.length + 2 * (60 - c) ≤ 289 ∨ E.length + (n - p) ≤ 289) : rsm h w d o (M_sum 159 h) (smP T n p c E) := by
  have val := zm_valueG hn tb v t r hp hc hw (by omega) 0
  rw [vl_eq] at val
  have hle : sb T n p ≤ n := sb_le hp
  unfold smP
  cases hx : vlE T n (sb T n p) c with
  | inl f =>
    rw [hx] at val
    obtain ⟨h1, a1, a2, a3⟩ := val
    have v1 := ok_fr a2 v
    obtain ⟨h2, b1, b2, b3⟩ := zm_blF hn tb v1 (TM_w a2 t) a3 (by omega)
    refine ⟨h2, ?_, fr_tr a2 b2, b3⟩
    rw [M_sum_eq, if_pos (m_159 v), bnd a1, if_pos (m_159 v1), bnd b1]
    exact zm_s8F hn tb (ok_fr b2 v1) b3
  | inr x =>
    rw [hx] at val
    obtain ⟨h1, a1, a2, a3⟩ := val
    have v1 := ok_fr a2 v
    have t1 := TM_w a2 t
    have bx := vlE_b hle hx
    have a3' : RM h1 w x.1 (c + 1) d o ((x.2.1, x.2.2) :: E) := a3
    obtain ⟨h2, b1, b2, b3⟩ := zm_blanks hn tb v1 t1 a3'.1.2.2.1 (by omega)
    have s8 := zm_sum_8 hn tb hw n (sb T n x.1) (c + 1) ((x.2.1, x.2.2) :: E) h2 (ok_fr b2 v1) (TM_8 b2 t1) (RM_8 a3' b2 b3) (by omega) (sb_le bx.2.1) bx.2.2.1 (by rw [List.length_cons]; have := sb_ge T n p; have := sb_ge T n x.1; have := bx.1; omega)
    have e : M_sum 159 h = M_sum_8 159 h2 := by rw [M_sum_eq, if_pos (m_159 v), bnd a1, if_pos (m_159 v1), bnd b1]
    rw [e]
    exact rsm_x (fr_tr a2 (Sq_w b2)) s8
end
