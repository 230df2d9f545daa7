/-! the reference's carry: a row out to row 204, or in from it -/
section
theorem zm_co_2 {r N p : Nat} (hr : ¬ r = 204 ∧ ¬ r = 159) (hN : N ≤ 3000) (hp : p + N ≤ 32000) : ∀ (m j : Nat) (h : ax_H), j + m = N → ok h → gS h r = (16, N) → gI h 159 74 = 0 → gI h 159 73 = nI (p + j) → ∃ h', M_carry_2 159 r (nI j) h = some h' ∧ sam h h' ∧ gR h' = gR h ∧ ∀ a k, gI h' a k = if a = 204 ∧ p + j ≤ k ∧ k < p + N then gI h r (k - p) else if a = 159 ∧ k = 73 then nI (p + N) else gI h a k := by
  intro m
  induction m with
  | zero =>
    intro j h hj w s e74 e73
    have : j = N := by omega
    subst this
    have hle : nI j ≤ nI j := Int32.le_refl _
    refine ⟨h, ?_, sam_rf _, rfl, fun a k => ?_⟩
    · rw [M_carry_2_eq]
      simp only [s, ↓reduceIte, hle, decide_true]
    · rw [if_neg (by omega)]
      by_cases z : a = 159 ∧ k = 73
      · rw [if_pos z, z.1, z.2, e73]
      · rw [if_neg z]
  | succ m ih =>
    intro j h hj w s e74 e73
    have w0 := w
    obtain ⟨wS, wR, wG, wN⟩ := w
    have hle : ¬ nI N ≤ nI j := by rw [nJ_le (by omega) (by omega)]; omega
    have tj : (nI j).toNatClampNeg = j := nJ_n (by omega)
    have nj : ¬ nI j < 0 := nJ_nn (by omega)
    have hjN : j < N := by omega
    have tp : (nI (p + j)).toNatClampNeg = p + j := nJ_n (by omega)
    have np : ¬ nI (p + j) < 0 := nJ_nn (by omega)
    have hpj : p + j < 32000 := by omega
    have e3 : gI (pI h 204 (p + j) (gI h r j)) 159 73 = nI (p + j) := by rw [gI_pI, if_neg (by omega)]; exact e73
    obtain ⟨h', r1, r2, r3, r4⟩ := ih (j + 1) (pI (pI h 204 (p + j) (gI h r j)) 159 73 (nI (p + (j + 1)))) (by omega) (ok_pI (ok_pI w0 _ _ _) _ _ _) s (by rw [gI_pI, if_neg (by omega), gI_pI, if_neg (by omega)]; exact e74) (by rw [gI_pI, if_pos ⟨rfl, rfl⟩])
    refine ⟨h', ?_, sam_tr (sam_tr (sam_pI _ _ _ _) (sam_pI _ _ _ _)) r2, r3, fun a k => ?_⟩
    · rw [← r1, M_carry_2_eq]
      simp only [s, wS, wR, ↓reduceIte, hle, decide_false, Bool.false_eq_true, e74, e73, decide_true, ax_in, tj, nj, hjN, tp, np, hpj, not_false_eq_true, and_self, gS_pI, e3, nJ_p1]
      rfl
    · rw [r4]
      by_cases y : a = 204 ∧ p + (j + 1) ≤ k ∧ k < p + N
      · rw [if_pos y, if_pos (by omega), gI_pI, if_neg (by omega), gI_pI, if_neg (by omega)]
      · rw [if_neg y]
        by_cases z : a = 159 ∧ k = 73
        · rw [if_pos z, if_neg (by omega), if_pos z]
        · rw [if_neg z, if_neg z, gI_pI, if_neg z, gI_pI]
          by_cases x : a = 204 ∧ k = p + j
          · rw [if_pos x, if_pos (by omega), x.2, Nat.add_sub_cancel_left]
          · rw [if_neg x, if_neg (by omega)]
theorem zm_ci_2 {r N p : Nat} (hr : ¬ r = 204 ∧ ¬ r = 159) (hN : N ≤ 3000) (hp : p + N ≤ 32000) : ∀ (m j : Nat) (h : ax_H), j + m = N → ok h → gS h r = (16, N) → ¬ gI h 159 74 = 0 → gI h 159 73 = nI (p + j) → ∃ h', M_carry_2 159 r (nI j) h = some h' ∧ sam h h' ∧ gR h' = gR h ∧ ∀ a k, gI h' a k = if a = r ∧ j ≤ k ∧ k < N then gI h 204 (p + k) else if a = 159 ∧ k = 73 then nI (p + N) else gI h a k := by
  intro m
  induction m with
  | zero =>
    intro j h hj w s e74 e73
    have : j = N := by omega
    subst this
    have hle : nI j ≤ nI j := Int32.le_refl _
    refine ⟨h, ?_, sam_rf _, rfl, fun a k => ?_⟩
    · rw [M_carry_2_eq]
      simp only [s, ↓reduceIte, hle, decide_true]
    · rw [if_neg (by omega)]
      by_cases z : a = 159 ∧ k = 73
      · rw [if_pos z, z.1, z.2, e73]
      · rw [if_neg z]
  | succ m ih =>
    intro j h hj w s e74 e73
    have w0 := w
    obtain ⟨wS, wR, wG, wN⟩ := w
    have hle : ¬ nI N ≤ nI j := by rw [nJ_le (by omega) (by omega)]; omega
    have tj : (nI j).toNatClampNeg = j := nJ_n (by omega)
    have nj : ¬ nI j < 0 := nJ_nn (by omega)
    have hjN : j < N := by omega
    have tp : (nI (p + j)).toNatClampNeg = p + j := nJ_n (by omega)
    have np : ¬ nI (p + j) < 0 := nJ_nn (by omega)
    have hpj : p + j < 32000 := by omega
    have e3 : gI (pI h r j (gI h 204 (p + j))) 159 73 = nI (p + j) := by rw [gI_pI, if_neg (by omega)]; exact e73
    obtain ⟨h', r1, r2, r3, r4⟩ := ih (j + 1) (pI (pI h r j (gI h 204 (p + j))) 159 73 (nI (p + (j + 1)))) (by omega) (ok_pI (ok_pI w0 _ _ _) _ _ _) s (by rw [gI_pI, if_neg (by omega), gI_pI, if_neg (by omega)]; exact e74) (by rw [gI_pI, if_pos ⟨rfl, rfl⟩])
    refine ⟨h', ?_, sam_tr (sam_tr (sam_pI _ _ _ _) (sam_pI _ _ _ _)) r2, r3, fun a k => ?_⟩
    · rw [← r1, M_carry_2_eq]
      simp only [s, wS, wR, ↓reduceIte, hle, decide_false, Bool.false_eq_true, e74, e73, ax_in, tj, nj, hjN, tp, np, hpj, not_false_eq_true, and_self, gS_pI, e3, nJ_p1]
      rfl
    · rw [r4]
      by_cases y : a = r ∧ j + 1 ≤ k ∧ k < N
      · rw [if_pos y, if_pos (by omega), gI_pI, if_neg (by omega), gI_pI, if_neg (by omega)]
      · rw [if_neg y]
        by_cases z : a = 159 ∧ k = 73
        · rw [if_pos z, if_neg (by omega), if_pos z]
        · rw [if_neg z, if_neg z, gI_pI, if_neg z, gI_pI]
          by_cases x : a = r ∧ k = j
          · rw [if_pos x, if_pos (by omega), x.2]
          · rw [if_neg x, if_neg (by omega)]
end
