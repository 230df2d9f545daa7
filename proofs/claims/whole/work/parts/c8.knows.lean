/-! making a book: the row of knowledge -/
theorem z_bi_120 {v r : Nat} (hv : ¬ v = r) : ∀ (m j : Nat) (h : ax_H), j + m = 8 → (gS h v).1 = 1 → gR h v 15 = r → gS h r = (16, 8) → ∃ h', Bk_init_120 v (nI j) h = some h' ∧ sam h h' ∧ gR h' = gR h ∧ ∀ a k, gI h' a k = if a = r ∧ j ≤ k ∧ k < 8 then 10000 else gI h a k := by
  intro m
  induction m with
  | zero =>
    intro j h hj s1 r1 s2
    have : j = 8 := by omega
    subst this
    refine ⟨h, ?_, sam_rf _, rfl, fun a k => by rw [if_neg (by omega)]⟩
    rw [Bk_init_120_eq, if_pos (by decide)]
  | succ m ih =>
    intro j h hj s1 r1 s2
    have hle : ¬ (8 : Int32) ≤ nI j := by rw [show (8 : Int32) = nI 8 from rfl, nJ_le (by omega) (by omega)]; omega
    have tj : (nI j).toNatClampNeg = j := nJ_n (by omega)
    have nj : ¬ nI j < 0 := nJ_nn (by omega)
    have hj8 : j < 8 := by omega
    obtain ⟨h', x1, x2, x3, x4⟩ := ih (j + 1) (pI h r j 10000) (by omega) s1 r1 s2
    refine ⟨h', ?_, sam_tr (sam_pI _ _ _ _) x2, x3, fun a k => ?_⟩
    · rw [← x1, Bk_init_120_eq, if_neg (by rw [decide_eq_true_eq]; exact hle)]
      simp only [s1, r1, s2, ax_in, tj, nj, hj8, not_false_eq_true, and_self, ↓reduceIte, nJ_p1]
    · rw [x4, gI_pI]
      by_cases y : a = r ∧ j + 1 ≤ k ∧ k < 8
      · rw [if_pos y, if_pos (by omega)]
      · rw [if_neg y]
        by_cases z : a = r ∧ k = j
        · rw [if_pos z, if_pos (by omega)]
        · rw [if_neg z, if_neg (by omega)]
