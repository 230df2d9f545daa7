/-! back: the reference -/
def inL : List (Nat × Nat) → Nat → Nat → Prop
  | [], _, _ => False
  | (r, N) :: l, a, j => (a = r ∧ j < N) ∨ inL l a j
theorem inV_in {H hg : ax_H} {a j : Nat} : ∀ (l : List (Nat × Nat)) (p : Nat), (∀ i, i < totL l → gI H 204 (p + i) = segV hg l i) → inL l a j → inV H l p a j = gI hg a j
  | [], _, _, q => q.elim
  | (r, N) :: l, p, s, q => by
    rw [inV]
    by_cases c : a = r ∧ j < N
    · rw [if_pos c, s j (by rw [totL]; omega), segV, if_pos c.2, c.1]
    · rw [if_neg c]
      refine inV_in l (p + N) (fun i hi => ?_) (q.resolve_left c)
      rw [Nat.add_assoc, s (N + i) (by rw [totL]; omega), segV, if_neg (by omega), Nat.add_sub_cancel_left]
theorem inV_out {H : ax_H} {a j : Nat} : ∀ (l : List (Nat × Nat)) (p : Nat), ¬ inL l a j → inV H l p a j = gI H a j
  | [], _, _ => rfl
  | (r, N) :: l, p, q => by
    rw [inV, if_neg (fun c => q (Or.inl c))]
    exact inV_out l (p + N) fun c => q (Or.inr c)
def bkH (h : ax_H) (k : Nat) : ax_H := pI (pI h 159 74 1) 159 73 (nI (8000 * k))
def bkF (h : ax_H) : ax_H := pI (pI (pI (pI (pI (pI (pI h 159 1 (gI h 205 0)) 159 2 (gI h 205 1)) 159 3 (gI h 205 2)) 159 4 (gI h 205 3)) 159 20 (gI h 205 4)) 159 59 (gI h 205 5)) 159 63 (gI h 205 6)
theorem bkF_I (h : ax_H) (a j : Nat) (q : ¬ a = 159) : gI (bkF h) a j = gI h a j := by
  unfold bkF
  rw [gI_pI, if_neg (by omega), gI_pI, if_neg (by omega), gI_pI, if_neg (by omega), gI_pI, if_neg (by omega), gI_pI, if_neg (by omega), gI_pI, if_neg (by omega), gI_pI, if_neg (by omega)]
theorem bkF_159 (h : ax_H) (j : Nat) : gI (bkF h) 159 j = if j = 63 then gI h 205 6 else if j = 59 then gI h 205 5 else if j = 20 then gI h 205 4 else if j = 4 then gI h 205 3 else if j = 3 then gI h 205 2 else if j = 2 then gI h 205 1 else if j = 1 then gI h 205 0 else gI h 159 j := by
  unfold bkF
  simp only [gI_pI, true_and]
theorem bkF_sam (h : ax_H) : sam h (bkF h) := sam_tr (sam_tr (sam_tr (sam_tr (sam_tr (sam_tr (sam_pI _ _ _ _) (sam_pI _ _ _ _)) (sam_pI _ _ _ _)) (sam_pI _ _ _ _)) (sam_pI _ _ _ _)) (sam_pI _ _ _ _)) (sam_pI _ _ _ _)
theorem bkF_R (h : ax_H) : gR (bkF h) = gR h := by
  unfold bkF
  simp only [gR_pIf]
theorem zm_back {h : ax_H} (w : ok h) {k : Nat} (hk : k < 4) (hm : gI h 206 k = 1) : ∃ h3, M_back 159 (nI k) h = some (gI h3 205 0, bkF h3) ∧ sam h h3 ∧ gR h3 = gR h ∧ ∀ a j, gI h3 a j = if a = 159 ∧ j = 73 then nI (8000 * k + 7320) else inV (bkH h k) crL (8000 * k) a j := by
  have wH : ok (bkH h k) := ok_pI (ok_pI w _ _ _) _ _ _
  have sH : sam h (bkH h k) := sam_tr (sam_pI _ _ _ _) (sam_pI _ _ _ _)
  have RH : gR (bkH h k) = gR h := by unfold bkH; simp only [gR_pIf]
  obtain ⟨h3, a1, a2, a3, a4⟩ := ci_all cfL crL (8000 * k) (bkH h k) wH (fld_ok wH) dis_ok (by rw [tot_ok]; omega) (by unfold bkH; rw [gI_pI, if_neg (by omega), gI_pI, if_pos ⟨rfl, rfl⟩]; decide) (by unfold bkH; rw [gI_pI, if_pos ⟨rfl, rfl⟩])
  rw [tot_ok] at a4
  refine ⟨h3, ?_, sam_tr sH a2, a3.trans RH, a4⟩
  have S3 : gS h3 = gS h := a2.2.2.1.trans sH.2.2.1
  have R3 : gR h3 = gR h := a3.trans RH
  have w0 := w
  obtain ⟨wS, wR, wG, wN⟩ := w
  have e1 : M_in (Int32.toInt64 (nI k)) 0 3 h = some (1, h) := by
    rw [zm_in, bI, if_pos]
    rw [Int32.toInt_toInt64, nJ_i (by omega)]
    exact ⟨by show (0 : Int) ≤ _; omega, by show _ ≤ (3 : Int); omega⟩
  have c1 : M_carries 159 (nI k) (pI h 159 74 1) = some h3 := by
    rw [carries_F, if_pos (by rw [gS_pI]; simp only [wS]), show (8000 : Int32) * nI k = nI (8000 * k) by rw [show (8000 : Int32) = nI 8000 from rfl, pk_mul]]
    exact a1
  have s159 : gS h3 159 = (11, 0) := by rw [S3]; simp only [wS]
  have s205 : gS h3 205 = (16, 8) := by rw [S3]; simp only [wS]
  have r71 : gR h3 159 71 = 205 := by rw [R3]; simp only [wR]
  rw [M_back_eq, bnd e1]
  simp only [wS, wR, ↓reduceIte, decide_eq_true_eq, show ¬ (1 : Int32) = 0 by decide, not_false_eq_true, ax_in, nJ_n (show k < 2147483648 by omega), nJ_nn (show k < 2147483648 by omega), hk, and_self, hm, gS_pI]
  rw [bnd c1]
  simp only [gS_pI, gR_pI, gI_pI, s159, s205, r71, ↓reduceIte, not_false_eq_true, ax_in, show ¬ (0 : Int32) < 0 by decide, show ¬ (1 : Int32) < 0 by decide, show ¬ (2 : Int32) < 0 by decide, show ¬ (3 : Int32) < 0 by decide, show ¬ (4 : Int32) < 0 by decide, show ¬ (5 : Int32) < 0 by decide, show ¬ (6 : Int32) < 0 by decide, show (0 : Int32).toNatClampNeg = 0 from rfl, show (1 : Int32).toNatClampNeg = 1 from rfl, show (2 : Int32).toNatClampNeg = 2 from rfl, show (3 : Int32).toNatClampNeg = 3 from rfl, show (4 : Int32).toNatClampNeg = 4 from rfl, show (5 : Int32).toNatClampNeg = 5 from rfl, show (6 : Int32).toNatClampNeg = 6 from rfl, Nat.reduceLT, Nat.reduceLeDiff, and_self, true_and, false_and, Nat.reduceEqDiff]
  rfl
