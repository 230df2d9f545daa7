/-! copies of books: the book -/
/-- h is h0, but that the book at d has what T says from the book at s -/
def CPy (h0 h : ax_H) (d s : Nat) (T : Nat → Nat → Bool) : Prop := ∀ a k, gI h a k = if d ≤ a ∧ a ≤ d + 26 ∧ T (a - d) k = true then gI h0 (s + (a - d)) k else gI h0 a k
def dsj (d s : Nat) : Prop := s + 27 ≤ d ∨ d + 27 ≤ s
theorem CPy_0 (h : ax_H) (d s : Nat) : CPy h h d s (fun _ _ => false) := fun a k => by rw [if_neg (fun z => by cases z.2.2)]
theorem CPy_s {h0 h : ax_H} {d s : Nat} {T : Nat → Nat → Bool} (q : dsj d s) (c : CPy h0 h d s T) {i : Nat} (hi : i < 27) (k : Nat) : gI h (s + i) k = gI h0 (s + i) k := by
  rw [c, if_neg]
  unfold dsj at q
  omega
theorem CPy_w {h0 h h' : ax_H} {d s : Nat} {T U : Nat → Nat → Bool} (q : dsj d s) (c : CPy h0 h d s T) {i : Nat} (hi : i < 27) (H : ∀ a k, gI h' a k = if a = d + i ∧ U i k = true then gI h (s + i) k else gI h a k) (hU : ∀ j k, ¬ j = i → U j k = false) : CPy h0 h' d s (fun j k => T j k || U j k) := by
  intro a k
  rw [H]
  by_cases z : a = d + i ∧ U i k = true
  · have e : a - d = i := by omega
    rw [if_pos z, if_pos ⟨by omega, by omega, by rw [e]; show (T i k || U i k) = true; rw [z.2, Bool.or_true]⟩, e, CPy_s q c hi]
  · rw [if_neg z, c]
    by_cases y : d ≤ a ∧ a ≤ d + 26 ∧ T (a - d) k = true
    · rw [if_pos y, if_pos ⟨y.1, y.2.1, by show (T (a - d) k || U (a - d) k) = true; rw [y.2.2, Bool.true_or]⟩]
    · rw [if_neg y, if_neg]
      intro x
      have x3 : (T (a - d) k || U (a - d) k) = true := x.2.2
      have hT : T (a - d) k = false := by
        cases hT : T (a - d) k with
        | false => rfl
        | true => exact absurd ⟨x.1, x.2.1, hT⟩ y
      rw [hT, Bool.false_or] at x3
      by_cases e : a - d = i
      · rw [e] at x3
        exact z ⟨by omega, x3⟩
      · rw [hU _ _ e] at x3
        cases x3
def Urow (i N : Nat) (j k : Nat) : Bool := decide (j = i ∧ k < N)
def Uone (i m : Nat) (j k : Nat) : Bool := decide (j = i ∧ k = m)
theorem CPy_r {h0 h : ax_H} {d s : Nat} {T : Nat → Nat → Bool} (q : dsj d s) (c : CPy h0 h d s T) {i : Nat} (hi : i < 27) (N : Nat) : CPy h0 (cp1 h (s + i) (d + i) N) d s (fun j k => T j k || Urow i N j k) := CPy_w q c hi (fun a k => by
  rw [gI_cp1]
  by_cases z : a = d + i ∧ k < N
  · rw [if_pos z, if_pos ⟨z.1, decide_eq_true ⟨rfl, z.2⟩⟩]
  · rw [if_neg z, if_neg fun y => z ⟨y.1, (of_decide_eq_true y.2).2⟩]) (fun j k z => decide_eq_false fun y => z y.1)
theorem CPy_o {h0 h : ax_H} {d s : Nat} {T : Nat → Nat → Bool} (q : dsj d s) (c : CPy h0 h d s T) {i : Nat} (hi : i < 27) (m : Nat) : CPy h0 (pI h (d + i) m (gI h (s + i) m)) d s (fun j k => T j k || Uone i m j k) := CPy_w q c hi (fun a k => by
  rw [gI_pI]
  by_cases z : a = d + i ∧ k = m
  · rw [if_pos z, if_pos ⟨z.1, decide_eq_true ⟨rfl, z.2⟩⟩, z.2]
  · rw [if_neg z, if_neg fun y => z ⟨y.1, (of_decide_eq_true y.2).2⟩]) (fun j k z => decide_eq_false fun y => z y.1)
theorem CPy_pR {h0 h : ax_H} {d s : Nat} {T : Nat → Nat → Bool} (c : CPy h0 h d s T) (a k v : Nat) : CPy h0 (pR h a k v) d s T := c
/-- the rest is as it was -/
def sam (h h' : ax_H) : Prop := gN h' = gN h ∧ gZ h' = gZ h ∧ gS h' = gS h ∧ gL h' = gL h
theorem sam_rf (h : ax_H) : sam h h := ⟨rfl, rfl, rfl, rfl⟩
theorem sam_tr {a b c : ax_H} (p : sam a b) (q : sam b c) : sam a c := ⟨q.1.trans p.1, q.2.1.trans p.2.1, q.2.2.1.trans p.2.2.1, q.2.2.2.trans p.2.2.2⟩
theorem sam_pI (h : ax_H) (a k : Nat) (v : Int32) : sam h (pI h a k v) := ⟨rfl, rfl, rfl, rfl⟩
theorem sam_cp (h : ax_H) (x y N : Nat) : sam h (cp1 h x y N) := ⟨rfl, rfl, rfl, rfl⟩
theorem gR_cp1 (h : ax_H) (x y N : Nat) : gR (cp1 h x y N) = gR h := rfl
theorem z_cf_51 {d s : Nat} (q : dsj d s) : ∀ (m j : Nat) (h : ax_H), j + m = 10 → bkP h d → bkP h s → (∀ i, i < 10 → gR h (s + 17) i = 0 ∨ (gS h (gR h (s + 17) i)).1 = 5) → ∃ h', Bk_copyFrom_51 d s (nI j) h = Bk_copyFrom_51 d s 10 h' ∧ sam h h' ∧ gI h' = gI h ∧ ∀ a i, gR h' a i = if a = d + 17 ∧ j ≤ i ∧ i < 10 then gR h (s + 17) i else gR h a i := by
  intro m
  induction m with
  | zero =>
    intro j h hj pd ps hw
    have : j = 10 := by omega
    subst this
    exact ⟨h, rfl, sam_rf _, rfl, fun a i => by rw [if_neg (by omega)]⟩
  | succ m ih =>
    intro j h hj pd ps hw
    have d0 : gS h d = (1, 0) := pd.1 0 _ rfl
    have s0 : gS h s = (1, 0) := ps.1 0 _ rfl
    have rd : gR h d 5 = d + 17 := pd.2 3 _ _ _ rfl
    have rs : gR h s 5 = s + 17 := ps.2 3 _ _ _ rfl
    have d17 : gS h (d + 17) = (20, 10) := pd.1 17 _ rfl
    have s17 : gS h (s + 17) = (20, 10) := ps.1 17 _ rfl
    have hle : ¬ (10 : Int32) ≤ nI j := by rw [show (10 : Int32) = nI 10 from rfl, nJ_le (by omega) (by omega)]; omega
    have tj : (nI j).toNatClampNeg = j := nJ_n (by omega)
    have nj : ¬ nI j < 0 := nJ_nn (by omega)
    have hj10 : j < 10 := by omega
    have hne : ¬ s + 17 = d + 17 := by unfold dsj at q; omega
    have bd : bkP (pR h (d + 17) j (gR h (s + 17) j)) d := bkP_eq (h := h) (fun _ _ _ => rfl) (fun a i z => by rw [gR_pR, if_neg (by omega)]) pd
    have bs : bkP (pR h (d + 17) j (gR h (s + 17) j)) s := bkP_eq (h := h) (fun _ _ _ => rfl) (fun a i z => by rw [gR_pR, if_neg (by unfold dsj at q; omega)]) ps
    obtain ⟨h', r1, r2, r3, r4⟩ := ih (j + 1) (pR h (d + 17) j (gR h (s + 17) j)) (by omega) bd bs (fun i hi => by
      rw [gR_pR, if_neg (fun z => hne z.1)]
      exact hw i hi)
    refine ⟨h', ?_, sam_tr ⟨rfl, rfl, rfl, rfl⟩ r2, r3, fun a i => ?_⟩
    · rw [← r1, Bk_copyFrom_51_eq, if_neg (by rw [decide_eq_true_eq]; exact hle)]
      simp only [d0, s0, rd, rs, d17, s17, ax_in, tj, nj, hj10, not_false_eq_true, and_self, ↓reduceIte, nJ_p1]
      rw [if_pos (hw j hj10)]
    · rw [r4, gR_pR, gR_pR, if_neg (show ¬ (s + 17 = d + 17 ∧ i = j) from fun z => hne z.1)]
      by_cases y : a = d + 17 ∧ j + 1 ≤ i ∧ i < 10
      · rw [if_pos y, if_pos (by omega)]
      · rw [if_neg y]
        by_cases x : a = d + 17 ∧ i = j
        · rw [if_pos x, if_pos (by omega), x.2]
        · rw [if_neg x, if_neg (by omega)]
