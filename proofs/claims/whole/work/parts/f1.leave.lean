/-! a test read, and the class's readLeave -/
def mapE (E0 : Cd) : Sum Nat Ms → Sum Nat Ms
  | .inl f => .inl f
  | .inr s => .inr (s.1, s.2.1, s.2.2.1, s.2.2.2.1, s.2.2.2.2.1, s.2.2.2.2.2 ++ E0)
theorem bd_app (op : Nat) (E0 : Cd) : ∀ (W : List Nat) (F : Cd) (d : Nat), bdW op W (F ++ E0) d = ((bdW op W F d).1, (bdW op W F d).2.1 ++ E0, (bdW op W F d).2.2)
  | [], F, d => rfl
  | x :: W, F, d => by
    rw [bdW, bdW]
    by_cases q : x ≤ op
    · rw [if_pos q, if_pos q, ← List.cons_append, bd_app op E0 W]
    · rw [if_neg q, if_neg q]
theorem vl_app (T : Nat → Nat) (n st p c d : Nat) (W : List Nat) (F E0 : Cd) : vlP T n st p c d W (F ++ E0) = mapE E0 (vlP T n st p c d W F) := by
  unfold vlP
  by_cases q : dB T n p = true
  · rw [if_pos q, if_pos q]
    cases rdN T n 99999 p with
    | inl f => rfl
    | inr r =>
      show (if c + 1 ≤ 60 then _ else _) = mapE E0 (if c + 1 ≤ 60 then _ else _)
      by_cases q2 : c + 1 ≤ 60
      · rw [if_pos q2, if_pos q2]; rfl
      · rw [if_neg q2, if_neg q2]; rfl
  · rw [if_neg q, if_neg q]
    cases fW T n (wsL 5) 0 p with
    | none => rfl
    | some r =>
      show (if c + 1 ≤ 60 then _ else _) = mapE E0 (if c + 1 ≤ 60 then _ else _)
      by_cases q2 : c + 1 ≤ 60
      · rw [if_pos q2, if_pos q2]; rfl
      · rw [if_neg q2, if_neg q2]; rfl
theorem if_app {α β : Type} (f : α → β) (c : Prop) [Decidable c] (a b : α) : f (if c then a else b) = if c then f a else f b := by split <;> rfl
theorem cl_app (T : Nat → Nat) (n p c : Nat) (b : List Nat × Cd × Nat) (E0 : Cd) : clP T n p c (b.1, b.2.1 ++ E0, b.2.2) = mapE E0 (clP T n p c b) := by
  obtain ⟨W, E, d⟩ := b
  unfold clP
  cases W with
  | nil => rfl
  | cons x W =>
    show (if sgI T n p = 93 then _ else _) = mapE E0 (if sgI T n p = 93 then _ else _)
    rw [if_app (mapE E0)]
    rfl
theorem tn_app (T : Nat → Nat) (n st p c d : Nat) (W : List Nat) (F E0 : Cd) : tnM T n st p c d W (F ++ E0) = mapE E0 (tnM T n st p c d W F) := by
  unfold tnM opD opR sgP
  simp only [bd_app, vl_app, cl_app, if_app (mapE E0)]
  rfl
def rnM (T : Nat → Nat) (n : Nat) : Nat → Ms → Sum Nat Ms
  | 0, s => .inr s
  | k + 1, s => if s.1 = 6 then .inr s else (match tnM T n s.1 s.2.1 s.2.2.1 s.2.2.2.1 s.2.2.2.2.1 s.2.2.2.2.2 with
    | .inl f => .inl f
    | .inr s' => rnM T n k s')
theorem rn_6 (T : Nat → Nat) (n k : Nat) {s : Ms} (h : s.1 = 6) : rnM T n k s = .inr s := by
  cases k with
  | zero => rfl
  | succ k => rw [rnM, if_pos h]
theorem rn_l {T : Nat → Nat} {n k : Nat} {s : Ms} (h : ¬ s.1 = 6) {f : Nat} (q : tnM T n s.1 s.2.1 s.2.2.1 s.2.2.2.1 s.2.2.2.2.1 s.2.2.2.2.2 = .inl f) : rnM T n (k + 1) s = .inl f := by rw [rnM, if_neg h, q]
theorem rn_r {T : Nat → Nat} {n k : Nat} {s s' : Ms} (h : ¬ s.1 = 6) (q : tnM T n s.1 s.2.1 s.2.2.1 s.2.2.2.1 s.2.2.2.2.1 s.2.2.2.2.2 = .inr s') : rnM T n (k + 1) s = rnM T n k s' := by rw [rnM, if_neg h, q]
/-- enough turns end it -/
theorem rn_ok {T : Nat → Nat} {n p0 c0 : Nat} : ∀ (k : Nat) (s : Ms), MIs n p0 c0 s → (s.1 = 6 ∨ n + 1 ≤ s.2.1 + k) → ∀ s', rnM T n k s = .inr s' → s'.1 = 6 ∧ MIs n p0 c0 s' ∧ s.2.1 ≤ s'.2.1 ∧ s.2.2.1 ≤ s'.2.2.1 + 100
  | 0, s, m, h, s', q => by
    injection q with q
    rw [← q]
    have : s.2.1 ≤ n := m.1
    exact ⟨by omega, m, Nat.le_refl _, by omega⟩
  | k + 1, s, m, h, s', q => by
    by_cases h6 : s.1 = 6
    · rw [rn_6 T n _ h6] at q
      injection q with q
      rw [← q]
      exact ⟨h6, m, Nat.le_refl _, by omega⟩
    · cases ht : tnM T n s.1 s.2.1 s.2.2.1 s.2.2.2.1 s.2.2.2.2.1 s.2.2.2.2.2 with
      | inl f => rw [rn_l h6 ht] at q; cases q
      | inr s1 =>
        rw [rn_r h6 ht] at q
        obtain ⟨a, b, c⟩ := tn_ok m h6 ht
        obtain ⟨x, y, z, -⟩ := rn_ok k s1 a (by
          by_cases z : s1.1 = 6
          · exact Or.inl z
          · have := c z
            right
            omega) s' q
        have hc : s.2.2.1 ≤ 60 := m.2.1
        exact ⟨x, y, by omega, by omega⟩
theorem MI_E0 {n p0 c0 st p c d : Nat} {W : List Nat} {F E0 : Cd} (hn : n ≤ 400) (hE : 2 * E0.length + 2 ≤ p0 + 2 * c0) (m : MI n p0 c0 st p c d W F) : rmM n p c d W (F ++ E0) ∧ (F ++ E0).length ≤ 260 := by
  obtain ⟨⟨a1, a2, a3, a4, a5, a6, a7⟩, b1, b2, b3, b4⟩ := MI_rm hn m
  obtain ⟨m1, m2, m3, m4, ⟨ts, m5, -⟩, m6, m7⟩ := m
  have := (shM_b m5).2.2.1
  refine ⟨⟨a1, a2, a3, a4, a5, a6, ?_⟩, ?_⟩
  · rw [List.length_append]; omega
  · rw [List.length_append]; omega
section
theorem z_rl_55 {T : Nat → Nat} {n : Nat} (tb : ∀ i, T i < 256) {p0 c0 : Nat} {E0 : Cd} (hE : 2 * E0.length + 2 ≤ p0 + 2 * c0) (v1 : Int32) : ∀ (k i : Nat) (s : Ms) (h : ax_H), i + k = 401 → ok h → TC h T n → RC h s.1 s.2.1 s.2.2.1 s.2.2.2.1 s.2.2.2.2.1 (s.2.2.2.2.2 ++ E0) → MIs n p0 c0 s → (∀ f, rnM T n k s = .inl f → ∃ h', Rd_readLeave_55 93 v1 (nI i) h = some (0, h') ∧ flt h h' f) ∧ ∀ s', rnM T n k s = .inr s' → ∃ h' j, j ≤ 401 ∧ Rd_readLeave_55 93 v1 (nI i) h = Rd_readLeave_55 93 v1 (nI j) h' ∧ fr Sy h h' ∧ RC h' s'.1 s'.2.1 s'.2.2.1 s'.2.2.2.1 s'.2.2.2.2.1 (s'.2.2.2.2.2 ++ E0)
  | 0, i, s, h, hi, w, t, r, m => ⟨fun f q => (by cases q), fun s' q => ⟨h, i, by omega, rfl, fr_rf _ _, (by injection q with q; rw [← q]; exact r)⟩⟩
  | k + 1, i, s, h, hi, w, t, r, m => by
    have hn := t.1
    have s0 := s_93 w
    by_cases h6 : s.1 = 6
    · rw [rn_6 T n _ h6]
      exact ⟨fun f q => (by cases q), fun s' q => ⟨h, i, by omega, rfl, fr_rf _ _, (by injection q with q; rw [← q]; exact r)⟩⟩
    · obtain ⟨rm, hE2⟩ := MI_E0 hn hE m
      have hst : s.1 ≤ 6 := (MI_rm hn m).2.1
      have hle : ¬ (400 : Int32) < nI i := fun z => by
        have := (nJ_lt (a := 400) (b := i) (by omega) (by omega)).mp z
        omega
      have g7 : gI h 93 7 = nI s.1 := r.1.1
      have ne : ∀ j, j < 7 → ∀ j' : Int32, j' = nI j → (nI s.1 = j' ↔ s.1 = j) := fun j hj j' e => by rw [e]; exact nJ_eq (by omega) (by omega)
      have n6 : ¬ nI s.1 = 6 := fun z => h6 ((ne 6 (by omega) 6 rfl).mp z)
      have turn : ∃ P : Option (Int32 × ax_H), rsl h P (tnM T n s.1 s.2.1 s.2.2.1 s.2.2.2.1 s.2.2.2.2.1 (s.2.2.2.2.2 ++ E0)) ∧ (∀ h', P = some (0, h') → Rd_readLeave_55 93 v1 (nI i) h = some (0, h')) ∧ (∀ h', P = some (1, h') → Rd_readLeave_55 93 v1 (nI i) h = Rd_readLeave_55 93 v1 (nI (i + 1)) h') := by
        have op1 : Rd_readLeave_55 93 v1 (nI i) h = Rd_readLeave_99 (if s.1 = 0 ∨ s.1 = 1 ∨ s.1 = 3 then 1 else 0) 93 v1 (nI i) h := by
          rw [Rd_readLeave_55_eq]
          simp only [hle, decide_false, Bool.false_eq_true, ↓reduceIte, s0, g7, n6, ne 0 (by omega) 0 rfl, ne 1 (by omega) 1 rfl, ne 3 (by omega) 3 rfl]
          by_cases q0 : s.1 = 0
          · simp only [q0, decide_true, ↓reduceIte, true_or]
          · by_cases q1 : s.1 = 1
            · simp only [q1, decide_true, ↓reduceIte, true_or, or_true, show ¬ (1 : Nat) = 0 by decide, decide_false, Bool.false_eq_true]
            · by_cases q3 : s.1 = 3
              · simp only [q3, decide_true, ↓reduceIte, or_true, show ¬ (3 : Nat) = 0 by decide, show ¬ (3 : Nat) = 1 by decide, decide_false, Bool.false_eq_true, not_true_eq_false]
              · simp only [q0, q1, q3, decide_false, Bool.false_eq_true, ↓reduceIte, or_false, not_false_eq_true, decide_true]
        unfold tnM
        by_cases q : s.1 = 0 ∨ s.1 = 1 ∨ s.1 = 3
        · rw [if_pos q] at op1 ⊢
          have z := z_operand tb w t r hst rm.1 (by omega) (by have := rm.2.2.2.2.2.1; omega) rm.2.2.1 rm.2.1
          refine ⟨_, z, fun h' e => ?_, fun h' e => ?_⟩
          · rw [op1, Rd_readLeave_99_eq, if_neg (by decide), if_pos s0, bnd e]
            rfl
          · rw [op1, Rd_readLeave_99_eq, if_neg (by decide), if_pos s0, bnd e, nJ_p1]
            rfl
        · rw [if_neg q] at op1 ⊢
          have z := z_operator tb w t r rm hst
          refine ⟨_, z, fun h' e => ?_, fun h' e => ?_⟩
          · rw [op1, Rd_readLeave_99_eq, if_pos (by decide), if_pos s0, bnd e]
            rfl
          · rw [op1, Rd_readLeave_99_eq, if_pos (by decide), if_pos s0, bnd e, nJ_p1]
            rfl
      obtain ⟨P, t1, t2, t3⟩ := turn
      rw [tn_app] at t1
      cases ht : tnM T n s.1 s.2.1 s.2.2.1 s.2.2.2.1 s.2.2.2.2.1 s.2.2.2.2.2 with
      | inl f =>
        rw [ht] at t1
        rw [rn_l h6 ht]
        refine ⟨fun f' q => ?_, fun s' q => (by cases q)⟩
        injection q with q
        obtain ⟨h', a, b⟩ := t1
        exact ⟨h', t2 h' a, by rw [← q]; exact b⟩
      | inr s1 =>
        rw [ht] at t1
        rw [rn_r h6 ht]
        obtain ⟨h1, a, b, c⟩ := t1
        obtain ⟨x, y⟩ := z_rl_55 tb hE v1 k (i + 1) s1 h1 (by omega) (ok_fr b w) (TC_Sx (Sy_x b) t) c (tn_ok m h6 ht).1
        rw [t3 h1 a]
        refine ⟨fun f q => ?_, fun s' q => ?_⟩
        · obtain ⟨h', e1, e2⟩ := x f q
          exact ⟨h', e1, flt_y (Sy_x b) e2⟩
        · obtain ⟨h', j, e0, e1, e2, e3⟩ := y s' q
          exact ⟨h', j, e0, e1, fr_tr b e2, e3⟩
end
