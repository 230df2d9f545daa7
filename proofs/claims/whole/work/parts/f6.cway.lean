/-! the class's clause; forget -/
section
theorem z_clause {T : Nat → Nat} {n : Nat} (tb : ∀ i, T i < 256) {h : ax_H} (w : ok h) (t : TC h T n) {p c ft : Nat} {hd : Int32} {dg hl : Nat → Int32} {L : List Cd} (r : RWd h p c ft hd dg hl (jnT L).reverse) (m : WI n p c ft hd dg hl L) {k : Nat} (hk : k ≤ 12) : rsw h (Rd_readClause 93 (nI k) h) (clC T n k p c ft hd dg hl L) := by
  have t1 := t.1
  have hp : p ≤ n := m.1.1
  have s0 := s_93 w
  obtain ⟨h1, a1, a2, a3⟩ := z_next tb w t r.1.1 (by omega)
  have hle : sb T n p ≤ n := sb_le hp
  have hge := sb_ge T n p
  have w1 := ok_fr a2 w
  have t1' := TC_Sp a2 t
  have R := RWd_Sp r a2 a3
  have s1 := s_93 w1
  unfold clC
  generalize sb T n p = p1 at *
  obtain ⟨h2, b1, b2, b3⟩ := z_takeWord tb (x := 1) (by omega) w1 t1' a3 (by omega)
  have w2 := ok_fr b2 w1
  have t2' := TC_Sp b2 t1'
  have s2 := s_93 w2
  have R2 := RWd_Sp R b2 b3
  rw [Rd_readClause_eq, if_pos s0, bnd a1]
  simp only [s1, ↓reduceIte, a3]
  rw [bnd b1]
  refine rsw_x (Sp_x a2) (rsw_x (Sp_x b2) ?_)
  cases hq : fW T n (wsL 1) 0 p1 with
  | none =>
    refine ⟨_, ?_, fr_pI rfl, by rw [gI_pI, if_pos ⟨rfl, rfl⟩]⟩
    simp only [show twR none = -1 from rfl, not_true_eq_false, decide_false, Bool.false_eq_true, ↓reduceIte, s2]
    rw [bnd (z_fail w2 p1 0 (c' := 0) rfl)]
    rfl
  | some q =>
    rw [hq] at R2
    have h5 : q.1 < 5 := by
      have := fW_lt T n (wsL 1) 0 p1 q hq
      have e : (wsL 1).length = 5 := rfl
      omega
    have hq2 : q.2 ≤ n := (fW_le (wsL 1) 0 p1 q (by decide) hle hq).2
    have hq3 := fW_mn (m := 3) (wsL 1) 0 p1 q (by decide) hq
    have nm : ¬ nI q.1 = -1 := nI_neg1 (by omega)
    have ne : ∀ j, j < 7 → ∀ j' : Int32, j' = nI j → (nI q.1 = j' ↔ q.1 = j) := fun j hj j' e => by rw [e]; exact nJ_eq (by omega) (by omega)
    show rsw h2 _ (if k < 12 then _ else _)
    by_cases hk2 : k < 12
    · have z : nI k < 12 := (nJ_lt (a := k) (b := 12) (by omega) (by omega)).mpr hk2
      rw [if_pos hk2]
      simp only [show twR (some q) = nI q.1 from rfl, nm, not_false_eq_true, decide_true, ↓reduceIte, z, s2, ne 0 (by omega) 0 rfl, ne 1 (by omega) 1 rfl, ne 2 (by omega) 2 rfl, ne 3 (by omega) 3 rfl]
      by_cases r0 : q.1 = 0
      · rw [if_pos r0, if_pos r0]; exact rsw_01 (z_term tb w2 t2' R2 hq2 m.1.2.2.1 (Or.inl rfl) rfl)
      rw [if_neg r0, if_neg r0]
      by_cases r1 : q.1 = 1
      · rw [if_pos r1, if_pos r1]; exact rsw_01 (z_term tb w2 t2' R2 hq2 m.1.2.2.1 (Or.inr (Or.inl rfl)) rfl)
      rw [if_neg r1, if_neg r1]
      by_cases r2 : q.1 = 2
      · rw [if_pos r2, if_pos r2]; exact rsw_01 (z_term tb w2 t2' R2 hq2 m.1.2.2.1 (Or.inr (Or.inr rfl)) rfl)
      rw [if_neg r2, if_neg r2]
      by_cases r3 : q.1 = 3
      · rw [if_pos r3, if_pos r3]
        exact rsw_01 (z_leave tb w2 t2' R2 hq2 m.1.2.1 m.2.2.2.1 (by have := m.2.2.2.2.2; show 2 * (jnT L).length + 2 ≤ q.2 + 2 * c; omega))
      rw [if_neg r3, if_neg r3]
      exact rsw_01 (z_hand tb w2 t2' R2 hq2 p1)
    · have z : ¬ nI k < 12 := fun y => hk2 ((nJ_lt (a := k) (b := 12) (by omega) (by omega)).mp y)
      rw [if_neg hk2]
      refine ⟨_, ?_, fr_pI rfl, by rw [gI_pI, if_pos ⟨rfl, rfl⟩]⟩
      simp only [show twR (some q) = nI q.1 from rfl, nm, not_false_eq_true, decide_true, decide_false, Bool.false_eq_true, ↓reduceIte, z, s2]
      rw [bnd (z_fail w2 p1 4 (c' := 4) rfl)]
      rfl
end
theorem z_fg_32 : ∀ (m j : Nat) (h : ax_H), j + m = 6 → ok h → ∃ h', Rd_forget_32 93 (nI j) h = some h' ∧ fr Sx h h' ∧ (∀ a k, ¬ a = 97 → ¬ a = 98 → gI h' a k = gI h a k) ∧ (∀ t, j ≤ t → t < 6 → gI h' 97 t = 0 ∧ gI h' 98 t = 0) ∧ ∀ t, t < j → gI h' 97 t = gI h 97 t ∧ gI h' 98 t = gI h 98 t := by
  intro m
  induction m with
  | zero =>
    intro j h hj w
    have : j = 6 := by omega
    subst this
    exact ⟨h, by rw [Rd_forget_32_eq]; exact if_pos (by decide), fr_rf _ _, fun _ _ _ _ => rfl, fun t h1 h2 => by omega, fun t _ => ⟨rfl, rfl⟩⟩
  | succ m ih =>
    intro j h hj w
    have hle : ¬ (6 : Int32) ≤ nI j := fun z => by
      have := (nJ_le (a := 6) (b := j) (by omega) (by omega)).mp z
      omega
    have tj : (nI j).toNatClampNeg = j := nJ_n (by omega)
    have nj : ¬ nI j < 0 := nJ_nn (by omega)
    have hj6 : j < 6 := by omega
    have w2 : ok (pI (pI h 97 j 0) 98 j 0) := ok_pI (ok_pI w _ _ _) _ _ _
    obtain ⟨h', r1, r2, r3, r4, r5⟩ := ih (j + 1) (pI (pI h 97 j 0) 98 j 0) (by omega) w2
    obtain ⟨e97, e98, e13, e14⟩ := s97 w
    refine ⟨h', ?_, fr_tr (fr_tr (fr_pI rfl) (fr_pI rfl)) r2, fun a k h1 h2 => by rw [r3 a k h1 h2, gI_pI, if_neg (by omega), gI_pI, if_neg (by omega)], fun t h1 h2 => ?_, fun t ht => ?_⟩
    · rw [← r1, Rd_forget_32_eq]
      simp only [hle, decide_false, Bool.false_eq_true, ↓reduceIte, s_93 w, e13, e14, e97, e98, ax_in, tj, nj, hj6, not_false_eq_true, and_self, gS_pI, gR_pI, nJ_p1]
    · by_cases q : t = j
      · subst q
        have := r5 t (by omega)
        rw [this.1, this.2, gI_pI, if_neg (by omega), gI_pI, if_pos ⟨rfl, rfl⟩, gI_pI, if_pos ⟨rfl, rfl⟩]
        exact ⟨rfl, rfl⟩
      · exact r4 t (by omega) h2
    · have := r5 t (by omega)
      rw [this.1, this.2, gI_pI, if_neg (by omega), gI_pI, if_neg (by omega), gI_pI, if_neg (by omega), gI_pI, if_neg (by omega)]
      exact ⟨rfl, rfl⟩
theorem z_forget {h : ax_H} (w : ok h) : ∃ h', Rd_forget 93 h = some h' ∧ fr Sx h h' ∧ RWd h' 0 0 0 (-1) (fun _ => 0) (fun _ => 0) (jnT []).reverse := by
  obtain ⟨h6, e6⟩ : ∃ h6, h6 = pI (pI (pI (pI (pI (pI h 93 1 0) 93 3 0) 93 4 0) 93 5 0) 93 6 (-1)) 93 11 0 := ⟨_, rfl⟩
  have w6 : ok h6 := by rw [e6]; exact ok_pI (ok_pI (ok_pI (ok_pI (ok_pI (ok_pI w _ _ _) _ _ _) _ _ _) _ _ _) _ _ _) _ _ _
  have f6 : fr Sx h h6 := by rw [e6]; exact fr_tr (fr_tr (fr_tr (fr_tr (fr_tr (fr_pI rfl) (fr_pI rfl)) (fr_pI rfl)) (fr_pI rfl)) (fr_pI rfl)) (fr_pI rfl)
  obtain ⟨h', r1, r2, r3, r4, -⟩ := z_fg_32 6 0 h6 (by omega) w6
  refine ⟨h', ?_, fr_tr f6 r2, ⟨?_, ?_, ?_, ?_, ?_⟩, fun t ht => (r4 t (by omega) ht).1, fun t ht => (r4 t (by omega) ht).2, trivial⟩
  · have r1' : Rd_forget_32 93 0 h6 = some h' := r1
    rw [Rd_forget_eq]
    simp only [gS_pI, s_93 w, ↓reduceIte, ← e6]
    exact r1'
  · rw [r3 _ _ (by omega) (by omega), e6]; simp only [gI_pI, Nat.reduceEqDiff, and_false, and_self, ↓reduceIte]; rfl
  · rw [r3 _ _ (by omega) (by omega), e6]; simp only [gI_pI, Nat.reduceEqDiff, and_false, and_self, ↓reduceIte]; rfl
  · rw [r3 _ _ (by omega) (by omega), e6]; simp only [gI_pI, Nat.reduceEqDiff, and_false, and_self, ↓reduceIte]; rfl
  · rw [r3 _ _ (by omega) (by omega), e6]; simp only [gI_pI, Nat.reduceEqDiff, and_false, and_self, ↓reduceIte]
  · rw [r3 _ _ (by omega) (by omega), e6]; simp only [gI_pI, and_self, ↓reduceIte]; rfl
