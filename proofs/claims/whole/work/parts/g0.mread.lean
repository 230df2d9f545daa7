/-! the reference's leaves: sign, blanks, digits, words -/
def Sq8 (a k : Nat) : Bool := decide (a = 159 ∧ k = 18)
theorem sx_255 : ∀ x : Nat, x < 256 → (nI x).toInt8.toInt32 &&& 255 = nI x := by decide +kernel
theorem sx_97 : ∀ x : Nat, x < 256 → ((nI x).toInt8.toInt32 < 97 ↔ ¬ (97 ≤ x ∧ x < 128)) := by decide +kernel
theorem sx_122 : ∀ x : Nat, x < 256 → ((122 : Int32) < (nI x).toInt8.toInt32 ↔ (122 < x ∧ x < 128)) := by decide +kernel
theorem sx_lo : ∀ x : Nat, x < 128 → (nI x).toInt8.toInt32 = nI x := by decide +kernel
theorem TM_8 {h h' : ax_H} {T : Nat → Nat} {n : Nat} (q : fr Sq8 h h') (t : TM h T n) : TM h' T n := ⟨(fr_I q rfl).trans t.1, fun i => (fr_I q rfl).trans (t.2 i)⟩
theorem m_159 {h : ax_H} (w : ok h) : (gS h 159).1 = 11 := by obtain ⟨wS, wR, wG, wN⟩ := w; simp only [wS]
theorem m_172 {h : ax_H} (w : ok h) : gS h 172 = (18, 400) ∧ gR h 159 26 = 172 := by obtain ⟨wS, wR, wG, wN⟩ := w; simp only [wS, wR, and_self]
section
theorem zm_sign {T : Nat → Nat} {n : Nat} (hn : n ≤ 400) (tb : ∀ i, T i < 256) {h : ax_H} (w : ok h) (t : TM h T n) {p : Nat} (hp : gI h 159 18 = nI p) (hb : p ≤ 2000) : M_sign 159 h = some (sgI T n p, h) := by
  obtain ⟨e1, e2⟩ := m_172 w
  rw [M_sign_eq]
  by_cases q : p < n
  · have hle : ¬ nI n ≤ nI p := by rw [nJ_le (by omega) (by omega)]; omega
    have tp : (nI p).toNatClampNeg = p := nJ_n (by omega)
    have np : ¬ nI p < 0 := nJ_nn (by omega)
    have hp4 : p < 400 := by omega
    simp only [m_159 w, ↓reduceIte, hp, t.1, hle, decide_false, Bool.false_eq_true, ax_in, e1, e2, tp, np, hp4, not_false_eq_true, and_self, t.2, sx_255 _ (tb p)]
    rw [sgI, if_pos q]
  · have hle : nI n ≤ nI p := (nJ_le (by omega) (by omega)).mpr (by omega)
    simp only [m_159 w, ↓reduceIte, hp, t.1, hle, decide_true]
    rw [sgI, if_neg q]
theorem zm_bl_0 {T : Nat → Nat} {n : Nat} (hn : n ≤ 400) (tb : ∀ i, T i < 256) : ∀ (m p : Nat) (h : ax_H), ok h → TM h T n → gI h 159 18 = nI p → n ≤ p + m → p ≤ 1000 → ∃ h', M_blanks_0 159 h = some h' ∧ fr Sq8 h h' ∧ gI h' 159 18 = nI (sbF T n m p) := by
  intro m
  induction m with
  | zero =>
    intro p h w t hp hm hb
    refine ⟨h, ?_, fr_rf _ _, hp⟩
    have e : sgI T n p = -1 := if_neg (by omega)
    rw [M_blanks_0_eq, if_pos (m_159 w), bnd (zm_sign hn tb w t hp (by omega)), e]
    rfl
  | succ m ih =>
    intro p h w t hp hm hb
    by_cases q : p < n ∧ T p = 32
    · have e : sgI T n p = 32 := by rw [sgI, if_pos q.1, q.2]; rfl
      obtain ⟨h', r1, r2, r3⟩ := ih (p + 1) (pI h 159 18 (nI (p + 1))) (ok_pI w _ _ _) (TM_8 (fr_pI rfl) t) (by rw [gI_pI, if_pos ⟨rfl, rfl⟩]) (by omega) (by omega)
      refine ⟨h', ?_, fr_tr (fr_pI rfl) r2, by rw [sbF, if_pos q]; exact r3⟩
      rw [← r1, M_blanks_0_eq 159 h, if_pos (m_159 w), bnd (zm_sign hn tb w t hp (by omega)), e]
      simp only [not_true_eq_false, decide_false, Bool.false_eq_true, ↓reduceIte, m_159 w, hp, nJ_p1]
    · have e : ¬ sgI T n p = 32 := fun z => q ((sg_eq tb (c := 32) (by omega) rfl).mp z)
      refine ⟨h, ?_, fr_rf _ _, by rw [sbF, if_neg q]; exact hp⟩
      rw [M_blanks_0_eq, if_pos (m_159 w), bnd (zm_sign hn tb w t hp (by omega))]
      exact if_pos (decide_eq_true e)
theorem zm_blanks {T : Nat → Nat} {n : Nat} (hn : n ≤ 400) (tb : ∀ i, T i < 256) {h : ax_H} (w : ok h) (t : TM h T n) {p : Nat} (hp : gI h 159 18 = nI p) (hb : p ≤ 1000) : ∃ h', M_blanks 159 h = some h' ∧ fr Sq8 h h' ∧ gI h' 159 18 = nI (sb T n p) := by
  rw [M_blanks_eq]
  exact zm_bl_0 hn tb (n - p) p h w t hp (by omega) hb
theorem zm_isDigit {T : Nat → Nat} {n : Nat} (hn : n ≤ 400) (tb : ∀ i, T i < 256) {h : ax_H} (w : ok h) (t : TM h T n) {p : Nat} (hp : gI h 159 18 = nI p) (hb : p ≤ 2000) : M_isDigit 159 h = some (bB (dB T n p), h) := by
  rw [M_isDigit_eq, if_pos (m_159 w), bnd (zm_sign hn tb w t hp hb)]
  have key : ∀ b : Bool, dB T n p = b → M_in (Int32.toInt64 (sgI T n p)) 48 57 h = some (bB b, h) := fun b hb => by
    rw [zm_in, Int32.toInt_toInt64, ← hb]
    unfold bI dB sgI
    by_cases q : p < n
    · rw [if_pos q, nJ_i (by have := tb p; omega), show Int64.toInt 48 = (48 : Int) from rfl, show Int64.toInt 57 = (57 : Int) from rfl]
      by_cases z : 48 ≤ T p ∧ T p ≤ 57
      · rw [if_pos (show (48 : Int) ≤ (T p : Int) ∧ (T p : Int) ≤ (57 : Int) by omega), show decide (p < n ∧ 48 ≤ T p ∧ T p ≤ 57) = true from decide_eq_true ⟨q, z⟩]; rfl
      · rw [if_neg (show ¬ ((48 : Int) ≤ (T p : Int) ∧ (T p : Int) ≤ (57 : Int)) by omega), show decide (p < n ∧ 48 ≤ T p ∧ T p ≤ 57) = false from decide_eq_false (fun y => z y.2)]; rfl
    · rw [if_neg q, show decide (p < n ∧ 48 ≤ T p ∧ T p ≤ 57) = false from decide_eq_false (fun y => q y.1)]; rfl
  show ((M_in (Int32.toInt64 (sgI T n p)) 48 57 h).bind _) = _
  cases hd : dB T n p with
  | false => rw [bnd (key false hd)]; exact if_pos (Or.inl rfl)
  | true => rw [bnd (key true hd)]; exact if_pos (Or.inr rfl)
/-! words -/
def leE (T : Nat → Nat) (n : Nat) : Nat → Nat → Nat
  | 0, e => e
  | m + 1, e => if lB T n e = true then leE T n m (e + 1) else e
theorem le_b {T : Nat → Nat} {n : Nat} (hn : n ≤ 400) (tb : ∀ i, T i < 256) : ∀ m e, e ≤ leE T n m e ∧ (e ≤ n → leE T n m e ≤ n)
  | 0, e => ⟨Nat.le_refl _, fun h => h⟩
  | m + 1, e => by
    rw [leE]
    by_cases q : lB T n e = true
    · rw [if_pos q]
      have z := (of_decide_eq_true q).1
      have := le_b hn tb m (e + 1)
      exact ⟨by omega, fun _ => this.2 (by omega)⟩
    · rw [if_neg q]; exact ⟨Nat.le_refl _, fun h => h⟩
theorem zm_st_5 {T : Nat → Nat} {n : Nat} (hn : n ≤ 400) (tb : ∀ i, T i < 256) {x : Nat} : ∀ (m e : Nat) (h : ax_H), ok h → TM h T n → n ≤ e + m → e ≤ 1000 → M_stands_5 159 x (nI e) h = M_stands_41 159 x (nI (leE T n m e)) h := by
  intro m
  induction m with
  | zero =>
    intro e h w t hm hb
    have hle : nI n ≤ nI e := (nJ_le (by omega) (by omega)).mpr (by omega)
    rw [M_stands_5_eq, if_pos (m_159 w), t.1, if_pos (decide_eq_true hle)]
    rfl
  | succ m ih =>
    intro e h w t hm hb
    obtain ⟨e1, e2⟩ := m_172 w
    rw [M_stands_5_eq, leE]
    by_cases q : e < n
    · have hle : ¬ nI n ≤ nI e := by rw [nJ_le (by omega) (by omega)]; omega
      have tp : (nI e).toNatClampNeg = e := nJ_n (by omega)
      have np : ¬ nI e < 0 := nJ_nn (by omega)
      have hp4 : e < 400 := by omega
      simp only [m_159 w, ↓reduceIte, t.1, hle, decide_false, Bool.false_eq_true, ax_in, e1, e2, tp, np, hp4, not_false_eq_true, and_self, t.2, sx_97 _ (tb e), sx_122 _ (tb e)]
      by_cases z : 97 ≤ T e ∧ T e ≤ 122
      · have l1 : lB T n e = true := decide_eq_true ⟨q, z⟩
        rw [if_pos l1, if_neg (by rw [decide_eq_true_eq]; omega), if_neg (by rw [decide_eq_true_eq]; omega), nJ_p1]
        exact ih (e + 1) h w t (by omega) (by omega)
      · have l1 : ¬ lB T n e = true := fun y => z (of_decide_eq_true y).2
        rw [if_neg l1]
        by_cases y : 97 ≤ T e ∧ T e < 128
        · rw [if_neg (by rw [decide_eq_true_eq]; omega), if_pos (by rw [decide_eq_true_eq]; omega)]
        · rw [if_pos (by rw [decide_eq_true_eq]; omega)]
    · have hle : nI n ≤ nI e := (nJ_le (by omega) (by omega)).mpr (by omega)
      have l1 : ¬ lB T n e = true := fun y => q (of_decide_eq_true y).1
      rw [if_neg l1, if_pos (m_159 w), t.1, if_pos (decide_eq_true hle)]
end
