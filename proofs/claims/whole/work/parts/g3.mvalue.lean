/-! the reference's digits, value -/
theorem nm_end (T : Nat → Nat) (n : Nat) : ∀ m p k v, n ≤ p + m → ¬ dB T n (nmF T n m p k v).1 = true
  | 0, p, k, v, h => fun z => by
    have := (of_decide_eq_true z).1
    have e : (nmF T n 0 p k v).1 = p := rfl
    omega
  | m + 1, p, k, v, h => by
    rw [nmF]
    by_cases q : dB T n p = true
    · rw [if_pos q]; exact nm_end T n m (p + 1) (k + 1) _ (by omega)
    · rw [if_neg q]; exact q
/-- at a digit the loop counts -/
theorem nm_c {T : Nat → Nat} {n p : Nat} (hp : p ≤ n) : ((nmF T n (n - p) p 0 0).2.1 = 0 ↔ ¬ dB T n p = true) := by
  cases hm : n - p with
  | zero => exact ⟨fun _ z => by have := (of_decide_eq_true z).1; omega, fun _ => rfl⟩
  | succ m =>
    rw [nmF]
    by_cases q : dB T n p = true
    · rw [if_pos q]
      refine ⟨fun z => ?_, fun z => absurd q z⟩
      have hlt := (of_decide_eq_true q).1
      have h1 := nm_b T n m (p + 1) (0 + 1) (if 0 < 5 then 0 * 10 + T p - 48 else 0) (by omega) (vk_s (by unfold vk; omega) q)
      have := h1.1
      have := h1.2.2.2
      omega
    · rw [if_neg q]; exact ⟨fun _ => q, fun _ => rfl⟩
section
theorem zm_dg_25 {T : Nat → Nat} {n : Nat} (hn : n ≤ 400) (tb : ∀ i, T i < 256) (M : Int32) {b : Nat} : ∀ (m p k v : Nat) (h : ax_H), ok h → TM h T n → gI h 159 18 = nI p → n ≤ p + m → p = b + k → p ≤ 1000 → ∃ h', M_digits_25 159 M (nI b) (nI v) h = M_digits_25 159 M (nI b) (nI (nmF T n m p k v).2.2) h' ∧ fr Sq8 h h' ∧ gI h' 159 18 = nI (nmF T n m p k v).1 := by
  intro m
  induction m with
  | zero => intro p k v h w t hp hm hk hb; exact ⟨h, rfl, fr_rf _ _, hp⟩
  | succ m ih =>
    intro p k v h w t hp hm hk hb
    rw [nmF]
    by_cases q : dB T n p = true
    · have hq := of_decide_eq_true q
      rw [if_pos q]
      have dg := zm_isDigit hn tb w t hp (by omega)
      rw [q] at dg
      obtain ⟨h', r1, r2, r3⟩ := ih (p + 1) (k + 1) (if k < 5 then v * 10 + T p - 48 else v) (pI h 159 18 (nI (p + 1))) (ok_pI w _ _ _) (TM_8 (fr_pI rfl) t) (by rw [gI_pI, if_pos ⟨rfl, rfl⟩]) (by omega) (by omega) (by omega)
      refine ⟨h', ?_, fr_tr (fr_pI rfl) r2, r3⟩
      have e5 : nI p - nI b = nI k := by rw [nI_sb (by omega)]; congr 1; omega
      rw [← r1, M_digits_25_eq 159 M (nI b) (nI v) h, if_pos (m_159 w), bnd dg]
      by_cases c5 : k < 5
      · have z : ¬ (5 : Int32) ≤ nI k := fun y => by have := (nJ_le (a := 5) (b := k) (by omega) (by omega)).mp y; omega
        simp only [show ¬ bB true = 0 by decide, decide_false, Bool.false_eq_true, ↓reduceIte, m_159 w, hp, e5, z, c5]
        rw [bnd (zm_sign hn tb w t hp (by omega))]
        simp only [m_159 w, ↓reduceIte, hp, nJ_p1]
        have es : sgI T n p = nI (T p) := if_pos hq.1
        rw [es, show (10 : Int32) = nI 10 from rfl, pk_mul, nI_add, show (48 : Int32) = nI 48 from rfl, nI_sb (by omega), Nat.mul_comm 10 v]
      · have z : (5 : Int32) ≤ nI k := (nJ_le (a := 5) (b := k) (by omega) (by omega)).mpr (by omega)
        simp only [show ¬ bB true = 0 by decide, decide_false, Bool.false_eq_true, ↓reduceIte, m_159 w, hp, e5, z, c5, decide_true, nJ_p1]
    · rw [if_neg q]; exact ⟨h, rfl, fr_rf _ _, hp⟩
/-- at the loop's end -/
theorem zm_dg_x {T : Nat → Nat} {n : Nat} (hn : n ≤ 400) (tb : ∀ i, T i < 256) {M : Nat} (hM : M < 100000) {b e v : Nat} (hbe : b ≤ e) (he : e ≤ 1000) (hv : v < 100000) {h : ax_H} (w : ok h) (t : TM h T n) (hp : gI h 159 18 = nI e) (hd : ¬ dB T n e = true) : M_digits_25 159 (nI M) (nI b) (nI v) h = if 5 < e - b ∨ M < v then (M_fails 159 1 (nI b) h).bind (fun h2 => some (nI v, h2)) else some (nI v, h) := by
  have dg := zm_isDigit hn tb w t hp (by omega)
  rw [show dB T n e = false by cases hx : dB T n e with | false => rfl | true => exact absurd hx hd] at dg
  have e5 : nI e - nI b = nI (e - b) := nI_sb hbe
  rw [M_digits_25_eq, if_pos (m_159 w), bnd dg]
  by_cases c5 : 5 < e - b
  · have z : (5 : Int32) < nI (e - b) := (nJ_lt (a := 5) (b := e - b) (by omega) (by omega)).mpr c5
    rw [if_pos (Or.inl c5)]
    simp only [show bB false = 0 from rfl, decide_true, ↓reduceIte, m_159 w, hp, e5, z]
  · have z : ¬ (5 : Int32) < nI (e - b) := fun y => c5 ((nJ_lt (a := 5) (b := e - b) (by omega) (by omega)).mp y)
    by_cases cm : M < v
    · have z2 : ¬ nI v ≤ nI M := by rw [nJ_le (by omega) (by omega)]; omega
      rw [if_pos (Or.inr cm)]
      simp only [show bB false = 0 from rfl, decide_true, decide_false, Bool.false_eq_true, ↓reduceIte, m_159 w, hp, e5, z, z2]
    · have z2 : nI v ≤ nI M := (nJ_le (by omega) (by omega)).mpr (by omega)
      rw [if_neg (show ¬ (5 < e - b ∨ M < v) by omega)]
      simp only [show bB false = 0 from rfl, decide_true, decide_false, Bool.false_eq_true, ↓reduceIte, m_159 w, hp, e5, z, z2]
theorem zm_digitsG {T : Nat → Nat} {n : Nat} (hn : n ≤ 400) (tb : ∀ i, T i < 256) {M : Nat} (hM : M < 100000) {h : ax_H} (v : ok h) (t : TM h T n) {w p c d : Nat} {o : List Nat} {E : Cd} (r : RM h w p c d o E) (hp : p ≤ n) : (∀ f, rdN T n M p = .inl f → ∃ x h', M_digits 159 (nI M) h = some (x, h') ∧ fr (Sv w) h h' ∧ RF h' w f 400) ∧ ∀ x, rdN T n M p = .inr x → ∃ h', M_digits 159 (nI M) h = some (nI x.1, h') ∧ fr (Sv w) h h' ∧ RM h' w x.2 c d o E := by
  have g18 := r.1.2.2.1
  have dg := zm_isDigit hn tb v t g18 (by omega)
  by_cases q : dB T n p = true
  · rw [q] at dg
    obtain ⟨h1, a1, a2, a3⟩ := zm_dg_25 hn tb (nI M) (b := p) (n - p) p 0 0 h v t g18 (by omega) (by omega) (by omega)
    obtain ⟨b1, b2, b3, b4⟩ := nm_b T n (n - p) p 0 0 hp (by unfold vk; omega)
    have be := nm_end T n (n - p) p 0 0 (by omega)
    have bc : ¬ (nmF T n (n - p) p 0 0).2.1 = 0 := fun z => (nm_c hp).mp z q
    have e0 : M_digits 159 (nI M) h = M_digits_25 159 (nI M) (nI p) (nI (nmF T n (n - p) p 0 0).2.2) h1 := by
      rw [← a1, M_digits_eq, if_pos (m_159 v), bnd dg]
      simp only [show ¬ bB true = 0 by decide, not_false_eq_true, decide_true, ↓reduceIte, m_159 v, g18]
      rfl
    unfold rdN
    generalize nmF T n (n - p) p 0 0 = y at *
    have v1 := ok_fr a2 v
    have R1 := RM_8 r a2 a3
    have ex := zm_dg_x hn tb hM (b := p) (e := y.1) (v := y.2.2) b1 (by omega) b3.2.2.2.2.2 v1 (TM_8 a2 t) a3 be
    rw [e0, ex, if_neg bc, show y.1 - p = y.2.1 by omega]
    by_cases z : 5 < y.2.1 ∨ M < y.2.2
    · rw [if_pos z, if_pos z]
      refine ⟨fun f hf => ?_, fun x hx => (by cases hx)⟩
      injection hf with hf
      rw [← hf]
      refine ⟨nI y.2.2, pI h1 159 19 (nI (1 + 8 * p + 1)), ?_, fr_tr (Sq_w a2) (fr_pI (Sv_t (by omega))), RF_of R1 (by omega) (by omega)⟩
      rw [bnd (zm_failsG v1 R1.1.1 p 1 (c' := 1) rfl)]
    · rw [if_neg z, if_neg z]
      refine ⟨fun f hf => (by cases hf), fun x hx => ?_⟩
      injection hx with hx
      rw [← hx]
      exact ⟨h1, rfl, Sq_w a2, R1⟩
  · rw [show dB T n p = false by cases hx : dB T n p with | false => rfl | true => exact absurd hx q] at dg
    unfold rdN
    rw [if_pos ((nm_c hp).mpr q)]
    refine ⟨fun f hf => ?_, fun x hx => (by cases hx)⟩
    injection hf with hf
    rw [← hf]
    refine ⟨0, pI h 159 19 (nI (1 + 8 * p + 0)), ?_, fr_pI (Sv_t (by omega)), RF_of r (by omega) (by omega)⟩
    rw [M_digits_eq, if_pos (m_159 v), bnd dg]
    simp only [show bB false = 0 from rfl, not_true_eq_false, decide_false, Bool.false_eq_true, ↓reduceIte, m_159 v, g18]
    rw [bnd (zm_failsG v r.1.1 p 0 (c' := 0) rfl)]
theorem zm_digitsF {T : Nat → Nat} {n : Nat} (hn : n ≤ 400) (tb : ∀ i, T i < 256) {M : Nat} (hM : M < 100000) {h : ax_H} (v : ok h) (t : TM h T n) {u f q : Nat} (r : RF h u f q) (hq : 400 ≤ q ∧ q ≤ 900) : ∃ x h', M_digits 159 (nI M) h = some (x, h') ∧ fr (Sv u) h h' ∧ RF h' u f q := by
  have r' := r
  obtain ⟨a, b, c, p, g18, hp⟩ := r
  have dg := zm_isDigit hn tb v t g18 (by omega)
  by_cases z : dB T n p = true
  · have hlt := (of_decide_eq_true z).1
    rw [z] at dg
    obtain ⟨h1, a1, a2, a3⟩ := zm_dg_25 hn tb (nI M) (b := p) (n - p) p 0 0 h v t g18 (by omega) (by omega) (by omega)
    obtain ⟨b1, b2, b3, b4⟩ := nm_b T n (n - p) p 0 0 (by omega) (by unfold vk; omega)
    have be := nm_end T n (n - p) p 0 0 (by omega)
    have e0 : M_digits 159 (nI M) h = M_digits_25 159 (nI M) (nI p) (nI (nmF T n (n - p) p 0 0).2.2) h1 := by
      rw [← a1, M_digits_eq, if_pos (m_159 v), bnd dg]
      simp only [show ¬ bB true = 0 by decide, not_false_eq_true, decide_true, ↓reduceIte, m_159 v, g18]
      rfl
    generalize nmF T n (n - p) p 0 0 = y at *
    have v1 := ok_fr a2 v
    have R1 : RF h1 u f q := RF_8 r' a2 a3 (by omega)
    have ex := zm_dg_x hn tb hM (b := p) (e := y.1) (v := y.2.2) b1 (by omega) b3.2.2.2.2.2 v1 (TM_8 a2 t) a3 be
    rw [e0, ex]
    by_cases z5 : 5 < y.1 - p ∨ M < y.2.2
    · obtain ⟨h2, c1, c2, c3⟩ := zm_failsF v1 R1 1 (nI p)
      rw [if_pos z5, bnd c1]
      exact ⟨_, h2, rfl, fr_tr (Sq_w a2) c2, c3⟩
    · rw [if_neg z5]
      exact ⟨_, h1, rfl, Sq_w a2, R1⟩
  · rw [show dB T n p = false by cases hx : dB T n p with | false => rfl | true => exact absurd hx z] at dg
    obtain ⟨h2, c1, c2, c3⟩ := zm_failsF v r' 0 (nI p)
    refine ⟨0, h2, ?_, c2, c3⟩
    rw [M_digits_eq, if_pos (m_159 v), bnd dg]
    simp only [show bB false = 0 from rfl, not_true_eq_false, decide_false, Bool.false_eq_true, ↓reduceIte, m_159 v, g18]
    rw [bnd c1]
end
