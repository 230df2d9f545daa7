/-! the class's leaves: numbers, faults, steps -/
def Sx (a k : Nat) : Bool := decide ((a = 93 ∧ ¬ k = 0) ∨ (95 ≤ a ∧ a ≤ 98))
theorem Sp_x {h h' : ax_H} (q : fr Sp h h') : fr Sx h h' := fr_le q fun a k z => by simp only [Sx, Sp, decide_eq_false_iff_not] at z ⊢; omega
theorem TC_Sx {h h' : ax_H} {T : Nat → Nat} {n : Nat} (q : fr Sx h h') (t : TC h T n) : TC h' T n := ⟨t.1, (fr_I q rfl).trans t.2.1, fun i => (fr_I q rfl).trans (t.2.2 i)⟩
theorem nI_sb {a b : Nat} (h : b ≤ a) : nI a - nI b = nI (a - b) := by
  have e : nI a = nI (a - b) + nI b := by rw [nI_add, Nat.sub_add_cancel h]
  rw [e, Int32.add_sub_cancel]
theorem z_fail {h : ax_H} (w : ok h) (p c : Nat) {c' : Int32} (hc : c' = nI c) : Rd_fail 93 (nI p) c' h = some (0, pI h 93 1 (nI (1 + 8 * p + c))) := by
  obtain ⟨wS, wR, wG, wN⟩ := w
  subst hc
  rw [Rd_fail_eq]
  simp only [wS, ↓reduceIte, show (8 : Int32) = nI 8 from rfl, show (1 : Int32) = nI 1 from rfl, pk_mul, nI_add]
def dB (T : Nat → Nat) (n p : Nat) : Bool := decide (p < n ∧ 48 ≤ T p ∧ T p ≤ 57)
def nmF (T : Nat → Nat) (n : Nat) : Nat → Nat → Nat → Nat → Nat × Nat × Nat
  | 0, p, k, v => (p, k, v)
  | m + 1, p, k, v => if dB T n p = true then nmF T n m (p + 1) (k + 1) (if k < 5 then v * 10 + T p - 48 else v) else (p, k, v)
def rdN (T : Nat → Nat) (n most p : Nat) : Sum Nat (Nat × Nat) := if (nmF T n (n - p) p 0 0).2.1 = 0 then .inl (1 + 8 * p + 0) else if 5 < (nmF T n (n - p) p 0 0).2.1 ∨ most < (nmF T n (n - p) p 0 0).2.2 then .inl (1 + 8 * p + 1) else .inr ((nmF T n (n - p) p 0 0).2.2, (nmF T n (n - p) p 0 0).1)
/-- values of few digits -/
def vk (k v : Nat) : Prop := (k = 0 → v < 1) ∧ (k = 1 → v < 10) ∧ (k = 2 → v < 100) ∧ (k = 3 → v < 1000) ∧ (k = 4 → v < 10000) ∧ v < 100000
theorem vk_s {T : Nat → Nat} {n p k v : Nat} (h : vk k v) (d : dB T n p = true) : vk (k + 1) (if k < 5 then v * 10 + T p - 48 else v) := by
  have d := of_decide_eq_true d
  unfold vk at h ⊢
  by_cases q : k < 5
  · rw [if_pos q]; omega
  · rw [if_neg q]; omega
theorem nm_b (T : Nat → Nat) (n : Nat) : ∀ m p k v, p ≤ n → vk k v → p ≤ (nmF T n m p k v).1 ∧ (nmF T n m p k v).1 ≤ n ∧ vk (nmF T n m p k v).2.1 (nmF T n m p k v).2.2 ∧ (nmF T n m p k v).1 + k = p + (nmF T n m p k v).2.1
  | 0, p, k, v, h, q => ⟨Nat.le_refl _, h, q, rfl⟩
  | m + 1, p, k, v, h, q => by
    rw [nmF]
    split
    · rename_i d
      have hd := of_decide_eq_true d
      obtain ⟨a, b, c, e⟩ := nm_b T n m (p + 1) (k + 1) (if k < 5 then v * 10 + T p - 48 else v) (by omega) (vk_s q d)
      exact ⟨by omega, b, c, by omega⟩
    · exact ⟨Nat.le_refl _, h, q, rfl⟩
theorem nm_p (T : Nat → Nat) (n : Nat) : ∀ m p k v, p ≤ (nmF T n m p k v).1
  | 0, p, k, v => Nat.le_refl _
  | m + 1, p, k, v => by
    rw [nmF]
    split
    · exact Nat.le_trans (Nat.le_succ p) (nm_p T n m (p + 1) _ _)
    · exact Nat.le_refl _
theorem z_isDigit {c : Nat} (hc : c < 256) (h : ax_H) : Rd_isDigit (nI c) h = some (bI (48 ≤ c ∧ c ≤ 57), h) := by
  rw [Rd_isDigit_eq]
  by_cases h1 : c < 48
  · have q : nI c < 48 := (nJ_lt (a := c) (b := 48) (by omega) (by omega)).mpr h1
    rw [if_pos (decide_eq_true q), bI, if_neg (by omega)]
  · have q : ¬ nI c < 48 := fun z => h1 ((nJ_lt (a := c) (b := 48) (by omega) (by omega)).mp z)
    rw [if_neg (by rw [decide_eq_true_eq]; exact q)]
    by_cases h2 : 57 < c
    · have q : 57 < nI c := (nJ_lt (a := 57) (b := c) (by omega) (by omega)).mpr h2
      rw [if_pos (decide_eq_true q), bI, if_neg (by omega)]
    · have q : ¬ 57 < nI c := fun z => h2 ((nJ_lt (a := 57) (b := c) (by omega) (by omega)).mp z)
      rw [if_neg (by rw [decide_eq_true_eq]; exact q), bI, if_pos (by omega)]
section
theorem z_rn_10 {T : Nat → Nat} {n : Nat} (tb : ∀ i, T i < 256) (most : Int32) (b0 : Int32) : ∀ (m p k v : Nat) (h : ax_H), ok h → TC h T n → gI h 93 3 = nI p → n ≤ p + m → p ≤ 1000 → k ≤ p → ∃ h', Rd_readNumber_10 93 most b0 (nI k) (nI v) h = Rd_readNumber_77 93 most b0 (nI (nmF T n m p k v).2.1) (nI (nmF T n m p k v).2.2) h' ∧ fr Sp h h' ∧ gI h' 93 3 = nI (nmF T n m p k v).1 := by
  intro m
  induction m with
  | zero =>
    intro p k v h w t hp hm hb hk
    obtain ⟨wS, wR, wG, wN⟩ := w
    have hle : nI n ≤ nI p := (nJ_le (by have := t.1; omega) (by omega)).mpr (by omega)
    refine ⟨h, ?_, fr_rf _ _, hp⟩
    rw [Rd_readNumber_10_eq]
    simp only [wS, hp, t.2.1, hle, decide_true, ↓reduceIte]
    rfl
  | succ m ih =>
    intro p k v h w t hp hm hb hk
    have w0 := w
    have t0 := t
    obtain ⟨wS, wR, wG, wN⟩ := w
    obtain ⟨t1, t2, t3⟩ := t
    by_cases hpn : p < n
    · have hle : ¬ nI n ≤ nI p := by rw [nJ_le (by omega) (by omega)]; omega
      have tp : (nI p).toNatClampNeg = p := nJ_n (by omega)
      have np : ¬ nI p < 0 := nJ_nn (by omega)
      have hp4 : p < 400 := by omega
      have hd := z_isDigit (tb p) h
      by_cases hdg : 48 ≤ T p ∧ T p ≤ 57
      · have hdB : dB T n p = true := decide_eq_true ⟨hpn, hdg⟩
        rw [bI, if_pos hdg] at hd
        have h1 : ∀ x, ∃ h', Rd_readNumber_10 93 most b0 (nI (k + 1)) (nI x) (pI h 93 3 (nI (p + 1))) = Rd_readNumber_77 93 most b0 (nI (nmF T n m (p + 1) (k + 1) x).2.1) (nI (nmF T n m (p + 1) (k + 1) x).2.2) h' ∧ fr Sp (pI h 93 3 (nI (p + 1))) h' ∧ gI h' 93 3 = nI (nmF T n m (p + 1) (k + 1) x).1 := fun x => ih (p + 1) (k + 1) x (pI h 93 3 (nI (p + 1))) (ok_pI w0 _ _ _) (TC_Sp (fr_pI rfl) t0) (by rw [gI_pI, if_pos ⟨rfl, rfl⟩]) (by omega) (by omega) (by omega)
        rw [nmF, if_pos hdB]
        by_cases h5 : k < 5
        · have c5 : ¬ (5 : Int32) ≤ nI k := fun z => by
            have := (nJ_le (a := 5) (b := k) (by omega) (by omega)).mp z
            omega
          rw [if_pos h5]
          obtain ⟨h', r1, r2, r3⟩ := h1 (v * 10 + T p - 48)
          refine ⟨h', ?_, fr_tr (fr_pI rfl) r2, r3⟩
          rw [← r1, Rd_readNumber_10_eq 93 most b0 (nI k) (nI v) h]
          simp only [wS, wR, hp, t2, hle, decide_false, Bool.false_eq_true, ↓reduceIte, ax_in, tp, np, hp4, not_false_eq_true, and_self, t3]
          rw [bnd hd]
          simp only [show ¬ (1 : Int32) = 0 by decide, decide_false, Bool.false_eq_true, ↓reduceIte, c5, wS, wR, hp, ax_in, tp, np, hp4, not_false_eq_true, and_self, t3, nJ_p1]
          rw [show (10 : Int32) = nI 10 from rfl, pk_mul, nI_add, show (48 : Int32) = nI 48 from rfl, nI_sb (by omega)]
        · have c5 : (5 : Int32) ≤ nI k := (nJ_le (a := 5) (b := k) (by omega) (by omega)).mpr (by omega)
          rw [if_neg h5]
          obtain ⟨h', r1, r2, r3⟩ := h1 v
          refine ⟨h', ?_, fr_tr (fr_pI rfl) r2, r3⟩
          rw [← r1, Rd_readNumber_10_eq 93 most b0 (nI k) (nI v) h]
          simp only [wS, wR, hp, t2, hle, decide_false, Bool.false_eq_true, ↓reduceIte, ax_in, tp, np, hp4, not_false_eq_true, and_self, t3]
          rw [bnd hd]
          simp only [show ¬ (1 : Int32) = 0 by decide, decide_false, Bool.false_eq_true, ↓reduceIte, c5, decide_true, wS, hp, nJ_p1]
      · rw [bI, if_neg hdg] at hd
        have hdB : ¬ dB T n p = true := fun z => hdg (of_decide_eq_true z).2
        rw [nmF, if_neg hdB]
        refine ⟨h, ?_, fr_rf _ _, hp⟩
        rw [Rd_readNumber_10_eq]
        simp only [wS, wR, hp, t2, hle, decide_false, Bool.false_eq_true, ↓reduceIte, ax_in, tp, np, hp4, not_false_eq_true, and_self, t3]
        rw [bnd hd]
        rfl
    · have hle : nI n ≤ nI p := (nJ_le (by omega) (by omega)).mpr (by omega)
      have hdB : ¬ dB T n p = true := fun z => hpn (of_decide_eq_true z).1
      rw [nmF, if_neg hdB]
      refine ⟨h, ?_, fr_rf _ _, hp⟩
      rw [Rd_readNumber_10_eq]
      simp only [wS, hp, t2, hle, decide_true, ↓reduceIte]
end
/-- a fault told -/
def flt (h h' : ax_H) (f : Nat) : Prop := fr Sx h h' ∧ gI h' 93 1 = nI f
theorem z_readNumber {T : Nat → Nat} {n : Nat} (tb : ∀ i, T i < 256) {h : ax_H} (w : ok h) (t : TC h T n) {p : Nat} (hp : gI h 93 3 = nI p) (hpn : p ≤ n) {most : Nat} (hm : most < 100000) : (∀ f, rdN T n most p = .inl f → ∃ h', Rd_readNumber 93 (nI most) h = some (-1, h') ∧ flt h h' f) ∧ ∀ r, rdN T n most p = .inr r → ∃ h', Rd_readNumber 93 (nI most) h = some (nI r.1, h') ∧ fr Sp h h' ∧ gI h' 93 3 = nI r.2 := by
  have t1 := t.1
  obtain ⟨h1, r1, r2, r3⟩ := z_rn_10 tb (nI most) (nI p) (n - p) p 0 0 h w t hp (by omega) (by omega) (by omega)
  obtain ⟨b1, b2, b3, b4⟩ := nm_b T n (n - p) p 0 0 hpn (by unfold vk; omega)
  have w1 := ok_fr r2 w
  have e0 : Rd_readNumber 93 (nI most) h = Rd_readNumber_77 93 (nI most) (nI p) (nI (nmF T n (n - p) p 0 0).2.1) (nI (nmF T n (n - p) p 0 0).2.2) h1 := by
    rw [← r1, Rd_readNumber_eq]
    obtain ⟨wS, wR, wG, wN⟩ := w
    simp only [wS, ↓reduceIte, hp]
    rfl
  rw [e0]
  unfold rdN
  generalize (nmF T n (n - p) p 0 0) = q at *
  have fl : ∀ c, flt h (pI h1 93 1 (nI (1 + 8 * p + c))) (1 + 8 * p + c) := fun c => ⟨fr_tr (Sp_x r2) (fr_pI rfl), by rw [gI_pI, if_pos ⟨rfl, rfl⟩]⟩
  have s1 : (gS h1 93).1 = 6 := by obtain ⟨wS, wR, wG, wN⟩ := w1; simp only [wS]
  have b3' : q.2.2 < 100000 := b3.2.2.2.2.2
  by_cases c0 : q.2.1 = 0
  · rw [if_pos c0]
    refine ⟨fun f hf => ?_, fun r hr => by cases hr⟩
    injection hf with hf
    subst hf
    refine ⟨_, ?_, fl 0⟩
    have z : nI q.2.1 = 0 := by rw [c0]; rfl
    rw [Rd_readNumber_77_eq]
    simp only [z, not_true_eq_false, decide_false, Bool.false_eq_true, ↓reduceIte, s1]
    rw [bnd (z_fail w1 p 0 (c' := 0) rfl)]
  · rw [if_neg c0]
    have z : ¬ nI q.2.1 = 0 := fun y => c0 ((nJ_eq (a := q.2.1) (b := 0) (by omega) (by omega)).mp y)
    by_cases c5 : 5 < q.2.1
    · rw [if_pos (Or.inl c5)]
      refine ⟨fun f hf => ?_, fun r hr => by cases hr⟩
      injection hf with hf
      subst hf
      refine ⟨_, ?_, fl 1⟩
      have z5 : 5 < nI q.2.1 := (nJ_lt (a := 5) (b := q.2.1) (by omega) (by omega)).mpr c5
      rw [Rd_readNumber_77_eq]
      simp only [z, z5, not_false_eq_true, decide_true, ↓reduceIte, s1]
      rw [bnd (z_fail w1 p 1 (c' := 1) rfl)]
    · have z5 : ¬ 5 < nI q.2.1 := fun y => c5 ((nJ_lt (a := 5) (b := q.2.1) (by omega) (by omega)).mp y)
      by_cases cm : most < q.2.2
      · rw [if_pos (Or.inr cm)]
        refine ⟨fun f hf => ?_, fun r hr => by cases hr⟩
        injection hf with hf
        subst hf
        refine ⟨_, ?_, fl 1⟩
        have zm : ¬ nI q.2.2 ≤ nI most := by rw [nJ_le (by omega) (by omega)]; omega
        rw [Rd_readNumber_77_eq]
        simp only [z, z5, zm, not_false_eq_true, decide_true, decide_false, Bool.false_eq_true, ↓reduceIte, s1]
        rw [bnd (z_fail w1 p 1 (c' := 1) rfl)]
      · rw [if_neg (by omega)]
        refine ⟨fun f hf => (by cases hf), fun r hr => ?_⟩
        injection hr with hr
        subst hr
        have zm : nI q.2.2 ≤ nI most := (nJ_le (by omega) (by omega)).mpr (by omega)
        refine ⟨h1, ?_, r2, r3⟩
        rw [Rd_readNumber_77_eq]
        simp only [z, z5, zm, not_false_eq_true, decide_true, decide_false, Bool.false_eq_true, ↓reduceIte]
