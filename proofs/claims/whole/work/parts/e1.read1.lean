/-! the class's leaves: words, numbers -/
theorem drop_c {l : List Nat} {i c : Nat} {L : List Nat} (h : l.drop i = c :: L) : i < l.length ∧ l.getD i 0 = c ∧ l.drop (i + 1) = L := by
  have hi : i < l.length := by
    by_cases q : i < l.length
    · exact q
    · rw [List.drop_eq_nil_of_le (by omega)] at h; cases h
  rw [List.drop_eq_getElem_cons hi] at h
  injection h with h1 h2
  exact ⟨hi, by rw [List.getD_eq_getElem?_getD, List.getElem?_eq_getElem hi]; exact h1, h2⟩
theorem drop_n {l : List Nat} {i : Nat} (h : l.drop i = []) : l.length ≤ i := by
  by_cases q : i < l.length
  · rw [List.drop_eq_getElem_cons q] at h; cases h
  · omega
def twR (o : Option (Nat × Nat)) : Int32 := match o with
  | none => -1
  | some r => nI r.1
def twP (p : Nat) (o : Option (Nat × Nat)) : Nat := match o with
  | none => p
  | some r => r.2
theorem bB_0 (b : Bool) : bB b = 0 ↔ b = false := by cases b <;> decide
section
theorem z_tw_13 {T : Nat → Nat} {n : Nat} (tb : ∀ i, T i < 256) {x : Nat} (hx : 1 ≤ x ∧ x ≤ 34) (hl : (chs x).length ≤ 200) (hc : ∀ c ∈ chs x, c < 256) {p : Nat} (hp1 : p ≤ 1000) : ∀ (L : List Nat) (i k e : Nat) (s : Bool) (h : ax_H), (chs x).drop i = L → i ≤ (chs x).length → ok h → TC h T n → gI h 93 3 = nI p → e ≤ 1000 + i → k ≤ i → ∃ h', Rd_takeWord_13 93 x (nI k) (nI e) (bB s) (nI i) h = some (twR (tW T n p L k e s), h') ∧ fr Sp h h' ∧ gI h' 93 3 = nI (twP p (tW T n p L k e s)) := by
  intro L
  induction L with
  | nil =>
    intro i k e s h hd hi w t hp he hk
    have hle : nI (chs x).length ≤ nI i := (nJ_le (by omega) (by omega)).mpr (drop_n hd)
    refine ⟨h, ?_, fr_rf _ _, hp⟩
    rw [Rd_takeWord_13_eq, if_pos hx, bnd (z_len hx h)]
    exact if_pos (decide_eq_true hle)
  | cons c L ih =>
    intro i k e s h hd hi w t hp he hk
    obtain ⟨d1, d2, d3⟩ := drop_c hd
    have w0 := w
    have t0 := t
    obtain ⟨wS, wR, wG, wN⟩ := w
    obtain ⟨t1, t2, t3⟩ := t
    have hcc : c < 256 := hc c (by
      have : c ∈ (chs x).drop i := by rw [hd]; exact List.mem_cons_self
      exact List.mem_of_mem_drop this)
    have hle : ¬ nI (chs x).length ≤ nI i := by rw [nJ_le (by omega) (by omega)]; omega
    have ch := z_chr hx d1 (by omega) h
    rw [d2] at ch
    have tbe := tb e
    have te : (nI e).toNatClampNeg = e := nJ_n (by omega)
    have ne : ¬ nI e < 0 := nJ_nn (by omega)
    have e1 : nI i + 1 = nI (i + 1) := nJ_p1 i
    have e2 : nI e + 1 = nI (e + 1) := nJ_p1 e
    have e3 : nI k + 1 = nI (k + 1) := nJ_p1 k
    by_cases h32 : c = 32
    · subst h32
      have g109 : ∀ (b : Bool), lB T n e = b → ∃ h', Rd_takeWord_109 (bB b) 93 x (nI k) (nI e) (bB s) (nI i) h = some (twR (tW T n p (32 :: L) k e s), h') ∧ fr Sp h h' ∧ gI h' 93 3 = nI (twP p (tW T n p (32 :: L) k e s)) := by
        intro b hb
        rw [tW, if_pos rfl, hb, Rd_takeWord_109_eq]
        obtain ⟨h', r1, r2, r3⟩ := ih (i + 1) (k + 1) p true h d3 (by omega) w0 t0 hp (by omega) (by omega)
        cases s with
        | false =>
          refine ⟨h', ?_, r2, r3⟩
          simp only [wS, hp, show bB false = 0 from rfl, decide_true, ↓reduceIte, e1, e3, Bool.false_and, Bool.false_eq_true]
          exact r1
        | true =>
          cases b with
          | true =>
            refine ⟨h', ?_, r2, r3⟩
            simp only [wS, hp, show ¬ bB true = 0 by decide, decide_true, decide_false, Bool.false_eq_true, not_false_eq_true, ↓reduceIte, e1, e3, Bool.true_and, Bool.not_true]
            exact r1
          | false =>
            refine ⟨pI h 93 3 (nI e), ?_, fr_pI rfl, ?_⟩
            · simp only [wS, show ¬ bB true = 0 by decide, show bB false = 0 from rfl, decide_true, decide_false, Bool.false_eq_true, not_true_eq_false, ↓reduceIte, Bool.true_and, Bool.not_false]
              rfl
            · rw [gI_pI, if_pos ⟨rfl, rfl⟩]; rfl
      rw [Rd_takeWord_13_eq, if_pos hx, bnd (z_len hx h)]
      simp only [hle, decide_false, Bool.false_eq_true, ↓reduceIte, hx, and_self]
      rw [bnd ch]
      by_cases hen : e < n
      · have hl1 : ¬ nI n ≤ nI e := by rw [nJ_le (by omega) (by omega)]; omega
        have he4 : e < 400 := by omega
        by_cases h97 : T e < 97
        · have c1 : nI (T e) < 97 := (nJ_lt (a := T e) (b := 97) (by omega) (by omega)).mpr h97
          simp only [show nI 32 = 32 from rfl, decide_true, ↓reduceIte, wS, wR, t2, hl1, decide_false, Bool.false_eq_true, ax_in, te, ne, he4, not_false_eq_true, and_self, t3, c1]
          exact g109 false (by unfold lB; exact decide_eq_false (by omega))
        · have c1 : ¬ nI (T e) < 97 := fun q => h97 ((nJ_lt (a := T e) (b := 97) (by omega) (by omega)).mp q)
          by_cases h122 : 122 < T e
          · have c2 : 122 < nI (T e) := (nJ_lt (a := 122) (b := T e) (by omega) (by omega)).mpr h122
            simp only [show nI 32 = 32 from rfl, decide_true, ↓reduceIte, wS, wR, t2, hl1, decide_false, Bool.false_eq_true, ax_in, te, ne, he4, not_false_eq_true, and_self, t3, c1, c2]
            exact g109 false (by unfold lB; exact decide_eq_false (by omega))
          · have c2 : ¬ 122 < nI (T e) := fun q => h122 ((nJ_lt (a := 122) (b := T e) (by omega) (by omega)).mp q)
            simp only [show nI 32 = 32 from rfl, decide_true, ↓reduceIte, wS, wR, t2, hl1, decide_false, Bool.false_eq_true, ax_in, te, ne, he4, not_false_eq_true, and_self, t3, c1, c2]
            exact g109 true (by unfold lB; exact decide_eq_true (by omega))
      · have hl1 : nI n ≤ nI e := (nJ_le (by omega) (by omega)).mpr (by omega)
        simp only [show nI 32 = 32 from rfl, decide_true, ↓reduceIte, wS, t2, hl1]
        exact g109 false (by unfold lB; exact decide_eq_false (by omega))
    · have hn32 : ¬ nI c = 32 := by rw [show (32 : Int32) = nI 32 from rfl, nJ_eq (by omega) (by omega)]; exact h32
      have key : ∀ b : Bool, (s && decide (e < n ∧ T e = c)) = b → ∃ h', Rd_takeWord_13 93 x (nI k) (nI (e + 1)) (bB b) (nI (i + 1)) h = some (twR (tW T n p (c :: L) k e s), h') ∧ fr Sp h h' ∧ gI h' 93 3 = nI (twP p (tW T n p (c :: L) k e s)) := fun b hb => by
        rw [tW, if_neg h32, hb]
        exact ih (i + 1) k (e + 1) b h d3 (by omega) w0 t0 hp (by omega) (by omega)
      rw [Rd_takeWord_13_eq, if_pos hx, bnd (z_len hx h)]
      simp only [hle, decide_false, Bool.false_eq_true, ↓reduceIte, hx, and_self]
      rw [bnd ch]
      cases s with
      | false =>
        simp only [hn32, decide_false, Bool.false_eq_true, ↓reduceIte, show bB false = 0 from rfl, decide_true, e1, e2]
        exact key false rfl
      | true =>
        by_cases hen : e < n
        · have hl1 : ¬ nI n ≤ nI e := by rw [nJ_le (by omega) (by omega)]; omega
          have he4 : e < 400 := by omega
          by_cases hT : T e = c
          · simp only [hn32, decide_false, Bool.false_eq_true, ↓reduceIte, show ¬ bB true = 0 by decide, wS, wR, t2, hl1, ax_in, te, ne, he4, not_false_eq_true, and_self, t3, hT, not_true_eq_false, e1, e2]
            exact key true (by rw [Bool.true_and]; exact decide_eq_true ⟨hen, hT⟩)
          · have hnT : ¬ nI (T e) = nI c := by rw [nJ_eq (by omega) (by omega)]; exact hT
            simp only [hn32, decide_false, Bool.false_eq_true, ↓reduceIte, show ¬ bB true = 0 by decide, wS, wR, t2, hl1, ax_in, te, ne, he4, not_false_eq_true, and_self, t3, hnT, decide_true, e1, e2]
            exact key false (by rw [Bool.true_and]; exact decide_eq_false fun q => hT q.2)
        · have hl1 : nI n ≤ nI e := (nJ_le (by omega) (by omega)).mpr (by omega)
          simp only [hn32, decide_false, Bool.false_eq_true, ↓reduceIte, show ¬ bB true = 0 by decide, wS, t2, hl1, decide_true, e1, e2]
          exact key false (by rw [Bool.true_and]; exact decide_eq_false fun q => hen q.1)
end
theorem chs_b : ∀ x, 1 ≤ x ∧ x ≤ 34 → (chs x).length ≤ 200 ∧ ∀ c ∈ chs x, c < 256 := by
  have : ∀ x : Nat, x < 35 → 1 ≤ x → (chs x).length ≤ 200 ∧ ∀ c ∈ chs x, c < 256 := by decide +kernel
  exact fun x hx => this x (by omega) hx.1
theorem z_takeWord {T : Nat → Nat} {n : Nat} (tb : ∀ i, T i < 256) {x : Nat} (hx : 1 ≤ x ∧ x ≤ 7) {h : ax_H} (w : ok h) (t : TC h T n) {p : Nat} (hp : gI h 93 3 = nI p) (hp1 : p ≤ 1000) : ∃ h', Rd_takeWord 93 x h = some (twR (fW T n (wsL x) 0 p), h') ∧ fr Sp h h' ∧ gI h' 93 3 = nI (twP p (fW T n (wsL x) 0 p)) := by
  have hx' : 1 ≤ x ∧ x ≤ 34 := by omega
  obtain ⟨b1, b2⟩ := chs_b x hx'
  have := z_tw_13 tb hx' b1 b2 hp1 (chs x) 0 0 p true h rfl (by omega) w t hp (by omega) (by omega)
  rw [chs_j x hx, tW_j _ _ (wsL_l x hx)] at this
  obtain ⟨wS, wR, wG, wN⟩ := w
  rw [Rd_takeWord_eq]
  simp only [wS, ↓reduceIte, hp]
  exact this
