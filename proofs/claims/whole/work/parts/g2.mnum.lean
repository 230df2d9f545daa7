/-! the reference's numbers, faults, entries -/
def Sv (w a k : Nat) : Bool := decide ((a = 159 ∧ (k = 18 ∨ k = 19 ∨ (21 ≤ k ∧ k ≤ 24))) ∨ a = 181 ∨ ((a = 173 ∨ a = 174) ∧ 300 * w ≤ k ∧ k < 300 * w + 300))
theorem Sv_t {w a k : Nat} (h : (a = 159 ∧ (k = 18 ∨ k = 19 ∨ (21 ≤ k ∧ k ≤ 24))) ∨ a = 181 ∨ ((a = 173 ∨ a = 174) ∧ 300 * w ≤ k ∧ k < 300 * w + 300)) : Sv w a k = true := decide_eq_true h
theorem Sv_f {w a k : Nat} (h : ¬ ((a = 159 ∧ (k = 18 ∨ k = 19 ∨ (21 ≤ k ∧ k ≤ 24))) ∨ a = 181 ∨ ((a = 173 ∨ a = 174) ∧ 300 * w ≤ k ∧ k < 300 * w + 300))) : Sv w a k = false := decide_eq_false h
theorem Sq_w {w : Nat} {h h' : ax_H} (q : fr Sq8 h h') : fr (Sv w) h h' := fr_le q fun a k z => by simp only [Sv, Sq8, decide_eq_false_iff_not] at z ⊢; omega
theorem TM_w {w : Nat} {h h' : ax_H} {T : Nat → Nat} {n : Nat} (q : fr (Sv w) h h') (t : TM h T n) : TM h' T n := ⟨(fr_I q (Sv_f (by omega))).trans t.1, fun i => (fr_I q (Sv_f (by omega))).trans (t.2 i)⟩
def stk2 (h : ax_H) (w : Nat) : Cd → Prop
  | [] => True
  | e :: E => (gI h 173 (300 * w + E.length) = nI e.1 ∧ gI h 174 (300 * w + E.length) = nI e.2) ∧ stk2 h w E
theorem stk2_eq {h h' : ax_H} {w : Nat} : ∀ E, (∀ k, k < E.length → gI h' 173 (300 * w + k) = gI h 173 (300 * w + k) ∧ gI h' 174 (300 * w + k) = gI h 174 (300 * w + k)) → stk2 h w E → stk2 h' w E
  | [], _, _ => trivial
  | e :: E, H, s => ⟨⟨(H E.length (by rw [List.length_cons]; omega)).1.trans s.1.1, (H E.length (by rw [List.length_cons]; omega)).2.trans s.1.2⟩, stk2_eq E (fun k hk => H k (by rw [List.length_cons]; omega)) s.2⟩
/-- the reference's reader, no fault told -/
def RM (h : ax_H) (w p c d : Nat) (o : List Nat) (E : Cd) : Prop := (gI h 159 19 = 0 ∧ gI h 159 20 = nI w ∧ gI h 159 18 = nI p ∧ gI h 159 23 = nI c ∧ gI h 159 22 = nI d ∧ gI h 159 24 = nI o.length ∧ gI h 159 21 = nI E.length) ∧ stk h 181 o ∧ stk2 h w E
/-- a fault told -/
def RF (h : ax_H) (w f q : Nat) : Prop := gI h 159 19 = nI f ∧ (1 ≤ f ∧ f ≤ 10000) ∧ gI h 159 20 = nI w ∧ ∃ p, gI h 159 18 = nI p ∧ p ≤ q
theorem RM_8 {h h' : ax_H} {w p c d : Nat} {o : List Nat} {E : Cd} (r : RM h w p c d o E) (q : fr Sq8 h h') {p' : Nat} (hp : gI h' 159 18 = nI p') : RM h' w p' c d o E := by
  obtain ⟨⟨r1, r2, r3, r4, r5, r6, r7⟩, r8, r9⟩ := r
  exact ⟨⟨(fr_I q rfl).trans r1, (fr_I q rfl).trans r2, hp, (fr_I q rfl).trans r4, (fr_I q rfl).trans r5, (fr_I q rfl).trans r6, (fr_I q rfl).trans r7⟩, stk_eq o (fun k _ => fr_I q rfl) r8, stk2_eq E (fun k _ => ⟨fr_I q rfl, fr_I q rfl⟩) r9⟩
theorem RF_8 {h h' : ax_H} {w f q : Nat} (r : RF h w f q) (s : fr Sq8 h h') {p' q' : Nat} (hp : gI h' 159 18 = nI p') (hq : p' ≤ q') : RF h' w f q' := ⟨(fr_I s rfl).trans r.1, r.2.1, (fr_I s rfl).trans r.2.2.1, p', hp, hq⟩
theorem RF_mono {h : ax_H} {w f q q' : Nat} (hq : q ≤ q') (r : RF h w f q) : RF h w f q' := by
  obtain ⟨a, b, c, p, e, g⟩ := r
  exact ⟨a, b, c, p, e, by omega⟩
theorem zm_failsG {h : ax_H} (w : ok h) (h0 : gI h 159 19 = 0) (p c : Nat) {c' : Int32} (hc : c' = nI c) : M_fails 159 c' (nI p) h = some (pI h 159 19 (nI (1 + 8 * p + c))) := by
  subst hc
  rw [M_fails_eq]
  simp only [m_159 w, ↓reduceIte, h0, not_true_eq_false, decide_false, Bool.false_eq_true, show (8 : Int32) = nI 8 from rfl, show (1 : Int32) = nI 1 from rfl, pk_mul, nI_add]
theorem zm_failsF {h : ax_H} (w : ok h) {u f q : Nat} (r : RF h u f q) (x y : Int32) : ∃ h', M_fails 159 x y h = some h' ∧ fr (Sv u) h h' ∧ RF h' u f q := by
  obtain ⟨a, b, c, p, e, g⟩ := r
  have nz : ¬ nI f = 0 := fun z => by have := (nJ_eq (a := f) (b := 0) (by omega) (by omega)).mp z; omega
  refine ⟨pI h 159 19 (nI f), ?_, fr_pI (Sv_t (by omega)), by rw [gI_pI, if_pos ⟨rfl, rfl⟩], b, by rw [gI_pI, if_neg (by omega)]; exact c, p, by rw [gI_pI, if_neg (by omega)]; exact e, g⟩
  rw [M_fails_eq]
  simp only [m_159 w, ↓reduceIte, a, nz, not_false_eq_true, decide_true]
theorem RF_of {h : ax_H} {w p c d : Nat} {o : List Nat} {E : Cd} (r : RM h w p c d o E) {q f : Nat} (hp : p ≤ q) (hf : 1 ≤ f ∧ f ≤ 10000) : RF (pI h 159 19 (nI f)) w f q := ⟨by rw [gI_pI, if_pos ⟨rfl, rfl⟩], hf, by rw [gI_pI, if_neg (by omega)]; exact r.1.2.1, p, by rw [gI_pI, if_neg (by omega)]; exact r.1.2.2.1, hp⟩
theorem zm_entryG {h : ax_H} (v : ok h) {w p c d : Nat} {o : List Nat} {E : Cd} (r : RM h w p c d o E) (hw : w < 10) (hE : E.length < 300) (k x : Nat) {k' x' : Int32} (ek : k' = nI k) (ex : x' = nI x) : ∃ h', M_entry 159 k' x' h = some h' ∧ fr (Sv w) h h' ∧ RM h' w p c d o ((k, x) :: E) := by
  subst ek
  subst ex
  obtain ⟨⟨r1, r2, r3, r4, r5, r6, r7⟩, r8, r9⟩ := r
  have e27 : gR h 159 27 = 173 ∧ gR h 159 28 = 174 ∧ gS h 173 = (16, 3000) ∧ gS h 174 = (16, 3000) := by obtain ⟨wS, wR, wG, wN⟩ := v; simp only [wS, wR, and_self]
  obtain ⟨f1, f2, f3, f4⟩ := e27
  have ti : (nI (300 * w + E.length)).toNatClampNeg = 300 * w + E.length := nJ_n (by omega)
  have ni : ¬ nI (300 * w + E.length) < 0 := nJ_nn (by omega)
  have hi : 300 * w + E.length < 3000 := by omega
  refine ⟨pI (pI (pI h 173 (300 * w + E.length) (nI k)) 174 (300 * w + E.length) (nI x)) 159 21 (nI (E.length + 1)), ?_, fr_tr (fr_tr (fr_pI (Sv_t (by omega))) (fr_pI (Sv_t (by omega)))) (fr_pI (Sv_t (by omega))), ⟨?_, ?_, ?_, ?_, ?_, ?_, ?_⟩, ?_, ?_⟩
  · have g20 : ∀ a j v, ¬ a = 159 → gI (pI h a j v) 159 20 = nI w := fun a j v z => by rw [gI_pI, if_neg (by omega)]; exact r2
    have g21 : ∀ a j v, ¬ a = 159 → gI (pI h a j v) 159 21 = nI E.length := fun a j v z => by rw [gI_pI, if_neg (by omega)]; exact r7
    have g21' : gI (pI (pI h 173 (300 * w + E.length) (nI k)) 174 (300 * w + E.length) (nI x)) 159 21 = nI E.length := by rw [gI_pI, if_neg (by omega)]; exact g21 _ _ _ (by omega)
    rw [M_entry_eq]
    simp only [m_159 v, ↓reduceIte, r1, not_true_eq_false, decide_false, Bool.false_eq_true, r2, r7, show (300 : Int32) = nI 300 from rfl, pk_mul, nI_add, f1, f2, f3, f4, ax_in, ti, ni, hi, not_false_eq_true, and_self, gS_pI, gR_pI, g20 173 _ _ (by omega), g21 173 _ _ (by omega), g21', nJ_p1]
  · rw [gI_pI, if_neg (by omega), gI_pI, if_neg (by omega), gI_pI, if_neg (by omega)]; exact r1
  · rw [gI_pI, if_neg (by omega), gI_pI, if_neg (by omega), gI_pI, if_neg (by omega)]; exact r2
  · rw [gI_pI, if_neg (by omega), gI_pI, if_neg (by omega), gI_pI, if_neg (by omega)]; exact r3
  · rw [gI_pI, if_neg (by omega), gI_pI, if_neg (by omega), gI_pI, if_neg (by omega)]; exact r4
  · rw [gI_pI, if_neg (by omega), gI_pI, if_neg (by omega), gI_pI, if_neg (by omega)]; exact r5
  · rw [gI_pI, if_neg (by omega), gI_pI, if_neg (by omega), gI_pI, if_neg (by omega)]; exact r6
  · rw [gI_pI, if_pos ⟨rfl, rfl⟩, List.length_cons]
  · exact stk_eq o (fun j _ => by rw [gI_pI, if_neg (by omega), gI_pI, if_neg (by omega), gI_pI, if_neg (by omega)]) r8
  · refine ⟨⟨by rw [gI_pI, if_neg (by omega), gI_pI, if_neg (by omega), gI_pI, if_pos ⟨rfl, rfl⟩], by rw [gI_pI, if_neg (by omega), gI_pI, if_pos ⟨rfl, rfl⟩]⟩, stk2_eq E (fun j hj => ⟨?_, ?_⟩) r9⟩
    · rw [gI_pI, if_neg (by omega), gI_pI, if_neg (by omega), gI_pI, if_neg (by omega)]
    · rw [gI_pI, if_neg (by omega), gI_pI, if_neg (by omega), gI_pI, if_neg (by omega)]
theorem zm_entryF {h : ax_H} (v : ok h) {u f q : Nat} (r : RF h u f q) (x y : Int32) : M_entry 159 x y h = some h := by
  have nz : ¬ nI f = 0 := fun z => by have := (nJ_eq (a := f) (b := 0) (by have := r.2.1; omega) (by omega)).mp z; have := r.2.1; omega
  rw [M_entry_eq, if_pos (m_159 v), r.1, if_pos (decide_eq_true nz)]
theorem zm_countG {h : ax_H} (v : ok h) {w p c d : Nat} {o : List Nat} {E : Cd} (r : RM h w p c d o E) (hc : c ≤ 60) {b q : Nat} (hp : p ≤ q) (hb : b ≤ 1000) : (c + 1 ≤ 60 → ∃ h', M_isCounted 159 (nI b) h = some h' ∧ fr (Sv w) h h' ∧ RM h' w p (c + 1) d o E) ∧ (¬ c + 1 ≤ 60 → ∃ h', M_isCounted 159 (nI b) h = some h' ∧ fr (Sv w) h h' ∧ RF h' w (1 + 8 * b + 3) q) := by
  have r' := r
  obtain ⟨⟨r1, r2, r3, r4, r5, r6, r7⟩, r8, r9⟩ := r
  have z : nI c = 60 ↔ c = 60 := by rw [show (60 : Int32) = nI 60 from rfl, nJ_eq (by omega) (by omega)]
  refine ⟨fun h1 => ⟨pI h 159 23 (nI (c + 1)), ?_, fr_pI (Sv_t (by omega)), ⟨?_, ?_, ?_, ?_, ?_, ?_, ?_⟩, ?_, ?_⟩, fun h1 => ?_⟩
  · rw [M_isCounted_eq]
    simp only [m_159 v, ↓reduceIte, r4, show ¬ nI c = 60 from fun y => by have := z.mp y; omega, not_false_eq_true, decide_true, nJ_p1]
  · rw [gI_pI, if_neg (by omega)]; exact r1
  · rw [gI_pI, if_neg (by omega)]; exact r2
  · rw [gI_pI, if_neg (by omega)]; exact r3
  · rw [gI_pI, if_pos ⟨rfl, rfl⟩]
  · rw [gI_pI, if_neg (by omega)]; exact r5
  · rw [gI_pI, if_neg (by omega)]; exact r6
  · rw [gI_pI, if_neg (by omega)]; exact r7
  · exact stk_eq o (fun j _ => by rw [gI_pI, if_neg (by omega)]) r8
  · exact stk2_eq E (fun j _ => ⟨by rw [gI_pI, if_neg (by omega)], by rw [gI_pI, if_neg (by omega)]⟩) r9
  · have c60 : c = 60 := by omega
    have f1 := zm_failsG v r1 b 3 (c' := 3) rfl
    have g23 : gI (pI h 159 19 (nI (1 + 8 * b + 3))) 159 23 = nI c := by rw [gI_pI, if_neg (by omega)]; exact r4
    obtain ⟨a1, a2, a3, p', a4, a5⟩ := RF_of r' (f := 1 + 8 * b + 3) hp (by omega)
    refine ⟨pI (pI h 159 19 (nI (1 + 8 * b + 3))) 159 23 (nI (c + 1)), ?_, fr_tr (fr_pI (Sv_t (by omega))) (fr_pI (Sv_t (by omega))), by rw [gI_pI, if_neg (by omega)]; exact a1, a2, by rw [gI_pI, if_neg (by omega)]; exact a3, p', by rw [gI_pI, if_neg (by omega)]; exact a4, a5⟩
    rw [M_isCounted_eq]
    simp only [m_159 v, ↓reduceIte, r4, z.mpr c60, not_true_eq_false, decide_false, Bool.false_eq_true]
    rw [bnd f1]
    simp only [gS_pI, m_159 v, ↓reduceIte, g23, nJ_p1]
theorem zm_countF {h : ax_H} (v : ok h) {u f q : Nat} (r : RF h u f q) (x : Int32) : ∃ h', M_isCounted 159 x h = some h' ∧ fr (Sv u) h h' ∧ RF h' u f q := by
  have up : ∀ {h1 : ax_H}, RF h1 u f q → ∀ y : Int32, RF (pI h1 159 23 y) u f q := fun r1 y => by
    obtain ⟨a1, a2, a3, p', a4, a5⟩ := r1
    exact ⟨by rw [gI_pI, if_neg (by omega)]; exact a1, a2, by rw [gI_pI, if_neg (by omega)]; exact a3, p', by rw [gI_pI, if_neg (by omega)]; exact a4, a5⟩
  rw [M_isCounted_eq]
  by_cases z : gI h 159 23 = 60
  · obtain ⟨h1, a1, a2, a3⟩ := zm_failsF v r 3 x
    have v1 := ok_fr a2 v
    refine ⟨pI h1 159 23 (gI h1 159 23 + 1), ?_, fr_tr a2 (fr_pI (Sv_t (by omega))), up a3 _⟩
    simp only [m_159 v, ↓reduceIte, z, not_true_eq_false, decide_false, Bool.false_eq_true]
    rw [bnd a1]
    simp only [m_159 v1, ↓reduceIte]
  · refine ⟨pI h 159 23 (gI h 159 23 + 1), ?_, fr_pI (Sv_t (by omega)), up r _⟩
    simp only [m_159 v, ↓reduceIte, z, not_false_eq_true, decide_true]
