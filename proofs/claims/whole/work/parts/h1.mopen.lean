/-! the reference's stack: top, opens, answers -/
theorem m_181 {h : ax_H} (w : ok h) : gS h 181 = (16, 402) ∧ gR h 159 35 = 181 := by obtain ⟨wS, wR, wG, wN⟩ := w; simp only [wS, wR, and_self]
theorem RM_d {h : ax_H} {w p c d : Nat} {o : List Nat} {E : Cd} (r : RM h w p c d o E) (d' : Nat) : RM (pI h 159 22 (nI d')) w p c d' o E := by
  obtain ⟨⟨r1, r2, r3, r4, r5, r6, r7⟩, r8, r9⟩ := r
  exact ⟨⟨by rw [gI_pI, if_neg (by omega)]; exact r1, by rw [gI_pI, if_neg (by omega)]; exact r2, by rw [gI_pI, if_neg (by omega)]; exact r3, by rw [gI_pI, if_neg (by omega)]; exact r4, by rw [gI_pI, if_pos ⟨rfl, rfl⟩], by rw [gI_pI, if_neg (by omega)]; exact r6, by rw [gI_pI, if_neg (by omega)]; exact r7⟩, stk_eq o (fun k _ => by rw [gI_pI, if_neg (by omega)]) r8, stk2_eq E (fun k _ => ⟨by rw [gI_pI, if_neg (by omega)], by rw [gI_pI, if_neg (by omega)]⟩) r9⟩
theorem RM_p {h : ax_H} {w p c d : Nat} {o : List Nat} {E : Cd} (r : RM h w p c d o E) (p' : Nat) : RM (pI h 159 18 (nI p')) w p' c d o E := RM_8 r (fr_pI rfl) (by rw [gI_pI, if_pos ⟨rfl, rfl⟩])
theorem RM_pop {h : ax_H} {w p c d k : Nat} {o : List Nat} {E : Cd} (r : RM h w p c d (k :: o) E) : RM (pI h 159 24 (nI o.length)) w p c d o E := by
  obtain ⟨⟨r1, r2, r3, r4, r5, r6, r7⟩, r8, r9⟩ := r
  exact ⟨⟨by rw [gI_pI, if_neg (by omega)]; exact r1, by rw [gI_pI, if_neg (by omega)]; exact r2, by rw [gI_pI, if_neg (by omega)]; exact r3, by rw [gI_pI, if_neg (by omega)]; exact r4, by rw [gI_pI, if_neg (by omega)]; exact r5, by rw [gI_pI, if_pos ⟨rfl, rfl⟩], by rw [gI_pI, if_neg (by omega)]; exact r7⟩, stk_eq o (fun k _ => by rw [gI_pI, if_neg (by omega)]) r8.2, stk2_eq E (fun k _ => ⟨by rw [gI_pI, if_neg (by omega)], by rw [gI_pI, if_neg (by omega)]⟩) r9⟩
theorem RM_psh {h : ax_H} {w p c d : Nat} {o : List Nat} {E : Cd} (r : RM h w p c d o E) (k : Nat) : RM (pI (pI h 181 o.length (nI k)) 159 24 (nI (o.length + 1))) w p c d (k :: o) E := by
  obtain ⟨⟨r1, r2, r3, r4, r5, r6, r7⟩, r8, r9⟩ := r
  refine ⟨⟨by rw [gI_pI, if_neg (by omega), gI_pI, if_neg (by omega)]; exact r1, by rw [gI_pI, if_neg (by omega), gI_pI, if_neg (by omega)]; exact r2, by rw [gI_pI, if_neg (by omega), gI_pI, if_neg (by omega)]; exact r3, by rw [gI_pI, if_neg (by omega), gI_pI, if_neg (by omega)]; exact r4, by rw [gI_pI, if_neg (by omega), gI_pI, if_neg (by omega)]; exact r5, by rw [gI_pI, if_pos ⟨rfl, rfl⟩, List.length_cons], by rw [gI_pI, if_neg (by omega), gI_pI, if_neg (by omega)]; exact r7⟩, ⟨by rw [gI_pI, if_neg (by omega), gI_pI, if_pos ⟨rfl, rfl⟩], stk_eq o (fun j hj => by rw [gI_pI, if_neg (by omega), gI_pI, if_neg (by omega)]) r8⟩, stk2_eq E (fun j _ => ⟨by rw [gI_pI, if_neg (by omega), gI_pI, if_neg (by omega)], by rw [gI_pI, if_neg (by omega), gI_pI, if_neg (by omega)]⟩) r9⟩
def tpI (o : List Nat) : Int32 := match o with
  | [] => -1
  | x :: _ => nI x
theorem zm_top {h : ax_H} (v : ok h) {w p c d : Nat} {o : List Nat} {E : Cd} (r : RM h w p c d o E) (ho : o.length ≤ 400) : M_top 159 h = some (tpI o, h) := by
  have r6 := r.1.2.2.2.2.2.1
  obtain ⟨e1, e2⟩ := m_181 v
  rw [M_top_eq, if_pos (m_159 v), r6]
  cases o with
  | nil => exact if_neg (by decide)
  | cons x o =>
    rw [List.length_cons] at ho
    have nz : ¬ nI (x :: o).length = 0 := fun z => by
      have := (nJ_eq (a := (x :: o).length) (b := 0) (by rw [List.length_cons]; omega) (by omega)).mp z
      rw [List.length_cons] at this
      omega
    have e3 : nI (x :: o).length - 1 = nI o.length := by rw [List.length_cons, show (1 : Int32) = nI 1 from rfl, nI_sb (by omega), Nat.add_sub_cancel]
    have tl : (nI o.length).toNatClampNeg = o.length := nJ_n (by omega)
    have nl : ¬ nI o.length < 0 := nJ_nn (by omega)
    have hl : o.length < 402 := by omega
    have g : gI h 181 o.length = nI x := r.2.1.1
    rw [if_pos (decide_eq_true nz), e3]
    simp only [m_159 v, ↓reduceIte, ax_in, e1, e2, tl, nl, hl, not_false_eq_true, and_self, g]
    rfl
theorem zm_op30 {h : ax_H} (v : ok h) {d l : Nat} (h22 : gI h 159 22 = nI d) (h24 : gI h 159 24 = nI l) (hl : l < 402) (x : Int32) : M_opens_30 159 x h = some (pI (pI (pI h 159 22 (nI (d + 1))) 181 l x) 159 24 (nI (l + 1))) := by
  obtain ⟨e1, e2⟩ := m_181 v
  have tl : (nI l).toNatClampNeg = l := nJ_n (by omega)
  have nl : ¬ nI l < 0 := nJ_nn (by omega)
  have g1 : gI (pI h 159 22 (nI (d + 1))) 159 24 = nI l := by rw [gI_pI, if_neg (by omega)]; exact h24
  have g2 : gI (pI (pI h 159 22 (nI (d + 1))) 181 l x) 159 24 = nI l := by rw [gI_pI, if_neg (by omega)]; exact g1
  rw [M_opens_30_eq]
  simp only [m_159 v, ↓reduceIte, h22, nJ_p1, gS_pI, gR_pI, e1, e2, ax_in, g1, tl, nl, hl, not_false_eq_true, and_self, g2]
theorem zm_opensA {h : ax_H} (v : ok h) {w p c d : Nat} {o : List Nat} {E : Cd} (r : RM h w p c d o E) (ho : o.length ≤ 400) {k : Nat} (hk : k = 10 ∨ k = 11) {k' : Int32} (ek : k' = nI k) : ∃ h', M_opens 159 k' h = some h' ∧ fr (Sv w) h h' ∧ RM h' w p c d (k :: o) E := by
  have r6 := r.1.2.2.2.2.2.1
  obtain ⟨e1, e2⟩ := m_181 v
  have tl : (nI o.length).toNatClampNeg = o.length := nJ_n (by omega)
  have nl : ¬ nI o.length < 0 := nJ_nn (by omega)
  have hl : o.length < 402 := by omega
  have n9 : ¬ k' = 9 := by rw [ek, show (9 : Int32) = nI 9 from rfl, nJ_eq (by omega) (by omega)]; omega
  have n12 : ¬ k' = 12 := by rw [ek, show (12 : Int32) = nI 12 from rfl, nJ_eq (by omega) (by omega)]; omega
  have g1 : gI (pI h 181 o.length k') 159 24 = nI o.length := by rw [gI_pI, if_neg (by omega)]; exact r6
  refine ⟨pI (pI h 181 o.length k') 159 24 (nI (o.length + 1)), ?_, fr_tr (fr_pI (Sv_t (by omega))) (fr_pI (Sv_t (by omega))), by rw [ek]; exact RM_psh r k⟩
  rw [M_opens_eq, if_neg (by rw [decide_eq_true_eq]; exact n9), if_pos (decide_eq_true n12)]
  simp only [m_159 v, ↓reduceIte, gS_pI, gR_pI, e1, e2, ax_in, r6, tl, nl, hl, not_false_eq_true, and_self, g1, nJ_p1]
theorem zm_opensD {h : ax_H} (v : ok h) {w p c d : Nat} {o : List Nat} {E : Cd} (r : RM h w p c d o E) (ho : o.length ≤ 400) (hd : d ≤ 10) (hp : p ≤ 400) {k : Nat} (hk : k = 9 ∨ k = 12) {k' : Int32} (ek : k' = nI k) : (d < 10 → ∃ h', M_opens 159 k' h = some h' ∧ fr (Sv w) h h' ∧ RM h' w p c (d + 1) (k :: o) E) ∧ (¬ d < 10 → ∃ h', M_opens 159 k' h = some h' ∧ fr (Sv w) h h' ∧ RF h' w (1 + 8 * p + 2) p) := by
  have r6 := r.1.2.2.2.2.2.1
  have r5 := r.1.2.2.2.2.1
  have r3 := r.1.2.2.1
  have z : nI d = 10 ↔ d = 10 := by rw [show (10 : Int32) = nI 10 from rfl, nJ_eq (by omega) (by omega)]
  have e0 : M_opens 159 k' h = if decide (¬ nI d = 10) = true then M_opens_30 159 k' h else (M_fails 159 2 (nI p) h).bind (fun h1 => M_opens_30 159 k' h1) := by
    rw [M_opens_eq]
    rcases hk with hk | hk
    · rw [ek, hk, if_pos (by decide), if_pos (m_159 v), r5, r3]
      simp only [m_159 v, ↓reduceIte]
    · rw [ek, hk, if_neg (by decide), if_neg (by decide), if_pos (m_159 v), r5, r3]
      simp only [m_159 v, ↓reduceIte]
  refine ⟨fun q => ?_, fun q => ?_⟩
  · refine ⟨pI (pI (pI h 159 22 (nI (d + 1))) 181 o.length k') 159 24 (nI (o.length + 1)), ?_, fr_tr (fr_tr (fr_pI (Sv_t (by omega))) (fr_pI (Sv_t (by omega)))) (fr_pI (Sv_t (by omega))), by rw [ek]; exact RM_psh (RM_d r (d + 1)) k⟩
    rw [e0, if_pos (decide_eq_true (show ¬ nI d = 10 from fun y => by have := z.mp y; omega))]
    exact zm_op30 v r5 r6 (by omega) k'
  · have hd10 : d = 10 := by omega
    have v1 : ok (pI h 159 19 (nI (1 + 8 * p + 2))) := ok_pI v _ _ _
    have q1 : gI (pI h 159 19 (nI (1 + 8 * p + 2))) 159 22 = nI d := by rw [gI_pI, if_neg (by omega)]; exact r5
    have q2 : gI (pI h 159 19 (nI (1 + 8 * p + 2))) 159 24 = nI o.length := by rw [gI_pI, if_neg (by omega)]; exact r6
    obtain ⟨a1, a2, a3, p', a4, a5⟩ := RF_of r (f := 1 + 8 * p + 2) (Nat.le_refl p) (by omega)
    refine ⟨pI (pI (pI (pI h 159 19 (nI (1 + 8 * p + 2))) 159 22 (nI (d + 1))) 181 o.length k') 159 24 (nI (o.length + 1)), ?_, fr_tr (fr_pI (Sv_t (by omega))) (fr_tr (fr_tr (fr_pI (Sv_t (by omega))) (fr_pI (Sv_t (by omega)))) (fr_pI (Sv_t (by omega)))), ?_⟩
    · rw [e0, if_neg (by rw [decide_eq_true_eq]; exact fun y => y (z.mpr hd10)), bnd (zm_failsG v r.1.1 p 2 (c' := 2) rfl)]
      exact zm_op30 v1 q1 q2 (by omega) k'
    · exact ⟨by rw [gI_pI, if_neg (by omega), gI_pI, if_neg (by omega), gI_pI, if_neg (by omega)]; exact a1, a2, by rw [gI_pI, if_neg (by omega), gI_pI, if_neg (by omega), gI_pI, if_neg (by omega)]; exact a3, p', by rw [gI_pI, if_neg (by omega), gI_pI, if_neg (by omega), gI_pI, if_neg (by omega)]; exact a4, a5⟩
def anW (k : Nat) : List Nat → Cd → Nat → List Nat × Cd × Nat
  | [], E, d => ([], E, d)
  | x :: W, E, d => if x = k then anW k W ((k, 0) :: E) (if k = 9 then d - 1 else d) else (x :: W, E, d)
theorem zm_an {k : Nat} (hk : k = 9 ∨ k = 10 ∨ k = 11) {w p c : Nat} (hw : w < 10) : ∀ (o : List Nat) (E : Cd) (d : Nat) (h : ax_H), ok h → RM h w p c d o E → o.length ≤ 400 → (∀ x ∈ o, x < 16) → E.length + o.length ≤ 299 → dpW o ≤ d → d ≤ 100 → ∃ h', M_answers_0 159 (nI k) h = some h' ∧ fr (Sv w) h h' ∧ RM h' w p c (anW k o E d).2.2 (anW k o E d).1 (anW k o E d).2.1 := by
  intro o
  induction o with
  | nil =>
    intro E d h v r ho hx hE hd hd2
    have tp := zm_top v r ho
    refine ⟨h, ?_, fr_rf _ _, r⟩
    rw [M_answers_0_eq, if_pos (m_159 v), bnd tp]
    exact if_pos (decide_eq_true (show ¬ (-1 : Int32) = nI k from fun z => nI_neg1 (by omega) z.symm))
  | cons x o ih =>
    intro E d h v r ho hx hE hd hd2
    have tp := zm_top v r ho
    rw [List.length_cons] at ho hE
    have hx0 := hx x List.mem_cons_self
    rw [anW]
    by_cases q : x = k
    · rw [if_pos q]
      subst q
      obtain ⟨h2, a1, a2, a3⟩ := zm_entryG v r hw (by omega) x 0 (k' := nI x) (x' := 0) rfl rfl
      have v2 := ok_fr a2 v
      have R3 := RM_pop a3
      have g24 : gI h2 159 24 = nI (o.length + 1) := a3.1.2.2.2.2.2.1
      have e24 : nI (o.length + 1) - 1 = nI o.length := by rw [show (1 : Int32) = nI 1 from rfl, nI_sb (by omega), Nat.add_sub_cancel]
      have g22 : gI (pI h2 159 24 (nI o.length)) 159 22 = nI d := R3.1.2.2.2.2.1
      rw [dpW] at hd
      have hd' : dpW o ≤ (if x = 9 then d - 1 else d) := by
        by_cases z : x = 9
        · rw [if_pos z]; rw [if_pos (Or.inl z)] at hd; omega
        · rw [if_neg z]; omega
      have R4 := RM_d R3 (if x = 9 then d - 1 else d)
      obtain ⟨h', b1, b2, b3⟩ := ih ((x, 0) :: E) (if x = 9 then d - 1 else d) (pI (pI h2 159 24 (nI o.length)) 159 22 (nI (if x = 9 then d - 1 else d))) (ok_pI (ok_pI v2 _ _ _) _ _ _) R4 (by omega) (fun y hy => hx y (List.mem_cons_of_mem _ hy)) (by rw [List.length_cons]; omega) hd' (by split <;> omega)
      refine ⟨h', ?_, fr_tr a2 (fr_tr (fr_pI (Sv_t (by omega))) (fr_tr (fr_pI (Sv_t (by omega))) b2)), b3⟩
      rw [← b1, M_answers_0_eq 159 (nI x) h, if_pos (m_159 v), bnd tp]
      show (if decide (¬ nI x = nI x) = true then _ else _) = _
      rw [if_neg (by rw [decide_eq_true_eq]; exact fun z => z rfl)]
      show (if (gS h 159).1 = 11 then (if decide (¬ gI h 159 19 = 0) = true then _ else _) else none) = _
      rw [if_pos (m_159 v), r.1.1, if_neg (by decide), if_pos (m_159 v), bnd a1]
      simp only [m_159 v2, ↓reduceIte, g24, e24, gS_pI, g22]
      by_cases z : x = 9
      · have z9 : nI x = 9 := by rw [z]; rfl
        have d1 : 1 ≤ d := by rw [if_pos (Or.inl z)] at hd; omega
        have e22 : nI d - 1 = nI (d - 1) := by rw [show (1 : Int32) = nI 1 from rfl, nI_sb d1]
        rw [if_neg (show ¬ decide (¬ nI x = 9) = true by rw [decide_eq_true_eq]; exact fun y => y z9), e22, show (if x = 9 then d - 1 else d) = d - 1 from if_pos z]
      · have z9 : ¬ nI x = 9 := by rw [show (9 : Int32) = nI 9 from rfl, nJ_eq (by omega) (by omega)]; exact z
        have e22 : nI d - 0 = nI d := by rw [show (0 : Int32) = nI 0 from rfl, nI_sb (by omega), Nat.sub_zero]
        rw [if_pos (show decide (¬ nI x = 9) = true from decide_eq_true z9), e22, show (if x = 9 then d - 1 else d) = d from if_neg z]
    · rw [if_neg q]
      have nz : ¬ nI x = nI k := by rw [nJ_eq (by omega) (by omega)]; exact q
      refine ⟨h, ?_, fr_rf _ _, r⟩
      rw [M_answers_0_eq, if_pos (m_159 v), bnd tp]
      exact if_pos (decide_eq_true nz)
theorem zm_answers {k : Nat} (hk : k = 9 ∨ k = 10 ∨ k = 11) {w p c d : Nat} (hw : w < 10) {o : List Nat} {E : Cd} {h : ax_H} (v : ok h) (r : RM h w p c d o E) (h1 : o.length ≤ 400) (h2 : ∀ x ∈ o, x < 16) (h3 : E.length + o.length ≤ 299) (h4 : dpW o ≤ d) (h5 : d ≤ 100) {k' : Int32} (ek : k' = nI k) : ∃ h', M_answers 159 k' h = some h' ∧ fr (Sv w) h h' ∧ RM h' w p c (anW k o E d).2.2 (anW k o E d).1 (anW k o E d).2.1 := by
  rw [M_answers_eq, ek]
  exact zm_an hk hw o E d h v r h1 h2 h3 h4 h5
/-- one pass of answers is one of bind -/
theorem an_9 : ∀ (B : List Nat) (E : Cd) (d : Nat), (∀ x ∈ B, 9 ≤ x) → anW 9 B E d = bdW 9 B E d
  | [], E, d, _ => rfl
  | x :: B, E, d, h => by
    have hx := h x List.mem_cons_self
    rw [anW, bdW]
    by_cases q : x = 9
    · rw [if_pos q, if_pos rfl, if_pos (show x ≤ 9 by omega), if_pos q, q]
      exact an_9 B _ _ (fun y hy => h y (List.mem_cons_of_mem _ hy))
    · rw [if_neg q, if_neg (by omega)]
theorem bd_bd {a b : Nat} (hab : a ≤ b) : ∀ (W : List Nat) (E : Cd) (d : Nat), bdW b (bdW a W E d).1 (bdW a W E d).2.1 (bdW a W E d).2.2 = bdW b W E d
  | [], E, d => rfl
  | x :: W, E, d => by
    rw [show bdW a (x :: W) E d = if x ≤ a then bdW a W ((x, 0) :: E) (if x = 9 then d - 1 else d) else (x :: W, E, d) from rfl]
    by_cases q : x ≤ a
    · rw [if_pos q, bd_bd hab W, show bdW b (x :: W) E d = if x ≤ b then bdW b W ((x, 0) :: E) (if x = 9 then d - 1 else d) else (x :: W, E, d) from rfl, if_pos (show x ≤ b by omega)]
    · rw [if_neg q]
theorem shp_9 : ∀ (B : List Nat) (E : Cd) (d : Nat), shp 0 B → shp 0 (bdW 9 B E d).1
  | [], E, d, h => trivial
  | x :: B, E, d, h => by
    rw [bdW]
    by_cases q : x ≤ 9
    · rw [if_pos q]
      rcases h with ⟨h1, h2, h3⟩ | ⟨h1, h2, h3⟩ | ⟨h1, h2, h3⟩ | ⟨h1, h3⟩
      · exact shp_9 B _ _ h3
      · omega
      · omega
      · omega
    · rw [if_neg q]; exact h
theorem an_10 {B : List Nat} (E : Cd) (d : Nat) (h : shp 0 B) (h9 : ∀ x r, B = x :: r → 9 < x) : anW 10 B E d = bdW 10 B E d ∧ shp 1 (bdW 10 B E d).1 := by
  cases B with
  | nil => exact ⟨rfl, trivial⟩
  | cons x B =>
    have hx := h9 x B rfl
    rw [anW, bdW]
    rcases h with ⟨h1, h2, h3⟩ | ⟨h1, h2, h3⟩ | ⟨h1, h2, h3⟩ | ⟨h1, h3⟩
    · omega
    · subst h1
      rw [if_pos rfl, if_neg (by omega), if_pos (by omega)]
      cases B with
      | nil => exact ⟨rfl, trivial⟩
      | cons y B =>
        have hy : 11 ≤ y := by rcases h3 with ⟨a, b, -⟩ | ⟨a, b, -⟩ | ⟨a, -⟩ | ⟨a, -⟩ <;> omega
        rw [anW, bdW, if_neg (by omega), if_neg (by omega)]
        exact ⟨rfl, h3⟩
    · rw [if_neg (by omega), if_neg (by omega)]
      exact ⟨rfl, Or.inr (Or.inr (Or.inl ⟨h1, by omega, h3⟩))⟩
    · rw [if_neg (by omega), if_neg (by omega)]
      exact ⟨rfl, Or.inr (Or.inr (Or.inr ⟨h1, h3⟩))⟩
theorem an_11 {B : List Nat} (E : Cd) (d : Nat) (h : shp 1 B) : anW 11 B E d = bdW 11 B E d := by
  cases B with
  | nil => rfl
  | cons x B =>
    rw [anW, bdW]
    rcases h with ⟨h1, h2, h3⟩ | ⟨h1, h2, h3⟩ | ⟨h1, h2, h3⟩ | ⟨h1, h3⟩
    · omega
    · omega
    · subst h1
      rw [if_pos rfl, if_neg (by omega), if_pos (by omega)]
      cases B with
      | nil => rfl
      | cons y B =>
        have hy : 12 ≤ y := by rcases h3 with ⟨a, b, -⟩ | ⟨a, b, -⟩ | ⟨a, b, -⟩ | ⟨a, -⟩ <;> omega
        rw [anW, bdW, if_neg (by omega), if_neg (by omega)]
    · rw [if_neg (by omega), if_neg (by omega)]
