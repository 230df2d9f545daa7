/-! the class's readWay -/
/-- a way made of what was read -/
def mkW (h h' : ax_H) (D : WD) : Prop := gN h' = gN h + 4 ∧ gZ h' ≤ gZ h + 416 ∧ (∀ a, a < gN h → gS h' a = gS h a) ∧ (∀ a k, a < gN h → gR h' a k = gR h a k) ∧ (∀ a k, a < gN h → gI h' a k = gI h a k) ∧ (∀ a k, a < gN h → gL h' a k = gL h a k) ∧ WC h' (gN h) D ∧ gR h' (gN h) 0 = gN h + 1 ∧ gR h' (gN h) 1 = gN h + 2 ∧ gR h' (gN h) 3 = gN h + 3
theorem stk_at {h : ax_H} {a : Nat} : ∀ (W : List Nat) (k x : Nat), stk h a W → W.reverse[k]? = some x → gI h a k = nI x
  | [], k, x, _, q => by cases q
  | y :: W, k, x, s, q => by
    rw [List.reverse_cons] at q
    by_cases z : k < W.reverse.length
    · rw [List.getElem?_append_left z] at q
      exact stk_at W k x s.2 q
    · rw [List.getElem?_append_right (by omega)] at q
      have hk : k - W.reverse.length = 0 := by
        by_cases y0 : k - W.reverse.length = 0
        · exact y0
        · rw [List.getElem?_eq_none (by show 1 ≤ _; omega)] at q; cases q
      rw [hk] at q
      have q' : y = x := Option.some.inj q
      have e : k = W.length := by rw [List.length_reverse] at hk z; omega
      rw [e, s.1, q']
theorem z_mkW {h : ax_H} (w : ok h) {p c ft : Nat} {hd : Int32} {dg hl : Nat → Int32} {L : List Cd} (r : RWd h p c ft hd dg hl (jnT L).reverse) (hE : (jnT L).length ≤ 400) : ∃ h', (let h5 := nW h 5 0 4; if (gS h5 93).1 = 6 then if (gS h5 (gR h5 93 13)).1 = 16 ∧ (gS h5 (gR h5 93 13)).2 ≤ 100000 ∧ (([.ref (gN h), .ref (gN h)] : List Value).map (fun v => v.category)).sum ≤ 8 then let h6 := rI (nW h5 16 (gS h5 (gR h5 93 13)).2 (gS h5 (gR h5 93 13)).2) (gN h5) (gI h5 (gR h5 93 13)); if (gS h6 (gN h5)).1 = 16 then if (gS h6 93).1 = 6 then if (gS h6 (gR h6 93 14)).1 = 16 ∧ (gS h6 (gR h6 93 14)).2 ≤ 100000 ∧ (([.ref (gN h5), .ref (gN h), .ref (gN h)] : List Value).map (fun v => v.category)).sum ≤ 8 then let h7 := rI (nW h6 16 (gS h6 (gR h6 93 14)).2 (gS h6 (gR h6 93 14)).2) (gN h6) (gI h6 (gR h6 93 14)); if (gS h7 (gN h6)).1 = 16 then if (gS h7 93).1 = 6 then if (gS h7 93).1 = 6 then (Rd_copyOfSteps 93 h7).bind (fun r8 => if (gS r8.2 (gN h)).1 = 5 then (Wy_init (gN h) (gN h5) (gN h6) (gI h7 93 6) r8.1 r8.2).bind (fun h9 => some ((gN h), h9) ) else none ) else none else none else none else none else none else none else none else none) = some (gN h, h') ∧ mkW h h' (dg, hl, hd, L) := by
  obtain ⟨⟨u1, u2, u3, u4, u5⟩, u6, u7, u8⟩ := r
  have wN := w.2.2.2
  obtain ⟨e97, e98, e13, e14⟩ := s97 w
  have s93 : gS h 93 = (6, 0) := by obtain ⟨wS, wR, wG, wN⟩ := w; simp only [wS]
  have s96 : gS h 96 = (16, 400) := by obtain ⟨wS, wR, wG, wN⟩ := w; simp only [wS]
  have r12 : gR h 93 12 = 96 := by obtain ⟨wS, wR, wG, wN⟩ := w; simp only [wR]
  obtain ⟨a, ha⟩ : ∃ a, a = gN h := ⟨_, rfl⟩
  have hlen : (jnT L).reverse.length = (jnT L).length := List.length_reverse
  obtain ⟨l, hl'⟩ : ∃ l, l = (jnT L).length := ⟨_, rfl⟩
  have tl : (nI l).toNatClampNeg = l := nJ_n (by omega)
  have nl : ¬ nI l < 0 := nJ_nn (by omega)
  rw [hlen, ← hl'] at u5
  obtain ⟨h5, E5⟩ : ∃ h5, h5 = nW h 5 0 4 := ⟨_, rfl⟩
  have S5 : ∀ x, gS h5 x = if x = a then (5, 0) else gS h x := fun x => by rw [E5, gS_nW, ha]
  have R5 : ∀ x k, gR h5 x k = if x = a then 0 else gR h x k := fun x k => by rw [E5, gR_nW, ha]
  have I5 : ∀ x k, gI h5 x k = if x = a then 0 else gI h x k := fun x k => by rw [E5, gI_nW, ha]
  have L5 : ∀ x k, gL h5 x k = if x = a then 0 else gL h x k := fun x k => by rw [E5, gL_nW, ha]
  have N5 : gN h5 = a + 1 := by rw [E5, gN_nW, ha]
  have Z5 : gZ h5 = gZ h + 4 := by rw [E5, gZ_nW]
  obtain ⟨h6, E6⟩ : ∃ h6, h6 = rI (nW h5 16 6 6) (a + 1) (gI h5 97) := ⟨_, rfl⟩
  have S6 : ∀ x, gS h6 x = if x = a + 1 then (16, 6) else gS h5 x := fun x => by rw [E6, gS_rI, gS_nW, N5]
  have R6 : ∀ x k, gR h6 x k = if x = a + 1 then 0 else gR h5 x k := fun x k => by rw [E6, gR_rI, gR_nW, N5]
  have I6 : ∀ x k, gI h6 x k = if x = a + 1 then gI h5 97 k else gI h5 x k := fun x k => by
    rw [E6, gI_rI, gI_nW, N5]
    by_cases q : x = a + 1
    · rw [if_pos q, if_pos q]
    · rw [if_neg q, if_neg q, if_neg q]
  have L6 : ∀ x k, gL h6 x k = if x = a + 1 then 0 else gL h5 x k := fun x k => by rw [E6, gL_rI, gL_nW, N5]
  have N6 : gN h6 = a + 2 := by rw [E6, gN_rI, gN_nW, N5]
  have Z6 : gZ h6 = gZ h5 + 6 := by rw [E6, gZ_rI, gZ_nW]
  obtain ⟨h7, E7⟩ : ∃ h7, h7 = rI (nW h6 16 6 6) (a + 2) (gI h6 98) := ⟨_, rfl⟩
  have S7 : ∀ x, gS h7 x = if x = a + 2 then (16, 6) else gS h6 x := fun x => by rw [E7, gS_rI, gS_nW, N6]
  have R7 : ∀ x k, gR h7 x k = if x = a + 2 then 0 else gR h6 x k := fun x k => by rw [E7, gR_rI, gR_nW, N6]
  have I7 : ∀ x k, gI h7 x k = if x = a + 2 then gI h6 98 k else gI h6 x k := fun x k => by
    rw [E7, gI_rI, gI_nW, N6]
    by_cases q : x = a + 2
    · rw [if_pos q, if_pos q]
    · rw [if_neg q, if_neg q, if_neg q]
  have L7 : ∀ x k, gL h7 x k = if x = a + 2 then 0 else gL h6 x k := fun x k => by rw [E7, gL_rI, gL_nW, N6]
  have N7 : gN h7 = a + 3 := by rw [E7, gN_rI, gN_nW, N6]
  have Z7 : gZ h7 = gZ h6 + 6 := by rw [E7, gZ_rI, gZ_nW]
  have g11 : gI h7 93 11 = nI l := by rw [I7, if_neg (by omega), I6, if_neg (by omega), I5, if_neg (by omega)]; exact u5
  have g6 : gI h7 93 6 = hd := by rw [I7, if_neg (by omega), I6, if_neg (by omega), I5, if_neg (by omega)]; exact u4
  have c93 : gS h7 93 = (6, 0) := by rw [S7, if_neg (by omega), S6, if_neg (by omega), S5, if_neg (by omega)]; exact s93
  have c96 : gS h7 96 = (16, 400) := by rw [S7, if_neg (by omega), S6, if_neg (by omega), S5, if_neg (by omega)]; exact s96
  have d12 : gR h7 93 12 = 96 := by rw [R7, if_neg (by omega), R6, if_neg (by omega), R5, if_neg (by omega)]; exact r12
  obtain ⟨h8, E8⟩ : ∃ h8, h8 = rI (nW h7 16 l l) (a + 3) (va_cpy (gI (nW h7 16 l l) 96) (gI (nW h7 16 l l) (a + 3)) 0 0 l) := ⟨_, rfl⟩
  have S8 : ∀ x, gS h8 x = if x = a + 3 then (16, l) else gS h7 x := fun x => by rw [E8, gS_rI, gS_nW, N7]
  have R8 : ∀ x k, gR h8 x k = if x = a + 3 then 0 else gR h7 x k := fun x k => by rw [E8, gR_rI, gR_nW, N7]
  have I8 : ∀ x k, gI h8 x k = if x = a + 3 then (if k < l then gI h7 96 k else 0) else gI h7 x k := fun x k => by
    rw [E8, gI_rI]
    by_cases q : x = a + 3
    · rw [if_pos q, if_pos q]
      by_cases z : k < l
      · rw [if_pos z, pk_cpy_in (by omega) (by omega), gI_nW, N7, if_neg (by omega)]
        congr 1
        omega
      · rw [if_neg z, pk_cpy_out (by omega), gI_nW, N7, if_pos rfl]
    · rw [if_neg q, if_neg q, gI_nW, N7, if_neg q]
  have L8 : ∀ x k, gL h8 x k = if x = a + 3 then 0 else gL h7 x k := fun x k => by rw [E8, gL_rI, gL_nW, N7]
  have N8 : gN h8 = a + 4 := by rw [E8, gN_rI, gN_nW, N7]
  have Z8 : gZ h8 = gZ h7 + l := by rw [E8, gZ_rI, gZ_nW]
  have cp : Rd_copyOfSteps 93 h7 = some (a + 3, h8) := by
    have q1 : ax_cp (nW h7 16 l l) 96 16 0 (nI l) := ⟨by rw [gS_nW, N7, if_neg (by omega), c96], by decide, by rw [gS_nW, N7, if_neg (by omega), c96, tl]; show 0 + l ≤ 400; omega⟩
    have q2 : ax_cp (nW h7 16 l l) (a + 3) 16 0 (nI l) := ⟨by rw [gS_nW, N7, if_pos rfl], by decide, by rw [gS_nW, N7, if_pos rfl, tl]; show 0 + l ≤ l; omega⟩
    have n93 : gS (nW h7 16 l l) 93 = (6, 0) := by rw [gS_nW, N7, if_neg (by omega)]; exact c93
    have n12 : gR (nW h7 16 l l) 93 12 = 96 := by rw [gR_nW, N7, if_neg (by omega)]; exact d12
    have n11 : gI (nW h7 16 l l) 93 11 = nI l := by rw [gI_nW, N7, if_neg (by omega)]; exact g11
    have hl4 : l ≤ 100000 := by omega
    rw [Rd_copyOfSteps_eq, E8]
    simp only [c93, ↓reduceIte, g11, tl, nl, not_false_eq_true, hl4, and_self, n93, n12, n11, N7, eq_true q1, eq_true q2, lsum, show (0 : Int32).toNatClampNeg = 0 from rfl]
  obtain ⟨h9, E9⟩ : ∃ h9, h9 = pR (pI (pR (pR h8 a 0 (a + 1)) a 1 (a + 2)) a 2 hd) a 3 (a + 3) := ⟨_, rfl⟩
  have s8 : gS h8 a = (5, 0) := by rw [S8, if_neg (by omega), S7, if_neg (by omega), S6, if_neg (by omega), S5, if_pos rfl]
  have wy : Wy_init a (a + 1) (a + 2) hd (a + 3) h8 = some h9 := by
    rw [Wy_init_eq, E9]
    simp only [gS_pR, gS_pI, s8, ↓reduceIte, lsum, show (5 : Nat) < 12 by decide, and_self]
  have S9 : gS h9 = gS h8 := by rw [E9]; rfl
  have I9 : ∀ x k, gI h9 x k = if x = a ∧ k = 2 then hd else gI h8 x k := fun x k => by rw [E9, gI_pR, gI_pI]; rfl
  have R9 : ∀ x k, gR h9 x k = if x = a ∧ k = 3 then a + 3 else if x = a ∧ k = 1 then a + 2 else if x = a ∧ k = 0 then a + 1 else gR h8 x k := fun x k => by rw [E9, gR_pR, gR_pI, gR_pR, gR_pR]
  have q0 : gR h9 a 0 = a + 1 := by rw [R9, if_neg (by omega), if_neg (by omega), if_pos ⟨rfl, rfl⟩]
  have q1 : gR h9 a 1 = a + 2 := by rw [R9, if_neg (by omega), if_pos ⟨rfl, rfl⟩]
  have q3 : gR h9 a 3 = a + 3 := by rw [R9, if_pos ⟨rfl, rfl⟩]
  refine ⟨h9, ?_, ?_⟩
  · have v1 : (([.ref a, .ref a] : List Value).map (fun v => v.category)).sum ≤ 8 := by show 1 + (1 + 0) ≤ 8; omega
    have v2 : (([.ref (a + 1), .ref a, .ref a] : List Value).map (fun v => v.category)).sum ≤ 8 := by show 1 + (1 + (1 + 0)) ≤ 8; omega
    have k13 : gR h5 93 13 = 97 := by rw [R5, if_neg (by omega)]; exact e13
    have k14 : gR h6 93 14 = 98 := by rw [R6, if_neg (by omega), R5, if_neg (by omega)]; exact e14
    have k97 : gS h5 97 = (16, 6) := by rw [S5, if_neg (by omega)]; exact e97
    have k98 : gS h6 98 = (16, 6) := by rw [S6, if_neg (by omega), S5, if_neg (by omega)]; exact e98
    have k93 : gS h5 93 = (6, 0) := by rw [S5, if_neg (by omega)]; exact s93
    have j93 : gS h6 93 = (6, 0) := by rw [S6, if_neg (by omega)]; exact k93
    have j1 : gS h6 (a + 1) = (16, 6) := by rw [S6, if_pos rfl]
    have j2 : gS h7 (a + 2) = (16, 6) := by rw [S7, if_pos rfl]
    simp only [← ha, ← E5, k93, k13, k97, N5, ↓reduceIte, v1, show (6 : Nat) ≤ 100000 by decide, and_self, ← E6, j1, j93, k14, k98, N6, v2, ← E7, j2, c93]
    rw [bnd cp]
    simp only [s8, ↓reduceIte, g6]
    rw [bnd wy]
  · unfold mkW
    rw [← ha]
    have G9 : gN h9 = a + 4 := by rw [E9]; exact N8
    refine ⟨by omega, by rw [show gZ h9 = gZ h8 by rw [E9]; rfl]; omega, fun x hx => ?_, fun x k hx => ?_, fun x k hx => ?_, fun x k hx => ?_, ⟨⟨by omega, by omega, by rw [S9, s8]⟩, ?_, ?_, ?_, fun t ht => ?_, fun t ht => ?_, ?_, fun k e z => ?_⟩, q0, q1, q3⟩
    · rw [S9, S8, if_neg (by omega), S7, if_neg (by omega), S6, if_neg (by omega), S5, if_neg (by omega)]
    · rw [R9, if_neg (by omega), if_neg (by omega), if_neg (by omega), R8, if_neg (by omega), R7, if_neg (by omega), R6, if_neg (by omega), R5, if_neg (by omega)]
    · rw [I9, if_neg (by omega), I8, if_neg (by omega), I7, if_neg (by omega), I6, if_neg (by omega), I5, if_neg (by omega)]
    · rw [show gL h9 x k = gL h8 x k by rw [E9]; rfl, L8, if_neg (by omega), L7, if_neg (by omega), L6, if_neg (by omega), L5, if_neg (by omega)]
    · rw [q0]; exact ⟨by omega, by omega, by rw [S9, S8, if_neg (by omega), S7, if_neg (by omega), S6, if_pos rfl]⟩
    · rw [q1]; exact ⟨by omega, by omega, by rw [S9, S8, if_neg (by omega), S7, if_pos rfl]⟩
    · rw [q3]; exact ⟨by omega, by omega, by rw [S9, S8, if_pos rfl, hl']⟩
    · rw [q0, I9, if_neg (by omega), I8, if_neg (by omega), I7, if_neg (by omega), I6, if_pos rfl, I5, if_neg (by omega)]; exact u6 t ht
    · rw [q1, I9, if_neg (by omega), I8, if_neg (by omega), I7, if_pos rfl, I6, if_neg (by omega), I5, if_neg (by omega)]; exact u7 t ht
    · rw [I9, if_pos ⟨rfl, rfl⟩]
    · have hk : k < l := by rw [hl']; exact (List.getElem?_eq_some_iff.mp z).1
      rw [q3, I9, if_neg (by omega), I8, if_pos rfl, if_pos hk, I7, if_neg (by omega), I6, if_neg (by omega), I5, if_neg (by omega)]
      refine stk_at _ k _ u8 ?_
      rw [← List.map_reverse, List.reverse_reverse, List.getElem?_map]
      have z' : (jnT L)[k]? = some e := z
      rw [z']
      rfl
