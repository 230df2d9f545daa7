/-! making a book -/
theorem z_Bk_init {h : ax_H} {b : Nat} (hb : gN h = b + 1) (s : gS h b = (1, 0)) : ∃ h', Bk_init b h = some h' ∧ bkP h' b ∧ gN h' = b + 27 ∧ blwP b h h' ∧ gZ h' ≤ gZ h + 5400 := by
  have sh0 : ∀ (i : Nat) (x : Nat × Nat), i < 1 → shL[i]? = some x → gS h (b + i) = x := fun i x hi hx => by
    have : i = 0 := by omega
    subst this
    injection hx with hx
    rw [← hx]
    exact s
  have no0 : ∀ t ∈ ([] : List (Nat × Nat × Nat)), t.1 < 1 ∧ gR h (b + t.1) t.2.1 = b + t.2.2 := fun t ht => (List.not_mem_nil ht).elim
  have bl0 : blwP b h h := fun a _ => ⟨rfl, rfl, fun k => ⟨rfl, rfl⟩⟩
  have p1 : ptB' h h b 1 [] := ⟨hb, sh0, no0, bl0, by omega⟩
  have q1 := pt_nW p1 (kd := 2) (len := 0) 4 rfl
  have y1 := z_St_init (h := nW h 2 0 4) (x := b + 1) (by rw [q1.1]; omega) (q1.2.1 1 _ (by omega) rfl)
  have q2 := pt_al (pt_al (pt_al q1 (kd := 16) (len := 30) 30 rfl (i := 1) (j := 1) (by omega) (by decide)) (kd := 16) (len := 30) 30 rfl (i := 1) (j := 2) (by omega) (by decide)) (kd := 16) (len := 30) 30 rfl (i := 1) (j := 3) (by omega) (by decide)
  generalize alC (alC (alC (nW h 2 0 4) 16 30 30 (b + 1) 1) 16 30 30 (b + 1) 2) 16 30 30 (b + 1) 3 = h2 at y1 q2
  have q3 := pt_nW (pt_pR q2 (i := 0) (j := 1) (r := 1) (by omega) (by decide)) (kd := 3) (len := 0) 4 rfl
  have y2 := z_Pl_init (h := nW (pR h2 (b + 0) 1 (b + 1)) 3 0 4) (x := b + 5) (by rw [q3.1]; omega) (q3.2.1 5 _ (by omega) rfl)
  have q4 := pt_al (pt_al (pt_al q3 (kd := 16) (len := 16) 16 rfl (i := 5) (j := 1) (by omega) (by decide)) (kd := 16) (len := 16) 16 rfl (i := 5) (j := 2) (by omega) (by decide)) (kd := 16) (len := 16) 16 rfl (i := 5) (j := 3) (by omega) (by decide)
  generalize alC (alC (alC (nW (pR h2 (b + 0) 1 (b + 1)) 3 0 4) 16 16 16 (b + 5) 1) 16 16 16 (b + 5) 2) 16 16 16 (b + 5) 3 = h5 at y2 q4
  have q5 := pt_nW (pt_pR q4 (i := 0) (j := 2) (r := 5) (by omega) (by decide)) (kd := 4) (len := 0) 8 rfl
  have y3 := z_Im_init (h := nW (pR h5 (b + 0) 2 (b + 5)) 4 0 8) (x := b + 9) (by rw [q5.1]; omega) (q5.2.1 9 _ (by omega) rfl)
  have q6 := pt_al (pt_al (pt_al (pt_al (pt_al (pt_al (pt_al q5 (kd := 16) (len := 100) 100 rfl (i := 9) (j := 1) (by omega) (by decide)) (kd := 16) (len := 100) 100 rfl (i := 9) (j := 2) (by omega) (by decide)) (kd := 16) (len := 100) 100 rfl (i := 9) (j := 3) (by omega) (by decide)) (kd := 16) (len := 100) 100 rfl (i := 9) (j := 4) (by omega) (by decide)) (kd := 16) (len := 100) 100 rfl (i := 9) (j := 5) (by omega) (by decide)) (kd := 16) (len := 100) 100 rfl (i := 9) (j := 6) (by omega) (by decide)) (kd := 16) (len := 100) 100 rfl (i := 9) (j := 7) (by omega) (by decide)
  generalize alC (alC (alC (alC (alC (alC (alC (nW (pR h5 (b + 0) 2 (b + 5)) 4 0 8) 16 100 100 (b + 9) 1) 16 100 100 (b + 9) 2) 16 100 100 (b + 9) 3) 16 100 100 (b + 9) 4) 16 100 100 (b + 9) 5) 16 100 100 (b + 9) 6) 16 100 100 (b + 9) 7 = h8 at y3 q6
  have q7 := pt_pR q6 (i := 0) (j := 3) (r := 9) (by omega) (by decide)
  have q8 := pt_pR (pt_nW (pt_pR (pt_nW (pt_pR (pt_nW (pt_pR (pt_nW (pt_pR (pt_nW (pt_pR (pt_nW (pt_pR (pt_nW (pt_pR (pt_nW (pt_pR (pt_nW (pt_pR (pt_nW q7 (kd := 20) (len := 10) 10 rfl) (i := 0) (j := 5) (r := 17) (by omega) (by decide)) (kd := 16) (len := 40) 40 rfl) (i := 0) (j := 7) (r := 18) (by omega) (by decide)) (kd := 16) (len := 40) 40 rfl) (i := 0) (j := 8) (r := 19) (by omega) (by decide)) (kd := 16) (len := 40) 40 rfl) (i := 0) (j := 9) (r := 20) (by omega) (by decide)) (kd := 16) (len := 9) 9 rfl) (i := 0) (j := 11) (r := 21) (by omega) (by decide)) (kd := 16) (len := 9) 9 rfl) (i := 0) (j := 12) (r := 22) (by omega) (by decide)) (kd := 16) (len := 24) 24 rfl) (i := 0) (j := 13) (r := 23) (by omega) (by decide)) (kd := 16) (len := 24) 24 rfl) (i := 0) (j := 14) (r := 24) (by omega) (by decide)) (kd := 16) (len := 8) 8 rfl) (i := 0) (j := 15) (r := 25) (by omega) (by decide)) (kd := 16) (len := 6) 6 rfl) (i := 0) (j := 16) (r := 26) (by omega) (by decide)
  have ne : ∀ i, 0 < i → ¬ b = b + i := fun i hi => by omega
  have S2 : gS h2 b = (1, 0) := q2.2.1 0 _ (by omega) rfl
  have S5 : gS h5 b = (1, 0) := q4.2.1 0 _ (by omega) rfl
  have S8 : gS h8 b = (1, 0) := q6.2.1 0 _ (by omega) rfl
  have N2 : gN h2 = b + 5 := q2.1
  have N5 : gN h5 = b + 9 := q4.1
  have N8 : gN h8 = b + 17 := q6.1
  obtain ⟨h29, e29⟩ : ∃ h29, h29 = pR (nW (pR (nW (pR (nW (pR (nW (pR (nW (pR (nW (pR (nW (pR (nW (pR (nW (pR (nW (pR h8 (b + 0) 3 (b + 9)) 20 10 10) (b + 0) 5 (b + 17)) 16 40 40) (b + 0) 7 (b + 18)) 16 40 40) (b + 0) 8 (b + 19)) 16 40 40) (b + 0) 9 (b + 20)) 16 9 9) (b + 0) 11 (b + 21)) 16 9 9) (b + 0) 12 (b + 22)) 16 24 24) (b + 0) 13 (b + 23)) 16 24 24) (b + 0) 14 (b + 24)) 16 8 8) (b + 0) 15 (b + 25)) 16 6 6) (b + 0) 16 (b + 26) := ⟨_, rfl⟩
  rw [← e29] at q8
  obtain ⟨h', x1, x2, x3, x4⟩ := z_bi_120 (v := b) (r := b + 25) (by omega) 8 0 h29 (by omega) (by rw [show gS h29 b = (1, 0) from q8.2.1 0 _ (by omega) rfl]) (q8.2.2.1 (0, 15, 25) (by decide)).2 (q8.2.1 25 _ (by omega) rfl)
  refine ⟨h', ?_, ⟨fun i x hx => ?_, fun n i j r hr => ?_⟩, by rw [x2.1]; exact q8.1, fun a ha => ?_, by rw [x2.2.1]; exact q8.2.2.2.2⟩
  · have y1' : St_init (b + 1) (nW h 2 0 4) = some h2 := y1
    have y2' : Pl_init (b + 5) (nW (pR h2 b 1 (b + 1)) 3 0 4) = some h5 := y2
    have y3' : Im_init (b + 9) (nW (pR h5 b 2 (b + 5)) 4 0 8) = some h8 := y3
    rw [Bk_init_eq]
    simp only [s, hb, lsum, show (1 : Nat) < 12 by decide, and_self, ↓reduceIte, gS_nW]
    rw [bnd y1']
    simp only [S2, N2, ↓reduceIte, gN_pR, gS_nW, gS_pR]
    rw [bnd y2']
    simp only [S5, N5, ↓reduceIte, gN_pR, gS_nW, gS_pR]
    rw [bnd y3']
    simp only [S8, N8, ↓reduceIte, gN_pR, gN_nW, gS_nW, gS_pR, Nat.add_assoc, Nat.reduceAdd, ne 17 (by omega), ne 18 (by omega), ne 19 (by omega), ne 20 (by omega), ne 21 (by omega), ne 22 (by omega), ne 23 (by omega), ne 24 (by omega), ne 25 (by omega), ne 26 (by omega)]
    rw [e29] at x1
    exact x1
  · have hi : i < 27 := (List.getElem?_eq_some_iff.mp hx).1
    rw [x2.2.2.1]
    exact q8.2.1 i x hi hx
  · rw [x3]
    have hm := List.mem_of_getElem? hr
    exact (q8.2.2.1 (i, j, r) ((by decide : ∀ t ∈ rfL, t ∈ _) _ hm)).2
  · obtain ⟨z1, z2, z3⟩ := q8.2.2.2.1 a ha
    refine ⟨by rw [x2.2.2.1]; exact z1, by rw [x3]; exact z2, fun k => ⟨?_, by rw [x2.2.2.2]; exact (z3 k).2⟩⟩
    rw [x4, if_neg (by omega)]
    exact (z3 k).1
