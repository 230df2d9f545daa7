/-! everything made: what stays holds at the start (printed by wip/gen/build.py) -/
def fk0 : Nat → Int32 := fun _ => 0
def fk1 : Nat → Int32 := fun k => if k < 8 then 10000 else 0
def alSt : Al := [(16, 30, 30, 1), (16, 30, 30, 2), (16, 30, 30, 3)]
def alPl : Al := [(16, 16, 16, 1), (16, 16, 16, 2), (16, 16, 16, 3)]
def alIm : Al := [(16, 100, 100, 1), (16, 100, 100, 2), (16, 100, 100, 3), (16, 100, 100, 4), (16, 100, 100, 5), (16, 100, 100, 6), (16, 100, 100, 7)]
def rsK : List (Nat × Nat × Nat) := rsB 65 82 alBk ((65, 3, 74) :: rsB 74 75 alIm ((65, 2, 70) :: rsB 70 71 alPl ((65, 1, 66) :: rsB 66 67 alSt [])))
def rsC : List (Nat × Nat × Nat) := (64, 4, 158) :: (64, 3, 99) :: rsB 99 155 alF2 ((99, 10, 107) :: rsB 99 100 alF1 ((64, 2, 93) :: rsB 93 94 alRd ((64, 1, 92) :: (64, 0, 65) :: rsK)))
def rsF : List (Nat × Nat × Nat) := rsB 159 160 alM rsC
section
theorem z_Bk_bl {L : Nat} {xs : Nat → Int32} {h : ax_H} {z : Nat} (p : bl L xs fk0 h 66 [] z) : ∃ h' zz, Bk_init 65 h = some h' ∧ bl L xs fk1 h' 92 rsK zz ∧ zz ≤ z + 2000 := by
  have f0 : ∀ k, fk0 k = 0 := fun _ => rfl
  have q1 := bl_nW p 4 (kd := 2) (len := 0) rfl (Or.inl (by omega)) (by omega)
  have y1 := z_St_init (h := nW h 2 0 4) (x := 66) (by rw [q1.1.1]; omega) (bl_S q1 66 (by omega) (by omega) rfl)
  have y1' : St_init 66 (nW h 2 0 4) = some (mkB 66 alSt (nW h 2 0 4)) := y1
  have q2 := bl_mkB (v := 66) (by omega) alSt 67 (nW h 2 0 4) [] _ (by decide +kernel) (Or.inl f0) (by omega) q1
  generalize mkB 66 alSt (nW h 2 0 4) = h2 at y1' q2
  have q2' : bl L xs fk0 h2 70 (rsB 66 67 alSt []) (z + 4 + szB alSt) := q2
  have q3 := bl_pR q2' (a := 65) (j := 1) (r := 66) (by omega) (by omega) (by decide +kernel)
  have q4 := bl_nW q3 4 (kd := 3) (len := 0) rfl (Or.inl (by omega)) (by omega)
  have y2 := z_Pl_init (h := nW (pR h2 65 1 66) 3 0 4) (x := 70) (by rw [q4.1.1]; omega) (bl_S q4 70 (by omega) (by omega) rfl)
  have y2' : Pl_init 70 (nW (pR h2 65 1 66) 3 0 4) = some (mkB 70 alPl (nW (pR h2 65 1 66) 3 0 4)) := y2
  have q5 := bl_mkB (v := 70) (by omega) alPl 71 _ _ _ (by decide +kernel) (Or.inl f0) (by omega) q4
  generalize mkB 70 alPl (nW (pR h2 65 1 66) 3 0 4) = h5 at y2' q5
  have q5' : bl L xs fk0 h5 74 (rsB 70 71 alPl ((65, 1, 66) :: rsB 66 67 alSt [])) (z + 4 + szB alSt + 4 + szB alPl) := q5
  have q6 := bl_pR q5' (a := 65) (j := 2) (r := 70) (by omega) (by omega) (by decide +kernel)
  have q7 := bl_nW q6 8 (kd := 4) (len := 0) rfl (Or.inl (by omega)) (by omega)
  have y3 := z_Im_init (h := nW (pR h5 65 2 70) 4 0 8) (x := 74) (by rw [q7.1.1]; omega) (bl_S q7 74 (by omega) (by omega) rfl)
  have y3' : Im_init 74 (nW (pR h5 65 2 70) 4 0 8) = some (mkB 74 alIm (nW (pR h5 65 2 70) 4 0 8)) := y3
  have q8 := bl_mkB (v := 74) (by omega) alIm 75 _ _ _ (by decide +kernel) (Or.inl f0) (by omega) q7
  generalize mkB 74 alIm (nW (pR h5 65 2 70) 4 0 8) = h8 at y3' q8
  have q8' : bl L xs fk0 h8 82 (rsB 74 75 alIm ((65, 2, 70) :: rsB 70 71 alPl ((65, 1, 66) :: rsB 66 67 alSt []))) (z + 4 + szB alSt + 4 + szB alPl + 8 + szB alIm) := q8
  have q9 := bl_pR q8' (a := 65) (j := 3) (r := 74) (by omega) (by omega) (by decide +kernel)
  have q10 := bl_mkB (v := 65) (by omega) alBk 82 _ _ _ (by decide +kernel) (Or.inl f0) (by omega) q9
  have q10' : bl L xs fk0 (mkB 65 alBk (pR h8 65 3 74)) 92 rsK (z + 4 + szB alSt + 4 + szB alPl + 8 + szB alIm + szB alBk) := q10
  have y4 : alB 65 1 (Bk_init_120 65 0) alBk (pR h8 65 3 74) = Bk_init_120 65 0 (mkB 65 alBk (pR h8 65 3 74)) := alB_run alBk _ (by rw [bl_S q9 65 (by omega) (by omega) rfl]) (by rw [q9.1.1]; omega)
  generalize mkB 65 alBk (pR h8 65 3 74) = h9 at y4 q10'
  obtain ⟨h', x1, x2, x3, x4⟩ := z_bi_120 (v := 65) (r := 90) (by omega) 8 0 h9 (by omega) (by rw [bl_S q10' 65 (by omega) (by omega) rfl]) (q10'.2.2.1 (65, 15, 90) (by decide +kernel)).2 (bl_S q10' 90 (by omega) (by omega) rfl)
  refine ⟨h', z + 4 + szB alSt + 4 + szB alPl + 8 + szB alIm + szB alBk, ?_, ?_, ?_⟩
  rotate_left
  · obtain ⟨⟨p1, p1'⟩, p2, p3, p4, p5, p6, ⟨p7, p7'⟩, p8, p9⟩ := q10'
    exact ⟨⟨by rw [x2.1]; exact p1, p1'⟩, fun i x hi hx => by rw [x2.2.2.1]; exact p2 i x hi hx, fun t ht => by rw [x3]; exact p3 t ht, fun a j ha h7 => by rw [x3]; exact p4 a j ha h7, fun a k h4 h9 => by rw [x4, if_neg (by omega)]; exact p5 a k h4 h9, fun k => (by
      rw [x4, p6 k]
      show _ = if k < 8 then _ else _
      by_cases q : k < 8
      · rw [if_pos ⟨rfl, by omega, q⟩, if_pos q]
      · rw [if_neg (by omega), if_neg q]
        rfl), ⟨by rw [x2.2.2.1]; exact p7, fun k => by rw [x4, if_neg (by omega)]; exact p7' k⟩, by rw [x2.2.1]; exact p8, fun hn => absurd hn (by omega)⟩
  · have : szB alSt = 90 ∧ szB alPl = 48 ∧ szB alIm = 700 ∧ szB alBk = 210 := by decide
    omega
  · have x1' : Bk_init_120 65 0 h9 = some h' := x1
    rw [z_Bk_al, if_pos ⟨by rw [bl_S p 65 (by omega) (by omega) rfl]; decide, lsum⟩, p.1.1, if_pos (by rw [bl_S q1 66 (by omega) (by omega) rfl]), bnd y1', if_pos (by rw [bl_S q2' 65 (by omega) (by omega) rfl]), show gN (pR h2 65 1 66) = 70 from q3.1.1, if_pos (by rw [bl_S q4 70 (by omega) (by omega) rfl]), bnd y2', if_pos (by rw [bl_S q5' 65 (by omega) (by omega) rfl]), show gN (pR h5 65 2 70) = 74 from q6.1.1, if_pos (by rw [bl_S q7 74 (by omega) (by omega) rfl]), bnd y3', if_pos (by rw [bl_S q8' 65 (by omega) (by omega) rfl]), y4]
    exact x1'
theorem bl_0 {L : Nat} {xs : Nat → Int32} : bl L xs fk0 (ax_h0 L xs) 64 [] 0 := by
  refine ⟨⟨rfl, by omega⟩, fun i x hi => absurd hi (by omega), fun t ht => absurd ht List.not_mem_nil, fun _ _ _ _ => rfl, fun a k h4 _ => ?_, fun k => rfl, ⟨rfl, fun k => rfl⟩, Nat.le_refl _, fun hn => absurd hn (by omega)⟩
  show (if a = 40 then xs k else 0) = 0
  rw [if_neg h4]
theorem z_B_bl {L : Nat} {xs : Nat → Int32} : ∃ h' zz, B_init 64 (nW (ax_h0 L xs) 0 0 5) = some h' ∧ bl L xs fk1 h' 159 rsC zz ∧ zz ≤ 8000 := by
  have b1 := bl_nW (bl_0 (L := L) (xs := xs)) 5 (kd := 0) (len := 0) rfl (Or.inl (by omega)) (by omega)
  have b2 := bl_nW b1 17 (kd := 1) (len := 0) rfl (Or.inl (by omega)) (by omega)
  obtain ⟨h2, z2, y1, b3, hz⟩ := z_Bk_bl b2
  have c1 := bl_pR b3 (a := 64) (j := 0) (r := 65) (by omega) (by omega) (by decide +kernel)
  have c2 := bl_nW c1 4 (kd := 21) (len := 4) rfl (Or.inl (by omega)) (by omega)
  have c3 := bl_pR c2 (a := 64) (j := 1) (r := 92) (by omega) (by omega) (by decide +kernel)
  have c4 := bl_nW c3 15 (kd := 6) (len := 0) rfl (Or.inl (by omega)) (by omega)
  have y2 : Rd_init 93 (nW (pR (nW (pR h2 64 0 65) 21 4 4) 64 1 92) 6 0 15) = some (mkB 93 alRd (nW (pR (nW (pR h2 64 0 65) 21 4 4) 64 1 92) 6 0 15)) := by
    rw [z_Rd_al, if_pos ⟨by rw [bl_S c4 93 (by omega) (by omega) rfl]; decide, lsum⟩]
    exact alB_run alRd _ (by rw [bl_S c4 93 (by omega) (by omega) rfl]) (by rw [c4.1.1]; omega)
  have c5 := bl_mkB (v := 93) (by omega) alRd 94 _ _ _ (by decide +kernel) (Or.inr (by omega)) (by omega) c4
  generalize mkB 93 alRd (nW (pR (nW (pR h2 64 0 65) 21 4 4) 64 1 92) 6 0 15) = h7 at y2 c5
  have c5' : bl L xs fk1 h7 99 (rsB 93 94 alRd ((64, 1, 92) :: (64, 0, 65) :: rsK)) (z2 + 4 + 15 + szB alRd) := c5
  have c6 := bl_pR c5' (a := 64) (j := 2) (r := 93) (by omega) (by omega) (by decide +kernel)
  have c7 := bl_nW c6 15 (kd := 7) (len := 0) rfl (Or.inl (by omega)) (by omega)
  have c8 := bl_mkB (v := 99) (by omega) alF1 100 _ _ _ (by decide +kernel) (Or.inr (by omega)) (by omega) c7
  have c8' : bl L xs fk1 (mkB 99 alF1 (nW (pR h7 64 2 93) 7 0 15)) 107 (rsB 99 100 alF1 ((64, 2, 93) :: rsB 93 94 alRd ((64, 1, 92) :: (64, 0, 65) :: rsK))) (z2 + 4 + 15 + szB alRd + 15 + szB alF1) := c8
  have c9 := bl_nG c8'
  have c10 := bl_pR c9 (a := 99) (j := 10) (r := 107) (by omega) (by omega) (by decide +kernel)
  have c11 := bl_mkB (v := 99) (by omega) alF2 155 _ _ _ (by decide +kernel) (Or.inr (by omega)) (by omega) c10
  have y3 : Ft_init 99 (nW (pR h7 64 2 93) 7 0 15) = some (mkB 99 alF2 (pR (nG (mkB 99 alF1 (nW (pR h7 64 2 93) 7 0 15)) 22 17 47 13) 99 10 107)) := by
    rw [z_Ft_al, if_pos ⟨by rw [bl_S c7 99 (by omega) (by omega) rfl]; decide, lsum⟩, alB_run alF1 _ (by rw [bl_S c7 99 (by omega) (by omega) rfl]) (by rw [c7.1.1]; omega), if_pos (by rw [bl_S c9 99 (by omega) (by omega) rfl]), c8'.1.1]
    exact alB_run alF2 _ (by rw [bl_S c10 99 (by omega) (by omega) rfl]) (by rw [c10.1.1]; omega)
  generalize mkB 99 alF2 (pR (nG (mkB 99 alF1 (nW (pR h7 64 2 93) 7 0 15)) 22 17 47 13) 99 10 107) = h10 at y3 c11
  have c11' : bl L xs fk1 h10 158 (rsB 99 155 alF2 ((99, 10, 107) :: rsB 99 100 alF1 ((64, 2, 93) :: rsB 93 94 alRd ((64, 1, 92) :: (64, 0, 65) :: rsK)))) (z2 + 4 + 15 + szB alRd + 15 + szB alF1 + 658 + szB alF2) := c11
  have c12 := bl_pR c11' (a := 64) (j := 3) (r := 99) (by omega) (by omega) (by decide +kernel)
  have c13 := bl_nW c12 3 (kd := 8) (len := 0) rfl (Or.inl (by omega)) (by omega)
  have c14 := bl_pR c13 (a := 64) (j := 4) (r := 158) (by omega) (by omega) (by decide +kernel)
  have y4 : Mx_init 158 (nW (pR h10 64 3 99) 8 0 3) = some (nW (pR h10 64 3 99) 8 0 3) := by
    rw [Mx_init_eq, if_pos ⟨by rw [bl_S c13 158 (by omega) (by omega) rfl]; decide, lsum⟩]
  refine ⟨pR (nW (pR h10 64 3 99) 8 0 3) 64 4 158, _, ?_, c14, ?_⟩
  · have s1 : gS (nW (ax_h0 L xs) 0 0 5) 64 = (0, 0) := bl_S b1 64 (by omega) (by omega) rfl
    have n1 : gN (nW (ax_h0 L xs) 0 0 5) = 65 := b1.1.1
    have s2 : gS h2 64 = (0, 0) := bl_S b3 64 (by omega) (by omega) rfl
    have n2 : gN h2 = 92 := b3.1.1
    have s7 : gS h7 64 = (0, 0) := bl_S c5' 64 (by omega) (by omega) rfl
    have n7 : gN h7 = 99 := c5'.1.1
    have s10 : gS h10 64 = (0, 0) := bl_S c11' 64 (by omega) (by omega) rfl
    have n10 : gN h10 = 158 := c11'.1.1
    generalize nW (ax_h0 L xs) 0 0 5 = h1 at *
    rw [B_init_eq]
    simp only [s1, n1, lsum, show (0 : Nat) < 12 by decide, and_self, ↓reduceIte, gS_nW]
    rw [bnd y1]
    simp only [s2, n2, ↓reduceIte, gN_pR, gN_nW, gS_nW, gS_pR, Nat.reduceAdd, Nat.reduceEqDiff]
    rw [bnd y2]
    simp only [s7, n7, ↓reduceIte, gN_pR, gN_nW, gS_nW, gS_pR, Nat.reduceAdd, Nat.reduceEqDiff]
    rw [bnd y3]
    simp only [s10, n10, ↓reduceIte, gN_pR, gN_nW, gS_nW, gS_pR, Nat.reduceAdd, Nat.reduceEqDiff]
    rw [bnd y4]
    simp only [s10, n10, ↓reduceIte, gN_pR, gN_nW, gS_nW, gS_pR, Nat.reduceAdd, Nat.reduceEqDiff]
  · have : szB alRd = 876 ∧ szB alF1 = 1309 ∧ szB alF2 = 85 := by decide
    omega
/-- Inv at the start -/
theorem made_inv {L : Nat} {xs : Nat → Int32} {h : ax_H} {z : Nat} (b9 : bl L xs fk1 h 207 rsF z) {h' : ax_H} (sm : sam h h') (eR : gR h' = gR h) (eI : ∀ a k, gI h' a k = if a = 196 ∧ 0 ≤ k ∧ k < 8 then -1 else gI h a k) : Inv h' := by
  have mm : ∀ t ∈ rfT, t ∈ rsF := by decide +kernel
  have hr : ∀ (i : Nat) (t : Nat × Nat × Nat), rfT[i]? = some t → gR h t.1 t.2.1 = t.2.2 := fun i t ht => (b9.2.2.1 t (mm t (List.mem_of_getElem? ht))).2
  have nr : ∀ t ∈ rsF, ¬ t.1 = 82 ∧ ¬ t.1 = 92 := by decide +kernel
  have w : ok h := by
    refine ⟨⟨b9.2.1 0 (0, 0) (by decide) rfl, b9.2.1 1 (1, 0) (by decide) rfl, b9.2.1 2 (2, 0) (by decide) rfl, b9.2.1 3 (16, 30) (by decide) rfl, b9.2.1 4 (16, 30) (by decide) rfl, b9.2.1 5 (16, 30) (by decide) rfl, b9.2.1 6 (3, 0) (by decide) rfl, b9.2.1 7 (16, 16) (by decide) rfl, b9.2.1 8 (16, 16) (by decide) rfl, b9.2.1 9 (16, 16) (by decide) rfl, b9.2.1 10 (4, 0) (by decide) rfl, b9.2.1 11 (16, 100) (by decide) rfl, b9.2.1 12 (16, 100) (by decide) rfl, b9.2.1 13 (16, 100) (by decide) rfl, b9.2.1 14 (16, 100) (by decide) rfl, b9.2.1 15 (16, 100) (by decide) rfl, b9.2.1 16 (16, 100) (by decide) rfl, b9.2.1 17 (16, 100) (by decide) rfl, b9.2.1 18 (20, 10) (by decide) rfl, b9.2.1 19 (16, 40) (by decide) rfl, b9.2.1 20 (16, 40) (by decide) rfl, b9.2.1 21 (16, 40) (by decide) rfl, b9.2.1 22 (16, 9) (by decide) rfl, b9.2.1 23 (16, 9) (by decide) rfl, b9.2.1 24 (16, 24) (by decide) rfl, b9.2.1 25 (16, 24) (by decide) rfl, b9.2.1 26 (16, 8) (by decide) rfl, b9.2.1 27 (16, 6) (by decide) rfl, b9.2.1 28 (21, 4) (by decide) rfl, b9.2.1 29 (6, 0) (by decide) rfl, b9.2.1 30 (16, 400) (by decide) rfl, b9.2.1 31 (16, 64) (by decide) rfl, b9.2.1 32 (16, 400) (by decide) rfl, b9.2.1 33 (16, 6) (by decide) rfl, b9.2.1 34 (16, 6) (by decide) rfl, b9.2.1 35 (7, 0) (by decide) rfl, b9.2.1 36 (16, 100) (by decide) rfl, b9.2.1 37 (16, 6) (by decide) rfl, b9.2.1 38 (16, 3) (by decide) rfl, b9.2.1 39 (16, 600) (by decide) rfl, b9.2.1 40 (16, 200) (by decide) rfl, b9.2.1 41 (16, 200) (by decide) rfl, b9.2.1 42 (16, 200) (by decide) rfl, b9.2.1 43 (22, 47) (by decide) rfl, b9.2.1 91 (17, 13) (by decide) rfl, b9.2.1 92 (16, 8) (by decide) rfl, b9.2.1 93 (16, 64) (by decide) rfl, b9.2.1 94 (8, 0) (by decide) rfl, b9.2.1 95 (11, 0) (by decide) rfl, b9.2.1 96 (16, 30) (by decide) rfl, b9.2.1 97 (16, 30) (by decide) rfl, b9.2.1 98 (16, 30) (by decide) rfl, b9.2.1 99 (16, 16) (by decide) rfl, b9.2.1 100 (16, 16) (by decide) rfl, b9.2.1 101 (16, 16) (by decide) rfl, b9.2.1 102 (16, 100) (by decide) rfl, b9.2.1 103 (16, 100) (by decide) rfl, b9.2.1 104 (16, 100) (by decide) rfl, b9.2.1 105 (16, 100) (by decide) rfl, b9.2.1 106 (16, 100) (by decide) rfl, b9.2.1 107 (16, 100) (by decide) rfl, b9.2.1 108 (18, 400) (by decide) rfl, b9.2.1 109 (16, 3000) (by decide) rfl, b9.2.1 110 (16, 3000) (by decide) rfl, b9.2.1 111 (16, 120) (by decide) rfl, b9.2.1 112 (16, 120) (by decide) rfl, b9.2.1 113 (16, 10) (by decide) rfl, b9.2.1 114 (16, 10) (by decide) rfl, b9.2.1 115 (16, 60) (by decide) rfl, b9.2.1 116 (16, 60) (by decide) rfl, b9.2.1 117 (16, 402) (by decide) rfl, b9.2.1 118 (17, 13) (by decide) rfl, b9.2.1 119 (17, 300) (by decide) rfl, b9.2.1 120 (19, 100) (by decide) rfl, b9.2.1 121 (16, 3) (by decide) rfl, b9.2.1 122 (17, 6) (by decide) rfl, b9.2.1 123 (17, 9) (by decide) rfl, b9.2.1 124 (17, 3) (by decide) rfl, b9.2.1 125 (17, 3) (by decide) rfl, b9.2.1 126 (17, 6) (by decide) rfl, b9.2.1 127 (19, 6) (by decide) rfl, b9.2.1 128 (16, 100) (by decide) rfl, b9.2.1 129 (16, 100) (by decide) rfl, b9.2.1 130 (19, 100) (by decide) rfl, b9.2.1 131 (19, 30) (by decide) rfl, b9.2.1 132 (16, 8) (by decide) rfl, b9.2.1 133 (16, 40) (by decide) rfl, b9.2.1 134 (16, 40) (by decide) rfl, b9.2.1 135 (16, 40) (by decide) rfl, b9.2.1 136 (16, 9) (by decide) rfl, b9.2.1 137 (16, 9) (by decide) rfl, b9.2.1 138 (16, 24) (by decide) rfl, b9.2.1 139 (16, 24) (by decide) rfl, b9.2.1 140 (16, 32000) (by decide) rfl, b9.2.1 141 (16, 8) (by decide) rfl, b9.2.1 142 (19, 4) (by decide) rfl⟩, ⟨hr 0 _ rfl, hr 1 _ rfl, hr 2 _ rfl, hr 3 _ rfl, hr 4 _ rfl, hr 5 _ rfl, hr 6 _ rfl, hr 7 _ rfl, hr 8 _ rfl, hr 9 _ rfl, hr 10 _ rfl, hr 11 _ rfl, hr 12 _ rfl, hr 13 _ rfl, hr 14 _ rfl, hr 15 _ rfl, hr 16 _ rfl, hr 17 _ rfl, hr 18 _ rfl, hr 19 _ rfl, hr 20 _ rfl, hr 21 _ rfl, hr 22 _ rfl, hr 23 _ rfl, hr 24 _ rfl, hr 25 _ rfl, hr 26 _ rfl, hr 27 _ rfl, hr 28 _ rfl, hr 29 _ rfl, hr 30 _ rfl, hr 31 _ rfl, hr 32 _ rfl, hr 33 _ rfl, hr 34 _ rfl, hr 35 _ rfl, hr 36 _ rfl, hr 37 _ rfl, hr 38 _ rfl, hr 39 _ rfl, hr 40 _ rfl, hr 41 _ rfl, hr 42 _ rfl, hr 43 _ rfl, hr 44 _ rfl, hr 45 _ rfl, hr 46 _ rfl, hr 47 _ rfl, hr 48 _ rfl, hr 49 _ rfl, hr 50 _ rfl, hr 51 _ rfl, hr 52 _ rfl, hr 53 _ rfl, hr 54 _ rfl, hr 55 _ rfl, hr 56 _ rfl, hr 57 _ rfl, hr 58 _ rfl, hr 59 _ rfl, hr 60 _ rfl, hr 61 _ rfl, hr 62 _ rfl, hr 63 _ rfl, hr 64 _ rfl, hr 65 _ rfl, hr 66 _ rfl, hr 67 _ rfl, hr 68 _ rfl, hr 69 _ rfl, hr 70 _ rfl, hr 71 _ rfl, hr 72 _ rfl, hr 73 _ rfl, hr 74 _ rfl, hr 75 _ rfl, hr 76 _ rfl, hr 77 _ rfl, hr 78 _ rfl, hr 79 _ rfl, hr 80 _ rfl, hr 81 _ rfl, hr 82 _ rfl, hr 83 _ rfl, hr 84 _ rfl, hr 85 _ rfl, hr 86 _ rfl, hr 87 _ rfl, hr 88 _ rfl, hr 89 _ rfl, hr 90 _ rfl, hr 91 _ rfl, hr 92 _ rfl, hr 93 _ rfl⟩, ⟨b9.2.2.2.2.2.2.2.2 (by omega), fun g hg => ?_⟩, by rw [b9.1.1]; omega⟩
    have sT : ∀ i : Nat, i < 91 → 44 ≤ i → shT[i]? = some (17, 13) := by decide +kernel
    exact bl_S b9 (108 + g) (by omega) (by omega) (sT _ (by omega) (by omega))
  have w' : ok h' := by
    obtain ⟨a1, a2, a3, a4⟩ := w
    exact ⟨by rw [sm.2.2.1]; exact a1, by rw [eR]; exact a2, by rw [sm.2.2.1, eR]; exact a3, by rw [sm.1]; exact a4⟩
  obtain ⟨⟨p1, p1'⟩, p2, p3, p4, p5, p6, ⟨p7, p7'⟩, p8, p9⟩ := b9
  have z0 : ∀ a k, ¬ a = 40 → ¬ a = 90 → ¬ a = 196 → gI h' a k = 0 := fun a k h1 h2 h3 => by rw [eI, if_neg (by omega)]; exact p5 a k h1 h2
  have z90 : ∀ k, gI h' 90 k = fk1 k := fun k => by rw [eI, if_neg (by omega)]; exact p6 k
  have z196 : ∀ k, k < 8 → gI h' 196 k = -1 := fun k hk => by rw [eI, if_pos ⟨rfl, by omega, hk⟩]
  have zV : ∀ a k, ¬ a = 90 → V h' a k = 0 := fun a k ha => by
    unfold V
    by_cases q : 65 ≤ a ∧ a ≤ 90
    · rw [if_pos q]; exact z0 a k (by omega) ha (by omega)
    · rw [if_neg q]
  have V90 : ∀ k, V h' 90 k = fk1 k := fun k => z90 k
  have cn : (V h' 66 0).toInt.toNat = 0 ∧ (V h' 70 0).toInt.toNat = 0 ∧ (V h' 74 0).toInt.toNat = 0 ∧ (V h' 65 4).toInt.toNat = 0 ∧ (V h' 65 6).toInt.toNat = 0 ∧ (V h' 65 10).toInt.toNat = 0 := by
    rw [zV 66 0 (by omega), zV 70 0 (by omega), zV 74 0 (by omega), zV 65 4 (by omega), zV 65 6 (by omega), zV 65 10 (by omega)]
    decide
  refine ⟨⟨w', ?_, ⟨?_, ?_, ?_, ⟨?_, ?_, ?_⟩, ?_, ?_, ?_, ?_⟩⟩, ⟨fun _ => 0, 0, fun _ => (by show 0 < 256; omega), ⟨by omega, z0 93 0 (by omega) (by omega) (by omega), fun i => z0 94 i (by omega) (by omega) (by omega)⟩, z0 159 17 (by omega) (by omega) (by omega), fun i => z0 172 i (by omega) (by omega) (by omega)⟩, ⟨fun _ => 0, fun j _ => ?_, fun j hj => ?_, fun k hk => ?_⟩⟩
  · unfold EQ
    have e2 : ∀ a b k, ¬ a = 40 → ¬ a = 90 → ¬ a = 196 → ¬ b = 90 → gI h' a k = V h' b k := fun a b k h1 h2 h3 h4 => (z0 a k h1 h2 h3).trans (zV b k h4).symm
    have e3 : ∀ a i b k, ¬ a = 40 → ¬ a = 90 → ¬ a = 196 → ¬ b = 90 → gI h' a i = V h' b k := fun a i b k h1 h2 h3 h4 => (z0 a i h1 h2 h3).trans (zV b k h4).symm
    refine ⟨e3 _ _ _ _ (by omega) (by omega) (by omega) (by omega), e3 _ _ _ _ (by omega) (by omega) (by omega) (by omega), e3 _ _ _ _ (by omega) (by omega) (by omega) (by omega), e3 _ _ _ _ (by omega) (by omega) (by omega) (by omega), e3 _ _ _ _ (by omega) (by omega) (by omega) (by omega), e3 _ _ _ _ (by omega) (by omega) (by omega) (by omega), e3 _ _ _ _ (by omega) (by omega) (by omega) (by omega), fun k => e2 _ _ k (by omega) (by omega) (by omega) (by omega), fun k => e2 _ _ k (by omega) (by omega) (by omega) (by omega), fun k => e2 _ _ k (by omega) (by omega) (by omega) (by omega), fun k => e2 _ _ k (by omega) (by omega) (by omega) (by omega), fun k => e2 _ _ k (by omega) (by omega) (by omega) (by omega), fun k => e2 _ _ k (by omega) (by omega) (by omega) (by omega), fun k => e2 _ _ k (by omega) (by omega) (by omega) (by omega), fun k => e2 _ _ k (by omega) (by omega) (by omega) (by omega), fun k => e2 _ _ k (by omega) (by omega) (by omega) (by omega), fun k => e2 _ _ k (by omega) (by omega) (by omega) (by omega), fun k => e2 _ _ k (by omega) (by omega) (by omega) (by omega), fun k => e2 _ _ k (by omega) (by omega) (by omega) (by omega), fun k => e2 _ _ k (by omega) (by omega) (by omega) (by omega), fun k => e2 _ _ k (by omega) (by omega) (by omega) (by omega), fun k => e2 _ _ k (by omega) (by omega) (by omega) (by omega), fun k => e2 _ _ k (by omega) (by omega) (by omega) (by omega), fun k => e2 _ _ k (by omega) (by omega) (by omega) (by omega), fun k => e2 _ _ k (by omega) (by omega) (by omega) (by omega), fun k => e2 _ _ k (by omega) (by omega) (by omega) (by omega), fun k hk => ?_⟩
    rw [V90, z196 k hk, if_pos rfl]
    exact if_pos hk
  · refine ⟨?_, ?_, ?_, ?_, ?_, ?_, ?_⟩
    · rw [zV 65 0 (by omega)]; unfold inI; decide
    · rw [zV 66 0 (by omega)]; unfold inI; decide
    · rw [zV 70 0 (by omega)]; unfold inI; decide
    · rw [zV 74 0 (by omega)]; unfold inI; decide
    · rw [zV 65 4 (by omega)]; unfold inI; decide
    · rw [zV 65 6 (by omega)]; unfold inI; decide
    · rw [zV 65 10 (by omega)]; unfold inI; decide
  · intro s hs
    exact absurd hs (by show ¬ s < (V h' 66 0).toInt.toNat; omega)
  · intro s hs
    exact absurd hs (by show ¬ s < (V h' 70 0).toInt.toNat; omega)
  · intro i hi
    exact absurd hi (by show ¬ i < (V h' 74 0).toInt.toNat; omega)
  · intro i j _ hi
    exact absurd hi (by show ¬ j < (V h' 74 0).toInt.toNat; omega)
  · intro i hi
    exact absurd hi (by show ¬ i < (V h' 74 0).toInt.toNat; omega)
  · intro s hs
    exact absurd hs (by show ¬ s < (V h' 65 6).toInt.toNat; omega)
  · intro s hs
    exact absurd hs (by show ¬ s < (V h' 65 10).toInt.toNat; omega)
  · intro j hj
    rw [zV 88 j (by omega), zV 89 j (by omega)]
    unfold inI
    decide
  · intro j hj
    rw [V90 j]
    unfold inI fk1
    rw [if_pos hj]
    decide
  · exact Or.inl (by rw [eR]; exact p4 82 j (fun t ht => fun y => (nr t ht).1 y.1) (by omega))
  · exact absurd hj (by show ¬ j < (V h' 65 4).toInt.toNat; omega)
  · exact Or.inl ⟨by rw [eR]; exact p4 92 k (fun t ht => fun y => (nr t ht).2 y.1) (by omega), z0 206 k (by omega) (by omega) (by omega)⟩
theorem ax_made {L : Nat} {xs : Nat → Int32} : ∃ h2 h4, B_init 64 (nW (ax_h0 L xs) 0 0 5) = some h2 ∧ gN h2 = 159 ∧ M_init 159 (nW h2 11 0 75) = some h4 ∧ Inv h4 ∧ gN h4 = 207 ∧ gZ h4 ≤ 100000 ∧ gS h4 40 = (24, L) ∧ ∀ k, gI h4 40 k = xs k := by
  obtain ⟨h2, zz, y1, b1, hz⟩ := z_B_bl (L := L) (xs := xs)
  have b2 := bl_nW b1 75 (kd := 11) (len := 0) rfl (Or.inl (by omega)) (by omega)
  have b3 := bl_mkB (v := 159) (by omega) alM 160 _ _ _ (by decide +kernel) (Or.inr (by omega)) (by omega) b2
  have b3' : bl L xs fk1 (mkB 159 alM (nW h2 11 0 75)) 207 rsF (zz + 75 + szB alM) := b3
  have y2 : M_init 159 (nW h2 11 0 75) = M_init_384 159 0 (mkB 159 alM (nW h2 11 0 75)) := by
    rw [z_M_al, if_pos ⟨by rw [bl_S b2 159 (by omega) (by omega) rfl]; decide, lsum⟩]
    exact alB_run alM _ (by rw [bl_S b2 159 (by omega) (by omega) rfl]) (by rw [b2.1.1]; omega)
  generalize mkB 159 alM (nW h2 11 0 75) = h3 at y2 b3'
  obtain ⟨h4, x1, x2, x3, x4⟩ := z_mi_384 (v := 159) (r := 196) (by omega) 8 0 h3 (by omega) (by rw [bl_S b3' 159 (by omega) (by omega) rfl]) (b3'.2.2.1 (159, 56, 196) (by decide +kernel)).2 (bl_S b3' 196 (by omega) (by omega) rfl)
  have iv := made_inv b3' x2 x3 x4
  obtain ⟨⟨p1, p1'⟩, p2, p3, p4, p5, p6, ⟨p7, p7'⟩, p8, p9⟩ := b3'
  have sz : szB alM = 40905 := by decide
  exact ⟨h2, h4, y1, b1.1.1, y2.trans x1, iv, by rw [x2.1]; exact p1, by rw [x2.2.1]; omega, by rw [x2.2.2.1]; exact p7, fun k => by rw [x4, if_neg (by omega)]; exact p7' k⟩
end
