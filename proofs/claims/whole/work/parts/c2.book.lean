/-! the copy of a book; printed by a script as c0 is -/
def TBk (j k : Nat) : Bool := ((((((((((((((((((((((((((((false || Uone 0 0 j k) || Uone 1 0 j k) || Urow 2 30 j k) || Urow 3 30 j k) || Urow 4 30 j k) || Uone 5 0 j k) || Urow 6 16 j k) || Urow 7 16 j k) || Urow 8 16 j k) || Uone 9 0 j k) || Urow 10 100 j k) || Urow 11 100 j k) || Urow 12 100 j k) || Urow 13 100 j k) || Urow 14 100 j k) || Urow 15 100 j k) || Urow 16 100 j k) || Uone 0 4 j k) || Uone 0 6 j k) || Urow 18 40 j k) || Urow 19 40 j k) || Urow 20 40 j k) || Uone 0 10 j k) || Urow 21 9 j k) || Urow 22 9 j k) || Urow 23 24 j k) || Urow 24 24 j k) || Urow 25 8 j k)
def endC (h : ax_H) (d s : Nat) : ax_H := (cp1 (cp1 (cp1 (cp1 (cp1 (pI (cp1 (cp1 (cp1 (pI h (d + 0) 6 (gI h (s + 0) 6)) (s + 18) (d + 18) 40) (s + 19) (d + 19) 40) (s + 20) (d + 20) 40) (d + 0) 10 (gI (cp1 (cp1 (cp1 (pI h (d + 0) 6 (gI h (s + 0) 6)) (s + 18) (d + 18) 40) (s + 19) (d + 19) 40) (s + 20) (d + 20) 40) (s + 0) 10)) (s + 21) (d + 21) 9) (s + 22) (d + 22) 9) (s + 23) (d + 23) 24) (s + 24) (d + 24) 24) (s + 25) (d + 25) 8)
theorem z_cf_end {h : ax_H} {d s : Nat} (pd : bkP h d) (ps : bkP h s) : Bk_copyFrom_51 d s 10 h = some (endC h d s) := by
  have d0 : gS h d = (1, 0) := pd.1 0 _ rfl
  have s0 : gS h s = (1, 0) := ps.1 0 _ rfl
  have qd7 : gR h d 7 = d + 18 := pd.2 4 _ _ _ rfl
  have qs7 : gR h s 7 = s + 18 := ps.2 4 _ _ _ rfl
  have cd7 : ax_cp h (d + 18) 16 0 40 := acp_40 (pd.1 18 _ rfl)
  have cs7 : ax_cp h (s + 18) 16 0 40 := acp_40 (ps.1 18 _ rfl)
  have qd8 : gR h d 8 = d + 19 := pd.2 5 _ _ _ rfl
  have qs8 : gR h s 8 = s + 19 := ps.2 5 _ _ _ rfl
  have cd8 : ax_cp h (d + 19) 16 0 40 := acp_40 (pd.1 19 _ rfl)
  have cs8 : ax_cp h (s + 19) 16 0 40 := acp_40 (ps.1 19 _ rfl)
  have qd9 : gR h d 9 = d + 20 := pd.2 6 _ _ _ rfl
  have qs9 : gR h s 9 = s + 20 := ps.2 6 _ _ _ rfl
  have cd9 : ax_cp h (d + 20) 16 0 40 := acp_40 (pd.1 20 _ rfl)
  have cs9 : ax_cp h (s + 20) 16 0 40 := acp_40 (ps.1 20 _ rfl)
  have qd11 : gR h d 11 = d + 21 := pd.2 7 _ _ _ rfl
  have qs11 : gR h s 11 = s + 21 := ps.2 7 _ _ _ rfl
  have cd11 : ax_cp h (d + 21) 16 0 9 := acp_9 (pd.1 21 _ rfl)
  have cs11 : ax_cp h (s + 21) 16 0 9 := acp_9 (ps.1 21 _ rfl)
  have qd12 : gR h d 12 = d + 22 := pd.2 8 _ _ _ rfl
  have qs12 : gR h s 12 = s + 22 := ps.2 8 _ _ _ rfl
  have cd12 : ax_cp h (d + 22) 16 0 9 := acp_9 (pd.1 22 _ rfl)
  have cs12 : ax_cp h (s + 22) 16 0 9 := acp_9 (ps.1 22 _ rfl)
  have qd13 : gR h d 13 = d + 23 := pd.2 9 _ _ _ rfl
  have qs13 : gR h s 13 = s + 23 := ps.2 9 _ _ _ rfl
  have cd13 : ax_cp h (d + 23) 16 0 24 := acp_24 (pd.1 23 _ rfl)
  have cs13 : ax_cp h (s + 23) 16 0 24 := acp_24 (ps.1 23 _ rfl)
  have qd14 : gR h d 14 = d + 24 := pd.2 10 _ _ _ rfl
  have qs14 : gR h s 14 = s + 24 := ps.2 10 _ _ _ rfl
  have cd14 : ax_cp h (d + 24) 16 0 24 := acp_24 (pd.1 24 _ rfl)
  have cs14 : ax_cp h (s + 24) 16 0 24 := acp_24 (ps.1 24 _ rfl)
  have qd15 : gR h d 15 = d + 25 := pd.2 11 _ _ _ rfl
  have qs15 : gR h s 15 = s + 25 := ps.2 11 _ _ _ rfl
  have cd15 : ax_cp h (d + 25) 16 0 8 := acp_8 (pd.1 25 _ rfl)
  have cs15 : ax_cp h (s + 25) 16 0 8 := acp_8 (ps.1 25 _ rfl)
  rw [Bk_copyFrom_51_eq, if_pos (by decide)]
  simp only [gS_pI, gS_rI, gR_pI, gR_rI, acp_pI, acp_rI, d0, s0, qd7, qs7, eq_true cd7, eq_true cs7, qd8, qs8, eq_true cd8, eq_true cs8, qd9, qs9, eq_true cd9, eq_true cs9, qd11, qs11, eq_true cd11, eq_true cs11, qd12, qs12, eq_true cd12, eq_true cs12, qd13, qs13, eq_true cd13, eq_true cs13, qd14, qs14, eq_true cd14, eq_true cs14, qd15, qs15, eq_true cd15, eq_true cs15, lsum, show ¬ (40 : Int32) < 0 by decide, show ¬ (9 : Int32) < 0 by decide, show ¬ (24 : Int32) < 0 by decide, show ¬ (8 : Int32) < 0 by decide, not_false_eq_true, and_self, ↓reduceIte]
  rfl
theorem gR_pIf (h : ax_H) (a k : Nat) (v : Int32) : gR (pI h a k v) = gR h := rfl
theorem bkP_s {h h' : ax_H} {b : Nat} (e : gS h' = gS h) (r : gR h' = gR h) (p : bkP h b) : bkP h' b := bkP_eq (fun a _ _ => by rw [e]) (fun a j _ => by rw [r]) p
theorem z_Bk_copy {h : ax_H} {d s : Nat} (q : dsj d s) (pd : bkP h d) (ps : bkP h s) (hw : ∀ i, i < 10 → gR h (s + 17) i = 0 ∨ (gS h (gR h (s + 17) i)).1 = 5) : ∃ h', Bk_copyFrom d s h = some h' ∧ sam h h' ∧ CPy h h' d s TBk ∧ ∀ a i, gR h' a i = if a = d + 17 ∧ i < 10 then gR h (s + 17) i else gR h a i := by
  obtain ⟨h1, e1⟩ : ∃ h1, h1 = pI h (d + 0) 0 (gI h (s + 0) 0) := ⟨_, rfl⟩
  have S1 : gS h1 = gS h := by rw [e1]; rfl
  have R1 : gR h1 = gR h := by rw [e1]; rfl
  have m1 : sam h h1 := by rw [e1]; exact ⟨rfl, rfl, rfl, rfl⟩
  have x1 := z_St_copy (bkP_s S1 R1 pd) (bkP_s S1 R1 ps)
  obtain ⟨h2, e2⟩ : ∃ h2, h2 = cp1 (cp1 (cp1 (pI h1 (d + 1) 0 (gI h1 (s + 1) 0)) (s + 2) (d + 2) 30) (s + 3) (d + 3) 30) (s + 4) (d + 4) 30 := ⟨_, rfl⟩
  rw [← e2] at x1
  have m2 : sam h h2 := by rw [e2]; exact sam_tr m1 (sam_tr ((sam_tr ((sam_tr ((sam_tr (sam_rf _) (sam_pI _ _ _ _))) (sam_cp _ _ _ _))) (sam_cp _ _ _ _))) (sam_cp _ _ _ _))
  have S2 : gS h2 = gS h := m2.2.2.1
  have R2 : gR h2 = gR h := by rw [e2]; simp only [gR_cp1, gR_pIf]; exact R1
  have x2 := z_Pl_copy (bkP_s S2 R2 pd) (bkP_s S2 R2 ps)
  obtain ⟨h3, e3⟩ : ∃ h3, h3 = cp1 (cp1 (cp1 (pI h2 (d + 5) 0 (gI h2 (s + 5) 0)) (s + 6) (d + 6) 16) (s + 7) (d + 7) 16) (s + 8) (d + 8) 16 := ⟨_, rfl⟩
  rw [← e3] at x2
  have m3 : sam h h3 := by rw [e3]; exact sam_tr m2 (sam_tr ((sam_tr ((sam_tr ((sam_tr (sam_rf _) (sam_pI _ _ _ _))) (sam_cp _ _ _ _))) (sam_cp _ _ _ _))) (sam_cp _ _ _ _))
  have S3 : gS h3 = gS h := m3.2.2.1
  have R3 : gR h3 = gR h := by rw [e3]; simp only [gR_cp1, gR_pIf]; exact R2
  have x3 := z_Im_copy (bkP_s S3 R3 pd) (bkP_s S3 R3 ps)
  obtain ⟨h4, e4⟩ : ∃ h4, h4 = cp1 (cp1 (cp1 (cp1 (cp1 (cp1 (cp1 (pI h3 (d + 9) 0 (gI h3 (s + 9) 0)) (s + 10) (d + 10) 100) (s + 11) (d + 11) 100) (s + 12) (d + 12) 100) (s + 13) (d + 13) 100) (s + 14) (d + 14) 100) (s + 15) (d + 15) 100) (s + 16) (d + 16) 100 := ⟨_, rfl⟩
  rw [← e4] at x3
  have m4 : sam h h4 := by rw [e4]; exact sam_tr m3 (sam_tr ((sam_tr ((sam_tr ((sam_tr ((sam_tr ((sam_tr ((sam_tr ((sam_tr (sam_rf _) (sam_pI _ _ _ _))) (sam_cp _ _ _ _))) (sam_cp _ _ _ _))) (sam_cp _ _ _ _))) (sam_cp _ _ _ _))) (sam_cp _ _ _ _))) (sam_cp _ _ _ _))) (sam_cp _ _ _ _))
  have S4 : gS h4 = gS h := m4.2.2.1
  have R4 : gR h4 = gR h := by rw [e4]; simp only [gR_cp1, gR_pIf]; exact R3
  obtain ⟨h5, e5⟩ : ∃ h5, h5 = pI h4 (d + 0) 4 (gI h4 (s + 0) 4) := ⟨_, rfl⟩
  have m5 : sam h h5 := by rw [e5]; exact sam_tr m4 (sam_tr (sam_rf _) (sam_pI _ _ _ _))
  have S5 : gS h5 = gS h := m5.2.2.1
  have R5 : gR h5 = gR h := by rw [e5]; simp only [gR_cp1, gR_pIf]; exact R4
  obtain ⟨h6, a1, a2, a3, a4⟩ := z_cf_51 q 10 0 h5 (by omega) (bkP_s S5 R5 pd) (bkP_s S5 R5 ps) (fun i hi => by rw [S5, R5]; exact hw i hi)
  rw [R5] at a4
  have S6 : gS h6 = gS h := a2.2.2.1.trans S5

  have c5 : CPy h h5 d s (fun j k => ((((((((((((((((((false || Uone 0 0 j k) || Uone 1 0 j k) || Urow 2 30 j k) || Urow 3 30 j k) || Urow 4 30 j k) || Uone 5 0 j k) || Urow 6 16 j k) || Urow 7 16 j k) || Urow 8 16 j k) || Uone 9 0 j k) || Urow 10 100 j k) || Urow 11 100 j k) || Urow 12 100 j k) || Urow 13 100 j k) || Urow 14 100 j k) || Urow 15 100 j k) || Urow 16 100 j k) || Uone 0 4 j k)) := by
    have c1 : CPy h h1 d s (fun j k => (false || Uone 0 0 j k)) := by rw [e1]; exact CPy_o q (CPy_0 h d s) (i := 0) (by omega) 0
    have c2 : CPy h h2 d s (fun j k => (((((false || Uone 0 0 j k) || Uone 1 0 j k) || Urow 2 30 j k) || Urow 3 30 j k) || Urow 4 30 j k)) := by rw [e2]; exact (CPy_r q (CPy_r q (CPy_r q (CPy_o q c1 (i := 1) (by omega) 0) (i := 2) (by omega) 30) (i := 3) (by omega) 30) (i := 4) (by omega) 30)
    have c3 : CPy h h3 d s (fun j k => (((((((((false || Uone 0 0 j k) || Uone 1 0 j k) || Urow 2 30 j k) || Urow 3 30 j k) || Urow 4 30 j k) || Uone 5 0 j k) || Urow 6 16 j k) || Urow 7 16 j k) || Urow 8 16 j k)) := by rw [e3]; exact (CPy_r q (CPy_r q (CPy_r q (CPy_o q c2 (i := 5) (by omega) 0) (i := 6) (by omega) 16) (i := 7) (by omega) 16) (i := 8) (by omega) 16)
    have c4 : CPy h h4 d s (fun j k => (((((((((((((((((false || Uone 0 0 j k) || Uone 1 0 j k) || Urow 2 30 j k) || Urow 3 30 j k) || Urow 4 30 j k) || Uone 5 0 j k) || Urow 6 16 j k) || Urow 7 16 j k) || Urow 8 16 j k) || Uone 9 0 j k) || Urow 10 100 j k) || Urow 11 100 j k) || Urow 12 100 j k) || Urow 13 100 j k) || Urow 14 100 j k) || Urow 15 100 j k) || Urow 16 100 j k)) := by rw [e4]; exact (CPy_r q (CPy_r q (CPy_r q (CPy_r q (CPy_r q (CPy_r q (CPy_r q (CPy_o q c3 (i := 9) (by omega) 0) (i := 10) (by omega) 100) (i := 11) (by omega) 100) (i := 12) (by omega) 100) (i := 13) (by omega) 100) (i := 14) (by omega) 100) (i := 15) (by omega) 100) (i := 16) (by omega) 100)
    rw [e5]
    exact (CPy_o q c4 (i := 0) (by omega) 4)
  have c6 : CPy h h6 d s (fun j k => ((((((((((((((((((false || Uone 0 0 j k) || Uone 1 0 j k) || Urow 2 30 j k) || Urow 3 30 j k) || Urow 4 30 j k) || Uone 5 0 j k) || Urow 6 16 j k) || Urow 7 16 j k) || Urow 8 16 j k) || Uone 9 0 j k) || Urow 10 100 j k) || Urow 11 100 j k) || Urow 12 100 j k) || Urow 13 100 j k) || Urow 14 100 j k) || Urow 15 100 j k) || Urow 16 100 j k) || Uone 0 4 j k)) := fun a k => by rw [a3]; exact c5 a k
  have d0 : gS h d = (1, 0) := pd.1 0 _ rfl
  have s0 : gS h s = (1, 0) := ps.1 0 _ rfl
  have d1 : gS h (d + 1) = (2, 0) := pd.1 1 _ rfl
  have d5 : gS h (d + 5) = (3, 0) := pd.1 5 _ rfl
  have d9 : gS h (d + 9) = (4, 0) := pd.1 9 _ rfl
  have rd1 : gR h d 1 = d + 1 := pd.2 0 _ _ _ rfl
  have rs1 : gR h s 1 = s + 1 := ps.2 0 _ _ _ rfl
  have rd2 : gR h d 2 = d + 5 := pd.2 1 _ _ _ rfl
  have rs2 : gR h s 2 = s + 5 := ps.2 1 _ _ _ rfl
  have rd3 : gR h d 3 = d + 9 := pd.2 2 _ _ _ rfl
  have rs3 : gR h s 3 = s + 9 := ps.2 2 _ _ _ rfl
  have b6d : bkP h6 d := bkP_eq (h := h) (fun a _ _ => by rw [S6]) (fun a j z => by rw [a4, if_neg (by omega)]) pd
  have b6s : bkP h6 s := bkP_eq (h := h) (fun a _ _ => by rw [S6]) (fun a j z => by rw [a4, if_neg (by unfold dsj at q; omega)]) ps
  have fin := z_cf_end b6d b6s
  have cE : CPy h (endC h6 d s) d s TBk := (CPy_r q (CPy_r q (CPy_r q (CPy_r q (CPy_r q (CPy_o q (CPy_r q (CPy_r q (CPy_r q (CPy_o q c6 (i := 0) (by omega) 6) (i := 18) (by omega) 40) (i := 19) (by omega) 40) (i := 20) (by omega) 40) (i := 0) (by omega) 10) (i := 21) (by omega) 9) (i := 22) (by omega) 9) (i := 23) (by omega) 24) (i := 24) (by omega) 24) (i := 25) (by omega) 8)
  have sE : sam h6 (endC h6 d s) := (sam_tr ((sam_tr ((sam_tr ((sam_tr ((sam_tr ((sam_tr ((sam_tr ((sam_tr ((sam_tr ((sam_tr (sam_rf _) (sam_pI _ _ _ _))) (sam_cp _ _ _ _))) (sam_cp _ _ _ _))) (sam_cp _ _ _ _))) (sam_pI _ _ _ _))) (sam_cp _ _ _ _))) (sam_cp _ _ _ _))) (sam_cp _ _ _ _))) (sam_cp _ _ _ _))) (sam_cp _ _ _ _))
  have rE : gR (endC h6 d s) = gR h6 := by unfold endC; simp only [gR_cp1, gR_pIf]
  generalize endC h6 d s = hE at *
  refine ⟨hE, ?_, sam_tr m5 (sam_tr a2 sE), cE, fun a i => ?_⟩
  · have g1 : Bk_copyFrom_51 d s 0 h5 = Bk_copyFrom_51 d s 10 h6 := a1
    rw [Bk_copyFrom_eq]
    simp only [d0, s0, ↓reduceIte, gS_pI, gR_pI, rd1, rs1, d1]
    have y1 : St_copyFrom (d + 1) (s + 1) (pI h d 0 (gI h s 0)) = some h2 := by rw [e1] at x1; exact x1
    rw [bnd y1]
    simp only [S2, R2, d0, s0, d5, rd2, rs2, ↓reduceIte]
    rw [bnd x2]
    simp only [S3, R3, d0, s0, d9, rd3, rs3, ↓reduceIte]
    rw [bnd x3]
    simp only [S4, d0, s0, ↓reduceIte]
    have y5 : pI h4 d 4 (gI h4 s 4) = h5 := by rw [e5]; rfl
    rw [y5, g1, fin]
  · rw [rE, a4]
    by_cases z : a = d + 17 ∧ i < 10
    · rw [if_pos z, if_pos ⟨z.1, by omega, z.2⟩]
    · rw [if_neg z, if_neg fun y => z ⟨y.1, y.2.2⟩]
