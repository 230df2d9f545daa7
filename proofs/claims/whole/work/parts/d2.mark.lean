/-! mark: the reference -/
def mkF (h : ax_H) (k : Nat) : ax_H := pI (pI (pI (pI (pI (pI (pI (pI (pI h 205 0 (gI h 159 1)) 205 1 (gI h 159 2)) 205 2 (gI h 159 3)) 205 3 (gI h 159 4)) 205 4 (gI h 159 20)) 205 5 (gI h 159 59)) 205 6 (gI h 159 63)) 206 k 1) 159 74 0
def mkG (h : ax_H) (k : Nat) : ax_H := pI (mkF h k) 159 73 (nI (8000 * k))
theorem mkG_I (h : ax_H) (k a j : Nat) (h1 : ¬ a = 205) (h2 : ¬ a = 206) (h3 : ¬ (a = 159 ∧ (j = 73 ∨ j = 74))) : gI (mkG h k) a j = gI h a j := by
  unfold mkG mkF
  rw [gI_pI, if_neg (by omega), gI_pI, if_neg (by omega), gI_pI, if_neg (by omega), gI_pI, if_neg (by omega), gI_pI, if_neg (by omega), gI_pI, if_neg (by omega), gI_pI, if_neg (by omega), gI_pI, if_neg (by omega), gI_pI, if_neg (by omega), gI_pI, if_neg (by omega)]
theorem mkG_205 (h : ax_H) (k j : Nat) : gI (mkG h k) 205 j = if j = 6 then gI h 159 63 else if j = 5 then gI h 159 59 else if j = 4 then gI h 159 20 else if j = 3 then gI h 159 4 else if j = 2 then gI h 159 3 else if j = 1 then gI h 159 2 else if j = 0 then gI h 159 1 else gI h 205 j := by
  unfold mkG mkF
  simp only [gI_pI, Nat.reduceEqDiff, false_and, true_and, ↓reduceIte]
theorem mkG_206 (h : ax_H) (k j : Nat) : gI (mkG h k) 206 j = if j = k then 1 else gI h 206 j := by
  unfold mkG mkF
  simp only [gI_pI, Nat.reduceEqDiff, false_and, true_and, ↓reduceIte]
theorem mkG_73 (h : ax_H) (k : Nat) : gI (mkG h k) 159 73 = nI (8000 * k) := by
  unfold mkG mkF
  rw [gI_pI, if_pos ⟨rfl, rfl⟩]
theorem mkG_74 (h : ax_H) (k : Nat) : gI (mkG h k) 159 74 = 0 := by
  unfold mkG mkF
  rw [gI_pI, if_neg (by omega), gI_pI, if_pos ⟨rfl, rfl⟩]
theorem mkG_ok {h : ax_H} (w : ok h) (k : Nat) : ok (mkG h k) := ok_pI (ok_pI (ok_pI (ok_pI (ok_pI (ok_pI (ok_pI (ok_pI (ok_pI (ok_pI w _ _ _) _ _ _) _ _ _) _ _ _) _ _ _) _ _ _) _ _ _) _ _ _) _ _ _) _ _ _
theorem mkG_sam (h : ax_H) (k : Nat) : sam h (mkG h k) := sam_tr (sam_tr (sam_tr (sam_tr (sam_tr (sam_tr (sam_tr (sam_tr (sam_tr (sam_pI _ _ _ _) (sam_pI _ _ _ _)) (sam_pI _ _ _ _)) (sam_pI _ _ _ _)) (sam_pI _ _ _ _)) (sam_pI _ _ _ _)) (sam_pI _ _ _ _)) (sam_pI _ _ _ _)) (sam_pI _ _ _ _)) (sam_pI _ _ _ _)
theorem mkG_R (h : ax_H) (k : Nat) : gR (mkG h k) = gR h := by
  unfold mkG mkF
  simp only [gR_pIf]
theorem zm_mark {h : ax_H} (w : ok h) {k : Nat} (hk : k < 4) : ∃ h', M_mark 159 (nI k) h = some (gI h 159 1, h') ∧ sam h h' ∧ gR h' = gR h ∧ ∀ a j, gI h' a j = if a = 204 ∧ 8000 * k ≤ j ∧ j < 8000 * k + 7320 then segV (mkG h k) crL (j - 8000 * k) else if a = 159 ∧ j = 73 then nI (8000 * k + 7320) else gI (mkG h k) a j := by
  obtain ⟨h', a1, a2, a3, a4⟩ := co_all cfL crL (8000 * k) (mkG h k) (mkG_ok w k) (fld_ok (mkG_ok w k)) (by rw [tot_ok]; omega) (mkG_74 h k) (mkG_73 h k)
  rw [tot_ok] at a4
  refine ⟨h', ?_, sam_tr (mkG_sam h k) a2, a3.trans (mkG_R h k), a4⟩
  have hz : gI h' 159 1 = gI h 159 1 := by rw [a4, if_neg (by omega), if_neg (by omega), mkG_I h k 159 1 (by omega) (by omega) (by omega)]
  have S' : gS h' = gS h := a2.2.2.1.trans (mkG_sam h k).2.2.1
  have SF : gS (mkF h k) = gS h := rfl
  have w0 := w
  obtain ⟨wS, wR, wG, wN⟩ := w
  have w' : (gS h' 159).1 = 11 := by rw [S']; simp only [wS]
  have e1 : M_in (Int32.toInt64 (nI k)) 0 3 h = some (1, h) := by
    rw [zm_in, bI, if_pos]
    rw [Int32.toInt_toInt64, nJ_i (by omega)]
    exact ⟨by show (0 : Int) ≤ _; omega, by show _ ≤ (3 : Int); omega⟩
  have c1 : M_carries 159 (nI k) (mkF h k) = some h' := by
    rw [carries_F, if_pos (by rw [SF]; simp only [wS]), show (8000 : Int32) * nI k = nI (8000 * k) by rw [show (8000 : Int32) = nI 8000 from rfl, pk_mul]]
    exact a1
  unfold mkF at c1
  rw [M_mark_eq, bnd e1]
  simp only [gS_pI, gR_pI, gI_pI, wS, wR, ↓reduceIte, decide_eq_true_eq, show ¬ (1 : Int32) = 0 by decide, not_false_eq_true, ax_in, show ¬ (0 : Int32) < 0 by decide, show ¬ (1 : Int32) < 0 by decide, show ¬ (2 : Int32) < 0 by decide, show ¬ (3 : Int32) < 0 by decide, show ¬ (4 : Int32) < 0 by decide, show ¬ (5 : Int32) < 0 by decide, show ¬ (6 : Int32) < 0 by decide, show (0 : Int32).toNatClampNeg = 0 from rfl, show (1 : Int32).toNatClampNeg = 1 from rfl, show (2 : Int32).toNatClampNeg = 2 from rfl, show (3 : Int32).toNatClampNeg = 3 from rfl, show (4 : Int32).toNatClampNeg = 4 from rfl, show (5 : Int32).toNatClampNeg = 5 from rfl, show (6 : Int32).toNatClampNeg = 6 from rfl, Nat.reduceLT, Nat.reduceLeDiff, nJ_n (show k < 2147483648 by omega), nJ_nn (show k < 2147483648 by omega), hk, and_self, true_and, false_and, Nat.reduceEqDiff, show ((1 : Int32) &&& 1) = 1 from rfl]
  rw [bnd c1]
  simp only [w', ↓reduceIte, hz]
/-! mark: the class -/
theorem ok_pR {h : ax_H} (w : ok h) {a : Nat} (ha : a = 82 ∨ a = 92) (k v : Nat) : ok (pR h a k v) := by
  obtain ⟨wS, wR, wG, wN⟩ := w
  have r : ∀ x j, ¬ x = a → gR (pR h a k v) x j = gR h x j := fun x j z => by rw [gR_pR, if_neg (fun y => z y.1)]
  refine ⟨wS, ?_, ⟨fun g hg => ?_, wG.2⟩, wN⟩
  · simp (disch := omega) only [okR, r, wR, and_self]
  · rw [r 107 g (by omega)]; exact wG.1 g hg
def mkd (h h1 : ax_H) (k b : Nat) : Prop := (207 ≤ b ∧ b + 27 ≤ gN h1 ∧ bkP h1 b ∧ gR h1 92 k = b) ∧ (gN h ≤ gN h1 ∧ gN h1 ≤ gN h + 30 ∧ gZ h1 ≤ gZ h + 6000) ∧ (b = gN h ∨ (b + 27 ≤ gN h ∧ gR h 92 k = b)) ∧ (∀ a, a < gN h → gS h1 a = gS h a) ∧ (∀ a j, a < gN h → ¬ (b ≤ a ∧ a < b + 27) → ¬ (a = 92 ∧ j = k) → gR h1 a j = gR h a j) ∧ (∀ a j, a < gN h → ¬ (b ≤ a ∧ a < b + 27) → gI h1 a j = gI h a j) ∧ (∀ i j, i < 27 → TBk i j = true → gI h1 (b + i) j = gI h (65 + i) j) ∧ ∀ j, j < 10 → gR h1 (b + 17) j = gR h 82 j
theorem z_mark {h : ax_H} (v : Inv h) {k : Nat} (hk : k < 4) : ∃ b h1, B_mark 64 (nI k) h = some (V h 65 0, h1) ∧ mkd h h1 k b := by
  obtain ⟨⟨w, e, g⟩, t, O, m1, m2, m3⟩ := v
  have w0 := w
  obtain ⟨wS, wR, wG, wN⟩ := w
  have e1 : B_isWithin (nI k) 0 3 h = some (1, h) := by
    rw [z_isWithin, bI, if_pos]
    rw [nJ_i (by omega)]
    exact ⟨by show (0 : Int) ≤ _; omega, by show _ ≤ (3 : Int); omega⟩
  have tk : (nI k).toNatClampNeg = k := nJ_n (by omega)
  have nk : ¬ nI k < 0 := nJ_nn (by omega)
  have hw : ∀ j, j < 10 → gR h 82 j = 0 ∨ (gS h (gR h 82 j)).1 = 5 := fun j hj => by
    rcases m1 j hj with x | x
    · exact Or.inl x
    · exact Or.inr x.2
  by_cases h0 : gR h 92 k = 0
  · obtain ⟨b, hb⟩ : ∃ b, b = gN h := ⟨_, rfl⟩
    obtain ⟨h4, e4⟩ : ∃ h4, h4 = nW h 1 0 17 := ⟨_, rfl⟩
    have N4 : gN h4 = b + 1 := by rw [e4, gN_nW, hb]
    have S4 : gS h4 b = (1, 0) := by rw [e4, gS_nW, if_pos hb]
    obtain ⟨h5, i1, i2, i3, i4, i5⟩ := z_Bk_init N4 S4
    have Z4 : gZ h4 = gZ h + 17 := by rw [e4, gZ_nW]
    have f4 : frA (fun _ _ => false) h h4 := by rw [e4]; exact frA_nW _ _ _ _ _
    have f5 : frA (fun _ _ => false) h h5 := ⟨by omega, fun a ha => ((i4 a (by omega)).1).trans (f4.2.1 a ha), fun a j ha => by rw [(i4 a (by omega)).2.1]; exact f4.2.2.1 a j ha, fun a j ha _ => ⟨(((i4 a (by omega)).2.2 j).1).trans (f4.2.2.2 a j ha rfl).1, (((i4 a (by omega)).2.2 j).2).trans (f4.2.2.2 a j ha rfl).2⟩⟩
    have w5 : ok h5 := ok_frA f5 w0
    obtain ⟨h6, e6⟩ : ∃ h6, h6 = pR h5 92 k b := ⟨_, rfl⟩
    have w6 : ok h6 := by rw [e6]; exact ok_pR w5 (Or.inr rfl) _ _
    have S6 : gS h6 = gS h5 := by rw [e6]; rfl
    have R6 : ∀ a j, gR h6 a j = if a = 92 ∧ j = k then b else gR h5 a j := fun a j => by rw [e6, gR_pR]
    have I6 : ∀ a j, gI h6 a j = gI h5 a j := fun a j => by rw [e6]; rfl
    have N6 : gN h6 = gN h5 := by rw [e6]; rfl
    have Z6 : gZ h6 = gZ h5 := by rw [e6]; rfl
    have p6 : bkP h6 b := bkP_eq (h := h5) (fun a _ _ => by rw [S6]) (fun a j z => by rw [R6, if_neg (by omega)]) i2
    have r82 : ∀ j, gR h6 (65 + 17) j = gR h 82 j := fun j => by rw [R6, if_neg (by omega)]; exact f5.2.2.1 82 j (by omega)
    obtain ⟨h7, c1, c2, c3, c4⟩ := z_Bk_copy (h := h6) (d := b) (s := 65) (Or.inl (by omega)) p6 (bkP_65 w6) (fun j hj => by
      rw [r82]
      rcases m1 j hj with x | x
      · exact Or.inl x
      · exact Or.inr (by rw [S6, f5.2.1 _ x.1]; exact x.2))
    have S7 : gS h7 = gS h6 := c2.2.2.1
    have R7 : ∀ a j, ¬ a = b + 17 → gR h7 a j = gR h6 a j := fun a j z => by rw [c4, if_neg (fun y => z y.1)]
    have I7 : ∀ a j, a < b → gI h7 a j = gI h a j := fun a j z => by rw [c3, if_neg (by omega), I6]; exact (f5.2.2.2 a j (by omega) rfl).1
    refine ⟨b, h7, ?_, ⟨by omega, by rw [c2.1, N6, i3]; omega, bkP_eq (h := h6) (fun a _ _ => by rw [S7]) (fun a j z => R7 a j (by omega)) p6, by rw [R7 92 k (by omega), R6, if_pos ⟨rfl, rfl⟩]⟩, ⟨by rw [c2.1, N6, i3]; omega, by rw [c2.1, N6, i3]; omega, by rw [c2.2.1, Z6]; omega⟩, Or.inl hb, fun a ha => by rw [S7, S6]; exact f5.2.1 a ha, fun a j ha hn h9 => by rw [R7 a j (by omega), R6, if_neg h9]; exact f5.2.2.1 a j ha, fun a j ha hn => I7 a j (by omega), fun i j hi z => ?_, fun j hj => by rw [c4, if_pos ⟨rfl, hj⟩]; exact r82 j⟩
    · have s5 : gS h5 64 = (0, 0) := by simp only [w5.1]
      have s92 : gS h5 92 = (21, 4) := by simp only [w5.1]
      have r64 : gR h5 64 1 = 92 := by simp only [w5.2.1]
      have s5b : gS h5 b = (1, 0) := i2.1 0 _ rfl
      have r640 : gR h6 64 0 = 65 := by simp only [w6.2.1]
      have s7 : gS h7 64 = (0, 0) := by rw [S7]; simp only [w6.1]
      have s765 : gS h7 65 = (1, 0) := by rw [S7]; simp only [w6.1]
      have r7 : gR h7 64 0 = 65 := by rw [R7 64 0 (by omega)]; exact r640
      have v7 : gI h7 65 0 = V h 65 0 := I7 65 0 (by omega)
      have j1 : Bk_init (gN h) (nW h 1 0 17) = some h5 := by rw [← hb, ← e4]; exact i1
      rw [B_mark_eq, bnd e1]
      simp only [decide_eq_true_eq, show ¬ (1 : Int32) = 0 by decide, not_false_eq_true, ↓reduceIte, wS, wR, ax_in, tk, nk, hk, and_self, h0, gS_nW]
      rw [bnd j1]
      simp only [← hb, s5, s92, r64, s5b, ↓reduceIte, tk, nk, hk, not_false_eq_true, and_self, or_true, ← e6, S6, r640]
      rw [bnd c1]
      simp only [s7, s765, r7, v7, ↓reduceIte]
    · rw [c3, if_pos ⟨by omega, by omega, by rw [Nat.add_sub_cancel_left]; exact z⟩, Nat.add_sub_cancel_left, I6]
      exact (f5.2.2.2 (65 + i) j (by omega) rfl).1
  · rcases m3 k hk with ⟨x, -⟩ | ⟨b, hg, ⟨p1, p2, p3, p4, p5, p6⟩, -⟩
    · exact absurd x h0
    obtain ⟨h7, c1, c2, c3, c4⟩ := z_Bk_copy (h := h) (d := b) (s := 65) (Or.inl (by omega)) p5 (bkP_65 w0) hw
    have S7 : gS h7 = gS h := c2.2.2.1
    have R7 : ∀ a j, ¬ a = b + 17 → gR h7 a j = gR h a j := fun a j z => by rw [c4, if_neg (fun y => z y.1)]
    have I7 : ∀ a j, ¬ (b ≤ a ∧ a < b + 27) → gI h7 a j = gI h a j := fun a j z => by rw [c3, if_neg (by omega)]
    refine ⟨b, h7, ?_, ⟨by omega, by rw [c2.1]; omega, bkP_eq (h := h) (fun a _ _ => by rw [S7]) (fun a j z => R7 a j (by omega)) p5, by rw [R7 92 k (by omega)]; exact p3⟩, ⟨by rw [c2.1]; omega, by rw [c2.1]; omega, by rw [c2.2.1]; omega⟩, Or.inr ⟨p2, p3⟩, fun a ha => by rw [S7], fun a j ha hn h9 => R7 a j (by omega), fun a j ha hn => I7 a j hn, fun i j hi z => ?_, fun j hj => by rw [c4, if_pos ⟨rfl, hj⟩]⟩
    · have s7 : gS h7 64 = (0, 0) := by rw [S7]; simp only [wS]
      have s765 : gS h7 65 = (1, 0) := by rw [S7]; simp only [wS]
      have sb : gS h b = (1, 0) := p5.1 0 _ rfl
      have r7 : gR h7 64 0 = 65 := by rw [R7 64 0 (by omega)]; simp only [wR]
      have v7 : gI h7 65 0 = V h 65 0 := I7 65 0 (by omega)
      have b0 : ¬ b = 0 := by omega
      rw [B_mark_eq, bnd e1]
      simp only [decide_eq_true_eq, show ¬ (1 : Int32) = 0 by decide, not_false_eq_true, ↓reduceIte, wS, wR, ax_in, tk, nk, hk, and_self, p3, b0, sb]
      rw [bnd c1]
      simp only [s7, s765, r7, v7, ↓reduceIte]
    · rw [c3, if_pos ⟨by omega, by omega, by rw [Nat.add_sub_cancel_left]; exact z⟩, Nat.add_sub_cancel_left]
