/-! back: the two sides -/
theorem st_back {h : ax_H} (v : Inv h) (a : Int32) : stp (B_back 64 a h) (M_back 159 a) (fun h1 h2 => nxt h h2 ∧ scrP h h1) := by
  by_cases hc : 0 ≤ a.toInt ∧ a.toInt ≤ 3
  case neg =>
    refine ⟨-1, h, h, ?_, ?_, nxt_rf v, scrP_rf v.1.1⟩
    · have e1 : B_isWithin a 0 3 h = some (0, h) := by rw [z_isWithin, bI, if_neg (show ¬ (Int32.toInt 0 ≤ a.toInt ∧ a.toInt ≤ Int32.toInt 3) from hc)]
      rw [B_back_eq, bnd e1]
      exact if_neg (show ¬ decide (¬ (0 : Int32) = 0) = true by decide)
    · have e1 : M_in (Int32.toInt64 a) 0 3 h = some (0, h) := by
        rw [zm_in, bI, Int32.toInt_toInt64, if_neg (show ¬ (Int64.toInt 0 ≤ a.toInt ∧ a.toInt ≤ Int64.toInt 3) from hc)]
      rw [M_back_eq, bnd e1]
      exact if_pos (show decide ((0 : Int32) = 0) = true by decide)
  obtain ⟨k, rfl, hk, hk2, hk3⟩ := nI_ex hc
  have hk4 : k < 4 := by omega
  have v0 := v
  obtain ⟨⟨w, e, g⟩, t, O, m1, m2, m3⟩ := v
  have w0 := w
  obtain ⟨wS, wR, wG, wN⟩ := w
  have tk : (nI k).toNatClampNeg = k := nJ_n (by omega)
  have nk : ¬ nI k < 0 := nJ_nn (by omega)
  have e1 : B_isWithin (nI k) 0 3 h = some (1, h) := by
    rw [z_isWithin, bI, if_pos]
    rw [nJ_i (by omega)]
    exact ⟨by show (0 : Int) ≤ _; omega, by show _ ≤ (3 : Int); omega⟩
  rcases m3 k hk4 with ⟨x, y⟩ | ⟨b, hg, p⟩
  · refine ⟨-1, h, h, ?_, ?_, nxt_rf v0, scrP_rf w0⟩
    · rw [B_back_eq, bnd e1]
      simp only [decide_eq_true_eq, show ¬ (1 : Int32) = 0 by decide, not_false_eq_true, ↓reduceIte, wS, wR, ax_in, tk, nk, hk4, and_self, x]
    · have e2 : M_in (Int32.toInt64 (nI k)) 0 3 h = some (1, h) := by
        rw [zm_in, bI, if_pos]
        rw [Int32.toInt_toInt64, nJ_i (by omega)]
        exact ⟨by show (0 : Int) ≤ _; omega, by show _ ≤ (3 : Int); omega⟩
      rw [M_back_eq, bnd e2]
      simp only [decide_eq_true_eq, show ¬ (1 : Int32) = 0 by decide, not_false_eq_true, not_true_eq_false, ↓reduceIte, wS, wR, ax_in, tk, nk, hk4, and_self, y]
  have p' := p
  obtain ⟨⟨p1, p2, p3, p4, p5, p6⟩, p7, ⟨pe, pg, ps⟩, p9, p10, p11⟩ := p
  have hw : ∀ j, j < 10 → gR h (b + 17) j = 0 ∨ (gS h (gR h (b + 17) j)).1 = 5 := fun j hj => by
    rcases p6 j hj with x | x
    · exact Or.inl x
    · exact Or.inr x.2
  obtain ⟨h1, c1, c2, c3, c4⟩ := z_Bk_copy (h := h) (d := 65) (s := b) (Or.inr (by omega)) (bkP_65 w0) p5 hw
  have S1 : gS h1 = gS h := c2.2.2.1
  have R1 : ∀ a j, ¬ a = 82 → gR h1 a j = gR h a j := fun a j z => by rw [c4, if_neg (by omega)]
  have I1 : ∀ a j, ¬ (65 ≤ a ∧ a ≤ 90) → gI h1 a j = gI h a j := fun a j z => by
    rw [c3]
    by_cases q : 65 ≤ a ∧ a ≤ 65 + 26 ∧ TBk (a - 65) j = true
    · have : a = 91 := by omega
      subst this
      exact absurd q.2.2 (by show ¬ TBk 26 j = true; simp only [TBk, Urow, Uone, Nat.reduceEqDiff, false_and, decide_false, Bool.or_false, Bool.false_eq_true, not_false_eq_true])
    · rw [if_neg q]
  have w1 : ok h1 := by
    refine ⟨by rw [S1]; exact wS, ?_, ⟨fun z hz => ?_, by rw [S1]; exact wG.2⟩, by rw [c2.1]; exact wN⟩
    · simp (disch := decide) only [okR, R1, wR, and_self]
    · rw [R1 107 z (by omega)]; exact wG.1 z hz
  obtain ⟨h3, z1, z2, z3, z4⟩ := zm_back w1 hk4 (by rw [I1 206 k (by omega)]; exact p4)
  have seg : ∀ i, i < totL crL → gI (bkH h1 k) 204 (8000 * k + i) = segV hg crL i := fun i hi => by
    rw [tot_ok] at hi
    unfold bkH
    rw [gI_pI, if_neg (by omega), gI_pI, if_neg (by omega), I1 204 _ (by omega)]
    exact p10 i hi
  have hH : ∀ a j, ¬ a = 159 → gI (bkH h1 k) a j = gI h1 a j := fun a j z => by
    unfold bkH
    rw [gI_pI, if_neg (by omega), gI_pI, if_neg (by omega)]
  obtain ⟨h2, e2⟩ : ∃ h2, h2 = bkF h3 := ⟨_, rfl⟩
  have G2 : ∀ a j, ¬ a = 159 → gI h2 a j = inV (bkH h1 k) crL (8000 * k) a j := fun a j z => by
    rw [e2, bkF_I h3 a j z, z4, if_neg (by omega)]
  have nin : ∀ a j, (a < 159 ∨ a = 172 ∨ (181 ≤ a ∧ a ≤ 195) ∨ a = 204 ∨ 206 ≤ a) → ¬ inL crL a j := fun a j z q => by
    simp only [crL, inL, or_false] at q
    omega
  have G0 : ∀ a j, (a < 159 ∨ a = 172 ∨ (181 ≤ a ∧ a ≤ 195) ∨ a = 204 ∨ 206 ≤ a) → gI h2 a j = gI h1 a j := fun a j z => by
    rw [G2 a j (by omega), inV_out _ _ (nin a j z), hH a j (by omega)]
  have B : bak h h2 hg := by
    refine ⟨fun i j hi => ?_, fun a j a1 a2 q => ?_, fun a j a1 a2 q => ?_⟩
    · rw [G0 _ _ (by omega), c3, Nat.add_sub_cancel_left]
      by_cases q : TBk i j = true
      · rw [if_pos ⟨by omega, by omega, q⟩, if_pos q, p9 i j (by omega) q]
      · rw [if_neg (fun z => q z.2.2), if_neg q]
    · rw [G2 a j (by omega), inV_in _ _ seg q]
    · rw [G2 a j (by omega), inV_out _ _ q, hH a j (by omega), I1 a j (by omega)]
  have s205 : ∀ j, j < 8 → gI h3 205 j = gI hg 205 j := fun j hj => by
    rw [z4, if_neg (by omega), inV_in _ _ seg]
    simp only [crL, inL, true_and]
    exact Or.inl hj
  have S2 : gS h2 = gS h := by rw [e2, (bkF_sam h3).2.2.1, z2.2.2.1, S1]
  have N2 : gN h2 = gN h := by rw [e2, (bkF_sam h3).1, z2.1, c2.1]
  have Z2 : gZ h2 = gZ h := by rw [e2, (bkF_sam h3).2.1, z2.2.1, c2.2.1]
  have R2 : gR h2 = gR h1 := by rw [e2, bkF_R, z3]
  have A := ag_bk B
  have hcn := cnts pg.1
  have E2 : EQ h2 := by
    refine EQ_bk B pe e ?_
    obtain ⟨s0, s1, s2, s3, s4, s5, s6⟩ := ps
    obtain ⟨⟨t0, t4, t6, t10, ts, tp, tm⟩, -⟩ := A
    rw [t0, t4, t6, t10, ts, tp, tm]
    simp only [e2, bkF_159, Nat.reduceEqDiff, ↓reduceIte, s205 0 (by omega), s205 1 (by omega), s205 2 (by omega), s205 3 (by omega), s205 4 (by omega), s205 5 (by omega), s205 6 (by omega), s0, s1, s2, s3, s4, s5, s6, and_self]
  have w2 : ok h2 := by
    obtain ⟨a1, a2, a3, a4⟩ := w1
    rw [S1] at a1 a3
    exact ⟨by rw [S2]; exact a1, by rw [R2]; exact a2, by rw [S2, R2]; exact a3, by rw [N2]; exact wN⟩
  have kp : kpK (fun _ => True) h h2 := ⟨by omega, fun x _ => by rw [S2], fun x j a1 a2 _ => ⟨by rw [R2]; exact R1 x j (by omega), by rw [G0 x j (by omega)]; exact I1 x j (by omega)⟩⟩
  have r82 : ∀ j, j < 10 → gR h2 82 j = gR h (b + 17) j := fun j hj => by rw [R2, c4, if_pos ⟨rfl, hj⟩]
  have eW : nW' (V h2) = nW' (V hg) := by show (V h2 65 4).toInt.toNat = _; rw [A.1.2.1]
  refine ⟨V hg 65 0, h1, h2, ?_, ?_, ⟨⟨⟨w2, E2, GV_ag A pg⟩, IT_of (by rw [G0 _ _ (by omega), I1 _ _ (by omega)]) (fun j => by rw [G0 _ _ (by omega), I1 _ _ (by omega)]) ?_ (fun j => by rw [G0 _ _ (by omega), I1 _ _ (by omega)]) t, O, sl_kp kp.1 kp.2.1 r82 p6, wy_kp kp (fun _ _ => trivial) (fun _ _ => rfl) (fun j hj => r82 j (by omega)) eW (fun j D hj f m => WM_bk B (by omega) f m) p11, fun k' hk' => ?_⟩, by omega, by omega, by rw [S2], fun j => by rw [G0 _ _ (by omega), I1 _ _ (by omega)]⟩, by rw [S1], fun j => I1 40 j (by omega), by simp only [w1.1]⟩
  · have b0 : ¬ b = 0 := by omega
    have s7 : gS h1 64 = (0, 0) := by rw [S1]; simp only [wS]
    have s765 : gS h1 65 = (1, 0) := by rw [S1]; simp only [wS]
    have r7 : gR h1 64 0 = 65 := by rw [R1 64 0 (by omega)]; simp only [wR]
    have v7 : gI h1 65 0 = V hg 65 0 := by
      rw [c3, if_pos ⟨by omega, by omega, by decide⟩]
      exact p9 0 0 (by omega) (by decide)
    rw [B_back_eq, bnd e1]
    simp only [decide_eq_true_eq, show ¬ (1 : Int32) = 0 by decide, not_false_eq_true, ↓reduceIte, wS, wR, ax_in, tk, nk, hk4, and_self, p3, b0]
    rw [bnd c1]
    simp only [s7, s765, r7, v7, ↓reduceIte]
  · rw [z1, e2, s205 0 (by omega), ps.1]
  · rw [e2, bkF_159]
    simp only [Nat.reduceEqDiff, ↓reduceIte]
    rw [z4, if_neg (by omega), inV_out _ _ (fun q => by simp only [crL, inL, or_false] at q; omega)]
    unfold bkH
    rw [gI_pI, if_neg (by omega), gI_pI, if_neg (by omega), I1 _ _ (by omega)]
  · have e206 : gI h2 206 k' = gI h 206 k' := by rw [G0 _ _ (by omega), I1 _ _ (by omega)]
    have e92 : gR h2 92 k' = gR h 92 k' := by rw [R2]; exact R1 92 k' (by omega)
    rcases m3 k' hk' with ⟨x, y⟩ | ⟨b', hg', q⟩
    · exact Or.inl ⟨e92.trans x, e206.trans y⟩
    · exact Or.inr ⟨b', hg', bkM_kp kp (fun _ _ => trivial) (fun _ _ => rfl) e92 e206 (fun i hi => by rw [G0 _ _ (by omega), I1 _ _ (by omega)]) q⟩
