/-! again: the reference's side -/
theorem pB_sum {V : BV} {kn a b : Int32} {p s : Nat} (F : Nat → Int) (h : ∀ i, i < nM V → pB V kn a b p s i = false) : zS (pB V kn a b p s) F (nM V) = 0 := zS_none _ h
section
theorem zm_ag_76 {h : ax_H} (i0 : I0 h) {kn : Int32} (hk : kn.toInt ≤ 9999) (a b what : Int32) {p : Nat} (hp : p < nP (V h)) : ∀ (k s : Nat) (n x y : Int) (t tp ts : Int32), s + k = nS (V h) → Bok (V h) kn a b (lxS (V h) p s) t tp ts → ∃ t' tp' ts', M_again_76 159 a b kn what (Int32.ofInt n) (Int32.ofInt x) (Int32.ofInt y) t tp ts (nI p) (nI s) h = M_again_64 159 a b kn what (Int32.ofInt (n + (zN (fun s => zS (pB (V h) kn a b p s) (fun _ => 1) (nM (V h))) (nS (V h)) - zN (fun s => zS (pB (V h) kn a b p s) (fun _ => 1) (nM (V h))) s))) (Int32.ofInt (x + (zN (fun s => zS (pB (V h) kn a b p s) (agX (V h) kn b) (nM (V h))) (nS (V h)) - zN (fun s => zS (pB (V h) kn a b p s) (agX (V h) kn b) (nM (V h))) s))) (Int32.ofInt (y + (zN (fun s => zS (pB (V h) kn a b p s) (agY (V h) kn b) (nM (V h))) (nS (V h)) - zN (fun s => zS (pB (V h) kn a b p s) (agY (V h) kn b) (nM (V h))) s))) t' tp' ts' (nI (p + 1)) h ∧ Bok (V h) kn a b (lxS (V h) p (nS (V h))) t' tp' ts' := by
  obtain ⟨w, e, g⟩ := i0
  have hcn := cnts g.1
  have hn := nI_nM g.1.2.2.2.1
  have hnS := nI_nS g.1.2.1
  have w0 := w
  have e0 := e
  obtain ⟨wS, wR, wG, wN⟩ := w
  unfold EQ at e
  have hCC : ∀ (s : Nat) (d : Int32), M_counting 159 (nI p) (nI s) d kn h = some (fdI (V h) kn (nI p) (nI s) d, h) := fun s d => by
    rw [fdI, find_cnt g.2.2.2.1 hk]
    exact zm_counting w0 e0 hn (by omega) _ _ _ _
  intro k
  induction k with
  | zero =>
    intro s n x y t tp ts hs hB
    have hss : s = nS (V h) := by omega
    subst hss
    refine ⟨t, tp, ts, ?_, hB⟩
    have hle : nS (V h) ≤ nS (V h) := Nat.le_refl _
    rw [M_again_76_eq, Int.sub_self, Int.add_zero, Int.sub_self, Int.add_zero, Int.sub_self, Int.add_zero]
    try simp only [wS, wR, ↓reduceIte]
    simp (disch := omega) only [gI_pI, gI_pL, gI_pR, gL_pI, gL_pL, gL_pR, gR_pI, gR_pL, gR_pR, gS_pI, gS_pL, gS_pR, ↓reduceIte, Nat.reduceEqDiff, decide_eq_true_eq, Option.bind_some, false_and, and_false, true_and, and_true, and_self, Nat.reduceAdd, not_false_eq_true, not_true_eq_false, wS, wR, inI, ite_self, Classical.not_not, e, hnS, nJ_le, hle, nJ_p1]
  | succ k ih =>
    intro s n x y t tp ts hs hB
    have hle : ¬ nS (V h) ≤ s := by omega
    have c1 := hCC s a
    have c2 := hCC s b
    have zs : ∀ F, zN (fun s => zS (pB (V h) kn a b p s) F (nM (V h))) (s + 1) = zN (fun s => zS (pB (V h) kn a b p s) F (nM (V h))) s + zS (pB (V h) kn a b p s) F (nM (V h)) := fun F => rfl
    rcases ag_pick g hk a b (p := p) (s := s) (by omega) (by omega) with ⟨q1, q2⟩ | ⟨i, j, i1, j1, i2, j2, i3, i4, i5, i6, i7, i8⟩
    · obtain ⟨t', tp', ts', r1, r2⟩ := ih (s + 1) n x y t tp ts (by omega) (Bok_m0 g q2 hB)
      rw [zs, zs, zs, pB_sum _ q2, pB_sum _ q2, pB_sum _ q2, Int.add_zero, Int.add_zero, Int.add_zero] at r1
      refine ⟨t', tp', ts', ?_, r2⟩
      rw [← r1, M_again_76_eq]
      try simp only [wS, wR, ↓reduceIte]
      by_cases q3 : fdI (V h) kn (nI p) (nI s) a = -1
      · simp (disch := omega) only [gI_pI, gI_pL, gI_pR, gL_pI, gL_pL, gL_pR, gR_pI, gR_pL, gR_pR, gS_pI, gS_pL, gS_pR, ↓reduceIte, Nat.reduceEqDiff, decide_eq_true_eq, Option.bind_some, false_and, and_false, true_and, and_true, and_self, Nat.reduceAdd, not_false_eq_true, not_true_eq_false, wS, wR, inI, ite_self, Classical.not_not, e, hnS, nJ_le, hle, nJ_p1, ↓bnd c1, ↓bnd c2, q3]
      · have q4 := q1.resolve_left q3
        simp (disch := omega) only [gI_pI, gI_pL, gI_pR, gL_pI, gL_pL, gL_pR, gR_pI, gR_pL, gR_pR, gS_pI, gS_pL, gS_pR, ↓reduceIte, Nat.reduceEqDiff, decide_eq_true_eq, Option.bind_some, false_and, and_false, true_and, and_true, and_self, Nat.reduceAdd, not_false_eq_true, not_true_eq_false, wS, wR, inI, ite_self, Classical.not_not, e, hnS, nJ_le, hle, nJ_p1, ↓bnd c1, ↓bnd c2, q3, q4]
    · have zo1 : ∀ F, zS (pB (V h) kn a b p s) F (nM (V h)) = F i := fun F => zS_one _ i1 i7 i8
      have hB' := Bok_m1 g i1 i4 (by rw [i5, nJ_i (by omega)]) (by rw [i6, nJ_i (by omega)]) i8 hB
      obtain ⟨t', tp', ts', r1, r2⟩ := ih (s + 1) (n + 1) (x + agX (V h) kn b i) (y + agY (V h) kn b i) _ _ _ (by omega) hB'
      rw [zs, zs, zs, zo1, zo1, zo1] at r1
      rw [i5, i6] at r1
      refine ⟨t', tp', ts', ?_, r2⟩
      have x1 : ∀ A B C D : Int, A + D + (B - (C + D)) = A + (B - C) := fun A B C D => by omega
      rw [x1, x1, x1] at r1
      rw [← r1, M_again_76_eq]
      have hi2 : i < 100 := by omega
      have hj2 : j < 100 := by omega
      have ni : ¬ nI i = -1 := nI_neg1 (by omega)
      have nj : ¬ nI j = -1 := nI_neg1 (by omega)
      have eX : V h 78 j - V h 78 i = Int32.ofInt (agX (V h) kn b i) := by unfold agX; rw [i3, ag_sub]
      have eY : V h 79 j - V h 79 i = Int32.ofInt (agY (V h) kn b i) := by unfold agY; rw [i3, ag_sub]
      have eQ : Int32.ofInt (agX (V h) kn b i) * Int32.ofInt (agX (V h) kn b i) + Int32.ofInt (agY (V h) kn b i) * Int32.ofInt (agY (V h) kn b i) = agQ (V h) kn b i := by unfold agQ; rw [i3, eX, eY]
      have e1 : Int32.ofInt n + 1 = Int32.ofInt (n + 1) := by rw [Int32.ofInt_add]; rfl
      try simp only [wS, wR, ↓reduceIte]
      simp (disch := omega) only [gI_pI, gI_pL, gI_pR, gL_pI, gL_pL, gL_pR, gR_pI, gR_pL, gR_pR, gS_pI, gS_pL, gS_pR, ↓reduceIte, Nat.reduceEqDiff, decide_eq_true_eq, Option.bind_some, false_and, and_false, true_and, and_true, and_self, Nat.reduceAdd, not_false_eq_true, not_true_eq_false, wS, wR, inI, ite_self, Classical.not_not, e, hnS, nJ_le, hle, nJ_p1, ↓bnd c1, ↓bnd c2, i2, j2, ni, nj, ax_in, nJ_nn, nJ_n, hi2, hj2, eX, eY, eQ, e1, ← Int32.ofInt_add, M_again_194_eq]
      by_cases d1 : tp = -1
      · rw [if_pos d1, if_pos (Or.inl d1), if_pos (Or.inl d1), if_pos (Or.inl d1)]
      · by_cases d2 : agQ (V h) kn b i ≤ t
        · have d3 : ¬ t < agQ (V h) kn b i := by rw [i32_lt]; rw [i32_le] at d2; omega
          have d4 : ¬ (tp = -1 ∨ t < agQ (V h) kn b i) := fun q => q.elim d1 d3
          rw [if_neg d1, if_pos d2, if_neg d4, if_neg d4, if_neg d4]
        · have d3 : t < agQ (V h) kn b i := by rw [i32_lt]; rw [i32_le] at d2; omega
          rw [if_neg d1, if_neg d2, if_pos (Or.inr d3), if_pos (Or.inr d3), if_pos (Or.inr d3)]
theorem ag_fib {h : ax_H} (i0 : I0 h) {kn : Int32} (hk : kn.toInt ≤ 9999) (a b what : Int32) (F : Nat → Int) (p : Nat) : zN (fun s => zS (pB (V h) kn a b p s) F (nM (V h))) (nS (V h)) = zS (fun i => agB (V h) kn a b i && decide ((V h 75 i).toInt.toNat = p)) F (nM (V h)) := by
  have g := i0.2.2
  have hcn := cnts g.1
  exact (zS_fib (P := fun i => agB (V h) kn a b i && decide ((V h 75 i).toInt.toNat = p)) (F := F) (key := fun i => (V h 76 i).toInt.toNat) (K := nS (V h)) (nM (V h)) (fun i hi _ => by have := (g.2.2.2.1.1 i hi).2.1; omega)).symm
theorem ag_fib2 {h : ax_H} (i0 : I0 h) {kn : Int32} (hk : kn.toInt ≤ 9999) (a b what : Int32) (F : Nat → Int) : zN (fun p => zS (fun i => agB (V h) kn a b i && decide ((V h 75 i).toInt.toNat = p)) F (nM (V h))) (nP (V h)) = zo (agB (V h) kn a b) F (nM (V h)) 0 0 := by
  have g := i0.2.2
  have hcn := cnts g.1
  rw [← zS_fib (P := agB (V h) kn a b) (F := F) (key := fun i => (V h 75 i).toInt.toNat) (K := nP (V h)) (nM (V h)) (fun i hi _ => by have := (g.2.2.2.1.1 i hi).1; omega), zo_zS, Nat.zero_add]
  show _ = 0 + (_ - 0)
  omega
theorem zm_ag_64 {h : ax_H} (i0 : I0 h) {kn : Int32} (hk : kn.toInt ≤ 9999) (a b what : Int32) : ∀ (k p : Nat) (n x y : Int) (t tp ts : Int32), p + k = nP (V h) → Bok (V h) kn a b (lxS (V h) p 0) t tp ts → ∃ t' tp' ts', M_again_64 159 a b kn what (Int32.ofInt n) (Int32.ofInt x) (Int32.ofInt y) t tp ts (nI p) h = M_again_64 159 a b kn what (Int32.ofInt (n + (zN (fun p => zS (fun i => agB (V h) kn a b i && decide ((V h 75 i).toInt.toNat = p)) (fun _ => 1) (nM (V h))) (nP (V h)) - zN (fun p => zS (fun i => agB (V h) kn a b i && decide ((V h 75 i).toInt.toNat = p)) (fun _ => 1) (nM (V h))) p))) (Int32.ofInt (x + (zN (fun p => zS (fun i => agB (V h) kn a b i && decide ((V h 75 i).toInt.toNat = p)) (agX (V h) kn b) (nM (V h))) (nP (V h)) - zN (fun p => zS (fun i => agB (V h) kn a b i && decide ((V h 75 i).toInt.toNat = p)) (agX (V h) kn b) (nM (V h))) p))) (Int32.ofInt (y + (zN (fun p => zS (fun i => agB (V h) kn a b i && decide ((V h 75 i).toInt.toNat = p)) (agY (V h) kn b) (nM (V h))) (nP (V h)) - zN (fun p => zS (fun i => agB (V h) kn a b i && decide ((V h 75 i).toInt.toNat = p)) (agY (V h) kn b) (nM (V h))) p))) t' tp' ts' (nI (nP (V h))) h ∧ Bok (V h) kn a b (fun m => m < nM (V h)) t' tp' ts' := by
  have i00 := i0
  obtain ⟨w, e, g⟩ := i0
  have hcn := cnts g.1
  have hnP := nI_nP g.1.2.2.1
  obtain ⟨wS, wR, wG, wN⟩ := w
  unfold EQ at e
  intro k
  induction k with
  | zero =>
    intro p n x y t tp ts hs hB
    have hss : p = nP (V h) := by omega
    subst hss
    refine ⟨t, tp, ts, ?_, Bok_S (fun m x _ => ?_) hB⟩
    · rw [Int.sub_self, Int.add_zero, Int.sub_self, Int.add_zero, Int.sub_self, Int.add_zero]
    · have := (g.2.2.2.1.1 m x).1
      unfold lxS
      constructor
      · exact fun _ => x
      · exact fun _ => Or.inl (by omega)
  | succ k ih =>
    intro p n x y t tp ts hs hB
    have hle : ¬ nP (V h) ≤ p := by omega
    obtain ⟨t1, tp1, ts1, r1, r2⟩ := zm_ag_76 i00 hk a b what (p := p) (by omega) (nS (V h)) 0 n x y t tp ts (by omega) hB
    rw [ag_fib i00 hk a b what, ag_fib i00 hk a b what, ag_fib i00 hk a b what, zN, zN, zN, Int.sub_zero, Int.sub_zero, Int.sub_zero] at r1
    obtain ⟨t', tp', ts', s1, s2⟩ := ih (p + 1) _ _ _ t1 tp1 ts1 (by omega) (Bok_S (fun m x _ => by
      have := (g.2.2.2.1.1 m x).2.1
      have := (g.2.2.2.1.1 m x).1
      unfold lxS
      omega) r2)
    refine ⟨t', tp', ts', ?_, s2⟩
    have zs : ∀ F, zN (fun p => zS (fun i => agB (V h) kn a b i && decide ((V h 75 i).toInt.toNat = p)) F (nM (V h))) (p + 1) = zN (fun p => zS (fun i => agB (V h) kn a b i && decide ((V h 75 i).toInt.toNat = p)) F (nM (V h))) p + zS (fun i => agB (V h) kn a b i && decide ((V h 75 i).toInt.toNat = p)) F (nM (V h)) := fun F => rfl
    have x1 : ∀ A B C D : Int, A + D + (B - (C + D)) = A + (B - C) := fun A B C D => by omega
    rw [zs, zs, zs, x1, x1, x1] at s1
    rw [← s1]
    refine Eq.trans ?_ r1
    rw [M_again_64_eq]
    try simp only [wS, wR, ↓reduceIte]
    simp (disch := omega) only [gI_pI, gI_pL, gI_pR, gL_pI, gL_pL, gL_pR, gR_pI, gR_pL, gR_pR, gS_pI, gS_pL, gS_pR, ↓reduceIte, Nat.reduceEqDiff, decide_eq_true_eq, Option.bind_some, false_and, and_false, true_and, and_true, and_self, Nat.reduceAdd, not_false_eq_true, not_true_eq_false, wS, wR, inI, ite_self, Classical.not_not, e, hnP, nJ_le, hle, show nI 0 = 0 from rfl]
end
theorem mk_again {h : ax_H} (i : I0 h) (a b kn u : Int32) : mkq (B_again 64 a b kn u h) (M_again 159 a b kn u) h := by
  obtain ⟨wS, wR, -, -⟩ := i.1
  by_cases h1 : 0 ≤ a.toInt ∧ a.toInt ≤ 7
  case neg =>
    refine mkq_no (v := -1000000) ?_ ?_
    · rw [B_again_eq]
      simp only [gI_pI, gI_pL, gI_pR, gL_pI, gL_pL, gL_pR, gR_pI, gR_pL, gR_pR, gS_pI, gS_pL, gS_pR, ↓reduceIte, Nat.reduceEqDiff, decide_eq_true_eq, Option.bind_some, false_and, and_false, true_and, and_true, and_self, Nat.reduceAdd, not_false_eq_true, not_true_eq_false, wS, wR, inI, ite_self, Classical.not_not, ↓bnd (z_isHand _ _), bI_0, h1]
    · rw [M_again_eq]
      simp only [gI_pI, gI_pL, gI_pR, gL_pI, gL_pL, gL_pR, gR_pI, gR_pL, gR_pR, gS_pI, gS_pL, gS_pR, ↓reduceIte, Nat.reduceEqDiff, decide_eq_true_eq, Option.bind_some, false_and, and_false, true_and, and_true, and_self, Nat.reduceAdd, not_false_eq_true, not_true_eq_false, wS, wR, inI, ite_self, Classical.not_not, ↓bnd (zm_isHand _ _), bI_0, h1]
  by_cases h2 : 0 ≤ b.toInt ∧ b.toInt ≤ 7
  case neg =>
    refine mkq_no (v := -1000000) ?_ ?_
    · rw [B_again_eq]
      simp only [gI_pI, gI_pL, gI_pR, gL_pI, gL_pL, gL_pR, gR_pI, gR_pL, gR_pR, gS_pI, gS_pL, gS_pR, ↓reduceIte, Nat.reduceEqDiff, decide_eq_true_eq, Option.bind_some, false_and, and_false, true_and, and_true, and_self, Nat.reduceAdd, not_false_eq_true, not_true_eq_false, wS, wR, inI, ite_self, Classical.not_not, ↓bnd (z_isHand _ _), bI_0, h1, h2]
    · rw [M_again_eq]
      simp only [gI_pI, gI_pL, gI_pR, gL_pI, gL_pL, gL_pR, gR_pI, gR_pL, gR_pR, gS_pI, gS_pL, gS_pR, ↓reduceIte, Nat.reduceEqDiff, decide_eq_true_eq, Option.bind_some, false_and, and_false, true_and, and_true, and_self, Nat.reduceAdd, not_false_eq_true, not_true_eq_false, wS, wR, inI, ite_self, Classical.not_not, ↓bnd (zm_isHand _ _), bI_0, h1, h2]
  by_cases h3 : a = b
  case pos =>
    refine mkq_no (v := -1000000) ?_ ?_
    · rw [B_again_eq]
      simp only [gI_pI, gI_pL, gI_pR, gL_pI, gL_pL, gL_pR, gR_pI, gR_pL, gR_pR, gS_pI, gS_pL, gS_pR, ↓reduceIte, Nat.reduceEqDiff, decide_eq_true_eq, Option.bind_some, false_and, and_false, true_and, and_true, and_self, Nat.reduceAdd, not_false_eq_true, not_true_eq_false, wS, wR, inI, ite_self, Classical.not_not, ↓bnd (z_isHand _ _), bI_0, h1, h2, h3]
    · rw [M_again_eq]
      simp only [gI_pI, gI_pL, gI_pR, gL_pI, gL_pL, gL_pR, gR_pI, gR_pL, gR_pR, gS_pI, gS_pL, gS_pR, ↓reduceIte, Nat.reduceEqDiff, decide_eq_true_eq, Option.bind_some, false_and, and_false, true_and, and_true, and_self, Nat.reduceAdd, not_false_eq_true, not_true_eq_false, wS, wR, inI, ite_self, Classical.not_not, ↓bnd (zm_isHand _ _), bI_0, h1, h2, h3]
  by_cases h4 : 0 ≤ kn.toInt ∧ kn.toInt ≤ 9999
  case neg =>
    refine mkq_no (v := -1000000) ?_ ?_
    · rw [B_again_eq]
      simp only [gI_pI, gI_pL, gI_pR, gL_pI, gL_pL, gL_pR, gR_pI, gR_pL, gR_pR, gS_pI, gS_pL, gS_pR, ↓reduceIte, Nat.reduceEqDiff, decide_eq_true_eq, Option.bind_some, false_and, and_false, true_and, and_true, and_self, Nat.reduceAdd, not_false_eq_true, not_true_eq_false, wS, wR, inI, ite_self, Classical.not_not, ↓bnd (z_isHand _ _), ↓bnd (z_isWeek _ _), bI_0, h1, h2, h3, h4]
    · rw [M_again_eq]
      simp only [gI_pI, gI_pL, gI_pR, gL_pI, gL_pL, gL_pR, gR_pI, gR_pL, gR_pR, gS_pI, gS_pL, gS_pR, ↓reduceIte, Nat.reduceEqDiff, decide_eq_true_eq, Option.bind_some, false_and, and_false, true_and, and_true, and_self, Nat.reduceAdd, not_false_eq_true, not_true_eq_false, wS, wR, inI, ite_self, Classical.not_not, ↓bnd (zm_isHand _ _), ↓bnd (zm_isWeek _ _), bI_0, h1, h2, h3, h4]
  by_cases h5 : 0 ≤ u.toInt ∧ u.toInt ≤ 5
  case neg =>
    refine mkq_no (v := -1000000) ?_ ?_
    · rw [B_again_eq]
      simp only [gI_pI, gI_pL, gI_pR, gL_pI, gL_pL, gL_pR, gR_pI, gR_pL, gR_pR, gS_pI, gS_pL, gS_pR, ↓reduceIte, Nat.reduceEqDiff, decide_eq_true_eq, Option.bind_some, false_and, and_false, true_and, and_true, and_self, Nat.reduceAdd, not_false_eq_true, not_true_eq_false, wS, wR, inI, ite_self, Classical.not_not, ↓bnd (z_isHand _ _), ↓bnd (z_isWeek _ _), ↓bnd (z_isWithin _ _ _ _), bI_0, h1, h2, h3, h4, h5, Int32.reduceToInt, Int64.reduceToInt, tN9, tN299, tN99999, tN9999, tN99, tL9, tL299, tL99999, tL9999, tL99, i1_0, i0_1]
    · rw [M_again_eq]
      simp only [gI_pI, gI_pL, gI_pR, gL_pI, gL_pL, gL_pR, gR_pI, gR_pL, gR_pR, gS_pI, gS_pL, gS_pR, ↓reduceIte, Nat.reduceEqDiff, decide_eq_true_eq, Option.bind_some, false_and, and_false, true_and, and_true, and_self, Nat.reduceAdd, not_false_eq_true, not_true_eq_false, wS, wR, inI, ite_self, Classical.not_not, ↓bnd (zm_isHand _ _), ↓bnd (zm_isWeek _ _), ↓bnd (zm_in _ _ _ _), bI_0, h1, h2, h3, h4, h5, Int32.toInt_toInt64, Int32.reduceToInt, Int64.reduceToInt, tN9, tN299, tN99999, tN9999, tN99, tL9, tL299, tL99999, tL9999, tL99, i1_0, i0_1]
  have i00 := i
  obtain ⟨w, e, g⟩ := i
  have wN := w.2.2.2
  have f0 := frA_nW (fun _ _ => false) h 10 0 6
  have w1 := ok_frA f0 w
  have hV := V_frA f0 w fun _ _ _ _ => rfl
  have hs1 : (gS (nW h 10 0 6) (gN h)).1 = 10 := by rw [gS_nW, if_pos rfl]
  have hI : Mv_init (gN h) (nW h 10 0 6) = some (pI (pI (nW h 10 0 6) (gN h) 4 (-1)) (gN h) 5 (-1)) := by
    rw [Mv_init_eq]
    simp only [gS_pI, hs1, ↓reduceIte, Nat.reduceLT, List.map_nil, List.sum_nil, Nat.zero_le, and_self]
  obtain ⟨h6, hh6⟩ : ∃ h6, h6 = pI (pI (nW h 10 0 6) (gN h) 4 (-1)) (gN h) 5 (-1) := ⟨_, rfl⟩
  rw [← hh6] at hI
  have f6 : fr (Sa (gN h)) (nW h 10 0 6) h6 := by rw [hh6]; exact fr_c (fr_pI (by simp [Sa])) (by simp [Sa])
  have w6 := ok_fr f6 w1
  have V6 : V h6 = V h := (Sa_V wN f6).trans hV
  have hs6 : (gS h6 (gN h)).1 = 10 := by rw [fr_S f6]; exact hs1
  have m6 : MV h6 (gN h) 0 0 0 0 (-1) (-1) := by
    rw [hh6]
    refine ⟨?_, ?_, ?_, ?_, ?_, ?_⟩ <;> simp only [gI_pI, gI_nW, Nat.reduceEqDiff, and_false, and_self, and_true, ↓reduceIte] <;> rfl
  obtain ⟨h7, t', p', s', r1, r2, r3, r4⟩ := z_mg_3 (a := gN h) wN h4.2 a b (nM (V h6)) 0 h6 w6 (by rw [V6]; exact g) hs6 (by omega) 0 0 0 0 (-1) (-1) m6 (Or.inl ⟨⟨rfl, rfl, rfl⟩, fun m _ _ q => absurd q (by omega)⟩)
  rw [V6] at r3 r4
  have hs7 : (gS h7 (gN h)).1 = 10 := by rw [fr_S r2]; exact hs6
  have F7 : frA (fun _ _ => false) h h7 := by
    refine ⟨by rw [r2.1, f6.1, gN_nW]; omega, fun x hx => ?_, fun x k hx => ?_, fun x k hx _ => ?_⟩
    · rw [fr_S r2, fr_S f6]; exact f0.2.1 x hx
    · rw [fr_R r2, fr_R f6]; exact f0.2.2.1 x k hx
    · have hz : Sa (gN h) x k = false := by simp only [Sa, decide_eq_false_iff_not]; omega
      exact ⟨(fr_I r2 hz).trans ((fr_I f6 hz).trans (f0.2.2.2 x k hx rfl).1), (fr_L r2 hz).trans ((fr_L f6 hz).trans (f0.2.2.2 x k hx rfl).2)⟩
  have i7 := I0_frA F7 i00 (fun a k z => by cases z)
  have V7 := V_frA F7 i00.1 (fun _ _ _ _ => rfl)
  have hcn := cnts g.1
  obtain ⟨t2, p2, s2, q1, q2⟩ := zm_ag_64 i7 h4.2 a b u (nP (V h7)) 0 0 0 0 0 (-1) (-1) (by omega) (Or.inl ⟨⟨rfl, rfl, rfl⟩, fun m hm _ q => by
    have := (i7.2.2.2.2.2.1.1 m hm).1
    have := (i7.2.2.2.2.2.1.1 m hm).2.1
    unfold lxS at q
    omega⟩)
  rw [ag_fib2 i7 h4.2 a b u, ag_fib2 i7 h4.2 a b u, ag_fib2 i7 h4.2 a b u, zN, zN, zN, Int.sub_zero, Int.sub_zero, Int.sub_zero, Int.zero_add, Int.zero_add, Int.zero_add, V7] at q1
  rw [V7] at q2
  have un := Bok_un (Bok_S (fun m hm _ => ⟨fun _ => trivial, fun _ => hm⟩) r4) (Bok_S (fun m hm _ => ⟨fun _ => trivial, fun _ => hm⟩) q2)
  obtain ⟨rfl, rfl, rfl⟩ := un
  obtain ⟨k0, k1, k2, k3, k4, k5⟩ := r3
  have hT : Mv_told (gN h) u h7 = some (if u = 0 then Int32.ofInt (zo (agB (V h) kn a b) (fun _ => 1) (nM (V h)) 0 0) else if u = 1 then Int32.ofInt (zo (agB (V h) kn a b) (agX (V h) kn b) (nM (V h)) 0 0) else if u = 2 then Int32.ofInt (zo (agB (V h) kn a b) (agY (V h) kn b) (nM (V h)) 0 0) else if u = 3 then t' else if u = 4 then p' else s', h7) := by
    rw [Mv_told_eq]
    simp only [hs7, ↓reduceIte, V6, k0, k1, k2, k3, k4, k5]
    repeat' split
    all_goals rfl
  have hG : Mv_gather (gN h) 74 a b kn h6 = some h7 := by
    rw [Mv_gather_eq]
    exact r1
  refine ⟨(if u = 0 then Int32.ofInt (zo (agB (V h) kn a b) (fun _ => 1) (nM (V h)) 0 0) else if u = 1 then Int32.ofInt (zo (agB (V h) kn a b) (agX (V h) kn b) (nM (V h)) 0 0) else if u = 2 then Int32.ofInt (zo (agB (V h) kn a b) (agY (V h) kn b) (nM (V h)) 0 0) else if u = 3 then t' else if u = 4 then p' else s'), h7, ?_, ?_, F7, by rw [r2.1, f6.1, gN_nW]; exact Nat.le_refl _, by rw [r2.2.1, f6.2.1, gZ_nW]; exact Nat.le_refl _⟩
  · obtain ⟨vS, vR, -, -⟩ := w6
    rw [B_again_eq]
    simp only [↓bnd (z_isHand _ _), ↓bnd (z_isWeek _ _), ↓bnd (z_isWithin _ _ _ _), bI_0, h1, h2, h3, h4, h5, Int32.reduceToInt, Int64.reduceToInt, tN9, tN299, tN99999, tN9999, tN99, tL9, tL299, tL99999, tL9999, tL99, i1_0, i0_1, and_self, not_true_eq_false, decide_false, decide_true, not_false_eq_true, Bool.false_eq_true, ↓reduceIte, hs1, ↓bnd hI, vS, vR, hs6, ↓bnd hG, hs7, ↓bnd hT]
  · rw [M_again_eq]
    simp only [gI_pI, gI_pL, gI_pR, gL_pI, gL_pL, gL_pR, gR_pI, gR_pL, gR_pR, gS_pI, gS_pL, gS_pR, ↓reduceIte, Nat.reduceEqDiff, decide_eq_true_eq, Option.bind_some, false_and, and_false, true_and, and_true, and_self, Nat.reduceAdd, not_false_eq_true, not_true_eq_false, wS, wR, inI, ite_self, Classical.not_not, ↓bnd (zm_isHand _ _), ↓bnd (zm_isWeek _ _), ↓bnd (zm_in _ _ _ _), bI_0, h1, h2, h3, h4, h5, Int32.toInt_toInt64, Int32.reduceToInt, Int64.reduceToInt, tN9, tN299, tN99999, tN9999, tN99, tL9, tL299, tL99999, tL9999, tL99, i1_0, i0_1]
    have hnP := nI_nP g.1.2.2.1
    have hle : nP (V h) ≤ nP (V h) := Nat.le_refl _
    obtain ⟨vw, ve, vg⟩ := i7
    obtain ⟨vS, vR, -, -⟩ := vw
    unfold EQ at ve
    rw [V7] at ve
    refine Eq.trans q1 ?_
    rw [M_again_64_eq]
    simp (disch := omega) only [vS, vR, ve, ↓reduceIte, hnP, nJ_le, hle, decide_true]
    repeat' split
    all_goals rfl
