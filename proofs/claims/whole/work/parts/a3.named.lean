/-! named -/
def nmC (V : BV) (G : Nat → WD) (kn x y z t : Int32) : Nat → Nat → Int32 → Int32
  | 0, _, a => a
  | k + 1, j, a => nmC V G kn x y z t k (j + 1) (if thV V (G j) kn x y z = t then a + 1 else a)
theorem thV_b (V : BV) (D : WD) (kn x y z : Int32) : b3 (thV V D kn x y z) := b3_thr (b3_thr (b3_thr (Or.inl rfl) (Or.inr (Or.inl rfl))) (Or.inr (Or.inr (Or.inl rfl)))) (Or.inr (Or.inr (Or.inr rfl)))
def ways (h : ax_H) (V0 : BV) (G : Nat → WD) : Prop := ∀ j, j < nW' V0 → WC h (gR h 82 j) (G j) ∧ WM h j (G j) ∧ WF (G j)
theorem ways_c {h h' : ax_H} (q : fr Sc h h') {V0 : BV} {G : Nat → WD} (p : ways h V0 G) : ways h' V0 G := fun j hj => by
  obtain ⟨a, b, c⟩ := p j hj
  refine ⟨?_, WM_c q b, c⟩
  rw [fr_R q]
  exact WC_fr q (fun a k z => Sc_hi (by omega)) a
theorem ways_m {h h' : ax_H} (q : fr Sm h h') {V0 : BV} {G : Nat → WD} (p : ways h V0 G) : ways h' V0 G := fun j hj => by
  obtain ⟨a, b, c⟩ := p j hj
  refine ⟨?_, WM_m q b, c⟩
  rw [fr_R q]
  exact WC_fr q (fun a k z => by simp only [Sm, decide_eq_false_iff_not]; omega) a
theorem ways_ex {h : ax_H} (iw : IW h) : ∃ G, ways h (V h) G := by
  have : ∀ j, ∃ D, j < nW' (V h) → WC h (gR h 82 j) D ∧ WM h j D ∧ WF D := fun j => by
    by_cases hj : j < nW' (V h)
    · obtain ⟨D, p⟩ := iw j hj
      exact ⟨D, fun _ => p⟩
    · exact ⟨(fun _ => 0, fun _ => 0, 0, []), fun q => absurd q hj⟩
  exact ⟨fun j => Classical.choose (this j), fun j hj => Classical.choose_spec (this j) hj⟩
section
theorem z_nm_50 {V0 : BV} (hcn : nW' V0 ≤ 10) {G : Nat → WD} {kn : Int32} (hk : 0 ≤ kn.toInt ∧ kn.toInt ≤ 9999) {x y z : Int32} (hx : 0 ≤ x.toInt ∧ x.toInt ≤ 99999) (hy : 0 ≤ y.toInt ∧ y.toInt ≤ 99999) (hz : 0 ≤ z.toInt ∧ z.toInt ≤ 99999) (t : Int32) : ∀ (m j : Nat) (a : Int32) (h : ax_H), j + m = nW' V0 → V h = V0 → ok h → GV V0 → ways h V0 G → ∃ h', B_named_50 64 kn x y z t a (nI j) h = some (nmC V0 G kn x y z t m j a, h') ∧ fr Sc h h' := by
  intro m
  induction m with
  | zero =>
    intro j a h hj hV w g p
    subst hV
    have hn := nI_nW g.1.2.2.2.2.1
    obtain ⟨wS, wR, wG, wN⟩ := w
    have hle : nI (nW' (V h)) ≤ nI j := by rw [nJ_le (by omega) (by omega)]; omega
    refine ⟨h, ?_, fr_rf _ _⟩
    rw [B_named_50_eq, nmC]
    simp only [wS, wR, ↓reduceIte, cV65, cV66, cV67, cV68, cV69, cV70, cV71, cV72, cV73, cV74, cV75, cV76, cV77, cV78, cV79, cV80, cV81, cV82, cV83, cV84, cV85, cV86, cV87, cV88, cV89, cV90, hn, hle, decide_true]
  | succ m ih =>
    intro j a h hj hV w g p
    subst hV
    have hn := nI_nW g.1.2.2.2.2.1
    have w0 := w
    obtain ⟨wS, wR, wG, wN⟩ := w
    have hle : ¬ nI (nW' (V h)) ≤ nI j := by rw [nJ_le (by omega) (by omega)]; omega
    obtain ⟨c, d, f⟩ := p j (by omega)
    have hnz : ¬ gR h 82 j = 0 := by have := c.1; omega
    have hWA := z_wayAt w0 g.1 (j := j) (by omega)
    obtain ⟨h1, r1, r2⟩ := z_least w0 g f c kn hx hy hz
    obtain ⟨h', s1, s2⟩ := ih (j + 1) (if thV (V h) (G j) kn x y z = t then a + 1 else a) h1 (by omega) (V_frc r2) (ok_fr r2 w0) g (ways_c r2 p)
    refine ⟨h', ?_, fr_tr r2 s2⟩
    rw [nmC, ← s1, B_named_50_eq]
    simp only [wS, wR, ↓reduceIte, cV65, cV66, cV67, cV68, cV69, cV70, cV71, cV72, cV73, cV74, cV75, cV76, cV77, cV78, cV79, cV80, cV81, cV82, cV83, cV84, cV85, cV86, cV87, cV88, cV89, cV90, hn, hle, decide_false, Bool.false_eq_true]
    rw [bnd hWA, if_neg hnz]
    simp only [wS, wR, ↓reduceIte]
    rw [bnd r1]
    by_cases q : thV (V h) (G j) kn x y z = t
    · simp only [q, not_true_eq_false, decide_false, Bool.false_eq_true, ↓reduceIte, nJ_p1]
    · simp only [q, not_false_eq_true, decide_true, ↓reduceIte, nJ_p1]
theorem zm_nm_65 {V0 : BV} (hcn : nW' V0 ≤ 10) {G : Nat → WD} {kn : Int32} (hk : 0 ≤ kn.toInt ∧ kn.toInt ≤ 9999) {x y z : Int32} (hx : 0 ≤ x.toInt ∧ x.toInt ≤ 99999) (hy : 0 ≤ y.toInt ∧ y.toInt ≤ 99999) (hz : 0 ≤ z.toInt ∧ z.toInt ≤ 99999) {t u : Int32} (htu : ∀ b, b3 b → ((if b = -2 then (3 : Int32) else b) = u ↔ b = t)) : ∀ (m j : Nat) (a : Int32) (h : ax_H), j + m = nW' V0 → V h = V0 → I0 h → ways h V0 G → ∃ h', M_named_65 159 kn x y z u a (nI j) h = some (nmC V0 G kn x y z t m j a, h') ∧ fr Sm h h' := by
  intro m
  induction m with
  | zero =>
    intro j a h hj hV i0 p
    subst hV
    obtain ⟨w, e, g⟩ := i0
    have hn := nI_nW g.1.2.2.2.2.1
    obtain ⟨wS, wR, wG, wN⟩ := w
    have hle : nI (nW' (V h)) ≤ nI j := by rw [nJ_le (by omega) (by omega)]; omega
    unfold EQ at e
    refine ⟨h, ?_, fr_rf _ _⟩
    rw [M_named_65_eq, nmC]
    simp only [wS, ↓reduceIte, e.2.2.2.2.1, hn, hle, decide_true]
  | succ m ih =>
    intro j a h hj hV i0 p
    subst hV
    obtain ⟨c, d, f⟩ := p j (by omega)
    obtain ⟨h1, r1, r2⟩ := zm_three i0 (w := j) (by omega) f d hk hx hy hz
    obtain ⟨h', s1, s2⟩ := ih (j + 1) (if thV (V h) (G j) kn x y z = t then a + 1 else a) h1 (by omega) (V_frm r2) (I0_frm r2 i0) (ways_m r2 p)
    obtain ⟨w, e, g⟩ := i0
    have hn := nI_nW g.1.2.2.2.2.1
    obtain ⟨wS, wR, wG, wN⟩ := w
    have hle : ¬ nI (nW' (V h)) ≤ nI j := by rw [nJ_le (by omega) (by omega)]; omega
    unfold EQ at e
    have hb := htu _ (thV_b (V h) (G j) kn x y z)
    refine ⟨h', ?_, fr_tr r2 s2⟩
    rw [nmC, ← s1, M_named_65_eq]
    simp only [wS, ↓reduceIte, e.2.2.2.2.1, hn, hle, decide_false, Bool.false_eq_true]
    rw [bnd r1]
    by_cases q : thV (V h) (G j) kn x y z = t
    · have hb' := hb.mpr q
      by_cases q2 : thV (V h) (G j) kn x y z = -2
      · rw [if_pos q2] at hb'
        simp only [q2, not_true_eq_false, decide_false, Bool.false_eq_true, ↓reduceIte]
        rw [M_named_102_eq, if_neg (by rw [decide_eq_true_eq]; exact not_not_intro hb'), if_pos (by rw [← q2]; exact q), nJ_p1]
      · rw [if_neg q2] at hb'
        simp only [q2, not_false_eq_true, decide_true, ↓reduceIte]
        rw [M_named_102_eq, if_neg (by rw [decide_eq_true_eq]; exact not_not_intro hb'), if_pos q, nJ_p1]
    · have hb' : ¬ _ := fun z => q (hb.mp z)
      by_cases q2 : thV (V h) (G j) kn x y z = -2
      · rw [if_pos q2] at hb'
        simp only [q2, not_true_eq_false, decide_false, Bool.false_eq_true, ↓reduceIte]
        rw [M_named_102_eq, if_pos (by rw [decide_eq_true_eq]; exact hb'), if_neg (by rw [← q2]; exact q), nJ_p1, Int32.add_zero]
      · rw [if_neg q2] at hb'
        simp only [q2, not_false_eq_true, decide_true, ↓reduceIte]
        rw [M_named_102_eq, if_pos (by rw [decide_eq_true_eq]; exact hb'), if_neg q, nJ_p1, Int32.add_zero]
end
theorem qy_named {h : ax_H} (i : I0 h) (iw : IW h) (kn x y z u : Int32) : qry (B_named 64 kn x y z u h) (M_named 159 kn x y z u) h := by
  have i0 := i
  obtain ⟨w, e, g⟩ := i
  have hcn := cnts g.1
  have w0 := w
  obtain ⟨wS, wR, wG, wN⟩ := w
  by_cases h2 : 0 ≤ kn.toInt ∧ kn.toInt ≤ 9999
  case neg =>
    refine qry_no (v := -1) ?_ ?_
    · rw [B_named_eq, bnd (z_isWeek _ _), if_pos (by rw [decide_eq_true_eq, bI_0]; exact h2)]
    · rw [M_named_eq, bnd (zm_isWeek _ _), if_pos (by rw [decide_eq_true_eq, bI_0]; exact h2)]
  have mpre : ∀ h r, (M_in (Int32.toInt64 x) 0 99999 h).bind (fun r2 => if decide (r2.1 = 0) then
      (some ((-1), r2.2) )
    else
      ((M_in (Int32.toInt64 y) 0 99999 r2.2).bind (fun r3 => if decide (r3.1 = 0) then
        (some ((-1), r3.2) )
      else
        ((M_in (Int32.toInt64 z) 0 99999 r3.2).bind (fun r4 => if decide (r4.1 = 0) then
          (some ((-1), r4.2) )
        else
          ((M_in (Int32.toInt64 u) 0 3 r4.2).bind (fun r5 => if decide (¬ r5.1 = 0) then
            (M_named_65 159 kn x y z u 0 0 r5.2 )
          else
            (some ((-1), r5.2) ) )) )) )) ) = r → M_named 159 kn x y z u h = r := fun h r hr => by
    rw [← hr, M_named_eq, bnd (zm_isWeek _ _), if_neg (by rw [decide_eq_true_eq, bI_0]; exact not_not_intro h2)]
  by_cases h3 : inI x 0 99999 ∧ inI y 0 99999 ∧ inI z 0 99999
  case neg =>
    refine qry_no (v := -1) ?_ (mpre _ _ ?_)
    · rw [B_named_eq, bnd (z_isWeek _ _), if_neg (by rw [decide_eq_true_eq, bI_0]; exact not_not_intro h2), bnd (z_areThree _ _ _ _), if_pos (by rw [decide_eq_true_eq, bI_0]; exact h3)]
    · rw [bnd (zm_in _ _ _ _)]
      by_cases q1 : inI x 0 99999
      · rw [if_neg (by rw [decide_eq_true_eq, bI_0, Int32.toInt_toInt64]; exact not_not_intro q1), bnd (zm_in _ _ _ _)]
        by_cases q2 : inI y 0 99999
        · rw [if_neg (by rw [decide_eq_true_eq, bI_0, Int32.toInt_toInt64]; exact not_not_intro q2), bnd (zm_in _ _ _ _), if_pos (by rw [decide_eq_true_eq, bI_0, Int32.toInt_toInt64]; exact fun q3 => h3 ⟨q1, q2, q3⟩)]
        · rw [if_pos (by rw [decide_eq_true_eq, bI_0, Int32.toInt_toInt64]; exact q2)]
      · rw [if_pos (by rw [decide_eq_true_eq, bI_0, Int32.toInt_toInt64]; exact q1)]
  have mpre2 : ∀ h r, (M_in (Int32.toInt64 u) 0 3 h).bind (fun r5 => if decide (¬ r5.1 = 0) then
            (M_named_65 159 kn x y z u 0 0 r5.2 )
          else
            (some ((-1), r5.2) ) ) = r → M_named 159 kn x y z u h = r := fun h r hr => mpre h r (by
    rw [bnd (zm_in _ _ _ _), if_neg (by rw [decide_eq_true_eq, bI_0, Int32.toInt_toInt64]; exact not_not_intro h3.1), bnd (zm_in _ _ _ _), if_neg (by rw [decide_eq_true_eq, bI_0, Int32.toInt_toInt64]; exact not_not_intro h3.2.1), bnd (zm_in _ _ _ _), if_neg (by rw [decide_eq_true_eq, bI_0, Int32.toInt_toInt64]; exact not_not_intro h3.2.2)]
    exact hr)
  by_cases h4 : 0 ≤ u.toInt ∧ u.toInt ≤ 3
  case neg =>
    refine qry_no (v := -1) ?_ (mpre2 _ _ ?_)
    · rw [B_named_eq, bnd (z_isWeek _ _), if_neg (by rw [decide_eq_true_eq, bI_0]; exact not_not_intro h2), bnd (z_areThree _ _ _ _), if_neg (by rw [decide_eq_true_eq, bI_0]; exact not_not_intro h3), bnd (z_isWithin _ _ _ _), if_neg (by rw [decide_eq_true_eq, bI_0]; exact fun q => q h4)]
    · rw [bnd (zm_in _ _ _ _), if_neg (by rw [decide_eq_true_eq, bI_0, Int32.toInt_toInt64]; exact fun q => q h4)]
  obtain ⟨G, p⟩ := ways_ex iw
  have hu : u = 0 ∨ u = 1 ∨ u = 2 ∨ u = 3 := by
    have a0 : (0 : Int32).toInt = 0 := rfl
    have a1 : (1 : Int32).toInt = 1 := rfl
    have a2 : (2 : Int32).toInt = 2 := rfl
    have a3 : (3 : Int32).toInt = 3 := rfl
    have : u.toInt = 0 ∨ u.toInt = 1 ∨ u.toInt = 2 ∨ u.toInt = 3 := by omega
    rcases this with q | q | q | q
    · exact Or.inl (Int32.toInt_inj.mp (q.trans a0.symm))
    · exact Or.inr (Or.inl (Int32.toInt_inj.mp (q.trans a1.symm)))
    · exact Or.inr (Or.inr (Or.inl (Int32.toInt_inj.mp (q.trans a2.symm))))
    · exact Or.inr (Or.inr (Or.inr (Int32.toInt_inj.mp (q.trans a3.symm))))
  obtain ⟨t, ht⟩ : ∃ t, (if u = 3 then (-2 : Int32) else u) = t := ⟨_, rfl⟩
  have htu : ∀ b, b3 b → ((if b = -2 then (3 : Int32) else b) = u ↔ b = t) := by
    intro b hb
    rw [← ht]
    rcases hu with rfl | rfl | rfl | rfl <;> rcases hb with rfl | rfl | rfl | rfl <;> decide
  obtain ⟨x1, r1, r2⟩ := z_nm_50 (V0 := V h) (by omega) h2 h3.1 h3.2.1 h3.2.2 t (nW' (V h)) 0 0 h (by omega) rfl w0 g p
  have hV := V_frc r2
  have ix := I0_frc r2 i0
  obtain ⟨x2, s1, s2⟩ := zm_nm_65 (V0 := V h) (by omega) h2 h3.1 h3.2.1 h3.2.2 htu (nW' (V h)) 0 0 x1 (by omega) hV ix (ways_c r2 p)
  refine ⟨nmC (V h) G kn x y z t (nW' (V h)) 0 0, x1, x2, ?_, mpre2 _ _ ?_, r2, s2⟩
  rotate_left
  · rw [bnd (zm_in _ _ _ _), if_pos (by rw [decide_eq_true_eq, bI_0, Int32.toInt_toInt64]; exact not_not_intro h4)]
    exact s1
  · rw [B_named_eq, bnd (z_isWeek _ _), if_neg (by rw [decide_eq_true_eq, bI_0]; exact not_not_intro h2), bnd (z_areThree _ _ _ _), if_neg (by rw [decide_eq_true_eq, bI_0]; exact not_not_intro h3), bnd (z_isWithin _ _ _ _), if_pos (by rw [decide_eq_true_eq, bI_0]; exact not_not_intro h4)]
    by_cases q : u = 3
    · rw [if_pos q] at ht
      rw [← ht] at r1
      simp only [q, not_true_eq_false, decide_false, Bool.false_eq_true, ↓reduceIte]
      rw [← ht]
      exact r1
    · rw [if_neg q] at ht
      simp only [q, not_false_eq_true, decide_true, ↓reduceIte]
      rw [ht]
      exact r1
