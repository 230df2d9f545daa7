/-! way: both sides -/
theorem WM_z {h h' : ax_H} {w : Nat} (q : ∀ a k, 173 ≤ a → a ≤ 180 → Sz w a k = false → gI h' a k = gI h a k) {j : Nat} (hj : j < w) {D : WD} (f : WF D) (c : WM h j D) : WM h' j D := by
  obtain ⟨c1, c2, c3, c4, c5⟩ := c
  have hl : D.2.2.2.length ≤ 12 := f.2.2.2.2.1
  refine ⟨fun t ht => (q _ _ (by omega) (by omega) (Sz_f (by omega))).trans (c1 t ht), fun t ht => (q _ _ (by omega) (by omega) (Sz_f (by omega))).trans (c2 t ht), (q _ _ (by omega) (by omega) (Sz_f (by omega))).trans c3, (q _ _ (by omega) (by omega) (Sz_f (by omega))).trans c4, fun i R hR => ?_⟩
  have hi : i < D.2.2.2.length := (List.getElem?_eq_some_iff.mp hR).1
  obtain ⟨s, s1, s2, s3, s4⟩ := c5 i R hR
  refine ⟨s, s1, (q _ _ (by omega) (by omega) (Sz_f (by omega))).trans s2, (q _ _ (by omega) (by omega) (Sz_f (by omega))).trans s3, fun k e hk => ?_⟩
  have hk' : k < R.length := (List.getElem?_eq_some_iff.mp hk).1
  obtain ⟨u1, u2⟩ := s4 k e hk
  exact ⟨(q _ _ (by omega) (by omega) (Sz_f (by omega))).trans u1, (q _ _ (by omega) (by omega) (Sz_f (by omega))).trans u2⟩
/-- what way may change -/
def Swy (w a k : Nat) : Bool := decide (a = 93 ∨ (95 ≤ a ∧ a ≤ 98) ∨ (a = 65 ∧ k = 4)) || Sz w a k
theorem Swy_f {w a k : Nat} (h1 : ¬ (a = 93 ∨ (95 ≤ a ∧ a ≤ 98) ∨ (a = 65 ∧ k = 4))) (h2 : Sz w a k = false) : Swy w a k = false := by
  unfold Swy
  rw [h2, decide_eq_false h1]
  rfl
theorem Swy_f2 {w a k : Nat} (h : ¬ (a = 93 ∨ (95 ≤ a ∧ a ≤ 98) ∨ (a = 65 ∧ k = 4) ∨ (a = 159 ∧ 17 ≤ k ∧ k ≤ 25) ∨ (173 ≤ a ∧ a ≤ 181))) : Swy w a k = false := Swy_f (by omega) (Sz_f (by omega))
theorem GV_way {V V' : BV} {w : Nat} (hV : ∀ a k, ¬ (a = 65 ∧ k = 4) → V' a k = V a k) (e1 : V 65 4 = nI w) (e2 : V' 65 4 = nI (w + 1)) (hw : w < 10) (g : GV V) : GV V' := by
  obtain ⟨g1, g2, g3, g4, g5, g6, g7⟩ := g
  refine ⟨?_, ?_, ?_, ?_, ?_, ?_, ?_⟩
  · obtain ⟨u1, u2, u3, u4, u5, u6, u7⟩ := g1
    refine ⟨?_, ?_, ?_, ?_, ?_, ?_, ?_⟩
    · rw [hV 65 0 (by omega)]; exact u1
    · rw [hV 66 0 (by omega)]; exact u2
    · rw [hV 70 0 (by omega)]; exact u3
    · rw [hV 74 0 (by omega)]; exact u4
    · rw [e2]; unfold inI; rw [nJ_i (by omega)]; omega
    · rw [hV 65 6 (by omega)]; exact u6
    · rw [hV 65 10 (by omega)]; exact u7
  · unfold GS nS at g2 ⊢
    simp (disch := omega) only [hV]
    exact g2
  · unfold GP nP at g3 ⊢
    simp (disch := omega) only [hV]
    exact g3
  · unfold GI nM sameK at g4 ⊢
    simp (disch := omega) only [hV]
    exact g4
  · unfold GD nD at g5 ⊢
    intro j hj
    rw [hV 65 6 (by omega)] at hj
    obtain ⟨u1, u2, u3⟩ := g5 j hj
    rw [hV 83 j (by omega), hV 84 j (by omega), hV 85 j (by omega), hV 65 0 (by omega), e2]
    rw [e1] at u1
    refine ⟨?_, u2, u3⟩
    unfold inI at u1 ⊢
    rw [nJ_i (by omega)] at u1 ⊢
    omega
  · unfold GF nF at g6 ⊢
    simp (disch := omega) only [hV]
    exact g6
  · unfold GK at g7 ⊢
    simp (disch := omega) only [hV]
    exact g7
section
theorem ok_way {h h2 : ax_H} {w : Nat} (w0 : ok h) (N2 : gN h ≤ gN h2) (S2 : ∀ a, a < gN h → gS h2 a = gS h a) (R2 : ∀ a k, a < gN h → ¬ (a = 82 ∧ k = w) → gR h2 a k = gR h a k) (I2 : ∀ a k, a < gN h → Swy w a k = false → gI h2 a k = gI h a k) : ok h2 := by
  obtain ⟨wS, wR, wG, wN⟩ := w0
  have rS : ∀ x, x < 207 → gS h2 x = gS h x := fun x hx => S2 x (by omega)
  have rR : ∀ x j, x < 207 → ¬ x = 82 → gR h2 x j = gR h x j := fun x j hx h9 => R2 x j (by omega) (by omega)
  refine ⟨?_, ?_, ⟨fun z hz => ?_, fun z hz => ?_⟩, by omega⟩
  · simp (disch := decide) only [okS, rS, wS, and_self]
  · simp (disch := decide) only [okR, rR, wR, and_self]
  · rw [rR 107 z (by omega) (by omega)]; exact wG.1 z hz
  · rw [rS (108 + z) (by omega)]; exact wG.2 z hz
theorem V_way {h h2 : ax_H} {w : Nat} (w0 : ok h) (N2 : gN h ≤ gN h2) (S2 : ∀ a, a < gN h → gS h2 a = gS h a) (R2 : ∀ a k, a < gN h → ¬ (a = 82 ∧ k = w) → gR h2 a k = gR h a k) (I2 : ∀ a k, a < gN h → Swy w a k = false → gI h2 a k = gI h a k) : ∀ a k, ¬ (a = 65 ∧ k = 4) → V h2 a k = V h a k := fun a k z => by
  have wN := w0.2.2.2
  unfold V
  by_cases q : 65 ≤ a ∧ a ≤ 90
  · rw [if_pos q, if_pos q]
    exact I2 a k (by omega) (Swy_f2 (by omega))
  · rw [if_neg q, if_neg q]
theorem EQ_way {h h2 : ax_H} {w : Nat} (w0 : ok h) (N2 : gN h ≤ gN h2) (S2 : ∀ a, a < gN h → gS h2 a = gS h a) (R2 : ∀ a k, a < gN h → ¬ (a = 82 ∧ k = w) → gR h2 a k = gR h a k) (I2 : ∀ a k, a < gN h → Swy w a k = false → gI h2 a k = gI h a k) (e20 : gI h2 159 20 = V h2 65 4) (e : EQ h) : EQ h2 := by
  have wN := w0.2.2.2
  have hV := V_way w0 N2 S2 R2 I2
  have q0 : ∀ j, (j = 1 ∨ j = 2 ∨ j = 3 ∨ j = 4 ∨ j = 59 ∨ j = 63) → gI h2 159 j = gI h 159 j := fun j hj => I2 159 j (by omega) (Swy_f2 (by omega))
  have q1 : ∀ a, 160 ≤ a → a ≤ 171 → ∀ j, gI h2 a j = gI h a j := fun a h1 h3 j => I2 a j (by omega) (Swy_f2 (by omega))
  have q2 : ∀ a, 196 ≤ a → a ≤ 203 → ∀ j, gI h2 a j = gI h a j := fun a h1 h3 j => I2 a j (by omega) (Swy_f2 (by omega))
  unfold EQ at e ⊢
  obtain ⟨e1, e2, e3, e4, e5, e6, e7, e8⟩ := e
  refine ⟨?_, ?_, ?_, ?_, e20, ?_, ?_, ?_⟩
  · rw [q0 1 (by omega), hV 65 0 (by omega)]; exact e1
  · rw [q0 2 (by omega), hV 66 0 (by omega)]; exact e2
  · rw [q0 3 (by omega), hV 70 0 (by omega)]; exact e3
  · rw [q0 4 (by omega), hV 74 0 (by omega)]; exact e4
  · rw [q0 59 (by omega), hV 65 6 (by omega)]; exact e6
  · rw [q0 63 (by omega), hV 65 10 (by omega)]; exact e7
  · simp (disch := omega) only [q1, q2, hV]
    exact e8
theorem IM_way {h h2 : ax_H} {w : Nat} (w0 : ok h) (N2 : gN h ≤ gN h2) (S2 : ∀ a, a < gN h → gS h2 a = gS h a) (R2 : ∀ a k, a < gN h → ¬ (a = 82 ∧ k = w) → gR h2 a k = gR h a k) (I2 : ∀ a k, a < gN h → Swy w a k = false → gI h2 a k = gI h a k) (hw : w < 10) (hw1 : nW' (V h) = w) (m : IM h) (new : (gR h2 82 w = gR h 82 w ∧ nW' (V h2) = w) ∨ (nW' (V h2) = w + 1 ∧ gR h2 82 w = gN h ∧ (∃ D, WC h2 (gN h) D ∧ WM h2 w D ∧ WF D) ∧ gN h ≤ gR h2 (gN h) 0 ∧ gN h ≤ gR h2 (gN h) 1 ∧ gN h ≤ gR h2 (gN h) 3)) : IM h2 := by
  have wN := w0.2.2.2
  obtain ⟨O, m1, m2, m3⟩ := m
  obtain ⟨O', hO'⟩ : ∃ O' : Nat → Nat, ∀ x, O' x = if x < gN h then O x else 0 := ⟨_, fun _ => rfl⟩
  have hO : ∀ x, x < gN h → O' x = O x := fun x hx => by rw [hO', if_pos hx]
  have hO0 : ∀ x, gN h ≤ x → O' x = 0 := fun x hx => by rw [hO', if_neg (by omega)]
  have kp : kpK (fun _ => True) h h2 := ⟨N2, S2, fun a k h1 h3 _ => ⟨R2 a k h3 (by omega), I2 a k h3 (Swy_f2 (by omega))⟩⟩
  have old : ∀ j, j < w → ∃ D, WC h2 (gR h2 82 j) D ∧ OW O' h2 (gR h2 82 j) ∧ WM h2 j D ∧ WF D := fun j hj => by
    obtain ⟨D, a, b, c, d⟩ := m2 j (by omega)
    rw [R2 82 j (by omega) (by omega)]
    obtain ⟨a', b'⟩ := WC_kp kp (O' := O') (fun _ _ => trivial) hO a b
    exact ⟨D, a', b', WM_z (w := w) (fun x k z1 z2 z3 => I2 x k (by omega) (Swy_f (by omega) z3)) hj d c, d⟩
  refine ⟨O', fun j hj => ?_, fun j hj => ?_, fun k hk => ?_⟩
  · by_cases z : j = w
    · subst z
      rcases new with ⟨n1, -⟩ | ⟨-, n1, ⟨D, n2, -⟩, -⟩
      · rw [n1]
        rcases m1 j hj with x | ⟨x, y⟩
        · exact Or.inl x
        · exact Or.inr ⟨by omega, by rw [S2 _ x]; exact y⟩
      · rw [n1]
        exact Or.inr ⟨n2.1.2.1, n2.1.2.2⟩
    · rw [R2 82 j (by omega) (by omega)]
      rcases m1 j hj with x | ⟨x, y⟩
      · exact Or.inl x
      · exact Or.inr ⟨by omega, by rw [S2 _ x]; exact y⟩
  · rcases new with ⟨-, n1⟩ | ⟨n1, n3, ⟨D, n4, n5, n6⟩, n7, n8, n9⟩
    · exact old j (by omega)
    · by_cases z : j = w
      · subst z
        rw [n3]
        exact ⟨D, n4, ⟨hO0 _ (Nat.le_refl _), hO0 _ n7, hO0 _ n8, hO0 _ n9⟩, n5, n6⟩
      · exact old j (by omega)
  · rcases m3 k hk with ⟨x, y⟩ | ⟨b, hg, p⟩
    · exact Or.inl ⟨by rw [R2 92 k (by omega) (by omega)]; exact x, by rw [I2 206 k (by omega) (Swy_f2 (by omega))]; exact y⟩
    · exact Or.inr ⟨b, hg, bkM_kp kp (fun _ _ => trivial) hO (R2 92 k (by omega) (by omega)) (I2 206 k (by omega) (Swy_f2 (by omega))) (fun i _ => I2 204 _ (by omega) (Swy_f2 (by omega))) p⟩
theorem IT_way {h h2 : ax_H} {w : Nat} (w0 : ok h) (N2 : gN h ≤ gN h2) (S2 : ∀ a, a < gN h → gS h2 a = gS h a) (R2 : ∀ a k, a < gN h → ¬ (a = 82 ∧ k = w) → gR h2 a k = gR h a k) (I2 : ∀ a k, a < gN h → Swy w a k = false → gI h2 a k = gI h a k) {T : Nat → Nat} {n : Nat} (tb : ∀ i, T i < 256) (tc : TC h T n) (tm : TM h T n) (e1 : gI h2 93 0 = 0) (e2 : gI h2 159 17 = 0) : IT h2 := by
  have wN := w0.2.2.2
  exact ⟨T, 0, tb, ⟨by omega, e1, fun i => (I2 94 i (by omega) (Swy_f2 (by omega))).trans (tc.2.2 i)⟩, e2, fun i => (I2 172 i (by omega) (Swy_f2 (by omega))).trans (tm.2 i)⟩
end
theorem st_way {h : ax_H} (v : Inv h) : stp (B_way 64 h) (M_way 159) (fun h1 h2 => nxt h h2 ∧ scrP h h1) := by
  have v0 := v
  obtain ⟨⟨w0, e, g⟩, ⟨T, n, tb, tc, tm⟩, m⟩ := v
  have wN := w0.2.2.2
  have hcn := cnts g.1
  have e654 : gI h 65 4 = nI (nW' (V h)) := nI_nW g.1.2.2.2.2.1
  have e20 : gI h 159 20 = nI (nW' (V h)) := (e.2.2.2.2.1).trans (nI_nW g.1.2.2.2.2.1)
  obtain ⟨w, hw⟩ : ∃ w, w = nW' (V h) := ⟨_, rfl⟩
  have hw10 : w ≤ 10 := by omega
  rw [← hw] at e654 e20
  have s64 : gS h 64 = (0, 0) := by obtain ⟨wS, wR, wG, wN⟩ := w0; simp only [wS]
  have s65 : gS h 65 = (1, 0) := by obtain ⟨wS, wR, wG, wN⟩ := w0; simp only [wS]
  have r640 : gR h 64 0 = 65 := by obtain ⟨wS, wR, wG, wN⟩ := w0; simp only [wR]
  have r642 : gR h 64 2 = 93 := by obtain ⟨wS, wR, wG, wN⟩ := w0; simp only [wR]
  have r655 : gR h 65 5 = 82 := by obtain ⟨wS, wR, wG, wN⟩ := w0; simp only [wR]
  have s82 : gS h 82 = (20, 10) := by obtain ⟨wS, wR, wG, wN⟩ := w0; simp only [wS]
  by_cases h10 : w = 10
  · refine ⟨-1, h, h, ?_, ?_, nxt_rf v0, scrP_rf w0⟩
    · have z : ¬ nI w < 10 := by rw [h10]; decide
      rw [B_way_eq]
      simp only [s64, s65, r640, e654, z, decide_false, Bool.false_eq_true, ↓reduceIte]
    · have z : nI w = 10 := by rw [h10]; rfl
      rw [M_way_eq]
      simp only [m_159 w0, ↓reduceIte, e20, z, not_true_eq_false, decide_false, Bool.false_eq_true]
  have hwl : w < 10 := by omega
  have z10 : nI w < 10 := (nJ_lt (a := w) (b := 10) (by omega) (by omega)).mpr hwl
  obtain ⟨c1, c2⟩ := z_readWay tb w0 tc
  cases hp : wayP T n with
  | inl f =>
    obtain ⟨h', x1, x2, x3⟩ := c1 f hp
    have S' : gS h' = gS h := fr_S x2
    have R' : gR h' = gR h := fr_R x2
    obtain ⟨h1, e1⟩ : ∃ h1, h1 = pI h' 93 0 0 := ⟨_, rfl⟩
    have g931 : gI h1 93 1 = nI f := by rw [e1, gI_pI, if_neg (by omega)]; exact x3
    have S1 : gS h1 = gS h := by rw [e1]; exact S'
    have R1 : gR h1 = gR h := by rw [e1]; exact R'
    have I1 : ∀ a k, ¬ (a = 93 ∨ (95 ≤ a ∧ a ≤ 98)) → gI h1 a k = gI h a k := fun a k z => by
      rw [e1, gI_pI, if_neg (by omega)]
      exact fr_I x2 (decide_eq_false (by omega))
    have N1 : gN h1 = gN h := by rw [e1]; exact x2.1
    have Z1 : gZ h1 = gZ h := by rw [e1]; exact x2.2.1
    have w1 : ok h1 := by rw [e1]; exact ok_pI (ok_fr x2 w0) _ _ _
    have tm1 : TM h1 T n := ⟨by rw [I1 159 17 (by omega)]; exact tm.1, fun i => by rw [I1 172 i (by omega)]; exact tm.2 i⟩
    have k := zm_way tc.1 tb hwl w1 tm1 (by rw [I1 159 20 (by omega)]; exact e20)
    rw [hp] at k
    obtain ⟨h2, y1, y2, y3, y4⟩ := k
    have I2 : ∀ a k, a < gN h → Swy w a k = false → gI h2 a k = gI h a k := fun a k _ z => by
      unfold Swy at z
      rw [Bool.or_eq_false_iff] at z
      rw [fr_I y2 z.2]
      have := of_decide_eq_false z.1
      exact I1 a k (by omega)
    have R2 : ∀ a k, gR h2 a k = gR h a k := fun a k => by rw [fr_R y2, R1]
    have S2 : ∀ a, gS h2 a = gS h a := fun a => by rw [fr_S y2, S1]
    have N2 : gN h2 = gN h := by rw [y2.1, N1]
    have g654 : gI h2 65 4 = gI h 65 4 := by rw [fr_I y2 (Sz_f (by omega))]; exact I1 65 4 (by omega)
    have V2 : V h2 = V h := by
      funext a k
      by_cases z : a = 65 ∧ k = 4
      · rw [z.1, z.2]; exact g654
      · exact V_way w0 (by omega) (fun a _ => S2 a) (w := w) (fun a k _ _ => R2 a k) I2 a k z
    refine ⟨-2 - nI f, h1, h2, ?_, y1, ⟨⟨⟨ok_fr y2 w1, EQ_way w0 (by omega) (fun a _ => S2 a) (w := w) (fun a k _ _ => R2 a k) I2 ?_ e, by rw [V2]; exact g⟩, IT_way w0 (by omega) (fun a _ => S2 a) (w := w) (fun a k _ _ => R2 a k) I2 tb tc tm ?_ y3, IM_way w0 (by omega) (fun a _ => S2 a) (fun a k _ _ => R2 a k) I2 hwl hw.symm m (Or.inl ⟨R2 82 w, by rw [V2]; exact hw.symm⟩)⟩, by omega, by rw [y2.2.1, Z1]; omega, S2 40, fun k => I2 40 k (by omega) (Swy_f2 (by omega))⟩, by rw [S1], fun k => I1 40 k (by omega), m_159 w1⟩
    · rw [B_way_eq]
      simp only [s64, s65, r640, e654, z10, decide_true, ↓reduceIte, r642, s_93 w0]
      rw [bnd x1]
      simp only [S', R', s64, r642, s_93 w0, ↓reduceIte, gS_pI, gR_pI, ← e1, S1, R1, g931]
    · rw [y4, V2]
      rw [hw]
      exact (nI_nW g.1.2.2.2.2.1).symm
    · rw [fr_I y2 (Sz_f (by omega)), e1, gI_pI, if_pos ⟨rfl, rfl⟩]
  | inr s =>
    obtain ⟨hr, h', x1, x2, x3, x4⟩ := c2 s hp
    obtain ⟨q1, q2, q3, q4, q5, q6, q7, q8, q9, q10⟩ := x3
    have gNr : gN hr = gN h := x2.1
    have gZr : gZ hr = gZ h := x2.2.1
    rw [gNr] at q1 q3 q4 q5 q6 q7 q8 q9 q10
    have S' : ∀ a, a < gN h → gS h' a = gS h a := fun a ha => by rw [q3 a ha, fr_S x2]
    have R' : ∀ a k, a < gN h → gR h' a k = gR h a k := fun a k ha => by rw [q4 a k ha, fr_R x2]
    obtain ⟨ha, ea⟩ : ∃ ha, ha = pI h' 93 0 0 := ⟨_, rfl⟩
    obtain ⟨hb, eb⟩ : ∃ hb, hb = pR ha 82 w (gN h) := ⟨_, rfl⟩
    obtain ⟨h1, e1⟩ : ∃ h1, h1 = pI hb 65 4 (nI (w + 1)) := ⟨_, rfl⟩
    have Sa : gS ha = gS h' := by rw [ea]; rfl
    have Sb : gS hb = gS h' := by rw [eb]; exact Sa
    have S1 : gS h1 = gS h' := by rw [e1]; exact Sb
    have Ra : ∀ a k, gR ha a k = gR h' a k := fun a k => by rw [ea, gR_pI]
    have Rb : ∀ a k, gR hb a k = if a = 82 ∧ k = w then gN h else gR h' a k := fun a k => by rw [eb, gR_pR, Ra]
    have R1 : ∀ a k, gR h1 a k = if a = 82 ∧ k = w then gN h else gR h' a k := fun a k => by rw [e1, gR_pI, Rb]
    have Ia : ∀ a k, gI ha a k = if a = 93 ∧ k = 0 then 0 else gI h' a k := fun a k => by rw [ea, gI_pI]
    have Ib : ∀ a k, gI hb a k = if a = 93 ∧ k = 0 then 0 else gI h' a k := fun a k => by rw [eb, gI_pR, Ia]
    have I1 : ∀ a k, gI h1 a k = if a = 65 ∧ k = 4 then nI (w + 1) else if a = 93 ∧ k = 0 then 0 else gI h' a k := fun a k => by rw [e1, gI_pI, Ib]
    have I1' : ∀ a k, a < gN h → ¬ (a = 93 ∨ (95 ≤ a ∧ a ≤ 98) ∨ (a = 65 ∧ k = 4)) → gI h1 a k = gI h a k := fun a k ha z => by
      rw [I1, if_neg (by omega), if_neg (by omega), q5 a k ha]
      exact fr_I x2 (decide_eq_false (by omega))
    have N1 : gN h1 = gN h + 4 := by rw [e1, eb, ea]; exact q1
    have Z1 : gZ h1 ≤ gZ h + 416 := by rw [e1, eb, ea, ← gZr]; exact q2
    have S1' : ∀ a, a < gN h → gS h1 a = gS h a := fun a ha => by rw [S1]; exact S' a ha
    have R1' : ∀ a k, a < gN h → ¬ (a = 82 ∧ k = w) → gR h1 a k = gR h a k := fun a k ha z => by rw [R1, if_neg z]; exact R' a k ha
    have w1 : ok h1 := ok_way (w := w) w0 (by omega) S1' R1' (fun a k ha z => by
      unfold Swy at z
      rw [Bool.or_eq_false_iff] at z
      have := of_decide_eq_false z.1
      exact I1' a k ha (by omega))
    have tm1 : TM h1 T n := ⟨by rw [I1' 159 17 (by omega) (by omega)]; exact tm.1, fun i => by rw [I1' 172 i (by omega) (by omega)]; exact tm.2 i⟩
    have k := zm_way tc.1 tb hwl w1 tm1 (by rw [I1' 159 20 (by omega) (by omega)]; exact e20)
    rw [hp] at k
    obtain ⟨h2, y1, y2, y3, y4, y5⟩ := k
    have S2e : gS h2 = gS h1 := fr_S y2
    have R2e : gR h2 = gR h1 := fr_R y2
    have N2 : gN h2 = gN h + 4 := by rw [y2.1, N1]
    have I2 : ∀ a k, a < gN h → Swy w a k = false → gI h2 a k = gI h a k := fun a k ha z => by
      unfold Swy at z
      rw [Bool.or_eq_false_iff] at z
      rw [fr_I y2 z.2]
      have := of_decide_eq_false z.1
      exact I1' a k ha (by omega)
    have S2 : ∀ a, a < gN h → gS h2 a = gS h a := fun a ha => by rw [S2e]; exact S1' a ha
    have R2 : ∀ a k, a < gN h → ¬ (a = 82 ∧ k = w) → gR h2 a k = gR h a k := fun a k ha z => by rw [R2e]; exact R1' a k ha z
    have g654 : V h2 65 4 = nI (w + 1) := by
      show gI h2 65 4 = _
      rw [fr_I y2 (Sz_f (by omega)), I1, if_pos ⟨rfl, rfl⟩]
    have nW2 : nW' (V h2) = w + 1 := by
      show (V h2 65 4).toInt.toNat = w + 1
      rw [g654, nJ_i (by omega)]
      omega
    have hV := V_way w0 (by omega) S2 R2 I2
    have wc1 : WC h1 (gN h) (wdS s) := by
      obtain ⟨p1, p2, p3, p4, p5, p6, p7, p8⟩ := q7
      have rr : ∀ k, gR h1 (gN h) k = gR h' (gN h) k := fun k => by rw [R1, if_neg (by omega)]
      have ii : ∀ a k, 207 ≤ a → gI h1 a k = gI h' a k := fun a k z => by rw [I1, if_neg (by omega), if_neg (by omega)]
      have nn : gN h' = gN h1 := by rw [e1, eb, ea]; rfl
      unfold WC
      rw [rr 0, rr 1, rr 3, S1, ← nn]
      exact ⟨p1, p2, p3, p4, fun t ht => (ii _ t p2.1).trans (p5 t ht), fun t ht => (ii _ t p3.1).trans (p6 t ht), (ii _ 2 p1.1).trans p7, fun k e z => (ii _ k p4.1).trans (p8 k e z)⟩
    have wc2 : WC h2 (gN h) (wdS s) := WC_fr y2 (fun a k z => Sz_f (by omega)) wc1
    have rn : ∀ k, gR h2 (gN h) k = gR h' (gN h) k := fun k => by rw [R2e, R1, if_neg (by omega)]
    refine ⟨nI w, h1, h2, ?_, y1, ⟨⟨⟨ok_fr y2 w1, EQ_way w0 (by omega) S2 R2 I2 (y4.trans g654.symm) e, GV_way hV (show V h 65 4 = nI w from e654) g654 hwl g⟩, IT_way w0 (by omega) S2 R2 I2 tb tc tm ?_ y3, IM_way w0 (by omega) S2 R2 I2 hwl hw.symm m (Or.inr ⟨nW2, ?_, ⟨wdS s, wc2, y5, x4⟩, by rw [rn, q8]; omega, by rw [rn, q9]; omega, by rw [rn, q10]; omega⟩)⟩, by omega, by rw [y2.2.1]; omega, S2 40 (by omega), fun k => I2 40 k (by omega) (Swy_f2 (by omega))⟩, S1' 40 (by omega), fun k => I1' 40 k (by omega) (by omega), m_159 w1⟩
    · have nz : ¬ gN h = 0 := by omega
      have s5 : (gS h' (gN h)).1 = 5 := q7.1.2.2
      have t64 : gS h' 64 = (0, 0) := by rw [S' 64 (by omega)]; exact s64
      have t65 : gS h' 65 = (1, 0) := by rw [S' 65 (by omega)]; exact s65
      have t82 : gS h' 82 = (20, 10) := by rw [S' 82 (by omega)]; exact s82
      have t93 : (gS h' 93).1 = 6 := by rw [S' 93 (by omega)]; exact s_93 w0
      have u640 : gR h' 64 0 = 65 := by rw [R' 64 0 (by omega)]; exact r640
      have u642 : gR h' 64 2 = 93 := by rw [R' 64 2 (by omega)]; exact r642
      have u655 : gR h' 65 5 = 82 := by rw [R' 65 5 (by omega)]; exact r655
      have ub640 : gR hb 64 0 = 65 := by rw [Rb, if_neg (by omega)]; exact u640
      have u1640 : gR h1 64 0 = 65 := by rw [R1, if_neg (by omega)]; exact u640
      have ia : gI ha 65 4 = nI w := by rw [Ia, if_neg (by omega), q5 65 4 (by omega), fr_I x2 (decide_eq_false (by omega))]; exact e654
      have ib : gI hb 65 4 = nI w := by rw [Ib, if_neg (by omega), q5 65 4 (by omega), fr_I x2 (decide_eq_false (by omega))]; exact e654
      have i1 : gI h1 65 4 = nI (w + 1) := by rw [I1, if_pos ⟨rfl, rfl⟩]
      have tw : (nI w).toNatClampNeg = w := nJ_n (by omega)
      have nw : ¬ nI w < 0 := nJ_nn (by omega)
      have ee : nI (w + 1) - 1 = nI w := by rw [show (1 : Int32) = nI 1 from rfl, nI_sb (by omega), Nat.add_sub_cancel]
      rw [B_way_eq]
      simp only [s64, s65, r640, e654, z10, decide_true, ↓reduceIte, r642, s_93 w0]
      rw [bnd x1]
      simp only [t64, t93, u642, nz, ↓reduceIte, ← ea, Sa, Ra, u640, t65, u655, ia, ax_in, t82, tw, nw, hwl, not_false_eq_true, and_self, s5, or_true, ← eb, Sb, ub640, ib, nJ_p1, ← e1, S1, u1640, i1, ee]
    · rw [fr_I y2 (Sz_f (by omega)), I1, if_neg (by omega), if_pos ⟨rfl, rfl⟩]
    · rw [R2e, R1, if_pos ⟨rfl, rfl⟩]
