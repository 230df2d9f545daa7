/-! frames when something was made: what was there keeps its shape and references -/
def frA (S : Nat → Nat → Bool) (h h' : ax_H) : Prop := gN h ≤ gN h' ∧ (∀ a, a < gN h → gS h' a = gS h a) ∧ (∀ a k, a < gN h → gR h' a k = gR h a k) ∧ ∀ a k, a < gN h → S a k = false → gI h' a k = gI h a k ∧ gL h' a k = gL h a k
theorem frA_of {S : Nat → Nat → Bool} {h h' : ax_H} (q : fr S h h') : frA S h h' := ⟨by rw [q.1]; exact Nat.le_refl _, fun a _ => by rw [fr_S q], fun a k _ => by rw [fr_R q], fun a k _ z => q.2.2.2.2 a k z⟩
theorem frA_rf (S : Nat → Nat → Bool) (h : ax_H) : frA S h h := frA_of (fr_rf S h)
theorem frA_tr {S : Nat → Nat → Bool} {h h1 h2 : ax_H} (p : frA S h h1) (q : frA S h1 h2) : frA S h h2 := by
  obtain ⟨p1, p2, p3, p4⟩ := p
  obtain ⟨q1, q2, q3, q4⟩ := q
  exact ⟨Nat.le_trans p1 q1, fun a ha => (q2 a (by omega)).trans (p2 a ha), fun a k ha => (q3 a k (by omega)).trans (p3 a k ha), fun a k ha z => ⟨((q4 a k (by omega) z).1).trans (p4 a k ha z).1, ((q4 a k (by omega) z).2).trans (p4 a k ha z).2⟩⟩
theorem frA_le {S S' : Nat → Nat → Bool} {h h1 : ax_H} (p : frA S h h1) (q : ∀ x k, S' x k = false → S x k = false) : frA S' h h1 := ⟨p.1, p.2.1, p.2.2.1, fun a k ha z => p.2.2.2 a k ha (q a k z)⟩
/-- a new cell -/
theorem frA_nW (S : Nat → Nat → Bool) (h : ax_H) (kd len z : Nat) : frA S h (nW h kd len z) :=
  ⟨by rw [gN_nW]; omega, fun a ha => by rw [gS_nW, if_neg (by omega)], fun a k ha => by rw [gR_nW, if_neg (by omega)], fun a k ha _ => ⟨by rw [gI_nW, if_neg (by omega)], by rw [gL_nW, if_neg (by omega)]⟩⟩
theorem ok_frA {S : Nat → Nat → Bool} {h h' : ax_H} (q : frA S h h') (w : ok h) : ok h' := by
  obtain ⟨wS, wR, wG, wN⟩ := w
  obtain ⟨q1, q2, q3, q4⟩ := q
  have eS : ∀ a, a < 207 → gS h' a = gS h a := fun a ha => q2 a (by omega)
  have eR : ∀ a k, a < 207 → gR h' a k = gR h a k := fun a k ha => q3 a k (by omega)
  refine ⟨?_, ?_, ⟨fun g hg => ?_, fun g hg => ?_⟩, by omega⟩
  · simp (disch := decide) only [okS, eS, wS, and_self]
  · simp (disch := decide) only [okR, eR, wR, and_self]
  · rw [eR 107 g (by omega)]; exact wG.1 g hg
  · rw [eS (108 + g) (by omega)]; exact wG.2 g hg
theorem V_frA {S : Nat → Nat → Bool} {h h' : ax_H} (q : frA S h h') (w : ok h) (z : ∀ a k, 65 ≤ a → a ≤ 90 → S a k = false) : V h' = V h := by
  have wN := w.2.2.2
  funext a k
  unfold V
  split
  · rename_i hc
    exact (q.2.2.2 a k (by omega) (z a k hc.1 hc.2)).1
  · rfl
theorem I0_frA {S : Nat → Nat → Bool} {h h' : ax_H} (q : frA S h h') (i : I0 h) (z : ∀ a k, S a k = true → a < 207 → (91 ≤ a ∧ a ≤ 158) ∨ Sm a k = true) : I0 h' := by
  have wN := i.1.2.2.2
  have hz : ∀ a k, a < 207 → ¬ (91 ≤ a ∧ a ≤ 158) → Sm a k = false → S a k = false := fun a k h1 h2 h3 => by
    cases hs : S a k with
    | false => rfl
    | true =>
      rcases z a k hs h1 with q | q
      · exact absurd q h2
      · rw [h3] at q; cases q
  have hV : V h' = V h := V_frA q i.1 fun a k h1 h2 => hz a k (by omega) (by omega) (Sm_lo (by omega))
  refine ⟨ok_frA q i.1, ?_, by rw [hV]; exact i.2.2⟩
  have e := i.2.1
  have hI : ∀ a k, a < 207 → 158 < a → Sm a k = false → gI h' a k = gI h a k := fun a k h1 h2 h3 => (q.2.2.2 a k (by omega) (hz a k h1 (by omega) h3)).1
  unfold EQ at e ⊢
  rw [hV]
  have r0 : ∀ k, Sm 159 k = false → gI h' 159 k = gI h 159 k := fun k hk => hI 159 k (by omega) (by omega) hk
  have r1 : ∀ a, 159 < a → a < 181 → ∀ k, gI h' a k = gI h a k := fun a h1 h2 k => hI a k (by omega) (by omega) (by simp only [Sm, decide_eq_false_iff_not]; omega)
  have r2 : ∀ a, 195 < a → a < 207 → ∀ k, gI h' a k = gI h a k := fun a h1 h2 k => hI a k (by omega) (by omega) (by simp only [Sm, decide_eq_false_iff_not]; omega)
  simp (disch := decide) only [r0, r1, r2]
  exact e
