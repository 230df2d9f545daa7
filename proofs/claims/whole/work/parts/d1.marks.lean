/-! marks: what stays -/
def OW (O : Nat → Nat) (h : ax_H) (a : Nat) : Prop := O a = 0 ∧ O (gR h a 0) = 0 ∧ O (gR h a 1) = 0 ∧ O (gR h a 3) = 0
def scP (h : ax_H) : Prop := gI h 205 0 = V h 65 0 ∧ gI h 205 1 = V h 66 0 ∧ gI h 205 2 = V h 70 0 ∧ gI h 205 3 = V h 74 0 ∧ gI h 205 4 = V h 65 4 ∧ gI h 205 5 = V h 65 6 ∧ gI h 205 6 = V h 65 10
def sl5 (h : ax_H) (r : Nat) : Prop := ∀ j, j < 10 → gR h r j = 0 ∨ (gR h r j < gN h ∧ (gS h (gR h r j)).1 = 5)
def wyP (O : Nat → Nat) (h hg : ax_H) (r : Nat) : Prop := ∀ j, j < nW' (V hg) → ∃ D, WC h (gR h r j) D ∧ OW O h (gR h r j) ∧ WM hg j D ∧ WF D
def bkM (O : Nat → Nat) (h : ax_H) (k b : Nat) (hg : ax_H) : Prop := (207 ≤ b ∧ b + 27 ≤ gN h ∧ gR h 92 k = b ∧ gI h 206 k = 1 ∧ bkP h b ∧ sl5 h (b + 17)) ∧ (∀ i, i < 27 → O (b + i) = k + 1) ∧ (EQ hg ∧ GV (V hg) ∧ scP hg) ∧ (∀ i j, i < 27 → TBk i j = true → gI h (b + i) j = gI hg (65 + i) j) ∧ (∀ i, i < 7320 → gI h 204 (8000 * k + i) = segV hg crL i) ∧ wyP O h hg (b + 17)
def IM (h : ax_H) : Prop := ∃ O : Nat → Nat, sl5 h 82 ∧ wyP O h h 82 ∧ ∀ k, k < 4 → (gR h 92 k = 0 ∧ gI h 206 k = 0) ∨ ∃ b hg, bkM O h k b hg
theorem IM_IW {h : ax_H} (m : IM h) : IW h := fun w hw => by
  obtain ⟨O, -, p, -⟩ := m
  obtain ⟨D, a, -, b, c⟩ := p w hw
  exact ⟨D, a, b, c⟩
/-- cells that are kept -/
def kpK (K : Nat → Prop) (h h' : ax_H) : Prop := gN h ≤ gN h' ∧ (∀ a, a < gN h → gS h' a = gS h a) ∧ ∀ a k, 207 ≤ a → a < gN h → K a → gR h' a k = gR h a k ∧ gI h' a k = gI h a k
theorem WC_kp {K : Nat → Prop} {O O' : Nat → Nat} {h h' : ax_H} (q : kpK K h h') (hK : ∀ a, O a = 0 → K a) (hO : ∀ a, a < gN h → O' a = O a) {a : Nat} {D : WD} (c : WC h a D) (o : OW O h a) : WC h' a D ∧ OW O' h' a := by
  obtain ⟨c1, c2, c3, c4, c5, c6, c7, c8⟩ := c
  obtain ⟨o1, o2, o3, o4⟩ := o
  obtain ⟨q1, q2, q3⟩ := q
  have r0 : gR h' a 0 = gR h a 0 := (q3 a 0 c1.1 c1.2.1 (hK _ o1)).1
  have r1 : gR h' a 1 = gR h a 1 := (q3 a 1 c1.1 c1.2.1 (hK _ o1)).1
  have r3 : gR h' a 3 = gR h a 3 := (q3 a 3 c1.1 c1.2.1 (hK _ o1)).1
  refine ⟨⟨⟨c1.1, by omega, by rw [q2 a c1.2.1]; exact c1.2.2⟩, ?_, ?_, ?_, fun t ht => ?_, fun t ht => ?_, ?_, fun k e z => ?_⟩, ?_⟩
  · rw [r0, q2 _ c2.2.1]; exact ⟨c2.1, by omega, c2.2.2⟩
  · rw [r1, q2 _ c3.2.1]; exact ⟨c3.1, by omega, c3.2.2⟩
  · rw [r3, q2 _ c4.2.1]; exact ⟨c4.1, by omega, c4.2.2⟩
  · rw [r0, (q3 _ t c2.1 c2.2.1 (hK _ o2)).2]; exact c5 t ht
  · rw [r1, (q3 _ t c3.1 c3.2.1 (hK _ o3)).2]; exact c6 t ht
  · rw [(q3 _ 2 c1.1 c1.2.1 (hK _ o1)).2]; exact c7
  · rw [r3, (q3 _ k c4.1 c4.2.1 (hK _ o4)).2]; exact c8 k e z
  · exact ⟨by rw [hO _ c1.2.1]; exact o1, by rw [r0, hO _ c2.2.1]; exact o2, by rw [r1, hO _ c3.2.1]; exact o3, by rw [r3, hO _ c4.2.1]; exact o4⟩
theorem wy_kp {K : Nat → Prop} {O O' : Nat → Nat} {h h' hg hg' : ax_H} (q : kpK K h h') (hK : ∀ a, O a = 0 → K a) (hO : ∀ a, a < gN h → O' a = O a) {r r' : Nat} (eR : ∀ j, j < nW' (V hg) → gR h' r' j = gR h r j) (eW : nW' (V hg') = nW' (V hg)) (eM : ∀ j D, j < nW' (V hg) → WF D → WM hg j D → WM hg' j D) (p : wyP O h hg r) : wyP O' h' hg' r' := fun j hj => by
  rw [eW] at hj
  obtain ⟨D, a, b, c, d⟩ := p j hj
  rw [eR j hj]
  obtain ⟨a', b'⟩ := WC_kp q hK hO a b
  exact ⟨D, a', b', eM j D hj d c, d⟩
theorem sl_kp {h h' : ax_H} (q1 : gN h ≤ gN h') (q2 : ∀ a, a < gN h → gS h' a = gS h a) {r r' : Nat} (eR : ∀ j, j < 10 → gR h' r' j = gR h r j) (p : sl5 h r) : sl5 h' r' := fun j hj => by
  rw [eR j hj]
  rcases p j hj with x | ⟨x, y⟩
  · exact Or.inl x
  · exact Or.inr ⟨by omega, by rw [q2 _ x]; exact y⟩
theorem bkM_kp {K : Nat → Prop} {O O' : Nat → Nat} {h h' : ax_H} (q : kpK K h h') {k : Nat} (hK : ∀ a, O a = 0 ∨ O a = k + 1 → K a) (hO : ∀ a, a < gN h → O' a = O a) (e92 : gR h' 92 k = gR h 92 k) (e206 : gI h' 206 k = gI h 206 k) (e204 : ∀ i, i < 7320 → gI h' 204 (8000 * k + i) = gI h 204 (8000 * k + i)) {b : Nat} {hg : ax_H} (p : bkM O h k b hg) : bkM O' h' k b hg := by
  obtain ⟨⟨p1, p2, p3, p4, p5, p6⟩, p7, p8, p9, p10, p11⟩ := p
  have hK0 : ∀ a, O a = 0 → K a := fun a z => hK a (Or.inl z)
  have q' := q
  obtain ⟨q1, q2, q3⟩ := q
  have kb : ∀ i j, i < 27 → gR h' (b + i) j = gR h (b + i) j ∧ gI h' (b + i) j = gI h (b + i) j := fun i j hi => q3 _ j (by omega) (by omega) (hK _ (Or.inr (p7 i hi)))
  refine ⟨⟨p1, by omega, e92.trans p3, e206.trans p4, bkP_eq (h := h) (fun a a1 a2 => q2 a (by omega)) (fun a j z => ?_) p5, sl_kp q1 q2 (fun j _ => (kb 17 j (by omega)).1) p6⟩, fun i hi => by rw [hO _ (by omega)]; exact p7 i hi, p8, fun i j hi z => by rw [(kb i j hi).2]; exact p9 i j hi z, fun i hi => (e204 i hi).trans (p10 i hi), wy_kp q' hK0 hO (fun j _ => (kb 17 j (by omega)).1) rfl (fun _ _ _ _ z => z) p11⟩
  rcases z with z | z | z | z
  · rw [z]; exact (kb 0 j (by omega)).1
  · rw [z]; exact (kb 1 j (by omega)).1
  · rw [z]; exact (kb 5 j (by omega)).1
  · rw [z]; exact (kb 9 j (by omega)).1
/-- marks over frames -/
theorem IM_frA {S : Nat → Nat → Bool} {h h' : ax_H} (w : ok h) (q : frA S h h') (hS : ∀ a k, S a k = true → a < 204 ∧ ¬ (173 ≤ a ∧ a ≤ 180)) (hV : V h' 65 4 = V h 65 4) (m : IM h) : IM h' := by
  have wN := w.2.2.2
  obtain ⟨O, m1, m2, m3⟩ := m
  obtain ⟨q1, q2, q3, q4⟩ := q
  have hF : ∀ a k, (204 ≤ a ∨ (173 ≤ a ∧ a ≤ 180)) → S a k = false := fun a k z => by
    cases hs : S a k with
    | false => rfl
    | true => have := hS a k hs; omega
  have kp : kpK (fun _ => True) h h' := ⟨q1, q2, fun a k h1 h2 _ => ⟨q3 a k h2, (q4 a k h2 (hF a k (by omega))).1⟩⟩
  have eW : nW' (V h') = nW' (V h) := by show (V h' 65 4).toInt.toNat = _; rw [hV]
  refine ⟨O, sl_kp q1 q2 (fun j _ => q3 82 j (by omega)) m1, wy_kp kp (fun _ _ => trivial) (fun _ _ => rfl) (fun j _ => q3 82 j (by omega)) eW (fun j D _ _ z => WM_eq (fun a k z1 z2 => (q4 a k (by omega) (hF a k (by omega))).1) z) m2, fun k hk => ?_⟩
  rcases m3 k hk with ⟨x, y⟩ | ⟨b, hg, p⟩
  · exact Or.inl ⟨by rw [q3 92 k (by omega)]; exact x, by rw [(q4 206 k (by omega) (hF _ _ (by omega))).1]; exact y⟩
  · exact Or.inr ⟨b, hg, bkM_kp kp (fun _ _ => trivial) (fun _ _ => rfl) (q3 92 k (by omega)) (q4 206 k (by omega) (hF _ _ (by omega))).1 (fun i _ => (q4 204 _ (by omega) (hF _ _ (by omega))).1) p⟩
/-- what a call leaves -/
def Inv (h : ax_H) : Prop := I0 h ∧ IT h ∧ IM h
def nxt (h h2 : ax_H) : Prop := Inv h2 ∧ gN h2 ≤ gN h + 30 ∧ gZ h2 ≤ gZ h + 6000 ∧ gS h2 40 = gS h 40 ∧ ∀ k, gI h2 40 k = gI h 40 k
theorem V_of {h h' : ax_H} (q : ∀ a j, 65 ≤ a → a ≤ 90 → gI h' a j = gI h a j) : V h' = V h := by
  funext a k
  unfold V
  split
  · rename_i hc
    exact q a k hc.1 hc.2
  · rfl
theorem EQ_of {h h' : ax_H} (qV : V h' = V h) (q0 : ∀ j, (j = 1 ∨ j = 2 ∨ j = 3 ∨ j = 4 ∨ j = 20 ∨ j = 59 ∨ j = 63) → gI h' 159 j = gI h 159 j) (q1 : ∀ a, 160 ≤ a → a ≤ 171 → ∀ j, gI h' a j = gI h a j) (q2 : ∀ a, 196 ≤ a → a ≤ 203 → ∀ j, gI h' a j = gI h a j) (e : EQ h) : EQ h' := by
  unfold EQ at e ⊢
  rw [qV]
  simp (disch := decide) only [q0, q1, q2]
  exact e
theorem IT_of {h h' : ax_H} (q1 : gI h' 93 0 = gI h 93 0) (q2 : ∀ j, gI h' 94 j = gI h 94 j) (q3 : gI h' 159 17 = gI h 159 17) (q4 : ∀ j, gI h' 172 j = gI h 172 j) (t : IT h) : IT h' := by
  obtain ⟨T, n, t0, ⟨t1, t2, t3⟩, t4, t5⟩ := t
  exact ⟨T, n, t0, ⟨t1, q1.trans t2, fun i => (q2 i).trans (t3 i)⟩, q3.trans t4, fun i => (q4 i).trans (t5 i)⟩
