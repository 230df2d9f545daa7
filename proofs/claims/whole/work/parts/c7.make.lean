/-! making cells -/
def alC (h : ax_H) (kd n z v j : Nat) : ax_H := pR (nW h kd n z) v j (gN h)
theorem gS_al (h : ax_H) (kd n z v j a : Nat) : gS (alC h kd n z v j) a = if a = gN h then (kd, n) else gS h a := rfl
theorem gN_al (h : ax_H) (kd n z v j : Nat) : gN (alC h kd n z v j) = gN h + 1 := rfl
theorem gZ_al (h : ax_H) (kd n z v j : Nat) : gZ (alC h kd n z v j) = gZ h + z := rfl
theorem gI_al (h : ax_H) (kd n z v j a k : Nat) : gI (alC h kd n z v j) a k = if a = gN h then 0 else gI h a k := gI_nW h kd n z a k
theorem gR_al (h : ax_H) (kd n z v j a i : Nat) : gR (alC h kd n z v j) a i = if a = v ∧ i = j then gN h else gR (nW h kd n z) a i := rfl
/-- three rows made for x -/
theorem z_St_init {h : ax_H} {x : Nat} (hx : x < gN h) (s : gS h x = (2, 0)) : St_init x h = some (alC (alC (alC h 16 30 30 x 1) 16 30 30 x 2) 16 30 30 x 3) := by
  have n0 : ¬ x = gN h := by omega
  have n1 : ¬ x = gN h + 1 := by omega
  have n2 : ¬ x = gN h + 1 + 1 := by omega
  rw [St_init_eq]
  simp only [gS_nW, gS_pR, gN_nW, show ∀ (h : ax_H) (a k v : Nat), gN (pR h a k v) = gN h from fun _ _ _ _ => rfl, n0, n1, n2, s, ↓reduceIte, lsum, show (2 : Nat) < 12 by decide, and_self]
  rfl
theorem z_Pl_init {h : ax_H} {x : Nat} (hx : x < gN h) (s : gS h x = (3, 0)) : Pl_init x h = some (alC (alC (alC h 16 16 16 x 1) 16 16 16 x 2) 16 16 16 x 3) := by
  have n0 : ¬ x = gN h := by omega
  have n1 : ¬ x = gN h + 1 := by omega
  have n2 : ¬ x = gN h + 1 + 1 := by omega
  rw [Pl_init_eq]
  simp only [gS_nW, gS_pR, gN_nW, show ∀ (h : ax_H) (a k v : Nat), gN (pR h a k v) = gN h from fun _ _ _ _ => rfl, n0, n1, n2, s, ↓reduceIte, lsum, show (3 : Nat) < 12 by decide, and_self]
  rfl
theorem z_Im_init {h : ax_H} {x : Nat} (hx : x < gN h) (s : gS h x = (4, 0)) : Im_init x h = some (alC (alC (alC (alC (alC (alC (alC h 16 100 100 x 1) 16 100 100 x 2) 16 100 100 x 3) 16 100 100 x 4) 16 100 100 x 5) 16 100 100 x 6) 16 100 100 x 7) := by
  have n0 : ¬ x = gN h := by omega
  have n1 : ¬ x = gN h + 1 := by omega
  have n2 : ¬ x = gN h + 1 + 1 := by omega
  have n3 : ¬ x = gN h + 1 + 1 + 1 := by omega
  have n4 : ¬ x = gN h + 1 + 1 + 1 + 1 := by omega
  have n5 : ¬ x = gN h + 1 + 1 + 1 + 1 + 1 := by omega
  have n6 : ¬ x = gN h + 1 + 1 + 1 + 1 + 1 + 1 := by omega
  rw [Im_init_eq]
  simp only [gS_nW, gS_pR, gN_nW, gN_pR, n0, n1, n2, n3, n4, n5, n6, s, ↓reduceIte, lsum, show (4 : Nat) < 12 by decide, and_self]
  rfl
/-- what making does: n cells more, all below as they were but the references of v -/
def mdP (v : Nat) (h h' : ax_H) (n : Nat) : Prop := gN h' = gN h + n ∧ (∀ a, a < gN h → gS h' a = gS h a) ∧ (∀ a k, a < gN h → ¬ a = v → gR h' a k = gR h a k) ∧ (∀ a k, a < gN h → gI h' a k = gI h a k) ∧ ∀ a k, a < gN h → gL h' a k = gL h a k
theorem md_al (h : ax_H) (kd n z v j : Nat) : mdP v h (alC h kd n z v j) 1 := by
  refine ⟨rfl, fun a ha => ?_, fun a k ha hv => ?_, fun a k ha => ?_, fun a k ha => ?_⟩
  · rw [gS_al, if_neg (by omega)]
  · rw [gR_al, if_neg (fun z => hv z.1)]
    exact (frA_nW (fun _ _ => false) h kd n z).2.2.1 a k ha
  · rw [gI_al, if_neg (by omega)]
  · exact ((frA_nW (fun _ _ => false) h kd n z).2.2.2 a k ha rfl).2
theorem md_tr {v : Nat} {a b c : ax_H} {m n : Nat} (p : mdP v a b m) (q : mdP v b c n) : mdP v a c (m + n) := by
  obtain ⟨p1, p2, p3, p4, p5⟩ := p
  obtain ⟨q1, q2, q3, q4, q5⟩ := q
  refine ⟨by omega, fun x hx => ?_, fun x k hx hv => ?_, fun x k hx => ?_, fun x k hx => ?_⟩
  · rw [q2 x (by omega), p2 x hx]
  · rw [q3 x k (by omega) hv, p3 x k hx hv]
  · rw [q4 x k (by omega), p4 x k hx]
  · rw [q5 x k (by omega), p5 x k hx]
