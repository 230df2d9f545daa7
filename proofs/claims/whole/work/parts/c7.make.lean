/-! making cells -/
def alC (h : ax_H) (kd n z v j : Nat) : ax_H := pR (nW h kd n z) v j (gN h)
theorem gS_al (h : ax_H) (kd n z v j a : Nat) : gS (alC h kd n z v j) a = if a = gN h then (kd, n) else gS h a := rfl
theorem gN_al (h : ax_H) (kd n z v j : Nat) : gN (alC h kd n z v j) = gN h + 1 := rfl
theorem gZ_al (h : ax_H) (kd n z v j : Nat) : gZ (alC h kd n z v j) = gZ h + z := rfl
theorem gI_al (h : ax_H) (kd n z v j a k : Nat) : gI (alC h kd n z v j) a k = if a = gN h then 0 else gI h a k := gI_nW h kd n z a k
theorem gR_al (h : ax_H) (kd n z v j a i : Nat) : gR (alC h kd n z v j) a i = if a = v ∧ i = j then gN h else gR (nW h kd n z) a i := rfl
/-- three rows made for x -/
theorem z_St_init {h : ax_H} {x : Nat} (hx : x < gN h) (s : gS h x = (2, 0)) : St_init x h = some (alC (alC (alC h 16 30 30 x 1) 16 30 30 x 2) 16 30 30 x 3) := by
  have n0 : ¬ x = gN h := by omega
  have n1 : ¬ x = gN h + 1 := by omega
  have n2 : ¬ x = gN h + 1 + 1 := by omega
  rw [St_init_eq]
  simp only [gS_nW, gS_pR, gN_nW, show ∀ (h : ax_H) (a k v : Nat), gN (pR h a k v) = gN h from fun _ _ _ _ => rfl, n0, n1, n2, s, ↓reduceIte, lsum, show (2 : Nat) < 12 by decide, and_self]
  rfl
theorem z_Pl_init {h : ax_H} {x : Nat} (hx : x < gN h) (s : gS h x = (3, 0)) : Pl_init x h = some (alC (alC (alC h 16 16 16 x 1) 16 16 16 x 2) 16 16 16 x 3) := by
  have n0 : ¬ x = gN h := by omega
  have n1 : ¬ x = gN h + 1 := by omega
  have n2 : ¬ x = gN h + 1 + 1 := by omega
  rw [Pl_init_eq]
  simp only [gS_nW, gS_pR, gN_nW, show ∀ (h : ax_H) (a k v : Nat), gN (pR h a k v) = gN h from fun _ _ _ _ => rfl, n0, n1, n2, s, ↓reduceIte, lsum, show (3 : Nat) < 12 by decide, and_self]
  rfl
