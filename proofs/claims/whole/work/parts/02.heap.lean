/-! THE PURE HEAP: next address, slots made, shapes, ints, longs, references (0: null; 1..39 constants, 40 the script, from 64 on what was made) -/
abbrev ax_H : Type := Nat × Nat × (Nat → Nat × Nat) × (Nat → Nat → Int32) × (Nat → Nat → Int64) × (Nat → Nat → Nat)
def gN (h : ax_H) : Nat := h.1
def gZ (h : ax_H) : Nat := h.2.1
def gS (h : ax_H) (a : Nat) : Nat × Nat := h.2.2.1 a
def gI (h : ax_H) (a k : Nat) : Int32 := h.2.2.2.1 a k
def gL (h : ax_H) (a k : Nat) : Int64 := h.2.2.2.2.1 a k
def gR (h : ax_H) (a k : Nat) : Nat := h.2.2.2.2.2 a k
def u1 {α : Type} (f : Nat → α) (a : Nat) (v : α) : Nat → α := fun x => if x = a then v else f x
def u2 {α : Type} (f : Nat → Nat → α) (a k : Nat) (v : α) : Nat → Nat → α := fun x y => if x = a ∧ y = k then v else f x y
def pI (h : ax_H) (a k : Nat) (v : Int32) : ax_H := (h.1, h.2.1, h.2.2.1, u2 h.2.2.2.1 a k v, h.2.2.2.2)
def pL (h : ax_H) (a k : Nat) (v : Int64) : ax_H := (h.1, h.2.1, h.2.2.1, h.2.2.2.1, u2 h.2.2.2.2.1 a k v, h.2.2.2.2.2)
def pR (h : ax_H) (a k : Nat) (v : Nat) : ax_H := (h.1, h.2.1, h.2.2.1, h.2.2.2.1, h.2.2.2.2.1, u2 h.2.2.2.2.2 a k v)
/-- a row of ints for a whole cell -/
def rI (h : ax_H) (a : Nat) (f : Nat → Int32) : ax_H := (h.1, h.2.1, h.2.2.1, u1 h.2.2.2.1 a f, h.2.2.2.2)
def rL (h : ax_H) (a : Nat) (f : Nat → Int64) : ax_H := (h.1, h.2.1, h.2.2.1, h.2.2.2.1, u1 h.2.2.2.2.1 a f, h.2.2.2.2.2)
/-- a new cell: kind, length, slots -/
def nW (h : ax_H) (kd len z : Nat) : ax_H := (h.1 + 1, h.2.1 + z, u1 h.2.2.1 h.1 (kd, len), u1 h.2.2.2.1 h.1 (fun _ => 0), u1 h.2.2.2.2.1 h.1 (fun _ => 0), u1 h.2.2.2.2.2 h.1 (fun _ => 0))
/-- n rows of k longs, and the row of them: addresses a0 (the outer) and a0+1 .. a0+n -/
def nG (h : ax_H) (kd kr n k : Nat) : ax_H := (h.1 + (n + 1), h.2.1 + (n + n * k), (fun x => if x = h.1 then (kd, n) else if h.1 < x ∧ x ≤ h.1 + n then (kr, k) else h.2.2.1 x), (fun x => if h.1 ≤ x ∧ x ≤ h.1 + n then fun _ => 0 else h.2.2.2.1 x), (fun x => if h.1 ≤ x ∧ x ≤ h.1 + n then fun _ => 0 else h.2.2.2.2.1 x), (fun x => if x = h.1 then fun y => if y < n then h.1 + 1 + y else 0 else if h.1 ≤ x ∧ x ≤ h.1 + n then fun _ => 0 else h.2.2.2.2.2 x))
/-! the context: base, heap at the start, constants' addresses, class numbers, field slots, array classes, the script -/
abbrev ax_X : Type := Nat × Heap × (Nat → Nat) × (Nat → ClassId) × (Nat → Nat → Nat) × (Nat → ClassId) × Nat × (Nat → Int32)
abbrev xB (X : ax_X) : Nat := X.1
abbrev xH (X : ax_X) : Heap := X.2.1
abbrev xA (X : ax_X) : Nat → Nat := X.2.2.1
abbrev xC (X : ax_X) : Nat → ClassId := X.2.2.2.1
abbrev xI (X : ax_X) : Nat → Nat → Nat := X.2.2.2.2.1
abbrev xR (X : ax_X) : Nat → ClassId := X.2.2.2.2.2.1
abbrev xL (X : ax_X) : Nat := X.2.2.2.2.2.2.1
abbrev xS (X : ax_X) : Nat → Int32 := X.2.2.2.2.2.2.2
def ax_r (X : ax_X) (a : Nat) : Nat := if a < 64 then xA X a else xB X + (a - 64)
def ax_v (X : ax_X) : Value → Value
  | .ref a => if a = 0 then .null else .ref (ax_r X a)
  | v => v
theorem ax_v_int (X : ax_X) (x : Int32) : ax_v X (.int x) = .int x := rfl
theorem ax_v_long (X : ax_X) (x : Int64) : ax_v X (.long x) = .long x := rfl
theorem ax_v_null (X : ax_X) : ax_v X (.ref 0) = .null := by simp [ax_v]
theorem ax_v_ref {X : ax_X} {a : Nat} (h : a ≠ 0) : ax_v X (.ref a) = .ref (ax_r X a) := by simp [ax_v, h]
theorem ax_v_ref_or (X : ax_X) (a : Nat) : ax_v X (.ref a) = .null ∨ ∃ b, ax_v X (.ref a) = .ref b := by
  by_cases h : a = 0
  · exact Or.inl (by rw [h, ax_v_null])
  · exact Or.inr ⟨_, ax_v_ref h⟩
theorem ax_v_cat (X : ax_X) (v : Value) : (ax_v X v).category = v.category := by
  cases v with
  | ref a => by_cases h : a = 0 <;> simp [ax_v, h, Value.category]
  | _ => rfl
theorem ax_r_hi {X : ax_X} {a : Nat} (h : 64 ≤ a) : ax_r X a = xB X + (a - 64) := by simp [ax_r, Nat.not_lt.mpr h]
theorem ax_r_inj {X : ax_X} {a b : Nat} (ha : 64 ≤ a) (hb : 64 ≤ b) (h : ax_r X a = ax_r X b) : a = b := by
  rw [ax_r_hi ha, ax_r_hi hb] at h; omega
/-- a field's value: t 0 int, 3 boolean, 1 long, 2 reference -/
def ax_fv (X : ax_X) (h : ax_H) (a t k : Nat) : Value := if t = 1 then .long (gL h a k) else if t = 2 then ax_v X (.ref (gR h a k)) else .int (gI h a k)
/-- kinds of rows: 16 int, 17 long, 18 byte, 19 boolean, 20 Way, 21 Book, 22 rows of longs -/
def ax_av (X : ax_X) (h : ax_H) (a kd j : Nat) : Value := if kd = 17 then .long (gL h a j) else if kd < 20 then .int (gI h a j) else ax_v X (.ref (gR h a j))
