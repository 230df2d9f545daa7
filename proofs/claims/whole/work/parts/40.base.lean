/-! PART B: THE FIXED LAYOUT (printed by wip/gen/base.py) -/
abbrev okS (S : Nat → Nat × Nat) : Prop := S 64 = (0, 0) ∧ S 65 = (1, 0) ∧ S 66 = (2, 0) ∧ S 67 = (16, 30) ∧ S 68 = (16, 30) ∧ S 69 = (16, 30) ∧ S 70 = (3, 0) ∧ S 71 = (16, 16) ∧ S 72 = (16, 16) ∧ S 73 = (16, 16) ∧ S 74 = (4, 0) ∧ S 75 = (16, 100) ∧ S 76 = (16, 100) ∧ S 77 = (16, 100) ∧ S 78 = (16, 100) ∧ S 79 = (16, 100) ∧ S 80 = (16, 100) ∧ S 81 = (16, 100) ∧ S 82 = (20, 10) ∧ S 83 = (16, 40) ∧ S 84 = (16, 40) ∧ S 85 = (16, 40) ∧ S 86 = (16, 9) ∧ S 87 = (16, 9) ∧ S 88 = (16, 24) ∧ S 89 = (16, 24) ∧ S 90 = (16, 8) ∧ S 91 = (16, 6) ∧ S 92 = (21, 4) ∧ S 93 = (6, 0) ∧ S 94 = (16, 400) ∧ S 95 = (16, 64) ∧ S 96 = (16, 400) ∧ S 97 = (16, 6) ∧ S 98 = (16, 6) ∧ S 99 = (7, 0) ∧ S 100 = (16, 100) ∧ S 101 = (16, 6) ∧ S 102 = (16, 3) ∧ S 103 = (16, 600) ∧ S 104 = (16, 200) ∧ S 105 = (16, 200) ∧ S 106 = (16, 200) ∧ S 107 = (22, 47) ∧ S 155 = (17, 13) ∧ S 156 = (16, 8) ∧ S 157 = (16, 64) ∧ S 158 = (8, 0) ∧ S 159 = (11, 0) ∧ S 160 = (16, 30) ∧ S 161 = (16, 30) ∧ S 162 = (16, 30) ∧ S 163 = (16, 16) ∧ S 164 = (16, 16) ∧ S 165 = (16, 16) ∧ S 166 = (16, 100) ∧ S 167 = (16, 100) ∧ S 168 = (16, 100) ∧ S 169 = (16, 100) ∧ S 170 = (16, 100) ∧ S 171 = (16, 100) ∧ S 172 = (18, 400) ∧ S 173 = (16, 3000) ∧ S 174 = (16, 3000) ∧ S 175 = (16, 120) ∧ S 176 = (16, 120) ∧ S 177 = (16, 10) ∧ S 178 = (16, 10) ∧ S 179 = (16, 60) ∧ S 180 = (16, 60) ∧ S 181 = (16, 402) ∧ S 182 = (17, 13) ∧ S 183 = (17, 300) ∧ S 184 = (19, 100) ∧ S 185 = (16, 3) ∧ S 186 = (17, 6) ∧ S 187 = (17, 9) ∧ S 188 = (17, 3) ∧ S 189 = (17, 3) ∧ S 190 = (17, 6) ∧ S 191 = (19, 6) ∧ S 192 = (16, 100) ∧ S 193 = (16, 100) ∧ S 194 = (19, 100) ∧ S 195 = (19, 30) ∧ S 196 = (16, 8) ∧ S 197 = (16, 40) ∧ S 198 = (16, 40) ∧ S 199 = (16, 40) ∧ S 200 = (16, 9) ∧ S 201 = (16, 9) ∧ S 202 = (16, 24) ∧ S 203 = (16, 24) ∧ S 204 = (16, 32000) ∧ S 205 = (16, 8) ∧ S 206 = (19, 4)
abbrev okR (R : Nat → Nat → Nat) : Prop := R 64 0 = 65 ∧ R 64 1 = 92 ∧ R 64 2 = 93 ∧ R 64 3 = 99 ∧ R 64 4 = 158 ∧ R 65 1 = 66 ∧ R 65 2 = 70 ∧ R 65 3 = 74 ∧ R 65 5 = 82 ∧ R 65 7 = 83 ∧ R 65 8 = 84 ∧ R 65 9 = 85 ∧ R 65 11 = 86 ∧ R 65 12 = 87 ∧ R 65 13 = 88 ∧ R 65 14 = 89 ∧ R 65 15 = 90 ∧ R 65 16 = 91 ∧ R 66 1 = 67 ∧ R 66 2 = 68 ∧ R 66 3 = 69 ∧ R 70 1 = 71 ∧ R 70 2 = 72 ∧ R 70 3 = 73 ∧ R 74 1 = 75 ∧ R 74 2 = 76 ∧ R 74 3 = 77 ∧ R 74 4 = 78 ∧ R 74 5 = 79 ∧ R 74 6 = 80 ∧ R 74 7 = 81 ∧ R 93 2 = 94 ∧ R 93 10 = 95 ∧ R 93 12 = 96 ∧ R 93 13 = 97 ∧ R 93 14 = 98 ∧ R 99 1 = 100 ∧ R 99 2 = 101 ∧ R 99 5 = 102 ∧ R 99 6 = 103 ∧ R 99 7 = 104 ∧ R 99 8 = 105 ∧ R 99 9 = 106 ∧ R 99 10 = 107 ∧ R 99 11 = 155 ∧ R 99 12 = 156 ∧ R 99 13 = 157 ∧ R 159 5 = 160 ∧ R 159 6 = 161 ∧ R 159 7 = 162 ∧ R 159 8 = 163 ∧ R 159 9 = 164 ∧ R 159 10 = 165 ∧ R 159 11 = 166 ∧ R 159 12 = 167 ∧ R 159 13 = 168 ∧ R 159 14 = 169 ∧ R 159 15 = 170 ∧ R 159 16 = 171 ∧ R 159 26 = 172 ∧ R 159 27 = 173 ∧ R 159 28 = 174 ∧ R 159 29 = 175 ∧ R 159 30 = 176 ∧ R 159 31 = 177 ∧ R 159 32 = 178 ∧ R 159 33 = 179 ∧ R 159 34 = 180 ∧ R 159 35 = 181 ∧ R 159 36 = 182 ∧ R 159 37 = 183 ∧ R 159 38 = 184 ∧ R 159 39 = 185 ∧ R 159 40 = 186 ∧ R 159 41 = 187 ∧ R 159 42 = 188 ∧ R 159 43 = 189 ∧ R 159 44 = 190 ∧ R 159 45 = 191 ∧ R 159 46 = 192 ∧ R 159 47 = 193 ∧ R 159 48 = 194 ∧ R 159 53 = 195 ∧ R 159 56 = 196 ∧ R 159 60 = 197 ∧ R 159 61 = 198 ∧ R 159 62 = 199 ∧ R 159 64 = 200 ∧ R 159 65 = 201 ∧ R 159 67 = 202 ∧ R 159 68 = 203 ∧ R 159 70 = 204 ∧ R 159 71 = 205 ∧ R 159 72 = 206
def okG (S : Nat → Nat × Nat) (R : Nat → Nat → Nat) : Prop := (∀ g, g < 47 → R 107 g = 108 + g) ∧ (∀ g, g < 47 → S (108 + g) = (17, 13))
def ok (h : ax_H) : Prop := okS (gS h) ∧ okR (gR h) ∧ okG (gS h) (gR h) ∧ 207 ≤ gN h
theorem gI_pI (h : ax_H) (a k : Nat) (v : Int32) (x j : Nat) : gI (pI h a k v) x j = if x = a ∧ j = k then v else gI h x j := rfl
theorem gI_pL (h : ax_H) (a k : Nat) (v : Int64) (x j : Nat) : gI (pL h a k v) x j = gI h x j := rfl
theorem gI_pR (h : ax_H) (a k : Nat) (v : Nat) (x j : Nat) : gI (pR h a k v) x j = gI h x j := rfl
theorem gL_pI (h : ax_H) (a k : Nat) (v : Int32) (x j : Nat) : gL (pI h a k v) x j = gL h x j := rfl
theorem gL_pL (h : ax_H) (a k : Nat) (v : Int64) (x j : Nat) : gL (pL h a k v) x j = if x = a ∧ j = k then v else gL h x j := rfl
theorem gL_pR (h : ax_H) (a k : Nat) (v : Nat) (x j : Nat) : gL (pR h a k v) x j = gL h x j := rfl
theorem gR_pI (h : ax_H) (a k : Nat) (v : Int32) (x j : Nat) : gR (pI h a k v) x j = gR h x j := rfl
theorem gR_pL (h : ax_H) (a k : Nat) (v : Int64) (x j : Nat) : gR (pL h a k v) x j = gR h x j := rfl
theorem gR_pR (h : ax_H) (a k : Nat) (v : Nat) (x j : Nat) : gR (pR h a k v) x j = if x = a ∧ j = k then v else gR h x j := rfl
theorem gS_pI (h : ax_H) (a k : Nat) (v : Int32) (x : Nat) : gS (pI h a k v) x = gS h x := rfl
theorem gS_pL (h : ax_H) (a k : Nat) (v : Int64) (x : Nat) : gS (pL h a k v) x = gS h x := rfl
theorem gS_pR (h : ax_H) (a k : Nat) (v : Nat) (x : Nat) : gS (pR h a k v) x = gS h x := rfl
theorem gN_pI (h : ax_H) (a k : Nat) (v : Int32) : gN (pI h a k v) = gN h := rfl
theorem gN_pL (h : ax_H) (a k : Nat) (v : Int64) : gN (pL h a k v) = gN h := rfl
theorem gN_pR (h : ax_H) (a k : Nat) (v : Nat) : gN (pR h a k v) = gN h := rfl
theorem gZ_pI (h : ax_H) (a k : Nat) (v : Int32) : gZ (pI h a k v) = gZ h := rfl
theorem gZ_pL (h : ax_H) (a k : Nat) (v : Int64) : gZ (pL h a k v) = gZ h := rfl
theorem gZ_pR (h : ax_H) (a k : Nat) (v : Nat) : gZ (pR h a k v) = gZ h := rfl
theorem gI_rI (h : ax_H) (a : Nat) (f : Nat → Int32) (x j : Nat) : gI (rI h a f) x j = if x = a then f j else gI h x j := by
  show u1 _ a f x j = _
  unfold u1
  split <;> rfl
theorem gL_rI (h : ax_H) (a : Nat) (f : Nat → Int32) (x j : Nat) : gL (rI h a f) x j = gL h x j := rfl
theorem gR_rI (h : ax_H) (a : Nat) (f : Nat → Int32) (x j : Nat) : gR (rI h a f) x j = gR h x j := rfl
theorem gS_rI (h : ax_H) (a : Nat) (f : Nat → Int32) (x : Nat) : gS (rI h a f) x = gS h x := rfl
theorem gN_rI (h : ax_H) (a : Nat) (f : Nat → Int32) : gN (rI h a f) = gN h := rfl
theorem gZ_rI (h : ax_H) (a : Nat) (f : Nat → Int32) : gZ (rI h a f) = gZ h := rfl
theorem gI_rL (h : ax_H) (a : Nat) (f : Nat → Int64) (x j : Nat) : gI (rL h a f) x j = gI h x j := rfl
theorem gL_rL (h : ax_H) (a : Nat) (f : Nat → Int64) (x j : Nat) : gL (rL h a f) x j = if x = a then f j else gL h x j := by
  show u1 _ a f x j = _
  unfold u1
  split <;> rfl
theorem gR_rL (h : ax_H) (a : Nat) (f : Nat → Int64) (x j : Nat) : gR (rL h a f) x j = gR h x j := rfl
theorem gS_rL (h : ax_H) (a : Nat) (f : Nat → Int64) (x : Nat) : gS (rL h a f) x = gS h x := rfl
theorem gN_rL (h : ax_H) (a : Nat) (f : Nat → Int64) : gN (rL h a f) = gN h := rfl
theorem gZ_rL (h : ax_H) (a : Nat) (f : Nat → Int64) : gZ (rL h a f) = gZ h := rfl
theorem gS_nW (h : ax_H) (kd len z x : Nat) : gS (nW h kd len z) x = if x = gN h then (kd, len) else gS h x := rfl
theorem gN_nW (h : ax_H) (kd len z : Nat) : gN (nW h kd len z) = gN h + 1 := rfl
theorem gZ_nW (h : ax_H) (kd len z : Nat) : gZ (nW h kd len z) = gZ h + z := rfl
theorem gI_nW (h : ax_H) (kd len z x j : Nat) : gI (nW h kd len z) x j = if x = gN h then 0 else gI h x j := by
  show u1 (α := Nat → _) _ _ _ x j = _
  unfold u1 gN
  split <;> rfl
theorem gL_nW (h : ax_H) (kd len z x j : Nat) : gL (nW h kd len z) x j = if x = gN h then 0 else gL h x j := by
  show u1 (α := Nat → _) _ _ _ x j = _
  unfold u1 gN
  split <;> rfl
theorem gR_nW (h : ax_H) (kd len z x j : Nat) : gR (nW h kd len z) x j = if x = gN h then 0 else gR h x j := by
  show u1 (α := Nat → _) _ _ _ x j = _
  unfold u1 gN
  split <;> rfl
/-! small numbers -/
theorem nJ_i {n : Nat} (h : n < 2147483648) : (nI n).toInt = n := Int32.toInt_ofNat_of_lt h
theorem nJ_n {n : Nat} (h : n < 2147483648) : (nI n).toNatClampNeg = n := by
  show (nI n).toInt.toNat = n
  rw [nJ_i h]; rfl
theorem nJ_lt {a b : Nat} (ha : a < 2147483648) (hb : b < 2147483648) : nI a < nI b ↔ a < b := by
  rw [Int32.lt_iff_toInt_lt, nJ_i ha, nJ_i hb]; omega
theorem nJ_le {a b : Nat} (ha : a < 2147483648) (hb : b < 2147483648) : nI a ≤ nI b ↔ a ≤ b := by
  rw [Int32.le_iff_toInt_le, nJ_i ha, nJ_i hb]; omega
theorem nJ_eq {a b : Nat} (ha : a < 2147483648) (hb : b < 2147483648) : nI a = nI b ↔ a = b := by
  rw [← Int32.toInt_inj, nJ_i ha, nJ_i hb]; omega
theorem nJ_nn {n : Nat} (h : n < 2147483648) : ¬ nI n < 0 := by
  rw [Int32.lt_iff_toInt_lt, nJ_i h]; show ¬ (n : Int) < 0; omega
theorem nJ_p1 (n : Nat) : nI n + 1 = nI (n + 1) := (Int32.ofNat_add n 1).symm
theorem nJ_0 : (0 : Int32) = nI 0 := rfl
theorem ix_n {i n : Nat} (h : i < 2147483648) : (¬ nI i < 0 ∧ (nI i).toNatClampNeg < n) ↔ i < n := by
  rw [nJ_n h]; exact ⟨fun q => q.2, fun q => ⟨nJ_nn h, q⟩⟩
/-- an int that is a small number -/
theorem nJ_of {x : Int32} (h : 0 ≤ x.toInt) : x = nI x.toInt.toNat := by
  rw [← Int32.toInt_inj, nJ_i (by have := Int32.toInt_lt x; omega)]; omega
theorem i32_lt {a b : Int32} : a < b ↔ a.toInt < b.toInt := Int32.lt_iff_toInt_lt
theorem i32_le {a b : Int32} : a ≤ b ↔ a.toInt ≤ b.toInt := Int32.le_iff_toInt_le
theorem i32_eq {a b : Int32} : a = b ↔ a.toInt = b.toInt := Int32.toInt_inj.symm
theorem i32_add {a b : Int32} (h1 : -2147483648 ≤ a.toInt + b.toInt) (h2 : a.toInt + b.toInt < 2147483648) : (a + b).toInt = a.toInt + b.toInt := by
  rw [Int32.toInt_add, Int.bmod_eq_of_le (by omega) (by omega)]
theorem i32_sub {a b : Int32} (h1 : -2147483648 ≤ a.toInt - b.toInt) (h2 : a.toInt - b.toInt < 2147483648) : (a - b).toInt = a.toInt - b.toInt := by
  rw [Int32.toInt_sub, Int.bmod_eq_of_le (by omega) (by omega)]
theorem i32_mul {a b : Int32} (h1 : -2147483648 ≤ a.toInt * b.toInt) (h2 : a.toInt * b.toInt < 2147483648) : (a * b).toInt = a.toInt * b.toInt := by
  rw [Int32.toInt_mul, Int.bmod_eq_of_le (by omega) (by omega)]
theorem i32_neg {a : Int32} (h1 : -2147483648 < a.toInt) : (-a).toInt = - a.toInt := by
  have := Int32.toInt_lt a
  rw [Int32.toInt_neg, Int.bmod_eq_of_le (by omega) (by omega)]
/-! frames: h' differs from h only where S says; nothing is made, no reference written -/
def fr (S : Nat → Nat → Bool) (h h' : ax_H) : Prop := gN h' = gN h ∧ gZ h' = gZ h ∧ gS h' = gS h ∧ gR h' = gR h ∧ ∀ a k, S a k = false → gI h' a k = gI h a k ∧ gL h' a k = gL h a k
theorem fr_rf (S : Nat → Nat → Bool) (h : ax_H) : fr S h h := ⟨rfl, rfl, rfl, rfl, fun _ _ _ => ⟨rfl, rfl⟩⟩
theorem fr_tr {S : Nat → Nat → Bool} {h h1 h2 : ax_H} (a : fr S h h1) (b : fr S h1 h2) : fr S h h2 :=
  ⟨b.1.trans a.1, b.2.1.trans a.2.1, b.2.2.1.trans a.2.2.1, b.2.2.2.1.trans a.2.2.2.1, fun x k q => ⟨(b.2.2.2.2 x k q).1.trans (a.2.2.2.2 x k q).1, (b.2.2.2.2 x k q).2.trans (a.2.2.2.2 x k q).2⟩⟩
theorem fr_le {S S' : Nat → Nat → Bool} {h h1 : ax_H} (a : fr S h h1) (q : ∀ x k, S' x k = false → S x k = false) : fr S' h h1 :=
  ⟨a.1, a.2.1, a.2.2.1, a.2.2.2.1, fun x k z => a.2.2.2.2 x k (q x k z)⟩
theorem fr_pI {S : Nat → Nat → Bool} {h : ax_H} {a k : Nat} {v : Int32} (q : S a k = true) : fr S h (pI h a k v) := ⟨rfl, rfl, rfl, rfl, fun x j z => ⟨by rw [gI_pI, if_neg (by rintro ⟨rfl, rfl⟩; rw [q] at z; cases z)], rfl⟩⟩
theorem fr_pL {S : Nat → Nat → Bool} {h : ax_H} {a k : Nat} {v : Int64} (q : S a k = true) : fr S h (pL h a k v) := ⟨rfl, rfl, rfl, rfl, fun x j z => ⟨rfl, by rw [gL_pL, if_neg (by rintro ⟨rfl, rfl⟩; rw [q] at z; cases z)]⟩⟩
theorem fr_rI {S : Nat → Nat → Bool} {h : ax_H} {a : Nat} {f : Nat → Int32} (q : ∀ k, S a k = true) : fr S h (rI h a f) := ⟨rfl, rfl, rfl, rfl, fun x j z => ⟨by rw [gI_rI, if_neg (by rintro rfl; rw [q] at z; cases z)], rfl⟩⟩
theorem fr_rL {S : Nat → Nat → Bool} {h : ax_H} {a : Nat} {f : Nat → Int64} (q : ∀ k, S a k = true) : fr S h (rL h a f) := ⟨rfl, rfl, rfl, rfl, fun x j z => ⟨rfl, by rw [gL_rL, if_neg (by rintro rfl; rw [q] at z; cases z)]⟩⟩
theorem fr_I {S : Nat → Nat → Bool} {h h' : ax_H} (q : fr S h h') {a k : Nat} (z : S a k = false) : gI h' a k = gI h a k := (q.2.2.2.2 a k z).1
theorem fr_L {S : Nat → Nat → Bool} {h h' : ax_H} (q : fr S h h') {a k : Nat} (z : S a k = false) : gL h' a k = gL h a k := (q.2.2.2.2 a k z).2
theorem fr_R {S : Nat → Nat → Bool} {h h' : ax_H} (q : fr S h h') : gR h' = gR h := q.2.2.2.1
theorem fr_S {S : Nat → Nat → Bool} {h h' : ax_H} (q : fr S h h') : gS h' = gS h := q.2.2.1
theorem fr_Ir {S : Nat → Nat → Bool} {h h' : ax_H} (q : fr S h h') {a : Nat} (z : ∀ k, S a k = false) : gI h' a = gI h a := funext fun k => fr_I q (z k)
theorem fr_Lr {S : Nat → Nat → Bool} {h h' : ax_H} (q : fr S h h') {a : Nat} (z : ∀ k, S a k = false) : gL h' a = gL h a := funext fun k => fr_L q (z k)
theorem ok_fr {S : Nat → Nat → Bool} {h h' : ax_H} (q : fr S h h') (w : ok h) : ok h' := by
  unfold ok at w ⊢
  rw [fr_S q, fr_R q, q.1]
  exact w
theorem ok_pI {h : ax_H} (w : ok h) (a k : Nat) (v : Int32) : ok (pI h a k v) := w
theorem ok_pL {h : ax_H} (w : ok h) (a k : Nat) (v : Int64) : ok (pL h a k v) := w
theorem ok_rI {h : ax_H} (w : ok h) (a : Nat) (f : Nat → Int32) : ok (rI h a f) := w
theorem ok_rL {h : ax_H} (w : ok h) (a : Nat) (f : Nat → Int64) : ok (rL h a f) := w

