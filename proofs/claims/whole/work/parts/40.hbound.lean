/-! how large a determinant with a column of what is measured can be -/
theorem mono6 {a b c d e f p q r R M : Int} (ha : 0 ≤ a) (hd : 0 ≤ d) (hf : 0 ≤ f) (hR : 0 ≤ R) (hM : 0 ≤ M) (h1 : b * b ≤ a * d) (h2 : c * c ≤ a * f) (h3 : e * e ≤ d * f) (h4 : p * p ≤ a * R) (h5 : q * q ≤ d * R) (h6 : r * r ≤ f * R)
    (hK : (d * f) * (d * f) * (a * R) ≤ M * M) : -(6 * M) ≤ (d * f - e * e) * p + (c * e - b * f) * q + (b * e - c * d) * r ∧ (d * f - e * e) * p + (c * e - b * f) * q + (b * e - c * d) * r ≤ 6 * M := by
  have hee : (e * e) * (e * e) ≤ (d * f) * (d * f) := Int.mul_le_mul h3 h3 (sq_nn e) (Int.le_trans (sq_nn e) h3)
  have m1 := abs_of_sq hM (Int.le_trans (sq_mul_le (x := d * f) (y := p) (Int.le_refl _) h4) hK)
  have m2 := abs_of_sq hM (Int.le_trans (sq_mul_le (x := e * e) (y := p) hee h4) hK)
  have m3 := abs_of_sq (x := (c * e) * q) hM (Int.le_trans (sq_mul_le (sq_mul_le h2 h3) h5) (by
    have : a * f * (d * f) * (d * R) = (d * f) * (d * f) * (a * R) := by grind
    rw [this]; exact hK))
  have m4 := abs_of_sq (x := (b * f) * q) hM (Int.le_trans (sq_mul_le (sq_mul_le h1 (Int.le_refl (f * f))) h5) (by
    have : a * d * (f * f) * (d * R) = (d * f) * (d * f) * (a * R) := by grind
    rw [this]; exact hK))
  have m5 := abs_of_sq (x := (b * e) * r) hM (Int.le_trans (sq_mul_le (sq_mul_le h1 h3) h6) (by
    have : a * d * (d * f) * (f * R) = (d * f) * (d * f) * (a * R) := by grind
    rw [this]; exact hK))
  have m6 := abs_of_sq (x := (c * d) * r) hM (Int.le_trans (sq_mul_le (sq_mul_le h2 (Int.le_refl (d * d))) h6) (by
    have : a * f * (d * d) * (f * R) = (d * f) * (d * f) * (a * R) := by grind
    rw [this]; exact hK))
  rw [Int.sub_mul, Int.sub_mul, Int.sub_mul]
  omega
/-- what terms give: x, y of the star -/
def gz (t : Nat) (x y : Int) (ax : Nat) : Int :=
  if t = 0 then (if ax = 0 then 1 else 0) else if t = 1 then (if ax = 0 then 0 else 1) else if t = 2 then (if ax = 0 then x else y) else if t = 3 then (if ax = 0 then -y else x) else if t = 4 then (40 * (if ax = 0 then x else y)).tdiv (x * x + y * y) else (if ax = 0 then x * y else 0)
def gMx (t : Nat) : Int := if t = 0 then 1 else if t = 1 then 1 else if t = 2 then 9 else if t = 3 then 9 else if t = 4 then 40 else 81
def kMx (t : Nat) : Int := if t = 0 then 1 else if t = 1 then 1 else if t = 2 then 162 else if t = 3 then 162 else if t = 4 then 1600 else 6561
def gzP (t : Nat) (x y : Int) : Prop := (-gMx t ≤ gz t x y 0 ∧ gz t x y 0 ≤ gMx t) ∧ (-gMx t ≤ gz t x y 1 ∧ gz t x y 1 ≤ gMx t) ∧ gz t x y 0 * gz t x y 0 + gz t x y 1 * gz t x y 1 ≤ kMx t ∧ (¬ t = 4 ∨ 0 < gz t x y 0 * gz t x y 0 + gz t x y 1 * gz t x y 1)
def gzok (t i j : Nat) : Bool := decide (i = 9 ∧ j = 9) || (decide (-gMx t ≤ gz t ((i : Int) - 9) ((j : Int) - 9) 0 ∧ gz t ((i : Int) - 9) ((j : Int) - 9) 0 ≤ gMx t) && decide (-gMx t ≤ gz t ((i : Int) - 9) ((j : Int) - 9) 1 ∧ gz t ((i : Int) - 9) ((j : Int) - 9) 1 ≤ gMx t) && decide (gz t ((i : Int) - 9) ((j : Int) - 9) 0 * gz t ((i : Int) - 9) ((j : Int) - 9) 0 + gz t ((i : Int) - 9) ((j : Int) - 9) 1 * gz t ((i : Int) - 9) ((j : Int) - 9) 1 ≤ kMx t) && decide (¬ t = 4 ∨ 0 < gz t ((i : Int) - 9) ((j : Int) - 9) 0 * gz t ((i : Int) - 9) ((j : Int) - 9) 0 + gz t ((i : Int) - 9) ((j : Int) - 9) 1 * gz t ((i : Int) - 9) ((j : Int) - 9) 1))
theorem gz_all0 : ∀ t, t < 6 → ∀ i, i < 19 → ∀ j, j < 19 → gzok t i j = true := by decide +kernel
theorem gz_all (t : Nat) (ht : t < 6) (i : Nat) (hi : i < 19) (j : Nat) (hj : j < 19) : (i = 9 ∧ j = 9) ∨ gzP t ((i : Int) - 9) ((j : Int) - 9) := by
  have h := gz_all0 t ht i hi j hj
  simp only [gzok, Bool.or_eq_true, Bool.and_eq_true, decide_eq_true_eq] at h
  rcases h with h | ⟨⟨⟨h1, h2⟩, h3⟩, h4⟩
  · exact Or.inl h
  · exact Or.inr ⟨h1, h2, h3, h4⟩
theorem gz_bd {t : Nat} (ht : t < 6) {x y : Int} (hx : -9 ≤ x ∧ x ≤ 9) (hy : -9 ≤ y ∧ y ≤ 9) (hn : ¬ (x = 0 ∧ y = 0)) : (-gMx t ≤ gz t x y 0 ∧ gz t x y 0 ≤ gMx t) ∧ (-gMx t ≤ gz t x y 1 ∧ gz t x y 1 ≤ gMx t) ∧ gz t x y 0 * gz t x y 0 + gz t x y 1 * gz t x y 1 ≤ kMx t ∧ (¬ t = 4 ∨ 0 < gz t x y 0 * gz t x y 0 + gz t x y 1 * gz t x y 1) := by
  have h := gz_all t ht (x + 9).toNat (by omega) (y + 9).toNat (by omega)
  have ex : (((x + 9).toNat : Int) - 9 : Int) = x := by omega
  have ey : (((y + 9).toNat : Int) - 9 : Int) = y := by omega
  rw [ex, ey] at h
  rcases h with h | h
  · exact absurd ⟨by omega, by omega⟩ hn
  · exact h
theorem sq_bd {x k : Int} (h : -k ≤ x ∧ x ≤ k) : x * x ≤ k * k := by
  have h1 := Int.mul_nonneg (show 0 ≤ k - x by omega) (show 0 ≤ k + x by omega)
  have h2 : (k - x) * (k + x) = k * k - x * x := by grind
  omega
theorem mul_bd {x y k m : Int} (h1 : -k ≤ x ∧ x ≤ k) (h2 : -m ≤ y ∧ y ≤ m) : -(k * m) ≤ x * y ∧ x * y ≤ k * m := by
  refine abs_of_sq (Int.mul_nonneg (by omega) (by omega)) ?_
  have := sq_mul_le (sq_bd h1) (sq_bd h2)
  have e : k * k * (m * m) = k * m * (k * m) := by grind
  omega
theorem tdiv_bd {x k d : Int} (h : -k ≤ x ∧ x ≤ k) (_hd : 0 < d) : -k ≤ x.tdiv d ∧ x.tdiv d ≤ k := by
  have h1 := Int.natAbs_tdiv_le_natAbs x d
  omega
/-! ints and longs by their numbers -/
theorem i_of (x : Int32) : x = Int32.ofInt x.toInt := (Int32.ofInt_toInt x).symm
theorem i_toInt {z : Int} (h : -2147483648 ≤ z ∧ z ≤ 2147483647) : (Int32.ofInt z).toInt = z := Int32.toInt_ofInt_of_le (by omega) (by omega)
theorem l_toInt {z : Int} (h : -9223372036854775808 ≤ z ∧ z ≤ 9223372036854775807) : (Int64.ofInt z).toInt = z := Int64.toInt_ofInt_of_le (by omega) (by omega)
theorem i_toL {z : Int} (h : -2147483648 ≤ z ∧ z ≤ 2147483647) : (Int32.ofInt z).toInt64 = Int64.ofInt z := by
  rw [← Int64.toInt_inj, Int32.toInt_toInt64, i_toInt h, l_toInt (by omega)]
theorem i_L (x : Int32) : x.toInt64 = Int64.ofInt x.toInt := by
  have := Int32.toInt_lt x
  have := Int32.le_toInt x
  rw [← Int64.toInt_inj, Int32.toInt_toInt64, l_toInt (by omega)]
theorem i_tdiv {a b : Int} (ha : -2147483648 ≤ a ∧ a ≤ 2147483647) (hb : -2147483648 ≤ b ∧ b ≤ 2147483647) : Int32.ofInt a / Int32.ofInt b = Int32.ofInt (a.tdiv b) := (Int32.ofInt_tdiv (by exact ha.1) (by exact ha.2) (by exact hb.1) (by exact hb.2)).symm
theorem l_tdiv {a b : Int} (ha : -9223372036854775808 ≤ a ∧ a ≤ 9223372036854775807) (hb : -9223372036854775808 ≤ b ∧ b ≤ 9223372036854775807) : Int64.ofInt a / Int64.ofInt b = Int64.ofInt (a.tdiv b) := (Int64.ofInt_tdiv (by exact ha.1) (by exact ha.2) (by exact hb.1) (by exact hb.2)).symm
