/-! Euclid on both sides; lowest terms -/
theorem lz_cmp0 {x : Nat} (hx : x < 4611686018427387904) : lg_cmp (Int64.ofInt (x : Int)) 0 = 0 ↔ x = 0 := by
  rw [lgc_eq, l_toInt (by omega)]
  show (x : Int) = 0 ↔ _
  omega
theorem lz_eq0 {x : Nat} (hx : x < 4611686018427387904) : Int64.ofInt (x : Int) = 0 ↔ x = 0 := by
  rw [← Int64.toInt_inj, l_toInt (by omega)]
  show (x : Int) = 0 ↔ _
  omega
theorem lz_rem {x y : Nat} (hx : x < 4611686018427387904) (hy : y < 4611686018427387904) : Int64.ofInt (x : Int) - Int64.ofInt (x : Int) / Int64.ofInt (y : Int) * Int64.ofInt (y : Int) = Int64.ofInt ((x % y : Nat) : Int) := by
  rw [l_tdiv (by omega) (by omega), ← Int64.ofInt_mul, ← Int64.ofInt_sub]
  congr 1
  rw [← Int.ofNat_tdiv]
  have := Nat.div_add_mod x y
  have h2 : ((x / y : Nat) : Int) * (y : Int) = ((y * (x / y) : Nat) : Int) := by rw [Int.natCast_mul, Int.mul_comm]
  rw [h2]
  omega
theorem gcd_st (x y : Nat) : Nat.gcd y (x % y) = Nat.gcd x y := by
  rw [Nat.gcd_comm x y, Nat.gcd_rec y x, Nat.gcd_comm]
theorem zm_div_28 (h : ax_H) : ∀ (n y x : Nat), y < n → x < 4611686018427387904 → y < 4611686018427387904 → M_divisor_28 (Int64.ofInt (x : Int)) (Int64.ofInt (y : Int)) h = some (Int64.ofInt ((Nat.gcd x y : Nat) : Int), h) := by
  intro n
  induction n with
  | zero => intro y x hy; omega
  | succ n ih =>
    intro y x hn hx hy
    rw [M_divisor_28_eq]
    by_cases h0 : y = 0
    · have := (lz_cmp0 hy).mpr h0
      simp only [this, decide_true, ↓reduceIte]
      rw [h0, Nat.gcd_zero_right]
    · have c1 : ¬ lg_cmp (Int64.ofInt (y : Int)) 0 = 0 := fun q => h0 ((lz_cmp0 hy).mp q)
      have c2 : ¬ Int64.ofInt (y : Int) = 0 := fun q => h0 ((lz_eq0 hy).mp q)
      have hm : x % y < y := Nat.mod_lt _ (by omega)
      simp only [c1, c2, decide_false, ↓reduceIte, Bool.false_eq_true, lz_rem hx hy]
      rw [ih (x % y) y (by omega) hy (by omega), gcd_st]
theorem mod_half {y r : Nat} (h0 : 0 < r) (h : r ≤ y) : 2 * (y % r) ≤ y := by
  have h1 := Nat.div_add_mod y r
  have h2 := Nat.mod_lt y h0
  have h3 : 0 < y / r := Nat.div_pos h h0
  have h4 : r ≤ r * (y / r) := Nat.le_mul_of_pos_right r h3
  omega
theorem z_cd_9 (h : ax_H) : ∀ (m i y x : Nat), y < 2 ^ m → i + 2 * m + 1 ≤ 100 → x < 4611686018427387904 → y < 4611686018427387904 → B_commonDivisor_9 (Int64.ofInt (x : Int)) (Int64.ofInt (y : Int)) (nI i) h = some (Int64.ofInt ((Nat.gcd x y : Nat) : Int), h) := by
  intro m
  induction m with
  | zero =>
    intro i y x hm hi hx hy
    have h0 : y = 0 := by simp at hm; exact hm
    have c0 : ¬ (100 : Int32) ≤ nI i := by rw [show (100 : Int32) = nI 100 from rfl, nJ_le (by omega) (by omega)]; omega
    have c1 := (lz_cmp0 hy).mpr h0
    rw [B_commonDivisor_9_eq]
    simp only [c0, c1, decide_true, decide_false, ↓reduceIte, Bool.false_eq_true]
    rw [h0, Nat.gcd_zero_right]
  | succ m ih =>
    intro i y x hm hi hx hy
    have c0 : ¬ (100 : Int32) ≤ nI i := by rw [show (100 : Int32) = nI 100 from rfl, nJ_le (by omega) (by omega)]; omega
    rw [B_commonDivisor_9_eq]
    by_cases h0 : y = 0
    · have c1 := (lz_cmp0 hy).mpr h0
      simp only [c0, c1, decide_true, decide_false, ↓reduceIte, Bool.false_eq_true]
      rw [h0, Nat.gcd_zero_right]
    · have c1 : ¬ lg_cmp (Int64.ofInt (y : Int)) 0 = 0 := fun q => h0 ((lz_cmp0 hy).mp q)
      have c2 : ¬ Int64.ofInt (y : Int) = 0 := fun q => h0 ((lz_eq0 hy).mp q)
      have hr : x % y < y := Nat.mod_lt _ (by omega)
      simp only [c0, c1, c2, decide_false, ↓reduceIte, Bool.false_eq_true, lz_rem hx hy, nJ_p1]
      have d0 : ¬ (100 : Int32) ≤ nI (i + 1) := by rw [show (100 : Int32) = nI 100 from rfl, nJ_le (by omega) (by omega)]; omega
      rw [B_commonDivisor_9_eq]
      by_cases h1 : x % y = 0
      · have d1 := (lz_cmp0 (x := x % y) (by omega)).mpr h1
        simp only [d0, d1, decide_true, decide_false, ↓reduceIte, Bool.false_eq_true]
        rw [← gcd_st, h1, Nat.gcd_zero_right]
      · have d1 : ¬ lg_cmp (Int64.ofInt ((x % y : Nat) : Int)) 0 = 0 := fun q => h1 ((lz_cmp0 (by omega)).mp q)
        have d2 : ¬ Int64.ofInt ((x % y : Nat) : Int) = 0 := fun q => h1 ((lz_eq0 (by omega)).mp q)
        simp only [d0, d1, d2, decide_false, ↓reduceIte, Bool.false_eq_true, lz_rem hy (show x % y < 4611686018427387904 by omega), nJ_p1]
        have hh := mod_half (y := y) (r := x % y) (by omega) (by omega)
        have hp : 2 ^ (m + 1) = 2 * 2 ^ m := by rw [Nat.pow_succ, Nat.mul_comm]
        have hlt : y % (x % y) < x % y := Nat.mod_lt _ (by omega)
        rw [ih (i + 1 + 1) (y % (x % y)) (x % y) (by omega) (by omega) (by omega) (by omega), gcd_st, gcd_st]
theorem z_cd {x y : Nat} (hx : x < 4611686018427387904) (hy : y < 1073741824) (h : ax_H) : B_commonDivisor (Int64.ofInt (x : Int)) (Int64.ofInt (y : Int)) h = some (Int64.ofInt ((Nat.gcd x y : Nat) : Int), h) := by
  rw [B_commonDivisor_eq]
  exact z_cd_9 h 30 0 y x (by omega) (by omega) hx (by omega)
/-- lowest terms: the class's -/
def lowZ (A B : Int) (part : Nat) : Int := if A = 0 then part else if part = 0 then A.tdiv (Nat.gcd A.natAbs B.natAbs) else B.tdiv (Nat.gcd A.natAbs B.natAbs)
theorem z_lowest {A B : Int} (hA : -2305843009213693952 < A ∧ A < 2305843009213693952) (hB : 0 < B ∧ B < 1073741824) {part : Nat} (hp : part < 2) (h : ax_H) : B_lowest (Int64.ofInt A) (Int64.ofInt B) (nI part) h = some (Int64.ofInt (lowZ A B part), h) := by
  have a0 : (Int64.ofInt A).toInt = A := l_toInt (by omega)
  have b0 : (Int64.ofInt B).toInt = B := l_toInt (by omega)
  rw [B_lowest_eq]
  unfold lowZ
  by_cases h0 : A = 0
  · have c0 : lg_cmp (Int64.ofInt A) 0 = 0 := by rw [lgc_eq, a0]; exact h0
    rw [if_pos (decide_eq_true c0), if_pos h0, i_L, nJ_i (by omega)]
  · have c0 : ¬ lg_cmp (Int64.ofInt A) 0 = 0 := by rw [lgc_eq, a0]; exact h0
    have c1 : 0 < lg_cmp (Int64.ofInt B) 0 := by rw [lgc_gt, b0]; exact hB.1
    have hz : zabs A = (A.natAbs : Int) := by unfold zabs; split <;> omega
    have e1 := z_abs (z := A) (by omega) h
    rw [hz] at e1
    have hBn : B = (B.natAbs : Int) := by omega
    have e2 : B_commonDivisor (Int64.ofInt (A.natAbs : Int)) (Int64.ofInt B) h = some (Int64.ofInt ((Nat.gcd A.natAbs B.natAbs : Nat) : Int), h) := by
      conv => lhs; rw [hBn]
      exact z_cd (by omega) (by omega) h
    have g1 : 0 < Nat.gcd A.natAbs B.natAbs := Nat.gcd_pos_of_pos_left _ (by omega)
    have g2 : Nat.gcd A.natAbs B.natAbs ≤ A.natAbs := Nat.gcd_le_left _ (by omega)
    have c2 : 0 < lg_cmp (Int64.ofInt ((Nat.gcd A.natAbs B.natAbs : Nat) : Int)) 0 := by
      rw [lgc_gt, l_toInt (by omega)]
      show (0 : Int) < _
      omega
    have c3 : ¬ Int64.ofInt ((Nat.gcd A.natAbs B.natAbs : Nat) : Int) = 0 := fun q => by
      have := (lz_eq0 (by omega)).mp q
      omega
    simp only [c0, c1, decide_true, decide_false, ↓reduceIte, Bool.false_eq_true, ↓bnd e1, ↓bnd e2, c2, c3, h0]
    by_cases hp0 : part = 0
    · subst hp0
      simp only [show nI 0 = 0 from rfl, not_true_eq_false, decide_false, Bool.false_eq_true, ↓reduceIte]
      rw [l_tdiv (by omega) (by omega)]
    · have : ¬ nI part = 0 := by rw [nI_eq0 (by omega)]; exact hp0
      simp only [this, not_false_eq_true, decide_true, ↓reduceIte, hp0]
      rw [l_tdiv (by omega) (by omega)]
theorem zm_div {A B : Int} (hA : -2305843009213693952 < A ∧ A < 2305843009213693952) (hB : -2305843009213693952 < B ∧ B < 2305843009213693952) (h : ax_H) : M_divisor (Int64.ofInt A) (Int64.ofInt B) h = some (Int64.ofInt ((Nat.gcd A.natAbs B.natAbs : Nat) : Int), h) := by
  have a0 : (Int64.ofInt A).toInt = A := l_toInt (by omega)
  have b0 : (Int64.ofInt B).toInt = B := l_toInt (by omega)
  have key := zm_div_28 h (B.natAbs + 1) B.natAbs A.natAbs (by omega) (by omega) (by omega)
  rw [M_divisor_eq]
  simp only [lgc_ge, a0, b0, show (0 : Int64).toInt = 0 from rfl, ← Int64.ofInt_neg, decide_eq_true_eq]
  by_cases hA0 : 0 ≤ A
  · have eA : A = (A.natAbs : Int) := by omega
    by_cases hB0 : 0 ≤ B
    · have eB : B = (B.natAbs : Int) := by omega
      rw [if_pos hA0, if_pos hB0]
      rw [← eA, ← eB] at key
      exact key
    · have eB : -B = (B.natAbs : Int) := by omega
      rw [if_pos hA0, if_neg hB0]
      rw [← eA, ← eB] at key
      exact key
  · have eA : -A = (A.natAbs : Int) := by omega
    by_cases hB0 : 0 ≤ B
    · have eB : B = (B.natAbs : Int) := by omega
      rw [if_neg hA0, if_pos hB0]
      rw [← eA, ← eB] at key
      exact key
    · have eB : -B = (B.natAbs : Int) := by omega
      rw [if_neg hA0, if_neg hB0]
      rw [← eA, ← eB] at key
      exact key
