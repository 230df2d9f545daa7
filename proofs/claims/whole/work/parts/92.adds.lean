/-! Cramer's rule, the reference's: factors, and long division -/
def fcZ (N : Nat) (A : Nat → Nat → Int) (a b : Nat) : Int := if N = 1 then 1 else if N = 2 then (if a = b then A ((a + 1) % 2) ((b + 1) % 2) else - A ((a + 1) % 2) ((b + 1) % 2)) else A ((a + 1) % 3) ((b + 1) % 3) * A ((a + 2) % 3) ((b + 2) % 3) - A ((a + 1) % 3) ((b + 2) % 3) * A ((a + 2) % 3) ((b + 1) % 3)
def AQ (h : ax_H) (N : Nat) (A : Nat → Nat → Int) : Prop := gI h 159 49 = nI N ∧ ∀ a b, a < 3 → b < 3 → gL h 187 (3 * a + b) = Int64.ofInt (A a b)
theorem zm_sumAt {h : ax_H} (w : ok h) {N : Nat} (hN : 1 ≤ N ∧ N ≤ 3) {A : Nat → Nat → Int} (q : AQ h N A) {x y : Nat} (hx : x ≤ 10) (hy : y ≤ 10) : M_sumAt 159 (nI x) (nI y) h = some (Int64.ofInt (A (x % N) (y % N)), h) := by
  obtain ⟨wS, wR, wG, wN⟩ := w
  obtain ⟨q1, q2⟩ := q
  have n0 : ¬ nI N = 0 := nI_ne0 (by omega) (by omega)
  have rx := pk_rem (a := x) (d := N) (by omega) (by omega) (by omega)
  have ry := pk_rem (a := y) (d := N) (by omega) (by omega) (by omega)
  have bx : x % N < N := Nat.mod_lt _ (by omega)
  have by' : y % N < N := Nat.mod_lt _ (by omega)
  have e3 : (3 : Int32) * nI (x % N) + nI (y % N) = nI (3 * (x % N) + y % N) := by rw [show (3 : Int32) = nI 3 from rfl, pk_mul, nI_add]
  have tx : (nI (3 * (x % N) + y % N)).toNatClampNeg = 3 * (x % N) + y % N := nJ_n (by omega)
  have nx : ¬ nI (3 * (x % N) + y % N) < 0 := nJ_nn (by omega)
  have h9 : 3 * (x % N) + y % N < 9 := by omega
  have v := q2 (x % N) (y % N) (by omega) (by omega)
  rw [M_sumAt_eq]
  simp only [gI_pI, gI_pL, gI_pR, gL_pI, gL_pL, gL_pR, gR_pI, gR_pL, gR_pR, gS_pI, gS_pL, gS_pR, ↓reduceIte, Nat.reduceEqDiff, decide_eq_true_eq, Option.bind_some, false_and, and_false, true_and, and_true, and_self, Nat.reduceAdd, not_false_eq_true, not_true_eq_false, wS, wR, inI, ite_self, Classical.not_not, q1, n0, rx, ry, ax_in, e3, tx, nx, h9, v]
theorem zm_factor {h : ax_H} (w : ok h) {N : Nat} (hN : 1 ≤ N ∧ N ≤ 3) {A : Nat → Nat → Int} (q : AQ h N A) {a b : Nat} (ha : a < 3) (hb : b < 3) : M_factor 159 (nI a) (nI b) h = some (Int64.ofInt (fcZ N A a b), h) := by
  have w0 := w
  obtain ⟨wS, wR, wG, wN⟩ := w
  have q0 := q
  obtain ⟨q1, q2⟩ := q
  have s11 := zm_sumAt w0 hN q0 (x := a + 1) (y := b + 1) (by omega) (by omega)
  have s22 := zm_sumAt w0 hN q0 (x := a + 2) (y := b + 2) (by omega) (by omega)
  have s12 := zm_sumAt w0 hN q0 (x := a + 1) (y := b + 2) (by omega) (by omega)
  have s21 := zm_sumAt w0 hN q0 (x := a + 2) (y := b + 1) (by omega) (by omega)
  have a2 : ∀ n : Nat, nI n + 2 = nI (n + 2) := fun n => nI_add n 2
  rw [← nJ_p1 a, ← nJ_p1 b] at s11
  rw [← a2 a, ← a2 b] at s22
  rw [← nJ_p1 a, ← a2 b] at s12
  rw [← a2 a, ← nJ_p1 b] at s21
  have hab : nI a = nI b ↔ a = b := nJ_eq (by omega) (by omega)
  rw [M_factor_eq]
  unfold fcZ
  have hc : N = 1 ∨ N = 2 ∨ N = 3 := by omega
  rcases hc with rfl | rfl | rfl
  · simp only [gI_pI, gI_pL, gI_pR, gL_pI, gL_pL, gL_pR, gR_pI, gR_pL, gR_pR, gS_pI, gS_pL, gS_pR, ↓reduceIte, Nat.reduceEqDiff, decide_eq_true_eq, Option.bind_some, false_and, and_false, true_and, and_true, and_self, Nat.reduceAdd, not_false_eq_true, not_true_eq_false, wS, wR, inI, ite_self, Classical.not_not, q1, show nI 1 = 1 from rfl]
    rfl
  · simp only [gI_pI, gI_pL, gI_pR, gL_pI, gL_pL, gL_pR, gR_pI, gR_pL, gR_pR, gS_pI, gS_pL, gS_pR, ↓reduceIte, Nat.reduceEqDiff, decide_eq_true_eq, Option.bind_some, false_and, and_false, true_and, and_true, and_self, Nat.reduceAdd, not_false_eq_true, not_true_eq_false, wS, wR, inI, ite_self, Classical.not_not, q1, show nI 2 = 2 from rfl, show ¬ (2 : Int32) = 1 by decide, hab, s11]
    by_cases c : a = b
    · rw [if_neg (not_not_intro c), if_pos c]
    · rw [if_pos c, if_neg c, Int64.ofInt_neg]
  · simp only [gI_pI, gI_pL, gI_pR, gL_pI, gL_pL, gL_pR, gR_pI, gR_pL, gR_pR, gS_pI, gS_pL, gS_pR, ↓reduceIte, Nat.reduceEqDiff, decide_eq_true_eq, Option.bind_some, false_and, and_false, true_and, and_true, and_self, Nat.reduceAdd, not_false_eq_true, not_true_eq_false, wS, wR, inI, ite_self, Classical.not_not, q1, show nI 3 = 3 from rfl, show ¬ (3 : Int32) = 1 by decide, show ¬ (3 : Int32) = 2 by decide, ↓bnd s11, ↓bnd s22, ↓bnd s12, ↓bnd s21, ← Int64.ofInt_mul, ← Int64.ofInt_sub]
def pw : Nat → Int
  | 0 => 1
  | j + 1 => 1000 * pw j
theorem pw_bd {j : Nat} (h : j ≤ 3) : 1 ≤ pw j ∧ pw j ≤ 1000000000 := by
  have : j = 0 ∨ j = 1 ∨ j = 2 ∨ j = 3 := by omega
  rcases this with rfl | rfl | rfl | rfl <;> decide
theorem pw_d {y : Int} {j : Nat} (h : j ≤ 3) : y / (1000 * pw j) = (y / pw j) / 1000 := by
  have := pw_bd h
  rw [Int.mul_comm, Int.ediv_ediv_of_nonneg (by omega)]
section
theorem zm_ad_60 {x y B : Int} (hx : 0 ≤ x ∧ x ≤ 2000000000000) (hy : 0 ≤ y ∧ y ≤ 1000000000) (hB : 0 < B ∧ B ≤ 1701000000000000) (c b : Int64) (h : ax_H) : ∀ (j : Nat) (q r : Int), j ≤ 3 → q * B + r = x * (y / (1000 * pw j)) → 0 ≤ r → r < B → M_adds_60 159 c b (Int64.ofInt B) (Int64.ofInt x) (Int64.ofInt y) (Int64.ofInt (pw j)) (Int64.ofInt q) (Int64.ofInt r) h = M_adds_60 159 c b (Int64.ofInt B) (Int64.ofInt x) (Int64.ofInt y) 0 (Int64.ofInt (x * y / B)) (Int64.ofInt (x * y % B)) h := by
  intro j
  induction j with
  | zero =>
    intro q r hj hq r0 r1
    rw [pw, Int.mul_one] at hq
    have bd : 0 ≤ y % 1000 ∧ y % 1000 < 1000 := by omega
    have m1 := Int.mul_nonneg hx.1 bd.1
    have m2 := Int.mul_le_mul hx.2 (show y % 1000 ≤ 999 by omega) bd.1 (by omega)
    have c1 : ¬ lg_cmp (Int64.ofInt (pw 0)) 0 ≤ 0 := by decide
    have c2 : ¬ Int64.ofInt (pw 0) = 0 := by decide
    have c3 : ¬ Int64.ofInt B = 0 := fun z => by
      have : (Int64.ofInt B).toInt = 0 := by rw [z]; rfl
      rw [l_toInt (by omega)] at this
      omega
    have e1 : Int64.ofInt y / Int64.ofInt (pw 0) = Int64.ofInt y := by
      rw [l_tdiv (by omega) (by decide)]
      congr 1
      exact Int.tdiv_one y
    have k1 : (1000 : Int64) = Int64.ofInt 1000 := rfl
    have e2 : Int64.ofInt y - Int64.ofInt y / 1000 * 1000 = Int64.ofInt (y % 1000) := by
      rw [k1, l_tdiv (by omega) (by omega), ← Int64.ofInt_mul, ← Int64.ofInt_sub, Int.tdiv_eq_ediv_of_nonneg (by omega)]
      congr 1
      omega
    have e3 : Int64.ofInt r * 1000 + Int64.ofInt x * Int64.ofInt (y % 1000) = Int64.ofInt (r * 1000 + x * (y % 1000)) := by
      rw [k1, ← Int64.ofInt_mul, ← Int64.ofInt_mul, ← Int64.ofInt_add]
    have e4 : Int64.ofInt (r * 1000 + x * (y % 1000)) / Int64.ofInt B = Int64.ofInt ((r * 1000 + x * (y % 1000)) / B) := by
      rw [l_tdiv (by omega) (by omega), Int.tdiv_eq_ediv_of_nonneg (by omega)]
    have e5 : Int64.ofInt (pw 0) / 1000 = 0 := by decide
    have dv := Int.mul_ediv_add_emod (r * 1000 + x * (y % 1000)) B
    have dm := Int.emod_nonneg (r * 1000 + x * (y % 1000)) (show B ≠ 0 by omega)
    have dl := Int.emod_lt_of_pos (r * 1000 + x * (y % 1000)) hB.1
    have key : (q * 1000 + (r * 1000 + x * (y % 1000)) / B) * B + (r * 1000 + x * (y % 1000)) % B = x * y := by
      have hy2 : y = 1000 * (y / 1000) + y % 1000 := by omega
      have e6 : x * y = 1000 * (x * (y / 1000)) + x * (y % 1000) := by
        have : x * y = x * (1000 * (y / 1000) + y % 1000) := by rw [← hy2]
        rw [this]
        grind
      rw [e6, ← hq]
      generalize (r * 1000 + x * (y % 1000)) / B = u at dv ⊢
      generalize (r * 1000 + x * (y % 1000)) % B = v at dv ⊢
      grind
    have dq : x * y / B = q * 1000 + (r * 1000 + x * (y % 1000)) / B := div_un hB.1 (by omega) (by omega)
    have dr : x * y % B = (r * 1000 + x * (y % 1000)) % B := by
      have := Int.mul_ediv_add_emod (x * y) B
      rw [dq, Int.mul_comm] at this
      omega
    have e7 : Int64.ofInt q * 1000 + Int64.ofInt ((r * 1000 + x * (y % 1000)) / B) = Int64.ofInt (x * y / B) := by
      rw [k1, ← Int64.ofInt_mul, ← Int64.ofInt_add, dq]
    have e8 : Int64.ofInt (r * 1000 + x * (y % 1000)) - Int64.ofInt ((r * 1000 + x * (y % 1000)) / B) * Int64.ofInt B = Int64.ofInt (x * y % B) := by
      rw [← Int64.ofInt_mul, ← Int64.ofInt_sub, dr]
      congr 1
      rw [Int.mul_comm B] at dv
      omega
    rw [M_adds_60_eq]
    simp only [c1, decide_false, Bool.false_eq_true, ↓reduceIte, c2, c3, e1, e2, e3, e4, e5, e7, e8]
  | succ j ih =>
    intro q r hj hq r0 r1
    have pb := pw_bd hj
    have pb' := pw_bd (j := j) (by omega)
    have hd : 0 ≤ y / pw (j + 1) ∧ y / pw (j + 1) ≤ 1000000000 := by
      refine ⟨Int.ediv_nonneg hy.1 (by omega), ?_⟩
      have := Int.ediv_le_self (b := pw (j + 1)) hy.1
      omega
    rw [pw_d hj] at hq
    obtain ⟨z, hz⟩ : ∃ z, z = y / pw (j + 1) := ⟨_, rfl⟩
    rw [← hz] at hq hd
    have bd : 0 ≤ z % 1000 ∧ z % 1000 < 1000 := by omega
    have m1 := Int.mul_nonneg hx.1 bd.1
    have m2 := Int.mul_le_mul hx.2 (show z % 1000 ≤ 999 by omega) bd.1 (by omega)
    have tp := l_toInt (z := pw (j + 1)) (by omega)
    have c1 : ¬ lg_cmp (Int64.ofInt (pw (j + 1))) 0 ≤ 0 := by
      rw [lgc_le, tp]
      show ¬ pw (j + 1) ≤ 0
      omega
    have c2 : ¬ Int64.ofInt (pw (j + 1)) = 0 := fun u => by
      have : (Int64.ofInt (pw (j + 1))).toInt = 0 := by rw [u]; rfl
      omega
    have c3 : ¬ Int64.ofInt B = 0 := fun z => by
      have : (Int64.ofInt B).toInt = 0 := by rw [z]; rfl
      rw [l_toInt (by omega)] at this
      omega
    have e1 : Int64.ofInt y / Int64.ofInt (pw (j + 1)) = Int64.ofInt z := by
      rw [l_tdiv (by omega) (by omega), Int.tdiv_eq_ediv_of_nonneg (by omega), hz]
    have k1 : (1000 : Int64) = Int64.ofInt 1000 := rfl
    have e2 : Int64.ofInt z - Int64.ofInt z / 1000 * 1000 = Int64.ofInt (z % 1000) := by
      rw [k1, l_tdiv (by omega) (by omega), ← Int64.ofInt_mul, ← Int64.ofInt_sub, Int.tdiv_eq_ediv_of_nonneg (by omega)]
      congr 1
      omega
    have e3 : Int64.ofInt r * 1000 + Int64.ofInt x * Int64.ofInt (z % 1000) = Int64.ofInt (r * 1000 + x * (z % 1000)) := by
      rw [k1, ← Int64.ofInt_mul, ← Int64.ofInt_mul, ← Int64.ofInt_add]
    have e4 : Int64.ofInt (r * 1000 + x * (z % 1000)) / Int64.ofInt B = Int64.ofInt ((r * 1000 + x * (z % 1000)) / B) := by
      rw [l_tdiv (by omega) (by omega), Int.tdiv_eq_ediv_of_nonneg (by omega)]
    have e5 : Int64.ofInt (pw (j + 1)) / 1000 = Int64.ofInt (pw j) := by
      rw [k1, l_tdiv (by omega) (by omega), Int.tdiv_eq_ediv_of_nonneg (by omega), pw]
      congr 1
      omega
    have dv := Int.mul_ediv_add_emod (r * 1000 + x * (z % 1000)) B
    have dm := Int.emod_nonneg (r * 1000 + x * (z % 1000)) (show B ≠ 0 by omega)
    have dl := Int.emod_lt_of_pos (r * 1000 + x * (z % 1000)) hB.1
    have key : (q * 1000 + (r * 1000 + x * (z % 1000)) / B) * B + (r * 1000 + x * (z % 1000)) % B = x * z := by
      have hy2 : z = 1000 * (z / 1000) + z % 1000 := by omega
      have e6 : x * z = 1000 * (x * (z / 1000)) + x * (z % 1000) := by
        have : x * z = x * (1000 * (z / 1000) + z % 1000) := by rw [← hy2]
        rw [this]
        grind
      rw [e6, ← hq]
      generalize (r * 1000 + x * (z % 1000)) / B = u at dv ⊢
      generalize (r * 1000 + x * (z % 1000)) % B = v at dv ⊢
      grind
    have i1 := ih (q * 1000 + (r * 1000 + x * (z % 1000)) / B) ((r * 1000 + x * (z % 1000)) % B) (by omega) (by rw [key, hz]; rfl) dm dl
    have e7 : Int64.ofInt q * 1000 + Int64.ofInt ((r * 1000 + x * (z % 1000)) / B) = Int64.ofInt (q * 1000 + (r * 1000 + x * (z % 1000)) / B) := by
      rw [k1, ← Int64.ofInt_mul, ← Int64.ofInt_add]
    have e8 : Int64.ofInt (r * 1000 + x * (z % 1000)) - Int64.ofInt ((r * 1000 + x * (z % 1000)) / B) * Int64.ofInt B = Int64.ofInt ((r * 1000 + x * (z % 1000)) % B) := by
      rw [← Int64.ofInt_mul, ← Int64.ofInt_sub]
      congr 1
      rw [Int.mul_comm B] at dv
      omega
    rw [← i1, M_adds_60_eq]
    simp only [c1, decide_false, Bool.false_eq_true, ↓reduceIte, c2, c3, e1, e2, e3, e4, e5, e7, e8]
theorem zm_ad_31 {x y B : Int} (hx : 0 ≤ x ∧ x ≤ 2000000000000) (hy : 0 ≤ y ∧ y ≤ 1000000000) (hB : 0 < B ∧ B ≤ 1701000000000000) (c b : Int64) (h : ax_H) : ∀ (m j : Nat), j + m = 3 → M_adds_31 159 c b (Int64.ofInt B) (Int64.ofInt x) (Int64.ofInt y) (Int64.ofInt (pw j)) h = M_adds_60 159 c b (Int64.ofInt B) (Int64.ofInt x) (Int64.ofInt y) 0 (Int64.ofInt (x * y / B)) (Int64.ofInt (x * y % B)) h := by
  intro m
  induction m with
  | zero =>
    intro j hj
    have : j = 3 := by omega
    subst this
    have e1 : Int64.ofInt y / Int64.ofInt (pw 3) = Int64.ofInt (y / 1000000000) := by
      rw [l_tdiv (by omega) (by decide), Int.tdiv_eq_ediv_of_nonneg (by omega)]
      rfl
    have c2 : ¬ Int64.ofInt (pw 3) = 0 := by decide
    have c1 : lg_cmp (Int64.ofInt (y / 1000000000)) 999 ≤ 0 := by
      rw [lgc_le, l_toInt (by omega)]
      show y / 1000000000 ≤ 999
      omega
    rw [M_adds_31_eq]
    simp only [c2, ↓reduceIte, e1, c1, decide_true]
    refine zm_ad_60 hx hy hB c b h 3 0 0 (by omega) ?_ (Int.le_refl _) hB.1
    rw [pw_d (by omega)]
    have : y / pw 3 / 1000 = 0 := by
      show y / 1000000000 / 1000 = 0
      omega
    rw [this, Int.mul_zero, Int.zero_mul]
    rfl
  | succ m ih =>
    intro j hj
    have pb := pw_bd (j := j) (by omega)
    have tp := l_toInt (z := pw j) (by omega)
    have hd : 0 ≤ y / pw j ∧ y / pw j ≤ 1000000000 := by
      refine ⟨Int.ediv_nonneg hy.1 (by omega), ?_⟩
      have := Int.ediv_le_self (b := pw j) hy.1
      omega
    have e1 : Int64.ofInt y / Int64.ofInt (pw j) = Int64.ofInt (y / pw j) := by
      rw [l_tdiv (by omega) (by omega), Int.tdiv_eq_ediv_of_nonneg (by omega)]
    have c2 : ¬ Int64.ofInt (pw j) = 0 := fun u => by
      have : (Int64.ofInt (pw j)).toInt = 0 := by rw [u]; rfl
      omega
    have cc : lg_cmp (Int64.ofInt (y / pw j)) 999 ≤ 0 ↔ y / pw j ≤ 999 := by
      rw [lgc_le, l_toInt (by omega)]
      rfl
    rw [M_adds_31_eq]
    simp only [c2, ↓reduceIte, e1, decide_eq_true_eq, cc]
    by_cases q : y / pw j ≤ 999
    · rw [if_pos q]
      refine zm_ad_60 hx hy hB c b h j 0 0 (by omega) ?_ (Int.le_refl _) hB.1
      rw [pw_d (by omega)]
      have : y / pw j / 1000 = 0 := by omega
      rw [this, Int.mul_zero, Int.zero_mul]
      rfl
    · rw [if_neg q, show (1000 : Int64) = Int64.ofInt 1000 from rfl, ← Int64.ofInt_mul, Int.mul_comm]
      exact ih (j + 1) (by omega)
end
def S512 (a k : Nat) : Bool := decide (a = 159 ∧ (k = 51 ∨ k = 52))
theorem S512_m {h h' : ax_H} (q : fr S512 h h') : fr Sm h h' := fr_le q fun a k z => by simp only [Sm, S512, decide_eq_false_iff_not] at z ⊢; omega
def QR (h : ax_H) (q r : Int) : Prop := gL h 159 51 = Int64.ofInt q ∧ gL h 159 52 = Int64.ofInt r
theorem zm_adds {h : ax_H} (w : ok h) {c b B Q R : Int} (hc : -2000000000000 ≤ c ∧ c ≤ 2000000000000) (hb : -1000000000 ≤ b ∧ b ≤ 1000000000) (hB : 0 < B ∧ B ≤ 1701000000000000) (qr : QR h Q R) : ∃ h' q r, M_adds 159 (Int64.ofInt c) (Int64.ofInt b) (Int64.ofInt B) h = some h' ∧ fr S512 h h' ∧ QR h' (Q + q) (R + r) ∧ c * b = q * B + r ∧ -B < r ∧ r < B := by
  obtain ⟨wS, wR, wG, wN⟩ := w
  obtain ⟨g1, g2⟩ := qr
  have z0 : (0 : Int64).toInt = 0 := rfl
  have tc := l_toInt (z := c) (by omega)
  have tb := l_toInt (z := b) (by omega)
  have cc : (0 : Int32) ≤ lg_cmp (Int64.ofInt c) 0 ↔ 0 ≤ c := by rw [lgc_ge, tc, z0]
  have cb : (0 : Int32) ≤ lg_cmp (Int64.ofInt b) 0 ↔ 0 ≤ b := by rw [lgc_ge, tb, z0]
  obtain ⟨x, hx⟩ : ∃ x, x = if 0 ≤ c then c else -c := ⟨_, rfl⟩
  obtain ⟨y, hy⟩ : ∃ y, y = if 0 ≤ b then b else -b := ⟨_, rfl⟩
  have bx : 0 ≤ x ∧ x ≤ 2000000000000 := by rw [hx]; split <;> omega
  have b_y : 0 ≤ y ∧ y ≤ 1000000000 := by rw [hy]; split <;> omega
  have key := zm_ad_31 bx b_y hB (Int64.ofInt c) (Int64.ofInt b) h 3 0 (by omega)
  have st : M_adds 159 (Int64.ofInt c) (Int64.ofInt b) (Int64.ofInt B) h = M_adds_31 159 (Int64.ofInt c) (Int64.ofInt b) (Int64.ofInt B) (Int64.ofInt x) (Int64.ofInt y) (Int64.ofInt (pw 0)) h := by
    have k1 : Int64.ofInt (pw 0) = 1 := rfl
    rw [M_adds_eq, k1, hx, hy]
    simp only [decide_eq_true_eq, cc, M_adds_12_eq, cb]
    by_cases q1 : 0 ≤ c <;> by_cases q2 : 0 ≤ b <;> simp only [q1, q2, ↓reduceIte, Int64.ofInt_neg]
  have dv := Int.mul_ediv_add_emod (x * y) B
  have dm := Int.emod_nonneg (x * y) (show B ≠ 0 by omega)
  have dl := Int.emod_lt_of_pos (x * y) hB.1
  have fin : M_adds 159 (Int64.ofInt c) (Int64.ofInt b) (Int64.ofInt B) h = M_adds_60 159 (Int64.ofInt c) (Int64.ofInt b) (Int64.ofInt B) (Int64.ofInt x) (Int64.ofInt y) 0 (Int64.ofInt (x * y / B)) (Int64.ofInt (x * y % B)) h := st.trans key
  have c0 : lg_cmp 0 0 ≤ 0 := by decide
  rw [fin, M_adds_60_eq]
  by_cases sg : (0 ≤ c ↔ 0 ≤ b)
  · refine ⟨pL (pL h 159 51 (Int64.ofInt (Q + x * y / B))) 159 52 (Int64.ofInt (R + x * y % B)), x * y / B, x * y % B, ?_, fr_tr (fr_pL rfl) (fr_pL rfl), ⟨?_, ?_⟩, ?_, by omega, dl⟩
    · have u : ∀ k : Int32, M_adds_142 k k 159 (Int64.ofInt (x * y / B)) (Int64.ofInt (x * y % B)) h = some (pL (pL h 159 51 (Int64.ofInt (Q + x * y / B))) 159 52 (Int64.ofInt (R + x * y % B))) := fun k => by
        rw [M_adds_142_eq]
        simp only [decide_true, ↓reduceIte, wS, M_adds_170_eq, gS_pL, g1, ← Int64.ofInt_add, gL_pL, Nat.reduceEqDiff, and_false, g2]
      simp only [c0, decide_true, ↓reduceIte, decide_eq_true_eq, cc, cb]
      by_cases q1 : 0 ≤ c
      · rw [if_pos q1, if_pos (sg.mp q1)]; exact u 0
      · rw [if_neg q1, if_neg (fun z => q1 (sg.mpr z))]; exact u 1
    · rw [gL_pL, if_neg (fun z => absurd z.2 (by decide)), gL_pL, if_pos ⟨rfl, rfl⟩]
    · rw [gL_pL, if_pos ⟨rfl, rfl⟩]
    · have : c * b = x * y := by
        rw [hx, hy]
        by_cases q1 : 0 ≤ c
        · rw [if_pos q1, if_pos (sg.mp q1)]
        · rw [if_neg q1, if_neg (fun z => q1 (sg.mpr z)), Int.neg_mul_neg]
      rw [this, Int.mul_comm (x * y / B) B]
      exact dv.symm
  · refine ⟨pL (pL h 159 51 (Int64.ofInt (Q + -(x * y / B)))) 159 52 (Int64.ofInt (R + -(x * y % B))), -(x * y / B), -(x * y % B), ?_, fr_tr (fr_pL rfl) (fr_pL rfl), ⟨?_, ?_⟩, ?_, by omega, by omega⟩
    · have u : ∀ k k' : Int32, ¬ k' = k → M_adds_142 k k' 159 (Int64.ofInt (x * y / B)) (Int64.ofInt (x * y % B)) h = some (pL (pL h 159 51 (Int64.ofInt (Q + -(x * y / B)))) 159 52 (Int64.ofInt (R + -(x * y % B)))) := fun k k' hk => by
        rw [M_adds_142_eq]
        simp only [hk, decide_false, Bool.false_eq_true, ↓reduceIte, wS, M_adds_170_eq, gS_pL, g1, i1_0, ← Int64.ofInt_neg, ← Int64.ofInt_add, gL_pL, Nat.reduceEqDiff, and_false, g2]
      simp only [c0, decide_true, ↓reduceIte, decide_eq_true_eq, cc, cb]
      by_cases q1 : 0 ≤ c
      · rw [if_pos q1, if_neg (fun z => sg ⟨fun _ => z, fun _ => q1⟩)]; exact u 1 0 (by decide)
      · rw [if_neg q1, if_pos (by
          by_cases z : 0 ≤ b
          · exact z
          · exact absurd ⟨fun y => absurd y q1, fun y => absurd y z⟩ sg)]
        exact u 0 1 (by decide)
    · rw [gL_pL, if_neg (fun z => absurd z.2 (by decide)), gL_pL, if_pos ⟨rfl, rfl⟩]
    · rw [gL_pL, if_pos ⟨rfl, rfl⟩]
    · have : c * b = -(x * y) := by
        rw [hx, hy]
        by_cases q1 : 0 ≤ c
        · rw [if_pos q1, if_neg (fun z => sg ⟨fun _ => z, fun _ => q1⟩), Int.mul_neg, Int.neg_neg]
        · rw [if_neg q1, if_pos (by
            by_cases z : 0 ≤ b
            · exact z
            · exact absurd ⟨fun y => absurd y q1, fun y => absurd y z⟩ sg), Int.neg_mul, Int.neg_neg]
      rw [this, Int.neg_mul, Int.mul_comm (x * y / B) B]
      omega
