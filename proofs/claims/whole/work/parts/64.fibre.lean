/-! sums by fibres of a key -/
def zS (P : Nat → Bool) (F : Nat → Int) : Nat → Int
  | 0 => 0
  | n + 1 => zS P F n + (if P n then F n else 0)
def zN (G : Nat → Int) : Nat → Int
  | 0 => 0
  | n + 1 => zN G n + G n
theorem zo_zS {P : Nat → Bool} {F : Nat → Int} : ∀ (k i : Nat) (a : Int), zo P F k i a = a + (zS P F (i + k) - zS P F i)
  | 0, i, a => by rw [zo, Nat.add_zero]; omega
  | k + 1, i, a => by
    rw [zo, zo_zS k (i + 1), show i + 1 + k = i + (k + 1) by omega]
    have e1 : zS P F (i + 1) = zS P F i + (if P i then F i else 0) := rfl
    rw [e1]
    cases P i with
    | true => rw [if_pos rfl, if_pos rfl]; omega
    | false => rw [if_neg (by decide), if_neg (by decide)]; omega
theorem zS_none {P : Nat → Bool} {F : Nat → Int} : ∀ (n : Nat), (∀ i, i < n → P i = false) → zS P F n = 0
  | 0, _ => rfl
  | n + 1, h => by rw [zS, zS_none n (fun i hi => h i (by omega)), h n (by omega), if_neg (by decide)]; rfl
theorem zS_one {P : Nat → Bool} {F : Nat → Int} {j : Nat} : ∀ (n : Nat), j < n → P j = true → (∀ i, i < n → P i = true → i = j) → zS P F n = F j
  | 0, h, _, _ => by omega
  | n + 1, h, hp, hu => by
    rw [zS]
    by_cases e : j = n
    · subst e
      rw [zS_none j (fun i hi => by
        cases hb : P i with
        | false => rfl
        | true => have := hu i (by omega) hb; omega), hp, if_pos rfl]
      omega
    · rw [zS_one n (by omega) hp (fun i hi q => hu i (by omega) q)]
      have : P n = false := by
        cases hb : P n with
        | false => rfl
        | true => have := hu n (by omega) hb; omega
      rw [this, if_neg (by decide)]
      omega
theorem zN_add (G H : Nat → Int) : ∀ n, zN (fun g => G g + H g) n = zN G n + zN H n
  | 0 => rfl
  | n + 1 => by rw [zN, zN, zN, zN_add G H n]; omega
theorem zN_at {c : Int} {k : Nat} : ∀ n, zN (fun g => if k = g then c else 0) n = if k < n then c else 0
  | 0 => by rw [zN, if_neg (by omega)]
  | n + 1 => by
    rw [zN, zN_at n]
    by_cases h : k = n
    · rw [if_neg (by omega), if_pos h, if_pos (by omega)]; omega
    · by_cases h2 : k < n
      · rw [if_pos h2, if_neg h, if_pos (by omega)]; omega
      · rw [if_neg h2, if_neg h, if_neg (by omega)]; omega
theorem zN_0 : ∀ n, zN (fun _ => 0) n = 0
  | 0 => rfl
  | n + 1 => by rw [zN, zN_0 n]; rfl
/-- a sum over images is the sum over keys of the sums over images with that key -/
theorem zS_fib {P : Nat → Bool} {F : Nat → Int} {key : Nat → Nat} {K : Nat} : ∀ n, (∀ i, i < n → P i = true → key i < K) → zS P F n = zN (fun g => zS (fun i => P i && decide (key i = g)) F n) K
  | 0, _ => (zN_0 K).symm
  | n + 1, h => by
    have ih := zS_fib (F := F) n (fun i hi q => h i (by omega) q)
    have e1 : (fun g => zS (fun i => P i && decide (key i = g)) F (n + 1)) = fun g => zS (fun i => P i && decide (key i = g)) F n + (if key n = g then (if P n then F n else 0) else 0) := by
      funext g
      rw [zS]
      congr 1
      by_cases hk : key n = g
      · rw [if_pos hk, decide_eq_true hk, Bool.and_true]
      · rw [if_neg hk, decide_eq_false hk, Bool.and_false, if_neg (by decide)]
    rw [e1, zN_add, ← ih, zN_at, zS]
    congr 1
    cases hp : P n with
    | true => rw [if_pos rfl, if_pos (h n (by omega) hp)]
    | false => rw [if_neg (by decide)]; split <;> rfl
