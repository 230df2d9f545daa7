/-! ruled: sets as ints -/
theorem land2 (a b : Nat) : a &&& b = 2 * ((a / 2) &&& (b / 2)) + (a % 2) * (b % 2) := by
  have h1 : (a &&& b) / 2 = a / 2 &&& b / 2 := Nat.and_div_two
  have h2 : (a &&& b) % 2 = 1 ↔ a % 2 = 1 ∧ b % 2 = 1 := Nat.and_mod_two_eq_one
  have h3 : (a &&& b) % 2 = (a % 2) * (b % 2) := by
    by_cases qa : a % 2 = 1
    · by_cases qb : b % 2 = 1
      · rw [h2.mpr ⟨qa, qb⟩, qa, qb]
      · have : ¬ (a &&& b) % 2 = 1 := fun z => qb (h2.mp z).2
        rw [show b % 2 = 0 by omega, Nat.mul_zero]
        omega
    · have : ¬ (a &&& b) % 2 = 1 := fun z => qa (h2.mp z).1
      rw [show a % 2 = 0 by omega, Nat.zero_mul]
      omega
  rw [← h1, ← h3]
  omega
theorem nx_land (B : Nat → Bool) : ∀ n i s w, n ≤ w → s < 2 ^ n → rsN B n i s = s → ((if s = mkN B n i then 0 else s + 2 ^ w - mkN B n i) &&& mkN B n i) = nzN B n i s ∧ ((s + 2 ^ w - mkN B n i - 1) &&& mkN B n i) = s ∧ s ≤ mkN B n i ∧ mkN B n i < 2 ^ n
  | 0, i, s, w, _, hs, _ => by
    rw [Nat.pow_zero] at hs
    have : s = 0 := by omega
    subst this
    rw [mkN, nzN, Nat.and_zero, Nat.and_zero]
    exact ⟨rfl, rfl, Nat.le_refl _, by rw [Nat.pow_zero]; omega⟩
  | n + 1, i, s, 0, hw, _, _ => by omega
  | n + 1, i, s, w + 1, hw, hs, hr => by
    have p1 : 2 ^ (n + 1) = 2 * 2 ^ n := by rw [Nat.pow_succ, Nat.mul_comm]
    have p2 : 2 ^ (w + 1) = 2 * 2 ^ w := by rw [Nat.pow_succ, Nat.mul_comm]
    have p3 : 2 ^ n ≤ 2 ^ w := Nat.pow_le_pow_right (by omega) (by omega)
    rw [rsN] at hr
    have hr' : rsN B n (i + 1) (s / 2) = s / 2 := by
      cases hB : B i with
      | true => rw [hB, if_pos rfl] at hr; omega
      | false => rw [hB, if_neg (by decide)] at hr; omega
    obtain ⟨a1, a2, a3, a4⟩ := nx_land B n (i + 1) (s / 2) w (by omega) (by omega) hr'
    rw [p1, p2, mkN, nzN]
    generalize mkN B n (i + 1) = M at *
    generalize nzN B n (i + 1) (s / 2) = Z at *
    generalize 2 ^ w = P at *
    generalize 2 ^ n = Q at *
    by_cases c : B i = true ∧ s % 2 = 0
    · rw [if_pos c.1, if_pos c, if_neg (by omega)]
      refine ⟨?_, ?_, by omega, by omega⟩
      · rw [land2, show (s + 2 * P - (1 + 2 * M)) / 2 = s / 2 + P - M - 1 by omega, show (1 + 2 * M) / 2 = M by omega, a2, show (s + 2 * P - (1 + 2 * M)) % 2 = 1 by omega, show (1 + 2 * M) % 2 = 1 by omega]
        omega
      · rw [land2, show (s + 2 * P - (1 + 2 * M) - 1) / 2 = s / 2 + P - M - 1 by omega, show (1 + 2 * M) / 2 = M by omega, a2, show (s + 2 * P - (1 + 2 * M) - 1) % 2 = 0 by omega, Nat.zero_mul]
        omega
    · rw [if_neg c]
      have eb : (if B i = true then 1 else 0) = s % 2 := by
        cases hB : B i with
        | true =>
          rw [if_pos rfl]
          have : ¬ s % 2 = 0 := fun z => c ⟨hB, z⟩
          omega
        | false =>
          rw [hB, if_neg (by decide)] at hr
          rw [if_neg (by decide)]
          omega
      rw [eb]
      refine ⟨?_, ?_, by omega, by omega⟩
      · rw [land2, show (s % 2 + 2 * M) / 2 = M by omega]
        by_cases q : s / 2 = M
        · rw [if_pos (show s = s % 2 + 2 * M by omega)]
          rw [if_pos q] at a1
          rw [Nat.zero_div, a1, Nat.zero_mod, Nat.zero_mul, Nat.add_zero]
        · rw [if_neg (show ¬ s = s % 2 + 2 * M by omega)]
          rw [if_neg q] at a1
          rw [show (s + 2 * P - (s % 2 + 2 * M)) / 2 = s / 2 + P - M by omega, a1, show (s + 2 * P - (s % 2 + 2 * M)) % 2 = 0 by omega, Nat.zero_mul, Nat.add_zero]
      · rw [land2, show (s % 2 + 2 * M) / 2 = M by omega, show (s + 2 * P - (s % 2 + 2 * M) - 1) / 2 = s / 2 + P - M - 1 by omega, a2, show (s + 2 * P - (s % 2 + 2 * M) - 1) % 2 = 1 by omega, Nat.one_mul, show (s % 2 + 2 * M) % 2 = s % 2 by omega]
        omega
theorem nI_bv (n : Nat) : (nI n).toBitVec = BitVec.ofNat 32 n := rfl
theorem bt_nI {s p : Nat} (hp : p < 32) : bt (nI s) p = s.testBit p := by
  unfold bt
  rw [nI_bv, BitVec.getLsbD_ofNat, decide_eq_true hp, Bool.true_and]
theorem nx_v {s M Z : Nat} (h1 : s < 65536) (a1 : ((if s = M then 0 else s + 4294967296 - M) &&& M) = Z) (a3 : s ≤ M) (a4 : M < 65536) : (nI s - nI M) &&& nI M = nI Z := by
  have hz : Z ≤ M := by rw [← a1]; exact Nat.and_le_right
  refine Int32.toBitVec_inj.mp (BitVec.eq_of_toNat_eq ?_)
  rw [Int32.toBitVec_and, Int32.toBitVec_sub, nI_bv, nI_bv, nI_bv, BitVec.toNat_and, BitVec.toNat_sub, BitVec.toNat_ofNat, BitVec.toNat_ofNat, BitVec.toNat_ofNat, show 2 ^ 32 = 4294967296 from rfl, Nat.mod_eq_of_lt (show s < 4294967296 by omega), Nat.mod_eq_of_lt (show M < 4294967296 by omega), Nat.mod_eq_of_lt (show Z < 4294967296 by omega), ← a1]
  congr 1
  by_cases q : s = M
  · rw [if_pos q]
    omega
  · rw [if_neg q]
    omega
theorem nx_g {B : Nat → Bool} {n s : Nat} (hn : n = 16) (hs : s ∈ sbL B n 0) : (nI s - nI (mkN B n 0)) &&& nI (mkN B n 0) = nI (nzN B n 0 s) := by
  obtain ⟨h1, h2⟩ := (sb_mem B n 0 s).mp hs
  have a := nx_land B n 0 s 32 (by omega) h1 h2
  have e : 2 ^ n = 65536 := by rw [hn]
  rw [e] at h1 a
  have e32 : 2 ^ 32 = 4294967296 := rfl
  rw [e32] at a
  exact nx_v h1 a.1 a.2.2.1 a.2.2.2
theorem nx_i {B : Nat → Bool} {s : Nat} (hs : s ∈ sbL B 16 0) : (nI s - nI (mkN B 16 0)) &&& nI (mkN B 16 0) = nI (nzN B 16 0 s) := nx_g rfl hs
theorem mk_bit (B : Nat → Bool) : ∀ n i p, p < n → (mkN B n i).testBit p = B (i + p)
  | 0, _, p, h => by omega
  | n + 1, i, 0, _ => by
    rw [mkN, Nat.testBit_zero, Nat.add_zero]
    cases B i with
    | true => rw [if_pos rfl]; exact decide_eq_true (by omega)
    | false => rw [if_neg (by decide)]; exact decide_eq_false (by omega)
  | n + 1, i, p + 1, h => by
    rw [Nat.testBit_succ]
    have : mkN B (n + 1) i / 2 = mkN B n (i + 1) := by rw [mkN]; split <;> omega
    rw [this, mk_bit B n (i + 1) p (by omega), show i + 1 + p = i + (p + 1) by omega]
theorem mk_lt (B : Nat → Bool) : ∀ n i, mkN B n i < 2 ^ n
  | 0, _ => by rw [mkN, Nat.pow_zero]; omega
  | n + 1, i => by
    have := mk_lt B n (i + 1)
    rw [mkN, Nat.pow_succ]
    split <;> omega
theorem el_lt (B : Nat → Bool) : ∀ n i c, elN B n i c < 2 ^ n
  | 0, _, _ => by rw [elN, Nat.pow_zero]; omega
  | n + 1, i, c => by
    have h1 := el_lt B n (i + 1) (c / 2)
    have h2 := el_lt B n (i + 1) c
    rw [elN, Nat.pow_succ]
    split <;> omega
theorem hi_bit {s p : Nat} (hs : s < 65536) (hp : 16 ≤ p) : s.testBit p = false := Nat.testBit_lt_two_pow (Nat.lt_of_lt_of_le (show s < 2 ^ 16 from hs) (Nat.pow_le_pow_right (by omega) hp))
theorem mk_i {B : Nat → Bool} {x : Int32} (h : ∀ p, p < 32 → bt x p = (decide (p < 16) && B p)) : x = nI (mkN B 16 0) := b_ext fun p hp => by
  rw [h p hp, bt_nI hp]
  by_cases q : p < 16
  · rw [decide_eq_true q, Bool.true_and, mk_bit B 16 0 p q, Nat.zero_add]
  · rw [decide_eq_false q, Bool.false_and, hi_bit (mk_lt B 16 0) (by omega)]
theorem el_i {B : Nat → Bool} {c : Nat} {x : Int32} (h : ∀ p, p < 32 → bt x p = (decide (p < 16) && (B p && c.testBit (flF B p 0).length))) : x = nI (elN B 16 0 c) := b_ext fun p hp => by
  rw [h p hp, bt_nI hp]
  by_cases q : p < 16
  · rw [decide_eq_true q, Bool.true_and, el_bit B 16 0 c p q, Nat.zero_add]
  · rw [decide_eq_false q, Bool.false_and, hi_bit (el_lt B 16 0 c) (by omega)]
theorem pc_and : ∀ n s, s < 2 ^ n → ¬ s = 0 → pcN n (s &&& (s - 1)) + 1 = pcN n s ∧ (s &&& (s - 1)) < s
  | 0, s, h, h0 => by rw [Nat.pow_zero] at h; omega
  | n + 1, s, h, h0 => by
    rw [Nat.pow_succ] at h
    have ep : ∀ x, pcN (n + 1) x = x % 2 + pcN n (x / 2) := fun _ => rfl
    have e := land2 s (s - 1)
    by_cases c : s % 2 = 1
    · rw [show (s - 1) / 2 = s / 2 by omega, Nat.and_self, show (s - 1) % 2 = 0 by omega, Nat.mul_zero] at e
      rw [e, ep, ep, show (2 * (s / 2) + 0) % 2 = 0 by omega, show (2 * (s / 2) + 0) / 2 = s / 2 by omega]
      omega
    · obtain ⟨i1, i2⟩ := pc_and n (s / 2) (by omega) (by omega)
      rw [show (s - 1) / 2 = s / 2 - 1 by omega, show s % 2 = 0 by omega, Nat.zero_mul] at e
      rw [e, ep, ep]
      generalize s / 2 &&& s / 2 - 1 = u at *
      rw [show (2 * u + 0) % 2 = 0 by omega, show (2 * u + 0) / 2 = u by omega]
      omega
theorem zm_bits_4 (h : ax_H) : ∀ (m s a : Nat), s ≤ m → s < 65536 → M_bits_4 (nI a) (nI s) h = some (nI (a + pcN 16 s), h)
  | m, s, a, hm, hs => by
    rw [M_bits_4_eq]
    by_cases q : s = 0
    · subst q
      rw [if_pos (by decide)]
      rfl
    · rw [if_neg (by rw [decide_eq_true_eq, nI_eq0 (by omega)]; exact q)]
      obtain ⟨h1, h2⟩ := pc_and 16 s hs q
      have e : nI s &&& (nI s - 1) = nI (s &&& (s - 1)) := by
        refine Int32.toBitVec_inj.mp (BitVec.eq_of_toNat_eq ?_)
        rw [Int32.toBitVec_and, Int32.toBitVec_sub, nI_bv, nI_bv, show (1 : Int32).toBitVec = BitVec.ofNat 32 1 from rfl, BitVec.toNat_and, BitVec.toNat_sub, BitVec.toNat_ofNat, BitVec.toNat_ofNat, BitVec.toNat_ofNat, show 2 ^ 32 = 4294967296 from rfl, Nat.mod_eq_of_lt (show s < 4294967296 by omega), Nat.mod_eq_of_lt (show (s &&& (s - 1)) < 4294967296 by omega)]
        congr 1
        omega
      match m, hm with
      | 0, hm => omega
      | m + 1, hm => rw [e, nJ_p1, zm_bits_4 h m _ (a + 1) (by omega) (by omega), ← h1, show a + 1 + pcN 16 (s &&& (s - 1)) = a + (pcN 16 (s &&& (s - 1)) + 1) by omega]
theorem zm_bits (h : ax_H) {s : Nat} (hs : s < 65536) : M_bits (nI s) h = some (nI (pcN 16 s), h) := by
  have := zm_bits_4 h s s 0 (Nat.le_refl _) hs
  rw [Nat.zero_add] at this
  rw [M_bits_eq]
  exact this
