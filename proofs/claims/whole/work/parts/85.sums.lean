/-! the sums of a fit: the class's addUp -/
def S155 (a _k : Nat) : Bool := decide (a = 155)
theorem S155_c {h h' : ax_H} (q : fr S155 h h') : fr Sc h h' := fr_le q fun a k z => by simp only [Sc, S155, decide_eq_false_iff_not] at z ⊢; omega
theorem z_cs_2 : ∀ (m k : Nat) (h : ax_H), k + m = 13 → ok h → ∃ h', Ft_clearSum_2 99 (nI k) h = some h' ∧ fr S155 h h' ∧ ∀ j, j < 13 → gL h' 155 j = if k ≤ j then 0 else gL h 155 j := by
  intro m
  induction m with
  | zero =>
    intro k h hk w
    have : k = 13 := by omega
    subst this
    refine ⟨h, ?_, fr_rf _ _, fun j hj => by rw [if_neg (by omega)]⟩
    have h13 : (13 : Int32) ≤ nI 13 := by decide
    rw [Ft_clearSum_2_eq]
    simp only [h13, decide_true, ↓reduceIte]
  | succ m ih =>
    intro k h hk w
    have hle : ¬ (13 : Int32) ≤ nI k := by rw [show (13 : Int32) = nI 13 from rfl, nJ_le (by omega) (by omega)]; omega
    have tk : (nI k).toNatClampNeg = k := nJ_n (by omega)
    have nk : ¬ nI k < 0 := nJ_nn (by omega)
    have hk13 : k < 13 := by omega
    obtain ⟨h', r1, r2, r3⟩ := ih (k + 1) (pL h 155 k 0) (by omega) (ok_pL w _ _ _)
    obtain ⟨wS, wR, wG, wN⟩ := w
    refine ⟨h', ?_, fr_tr (fr_pL rfl) r2, fun j hj => ?_⟩
    · rw [← r1, Ft_clearSum_2_eq]
      simp only [gI_pI, gI_pL, gI_pR, gL_pI, gL_pL, gL_pR, gR_pI, gR_pL, gR_pR, gS_pI, gS_pL, gS_pR, ↓reduceIte, Nat.reduceEqDiff, decide_eq_true_eq, Option.bind_some, false_and, and_false, true_and, and_true, and_self, Nat.reduceAdd, not_false_eq_true, not_true_eq_false, wS, wR, inI, ite_self, Classical.not_not, hle, ax_in, tk, nk, hk13, nJ_p1]
    · rw [r3 j hj]
      by_cases q : j = k
      · subst q
        rw [if_neg (by omega), if_pos (Nat.le_refl _), gL_pL, if_pos ⟨rfl, rfl⟩]
      · by_cases q2 : k ≤ j
        · rw [if_pos (by omega), if_pos q2]
        · rw [if_neg (by omega), if_neg q2, gL_pL, if_neg (fun z => q z.2)]
theorem z_clearSum {h : ax_H} (w : ok h) : ∃ h', Ft_clearSum 99 h = some h' ∧ fr S155 h h' ∧ ∀ j, j < 13 → gL h' 155 j = 0 := by
  obtain ⟨h', r1, r2, r3⟩ := z_cs_2 13 0 h (by omega) w
  exact ⟨h', by rw [Ft_clearSum_eq]; exact r1, r2, fun j hj => by rw [r3 j hj, if_pos (Nat.zero_le _)]⟩
/-- a row's part of the sums -/
def rvZ (G : Nat → Int) (d : Int) (k : Nat) : Int := if k % 4 = 3 then G (k / 4) * d else if k / 4 ≤ k % 4 then G (k / 4) * G (k % 4) else 0
def RR (h : ax_H) (n r : Nat) (G : Nat → Int) (d : Int) : Prop := gI h 99 4 = nI n ∧ (∀ j, j < n → gI h 103 (3 * r + j) = Int32.ofInt (G j)) ∧ gI h 105 r = Int32.ofInt d
theorem RR_fr {h h' : ax_H} (q : fr S155 h h') {n r : Nat} {G : Nat → Int} {d : Int} (p : RR h n r G d) : RR h' n r G d := ⟨(fr_I q rfl).trans p.1, fun j hj => (fr_I q rfl).trans (p.2.1 j hj), (fr_I q rfl).trans p.2.2⟩
section
theorem z_ar_28 {n r : Nat} (hn : n ≤ 3) (hr : r < 200) {G : Nat → Int} (hG : ∀ j, -81 ≤ G j ∧ G j ≤ 81) {d : Int} (hd : -1000000 ≤ d ∧ d ≤ 1000000) {i : Nat} (hi : i < n) : ∀ (m j : Nat) (h : ax_H), j + m = n → i ≤ j → ok h → RR h n r G d → ∃ h', Ft_addRow_28 99 (nI r) (nI (3 * r)) (nI i) (Int64.ofInt (G i)) (nI j) h = Ft_addRow_6 99 (nI r) (nI (3 * r)) (nI (i + 1)) h' ∧ fr S155 h h' ∧ ∀ k, k < 13 → gL h' 155 k = gL h 155 k + Int64.ofInt (if k = 4 * i + 3 then G i * d else if 4 * i + j ≤ k ∧ k < 4 * i + n then G i * G (k - 4 * i) else 0) := by
  intro m
  induction m with
  | zero =>
    intro j h hj hij w hR
    obtain ⟨wS, wR, wG, wN⟩ := w
    obtain ⟨r1, r2, r3⟩ := hR
    have hle : nI n ≤ nI j := by rw [nJ_le (by omega) (by omega)]; omega
    have e3 : nI i * 4 + 3 = nI (4 * i + 3) := by
      rw [show (4 : Int32) = nI 4 from rfl, show (3 : Int32) = nI 3 from rfl, pk_mul, nI_add]
      congr 1; omega
    have tx : (nI (4 * i + 3)).toNatClampNeg = 4 * i + 3 := nJ_n (by omega)
    have nx : ¬ nI (4 * i + 3) < 0 := nJ_nn (by omega)
    have hx : 4 * i + 3 < 13 := by omega
    have tr : (nI r).toNatClampNeg = r := nJ_n (by omega)
    have nr : ¬ nI r < 0 := nJ_nn (by omega)
    have ed : Int64.ofInt (G i) * (Int32.ofInt d).toInt64 = Int64.ofInt (G i * d) := by rw [i_toL (by omega), ← Int64.ofInt_mul]
    refine ⟨pL h 155 (4 * i + 3) (gL h 155 (4 * i + 3) + Int64.ofInt (G i * d)), ?_, fr_pL rfl, fun k hk => ?_⟩
    · rw [Ft_addRow_28_eq]
      try simp only [wS, wR, ↓reduceIte]
      simp only [gI_pI, gI_pL, gI_pR, gL_pI, gL_pL, gL_pR, gR_pI, gR_pL, gR_pR, gS_pI, gS_pL, gS_pR, ↓reduceIte, Nat.reduceEqDiff, decide_eq_true_eq, Option.bind_some, false_and, and_false, true_and, and_true, and_self, Nat.reduceAdd, not_false_eq_true, not_true_eq_false, wS, wR, inI, ite_self, Classical.not_not, r1, hle, ax_in, e3, tx, nx, hx, tr, nr, hr, r3, ed, nJ_p1]
    · rw [gL_pL]
      by_cases q : k = 4 * i + 3
      · rw [if_pos ⟨rfl, q⟩, if_pos q, q]
      · rw [if_neg (fun z => q z.2), if_neg q, if_neg (by omega)]
        exact (Int64.add_zero _).symm
  | succ m ih =>
    intro j h hj hij w hR
    have w0 := w
    obtain ⟨wS, wR, wG, wN⟩ := w
    have hR0 := hR
    obtain ⟨r1, r2, r3⟩ := hR
    have hle : ¬ nI n ≤ nI j := by rw [nJ_le (by omega) (by omega)]; omega
    have e3 : nI i * 4 + nI j = nI (4 * i + j) := by
      rw [show (4 : Int32) = nI 4 from rfl, pk_mul, nI_add]
      congr 1; omega
    have tx : (nI (4 * i + j)).toNatClampNeg = 4 * i + j := nJ_n (by omega)
    have nx : ¬ nI (4 * i + j) < 0 := nJ_nn (by omega)
    have hx : 4 * i + j < 13 := by omega
    have ty : (nI (3 * r + j)).toNatClampNeg = 3 * r + j := nJ_n (by omega)
    have ny : ¬ nI (3 * r + j) < 0 := nJ_nn (by omega)
    have hy : 3 * r + j < 600 := by omega
    have gj := r2 j (by omega)
    have bj := hG j
    have ed : Int64.ofInt (G i) * (Int32.ofInt (G j)).toInt64 = Int64.ofInt (G i * G j) := by rw [i_toL (by omega), ← Int64.ofInt_mul]
    obtain ⟨h1, hh1⟩ : ∃ h1, h1 = pL h 155 (4 * i + j) (gL h 155 (4 * i + j) + Int64.ofInt (G i * G j)) := ⟨_, rfl⟩
    have F1 : fr S155 h h1 := by rw [hh1]; exact fr_pL rfl
    obtain ⟨h', s1, s2, s3⟩ := ih (j + 1) h1 (by omega) (by omega) (ok_fr F1 w0) (RR_fr F1 hR0)
    refine ⟨h', ?_, fr_tr F1 s2, fun k hk => ?_⟩
    · rw [← s1, Ft_addRow_28_eq]
      try simp only [wS, wR, ↓reduceIte]
      simp only [gI_pI, gI_pL, gI_pR, gL_pI, gL_pL, gL_pR, gR_pI, gR_pL, gR_pR, gS_pI, gS_pL, gS_pR, ↓reduceIte, Nat.reduceEqDiff, decide_eq_true_eq, Option.bind_some, false_and, and_false, true_and, and_true, and_self, Nat.reduceAdd, not_false_eq_true, not_true_eq_false, wS, wR, inI, ite_self, Classical.not_not, r1, hle, ax_in, e3, tx, nx, hx, nI_add, ty, ny, hy, gj, ed, nJ_p1, ← hh1]
    · rw [s3 k hk, hh1, gL_pL]
      by_cases q : k = 4 * i + j
      · rw [if_pos ⟨rfl, q⟩, if_neg (show ¬ k = 4 * i + 3 by omega), if_neg (by omega), if_neg (show ¬ k = 4 * i + 3 by omega), if_pos (by omega), q, show 4 * i + j - 4 * i = j by omega]
        exact Int64.add_zero _
      · rw [if_neg (fun z => q z.2)]
        by_cases q2 : k = 4 * i + 3
        · rw [if_pos q2, if_pos q2]
        · rw [if_neg q2, if_neg q2]
          by_cases q3 : 4 * i + j ≤ k ∧ k < 4 * i + n
          · rw [if_pos (by omega), if_pos q3]
          · rw [if_neg (by omega), if_neg q3]
theorem z_ar_6 {n r : Nat} (hn : n ≤ 3) (hr : r < 200) {G : Nat → Int} (hG : ∀ j, -81 ≤ G j ∧ G j ≤ 81) {d : Int} (hd : -1000000 ≤ d ∧ d ≤ 1000000) (hz : ∀ j, n ≤ j → G j = 0) : ∀ (m i : Nat) (h : ax_H), i + m = n → ok h → RR h n r G d → ∃ h', Ft_addRow_6 99 (nI r) (nI (3 * r)) (nI i) h = some h' ∧ fr S155 h h' ∧ ∀ k, k < 13 → gL h' 155 k = gL h 155 k + Int64.ofInt (if 4 * i ≤ k then rvZ G d k else 0) := by
  intro m
  induction m with
  | zero =>
    intro i h hi w hR
    obtain ⟨wS, wR, wG, wN⟩ := w
    have hle : nI n ≤ nI i := by rw [nJ_le (by omega) (by omega)]; omega
    have r1 := hR.1
    refine ⟨h, ?_, fr_rf _ _, fun k hk => ?_⟩
    · rw [Ft_addRow_6_eq]
      simp only [gI_pI, gI_pL, gI_pR, gL_pI, gL_pL, gL_pR, gR_pI, gR_pL, gR_pR, gS_pI, gS_pL, gS_pR, ↓reduceIte, Nat.reduceEqDiff, decide_eq_true_eq, Option.bind_some, false_and, and_false, true_and, and_true, and_self, Nat.reduceAdd, not_false_eq_true, not_true_eq_false, wS, wR, inI, ite_self, Classical.not_not, r1, hle]
    · have : (if 4 * i ≤ k then rvZ G d k else 0) = 0 := by
        split
        · unfold rvZ
          rw [hz (k / 4) (by omega), Int.zero_mul, Int.zero_mul]
          split
          · rfl
          · split <;> rfl
        · rfl
      rw [this]
      exact (Int64.add_zero _).symm
  | succ m ih =>
    intro i h hi w hR
    have w0 := w
    obtain ⟨wS, wR, wG, wN⟩ := w
    have hR0 := hR
    obtain ⟨r1, r2, r3⟩ := hR
    have hle : ¬ nI n ≤ nI i := by rw [nJ_le (by omega) (by omega)]; omega
    have ty : (nI (3 * r + i)).toNatClampNeg = 3 * r + i := nJ_n (by omega)
    have ny : ¬ nI (3 * r + i) < 0 := nJ_nn (by omega)
    have hy : 3 * r + i < 600 := by omega
    have gj := r2 i (by omega)
    have bj := hG i
    have ed : (Int32.ofInt (G i)).toInt64 = Int64.ofInt (G i) := i_toL (by omega)
    obtain ⟨h1, s1, s2, s3⟩ := z_ar_28 hn hr hG hd (i := i) (by omega) (n - i) i h (by omega) (Nat.le_refl _) w0 hR0
    obtain ⟨h', t1, t2, t3⟩ := ih (i + 1) h1 (by omega) (ok_fr s2 w0) (RR_fr s2 hR0)
    refine ⟨h', ?_, fr_tr s2 t2, fun k hk => ?_⟩
    · rw [← t1, ← s1, Ft_addRow_6_eq]
      simp only [gI_pI, gI_pL, gI_pR, gL_pI, gL_pL, gL_pR, gR_pI, gR_pL, gR_pR, gS_pI, gS_pL, gS_pR, ↓reduceIte, Nat.reduceEqDiff, decide_eq_true_eq, Option.bind_some, false_and, and_false, true_and, and_true, and_self, Nat.reduceAdd, not_false_eq_true, not_true_eq_false, wS, wR, inI, ite_self, Classical.not_not, r1, hle, ax_in, nI_add, ty, ny, hy, gj, ed]
    · rw [t3 k hk, s3 k hk, Int64.add_assoc, ← Int64.ofInt_add]
      congr 2
      by_cases q : 4 * i ≤ k
      · rw [if_pos q]
        by_cases q2 : 4 * (i + 1) ≤ k
        · rw [if_pos q2, if_neg (by omega), if_neg (by omega), Int.zero_add]
        · rw [if_neg q2, Int.add_zero]
          have e4 : k / 4 = i := by omega
          have e5 : k % 4 = k - 4 * i := by omega
          unfold rvZ
          rw [e4, e5]
          by_cases q3 : k = 4 * i + 3
          · rw [if_pos q3, if_pos (show k - 4 * i = 3 by omega)]
          · rw [if_neg q3, if_neg (show ¬ k - 4 * i = 3 by omega)]
            by_cases q4 : 4 * i + i ≤ k ∧ k < 4 * i + n
            · rw [if_pos q4, if_pos (show i ≤ k - 4 * i by omega)]
            · rw [if_neg q4]
              by_cases q5 : i ≤ k - 4 * i
              · rw [if_pos q5, hz (k - 4 * i) (by omega), Int.mul_zero]
              · rw [if_neg q5]
      · rw [if_neg q, if_neg (by omega), if_neg (by omega), if_neg (by omega)]
        rfl
theorem z_addRow {n r : Nat} (hn : n ≤ 3) (hr : r < 200) {G : Nat → Int} (hG : ∀ j, -81 ≤ G j ∧ G j ≤ 81) {d : Int} (hd : -1000000 ≤ d ∧ d ≤ 1000000) (hz : ∀ j, n ≤ j → G j = 0) {h : ax_H} (w : ok h) (hR : RR h n r G d) : ∃ h', Ft_addRow 99 (nI r) h = some h' ∧ fr S155 h h' ∧ ∀ k, k < 13 → gL h' 155 k = gL h 155 k + Int64.ofInt (rvZ G d k) := by
  obtain ⟨h', r1, r2, r3⟩ := z_ar_6 hn hr hG hd hz n 0 h (by omega) w hR
  refine ⟨h', ?_, r2, fun k hk => by rw [r3 k hk, if_pos (by omega)]⟩
  have e : nI r * 3 = nI (3 * r) := by rw [show (3 : Int32) = nI 3 from rfl, pk_mul, Nat.mul_comm]
  rw [Ft_addRow_eq, e]
  exact r1
end
def Sad (x a _k : Nat) : Bool := decide (a = x)
theorem z_as_2 {x y : Nat} (hxy : x ≠ y) : ∀ (m k : Nat) (h : ax_H), k + m = 13 → gS h x = (17, 13) → gS h y = (17, 13) → ∃ h', Ft_addSum_2 x y (nI k) h = some h' ∧ fr (Sad x) h h' ∧ ∀ j, j < 13 → gL h' x j = if k ≤ j then gL h x j + gL h y j else gL h x j := by
  intro m
  induction m with
  | zero =>
    intro k h hk s1 s2
    have : k = 13 := by omega
    subst this
    refine ⟨h, ?_, fr_rf _ _, fun j hj => by rw [if_neg (by omega)]⟩
    have h13 : (13 : Int32) ≤ nI 13 := by decide
    rw [Ft_addSum_2_eq]
    simp only [h13, decide_true, ↓reduceIte]
  | succ m ih =>
    intro k h hk s1 s2
    have hle : ¬ (13 : Int32) ≤ nI k := by rw [show (13 : Int32) = nI 13 from rfl, nJ_le (by omega) (by omega)]; omega
    have tk : (nI k).toNatClampNeg = k := nJ_n (by omega)
    have nk : ¬ nI k < 0 := nJ_nn (by omega)
    have hk13 : k < 13 := by omega
    obtain ⟨h', r1, r2, r3⟩ := ih (k + 1) (pL h x k (gL h x k + gL h y k)) (by omega) s1 s2
    refine ⟨h', ?_, fr_tr (fr_pL (by simp [Sad])) r2, fun j hj => ?_⟩
    · rw [← r1, Ft_addSum_2_eq]
      simp only [hle, decide_false, Bool.false_eq_true, ↓reduceIte, ax_in, s1, s2, tk, nk, hk13, not_false_eq_true, and_self, nJ_p1]
    · rw [r3 j hj, gL_pL, gL_pL]
      by_cases q : j = k
      · subst q
        rw [if_neg (by omega), if_pos ⟨rfl, rfl⟩, if_pos (Nat.le_refl _)]
      · simp only [q, and_false, ↓reduceIte]
        by_cases q2 : k ≤ j
        · rw [if_pos (by omega), if_pos q2]
        · rw [if_neg (by omega), if_neg q2]
theorem z_addSum {x y : Nat} (hxy : x ≠ y) {h : ax_H} (s1 : gS h x = (17, 13)) (s2 : gS h y = (17, 13)) : ∃ h', Ft_addSum x y h = some h' ∧ fr (Sad x) h h' ∧ ∀ j, j < 13 → gL h' x j = gL h x j + gL h y j := by
  obtain ⟨h', r1, r2, r3⟩ := z_as_2 hxy 13 0 h (by omega) s1 s2
  exact ⟨h', by rw [Ft_addSum_eq]; exact r1, r2, fun j hj => by rw [r3 j hj, if_pos (Nat.zero_le _)]⟩
