/-! right: drawn worlds; the class's -/
def nxS (s : Int) : Int := (s * 1103515245 + 12345) % 2147483648
def itS : Nat → Int → Int
  | 0, s => s
  | n + 1, s => nxS (itS n s)
def slZ (s : Int) (c : Nat) : Int := (s / 65536) % (2 * (c : Int) + 1) - (c : Int)
theorem nxS_bd (s : Int) : 0 ≤ nxS s ∧ nxS s < 2147483648 := by unfold nxS; omega
theorem itS_bd {s : Int} (h : 0 ≤ s ∧ s < 2147483648) : ∀ n, 0 ≤ itS n s ∧ itS n s < 2147483648
  | 0 => h
  | _ + 1 => nxS_bd _
theorem itS_add (s : Int) (a : Nat) : ∀ b, itS (a + b) s = itS b (itS a s)
  | 0 => rfl
  | b + 1 => congrArg nxS (itS_add s a b)
theorem slZ_bd (s : Int) {c : Nat} (hc : c ≤ 99) : -99 ≤ slZ s c ∧ slZ s c ≤ 99 := by
  unfold slZ
  have h1 := Int.emod_nonneg (s / 65536) (show (2 * (c : Int) + 1) ≠ 0 by omega)
  have h2 := Int.emod_lt_of_pos (s / 65536) (show 0 < 2 * (c : Int) + 1 by omega)
  omega
theorem l_mod {a b : Int} (ha : 0 ≤ a ∧ a ≤ 9223372036854775807) (hb : 0 < b ∧ b ≤ 9223372036854775807) : Int64.ofInt a - Int64.ofInt a / Int64.ofInt b * Int64.ofInt b = Int64.ofInt (a % b) := by
  rw [l_tdiv (by omega) (by omega), ← Int64.ofInt_mul, ← Int64.ofInt_sub, Int.tdiv_eq_ediv_of_nonneg ha.1]
  congr 1
  have := Int.mul_ediv_add_emod a b
  rw [Int.mul_comm] at this
  omega
theorem slip_eq {s : Int} (hs : 0 ≤ s ∧ s < 2147483648) {c : Nat} (hc : c ≤ 99) : Int64.toInt32 (Int64.ofInt s / 65536 - Int64.ofInt s / 65536 / (((2 : Int32) * nI c) + 1).toInt64 * (((2 : Int32) * nI c) + 1).toInt64) - nI c = Int32.ofInt (slZ s c) := by
  have e1 : ((2 : Int32) * nI c) + 1 = nI (2 * c + 1) := by rw [show (2 : Int32) = nI 2 from rfl, pk_mul, nJ_p1]
  have e2 : (nI (2 * c + 1)).toInt64 = Int64.ofInt (2 * (c : Int) + 1) := by rw [i_L, nJ_i (by omega)]; rfl
  have e3 : Int64.ofInt s / 65536 = Int64.ofInt (s / 65536) := by
    rw [show (65536 : Int64) = Int64.ofInt 65536 from rfl, l_tdiv (by omega) (by omega), Int.tdiv_eq_ediv_of_nonneg hs.1]
  have h1 := Int.emod_nonneg (s / 65536) (show (2 * (c : Int) + 1) ≠ 0 by omega)
  have h2 := Int.emod_lt_of_pos (s / 65536) (show 0 < 2 * (c : Int) + 1 by omega)
  rw [e1, e2, e3, l_mod (by omega) (by omega), l_i32 (by omega), nI_ofI (by omega), ← Int32.ofInt_sub]
  rfl
theorem seed_eq {s : Int} (hs : 0 ≤ s ∧ s < 2147483648) : (Int64.ofInt s * 1103515245 + 12345) - (Int64.ofInt s * 1103515245 + 12345) / 2147483648 * 2147483648 = Int64.ofInt (nxS s) := by
  have e1 : Int64.ofInt s * 1103515245 + 12345 = Int64.ofInt (s * 1103515245 + 12345) := by
    rw [Int64.ofInt_add, Int64.ofInt_mul]
    rfl
  rw [e1, show (2147483648 : Int64) = Int64.ofInt 2147483648 from rfl, l_mod (by omega) (by omega)]
  rfl
theorem z_drawSlip {h : ax_H} (w : ok h) {s : Int} (hs : 0 ≤ s ∧ s < 2147483648) (hg : gL h 99 14 = Int64.ofInt s) {c : Nat} (hc : c ≤ 99) : Ft_drawSlip 99 (nI c) h = some (Int32.ofInt (slZ (nxS s) c), pL h 99 14 (Int64.ofInt (nxS s))) := by
  obtain ⟨wS, wR, wG, wN⟩ := w
  have e1 : ((2 : Int32) * nI c) + 1 = nI (2 * c + 1) := by rw [show (2 : Int32) = nI 2 from rfl, pk_mul, nJ_p1]
  have c1 : (0 : Int32) < ((2 : Int32) * nI c) + 1 := by rw [e1, show (0 : Int32) = nI 0 from rfl, nJ_lt (by omega) (by omega)]; omega
  have c2 : ¬ (((2 : Int32) * nI c) + 1).toInt64 = 0 := fun z => by
    have := congrArg Int64.toInt z
    rw [Int32.toInt_toInt64, e1, nJ_i (by omega), show (0 : Int64).toInt = 0 from rfl] at this
    omega
  have k := slip_eq (nxS_bd s) hc
  rw [Ft_drawSlip_eq]
  simp only [wS, ↓reduceIte, hg, seed_eq hs, c1, decide_true, gS_pL, c2, gL_pL, and_self, k]
theorem zm_slipOf {h : ax_H} (w : ok h) {s : Int} (hs : 0 ≤ s ∧ s < 2147483648) (hg : gL h 159 66 = Int64.ofInt s) {c : Nat} (hc : c ≤ 99) : M_slipOf 159 (nI c) h = some (Int32.ofInt (slZ (nxS s) c), pL h 159 66 (Int64.ofInt (nxS s))) := by
  obtain ⟨wS, wR, wG, wN⟩ := w
  have e1 : ((2 : Int32) * nI c) + 1 = nI (2 * c + 1) := by rw [show (2 : Int32) = nI 2 from rfl, pk_mul, nJ_p1]
  have c2 : ¬ (((2 : Int32) * nI c) + 1).toInt64 = 0 := fun z => by
    have := congrArg Int64.toInt z
    rw [Int32.toInt_toInt64, e1, nJ_i (by omega), show (0 : Int64).toInt = 0 from rfl] at this
    omega
  have k := slip_eq (nxS_bd s) hc
  rw [M_slipOf_eq]
  simp only [wS, ↓reduceIte, hg, seed_eq hs, gS_pL, c2, gL_pL, and_self, k]
/-! what is drawn -/
def lwZ (V : BV) (li i ax : Nat) : Int := ((li : Int) * gi V 4 i ax).tdiv 1000
def sgZ (V : BV) (i : Nat) (x : Int) : Int := if V 72 (V 75 i).toInt.toNat = 1 then -x else x
def mwZ (V : BV) (D : WD) (kn : Int32) (li c : Nat) (s : Int) (i ax : Nat) : Int := sgZ V i (lwZ V li i ax + slZ (itS (2 * ixL i (tkL V D kn) + ax + 1) s) c)
theorem lwZ_bd {V : BV} (g : GV V) {li : Nat} (hl : li ≤ 9999) {i : Nat} (hi : i < nM V) (ax : Nat) : (-399 ≤ lwZ V li i ax ∧ lwZ V li i ax ≤ 399) ∧ -399960 ≤ (li : Int) * gi V 4 i ax ∧ (li : Int) * gi V 4 i ax ≤ 399960 := by
  have h1 := gi_bx g (t := 4) (by omega) hi ax
  have h2 : gMx 4 = 40 := rfl
  have h3 := mul_bd (x := (li : Int)) (y := gi V 4 i ax) (k := 9999) (m := 40) (by omega) (by omega)
  unfold lwZ
  generalize (li : Int) * gi V 4 i ax = x at h3 ⊢
  refine ⟨?_, by omega⟩
  by_cases q : 0 ≤ x
  · rw [Int.tdiv_eq_ediv_of_nonneg q]
    omega
  · have e : x = -(-x) := by omega
    rw [e, Int.neg_tdiv, Int.tdiv_eq_ediv_of_nonneg (by omega)]
    omega
theorem mwZ_bd {V : BV} (g : GV V) (D : WD) (kn : Int32) {li c : Nat} (hl : li ≤ 9999) (hc : c ≤ 99) (s : Int) {i : Nat} (hi : i < nM V) (ax : Nat) : -498 ≤ mwZ V D kn li c s i ax ∧ mwZ V D kn li c s i ax ≤ 498 := by
  have h1 := (lwZ_bd g hl hi ax).1
  have h2 := slZ_bd (itS (2 * ixL i (tkL V D kn) + ax + 1) s) hc
  unfold mwZ sgZ
  split <;> omega
theorem ixL_at {V : BV} {D : WD} {kn : Int32} {k i : Nat} (h : (tkL V D kn)[k]? = some i) : ixL i (tkL V D kn) = k := by
  have h2 := ixL_get (List.mem_of_getElem? h)
  rcases Nat.lt_trichotomy (ixL i (tkL V D kn)) k with q | q | q
  · have := flF_inc (nM V) 0 q h2 h; omega
  · exact q
  · have := flF_inc (nM V) 0 q h h2; omega
theorem sv_d {V : BV} {ft : List Nat} {d e : Nat → Nat → Int} {L : List Nat} {k : Nat} (h : ¬ (k % 4 = 3 ∧ k / 4 < ft.length)) : sv V ft d L k = sv V ft e L k := by
  unfold sv
  refine sg_cg fun i _ => ?_
  unfold rowv
  by_cases q : k % 4 = 3
  · have : ft.length ≤ k / 4 := by omega
    rw [gF_no this, gF_no this]
    simp only [Int.zero_mul]
  · rw [if_neg q, if_neg q]
/-! lawful -/
def S106 (a _k : Nat) : Bool := decide (a = 106)
theorem S106_c {h h' : ax_H} (q : fr S106 h h') : fr Sc h h' := fr_le q fun a k z => by simp only [Sc, S106, decide_eq_false_iff_not] at z ⊢; omega
def LAW (h : ax_H) (V0 : BV) (li : Nat) (L : List Nat) (n : Nat) : Prop := ∀ r, r < n → ∀ i, L[r / 2]? = some i → gI h 106 r = Int32.ofInt (lwZ V0 li i (r % 2))
theorem lsP_fr {S : Nat → Nat → Bool} {h h' : ax_H} (q : fr S h h') (z1 : S 99 0 = false) (z2 : ∀ k, S 100 k = false) {L : List Nat} (p : lsP h L) : lsP h' L := ⟨(fr_I q z1).trans p.1, fun k x z => (fr_I q (z2 k)).trans (p.2 k x z)⟩
theorem z_ml_2 {li : Nat} (hli : li ≤ 9999) {L : List Nat} (hL : L.length ≤ 100) : ∀ (m r : Nat) (h : ax_H), r + m = 2 * L.length → ok h → GV (V h) → lsP h L → (∀ i ∈ L, i < nM (V h)) → LAW h (V h) li L r → ∃ h', Ft_makeLawful_2 99 65 (nI li) (nI r) h = some h' ∧ fr S106 h h' ∧ LAW h' (V h) li L (2 * L.length) := by
  intro m
  induction m with
  | zero =>
    intro r h hr w g hl hLn hw
    have e : r = 2 * L.length := by omega
    subst e
    obtain ⟨wS, wR, wG, wN⟩ := w
    have e2 : (2 : Int32) * nI L.length = nI (2 * L.length) := by rw [show (2 : Int32) = nI 2 from rfl, pk_mul]
    have hle : nI (2 * L.length) ≤ nI (2 * L.length) := Int32.le_refl _
    refine ⟨h, ?_, fr_rf _ _, hw⟩
    rw [Ft_makeLawful_2_eq]
    simp only [wS, ↓reduceIte, hl.1, e2, hle, decide_true]
  | succ m ih =>
    intro r h hr w g hl hLn hw
    have w0 := w
    obtain ⟨wS, wR, wG, wN⟩ := w
    have e2 : (2 : Int32) * nI L.length = nI (2 * L.length) := by rw [show (2 : Int32) = nI 2 from rfl, pk_mul]
    have hle : ¬ nI (2 * L.length) ≤ nI r := by rw [nJ_le (by omega) (by omega)]; omega
    have d1 : nI r / 2 = nI (r / 2) := by rw [show (2 : Int32) = nI 2 from rfl, pk_div (by omega) (by omega) (by omega)]
    have d2 : nI r - nI r / 2 * 2 = nI (r % 2) := by rw [show (2 : Int32) = nI 2 from rfl, pk_rem (by omega) (by omega) (by omega)]
    rw [d1] at d2
    have tk : (nI (r / 2)).toNatClampNeg = r / 2 := nJ_n (by omega)
    have nk : ¬ nI (r / 2) < 0 := nJ_nn (by omega)
    have hk : r / 2 < 100 := by omega
    have tr : (nI r).toNatClampNeg = r := nJ_n (by omega)
    have nr : ¬ nI r < 0 := nJ_nn (by omega)
    have hr2 : r < 200 := by omega
    have hi : L[r / 2]? = some L[r / 2] := List.getElem?_eq_getElem (by omega)
    have v1 := hl.2 _ _ hi
    have hn := hLn L[r / 2] (List.getElem_mem (by omega))
    have hT := z_termOf w0 g (t := 4) (ax := r % 2) (by omega) hn (by omega)
    have bd := lwZ_bd g hli hn (r % 2)
    have e3 : nI li * Int32.ofInt (gi (V h) 4 L[r / 2] (r % 2)) / 1000 = Int32.ofInt (lwZ (V h) li L[r / 2] (r % 2)) := by
      rw [nI_ofI (by omega), ← Int32.ofInt_mul, show (1000 : Int32) = Int32.ofInt 1000 from rfl, i_tdiv (by omega) (by omega)]
      rfl
    have F : fr S106 h (pI h 106 r (Int32.ofInt (lwZ (V h) li L[r / 2] (r % 2)))) := fr_pI rfl
    have hV := V_frc (S106_c F)
    obtain ⟨h', r1, r2, r3⟩ := ih (r + 1) _ (by omega) (ok_fr F w0) (by rw [hV]; exact g) (lsP_fr F rfl (fun _ => rfl) hl) (by rw [hV]; exact hLn) (by
      rw [hV]
      intro r' hr' i hi'
      rw [gI_pI]
      by_cases q : r' = r
      · subst q
        rw [hi] at hi'
        injection hi' with hi'
        rw [if_pos ⟨rfl, rfl⟩, hi']
      · rw [if_neg fun z => q z.2]
        exact hw r' (by omega) i hi')
    rw [hV] at r3
    refine ⟨h', ?_, fr_tr F r2, r3⟩
    rw [← r1, Ft_makeLawful_2_eq]
    simp only [wS, wR, ↓reduceIte, hl.1, e2, hle, decide_false, Bool.false_eq_true, d1, d2, ax_in, tk, nk, hk, v1, not_false_eq_true, and_self]
    rw [show (4 : Int32) = nI 4 from rfl, bnd hT]
    simp only [wS, ↓reduceIte, tr, nr, hr2, e3, not_false_eq_true, and_self, nJ_p1]
/-! a world's sums -/
def S155d (a k : Nat) : Bool := decide (a = 155 ∨ (a = 99 ∧ k = 14))
theorem S155d_c {h h' : ax_H} (q : fr S155d h h') : fr Sc h h' := fr_le q fun a k z => by simp only [Sc, S155d, decide_eq_false_iff_not] at z ⊢; omega
theorem S155_d {h h' : ax_H} (q : fr S155 h h') : fr S155d h h' := fr_le q fun a k z => by simp only [S155, S155d, decide_eq_false_iff_not] at z ⊢; omega
def lastB (n j k : Nat) : Bool := decide (k % 4 = 3 ∧ j ≤ k / 4 ∧ k / 4 < n)
theorem lastB_iff {n j k : Nat} : lastB n j k = true ↔ (k % 4 = 3 ∧ j ≤ k / 4 ∧ k / 4 < n) := by unfold lastB; exact decide_eq_true_iff
theorem RWK_155 {h h' : ax_H} (q : fr S155d h h') {D : WD} (f : WF D) {r : Nat} {V0 : BV} {kn : Int32} {i ax : Nat} (p : RWK h V0 D kn r i ax) : RWK h' V0 D kn r i ax := RWK_fr q f (fun a j y => by simp only [Srow, decide_eq_true_eq] at y; simp only [S155d, decide_eq_false_iff_not]; omega) p
theorem z_dw_2 {D : WD} (f : WF D) (c : Int32) : ∀ (m j : Nat) (h : ax_H), j + m = (FT D).length → ok h → ftP h (FT D) → ∃ h', Ft_drawWorld_2 99 65 c (nI j) h = Ft_drawWorld_29 99 65 c 0 h' ∧ fr S155 h h' ∧ ∀ k, k < 13 → gL h' 155 k = if lastB (FT D).length j k then 0 else gL h 155 k := by
  have h3 := FT_3 f
  intro m
  induction m with
  | zero =>
    intro j h hj w hF
    obtain ⟨wS, wR, wG, wN⟩ := w
    have hle : nI (FT D).length ≤ nI j := by rw [nJ_le (by omega) (by omega)]; omega
    refine ⟨h, ?_, fr_rf _ _, fun k hk => ?_⟩
    · rw [Ft_drawWorld_2_eq]
      simp only [wS, ↓reduceIte, hF.1, hle, decide_true]
    · rw [if_neg (by rw [lastB_iff]; omega)]
  | succ m ih =>
    intro j h hj w hF
    have w0 := w
    obtain ⟨wS, wR, wG, wN⟩ := w
    have hle : ¬ nI (FT D).length ≤ nI j := by rw [nJ_le (by omega) (by omega)]; omega
    have e3 : nI j * 4 + 3 = nI (4 * j + 3) := by
      rw [show (4 : Int32) = nI 4 from rfl, show (3 : Int32) = nI 3 from rfl, pk_mul, nI_add]
      congr 1; omega
    have tx : (nI (4 * j + 3)).toNatClampNeg = 4 * j + 3 := nJ_n (by omega)
    have nx : ¬ nI (4 * j + 3) < 0 := nJ_nn (by omega)
    have hx : 4 * j + 3 < 13 := by omega
    have F : fr S155 h (pL h 155 (4 * j + 3) 0) := fr_pL rfl
    obtain ⟨h', r1, r2, r3⟩ := ih (j + 1) _ (by omega) (ok_fr F w0) (ftP_fr F rfl (fun _ => rfl) hF)
    refine ⟨h', ?_, fr_tr F r2, fun k hk => ?_⟩
    · rw [← r1, Ft_drawWorld_2_eq]
      simp only [wS, wR, ↓reduceIte, hF.1, hle, decide_false, Bool.false_eq_true, ax_in, e3, tx, nx, hx, not_false_eq_true, and_self, nJ_p1]
    · rw [r3 k hk, gL_pL]
      by_cases q : k = 4 * j + 3
      · subst q
        rw [if_neg (by rw [lastB_iff]; omega), if_pos ⟨rfl, rfl⟩, if_pos (by rw [lastB_iff]; omega)]
      · rw [if_neg (show ¬ (155 = 155 ∧ k = 4 * j + 3) from fun z => q z.2)]
        by_cases q2 : lastB (FT D).length j k = true
        · rw [if_pos q2, if_pos (by rw [lastB_iff] at q2 ⊢; omega)]
        · rw [if_neg q2, if_neg (by rw [lastB_iff] at q2 ⊢; omega)]
theorem z_dw_102 {D : WD} (f : WF D) {kn : Int32} (c : Int32) {r i ax : Nat} (hr : r < 200) (d : Int) : ∀ (m j : Nat) (h : ax_H), j + m = (FT D).length → ok h → GV (V h) → i < nM (V h) → ftP h (FT D) → RWK h (V h) D kn r i ax → ∃ h', Ft_drawWorld_102 99 65 c (nI r) (Int64.ofInt d) (nI j) h = Ft_drawWorld_29 99 65 c (nI (r + 1)) h' ∧ fr S155 h h' ∧ ∀ k, k < 13 → gL h' 155 k = gL h 155 k + Int64.ofInt (if lastB (FT D).length j k then gF (V h) (FT D) (k / 4) i ax * d else 0) := by
  have h3 := FT_3 f
  intro m
  induction m with
  | zero =>
    intro j h hj w g hi hF hR
    obtain ⟨wS, wR, wG, wN⟩ := w
    have hle : nI (FT D).length ≤ nI j := by rw [nJ_le (by omega) (by omega)]; omega
    refine ⟨h, ?_, fr_rf _ _, fun k hk => ?_⟩
    · rw [Ft_drawWorld_102_eq]
      simp only [wS, ↓reduceIte, hF.1, hle, decide_true, nJ_p1]
    · rw [if_neg (by rw [lastB_iff]; omega)]
      exact (Int64.add_zero _).symm
  | succ m ih =>
    intro j h hj w g hi hF hR
    have w0 := w
    obtain ⟨wS, wR, wG, wN⟩ := w
    have hle : ¬ nI (FT D).length ≤ nI j := by rw [nJ_le (by omega) (by omega)]; omega
    have e3 : nI j * 4 + 3 = nI (4 * j + 3) := by
      rw [show (4 : Int32) = nI 4 from rfl, show (3 : Int32) = nI 3 from rfl, pk_mul, nI_add]
      congr 1; omega
    have tx : (nI (4 * j + 3)).toNatClampNeg = 4 * j + 3 := nJ_n (by omega)
    have nx : ¬ nI (4 * j + 3) < 0 := nJ_nn (by omega)
    have hx : 4 * j + 3 < 13 := by omega
    have e4 : nI r * 3 + nI j = nI (3 * r + j) := by rw [show (3 : Int32) = nI 3 from rfl, pk_mul, nI_add, Nat.mul_comm]
    have ty : (nI (3 * r + j)).toNatClampNeg = 3 * r + j := nJ_n (by omega)
    have ny : ¬ nI (3 * r + j) < 0 := nJ_nn (by omega)
    have hy : 3 * r + j < 600 := by omega
    obtain ⟨t, ht⟩ : ∃ t, (FT D)[j]? = some t := ⟨_, List.getElem?_eq_getElem (by omega)⟩
    have v3 := hR.1 j t ht
    have gb := gF_bd g (D := D) hi j ax
    rw [gF_eq ht] at gb
    have e5 : Int64.ofInt d * (Int32.ofInt (gi (V h) t i ax)).toInt64 = Int64.ofInt (gF (V h) (FT D) j i ax * d) := by
      rw [i_toL (by omega), ← Int64.ofInt_mul, gF_eq ht, Int.mul_comm]
    have F : fr S155 h (pL h 155 (4 * j + 3) (gL h 155 (4 * j + 3) + Int64.ofInt (gF (V h) (FT D) j i ax * d))) := fr_pL rfl
    have hV := V_frc (S155_c F)
    obtain ⟨h', r1, r2, r3⟩ := ih (j + 1) _ (by omega) (ok_fr F w0) (by rw [hV]; exact g) (by rw [hV]; exact hi) (ftP_fr F rfl (fun _ => rfl) hF) (by rw [hV]; exact RWK_155 (S155_d F) f hR)
    rw [hV] at r3
    refine ⟨h', ?_, fr_tr F r2, fun k hk => ?_⟩
    · rw [← r1, Ft_drawWorld_102_eq]
      simp only [wS, wR, ↓reduceIte, hF.1, hle, decide_false, Bool.false_eq_true, ax_in, e3, tx, nx, hx, e4, ty, ny, hy, v3, e5, not_false_eq_true, and_self, nJ_p1]
    · rw [r3 k hk, gL_pL]
      by_cases q : k = 4 * j + 3
      · subst q
        have e6 : (4 * j + 3) / 4 = j := by omega
        rw [if_pos ⟨rfl, rfl⟩, if_neg (by rw [lastB_iff]; omega), if_pos (by rw [lastB_iff]; omega), e6]
        exact Int64.add_zero _
      · rw [if_neg (show ¬ (155 = 155 ∧ k = 4 * j + 3) from fun z => q z.2)]
        by_cases q2 : lastB (FT D).length j k = true
        · rw [if_pos q2, if_pos (by rw [lastB_iff] at q2 ⊢; omega)]
        · rw [if_neg q2, if_neg (by rw [lastB_iff] at q2 ⊢; omega)]
