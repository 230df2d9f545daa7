/-! leans: the reference's side -/
/-- EQ without what hands know -/
def EQa (h : ax_H) : Prop := gI h 159 1 = V h 65 0 ∧ gI h 159 2 = V h 66 0 ∧ gI h 159 3 = V h 70 0 ∧ gI h 159 4 = V h 74 0 ∧ gI h 159 20 = V h 65 4 ∧ gI h 159 59 = V h 65 6 ∧ gI h 159 63 = V h 65 10 ∧
  (∀ k, gI h 160 k = V h 67 k) ∧ (∀ k, gI h 161 k = V h 68 k) ∧ (∀ k, gI h 162 k = V h 69 k) ∧ (∀ k, gI h 163 k = V h 71 k) ∧ (∀ k, gI h 164 k = V h 72 k) ∧ (∀ k, gI h 165 k = V h 73 k) ∧
  (∀ k, gI h 166 k = V h 75 k) ∧ (∀ k, gI h 167 k = V h 76 k) ∧ (∀ k, gI h 168 k = V h 77 k) ∧ (∀ k, gI h 169 k = V h 78 k) ∧ (∀ k, gI h 170 k = V h 79 k) ∧ (∀ k, gI h 171 k = V h 80 k) ∧
  (∀ k, gI h 197 k = V h 83 k) ∧ (∀ k, gI h 199 k = V h 84 k) ∧ (∀ k, gI h 198 k = V h 85 k) ∧ (∀ k, gI h 200 k = V h 86 k) ∧ (∀ k, gI h 201 k = V h 87 k) ∧ (∀ k, gI h 202 k = V h 88 k) ∧ (∀ k, gI h 203 k = V h 89 k)
theorem EQ_a {h : ax_H} (e : EQ h) : EQa h := by
  obtain ⟨x0, x1, x2, x3, x4, x5, x6, x7, x8, x9, x10, x11, x12, x13, x14, x15, x16, x17, x18, x19, x20, x21, x22, x23, x24, x25, -⟩ := e
  exact ⟨x0, x1, x2, x3, x4, x5, x6, x7, x8, x9, x10, x11, x12, x13, x14, x15, x16, x17, x18, x19, x20, x21, x22, x23, x24, x25⟩
theorem nI_ofI {n : Nat} (h : n < 2147483648) : nI n = Int32.ofInt (n : Int) := by
  have := i_of (nI n)
  rw [nJ_i h] at this
  exact this
theorem kv_uniq {V : BV} (g : GI V) {kn : Int32} (hk : kn.toInt ≤ 9999) {i j : Nat} (hi : i < nM V) (hj : j < nM V) (hs : sameK V i j) (h1 : kvB V kn i = true) (h2 : kvB V kn j = true) : i = j := by
  have a := (kv_iff g hk hi).mp h1
  have b := (kv_iff g hk hj).mp h2
  rcases Nat.lt_trichotomy i j with q | q | q
  · have := a.2 j q hj hs; omega
  · exact q
  · have := b.2 i q hi ⟨hs.1.symm, hs.2.1.symm, hs.2.2.symm⟩; omega
def hv (V : BV) (kn : Int32) (m g : Nat) (F : Nat → Int) : Int := zS (fun i => otB V kn m i && decide ((V 77 i).toInt.toNat = g)) F (nM V)
def lkJ (V : BV) (kn : Int32) (m g : Nat) : Int32 := lastI (fun i => keyB V (V 75 m) (V 76 m) (nI g) i && wkB V kn i) (nM V) 0 (-1)
theorem hv_pick {V : BV} (g0 : GV V) {kn : Int32} (hk : kn.toInt ≤ 9999) {m g : Nat} (hg : g < 8) : ((V 77 m = nI g ∨ (V 90 g).toInt ≤ kn.toInt ∨ lkJ V kn m g = -1) ∧ ∀ F, hv V kn m g F = 0) ∨ (¬ V 77 m = nI g ∧ ¬ (V 90 g).toInt ≤ kn.toInt ∧ ∃ j, j < nM V ∧ lkJ V kn m g = nI j ∧ ∀ F, hv V kn m g F = F j) := by
  have hcn := cnts g0.1
  have gI := g0.2.2.2.1
  by_cases a : V 77 m = nI g
  · refine Or.inl ⟨Or.inl a, fun F => zS_none _ fun i hi => ?_⟩
    by_cases q : (V 77 i).toInt.toNat = g
    · have : V 77 i = V 77 m := by rw [a, ← q]; exact nJ_of (gI.1 i hi).2.2.1.1
      simp only [otB, this, not_true_eq_false, and_false, decide_false, Bool.false_and]
    · simp only [q, decide_false, Bool.and_false]
  by_cases b : (V 90 g).toInt ≤ kn.toInt
  · refine Or.inl ⟨Or.inr (Or.inl b), fun F => zS_none _ fun i hi => ?_⟩
    by_cases q : (V 77 i).toInt.toNat = g
    · simp only [otB, q, b, not_true_eq_false, decide_false, Bool.and_false, Bool.false_and]
    · simp only [q, decide_false, Bool.and_false]
  have hE : lkJ V kn m g = firstI (fun i => keyB V (V 75 m) (V 76 m) (nI g) i && kvB V kn i) (nM V) 0 := (find_cnt gI hk _ _ _).symm
  have hPQ : ∀ i, i < nM V → (otB V kn m i && decide ((V 77 i).toInt.toNat = g)) = (keyB V (V 75 m) (V 76 m) (nI g) i && kvB V kn i) := fun i hi => by
    by_cases q : (V 77 i).toInt.toNat = g
    · have e7 : V 77 i = nI g := by rw [← q]; exact nJ_of (gI.1 i hi).2.2.1.1
      have e8 : ¬ nI g = V 77 m := fun z => a z.symm
      unfold otB keyB
      rw [q, e7]
      simp only [e8, b, not_false_eq_true, and_true, decide_true, Bool.and_true]
    · have e7 : ¬ V 77 i = nI g := fun z => q (nI_tN z (by omega))
      rw [decide_eq_false q, Bool.and_false]
      simp only [keyB, e7, and_false, decide_false, Bool.false_and]
  rcases max_ex (Q := fun i => keyB V (V 75 m) (V 76 m) (nI g) i && kvB V kn i) (nM V) with hq | ⟨j, j1, j2, j3⟩
  · refine Or.inl ⟨Or.inr (Or.inr ?_), fun F => zS_none _ fun i hi => (hPQ i hi).trans (hq i hi)⟩
    rw [hE]
    exact firstI_none _ 0 fun i _ hi => hq i (by omega)
  · have j4 : keyB V (V 75 m) (V 76 m) (nI g) j = true ∧ kvB V kn j = true := by rw [← Bool.and_eq_true]; exact j2
    have un : ∀ i, i < nM V → (keyB V (V 75 m) (V 76 m) (nI g) i && kvB V kn i) = true → i = j := fun i hi q => by
      rw [Bool.and_eq_true] at q
      have k1 := q.1
      have k2 := j4.1
      simp only [keyB, decide_eq_true_eq] at k1 k2
      exact kv_uniq gI hk hi j1 ⟨k1.1.trans k2.1.symm, k1.2.1.trans k2.2.1.symm, k1.2.2.trans k2.2.2.symm⟩ q.2 j4.2
    refine Or.inr ⟨a, b, j, j1, ?_, fun F => zS_one _ j1 ((hPQ j j1).trans j2) fun i hi q => un i hi ((hPQ i hi).symm.trans q)⟩
    rw [hE]
    exact firstI_some j2 _ 0 (by omega) (by omega) fun i _ hi => Bool.eq_false_iff.mpr fun hb => absurd (un i (by omega) hb) (by omega)
def cN (V : BV) (kn : Int32) (m : Nat) : Nat → Nat
  | 0 => 0
  | g + 1 => cN V kn m g + (hv V kn m g (fun _ => 1)).toNat
theorem hv_1 {V : BV} (g0 : GV V) {kn : Int32} (hk : kn.toInt ≤ 9999) {m g : Nat} (hg : g < 8) : hv V kn m g (fun _ => 1) = 0 ∨ (hv V kn m g (fun _ => 1) = 1 ∧ ¬ V 77 m = nI g) := by
  rcases hv_pick g0 hk (m := m) hg with ⟨-, a⟩ | ⟨a, -, j, -, -, b⟩
  · exact Or.inl (a _)
  · exact Or.inr ⟨b _, a⟩
theorem cN_z {V : BV} (g0 : GV V) {kn : Int32} (hk : kn.toInt ≤ 9999) {m d : Nat} (hd : V 77 m = nI d) : ∀ g, g ≤ 8 → (cN V kn m g : Int) = zN (fun g => hv V kn m g (fun _ => 1)) g ∧ cN V kn m g ≤ g ∧ (d < g → cN V kn m g + 1 ≤ g)
  | 0, _ => ⟨rfl, Nat.le_refl _, fun q => by omega⟩
  | g + 1, hg => by
    obtain ⟨a, b, c⟩ := cN_z g0 hk hd g (by omega)
    rw [cN, zN]
    rcases hv_1 g0 hk (m := m) (g := g) (by omega) with q | ⟨q, q2⟩
    · rw [q]
      refine ⟨by rw [← a]; rfl, by show _ + 0 ≤ _; omega, fun _ => by show _ + 0 + 1 ≤ _; omega⟩
    · rw [q]
      have hdg : d ≠ g := fun z => q2 (by rw [hd, z])
      refine ⟨by rw [← a]; rfl, by show _ + 1 ≤ _; omega, fun z => ?_⟩
      have := c (by omega)
      show _ + 1 + 1 ≤ _
      omega
theorem cntB_zo {P : Nat → Bool} : ∀ (k i : Nat) (a : Int), a + (cntB P k i : Int) = zo P (fun _ => 1) k i a
  | 0, i, a => by rw [cntB, zo]; show a + 0 = a; omega
  | k + 1, i, a => by
    rw [cntB, zo, ← cntB_zo k (i + 1)]
    cases P i with
    | true => rw [if_pos rfl, if_pos rfl]; omega
    | false => rw [if_neg (by decide), if_neg (by decide)]; omega
theorem ot_eq {V : BV} (g0 : GV V) {kn : Int32} (hk : kn.toInt ≤ 9999) {m d : Nat} (hm : m < nM V) (hd : V 77 m = nI d) (hd8 : d < 8) (u : Nat) : otS V kn u m = zN (fun g => hv V kn m g (me V u)) 8 ∧ otN V kn m = cN V kn m 8 ∧ otN V kn m ≤ 7 := by
  have gI := g0.2.2.2.1
  have fib := fun F => zS_fib (P := otB V kn m) (F := F) (key := fun i => (V 77 i).toInt.toNat) (K := 8) (nM V) (fun i hi _ => by have := (gI.1 i hi).2.2.1; omega)
  have e1 : otS V kn u m = zN (fun g => hv V kn m g (me V u)) 8 := by
    unfold otS
    rw [zo_zS, Nat.zero_add, fib]
    show 0 + (_ - 0) = _
    rw [Int.sub_zero, Int.zero_add]
    rfl
  obtain ⟨a, b, c⟩ := cN_z g0 hk hd 8 (Nat.le_refl _)
  have e2 : (otN V kn m : Int) = (cN V kn m 8 : Int) := by
    have := cntB_zo (P := otB V kn m) (nM V) 0 0
    rw [zo_zS, Nat.zero_add, fib, Int.zero_add] at this
    rw [a]
    unfold otN
    rw [this]
    show 0 + (_ - 0) = _
    rw [Int.sub_zero, Int.zero_add]
    rfl
  have e3 := c hd8
  exact ⟨e1, by omega, by omega⟩
theorem d420 {n : Nat} (h1 : 1 ≤ n) (h2 : n ≤ 7) : n * (420 / n) = 420 := by
  have : n = 1 ∨ n = 2 ∨ n = 3 ∨ n = 4 ∨ n = 5 ∨ n = 6 ∨ n = 7 := by omega
  rcases this with rfl | rfl | rfl | rfl | rfl | rfl | rfl <;> rfl
section
theorem zm_le_87 {h : ax_H} (i0 : I0 h) {m u d : Nat} (hm : m < nM (V h)) (hu : u < 2) (hd : V h 77 m = nI d) (hd8 : d < 8) {kn : Int32} (hk : 0 ≤ kn.toInt ∧ kn.toInt ≤ 9999) (pt : Int32) (A C : Int64) : ∀ (k g : Nat), g + k = 8 → M_leans_87 159 (nI d) kn (nI u) pt A C (nI m) (Int64.ofInt (zN (fun g => hv (V h) kn m g (me (V h) u)) g)) (nI (cN (V h) kn m g)) (nI g) h = M_leans_87 159 (nI d) kn (nI u) pt A C (nI m) (Int64.ofInt (otS (V h) kn u m)) (nI (otN (V h) kn m)) 8 h := by
  obtain ⟨w, e, g0⟩ := i0
  have hcn := cnts g0.1
  have hn := nI_nM g0.1.2.2.2.1
  obtain ⟨o1, o2, o3⟩ := ot_eq g0 hk.2 hm hd hd8 u
  have w0 := w
  have e0 := e
  obtain ⟨wS, wR, wG, wN⟩ := w
  replace e := EQ_a e
  unfold EQa at e
  have hm2 : m < 100 := by omega
  intro k
  induction k with
  | zero =>
    intro g hg
    have : g = 8 := by omega
    subst this
    rw [o1, o2]
    rfl
  | succ k ih =>
    intro g hg
    rw [← ih (g + 1) (by omega)]
    have h8 : ¬ (8 : Int32) ≤ nI g := by rw [show (8 : Int32) = nI 8 from rfl, nJ_le (by omega) (by omega)]; omega
    have hcc := (cN_z g0 hk.2 hd g (by omega)).2.1
    have hK := zm_isK w0 e0 (j := g) (by omega) hk.2
    have hC : M_counting 159 (V h 75 m) (V h 76 m) (nI g) kn h = some (lkJ (V h) kn m g, h) := zm_counting w0 e0 hn (by omega) _ _ _ _
    rw [cN, zN]
    have x0 : ∀ x : Int64, x + 0 = x := Int64.add_zero
    have y0 : ∀ x : Int32, x + 0 = x := Int32.add_zero
    rcases hv_pick g0 hk.2 (m := m) (g := g) (by omega) with ⟨a, b⟩ | ⟨a, b, j, j1, j2, j3⟩
    · rw [b, b, Int.add_zero, show (0 : Int).toNat = 0 from rfl, Nat.add_zero]
      rw [M_leans_87_eq]
      by_cases a1 : nI g = nI d
      · have gd : g = d := (nJ_eq (by omega) (by omega)).mp a1
        subst gd
        simp (disch := omega) only [gI_pI, gI_pL, gI_pR, gL_pI, gL_pL, gL_pR, gR_pI, gR_pL, gR_pR, gS_pI, gS_pL, gS_pR, ↓reduceIte, Nat.reduceEqDiff, decide_eq_true_eq, Option.bind_some, false_and, and_false, true_and, and_true, and_self, Nat.reduceAdd, not_false_eq_true, not_true_eq_false, wS, wR, inI, ite_self, Classical.not_not, h8, M_leans_110_eq, M_leans_157_eq, x0, y0, nJ_p1]
      · have a2 : ¬ V h 77 m = nI g := fun z => a1 (by rw [← z, hd])
        by_cases a3 : (V h 90 g).toInt ≤ kn.toInt
        · simp (disch := omega) only [gI_pI, gI_pL, gI_pR, gL_pI, gL_pL, gL_pR, gR_pI, gR_pL, gR_pR, gS_pI, gS_pL, gS_pR, ↓reduceIte, Nat.reduceEqDiff, decide_eq_true_eq, Option.bind_some, false_and, and_false, true_and, and_true, and_self, Nat.reduceAdd, not_false_eq_true, not_true_eq_false, wS, wR, inI, ite_self, Classical.not_not, h8, a1, ↓bnd hK, bI_0, a3, M_leans_110_eq, M_leans_157_eq, x0, y0, nJ_p1]
        · have a4 : lkJ (V h) kn m g = -1 := by
            rcases a with z | z | z
            · exact absurd z a2
            · exact absurd z a3
            · exact z
          simp (disch := omega) only [gI_pI, gI_pL, gI_pR, gL_pI, gL_pL, gL_pR, gR_pI, gR_pL, gR_pR, gS_pI, gS_pL, gS_pR, ↓reduceIte, Nat.reduceEqDiff, decide_eq_true_eq, Option.bind_some, false_and, and_false, true_and, and_true, and_self, Nat.reduceAdd, not_false_eq_true, not_true_eq_false, wS, wR, inI, ite_self, Classical.not_not, h8, a1, ↓bnd hK, bI_0, a3, e, ax_in, nJ_nn, nJ_n, hm2, ↓bnd hC, a4, M_leans_157_eq, x0, y0, nJ_p1]
    · rw [j3, j3, show (1 : Int).toNat = 1 from rfl]
      have a1 : ¬ nI g = nI d := fun z => a (by rw [hd, z])
      have hT := zm_told w0 g0 e0 j1 hu
      have jn : ¬ nI j = -1 := nI_neg1 (by omega)
      have hb := me_bd g0 j1 u
      rw [M_leans_87_eq]
      simp (disch := omega) only [gI_pI, gI_pL, gI_pR, gL_pI, gL_pL, gL_pR, gR_pI, gR_pL, gR_pR, gS_pI, gS_pL, gS_pR, ↓reduceIte, Nat.reduceEqDiff, decide_eq_true_eq, Option.bind_some, false_and, and_false, true_and, and_true, and_self, Nat.reduceAdd, not_false_eq_true, not_true_eq_false, wS, wR, inI, ite_self, Classical.not_not, h8, a1, ↓bnd hK, bI_0, b, e, ax_in, nJ_nn, nJ_n, hm2, ↓bnd hC, j2, jn, ↓bnd hT, M_leans_157_eq, nJ_p1]
      rw [i_toL (by omega), ← Int64.ofInt_add]
theorem zm_le_st {h : ax_H} (i0 : I0 h) {m u d : Nat} (hm : m < nM (V h)) (hu : u < 2) (hd : V h 77 m = nI d) (hd8 : d < 8) {kn : Int32} (hk : 0 ≤ kn.toInt ∧ kn.toInt ≤ 9999) (pt : Int32) (A C : Int) : M_leans_87 159 (nI d) kn (nI u) pt (Int64.ofInt A) (Int64.ofInt C) (nI m) 0 0 0 h = M_leans_48 159 (nI d) kn (nI u) pt (Int64.ofInt (A + leA (V h) kn u m)) (Int64.ofInt (C + (if otN (V h) kn m = 0 then 0 else 1))) (nI (m + 1)) h := by
  obtain ⟨w, e, g0⟩ := i0
  have hcn := cnts g0.1
  have key := zm_le_87 ⟨w, e, g0⟩ hm hu hd hd8 hk pt (Int64.ofInt A) (Int64.ofInt C) 8 0 (by omega)
  replace key : M_leans_87 159 (nI d) kn (nI u) pt (Int64.ofInt A) (Int64.ofInt C) (nI m) 0 0 0 h = _ := key
  obtain ⟨o1, o2, o3⟩ := ot_eq g0 hk.2 hm hd hd8 u
  have hT := zm_told w g0 e hm hu
  have hb := me_bd g0 hm u
  have w0 := w
  obtain ⟨wS, wR, wG, wN⟩ := w
  have h88 : (8 : Int32) ≤ 8 := Int32.le_refl _
  rw [key, M_leans_87_eq]
  unfold leA
  by_cases q : otN (V h) kn m = 0
  · rw [q, if_pos rfl, if_pos rfl, Int.add_zero, Int.add_zero, show nI 0 = (0 : Int32) from rfl]
    simp (disch := omega) only [gI_pI, gI_pL, gI_pR, gL_pI, gL_pL, gL_pR, gR_pI, gR_pL, gR_pR, gS_pI, gS_pL, gS_pR, ↓reduceIte, Nat.reduceEqDiff, decide_eq_true_eq, Option.bind_some, false_and, and_false, true_and, and_true, and_self, Nat.reduceAdd, not_false_eq_true, not_true_eq_false, wS, wR, inI, ite_self, Classical.not_not, h88, M_leans_215_eq, nJ_p1, Int64.add_zero]
  · have c2 : ¬ nI (otN (V h) kn m) = 0 := nI_ne0 (by omega) (by omega)
    rw [if_neg q, if_neg q]
    have e1 : ((420 : Int32) / nI (otN (V h) kn m)).toInt64 = Int64.ofInt ((420 / otN (V h) kn m : Nat) : Int) := by
      have h420 : 420 / otN (V h) kn m ≤ 420 := Nat.div_le_self _ _
      rw [show (420 : Int32) = nI 420 from rfl, pk_div (by omega) (by omega) (by omega), i_L, nJ_i (by omega)]
    have hmb := mul_bd (x := (otN (V h) kn m : Int)) (y := me (V h) u m) (k := 7) (m := 5382) (by omega) hb
    have e2 : (nI (otN (V h) kn m) * Int32.ofInt (me (V h) u m)).toInt64 = Int64.ofInt ((otN (V h) kn m : Int) * me (V h) u m) := by
      rw [nI_ofI (n := otN (V h) kn m) (by omega), ← Int32.ofInt_mul, i_toL (by omega)]
    have e3 := d420 (n := otN (V h) kn m) (by omega) o3
    have e4 : ((otN (V h) kn m : Int) * me (V h) u m - otS (V h) kn u m) * ((420 / otN (V h) kn m : Nat) : Int) = 420 * me (V h) u m - ((420 / otN (V h) kn m : Nat) : Int) * otS (V h) kn u m := by
      have e5 : (otN (V h) kn m : Int) * ((420 / otN (V h) kn m : Nat) : Int) = 420 := by
        rw [← Int.natCast_mul, e3]; rfl
      generalize ((420 / otN (V h) kn m : Nat) : Int) = q at e5 ⊢
      generalize (otN (V h) kn m : Int) = n at e5 ⊢
      grind
    simp (disch := omega) only [gI_pI, gI_pL, gI_pR, gL_pI, gL_pL, gL_pR, gR_pI, gR_pL, gR_pR, gS_pI, gS_pL, gS_pR, ↓reduceIte, Nat.reduceEqDiff, decide_eq_true_eq, Option.bind_some, false_and, and_false, true_and, and_true, and_self, Nat.reduceAdd, not_false_eq_true, not_true_eq_false, wS, wR, inI, ite_self, Classical.not_not, h88, c2, ↓bnd hT, M_leans_215_eq, nJ_p1, e1, e2]
    rw [← Int64.ofInt_sub, ← Int64.ofInt_mul, e4, ← Int64.ofInt_add, show (1 : Int64) = Int64.ofInt 1 from rfl, ← Int64.ofInt_add]
end
