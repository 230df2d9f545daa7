/-! the rows of a fit: the reference's -/
def Sme (a _k : Nat) : Bool := decide (192 ≤ a ∧ a ≤ 194)
theorem Sme_m {h h' : ax_H} (q : fr Sme h h') : fr Sm h h' := fr_le q fun a k z => by simp only [Sm, Sme, decide_eq_false_iff_not] at z ⊢; omega
def OUT (h : ax_H) (m : Nat → Nat → Int) : Prop := ∀ i, i < nM (V h) → gI h 192 i = Int32.ofInt (m i 0) ∧ gI h 193 i = Int32.ofInt (m i 1)
def ISO (h : ax_H) (P : Nat → Bool) : Prop := ∀ i, i < nM (V h) → gI h 194 i = bB (!P i)
theorem zm_me_30 {h : ax_H} (i0 : I0 h) {b : Bool} {i : Nat} (hi : i < nM (V h)) (hP : gI h 184 i = bB b) {k0 x y : Int32} (a1 : k0 * V h 78 i = x) (a2 : k0 * V h 79 i = y) : M_measures_30 k0 159 (nI i) h = M_measures_2 159 (nI (i + 1)) (pI (pI (pI h 192 i x) 193 i y) 194 i (bB (!b))) := by
  obtain ⟨w0, e0, g⟩ := i0
  have hcn := cnts g.1
  obtain ⟨wS, wR, wG, wN⟩ := w0
  have e := EQ_a e0
  unfold EQa at e
  have hi2 : i < 100 := by omega
  have tn : (nI i).toNatClampNeg = i := nJ_n (by omega)
  have nn : ¬ nI i < 0 := nJ_nn (by omega)
  have z1 : (0 : Int32) &&& 1 = 0 := by decide
  have z2 : (1 : Int32) &&& 1 = 1 := by decide
  rw [M_measures_30_eq]
  simp only [gI_pI, gI_pL, gI_pR, gL_pI, gL_pL, gL_pR, gR_pI, gR_pL, gR_pR, gS_pI, gS_pL, gS_pR, ↓reduceIte, Nat.reduceEqDiff, decide_eq_true_eq, Option.bind_some, false_and, and_false, true_and, and_true, and_self, Nat.reduceAdd, not_false_eq_true, not_true_eq_false, wS, wR, inI, ite_self, Classical.not_not, e, ax_in, tn, nn, hi2, a1, a2, hP, z1, z2, nJ_p1]
  cases b with
  | true => rw [if_pos (show ¬ bB true = 0 by decide), show bB (!true) = 0 from rfl]
  | false => rw [if_neg (show ¬ ¬ bB false = 0 by decide), show bB (!false) = 1 from rfl]
theorem tu_m1 {V : BV} {i : Nat} (h : V 72 (V 75 i).toInt.toNat = 1) : (-1 : Int32) * V 78 i = Int32.ofInt (tuZ V i 0) ∧ (-1 : Int32) * V 79 i = Int32.ofInt (tuZ V i 1) := by
  unfold tuZ mX
  rw [if_pos h, if_pos h, if_pos rfl, if_neg (by decide), Int32.ofInt_neg, Int32.ofInt_neg, Int32.ofInt_toInt, Int32.ofInt_toInt, Int32.neg_mul, Int32.neg_mul, Int32.one_mul, Int32.one_mul]
  exact ⟨rfl, rfl⟩
theorem tu_1 {V : BV} {i : Nat} (h : ¬ V 72 (V 75 i).toInt.toNat = 1) : (1 : Int32) * V 78 i = Int32.ofInt (tuZ V i 0) ∧ (1 : Int32) * V 79 i = Int32.ofInt (tuZ V i 1) := by
  unfold tuZ mX
  rw [if_neg h, if_neg h, if_pos rfl, if_neg (by decide), Int32.ofInt_toInt, Int32.ofInt_toInt, Int32.one_mul, Int32.one_mul]
  exact ⟨rfl, rfl⟩
theorem zm_me_2 {P : Nat → Bool} : ∀ (k i : Nat) (h : ax_H), I0 h → TKM h P → i + k = nM (V h) → ∃ h', M_measures_2 159 (nI i) h = some h' ∧ fr Sme h h' ∧ ∀ j, j < nM (V h) → (i ≤ j → gI h' 192 j = Int32.ofInt (tuZ (V h) j 0) ∧ gI h' 193 j = Int32.ofInt (tuZ (V h) j 1) ∧ gI h' 194 j = bB (!P j)) ∧ (j < i → gI h' 192 j = gI h 192 j ∧ gI h' 193 j = gI h 193 j ∧ gI h' 194 j = gI h 194 j) := by
  intro k
  induction k with
  | zero =>
    intro i h i0 hT hi
    obtain ⟨w0, e0, g⟩ := i0
    have hcn := cnts g.1
    have hn := nI_nM g.1.2.2.2.1
    obtain ⟨wS, wR, wG, wN⟩ := w0
    have e := EQ_a e0
    unfold EQa at e
    have hle : nI (nM (V h)) ≤ nI i := by rw [nJ_le (by omega) (by omega)]; omega
    refine ⟨h, ?_, fr_rf _ _, fun j hj => ⟨fun z => by omega, fun _ => ⟨rfl, rfl, rfl⟩⟩⟩
    rw [M_measures_2_eq]
    simp only [gI_pI, gI_pL, gI_pR, gL_pI, gL_pL, gL_pR, gR_pI, gR_pL, gR_pR, gS_pI, gS_pL, gS_pR, ↓reduceIte, Nat.reduceEqDiff, decide_eq_true_eq, Option.bind_some, false_and, and_false, true_and, and_true, and_self, Nat.reduceAdd, not_false_eq_true, not_true_eq_false, wS, wR, inI, ite_self, Classical.not_not, e, hn, hle]
  | succ k ih =>
    intro i h i0 hT hi
    have i00 := i0
    obtain ⟨w0, e0, g⟩ := i0
    have hcn := cnts g.1
    have hn := nI_nM g.1.2.2.2.1
    have w00 := w0
    obtain ⟨wS, wR, wG, wN⟩ := w0
    have e := EQ_a e0
    unfold EQa at e
    have hle : ¬ nI (nM (V h)) ≤ nI i := by rw [nJ_le (by omega) (by omega)]; omega
    have hi2 : i < 100 := by omega
    have tn : (nI i).toNatClampNeg = i := nJ_n (by omega)
    have nn : ¬ nI i < 0 := nJ_nn (by omega)
    obtain ⟨p, hp, hp2, hp3, hp4⟩ := nI_ex (g.2.2.2.1.1 i (by omega)).1
    have hp5 : p < 16 := by omega
    have hp6 : (V h 75 i).toInt.toNat = p := by omega
    have tp : (nI p).toNatClampNeg = p := nJ_n (by omega)
    have np : ¬ nI p < 0 := nJ_nn (by omega)
    have hP := hT i (by omega)
    have z1 : (0 : Int32) &&& 1 = 0 := by decide
    have z2 : (1 : Int32) &&& 1 = 1 := by decide
    obtain ⟨h1, hh1⟩ : ∃ h1, h1 = pI (pI (pI h 192 i (Int32.ofInt (tuZ (V h) i 0))) 193 i (Int32.ofInt (tuZ (V h) i 1))) 194 i (bB (!P i)) := ⟨_, rfl⟩
    have F1 : fr Sme h h1 := by rw [hh1]; exact fr_c (fr_c (fr_pI rfl) rfl) rfl
    have hV := V_frm (Sme_m F1)
    obtain ⟨h', r1, r2, r3⟩ := ih (i + 1) h1 (I0_frm (Sme_m F1) i00) (fun j hj => by rw [hV] at hj; rw [fr_I F1 rfl]; exact hT j hj) (by rw [hV]; omega)
    rw [hV] at r3
    refine ⟨h', ?_, fr_tr F1 r2, fun j hj => ?_⟩
    · rw [← r1]
      rw [M_measures_2_eq]
      simp only [gI_pI, gI_pL, gI_pR, gL_pI, gL_pL, gL_pR, gR_pI, gR_pL, gR_pR, gS_pI, gS_pL, gS_pR, ↓reduceIte, Nat.reduceEqDiff, decide_eq_true_eq, Option.bind_some, false_and, and_false, true_and, and_true, and_self, Nat.reduceAdd, not_false_eq_true, not_true_eq_false, wS, wR, inI, ite_self, Classical.not_not, e, hn, hle, ax_in, tn, nn, hi2, hp, tp, np, hp5]
      by_cases q : V h 72 p = 1
      · have q' : V h 72 (V h 75 i).toInt.toNat = 1 := by rw [hp6]; exact q
        rw [if_neg (not_not_intro q), hh1]
        exact zm_me_30 i00 (by omega) hP (tu_m1 q').1 (tu_m1 q').2
      · have q' : ¬ V h 72 (V h 75 i).toInt.toNat = 1 := by rw [hp6]; exact q
        rw [if_pos q, hh1]
        exact zm_me_30 i00 (by omega) hP (tu_1 q').1 (tu_1 q').2
    · have v2 : gI h1 192 j = if j = i then Int32.ofInt (tuZ (V h) i 0) else gI h 192 j := by
        rw [hh1, gI_pI, if_neg (fun z => absurd z.1 (by decide)), gI_pI, if_neg (fun z => absurd z.1 (by decide)), gI_pI]
        by_cases q : j = i
        · rw [if_pos ⟨rfl, q⟩, if_pos q]
        · rw [if_neg (fun z => q z.2), if_neg q]
      have v3 : gI h1 193 j = if j = i then Int32.ofInt (tuZ (V h) i 1) else gI h 193 j := by
        rw [hh1, gI_pI, if_neg (fun z => absurd z.1 (by decide)), gI_pI]
        by_cases q : j = i
        · rw [if_pos ⟨rfl, q⟩, if_pos q]
        · rw [if_neg (fun z => q z.2), if_neg q, gI_pI, if_neg (fun z => absurd z.1 (by decide))]
      have v4 : gI h1 194 j = if j = i then bB (!P i) else gI h 194 j := by
        rw [hh1, gI_pI]
        by_cases q : j = i
        · rw [if_pos ⟨rfl, q⟩, if_pos q]
        · rw [if_neg (fun z => q z.2), if_neg q, gI_pI, if_neg (fun z => absurd z.1 (by decide)), gI_pI, if_neg (fun z => absurd z.1 (by decide))]
      obtain ⟨x1, x2⟩ := r3 j hj
      refine ⟨fun z => ?_, fun z => ?_⟩
      · by_cases q : j = i
        · obtain ⟨a1, a2, a3⟩ := x2 (by omega)
          rw [a1, a2, a3, v2, v3, v4, if_pos q, if_pos q, if_pos q, q]
          exact ⟨rfl, rfl, rfl⟩
        · exact x1 (by omega)
      · obtain ⟨a1, a2, a3⟩ := x2 (by omega)
        have q : ¬ j = i := by omega
        rw [a1, a2, a3, v2, v3, v4, if_neg q, if_neg q, if_neg q]
        exact ⟨rfl, rfl, rfl⟩
theorem zm_measures {h : ax_H} (i0 : I0 h) {P : Nat → Bool} (hT : TKM h P) : ∃ h', M_measures 159 h = some h' ∧ fr Sme h h' ∧ OUT h' (tuZ (V h)) ∧ ISO h' P := by
  obtain ⟨h', r1, r2, r3⟩ := zm_me_2 (nM (V h)) 0 h i0 hT (by omega)
  have hV := V_frm (Sme_m r2)
  refine ⟨h', by rw [M_measures_eq]; exact r1, r2, fun i hi => ?_, fun i hi => ?_⟩
  · rw [hV] at hi
    obtain ⟨a, b, c⟩ := (r3 i hi).1 (Nat.zero_le _)
    exact ⟨a, b⟩
  · rw [hV] at hi
    obtain ⟨a, b, c⟩ := (r3 i hi).1 (Nat.zero_le _)
    exact c
section
theorem zm_lf_25 {h : ax_H} (i0 : I0 h) {D : WD} (f : WF D) {kn : Int32} (hc : ckOk (V h) D kn) (bg : BEG h (V h) D kn) {i ax : Nat} (hi : i < nM (V h)) (ha : ax < 2) (m : Int) : ∀ (k t : Nat), t + k = 6 → M_left_25 159 (nI i) (nI ax) (Int64.ofInt (m - zN (stT (V h) D kn i ax) t)) (nI t) h = some (Int64.ofInt (m - stZ (V h) D kn i ax), h) := by
  obtain ⟨w0, e0, g⟩ := i0
  have w00 := w0
  obtain ⟨wS, wR, wG, wN⟩ := w0
  intro k
  induction k with
  | zero =>
    intro t ht
    have : t = 6 := by omega
    subst this
    have h66 : (6 : Int32) ≤ nI 6 := by decide
    rw [M_left_25_eq]
    simp only [h66, decide_true, ↓reduceIte]
    rfl
  | succ k ih =>
    intro t ht
    have ht6 : t < 6 := by omega
    have hle : ¬ (6 : Int32) ≤ nI t := by rw [show (6 : Int32) = nI 6 from rfl, nJ_le (by omega) (by omega)]; omega
    have tn : (nI t).toNatClampNeg = t := nJ_n (by omega)
    have nn : ¬ nI t < 0 := nJ_nn (by omega)
    obtain ⟨b1, b2⟩ := bg.2 t ht6
    have hT := zm_givenOn w00 g e0 ht6 hi ha
    have hb := nm_bd g.2.2.2.1 f hc ht6
    have hg := gi_bx g ht6 hi ax
    have h81 := gMx_81 t
    have hm := mul_bd (x := nmZ (V h) D kn t) (y := gi (V h) t i ax) (k := 299000) (m := 81) hb (by omega)
    have i1 := ih (t + 1) (by omega)
    rw [zN] at i1
    rw [M_left_25_eq]
    by_cases q : D.1 t = 2 ∨ D.1 t = 3
    · have c0 : ¬ bB (hdB D t) = 0 := by unfold hdB; rw [decide_eq_true q]; decide
      have e1 : Int64.ofInt (nmZ (V h) D kn t) * Int64.ofInt (gi (V h) t i ax) / 1000 = Int64.ofInt (stT (V h) D kn i ax t) := by
        rw [← Int64.ofInt_mul, show (1000 : Int64) = Int64.ofInt 1000 from rfl, l_tdiv (by omega) (by omega)]
        rfl
      simp only [gI_pI, gI_pL, gI_pR, gL_pI, gL_pL, gL_pR, gR_pI, gR_pL, gR_pR, gS_pI, gS_pL, gS_pR, ↓reduceIte, Nat.reduceEqDiff, decide_eq_true_eq, Option.bind_some, false_and, and_false, true_and, and_true, and_self, Nat.reduceAdd, not_false_eq_true, not_true_eq_false, wS, wR, inI, ite_self, Classical.not_not, hle, ax_in, tn, nn, ht6, b1, b2, c0, nJ_p1, ↓bnd hT, e1, ← Int64.ofInt_sub]
      rw [Int.sub_sub]
      exact i1
    · have c0 : bB (hdB D t) = 0 := by unfold hdB; rw [decide_eq_false q]; rfl
      have e0 : stT (V h) D kn i ax t = 0 := by
        unfold stT
        rw [nm_un f kn ht6 (fun z => q (Or.inl z)) (fun z => q (Or.inr z)), Int.zero_mul, Int.zero_tdiv]
      rw [e0, Int.add_zero] at i1
      simp only [gI_pI, gI_pL, gI_pR, gL_pI, gL_pL, gL_pR, gR_pI, gR_pL, gR_pR, gS_pI, gS_pL, gS_pR, ↓reduceIte, Nat.reduceEqDiff, decide_eq_true_eq, Option.bind_some, false_and, and_false, true_and, and_true, and_self, Nat.reduceAdd, not_false_eq_true, not_true_eq_false, wS, wR, inI, ite_self, Classical.not_not, hle, ax_in, tn, nn, ht6, b1, c0, nJ_p1, Int64.sub_zero]
      exact i1
theorem zm_left {h : ax_H} (i0 : I0 h) {D : WD} (f : WF D) {kn : Int32} (hc : ckOk (V h) D kn) (bg : BEG h (V h) D kn) {m : Nat → Nat → Int} (ou : OUT h m) {i ax : Nat} (hi : i < nM (V h)) (ha : ax < 2) (hm : -1000000 ≤ m i ax ∧ m i ax ≤ 1000000) : M_left 159 (nI i) (nI ax) h = some (Int64.ofInt (m i ax - stZ (V h) D kn i ax), h) := by
  have key := zm_lf_25 i0 f hc bg hi ha (m i ax) 6 0 (by omega)
  rw [zN, Int.sub_zero] at key
  obtain ⟨w0, e0, g⟩ := i0
  have hcn := cnts g.1
  obtain ⟨wS, wR, wG, wN⟩ := w0
  obtain ⟨o1, o2⟩ := ou i hi
  have hi2 : i < 100 := by omega
  have tn : (nI i).toNatClampNeg = i := nJ_n (by omega)
  have nn : ¬ nI i < 0 := nJ_nn (by omega)
  rw [M_left_eq]
  match ax, ha with
  | 0, _ =>
    have : (Int32.ofInt (m i 0)).toInt64 = Int64.ofInt (m i 0) := i_toL (by omega)
    simp only [gI_pI, gI_pL, gI_pR, gL_pI, gL_pL, gL_pR, gR_pI, gR_pL, gR_pR, gS_pI, gS_pL, gS_pR, ↓reduceIte, Nat.reduceEqDiff, decide_eq_true_eq, Option.bind_some, false_and, and_false, true_and, and_true, and_self, Nat.reduceAdd, not_false_eq_true, not_true_eq_false, wS, wR, inI, ite_self, Classical.not_not, show nI 0 = 0 from rfl, ax_in, tn, nn, hi2, o1, this]
    exact key
  | 1, _ =>
    have : (Int32.ofInt (m i 1)).toInt64 = Int64.ofInt (m i 1) := i_toL (by omega)
    simp only [gI_pI, gI_pL, gI_pR, gL_pI, gL_pL, gL_pR, gR_pI, gR_pL, gR_pR, gS_pI, gS_pL, gS_pR, ↓reduceIte, Nat.reduceEqDiff, decide_eq_true_eq, Option.bind_some, false_and, and_false, true_and, and_true, and_self, Nat.reduceAdd, not_false_eq_true, not_true_eq_false, wS, wR, inI, ite_self, Classical.not_not, show nI 1 = 1 from rfl, i1_0, ax_in, tn, nn, hi2, o2, this]
    exact key
end
def S187 (a _k : Nat) : Bool := decide (a = 187)
def S178 (a _k : Nat) : Bool := decide (a = 187 ∨ a = 188)
theorem S187_8 {h h' : ax_H} (q : fr S187 h h') : fr S178 h h' := fr_le q fun a k z => by simp only [S187, S178, decide_eq_false_iff_not] at z ⊢; omega
theorem S178_m {h h' : ax_H} (q : fr S178 h h') : fr Sm h h' := fr_le q fun a k z => by simp only [Sm, S178, decide_eq_false_iff_not] at z ⊢; omega
theorem ftM_fr {S : Nat → Nat → Bool} {h h' : ax_H} (q : fr S h h') (z1 : S 159 49 = false) (z2 : ∀ k, S 185 k = false) {l : List Nat} (p : ftM h l) : ftM h' l := ⟨(fr_I q z1).trans p.1, fun k x z => (fr_I q (z2 k)).trans (p.2 k x z)⟩
theorem zm_gF {h : ax_H} (i0 : I0 h) {D : WD} (q : ftM h (FT D)) {i ax j : Nat} (hi : i < nM (V h)) (ha : ax < 2) (hj : j < (FT D).length) : M_givenOn 159 (gI h 185 j) (nI i) (nI ax) h = some (Int64.ofInt (gF (V h) (FT D) j i ax), h) := by
  have hg := List.getElem?_eq_getElem hj
  have ht := (FT_mem hg).1
  rw [q.2 j _ hg]
  unfold gF
  rw [hg]
  exact zm_givenOn i0.1 i0.2.2 i0.2.1 ht hi ha
section
theorem zm_ro_73 {D : WD} (f : WF D) {i ax : Nat} (ha : ax < 2) (d : Int) {a : Nat} (hda : a < (FT D).length) (G : Nat → Int) : ∀ (m b : Nat) (h : ax_H), b + m = (FT D).length → I0 h → i < nM (V h) → ftM h (FT D) → (∀ j, G j = gF (V h) (FT D) j i ax) → ∃ h', M_rows_73 159 (nI i) 1 (nI ax) (Int64.ofInt d) (nI a) (Int64.ofInt (G a)) (nI b) h = M_rows_28 159 (nI i) 1 (nI ax) (Int64.ofInt d) (nI (a + 1)) h' ∧ fr S187 h h' ∧ ∀ k, k < 9 → gL h' 187 k = gL h 187 k + Int64.ofInt (if 3 * a + b ≤ k ∧ k < 3 * a + 3 then G a * G (k - 3 * a) else 0) := by
  have hf3 := FT_3 f
  intro m
  induction m with
  | zero =>
    intro b h hb i0 hi q hG
    obtain ⟨wS, wR, wG, wN⟩ := i0.1
    have q1 := q.1
    have hle : nI (FT D).length ≤ nI b := by rw [nJ_le (by omega) (by omega)]; omega
    refine ⟨h, ?_, fr_rf _ _, fun k hk => ?_⟩
    · rw [M_rows_73_eq]
      simp only [gI_pI, gI_pL, gI_pR, gL_pI, gL_pL, gL_pR, gR_pI, gR_pL, gR_pR, gS_pI, gS_pL, gS_pR, ↓reduceIte, Nat.reduceEqDiff, decide_eq_true_eq, Option.bind_some, false_and, and_false, true_and, and_true, and_self, Nat.reduceAdd, not_false_eq_true, not_true_eq_false, wS, wR, inI, ite_self, Classical.not_not, q1, hle, nJ_p1]
    · have : (if 3 * a + b ≤ k ∧ k < 3 * a + 3 then G a * G (k - 3 * a) else 0) = 0 := by
        split
        · rw [hG (k - 3 * a), gF_no (by omega), Int.mul_zero]
        · rfl
      rw [this]
      exact (Int64.add_zero _).symm
  | succ m ih =>
    intro b h hb i0 hi q hG
    have w0 := i0.1
    obtain ⟨wS, wR, wG, wN⟩ := i0.1
    have q1 := q.1
    have hle : ¬ nI (FT D).length ≤ nI b := by rw [nJ_le (by omega) (by omega)]; omega
    have tb : (nI b).toNatClampNeg = b := nJ_n (by omega)
    have nb : ¬ nI b < 0 := nJ_nn (by omega)
    have hb3 : b < 3 := by omega
    have e3 : (3 : Int32) * nI a + nI b = nI (3 * a + b) := by rw [show (3 : Int32) = nI 3 from rfl, pk_mul, nI_add]
    have tx : (nI (3 * a + b)).toNatClampNeg = 3 * a + b := nJ_n (by omega)
    have nx : ¬ nI (3 * a + b) < 0 := nJ_nn (by omega)
    have hx : 3 * a + b < 9 := by omega
    have hT := zm_gF i0 q hi ha (j := b) (by omega)
    rw [← hG] at hT
    obtain ⟨h1, hh1⟩ : ∃ h1, h1 = pL h 187 (3 * a + b) (gL h 187 (3 * a + b) + Int64.ofInt (G a * G b)) := ⟨_, rfl⟩
    have F1 : fr S187 h h1 := by rw [hh1]; exact fr_pL rfl
    have hV := V_frm (S178_m (S187_8 F1))
    obtain ⟨h', r1, r2, r3⟩ := ih (b + 1) h1 (by omega) (I0_frm (S178_m (S187_8 F1)) i0) (by rw [hV]; exact hi) (ftM_fr F1 rfl (fun _ => rfl) q) (fun j => by rw [hV]; exact hG j)
    refine ⟨h', ?_, fr_tr F1 r2, fun k hk => ?_⟩
    · have hT' : M_givenOn 159 (gI h (gR h 159 39) (Int32.toNatClampNeg (nI b))) (nI i) (nI ax) h = some (Int64.ofInt (G b), h) := by
        simp only [wR, tb]
        exact hT
      rw [← r1, M_rows_73_eq]
      simp only [gI_pI, gI_pL, gI_pR, gL_pI, gL_pL, gL_pR, gR_pI, gR_pL, gR_pR, gS_pI, gS_pL, gS_pR, ↓reduceIte, Nat.reduceEqDiff, decide_eq_true_eq, Option.bind_some, false_and, and_false, true_and, and_true, and_self, Nat.reduceAdd, not_false_eq_true, not_true_eq_false, wS, wR, inI, ite_self, Classical.not_not, q1, hle, ax_in, e3, tx, nx, hx, tb, nb, hb3, ↓bnd hT', ↓bnd hT, ← Int64.ofInt_mul, nJ_p1, ← hh1]
    · rw [r3 k hk, hh1, gL_pL]
      by_cases c : k = 3 * a + b
      · rw [if_pos ⟨rfl, c⟩, if_neg (by omega), if_pos (by omega), c, show 3 * a + b - 3 * a = b by omega]
        exact Int64.add_zero _
      · rw [if_neg (fun z => c z.2)]
        by_cases c2 : 3 * a + b ≤ k ∧ k < 3 * a + 3
        · rw [if_pos (by omega), if_pos c2]
        · rw [if_neg (by omega), if_neg c2]
theorem zm_ro_28 {D : WD} (f : WF D) {i ax : Nat} (ha : ax < 2) (d : Int) (G : Nat → Int) : ∀ (m a : Nat) (h : ax_H), a + m = (FT D).length → I0 h → i < nM (V h) → ftM h (FT D) → (∀ j, G j = gF (V h) (FT D) j i ax) → ∃ h', M_rows_28 159 (nI i) 1 (nI ax) (Int64.ofInt d) (nI a) h = M_rows_12 159 (nI i) 1 (nI (ax + 1)) h' ∧ fr S178 h h' ∧ (∀ k, k < 9 → gL h' 187 k = gL h 187 k + Int64.ofInt (if 3 * a ≤ k then G (k / 3) * G (k % 3) else 0)) ∧ ∀ k, k < 3 → gL h' 188 k = gL h 188 k + Int64.ofInt (if a ≤ k then G k * d else 0) := by
  have hf3 := FT_3 f
  intro m
  induction m with
  | zero =>
    intro a h hm i0 hi q hG
    obtain ⟨wS, wR, wG, wN⟩ := i0.1
    have q1 := q.1
    have hle : nI (FT D).length ≤ nI a := by rw [nJ_le (by omega) (by omega)]; omega
    refine ⟨h, ?_, fr_rf _ _, fun k hk => ?_, fun k hk => ?_⟩
    · rw [M_rows_28_eq]
      simp only [gI_pI, gI_pL, gI_pR, gL_pI, gL_pL, gL_pR, gR_pI, gR_pL, gR_pR, gS_pI, gS_pL, gS_pR, ↓reduceIte, Nat.reduceEqDiff, decide_eq_true_eq, Option.bind_some, false_and, and_false, true_and, and_true, and_self, Nat.reduceAdd, not_false_eq_true, not_true_eq_false, wS, wR, inI, ite_self, Classical.not_not, q1, hle, nJ_p1]
    · have : (if 3 * a ≤ k then G (k / 3) * G (k % 3) else 0) = 0 := by
        split
        · rw [hG (k / 3), gF_no (by omega), Int.zero_mul]
        · rfl
      rw [this]
      exact (Int64.add_zero _).symm
    · have : (if a ≤ k then G k * d else 0) = 0 := by
        split
        · rw [hG k, gF_no (by omega), Int.zero_mul]
        · rfl
      rw [this]
      exact (Int64.add_zero _).symm
  | succ m ih =>
    intro a h hm i0 hi q hG
    have w0 := i0.1
    obtain ⟨wS, wR, wG, wN⟩ := i0.1
    have q1 := q.1
    have hle : ¬ nI (FT D).length ≤ nI a := by rw [nJ_le (by omega) (by omega)]; omega
    have tb : (nI a).toNatClampNeg = a := nJ_n (by omega)
    have nb : ¬ nI a < 0 := nJ_nn (by omega)
    have hb3 : a < 3 := by omega
    have hT := zm_gF i0 q hi ha (j := a) (by omega)
    rw [← hG] at hT
    obtain ⟨h1, hh1⟩ : ∃ h1, h1 = pL h 188 a (gL h 188 a + Int64.ofInt (G a * d)) := ⟨_, rfl⟩
    have F1 : fr S178 h h1 := by rw [hh1]; exact fr_pL rfl
    have hV1 := V_frm (S178_m F1)
    obtain ⟨h2, s1, s2, s3⟩ := zm_ro_73 f ha d (a := a) (by omega) G (FT D).length 0 h1 (by omega) (I0_frm (S178_m F1) i0) (by rw [hV1]; exact hi) (ftM_fr F1 rfl (fun _ => rfl) q) (fun j => by rw [hV1]; exact hG j)
    have F2 : fr S178 h h2 := fr_tr F1 (S187_8 s2)
    have hV2 := V_frm (S178_m F2)
    obtain ⟨h', r1, r2, r3, r4⟩ := ih (a + 1) h2 (by omega) (I0_frm (S178_m F2) i0) (by rw [hV2]; exact hi) (ftM_fr F2 rfl (fun _ => rfl) q) (fun j => by rw [hV2]; exact hG j)
    refine ⟨h', ?_, fr_tr F2 r2, fun k hk => ?_, fun k hk => ?_⟩
    · have hT' : M_givenOn 159 (gI h (gR h 159 39) (Int32.toNatClampNeg (nI a))) (nI i) (nI ax) h = some (Int64.ofInt (G a), h) := by
        simp only [wR, tb]
        exact hT
      have e1 : Int32.toInt64 1 = 1 := rfl
      rw [← r1, ← s1, M_rows_28_eq]
      simp only [gI_pI, gI_pL, gI_pR, gL_pI, gL_pL, gL_pR, gR_pI, gR_pL, gR_pR, gS_pI, gS_pL, gS_pR, ↓reduceIte, Nat.reduceEqDiff, decide_eq_true_eq, Option.bind_some, false_and, and_false, true_and, and_true, and_self, Nat.reduceAdd, not_false_eq_true, not_true_eq_false, wS, wR, inI, ite_self, Classical.not_not, q1, hle, ax_in, tb, nb, hb3, ↓bnd hT', ↓bnd hT, e1, Int64.one_mul, ← Int64.ofInt_mul, ← hh1]
      rfl
    · rw [r3 k hk, s3 k hk, hh1, gL_pL, if_neg (fun z => absurd z.1 (by decide)), Int64.add_assoc, ← Int64.ofInt_add]
      congr 2
      by_cases c : 3 * a ≤ k
      · rw [if_pos c]
        by_cases c2 : 3 * (a + 1) ≤ k
        · rw [if_pos c2, if_neg (by omega), Int.zero_add]
        · rw [if_neg c2, if_pos (by omega), Int.add_zero, show k / 3 = a by omega, show k % 3 = k - 3 * a by omega]
      · rw [if_neg c, if_neg (by omega), if_neg (by omega)]; rfl
    · rw [r4 k hk, fr_L s2 rfl, hh1, gL_pL]
      by_cases c : k = a
      · rw [if_pos ⟨rfl, c⟩, if_neg (by omega), if_pos (by omega), c]
        exact Int64.add_zero _
      · rw [if_neg (fun z => c z.2)]
        by_cases c2 : a ≤ k
        · rw [if_pos (by omega), if_pos c2]
        · rw [if_neg (by omega), if_neg c2]
end
