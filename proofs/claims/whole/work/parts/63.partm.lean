/-! parter -/
theorem zo_add {B : Nat → Bool} {F : Nat → Int} : ∀ (k i : Nat) (a c : Int), zo B F k i (a + c) = zo B F k i a + c
  | 0, _, _, _ => rfl
  | k + 1, i, a, c => by
    rw [zo, zo]
    cases B i with
    | true =>
      rw [if_pos rfl, if_pos rfl, show a + c + F i = a + F i + c by omega]
      exact zo_add k (i + 1) (a + F i) c
    | false =>
      rw [if_neg (by decide), if_neg (by decide)]
      exact zo_add k (i + 1) a c
def ins (B : Nat → Bool) (s : Nat) : Nat → Bool := fun j => B j || decide (j = s)
theorem zo_ins {B : Nat → Bool} {F : Nat → Int} {s : Nat} (hs : B s = false) : ∀ (k i : Nat) (a : Int), zo (ins B s) F k i a = zo B F k i a + (if i ≤ s ∧ s < i + k then F s else 0)
  | 0, i, a => by rw [zo, zo, if_neg (by omega)]; omega
  | k + 1, i, a => by
    rw [zo, zo]
    by_cases h : i = s
    · subst h
      have e1 : ins B i i = true := by simp [ins]
      rw [e1, hs, if_pos rfl, if_neg (by decide), zo_ins hs k (i + 1) _, if_neg (by omega), if_pos (by omega), zo_add]
      omega
    · have e1 : ins B s i = B i := by simp [ins, h]
      rw [e1, zo_ins hs k (i + 1) _]
      by_cases h2 : i ≤ s ∧ s < i + (k + 1)
      · rw [if_pos h2, if_pos (show i + 1 ≤ s ∧ s < i + 1 + k by omega)]
      · rw [if_neg h2, if_neg (show ¬ (i + 1 ≤ s ∧ s < i + 1 + k) by omega)]
theorem t_ins {V : BV} {B : Nat → Bool} {s : Nat} (hs : B s = false) (hn : s < nS V) : tS V (ins B s) = tS V B + mS V s ∧ tL V (ins B s) = tL V B + mL V s ∧ tB V (ins B s) = tB V B + mB V s := by
  unfold tS tL tB
  rw [zo_ins hs, zo_ins hs, zo_ins hs, if_pos (by omega), if_pos (by omega), if_pos (by omega)]
  exact ⟨rfl, rfl, rfl⟩
/-- lowest terms: a factor -/
theorem low_f {A W : Int} (hA : 0 < A) (hW : 0 < W) : ∃ f : Int, 0 < f ∧ lowZ A W 0 * f = A ∧ lowZ A W 1 * f = W := by
  refine ⟨((Nat.gcd A.natAbs W.natAbs : Nat) : Int), ?_, ?_, ?_⟩
  · have := Nat.gcd_pos_of_pos_left W.natAbs (show 0 < A.natAbs by omega)
    omega
  · unfold lowZ
    rw [if_neg (by omega), if_pos rfl]
    exact Int.tdiv_mul_cancel (Int.ofNat_dvd_left.mpr (Nat.gcd_dvd_left _ _))
  · unfold lowZ
    rw [if_neg (by omega), if_neg (by omega)]
    exact Int.tdiv_mul_cancel (Int.ofNat_dvd_left.mpr (Nat.gcd_dvd_right _ _))
theorem low_0 (W : Int) : lowZ 0 W 0 = 0 ∧ lowZ 0 W 1 = 1 := by
  unfold lowZ
  rw [if_pos rfl, if_pos rfl]
  exact ⟨rfl, rfl⟩
theorem low_pos {A W : Int} (hA : 0 ≤ A) (hW : 0 < W) : (0 ≤ lowZ A W 0 ∧ lowZ A W 0 ≤ A) ∧ (0 < lowZ A W 1 ∧ lowZ A W 1 ≤ W) ∧ (0 < A → 0 < lowZ A W 0) := by
  by_cases h0 : A = 0
  · subst h0
    obtain ⟨e1, e2⟩ := low_0 W
    rw [e1, e2]
    omega
  · obtain ⟨f, f1, f2, f3⟩ := low_f (A := A) (W := W) (by omega) hW
    have p1 : 0 < lowZ A W 0 := Int.pos_of_mul_pos_left (b := f) (by rw [f2]; omega) (by omega)
    have p2 : 0 < lowZ A W 1 := Int.pos_of_mul_pos_left (b := f) (by rw [f3]; omega) (by omega)
    have q1 := Int.mul_le_mul_of_nonneg_left (show 1 ≤ f by omega) (Int.le_of_lt p1)
    have q2 := Int.mul_le_mul_of_nonneg_left (show 1 ≤ f by omega) (Int.le_of_lt p2)
    rw [Int.mul_one] at q1 q2
    omega
theorem low_cmp {A W x y : Int} (hA : 0 ≤ A) (hW : 0 < W) (hx : 0 ≤ x) (hy : 0 < y) : lowZ A W 0 * lowZ x y 1 < lowZ x y 0 * lowZ A W 1 ↔ A * y < x * W := by
  by_cases a0 : A = 0
  · subst a0
    obtain ⟨e1, e2⟩ := low_0 W
    rw [e1, e2, Int.zero_mul, Int.zero_mul, Int.mul_one]
    by_cases x0 : x = 0
    · subst x0
      rw [(low_0 y).1, Int.zero_mul]
    · have := (low_pos hx hy).2.2 (by omega)
      have := Int.mul_pos (show 0 < x by omega) hW
      omega
  · by_cases x0 : x = 0
    · subst x0
      rw [(low_0 y).1, (low_0 y).2, Int.zero_mul, Int.zero_mul, Int.mul_one]
      have := (low_pos hA hW).2.2 (by omega)
      have := Int.mul_pos (show 0 < A by omega) hy
      omega
    · obtain ⟨f, f1, f2, f3⟩ := low_f (A := A) (W := W) (by omega) hW
      obtain ⟨e, e1, e2, e3⟩ := low_f (A := x) (W := y) (by omega) hy
      have h1 : A * y = lowZ A W 0 * lowZ x y 1 * (f * e) := by
        conv => lhs; rw [← f2, ← e3]
        grind
      have h2 : x * W = lowZ x y 0 * lowZ A W 1 * (f * e) := by
        conv => lhs; rw [← e2, ← f3]
        grind
      rw [h1, h2]
      have hp := Int.mul_pos f1 e1
      exact ⟨fun q => Int.mul_lt_mul_of_pos_right q hp, fun q => Int.lt_of_mul_lt_mul_right q (Int.le_of_lt hp)⟩
theorem HB_ins {h : ax_H} {B : Nat → Bool} (hb : HB h B) {i : Nat} (hi : i < 30) : HB (pI h 195 i 1) (ins B i) := fun s hs => by
  rw [gI_pI]
  unfold ins
  by_cases e : s = i
  · rw [if_pos ⟨rfl, e⟩, decide_eq_true e, Bool.or_true, if_pos rfl]
  · rw [if_neg (fun q => e q.2), decide_eq_false e, Bool.or_false]
    exact hb s hs
theorem HB_del {h : ax_H} {B : Nat → Bool} {i : Nat} (hb : HB h (ins B i)) (hBi : B i = false) : HB (pI h 195 i 0) B := fun s hs => by
  rw [gI_pI]
  by_cases e : s = i
  · rw [if_pos ⟨rfl, e⟩, e, hBi, if_neg (by decide)]
  · rw [if_neg (fun q => e q.2), hb s hs]
    unfold ins
    rw [decide_eq_false e, Bool.or_false]
theorem zm_par_34 {B : Nat → Bool} : ∀ (k i : Nat) (b : Int32) (x y : Int) (h : ax_H), I0 h → i + k = nS (V h) → HB h B → (0 ≤ x ∧ x ≤ 498182400) → (0 < y ∧ y ≤ 498182400) → ∃ h', M_parter_34 159 b (Int64.ofInt (lowZ x y 0)) (Int64.ofInt (lowZ x y 1)) (nI i) h = some (prF (V h) B k i b x y, h') ∧ fr Sm h h' := by
  intro k
  induction k with
  | zero =>
    intro i b x y h i0 hi hb hx hy
    obtain ⟨w, e, g⟩ := i0
    have hcn := cnts g.1
    have hn := nI_nS g.1.2.1
    obtain ⟨wS, wR, wG, wN⟩ := w
    unfold EQ at e
    have hle : nS (V h) ≤ i := by omega
    refine ⟨h, ?_, fr_rf _ _⟩
    rw [M_parter_34_eq]
    try simp only [wS, wR, ↓reduceIte]
    simp (disch := omega) only [gI_pI, gI_pL, gI_pR, gL_pI, gL_pL, gL_pR, gR_pI, gR_pL, gR_pR, gS_pI, gS_pL, gS_pR, ↓reduceIte, Nat.reduceEqDiff, decide_eq_true_eq, Option.bind_some, false_and, and_false, true_and, and_true, and_self, Nat.reduceAdd, not_false_eq_true, not_true_eq_false, wS, wR, inI, ite_self, Classical.not_not, e, hn, nJ_le, hle]
    rfl
  | succ k ih =>
    intro i b x y h i0 hi hb hx hy
    have i00 := i0
    obtain ⟨w, e, g⟩ := i0
    have hcn := cnts g.1
    have hn := nI_nS g.1.2.1
    obtain ⟨wS, wR, wG, wN⟩ := w
    unfold EQ at e
    have hle : ¬ nS (V h) ≤ i := by omega
    have hi30 : i < 30 := by omega
    have hbi := hb i hi30
    cases hBi : B i with
    | true =>
      rw [hBi, if_pos rfl] at hbi
      obtain ⟨h', q1, q2⟩ := ih (i + 1) b x y h i00 (by omega) hb hx hy
      refine ⟨h', ?_, q2⟩
      rw [prF, hBi, if_pos rfl, ← q1, M_parter_34_eq]
      try simp only [wS, wR, ↓reduceIte]
      simp (disch := omega) only [gI_pI, gI_pL, gI_pR, gL_pI, gL_pL, gL_pR, gR_pI, gR_pL, gR_pR, gS_pI, gS_pL, gS_pR, ↓reduceIte, Nat.reduceEqDiff, decide_eq_true_eq, Option.bind_some, false_and, and_false, true_and, and_true, and_self, Nat.reduceAdd, not_false_eq_true, not_true_eq_false, wS, wR, inI, ite_self, Classical.not_not, e, hn, nJ_le, hle, ax_in, nJ_nn, nJ_n, nJ_p1, hi30, hbi, i1_0]
    | false =>
      rw [hBi, if_neg (by decide)] at hbi
      have hp := p_bd g.1 g.2.1 B (i := i) (by omega)
      have f1 : fr Sm h (pI h 195 i 1) := fr_pI rfl
      have hV1 := V_frm f1
      obtain ⟨h2, m1, m2, m3, m4⟩ := zm_mixes (I0_frm f1 i00) (HB_ins hb hi30)
      rw [hV1] at m3 m4
      obtain ⟨t1, t2, t3⟩ := t_ins (V := V h) hBi (by omega)
      rw [t1, t2, t3] at m3 m4
      have m3' : gL h2 159 54 = Int64.ofInt (lowZ (pA (V h) B i) (pW (V h) B i) 0) := m3
      have m4' : gL h2 159 55 = Int64.ofInt (lowZ (pA (V h) B i) (pW (V h) B i) 1) := m4
      have hB2 : HB h2 (ins B i) := fun s hs => by rw [fr_I m2 rfl]; exact HB_ins hb hi30 s hs
      have hB3 := HB_del hB2 hBi
      have f3 : fr Sm h (pI h2 195 i 0) := fr_tr (fr_tr f1 (S545_m m2)) (fr_pI rfl)
      have hV3 := V_frm f3
      have i3 := I0_frm f3 i00
      have sS := fr_S m2
      have sR := fr_R m2
      have l1 := low_pos (A := pA (V h) B i) (W := pW (V h) B i) hp.1.1 hp.2.1
      have l2 := low_pos (A := x) (W := y) hx.1 hy.1
      have hcmp := mx_cmp (a := lowZ (pA (V h) B i) (pW (V h) B i) 0) (b := lowZ x y 1) (c := lowZ x y 0) (d := lowZ (pA (V h) B i) (pW (V h) B i) 1) (by omega) (by omega) (by omega) (by omega)
      rw [low_cmp hp.1.1 hp.2.1 hx.1 hy.1] at hcmp
      by_cases hbb : b = -1
      · obtain ⟨h', q1, q2⟩ := ih (i + 1) (nI i) (pA (V h) B i) (pW (V h) B i) (pI h2 195 i 0) i3 (by rw [hV3]; omega) hB3 (by omega) (by omega)
        rw [hV3] at q1
        refine ⟨h', ?_, fr_tr f3 q2⟩
        rw [prF, hBi, if_neg (by decide), if_pos (Or.inl hbb), ← q1, M_parter_34_eq]
        try simp only [wS, wR, ↓reduceIte]
        simp (disch := omega) only [gI_pI, gI_pL, gI_pR, gL_pI, gL_pL, gL_pR, gR_pI, gR_pL, gR_pR, gS_pI, gS_pL, gS_pR, ↓reduceIte, Nat.reduceEqDiff, decide_eq_true_eq, Option.bind_some, false_and, and_false, true_and, and_true, and_self, Nat.reduceAdd, not_false_eq_true, not_true_eq_false, wS, wR, inI, ite_self, Classical.not_not, e, hn, nJ_le, hle, ax_in, nJ_nn, nJ_n, nJ_p1, hi30, hbi, show (1 : Int32) &&& 1 = 1 from rfl, show (0 : Int32) &&& 1 = 0 from rfl, ↓bnd m1, sS, sR, hbb, m3', m4']
      · by_cases hlt : pA (V h) B i * y < x * pW (V h) B i
        · have hc2 := hcmp
          obtain ⟨h', q1, q2⟩ := ih (i + 1) (nI i) (pA (V h) B i) (pW (V h) B i) (pI h2 195 i 0) i3 (by rw [hV3]; omega) hB3 (by omega) (by omega)
          rw [hV3] at q1
          refine ⟨h', ?_, fr_tr f3 q2⟩
          rw [prF, hBi, if_neg (by decide), if_pos (Or.inr hlt), ← q1, M_parter_34_eq]
          try simp only [wS, wR, ↓reduceIte]
          simp (disch := omega) only [gI_pI, gI_pL, gI_pR, gL_pI, gL_pL, gL_pR, gR_pI, gR_pL, gR_pR, gS_pI, gS_pL, gS_pR, ↓reduceIte, Nat.reduceEqDiff, decide_eq_true_eq, Option.bind_some, false_and, and_false, true_and, and_true, and_self, Nat.reduceAdd, not_false_eq_true, not_true_eq_false, wS, wR, inI, ite_self, Classical.not_not, e, hn, nJ_le, hle, ax_in, nJ_nn, nJ_n, nJ_p1, hi30, hbi, show (1 : Int32) &&& 1 = 1 from rfl, show (0 : Int32) &&& 1 = 0 from rfl, ↓bnd m1, sS, sR, hbb, m3', m4']
          exact if_neg (fun q => hcmp.mp q hlt)
        · have hc2 := hcmp.mpr hlt
          obtain ⟨h', q1, q2⟩ := ih (i + 1) b x y (pI h2 195 i 0) i3 (by rw [hV3]; omega) hB3 hx hy
          rw [hV3] at q1
          refine ⟨h', ?_, fr_tr f3 q2⟩
          rw [prF, hBi, if_neg (by decide), if_neg (fun q => by rcases q with q | q; exact hbb q; exact hlt q), ← q1, M_parter_34_eq]
          try simp only [wS, wR, ↓reduceIte]
          simp (disch := omega) only [gI_pI, gI_pL, gI_pR, gL_pI, gL_pL, gL_pR, gR_pI, gR_pL, gR_pR, gS_pI, gS_pL, gS_pR, ↓reduceIte, Nat.reduceEqDiff, decide_eq_true_eq, Option.bind_some, false_and, and_false, true_and, and_true, and_self, Nat.reduceAdd, not_false_eq_true, not_true_eq_false, wS, wR, inI, ite_self, Classical.not_not, e, hn, nJ_le, hle, ax_in, nJ_nn, nJ_n, nJ_p1, hi30, hbi, show (1 : Int32) &&& 1 = 1 from rfl, show (0 : Int32) &&& 1 = 0 from rfl, ↓bnd m1, sS, sR, hbb, m3', m4', hc2]
theorem qy_parter {h : ax_H} (i : I0 h) (p kn : Int32) : qry (B_parter 64 p kn h) (M_parter 159 p kn) h := by
  have i0 := i
  obtain ⟨w, e, g⟩ := i
  have w0 := w
  obtain ⟨wS, wR, wG, wN⟩ := w
  have e0 := e
  have hcn := cnts g.1
  by_cases h1 : inI p 0 ((V h 70 0).toInt - 1)
  case neg =>
    refine qry_no (v := -1) ?_ ?_
    · rw [B_parter_eq]
      try simp only [wS, wR, ↓reduceIte]
      simp only [gI_pI, gI_pL, gI_pR, gL_pI, gL_pL, gL_pR, gR_pI, gR_pL, gR_pR, gS_pI, gS_pL, gS_pR, ↓reduceIte, Nat.reduceEqDiff, decide_eq_true_eq, Option.bind_some, false_and, and_false, true_and, and_true, and_self, Nat.reduceAdd, not_false_eq_true, not_true_eq_false, wS, wR, inI, ite_self, Classical.not_not, ↓bnd (z_Pl_has w0 g.1 _), bI_0, h1]
    · rw [M_parter_eq]
      try simp only [wS, wR, ↓reduceIte]
      simp only [gI_pI, gI_pL, gI_pR, gL_pI, gL_pL, gL_pR, gR_pI, gR_pL, gR_pR, gS_pI, gS_pL, gS_pR, ↓reduceIte, Nat.reduceEqDiff, decide_eq_true_eq, Option.bind_some, false_and, and_false, true_and, and_true, and_self, Nat.reduceAdd, not_false_eq_true, not_true_eq_false, wS, wR, inI, ite_self, Classical.not_not, ↓bnd (zm_isPlate w0 g.1 e0 _), bI_0, h1]
  by_cases h2 : 0 ≤ kn.toInt ∧ kn.toInt ≤ 9999
  case neg =>
    refine qry_no (v := -1) ?_ ?_
    · rw [B_parter_eq]
      try simp only [wS, wR, ↓reduceIte]
      simp only [gI_pI, gI_pL, gI_pR, gL_pI, gL_pL, gL_pR, gR_pI, gR_pL, gR_pR, gS_pI, gS_pL, gS_pR, ↓reduceIte, Nat.reduceEqDiff, decide_eq_true_eq, Option.bind_some, false_and, and_false, true_and, and_true, and_self, Nat.reduceAdd, not_false_eq_true, not_true_eq_false, wS, wR, inI, ite_self, Classical.not_not, ↓bnd (z_Pl_has w0 g.1 _), ↓bnd (z_isWeek _ _), bI_0, h1, h2]
    · rw [M_parter_eq]
      try simp only [wS, wR, ↓reduceIte]
      simp only [gI_pI, gI_pL, gI_pR, gL_pI, gL_pL, gL_pR, gR_pI, gR_pL, gR_pR, gS_pI, gS_pL, gS_pR, ↓reduceIte, Nat.reduceEqDiff, decide_eq_true_eq, Option.bind_some, false_and, and_false, true_and, and_true, and_self, Nat.reduceAdd, not_false_eq_true, not_true_eq_false, wS, wR, inI, ite_self, Classical.not_not, ↓bnd (zm_isPlate w0 g.1 e0 _), ↓bnd (zm_isWeek _ _), bI_0, h1, h2]
  obtain ⟨k1, q1, q2, q3⟩ := z_gather w0 g p h2.2
  have qc := S158_c q2
  have hV := V_frc qc
  have i1 := I0_frc qc i0
  obtain ⟨r, s1, s2⟩ := z_sop i1.1 i1.2.2 p h2.2
  rw [hV] at s2
  obtain ⟨k2, t1, t2⟩ := z_par_30 r (B := hasS (V h) p kn) (nS (V h)) 0 (-1) 0 1 k1 i1.1 i1.2.2 (by rw [hV]; omega) s2 (by omega) (by omega) (by rw [hV]; exact q3)
  rw [hV] at t1
  have F := fr_tr qc (S158_c t2)
  have hV2 := V_frc F
  have i2 := I0_frc F i0
  obtain ⟨k3, u1, u2, u3⟩ := zm_known i2 p kn
  rw [hV2] at u3
  have hV3 := V_frm (S195_m u2)
  obtain ⟨k4, v1, v2⟩ := zm_par_34 (B := hasS (V h) p kn) (nS (V h)) 0 (-1) 0 1 k3 (I0_frm (S195_m u2) i2) (by rw [hV3, hV2]; omega) u3 (by omega) (by omega)
  rw [hV3, hV2, (low_0 1).1, (low_0 1).2] at v1
  refine ⟨prF (V h) (hasS (V h) p kn) (nS (V h)) 0 (-1) 0 1, k2, k4, ?_, ?_, F, fr_tr (S195_m u2) v2⟩
  · have sS := fr_S q2
    have sR := fr_R q2
    have hbp : Mx_bestParter 158 65 p kn h = some (prF (V h) (hasS (V h) p kn) (nS (V h)) 0 (-1) 0 1, k2) := by
      rw [Mx_bestParter_eq]
      try simp only [wS, wR, ↓reduceIte]
      simp only [gI_pI, gI_pL, gI_pR, gL_pI, gL_pL, gL_pR, gR_pI, gR_pL, gR_pR, gS_pI, gS_pL, gS_pR, ↓reduceIte, Nat.reduceEqDiff, decide_eq_true_eq, Option.bind_some, false_and, and_false, true_and, and_true, and_self, Nat.reduceAdd, not_false_eq_true, not_true_eq_false, wS, wR, inI, ite_self, Classical.not_not, ↓bnd q1, sS, sR, ↓bnd s1]
      exact t1
    rw [B_parter_eq]
    try simp only [wS, wR, ↓reduceIte]
    simp only [gI_pI, gI_pL, gI_pR, gL_pI, gL_pL, gL_pR, gR_pI, gR_pL, gR_pR, gS_pI, gS_pL, gS_pR, ↓reduceIte, Nat.reduceEqDiff, decide_eq_true_eq, Option.bind_some, false_and, and_false, true_and, and_true, and_self, Nat.reduceAdd, not_false_eq_true, not_true_eq_false, wS, wR, inI, ite_self, Classical.not_not, ↓bnd (z_Pl_has w0 g.1 _), ↓bnd (z_isWeek _ _), bI_0, h1, h2, ↓bnd hbp]
  · obtain ⟨w1, e1, g1⟩ := i2
    have hP := zm_isPlate w1 g1.1 e1 p
    rw [hV2] at hP
    obtain ⟨vS, vR, vG, vN⟩ := w1
    rw [M_parter_eq]
    simp only [vS, vR, ↓reduceIte]
    simp only [gI_pI, gI_pL, gI_pR, gL_pI, gL_pL, gL_pR, gR_pI, gR_pL, gR_pR, gS_pI, gS_pL, gS_pR, ↓reduceIte, Nat.reduceEqDiff, decide_eq_true_eq, Option.bind_some, false_and, and_false, true_and, and_true, and_self, Nat.reduceAdd, not_false_eq_true, not_true_eq_false, wS, wR, inI, ite_self, Classical.not_not, vS, vR, ↓bnd hP, ↓bnd (zm_isWeek _ _), bI_0, h1, h2, ↓bnd u1]
    exact v1
