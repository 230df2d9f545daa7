/-! tests: the class's run -/
def cdN (e : Nat × Nat) : Nat := e.1 + 16 * e.2
theorem cd_15 {e : Nat × Nat} (h1 : e.1 < 16) (h2 : e.2 ≤ 99999) : nI (cdN e) &&& 15 = nI e.1 := by
  unfold cdN
  rw [pk_andN (by omega) 4 (by decide)]
  congr 1
  omega
theorem cd_4 {e : Nat × Nat} (h1 : e.1 < 16) (h2 : e.2 ≤ 99999) : nI (cdN e) >>> (4 &&& 31) = nI e.2 := by
  unfold cdN
  rw [pk_shrN (by omega) _ 4 (by decide)]
  congr 1
  omega
def skI (h : ax_H) (a : Nat) : List Int → Prop
  | [] => True
  | v :: s => gI h a s.length = Int32.ofInt v ∧ skI h a s
theorem skI_fr {h h' : ax_H} {a : Nat} : ∀ (s : List Int), (∀ k, k < s.length → gI h' a k = gI h a k) → skI h a s → skI h' a s
  | [], _, _ => trivial
  | v :: s, q, ⟨h1, h2⟩ => ⟨(q s.length (by rw [List.length_cons]; omega)).trans h1, skI_fr s (fun k hk => q k (by rw [List.length_cons]; omega)) h2⟩
theorem skI_p {h : ax_H} {a n : Nat} {v : Int32} {s : List Int} (hs : skI h a s) (hn : s.length ≤ n) : skI (pI h a n v) a s := skI_fr s (fun k hk => by rw [gI_pI, if_neg (by rintro ⟨_, rfl⟩; omega)]) hs
theorem z_combine {o : Nat} {a b : Int} (ho : (2 ≤ o ∧ o ≤ 8) ∨ ((o = 10 ∨ o = 11) ∧ (a = 0 ∨ a = 1) ∧ (b = 0 ∨ b = 1))) (ha : -1073741824 ≤ a ∧ a ≤ 1073741823) (hb : -1073741824 ≤ b ∧ b ≤ 1073741823) (h : ax_H) : Wy_combine (nI o) (Int32.ofInt a) (Int32.ofInt b) h = some (Int32.ofInt (bz o a b), h) := by
  have l1 : Int32.ofInt b ≤ Int32.ofInt a ↔ b ≤ a := by rw [i32_le, i_toInt (by omega), i_toInt (by omega)]
  have l2 : Int32.ofInt a ≤ Int32.ofInt b ↔ a ≤ b := by rw [i32_le, i_toInt (by omega), i_toInt (by omega)]
  have l3 : Int32.ofInt b < Int32.ofInt a ↔ b < a := by rw [i32_lt, i_toInt (by omega), i_toInt (by omega)]
  have l4 : Int32.ofInt a < Int32.ofInt b ↔ a < b := by rw [i32_lt, i_toInt (by omega), i_toInt (by omega)]
  have l5 : Int32.ofInt a = Int32.ofInt b ↔ a = b := by rw [i32_eq, i_toInt (by omega), i_toInt (by omega)]
  rw [Wy_combine_eq]
  simp only [decide_eq_true_eq, l1, l2, l3, l4, l5]
  have hc : o = 2 ∨ o = 3 ∨ o = 4 ∨ o = 5 ∨ o = 6 ∨ o = 7 ∨ o = 8 ∨ o = 10 ∨ o = 11 := by omega
  rcases hc with rfl | rfl | rfl | rfl | rfl | rfl | rfl | rfl | rfl
  · show some (Int32.ofInt a + Int32.ofInt b, h) = some (Int32.ofInt (a + b), h)
    rw [Int32.ofInt_add]
  · show some (Int32.ofInt a - Int32.ofInt b, h) = some (Int32.ofInt (a - b), h)
    rw [Int32.ofInt_sub]
  · show (if b ≤ a then some ((0 : Int32), h) else some (1, h)) = some (Int32.ofInt (if a < b then 1 else 0), h)
    by_cases q : b ≤ a
    · rw [if_pos q, if_neg (by omega)]; rfl
    · rw [if_neg q, if_pos (by omega)]; rfl
  · show (if b < a then some ((0 : Int32), h) else some (1, h)) = some (Int32.ofInt (if a ≤ b then 1 else 0), h)
    by_cases q : b < a
    · rw [if_pos q, if_neg (by omega)]; rfl
    · rw [if_neg q, if_pos (by omega)]; rfl
  · show (if ¬ a = b then some ((0 : Int32), h) else some (1, h)) = some (Int32.ofInt (if a = b then 1 else 0), h)
    by_cases q : a = b
    · rw [if_neg (not_not_intro q), if_pos q]; rfl
    · rw [if_pos q, if_neg q]; rfl
  · show (if a < b then some ((0 : Int32), h) else some (1, h)) = some (Int32.ofInt (if b ≤ a then 1 else 0), h)
    by_cases q : a < b
    · rw [if_pos q, if_neg (by omega)]; rfl
    · rw [if_neg q, if_pos (by omega)]; rfl
  · show (if a ≤ b then some ((0 : Int32), h) else some (1, h)) = some (Int32.ofInt (if b < a then 1 else 0), h)
    by_cases q : a ≤ b
    · rw [if_pos q, if_neg (by omega)]; rfl
    · rw [if_neg q, if_pos (by omega)]; rfl
  · obtain ⟨h1, h2⟩ : (a = 0 ∨ a = 1) ∧ (b = 0 ∨ b = 1) := by omega
    rcases h1 with rfl | rfl <;> rcases h2 with rfl | rfl <;> rfl
  · obtain ⟨h1, h2⟩ : (a = 0 ∨ a = 1) ∧ (b = 0 ∨ b = 1) := by omega
    rcases h1 with rfl | rfl <;> rcases h2 with rfl | rfl <;> rfl
def S157 (a _k : Nat) : Bool := decide (a = 157)
theorem S157_c {h h' : ax_H} (q : fr S157 h h') : fr Sc h h' := fr_le q fun a k z => by simp only [Sc, S157, decide_eq_false_iff_not] at z ⊢; omega
theorem nI_eq9 {a : Nat} (h : a < 2147483648) : nI a = 9 ↔ a = 9 := nJ_eq (b := 9) h (by omega)
theorem z_lv_st {h : ax_H} (w : ok h) (g : GV (V h)) {a A L m i : Nat} (hm : m < nM (V h)) (hsa : (gS h a).1 = 5) (hra : gR h a 3 = A) (hsA : gS h A = (16, L)) (hL : L ≤ 1000) (hi : i < L) {e : Nat × Nat} (hx : gI h A i = nI (cdN e)) {ts ts' : List Nat} (ht : tyR e ts ts') {s : List Int} (hv : vtP s ts) (hk : skI h 157 s) (hb : ts.sum + pu e ≤ 62) (hb2 : ts.length + pu e ≤ 62) : ∃ h1, Wy_isLeaving_6 a 65 (nI m) 157 (nI s.length) (nI i) h = Wy_isLeaving_6 a 65 (nI m) 157 (nI (evS (askF (V h) m) e s).length) (nI (i + 1)) h1 ∧ fr S157 h h1 ∧ skI h1 157 (evS (askF (V h) m) e s) := by
  have hlen := vt_len hv
  have w0 := w
  obtain ⟨wS, wR, wG, wN⟩ := w
  have hle : ¬ L ≤ i := by omega
  rcases ht with ⟨h1, h2, rfl⟩ | ⟨h1, h2, rfl⟩ | ⟨h1, h0, r, rfl, rfl⟩ | ⟨a', b', r, h0, rfl, hh⟩
  · have h64 : s.length < 64 := by unfold pu at hb2; rw [if_pos (by omega)] at hb2; omega
    have c1 := cd_15 (e := e) (by omega) h2
    have c2 := cd_4 (e := e) (by omega) h2
    rw [h1] at c1
    have eE : evS (askF (V h) m) e s = (e.2 : Int) :: s := by unfold evS; rw [if_pos h1]
    rw [eE, List.length_cons]
    refine ⟨pI h 157 s.length (nI e.2), ?_, fr_pI rfl, ⟨by rw [gI_pI, if_pos ⟨rfl, rfl⟩]; exact nI_ofI (by omega), skI_p hk (Nat.le_refl _)⟩⟩
    rw [Wy_isLeaving_6_eq]
    simp (disch := omega) only [gI_pI, gI_pL, gI_pR, gL_pI, gL_pL, gL_pR, gR_pI, gR_pL, gR_pR, gS_pI, gS_pL, gS_pR, ↓reduceIte, Nat.reduceEqDiff, decide_eq_true_eq, Option.bind_some, false_and, and_false, true_and, and_true, and_self, Nat.reduceAdd, not_false_eq_true, not_true_eq_false, wS, wR, inI, ite_self, Classical.not_not, hsa, hra, hsA, nJ_le, hle, ax_in, nJ_nn, nJ_n, hi, hx, c1, show nI 0 = 0 from rfl, Wy_isLeaving_39_eq, nJ_lt, h64, c2, nJ_p1]
  · have h64 : s.length < 64 := by unfold pu at hb2; rw [if_pos (by omega)] at hb2; omega
    have c1 := cd_15 (e := e) (by omega) (by omega)
    have c2 := cd_4 (e := e) (by omega) (by omega)
    rw [h1] at c1
    have hF := z_factOf w0 g hm h2
    have eE : evS (askF (V h) m) e s = askF (V h) m e.2 :: s := by unfold evS; rw [if_neg (by omega), if_pos h1]
    rw [eE, List.length_cons]
    refine ⟨pI h 157 s.length (Int32.ofInt (askF (V h) m e.2)), ?_, fr_pI rfl, ⟨by rw [gI_pI, if_pos ⟨rfl, rfl⟩], skI_p hk (Nat.le_refl _)⟩⟩
    rw [Wy_isLeaving_6_eq]
    simp (disch := omega) only [gI_pI, gI_pL, gI_pR, gL_pI, gL_pL, gL_pR, gR_pI, gR_pL, gR_pR, gS_pI, gS_pL, gS_pR, ↓reduceIte, Nat.reduceEqDiff, decide_eq_true_eq, Option.bind_some, false_and, and_false, true_and, and_true, and_self, Nat.reduceAdd, not_false_eq_true, not_true_eq_false, wS, wR, inI, ite_self, Classical.not_not, hsa, hra, hsA, nJ_le, hle, ax_in, nJ_nn, nJ_n, hi, hx, c1, show nI 1 = 1 from rfl, i1_0, Wy_isLeaving_39_eq, nJ_lt, h64, c2, nJ_p1, ↓bnd hF]
  · obtain ⟨x, q, rfl, h3, h4⟩ := vt_c hv
    rw [List.length_cons, List.length_cons] at hlen
    have hq64 : q.length < 64 := by rw [List.length_cons] at hb2; omega
    have c1 := cd_15 (e := e) (by omega) (by omega)
    rw [h1] at c1
    rw [ev_not h1, List.length_cons, List.length_cons]
    refine ⟨pI h 157 q.length (Int32.ofInt (1 - x)), ?_, fr_pI rfl, ⟨by rw [gI_pI, if_pos ⟨rfl, rfl⟩], skI_p hk.2 (Nat.le_refl _)⟩⟩
    have n1 : (1 : Int32) ≤ nI (q.length + 1) := by rw [show (1 : Int32) = nI 1 from rfl, nJ_le (by omega) (by omega)]; omega
    have e1 : (1 : Int32) - Int32.ofInt x = Int32.ofInt (1 - x) := by rw [Int32.ofInt_sub]; rfl
    have hkx := hk.1
    rw [Wy_isLeaving_6_eq]
    simp (disch := omega) only [gI_pI, gI_pL, gI_pR, gL_pI, gL_pL, gL_pR, gR_pI, gR_pL, gR_pR, gS_pI, gS_pL, gS_pR, ↓reduceIte, Nat.reduceEqDiff, decide_eq_true_eq, Option.bind_some, false_and, and_false, true_and, and_true, and_self, Nat.reduceAdd, not_false_eq_true, not_true_eq_false, wS, wR, inI, ite_self, Classical.not_not, hsa, hra, hsA, nJ_le, hle, ax_in, nJ_nn, nJ_n, hi, hx, c1, show nI 9 = 9 from rfl, show ¬ (9 : Int32) = 0 by decide, show ¬ (9 : Int32) = 1 by decide, n1, nI_pred, hq64, hkx, e1, nJ_p1]
  · obtain ⟨y, q, rfl, h3, h4⟩ := vt_c hv
    obtain ⟨x, q, rfl, h5, h6⟩ := vt_c h4
    rw [List.length_cons, List.length_cons] at hb2
    rw [List.length_cons, List.length_cons, List.length_cons, List.length_cons] at hlen
    rw [List.sum_cons, List.sum_cons] at hb
    have hq64 : q.length < 64 := by omega
    have hq65 : q.length + 1 < 64 := by omega
    have h9 : 2 ≤ e.1 ∧ e.1 ≠ 9 ∧ e.1 < 12 := by omega
    have c1 := cd_15 (e := e) (by omega) (by omega)
    have o0 : ¬ nI e.1 = 0 := by rw [nI_eq0 (by omega)]; omega
    have o1 : ¬ nI e.1 = 1 := by rw [nI_eq1 (by omega)]; omega
    have o9 : ¬ nI e.1 = 9 := by rw [nI_eq9 (by omega)]; omega
    have bx : -1073741824 ≤ x ∧ x ≤ 1073741823 := by
      unfold vt1 at h5
      split at h5 <;> omega
    have by' : -1073741824 ≤ y ∧ y ≤ 1073741823 := by
      unfold vt1 at h3
      split at h3 <;> omega
    have hC := z_combine (o := e.1) (a := x) (b := y) (by
      rcases hh with ⟨z, -⟩ | ⟨z1, z2, -⟩ | ⟨z, rfl, rfl, -⟩
      · exact Or.inl (by omega)
      · exact Or.inl (by omega)
      · exact Or.inr ⟨z, vt_0.mp h5, vt_0.mp h3⟩) bx by' h
    rw [ev_bin h9.1 h9.2.1, List.length_cons, List.length_cons, List.length_cons]
    refine ⟨pI h 157 q.length (Int32.ofInt (bz e.1 x y)), ?_, fr_pI rfl, ⟨by rw [gI_pI, if_pos ⟨rfl, rfl⟩], skI_p hk.2.2 (Nat.le_refl _)⟩⟩
    have n2 : (2 : Int32) ≤ nI (q.length + 1 + 1) := by rw [show (2 : Int32) = nI 2 from rfl, nJ_le (by omega) (by omega)]; omega
    have k1 := hk.1
    have k2 := hk.2.1
    rw [List.length_cons] at k1
    rw [Wy_isLeaving_6_eq]
    simp (disch := omega) only [gI_pI, gI_pL, gI_pR, gL_pI, gL_pL, gL_pR, gR_pI, gR_pL, gR_pR, gS_pI, gS_pL, gS_pR, ↓reduceIte, Nat.reduceEqDiff, decide_eq_true_eq, Option.bind_some, false_and, and_false, true_and, and_true, and_self, Nat.reduceAdd, not_false_eq_true, not_true_eq_false, wS, wR, inI, ite_self, Classical.not_not, hsa, hra, hsA, nJ_le, hle, ax_in, nJ_nn, nJ_n, hi, hx, c1, o0, o1, o9, n2, nI_pred, pk_m1, hq64, hq65, k1, k2, ↓bnd hC, nJ_p1]
theorem z_lv {a A L m : Nat} (hA : 207 ≤ A) (hL : L ≤ 1000) : ∀ (cs : Cd) (i : Nat) (ts ts' : List Nat) (s : List Int) (h : ax_H), ok h → GV (V h) → m < nM (V h) → (gS h a).1 = 5 → gR h a 3 = A → gS h A = (16, L) → (∀ k e, cs[k]? = some e → gI h A (i + k) = nI (cdN e)) → i + cs.length ≤ L → tyL cs ts ts' → vtP s ts → skI h 157 s → ts.sum + npu cs ≤ 62 → ts.length + npu cs ≤ 62 → ∃ h', Wy_isLeaving_6 a 65 (nI m) 157 (nI s.length) (nI i) h = Wy_isLeaving_6 a 65 (nI m) 157 (nI (evL (askF (V h) m) cs s).length) (nI (i + cs.length)) h' ∧ fr S157 h h' ∧ skI h' 157 (evL (askF (V h) m) cs s) := by
  intro cs
  induction cs with
  | nil =>
    intro i ts ts' s h w g hm h1 h2 h3 h4 h5 h6 h7 h8 h9 h10
    exact ⟨h, rfl, fr_rf _ _, h8⟩
  | cons e cs ih =>
    intro i ts ts' s h w g hm h1 h2 h3 h4 h5 h6 h7 h8 h9 h10
    obtain ⟨t1, q1, q2⟩ := h6
    rw [List.length_cons] at h5
    rw [npu] at h9 h10
    have hb := ty_bd q1
    obtain ⟨x1, r1, r2, r3⟩ := z_lv_st w g hm h1 h2 h3 hL (i := i) (by omega) (h4 0 e rfl) q1 h7 h8 (by omega) (by omega)
    have hV := V_frc (S157_c r2)
    have hI : ∀ k, gI x1 A k = gI h A k := fun k => fr_I r2 (by simp only [S157, decide_eq_false_iff_not]; omega)
    obtain ⟨h', s1, s2, s3⟩ := ih (i + 1) t1 ts' _ x1 (ok_fr r2 w) (by rw [hV]; exact g) (by rw [hV]; exact hm) (by rw [fr_S r2]; exact h1) (by rw [fr_R r2]; exact h2) (by rw [fr_S r2]; exact h3) (fun k e' hk => by rw [hI, ← h4 (k + 1) e' hk]; congr 1; omega) (by omega) q2 (vt_step (fun w' _ => ask_bd g hm w') q1 h7) r3 (by omega) (by omega)
    rw [hV] at s1 s3
    refine ⟨h', ?_, fr_tr r2 s2, s3⟩
    rw [r1, s1, List.length_cons, show i + 1 + cs.length = i + (cs.length + 1) by omega]
    rfl
/-! a way's data: what it does with each term, what is held, its hand, its tests -/
abbrev WD : Type := (Nat → Int32) × (Nat → Int32) × Int32 × List Cd
def WF (D : WD) : Prop := (∀ t, t < 6 → inI (D.1 t) 0 3 ∧ inI (D.2.1 t) (-99999) 99999 ∧ (¬ D.1 t = 2 → D.2.1 t = 0)) ∧ inI D.2.2.1 (-1) 7 ∧ (∀ T ∈ D.2.2.2, tOk T) ∧ npT D.2.2.2 ≤ 60 ∧ D.2.2.2.length ≤ 12 ∧ (jnT D.2.2.2).length ≤ 400 ∧ cntB (fun t => decide (D.1 t = 1)) 6 0 ≤ 3
def WC (h : ax_H) (a : Nat) (D : WD) : Prop := (207 ≤ a ∧ a < gN h ∧ (gS h a).1 = 5) ∧ (207 ≤ gR h a 0 ∧ gR h a 0 < gN h ∧ gS h (gR h a 0) = (16, 6)) ∧ (207 ≤ gR h a 1 ∧ gR h a 1 < gN h ∧ gS h (gR h a 1) = (16, 6)) ∧ (207 ≤ gR h a 3 ∧ gR h a 3 < gN h ∧ gS h (gR h a 3) = (16, (jnT D.2.2.2).length)) ∧ (∀ t, t < 6 → gI h (gR h a 0) t = D.1 t) ∧ (∀ t, t < 6 → gI h (gR h a 1) t = D.2.1 t) ∧ gI h a 2 = D.2.2.1 ∧ ∀ k e, (jnT D.2.2.2)[k]? = some e → gI h (gR h a 3) k = nI (cdN e)
def WM (h : ax_H) (w : Nat) (D : WD) : Prop := (∀ t, t < 6 → gI h 179 (6 * w + t) = D.1 t) ∧ (∀ t, t < 6 → gI h 180 (6 * w + t) = D.2.1 t) ∧ gI h 178 w = D.2.2.1 ∧ gI h 177 w = nI D.2.2.2.length ∧ ∀ c T, D.2.2.2[c]? = some T → ∃ s, s + T.length ≤ 300 ∧ gI h 175 (12 * w + c) = nI s ∧ gI h 176 (12 * w + c) = nI (s + T.length) ∧ ∀ k e, T[k]? = some e → gI h 173 (300 * w + s + k) = nI e.1 ∧ gI h 174 (300 * w + s + k) = nI e.2
theorem WC_fr {S : Nat → Nat → Bool} {h h' : ax_H} (q : fr S h h') (hS : ∀ a k, 207 ≤ a → S a k = false) {a : Nat} {D : WD} (c : WC h a D) : WC h' a D := by
  obtain ⟨c1, c2, c3, c4, c5, c6, c7, c8⟩ := c
  have hI : ∀ a k, 207 ≤ a → gI h' a k = gI h a k := fun a k z => fr_I q (hS a k z)
  unfold WC
  rw [fr_R q, fr_S q, q.1]
  exact ⟨c1, c2, c3, c4, fun t ht => (hI _ _ c2.1).trans (c5 t ht), fun t ht => (hI _ _ c3.1).trans (c6 t ht), (hI _ _ c1.1).trans c7, fun k e z => (hI _ _ c4.1).trans (c8 k e z)⟩
theorem WM_eq {h h' : ax_H} (q : ∀ a k, 173 ≤ a → a ≤ 180 → gI h' a k = gI h a k) {w : Nat} {D : WD} (c : WM h w D) : WM h' w D := by
  obtain ⟨c1, c2, c3, c4, c5⟩ := c
  refine ⟨fun t ht => (q _ _ (by omega) (by omega)).trans (c1 t ht), fun t ht => (q _ _ (by omega) (by omega)).trans (c2 t ht), (q _ _ (by omega) (by omega)).trans c3, (q _ _ (by omega) (by omega)).trans c4, fun c T hc => ?_⟩
  obtain ⟨s, s1, s2, s3, s4⟩ := c5 c T hc
  exact ⟨s, s1, (q _ _ (by omega) (by omega)).trans s2, (q _ _ (by omega) (by omega)).trans s3, fun k e z => ⟨(q _ _ (by omega) (by omega)).trans (s4 k e z).1, (q _ _ (by omega) (by omega)).trans (s4 k e z).2⟩⟩
def lvB (V : BV) (D : WD) (i : Nat) : Bool := anT (askF V i) D.2.2.2
theorem z_isLeaving {h : ax_H} (w : ok h) (g : GV (V h)) {a m : Nat} (hm : m < nM (V h)) {D : WD} (c : WC h a D) (f : WF D) : ∃ h', Wy_isLeaving a 65 (nI m) 157 h = some (bI (lvB (V h) D m = true), h') ∧ fr S157 h h' := by
  obtain ⟨c1, c2, c3, c4, c5, c6, c7, c8⟩ := c
  obtain ⟨f1, f2, f3, f4, f5, f6, f7⟩ := f
  unfold lvB
  obtain ⟨Ts, hTs⟩ : ∃ Ts, Ts = D.2.2.2 := ⟨_, rfl⟩
  rw [← hTs] at c4 c8 f3 f4 f6 ⊢
  match Ts with
  | [] =>
    refine ⟨h, ?_, fr_rf _ _⟩
    have e1 : gS h (gR h a 3) = (16, 0) := c4.2.2
    rw [Wy_isLeaving_eq, Wy_isLeaving_6_eq]
    simp only [c1.2.2, e1, ↓reduceIte]
    rfl
  | T :: r =>
    obtain ⟨h', r1, r2, r3⟩ := z_lv (a := a) (m := m) c4.1 (L := (jnT (T :: r)).length) (by omega) (jnT (T :: r)) 0 [] [0] [] h w g hm c1.2.2 rfl c4.2.2 (fun k e z => by rw [Nat.zero_add]; exact c8 k e z) (by omega) (jnT_ty f3) trivial trivial (by rw [jnT_n]; show 0 + _ ≤ _; omega) (by rw [jnT_n]; show 0 + _ ≤ _; omega)
    rw [jnT_ev (fun w' _ => ask_bd g hm w') f3] at r1 r3
    refine ⟨h', ?_, r2⟩
    rw [Wy_isLeaving_eq]
    refine Eq.trans r1 ?_
    have k0 := r3.1
    replace k0 : gI h' 157 0 = _ := k0
    have sA : (gS h' a).1 = 5 := by rw [fr_S r2]; exact c1.2.2
    have sB : gS h' (gR h' a 3) = (16, (jnT (T :: r)).length) := by rw [fr_S r2, fr_R r2]; exact c4.2.2
    obtain ⟨wS, wR, wG, wN⟩ := ok_fr r2 w
    have hle : (jnT (T :: r)).length ≤ 0 + (jnT (T :: r)).length := by omega
    have e1 : nI [if anT (askF (V h) m) (T :: r) = true then (1 : Int) else 0].length = 1 := rfl
    rw [Wy_isLeaving_6_eq, e1]
    simp (disch := omega) only [gI_pI, gI_pL, gI_pR, gL_pI, gL_pL, gL_pR, gR_pI, gR_pL, gR_pR, gS_pI, gS_pL, gS_pR, ↓reduceIte, Nat.reduceEqDiff, decide_eq_true_eq, Option.bind_some, false_and, and_false, true_and, and_true, and_self, Nat.reduceAdd, not_false_eq_true, not_true_eq_false, wS, wR, inI, ite_self, Classical.not_not, sA, sB, nJ_le, hle, ax_in, show Int32.toNatClampNeg 0 = 0 from rfl, k0, show ¬ (0 : Int32) < 0 by decide, show (0 : Nat) < 64 by decide]
    unfold bI
    cases anT (askF (V h) m) (T :: r) with
    | true => rfl
    | false => rfl
