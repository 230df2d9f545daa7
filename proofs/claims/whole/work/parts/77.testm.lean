/-! tests: the reference's run -/
def skL (h : ax_H) (a : Nat) : List Int → Prop
  | [] => True
  | v :: s => gL h a s.length = Int64.ofInt v ∧ skL h a s
theorem skL_fr {h h' : ax_H} {a : Nat} : ∀ (s : List Int), (∀ k, k < s.length → gL h' a k = gL h a k) → skL h a s → skL h' a s
  | [], _, _ => trivial
  | v :: s, q, ⟨h1, h2⟩ => ⟨(q s.length (by rw [List.length_cons]; omega)).trans h1, skL_fr s (fun k hk => q k (by rw [List.length_cons]; omega)) h2⟩
theorem skL_p {h : ax_H} {a n : Nat} {v : Int64} {s : List Int} (hs : skL h a s) (hn : s.length ≤ n) : skL (pL h a n v) a s := skL_fr s (fun k hk => by rw [gL_pL, if_neg (by rintro ⟨_, rfl⟩; omega)]) hs
theorem zm_both {o : Nat} {a b : Int} (ho : (2 ≤ o ∧ o ≤ 8) ∨ ((o = 10 ∨ o = 11) ∧ (a = 0 ∨ a = 1) ∧ (b = 0 ∨ b = 1))) (ha : -1073741824 ≤ a ∧ a ≤ 1073741823) (hb : -1073741824 ≤ b ∧ b ≤ 1073741823) (h : ax_H) : M_both (nI o) (Int64.ofInt a) (Int64.ofInt b) h = some (Int64.ofInt (bz o a b), h) := by
  have ta := l_toInt (z := a) (by omega)
  have tb := l_toInt (z := b) (by omega)
  have t0 : M_truth 0 h = some (0, h) := by rw [M_truth_eq]; rfl
  have t1 : M_truth 1 h = some (1, h) := by rw [M_truth_eq]; rfl
  rw [M_both_eq]
  simp only [decide_eq_true_eq, lgc_lt, lgc_le, lgc_ge, lgc_gt, lgc_eq, ta, tb, t0, t1, Option.bind_some]
  have hc : o = 2 ∨ o = 3 ∨ o = 4 ∨ o = 5 ∨ o = 6 ∨ o = 7 ∨ o = 8 ∨ o = 10 ∨ o = 11 := by omega
  rcases hc with rfl | rfl | rfl | rfl | rfl | rfl | rfl | rfl | rfl
  · show some (Int64.ofInt a + Int64.ofInt b, h) = some (Int64.ofInt (a + b), h)
    rw [Int64.ofInt_add]
  · show some (Int64.ofInt a - Int64.ofInt b, h) = some (Int64.ofInt (a - b), h)
    rw [Int64.ofInt_sub]
  · show (if b ≤ a then some ((0 : Int64), h) else some (1, h)) = some (Int64.ofInt (if a < b then 1 else 0), h)
    by_cases q : b ≤ a
    · rw [if_pos q, if_neg (by omega)]; rfl
    · rw [if_neg q, if_pos (by omega)]; rfl
  · show (if b < a then some ((0 : Int64), h) else some (1, h)) = some (Int64.ofInt (if a ≤ b then 1 else 0), h)
    by_cases q : b < a
    · rw [if_pos q, if_neg (by omega)]; rfl
    · rw [if_neg q, if_pos (by omega)]; rfl
  · show (if ¬ a = b then some ((0 : Int64), h) else some (1, h)) = some (Int64.ofInt (if a = b then 1 else 0), h)
    by_cases q : a = b
    · rw [if_neg (not_not_intro q), if_pos q]; rfl
    · rw [if_pos q, if_neg q]; rfl
  · show (if a < b then some ((0 : Int64), h) else some (1, h)) = some (Int64.ofInt (if b ≤ a then 1 else 0), h)
    by_cases q : a < b
    · rw [if_pos q, if_neg (by omega)]; rfl
    · rw [if_neg q, if_pos (by omega)]; rfl
  · show (if a ≤ b then some ((0 : Int64), h) else some (1, h)) = some (Int64.ofInt (if b < a then 1 else 0), h)
    by_cases q : a ≤ b
    · rw [if_pos q, if_neg (by omega)]; rfl
    · rw [if_neg q, if_pos (by omega)]; rfl
  · obtain ⟨h1, h2⟩ : (a = 0 ∨ a = 1) ∧ (b = 0 ∨ b = 1) := by omega
    rcases h1 with rfl | rfl <;> rcases h2 with rfl | rfl <;> rfl
  · obtain ⟨h1, h2⟩ : (a = 0 ∨ a = 1) ∧ (b = 0 ∨ b = 1) := by omega
    rcases h1 with rfl | rfl <;> rcases h2 with rfl | rfl <;> rfl
def S183 (a _k : Nat) : Bool := decide (a = 183)
theorem S183_m {h h' : ax_H} (q : fr S183 h h') : fr Sm h h' := fr_le q fun a k z => by simp only [Sm, S183, decide_eq_false_iff_not] at z ⊢; omega
def AL (h : ax_H) (m : Nat) : Prop := ∀ v, v < 13 → gL h 182 v = Int64.ofInt (askF (V h) m v)
theorem zm_it_st {h : ax_H} (i0 : I0 h) {m w p n : Nat} (hm : m < nM (V h)) (hw : w < 10) (hp : p < n) (hn : n ≤ 300) (hA : AL h m) {e : Nat × Nat} (hx : gI h 173 (300 * w + p) = nI e.1) (hy : gI h 174 (300 * w + p) = nI e.2) {ts ts' : List Nat} (ht : tyR e ts ts') {s : List Int} (hv : vtP s ts) (hk : skL h 183 s) (hb : ts.sum + pu e ≤ 62) (hb2 : ts.length + pu e ≤ 62) : ∃ h1, M_isTrue_6 159 (nI w) (nI n) (nI s.length) (nI p) h = M_isTrue_6 159 (nI w) (nI n) (nI (evS (askF (V h) m) e s).length) (nI (p + 1)) h1 ∧ fr S183 h h1 ∧ skL h1 183 (evS (askF (V h) m) e s) := by
  have hlen := vt_len hv
  obtain ⟨wk, ek, g⟩ := i0
  obtain ⟨wS, wR, wG, wN⟩ := wk
  have hle : ¬ n ≤ p := by omega
  have i1 : 300 * w + p < 3000 := by omega
  rcases ht with ⟨h1, h2, rfl⟩ | ⟨h1, h2, rfl⟩ | ⟨h1, h0, r, rfl, rfl⟩ | ⟨a', b', r, h0, rfl, hh⟩
  · have h64 : s.length < 300 := by unfold pu at hb2; rw [if_pos (by omega)] at hb2; omega
    rw [h1] at hx
    have eE : evS (askF (V h) m) e s = (e.2 : Int) :: s := by unfold evS; rw [if_pos h1]
    rw [eE, List.length_cons]
    refine ⟨pL h 183 s.length (nI e.2).toInt64, ?_, fr_pL rfl, ⟨by rw [gL_pL, if_pos ⟨rfl, rfl⟩, i_L, nJ_i (by omega)], skL_p hk (Nat.le_refl _)⟩⟩
    rw [M_isTrue_6_eq]
    simp (disch := omega) only [gI_pI, gI_pL, gI_pR, gL_pI, gL_pL, gL_pR, gR_pI, gR_pL, gR_pR, gS_pI, gS_pL, gS_pR, ↓reduceIte, Nat.reduceEqDiff, decide_eq_true_eq, Option.bind_some, false_and, and_false, true_and, and_true, and_self, Nat.reduceAdd, not_false_eq_true, not_true_eq_false, wS, wR, inI, ite_self, Classical.not_not, nJ_le, hle, ax_in, show (300 : Int32) = nI 300 from rfl, pk_mul, nI_add, i1, nJ_nn, nJ_n, hx, hy, show nI 0 = 0 from rfl, M_isTrue_53_eq, h64, nJ_p1]
  · have h64 : s.length < 300 := by unfold pu at hb2; rw [if_pos (by omega)] at hb2; omega
    rw [h1] at hx
    have hAL := hA e.2 h2
    have eE : evS (askF (V h) m) e s = askF (V h) m e.2 :: s := by unfold evS; rw [if_neg (by omega), if_pos h1]
    rw [eE, List.length_cons]
    refine ⟨pL h 183 s.length (Int64.ofInt (askF (V h) m e.2)), ?_, fr_pL rfl, ⟨by rw [gL_pL, if_pos ⟨rfl, rfl⟩], skL_p hk (Nat.le_refl _)⟩⟩
    rw [M_isTrue_6_eq]
    simp (disch := omega) only [gI_pI, gI_pL, gI_pR, gL_pI, gL_pL, gL_pR, gR_pI, gR_pL, gR_pR, gS_pI, gS_pL, gS_pR, ↓reduceIte, Nat.reduceEqDiff, decide_eq_true_eq, Option.bind_some, false_and, and_false, true_and, and_true, and_self, Nat.reduceAdd, not_false_eq_true, not_true_eq_false, wS, wR, inI, ite_self, Classical.not_not, nJ_le, hle, ax_in, show (300 : Int32) = nI 300 from rfl, pk_mul, nI_add, i1, nJ_nn, nJ_n, hx, hy, show nI 1 = 1 from rfl, i1_0, M_isTrue_53_eq, h64, h2, hAL, nJ_p1]
  · obtain ⟨x, q, rfl, h3, h4⟩ := vt_c hv
    rw [List.length_cons, List.length_cons] at hlen
    have hq64 : q.length < 300 := by rw [List.length_cons] at hb2; omega
    rw [h1] at hx
    rw [ev_not h1, List.length_cons, List.length_cons]
    refine ⟨pL h 183 q.length (Int64.ofInt (1 - x)), ?_, fr_pL rfl, ⟨by rw [gL_pL, if_pos ⟨rfl, rfl⟩], skL_p hk.2 (Nat.le_refl _)⟩⟩
    have e1 : (1 : Int64) - Int64.ofInt x = Int64.ofInt (1 - x) := by rw [Int64.ofInt_sub]; rfl
    have hkx := hk.1
    rw [M_isTrue_6_eq]
    simp (disch := omega) only [gI_pI, gI_pL, gI_pR, gL_pI, gL_pL, gL_pR, gR_pI, gR_pL, gR_pR, gS_pI, gS_pL, gS_pR, ↓reduceIte, Nat.reduceEqDiff, decide_eq_true_eq, Option.bind_some, false_and, and_false, true_and, and_true, and_self, Nat.reduceAdd, not_false_eq_true, not_true_eq_false, wS, wR, inI, ite_self, Classical.not_not, nJ_le, hle, ax_in, show (300 : Int32) = nI 300 from rfl, pk_mul, nI_add, i1, nJ_nn, nJ_n, hx, hy, show nI 9 = 9 from rfl, show ¬ (9 : Int32) = 0 by decide, show ¬ (9 : Int32) = 1 by decide, nI_pred, hq64, hkx, e1, nJ_p1]
  · obtain ⟨y, q, rfl, h3, h4⟩ := vt_c hv
    obtain ⟨x, q, rfl, h5, h6⟩ := vt_c h4
    rw [List.length_cons, List.length_cons] at hb2
    rw [List.length_cons, List.length_cons, List.length_cons, List.length_cons] at hlen
    rw [List.sum_cons, List.sum_cons] at hb
    have hq64 : q.length < 300 := by omega
    have hq65 : q.length + 1 < 300 := by omega
    have h9 : 2 ≤ e.1 ∧ e.1 ≠ 9 ∧ e.1 < 12 := by omega
    have o0 : ¬ nI e.1 = 0 := by rw [nI_eq0 (by omega)]; omega
    have o1 : ¬ nI e.1 = 1 := by rw [nI_eq1 (by omega)]; omega
    have o9 : ¬ nI e.1 = 9 := by rw [nI_eq9 (by omega)]; omega
    have bx : -1073741824 ≤ x ∧ x ≤ 1073741823 := by
      unfold vt1 at h5
      split at h5 <;> omega
    have by' : -1073741824 ≤ y ∧ y ≤ 1073741823 := by
      unfold vt1 at h3
      split at h3 <;> omega
    have hC := zm_both (o := e.1) (a := x) (b := y) (by
      rcases hh with ⟨z, -⟩ | ⟨z1, z2, -⟩ | ⟨z, rfl, rfl, -⟩
      · exact Or.inl (by omega)
      · exact Or.inl (by omega)
      · exact Or.inr ⟨z, vt_0.mp h5, vt_0.mp h3⟩) bx by' h
    rw [ev_bin h9.1 h9.2.1, List.length_cons, List.length_cons, List.length_cons]
    refine ⟨pL h 183 q.length (Int64.ofInt (bz e.1 x y)), ?_, fr_pL rfl, ⟨by rw [gL_pL, if_pos ⟨rfl, rfl⟩], skL_p hk.2.2 (Nat.le_refl _)⟩⟩
    have k1 := hk.1
    have k2 := hk.2.1
    rw [List.length_cons] at k1
    rw [M_isTrue_6_eq]
    simp (disch := omega) only [gI_pI, gI_pL, gI_pR, gL_pI, gL_pL, gL_pR, gR_pI, gR_pL, gR_pR, gS_pI, gS_pL, gS_pR, ↓reduceIte, Nat.reduceEqDiff, decide_eq_true_eq, Option.bind_some, false_and, and_false, true_and, and_true, and_self, Nat.reduceAdd, not_false_eq_true, not_true_eq_false, wS, wR, inI, ite_self, Classical.not_not, nJ_le, hle, ax_in, show (300 : Int32) = nI 300 from rfl, pk_mul, nI_add, i1, nJ_nn, nJ_n, hx, hy, o0, o1, o9, nI_pred, pk_m1, hq64, hq65, k1, k2, ↓bnd hC, nJ_p1]
theorem zm_it {m w n : Nat} (hw : w < 10) (hn : n ≤ 300) : ∀ (cs : Cd) (p : Nat) (ts ts' : List Nat) (s : List Int) (h : ax_H), I0 h → m < nM (V h) → AL h m → (∀ k e, cs[k]? = some e → gI h 173 (300 * w + p + k) = nI e.1 ∧ gI h 174 (300 * w + p + k) = nI e.2) → p + cs.length ≤ n → tyL cs ts ts' → vtP s ts → skL h 183 s → ts.sum + npu cs ≤ 62 → ts.length + npu cs ≤ 62 → ∃ h', M_isTrue_6 159 (nI w) (nI n) (nI s.length) (nI p) h = M_isTrue_6 159 (nI w) (nI n) (nI (evL (askF (V h) m) cs s).length) (nI (p + cs.length)) h' ∧ fr S183 h h' ∧ skL h' 183 (evL (askF (V h) m) cs s) := by
  intro cs
  induction cs with
  | nil =>
    intro p ts ts' s h i0 hm hA h4 h5 h6 h7 h8 h9 h10
    exact ⟨h, rfl, fr_rf _ _, h8⟩
  | cons e cs ih =>
    intro p ts ts' s h i0 hm hA h4 h5 h6 h7 h8 h9 h10
    obtain ⟨t1, q1, q2⟩ := h6
    rw [List.length_cons] at h5
    rw [npu] at h9 h10
    have hb := ty_bd q1
    have h40 := h4 0 e rfl
    rw [Nat.add_zero] at h40
    obtain ⟨x1, r1, r2, r3⟩ := zm_it_st i0 hm hw (p := p) (n := n) (by omega) hn hA h40.1 h40.2 q1 h7 h8 (by omega) (by omega)
    have hV := V_frm (S183_m r2)
    have g := i0.2.2
    have hI : ∀ a k, a < 181 → gI x1 a k = gI h a k := fun a k z => fr_I r2 (by simp only [S183, decide_eq_false_iff_not]; omega)
    obtain ⟨h', s1, s2, s3⟩ := ih (p + 1) t1 ts' _ x1 (I0_frm (S183_m r2) i0) (by rw [hV]; exact hm) (fun v hv => by rw [hV, ← hA v hv]; exact fr_L r2 rfl) (fun k e' hk => by
      have := h4 (k + 1) e' hk
      rw [hI _ _ (by omega), hI _ _ (by omega), show 300 * w + (p + 1) + k = 300 * w + p + (k + 1) by omega]
      exact this) (by omega) q2 (vt_step (fun w' _ => ask_bd g hm w') q1 h7) r3 (by omega) (by omega)
    rw [hV] at s1 s3
    refine ⟨h', ?_, fr_tr r2 s2, s3⟩
    rw [r1, s1, List.length_cons, show p + 1 + cs.length = p + (cs.length + 1) by omega]
    rfl
theorem zm_isTrue {h : ax_H} (i0 : I0 h) {m w s : Nat} (hm : m < nM (V h)) (hw : w < 10) (hA : AL h m) {T : Cd} (hT : tOk T) (hn : npu T ≤ 60) (hs : s + T.length ≤ 300) (h4 : ∀ k e, T[k]? = some e → gI h 173 (300 * w + s + k) = nI e.1 ∧ gI h 174 (300 * w + s + k) = nI e.2) : ∃ h', M_isTrue 159 (nI w) (nI s) (nI (s + T.length)) h = some (bI (bT (askF (V h) m) T = 1), h') ∧ fr S183 h h' := by
  obtain ⟨h', r1, r2, r3⟩ := zm_it hw hs T s [] [0] [] h i0 hm hA h4 (by omega) hT trivial trivial (by show 0 + _ ≤ _; omega) (by show 0 + _ ≤ _; omega)
  obtain ⟨e1, e2⟩ := bT_ev (fun w' _ => ask_bd i0.2.2 hm w') hT []
  rw [e1] at r1 r3
  refine ⟨h', ?_, r2⟩
  rw [M_isTrue_eq]
  refine Eq.trans r1 ?_
  have k0 := r3.1
  replace k0 : gL h' 183 0 = _ := k0
  obtain ⟨wS, wR, wG, wN⟩ := ok_fr r2 i0.1
  have hle : s + T.length ≤ s + T.length := Nat.le_refl _
  have c1 : lg_cmp (Int64.ofInt (bT (askF (V h) m) T)) 1 = 0 ↔ bT (askF (V h) m) T = 1 := by
    rw [lgc_eq, l_toInt (by omega)]
    rfl
  rw [M_isTrue_6_eq]
  simp (disch := omega) only [gI_pI, gI_pL, gI_pR, gL_pI, gL_pL, gL_pR, gR_pI, gR_pL, gR_pR, gS_pI, gS_pL, gS_pR, ↓reduceIte, Nat.reduceEqDiff, decide_eq_true_eq, Option.bind_some, false_and, and_false, true_and, and_true, and_self, Nat.reduceAdd, not_false_eq_true, not_true_eq_false, wS, wR, inI, ite_self, Classical.not_not, nJ_le, hle, ax_in, show Int32.toNatClampNeg 0 = 0 from rfl, k0, show ¬ (0 : Int32) < 0 by decide, show (0 : Nat) < 300 by decide, c1]
  unfold bI
  by_cases q : bT (askF (V h) m) T = 1
  · rw [if_neg (not_not_intro q), if_pos q]
  · rw [if_pos q, if_neg q]
def S823 (a _k : Nat) : Bool := decide (a = 182 ∨ a = 183)
theorem S823_m {h h' : ax_H} (q : fr S823 h h') : fr Sm h h' := fr_le q fun a k z => by simp only [Sm, S823, decide_eq_false_iff_not] at z ⊢; omega
theorem S183_8 {h h' : ax_H} (q : fr S183 h h') : fr S823 h h' := fr_le q fun a k z => by simp only [S183, S823, decide_eq_false_iff_not] at z ⊢; omega
theorem npT_mem : ∀ {L : List Cd} {T : Cd}, T ∈ L → npu T ≤ npT L
  | S :: r, T, h => by
    rw [npT]
    rcases List.mem_cons.mp h with rfl | h
    · omega
    · have := npT_mem h
      omega
theorem zm_il_190 {m w : Nat} {D : WD} (f : WF D) (hw : w < 10) : ∀ (r : List Cd) (c : Nat) (h : ax_H), c + r.length = D.2.2.2.length → (∀ k T, r[k]? = some T → D.2.2.2[c + k]? = some T) → I0 h → m < nM (V h) → AL h m → WM h w D → ∃ h', M_isLeft_190 159 (nI w) 0 (nI c) h = some (bI (anT (askF (V h) m) r = true), h') ∧ fr S183 h h' := by
  obtain ⟨f1, f2, f3, f4, f5, f6, f7⟩ := f
  intro r
  induction r with
  | nil =>
    intro c h hc hr i0 hm hA hM
    obtain ⟨m1, m2, m3, m4, m5⟩ := hM
    obtain ⟨wS, wR, wG, wN⟩ := i0.1
    rw [List.length_nil] at hc
    have hle : D.2.2.2.length ≤ c := by omega
    refine ⟨h, ?_, fr_rf _ _⟩
    rw [M_isLeft_190_eq]
    simp (disch := omega) only [gI_pI, gI_pL, gI_pR, gL_pI, gL_pL, gL_pR, gR_pI, gR_pL, gR_pR, gS_pI, gS_pL, gS_pR, ↓reduceIte, Nat.reduceEqDiff, decide_eq_true_eq, Option.bind_some, false_and, and_false, true_and, and_true, and_self, Nat.reduceAdd, not_false_eq_true, not_true_eq_false, wS, wR, inI, ite_self, Classical.not_not, ax_in, nJ_nn, nJ_n, hw, m4, nJ_le, hle, true_or]
    rfl
  | cons T r ih =>
    intro c h hc hr i0 hm hA hM
    have hM0 := hM
    obtain ⟨m1, m2, m3, m4, m5⟩ := hM
    rw [List.length_cons] at hc
    have hT0 := hr 0 T rfl
    rw [Nat.add_zero] at hT0
    obtain ⟨s, s1, s2, s3, s4⟩ := m5 c T hT0
    have hmem : T ∈ D.2.2.2 := List.mem_of_getElem? hT0
    obtain ⟨x1, r1, r2⟩ := zm_isTrue i0 hm hw hA (f3 T hmem) (by have := npT_mem hmem; omega) s1 s4
    have hle : ¬ D.2.2.2.length ≤ c := by omega
    have hV := V_frm (S183_m r2)
    have i1 : 12 * w + c < 120 := by omega
    have hAn : anT (askF (V h) m) (T :: r) = (decide (bT (askF (V h) m) T = 1) || anT (askF (V h) m) r) := rfl
    have hun : M_isLeft_190 159 (nI w) 0 (nI c) h = M_isLeft_190 159 (nI w) (bI (bT (askF (V h) m) T = 1)) (nI (c + 1)) x1 := by
      obtain ⟨wS, wR, wG, wN⟩ := i0.1
      rw [M_isLeft_190_eq]
      simp (disch := omega) only [gI_pI, gI_pL, gI_pR, gL_pI, gL_pL, gL_pR, gR_pI, gR_pL, gR_pR, gS_pI, gS_pL, gS_pR, ↓reduceIte, Nat.reduceEqDiff, decide_eq_true_eq, Option.bind_some, false_and, and_false, true_and, and_true, and_self, Nat.reduceAdd, not_false_eq_true, not_true_eq_false, wS, wR, inI, ite_self, Classical.not_not, ax_in, nJ_nn, nJ_n, hw, m4, nJ_le, hle, show (12 : Int32) = nI 12 from rfl, pk_mul, nI_add, i1, s2, s3, ↓bnd r1, nJ_p1]
    have hM1 : WM x1 w D := WM_eq (fun a k z1 z2 => fr_I r2 (by simp only [S183, decide_eq_false_iff_not]; omega)) hM0
    by_cases q : bT (askF (V h) m) T = 1
    · refine ⟨x1, ?_, r2⟩
      rw [hun, hAn, decide_eq_true q, Bool.true_or]
      have b1 : bI (bT (askF (V h) m) T = 1) = 1 := by unfold bI; rw [if_pos q]
      rw [b1]
      obtain ⟨m1', m2', m3', m4', m5'⟩ := hM1
      obtain ⟨wS, wR, wG, wN⟩ := ok_fr r2 i0.1
      rw [M_isLeft_190_eq]
      simp (disch := omega) only [gI_pI, gI_pL, gI_pR, gL_pI, gL_pL, gL_pR, gR_pI, gR_pL, gR_pR, gS_pI, gS_pL, gS_pR, ↓reduceIte, Nat.reduceEqDiff, decide_eq_true_eq, Option.bind_some, false_and, and_false, true_and, and_true, and_self, Nat.reduceAdd, not_false_eq_true, not_true_eq_false, wS, wR, inI, ite_self, Classical.not_not, ax_in, nJ_nn, nJ_n, hw, i1_0, or_true]
      rfl
    · obtain ⟨h', t1, t2⟩ := ih (c + 1) x1 (by omega) (fun k T' hk => by have := hr (k + 1) T' hk; rw [show c + 1 + k = c + (k + 1) by omega]; exact this) (I0_frm (S183_m r2) i0) (by rw [hV]; exact hm) (fun v hv => by rw [hV, ← hA v hv]; exact fr_L r2 rfl) hM1
      rw [hV] at t1
      refine ⟨h', ?_, fr_tr r2 t2⟩
      have b1 : bI (bT (askF (V h) m) T = 1) = 0 := by unfold bI; rw [if_neg q]
      rw [hun, b1, t1, hAn, decide_eq_false q, Bool.false_or]
