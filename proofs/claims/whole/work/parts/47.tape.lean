/-! the tape: feed, end -/
def tb (y : Int32) : Nat := (y &&& 255).toInt.toNat
theorem tb_lo (y : Int32) : 0 ≤ (y &&& 255).toInt ∧ (y &&& 255).toInt < 256 := by
  have h1 : (y &&& 255).toBitVec.toNat = y.toBitVec.toNat &&& 255 := by
    rw [Int32.toBitVec_and, BitVec.toNat_and]; rfl
  have h2 : y.toBitVec.toNat &&& 255 ≤ 255 := Nat.and_le_right
  have h3 : (y &&& 255).toInt = ((y &&& 255).toBitVec.toNat : Int) := by
    show (y &&& 255).toBitVec.toInt = _
    exact BitVec.toInt_eq_toNat_of_lt (by rw [h1]; omega)
  omega
theorem tb_lt (y : Int32) : tb y < 256 := by have := tb_lo y; unfold tb; omega
theorem tb_c (y : Int32) : y &&& 255 = nI (tb y) := nJ_of (tb_lo y).1
theorem tb_m (y : Int32) : (Int32.toInt8 (Int32.toInt8 y).toInt32).toInt32 = (nI (tb y)).toInt8.toInt32 := by
  rw [← tb_c, Int32.toInt8_and]
  have e1 : (255 : Int32).toInt8 = -1 := rfl
  rw [e1]
  simp
/-- the tape's bytes and how many: the class's, the reference's -/
def TC (h : ax_H) (T : Nat → Nat) (n : Nat) : Prop := n ≤ 400 ∧ gI h 93 0 = nI n ∧ ∀ i, gI h 94 i = nI (T i)
def TM (h : ax_H) (T : Nat → Nat) (n : Nat) : Prop := gI h 159 17 = nI n ∧ ∀ i, gI h 172 i = (nI (T i)).toInt8.toInt32
def IT (h : ax_H) : Prop := ∃ T n, (∀ i, T i < 256) ∧ TC h T n ∧ TM h T n
def Sq (a k : Nat) : Bool := decide (a = 94 ∨ (a = 93 ∧ k = 0))
def Sr (a k : Nat) : Bool := decide (a = 172 ∨ (a = 159 ∧ k = 17))
def St' (a k : Nat) : Bool := decide (a = 94 ∨ (a = 93 ∧ k = 0) ∨ a = 172 ∨ (a = 159 ∧ k = 17))
theorem I0_frt {h h' : ax_H} (q : fr St' h h') (i : I0 h) : I0 h' := by
  have hV : V h' = V h := V_fr q fun a k h1 h2 => by simp only [St', decide_eq_false_iff_not]; omega
  refine ⟨ok_fr q i.1, ?_, by rw [hV]; exact i.2.2⟩
  have e := i.2.1
  unfold EQ at e ⊢
  rw [hV]
  have r0 : ∀ k, k ≠ 17 → gI h' 159 k = gI h 159 k := fun k hk => fr_I q (by simp only [St', decide_eq_false_iff_not]; omega)
  have r1 : ∀ a, 159 < a → a ≠ 172 → ∀ k, gI h' a k = gI h a k := fun a h1 h2 k => fr_I q (by simp only [St', decide_eq_false_iff_not]; omega)
  simp (disch := decide) only [r0, r1]
  exact e
def up1 (T : Nat → Nat) (n b : Nat) : Nat → Nat := fun i => if i = n then b else T i
section
theorem z_ap {h : ax_H} (w : ok h) {T : Nat → Nat} {n : Nat} (t : TC h T n) (hn : n < 400) (x s : Int32) (hs : ¬ s < 0) : ∃ h', Rd_append_3 93 x s h = Rd_append_3 93 x (s + (-8)) h' ∧ TC h' (up1 T n (tb (x >>> (s &&& 31)))) (n + 1) ∧ fr Sq h h' := by
  obtain ⟨wS, wR, wG, wN⟩ := w
  obtain ⟨t1, t2, t3⟩ := t
  refine ⟨pI (pI h 94 n (nI (tb (x >>> (s &&& 31))))) 93 0 (nI (n + 1)), ?_, ⟨by omega, ?_, fun i => ?_⟩, fr_c (fr_c (fr_rf _ _) rfl) rfl⟩
  · rw [Rd_append_3_eq]
    simp only [wS, wR, ↓reduceIte]
    simp (disch := omega) only [gI_pI, gI_pL, gI_pR, gL_pI, gL_pL, gL_pR, gR_pI, gR_pL, gR_pR, gS_pI, gS_pL, gS_pR, ↓reduceIte, Nat.reduceEqDiff, decide_eq_true_eq, Option.bind_some, false_and, and_false, true_and, and_true, and_self, Nat.reduceAdd, not_false_eq_true, not_true_eq_false, wS, wR, inI, ite_self, Classical.not_not, hs, t2, ax_in, nJ_nn, nJ_n, nJ_p1, tb_c, hn, show (400 : Int32) = nI 400 from rfl, nJ_le, Nat.not_le.mpr hn]
  · simp only [gI_pI, gI_pL, gI_pR, gL_pI, gL_pL, gL_pR, gR_pI, gR_pL, gR_pR, gS_pI, gS_pL, gS_pR, ↓reduceIte, Nat.reduceEqDiff, decide_eq_true_eq, Option.bind_some, false_and, and_false, true_and, and_true, and_self, Nat.reduceAdd, not_false_eq_true, not_true_eq_false, wS, wR, inI, ite_self, Classical.not_not]
  · simp only [gI_pI, gI_pL, gI_pR, gL_pI, gL_pL, gL_pR, gR_pI, gR_pL, gR_pR, gS_pI, gS_pL, gS_pR, ↓reduceIte, Nat.reduceEqDiff, decide_eq_true_eq, Option.bind_some, false_and, and_false, true_and, and_true, and_self, Nat.reduceAdd, not_false_eq_true, not_true_eq_false, wS, wR, inI, ite_self, Classical.not_not, up1, t3]
    by_cases hi : i = n
    · simp only [hi, ↓reduceIte]
    · simp only [hi, ↓reduceIte]
theorem z_append {h : ax_H} (w : ok h) {T : Nat → Nat} {n : Nat} (t : TC h T n) (hn : n + 4 ≤ 400) (x : Int32) : ∃ h', Rd_append 93 x h = some h' ∧ TC h' (up1 (up1 (up1 (up1 T n (tb (x >>> (24 &&& 31)))) (n + 1) (tb (x >>> (16 &&& 31)))) (n + 2) (tb (x >>> (8 &&& 31)))) (n + 3) (tb (x >>> (0 &&& 31)))) (n + 4) ∧ fr Sq h h' := by
  obtain ⟨h1, e1, t1, f1⟩ := z_ap w t (by omega) x 24 (by decide)
  obtain ⟨h2, e2, t2, f2⟩ := z_ap (ok_fr f1 w) t1 (by omega) x 16 (by decide)
  obtain ⟨h3, e3, t3, f3⟩ := z_ap (ok_fr f2 (ok_fr f1 w)) t2 (by omega) x 8 (by decide)
  obtain ⟨h4, e4, t4, f4⟩ := z_ap (ok_fr f3 (ok_fr f2 (ok_fr f1 w))) t3 (by omega) x 0 (by decide)
  refine ⟨h4, ?_, t4, fr_tr (fr_tr (fr_tr f1 f2) f3) f4⟩
  rw [Rd_append_eq, e1]
  rw [show (24 : Int32) + (-8) = 16 from rfl, e2, show (16 : Int32) + (-8) = 8 from rfl, e3, show (8 : Int32) + (-8) = 0 from rfl, e4, Rd_append_3_eq, if_pos (by decide)]
theorem zm_ap {h : ax_H} (w : ok h) {T : Nat → Nat} {n : Nat} (t : TM h T n) (hn : n < 400) (x s : Int32) (hs : ¬ s < 0) : ∃ h', M_put_3 159 x s h = M_put_3 159 x (s + (-8)) h' ∧ TM h' (up1 T n (tb (x >>> (s &&& 31)))) (n + 1) ∧ fr Sr h h' := by
  obtain ⟨wS, wR, wG, wN⟩ := w
  obtain ⟨t2, t3⟩ := t
  refine ⟨pI (pI h 172 n (nI (tb (x >>> (s &&& 31)))).toInt8.toInt32) 159 17 (nI (n + 1)), ?_, ⟨?_, fun i => ?_⟩, fr_c (fr_c (fr_rf _ _) rfl) rfl⟩
  · rw [M_put_3_eq]
    simp only [wS, wR, ↓reduceIte]
    simp (disch := omega) only [gI_pI, gI_pL, gI_pR, gL_pI, gL_pL, gL_pR, gR_pI, gR_pL, gR_pR, gS_pI, gS_pL, gS_pR, ↓reduceIte, Nat.reduceEqDiff, decide_eq_true_eq, Option.bind_some, false_and, and_false, true_and, and_true, and_self, Nat.reduceAdd, not_false_eq_true, not_true_eq_false, wS, wR, inI, ite_self, Classical.not_not, hs, t2, ax_in, nJ_nn, nJ_n, nJ_p1, tb_m, hn]
  · simp only [gI_pI, gI_pL, gI_pR, gL_pI, gL_pL, gL_pR, gR_pI, gR_pL, gR_pR, gS_pI, gS_pL, gS_pR, ↓reduceIte, Nat.reduceEqDiff, decide_eq_true_eq, Option.bind_some, false_and, and_false, true_and, and_true, and_self, Nat.reduceAdd, not_false_eq_true, not_true_eq_false, wS, wR, inI, ite_self, Classical.not_not]
  · simp only [gI_pI, gI_pL, gI_pR, gL_pI, gL_pL, gL_pR, gR_pI, gR_pL, gR_pR, gS_pI, gS_pL, gS_pR, ↓reduceIte, Nat.reduceEqDiff, decide_eq_true_eq, Option.bind_some, false_and, and_false, true_and, and_true, and_self, Nat.reduceAdd, not_false_eq_true, not_true_eq_false, wS, wR, inI, ite_self, Classical.not_not, up1, t3]
    by_cases hi : i = n
    · simp only [hi, ↓reduceIte]
    · simp only [hi, ↓reduceIte]
theorem zm_append {h : ax_H} (w : ok h) {T : Nat → Nat} {n : Nat} (t : TM h T n) (hn : n + 4 ≤ 400) (x : Int32) : ∃ h', M_put 159 x h = some h' ∧ TM h' (up1 (up1 (up1 (up1 T n (tb (x >>> (24 &&& 31)))) (n + 1) (tb (x >>> (16 &&& 31)))) (n + 2) (tb (x >>> (8 &&& 31)))) (n + 3) (tb (x >>> (0 &&& 31)))) (n + 4) ∧ fr Sr h h' := by
  obtain ⟨h1, e1, t1, f1⟩ := zm_ap w t (by omega) x 24 (by decide)
  obtain ⟨h2, e2, t2, f2⟩ := zm_ap (ok_fr f1 w) t1 (by omega) x 16 (by decide)
  obtain ⟨h3, e3, t3, f3⟩ := zm_ap (ok_fr f2 (ok_fr f1 w)) t2 (by omega) x 8 (by decide)
  obtain ⟨h4, e4, t4, f4⟩ := zm_ap (ok_fr f3 (ok_fr f2 (ok_fr f1 w))) t3 (by omega) x 0 (by decide)
  refine ⟨h4, ?_, t4, fr_tr (fr_tr (fr_tr f1 f2) f3) f4⟩
  rw [M_put_eq, e1]
  rw [show (24 : Int32) + (-8) = 16 from rfl, e2, show (16 : Int32) + (-8) = 8 from rfl, e3, show (8 : Int32) + (-8) = 0 from rfl, e4, M_put_3_eq, if_pos (by decide)]
end
def up4 (T : Nat → Nat) (n : Nat) (x : Int32) : Nat → Nat := up1 (up1 (up1 (up1 T n (tb (x >>> (24 &&& 31)))) (n + 1) (tb (x >>> (16 &&& 31)))) (n + 2) (tb (x >>> (8 &&& 31)))) (n + 3) (tb (x >>> (0 &&& 31)))
theorem up1_lt {T : Nat → Nat} {n : Nat} {y : Int32} (h : ∀ i, T i < 256) : ∀ i, up1 T n (tb y) i < 256 := fun i => by
  unfold up1
  split
  · exact tb_lt y
  · exact h i
theorem up4_lt {T : Nat → Nat} {n : Nat} {x : Int32} (h : ∀ i, T i < 256) : ∀ i, up4 T n x i < 256 := up1_lt (up1_lt (up1_lt (up1_lt h)))
theorem Sq_t {h h' : ax_H} (q : fr Sq h h') : fr St' h h' := fr_le q fun a k z => by simp only [St', Sq, decide_eq_false_iff_not] at z ⊢; omega
theorem Sr_t {h h' : ax_H} (q : fr Sr h h') : fr St' h h' := fr_le q fun a k z => by simp only [St', Sr, decide_eq_false_iff_not] at z ⊢; omega
theorem TC_r {h h' : ax_H} {T : Nat → Nat} {n : Nat} (q : fr Sr h h') (t : TC h T n) : TC h' T n := ⟨t.1, (fr_I q rfl).trans t.2.1, fun i => (fr_I q rfl).trans (t.2.2 i)⟩
theorem TM_q {h h' : ax_H} {T : Nat → Nat} {n : Nat} (q : fr Sq h h') (t : TM h T n) : TM h' T n := ⟨(fr_I q rfl).trans t.1, fun i => (fr_I q rfl).trans (t.2 i)⟩
abbrev stt (h h1 h2 : ax_H) : Prop := IT h2 ∧ fr St' h h1 ∧ fr St' h h2
theorem st_end {h : ax_H} (w : ok h) (t : IT h) (a : Int32) : stp (B_end 64 a h) (M_end 159 a) (stt h) := by
  obtain ⟨T, n, t0, t1, t2⟩ := t
  have t1' := t1
  have t2' := t2
  obtain ⟨wS, wR, wG, wN⟩ := w
  obtain ⟨c1, c2, c3⟩ := t1
  obtain ⟨m1, m2⟩ := t2
  by_cases hc : 0 ≤ a.toInt ∧ a.toInt ≤ n
  · obtain ⟨j, rfl, hj, hj2, hj3⟩ := nI_ex hc
    have hj4 : j ≤ n := by omega
    refine ⟨nI j, pI h 93 0 (nI j), pI (pI h 93 0 (nI j)) 159 17 (nI j), ?_, ?_, ⟨T, j, t0, ⟨by omega, rfl, c3⟩, ⟨rfl, m2⟩⟩, fr_pI rfl, fr_c (fr_c (fr_rf _ _) rfl) rfl⟩
    · rw [B_end_eq]
      simp only [wS, wR, ↓reduceIte]
      simp (disch := omega) only [gI_pI, gI_pL, gI_pR, gL_pI, gL_pL, gL_pR, gR_pI, gR_pL, gR_pR, gS_pI, gS_pL, gS_pR, ↓reduceIte, Nat.reduceEqDiff, decide_eq_true_eq, Option.bind_some, false_and, and_false, true_and, and_true, and_self, Nat.reduceAdd, not_false_eq_true, not_true_eq_false, wS, wR, inI, ite_self, Classical.not_not, ↓bnd (z_isWithin _ _ _ _), c2, bI_0, nJ_i, Int32.reduceToInt, Int64.reduceToInt, tN9, tN299, tN99999, tN9999, tN99, tL9, tL299, tL99999, tL9999, tL99, i1_0, i0_1]
      rw [if_pos (by omega)]
    · rw [M_end_eq]
      simp only [gS_pI, wS, wR, ↓reduceIte]
      simp (disch := omega) only [gI_pI, gI_pL, gI_pR, gL_pI, gL_pL, gL_pR, gR_pI, gR_pL, gR_pR, gS_pI, gS_pL, gS_pR, ↓reduceIte, Nat.reduceEqDiff, decide_eq_true_eq, Option.bind_some, false_and, and_false, true_and, and_true, and_self, Nat.reduceAdd, not_false_eq_true, not_true_eq_false, wS, wR, inI, ite_self, Classical.not_not, m1, nJ_nn, nJ_le, hj4]
  · refine ⟨-1, h, h, ?_, ?_, ⟨T, n, t0, t1', t2'⟩, fr_rf _ _, fr_rf _ _⟩
    · rw [B_end_eq]
      simp only [wS, wR, ↓reduceIte]
      simp (disch := omega) only [gI_pI, gI_pL, gI_pR, gL_pI, gL_pL, gL_pR, gR_pI, gR_pL, gR_pR, gS_pI, gS_pL, gS_pR, ↓reduceIte, Nat.reduceEqDiff, decide_eq_true_eq, Option.bind_some, false_and, and_false, true_and, and_true, and_self, Nat.reduceAdd, not_false_eq_true, not_true_eq_false, wS, wR, inI, ite_self, Classical.not_not, ↓bnd (z_isWithin _ _ _ _), c2, bI_0, nJ_i, Int32.reduceToInt, Int64.reduceToInt, tN9, tN299, tN99999, tN9999, tN99, tL9, tL299, tL99999, tL9999, tL99, i1_0, i0_1]
      rw [if_neg (by omega)]
    · rw [M_end_eq]
      simp only [wS, wR, ↓reduceIte]
      simp (disch := omega) only [gI_pI, gI_pL, gI_pR, gL_pI, gL_pL, gL_pR, gR_pI, gR_pL, gR_pR, gS_pI, gS_pL, gS_pR, ↓reduceIte, Nat.reduceEqDiff, decide_eq_true_eq, Option.bind_some, false_and, and_false, true_and, and_true, and_self, Nat.reduceAdd, not_false_eq_true, not_true_eq_false, wS, wR, inI, ite_self, Classical.not_not, m1, i32_lt, i32_le, nJ_i, Int32.reduceToInt, Int64.reduceToInt, tN9, tN299, tN99999, tN9999, tN99, tL9, tL299, tL99999, tL9999, tL99, i1_0, i0_1]
      by_cases h1 : a.toInt < 0
      · rw [if_pos h1]
      · rw [if_neg h1, if_neg (by omega)]
theorem st_feed {h : ax_H} (w : ok h) (t : IT h) (a b c d e : Int32) : stp (B_feed 64 a b c d e h) (M_feed 159 a b c d e) (stt h) := by
  obtain ⟨T, n, t0, t1, t2⟩ := t
  have hn4 := t1.1
  have ea : nI n + 20 = nI (n + 20) := (Int32.ofNat_add n 20).symm
  by_cases hc : n + 20 ≤ 400
  · obtain ⟨h1, e1, c1, f1⟩ := z_append w t1 (by omega) a
    obtain ⟨h2, e2, c2, f2⟩ := z_append (ok_fr f1 w) c1 (by omega) b
    obtain ⟨h3, e3, c3, f3⟩ := z_append (ok_fr f2 (ok_fr f1 w)) c2 (by omega) c
    obtain ⟨h4, e4, c4, f4⟩ := z_append (ok_fr f3 (ok_fr f2 (ok_fr f1 w))) c3 (by omega) d
    obtain ⟨h5, e5, c5, f5⟩ := z_append (ok_fr f4 (ok_fr f3 (ok_fr f2 (ok_fr f1 w)))) c4 (by omega) e
    have w5 := ok_fr f5 (ok_fr f4 (ok_fr f3 (ok_fr f2 (ok_fr f1 w))))
    have F5 := fr_tr (fr_tr (fr_tr (fr_tr f1 f2) f3) f4) f5
    have u2' := TM_q F5 t2
    obtain ⟨k1, g1, d1, p1⟩ := zm_append w5 u2' (by omega) a
    obtain ⟨k2, g2, d2, p2⟩ := zm_append (ok_fr p1 w5) d1 (by omega) b
    obtain ⟨k3, g3, d3, p3⟩ := zm_append (ok_fr p2 (ok_fr p1 w5)) d2 (by omega) c
    obtain ⟨k4, g4, d4, p4⟩ := zm_append (ok_fr p3 (ok_fr p2 (ok_fr p1 w5))) d3 (by omega) d
    obtain ⟨k5, g5, d5, p5⟩ := zm_append (ok_fr p4 (ok_fr p3 (ok_fr p2 (ok_fr p1 w5)))) d4 (by omega) e
    have P5 := fr_tr (fr_tr (fr_tr (fr_tr p1 p2) p3) p4) p5
    refine ⟨nI (n + 4 + 4 + 4 + 4 + 4), h5, k5, ?_, ?_, ⟨_, _, ?_, TC_r P5 c5, d5⟩, Sq_t F5, fr_tr (Sq_t F5) (Sr_t P5)⟩
    · have s1 := fr_S f1
      have s2 := fr_S f2
      have s3 := fr_S f3
      have s4 := fr_S f4
      have s5 := fr_S f5
      have r1 := fr_R f1
      have r2 := fr_R f2
      have r3 := fr_R f3
      have r4 := fr_R f4
      have r5 := fr_R f5
      have v5 := c5.2.1
      have v0 := t1.2.1
      obtain ⟨wS, wR, wG, wN⟩ := w
      rw [B_feed_eq]
      simp only [wS, wR, ↓reduceIte]
      simp (disch := omega) only [gI_pI, gI_pL, gI_pR, gL_pI, gL_pL, gL_pR, gR_pI, gR_pL, gR_pR, gS_pI, gS_pL, gS_pR, ↓reduceIte, Nat.reduceEqDiff, decide_eq_true_eq, Option.bind_some, false_and, and_false, true_and, and_true, and_self, Nat.reduceAdd, not_false_eq_true, not_true_eq_false, wS, wR, inI, ite_self, Classical.not_not, v0, ea, show (400 : Int32) = nI 400 from rfl, nJ_le, hc, ↓bnd e1, s1, r1, ↓bnd e2, s2, r2, ↓bnd e3, s3, r3, ↓bnd e4, s4, r4, ↓bnd e5, s5, r5, v5]
    · have s1 := fr_S p1
      have s2 := fr_S p2
      have s3 := fr_S p3
      have s4 := fr_S p4
      have s5 := fr_S p5
      have v5 := d5.1
      have v0 := u2'.1
      obtain ⟨wS, wR, wG, wN⟩ := w5
      rw [M_feed_eq]
      simp only [wS, wR, ↓reduceIte]
      simp (disch := omega) only [gI_pI, gI_pL, gI_pR, gL_pI, gL_pL, gL_pR, gR_pI, gR_pL, gR_pR, gS_pI, gS_pL, gS_pR, ↓reduceIte, Nat.reduceEqDiff, decide_eq_true_eq, Option.bind_some, false_and, and_false, true_and, and_true, and_self, Nat.reduceAdd, not_false_eq_true, not_true_eq_false, wS, wR, inI, ite_self, Classical.not_not, v0, ea, show (400 : Int32) = nI 400 from rfl, nJ_le, hc, ↓bnd g1, s1, ↓bnd g2, s2, ↓bnd g3, s3, ↓bnd g4, s4, ↓bnd g5, s5, v5]
    · exact up4_lt (up4_lt (up4_lt (up4_lt (up4_lt t0))))
  · refine ⟨-1, h, h, ?_, ?_, ⟨T, n, t0, t1, t2⟩, fr_rf _ _, fr_rf _ _⟩
    · have v0 := t1.2.1
      obtain ⟨wS, wR, wG, wN⟩ := w
      rw [B_feed_eq]
      simp only [wS, wR, ↓reduceIte]
      simp (disch := omega) only [gI_pI, gI_pL, gI_pR, gL_pI, gL_pL, gL_pR, gR_pI, gR_pL, gR_pR, gS_pI, gS_pL, gS_pR, ↓reduceIte, Nat.reduceEqDiff, decide_eq_true_eq, Option.bind_some, false_and, and_false, true_and, and_true, and_self, Nat.reduceAdd, not_false_eq_true, not_true_eq_false, wS, wR, inI, ite_self, Classical.not_not, v0, ea, show (400 : Int32) = nI 400 from rfl, nJ_le, hc]
    · have v0 := t2.1
      obtain ⟨wS, wR, wG, wN⟩ := w
      rw [M_feed_eq]
      simp only [wS, wR, ↓reduceIte]
      simp (disch := omega) only [gI_pI, gI_pL, gI_pR, gL_pI, gL_pL, gL_pR, gR_pI, gR_pL, gR_pR, gS_pI, gS_pL, gS_pR, ↓reduceIte, Nat.reduceEqDiff, decide_eq_true_eq, Option.bind_some, false_and, and_false, true_and, and_true, and_self, Nat.reduceAdd, not_false_eq_true, not_true_eq_false, wS, wR, inI, ite_self, Classical.not_not, v0, ea, show (400 : Int32) = nI 400 from rfl, nJ_le, hc]
