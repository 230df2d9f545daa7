/-! ruled: the class's nearest set -/
def rkN (B : Nat → Bool) (p : Nat) : Nat := (flF B p 0).length
theorem rk_inj {B : Nat → Bool} {p j : Nat} (hp : p < 16) (hB : B p = true) {q : Nat} (hq : (flF B 16 0)[j]? = some q) : rkN B p = j ↔ p = q := by
  have h1 := rk_at hp hB
  have hm := (flF_mem 16 0).mp (List.mem_of_getElem? hq)
  constructor
  · intro z
    have h2 : (flF B 16 0)[rkN B p]? = some p := h1
    rw [z, hq] at h2
    injection h2 with h2
    exact h2.symm
  · intro z
    subst z
    rcases Nat.lt_trichotomy (rkN B p) j with y | y | y
    · have := flF_inc 16 0 y h1 hq; omega
    · exact y
    · have := flF_inc 16 0 y hq h1; omega
theorem rk_lt {B : Nat → Bool} {p : Nat} (hp : p < 16) (hB : B p = true) : rkN B p < (flF B 16 0).length := (List.getElem?_eq_some_iff.mp (rk_at hp hB)).1
/-- chosen so far -/
def chB (B : Nat → Bool) (c j p : Nat) : Bool := decide (p < 16) && (B p && (decide (rkN B p < j) && c.testBit (rkN B p)))
def pjB (V : BV) (B : Nat → Bool) (c j i : Nat) : Bool := !(chB B c j (V 75 i).toInt.toNat)
theorem ch_step {B : Nat → Bool} {c j q p : Nat} (hq : (flF B 16 0)[j]? = some q) : chB B c (j + 1) p = (chB B c j p || (decide (p = q) && c.testBit j)) := by
  have hm := (flF_mem 16 0).mp (List.mem_of_getElem? hq)
  unfold chB
  by_cases hp : p < 16
  · rw [decide_eq_true hp, Bool.true_and, Bool.true_and]
    cases hB : B p with
    | false =>
      have : ¬ p = q := fun z => by rw [z, hm.2.2] at hB; cases hB
      rw [Bool.false_and, Bool.false_and, decide_eq_false this, Bool.false_and, Bool.or_false]
    | true =>
      rw [Bool.true_and, Bool.true_and]
      have ri := rk_inj hp hB hq
      by_cases z : p = q
      · rw [ri.mpr z, decide_eq_true (show j < j + 1 by omega), decide_eq_false (show ¬ j < j by omega), decide_eq_true z, Bool.false_and, Bool.false_or]
      · have : ¬ rkN B p = j := fun y => z (ri.mp y)
        rw [decide_eq_false z, Bool.false_and, Bool.or_false]
        by_cases y : rkN B p < j
        · rw [decide_eq_true y, decide_eq_true (by omega)]
        · rw [decide_eq_false y, decide_eq_false (by omega)]
  · have : ¬ p = q := by omega
    rw [decide_eq_false hp, Bool.false_and, Bool.false_and, decide_eq_false this, Bool.false_and, Bool.or_false]
theorem ch_end {B : Nat → Bool} {c p : Nat} (hp : p < 16) : chB B c (flF B 16 0).length p = (elN B 16 0 c).testBit p := by
  rw [el_bit B 16 0 c p hp, Nat.zero_add]
  unfold chB
  rw [decide_eq_true hp, Bool.true_and]
  cases hB : B p with
  | false => rw [Bool.false_and, Bool.false_and]
  | true => rw [decide_eq_true (rk_lt hp hB), Bool.true_and]; rfl
theorem SP_cg2 {V : BV} {D : WD} {kn : Int32} {P Q : Nat → Bool} (h : ∀ i ∈ tkL V D kn, P i = Q i) (k : Nat) : SP V D kn P k = SP V D kn Q k := by
  rw [SP_ite, SP_ite]
  exact sg_cg fun i hi => by rw [h i hi]
theorem SP_pj {V : BV} (g : GV V) {D : WD} {kn : Int32} {B : Nat → Bool} {c j q : Nat} (hq : (flF B 16 0)[j]? = some q) (k : Nat) : SP V D kn (pjB V B c (j + 1)) k = SP V D kn (pjB V B c j) k - (if c.testBit j then SP V D kn (grp V q) k else 0) := by
  have hm := (flF_mem 16 0).mp (List.mem_of_getElem? hq)
  have hcn := cnts g.1
  have key : SP V D kn (pjB V B c j) k = SP V D kn (pjB V B c (j + 1)) k + (if c.testBit j then SP V D kn (grp V q) k else 0) := by
    have e : (if c.testBit j then SP V D kn (grp V q) k else 0) = sg (fun i => if c.testBit j then (if grp V q i then rowv V (FT D) (dZ V D kn) i k else 0) else 0) (tkL V D kn) := by
      cases hc : c.testBit j with
      | true => rw [if_pos rfl, SP_ite]; exact sg_cg fun i _ => by rw [if_pos rfl]
      | false => rw [if_neg (by decide)]; exact (sg_0 fun i _ => by rw [if_neg (by decide)]).symm
    rw [e, SP_ite, SP_ite, ← sg_add]
    refine sg_cg fun i hi => ?_
    have hpl := (g.2.2.2.1.1 i (tkL_lt hi)).1
    have eg : grp V q i = decide ((V 75 i).toInt.toNat = q) := by unfold grp; rw [if_pos (show q < 16 by omega)]
    unfold pjB
    rw [ch_step hq, eg]
    by_cases z : (V 75 i).toInt.toNat = q
    · rw [decide_eq_true z, Bool.true_and, if_pos rfl]
      have c0 : chB B c j (V 75 i).toInt.toNat = false := by
        unfold chB
        have hp : (V 75 i).toInt.toNat < 16 := by omega
        rw [decide_eq_true hp, Bool.true_and, z, hm.2.2, Bool.true_and, (rk_inj (by omega) hm.2.2 hq).mpr rfl, decide_eq_false (by omega), Bool.false_and]
      rw [c0]
      cases c.testBit j <;> simp
    · rw [decide_eq_false z, Bool.false_and, Bool.or_false, if_neg (show ¬ false = true by decide), ite_self, Int.add_zero]
  omega
theorem z_lc_23 {D : WD} (f : WF D) {kn : Int32} {V0 : BV} (g : GV V0) {c : Nat} (hc : c < 256) (h8 : (flF (brB V0 D kn) 16 0).length ≤ 8) : ∀ (m j : Nat) (x : Int32) (h : ax_H), j + m = (flF (brB V0 D kn) 16 0).length → V h = V0 → ok h → OP h V0 D kn → ruP h (flF (brB V0 D kn) 16 0) → (∀ k, k < 13 → gL h 155 k = Int64.ofInt (SP V0 D kn (pjB V0 (brB V0 D kn) c j) k)) → (∀ p, p < 32 → bt x p = chB (brB V0 D kn) c j p) → ∃ h', Ft_leaveOutChoice_23 99 (nI (flF (brB V0 D kn) 16 0).length) (nI c) x (nI j) h = some (nI (elN (brB V0 D kn) 16 0 c), h') ∧ fr S155 h h' ∧ ∀ k, k < 13 → gL h' 155 k = Int64.ofInt (SP V0 D kn (psQ V0 (elN (brB V0 D kn) 16 0 c)) k) := by
  have hcn := cnts g.1
  intro m
  induction m with
  | zero =>
    intro j x h hj hV w o ru hS hx
    have e : j = (flF (brB V0 D kn) 16 0).length := by omega
    have hle : nI (flF (brB V0 D kn) 16 0).length ≤ nI j := by rw [nJ_le (by omega) (by omega)]; omega
    refine ⟨h, ?_, fr_rf _ _, fun k hk => ?_⟩
    · rw [Ft_leaveOutChoice_23_eq, if_pos (by rw [decide_eq_true_eq]; exact hle)]
      rw [el_i (B := brB V0 D kn) (c := c) (x := x)]
      intro p hp
      rw [hx p hp, e]
      by_cases q : p < 16
      · rw [ch_end q, el_bit _ 16 0 c p q, Nat.zero_add, decide_eq_true q, Bool.true_and]
      · unfold chB
        rw [decide_eq_false q, Bool.false_and, Bool.false_and]
    · rw [hS k hk, e]
      congr 1
      refine SP_cg2 (fun i hi => ?_) k
      have := (g.2.2.2.1.1 i (tkL_lt hi)).1
      unfold pjB psQ
      rw [ch_end (by omega)]
  | succ m ih =>
    intro j x h hj hV w o ru hS hx
    have w0 := w
    obtain ⟨wS, wR, wG, wN⟩ := w
    have hle : ¬ nI (flF (brB V0 D kn) 16 0).length ≤ nI j := by rw [nJ_le (by omega) (by omega)]; omega
    obtain ⟨q, hq⟩ : ∃ q, (flF (brB V0 D kn) 16 0)[j]? = some q := ⟨_, List.getElem?_eq_getElem (by omega)⟩
    have hm := (flF_mem 16 0).mp (List.mem_of_getElem? hq)
    have tb : ((nI c >>> (nI j &&& 31)) &&& 1 = 0) ↔ c.testBit j = false := by
      rw [bt_t (by omega), bt_nI (by omega)]
    cases hb : c.testBit j with
    | false =>
      obtain ⟨h', r1, r2, r3⟩ := ih (j + 1) x h (by omega) hV w0 o ru (fun k hk => by rw [hS k hk, SP_pj g hq, hb, if_neg (by decide), Int.sub_zero]) (fun p hp => by rw [hx p hp, ch_step hq, hb, Bool.and_false, Bool.or_false])
      refine ⟨h', ?_, r2, r3⟩
      rw [← r1, Ft_leaveOutChoice_23_eq, if_neg (by rw [decide_eq_true_eq]; exact hle), if_pos (by rw [decide_eq_true_eq]; exact tb.mpr hb), nJ_p1]
    | true =>
      have hv := ru j q hq
      have tj : (nI j).toNatClampNeg = j := nJ_n (by omega)
      have nj : ¬ nI j < 0 := nJ_nn (by omega)
      have hj8 : j < 8 := by omega
      have tq : (nI q).toNatClampNeg = q := nJ_n (by omega)
      have nq : ¬ nI q < 0 := nJ_nn (by omega)
      have hq47 : q < 47 := by omega
      have q1 := wG.1 q hq47
      obtain ⟨h1, a1, a2, a3⟩ := z_leaveOut w0 o hq47
      have hV1 := (V_frc (S155_c a2)).trans hV
      have S1 : gS h1 = gS h := fr_S a2
      have R1 : gR h1 = gR h := fr_R a2
      have hv1 : gI h1 156 j = nI q := (fr_I a2 rfl).trans hv
      obtain ⟨h', r1, r2, r3⟩ := ih (j + 1) (x ||| ((1 : Int32) <<< (nI q &&& 31))) h1 (by omega) hV1 (ok_fr a2 w0) (OP_155 f a2 o) (fun k y hk => (fr_I a2 rfl).trans (ru k y hk)) (fun k hk => by rw [a3 k hk, hS k hk, SP_pj g hq, hb, if_pos rfl, Int64.ofInt_sub]) (fun p hp => by
        rw [b_or, hx p hp, ch_step hq, hb, Bool.and_true, b_shl q (by omega) 1 hp]
        congr 1
        by_cases z : p = q
        · rw [decide_eq_true z, decide_eq_true (by omega), Bool.true_and, bt_1 (p - q) (by omega), decide_eq_true (by omega)]
        · rw [decide_eq_false z]
          by_cases y : q ≤ p
          · rw [bt_1 (p - q) (by omega), decide_eq_false (show ¬ p - q = 0 by omega), Bool.and_false]
          · rw [decide_eq_false y, Bool.false_and])
      refine ⟨h', ?_, fr_tr a2 r2, r3⟩
      rw [← r1, Ft_leaveOutChoice_23_eq, if_neg (by rw [decide_eq_true_eq]; exact hle), if_neg (by rw [decide_eq_true_eq, tb, hb]; decide)]
      simp only [wS, wR, ↓reduceIte, ax_in, tj, nj, hj8, hv, tq, nq, hq47, q1, not_false_eq_true, and_self]
      rw [bnd a1]
      simp only [S1, R1, wS, wR, ↓reduceIte, ax_in, tj, nj, hj8, hv1, not_false_eq_true, and_self, nJ_p1]
theorem z_leaveOutChoice {D : WD} (f : WF D) {kn : Int32} {h : ax_H} (w : ok h) (g : GV (V h)) {c : Nat} (hc : c < 256) (h8 : (flF (brB (V h) D kn) 16 0).length ≤ 8) (o : OP h (V h) D kn) (ru : ruP h (flF (brB (V h) D kn) 16 0)) : ∃ h', Ft_leaveOutChoice 99 (nI (flF (brB (V h) D kn) 16 0).length) (nI c) h = some (nI (elN (brB (V h) D kn) 16 0 c), h') ∧ fr S155 h h' ∧ ∀ k, k < 13 → gL h' 155 k = Int64.ofInt (SP (V h) D kn (psQ (V h) (elN (brB (V h) D kn) 16 0 c)) k) := by
  have w0 := w
  obtain ⟨wS, wR, wG, wN⟩ := w
  have g46 : gR h 107 46 = 154 := wG.1 46 (by omega)
  have s154 : gS h 154 = (17, 13) := wG.2 46 (by omega)
  have s155 : gS h 155 = (17, 13) := by simp only [wS]
  have F := fr_155 (h := h) (F := va_cpy (gL h 154) (gL h 155) (Int32.toNatClampNeg 0) (Int32.toNatClampNeg 0) (Int32.toNatClampNeg 13))
  have hV := V_frc (S155_c F)
  obtain ⟨h', r1, r2, r3⟩ := z_lc_23 f (kn := kn) g hc h8 (flF (brB (V h) D kn) 16 0).length 0 0 _ (by omega) hV (ok_fr F w0) (OP_155 f F o) (fun k y hk => (fr_I F rfl).trans (ru k y hk)) (fun k hk => by
    rw [cp_155 k hk]
    have : SP (V h) D kn (pjB (V h) (brB (V h) D kn) c 0) k = SP (V h) D kn (grp (V h) 46) k := by
      rw [grp_46]
      refine SP_cg2 (fun i _ => ?_) k
      unfold pjB chB allB
      rw [decide_eq_false (show ¬ rkN (brB (V h) D kn) (V h 75 i).toInt.toNat < 0 by omega), Bool.false_and, Bool.and_false, Bool.and_false]
      rfl
    rw [this]
    exact o.2.2.2.1 46 (by omega) k hk) (fun p hp => by
    unfold chB
    rw [b_0, decide_eq_false (show ¬ rkN (brB (V h) D kn) p < 0 by omega), Bool.false_and, Bool.and_false, Bool.and_false])
  refine ⟨h', ?_, fr_tr F r2, r3⟩
  have t46 : Int32.toNatClampNeg 46 = 46 := rfl
  rw [Ft_leaveOutChoice_eq]
  simp only [wS, wR, ↓reduceIte, ax_in, t46, g46, show ¬ (46 : Int32) < 0 by decide, show (46 : Nat) < 47 by decide, not_false_eq_true, and_self]
  rw [if_pos (cpc h 154 155 s154 s155)]
  exact r1
