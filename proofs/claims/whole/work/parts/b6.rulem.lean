/-! ruled: the reference -/
theorem fo_g {V : BV} (g : GV V) (D : WD) (kn : Int32) (t : Nat) (x : Int) {n : Nat} (h16 : n = 16) : (sbL (bfB V) n 0).foldl (stB (fitS V D kn) (dsS V D kn t x) (anS V D kn t)) none = (sbL (brB V D kn) n 0).foldl (stB (fitS V D kn) (dsS V D kn t x) (anS V D kn t)) none := by
  have hcn := cnts g.1
  have hsub : ∀ j, brB V D kn j = true → bfB V j = true := fun j z => by
    unfold brB at z
    rw [Bool.and_eq_true] at z
    exact z.1
  rw [← sb_fil (bfB V) (brB V D kn) hsub n 0]
  refine st_skip (N := nzN (bfB V) n 0) (rep := rsN (brB V D kn) n 0) (fun s hs hR => ?_) _ [] none rfl (sb_ch _ n 0) (fun t ht => by cases ht)
  obtain ⟨m1, m2⟩ := (sb_mem (bfB V) n 0 s).mp hs
  obtain ⟨r1, r2, r3, r4, r5⟩ := rs_rs (bfB V) (brB V D kn) hsub n 0 s
  have hne : rsN (brB V D kn) n 0 s ≠ s := of_decide_eq_false hR
  have epc : ∀ y, pcN n y = pcN 16 y := fun y => by rw [h16]
  have hpc := r5 m1 hne
  rw [epc, epc] at hpc
  have hSP : SP V D kn (psQ V (rsN (brB V D kn) n 0 s)) = SP V D kn (psQ V s) := by
    funext k
    refine SP_cg2 (fun i hi => ?_) k
    have hpl := (g.2.2.2.1.1 i (tkL_lt hi)).1
    have hp : (V 75 i).toInt.toNat < n := by omega
    have hp16 : (V 75 i).toInt.toNat < 16 := by omega
    unfold psQ
    rw [rs_bit (brB V D kn) n 0 s _ hp, Nat.zero_add]
    cases hb : s.testBit (V 75 i).toInt.toNat with
    | false => rw [Bool.false_and]
    | true =>
      have hF : bfB V (V 75 i).toInt.toNat = true := by
        have e := rs_bit (bfB V) n 0 s _ hp
        rw [m2, hb, Nat.zero_add, Bool.true_and] at e
        exact e.symm
      have hq : ¬ SP V D kn (grp V (V 75 i).toInt.toNat) 12 = 0 := fun z => by
        have := (SP_0 z).2 i hi
        unfold grp at this
        rw [if_pos hp16] at this
        exact absurd rfl (of_decide_eq_false this)
      unfold brB
      rw [hF, decide_eq_true hq]
      rfl
  refine ⟨(sb_mem (bfB V) n 0 _).mpr ⟨by omega, r1⟩, by omega, ?_, ?_, hpc⟩
  · unfold fitS
    rw [hSP]
  · unfold dsS anS
    rw [hSP]
theorem fo_eq {V : BV} (g : GV V) (D : WD) (kn : Int32) (t : Nat) (x : Int) : (sbL (bfB V) 16 0).foldl (stB (fitS V D kn) (dsS V D kn t x) (anS V D kn t)) none = foS V D kn t x := fo_g g D kn t x rfl
/-- the mask -/
theorem zm_ru_76 {h : ax_H} (i0 : I0 h) (w t wk x ch : Int32) : ∀ (m p : Nat) (v6 : Int32) (n : Nat), p + m = nP (V h) → (∀ q, q < 32 → bt v6 q = (decide (q < p) && bfB (V h) q)) → n = (if (flF (ncB (V h)) p 0).length < 8 then (flF (ncB (V h)) p 0).length else 8) → M_ruled_76 159 w t wk x ch v6 (nI n) (nI p) h = M_ruled_76 159 w t wk x ch (nI (mkN (bfB (V h)) 16 0)) 8 (nI (nP (V h))) h ∨ ∃ k, M_ruled_76 159 w t wk x ch v6 (nI n) (nI p) h = M_ruled_76 159 w t wk x ch (nI (mkN (bfB (V h)) 16 0)) (nI k) (nI (nP (V h))) h := by
  obtain ⟨w0, e0, g⟩ := i0
  have hcn := cnts g.1
  have hnP := nI_nP g.1.2.2.1
  obtain ⟨wS, wR, wG, wN⟩ := w0
  have e := EQ_a e0
  unfold EQa at e
  have e8 : (8 : Int32) = nI 8 := rfl
  intro m
  induction m with
  | zero =>
    intro p v6 n hp hb hn
    have : p = nP (V h) := by omega
    subst this
    refine Or.inr ⟨n, ?_⟩
    rw [mk_i (B := bfB (V h)) (x := v6)]
    intro q hq
    rw [hb q hq]
    unfold bfB
    by_cases z : q < nP (V h)
    · rw [decide_eq_true z, decide_eq_true (show q < 16 by omega)]
    · rw [decide_eq_false z, Bool.false_and, Bool.false_and, Bool.and_false]
  | succ m ih =>
    intro p v6 n hp hb hn
    have hle : ¬ nI (nP (V h)) ≤ nI p := by rw [nJ_le (by omega) (by omega)]; omega
    have tp : (nI p).toNatClampNeg = p := nJ_n (by omega)
    have np : ¬ nI p < 0 := nJ_nn (by omega)
    have hp16 : p < 16 := by omega
    have f1 := flF_s (ncB (V h)) p
    by_cases qk : V h 72 p = 2
    · have n0 : ncB (V h) p = false := decide_eq_false (not_not_intro qk)
      rw [n0, if_neg (by decide), List.append_nil] at f1
      have b0 : bfB (V h) p = false := by
        unfold bfB
        rw [n0, Bool.false_and, Bool.and_false]
      have key : M_ruled_76 159 w t wk x ch v6 (nI n) (nI p) h = M_ruled_76 159 w t wk x ch v6 (nI n) (nI (p + 1)) h := by
        rw [M_ruled_76_eq]
        simp only [gI_pI, gI_pL, gI_pR, gL_pI, gL_pL, gL_pR, gR_pI, gR_pL, gR_pR, gS_pI, gS_pL, gS_pR, ↓reduceIte, Nat.reduceEqDiff, decide_eq_true_eq, Option.bind_some, false_and, and_false, true_and, and_true, and_self, Nat.reduceAdd, not_false_eq_true, not_true_eq_false, wS, wR, inI, ite_self, Classical.not_not, e, hnP, hle, decide_false, Bool.false_eq_true, ax_in, tp, np, hp16, qk, nJ_p1]
      rw [key]
      refine ih (p + 1) v6 n (by omega) (fun q hq => ?_) (by rw [f1]; exact hn)
      rw [hb q hq]
      by_cases z : q = p
      · rw [z, b0, Bool.and_false, Bool.and_false]
      · congr 1
        by_cases y : q < p
        · rw [decide_eq_true y, decide_eq_true (by omega)]
        · rw [decide_eq_false y, decide_eq_false (by omega)]
    · have n0 : ncB (V h) p = true := decide_eq_true qk
      rw [n0, if_pos rfl] at f1
      have l1 : (flF (ncB (V h)) (p + 1) 0).length = (flF (ncB (V h)) p 0).length + 1 := by rw [f1, List.length_append]; rfl
      by_cases q8 : (flF (ncB (V h)) p 0).length < 8
      · rw [if_pos q8] at hn
        have c8 : ¬ (8 : Int32) ≤ nI n := by rw [e8, nJ_le (by omega) (by omega)]; omega
        have b0 : bfB (V h) p = true := by
          unfold bfB
          rw [n0, decide_eq_true (show p < nP (V h) by omega), decide_eq_true q8]
          rfl
        have key : M_ruled_76 159 w t wk x ch v6 (nI n) (nI p) h = M_ruled_76 159 w t wk x ch (v6 ||| ((1 : Int32) <<< (nI p &&& 31))) (nI (n + 1)) (nI (p + 1)) h := by
          rw [M_ruled_76_eq]
          simp only [gI_pI, gI_pL, gI_pR, gL_pI, gL_pL, gL_pR, gR_pI, gR_pL, gR_pR, gS_pI, gS_pL, gS_pR, ↓reduceIte, Nat.reduceEqDiff, decide_eq_true_eq, Option.bind_some, false_and, and_false, true_and, and_true, and_self, Nat.reduceAdd, not_false_eq_true, not_true_eq_false, wS, wR, inI, ite_self, Classical.not_not, e, hnP, hle, decide_false, Bool.false_eq_true, ax_in, tp, np, hp16, qk, c8, nJ_p1]
        rw [key]
        refine ih (p + 1) _ (n + 1) (by omega) (fun q hq => ?_) (by rw [l1]; split <;> omega)
        rw [b_or, hb q hq, b_shl p (by omega) 1 hq]
        by_cases z : q = p
        · rw [z, b0, decide_eq_true (show p ≤ p by omega), Nat.sub_self, decide_eq_true (show p < p + 1 by omega), bt_1 0 (by omega)]
          simp
        · by_cases y : q < p
          · rw [decide_eq_true y, decide_eq_true (show q < p + 1 by omega), decide_eq_false (show ¬ p ≤ q by omega), Bool.false_and, Bool.or_false]
          · rw [decide_eq_false y, decide_eq_false (show ¬ q < p + 1 by omega), bt_1 (q - p) (by omega), decide_eq_false (show ¬ q - p = 0 by omega), Bool.and_false, Bool.false_and, Bool.or_false]
      · rw [if_neg q8] at hn
        have c8 : (8 : Int32) ≤ nI n := by rw [e8, nJ_le (by omega) (by omega)]; omega
        have b0 : bfB (V h) p = false := by
          unfold bfB
          rw [decide_eq_false q8, Bool.and_false, Bool.and_false]
        have key : M_ruled_76 159 w t wk x ch v6 (nI n) (nI p) h = M_ruled_76 159 w t wk x ch v6 (nI n) (nI (p + 1)) h := by
          rw [M_ruled_76_eq]
          simp only [gI_pI, gI_pL, gI_pR, gL_pI, gL_pL, gL_pR, gR_pI, gR_pL, gR_pR, gS_pI, gS_pL, gS_pR, ↓reduceIte, Nat.reduceEqDiff, decide_eq_true_eq, Option.bind_some, false_and, and_false, true_and, and_true, and_self, Nat.reduceAdd, not_false_eq_true, not_true_eq_false, wS, wR, inI, ite_self, Classical.not_not, e, hnP, hle, decide_false, Bool.false_eq_true, ax_in, tp, np, hp16, qk, c8, nJ_p1]
        rw [key]
        refine ih (p + 1) v6 n (by omega) (fun q hq => ?_) (by rw [l1, if_neg (by omega)]; exact hn)
        rw [hb q hq]
        by_cases z : q = p
        · rw [z, b0, Bool.and_false, Bool.and_false]
        · congr 1
          by_cases y : q < p
          · rw [decide_eq_true y, decide_eq_true (by omega)]
          · rw [decide_eq_false y, decide_eq_false (by omega)]
/-- a set's images -/
theorem zm_ru_169 {P : Nat → Bool} (t x ch mk v8 : Int32) (v9 v11 : Int64) {s : Nat} : ∀ (m i : Nat) (h : ax_H), i + m = nM (V h) → I0 h → TKM h P → (∀ j, j < i → gI h 194 j = bB (!(P j && psQ (V h) s j))) → ∃ h', M_ruled_169 159 t x ch mk v8 v9 v11 (nI s) (nI i) h = M_ruled_169 159 t x ch mk v8 v9 v11 (nI s) (nI (nM (V h))) h' ∧ fr S194 h h' ∧ ISO h' (fun j => P j && psQ (V h) s j) := by
  intro m
  induction m with
  | zero =>
    intro i h hm i0 tk hi
    have : i = nM (V h) := by omega
    subst this
    exact ⟨h, rfl, fr_rf _ _, hi⟩
  | succ m ih =>
    intro i h hm i0 tk hi
    have i00 := i0
    obtain ⟨w0, e0, g⟩ := i0
    have hcn := cnts g.1
    have hn := nI_nM g.1.2.2.2.1
    obtain ⟨wS, wR, wG, wN⟩ := w0
    have e := EQ_a e0
    unfold EQa at e
    have hle : ¬ nI (nM (V h)) ≤ nI i := by rw [nJ_le (by omega) (by omega)]; omega
    have ti : (nI i).toNatClampNeg = i := nJ_n (by omega)
    have ni : ¬ nI i < 0 := nJ_nn (by omega)
    have hi2 : i < 100 := by omega
    have hin : i < nM (V h) := by omega
    have tki := tk i hin
    obtain ⟨p, hp1, hp2, hp3, hp4⟩ := nI_ex (g.2.2.2.1.1 i (by omega)).1
    have hp5 : p < 16 := by omega
    have hp6 : (V h 75 i).toInt.toNat = p := by omega
    have z1 : (0 : Int32) &&& 1 = 0 := by decide
    have z2 : (1 : Int32) &&& 1 = 1 := by decide
    have F : fr S194 h (pI h 194 i (bB (!(P i && psQ (V h) s i)))) := fr_pI rfl
    have hV := V_frm (S194_m F)
    obtain ⟨h', r1, r2, r3⟩ := ih (i + 1) _ (by rw [hV]; omega) (I0_frm (S194_m F) i00) (fun j hj => by
      rw [hV] at hj
      rw [gI_pI, if_neg (by omega)]
      exact tk j hj) (fun j hj => by
      rw [hV, gI_pI]
      by_cases q : j = i
      · rw [if_pos ⟨rfl, q⟩, q]
      · rw [if_neg (fun z => q z.2)]
        exact hi j (by omega))
    rw [hV] at r1 r3
    refine ⟨h', ?_, fr_tr F r2, r3⟩
    rw [← r1, M_ruled_169_eq]
    have to : ((nI s >>> (nI p &&& 31)) &&& 1 = 1) ↔ s.testBit p = true := by rw [bt_o (by omega), bt_nI (by omega)]
    cases hp : P i with
    | false =>
      rw [hp] at tki
      simp only [gI_pI, gI_pL, gI_pR, gL_pI, gL_pL, gL_pR, gR_pI, gR_pL, gR_pR, gS_pI, gS_pL, gS_pR, ↓reduceIte, Nat.reduceEqDiff, decide_eq_true_eq, Option.bind_some, false_and, and_false, true_and, and_true, and_self, Nat.reduceAdd, not_false_eq_true, not_true_eq_false, wS, wR, inI, ite_self, Classical.not_not, e, hn, hle, decide_false, Bool.false_eq_true, ax_in, ti, ni, hi2, tki, show bB false = 0 from rfl, z2, nJ_p1, Bool.false_and, show bB (!false) = 1 from rfl]
    | true =>
      rw [hp] at tki
      have eps : psQ (V h) s i = !(s.testBit p) := by unfold psQ; rw [hp6]
      rw [eps]
      cases hb : s.testBit p with
      | false =>
        have to' : ¬ ((nI s >>> (nI p &&& 31)) &&& 1 = 1) := fun z => by rw [to, hb] at z; cases z
        simp only [gI_pI, gI_pL, gI_pR, gL_pI, gL_pL, gL_pR, gR_pI, gR_pL, gR_pR, gS_pI, gS_pL, gS_pR, ↓reduceIte, Nat.reduceEqDiff, decide_eq_true_eq, Option.bind_some, false_and, and_false, true_and, and_true, and_self, Nat.reduceAdd, not_false_eq_true, not_true_eq_false, wS, wR, inI, ite_self, Classical.not_not, e, hn, hle, decide_false, Bool.false_eq_true, ax_in, ti, ni, hi2, tki, show ¬ bB true = 0 by decide, hp1, to', z1, nJ_p1]
        rfl
      | true =>
        have to' := to.mpr hb
        simp only [gI_pI, gI_pL, gI_pR, gL_pI, gL_pL, gL_pR, gR_pI, gR_pL, gR_pR, gS_pI, gS_pL, gS_pR, ↓reduceIte, Nat.reduceEqDiff, decide_eq_true_eq, Option.bind_some, false_and, and_false, true_and, and_true, and_self, Nat.reduceAdd, not_false_eq_true, not_true_eq_false, wS, wR, inI, ite_self, Classical.not_not, e, hn, hle, decide_false, Bool.false_eq_true, ax_in, ti, ni, hi2, tki, show ¬ bB true = 0 by decide, hp1, to', z2, nJ_p1]
        rfl
