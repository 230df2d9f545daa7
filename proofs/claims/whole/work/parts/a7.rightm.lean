/-! right: the reference -/
def OTR (h : ax_H) (P : Nat → Bool) (m : Nat → Nat → Int) (i : Nat) : Prop := ∀ j, j < nM (V h) → (P j = true → j < i → gI h 192 j = Int32.ofInt (m j 0) ∧ gI h 193 j = Int32.ofInt (m j 1)) ∧ (P j = false → gI h 192 j = Int32.ofInt (tuZ (V h) j 0) ∧ gI h 193 j = Int32.ofInt (tuZ (V h) j 1))
def Srt (a k : Nat) : Bool := decide (a = 192 ∨ a = 193 ∨ (a = 159 ∧ k = 66))
theorem Srt_m {h h' : ax_H} (q : fr Srt h h') : fr Sm h h' := fr_le q fun a k z => by simp only [Sm, Srt, decide_eq_false_iff_not] at z ⊢; omega
theorem sv_cg {V : BV} {ft : List Nat} {d e : Nat → Nat → Int} {L : List Nat} (h : ∀ i ∈ L, ∀ ax, d i ax = e i ax) : sv V ft d L = sv V ft e L := by
  funext k
  refine sg_cg fun i hi => ?_
  unfold rowv
  rw [h i hi 0, h i hi 1]
theorem lw_r {V : BV} (g : GV V) {li : Nat} (hli : li ≤ 9999) {i : Nat} (hi : i < nM V) (ax : Nat) (z : Int) : Int64.toInt32 ((nI li).toInt64 * Int64.ofInt (gi V 4 i ax) / 1000) + Int32.ofInt z = Int32.ofInt (lwZ V li i ax + z) := by
  have bd := lwZ_bd g hli hi ax
  rw [i_L, nJ_i (by omega), ← Int64.ofInt_mul, show (1000 : Int64) = Int64.ofInt 1000 from rfl, l_tdiv (by omega) (by omega)]
  show Int64.toInt32 (Int64.ofInt (lwZ V li i ax)) + _ = _
  rw [l_i32 (by omega), ← Int32.ofInt_add]
theorem zm_rt_140 {h : ax_H} (i0 : I0 h) {D : WD} {kn : Int32} {li c : Nat} (hli : li ≤ 9999) (hcc : c ≤ 99) {s : Int} (hs : 0 ≤ s ∧ s < 2147483648) {i k : Nat} (hi : i < nM (V h)) (hk : (tkL (V h) D kn)[k]? = some i) (hg : gL h 159 66 = Int64.ofInt (itS (2 * k) s)) (w N l a wd : Int32) {k0 : Int32} (h0 : k0 = if V h 72 (V h 75 i).toInt.toNat = 1 then -1 else 1) : ∃ h', M_right_140 k0 159 w (nI li) (nI c) N l a wd (nI i) h = M_right_100 159 w (nI li) (nI c) N l a wd (nI (i + 1)) h' ∧ fr Srt h h' ∧ gL h' 159 66 = Int64.ofInt (itS (2 * (k + 1)) s) ∧ gI h' 192 i = Int32.ofInt (mwZ (V h) D kn li c s i 0) ∧ gI h' 193 i = Int32.ofInt (mwZ (V h) D kn li c s i 1) ∧ ∀ j, ¬ j = i → gI h' 192 j = gI h 192 j ∧ gI h' 193 j = gI h 193 j := by
  have hcn := cnts i0.2.2.1
  have s1 := zm_slipOf i0.1 (itS_bd hs _) hg hcc
  have F1 : fr Srt h (pL h 159 66 (Int64.ofInt (nxS (itS (2 * k) s)))) := fr_pL rfl
  have i1 := I0_frm (Srt_m F1) i0
  have hV1 := V_frm (Srt_m F1)
  have s2 := zm_slipOf i1.1 (nxS_bd (itS (2 * k) s)) (by rw [gL_pL, if_pos ⟨rfl, rfl⟩]) hcc
  have G0 := zm_givenOn i0.1 i0.2.2 i0.2.1 (t := 4) (ax := 0) (by omega) hi (by omega)
  have G1 := zm_givenOn i1.1 i1.2.2 i1.2.1 (t := 4) (ax := 1) (i := i) (by omega) (by rw [hV1]; exact hi) (by omega)
  rw [hV1] at G1
  have G0' : M_givenOn 159 4 (nI i) 0 h = some (Int64.ofInt (gi (V h) 4 i 0), h) := G0
  have G1' : M_givenOn 159 4 (nI i) 1 (pL h 159 66 (Int64.ofInt (nxS (itS (2 * k) s)))) = some (Int64.ofInt (gi (V h) 4 i 1), pL h 159 66 (Int64.ofInt (nxS (itS (2 * k) s)))) := G1
  obtain ⟨wS, wR, wG, wN⟩ := i0.1
  have ti : (nI i).toNatClampNeg = i := nJ_n (by omega)
  have ni : ¬ nI i < 0 := nJ_nn (by omega)
  have hi2 : i < 100 := by omega
  have e0 : k0 * Int32.ofInt (lwZ (V h) li i 0 + slZ (nxS (itS (2 * k) s)) c) = Int32.ofInt (mwZ (V h) D kn li c s i 0) := by
    unfold mwZ sgZ
    rw [h0, ixL_at hk]
    by_cases q : V h 72 (V h 75 i).toInt.toNat = 1
    · rw [if_pos q, if_pos q, show (-1 : Int32) = Int32.ofInt (-1) from rfl, ← Int32.ofInt_mul, Int.neg_one_mul]
      rfl
    · rw [if_neg q, if_neg q, Int32.one_mul]
      rfl
  have e1 : k0 * Int32.ofInt (lwZ (V h) li i 1 + slZ (nxS (nxS (itS (2 * k) s))) c) = Int32.ofInt (mwZ (V h) D kn li c s i 1) := by
    unfold mwZ sgZ
    rw [h0, ixL_at hk]
    by_cases q : V h 72 (V h 75 i).toInt.toNat = 1
    · rw [if_pos q, if_pos q, show (-1 : Int32) = Int32.ofInt (-1) from rfl, ← Int32.ofInt_mul, Int.neg_one_mul]
      rfl
    · rw [if_neg q, if_neg q, Int32.one_mul]
      rfl
  refine ⟨pI (pI (pL (pL h 159 66 (Int64.ofInt (nxS (itS (2 * k) s)))) 159 66 (Int64.ofInt (nxS (nxS (itS (2 * k) s))))) 192 i (Int32.ofInt (mwZ (V h) D kn li c s i 0))) 193 i (Int32.ofInt (mwZ (V h) D kn li c s i 1)), ?_, ?_, ?_, ?_, ?_, fun j hj => ⟨?_, ?_⟩⟩
  · rw [M_right_140_eq]
    simp only [wS, ↓reduceIte]
    rw [bnd G0']
    simp only [wS, ↓reduceIte]
    rw [bnd s1]
    simp only [gS_pL, wS, ↓reduceIte]
    rw [bnd G1']
    simp only [gS_pL, wS, ↓reduceIte]
    rw [bnd s2]
    simp only [gS_pL, gR_pL, gS_pI, gR_pI, wS, wR, ↓reduceIte, ax_in, ti, ni, hi2, not_false_eq_true, and_self, lw_r i0.2.2 hli hi, e0, e1, nJ_p1]
  · exact fr_tr F1 (fr_tr (fr_pL rfl) (fr_tr (fr_pI rfl) (fr_pI rfl)))
  · rw [gL_pI, gL_pI, gL_pL, if_pos ⟨rfl, rfl⟩]
    rfl
  · rw [gI_pI, if_neg (by omega), gI_pI, if_pos ⟨rfl, rfl⟩]
  · rw [gI_pI, if_pos ⟨rfl, rfl⟩]
  · rw [gI_pI, if_neg (by omega), gI_pI, if_neg (fun z => hj z.2), gI_pL, gI_pL]
  · rw [gI_pI, if_neg (fun z => hj z.2), gI_pI, if_neg (by omega), gI_pL, gI_pL]
theorem zm_rt_100 {D : WD} {kn : Int32} {li c : Nat} (hli : li ≤ 9999) (hcc : c ≤ 99) {s : Int} (hs : 0 ≤ s ∧ s < 2147483648) (w N l a wd : Int32) {V0 : BV} : ∀ (m i k : Nat) (h : ax_H), V h = V0 → i + m = nM V0 → k ≤ (tkL V0 D kn).length → (tkL V0 D kn).drop k = flF (tkB V0 D kn) m i → I0 h → TKM h (tkB V0 D kn) → OTR h (tkB V0 D kn) (mwZ V0 D kn li c s) i → gL h 159 66 = Int64.ofInt (itS (2 * k) s) → ∃ h', M_right_100 159 w (nI li) (nI c) N l a wd (nI i) h = M_right_100 159 w (nI li) (nI c) N l a wd (nI (nM V0)) h' ∧ fr Srt h h' ∧ OTR h' (tkB V0 D kn) (mwZ V0 D kn li c s) (nM V0) ∧ gL h' 159 66 = Int64.ofInt (itS (2 * (tkL V0 D kn).length) s) := by
  intro m
  induction m with
  | zero =>
    intro i k h hV hm hk hd i0 tk ot hg
    have : i = nM V0 := by omega
    subst this
    have hd' : (tkL V0 D kn).drop k = [] := hd
    have : k = (tkL V0 D kn).length := by
      have := List.drop_eq_nil_iff.mp hd'
      omega
    subst this
    exact ⟨h, rfl, fr_rf _ _, ot, hg⟩
  | succ m ih =>
    intro i k h hV hm hk hd i0 tk ot hg
    subst hV
    have i00 := i0
    obtain ⟨w0, e0, g⟩ := i0
    have hcn := cnts g.1
    have hn := nI_nM g.1.2.2.2.1
    obtain ⟨wS, wR, wG, wN⟩ := w0
    have e := EQ_a e0
    unfold EQa at e
    have hle : ¬ nI (nM (V h)) ≤ nI i := by rw [nJ_le (by omega) (by omega)]; omega
    have ti : (nI i).toNatClampNeg = i := nJ_n (by omega)
    have ni : ¬ nI i < 0 := nJ_nn (by omega)
    have hi2 : i < 100 := by omega
    have hin : i < nM (V h) := by omega
    have tki := tk i hin
    rw [flF] at hd
    cases hp : tkB (V h) D kn i with
    | false =>
      rw [hp] at tki
      rw [hp, if_neg (by decide)] at hd
      obtain ⟨h', r1, r2, r3, r4⟩ := ih (i + 1) k h rfl (by omega) hk hd i00 tk (fun j hj => ⟨fun z1 z2 => (ot j hj).1 z1 (by
        have : ¬ j = i := fun z => by rw [z, hp] at z1; cases z1
        omega), (ot j hj).2⟩) hg
      refine ⟨h', ?_, r2, r3, r4⟩
      rw [← r1, M_right_100_eq]
      simp only [gI_pI, gI_pL, gI_pR, gL_pI, gL_pL, gL_pR, gR_pI, gR_pL, gR_pR, gS_pI, gS_pL, gS_pR, ↓reduceIte, Nat.reduceEqDiff, decide_eq_true_eq, Option.bind_some, false_and, and_false, true_and, and_true, and_self, Nat.reduceAdd, not_false_eq_true, not_true_eq_false, wS, wR, inI, ite_self, Classical.not_not, e, hn, hle, decide_false, Bool.false_eq_true, ax_in, ti, ni, hi2, tki, show bB false = 0 from rfl, nJ_p1]
    | true =>
      rw [hp] at tki
      rw [hp, if_pos rfl] at hd
      have hki : (tkL (V h) D kn)[k]? = some i := by
        have := List.getElem?_drop (xs := tkL (V h) D kn) (i := k) (j := 0)
        rw [hd] at this
        exact this.symm
      have hkl : k < (tkL (V h) D kn).length := (List.getElem?_eq_some_iff.mp hki).1
      have hd2 : (tkL (V h) D kn).drop (k + 1) = flF (tkB (V h) D kn) m (i + 1) := by
        rw [← List.tail_drop, hd]
        rfl
      obtain ⟨p, hp1, hp2, hp3, hp4⟩ := nI_ex (g.2.2.2.1.1 i (by omega)).1
      have hp5 : p < 16 := by omega
      have hp6 : (V h 75 i).toInt.toNat = p := by omega
      have tp : (nI p).toNatClampNeg = p := nJ_n (by omega)
      have np : ¬ nI p < 0 := nJ_nn (by omega)
      obtain ⟨h1, a1, a2, a3, a4, a5, a6⟩ := zm_rt_140 i00 (D := D) (kn := kn) hli hcc hs hin hki hg w N l a wd rfl
      have hV1 := V_frm (Srt_m a2)
      obtain ⟨h', r1, r2, r3, r4⟩ := ih (i + 1) (k + 1) h1 hV1 (by omega) (by omega) hd2 (I0_frm (Srt_m a2) i00) (fun j hj => by
        rw [hV1] at hj
        rw [fr_I a2 rfl]
        exact tk j hj) (fun j hj => by
        rw [hV1] at hj ⊢
        by_cases q : j = i
        · subst q
          exact ⟨fun _ _ => ⟨a4, a5⟩, fun z => by rw [hp] at z; cases z⟩
        · rw [(a6 j q).1, (a6 j q).2]
          exact ⟨fun z1 z2 => (ot j hj).1 z1 (by omega), (ot j hj).2⟩) a3
      refine ⟨h', ?_, fr_tr a2 r2, r3, r4⟩
      rw [← r1, ← a1, M_right_100_eq, hp6]
      by_cases q : V h 72 p = 1
      · rw [if_pos q]
        simp only [gI_pI, gI_pL, gI_pR, gL_pI, gL_pL, gL_pR, gR_pI, gR_pL, gR_pR, gS_pI, gS_pL, gS_pR, ↓reduceIte, Nat.reduceEqDiff, decide_eq_true_eq, Option.bind_some, false_and, and_false, true_and, and_true, and_self, Nat.reduceAdd, not_false_eq_true, not_true_eq_false, wS, wR, inI, ite_self, Classical.not_not, e, hn, hle, decide_false, Bool.false_eq_true, ax_in, ti, ni, hi2, tki, show ¬ bB true = 0 by decide, hp1, tp, np, hp5, q]
      · rw [if_neg q]
        simp only [gI_pI, gI_pL, gI_pR, gL_pI, gL_pL, gL_pR, gR_pI, gR_pL, gR_pR, gS_pI, gS_pL, gS_pR, ↓reduceIte, Nat.reduceEqDiff, decide_eq_true_eq, Option.bind_some, false_and, and_false, true_and, and_true, and_self, Nat.reduceAdd, not_false_eq_true, not_true_eq_false, wS, wR, inI, ite_self, Classical.not_not, e, hn, hle, decide_false, Bool.false_eq_true, ax_in, ti, ni, hi2, tki, show ¬ bB true = 0 by decide, hp1, tp, np, hp5, q]
/-- a world of the reference, behind its images -/
theorem zm_rt_w {D : WD} (f : WF D) {kn : Int32} (hkn : kn.toInt ≤ 9999) {li c l : Nat} (hli : li ≤ 9999) (hcc : c ≤ 99) (hl : l ≤ 99999) {s : Int} {w : Nat} (hw : w < 10) {h : ax_H} (i0 : I0 h) (m : WM h w D) (hk : V h 65 0 = kn) (iso : ISO h (tkB (V h) D kn)) (ot : OTR h (tkB (V h) D kn) (mwZ (V h) D kn li c s) (nM (V h))) (N a : Int32) (wd : Nat) : ∃ h', M_right_100 159 (nI w) (nI li) (nI c) N (nI l) a (nI wd) (nI (nM (V h))) h = M_right_90 159 (nI w) (nI li) (nI c) N (nI l) (if cko (V h) D kn 6 0 && hitB (V h) D kn li c l s then a + 1 else a) (nI (wd + 1)) h' ∧ fr Sbf h h' := by
  have g := i0.2.2
  obtain ⟨h3, c1, c2, c3⟩ := zm_begins i0 hw (li := 0) (ins := false) (Or.inl ⟨rfl, rfl⟩) f m hkn
  have hV3 : V h3 = V h := V_frm (Sbe_m c2)
  have i3 := I0_frm (Sbe_m c2) i0
  have S3 : gS h3 = gS h := fr_S c2
  have e := EQ_a i0.2.1
  unfold EQa at e
  have hn := nI_nM g.1.2.2.2.1
  obtain ⟨wS, wR, wG, wN⟩ := i0.1
  have c1' : M_begins 159 (nI w) (V h 65 0) 0 0 h = some (bB (cko (V h) D kn 6 0), h3) := by rw [hk]; exact c1
  have hle : nI (nM (V h)) ≤ nI (nM (V h)) := Int32.le_refl _
  cases hc : cko (V h) D kn 6 0 with
  | false =>
    rw [hc] at c1'
    refine ⟨h3, ?_, Sbe_f c2⟩
    rw [M_right_100_eq]
    simp only [wS, ↓reduceIte, e, hn, hle, decide_true]
    rw [bnd c1']
    simp only [show bB false = 0 from rfl, decide_true, ↓reduceIte, Bool.false_and, Bool.false_eq_true, Int32.add_zero, nJ_p1]
  | true =>
    rw [hc] at c1'
    have hcc2 := cko_ok.mp hc
    have bg := c3 hc
    have ou : OUT h (fun j ax => if tkB (V h) D kn j then mwZ (V h) D kn li c s j ax else tuZ (V h) j ax) := fun i hi => by
      cases hp : tkB (V h) D kn i with
      | true =>
        have := (ot i hi).1 hp hi
        simp only [hp, ↓reduceIte]
        exact this
      | false =>
        have := (ot i hi).2 hp
        simp only [hp, Bool.false_eq_true, ↓reduceIte]
        exact this
    have ou3 := OUT_fr c2 hV3 (fun _ => rfl) (fun _ => rfl) ou
    have is3 : ISO h3 (tkB (V h) D kn) := ISO_fr c2 hV3 (fun _ => rfl) iso
    obtain ⟨h4, d1, d2, d3, d4⟩ := zm_fit i3 f (by rw [hV3]; exact hcc2) (by rw [hV3]; exact bg) ou3 is3 (fun i ax hi _ => by
      rw [hV3] at hi
      show -498 ≤ (if tkB (V h) D kn i then mwZ (V h) D kn li c s i ax else tuZ (V h) i ax) ∧ (if tkB (V h) D kn i then mwZ (V h) D kn li c s i ax else tuZ (V h) i ax) ≤ 498
      have x1 := mX_bd g.2.2.2.1 hi ax
      have x2 := mwZ_bd g D kn hli hcc s hi ax
      cases tkB (V h) D kn i with
      | true => exact x2
      | false =>
        rw [if_neg (by decide)]
        unfold tuZ
        split <;> omega)
    rw [hV3] at d1 d3 d4
    have eS : sv (V h) (FT D) (mdZ (V h) D kn (fun j ax => if tkB (V h) D kn j then mwZ (V h) D kn li c s j ax else tuZ (V h) j ax)) (flF (tkB (V h) D kn) (nM (V h)) 0) = SW (V h) D kn li c s := by
      refine sv_cg fun i hi ax => ?_
      have := ((flF_mem (nM (V h)) 0).mp hi).2.2
      unfold mdZ
      simp only [this, ↓reduceIte]
    rw [eS] at d1 d4
    have S4 : gS h4 = gS h := (fr_S d2).trans S3
    have R4 : gR h4 = gR h := (fr_R d2).trans (fr_R c2)
    refine ⟨h4, ?_, fr_tr (Sbe_f c2) (Sfi_f d2)⟩
    rw [M_right_100_eq]
    simp only [wS, ↓reduceIte, e, hn, hle, decide_true]
    rw [bnd c1']
    simp only [show ¬ bB true = 0 by decide, decide_false, Bool.false_eq_true, ↓reduceIte, S3, wS]
    rw [bnd d1]
    unfold hitB
    cases hs : slB (SW (V h) D kn li c s) (FT D).length with
    | false =>
      simp only [show bB false = 0 from rfl, decide_true, ↓reduceIte, Bool.false_and, Bool.and_false, Bool.false_eq_true, Int32.add_zero, nJ_p1]
    | true =>
      have v := d4 hs 4 (by omega)
      have ab := anZ_bd g.2.2.2.1 f hcc2 hs (t := 4) (by omega)
      have l1 : (nI l).toInt = (l : Int) := nJ_i (by omega)
      have nr := zm_near (A := (li : Int)) (B := anZ (V h) D kn (SW (V h) D kn li c s) 4) (c := nI l) (by omega) ab (by omega) h4
      have l2 : (nI li).toInt64 = Int64.ofInt (li : Int) := by rw [i_L, nJ_i (by omega)]
      rw [l1] at nr
      simp only [show ¬ bB true = 0 by decide, decide_false, Bool.false_eq_true, ↓reduceIte, S4, R4, wS, wR, ax_in, show Int32.toNatClampNeg 4 = 4 from rfl, show ¬ (4 : Int32) < 0 by decide, show (4 : Nat) < 6 by decide, not_false_eq_true, and_self, v, l2, Bool.true_and]
      rw [bnd nr, bI_b]
      by_cases q : (li : Int) - anZ (V h) D kn (SW (V h) D kn li c s) 4 ≤ (l : Int) ∧ anZ (V h) D kn (SW (V h) D kn li c s) 4 - (li : Int) ≤ (l : Int)
      · rw [if_pos q, if_pos (decide_eq_true ⟨q.2, q.1⟩), nJ_p1]
      · rw [if_neg q, if_neg (fun z => q (by have := of_decide_eq_true z; exact ⟨this.2, this.1⟩)), nJ_p1, Int32.add_zero]
def Srb (a k : Nat) : Bool := Srt a k || Sbf a k
theorem Srt_b {h h' : ax_H} (q : fr Srt h h') : fr Srb h h' := fr_le q fun a k z => by unfold Srb at z; rw [Bool.or_eq_false_iff] at z; exact z.1
theorem Sbf_b {h h' : ax_H} (q : fr Sbf h h') : fr Srb h h' := fr_le q fun a k z => by unfold Srb at z; rw [Bool.or_eq_false_iff] at z; exact z.2
theorem zm_rt_90 {D : WD} (f : WF D) {kn : Int32} (hkn : kn.toInt ≤ 9999) {li c l N : Nat} (hli : li ≤ 9999) (hcc : c ≤ 99) (hl : l ≤ 99999) (hN : N ≤ 50) {w : Nat} (hw : w < 10) {V0 : BV} (hk : V0 65 0 = kn) : ∀ (m wd : Nat) (a : Int32) (s : Int) (h : ax_H), wd + m = N → V h = V0 → 0 ≤ s ∧ s < 2147483648 → I0 h → WM h w D → ISO h (tkB V0 D kn) → TKM h (tkB V0 D kn) → (∀ j, j < nM V0 → tkB V0 D kn j = false → gI h 192 j = Int32.ofInt (tuZ V0 j 0) ∧ gI h 193 j = Int32.ofInt (tuZ V0 j 1)) → gL h 159 66 = Int64.ofInt s → ∃ h', M_right_90 159 (nI w) (nI li) (nI c) (nI N) (nI l) a (nI wd) h = some (if cko V0 D kn 6 0 then rwC V0 D kn li c l m s a else a, h') ∧ fr Sm h h' := by
  intro m
  induction m with
  | zero =>
    intro wd a s h hwd hV hs i0 wm iso tk un hg
    have hle : nI N ≤ nI wd := by rw [nJ_le (by omega) (by omega)]; omega
    refine ⟨h, ?_, fr_rf _ _⟩
    rw [M_right_90_eq, rwC, ite_self]
    simp only [hle, decide_true, ↓reduceIte]
  | succ m ih =>
    intro wd a s h hwd hV hs i0 wm iso tk un hg
    subst hV
    have hle : ¬ nI N ≤ nI wd := by rw [nJ_le (by omega) (by omega)]; omega
    obtain ⟨h1, a1, a2, a3, a4⟩ := zm_rt_100 (D := D) (kn := kn) hli hcc hs (nI w) (nI N) (nI l) a (nI wd) (nM (V h)) 0 0 h rfl (by omega) (by omega) rfl i0 tk (fun j hj => ⟨fun _ z => by omega, un j hj⟩) hg
    have hV1 := V_frm (Srt_m a2)
    have i1 := I0_frm (Srt_m a2) i0
    obtain ⟨h2, b1, b2⟩ := zm_rt_w f hkn (l := l) hli hcc hl (s := s) hw i1 (WM_m (Srt_m a2) wm) (by rw [hV1]; exact hk) (by rw [hV1]; exact ISO_fr a2 hV1 (fun _ => rfl) iso) (by rw [hV1]; exact a3) (nI N) a wd
    rw [hV1] at b1
    have F2 : fr Sm h h2 := fr_tr (Srt_m a2) (Sbf_m b2)
    have hV2 := V_frm F2
    obtain ⟨h', r1, r2⟩ := ih (wd + 1) (if cko (V h) D kn 6 0 && hitB (V h) D kn li c l s then a + 1 else a) (itS (2 * (tkL (V h) D kn).length) s) h2 (by omega) hV2 (itS_bd hs _) (I0_frm F2 i0) (WM_m F2 wm) (ISO_fr b2 (hV2.trans hV1.symm) (fun _ => rfl) (ISO_fr a2 hV1 (fun _ => rfl) iso)) (fun j hj => by
      rw [hV2] at hj
      rw [fr_I b2 rfl, fr_I a2 rfl]
      exact tk j hj) (fun j hj hp => by
      rw [fr_I b2 rfl, fr_I b2 rfl]
      have := (a3 j (by rw [hV1]; exact hj)).2 hp
      rw [hV1] at this
      exact this) ((fr_L b2 rfl).trans a4)
    refine ⟨h', ?_, fr_tr F2 r2⟩
    have a1' : M_right_100 159 (nI w) (nI li) (nI c) (nI N) (nI l) a (nI wd) 0 h = M_right_100 159 (nI w) (nI li) (nI c) (nI N) (nI l) a (nI wd) (nI (nM (V h))) h1 := a1
    rw [M_right_90_eq]
    simp only [hle, decide_false, Bool.false_eq_true, ↓reduceIte]
    rw [a1', b1, r1, rwC]
    cases cko (V h) D kn 6 0 with
    | false => rfl
    | true => rfl
theorem qy_right {h : ax_H} (i : I0 h) (iw : IW h) (a s x y n l : Int32) : qry (B_right 64 a s x y n l h) (M_right 159 a s x y n l) h := by
  have i0 := i
  obtain ⟨w, e, g⟩ := i
  have hcn := cnts g.1
  have w0 := w
  obtain ⟨wS, wR, wG, wN⟩ := w
  by_cases h1 : 0 ≤ a.toInt ∧ a.toInt ≤ (V h 65 4).toInt - 1
  case neg =>
    refine qry_no (v := -1) ?_ ?_
    · rw [B_right_eq]
      try simp only [wS, wR, ↓reduceIte]
      simp only [gI_pI, gI_pL, gI_pR, gL_pI, gL_pL, gL_pR, gR_pI, gR_pL, gR_pR, gS_pI, gS_pL, gS_pR, ↓reduceIte, Nat.reduceEqDiff, decide_eq_true_eq, Option.bind_some, false_and, and_false, true_and, and_true, and_self, Nat.reduceAdd, not_false_eq_true, not_true_eq_false, wS, wR, inI, ite_self, Classical.not_not, ↓bnd (z_wayNo w0 g.1 h1)]
    · rw [M_right_eq]
      simp only [gI_pI, gI_pL, gI_pR, gL_pI, gL_pL, gL_pR, gR_pI, gR_pL, gR_pR, gS_pI, gS_pL, gS_pR, ↓reduceIte, Nat.reduceEqDiff, decide_eq_true_eq, Option.bind_some, false_and, and_false, true_and, and_true, and_self, Nat.reduceAdd, not_false_eq_true, not_true_eq_false, wS, wR, inI, ite_self, Classical.not_not, ↓bnd (zm_isWay w0 g.1 e _), bI_0, h1]
  obtain ⟨j, rfl, hj, hj2, hj3⟩ := nI_ex h1
  obtain ⟨D, c, m, f⟩ := iw j (by omega)
  have hnz : ¬ gR h 82 j = 0 := by have := c.1; omega
  have hWA := z_wayAt w0 g.1 (j := j) (by omega)
  have hWA' : Bk_wayAt (gR h 64 0) (nI j) h = some (gR h 82 j, h) := by simp only [wR]; exact hWA
  have hIW := fun h (i : I0 h) => zm_isWay i.1 i.2.2.1 i.2.1 (nI j)
  have preB : ∀ r, (if decide (s < 0) then
      (some ((-1), h) )
    else
      ((B_isWithin x 0 9999 h).bind (fun r2 => if decide (r2.1 = 0) then
        (some ((-1), r2.2) )
      else
        ((B_isWithin y 0 99 r2.2).bind (fun r3 => if decide (¬ r3.1 = 0) then
          ((B_isWithin n 1 50 r3.2).bind (fun r4 => if decide (r4.1 = 0) then
            (some ((-1), r4.2) )
          else
            ((B_isWithin l 0 99999 r4.2).bind (fun r5 => if decide (¬ r5.1 = 0) then
              (if (gS r5.2 64).1 = 0 then if (gS r5.2 64).1 = 0 then if (gS r5.2 64).1 = 0 then if (gS r5.2 (gR r5.2 64 0)).1 = 1 then if (gS r5.2 (gR r5.2 64 3)).1 = 7 then (Ft_open (gR r5.2 64 3) (gR r5.2 64 0) (gR h 82 j) (gI r5.2 (gR r5.2 64 0) 0) r5.2).bind (fun r6 => if decide (¬ r6.1 = 0) then
                (if (gS r6.2 64).1 = 0 then if (gS r6.2 64).1 = 0 then if (gS r6.2 (gR r6.2 64 3)).1 = 7 then (Ft_rightWorlds (gR r6.2 64 3) (gR r6.2 64 0) s x y n l r6.2).bind (fun r7 => some (r7.1, r7.2) ) else none else none else none)
              else
                (some (0, r6.2) ) ) else none else none else none else none else none)
            else
              (some ((-1), r5.2) ) )) ))
        else
          (some ((-1), r3.2) ) )) )) ) = r → B_right 64 (nI j) s x y n l h = r := fun r hr => by
    rw [← hr, B_right_eq]
    simp only [wS, ↓reduceIte]
    rw [if_pos (by simp only [wR, wS]), bnd hWA', if_neg hnz]
  have preM : ∀ h (_ : I0 h) (_ : 0 ≤ (nI j).toInt ∧ (nI j).toInt ≤ (V h 65 4).toInt - 1) r, (if decide (s < 0) then
      (some ((-1), h) )
    else
      ((M_in (Int32.toInt64 x) 0 9999 h).bind (fun r2 => if decide (r2.1 = 0) then
        (some ((-1), r2.2) )
      else
        ((M_in (Int32.toInt64 y) 0 99 r2.2).bind (fun r3 => if decide (r3.1 = 0) then
          (some ((-1), r3.2) )
        else
          ((M_in (Int32.toInt64 n) 1 50 r3.2).bind (fun r4 => if decide (r4.1 = 0) then
            (some ((-1), r4.2) )
          else
            ((M_in (Int32.toInt64 l) 0 99999 r4.2).bind (fun r5 => if decide (¬ r5.1 = 0) then
              (if (gS r5.2 159).1 = 11 then if (gS r5.2 159).1 = 11 then (M_takesAll 159 (nI j) (gI r5.2 159 1) r5.2).bind (fun h6 => if (gS h6 159).1 = 11 then (M_measures 159 h6).bind (fun h7 => if (gS h7 159).1 = 11 then let h8 := pL h7 159 66 (Int32.toInt64 s); M_right_90 159 (nI j) x y n l 0 0 h8 else none ) else none ) else none else none)
            else
              (some ((-1), r5.2) ) )) )) )) )) ) = r → M_right 159 (nI j) s x y n l h = r := fun h i h1 r hr => by
    obtain ⟨vS, vR, -, -⟩ := i.1
    rw [← hr, M_right_eq]
    simp only [vS, ↓reduceIte]
    rw [bnd (hIW h i), if_neg (by rw [decide_eq_true_eq, bI_0]; exact not_not_intro h1)]
  by_cases hs : s < 0
  case pos =>
    refine qry_no (v := -1) (preB _ ?_) (preM h i0 h1 _ ?_)
    · rw [if_pos (by rw [decide_eq_true_eq]; exact hs)]
    · rw [if_pos (by rw [decide_eq_true_eq]; exact hs)]
  have hs0 : ¬ decide (s < 0) = true := by rw [decide_eq_true_eq]; exact hs
  have hs1 : 0 ≤ s.toInt := by
    rw [i32_lt] at hs
    have : (0 : Int32).toInt = 0 := rfl
    omega
  by_cases hx : 0 ≤ x.toInt ∧ x.toInt ≤ 9999
  case neg =>
    refine qry_no (v := -1) (preB _ ?_) (preM h i0 h1 _ ?_)
    · rw [if_neg hs0, bnd (z_isWithin _ _ _ _), if_pos (by rw [decide_eq_true_eq, bI_0]; exact hx)]
    · rw [if_neg hs0, bnd (zm_in _ _ _ _), if_pos (by rw [decide_eq_true_eq, bI_0, Int32.toInt_toInt64]; exact hx)]
  by_cases hy : 0 ≤ y.toInt ∧ y.toInt ≤ 99
  case neg =>
    refine qry_no (v := -1) (preB _ ?_) (preM h i0 h1 _ ?_)
    · rw [if_neg hs0, bnd (z_isWithin _ _ _ _), if_neg (by rw [decide_eq_true_eq, bI_0]; exact not_not_intro hx), bnd (z_isWithin _ _ _ _), if_neg (by rw [decide_eq_true_eq, bI_0]; exact fun q => q hy)]
    · rw [if_neg hs0, bnd (zm_in _ _ _ _), if_neg (by rw [decide_eq_true_eq, bI_0, Int32.toInt_toInt64]; exact not_not_intro hx), bnd (zm_in _ _ _ _), if_pos (by rw [decide_eq_true_eq, bI_0, Int32.toInt_toInt64]; exact hy)]
  by_cases hn : 1 ≤ n.toInt ∧ n.toInt ≤ 50
  case neg =>
    refine qry_no (v := -1) (preB _ ?_) (preM h i0 h1 _ ?_)
    · rw [if_neg hs0, bnd (z_isWithin _ _ _ _), if_neg (by rw [decide_eq_true_eq, bI_0]; exact not_not_intro hx), bnd (z_isWithin _ _ _ _), if_pos (by rw [decide_eq_true_eq, bI_0]; exact not_not_intro hy), bnd (z_isWithin _ _ _ _), if_pos (by rw [decide_eq_true_eq, bI_0]; exact hn)]
    · rw [if_neg hs0, bnd (zm_in _ _ _ _), if_neg (by rw [decide_eq_true_eq, bI_0, Int32.toInt_toInt64]; exact not_not_intro hx), bnd (zm_in _ _ _ _), if_neg (by rw [decide_eq_true_eq, bI_0, Int32.toInt_toInt64]; exact not_not_intro hy), bnd (zm_in _ _ _ _), if_pos (by rw [decide_eq_true_eq, bI_0, Int32.toInt_toInt64]; exact hn)]
  by_cases hl : 0 ≤ l.toInt ∧ l.toInt ≤ 99999
  case neg =>
    refine qry_no (v := -1) (preB _ ?_) (preM h i0 h1 _ ?_)
    · rw [if_neg hs0, bnd (z_isWithin _ _ _ _), if_neg (by rw [decide_eq_true_eq, bI_0]; exact not_not_intro hx), bnd (z_isWithin _ _ _ _), if_pos (by rw [decide_eq_true_eq, bI_0]; exact not_not_intro hy), bnd (z_isWithin _ _ _ _), if_neg (by rw [decide_eq_true_eq, bI_0]; exact not_not_intro hn), bnd (z_isWithin _ _ _ _), if_neg (by rw [decide_eq_true_eq, bI_0]; exact fun q => q hl)]
    · rw [if_neg hs0, bnd (zm_in _ _ _ _), if_neg (by rw [decide_eq_true_eq, bI_0, Int32.toInt_toInt64]; exact not_not_intro hx), bnd (zm_in _ _ _ _), if_neg (by rw [decide_eq_true_eq, bI_0, Int32.toInt_toInt64]; exact not_not_intro hy), bnd (zm_in _ _ _ _), if_neg (by rw [decide_eq_true_eq, bI_0, Int32.toInt_toInt64]; exact not_not_intro hn), bnd (zm_in _ _ _ _), if_neg (by rw [decide_eq_true_eq, bI_0, Int32.toInt_toInt64]; exact fun q => q hl)]
  obtain ⟨xn, rfl, hx2, hx3, hx4⟩ := nI_ex hx
  obtain ⟨yn, rfl, hy2, hy3, hy4⟩ := nI_ex hy
  obtain ⟨nn, rfl, hn2, hn3, hn4⟩ := nI_ex (n := 50) (x := n) (by omega)
  obtain ⟨ln, rfl, hl2, hl3, hl4⟩ := nI_ex hl
  have now9 : (V h 65 0).toInt ≤ 9999 := g.1.1.2
  have hcl : ∃ x2, B_right 64 (nI j) s (nI xn) (nI yn) (nI nn) (nI ln) h = some (if cko (V h) D (V h 65 0) 6 0 = true then rwC (V h) D (V h 65 0) xn yn ln nn s.toInt 0 else 0, x2) ∧ fr Sc h x2 := by
    obtain ⟨x1, a1, a2, a3⟩ := z_open w0 g f c (V h 65 0)
    have hV := V_frc a2
    have w1 := ok_fr a2 w0
    have S1 : gS x1 = gS h := fr_S a2
    have R1 : gR x1 = gR h := fr_R a2
    have chain : ∀ x2 r, (Ft_open 99 65 (gR h 82 j) (V h 65 0) h).bind (fun r6 => if decide (¬ r6.1 = 0) then
                (if (gS r6.2 64).1 = 0 then if (gS r6.2 64).1 = 0 then if (gS r6.2 (gR r6.2 64 3)).1 = 7 then (Ft_rightWorlds (gR r6.2 64 3) (gR r6.2 64 0) s (nI xn) (nI yn) (nI nn) (nI ln) r6.2).bind (fun r7 => some (r7.1, r7.2) ) else none else none else none)
              else
                (some (0, r6.2) ) ) = some (r, x2) → B_right 64 (nI j) s (nI xn) (nI yn) (nI nn) (nI ln) h = some (r, x2) := fun x2 r hr => preB _ (by
      rw [← hr, if_neg hs0, bnd (z_isWithin _ _ _ _), if_neg (by rw [decide_eq_true_eq, bI_0]; exact not_not_intro hx), bnd (z_isWithin _ _ _ _), if_pos (by rw [decide_eq_true_eq, bI_0]; exact not_not_intro hy), bnd (z_isWithin _ _ _ _), if_neg (by rw [decide_eq_true_eq, bI_0]; exact not_not_intro hn), bnd (z_isWithin _ _ _ _), if_pos (by rw [decide_eq_true_eq, bI_0]; exact not_not_intro hl)]
      simp only [wS, wR, ↓reduceIte, cV65, cV66, cV67, cV68, cV69, cV70, cV71, cV72, cV73, cV74, cV75, cV76, cV77, cV78, cV79, cV80, cV81, cV82, cV83, cV84, cV85, cV86, cV87, cV88, cV89, cV90])
    cases hk : cko (V h) D (V h 65 0) 6 0 with
    | false =>
      rw [hk] at a1
      refine ⟨x1, chain _ _ ?_, a2⟩
      rw [bnd a1]
      rfl
    | true =>
      rw [hk] at a1
      have hc := cko_ok.mp hk
      obtain ⟨x2, b1, b2⟩ := z_rightWorlds f (kn := V h 65 0) (li := xn) (c := yn) (l := ln) (N := nn) (by omega) (by omega) (by omega) (by omega) w1 (by rw [hV]; exact g) (by rw [hV]; exact hc) (by rw [hV]; exact a3 hk) hs1
      rw [hV] at b1
      refine ⟨x2, chain _ _ ?_, fr_tr a2 b2⟩
      rw [bnd a1]
      simp only [show ¬ bB true = 0 by decide, not_false_eq_true, decide_true, ↓reduceIte, S1, R1, wS, wR]
      rw [bnd b1]
  obtain ⟨x2, hB, F2⟩ := hcl
  have hV2 := V_frc F2
  have i2 := I0_frc F2 i0
  have m2 := WM_c F2 m
  obtain ⟨y1, a1, a2, a3⟩ := zm_takesAll i2 (w := j) (by omega) f m2 (kn := V h 65 0) now9
  have iy1 := I0_frm (S824_m a2) i2
  have hVy1 := (V_frm (S824_m a2)).trans hV2
  obtain ⟨y2, b1, b2, b3, b4⟩ := zm_measures iy1 a3
  have iy2 := I0_frm (Sme_m b2) iy1
  have hVy2 : V y2 = V h := (V_frm (Sme_m b2)).trans hVy1
  have F3 : fr Srt y2 (pL y2 159 66 s.toInt64) := fr_pL rfl
  have iy3 := I0_frm (Srt_m F3) iy2
  have hVy3 : V (pL y2 159 66 s.toInt64) = V h := (V_frm (Srt_m F3)).trans hVy2
  rw [hV2] at a3 b4
  rw [hVy1] at b3
  have FA : fr Sm x2 (pL y2 159 66 s.toInt64) := fr_tr (S824_m a2) (fr_tr (Sme_m b2) (Srt_m F3))
  have sl := Int32.toInt_lt s
  obtain ⟨y4, c1, c2⟩ := zm_rt_90 f (kn := V h 65 0) now9 (li := xn) (c := yn) (l := ln) (N := nn) (by omega) (by omega) (by omega) (by omega) (w := j) (by omega) (V0 := V h) rfl nn 0 0 s.toInt (pL y2 159 66 s.toInt64) (by omega) hVy3 ⟨hs1, by omega⟩ iy3 (WM_m FA m2) (ISO_fr F3 (hVy3.trans hVy2.symm) (fun _ => rfl) b4) (fun k hk => by
    rw [hVy3] at hk
    rw [gI_pL, fr_I b2 rfl]
    exact a3 k (by rw [hVy1]; exact hk)) (fun k hk _ => by
    rw [gI_pL, gI_pL]
    exact b3 k (by rw [hVy2]; exact hk)) (by rw [gL_pL, if_pos ⟨rfl, rfl⟩, i_L])
  refine ⟨_, x2, y4, hB, preM x2 i2 (by rw [hV2]; exact h1) _ ?_, F2, fr_tr FA c2⟩
  obtain ⟨vS, vR, -, -⟩ := i2.1
  have Sy1 : gS y1 = gS x2 := fr_S a2
  have Sy2 : gS y2 = gS x2 := (fr_S b2).trans Sy1
  have e1 : gI x2 159 1 = V h 65 0 := by
    have e := i2.2.1
    unfold EQ at e
    rw [e.1, hV2]
  rw [if_neg hs0, bnd (zm_in _ _ _ _), if_neg (by rw [decide_eq_true_eq, bI_0, Int32.toInt_toInt64]; exact not_not_intro hx), bnd (zm_in _ _ _ _), if_neg (by rw [decide_eq_true_eq, bI_0, Int32.toInt_toInt64]; exact not_not_intro hy), bnd (zm_in _ _ _ _), if_neg (by rw [decide_eq_true_eq, bI_0, Int32.toInt_toInt64]; exact not_not_intro hn), bnd (zm_in _ _ _ _), if_pos (by rw [decide_eq_true_eq, bI_0, Int32.toInt_toInt64]; exact not_not_intro hl)]
  simp only [vS, ↓reduceIte, e1]
  rw [bnd a1]
  simp only [Sy1, vS, ↓reduceIte]
  rw [bnd b1]
  simp only [Sy2, vS, ↓reduceIte]
  exact c1
