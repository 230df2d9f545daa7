/-! right: a world, the class's -/
theorem sgZ_i {V : BV} {i : Nat} {x : Int} : (if ¬ V 72 (V 75 i).toInt.toNat = 1 then x else -x) = sgZ V i x := by
  unfold sgZ
  by_cases q : V 72 (V 75 i).toInt.toNat = 1
  · rw [if_neg (not_not_intro q), if_pos q]
  · rw [if_pos q, if_neg q]
def drow (V : BV) (D : WD) (kn : Int32) (li c : Nat) (s : Int) (i ax : Nat) : Int := sgZ V i (lwZ V li i ax + slZ (nxS s) c) - stZ V D kn i ax
theorem z_dw_row {D : WD} (f : WF D) {kn : Int32} {li c : Nat} (hli : li ≤ 9999) (hcc : c ≤ 99) {L : List Nat} (hL : L.length ≤ 100) {r i ax : Nat} (hr : r < 2 * L.length) (hra : r % 2 = ax) (hLi : L[r / 2]? = some i) {h : ax_H} (w : ok h) (g : GV (V h)) (hc : ckOk (V h) D kn) (hi : i < nM (V h)) (hF : ftP h (FT D)) (hl : lsP h L) (hR : RWK h (V h) D kn r i ax) (hw : LAW h (V h) li L (2 * L.length)) {s : Int} (hs : 0 ≤ s ∧ s < 2147483648) (hg : gL h 99 14 = Int64.ofInt s) : ∃ h', Ft_drawWorld_29 99 65 (nI c) (nI r) h = Ft_drawWorld_29 99 65 (nI c) (nI (r + 1)) h' ∧ fr S155d h h' ∧ gL h' 99 14 = Int64.ofInt (nxS s) ∧ ∀ k, k < 13 → gL h' 155 k = gL h 155 k + Int64.ofInt (if lastB (FT D).length 0 k then gF (V h) (FT D) (k / 4) i ax * drow (V h) D kn li c s i ax else 0) := by
  have w0 := w
  obtain ⟨wS, wR, wG, wN⟩ := w
  have e2 : (2 : Int32) * nI L.length = nI (2 * L.length) := by rw [show (2 : Int32) = nI 2 from rfl, pk_mul]
  have hle : ¬ nI (2 * L.length) ≤ nI r := by rw [nJ_le (by omega) (by omega)]; omega
  have d1 : nI r / 2 = nI (r / 2) := by rw [show (2 : Int32) = nI 2 from rfl, pk_div (by omega) (by omega) (by omega)]
  have tk : (nI (r / 2)).toNatClampNeg = r / 2 := nJ_n (by omega)
  have nk : ¬ nI (r / 2) < 0 := nJ_nn (by omega)
  have hk : r / 2 < 100 := by omega
  have tr : (nI r).toNatClampNeg = r := nJ_n (by omega)
  have nr : ¬ nI r < 0 := nJ_nn (by omega)
  have hr2 : r < 200 := by omega
  have v1 := hl.2 _ _ hLi
  have v2 := hw r hr i hLi
  rw [hra] at v2
  have v3 := hR.2.1
  have sl := z_drawSlip w0 hs hg hcc
  have F1 : fr S155d h (pL h 99 14 (Int64.ofInt (nxS s))) := fr_pL rfl
  have hV1 := V_frc (S155d_c F1)
  have w1 := ok_fr F1 w0
  have hK := z_kindOf w1 (by rw [hV1]; exact g) (i := i) (by rw [hV1]; exact hi)
  rw [hV1] at hK
  have b1 := (lwZ_bd g hli hi ax).1
  have b2 := slZ_bd (nxS s) hcc
  have b3 := (dZ_bd g f hc hi ax).2
  have h4 := (FT_ok f).1
  unfold ftC at h4
  rw [Bool.and_eq_true] at h4
  have h5 := of_decide_eq_true h4.1
  have eA : (Int32.ofInt (lwZ (V h) li i ax) + Int32.ofInt (slZ (nxS s) c) - Int32.ofInt (stZ (V h) D kn i ax)).toInt64 = Int64.ofInt (lwZ (V h) li i ax + slZ (nxS s) c - stZ (V h) D kn i ax) := by
    rw [← Int32.ofInt_add, ← Int32.ofInt_sub, i_toL (by omega)]
  have eB : (-(Int32.ofInt (lwZ (V h) li i ax) + Int32.ofInt (slZ (nxS s) c)) - Int32.ofInt (stZ (V h) D kn i ax)).toInt64 = Int64.ofInt (-(lwZ (V h) li i ax + slZ (nxS s) c) - stZ (V h) D kn i ax) := by
    rw [← Int32.ofInt_add, ← Int32.ofInt_neg, ← Int32.ofInt_sub, i_toL (by omega)]
  obtain ⟨h', r1, r2, r3⟩ := z_dw_102 f (kn := kn) (nI c) hr2 (drow (V h) D kn li c s i ax) (FT D).length 0 _ (by omega) w1 (by rw [hV1]; exact g) (i := i) (ax := ax) (by rw [hV1]; exact hi) (ftP_fr F1 rfl (fun _ => rfl) hF) (by rw [hV1]; exact RWK_155 F1 f hR)
  rw [hV1] at r3
  refine ⟨h', ?_, fr_tr F1 (S155_d r2), ?_, fun k hk => ?_⟩
  · rw [← r1, Ft_drawWorld_29_eq]
    simp only [wS, wR, ↓reduceIte, hl.1, e2, hle, decide_false, Bool.false_eq_true, ax_in, tr, nr, hr2, not_false_eq_true, and_self]
    rw [bnd sl]
    simp only [gS_pL, gR_pL, gI_pL, wS, wR, ↓reduceIte, d1, ax_in, tk, nk, hk, v1, v2, not_false_eq_true, and_self]
    rw [bnd hK]
    by_cases q : V h 72 (V h 75 i).toInt.toNat = 1
    · simp only [q, not_true_eq_false, decide_false, Bool.false_eq_true, ↓reduceIte]
      rw [Ft_drawWorld_74_eq]
      simp only [i1_0, decide_false, Bool.false_eq_true, ↓reduceIte, gS_pL, gR_pL, gI_pL, wS, wR, ax_in, tr, nr, hr2, v3, eB, not_false_eq_true, and_self]
      unfold drow sgZ
      rw [if_pos q]
      rfl
    · simp only [q, not_false_eq_true, decide_true, ↓reduceIte]
      rw [Ft_drawWorld_74_eq]
      simp only [decide_true, ↓reduceIte, gS_pL, gR_pL, gI_pL, wS, wR, ax_in, tr, nr, hr2, v3, eA, not_false_eq_true, and_self]
      unfold drow sgZ
      rw [if_neg q]
      rfl
  · rw [fr_L r2 rfl, gL_pL, if_pos ⟨rfl, rfl⟩]
  · rw [r3 k hk, gL_pL, if_neg (by omega)]
/-- what a world adds to the sums -/
def wdF (V : BV) (D : WD) (kn : Int32) (li c : Nat) (s : Int) (j i : Nat) : Int := gF V (FT D) j i 0 * mdZ V D kn (mwZ V D kn li c s) i 0 + gF V (FT D) j i 1 * mdZ V D kn (mwZ V D kn li c s) i 1
theorem drow_eq {V : BV} {D : WD} {kn : Int32} {li c : Nat} {s : Int} {k i : Nat} (h : (tkL V D kn)[k]? = some i) (ax : Nat) : drow V D kn li c (itS (2 * k + ax) s) i ax = mdZ V D kn (mwZ V D kn li c s) i ax := by
  unfold drow mdZ mwZ
  rw [ixL_at h]
  rfl
theorem z_dw_29 {D : WD} (f : WF D) {kn : Int32} {li c : Nat} (hli : li ≤ 9999) (hcc : c ≤ 99) {s : Int} (hs : 0 ≤ s ∧ s < 2147483648) {V0 : BV} (g : GV V0) (hc : ckOk V0 D kn) (hL : (tkL V0 D kn).length ≤ 100) : ∀ (m k : Nat) (h : ax_H), k + m = (tkL V0 D kn).length → V h = V0 → ok h → ftP h (FT D) → lsP h (tkL V0 D kn) → RW h V0 D kn (tkL V0 D kn) → LAW h V0 li (tkL V0 D kn) (2 * (tkL V0 D kn).length) → gL h 99 14 = Int64.ofInt (itS (2 * k) s) → ∃ h', Ft_drawWorld_29 99 65 (nI c) (nI (2 * k)) h = some h' ∧ fr S155d h h' ∧ gL h' 99 14 = Int64.ofInt (itS (2 * (tkL V0 D kn).length) s) ∧ ∀ j, j < 13 → gL h' 155 j = gL h 155 j + Int64.ofInt (if lastB (FT D).length 0 j then sg (wdF V0 D kn li c s (j / 4)) ((tkL V0 D kn).drop k) else 0) := by
  intro m
  induction m with
  | zero =>
    intro k h hk hV w hF hl hR hw hg
    obtain ⟨wS, wR, wG, wN⟩ := w
    have e2 : (2 : Int32) * nI (tkL V0 D kn).length = nI (2 * (tkL V0 D kn).length) := by rw [show (2 : Int32) = nI 2 from rfl, pk_mul]
    have hle : nI (2 * (tkL V0 D kn).length) ≤ nI (2 * k) := by rw [nJ_le (by omega) (by omega)]; omega
    have : k = (tkL V0 D kn).length := by omega
    refine ⟨h, ?_, fr_rf _ _, by rw [hg, this], fun j hj => ?_⟩
    · rw [Ft_drawWorld_29_eq]
      simp only [wS, ↓reduceIte, hl.1, e2, hle, decide_true]
    · rw [List.drop_eq_nil_of_le (by omega), sg, ite_self]
      exact (Int64.add_zero _).symm
  | succ m ih =>
    intro k h hk hV w hF hl hR hw hg
    subst hV
    have hi : (tkL (V h) D kn)[k]? = some (tkL (V h) D kn)[k] := List.getElem?_eq_getElem (by omega)
    have hn : (tkL (V h) D kn)[k] < nM (V h) := tkL_lt (List.getElem_mem (by omega))
    obtain ⟨q0, q1⟩ := hR k _ hi
    obtain ⟨h1, a1, a2, a3, a4⟩ := z_dw_row f (kn := kn) (ax := 0) hli hcc hL (r := 2 * k) (by omega) (by omega) (by rw [show 2 * k / 2 = k by omega]; exact hi) w g hc hn hF hl q0 hw (itS_bd hs _) hg
    have hV1 := V_frc (S155d_c a2)
    have w1 := ok_fr a2 w
    have hF1 := ftP_fr a2 rfl (fun _ => rfl) hF
    have hl1 := lsP_fr a2 rfl (fun _ => rfl) hl
    have hw1 : LAW h1 (V h) li (tkL (V h) D kn) (2 * (tkL (V h) D kn).length) := fun r hr i hi => (fr_I a2 rfl).trans (hw r hr i hi)
    obtain ⟨h2, b1, b2, b3, b4⟩ := z_dw_row f (kn := kn) (ax := 1) hli hcc hL (r := 2 * k + 1) (by omega) (by omega) (by rw [show (2 * k + 1) / 2 = k by omega]; exact hi) w1 (by rw [hV1]; exact g) (by rw [hV1]; exact hc) (by rw [hV1]; exact hn) hF1 hl1 (by rw [hV1]; exact RWK_155 a2 f q1) (by rw [hV1]; exact hw1) (nxS_bd _) a3
    have hV2 : V h2 = V h := (V_frc (S155d_c b2)).trans hV1
    rw [hV1] at b4
    have F2 := fr_tr a2 b2
    obtain ⟨h', r1, r2, r3, r4⟩ := ih (k + 1) h2 (by omega) hV2 (ok_fr F2 w) (ftP_fr F2 rfl (fun _ => rfl) hF) (lsP_fr F2 rfl (fun _ => rfl) hl) (RW_fr F2 f (fun a j y1 y2 => by simp only [S155d, decide_eq_false_iff_not]; omega) hR) (fun r hr i hi => (fr_I F2 rfl).trans (hw r hr i hi)) b3
    have b1' : Ft_drawWorld_29 99 65 (nI c) (nI (2 * k + 1)) h1 = Ft_drawWorld_29 99 65 (nI c) (nI (2 * (k + 1))) h2 := b1
    refine ⟨h', by rw [a1, b1', r1], fr_tr F2 r2, r3, fun j hj => ?_⟩
    rw [r4 j hj, b4 j hj, a4 j hj, List.drop_eq_getElem_cons (show k < (tkL (V h) D kn).length by omega), sg]
    have e0 := drow_eq (li := li) (c := c) (s := s) hi 0
    have e1 := drow_eq (li := li) (c := c) (s := s) hi 1
    have e1' : drow (V h) D kn li c (nxS (itS (2 * k) s)) (tkL (V h) D kn)[k] 1 = mdZ (V h) D kn (mwZ (V h) D kn li c s) (tkL (V h) D kn)[k] 1 := e1
    have e0' : drow (V h) D kn li c (itS (2 * k) s) (tkL (V h) D kn)[k] 0 = mdZ (V h) D kn (mwZ (V h) D kn li c s) (tkL (V h) D kn)[k] 0 := e0
    rw [e0', e1']
    by_cases q : lastB (FT D).length 0 j = true
    · rw [if_pos q, if_pos q, if_pos q, if_pos q, Int64.add_assoc, Int64.add_assoc, ← Int64.ofInt_add, ← Int64.ofInt_add, ← Int.add_assoc]
      rfl
    · rw [if_neg q, if_neg q, if_neg q, if_neg q]
      show _ + (0 : Int64) + 0 + 0 = _ + 0
      rw [Int64.add_zero, Int64.add_zero]
/-- the sums of a world -/
def SW (V : BV) (D : WD) (kn : Int32) (li c : Nat) (s : Int) : Nat → Int := sv V (FT D) (mdZ V D kn (mwZ V D kn li c s)) (tkL V D kn)
def R155 (h : ax_H) (V0 : BV) (D : WD) (kn : Int32) : Prop := ∀ k, k < 13 → ¬ lastB (FT D).length 0 k = true → gL h 155 k = Int64.ofInt (SP V0 D kn allB k)
theorem SP_all (V : BV) (D : WD) (kn : Int32) (k : Nat) : SP V D kn allB k = sv V (FT D) (dZ V D kn) (tkL V D kn) k := by
  unfold SP
  rw [List.filter_eq_self.mpr (show ∀ x ∈ tkL V D kn, allB x = true from fun _ _ => rfl)]
theorem z_drawWorld {D : WD} (f : WF D) {kn : Int32} {li c : Nat} (hli : li ≤ 9999) (hcc : c ≤ 99) {s : Int} (hs : 0 ≤ s ∧ s < 2147483648) {h : ax_H} (w : ok h) (g : GV (V h)) (hc : ckOk (V h) D kn) (o : OP h (V h) D kn) (hw : LAW h (V h) li (tkL (V h) D kn) (2 * (tkL (V h) D kn).length)) (hg : gL h 99 14 = Int64.ofInt s) (r0 : R155 h (V h) D kn) : ∃ h', Ft_drawWorld 99 65 (nI c) h = some h' ∧ fr S155d h h' ∧ gL h' 99 14 = Int64.ofInt (itS (2 * (tkL (V h) D kn).length) s) ∧ ∀ k, k < 13 → gL h' 155 k = Int64.ofInt (SW (V h) D kn li c s k) := by
  have hcn := cnts g.1
  have hlen : (tkL (V h) D kn).length ≤ 100 := by
    have := flF_len (P := tkB (V h) D kn) (nM (V h)) 0
    unfold tkL
    omega
  obtain ⟨o1, o2, o3, o4, o5⟩ := o
  obtain ⟨h1, a1, a2, a3⟩ := z_dw_2 f (nI c) (FT D).length 0 h (by omega) w o2
  have F1 := S155_d a2
  have hV1 := V_frc (S155d_c F1)
  obtain ⟨h2, b1, b2, b3, b4⟩ := z_dw_29 f (kn := kn) hli hcc hs g hc hlen (tkL (V h) D kn).length 0 h1 (by omega) hV1 (ok_fr F1 w) (ftP_fr F1 rfl (fun _ => rfl) o2) (lsP_fr F1 rfl (fun _ => rfl) o1) (RW_fr F1 f (fun a j y1 y2 => by simp only [S155d, decide_eq_false_iff_not]; omega) o3) (fun r hr i hi => (fr_I F1 rfl).trans (hw r hr i hi)) ((fr_L a2 rfl).trans hg)
  refine ⟨h2, ?_, fr_tr F1 b2, b3, fun k hk => ?_⟩
  · rw [Ft_drawWorld_eq]
    exact a1.trans b1
  · rw [b4 k hk, a3 k hk, List.drop_zero]
    unfold SW
    by_cases q : lastB (FT D).length 0 k = true
    · rw [if_pos q, if_pos q, Int64.zero_add]
      congr 1
      refine sg_cg fun i _ => ?_
      rw [lastB_iff] at q
      unfold wdF rowv
      rw [if_neg (by omega), if_pos q.1]
    · rw [if_neg q, if_neg q, r0 k hk q, SP_all, sv_d (e := mdZ (V h) D kn (mwZ (V h) D kn li c s)) (fun z => q (lastB_iff.mpr ⟨z.1, by omega, z.2⟩))]
      exact Int64.add_zero _
