/-! ruled: both -/
theorem cho_iff {a : Int32} : (a = 0 ∨ a = 1) ↔ (0 ≤ a.toInt ∧ a.toInt ≤ 1) := by
  have a0 : (0 : Int32).toInt = 0 := rfl
  have a1 : (1 : Int32).toInt = 1 := rfl
  constructor
  · rintro (rfl | rfl)
    · omega
    · omega
  · intro z
    have : a.toInt = 0 ∨ a.toInt = 1 := by omega
    rcases this with q | q
    · exact Or.inl (Int32.toInt_inj.mp (q.trans a0.symm))
    · exact Or.inr (Int32.toInt_inj.mp (q.trans a1.symm))
def ruV (V : BV) (D : WD) (kn : Int32) (t : Nat) (x : Int) (ch : Int32) : Int32 := if cko V D kn 6 0 then finO ch (foS V D kn t x) else -1000000000
theorem okO_fo {V : BV} (g : GV V) {D : WD} (f : WF D) {kn : Int32} (hc : ckOk V D kn) {t : Nat} (ht : t < 6) {x : Int} (hx : -99999 ≤ x ∧ x ≤ 99999) : ∀ (l : List Nat) (o : Option (Nat × Int × Int)), (∀ y ∈ l, y < 65536) → okO o → okO (l.foldl (stB (fitS V D kn) (dsS V D kn t x) (anS V D kn t)) o)
  | [], _, _, ho => ho
  | y :: l, o, hl, ho => by
    rw [List.foldl_cons]
    exact okO_fo g f hc ht hx l _ (fun z hz => hl z (List.mem_cons_of_mem _ hz)) (okO_st g f hc ht hx (hl y (List.mem_cons_self ..)) ho)
theorem okO_fs {V : BV} (g : GV V) {D : WD} (f : WF D) {kn : Int32} (hc : ckOk V D kn) {t : Nat} (ht : t < 6) {x : Int} (hx : -99999 ≤ x ∧ x ≤ 99999) : okO (foS V D kn t x) := okO_fo g f hc ht hx _ none (fun y hy => ((sb_mem _ 16 0 y).mp hy).1) (fun b d a z => by cases z)
theorem sb_both (B : Nat → Bool) {n : Nat} (hn : n = 16) : ∃ l, sbL B n 0 = 0 :: l ∧ chL (nzN B n 0) (0 :: l) ∧ ∀ y ∈ 0 :: l, y < 65536 ∧ (nI y - nI (mkN B n 0)) &&& nI (mkN B n 0) = nI (nzN B n 0 y) := by
  obtain ⟨l, hl⟩ := sb_hd B n 0
  have hch := sb_ch B n 0
  rw [hl] at hch
  refine ⟨l, hl, hch, fun y hy => ?_⟩
  rw [← hl] at hy
  have := ((sb_mem B n 0 y).mp hy).1
  have e : 2 ^ n = 65536 := by rw [hn]
  exact ⟨by omega, nx_g hn hy⟩
theorem zm_ruled_76 {h : ax_H} (i0 : I0 h) {w : Nat} (hw : w < 10) {D : WD} (f : WF D) (m : WM h w D) {kn : Int32} (hk : kn.toInt ≤ 9999) {t : Nat} (ht : t < 6) {x : Int32} (hx : -99999 ≤ x.toInt ∧ x.toInt ≤ 99999) (ch : Int32) : ∃ h', M_ruled_76 159 (nI w) (nI t) kn x ch 0 0 0 h = some (ruV (V h) D kn t x.toInt ch, h') ∧ fr Sm h h' := by
  have g := i0.2.2
  have hnP := nI_nP g.1.2.2.1
  have mk : ∃ k, M_ruled_76 159 (nI w) (nI t) kn x ch 0 0 0 h = M_ruled_76 159 (nI w) (nI t) kn x ch (nI (mkN (bfB (V h)) 16 0)) (nI k) (nI (nP (V h))) h := by
    rcases zm_ru_76 i0 (nI w) (nI t) kn x ch (nP (V h)) 0 0 0 (by omega) (fun q hq => by rw [b_0, decide_eq_false (by omega), Bool.false_and]) rfl with z | z
    · exact ⟨8, z⟩
    · exact z
  obtain ⟨k, mk⟩ := mk
  obtain ⟨h1, a1, a2, a3⟩ := zm_takesAll i0 hw f m hk
  have hV1 := V_frm (S824_m a2)
  have i1 := I0_frm (S824_m a2) i0
  obtain ⟨h2, b1, b2, b3, b4⟩ := zm_measures i1 a3
  rw [hV1] at b3
  have hV2 : V h2 = V h := (V_frm (Sme_m b2)).trans hV1
  have i2 := I0_frm (Sme_m b2) i1
  have F2 : fr Sm h h2 := fr_tr (S824_m a2) (Sme_m b2)
  obtain ⟨h3, c1, c2, c3⟩ := zm_begins i2 hw (li := 0) (ins := false) (Or.inl ⟨rfl, rfl⟩) f (WM_m F2 m) hk
  rw [hV2] at c1 c3
  have hV3 : V h3 = V h := (V_frm (Sbe_m c2)).trans hV2
  have i3 := I0_frm (Sbe_m c2) i2
  have F3 : fr Sm h h3 := fr_tr F2 (Sbe_m c2)
  have S1 : gS h1 = gS h := fr_S a2
  have S2 : gS h2 = gS h := fr_S F2
  obtain ⟨wS, wR, wG, wN⟩ := i0.1
  have e := EQ_a i0.2.1
  unfold EQa at e
  have hle : nI (nP (V h)) ≤ nI (nP (V h)) := Int32.le_refl _
  have c1' : M_begins 159 (nI w) kn 0 0 h2 = some (bB (cko (V h) D kn 6 0), h3) := c1
  rw [mk, M_ruled_76_eq]
  simp only [wS, ↓reduceIte, e, hnP, hle, decide_true]
  rw [bnd a1]
  simp only [S1, wS, ↓reduceIte]
  rw [bnd b1]
  simp only [S2, wS, ↓reduceIte]
  rw [bnd c1']
  unfold ruV
  cases hc : cko (V h) D kn 6 0 with
  | false => exact ⟨h3, rfl, F3⟩
  | true =>
    have hcc := cko_ok.mp hc
    obtain ⟨l, hl, hch, hyl⟩ := sb_both (bfB (V h)) (n := 16) rfl
    have ou3 : OUT h3 (tuZ (V h)) := OUT_fr c2 (hV3.trans hV2.symm) (fun _ => rfl) (fun _ => rfl) b3
    obtain ⟨h', r1, r2⟩ := zm_ru_l f (kn := kn) g hcc ht hx ch l 0 none h3 hch hyl hV3 i3 (c3 hc) ou3 (fun j hj => by
      rw [hV3] at hj
      rw [fr_I c2 rfl, fr_I b2 rfl]
      exact a3 j (by rw [hV1]; exact hj)) (fun b d a z => by cases z)
    rw [← hl, fo_eq g] at r1
    refine ⟨h', ?_, fr_tr F3 r2⟩
    generalize mkN (bfB (V h)) 16 0 = M at *
    have r1' : M_ruled_161 159 (nI t) x ch (nI M) (-1) 0 0 0 1 h3 = some (finO ch (foS (V h) D kn t x.toInt), h') := r1
    simp only [show ¬ bB true = 0 by decide, not_false_eq_true, decide_true, ↓reduceIte]
    rw [r1']
theorem qy_ruled {h : ax_H} (i : I0 h) (iw : IW h) (a t kn x ch : Int32) : qry (B_ruled 64 a t kn x ch h) (M_ruled 159 a t kn x ch) h := by
  have i0 := i
  obtain ⟨w, e, g⟩ := i
  have hcn := cnts g.1
  have w0 := w
  obtain ⟨wS, wR, wG, wN⟩ := w
  by_cases h1 : 0 ≤ a.toInt ∧ a.toInt ≤ (V h 65 4).toInt - 1
  case neg =>
    refine qry_no (v := -2000000000) ?_ ?_
    · rw [B_ruled_eq]
      try simp only [wS, wR, ↓reduceIte]
      simp only [gI_pI, gI_pL, gI_pR, gL_pI, gL_pL, gL_pR, gR_pI, gR_pL, gR_pR, gS_pI, gS_pL, gS_pR, ↓reduceIte, Nat.reduceEqDiff, decide_eq_true_eq, Option.bind_some, false_and, and_false, true_and, and_true, and_self, Nat.reduceAdd, not_false_eq_true, not_true_eq_false, wS, wR, inI, ite_self, Classical.not_not, ↓bnd (z_wayNo w0 g.1 h1)]
    · rw [M_ruled_eq]
      simp only [gI_pI, gI_pL, gI_pR, gL_pI, gL_pL, gL_pR, gR_pI, gR_pL, gR_pR, gS_pI, gS_pL, gS_pR, ↓reduceIte, Nat.reduceEqDiff, decide_eq_true_eq, Option.bind_some, false_and, and_false, true_and, and_true, and_self, Nat.reduceAdd, not_false_eq_true, not_true_eq_false, wS, wR, inI, ite_self, Classical.not_not, ↓bnd (zm_isWay w0 g.1 e _), bI_0, h1]
  obtain ⟨j, rfl, hj, hj2, hj3⟩ := nI_ex h1
  obtain ⟨D, c, m, f⟩ := iw j (by omega)
  have hnz : ¬ gR h 82 j = 0 := by have := c.1; omega
  have hWA := z_wayAt w0 g.1 (j := j) (by omega)
  have hWA' : Bk_wayAt (gR h 64 0) (nI j) h = some (gR h 82 j, h) := by simp only [wR]; exact hWA
  have hIW := fun h (i : I0 h) => zm_isWay i.1 i.2.2.1 i.2.1 (nI j)
  by_cases h2 : 0 ≤ t.toInt ∧ t.toInt ≤ 5
  case neg =>
    refine qry_no (v := -2000000000) ?_ ?_
    · rw [B_ruled_eq]
      try simp only [wS, wR, ↓reduceIte]
      simp only [gI_pI, gI_pL, gI_pR, gL_pI, gL_pL, gL_pR, gR_pI, gR_pL, gR_pR, gS_pI, gS_pL, gS_pR, ↓reduceIte, Nat.reduceEqDiff, decide_eq_true_eq, Option.bind_some, false_and, and_false, true_and, and_true, and_self, Nat.reduceAdd, not_false_eq_true, not_true_eq_false, wS, wR, inI, ite_self, Classical.not_not, ↓bnd hWA, hnz, ↓bnd (z_isTerm _ _), bI_0, h2]
    · rw [M_ruled_eq]
      simp only [gI_pI, gI_pL, gI_pR, gL_pI, gL_pL, gL_pR, gR_pI, gR_pL, gR_pR, gS_pI, gS_pL, gS_pR, ↓reduceIte, Nat.reduceEqDiff, decide_eq_true_eq, Option.bind_some, false_and, and_false, true_and, and_true, and_self, Nat.reduceAdd, not_false_eq_true, not_true_eq_false, wS, wR, inI, ite_self, Classical.not_not, ↓bnd (zm_isWay w0 g.1 e _), bI_0, h1, ↓bnd (zm_isTerm _ _), h2]
  obtain ⟨tn, rfl, ht, ht2, ht3⟩ := nI_ex h2
  have ht6 : tn < 6 := by omega
  have tt : (nI tn).toNatClampNeg = tn := nJ_n (by omega)
  have nt : ¬ nI tn < 0 := nJ_nn (by omega)
  have cs := c.1.2.2
  have cs2 := c.2.1.2.2
  have cv := c.2.2.2.2.1 tn ht6
  have mv := m.1 tn ht6
  have e6 : (6 : Int32) * nI j + nI tn = nI (6 * j + tn) := by rw [show (6 : Int32) = nI 6 from rfl, pk_mul, nI_add]
  have t6 : (nI (6 * j + tn)).toNatClampNeg = 6 * j + tn := nJ_n (by omega)
  have n6 : ¬ nI (6 * j + tn) < 0 := nJ_nn (by omega)
  have h60 : 6 * j + tn < 60 := by omega
  have preB : ∀ r, (if decide (¬ D.1 tn = 1) then
        (some ((-2000000000), h) )
      else
        ((B_isWeek kn h).bind (fun r3 => if decide (¬ r3.1 = 0) then
          ((B_isWithin x (-99999) 99999 r3.2).bind (fun r4 => if decide (r4.1 = 0) then
            (some ((-2000000000), r4.2) )
          else
            ((B_isChoice ch r4.2).bind (fun r5 => if decide (¬ r5.1 = 0) then
              (if (gS r5.2 64).1 = 0 then if (gS r5.2 64).1 = 0 then if (gS r5.2 (gR r5.2 64 3)).1 = 7 then (Ft_open (gR r5.2 64 3) (gR r5.2 64 0) (gR h 82 j) kn r5.2).bind (fun r6 => if decide (¬ r6.1 = 0) then
                (if (gS r6.2 64).1 = 0 then if (gS r6.2 64).1 = 0 then if (gS r6.2 (gR r6.2 64 3)).1 = 7 then (Ft_nearestSet (gR r6.2 64 3) (gR r6.2 64 0) (nI tn) x r6.2).bind (fun r7 => if decide (¬ r7.1 = (-1)) then
                  (if decide (¬ ch = 0) then
                    (if (gS r7.2 64).1 = 0 then if (gS r7.2 (gR r7.2 64 3)).1 = 7 then some ((gI r7.2 (gR r7.2 64 3) 3), r7.2) else none else none)
                  else
                    (some (r7.1, r7.2) ) )
                else
                  (some ((-1000000000), r7.2) ) ) else none else none else none)
              else
                (some ((-1000000000), r6.2) ) ) else none else none else none)
            else
              (some ((-2000000000), r5.2) ) )) ))
        else
          (some ((-2000000000), r3.2) ) ))) = r → B_ruled 64 (nI j) (nI tn) kn x ch h = r := fun r hr => by
    rw [← hr, B_ruled_eq]
    simp only [wS, ↓reduceIte]
    rw [if_pos (by simp only [wR, wS]), bnd hWA', if_neg hnz, bnd (z_isTerm _ _), if_neg (by rw [decide_eq_true_eq, bI_0]; exact not_not_intro h2)]
    simp only [cs, cs2, ax_in, tt, nt, ht6, cv, not_false_eq_true, and_self, ↓reduceIte]
  have preM : ∀ h (_ : I0 h) (_ : 0 ≤ (nI j).toInt ∧ (nI j).toInt ≤ (V h 65 4).toInt - 1) (_ : WM h j D) r, (if decide (¬ D.1 tn = 1) then
        (some ((-2000000000), h) )
      else
        ((M_isWeek kn h).bind (fun r3 => if decide (r3.1 = 0) then
          (some ((-2000000000), r3.2) )
        else
          ((M_in (Int32.toInt64 x) (-99999) 99999 r3.2).bind (fun r4 => if decide (r4.1 = 0) then
            (some ((-2000000000), r4.2) )
          else
            ((M_in (Int32.toInt64 ch) 0 1 r4.2).bind (fun r5 => if decide (¬ r5.1 = 0) then
              (M_ruled_76 159 (nI j) (nI tn) kn x ch 0 0 0 r5.2 )
            else
              (some ((-2000000000), r5.2) ) )) )) ))) = r → M_ruled 159 (nI j) (nI tn) kn x ch h = r := fun h i h1 m r hr => by
    obtain ⟨vS, vR, -, -⟩ := i.1
    have mv := m.1 tn ht6
    rw [← hr, M_ruled_eq]
    simp only [vS, ↓reduceIte]
    rw [bnd (hIW h i), if_neg (by rw [decide_eq_true_eq, bI_0]; exact not_not_intro h1), bnd (zm_isTerm _ _), if_neg (by rw [decide_eq_true_eq, bI_0]; exact not_not_intro h2)]
    simp only [vS, vR, ↓reduceIte, ax_in, e6, t6, n6, h60, mv, not_false_eq_true, and_self]
  by_cases hD : D.1 tn = 1
  case neg =>
    refine qry_no (v := -2000000000) (preB _ ?_) (preM h i0 h1 m _ ?_)
    · rw [if_pos (by rw [decide_eq_true_eq]; exact hD)]
    · rw [if_pos (by rw [decide_eq_true_eq]; exact hD)]
  have hD' : ¬ decide (¬ D.1 tn = 1) = true := by rw [decide_eq_true_eq]; exact not_not_intro hD
  by_cases hk : 0 ≤ kn.toInt ∧ kn.toInt ≤ 9999
  case neg =>
    refine qry_no (v := -2000000000) (preB _ ?_) (preM h i0 h1 m _ ?_)
    · rw [if_neg hD', bnd (z_isWeek _ _), if_neg (by rw [decide_eq_true_eq, bI_0]; exact fun q => q hk)]
    · rw [if_neg hD', bnd (zm_isWeek _ _), if_pos (by rw [decide_eq_true_eq, bI_0]; exact hk)]
  have n9 : (-99999 : Int32).toInt = -99999 := by decide
  have n9' : (-99999 : Int64).toInt = -99999 := by decide
  have p9 : (99999 : Int32).toInt = 99999 := by decide
  have p9' : (99999 : Int64).toInt = 99999 := by decide
  by_cases hx : -99999 ≤ x.toInt ∧ x.toInt ≤ 99999
  case neg =>
    refine qry_no (v := -2000000000) (preB _ ?_) (preM h i0 h1 m _ ?_)
    · rw [if_neg hD', bnd (z_isWeek _ _), if_pos (by rw [decide_eq_true_eq, bI_0]; exact not_not_intro hk), bnd (z_isWithin _ _ _ _), if_pos (by rw [decide_eq_true_eq, bI_0, n9, p9]; exact hx)]
    · rw [if_neg hD', bnd (zm_isWeek _ _), if_neg (by rw [decide_eq_true_eq, bI_0]; exact not_not_intro hk), bnd (zm_in _ _ _ _), if_pos (by rw [decide_eq_true_eq, bI_0, Int32.toInt_toInt64, n9', p9']; exact hx)]
  by_cases hch : ch = 0 ∨ ch = 1
  case neg =>
    refine qry_no (v := -2000000000) (preB _ ?_) (preM h i0 h1 m _ ?_)
    · rw [if_neg hD', bnd (z_isWeek _ _), if_pos (by rw [decide_eq_true_eq, bI_0]; exact not_not_intro hk), bnd (z_isWithin _ _ _ _), if_neg (by rw [decide_eq_true_eq, bI_0, n9, p9]; exact not_not_intro hx), bnd (z_isChoice _ _), if_neg (by rw [decide_eq_true_eq, bI_0]; exact fun q => q hch)]
    · rw [if_neg hD', bnd (zm_isWeek _ _), if_neg (by rw [decide_eq_true_eq, bI_0]; exact not_not_intro hk), bnd (zm_in _ _ _ _), if_neg (by rw [decide_eq_true_eq, bI_0, Int32.toInt_toInt64, n9', p9']; exact not_not_intro hx), bnd (zm_in _ _ _ _), if_neg (by rw [decide_eq_true_eq, bI_0, Int32.toInt_toInt64]; exact fun q => q fun z => hch (cho_iff.mpr z))]
  have hcl : ∃ x2, B_ruled 64 (nI j) (nI tn) kn x ch h = some (ruV (V h) D kn tn x.toInt ch, x2) ∧ fr Sc h x2 := by
    obtain ⟨x1, a1, a2, a3⟩ := z_open w0 g f c kn
    have hV := V_frc a2
    have w1 := ok_fr a2 w0
    have S1 : gS x1 = gS h := fr_S a2
    have R1 : gR x1 = gR h := fr_R a2
    have chain : ∀ r, (Ft_open 99 65 (gR h 82 j) kn h).bind (fun r6 => if decide (¬ r6.1 = 0) then
                (if (gS r6.2 64).1 = 0 then if (gS r6.2 64).1 = 0 then if (gS r6.2 (gR r6.2 64 3)).1 = 7 then (Ft_nearestSet (gR r6.2 64 3) (gR r6.2 64 0) (nI tn) x r6.2).bind (fun r7 => if decide (¬ r7.1 = (-1)) then
                  (if decide (¬ ch = 0) then
                    (if (gS r7.2 64).1 = 0 then if (gS r7.2 (gR r7.2 64 3)).1 = 7 then some ((gI r7.2 (gR r7.2 64 3) 3), r7.2) else none else none)
                  else
                    (some (r7.1, r7.2) ) )
                else
                  (some ((-1000000000), r7.2) ) ) else none else none else none)
              else
                (some ((-1000000000), r6.2) ) ) = r → B_ruled 64 (nI j) (nI tn) kn x ch h = r := fun r hr => preB _ (by
      rw [← hr, if_neg hD', bnd (z_isWeek _ _), if_pos (by rw [decide_eq_true_eq, bI_0]; exact not_not_intro hk), bnd (z_isWithin _ _ _ _), if_neg (by rw [decide_eq_true_eq, bI_0, n9, p9]; exact not_not_intro hx), bnd (z_isChoice _ _), if_pos (by rw [decide_eq_true_eq, bI_0]; exact not_not_intro hch)]
      simp only [wS, wR, ↓reduceIte])
    unfold ruV
    cases hc : cko (V h) D kn 6 0 with
    | false =>
      rw [hc] at a1
      refine ⟨x1, chain _ ?_, a2⟩
      rw [bnd a1]
      rfl
    | true =>
      rw [hc] at a1
      have hcc := cko_ok.mp hc
      obtain ⟨x2, b1, b2, b3⟩ := z_nearestSet f (kn := kn) w1 (by rw [hV]; exact g) (by rw [hV]; exact hcc) (by rw [hV]; exact a3 hc) ht6 hx
      rw [hV] at b1 b3
      have S2 : gS x2 = gS h := (fr_S b2).trans S1
      have R2 : gR x2 = gR h := (fr_R b2).trans R1
      refine ⟨x2, chain _ ?_, fr_tr a2 b2⟩
      rw [bnd a1, if_pos (show true = true from rfl)]
      simp only [show ¬ bB true = 0 by decide, not_false_eq_true, decide_true, ↓reduceIte, S1, R1, wS, wR]
      rw [bnd b1]
      unfold finO
      have ok1 := okO_fs g f hcc ht6 hx
      cases ho : foS (V h) D kn tn x.toInt with
      | none => rfl
      | some y =>
        obtain ⟨b, d, a⟩ := y
        obtain ⟨ob, od, oa⟩ := ok1 b d a ho
        have nb : ¬ e5 (some (b, d, a)) = -1 := nI_neg1 (by omega)
        have v := b3 b d a ho
        rw [if_pos (by rw [decide_eq_true_eq]; exact nb), if_neg nb]
        by_cases q : ch = 0
        · rw [if_neg (by rw [decide_eq_true_eq]; exact not_not_intro q), if_pos q]
        · rw [if_pos (by rw [decide_eq_true_eq]; exact q), if_neg q]
          have ev : Int64.toInt32 (e7 (some (b, d, a))) = Int32.ofInt a := l_i32 (by omega)
          simp only [S2, R2, wS, wR, ↓reduceIte, v, ev]
  obtain ⟨x2, hB, F2⟩ := hcl
  have hV2 := V_frc F2
  have i2 := I0_frc F2 i0
  obtain ⟨y, s1, s2⟩ := zm_ruled_76 i2 (w := j) (by omega) f (WM_c F2 m) hk.2 ht6 hx ch
  rw [hV2] at s1
  refine ⟨ruV (V h) D kn tn x.toInt ch, x2, y, hB, preM x2 i2 (by rw [hV2]; exact h1) (WM_c F2 m) _ ?_, F2, s2⟩
  rw [if_neg hD', bnd (zm_isWeek _ _), if_neg (by rw [decide_eq_true_eq, bI_0]; exact not_not_intro hk), bnd (zm_in _ _ _ _), if_neg (by rw [decide_eq_true_eq, bI_0, Int32.toInt_toInt64, n9', p9']; exact not_not_intro hx), bnd (zm_in _ _ _ _), if_pos (by rw [decide_eq_true_eq, bI_0, Int32.toInt_toInt64]; exact not_not_intro (cho_iff.mp hch))]
  exact s1
