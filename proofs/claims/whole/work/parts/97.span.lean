/-! span -/
def btS (wh : Bool) (best v : Int32) : Int32 := if v = -1000000000 then best else if best = -1000000000 then v else if wh then (if v ≤ best then best else v) else (if best ≤ v then best else v)
def spF (V : BV) (D : WD) (kn : Int32) (wh : Bool) : Nat → Nat → Int32 → Int32
  | 0, _, b => b
  | k + 1, g, b => spF V D kn wh k (g + 1) (btS wh b (anV V D kn (ngr V g) 4))
theorem i_lr (a b : Int32) : a ≤ b ∨ b ≤ a := by
  rw [i32_le, i32_le]
  omega
theorem i_as {a b : Int32} (h1 : a ≤ b) (h2 : b ≤ a) : a = b := by
  rw [i32_le] at h1 h2
  rw [i32_eq]
  omega
theorem i_tr {a b c : Int32} (h1 : a ≤ b) (h2 : b ≤ c) : a ≤ c := by
  rw [i32_le] at h1 h2 ⊢
  omega
/-- the best stays at least as good as a -/
def doS (wh : Bool) (a b : Int32) : Prop := btS wh b a = b
theorem doS_rf (wh : Bool) (a : Int32) : doS wh a a := by
  unfold doS btS
  by_cases q : a = -1000000000
  · rw [if_pos q]
  · rw [if_neg q, if_neg q]
    have := i32_le (a := a) (b := a)
    cases wh with
    | true => rw [if_pos rfl, if_pos (Int32.le_refl _)]
    | false => rw [if_neg (by decide), if_pos (Int32.le_refl _)]
theorem doS_st {wh : Bool} {a b : Int32} (h : doS wh a b) (v : Int32) : doS wh a (btS wh b v) := by
  unfold doS at h ⊢
  by_cases qa : a = -1000000000
  · unfold btS; rw [if_pos qa]
  · by_cases qv : v = -1000000000
    · have : btS wh b v = b := by unfold btS; rw [if_pos qv]
      rw [this]; exact h
    · have hb : ¬ b = -1000000000 := fun q => by
        unfold btS at h
        rw [if_neg qa, if_pos q, q] at h
        exact qa h
      unfold btS at h ⊢
      rw [if_neg qa, if_neg hb] at h
      rw [if_neg qv, if_neg hb, if_neg qa]
      cases wh with
      | true =>
        simp only [if_true] at h ⊢
        have hab : a ≤ b := by
          by_cases q : a ≤ b
          · exact q
          · rw [if_neg q] at h; rw [h]; exact Int32.le_refl _
        by_cases q : v ≤ b
        · rw [if_pos q, if_neg hb, if_pos hab]
        · rw [if_neg q, if_neg qv, if_pos (i_tr hab ((i_lr v b).resolve_left q))]
      | false =>
        simp only [Bool.false_eq_true, if_false] at h ⊢
        have hab : b ≤ a := by
          by_cases q : b ≤ a
          · exact q
          · rw [if_neg q] at h; rw [h]; exact Int32.le_refl _
        by_cases q : b ≤ v
        · rw [if_pos q, if_neg hb, if_pos hab]
        · rw [if_neg q, if_neg qv, if_pos (i_tr ((i_lr b v).resolve_left q) hab)]
theorem an_emp {V : BV} {D : WD} {kn : Int32} {g : Nat} (h : SP V D kn (grp V g) 12 = 0) (t : Nat) : anV V D kn (ngr V g) t = anV V D kn allB t := by
  have e : SP V D kn (ngr V g) = SP V D kn allB := by
    funext k
    have := SP_ngr V D kn g k
    rw [(SP_0 h).1 k] at this
    omega
  unfold anV agk
  rw [e]
theorem spF_emp {V : BV} {D : WD} {kn : Int32} {wh : Bool} : ∀ (k g : Nat) (b : Int32), doS wh (anV V D kn allB 4) b → (∀ g', g ≤ g' → g' < g + k → SP V D kn (grp V g') 12 = 0) → spF V D kn wh k g b = b
  | 0, _, _, _, _ => rfl
  | k + 1, g, b, hd, he => by
    rw [spF, an_emp (he g (Nat.le_refl _) (by omega)), show btS wh b (anV V D kn allB 4) = b from hd]
    exact spF_emp k (g + 1) b hd fun g' h1 h2 => he g' (by omega) (by omega)
theorem spF_add {V : BV} {D : WD} {kn : Int32} {wh : Bool} : ∀ (k m g : Nat) (b : Int32), spF V D kn wh (k + m) g b = spF V D kn wh m (g + k) (spF V D kn wh k g b)
  | 0, m, g, b => by rw [Nat.zero_add]; rfl
  | k + 1, m, g, b => by
    rw [show k + 1 + m = (k + m) + 1 by omega, spF, spF, spF_add k m (g + 1), show g + 1 + k = g + (k + 1) by omega]
theorem spF_do {V : BV} {D : WD} {kn : Int32} {wh : Bool} {a : Int32} : ∀ (k g : Nat) (b : Int32), doS wh a b → doS wh a (spF V D kn wh k g b)
  | 0, _, _, h => h
  | k + 1, g, b, h => spF_do k (g + 1) _ (doS_st h _)
theorem grp_emp {V : BV} (gv : GV V) {D : WD} {kn : Int32} {g : Nat} (hg : (nP V ≤ g ∧ g < 16) ∨ (16 + nS V ≤ g ∧ g < 46)) : SP V D kn (grp V g) 12 = 0 := by
  have hcn := cnts gv.1
  rw [SP_12]
  have : (tkL V D kn).filter (grp V g) = [] := by
    rw [List.filter_eq_nil_iff]
    intro i hi
    have hi' := tkL_lt hi
    have gi := gv.2.2.2.1.1 i hi'
    unfold grp
    rcases hg with ⟨a, b⟩ | ⟨a, b⟩
    · rw [if_pos b, decide_eq_true_eq]; omega
    · rw [if_neg (by omega), if_pos b, decide_eq_true_eq]; omega
  rw [this]
  rfl
theorem z_fa_21 {D : WD} (f : WF D) {kn : Int32} (wh : Bool) : ∀ (k g : Nat) (b : Int32) (h : ax_H), g + k = 46 → ok h → GV (V h) → ckOk (V h) D kn → OP h (V h) D kn → doS wh (anV (V h) D kn allB 4) b → ∃ h', Ft_farthest_21 99 (bB wh) b (nI g) h = some (spF (V h) D kn wh k g b, h') ∧ fr Sc h h' := by
  intro k
  induction k with
  | zero =>
    intro g b h hg w gv hc o hd
    have : g = 46 := by omega
    subst this
    have h46 : (46 : Int32) ≤ nI 46 := by decide
    refine ⟨h, ?_, fr_rf _ _⟩
    rw [Ft_farthest_21_eq]
    simp only [h46, decide_true, ↓reduceIte]
    rfl
  | succ k ih =>
    intro g b h hg w gv hc o hd
    have w0 := w
    obtain ⟨wS, wR, wG, wN⟩ := w
    have hle : ¬ (46 : Int32) ≤ nI g := by rw [show (46 : Int32) = nI 46 from rfl, nJ_le (by omega) (by omega)]; omega
    have tg : (nI g).toNatClampNeg = g := nJ_n (by omega)
    have ng : ¬ nI g < 0 := nJ_nn (by omega)
    have hg47 : g < 47 := by omega
    have q1 := wG.1 g hg47
    have q2 := wG.2 g hg47
    have t12 : Int32.toNatClampNeg 12 = 12 := rfl
    have v12 := o.2.2.2.1 g hg47 12 (by omega)
    have hB := (SP_bd gv f hc (grp (V h) g)).2.2.2.2
    have c0 : lg_cmp (Int64.ofInt (SP (V h) D kn (grp (V h) g) 12)) 0 = 0 ↔ SP (V h) D kn (grp (V h) g) 12 = 0 := by
      rw [lgc_eq, l_toInt (by omega)]
      rfl
    rw [spF, Ft_farthest_21_eq]
    by_cases z : SP (V h) D kn (grp (V h) g) 12 = 0
    · rw [an_emp z, show btS wh b (anV (V h) D kn allB 4) = b from hd]
      obtain ⟨h', r1, r2⟩ := ih (g + 1) b h (by omega) w0 gv hc o hd
      refine ⟨h', ?_, r2⟩
      simp only [gI_pI, gI_pL, gI_pR, gL_pI, gL_pL, gL_pR, gR_pI, gR_pL, gR_pR, gS_pI, gS_pL, gS_pR, ↓reduceIte, Nat.reduceEqDiff, decide_eq_true_eq, Option.bind_some, false_and, and_false, true_and, and_true, and_self, Nat.reduceAdd, not_false_eq_true, not_true_eq_false, wS, wR, inI, ite_self, Classical.not_not, hle, ax_in, tg, ng, hg47, q1, q2, t12, show ¬ (12 : Int32) < 0 by decide, show (12 : Nat) < 13 by decide, v12, c0, z, nJ_p1]
      exact r1
    · obtain ⟨h1, a1, a2, a3, a4⟩ := z_solveWithout w0 gv f hc o hg47
      have hV := V_frc (S1x_c a2)
      obtain ⟨h', r1, r2⟩ := ih (g + 1) (btS wh b (anV (V h) D kn (ngr (V h) g) 4)) h1 (by omega) (ok_fr a2 w0) (by rw [hV]; exact gv) (by rw [hV]; exact hc) (by rw [hV]; exact a3) (by rw [hV]; exact doS_st hd _)
      rw [hV] at r1
      refine ⟨h', ?_, fr_tr (S1x_c a2) r2⟩
      rw [← r1]
      have ck : cko (V h) D kn 6 0 = true := cko_ok.mpr hc
      have S1 : gS h1 = gS h := fr_S a2
      have R1 : gR h1 = gR h := fr_R a2
      cases hs : slB (SP (V h) D kn (ngr (V h) g)) (FT D).length with
      | false =>
        have ea : anV (V h) D kn (ngr (V h) g) 4 = -1000000000 := by unfold anV agk; rw [hs, Bool.and_false, if_neg (by decide)]
        rw [hs] at a1
        rw [ea]
        have : btS wh b (-1000000000) = b := by unfold btS; rw [if_pos rfl]
        rw [this]
        simp only [gI_pI, gI_pL, gI_pR, gL_pI, gL_pL, gL_pR, gR_pI, gR_pL, gR_pR, gS_pI, gS_pL, gS_pR, ↓reduceIte, Nat.reduceEqDiff, decide_eq_true_eq, Option.bind_some, false_and, and_false, true_and, and_true, and_self, Nat.reduceAdd, not_false_eq_true, not_true_eq_false, wS, wR, inI, ite_self, Classical.not_not, hle, ax_in, tg, ng, hg47, q1, q2, t12, show ¬ (12 : Int32) < 0 by decide, show (12 : Nat) < 13 by decide, v12, c0, z, nJ_p1, ↓bnd a1, show bB false = 0 from rfl]
      | true =>
        have ea : anV (V h) D kn (ngr (V h) g) 4 = Int32.ofInt (anZ (V h) D kn (SP (V h) D kn (ngr (V h) g)) 4) := by unfold anV agk; rw [hs, ck, Bool.and_true, if_pos rfl]
        have hb := anZ_bd gv.2.2.2.1 f hc hs (t := 4) (by omega)
        have ne : ¬ Int32.ofInt (anZ (V h) D kn (SP (V h) D kn (ngr (V h) g)) 4) = -1000000000 := by
          rw [i32_eq, i_toInt (by omega)]
          show ¬ _ = (-1000000000 : Int)
          omega
        have v := a4 hs 4 (by omega)
        rw [hs] at a1
        rw [ea]
        have t4 : Int32.toNatClampNeg 4 = 4 := rfl
        simp only [gI_pI, gI_pL, gI_pR, gL_pI, gL_pL, gL_pR, gR_pI, gR_pL, gR_pR, gS_pI, gS_pL, gS_pR, ↓reduceIte, Nat.reduceEqDiff, decide_eq_true_eq, Option.bind_some, false_and, and_false, true_and, and_true, and_self, Nat.reduceAdd, not_false_eq_true, not_true_eq_false, wS, wR, inI, ite_self, Classical.not_not, hle, ax_in, tg, ng, hg47, q1, q2, t12, show ¬ (12 : Int32) < 0 by decide, show (12 : Nat) < 13 by decide, v12, c0, z, nJ_p1, ↓bnd a1, show ¬ bB true = 0 by decide, S1, R1, t4, show ¬ (4 : Int32) < 0 by decide, show (4 : Nat) < 6 by decide, v]
        unfold btS
        rw [if_neg ne]
        by_cases c1 : b = -1000000000
        · rw [if_pos c1, if_pos c1]
        · rw [if_neg c1, if_neg c1]
          cases wh with
          | true =>
            simp only [show ¬ bB true = 0 by decide, ↓reduceIte, if_true]
            split <;> rfl
          | false =>
            simp only [show bB false = 0 from rfl, ↓reduceIte, Bool.false_eq_true, if_false]
            split <;> rfl
theorem zm_sp_90 {v0 : Nat} {w kn b v : Int32} {u : Nat} (hu : u < 2) {k : Nat} {h : ax_H} : M_span_90 v 159 w kn (nI u) b (nI k) h = M_span_41 159 w kn (nI u) (btS (decide (u = 1)) b v) (nI (k + 1)) h := by
  rw [M_span_90_eq]
  unfold btS
  simp only [decide_eq_true_eq, M_span_133_eq, M_span_129_eq, nJ_p1]
  by_cases c0 : v = -1000000000
  · rw [if_pos c0, if_pos c0]
  · rw [if_neg c0, if_neg c0]
    by_cases c1 : b = -1000000000
    · rw [if_pos c1, if_pos c1]
    · rw [if_neg c1, if_neg c1]
      match u, hu with
      | 0, _ =>
        rw [if_neg (show ¬ ¬ nI 0 = 0 from not_not_intro rfl), if_neg (show ¬ (0 : Nat) = 1 by decide)]
        split <;> rfl
      | 1, _ =>
        rw [if_pos (show ¬ nI 1 = 0 by decide), if_pos (show (1 : Nat) = 1 from rfl)]
        split <;> rfl
theorem zm_sp_41 {w : Nat} {D : WD} (f : WF D) {kn : Int32} (hk : 0 ≤ kn.toInt ∧ kn.toInt ≤ 9999) {u : Nat} (hu : u < 2) : ∀ (m k : Nat) (b : Int32) (h : ax_H), I0 h → w < nW' (V h) → WM h w D → k + m = nP (V h) + nS (V h) → ∃ h', M_span_41 159 (nI w) kn (nI u) b (nI k) h = some (if k < nP (V h) then spF (V h) D kn (decide (u = 1)) (nS (V h)) 16 (spF (V h) D kn (decide (u = 1)) (nP (V h) - k) k b) else spF (V h) D kn (decide (u = 1)) (nP (V h) + nS (V h) - k) (16 + (k - nP (V h))) b, h') ∧ fr Sm h h' := by
  intro m
  induction m with
  | zero =>
    intro k b h i0 hw mm hkm
    have g := i0.2.2
    have hcn := cnts g.1
    have hnP := nI_nP g.1.2.2.1
    have hnS := nI_nS g.1.2.1
    obtain ⟨wS, wR, wG, wN⟩ := i0.1
    have e := EQ_a i0.2.1
    unfold EQa at e
    have hle : nI (nP (V h)) + nI (nS (V h)) ≤ nI k := by rw [nI_add, nJ_le (by omega) (by omega)]; omega
    refine ⟨h, ?_, fr_rf _ _⟩
    rw [M_span_41_eq]
    simp only [gI_pI, gI_pL, gI_pR, gL_pI, gL_pL, gL_pR, gR_pI, gR_pL, gR_pR, gS_pI, gS_pL, gS_pR, ↓reduceIte, Nat.reduceEqDiff, decide_eq_true_eq, Option.bind_some, false_and, and_false, true_and, and_true, and_self, Nat.reduceAdd, not_false_eq_true, not_true_eq_false, wS, wR, inI, ite_self, Classical.not_not, e, hnP, hnS, hle]
    by_cases q : k < nP (V h)
    · omega
    · rw [if_neg q, show nP (V h) + nS (V h) - k = 0 by omega]
      rfl
  | succ m ih =>
    intro k b h i0 hw mm hkm
    have g := i0.2.2
    have hcn := cnts g.1
    have hnP := nI_nP g.1.2.2.1
    have hnS := nI_nS g.1.2.1
    obtain ⟨wS, wR, wG, wN⟩ := i0.1
    have e := EQ_a i0.2.1
    unfold EQa at e
    have hle : ¬ nI (nP (V h)) + nI (nS (V h)) ≤ nI k := by rw [nI_add, nJ_le (by omega) (by omega)]; omega
    have fin : ∀ (gr : Nat) (h1 : ax_H), fr Sm h h1 → M_span_41 159 (nI w) kn (nI u) b (nI k) h = M_span_90 (anV (V h) D kn (ngr (V h) gr) 4) 159 (nI w) kn (nI u) b (nI k) h1 → ∃ h', M_span_41 159 (nI w) kn (nI u) b (nI k) h = some (if k + 1 < nP (V h) then spF (V h) D kn (decide (u = 1)) (nS (V h)) 16 (spF (V h) D kn (decide (u = 1)) (nP (V h) - (k + 1)) (k + 1) (btS (decide (u = 1)) b (anV (V h) D kn (ngr (V h) gr) 4))) else spF (V h) D kn (decide (u = 1)) (nP (V h) + nS (V h) - (k + 1)) (16 + (k + 1 - nP (V h))) (btS (decide (u = 1)) b (anV (V h) D kn (ngr (V h) gr) 4)), h') ∧ fr Sm h h' := fun gr h1 q1 q2 => by
      have hV := V_frm q1
      obtain ⟨h', r1, r2⟩ := ih (k + 1) (btS (decide (u = 1)) b (anV (V h) D kn (ngr (V h) gr) 4)) h1 (I0_frm q1 i0) (by rw [hV]; exact hw) (WM_eq (fun a k z1 z2 => fr_I q1 (by simp only [Sm, decide_eq_false_iff_not]; omega)) mm) (by rw [hV]; omega)
      rw [hV] at r1
      exact ⟨h', (q2.trans (zm_sp_90 (v0 := 0) hu)).trans r1, fr_tr q1 r2⟩
    by_cases q : k < nP (V h)
    · have hlt : ¬ nI (nP (V h)) ≤ nI k := by rw [nJ_le (by omega) (by omega)]; omega
      obtain ⟨h1, a1, a2⟩ := zm_each i0 hw f mm hk (u := 0) (k := k) (by omega) (by rw [if_pos rfl]; exact q)
      have a1' : M_each 159 (nI w) kn 0 (nI k) h = some (anV (V h) D kn (ngr (V h) k) 4, h1) := a1
      obtain ⟨h', r1, r2⟩ := fin k h1 a2 (by
        rw [M_span_41_eq]
        simp only [gI_pI, gI_pL, gI_pR, gL_pI, gL_pL, gL_pR, gR_pI, gR_pL, gR_pR, gS_pI, gS_pL, gS_pR, ↓reduceIte, Nat.reduceEqDiff, decide_eq_true_eq, Option.bind_some, false_and, and_false, true_and, and_true, and_self, Nat.reduceAdd, not_false_eq_true, not_true_eq_false, wS, wR, inI, ite_self, Classical.not_not, e, hnP, hnS, hle, hlt, ↓bnd a1'])
      refine ⟨h', ?_, r2⟩
      rw [r1, if_pos q]
      congr 2
      rw [show nP (V h) - k = (nP (V h) - (k + 1)) + 1 by omega, spF]
      by_cases q2 : k + 1 < nP (V h)
      · rw [if_pos q2]
      · rw [if_neg q2, show nP (V h) - (k + 1) = 0 by omega, show nP (V h) + nS (V h) - (k + 1) = nS (V h) by omega, show 16 + (k + 1 - nP (V h)) = 16 by omega]
        rfl
    · have hlt : nI (nP (V h)) ≤ nI k := by rw [nJ_le (by omega) (by omega)]; omega
      have es : nI k - nI (nP (V h)) = nI (k - nP (V h)) := pk_sub (by omega)
      obtain ⟨h1, a1, a2⟩ := zm_each i0 hw f mm hk (u := 1) (k := k - nP (V h)) (by omega) (by rw [if_neg (by decide)]; omega)
      have a1' : M_each 159 (nI w) kn 1 (nI k - nI (nP (V h))) h = some (anV (V h) D kn (ngr (V h) (16 + (k - nP (V h)))) 4, h1) := by
        rw [es]
        exact a1
      have a1'' : M_each 159 (nI w) kn 1 (nI k - gI h 159 3) h = some (anV (V h) D kn (ngr (V h) (16 + (k - nP (V h)))) 4, h1) := by
        rw [e.2.2.1, hnP]
        exact a1'
      obtain ⟨h', r1, r2⟩ := fin (16 + (k - nP (V h))) h1 a2 (by
        rw [M_span_41_eq]
        simp only [gI_pI, gI_pL, gI_pR, gL_pI, gL_pL, gL_pR, gR_pI, gR_pL, gR_pR, gS_pI, gS_pL, gS_pR, ↓reduceIte, Nat.reduceEqDiff, decide_eq_true_eq, Option.bind_some, false_and, and_false, true_and, and_true, and_self, Nat.reduceAdd, not_false_eq_true, not_true_eq_false, wS, wR, inI, ite_self, Classical.not_not, ↓bnd a1'', e, hnP, hnS, hle, hlt, ↓bnd a1'])
      refine ⟨h', ?_, r2⟩
      rw [r1, if_neg q, if_neg (by omega)]
      congr 2
      rw [show nP (V h) + nS (V h) - k = (nP (V h) + nS (V h) - (k + 1)) + 1 by omega, spF, show 16 + (k + 1 - nP (V h)) = 16 + (k - nP (V h)) + 1 by omega]
theorem qy_span {h : ax_H} (i : I0 h) (iw : IW h) (a kn b : Int32) : qry (B_span 64 a kn b h) (M_span 159 a kn b) h := by
  have i0 := i
  obtain ⟨w, e, g⟩ := i
  have hcn := cnts g.1
  have w0 := w
  obtain ⟨wS, wR, wG, wN⟩ := w
  by_cases h1 : 0 ≤ a.toInt ∧ a.toInt ≤ (V h 65 4).toInt - 1
  case neg =>
    refine qry_no (v := -2000000000) ?_ ?_
    · rw [B_span_eq]
      try simp only [wS, wR, ↓reduceIte]
      simp only [gI_pI, gI_pL, gI_pR, gL_pI, gL_pL, gL_pR, gR_pI, gR_pL, gR_pR, gS_pI, gS_pL, gS_pR, ↓reduceIte, Nat.reduceEqDiff, decide_eq_true_eq, Option.bind_some, false_and, and_false, true_and, and_true, and_self, Nat.reduceAdd, not_false_eq_true, not_true_eq_false, wS, wR, inI, ite_self, Classical.not_not, ↓bnd (z_wayNo w0 g.1 h1)]
    · rw [M_span_eq]
      simp only [gI_pI, gI_pL, gI_pR, gL_pI, gL_pL, gL_pR, gR_pI, gR_pL, gR_pR, gS_pI, gS_pL, gS_pR, ↓reduceIte, Nat.reduceEqDiff, decide_eq_true_eq, Option.bind_some, false_and, and_false, true_and, and_true, and_self, Nat.reduceAdd, not_false_eq_true, not_true_eq_false, wS, wR, inI, ite_self, Classical.not_not, ↓bnd (zm_isWay w0 g.1 e _), bI_0, h1]
  obtain ⟨j, rfl, hj, hj2, hj3⟩ := nI_ex h1
  obtain ⟨D, c, m, f⟩ := iw j (by omega)
  have hnz : ¬ gR h 82 j = 0 := by have := c.1; omega
  have hWA := z_wayAt w0 g.1 (j := j) (by omega)
  by_cases h2 : 0 ≤ kn.toInt ∧ kn.toInt ≤ 9999
  case neg =>
    refine qry_no (v := -2000000000) ?_ ?_
    · rw [B_span_eq]
      try simp only [wS, wR, ↓reduceIte]
      simp only [gI_pI, gI_pL, gI_pR, gL_pI, gL_pL, gL_pR, gR_pI, gR_pL, gR_pR, gS_pI, gS_pL, gS_pR, ↓reduceIte, Nat.reduceEqDiff, decide_eq_true_eq, Option.bind_some, false_and, and_false, true_and, and_true, and_self, Nat.reduceAdd, not_false_eq_true, not_true_eq_false, wS, wR, inI, ite_self, Classical.not_not, ↓bnd hWA, hnz, ↓bnd (z_isWeek _ _), bI_0, h2]
    · rw [M_span_eq]
      simp only [gI_pI, gI_pL, gI_pR, gL_pI, gL_pL, gL_pR, gR_pI, gR_pL, gR_pR, gS_pI, gS_pL, gS_pR, ↓reduceIte, Nat.reduceEqDiff, decide_eq_true_eq, Option.bind_some, false_and, and_false, true_and, and_true, and_self, Nat.reduceAdd, not_false_eq_true, not_true_eq_false, wS, wR, inI, ite_self, Classical.not_not, ↓bnd (zm_isWay w0 g.1 e _), bI_0, h1, ↓bnd (zm_isWeek _ _), h2]
  by_cases h3 : b = 0 ∨ b = 1
  case neg =>
    have h3' : ¬ (0 ≤ b.toInt ∧ b.toInt ≤ 1) := fun q => h3 (ch_iff.mp q)
    refine qry_no (v := -2000000000) ?_ ?_
    · rw [B_span_eq]
      try simp only [wS, wR, ↓reduceIte]
      simp only [gI_pI, gI_pL, gI_pR, gL_pI, gL_pL, gL_pR, gR_pI, gR_pL, gR_pR, gS_pI, gS_pL, gS_pR, ↓reduceIte, Nat.reduceEqDiff, decide_eq_true_eq, Option.bind_some, false_and, and_false, true_and, and_true, and_self, Nat.reduceAdd, not_false_eq_true, not_true_eq_false, wS, wR, inI, ite_self, Classical.not_not, ↓bnd hWA, hnz, ↓bnd (z_isWeek _ _), ↓bnd (z_isChoice _ _), bI_0, h2, h3]
    · rw [M_span_eq]
      simp only [gI_pI, gI_pL, gI_pR, gL_pI, gL_pL, gL_pR, gR_pI, gR_pL, gR_pR, gS_pI, gS_pL, gS_pR, ↓reduceIte, Nat.reduceEqDiff, decide_eq_true_eq, Option.bind_some, false_and, and_false, true_and, and_true, and_self, Nat.reduceAdd, not_false_eq_true, not_true_eq_false, wS, wR, inI, ite_self, Classical.not_not, ↓bnd (zm_isWay w0 g.1 e _), bI_0, h1, ↓bnd (zm_isWeek _ _), ↓bnd (zm_in _ _ _ _), h2, h3', Int32.toInt_toInt64, Int32.reduceToInt, Int64.reduceToInt, tN9, tN299, tN99999, tN9999, tN99, tL9, tL299, tL99999, tL9999, tL99, i1_0, i0_1]
  have h3' := ch_iff.mpr h3
  obtain ⟨u, rfl, hu⟩ := ch_ex h3
  -- the class
  obtain ⟨x1, a1, a2, a3⟩ := z_open w0 g f c kn
  have hV := V_frc a2
  have w1 := ok_fr a2 w0
  have a1' : Ft_open (gR h 64 3) (gR h 64 0) (gR h 82 j) kn h = some (bB (cko (V h) D kn 6 0), x1) := by
    simp only [wR]
    exact a1
  have S1 : gS x1 = gS h := fr_S a2
  have R1 : gR x1 = gR h := fr_R a2
  have hcl : ∃ x2, B_span 64 (nI j) kn (nI u) h = some (spF (V h) D kn (decide (u = 1)) 46 0 (anV (V h) D kn allB 4), x2) ∧ fr Sc h x2 := by
    cases hk : cko (V h) D kn 6 0 with
    | false =>
      rw [hk] at a1'
      refine ⟨x1, ?_, a2⟩
      have no : ∀ P t, anV (V h) D kn P t = -1000000000 := fun P t => by unfold anV agk; rw [hk, Bool.false_and, if_neg (by decide)]
      have : ∀ k g, spF (V h) D kn (decide (u = 1)) k g (-1000000000) = -1000000000 := fun k => by
        induction k with
        | zero => intro g; rfl
        | succ k ih =>
          intro g
          rw [spF, no]
          exact ih (g + 1)
      rw [no, this, B_span_eq]
      try simp only [wS, wR, ↓reduceIte]
      simp only [gI_pI, gI_pL, gI_pR, gL_pI, gL_pL, gL_pR, gR_pI, gR_pL, gR_pR, gS_pI, gS_pL, gS_pR, ↓reduceIte, Nat.reduceEqDiff, decide_eq_true_eq, Option.bind_some, false_and, and_false, true_and, and_true, and_self, Nat.reduceAdd, not_false_eq_true, not_true_eq_false, wS, wR, inI, ite_self, Classical.not_not, ↓bnd hWA, hnz, ↓bnd (z_isWeek _ _), ↓bnd (z_isChoice _ _), bI_0, h2, h3, ↓bnd a1', show bB false = 0 from rfl]
    | true =>
      rw [hk] at a1'
      have hc := cko_ok.mp hk
      obtain ⟨x2, b1, b2, b3, b4⟩ := z_solveAll w1 (by rw [hV]; exact g) f (kn := kn) (by rw [hV]; exact hc) (by rw [hV]; exact a3 hk)
      rw [hV] at b1 b3 b4
      have hV2 : V x2 = V h := (V_frc (S1x_c b2)).trans hV
      obtain ⟨x3, d1, d2⟩ := z_fa_21 f (kn := kn) (decide (u = 1)) 46 0 (anV (V h) D kn allB 4) x2 (by omega) (ok_fr b2 w1) (by rw [hV2]; exact g) (by rw [hV2]; exact hc) (by rw [hV2]; exact b3) (by rw [hV2]; exact doS_rf _ _)
      rw [hV2] at d1
      have d1' : Ft_farthest_21 99 (bB (decide (u = 1))) (anV (V h) D kn allB 4) 0 x2 = some (spF (V h) D kn (decide (u = 1)) 46 0 (anV (V h) D kn allB 4), x3) := d1
      have S2 : gS x2 = gS h := (fr_S b2).trans S1
      have R2 : gR x2 = gR h := (fr_R b2).trans R1
      have t4 : Int32.toNatClampNeg 4 = 4 := rfl
      have hF : Ft_farthest 99 (bB (decide (u = 1))) x1 = some (spF (V h) D kn (decide (u = 1)) 46 0 (anV (V h) D kn allB 4), x3) := by
        rw [← d1', Ft_farthest_eq]
        cases hs : slB (SP (V h) D kn allB) (FT D).length with
        | false =>
          have ea : anV (V h) D kn allB 4 = -1000000000 := by unfold anV agk; rw [hs, Bool.and_false, if_neg (by decide)]
          rw [hs] at b1
          rw [ea]
          simp only [S1, wS, ↓reduceIte, ↓bnd b1, show bB false = 0 from rfl, decide_true]
        | true =>
          have ea : anV (V h) D kn allB 4 = Int32.ofInt (anZ (V h) D kn (SP (V h) D kn allB) 4) := by unfold anV agk; rw [hs, hk, Bool.and_true, if_pos rfl]
          have v := b4 hs 4 (by omega)
          rw [hs] at b1
          rw [ea]
          simp only [S1, S2, R2, wS, wR, ↓reduceIte, ↓bnd b1, show ¬ bB true = 0 by decide, decide_false, Bool.false_eq_true, ax_in, t4, show ¬ (4 : Int32) < 0 by decide, show (4 : Nat) < 6 by decide, not_false_eq_true, and_self, v]
      refine ⟨x3, ?_, fr_tr a2 (fr_tr (S1x_c b2) d2)⟩
      rw [B_span_eq]
      try simp only [wS, wR, ↓reduceIte]
      match u, hu with
      | 0, _ =>
        have hF' : Ft_farthest 99 0 x1 = _ := hF
        simp only [gI_pI, gI_pL, gI_pR, gL_pI, gL_pL, gL_pR, gR_pI, gR_pL, gR_pR, gS_pI, gS_pL, gS_pR, ↓reduceIte, Nat.reduceEqDiff, decide_eq_true_eq, Option.bind_some, false_and, and_false, true_and, and_true, and_self, Nat.reduceAdd, not_false_eq_true, not_true_eq_false, wS, wR, inI, ite_self, Classical.not_not, ↓bnd hWA, hnz, ↓bnd (z_isWeek _ _), ↓bnd (z_isChoice _ _), bI_0, h2, h3, ↓bnd a1', show ¬ bB true = 0 by decide, S1, R1, show nI 0 = 0 from rfl, i0_1, true_or, hF']
      | 1, _ =>
        have hF' : Ft_farthest 99 1 x1 = _ := hF
        simp only [gI_pI, gI_pL, gI_pR, gL_pI, gL_pL, gL_pR, gR_pI, gR_pL, gR_pR, gS_pI, gS_pL, gS_pR, ↓reduceIte, Nat.reduceEqDiff, decide_eq_true_eq, Option.bind_some, false_and, and_false, true_and, and_true, and_self, Nat.reduceAdd, not_false_eq_true, not_true_eq_false, wS, wR, inI, ite_self, Classical.not_not, ↓bnd hWA, hnz, ↓bnd (z_isWeek _ _), ↓bnd (z_isChoice _ _), bI_0, h2, h3, ↓bnd a1', show ¬ bB true = 0 by decide, S1, R1, show nI 1 = 1 from rfl, or_true, hF']
  obtain ⟨x2, hB, F2⟩ := hcl
  have hV2 := V_frc F2
  have i2 := I0_frc F2 i0
  have m2 := WM_c F2 m
  obtain ⟨y1, s1, s2⟩ := zm_answerIn i2 (w := j) (by omega) f m2 h2.2 (t := 4) (by omega)
  rw [hV2] at s1
  have hVy : V y1 = V h := (V_frm s2).trans hV2
  have iy := I0_frm s2 i2
  obtain ⟨y2, t1, t2⟩ := zm_sp_41 (w := j) f h2 hu (nP (V y1) + nS (V y1)) 0 (anV (V h) D kn allB 4) y1 iy (by rw [hVy]; omega) (WM_eq (fun a k z1 z2 => fr_I s2 (by simp only [Sm, decide_eq_false_iff_not]; omega)) m2) (by omega)
  rw [hVy] at t1
  refine ⟨spF (V h) D kn (decide (u = 1)) 46 0 (anV (V h) D kn allB 4), x2, y2, hB, ?_, F2, fr_tr s2 t2⟩
  have eq : spF (V h) D kn (decide (u = 1)) 46 0 (anV (V h) D kn allB 4) = spF (V h) D kn (decide (u = 1)) (nS (V h)) 16 (spF (V h) D kn (decide (u = 1)) (nP (V h)) 0 (anV (V h) D kn allB 4)) := by
    have d0 := doS_rf (decide (u = 1)) (anV (V h) D kn allB 4)
    rw [show 46 = nP (V h) + ((16 - nP (V h)) + (nS (V h) + (30 - nS (V h)))) by omega, spF_add, Nat.zero_add, spF_add, spF_emp (16 - nP (V h)) (nP (V h)) _ (spF_do _ _ _ d0) (fun g' z1 z2 => grp_emp g (Or.inl ⟨z1, by omega⟩)), show nP (V h) + (16 - nP (V h)) = 16 by omega, spF_add, spF_emp (30 - nS (V h)) (16 + nS (V h)) _ (spF_do _ _ _ (spF_do _ _ _ d0)) (fun g' z1 z2 => grp_emp g (Or.inr ⟨z1, by omega⟩))]
  have s1' : M_answerIn 159 (nI j) 4 kn x2 = some (anV (V h) D kn allB 4, y1) := s1
  have t1' : M_span_41 159 (nI j) kn (nI u) (anV (V h) D kn allB 4) 0 y1 = _ := t1
  have h1' : 0 ≤ (nI j).toInt ∧ (nI j).toInt ≤ (V x2 65 4).toInt - 1 := by rw [hV2]; exact h1
  obtain ⟨vS, vR, -, -⟩ := i2.1
  rw [eq, M_span_eq]
  simp only [vS, ↓reduceIte, ↓bnd (zm_isWay i2.1 i2.2.2.1 i2.2.1 _), bI_0, inI, h1', ↓bnd (zm_isWeek _ _), ↓bnd (zm_in _ _ _ _), h2, h3', Int32.toInt_toInt64, Int32.reduceToInt, Int64.reduceToInt, tN9, tN299, tN99999, tN9999, tN99, tL9, tL299, tL99999, tL9999, tL99, i1_0, i0_1, ↓bnd s1', t1', and_self, not_true_eq_false, decide_false, decide_true, not_false_eq_true, Bool.false_eq_true]
  by_cases q : 0 < nP (V h)
  · rw [if_pos q, Nat.sub_zero]
  · rw [if_neg q, Nat.sub_zero, show nP (V h) = 0 by omega, Nat.zero_add]
    rfl
