/-! right: the class's worlds -/
theorem z_solS {h : ax_H} (w : ok h) {D : WD} (f : WF D) {kn : Int32} {V0 : BV} (o : OP h V0 D kn) {S : Nat → Int} (hB : svB S (FT D).length) (hL : ∀ k, k < 13 → gL h 155 k = Int64.ofInt (S k)) : ∃ h', Ft_solve 99 h = some (bB (slB S (FT D).length), h') ∧ fr S101 h h' ∧ OP h' V0 D kn ∧ (slB S (FT D).length = true → ∀ t, t < 6 → gI h' 101 t = Int32.ofInt (anZ V0 D kn S t)) := by
  obtain ⟨h', r1, r2, r3⟩ := z_solve f hB w o.2.1 hL
  have o' := OP_AK f r2 o
  refine ⟨h', r1, r2.1, o', fun hs t ht => ?_⟩
  unfold anZ
  by_cases q : D.1 t = 1
  · rw [if_pos q]
    have hm : t ∈ FT D := (flF_mem 6 0).mpr ⟨by omega, by omega, decide_eq_true q⟩
    have hg := ixL_get hm
    exact r3 hs _ t (List.getElem?_eq_some_iff.mp hg).1 hg
  · rw [if_neg q]
    exact o'.2.2.2.2 t ht q
theorem SW_bd {V : BV} (g : GV V) {D : WD} (f : WF D) {kn : Int32} (hc : ckOk V D kn) {li c : Nat} (hli : li ≤ 9999) (hcc : c ≤ 99) (s : Int) : svB (SW V D kn li c s) (FT D).length := by
  have hcn := cnts g.1
  have hlen : (tkL V D kn).length ≤ 100 := by
    have := flF_len (P := tkB V D kn) (nM V) 0
    unfold tkL
    omega
  exact sv_bd g f (fun i hi => tkL_lt hi) hlen (fun i hi ax hax => by
    have x1 := mwZ_bd g D kn hli hcc s (tkL_lt hi) ax
    have x2 := (dZ_bd g f hc (tkL_lt hi) ax).2
    unfold mdZ
    omega)
def hitB (V : BV) (D : WD) (kn : Int32) (li c l : Nat) (s : Int) : Bool := slB (SW V D kn li c s) (FT D).length && decide (anZ V D kn (SW V D kn li c s) 4 - (li : Int) ≤ (l : Int) ∧ (li : Int) - anZ V D kn (SW V D kn li c s) 4 ≤ (l : Int))
def rwC (V : BV) (D : WD) (kn : Int32) (li c l : Nat) : Nat → Int → Int32 → Int32
  | 0, _, a => a
  | m + 1, s, a => rwC V D kn li c l m (itS (2 * (tkL V D kn).length) s) (if hitB V D kn li c l s then a + 1 else a)
section
theorem z_rw_36 {D : WD} (f : WF D) {kn : Int32} {li c l N : Nat} (hli : li ≤ 9999) (hcc : c ≤ 99) (hl : l ≤ 99999) (hN : N ≤ 50) {V0 : BV} (g : GV V0) (hc : ckOk V0 D kn) : ∀ (m wd : Nat) (a : Int32) (s : Int) (h : ax_H), wd + m = N → V h = V0 → ok h → OP h V0 D kn → LAW h V0 li (tkL V0 D kn) (2 * (tkL V0 D kn).length) → gL h 99 14 = Int64.ofInt s → 0 ≤ s ∧ s < 2147483648 → R155 h V0 D kn → ∃ h', Ft_rightWorlds_36 99 65 (nI li) (nI c) (nI N) (nI l) a (nI wd) h = some (rwC V0 D kn li c l m s a, h') ∧ fr Sc h h' := by
  intro m
  induction m with
  | zero =>
    intro wd a s h hwd hV w o hw hg hs r0
    have hle : nI N ≤ nI wd := by rw [nJ_le (by omega) (by omega)]; omega
    refine ⟨h, ?_, fr_rf _ _⟩
    rw [Ft_rightWorlds_36_eq, rwC]
    simp only [hle, decide_true, ↓reduceIte]
  | succ m ih =>
    intro wd a s h hwd hV w o hw hg hs r0
    subst hV
    have hle : ¬ nI N ≤ nI wd := by rw [nJ_le (by omega) (by omega)]; omega
    obtain ⟨h1, a1, a2, a3, a4⟩ := z_drawWorld f (kn := kn) hli hcc hs w g hc o hw hg r0
    have w1 := ok_fr a2 w
    have o1 : OP h1 (V h) D kn := OP_fr a2 f (fun a k z => by simp only [S155d, decide_eq_false_iff_not]; omega) (fun t _ _ => fr_I a2 (by simp only [S155d, decide_eq_false_iff_not]; omega)) o
    obtain ⟨h2, b1, b2, b3, b4⟩ := z_solS w1 f o1 (SW_bd g f hc hli hcc s) a4
    have w2 := ok_fr b2 w1
    have F2 : fr Sc h h2 := fr_tr (S155d_c a2) (S101_c b2)
    have hV2 := V_frc F2
    have hw2 : LAW h2 (V h) li (tkL (V h) D kn) (2 * (tkL (V h) D kn).length) := fun r hr i hi => (fr_I b2 rfl).trans ((fr_I a2 rfl).trans (hw r hr i hi))
    have r2 : R155 h2 (V h) D kn := fun k hk q => by
      rw [fr_L b2 rfl, a4 k hk, SP_all]
      unfold SW
      rw [sv_d (e := dZ (V h) D kn) (fun z => q (lastB_iff.mpr ⟨z.1, by omega, z.2⟩))]
    obtain ⟨h', s1, s2⟩ := ih (wd + 1) (if hitB (V h) D kn li c l s then a + 1 else a) _ h2 (by omega) hV2 w2 b3 hw2 ((fr_L b2 rfl).trans a3) (itS_bd hs _) r2
    refine ⟨h', ?_, fr_tr F2 s2⟩
    obtain ⟨wS, wR, wG, wN⟩ := w
    have S1 : gS h1 = gS h := fr_S a2
    have S2 : gS h2 = gS h := (fr_S b2).trans S1
    have R2 : gR h2 = gR h := (fr_R b2).trans (fr_R a2)
    rw [rwC, ← s1, Ft_rightWorlds_36_eq]
    simp only [hle, decide_false, Bool.false_eq_true, ↓reduceIte, wS]
    rw [bnd a1]
    simp only [S1, wS, ↓reduceIte]
    rw [bnd b1]
    unfold hitB
    cases hs2 : slB (SW (V h) D kn li c s) (FT D).length with
    | false =>
      simp only [show bB false = 0 from rfl, decide_true, ↓reduceIte, Bool.false_and, Bool.false_eq_true, nJ_p1]
    | true =>
      have v := b4 hs2 4 (by omega)
      have ab := anZ_bd g.2.2.2.1 f hc hs2 (t := 4) (by omega)
      simp only [show ¬ bB true = 0 by decide, decide_false, Bool.false_eq_true, ↓reduceIte, S2, R2, wS, wR, ax_in, show Int32.toNatClampNeg 4 = 4 from rfl, show ¬ (4 : Int32) < 0 by decide, show (4 : Nat) < 6 by decide, not_false_eq_true, and_self, v, Bool.true_and]
      rw [bnd (z_isNear _ _ _ _), bI_b, i_toInt (z := anZ (V h) D kn (SW (V h) D kn li c s) 4) (by omega), nJ_i (show li < 2147483648 by omega), nJ_i (show l < 2147483648 by omega)]
      by_cases q : anZ (V h) D kn (SW (V h) D kn li c s) 4 - (li : Int) ≤ (l : Int) ∧ (li : Int) - anZ (V h) D kn (SW (V h) D kn li c s) 4 ≤ (l : Int)
      · rw [if_pos q, if_pos (decide_eq_true q), nJ_p1]
      · rw [if_neg q, if_neg (fun z => q (of_decide_eq_true z)), nJ_p1]
end
theorem z_rightWorlds {D : WD} (f : WF D) {kn : Int32} {li c l N : Nat} (hli : li ≤ 9999) (hcc : c ≤ 99) (hl : l ≤ 99999) (hN : N ≤ 50) {h : ax_H} (w : ok h) (g : GV (V h)) (hc : ckOk (V h) D kn) (o : OP h (V h) D kn) {s : Int32} (hs : 0 ≤ s.toInt) : ∃ h', Ft_rightWorlds 99 65 s (nI li) (nI c) (nI N) (nI l) h = some (rwC (V h) D kn li c l N s.toInt 0, h') ∧ fr Sc h h' := by
  have hcn := cnts g.1
  have hlen : (tkL (V h) D kn).length ≤ 100 := by
    have := flF_len (P := tkB (V h) D kn) (nM (V h)) 0
    unfold tkL
    omega
  obtain ⟨h1, a1, a2, a3⟩ := z_ml_2 hli hlen (2 * (tkL (V h) D kn).length) 0 h (by omega) w g o.1 (fun i hi => tkL_lt hi) (fun r hr => by omega)
  have w1 := ok_fr a2 w
  have hV1 := V_frc (S106_c a2)
  have o1 : OP h1 (V h) D kn := OP_fr a2 f (fun a k z => by simp only [S106, decide_eq_false_iff_not]; omega) (fun t _ _ => fr_I a2 rfl) o
  have F2 := fr_155 (h := h1) (F := va_cpy (gL h1 154) (gL h1 155) (Int32.toNatClampNeg 0) (Int32.toNatClampNeg 0) (Int32.toNatClampNeg 13))
  have F3 : fr S155d (rL h1 155 (va_cpy (gL h1 154) (gL h1 155) (Int32.toNatClampNeg 0) (Int32.toNatClampNeg 0) (Int32.toNatClampNeg 13))) (pL (rL h1 155 (va_cpy (gL h1 154) (gL h1 155) (Int32.toNatClampNeg 0) (Int32.toNatClampNeg 0) (Int32.toNatClampNeg 13))) 99 14 s.toInt64) := fr_pL rfl
  have F4 := fr_tr (S155_d F2) F3
  have hV4 := (V_frc (S155d_c F4)).trans hV1
  have o4 := OP_fr F4 f (fun a k z => by simp only [S155d, decide_eq_false_iff_not]; omega) (fun t _ _ => fr_I F4 (by simp only [S155d, decide_eq_false_iff_not]; omega)) o1
  have sl := Int32.toInt_lt s
  obtain ⟨h', r1, r2⟩ := z_rw_36 f (kn := kn) hli hcc hl hN g hc N 0 0 s.toInt _ (by omega) hV4 (ok_fr F4 w1) o4 (fun r hr i hi => (fr_I F4 rfl).trans (a3 r hr i hi)) (by rw [gL_pL, if_pos ⟨rfl, rfl⟩, i_L]) ⟨hs, by omega⟩ (fun k hk q => by
    rw [gL_pL, if_neg (by omega), cp_155 k hk, ← grp_46 (V h)]
    exact o1.2.2.2.1 46 (by omega) k hk)
  refine ⟨h', ?_, fr_tr (S106_c a2) (fr_tr (S155d_c F4) r2)⟩
  have S1 : gS h1 = gS h := fr_S a2
  have R1 : gR h1 = gR h := fr_R a2
  obtain ⟨wS, wR, wG, wN⟩ := w
  have t46 : Int32.toNatClampNeg 46 = 46 := rfl
  have g46 : gR h 107 46 = 154 := wG.1 46 (by omega)
  have s154 : gS h1 154 = (17, 13) := by rw [S1]; exact wG.2 46 (by omega)
  have s155 : gS h1 155 = (17, 13) := by rw [S1]; simp only [wS]
  have a1' : Ft_makeLawful 99 65 (nI li) h = some h1 := by rw [Ft_makeLawful_eq]; exact a1
  rw [Ft_rightWorlds_eq]
  simp only [wS, ↓reduceIte]
  rw [bnd a1']
  simp only [S1, R1, wS, wR, ↓reduceIte, ax_in, t46, g46, show ¬ (46 : Int32) < 0 by decide, show (46 : Nat) < 47 by decide, not_false_eq_true, and_self, gS_rL]
  rw [if_pos (cpc h1 154 155 s154 s155)]
  exact r1
