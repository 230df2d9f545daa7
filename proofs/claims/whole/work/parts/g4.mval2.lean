/-! the reference's value -/
def wdX (k : Nat) : Nat := if k = 12 then 12 else 15 + k
theorem chsW : ∀ k : Nat, k < 13 → chs (wdX k) = (wsL 5).getD k [] := by decide +kernel
theorem wdX_b {k : Nat} (h : k < 13) : 8 ≤ wdX k ∧ wdX k ≤ 34 := by unfold wdX; split <;> omega
theorem zm_wordOf {k : Nat} (hk : k < 13) (h : ax_H) : M_wordOf (nI k) h = some (wdX k, h) := by
  have : k = 0 ∨ k = 1 ∨ k = 2 ∨ k = 3 ∨ k = 4 ∨ k = 5 ∨ k = 6 ∨ k = 7 ∨ k = 8 ∨ k = 9 ∨ k = 10 ∨ k = 11 ∨ k = 12 := by omega
  rcases this with rfl | rfl | rfl | rfl | rfl | rfl | rfl | rfl | rfl | rfl | rfl | rfl | rfl <;> (rw [M_wordOf_eq]; rfl)
theorem fW_at {T : Nat → Nat} {n p : Nat} : ∀ (l : List (List Nat)) (k : Nat) (r : Nat × Nat), fW T n l k p = some r → r.2 = p + (l.getD (r.1 - k) []).length ∧ wD T n (l.getD (r.1 - k) []) p = true
  | [], k, r, h => by cases h
  | w :: l, k, r, h => by
    rw [fW] at h
    by_cases q : wD T n w p = true
    · rw [if_pos q] at h
      injection h with h
      rw [← h]
      have e : (w :: l).getD (k - k) [] = w := by rw [Nat.sub_self]; rfl
      show p + w.length = p + ((w :: l).getD (k - k) []).length ∧ wD T n ((w :: l).getD (k - k) []) p = true
      rw [e]
      exact ⟨rfl, q⟩
    · rw [if_neg q] at h
      have hk := (fW_lt T n l (k + 1) p r h).1
      have := fW_at l (k + 1) r h
      rw [show r.1 - k = (r.1 - (k + 1)) + 1 by omega]
      exact this
def vK (o : Option (Nat × Nat)) : Nat := match o with
  | none => 13
  | some r => r.1
def rvm (h : ax_H) (w : Nat) (P : Option ax_H) : Sum Nat Ms → Prop
  | .inl f => ∃ h', P = some h' ∧ fr (Sv w) h h' ∧ RF h' w f 400
  | .inr s => ∃ h', P = some h' ∧ fr (Sv w) h h' ∧ RM h' w s.2.1 s.2.2.1 s.2.2.2.1 s.2.2.2.2.1 s.2.2.2.2.2
section
theorem zm_v38 {T : Nat → Nat} {n : Nat} (hn : n ≤ 400) (tb : ∀ i, T i < 256) {p : Nat} (hpb : p ≤ 1000) {h : ax_H} (w : ok h) (t : TM h T n) (hp : gI h 159 18 = nI p) (b : Int32) : ∀ (L : List (List Nat)) (k : Nat), (wsL 5).drop k = L → k ≤ 13 → M_value_38 159 b (nI k) h = M_value_61 159 b (nI (vK (fW T n L k p))) h := by
  have l5 : (wsL 5).length = 13 := rfl
  intro L
  induction L with
  | nil =>
    intro k hd hk
    have : k = 13 := by
      by_cases q : k < (wsL 5).length
      · rw [List.drop_eq_getElem_cons q] at hd; cases hd
      · omega
    subst this
    rw [M_value_38_eq, if_pos (by decide)]
    rfl
  | cons x L ih =>
    intro k hd hk
    have hlt : k < (wsL 5).length := by
      by_cases q : k < (wsL 5).length
      · exact q
      · rw [List.drop_eq_nil_of_le (by omega)] at hd; cases hd
    have hd2 := hd
    rw [List.drop_eq_getElem_cons hlt] at hd
    injection hd with hd1 hd3
    have hx : chs (wdX k) = x := by rw [chsW k (by omega), List.getD_eq_getElem?_getD, List.getElem?_eq_getElem hlt, hd1]; rfl
    have nk : ¬ (13 : Int32) ≤ nI k := fun z => by have := (nJ_le (a := 13) (b := k) (by omega) (by omega)).mp z; omega
    have st := zm_stands hn tb (wdX_b (by omega : k < 13)) hpb w t hp
    rw [hx] at st
    rw [M_value_38_eq, if_neg (by rw [decide_eq_true_eq]; exact nk), bnd (zm_wordOf (by omega) h), fW]
    simp only [m_159 w, ↓reduceIte]
    rw [bnd st]
    cases q : wD T n x p with
    | true =>
      rw [if_pos rfl]
      exact if_pos (show decide (¬ bB true = 0) = true by decide)
    | false =>
      rw [show (if (false : Bool) = true then (some (k, p + x.length) : Option (Nat × Nat)) else fW T n L (k + 1) p) = fW T n L (k + 1) p from if_neg (by decide)]
      refine (if_neg (show ¬ decide (¬ bB false = 0) = true by decide)).trans ?_
      rw [nJ_p1]
      exact ih (k + 1) hd3 (by omega)
theorem zm_valueG {T : Nat → Nat} {n : Nat} (hn : n ≤ 400) (tb : ∀ i, T i < 256) {h : ax_H} (v : ok h) (t : TM h T n) {w p c d : Nat} {o : List Nat} {E : Cd} (r : RM h w p c d o E) (hp : p ≤ n) (hc : c ≤ 60) (hw : w < 10) (hE : E.length < 300) (st : Nat) : rvm h w (M_value 159 h) (vlP T n st (sb T n p) c d o E) := by
  obtain ⟨h1, a1, a2, a3⟩ := zm_blanks hn tb v t r.1.2.2.1 (by omega)
  have hle : sb T n p ≤ n := sb_le hp
  generalize sb T n p = p1 at *
  have v1 := ok_fr a2 v
  have t1 := TM_8 a2 t
  have R1 := RM_8 r a2 a3
  have dg := zm_isDigit hn tb v1 t1 a3 (by omega)
  have e0 : ∀ X, (M_isDigit 159 h1).bind (fun r2 => if decide (r2.1 = 0) = true then (M_value_38 159 (nI p1) 0 r2.2) else (if (gS r2.2 159).1 = 11 then (M_digits 159 99999 r2.2).bind (fun r3 => if (gS r3.2 159).1 = 11 then (M_isCounted 159 (nI p1) r3.2).bind (fun h4 => if (gS h4 159).1 = 11 then (M_entry 159 0 r3.1 h4).bind (fun h5 => some h5) else none) else none) else none)) = X → M_value 159 h = X := fun X hX => by
    rw [← hX, M_value_eq, if_pos (m_159 v), bnd a1]
    simp only [m_159 v1, ↓reduceIte, a3]
  unfold vlP
  cases hd : dB T n p1 with
  | true =>
    rw [hd] at dg
    obtain ⟨n1, n2⟩ := zm_digitsG hn tb (M := 99999) (by omega) v1 t1 R1 hle
    rw [if_pos rfl]
    cases hr : rdN T n 99999 p1 with
    | inl f =>
      obtain ⟨x, h2, b1, b2, b3⟩ := n1 f hr
      have b1' : M_digits 159 99999 h1 = some (x, h2) := b1
      have v2 := ok_fr b2 v1
      obtain ⟨h3, c1, c2, c3⟩ := zm_countF v2 b3 (nI p1)
      have v3 := ok_fr c2 v2
      refine ⟨h3, ?_, fr_tr (Sq_w a2) (fr_tr b2 c2), c3⟩
      refine e0 _ ?_
      rw [bnd dg]
      simp only [show ¬ bB true = 0 by decide, decide_false, Bool.false_eq_true, ↓reduceIte, m_159 v1]
      rw [bnd b1']
      simp only [m_159 v2, ↓reduceIte]
      rw [bnd c1]
      simp only [m_159 v3, ↓reduceIte]
      rw [bnd (zm_entryF v3 c3 0 x)]
    | inr x =>
      obtain ⟨h2, b1, b2, b3⟩ := n2 x hr
      have b1' : M_digits 159 99999 h1 = some (nI x.1, h2) := b1
      have v2 := ok_fr b2 v1
      obtain ⟨k1, k2⟩ := zm_countG v2 b3 hc (b := p1) (q := 400) (by have := (rd_lt hle hr).2.2.2; omega) (by omega)
      show rvm h w _ (if c + 1 ≤ 60 then _ else _)
      by_cases q : c + 1 ≤ 60
      · rw [if_pos q]
        obtain ⟨h3, c1, c2, c3⟩ := k1 q
        have v3 := ok_fr c2 v2
        obtain ⟨h4, d1, d2, d3⟩ := zm_entryG v3 c3 hw hE 0 x.1 (k' := 0) (x' := nI x.1) rfl rfl
        refine ⟨h4, ?_, fr_tr (Sq_w a2) (fr_tr b2 (fr_tr c2 d2)), d3⟩
        refine e0 _ ?_
        rw [bnd dg]
        simp only [show ¬ bB true = 0 by decide, decide_false, Bool.false_eq_true, ↓reduceIte, m_159 v1]
        rw [bnd b1']
        simp only [m_159 v2, ↓reduceIte]
        rw [bnd c1]
        simp only [m_159 v3, ↓reduceIte]
        rw [bnd d1]
      · rw [if_neg q]
        obtain ⟨h3, c1, c2, c3⟩ := k2 q
        have v3 := ok_fr c2 v2
        refine ⟨h3, ?_, fr_tr (Sq_w a2) (fr_tr b2 c2), c3⟩
        refine e0 _ ?_
        rw [bnd dg]
        simp only [show ¬ bB true = 0 by decide, decide_false, Bool.false_eq_true, ↓reduceIte, m_159 v1]
        rw [bnd b1']
        simp only [m_159 v2, ↓reduceIte]
        rw [bnd c1]
        simp only [m_159 v3, ↓reduceIte]
        rw [bnd (zm_entryF v3 c3 0 _)]
  | false =>
    rw [hd] at dg
    rw [if_neg (by decide)]
    have e1 : M_value 159 h = M_value_61 159 (nI p1) (nI (vK (fW T n (wsL 5) 0 p1))) h1 := by
      refine e0 _ ?_
      rw [bnd dg]
      exact zm_v38 hn tb (by omega) v1 t1 a3 (nI p1) (wsL 5) 0 rfl (by omega)
    rw [e1]
    cases hf : fW T n (wsL 5) 0 p1 with
    | none =>
      refine ⟨pI h1 159 19 (nI (1 + 8 * p1 + 0)), ?_, fr_tr (Sq_w a2) (fr_pI (Sv_t (by omega))), RF_of R1 (by omega) (by omega)⟩
      show M_value_61 159 (nI p1) (nI 13) h1 = _
      rw [M_value_61_eq]
      simp only [show nI 13 = 13 from rfl, not_true_eq_false, decide_false, Bool.false_eq_true, ↓reduceIte, m_159 v1]
      rw [bnd (zm_failsG v1 R1.1.1 p1 0 (c' := 0) rfl)]
    | some x =>
      have hx := fW_lt T n (wsL 5) 0 p1 x hf
      have l5 : (wsL 5).length = 13 := rfl
      have hx13 : x.1 < 13 := by omega
      obtain ⟨f1, f2⟩ := fW_at (wsL 5) 0 x hf
      rw [Nat.sub_zero, ← chsW x.1 hx13] at f1 f2
      have hxn := (fW_le (wsL 5) 0 p1 x (by decide) hle hf).2
      have nz : ¬ nI x.1 = 13 := fun z => by have := (nJ_eq (a := x.1) (b := 13) (by omega) (by omega)).mp z; omega
      obtain ⟨k1, k2⟩ := zm_countG v1 R1 hc (b := p1) (q := p1) (Nat.le_refl _) (by omega)
      have wb := wdX_b hx13
      have wb' : 1 ≤ wdX x.1 ∧ wdX x.1 ≤ 34 := by omega
      show rvm h w (M_value_61 159 (nI p1) (nI x.1) h1) (if c + 1 ≤ 60 then _ else _)
      by_cases q : c + 1 ≤ 60
      · rw [if_pos q]
        obtain ⟨h3, c1, c2, c3⟩ := k1 q
        have v3 := ok_fr c2 v1
        have R4 : RM (pI h3 159 18 (nI x.2)) w x.2 (c + 1) d o E := RM_8 c3 (fr_pI rfl) (by rw [gI_pI, if_pos ⟨rfl, rfl⟩])
        obtain ⟨h4, d1, d2, d3⟩ := zm_entryG (ok_pI v3 159 18 (nI x.2)) R4 hw hE 1 x.1 (k' := 1) (x' := nI x.1) rfl rfl
        refine ⟨h4, ?_, fr_tr (Sq_w a2) (fr_tr c2 (fr_tr (fr_pI (Sv_t (by omega))) d2)), d3⟩
        rw [M_value_61_eq]
        simp only [nz, not_false_eq_true, decide_true, ↓reduceIte, m_159 v1]
        rw [bnd c1]
        simp only [m_159 v3, ↓reduceIte]
        rw [bnd (zm_wordOf hx13 h3)]
        simp only [wb', and_self, ↓reduceIte]
        rw [bnd (z_len wb' h3)]
        simp only [m_159 v3, ↓reduceIte, gS_pI, c3.1.2.2.1, nI_add, ← f1]
        rw [bnd d1]
      · rw [if_neg q]
        obtain ⟨h3, c1, c2, c3⟩ := k2 q
        have v3 := ok_fr c2 v1
        obtain ⟨y1, y2, y3, p', y4, y5⟩ := c3
        have R4 : RF (pI h3 159 18 (nI (p' + (chs (wdX x.1)).length))) w (1 + 8 * p1 + 3) 400 := ⟨by rw [gI_pI, if_neg (by omega)]; exact y1, y2, by rw [gI_pI, if_neg (by omega)]; exact y3, _, by rw [gI_pI, if_pos ⟨rfl, rfl⟩], by omega⟩
        refine ⟨_, ?_, fr_tr (Sq_w a2) (fr_tr c2 (fr_pI (Sv_t (by omega)))), R4⟩
        rw [M_value_61_eq]
        simp only [nz, not_false_eq_true, decide_true, ↓reduceIte, m_159 v1]
        rw [bnd c1]
        simp only [m_159 v3, ↓reduceIte]
        rw [bnd (zm_wordOf hx13 h3)]
        simp only [wb', and_self, ↓reduceIte]
        rw [bnd (z_len wb' h3)]
        simp only [m_159 v3, ↓reduceIte, gS_pI, y4, nI_add]
        rw [bnd (zm_entryF (ok_pI v3 _ _ _) R4 1 _)]
theorem zm_valueF {T : Nat → Nat} {n : Nat} (hn : n ≤ 400) (tb : ∀ i, T i < 256) {h : ax_H} (v : ok h) (t : TM h T n) {u f q : Nat} (r : RF h u f q) (hq : 400 ≤ q ∧ q ≤ 900) : ∃ h', M_value 159 h = some h' ∧ fr (Sv u) h h' ∧ RF h' u f q := by
  have r0 := r
  obtain ⟨x1, x2, x3, p, g18, hp⟩ := r
  obtain ⟨h1, a1, a2, a3⟩ := zm_blanks hn tb v t g18 (by omega)
  have hle : sb T n p ≤ q := by
    by_cases z : p ≤ n
    · have := sb_le (T := T) z; omega
    · rw [sb_st (by omega)]; exact hp
  generalize sb T n p = p1 at *
  have v1 := ok_fr a2 v
  have t1 := TM_8 a2 t
  have R1 : RF h1 u f q := RF_8 r0 a2 a3 hle
  have dg := zm_isDigit hn tb v1 t1 a3 (by omega)
  have e0 : ∀ X, (M_isDigit 159 h1).bind (fun r2 => if decide (r2.1 = 0) = true then (M_value_38 159 (nI p1) 0 r2.2) else (if (gS r2.2 159).1 = 11 then (M_digits 159 99999 r2.2).bind (fun r3 => if (gS r3.2 159).1 = 11 then (M_isCounted 159 (nI p1) r3.2).bind (fun h4 => if (gS h4 159).1 = 11 then (M_entry 159 0 r3.1 h4).bind (fun h5 => some h5) else none) else none) else none)) = X → M_value 159 h = X := fun X hX => by
    rw [← hX, M_value_eq, if_pos (m_159 v), bnd a1]
    simp only [m_159 v1, ↓reduceIte, a3]
  cases hd : dB T n p1 with
  | true =>
    rw [hd] at dg
    obtain ⟨x, h2, b1, b2, b3⟩ := zm_digitsF hn tb (M := 99999) (by omega) v1 t1 R1 hq
    have b1' : M_digits 159 99999 h1 = some (x, h2) := b1
    have v2 := ok_fr b2 v1
    obtain ⟨h3, c1, c2, c3⟩ := zm_countF v2 b3 (nI p1)
    have v3 := ok_fr c2 v2
    refine ⟨h3, ?_, fr_tr (Sq_w a2) (fr_tr b2 c2), c3⟩
    refine e0 _ ?_
    rw [bnd dg]
    simp only [show ¬ bB true = 0 by decide, decide_false, Bool.false_eq_true, ↓reduceIte, m_159 v1]
    rw [bnd b1']
    simp only [m_159 v2, ↓reduceIte]
    rw [bnd c1]
    simp only [m_159 v3, ↓reduceIte]
    rw [bnd (zm_entryF v3 c3 0 x)]
  | false =>
    rw [hd] at dg
    have e1 : M_value 159 h = M_value_61 159 (nI p1) (nI (vK (fW T n (wsL 5) 0 p1))) h1 := by
      refine e0 _ ?_
      rw [bnd dg]
      exact zm_v38 hn tb (by omega) v1 t1 a3 (nI p1) (wsL 5) 0 rfl (by omega)
    rw [e1]
    cases hf : fW T n (wsL 5) 0 p1 with
    | none =>
      obtain ⟨h2, c1, c2, c3⟩ := zm_failsF v1 R1 0 (nI p1)
      refine ⟨h2, ?_, fr_tr (Sq_w a2) c2, c3⟩
      show M_value_61 159 (nI p1) (nI 13) h1 = _
      rw [M_value_61_eq]
      simp only [show nI 13 = 13 from rfl, not_true_eq_false, decide_false, Bool.false_eq_true, ↓reduceIte, m_159 v1]
      rw [bnd c1]
    | some x =>
      have hx := fW_lt T n (wsL 5) 0 p1 x hf
      have l5 : (wsL 5).length = 13 := rfl
      have hx13 : x.1 < 13 := by omega
      obtain ⟨f1, f2⟩ := fW_at (wsL 5) 0 x hf
      rw [Nat.sub_zero, ← chsW x.1 hx13] at f1 f2
      have lk : p1 + (chs (wdX x.1)).length ≤ 400 := by
        have hpn : p1 ≤ n := by
          by_cases z : p1 ≤ n
          · exact z
          · unfold wD at f2
            rw [Bool.and_eq_true] at f2
            cases hc : chs (wdX x.1) with
            | nil =>
              have := (by decide +kernel : ∀ k : Nat, k < 13 → 1 ≤ (chs (wdX k)).length) x.1 hx13
              rw [hc] at this
              exact absurd this (by decide)
            | cons c L =>
              rw [hc, wM, Bool.and_eq_true] at f2
              have := (of_decide_eq_true f2.1.1).1
              omega
        have := wD_le f2 hpn
        omega
      have nz : ¬ nI x.1 = 13 := fun z => by have := (nJ_eq (a := x.1) (b := 13) (by omega) (by omega)).mp z; omega
      have wb := wdX_b hx13
      have wb' : 1 ≤ wdX x.1 ∧ wdX x.1 ≤ 34 := by omega
      obtain ⟨h3, c1, c2, c3⟩ := zm_countF v1 (RF_8 (q' := p1) R1 (fr_rf _ h1) a3 (Nat.le_refl _)) (nI p1)
      have v3 := ok_fr c2 v1
      obtain ⟨y1, y2, y3, p', y4, y5⟩ := c3
      have R4 : RF (pI h3 159 18 (nI (p' + (chs (wdX x.1)).length))) u f q := ⟨by rw [gI_pI, if_neg (by omega)]; exact y1, y2, by rw [gI_pI, if_neg (by omega)]; exact y3, _, by rw [gI_pI, if_pos ⟨rfl, rfl⟩], by omega⟩
      refine ⟨_, ?_, fr_tr (Sq_w a2) (fr_tr c2 (fr_pI (Sv_t (by omega)))), R4⟩
      show M_value_61 159 (nI p1) (nI x.1) h1 = _
      rw [M_value_61_eq]
      simp only [nz, not_false_eq_true, decide_true, ↓reduceIte, m_159 v1]
      rw [bnd c1]
      simp only [m_159 v3, ↓reduceIte]
      rw [bnd (zm_wordOf hx13 h3)]
      simp only [wb', and_self, ↓reduceIte]
      rw [bnd (z_len wb' h3)]
      simp only [m_159 v3, ↓reduceIte, gS_pI, y4, nI_add]
      rw [bnd (zm_entryF (ok_pI v3 _ _ _) R4 1 _)]
end
