/-! the reference's fact -/
theorem chs_t : chs 14 = [110, 111, 116] ∧ chs 27 = [97, 110, 100] ∧ chs 28 = [111, 114] := by decide +kernel
theorem wD_sg {T : Nat → Nat} {n p x : Nat} {l : List Nat} (h : wD T n (x :: l) p = true) : sgI T n p = nI x := by
  unfold wD at h
  rw [wM, Bool.and_eq_true, Bool.and_eq_true] at h
  have h1 := of_decide_eq_true h.1.1
  rw [sgI, if_pos h1.1, h1.2]
theorem cpP_sb (T : Nat → Nat) (n p c : Nat) (E : Cd) : cpP T n (sb T n p) c E = cpP T n p c E := by
  have e : smP T n (sb T n p) c E = smP T n p c E := by unfold smP; rw [sb_sb]
  unfold cpP
  rw [e]
abbrev Fs : Type := Int32 × Nat × Nat × Nat × List Nat × Cd
def fctP (T : Nat → Nat) (n p c d : Nat) (o : List Nat) (E : Cd) : Sum Nat Fs :=
  if wD T n [110, 111, 116] (sb T n p) = true then (if d < 10 then .inr (0, sb T n p + 3, c, d + 1, 9 :: o, E) else .inl (1 + 8 * sb T n p + 2))
  else if sgI T n (sb T n p) = 91 then (if d < 10 then .inr (0, sb T n p + 1, c, d + 1, 12 :: o, E) else .inl (1 + 8 * sb T n p + 2))
  else match cpP T n p c E with
    | .inl f => .inl f
    | .inr x => .inr (1, x.1, x.2.1, d, o, x.2.2)
def rsf (h : ax_H) (w : Nat) (P : Option (Int32 × ax_H)) : Sum Nat Fs → Prop
  | .inl f => ∃ x h', P = some (x, h') ∧ fr (Sv w) h h' ∧ RF h' w f 500
  | .inr s => ∃ h', P = some (s.1, h') ∧ fr (Sv w) h h' ∧ RM h' w s.2.1 s.2.2.1 s.2.2.2.1 s.2.2.2.2.1 s.2.2.2.2.2
section
theorem zm_fact {T : Nat → Nat} {n : Nat} (hn : n ≤ 400) (tb : ∀ i, T i < 256) {h : ax_H} (v : ok h) (t : TM h T n) {w p c d : Nat} {o : List Nat} {E : Cd} (r : RM h w p c d o E) (hp : p ≤ n) (hc : c ≤ 60) (hw : w < 10) (hd : d ≤ 10) (ho : o.length ≤ 400) (hE : E.length + 2 * (60 - c) ≤ 280 ∨ E.length + (n - p) ≤ 280) : rsf h w (M_fact 159 h) (fctP T n p c d o E) := by
  obtain ⟨h1, a1, a2, a3⟩ := zm_blanks hn tb v t r.1.2.2.1 (by omega)
  have hle : sb T n p ≤ n := sb_le hp
  have hge := sb_ge T n p
  have hcp := cpP_sb T n p c E
  unfold fctP
  rw [← hcp]
  generalize sb T n p = p1 at *
  have v1 := ok_fr a2 v
  have t1 := TM_8 a2 t
  have R1 := RM_8 r a2 a3
  have st := zm_stands hn tb (x := 14) (by omega) (by omega) v1 t1 a3
  rw [chs_t.1] at st
  have sg := zm_sign hn tb v1 t1 a3 (by omega)
  have RFp : ∀ {h2 : ax_H} {f q : Nat}, RF h2 w f q → ∀ j, j ≤ 3 → q ≤ 400 → ∃ p', gI h2 159 18 = nI p' ∧ RF (pI h2 159 18 (nI (p' + j))) w f 500 := fun b3 j hj hq => by
    obtain ⟨y1, y2, y3, p', y4, y5⟩ := b3
    exact ⟨p', y4, by rw [gI_pI, if_neg (by omega)]; exact y1, y2, by rw [gI_pI, if_neg (by omega)]; exact y3, p' + j, by rw [gI_pI, if_pos ⟨rfl, rfl⟩], by omega⟩
  by_cases q : wD T n [110, 111, 116] p1 = true
  · rw [if_pos q]
    rw [q] at st
    obtain ⟨k1, k2⟩ := zm_opensD v1 R1 ho hd (by omega) (k := 9) (Or.inl rfl) (k' := 9) rfl
    have e0 : ∀ h2, M_opens 159 9 h1 = some h2 → ok h2 → M_fact 159 h = some (0, pI h2 159 18 (gI h2 159 18 + 3)) := fun h2 b1 v2 => by
      rw [M_fact_eq, if_pos (m_159 v), bnd a1, if_pos (m_159 v1), bnd st]
      show (if decide (bB true = 0) = true then _ else (if (gS h1 159).1 = 11 then (M_opens 159 9 h1).bind (fun h7 => if (gS h7 159).1 = 11 then if (gS h7 159).1 = 11 then some ((0 : Int32), pI h7 159 18 (gI h7 159 18 + 3)) else none else none) else none)) = _
      rw [if_neg (by decide), if_pos (m_159 v1), bnd b1, if_pos (m_159 v2), if_pos (m_159 v2)]
    by_cases q2 : d < 10
    · rw [if_pos q2]
      obtain ⟨h2, b1, b2, b3⟩ := k1 q2
      have v2 := ok_fr b2 v1
      refine ⟨pI h2 159 18 (nI (p1 + 3)), ?_, fr_tr (Sq_w a2) (fr_tr b2 (fr_pI (Sv_t (by omega)))), RM_p b3 (p1 + 3)⟩
      rw [e0 h2 b1 v2, b3.1.2.2.1, show (3 : Int32) = nI 3 from rfl, nI_add]
    · rw [if_neg q2]
      obtain ⟨h2, b1, b2, b3⟩ := k2 q2
      have v2 := ok_fr b2 v1
      obtain ⟨p', y4, y5⟩ := RFp b3 3 (by omega) (by omega)
      refine ⟨0, pI h2 159 18 (nI (p' + 3)), ?_, fr_tr (Sq_w a2) (fr_tr b2 (fr_pI (Sv_t (by omega)))), y5⟩
      rw [e0 h2 b1 v2, y4, show (3 : Int32) = nI 3 from rfl, nI_add]
  · rw [if_neg q]
    rw [show wD T n [110, 111, 116] p1 = false by cases hx : wD T n [110, 111, 116] p1 with | false => rfl | true => exact absurd hx q] at st
    by_cases q91 : sgI T n p1 = 91
    · rw [if_pos q91]
      obtain ⟨k1, k2⟩ := zm_opensD v1 R1 ho hd (by omega) (k := 12) (Or.inr rfl) (k' := 12) rfl
      have e0 : ∀ h2, M_opens 159 12 h1 = some h2 → ok h2 → M_fact 159 h = some (0, pI h2 159 18 (gI h2 159 18 + 1)) := fun h2 b1 v2 => by
        rw [M_fact_eq, if_pos (m_159 v), bnd a1, if_pos (m_159 v1), bnd st]
        show (if decide (bB false = 0) = true then (if (gS h1 159).1 = 11 then (M_sign 159 h1).bind (fun r3 => if decide (¬ r3.1 = 91) = true then _ else (if (gS r3.2 159).1 = 11 then (M_opens 159 12 r3.2).bind (fun h5 => if (gS h5 159).1 = 11 then if (gS h5 159).1 = 11 then some ((0 : Int32), pI h5 159 18 (gI h5 159 18 + 1)) else none else none) else none)) else none) else _) = _
        rw [if_pos (by decide), if_pos (m_159 v1), bnd sg]
        show (if decide (¬ sgI T n p1 = 91) = true then _ else (if (gS h1 159).1 = 11 then (M_opens 159 12 h1).bind (fun h5 => if (gS h5 159).1 = 11 then if (gS h5 159).1 = 11 then some ((0 : Int32), pI h5 159 18 (gI h5 159 18 + 1)) else none else none) else none)) = _
        rw [if_neg (by rw [decide_eq_true_eq]; exact fun z => z q91), if_pos (m_159 v1), bnd b1, if_pos (m_159 v2), if_pos (m_159 v2)]
      by_cases q2 : d < 10
      · rw [if_pos q2]
        obtain ⟨h2, b1, b2, b3⟩ := k1 q2
        have v2 := ok_fr b2 v1
        refine ⟨pI h2 159 18 (nI (p1 + 1)), ?_, fr_tr (Sq_w a2) (fr_tr b2 (fr_pI (Sv_t (by omega)))), RM_p b3 (p1 + 1)⟩
        rw [e0 h2 b1 v2, b3.1.2.2.1, nJ_p1]
      · rw [if_neg q2]
        obtain ⟨h2, b1, b2, b3⟩ := k2 q2
        have v2 := ok_fr b2 v1
        obtain ⟨p', y4, y5⟩ := RFp b3 1 (by omega) (by omega)
        refine ⟨0, pI h2 159 18 (nI (p' + 1)), ?_, fr_tr (Sq_w a2) (fr_tr b2 (fr_pI (Sv_t (by omega)))), y5⟩
        rw [e0 h2 b1 v2, y4, nJ_p1]
    · rw [if_neg q91]
      have cp := zm_compared hn tb v1 t1 R1 hle hc hw (by omega)
      have e0 : ∀ h2, M_compared 159 h1 = some h2 → M_fact 159 h = some (1, h2) := fun h2 b1 => by
        rw [M_fact_eq, if_pos (m_159 v), bnd a1, if_pos (m_159 v1), bnd st]
        show (if decide (bB false = 0) = true then (if (gS h1 159).1 = 11 then (M_sign 159 h1).bind (fun r3 => if decide (¬ r3.1 = 91) = true then (if (gS r3.2 159).1 = 11 then (M_compared 159 r3.2).bind (fun h4 => some ((1 : Int32), h4)) else none) else _) else none) else _) = _
        rw [if_pos (by decide), if_pos (m_159 v1), bnd sg]
        show (if decide (¬ sgI T n p1 = 91) = true then (if (gS h1 159).1 = 11 then (M_compared 159 h1).bind (fun h4 => some ((1 : Int32), h4)) else none) else _) = _
        rw [if_pos (decide_eq_true q91), if_pos (m_159 v1), bnd b1]
      cases hx : cpP T n p1 c E with
      | inl f =>
        rw [hx] at cp
        obtain ⟨h2, b1, b2, b3⟩ := cp
        exact ⟨1, h2, e0 h2 b1, fr_tr (Sq_w a2) b2, b3⟩
      | inr x =>
        rw [hx] at cp
        obtain ⟨h2, b1, b2, b3⟩ := cp
        exact ⟨h2, e0 h2 b1, fr_tr (Sq_w a2) b2, b3⟩
end
theorem zm_t9F {h : ax_H} (v : ok h) {u f q : Nat} (r : RF h u f q) (x y : Int32) : M_test_9 159 x y h = some h := by
  have nz : ¬ nI f = 0 := fun z => by have := (nJ_eq (a := f) (b := 0) (by have := r.2.1; omega) (by omega)).mp z; have := r.2.1; omega
  rw [M_test_9_eq]
  by_cases z : y = 0
  · rw [if_pos (decide_eq_true z)]
  · rw [if_neg (by rw [decide_eq_true_eq]; exact z), if_pos (m_159 v), r.1, if_pos (decide_eq_true nz)]
theorem MI_B {n p0 c0 st p c d : Nat} {W : List Nat} {F : Cd} (m : MI n p0 c0 st p c d W F) (h : st = 0 ∨ st = 5) : shp 0 W := by
  obtain ⟨-, -, -, -, ⟨ts, ⟨B, hB, m5⟩, -⟩, -⟩ := m
  rcases m5 with ⟨e, rfl, -⟩ | ⟨e, rfl, -⟩ | ⟨e, -⟩ | ⟨e, -⟩ | ⟨e, -⟩ | ⟨e, -⟩ | ⟨e, -⟩ | ⟨e, -⟩ | ⟨e, -⟩ | ⟨e, -⟩
  case inl => exact hB
  case inr.inl => exact hB
  all_goals
    rcases h with h | h
    · exact absurd (e.symm.trans h) (by decide)
    · exact absurd (e.symm.trans h) (by decide)
def rst (h : ax_H) (w : Nat) (E0 : Cd) (P : Option ax_H) : Sum Nat Ms → Prop
  | .inl f => ∃ h', P = some h' ∧ fr (Sv w) h h' ∧ RF h' w f 510
  | .inr s => ∃ h', P = some h' ∧ fr (Sv w) h h' ∧ RM h' w s.2.1 s.2.2.1 s.2.2.2.1 s.2.2.2.2.1 (s.2.2.2.2.2 ++ E0)
theorem rst_x {h h1 : ax_H} {w : Nat} {E0 : Cd} {P : Option ax_H} {x : Sum Nat Ms} (q : fr (Sv w) h h1) (p : rst h1 w E0 P x) : rst h w E0 P x := by
  cases x with
  | inl f =>
    obtain ⟨h', a, b, c⟩ := p
    exact ⟨h', a, fr_tr q b, c⟩
  | inr s =>
    obtain ⟨h', a, b, c⟩ := p
    exact ⟨h', a, fr_tr q b, c⟩
def t9Q (T : Nat → Nat) (n : Nat) (E0 : Cd) (w k : Nat) (s : Ms) (h : ax_H) : Prop :=
  (s.1 = 0 → RM h w s.2.1 s.2.2.1 s.2.2.2.1 s.2.2.2.2.1 (s.2.2.2.2.2 ++ E0) → rst h w E0 (M_test_9 159 1 1 h) (rnM T n k s)) ∧
  ((s.1 = 4 ∨ s.1 = 5) → ∀ (p' : Nat) (B : List Nat) (F1 : Cd), sb T n p' = sb T n s.2.1 → p' ≤ n → shp 0 B → dpW B = s.2.2.2.1 → (∀ op, 8 ≤ op → bdW op s.2.2.2.2.1 s.2.2.2.2.2 s.2.2.2.1 = bdW op B F1 s.2.2.2.1) → (s.1 = 4 → ¬ (sgI T n (sb T n s.2.1) = 43 ∨ sgI T n (sb T n s.2.1) = 45)) → RM h w p' s.2.2.1 s.2.2.2.1 B (F1 ++ E0) → rst h w E0 (M_test_9 159 0 1 h) (rnM T n k s))
section
theorem zm_t9_0 {T : Nat → Nat} {n : Nat} (hn : n ≤ 400) (tb : ∀ i, T i < 256) {p0 c0 : Nat} {E0 : Cd} (hE : 2 * E0.length + 2 ≤ p0 + 2 * c0) {w : Nat} (hw : w < 10) {k p c d : Nat} {B : List Nat} {F : Cd} (ih : ∀ k s h, p < s.2.1 → n + 1 ≤ s.2.1 + k → MIs n p0 c0 s → ok h → TM h T n → t9Q T n E0 w k s h) (m : MI n p0 c0 0 p c d B F) (hk : n + 1 ≤ p + k) {h : ax_H} (v : ok h) (t : TM h T n) (r : RM h w p c d B (F ++ E0)) : rst h w E0 (M_test_9 159 1 1 h) (rnM T n k (0, p, c, d, B, F)) := by
  have hB := MI_B m (Or.inl rfl)
  have rm := (MI_E0 (E0 := E0) hn hE m).1
  have m' := m
  obtain ⟨m1, m2, m3, m4, -, m6, m7⟩ := m
  have bl : (F ++ E0).length + 2 * (60 - c) ≤ 280 ∨ (F ++ E0).length + (n - p) ≤ 280 := by rw [List.length_append]; omega
  have ho : B.length ≤ 400 := by have := rm.2.2.2.2.2.1; omega
  have ft := zm_fact hn tb v t r m1 m2 hw m3 ho bl
  have e0 : ∀ x h1, M_fact 159 h = some (x, h1) → M_test_9 159 1 1 h = if decide (¬ x = 0) = true then M_test_9 159 0 1 h1 else M_test_9 159 1 1 h1 := fun x h1 a => by
    rw [M_test_9_eq 159 1 1 h, if_neg (by decide), if_pos (m_159 v), r.1.1, if_neg (by decide), if_neg (by decide), if_pos (m_159 v), bnd a] <;> rfl
  have eF : ∀ x h1 f, M_fact 159 h = some (x, h1) → ok h1 → RF h1 w f 500 → M_test_9 159 1 1 h = some h1 := fun x h1 f a v1 rf => by
    rw [e0 x h1 a]
    by_cases z : x = 0
    · rw [if_neg (by rw [decide_eq_true_eq]; exact fun y => y z)]; exact zm_t9F v1 rf 1 1
    · rw [if_pos (decide_eq_true z)]; exact zm_t9F v1 rf 0 1
  have bad : ∀ f, rsf h w (M_fact 159 h) (.inl f) → rst h w E0 (M_test_9 159 1 1 h) (.inl f) := fun f z => by
    obtain ⟨x, h1, a1, a2, a3⟩ := z
    exact ⟨h1, eF x h1 f a1 (ok_fr a2 v) a3, a2, RF_mono (by omega) a3⟩
  unfold fctP at ft
  by_cases q : wD T n [110, 111, 116] (sb T n p) = true
  · rw [if_pos q] at ft
    have s91 : ¬ sgI T n (sb T n p) = 91 := by rw [wD_sg q]; decide
    have tn : tnM T n 0 p c d B F = if d < 10 then .inr (0, sb T n p + 3, c, d + 1, 9 :: B, F) else .inl (1 + 8 * sb T n p + 2) := by
      unfold tnM
      rw [if_pos (Or.inl rfl)]
      unfold opD
      rw [if_neg (fun z => s91 z.2), if_pos ⟨rfl, q⟩]
    by_cases q2 : d < 10
    · rw [if_pos q2] at ft tn
      obtain ⟨h1, a1, a2, a3⟩ := ft
      obtain ⟨k1, u⟩ := rch_1 m' (by decide) hk tn (show ¬ (0 : Nat) = 6 by decide)
      have ih1 := (ih k1 (0, sb T n p + 3, c, d + 1, 9 :: B, F) h1 u.2.2.2 u.2.2.1 u.2.1 (ok_fr a2 v) (TM_w a2 t)).1 rfl a3
      rw [e0 0 h1 a1, if_neg (by decide), u.1]
      exact rst_x a2 ih1
    · rw [if_neg q2] at ft tn
      rw [rch_l m' (by decide) hk tn]
      exact bad _ ft
  · rw [if_neg q] at ft
    by_cases q1 : sgI T n (sb T n p) = 91
    · rw [if_pos q1] at ft
      have tn : tnM T n 0 p c d B F = if d < 10 then .inr (0, sb T n p + 1, c, d + 1, 12 :: B, F) else .inl (1 + 8 * sb T n p + 2) := by
        unfold tnM
        rw [if_pos (Or.inl rfl)]
        unfold opD
        rw [if_pos ⟨rfl, q1⟩]
      by_cases q2 : d < 10
      · rw [if_pos q2] at ft tn
        obtain ⟨h1, a1, a2, a3⟩ := ft
        obtain ⟨k1, u⟩ := rch_1 m' (by decide) hk tn (show ¬ (0 : Nat) = 6 by decide)
        have ih1 := (ih k1 (0, sb T n p + 1, c, d + 1, 12 :: B, F) h1 u.2.2.2 u.2.2.1 u.2.1 (ok_fr a2 v) (TM_w a2 t)).1 rfl a3
        rw [e0 0 h1 a1, if_neg (by decide), u.1]
        exact rst_x a2 ih1
      · rw [if_neg q2] at ft tn
        rw [rch_l m' (by decide) hk tn]
        exact bad _ ft
    · rw [if_neg q1] at ft
      obtain ⟨c1, c2⟩ := cp_run hB E0 m' hk q1 q
      cases hx : cpP T n p c (F ++ E0) with
      | inl f =>
        rw [hx] at ft
        rw [c1 f hx]
        exact bad f ft
      | inr x =>
        rw [hx] at ft
        obtain ⟨k1, p1, W1, F1, F2, u, u1, u2, u3, u4⟩ := c2 x hx
        obtain ⟨h1, a1, a2, a3⟩ := ft
        have a3' : RM h1 w x.1 x.2.1 d B x.2.2 := a3
        rw [u4] at a3'
        have hp1 : p1 ≤ n := u.2.1.1
        have ih1 := (ih k1 (4, p1, x.2.1, d, W1, F1) h1 u.2.2.2 u.2.2.1 u.2.1 (ok_fr a2 v) (TM_w a2 t)).2 (Or.inl rfl) x.1 B F2 (by rw [← u1]; exact sb_sb T n p1) (by rw [← u1]; exact sb_le hp1) hB m4 u3 (fun _ => by show ¬ (sgI T n (sb T n p1) = 43 ∨ sgI T n (sb T n p1) = 45); rw [u1]; exact u2) a3'
        have a1' : M_fact 159 h = some (1, h1) := a1
        rw [e0 1 h1 a1', if_pos (by decide), u.1]
        exact rst_x a2 ih1
end
