/-! the reference's test: behind a fact; the loop -/
theorem t9_n {h h1 h2 h5 : ax_H} (v : ok h) (v1 : ok h1) (v2 : ok h2) (h0 : gI h 159 19 = 0) (a1 : M_answers 159 9 h = some h1) (a2 : M_blanks 159 h1 = some h2) {x y : Int32} (a3 : M_stands 159 27 h2 = some (x, h2)) (a4 : M_stands 159 28 h2 = some (y, h2)) (a5 : M_answers 159 10 h2 = some h5) : M_test_9 159 0 1 h = if decide (¬ x = 0) = true then M_test_82 159 1 x y h5 else (if decide (y = 0) = true then (if (gS h5 159).1 = 11 then (M_answers 159 11 h5).bind (fun h6 => if (gS h6 159).1 = 11 then (M_top 159 h6).bind (fun r7 => if decide (¬ r7.1 = 12) = true then M_test_9 159 0 0 r7.2 else (if (gS r7.2 159).1 = 11 then (M_sign 159 r7.2).bind (fun r8 => if decide (r8.1 = 93) = true then M_test_164 159 0 1 r8.2 else (if (gS r8.2 159).1 = 11 then if (gS r8.2 159).1 = 11 then (M_fails 159 0 (gI r8.2 159 18) r8.2).bind (fun h9 => M_test_164 159 0 1 h9) else none else none)) else none)) else none) else none) else M_test_82 159 1 x y h5) := by
  rw [M_test_9_eq 159 0 1 h, if_neg (by decide), if_pos (m_159 v), h0, if_neg (by decide), if_pos (by decide), if_pos (m_159 v), bnd a1, if_pos (m_159 v1), bnd a2, if_pos (m_159 v2), bnd a3]
  show (if (gS h2 159).1 = 11 then (M_stands 159 28 h2).bind _ else none) = _
  rw [if_pos (m_159 v2), bnd a4]
  show (if (gS h2 159).1 = 11 then (M_answers 159 10 h2).bind _ else none) = _
  rw [if_pos (m_159 v2), bnd a5] <;> rfl
theorem t105 {h5 h6 : ax_H} (v5 : ok h5) (v6 : ok h6) {k x : Int32} (b1 : M_opens 159 k h5 = some h6) : M_test_105 k 159 159 1 x h5 = if decide (x = 0) = true then M_test_9 159 1 1 (pI h6 159 18 (gI h6 159 18 + 2)) else M_test_9 159 1 1 (pI h6 159 18 (gI h6 159 18 + 3)) := by
  rw [M_test_105_eq, if_pos (m_159 v5), bnd b1]
  simp only [m_159 v6, ↓reduceIte]
theorem t164 {h : ax_H} (v : ok h) {p : Nat} (g18 : gI h 159 18 = nI p) : M_test_164 159 0 1 h = M_test_9 159 0 1 (pI (pI (pI h 159 18 (nI (p + 1))) 159 24 (gI h 159 24 - 1)) 159 22 (gI h 159 22 - 1)) := by
  have e24 : gI (pI h 159 18 (nI (p + 1))) 159 24 = gI h 159 24 := by rw [gI_pI, if_neg (by omega)]
  have e22 : gI (pI (pI h 159 18 (nI (p + 1))) 159 24 (gI h 159 24 - 1)) 159 22 = gI h 159 22 := by rw [gI_pI, if_neg (by omega), gI_pI, if_neg (by omega)]
  rw [M_test_164_eq]
  simp only [m_159 v, ↓reduceIte, gS_pI, g18, nJ_p1, e24, e22]
section
theorem zm_t9_4 {T : Nat → Nat} {n : Nat} (hn : n ≤ 400) (tb : ∀ i, T i < 256) {p0 c0 : Nat} {E0 : Cd} (hE : 2 * E0.length + 2 ≤ p0 + 2 * c0) {w : Nat} (hw : w < 10) {k st p c d : Nat} {W : List Nat} {F : Cd} (ih : ∀ k s h, p < s.2.1 → n + 1 ≤ s.2.1 + k → MIs n p0 c0 s → ok h → TM h T n → t9Q T n E0 w k s h) (m : MI n p0 c0 st p c d W F) (h45 : st = 4 ∨ st = 5) (hk : n + 1 ≤ p + k) {h : ax_H} (v : ok h) (t : TM h T n) {p' : Nat} {B : List Nat} {F1 : Cd} (hsb : sb T n p' = sb T n p) (hp' : p' ≤ n) (hB : shp 0 B) (hdB : dpW B = d) (hbd : ∀ op, 8 ≤ op → bdW op W F d = bdW op B F1 d) (hsg : st = 4 → ¬ (sgI T n (sb T n p) = 43 ∨ sgI T n (sb T n p) = 45)) (r : RM h w p' c d B (F1 ++ E0)) : rst h w E0 (M_test_9 159 0 1 h) (rnM T n k (st, p, c, d, W, F)) := by
  have m' := m
  have rm := (MI_E0 (E0 := E0) hn hE m).1
  obtain ⟨m1, m2, m3, m4, -, m6, m7⟩ := m
  have hnb : nbW B + F1.length = nbW W + F.length := by
    have a := bd_nb (op := 11) (by omega) W F d
    have b := bd_nb (op := 11) (by omega) B F1 d
    rw [hbd 11 (by omega)] at a
    omega
  have hx := shp_le B 0 hB
  have l1 : B.length ≤ 32 := by have := shp_len B 0 (by omega) hB; omega
  have hX : (F1 ++ E0).length ≤ 260 := by rw [List.length_append]; omega
  have cv : ∀ op, 8 ≤ op → bdW op B (F1 ++ E0) d = ((bdW op W F d).1, (bdW op W F d).2.1 ++ E0, (bdW op W F d).2.2) := fun op hop => by rw [bd_app, hbd op hop]
  obtain ⟨h1, a1, a2, a3⟩ := zm_answers (k := 9) (Or.inl rfl) hw v r (by omega) (fun x hx' => by have := hx x hx'; omega) (by omega) (by omega) (by omega) (k' := 9) rfl
  rw [an_9 B (F1 ++ E0) d (fun x hx' => (hx x hx').1)] at a3
  have v1 := ok_fr a2 v
  have t1 := TM_w a2 t
  obtain ⟨c1, c2, c3, c4, c5, c6⟩ := bd_b 9 B (F1 ++ E0) d (by omega)
  have s9 := shp_9 B (F1 ++ E0) d hB
  have b910 := bd_bd (show 9 ≤ 10 by omega) B (F1 ++ E0) d
  have b1011 := bd_bd (show 10 ≤ 11 by omega) B (F1 ++ E0) d
  obtain ⟨x1, x2⟩ := an_10 (bdW 9 B (F1 ++ E0) d).2.1 (bdW 9 B (F1 ++ E0) d).2.2 s9 c6
  rw [b910] at x1 x2
  obtain ⟨h2, d1, d2, d3⟩ := zm_blanks hn tb v1 t1 a3.1.2.2.1 (by omega)
  rw [hsb] at d3
  have v2 := ok_fr d2 v1
  have t2 := TM_8 d2 t1
  have R2 := RM_8 a3 d2 d3
  have hp1 : sb T n p ≤ n := sb_le m1
  have hge := sb_ge T n p
  have tn : tnM T n st p c d W F = if wD T n [97, 110, 100] (sb T n p) = true then .inr (0, sb T n p + 3, c, (bdW 10 W F d).2.2, 10 :: (bdW 10 W F d).1, (bdW 10 W F d).2.1) else if wD T n [111, 114] (sb T n p) = true then .inr (0, sb T n p + 2, c, (bdW 11 W F d).2.2, 11 :: (bdW 11 W F d).1, (bdW 11 W F d).2.1) else clP T n (sb T n p) c (bdW 11 W F d) := by
    unfold tnM
    rw [if_neg (by omega)]
    unfold opR
    rw [if_neg (fun z => by
      rcases h45 with y | y
      · exact hsg y z.2
      · exact z.1 y), if_neg (show ¬ st = 2 by omega)]
  generalize sb T n p = p1 at *
  have st1 := zm_stands hn tb (x := 27) (by omega) (by omega) v2 t2 d3
  have st2 := zm_stands hn tb (x := 28) (by omega) (by omega) v2 t2 d3
  rw [chs_t.2.1] at st1
  rw [chs_t.2.2] at st2
  obtain ⟨h5, f1, f2, f3⟩ := zm_answers (k := 10) (Or.inr (Or.inl rfl)) hw v2 R2 (by omega) (fun x hx' => by have := hx x (c3 x hx'); omega) (by omega) (by omega) (by omega) (k' := 10) rfl
  rw [x1] at f3
  have v5 := ok_fr f2 v2
  have F5 : fr (Sv w) h h5 := fr_tr a2 (fr_tr (Sq_w d2) f2)
  have t5 := TM_w F5 t
  obtain ⟨g1, g2, g3, g4, g5, g6⟩ := bd_b 10 B (F1 ++ E0) d (by omega)
  have e9 := t9_n v v1 v2 r.1.1 a1 d1 st1 st2 f1
  have ans : ∃ h6, M_answers 159 11 h5 = some h6 ∧ fr (Sv w) h5 h6 ∧ RM h6 w p1 c (bdW 11 W F d).2.2 (bdW 11 W F d).1 ((bdW 11 W F d).2.1 ++ E0) := by
    obtain ⟨h6, y1, y2, y3⟩ := zm_answers (k := 11) (Or.inr (Or.inr rfl)) hw v5 f3 (by omega) (fun x hx' => by have := hx x (g3 x hx'); omega) (by omega) (by omega) (by omega) (k' := 11) rfl
    rw [an_11 _ _ x2, b1011, cv 11 (by omega)] at y3
    exact ⟨h6, y1, y2, y3⟩
  rw [cv 10 (by omega)] at f3
  have f3' : RM h5 w p1 c (bdW 10 W F d).2.2 (bdW 10 W F d).1 ((bdW 10 W F d).2.1 ++ E0) := f3
  have l10 : (bdW 10 W F d).1.length ≤ 400 := by have := (bd_b 10 W F d (by omega)).2.1; have := rm.2.2.2.2.2.1; omega
  have l11 : (bdW 11 W F d).1.length ≤ 400 := by have := (bd_b 11 W F d (by omega)).2.1; have := rm.2.2.2.2.2.1; omega
  by_cases qa : wD T n [97, 110, 100] p1 = true
  · have qo : wD T n [111, 114] p1 = false := by
      cases hq : wD T n [111, 114] p1 with
      | false => rfl
      | true => exact absurd ((wD_sg qa).symm.trans (wD_sg hq)) (by decide)
    rw [qa, qo] at e9
    rw [if_pos qa] at tn
    obtain ⟨k1, u⟩ := rch_1 m' (by omega) hk tn (show ¬ (0 : Nat) = 6 by decide)
    obtain ⟨h6, o1, o2, o3⟩ := zm_opensA v5 f3' l10 (k := 10) (Or.inl rfl) (k' := 10) rfl
    have v6 := ok_fr o2 v5
    have R7 := RM_p o3 (p1 + 3)
    have F7 : fr (Sv w) h (pI h6 159 18 (nI (p1 + 3))) := fr_tr F5 (fr_tr o2 (fr_pI (Sv_t (by omega))))
    have ih1 := (ih k1 _ (pI h6 159 18 (nI (p1 + 3))) u.2.2.2 u.2.2.1 u.2.1 (ok_pI v6 _ _ _) (TM_w F7 t)).1 rfl R7
    have e1 : M_test_9 159 0 1 h = M_test_9 159 1 1 (pI h6 159 18 (nI (p1 + 3))) := by
      rw [e9, if_pos (by decide), M_test_82_eq, if_pos (by decide), if_neg (by decide), t105 v5 v6 o1, if_neg (by decide), o3.1.2.2.1, show (3 : Int32) = nI 3 from rfl, nI_add]
    rw [e1, u.1]
    exact rst_x F7 ih1
  · have qa' : wD T n [97, 110, 100] p1 = false := by
      cases hq : wD T n [97, 110, 100] p1 with
      | false => rfl
      | true => exact absurd hq qa
    rw [qa'] at e9
    rw [if_neg qa] at tn
    obtain ⟨h6, y1, y2, y3⟩ := ans
    have v6 := ok_fr y2 v5
    have F6 : fr (Sv w) h h6 := fr_tr F5 y2
    by_cases qo : wD T n [111, 114] p1 = true
    · rw [qo] at e9
      rw [if_pos qo] at tn
      obtain ⟨k1, u⟩ := rch_1 m' (by omega) hk tn (show ¬ (0 : Nat) = 6 by decide)
      obtain ⟨h7, o1, o2, o3⟩ := zm_opensA v6 y3 l11 (k := 11) (Or.inr rfl) (k' := 11) rfl
      have v7 := ok_fr o2 v6
      have R7 := RM_p o3 (p1 + 2)
      have F7 : fr (Sv w) h (pI h7 159 18 (nI (p1 + 2))) := fr_tr F6 (fr_tr o2 (fr_pI (Sv_t (by omega))))
      have ih1 := (ih k1 _ (pI h7 159 18 (nI (p1 + 2))) u.2.2.2 u.2.2.1 u.2.1 (ok_pI v7 _ _ _) (TM_w F7 t)).1 rfl R7
      have e1 : M_test_9 159 0 1 h = M_test_9 159 1 1 (pI h7 159 18 (nI (p1 + 2))) := by
        rw [e9, if_neg (by decide), if_neg (by decide), M_test_82_eq, if_neg (by decide), if_pos (m_159 v5), bnd y1, if_pos (by decide), t105 v6 v7 o1, if_pos (by decide), o3.1.2.2.1, show (2 : Int32) = nI 2 from rfl, nI_add]
      rw [e1, u.1]
      exact rst_x F7 ih1
    · have qo' : wD T n [111, 114] p1 = false := by
        cases hq : wD T n [111, 114] p1 with
        | false => rfl
        | true => exact absurd hq qo
      rw [qo'] at e9
      rw [if_neg qo] at tn
      obtain ⟨w1, w2, w3, w4, w5, w6⟩ := bd_b 11 W F d (by omega)
      have wd := bd_d (op := 11) (by omega) W F d m4
      have hx12 : ∀ x ∈ (bdW 11 W F d).1, x ≤ 12 := fun x hx' => rm.2.2.2.2.1 x (w3 x hx')
      have tp := zm_top v6 y3 l11
      have t6 := TM_w F6 t
      have sg := zm_sign hn tb v6 t6 y3.1.2.2.1 (by omega)
      generalize bdW 11 W F d = b at *
      obtain ⟨W', E', d'⟩ := b
      have e10 : M_test_9 159 0 1 h = if decide (¬ tpI W' = 12) = true then M_test_9 159 0 0 h6 else (if decide (sgI T n p1 = 93) = true then M_test_164 159 0 1 h6 else (M_fails 159 0 (gI h6 159 18) h6).bind (fun h9 => M_test_164 159 0 1 h9)) := by
        rw [e9, if_neg (by decide), if_pos (by decide), if_pos (m_159 v5), bnd y1, if_pos (m_159 v6), bnd tp]
        by_cases z : tpI W' = 12
        · have z' : ¬ decide (¬ tpI W' = 12) = true := by rw [decide_eq_true_eq]; exact fun y => y z
          refine (if_neg z').trans (Eq.trans ?_ (if_neg z').symm)
          show (if (gS h6 159).1 = 11 then (M_sign 159 h6).bind _ else none) = _
          rw [if_pos (m_159 v6), bnd sg]
          simp only [m_159 v6, ↓reduceIte]
        · exact (if_pos (decide_eq_true z)).trans (if_pos (decide_eq_true z)).symm
      have y3' : RM h6 w p1 c d' W' (E' ++ E0) := y3
      cases W' with
      | nil =>
        have tn' : tnM T n st p c d W F = .inr (6, p1, c, d', [], E') := tn
        have e11 : rnM T n k (st, p, c, d, W, F) = .inr (6, p1, c, d', [], E') := by
          cases k with
          | zero => omega
          | succ k => rw [rn_r (s := (st, p, c, d, W, F)) (show ¬ st = 6 by omega) tn', rn_6 T n k rfl]
        rw [e11]
        refine ⟨h6, ?_, F6, y3'⟩
        rw [e10, if_pos (by decide), M_test_9_eq, if_pos (by decide)]
      | cons x W' =>
        have x12 : x = 12 := by
          have q1 := w6 x W' rfl
          have q2 := hx12 x List.mem_cons_self
          omega
        have dd : dpW (x :: W') = d' := wd
        rw [dpW, if_pos (Or.inr x12)] at dd
        have tp12 : tpI (x :: W') = 12 := by rw [x12]; rfl
        rw [if_neg (by rw [decide_eq_true_eq]; exact fun y => y tp12)] at e10
        have g18 : gI h6 159 18 = nI p1 := y3'.1.2.2.1
        by_cases q93 : sgI T n p1 = 93
        · have tn' : tnM T n st p c d W F = .inr (5, p1 + 1, c, d' - 1, W', E') := tn.trans (if_pos q93)
          obtain ⟨k1, u⟩ := rch_1 m' (by omega) hk tn' (show ¬ (5 : Nat) = 6 by decide)
          have mi5 : MI n p0 c0 5 (p1 + 1) c (d' - 1) W' E' := u.2.1
          have g24 : gI h6 159 24 - 1 = nI W'.length := by
            have : gI h6 159 24 = nI (W'.length + 1) := y3'.1.2.2.2.2.2.1
            rw [this, show (1 : Int32) = nI 1 from rfl, nI_sb (by omega), Nat.add_sub_cancel]
          have g22 : gI h6 159 22 - 1 = nI (d' - 1) := by
            have : gI h6 159 22 = nI d' := y3'.1.2.2.2.2.1
            rw [this, show (1 : Int32) = nI 1 from rfl, nI_sb (by omega)]
          have R9 : RM (pI (pI (pI h6 159 18 (nI (p1 + 1))) 159 24 (nI W'.length)) 159 22 (nI (d' - 1))) w (p1 + 1) c (d' - 1) W' (E' ++ E0) := RM_d (RM_pop (RM_p y3' (p1 + 1))) (d' - 1)
          have F9 : fr (Sv w) h (pI (pI (pI h6 159 18 (nI (p1 + 1))) 159 24 (nI W'.length)) 159 22 (nI (d' - 1))) := fr_tr F6 (fr_tr (fr_tr (fr_pI (Sv_t (by omega))) (fr_pI (Sv_t (by omega)))) (fr_pI (Sv_t (by omega))))
          have ih1 := (ih k1 (5, p1 + 1, c, d' - 1, W', E') _ u.2.2.2 u.2.2.1 u.2.1 (ok_fr F9 v) (TM_w F9 t)).2 (Or.inr rfl) (p1 + 1) W' E' rfl mi5.1 (MI_B mi5 (Or.inr rfl)) mi5.2.2.2.1 (fun _ _ => rfl) (fun z => absurd (show (5 : Nat) = 4 from z) (by decide)) R9
          rw [e10, if_pos (decide_eq_true q93), t164 v6 g18, g24, g22, u.1]
          exact rst_x F9 ih1
        · have tn' : tnM T n st p c d W F = .inl (1 + 8 * p1 + 0) := tn.trans (if_neg q93)
          rw [rch_l m' (by omega) hk tn']
          have v7 : ok (pI h6 159 19 (nI (1 + 8 * p1 + 0))) := ok_pI v6 _ _ _
          obtain ⟨z1, z2, z3, p2, z4, z5⟩ := RF_of y3' (f := 1 + 8 * p1 + 0) (Nat.le_refl p1) (by omega)
          rw [e10, if_neg (by rw [decide_eq_true_eq]; exact q93), g18, bnd (zm_failsG v6 y3'.1.1 p1 0 (c' := 0) rfl), t164 v7 z4]
          generalize gI (pI h6 159 19 (nI (1 + 8 * p1 + 0))) 159 24 - 1 = u1
          generalize gI (pI h6 159 19 (nI (1 + 8 * p1 + 0))) 159 22 - 1 = u2
          have RF9 : RF (pI (pI (pI (pI h6 159 19 (nI (1 + 8 * p1 + 0))) 159 18 (nI (p2 + 1))) 159 24 u1) 159 22 u2) w (1 + 8 * p1 + 0) 510 := ⟨by rw [gI_pI, if_neg (by omega), gI_pI, if_neg (by omega), gI_pI, if_neg (by omega)]; exact z1, z2, by rw [gI_pI, if_neg (by omega), gI_pI, if_neg (by omega), gI_pI, if_neg (by omega)]; exact z3, p2 + 1, by rw [gI_pI, if_neg (by omega), gI_pI, if_neg (by omega), gI_pI, if_pos ⟨rfl, rfl⟩], by omega⟩
          exact ⟨_, zm_t9F (ok_pI (ok_pI (ok_pI v7 _ _ _) _ _ _) _ _ _) RF9 0 1, fr_tr F6 (fr_tr (fr_pI (Sv_t (by omega))) (fr_tr (fr_tr (fr_pI (Sv_t (by omega))) (fr_pI (Sv_t (by omega)))) (fr_pI (Sv_t (by omega))))), RF9⟩
theorem zm_t9 {T : Nat → Nat} {n : Nat} (hn : n ≤ 400) (tb : ∀ i, T i < 256) {p0 c0 : Nat} {E0 : Cd} (hE : 2 * E0.length + 2 ≤ p0 + 2 * c0) {w : Nat} (hw : w < 10) : ∀ (j k : Nat) (s : Ms) (h : ax_H), n + 1 ≤ s.2.1 + j → n + 1 ≤ s.2.1 + k → MIs n p0 c0 s → ok h → TM h T n → t9Q T n E0 w k s h := by
  intro j
  induction j with
  | zero =>
    intro k s h hj hk m v t
    have : s.2.1 ≤ n := m.1
    omega
  | succ j ih =>
    intro k s h hj hk m v t
    obtain ⟨st, p, c, d, W, F⟩ := s
    have hj' : n + 1 ≤ p + (j + 1) := hj
    have ih' : ∀ k s h, p < s.2.1 → n + 1 ≤ s.2.1 + k → MIs n p0 c0 s → ok h → TM h T n → t9Q T n E0 w k s h := fun k s h hp => ih k s h (by omega)
    refine ⟨fun h0 r => ?_, fun h45 p' B F1 hsb hp' hB hdB hbd hsg r => ?_⟩
    · have h0' : st = 0 := h0
      subst h0'
      exact zm_t9_0 hn tb hE hw ih' m hk v t r
    · exact zm_t9_4 hn tb hE hw ih' m h45 hk v t hsb hp' hB hdB hbd hsg r
theorem zm_test {T : Nat → Nat} {n : Nat} (hn : n ≤ 400) (tb : ∀ i, T i < 256) {p0 c0 : Nat} {E0 : Cd} (hE : 2 * E0.length + 2 ≤ p0 + 2 * c0) {w : Nat} (hw : w < 10) {h : ax_H} (v : ok h) (t : TM h T n) {p c : Nat} {o : List Nat} (r : RM h w p c 0 o E0) (hp : p ≤ n) (hc : c ≤ 60) (e1 : p0 = p) (e2 : c0 = c) : rst h w E0 (M_test 159 h) (rnM T n 401 (0, p, c, 0, [], [])) := by
  subst e1
  subst e2
  have R1 : RM (pI h 159 24 (nI 0)) w p0 c0 0 [] E0 := by
    obtain ⟨⟨r1, r2, r3, r4, r5, r6, r7⟩, r8, r9⟩ := r
    exact ⟨⟨by rw [gI_pI, if_neg (by omega)]; exact r1, by rw [gI_pI, if_neg (by omega)]; exact r2, by rw [gI_pI, if_neg (by omega)]; exact r3, by rw [gI_pI, if_neg (by omega)]; exact r4, by rw [gI_pI, if_neg (by omega)]; exact r5, by rw [gI_pI, if_pos ⟨rfl, rfl⟩]; rfl, by rw [gI_pI, if_neg (by omega)]; exact r7⟩, trivial, stk2_eq E0 (fun k _ => ⟨by rw [gI_pI, if_neg (by omega)], by rw [gI_pI, if_neg (by omega)]⟩) r9⟩
  have f1 : fr (Sv w) h (pI h 159 24 (nI 0)) := fr_pI (Sv_t (by omega))
  have m0 : MIs n p0 c0 (0, p0, c0, 0, [], []) := MI_0 (T := T) tb hp hc
  have := (zm_t9 hn tb hE hw 401 401 (0, p0, c0, 0, [], []) (pI h 159 24 (nI 0)) (by show n + 1 ≤ p0 + 401; omega) (by show n + 1 ≤ p0 + 401; omega) m0 (ok_pI v _ _ _) (TM_w f1 t)).1 rfl R1
  rw [M_test_eq, if_pos (m_159 v)]
  exact rst_x f1 this
end
