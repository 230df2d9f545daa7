/-! the reference's way -/
def Sz (w a k : Nat) : Bool := decide ((a = 159 ∧ 17 ≤ k ∧ k ≤ 25) ∨ a = 181 ∨ ((a = 173 ∨ a = 174) ∧ 300 * w ≤ k ∧ k < 300 * w + 300) ∨ ((a = 175 ∨ a = 176) ∧ 12 * w ≤ k ∧ k < 12 * w + 12) ∨ ((a = 177 ∨ a = 178) ∧ k = w) ∨ ((a = 179 ∨ a = 180) ∧ 6 * w ≤ k ∧ k < 6 * w + 6))
theorem Sz_t {w a k : Nat} (h : (a = 159 ∧ 17 ≤ k ∧ k ≤ 25) ∨ a = 181 ∨ ((a = 173 ∨ a = 174) ∧ 300 * w ≤ k ∧ k < 300 * w + 300) ∨ ((a = 175 ∨ a = 176) ∧ 12 * w ≤ k ∧ k < 12 * w + 12) ∨ ((a = 177 ∨ a = 178) ∧ k = w) ∨ ((a = 179 ∨ a = 180) ∧ 6 * w ≤ k ∧ k < 6 * w + 6)) : Sz w a k = true := decide_eq_true h
theorem Sz_f {w a k : Nat} (h : ¬ ((a = 159 ∧ 17 ≤ k ∧ k ≤ 25) ∨ a = 181 ∨ ((a = 173 ∨ a = 174) ∧ 300 * w ≤ k ∧ k < 300 * w + 300) ∨ ((a = 175 ∨ a = 176) ∧ 12 * w ≤ k ∧ k < 12 * w + 12) ∨ ((a = 177 ∨ a = 178) ∧ k = w) ∨ ((a = 179 ∨ a = 180) ∧ 6 * w ≤ k ∧ k < 6 * w + 6))) : Sz w a k = false := decide_eq_false h
theorem Sk9_z {w : Nat} {h h' : ax_H} (q : fr (Sk9 w) h h') : fr (Sz w) h h' := fr_le q fun a k z => by simp only [Sk9, Sz, decide_eq_false_iff_not] at z ⊢; omega
theorem stk2_at {h : ax_H} {w : Nat} : ∀ (E : Cd) (k : Nat) (e : Nat × Nat), stk2 h w E → E.reverse[k]? = some e → gI h 173 (300 * w + k) = nI e.1 ∧ gI h 174 (300 * w + k) = nI e.2
  | [], k, x, _, q => by cases q
  | y :: W, k, x, s, q => by
    rw [List.reverse_cons] at q
    by_cases z : k < W.reverse.length
    · rw [List.getElem?_append_left z] at q
      exact stk2_at W k x s.2 q
    · rw [List.getElem?_append_right (by omega)] at q
      have hk : k - W.reverse.length = 0 := by
        by_cases y0 : k - W.reverse.length = 0
        · exact y0
        · rw [List.getElem?_eq_none (by show 1 ≤ _; omega)] at q; cases q
      rw [hk] at q
      have q' : y = x := Option.some.inj q
      have e : k = W.length := by rw [List.length_reverse] at hk z; omega
      rw [e, ← q']
      exact s.1
theorem WM_of {h : ax_H} {w p c d ft : Nat} {o : List Nat} {E0 : Cd} {hd : Int32} {dg hl : Nat → Int32} {L : List Cd} (r : RM h w p c d o E0) (hE : E0.length ≤ 300) (x : RWx h w ft hd dg hl L E0) : WM h w (dg, hl, hd, L) := by
  obtain ⟨⟨x1, x2, x3⟩, x4, x5, x6⟩ := x
  refine ⟨x4, x5, x2, x3, fun k R hR => ?_⟩
  obtain ⟨s, s1, s2, s3, s4⟩ := x6 k R hR
  refine ⟨s, by omega, s2, s3, fun j e hj => ?_⟩
  have := stk2_at E0 (s + j) e r.2.2 (s4 j e hj)
  rw [Nat.add_assoc]
  exact this
theorem w109_F {h : ax_H} (v : ok h) {w f q : Nat} (r : RF h w f q) (x : Int32) : M_way_109 159 x 0 h = some (-2 - nI f, pI h 159 17 0) := by
  have g19 : gI (pI h 159 17 0) 159 19 = nI f := by rw [gI_pI, if_neg (by omega)]; exact r.1
  have hf := r.2.1
  have np : ¬ nI f ≤ 0 := fun z => by
    have := (nJ_le (a := f) (b := 0) (by omega) (by omega)).mp z
    omega
  rw [M_way_109_eq]
  simp only [decide_true, ↓reduceIte, m_159 v, gS_pI, g19, np, decide_false, Bool.false_eq_true]
theorem w109_G {h : ax_H} (v : ok h) {w p c d : Nat} {o : List Nat} {E : Cd} (r : RM h w p c d o E) (x : Int32) : M_way_109 159 x 0 h = some (nI w, pI (pI h 159 17 0) 159 20 (nI (w + 1))) := by
  have g19 : gI (pI h 159 17 0) 159 19 = 0 := by rw [gI_pI, if_neg (by omega)]; exact r.1.1
  have g20 : gI (pI h 159 17 0) 159 20 = nI w := by rw [gI_pI, if_neg (by omega)]; exact r.1.2.1
  have g20' : gI (pI (pI h 159 17 0) 159 20 (nI (w + 1))) 159 20 = nI (w + 1) := by rw [gI_pI, if_pos ⟨rfl, rfl⟩]
  have e : nI (w + 1) - 1 = nI w := by rw [show (1 : Int32) = nI 1 from rfl, nI_sb (by omega), Nat.add_sub_cancel]
  rw [M_way_109_eq]
  simp only [decide_true, ↓reduceIte, m_159 v, gS_pI, g19, show (0 : Int32) ≤ 0 by decide, g20, nJ_p1, g20', e]
theorem w161_F {h : ax_H} (v : ok h) {w f q : Nat} (r : RF h w f q) (x : Int32) : M_way_161 159 x h = M_way_109 159 x 0 (pI h 159 18 (gI h 159 18 + 1)) := by
  have nz : ¬ nI f = 0 := fun z => by have := (nJ_eq (a := f) (b := 0) (by have := r.2.1; omega) (by omega)).mp z; have := r.2.1; omega
  rw [M_way_161_eq]
  simp only [m_159 v, ↓reduceIte, r.1, nz, not_false_eq_true, decide_true]
theorem w161_G {h : ax_H} (v : ok h) {T : Nat → Nat} {n : Nat} (t : TM h T n) (hn : n ≤ 400) {w p c d : Nat} {o : List Nat} {E : Cd} (r : RM h w p c d o E) (hp : p ≤ 1000) (x : Int32) : M_way_161 159 x h = if n ≤ p then M_way_109 159 x 0 (pI h 159 18 (nI (p + 1))) else M_way_109 159 x 1 (pI h 159 18 (nI (p + 1))) := by
  have z : nI n ≤ nI p ↔ n ≤ p := nJ_le (by omega) (by omega)
  rw [M_way_161_eq]
  simp only [m_159 v, ↓reduceIte, r.1.1, not_true_eq_false, decide_false, Bool.false_eq_true, t.1, r.1.2.2.1, z, nJ_p1, decide_eq_true_eq]
def rwy (h : ax_H) (w : Nat) (P : Option (Int32 × ax_H)) : Sum Nat Ws → Prop
  | .inl f => ∃ h', P = some (-2 - nI f, h') ∧ fr (Sz w) h h' ∧ gI h' 159 17 = 0 ∧ gI h' 159 20 = nI w
  | .inr s => ∃ h', P = some (nI w, h') ∧ fr (Sz w) h h' ∧ gI h' 159 17 = 0 ∧ gI h' 159 20 = nI (w + 1) ∧ WM h' w (wdS s)
theorem rwy_x {h h1 : ax_H} {w : Nat} {P : Option (Int32 × ax_H)} {o : Sum Nat Ws} (q : fr (Sz w) h h1) (p : rwy h1 w P o) : rwy h w P o := by
  cases o with
  | inl f =>
    obtain ⟨h', a, b, c⟩ := p
    exact ⟨h', a, fr_tr q b, c⟩
  | inr s =>
    obtain ⟨h', a, b, c⟩ := p
    exact ⟨h', a, fr_tr q b, c⟩
section
theorem w161_bad {T : Nat → Nat} {n : Nat} (hn : n ≤ 400) (tb : ∀ i, T i < 256) {w : Nat} (hw : w < 10) {h h4 : ax_H} (v4 : ok h4) {f q : Nat} (F4 : fr (Sk9 w) h h4) (r : RF h4 w f q) (hq : q ≤ 900) {x : Int32} {P : Option (Int32 × ax_H)} (hP : P = M_way_161 159 x h4) : rwy h w P (.inl f) := by
  have r0 := r
  obtain ⟨a1, a2, a3, p', a4, a5⟩ := r
  have RF5 : RF (pI h4 159 18 (nI (p' + 1))) w f 1000 := RF_p r0 a4 (j := 1) (by omega) (by omega)
  refine ⟨pI (pI h4 159 18 (nI (p' + 1))) 159 17 0, ?_, fr_tr (Sk9_z F4) (fr_tr (fr_pI (Sz_t (by omega))) (fr_pI (Sz_t (by omega)))), by rw [gI_pI, if_pos ⟨rfl, rfl⟩], by rw [gI_pI, if_neg (by omega)]; exact RF5.2.2.1⟩
  rw [hP, w161_F v4 r0, a4, nJ_p1]
  exact w109_F (ok_pI v4 _ _ _) RF5 x
theorem zm_w109 {T : Nat → Nat} {n : Nat} (hn : n ≤ 400) (tb : ∀ i, T i < 256) {w : Nat} (hw : w < 10) : ∀ (m k : Nat) (s : Ws) (h : ax_H), k + m = 13 → k ≤ 12 → ok h → TM h T n → RWy h w s.1 s.2.1 s.2.2.1 s.2.2.2.1 s.2.2.2.2.1 s.2.2.2.2.2.1 s.2.2.2.2.2.2 → WIs n s → s.2.2.2.2.2.2.length ≤ k → rwy h w (M_way_109 159 (nI k) 1 h) (wyM T n m k s)
  | 0, k, s, h, hk, hk2, v, t, r, m, hl => by omega
  | i + 1, k, s, h, hk, hk2, v, t, r, m, hl => by
    have cl := zm_clause hn tb v t r m hw hk2 hl
    have e1 : ∀ h3 h4, M_clause 159 (nI k) h = some h3 → ok h3 → M_blanks 159 h3 = some h4 → ok h4 → M_way_109 159 (nI k) 1 h = if decide (¬ gI h4 159 19 = 0) = true then M_way_161 159 (nI (k + 1)) h4 else (if decide (gI h4 159 17 ≤ gI h4 159 18) = true then M_way_161 159 (nI (k + 1)) h4 else (M_sign 159 h4).bind (fun r5 => if decide (r5.1 = 59) = true then M_way_161 159 (nI (k + 1)) r5.2 else (if (gS r5.2 159).1 = 11 then if (gS r5.2 159).1 = 11 then (M_fails 159 0 (gI r5.2 159 18) r5.2).bind (fun h6 => M_way_161 159 (nI (k + 1)) h6) else none else none))) := fun h3 h4 a v3 b v4 => by
      rw [M_way_109_eq, if_neg (by decide), if_pos (m_159 v), bnd a, if_pos (m_159 v3), bnd b]
      simp only [m_159 v4, ↓reduceIte, nJ_p1]
    rw [wyM]
    cases hc : clC T n k s.1 s.2.1 s.2.2.1 s.2.2.2.1 s.2.2.2.2.1 s.2.2.2.2.2.1 s.2.2.2.2.2.2 with
    | inl f =>
      rw [hc] at cl
      obtain ⟨h3, a1, a2, a3⟩ := cl
      have v3 := ok_fr a2 v
      obtain ⟨h4, b1, b2, b3⟩ := zm_blF hn tb v3 (TM_sw a2 t) a3 (by omega)
      have v4 := ok_fr b2 v3
      have nz : ¬ gI h4 159 19 = 0 := by
        rw [b3.1]
        have hf := b3.2.1
        exact fun z => by have := (nJ_eq (a := f) (b := 0) (by omega) (by omega)).mp z; omega
      exact w161_bad hn tb hw v4 (fr_tr a2 (Sv_w b2)) b3 (by omega) ((e1 h3 h4 a1 v3 b1 v4).trans (if_pos (decide_eq_true nz)))
    | inr s1 =>
      rw [hc] at cl
      obtain ⟨h3, a1, a2, o, E0, R3, hE3, X3⟩ := cl
      obtain ⟨wi, wp, wl, wk⟩ := WI_cl m hn hc
      have hp1 : s1.1 ≤ n := wi.1.1
      have v3 := ok_fr a2 v
      have t3 := TM_sw a2 t
      obtain ⟨h4, b1, b2, b3⟩ := zm_blanks hn tb v3 t3 R3.1.2.2.1 (by omega)
      have v4 := ok_fr b2 v3
      have t4 := TM_8 b2 t3
      have R4 := RM_8 R3 b2 b3
      have X4 := RWx_v (Sq_w b2) X3
      have F4 : fr (Sk9 w) h h4 := fr_tr a2 (Sv_w (Sq_w b2))
      have hle : sb T n s1.1 ≤ n := sb_le hp1
      have hge := sb_ge T n s1.1
      have hE4 : E0.length ≤ 300 := by
        have q1 : 2 * (jnT s1.2.2.2.2.2.2).length ≤ s1.1 + 2 * s1.2.1 := wi.2.2.2.2.2
        have q2 : s1.2.1 ≤ 60 := wi.1.2.1
        omega
      have e2 := e1 h3 h4 a1 v3 b1 v4
      rw [R4.1.1, if_neg (show ¬ decide (¬ (0 : Int32) = 0) = true by decide), t4.1, R4.1.2.2.1] at e2
      show rwy h w _ (if sgI T n (sb T n s1.1) = -1 then Sum.inr s1 else if sgI T n (sb T n s1.1) = 59 then wyM T n i (k + 1) (sb T n s1.1 + 1, s1.2) else Sum.inl (1 + 8 * sb T n s1.1 + 0))
      generalize sb T n s1.1 = p1 at *
      have hz : nI n ≤ nI p1 ↔ n ≤ p1 := nJ_le (by omega) (by omega)
      by_cases q1 : p1 < n
      · have es : sgI T n p1 = nI (T p1) := if_pos q1
        have nm : ¬ sgI T n p1 = -1 := by rw [es]; exact nI_neg1 (by have := tb p1; omega)
        have sg := zm_sign hn tb v4 t4 b3 (by omega)
        rw [if_neg (show ¬ decide (nI n ≤ nI p1) = true by rw [decide_eq_true_eq, hz]; omega), bnd sg] at e2
        rw [if_neg nm]
        by_cases q2 : sgI T n p1 = 59
        · rw [if_pos q2]
          have R5 := RM_p R4 (p1 + 1)
          have f5 : fr (Sv w) h4 (pI h4 159 18 (nI (p1 + 1))) := fr_pI (Sv_t (by omega))
          have ih := zm_w109 hn tb hw i (k + 1) (p1 + 1, s1.2) (pI h4 159 18 (nI (p1 + 1))) (by omega) (by omega) (ok_pI v4 _ _ _) (TM_w f5 t4) ⟨o, E0, R5, hE3, RWx_v f5 X4⟩ (WI_p wi (by omega) q1) (by show s1.2.2.2.2.2.2.length ≤ k + 1; omega)
          have e3 : M_way_109 159 (nI k) 1 h = M_way_109 159 (nI (k + 1)) 1 (pI h4 159 18 (nI (p1 + 1))) := by
            rw [e2]
            refine (if_pos (show decide (sgI T n p1 = 59) = true from decide_eq_true q2)).trans ?_
            refine (w161_G v4 t4 hn R4 (by omega) (nI (k + 1))).trans ?_
            rw [if_neg (show ¬ n ≤ p1 by omega)]
          rw [e3]
          exact rwy_x (fr_tr (Sk9_z F4) (Sk9_z (Sv_w f5))) ih
        · rw [if_neg q2]
          have vf : ok (pI h4 159 19 (nI (1 + 8 * p1 + 0))) := ok_pI v4 _ _ _
          refine w161_bad hn tb hw vf (fr_tr F4 (fr_pI (Sk9_t (by omega)))) (RF_of R4 (q := 400) (by omega) (by omega)) (by omega) (x := nI (k + 1)) ?_
          rw [e2]
          refine (if_neg (show ¬ decide (sgI T n p1 = 59) = true by rw [decide_eq_true_eq]; exact q2)).trans ?_
          show (if (gS h4 159).1 = 11 then if (gS h4 159).1 = 11 then (M_fails 159 0 (gI h4 159 18) h4).bind (fun h6 => M_way_161 159 (nI (k + 1)) h6) else none else none) = _
          rw [if_pos (m_159 v4), if_pos (m_159 v4), b3, bnd (zm_failsG v4 R4.1.1 p1 0 (c' := 0) rfl)]
      · have es : sgI T n p1 = -1 := if_neg q1
        rw [if_pos (show decide (nI n ≤ nI p1) = true from decide_eq_true (hz.mpr (by omega)))] at e2
        rw [if_pos es]
        have R5 := RM_p R4 (p1 + 1)
        have f5 : fr (Sv w) h4 (pI h4 159 18 (nI (p1 + 1))) := fr_pI (Sv_t (by omega))
        have X5 := RWx_v f5 X4
        refine ⟨pI (pI (pI h4 159 18 (nI (p1 + 1))) 159 17 0) 159 20 (nI (w + 1)), ?_, fr_tr (Sk9_z F4) (fr_tr (fr_tr (fr_pI (Sz_t (by omega))) (fr_pI (Sz_t (by omega)))) (fr_pI (Sz_t (by omega)))), by rw [gI_pI, if_neg (by omega), gI_pI, if_pos ⟨rfl, rfl⟩], by rw [gI_pI, if_pos ⟨rfl, rfl⟩], ?_⟩
        · rw [e2, w161_G v4 t4 hn R4 (by omega), if_pos (show n ≤ p1 by omega)]
          exact w109_G (ok_pI v4 _ _ _) R5 _
        · exact WM_eq (fun a j z1 z2 => by rw [gI_pI, if_neg (by omega), gI_pI, if_neg (by omega)]) (WM_of R5 hE4 X5)
theorem zm_w63 {T : Nat → Nat} {n : Nat} (hn : n ≤ 400) (tb : ∀ i, T i < 256) {w : Nat} (hw : w < 10) : ∀ (m j : Nat) (h : ax_H), j + m = 6 → ok h → gI h 159 20 = nI w → ∃ h', M_way_63 159 (nI j) h = M_way_109 159 0 1 h' ∧ fr (Sz w) h h' ∧ (∀ a k, ¬ (a = 179 ∨ a = 180) → gI h' a k = gI h a k) ∧ (∀ i, i < j → gI h' 179 (6 * w + i) = gI h 179 (6 * w + i) ∧ gI h' 180 (6 * w + i) = gI h 180 (6 * w + i)) ∧ ∀ i, j ≤ i → i < 6 → gI h' 179 (6 * w + i) = 0 ∧ gI h' 180 (6 * w + i) = 0
  | 0, j, h, hj, v, g => by
    refine ⟨h, ?_, fr_rf _ _, fun _ _ _ => rfl, fun _ _ => ⟨rfl, rfl⟩, fun i h1 h2 => by omega⟩
    rw [M_way_63_eq, if_pos (by rw [show j = 6 by omega]; decide)]
  | m + 1, j, h, hj, v, g => by
    obtain ⟨⟨s175, s176, s177, s178, s179, s180⟩, g29, g30, g31, g32, g33, g34⟩ := m_rows v
    have ti : (nI (6 * w + j)).toNatClampNeg = 6 * w + j := nJ_n (by omega)
    have ni : ¬ nI (6 * w + j) < 0 := nJ_nn (by omega)
    have hi : 6 * w + j < 60 := by omega
    have n6 : ¬ (6 : Int32) ≤ nI j := fun z => by have := (nJ_le (a := 6) (b := j) (by omega) (by omega)).mp z; omega
    have g1 : gI (pI h 179 (6 * w + j) 0) 159 20 = nI w := by rw [gI_pI, if_neg (by omega)]; exact g
    have g2 : gI (pI (pI h 179 (6 * w + j) 0) 180 (6 * w + j) 0) 159 20 = nI w := by rw [gI_pI, if_neg (by omega)]; exact g1
    obtain ⟨h', a1, a2, a3, a4, a5⟩ := zm_w63 hn tb hw m (j + 1) (pI (pI h 179 (6 * w + j) 0) 180 (6 * w + j) 0) (by omega) (ok_pI (ok_pI v _ _ _) _ _ _) g2
    refine ⟨h', ?_, fr_tr (fr_tr (fr_pI (Sz_t (by omega))) (fr_pI (Sz_t (by omega)))) a2, fun a k z => ?_, fun i hi2 => ⟨?_, ?_⟩, fun i h1 h2 => ?_⟩
    · rw [← a1, M_way_63_eq 159 (nI j) h, if_neg (by rw [decide_eq_true_eq]; exact n6)]
      simp only [m_159 v, ↓reduceIte, g, g33, g34, show (6 : Int32) = nI 6 from rfl, pk_mul, nI_add, ax_in, s179, s180, ti, ni, hi, not_false_eq_true, and_self, gS_pI, gR_pI, g1, nJ_p1]
    · rw [a3 a k z, gI_pI, if_neg (by omega), gI_pI, if_neg (by omega)]
    · rw [(a4 i (by omega)).1, gI_pI, if_neg (by omega), gI_pI, if_neg (by omega)]
    · rw [(a4 i (by omega)).2, gI_pI, if_neg (by omega), gI_pI, if_neg (by omega)]
    · by_cases z : i = j
      · subst z
        refine ⟨?_, ?_⟩
        · rw [(a4 i (by omega)).1, gI_pI, if_neg (by omega), gI_pI, if_pos ⟨rfl, rfl⟩]
        · rw [(a4 i (by omega)).2, gI_pI, if_pos ⟨rfl, rfl⟩]
      · exact a5 i (by omega) h2
theorem zm_way {T : Nat → Nat} {n : Nat} (hn : n ≤ 400) (tb : ∀ i, T i < 256) {w : Nat} (hw : w < 10) {h : ax_H} (v : ok h) (t : TM h T n) (g20 : gI h 159 20 = nI w) : rwy h w (M_way 159 h) (wayP T n) := by
  obtain ⟨hA, eA⟩ : ∃ hA, hA = pI (pI (pI (pI (pI (pI h 159 18 0) 159 19 0) 159 21 0) 159 22 0) 159 23 0) 159 25 0 := ⟨_, rfl⟩
  have vA : ok hA := by rw [eA]; exact ok_pI (ok_pI (ok_pI (ok_pI (ok_pI (ok_pI v _ _ _) _ _ _) _ _ _) _ _ _) _ _ _) _ _ _
  have fA : fr (Sz w) h hA := by rw [eA]; exact fr_tr (fr_tr (fr_tr (fr_tr (fr_tr (fr_pI (Sz_t (by omega))) (fr_pI (Sz_t (by omega)))) (fr_pI (Sz_t (by omega)))) (fr_pI (Sz_t (by omega)))) (fr_pI (Sz_t (by omega)))) (fr_pI (Sz_t (by omega)))
  have IA : ∀ a k, gI hA a k = if a = 159 ∧ (k = 18 ∨ k = 19 ∨ k = 21 ∨ k = 22 ∨ k = 23 ∨ k = 25) then 0 else gI h a k := fun a k => by
    rw [eA]
    by_cases z : a = 159 ∧ (k = 18 ∨ k = 19 ∨ k = 21 ∨ k = 22 ∨ k = 23 ∨ k = 25)
    · rw [if_pos z]
      obtain ⟨rfl, z⟩ := z
      rcases z with rfl | rfl | rfl | rfl | rfl | rfl
      · rw [gI_pI, if_neg (by omega), gI_pI, if_neg (by omega), gI_pI, if_neg (by omega), gI_pI, if_neg (by omega), gI_pI, if_neg (by omega), gI_pI, if_pos ⟨rfl, rfl⟩]
      · rw [gI_pI, if_neg (by omega), gI_pI, if_neg (by omega), gI_pI, if_neg (by omega), gI_pI, if_neg (by omega), gI_pI, if_pos ⟨rfl, rfl⟩]
      · rw [gI_pI, if_neg (by omega), gI_pI, if_neg (by omega), gI_pI, if_neg (by omega), gI_pI, if_pos ⟨rfl, rfl⟩]
      · rw [gI_pI, if_neg (by omega), gI_pI, if_neg (by omega), gI_pI, if_pos ⟨rfl, rfl⟩]
      · rw [gI_pI, if_neg (by omega), gI_pI, if_pos ⟨rfl, rfl⟩]
      · rw [gI_pI, if_pos ⟨rfl, rfl⟩]
    · rw [if_neg z, gI_pI, if_neg (by omega), gI_pI, if_neg (by omega), gI_pI, if_neg (by omega), gI_pI, if_neg (by omega), gI_pI, if_neg (by omega), gI_pI, if_neg (by omega)]
  have gA : gI hA 159 20 = nI w := by rw [IA, if_neg (by omega)]; exact g20
  have gB : gI (pI hA 177 w 0) 159 20 = nI w := by rw [gI_pI, if_neg (by omega)]; exact gA
  have tw : (nI w).toNatClampNeg = w := nJ_n (by omega)
  have nw : ¬ nI w < 0 := nJ_nn (by omega)
  have n10 : ¬ nI w = 10 := fun z => by have := (nJ_eq (a := w) (b := 10) (by omega) (by omega)).mp z; omega
  obtain ⟨⟨s175, s176, s177, s178, s179, s180⟩, g29, g30, g31, g32, g33, g34⟩ := m_rows vA
  have e1 : M_way 159 h = M_way_63 159 (nI 0) (pI (pI hA 177 w 0) 178 w (-1)) := by
    rw [M_way_eq]
    simp only [m_159 v, ↓reduceIte, g20, n10, not_false_eq_true, decide_true, gS_pI, ← eA]
    simp only [m_159 vA, gS_pI, ax_in, g31, g32, s177, s178, gA, gB, tw, nw, hw, not_false_eq_true, and_self, ↓reduceIte, gR_pI]
    rfl
  obtain ⟨hC, c1, c2, c3, c4, c5⟩ := zm_w63 hn tb hw 6 0 (pI (pI hA 177 w 0) 178 w (-1)) (by omega) (ok_pI (ok_pI vA _ _ _) _ _ _) (by rw [gI_pI, if_neg (by omega)]; exact gB)
  have fC : fr (Sz w) h hC := fr_tr fA (fr_tr (fr_tr (fr_pI (Sz_t (by omega))) (fr_pI (Sz_t (by omega)))) c2)
  have vC : ok hC := ok_fr fC v
  have IC : ∀ a k, ¬ (177 ≤ a ∧ a ≤ 180) → gI hC a k = gI hA a k := fun a k z => by rw [c3 a k (by omega), gI_pI, if_neg (by omega), gI_pI, if_neg (by omega)]
  have tC : TM hC T n := ⟨by rw [IC 159 17 (by omega), IA, if_neg (by omega)]; exact t.1, fun i => by rw [IC 172 i (by omega), IA, if_neg (by omega)]; exact t.2 i⟩
  obtain ⟨l, hl⟩ := nI_all (gI hC 159 24)
  obtain ⟨o, ho1, ho2⟩ := stk_ex hC 181 l
  have RC0 : RWy hC w 0 0 0 (-1) (fun _ => 0) (fun _ => 0) [] := by
    refine ⟨o, [], ⟨⟨?_, ?_, ?_, ?_, ?_, by rw [hl, ho1], ?_⟩, ho2, trivial⟩, Nat.le_refl _, ⟨?_, ?_, ?_⟩, fun i hi => (c5 i (by omega) hi).1, fun i hi => (c5 i (by omega) hi).2, fun c R hR => (by cases hR)⟩
    · rw [IC _ _ (by omega), IA, if_pos (by omega)]
    · rw [IC _ _ (by omega)]; exact gA
    · rw [IC _ _ (by omega), IA, if_pos (by omega)]; rfl
    · rw [IC _ _ (by omega), IA, if_pos (by omega)]; rfl
    · rw [IC _ _ (by omega), IA, if_pos (by omega)]; rfl
    · rw [IC _ _ (by omega), IA, if_pos (by omega)]; rfl
    · rw [IC _ _ (by omega), IA, if_pos (by omega)]; rfl
    · rw [c3 _ _ (by omega), gI_pI, if_pos ⟨rfl, rfl⟩]
    · rw [c3 _ _ (by omega), gI_pI, if_neg (by omega), gI_pI, if_pos ⟨rfl, rfl⟩]; rfl
  have k := zm_w109 hn tb hw 13 0 (0, 0, 0, -1, fun _ => 0, fun _ => 0, []) hC (by omega) (by omega) vC tC RC0 (WI_0 n) (Nat.le_refl _)
  have e2 : M_way 159 h = M_way_109 159 (nI 0) 1 hC := e1.trans c1
  rw [e2]
  exact rwy_x fC k
end
