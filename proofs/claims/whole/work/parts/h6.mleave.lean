/-! the reference's clauses: hand, leave, terms behind their words -/
theorem jn_len (L : List Cd) (F E0 : Cd) (h : E0.length ≤ (jnT L).length) : (F ++ E0).length ≤ (jnT (L ++ [F.reverse])).length := by
  by_cases y : L = []
  · subst y
    have h0 : E0.length ≤ 0 := h
    rw [List.nil_append, jnT_1, List.length_reverse, List.length_append]
    omega
  · have e := congrArg List.length (jnT_app y F.reverse)
    rw [List.length_reverse, List.length_cons, List.length_append, List.length_reverse, List.length_reverse, List.length_reverse] at e
    rw [List.length_append]
    omega
section
theorem zm_150t {T : Nat → Nat} {n : Nat} (hn : n ≤ 400) (tb : ∀ i, T i < 256) {h : ax_H} (v : ok h) (t : TM h T n) {w p c ft : Nat} {o : List Nat} {E0 : Cd} {hd : Int32} {dg hl : Nat → Int32} {L : List Cd} (r : RM h w p c 0 o E0) (hE : E0.length ≤ (jnT L).length) (x : RWx h w ft hd dg hl L E0) (hw : w < 10) (hft : ft ≤ 3) {how : Nat} (hh : how = 1 ∨ how = 2 ∨ how = 3) {k0 : Int32} {p2 : Nat} (hk : nI p + k0 = nI p2) (h2n : p2 ≤ n) : rww h w (M_clause_150 k0 (gI h 159 18) 159 159 (bB (decide (how = 1))) (bB (decide (how = 2))) 0 0 h) (tmP T n how p2 c ft hd dg hl L) := by
  have g18 := r.1.2.2.1
  have f1 : fr (Sv w) h (pI h 159 18 (nI p2)) := fr_pI (Sv_t (by omega))
  have R1 := RM_p r p2
  have X1 := RWx_v f1 x
  have v1 : ok (pI h 159 18 (nI p2)) := ok_pI v _ _ _
  have t1 := TM_w f1 t
  have e1 : ∀ y h', M_term 159 (bB (decide (how = 1))) (pI h 159 18 (nI p2)) = some (y, h') → M_clause_150 k0 (gI h 159 18) 159 159 (bB (decide (how = 1))) (bB (decide (how = 2))) 0 0 h = M_clause_295 (nI how) y 159 159 (bB (decide (how = 2))) y h' := fun y h' b1 => by
    rw [M_clause_150_eq, if_pos (m_159 v), g18, hk]
    show (if decide ((0 : Int32) = 0) = true then (if decide ((0 : Int32) = 0) = true then (if (gS (pI h 159 18 (nI p2)) 159).1 = 11 then (M_term 159 (bB (decide (how = 1))) (pI h 159 18 (nI p2))).bind _ else none) else _) else _) = _
    rw [if_pos (by decide), if_pos (by decide), if_pos (m_159 v1), bnd b1]
    rcases hh with rfl | rfl | rfl
    · exact if_neg (by decide)
    · exact (if_pos (by decide)).trans (if_neg (by decide))
    · exact (if_pos (by decide)).trans (if_pos (by decide))
  obtain ⟨n1, n2⟩ := zm_term hn tb v1 t1 R1 X1 h2n hft hw (decide (how = 1))
  rw [tm_eq]
  cases hq : tmE T n (decide (how = 1)) p2 ft dg with
  | inl f =>
    obtain ⟨y, h2, b1, b2, b3⟩ := n1 f hq
    have v2 := ok_fr b2 v1
    refine ⟨h2, ?_, fr_tr (Sv_w f1) (Sv_w b2), b3⟩
    rw [e1 y h2 b1]
    exact zm_295F hn tb v2 b3 _ _ _ _
  | inr q =>
    obtain ⟨h2, b1, b2, b3⟩ := n2 q hq
    have v2 := ok_fr b2 v1
    have hq' : q.1 < 6 ∧ q.2 ≤ n := by
      unfold tmE at hq
      cases hf : fW T n (wsL 2) 0 (sb T n p2) with
      | none => rw [hf] at hq; cases hq
      | some y =>
        rw [hf] at hq
        have hq1 : (if ¬ dg y.1 = 0 ∨ (decide (how = 1) = true ∧ ft = 3) then Sum.inl (1 + 8 * sb T n p2 + 5) else Sum.inr y) = (Sum.inr q : Sum Nat (Nat × Nat)) := hq
        by_cases z : ¬ dg y.1 = 0 ∨ (decide (how = 1) = true ∧ ft = 3)
        · rw [if_pos z] at hq1; cases hq1
        · rw [if_neg z] at hq1
          injection hq1 with hq1
          rw [← hq1]
          have b := fW_lt T n (wsL 2) 0 (sb T n p2) y hf
          have e : (wsL 2).length = 6 := rfl
          exact ⟨by omega, (fW_le (wsL 2) 0 (sb T n p2) y (by decide) (sb_le h2n) hf).2⟩
    rw [e1 (nI q.1) h2 b1]
    exact rww_x (fr_tr (Sv_w f1) (Sv_w b2)) (zm_295 hn tb v2 (TM_w b2 t1) b3 hE (RWx_v b2 X1) hq'.2 hw hq'.1 hh rfl)
theorem zm_150h {T : Nat → Nat} {n : Nat} (hn : n ≤ 400) (tb : ∀ i, T i < 256) {h : ax_H} (v : ok h) (t : TM h T n) {w p c ft : Nat} {o : List Nat} {E0 : Cd} {hd : Int32} {dg hl : Nat → Int32} {L : List Cd} (r : RM h w p c 0 o E0) (hE : E0.length ≤ (jnT L).length) (x : RWx h w ft hd dg hl L E0) (hw : w < 10) {k0 : Int32} {p2 : Nat} (hk : nI p + k0 = nI p2) (h2n : p2 ≤ n) (v3 v4 v6 : Int32) : rww h w (M_clause_150 k0 (gI h 159 18) 159 159 v3 v4 v6 1 h) (match rdN T n 7 (sb T n p2) with
    | .inl f => .inl f
    | .inr r => .inr (r.2, c, ft, nI r.1, dg, hl, L)) := by
  have g18 := r.1.2.2.1
  have f1 : fr (Sv w) h (pI h 159 18 (nI p2)) := fr_pI (Sv_t (by omega))
  have R1 := RM_p r p2
  have X1 := RWx_v f1 x
  have v1 : ok (pI h 159 18 (nI p2)) := ok_pI v _ _ _
  have t1 := TM_w f1 t
  obtain ⟨h2, a1, a2, a3⟩ := zm_blanks hn tb v1 t1 R1.1.2.2.1 (by omega)
  have hle : sb T n p2 ≤ n := sb_le h2n
  generalize sb T n p2 = p3 at *
  have v2 := ok_fr a2 v1
  have t2 := TM_8 a2 t1
  have R2 := RM_8 R1 a2 a3
  have X2 := RWx_v (Sq_w a2) X1
  have F2 : fr (Sk9 w) h h2 := fr_tr (Sv_w f1) (Sv_w (Sq_w a2))
  obtain ⟨⟨s175, s176, s177, s178, s179, s180⟩, g29, g30, g31, g32, g33, g34⟩ := m_rows v2
  have g20 : gI h2 159 20 = nI w := R2.1.2.1
  have tw : (nI w).toNatClampNeg = w := nJ_n (by omega)
  have nw : ¬ nI w < 0 := nJ_nn (by omega)
  have e1 : ∀ y h', M_digits 159 7 h2 = some (y, h') → ok h' → M_clause_150 k0 (gI h 159 18) 159 159 v3 v4 v6 1 h = some (pI h' 178 w y) := fun y h' b1 v' => by
    have s' : gS h' 178 = (16, 10) := (m_rows v').1.2.2.2.1
    rw [M_clause_150_eq, if_pos (m_159 v), g18, hk]
    show (if decide ((1 : Int32) = 0) = true then _ else (if (gS (pI h 159 18 (nI p2)) 159).1 = 11 then (M_blanks 159 (pI h 159 18 (nI p2))).bind _ else none)) = _
    rw [if_neg (by decide), if_pos (m_159 v1), bnd a1]
    simp only [m_159 v2, ↓reduceIte, g32, g20]
    rw [bnd b1]
    simp only [ax_in, s', tw, nw, hw, not_false_eq_true, and_self, ↓reduceIte]
  obtain ⟨n1, n2⟩ := zm_digitsG hn tb (M := 7) (by omega) v2 t2 R2 hle
  cases hr : rdN T n 7 p3 with
  | inl f =>
    obtain ⟨y, h3, b1, b2, b3⟩ := n1 f hr
    have b1' : M_digits 159 7 h2 = some (y, h3) := b1
    exact ⟨pI h3 178 w y, e1 y h3 b1' (ok_fr b2 v2), fr_tr F2 (fr_tr (Sv_w b2) (fr_pI (Sk9_t (by omega)))), RF_o (RF_mono (by omega) b3) (by omega) _⟩
  | inr q =>
    obtain ⟨h3, b1, b2, b3⟩ := n2 q hr
    have b1' : M_digits 159 7 h2 = some (nI q.1, h3) := b1
    refine ⟨pI h3 178 w (nI q.1), e1 _ h3 b1' (ok_fr b2 v2), fr_tr F2 (fr_tr (Sv_w b2) (fr_pI (Sk9_t (by omega)))), o, E0, RM_o b3 (by omega) _, hE, ?_⟩
    obtain ⟨⟨x1, x2, x3⟩, x4, x5, x6⟩ := RWx_v b2 X2
    refine ⟨⟨by rw [gI_pI, if_neg (by omega)]; exact x1, by rw [gI_pI, if_pos ⟨rfl, rfl⟩], by rw [gI_pI, if_neg (by omega)]; exact x3⟩, fun i hi => by rw [gI_pI, if_neg (by omega)]; exact x4 i hi, fun i hi => by rw [gI_pI, if_neg (by omega)]; exact x5 i hi, fun k R hR => ?_⟩
    obtain ⟨s, s1, s2, s3, s4⟩ := x6 k R hR
    exact ⟨s, s1, by rw [gI_pI, if_neg (by omega)]; exact s2, by rw [gI_pI, if_neg (by omega)]; exact s3, s4⟩
theorem zm_150l {T : Nat → Nat} {n : Nat} (hn : n ≤ 400) (tb : ∀ i, T i < 256) {h : ax_H} (v : ok h) (t : TM h T n) {w p c ft : Nat} {o : List Nat} {E0 : Cd} {hd : Int32} {dg hl : Nat → Int32} {L : List Cd} (r : RM h w p c 0 o E0) (hE : E0.length ≤ (jnT L).length) (x : RWx h w ft hd dg hl L E0) (hw : w < 10) (hc : c ≤ 60) (hL : L.length < 12) {k0 : Int32} {p2 : Nat} (hk : nI p + k0 = nI p2) (h2n : p2 ≤ n) (hE2 : 2 * (jnT L).length ≤ p2 + 2 * c) (v3 v4 : Int32) : rww h w (M_clause_150 k0 (gI h 159 18) 159 159 v3 v4 1 0 h) (lvP T n p2 c ft hd dg hl L) := by
  have g18 := r.1.2.2.1
  have f1 : fr (Sv w) h (pI h 159 18 (nI p2)) := fr_pI (Sv_t (by omega))
  have R1 := RM_p r p2
  have X1 := RWx_v f1 x
  have v1 : ok (pI h 159 18 (nI p2)) := ok_pI v _ _ _
  have t1 := TM_w f1 t
  obtain ⟨h3, a1, a2, a3⟩ := zm_takes hn tb v1 t1 R1 h2n (x := 13) (by omega)
  have c13 : chs 13 = [105, 102] := by decide +kernel
  rw [c13] at a1 a3
  have hle : sb T n p2 ≤ n := sb_le h2n
  have hge := sb_ge T n p2
  have v3' := ok_fr a2 v1
  have t3 := TM_w a2 t1
  have X3 := RWx_v a2 X1
  have F3 : fr (Sk9 w) h h3 := fr_tr (Sv_w f1) (Sv_w a2)
  unfold lvP
  generalize sb T n p2 = p3 at *
  cases q : wD T n [105, 102] p3 with
  | false =>
    rw [q] at a1 a3
    rw [if_neg (by decide)] at a3 ⊢
    refine ⟨pI h3 159 19 (nI (1 + 8 * p3 + 0)), ?_, fr_tr F3 (fr_pI (Sk9_t (by omega))), RF_of a3 (by omega) (by omega)⟩
    rw [M_clause_150_eq, if_pos (m_159 v), g18, hk]
    show (if decide ((0 : Int32) = 0) = true then (if decide ((1 : Int32) = 0) = true then _ else (if (gS (pI h 159 18 (nI p2)) 159).1 = 11 then (M_takes 159 13 (pI h 159 18 (nI p2))).bind _ else none)) else _) = _
    rw [if_pos (by decide), if_neg (by decide), if_pos (m_159 v1), bnd a1]
    simp only [show bB false = 0 from rfl, not_true_eq_false, decide_false, Bool.false_eq_true, ↓reduceIte, m_159 v3', a3.1.2.2.1]
    rw [bnd (zm_failsG v3' a3.1.1 p3 0 (c' := 0) rfl)]
  | true =>
    rw [q] at a1 a3
    rw [if_pos rfl] at a3 ⊢
    have a3' : RM h3 w (p3 + 2) c 0 o E0 := a3
    have hle2 : p3 + 2 ≤ n := wD_le q hle
    obtain ⟨⟨s175, s176, s177, s178, s179, s180⟩, g29, g30, g31, g32, g33, g34⟩ := m_rows v3'
    have g20 : gI h3 159 20 = nI w := a3'.1.2.1
    have g21 : gI h3 159 21 = nI E0.length := a3'.1.2.2.2.2.2.2
    have gl : gI h3 177 w = nI L.length := X3.1.2.2
    have tw : (nI w).toNatClampNeg = w := nJ_n (by omega)
    have nw : ¬ nI w < 0 := nJ_nn (by omega)
    have ti : (nI (12 * w + L.length)).toNatClampNeg = 12 * w + L.length := nJ_n (by omega)
    have ni : ¬ nI (12 * w + L.length) < 0 := nJ_nn (by omega)
    have hi : 12 * w + L.length < 120 := by omega
    have v5 : ok (pI h3 175 (12 * w + L.length) (nI E0.length)) := ok_pI v3' _ _ _
    have f5 : fr (Sk9 w) h (pI h3 175 (12 * w + L.length) (nI E0.length)) := fr_tr F3 (fr_pI (Sk9_t (by omega)))
    have R5 := RM_o a3' (a := 175) (k := 12 * w + L.length) (by omega) (nI E0.length)
    have X5 : RWx (pI h3 175 (12 * w + L.length) (nI E0.length)) w ft hd dg hl L E0 := by
      obtain ⟨⟨x1, x2, x3⟩, x4, x5, x6⟩ := X3
      refine ⟨⟨by rw [gI_pI, if_neg (by omega)]; exact x1, by rw [gI_pI, if_neg (by omega)]; exact x2, by rw [gI_pI, if_neg (by omega)]; exact x3⟩, fun i hi => by rw [gI_pI, if_neg (by omega)]; exact x4 i hi, fun i hi => by rw [gI_pI, if_neg (by omega)]; exact x5 i hi, fun k R hR => ?_⟩
      obtain ⟨s, s1, s2, s3, s4⟩ := x6 k R hR
      have hk' : k < L.length := (List.getElem?_eq_some_iff.mp hR).1
      exact ⟨s, s1, by rw [gI_pI, if_neg (by omega)]; exact s2, by rw [gI_pI, if_neg (by omega)]; exact s3, s4⟩
    have g175 : gI (pI h3 175 (12 * w + L.length) (nI E0.length)) 175 (12 * w + L.length) = nI E0.length := by rw [gI_pI, if_pos ⟨rfl, rfl⟩]
    have ts := zm_test hn tb (p0 := p3 + 2) (c0 := c) (E0 := E0) (by omega) hw v5 (TM_sw f5 t) R5 hle2 hc rfl rfl
    have e1 : ∀ h6, M_test 159 (pI h3 175 (12 * w + L.length) (nI E0.length)) = some h6 → ok h6 → gI h6 159 20 = nI w → gI h6 177 w = nI L.length → M_clause_150 k0 (gI h 159 18) 159 159 v3 v4 1 0 h = some (pI (pI h6 176 (12 * w + L.length) (gI h6 159 21)) 177 w (nI (L.length + 1))) := fun h6 b1 v6 y20 y177 => by
      obtain ⟨⟨u175, u176, u177, u178, u179, u180⟩, w29, w30, w31, w32, w33, w34⟩ := m_rows v6
      have z20 : ∀ y, gI (pI h6 176 (12 * w + L.length) y) 159 20 = nI w := fun y => by rw [gI_pI, if_neg (by omega)]; exact y20
      have z177 : ∀ y, gI (pI h6 176 (12 * w + L.length) y) 177 w = nI L.length := fun y => by rw [gI_pI, if_neg (by omega)]; exact y177
      rw [M_clause_150_eq, if_pos (m_159 v), g18, hk]
      show (if decide ((0 : Int32) = 0) = true then (if decide ((1 : Int32) = 0) = true then _ else (if (gS (pI h 159 18 (nI p2)) 159).1 = 11 then (M_takes 159 13 (pI h 159 18 (nI p2))).bind _ else none)) else _) = _
      rw [if_pos (by decide), if_neg (by decide), if_pos (m_159 v1), bnd a1]
      simp only [show ¬ bB true = 0 by decide, not_false_eq_true, decide_true, m_159 v3', ↓reduceIte, g20, g31, g29, g21, tw, gl, show (12 : Int32) = nI 12 from rfl, pk_mul, nI_add, ax_in, s175, s177, ti, ni, hi, nw, hw, and_self, gS_pI]
      rw [bnd b1]
      simp only [m_159 v6, ↓reduceIte, w30, w31, gR_pI, gS_pI, ax_in, u176, u177, ti, ni, hi, not_false_eq_true, and_self, z20, z177, tw, nw, hw, nJ_p1]
    cases hs : rnM T n 401 (0, p3 + 2, c, 0, [], []) with
    | inl f =>
      rw [hs] at ts
      obtain ⟨h6, b1, b2, b3⟩ := ts
      have v6 := ok_fr b2 v5
      have y177 : gI h6 177 w = nI L.length := (RWx_v b2 X5).1.2.2
      exact ⟨_, e1 h6 b1 v6 b3.2.2.1 y177, fr_tr f5 (fr_tr (Sv_w b2) (fr_tr (fr_pI (Sk9_t (by omega))) (fr_pI (Sk9_t (by omega))))), RF_o (RF_o (RF_mono (by omega) b3) (by omega) _) (by omega) _⟩
    | inr s =>
      rw [hs] at ts
      obtain ⟨h6, b1, b2, b3⟩ := ts
      have v6 := ok_fr b2 v5
      have X6 := RWx_v b2 X5
      have y177 : gI h6 177 w = nI L.length := X6.1.2.2
      have y175 : gI h6 175 (12 * w + L.length) = nI E0.length := (fr_I b2 (Sv_f (by omega))).trans g175
      have m0 : MIs n (p3 + 2) c (0, p3 + 2, c, 0, [], []) := MI_0 (T := T) tb hle2 hc
      obtain ⟨o1, o2, -, -⟩ := rn_ok 401 _ m0 (Or.inr (by show n + 1 ≤ p3 + 2 + 401; omega)) s hs
      have o4 := (MI_6 (T := T) tb o2 o1).1
      have hd0 : s.2.2.2.1 = 0 := by
        have : dpW s.2.2.2.2.1 = s.2.2.2.1 := o2.2.2.2.1
        rw [← this, o4]
        rfl
      rw [hd0, o4] at b3
      have gE : gI h6 159 21 = nI (s.2.2.2.2.2 ++ E0).length := b3.1.2.2.2.2.2.2
      have ee := e1 h6 b1 v6 b3.1.2.1 y177
      rw [gE] at ee
      refine ⟨_, ee, fr_tr f5 (fr_tr (Sv_w b2) (fr_tr (fr_pI (Sk9_t (by omega))) (fr_pI (Sk9_t (by omega))))), [], s.2.2.2.2.2 ++ E0, RM_o (RM_o b3 (by omega) _) (by omega) _, jn_len L s.2.2.2.2.2 E0 hE, ?_⟩
      generalize s.2.2.2.2.2 = F at *
      obtain ⟨⟨x1, x2, x3⟩, x4, x5, x6⟩ := X6
      refine ⟨⟨by rw [gI_pI, if_neg (by omega), gI_pI, if_neg (by omega)]; exact x1, by rw [gI_pI, if_neg (by omega), gI_pI, if_neg (by omega)]; exact x2, by rw [gI_pI, if_pos ⟨rfl, rfl⟩]; show _ = nI (L ++ [F.reverse]).length; rw [List.length_append]; rfl⟩, fun i hi => by rw [gI_pI, if_neg (by omega), gI_pI, if_neg (by omega)]; exact x4 i hi, fun i hi => by rw [gI_pI, if_neg (by omega), gI_pI, if_neg (by omega)]; exact x5 i hi, fun k R hR => ?_⟩
      have hR' : (L ++ [F.reverse])[k]? = some R := hR
      rw [List.reverse_append]
      by_cases hk' : k < L.length
      · rw [List.getElem?_append_left hk'] at hR'
        obtain ⟨s', s1, s2, s3, s4⟩ := x6 k R hR'
        refine ⟨s', by rw [List.length_append]; omega, by rw [gI_pI, if_neg (by omega), gI_pI, if_neg (by omega)]; exact s2, by rw [gI_pI, if_neg (by omega), gI_pI, if_neg (by omega)]; exact s3, fun j e hj => ?_⟩
        have z := s4 j e hj
        rw [List.getElem?_append_left (List.getElem?_eq_some_iff.mp z).1]
        exact z
      · rw [List.getElem?_append_right (by omega)] at hR'
        have hk0 : k - L.length = 0 := by
          have := (List.getElem?_eq_some_iff.mp hR').1
          have e1 : ([F.reverse] : List Cd).length = 1 := rfl
          omega
        have hkL : k = L.length := by omega
        rw [hk0] at hR'
        have eR : F.reverse = R := Option.some.inj hR'
        subst hkL
        rw [← eR]
        refine ⟨E0.length, by rw [List.length_reverse, List.length_append]; omega, by rw [gI_pI, if_neg (by omega), gI_pI, if_neg (by omega)]; exact y175, by rw [gI_pI, if_neg (by omega), gI_pI, if_pos ⟨rfl, rfl⟩, List.length_reverse, List.length_append, Nat.add_comm], fun j e hj => ?_⟩
        rw [List.getElem?_append_right (by rw [List.length_reverse]; omega), List.length_reverse, Nat.add_sub_cancel_left]
        exact hj
end
