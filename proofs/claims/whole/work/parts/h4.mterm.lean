/-! the reference between clauses: terms -/
theorem nI_all (x : Int32) : ∃ m, x = nI m := ⟨x.toBitVec.toNat, by
  apply Int32.toBitVec_inj.1
  show x.toBitVec = BitVec.ofNat 32 x.toBitVec.toNat
  simp⟩
theorem stk_ex (h : ax_H) (a : Nat) : ∀ l : Nat, ∃ o : List Nat, o.length = l ∧ stk h a o
  | 0 => ⟨[], rfl, trivial⟩
  | l + 1 => by
    obtain ⟨o, h1, h2⟩ := stk_ex h a l
    obtain ⟨m, hm⟩ := nI_all (gI h a l)
    exact ⟨m :: o, by rw [List.length_cons, h1], by rw [h1]; exact hm, h2⟩
def Sk9 (w a k : Nat) : Bool := decide ((a = 159 ∧ (k = 18 ∨ k = 19 ∨ (21 ≤ k ∧ k ≤ 25))) ∨ a = 181 ∨ ((a = 173 ∨ a = 174) ∧ 300 * w ≤ k ∧ k < 300 * w + 300) ∨ ((a = 175 ∨ a = 176) ∧ 12 * w ≤ k ∧ k < 12 * w + 12) ∨ ((a = 177 ∨ a = 178) ∧ k = w) ∨ ((a = 179 ∨ a = 180) ∧ 6 * w ≤ k ∧ k < 6 * w + 6))
theorem Sk9_t {w a k : Nat} (h : (a = 159 ∧ (k = 18 ∨ k = 19 ∨ (21 ≤ k ∧ k ≤ 25))) ∨ a = 181 ∨ ((a = 173 ∨ a = 174) ∧ 300 * w ≤ k ∧ k < 300 * w + 300) ∨ ((a = 175 ∨ a = 176) ∧ 12 * w ≤ k ∧ k < 12 * w + 12) ∨ ((a = 177 ∨ a = 178) ∧ k = w) ∨ ((a = 179 ∨ a = 180) ∧ 6 * w ≤ k ∧ k < 6 * w + 6)) : Sk9 w a k = true := decide_eq_true h
theorem Sk9_f {w a k : Nat} (h : ¬ ((a = 159 ∧ (k = 18 ∨ k = 19 ∨ (21 ≤ k ∧ k ≤ 25))) ∨ a = 181 ∨ ((a = 173 ∨ a = 174) ∧ 300 * w ≤ k ∧ k < 300 * w + 300) ∨ ((a = 175 ∨ a = 176) ∧ 12 * w ≤ k ∧ k < 12 * w + 12) ∨ ((a = 177 ∨ a = 178) ∧ k = w) ∨ ((a = 179 ∨ a = 180) ∧ 6 * w ≤ k ∧ k < 6 * w + 6))) : Sk9 w a k = false := decide_eq_false h
theorem Sv_w {w : Nat} {h h' : ax_H} (q : fr (Sv w) h h') : fr (Sk9 w) h h' := fr_le q fun a k z => by simp only [Sv, Sk9, decide_eq_false_iff_not] at z ⊢; omega
theorem TM_sw {w : Nat} {h h' : ax_H} {T : Nat → Nat} {n : Nat} (q : fr (Sk9 w) h h') (t : TM h T n) : TM h' T n := ⟨(fr_I q (Sk9_f (by omega))).trans t.1, fun i => (fr_I q (Sk9_f (by omega))).trans (t.2 i)⟩
def RWx (h : ax_H) (w ft : Nat) (hd : Int32) (dg hl : Nat → Int32) (L : List Cd) (E0 : Cd) : Prop := (gI h 159 25 = nI ft ∧ gI h 178 w = hd ∧ gI h 177 w = nI L.length) ∧ (∀ t, t < 6 → gI h 179 (6 * w + t) = dg t) ∧ (∀ t, t < 6 → gI h 180 (6 * w + t) = hl t) ∧ ∀ c R, L[c]? = some R → ∃ s, s + R.length ≤ E0.length ∧ gI h 175 (12 * w + c) = nI s ∧ gI h 176 (12 * w + c) = nI (s + R.length) ∧ ∀ k e, R[k]? = some e → E0.reverse[s + k]? = some e
def RWy (h : ax_H) (w p c ft : Nat) (hd : Int32) (dg hl : Nat → Int32) (L : List Cd) : Prop := ∃ o E0, RM h w p c 0 o E0 ∧ E0.length ≤ (jnT L).length ∧ RWx h w ft hd dg hl L E0
theorem RWx_v {h h' : ax_H} {w ft : Nat} {hd : Int32} {dg hl : Nat → Int32} {L : List Cd} {E0 : Cd} (q : fr (Sv w) h h') (r : RWx h w ft hd dg hl L E0) : RWx h' w ft hd dg hl L E0 := by
  obtain ⟨⟨r1, r2, r3⟩, r4, r5, r6⟩ := r
  refine ⟨⟨(fr_I q (Sv_f (by omega))).trans r1, (fr_I q (Sv_f (by omega))).trans r2, (fr_I q (Sv_f (by omega))).trans r3⟩, fun t ht => (fr_I q (Sv_f (by omega))).trans (r4 t ht), fun t ht => (fr_I q (Sv_f (by omega))).trans (r5 t ht), fun c R hR => ?_⟩
  obtain ⟨s, s1, s2, s3, s4⟩ := r6 c R hR
  exact ⟨s, s1, (fr_I q (Sv_f (by omega))).trans s2, (fr_I q (Sv_f (by omega))).trans s3, s4⟩
theorem RM_o {h : ax_H} {w p c d : Nat} {o : List Nat} {E : Cd} (r : RM h w p c d o E) {a k : Nat} (ha : (a = 159 ∧ k = 25) ∨ (175 ≤ a ∧ a ≤ 180)) (x : Int32) : RM (pI h a k x) w p c d o E := by
  obtain ⟨⟨r1, r2, r3, r4, r5, r6, r7⟩, r8, r9⟩ := r
  exact ⟨⟨by rw [gI_pI, if_neg (by omega)]; exact r1, by rw [gI_pI, if_neg (by omega)]; exact r2, by rw [gI_pI, if_neg (by omega)]; exact r3, by rw [gI_pI, if_neg (by omega)]; exact r4, by rw [gI_pI, if_neg (by omega)]; exact r5, by rw [gI_pI, if_neg (by omega)]; exact r6, by rw [gI_pI, if_neg (by omega)]; exact r7⟩, stk_eq o (fun k _ => by rw [gI_pI, if_neg (by omega)]) r8, stk2_eq E (fun k _ => ⟨by rw [gI_pI, if_neg (by omega)], by rw [gI_pI, if_neg (by omega)]⟩) r9⟩
theorem RF_o {h : ax_H} {w f q : Nat} (r : RF h w f q) {a k : Nat} (ha : (a = 159 ∧ 21 ≤ k) ∨ (175 ≤ a ∧ a ≤ 180)) (x : Int32) : RF (pI h a k x) w f q := by
  obtain ⟨a1, a2, a3, p', a4, a5⟩ := r
  exact ⟨by rw [gI_pI, if_neg (by omega)]; exact a1, a2, by rw [gI_pI, if_neg (by omega)]; exact a3, p', by rw [gI_pI, if_neg (by omega)]; exact a4, a5⟩
theorem RF_p {h : ax_H} {w f q : Nat} (r : RF h w f q) {p j : Nat} (hp : gI h 159 18 = nI p) (hq : p + j ≤ 2000) {q' : Nat} (hj : p + j ≤ q') : RF (pI h 159 18 (nI (p + j))) w f q' := by
  obtain ⟨a1, a2, a3, p', a4, a5⟩ := r
  exact ⟨by rw [gI_pI, if_neg (by omega)]; exact a1, a2, by rw [gI_pI, if_neg (by omega)]; exact a3, p + j, by rw [gI_pI, if_pos ⟨rfl, rfl⟩], hj⟩
theorem m_rows {h : ax_H} (w : ok h) : (gS h 175 = (16, 120) ∧ gS h 176 = (16, 120) ∧ gS h 177 = (16, 10) ∧ gS h 178 = (16, 10) ∧ gS h 179 = (16, 60) ∧ gS h 180 = (16, 60)) ∧ gR h 159 29 = 175 ∧ gR h 159 30 = 176 ∧ gR h 159 31 = 177 ∧ gR h 159 32 = 178 ∧ gR h 159 33 = 179 ∧ gR h 159 34 = 180 := by obtain ⟨wS, wR, wG, wN⟩ := w; simp only [wS, wR, and_self]
theorem chsT : ∀ k : Nat, k < 6 → chs (29 + k) = (wsL 2).getD k [] := by decide +kernel
theorem zm_termName {k : Nat} (hk : k < 6) (h : ax_H) : M_termName (nI k) h = some (29 + k, h) := by
  have : k = 0 ∨ k = 1 ∨ k = 2 ∨ k = 3 ∨ k = 4 ∨ k = 5 := by omega
  rcases this with rfl | rfl | rfl | rfl | rfl | rfl <;> (rw [M_termName_eq]; rfl)
def tK (o : Option (Nat × Nat)) : Nat := match o with
  | none => 6
  | some r => r.1
def tmE (T : Nat → Nat) (n : Nat) (b : Bool) (p ft : Nat) (dg : Nat → Int32) : Sum Nat (Nat × Nat) := match fW T n (wsL 2) 0 (sb T n p) with
  | none => .inl (1 + 8 * sb T n p + 0)
  | some r => if ¬ dg r.1 = 0 ∨ (b = true ∧ ft = 3) then .inl (1 + 8 * sb T n p + 5) else .inr r
def tmQ (T : Nat → Nat) (n how c ft : Nat) (hd : Int32) (dg hl : Nat → Int32) (L : List Cd) : Sum Nat (Nat × Nat) → Sum Nat Ws
  | .inl f => .inl f
  | .inr r => if how = 2 then hlP T n r.2 c ft hd (upI dg r.1 2) hl L r.1 else .inr (r.2, c, (if how = 1 then ft + 1 else ft), hd, upI dg r.1 (nI how), hl, L)
theorem tm_eq (T : Nat → Nat) (n how p c ft : Nat) (hd : Int32) (dg hl : Nat → Int32) (L : List Cd) : tmP T n how p c ft hd dg hl L = tmQ T n how c ft hd dg hl L (tmE T n (decide (how = 1)) p ft dg) := by
  unfold tmP tmE
  cases fW T n (wsL 2) 0 (sb T n p) with
  | none => rfl
  | some r =>
    show (if ¬ dg r.1 = 0 ∨ (how = 1 ∧ ft = 3) then _ else _) = tmQ T n how c ft hd dg hl L (if ¬ dg r.1 = 0 ∨ (decide (how = 1) = true ∧ ft = 3) then Sum.inl (1 + 8 * sb T n p + 5) else Sum.inr r)
    by_cases q : ¬ dg r.1 = 0 ∨ (how = 1 ∧ ft = 3)
    · rw [if_pos q, if_pos (show ¬ dg r.1 = 0 ∨ (decide (how = 1) = true ∧ ft = 3) from q.elim Or.inl (fun z => Or.inr ⟨decide_eq_true z.1, z.2⟩))] <;> rfl
    · rw [if_neg q, if_neg (show ¬ (¬ dg r.1 = 0 ∨ (decide (how = 1) = true ∧ ft = 3)) from fun z => q (z.elim Or.inl (fun y => Or.inr ⟨of_decide_eq_true y.1, y.2⟩)))] <;> rfl
section
theorem zm_t6 {T : Nat → Nat} {n : Nat} (hn : n ≤ 400) (tb : ∀ i, T i < 256) {p : Nat} (hpb : p ≤ 1000) {h : ax_H} (w : ok h) (t : TM h T n) (hp : gI h 159 18 = nI p) (b : Int32) : ∀ (L : List (List Nat)) (k : Nat), (wsL 2).drop k = L → k ≤ 6 → M_term_6 159 b (nI k) h = M_term_29 159 b (nI (tK (fW T n L k p))) h := by
  have l5 : (wsL 2).length = 6 := rfl
  intro L
  induction L with
  | nil =>
    intro k hd hk
    have : k = 6 := by
      by_cases q : k < (wsL 2).length
      · rw [List.drop_eq_getElem_cons q] at hd; cases hd
      · omega
    subst this
    rw [M_term_6_eq, if_pos (by decide)]
    rfl
  | cons x L ih =>
    intro k hd hk
    have hlt : k < (wsL 2).length := by
      by_cases q : k < (wsL 2).length
      · exact q
      · rw [List.drop_eq_nil_of_le (by omega)] at hd; cases hd
    rw [List.drop_eq_getElem_cons hlt] at hd
    injection hd with hd1 hd3
    have hx : chs (29 + k) = x := by rw [chsT k (by omega), List.getD_eq_getElem?_getD, List.getElem?_eq_getElem hlt, hd1]; rfl
    have nk : ¬ (6 : Int32) ≤ nI k := fun z => by have := (nJ_le (a := 6) (b := k) (by omega) (by omega)).mp z; omega
    have st := zm_stands hn tb (x := 29 + k) (by omega) hpb w t hp
    rw [hx] at st
    rw [M_term_6_eq, if_neg (by rw [decide_eq_true_eq]; exact nk), bnd (zm_termName (by omega) h), fW]
    simp only [m_159 w, ↓reduceIte]
    rw [bnd st]
    cases q : wD T n x p with
    | true =>
      rw [if_pos rfl]
      exact if_pos (show decide (¬ bB true = 0) = true by decide)
    | false =>
      rw [show (if (false : Bool) = true then (some (k, p + x.length) : Option (Nat × Nat)) else fW T n L (k + 1) p) = fW T n L (k + 1) p from if_neg (by decide)]
      refine (if_neg (show ¬ decide (¬ bB false = 0) = true by decide)).trans ?_
      rw [nJ_p1]
      exact ih (k + 1) hd3 (by omega)
theorem zm_adv {T : Nat → Nat} {n : Nat} (hn : n ≤ 400) (tb : ∀ i, T i < 256) {k : Nat} (hk : k < 6) {h : ax_H} (v : ok h) (P : Int32) : (M_termName (nI k) h).bind (fun r4 => if 1 ≤ r4.1 ∧ r4.1 ≤ 34 then (Js_length r4.1 r4.2).bind (fun r5 => if (gS r5.2 159).1 = 11 then some (nI k, pI r5.2 159 18 (P + r5.1)) else none) else none) = some (nI k, pI h 159 18 (P + nI (chs (29 + k)).length)) := by
  have b1 : 1 ≤ 29 + k ∧ 29 + k ≤ 34 := by omega
  rw [bnd (zm_termName hk h)]
  show (if 1 ≤ 29 + k ∧ 29 + k ≤ 34 then (Js_length (29 + k) h).bind (fun r5 => if (gS r5.2 159).1 = 11 then some (nI k, pI r5.2 159 18 (P + r5.1)) else none) else none) = _
  rw [if_pos b1, bnd (z_len b1 h)]
  exact if_pos (m_159 v)
theorem zm_term {T : Nat → Nat} {n : Nat} (hn : n ≤ 400) (tb : ∀ i, T i < 256) {h : ax_H} (v : ok h) (t : TM h T n) {w p c ft : Nat} {o : List Nat} {E0 : Cd} {hd : Int32} {dg hl : Nat → Int32} {L : List Cd} (r : RM h w p c 0 o E0) (x : RWx h w ft hd dg hl L E0) (hp : p ≤ n) (hft : ft ≤ 3) (hw : w < 10) (b : Bool) : (∀ f, tmE T n b p ft dg = .inl f → ∃ y h', M_term 159 (bB b) h = some (y, h') ∧ fr (Sv w) h h' ∧ RF h' w f 600) ∧ ∀ q, tmE T n b p ft dg = .inr q → ∃ h', M_term 159 (bB b) h = some (nI q.1, h') ∧ fr (Sv w) h h' ∧ RM h' w q.2 c 0 o E0 := by
  obtain ⟨h1, a1, a2, a3⟩ := zm_blanks hn tb v t r.1.2.2.1 (by omega)
  have hle : sb T n p ≤ n := sb_le hp
  have v1 := ok_fr a2 v
  have t1 := TM_8 a2 t
  have R1 := RM_8 r a2 a3
  have X1 := RWx_v (Sq_w a2) x
  unfold tmE
  generalize sb T n p = p1 at *
  have e0 : M_term 159 (bB b) h = M_term_29 159 (bB b) (nI (tK (fW T n (wsL 2) 0 p1))) h1 := by
    rw [M_term_eq, if_pos (m_159 v), bnd a1]
    exact zm_t6 hn tb (by omega) v1 t1 a3 (bB b) (wsL 2) 0 rfl (by omega)
  rw [e0]
  cases hf : fW T n (wsL 2) 0 p1 with
  | none =>
    refine ⟨fun f q => ?_, fun q hq => (by cases hq)⟩
    injection q with q
    rw [← q]
    refine ⟨0, pI h1 159 19 (nI (1 + 8 * p1 + 0)), ?_, fr_tr (Sq_w a2) (fr_pI (Sv_t (by omega))), RF_of R1 (by omega) (by omega)⟩
    show M_term_29 159 (bB b) (nI 6) h1 = _
    rw [M_term_29_eq, if_neg (by decide), if_pos (m_159 v1), if_pos (m_159 v1), a3, bnd (zm_failsG v1 R1.1.1 p1 0 (c' := 0) rfl)]
  | some q =>
    have h6 : q.1 < 6 := by
      have := fW_lt T n (wsL 2) 0 p1 q hf
      have e : (wsL 2).length = 6 := rfl
      omega
    obtain ⟨f1, f2⟩ := fW_at (wsL 2) 0 q hf
    rw [Nat.sub_zero, ← chsT q.1 h6] at f1 f2
    have hq2 := (fW_le (wsL 2) 0 p1 q (by decide) hle hf).2
    obtain ⟨⟨s175, s176, s177, s178, s179, s180⟩, g29, g30, g31, g32, g33, g34⟩ := m_rows v1
    have g20 : gI h1 159 20 = nI w := R1.1.2.1
    have n6 : ¬ nI q.1 = 6 := fun z => by have := (nJ_eq (a := q.1) (b := 6) (by omega) (by omega)).mp z; omega
    have ti : (nI (6 * w + q.1)).toNatClampNeg = 6 * w + q.1 := nJ_n (by omega)
    have ni : ¬ nI (6 * w + q.1) < 0 := nJ_nn (by omega)
    have hi : 6 * w + q.1 < 60 := by omega
    have gd : gI h1 179 (6 * w + q.1) = dg q.1 := X1.2.1 q.1 h6
    have gf : gI h1 159 25 = nI ft := X1.1.1
    have z3 : nI ft = 3 ↔ ft = 3 := by rw [show (3 : Int32) = nI 3 from rfl, nJ_eq (by omega) (by omega)]
    have e29 : M_term_29 159 (bB b) (nI q.1) h1 = if decide (¬ dg q.1 = 0) = true then M_term_75 159 (nI q.1) h1 else (if decide (bB b = 0) = true then some (nI q.1, pI h1 159 18 (nI q.2)) else (if decide (¬ nI ft = 3) = true then some (nI q.1, pI h1 159 18 (nI q.2)) else M_term_75 159 (nI q.1) h1)) := by
      have ad := zm_adv hn tb h6 v1 (nI p1)
      rw [nI_add, ← f1] at ad
      rw [M_term_29_eq, if_pos (decide_eq_true n6)]
      simp only [m_159 v1, ↓reduceIte, g20, g33, show (6 : Int32) = nI 6 from rfl, pk_mul, nI_add, ax_in, s179, ti, ni, hi, not_false_eq_true, and_self, gd, gf, a3]
      rw [ad]
    have bad : ∃ y h', M_term_75 159 (nI q.1) h1 = some (y, h') ∧ fr (Sv w) h h' ∧ RF h' w (1 + 8 * p1 + 5) 600 := by
      have vf : ok (pI h1 159 19 (nI (1 + 8 * p1 + 5))) := ok_pI v1 _ _ _
      have RFx : RF (pI h1 159 19 (nI (1 + 8 * p1 + 5))) w (1 + 8 * p1 + 5) 400 := RF_of R1 (by omega) (by omega)
      have g18 : gI (pI h1 159 19 (nI (1 + 8 * p1 + 5))) 159 18 = nI p1 := by rw [gI_pI, if_neg (by omega)]; exact a3
      have ad := zm_adv hn tb h6 vf (nI p1)
      rw [nI_add] at ad
      have cb := (chs_b (29 + q.1) (by omega)).1
      refine ⟨nI q.1, pI (pI h1 159 19 (nI (1 + 8 * p1 + 5))) 159 18 (nI (p1 + (chs (29 + q.1)).length)), ?_, fr_tr (Sq_w a2) (fr_tr (fr_pI (Sv_t (by omega))) (fr_pI (Sv_t (by omega)))), RF_p RFx g18 (j := (chs (29 + q.1)).length) (by omega) (by omega)⟩
      rw [M_term_75_eq]
      simp only [m_159 v1, ↓reduceIte, a3]
      rw [bnd (zm_failsG v1 R1.1.1 p1 5 (c' := 5) rfl)]
      simp only [m_159 vf, ↓reduceIte, g18]
      exact ad
    have good : ∀ P, P = some (nI q.1, pI h1 159 18 (nI q.2)) → ∃ h', P = some (nI q.1, h') ∧ fr (Sv w) h h' ∧ RM h' w q.2 c 0 o E0 := fun P hP => ⟨pI h1 159 18 (nI q.2), hP, fr_tr (Sq_w a2) (fr_pI (Sv_t (by omega))), RM_p R1 q.2⟩
    show (∀ f, (if ¬ dg q.1 = 0 ∨ (b = true ∧ ft = 3) then Sum.inl (1 + 8 * p1 + 5) else Sum.inr q) = (Sum.inl f : Sum Nat (Nat × Nat)) → ∃ y h', M_term_29 159 (bB b) (nI q.1) h1 = some (y, h') ∧ fr (Sv w) h h' ∧ RF h' w f 600) ∧ ∀ x, (if ¬ dg q.1 = 0 ∨ (b = true ∧ ft = 3) then Sum.inl (1 + 8 * p1 + 5) else Sum.inr q) = (Sum.inr x : Sum Nat (Nat × Nat)) → ∃ h', M_term_29 159 (bB b) (nI q.1) h1 = some (nI x.1, h') ∧ fr (Sv w) h h' ∧ RM h' w x.2 c 0 o E0
    rw [e29]
    by_cases c1 : dg q.1 = 0
    · rw [if_neg (show ¬ decide (¬ dg q.1 = 0) = true by rw [decide_eq_true_eq]; exact fun z => z c1)]
      cases b with
      | false =>
        rw [if_neg (show ¬ (¬ dg q.1 = 0 ∨ (false = true ∧ ft = 3)) from fun z => z.elim (fun y => y c1) (fun y => absurd y.1 (by decide))), if_pos (show decide (bB false = 0) = true by decide)]
        refine ⟨fun f z => (by cases z), fun x z => ?_⟩
        injection z with z
        rw [← z]
        exact good _ rfl
      | true =>
        rw [if_neg (show ¬ decide (bB true = 0) = true by decide)]
        by_cases c3 : ft = 3
        · rw [if_pos (show ¬ dg q.1 = 0 ∨ (true = true ∧ ft = 3) from Or.inr ⟨rfl, c3⟩), if_neg (show ¬ decide (¬ nI ft = 3) = true by rw [decide_eq_true_eq]; exact fun z => z (z3.mpr c3))]
          refine ⟨fun f z => ?_, fun x z => (by cases z)⟩
          injection z with z
          rw [← z]
          exact bad
        · rw [if_neg (show ¬ (¬ dg q.1 = 0 ∨ (true = true ∧ ft = 3)) from fun z => z.elim (fun y => y c1) (fun y => c3 y.2)), if_pos (show decide (¬ nI ft = 3) = true from decide_eq_true (fun z => c3 (z3.mp z)))]
          refine ⟨fun f z => (by cases z), fun x z => ?_⟩
          injection z with z
          rw [← z]
          exact good _ rfl
    · rw [if_pos (show decide (¬ dg q.1 = 0) = true from decide_eq_true c1), if_pos (show ¬ dg q.1 = 0 ∨ (b = true ∧ ft = 3) from Or.inl c1)]
      refine ⟨fun f z => ?_, fun x z => (by cases z)⟩
      injection z with z
      rw [← z]
      exact bad
end
