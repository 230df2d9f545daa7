/-! the class's clauses -/
abbrev Ws : Type := Nat × Nat × Nat × Int32 × (Nat → Int32) × (Nat → Int32) × List Cd
def upI (f : Nat → Int32) (t : Nat) (v : Int32) : Nat → Int32 := fun k => if k = t then v else f k
def hlP (T : Nat → Nat) (n p c ft : Nat) (hd : Int32) (dg hl : Nat → Int32) (L : List Cd) (t : Nat) : Sum Nat Ws := match rdN T n 99999 (if sgI T n (sb T n p) = 45 then sb T n p + 1 else sb T n p) with
  | .inl f => .inl f
  | .inr r => .inr (r.2, c, ft, hd, dg, upI hl t (if sgI T n (sb T n p) = 45 then -(nI r.1) else nI r.1), L)
def tmP (T : Nat → Nat) (n how p c ft : Nat) (hd : Int32) (dg hl : Nat → Int32) (L : List Cd) : Sum Nat Ws := match fW T n (wsL 2) 0 (sb T n p) with
  | none => .inl (1 + 8 * sb T n p + 0)
  | some r => if ¬ dg r.1 = 0 ∨ (how = 1 ∧ ft = 3) then .inl (1 + 8 * sb T n p + 5) else if how = 2 then hlP T n r.2 c ft hd (upI dg r.1 2) hl L r.1 else .inr (r.2, c, (if how = 1 then ft + 1 else ft), hd, upI dg r.1 (nI how), hl, L)
def hdP (T : Nat → Nat) (n b p c ft : Nat) (hd : Int32) (dg hl : Nat → Int32) (L : List Cd) : Sum Nat Ws := if hd = -1 then (match rdN T n 7 (sb T n p) with
    | .inl f => .inl f
    | .inr r => .inr (r.2, c, ft, nI r.1, dg, hl, L)) else .inl (1 + 8 * b + 5)
def lvP (T : Nat → Nat) (n p c ft : Nat) (hd : Int32) (dg hl : Nat → Int32) (L : List Cd) : Sum Nat Ws := if wD T n [105, 102] (sb T n p) = true then (match rnM T n 401 (0, sb T n p + 2, c, 0, [], []) with
    | .inl f => .inl f
    | .inr s => .inr (s.2.1, s.2.2.1, ft, hd, dg, hl, L ++ [s.2.2.2.2.2.reverse])) else .inl (1 + 8 * sb T n p + 0)
def clC (T : Nat → Nat) (n k p c ft : Nat) (hd : Int32) (dg hl : Nat → Int32) (L : List Cd) : Sum Nat Ws := match fW T n (wsL 1) 0 (sb T n p) with
  | none => .inl (1 + 8 * sb T n p + 0)
  | some r => if k < 12 then (if r.1 = 0 then tmP T n 1 r.2 c ft hd dg hl L else if r.1 = 1 then tmP T n 2 r.2 c ft hd dg hl L else if r.1 = 2 then tmP T n 3 r.2 c ft hd dg hl L else if r.1 = 3 then lvP T n r.2 c ft hd dg hl L else hdP T n (sb T n p) r.2 c ft hd dg hl L) else .inl (1 + 8 * sb T n p + 4)
/-- the class's reader between clauses -/
def RWd (h : ax_H) (p c ft : Nat) (hd : Int32) (dg hl : Nat → Int32) (E0 : Cd) : Prop := (gI h 93 3 = nI p ∧ gI h 93 4 = nI c ∧ gI h 93 5 = nI ft ∧ gI h 93 6 = hd ∧ gI h 93 11 = nI E0.length) ∧ (∀ t, t < 6 → gI h 97 t = dg t) ∧ (∀ t, t < 6 → gI h 98 t = hl t) ∧ stk h 96 (E0.map cdN)
def rsw (h : ax_H) (P : Option (Int32 × ax_H)) : Sum Nat Ws → Prop
  | .inl f => ∃ h', P = some (0, h') ∧ flt h h' f
  | .inr s => ∃ h', P = some (1, h') ∧ fr Sx h h' ∧ RWd h' s.1 s.2.1 s.2.2.1 s.2.2.2.1 s.2.2.2.2.1 s.2.2.2.2.2.1 (jnT s.2.2.2.2.2.2).reverse
theorem rsw_x {h h1 : ax_H} {P : Option (Int32 × ax_H)} {o : Sum Nat Ws} (q : fr Sx h h1) (p : rsw h1 P o) : rsw h P o := by
  cases o with
  | inl f =>
    obtain ⟨h', a, b⟩ := p
    exact ⟨h', a, flt_y q b⟩
  | inr s =>
    obtain ⟨h', a, b, c⟩ := p
    exact ⟨h', a, fr_tr q b, c⟩
theorem rsw_01 {h : ax_H} {P : Option (Int32 × ax_H)} {o : Sum Nat Ws} (p : rsw h P o) : rsw h (P.bind fun r => if r.1 = 0 ∨ r.1 = 1 then some (r.1, r.2) else none) o := by
  cases o with
  | inl f =>
    obtain ⟨h', a, b⟩ := p
    exact ⟨h', by rw [bnd a]; exact if_pos (Or.inl rfl), b⟩
  | inr s =>
    obtain ⟨h', a, b, c⟩ := p
    exact ⟨h', by rw [bnd a]; exact if_pos (Or.inr rfl), b, c⟩
theorem RWd_Sp {h h' : ax_H} {p c ft : Nat} {hd : Int32} {dg hl : Nat → Int32} {E0 : Cd} (r : RWd h p c ft hd dg hl E0) (q : fr Sp h h') {p' : Nat} (hp : gI h' 93 3 = nI p') : RWd h' p' c ft hd dg hl E0 := by
  obtain ⟨⟨r1, r2, r3, r4, r5⟩, r6, r7, r8⟩ := r
  exact ⟨⟨hp, (fr_I q rfl).trans r2, (fr_I q rfl).trans r3, (fr_I q rfl).trans r4, (fr_I q rfl).trans r5⟩, fun t ht => (fr_I q rfl).trans (r6 t ht), fun t ht => (fr_I q rfl).trans (r7 t ht), stk_eq _ (fun k _ => fr_I q rfl) r8⟩
theorem s97 {h : ax_H} (w : ok h) : gS h 97 = (16, 6) ∧ gS h 98 = (16, 6) ∧ gR h 93 13 = 97 ∧ gR h 93 14 = 98 := by obtain ⟨wS, wR, wG, wN⟩ := w; simp only [wS, wR, and_self]
section
theorem z_held {T : Nat → Nat} {n : Nat} (tb : ∀ i, T i < 256) {h : ax_H} (w : ok h) (t : TC h T n) {p c ft : Nat} {hd : Int32} {dg hl : Nat → Int32} {L : List Cd} (r : RWd h p c ft hd dg hl (jnT L).reverse) (hp : p ≤ n) {k : Nat} (hk : k < 6) : rsw h (Rd_readHeld 93 (nI k) h) (hlP T n p c ft hd dg hl L k) := by
  have t1 := t.1
  have s0 := s_93 w
  obtain ⟨h1, a1, a2, a3⟩ := z_next tb w t r.1.1 (by omega)
  have hle : sb T n p ≤ n := sb_le hp
  have w1 := ok_fr a2 w
  have t1' := TC_Sp a2 t
  have R := RWd_Sp r a2 a3
  unfold hlP
  generalize sb T n p = p1 at *
  have tk : (nI k).toNatClampNeg = k := nJ_n (by omega)
  have nk : ¬ nI k < 0 := nJ_nn (by omega)
  have go : ∀ (v2 : Int32) (h2 : ax_H) (p2 : Nat) (b : Bool), (b = true ↔ ¬ v2 = 0) → ok h2 → TC h2 T n → RWd h2 p2 c ft hd dg hl (jnT L).reverse → p2 ≤ n → rsw h2 (Rd_readHeld_29 93 (nI k) v2 h2) (match rdN T n 99999 p2 with
    | .inl f => .inl f
    | .inr r => .inr (r.2, c, ft, hd, dg, upI hl k (if b = true then -(nI r.1) else nI r.1), L)) := by
    intro v2 h2 p2 b hb w2 t2 R2 hp2
    have s2 := s_93 w2
    obtain ⟨n1, n2⟩ := z_readNumber tb w2 t2 R2.1.1 hp2 (most := 99999) (by omega)
    rw [Rd_readHeld_29_eq, if_pos s2]
    cases hr : rdN T n 99999 p2 with
    | inl f =>
      obtain ⟨h3, b1, b2⟩ := n1 f hr
      have b1' : Rd_readNumber 93 99999 h2 = some (-1, h3) := b1
      rw [bnd b1']
      exact ⟨h3, rfl, b2⟩
    | inr q =>
      obtain ⟨h3, b1, b2, b3⟩ := n2 q hr
      have b1' : Rd_readNumber 93 99999 h2 = some (nI q.1, h3) := b1
      have w3 := ok_fr b2 w2
      have s3 := s_93 w3
      obtain ⟨-, e98, -, e14⟩ := s97 w3
      have R3 := RWd_Sp R2 b2 b3
      have nm : ¬ nI q.1 = -1 := nI_neg1 (by have := (rd_lt hp2 hr).1; omega)
      have fin : ∀ v : Int32, RWd (pI h3 98 k v) q.2 c ft hd dg (upI hl k v) (jnT L).reverse := fun v => by
        obtain ⟨⟨u1, u2, u3, u4, u5⟩, u6, u7, u8⟩ := R3
        refine ⟨⟨u1, u2, u3, u4, u5⟩, u6, fun j hj => ?_, stk_eq _ (fun j _ => by rw [gI_pI, if_neg (by omega)]) u8⟩
        unfold upI
        rw [gI_pI]
        by_cases z : j = k
        · rw [if_pos ⟨rfl, z⟩, if_pos z]
        · rw [if_neg (fun y => z y.2), if_neg z]; exact u7 j hj
      rw [bnd b1']
      by_cases z : v2 = 0
      · have hb' : ¬ b = true := fun y => hb.mp y z
        refine ⟨pI h3 98 k (nI q.1), ?_, fr_tr (Sp_x b2) (fr_pI rfl), ?_⟩
        · simp only [nm, not_false_eq_true, decide_true, ↓reduceIte, s3, z, e14, ax_in, e98, tk, nk, hk, and_self]
        · show RWd _ q.2 c ft hd dg (upI hl k (if b = true then -(nI q.1) else nI q.1)) _
          rw [if_neg hb']; exact fin _
      · have hb' : b = true := hb.mpr z
        refine ⟨pI h3 98 k (-(nI q.1)), ?_, fr_tr (Sp_x b2) (fr_pI rfl), ?_⟩
        · simp only [nm, not_false_eq_true, decide_true, decide_false, Bool.false_eq_true, ↓reduceIte, s3, z, e14, ax_in, e98, tk, nk, hk, and_self]
        · show RWd _ q.2 c ft hd dg (upI hl k (if b = true then -(nI q.1) else nI q.1)) _
          rw [if_pos hb']; exact fin _
  rw [Rd_readHeld_eq, if_pos s0, bnd a1]
  by_cases q : sgI T n p1 = 45
  · have hlt := sg_lt q (by decide)
    have := go 1 (pI h1 93 3 (nI (p1 + 1))) (p1 + 1) true (by decide) (ok_pI w1 _ _ _) (TC_Sx (fr_pI rfl) t1') (RWd_Sp R (fr_pI rfl) (by rw [gI_pI, if_pos ⟨rfl, rfl⟩])) hlt
    simp only [q, not_true_eq_false, decide_false, Bool.false_eq_true, ↓reduceIte, s_93 w1, a3, nJ_p1] at this ⊢
    exact rsw_x (fr_tr (Sp_x a2) (fr_pI rfl)) this
  · have := go 0 h1 p1 false (by decide) w1 t1' R hle
    simp only [q, not_false_eq_true, decide_true, Bool.false_eq_true, ↓reduceIte] at this ⊢
    exact rsw_x (Sp_x a2) this
theorem z_hand {T : Nat → Nat} {n : Nat} (tb : ∀ i, T i < 256) {h : ax_H} (w : ok h) (t : TC h T n) {p c ft : Nat} {hd : Int32} {dg hl : Nat → Int32} {L : List Cd} (r : RWd h p c ft hd dg hl (jnT L).reverse) (hp : p ≤ n) (b : Nat) : rsw h (Rd_readHand 93 (nI b) h) (hdP T n b p c ft hd dg hl L) := by
  have t1 := t.1
  have s0 := s_93 w
  have g6 : gI h 93 6 = hd := r.1.2.2.2.1
  unfold hdP
  by_cases q : hd = -1
  · obtain ⟨h1, a1, a2, a3⟩ := z_next tb w t r.1.1 (by omega)
    have hle : sb T n p ≤ n := sb_le hp
    have w1 := ok_fr a2 w
    have t1' := TC_Sp a2 t
    have R := RWd_Sp r a2 a3
    obtain ⟨n1, n2⟩ := z_readNumber tb w1 t1' a3 hle (most := 7) (by omega)
    rw [if_pos q, Rd_readHand_eq]
    simp only [s0, ↓reduceIte, g6, q, decide_true]
    rw [bnd a1]
    simp only [s_93 w1, ↓reduceIte]
    refine rsw_x (Sp_x a2) ?_
    cases hr : rdN T n 7 (sb T n p) with
    | inl f =>
      obtain ⟨h2, b1, b2⟩ := n1 f hr
      have b1' : Rd_readNumber 93 7 h1 = some (-1, h2) := b1
      have s2 := s_93 (ok_fr b2.1 w1)
      have e6 : gI (pI h2 93 6 (-1)) 93 6 = -1 := by rw [gI_pI, if_pos ⟨rfl, rfl⟩]
      refine ⟨pI h2 93 6 (-1), ?_, fr_tr b2.1 (fr_pI rfl), by rw [gI_pI, if_neg (by omega)]; exact b2.2⟩
      rw [bnd b1']
      simp only [s2, ↓reduceIte, gS_pI, e6, decide_true]
    | inr q2 =>
      obtain ⟨h2, b1, b2, b3⟩ := n2 q2 hr
      have b1' : Rd_readNumber 93 7 h1 = some (nI q2.1, h2) := b1
      have s2 := s_93 (ok_fr b2 w1)
      have nm : ¬ nI q2.1 = -1 := nI_neg1 (by have := (rd_lt hle hr).1; omega)
      have e6 : gI (pI h2 93 6 (nI q2.1)) 93 6 = nI q2.1 := by rw [gI_pI, if_pos ⟨rfl, rfl⟩]
      obtain ⟨⟨u1, u2, u3, u4, u5⟩, u6, u7, u8⟩ := RWd_Sp R b2 b3
      refine ⟨pI h2 93 6 (nI q2.1), ?_, fr_tr (Sp_x b2) (fr_pI rfl), ⟨by rw [gI_pI, if_neg (by omega)]; exact u1, by rw [gI_pI, if_neg (by omega)]; exact u2, by rw [gI_pI, if_neg (by omega)]; exact u3, e6, by rw [gI_pI, if_neg (by omega)]; exact u5⟩, u6, u7, stk_93 (by omega) u8⟩
      rw [bnd b1']
      simp only [s2, ↓reduceIte, gS_pI, e6, nm, decide_false, Bool.false_eq_true]
  · rw [if_neg q]
    refine ⟨_, ?_, fr_pI rfl, by rw [gI_pI, if_pos ⟨rfl, rfl⟩]⟩
    rw [Rd_readHand_eq]
    simp only [s0, ↓reduceIte, g6, q, decide_false, Bool.false_eq_true]
    rw [bnd (z_fail w b 5 (c' := 5) rfl)]
    rfl
end
