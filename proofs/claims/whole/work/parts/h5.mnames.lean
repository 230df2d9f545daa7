/-! the reference's names, held numbers, hands, takes -/
theorem zm_namesF {h : ax_H} (v : ok h) {u f q : Nat} (r : RF h u f q) (x y : Int32) : M_names 159 x y h = some h := by
  have nz : ¬ nI f = 0 := fun z => by have := (nJ_eq (a := f) (b := 0) (by have := r.2.1; omega) (by omega)).mp z; have := r.2.1; omega
  rw [M_names_eq, if_pos (m_159 v), r.1, if_pos (decide_eq_true nz)]
theorem zm_names {h : ax_H} (v : ok h) {w p c ft : Nat} {o : List Nat} {E0 : Cd} {hd : Int32} {dg hl : Nat → Int32} {L : List Cd} (r : RM h w p c 0 o E0) (x : RWx h w ft hd dg hl L E0) (hw : w < 10) {t how : Nat} (ht : t < 6) (hh : how = 1 ∨ how = 2 ∨ how = 3) {how' : Int32} (eh : how' = nI how) : ∃ h', M_names 159 (nI t) how' h = some h' ∧ fr (Sk9 w) h h' ∧ RM h' w p c 0 o E0 ∧ RWx h' w (if how = 1 then ft + 1 else ft) hd (upI dg t (nI how)) hl L E0 := by
  obtain ⟨⟨s175, s176, s177, s178, s179, s180⟩, g29, g30, g31, g32, g33, g34⟩ := m_rows v
  have g20 : gI h 159 20 = nI w := r.1.2.1
  have ti : (nI (6 * w + t)).toNatClampNeg = 6 * w + t := nJ_n (by omega)
  have ni : ¬ nI (6 * w + t) < 0 := nJ_nn (by omega)
  have hi : 6 * w + t < 60 := by omega
  have gf : gI (pI h 179 (6 * w + t) how') 159 25 = nI ft := by rw [gI_pI, if_neg (by omega)]; exact x.1.1
  have hz : how' = 1 ↔ how = 1 := by rw [eh, show (1 : Int32) = nI 1 from rfl, nJ_eq (by omega) (by omega)]
  refine ⟨pI (pI h 179 (6 * w + t) how') 159 25 (nI (if how = 1 then ft + 1 else ft)), ?_, fr_tr (fr_pI (Sk9_t (by omega))) (fr_pI (Sk9_t (by omega))), RM_o (RM_o r (by omega) _) (by omega) _, ?_⟩
  · have e1 : M_names 159 (nI t) how' h = if decide (¬ how' = 1) = true then some (pI (pI h 179 (6 * w + t) how') 159 25 (nI ft + 0)) else some (pI (pI h 179 (6 * w + t) how') 159 25 (nI ft + 1)) := by
      rw [M_names_eq]
      simp only [m_159 v, ↓reduceIte, r.1.1, not_true_eq_false, decide_false, Bool.false_eq_true, g20, g33, show (6 : Int32) = nI 6 from rfl, pk_mul, nI_add, ax_in, s179, ti, ni, hi, not_false_eq_true, and_self, gS_pI, gf]
    rw [e1]
    by_cases q : how = 1
    · rw [if_neg (by rw [decide_eq_true_eq]; exact fun z => z (hz.mpr q)), if_pos q, nJ_p1]
    · rw [if_pos (decide_eq_true (show ¬ how' = 1 from fun z => q (hz.mp z))), if_neg q, show (0 : Int32) = nI 0 from rfl, nI_add, Nat.add_zero]
  · obtain ⟨⟨x1, x2, x3⟩, x4, x5, x6⟩ := x
    refine ⟨⟨by rw [gI_pI, if_pos ⟨rfl, rfl⟩], by rw [gI_pI, if_neg (by omega), gI_pI, if_neg (by omega)]; exact x2, by rw [gI_pI, if_neg (by omega), gI_pI, if_neg (by omega)]; exact x3⟩, fun j hj => ?_, fun j hj => by rw [gI_pI, if_neg (by omega), gI_pI, if_neg (by omega)]; exact x5 j hj, fun k R hR => ?_⟩
    · unfold upI
      rw [gI_pI, if_neg (by omega), gI_pI]
      by_cases z : j = t
      · rw [if_pos (by omega), if_pos z, eh]
      · rw [if_neg (by omega), if_neg z]; exact x4 j hj
    · obtain ⟨s, s1, s2, s3, s4⟩ := x6 k R hR
      exact ⟨s, s1, by rw [gI_pI, if_neg (by omega), gI_pI, if_neg (by omega)]; exact s2, by rw [gI_pI, if_neg (by omega), gI_pI, if_neg (by omega)]; exact s3, s4⟩
def rww (h : ax_H) (w : Nat) (P : Option ax_H) : Sum Nat Ws → Prop
  | .inl f => ∃ h', P = some h' ∧ fr (Sk9 w) h h' ∧ RF h' w f 600
  | .inr s => ∃ h', P = some h' ∧ fr (Sk9 w) h h' ∧ RWy h' w s.1 s.2.1 s.2.2.1 s.2.2.2.1 s.2.2.2.2.1 s.2.2.2.2.2.1 s.2.2.2.2.2.2
theorem rww_x {h h1 : ax_H} {w : Nat} {P : Option ax_H} {o : Sum Nat Ws} (q : fr (Sk9 w) h h1) (p : rww h1 w P o) : rww h w P o := by
  cases o with
  | inl f =>
    obtain ⟨h', a, b, c⟩ := p
    exact ⟨h', a, fr_tr q b, c⟩
  | inr s =>
    obtain ⟨h', a, b, c⟩ := p
    exact ⟨h', a, fr_tr q b, c⟩
section
/-- a held number behind its sign -/
theorem zm_345 {T : Nat → Nat} {n : Nat} (hn : n ≤ 400) (tb : ∀ i, T i < 256) {h : ax_H} (v : ok h) (t : TM h T n) {w p c ft : Nat} {o : List Nat} {E0 : Cd} {hd : Int32} {dg hl : Nat → Int32} {L : List Cd} (r : RM h w p c 0 o E0) (hE : E0.length ≤ (jnT L).length) (x : RWx h w ft hd dg hl L E0) (hw : w < 10) {j : Nat} (hj : j < 6) {k0 : Int32} {p2 : Nat} (hk : nI p + k0 = nI p2) (h2n : p2 ≤ n) (v9 : Int32) : rww h w (M_clause_345 k0 (gI h 159 18) 159 159 (nI j) v9 h) (match rdN T n 99999 p2 with
    | .inl f => .inl f
    | .inr r => .inr (r.2, c, ft, hd, dg, upI hl j (if v9 = 0 then nI r.1 else -(nI r.1)), L)) := by
  have g18 := r.1.2.2.1
  have f1 : fr (Sv w) h (pI h 159 18 (nI p2)) := fr_pI (Sv_t (by omega))
  have R1 := RM_p r p2
  have X1 := RWx_v f1 x
  have v1 : ok (pI h 159 18 (nI p2)) := ok_pI v _ _ _
  obtain ⟨n1, n2⟩ := zm_digitsG hn tb (M := 99999) (by omega) v1 (TM_w f1 t) R1 h2n
  have ti : (nI (6 * w + j)).toNatClampNeg = 6 * w + j := nJ_n (by omega)
  have ni : ¬ nI (6 * w + j) < 0 := nJ_nn (by omega)
  have hi : 6 * w + j < 60 := by omega
  have e1 : ∀ y h2, M_digits 159 99999 (pI h 159 18 (nI p2)) = some (y, h2) → ok h2 → gI h2 159 20 = nI w → M_clause_345 k0 (gI h 159 18) 159 159 (nI j) v9 h = some (pI h2 180 (6 * w + j) (if v9 = 0 then y else -y)) := fun y h2 b1 v2 g20 => by
    obtain ⟨⟨s175, s176, s177, s178, s179, s180⟩, g29, g30, g31, g32, g33, g34⟩ := m_rows v2
    rw [M_clause_345_eq, g18, hk]
    simp only [m_159 v, ↓reduceIte, gS_pI]
    rw [bnd b1]
    simp only [m_159 v2, ↓reduceIte, g20, g34, show (6 : Int32) = nI 6 from rfl, pk_mul, nI_add, ax_in, s180, ti, ni, hi, not_false_eq_true, and_self]
    by_cases z : v9 = 0
    · rw [if_pos (decide_eq_true z), if_pos z]
    · rw [if_neg (by rw [decide_eq_true_eq]; exact z), if_neg z]
  cases hr : rdN T n 99999 p2 with
  | inl f =>
    obtain ⟨y, h2, b1, b2, b3⟩ := n1 f hr
    have b1' : M_digits 159 99999 (pI h 159 18 (nI p2)) = some (y, h2) := b1
    have v2 := ok_fr b2 v1
    exact ⟨_, e1 y h2 b1' v2 b3.2.2.1, fr_tr (Sv_w f1) (fr_tr (Sv_w b2) (fr_pI (Sk9_t (by omega)))), RF_o (RF_mono (by omega) b3) (by omega) _⟩
  | inr q =>
    obtain ⟨h2, b1, b2, b3⟩ := n2 q hr
    have b1' : M_digits 159 99999 (pI h 159 18 (nI p2)) = some (nI q.1, h2) := b1
    have v2 := ok_fr b2 v1
    have X2 := RWx_v b2 X1
    refine ⟨pI h2 180 (6 * w + j) (if v9 = 0 then nI q.1 else -(nI q.1)), e1 _ h2 b1' v2 b3.1.2.1, fr_tr (Sv_w f1) (fr_tr (Sv_w b2) (fr_pI (Sk9_t (by omega)))), o, E0, RM_o b3 (by omega) _, hE, ?_⟩
    obtain ⟨⟨x1, x2, x3⟩, x4, x5, x6⟩ := X2
    refine ⟨⟨by rw [gI_pI, if_neg (by omega)]; exact x1, by rw [gI_pI, if_neg (by omega)]; exact x2, by rw [gI_pI, if_neg (by omega)]; exact x3⟩, fun i hi => by rw [gI_pI, if_neg (by omega)]; exact x4 i hi, fun i hi => ?_, fun k R hR => ?_⟩
    · show gI (pI h2 180 (6 * w + j) (if v9 = 0 then nI q.1 else -(nI q.1))) 180 (6 * w + i) = upI hl j (if v9 = 0 then nI q.1 else -(nI q.1)) i
      generalize (if v9 = 0 then nI q.1 else -(nI q.1)) = y
      unfold upI
      rw [gI_pI]
      by_cases z : i = j
      · rw [if_pos (by omega), if_pos z]
      · rw [if_neg (by omega), if_neg z]; exact x5 i hi
    · obtain ⟨s, s1, s2, s3, s4⟩ := x6 k R hR
      exact ⟨s, s1, by rw [gI_pI, if_neg (by omega)]; exact s2, by rw [gI_pI, if_neg (by omega)]; exact s3, s4⟩
theorem zm_295 {T : Nat → Nat} {n : Nat} (hn : n ≤ 400) (tb : ∀ i, T i < 256) {h : ax_H} (v : ok h) (t : TM h T n) {w p c ft : Nat} {o : List Nat} {E0 : Cd} {hd : Int32} {dg hl : Nat → Int32} {L : List Cd} (r : RM h w p c 0 o E0) (hE : E0.length ≤ (jnT L).length) (x : RWx h w ft hd dg hl L E0) (hp : p ≤ n) (hw : w < 10) {j : Nat} (hj : j < 6) {how : Nat} (hh : how = 1 ∨ how = 2 ∨ how = 3) {how' : Int32} (eh : how' = nI how) : rww h w (M_clause_295 how' (nI j) 159 159 (bB (decide (how = 2))) (nI j) h) (if how = 2 then hlP T n p c ft hd (upI dg j 2) hl L j else .inr (p, c, (if how = 1 then ft + 1 else ft), hd, upI dg j (nI how), hl, L)) := by
  obtain ⟨h1, a1, a2, a3, a4⟩ := zm_names v r x hw hj hh eh
  have v1 := ok_fr a2 v
  have t1 := TM_sw a2 t
  rw [M_clause_295_eq, if_pos (m_159 v), bnd a1]
  by_cases q : how = 2
  · rw [if_pos q]
    rw [if_neg (show ¬ how = 1 by omega)] at a4
    have e2 : nI how = 2 := by rw [q]; rfl
    rw [e2] at a4
    rw [show decide (how = 2) = true from decide_eq_true q, if_neg (show ¬ decide (bB true = 0) = true by decide), if_pos (m_159 v1), a3.1.1, if_neg (by decide), if_pos (m_159 v1)]
    obtain ⟨h2, b1, b2, b3⟩ := zm_blanks hn tb v1 t1 a3.1.2.2.1 (by omega)
    have hle : sb T n p ≤ n := sb_le hp
    unfold hlP
    generalize sb T n p = p1 at *
    have v2 := ok_fr b2 v1
    have t2 := TM_8 b2 t1
    have R2 := RM_8 a3 b2 b3
    have X2 := RWx_v (Sq_w b2) a4
    have sg := zm_sign hn tb v2 t2 b3 (by omega)
    rw [bnd b1, if_pos (m_159 v2), bnd sg]
    refine rww_x a2 (rww_x (Sv_w (Sq_w b2)) ?_)
    by_cases q45 : sgI T n p1 = 45
    · have hlt := sg_lt q45 (by decide)
      have k := zm_345 hn tb v2 t2 R2 hE X2 hw hj (k0 := 1) (p2 := p1 + 1) (by rw [nJ_p1]) hlt 1
      rw [if_neg (show ¬ decide (¬ sgI T n p1 = 45) = true by rw [decide_eq_true_eq]; exact fun z => z q45), if_pos q45]
      refine (show rww h2 w (if (gS h2 159).1 = 11 then M_clause_345 1 (gI h2 159 18) 159 159 (nI j) 1 h2 else none) _ from ?_)
      rw [if_pos (m_159 v2)]
      simp only [q45, ↓reduceIte, show ¬ (1 : Int32) = 0 by decide] at k ⊢
      exact k
    · have k := zm_345 hn tb v2 t2 R2 hE X2 hw hj (k0 := 0) (p2 := p1) (by rw [show (0 : Int32) = nI 0 from rfl, nI_add, Nat.add_zero]) hle 0
      rw [if_pos (show decide (¬ sgI T n p1 = 45) = true from decide_eq_true q45), if_neg q45]
      refine (show rww h2 w (if (gS h2 159).1 = 11 then M_clause_345 0 (gI h2 159 18) 159 159 (nI j) 0 h2 else none) _ from ?_)
      rw [if_pos (m_159 v2)]
      simp only [q45, ↓reduceIte] at k ⊢
      exact k
  · rw [if_neg q, show decide (how = 2) = false from decide_eq_false q]
    exact ⟨h1, rfl, a2, o, E0, a3, hE, a4⟩
theorem zm_295F {T : Nat → Nat} {n : Nat} (hn : n ≤ 400) (tb : ∀ i, T i < 256) {h : ax_H} (v : ok h) {u f q : Nat} (r : RF h u f q) (a b c d : Int32) : M_clause_295 a b 159 159 c d h = some h := by
  have nz : ¬ nI f = 0 := fun z => by have := (nJ_eq (a := f) (b := 0) (by have := r.2.1; omega) (by omega)).mp z; have := r.2.1; omega
  rw [M_clause_295_eq, if_pos (m_159 v), bnd (zm_namesF v r b a)]
  by_cases z : c = 0
  · rw [if_pos (decide_eq_true z)]
  · rw [if_neg (by rw [decide_eq_true_eq]; exact z), if_pos (m_159 v), r.1, if_pos (decide_eq_true nz)]
theorem zm_takes {T : Nat → Nat} {n : Nat} (hn : n ≤ 400) (tb : ∀ i, T i < 256) {h : ax_H} (v : ok h) (t : TM h T n) {w p c d : Nat} {o : List Nat} {E : Cd} (r : RM h w p c d o E) (hp : p ≤ n) {x : Nat} (hx : 8 ≤ x ∧ x ≤ 34) : ∃ h', M_takes 159 x h = some (bB (wD T n (chs x) (sb T n p)), h') ∧ fr (Sv w) h h' ∧ RM h' w (if wD T n (chs x) (sb T n p) = true then sb T n p + (chs x).length else sb T n p) c d o E := by
  obtain ⟨h1, a1, a2, a3⟩ := zm_blanks hn tb v t r.1.2.2.1 (by omega)
  have hle : sb T n p ≤ n := sb_le hp
  generalize sb T n p = p1 at *
  have v1 := ok_fr a2 v
  have R1 := RM_8 r a2 a3
  have st := zm_stands hn tb hx (by omega) v1 (TM_8 a2 t) a3
  have hx' : 1 ≤ x ∧ x ≤ 34 := by omega
  cases q : wD T n (chs x) p1 with
  | true =>
    rw [q] at st
    refine ⟨pI h1 159 18 (nI (p1 + (chs x).length)), ?_, fr_tr (Sq_w a2) (fr_pI (Sv_t (by omega))), by rw [if_pos rfl]; exact RM_p R1 _⟩
    rw [M_takes_eq, if_pos (m_159 v), bnd a1, if_pos (m_159 v1), bnd st]
    simp only [m_159 v1, ↓reduceIte, show ¬ bB true = 0 by decide, decide_false, Bool.false_eq_true, hx', and_self]
    rw [bnd (z_len hx' h1)]
    simp only [m_159 v1, ↓reduceIte, a3, nI_add, show bB true = 1 from rfl, or_true]
  | false =>
    rw [q] at st
    refine ⟨pI h1 159 18 (nI p1), ?_, fr_tr (Sq_w a2) (fr_pI (Sv_t (by omega))), by rw [if_neg (by decide)]; exact RM_p R1 _⟩
    rw [M_takes_eq, if_pos (m_159 v), bnd a1, if_pos (m_159 v1), bnd st]
    simp only [m_159 v1, ↓reduceIte, show bB false = 0 from rfl, decide_true, a3, show (0 : Int32) = nI 0 from rfl, nI_add, Nat.add_zero, true_or]
end
