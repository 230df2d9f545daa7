/-! the class's clauses: leave, a clause -/
section
theorem MI_0 {T : Nat → Nat} {n : Nat} (tb : ∀ i, T i < 256) {p c : Nat} (hp : p ≤ n) (hc : c ≤ 60) : MI n p c 0 p c 0 [] [] := ⟨hp, hc, by omega, rfl, ⟨[], ⟨[], trivial, Or.inl ⟨rfl, rfl, rfl⟩⟩, rfl, by show 0 ≤ c; omega⟩, by show 0 + c ≤ c; omega, by show 2 * (0 + 0) + 0 + p + 2 * c ≤ p + 2 * c; omega⟩
theorem MI_6 {T : Nat → Nat} {n : Nat} (tb : ∀ i, T i < 256) {p0 c0 : Nat} {s : Ms} (m : MIs n p0 c0 s) (h : s.1 = 6) : s.2.2.2.2.1 = [] ∧ tOk s.2.2.2.2.2.reverse := by
  obtain ⟨m1, m2, m3, m4, ⟨ts, ⟨B, hB, m5⟩, m8, m9⟩, m6, m7⟩ := m
  rcases m5 with ⟨e, -⟩ | ⟨e, -⟩ | ⟨e, -⟩ | ⟨e, -⟩ | ⟨e, -⟩ | ⟨e, -⟩ | ⟨e, -⟩ | ⟨e, -⟩ | ⟨e, -⟩ | ⟨e, a, b⟩
  case inr.inr.inr.inr.inr.inr.inr.inr.inr =>
    rw [b] at m8
    exact ⟨a, m8⟩
  all_goals exact absurd (e.symm.trans h) (by decide)
theorem z_rl_end {T : Nat → Nat} {n : Nat} (tb : ∀ i, T i < 256) {h : ax_H} (w : ok h) {p c d : Nat} {E : Cd} (r : RC h 6 p c d [] E) (hE : E.length < 400) (j : Nat) (hj : j ≤ 401) {v1 : Int32} (b : Bool) (hb : v1 = bB b) : ∃ h', Rd_readLeave_55 93 v1 (nI j) h = some (1, h') ∧ fr Sy h h' ∧ RC h' 6 p c d [] (if b = true then E else (11, 0) :: E) := by
  have s0 := s_93 w
  have g7 : gI h 93 7 = 6 := r.1.1
  cases b with
  | true =>
    have z : ¬ v1 = 0 := by rw [hb]; decide
    refine ⟨h, ?_, fr_rf _ _, by rw [if_pos rfl]; exact r⟩
    rw [Rd_readLeave_55_eq]
    simp only [s0, ↓reduceIte, g7, decide_true, z, not_false_eq_true, ite_self]
  | false =>
    have z : v1 = 0 := hb
    obtain ⟨h1, a1, a2, a3⟩ := z_step w r hE (o := 11) (v := 0) (by omega) (by omega) (o' := 11) (v' := 0) rfl rfl
    refine ⟨h1, ?_, a2, by rw [if_neg (by decide)]; exact a3⟩
    have e : Rd_readLeave_55 93 v1 (nI j) h = (Rd_step 93 11 0 h).bind (fun h1 => some (1, h1)) := by
      rw [Rd_readLeave_55_eq]
      simp only [s0, ↓reduceIte, g7, decide_true, z, not_true_eq_false, decide_false, Bool.false_eq_true, ite_self]
    rw [e, bnd a1]
theorem z_leave {T : Nat → Nat} {n : Nat} (tb : ∀ i, T i < 256) {h : ax_H} (w : ok h) (t : TC h T n) {p c ft : Nat} {hd : Int32} {dg hl : Nat → Int32} {L : List Cd} (r : RWd h p c ft hd dg hl (jnT L).reverse) (hp : p ≤ n) (hc : c ≤ 60) (hL : ∀ R ∈ L, tOk R) (hE : 2 * (jnT L).length + 2 ≤ p + 2 * c) : rsw h (Rd_readLeave 93 h) (lvP T n p c ft hd dg hl L) := by
  have t1 := t.1
  have s0 := s_93 w
  obtain ⟨h1, a1, a2, a3⟩ := z_next tb w t r.1.1 (by omega)
  have hle : sb T n p ≤ n := sb_le hp
  have hge := sb_ge T n p
  have w1 := ok_fr a2 w
  have t1' := TC_Sp a2 t
  have R := RWd_Sp r a2 a3
  have s1 := s_93 w1
  unfold lvP
  generalize sb T n p = p1 at *
  obtain ⟨h2, b1, b2, b3⟩ := z_takeWord tb (x := 3) (by omega) w1 t1' a3 (by omega)
  have e3 : fW T n (wsL 3) 0 p1 = if wD T n [105, 102] p1 = true then some (0, p1 + 2) else none := fW_1 T n [105, 102] p1
  rw [e3] at b1 b3
  have w2 := ok_fr b2 w1
  have t2' := TC_Sp b2 t1'
  have s2 := s_93 w2
  by_cases q : wD T n [105, 102] p1 = true
  · rw [if_pos q] at b1 b3 ⊢
    have hle2 : p1 + 2 ≤ n := wD_le q hle
    have R2 := RWd_Sp R b2 b3
    obtain ⟨⟨u1, u2, u3, u4, u5⟩, u6, u7, u8⟩ := R2
    obtain ⟨h5, e5⟩ : ∃ h5, h5 = pI (pI (pI h2 93 9 0) 93 8 0) 93 7 0 := ⟨_, rfl⟩
    have f5 : fr Sy h2 h5 := by rw [e5]; exact fr_tr (fr_tr (fr_pI rfl) (fr_pI rfl)) (fr_pI rfl)
    have w5 := ok_fr f5 w2
    have R5 : RC h5 0 (p1 + 2) c 0 [] (jnT L).reverse := by
      rw [e5]
      refine ⟨⟨by rw [gI_pI, if_pos ⟨rfl, rfl⟩]; rfl, ?_, ?_, ?_, ?_, ?_⟩, trivial, stk_93 (by omega) (stk_93 (by omega) (stk_93 (by omega) u8))⟩
      · rw [gI_pI, if_neg (by omega), gI_pI, if_neg (by omega), gI_pI, if_neg (by omega)]; exact u1
      · rw [gI_pI, if_neg (by omega), gI_pI, if_neg (by omega), gI_pI, if_neg (by omega)]; exact u2
      · rw [gI_pI, if_neg (by omega), gI_pI, if_pos ⟨rfl, rfl⟩]; rfl
      · rw [gI_pI, if_neg (by omega), gI_pI, if_neg (by omega), gI_pI, if_pos ⟨rfl, rfl⟩]; rfl
      · rw [gI_pI, if_neg (by omega), gI_pI, if_neg (by omega), gI_pI, if_neg (by omega)]; exact u5
    have t5 := TC_Sx (Sy_x f5) t2'
    have lenE : (jnT L).reverse.length = (jnT L).length := List.length_reverse
    have emp : (jnT L).length = 0 ↔ L = [] := ⟨fun z => by
      by_cases y : L = []
      · exact y
      · have := jnT_ne y hL
        omega, fun z => by rw [z]; rfl⟩
    have frs : fr Sx h h5 := fr_tr (Sp_x a2) (fr_tr (Sp_x b2) (Sy_x f5))
    have key : ∀ v1 : Int32, v1 = bB (decide (L = [])) → rsw h (Rd_readLeave_55 93 v1 0 h5) (match rnM T n 401 (0, p1 + 2, c, 0, [], []) with
        | .inl f => .inl f
        | .inr s => .inr (s.2.1, s.2.2.1, ft, hd, dg, hl, L ++ [s.2.2.2.2.2.reverse])) := by
      intro v1 hv
      have m0 : MIs n (p1 + 2) c (0, p1 + 2, c, 0, [], []) := MI_0 (T := T) tb hle2 hc
      obtain ⟨x, y⟩ := z_rl_55 tb (E0 := (jnT L).reverse) (p0 := p1 + 2) (c0 := c) (by rw [lenE]; omega) v1 401 0 (0, p1 + 2, c, 0, [], []) h5 (by omega) w5 t5 R5 m0
      have x' : ∀ f, rnM T n 401 (0, p1 + 2, c, 0, [], []) = .inl f → ∃ h', Rd_readLeave_55 93 v1 0 h5 = some (0, h') ∧ flt h5 h' f := x
      cases hr : rnM T n 401 (0, p1 + 2, c, 0, [], []) with
      | inl f =>
        obtain ⟨h', z1, z2⟩ := x' f hr
        exact ⟨h', z1, flt_y frs z2⟩
      | inr s =>
        obtain ⟨h', j, z0, z1, z2, z3⟩ := y s hr
        obtain ⟨o1, o2, o3, -⟩ := rn_ok 401 _ m0 (Or.inr (by show n + 1 ≤ p1 + 2 + 401; omega)) s hr
        obtain ⟨o4, o5⟩ := MI_6 (T := T) tb o2 o1
        have hlen := (MI_E0 (E0 := (jnT L).reverse) t1 (by rw [lenE]; omega) o2).2
        rw [o1, o4] at z3
        have w' := ok_fr z2 w5
        obtain ⟨h'', y1, y2, y3⟩ := z_rl_end (T := T) (n := n) tb w' z3 (by omega) j z0 (decide (L = [])) hv
        have z1' : Rd_readLeave_55 93 v1 0 h5 = Rd_readLeave_55 93 v1 (nI j) h' := z1
        have fy : fr Sy h5 h'' := fr_tr z2 y2
        have fy2 : fr Sy h2 h'' := fr_tr f5 fy
        refine ⟨h'', by rw [z1']; exact y1, fr_tr frs (Sy_x fy), ⟨y3.1.2.1, y3.1.2.2.1, (fr_I fy2 rfl).trans u3, (fr_I fy2 rfl).trans u4, ?_⟩, fun k hk => (fr_I fy2 rfl).trans (u6 k hk), fun k hk => (fr_I fy2 rfl).trans (u7 k hk), ?_⟩
        all_goals
          have eE : (if decide (L = []) = true then s.2.2.2.2.2 ++ (jnT L).reverse else (11, 0) :: (s.2.2.2.2.2 ++ (jnT L).reverse)) = (jnT (L ++ [s.2.2.2.2.2.reverse])).reverse := by
            by_cases y : L = []
            · rw [if_pos (decide_eq_true y), y, List.nil_append, jnT_1, List.reverse_reverse]
              show s.2.2.2.2.2 ++ [] = _
              rw [List.append_nil]
            · rw [if_neg (by rw [decide_eq_true_eq]; exact y), jnT_app y, List.reverse_reverse]
          rw [eE] at y3
        · exact y3.1.2.2.2.2.2
        · exact y3.2.2
    have g11 : gI h2 93 11 = nI (jnT L).length := by rw [u5, lenE]
    rw [Rd_readLeave_eq, if_pos s0, bnd a1]
    simp only [s1, ↓reduceIte]
    rw [bnd b1]
    by_cases y : L = []
    · have z0 : (nI (jnT L).length : Int32) = 0 := by rw [emp.mpr y]; rfl
      simp only [show ¬ twR (some (0, p1 + 2)) = -1 from nI_neg1 (by omega), not_false_eq_true, decide_true, ↓reduceIte, s2, g11, z0, not_true_eq_false, decide_false, Bool.false_eq_true, gS_pI, ← e5]
      exact key 1 (by rw [show decide (L = []) = true from decide_eq_true y]; rfl)
    · have z0 : ¬ (nI (jnT L).length : Int32) = 0 := fun z => y (emp.mp ((nJ_eq (a := (jnT L).length) (b := 0) (by omega) (by omega)).mp z))
      simp only [show ¬ twR (some (0, p1 + 2)) = -1 from nI_neg1 (by omega), not_false_eq_true, decide_true, ↓reduceIte, s2, g11, z0, gS_pI, ← e5]
      exact key 0 (by rw [show decide (L = []) = false from decide_eq_false y]; rfl)
  · rw [if_neg q] at b1 b3 ⊢
    have g3 : gI h2 93 3 = nI p1 := b3
    refine ⟨pI h2 93 1 (nI (1 + 8 * p1 + 0)), ?_, fr_tr (Sp_x a2) (fr_tr (Sp_x b2) (fr_pI rfl)), by rw [gI_pI, if_pos ⟨rfl, rfl⟩]⟩
    rw [Rd_readLeave_eq, if_pos s0, bnd a1]
    simp only [s1, ↓reduceIte]
    rw [bnd b1]
    simp only [show twR none = -1 from rfl, not_true_eq_false, decide_false, Bool.false_eq_true, ↓reduceIte, s2, g3]
    rw [bnd (z_fail w2 p1 0 (c' := 0) rfl)]
    rfl
end
