/-! the reference's clause -/
theorem chs_c : chs 8 = [102, 105, 116] ∧ chs 9 = [104, 111, 108, 100] ∧ chs 10 = [99, 104, 101, 99, 107] ∧ chs 11 = [108, 101, 97, 118, 101] ∧ chs 12 = [104, 97, 110, 100] := by decide +kernel
theorem wM_inj {T : Nat → Nat} {n : Nat} : ∀ (a b : List Nat) (p : Nat), a.length = b.length → wM T n a p = true → wM T n b p = true → a = b
  | [], [], _, _, _, _ => rfl
  | [], y :: b, _, h, _, _ => by rw [List.length_cons] at h; exact absurd h (by show ¬ 0 = _; omega)
  | x :: a, [], _, h, _, _ => by rw [List.length_cons] at h; exact absurd h.symm (by show ¬ 0 = _; omega)
  | x :: a, y :: b, p, h, h1, h2 => by
    rw [wM, Bool.and_eq_true] at h1 h2
    have e1 := (of_decide_eq_true h1.1).2
    have e2 := (of_decide_eq_true h2.1).2
    rw [List.length_cons, List.length_cons] at h
    rw [wM_inj a b (p + 1) (by omega) h1.2 h2.2, ← e1, ← e2]
/-- one word at most stands at a place -/
theorem wD_1 {T : Nat → Nat} {n p : Nat} {a b : List Nat} (ha : ∀ c ∈ a, 97 ≤ c ∧ c ≤ 122) (hb : ∀ c ∈ b, 97 ≤ c ∧ c ≤ 122) (hp : p ≤ n) (h1 : wD T n a p = true) (h2 : wD T n b p = true) : a = b := by
  rw [wD_le2 ha hp, Bool.and_eq_true] at h1
  rw [wD_le2 hb hp, Bool.and_eq_true] at h2
  have e1 := of_decide_eq_true h1.1
  have e2 := of_decide_eq_true h2.1
  exact wM_inj a b p (by omega) h1.2 h2.2
theorem fW_none {T : Nat → Nat} {n p : Nat} : ∀ (l : List (List Nat)) (k : Nat), fW T n l k p = none → ∀ w ∈ l, wD T n w p = false
  | [], k, _, w, hw => by cases hw
  | x :: l, k, h, w, hw => by
    rw [fW] at h
    cases q : wD T n x p with
    | true => rw [q, if_pos rfl] at h; cases h
    | false =>
      rw [q, if_neg (by decide)] at h
      rcases List.mem_cons.mp hw with rfl | hw
      · exact q
      · exact fW_none l (k + 1) h w hw
/-- the five words -/
theorem w5_some {T : Nat → Nat} {n p : Nat} (hp : p ≤ n) {q : Nat × Nat} (h : fW T n (wsL 1) 0 p = some q) : ∀ i, i < 5 → wD T n ((wsL 1).getD i []) p = decide (i = q.1) := by
  have h5 : q.1 < 5 := by
    have := fW_lt T n (wsL 1) 0 p q h
    have e : (wsL 1).length = 5 := rfl
    omega
  have f2 := (fW_at (wsL 1) 0 q h).2
  rw [Nat.sub_zero] at f2
  have hl : ∀ i : Nat, i < 5 → ∀ c ∈ (wsL 1).getD i [], 97 ≤ c ∧ c ≤ 122 := by decide
  have hi : ∀ i : Nat, i < 5 → ∀ j : Nat, j < 5 → (wsL 1).getD i [] = (wsL 1).getD j [] → i = j := by decide
  intro i hi5
  by_cases z : i = q.1
  · rw [decide_eq_true z, z]; exact f2
  · rw [decide_eq_false z]
    cases hw : wD T n ((wsL 1).getD i []) p with
    | false => rfl
    | true => exact absurd (hi i hi5 q.1 h5 (wD_1 (hl i hi5) (hl q.1 h5) hp hw f2)) z
section
theorem zm_clause {T : Nat → Nat} {n : Nat} (hn : n ≤ 400) (tb : ∀ i, T i < 256) {h : ax_H} (v : ok h) (t : TM h T n) {w p c ft : Nat} {hd : Int32} {dg hl : Nat → Int32} {L : List Cd} (r : RWy h w p c ft hd dg hl L) (m : WI n p c ft hd dg hl L) (hw : w < 10) {k : Nat} (hk : k ≤ 12) (hL : L.length ≤ k) : rww h w (M_clause 159 (nI k) h) (clC T n k p c ft hd dg hl L) := by
  obtain ⟨o, E0, R, hE, X⟩ := r
  have hp : p ≤ n := m.1.1
  obtain ⟨h1, a1, a2, a3⟩ := zm_blanks hn tb v t R.1.2.2.1 (by omega)
  have hle : sb T n p ≤ n := sb_le hp
  have hge := sb_ge T n p
  unfold clC
  generalize sb T n p = p1 at *
  have v1 := ok_fr a2 v
  have t1 := TM_8 a2 t
  have R1 := RM_8 R a2 a3
  have X1 := RWx_v (Sq_w a2) X
  have F1 : fr (Sk9 w) h h1 := Sv_w (Sq_w a2)
  have s8 := zm_stands hn tb (x := 8) (by omega) (by omega) v1 t1 a3
  have s9 := zm_stands hn tb (x := 9) (by omega) (by omega) v1 t1 a3
  have s10 := zm_stands hn tb (x := 10) (by omega) (by omega) v1 t1 a3
  have s11 := zm_stands hn tb (x := 11) (by omega) (by omega) v1 t1 a3
  have s12 := zm_stands hn tb (x := 12) (by omega) (by omega) v1 t1 a3
  rw [chs_c.1] at s8
  rw [chs_c.2.1] at s9
  rw [chs_c.2.2.1] at s10
  rw [chs_c.2.2.2.1] at s11
  rw [chs_c.2.2.2.2] at s12
  have e0 : ∀ b0 b1 b2 b3 b4 : Bool, wD T n [102, 105, 116] p1 = b0 → wD T n [104, 111, 108, 100] p1 = b1 → wD T n [99, 104, 101, 99, 107] p1 = b2 → wD T n [108, 101, 97, 118, 101] p1 = b3 → wD T n [104, 97, 110, 100] p1 = b4 → M_clause 159 (nI k) h = if (b0 || b1 || b2 || b3 || b4) = true then M_clause_84 159 (nI k) (nI p1) (bB b0) (bB b1) (bB b3) (bB b4) h1 else (M_fails 159 0 (nI p1) h1).bind (fun h7 => some h7) := by
    intro b0 b1 b2 b3 b4 e0 e1 e2 e3 e4
    rw [e0] at s8
    rw [e1] at s9
    rw [e2] at s10
    rw [e3] at s11
    rw [e4] at s12
    rw [M_clause_eq, if_pos (m_159 v), bnd a1, if_pos (m_159 v1), if_pos (m_159 v1), bnd s8]
    simp only [m_159 v1, ↓reduceIte]
    rw [bnd s9]
    simp only [m_159 v1, ↓reduceIte]
    rw [bnd s10]
    simp only [m_159 v1, ↓reduceIte]
    rw [bnd s11]
    simp only [m_159 v1, ↓reduceIte]
    rw [bnd s12]
    simp only [m_159 v1, ↓reduceIte, a3]
    cases b0 <;> cases b1 <;> cases b2 <;> cases b3 <;> cases b4 <;> rfl
  cases hf : fW T n (wsL 1) 0 p1 with
  | none =>
    have fn := fW_none (wsL 1) 0 hf
    have e := e0 false false false false false (fn _ (by decide)) (fn _ (by decide)) (fn _ (by decide)) (fn _ (by decide)) (fn _ (by decide))
    refine ⟨pI h1 159 19 (nI (1 + 8 * p1 + 0)), ?_, fr_tr F1 (fr_pI (Sk9_t (by omega))), RF_of R1 (by omega) (by omega)⟩
    rw [e, if_neg (by decide), bnd (zm_failsG v1 R1.1.1 p1 0 (c' := 0) rfl)]
  | some q =>
    have w5 := w5_some hle hf
    have h5 : q.1 < 5 := by
      have := fW_lt T n (wsL 1) 0 p1 q hf
      have e : (wsL 1).length = 5 := rfl
      omega
    have hq2 : q.2 ≤ n := (fW_le (wsL 1) 0 p1 q (by decide) hle hf).2
    have hq3 := fW_mn (m := 3) (wsL 1) 0 p1 q (by decide) hf
    have f1 := (fW_at (wsL 1) 0 q hf).1
    rw [Nat.sub_zero] at f1
    have e := e0 _ _ _ _ _ (w5 0 (by omega)) (w5 1 (by omega)) (w5 2 (by omega)) (w5 3 (by omega)) (w5 4 (by omega))
    have e84 : M_clause 159 (nI k) h = M_clause_84 159 (nI k) (nI p1) (bB (decide (0 = q.1))) (bB (decide (1 = q.1))) (bB (decide (3 = q.1))) (bB (decide (4 = q.1))) h1 := by
      rw [e, if_pos]
      have : q.1 = 0 ∨ q.1 = 1 ∨ q.1 = 2 ∨ q.1 = 3 ∨ q.1 = 4 := by omega
      rcases this with z | z | z | z | z <;> rw [z] <;> decide
    rw [e84]
    refine rww_x F1 ?_
    show rww h1 w _ (if k < 12 then _ else _)
    by_cases hk2 : k < 12
    · have z : ¬ nI k = 12 := fun y => by have := (nJ_eq (a := k) (b := 12) (by omega) (by omega)).mp y; omega
      rw [if_pos hk2, M_clause_84_eq, if_pos (decide_eq_true z)]
      have mj := m.2.2.2.2.2
      have g18 : gI h1 159 18 = nI p1 := a3
      have c122 : ∀ (b0 b1 b3 b4 : Bool) (l : Nat) (l' : Int32), l' = nI l → (b0 = true → l' = 3) → (b0 = false → b1 = true → l' = 4) → (b0 = false → b1 = false → b4 = true → l' = 4) → (b0 = false → b1 = false → b4 = false → l' = 5) → M_clause_122 159 (bB b0) (bB b1) (bB b3) (bB b4) h1 = M_clause_150 l' (gI h1 159 18) 159 159 (bB b0) (bB b1) (bB b3) (bB b4) h1 := by
        intro b0 b1 b3 b4 l l' el i0 i1 i2 i3
        rw [M_clause_122_eq, if_pos (m_159 v1)]
        cases b0 with
        | true => rw [i0 rfl]; exact if_neg (by decide)
        | false =>
          refine (if_pos (by decide)).trans ?_
          cases b1 with
          | true => rw [i1 rfl rfl]; exact if_pos (by decide)
          | false =>
            refine (if_neg (by decide)).trans ?_
            cases b4 with
            | true => rw [i2 rfl rfl rfl]; exact if_neg (by decide)
            | false => rw [i3 rfl rfl rfl]; exact if_pos (by decide)
      have hcase : q.1 = 0 ∨ q.1 = 1 ∨ q.1 = 2 ∨ q.1 = 3 ∨ q.1 = 4 := by omega
      rcases hcase with z | z | z | z | z
      · rw [z] at f1 ⊢
        have f1' : q.2 = p1 + 3 := f1
        rw [if_pos (show (0 : Nat) = 0 from rfl), if_pos (show decide (bB (decide (4 = 0)) = 0) = true by decide), c122 (decide (0 = 0)) (decide (1 = 0)) (decide (3 = 0)) (decide (4 = 0)) 3 3 rfl (fun _ => rfl) (fun y => absurd y (by decide)) (fun y => absurd y (by decide)) (fun y => absurd y (by decide))]
        exact zm_150t hn tb v1 t1 R1 hE X1 hw m.1.2.2.1 (how := 1) (Or.inl rfl) (k0 := 3) (p2 := q.2) (by rw [f1', show (3 : Int32) = nI 3 from rfl, nI_add]) hq2
      · rw [z] at f1 ⊢
        have f1' : q.2 = p1 + 4 := f1
        rw [if_neg (show ¬ (1 : Nat) = 0 by decide), if_pos (show (1 : Nat) = 1 from rfl), if_pos (show decide (bB (decide (4 = 1)) = 0) = true by decide), c122 (decide (0 = 1)) (decide (1 = 1)) (decide (3 = 1)) (decide (4 = 1)) 4 4 rfl (fun y => absurd y (by decide)) (fun _ _ => rfl) (fun _ y => absurd y (by decide)) (fun _ y => absurd y (by decide))]
        exact zm_150t hn tb v1 t1 R1 hE X1 hw m.1.2.2.1 (how := 2) (Or.inr (Or.inl rfl)) (k0 := 4) (p2 := q.2) (by rw [f1', show (4 : Int32) = nI 4 from rfl, nI_add]) hq2
      · rw [z] at f1 ⊢
        have f1' : q.2 = p1 + 5 := f1
        rw [if_neg (show ¬ (2 : Nat) = 0 by decide), if_neg (show ¬ (2 : Nat) = 1 by decide), if_pos (show (2 : Nat) = 2 from rfl), if_pos (show decide (bB (decide (4 = 2)) = 0) = true by decide), c122 (decide (0 = 2)) (decide (1 = 2)) (decide (3 = 2)) (decide (4 = 2)) 5 5 rfl (fun y => absurd y (by decide)) (fun _ y => absurd y (by decide)) (fun _ _ y => absurd y (by decide)) (fun _ _ _ => rfl)]
        exact zm_150t hn tb v1 t1 R1 hE X1 hw m.1.2.2.1 (how := 3) (Or.inr (Or.inr rfl)) (k0 := 5) (p2 := q.2) (by rw [f1', show (5 : Int32) = nI 5 from rfl, nI_add]) hq2
      · rw [z] at f1 ⊢
        have f1' : q.2 = p1 + 5 := f1
        rw [if_neg (show ¬ (3 : Nat) = 0 by decide), if_neg (show ¬ (3 : Nat) = 1 by decide), if_neg (show ¬ (3 : Nat) = 2 by decide), if_pos (show (3 : Nat) = 3 from rfl), if_pos (show decide (bB (decide (4 = 3)) = 0) = true by decide), c122 (decide (0 = 3)) (decide (1 = 3)) (decide (3 = 3)) (decide (4 = 3)) 5 5 rfl (fun y => absurd y (by decide)) (fun _ y => absurd y (by decide)) (fun _ _ y => absurd y (by decide)) (fun _ _ _ => rfl)]
        exact zm_150l hn tb v1 t1 R1 hE X1 hw m.1.2.1 (by omega) (k0 := 5) (p2 := q.2) (by rw [f1', show (5 : Int32) = nI 5 from rfl, nI_add]) hq2 (by omega) _ _
      · rw [z] at f1 ⊢
        have f1' : q.2 = p1 + 4 := f1
        obtain ⟨⟨s175, s176, s177, s178, s179, s180⟩, g29, g30, g31, g32, g33, g34⟩ := m_rows v1
        have g20 : gI h1 159 20 = nI w := R1.1.2.1
        have gh : gI h1 178 w = hd := X1.1.2.1
        have tw : (nI w).toNatClampNeg = w := nJ_n (by omega)
        have nw : ¬ nI w < 0 := nJ_nn (by omega)
        rw [if_neg (show ¬ (4 : Nat) = 0 by decide), if_neg (show ¬ (4 : Nat) = 1 by decide), if_neg (show ¬ (4 : Nat) = 2 by decide), if_neg (show ¬ (4 : Nat) = 3 by decide), if_neg (show ¬ decide (bB (decide (4 = 4)) = 0) = true by decide), c122 (decide (0 = 4)) (decide (1 = 4)) (decide (3 = 4)) (decide (4 = 4)) 4 4 rfl (fun y => absurd y (by decide)) (fun _ y => absurd y (by decide)) (fun _ _ _ => rfl) (fun _ _ y => absurd y (by decide))]
        simp only [m_159 v1, ↓reduceIte, g32, g20, ax_in, s178, tw, nw, hw, not_false_eq_true, and_self, gh]
        unfold hdP
        by_cases c1 : hd = -1
        · rw [if_pos (decide_eq_true c1), if_pos c1]
          exact zm_150h hn tb v1 t1 R1 hE X1 hw (k0 := 4) (p2 := q.2) (by rw [f1', show (4 : Int32) = nI 4 from rfl, nI_add]) hq2 _ _ _
        · rw [if_neg (by rw [decide_eq_true_eq]; exact c1), if_neg c1]
          refine ⟨pI h1 159 19 (nI (1 + 8 * p1 + 5)), ?_, fr_pI (Sk9_t (by omega)), RF_of R1 (by omega) (by omega)⟩
          rw [bnd (zm_failsG v1 R1.1.1 p1 5 (c' := 5) rfl)]
    · have z : nI k = 12 := by rw [show k = 12 by omega]; rfl
      rw [if_neg hk2, M_clause_84_eq, if_neg (by rw [decide_eq_true_eq]; exact fun y => y z), if_pos (m_159 v1)]
      refine ⟨pI h1 159 19 (nI (1 + 8 * p1 + 4)), ?_, fr_pI (Sk9_t (by omega)), RF_of R1 (by omega) (by omega)⟩
      rw [bnd (zm_failsG v1 R1.1.1 p1 4 (c' := 4) rfl)]
end
