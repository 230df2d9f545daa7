/-! the reference's sum -/
def vlE (T : Nat → Nat) (n p c : Nat) : Sum Nat (Nat × Nat × Nat) :=
  if dB T n p = true then (match rdN T n 99999 p with
    | .inl f => .inl f
    | .inr r => if c + 1 ≤ 60 then .inr (r.2, 0, r.1) else .inl (1 + 8 * p + 3))
  else (match fW T n (wsL 5) 0 p with
    | none => .inl (1 + 8 * p + 0)
    | some r => if c + 1 ≤ 60 then .inr (r.2, 1, r.1) else .inl (1 + 8 * p + 3))
def vlS (st c d : Nat) (W : List Nat) (F : Cd) : Sum Nat (Nat × Nat × Nat) → Sum Nat Ms
  | .inl f => .inl f
  | .inr x => .inr (st, x.1, c + 1, d, W, (x.2.1, x.2.2) :: F)
theorem vl_eq (T : Nat → Nat) (n st p c d : Nat) (W : List Nat) (F : Cd) : vlP T n st p c d W F = vlS st c d W F (vlE T n p c) := by
  unfold vlP vlE
  by_cases q : dB T n p = true
  · rw [if_pos q, if_pos q]
    cases rdN T n 99999 p with
    | inl f => rfl
    | inr r =>
      show (if c + 1 ≤ 60 then _ else _) = vlS st c d W F (if c + 1 ≤ 60 then _ else _)
      by_cases q2 : c + 1 ≤ 60
      · rw [if_pos q2, if_pos q2]; rfl
      · rw [if_neg q2, if_neg q2]; rfl
  · rw [if_neg q, if_neg q]
    cases fW T n (wsL 5) 0 p with
    | none => rfl
    | some r =>
      show (if c + 1 ≤ 60 then _ else _) = vlS st c d W F (if c + 1 ≤ 60 then _ else _)
      by_cases q2 : c + 1 ≤ 60
      · rw [if_pos q2, if_pos q2]; rfl
      · rw [if_neg q2, if_neg q2]; rfl
theorem vlE_b {T : Nat → Nat} {n p c : Nat} (hp : p ≤ n) {x : Nat × Nat × Nat} (q : vlE T n p c = .inr x) : p < x.1 ∧ x.1 ≤ n ∧ c + 1 ≤ 60 ∧ ((x.2.1 = 0 ∧ x.2.2 ≤ 99999) ∨ (x.2.1 = 1 ∧ x.2.2 < 13)) := by
  unfold vlE at q
  by_cases hd : dB T n p = true
  · rw [if_pos hd] at q
    cases hr : rdN T n 99999 p with
    | inl f => rw [hr] at q; cases q
    | inr r =>
      rw [hr] at q
      have q' : (if c + 1 ≤ 60 then Sum.inr (r.2, 0, r.1) else Sum.inl (1 + 8 * p + 3)) = (Sum.inr x : Sum Nat (Nat × Nat × Nat)) := q
      by_cases hc : c + 1 ≤ 60
      · rw [if_pos hc] at q'
        injection q' with q'
        have b := rd_lt hp hr
        rw [← q']
        exact ⟨b.2.2.1, b.2.2.2, hc, Or.inl ⟨rfl, b.2.1⟩⟩
      · rw [if_neg hc] at q'; cases q'
  · rw [if_neg hd] at q
    cases hf : fW T n (wsL 5) 0 p with
    | none => rw [hf] at q; cases q
    | some r =>
      rw [hf] at q
      have q' : (if c + 1 ≤ 60 then Sum.inr (r.2, 1, r.1) else Sum.inl (1 + 8 * p + 3)) = (Sum.inr x : Sum Nat (Nat × Nat × Nat)) := q
      by_cases hc : c + 1 ≤ 60
      · rw [if_pos hc] at q'
        injection q' with q'
        have b := fW_le (wsL 5) 0 p r (by decide) hp hf
        have b2 := fW_lt T n (wsL 5) 0 p r hf
        rw [← q']
        exact ⟨b.1, b.2, hc, Or.inr ⟨rfl, by have e : (wsL 5).length = 13 := rfl; show r.1 < 13; omega⟩⟩
      · rw [if_neg hc] at q'; cases q'
/-- a sum goes on, from a place that is no blank -/
def smL (T : Nat → Nat) (n : Nat) : Nat → Nat → Nat → Cd → Sum Nat (Nat × Nat × Cd)
  | 0, p, c, E => .inr (p, c, E)
  | m + 1, p, c, E => if sgI T n p = 43 ∨ sgI T n p = 45 then (match vlE T n (sb T n (p + 1)) c with
      | .inl f => .inl f
      | .inr x => smL T n m (sb T n x.1) (c + 1) ((if sgI T n p = 43 then 2 else 3, 0) :: (x.2.1, x.2.2) :: E)) else .inr (p, c, E)
def rsm (h : ax_H) (w d : Nat) (o : List Nat) (P : Option ax_H) : Sum Nat (Nat × Nat × Cd) → Prop
  | .inl f => ∃ h', P = some h' ∧ fr (Sv w) h h' ∧ RF h' w f 400
  | .inr x => ∃ h', P = some h' ∧ fr (Sv w) h h' ∧ RM h' w x.1 x.2.1 d o x.2.2
theorem rsm_x {h h1 : ax_H} {w d : Nat} {o : List Nat} {P : Option ax_H} {x : Sum Nat (Nat × Nat × Cd)} (q : fr (Sv w) h h1) (p : rsm h1 w d o P x) : rsm h w d o P x := by
  cases x with
  | inl f =>
    obtain ⟨h', a, b, c⟩ := p
    exact ⟨h', a, fr_tr q b, c⟩
  | inr s =>
    obtain ⟨h', a, b, c⟩ := p
    exact ⟨h', a, fr_tr q b, c⟩
section
/-- with a fault told the loop ends -/
theorem zm_s8F {T : Nat → Nat} {n : Nat} (hn : n ≤ 400) (tb : ∀ i, T i < 256) {h : ax_H} (v : ok h) {u f q : Nat} (r : RF h u f q) : M_sum_8 159 h = some h := by
  have nz : ¬ nI f = 0 := fun z => by have := (nJ_eq (a := f) (b := 0) (by have := r.2.1; omega) (by omega)).mp z; have := r.2.1; omega
  rw [M_sum_8_eq, if_pos (m_159 v), r.1, if_pos (decide_eq_true nz)]
theorem zm_blF {T : Nat → Nat} {n : Nat} (hn : n ≤ 400) (tb : ∀ i, T i < 256) {h : ax_H} (v : ok h) (t : TM h T n) {u f q : Nat} (r : RF h u f q) (hq : 400 ≤ q ∧ q ≤ 900) : ∃ h', M_blanks 159 h = some h' ∧ fr (Sv u) h h' ∧ RF h' u f q := by
  have r0 := r
  obtain ⟨x1, x2, x3, p, g18, hp⟩ := r
  obtain ⟨h1, a1, a2, a3⟩ := zm_blanks hn tb v t g18 (by omega)
  have hle : sb T n p ≤ q := by
    by_cases z : p ≤ n
    · have := sb_le (T := T) z; omega
    · rw [sb_st (by omega)]; exact hp
  exact ⟨h1, a1, Sq_w a2, RF_8 r0 a2 a3 hle⟩
theorem zm_sumF {T : Nat → Nat} {n : Nat} (hn : n ≤ 400) (tb : ∀ i, T i < 256) {h : ax_H} (v : ok h) (t : TM h T n) {u f q : Nat} (r : RF h u f q) (hq : 400 ≤ q ∧ q ≤ 900) : ∃ h', M_sum 159 h = some h' ∧ fr (Sv u) h h' ∧ RF h' u f q := by
  obtain ⟨h1, a1, a2, a3⟩ := zm_valueF hn tb v t r hq
  have v1 := ok_fr a2 v
  obtain ⟨h2, b1, b2, b3⟩ := zm_blF hn tb v1 (TM_w a2 t) a3 hq
  refine ⟨h2, ?_, fr_tr a2 b2, b3⟩
  rw [M_sum_eq, if_pos (m_159 v), bnd a1, if_pos (m_159 v1), bnd b1]
  exact zm_s8F hn tb (ok_fr b2 v1) b3
theorem zm_sum_8 {T : Nat → Nat} {n : Nat} (hn : n ≤ 400) (tb : ∀ i, T i < 256) {w : Nat} (hw : w < 10) {d : Nat} {o : List Nat} : ∀ (m p c : Nat) (E : Cd) (h : ax_H), ok h → TM h T n → RM h w p c d o E → n ≤ p + m → p ≤ n → c ≤ 60 → (E.length + 2 * (60 - c) ≤ 290 ∨ E.length + (n - p) ≤ 290) → rsm h w d o (M_sum_8 159 h) (smL T n m p c E) := by
  intro m
  induction m with
  | zero =>
    intro p c E h v t r hm hp hc hE
    have g18 := r.1.2.2.1
    have es : sgI T n p = -1 := if_neg (by omega)
    have sg := zm_sign hn tb v t g18 (by omega)
    rw [es] at sg
    refine ⟨h, ?_, fr_rf _ _, r⟩
    rw [M_sum_8_eq, if_pos (m_159 v), r.1.1, if_neg (by decide), if_pos (m_159 v), bnd sg]
    simp only [show ¬ (-1 : Int32) = 43 by decide, decide_false, Bool.false_eq_true, ↓reduceIte, m_159 v]
    rw [bnd sg]
    rfl
  | succ m ih =>
    intro p c E h v t r hm hp hc hE
    have g18 := r.1.2.2.1
    have sg := zm_sign hn tb v t g18 (by omega)
    rw [smL]
    by_cases q : sgI T n p = 43 ∨ sgI T n p = 45
    · rw [if_pos q]
      have hlt : p < n := by
        rcases q with z | z
        · exact sg_lt z (by decide)
        · exact sg_lt z (by decide)
      have R1 : RM (pI h 159 18 (nI (p + 1))) w (p + 1) c d o E := RM_8 r (fr_pI rfl) (by rw [gI_pI, if_pos ⟨rfl, rfl⟩])
      have v1 : ok (pI h 159 18 (nI (p + 1))) := ok_pI v _ _ _
      have f1 : fr (Sv w) h (pI h 159 18 (nI (p + 1))) := fr_pI (Sv_t (by omega))
      have t1 : TM (pI h 159 18 (nI (p + 1))) T n := TM_w f1 t
      have val := zm_valueG hn tb v1 t1 R1 hlt hc hw (by omega) 0
      rw [vl_eq] at val
      have go : ∀ (k : Nat) (k' : Int32), k' = nI k → rsm h w d o (M_sum_47 k' 159 h) (match vlE T n (sb T n (p + 1)) c with
          | .inl f => .inl f
          | .inr x => smL T n m (sb T n x.1) (c + 1) ((k, 0) :: (x.2.1, x.2.2) :: E)) := by
        intro k k' ek
        have e47 : ∀ X, (M_value 159 (pI h 159 18 (nI (p + 1)))).bind (fun h2 => if (gS h2 159).1 = 11 then (M_entry 159 k' 0 h2).bind (fun h3 => if (gS h3 159).1 = 11 then (M_blanks 159 h3).bind (fun h4 => M_sum_8 159 h4 ) else none ) else none) = X → M_sum_47 k' 159 h = X := fun X hX => by
          rw [← hX, M_sum_47_eq]
          simp only [m_159 v, ↓reduceIte, g18, nJ_p1, gS_pI]
        have hle1 : sb T n (p + 1) ≤ n := sb_le hlt
        have hge1 := sb_ge T n (p + 1)
        cases hx : vlE T n (sb T n (p + 1)) c with
        | inl f =>
          rw [hx] at val
          obtain ⟨h2, a1, a2, a3⟩ := val
          have v2 := ok_fr a2 v1
          obtain ⟨h3, b1, b2, b3⟩ := zm_blF hn tb v2 (TM_w a2 t1) a3 (by omega)
          refine ⟨h3, ?_, fr_tr f1 (fr_tr a2 b2), b3⟩
          refine e47 _ ?_
          rw [bnd a1, if_pos (m_159 v2), bnd (zm_entryF v2 a3 k' 0), if_pos (m_159 v2), bnd b1]
          exact zm_s8F hn tb (ok_fr b2 v2) b3
        | inr x =>
          rw [hx] at val
          obtain ⟨h2, a1, a2, a3⟩ := val
          have v2 := ok_fr a2 v1
          have bx := vlE_b hle1 hx
          have a3' : RM h2 w x.1 (c + 1) d o ((x.2.1, x.2.2) :: E) := a3
          obtain ⟨h3, b1, b2, b3⟩ := zm_entryG v2 a3' hw (by rw [List.length_cons]; omega) k 0 (k' := k') (x' := 0) ek rfl
          have v3 := ok_fr b2 v2
          have t3 := TM_w b2 (TM_w a2 t1)
          obtain ⟨h4, c1, c2, c3⟩ := zm_blanks hn tb v3 t3 b3.1.2.2.1 (by omega)
          have R4 := RM_8 b3 c2 c3
          have hle4 : sb T n x.1 ≤ n := sb_le bx.2.1
          have hge4 := sb_ge T n x.1
          have rcv := ih (sb T n x.1) (c + 1) ((k, 0) :: (x.2.1, x.2.2) :: E) h4 (ok_fr c2 v3) (TM_8 c2 t3) R4 (by omega) hle4 (by omega) (by rw [List.length_cons, List.length_cons]; omega)
          have eq : M_sum_47 k' 159 h = M_sum_8 159 h4 := by
            refine e47 _ ?_
            rw [bnd a1, if_pos (m_159 v2), bnd b1, if_pos (m_159 v3), bnd c1]
          rw [eq]
          exact rsm_x (fr_tr f1 (fr_tr a2 (fr_tr b2 (Sq_w c2)))) rcv
      rw [M_sum_8_eq, if_pos (m_159 v), r.1.1, if_neg (by decide), if_pos (m_159 v), bnd sg]
      by_cases z : sgI T n p = 43
      · have k := go 2 2 rfl
        simp only [z, decide_true, ↓reduceIte, m_159 v] at sg k ⊢
        rw [bnd sg]
        exact k
      · have z2 : sgI T n p = 45 := q.resolve_left z
        have k := go 3 3 rfl
        simp only [z2, show ¬ (45 : Int32) = 43 by decide, decide_false, Bool.false_eq_true, ↓reduceIte, m_159 v] at sg k ⊢
        rw [bnd sg]
        simp only [not_true_eq_false, decide_false, Bool.false_eq_true, ↓reduceIte, m_159 v]
        rw [bnd sg]
        exact k
    · rw [if_neg q]
      refine ⟨h, ?_, fr_rf _ _, r⟩
      have z1 : ¬ sgI T n p = 43 := fun z => q (Or.inl z)
      have z2 : ¬ sgI T n p = 45 := fun z => q (Or.inr z)
      rw [M_sum_8_eq, if_pos (m_159 v), r.1.1, if_neg (by decide), if_pos (m_159 v), bnd sg]
      simp only [z1, decide_false, Bool.false_eq_true, ↓reduceIte, m_159 v]
      rw [bnd sg]
      simp only [z2, not_false_eq_true, decide_true, ↓reduceIte]
end
