/-! what stays between clauses -/
theorem cnt_up {P P' : Nat → Bool} {t : Nat} (h0 : P t = false) (h : ∀ k, ¬ k = t → P' k = P k) : ∀ (k i : Nat), cntB P' k i = cntB P k i + (if i ≤ t ∧ t < i + k ∧ P' t = true then 1 else 0)
  | 0, i => by rw [cntB, cntB, if_neg (by omega)]
  | k + 1, i => by
    have ih := cnt_up h0 h k (i + 1)
    show (if P' i = true then 1 else 0) + cntB P' k (i + 1) = (if P i = true then 1 else 0) + cntB P k (i + 1) + (if i ≤ t ∧ t < i + (k + 1) ∧ P' t = true then 1 else 0)
    rw [ih]
    generalize cntB P k (i + 1) = x
    by_cases hp : P' t = true
    · by_cases q : i = t
      · subst q
        simp only [hp, h0, ↓reduceIte, and_true, Bool.false_eq_true]
        rw [if_neg (by omega), if_pos (by omega)]
        omega
      · rw [h i q]
        simp only [hp, and_true]
        generalize (if P i = true then 1 else 0) = y
        by_cases z : i + 1 ≤ t ∧ t < i + 1 + k
        · rw [if_pos z, if_pos (by omega)]; omega
        · rw [if_neg z, if_neg (by omega)]; omega
    · by_cases q : i = t
      · subst q
        simp only [hp, h0, ↓reduceIte, and_false, Bool.false_eq_true]
        omega
      · rw [h i q]
        simp only [hp, ↓reduceIte, and_false, Bool.false_eq_true]
        omega
theorem fW_mn {T : Nat → Nat} {n m : Nat} : ∀ (l : List (List Nat)) (k p : Nat) (r : Nat × Nat), (∀ w ∈ l, m ≤ w.length) → fW T n l k p = some r → p + m ≤ r.2
  | [], k, p, r, _, h => by cases h
  | w :: l, k, p, r, hl, h => by
    rw [fW] at h
    by_cases q : wD T n w p = true
    · rw [if_pos q] at h
      injection h with h
      rw [← h]
      have := hl w List.mem_cons_self
      show p + m ≤ p + w.length
      omega
    · rw [if_neg q] at h
      exact fW_mn l (k + 1) p r (fun x hx => hl x (List.mem_cons_of_mem _ hx)) h
def WIs (n : Nat) (s : Ws) : Prop := WI n s.1 s.2.1 s.2.2.1 s.2.2.2.1 s.2.2.2.2.1 s.2.2.2.2.2.1 s.2.2.2.2.2.2
theorem npT_app : ∀ (L : List Cd) (R : Cd), npT (L ++ [R]) = npT L + npu R
  | [], R => by rw [List.nil_append, npT]; show npu R + 0 = 0 + npu R; omega
  | S :: L, R => by rw [List.cons_append, npT, npT, npT_app L R]; omega
theorem npu_rev : ∀ (R : Cd), npu R.reverse = npu R
  | [] => rfl
  | e :: R => by rw [List.reverse_cons, npu_app, npu_rev R, npu, npu, npu]; omega
section
theorem WI_dg {T : Nat → Nat} {n : Nat} {p c ft : Nat} {hd : Int32} {dg hl : Nat → Int32} {L : List Cd} (m : WI n p c ft hd dg hl L) {t : Nat} (ht : t < 6) (h0 : dg t = 0) {how : Nat} (hw : how = 1 ∨ how = 2 ∨ how = 3) (h3 : ¬ (how = 1 ∧ ft = 3)) {p' : Nat} (h1 : p ≤ p') (h2 : p' ≤ n) {v : Int32} (hv : inI v (-99999) 99999) (hv2 : ¬ how = 2 → v = 0) : WI n p' c (if how = 1 then ft + 1 else ft) hd (upI dg t (nI how)) (upI hl t v) L := by
  obtain ⟨⟨m1, m2, m3, m4⟩, m5, m6, m7, m8, m9⟩ := m
  refine ⟨⟨h2, m2, by split <;> omega, m4⟩, fun k hk => ?_, ?_, m7, m8, by omega⟩
  · unfold upI
    by_cases z : k = t
    · rw [if_pos z, if_pos z]
      refine ⟨by unfold inI; rw [nJ_i (by omega)]; omega, hv, fun y => hv2 (fun x => y (by rw [x]; rfl))⟩
    · rw [if_neg z, if_neg z]; exact m5 k hk
  · have := cnt_up (P := fun t => decide (dg t = 1)) (P' := fun k => decide (upI dg t (nI how) k = 1)) (t := t) (by show decide (dg t = 1) = false; rw [h0]; rfl) (fun k hk => by show decide (upI dg t (nI how) k = 1) = decide (dg k = 1); unfold upI; rw [if_neg hk]) 6 0
    rw [this, m6]
    have e : upI dg t (nI how) t = nI how := if_pos rfl
    by_cases q : how = 1
    · rw [if_pos q, if_pos ⟨by omega, by omega, by show decide (upI dg t (nI how) t = 1) = true; rw [e, q]; rfl⟩]
    · have nz : ¬ (0 ≤ t ∧ t < 0 + 6 ∧ decide (upI dg t (nI how) t = 1) = true) := fun z => by
        have z3 := of_decide_eq_true z.2.2
        rw [e, show (1 : Int32) = nI 1 from rfl, nJ_eq (by omega) (by omega)] at z3
        exact q z3
      rw [if_neg q, if_neg nz]
      rfl
theorem WI_tm {T : Nat → Nat} {n : Nat} {p c ft : Nat} {hd : Int32} {dg hl : Nat → Int32} {L : List Cd} (m : WI n p c ft hd dg hl L) {how : Nat} (hw : how = 1 ∨ how = 2 ∨ how = 3) {s : Ws} (q : tmP T n how p c ft hd dg hl L = .inr s) : WIs n s ∧ p ≤ s.1 ∧ s.2.2.2.2.2.2.length ≤ L.length + 1 := by
  have hp : p ≤ n := m.1.1
  have hge := sb_ge T n p
  have hle : sb T n p ≤ n := sb_le hp
  unfold tmP at q
  generalize sb T n p = p1 at *
  cases hf : fW T n (wsL 2) 0 p1 with
  | none => rw [hf] at q; cases q
  | some r =>
    rw [hf] at q
    have q' : (if ¬ dg r.1 = 0 ∨ (how = 1 ∧ ft = 3) then Sum.inl (1 + 8 * p1 + 5) else if how = 2 then hlP T n r.2 c ft hd (upI dg r.1 2) hl L r.1 else Sum.inr (r.2, c, (if how = 1 then ft + 1 else ft), hd, upI dg r.1 (nI how), hl, L)) = (Sum.inr s : Sum Nat Ws) := q
    have h6 : r.1 < 6 := by
      have := fW_lt T n (wsL 2) 0 p1 r hf
      have e : (wsL 2).length = 6 := rfl
      omega
    have hr := fW_le (wsL 2) 0 p1 r (by decide) hle hf
    by_cases c1 : ¬ dg r.1 = 0 ∨ (how = 1 ∧ ft = 3)
    · rw [if_pos c1] at q'; cases q'
    · rw [if_neg c1] at q'
      have h0 : dg r.1 = 0 := Classical.not_not.mp fun z => c1 (Or.inl z)
      have h3 : ¬ (how = 1 ∧ ft = 3) := fun z => c1 (Or.inr z)
      by_cases c2 : how = 2
      · rw [if_pos c2] at q'
        unfold hlP at q'
        have hge2 := sb_ge T n r.2
        have hle2 : sb T n r.2 ≤ n := sb_le hr.2
        generalize sb T n r.2 = p2 at *
        have hp3 : p2 ≤ (if sgI T n p2 = 45 then p2 + 1 else p2) ∧ (if sgI T n p2 = 45 then p2 + 1 else p2) ≤ n := by
          by_cases z : sgI T n p2 = 45
          · have := sg_lt z (by decide)
            rw [if_pos z]; omega
          · rw [if_neg z]; omega
        generalize (if sgI T n p2 = 45 then p2 + 1 else p2) = p3 at *
        cases hn : rdN T n 99999 p3 with
        | inl f => rw [hn] at q'; cases q'
        | inr x =>
          rw [hn] at q'
          have b := rd_lt hp3.2 hn
          injection q' with q'
          rw [← q']
          have hv : inI (if sgI T n p2 = 45 then -(nI x.1) else nI x.1) (-99999) 99999 := by
            unfold inI
            by_cases z : sgI T n p2 = 45
            · rw [if_pos z, i32_neg (by rw [nJ_i (by omega)]; omega), nJ_i (by omega)]; omega
            · rw [if_neg z, nJ_i (by omega)]; omega
          have k := WI_dg (T := T) m h6 h0 hw h3 (p' := x.2) (by omega) b.2.2.2 hv (fun z => absurd c2 z)
          rw [if_neg (show ¬ how = 1 by omega), c2] at k
          exact ⟨k, by show p ≤ x.2; omega, by show L.length ≤ L.length + 1; omega⟩
      · rw [if_neg c2] at q'
        injection q' with q'
        rw [← q']
        have k := WI_dg (T := T) m h6 h0 hw h3 (p' := r.2) (by omega) hr.2 (v := 0) (by unfold inI; decide) (fun _ => rfl)
        have e : upI hl r.1 0 = hl := by
          funext j
          unfold upI
          by_cases z : j = r.1
          · rw [if_pos z, z]
            exact ((m.2.1 r.1 h6).2.2 (by rw [h0]; decide)).symm
          · rw [if_neg z]
        rw [e] at k
        exact ⟨k, by show p ≤ r.2; omega, by show L.length ≤ L.length + 1; omega⟩
theorem WI_lv {T : Nat → Nat} {n : Nat} {p c ft : Nat} {hd : Int32} {dg hl : Nat → Int32} {L : List Cd} (m : WI n p c ft hd dg hl L) (hE : 2 * (jnT L).length + 2 ≤ p + 2 * c) (hn : n ≤ 400) {s : Ws} (q : lvP T n p c ft hd dg hl L = .inr s) : WIs n s ∧ p ≤ s.1 ∧ s.2.2.2.2.2.2.length ≤ L.length + 1 := by
  obtain ⟨⟨m1, m2, m3, m4⟩, m5, m6, m7, m8, m9⟩ := m
  have hge := sb_ge T n p
  have hle : sb T n p ≤ n := sb_le m1
  unfold lvP at q
  generalize sb T n p = p1 at *
  by_cases c1 : wD T n [105, 102] p1 = true
  · rw [if_pos c1] at q
    have hle2 : p1 + 2 ≤ n := wD_le c1 hle
    cases hr : rnM T n 401 (0, p1 + 2, c, 0, [], []) with
    | inl f => rw [hr] at q; cases q
    | inr x =>
      rw [hr] at q
      have q' : (Sum.inr (x.2.1, x.2.2.1, ft, hd, dg, hl, L ++ [x.2.2.2.2.2.reverse]) : Sum Nat Ws) = Sum.inr s := q
      injection q' with q'
      have m0 : MIs n (p1 + 2) c (0, p1 + 2, c, 0, [], []) := ⟨hle2, m2, by show 0 ≤ 10; omega, rfl, ⟨[], ⟨[], trivial, Or.inl ⟨rfl, rfl, rfl⟩⟩, rfl, by show 0 ≤ c; omega⟩, by show 0 + c ≤ c; omega, by show 2 * (0 + 0) + 0 + (p1 + 2) + 2 * c ≤ p1 + 2 + 2 * c; omega⟩
      obtain ⟨o1, o2, o3, -⟩ := rn_ok 401 _ m0 (Or.inr (by show n + 1 ≤ p1 + 2 + 401; omega)) x hr
      have o5 : tOk x.2.2.2.2.2.reverse := by
        obtain ⟨-, -, -, -, ⟨ts, ⟨B, hB, k5⟩, k8, k9⟩, -, -⟩ := o2
        rcases k5 with ⟨e, -⟩ | ⟨e, -⟩ | ⟨e, -⟩ | ⟨e, -⟩ | ⟨e, -⟩ | ⟨e, -⟩ | ⟨e, -⟩ | ⟨e, -⟩ | ⟨e, -⟩ | ⟨e, a, b⟩
        case inr.inr.inr.inr.inr.inr.inr.inr.inr => rw [b] at k8; exact k8
        all_goals exact absurd (e.symm.trans o1) (by decide)
      obtain ⟨k1, k2, -, -, -, k6, k7⟩ := o2
      have o3' : p1 + 2 ≤ x.2.1 := o3
      rw [← q']
      refine ⟨⟨⟨k1, k2, m3, m4⟩, m5, m6, fun R hR => ?_, ?_, ?_⟩, by show p ≤ x.2.1; omega, by show (L ++ [x.2.2.2.2.2.reverse]).length ≤ _; rw [List.length_append]; show L.length + 1 ≤ _; omega⟩
      · rcases List.mem_append.mp hR with z | z
        · exact m7 R z
        · rcases List.mem_cons.mp z with rfl | z
          · exact o5
          · cases z
      · show npT (L ++ [x.2.2.2.2.2.reverse]) ≤ x.2.2.1
        rw [npT_app, npu_rev]
        omega
      · show 2 * (jnT (L ++ [x.2.2.2.2.2.reverse])).length ≤ x.2.1 + 2 * x.2.2.1
        have e : (jnT (L ++ [x.2.2.2.2.2.reverse])).length ≤ x.2.2.2.2.2.length + (jnT L).length + 1 := by
          by_cases y : L = []
          · rw [y, List.nil_append, jnT_1, List.length_reverse]; omega
          · have := congrArg List.length (jnT_app y x.2.2.2.2.2.reverse)
            rw [List.length_reverse, List.length_cons, List.length_append, List.length_reverse, List.length_reverse, List.length_reverse] at this
            omega
        omega
  · rw [if_neg c1] at q; cases q
theorem WI_cl {T : Nat → Nat} {n : Nat} {p c ft : Nat} {hd : Int32} {dg hl : Nat → Int32} {L : List Cd} (m : WI n p c ft hd dg hl L) (hn : n ≤ 400) {k : Nat} {s : Ws} (q : clC T n k p c ft hd dg hl L = .inr s) : WIs n s ∧ p ≤ s.1 ∧ s.2.2.2.2.2.2.length ≤ L.length + 1 ∧ k < 12 := by
  have hp : p ≤ n := m.1.1
  have hge := sb_ge T n p
  have hle : sb T n p ≤ n := sb_le hp
  unfold clC at q
  generalize sb T n p = p1 at *
  cases hf : fW T n (wsL 1) 0 p1 with
  | none => rw [hf] at q; cases q
  | some r =>
    rw [hf] at q
    have q' : (if k < 12 then (if r.1 = 0 then tmP T n 1 r.2 c ft hd dg hl L else if r.1 = 1 then tmP T n 2 r.2 c ft hd dg hl L else if r.1 = 2 then tmP T n 3 r.2 c ft hd dg hl L else if r.1 = 3 then lvP T n r.2 c ft hd dg hl L else hdP T n p1 r.2 c ft hd dg hl L) else Sum.inl (1 + 8 * p1 + 4)) = (Sum.inr s : Sum Nat Ws) := q
    have hr := fW_le (wsL 1) 0 p1 r (by decide) hle hf
    have hr3 := fW_mn (m := 3) (wsL 1) 0 p1 r (by decide) hf
    have m' : WI n r.2 c ft hd dg hl L := by
      obtain ⟨⟨m1, m2, m3, m4⟩, m5, m6, m7, m8, m9⟩ := m
      exact ⟨⟨hr.2, m2, m3, m4⟩, m5, m6, m7, m8, by omega⟩
    by_cases hk : k < 12
    · rw [if_pos hk] at q'
      have fin : (WIs n s ∧ r.2 ≤ s.1 ∧ s.2.2.2.2.2.2.length ≤ L.length + 1) → WIs n s ∧ p ≤ s.1 ∧ s.2.2.2.2.2.2.length ≤ L.length + 1 ∧ k < 12 := fun z => ⟨z.1, by have := z.2.1; omega, z.2.2, hk⟩
      refine fin ?_
      by_cases r0 : r.1 = 0
      · rw [if_pos r0] at q'; exact WI_tm m' (Or.inl rfl) q'
      rw [if_neg r0] at q'
      by_cases r1 : r.1 = 1
      · rw [if_pos r1] at q'; exact WI_tm m' (Or.inr (Or.inl rfl)) q'
      rw [if_neg r1] at q'
      by_cases r2 : r.1 = 2
      · rw [if_pos r2] at q'; exact WI_tm m' (Or.inr (Or.inr rfl)) q'
      rw [if_neg r2] at q'
      by_cases r3 : r.1 = 3
      · rw [if_pos r3] at q'; exact WI_lv m' (by have := m.2.2.2.2.2; omega) hn q'
      rw [if_neg r3] at q'
      unfold hdP at q'
      by_cases c1 : hd = -1
      · rw [if_pos c1] at q'
        have hge2 := sb_ge T n r.2
        have hle2 : sb T n r.2 ≤ n := sb_le hr.2
        generalize sb T n r.2 = p2 at *
        cases hx : rdN T n 7 p2 with
        | inl f => rw [hx] at q'; cases q'
        | inr x =>
          rw [hx] at q'
          have b := rd_lt hle2 hx
          have q'' : (Sum.inr (x.2, c, ft, nI x.1, dg, hl, L) : Sum Nat Ws) = Sum.inr s := q'
          injection q'' with q''
          rw [← q'']
          obtain ⟨⟨m1, m2, m3, m4⟩, m5, m6, m7, m8, m9⟩ := m'
          refine ⟨⟨⟨b.2.2.2, m2, m3, ?_⟩, m5, m6, m7, m8, by show 2 * (jnT L).length ≤ x.2 + 2 * c; omega⟩, by show r.2 ≤ x.2; omega, by show L.length ≤ L.length + 1; omega⟩
          show inI (nI x.1) (-1) 7
          unfold inI
          rw [nJ_i (by omega)]
          omega
      · rw [if_neg c1] at q'; cases q'
    · rw [if_neg hk] at q'; cases q'
end
