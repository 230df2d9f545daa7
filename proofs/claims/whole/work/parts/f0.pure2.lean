/-! the test reader, pure: an operator keeps what stays -/
theorem ty_pm {F : Cd} {o a b : Nat} {r : List Nat} (h : tyL F.reverse [] (b :: a :: r)) (ho : pmO o) (ha : 0 < a) (hb : 0 < b) : tyL ((o, 0) :: F).reverse [] ((a + b) :: r) := ty_snoc h (Or.inr (Or.inr (Or.inr ⟨a, b, r, rfl, rfl, Or.inl ⟨ho, ha, hb, rfl⟩⟩)))
theorem ty_cm {F : Cd} {o a b : Nat} {r : List Nat} (h : tyL F.reverse [] (b :: a :: r)) (ho : cmO o) (ha : 0 < a) (hb : 0 < b) : tyL ((o, 0) :: F).reverse [] (0 :: r) := ty_snoc h (Or.inr (Or.inr (Or.inr ⟨a, b, r, rfl, rfl, Or.inr (Or.inl ⟨ho.1, ho.2, ha, hb, rfl⟩)⟩)))
theorem pm_b {o : Nat} (h : pmO o) : o ≤ 3 ∧ 2 ≤ o := by unfold pmO at h; omega
theorem bd_c {op x : Nat} (h : x ≤ op) (h9 : ¬ x = 9) (W : List Nat) (E : Cd) (d : Nat) : bdW op (x :: W) E d = bdW op W ((x, 0) :: E) d := by rw [bdW, if_pos h, if_neg h9]
theorem bd_s {op x : Nat} (h : ¬ x ≤ op) (W : List Nat) (E : Cd) (d : Nat) : bdW op (x :: W) E d = (x :: W, E, d) := by rw [bdW, if_neg h]
section
theorem red_2 {n p0 c0 st p c d : Nat} {W : List Nat} {F : Cd} (m : MI n p0 c0 st p c d W F) (h : st = 2) : ∃ B F1 a, shp 0 B ∧ bdW 3 W F d = (B, F1, d) ∧ 0 < a ∧ tyL F1.reverse [] (a :: rp (ao B)) ∧ a ≤ c ∧ dpW B = d ∧ nbW B + F1.length = nbW W + F.length ∧ npu F1 = npu F := by
  obtain ⟨m1, m2, m3, m4, ⟨ts, ⟨B, hB, m5⟩, m8, m9⟩, m6, m7⟩ := m
  rcases m5 with ⟨e, -⟩ | ⟨e, -⟩ | ⟨e, -⟩ | ⟨e, a, ha, rfl, rfl⟩ | ⟨e, o, a, b, ho, ha, hb, rfl, rfl⟩ | ⟨e, -⟩ | ⟨e, -⟩ | ⟨e, -⟩ | ⟨e, -⟩ | ⟨e, -⟩
  case inr.inr.inr.inl => exact ⟨W, F, a, hB, bd_3 hB F d, ha, m8, by rw [List.sum_cons] at m9; omega, m4, rfl, rfl⟩
  case inr.inr.inr.inr.inl =>
    have hp := pm_b ho
    refine ⟨B, (o, 0) :: F, a + b, hB, by rw [bd_c hp.1 (by omega), bd_3 hB], by omega, ty_pm m8 ho ha hb, by rw [List.sum_cons, List.sum_cons] at m9; omega, by rw [← dp_o (o := o) (by omega) (by omega)]; exact m4, by rw [nb_o (by omega), List.length_cons]; omega, pu_o hp.2 F⟩
  all_goals exact absurd (e.symm.trans h) (by decide)
theorem red_4 {n p0 c0 st p c d : Nat} {W : List Nat} {F : Cd} (m : MI n p0 c0 st p c d W F) (h : st = 4) : ∃ q B F1 a b, cmO q ∧ shp 0 B ∧ bdW 3 W F d = (q :: B, F1, d) ∧ 0 < a ∧ 0 < b ∧ tyL F1.reverse [] (b :: a :: rp (ao B)) ∧ a + b ≤ c ∧ dpW B = d ∧ nbW (q :: B) + F1.length = nbW W + F.length ∧ npu F1 = npu F ∧ (∀ op, 8 ≤ op → bdW op W F d = bdW op (q :: B) F1 d) := by
  obtain ⟨m1, m2, m3, m4, ⟨ts, ⟨B, hB, m5⟩, m8, m9⟩, m6, m7⟩ := m
  rcases m5 with ⟨e, -⟩ | ⟨e, -⟩ | ⟨e, -⟩ | ⟨e, -⟩ | ⟨e, -⟩ | ⟨e, -⟩ | ⟨e, -⟩ | ⟨e, q, a, b, hq, ha, hb, rfl, rfl⟩ | ⟨e, o, q, a, b, c', ho, hq, ha, hb, hc, rfl, rfl⟩ | ⟨e, -⟩
  case inr.inr.inr.inr.inr.inr.inr.inl =>
    have hq' := hq
    unfold cmO at hq'
    exact ⟨q, B, F, a, b, hq, hB, bd_s (by omega) B F d, ha, hb, m8, by rw [List.sum_cons, List.sum_cons] at m9; omega, by rw [← dp_o (o := q) (by omega) (by omega)]; exact m4, rfl, rfl, fun _ _ => rfl⟩
  case inr.inr.inr.inr.inr.inr.inr.inr.inl =>
    have hq' := hq
    unfold cmO at hq'
    have hp := pm_b ho
    refine ⟨q, B, (o, 0) :: F, a, b + c', hq, hB, by rw [bd_c hp.1 (by omega), bd_s (by omega)], ha, by omega, ty_pm m8 ho hb hc, by rw [List.sum_cons, List.sum_cons, List.sum_cons] at m9; omega, by rw [← dp_o (o := q) (by omega) (by omega), ← dp_o (o := o) (by omega) (by omega)]; exact m4, by rw [nb_o (o := o) (by omega), List.length_cons]; omega, pu_o hp.2 F, fun op hop => bd_c (by omega) (by omega) _ _ _⟩
  all_goals exact absurd (e.symm.trans h) (by decide)
theorem red_5 {n p0 c0 st p c d : Nat} {W : List Nat} {F : Cd} (m : MI n p0 c0 st p c d W F) (h : st = 5) : ∃ B F1, shp 0 B ∧ (∀ op, 8 ≤ op → bdW op W F d = bdW op B F1 d) ∧ tyL F1.reverse [] (0 :: rp (ao B)) ∧ dpW B = d ∧ nbW B + F1.length = nbW W + F.length ∧ npu F1 = npu F := by
  obtain ⟨m1, m2, m3, m4, ⟨ts, ⟨B, hB, m5⟩, m8, m9⟩, m6, m7⟩ := m
  rcases m5 with ⟨e, -⟩ | ⟨e, rfl, rfl⟩ | ⟨e, -⟩ | ⟨e, -⟩ | ⟨e, -⟩ | ⟨e, -⟩ | ⟨e, -⟩ | ⟨e, -⟩ | ⟨e, -⟩ | ⟨e, -⟩
  case inr.inl => exact ⟨W, F, hB, fun _ _ => rfl, m8, m4, rfl, rfl⟩
  all_goals exact absurd (e.symm.trans h) (by decide)
theorem red_45 {n p0 c0 st p c d : Nat} {W : List Nat} {F : Cd} (m : MI n p0 c0 st p c d W F) (h : st = 4 ∨ st = 5) : ∃ B F1, shp 0 B ∧ (∀ op, 8 ≤ op → bdW op W F d = bdW op B F1 d) ∧ tyL F1.reverse [] (0 :: rp (ao B)) ∧ dpW B = d ∧ nbW B + F1.length = nbW W + F.length ∧ npu F1 = npu F := by
  rcases h with h | h
  · obtain ⟨q, B, F1, a, b, hq, hB, -, ha, hb, ht, -, hd, hn, hp, he⟩ := red_4 m h
    have hq' := hq
    unfold cmO at hq'
    exact ⟨B, (q, 0) :: F1, hB, fun op hop => by rw [he op hop, bd_c (by omega) (by omega)], ty_cm ht hq ha hb, hd, by rw [nb_o (by omega)] at hn; rw [List.length_cons]; omega, by rw [pu_o (by omega)]; exact hp⟩
  · exact red_5 m h
end
theorem shp_w {B : List Nat} {r r' : Nat} (hr : r' ≤ r) (h : shp r B) : shp r' B := by
  cases B with
  | nil => trivial
  | cons x B =>
    rcases h with ⟨h1, h2, h3⟩ | ⟨h1, h2, h3⟩ | ⟨h1, h2, h3⟩ | ⟨h1, h3⟩
    · exact Or.inl ⟨h1, by omega, h3⟩
    · exact Or.inr (Or.inl ⟨h1, by omega, h3⟩)
    · exact Or.inr (Or.inr (Or.inl ⟨h1, by omega, h3⟩))
    · exact Or.inr (Or.inr (Or.inr ⟨h1, h3⟩))
theorem cm_o (T : Nat → Nat) (n p : Nat) : cmO (cmN T n p) := by
  unfold cmN cmO
  by_cases q1 : sgI T n p = 61
  · rw [if_pos q1]; omega
  · rw [if_neg q1]
    by_cases q2 : sgI T n p = 60
    · rw [if_pos q2]; split <;> omega
    · rw [if_neg q2]; split <;> omega
theorem sl_24 {k : Nat} (h : k = 2 ∨ k = 4) : slS k = 1 := if_pos h
theorem sl_n {k : Nat} (h : ¬ (k = 2 ∨ k = 4)) : slS k = 0 := if_neg h
section
/-- and, or, closing -/
theorem ao_ok {T : Nat → Nat} {n p0 c0 st p c d : Nat} {W : List Nat} {F : Cd} (m : MI n p0 c0 st p c d W F) (h : st = 4 ∨ st = 5) {op : Nat} (ho : op = 10 ∨ op = 11) {p1 p2 : Nat} (h1 : p ≤ p1) (h2 : p1 + 2 ≤ p2) (h3 : p2 ≤ n) : MI n p0 c0 0 p2 c (bdW op W F d).2.2 (op :: (bdW op W F d).1) (bdW op W F d).2.1 := by
  obtain ⟨B, F1, hB, he, ht, hd, hn, hp⟩ := red_45 m h
  obtain ⟨m1, m2, m3, m4, -, m6, m7⟩ := m
  have ho12 : op < 12 := by omega
  rw [he op (by omega)]
  obtain ⟨t1, t2⟩ := bd_ty ho B 0 F1 d (by omega) hB ht
  have b1 := bd_d ho12 B F1 d hd
  have b2 := bd_nb ho12 B F1 d
  have b3 := bd_np (op := op) B F1 d (fun x hx => by have := shp_le B 0 hB x hx; omega)
  have b4 := (bd_b op B F1 d (by omega)).2.2.2.2.1
  generalize bdW op B F1 d = b at *
  refine ⟨h3, m2, by omega, by rw [dp_o (by omega) (by omega)]; exact b1, ⟨rp (ao (op :: b.1)), ⟨op :: b.1, ?_, Or.inl ⟨rfl, rfl, rfl⟩⟩, ?_, by rw [rp_sum]; omega⟩, by omega, ?_⟩
  · rcases ho with rfl | rfl
    · exact Or.inr (Or.inl ⟨rfl, rfl, t2⟩)
    · exact Or.inr (Or.inr (Or.inl ⟨rfl, by omega, t2⟩))
  · rw [ao, if_pos (by omega), rp_s]; exact t1
  · have e0 : slS 0 = 0 := rfl
    rw [nb_o (by omega), e0]
    have := sl_1 st
    omega
theorem cl_ok {T : Nat → Nat} {n p0 c0 st p c d : Nat} {W : List Nat} {F : Cd} (m : MI n p0 c0 st p c d W F) (h : st = 4 ∨ st = 5) {p1 : Nat} (h1 : p ≤ p1) (h3 : p1 ≤ n) {s : Ms} (q : clP T n p1 c (bdW 11 W F d) = .inr s) : MIs n p0 c0 s ∧ p ≤ s.2.1 ∧ (¬ s.1 = 6 → p < s.2.1) := by
  obtain ⟨B, F1, hB, he, ht, hd, hn, hp⟩ := red_45 m h
  obtain ⟨m1, m2, m3, m4, -, m6, m7⟩ := m
  rw [he 11 (by omega)] at q
  obtain ⟨t1, t2⟩ := bd_ty (Or.inr rfl) B 0 F1 d (by omega) hB ht
  have b1 := bd_d (op := 11) (by omega) B F1 d hd
  have b2 := bd_nb (op := 11) (by omega) B F1 d
  have b3 := bd_np (op := 11) B F1 d (fun x hx => by have := shp_le B 0 hB x hx; omega)
  have b4 := (bd_b 11 B F1 d (by omega)).2.2.2.2.1
  generalize bdW 11 B F1 d = b at *
  obtain ⟨W', E', d'⟩ := b
  have hsl := sl_1 st
  unfold clP at q
  cases W' with
  | nil =>
    injection q with q
    rw [← q]
    refine ⟨⟨h3, m2, by show d' ≤ 10; have : d' ≤ d := b4; omega, b1, ⟨[0], ⟨[], trivial, Or.inr (Or.inr (Or.inr (Or.inr (Or.inr (Or.inr (Or.inr (Or.inr (Or.inr ⟨rfl, rfl, rfl⟩))))))))⟩, t1, by show 0 + 0 ≤ c; omega⟩, ?_, ?_⟩, h1, fun z => absurd rfl z⟩
    · have : npu E' = npu F1 := b3
      show npu E' + c0 ≤ c
      omega
    · have e0 : slS 6 = 0 := rfl
      have : nbW [] + E'.length = nbW B + F1.length := b2
      have e1 : nbW [] = 0 := rfl
      show 2 * (E'.length + nbW []) + slS 6 + p0 + 2 * c0 ≤ p1 + 2 * c
      omega
  | cons x W' =>
    have q' : (if sgI T n p1 = 93 then Sum.inr (5, p1 + 1, c, d' - 1, W', E') else Sum.inl (1 + 8 * p1 + 0)) = (Sum.inr s : Sum Nat Ms) := q
    by_cases q93 : sgI T n p1 = 93
    · rw [if_pos q93] at q'
      have hlt := sg_lt q93 (by decide)
      injection q' with q'
      rw [← q']
      have t2' : x = 12 ∧ shp 0 W' := by
        rcases t2 with ⟨-, z, -⟩ | ⟨-, z, -⟩ | ⟨-, z, -⟩ | z
        · exact absurd z (by decide)
        · exact absurd z (by decide)
        · exact absurd z (by decide)
        · exact z
      have hx := t2'.1
      have b1' : dpW (x :: W') = d' := b1
      rw [dpW, if_pos (Or.inr hx)] at b1'
      have t1' : tyL E'.reverse [] (0 :: rp (ao (x :: W'))) := t1
      rw [ao, if_neg (by omega), Nat.zero_add] at t1'
      refine ⟨⟨hlt, m2, by show d' - 1 ≤ 10; have : d' ≤ d := b4; omega, by show dpW W' = d' - 1; omega, ⟨0 :: rp (ao W'), ⟨W', t2'.2, Or.inr (Or.inl ⟨rfl, rfl, rfl⟩)⟩, t1', by rw [List.sum_cons, rp_sum]; omega⟩, ?_, ?_⟩, by show p ≤ p1 + 1; omega, fun _ => by show p < p1 + 1; omega⟩
      · have : npu E' = npu F1 := b3
        show npu E' + c0 ≤ c
        omega
      · have e0 : slS 5 = 0 := rfl
        have b2' : nbW (x :: W') + E'.length = nbW B + F1.length := b2
        rw [nbW, if_pos hx] at b2'
        show 2 * (E'.length + nbW W') + slS 5 + p0 + 2 * c0 ≤ p1 + 1 + 2 * c
        omega
    · rw [if_neg q93] at q'; cases q'
theorem opR_ok {T : Nat → Nat} {n p0 c0 st p c d : Nat} {W : List Nat} {F : Cd} (m : MI n p0 c0 st p c d W F) (h : st = 2 ∨ st = 4 ∨ st = 5) {s : Ms} (q : opR T n st p c d W F = .inr s) : MIs n p0 c0 s ∧ p ≤ s.2.1 ∧ (¬ s.1 = 6 → p < s.2.1) := by
  have m0 := m
  obtain ⟨m1, m2, m3, m4, -, m6, m7⟩ := m
  have hge := sb_ge T n p
  have hle : sb T n p ≤ n := sb_le m1
  unfold opR at q
  generalize sb T n p = p1 at *
  by_cases q1 : ¬ st = 5 ∧ (sgI T n p1 = 43 ∨ sgI T n p1 = 45)
  · rw [if_pos q1] at q
    have hlt : p1 < n := by
      rcases q1.2 with z | z
      · exact sg_lt z (by decide)
      · exact sg_lt z (by decide)
    have ho : pmO (if sgI T n p1 = 43 then 2 else 3) := by
      unfold pmO
      by_cases z : sgI T n p1 = 43
      · rw [if_pos z]; exact Or.inl rfl
      · rw [if_neg z]; exact Or.inr rfl
    have ho2 := pm_b ho
    generalize (if sgI T n p1 = 43 then 2 else 3) = o at *
    injection q with q
    rw [← q]
    refine ⟨?_, by show p ≤ p1 + 1; omega, fun _ => by show p < p1 + 1; omega⟩
    have h24 : st = 2 ∨ st = 4 := by
      rcases h with z | z | z
      · exact Or.inl z
      · exact Or.inr z
      · exact absurd z q1.1
    have hs := sl_24 h24
    rcases h24 with h2 | h4
    · obtain ⟨B, F1, a, r1, r2, r3, r4, r5, r6, r7, r8⟩ := red_2 m0 h2
      rw [r2, if_pos h2]
      refine ⟨hlt, m2, m3, by show dpW (o :: B) = d; rw [dp_o (by omega) (by omega)]; exact r6, ⟨a :: rp (ao B), ⟨B, r1, Or.inr (Or.inr (Or.inl ⟨rfl, o, a, ho, r3, rfl, rfl⟩))⟩, r4, by rw [List.sum_cons, rp_sum]; omega⟩, by show npu F1 + c0 ≤ c; omega, ?_⟩
      show 2 * (F1.length + nbW (o :: B)) + slS 1 + p0 + 2 * c0 ≤ p1 + 1 + 2 * c
      rw [nb_o (by omega), show slS 1 = 0 from rfl]
      omega
    · obtain ⟨k, B, F1, a, b, r0, r1, r2, r3, r3', r4, r5, r6, r7, r8, -⟩ := red_4 m0 h4
      have r0' := r0
      unfold cmO at r0'
      rw [r2, if_neg (by omega)]
      refine ⟨hlt, m2, m3, by show dpW (o :: k :: B) = d; rw [dp_o (by omega) (by omega), dp_o (by omega) (by omega)]; exact r6, ⟨b :: a :: rp (ao B), ⟨B, r1, Or.inr (Or.inr (Or.inr (Or.inr (Or.inr (Or.inr (Or.inl ⟨rfl, o, k, a, b, ho, r0, r3, r3', rfl, rfl⟩))))))⟩, r4, by rw [List.sum_cons, List.sum_cons, rp_sum]; show b + (a + 0) ≤ c; omega⟩, by show npu F1 + c0 ≤ c; omega, ?_⟩
      show 2 * (F1.length + nbW (o :: k :: B)) + slS 3 + p0 + 2 * c0 ≤ p1 + 1 + 2 * c
      rw [nb_o (o := o) (by omega), show slS 3 = 0 from rfl]
      omega
  · rw [if_neg q1] at q
    by_cases h2 : st = 2
    · rw [if_pos h2] at q
      have hs := sl_24 (Or.inl h2 : st = 2 ∨ st = 4)
      obtain ⟨B, F1, a, r1, r2, r3, r4, r5, r6, r7, r8⟩ := red_2 m0 h2
      unfold sgP at q
      by_cases q2 : sgI T n p1 = 60 ∨ sgI T n p1 = 61 ∨ sgI T n p1 = 62
      · rw [if_pos q2] at q
        have hlt : p1 < n := by
          rcases q2 with z | z | z
          · exact sg_lt z (by decide)
          · exact sg_lt z (by decide)
          · exact sg_lt z (by decide)
        by_cases hc : c + 1 ≤ 60
        · rw [if_pos hc, r2] at q
          injection q with q
          have hw : p1 + 1 ≤ (if wdB T n p1 = true then p1 + 2 else p1 + 1) ∧ (if wdB T n p1 = true then p1 + 2 else p1 + 1) ≤ n := by
            by_cases z : wdB T n p1 = true
            · rw [if_pos z]
              have := sg_lt (of_decide_eq_true z).2 (by decide)
              omega
            · rw [if_neg z]; omega
          have hk := cm_o T n p1
          generalize (if wdB T n p1 = true then p1 + 2 else p1 + 1) = p2 at *
          generalize cmN T n p1 = k at *
          have hk' := hk
          unfold cmO at hk'
          rw [← q]
          refine ⟨⟨hw.2, hc, m3, by show dpW (k :: B) = d; rw [dp_o (by omega) (by omega)]; exact r6, ⟨a :: rp (ao B), ⟨B, r1, Or.inr (Or.inr (Or.inr (Or.inr (Or.inr (Or.inl ⟨rfl, k, a, hk, r3, rfl, rfl⟩)))))⟩, r4, by rw [List.sum_cons, rp_sum]; show a + 0 ≤ c + 1; omega⟩, by show npu F1 + c0 ≤ c + 1; omega, ?_⟩, by show p ≤ p2; omega, fun _ => by show p < p2; omega⟩
          show 2 * (F1.length + nbW (k :: B)) + slS 3 + p0 + 2 * c0 ≤ p2 + 2 * (c + 1)
          rw [nb_o (by omega), show slS 3 = 0 from rfl]
          omega
        · rw [if_neg hc] at q; cases q
      · rw [if_neg q2] at q; cases q
    · rw [if_neg h2] at q
      have h45 : st = 4 ∨ st = 5 := h.resolve_left h2
      by_cases q3 : wD T n [97, 110, 100] p1 = true
      · rw [if_pos q3] at q
        have e3 : p1 + 3 ≤ n := wD_le q3 hle
        injection q with q
        rw [← q]
        exact ⟨ao_ok (T := T) (p2 := p1 + 3) m0 h45 (Or.inl rfl) hge (show p1 + 2 ≤ p1 + 3 by omega) e3, by show p ≤ p1 + 3; omega, fun _ => by show p < p1 + 3; omega⟩
      · rw [if_neg q3] at q
        by_cases q4 : wD T n [111, 114] p1 = true
        · rw [if_pos q4] at q
          have e3 : p1 + 2 ≤ n := wD_le q4 hle
          injection q with q
          rw [← q]
          exact ⟨ao_ok (T := T) (p2 := p1 + 2) m0 h45 (Or.inr rfl) hge (show p1 + 2 ≤ p1 + 2 by omega) e3, by show p ≤ p1 + 2; omega, fun _ => by show p < p1 + 2; omega⟩
        · rw [if_neg q4] at q
          exact cl_ok m0 h45 hge hle q
theorem tn_ok {T : Nat → Nat} {n p0 c0 st p c d : Nat} {W : List Nat} {F : Cd} (m : MI n p0 c0 st p c d W F) (h : ¬ st = 6) {s : Ms} (q : tnM T n st p c d W F = .inr s) : MIs n p0 c0 s ∧ p ≤ s.2.1 ∧ (¬ s.1 = 6 → p < s.2.1) := by
  have h6 : st ≤ 6 := by
    obtain ⟨m1, m2, m3, m4, ⟨ts, m5, -⟩, -⟩ := m
    exact (shM_b m5).2.2.2
  unfold tnM at q
  by_cases h0 : st = 0 ∨ st = 1 ∨ st = 3
  · rw [if_pos h0] at q
    obtain ⟨a, b⟩ := opD_ok m h0 q
    exact ⟨a, by omega, fun _ => b⟩
  · rw [if_neg h0] at q
    exact opR_ok m (by omega) q
end
