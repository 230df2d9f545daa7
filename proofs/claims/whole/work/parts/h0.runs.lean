/-! a test read, pure: runs of turns against sums and comparisons -/
def rch (T : Nat → Nat) (n p0 c0 k : Nat) (s : Ms) (k' : Nat) (s' : Ms) : Prop := rnM T n k s = rnM T n k' s' ∧ MIs n p0 c0 s' ∧ n + 1 ≤ s'.2.1 + k' ∧ s.2.1 < s'.2.1
theorem rch_tr {T : Nat → Nat} {n p0 c0 k k1 k2 : Nat} {s s1 s2 : Ms} (a : rch T n p0 c0 k s k1 s1) (b : rch T n p0 c0 k1 s1 k2 s2) : rch T n p0 c0 k s k2 s2 := ⟨a.1.trans b.1, b.2.1, b.2.2.1, Nat.lt_trans a.2.2.2 b.2.2.2⟩
theorem rch_1 {T : Nat → Nat} {n p0 c0 k st p c d : Nat} {W : List Nat} {F : Cd} {s' : Ms} (m : MI n p0 c0 st p c d W F) (h6 : ¬ st = 6) (hk : n + 1 ≤ p + k) (q : tnM T n st p c d W F = .inr s') (h6' : ¬ s'.1 = 6) : ∃ k', rch T n p0 c0 k (st, p, c, d, W, F) k' s' := by
  obtain ⟨a, b, e⟩ := tn_ok m h6 q
  have hp : p ≤ n := m.1
  have hlt := e h6'
  cases k with
  | zero => omega
  | succ k => exact ⟨k, rn_r (s := (st, p, c, d, W, F)) h6 q, a, by omega, hlt⟩
theorem rch_l {T : Nat → Nat} {n p0 c0 k st p c d : Nat} {W : List Nat} {F : Cd} {f : Nat} (m : MI n p0 c0 st p c d W F) (h6 : ¬ st = 6) (hk : n + 1 ≤ p + k) (q : tnM T n st p c d W F = .inl f) : rnM T n k (st, p, c, d, W, F) = .inl f := by
  have hp : p ≤ n := m.1
  cases k with
  | zero => omega
  | succ k => exact rn_l (s := (st, p, c, d, W, F)) h6 q
theorem tn_v {T : Nat → Nat} {n st p : Nat} (c d : Nat) (W : List Nat) (F : Cd) (h : st = 0 ∨ st = 1 ∨ st = 3) (h0 : st = 0 → ¬ sgI T n (sb T n p) = 91 ∧ ¬ wD T n [110, 111, 116] (sb T n p) = true) : tnM T n st p c d W F = vlS (if st = 3 then 4 else 2) c d W F (vlE T n (sb T n p) c) := by
  unfold tnM
  rw [if_pos h]
  unfold opD
  rw [if_neg (fun z => (h0 z.1).1 z.2), if_neg (fun z => (h0 z.1).2 z.2), vl_eq]
theorem tn_s {T : Nat → Nat} {n st p c d : Nat} {W R : List Nat} {F E : Cd} (h : st = 2 ∨ st = 4) (hs : sgI T n (sb T n p) = 43 ∨ sgI T n (sb T n p) = 45) (hb : bdW 3 W F d = (R, E, d)) : tnM T n st p c d W F = .inr ((if st = 2 then 1 else 3), sb T n p + 1, c, d, (if sgI T n (sb T n p) = 43 then 2 else 3) :: R, E) := by
  unfold tnM
  rw [if_neg (by omega)]
  unfold opR
  rw [if_pos ⟨by omega, hs⟩, hb]
theorem tn_2 {T : Nat → Nat} {n p c d : Nat} {W : List Nat} {F : Cd} (hs : ¬ (sgI T n (sb T n p) = 43 ∨ sgI T n (sb T n p) = 45)) : tnM T n 2 p c d W F = sgP T n (sb T n p) c d W F := by
  unfold tnM
  rw [if_neg (by omega)]
  unfold opR
  rw [if_neg (fun z => hs z.2), if_pos rfl]
def sm3 (R W : List Nat) (F E : Cd) : Prop := (W = R ∧ E = F) ∨ ∃ o, pmO o ∧ W = o :: R ∧ E = (o, 0) :: F
theorem sm3_bd {R W : List Nat} {F E : Cd} (hR : ∀ F d, bdW 3 R F d = (R, F, d)) (h : sm3 R W F E) (d : Nat) : bdW 3 W F d = (R, E, d) := by
  rcases h with ⟨rfl, rfl⟩ | ⟨o, ho, rfl, rfl⟩
  · exact hR E d
  · have := pm_b ho
    rw [bd_c (by omega) (by omega), hR]
section
theorem sm_run {T : Nat → Nat} {n p0 c0 : Nat} {R : List Nat} (hR : ∀ F d, bdW 3 R F d = (R, F, d)) (E0 : Cd) {b : Nat} (hb : b = 2 ∨ b = 4) {d : Nat} : ∀ (m k p c : Nat) (W : List Nat) (F E : Cd), MI n p0 c0 b p c d W F → n + 1 ≤ p + k → n ≤ sb T n p + m → sm3 R W F E → (∀ f, smL T n m (sb T n p) c (E ++ E0) = .inl f → rnM T n k (b, p, c, d, W, F) = .inl f) ∧ ∀ x, smL T n m (sb T n p) c (E ++ E0) = .inr x → ∃ k' p' W' F' E', rnM T n k (b, p, c, d, W, F) = rnM T n k' (b, p', x.2.1, d, W', F') ∧ MI n p0 c0 b p' x.2.1 d W' F' ∧ n + 1 ≤ p' + k' ∧ p ≤ p' ∧ sb T n p' = x.1 ∧ ¬ (sgI T n x.1 = 43 ∨ sgI T n x.1 = 45) ∧ sm3 R W' F' E' ∧ x.2.2 = E' ++ E0 := by
  intro m
  induction m with
  | zero =>
    intro k p c W F E mi hk hm hs
    refine ⟨fun f q => (by cases q), fun x q => ?_⟩
    injection q with q
    rw [← q]
    have e : sgI T n (sb T n p) = -1 := if_neg (by omega)
    refine ⟨k, p, W, F, E, rfl, mi, hk, Nat.le_refl _, rfl, ?_, hs, rfl⟩
    show ¬ (sgI T n (sb T n p) = 43 ∨ sgI T n (sb T n p) = 45)
    rw [e]
    decide
  | succ m ih =>
    intro k p c W F E mi hk hm hs
    rw [smL]
    by_cases q : sgI T n (sb T n p) = 43 ∨ sgI T n (sb T n p) = 45
    · rw [if_pos q]
      have ho : pmO (if sgI T n (sb T n p) = 43 then 2 else 3) := by
        unfold pmO
        by_cases z : sgI T n (sb T n p) = 43
        · rw [if_pos z]; exact Or.inl rfl
        · rw [if_neg z]; exact Or.inr rfl
      have t1 := tn_s (c := c) hb q (sm3_bd hR hs d)
      generalize (if sgI T n (sb T n p) = 43 then 2 else 3) = o at *
      obtain ⟨a, ha1, ha2, ha3⟩ : ∃ a, (if b = 2 then 1 else 3) = a ∧ (a = 1 ∨ a = 3) ∧ (if a = 3 then 4 else 2) = b := by
        rcases hb with rfl | rfl
        · exact ⟨1, rfl, Or.inl rfl, rfl⟩
        · exact ⟨3, rfl, Or.inr rfl, rfl⟩
      rw [ha1] at t1
      have hb6 : ¬ b = 6 := by omega
      have ha6 : ¬ a = 6 := by omega
      obtain ⟨k1, r1, r2, r3, r4⟩ := rch_1 mi hb6 hk t1 ha6
      have r2' : MI n p0 c0 a (sb T n p + 1) c d (o :: R) E := r2
      have r3' : n + 1 ≤ sb T n p + 1 + k1 := r3
      have t2 := tn_v (T := T) (n := n) (p := sb T n p + 1) c d (o :: R) E (show a = 0 ∨ a = 1 ∨ a = 3 by omega) (fun z => by omega)
      rw [ha3] at t2
      have hge := sb_ge T n p
      have hle1 : sb T n p + 1 ≤ n := r2'.1
      have hge1 := sb_ge T n (sb T n p + 1)
      cases hv : vlE T n (sb T n (sb T n p + 1)) c with
      | inl f =>
        rw [hv] at t2
        refine ⟨fun f' q => ?_, fun x q => (by cases q)⟩
        have q' : (Sum.inl f : Sum Nat (Nat × Nat × Cd)) = Sum.inl f' := q
        injection q' with q'
        rw [← q', r1]
        exact rch_l r2' ha6 r3' t2
      | inr x =>
        rw [hv] at t2
        have bx := vlE_b (sb_le (T := T) hle1) hv
        have t2' : tnM T n a (sb T n p + 1) c d (o :: R) E = .inr (b, x.1, c + 1, d, o :: R, (x.2.1, x.2.2) :: E) := t2
        obtain ⟨k2, u1, u2, u3, u4⟩ := rch_1 r2' ha6 r3' t2' hb6
        have hge2 := sb_ge T n x.1
        obtain ⟨w1, w2⟩ := ih k2 x.1 (c + 1) (o :: R) ((x.2.1, x.2.2) :: E) ((o, 0) :: (x.2.1, x.2.2) :: E) u2 u3 (by omega) (Or.inr ⟨o, ho, rfl, rfl⟩)
        have e2 : rnM T n k (b, p, c, d, W, F) = rnM T n k2 (b, x.1, c + 1, d, o :: R, (x.2.1, x.2.2) :: E) := r1.trans u1
        refine ⟨fun f q => ?_, fun y q => ?_⟩
        · rw [e2]; exact w1 f q
        · obtain ⟨k', p', W', F', E', z1, z2, z3, z4, z5⟩ := w2 y q
          exact ⟨k', p', W', F', E', e2.trans z1, z2, z3, by omega, z5⟩
    · rw [if_neg q]
      refine ⟨fun f q => (by cases q), fun x q2 => ?_⟩
      injection q2 with q2
      rw [← q2]
      exact ⟨k, p, W, F, E, rfl, mi, hk, Nat.le_refl _, rfl, q, hs, rfl⟩
theorem sp_run {T : Nat → Nat} {n p0 c0 : Nat} {R : List Nat} (hR : ∀ F d, bdW 3 R F d = (R, F, d)) (E0 : Cd) {a b : Nat} (ha : a = 0 ∨ a = 1 ∨ a = 3) (hb : (if a = 3 then 4 else 2) = b) {k p c d : Nat} {F : Cd} (h0 : a = 0 → ¬ sgI T n (sb T n p) = 91 ∧ ¬ wD T n [110, 111, 116] (sb T n p) = true) (m : MI n p0 c0 a p c d R F) (hk : n + 1 ≤ p + k) : (∀ f, smP T n p c (F ++ E0) = .inl f → rnM T n k (a, p, c, d, R, F) = .inl f) ∧ ∀ x, smP T n p c (F ++ E0) = .inr x → ∃ k' p' W' F' E', rch T n p0 c0 k (a, p, c, d, R, F) k' (b, p', x.2.1, d, W', F') ∧ sb T n p' = x.1 ∧ ¬ (sgI T n x.1 = 43 ∨ sgI T n x.1 = 45) ∧ sm3 R W' F' E' ∧ x.2.2 = E' ++ E0 := by
  have t2 := tn_v (T := T) (n := n) (p := p) c d R F ha h0
  rw [hb] at t2
  have hp : p ≤ n := m.1
  have hb2 : b = 2 ∨ b = 4 := by
    by_cases z : a = 3
    · rw [if_pos z] at hb; omega
    · rw [if_neg z] at hb; omega
  have ha6 : ¬ a = 6 := by omega
  have hb6 : ¬ b = 6 := by omega
  unfold smP
  cases hv : vlE T n (sb T n p) c with
  | inl f =>
    rw [hv] at t2
    refine ⟨fun f' q => ?_, fun x q => (by cases q)⟩
    have q' : (Sum.inl f : Sum Nat (Nat × Nat × Cd)) = Sum.inl f' := q
    injection q' with q'
    rw [← q']
    exact rch_l m ha6 hk t2
  | inr y =>
    rw [hv] at t2
    have t2' : tnM T n a p c d R F = .inr (b, y.1, c + 1, d, R, (y.2.1, y.2.2) :: F) := t2
    obtain ⟨k2, u1, u2, u3, u4⟩ := rch_1 m ha6 hk t2' hb6
    have hge2 := sb_ge T n y.1
    obtain ⟨w1, w2⟩ := sm_run (T := T) hR E0 hb2 n k2 y.1 (c + 1) R ((y.2.1, y.2.2) :: F) ((y.2.1, y.2.2) :: F) u2 u3 (by omega) (Or.inl ⟨rfl, rfl⟩)
    refine ⟨fun f q => ?_, fun x q => ?_⟩
    · rw [u1]; exact w1 f q
    · obtain ⟨k', p', W', F', E', z1, z2, z3, z4, z5, z6, z7, z8⟩ := w2 x q
      have u4' : p < y.1 := u4
      exact ⟨k', p', W', F', E', ⟨u1.trans z1, z2, z3, by show p < p'; omega⟩, z5, z6, z7, z8⟩
end
theorem cp_run {T : Nat → Nat} {n p0 c0 : Nat} {B : List Nat} (hB : shp 0 B) (E0 : Cd) {k p c d : Nat} {F : Cd} (m : MI n p0 c0 0 p c d B F) (hk : n + 1 ≤ p + k) (h1 : ¬ sgI T n (sb T n p) = 91) (h2 : ¬ wD T n [110, 111, 116] (sb T n p) = true) : (∀ f, cpP T n p c (F ++ E0) = .inl f → rnM T n k (0, p, c, d, B, F) = .inl f) ∧ ∀ x, cpP T n p c (F ++ E0) = .inr x → ∃ k' p' W' F' F1, rch T n p0 c0 k (0, p, c, d, B, F) k' (4, p', x.2.1, d, W', F') ∧ sb T n p' = x.1 ∧ ¬ (sgI T n x.1 = 43 ∨ sgI T n x.1 = 45) ∧ (∀ op, 8 ≤ op → bdW op W' F' d = bdW op B F1 d) ∧ x.2.2 = F1 ++ E0 := by
  have hR : ∀ F d, bdW 3 B F d = (B, F, d) := fun F d => bd_3 hB F d
  obtain ⟨a1, a2⟩ := sp_run (T := T) hR E0 (a := 0) (b := 2) (Or.inl rfl) rfl (fun _ => ⟨h1, h2⟩) m hk
  unfold cpP
  cases hx : smP T n p c (F ++ E0) with
  | inl f =>
    refine ⟨fun f' q => ?_, fun x q => (by cases q)⟩
    have q' : (Sum.inl f : Sum Nat (Nat × Nat × Cd)) = Sum.inl f' := q
    injection q' with q'
    rw [← q']
    exact a1 f hx
  | inr x =>
    obtain ⟨k1, p1, W1, F1, E1, b1, b2, b3, b4, b5⟩ := a2 x hx
    have mi1 : MI n p0 c0 2 p1 x.2.1 d W1 F1 := b1.2.1
    have hk1 : n + 1 ≤ p1 + k1 := b1.2.2.1
    have tn := tn_2 (T := T) (n := n) (p := p1) (c := x.2.1) (d := d) (W := W1) (F := F1) (by rw [b2]; exact b3)
    rw [b2] at tn
    unfold sgP at tn
    rw [sm3_bd hR b4 d] at tn
    show (∀ f, (if sgI T n x.1 = 60 ∨ sgI T n x.1 = 61 ∨ sgI T n x.1 = 62 then _ else _) = Sum.inl f → _) ∧ ∀ y, (if sgI T n x.1 = 60 ∨ sgI T n x.1 = 61 ∨ sgI T n x.1 = 62 then _ else _) = Sum.inr y → _
    by_cases q : sgI T n x.1 = 60 ∨ sgI T n x.1 = 61 ∨ sgI T n x.1 = 62
    · rw [if_pos q] at tn
      rw [if_pos q]
      by_cases hc : x.2.1 + 1 ≤ 60
      · rw [if_pos hc] at tn
        rw [if_pos hc]
        have hk' := cm_o T n x.1
        generalize cmN T n x.1 = o at *
        generalize (if wdB T n x.1 = true then x.1 + 2 else x.1 + 1) = p2 at *
        have tn' : tnM T n 2 p1 x.2.1 d W1 F1 = .inr (3, p2, x.2.1 + 1, d, o :: B, E1) := tn
        obtain ⟨k2, u⟩ := rch_1 mi1 (by decide) hk1 tn' (show ¬ (3 : Nat) = 6 by decide)
        have mi2 : MI n p0 c0 3 p2 (x.2.1 + 1) d (o :: B) E1 := u.2.1
        have hk2 : n + 1 ≤ p2 + k2 := u.2.2.1
        have ho := hk'
        unfold cmO at ho
        have hR2 : ∀ F d, bdW 3 (o :: B) F d = (o :: B, F, d) := fun F d => bd_s (by omega) B F d
        obtain ⟨w1, w2⟩ := sp_run (T := T) hR2 E0 (a := 3) (b := 4) (Or.inr (Or.inr rfl)) rfl (fun z => absurd z (by decide)) mi2 hk2
        rw [b5]
        cases hy : smP T n p2 (x.2.1 + 1) (E1 ++ E0) with
        | inl f =>
          refine ⟨fun f' q => ?_, fun x q => (by cases q)⟩
          have q' : (Sum.inl f : Sum Nat (Nat × Nat × Cd)) = Sum.inl f' := q
          injection q' with q'
          rw [← q', b1.1, u.1]
          exact w1 f hy
        | inr y =>
          refine ⟨fun f' q => (by cases q), fun z q => ?_⟩
          have q' : (Sum.inr (y.1, y.2.1, (o, 0) :: y.2.2) : Sum Nat (Nat × Nat × Cd)) = Sum.inr z := q
          injection q' with q'
          rw [← q']
          obtain ⟨k3, p3, W3, F3, E3, v1, v2, v3, v4, v5⟩ := w2 y hy
          refine ⟨k3, p3, W3, F3, (o, 0) :: E3, rch_tr b1 (rch_tr u v1), v2, v3, fun op hop => ?_, by show (o, 0) :: y.2.2 = _; rw [v5]; rfl⟩
          rcases v4 with ⟨e1, e2⟩ | ⟨o', ho', e1, e2⟩
          · rw [e1, e2, bd_c (by omega) (by omega)]
          · have := pm_b ho'
            rw [e1, e2, bd_c (by omega) (by omega), bd_c (by omega) (by omega)]
      · rw [if_neg hc] at tn
        rw [if_neg hc]
        refine ⟨fun f' q => ?_, fun x q => (by cases q)⟩
        injection q with q
        rw [← q, b1.1]
        exact rch_l mi1 (by decide) hk1 tn
    · rw [if_neg q] at tn
      rw [if_neg q]
      refine ⟨fun f' q => ?_, fun x q => (by cases q)⟩
      injection q with q
      rw [← q, b1.1]
      exact rch_l mi1 (by decide) hk1 tn
