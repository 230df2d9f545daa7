/-! the test reader, pure: a turn keeps what stays -/
def tnM (T : Nat → Nat) (n st p c d : Nat) (W : List Nat) (F : Cd) : Sum Nat Ms := if st = 0 ∨ st = 1 ∨ st = 3 then opD T n st p c d W F else opR T n st p c d W F
def MIs (n p0 c0 : Nat) (s : Ms) : Prop := MI n p0 c0 s.1 s.2.1 s.2.2.1 s.2.2.2.1 s.2.2.2.2.1 s.2.2.2.2.2
theorem wM_le {T : Nat → Nat} {n : Nat} : ∀ (l : List Nat) (p : Nat), wM T n l p = true → p ≤ n → p + l.length ≤ n
  | [], p, _, h => h
  | c :: l, p, h, _ => by
    rw [wM, Bool.and_eq_true] at h
    have h1 := (of_decide_eq_true h.1).1
    have := wM_le l (p + 1) h.2 (by omega)
    rw [List.length_cons]
    omega
theorem wD_le {T : Nat → Nat} {n p : Nat} {l : List Nat} (h : wD T n l p = true) (hp : p ≤ n) : p + l.length ≤ n := by
  unfold wD at h
  rw [Bool.and_eq_true] at h
  exact wM_le l p h.1 hp
theorem fW_le {T : Nat → Nat} {n : Nat} : ∀ (l : List (List Nat)) (k p : Nat) (r : Nat × Nat), (∀ w ∈ l, 1 ≤ w.length) → p ≤ n → fW T n l k p = some r → p < r.2 ∧ r.2 ≤ n
  | [], k, p, r, _, _, h => by cases h
  | w :: l, k, p, r, hl, hp, h => by
    rw [fW] at h
    by_cases q : wD T n w p = true
    · rw [if_pos q] at h
      injection h with h
      rw [← h]
      have := wD_le q hp
      have := hl w List.mem_cons_self
      show p < p + w.length ∧ p + w.length ≤ n
      omega
    · rw [if_neg q] at h
      exact fW_le l (k + 1) p r (fun x hx => hl x (List.mem_cons_of_mem _ hx)) hp h
theorem sg_lt {T : Nat → Nat} {n p : Nat} {c : Int32} (h : sgI T n p = c) (hc : ¬ c = -1) : p < n := by
  by_cases q : p < n
  · exact q
  · exact absurd (h.symm.trans (if_neg q)) hc
theorem pu_v (v : Nat) (F : Cd) : npu ((0, v) :: F) = 1 + npu F := rfl
theorem pu_w (v : Nat) (F : Cd) : npu ((1, v) :: F) = 1 + npu F := rfl
theorem pu_o {o : Nat} (h : 2 ≤ o) (F : Cd) : npu ((o, 0) :: F) = npu F := by rw [npu, pu, if_neg (by show ¬ o ≤ 1; omega), Nat.zero_add]
theorem dp_o {o : Nat} (h : ¬ o = 9) (h2 : ¬ o = 12) (B : List Nat) : dpW (o :: B) = dpW B := by rw [dpW, if_neg (by omega), Nat.zero_add]
theorem nb_o {o : Nat} (h : ¬ o = 12) (B : List Nat) : nbW (o :: B) = 1 + nbW B := by rw [nbW, if_neg h]
theorem sl_1 (k : Nat) : slS k ≤ 1 := by
  unfold slS
  by_cases q : k = 2 ∨ k = 4
  · rw [if_pos q]; exact Nat.le_refl _
  · rw [if_neg q]; exact Nat.zero_le _
theorem no_st {st k : Nat} (h0 : st = 0 ∨ st = 1 ∨ st = 3) (e : st = k) (hk : ¬ (k = 0 ∨ k = 1 ∨ k = 3)) : False := hk (e ▸ h0)
section
/-- a value -/
theorem vl_ok {T : Nat → Nat} {n p0 c0 st p c d : Nat} {W : List Nat} {F : Cd} (m : MI n p0 c0 st p c d W F) (h0 : st = 0 ∨ st = 1 ∨ st = 3) {p1 p2 v k : Nat} (hk : (k = 0 ∧ v ≤ 99999) ∨ (k = 1 ∧ v < 13)) (hc : c + 1 ≤ 60) (h1 : p ≤ p1) (h2 : p1 < p2) (h3 : p2 ≤ n) : MI n p0 c0 (if st = 3 then 4 else 2) p2 (c + 1) d W ((k, v) :: F) := by
  obtain ⟨m1, m2, m3, m4, ⟨ts, m5, m8, m9⟩, m6, m7⟩ := m
  have e1 : slS st = 0 := if_neg (fun z => by rcases z with z | z <;> exact no_st h0 z (by decide))
  have ty : tyR (k, v) ts (1 :: ts) := by
    rcases hk with ⟨a, b⟩ | ⟨a, b⟩
    · exact Or.inl ⟨a, b, rfl⟩
    · exact Or.inr (Or.inl ⟨a, b, rfl⟩)
  have np : npu ((k, v) :: F) = 1 + npu F := by rcases hk with ⟨rfl, -⟩ | ⟨rfl, -⟩ <;> rfl
  refine ⟨h3, hc, m3, m4, ⟨1 :: ts, ?_, ty_snoc m8 ty, by rw [List.sum_cons]; omega⟩, by rw [np]; omega, ?_⟩
  · obtain ⟨B, hB, h⟩ := m5
    refine ⟨B, hB, ?_⟩
    rcases h with ⟨e, rfl, rfl⟩ | ⟨e, -⟩ | ⟨e, o, a, ho, ha, rfl, rfl⟩ | ⟨e, -⟩ | ⟨e, -⟩ | ⟨e, q, a, hq, ha, rfl, rfl⟩ | ⟨e, o, q, a, b, ho, hq, ha, hb, rfl, rfl⟩ | ⟨e, -⟩ | ⟨e, -⟩ | ⟨e, -⟩
    · rw [if_neg (by omega)]; exact Or.inr (Or.inr (Or.inr (Or.inl ⟨rfl, 1, by omega, rfl, rfl⟩)))
    · exact (no_st h0 e (by decide)).elim
    · rw [if_neg (by omega)]; exact Or.inr (Or.inr (Or.inr (Or.inr (Or.inl ⟨rfl, o, a, 1, ho, ha, by omega, rfl, rfl⟩))))
    · exact (no_st h0 e (by decide)).elim
    · exact (no_st h0 e (by decide)).elim
    · rw [if_pos e]; exact Or.inr (Or.inr (Or.inr (Or.inr (Or.inr (Or.inr (Or.inr (Or.inl ⟨rfl, q, a, 1, hq, ha, by omega, rfl, rfl⟩)))))))
    · rw [if_pos e]; exact Or.inr (Or.inr (Or.inr (Or.inr (Or.inr (Or.inr (Or.inr (Or.inr (Or.inl ⟨rfl, o, q, a, b, 1, ho, hq, ha, hb, by omega, rfl, rfl⟩))))))))
    · exact (no_st h0 e (by decide)).elim
    · exact (no_st h0 e (by decide)).elim
    · exact (no_st h0 e (by decide)).elim
  · have e2 : slS (if st = 3 then 4 else 2) ≤ 1 := sl_1 _
    rw [List.length_cons]
    omega
theorem vlP_ok {T : Nat → Nat} {n p0 c0 st p c d : Nat} {W : List Nat} {F : Cd} (m : MI n p0 c0 st p c d W F) (h0 : st = 0 ∨ st = 1 ∨ st = 3) {p1 : Nat} (h1 : p ≤ p1) (h2 : p1 ≤ n) {s : Ms} (q : vlP T n (if st = 3 then 4 else 2) p1 c d W F = .inr s) : MIs n p0 c0 s ∧ p < s.2.1 := by
  unfold vlP at q
  by_cases hd : dB T n p1 = true
  · rw [if_pos hd] at q
    cases hr : rdN T n 99999 p1 with
    | inl f => rw [hr] at q; cases q
    | inr r =>
      rw [hr] at q
      have q' : (if c + 1 ≤ 60 then Sum.inr ((if st = 3 then 4 else 2), r.2, c + 1, d, W, (0, r.1) :: F) else Sum.inl (1 + 8 * p1 + 3)) = (Sum.inr s : Sum Nat Ms) := q
      by_cases hc : c + 1 ≤ 60
      · rw [if_pos hc] at q'
        injection q' with q'
        have b := rd_lt h2 hr
        rw [← q']
        exact ⟨vl_ok (T := T) m h0 (Or.inl ⟨rfl, b.2.1⟩) hc h1 b.2.2.1 b.2.2.2, by show p < r.2; omega⟩
      · rw [if_neg hc] at q'; cases q'
  · rw [if_neg hd] at q
    cases hf : fW T n (wsL 5) 0 p1 with
    | none => rw [hf] at q; cases q
    | some r =>
      rw [hf] at q
      have q' : (if c + 1 ≤ 60 then Sum.inr ((if st = 3 then 4 else 2), r.2, c + 1, d, W, (1, r.1) :: F) else Sum.inl (1 + 8 * p1 + 3)) = (Sum.inr s : Sum Nat Ms) := q
      by_cases hc : c + 1 ≤ 60
      · rw [if_pos hc] at q'
        injection q' with q'
        have b := fW_le (wsL 5) 0 p1 r (by decide) h2 hf
        have b2 := fW_lt T n (wsL 5) 0 p1 r hf
        rw [← q']
        exact ⟨vl_ok (T := T) m h0 (Or.inr ⟨rfl, by have e : (wsL 5).length = 13 := rfl; omega⟩) hc h1 b.1 b.2, by show p < r.2; omega⟩
      · rw [if_neg hc] at q'; cases q'
theorem opD_ok {T : Nat → Nat} {n p0 c0 st p c d : Nat} {W : List Nat} {F : Cd} (m : MI n p0 c0 st p c d W F) (h0 : st = 0 ∨ st = 1 ∨ st = 3) {s : Ms} (q : opD T n st p c d W F = .inr s) : MIs n p0 c0 s ∧ p < s.2.1 := by
  have m' := m
  obtain ⟨m1, m2, m3, m4, ⟨ts, m5, m8, m9⟩, m6, m7⟩ := m
  have hge := sb_ge T n p
  have hle : sb T n p ≤ n := sb_le m1
  unfold opD at q
  generalize sb T n p = p1 at *
  have deeper : ∀ (o k p2 : Nat), st = 0 → (o = 12 ∧ k = 0 ∨ o = 9 ∧ k = 1) → p1 + 1 + 2 * k ≤ p2 → p2 ≤ n → d < 10 → MI n p0 c0 0 p2 c (d + 1) (o :: W) F := fun o k p2 e ho h2 h3 h4 => by
    have e1 : slS st = 0 := by rw [e]; rfl
    obtain ⟨B, hB, h⟩ := m5
    rcases h with ⟨-, rfl, rfl⟩ | ⟨e', -⟩ | ⟨e', -⟩ | ⟨e', -⟩ | ⟨e', -⟩ | ⟨e', -⟩ | ⟨e', -⟩ | ⟨e', -⟩ | ⟨e', -⟩ | ⟨e', -⟩
    case inl =>
      refine ⟨h3, m2, by omega, by rw [dpW, if_pos (by omega)]; omega, ⟨rp (ao W), ⟨o :: W, ?_, Or.inl ⟨rfl, rfl, by rw [ao, if_neg (by omega), Nat.zero_add]⟩⟩, m8, m9⟩, m6, ?_⟩
      · rcases ho with ⟨rfl, -⟩ | ⟨rfl, -⟩
        · exact Or.inr (Or.inr (Or.inr ⟨rfl, hB⟩))
        · exact Or.inl ⟨rfl, rfl, hB⟩
      · have : slS 0 = 0 := rfl
        rw [nbW]
        rcases ho with ⟨rfl, rfl⟩ | ⟨rfl, rfl⟩
        · rw [if_pos rfl]; omega
        · rw [if_neg (by omega)]; omega
    all_goals exact absurd (e'.symm.trans e) (by decide)
  by_cases q1 : st = 0 ∧ sgI T n p1 = 91
  · rw [if_pos q1] at q
    have hlt := sg_lt q1.2 (by decide)
    by_cases hd : d < 10
    · rw [if_pos hd] at q
      injection q with q
      rw [← q]
      exact ⟨deeper 12 0 (p1 + 1) q1.1 (Or.inl ⟨rfl, rfl⟩) (by omega) (by omega) hd, by show p < p1 + 1; omega⟩
    · rw [if_neg hd] at q; cases q
  · rw [if_neg q1] at q
    by_cases q2 : st = 0 ∧ wD T n [110, 111, 116] p1 = true
    · rw [if_pos q2] at q
      have hlt : p1 + 3 ≤ n := wD_le q2.2 hle
      by_cases hd : d < 10
      · rw [if_pos hd] at q
        injection q with q
        rw [← q]
        exact ⟨deeper 9 1 (p1 + 3) q2.1 (Or.inr ⟨rfl, rfl⟩) (by omega) (by omega) hd, by show p < p1 + 3; omega⟩
      · rw [if_neg hd] at q; cases q
    · rw [if_neg q2] at q
      exact vlP_ok m' h0 hge hle q
end
