/-! ruled: sets of plates -/
def sbL (B : Nat → Bool) : Nat → Nat → List Nat
  | 0, _ => [0]
  | n + 1, i => (sbL B n (i + 1)).flatMap (fun s => if B i then [2 * s, 2 * s + 1] else [2 * s])
def mkN (B : Nat → Bool) : Nat → Nat → Nat
  | 0, _ => 0
  | n + 1, i => (if B i then 1 else 0) + 2 * mkN B n (i + 1)
def nzN (B : Nat → Bool) : Nat → Nat → Nat → Nat
  | 0, _, _ => 0
  | n + 1, i, s => if B i = true ∧ s % 2 = 0 then s + 1 else 2 * nzN B n (i + 1) (s / 2)
def rsN (B : Nat → Bool) : Nat → Nat → Nat → Nat
  | 0, _, _ => 0
  | n + 1, i, s => (if B i then s % 2 else 0) + 2 * rsN B n (i + 1) (s / 2)
def pcN : Nat → Nat → Nat
  | 0, _ => 0
  | n + 1, s => s % 2 + pcN n (s / 2)
def elN (B : Nat → Bool) : Nat → Nat → Nat → Nat
  | 0, _, _ => 0
  | n + 1, i, c => if B i then c % 2 + 2 * elN B n (i + 1) (c / 2) else 2 * elN B n (i + 1) c
def chL (N : Nat → Nat) : List Nat → Prop
  | [] => True
  | [a] => N a = 0
  | a :: b :: l => N a = b ∧ a < b ∧ chL N (b :: l)
theorem ch_t {N N2 : Nat → Nat} (h1 : ∀ s, N2 (2 * s) = 2 * s + 1) (h2 : ∀ s, N2 (2 * s + 1) = 2 * N s) : ∀ l, chL N l → chL N2 (l.flatMap (fun s => [2 * s, 2 * s + 1]))
  | [], _ => trivial
  | [a], h => by
    have h0 : N a = 0 := h
    have e := h2 a
    exact ⟨h1 a, by omega, show N2 (2 * a + 1) = 0 by omega⟩
  | a :: b :: l, h => by
    obtain ⟨x1, x2, x3⟩ := h
    have ih := ch_t h1 h2 (b :: l) x3
    have e := h2 a
    exact ⟨h1 a, by omega, show N2 (2 * a + 1) = 2 * b by omega, by omega, ih⟩
theorem ch_f {N N2 : Nat → Nat} (h1 : ∀ s, N2 (2 * s) = 2 * N s) : ∀ l, chL N l → chL N2 (l.flatMap (fun s => [2 * s]))
  | [], _ => trivial
  | [a], h => by
    have h0 : N a = 0 := h
    have e := h1 a
    exact show N2 (2 * a) = 0 by omega
  | a :: b :: l, h => by
    obtain ⟨x1, x2, x3⟩ := h
    have ih := ch_f h1 (b :: l) x3
    have e := h1 a
    exact ⟨show N2 (2 * a) = 2 * b by omega, by omega, ih⟩
theorem sb_ch (B : Nat → Bool) : ∀ n i, chL (nzN B n i) (sbL B n i)
  | 0, _ => rfl
  | n + 1, i => by
    have ih := sb_ch B n (i + 1)
    rw [sbL]
    cases hB : B i with
    | true =>
      refine ch_t (fun s => ?_) (fun s => ?_) _ ih
      · rw [nzN, if_pos ⟨hB, by omega⟩]
      · rw [nzN, if_neg (fun z => by omega), show (2 * s + 1) / 2 = s by omega]
    | false =>
      refine ch_f (fun s => ?_) _ ih
      rw [nzN, if_neg (fun z => by rw [hB] at z; cases z.1), show 2 * s / 2 = s by omega]
theorem sb_hd (B : Nat → Bool) : ∀ n i, ∃ l, sbL B n i = 0 :: l
  | 0, _ => ⟨[], rfl⟩
  | n + 1, i => by
    obtain ⟨l, e⟩ := sb_hd B n (i + 1)
    rw [sbL, e, List.flatMap_cons]
    cases B i with
    | true => exact ⟨_, rfl⟩
    | false => exact ⟨_, rfl⟩
theorem ch_lt {N : Nat → Nat} : ∀ (l : List Nat) (a : Nat), chL N (a :: l) → ∀ t ∈ l, a < t
  | [], _, _, t, ht => by cases ht
  | b :: l, a, h, t, ht => by
    obtain ⟨x1, x2, x3⟩ := h
    rcases List.mem_cons.mp ht with rfl | q
    · exact x2
    · have := ch_lt l b x3 t q
      omega
theorem ch_tl {N : Nat → Nat} {a : Nat} {l : List Nat} (h : chL N (a :: l)) : chL N l := by
  cases l with
  | nil => trivial
  | cons b l => exact h.2.2
theorem sb_mem (B : Nat → Bool) : ∀ n i s, s ∈ sbL B n i ↔ s < 2 ^ n ∧ rsN B n i s = s
  | 0, _, s => by
    rw [sbL, rsN, List.mem_singleton]
    omega
  | n + 1, i, s => by
    rw [sbL, List.mem_flatMap, rsN]
    have ih := fun x => sb_mem B n (i + 1) x
    have hp : 2 ^ (n + 1) = 2 * 2 ^ n := by rw [Nat.pow_succ, Nat.mul_comm]
    constructor
    · rintro ⟨x, hx, hs⟩
      have hx := (ih x).mp hx
      cases hB : B i with
      | true =>
        rw [hB, if_pos rfl] at hs
        rw [if_pos rfl]
        have : s / 2 = x := by
          rcases List.mem_cons.mp hs with rfl | q
          · omega
          · have := List.mem_singleton.mp q
            omega
        rw [this, hx.2]
        rcases List.mem_cons.mp hs with rfl | q
        · omega
        · have := List.mem_singleton.mp q
          omega
      | false =>
        rw [hB, if_neg (by decide)] at hs
        rw [if_neg (by decide)]
        have := List.mem_singleton.mp hs
        have e : s / 2 = x := by omega
        rw [e, hx.2]
        omega
    · rintro ⟨h1, h2⟩
      refine ⟨s / 2, (ih _).mpr ⟨by omega, ?_⟩, ?_⟩
      · cases hB : B i with
        | true => rw [hB, if_pos rfl] at h2; omega
        | false => rw [hB, if_neg (by decide)] at h2; omega
      · cases hB : B i with
        | true =>
          rw [if_pos rfl]
          by_cases q : s % 2 = 0
          · exact List.mem_cons.mpr (Or.inl (by omega))
          · exact List.mem_cons.mpr (Or.inr (List.mem_singleton.mpr (by omega)))
        | false =>
          rw [hB, if_neg (by decide)] at h2
          rw [if_neg (by decide)]
          exact List.mem_singleton.mpr (by omega)
theorem rs_rs (B C : Nat → Bool) (h : ∀ j, C j = true → B j = true) : ∀ n i s, rsN B n i (rsN C n i s) = rsN C n i s ∧ rsN C n i (rsN C n i s) = rsN C n i s ∧ rsN C n i s ≤ s ∧ pcN n (rsN C n i s) ≤ pcN n s ∧ (s < 2 ^ n → rsN C n i s ≠ s → pcN n (rsN C n i s) < pcN n s)
  | 0, _, s => ⟨rfl, rfl, Nat.zero_le _, Nat.le_refl _, fun a b => by
    rw [Nat.pow_zero] at a
    exact absurd (show (0 : Nat) = s by omega) b⟩
  | n + 1, i, s => by
    obtain ⟨a1, a2, a3, a4, a5⟩ := rs_rs B C h n (i + 1) (s / 2)
    have hp : 2 ^ (n + 1) = 2 * 2 ^ n := by rw [Nat.pow_succ, Nat.mul_comm]
    have e : ∀ (D : Nat → Bool) x, rsN D (n + 1) i x = (if D i then x % 2 else 0) + 2 * rsN D n (i + 1) (x / 2) := fun _ _ => rfl
    have ep : ∀ x, pcN (n + 1) x = x % 2 + pcN n (x / 2) := fun _ => rfl
    cases hC : C i with
    | true =>
      have hB := h i hC
      have e1 : rsN C (n + 1) i s = s % 2 + 2 * rsN C n (i + 1) (s / 2) := by rw [e, hC, if_pos rfl]
      have d1 : (s % 2 + 2 * rsN C n (i + 1) (s / 2)) / 2 = rsN C n (i + 1) (s / 2) := by omega
      have d2 : (s % 2 + 2 * rsN C n (i + 1) (s / 2)) % 2 = s % 2 := by omega
      rw [e1, e B, e C, hB, hC, if_pos rfl, d1, d2, a1, a2, ep, ep, d1, d2]
      refine ⟨rfl, rfl, by omega, by omega, fun b1 b2 => ?_⟩
      have := a5 (by omega) (by omega)
      omega
    | false =>
      have e1 : rsN C (n + 1) i s = 2 * rsN C n (i + 1) (s / 2) := by rw [e, hC, if_neg (by decide), Nat.zero_add]
      have d1 : (2 * rsN C n (i + 1) (s / 2)) / 2 = rsN C n (i + 1) (s / 2) := by omega
      have d2 : (2 * rsN C n (i + 1) (s / 2)) % 2 = 0 := by omega
      rw [e1, e B, e C, hC, d1, d2, a1, a2, ep, ep, d1, d2, ite_self, ite_self]
      refine ⟨by omega, by omega, by omega, by omega, fun b1 b2 => ?_⟩
      by_cases q : rsN C n (i + 1) (s / 2) = s / 2
      · omega
      · have := a5 (by omega) q
        omega
theorem rs_bit (B : Nat → Bool) : ∀ n i s p, p < n → (rsN B n i s).testBit p = (s.testBit p && B (i + p))
  | 0, _, _, p, h => by omega
  | n + 1, i, s, 0, _ => by
    rw [rsN, Nat.testBit_zero, Nat.testBit_zero, Nat.add_zero]
    cases B i with
    | true => rw [if_pos rfl, Bool.and_true]; congr 1; exact propext ⟨fun _ => by omega, fun _ => by omega⟩
    | false => rw [if_neg (by decide), Bool.and_false]; exact decide_eq_false (by omega)
  | n + 1, i, s, p + 1, h => by
    rw [Nat.testBit_succ, Nat.testBit_succ]
    have : rsN B (n + 1) i s / 2 = rsN B n (i + 1) (s / 2) := by
      rw [rsN]
      split <;> omega
    rw [this, rs_bit B n (i + 1) (s / 2) p (by omega), show i + 1 + p = i + (p + 1) by omega]
theorem fil_fm {f g : Nat → List Nat} {p q : Nat → Bool} (h : ∀ s, (f s).filter p = if q s then g s else []) : ∀ l : List Nat, (l.flatMap f).filter p = (l.filter q).flatMap g
  | [] => rfl
  | s :: l => by
    rw [List.flatMap_cons, List.filter_append, h s, fil_fm h l]
    cases hq : q s with
    | true => rw [List.filter_cons_of_pos hq, List.flatMap_cons, if_pos rfl]
    | false => rw [List.filter_cons_of_neg (by rw [hq]; decide), if_neg (by decide), List.nil_append]
theorem sb_fil (B C : Nat → Bool) (h : ∀ j, C j = true → B j = true) : ∀ n i, (sbL B n i).filter (fun s => decide (rsN C n i s = s)) = sbL C n i
  | 0, _ => rfl
  | n + 1, i => by
    rw [sbL, sbL, ← sb_fil B C h n (i + 1)]
    refine fil_fm (fun s => ?_) _
    have e : ∀ x, rsN C (n + 1) i x = (if C i then x % 2 else 0) + 2 * rsN C n (i + 1) (x / 2) := fun _ => rfl
    have x0 : rsN C (n + 1) i (2 * s) = 2 * rsN C n (i + 1) s := by
      rw [e, show 2 * s % 2 = 0 by omega, show 2 * s / 2 = s by omega, ite_self, Nat.zero_add]
    have x1 : rsN C (n + 1) i (2 * s + 1) = (if C i then 1 else 0) + 2 * rsN C n (i + 1) s := by
      rw [e, show (2 * s + 1) % 2 = 1 by omega, show (2 * s + 1) / 2 = s by omega]
    have p0 : decide (rsN C (n + 1) i (2 * s) = 2 * s) = decide (rsN C n (i + 1) s = s) := by
      rw [x0]
      congr 1
      exact propext ⟨fun _ => by omega, fun _ => by omega⟩
    have p1 : decide (rsN C (n + 1) i (2 * s + 1) = 2 * s + 1) = (C i && decide (rsN C n (i + 1) s = s)) := by
      rw [x1]
      cases C i with
      | true =>
        rw [if_pos rfl, Bool.true_and]
        congr 1
        exact propext ⟨fun _ => by omega, fun _ => by omega⟩
      | false =>
        rw [if_neg (by decide), Bool.false_and]
        exact decide_eq_false (by omega)
    cases hq : decide (rsN C n (i + 1) s = s) with
    | true =>
      rw [hq] at p0 p1
      rw [Bool.and_true] at p1
      cases hC : C i with
      | true =>
        rw [hC] at p1
        simp only [h i hC, ↓reduceIte, List.filter_cons, List.filter_nil, p0, p1]
      | false =>
        rw [hC] at p1
        cases hB : B i with
        | true => simp only [↓reduceIte, Bool.false_eq_true, List.filter_cons, List.filter_nil, p0, p1]
        | false => simp only [↓reduceIte, Bool.false_eq_true, List.filter_cons, List.filter_nil, p0, p1]
    | false =>
      rw [hq] at p0 p1
      rw [Bool.and_false] at p1
      cases hB : B i with
      | true => simp only [↓reduceIte, Bool.false_eq_true, List.filter_cons, List.filter_nil, p0, p1]
      | false => simp only [↓reduceIte, Bool.false_eq_true, List.filter_cons, List.filter_nil, p0, p1]
theorem range_2 : ∀ m, List.range (2 * m) = (List.range m).flatMap (fun c => [2 * c, 2 * c + 1])
  | 0 => rfl
  | m + 1 => by
    rw [show 2 * (m + 1) = 2 * m + 1 + 1 by omega, List.range_succ, List.range_succ, List.range_succ, List.flatMap_append, range_2 m, List.append_assoc]
    rfl
theorem sb_el (B : Nat → Bool) : ∀ n i, sbL B n i = (List.range (2 ^ (flF B n i).length)).map (elN B n i)
  | 0, _ => rfl
  | n + 1, i => by
    rw [sbL, sb_el B n (i + 1), flF]
    cases hB : B i with
    | true =>
      rw [if_pos rfl, List.length_cons, Nat.pow_succ, Nat.mul_comm, range_2, List.flatMap_map, List.map_flatMap]
      congr 1
      funext c
      have e : ∀ x, elN B (n + 1) i x = x % 2 + 2 * elN B n (i + 1) (x / 2) := fun x => by rw [elN, hB, if_pos rfl]
      rw [if_pos rfl]
      show _ = [elN B (n + 1) i (2 * c), elN B (n + 1) i (2 * c + 1)]
      rw [e, e, show 2 * c % 2 = 0 by omega, show 2 * c / 2 = c by omega, show (2 * c + 1) % 2 = 1 by omega, show (2 * c + 1) / 2 = c by omega, Nat.zero_add, Nat.add_comm 1]
    | false =>
      have e : elN B (n + 1) i = fun x => 2 * elN B n (i + 1) x := by
        funext x
        rw [elN, hB, if_neg (by decide)]
      rw [if_neg (by decide), e]
      simp only [Bool.false_eq_true, ↓reduceIte, List.flatMap_map, List.flatMap_singleton', List.flatMap_def, List.map_map]
      generalize List.range (2 ^ (flF B n (i + 1)).length) = l
      induction l with
      | nil => rfl
      | cons x l ih =>
        rw [List.map_cons, List.map_cons, List.flatten_cons, ih]
        rfl
theorem el_bit (B : Nat → Bool) : ∀ n i c p, p < n → (elN B n i c).testBit p = (B (i + p) && c.testBit (flF B p i).length)
  | 0, _, _, p, h => by omega
  | n + 1, i, c, 0, _ => by
    rw [elN, Nat.testBit_zero, Nat.add_zero, flF, List.length_nil, Nat.testBit_zero]
    cases B i with
    | true => rw [if_pos rfl, Bool.true_and]; congr 1; exact propext ⟨fun _ => by omega, fun _ => by omega⟩
    | false => rw [if_neg (by decide), Bool.false_and]; exact decide_eq_false (by omega)
  | n + 1, i, c, p + 1, h => by
    rw [Nat.testBit_succ, flF, elN, show i + (p + 1) = i + 1 + p by omega]
    cases B i with
    | true =>
      rw [if_pos rfl, if_pos rfl, List.length_cons, Nat.testBit_succ, show (c % 2 + 2 * elN B n (i + 1) (c / 2)) / 2 = elN B n (i + 1) (c / 2) by omega, el_bit B n (i + 1) (c / 2) p (by omega)]
    | false =>
      rw [if_neg (by decide), if_neg (by decide), show 2 * elN B n (i + 1) c / 2 = elN B n (i + 1) c by omega, el_bit B n (i + 1) c p (by omega)]
theorem flF_app (P : Nat → Bool) : ∀ a b i, flF P (a + b) i = flF P a i ++ flF P b (i + a)
  | 0, b, i => by rw [Nat.zero_add]; rfl
  | a + 1, b, i => by
    rw [show a + 1 + b = a + b + 1 by omega, flF, flF, flF_app P a b (i + 1), show i + 1 + a = i + (a + 1) by omega]
    cases P i <;> rfl
theorem rk_at {B : Nat → Bool} {n p : Nat} (hp : p < n) (hB : B p = true) : (flF B n 0)[(flF B p 0).length]? = some p := by
  have e := flF_app B p (n - p) 0
  rw [show p + (n - p) = n by omega, Nat.zero_add] at e
  rw [e, List.getElem?_append_right (Nat.le_refl _), Nat.sub_self]
  obtain ⟨m, hm⟩ : ∃ m, n - p = m + 1 := ⟨n - p - 1, by omega⟩
  rw [hm, flF, hB]
  rfl
/-! the first least -/
def stB (fit : Nat → Bool) (ds an : Nat → Int) (o : Option (Nat × Int × Int)) (s : Nat) : Option (Nat × Int × Int) := if fit s then (match o with
  | none => some (s, ds s, an s)
  | some (b, d, a) => if ds s < d ∨ (ds s = d ∧ pcN 16 s < pcN 16 b) then some (s, ds s, an s) else some (b, d, a)) else o
def stI (fit : Nat → Bool) (ds : Nat → Int) (p : List Nat) (o : Option (Nat × Int × Int)) : Prop := ∀ t ∈ p, fit t = true → ∃ b d a, o = some (b, d, a) ∧ (d < ds t ∨ (d = ds t ∧ pcN 16 b ≤ pcN 16 t))
theorem stI_st {fit : Nat → Bool} {ds an : Nat → Int} {p : List Nat} {o : Option (Nat × Int × Int)} {s : Nat} (h : stI fit ds p o) : stI fit ds (p ++ [s]) (stB fit ds an o s) := by
  intro t ht hf
  unfold stB
  rcases List.mem_append.mp ht with q | q
  · obtain ⟨b, d, a, rfl, hb⟩ := h t q hf
    cases hs : fit s with
    | false => exact ⟨b, d, a, by rw [if_neg (by decide)], hb⟩
    | true =>
      rw [if_pos rfl]
      by_cases c : ds s < d ∨ (ds s = d ∧ pcN 16 s < pcN 16 b)
      · exact ⟨s, ds s, an s, if_pos c, by omega⟩
      · exact ⟨b, d, a, if_neg c, hb⟩
  · have := List.mem_singleton.mp q
    subst this
    rw [hf, if_pos rfl]
    cases o with
    | none => exact ⟨t, ds t, an t, rfl, by omega⟩
    | some x =>
      obtain ⟨b, d, a⟩ := x
      by_cases c : ds t < d ∨ (ds t = d ∧ pcN 16 t < pcN 16 b)
      · exact ⟨t, ds t, an t, if_pos c, by omega⟩
      · exact ⟨b, d, a, if_neg c, by omega⟩
theorem st_skip {fit : Nat → Bool} {ds an : Nat → Int} {R : Nat → Bool} {rep N : Nat → Nat} {all : List Nat} (H : ∀ s ∈ all, R s = false → rep s ∈ all ∧ rep s < s ∧ fit (rep s) = fit s ∧ ds (rep s) = ds s ∧ pcN 16 (rep s) < pcN 16 s) : ∀ (l p : List Nat) (o : Option (Nat × Int × Int)), all = p ++ l → chL N l → stI fit ds p o → l.foldl (stB fit ds an) o = (l.filter R).foldl (stB fit ds an) o
  | [], _, _, _, _, _ => rfl
  | s :: l, p, o, ha, hc, hi => by
    have hi2 := stI_st (an := an) (s := s) hi
    have hs : s ∈ all := by rw [ha]; exact List.mem_append.mpr (Or.inr (List.mem_cons_self ..))
    cases hR : R s with
    | true =>
      rw [List.filter_cons_of_pos hR, List.foldl_cons, List.foldl_cons]
      exact st_skip H l (p ++ [s]) _ (by rw [ha, List.append_assoc]; rfl) (ch_tl hc) hi2
    | false =>
      rw [List.filter_cons_of_neg (by rw [hR]; decide), List.foldl_cons]
      have e : stB fit ds an o s = o := by
        unfold stB
        cases hf : fit s with
        | false => rw [if_neg (by decide)]
        | true =>
          rw [if_pos rfl]
          obtain ⟨x1, x2, x3, x4, x5⟩ := H s hs hR
          have hp : rep s ∈ p := by
            rw [ha] at x1
            rcases List.mem_append.mp x1 with q | q
            · exact q
            · rcases List.mem_cons.mp q with q | q
              · omega
              · have := ch_lt l s hc _ q
                omega
          obtain ⟨b, d, a, rfl, hb⟩ := hi (rep s) hp (x3.trans hf)
          exact if_neg (by omega)
      rw [e] at hi2 ⊢
      exact st_skip H l (p ++ [s]) o (by rw [ha, List.append_assoc]; rfl) (ch_tl hc) hi2
