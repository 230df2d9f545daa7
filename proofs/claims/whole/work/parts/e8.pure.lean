/-! the test reader, pure: what stays -/
def shp : Nat → List Nat → Prop
  | _, [] => True
  | r, x :: W => (x = 9 ∧ r = 0 ∧ shp 0 W) ∨ (x = 10 ∧ r = 0 ∧ shp 1 W) ∨ (x = 11 ∧ r ≤ 1 ∧ shp 2 W) ∨ (x = 12 ∧ shp 0 W)
def ao : List Nat → Nat
  | [] => 0
  | x :: W => (if x = 10 ∨ x = 11 then 1 else 0) + ao W
def nbW : List Nat → Nat
  | [] => 0
  | x :: W => (if x = 12 then 0 else 1) + nbW W
def rp (k : Nat) : List Nat := List.replicate k 0
theorem rp_s (k : Nat) : rp (1 + k) = 0 :: rp k := by rw [Nat.add_comm]; rfl
theorem rp_sum : ∀ k, (rp k).sum = 0
  | 0 => rfl
  | k + 1 => by show 0 + (rp k).sum = 0; rw [rp_sum k]
theorem shp_len : ∀ (W : List Nat) (r : Nat), r ≤ 2 → shp r W → W.length + r ≤ 3 * dpW W + 2
  | [], r, h, _ => by show 0 + r ≤ 3 * 0 + 2; omega
  | x :: W, r, h, q => by
    rw [List.length_cons, dpW]
    rcases q with ⟨h1, h2, h3⟩ | ⟨h1, h2, h3⟩ | ⟨h1, h2, h3⟩ | ⟨h1, h3⟩
    · have := shp_len W 0 (by omega) h3; rw [if_pos (Or.inl h1)]; omega
    · have := shp_len W 1 (by omega) h3; rw [if_neg (by omega)]; omega
    · have := shp_len W 2 (by omega) h3; rw [if_neg (by omega)]; omega
    · have := shp_len W 0 (by omega) h3; rw [if_pos (Or.inr h1)]; omega
theorem shp_le : ∀ (W : List Nat) (r : Nat), shp r W → ∀ x ∈ W, 9 ≤ x ∧ x ≤ 12
  | [], r, _, x, hx => by cases hx
  | y :: W, r, q, x, hx => by
    rcases List.mem_cons.mp hx with rfl | hx
    · rcases q with ⟨h1, -⟩ | ⟨h1, -⟩ | ⟨h1, -⟩ | ⟨h1, -⟩ <;> omega
    · rcases q with ⟨h1, h2, h3⟩ | ⟨h1, h2, h3⟩ | ⟨h1, h2, h3⟩ | ⟨h1, h3⟩
      · exact shp_le W 0 h3 x hx
      · exact shp_le W 1 h3 x hx
      · exact shp_le W 2 h3 x hx
      · exact shp_le W 0 h3 x hx
/-- a base has nothing for op 3 -/
theorem bd_3 {B : List Nat} {r : Nat} (h : shp r B) (E : Cd) (d : Nat) : bdW 3 B E d = (B, E, d) := by
  cases B with
  | nil => rfl
  | cons x B =>
    have := (shp_le _ _ h x List.mem_cons_self).1
    rw [bdW, if_neg (by omega)]
theorem ty_snoc {F : Cd} {e : Nat × Nat} {ts ts' : List Nat} (h : tyL F.reverse [] ts) (q : tyR e ts ts') : tyL (e :: F).reverse [] ts' := by
  rw [List.reverse_cons]
  exact tyL_app _ _ h ⟨ts', q, rfl⟩
theorem bd_ty {op : Nat} (ho : op = 10 ∨ op = 11) : ∀ (B : List Nat) (r : Nat) (F : Cd) (d : Nat), r ≤ 2 → shp r B → tyL F.reverse [] (0 :: rp (ao B)) → tyL (bdW op B F d).2.1.reverse [] (0 :: rp (ao (bdW op B F d).1)) ∧ shp (op - 9) (bdW op B F d).1
  | [], r, F, d, hr, s, t => ⟨t, trivial⟩
  | x :: B, r, F, d, hr, s, t => by
    rw [bdW]
    rw [ao] at t
    rcases s with ⟨h1, h2, h3⟩ | ⟨h1, h2, h3⟩ | ⟨h1, h2, h3⟩ | ⟨h1, h3⟩
    · rw [if_pos (by omega)]
      rw [if_neg (by omega), Nat.zero_add] at t
      exact bd_ty ho B 0 _ _ (by omega) h3 (ty_snoc t (Or.inr (Or.inr (Or.inl ⟨h1, rfl, _, rfl, rfl⟩))))
    · rw [if_pos (by omega)]
      rw [if_pos (Or.inl h1), rp_s] at t
      exact bd_ty ho B 1 _ _ (by omega) h3 (ty_snoc t (Or.inr (Or.inr (Or.inr ⟨0, 0, _, rfl, rfl, Or.inr (Or.inr ⟨Or.inl h1, rfl, rfl, rfl⟩)⟩))))
    · rcases ho with rfl | rfl
      · rw [if_neg (by omega)]
        refine ⟨by rw [ao]; exact t, Or.inr (Or.inr (Or.inl ⟨h1, by omega, h3⟩))⟩
      · rw [if_pos (by omega)]
        rw [if_pos (Or.inr h1), rp_s] at t
        exact bd_ty (Or.inr rfl) B 2 _ _ (by omega) h3 (ty_snoc t (Or.inr (Or.inr (Or.inr ⟨0, 0, _, rfl, rfl, Or.inr (Or.inr ⟨Or.inr h1, rfl, rfl, rfl⟩)⟩))))
    · rw [if_neg (by omega)]
      exact ⟨by rw [ao]; exact t, Or.inr (Or.inr (Or.inr ⟨h1, h3⟩))⟩
theorem bd_nb {op : Nat} (ho : op < 12) : ∀ (W : List Nat) (E : Cd) (d : Nat), nbW (bdW op W E d).1 + (bdW op W E d).2.1.length = nbW W + E.length
  | [], E, d => rfl
  | x :: W, E, d => by
    rw [bdW]
    by_cases q : x ≤ op
    · rw [if_pos q, bd_nb ho W, nbW, if_neg (by omega), List.length_cons]; omega
    · rw [if_neg q]
theorem bd_np {op : Nat} : ∀ (W : List Nat) (E : Cd) (d : Nat), (∀ x ∈ W, 2 ≤ x) → npu (bdW op W E d).2.1 = npu E
  | [], E, d, _ => rfl
  | x :: W, E, d, h => by
    rw [bdW]
    by_cases q : x ≤ op
    · have := h x List.mem_cons_self
      rw [if_pos q, bd_np W _ _ (fun y hy => h y (List.mem_cons_of_mem _ hy)), npu, pu, if_neg (by show ¬ x ≤ 1; omega), Nat.zero_add]
    · rw [if_neg q]
def pmO (o : Nat) : Prop := o = 2 ∨ o = 3
def cmO (o : Nat) : Prop := 4 ≤ o ∧ o ≤ 8
def shM (st : Nat) (W ts : List Nat) : Prop := ∃ B, shp 0 B ∧
  ((st = 0 ∧ W = B ∧ ts = rp (ao B)) ∨ (st = 5 ∧ W = B ∧ ts = 0 :: rp (ao B)) ∨
  (st = 1 ∧ ∃ o a, pmO o ∧ 0 < a ∧ W = o :: B ∧ ts = a :: rp (ao B)) ∨
  (st = 2 ∧ ∃ a, 0 < a ∧ W = B ∧ ts = a :: rp (ao B)) ∨
  (st = 2 ∧ ∃ o a b, pmO o ∧ 0 < a ∧ 0 < b ∧ W = o :: B ∧ ts = b :: a :: rp (ao B)) ∨
  (st = 3 ∧ ∃ q a, cmO q ∧ 0 < a ∧ W = q :: B ∧ ts = a :: rp (ao B)) ∨
  (st = 3 ∧ ∃ o q a b, pmO o ∧ cmO q ∧ 0 < a ∧ 0 < b ∧ W = o :: q :: B ∧ ts = b :: a :: rp (ao B)) ∨
  (st = 4 ∧ ∃ q a b, cmO q ∧ 0 < a ∧ 0 < b ∧ W = q :: B ∧ ts = b :: a :: rp (ao B)) ∨
  (st = 4 ∧ ∃ o q a b c, pmO o ∧ cmO q ∧ 0 < a ∧ 0 < b ∧ 0 < c ∧ W = o :: q :: B ∧ ts = c :: b :: a :: rp (ao B)) ∨
  (st = 6 ∧ W = [] ∧ ts = [0]))
def slS (st : Nat) : Nat := if st = 2 ∨ st = 4 then 1 else 0
def MI (n p0 c0 st p c d : Nat) (W : List Nat) (F : Cd) : Prop := p ≤ n ∧ c ≤ 60 ∧ d ≤ 10 ∧ dpW W = d ∧ (∃ ts, shM st W ts ∧ tyL F.reverse [] ts ∧ ts.sum ≤ c) ∧ npu F + c0 ≤ c ∧ 2 * (F.length + nbW W) + slS st + p0 + 2 * c0 ≤ p + 2 * c
theorem shM_b {st : Nat} {W ts : List Nat} (h : shM st W ts) : W.length ≤ 3 * dpW W + 4 ∧ (∀ x ∈ W, 2 ≤ x ∧ x ≤ 12) ∧ W.length ≤ nbW W + dpW W ∧ st ≤ 6 := by
  have dp2 : ∀ o (B : List Nat), pmO o ∨ cmO o → dpW (o :: B) = dpW B := fun o B q => by rw [dpW, if_neg (by unfold pmO cmO at q; omega), Nat.zero_add]
  have nb : ∀ (W : List Nat), W.length ≤ nbW W + dpW W := fun W => by
    induction W with
    | nil => exact Nat.le_refl _
    | cons x W ih =>
      rw [List.length_cons, nbW, dpW]
      by_cases q : x = 12
      · rw [if_pos q, if_pos (Or.inr q)]; omega
      · rw [if_neg q]; omega
  obtain ⟨B, hB, h⟩ := h
  have l1 := shp_len B 0 (by omega) hB
  have l2 := shp_le B 0 hB
  have m1 : ∀ x ∈ B, 2 ≤ x ∧ x ≤ 12 := fun x hx => by have := l2 x hx; omega
  have m2 : ∀ o, pmO o ∨ cmO o → ∀ (W : List Nat), (∀ x ∈ W, 2 ≤ x ∧ x ≤ 12) → ∀ x ∈ o :: W, 2 ≤ x ∧ x ≤ 12 := fun o q W hW x hx => by
    rcases List.mem_cons.mp hx with rfl | hx
    · unfold pmO cmO at q; omega
    · exact hW x hx
  rcases h with ⟨e, rfl, -⟩ | ⟨e, rfl, -⟩ | ⟨e, o, a, ho, -, rfl, -⟩ | ⟨e, a, -, rfl, -⟩ | ⟨e, o, a, b, ho, -, -, rfl, -⟩ | ⟨e, q, a, hq, -, rfl, -⟩ | ⟨e, o, q, a, b, ho, hq, -, -, rfl, -⟩ | ⟨e, q, a, b, hq, -, -, rfl, -⟩ | ⟨e, o, q, a, b, c, ho, hq, -, -, -, rfl, -⟩ | ⟨e, rfl, -⟩
  · exact ⟨by omega, m1, nb _, by omega⟩
  · exact ⟨by omega, m1, nb _, by omega⟩
  · exact ⟨by rw [dp2 o B (Or.inl ho), List.length_cons]; omega, m2 o (Or.inl ho) B m1, nb _, by omega⟩
  · exact ⟨by omega, m1, nb _, by omega⟩
  · exact ⟨by rw [dp2 o B (Or.inl ho), List.length_cons]; omega, m2 o (Or.inl ho) B m1, nb _, by omega⟩
  · exact ⟨by rw [dp2 q B (Or.inr hq), List.length_cons]; omega, m2 q (Or.inr hq) B m1, nb _, by omega⟩
  · exact ⟨by rw [dp2 o _ (Or.inl ho), dp2 q B (Or.inr hq), List.length_cons, List.length_cons]; omega, m2 o (Or.inl ho) _ (m2 q (Or.inr hq) B m1), nb _, by omega⟩
  · exact ⟨by rw [dp2 q B (Or.inr hq), List.length_cons]; omega, m2 q (Or.inr hq) B m1, nb _, by omega⟩
  · exact ⟨by rw [dp2 o _ (Or.inl ho), dp2 q B (Or.inr hq), List.length_cons, List.length_cons]; omega, m2 o (Or.inl ho) _ (m2 q (Or.inr hq) B m1), nb _, by omega⟩
  · exact ⟨by show 0 ≤ _; omega, fun x hx => (by cases hx), nb _, by omega⟩
/-- room for the class and for the reference -/
theorem MI_rm {n p0 c0 st p c d : Nat} {W : List Nat} {F : Cd} (hn : n ≤ 400) (m : MI n p0 c0 st p c d W F) : rmM n p c d W F ∧ st ≤ 6 ∧ W.length ≤ 34 ∧ 2 * F.length + p0 + 2 * c0 ≤ 520 ∧ d ≤ 10 := by
  obtain ⟨m1, m2, m3, m4, ⟨ts, m5, -, -⟩, m6, m7⟩ := m
  obtain ⟨b1, b2, b3, b4⟩ := shM_b m5
  exact ⟨⟨m1, m2, by omega, by omega, fun x hx => (b2 x hx).2, by omega, by omega⟩, b4, by omega, by omega, m3⟩
