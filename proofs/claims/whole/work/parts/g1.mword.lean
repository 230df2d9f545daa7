/-! the reference's words -/
theorem sx_ng : ∀ x : Nat, x < 256 → 128 ≤ x → (nI x).toInt8.toInt32 < 0 := by decide +kernel
theorem sx_eq {x c : Nat} (hx : x < 256) (hc : c < 128) : (nI x).toInt8.toInt32 = nI c ↔ x = c := by
  by_cases q : x < 128
  · rw [sx_lo x q, nJ_eq (by omega) (by omega)]
  · have := sx_ng x hx (by omega)
    exact ⟨fun z => by rw [z] at this; exact absurd this (nJ_nn (by omega)), fun z => by omega⟩
theorem chs_l : ∀ x, 8 ≤ x ∧ x ≤ 34 → ∀ c ∈ chs x, 97 ≤ c ∧ c ≤ 122 := by
  have : ∀ x : Nat, x < 35 → 8 ≤ x → ∀ c ∈ chs x, 97 ≤ c ∧ c ≤ 122 := by decide +kernel
  exact fun x hx => this x (by omega) hx.1
theorem le_no {T : Nat → Nat} {n : Nat} : ∀ m e, n ≤ e + m → (leE T n m e = e ↔ ¬ lB T n e = true)
  | 0, e, h => ⟨fun _ z => by have := (of_decide_eq_true z).1; omega, fun _ => rfl⟩
  | m + 1, e, h => by
    rw [leE]
    by_cases q : lB T n e = true
    · rw [if_pos q]
      refine ⟨fun z => ?_, fun z => absurd q z⟩
      have : ∀ m e, e ≤ leE T n m e := fun m => by
        induction m with
        | zero => intro e; exact Nat.le_refl _
        | succ m ih =>
          intro e
          rw [leE]
          by_cases q : lB T n e = true
          · rw [if_pos q]; exact Nat.le_trans (Nat.le_succ e) (ih (e + 1))
          · rw [if_neg q]; exact Nat.le_refl _
      have := this m (e + 1)
      omega
    · rw [if_neg q]; exact ⟨fun _ => q, fun _ => rfl⟩
theorem le_w {T : Nat → Nat} {n : Nat} : ∀ (w : List Nat) (m p : Nat), (∀ c ∈ w, 97 ≤ c ∧ c ≤ 122) → wM T n w p = true → n ≤ p + m → p ≤ n → leE T n m p = leE T n (m - w.length) (p + w.length)
  | [], m, p, _, _, _, _ => rfl
  | c :: w, m, p, hl, h, hm, hp => by
    rw [wM, Bool.and_eq_true] at h
    have h1 := of_decide_eq_true h.1
    have hc := hl c List.mem_cons_self
    have l1 : lB T n p = true := decide_eq_true ⟨h1.1, by omega⟩
    cases m with
    | zero => omega
    | succ m =>
      rw [leE, if_pos l1, le_w w m (p + 1) (fun x hx => hl x (List.mem_cons_of_mem _ hx)) h.2 (by omega) (by omega), List.length_cons, show m + 1 - (w.length + 1) = m - w.length by omega, show p + 1 + w.length = p + (w.length + 1) by omega]
theorem wD_le2 {T : Nat → Nat} {n p : Nat} {w : List Nat} (hl : ∀ c ∈ w, 97 ≤ c ∧ c ≤ 122) (hp : p ≤ n) : wD T n w p = (decide (leE T n (n - p) p = p + w.length) && wM T n w p) := by
  unfold wD
  cases hw : wM T n w p with
  | false => rw [Bool.false_and, Bool.and_false]
  | true =>
    have hpl := wM_le w p hw hp
    rw [Bool.true_and, Bool.and_true, le_w w (n - p) p hl hw (by omega) hp]
    have k := le_no (T := T) (n := n) (n - p - w.length) (p + w.length) (by omega)
    cases hb : lB T n (p + w.length) with
    | true => rw [decide_eq_false (fun z => k.mp z hb)]; rfl
    | false => rw [decide_eq_true (k.mpr (by rw [hb]; decide))]; rfl
section
theorem zm_st_63 {T : Nat → Nat} {n : Nat} (hn : n ≤ 400) (tb : ∀ i, T i < 256) {x : Nat} (hx : 8 ≤ x ∧ x ≤ 34) {p : Nat} (hpb : p ≤ 1000) {h : ax_H} (w : ok h) (t : TM h T n) (hp : gI h 159 18 = nI p) : ∀ (L : List Nat) (i : Nat) (s : Bool), (chs x).drop i = L → i ≤ (chs x).length → (s = true → p + (chs x).length ≤ n) → M_stands_63 159 x (bB s) (nI i) h = some (bB (s && wM T n L (p + i)), h) := by
  have hx' : 1 ≤ x ∧ x ≤ 34 := by omega
  obtain ⟨b1, b2⟩ := chs_b x hx'
  have b3 := chs_l x hx
  obtain ⟨e1, e2⟩ := m_172 w
  intro L
  induction L with
  | nil =>
    intro i s hd hi hs
    have hle : nI (chs x).length ≤ nI i := (nJ_le (by omega) (by omega)).mpr (drop_n hd)
    rw [M_stands_63_eq, if_pos hx', bnd (z_len hx' h), wM, Bool.and_true]
    simp only [hle, decide_true, ↓reduceIte]
    cases s <;> exact if_pos (by decide)
  | cons c L ih =>
    intro i s hd hi hs
    obtain ⟨d1, d2, d3⟩ := drop_c hd
    have hcm : c ∈ chs x := List.mem_of_mem_drop (by rw [hd]; exact List.mem_cons_self)
    have hc := b3 c hcm
    have hle : ¬ nI (chs x).length ≤ nI i := by rw [nJ_le (by omega) (by omega)]; omega
    have ch := z_chr hx' d1 (by omega) h
    rw [d2] at ch
    rw [M_stands_63_eq, if_pos hx', bnd (z_len hx' h)]
    cases s with
    | false =>
      simp only [hle, decide_false, Bool.false_eq_true, ↓reduceIte, show bB false = 0 from rfl, decide_true, true_or, Bool.false_and]
    | true =>
      have hpn := hs rfl
      have tp : (nI (p + i)).toNatClampNeg = p + i := nJ_n (by omega)
      have np : ¬ nI (p + i) < 0 := nJ_nn (by omega)
      have hp4 : p + i < 400 := by omega
      simp only [hle, decide_false, Bool.false_eq_true, ↓reduceIte, show ¬ bB true = 0 by decide, m_159 w, hp, nI_add, ax_in, e1, e2, tp, np, hp4, not_false_eq_true, and_self, hx', t.2]
      rw [bnd ch]
      simp only [nJ_p1]
      rw [wM, Bool.true_and]
      by_cases q : T (p + i) = c
      · have z : (nI (T (p + i))).toInt8.toInt32 = nI c := (sx_eq (tb _) (by omega)).mpr q
        rw [if_neg (by rw [decide_eq_true_eq]; exact fun y => y z), show decide (p + i < n ∧ T (p + i) = c) = true from decide_eq_true ⟨by omega, q⟩, Bool.true_and]
        have := ih (i + 1) true d3 (by omega) hs
        rw [Bool.true_and] at this
        exact this
      · have z : ¬ (nI (T (p + i))).toInt8.toInt32 = nI c := fun y => q ((sx_eq (tb _) (by omega)).mp y)
        rw [if_pos (decide_eq_true z), show decide (p + i < n ∧ T (p + i) = c) = false from decide_eq_false (fun y => q y.2), Bool.false_and]
        have := ih (i + 1) false d3 (by omega) (fun y => (by cases y))
        rw [Bool.false_and] at this
        exact this
theorem zm_stands {T : Nat → Nat} {n : Nat} (hn : n ≤ 400) (tb : ∀ i, T i < 256) {x : Nat} (hx : 8 ≤ x ∧ x ≤ 34) {p : Nat} (hpb : p ≤ 1000) {h : ax_H} (w : ok h) (t : TM h T n) (hp : gI h 159 18 = nI p) : M_stands 159 x h = some (bB (wD T n (chs x) p), h) := by
  have hx' : 1 ≤ x ∧ x ≤ 34 := by omega
  obtain ⟨b1, b2⟩ := chs_b x hx'
  have b3 := chs_l x hx
  have e0 : M_stands 159 x h = M_stands_41 159 x (nI (leE T n (n - p) p)) h := by
    rw [M_stands_eq, if_pos (m_159 w), hp]
    exact zm_st_5 hn tb (n - p) p h w t (by omega) (by omega)
  have lb := le_b (T := T) hn tb (n - p) p
  have e1 : ∀ s : Bool, decide (leE T n (n - p) p = p + (chs x).length) = s → M_stands_41 159 x (nI (leE T n (n - p) p)) h = M_stands_63 159 x (bB s) (nI 0) h := fun s hs => by
    have hle : leE T n (n - p) p ≤ 1400 := by
      by_cases q : p ≤ n
      · have := lb.2 q; omega
      · have : leE T n (n - p) p = p := by rw [show n - p = 0 by omega]; rfl
        omega
    rw [M_stands_41_eq, if_pos (m_159 w), if_pos hx', bnd (z_len hx' h), hp, nI_sb lb.1]
    cases s with
    | true =>
      have := of_decide_eq_true hs
      rw [if_neg (by rw [decide_eq_true_eq, nJ_eq (by omega) (by omega)]; omega)]
      rfl
    | false =>
      have := of_decide_eq_false hs
      rw [if_pos (by rw [decide_eq_true_eq, nJ_eq (by omega) (by omega)]; omega)]
      rfl
  rw [e0]
  by_cases hpn : p ≤ n
  · rw [wD_le2 b3 hpn]
    cases hs : decide (leE T n (n - p) p = p + (chs x).length) with
    | true =>
      have := of_decide_eq_true hs
      rw [e1 true hs, zm_st_63 hn tb hx hpb w t hp (chs x) 0 true rfl (by omega) (fun _ => by have := lb.2 hpn; omega)]
      rfl
    | false =>
      rw [e1 false hs, zm_st_63 hn tb hx hpb w t hp (chs x) 0 false rfl (by omega) (fun y => (by cases y))]
      rfl
  · have l0 : leE T n (n - p) p = p := by rw [show n - p = 0 by omega]; rfl
    have len : 1 ≤ (chs x).length := by
      have : ∀ x : Nat, x < 35 → 8 ≤ x → 1 ≤ (chs x).length := by decide +kernel
      exact this x (by omega) hx.1
    have hs : decide (leE T n (n - p) p = p + (chs x).length) = false := decide_eq_false (by omega)
    rw [e1 false hs, zm_st_63 hn tb hx hpb w t hp (chs x) 0 false rfl (by omega) (fun y => (by cases y))]
    have : wM T n (chs x) p = false := by
      cases hc : chs x with
      | nil => rw [hc] at len; exact absurd len (by decide)
      | cons c L => rw [wM, show decide (p < n ∧ T p = c) = false from decide_eq_false (fun y => by omega), Bool.false_and]
    rw [wD, this]
    rfl
end
