/-! again: which pairs, sums, the greatest -/
def fdI (V : BV) (kn p s d : Int32) : Int32 := firstI (fun i => keyB V p s d i && kvB V kn i) (nM V) 0
theorem fd_sp {V : BV} (g : GI V) {kn : Int32} (hk : kn.toInt ≤ 9999) (p s d : Int32) : (fdI V kn p s d = -1 ∧ ∀ i, i < nM V → (keyB V p s d i && kvB V kn i) = false) ∨ ∃ j, j < nM V ∧ fdI V kn p s d = nI j ∧ keyB V p s d j = true ∧ kvB V kn j = true ∧ ∀ i, i < nM V → (keyB V p s d i && kvB V kn i) = true → i = j := by
  rcases max_ex (Q := fun i => keyB V p s d i && kvB V kn i) (nM V) with hq | ⟨j, j1, j2, j3⟩
  · exact Or.inl ⟨firstI_none _ 0 fun i _ hi => hq i (by omega), hq⟩
  · have j4 : keyB V p s d j = true ∧ kvB V kn j = true := by rw [← Bool.and_eq_true]; exact j2
    have un : ∀ i, i < nM V → (keyB V p s d i && kvB V kn i) = true → i = j := fun i hi q => by
      rw [Bool.and_eq_true] at q
      have k1 := q.1
      have k2 := j4.1
      simp only [keyB, decide_eq_true_eq] at k1 k2
      exact kv_uniq g hk hi j1 ⟨k1.1.trans k2.1.symm, k1.2.1.trans k2.2.1.symm, k1.2.2.trans k2.2.2.symm⟩ q.2 j4.2
    exact Or.inr ⟨j, j1, firstI_some j2 _ 0 (by omega) (by omega) fun i _ hi => Bool.eq_false_iff.mpr fun hb => absurd (un i (by omega) hb) (by omega), j4.1, j4.2, un⟩
def agB (V : BV) (kn a b : Int32) (i : Nat) : Bool := hkB V a kn i && decide (¬ fdI V kn (V 75 i) (V 76 i) b = -1)
def oj (V : BV) (kn b : Int32) (i : Nat) : Nat := (fdI V kn (V 75 i) (V 76 i) b).toInt.toNat
def agX (V : BV) (kn b : Int32) (i : Nat) : Int := (V 78 (oj V kn b i)).toInt - (V 78 i).toInt
def agY (V : BV) (kn b : Int32) (i : Nat) : Int := (V 79 (oj V kn b i)).toInt - (V 79 i).toInt
def agQ (V : BV) (kn b : Int32) (i : Nat) : Int32 := (V 78 (oj V kn b i) - V 78 i) * (V 78 (oj V kn b i) - V 78 i) + (V 79 (oj V kn b i) - V 79 i) * (V 79 (oj V kn b i) - V 79 i)
theorem ag_sub (x y : Int32) : x - y = Int32.ofInt (x.toInt - y.toInt) := by rw [Int32.ofInt_sub, Int32.ofInt_toInt, Int32.ofInt_toInt]
def lxle (V : BV) (m m' : Nat) : Prop := (V 75 m).toInt < (V 75 m').toInt ∨ ((V 75 m).toInt = (V 75 m').toInt ∧ (V 76 m).toInt ≤ (V 76 m').toInt)
def Bok (V : BV) (kn a b : Int32) (S : Nat → Prop) (t p s : Int32) : Prop := ((t = 0 ∧ p = -1 ∧ s = -1) ∧ ∀ m, m < nM V → agB V kn a b m = true → ¬ S m) ∨ ∃ m, m < nM V ∧ agB V kn a b m = true ∧ S m ∧ t = agQ V kn b m ∧ p = V 75 m ∧ s = V 76 m ∧ ∀ m', m' < nM V → agB V kn a b m' = true → S m' → (agQ V kn b m').toInt < (agQ V kn b m).toInt ∨ ((agQ V kn b m').toInt = (agQ V kn b m).toInt ∧ lxle V m m')
theorem Bok_un {V : BV} {kn a b : Int32} {t p s t' p' s' : Int32} (h1 : Bok V kn a b (fun _ => True) t p s) (h2 : Bok V kn a b (fun _ => True) t' p' s') : t = t' ∧ p = p' ∧ s = s' := by
  rcases h1 with ⟨⟨rfl, rfl, rfl⟩, n1⟩ | ⟨m, m1, m2, -, rfl, rfl, rfl, m7⟩
  · rcases h2 with ⟨⟨rfl, rfl, rfl⟩, n2⟩ | ⟨m, m1, m2, m3, -⟩
    · exact ⟨rfl, rfl, rfl⟩
    · exact absurd trivial (n1 m m1 m2)
  · rcases h2 with ⟨-, n2⟩ | ⟨q, q1, q2, -, rfl, rfl, rfl, q7⟩
    · exact absurd trivial (n2 m m1 m2)
    · have x1 := m7 q q1 q2 trivial
      have x2 := q7 m m1 m2 trivial
      unfold lxle at x1 x2
      exact ⟨i32_eq.mpr (by omega), i32_eq.mpr (by omega), i32_eq.mpr (by omega)⟩
abbrev agC (V : BV) (kn b : Int32) (m : Nat) (t p s : Int32) : Prop := p = -1 ∨ t < agQ V kn b m ∨ (agQ V kn b m = t ∧ (V 75 m < p ∨ (V 75 m = p ∧ V 76 m < s)))
theorem ag_pl {V : BV} (g : GV V) {m : Nat} (hm : m < nM V) : ¬ V 75 m = -1 := fun q => by
  have := (g.2.2.2.1.1 m hm).1.1
  rw [q] at this
  exact absurd this (by decide)
/-- the class's step -/
theorem Bok_c {V : BV} (g : GV V) {kn a b : Int32} {i : Nat} (hi : i < nM V) {t p s : Int32} (h : Bok V kn a b (fun m => m < i) t p s) : Bok V kn a b (fun m => m < i + 1) (if agB V kn a b i then (if agC V kn b i t p s then agQ V kn b i else t) else t) (if agB V kn a b i then (if agC V kn b i t p s then V 75 i else p) else p) (if agB V kn a b i then (if agC V kn b i t p s then V 76 i else s) else s) := by
  cases hb : agB V kn a b i with
  | false =>
    rw [if_neg (by decide), if_neg (by decide), if_neg (by decide)]
    have hne : ∀ m, agB V kn a b m = true → m < i + 1 → m < i := fun m h1 h2 => by
      by_cases q : m = i
      · rw [q, hb] at h1; cases h1
      · omega
    rcases h with ⟨h1, h2⟩ | ⟨m, m1, m2, m3, m4, m5, m6, m7⟩
    · exact Or.inl ⟨h1, fun m x y z => h2 m x y (hne m y z)⟩
    · exact Or.inr ⟨m, m1, m2, Nat.lt_succ_of_lt m3, m4, m5, m6, fun m' x y z => m7 m' x y (hne m' y z)⟩
  | true =>
    rw [if_pos rfl, if_pos rfl, if_pos rfl]
    by_cases hc : agC V kn b i t p s
    · rw [if_pos hc, if_pos hc, if_pos hc]
      refine Or.inr ⟨i, hi, hb, Nat.lt_succ_self i, rfl, rfl, rfl, fun m' x y z => ?_⟩
      by_cases q : m' = i
      · subst q; exact Or.inr ⟨rfl, Or.inr ⟨rfl, Int.le_refl _⟩⟩
      have z' : m' < i := by omega
      rcases h with ⟨h1, h2⟩ | ⟨m, m1, m2, m3, rfl, rfl, rfl, m7⟩
      · exact absurd z' (h2 m' x y)
      · have x1 := m7 m' x y z'
        rcases hc with q1 | q1 | ⟨q1, q2⟩
        · exact absurd q1 (ag_pl g m1)
        · rw [i32_lt] at q1; exact Or.inl (by omega)
        · rw [i32_eq] at q1
          simp only [i32_lt, i32_eq] at q2
          unfold lxle at x1 ⊢
          omega
    · rw [if_neg hc, if_neg hc, if_neg hc]
      rcases h with ⟨⟨rfl, rfl, rfl⟩, h2⟩ | ⟨m, m1, m2, m3, rfl, rfl, rfl, m7⟩
      · exact absurd (Or.inl rfl) hc
      · refine Or.inr ⟨m, m1, m2, Nat.lt_succ_of_lt m3, rfl, rfl, rfl, fun m' x y z => ?_⟩
        by_cases q : m' = i
        · subst q
          unfold agC at hc
          simp only [i32_lt, i32_eq] at hc
          unfold lxle
          omega
        · exact m7 m' x y (by omega)
def pB (V : BV) (kn a b : Int32) (p s i : Nat) : Bool := (agB V kn a b i && decide ((V 75 i).toInt.toNat = p)) && decide ((V 76 i).toInt.toNat = s)
theorem ag_pick {V : BV} (g0 : GV V) {kn : Int32} (hk : kn.toInt ≤ 9999) (a b : Int32) {p s : Nat} (hp : p < 16) (hs : s < 30) : ((fdI V kn (nI p) (nI s) a = -1 ∨ fdI V kn (nI p) (nI s) b = -1) ∧ ∀ i, i < nM V → pB V kn a b p s i = false) ∨ ∃ i j, i < nM V ∧ j < nM V ∧ fdI V kn (nI p) (nI s) a = nI i ∧ fdI V kn (nI p) (nI s) b = nI j ∧ oj V kn b i = j ∧ agB V kn a b i = true ∧ V 75 i = nI p ∧ V 76 i = nI s ∧ pB V kn a b p s i = true ∧ ∀ i', i' < nM V → pB V kn a b p s i' = true → i' = i := by
  have hcn := cnts g0.1
  have gI := g0.2.2.2.1
  have cv : ∀ i, i < nM V → pB V kn a b p s i = true → V 75 i = nI p ∧ V 76 i = nI s ∧ agB V kn a b i = true := fun i hi q => by
    unfold pB at q
    rw [Bool.and_eq_true, Bool.and_eq_true, decide_eq_true_eq, decide_eq_true_eq] at q
    have gi := gI.1 i hi
    exact ⟨by rw [← q.1.2]; exact nJ_of gi.1.1, by rw [← q.2]; exact nJ_of gi.2.1.1, q.1.1⟩
  have kv : ∀ i, i < nM V → pB V kn a b p s i = true → (keyB V (nI p) (nI s) a i && kvB V kn i) = true ∧ ¬ fdI V kn (nI p) (nI s) b = -1 := fun i hi q => by
    obtain ⟨c1, c2, c3⟩ := cv i hi q
    unfold agB hkB at c3
    rw [Bool.and_eq_true, Bool.and_eq_true, decide_eq_true_eq, decide_eq_true_eq, c1, c2] at c3
    exact ⟨by rw [Bool.and_eq_true, keyB, decide_eq_true_eq]; exact ⟨⟨c1, c2, c3.1.1⟩, c3.1.2⟩, c3.2⟩
  rcases fd_sp gI hk (nI p) (nI s) a with ⟨a1, a2⟩ | ⟨i, i1, i2, i3, i4, i5⟩
  · exact Or.inl ⟨Or.inl a1, fun i hi => Bool.eq_false_iff.mpr fun q => by have := (kv i hi q).1; rw [a2 i hi] at this; cases this⟩
  rcases fd_sp gI hk (nI p) (nI s) b with ⟨b1, b2⟩ | ⟨j, j1, j2, j3, j4, j5⟩
  · exact Or.inl ⟨Or.inr b1, fun i hi => Bool.eq_false_iff.mpr fun q => (kv i hi q).2 b1⟩
  have k1 := i3
  simp only [keyB, decide_eq_true_eq] at k1
  have hag : agB V kn a b i = true := by
    unfold agB hkB
    rw [k1.1, k1.2.1, k1.2.2, j2, i4, decide_eq_true (nI_neg1 (by omega)), decide_eq_true rfl]
    rfl
  refine Or.inr ⟨i, j, i1, j1, i2, j2, ?_, hag, k1.1, k1.2.1, ?_, fun i' h1 h2 => i5 i' h1 (kv i' h1 h2).1⟩
  · unfold oj
    rw [k1.1, k1.2.1, j2, nJ_i (by omega)]
    rfl
  · unfold pB
    rw [hag, k1.1, k1.2.1, nJ_i (by omega), nJ_i (by omega)]
    simp
def lxS (V : BV) (p s : Nat) (m : Nat) : Prop := (V 75 m).toInt < (p : Int) ∨ ((V 75 m).toInt = (p : Int) ∧ (V 76 m).toInt < (s : Int))
theorem Bok_S {V : BV} {kn a b : Int32} {S S' : Nat → Prop} {t p s : Int32} (hS : ∀ m, m < nM V → agB V kn a b m = true → (S m ↔ S' m)) (h : Bok V kn a b S t p s) : Bok V kn a b S' t p s := by
  rcases h with ⟨h1, h2⟩ | ⟨m, m1, m2, m3, m4, m5, m6, m7⟩
  · exact Or.inl ⟨h1, fun m x y z => h2 m x y ((hS m x y).mpr z)⟩
  · exact Or.inr ⟨m, m1, m2, (hS m m1 m2).mp m3, m4, m5, m6, fun m' x y z => m7 m' x y ((hS m' x y).mpr z)⟩
theorem pB_iff {V : BV} (g0 : GV V) {kn a b : Int32} {p s i : Nat} (hi : i < nM V) (hag : agB V kn a b i = true) : pB V kn a b p s i = true ↔ (V 75 i).toInt = (p : Int) ∧ (V 76 i).toInt = (s : Int) := by
  have gi := g0.2.2.2.1.1 i hi
  unfold pB
  rw [hag, Bool.true_and, Bool.and_eq_true, decide_eq_true_eq, decide_eq_true_eq]
  omega
/-- the reference's step -/
theorem Bok_m0 {V : BV} (g0 : GV V) {kn a b : Int32} {p s : Nat} (hn : ∀ i, i < nM V → pB V kn a b p s i = false) {t tp ts : Int32} (h : Bok V kn a b (lxS V p s) t tp ts) : Bok V kn a b (lxS V p (s + 1)) t tp ts := by
  refine Bok_S (fun m x y => ?_) h
  have := pB_iff g0 x y (p := p) (s := s)
  rw [hn m x] at this
  unfold lxS
  have z : ¬ ((V 75 m).toInt = (p : Int) ∧ (V 76 m).toInt = (s : Int)) := fun q => absurd (this.mpr q) (by decide)
  omega
theorem Bok_m1 {V : BV} (g0 : GV V) {kn a b : Int32} {p s i : Nat} (hi : i < nM V) (hag : agB V kn a b i = true) (hp : (V 75 i).toInt = (p : Int)) (hs : (V 76 i).toInt = (s : Int)) (hu : ∀ i', i' < nM V → pB V kn a b p s i' = true → i' = i) {t tp ts : Int32} (h : Bok V kn a b (lxS V p s) t tp ts) : Bok V kn a b (lxS V p (s + 1)) (if tp = -1 ∨ t < agQ V kn b i then agQ V kn b i else t) (if tp = -1 ∨ t < agQ V kn b i then V 75 i else tp) (if tp = -1 ∨ t < agQ V kn b i then V 76 i else ts) := by
  have hS : ∀ m, m < nM V → agB V kn a b m = true → lxS V p (s + 1) m → m = i ∨ lxS V p s m := fun m x y z => by
    by_cases q : (V 75 m).toInt = (p : Int) ∧ (V 76 m).toInt = (s : Int)
    · exact Or.inl (hu m x ((pB_iff g0 x y).mpr q))
    · unfold lxS at z ⊢; omega
  have hi' : lxS V p (s + 1) i := by unfold lxS; omega
  by_cases hc : tp = -1 ∨ t < agQ V kn b i
  · rw [if_pos hc, if_pos hc, if_pos hc]
    refine Or.inr ⟨i, hi, hag, hi', rfl, rfl, rfl, fun m' x y z => ?_⟩
    rcases hS m' x y z with rfl | z'
    · exact Or.inr ⟨rfl, Or.inr ⟨rfl, Int.le_refl _⟩⟩
    rcases h with ⟨h1, h2⟩ | ⟨m, m1, m2, m3, rfl, rfl, rfl, m7⟩
    · exact absurd z' (h2 m' x y)
    · have x1 := m7 m' x y z'
      rcases hc with q1 | q1
      · exact absurd q1 (ag_pl g0 m1)
      · rw [i32_lt] at q1; exact Or.inl (by omega)
  · rw [if_neg hc, if_neg hc, if_neg hc]
    rcases h with ⟨⟨rfl, rfl, rfl⟩, h2⟩ | ⟨m, m1, m2, m3, rfl, rfl, rfl, m7⟩
    · exact absurd (Or.inl rfl) hc
    · refine Or.inr ⟨m, m1, m2, by unfold lxS at m3 ⊢; omega, rfl, rfl, rfl, fun m' x y z => ?_⟩
      rcases hS m' x y z with rfl | z'
      · rw [i32_lt] at hc
        unfold lxS at m3
        unfold lxle
        omega
      · exact m7 m' x y z'
