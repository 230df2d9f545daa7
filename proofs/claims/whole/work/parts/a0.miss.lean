/-! miss -/
def afT (V : BV) (D : WD) (kn : Int32) (S : Nat → Int) (j : Nat) : Int := match (FT D)[j]? with
  | some t => anZ V D kn S t
  | none => 0
def fsT (V : BV) (D : WD) (kn : Int32) (S : Nat → Int) (i ax j : Nat) : Int := afT V D kn S j * gF V (FT D) j i ax
def fsZ (V : BV) (D : WD) (kn : Int32) (S : Nat → Int) (i ax n : Nat) : Int := zN (fsT V D kn S i ax) n
def msR (V : BV) (D : WD) (kn : Int32) (S : Nat → Int) (i ax : Nat) : Int := dZ V D kn i ax - (fsZ V D kn S i ax (FT D).length).tdiv 1000
def msF (V : BV) (D : WD) (kn : Int32) (S : Nat → Int) (i : Nat) : Int := msR V D kn S i 0 * msR V D kn S i 0 + msR V D kn S i 1 * msR V D kn S i 1
def anB (V : BV) (D : WD) (kn : Int32) (S : Nat → Int) : Prop := ∀ t, t < 6 → -99999999 ≤ anZ V D kn S t ∧ anZ V D kn S t ≤ 99999999
theorem afT_eq {V : BV} {D : WD} {kn : Int32} {S : Nat → Int} {j t : Nat} (h : (FT D)[j]? = some t) : afT V D kn S j = anZ V D kn S t := by
  unfold afT
  rw [h]
theorem gF_eq {V : BV} {D : WD} {j t : Nat} (h : (FT D)[j]? = some t) (i ax : Nat) : gF V (FT D) j i ax = gi V t i ax := by
  unfold gF
  rw [h]
theorem fsT_bd {V : BV} (g : GV V) {D : WD} {kn : Int32} {S : Nat → Int} (b : anB V D kn S) {i : Nat} (hi : i < nM V) (ax j : Nat) : -8099999919 ≤ fsT V D kn S i ax j ∧ fsT V D kn S i ax j ≤ 8099999919 := by
  unfold fsT
  have h1 : -99999999 ≤ afT V D kn S j ∧ afT V D kn S j ≤ 99999999 := by
    cases q : (FT D)[j]? with
    | none => unfold afT; rw [q]; show (-99999999 : Int) ≤ 0 ∧ (0 : Int) ≤ 99999999; decide
    | some t => rw [afT_eq q]; exact b t (FT_mem q).1
  exact mul_bd (k := 99999999) (m := 81) h1 (gF_bd g hi j ax)
theorem fsZ_bd {V : BV} (g : GV V) {D : WD} {kn : Int32} {S : Nat → Int} (b : anB V D kn S) {i : Nat} (hi : i < nM V) (ax : Nat) : ∀ n : Nat, -(8099999919 * (n : Int)) ≤ fsZ V D kn S i ax n ∧ fsZ V D kn S i ax n ≤ 8099999919 * (n : Int)
  | 0 => by unfold fsZ; rw [zN]; decide
  | n + 1 => by
    have h1 := fsZ_bd g b hi ax n
    have h2 := fsT_bd g b hi ax n
    unfold fsZ at h1 ⊢
    rw [zN]
    omega
theorem msR_bd {V : BV} (g : GV V) {D : WD} (f : WF D) {kn : Int32} (hc : ckOk V D kn) {S : Nat → Int} (b : anB V D kn S) {i : Nat} (hi : i < nM V) (ax : Nat) : -25000000 ≤ msR V D kn S i ax ∧ msR V D kn S i ax ≤ 25000000 := by
  have h1 := fsZ_bd g b hi ax (FT D).length
  have h2 := FT_3 f
  have h3 := dZ_bd g f hc hi ax
  have h4 := (FT_ok f).1
  unfold ftC at h4
  rw [Bool.and_eq_true] at h4
  have h5 := of_decide_eq_true h4.1
  have e := Int.mul_tdiv_add_tmod (fsZ V D kn S i ax (FT D).length) 1000
  have e2 := Int.tmod_lt_of_pos (fsZ V D kn S i ax (FT D).length) (show (0 : Int) < 1000 by decide)
  have e3 : -1000 < (fsZ V D kn S i ax (FT D).length).tmod 1000 := Int.lt_tmod_of_pos _ (by decide)
  unfold msR
  omega
theorem sg_bd {α : Type} {F : α → Int} {b : Int} : ∀ (l : List α), (∀ x ∈ l, 0 ≤ F x ∧ F x ≤ b) → 0 ≤ sg F l ∧ sg F l ≤ b * (l.length : Int)
  | [], _ => by rw [sg]; exact ⟨Int.le_refl 0, by rw [List.length_nil]; omega⟩
  | x :: l, h => by
    have h1 := sg_bd l fun y hy => h y (List.mem_cons_of_mem _ hy)
    have h2 := h x (List.mem_cons_self ..)
    rw [sg, List.length_cons, Int.natCast_add, Int.mul_add]
    have : b * ((1 : Nat) : Int) = b := Int.mul_one b
    omega
theorem msZ_bd {V : BV} (g : GV V) {D : WD} (f : WF D) {kn : Int32} (hc : ckOk V D kn) {S : Nat → Int} (b : anB V D kn S) {L : List Nat} (hL : L.length ≤ 100) (hLn : ∀ i ∈ L, i < nM V) : 0 ≤ sg (msF V D kn S) L ∧ sg (msF V D kn S) L ≤ 125000000000000000 := by
  have := sg_bd (F := msF V D kn S) (b := 1250000000000000) L fun i hi => by
    have b0 := msR_bd g f hc b (hLn i hi) 0
    have b1 := msR_bd g f hc b (hLn i hi) 1
    have m0 := mul_bd b0 b0
    have m1 := mul_bd b1 b1
    have n0 : 0 ≤ msR V D kn S i 0 * msR V D kn S i 0 := sq_nn _
    have n1 : 0 ≤ msR V D kn S i 1 * msR V D kn S i 1 := sq_nn _
    unfold msF
    omega
  omega
section
theorem z_ms_20 {h : ax_H} (w : ok h) (g : GV (V h)) {D : WD} (f : WF D) {kn : Int32} (hc : ckOk (V h) D kn) {S : Nat → Int} (b : anB (V h) D kn S) (hF : ftP h (FT D)) (hA : ∀ t, t < 6 → gI h 101 t = Int32.ofInt (anZ (V h) D kn S t)) {i : Nat} (hi : i < nM (V h)) {r ax : Nat} (hr : r < 200) (hR : RWK h (V h) D kn r i ax) (A : Int64) : ∀ (m j : Nat), j + m = (FT D).length → Ft_missed_20 99 A (nI r) (Int64.ofInt (fsZ (V h) D kn S i ax j)) (nI j) h = Ft_missed_4 99 (A + Int64.ofInt (msR (V h) D kn S i ax * msR (V h) D kn S i ax)) (nI (r + 1)) h := by
  intro m
  have h3 := FT_3 f
  obtain ⟨wS, wR, wG, wN⟩ := w
  obtain ⟨f1, f2⟩ := hF
  obtain ⟨r1, r2, r3⟩ := hR
  induction m with
  | zero =>
    intro j hj
    have : j = (FT D).length := by omega
    subst this
    have hle : nI (FT D).length ≤ nI (FT D).length := by rw [nJ_le (by omega) (by omega)]; omega
    have tr : (nI r).toNatClampNeg = r := nJ_n (by omega)
    have nr : ¬ nI r < 0 := nJ_nn (by omega)
    have hb := fsZ_bd g b hi ax (FT D).length
    have hd := dZ_bd g f hc hi ax
    have h4 := (FT_ok f).1
    unfold ftC at h4
    rw [Bool.and_eq_true] at h4
    have h5 := of_decide_eq_true h4.1
    have e1 : (Int32.ofInt (tuZ (V h) i ax - stZ (V h) D kn i ax)).toInt64 - Int64.ofInt (fsZ (V h) D kn S i ax (FT D).length) / 1000 = Int64.ofInt (msR (V h) D kn S i ax) := by
      rw [show tuZ (V h) i ax - stZ (V h) D kn i ax = dZ (V h) D kn i ax from rfl, i_toL (by omega), show (1000 : Int64) = Int64.ofInt 1000 from rfl, l_tdiv (by omega) (by omega), ← Int64.ofInt_sub]
      rfl
    rw [Ft_missed_20_eq]
    simp only [wS, wR, ↓reduceIte, f1, hle, decide_true, ax_in, tr, nr, hr, not_false_eq_true, and_self, r3, e1, ← Int64.ofInt_mul, nJ_p1]
  | succ m ih =>
    intro j hj
    have hle : ¬ nI (FT D).length ≤ nI j := by rw [nJ_le (by omega) (by omega)]; omega
    have tj : (nI j).toNatClampNeg = j := nJ_n (by omega)
    have nj : ¬ nI j < 0 := nJ_nn (by omega)
    have hj3 : j < 3 := by omega
    obtain ⟨t, ht⟩ : ∃ t, (FT D)[j]? = some t := ⟨_, List.getElem?_eq_getElem (by omega)⟩
    have ht6 := (FT_mem ht).1
    have v1 := f2 j t ht
    have tt : (nI t).toNatClampNeg = t := nJ_n (by omega)
    have nt : ¬ nI t < 0 := nJ_nn (by omega)
    have v2 := hA t ht6
    have v3 := r1 j t ht
    have e3 : nI r * 3 + nI j = nI (3 * r + j) := by rw [show (3 : Int32) = nI 3 from rfl, pk_mul, nI_add, Nat.mul_comm]
    have tx : (nI (3 * r + j)).toNatClampNeg = 3 * r + j := nJ_n (by omega)
    have nx : ¬ nI (3 * r + j) < 0 := nJ_nn (by omega)
    have hx : 3 * r + j < 600 := by omega
    have gb := gF_bd g (D := D) hi j ax
    rw [gF_eq ht] at gb
    have ab := b t ht6
    have e4 : Int64.ofInt (fsZ (V h) D kn S i ax j) + (Int32.ofInt (anZ (V h) D kn S t)).toInt64 * (Int32.ofInt (gi (V h) t i ax)).toInt64 = Int64.ofInt (fsZ (V h) D kn S i ax (j + 1)) := by
      rw [i_toL (by omega), i_toL (by omega), ← Int64.ofInt_mul, ← Int64.ofInt_add]
      unfold fsZ
      rw [zN]
      unfold fsT
      rw [afT_eq ht, gF_eq ht]
    rw [← ih (j + 1) (by omega), Ft_missed_20_eq]
    simp only [wS, wR, ↓reduceIte, f1, hle, decide_false, Bool.false_eq_true, ax_in, tj, nj, hj3, v1, tt, nt, ht6, v2, e3, tx, nx, hx, v3, e4, not_false_eq_true, and_self, nJ_p1]
theorem z_ms_4 {h : ax_H} (w : ok h) (g : GV (V h)) {D : WD} (f : WF D) {kn : Int32} (hc : ckOk (V h) D kn) {S : Nat → Int} (b : anB (V h) D kn S) (hF : ftP h (FT D)) (hA : ∀ t, t < 6 → gI h 101 t = Int32.ofInt (anZ (V h) D kn S t)) {L : List Nat} (hL : L.length ≤ 100) (hLn : ∀ i ∈ L, i < nM (V h)) (hl : lsP h L) (hR : RW h (V h) D kn L) : ∀ (m k : Nat) (A : Int), k + m = L.length → Ft_missed_4 99 (Int64.ofInt A) (nI (2 * k)) h = some (Int64.ofInt (A + sg (msF (V h) D kn S) (L.drop k)), h) := by
  intro m
  have w0 := w
  obtain ⟨wS, wR, wG, wN⟩ := w
  have e2 : (2 : Int32) * nI L.length = nI (2 * L.length) := by rw [show (2 : Int32) = nI 2 from rfl, pk_mul]
  induction m with
  | zero =>
    intro k A hk
    have hle : nI (2 * L.length) ≤ nI (2 * k) := by rw [nJ_le (by omega) (by omega)]; omega
    rw [Ft_missed_4_eq, List.drop_eq_nil_of_le (by omega), sg, Int.add_zero]
    simp only [wS, ↓reduceIte, hl.1, e2, hle, decide_true]
  | succ m ih =>
    intro k A hk
    have hle : ¬ nI (2 * L.length) ≤ nI (2 * k) := by rw [nJ_le (by omega) (by omega)]; omega
    have hle2 : ¬ nI (2 * L.length) ≤ nI (2 * k + 1) := by rw [nJ_le (by omega) (by omega)]; omega
    have hi : L[k]? = some L[k] := List.getElem?_eq_getElem (by omega)
    obtain ⟨q0, q1⟩ := hR k _ hi
    have hn := hLn L[k] (List.getElem_mem (by omega))
    have s0 := z_ms_20 w0 g f hc b hF hA hn (by omega) q0 (Int64.ofInt A) _ 0 (by rw [Nat.zero_add])
    have s1 := z_ms_20 w0 g f hc b hF hA hn (by omega) q1 (Int64.ofInt A + Int64.ofInt (msR (V h) D kn S L[k] 0 * msR (V h) D kn S L[k] 0)) _ 0 (by rw [Nat.zero_add])
    have z0 : Int64.ofInt (fsZ (V h) D kn S L[k] 0 0) = 0 := rfl
    have z1 : Int64.ofInt (fsZ (V h) D kn S L[k] 1 0) = 0 := rfl
    rw [z0, show nI 0 = 0 from rfl] at s0
    rw [z1, show nI 0 = 0 from rfl, show 2 * k + 1 + 1 = 2 * (k + 1) by omega, ← Int64.ofInt_add, ← Int64.ofInt_add, ih (k + 1) _ (by omega)] at s1
    rw [Ft_missed_4_eq]
    simp only [wS, ↓reduceIte, hl.1, e2, hle, decide_false, Bool.false_eq_true]
    rw [s0, Ft_missed_4_eq]
    simp only [wS, ↓reduceIte, hl.1, e2, hle2, decide_false, Bool.false_eq_true]
    rw [← Int64.ofInt_add, s1, List.drop_eq_getElem_cons (show k < L.length by omega), sg]
    unfold msF
    rw [Int.add_assoc, Int.add_assoc, Int.add_assoc]
end
theorem z_missed {h : ax_H} (w : ok h) (g : GV (V h)) {D : WD} (f : WF D) {kn : Int32} (hc : ckOk (V h) D kn) {S : Nat → Int} (b : anB (V h) D kn S) (o : OP h (V h) D kn) (hA : ∀ t, t < 6 → gI h 101 t = Int32.ofInt (anZ (V h) D kn S t)) : Ft_missed 99 h = some (Int64.ofInt (sg (msF (V h) D kn S) (tkL (V h) D kn)), h) := by
  have hcn := cnts g.1
  have hlen : (tkL (V h) D kn).length ≤ 100 := by
    have := flF_len (P := tkB (V h) D kn) (nM (V h)) 0
    unfold tkL
    omega
  have := z_ms_4 w g f hc b o.2.1 hA hlen (fun i hi => tkL_lt hi) o.1 o.2.2.1 (tkL (V h) D kn).length 0 0 (by omega)
  rw [Int.zero_add, List.drop_zero] at this
  rw [Ft_missed_eq]
  exact this

section
theorem zm_ms_36 {h : ax_H} (i0 : I0 h) {D : WD} (f : WF D) {kn : Int32} (hc : ckOk (V h) D kn) (bg : BEG h (V h) D kn) (ou : OUT h (tuZ (V h))) {S : Nat → Int} (b : anB (V h) D kn S) (hA : ∀ t, t < 6 → gL h 190 t = Int64.ofInt (anZ (V h) D kn S t)) {i ax : Nat} (hi : i < nM (V h)) (ha : ax < 2) (A : Int64) : ∀ (m j : Nat), j + m = (FT D).length → M_missed_36 159 A (nI i) (nI ax) (Int64.ofInt (fsZ (V h) D kn S i ax j)) (nI j) h = M_missed_15 159 (A + Int64.ofInt (msR (V h) D kn S i ax * msR (V h) D kn S i ax)) (nI i) (nI (ax + 1)) h := by
  intro m
  have h3 := FT_3 f
  have i00 := i0
  obtain ⟨w0, e0, g⟩ := i0
  have hcn := cnts g.1
  have w00 := w0
  obtain ⟨wS, wR, wG, wN⟩ := w0
  obtain ⟨f1, f2⟩ := bg.1
  induction m with
  | zero =>
    intro j hj
    have : j = (FT D).length := by omega
    subst this
    have hle : nI (FT D).length ≤ nI (FT D).length := by rw [nJ_le (by omega) (by omega)]; omega
    have hb := fsZ_bd g b hi ax (FT D).length
    have hl := zm_left i00 f hc bg ou hi ha (by
      have := mX_bd g.2.2.2.1 hi ax
      unfold tuZ
      split <;> omega)
    have e1 : Int64.ofInt (tuZ (V h) i ax - stZ (V h) D kn i ax) - Int64.ofInt (fsZ (V h) D kn S i ax (FT D).length) / 1000 = Int64.ofInt (msR (V h) D kn S i ax) := by
      rw [show tuZ (V h) i ax - stZ (V h) D kn i ax = dZ (V h) D kn i ax from rfl, show (1000 : Int64) = Int64.ofInt 1000 from rfl, l_tdiv (by omega) (by omega), ← Int64.ofInt_sub]
      rfl
    rw [M_missed_36_eq]
    simp only [wS, ↓reduceIte, f1, hle, decide_true]
    rw [bnd hl]
    simp only [e1, ← Int64.ofInt_mul, nJ_p1]
  | succ m ih =>
    intro j hj
    have hle : ¬ nI (FT D).length ≤ nI j := by rw [nJ_le (by omega) (by omega)]; omega
    have tj : (nI j).toNatClampNeg = j := nJ_n (by omega)
    have nj : ¬ nI j < 0 := nJ_nn (by omega)
    have hj3 : j < 3 := by omega
    have hj6 : j < 6 := by omega
    obtain ⟨t, ht⟩ : ∃ t, (FT D)[j]? = some t := ⟨_, List.getElem?_eq_getElem (by omega)⟩
    have ht6 := (FT_mem ht).1
    have v1 := f2 j t ht
    have tt : (nI t).toNatClampNeg = t := nJ_n (by omega)
    have nt : ¬ nI t < 0 := nJ_nn (by omega)
    have v2 := hA t ht6
    have hG := zm_givenOn w00 g e0 ht6 hi ha
    have e4 : Int64.ofInt (fsZ (V h) D kn S i ax j) + Int64.ofInt (anZ (V h) D kn S t) * Int64.ofInt (gi (V h) t i ax) = Int64.ofInt (fsZ (V h) D kn S i ax (j + 1)) := by
      rw [← Int64.ofInt_mul, ← Int64.ofInt_add]
      unfold fsZ
      rw [zN]
      unfold fsT
      rw [afT_eq ht, gF_eq ht]
    rw [← ih (j + 1) (by omega), M_missed_36_eq]
    simp only [wS, wR, ↓reduceIte, f1, hle, decide_false, Bool.false_eq_true, ax_in, tj, nj, hj3, hj6, v1, tt, nt, ht6, not_false_eq_true, and_self]
    rw [bnd hG]
    simp only [v2, e4, nJ_p1]
theorem zm_ms_4 {h : ax_H} (i0 : I0 h) {D : WD} (f : WF D) {kn : Int32} (hc : ckOk (V h) D kn) (bg : BEG h (V h) D kn) (ou : OUT h (tuZ (V h))) {S : Nat → Int} (b : anB (V h) D kn S) (hA : ∀ t, t < 6 → gL h 190 t = Int64.ofInt (anZ (V h) D kn S t)) {P : Nat → Bool} (iso : ISO h P) : ∀ (m i : Nat) (A : Int), i + m = nM (V h) → M_missed_4 159 (Int64.ofInt A) (nI i) h = some (Int64.ofInt (A + sg (msF (V h) D kn S) (flF P m i)), h) := by
  intro m
  have i00 := i0
  obtain ⟨w0, e0, g⟩ := i0
  have hcn := cnts g.1
  have hn := nI_nM g.1.2.2.2.1
  have w00 := w0
  obtain ⟨wS, wR, wG, wN⟩ := w0
  have e4 : gI h 159 4 = V h 74 0 := by
    unfold EQ at e0
    exact e0.2.2.2.1
  induction m with
  | zero =>
    intro i A hi
    have hle : nI (nM (V h)) ≤ nI i := by rw [nJ_le (by omega) (by omega)]; omega
    rw [M_missed_4_eq, flF, sg, Int.add_zero]
    simp only [wS, ↓reduceIte, e4, hn, hle, decide_true]
  | succ m ih =>
    intro i A hi
    have hle : ¬ nI (nM (V h)) ≤ nI i := by rw [nJ_le (by omega) (by omega)]; omega
    have tn : (nI i).toNatClampNeg = i := nJ_n (by omega)
    have nn : ¬ nI i < 0 := nJ_nn (by omega)
    have hi2 : i < 100 := by omega
    have hin : i < nM (V h) := by omega
    have hs := iso i hin
    rw [M_missed_4_eq]
    simp only [wS, ↓reduceIte, e4, hn, hle, decide_false, Bool.false_eq_true]
    rw [flF]
    cases hp : P i with
    | false =>
      rw [hp] at hs
      rw [M_missed_15_eq]
      simp only [wS, wR, ↓reduceIte, show ¬ (2 : Int32) ≤ 0 by decide, decide_false, decide_true, Bool.false_eq_true, ax_in, tn, nn, hi2, not_false_eq_true, and_self, hs, show ¬ bB (!false) = 0 by decide, nJ_p1]
      exact ih (i + 1) A (by omega)
    | true =>
      rw [hp] at hs
      have s0 := zm_ms_36 i00 f hc bg ou b hA hin (ax := 0) (by omega) (Int64.ofInt A) _ 0 (by rw [Nat.zero_add])
      have s1 := zm_ms_36 i00 f hc bg ou b hA hin (ax := 1) (by omega) (Int64.ofInt A + Int64.ofInt (msR (V h) D kn S i 0 * msR (V h) D kn S i 0)) _ 0 (by rw [Nat.zero_add])
      have z0 : Int64.ofInt (fsZ (V h) D kn S i 0 0) = 0 := rfl
      have z1 : Int64.ofInt (fsZ (V h) D kn S i 1 0) = 0 := rfl
      rw [z0, show nI 0 = 0 from rfl] at s0
      rw [z1, show nI 0 = 0 from rfl] at s1
      rw [M_missed_15_eq]
      simp only [wS, wR, ↓reduceIte, show ¬ (2 : Int32) ≤ 0 by decide, decide_false, decide_true, Bool.false_eq_true, ax_in, tn, nn, hi2, not_false_eq_true, not_true_eq_false, and_self, hs, show bB (!true) = 0 from rfl]
      rw [s0, M_missed_15_eq]
      simp only [wS, wR, ↓reduceIte, show ¬ (2 : Int32) ≤ nI (0 + 1) by decide, decide_false, decide_true, Bool.false_eq_true, ax_in, tn, nn, hi2, not_false_eq_true, not_true_eq_false, and_self, hs, show bB (!true) = 0 from rfl]
      rw [s1, M_missed_15_eq]
      simp only [↓reduceIte, show (2 : Int32) ≤ nI (1 + 1) by decide, decide_true, nJ_p1]
      rw [← Int64.ofInt_add, ← Int64.ofInt_add, ih (i + 1) _ (by omega), sg]
      unfold msF
      rw [Int.add_assoc, Int.add_assoc, Int.add_assoc]
end
theorem zm_missed {h : ax_H} (i0 : I0 h) {D : WD} (f : WF D) {kn : Int32} (hc : ckOk (V h) D kn) {S : Nat → Int} (b : anB (V h) D kn S) (fm : FM h (V h) D kn S (fun i => tkB (V h) D kn i)) : M_missed 159 h = some (Int64.ofInt (sg (msF (V h) D kn S) (tkL (V h) D kn)), h) := by
  obtain ⟨bg, ou, iso, hA⟩ := fm
  have := zm_ms_4 i0 f hc bg ou b hA iso (nM (V h)) 0 0 (by omega)
  rw [Int.zero_add] at this
  rw [M_missed_eq]
  exact this
theorem anB_of {V : BV} (g : GI V) {D : WD} (f : WF D) {kn : Int32} (hc : ckOk V D kn) {S : Nat → Int} (hs : slB S (FT D).length = true) : anB V D kn S := fun _ ht => anZ_bd g f hc hs ht
theorem qy_miss {h : ax_H} (i : I0 h) (iw : IW h) (a kn : Int32) : qry (B_miss 64 a kn h) (M_miss 159 a kn) h := by
  have i0 := i
  obtain ⟨w, e, g⟩ := i
  have hcn := cnts g.1
  have w0 := w
  obtain ⟨wS, wR, wG, wN⟩ := w
  by_cases h1 : 0 ≤ a.toInt ∧ a.toInt ≤ (V h 65 4).toInt - 1
  case neg =>
    refine qry_no (v := -1) ?_ ?_
    · rw [B_miss_eq]
      try simp only [wS, wR, ↓reduceIte]
      simp only [gI_pI, gI_pL, gI_pR, gL_pI, gL_pL, gL_pR, gR_pI, gR_pL, gR_pR, gS_pI, gS_pL, gS_pR, ↓reduceIte, Nat.reduceEqDiff, decide_eq_true_eq, Option.bind_some, false_and, and_false, true_and, and_true, and_self, Nat.reduceAdd, not_false_eq_true, not_true_eq_false, wS, wR, inI, ite_self, Classical.not_not, ↓bnd (z_wayNo w0 g.1 h1)]
    · rw [M_miss_eq]
      simp only [gI_pI, gI_pL, gI_pR, gL_pI, gL_pL, gL_pR, gR_pI, gR_pL, gR_pR, gS_pI, gS_pL, gS_pR, ↓reduceIte, Nat.reduceEqDiff, decide_eq_true_eq, Option.bind_some, false_and, and_false, true_and, and_true, and_self, Nat.reduceAdd, not_false_eq_true, not_true_eq_false, wS, wR, inI, ite_self, Classical.not_not, ↓bnd (zm_isWay w0 g.1 e _), bI_0, h1]
  obtain ⟨j, rfl, hj, hj2, hj3⟩ := nI_ex h1
  obtain ⟨D, c, m, f⟩ := iw j (by omega)
  have hnz : ¬ gR h 82 j = 0 := by have := c.1; omega
  have hWA := z_wayAt w0 g.1 (j := j) (by omega)
  by_cases h2 : 0 ≤ kn.toInt ∧ kn.toInt ≤ 9999
  case neg =>
    refine qry_no (v := -1) ?_ ?_
    · rw [B_miss_eq]
      try simp only [wS, wR, ↓reduceIte]
      simp only [gI_pI, gI_pL, gI_pR, gL_pI, gL_pL, gL_pR, gR_pI, gR_pL, gR_pR, gS_pI, gS_pL, gS_pR, ↓reduceIte, Nat.reduceEqDiff, decide_eq_true_eq, Option.bind_some, false_and, and_false, true_and, and_true, and_self, Nat.reduceAdd, not_false_eq_true, not_true_eq_false, wS, wR, inI, ite_self, Classical.not_not, ↓bnd hWA, hnz, ↓bnd (z_isWeek _ _), bI_0, h2]
    · rw [M_miss_eq]
      simp only [gI_pI, gI_pL, gI_pR, gL_pI, gL_pL, gL_pR, gR_pI, gR_pL, gR_pR, gS_pI, gS_pL, gS_pR, ↓reduceIte, Nat.reduceEqDiff, decide_eq_true_eq, Option.bind_some, false_and, and_false, true_and, and_true, and_self, Nat.reduceAdd, not_false_eq_true, not_true_eq_false, wS, wR, inI, ite_self, Classical.not_not, ↓bnd (zm_isWay w0 g.1 e _), bI_0, h1, ↓bnd (zm_isWeek _ _), h2]
  have hWA' : Bk_wayAt (gR h 64 0) (nI j) h = some (gR h 82 j, h) := by simp only [wR]; exact hWA
  obtain ⟨x1, a1, a2, a3⟩ := z_open w0 g f c kn
  have hV := V_frc a2
  have w1 := ok_fr a2 w0
  have a1' : Ft_open (gR h 64 3) (gR h 64 0) (gR h 82 j) kn h = some (bB (cko (V h) D kn 6 0), x1) := by
    simp only [wR]
    exact a1
  have S1 : gS x1 = gS h := fr_S a2
  have R1 : gR x1 = gR h := fr_R a2
  have hcl : ∃ x2, B_miss 64 (nI j) kn h = some (if agk (V h) D kn allB = true then Int64.ofInt (sg (msF (V h) D kn (SP (V h) D kn allB)) (tkL (V h) D kn)) else -1, x2) ∧ fr Sc h x2 := by
    have pre : ∀ r, (Ft_open (gR h 64 3) (gR h 64 0) (gR h 82 j) kn h).bind (fun r3 => if decide (r3.1 = 0) then
        (some ((-1), r3.2) )
      else
        (if (gS r3.2 64).1 = 0 then if (gS r3.2 (gR r3.2 64 3)).1 = 7 then (Ft_solveAll (gR r3.2 64 3) r3.2).bind (fun r4 => if decide (¬ r4.1 = 0) then
          (if (gS r4.2 64).1 = 0 then if (gS r4.2 (gR r4.2 64 3)).1 = 7 then (Ft_missed (gR r4.2 64 3) r4.2).bind (fun r5 => some (r5.1, r5.2) ) else none else none)
        else
          (some ((-1), r4.2) ) ) else none else none) ) = r → B_miss 64 (nI j) kn h = r := fun r hr => by
      rw [← hr, B_miss_eq]
      simp only [wS, ↓reduceIte]
      rw [if_pos (by simp only [wR, wS]), bnd hWA']
      rw [if_neg hnz, bnd (z_isWeek _ _), if_pos (by rw [decide_eq_true_eq, bI_0]; exact not_not_intro h2)]
      simp only [wS, wR, ↓reduceIte]
    cases hk : cko (V h) D kn 6 0 with
    | false =>
      rw [hk] at a1'
      refine ⟨x1, pre _ ?_, a2⟩
      have ga : agk (V h) D kn allB = false := by unfold agk; rw [hk]; rfl
      rw [bnd a1', if_neg (show ¬ (agk (V h) D kn allB = true) from fun q => by rw [ga] at q; cases q)]
      rfl
    | true =>
      rw [hk] at a1'
      have hc := cko_ok.mp hk
      obtain ⟨x2, b1, b2, b3, b5⟩ := z_solveAll w1 (by rw [hV]; exact g) f (kn := kn) (by rw [hV]; exact hc) (by rw [hV]; exact a3 hk)
      rw [hV] at b1 b3 b5
      have hV2 : V x2 = V h := (V_frc (S1x_c b2)).trans hV
      have w2 := ok_fr b2 w1
      have S2 : gS x2 = gS h := (fr_S b2).trans S1
      have R2 : gR x2 = gR h := (fr_R b2).trans R1
      cases hs : slB (SP (V h) D kn allB) (FT D).length with
      | false =>
        rw [hs] at b1
        refine ⟨x2, pre _ ?_, fr_tr a2 (S1x_c b2)⟩
        have ga : agk (V h) D kn allB = false := by unfold agk; rw [hk, hs]; rfl
        rw [bnd a1', if_neg (show ¬ (agk (V h) D kn allB = true) from fun q => by rw [ga] at q; cases q)]
        simp only [show ¬ bB true = 0 by decide, decide_false, Bool.false_eq_true, ↓reduceIte, S1, R1, wS, wR]
        rw [bnd b1]
        rfl
      | true =>
        rw [hs] at b1
        have ga : agk (V h) D kn allB = true := by unfold agk; rw [hk, hs]; rfl
        have ms := z_missed w2 (by rw [hV2]; exact g) f (by rw [hV2]; exact hc) (by rw [hV2]; exact anB_of g.2.2.2.1 f hc hs) (by rw [hV2]; exact b3) (by rw [hV2]; exact b5 hs)
        rw [hV2] at ms
        refine ⟨x2, pre _ ?_, fr_tr a2 (S1x_c b2)⟩
        rw [bnd a1', if_pos ga]
        simp only [show ¬ bB true = 0 by decide, decide_false, Bool.false_eq_true, ↓reduceIte, S1, R1, wS, wR]
        rw [bnd b1]
        simp only [show ¬ bB true = 0 by decide, not_false_eq_true, decide_true, ↓reduceIte, S2, R2, wS, wR]
        rw [bnd ms]
  obtain ⟨x2, hB, F2⟩ := hcl
  have hV2 := V_frc F2
  have i2 := I0_frc F2 i0
  obtain ⟨y1, s1, s2, s3⟩ := zm_answered i2 (w := j) (by omega) f (WM_c F2 m) h2.2
  rw [hV2] at s1 s3
  have iy := I0_frm s2 i2
  have hVy : V y1 = V h := (V_frm s2).trans hV2
  obtain ⟨vS, vR, -, -⟩ := i2.1
  have Sy : gS y1 = gS x2 := fr_S s2
  have h1' : 0 ≤ (nI j).toInt ∧ (nI j).toInt ≤ (V x2 65 4).toInt - 1 := by rw [hV2]; exact h1
  have pre2 : ∀ r, (M_isAnswered 159 (nI j) kn x2).bind (fun r3 => if decide (r3.1 = 0) then
        (some ((-1), r3.2) )
      else
        (if (gS r3.2 159).1 = 11 then (M_missed 159 r3.2).bind (fun r4 => some (r4.1, r4.2) ) else none) ) = r → M_miss 159 (nI j) kn x2 = r := fun r hr => by
    rw [← hr, M_miss_eq]
    simp only [vS, ↓reduceIte]
    rw [bnd (zm_isWay i2.1 i2.2.2.1 i2.2.1 _), if_neg (by rw [decide_eq_true_eq, bI_0]; exact not_not_intro h1'), bnd (zm_isWeek _ _), if_neg (by rw [decide_eq_true_eq, bI_0]; exact not_not_intro h2)]
    simp only [vS, ↓reduceIte]
  cases q1 : agk (V h) D kn allB with
  | false =>
    rw [q1] at hB s1
    refine ⟨-1, x2, y1, ?_, pre2 _ ?_, F2, s2⟩
    · rw [hB, if_neg (by decide)]
    · rw [bnd s1]
      rfl
  | true =>
    rw [q1, if_pos rfl] at hB
    rw [q1] at s1
    refine ⟨_, x2, y1, hB, pre2 _ ?_, F2, s2⟩
    have q1' := q1
    unfold agk at q1'
    rw [Bool.and_eq_true] at q1'
    have hc := cko_ok.mp q1'.1
    have ms := zm_missed iy f (by rw [hVy]; exact hc) (by rw [hVy]; exact anB_of g.2.2.2.1 f hc q1'.2) (by rw [hVy]; exact s3 q1)
    rw [hVy] at ms
    rw [bnd s1]
    simp only [show ¬ bB true = 0 by decide, decide_false, Bool.false_eq_true, ↓reduceIte, Sy, vS]
    rw [bnd ms]
