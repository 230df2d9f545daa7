/-! fits: what is pure -/
def ckP (V : BV) (D : WD) (kn : Int32) (i : Nat) : Bool := kvB V kn i && (decide (V 72 (V 75 i).toInt.toNat = 2) && rdB D (V 77 i))
def ckL (V : BV) (D : WD) (kn : Int32) : List Nat := flF (ckP V D kn) (nM V) 0
def mX (V : BV) (i ax : Nat) : Int := if ax = 0 then (V 78 i).toInt else (V 79 i).toInt
def ckA (V : BV) (D : WD) (kn : Int32) (t : Nat) : Int := sg (fun i => gi V t i 0 * mX V i 0 + gi V t i 1 * mX V i 1) (ckL V D kn)
def ckB (V : BV) (D : WD) (kn : Int32) (t : Nat) : Int := sg (fun i => gi V t i 0 * gi V t i 0 + gi V t i 1 * gi V t i 1) (ckL V D kn)
def nmZ (V : BV) (D : WD) (kn : Int32) (t : Nat) : Int := if D.1 t = 3 then (1000 * ckA V D kn t) / ckB V D kn t else (D.2.1 t).toInt
def ckOk (V : BV) (D : WD) (kn : Int32) : Prop := ∀ t, t < 6 → D.1 t = 3 → 0 < ckB V D kn t
theorem mX_bd {V : BV} (g : GI V) {i : Nat} (hi : i < nM V) (ax : Nat) : -299 ≤ mX V i ax ∧ mX V i ax ≤ 299 := by
  have := g.1 i hi
  unfold mX
  split <;> omega
theorem gm_bd {g m : Int} (h : -299 ≤ m ∧ m ≤ 299) : -(299 * (g * g)) ≤ g * m ∧ g * m ≤ 299 * (g * g) := by
  have hg : (if 0 ≤ g then g else -g) ≤ g * g := by
    split
    · rename_i h0
      by_cases h1 : g = 0
      · subst h1; decide
      · have := Int.mul_le_mul_of_nonneg_left (show (1 : Int) ≤ g by omega) h0
        omega
    · have := Int.mul_le_mul_of_nonneg_left (show (1 : Int) ≤ -g by omega) (show 0 ≤ -g by omega)
      have e : -g * -g = g * g := by grind
      omega
  split at hg
  · rename_i h0
    have a := Int.mul_le_mul_of_nonneg_left h.1 h0
    have b := Int.mul_le_mul_of_nonneg_left h.2 h0
    omega
  · have a := Int.mul_le_mul_of_nonneg_left h.1 (show 0 ≤ -g by omega)
    have b := Int.mul_le_mul_of_nonneg_left h.2 (show 0 ≤ -g by omega)
    have e1 : -g * m = -(g * m) := Int.neg_mul g m
    omega
theorem ckL_lt {V : BV} {D : WD} {kn : Int32} {i : Nat} (h : i ∈ ckL V D kn) : i < nM V := by
  have := (flF_mem (nM V) 0).mp h
  omega
theorem sg_neg {α : Type} (F : α → Int) : ∀ (l : List α), sg (fun x => - F x) l = - sg F l
  | [] => rfl
  | x :: l => by rw [sg_cons, sg_cons, sg_neg F l]; omega
theorem sg_mul {α : Type} (c : Int) (F : α → Int) : ∀ (l : List α), sg (fun x => c * F x) l = c * sg F l
  | [] => by rw [sg_nil, sg_nil, Int.mul_zero]
  | x :: l => by rw [sg_cons, sg_cons, sg_mul c F l, Int.mul_add]
theorem ck_bd {V : BV} (g : GI V) (D : WD) (kn : Int32) (t : Nat) : -(299 * ckB V D kn t) ≤ ckA V D kn t ∧ ckA V D kn t ≤ 299 * ckB V D kn t := by
  have k : ∀ i, i ∈ ckL V D kn → _ := fun i hi => And.intro (gm_bd (g := gi V t i 0) (mX_bd g (ckL_lt hi) 0)) (gm_bd (g := gi V t i 1) (mX_bd g (ckL_lt hi) 1))
  have h1 : ckA V D kn t ≤ sg (fun i => 299 * (gi V t i 0 * gi V t i 0 + gi V t i 1 * gi V t i 1)) (ckL V D kn) := sg_le fun i hi => by have := k i hi; omega
  have h2 : sg (fun i => -(299 * (gi V t i 0 * gi V t i 0 + gi V t i 1 * gi V t i 1))) (ckL V D kn) ≤ ckA V D kn t := sg_le fun i hi => by have := k i hi; omega
  rw [sg_neg, sg_mul] at h2
  rw [sg_mul] at h1
  unfold ckB
  omega
theorem nm_bd {V : BV} (g : GI V) {D : WD} (f : WF D) {kn : Int32} (hc : ckOk V D kn) {t : Nat} (ht : t < 6) : -299000 ≤ nmZ V D kn t ∧ nmZ V D kn t ≤ 299000 := by
  unfold nmZ
  by_cases h : D.1 t = 3
  · rw [if_pos h]
    have hp := hc t ht h
    have hb := ck_bd g D kn t
    constructor
    · refine Int.le_ediv_of_mul_le hp ?_
      omega
    · refine Int.ediv_le_of_le_mul hp ?_
      omega
  · rw [if_neg h]
    have := (f.1 t ht).2.1
    omega
theorem nm_fit {V : BV} {D : WD} (f : WF D) (kn : Int32) {t : Nat} (ht : t < 6) (h : D.1 t = 1) : nmZ V D kn t = 0 := by
  unfold nmZ
  rw [if_neg (by rw [h]; decide), (f.1 t ht).2.2 (by rw [h]; decide)]
  rfl
theorem nm_un {V : BV} {D : WD} (f : WF D) (kn : Int32) {t : Nat} (ht : t < 6) (h2 : ¬ D.1 t = 2) (h3 : ¬ D.1 t = 3) : nmZ V D kn t = 0 := by
  unfold nmZ
  rw [if_neg h3, (f.1 t ht).2.2 h2]
  rfl
/-- what held and checked terms give -/
def stT (V : BV) (D : WD) (kn : Int32) (i ax t : Nat) : Int := (nmZ V D kn t * gi V t i ax).tdiv 1000
def stZ (V : BV) (D : WD) (kn : Int32) (i ax : Nat) : Int := zN (stT V D kn i ax) 6
def gO (D : WD) (t : Nat) : Int := if D.1 t = 1 then 0 else gMx t
theorem gi_bx {V : BV} (g : GV V) {t : Nat} (ht : t < 6) {i : Nat} (hi : i < nM V) (ax : Nat) : -gMx t ≤ gi V t i ax ∧ gi V t i ax ≤ gMx t := by
  obtain ⟨a, b, -⟩ := gi_bd g.1 g.2.1 g.2.2.2.1 ht hi
  have h0 := gMx_81 t
  by_cases h : ax = 0
  · rw [h]; exact a
  · have e : gi V t i ax = gi V t i 1 ∨ gi V t i ax = 0 := by
      unfold gi gz
      simp only [h, if_false, Nat.one_ne_zero, true_or]
    rcases e with e | e
    · rw [e]; exact b
    · rw [e]; omega
theorem stT_bd {V : BV} (g : GV V) {D : WD} (f : WF D) {kn : Int32} (hc : ckOk V D kn) {t : Nat} (ht : t < 6) {i : Nat} (hi : i < nM V) (ax : Nat) : -(299 * gO D t) ≤ stT V D kn i ax t ∧ stT V D kn i ax t ≤ 299 * gO D t := by
  unfold stT gO
  by_cases h : D.1 t = 1
  · rw [if_pos h, nm_fit f kn ht h, Int.zero_mul, Int.zero_tdiv]; decide
  · rw [if_neg h]
    have h1 := mul_bd (nm_bd g.2.2.2.1 f hc ht) (gi_bx g ht hi ax)
    have h2 : ((nmZ V D kn t * gi V t i ax).tdiv 1000).natAbs = (nmZ V D kn t * gi V t i ax).natAbs / 1000 := Int.natAbs_tdiv (nmZ V D kn t * gi V t i ax) 1000
    have h0 := gMx_81 t
    generalize nmZ V D kn t * gi V t i ax = x at h1 h2 ⊢
    generalize x.tdiv 1000 = y at h2 ⊢
    omega
theorem st_bd {V : BV} (g : GV V) {D : WD} (f : WF D) {kn : Int32} (hc : ckOk V D kn) {i : Nat} (hi : i < nM V) (ax : Nat) : ∀ n, n ≤ 6 → -(299 * zN (gO D) n) ≤ zN (stT V D kn i ax) n ∧ zN (stT V D kn i ax) n ≤ 299 * zN (gO D) n
  | 0, _ => by rw [zN, zN]; decide
  | n + 1, h => by
    have a := st_bd g f hc hi ax n (by omega)
    have b := stT_bd g f hc (t := n) (by omega) hi ax
    rw [zN, zN]
    omega
/-! the fitted terms, up to three; how large they are -/
def FT (D : WD) : List Nat := flF (fun t => decide (D.1 t = 1)) 6 0
def fl6 (a b c d e f : Bool) : List Nat := (if a then [0] else []) ++ ((if b then [1] else []) ++ ((if c then [2] else []) ++ ((if d then [3] else []) ++ ((if e then [4] else []) ++ (if f then [5] else [])))))
theorem flF_6 (P : Nat → Bool) : flF P 6 0 = fl6 (P 0) (P 1) (P 2) (P 3) (P 4) (P 5) := by
  unfold fl6
  simp only [flF]
  cases P 0 <;> cases P 1 <;> cases P 2 <;> cases P 3 <;> cases P 4 <;> cases P 5 <;> rfl
def kj (l : List Nat) (j : Nat) : Int := match l[j]? with
  | some t => 100 * kMx t
  | none => 1
def gj (l : List Nat) (j : Nat) : Int := match l[j]? with
  | some t => gMx t
  | none => 0
def rho (l : List Nat) : Int := 498 + 299 * (141 - (gj l 0 + gj l 1 + gj l 2))
def mBig : Int := 1537228672809129301
def gq (q : Bool) (t : Nat) : Int := if q then 0 else gMx t
def ftC (l : List Nat) : Bool := decide (0 ≤ rho l ∧ rho l ≤ 50000) && (decide (((kj l 1 * kj l 2) * (kj l 1 * kj l 2)) * (kj l 0 * (200 * (rho l * rho l))) ≤ mBig * mBig) && (decide (((kj l 0 * kj l 2) * (kj l 0 * kj l 2)) * (kj l 1 * (200 * (rho l * rho l))) ≤ mBig * mBig) && (decide (((kj l 0 * kj l 1) * (kj l 0 * kj l 1)) * (kj l 2 * (200 * (rho l * rho l))) ≤ mBig * mBig) && (decide (kj l 0 * kj l 1 * kj l 2 ≤ 1701000000000000) && decide (1 ≤ kj l 0 ∧ 1 ≤ kj l 1 ∧ 1 ≤ kj l 2 ∧ kj l 0 ≤ 656100 ∧ kj l 1 ≤ 656100 ∧ kj l 2 ≤ 656100)))))
theorem ft_all (a b c d e f : Bool) : (fl6 a b c d e f).length ≤ 3 → ftC (fl6 a b c d e f) = true ∧ 498 + 299 * (0 + gq a 0 + gq b 1 + gq c 2 + gq d 3 + gq e 4 + gq f 5) = rho (fl6 a b c d e f) := by
  cases a <;> cases b <;> cases c <;> cases d <;> cases e <;> cases f <;> decide +kernel
theorem flF_cnt (P : Nat → Bool) : ∀ (k i : Nat), (flF P k i).length = cntB P k i
  | 0, _ => rfl
  | k + 1, i => by
    rw [flF, cntB, ← flF_cnt P k (i + 1)]
    cases P i with
    | true => rw [if_pos rfl, if_pos rfl, List.length_cons]; omega
    | false => rw [if_neg (by decide), if_neg (by decide)]; omega
theorem FT_3 {D : WD} (f : WF D) : (FT D).length ≤ 3 := by
  unfold FT
  rw [flF_cnt]
  exact f.2.2.2.2.2.2
theorem FT_ok {D : WD} (f : WF D) : ftC (FT D) = true ∧ 498 + 299 * zN (gO D) 6 = rho (FT D) := by
  have h := FT_3 f
  unfold FT at h ⊢
  rw [flF_6] at h ⊢
  have := ft_all _ _ _ _ _ _ h
  refine ⟨this.1, ?_⟩
  rw [← this.2]
  have e : ∀ t, gO D t = gq (decide (D.1 t = 1)) t := fun t => by
    unfold gO gq
    by_cases q : D.1 t = 1
    · rw [if_pos q, decide_eq_true q, if_pos rfl]
    · rw [if_neg q, decide_eq_false q, if_neg (by decide)]
  simp only [zN, e]
theorem FT_mem {D : WD} {j t : Nat} (h : (FT D)[j]? = some t) : t < 6 ∧ D.1 t = 1 := by
  have := (flF_mem 6 0).mp (List.mem_of_getElem? h)
  exact ⟨by omega, of_decide_eq_true this.2.2⟩
