/-! sums of a fit; its determinants and how large they are -/
def gF (V : BV) (ft : List Nat) (j i ax : Nat) : Int := match ft[j]? with
  | some t => gi V t i ax
  | none => 0
def rowv (V : BV) (ft : List Nat) (d : Nat → Nat → Int) (i k : Nat) : Int := if k = 12 then 1 else if k % 4 = 3 then gF V ft (k / 4) i 0 * d i 0 + gF V ft (k / 4) i 1 * d i 1 else if k / 4 ≤ k % 4 then gF V ft (k / 4) i 0 * gF V ft (k % 4) i 0 + gF V ft (k / 4) i 1 * gF V ft (k % 4) i 1 else 0
def sv (V : BV) (ft : List Nat) (d : Nat → Nat → Int) (L : List Nat) (k : Nat) : Int := sg (fun i => rowv V ft d i k) L
def pdS (S : Nat → Int) (n j k : Nat) : Int := if j < n then S k else 1
def detS (S : Nat → Int) (n : Nat) : Int := d3 (pdS S n 0 0) (S 1) (S 2) (pdS S n 1 5) (S 6) (pdS S n 2 10)
def nm0 (a b c d e f p q r : Int) : Int := (d * f - e * e) * p + (c * e - b * f) * q + (b * e - c * d) * r
def nm1 (a b c d e f p q r : Int) : Int := (c * e - b * f) * p + (a * f - c * c) * q + (b * c - a * e) * r
def nm2 (a b c d e f p q r : Int) : Int := (b * e - c * d) * p + (b * c - a * e) * q + (a * d - b * b) * r
def numS (S : Nat → Int) (n j : Nat) : Int := if j = 0 then nm0 (pdS S n 0 0) (S 1) (S 2) (pdS S n 1 5) (S 6) (pdS S n 2 10) (S 3) (S 7) (S 11) else if j = 1 then nm1 (pdS S n 0 0) (S 1) (S 2) (pdS S n 1 5) (S 6) (pdS S n 2 10) (S 3) (S 7) (S 11) else nm2 (pdS S n 0 0) (S 1) (S 2) (pdS S n 1 5) (S 6) (pdS S n 2 10) (S 3) (S 7) (S 11)
def ansS (S : Nat → Int) (n j : Nat) : Int := (1000 * numS S n j) / detS S n
def slOk (S : Nat → Int) (n : Nat) : Prop := ¬ S 12 = 0 ∧ ∀ j, j < n → 0 < detS S n ∧ -99999999 ≤ ansS S n j ∧ ansS S n j ≤ 99999999
theorem gF_no {V : BV} {ft : List Nat} {j : Nat} (h : ft.length ≤ j) (i ax : Nat) : gF V ft j i ax = 0 := by
  unfold gF
  rw [List.getElem?_eq_none h]
theorem sg_0 {α : Type} {F : α → Int} : ∀ {l : List α}, (∀ x ∈ l, F x = 0) → sg F l = 0
  | [], _ => rfl
  | x :: l, h => by rw [sg_cons, h x List.mem_cons_self, sg_0 fun y hy => h y (List.mem_cons_of_mem _ hy)]; rfl
def rwL : List Nat → List (Nat × Nat)
  | [] => []
  | i :: l => (i, 0) :: (i, 1) :: rwL l
theorem sg_rw (F : Nat × Nat → Int) : ∀ (l : List Nat), sg F (rwL l) = sg (fun i => F (i, 0) + F (i, 1)) l
  | [] => rfl
  | i :: l => by rw [rwL, sg_cons, sg_cons, sg_cons, sg_rw F l]; omega
def pads (n : Nat) : List (Nat × Nat) := (if n ≤ 0 then [(0, 2)] else []) ++ ((if n ≤ 1 then [(0, 3)] else []) ++ (if n ≤ 2 then [(0, 4)] else []))
def gE (V : BV) (ft : List Nat) (j : Nat) (x : Nat × Nat) : Int := if x.2 < 2 then gF V ft j x.1 x.2 else if x.2 = 2 + j then 1 else 0
def dE (d : Nat → Nat → Int) (x : Nat × Nat) : Int := if x.2 < 2 then d x.1 x.2 else 0
theorem n_cs {ft : List Nat} (h3 : ft.length ≤ 3) : ft.length = 0 ∨ ft.length = 1 ∨ ft.length = 2 ∨ ft.length = 3 := by omega
section
theorem e_dg {V : BV} {ft : List Nat} (h3 : ft.length ≤ 3) (d : Nat → Nat → Int) (L : List Nat) {j : Nat} (hj : j < 3) : sg (fun x => gE V ft j x * gE V ft j x) (rwL L ++ pads ft.length) = pdS (sv V ft d L) ft.length j (5 * j) := by
  rw [sg_app, sg_rw]
  have e1 : sg (fun i => gE V ft j (i, 0) * gE V ft j (i, 0) + gE V ft j (i, 1) * gE V ft j (i, 1)) L = sv V ft d L (5 * j) := by
    match j, hj with
    | 0, _ => rfl
    | 1, _ => rfl
    | 2, _ => rfl
  rw [e1]
  unfold pdS
  by_cases q : j < ft.length
  · rw [if_pos q]
    have : sg (fun x => gE V ft j x * gE V ft j x) (pads ft.length) = 0 := by
      match j, hj with
      | 0, _ => rcases n_cs h3 with z | z | z | z <;> rw [z] at q ⊢ <;> first | omega | rfl
      | 1, _ => rcases n_cs h3 with z | z | z | z <;> rw [z] at q ⊢ <;> first | omega | rfl
      | 2, _ => rcases n_cs h3 with z | z | z | z <;> rw [z] at q ⊢ <;> first | omega | rfl
    rw [this, Int.add_zero]
  · rw [if_neg q]
    have e2 : sv V ft d L (5 * j) = 0 := by
      rw [← e1]
      refine sg_0 fun i _ => ?_
      show gF V ft j i 0 * gF V ft j i 0 + gF V ft j i 1 * gF V ft j i 1 = 0
      rw [gF_no (by omega), gF_no (by omega)]
      rfl
    rw [e2, Int.zero_add]
    match j, hj with
    | 0, _ => rcases n_cs h3 with z | z | z | z <;> rw [z] at q ⊢ <;> first | omega | rfl
    | 1, _ => rcases n_cs h3 with z | z | z | z <;> rw [z] at q ⊢ <;> first | omega | rfl
    | 2, _ => rcases n_cs h3 with z | z | z | z <;> rw [z] at q ⊢ <;> first | omega | rfl
theorem e_of {V : BV} {ft : List Nat} (h3 : ft.length ≤ 3) (d : Nat → Nat → Int) (L : List Nat) {j k : Nat} (hj : j < k) (hk : k < 3) : sg (fun x => gE V ft j x * gE V ft k x) (rwL L ++ pads ft.length) = sv V ft d L (4 * j + k) := by
  rw [sg_app, sg_rw]
  have hc : (j = 0 ∧ k = 1) ∨ (j = 0 ∧ k = 2) ∨ (j = 1 ∧ k = 2) := by omega
  rcases hc with ⟨rfl, rfl⟩ | ⟨rfl, rfl⟩ | ⟨rfl, rfl⟩
  ·
    have : sg (fun x => gE V ft 0 x * gE V ft 1 x) (pads ft.length) = 0 := by rcases n_cs h3 with z | z | z | z <;> rw [z] <;> rfl
    rw [this, Int.add_zero]
    rfl
  ·
    have : sg (fun x => gE V ft 0 x * gE V ft 2 x) (pads ft.length) = 0 := by rcases n_cs h3 with z | z | z | z <;> rw [z] <;> rfl
    rw [this, Int.add_zero]
    rfl
  ·
    have : sg (fun x => gE V ft 1 x * gE V ft 2 x) (pads ft.length) = 0 := by rcases n_cs h3 with z | z | z | z <;> rw [z] <;> rfl
    rw [this, Int.add_zero]
    rfl
theorem e_ri {V : BV} {ft : List Nat} (h3 : ft.length ≤ 3) (d : Nat → Nat → Int) (L : List Nat) {j : Nat} (hj : j < 3) : sg (fun x => gE V ft j x * dE d x) (rwL L ++ pads ft.length) = sv V ft d L (4 * j + 3) := by
  rw [sg_app, sg_rw]
  have : sg (fun x => gE V ft j x * dE d x) (pads ft.length) = 0 := sg_0 fun x hx => by
    have : dE d x = 0 := by
      unfold dE
      rw [if_neg]
      unfold pads at hx
      rcases n_cs h3 with z | z | z | z <;> rw [z] at hx <;> simp at hx
      · rcases hx with rfl | rfl | rfl <;> decide
      · rcases hx with rfl | rfl <;> decide
      · rw [hx]; decide
    rw [this, Int.mul_zero]
  rw [this, Int.add_zero]
  match j, hj with
  | 0, _ => rfl
  | 1, _ => rfl
  | 2, _ => rfl
theorem e_rr {V : BV} {ft : List Nat} (h3 : ft.length ≤ 3) (d : Nat → Nat → Int) (L : List Nat) : sg (fun x => dE d x * dE d x) (rwL L ++ pads ft.length) = sg (fun i => d i 0 * d i 0 + d i 1 * d i 1) L := by
  rw [sg_app, sg_rw]
  have : sg (fun x => dE d x * dE d x) (pads ft.length) = 0 := by rcases n_cs h3 with z | z | z | z <;> rw [z] <;> rfl
  rw [this, Int.add_zero]
  rfl
end
theorem prodK {a d f R k0 k1 k2 k : Int} (ha : 0 ≤ a ∧ a ≤ k0) (hd : 0 ≤ d ∧ d ≤ k1) (hf : 0 ≤ f ∧ f ≤ k2) (hR : 0 ≤ R ∧ R ≤ k) : (d * f) * (d * f) * (a * R) ≤ (k1 * k2) * (k1 * k2) * (k0 * k) := by
  have p1 : d * f ≤ k1 * k2 := Int.mul_le_mul hd.2 hf.2 hf.1 (by omega)
  have p0 : 0 ≤ d * f := Int.mul_nonneg hd.1 hf.1
  have p2 : a * R ≤ k0 * k := Int.mul_le_mul ha.2 hR.2 hR.1 (by omega)
  have p3 : 0 ≤ a * R := Int.mul_nonneg ha.1 hR.1
  exact Int.mul_le_mul (Int.mul_le_mul p1 p1 p0 (by omega)) p2 p3 (Int.mul_nonneg (by omega) (by omega))
theorem d3_le {a b c d e f : Int} (ha : 0 ≤ a) (h : 0 ≤ q3 a b c d e f 0 c (-b)) : d3 a b c d e f ≤ a * d * f := by
  have h1 : q3 a b c d e f 0 c (-b) = d * (c * c) + f * (b * b) - 2 * (e * b * c) := by unfold q3; grind
  have h2 : d3 a b c d e f = a * d * f - a * (e * e) - (d * (c * c) + f * (b * b) - 2 * (e * b * c)) := by unfold d3; grind
  have h3 := Int.mul_nonneg ha (sq_nn e)
  omega
def svB (S : Nat → Int) (n : Nat) : Prop := (0 ≤ detS S n ∧ detS S n ≤ 1701000000000000) ∧ (∀ j, -9223372036854775806 ≤ numS S n j ∧ numS S n j ≤ 9223372036854775806) ∧ ((-656100 ≤ S 0 ∧ S 0 ≤ 656100) ∧ (-656100 ≤ S 1 ∧ S 1 ≤ 656100) ∧ (-656100 ≤ S 2 ∧ S 2 ≤ 656100) ∧ (-656100 ≤ S 5 ∧ S 5 ≤ 656100) ∧ (-656100 ≤ S 6 ∧ S 6 ≤ 656100) ∧ (-656100 ≤ S 10 ∧ S 10 ≤ 656100)) ∧ ((-1000000000 ≤ S 3 ∧ S 3 ≤ 1000000000) ∧ (-1000000000 ≤ S 7 ∧ S 7 ≤ 1000000000) ∧ (-1000000000 ≤ S 11 ∧ S 11 ≤ 1000000000)) ∧ (0 ≤ S 12 ∧ S 12 ≤ 100)
theorem pd_bd {V : BV} (g : GV V) {D : WD} {L : List Nat} (hL : ∀ i ∈ L, i < nM V) (hn : L.length ≤ 100) (d : Nat → Nat → Int) {j : Nat} (hj : j < 3) : 0 ≤ pdS (sv V (FT D) d L) (FT D).length j (5 * j) ∧ pdS (sv V (FT D) d L) (FT D).length j (5 * j) ≤ kj (FT D) j ∧ 0 ≤ sv V (FT D) d L (5 * j) ∧ sv V (FT D) d L (5 * j) ≤ kj (FT D) j := by
  have e1 : sv V (FT D) d L (5 * j) = sg (fun i => gF V (FT D) j i 0 * gF V (FT D) j i 0 + gF V (FT D) j i 1 * gF V (FT D) j i 1) L := by
    match j, hj with
    | 0, _ => rfl
    | 1, _ => rfl
    | 2, _ => rfl
  have n0 : 0 ≤ sv V (FT D) d L (5 * j) := by
    rw [e1]
    have : sg (fun _ => (0 : Int)) L ≤ sg (fun i => gF V (FT D) j i 0 * gF V (FT D) j i 0 + gF V (FT D) j i 1 * gF V (FT D) j i 1) L := sg_le fun i _ => Int.add_nonneg (sq_nn _) (sq_nn _)
    rw [sg_const, Int.zero_mul] at this
    exact this
  unfold pdS kj
  by_cases q : j < (FT D).length
  · have hg := List.getElem?_eq_getElem q
    obtain ⟨ht6, -⟩ := FT_mem hg
    rw [if_pos q, hg]
    have : sv V (FT D) d L (5 * j) ≤ 100 * kMx ((FT D)[j]) := by
      rw [e1]
      have h1 : sg (fun i => gF V (FT D) j i 0 * gF V (FT D) j i 0 + gF V (FT D) j i 1 * gF V (FT D) j i 1) L ≤ sg (fun _ => kMx ((FT D)[j])) L := sg_le fun i hi => by
        have := (gi_bd g.1 g.2.1 g.2.2.2.1 ht6 (hL i hi)).2.2
        unfold gF
        rw [hg]
        exact this
      rw [sg_const] at h1
      have k0 : 0 ≤ kMx ((FT D)[j]) := by unfold kMx; repeat' split
                                          all_goals decide
      have h2 := Int.mul_le_mul_of_nonneg_left (show (L.length : Int) ≤ 100 by omega) k0
      show _ ≤ 100 * kMx ((FT D)[j])
      omega
    exact ⟨n0, this, n0, this⟩
  · rw [if_neg q, List.getElem?_eq_none (by omega)]
    have e2 : sv V (FT D) d L (5 * j) = 0 := by
      rw [e1]
      refine sg_0 fun i _ => ?_
      rw [gF_no (by omega), gF_no (by omega)]
      rfl
    rw [e2]
    exact ⟨by decide, Int.le_refl _, by decide, by decide⟩
theorem sv_bd {V : BV} (g : GV V) {D : WD} (f : WF D) {L : List Nat} (hL : ∀ i ∈ L, i < nM V) (hn : L.length ≤ 100) {d : Nat → Nat → Int} (hd : ∀ i ∈ L, ∀ ax, ax < 2 → -rho (FT D) ≤ d i ax ∧ d i ax ≤ rho (FT D)) : svB (sv V (FT D) d L) (FT D).length := by
  have h3 := FT_3 f
  have hc := (FT_ok f).1
  unfold ftC at hc
  simp only [Bool.and_eq_true, decide_eq_true_eq] at hc
  obtain ⟨c1, c2, c3, c4, c5, c6⟩ := hc
  obtain ⟨a1, a2, a3, a4⟩ := pd_bd g (D := D) hL hn d (j := 0) (by omega)
  obtain ⟨d1, d2, d3', d4⟩ := pd_bd g (D := D) hL hn d (j := 1) (by omega)
  obtain ⟨f1, f2, f3, f4⟩ := pd_bd g (D := D) hL hn d (j := 2) (by omega)
  have E0 := e_dg (V := V) h3 d L (j := 0) (by omega)
  have E5 := e_dg (V := V) h3 d L (j := 1) (by omega)
  have E10 := e_dg (V := V) h3 d L (j := 2) (by omega)
  have E1 := e_of (V := V) h3 d L (j := 0) (k := 1) (by omega) (by omega)
  have E2 := e_of (V := V) h3 d L (j := 0) (k := 2) (by omega) (by omega)
  have E6 := e_of (V := V) h3 d L (j := 1) (k := 2) (by omega) (by omega)
  have R0 := e_ri (V := V) h3 d L (j := 0) (by omega)
  have R1 := e_ri (V := V) h3 d L (j := 1) (by omega)
  have R2 := e_ri (V := V) h3 d L (j := 2) (by omega)
  have RR := e_rr (V := V) h3 d L
  have hRR : 0 ≤ sg (fun i => d i 0 * d i 0 + d i 1 * d i 1) L ∧ sg (fun i => d i 0 * d i 0 + d i 1 * d i 1) L ≤ 200 * (rho (FT D) * rho (FT D)) := by
    constructor
    · have : sg (fun _ => (0 : Int)) L ≤ sg (fun i => d i 0 * d i 0 + d i 1 * d i 1) L := sg_le fun i _ => Int.add_nonneg (sq_nn _) (sq_nn _)
      rw [sg_const, Int.zero_mul] at this
      exact this
    · have h1 : sg (fun i => d i 0 * d i 0 + d i 1 * d i 1) L ≤ sg (fun _ => 2 * (rho (FT D) * rho (FT D))) L := sg_le fun i hi => by
        have x1 := sq_bd (hd i hi 0 (by omega))
        have x2 := sq_bd (hd i hi 1 (by omega))
        omega
      rw [sg_const] at h1
      have h2 := Int.mul_le_mul_of_nonneg_left (show (L.length : Int) ≤ 100 by omega) (show 0 ≤ 2 * (rho (FT D) * rho (FT D)) by have := sq_nn (rho (FT D)); omega)
      omega
  obtain ⟨g1, g2, g3⟩ := gram (gE V (FT D) 0) (gE V (FT D) 1) (gE V (FT D) 2) (rwL L ++ pads (FT D).length)
  have B1 := sg_cs (gE V (FT D) 0) (gE V (FT D) 1) (rwL L ++ pads (FT D).length)
  have B2 := sg_cs (gE V (FT D) 0) (gE V (FT D) 2) (rwL L ++ pads (FT D).length)
  have B3 := sg_cs (gE V (FT D) 1) (gE V (FT D) 2) (rwL L ++ pads (FT D).length)
  have P1 := sg_cs (gE V (FT D) 0) (dE d) (rwL L ++ pads (FT D).length)
  have P2 := sg_cs (gE V (FT D) 1) (dE d) (rwL L ++ pads (FT D).length)
  have P3 := sg_cs (gE V (FT D) 2) (dE d) (rwL L ++ pads (FT D).length)
  rw [E0, E1, E2, E5, E6, E10] at g1 g3
  rw [E0, E1, E5] at B1
  rw [E0, E2, E10] at B2
  rw [E5, E6, E10] at B3
  rw [E0, R0, RR] at P1
  rw [E5, R1, RR] at P2
  rw [E10, R2, RR] at P3
  unfold svB detS numS
  have s12 : sv V (FT D) d L 12 = (L.length : Int) := by
    show sg (fun _ => (1 : Int)) L = _
    rw [sg_const]; omega
  rw [s12]
  generalize hS : sv V (FT D) d L = S at *
  generalize (FT D).length = n at *
  simp only [Nat.mul_zero, Nat.mul_one, Nat.zero_add, Nat.reduceMul, Nat.reduceAdd] at *
  generalize kj (FT D) 0 = k0 at *
  generalize kj (FT D) 1 = k1 at *
  generalize kj (FT D) 2 = k2 at *
  generalize rho (FT D) = ro at *
  generalize pdS S n 0 0 = a at *
  generalize pdS S n 1 5 = dd at *
  generalize pdS S n 2 10 = ff at *
  generalize sg (fun i => d i 0 * d i 0 + d i 1 * d i 1) L = R at *
  have hM : (0 : Int) ≤ mBig := by decide
  have n0 := mono6 a1 d1 f1 hRR.1 hM B1 B2 B3 P1 P2 P3 (Int.le_trans (prodK ⟨a1, a2⟩ ⟨d1, d2⟩ ⟨f1, f2⟩ hRR) c2)
  have n1 := mono6 (a := dd) (b := S 1) (c := S 6) (d := a) (e := S 2) (f := ff) (p := S 7) (q := S 3) (r := S 11) d1 a1 f1 hRR.1 hM (by rw [Int.mul_comm dd a]; exact B1) B3 B2 P2 P1 P3 (Int.le_trans (prodK ⟨d1, d2⟩ ⟨a1, a2⟩ ⟨f1, f2⟩ hRR) c3)
  have n2 := mono6 (a := ff) (b := S 6) (c := S 2) (d := dd) (e := S 1) (f := a) (p := S 11) (q := S 7) (r := S 3) f1 d1 a1 hRR.1 hM (by rw [Int.mul_comm ff dd]; exact B3) (by rw [Int.mul_comm ff a]; exact B2) (by rw [Int.mul_comm dd a]; exact B1) P3 P2 P1 (Int.le_trans (prodK ⟨f1, f2⟩ ⟨d1, d2⟩ ⟨a1, a2⟩ hRR) (by rw [Int.mul_comm k1 k0]; exact c4))
  have m6 : 6 * mBig = 9223372036854775806 := by decide
  rw [m6] at n0 n1 n2
  have q1 : nm1 a (S 1) (S 2) dd (S 6) ff (S 3) (S 7) (S 11) = (a * ff - S 2 * S 2) * S 7 + (S 6 * S 2 - S 1 * ff) * S 3 + (S 1 * S 2 - S 6 * a) * S 11 := by unfold nm1; grind
  have q2 : nm2 a (S 1) (S 2) dd (S 6) ff (S 3) (S 7) (S 11) = (dd * a - S 1 * S 1) * S 11 + (S 2 * S 1 - S 6 * a) * S 7 + (S 6 * S 1 - S 2 * dd) * S 3 := by unfold nm2; grind
  have dl := d3_le a1 (g1 0 (S 2) (-(S 1)))
  have du : a * dd * ff ≤ k0 * k1 * k2 := Int.mul_le_mul (Int.mul_le_mul a2 d2 d1 (by omega)) f2 f1 (Int.mul_nonneg (by omega) (by omega))
  have kk : (656100 : Int) * 656100 = 430467210000 := by decide
  have ub : ∀ {x y z : Int}, x * x ≤ y * z → 0 ≤ y → y ≤ 656100 → 0 ≤ z → z ≤ 656100 → -656100 ≤ x ∧ x ≤ 656100 := fun h h1 h2 h3 h4 => abs_of_sq (by decide) (Int.le_trans h (Int.mul_le_mul h2 h4 h3 (by decide)))
  have ro2 : ro * ro ≤ 2500000000 := Int.mul_le_mul c1.2 c1.2 c1.1 (by decide)
  have up : ∀ {x y : Int}, x * x ≤ y * R → 0 ≤ y → y ≤ 656100 → -1000000000 ≤ x ∧ x ≤ 1000000000 := fun {x y} h h1 h2 => abs_of_sq (by decide) (Int.le_trans h (Int.le_trans (Int.mul_le_mul h2 (show R ≤ 500000000000 by omega) hRR.1 (by decide)) (by decide)))
  refine ⟨⟨g3, by omega⟩, fun j => ?_, ⟨⟨by omega, by omega⟩, ub B1 a1 (by omega) d1 (by omega), ub B2 a1 (by omega) f1 (by omega), ⟨by omega, by omega⟩, ub B3 d1 (by omega) f1 (by omega), ⟨by omega, by omega⟩⟩, ⟨up P1 a1 (by omega), up P2 d1 (by omega), up P3 f1 (by omega)⟩, by omega, by omega⟩
  split
  · exact n0
  · split
    · rw [q1]; exact n1
    · rw [q2]; exact n2
