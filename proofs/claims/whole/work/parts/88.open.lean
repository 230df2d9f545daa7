/-! open, and what is solved from it -/
def ixL (t : Nat) : List Nat → Nat
  | [] => 0
  | x :: l => if x = t then 0 else ixL t l + 1
theorem ixL_get {t : Nat} : ∀ {l : List Nat}, t ∈ l → l[ixL t l]? = some t
  | [], h => by cases h
  | x :: l, h => by
    rw [ixL]
    by_cases q : x = t
    · rw [if_pos q, q]; rfl
    · rw [if_neg q]
      have h2 : t ∈ l := by
        rcases List.mem_cons.mp h with z | z
        · exact absurd z.symm q
        · exact z
      show l[ixL t l]? = some t
      exact ixL_get h2
theorem sg_fil {α : Type} (F : α → Int) (P : α → Bool) : ∀ (l : List α), sg F (l.filter P) = sg (fun x => if P x then F x else 0) l
  | [] => rfl
  | x :: l => by
    by_cases q : P x = true
    · rw [List.filter_cons_of_pos q, sg_cons, sg_cons, sg_fil F P l, if_pos q]
    · rw [List.filter_cons_of_neg q, sg_cons, sg_fil F P l, if_neg q, Int.zero_add]
theorem sg_add {α : Type} (F G : α → Int) : ∀ (l : List α), sg (fun x => F x + G x) l = sg F l + sg G l
  | [] => rfl
  | x :: l => by rw [sg_cons, sg_cons, sg_cons, sg_add F G l]; omega
theorem sg_cg {α : Type} {F G : α → Int} : ∀ {l : List α}, (∀ x ∈ l, F x = G x) → sg F l = sg G l
  | [], _ => rfl
  | x :: l, h => by rw [sg_cons, sg_cons, h x List.mem_cons_self, sg_cg fun y hy => h y (List.mem_cons_of_mem _ hy)]
theorem flF_fil {P Q : Nat → Bool} : ∀ (k i : Nat), (flF P k i).filter Q = flF (fun i => P i && Q i) k i
  | 0, _ => rfl
  | k + 1, i => by
    rw [flF, flF]
    cases hp : P i with
    | false =>
      rw [if_neg (by decide), Bool.false_and, if_neg (by decide)]
      exact flF_fil k (i + 1)
    | true =>
      rw [if_pos rfl, Bool.true_and]
      cases hq : Q i with
      | true => rw [List.filter_cons_of_pos hq, if_pos rfl, flF_fil k (i + 1)]
      | false => rw [List.filter_cons_of_neg (by rw [hq]; decide), if_neg (by decide), flF_fil k (i + 1)]
/-- the sums over what is taken and has P -/
def SP (V : BV) (D : WD) (kn : Int32) (P : Nat → Bool) (k : Nat) : Int := sv V (FT D) (dZ V D kn) ((tkL V D kn).filter P) k
theorem tkL_lt {V : BV} {D : WD} {kn : Int32} {i : Nat} (h : i ∈ tkL V D kn) : i < nM V := by
  have := (flF_mem (nM V) 0).mp h
  omega
theorem SP_bd {V : BV} (g : GV V) {D : WD} (f : WF D) {kn : Int32} (hc : ckOk V D kn) (P : Nat → Bool) : svB (SP V D kn P) (FT D).length := by
  have hcn := cnts g.1
  have hl := flF_len (P := tkB V D kn) (nM V) 0
  have hl2 := List.length_filter_le P (tkL V D kn)
  refine sv_bd g f (fun i hi => tkL_lt (List.mem_filter.mp hi).1) (by unfold tkL at hl2 ⊢; omega) (fun i hi ax _ => (dZ_bd g f hc (tkL_lt (List.mem_filter.mp hi).1) ax).1)
/-- the answers: fitted ones by the sums, the others as held and checked -/
def anZ (V : BV) (D : WD) (kn : Int32) (S : Nat → Int) (t : Nat) : Int := if D.1 t = 1 then ansS S (FT D).length (ixL t (FT D)) else nmZ V D kn t
def OP (h : ax_H) (V0 : BV) (D : WD) (kn : Int32) : Prop := lsP h (tkL V0 D kn) ∧ ftP h (FT D) ∧ RW h V0 D kn (tkL V0 D kn) ∧ SUM h (fun g => SP V0 D kn (grp V0 g)) ∧ ∀ t, t < 6 → ¬ D.1 t = 1 → gI h 101 t = Int32.ofInt (nmZ V0 D kn t)
theorem OP_fr {S : Nat → Nat → Bool} {h h' : ax_H} (q : fr S h h') {V0 : BV} {D : WD} (f : WF D) {kn : Int32} (z : ∀ a k, (a = 99 ∧ (k = 0 ∨ k = 4)) ∨ a = 100 ∨ (102 ≤ a ∧ a ≤ 105) ∨ (108 ≤ a ∧ a ≤ 154) → S a k = false) (zn : ∀ t, t < 6 → ¬ D.1 t = 1 → gI h' 101 t = gI h 101 t) (o : OP h V0 D kn) : OP h' V0 D kn := by
  obtain ⟨o1, o2, o3, o4, o5⟩ := o
  refine ⟨⟨(fr_I q (z 99 0 (by omega))).trans o1.1, fun k x y => (fr_I q (z 100 k (by omega))).trans (o1.2 k x y)⟩, ftP_fr q (z 99 4 (by omega)) (fun k => z 102 k (by omega)) o2, RW_fr q f (fun a j y1 y2 => z a j (by omega)) o3, fun g hg k hk => (fr_L q (z (108 + g) k (by omega))).trans (o4 g hg k hk), fun t ht y => (zn t ht y).trans (o5 t ht y)⟩
theorem OP_AK {h h' : ax_H} {V0 : BV} {D : WD} (f : WF D) {kn : Int32} (a : AK h h' D) (o : OP h V0 D kn) : OP h' V0 D kn := OP_fr a.1 f (fun a k z => by simp only [S101, decide_eq_false_iff_not]; omega) a.2 o
theorem z_open {h : ax_H} (w : ok h) (g : GV (V h)) {a : Nat} {D : WD} (f : WF D) (c : WC h a D) (kn : Int32) : ∃ h', Ft_open 99 65 a kn h = some (bB (cko (V h) D kn 6 0), h') ∧ fr Sc h h' ∧ (cko (V h) D kn 6 0 = true → OP h' (V h) D kn) := by
  obtain ⟨h1, a1, a2, a3⟩ := z_take w g c f kn
  have w1 := ok_fr a2 w
  have hV1 := V_frc (Stk_c a2)
  have c1 := WC_fr a2 (fun a k z => Stk_hi z) c
  obtain ⟨h2, b1, b2, b3⟩ := z_settle w1 (by rw [hV1]; exact g) (Or.inl ⟨rfl, rfl⟩) f c1 kn
  rw [hV1] at b1 b3
  have w2 := ok_fr b2 w1
  have hV2 : V h2 = V h := (V_frc (Sse_c b2)).trans hV1
  have F2 : fr Sc h h2 := fr_tr (Stk_c a2) (Sse_c b2)
  have S1 : gS h1 = gS h := fr_S a2
  have S2 : gS h2 = gS h := fr_S F2
  have R2 : gR h2 = gR h := fr_R F2
  have w0 := w
  obtain ⟨wS, wR, wG, wN⟩ := w
  cases hk : cko (V h) D kn 6 0 with
  | false =>
    rw [hk] at b1
    refine ⟨h2, ?_, F2, fun z => by cases z⟩
    rw [Ft_open_eq]
    simp only [gI_pI, gI_pL, gI_pR, gL_pI, gL_pL, gL_pR, gR_pI, gR_pL, gR_pR, gS_pI, gS_pL, gS_pR, ↓reduceIte, Nat.reduceEqDiff, decide_eq_true_eq, Option.bind_some, false_and, and_false, true_and, and_true, and_self, Nat.reduceAdd, not_false_eq_true, not_true_eq_false, wS, wR, inI, ite_self, Classical.not_not, ↓bnd a1, S1, ↓bnd b1]
    rfl
  | true =>
    rw [hk] at b1
    have hc := cko_ok.mp hk
    obtain ⟨s1, s2⟩ := b3 hk
    have hl2 : lsP h2 (tkL (V h) D kn) := ⟨(fr_I b2 rfl).trans a3.1, fun k x z => (fr_I b2 rfl).trans (a3.2 k x z)⟩
    have hcn := cnts g.1
    have hlen : (tkL (V h) D kn).length ≤ 100 := by
      have := flF_len (P := tkB (V h) D kn) (nM (V h)) 0
      unfold tkL
      omega
    obtain ⟨h3, m1, m2, m3⟩ := z_makeRows w2 (by rw [hV2]; exact g) f (by rw [hV2]; exact hc) (by rw [hV2]; exact ⟨s1, s2⟩) hlen hl2 (fun i hi => by rw [hV2]; exact tkL_lt hi)
    rw [hV2] at m3
    have hV3 : V h3 = V h := (V_frc (Srw_c m2)).trans hV2
    have w3 := ok_fr m2 w2
    have s13 : ftP h3 (FT D) := ftP_fr m2 rfl (fun _ => rfl) s1
    have hl3 : lsP h3 (tkL (V h) D kn) := ⟨(fr_I m2 rfl).trans hl2.1, fun k x z => (fr_I m2 rfl).trans (hl2.2 k x z)⟩
    obtain ⟨h4, n1, n2, n3⟩ := z_addUp w3 (by rw [hV3]; exact g) f (by rw [hV3]; exact hc) s13 hlen hl3 (by rw [hV3]; exact m3) (fun i hi => by rw [hV3]; exact tkL_lt hi)
    rw [hV3] at n3
    have S3 : gS h3 = gS h := (fr_S m2).trans S2
    have R3 : gR h3 = gR h := (fr_R m2).trans R2
    refine ⟨h4, ?_, fr_tr F2 (fr_tr (Srw_c m2) (Ssu_c n2)), fun _ => ⟨⟨(fr_I n2 rfl).trans hl3.1, fun k x z => (fr_I n2 rfl).trans (hl3.2 k x z)⟩, ftP_fr n2 rfl (fun _ => rfl) s13, RW_fr n2 f (fun a j z1 z2 => by simp only [Ssu, decide_eq_false_iff_not]; omega) m3, n3, fun t ht _ => ?_⟩⟩
    · have n1' : Ft_addUp 99 (gR h3 65 3) h3 = some h4 := by
        rw [R3]
        simp only [wR]
        exact n1
      rw [Ft_open_eq]
      simp only [gI_pI, gI_pL, gI_pR, gL_pI, gL_pL, gL_pR, gR_pI, gR_pL, gR_pR, gS_pI, gS_pL, gS_pR, ↓reduceIte, Nat.reduceEqDiff, decide_eq_true_eq, Option.bind_some, false_and, and_false, true_and, and_true, and_self, Nat.reduceAdd, not_false_eq_true, not_true_eq_false, wS, wR, inI, ite_self, Classical.not_not, ↓bnd a1, S1, ↓bnd b1, show ¬ bB true = 0 by decide, S2, ↓bnd m1, S3, ↓bnd n1']
      rfl
    · rw [fr_I n2 rfl, fr_I m2 rfl]
      exact s2 t ht
theorem cp_155 {h : ax_H} {x : Nat} : ∀ k, k < 13 → gL (rL h 155 (va_cpy (gL h x) (gL h 155) (Int32.toNatClampNeg 0) (Int32.toNatClampNeg 0) (Int32.toNatClampNeg 13))) 155 k = gL h x k := fun k hk => by
  rw [gL_rL, if_pos rfl]
  have := pk_cpy_in (f := gL h x) (g := gL h 155) (sp := 0) (dp := 0) (n := 13) (j := k) (by omega) (by omega)
  rw [show Int32.toNatClampNeg 0 = 0 from rfl, show Int32.toNatClampNeg 13 = 13 from rfl, this]
  congr 1
  omega
theorem fr_155 {h : ax_H} {F : Nat → Int64} : fr S155 h (rL h 155 F) := fr_rL (fun _ => rfl)
theorem AK_155 {h h1 : ax_H} {D : WD} (q : fr S155 h h1) : ∀ t, t < 6 → ¬ D.1 t = 1 → gI h1 101 t = gI h 101 t := fun t _ _ => fr_I q rfl
theorem OP_155 {h h' : ax_H} {V0 : BV} {D : WD} (f : WF D) {kn : Int32} (q : fr S155 h h') (o : OP h V0 D kn) : OP h' V0 D kn := OP_fr q f (fun a k z => by simp only [S155, decide_eq_false_iff_not]; omega) (AK_155 q) o
/-- solved: from a row of sums -/
theorem z_sol {h : ax_H} (w : ok h) (g : GV (V h)) {D : WD} (f : WF D) {kn : Int32} (hc : ckOk (V h) D kn) (o : OP h (V h) D kn) {P : Nat → Bool} (hL : ∀ k, k < 13 → gL h 155 k = Int64.ofInt (SP (V h) D kn P k)) : ∃ h', Ft_solve 99 h = some (bB (slB (SP (V h) D kn P) (FT D).length), h') ∧ fr S101 h h' ∧ OP h' (V h) D kn ∧ (slB (SP (V h) D kn P) (FT D).length = true → ∀ t, t < 6 → gI h' 101 t = Int32.ofInt (anZ (V h) D kn (SP (V h) D kn P) t)) := by
  obtain ⟨h', r1, r2, r3⟩ := z_solve f (SP_bd g f hc P) w o.2.1 hL
  have o' := OP_AK f r2 o
  refine ⟨h', r1, r2.1, o', fun hs t ht => ?_⟩
  unfold anZ
  by_cases q : D.1 t = 1
  · rw [if_pos q]
    have hm : t ∈ FT D := (flF_mem 6 0).mpr ⟨by omega, by omega, decide_eq_true q⟩
    have hg := ixL_get hm
    exact r3 hs _ t (List.getElem?_eq_some_iff.mp hg).1 hg
  · rw [if_neg q]
    exact o'.2.2.2.2 t ht q
def S1x (a _k : Nat) : Bool := decide (a = 101 ∨ a = 155)
theorem S1x_c {h h' : ax_H} (q : fr S1x h h') : fr Sc h h' := fr_le q fun a k z => by simp only [Sc, S1x, decide_eq_false_iff_not] at z ⊢; omega
theorem S155_x {h h' : ax_H} (q : fr S155 h h') : fr S1x h h' := fr_le q fun a k z => by simp only [S155, S1x, decide_eq_false_iff_not] at z ⊢; omega
theorem S101_x {h h' : ax_H} (q : fr S101 h h') : fr S1x h h' := fr_le q fun a k z => by simp only [S101, S1x, decide_eq_false_iff_not] at z ⊢; omega
def allB : Nat → Bool := fun _ => true
theorem grp_46 (V : BV) : grp V 46 = allB := by
  funext i
  rfl
theorem cpc (h : ax_H) (x y : Nat) (s1 : gS h x = (17, 13)) (s2 : gS h y = (17, 13)) : ax_cp h x 17 0 13 ∧ ax_cp h y 17 0 13 ∧ ¬ (13 : Int32) < 0 ∧ (([] : List Value).map (fun v => v.category)).sum ≤ 8 := by
  unfold ax_cp
  rw [s1, s2]
  refine ⟨⟨rfl, by decide, by decide⟩, ⟨rfl, by decide, by decide⟩, by decide, by decide⟩
theorem z_solveAll {h : ax_H} (w : ok h) (g : GV (V h)) {D : WD} (f : WF D) {kn : Int32} (hc : ckOk (V h) D kn) (o : OP h (V h) D kn) : ∃ h', Ft_solveAll 99 h = some (bB (slB (SP (V h) D kn allB) (FT D).length), h') ∧ fr S1x h h' ∧ OP h' (V h) D kn ∧ (slB (SP (V h) D kn allB) (FT D).length = true → ∀ t, t < 6 → gI h' 101 t = Int32.ofInt (anZ (V h) D kn (SP (V h) D kn allB) t)) := by
  have w0 := w
  obtain ⟨wS, wR, wG, wN⟩ := w
  have g46 : gR h 107 46 = 154 := wG.1 46 (by omega)
  have s154 : gS h 154 = (17, 13) := wG.2 46 (by omega)
  have s155 : gS h 155 = (17, 13) := by simp only [wS]
  have F := fr_155 (h := h) (F := va_cpy (gL h 154) (gL h 155) (Int32.toNatClampNeg 0) (Int32.toNatClampNeg 0) (Int32.toNatClampNeg 13))
  have hV := V_frc (S155_c F)
  obtain ⟨h', r1, r2, r3, r4⟩ := z_sol (kn := kn) (P := allB) (ok_fr F w0) (by rw [hV]; exact g) f (by rw [hV]; exact hc) (by rw [hV]; exact OP_155 f F o) (fun k hk => by
    rw [cp_155 k hk, hV, ← grp_46 (V h)]
    exact o.2.2.2.1 46 (by omega) k hk)
  rw [hV] at r1 r3 r4
  refine ⟨h', ?_, fr_tr (S155_x F) (S101_x r2), r3, r4⟩
  rw [Ft_solveAll_eq]
  have t46 : Int32.toNatClampNeg 46 = 46 := rfl
  have s107 : gS h 107 = (22, 47) := by simp only [wS]
  simp only [wS, wR, ↓reduceIte, ax_in, t46, g46, show ¬ (46 : Int32) < 0 by decide, show (46 : Nat) < 47 by decide, not_false_eq_true, and_self, cpc h 154 155 s154 s155, gS_rL, ↓bnd r1]
  rw [if_pos ⟨(cpc h 154 155 s154 s155).1, (cpc h 154 155 s154 s155).2.1, trivial⟩]
  cases slB (SP (V h) D kn allB) (FT D).length <;> rfl
