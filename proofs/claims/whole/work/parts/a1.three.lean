/-! three -/
def mtO (V : BV) (D : WD) (kn li : Int32) : Option Int64 := if agk V (D4 D li) kn allB then some (Int64.ofInt (sg (msF V (D4 D li) kn (SP V (D4 D li) kn allB)) (tkL V D kn))) else none
def thr (p : Int32 × Int64) (n : Int32) (o : Option Int64) : Int32 × Int64 := match o with
  | none => p
  | some m => if p.1 = -2 then (n, m) else if (0 : Int32) ≤ lg_cmp m p.2 then p else (n, m)
def thV (V : BV) (D : WD) (kn x y z : Int32) : Int32 := (thr (thr (thr (-2, 0) 0 (mtO V D kn x)) 1 (mtO V D kn y)) 2 (mtO V D kn z)).1
theorem cko_4c {V : BV} {D : WD} {kn l l' : Int32} : ∀ k t, cko V (D4 D l) kn k t = cko V (D4 D l') kn k t
  | 0, _ => rfl
  | k + 1, t => by
    rw [cko, cko, cko_4c (l := l) (l' := l') k (t + 1)]
    rfl
theorem mtO_no {V : BV} {D : WD} {kn li : Int32} (h : agk V (D4 D li) kn allB = false) : mtO V D kn li = none := by
  unfold mtO
  rw [h]
  rfl
theorem mtO_y {V : BV} {D : WD} {kn li : Int32} (h : agk V (D4 D li) kn allB = true) : mtO V D kn li = some (Int64.ofInt (sg (msF V (D4 D li) kn (SP V (D4 D li) kn allB)) (tkL V D kn))) := by
  unfold mtO
  rw [h]
  rfl
def b3 (b : Int32) : Prop := b = -2 ∨ b = 0 ∨ b = 1 ∨ b = 2
theorem b3_thr {p : Int32 × Int64} {n : Int32} {o : Option Int64} (hp : b3 p.1) (hn : b3 n) : b3 (thr p n o).1 := by
  unfold thr
  cases o with
  | none => exact hp
  | some m =>
    by_cases q : p.1 = -2
    · simp only [q, ↓reduceIte]; exact hn
    · by_cases q2 : (0 : Int32) ≤ lg_cmp m p.2
      · simp only [q, q2, ↓reduceIte]; exact hp
      · simp only [q, q2, ↓reduceIte]; exact hn
def Sth (a k : Nat) : Bool := decide ((a = 99 ∧ k = 4) ∨ (101 ≤ a ∧ a ≤ 105) ∨ (108 ≤ a ∧ a ≤ 155))
theorem Sth_c {h h' : ax_H} (q : fr Sth h h') : fr Sc h h' := fr_le q fun a k z => by simp only [Sc, Sth, decide_eq_false_iff_not] at z ⊢; omega
theorem Sse_th {h h' : ax_H} (q : fr Sse h h') : fr Sth h h' := fr_le q fun a k z => by simp only [Sse, Sth, decide_eq_false_iff_not] at z ⊢; omega
theorem Srw_th {h h' : ax_H} (q : fr Srw h h') : fr Sth h h' := fr_le q fun a k z => by simp only [Srw, Sth, decide_eq_false_iff_not] at z ⊢; omega
theorem Ssu_th {h h' : ax_H} (q : fr Ssu h h') : fr Sth h h' := fr_le q fun a k z => by simp only [Ssu, Sth, decide_eq_false_iff_not] at z ⊢; omega
theorem S1x_th {h h' : ax_H} (q : fr S1x h h') : fr Sth h h' := fr_le q fun a k z => by simp only [S1x, Sth, decide_eq_false_iff_not] at z ⊢; omega
theorem Sth_hi {a k : Nat} (h : 207 ≤ a) : Sth a k = false := by simp only [Sth, decide_eq_false_iff_not]; omega
theorem z_l3_46 {h : ax_H} (w : ok h) (g : GV (V h)) {a : Nat} {D : WD} (f : WF D) (c : WC h a D) {kn : Int32} (hl : lsP h (tkL (V h) D kn)) {li : Int32} (hli : 0 ≤ li.toInt ∧ li.toInt ≤ 99999) (x y z b : Int32) (hb : b3 b) (A : Int64) (n : Int32) : ∃ h', Ft_leastOfThree_46 li 99 65 a kn x y z b A n h = (if cko (V h) (D4 D li) kn 6 0 = true then Ft_leastOfThree_17 99 65 a kn x y z (thr (b, A) n (mtO (V h) D kn li)).1 (thr (b, A) n (mtO (V h) D kn li)).2 (n + 1) h' else some (b, h')) ∧ fr Sth h h' := by
  have hl1 : ¬ li = -1 := fun q => by
    rw [q] at hli
    exact absurd hli.1 (by decide)
  have fe := WF_4 f hli
  obtain ⟨h2, b1, b2, b3'⟩ := z_settle w g (Or.inr ⟨hl1, rfl⟩) fe c kn
  have w2 := ok_fr b2 w
  have hV2 : V h2 = V h := V_frc (Sse_c b2)
  have S2 : gS h2 = gS h := fr_S b2
  have R2 : gR h2 = gR h := fr_R b2
  have w0 := w
  obtain ⟨wS, wR, wG, wN⟩ := w
  cases hk : cko (V h) (D4 D li) kn 6 0 with
  | false =>
    rw [hk] at b1
    refine ⟨h2, ?_, Sse_th b2⟩
    rw [Ft_leastOfThree_46_eq, if_neg (show ¬ false = true by decide)]
    simp only [wS, ↓reduceIte]
    rw [bnd b1]
    rfl
  | true =>
    rw [hk] at b1
    have hc := cko_ok.mp hk
    obtain ⟨s1, s2⟩ := b3' hk
    have hl2 : lsP h2 (tkL (V h) (D4 D li) kn) := ⟨(fr_I b2 rfl).trans hl.1, fun k x z => (fr_I b2 rfl).trans (hl.2 k x z)⟩
    have hcn := cnts g.1
    have hlen : (tkL (V h) (D4 D li) kn).length ≤ 100 := by
      have := flF_len (P := tkB (V h) (D4 D li) kn) (nM (V h)) 0
      unfold tkL
      omega
    obtain ⟨h3, m1, m2, m3⟩ := z_makeRows w2 (by rw [hV2]; exact g) fe (by rw [hV2]; exact hc) (by rw [hV2]; exact ⟨s1, s2⟩) hlen hl2 (fun i hi => by rw [hV2]; exact tkL_lt hi)
    rw [hV2] at m3
    have hV3 : V h3 = V h := (V_frc (Srw_c m2)).trans hV2
    have w3 := ok_fr m2 w2
    have s13 : ftP h3 (FT (D4 D li)) := ftP_fr m2 rfl (fun _ => rfl) s1
    have hl3 : lsP h3 (tkL (V h) (D4 D li) kn) := ⟨(fr_I m2 rfl).trans hl2.1, fun k x z => (fr_I m2 rfl).trans (hl2.2 k x z)⟩
    obtain ⟨h4, n1, n2, n3⟩ := z_addUp w3 (by rw [hV3]; exact g) fe (by rw [hV3]; exact hc) s13 hlen hl3 (by rw [hV3]; exact m3) (fun i hi => by rw [hV3]; exact tkL_lt hi)
    rw [hV3] at n3
    have hV4 : V h4 = V h := (V_frc (Ssu_c n2)).trans hV3
    have w4 := ok_fr n2 w3
    have S3 : gS h3 = gS h := (fr_S m2).trans S2
    have R3 : gR h3 = gR h := (fr_R m2).trans R2
    have S4 : gS h4 = gS h := (fr_S n2).trans S3
    have R4 : gR h4 = gR h := (fr_R n2).trans R3
    have n1' : Ft_addUp 99 (gR h3 65 3) h3 = some h4 := by
      rw [R3]
      simp only [wR]
      exact n1
    have o4 : OP h4 (V h) (D4 D li) kn := ⟨⟨(fr_I n2 rfl).trans hl3.1, fun k x z => (fr_I n2 rfl).trans (hl3.2 k x z)⟩, ftP_fr n2 rfl (fun _ => rfl) s13, RW_fr n2 fe (fun a j z1 z2 => by simp only [Ssu, decide_eq_false_iff_not]; omega) m3, n3, fun t ht _ => by
      rw [fr_I n2 rfl, fr_I m2 rfl]
      exact s2 t ht⟩
    obtain ⟨h5, d1, d2, d3, d5⟩ := z_solveAll w4 (by rw [hV4]; exact g) fe (kn := kn) (by rw [hV4]; exact hc) (by rw [hV4]; exact o4)
    rw [hV4] at d1 d3 d5
    have hV5 : V h5 = V h := (V_frc (S1x_c d2)).trans hV4
    have w5 := ok_fr d2 w4
    have S5 : gS h5 = gS h := (fr_S d2).trans S4
    refine ⟨h5, ?_, fr_tr (Sse_th b2) (fr_tr (Srw_th m2) (fr_tr (Ssu_th n2) (S1x_th d2)))⟩
    rw [Ft_leastOfThree_46_eq, if_pos (show true = true from rfl)]
    simp only [wS, ↓reduceIte]
    rw [bnd b1]
    simp only [show ¬ bB true = 0 by decide, not_false_eq_true, decide_true, ↓reduceIte, S2, wS]
    rw [bnd m1]
    simp only [S3, wS, ↓reduceIte]
    rw [bnd n1']
    simp only [S4, wS, ↓reduceIte]
    rw [bnd d1]
    cases hs : slB (SP (V h) (D4 D li) kn allB) (FT (D4 D li)).length with
    | false =>
      have ga : agk (V h) (D4 D li) kn allB = false := by unfold agk; rw [hk, hs]; rfl
      rw [mtO_no ga]
      simp only [show bB false = 0 from rfl, decide_true, ↓reduceIte]
      rw [Ft_leastOfThree_93_eq]
      simp only [show lg_cmp (-1) (-1) = 0 by decide, decide_true, ↓reduceIte]
      rfl
    | true =>
      have ga : agk (V h) (D4 D li) kn allB = true := by unfold agk; rw [hk, hs]; rfl
      have bb := anB_of g.2.2.2.1 fe hc hs
      have ms := z_missed w5 (by rw [hV5]; exact g) fe (by rw [hV5]; exact hc) (by rw [hV5]; exact bb) (by rw [hV5]; exact d3) (by rw [hV5]; exact d5 hs)
      rw [hV5] at ms
      have mb := msZ_bd g fe hc bb hlen (fun i hi => tkL_lt hi)
      rw [mtO_y ga]
      simp only [show ¬ bB true = 0 by decide, decide_false, Bool.false_eq_true, ↓reduceIte, S5, wS]
      rw [bnd ms]
      have ne : ¬ lg_cmp (Int64.ofInt (sg (msF (V h) (D4 D li) kn (SP (V h) (D4 D li) kn allB)) (tkL (V h) (D4 D li) kn))) (-1) = 0 := by
        rw [lgc_eq, l_toInt (by omega), show (-1 : Int64).toInt = -1 from rfl]
        omega
      rw [Ft_leastOfThree_93_eq]
      simp only [ne, decide_false, Bool.false_eq_true, ↓reduceIte]
      show _ = Ft_leastOfThree_17 99 65 a kn x y z (if b = -2 then (n, Int64.ofInt (sg (msF (V h) (D4 D li) kn (SP (V h) (D4 D li) kn allB)) (tkL (V h) (D4 D li) kn))) else if (0 : Int32) ≤ lg_cmp (Int64.ofInt (sg (msF (V h) (D4 D li) kn (SP (V h) (D4 D li) kn allB)) (tkL (V h) (D4 D li) kn))) A then (b, A) else (n, Int64.ofInt (sg (msF (V h) (D4 D li) kn (SP (V h) (D4 D li) kn allB)) (tkL (V h) (D4 D li) kn)))).1 (if b = -2 then (n, Int64.ofInt (sg (msF (V h) (D4 D li) kn (SP (V h) (D4 D li) kn allB)) (tkL (V h) (D4 D li) kn))) else if (0 : Int32) ≤ lg_cmp (Int64.ofInt (sg (msF (V h) (D4 D li) kn (SP (V h) (D4 D li) kn allB)) (tkL (V h) (D4 D li) kn))) A then (b, A) else (n, Int64.ofInt (sg (msF (V h) (D4 D li) kn (SP (V h) (D4 D li) kn allB)) (tkL (V h) (D4 D li) kn)))).2 (n + 1) h5
      have hb2 : (b = -2 ∧ b < 0) ∨ (¬ b = -2 ∧ ¬ b < 0) := by rcases hb with rfl | rfl | rfl | rfl <;> decide
      rcases hb2 with ⟨q1, q2⟩ | ⟨q1, q2⟩
      · simp only [q2, decide_true, ↓reduceIte]
        rw [if_pos q1]
      · simp only [q1, q2, decide_false, Bool.false_eq_true, ↓reduceIte, decide_eq_true_eq]
        by_cases q3 : (0 : Int32) ≤ lg_cmp (Int64.ofInt (sg (msF (V h) (D4 D li) kn (SP (V h) (D4 D li) kn allB)) (tkL (V h) (D4 D li) kn))) A
        · simp only [q3, ↓reduceIte]
        · simp only [q3, ↓reduceIte]
theorem z_least {h : ax_H} (w : ok h) (g : GV (V h)) {a : Nat} {D : WD} (f : WF D) (c : WC h a D) (kn : Int32) {x y z : Int32} (hx : 0 ≤ x.toInt ∧ x.toInt ≤ 99999) (hy : 0 ≤ y.toInt ∧ y.toInt ≤ 99999) (hz : 0 ≤ z.toInt ∧ z.toInt ≤ 99999) : ∃ h', Ft_leastOfThree 99 65 a kn x y z h = some (thV (V h) D kn x y z, h') ∧ fr Sc h h' := by
  obtain ⟨h1, a1, a2, a3⟩ := z_take w g c f kn
  have w1 := ok_fr a2 w
  have hV1 := V_frc (Stk_c a2)
  have c1 := WC_fr a2 (fun a k z => Stk_hi z) c
  obtain ⟨h2, b1, b2⟩ := z_l3_46 w1 (by rw [hV1]; exact g) f c1 (by rw [hV1]; exact a3) hx x y z (-2) (Or.inl rfl) 0 0
  rw [hV1] at b1
  have w2 := ok_fr b2 w1
  have hV2 : V h2 = V h := (V_frc (Sth_c b2)).trans hV1
  have c2 := WC_fr b2 (fun a k z => Sth_hi z) c1
  have l2 : lsP h2 (tkL (V h) D kn) := ⟨(fr_I b2 rfl).trans a3.1, fun k x z => (fr_I b2 rfl).trans (a3.2 k x z)⟩
  have w0 := w
  obtain ⟨wS, wR, wG, wN⟩ := w
  have t0 : b3 (thr (-2, 0) 0 (mtO (V h) D kn x)).1 := b3_thr (Or.inl rfl) (Or.inr (Or.inl rfl))
  have t1 : b3 (thr (thr (-2, 0) 0 (mtO (V h) D kn x)) 1 (mtO (V h) D kn y)).1 := b3_thr t0 (Or.inr (Or.inr (Or.inl rfl)))
  have n30 : ¬ (3 : Int32) ≤ 0 := by decide
  have n31 : ¬ (3 : Int32) ≤ 0 + 1 := by decide
  have n32 : ¬ (3 : Int32) ≤ 1 + 1 := by decide
  have n33 : (3 : Int32) ≤ 2 + 1 := by decide
  have e1 : (0 : Int32) + 1 = 1 := by decide
  have e2 : (1 : Int32) + 1 = 2 := by decide
  cases hk : cko (V h) (D4 D x) kn 6 0 with
  | false =>
    refine ⟨h2, ?_, fr_tr (Stk_c a2) (Sth_c b2)⟩
    rw [if_neg (by rw [hk]; decide)] at b1
    rw [Ft_leastOfThree_eq]
    simp only [wS, ↓reduceIte]
    rw [bnd a1, Ft_leastOfThree_17_eq]
    simp only [n30, decide_false, Bool.false_eq_true, ↓reduceIte, not_true_eq_false]
    rw [b1]
    unfold thV
    have ga : ∀ l, mtO (V h) D kn l = none := fun l => mtO_no (by unfold agk; rw [cko_4c (l' := x), hk]; rfl)
    rw [ga, ga, ga]
    rfl
  | true =>
    have hky : cko (V h) (D4 D y) kn 6 0 = true := by rw [cko_4c (l' := x), hk]
    have hkz : cko (V h) (D4 D z) kn 6 0 = true := by rw [cko_4c (l' := x), hk]
    rw [if_pos hk] at b1
    obtain ⟨h3, d1, d2⟩ := z_l3_46 w2 (by rw [hV2]; exact g) f c2 (by rw [hV2]; exact l2) hy x y z _ t0 (thr (-2, 0) 0 (mtO (V h) D kn x)).2 1
    rw [hV2, if_pos hky] at d1
    have w3 := ok_fr d2 w2
    have hV3 : V h3 = V h := (V_frc (Sth_c d2)).trans hV2
    have c3 := WC_fr d2 (fun a k z => Sth_hi z) c2
    have l3 : lsP h3 (tkL (V h) D kn) := ⟨(fr_I d2 rfl).trans l2.1, fun k x z => (fr_I d2 rfl).trans (l2.2 k x z)⟩
    obtain ⟨h4, k1, k2⟩ := z_l3_46 w3 (by rw [hV3]; exact g) f c3 (by rw [hV3]; exact l3) hz x y z _ t1 (thr (thr (-2, 0) 0 (mtO (V h) D kn x)) 1 (mtO (V h) D kn y)).2 2
    rw [hV3, if_pos hkz] at k1
    refine ⟨h4, ?_, fr_tr (Stk_c a2) (fr_tr (Sth_c b2) (fr_tr (Sth_c d2) (Sth_c k2)))⟩
    rw [Ft_leastOfThree_eq]
    simp only [wS, ↓reduceIte]
    rw [bnd a1, Ft_leastOfThree_17_eq]
    simp only [n30, decide_false, Bool.false_eq_true, ↓reduceIte, not_true_eq_false]
    rw [b1, Ft_leastOfThree_17_eq]
    simp only [n31, e1, decide_false, Bool.false_eq_true, ↓reduceIte, not_true_eq_false, show ¬ (1 : Int32) = 0 by decide, not_false_eq_true, decide_true]
    rw [show (thr (thr (-2, 0) 0 (mtO (V h) D kn x)) 1 (mtO (V h) D kn y)) = thr ((thr (-2, 0) 0 (mtO (V h) D kn x)).1, (thr (-2, 0) 0 (mtO (V h) D kn x)).2) 1 (mtO (V h) D kn y) from rfl] at k1
    rw [d1, Ft_leastOfThree_17_eq]
    simp only [n32, e2, decide_false, Bool.false_eq_true, ↓reduceIte, not_true_eq_false, show ¬ (2 : Int32) = 0 by decide, show ¬ (2 : Int32) = 1 by decide, not_false_eq_true, decide_true]
    rw [k1, Ft_leastOfThree_17_eq]
    simp only [n33, decide_true, ↓reduceIte]
    rfl
