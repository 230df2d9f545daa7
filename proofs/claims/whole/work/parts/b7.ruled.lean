/-! ruled: the reference's loop over sets; both -/
def e7 : Option (Nat × Int × Int) → Int64
  | none => 0
  | some (_, _, a) => Int64.ofInt a
def finO (ch : Int32) (o : Option (Nat × Int × Int)) : Int32 := if e5 o = -1 then -1000000000 else if ch = 0 then e5 o else Int64.toInt32 (e7 o)
def S94f (a k : Nat) : Bool := S194 a k || Sfi a k
theorem S194_4 {h h' : ax_H} (q : fr S194 h h') : fr S94f h h' := fr_le q fun a k z => by unfold S94f at z; rw [Bool.or_eq_false_iff] at z; exact z.1
theorem Sfi_4 {h h' : ax_H} (q : fr Sfi h h') : fr S94f h h' := fr_le q fun a k z => by unfold S94f at z; rw [Bool.or_eq_false_iff] at z; exact z.2
theorem zm_ru_1 {D : WD} (f : WF D) {kn : Int32} {h : ax_H} (i0 : I0 h) (hc : ckOk (V h) D kn) {t : Nat} (ht : t < 6) {x : Int32} (hx : -99999 ≤ x.toInt ∧ x.toInt ≤ 99999) (ch : Int32) {M s : Nat} (hs : s < 65536) {o : Option (Nat × Int × Int)} (bg : BEG h (V h) D kn) (ou : OUT h (tuZ (V h))) (tk : TKM h (tkB (V h) D kn)) (ho : okO o) : ∃ h', M_ruled_161 159 (nI t) x ch (nI M) (e5 o) (e6 o) (e7 o) (nI s) 1 h = M_ruled_355 159 (nI t) x ch (nI M) (e5 (stB (fitS (V h) D kn) (dsS (V h) D kn t x.toInt) (anS (V h) D kn t) o s)) (e6 (stB (fitS (V h) D kn) (dsS (V h) D kn t x.toInt) (anS (V h) D kn t) o s)) (e7 (stB (fitS (V h) D kn) (dsS (V h) D kn t x.toInt) (anS (V h) D kn t) o s)) (nI s) h' ∧ fr S94f h h' := by
  have g := i0.2.2
  obtain ⟨h1, a1, a2, a3⟩ := zm_ru_169 (P := tkB (V h) D kn) (nI t) x ch (nI M) (e5 o) (e6 o) (e7 o) (s := s) (nM (V h)) 0 h (by omega) i0 tk (fun j hj => by omega)
  have hV1 := V_frm (S194_m a2)
  have i1 := I0_frm (S194_m a2) i0
  have ou1 := OUT_fr a2 hV1 (fun _ => rfl) (fun _ => rfl) ou
  have bg1 : BEG h1 (V h) D kn := BEG_fr a2 rfl (fun _ => rfl) (fun _ => rfl) (fun _ => rfl) bg
  obtain ⟨h2, d1, d2, d3, d4⟩ := zm_fit i1 f (by rw [hV1]; exact hc) (by rw [hV1]; exact bg1) ou1 a3 (fun i ax hi _ => by
    rw [hV1] at hi
    have := mX_bd g.2.2.2.1 hi ax
    unfold tuZ
    split <;> omega)
  rw [hV1] at d1 d3 d4
  have eS : sv (V h) (FT D) (mdZ (V h) D kn (tuZ (V h))) (flF (fun j => tkB (V h) D kn j && psQ (V h) s j) (nM (V h)) 0) = SP (V h) D kn (psQ (V h) s) := by
    funext k
    unfold SP tkL
    rw [flF_fil]
    rfl
  rw [eS] at d1 d4
  have e := EQ_a i1.2.1
  unfold EQa at e
  rw [hV1] at e
  have hn := nI_nM g.1.2.2.2.1
  obtain ⟨vS, vR, -, -⟩ := i1.1
  have S2 : gS h2 = gS h1 := fr_S d2
  have R2 : gR h2 = gR h1 := fr_R d2
  have hle : nI (nM (V h)) ≤ nI (nM (V h)) := Int32.le_refl _
  have tt : (nI t).toNatClampNeg = t := nJ_n (by omega)
  have nt : ¬ nI t < 0 := nJ_nn (by omega)
  have a1' : M_ruled_169 159 (nI t) x ch (nI M) (e5 o) (e6 o) (e7 o) (nI s) 0 h = M_ruled_169 159 (nI t) x ch (nI M) (e5 o) (e6 o) (e7 o) (nI s) (nI (nM (V h))) h1 := a1
  refine ⟨h2, ?_, fr_tr (S194_4 a2) (Sfi_4 d2)⟩
  rw [M_ruled_161_eq, if_neg (by decide), a1', M_ruled_169_eq]
  simp only [vS, ↓reduceIte, e, hn, hle, decide_true]
  rw [bnd d1]
  cases hf : fitS (V h) D kn s with
  | false =>
    have hf' : slB (SP (V h) D kn (psQ (V h) s)) (FT D).length = false := hf
    have est : stB (fitS (V h) D kn) (dsS (V h) D kn t x.toInt) (anS (V h) D kn t) o s = o := by unfold stB; rw [hf]; rfl
    rw [est, hf']
    rfl
  | true =>
    have hf' : slB (SP (V h) D kn (psQ (V h) s)) (FT D).length = true := hf
    have bd := ds_bd g f hc ht hx hf
    have v : gL h2 190 t = Int64.ofInt (anS (V h) D kn t s) := d4 hf' t ht
    rw [hf']
    have cmp : (lg_cmp (Int64.ofInt (anS (V h) D kn t s)) x.toInt64 ≤ 0) ↔ anS (V h) D kn t s ≤ x.toInt := by rw [lgc_le, l_toInt (by omega), Int32.toInt_toInt64]
    have red : ∀ r, M_ruled_265 (Int64.ofInt (dsS (V h) D kn t x.toInt s)) 159 (nI t) x ch (nI M) (e5 o) (e6 o) (e7 o) (nI s) h2 = r → (if decide (bB true = 0) then
      (M_ruled_355 159 (nI t) x ch (nI M) (e5 o) (e6 o) (e7 o) (nI s) h2 )
    else
      (if (gS h2 159).1 = 11 then if ax_in h2 (gR h2 159 44) 17 (nI t) then if decide ((lg_cmp (gL h2 (gR h2 159 44) (Int32.toNatClampNeg (nI t))) (Int32.toInt64 x)) ≤ 0) then
        (if (gS h2 159).1 = 11 then if ax_in h2 (gR h2 159 44) 17 (nI t) then M_ruled_265 ((Int32.toInt64 x) - (gL h2 (gR h2 159 44) (Int32.toNatClampNeg (nI t)))) 159 (nI t) x ch (nI M) (e5 o) (e6 o) (e7 o) (nI s) h2 else none else none)
      else
        (if (gS h2 159).1 = 11 then if ax_in h2 (gR h2 159 44) 17 (nI t) then M_ruled_265 ((gL h2 (gR h2 159 44) (Int32.toNatClampNeg (nI t))) - (Int32.toInt64 x)) 159 (nI t) x ch (nI M) (e5 o) (e6 o) (e7 o) (nI s) h2 else none else none) else none else none) ) = r := fun r hr => by
      rw [← hr]
      simp only [show ¬ bB true = 0 by decide, decide_false, Bool.false_eq_true, ↓reduceIte, S2, R2, vS, vR, ax_in, tt, nt, ht, not_false_eq_true, and_self, v]
      by_cases q : anS (V h) D kn t s ≤ x.toInt
      · rw [if_pos (by rw [decide_eq_true_eq]; exact cmp.mpr q)]
        have ed : x.toInt64 - Int64.ofInt (anS (V h) D kn t s) = Int64.ofInt (dsS (V h) D kn t x.toInt s) := by
          rw [i_L x, ← Int64.ofInt_sub]
          congr 1
          unfold dsS zabs
          split <;> omega
        rw [ed]
      · rw [if_neg (by rw [decide_eq_true_eq]; exact fun z => q (cmp.mp z))]
        have ed : Int64.ofInt (anS (V h) D kn t s) - x.toInt64 = Int64.ofInt (dsS (V h) D kn t x.toInt s) := by
          rw [i_L x, ← Int64.ofInt_sub]
          congr 1
          unfold dsS zabs
          split <;> omega
        rw [ed]
    refine red _ ?_
    have take : ∀ v9 v11, M_ruled_321 (nI s) 159 (nI t) x ch (nI M) v9 v11 (nI s) (Int64.ofInt (dsS (V h) D kn t x.toInt s)) 1 h2 = M_ruled_355 159 (nI t) x ch (nI M) (nI s) (Int64.ofInt (dsS (V h) D kn t x.toInt s)) (Int64.ofInt (anS (V h) D kn t s)) (nI s) h2 := fun v9 v11 => by
      rw [M_ruled_321_eq, if_neg (by decide), if_neg (by decide)]
      simp only [S2, R2, vS, vR, ↓reduceIte, ax_in, tt, nt, ht, not_false_eq_true, and_self, v]
    have keep : ∀ k0 v9 v11 v15, M_ruled_321 k0 159 (nI t) x ch (nI M) v9 v11 (nI s) v15 0 h2 = M_ruled_355 159 (nI t) x ch (nI M) k0 v9 v11 (nI s) h2 := fun k0 v9 v11 v15 => by
      rw [M_ruled_321_eq, if_pos (by decide), if_pos (by decide)]
    cases o with
    | none =>
      have est : stB (fitS (V h) D kn) (dsS (V h) D kn t x.toInt) (anS (V h) D kn t) none s = some (s, dsS (V h) D kn t x.toInt s, anS (V h) D kn t s) := by unfold stB; rw [hf]; rfl
      rw [est, M_ruled_265_eq, if_pos (by decide), take]
      rfl
    | some y =>
      obtain ⟨b, d, a⟩ := y
      obtain ⟨ob, od, oa⟩ := ho b d a rfl
      have nb : ¬ nI b = -1 := nI_neg1 (by omega)
      have bc1 := zm_bits h2 hs
      have bc2 := zm_bits h2 ob
      have pcb : ∀ n y, pcN n y ≤ n := fun n => by
        induction n with
        | zero => intro y; exact Nat.le_refl _
        | succ n ih => intro y; rw [pcN]; have := ih (y / 2); omega
      have pb := pcb 16 b
      have ps := pcb 16 s
      have lt1 : lg_cmp (Int64.ofInt (dsS (V h) D kn t x.toInt s)) (Int64.ofInt d) < 0 ↔ dsS (V h) D kn t x.toInt s < d := by rw [lgc_lt, l_toInt (by omega), l_toInt (by omega)]
      have eq1 : lg_cmp (Int64.ofInt (dsS (V h) D kn t x.toInt s)) (Int64.ofInt d) = 0 ↔ dsS (V h) D kn t x.toInt s = d := by rw [lgc_eq, l_toInt (by omega), l_toInt (by omega)]
      have estY : ∀ (_ : dsS (V h) D kn t x.toInt s < d ∨ (dsS (V h) D kn t x.toInt s = d ∧ pcN 16 s < pcN 16 b)), stB (fitS (V h) D kn) (dsS (V h) D kn t x.toInt) (anS (V h) D kn t) (some (b, d, a)) s = some (s, dsS (V h) D kn t x.toInt s, anS (V h) D kn t s) := fun cond => by
        unfold stB
        rw [hf, if_pos rfl]
        exact if_pos cond
      have estN : ∀ (_ : ¬ (dsS (V h) D kn t x.toInt s < d ∨ (dsS (V h) D kn t x.toInt s = d ∧ pcN 16 s < pcN 16 b))), stB (fitS (V h) D kn) (dsS (V h) D kn t x.toInt) (anS (V h) D kn t) (some (b, d, a)) s = some (b, d, a) := fun cond => by
        unfold stB
        rw [hf, if_pos rfl]
        exact if_neg cond
      show M_ruled_265 (Int64.ofInt (dsS (V h) D kn t x.toInt s)) 159 (nI t) x ch (nI M) (nI b) (Int64.ofInt d) (Int64.ofInt a) (nI s) h2 = _
      rw [M_ruled_265_eq, if_neg (by rw [decide_eq_true_eq]; exact nb)]
      by_cases q1 : dsS (V h) D kn t x.toInt s < d
      · rw [if_pos (by rw [decide_eq_true_eq]; exact lt1.mpr q1), estY (Or.inl q1), take]
        rfl
      · rw [if_neg (by rw [decide_eq_true_eq]; exact fun z => q1 (lt1.mp z))]
        by_cases q2 : dsS (V h) D kn t x.toInt s = d
        · rw [if_neg (by rw [decide_eq_true_eq]; exact not_not_intro (eq1.mpr q2)), bnd bc1]
          show (M_bits (nI b) h2).bind _ = _
          rw [bnd bc2]
          by_cases q3 : pcN 16 b ≤ pcN 16 s
          · rw [if_pos (by rw [decide_eq_true_eq, nJ_le (by omega) (by omega)]; exact q3), estN (by omega)]
            exact keep _ _ _ _
          · rw [if_neg (by rw [decide_eq_true_eq, nJ_le (by omega) (by omega)]; exact q3), estY (by omega)]
            exact take _ _
        · rw [if_pos (by rw [decide_eq_true_eq]; exact fun z => q2 (eq1.mp z)), estN (by omega)]
          exact keep _ _ _ _
theorem zm_ru_l {D : WD} (f : WF D) {kn : Int32} {V0 : BV} (g : GV V0) (hc : ckOk V0 D kn) {t : Nat} (ht : t < 6) {x : Int32} (hx : -99999 ≤ x.toInt ∧ x.toInt ≤ 99999) (ch : Int32) {M : Nat} {N : Nat → Nat} : ∀ (l : List Nat) (s : Nat) (o : Option (Nat × Int × Int)) (h : ax_H), chL N (s :: l) → (∀ y ∈ s :: l, y < 65536 ∧ (nI y - nI M) &&& nI M = nI (N y)) → V h = V0 → I0 h → BEG h V0 D kn → OUT h (tuZ V0) → TKM h (tkB V0 D kn) → okO o → ∃ h', M_ruled_161 159 (nI t) x ch (nI M) (e5 o) (e6 o) (e7 o) (nI s) 1 h = some (finO ch ((s :: l).foldl (stB (fitS V0 D kn) (dsS V0 D kn t x.toInt) (anS V0 D kn t)) o), h') ∧ fr Sm h h' := by
  intro l
  induction l with
  | nil =>
    intro s o h hch hy hV i0 bg ou tk ho
    subst hV
    have hys := hy s (List.mem_cons_self ..)
    obtain ⟨h1, a1, a2⟩ := zm_ru_1 f i0 hc ht hx ch (M := M) hys.1 bg ou tk ho
    have h0 : N s = 0 := hch
    refine ⟨h1, ?_, fr_le a2 fun a k z => by unfold S94f S194 Sfi; simp only [Sm, decide_eq_false_iff_not] at z; rw [Bool.or_eq_false_iff, decide_eq_false_iff_not, decide_eq_false_iff_not]; omega⟩
    rw [a1, M_ruled_355_eq, hys.2, h0, if_pos (by decide), M_ruled_161_eq, if_pos (by decide), List.foldl_cons, List.foldl_nil]
    unfold finO
    generalize stB (fitS (V h) D kn) (dsS (V h) D kn t x.toInt) (anS (V h) D kn t) o s = o'
    by_cases q : e5 o' = -1
    · rw [if_neg (by rw [decide_eq_true_eq]; exact not_not_intro q), if_pos q]
    · rw [if_pos (by rw [decide_eq_true_eq]; exact q), if_neg q]
      by_cases q2 : ch = 0
      · rw [if_neg (by rw [decide_eq_true_eq]; exact not_not_intro q2), if_pos q2]
      · rw [if_pos (by rw [decide_eq_true_eq]; exact q2), if_neg q2]
  | cons b l ih =>
    intro s o h hch hy hV i0 bg ou tk ho
    subst hV
    obtain ⟨c1, c2, c3⟩ := hch
    have hys := hy s (List.mem_cons_self ..)
    have hyb := hy b (List.mem_cons_of_mem _ (List.mem_cons_self ..))
    obtain ⟨h1, a1, a2⟩ := zm_ru_1 f i0 hc ht hx ch (M := M) hys.1 bg ou tk ho
    have F : fr Sm h h1 := fr_le a2 fun a k z => by unfold S94f S194 Sfi; simp only [Sm, decide_eq_false_iff_not] at z; rw [Bool.or_eq_false_iff, decide_eq_false_iff_not, decide_eq_false_iff_not]; omega
    have hV1 := V_frm F
    obtain ⟨h', r1, r2⟩ := ih b _ h1 c3 (fun y z => hy y (List.mem_cons_of_mem _ z)) hV1 (I0_frm F i0) (BEG_fr a2 rfl (fun _ => rfl) (fun _ => rfl) (fun _ => rfl) bg) (OUT_fr a2 hV1 (fun _ => rfl) (fun _ => rfl) ou) (fun j hj => by
      rw [hV1] at hj
      rw [fr_I a2 rfl]
      exact tk j hj) (okO_st g f hc ht hx hys.1 ho)
    refine ⟨h', ?_, fr_tr F r2⟩
    rw [a1, M_ruled_355_eq, hys.2, c1, if_neg (by rw [decide_eq_true_eq, nI_eq0 (by omega)]; omega), List.foldl_cons]
    exact r1
