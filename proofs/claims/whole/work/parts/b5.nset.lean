/-! ruled: the class's loop over sets -/
def fitS (V : BV) (D : WD) (kn : Int32) (s : Nat) : Bool := slB (SP V D kn (psQ V s)) (FT D).length
def anS (V : BV) (D : WD) (kn : Int32) (t s : Nat) : Int := anZ V D kn (SP V D kn (psQ V s)) t
def dsS (V : BV) (D : WD) (kn : Int32) (t : Nat) (x : Int) (s : Nat) : Int := zabs (anS V D kn t s - x)
def e5 : Option (Nat × Int × Int) → Int32
  | none => -1
  | some (b, _, _) => nI b
def e6 : Option (Nat × Int × Int) → Int64
  | none => 0
  | some (_, d, _) => Int64.ofInt d
def okO (o : Option (Nat × Int × Int)) : Prop := ∀ b d a, o = some (b, d, a) → b < 65536 ∧ (0 ≤ d ∧ d ≤ 200000000) ∧ (-99999999 ≤ a ∧ a ≤ 99999999)
def S993 (a k : Nat) : Bool := decide (a = 99 ∧ k = 3)
theorem S993_c {h h' : ax_H} (q : fr S993 h h') : fr Sc h h' := fr_le q fun a k z => by simp only [Sc, S993, decide_eq_false_iff_not] at z ⊢; omega
theorem ds_bd {V : BV} (g : GV V) {D : WD} (f : WF D) {kn : Int32} (hc : ckOk V D kn) {t : Nat} (ht : t < 6) {x : Int} (hx : -99999 ≤ x ∧ x ≤ 99999) {s : Nat} (hf : fitS V D kn s = true) : (0 ≤ dsS V D kn t x s ∧ dsS V D kn t x s ≤ 200000000) ∧ (-99999999 ≤ anS V D kn t s ∧ anS V D kn t s ≤ 99999999) := by
  have ab := anZ_bd g.2.2.2.1 f hc hf ht
  unfold dsS zabs
  refine ⟨?_, ab⟩
  unfold anS
  split <;> omega
theorem okO_st {V : BV} (g : GV V) {D : WD} (f : WF D) {kn : Int32} (hc : ckOk V D kn) {t : Nat} (ht : t < 6) {x : Int} (hx : -99999 ≤ x ∧ x ≤ 99999) {s : Nat} (hs : s < 65536) {o : Option (Nat × Int × Int)} (ho : okO o) : okO (stB (fitS V D kn) (dsS V D kn t x) (anS V D kn t) o s) := by
  unfold stB
  cases hf : fitS V D kn s with
  | false => rw [if_neg (by decide)]; exact ho
  | true =>
    have bd := ds_bd g f hc ht hx hf
    have new : okO (some (s, dsS V D kn t x s, anS V D kn t s)) := fun b d a z => by
      injection z with z
      injection z with z1 z
      injection z with z2 z3
      subst z1 z2 z3
      exact ⟨hs, bd⟩
    rw [if_pos rfl]
    cases o with
    | none => exact new
    | some y =>
      obtain ⟨b, d, a⟩ := y
      show okO (if _ then _ else _)
      split
      · exact new
      · exact ho
theorem z_ns_19 {D : WD} (f : WF D) {kn : Int32} {V0 : BV} (g : GV V0) (hc : ckOk V0 D kn) (h8 : (flF (brB V0 D kn) 16 0).length ≤ 8) {t : Nat} (ht : t < 6) {x : Int32} (hx : -99999 ≤ x.toInt ∧ x.toInt ≤ 99999) : ∀ (m c : Nat) (o : Option (Nat × Int × Int)) (h : ax_H), c + m = 2 ^ (flF (brB V0 D kn) 16 0).length → V h = V0 → ok h → OP h V0 D kn → ruP h (flF (brB V0 D kn) 16 0) → okO o → (∀ b d a, o = some (b, d, a) → gI h 99 3 = Int32.ofInt a) → ∃ h', Ft_nearestSet_19 99 (nI t) x (nI (flF (brB V0 D kn) 16 0).length) (e5 o) (e6 o) (nI c) h = some (e5 (((List.range' c m).map (elN (brB V0 D kn) 16 0)).foldl (stB (fitS V0 D kn) (dsS V0 D kn t x.toInt) (anS V0 D kn t)) o), h') ∧ fr Sc h h' ∧ (∀ b d a, (((List.range' c m).map (elN (brB V0 D kn) 16 0)).foldl (stB (fitS V0 D kn) (dsS V0 D kn t x.toInt) (anS V0 D kn t)) o) = some (b, d, a) → gI h' 99 3 = Int32.ofInt a) := by
  have p8 : 2 ^ (flF (brB V0 D kn) 16 0).length ≤ 256 := Nat.pow_le_pow_right (n := 2) (by omega) h8
  have sh : ∀ r, r < 9 → ((1 : Int32) <<< (nI r &&& 31)) = nI (2 ^ r) := by decide
  have shr := sh (flF (brB V0 D kn) 16 0).length (by omega)
  intro m
  induction m with
  | zero =>
    intro c o h hm hV w op ru ho h3
    have hle : ((1 : Int32) <<< (nI (flF (brB V0 D kn) 16 0).length &&& 31)) ≤ nI c := by rw [shr, nJ_le (by omega) (by omega)]; omega
    refine ⟨h, ?_, fr_rf _ _, h3⟩
    rw [Ft_nearestSet_19_eq, if_pos (by rw [decide_eq_true_eq]; exact hle)]
    rfl
  | succ m ih =>
    intro c o h hm hV w op ru ho h3
    subst hV
    have w0 := w
    obtain ⟨wS, wR, wG, wN⟩ := w
    have hle : ¬ ((1 : Int32) <<< (nI (flF (brB (V h) D kn) 16 0).length &&& 31)) ≤ nI c := by rw [shr, nJ_le (by omega) (by omega)]; omega
    obtain ⟨h1, a1, a2, a3⟩ := z_leaveOutChoice f (kn := kn) w0 g (c := c) (by omega) h8 op ru
    have w1 := ok_fr a2 w0
    have op1 := OP_155 f a2 op
    obtain ⟨h2, b1, b2, b3, b4⟩ := z_solS w1 f op1 (SP_bd g f hc (psQ (V h) (elN (brB (V h) D kn) 16 0 c))) a3
    have w2 := ok_fr b2 w1
    have F2 : fr Sc h h2 := fr_tr (S155_c a2) (S101_c b2)
    have hV2 := V_frc F2
    have S1 : gS h1 = gS h := fr_S a2
    have S2 : gS h2 = gS h := (fr_S b2).trans S1
    have R2 : gR h2 = gR h := (fr_R b2).trans (fr_R a2)
    have ru2 : ruP h2 (flF (brB (V h) D kn) 16 0) := fun k y hk => (fr_I b2 rfl).trans ((fr_I a2 rfl).trans (ru k y hk))
    have el := el_lt (brB (V h) D kn) 16 0 c
    have e16 : 2 ^ 16 = 65536 := rfl
    rw [e16] at el
    have ho2 := okO_st g f hc ht hx el ho
    rw [List.range'_succ, List.map_cons, List.foldl_cons]
    generalize hsn : elN (brB (V h) D kn) 16 0 c = s at *
    have tt : (nI t).toNatClampNeg = t := nJ_n (by omega)
    have nt : ¬ nI t < 0 := nJ_nn (by omega)
    have pre : ∀ r, (Ft_solve 99 h1).bind (fun r2 => if decide (¬ r2.1 = 0) then
      (if (gS r2.2 99).1 = 7 then if ax_in r2.2 (gR r2.2 99 2) 16 (nI t) then (Jm_abs ((Int32.toInt64 (gI r2.2 (gR r2.2 99 2) (Int32.toNatClampNeg (nI t)))) - (Int32.toInt64 x)) r2.2).bind (fun r3 => if decide (e5 o = (-1)) then
        (Ft_nearestSet_87 0 99 (nI t) x (nI (flF (brB (V h) D kn) 16 0).length) (e5 o) (e6 o) (nI c) (nI s) r3.1 r3.2 )
      else
        ((Ji_bitCount (nI s) r3.2).bind (fun r4 => (Ji_bitCount (e5 o) r4.2).bind (fun r5 => if decide (r5.1 ≤ r4.1) then
          (Ft_nearestSet_87 0 99 (nI t) x (nI (flF (brB (V h) D kn) 16 0).length) (e5 o) (e6 o) (nI c) (nI s) r3.1 r5.2 )
        else
          (Ft_nearestSet_87 1 99 (nI t) x (nI (flF (brB (V h) D kn) 16 0).length) (e5 o) (e6 o) (nI c) (nI s) r3.1 r5.2 ) ) )) ) else none else none)
    else
      (Ft_nearestSet_19 99 (nI t) x (nI (flF (brB (V h) D kn) 16 0).length) (e5 o) (e6 o) (nI c + 1) r2.2 ) ) = r → Ft_nearestSet_19 99 (nI t) x (nI (flF (brB (V h) D kn) 16 0).length) (e5 o) (e6 o) (nI c) h = r := fun r hr => by
      rw [← hr, Ft_nearestSet_19_eq, if_neg (by rw [decide_eq_true_eq]; exact hle)]
      simp only [wS, ↓reduceIte]
      rw [bnd a1]
      simp only [S1, wS, ↓reduceIte]
    cases hf : fitS (V h) D kn s with
    | false =>
      have hf' : slB (SP (V h) D kn (psQ (V h) s)) (FT D).length = false := hf
      rw [hf'] at b1
      have est : stB (fitS (V h) D kn) (dsS (V h) D kn t x.toInt) (anS (V h) D kn t) o s = o := by unfold stB; rw [hf]; rfl
      rw [est]
      obtain ⟨h', r1, r2, r3⟩ := ih (c + 1) o h2 (by omega) hV2 w2 b3 ru2 ho (fun b d a z => (fr_I b2 rfl).trans ((fr_I a2 rfl).trans (h3 b d a z)))
      refine ⟨h', pre _ ?_, fr_tr F2 r2, r3⟩
      rw [bnd b1]
      simp only [show bB false = 0 from rfl, not_true_eq_false, decide_false, Bool.false_eq_true, ↓reduceIte, nJ_p1]
      exact r1
    | true =>
      have hf' : slB (SP (V h) D kn (psQ (V h) s)) (FT D).length = true := hf
      rw [hf'] at b1
      have v := b4 hf' t ht
      have v' : gI h2 101 t = Int32.ofInt (anS (V h) D kn t s) := v
      have bd := ds_bd g f hc ht hx hf
      have eA : (Int32.ofInt (anS (V h) D kn t s)).toInt64 - x.toInt64 = Int64.ofInt (anS (V h) D kn t s - x.toInt) := by rw [i_toL (by omega), i_L x, ← Int64.ofInt_sub]
      have hab := z_abs (z := anS (V h) D kn t s - x.toInt) (by omega) h2
      have hab' : Jm_abs (Int64.ofInt (anS (V h) D kn t s - x.toInt)) h2 = some (Int64.ofInt (dsS (V h) D kn t x.toInt s), h2) := hab
      -- taking the new one
      have F3 : fr S993 h2 (pI h2 99 3 (Int32.ofInt (anS (V h) D kn t s))) := fr_pI rfl
      have take : ∃ h', Ft_nearestSet_19 99 (nI t) x (nI (flF (brB (V h) D kn) 16 0).length) (nI s) (Int64.ofInt (dsS (V h) D kn t x.toInt s)) (nI c + 1) (pI h2 99 3 (Int32.ofInt (anS (V h) D kn t s))) = some (e5 (((List.range' (c + 1) m).map (elN (brB (V h) D kn) 16 0)).foldl (stB (fitS (V h) D kn) (dsS (V h) D kn t x.toInt) (anS (V h) D kn t)) (some (s, dsS (V h) D kn t x.toInt s, anS (V h) D kn t s))), h') ∧ fr Sc h h' ∧ (∀ b d a, (((List.range' (c + 1) m).map (elN (brB (V h) D kn) 16 0)).foldl (stB (fitS (V h) D kn) (dsS (V h) D kn t x.toInt) (anS (V h) D kn t)) (some (s, dsS (V h) D kn t x.toInt s, anS (V h) D kn t s))) = some (b, d, a) → gI h' 99 3 = Int32.ofInt a) := by
        obtain ⟨h', r1, r2, r3⟩ := ih (c + 1) (some (s, dsS (V h) D kn t x.toInt s, anS (V h) D kn t s)) (pI h2 99 3 (Int32.ofInt (anS (V h) D kn t s))) (by omega) ((V_frc (S993_c F3)).trans hV2) (ok_fr F3 w2) (OP_fr F3 f (fun a k z => by simp only [S993, decide_eq_false_iff_not]; omega) (fun t _ _ => fr_I F3 rfl) b3) (fun k y hk => (fr_I F3 rfl).trans (ru2 k y hk)) (fun b d a z => by
          injection z with z
          injection z with z1 z
          injection z with z2 z3
          subst z1 z2 z3
          exact ⟨el, bd⟩) (fun b d a z => by
          injection z with z
          injection z with z1 z
          injection z with z2 z3
          rw [gI_pI, if_pos ⟨rfl, rfl⟩, z3])
        refine ⟨h', ?_, fr_tr F2 (fr_tr (S993_c F3) r2), r3⟩
        rw [nJ_p1]
        exact r1
      have bndB : ∀ r, (if decide (e5 o = (-1)) then
        (Ft_nearestSet_87 0 99 (nI t) x (nI (flF (brB (V h) D kn) 16 0).length) (e5 o) (e6 o) (nI c) (nI s) (Int64.ofInt (dsS (V h) D kn t x.toInt s)) h2 )
      else
        ((Ji_bitCount (nI s) h2).bind (fun r4 => (Ji_bitCount (e5 o) r4.2).bind (fun r5 => if decide (r5.1 ≤ r4.1) then
          (Ft_nearestSet_87 0 99 (nI t) x (nI (flF (brB (V h) D kn) 16 0).length) (e5 o) (e6 o) (nI c) (nI s) (Int64.ofInt (dsS (V h) D kn t x.toInt s)) r5.2 )
        else
          (Ft_nearestSet_87 1 99 (nI t) x (nI (flF (brB (V h) D kn) 16 0).length) (e5 o) (e6 o) (nI c) (nI s) (Int64.ofInt (dsS (V h) D kn t x.toInt s)) r5.2 ) ) )) ) = r → Ft_nearestSet_19 99 (nI t) x (nI (flF (brB (V h) D kn) 16 0).length) (e5 o) (e6 o) (nI c) h = r := fun r hr => pre _ (by
        rw [← hr, bnd b1]
        simp only [show ¬ bB true = 0 by decide, not_false_eq_true, decide_true, ↓reduceIte, S2, R2, wS, wR, ax_in, tt, nt, ht, and_self, v', eA]
        rw [bnd hab'])
      have inn : (¬ nI t < 0) ∧ t < 6 := ⟨nt, ht⟩
      cases o with
      | none =>
        have est : stB (fitS (V h) D kn) (dsS (V h) D kn t x.toInt) (anS (V h) D kn t) none s = some (s, dsS (V h) D kn t x.toInt s, anS (V h) D kn t s) := by unfold stB; rw [hf]; rfl
        rw [est]
        obtain ⟨h', r1, r2, r3⟩ := take
        refine ⟨h', bndB _ ?_, r2, r3⟩
        rw [← r1, if_pos (by decide), Ft_nearestSet_87_eq, if_pos (by decide)]
        simp only [S2, R2, wS, wR, ↓reduceIte, ax_in, tt, nt, ht, not_false_eq_true, and_self, v']
      | some y =>
        obtain ⟨b, d, a⟩ := y
        obtain ⟨ob, od, oa⟩ := ho b d a rfl
        have nb : ¬ nI b = -1 := nI_neg1 (by omega)
        have bc1 := z_bitCount h2 el
        have bc2 := z_bitCount h2 ob
        have pcb : ∀ n y, pcN n y ≤ n := fun n => by
          induction n with
          | zero => intro y; exact Nat.le_refl _
          | succ n ih => intro y; rw [pcN]; have := ih (y / 2); omega
        have pb := pcb 16 b
        have ps := pcb 16 s
        have lt1 : lg_cmp (Int64.ofInt (dsS (V h) D kn t x.toInt s)) (Int64.ofInt d) < 0 ↔ dsS (V h) D kn t x.toInt s < d := by rw [lgc_lt, l_toInt (by omega), l_toInt (by omega)]
        have eq1 : lg_cmp (Int64.ofInt (dsS (V h) D kn t x.toInt s)) (Int64.ofInt d) = 0 ↔ dsS (V h) D kn t x.toInt s = d := by rw [lgc_eq, l_toInt (by omega), l_toInt (by omega)]
        have hk0 : ∃ k0 : Int32, (k0 = 0 ↔ pcN 16 b ≤ pcN 16 s) ∧ ∀ r, Ft_nearestSet_87 k0 99 (nI t) x (nI (flF (brB (V h) D kn) 16 0).length) (nI b) (Int64.ofInt d) (nI c) (nI s) (Int64.ofInt (dsS (V h) D kn t x.toInt s)) h2 = r → Ft_nearestSet_19 99 (nI t) x (nI (flF (brB (V h) D kn) 16 0).length) (e5 (some (b, d, a))) (e6 (some (b, d, a))) (nI c) h = r := by
          by_cases q : pcN 16 b ≤ pcN 16 s
          · refine ⟨0, ⟨fun _ => q, fun _ => rfl⟩, fun r hr => bndB _ ?_⟩
            rw [← hr, if_neg (by rw [decide_eq_true_eq]; exact nb), bnd bc1]
            show (Ji_bitCount (nI b) h2).bind _ = _
            rw [bnd bc2, if_pos (by rw [decide_eq_true_eq, nJ_le (by omega) (by omega)]; exact q)]
            rfl
          · refine ⟨1, ⟨fun z => absurd z (by decide), fun z => absurd z q⟩, fun r hr => bndB _ ?_⟩
            rw [← hr, if_neg (by rw [decide_eq_true_eq]; exact nb), bnd bc1]
            show (Ji_bitCount (nI b) h2).bind _ = _
            rw [bnd bc2, if_neg (by rw [decide_eq_true_eq, nJ_le (by omega) (by omega)]; exact q)]
            rfl
        obtain ⟨k0, k1, k2⟩ := hk0
        by_cases cond : dsS (V h) D kn t x.toInt s < d ∨ (dsS (V h) D kn t x.toInt s = d ∧ pcN 16 s < pcN 16 b)
        · have est : stB (fitS (V h) D kn) (dsS (V h) D kn t x.toInt) (anS (V h) D kn t) (some (b, d, a)) s = some (s, dsS (V h) D kn t x.toInt s, anS (V h) D kn t s) := by
            unfold stB
            rw [hf, if_pos rfl]
            exact if_pos cond
          rw [est]
          obtain ⟨h', r1, r2, r3⟩ := take
          refine ⟨h', k2 _ ?_, r2, r3⟩
          rw [← r1, Ft_nearestSet_87_eq, if_neg (by rw [decide_eq_true_eq]; exact nb)]
          by_cases q1 : dsS (V h) D kn t x.toInt s < d
          · rw [if_pos (by rw [decide_eq_true_eq]; exact lt1.mpr q1)]
            simp only [S2, R2, wS, wR, ↓reduceIte, ax_in, tt, nt, ht, not_false_eq_true, and_self, v']
          · have q2 : dsS (V h) D kn t x.toInt s = d ∧ pcN 16 s < pcN 16 b := by omega
            rw [if_neg (by rw [decide_eq_true_eq]; exact fun z => q1 (lt1.mp z)), if_neg (by rw [decide_eq_true_eq]; exact not_not_intro (eq1.mpr q2.1)), if_neg (by rw [decide_eq_true_eq, k1]; omega)]
            simp only [S2, R2, wS, wR, ↓reduceIte, ax_in, tt, nt, ht, not_false_eq_true, and_self, v']
        · have est : stB (fitS (V h) D kn) (dsS (V h) D kn t x.toInt) (anS (V h) D kn t) (some (b, d, a)) s = some (b, d, a) := by
            unfold stB
            rw [hf, if_pos rfl]
            exact if_neg cond
          rw [est]
          obtain ⟨h', r1, r2, r3⟩ := ih (c + 1) (some (b, d, a)) h2 (by omega) hV2 w2 b3 ru2 ho (fun b d a z => (fr_I b2 rfl).trans ((fr_I a2 rfl).trans (h3 b d a z)))
          refine ⟨h', k2 _ ?_, fr_tr F2 r2, r3⟩
          rw [← nJ_p1] at r1
          rw [← r1, Ft_nearestSet_87_eq, if_neg (by rw [decide_eq_true_eq]; exact nb), if_neg (by rw [decide_eq_true_eq]; exact fun z => cond (Or.inl (lt1.mp z)))]
          by_cases q1 : dsS (V h) D kn t x.toInt s = d
          · rw [if_neg (by rw [decide_eq_true_eq]; exact not_not_intro (eq1.mpr q1)), if_pos (by rw [decide_eq_true_eq, k1]; omega)]
            rfl
          · rw [if_pos (by rw [decide_eq_true_eq]; exact fun z => q1 (eq1.mp z))]
            rfl
def foS (V : BV) (D : WD) (kn : Int32) (t : Nat) (x : Int) : Option (Nat × Int × Int) := (sbL (brB V D kn) 16 0).foldl (stB (fitS V D kn) (dsS V D kn t x) (anS V D kn t)) none
theorem z_nearestSet {D : WD} (f : WF D) {kn : Int32} {h : ax_H} (w : ok h) (g : GV (V h)) (hc : ckOk (V h) D kn) (op : OP h (V h) D kn) {t : Nat} (ht : t < 6) {x : Int32} (hx : -99999 ≤ x.toInt ∧ x.toInt ≤ 99999) : ∃ h', Ft_nearestSet 99 65 (nI t) x h = some (e5 (foS (V h) D kn t x.toInt), h') ∧ fr Sc h h' ∧ (∀ b d a, foS (V h) D kn t x.toInt = some (b, d, a) → gI h' 99 3 = Int32.ofInt a) := by
  obtain ⟨h1, a1, a2, a3, a4⟩ := z_fr_7 f (kn := kn) g (nP (V h)) 0 h (by omega) rfl w op (Nat.le_refl _) (Nat.zero_le 8) (fun k y z => by cases z)
  have hV := V_frc (S156_c a2)
  obtain ⟨h', r1, r2, r3⟩ := z_ns_19 f (kn := kn) g hc a4 ht hx (2 ^ (flF (brB (V h) D kn) 16 0).length) 0 none h1 (by omega) hV (ok_fr a2 w) (OP_fr a2 f (fun a k z => by simp only [S156, decide_eq_false_iff_not]; omega) (fun t _ _ => fr_I a2 rfl) op) a3 (fun b d a z => by cases z) (fun b d a z => by cases z)
  rw [← List.range_eq_range', ← sb_el] at r1 r3
  obtain ⟨wS, wR, wG, wN⟩ := w
  refine ⟨h', ?_, fr_tr (S156_c a2) r2, r3⟩
  have a1' : Ft_findRulable 99 70 h = some (nI (flF (brB (V h) D kn) 16 0).length, h1) := by rw [Ft_findRulable_eq]; exact a1
  rw [Ft_nearestSet_eq]
  simp only [wS, wR, ↓reduceIte]
  rw [bnd a1']
  exact r1
