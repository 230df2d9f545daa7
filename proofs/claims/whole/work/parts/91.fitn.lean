/-! the sums of a fit: the reference's -/
def rqZ (V : BV) (ft : List Nat) (i k : Nat) : Int := gF V ft (k / 3) i 0 * gF V ft (k % 3) i 0 + gF V ft (k / 3) i 1 * gF V ft (k % 3) i 1
def rpZ (V : BV) (ft : List Nat) (d : Nat → Nat → Int) (i k : Nat) : Int := gF V ft k i 0 * d i 0 + gF V ft k i 1 * d i 1
def Sro (a k : Nat) : Bool := decide ((a = 159 ∧ k = 50) ∨ a = 187 ∨ a = 188)
theorem Sro_m {h h' : ax_H} (q : fr Sro h h') : fr Sm h h' := fr_le q fun a k z => by simp only [Sm, Sro, decide_eq_false_iff_not] at z ⊢; omega
theorem S178_o {h h' : ax_H} (q : fr S178 h h') : fr Sro h h' := fr_le q fun a k z => by simp only [S178, Sro, decide_eq_false_iff_not] at z ⊢; omega
theorem BEG_fr {S : Nat → Nat → Bool} {h h' : ax_H} (q : fr S h h') (z1 : S 159 49 = false) (z2 : ∀ k, S 185 k = false) (z3 : ∀ k, S 186 k = false) (z4 : ∀ k, S 191 k = false) {V0 : BV} {D : WD} {kn : Int32} (p : BEG h V0 D kn) : BEG h' V0 D kn := ⟨ftM_fr q z1 z2 p.1, fun u hu => ⟨(fr_I q (z4 u)).trans (p.2 u hu).1, (fr_L q (z3 u)).trans (p.2 u hu).2⟩⟩
theorem OUT_fr {h h' : ax_H} {S : Nat → Nat → Bool} (q : fr S h h') (hV : V h' = V h) (z1 : ∀ k, S 192 k = false) (z2 : ∀ k, S 193 k = false) {m : Nat → Nat → Int} (p : OUT h m) : OUT h' m := fun i hi => by
  rw [hV] at hi
  exact ⟨(fr_I q (z1 i)).trans (p i hi).1, (fr_I q (z2 i)).trans (p i hi).2⟩
theorem ISO_fr {h h' : ax_H} {S : Nat → Nat → Bool} (q : fr S h h') (hV : V h' = V h) (z1 : ∀ k, S 194 k = false) {P : Nat → Bool} (p : ISO h P) : ISO h' P := fun i hi => by
  rw [hV] at hi
  exact (fr_I q (z1 i)).trans (p i hi)
def FS (h : ax_H) (n : Nat) (Q R : Nat → Int) : Prop := gI h 159 50 = nI n ∧ (∀ k, k < 9 → gL h 187 k = Int64.ofInt (Q k)) ∧ ∀ k, k < 3 → gL h 188 k = Int64.ofInt (R k)
theorem zm_rows {h : ax_H} (i0 : I0 h) {D : WD} (f : WF D) {kn : Int32} (hc : ckOk (V h) D kn) (bg : BEG h (V h) D kn) {m : Nat → Nat → Int} (ou : OUT h m) {i : Nat} (hi : i < nM (V h)) (hm : ∀ ax, ax < 2 → -1000000 ≤ m i ax ∧ m i ax ≤ 1000000) {n : Nat} {Q R : Nat → Int} (fs : FS h n Q R) : ∃ h', M_rows 159 (nI i) 1 h = some h' ∧ fr Sro h h' ∧ FS h' (n + 1) (fun k => Q k + rqZ (V h) (FT D) i k) (fun k => R k + rpZ (V h) (FT D) (fun i ax => m i ax - stZ (V h) D kn i ax) i k) := by
  obtain ⟨s1, s2, s3⟩ := fs
  have F1 : fr Sro h (pI h 159 50 (nI (n + 1))) := fr_pI rfl
  have hV1 := V_frm (Sro_m F1)
  have i1 := I0_frm (Sro_m F1) i0
  have bg1 : BEG (pI h 159 50 (nI (n + 1))) (V h) D kn := BEG_fr F1 rfl (fun _ => rfl) (fun _ => rfl) (fun _ => rfl) bg
  have l0 := zm_left i1 f (by rw [hV1]; exact hc) (by rw [hV1]; exact bg1) (OUT_fr F1 hV1 (fun _ => rfl) (fun _ => rfl) ou) (i := i) (ax := 0) (by rw [hV1]; exact hi) (by omega) (hm 0 (by omega))
  rw [hV1] at l0
  obtain ⟨h2, a1, a2, a3, a4⟩ := zm_ro_28 f (ax := 0) (by omega) (m i 0 - stZ (V h) D kn i 0) (fun j => gF (V h) (FT D) j i 0) (FT D).length 0 _ (by omega) i1 (by rw [hV1]; exact hi) bg1.1 (fun j => by rw [hV1])
  have F2 : fr Sro h h2 := fr_tr F1 (S178_o a2)
  have hV2 := V_frm (Sro_m F2)
  have i2 := I0_frm (Sro_m F2) i0
  have bg2 : BEG h2 (V h) D kn := BEG_fr F2 rfl (fun _ => rfl) (fun _ => rfl) (fun _ => rfl) bg
  have l1 := zm_left i2 f (by rw [hV2]; exact hc) (by rw [hV2]; exact bg2) (OUT_fr F2 hV2 (fun _ => rfl) (fun _ => rfl) ou) (i := i) (ax := 1) (by rw [hV2]; exact hi) (by omega) (hm 1 (by omega))
  rw [hV2] at l1
  obtain ⟨h3, b1, b2, b3, b4⟩ := zm_ro_28 f (ax := 1) (by omega) (m i 1 - stZ (V h) D kn i 1) (fun j => gF (V h) (FT D) j i 1) (FT D).length 0 _ (by omega) i2 (by rw [hV2]; exact hi) bg2.1 (fun j => by rw [hV2])
  refine ⟨h3, ?_, fr_tr F2 (S178_o b2), ⟨?_, fun k hk => ?_, fun k hk => ?_⟩⟩
  · obtain ⟨wS, wR, wG, wN⟩ := i0.1
    obtain ⟨vS, vR, -, -⟩ := i2.1
    have l0' : M_left 159 (nI i) 0 (pI h 159 50 (nI (n + 1))) = some (Int64.ofInt (m i 0 - stZ (V h) D kn i 0), pI h 159 50 (nI (n + 1))) := l0
    have l1' : M_left 159 (nI i) (nI (0 + 1)) h2 = some (Int64.ofInt (m i 1 - stZ (V h) D kn i 1), h2) := l1
    have a1' : M_rows_28 159 (nI i) 1 0 (Int64.ofInt (m i 0 - stZ (V h) D kn i 0)) 0 (pI h 159 50 (nI (n + 1))) = M_rows_12 159 (nI i) 1 (nI (0 + 1)) h2 := a1
    have b1' : M_rows_28 159 (nI i) 1 (nI (0 + 1)) (Int64.ofInt (m i 1 - stZ (V h) D kn i 1)) 0 h2 = M_rows_12 159 (nI i) 1 (nI (1 + 1)) h3 := b1
    have e1 : nI n + 1 = nI (n + 1) := nJ_p1 n
    rw [M_rows_eq]
    simp only [wS, ↓reduceIte, s1, e1]
    rw [M_rows_12_eq]
    simp only [show ¬ (2 : Int32) ≤ 0 by decide, decide_false, Bool.false_eq_true, ↓reduceIte, gS_pI, wS, ↓bnd l0', a1']
    rw [M_rows_12_eq]
    simp only [show ¬ (2 : Int32) ≤ nI (0 + 1) by decide, decide_false, Bool.false_eq_true, ↓reduceIte, vS, ↓bnd l1', b1']
    rw [M_rows_12_eq]
    simp only [show (2 : Int32) ≤ nI (1 + 1) by decide, decide_true, ↓reduceIte]
  · rw [fr_I b2 rfl, fr_I a2 rfl, gI_pI, if_pos ⟨rfl, rfl⟩]
  · rw [b3 k hk, a3 k hk, if_pos (by omega), if_pos (by omega)]
    show gL h 187 k + _ + _ = _
    rw [s2 k hk, ← Int64.ofInt_add, ← Int64.ofInt_add]
    congr 1
    unfold rqZ
    dsimp only
    omega
  · rw [b4 k hk, a4 k hk, if_pos (by omega), if_pos (by omega)]
    show gL h 188 k + _ + _ = _
    rw [s3 k hk, ← Int64.ofInt_add, ← Int64.ofInt_add]
    congr 1
    unfold rpZ
    dsimp only
    omega
theorem zm_em_21 {a : Nat} (ha : a < 3) : ∀ (m b : Nat) (h : ax_H), b + m = 3 → ok h → ∃ h', M_empties_21 159 (nI a) (nI b) h = M_empties_7 159 (nI (a + 1)) h' ∧ fr S187 h h' ∧ ∀ k, k < 9 → gL h' 187 k = if 3 * a + b ≤ k ∧ k < 3 * a + 3 then 0 else gL h 187 k := by
  intro m
  induction m with
  | zero =>
    intro b h hb w
    have : b = 3 := by omega
    subst this
    refine ⟨h, ?_, fr_rf _ _, fun k hk => by rw [if_neg (by omega)]⟩
    have h3 : (3 : Int32) ≤ nI 3 := by decide
    rw [M_empties_21_eq]
    simp only [h3, decide_true, ↓reduceIte, nJ_p1]
  | succ m ih =>
    intro b h hb w
    have hle : ¬ (3 : Int32) ≤ nI b := by rw [show (3 : Int32) = nI 3 from rfl, nJ_le (by omega) (by omega)]; omega
    have e3 : (3 : Int32) * nI a + nI b = nI (3 * a + b) := by rw [show (3 : Int32) = nI 3 from rfl, pk_mul, nI_add]
    have tx : (nI (3 * a + b)).toNatClampNeg = 3 * a + b := nJ_n (by omega)
    have nx : ¬ nI (3 * a + b) < 0 := nJ_nn (by omega)
    have hx : 3 * a + b < 9 := by omega
    obtain ⟨h', r1, r2, r3⟩ := ih (b + 1) (pL h 187 (3 * a + b) 0) (by omega) (ok_pL w _ _ _)
    obtain ⟨wS, wR, wG, wN⟩ := w
    refine ⟨h', ?_, fr_tr (fr_pL rfl) r2, fun k hk => ?_⟩
    · rw [← r1, M_empties_21_eq]
      simp only [gI_pI, gI_pL, gI_pR, gL_pI, gL_pL, gL_pR, gR_pI, gR_pL, gR_pR, gS_pI, gS_pL, gS_pR, ↓reduceIte, Nat.reduceEqDiff, decide_eq_true_eq, Option.bind_some, false_and, and_false, true_and, and_true, and_self, Nat.reduceAdd, not_false_eq_true, not_true_eq_false, wS, wR, inI, ite_self, Classical.not_not, hle, ax_in, e3, tx, nx, hx, nJ_p1]
    · rw [r3 k hk, gL_pL]
      by_cases q : k = 3 * a + b
      · rw [if_neg (by omega), if_pos ⟨rfl, q⟩, if_pos (by omega)]
      · rw [if_neg (show ¬ (187 = 187 ∧ k = 3 * a + b) from fun z => q z.2)]
        by_cases q2 : 3 * a + b ≤ k ∧ k < 3 * a + 3
        · rw [if_pos (by omega), if_pos q2]
        · rw [if_neg (by omega), if_neg q2]
theorem zm_em_7 : ∀ (m a : Nat) (h : ax_H), a + m = 3 → ok h → ∃ h', M_empties_7 159 (nI a) h = some h' ∧ fr S178 h h' ∧ (∀ k, k < 9 → gL h' 187 k = if 3 * a ≤ k then 0 else gL h 187 k) ∧ ∀ k, k < 3 → gL h' 188 k = if a ≤ k then 0 else gL h 188 k := by
  intro m
  induction m with
  | zero =>
    intro a h ha w
    have : a = 3 := by omega
    subst this
    refine ⟨h, ?_, fr_rf _ _, fun k hk => by rw [if_neg (by omega)], fun k hk => by rw [if_neg (by omega)]⟩
    have h3 : (3 : Int32) ≤ nI 3 := by decide
    rw [M_empties_7_eq]
    simp only [h3, decide_true, ↓reduceIte]
  | succ m ih =>
    intro a h ha w
    have hle : ¬ (3 : Int32) ≤ nI a := by rw [show (3 : Int32) = nI 3 from rfl, nJ_le (by omega) (by omega)]; omega
    have tx : (nI a).toNatClampNeg = a := nJ_n (by omega)
    have nx : ¬ nI a < 0 := nJ_nn (by omega)
    have hx : a < 3 := by omega
    obtain ⟨h1, s1, s2, s3⟩ := zm_em_21 hx 3 0 (pL h 188 a 0) (by omega) (ok_pL w _ _ _)
    have F1 : fr S178 h h1 := fr_tr (fr_pL rfl) (S187_8 s2)
    obtain ⟨h', r1, r2, r3, r4⟩ := ih (a + 1) h1 (by omega) (ok_fr F1 w)
    obtain ⟨wS, wR, wG, wN⟩ := w
    refine ⟨h', ?_, fr_tr F1 r2, fun k hk => ?_, fun k hk => ?_⟩
    · rw [← r1, ← s1, M_empties_7_eq]
      simp only [gI_pI, gI_pL, gI_pR, gL_pI, gL_pL, gL_pR, gR_pI, gR_pL, gR_pR, gS_pI, gS_pL, gS_pR, ↓reduceIte, Nat.reduceEqDiff, decide_eq_true_eq, Option.bind_some, false_and, and_false, true_and, and_true, and_self, Nat.reduceAdd, not_false_eq_true, not_true_eq_false, wS, wR, inI, ite_self, Classical.not_not, hle, ax_in, tx, nx, hx]
      rfl
    · rw [r3 k hk, s3 k hk]
      by_cases q : 3 * a ≤ k
      · rw [if_pos q]
        by_cases q2 : 3 * (a + 1) ≤ k
        · rw [if_pos q2]
        · rw [if_neg q2, if_pos (by omega)]
      · rw [if_neg q, if_neg (by omega), if_neg (by omega)]
        rfl
    · rw [r4 k hk, fr_L s2 rfl, gL_pL]
      by_cases q : k = a
      · rw [if_neg (by omega), if_pos ⟨rfl, q⟩, if_pos (by omega)]
      · rw [if_neg (show ¬ (188 = 188 ∧ k = a) from fun z => q z.2)]
        by_cases q2 : a ≤ k
        · rw [if_pos (by omega), if_pos q2]
        · rw [if_neg (by omega), if_neg q2]
theorem zm_empties {h : ax_H} (w : ok h) : ∃ h', M_empties 159 h = some h' ∧ fr Sro h h' ∧ FS h' 0 (fun _ => 0) (fun _ => 0) := by
  have F1 : fr Sro h (pI h 159 50 0) := fr_pI rfl
  obtain ⟨h', r1, r2, r3, r4⟩ := zm_em_7 3 0 (pI h 159 50 0) (by omega) (ok_fr F1 w)
  obtain ⟨wS, wR, wG, wN⟩ := w
  refine ⟨h', ?_, fr_tr F1 (S178_o r2), ⟨by rw [fr_I r2 rfl, gI_pI, if_pos ⟨rfl, rfl⟩]; rfl, fun k hk => by rw [r3 k hk, if_pos (by omega)]; rfl, fun k hk => by rw [r4 k hk, if_pos (by omega)]; rfl⟩⟩
  rw [M_empties_eq]
  simp only [wS, ↓reduceIte]
  exact r1
theorem zm_fi_6 {D : WD} (f : WF D) {kn : Int32} {m : Nat → Nat → Int} {P : Nat → Bool} : ∀ (k i n : Nat) (Q R : Nat → Int) (h : ax_H), I0 h → ckOk (V h) D kn → BEG h (V h) D kn → OUT h m → ISO h P → (∀ i ax, i < nM (V h) → ax < 2 → -1000000 ≤ m i ax ∧ m i ax ≤ 1000000) → FS h n Q R → i + k = nM (V h) → ∃ h', M_fit_6 159 (nI i) h = M_fit_6 159 (nI (nM (V h))) h' ∧ fr Sro h h' ∧ FS h' (n + (flF P k i).length) (fun k' => Q k' + sg (fun j => rqZ (V h) (FT D) j k') (flF P k i)) (fun k' => R k' + sg (fun j => rpZ (V h) (FT D) (fun i ax => m i ax - stZ (V h) D kn i ax) j k') (flF P k i)) := by
  intro k
  induction k with
  | zero =>
    intro i n Q R h i0 hc bg ou iso hm fs hi
    have : i = nM (V h) := by omega
    subst this
    refine ⟨h, rfl, fr_rf _ _, ?_⟩
    obtain ⟨s1, s2, s3⟩ := fs
    exact ⟨s1, fun k hk => by rw [s2 k hk]; dsimp only; rw [flF, sg_nil, Int.add_zero], fun k hk => by rw [s3 k hk]; dsimp only; rw [flF, sg_nil, Int.add_zero]⟩
  | succ k ih =>
    intro i n Q R h i0 hc bg ou iso hm fs hi
    have i00 := i0
    obtain ⟨w0, e0, g⟩ := i0
    have hcn := cnts g.1
    have hn := nI_nM g.1.2.2.2.1
    obtain ⟨wS, wR, wG, wN⟩ := w0
    have e := EQ_a e0
    unfold EQa at e
    have hle : ¬ nI (nM (V h)) ≤ nI i := by rw [nJ_le (by omega) (by omega)]; omega
    have hi2 : i < 100 := by omega
    have tn : (nI i).toNatClampNeg = i := nJ_n (by omega)
    have nn : ¬ nI i < 0 := nJ_nn (by omega)
    have hP := iso i (by omega)
    cases q : P i with
    | false =>
      rw [q] at hP
      obtain ⟨h', r1, r2, r3⟩ := ih (i + 1) n Q R h i00 hc bg ou iso hm fs (by omega)
      refine ⟨h', ?_, r2, by rw [flF, q, if_neg (by decide)]; exact r3⟩
      rw [← r1, M_fit_6_eq]
      simp only [gI_pI, gI_pL, gI_pR, gL_pI, gL_pL, gL_pR, gR_pI, gR_pL, gR_pR, gS_pI, gS_pL, gS_pR, ↓reduceIte, Nat.reduceEqDiff, decide_eq_true_eq, Option.bind_some, false_and, and_false, true_and, and_true, and_self, Nat.reduceAdd, not_false_eq_true, not_true_eq_false, wS, wR, inI, ite_self, Classical.not_not, e, hn, hle, ax_in, tn, nn, hi2, hP, show ¬ bB (!false) = 0 by decide, nJ_p1]
    | true =>
      rw [q] at hP
      obtain ⟨h1, a1, a2, a3⟩ := zm_rows i00 f hc bg ou (i := i) (by omega) (fun ax hax => hm i ax (by omega) hax) fs
      have hV := V_frm (Sro_m a2)
      obtain ⟨h', r1, r2, r3⟩ := ih (i + 1) (n + 1) _ _ h1 (I0_frm (Sro_m a2) i00) (by rw [hV]; exact hc) (by rw [hV]; exact BEG_fr a2 rfl (fun _ => rfl) (fun _ => rfl) (fun _ => rfl) bg) (OUT_fr a2 hV (fun _ => rfl) (fun _ => rfl) ou) (ISO_fr a2 hV (fun _ => rfl) iso) (by rw [hV]; exact hm) a3 (by rw [hV]; omega)
      rw [hV] at r1 r3
      refine ⟨h', ?_, fr_tr a2 r2, ?_⟩
      · rw [← r1, M_fit_6_eq]
        simp only [gI_pI, gI_pL, gI_pR, gL_pI, gL_pL, gL_pR, gR_pI, gR_pL, gR_pR, gS_pI, gS_pL, gS_pR, ↓reduceIte, Nat.reduceEqDiff, decide_eq_true_eq, Option.bind_some, false_and, and_false, true_and, and_true, and_self, Nat.reduceAdd, not_false_eq_true, not_true_eq_false, wS, wR, inI, ite_self, Classical.not_not, e, hn, hle, ax_in, tn, nn, hi2, hP, show bB (!true) = 0 from rfl, nJ_p1, ↓bnd a1]
      · rw [flF, q, if_pos rfl]
        obtain ⟨s1, s2, s3⟩ := r3
        refine ⟨by rw [s1, List.length_cons]; congr 1; omega, fun k' hk => ?_, fun k' hk => ?_⟩
        · rw [s2 k' hk]; dsimp only; rw [sg_cons, Int.add_assoc]
        · rw [s3 k' hk]; dsimp only; rw [sg_cons, Int.add_assoc]
