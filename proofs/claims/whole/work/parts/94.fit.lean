/-! fit: the reference's whole -/
def apB (S : Nat → Int) (n : Nat) : Nat → Nat → Bool
  | 0, _ => true
  | k + 1, a => ptB S n a && apB S n k (a + 1)
def ANm (h : ax_H) (D : WD) (S : Nat → Int) (a : Nat) : Prop := ∀ j t, a ≤ j → (FT D)[j]? = some t → gL h 190 t = Int64.ofInt (ansS S (FT D).length j)
theorem zm_sv_106 {D : WD} (f : WF D) (h1 : 1 ≤ (FT D).length) {A : Nat → Nat → Int} {R S : Nat → Int} (as : AS A R S) (z : ZS S (FT D).length) (B : svB S (FT D).length) (hD : 0 < detS S (FT D).length) : ∀ (m a : Nat) (fl : Bool) (h : ax_H), a + m = (FT D).length → ok h → ftM h (FT D) → RQ h (FT D).length A R → ∃ h', M_solves_106 159 (Int64.ofInt (detS S (FT D).length)) (bB fl) (nI a) h = some (bB (fl && apB S (FT D).length m a), h') ∧ fr Ssv h h' ∧ (apB S (FT D).length m a = true → ANm h' D S a) ∧ ∀ t, t < 6 → (∀ j, a ≤ j → ¬ (FT D)[j]? = some t) → gL h' 190 t = gL h 190 t := by
  have hf3 := FT_3 f
  have hN : 1 ≤ (FT D).length ∧ (FT D).length ≤ 3 := ⟨h1, hf3⟩
  intro m
  induction m with
  | zero =>
    intro a fl h ha w ft rq
    obtain ⟨wS, wR, wG, wN⟩ := w
    have q1 := ft.1
    have hle : nI (FT D).length ≤ nI a := by rw [nJ_le (by omega) (by omega)]; omega
    refine ⟨h, ?_, fr_rf _ _, fun _ j t hj ht => by have := (List.getElem?_eq_some_iff.mp ht).1; omega, fun t _ _ => rfl⟩
    rw [M_solves_106_eq]
    simp only [gI_pI, gI_pL, gI_pR, gL_pI, gL_pL, gL_pR, gR_pI, gR_pL, gR_pR, gS_pI, gS_pL, gS_pR, ↓reduceIte, Nat.reduceEqDiff, decide_eq_true_eq, Option.bind_some, false_and, and_false, true_and, and_true, and_self, Nat.reduceAdd, not_false_eq_true, not_true_eq_false, wS, wR, inI, ite_self, Classical.not_not, q1, hle]
    cases fl <;> rfl
  | succ m ih =>
    intro a fl h ha w ft rq
    have w0 := w
    obtain ⟨wS, wR, wG, wN⟩ := w
    have q1 := ft.1
    have hle : ¬ nI (FT D).length ≤ nI a := by rw [nJ_le (by omega) (by omega)]; omega
    have hal : a < (FT D).length := by omega
    have hget := List.getElem?_eq_getElem hal
    obtain ⟨t, ht⟩ : ∃ t, t = (FT D)[a] := ⟨_, rfl⟩
    rw [← ht] at hget
    have F2 : fr S512 h (pL (pL h 159 51 0) 159 52 0) := fr_tr (fr_pL rfl) (fr_pL rfl)
    obtain ⟨h3, Q2, R2, s1, s2, s3, s4, s5⟩ := zm_sv_128 hN as z B hal hD (bB fl) (FT D).length 0 0 0 (pL (pL h 159 51 0) 159 52 0) (by omega) (ok_fr F2 w0) (RQ_fr F2 rfl (fun _ => rfl) (fun _ => rfl) rq) ⟨by rw [gL_pL, if_neg (fun z => absurd z.2 (by decide)), gL_pL, if_pos ⟨rfl, rfl⟩]; rfl, by rw [gL_pL, if_pos ⟨rfl, rfl⟩]; rfl⟩ (by rw [Int.zero_mul]; rfl) (by
      rw [show ((0 : Nat) : Int) = 0 from rfl, Int.zero_mul]
      omega)
    have F3 : fr Ssv h h3 := fr_tr (S512_v F2) (S512_v s2)
    have ft3 : ftM h3 (FT D) := ftM_fr F3 rfl (fun _ => rfl) ft
    obtain ⟨v, e1, e2⟩ := zm_sv_end (ok_fr F3 w0) ft3 B hD hf3 hget fl s3 s4 s5
    have F4 : fr Ssv h (pL h3 190 t v) := fr_tr F3 (fr_pL rfl)
    obtain ⟨h', r1, r2, r3, r4⟩ := ih (a + 1) (fl && ptB S (FT D).length a) (pL h3 190 t v) (by omega) (ok_fr F4 w0) (ftM_fr F4 rfl (fun _ => rfl) ft) (RQ_fr F4 rfl (fun _ => rfl) (fun _ => rfl) rq)
    refine ⟨h', ?_, fr_tr F4 r2, fun hb j u hj hu => ?_, fun u hu hn => ?_⟩
    · rw [apB, ← Bool.and_assoc, ← r1, ← e1]
      have s1' : M_solves_128 159 (Int64.ofInt (detS S (FT D).length)) (bB fl) (nI a) 0 (pL (pL h 159 51 0) 159 52 0) = _ := s1
      rw [← s1', M_solves_106_eq]
      simp only [gI_pI, gI_pL, gI_pR, gL_pI, gL_pL, gL_pR, gR_pI, gR_pL, gR_pR, gS_pI, gS_pL, gS_pR, ↓reduceIte, Nat.reduceEqDiff, decide_eq_true_eq, Option.bind_some, false_and, and_false, true_and, and_true, and_self, Nat.reduceAdd, not_false_eq_true, not_true_eq_false, wS, wR, inI, ite_self, Classical.not_not, q1, hle]
    · rw [apB, Bool.and_eq_true] at hb
      by_cases q : j = a
      · subst q
        rw [hget] at hu
        injection hu with hu
        subst hu
        rw [r4 _ (FT_mem hget).1 (fun j' hj' hh => by have := FT_inj hget hh; omega), gL_pL, if_pos ⟨rfl, rfl⟩]
        exact e2 hb.1
      · exact r3 hb.2 j u (by omega) hu
    · rw [r4 u hu (fun j hj => hn j (by omega)), gL_pL, if_neg]
      · rw [fr_L s2 rfl]
        rfl
      · rintro ⟨_, rfl⟩
        exact hn a (Nat.le_refl _) hget
theorem zm_sv_2 {D : WD} (f : WF D) {V0 : BV} {kn : Int32} : ∀ (m t : Nat) (h : ax_H), t + m = 6 → ok h → BEG h V0 D kn → ∃ h', M_solves_2 159 (nI t) h = M_solves_2 159 (nI 6) h' ∧ fr Ssv h h' ∧ ∀ u, u < 6 → gL h' 190 u = if t ≤ u then Int64.ofInt (nmZ V0 D kn u) else gL h 190 u := by
  intro m
  induction m with
  | zero =>
    intro t h ht w bg
    have : t = 6 := by omega
    subst this
    exact ⟨h, rfl, fr_rf _ _, fun u hu => by rw [if_neg (by omega)]⟩
  | succ m ih =>
    intro t h ht w bg
    have w0 := w
    obtain ⟨wS, wR, wG, wN⟩ := w
    have ht6 : t < 6 := by omega
    have hle : ¬ (6 : Int32) ≤ nI t := by rw [show (6 : Int32) = nI 6 from rfl, nJ_le (by omega) (by omega)]; omega
    have tn : (nI t).toNatClampNeg = t := nJ_n (by omega)
    have nn : ¬ nI t < 0 := nJ_nn (by omega)
    obtain ⟨b1, b2⟩ := bg.2 t ht6
    have F1 : fr Ssv h (pL h 190 t (Int64.ofInt (nmZ V0 D kn t))) := fr_pL rfl
    obtain ⟨h', r1, r2, r3⟩ := ih (t + 1) (pL h 190 t (Int64.ofInt (nmZ V0 D kn t))) (by omega) (ok_fr F1 w0) (BEG_fr F1 rfl (fun _ => rfl) (fun _ => rfl) (fun _ => rfl) bg)
    refine ⟨h', ?_, fr_tr F1 r2, fun u hu => ?_⟩
    · rw [← r1, M_solves_2_eq]
      by_cases q : D.1 t = 2 ∨ D.1 t = 3
      · have c0 : ¬ bB (hdB D t) = 0 := by unfold hdB; rw [decide_eq_true q]; decide
        simp only [gI_pI, gI_pL, gI_pR, gL_pI, gL_pL, gL_pR, gR_pI, gR_pL, gR_pR, gS_pI, gS_pL, gS_pR, ↓reduceIte, Nat.reduceEqDiff, decide_eq_true_eq, Option.bind_some, false_and, and_false, true_and, and_true, and_self, Nat.reduceAdd, not_false_eq_true, not_true_eq_false, wS, wR, inI, ite_self, Classical.not_not, hle, ax_in, tn, nn, ht6, b1, c0, b2, nJ_p1]
      · have c0 : bB (hdB D t) = 0 := by unfold hdB; rw [decide_eq_false q]; rfl
        have e0 : nmZ V0 D kn t = 0 := nm_un f kn ht6 (fun z => q (Or.inl z)) (fun z => q (Or.inr z))
        rw [e0]
        simp only [gI_pI, gI_pL, gI_pR, gL_pI, gL_pL, gL_pR, gR_pI, gR_pL, gR_pR, gS_pI, gS_pL, gS_pR, ↓reduceIte, Nat.reduceEqDiff, decide_eq_true_eq, Option.bind_some, false_and, and_false, true_and, and_true, and_self, Nat.reduceAdd, not_false_eq_true, not_true_eq_false, wS, wR, inI, ite_self, Classical.not_not, hle, ax_in, tn, nn, ht6, b1, c0, nJ_p1]
        rfl
    · rw [r3 u hu, gL_pL]
      by_cases q : u = t
      · subst q
        rw [if_neg (by omega), if_pos ⟨rfl, rfl⟩, if_pos (Nat.le_refl _)]
      · rw [if_neg (show ¬ (190 = 190 ∧ u = t) from fun z => q z.2)]
        by_cases q2 : t ≤ u
        · rw [if_pos (by omega), if_pos q2]
        · rw [if_neg (by omega), if_neg q2]
theorem slB_0 {S : Nat → Int} : slB S 0 = decide (¬ S 12 = 0) := by
  unfold slB
  simp
theorem slB_ap {S : Nat → Int} {n : Nat} (h : 1 ≤ n ∧ n ≤ 3) : slB S n = (decide (¬ S 12 = 0) && apB S n n 0) := by
  have hc : n = 1 ∨ n = 2 ∨ n = 3 := by omega
  unfold slB
  rcases hc with rfl | rfl | rfl <;> simp [apB]
/-- what solves gives: taken, sums and held ones as before -/
theorem zm_solves {h : ax_H} (w : ok h) {D : WD} (f : WF D) {V0 : BV} {kn : Int32} (bg : BEG h V0 D kn) {n : Nat} (hn : n ≤ 100) {Q R S : Nat → Int} (fs : FS h n Q R) (as : AS (fun a b => Q (3 * a + b)) R S) (z : ZS S (FT D).length) (B : svB S (FT D).length) (h12 : S 12 = (n : Int)) (hz : n = 0 → ∀ k, S k = 0) : ∃ h', M_solves 159 h = some (bB (slB S (FT D).length), h') ∧ fr Ssv h h' ∧ (slB S (FT D).length = true → ∀ t, t < 6 → gL h' 190 t = Int64.ofInt (anZ V0 D kn S t)) := by
  have hf3 := FT_3 f
  obtain ⟨h2, a1, a2, a3⟩ := zm_sv_2 f 6 0 h (by omega) w bg
  have w2 := ok_fr a2 w
  have ft2 : ftM h2 (FT D) := ftM_fr a2 rfl (fun _ => rfl) bg.1
  have q1 := ft2.1
  have fs50 : gI h2 159 50 = nI n := (fr_I a2 rfl).trans fs.1
  have rq2 : RQ h2 (FT D).length (fun a b => Q (3 * a + b)) R := ⟨⟨q1, fun a b ha hb => (fr_L a2 rfl).trans (fs.2.1 _ (by omega))⟩, fun b hb => (fr_L a2 rfl).trans (fs.2.2 b hb)⟩
  have w20 := w2
  obtain ⟨wS, wR, wG, wN⟩ := w2
  have h66 : (6 : Int32) ≤ nI 6 := by decide
  have st : M_solves 159 h = M_solves_2 159 (nI 6) h2 := by
    rw [M_solves_eq]
    exact a1
  rw [st, M_solves_2_eq]
  by_cases c : (FT D).length = 0
  · have hF0 : FT D = [] := List.length_eq_zero_iff.mp c
    have c0 : nI (FT D).length = 0 := by rw [c]; rfl
    refine ⟨h2, ?_, a2, fun _ t ht => ?_⟩
    · rw [c, slB_0, h12]
      simp only [gI_pI, gI_pL, gI_pR, gL_pI, gL_pL, gL_pR, gR_pI, gR_pL, gR_pR, gS_pI, gS_pL, gS_pR, ↓reduceIte, Nat.reduceEqDiff, decide_eq_true_eq, Option.bind_some, false_and, and_false, true_and, and_true, and_self, Nat.reduceAdd, not_false_eq_true, not_true_eq_false, wS, wR, inI, ite_self, Classical.not_not, h66, q1, c0, fs50]
      by_cases q : n = 0
      · subst q
        rfl
      · have : ¬ nI n ≤ 0 := nI_nle (by omega) (by omega)
        rw [if_neg this, decide_eq_true (show ¬ (n : Int) = 0 by omega)]
        rfl
    · rw [a3 t ht, if_pos (Nat.zero_le _)]
      unfold anZ
      by_cases q : D.1 t = 1
      · have hm : t ∈ FT D := (flF_mem 6 0).mpr ⟨by omega, by omega, decide_eq_true q⟩
        rw [hF0] at hm
        cases hm
      · rw [if_neg q]
  · have h1 : 1 ≤ (FT D).length := by omega
    have hN : 1 ≤ (FT D).length ∧ (FT D).length ≤ 3 := ⟨h1, hf3⟩
    have c0 : ¬ nI (FT D).length = 0 := nI_ne0 (by omega) (by omega)
    have s63 := zm_sv_63 hN as z B w20 rq2 (FT D).length 0 (by omega)
    have s63' : M_solves_63 159 0 0 h2 = M_solves_63 159 (Int64.ofInt (detS S (FT D).length)) (nI (FT D).length) h2 := s63
    have hle : nI (FT D).length ≤ nI (FT D).length := Int32.le_refl _
    have cd : lg_cmp (Int64.ofInt (detS S (FT D).length)) 0 = 0 ↔ detS S (FT D).length = 0 := by
      have := B.1
      rw [lgc_eq, l_toInt (by omega)]
      rfl
    by_cases dz : detS S (FT D).length = 0
    · refine ⟨h2, ?_, a2, fun hb => ?_⟩
      · have e0 : slB S (FT D).length = false := by
          rw [slB_ap hN]
          have : ptB S (FT D).length 0 = false := by
            unfold ptB
            rw [decide_eq_false_iff_not, dz]
            intro q
            exact absurd q.1 (by decide)
          obtain ⟨k, hk⟩ : ∃ k, (FT D).length = k + 1 := ⟨(FT D).length - 1, by omega⟩
          have ha : apB S (FT D).length (FT D).length 0 = false := by
            have : ∀ k, (FT D).length = k + 1 → apB S (FT D).length (k + 1) 0 = false := fun k _ => by rw [apB, this, Bool.false_and]
            have := this k hk
            rw [← hk] at this
            exact this
          rw [ha, Bool.and_false]
        rw [e0]
        simp only [gI_pI, gI_pL, gI_pR, gL_pI, gL_pL, gL_pR, gR_pI, gR_pL, gR_pR, gS_pI, gS_pL, gS_pR, ↓reduceIte, Nat.reduceEqDiff, decide_eq_true_eq, Option.bind_some, false_and, and_false, true_and, and_true, and_self, Nat.reduceAdd, not_false_eq_true, not_true_eq_false, wS, wR, inI, ite_self, Classical.not_not, h66, q1, c0, s63']
        rw [M_solves_63_eq]
        simp only [gI_pI, gI_pL, gI_pR, gL_pI, gL_pL, gL_pR, gR_pI, gR_pL, gR_pR, gS_pI, gS_pL, gS_pR, ↓reduceIte, Nat.reduceEqDiff, decide_eq_true_eq, Option.bind_some, false_and, and_false, true_and, and_true, and_self, Nat.reduceAdd, not_false_eq_true, not_true_eq_false, wS, wR, inI, ite_self, Classical.not_not, q1, hle, cd, dz]
        rfl
      · rw [slB_ap hN, Bool.and_eq_true] at hb
        have : ptB S (FT D).length 0 = true := by
          obtain ⟨k, hk⟩ : ∃ k, (FT D).length = k + 1 := ⟨(FT D).length - 1, by omega⟩
          have h2 := hb.2
          have : ∀ k, apB S (FT D).length (k + 1) 0 = true → ptB S (FT D).length 0 = true := fun k q => by rw [apB, Bool.and_eq_true] at q; exact q.1
          refine this k ?_
          rw [← hk]
          exact h2
        unfold ptB at this
        rw [decide_eq_true_eq, dz] at this
        exact absurd this.1 (by decide)
    · have hD : 0 < detS S (FT D).length := by have := B.1; omega
      have n12 : ¬ S 12 = 0 := by
        intro q
        have hn0 : n = 0 := by omega
        have hs := hz hn0
        apply dz
        unfold detS d3 pdS
        rw [if_pos (by omega), hs 0, hs 1, hs 2]
        omega
      obtain ⟨h', r1, r2, r3, r4⟩ := zm_sv_106 f h1 as z B hD (FT D).length 0 true h2 (by omega) w20 ft2 rq2
      rw [Bool.true_and] at r1
      have es : slB S (FT D).length = apB S (FT D).length (FT D).length 0 := by rw [slB_ap hN, decide_eq_true n12, Bool.true_and]
      refine ⟨h', ?_, fr_tr a2 r2, fun hb t ht => ?_⟩
      · rw [es]
        simp only [gI_pI, gI_pL, gI_pR, gL_pI, gL_pL, gL_pR, gR_pI, gR_pL, gR_pR, gS_pI, gS_pL, gS_pR, ↓reduceIte, Nat.reduceEqDiff, decide_eq_true_eq, Option.bind_some, false_and, and_false, true_and, and_true, and_self, Nat.reduceAdd, not_false_eq_true, not_true_eq_false, wS, wR, inI, ite_self, Classical.not_not, h66, q1, c0, s63']
        rw [M_solves_63_eq]
        simp only [gI_pI, gI_pL, gI_pR, gL_pI, gL_pL, gL_pR, gR_pI, gR_pL, gR_pR, gS_pI, gS_pL, gS_pR, ↓reduceIte, Nat.reduceEqDiff, decide_eq_true_eq, Option.bind_some, false_and, and_false, true_and, and_true, and_self, Nat.reduceAdd, not_false_eq_true, not_true_eq_false, wS, wR, inI, ite_self, Classical.not_not, q1, hle, cd, dz]
        exact r1
      · rw [es] at hb
        unfold anZ
        by_cases q : D.1 t = 1
        · rw [if_pos q]
          have hm : t ∈ FT D := (flF_mem 6 0).mpr ⟨by omega, by omega, decide_eq_true q⟩
          exact r3 hb _ t (Nat.zero_le _) (ixL_get hm)
        · rw [if_neg q, r4 t ht (fun j _ hj => q (FT_mem hj).2), a3 t ht, if_pos (Nat.zero_le _)]
theorem as_sv (V : BV) (ft : List Nat) (d : Nat → Nat → Int) (L : List Nat) : AS (fun a b => 0 + sg (fun j => rqZ V ft j (3 * a + b)) L) (fun k => 0 + sg (fun j => rpZ V ft d j k) L) (sv V ft d L) := by
  have cm : ∀ a b, sg (fun j => gF V ft a j 0 * gF V ft b j 0 + gF V ft a j 1 * gF V ft b j 1) L = sg (fun j => gF V ft b j 0 * gF V ft a j 0 + gF V ft b j 1 * gF V ft a j 1) L := fun a b => sg_cg fun x _ => by rw [Int.mul_comm, Int.mul_comm (gF V ft a x 1)]
  refine ⟨⟨?_, ?_, ?_, ?_, ?_, ?_, ?_, ?_, ?_⟩, ?_, ?_, ?_⟩ <;> dsimp only <;> rw [Int.zero_add]
  · rfl
  · rfl
  · exact cm 1 0
  · rfl
  · exact cm 2 0
  · rfl
  · rfl
  · exact cm 2 1
  · rfl
  · rfl
  · rfl
  · rfl
def Sfi (a k : Nat) : Bool := decide ((a = 159 ∧ (50 ≤ k ∧ k ≤ 52)) ∨ a = 187 ∨ a = 188 ∨ a = 190)
theorem Sfi_m {h h' : ax_H} (q : fr Sfi h h') : fr Sm h h' := fr_le q fun a k z => by simp only [Sm, Sfi, decide_eq_false_iff_not] at z ⊢; omega
theorem Sro_i {h h' : ax_H} (q : fr Sro h h') : fr Sfi h h' := fr_le q fun a k z => by simp only [Sro, Sfi, decide_eq_false_iff_not] at z ⊢; omega
theorem Ssv_i {h h' : ax_H} (q : fr Ssv h h') : fr Sfi h h' := fr_le q fun a k z => by simp only [Ssv, Sfi, decide_eq_false_iff_not] at z ⊢; omega
def mdZ (V : BV) (D : WD) (kn : Int32) (m : Nat → Nat → Int) (i ax : Nat) : Int := m i ax - stZ V D kn i ax
/-- fit, over what is not out -/
theorem zm_fit {h : ax_H} (i0 : I0 h) {D : WD} (f : WF D) {kn : Int32} (hc : ckOk (V h) D kn) (bg : BEG h (V h) D kn) {m : Nat → Nat → Int} (ou : OUT h m) {P : Nat → Bool} (iso : ISO h P) (hm : ∀ i ax, i < nM (V h) → ax < 2 → -498 ≤ m i ax ∧ m i ax ≤ 498) : ∃ h', M_fit 159 h = some (bB (slB (sv (V h) (FT D) (mdZ (V h) D kn m) (flF P (nM (V h)) 0)) (FT D).length), h') ∧ fr Sfi h h' ∧ gI h' 159 50 = nI (flF P (nM (V h)) 0).length ∧ (slB (sv (V h) (FT D) (mdZ (V h) D kn m) (flF P (nM (V h)) 0)) (FT D).length = true → ∀ t, t < 6 → gL h' 190 t = Int64.ofInt (anZ (V h) D kn (sv (V h) (FT D) (mdZ (V h) D kn m) (flF P (nM (V h)) 0)) t)) := by
  have g := i0.2.2
  have hcn := cnts g.1
  have hn := nI_nM g.1.2.2.2.1
  obtain ⟨h1, a1, a2, a3⟩ := zm_empties i0.1
  have hV1 := V_frm (Sro_m a2)
  obtain ⟨h2, b1, b2, b3⟩ := zm_fi_6 f (kn := kn) (P := P) (nM (V h1)) 0 0 _ _ h1 (I0_frm (Sro_m a2) i0) (by rw [hV1]; exact hc) (by rw [hV1]; exact BEG_fr a2 rfl (fun _ => rfl) (fun _ => rfl) (fun _ => rfl) bg) (OUT_fr a2 hV1 (fun _ => rfl) (fun _ => rfl) ou) (ISO_fr a2 hV1 (fun _ => rfl) iso) (fun i ax hi hax => by rw [hV1] at hi; have := hm i ax hi hax; omega) a3 (by omega)
  rw [hV1] at b1 b3
  have F2 : fr Sro h h2 := fr_tr a2 b2
  have hV2 := V_frm (Sro_m F2)
  have i2 := I0_frm (Sro_m F2) i0
  have hlen := flF_len (P := P) (nM (V h)) 0
  have hL : ∀ i ∈ flF P (nM (V h)) 0, i < nM (V h) := fun i hi => by have := (flF_mem (nM (V h)) 0).mp hi; omega
  have hB : svB (sv (V h) (FT D) (mdZ (V h) D kn m) (flF P (nM (V h)) 0)) (FT D).length := sv_bd g f hL (by omega) (fun i hi ax hax => by
    have x1 := hm i ax (hL i hi) hax
    have x2 := (dZ_bd g f hc (hL i hi) ax).2
    unfold mdZ
    omega)
  rw [Nat.zero_add] at b3
  have bg2 : BEG h2 (V h) D kn := BEG_fr F2 rfl (fun _ => rfl) (fun _ => rfl) (fun _ => rfl) bg
  obtain ⟨h3, c1, c2, c3⟩ := zm_solves i2.1 f bg2 (by omega) b3 (as_sv (V h) (FT D) (mdZ (V h) D kn m) (flF P (nM (V h)) 0)) (sv_ZS _ _ _ _) hB (by
    show sg (fun _ => (1 : Int)) (flF P (nM (V h)) 0) = _
    rw [sg_const]; omega) (fun hz k => by rw [List.length_eq_zero_iff.mp hz]; rfl)
  refine ⟨h3, ?_, fr_tr (Sro_i F2) (Ssv_i c2), (fr_I c2 rfl).trans b3.1, c3⟩
  obtain ⟨w0, e0, -⟩ := i2
  obtain ⟨vS, vR, -, -⟩ := w0
  have e := EQ_a e0
  unfold EQa at e
  rw [hV2] at e
  obtain ⟨wS, wR, -, -⟩ := i0.1
  have b1' : M_fit_6 159 0 h1 = M_fit_6 159 (nI (nM (V h))) h2 := b1
  have hle : nI (nM (V h)) ≤ nI (nM (V h)) := Int32.le_refl _
  rw [M_fit_eq]
  simp only [wS, ↓reduceIte, ↓bnd a1, b1']
  rw [M_fit_6_eq]
  simp only [vS, ↓reduceIte, e, hn, hle, decide_true, ↓bnd c1]
  cases slB (sv (V h) (FT D) (mdZ (V h) D kn m) (flF P (nM (V h)) 0)) (FT D).length <;> rfl
