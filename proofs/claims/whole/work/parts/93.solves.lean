/-! solves: the reference's -/
theorem sv_z {V : BV} {ft : List Nat} {d : Nat → Nat → Int} {L : List Nat} {k : Nat} (hk : k < 12) (h : ft.length ≤ k / 4 ∨ (k % 4 ≠ 3 ∧ ft.length ≤ k % 4)) : sv V ft d L k = 0 := sg_0 fun i _ => by
  unfold rowv
  rw [if_neg (by omega)]
  rcases h with z | ⟨z1, z2⟩
  · rw [gF_no z, gF_no z]
    simp only [Int.zero_mul, Int.add_zero, ite_self]
  · rw [if_neg z1, gF_no z2, gF_no z2]
    simp only [Int.mul_zero, Int.add_zero, ite_self]
/-- the reference's sums and the class's -/
def AS (A : Nat → Nat → Int) (R S : Nat → Int) : Prop := (A 0 0 = S 0 ∧ A 0 1 = S 1 ∧ A 1 0 = S 1 ∧ A 0 2 = S 2 ∧ A 2 0 = S 2 ∧ A 1 1 = S 5 ∧ A 1 2 = S 6 ∧ A 2 1 = S 6 ∧ A 2 2 = S 10) ∧ R 0 = S 3 ∧ R 1 = S 7 ∧ R 2 = S 11
def ZS (S : Nat → Int) (N : Nat) : Prop := (N ≤ 1 → S 1 = 0 ∧ S 5 = 0 ∧ S 7 = 0) ∧ (N ≤ 2 → S 2 = 0 ∧ S 6 = 0 ∧ S 10 = 0 ∧ S 11 = 0)
theorem sv_ZS (V : BV) (ft : List Nat) (d : Nat → Nat → Int) (L : List Nat) : ZS (sv V ft d L) ft.length := by
  refine ⟨fun h => ⟨sv_z (by omega) (Or.inr ⟨by decide, by omega⟩), sv_z (by omega) (Or.inl (by omega)), sv_z (by omega) (Or.inl (by omega))⟩, fun h => ⟨sv_z (by omega) (Or.inr ⟨by decide, by omega⟩), sv_z (by omega) (Or.inr ⟨by decide, by omega⟩), sv_z (by omega) (Or.inl (by omega)), sv_z (by omega) (Or.inl (by omega))⟩⟩
theorem dt_eq {A : Nat → Nat → Int} {R S : Nat → Int} (as : AS A R S) {N : Nat} (hN : 1 ≤ N ∧ N ≤ 3) (z : ZS S N) : zN (fun b => A 0 b * fcZ N A 0 b) N = detS S N := by
  obtain ⟨⟨a00, a01, a10, a02, a20, a11, a12, a21, a22⟩, r0, r1, r2⟩ := as
  have hc : N = 1 ∨ N = 2 ∨ N = 3 := by omega
  rcases hc with rfl | rfl | rfl
  · obtain ⟨z1, -, -⟩ := z.1 (by omega)
    obtain ⟨z2, z6, -, -⟩ := z.2 (by omega)
    show 0 + A 0 0 * 1 = d3 (S 0) (S 1) (S 2) 1 (S 6) 1
    unfold d3
    rw [a00, z1, z2, z6]
    omega
  · obtain ⟨z2, z6, -, -⟩ := z.2 (by omega)
    show 0 + A 0 0 * A 1 1 + A 0 1 * -A 1 0 = d3 (S 0) (S 1) (S 2) (S 5) (S 6) 1
    unfold d3
    rw [a00, a01, a10, a11, z2, z6]
    grind
  · show 0 + A 0 0 * (A 1 1 * A 2 2 - A 1 2 * A 2 1) + A 0 1 * (A 1 2 * A 2 0 - A 1 0 * A 2 2) + A 0 2 * (A 1 0 * A 2 1 - A 1 1 * A 2 0) = d3 (S 0) (S 1) (S 2) (S 5) (S 6) (S 10)
    unfold d3
    rw [a00, a01, a10, a02, a20, a11, a12, a21, a22]
    grind
theorem nu_eq {A : Nat → Nat → Int} {R S : Nat → Int} (as : AS A R S) {N : Nat} (hN : 1 ≤ N ∧ N ≤ 3) (z : ZS S N) {a : Nat} (ha : a < N) : zN (fun b => fcZ N A a b * R b) N = numS S N a := by
  obtain ⟨⟨a00, a01, a10, a02, a20, a11, a12, a21, a22⟩, r0, r1, r2⟩ := as
  have hc : (N = 1 ∧ a = 0) ∨ (N = 2 ∧ a = 0) ∨ (N = 2 ∧ a = 1) ∨ (N = 3 ∧ a = 0) ∨ (N = 3 ∧ a = 1) ∨ (N = 3 ∧ a = 2) := by omega
  rcases hc with ⟨rfl, rfl⟩ | ⟨rfl, rfl⟩ | ⟨rfl, rfl⟩ | ⟨rfl, rfl⟩ | ⟨rfl, rfl⟩ | ⟨rfl, rfl⟩
  · obtain ⟨z1, -, z7⟩ := z.1 (by omega)
    obtain ⟨z2, z6, -, z11⟩ := z.2 (by omega)
    show 0 + 1 * R 0 = nm0 (S 0) (S 1) (S 2) 1 (S 6) 1 (S 3) (S 7) (S 11)
    unfold nm0
    rw [r0, z1, z2, z6, z7, z11]
    omega
  · obtain ⟨z2, z6, -, z11⟩ := z.2 (by omega)
    show 0 + A 1 1 * R 0 + -A 1 0 * R 1 = nm0 (S 0) (S 1) (S 2) (S 5) (S 6) 1 (S 3) (S 7) (S 11)
    unfold nm0
    rw [r0, r1, a11, a10, z2, z6, z11]
    grind
  · obtain ⟨z2, z6, -, z11⟩ := z.2 (by omega)
    show 0 + -A 0 1 * R 0 + A 0 0 * R 1 = nm1 (S 0) (S 1) (S 2) (S 5) (S 6) 1 (S 3) (S 7) (S 11)
    unfold nm1
    rw [r0, r1, a01, a00, z2, z6, z11]
    grind
  · show 0 + (A 1 1 * A 2 2 - A 1 2 * A 2 1) * R 0 + (A 1 2 * A 2 0 - A 1 0 * A 2 2) * R 1 + (A 1 0 * A 2 1 - A 1 1 * A 2 0) * R 2 = nm0 (S 0) (S 1) (S 2) (S 5) (S 6) (S 10) (S 3) (S 7) (S 11)
    unfold nm0
    rw [r0, r1, r2, a10, a20, a11, a12, a21, a22]
    grind
  · show 0 + (A 2 1 * A 0 2 - A 2 2 * A 0 1) * R 0 + (A 2 2 * A 0 0 - A 2 0 * A 0 2) * R 1 + (A 2 0 * A 0 1 - A 2 1 * A 0 0) * R 2 = nm1 (S 0) (S 1) (S 2) (S 5) (S 6) (S 10) (S 3) (S 7) (S 11)
    unfold nm1
    rw [r0, r1, r2, a00, a01, a02, a20, a21, a22]
    grind
  · show 0 + (A 0 1 * A 1 2 - A 0 2 * A 1 1) * R 0 + (A 0 2 * A 1 0 - A 0 0 * A 1 2) * R 1 + (A 0 0 * A 1 1 - A 0 1 * A 1 0) * R 2 = nm2 (S 0) (S 1) (S 2) (S 5) (S 6) (S 10) (S 3) (S 7) (S 11)
    unfold nm2
    rw [r0, r1, r2, a00, a01, a02, a10, a11, a12]
    grind
theorem fc_bd {A : Nat → Nat → Int} {R S : Nat → Int} (as : AS A R S) {N : Nat} (hN : 1 ≤ N ∧ N ≤ 3) (B : svB S N) {a b : Nat} (ha : a < N) (hb : b < N) : -2000000000000 ≤ fcZ N A a b ∧ fcZ N A a b ≤ 2000000000000 := by
  obtain ⟨⟨a00, a01, a10, a02, a20, a11, a12, a21, a22⟩, -⟩ := as
  obtain ⟨-, -, ⟨b0, b1, b2, b5, b6, b10⟩, -⟩ := B
  have hA : ∀ x y, x < 3 → y < 3 → -656100 ≤ A x y ∧ A x y ≤ 656100 := fun x y hx hy => by
    have hc : (x = 0 ∨ x = 1 ∨ x = 2) ∧ (y = 0 ∨ y = 1 ∨ y = 2) := by omega
    rcases hc with ⟨rfl | rfl | rfl, rfl | rfl | rfl⟩
    · rw [a00]; exact b0
    · rw [a01]; exact b1
    · rw [a02]; exact b2
    · rw [a10]; exact b1
    · rw [a11]; exact b5
    · rw [a12]; exact b6
    · rw [a20]; exact b2
    · rw [a21]; exact b6
    · rw [a22]; exact b10
  unfold fcZ
  split
  · omega
  · split
    · have := hA ((a + 1) % 2) ((b + 1) % 2) (by omega) (by omega)
      split <;> omega
    · have x1 := mul_bd (hA ((a + 1) % 3) ((b + 1) % 3) (by omega) (by omega)) (hA ((a + 2) % 3) ((b + 2) % 3) (by omega) (by omega))
      have x2 := mul_bd (hA ((a + 1) % 3) ((b + 2) % 3) (by omega) (by omega)) (hA ((a + 2) % 3) ((b + 1) % 3) (by omega) (by omega))
      omega
theorem r_bd {A : Nat → Nat → Int} {R S : Nat → Int} (as : AS A R S) {N : Nat} (B : svB S N) {b : Nat} (hb : b < 3) : -1000000000 ≤ R b ∧ R b ≤ 1000000000 := by
  obtain ⟨-, r0, r1, r2⟩ := as
  obtain ⟨-, -, -, ⟨b3, b7, b11⟩, -⟩ := B
  have hc : b = 0 ∨ b = 1 ∨ b = 2 := by omega
  rcases hc with rfl | rfl | rfl
  · rw [r0]; exact b3
  · rw [r1]; exact b7
  · rw [r2]; exact b11
def RQ (h : ax_H) (N : Nat) (A : Nat → Nat → Int) (R : Nat → Int) : Prop := AQ h N A ∧ ∀ b, b < 3 → gL h 188 b = Int64.ofInt (R b)
theorem RQ_fr {h h' : ax_H} {T : Nat → Nat → Bool} (q : fr T h h') (t1 : T 159 49 = false) (t2 : ∀ k, T 187 k = false) (t3 : ∀ k, T 188 k = false) {N : Nat} {A : Nat → Nat → Int} {R : Nat → Int} (p : RQ h N A R) : RQ h' N A R := ⟨⟨(fr_I q t1).trans p.1.1, fun a b ha hb => (fr_L q (t2 _)).trans (p.1.2 a b ha hb)⟩, fun b hb => (fr_L q (t3 b)).trans (p.2 b hb)⟩
section
theorem zm_sv_63 {N : Nat} (hN : 1 ≤ N ∧ N ≤ 3) {A : Nat → Nat → Int} {R S : Nat → Int} (as : AS A R S) (z : ZS S N) (B : svB S N) {h : ax_H} (w : ok h) (rq : RQ h N A R) : ∀ (m b : Nat), b + m = N → M_solves_63 159 (Int64.ofInt (zN (fun b => A 0 b * fcZ N A 0 b) b)) (nI b) h = M_solves_63 159 (Int64.ofInt (detS S N)) (nI N) h := by
  have hdt := dt_eq as hN z
  have w0 := w
  obtain ⟨wS, wR, wG, wN⟩ := w
  intro m
  induction m with
  | zero =>
    intro b hb
    have : b = N := by omega
    subst this
    rw [hdt]
  | succ m ih =>
    intro b hb
    have hle : ¬ nI N ≤ nI b := by rw [nJ_le (by omega) (by omega)]; omega
    have tb : (nI b).toNatClampNeg = b := nJ_n (by omega)
    have nb : ¬ nI b < 0 := nJ_nn (by omega)
    have hb9 : b < 9 := by omega
    have q1 := rq.1.1
    have v := rq.1.2 0 b (by omega) (by omega)
    rw [Nat.mul_zero, Nat.zero_add] at v
    have hF : M_factor 159 0 (nI b) h = some (Int64.ofInt (fcZ N A 0 b), h) := zm_factor w0 hN rq.1 (a := 0) (b := b) (by omega) (by omega)
    rw [← ih (b + 1) (by omega), zN, M_solves_63_eq]
    simp only [gI_pI, gI_pL, gI_pR, gL_pI, gL_pL, gL_pR, gR_pI, gR_pL, gR_pR, gS_pI, gS_pL, gS_pR, ↓reduceIte, Nat.reduceEqDiff, decide_eq_true_eq, Option.bind_some, false_and, and_false, true_and, and_true, and_self, Nat.reduceAdd, not_false_eq_true, not_true_eq_false, wS, wR, inI, ite_self, Classical.not_not, q1, hle, ax_in, tb, nb, hb9, v, ↓bnd hF, ← Int64.ofInt_mul, ← Int64.ofInt_add, nJ_p1]
theorem zm_sv_128 {N : Nat} (hN : 1 ≤ N ∧ N ≤ 3) {A : Nat → Nat → Int} {R S : Nat → Int} (as : AS A R S) (z : ZS S N) (B : svB S N) {a : Nat} (ha : a < N) (hD : 0 < detS S N) (fl : Int32) : ∀ (m b : Nat) (Q' R' : Int) (h : ax_H), b + m = N → ok h → RQ h N A R → QR h Q' R' → Q' * detS S N + R' = zN (fun b => fcZ N A a b * R b) b → (-((b : Int) * detS S N) ≤ R' ∧ R' ≤ (b : Int) * detS S N) → ∃ h' Q2 R2, M_solves_128 159 (Int64.ofInt (detS S N)) fl (nI a) (nI b) h = M_solves_128 159 (Int64.ofInt (detS S N)) fl (nI a) (nI N) h' ∧ fr S512 h h' ∧ QR h' Q2 R2 ∧ Q2 * detS S N + R2 = numS S N a ∧ (-((N : Int) * detS S N) ≤ R2 ∧ R2 ≤ (N : Int) * detS S N) := by
  have hnu := nu_eq as hN z ha
  have hB1 := B.1
  intro m
  induction m with
  | zero =>
    intro b Q' R' h hb w rq qr he hr
    have : b = N := by omega
    subst this
    rw [hnu] at he
    exact ⟨h, Q', R', rfl, fr_rf _ _, qr, he, hr⟩
  | succ m ih =>
    intro b Q' R' h hb w rq qr he hr
    have w0 := w
    obtain ⟨wS, wR, wG, wN⟩ := w
    have hle : ¬ nI N ≤ nI b := by rw [nJ_le (by omega) (by omega)]; omega
    have tb : (nI b).toNatClampNeg = b := nJ_n (by omega)
    have nb : ¬ nI b < 0 := nJ_nn (by omega)
    have hb3 : b < 3 := by omega
    have q1 := rq.1.1
    have v := rq.2 b hb3
    have hF := zm_factor w0 hN rq.1 (a := a) (b := b) (by omega) (by omega)
    obtain ⟨h1, q, r, a1, a2, a3, a4, a5, a6⟩ := zm_adds w0 (fc_bd as hN B ha (b := b) (by omega)) (r_bd as B hb3) ⟨hD, hB1.2⟩ qr
    obtain ⟨h', Q2, R2, s1, s2, s3, s4, s5⟩ := ih (b + 1) (Q' + q) (R' + r) h1 (by omega) (ok_fr a2 w0) (RQ_fr a2 rfl (fun _ => rfl) (fun _ => rfl) rq) a3 (by
      rw [zN, ← he, a4, Int.add_mul]
      omega) (by
      rw [show ((b + 1 : Nat) : Int) = (b : Int) + 1 from rfl, Int.add_mul, Int.one_mul]
      omega)
    refine ⟨h', Q2, R2, ?_, fr_tr a2 s2, s3, s4, s5⟩
    have a1' : M_adds 159 (Int64.ofInt (fcZ N A a b)) (gL h (gR h 159 42) (Int32.toNatClampNeg (nI b))) (Int64.ofInt (detS S N)) h = some h1 := by
      simp only [wR, tb, v]
      exact a1
    rw [← s1, M_solves_128_eq]
    simp only [gI_pI, gI_pL, gI_pR, gL_pI, gL_pL, gL_pR, gR_pI, gR_pL, gR_pR, gS_pI, gS_pL, gS_pR, ↓reduceIte, Nat.reduceEqDiff, decide_eq_true_eq, Option.bind_some, false_and, and_false, true_and, and_true, and_self, Nat.reduceAdd, not_false_eq_true, not_true_eq_false, wS, wR, inI, ite_self, Classical.not_not, q1, hle, ↓bnd hF, ax_in, tb, nb, hb3, ↓bnd a1', nJ_p1]
end
def Ssv (a k : Nat) : Bool := decide ((a = 159 ∧ (k = 51 ∨ k = 52)) ∨ a = 190)
theorem Ssv_m {h h' : ax_H} (q : fr Ssv h h') : fr Sm h h' := fr_le q fun a k z => by simp only [Sm, Ssv, decide_eq_false_iff_not] at z ⊢; omega
theorem S512_v {h h' : ax_H} (q : fr S512 h h') : fr Ssv h h' := fr_le q fun a k z => by simp only [S512, Ssv, decide_eq_false_iff_not] at z ⊢; omega
theorem nd_bd {X B : Int} (hB : 0 < B) : (X / B).natAbs ≤ X.natAbs := Int.natAbs_ediv_le_natAbs X B
theorem zm_sv_end {h : ax_H} (w : ok h) {D : WD} (ft : ftM h (FT D)) {S : Nat → Int} (B : svB S (FT D).length) (hD : 0 < detS S (FT D).length) {a t : Nat} (hf3 : (FT D).length ≤ 3) (ht : (FT D)[a]? = some t) (fl : Bool) {Q2 R2 : Int} (qr : QR h Q2 R2) (he : Q2 * detS S (FT D).length + R2 = numS S (FT D).length a) (hr : -(((FT D).length : Int) * detS S (FT D).length) ≤ R2 ∧ R2 ≤ ((FT D).length : Int) * detS S (FT D).length) : ∃ v, M_solves_128 159 (Int64.ofInt (detS S (FT D).length)) (bB fl) (nI a) (nI (FT D).length) h = M_solves_106 159 (Int64.ofInt (detS S (FT D).length)) (bB (fl && ptB S (FT D).length a)) (nI (a + 1)) (pL h 190 t v) ∧ (ptB S (FT D).length a = true → v = Int64.ofInt (ansS S (FT D).length a)) := by
  have q1 := ft.1
  obtain ⟨g1, g2⟩ := qr
  obtain ⟨wS, wR, wG, wN⟩ := w
  have ht6 := (FT_mem ht).1
  have hal := (List.getElem?_eq_some_iff.mp ht).1
  have f2 := ft.2 a t ht
  obtain ⟨⟨B0, B1⟩, Bn, -⟩ := B
  have Ba := Bn a
  unfold ansS
  obtain ⟨X, hX⟩ : ∃ X, X = numS S (FT D).length a := ⟨_, rfl⟩
  obtain ⟨E, hE⟩ : ∃ E, E = detS S (FT D).length := ⟨_, rfl⟩
  have pb : ptB S (FT D).length a = decide (0 < E ∧ -99999999 ≤ (1000 * X) / E ∧ (1000 * X) / E ≤ 99999999) := by unfold ptB ansS; rw [hX, hE]
  rw [pb]
  rw [← hX, ← hE] at he
  rw [← hE] at hr hD B0 B1 ⊢
  rw [← hX] at Ba ⊢
  have hN1 : (((FT D).length : Nat) : Int) ≤ 3 := by omega
  have hm := Int.mul_le_mul_of_nonneg_right hN1 (show 0 ≤ E by omega)
  have hF1 := zm_floorOf (A := R2) (B := E) (by omega) (by omega) h
  have xd : X / E = Q2 + R2 / E := by
    rw [← he, Int.add_comm, Int.add_mul_ediv_right _ _ (show E ≠ 0 by omega)]
    omega
  obtain ⟨d1, d2, d3, d4, d5⟩ := th_div X hD
  have xr : R2 - R2 / E * E = X - X / E * E := by
    rw [xd, Int.add_mul]
    omega
  have hna := nd_bd (X := X) hD
  have tW := l_toInt (z := X / E) (by omega)
  have eW : Int64.ofInt Q2 + Int64.ofInt (R2 / E) = Int64.ofInt (X / E) := by rw [← Int64.ofInt_add, xd]
  have eP : Int64.ofInt R2 - Int64.ofInt (R2 / E) * Int64.ofInt E = Int64.ofInt (X - X / E * E) := by rw [← Int64.ofInt_mul, ← Int64.ofInt_sub, xr]
  have k1 : (1000 : Int64) = Int64.ofInt 1000 := rfl
  have hF2 : M_floorOf ((1000 : Int64) * Int64.ofInt (X - X / E * E)) (Int64.ofInt E) h = some (Int64.ofInt (((X - X / E * E) * 1000) / E), h) := by
    rw [k1, ← Int64.ofInt_mul, Int.mul_comm 1000]
    exact zm_floorOf (by omega) (by omega) h
  have eV : Int64.ofInt (X / E) * 1000 + Int64.ofInt (((X - X / E * E) * 1000) / E) = Int64.ofInt ((1000 * X) / E) := by
    rw [k1, ← Int64.ofInt_mul, ← Int64.ofInt_add, d1]
  have hI1 := zm_in (Int64.ofInt (X / E)) (-1000000) 1000000 h
  have t1 : (-1000000 : Int64).toInt = -1000000 := rfl
  have t2 : (1000000 : Int64).toInt = 1000000 := rfl
  have t9 : (99999999 : Int64).toInt = 99999999 := rfl
  have t8 : (-99999999 : Int64).toInt = -99999999 := rfl
  rw [tW, t1, t2] at hI1
  have hle : nI (FT D).length ≤ nI (FT D).length := Int32.le_refl _
  have ta : (nI a).toNatClampNeg = a := nJ_n (by omega)
  have na : ¬ nI a < 0 := nJ_nn (by omega)
  have ha3 : a < 3 := by omega
  have tt : (nI t).toNatClampNeg = t := nJ_n (by omega)
  have nt : ¬ nI t < 0 := nJ_nn (by omega)
  have u234 : ∀ (k0 : Int64) (b : Bool), ¬ (fl = true ∧ b = true) → M_solves_234 k0 159 (Int64.ofInt E) (bB fl) (nI a) (bB b) h = M_solves_106 159 (Int64.ofInt E) 0 (nI (a + 1)) (pL h 190 t k0) := fun k0 b hb => by
    rw [M_solves_234_eq]
    cases fl with
    | false => simp only [gI_pI, gI_pL, gI_pR, gL_pI, gL_pL, gL_pR, gR_pI, gR_pL, gR_pR, gS_pI, gS_pL, gS_pR, ↓reduceIte, Nat.reduceEqDiff, decide_eq_true_eq, Option.bind_some, false_and, and_false, true_and, and_true, and_self, Nat.reduceAdd, not_false_eq_true, not_true_eq_false, wS, wR, inI, ite_self, Classical.not_not, show bB false = 0 from rfl, ax_in, ta, na, ha3, f2, tt, nt, ht6, nJ_p1]
    | true =>
      cases b with
      | false => simp only [gI_pI, gI_pL, gI_pR, gL_pI, gL_pL, gL_pR, gR_pI, gR_pL, gR_pR, gS_pI, gS_pL, gS_pR, ↓reduceIte, Nat.reduceEqDiff, decide_eq_true_eq, Option.bind_some, false_and, and_false, true_and, and_true, and_self, Nat.reduceAdd, not_false_eq_true, not_true_eq_false, wS, wR, inI, ite_self, Classical.not_not, show bB false = 0 from rfl, show ¬ bB true = 0 by decide, ax_in, ta, na, ha3, f2, tt, nt, ht6, nJ_p1]
      | true => exact absurd ⟨rfl, rfl⟩ hb
  by_cases c : -1000000 ≤ X / E ∧ X / E ≤ 1000000
  · have bi : bI (-1000000 ≤ X / E ∧ X / E ≤ 1000000) = bB true := by unfold bI; rw [if_pos c]; rfl
    rw [bi] at hI1
    refine ⟨Int64.ofInt ((1000 * X) / E), ?_, fun _ => rfl⟩
    have st : M_solves_128 159 (Int64.ofInt E) (bB fl) (nI a) (nI (FT D).length) h = M_solves_234 (Int64.ofInt ((1000 * X) / E)) 159 (Int64.ofInt E) (bB fl) (nI a) (bB true) h := by
      rw [M_solves_128_eq]
      simp only [gI_pI, gI_pL, gI_pR, gL_pI, gL_pL, gL_pR, gR_pI, gR_pL, gR_pR, gS_pI, gS_pL, gS_pR, ↓reduceIte, Nat.reduceEqDiff, decide_eq_true_eq, Option.bind_some, false_and, and_false, true_and, and_true, and_self, Nat.reduceAdd, not_false_eq_true, not_true_eq_false, wS, wR, inI, ite_self, Classical.not_not, q1, hle, g1, g2, ↓bnd hF1, eW, eP, ↓bnd hI1, show ¬ bB true = 0 by decide, ↓bnd hF2, eV]
    rw [st]
    have tV := l_toInt (z := (1000 * X) / E) (by omega)
    cases hfl : fl with
    | false =>
      rw [Bool.false_and]
      have := u234 (Int64.ofInt ((1000 * X) / E)) true (by rw [hfl]; intro z; cases z.1)
      rw [hfl] at this
      exact this
    | true =>
      rw [Bool.true_and]
      have hI2 := zm_in (Int64.ofInt ((1000 * X) / E)) (-99999999) 99999999 h
      rw [tV, t8, t9] at hI2
      rw [M_solves_234_eq]
      by_cases c2 : -99999999 ≤ (1000 * X) / E ∧ (1000 * X) / E ≤ 99999999
      · have b2 : ¬ bI (-99999999 ≤ (1000 * X) / E ∧ (1000 * X) / E ≤ 99999999) = 0 := by rw [bI_0]; exact not_not_intro c2
        rw [decide_eq_true (show 0 < E ∧ _ from ⟨hD, c2⟩)]
        simp only [gI_pI, gI_pL, gI_pR, gL_pI, gL_pL, gL_pR, gR_pI, gR_pL, gR_pR, gS_pI, gS_pL, gS_pR, ↓reduceIte, Nat.reduceEqDiff, decide_eq_true_eq, Option.bind_some, false_and, and_false, true_and, and_true, and_self, Nat.reduceAdd, not_false_eq_true, not_true_eq_false, wS, wR, inI, ite_self, Classical.not_not, show ¬ bB true = 0 by decide, ↓bnd hI2, b2, ax_in, ta, na, ha3, f2, tt, nt, ht6, nJ_p1]
        rfl
      · have b2 : bI (-99999999 ≤ (1000 * X) / E ∧ (1000 * X) / E ≤ 99999999) = 0 := by rw [bI_0]; exact c2
        rw [decide_eq_false (show ¬ (0 < E ∧ _) from fun q => c2 q.2)]
        simp only [gI_pI, gI_pL, gI_pR, gL_pI, gL_pL, gL_pR, gR_pI, gR_pL, gR_pR, gS_pI, gS_pL, gS_pR, ↓reduceIte, Nat.reduceEqDiff, decide_eq_true_eq, Option.bind_some, false_and, and_false, true_and, and_true, and_self, Nat.reduceAdd, not_false_eq_true, not_true_eq_false, wS, wR, inI, ite_self, Classical.not_not, show ¬ bB true = 0 by decide, ↓bnd hI2, b2, ax_in, ta, na, ha3, f2, tt, nt, ht6, nJ_p1]
        rfl
  · have bi : bI (-1000000 ≤ X / E ∧ X / E ≤ 1000000) = bB false := by unfold bI; rw [if_neg c]; rfl
    rw [bi] at hI1
    have np : decide (0 < E ∧ -99999999 ≤ (1000 * X) / E ∧ (1000 * X) / E ≤ 99999999) = false := by
      rw [decide_eq_false_iff_not]
      omega
    rw [np, Bool.and_false]
    refine ⟨0, ?_, fun z => by cases z⟩
    have st : M_solves_128 159 (Int64.ofInt E) (bB fl) (nI a) (nI (FT D).length) h = M_solves_234 0 159 (Int64.ofInt E) (bB fl) (nI a) (bB false) h := by
      rw [M_solves_128_eq]
      simp only [gI_pI, gI_pL, gI_pR, gL_pI, gL_pL, gL_pR, gR_pI, gR_pL, gR_pR, gS_pI, gS_pL, gS_pR, ↓reduceIte, Nat.reduceEqDiff, decide_eq_true_eq, Option.bind_some, false_and, and_false, true_and, and_true, and_self, Nat.reduceAdd, not_false_eq_true, not_true_eq_false, wS, wR, inI, ite_self, Classical.not_not, q1, hle, g1, g2, ↓bnd hF1, eW, eP, ↓bnd hI1, show bB false = 0 from rfl]
    rw [st]
    exact u234 0 false (fun z => by cases z.2)
