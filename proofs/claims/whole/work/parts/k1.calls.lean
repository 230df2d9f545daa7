/-! what a call leaves, by its form -/
def cal {α : Type} (h : ax_H) (P : Option (α × ax_H)) (Q : ax_H → Option (α × ax_H)) : Prop := ∃ v h1 h2, P = some (v, h1) ∧ Q h1 = some (v, h2) ∧ scrP h h1 ∧ nxt h h2
theorem cal_stl {h : ax_H} {P : Option (Int32 × ax_H)} {Q : ax_H → Option (Int32 × ax_H)} (v : Inv h) (s : stp P Q (stl h)) : cal h P Q := by
  obtain ⟨x, h1, h2, p, q, i2, f1, f2, eV⟩ := s
  have hF : ∀ a k, ¬ ((65 ≤ a ∧ a ≤ 90) ∨ (a = 159 ∧ ((1 ≤ k ∧ k ≤ 4) ∨ k = 59 ∨ k = 63)) ∨ (160 ≤ a ∧ a ≤ 171) ∨ (196 ≤ a ∧ a ≤ 203)) → Sl a k = false := fun a k z => decide_eq_false z
  refine ⟨x, h1, h2, p, q, ⟨by rw [fr_S f1], fun k => fr_I f1 (hF 40 k (by omega)), by rw [fr_S f1]; exact m_159 v.1.1⟩, ⟨i2, IT_of (fr_I f2 (hF _ _ (by omega))) (fun j => fr_I f2 (hF _ _ (by omega))) (fr_I f2 (hF _ _ (by omega))) (fun j => fr_I f2 (hF _ _ (by omega))) v.2.1, IM_frA v.1.1 (frA_of f2) (fun a k z => by have := of_decide_eq_true z; omega) eV v.2.2⟩, by rw [f2.1]; omega, by rw [f2.2.1]; omega, by rw [fr_S f2], fun k => fr_I f2 (hF 40 k (by omega))⟩
theorem cal_stt {h : ax_H} {P : Option (Int32 × ax_H)} {Q : ax_H → Option (Int32 × ax_H)} (v : Inv h) (s : stp P Q (stt h)) : cal h P Q := by
  obtain ⟨x, h1, h2, p, q, it, f1, f2⟩ := s
  have hF : ∀ a k, ¬ (a = 94 ∨ (a = 93 ∧ k = 0) ∨ a = 172 ∨ (a = 159 ∧ k = 17)) → St' a k = false := fun a k z => decide_eq_false z
  have eV : V h2 = V h := V_fr f2 fun a k h1 h2 => hF a k (by omega)
  refine ⟨x, h1, h2, p, q, ⟨by rw [fr_S f1], fun k => fr_I f1 (hF 40 k (by omega)), by rw [fr_S f1]; exact m_159 v.1.1⟩, ⟨I0_frt f2 v.1, it, IM_frA v.1.1 (frA_of f2) (fun a k z => by have := of_decide_eq_true z; omega) (by rw [eV]) v.2.2⟩, by rw [f2.1]; omega, by rw [f2.2.1]; omega, by rw [fr_S f2], fun k => fr_I f2 (hF 40 k (by omega))⟩
theorem cal_ask {α : Type} {h : ax_H} {P : Option (α × ax_H)} {Q : ax_H → Option (α × ax_H)} (v : Inv h) (s : asks P (Q h) h) : cal h P Q := by
  obtain ⟨x, p, q⟩ := s
  exact ⟨x, h, h, p, q, scrP_rf v.1.1, nxt_rf v⟩
theorem cal_nx {h : ax_H} {P : Option (Int32 × ax_H)} {Q : ax_H → Option (Int32 × ax_H)} (s : stp P Q (fun h1 h2 => nxt h h2 ∧ scrP h h1)) : cal h P Q := by
  obtain ⟨x, h1, h2, p, q, n, r⟩ := s
  exact ⟨x, h1, h2, p, q, r, n⟩
theorem cal_qry {α : Type} {h : ax_H} {P : Option (α × ax_H)} {Q : ax_H → Option (α × ax_H)} (v : Inv h) (s : qry P Q h) : cal h P Q := by
  obtain ⟨x, h1, h2, p, q, f1, f2⟩ := s
  have hC : ∀ a k, ¬ (91 ≤ a ∧ a ≤ 158 ∧ ¬ (93 ≤ a ∧ a ≤ 98)) → Sc a k = false := fun a k z => decide_eq_false z
  have hM : ∀ a k, ¬ ((181 ≤ a ∧ a ≤ 195) ∨ (a = 159 ∧ (k = 18 ∨ k = 19 ∨ (21 ≤ k ∧ k ≤ 25) ∨ (49 ≤ k ∧ k ≤ 58) ∨ k = 66 ∨ k = 69))) → Sm a k = false := fun a k z => decide_eq_false z
  have i1 := I0_frc f1 v.1
  have V1 : V h1 = V h := V_frc f1
  have V2 : V h2 = V h1 := V_frm f2
  have m1 : IM h1 := IM_frA v.1.1 (frA_of f1) (fun a k z => by have := of_decide_eq_true z; omega) (by rw [V1]) v.2.2
  have g : ∀ a k, ¬ (91 ≤ a ∧ a ≤ 158 ∧ ¬ (93 ≤ a ∧ a ≤ 98)) → ¬ ((181 ≤ a ∧ a ≤ 195) ∨ (a = 159 ∧ (k = 18 ∨ k = 19 ∨ (21 ≤ k ∧ k ≤ 25) ∨ (49 ≤ k ∧ k ≤ 58) ∨ k = 66 ∨ k = 69))) → gI h2 a k = gI h a k := fun a k z1 z2 => (fr_I f2 (hM a k z2)).trans (fr_I f1 (hC a k z1))
  refine ⟨x, h1, h2, p, q, ⟨by rw [fr_S f1], fun k => fr_I f1 (hC 40 k (by omega)), m_159 i1.1⟩, ⟨I0_frm f2 i1, IT_of (g _ _ (by omega) (by omega)) (fun j => g _ _ (by omega) (by omega)) (g _ _ (by omega) (by omega)) (fun j => g _ _ (by omega) (by omega)) v.2.1, IM_frA i1.1 (frA_of f2) (fun a k z => by have := of_decide_eq_true z; omega) (by rw [V2]) m1⟩, by rw [f2.1, f1.1]; omega, by rw [f2.2.1, f1.2.1]; omega, by rw [fr_S f2, fr_S f1], fun k => g 40 k (by omega) (by omega)⟩
theorem cal_mkq {α : Type} {h : ax_H} {P : Option (α × ax_H)} {Q : ax_H → Option (α × ax_H)} (v : Inv h) (s : mkq P Q h) : cal h P Q := by
  obtain ⟨x, h1, p, q, f1, hn, hz⟩ := s
  have wN := v.1.1.2.2.2
  have w1 := ok_frA f1 v.1.1
  have g : ∀ a k, a < 207 → gI h1 a k = gI h a k := fun a k z => (f1.2.2.2 a k (by omega) rfl).1
  have V1 : V h1 = V h := V_of fun a j z1 z2 => g a j (by omega)
  have e1 : EQ h1 := EQ_of V1 (fun j _ => g _ _ (by omega)) (fun a z1 z2 j => g _ _ (by omega)) (fun a z1 z2 j => g _ _ (by omega)) v.1.2.1
  refine ⟨x, h1, h1, p, q, ⟨f1.2.1 40 (by omega), fun k => g 40 k (by omega), m_159 w1⟩, ⟨⟨w1, e1, by rw [V1]; exact v.1.2.2⟩, IT_of (g _ _ (by omega)) (fun j => g _ _ (by omega)) (g _ _ (by omega)) (fun j => g _ _ (by omega)) v.2.1, IM_frA v.1.1 f1 (fun a k z => absurd (show false = true from z) (by decide)) (by rw [V1]) v.2.2⟩, by omega, by omega, f1.2.1 40 (by omega), fun k => g 40 k (by omega)⟩
theorem lgc_rf (x : Int64) : lg_cmp x x = 0 := (lgc_eq x x).mpr rfl
theorem Inv_say {h : ax_H} (v : Inv h) : ∀ j, j < nW' (V h) → gR h 82 j ≠ 0 := fun j hj => by
  obtain ⟨D, c, -⟩ := IM_IW v.2.2 j hj
  have := c.1.1
  omega
theorem in_sc {h : ax_H} {i L : Nat} (s40 : gS h 40 = (24, L)) (hi : i + 7 ≤ L) (hL : L ≤ 3584) {j : Nat} (hj : j < 7) {j' : Int32} (ej : j' = nI j) : ax_in h 40 24 (nI i + j') := by
  rw [ej, nI_add]
  unfold ax_in
  rw [s40, nJ_n (by omega)]
  exact ⟨rfl, nJ_nn (by omega), by show i + j < L; omega⟩
theorem cs_0i {h : ax_H} {i L : Nat} (v : Inv h) (s40 : gS h 40 = (24, L)) (hi : i + 7 ≤ L) (hL : L ≤ 3584) {B M : ax_H → Option (Int32 × ax_H)} (c : cal h (B  h) (M )) : ∃ h2, nxt h h2 ∧ (if (gS h 64).1 = 0 then (B h).bind (fun r1 => if (gS r1.2 159).1 = 11 then (M r1.2).bind (fun r2 => if decide (r1.1 = r2.1) then Law_law_18 40 64 159 (nI i + 7) r2.2 else some (0, r2.2)) else none) else none) = Law_law_18 40 64 159 (nI (i + 7)) h2 := by
  obtain ⟨x, h1, h2, p, q, ⟨t1, t2, t3⟩, nx⟩ := c
  have t1 : gS h1 40 = (24, L) := t1.trans s40
  have s64 : (gS h 64).1 = 0 := by obtain ⟨wS, wR, wG, wN⟩ := v.1.1; simp only [wS]
  have e7 : nI i + 7 = nI (i + 7) := by rw [show (7 : Int32) = nI 7 from rfl, nI_add]
  refine ⟨h2, nx, ?_⟩
  rw [if_pos s64, bnd p]
  show (if (gS h1 159).1 = 11 then (M  h1).bind _ else none) = _
  rw [if_pos t3, bnd q]
  exact (if_pos (show decide (x = x) = true from decide_eq_true rfl)).trans (by rw [e7])
theorem cs_1i {h : ax_H} {i L : Nat} (v : Inv h) (s40 : gS h 40 = (24, L)) (hi : i + 7 ≤ L) (hL : L ≤ 3584) {B M : Int32 → ax_H → Option (Int32 × ax_H)} (c : cal h (B (gI h 40 (Int32.toNatClampNeg (nI i + 1))) h) (M (gI h 40 (Int32.toNatClampNeg (nI i + 1))))) : ∃ h2, nxt h h2 ∧ (if ax_in h 40 24 (nI i + 1) then if (gS h 64).1 = 0 then (B (gI h 40 (Int32.toNatClampNeg (nI i + 1))) h).bind (fun r1 => if ax_in r1.2 40 24 (nI i + 1) then if (gS r1.2 159).1 = 11 then (M (gI r1.2 40 (Int32.toNatClampNeg (nI i + 1))) r1.2).bind (fun r2 => if decide (r1.1 = r2.1) then Law_law_18 40 64 159 (nI i + 7) r2.2 else some (0, r2.2)) else none else none) else none else none) = Law_law_18 40 64 159 (nI (i + 7)) h2 := by
  obtain ⟨x, h1, h2, p, q, ⟨t1, t2, t3⟩, nx⟩ := c
  have t1 : gS h1 40 = (24, L) := t1.trans s40
  have s64 : (gS h 64).1 = 0 := by obtain ⟨wS, wR, wG, wN⟩ := v.1.1; simp only [wS]
  have e7 : nI i + 7 = nI (i + 7) := by rw [show (7 : Int32) = nI 7 from rfl, nI_add]
  have a1 : ax_in h 40 24 (nI i + 1) := in_sc s40 hi hL (j := 1) (by omega) rfl
  have b1 : ax_in h1 40 24 (nI i + 1) := in_sc t1 hi hL (j := 1) (by omega) rfl
  refine ⟨h2, nx, ?_⟩
  rw [if_pos a1, if_pos s64, bnd p]
  show (if ax_in h1 40 24 (nI i + 1) then if (gS h1 159).1 = 11 then (M (gI h1 40 (Int32.toNatClampNeg (nI i + 1))) h1).bind _ else none else none) = _
  rw [if_pos b1, if_pos t3, t2, bnd q]
  exact (if_pos (show decide (x = x) = true from decide_eq_true rfl)).trans (by rw [e7])
theorem cs_2i {h : ax_H} {i L : Nat} (v : Inv h) (s40 : gS h 40 = (24, L)) (hi : i + 7 ≤ L) (hL : L ≤ 3584) {B M : Int32 → Int32 → ax_H → Option (Int32 × ax_H)} (c : cal h (B (gI h 40 (Int32.toNatClampNeg (nI i + 1))) (gI h 40 (Int32.toNatClampNeg (nI i + 2))) h) (M (gI h 40 (Int32.toNatClampNeg (nI i + 1))) (gI h 40 (Int32.toNatClampNeg (nI i + 2))))) : ∃ h2, nxt h h2 ∧ (if ax_in h 40 24 (nI i + 1) then if ax_in h 40 24 (nI i + 2) then if (gS h 64).1 = 0 then (B (gI h 40 (Int32.toNatClampNeg (nI i + 1))) (gI h 40 (Int32.toNatClampNeg (nI i + 2))) h).bind (fun r1 => if ax_in r1.2 40 24 (nI i + 1) then if ax_in r1.2 40 24 (nI i + 2) then if (gS r1.2 159).1 = 11 then (M (gI r1.2 40 (Int32.toNatClampNeg (nI i + 1))) (gI r1.2 40 (Int32.toNatClampNeg (nI i + 2))) r1.2).bind (fun r2 => if decide (r1.1 = r2.1) then Law_law_18 40 64 159 (nI i + 7) r2.2 else some (0, r2.2)) else none else none else none) else none else none else none) = Law_law_18 40 64 159 (nI (i + 7)) h2 := by
  obtain ⟨x, h1, h2, p, q, ⟨t1, t2, t3⟩, nx⟩ := c
  have t1 : gS h1 40 = (24, L) := t1.trans s40
  have s64 : (gS h 64).1 = 0 := by obtain ⟨wS, wR, wG, wN⟩ := v.1.1; simp only [wS]
  have e7 : nI i + 7 = nI (i + 7) := by rw [show (7 : Int32) = nI 7 from rfl, nI_add]
  have a1 : ax_in h 40 24 (nI i + 1) := in_sc s40 hi hL (j := 1) (by omega) rfl
  have b1 : ax_in h1 40 24 (nI i + 1) := in_sc t1 hi hL (j := 1) (by omega) rfl
  have a2 : ax_in h 40 24 (nI i + 2) := in_sc s40 hi hL (j := 2) (by omega) rfl
  have b2 : ax_in h1 40 24 (nI i + 2) := in_sc t1 hi hL (j := 2) (by omega) rfl
  refine ⟨h2, nx, ?_⟩
  rw [if_pos a1, if_pos a2, if_pos s64, bnd p]
  show (if ax_in h1 40 24 (nI i + 1) then if ax_in h1 40 24 (nI i + 2) then if (gS h1 159).1 = 11 then (M (gI h1 40 (Int32.toNatClampNeg (nI i + 1))) (gI h1 40 (Int32.toNatClampNeg (nI i + 2))) h1).bind _ else none else none else none) = _
  rw [if_pos b1, if_pos b2, if_pos t3, t2 (Int32.toNatClampNeg (nI i + 1)), t2 (Int32.toNatClampNeg (nI i + 2)), bnd q]
  exact (if_pos (show decide (x = x) = true from decide_eq_true rfl)).trans (by rw [e7])
theorem cs_3i {h : ax_H} {i L : Nat} (v : Inv h) (s40 : gS h 40 = (24, L)) (hi : i + 7 ≤ L) (hL : L ≤ 3584) {B M : Int32 → Int32 → Int32 → ax_H → Option (Int32 × ax_H)} (c : cal h (B (gI h 40 (Int32.toNatClampNeg (nI i + 1))) (gI h 40 (Int32.toNatClampNeg (nI i + 2))) (gI h 40 (Int32.toNatClampNeg (nI i + 3))) h) (M (gI h 40 (Int32.toNatClampNeg (nI i + 1))) (gI h 40 (Int32.toNatClampNeg (nI i + 2))) (gI h 40 (Int32.toNatClampNeg (nI i + 3))))) : ∃ h2, nxt h h2 ∧ (if ax_in h 40 24 (nI i + 1) then if ax_in h 40 24 (nI i + 2) then if ax_in h 40 24 (nI i + 3) then if (gS h 64).1 = 0 then (B (gI h 40 (Int32.toNatClampNeg (nI i + 1))) (gI h 40 (Int32.toNatClampNeg (nI i + 2))) (gI h 40 (Int32.toNatClampNeg (nI i + 3))) h).bind (fun r1 => if ax_in r1.2 40 24 (nI i + 1) then if ax_in r1.2 40 24 (nI i + 2) then if ax_in r1.2 40 24 (nI i + 3) then if (gS r1.2 159).1 = 11 then (M (gI r1.2 40 (Int32.toNatClampNeg (nI i + 1))) (gI r1.2 40 (Int32.toNatClampNeg (nI i + 2))) (gI r1.2 40 (Int32.toNatClampNeg (nI i + 3))) r1.2).bind (fun r2 => if decide (r1.1 = r2.1) then Law_law_18 40 64 159 (nI i + 7) r2.2 else some (0, r2.2)) else none else none else none else none) else none else none else none else none) = Law_law_18 40 64 159 (nI (i + 7)) h2 := by
  obtain ⟨x, h1, h2, p, q, ⟨t1, t2, t3⟩, nx⟩ := c
  have t1 : gS h1 40 = (24, L) := t1.trans s40
  have s64 : (gS h 64).1 = 0 := by obtain ⟨wS, wR, wG, wN⟩ := v.1.1; simp only [wS]
  have e7 : nI i + 7 = nI (i + 7) := by rw [show (7 : Int32) = nI 7 from rfl, nI_add]
  have a1 : ax_in h 40 24 (nI i + 1) := in_sc s40 hi hL (j := 1) (by omega) rfl
  have b1 : ax_in h1 40 24 (nI i + 1) := in_sc t1 hi hL (j := 1) (by omega) rfl
  have a2 : ax_in h 40 24 (nI i + 2) := in_sc s40 hi hL (j := 2) (by omega) rfl
  have b2 : ax_in h1 40 24 (nI i + 2) := in_sc t1 hi hL (j := 2) (by omega) rfl
  have a3 : ax_in h 40 24 (nI i + 3) := in_sc s40 hi hL (j := 3) (by omega) rfl
  have b3 : ax_in h1 40 24 (nI i + 3) := in_sc t1 hi hL (j := 3) (by omega) rfl
  refine ⟨h2, nx, ?_⟩
  rw [if_pos a1, if_pos a2, if_pos a3, if_pos s64, bnd p]
  show (if ax_in h1 40 24 (nI i + 1) then if ax_in h1 40 24 (nI i + 2) then if ax_in h1 40 24 (nI i + 3) then if (gS h1 159).1 = 11 then (M (gI h1 40 (Int32.toNatClampNeg (nI i + 1))) (gI h1 40 (Int32.toNatClampNeg (nI i + 2))) (gI h1 40 (Int32.toNatClampNeg (nI i + 3))) h1).bind _ else none else none else none else none) = _
  rw [if_pos b1, if_pos b2, if_pos b3, if_pos t3, t2 (Int32.toNatClampNeg (nI i + 1)), t2 (Int32.toNatClampNeg (nI i + 2)), t2 (Int32.toNatClampNeg (nI i + 3)), bnd q]
  exact (if_pos (show decide (x = x) = true from decide_eq_true rfl)).trans (by rw [e7])
theorem cs_4i {h : ax_H} {i L : Nat} (v : Inv h) (s40 : gS h 40 = (24, L)) (hi : i + 7 ≤ L) (hL : L ≤ 3584) {B M : Int32 → Int32 → Int32 → Int32 → ax_H → Option (Int32 × ax_H)} (c : cal h (B (gI h 40 (Int32.toNatClampNeg (nI i + 1))) (gI h 40 (Int32.toNatClampNeg (nI i + 2))) (gI h 40 (Int32.toNatClampNeg (nI i + 3))) (gI h 40 (Int32.toNatClampNeg (nI i + 4))) h) (M (gI h 40 (Int32.toNatClampNeg (nI i + 1))) (gI h 40 (Int32.toNatClampNeg (nI i + 2))) (gI h 40 (Int32.toNatClampNeg (nI i + 3))) (gI h 40 (Int32.toNatClampNeg (nI i + 4))))) : ∃ h2, nxt h h2 ∧ (if ax_in h 40 24 (nI i + 1) then if ax_in h 40 24 (nI i + 2) then if ax_in h 40 24 (nI i + 3) then if ax_in h 40 24 (nI i + 4) then if (gS h 64).1 = 0 then (B (gI h 40 (Int32.toNatClampNeg (nI i + 1))) (gI h 40 (Int32.toNatClampNeg (nI i + 2))) (gI h 40 (Int32.toNatClampNeg (nI i + 3))) (gI h 40 (Int32.toNatClampNeg (nI i + 4))) h).bind (fun r1 => if ax_in r1.2 40 24 (nI i + 1) then if ax_in r1.2 40 24 (nI i + 2) then if ax_in r1.2 40 24 (nI i + 3) then if ax_in r1.2 40 24 (nI i + 4) then if (gS r1.2 159).1 = 11 then (M (gI r1.2 40 (Int32.toNatClampNeg (nI i + 1))) (gI r1.2 40 (Int32.toNatClampNeg (nI i + 2))) (gI r1.2 40 (Int32.toNatClampNeg (nI i + 3))) (gI r1.2 40 (Int32.toNatClampNeg (nI i + 4))) r1.2).bind (fun r2 => if decide (r1.1 = r2.1) then Law_law_18 40 64 159 (nI i + 7) r2.2 else some (0, r2.2)) else none else none else none else none else none) else none else none else none else none else none) = Law_law_18 40 64 159 (nI (i + 7)) h2 := by
  obtain ⟨x, h1, h2, p, q, ⟨t1, t2, t3⟩, nx⟩ := c
  have t1 : gS h1 40 = (24, L) := t1.trans s40
  have s64 : (gS h 64).1 = 0 := by obtain ⟨wS, wR, wG, wN⟩ := v.1.1; simp only [wS]
  have e7 : nI i + 7 = nI (i + 7) := by rw [show (7 : Int32) = nI 7 from rfl, nI_add]
  have a1 : ax_in h 40 24 (nI i + 1) := in_sc s40 hi hL (j := 1) (by omega) rfl
  have b1 : ax_in h1 40 24 (nI i + 1) := in_sc t1 hi hL (j := 1) (by omega) rfl
  have a2 : ax_in h 40 24 (nI i + 2) := in_sc s40 hi hL (j := 2) (by omega) rfl
  have b2 : ax_in h1 40 24 (nI i + 2) := in_sc t1 hi hL (j := 2) (by omega) rfl
  have a3 : ax_in h 40 24 (nI i + 3) := in_sc s40 hi hL (j := 3) (by omega) rfl
  have b3 : ax_in h1 40 24 (nI i + 3) := in_sc t1 hi hL (j := 3) (by omega) rfl
  have a4 : ax_in h 40 24 (nI i + 4) := in_sc s40 hi hL (j := 4) (by omega) rfl
  have b4 : ax_in h1 40 24 (nI i + 4) := in_sc t1 hi hL (j := 4) (by omega) rfl
  refine ⟨h2, nx, ?_⟩
  rw [if_pos a1, if_pos a2, if_pos a3, if_pos a4, if_pos s64, bnd p]
  show (if ax_in h1 40 24 (nI i + 1) then if ax_in h1 40 24 (nI i + 2) then if ax_in h1 40 24 (nI i + 3) then if ax_in h1 40 24 (nI i + 4) then if (gS h1 159).1 = 11 then (M (gI h1 40 (Int32.toNatClampNeg (nI i + 1))) (gI h1 40 (Int32.toNatClampNeg (nI i + 2))) (gI h1 40 (Int32.toNatClampNeg (nI i + 3))) (gI h1 40 (Int32.toNatClampNeg (nI i + 4))) h1).bind _ else none else none else none else none else none) = _
  rw [if_pos b1, if_pos b2, if_pos b3, if_pos b4, if_pos t3, t2 (Int32.toNatClampNeg (nI i + 1)), t2 (Int32.toNatClampNeg (nI i + 2)), t2 (Int32.toNatClampNeg (nI i + 3)), t2 (Int32.toNatClampNeg (nI i + 4)), bnd q]
  exact (if_pos (show decide (x = x) = true from decide_eq_true rfl)).trans (by rw [e7])
theorem cs_5i {h : ax_H} {i L : Nat} (v : Inv h) (s40 : gS h 40 = (24, L)) (hi : i + 7 ≤ L) (hL : L ≤ 3584) {B M : Int32 → Int32 → Int32 → Int32 → Int32 → ax_H → Option (Int32 × ax_H)} (c : cal h (B (gI h 40 (Int32.toNatClampNeg (nI i + 1))) (gI h 40 (Int32.toNatClampNeg (nI i + 2))) (gI h 40 (Int32.toNatClampNeg (nI i + 3))) (gI h 40 (Int32.toNatClampNeg (nI i + 4))) (gI h 40 (Int32.toNatClampNeg (nI i + 5))) h) (M (gI h 40 (Int32.toNatClampNeg (nI i + 1))) (gI h 40 (Int32.toNatClampNeg (nI i + 2))) (gI h 40 (Int32.toNatClampNeg (nI i + 3))) (gI h 40 (Int32.toNatClampNeg (nI i + 4))) (gI h 40 (Int32.toNatClampNeg (nI i + 5))))) : ∃ h2, nxt h h2 ∧ (if ax_in h 40 24 (nI i + 1) then if ax_in h 40 24 (nI i + 2) then if ax_in h 40 24 (nI i + 3) then if ax_in h 40 24 (nI i + 4) then if ax_in h 40 24 (nI i + 5) then if (gS h 64).1 = 0 then (B (gI h 40 (Int32.toNatClampNeg (nI i + 1))) (gI h 40 (Int32.toNatClampNeg (nI i + 2))) (gI h 40 (Int32.toNatClampNeg (nI i + 3))) (gI h 40 (Int32.toNatClampNeg (nI i + 4))) (gI h 40 (Int32.toNatClampNeg (nI i + 5))) h).bind (fun r1 => if ax_in r1.2 40 24 (nI i + 1) then if ax_in r1.2 40 24 (nI i + 2) then if ax_in r1.2 40 24 (nI i + 3) then if ax_in r1.2 40 24 (nI i + 4) then if ax_in r1.2 40 24 (nI i + 5) then if (gS r1.2 159).1 = 11 then (M (gI r1.2 40 (Int32.toNatClampNeg (nI i + 1))) (gI r1.2 40 (Int32.toNatClampNeg (nI i + 2))) (gI r1.2 40 (Int32.toNatClampNeg (nI i + 3))) (gI r1.2 40 (Int32.toNatClampNeg (nI i + 4))) (gI r1.2 40 (Int32.toNatClampNeg (nI i + 5))) r1.2).bind (fun r2 => if decide (r1.1 = r2.1) then Law_law_18 40 64 159 (nI i + 7) r2.2 else some (0, r2.2)) else none else none else none else none else none else none) else none else none else none else none else none else none) = Law_law_18 40 64 159 (nI (i + 7)) h2 := by
  obtain ⟨x, h1, h2, p, q, ⟨t1, t2, t3⟩, nx⟩ := c
  have t1 : gS h1 40 = (24, L) := t1.trans s40
  have s64 : (gS h 64).1 = 0 := by obtain ⟨wS, wR, wG, wN⟩ := v.1.1; simp only [wS]
  have e7 : nI i + 7 = nI (i + 7) := by rw [show (7 : Int32) = nI 7 from rfl, nI_add]
  have a1 : ax_in h 40 24 (nI i + 1) := in_sc s40 hi hL (j := 1) (by omega) rfl
  have b1 : ax_in h1 40 24 (nI i + 1) := in_sc t1 hi hL (j := 1) (by omega) rfl
  have a2 : ax_in h 40 24 (nI i + 2) := in_sc s40 hi hL (j := 2) (by omega) rfl
  have b2 : ax_in h1 40 24 (nI i + 2) := in_sc t1 hi hL (j := 2) (by omega) rfl
  have a3 : ax_in h 40 24 (nI i + 3) := in_sc s40 hi hL (j := 3) (by omega) rfl
  have b3 : ax_in h1 40 24 (nI i + 3) := in_sc t1 hi hL (j := 3) (by omega) rfl
  have a4 : ax_in h 40 24 (nI i + 4) := in_sc s40 hi hL (j := 4) (by omega) rfl
  have b4 : ax_in h1 40 24 (nI i + 4) := in_sc t1 hi hL (j := 4) (by omega) rfl
  have a5 : ax_in h 40 24 (nI i + 5) := in_sc s40 hi hL (j := 5) (by omega) rfl
  have b5 : ax_in h1 40 24 (nI i + 5) := in_sc t1 hi hL (j := 5) (by omega) rfl
  refine ⟨h2, nx, ?_⟩
  rw [if_pos a1, if_pos a2, if_pos a3, if_pos a4, if_pos a5, if_pos s64, bnd p]
  show (if ax_in h1 40 24 (nI i + 1) then if ax_in h1 40 24 (nI i + 2) then if ax_in h1 40 24 (nI i + 3) then if ax_in h1 40 24 (nI i + 4) then if ax_in h1 40 24 (nI i + 5) then if (gS h1 159).1 = 11 then (M (gI h1 40 (Int32.toNatClampNeg (nI i + 1))) (gI h1 40 (Int32.toNatClampNeg (nI i + 2))) (gI h1 40 (Int32.toNatClampNeg (nI i + 3))) (gI h1 40 (Int32.toNatClampNeg (nI i + 4))) (gI h1 40 (Int32.toNatClampNeg (nI i + 5))) h1).bind _ else none else none else none else none else none else none) = _
  rw [if_pos b1, if_pos b2, if_pos b3, if_pos b4, if_pos b5, if_pos t3, t2 (Int32.toNatClampNeg (nI i + 1)), t2 (Int32.toNatClampNeg (nI i + 2)), t2 (Int32.toNatClampNeg (nI i + 3)), t2 (Int32.toNatClampNeg (nI i + 4)), t2 (Int32.toNatClampNeg (nI i + 5)), bnd q]
  exact (if_pos (show decide (x = x) = true from decide_eq_true rfl)).trans (by rw [e7])
theorem cs_6i {h : ax_H} {i L : Nat} (v : Inv h) (s40 : gS h 40 = (24, L)) (hi : i + 7 ≤ L) (hL : L ≤ 3584) {B M : Int32 → Int32 → Int32 → Int32 → Int32 → Int32 → ax_H → Option (Int32 × ax_H)} (c : cal h (B (gI h 40 (Int32.toNatClampNeg (nI i + 1))) (gI h 40 (Int32.toNatClampNeg (nI i + 2))) (gI h 40 (Int32.toNatClampNeg (nI i + 3))) (gI h 40 (Int32.toNatClampNeg (nI i + 4))) (gI h 40 (Int32.toNatClampNeg (nI i + 5))) (gI h 40 (Int32.toNatClampNeg (nI i + 6))) h) (M (gI h 40 (Int32.toNatClampNeg (nI i + 1))) (gI h 40 (Int32.toNatClampNeg (nI i + 2))) (gI h 40 (Int32.toNatClampNeg (nI i + 3))) (gI h 40 (Int32.toNatClampNeg (nI i + 4))) (gI h 40 (Int32.toNatClampNeg (nI i + 5))) (gI h 40 (Int32.toNatClampNeg (nI i + 6))))) : ∃ h2, nxt h h2 ∧ (if ax_in h 40 24 (nI i + 1) then if ax_in h 40 24 (nI i + 2) then if ax_in h 40 24 (nI i + 3) then if ax_in h 40 24 (nI i + 4) then if ax_in h 40 24 (nI i + 5) then if ax_in h 40 24 (nI i + 6) then if (gS h 64).1 = 0 then (B (gI h 40 (Int32.toNatClampNeg (nI i + 1))) (gI h 40 (Int32.toNatClampNeg (nI i + 2))) (gI h 40 (Int32.toNatClampNeg (nI i + 3))) (gI h 40 (Int32.toNatClampNeg (nI i + 4))) (gI h 40 (Int32.toNatClampNeg (nI i + 5))) (gI h 40 (Int32.toNatClampNeg (nI i + 6))) h).bind (fun r1 => if ax_in r1.2 40 24 (nI i + 1) then if ax_in r1.2 40 24 (nI i + 2) then if ax_in r1.2 40 24 (nI i + 3) then if ax_in r1.2 40 24 (nI i + 4) then if ax_in r1.2 40 24 (nI i + 5) then if ax_in r1.2 40 24 (nI i + 6) then if (gS r1.2 159).1 = 11 then (M (gI r1.2 40 (Int32.toNatClampNeg (nI i + 1))) (gI r1.2 40 (Int32.toNatClampNeg (nI i + 2))) (gI r1.2 40 (Int32.toNatClampNeg (nI i + 3))) (gI r1.2 40 (Int32.toNatClampNeg (nI i + 4))) (gI r1.2 40 (Int32.toNatClampNeg (nI i + 5))) (gI r1.2 40 (Int32.toNatClampNeg (nI i + 6))) r1.2).bind (fun r2 => if decide (r1.1 = r2.1) then Law_law_18 40 64 159 (nI i + 7) r2.2 else some (0, r2.2)) else none else none else none else none else none else none else none) else none else none else none else none else none else none else none) = Law_law_18 40 64 159 (nI (i + 7)) h2 := by
  obtain ⟨x, h1, h2, p, q, ⟨t1, t2, t3⟩, nx⟩ := c
  have t1 : gS h1 40 = (24, L) := t1.trans s40
  have s64 : (gS h 64).1 = 0 := by obtain ⟨wS, wR, wG, wN⟩ := v.1.1; simp only [wS]
  have e7 : nI i + 7 = nI (i + 7) := by rw [show (7 : Int32) = nI 7 from rfl, nI_add]
  have a1 : ax_in h 40 24 (nI i + 1) := in_sc s40 hi hL (j := 1) (by omega) rfl
  have b1 : ax_in h1 40 24 (nI i + 1) := in_sc t1 hi hL (j := 1) (by omega) rfl
  have a2 : ax_in h 40 24 (nI i + 2) := in_sc s40 hi hL (j := 2) (by omega) rfl
  have b2 : ax_in h1 40 24 (nI i + 2) := in_sc t1 hi hL (j := 2) (by omega) rfl
  have a3 : ax_in h 40 24 (nI i + 3) := in_sc s40 hi hL (j := 3) (by omega) rfl
  have b3 : ax_in h1 40 24 (nI i + 3) := in_sc t1 hi hL (j := 3) (by omega) rfl
  have a4 : ax_in h 40 24 (nI i + 4) := in_sc s40 hi hL (j := 4) (by omega) rfl
  have b4 : ax_in h1 40 24 (nI i + 4) := in_sc t1 hi hL (j := 4) (by omega) rfl
  have a5 : ax_in h 40 24 (nI i + 5) := in_sc s40 hi hL (j := 5) (by omega) rfl
  have b5 : ax_in h1 40 24 (nI i + 5) := in_sc t1 hi hL (j := 5) (by omega) rfl
  have a6 : ax_in h 40 24 (nI i + 6) := in_sc s40 hi hL (j := 6) (by omega) rfl
  have b6 : ax_in h1 40 24 (nI i + 6) := in_sc t1 hi hL (j := 6) (by omega) rfl
  refine ⟨h2, nx, ?_⟩
  rw [if_pos a1, if_pos a2, if_pos a3, if_pos a4, if_pos a5, if_pos a6, if_pos s64, bnd p]
  show (if ax_in h1 40 24 (nI i + 1) then if ax_in h1 40 24 (nI i + 2) then if ax_in h1 40 24 (nI i + 3) then if ax_in h1 40 24 (nI i + 4) then if ax_in h1 40 24 (nI i + 5) then if ax_in h1 40 24 (nI i + 6) then if (gS h1 159).1 = 11 then (M (gI h1 40 (Int32.toNatClampNeg (nI i + 1))) (gI h1 40 (Int32.toNatClampNeg (nI i + 2))) (gI h1 40 (Int32.toNatClampNeg (nI i + 3))) (gI h1 40 (Int32.toNatClampNeg (nI i + 4))) (gI h1 40 (Int32.toNatClampNeg (nI i + 5))) (gI h1 40 (Int32.toNatClampNeg (nI i + 6))) h1).bind _ else none else none else none else none else none else none else none) = _
  rw [if_pos b1, if_pos b2, if_pos b3, if_pos b4, if_pos b5, if_pos b6, if_pos t3, t2 (Int32.toNatClampNeg (nI i + 1)), t2 (Int32.toNatClampNeg (nI i + 2)), t2 (Int32.toNatClampNeg (nI i + 3)), t2 (Int32.toNatClampNeg (nI i + 4)), t2 (Int32.toNatClampNeg (nI i + 5)), t2 (Int32.toNatClampNeg (nI i + 6)), bnd q]
  exact (if_pos (show decide (x = x) = true from decide_eq_true rfl)).trans (by rw [e7])
theorem cs_2l {h : ax_H} {i L : Nat} (v : Inv h) (s40 : gS h 40 = (24, L)) (hi : i + 7 ≤ L) (hL : L ≤ 3584) {B M : Int32 → Int32 → ax_H → Option (Int64 × ax_H)} (c : cal h (B (gI h 40 (Int32.toNatClampNeg (nI i + 1))) (gI h 40 (Int32.toNatClampNeg (nI i + 2))) h) (M (gI h 40 (Int32.toNatClampNeg (nI i + 1))) (gI h 40 (Int32.toNatClampNeg (nI i + 2))))) : ∃ h2, nxt h h2 ∧ (if ax_in h 40 24 (nI i + 1) then if ax_in h 40 24 (nI i + 2) then if (gS h 64).1 = 0 then (B (gI h 40 (Int32.toNatClampNeg (nI i + 1))) (gI h 40 (Int32.toNatClampNeg (nI i + 2))) h).bind (fun r1 => if ax_in r1.2 40 24 (nI i + 1) then if ax_in r1.2 40 24 (nI i + 2) then if (gS r1.2 159).1 = 11 then (M (gI r1.2 40 (Int32.toNatClampNeg (nI i + 1))) (gI r1.2 40 (Int32.toNatClampNeg (nI i + 2))) r1.2).bind (fun r2 => if decide ((lg_cmp r1.1 r2.1) = 0) then Law_law_18 40 64 159 (nI i + 7) r2.2 else some (0, r2.2)) else none else none else none) else none else none else none) = Law_law_18 40 64 159 (nI (i + 7)) h2 := by
  obtain ⟨x, h1, h2, p, q, ⟨t1, t2, t3⟩, nx⟩ := c
  have t1 : gS h1 40 = (24, L) := t1.trans s40
  have s64 : (gS h 64).1 = 0 := by obtain ⟨wS, wR, wG, wN⟩ := v.1.1; simp only [wS]
  have e7 : nI i + 7 = nI (i + 7) := by rw [show (7 : Int32) = nI 7 from rfl, nI_add]
  have a1 : ax_in h 40 24 (nI i + 1) := in_sc s40 hi hL (j := 1) (by omega) rfl
  have b1 : ax_in h1 40 24 (nI i + 1) := in_sc t1 hi hL (j := 1) (by omega) rfl
  have a2 : ax_in h 40 24 (nI i + 2) := in_sc s40 hi hL (j := 2) (by omega) rfl
  have b2 : ax_in h1 40 24 (nI i + 2) := in_sc t1 hi hL (j := 2) (by omega) rfl
  refine ⟨h2, nx, ?_⟩
  rw [if_pos a1, if_pos a2, if_pos s64, bnd p]
  show (if ax_in h1 40 24 (nI i + 1) then if ax_in h1 40 24 (nI i + 2) then if (gS h1 159).1 = 11 then (M (gI h1 40 (Int32.toNatClampNeg (nI i + 1))) (gI h1 40 (Int32.toNatClampNeg (nI i + 2))) h1).bind _ else none else none else none) = _
  rw [if_pos b1, if_pos b2, if_pos t3, t2 (Int32.toNatClampNeg (nI i + 1)), t2 (Int32.toNatClampNeg (nI i + 2)), bnd q]
  exact (if_pos (show decide (lg_cmp x x = 0) = true from decide_eq_true (lgc_rf x))).trans (by rw [e7])
theorem cs_3l {h : ax_H} {i L : Nat} (v : Inv h) (s40 : gS h 40 = (24, L)) (hi : i + 7 ≤ L) (hL : L ≤ 3584) {B M : Int32 → Int32 → Int32 → ax_H → Option (Int64 × ax_H)} (c : cal h (B (gI h 40 (Int32.toNatClampNeg (nI i + 1))) (gI h 40 (Int32.toNatClampNeg (nI i + 2))) (gI h 40 (Int32.toNatClampNeg (nI i + 3))) h) (M (gI h 40 (Int32.toNatClampNeg (nI i + 1))) (gI h 40 (Int32.toNatClampNeg (nI i + 2))) (gI h 40 (Int32.toNatClampNeg (nI i + 3))))) : ∃ h2, nxt h h2 ∧ (if ax_in h 40 24 (nI i + 1) then if ax_in h 40 24 (nI i + 2) then if ax_in h 40 24 (nI i + 3) then if (gS h 64).1 = 0 then (B (gI h 40 (Int32.toNatClampNeg (nI i + 1))) (gI h 40 (Int32.toNatClampNeg (nI i + 2))) (gI h 40 (Int32.toNatClampNeg (nI i + 3))) h).bind (fun r1 => if ax_in r1.2 40 24 (nI i + 1) then if ax_in r1.2 40 24 (nI i + 2) then if ax_in r1.2 40 24 (nI i + 3) then if (gS r1.2 159).1 = 11 then (M (gI r1.2 40 (Int32.toNatClampNeg (nI i + 1))) (gI r1.2 40 (Int32.toNatClampNeg (nI i + 2))) (gI r1.2 40 (Int32.toNatClampNeg (nI i + 3))) r1.2).bind (fun r2 => if decide ((lg_cmp r1.1 r2.1) = 0) then Law_law_18 40 64 159 (nI i + 7) r2.2 else some (0, r2.2)) else none else none else none else none) else none else none else none else none) = Law_law_18 40 64 159 (nI (i + 7)) h2 := by
  obtain ⟨x, h1, h2, p, q, ⟨t1, t2, t3⟩, nx⟩ := c
  have t1 : gS h1 40 = (24, L) := t1.trans s40
  have s64 : (gS h 64).1 = 0 := by obtain ⟨wS, wR, wG, wN⟩ := v.1.1; simp only [wS]
  have e7 : nI i + 7 = nI (i + 7) := by rw [show (7 : Int32) = nI 7 from rfl, nI_add]
  have a1 : ax_in h 40 24 (nI i + 1) := in_sc s40 hi hL (j := 1) (by omega) rfl
  have b1 : ax_in h1 40 24 (nI i + 1) := in_sc t1 hi hL (j := 1) (by omega) rfl
  have a2 : ax_in h 40 24 (nI i + 2) := in_sc s40 hi hL (j := 2) (by omega) rfl
  have b2 : ax_in h1 40 24 (nI i + 2) := in_sc t1 hi hL (j := 2) (by omega) rfl
  have a3 : ax_in h 40 24 (nI i + 3) := in_sc s40 hi hL (j := 3) (by omega) rfl
  have b3 : ax_in h1 40 24 (nI i + 3) := in_sc t1 hi hL (j := 3) (by omega) rfl
  refine ⟨h2, nx, ?_⟩
  rw [if_pos a1, if_pos a2, if_pos a3, if_pos s64, bnd p]
  show (if ax_in h1 40 24 (nI i + 1) then if ax_in h1 40 24 (nI i + 2) then if ax_in h1 40 24 (nI i + 3) then if (gS h1 159).1 = 11 then (M (gI h1 40 (Int32.toNatClampNeg (nI i + 1))) (gI h1 40 (Int32.toNatClampNeg (nI i + 2))) (gI h1 40 (Int32.toNatClampNeg (nI i + 3))) h1).bind _ else none else none else none else none) = _
  rw [if_pos b1, if_pos b2, if_pos b3, if_pos t3, t2 (Int32.toNatClampNeg (nI i + 1)), t2 (Int32.toNatClampNeg (nI i + 2)), t2 (Int32.toNatClampNeg (nI i + 3)), bnd q]
  exact (if_pos (show decide (lg_cmp x x = 0) = true from decide_eq_true (lgc_rf x))).trans (by rw [e7])
theorem cs_4l {h : ax_H} {i L : Nat} (v : Inv h) (s40 : gS h 40 = (24, L)) (hi : i + 7 ≤ L) (hL : L ≤ 3584) {B M : Int32 → Int32 → Int32 → Int32 → ax_H → Option (Int64 × ax_H)} (c : cal h (B (gI h 40 (Int32.toNatClampNeg (nI i + 1))) (gI h 40 (Int32.toNatClampNeg (nI i + 2))) (gI h 40 (Int32.toNatClampNeg (nI i + 3))) (gI h 40 (Int32.toNatClampNeg (nI i + 4))) h) (M (gI h 40 (Int32.toNatClampNeg (nI i + 1))) (gI h 40 (Int32.toNatClampNeg (nI i + 2))) (gI h 40 (Int32.toNatClampNeg (nI i + 3))) (gI h 40 (Int32.toNatClampNeg (nI i + 4))))) : ∃ h2, nxt h h2 ∧ (if ax_in h 40 24 (nI i + 1) then if ax_in h 40 24 (nI i + 2) then if ax_in h 40 24 (nI i + 3) then if ax_in h 40 24 (nI i + 4) then if (gS h 64).1 = 0 then (B (gI h 40 (Int32.toNatClampNeg (nI i + 1))) (gI h 40 (Int32.toNatClampNeg (nI i + 2))) (gI h 40 (Int32.toNatClampNeg (nI i + 3))) (gI h 40 (Int32.toNatClampNeg (nI i + 4))) h).bind (fun r1 => if ax_in r1.2 40 24 (nI i + 1) then if ax_in r1.2 40 24 (nI i + 2) then if ax_in r1.2 40 24 (nI i + 3) then if ax_in r1.2 40 24 (nI i + 4) then if (gS r1.2 159).1 = 11 then (M (gI r1.2 40 (Int32.toNatClampNeg (nI i + 1))) (gI r1.2 40 (Int32.toNatClampNeg (nI i + 2))) (gI r1.2 40 (Int32.toNatClampNeg (nI i + 3))) (gI r1.2 40 (Int32.toNatClampNeg (nI i + 4))) r1.2).bind (fun r2 => if decide ((lg_cmp r1.1 r2.1) = 0) then Law_law_18 40 64 159 (nI i + 7) r2.2 else some (0, r2.2)) else none else none else none else none else none) else none else none else none else none else none) = Law_law_18 40 64 159 (nI (i + 7)) h2 := by
  obtain ⟨x, h1, h2, p, q, ⟨t1, t2, t3⟩, nx⟩ := c
  have t1 : gS h1 40 = (24, L) := t1.trans s40
  have s64 : (gS h 64).1 = 0 := by obtain ⟨wS, wR, wG, wN⟩ := v.1.1; simp only [wS]
  have e7 : nI i + 7 = nI (i + 7) := by rw [show (7 : Int32) = nI 7 from rfl, nI_add]
  have a1 : ax_in h 40 24 (nI i + 1) := in_sc s40 hi hL (j := 1) (by omega) rfl
  have b1 : ax_in h1 40 24 (nI i + 1) := in_sc t1 hi hL (j := 1) (by omega) rfl
  have a2 : ax_in h 40 24 (nI i + 2) := in_sc s40 hi hL (j := 2) (by omega) rfl
  have b2 : ax_in h1 40 24 (nI i + 2) := in_sc t1 hi hL (j := 2) (by omega) rfl
  have a3 : ax_in h 40 24 (nI i + 3) := in_sc s40 hi hL (j := 3) (by omega) rfl
  have b3 : ax_in h1 40 24 (nI i + 3) := in_sc t1 hi hL (j := 3) (by omega) rfl
  have a4 : ax_in h 40 24 (nI i + 4) := in_sc s40 hi hL (j := 4) (by omega) rfl
  have b4 : ax_in h1 40 24 (nI i + 4) := in_sc t1 hi hL (j := 4) (by omega) rfl
  refine ⟨h2, nx, ?_⟩
  rw [if_pos a1, if_pos a2, if_pos a3, if_pos a4, if_pos s64, bnd p]
  show (if ax_in h1 40 24 (nI i + 1) then if ax_in h1 40 24 (nI i + 2) then if ax_in h1 40 24 (nI i + 3) then if ax_in h1 40 24 (nI i + 4) then if (gS h1 159).1 = 11 then (M (gI h1 40 (Int32.toNatClampNeg (nI i + 1))) (gI h1 40 (Int32.toNatClampNeg (nI i + 2))) (gI h1 40 (Int32.toNatClampNeg (nI i + 3))) (gI h1 40 (Int32.toNatClampNeg (nI i + 4))) h1).bind _ else none else none else none else none else none) = _
  rw [if_pos b1, if_pos b2, if_pos b3, if_pos b4, if_pos t3, t2 (Int32.toNatClampNeg (nI i + 1)), t2 (Int32.toNatClampNeg (nI i + 2)), t2 (Int32.toNatClampNeg (nI i + 3)), t2 (Int32.toNatClampNeg (nI i + 4)), bnd q]
  exact (if_pos (show decide (lg_cmp x x = 0) = true from decide_eq_true (lgc_rf x))).trans (by rw [e7])
theorem cs_could {h : ax_H} {i L : Nat} (v : Inv h) (s40 : gS h 40 = (24, L)) (hi : i + 7 ≤ L) (hL : L ≤ 3584) (c : ∀ b : Int32, cal h (B_could 64 (gI h 40 (Int32.toNatClampNeg (nI i + 1))) (gI h 40 (Int32.toNatClampNeg (nI i + 2))) b h) (M_could 159 (gI h 40 (Int32.toNatClampNeg (nI i + 1))) (gI h 40 (Int32.toNatClampNeg (nI i + 2))) b)) {b : Int32} (hb : b = if (gI h 40 (Int32.toNatClampNeg (nI i + 3))) = 0 then 0 else 1) : ∃ h2, nxt h h2 ∧ Law_law_1363 b (gI h 40 (Int32.toNatClampNeg (nI i + 2))) (gI h 40 (Int32.toNatClampNeg (nI i + 1))) 64 40 64 159 (nI i) h = Law_law_18 40 64 159 (nI (i + 7)) h2 := by
  obtain ⟨x, h1, h2, p, q, ⟨t1, t2, t3⟩, nx⟩ := c b
  have t1 : gS h1 40 = (24, L) := t1.trans s40
  have s64 : (gS h 64).1 = 0 := by obtain ⟨wS, wR, wG, wN⟩ := v.1.1; simp only [wS]
  have e7 : nI i + 7 = nI (i + 7) := by rw [show (7 : Int32) = nI 7 from rfl, nI_add]
  have b1 : ax_in h1 40 24 (nI i + 1) := in_sc t1 hi hL (j := 1) (by omega) rfl
  have b2 : ax_in h1 40 24 (nI i + 2) := in_sc t1 hi hL (j := 2) (by omega) rfl
  have b3 : ax_in h1 40 24 (nI i + 3) := in_sc t1 hi hL (j := 3) (by omega) rfl
  refine ⟨h2, nx, ?_⟩
  rw [Law_law_1363_eq, if_pos s64, bnd p]
  by_cases z : gI h 40 (Int32.toNatClampNeg (nI i + 3)) = 0
  · rw [if_pos z] at hb
    rw [hb] at q
    show (if ax_in h1 40 24 (nI i + 1) then if ax_in h1 40 24 (nI i + 2) then if ax_in h1 40 24 (nI i + 3) then if decide (gI h1 40 (Int32.toNatClampNeg (nI i + 3)) = 0) = true then (if (gS h1 159).1 = 11 then (M_could 159 (gI h1 40 (Int32.toNatClampNeg (nI i + 1))) (gI h1 40 (Int32.toNatClampNeg (nI i + 2))) 0 h1).bind _ else none) else _ else none else none else none) = _
    rw [if_pos b1, if_pos b2, if_pos b3, t2 (Int32.toNatClampNeg (nI i + 3)), if_pos (decide_eq_true z), if_pos t3, t2 (Int32.toNatClampNeg (nI i + 1)), t2 (Int32.toNatClampNeg (nI i + 2)), bnd q]
    exact (if_pos (show decide (x = x) = true from decide_eq_true rfl)).trans (by rw [e7])
  · rw [if_neg z] at hb
    rw [hb] at q
    show (if ax_in h1 40 24 (nI i + 1) then if ax_in h1 40 24 (nI i + 2) then if ax_in h1 40 24 (nI i + 3) then if decide (gI h1 40 (Int32.toNatClampNeg (nI i + 3)) = 0) = true then _ else (if (gS h1 159).1 = 11 then (M_could 159 (gI h1 40 (Int32.toNatClampNeg (nI i + 1))) (gI h1 40 (Int32.toNatClampNeg (nI i + 2))) 1 h1).bind _ else none) else none else none else none) = _
    rw [if_pos b1, if_pos b2, if_pos b3, t2 (Int32.toNatClampNeg (nI i + 3)), if_neg (by rw [decide_eq_true_eq]; exact z), if_pos t3, t2 (Int32.toNatClampNeg (nI i + 1)), t2 (Int32.toNatClampNeg (nI i + 2)), bnd q]
    exact (if_pos (show decide (x = x) = true from decide_eq_true rfl)).trans (by rw [e7])
