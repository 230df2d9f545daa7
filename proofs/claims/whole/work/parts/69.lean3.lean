/-! leans: the class's answer -/
def laA (V : BV) (d kn : Int32) (u : Nat) : Int := zo (hkB V d kn) (leA V kn u) (nM V) 0 0
def laB (V : BV) (d kn : Int32) : Int := zo (hkB V d kn) (leB V kn) (nM V) 0 0
theorem la_bd {V : BV} (g : GV V) (d kn : Int32) (u : Nat) : (-22830444000 ≤ laA V d kn u ∧ laA V d kn u ≤ 22830444000) ∧ (0 ≤ laB V d kn ∧ laB V d kn ≤ 42000) := by
  have hcn := cnts g.1
  have a1 := zo_bd (B := hkB V d kn) (F := leA V kn u) (M := 228304440) (by omega) (nM V) 0 0 0 (by omega) (fun j _ hj => by
    unfold leA
    split
    · omega
    · have h1 := me_bd g (i := j) (by omega) u
      have h2 := zo_bd (B := otB V kn j) (F := me V u) (M := 5382) (by omega) (nM V) 0 0 0 (by omega) (fun i _ hi => me_bd g (i := i) (by omega) u)
      have h3 : 420 / otN V kn j ≤ 420 := Nat.div_le_self _ _
      obtain ⟨q, hq⟩ : ∃ q, 420 / otN V kn j = q := ⟨_, rfl⟩
      rw [hq] at h3 ⊢
      have h4 := mul_bd (x := (q : Int)) (y := otS V kn u j) (k := 420) (m := 538200) (by omega) (by unfold otS; omega)
      omega)
  have b1 := zo_bd (B := hkB V d kn) (F := leB V kn) (M := 420) (by omega) (nM V) 0 0 0 (by omega) (fun j _ hj => by unfold leB; split <;> omega)
  have b2 := zo_mono (B := hkB V d kn) (F := leB V kn) (nM V) 0 0 (fun j _ hj => by unfold leB; split <;> omega)
  unfold laA laB
  omega
def lnV (V : BV) (d kn : Int32) (u part : Nat) : Int := if laB V d kn = 0 then part else lowZ (laA V d kn u) (laB V d kn) part
theorem z_leans {h : ax_H} (i : I0 h) {d kn : Int32} {u part : Nat} (hd : 0 ≤ d.toInt ∧ d.toInt ≤ 7) (hk : 0 ≤ kn.toInt ∧ kn.toInt ≤ 9999) (hu : u < 2) (hp : part < 2) : ∃ h', B_leans 64 d kn (nI u) (nI part) h = some (Int64.ofInt (lnV (V h) d kn u part), h') ∧ frA (fun _ _ => false) h h' ∧ gN h' = gN h + 1 ∧ gZ h' = gZ h + 2 := by
  obtain ⟨w, e, g⟩ := i
  have hb := la_bd g d kn u
  have wN := w.2.2.2
  have f0 := frA_nW (fun _ _ => false) h 9 0 2
  have w1 := ok_frA f0 w
  have hV := V_frA f0 w fun _ _ _ _ => rfl
  have hs1 : (gS (nW h 9 0 2) (gN h)).1 = 9 := by rw [gS_nW, if_pos rfl]
  have hl0 : LN (nW h 9 0 2) (gN h) 0 0 := ⟨by rw [gL_nW, if_pos rfl]; rfl, by rw [gL_nW, if_pos rfl]; rfl⟩
  obtain ⟨h', r1, r2, r3⟩ := z_ga_9 (a := gN h) wN hu d kn (nM (V h)) 0 (nW h 9 0 2) w1 (by rw [hV]; exact g) hs1 (by rw [hV]; omega) 0 0 hl0
  rw [hV] at r3
  obtain ⟨l1, l2⟩ := r3
  have sS := fr_S r2
  have hs2 : (gS h' (gN h)).1 = 9 := by rw [sS]; exact hs1
  have hu' : (nI u = 0 ∨ nI u = 1) := by
    match u, hu with
    | 0, _ => exact Or.inl rfl
    | 1, _ => exact Or.inr rfl
  have hp' : (nI part = 0 ∨ nI part = 1) := by
    match part, hp with
    | 0, _ => exact Or.inl rfl
    | 1, _ => exact Or.inr rfl
  have l1' : gL h' (gN h) 0 = Int64.ofInt (laA (V h) d kn u) := l1
  have l2' : gL h' (gN h) 1 = Int64.ofInt (laB (V h) d kn) := l2
  have hI : Ln_init (gN h) (nW h 9 0 2) = some (nW h 9 0 2) := by
    rw [Ln_init_eq, if_pos ⟨by rw [hs1]; decide, by decide⟩]
  have hG : Ln_gather (gN h) 65 d kn (nI u) (nW h 9 0 2) = some h' := by
    obtain ⟨vS, vR, -, -⟩ := w1
    rw [Ln_gather_eq]
    simp only [vS, vR, ↓reduceIte]
    exact r1
  have hL : B_lowest (Int64.ofInt (laA (V h) d kn u)) (Int64.ofInt (laB (V h) d kn)) (nI part) h' = some (Int64.ofInt (lnV (V h) d kn u part), h') := by
    unfold lnV
    by_cases q : laB (V h) d kn = 0
    · rw [if_pos q, q, B_lowest_eq]
      have c1 : ¬ (0 : Int32) < lg_cmp (Int64.ofInt 0) 0 := by decide
      have e1 : (nI part).toInt64 = Int64.ofInt (part : Int) := by rw [i_L, nJ_i (by omega)]
      simp only [c1, decide_false, Bool.false_eq_true, ↓reduceIte, e1, ite_self]
    · rw [if_neg q]
      exact z_lowest (by omega) (by omega) hp h'
  refine ⟨h', ?_, ⟨by rw [r2.1, gN_nW]; omega, fun a ha => ?_, fun a k ha => ?_, fun a k ha _ => ?_⟩, by rw [r2.1, gN_nW], by rw [r2.2.1, gZ_nW]⟩
  · obtain ⟨vS, vR, -, -⟩ := w1
    rw [B_leans_eq]
    simp only [↓bnd (z_isHand _ _), ↓bnd (z_isWeek _ _), ↓bnd (z_isChoice _ _), bI_0, hd, hk, hu', hp', and_self, not_true_eq_false, decide_false, decide_true, not_false_eq_true, Bool.false_eq_true, ↓reduceIte, hs1, ↓bnd hI, vS, vR, ↓bnd hG, hs2, l1', l2', ↓bnd hL]
  · rw [sS]; exact f0.2.1 a ha
  · rw [fr_R r2]; exact f0.2.2.1 a k ha
  · have hz : Sa (gN h) a k = false := by simp only [Sa, decide_eq_false_iff_not]; omega
    exact ⟨(fr_I r2 hz).trans (f0.2.2.2 a k ha rfl).1, (fr_L r2 hz).trans (f0.2.2.2 a k ha rfl).2⟩
