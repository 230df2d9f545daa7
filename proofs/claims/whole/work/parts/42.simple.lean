theorem bnd {α β : Type} {x : Option α} {r : α} (e : x = some r) (f : α → Option β) : x.bind f = f r := by rw [e]; rfl
/-! small tests of both sides, by their numbers -/
def bI (p : Prop) [Decidable p] : Int32 := if p then 1 else 0
theorem bI_0 (p : Prop) [Decidable p] : bI p = 0 ↔ ¬ p := by unfold bI; split <;> simp_all
theorem bI_1 (p : Prop) [Decidable p] : bI p = 0 ∨ bI p = 1 := by unfold bI; split <;> simp
theorem bI_iff {p q : Prop} [Decidable p] [Decidable q] (h : p ↔ q) : bI p = bI q := by unfold bI; simp [h]
theorem lgc_lt (a b : Int64) : lg_cmp a b < 0 ↔ a.toInt < b.toInt := by
  unfold lg_cmp
  by_cases h : a > b
  · rw [if_pos h]
    have := Int64.lt_iff_toInt_lt.mp h
    exact ⟨fun q => absurd q (by decide), fun q => by omega⟩
  · rw [if_neg h]
    have h' : ¬ b.toInt < a.toInt := fun q => h (Int64.lt_iff_toInt_lt.mpr q)
    by_cases h2 : a = b
    · rw [if_pos h2]
      subst h2
      exact ⟨fun q => absurd q (by decide), fun q => by omega⟩
    · rw [if_neg h2]
      have : a.toInt ≠ b.toInt := fun e => h2 (Int64.toInt_inj.mp e)
      exact ⟨fun _ => by omega, fun _ => by decide⟩
theorem lgc_gt (a b : Int64) : 0 < lg_cmp a b ↔ b.toInt < a.toInt := by
  unfold lg_cmp
  by_cases h : a > b
  · rw [if_pos h]
    have := Int64.lt_iff_toInt_lt.mp h
    exact ⟨fun _ => this, fun _ => by decide⟩
  · rw [if_neg h]
    have h' : ¬ b.toInt < a.toInt := fun q => h (Int64.lt_iff_toInt_lt.mpr q)
    by_cases h2 : a = b
    · rw [if_pos h2]
      exact ⟨fun q => absurd q (by decide), fun q => absurd q h'⟩
    · rw [if_neg h2]
      exact ⟨fun q => absurd q (by decide), fun q => absurd q h'⟩
theorem z_isWithin (a b c : Int32) (h : ax_H) : B_isWithin a b c h = some (bI (b.toInt ≤ a.toInt ∧ a.toInt ≤ c.toInt), h) := by
  rw [B_isWithin_eq]
  simp only [decide_eq_true_eq, i32_lt]
  unfold bI
  by_cases h1 : a.toInt < b.toInt
  · rw [if_pos h1, if_neg (by omega)]
  · rw [if_neg h1]
    by_cases h2 : c.toInt < a.toInt
    · rw [if_pos h2, if_neg (by omega)]
    · rw [if_neg h2, if_pos (by omega)]
theorem zm_in (a b c : Int64) (h : ax_H) : M_in a b c h = some (bI (b.toInt ≤ a.toInt ∧ a.toInt ≤ c.toInt), h) := by
  rw [M_in_eq]
  simp only [decide_eq_true_eq, lgc_lt, lgc_gt]
  unfold bI
  by_cases h1 : a.toInt < b.toInt
  · rw [if_pos h1, if_neg (by omega)]
  · rw [if_neg h1]
    by_cases h2 : c.toInt < a.toInt
    · rw [if_pos h2, if_neg (by omega)]
    · rw [if_neg h2, if_pos (by omega)]
theorem z_isTerm (a : Int32) (h : ax_H) : B_isTerm a h = some (bI (0 ≤ a.toInt ∧ a.toInt ≤ 5), h) := by
  rw [B_isTerm_eq, z_isWithin]
  simp only [Option.bind_some, bI_1, if_true]
  rfl
theorem z_isWeek (a : Int32) (h : ax_H) : B_isWeek a h = some (bI (0 ≤ a.toInt ∧ a.toInt ≤ 9999), h) := by
  rw [B_isWeek_eq, z_isWithin]
  simp only [Option.bind_some, bI_1, if_true]
  rfl
theorem z_isHand (a : Int32) (h : ax_H) : B_isHand a h = some (bI (0 ≤ a.toInt ∧ a.toInt ≤ 7), h) := by
  rw [B_isHand_eq, z_isWithin]
  simp only [Option.bind_some, bI_1, if_true]
  rfl
theorem z_isIsland (a : Int32) (h : ax_H) : B_isIsland a h = some (bI (0 ≤ a.toInt ∧ a.toInt ≤ 3), h) := by
  rw [B_isIsland_eq, z_isWithin]
  simp only [Option.bind_some, bI_1, if_true]
  rfl
theorem z_isNumber (a : Int32) (h : ax_H) : B_isNumber a h = some (bI (0 ≤ a.toInt ∧ a.toInt ≤ 99999), h) := by
  rw [B_isNumber_eq, z_isWithin]
  simp only [Option.bind_some, bI_1, if_true]
  rfl
theorem zm_isWeek (a : Int32) (h : ax_H) : M_isWeek a h = some (bI (0 ≤ a.toInt ∧ a.toInt ≤ 9999), h) := by
  rw [M_isWeek_eq, zm_in]
  simp only [Option.bind_some, bI_1, if_true, Int32.toInt_toInt64]
  rfl
theorem zm_isHand (a : Int32) (h : ax_H) : M_isHand a h = some (bI (0 ≤ a.toInt ∧ a.toInt ≤ 7), h) := by
  rw [M_isHand_eq, zm_in]
  simp only [Option.bind_some, bI_1, if_true, Int32.toInt_toInt64]
  rfl
theorem zm_isTerm (a : Int32) (h : ax_H) : M_isTerm a h = some (bI (0 ≤ a.toInt ∧ a.toInt ≤ 5), h) := by
  rw [M_isTerm_eq, zm_in]
  simp only [Option.bind_some, bI_1, if_true, Int32.toInt_toInt64]
  rfl
theorem z_isChoice (a : Int32) (h : ax_H) : B_isChoice a h = some (bI (a = 0 ∨ a = 1), h) := by
  rw [B_isChoice_eq]
  simp only [decide_eq_true_eq]
  unfold bI
  by_cases h1 : a = 0 <;> by_cases h2 : a = 1 <;> simp [h1, h2]
theorem z_areThree (a b c : Int32) (h : ax_H) : B_areThree a b c h = some (bI (inI a 0 99999 ∧ inI b 0 99999 ∧ inI c 0 99999), h) := by
  rw [B_areThree_eq]
  simp only [z_isNumber, Option.bind_some, decide_eq_true_eq, bI_0]
  unfold bI
  by_cases h1 : inI a 0 99999 <;> by_cases h2 : inI b 0 99999 <;> by_cases h3 : inI c 0 99999 <;> simp [h1, h2, h3]
theorem z_areTwoIslands (a b : Int32) (h : ax_H) : B_areTwoIslands a b h = some (bI (inI a 0 3 ∧ inI b 0 3 ∧ a ≠ b), h) := by
  rw [B_areTwoIslands_eq]
  simp only [z_isIsland, Option.bind_some, decide_eq_true_eq, bI_0]
  unfold bI
  by_cases h1 : inI a 0 3 <;> by_cases h2 : inI b 0 3 <;> by_cases h3 : a = b <;> simp [h1, h2, h3]
theorem sub1 {x : Int32} {n : Int} (h : inI x 0 n) : (x - 1).toInt = x.toInt - 1 := by
  have := Int32.toInt_lt x
  exact i32_sub (by show _ ≤ _ - (1 : Int); omega) (by show _ - (1 : Int) < _; omega)
section
theorem z_St_has {h : ax_H} (w : ok h) (g : GC (V h)) (a : Int32) : St_has 66 a h = some (bI (inI a 0 ((V h 66 0).toInt - 1)), h) := by
  obtain ⟨wS, wR, wG, wN⟩ := w
  rw [St_has_eq]
  simp only [gI_pI, gI_pL, gI_pR, gL_pI, gL_pL, gL_pR, gR_pI, gR_pL, gR_pR, gS_pI, gS_pL, gS_pR, ↓reduceIte, Nat.reduceEqDiff, decide_eq_true_eq, Option.bind_some, false_and, and_false, true_and, and_true, and_self, Nat.reduceAdd, not_false_eq_true, not_true_eq_false, wS, wR, cV65, cV66, cV67, cV68, cV69, cV70, cV71, cV72, cV73, cV74, cV75, cV76, cV77, cV78, cV79, cV80, cV81, cV82, cV83, cV84, cV85, cV86, cV87, cV88, cV89, cV90, z_isWithin, bI_1, if_true, sub1 g.2.1]
  rfl
theorem z_Pl_has {h : ax_H} (w : ok h) (g : GC (V h)) (a : Int32) : Pl_has 70 a h = some (bI (inI a 0 ((V h 70 0).toInt - 1)), h) := by
  obtain ⟨wS, wR, wG, wN⟩ := w
  rw [Pl_has_eq]
  simp only [gI_pI, gI_pL, gI_pR, gL_pI, gL_pL, gL_pR, gR_pI, gR_pL, gR_pR, gS_pI, gS_pL, gS_pR, ↓reduceIte, Nat.reduceEqDiff, decide_eq_true_eq, Option.bind_some, false_and, and_false, true_and, and_true, and_self, Nat.reduceAdd, not_false_eq_true, not_true_eq_false, wS, wR, cV65, cV66, cV67, cV68, cV69, cV70, cV71, cV72, cV73, cV74, cV75, cV76, cV77, cV78, cV79, cV80, cV81, cV82, cV83, cV84, cV85, cV86, cV87, cV88, cV89, cV90, z_isWithin, bI_1, if_true, sub1 g.2.2.1]
  rfl
theorem zm_isStar {h : ax_H} (w : ok h) (g : GC (V h)) (e : EQ h) (a : Int32) : M_isStar 159 a h = some (bI (inI a 0 ((V h 66 0).toInt - 1)), h) := by
  obtain ⟨wS, wR, wG, wN⟩ := w
  unfold EQ at e
  rw [M_isStar_eq]
  simp only [gI_pI, gI_pL, gI_pR, gL_pI, gL_pL, gL_pR, gR_pI, gR_pL, gR_pR, gS_pI, gS_pL, gS_pR, ↓reduceIte, Nat.reduceEqDiff, decide_eq_true_eq, Option.bind_some, false_and, and_false, true_and, and_true, and_self, Nat.reduceAdd, not_false_eq_true, not_true_eq_false, wS, wR, zm_in, bI_1, if_true, Int32.toInt_toInt64, e, sub1 g.2.1]
  rfl
theorem zm_isPlate {h : ax_H} (w : ok h) (g : GC (V h)) (e : EQ h) (a : Int32) : M_isPlate 159 a h = some (bI (inI a 0 ((V h 70 0).toInt - 1)), h) := by
  obtain ⟨wS, wR, wG, wN⟩ := w
  unfold EQ at e
  rw [M_isPlate_eq]
  simp only [gI_pI, gI_pL, gI_pR, gL_pI, gL_pL, gL_pR, gR_pI, gR_pL, gR_pR, gS_pI, gS_pL, gS_pR, ↓reduceIte, Nat.reduceEqDiff, decide_eq_true_eq, Option.bind_some, false_and, and_false, true_and, and_true, and_self, Nat.reduceAdd, not_false_eq_true, not_true_eq_false, wS, wR, zm_in, bI_1, if_true, Int32.toInt_toInt64, e, sub1 g.2.2.1]
  rfl
theorem zm_isWay {h : ax_H} (w : ok h) (g : GC (V h)) (e : EQ h) (a : Int32) : M_isWay 159 a h = some (bI (inI a 0 ((V h 65 4).toInt - 1)), h) := by
  obtain ⟨wS, wR, wG, wN⟩ := w
  unfold EQ at e
  rw [M_isWay_eq]
  simp only [gI_pI, gI_pL, gI_pR, gL_pI, gL_pL, gL_pR, gR_pI, gR_pL, gR_pR, gS_pI, gS_pL, gS_pR, ↓reduceIte, Nat.reduceEqDiff, decide_eq_true_eq, Option.bind_some, false_and, and_false, true_and, and_true, and_self, Nat.reduceAdd, not_false_eq_true, not_true_eq_false, wS, wR, zm_in, bI_1, if_true, Int32.toInt_toInt64, e, sub1 g.2.2.2.2.1]
  rfl
end
theorem tN9 : (-9 : Int32).toInt = -9 := rfl
theorem tL9 : (-9 : Int64).toInt = -9 := rfl
theorem tN299 : (-299 : Int32).toInt = -299 := rfl
theorem tL299 : (-299 : Int64).toInt = -299 := rfl
theorem tN99999 : (-99999 : Int32).toInt = -99999 := rfl
theorem tL99999 : (-99999 : Int64).toInt = -99999 := rfl
theorem tN9999 : (-9999 : Int32).toInt = -9999 := rfl
theorem tL9999 : (-9999 : Int64).toInt = -9999 := rfl
theorem tN99 : (-99 : Int32).toInt = -99 := rfl
theorem tL99 : (-99 : Int64).toInt = -99 := rfl
theorem i1_0 : ¬ (1 : Int32) = 0 := by decide
theorem i0_1 : ¬ (0 : Int32) = 1 := by decide
