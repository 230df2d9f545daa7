/-! books that agree below their lengths -/
def agV (V W : BV) : Prop := (W 65 0 = V 65 0 ∧ W 65 4 = V 65 4 ∧ W 65 6 = V 65 6 ∧ W 65 10 = V 65 10 ∧ W 66 0 = V 66 0 ∧ W 70 0 = V 70 0 ∧ W 74 0 = V 74 0) ∧ (∀ a k, 67 ≤ a → a ≤ 69 → k < 30 → W a k = V a k) ∧ (∀ a k, 71 ≤ a → a ≤ 73 → k < 16 → W a k = V a k) ∧ (∀ a k, 75 ≤ a → a ≤ 81 → k < 100 → W a k = V a k) ∧ (∀ a k, 83 ≤ a → a ≤ 85 → k < 40 → W a k = V a k) ∧ (∀ a k, 86 ≤ a → a ≤ 87 → k < 9 → W a k = V a k) ∧ (∀ a k, 88 ≤ a → a ≤ 89 → k < 24 → W a k = V a k) ∧ ∀ k, k < 8 → W 90 k = V 90 k
theorem GV_ag {V W : BV} (q : agV V W) (g : GV V) : GV W := by
  obtain ⟨⟨q0, q4, q6, q10, qs, qp, qm⟩, a67, a71, a75, a83, a86, a88, a90⟩ := q
  have hcn := cnts g.1
  obtain ⟨gc, gs, gp, gi, gd, gf, gk⟩ := g
  have eS : nS W = nS V := by show (W 66 0).toInt.toNat = _; rw [qs]
  have eP : nP W = nP V := by show (W 70 0).toInt.toNat = _; rw [qp]
  have eM : nM W = nM V := by show (W 74 0).toInt.toNat = _; rw [qm]
  have eD : nD W = nD V := by show (W 65 6).toInt.toNat = _; rw [q6]
  have eF : nF W = nF V := by show (W 65 10).toInt.toNat = _; rw [q10]
  have c40 : nD V ≤ 40 := by have := gc.2.2.2.2.2.1; unfold inI at this; show (V 65 6).toInt.toNat ≤ 40; omega
  have c9 : nF V ≤ 9 := by have := gc.2.2.2.2.2.2; unfold inI at this; show (V 65 10).toInt.toNat ≤ 9; omega
  have sK : ∀ i j, i < 100 → j < 100 → (sameK W i j ↔ sameK V i j) := fun i j hi hj => by
    unfold sameK
    rw [a75 75 i (by omega) (by omega) hi, a75 75 j (by omega) (by omega) hj, a75 76 i (by omega) (by omega) hi, a75 76 j (by omega) (by omega) hj, a75 77 i (by omega) (by omega) hi, a75 77 j (by omega) (by omega) hj]
  refine ⟨?_, fun s hs => ?_, fun p hp => ?_, ⟨fun i hi => ?_, fun i j hi hj => ?_, fun i hi => ?_⟩, fun j hj => ?_, fun j hj => ?_, fun j hj => ?_, fun j hj => ?_⟩
  · unfold GC
    rw [q0, qs, qp, qm, q4, q6, q10]
    exact gc
  · rw [eS] at hs
    rw [a67 67 s (by omega) (by omega) (by omega), a67 68 s (by omega) (by omega) (by omega), a67 69 s (by omega) (by omega) (by omega)]
    exact gs s hs
  · rw [eP] at hp
    rw [a71 71 p (by omega) (by omega) (by omega), a71 72 p (by omega) (by omega) (by omega), a71 73 p (by omega) (by omega) (by omega)]
    exact gp p hp
  · rw [eM] at hi
    have h1 : i < 100 := by omega
    rw [a75 75 i (by omega) (by omega) h1, a75 76 i (by omega) (by omega) h1, a75 77 i (by omega) (by omega) h1, a75 78 i (by omega) (by omega) h1, a75 79 i (by omega) (by omega) h1, a75 80 i (by omega) (by omega) h1, qp, qs, q0]
    exact gi.1 i hi
  · rw [eM] at hj
    rw [a75 80 i (by omega) (by omega) (by omega), a75 80 j (by omega) (by omega) (by omega)]
    exact gi.2.1 i j hi hj
  · rw [eM] at hi
    have h1 : i < 100 := by omega
    rw [a75 81 i (by omega) (by omega) h1]
    rcases gi.2.2 i hi with ⟨x1, x2⟩ | ⟨j, y1, y2, y3, y4, y5⟩
    · exact Or.inl ⟨x1, fun k k1 k2 z => by
        rw [eM] at k2
        exact x2 k k1 k2 ((sK i k h1 (by omega)).mp z)⟩
    · exact Or.inr ⟨j, y1, by rw [eM]; exact y2, (sK i j h1 (by omega)).mpr y3, by rw [a75 80 j (by omega) (by omega) (by omega)]; exact y4, fun k k1 k2 z => y5 k k1 k2 ((sK i k h1 (by omega)).mp z)⟩
  · rw [eD] at hj
    rw [a83 83 j (by omega) (by omega) (by omega), a83 84 j (by omega) (by omega) (by omega), a83 85 j (by omega) (by omega) (by omega), q4, q0]
    exact gd j hj
  · rw [eF] at hj
    rw [a86 86 j (by omega) (by omega) (by omega), a86 87 j (by omega) (by omega) (by omega)]
    exact gf j hj
  · rw [a88 88 j (by omega) (by omega) hj, a88 89 j (by omega) (by omega) hj]
    exact gk.1 j hj
  · rw [a90 j hj]
    exact gk.2 j hj
