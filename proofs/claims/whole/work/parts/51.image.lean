/-! image -/
section
theorem z_put37 {h : ax_H} (w : ok h) {n : Nat} (hn : gI h 74 0 = nI n) (hn2 : n < 100) (p s d x y t : Int32) : Im_put_37 74 p s d x y t h = some (nI n, pI (pI (pI (pI (pI (pI (pI (pI h 75 n p) 76 n s) 77 n d) 78 n x) 79 n y) 80 n t) 81 n 10000) 74 0 (nI (n + 1))) := by
  obtain ⟨wS, wR, wG, wN⟩ := w
  have e1 : nI (n + 1) - 1 = nI n := nI_pred n
  rw [Im_put_37_eq]
  try simp only [wS, wR, ↓reduceIte]
  simp (disch := omega) only [gI_pI, gI_pL, gI_pR, gL_pI, gL_pL, gL_pR, gR_pI, gR_pL, gR_pR, gS_pI, gS_pL, gS_pR, ↓reduceIte, Nat.reduceEqDiff, decide_eq_true_eq, Option.bind_some, false_and, and_false, true_and, and_true, and_self, Nat.reduceAdd, not_false_eq_true, not_true_eq_false, wS, wR, inI, ite_self, Classical.not_not, hn, ax_in, nJ_nn, nJ_n, nJ_p1, e1, hn2]
theorem zm_put {h : ax_H} (w : ok h) {n : Nat} (hn : gI h 159 4 = nI n) (hn2 : n < 100) {p s d x y : Int32} (hp : M_isPlate 159 p h = some (1, h)) (hs : M_isStar 159 s h = some (1, h)) (hd : 0 ≤ d.toInt ∧ d.toInt ≤ 7) (hx : -299 ≤ x.toInt ∧ x.toInt ≤ 299) (hy : -299 ≤ y.toInt ∧ y.toInt ≤ 299) :
    M_image 159 p s d x y h = some (nI n, pI (pI (pI (pI (pI (pI (pI h 166 n p) 167 n s) 168 n d) 169 n x) 170 n y) 171 n (gI h 159 1)) 159 4 (nI (n + 1))) := by
  obtain ⟨wS, wR, wG, wN⟩ := w
  have e1 : nI (n + 1) - 1 = nI n := nI_pred n
  have h100 : ¬ n = 100 := by omega
  rw [M_image_eq]
  try simp only [wS, wR, ↓reduceIte]
  simp (disch := omega) only [gI_pI, gI_pL, gI_pR, gL_pI, gL_pL, gL_pR, gR_pI, gR_pL, gR_pR, gS_pI, gS_pL, gS_pR, ↓reduceIte, Nat.reduceEqDiff, decide_eq_true_eq, Option.bind_some, false_and, and_false, true_and, and_true, and_self, Nat.reduceAdd, not_false_eq_true, not_true_eq_false, wS, wR, inI, ite_self, Classical.not_not, hn, show (100 : Int32) = nI 100 from rfl, nJ_eq, h100, ↓bnd hp, ↓bnd hs, ↓bnd (zm_isHand _ _), ↓bnd (zm_in _ _ _ _), bI_0, hd, hx, hy, Int32.toInt_toInt64, Int32.reduceToInt, Int64.reduceToInt, tN9, tN299, tN99999, tN9999, tN99, tL9, tL299, tL99999, tL9999, tL99, i1_0, i0_1, ax_in, nJ_nn, nJ_n, nJ_p1, e1, hn2]
end
/-- a row more of images, and the one before that counts no more -/
theorem GI_push {V W : BV} {n : Nat} (g : GI V) (gc : GC V) (hn : V 74 0 = nI n) (hn2 : n < 100) {p s d x y : Int32} (hp : inI p 0 ((V 70 0).toInt - 1)) (hs : inI s 0 ((V 66 0).toInt - 1)) (hd : inI d 0 7) (hx : inI x (-299) 299) (hy : inI y (-299) 299)
    (w70 : W 70 0 = V 70 0) (w66 : W 66 0 = V 66 0) (w65 : W 65 0 = V 65 0) (w74 : W 74 0 = nI (n + 1))
    (w75 : ∀ i, W 75 i = if i = n then p else V 75 i) (w76 : ∀ i, W 76 i = if i = n then s else V 76 i) (w77 : ∀ i, W 77 i = if i = n then d else V 77 i) (w78 : ∀ i, W 78 i = if i = n then x else V 78 i) (w79 : ∀ i, W 79 i = if i = n then y else V 79 i) (w80 : ∀ i, W 80 i = if i = n then V 65 0 else V 80 i)
    (w81 : ∀ i, i ≤ n → W 81 i = if i = n then 10000 else if nI i = firstI (fun i => keyB V p s d i && kvB V (V 65 0) i) n 0 then V 65 0 else V 81 i) : GI W := by
  have hcn := cnts gc
  have hnow := gc.1
  have hM : nM V = n := by show (V 74 0).toInt.toNat = n; rw [hn, nJ_i (by omega)]; omega
  have hM' : nM W = n + 1 := by show (W 74 0).toInt.toNat = n + 1; rw [w74, nJ_i (by omega)]; omega
  have hold : ∀ i, i < n → W 75 i = V 75 i ∧ W 76 i = V 76 i ∧ W 77 i = V 77 i ∧ W 78 i = V 78 i ∧ W 79 i = V 79 i ∧ W 80 i = V 80 i := fun i hi => by
    have : ¬ i = n := by omega
    simp only [w75, w76, w77, w78, w79, w80, this, ↓reduceIte, and_self]
  have hnew : W 75 n = p ∧ W 76 n = s ∧ W 77 n = d ∧ W 78 n = x ∧ W 79 n = y ∧ W 80 n = V 65 0 ∧ W 81 n = 10000 := by
    refine ⟨by rw [w75, if_pos rfl], by rw [w76, if_pos rfl], by rw [w77, if_pos rfl], by rw [w78, if_pos rfl], by rw [w79, if_pos rfl], by rw [w80, if_pos rfl], by rw [w81 n (Nat.le_refl _), if_pos rfl]⟩
  have g0 := g
  obtain ⟨g1, g2, g3⟩ := g
  rw [hM] at g1 g2 g3
  refine ⟨fun i hi => ?_, fun i j h1 h2 => ?_, fun i hi => ?_⟩
  · rw [hM'] at hi
    rw [w70, w66, w65]
    by_cases hin : i = n
    · subst hin
      obtain ⟨a1, a2, a3, a4, a5, a6, -⟩ := hnew
      rw [a1, a2, a3, a4, a5, a6]
      exact ⟨hp, hs, hd, hx, hy, hnow.1, Int.le_refl _⟩
    · obtain ⟨a1, a2, a3, a4, a5, a6⟩ := hold i (by omega)
      rw [a1, a2, a3, a4, a5, a6]
      exact g1 i (by omega)
  · rw [hM'] at h2
    rw [(hold i (by omega)).2.2.2.2.2]
    by_cases hjn : j = n
    · subst hjn
      rw [hnew.2.2.2.2.2.1]
      have := g1 i (by omega)
      omega
    · rw [(hold j (by omega)).2.2.2.2.2]
      exact g2 i j h1 (by omega)
  · rw [hM'] at hi ⊢
    by_cases hin : i = n
    · subst hin
      exact Or.inl ⟨hnew.2.2.2.2.2.2, fun k h1 h2 => by omega⟩
    have hi' : i < n := by omega
    obtain ⟨a1, a2, a3, a4, a5, a6⟩ := hold i hi'
    have hsK : ∀ k, k < n → (sameK W i k ↔ sameK V i k) := fun k hk => by
      obtain ⟨b1, b2, b3, -⟩ := hold k hk
      simp only [sameK, a1, a2, a3, b1, b2, b3]
    have hsN : sameK W i n ↔ keyB V p s d i = true := by
      simp only [sameK, a1, a2, a3, hnew.1, hnew.2.1, hnew.2.2.1, keyB, decide_eq_true_eq]
    by_cases hf : nI i = firstI (fun i => keyB V p s d i && kvB V (V 65 0) i) n 0
    · rcases firstI_ne (P := fun i => keyB V p s d i && kvB V (V 65 0) i) n 0 (by omega) with q | ⟨m, q, m1, m2, m3⟩
      · rw [q] at hf; exact absurd hf (nI_neg1 (by omega))
      · rw [q, nJ_eq (by omega) (by omega)] at hf
        subst hf
        rw [Bool.and_eq_true] at m3
        have hk := (kv_iff g0 (kn := V 65 0) (by omega) (i := i) (by omega)).mp m3.2
        rw [hM] at hk
        refine Or.inr ⟨n, by omega, by omega, hsN.mpr m3.1, ?_, fun k h1 h2 hs => ?_⟩
        · rw [w81 i (by omega), if_neg hin, q, if_pos rfl, hnew.2.2.2.2.2.1]
        · have := hk.2 k h1 (by omega) ((hsK k (by omega)).mp hs)
          have := g1 k (by omega)
          omega
    · rw [w81 i (by omega), if_neg hin, if_neg hf]
      rcases g3 i hi' with ⟨c1, c2⟩ | ⟨j, c1, c2, c3, c4, c5⟩
      · refine Or.inl ⟨c1, fun k h1 h2 hs => ?_⟩
        by_cases hkn : k = n
        · subst hkn
          have hkey := hsN.mp hs
          have hkv : kvB V (V 65 0) i = true := by
            have := g1 i hi'
            unfold kvB
            rw [decide_eq_true_eq, c1]
            exact ⟨by omega, by show _ < (10000 : Int); omega⟩
          -- it is the one that is found
          have hfi : firstI (fun i => keyB V p s d i && kvB V (V 65 0) i) k 0 = nI i := by
            refine firstI_some (m := i) (by rw [hkey, hkv]; rfl) k 0 (by omega) (by omega) fun j _ hj => ?_
            cases hb : (keyB V p s d j && kvB V (V 65 0) j) with
            | false => rfl
            | true =>
              rw [Bool.and_eq_true] at hb
              have hkj := (kv_iff g0 (kn := V 65 0) (by omega) (i := j) (by omega)).mp hb.2
              have hsj : sameK V j i := by
                have q1 := hb.1
                simp only [keyB, decide_eq_true_eq] at q1 hkey
                exact ⟨q1.1.trans hkey.1.symm, q1.2.1.trans hkey.2.1.symm, q1.2.2.trans hkey.2.2.symm⟩
              have := hkj.2 i hj (by omega) hsj
              have := g1 i hi'
              omega
          exact hf hfi.symm
        · exact c2 k h1 (by omega) ((hsK k (by omega)).mp hs)
      · refine Or.inr ⟨j, c1, by omega, (hsK j c2).mpr c3, ?_, fun k h1 h2 hs => c5 k h1 h2 ((hsK k (by omega)).mp hs)⟩
        rw [c4, (hold j c2).2.2.2.2.2]

set_option maxHeartbeats 8000000 in
theorem st_image {h : ax_H} (i : I0 h) (p s d x y : Int32) : stp (B_image 64 p s d x y h) (M_image 159 p s d x y) (stl h) := by
  obtain ⟨w, e, g⟩ := i
  have w0 := w
  obtain ⟨wS, wR, wG, wN⟩ := w
  have e0 := e
  unfold EQ at e
  have hcn := cnts g.1
  obtain ⟨n, hn, hn2, hn3, hn4⟩ := nI_ex g.1.2.2.2.1
  have hnM : nM (V h) = n := by show (V h 74 0).toInt.toNat = n; omega
  by_cases h1 : inI p 0 ((V h 70 0).toInt - 1)
  case neg =>
    refine ⟨-1, h, h, ?_, ?_, ⟨w0, e0, g⟩, fr_rf _ _, fr_rf _ _, rfl⟩
    · rw [B_image_eq]
      try simp only [wS, wR, ↓reduceIte]
      simp only [gI_pI, gI_pL, gI_pR, gL_pI, gL_pL, gL_pR, gR_pI, gR_pL, gR_pR, gS_pI, gS_pL, gS_pR, ↓reduceIte, Nat.reduceEqDiff, decide_eq_true_eq, Option.bind_some, false_and, and_false, true_and, and_true, and_self, Nat.reduceAdd, not_false_eq_true, not_true_eq_false, wS, wR, inI, ite_self, Classical.not_not, ↓bnd (z_Pl_has w0 g.1 _), bI_0, h1]
    · rw [M_image_eq]
      try simp only [wS, wR, ↓reduceIte]
      simp only [gI_pI, gI_pL, gI_pR, gL_pI, gL_pL, gL_pR, gR_pI, gR_pL, gR_pR, gS_pI, gS_pL, gS_pR, ↓reduceIte, Nat.reduceEqDiff, decide_eq_true_eq, Option.bind_some, false_and, and_false, true_and, and_true, and_self, Nat.reduceAdd, not_false_eq_true, not_true_eq_false, wS, wR, inI, ite_self, Classical.not_not, ↓bnd (zm_isPlate w0 g.1 e0 _), bI_0, h1]
  by_cases h2 : inI s 0 ((V h 66 0).toInt - 1)
  case neg =>
    refine ⟨-1, h, h, ?_, ?_, ⟨w0, e0, g⟩, fr_rf _ _, fr_rf _ _, rfl⟩
    · rw [B_image_eq]
      try simp only [wS, wR, ↓reduceIte]
      simp only [gI_pI, gI_pL, gI_pR, gL_pI, gL_pL, gL_pR, gR_pI, gR_pL, gR_pR, gS_pI, gS_pL, gS_pR, ↓reduceIte, Nat.reduceEqDiff, decide_eq_true_eq, Option.bind_some, false_and, and_false, true_and, and_true, and_self, Nat.reduceAdd, not_false_eq_true, not_true_eq_false, wS, wR, inI, ite_self, Classical.not_not, ↓bnd (z_Pl_has w0 g.1 _), ↓bnd (z_St_has w0 g.1 _), bI_0, h1, h2]
    · rw [M_image_eq]
      try simp only [wS, wR, ↓reduceIte]
      simp only [gI_pI, gI_pL, gI_pR, gL_pI, gL_pL, gL_pR, gR_pI, gR_pL, gR_pR, gS_pI, gS_pL, gS_pR, ↓reduceIte, Nat.reduceEqDiff, decide_eq_true_eq, Option.bind_some, false_and, and_false, true_and, and_true, and_self, Nat.reduceAdd, not_false_eq_true, not_true_eq_false, wS, wR, inI, ite_self, Classical.not_not, ↓bnd (zm_isPlate w0 g.1 e0 _), ↓bnd (zm_isStar w0 g.1 e0 _), bI_0, h1, h2]
  by_cases h3 : 0 ≤ d.toInt ∧ d.toInt ≤ 7
  case neg =>
    refine ⟨-1, h, h, ?_, ?_, ⟨w0, e0, g⟩, fr_rf _ _, fr_rf _ _, rfl⟩
    · rw [B_image_eq]
      try simp only [wS, wR, ↓reduceIte]
      simp only [gI_pI, gI_pL, gI_pR, gL_pI, gL_pL, gL_pR, gR_pI, gR_pL, gR_pR, gS_pI, gS_pL, gS_pR, ↓reduceIte, Nat.reduceEqDiff, decide_eq_true_eq, Option.bind_some, false_and, and_false, true_and, and_true, and_self, Nat.reduceAdd, not_false_eq_true, not_true_eq_false, wS, wR, inI, ite_self, Classical.not_not, ↓bnd (z_Pl_has w0 g.1 _), ↓bnd (z_St_has w0 g.1 _), ↓bnd (z_isHand _ _), bI_0, h1, h2, h3]
    · rw [M_image_eq]
      try simp only [wS, wR, ↓reduceIte]
      simp only [gI_pI, gI_pL, gI_pR, gL_pI, gL_pL, gL_pR, gR_pI, gR_pL, gR_pR, gS_pI, gS_pL, gS_pR, ↓reduceIte, Nat.reduceEqDiff, decide_eq_true_eq, Option.bind_some, false_and, and_false, true_and, and_true, and_self, Nat.reduceAdd, not_false_eq_true, not_true_eq_false, wS, wR, inI, ite_self, Classical.not_not, ↓bnd (zm_isPlate w0 g.1 e0 _), ↓bnd (zm_isStar w0 g.1 e0 _), ↓bnd (zm_isHand _ _), bI_0, h1, h2, h3]
  by_cases h4 : -299 ≤ x.toInt ∧ x.toInt ≤ 299
  case neg =>
    refine ⟨-1, h, h, ?_, ?_, ⟨w0, e0, g⟩, fr_rf _ _, fr_rf _ _, rfl⟩
    · rw [B_image_eq]
      try simp only [wS, wR, ↓reduceIte]
      simp only [gI_pI, gI_pL, gI_pR, gL_pI, gL_pL, gL_pR, gR_pI, gR_pL, gR_pR, gS_pI, gS_pL, gS_pR, ↓reduceIte, Nat.reduceEqDiff, decide_eq_true_eq, Option.bind_some, false_and, and_false, true_and, and_true, and_self, Nat.reduceAdd, not_false_eq_true, not_true_eq_false, wS, wR, inI, ite_self, Classical.not_not, ↓bnd (z_Pl_has w0 g.1 _), ↓bnd (z_St_has w0 g.1 _), ↓bnd (z_isHand _ _), ↓bnd (z_isWithin _ _ _ _), bI_0, h1, h2, h3, h4, Int32.reduceToInt, Int64.reduceToInt, tN9, tN299, tN99999, tN9999, tN99, tL9, tL299, tL99999, tL9999, tL99, i1_0, i0_1]
    · rw [M_image_eq]
      try simp only [wS, wR, ↓reduceIte]
      simp only [gI_pI, gI_pL, gI_pR, gL_pI, gL_pL, gL_pR, gR_pI, gR_pL, gR_pR, gS_pI, gS_pL, gS_pR, ↓reduceIte, Nat.reduceEqDiff, decide_eq_true_eq, Option.bind_some, false_and, and_false, true_and, and_true, and_self, Nat.reduceAdd, not_false_eq_true, not_true_eq_false, wS, wR, inI, ite_self, Classical.not_not, ↓bnd (zm_isPlate w0 g.1 e0 _), ↓bnd (zm_isStar w0 g.1 e0 _), ↓bnd (zm_isHand _ _), ↓bnd (zm_in _ _ _ _), bI_0, h1, h2, h3, h4, Int32.toInt_toInt64, Int32.reduceToInt, Int64.reduceToInt, tN9, tN299, tN99999, tN9999, tN99, tL9, tL299, tL99999, tL9999, tL99, i1_0, i0_1]
  by_cases h5 : -299 ≤ y.toInt ∧ y.toInt ≤ 299
  case neg =>
    refine ⟨-1, h, h, ?_, ?_, ⟨w0, e0, g⟩, fr_rf _ _, fr_rf _ _, rfl⟩
    · rw [B_image_eq]
      try simp only [wS, wR, ↓reduceIte]
      simp only [gI_pI, gI_pL, gI_pR, gL_pI, gL_pL, gL_pR, gR_pI, gR_pL, gR_pR, gS_pI, gS_pL, gS_pR, ↓reduceIte, Nat.reduceEqDiff, decide_eq_true_eq, Option.bind_some, false_and, and_false, true_and, and_true, and_self, Nat.reduceAdd, not_false_eq_true, not_true_eq_false, wS, wR, inI, ite_self, Classical.not_not, ↓bnd (z_Pl_has w0 g.1 _), ↓bnd (z_St_has w0 g.1 _), ↓bnd (z_isHand _ _), ↓bnd (z_isWithin _ _ _ _), bI_0, h1, h2, h3, h4, h5, Int32.reduceToInt, Int64.reduceToInt, tN9, tN299, tN99999, tN9999, tN99, tL9, tL299, tL99999, tL9999, tL99, i1_0, i0_1]
    · rw [M_image_eq]
      try simp only [wS, wR, ↓reduceIte]
      simp only [gI_pI, gI_pL, gI_pR, gL_pI, gL_pL, gL_pR, gR_pI, gR_pL, gR_pR, gS_pI, gS_pL, gS_pR, ↓reduceIte, Nat.reduceEqDiff, decide_eq_true_eq, Option.bind_some, false_and, and_false, true_and, and_true, and_self, Nat.reduceAdd, not_false_eq_true, not_true_eq_false, wS, wR, inI, ite_self, Classical.not_not, ↓bnd (zm_isPlate w0 g.1 e0 _), ↓bnd (zm_isStar w0 g.1 e0 _), ↓bnd (zm_isHand _ _), ↓bnd (zm_in _ _ _ _), bI_0, h1, h2, h3, h4, h5, Int32.toInt_toInt64, Int32.reduceToInt, Int64.reduceToInt, tN9, tN299, tN99999, tN9999, tN99, tL9, tL299, tL99999, tL9999, tL99, i1_0, i0_1]
  have hB : B_image 64 p s d x y h = (Im_put 74 p s d x y (V h 65 0) h).bind (fun r => some (r.1, r.2)) := by
    rw [B_image_eq]
    try simp only [wS, wR, ↓reduceIte]
    simp only [gI_pI, gI_pL, gI_pR, gL_pI, gL_pL, gL_pR, gR_pI, gR_pL, gR_pR, gS_pI, gS_pL, gS_pR, ↓reduceIte, Nat.reduceEqDiff, decide_eq_true_eq, Option.bind_some, false_and, and_false, true_and, and_true, and_self, Nat.reduceAdd, not_false_eq_true, not_true_eq_false, wS, wR, inI, ite_self, Classical.not_not, cV65, cV66, cV67, cV68, cV69, cV70, cV71, cV72, cV73, cV74, cV75, cV76, cV77, cV78, cV79, cV80, cV81, cV82, cV83, cV84, cV85, cV86, cV87, cV88, cV89, cV90, ↓bnd (z_Pl_has w0 g.1 _), ↓bnd (z_St_has w0 g.1 _), ↓bnd (z_isHand _ _), ↓bnd (z_isWithin _ _ _ _), bI_0, h1, h2, h3, h4, h5, Int32.reduceToInt, Int64.reduceToInt, tN9, tN299, tN99999, tN9999, tN99, tL9, tL299, tL99999, tL9999, tL99, i1_0, i0_1]
  by_cases h6 : n = 100
  case pos =>
    refine ⟨-1, h, h, ?_, ?_, ⟨w0, e0, g⟩, fr_rf _ _, fr_rf _ _, rfl⟩
    · rw [hB, Im_put_eq]
      try simp only [wS, wR, ↓reduceIte]
      simp (disch := omega) only [gI_pI, gI_pL, gI_pR, gL_pI, gL_pL, gL_pR, gR_pI, gR_pL, gR_pR, gS_pI, gS_pL, gS_pR, ↓reduceIte, Nat.reduceEqDiff, decide_eq_true_eq, Option.bind_some, false_and, and_false, true_and, and_true, and_self, Nat.reduceAdd, not_false_eq_true, not_true_eq_false, wS, wR, inI, ite_self, Classical.not_not, cV65, cV66, cV67, cV68, cV69, cV70, cV71, cV72, cV73, cV74, cV75, cV76, cV77, cV78, cV79, cV80, cV81, cV82, cV83, cV84, cV85, cV86, cV87, cV88, cV89, cV90, hn, h6, show (100 : Int32) = nI 100 from rfl, nJ_lt, Nat.lt_irrefl]
    · rw [M_image_eq]
      try simp only [wS, wR, ↓reduceIte]
      simp (disch := omega) only [gI_pI, gI_pL, gI_pR, gL_pI, gL_pL, gL_pR, gR_pI, gR_pL, gR_pR, gS_pI, gS_pL, gS_pR, ↓reduceIte, Nat.reduceEqDiff, decide_eq_true_eq, Option.bind_some, false_and, and_false, true_and, and_true, and_self, Nat.reduceAdd, not_false_eq_true, not_true_eq_false, wS, wR, inI, ite_self, Classical.not_not, e, hn, h6, show (100 : Int32) = nI 100 from rfl]
  have hn9 : n < 100 := by omega
  have hP : ∀ h0 : ax_H, Im_put 74 p s d x y (V h 65 0) h = Im_put_37 74 p s d x y (V h 65 0) h0 → ok h0 → EQ h0 → (gI h0 74 0 = nI n) → fr Sl h h0 → (∀ a k, a ≠ 81 → V h0 a k = V h a k) → (∀ k, k < n → V h0 81 k = if nI k = firstI (fun i => keyB (V h) p s d i && kvB (V h) (V h 65 0) i) n 0 then V h 65 0 else V h 81 k) → stp (B_image 64 p s d x y h) (M_image 159 p s d x y) (stl h) := by
    intro h0 q1 wq eq hq fq v1 v2
    have E1 := z_put37 wq hq hn9 p s d x y (V h 65 0)
    have wh1 : ok (pI (pI (pI (pI (pI (pI (pI (pI h0 75 n p) 76 n s) 77 n d) 78 n x) 79 n y) 80 n (V h 65 0)) 81 n 10000) 74 0 (nI (n + 1))) := ok_pI (ok_pI (ok_pI (ok_pI (ok_pI (ok_pI (ok_pI (ok_pI wq _ _ _) _ _ _) _ _ _) _ _ _) _ _ _) _ _ _) _ _ _) _ _ _
    have eqx := eq
    unfold EQ at eqx
    have b0 : ∀ k, V h0 65 k = V h 65 k := fun k => v1 65 k (by decide)
    have b66 : ∀ k, V h0 66 k = V h 66 k := fun k => v1 66 k (by decide)
    have b70 : ∀ k, V h0 70 k = V h 70 k := fun k => v1 70 k (by decide)
    have b74 : ∀ k, V h0 74 k = V h 74 k := fun k => v1 74 k (by decide)
    have E2 := zm_put (h := pI (pI (pI (pI (pI (pI (pI (pI h0 75 n p) 76 n s) 77 n d) 78 n x) 79 n y) 80 n (V h 65 0)) 81 n 10000) 74 0 (nI (n + 1))) wh1 (n := n) (p := p) (s := s) (d := d) (x := x) (y := y) (by
        simp only [gI_pI, gI_pL, gI_pR, gL_pI, gL_pL, gL_pR, gR_pI, gR_pL, gR_pR, gS_pI, gS_pL, gS_pR, ↓reduceIte, Nat.reduceEqDiff, decide_eq_true_eq, Option.bind_some, false_and, and_false, true_and, and_true, and_self, Nat.reduceAdd, not_false_eq_true, not_true_eq_false, wS, wR, inI, ite_self, Classical.not_not, eqx, b74, hn]) hn9 (by
        rw [M_isPlate_eq]
        obtain ⟨vS, vR, -, -⟩ := wq
        simp only [gS_pI, gR_pI, vS, vR, ↓reduceIte]
        simp only [gI_pI, gI_pL, gI_pR, gL_pI, gL_pL, gL_pR, gR_pI, gR_pL, gR_pR, gS_pI, gS_pL, gS_pR, ↓reduceIte, Nat.reduceEqDiff, decide_eq_true_eq, Option.bind_some, false_and, and_false, true_and, and_true, and_self, Nat.reduceAdd, not_false_eq_true, not_true_eq_false, wS, wR, inI, ite_self, Classical.not_not, eqx, b70, ↓bnd (zm_in _ _ _ _), bI_1, if_true, Int32.toInt_toInt64, sub1 g.1.2.2.1, Int32.reduceToInt, Int64.reduceToInt, tN9, tN299, tN99999, tN9999, tN99, tL9, tL299, tL99999, tL9999, tL99, i1_0, i0_1]
        rw [show bI (0 ≤ p.toInt ∧ p.toInt ≤ (V h 70 0).toInt - 1) = 1 from if_pos h1]) (by
        rw [M_isStar_eq]
        obtain ⟨vS, vR, -, -⟩ := wq
        simp only [gS_pI, gR_pI, vS, vR, ↓reduceIte]
        simp only [gI_pI, gI_pL, gI_pR, gL_pI, gL_pL, gL_pR, gR_pI, gR_pL, gR_pR, gS_pI, gS_pL, gS_pR, ↓reduceIte, Nat.reduceEqDiff, decide_eq_true_eq, Option.bind_some, false_and, and_false, true_and, and_true, and_self, Nat.reduceAdd, not_false_eq_true, not_true_eq_false, wS, wR, inI, ite_self, Classical.not_not, eqx, b66, ↓bnd (zm_in _ _ _ _), bI_1, if_true, Int32.toInt_toInt64, sub1 g.1.2.1, Int32.reduceToInt, Int64.reduceToInt, tN9, tN299, tN99999, tN9999, tN99, tL9, tL299, tL99999, tL9999, tL99, i1_0, i0_1]
        rw [show bI (0 ≤ s.toInt ∧ s.toInt ≤ (V h 66 0).toInt - 1) = 1 from if_pos h2]) h3 h4 h5
    have hnow : gI (pI (pI (pI (pI (pI (pI (pI (pI h0 75 n p) 76 n s) 77 n d) 78 n x) 79 n y) 80 n (V h 65 0)) 81 n 10000) 74 0 (nI (n + 1))) 159 1 = V h 65 0 := by
      simp only [gI_pI, gI_pL, gI_pR, gL_pI, gL_pL, gL_pR, gR_pI, gR_pL, gR_pR, gS_pI, gS_pL, gS_pR, ↓reduceIte, Nat.reduceEqDiff, decide_eq_true_eq, Option.bind_some, false_and, and_false, true_and, and_true, and_self, Nat.reduceAdd, not_false_eq_true, not_true_eq_false, wS, wR, inI, ite_self, Classical.not_not, eqx, b0]
    rw [hnow] at E2
    refine ⟨nI n, _, _, by rw [hB, q1, E1]; rfl, E2, ⟨(ok_pI (ok_pI (ok_pI (ok_pI (ok_pI (ok_pI (ok_pI (ok_pI (ok_pI (ok_pI (ok_pI (ok_pI (ok_pI (ok_pI (ok_pI wq _ _ _) _ _ _) _ _ _) _ _ _) _ _ _) _ _ _) _ _ _) _ _ _) _ _ _) _ _ _) _ _ _) _ _ _) _ _ _) _ _ _) _ _ _), ?_, ?_⟩, fr_c (fr_c (fr_c (fr_c (fr_c (fr_c (fr_c (fr_c fq rfl) rfl) rfl) rfl) rfl) rfl) rfl) rfl, fr_c (fr_c (fr_c (fr_c (fr_c (fr_c (fr_c (fr_c (fr_c (fr_c (fr_c (fr_c (fr_c (fr_c (fr_c fq rfl) rfl) rfl) rfl) rfl) rfl) rfl) rfl) rfl) rfl) rfl) rfl) rfl) rfl) rfl, ?_⟩
    · unfold EQ
      simp (disch := omega) only [gI_pI, gI_pL, gI_pR, gL_pI, gL_pL, gL_pR, gR_pI, gR_pL, gR_pR, gS_pI, gS_pL, gS_pR, ↓reduceIte, Nat.reduceEqDiff, decide_eq_true_eq, Option.bind_some, false_and, and_false, true_and, and_true, and_self, Nat.reduceAdd, not_false_eq_true, not_true_eq_false, wS, wR, inI, ite_self, Classical.not_not, inI, V_pI, u2, Nat.reduceLeDiff, nS, nP, nM, nD, nF, nW', eqx, implies_true]
      exact e27e eq
    · obtain ⟨g1, g2, g3, g4, g5, g6, g7⟩ := g
      have hGI := GI_push (W := V (pI (pI (pI (pI (pI (pI (pI (pI (pI (pI (pI (pI (pI (pI (pI h0 75 n p) 76 n s) 77 n d) 78 n x) 79 n y) 80 n (V h 65 0)) 81 n 10000) 74 0 (nI (n + 1))) 166 n p) 167 n s) 168 n d) 169 n x) 170 n y) 171 n (V h 65 0)) 159 4 (nI (n + 1)))) g4 g1 hn hn9 h1 h2 h3 h4 h5
        (by simp only [gI_pI, gI_pL, gI_pR, gL_pI, gL_pL, gL_pR, gR_pI, gR_pL, gR_pR, gS_pI, gS_pL, gS_pR, ↓reduceIte, Nat.reduceEqDiff, decide_eq_true_eq, Option.bind_some, false_and, and_false, true_and, and_true, and_self, Nat.reduceAdd, not_false_eq_true, not_true_eq_false, wS, wR, inI, ite_self, Classical.not_not, inI, V_pI, u2, Nat.reduceLeDiff, nS, nP, nM, nD, nF, nW', b70]) (by simp only [gI_pI, gI_pL, gI_pR, gL_pI, gL_pL, gL_pR, gR_pI, gR_pL, gR_pR, gS_pI, gS_pL, gS_pR, ↓reduceIte, Nat.reduceEqDiff, decide_eq_true_eq, Option.bind_some, false_and, and_false, true_and, and_true, and_self, Nat.reduceAdd, not_false_eq_true, not_true_eq_false, wS, wR, inI, ite_self, Classical.not_not, inI, V_pI, u2, Nat.reduceLeDiff, nS, nP, nM, nD, nF, nW', b66]) (by simp only [gI_pI, gI_pL, gI_pR, gL_pI, gL_pL, gL_pR, gR_pI, gR_pL, gR_pR, gS_pI, gS_pL, gS_pR, ↓reduceIte, Nat.reduceEqDiff, decide_eq_true_eq, Option.bind_some, false_and, and_false, true_and, and_true, and_self, Nat.reduceAdd, not_false_eq_true, not_true_eq_false, wS, wR, inI, ite_self, Classical.not_not, inI, V_pI, u2, Nat.reduceLeDiff, nS, nP, nM, nD, nF, nW', b0]) (by simp only [gI_pI, gI_pL, gI_pR, gL_pI, gL_pL, gL_pR, gR_pI, gR_pL, gR_pR, gS_pI, gS_pL, gS_pR, ↓reduceIte, Nat.reduceEqDiff, decide_eq_true_eq, Option.bind_some, false_and, and_false, true_and, and_true, and_self, Nat.reduceAdd, not_false_eq_true, not_true_eq_false, wS, wR, inI, ite_self, Classical.not_not, inI, V_pI, u2, Nat.reduceLeDiff, nS, nP, nM, nD, nF, nW'])
        (fun i => by simp only [gI_pI, gI_pL, gI_pR, gL_pI, gL_pL, gL_pR, gR_pI, gR_pL, gR_pR, gS_pI, gS_pL, gS_pR, ↓reduceIte, Nat.reduceEqDiff, decide_eq_true_eq, Option.bind_some, false_and, and_false, true_and, and_true, and_self, Nat.reduceAdd, not_false_eq_true, not_true_eq_false, wS, wR, inI, ite_self, Classical.not_not, inI, V_pI, u2, Nat.reduceLeDiff, nS, nP, nM, nD, nF, nW', v1 75 i (by decide)]) (fun i => by simp only [gI_pI, gI_pL, gI_pR, gL_pI, gL_pL, gL_pR, gR_pI, gR_pL, gR_pR, gS_pI, gS_pL, gS_pR, ↓reduceIte, Nat.reduceEqDiff, decide_eq_true_eq, Option.bind_some, false_and, and_false, true_and, and_true, and_self, Nat.reduceAdd, not_false_eq_true, not_true_eq_false, wS, wR, inI, ite_self, Classical.not_not, inI, V_pI, u2, Nat.reduceLeDiff, nS, nP, nM, nD, nF, nW', v1 76 i (by decide)]) (fun i => by simp only [gI_pI, gI_pL, gI_pR, gL_pI, gL_pL, gL_pR, gR_pI, gR_pL, gR_pR, gS_pI, gS_pL, gS_pR, ↓reduceIte, Nat.reduceEqDiff, decide_eq_true_eq, Option.bind_some, false_and, and_false, true_and, and_true, and_self, Nat.reduceAdd, not_false_eq_true, not_true_eq_false, wS, wR, inI, ite_self, Classical.not_not, inI, V_pI, u2, Nat.reduceLeDiff, nS, nP, nM, nD, nF, nW', v1 77 i (by decide)]) (fun i => by simp only [gI_pI, gI_pL, gI_pR, gL_pI, gL_pL, gL_pR, gR_pI, gR_pL, gR_pR, gS_pI, gS_pL, gS_pR, ↓reduceIte, Nat.reduceEqDiff, decide_eq_true_eq, Option.bind_some, false_and, and_false, true_and, and_true, and_self, Nat.reduceAdd, not_false_eq_true, not_true_eq_false, wS, wR, inI, ite_self, Classical.not_not, inI, V_pI, u2, Nat.reduceLeDiff, nS, nP, nM, nD, nF, nW', v1 78 i (by decide)]) (fun i => by simp only [gI_pI, gI_pL, gI_pR, gL_pI, gL_pL, gL_pR, gR_pI, gR_pL, gR_pR, gS_pI, gS_pL, gS_pR, ↓reduceIte, Nat.reduceEqDiff, decide_eq_true_eq, Option.bind_some, false_and, and_false, true_and, and_true, and_self, Nat.reduceAdd, not_false_eq_true, not_true_eq_false, wS, wR, inI, ite_self, Classical.not_not, inI, V_pI, u2, Nat.reduceLeDiff, nS, nP, nM, nD, nF, nW', v1 79 i (by decide)]) (fun i => by simp only [gI_pI, gI_pL, gI_pR, gL_pI, gL_pL, gL_pR, gR_pI, gR_pL, gR_pR, gS_pI, gS_pL, gS_pR, ↓reduceIte, Nat.reduceEqDiff, decide_eq_true_eq, Option.bind_some, false_and, and_false, true_and, and_true, and_self, Nat.reduceAdd, not_false_eq_true, not_true_eq_false, wS, wR, inI, ite_self, Classical.not_not, inI, V_pI, u2, Nat.reduceLeDiff, nS, nP, nM, nD, nF, nW', v1 80 i (by decide)])
        (fun i hi => by
          simp only [gI_pI, gI_pL, gI_pR, gL_pI, gL_pL, gL_pR, gR_pI, gR_pL, gR_pR, gS_pI, gS_pL, gS_pR, ↓reduceIte, Nat.reduceEqDiff, decide_eq_true_eq, Option.bind_some, false_and, and_false, true_and, and_true, and_self, Nat.reduceAdd, not_false_eq_true, not_true_eq_false, wS, wR, inI, ite_self, Classical.not_not, inI, V_pI, u2, Nat.reduceLeDiff, nS, nP, nM, nD, nF, nW']
          by_cases hin : i = n
          · simp only [hin, ↓reduceIte]
          · simp only [hin, ↓reduceIte]
            exact v2 i (by omega))
      refine ⟨?_, ?_, ?_, hGI, ?_, ?_, ?_⟩
      · unfold GC at *
        simp (disch := omega) only [gI_pI, gI_pL, gI_pR, gL_pI, gL_pL, gL_pR, gR_pI, gR_pL, gR_pR, gS_pI, gS_pL, gS_pR, ↓reduceIte, Nat.reduceEqDiff, decide_eq_true_eq, Option.bind_some, false_and, and_false, true_and, and_true, and_self, Nat.reduceAdd, not_false_eq_true, not_true_eq_false, wS, wR, inI, ite_self, Classical.not_not, inI, V_pI, u2, Nat.reduceLeDiff, nS, nP, nM, nD, nF, nW', b0, b66, b70, nJ_i]
        exact ⟨g1.1, g1.2.1, g1.2.2.1, by omega, g1.2.2.2.2⟩
      · unfold GS at *
        simp (disch := omega) only [gI_pI, gI_pL, gI_pR, gL_pI, gL_pL, gL_pR, gR_pI, gR_pL, gR_pR, gS_pI, gS_pL, gS_pR, ↓reduceIte, Nat.reduceEqDiff, decide_eq_true_eq, Option.bind_some, false_and, and_false, true_and, and_true, and_self, Nat.reduceAdd, not_false_eq_true, not_true_eq_false, wS, wR, inI, ite_self, Classical.not_not, inI, V_pI, u2, Nat.reduceLeDiff, nS, nP, nM, nD, nF, nW', b66, v1 67 _ (by decide), v1 68 _ (by decide), v1 69 _ (by decide)]
        exact g2
      · unfold GP at *
        simp (disch := omega) only [gI_pI, gI_pL, gI_pR, gL_pI, gL_pL, gL_pR, gR_pI, gR_pL, gR_pR, gS_pI, gS_pL, gS_pR, ↓reduceIte, Nat.reduceEqDiff, decide_eq_true_eq, Option.bind_some, false_and, and_false, true_and, and_true, and_self, Nat.reduceAdd, not_false_eq_true, not_true_eq_false, wS, wR, inI, ite_self, Classical.not_not, inI, V_pI, u2, Nat.reduceLeDiff, nS, nP, nM, nD, nF, nW', b70, v1 71 _ (by decide), v1 72 _ (by decide), v1 73 _ (by decide)]
        exact g3
      · unfold GD at *
        simp (disch := omega) only [gI_pI, gI_pL, gI_pR, gL_pI, gL_pL, gL_pR, gR_pI, gR_pL, gR_pR, gS_pI, gS_pL, gS_pR, ↓reduceIte, Nat.reduceEqDiff, decide_eq_true_eq, Option.bind_some, false_and, and_false, true_and, and_true, and_self, Nat.reduceAdd, not_false_eq_true, not_true_eq_false, wS, wR, inI, ite_self, Classical.not_not, inI, V_pI, u2, Nat.reduceLeDiff, nS, nP, nM, nD, nF, nW', b0, v1 83 _ (by decide), v1 84 _ (by decide), v1 85 _ (by decide)]
        exact g5
      · unfold GF at *
        simp (disch := omega) only [gI_pI, gI_pL, gI_pR, gL_pI, gL_pL, gL_pR, gR_pI, gR_pL, gR_pR, gS_pI, gS_pL, gS_pR, ↓reduceIte, Nat.reduceEqDiff, decide_eq_true_eq, Option.bind_some, false_and, and_false, true_and, and_true, and_self, Nat.reduceAdd, not_false_eq_true, not_true_eq_false, wS, wR, inI, ite_self, Classical.not_not, inI, V_pI, u2, Nat.reduceLeDiff, nS, nP, nM, nD, nF, nW', b0, v1 86 _ (by decide), v1 87 _ (by decide)]
        exact g6
      · unfold GK at *
        simp (disch := omega) only [gI_pI, gI_pL, gI_pR, gL_pI, gL_pL, gL_pR, gR_pI, gR_pL, gR_pR, gS_pI, gS_pL, gS_pR, ↓reduceIte, Nat.reduceEqDiff, decide_eq_true_eq, Option.bind_some, false_and, and_false, true_and, and_true, and_self, Nat.reduceAdd, not_false_eq_true, not_true_eq_false, wS, wR, inI, ite_self, Classical.not_not, inI, V_pI, u2, Nat.reduceLeDiff, nS, nP, nM, nD, nF, nW', v1 88 _ (by decide), v1 89 _ (by decide), v1 90 _ (by decide)]
        exact g7
    · simp only [gI_pI, gI_pL, gI_pR, gL_pI, gL_pL, gL_pR, gR_pI, gR_pL, gR_pR, gS_pI, gS_pL, gS_pR, ↓reduceIte, Nat.reduceEqDiff, decide_eq_true_eq, Option.bind_some, false_and, and_false, true_and, and_true, and_self, Nat.reduceAdd, not_false_eq_true, not_true_eq_false, wS, wR, inI, ite_self, Classical.not_not, inI, V_pI, u2, Nat.reduceLeDiff, nS, nP, nM, nD, nF, nW', b0]
  have hfind := z_find w0 hn (by omega) p s d (V h 65 0)
  have hput : Im_put 74 p s d x y (V h 65 0) h = if firstI (fun i => keyB (V h) p s d i && kvB (V h) (V h 65 0) i) n 0 = -1 then Im_put_37 74 p s d x y (V h 65 0) h else (if ax_in h 81 16 (firstI (fun i => keyB (V h) p s d i && kvB (V h) (V h 65 0) i) n 0) then Im_put_37 74 p s d x y (V h 65 0) (pI h 81 (firstI (fun i => keyB (V h) p s d i && kvB (V h) (V h 65 0) i) n 0).toNatClampNeg (V h 65 0)) else none) := by
    rw [Im_put_eq]
    try simp only [wS, wR, ↓reduceIte]
    simp (disch := omega) only [gI_pI, gI_pL, gI_pR, gL_pI, gL_pL, gL_pR, gR_pI, gR_pL, gR_pR, gS_pI, gS_pL, gS_pR, ↓reduceIte, Nat.reduceEqDiff, decide_eq_true_eq, Option.bind_some, false_and, and_false, true_and, and_true, and_self, Nat.reduceAdd, not_false_eq_true, not_true_eq_false, wS, wR, inI, ite_self, Classical.not_not, cV65, cV66, cV67, cV68, cV69, cV70, cV71, cV72, cV73, cV74, cV75, cV76, cV77, cV78, cV79, cV80, cV81, cV82, cV83, cV84, cV85, cV86, cV87, cV88, cV89, cV90, hn, hn9, show (100 : Int32) = nI 100 from rfl, nJ_lt, ↓bnd hfind]
  rcases firstI_ne (P := fun i => keyB (V h) p s d i && kvB (V h) (V h 65 0) i) n 0 (by omega) with q | ⟨m, q, m1, m2, m3⟩
  · refine hP h (by rw [hput, if_pos q]) w0 e0 ((cV74 h 0).trans hn) (fr_rf _ _) (fun a k _ => rfl) fun k hk => ?_
    rw [q, if_neg (nI_neg1 (by omega))]
  · have hne := nI_neg1 (m := m) (by omega)
    have hm : m < 100 := by omega
    refine hP (pI h 81 m (V h 65 0)) (by
      rw [hput, q, if_neg hne]
      simp (disch := omega) only [gI_pI, gI_pL, gI_pR, gL_pI, gL_pL, gL_pR, gR_pI, gR_pL, gR_pR, gS_pI, gS_pL, gS_pR, ↓reduceIte, Nat.reduceEqDiff, decide_eq_true_eq, Option.bind_some, false_and, and_false, true_and, and_true, and_self, Nat.reduceAdd, not_false_eq_true, not_true_eq_false, wS, wR, inI, ite_self, Classical.not_not, ax_in, nJ_nn, nJ_n, hm]) w0 ?_ ((cV74 h 0).trans hn) (fr_pI rfl) (fun a k ha => ?_) fun k hk => ?_
    · unfold EQ
      simp (disch := omega) only [gI_pI, gI_pL, gI_pR, gL_pI, gL_pL, gL_pR, gR_pI, gR_pL, gR_pR, gS_pI, gS_pL, gS_pR, ↓reduceIte, Nat.reduceEqDiff, decide_eq_true_eq, Option.bind_some, false_and, and_false, true_and, and_true, and_self, Nat.reduceAdd, not_false_eq_true, not_true_eq_false, wS, wR, inI, ite_self, Classical.not_not, inI, V_pI, u2, Nat.reduceLeDiff, nS, nP, nM, nD, nF, nW', e, implies_true]
      exact e27e e0
    · simp only [gI_pI, gI_pL, gI_pR, gL_pI, gL_pL, gL_pR, gR_pI, gR_pL, gR_pR, gS_pI, gS_pL, gS_pR, ↓reduceIte, Nat.reduceEqDiff, decide_eq_true_eq, Option.bind_some, false_and, and_false, true_and, and_true, and_self, Nat.reduceAdd, not_false_eq_true, not_true_eq_false, wS, wR, inI, ite_self, Classical.not_not, inI, V_pI, u2, Nat.reduceLeDiff, nS, nP, nM, nD, nF, nW', ha]
    · rw [q]
      simp (disch := omega) only [gI_pI, gI_pL, gI_pR, gL_pI, gL_pL, gL_pR, gR_pI, gR_pL, gR_pR, gS_pI, gS_pL, gS_pR, ↓reduceIte, Nat.reduceEqDiff, decide_eq_true_eq, Option.bind_some, false_and, and_false, true_and, and_true, and_self, Nat.reduceAdd, not_false_eq_true, not_true_eq_false, wS, wR, inI, ite_self, Classical.not_not, inI, V_pI, u2, Nat.reduceLeDiff, nS, nP, nM, nD, nF, nW', nJ_eq]
