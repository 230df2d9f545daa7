/-! tests: the reference's question of all leaves -/
theorem zm_isLeft {h : ax_H} (i0 : I0 h) {m w : Nat} (hm : m < nM (V h)) (hw : w < 10) {D : WD} (f : WF D) (hM : WM h w D) : ∃ h', M_isLeft 159 (nI w) (nI m) h = some (bI (lvB (V h) D m = true), h') ∧ fr S823 h h' := by
  have i00 := i0
  obtain ⟨w0, e, g⟩ := i0
  have hcn := cnts g.1
  obtain ⟨wS, wR, wG, wN⟩ := w0
  unfold EQ at e
  have hm2 : m < 100 := by omega
  obtain ⟨p, hp, hp2, hp3, hp4⟩ := nI_ex (g.2.2.2.1.1 m hm).1
  obtain ⟨s, hs, hs2, hs3, hs4⟩ := nI_ex (g.2.2.2.1.1 m hm).2.1
  have hp5 : p < 16 := by omega
  have hs5 : s < 30 := by omega
  have hp6 : (V h 75 m).toInt.toNat = p := by omega
  have hs6 : (V h 76 m).toInt.toNat = s := by omega
  have hbd := ask_bd g hm 6
  have a6 : (V h 67 s * V h 67 s + V h 68 s * V h 68 s).toInt64 = Int64.ofInt (askF (V h) m 6) := by
    have e6 : V h 67 s * V h 67 s + V h 68 s * V h 68 s = Int32.ofInt (askF (V h) m 6) := by
      show _ = Int32.ofInt (sx (V h) (V h 76 m).toInt.toNat * sx (V h) (V h 76 m).toInt.toNat + sy (V h) (V h 76 m).toInt.toNat * sy (V h) (V h 76 m).toInt.toNat)
      rw [hs6, Int32.ofInt_add, Int32.ofInt_mul, Int32.ofInt_mul, Int32.ofInt_toInt, Int32.ofInt_toInt]
    rw [e6, i_toL (by omega)]
  obtain ⟨h1, hh1⟩ : ∃ h1, h1 = pL (pL (pL (pL (pL (pL (pL (pL (pL (pL (pL (pL (pL h 182 0 (nI p).toInt64) 182 1 (V h 71 p).toInt64) 182 2 (V h 72 p).toInt64) 182 3 (V h 73 p).toInt64) 182 4 (nI s).toInt64) 182 5 (V h 69 s).toInt64) 182 6 (V h 67 s * V h 67 s + V h 68 s * V h 68 s).toInt64) 182 7 (V h 67 s).toInt64) 182 8 (V h 68 s).toInt64) 182 9 (V h 78 m).toInt64) 182 10 (V h 79 m).toInt64) 182 11 (V h 80 m).toInt64) 182 12 (V h 77 m).toInt64 := ⟨_, rfl⟩
  have F1 : fr S823 h h1 := by
    have c : ∀ {x y : ax_H} {k : Nat} {v : Int64}, fr S823 x y → fr S823 x (pL y 182 k v) := fun q => fr_tr q (fr_pL rfl)
    rw [hh1]
    exact c (c (c (c (c (c (c (c (c (c (c (c (fr_pL rfl))))))))))))
  have hV := V_frm (S823_m F1)
  have hAL : AL h1 m := by
    intro v hv
    rw [hV, hh1]
    simp only [gL_pL]
    match v, hv with
    | 0, _ => show (nI p).toInt64 = Int64.ofInt (V h 75 m).toInt; rw [i_L, hp]
    | 1, _ => show (V h 71 p).toInt64 = Int64.ofInt (V h 71 (V h 75 m).toInt.toNat).toInt; rw [i_L, hp6]
    | 2, _ => show (V h 72 p).toInt64 = Int64.ofInt (V h 72 (V h 75 m).toInt.toNat).toInt; rw [i_L, hp6]
    | 3, _ => show (V h 73 p).toInt64 = Int64.ofInt (V h 73 (V h 75 m).toInt.toNat).toInt; rw [i_L, hp6]
    | 4, _ => show (nI s).toInt64 = Int64.ofInt (V h 76 m).toInt; rw [i_L, hs]
    | 5, _ => show (V h 69 s).toInt64 = Int64.ofInt (V h 69 (V h 76 m).toInt.toNat).toInt; rw [i_L, hs6]
    | 6, _ => exact a6
    | 7, _ => show (V h 67 s).toInt64 = Int64.ofInt (V h 67 (V h 76 m).toInt.toNat).toInt; rw [i_L, hs6]
    | 8, _ => show (V h 68 s).toInt64 = Int64.ofInt (V h 68 (V h 76 m).toInt.toNat).toInt; rw [i_L, hs6]
    | 9, _ => exact i_L _
    | 10, _ => exact i_L _
    | 11, _ => exact i_L _
    | 12, _ => exact i_L _
  obtain ⟨h', r1, r2⟩ := zm_il_190 (m := m) f hw D.2.2.2 0 h1 (by omega) (fun k T hk => by rw [Nat.zero_add]; exact hk) (I0_frm (S823_m F1) i00) (by rw [hV]; exact hm) hAL (WM_eq (fun a k z1 z2 => fr_I F1 (by simp only [S823, decide_eq_false_iff_not]; omega)) hM)
  rw [hV] at r1
  refine ⟨h', ?_, fr_tr F1 (S183_8 r2)⟩
  refine Eq.trans ?_ r1
  have tm : (nI m).toNatClampNeg = m := nJ_n (by omega)
  have tp : (nI p).toNatClampNeg = p := nJ_n (by omega)
  have ts : (nI s).toNatClampNeg = s := nJ_n (by omega)
  have nm : ¬ nI m < 0 := nJ_nn (by omega)
  have np : ¬ nI p < 0 := nJ_nn (by omega)
  have ns : ¬ nI s < 0 := nJ_nn (by omega)
  rw [M_isLeft_eq]
  simp only [gS_pL, gR_pL, wS, wR, ↓reduceIte, ax_in, true_and, e, gI_pL, tm, tp, ts, nm, np, ns, hm2, hp, hp5, hs, hs5, not_false_eq_true, and_self, M_far_eq, Option.bind_some, show Int32.toNatClampNeg 0 = 0 from rfl, show Int32.toNatClampNeg 1 = 1 from rfl, show Int32.toNatClampNeg 2 = 2 from rfl, show Int32.toNatClampNeg 3 = 3 from rfl, show Int32.toNatClampNeg 4 = 4 from rfl, show Int32.toNatClampNeg 5 = 5 from rfl, show Int32.toNatClampNeg 6 = 6 from rfl, show Int32.toNatClampNeg 7 = 7 from rfl, show Int32.toNatClampNeg 8 = 8 from rfl, show Int32.toNatClampNeg 9 = 9 from rfl, show Int32.toNatClampNeg 10 = 10 from rfl, show Int32.toNatClampNeg 11 = 11 from rfl, show Int32.toNatClampNeg 12 = 12 from rfl, show ¬ (0 : Int32) < 0 by decide, show ¬ (1 : Int32) < 0 by decide, show ¬ (2 : Int32) < 0 by decide, show ¬ (3 : Int32) < 0 by decide, show ¬ (4 : Int32) < 0 by decide, show ¬ (5 : Int32) < 0 by decide, show ¬ (6 : Int32) < 0 by decide, show ¬ (7 : Int32) < 0 by decide, show ¬ (8 : Int32) < 0 by decide, show ¬ (9 : Int32) < 0 by decide, show ¬ (10 : Int32) < 0 by decide, show ¬ (11 : Int32) < 0 by decide, show ¬ (12 : Int32) < 0 by decide, Nat.reduceLT]
  rw [hh1]
  rfl
