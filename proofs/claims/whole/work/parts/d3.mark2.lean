/-! mark: the step -/
theorem nxt_rf {h : ax_H} (v : Inv h) : nxt h h := ⟨v, by omega, by omega, rfl, fun _ => rfl⟩
/-- the script is as it was, the reference stands -/
def scrP (h h1 : ax_H) : Prop := gS h1 40 = gS h 40 ∧ (∀ k, gI h1 40 k = gI h 40 k) ∧ (gS h1 159).1 = 11
theorem scrP_rf {h : ax_H} (w : ok h) : scrP h h := ⟨rfl, fun _ => rfl, by obtain ⟨wS, wR, wG, wN⟩ := w; simp only [wS]⟩
theorem st_mark {h : ax_H} (v : Inv h) (a : Int32) : stp (B_mark 64 a h) (M_mark 159 a) (fun h1 h2 => nxt h h2 ∧ scrP h h1) := by
  by_cases hc : 0 ≤ a.toInt ∧ a.toInt ≤ 3
  case neg =>
    refine ⟨-1, h, h, ?_, ?_, nxt_rf v, scrP_rf v.1.1⟩
    · have e1 : B_isWithin a 0 3 h = some (0, h) := by rw [z_isWithin, bI, if_neg (show ¬ (Int32.toInt 0 ≤ a.toInt ∧ a.toInt ≤ Int32.toInt 3) from hc)]
      rw [B_mark_eq, bnd e1]
      exact if_neg (show ¬ decide (¬ (0 : Int32) = 0) = true by decide)
    · have e1 : M_in (Int32.toInt64 a) 0 3 h = some (0, h) := by
        rw [zm_in, bI, Int32.toInt_toInt64, if_neg (show ¬ (Int64.toInt 0 ≤ a.toInt ∧ a.toInt ≤ Int64.toInt 3) from hc)]
      rw [M_mark_eq, bnd e1]
      exact if_neg (show ¬ decide (¬ (0 : Int32) = 0) = true by decide)
  obtain ⟨k, rfl, hk, hk2, hk3⟩ := nI_ex hc
  have hk4 : k < 4 := by omega
  obtain ⟨b, h1, x1, ⟨y1, y2, y3, y4⟩, ⟨y5, y6, y7⟩, y8, y9, y10, y11, y12, y13⟩ := z_mark v hk4
  obtain ⟨⟨w, e, g⟩, t, O, m1, m2, m3⟩ := v
  have w0 := w
  obtain ⟨wS, wR, wG, wN⟩ := w
  have rS : ∀ x, x < 207 → gS h1 x = gS h x := fun x hx => y9 x (by omega)
  have rR : ∀ x j, x < 207 → ¬ x = 92 → gR h1 x j = gR h x j := fun x j hx h9 => y10 x j (by omega) (by omega) (by omega)
  have rI : ∀ x j, x < 207 → gI h1 x j = gI h x j := fun x j hx => y11 x j (by omega) (by omega)
  have w1 : ok h1 := by
    refine ⟨?_, ?_, ⟨fun z hz => ?_, fun z hz => ?_⟩, by omega⟩
    · simp (disch := decide) only [okS, rS, wS, and_self]
    · simp (disch := decide) only [okR, rR, wR, and_self]
    · rw [rR 107 z (by omega) (by omega)]; exact wG.1 z hz
    · rw [rS (108 + z) (by omega)]; exact wG.2 z hz
  obtain ⟨h2, z1, z2, z3, z4⟩ := zm_mark w1 hk4
  have S2 : gS h2 = gS h1 := z2.2.2.1
  have N2 : gN h2 = gN h1 := z2.1
  have gI2 : ∀ x j, ¬ x = 204 → ¬ x = 205 → ¬ x = 206 → ¬ (x = 159 ∧ (j = 73 ∨ j = 74)) → gI h2 x j = gI h1 x j := fun x j a1 a2 a3 a4 => by
    rw [z4, if_neg (by omega), if_neg (by omega), mkG_I h1 k x j a2 a3 a4]
  have gIG : ∀ x j, x < 205 → ¬ (x = 159 ∧ (j = 73 ∨ j = 74)) → gI (mkG h1 k) x j = gI h x j := fun x j a1 a4 => by
    rw [mkG_I h1 k x j (by omega) (by omega) a4, rI x j (by omega)]
  have gI3 : ∀ x j, x < 204 → ¬ (x = 159 ∧ (j = 73 ∨ j = 74)) → gI h2 x j = gI h x j := fun x j a1 a4 => by
    rw [gI2 x j (by omega) (by omega) (by omega) a4, rI x j (by omega)]
  have V2 : V h2 = V h := V_of fun x j a1 a2 => gI3 x j (by omega) (by omega)
  have VG : V (mkG h1 k) = V h := V_of fun x j a1 a2 => gIG x j (by omega) (by omega)
  have E2 : EQ h2 := EQ_of V2 (fun j hj => gI3 159 j (by omega) (by omega)) (fun x a1 a2 j => gI3 x j (by omega) (by omega)) (fun x a1 a2 j => gI3 x j (by omega) (by omega)) e
  have EG : EQ (mkG h1 k) := EQ_of VG (fun j hj => gIG 159 j (by omega) (by omega)) (fun x a1 a2 j => gIG x j (by omega) (by omega)) (fun x a1 a2 j => gIG x j (by omega) (by omega)) e
  have w2 : ok h2 := by
    obtain ⟨a1, a2, a3, a4⟩ := w1
    exact ⟨by rw [S2]; exact a1, by rw [z3]; exact a2, by rw [S2, z3]; exact a3, by rw [N2]; exact a4⟩
  have e' := e
  unfold EQ at e'
  have hold : ∀ x, x < gN h → b ≤ x → x < b + 27 → O x = k + 1 := fun x hx hb1 hb2 => by
    rcases y8 with q | ⟨q1, q2⟩
    · omega
    · rcases m3 k hk4 with ⟨q, -⟩ | ⟨b', hg, ⟨p1, p2, p3, p4, p5, p6⟩, p7, -⟩
      · omega
      · have := p7 (x - b) (by omega)
        rw [show b' + (x - b) = x by omega] at this
        exact this
  have kp : kpK (fun x => ¬ (x < gN h ∧ b ≤ x ∧ x < b + 27)) h h2 := ⟨by rw [N2]; exact y5, fun x hx => by rw [S2]; exact y9 x hx, fun x j a1 a2 a3 => ⟨by rw [z3]; exact y10 x j a2 (by omega) (by omega), by rw [gI2 x j (by omega) (by omega) (by omega) (by omega)]; exact y11 x j a2 (by omega)⟩⟩
  obtain ⟨O', hO'⟩ : ∃ O' : Nat → Nat, ∀ x, O' x = if b ≤ x ∧ x < b + 27 then k + 1 else O x := ⟨_, fun _ => rfl⟩
  have hO : ∀ x, x < gN h → O' x = O x := fun x hx => by
    rw [hO']
    by_cases q : b ≤ x ∧ x < b + 27
    · rw [if_pos q, hold x hx q.1 q.2]
    · rw [if_neg q]
  have hK0 : ∀ x, O x = 0 → ¬ (x < gN h ∧ b ≤ x ∧ x < b + 27) := fun x hx q => by have := hold x q.1 q.2.1 q.2.2; omega
  have W2 : ∀ x j, 173 ≤ x → x ≤ 180 → gI h2 x j = gI h x j := fun x j a1 a2 => gI3 x j (by omega) (by omega)
  have WG : ∀ x j, 173 ≤ x → x ≤ 180 → gI (mkG h1 k) x j = gI h x j := fun x j a1 a2 => gIG x j (by omega) (by omega)
  have hcn := cnts g.1
  have r82 : ∀ j, gR h2 82 j = gR h 82 j := fun j => by rw [z3]; exact rR 82 j (by omega) (by omega)
  have r17 : ∀ j, j < 10 → gR h2 (b + 17) j = gR h 82 j := fun j hj => by rw [z3]; exact y13 j hj
  refine ⟨V h 65 0, h1, h2, x1, ?_, ⟨⟨⟨w2, E2, by rw [V2]; exact g⟩, IT_of (gI3 _ _ (by omega) (by omega)) (fun j => gI3 _ _ (by omega) (by omega)) (gI3 _ _ (by omega) (by omega)) (fun j => gI3 _ _ (by omega) (by omega)) t, O', sl_kp kp.1 kp.2.1 (fun j _ => r82 j) m1, wy_kp kp hK0 hO (fun j _ => r82 j) (by rw [V2]) (fun j D _ _ z => WM_eq W2 z) m2, fun k' hk' => ?_⟩, by omega, by rw [z2.2.1]; omega, by rw [S2]; exact y9 40 (by omega), fun j => gI3 40 j (by omega) (by omega)⟩, rS 40 (by omega), fun j => rI 40 j (by omega), by simp only [w1.1]⟩
  · rw [z1, rI 159 1 (by omega), e'.1]
  · by_cases hkk : k' = k
    · subst hkk
      refine Or.inr ⟨b, mkG h1 k', ⟨y1, by omega, by rw [z3]; exact y4, ?_, bkP_s S2 z3 y3, sl_kp kp.1 kp.2.1 r17 m1⟩, fun i hi => by rw [hO', if_pos ⟨by omega, by omega⟩], ⟨EG, by rw [VG]; exact g, ?_⟩, fun i j hi z => ?_, fun i hi => ?_, wy_kp kp hK0 hO (fun j hj => r17 j (by omega)) (by rw [VG]) (fun j D _ _ z => WM_eq WG z) m2⟩
      · rw [z4, if_neg (by omega), if_neg (by omega), mkG_206, if_pos rfl]
      · unfold scP
        rw [VG]
        simp only [mkG_205, ↓reduceIte, Nat.reduceEqDiff, rI 159 _ (show 159 < 207 by omega), e', and_self]
      · rw [gI2 _ _ (by omega) (by omega) (by omega) (by omega), y12 i j hi z, gIG _ _ (by omega) (by omega)]
      · rw [z4, if_pos ⟨rfl, by omega, by omega⟩, Nat.add_sub_cancel_left]
    · have e206 : gI h2 206 k' = gI h 206 k' := by rw [z4, if_neg (by omega), if_neg (by omega), mkG_206, if_neg hkk, rI 206 k' (by omega)]
      have e92 : gR h2 92 k' = gR h 92 k' := by rw [z3]; exact y10 92 k' (by omega) (by omega) (by omega)
      rcases m3 k' hk' with ⟨x, y⟩ | ⟨b', hg, p⟩
      · exact Or.inl ⟨e92.trans x, e206.trans y⟩
      · exact Or.inr ⟨b', hg, bkM_kp kp (fun x hx q => by have := hold x q.1 q.2.1 q.2.2; omega) hO e92 e206 (fun i hi => by rw [z4, if_neg (by omega), if_neg (by omega), gIG 204 _ (by omega) (by omega)]) p⟩
