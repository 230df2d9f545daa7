/-! the class's readWay: the loop -/
def wyM (T : Nat → Nat) (n : Nat) : Nat → Nat → Ws → Sum Nat Ws
  | 0, _, _ => .inl 0
  | m + 1, k, s => match clC T n k s.1 s.2.1 s.2.2.1 s.2.2.2.1 s.2.2.2.2.1 s.2.2.2.2.2.1 s.2.2.2.2.2.2 with
    | .inl f => .inl f
    | .inr s' => if sgI T n (sb T n s'.1) = -1 then .inr s' else if sgI T n (sb T n s'.1) = 59 then wyM T n m (k + 1) (sb T n s'.1 + 1, s'.2) else .inl (1 + 8 * sb T n s'.1 + 0)
theorem WI_p {n p p' c ft : Nat} {hd : Int32} {dg hl : Nat → Int32} {L : List Cd} (m : WI n p c ft hd dg hl L) (h1 : p ≤ p') (h2 : p' ≤ n) : WI n p' c ft hd dg hl L := by
  obtain ⟨⟨m1, m2, m3, m4⟩, m5, m6, m7, m8, m9⟩ := m
  exact ⟨⟨h2, m2, m3, m4⟩, m5, m6, m7, m8, by omega⟩
def wdS (s : Ws) : WD := (s.2.2.2.2.1, s.2.2.2.2.2.1, s.2.2.2.1, s.2.2.2.2.2.2)
theorem WI_WF {n : Nat} (hn : n ≤ 400) {s : Ws} (m : WIs n s) (h : s.2.2.2.2.2.2.length ≤ 12) : WF (wdS s) := by
  obtain ⟨⟨m1, m2, m3, m4⟩, m5, m6, m7, m8, m9⟩ := m
  exact ⟨m5, m4, m7, Nat.le_trans m8 m2, h, by show (jnT s.2.2.2.2.2.2).length ≤ 400; omega, by show cntB (fun t => decide (s.2.2.2.2.1 t = 1)) 6 0 ≤ 3; omega⟩
theorem WI_0 (n : Nat) : WI n 0 0 0 (-1) (fun _ => 0) (fun _ => 0) [] := ⟨⟨by omega, by omega, by omega, by unfold inI; decide⟩, fun t ht => ⟨(by unfold inI; decide : inI (0 : Int32) 0 3), (by unfold inI; decide : inI (0 : Int32) (-99999) 99999), fun _ => rfl⟩, rfl, fun R hR => (by cases hR), by show 0 ≤ 0; omega, by show 2 * 0 ≤ 0 + 2 * 0; omega⟩
section
theorem z_rw_6 {T : Nat → Nat} {n : Nat} (tb : ∀ i, T i < 256) : ∀ (m k : Nat) (s : Ws) (h : ax_H), k + m = 13 → k ≤ 12 → ok h → TC h T n → RWd h s.1 s.2.1 s.2.2.1 s.2.2.2.1 s.2.2.2.2.1 s.2.2.2.2.2.1 (jnT s.2.2.2.2.2.2).reverse → WIs n s → s.2.2.2.2.2.2.length ≤ k → (∀ f, wyM T n m k s = .inl f → ∃ h', Rd_readWay_6 93 (nI k) h = some (0, h') ∧ flt h h' f) ∧ ∀ s', wyM T n m k s = .inr s' → ∃ h1 h', Rd_readWay_6 93 (nI k) h = some (gN h, h') ∧ fr Sx h h1 ∧ mkW h1 h' (wdS s') ∧ WF (wdS s')
  | 0, k, s, h, hk, hk2, w, t, r, m, hl => by omega
  | i + 1, k, s, h, hk, hk2, w, t, r, m, hl => by
    have t1 := t.1
    have s0 := s_93 w
    have z12 : ¬ (12 : Int32) < nI k := fun z => by
      have := (nJ_lt (a := 12) (b := k) (by omega) (by omega)).mp z
      omega
    have cl := z_clause tb w t r m hk2
    rw [wyM]
    cases hc : clC T n k s.1 s.2.1 s.2.2.1 s.2.2.2.1 s.2.2.2.2.1 s.2.2.2.2.2.1 s.2.2.2.2.2.2 with
    | inl f =>
      rw [hc] at cl
      refine ⟨fun f' q => ?_, fun s' q => (by cases q)⟩
      have q' : (Sum.inl f : Sum Nat Ws) = Sum.inl f' := q
      injection q' with q'
      obtain ⟨h', a, b⟩ := cl
      refine ⟨h', ?_, by rw [← q']; exact b⟩
      rw [Rd_readWay_6_eq]
      simp only [z12, decide_false, Bool.false_eq_true, ↓reduceIte, s0]
      rw [bnd a]
      rfl
    | inr s1 =>
      rw [hc] at cl
      obtain ⟨h1, a1, a2, a3⟩ := cl
      obtain ⟨wi, wp, wl, wk⟩ := WI_cl m t1 hc
      have w1 := ok_fr a2 w
      have t1' := TC_Sx a2 t
      have hp1 : s1.1 ≤ n := wi.1.1
      obtain ⟨h2, b1, b2, b3⟩ := z_next tb w1 t1' a3.1.1 (by omega)
      have w2 := ok_fr b2 w1
      have t2' := TC_Sp b2 t1'
      have R2 := RWd_Sp a3 b2 b3
      have s2 := s_93 w2
      have hge := sb_ge T n s1.1
      have hle : sb T n s1.1 ≤ n := sb_le hp1
      have f2 : fr Sx h h2 := fr_tr a2 (Sp_x b2)
      show (∀ f, (if sgI T n (sb T n s1.1) = -1 then Sum.inr s1 else if sgI T n (sb T n s1.1) = 59 then wyM T n i (k + 1) (sb T n s1.1 + 1, s1.2) else Sum.inl (1 + 8 * sb T n s1.1 + 0)) = Sum.inl f → _) ∧ (∀ s', (if sgI T n (sb T n s1.1) = -1 then Sum.inr s1 else if sgI T n (sb T n s1.1) = 59 then wyM T n i (k + 1) (sb T n s1.1 + 1, s1.2) else Sum.inl (1 + 8 * sb T n s1.1 + 0)) = Sum.inr s' → _)
      generalize sb T n s1.1 = p1 at *
      have go : ∀ X, (if decide (¬ sgI T n p1 = -1) = true then (if decide (sgI T n p1 = 59) = true then (if (gS h2 93).1 = 6 then if (gS h2 93).1 = 6 then Rd_readWay_6 93 (nI k + 1) (pI h2 93 3 ((gI h2 93 3) + 1)) else none else none) else (if (gS h2 93).1 = 6 then if (gS h2 93).1 = 6 then (Rd_fail 93 (gI h2 93 3) 0 h2).bind (fun r4 => some (0, r4.2)) else none else none)) else (let h5 := nW h2 5 0 4; if (gS h5 93).1 = 6 then if (gS h5 (gR h5 93 13)).1 = 16 ∧ (gS h5 (gR h5 93 13)).2 ≤ 100000 ∧ (([.ref (gN h2), .ref (gN h2)] : List Value).map (fun v => v.category)).sum ≤ 8 then let h6 := rI (nW h5 16 (gS h5 (gR h5 93 13)).2 (gS h5 (gR h5 93 13)).2) (gN h5) (gI h5 (gR h5 93 13)); if (gS h6 (gN h5)).1 = 16 then if (gS h6 93).1 = 6 then if (gS h6 (gR h6 93 14)).1 = 16 ∧ (gS h6 (gR h6 93 14)).2 ≤ 100000 ∧ (([.ref (gN h5), .ref (gN h2), .ref (gN h2)] : List Value).map (fun v => v.category)).sum ≤ 8 then let h7 := rI (nW h6 16 (gS h6 (gR h6 93 14)).2 (gS h6 (gR h6 93 14)).2) (gN h6) (gI h6 (gR h6 93 14)); if (gS h7 (gN h6)).1 = 16 then if (gS h7 93).1 = 6 then if (gS h7 93).1 = 6 then (Rd_copyOfSteps 93 h7).bind (fun r8 => if (gS r8.2 (gN h2)).1 = 5 then (Wy_init (gN h2) (gN h5) (gN h6) (gI h7 93 6) r8.1 r8.2).bind (fun h9 => some ((gN h2), h9) ) else none ) else none else none else none else none else none else none else none else none)) = X → Rd_readWay_6 93 (nI k) h = X := fun X hX => by
        rw [← hX, Rd_readWay_6_eq, if_neg (by rw [decide_eq_true_eq]; exact z12), if_pos s0, bnd a1]
        show (if (gS h1 93).1 = 6 then (Rd_next 93 h1).bind _ else none) = _
        rw [if_pos (s_93 w1), bnd b1]
      by_cases q1 : sgI T n p1 = -1
      · rw [if_pos q1]
        refine ⟨fun f q => (by cases q), fun s' q => ?_⟩
        injection q with q
        rw [← q]
        obtain ⟨h', x, y⟩ := z_mkW w2 R2 (by have : 2 * (jnT s1.2.2.2.2.2.2).length ≤ s1.1 + 2 * s1.2.1 := wi.2.2.2.2.2; have : s1.2.1 ≤ 60 := wi.1.2.1; omega)
        have gn : gN h = gN h2 := f2.1.symm
        refine ⟨h2, h', ?_, f2, y, WI_WF t1 wi (by omega)⟩
        refine go _ ?_
        rw [if_neg (by rw [decide_eq_true_eq]; exact fun z => z q1), gn]
        exact x
      · rw [if_neg q1]
        by_cases q2 : sgI T n p1 = 59
        · rw [if_pos q2]
          have hlt := sg_lt q2 (by decide)
          have w3 : ok (pI h2 93 3 (nI (p1 + 1))) := ok_pI w2 _ _ _
          have f3 : fr Sx h (pI h2 93 3 (nI (p1 + 1))) := fr_tr f2 (fr_pI rfl)
          obtain ⟨x, y⟩ := z_rw_6 tb i (k + 1) (p1 + 1, s1.2) (pI h2 93 3 (nI (p1 + 1))) (by omega) (by omega) w3 (TC_Sx (fr_pI rfl) t2') (RWd_Sp R2 (fr_pI rfl) (by rw [gI_pI, if_pos ⟨rfl, rfl⟩])) (WI_p wi (by omega) hlt) (by show s1.2.2.2.2.2.2.length ≤ k + 1; omega)
          have e0 : Rd_readWay_6 93 (nI k) h = Rd_readWay_6 93 (nI (k + 1)) (pI h2 93 3 (nI (p1 + 1))) := by
            refine go _ ?_
            rw [if_pos (decide_eq_true q1), if_pos (decide_eq_true q2), if_pos s2, if_pos s2, b3, nJ_p1, nJ_p1]
          rw [e0]
          refine ⟨fun f q => ?_, fun s' q => ?_⟩
          · obtain ⟨h', u, v⟩ := x f q
            exact ⟨h', u, flt_y f3 v⟩
          · obtain ⟨g1, h', u, v, u2, v2⟩ := y s' q
            have gn : gN (pI h2 93 3 (nI (p1 + 1))) = gN h := f3.1
            rw [gn] at u
            exact ⟨g1, h', u, fr_tr f3 v, u2, v2⟩
        · rw [if_neg q2]
          refine ⟨fun f q => ?_, fun s' q => (by cases q)⟩
          injection q with q
          rw [← q]
          refine ⟨pI h2 93 1 (nI (1 + 8 * p1 + 0)), ?_, fr_tr f2 (fr_pI rfl), by rw [gI_pI, if_pos ⟨rfl, rfl⟩]⟩
          refine go _ ?_
          rw [if_pos (decide_eq_true q1), if_neg (by rw [decide_eq_true_eq]; exact q2), if_pos s2, if_pos s2, b3, bnd (z_fail w2 p1 0 (c' := 0) rfl)]
/-- a tape told as a way -/
def wayP (T : Nat → Nat) (n : Nat) : Sum Nat Ws := wyM T n 13 0 (0, 0, 0, -1, fun _ => 0, fun _ => 0, [])
theorem z_readWay {T : Nat → Nat} {n : Nat} (tb : ∀ i, T i < 256) {h : ax_H} (w : ok h) (t : TC h T n) : (∀ f, wayP T n = .inl f → ∃ h', Rd_readWay 93 h = some (0, h') ∧ flt h h' f) ∧ ∀ s, wayP T n = .inr s → ∃ h1 h', Rd_readWay 93 h = some (gN h, h') ∧ fr Sx h h1 ∧ mkW h1 h' (wdS s) ∧ WF (wdS s) := by
  obtain ⟨h1, a1, a2, a3⟩ := z_forget w
  have w1 := ok_fr a2 w
  obtain ⟨x, y⟩ := z_rw_6 tb 13 0 (0, 0, 0, -1, fun _ => 0, fun _ => 0, []) h1 (by omega) (by omega) w1 (TC_Sx a2 t) a3 (WI_0 n) (by show 0 ≤ 0; omega)
  have e0 : Rd_readWay 93 h = Rd_readWay_6 93 (nI 0) h1 := by rw [Rd_readWay_eq, if_pos (s_93 w), bnd a1]; rfl
  rw [e0]
  refine ⟨fun f q => ?_, fun s q => ?_⟩
  · obtain ⟨h', u, v⟩ := x f q
    exact ⟨h', u, flt_y a2 v⟩
  · obtain ⟨g1, h', u, v, u2, v2⟩ := y s q
    rw [a2.1] at u
    exact ⟨g1, h', u, fr_tr a2 v, u2, v2⟩
end
