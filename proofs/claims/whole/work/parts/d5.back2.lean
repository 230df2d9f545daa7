/-! back: the step -/
def tbL : List (Nat × Nat) := [(2, 30), (3, 30), (4, 30), (6, 16), (7, 16), (8, 16), (10, 100), (11, 100), (12, 100), (13, 100), (14, 100), (15, 100), (16, 100), (18, 40), (19, 40), (20, 40), (21, 9), (22, 9), (23, 24), (24, 24), (25, 8)]
theorem TBk_r {i N : Nat} (q : (i, N) ∈ tbL) (j : Nat) : TBk i j = decide (j < N) := by
  unfold tbL at q
  simp only [List.mem_cons, List.not_mem_nil, or_false, Prod.mk.injEq] at q
  rcases q with ⟨rfl, rfl⟩ | ⟨rfl, rfl⟩ | ⟨rfl, rfl⟩ | ⟨rfl, rfl⟩ | ⟨rfl, rfl⟩ | ⟨rfl, rfl⟩ | ⟨rfl, rfl⟩ | ⟨rfl, rfl⟩ | ⟨rfl, rfl⟩ | ⟨rfl, rfl⟩ | ⟨rfl, rfl⟩ | ⟨rfl, rfl⟩ | ⟨rfl, rfl⟩ | ⟨rfl, rfl⟩ | ⟨rfl, rfl⟩ | ⟨rfl, rfl⟩ | ⟨rfl, rfl⟩ | ⟨rfl, rfl⟩ | ⟨rfl, rfl⟩ | ⟨rfl, rfl⟩ | ⟨rfl, rfl⟩ <;> simp only [TBk, Urow, Uone, Nat.reduceEqDiff, false_and, true_and, decide_false, Bool.or_false, Bool.false_or]
/-- what back leaves -/
def bak (h h2 hg : ax_H) : Prop := (∀ i j, i ≤ 25 → gI h2 (65 + i) j = if TBk i j = true then gI hg (65 + i) j else gI h (65 + i) j) ∧ (∀ a j, 160 ≤ a → a ≤ 203 → inL crL a j → gI h2 a j = gI hg a j) ∧ (∀ a j, 160 ≤ a → a ≤ 203 → ¬ inL crL a j → gI h2 a j = gI h a j)
theorem bk_row {h h2 hg : ax_H} (p : bak h h2 hg) {r i N : Nat} (h1 : (i, N) ∈ tbL) (hi : i ≤ 25) (hr : 160 ≤ r ∧ r ≤ 203) (h2' : ∀ j, inL crL r j ↔ j < N) (eg : ∀ k, gI hg r k = V hg (65 + i) k) (eh : ∀ k, gI h r k = V h (65 + i) k) : ∀ k, gI h2 r k = V h2 (65 + i) k := fun k => by
  have e1 : V h2 (65 + i) k = gI h2 (65 + i) k := if_pos ⟨by omega, by omega⟩
  have e2 : V hg (65 + i) k = gI hg (65 + i) k := if_pos ⟨by omega, by omega⟩
  have e3 : V h (65 + i) k = gI h (65 + i) k := if_pos ⟨by omega, by omega⟩
  rw [e1, p.1 i k hi, TBk_r h1 k]
  by_cases q : k < N
  · rw [if_pos (decide_eq_true q), p.2.1 r k hr.1 hr.2 ((h2' k).mpr q), eg, e2]
  · rw [if_neg (by rw [decide_eq_false q]; decide), p.2.2 r k hr.1 hr.2 (fun c => q ((h2' k).mp c)), eh, e3]
theorem EQ_bk {h h2 hg : ax_H} (p : bak h h2 hg) (eg : EQ hg) (eh : EQ h) (q0 : gI h2 159 1 = V h2 65 0 ∧ gI h2 159 2 = V h2 66 0 ∧ gI h2 159 3 = V h2 70 0 ∧ gI h2 159 4 = V h2 74 0 ∧ gI h2 159 20 = V h2 65 4 ∧ gI h2 159 59 = V h2 65 6 ∧ gI h2 159 63 = V h2 65 10) : EQ h2 := by
  obtain ⟨q1, q2, q3, q4, q5, q6, q7⟩ := q0
  obtain ⟨-, -, -, -, -, -, -, a1, a2, a3, a4, a5, a6, a7, a8, a9, a10, a11, a12, a13, a14, a15, a16, a17, a18, a19, a20⟩ := eg
  obtain ⟨-, -, -, -, -, -, -, b1, b2, b3, b4, b5, b6, b7, b8, b9, b10, b11, b12, b13, b14, b15, b16, b17, b18, b19, b20⟩ := eh
  have il : ∀ r N, (∀ j, inL crL r j ↔ j < N) ↔ (∀ j, inL crL r j ↔ j < N) := fun _ _ => Iff.rfl
  refine ⟨q1, q2, q3, q4, q5, q6, q7, bk_row p (i := 2) (N := 30) (by decide) (by omega) (by omega) ?_ a1 b1, bk_row p (i := 3) (N := 30) (by decide) (by omega) (by omega) ?_ a2 b2, bk_row p (i := 4) (N := 30) (by decide) (by omega) (by omega) ?_ a3 b3, bk_row p (i := 6) (N := 16) (by decide) (by omega) (by omega) ?_ a4 b4, bk_row p (i := 7) (N := 16) (by decide) (by omega) (by omega) ?_ a5 b5, bk_row p (i := 8) (N := 16) (by decide) (by omega) (by omega) ?_ a6 b6, bk_row p (i := 10) (N := 100) (by decide) (by omega) (by omega) ?_ a7 b7, bk_row p (i := 11) (N := 100) (by decide) (by omega) (by omega) ?_ a8 b8, bk_row p (i := 12) (N := 100) (by decide) (by omega) (by omega) ?_ a9 b9, bk_row p (i := 13) (N := 100) (by decide) (by omega) (by omega) ?_ a10 b10, bk_row p (i := 14) (N := 100) (by decide) (by omega) (by omega) ?_ a11 b11, bk_row p (i := 15) (N := 100) (by decide) (by omega) (by omega) ?_ a12 b12, bk_row p (i := 18) (N := 40) (by decide) (by omega) (by omega) ?_ a13 b13, bk_row p (i := 19) (N := 40) (by decide) (by omega) (by omega) ?_ a14 b14, bk_row p (i := 20) (N := 40) (by decide) (by omega) (by omega) ?_ a15 b15, bk_row p (i := 21) (N := 9) (by decide) (by omega) (by omega) ?_ a16 b16, bk_row p (i := 22) (N := 9) (by decide) (by omega) (by omega) ?_ a17 b17, bk_row p (i := 23) (N := 24) (by decide) (by omega) (by omega) ?_ a18 b18, bk_row p (i := 24) (N := 24) (by decide) (by omega) (by omega) ?_ a19 b19, fun k hk => ?_⟩
  case refine_20 =>
    have e1 : V h2 90 k = V hg 90 k := by
      have := p.1 25 k (by omega)
      rw [TBk_r (N := 8) (by decide) k, if_pos (decide_eq_true hk)] at this
      exact this
    rw [e1, a20 k hk, p.2.1 196 k (by omega) (by omega)]
    simp only [crL, inL, Nat.reduceEqDiff, false_and, true_and, false_or, or_false, hk]
  all_goals (intro j; simp only [crL, inL, Nat.reduceEqDiff, false_and, true_and, false_or, or_false])
theorem ag_bk {h h2 hg : ax_H} (p : bak h h2 hg) : agV (V hg) (V h2) := by
  have hr : ∀ i N, (i, N) ∈ tbL → i ≤ 25 → ∀ k, k < N → V h2 (65 + i) k = V hg (65 + i) k := fun i N q hi k hk => by
    have e1 : V h2 (65 + i) k = gI h2 (65 + i) k := if_pos ⟨by omega, by omega⟩
    have e2 : V hg (65 + i) k = gI hg (65 + i) k := if_pos ⟨by omega, by omega⟩
    rw [e1, e2, p.1 i k hi, TBk_r q k, if_pos (decide_eq_true hk)]
  have ho : ∀ i j, i ≤ 25 → TBk i j = true → V h2 (65 + i) j = V hg (65 + i) j := fun i j hi q => by
    have e1 : V h2 (65 + i) j = gI h2 (65 + i) j := if_pos ⟨by omega, by omega⟩
    have e2 : V hg (65 + i) j = gI hg (65 + i) j := if_pos ⟨by omega, by omega⟩
    rw [e1, e2, p.1 i j hi, if_pos q]
  refine ⟨⟨ho 0 0 (by omega) (by decide), ho 0 4 (by omega) (by decide), ho 0 6 (by omega) (by decide), ho 0 10 (by omega) (by decide), ho 1 0 (by omega) (by decide), ho 5 0 (by omega) (by decide), ho 9 0 (by omega) (by decide)⟩, fun a k h1 h2 hk => ?_, fun a k h1 h2 hk => ?_, fun a k h1 h2 hk => ?_, fun a k h1 h2 hk => ?_, fun a k h1 h2 hk => ?_, fun a k h1 h2 hk => ?_, fun k hk => hr 25 8 (by decide) (by omega) k hk⟩
  · have : a = 67 ∨ a = 68 ∨ a = 69 := by omega
    rcases this with rfl | rfl | rfl
    · exact hr 2 30 (by decide) (by omega) k hk
    · exact hr 3 30 (by decide) (by omega) k hk
    · exact hr 4 30 (by decide) (by omega) k hk
  · have : a = 71 ∨ a = 72 ∨ a = 73 := by omega
    rcases this with rfl | rfl | rfl
    · exact hr 6 16 (by decide) (by omega) k hk
    · exact hr 7 16 (by decide) (by omega) k hk
    · exact hr 8 16 (by decide) (by omega) k hk
  · have : a = 75 ∨ a = 76 ∨ a = 77 ∨ a = 78 ∨ a = 79 ∨ a = 80 ∨ a = 81 := by omega
    rcases this with rfl | rfl | rfl | rfl | rfl | rfl | rfl
    · exact hr 10 100 (by decide) (by omega) k hk
    · exact hr 11 100 (by decide) (by omega) k hk
    · exact hr 12 100 (by decide) (by omega) k hk
    · exact hr 13 100 (by decide) (by omega) k hk
    · exact hr 14 100 (by decide) (by omega) k hk
    · exact hr 15 100 (by decide) (by omega) k hk
    · exact hr 16 100 (by decide) (by omega) k hk
  · have : a = 83 ∨ a = 84 ∨ a = 85 := by omega
    rcases this with rfl | rfl | rfl
    · exact hr 18 40 (by decide) (by omega) k hk
    · exact hr 19 40 (by decide) (by omega) k hk
    · exact hr 20 40 (by decide) (by omega) k hk
  · have : a = 86 ∨ a = 87 := by omega
    rcases this with rfl | rfl
    · exact hr 21 9 (by decide) (by omega) k hk
    · exact hr 22 9 (by decide) (by omega) k hk
  · have : a = 88 ∨ a = 89 := by omega
    rcases this with rfl | rfl
    · exact hr 23 24 (by decide) (by omega) k hk
    · exact hr 24 24 (by decide) (by omega) k hk
theorem WM_bk {h h2 hg : ax_H} (p : bak h h2 hg) {j : Nat} (hj : j < 10) {D : WD} (f : WF D) (m : WM hg j D) : WM h2 j D := by
  obtain ⟨c1, c2, c3, c4, c5⟩ := m
  have f5 : D.2.2.2.length ≤ 12 := f.2.2.2.2.1
  have hin : ∀ r N k, ((r, N) = (173, 3000) ∨ (r, N) = (174, 3000) ∨ (r, N) = (175, 120) ∨ (r, N) = (176, 120) ∨ (r, N) = (177, 10) ∨ (r, N) = (178, 10) ∨ (r, N) = (179, 60) ∨ (r, N) = (180, 60)) → k < N → gI h2 r k = gI hg r k := fun r N k q hk => by
    simp only [Prod.mk.injEq] at q
    rcases q with ⟨rfl, rfl⟩ | ⟨rfl, rfl⟩ | ⟨rfl, rfl⟩ | ⟨rfl, rfl⟩ | ⟨rfl, rfl⟩ | ⟨rfl, rfl⟩ | ⟨rfl, rfl⟩ | ⟨rfl, rfl⟩ <;> (refine p.2.1 _ _ (by omega) (by omega) ?_; simp only [crL, inL, Nat.reduceEqDiff, false_and, true_and, false_or, or_false, hk])
  refine ⟨fun t ht => by rw [hin 179 60 _ (by simp) (by omega)]; exact c1 t ht, fun t ht => by rw [hin 180 60 _ (by simp) (by omega)]; exact c2 t ht, by rw [hin 178 10 _ (by simp) (by omega)]; exact c3, by rw [hin 177 10 _ (by simp) (by omega)]; exact c4, fun c T hc => ?_⟩
  have hcl := (List.getElem?_eq_some_iff.mp hc).1
  obtain ⟨s, s1, s2, s3, s4⟩ := c5 c T hc
  refine ⟨s, s1, by rw [hin 175 120 _ (by simp) (by omega)]; exact s2, by rw [hin 176 120 _ (by simp) (by omega)]; exact s3, fun k e z => ?_⟩
  have hkl := (List.getElem?_eq_some_iff.mp z).1
  rw [hin 173 3000 _ (by simp) (by omega), hin 174 3000 _ (by simp) (by omega)]
  exact s4 k e z
