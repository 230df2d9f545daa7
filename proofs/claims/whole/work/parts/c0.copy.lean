/-! copies of books; printed by wip/gen/copy.py -/
def shL : List (Nat × Nat) := [(1, 0), (2, 0), (16, 30), (16, 30), (16, 30), (3, 0), (16, 16), (16, 16), (16, 16), (4, 0), (16, 100), (16, 100), (16, 100), (16, 100), (16, 100), (16, 100), (16, 100), (20, 10), (16, 40), (16, 40), (16, 40), (16, 9), (16, 9), (16, 24), (16, 24), (16, 8), (16, 6)]
def rfL : List (Nat × Nat × Nat) := [(0, 1, 1), (0, 2, 5), (0, 3, 9), (0, 5, 17), (0, 7, 18), (0, 8, 19), (0, 9, 20), (0, 11, 21), (0, 12, 22), (0, 13, 23), (0, 14, 24), (0, 15, 25), (0, 16, 26), (1, 1, 2), (1, 2, 3), (1, 3, 4), (5, 1, 6), (5, 2, 7), (5, 3, 8), (9, 1, 10), (9, 2, 11), (9, 3, 12), (9, 4, 13), (9, 5, 14), (9, 6, 15), (9, 7, 16)]
/-- a book at b -/
def bkP (h : ax_H) (b : Nat) : Prop := (∀ (i : Nat) (x : Nat × Nat), shL[i]? = some x → gS h (b + i) = x) ∧ ∀ (n i j r : Nat), rfL[n]? = some (i, j, r) → gR h (b + i) j = b + r
theorem bkP_eq {h h' : ax_H} {b : Nat} (s : ∀ a, b ≤ a → a ≤ b + 26 → gS h' a = gS h a) (r : ∀ a j, (a = b ∨ a = b + 1 ∨ a = b + 5 ∨ a = b + 9) → gR h' a j = gR h a j) (p : bkP h b) : bkP h' b := by
  refine ⟨fun i x z => ?_, fun n i j q z => ?_⟩
  · have hi : i < 27 := (List.getElem?_eq_some_iff.mp z).1
    rw [s _ (by omega) (by omega)]
    exact p.1 i x z
  · rw [r, p.2 n i j q z]
    have hn : n < 26 := (List.getElem?_eq_some_iff.mp z).1
    have : ∀ n, n < 26 → ∀ y, rfL[n]? = some y → y.1 = 0 ∨ y.1 = 1 ∨ y.1 = 5 ∨ y.1 = 9 := by
      intro n hn y hy
      have : ∀ n, n < 26 → (rfL[n]?.getD (0, 0, 0)).1 = 0 ∨ (rfL[n]?.getD (0, 0, 0)).1 = 1 ∨ (rfL[n]?.getD (0, 0, 0)).1 = 5 ∨ (rfL[n]?.getD (0, 0, 0)).1 = 9 := by decide
      have := this n hn
      rw [hy] at this
      exact this
    have := this n hn _ z
    have e : (i, j, q).1 = i := rfl
    rw [e] at this
    omega
def cp1 (h : ax_H) (x y N : Nat) : ax_H := rI h y (va_cpy (gI h x) (gI h y) 0 0 N)
theorem gI_cp1 (h : ax_H) (x y N a k : Nat) : gI (cp1 h x y N) a k = if a = y ∧ k < N then gI h x k else gI h a k := by
  unfold cp1
  rw [gI_rI]
  by_cases q : a = y
  · rw [if_pos q]
    by_cases z : k < N
    · rw [if_pos ⟨q, z⟩, pk_cpy_in (by omega) (by omega)]
      congr 1
      omega
    · rw [if_neg (fun c => z c.2), pk_cpy_out (by omega), q]
  · rw [if_neg q, if_neg (fun c => q c.1)]
def Sbk (d : Nat) (a _k : Nat) : Bool := decide (d ≤ a ∧ a ≤ d + 26)
theorem fr_cp1 {d : Nat} {h : ax_H} {x y N : Nat} (hy : d ≤ y ∧ y ≤ d + 26) : fr (Sbk d) h (cp1 h x y N) := fr_rI fun _ => decide_eq_true hy
theorem acp_pI (h : ax_H) (a k : Nat) (v : Int32) (x m : Nat) (c e : Int32) : ax_cp (pI h a k v) x m c e = ax_cp h x m c e := rfl
theorem acp_rI (h : ax_H) (a : Nat) (f : Nat → Int32) (x m : Nat) (c e : Int32) : ax_cp (rI h a f) x m c e = ax_cp h x m c e := rfl
theorem lsum : (([] : List Value).map (fun v => v.category)).sum ≤ 8 := by decide

theorem acp_30 {h : ax_H} {x : Nat} (s : gS h x = (16, 30)) : ax_cp h x 16 0 30 := by
  unfold ax_cp
  rw [s]
  exact ⟨rfl, by decide, by decide⟩

theorem acp_16 {h : ax_H} {x : Nat} (s : gS h x = (16, 16)) : ax_cp h x 16 0 16 := by
  unfold ax_cp
  rw [s]
  exact ⟨rfl, by decide, by decide⟩

theorem acp_100 {h : ax_H} {x : Nat} (s : gS h x = (16, 100)) : ax_cp h x 16 0 100 := by
  unfold ax_cp
  rw [s]
  exact ⟨rfl, by decide, by decide⟩

theorem acp_40 {h : ax_H} {x : Nat} (s : gS h x = (16, 40)) : ax_cp h x 16 0 40 := by
  unfold ax_cp
  rw [s]
  exact ⟨rfl, by decide, by decide⟩

theorem acp_9 {h : ax_H} {x : Nat} (s : gS h x = (16, 9)) : ax_cp h x 16 0 9 := by
  unfold ax_cp
  rw [s]
  exact ⟨rfl, by decide, by decide⟩

theorem acp_24 {h : ax_H} {x : Nat} (s : gS h x = (16, 24)) : ax_cp h x 16 0 24 := by
  unfold ax_cp
  rw [s]
  exact ⟨rfl, by decide, by decide⟩

theorem acp_8 {h : ax_H} {x : Nat} (s : gS h x = (16, 8)) : ax_cp h x 16 0 8 := by
  unfold ax_cp
  rw [s]
  exact ⟨rfl, by decide, by decide⟩

theorem z_St_copy {h : ax_H} {d s : Nat} (pd : bkP h d) (ps : bkP h s) : St_copyFrom (d + 1) (s + 1) h = some (cp1 (cp1 (cp1 (pI h (d + 1) 0 (gI h (s + 1) 0)) (s + 2) (d + 2) 30) (s + 3) (d + 3) 30) (s + 4) (d + 4) 30) := by
  have d0 : gS h (d + 1) = (2, 0) := pd.1 1 _ rfl
  have s0 : gS h (s + 1) = (2, 0) := ps.1 1 _ rfl
  have rd1 : gR h (d + 1) 1 = d + 2 := pd.2 13 _ _ _ rfl
  have rs1 : gR h (s + 1) 1 = s + 2 := ps.2 13 _ _ _ rfl
  have cd1 : ax_cp h (d + 2) 16 0 30 := acp_30 (pd.1 2 _ rfl)
  have cs1 : ax_cp h (s + 2) 16 0 30 := acp_30 (ps.1 2 _ rfl)
  have rd2 : gR h (d + 1) 2 = d + 3 := pd.2 14 _ _ _ rfl
  have rs2 : gR h (s + 1) 2 = s + 3 := ps.2 14 _ _ _ rfl
  have cd2 : ax_cp h (d + 3) 16 0 30 := acp_30 (pd.1 3 _ rfl)
  have cs2 : ax_cp h (s + 3) 16 0 30 := acp_30 (ps.1 3 _ rfl)
  have rd3 : gR h (d + 1) 3 = d + 4 := pd.2 15 _ _ _ rfl
  have rs3 : gR h (s + 1) 3 = s + 4 := ps.2 15 _ _ _ rfl
  have cd3 : ax_cp h (d + 4) 16 0 30 := acp_30 (pd.1 4 _ rfl)
  have cs3 : ax_cp h (s + 4) 16 0 30 := acp_30 (ps.1 4 _ rfl)
  rw [St_copyFrom_eq]
  simp only [gS_pI, gS_rI, gR_pI, gR_rI, acp_pI, acp_rI, d0, s0, rd1, rs1, eq_true cd1, eq_true cs1, rd2, rs2, eq_true cd2, eq_true cs2, rd3, rs3, eq_true cd3, eq_true cs3, lsum, show ¬ (30 : Int32) < 0 by decide, not_false_eq_true, and_self, ↓reduceIte]
  rfl

theorem z_Pl_copy {h : ax_H} {d s : Nat} (pd : bkP h d) (ps : bkP h s) : Pl_copyFrom (d + 5) (s + 5) h = some (cp1 (cp1 (cp1 (pI h (d + 5) 0 (gI h (s + 5) 0)) (s + 6) (d + 6) 16) (s + 7) (d + 7) 16) (s + 8) (d + 8) 16) := by
  have d0 : gS h (d + 5) = (3, 0) := pd.1 5 _ rfl
  have s0 : gS h (s + 5) = (3, 0) := ps.1 5 _ rfl
  have rd1 : gR h (d + 5) 1 = d + 6 := pd.2 16 _ _ _ rfl
  have rs1 : gR h (s + 5) 1 = s + 6 := ps.2 16 _ _ _ rfl
  have cd1 : ax_cp h (d + 6) 16 0 16 := acp_16 (pd.1 6 _ rfl)
  have cs1 : ax_cp h (s + 6) 16 0 16 := acp_16 (ps.1 6 _ rfl)
  have rd2 : gR h (d + 5) 2 = d + 7 := pd.2 17 _ _ _ rfl
  have rs2 : gR h (s + 5) 2 = s + 7 := ps.2 17 _ _ _ rfl
  have cd2 : ax_cp h (d + 7) 16 0 16 := acp_16 (pd.1 7 _ rfl)
  have cs2 : ax_cp h (s + 7) 16 0 16 := acp_16 (ps.1 7 _ rfl)
  have rd3 : gR h (d + 5) 3 = d + 8 := pd.2 18 _ _ _ rfl
  have rs3 : gR h (s + 5) 3 = s + 8 := ps.2 18 _ _ _ rfl
  have cd3 : ax_cp h (d + 8) 16 0 16 := acp_16 (pd.1 8 _ rfl)
  have cs3 : ax_cp h (s + 8) 16 0 16 := acp_16 (ps.1 8 _ rfl)
  rw [Pl_copyFrom_eq]
  simp only [gS_pI, gS_rI, gR_pI, gR_rI, acp_pI, acp_rI, d0, s0, rd1, rs1, eq_true cd1, eq_true cs1, rd2, rs2, eq_true cd2, eq_true cs2, rd3, rs3, eq_true cd3, eq_true cs3, lsum, show ¬ (16 : Int32) < 0 by decide, not_false_eq_true, and_self, ↓reduceIte]
  rfl

theorem z_Im_copy {h : ax_H} {d s : Nat} (pd : bkP h d) (ps : bkP h s) : Im_copyFrom (d + 9) (s + 9) h = some (cp1 (cp1 (cp1 (cp1 (cp1 (cp1 (cp1 (pI h (d + 9) 0 (gI h (s + 9) 0)) (s + 10) (d + 10) 100) (s + 11) (d + 11) 100) (s + 12) (d + 12) 100) (s + 13) (d + 13) 100) (s + 14) (d + 14) 100) (s + 15) (d + 15) 100) (s + 16) (d + 16) 100) := by
  have d0 : gS h (d + 9) = (4, 0) := pd.1 9 _ rfl
  have s0 : gS h (s + 9) = (4, 0) := ps.1 9 _ rfl
  have rd1 : gR h (d + 9) 1 = d + 10 := pd.2 19 _ _ _ rfl
  have rs1 : gR h (s + 9) 1 = s + 10 := ps.2 19 _ _ _ rfl
  have cd1 : ax_cp h (d + 10) 16 0 100 := acp_100 (pd.1 10 _ rfl)
  have cs1 : ax_cp h (s + 10) 16 0 100 := acp_100 (ps.1 10 _ rfl)
  have rd2 : gR h (d + 9) 2 = d + 11 := pd.2 20 _ _ _ rfl
  have rs2 : gR h (s + 9) 2 = s + 11 := ps.2 20 _ _ _ rfl
  have cd2 : ax_cp h (d + 11) 16 0 100 := acp_100 (pd.1 11 _ rfl)
  have cs2 : ax_cp h (s + 11) 16 0 100 := acp_100 (ps.1 11 _ rfl)
  have rd3 : gR h (d + 9) 3 = d + 12 := pd.2 21 _ _ _ rfl
  have rs3 : gR h (s + 9) 3 = s + 12 := ps.2 21 _ _ _ rfl
  have cd3 : ax_cp h (d + 12) 16 0 100 := acp_100 (pd.1 12 _ rfl)
  have cs3 : ax_cp h (s + 12) 16 0 100 := acp_100 (ps.1 12 _ rfl)
  have rd4 : gR h (d + 9) 4 = d + 13 := pd.2 22 _ _ _ rfl
  have rs4 : gR h (s + 9) 4 = s + 13 := ps.2 22 _ _ _ rfl
  have cd4 : ax_cp h (d + 13) 16 0 100 := acp_100 (pd.1 13 _ rfl)
  have cs4 : ax_cp h (s + 13) 16 0 100 := acp_100 (ps.1 13 _ rfl)
  have rd5 : gR h (d + 9) 5 = d + 14 := pd.2 23 _ _ _ rfl
  have rs5 : gR h (s + 9) 5 = s + 14 := ps.2 23 _ _ _ rfl
  have cd5 : ax_cp h (d + 14) 16 0 100 := acp_100 (pd.1 14 _ rfl)
  have cs5 : ax_cp h (s + 14) 16 0 100 := acp_100 (ps.1 14 _ rfl)
  have rd6 : gR h (d + 9) 6 = d + 15 := pd.2 24 _ _ _ rfl
  have rs6 : gR h (s + 9) 6 = s + 15 := ps.2 24 _ _ _ rfl
  have cd6 : ax_cp h (d + 15) 16 0 100 := acp_100 (pd.1 15 _ rfl)
  have cs6 : ax_cp h (s + 15) 16 0 100 := acp_100 (ps.1 15 _ rfl)
  have rd7 : gR h (d + 9) 7 = d + 16 := pd.2 25 _ _ _ rfl
  have rs7 : gR h (s + 9) 7 = s + 16 := ps.2 25 _ _ _ rfl
  have cd7 : ax_cp h (d + 16) 16 0 100 := acp_100 (pd.1 16 _ rfl)
  have cs7 : ax_cp h (s + 16) 16 0 100 := acp_100 (ps.1 16 _ rfl)
  rw [Im_copyFrom_eq]
  simp only [gS_pI, gS_rI, gR_pI, gR_rI, acp_pI, acp_rI, d0, s0, rd1, rs1, eq_true cd1, eq_true cs1, rd2, rs2, eq_true cd2, eq_true cs2, rd3, rs3, eq_true cd3, eq_true cs3, rd4, rs4, eq_true cd4, eq_true cs4, rd5, rs5, eq_true cd5, eq_true cs5, rd6, rs6, eq_true cd6, eq_true cs6, rd7, rs7, eq_true cd7, eq_true cs7, lsum, show ¬ (100 : Int32) < 0 by decide, not_false_eq_true, and_self, ↓reduceIte]
  rfl
