/-! PART B: THE STATE THAT STAYS, by the class's addresses of the live book -/
abbrev inI (x : Int32) (lo hi : Int) : Prop := lo ≤ x.toInt ∧ x.toInt ≤ hi
abbrev BV : Type := Nat → Nat → Int32
def V (h : ax_H) : BV := fun a k => if 65 ≤ a ∧ a ≤ 90 then gI h a k else 0
theorem cV65 (h : ax_H) (k : Nat) : gI h 65 k = V h 65 k := rfl
theorem cV66 (h : ax_H) (k : Nat) : gI h 66 k = V h 66 k := rfl
theorem cV67 (h : ax_H) (k : Nat) : gI h 67 k = V h 67 k := rfl
theorem cV68 (h : ax_H) (k : Nat) : gI h 68 k = V h 68 k := rfl
theorem cV69 (h : ax_H) (k : Nat) : gI h 69 k = V h 69 k := rfl
theorem cV70 (h : ax_H) (k : Nat) : gI h 70 k = V h 70 k := rfl
theorem cV71 (h : ax_H) (k : Nat) : gI h 71 k = V h 71 k := rfl
theorem cV72 (h : ax_H) (k : Nat) : gI h 72 k = V h 72 k := rfl
theorem cV73 (h : ax_H) (k : Nat) : gI h 73 k = V h 73 k := rfl
theorem cV74 (h : ax_H) (k : Nat) : gI h 74 k = V h 74 k := rfl
theorem cV75 (h : ax_H) (k : Nat) : gI h 75 k = V h 75 k := rfl
theorem cV76 (h : ax_H) (k : Nat) : gI h 76 k = V h 76 k := rfl
theorem cV77 (h : ax_H) (k : Nat) : gI h 77 k = V h 77 k := rfl
theorem cV78 (h : ax_H) (k : Nat) : gI h 78 k = V h 78 k := rfl
theorem cV79 (h : ax_H) (k : Nat) : gI h 79 k = V h 79 k := rfl
theorem cV80 (h : ax_H) (k : Nat) : gI h 80 k = V h 80 k := rfl
theorem cV81 (h : ax_H) (k : Nat) : gI h 81 k = V h 81 k := rfl
theorem cV82 (h : ax_H) (k : Nat) : gI h 82 k = V h 82 k := rfl
theorem cV83 (h : ax_H) (k : Nat) : gI h 83 k = V h 83 k := rfl
theorem cV84 (h : ax_H) (k : Nat) : gI h 84 k = V h 84 k := rfl
theorem cV85 (h : ax_H) (k : Nat) : gI h 85 k = V h 85 k := rfl
theorem cV86 (h : ax_H) (k : Nat) : gI h 86 k = V h 86 k := rfl
theorem cV87 (h : ax_H) (k : Nat) : gI h 87 k = V h 87 k := rfl
theorem cV88 (h : ax_H) (k : Nat) : gI h 88 k = V h 88 k := rfl
theorem cV89 (h : ax_H) (k : Nat) : gI h 89 k = V h 89 k := rfl
theorem cV90 (h : ax_H) (k : Nat) : gI h 90 k = V h 90 k := rfl
/-- the reference's live rows are the class's -/
def EQ (h : ax_H) : Prop := gI h 159 1 = V h 65 0 ∧ gI h 159 2 = V h 66 0 ∧ gI h 159 3 = V h 70 0 ∧ gI h 159 4 = V h 74 0 ∧ gI h 159 20 = V h 65 4 ∧ gI h 159 59 = V h 65 6 ∧ gI h 159 63 = V h 65 10 ∧
  (∀ k, gI h 160 k = V h 67 k) ∧ (∀ k, gI h 161 k = V h 68 k) ∧ (∀ k, gI h 162 k = V h 69 k) ∧ (∀ k, gI h 163 k = V h 71 k) ∧ (∀ k, gI h 164 k = V h 72 k) ∧ (∀ k, gI h 165 k = V h 73 k) ∧
  (∀ k, gI h 166 k = V h 75 k) ∧ (∀ k, gI h 167 k = V h 76 k) ∧ (∀ k, gI h 168 k = V h 77 k) ∧ (∀ k, gI h 169 k = V h 78 k) ∧ (∀ k, gI h 170 k = V h 79 k) ∧ (∀ k, gI h 171 k = V h 80 k) ∧
  (∀ k, gI h 197 k = V h 83 k) ∧ (∀ k, gI h 199 k = V h 84 k) ∧ (∀ k, gI h 198 k = V h 85 k) ∧ (∀ k, gI h 200 k = V h 86 k) ∧ (∀ k, gI h 201 k = V h 87 k) ∧ (∀ k, gI h 202 k = V h 88 k) ∧ (∀ k, gI h 203 k = V h 89 k) ∧
  (∀ k, k < 8 → V h 90 k = if gI h 196 k = -1 then 10000 else gI h 196 k)
abbrev nS (V : BV) : Nat := (V 66 0).toInt.toNat
abbrev nP (V : BV) : Nat := (V 70 0).toInt.toNat
abbrev nM (V : BV) : Nat := (V 74 0).toInt.toNat
abbrev nW' (V : BV) : Nat := (V 65 4).toInt.toNat
abbrev nD (V : BV) : Nat := (V 65 6).toInt.toNat
abbrev nF (V : BV) : Nat := (V 65 10).toInt.toNat
abbrev sameK (V : BV) (i j : Nat) : Prop := V 75 i = V 75 j ∧ V 76 i = V 76 j ∧ V 77 i = V 77 j
def GI (V : BV) : Prop := (∀ i, i < nM V → inI (V 75 i) 0 ((V 70 0).toInt - 1) ∧ inI (V 76 i) 0 ((V 66 0).toInt - 1) ∧ inI (V 77 i) 0 7 ∧ inI (V 78 i) (-299) 299 ∧ inI (V 79 i) (-299) 299 ∧ inI (V 80 i) 0 (V 65 0).toInt) ∧
  (∀ i j, i < j → j < nM V → (V 80 i).toInt ≤ (V 80 j).toInt) ∧
  (∀ i, i < nM V → (V 81 i = 10000 ∧ ∀ k, i < k → k < nM V → ¬ sameK V i k) ∨ ∃ j, i < j ∧ j < nM V ∧ sameK V i j ∧ V 81 i = V 80 j ∧ ∀ k, i < k → k < j → ¬ sameK V i k)
def GS (V : BV) : Prop := ∀ s, s < nS V → inI (V 67 s) (-9) 9 ∧ inI (V 68 s) (-9) 9 ∧ ¬ (V 67 s = 0 ∧ V 68 s = 0) ∧ inI (V 69 s) 0 99
def GP (V : BV) : Prop := ∀ p, p < nP V → inI (V 71 p) 0 3 ∧ inI (V 72 p) 0 2 ∧ inI (V 73 p) 0 99
def GD (V : BV) : Prop := ∀ j, j < nD V → inI (V 83 j) 0 ((V 65 4).toInt - 1) ∧ inI (V 84 j) 0 (V 65 0).toInt ∧ inI (V 85 j) (-99999) 99999
def GF (V : BV) : Prop := ∀ j, j < nF V → inI (V 86 j) 1 99 ∧ inI (V 87 j) 0 1073741823
def GK (V : BV) : Prop := (∀ j, j < 24 → inI (V 88 j) (-9999) 9999 ∧ inI (V 89 j) (-99) 99) ∧ ∀ j, j < 8 → inI (V 90 j) 0 10000
/-- counts -/
def GC (V : BV) : Prop := inI (V 65 0) 0 9999 ∧ inI (V 66 0) 0 30 ∧ inI (V 70 0) 0 16 ∧ inI (V 74 0) 0 100 ∧ inI (V 65 4) 0 10 ∧ inI (V 65 6) 0 40 ∧ inI (V 65 10) 0 9
def GV (V : BV) : Prop := GC V ∧ GS V ∧ GP V ∧ GI V ∧ GD V ∧ GF V ∧ GK V
def I0 (h : ax_H) : Prop := ok h ∧ EQ h ∧ GV (V h)
theorem nI_nM {V : BV} (h : inI (V 74 0) 0 100) : V 74 0 = nI (nM V) := nJ_of h.1
theorem nI_nS {V : BV} (h : inI (V 66 0) 0 30) : V 66 0 = nI (nS V) := nJ_of h.1
theorem nI_nP {V : BV} (h : inI (V 70 0) 0 16) : V 70 0 = nI (nP V) := nJ_of h.1
theorem nI_nD {V : BV} (h : inI (V 65 6) 0 40) : V 65 6 = nI (nD V) := nJ_of h.1
theorem nI_nF {V : BV} (h : inI (V 65 10) 0 9) : V 65 10 = nI (nF V) := nJ_of h.1
theorem nI_nW {V : BV} (h : inI (V 65 4) 0 10) : V 65 4 = nI (nW' V) := nJ_of h.1
theorem cnts {V : BV} (g : GC V) : (V 66 0).toInt = (nS V : Int) ∧ nS V ≤ 30 ∧ (V 70 0).toInt = (nP V : Int) ∧ nP V ≤ 16 ∧ (V 74 0).toInt = (nM V : Int) ∧ nM V ≤ 100 ∧ (V 65 6).toInt = (nD V : Int) ∧ nD V ≤ 40 ∧ (V 65 10).toInt = (nF V : Int) ∧ nF V ≤ 9 ∧ (V 65 4).toInt = (nW' V : Int) ∧ nW' V ≤ 10 := by
  obtain ⟨-, g1, g2, g3, g4, g5, g6⟩ := g
  unfold nS nP nM nD nF nW'
  omega
/-- an int within is a small number -/
theorem nI_ex {x : Int32} {n : Int} (h : 0 ≤ x.toInt ∧ x.toInt ≤ n) : ∃ j : Nat, x = nI j ∧ (j : Int) ≤ n ∧ j < 2147483648 ∧ x.toInt = j := by
  have := Int32.toInt_lt x
  exact ⟨x.toInt.toNat, nJ_of h.1, by omega, by omega, by omega⟩
/-- frames of what stays: the class's scratch, the reference's scratch -/
def Sc (a _k : Nat) : Bool := decide (91 ≤ a ∧ a ≤ 158 ∧ ¬ (93 ≤ a ∧ a ≤ 98))
def Sm (a k : Nat) : Bool := decide ((181 ≤ a ∧ a ≤ 195) ∨ (a = 159 ∧ (k = 18 ∨ k = 19 ∨ (21 ≤ k ∧ k ≤ 25) ∨ (49 ≤ k ∧ k ≤ 58) ∨ k = 66 ∨ k = 69)))
theorem Sc_lo {a k : Nat} (h : a ≤ 90) : Sc a k = false := by simp only [Sc, decide_eq_false_iff_not]; omega
theorem Sc_hi {a k : Nat} (h : 159 ≤ a) : Sc a k = false := by simp only [Sc, decide_eq_false_iff_not]; omega
theorem Sm_lo {a k : Nat} (h : a ≤ 158) : Sm a k = false := by simp only [Sm, decide_eq_false_iff_not]; omega
theorem V_fr {S : Nat → Nat → Bool} {h h' : ax_H} (q : fr S h h') (z : ∀ a k, 65 ≤ a → a ≤ 90 → S a k = false) : V h' = V h := by
  funext a k
  unfold V
  split
  · rename_i hc
    exact fr_I q (z a k hc.1 hc.2)
  · rfl
theorem V_frc {h h' : ax_H} (q : fr Sc h h') : V h' = V h := V_fr q fun _ _ _ b => Sc_lo b
theorem V_frm {h h' : ax_H} (q : fr Sm h h') : V h' = V h := V_fr q fun _ _ _ b => Sm_lo (by omega)
theorem EQ_frc {h h' : ax_H} (q : fr Sc h h') (e : EQ h) : EQ h' := by
  have hI : ∀ a k, 159 ≤ a → gI h' a k = gI h a k := fun a k z => fr_I q (Sc_hi z)
  unfold EQ at e ⊢
  rw [V_frc q]
  simp (disch := decide) only [hI]
  exact e
theorem EQ_frm {h h' : ax_H} (q : fr Sm h h') (e : EQ h) : EQ h' := by
  have hI : ∀ a k, Sm a k = false → gI h' a k = gI h a k := fun a k z => fr_I q z
  unfold EQ at e ⊢
  rw [V_frm q]
  have r1 : ∀ a, 159 < a → a < 181 → ∀ k, gI h' a k = gI h a k := fun a h1 h2 k => hI a k (by simp only [Sm, decide_eq_false_iff_not]; omega)
  have r2 : ∀ a, 195 < a → ∀ k, gI h' a k = gI h a k := fun a h1 k => hI a k (by simp only [Sm, decide_eq_false_iff_not]; omega)
  simp (disch := decide) only [hI, r1, r2]
  exact e
theorem I0_frc {h h' : ax_H} (q : fr Sc h h') (i : I0 h) : I0 h' := ⟨ok_fr q i.1, EQ_frc q i.2.1, by rw [V_frc q]; exact i.2.2⟩
theorem I0_frm {h h' : ax_H} (q : fr Sm h h') (i : I0 h) : I0 h' := ⟨ok_fr q i.1, EQ_frm q i.2.1, by rw [V_frm q]; exact i.2.2⟩
