/-! the class's turns -/
abbrev Ms : Type := Nat × Nat × Nat × Nat × List Nat × Cd
def vlP (T : Nat → Nat) (n st p c d : Nat) (W : List Nat) (E : Cd) : Sum Nat Ms :=
  if dB T n p = true then (match rdN T n 99999 p with
    | .inl f => .inl f
    | .inr r => if c + 1 ≤ 60 then .inr (st, r.2, c + 1, d, W, (0, r.1) :: E) else .inl (1 + 8 * p + 3))
  else (match fW T n (wsL 5) 0 p with
    | none => .inl (1 + 8 * p + 0)
    | some r => if c + 1 ≤ 60 then .inr (st, r.2, c + 1, d, W, (1, r.1) :: E) else .inl (1 + 8 * p + 3))
def rsl (h : ax_H) (P : Option (Int32 × ax_H)) : Sum Nat Ms → Prop
  | .inl f => ∃ h', P = some (0, h') ∧ flt h h' f
  | .inr s => ∃ h', P = some (1, h') ∧ fr Sy h h' ∧ RC h' s.1 s.2.1 s.2.2.1 s.2.2.2.1 s.2.2.2.2.1 s.2.2.2.2.2
theorem flt_y {h h1 h' : ax_H} {f : Nat} (q : fr Sx h h1) (p : flt h1 h' f) : flt h h' f := ⟨fr_tr q p.1, p.2⟩
theorem rsl_y {h h1 : ax_H} {P : Option (Int32 × ax_H)} {o : Sum Nat Ms} (q : fr Sy h h1) (p : rsl h1 P o) : rsl h P o := by
  cases o with
  | inl f =>
    obtain ⟨h', a, b⟩ := p
    exact ⟨h', a, flt_y (Sy_x q) b⟩
  | inr s =>
    obtain ⟨h', a, b, c⟩ := p
    exact ⟨h', a, fr_tr q b, c⟩
/-- a 0 or a 1 is handed on -/
theorem rsl_01 {h : ax_H} {P : Option (Int32 × ax_H)} {o : Sum Nat Ms} (p : rsl h P o) : rsl h (P.bind fun r => if r.1 = 0 ∨ r.1 = 1 then some (r.1, r.2) else none) o := by
  cases o with
  | inl f =>
    obtain ⟨h', a, b⟩ := p
    exact ⟨h', by rw [bnd a]; exact if_pos (Or.inl rfl), b⟩
  | inr s =>
    obtain ⟨h', a, b, c⟩ := p
    exact ⟨h', by rw [bnd a]; exact if_pos (Or.inr rfl), b, c⟩
theorem fW_lt (T : Nat → Nat) (n : Nat) : ∀ (l : List (List Nat)) (k p : Nat) (r : Nat × Nat), fW T n l k p = some r → k ≤ r.1 ∧ r.1 < k + l.length
  | [], k, p, r, h => by cases h
  | w :: l, k, p, r, h => by
    rw [fW] at h
    rw [List.length_cons]
    split at h
    · injection h with h
      rw [← h]
      show k ≤ k ∧ k < _
      omega
    · have := fW_lt T n l (k + 1) p r h
      omega
theorem rd_lt {T : Nat → Nat} {n most p : Nat} {r : Nat × Nat} (hp : p ≤ n) (h : rdN T n most p = .inr r) : r.1 < 100000 ∧ r.1 ≤ most ∧ p < r.2 ∧ r.2 ≤ n := by
  obtain ⟨b1, b2, b3, b4⟩ := nm_b T n (n - p) p 0 0 hp (by unfold vk; omega)
  unfold rdN at h
  generalize nmF T n (n - p) p 0 0 = q at *
  split at h
  · cases h
  · split at h
    · cases h
    · injection h with h
      rw [← h]
      have := b3.2.2.2.2.2
      show q.2.2 < _ ∧ q.2.2 ≤ _ ∧ p < q.1 ∧ q.1 ≤ n
      omega
theorem z_rv {h : ax_H} (w : ok h) {st p c d : Nat} {W : List Nat} {E : Cd} (r : RC h st p c d W E) (hE : E.length < 400) (hc : c ≤ 60) {o v : Nat} (ho : o < 16) (hv : v < 100000) {k1 : Int32} (h1 : (o = 1 ∧ k1 = 0) ∨ (o = 0 ∧ k1 = 1)) (b : Nat) : rsl h (Rd_readValue_32 (nI v) 93 k1 (nI b) h) (if c + 1 ≤ 60 then .inr (st, p, c + 1, d, W, (o, v) :: E) else .inl (1 + 8 * b + 3)) := by
  have s0 : (gS h 93).1 = 6 := by obtain ⟨wS, wR, wG, wN⟩ := w; simp only [wS]
  have nm : ¬ nI v = -1 := nI_neg1 (by omega)
  have go : ∀ o' : Int32, o' = nI o → rsl h ((Rd_step 93 o' (nI v) h).bind (fun h1 => if (gS h1 93).1 = 6 then (Rd_countOneMore 93 (nI b) h1).bind (fun r2 => if r2.1 = 0 ∨ r2.1 = 1 then some (r2.1, r2.2) else none) else none)) (if c + 1 ≤ 60 then .inr (st, p, c + 1, d, W, (o, v) :: E) else .inl (1 + 8 * b + 3)) := by
    intro o' eo
    obtain ⟨h1, a1, a2, a3⟩ := z_step w r hE ho hv (o' := o') (v' := nI v) eo rfl
    have w1 := ok_fr a2 w
    have s1 : (gS h1 93).1 = 6 := by obtain ⟨wS, wR, wG, wN⟩ := w1; simp only [wS]
    rw [bnd a1, if_pos s1]
    refine rsl_y a2 (rsl_01 ?_)
    obtain ⟨c1, c2⟩ := z_count w1 a3 hc b
    by_cases q : c + 1 ≤ 60
    · rw [if_pos q]; exact c1 q
    · rw [if_neg q]; exact c2 q
  rw [Rd_readValue_32_eq, if_pos (decide_eq_true nm)]
  rcases h1 with ⟨h1, h2⟩ | ⟨h1, h2⟩
  · rw [if_pos (decide_eq_true h2), if_pos s0]
    exact go 1 (by rw [h1]; rfl)
  · rw [if_neg (by rw [h2]; decide), if_pos s0]
    exact go 0 (by rw [h1]; rfl)
section
theorem z_readValue {T : Nat → Nat} {n : Nat} (tb : ∀ i, T i < 256) {h : ax_H} (w : ok h) (t : TC h T n) {st p c d : Nat} {W : List Nat} {E : Cd} (r : RC h st p c d W E) (hp : p ≤ n) (hE : E.length < 400) (hc : c ≤ 60) (hb : sb T n p = p) : rsl h (Rd_readValue 93 h) (vlP T n st p c d W E) := by
  have t1 := t.1
  have s0 : (gS h 93).1 = 6 := by obtain ⟨wS, wR, wG, wN⟩ := w; simp only [wS]
  obtain ⟨h1, a1, a2, a3⟩ := z_next tb w t r.1.2.1 (by omega)
  rw [hb] at a1 a3
  have w1 := ok_fr a2 w
  have t1' := TC_Sp a2 t
  have r1 := RC_Sp r a2 a3
  have s1 : (gS h1 93).1 = 6 := by obtain ⟨wS, wR, wG, wN⟩ := w1; simp only [wS]
  have dg : Rd_isDigit (sgI T n p) h1 = some (bB (dB T n p), h1) := by
    unfold sgI dB
    by_cases q : p < n
    · rw [if_pos q, z_isDigit (tb p)]
      by_cases q2 : 48 ≤ T p ∧ T p ≤ 57
      · rw [bI, if_pos q2, show decide (p < n ∧ 48 ≤ T p ∧ T p ≤ 57) = true from decide_eq_true ⟨q, q2⟩]; rfl
      · rw [bI, if_neg q2, show decide (p < n ∧ 48 ≤ T p ∧ T p ≤ 57) = false from decide_eq_false (fun z => q2 z.2)]; rfl
    · rw [if_neg q, show decide (p < n ∧ 48 ≤ T p ∧ T p ≤ 57) = false from decide_eq_false (fun z => q z.1), Rd_isDigit_eq]
      exact if_pos (by decide)
  rw [Rd_readValue_eq, if_pos s0, bnd a1]
  show rsl h ((Rd_isDigit (sgI T n p) h1).bind _) _
  rw [bnd dg]
  simp only [s1, ↓reduceIte, a3]
  refine rsl_y (Sp_y a2) ?_
  unfold vlP
  cases hd : dB T n p with
  | true =>
    simp only [show ¬ bB true = 0 by decide, decide_false, Bool.false_eq_true, ↓reduceIte]
    obtain ⟨n1, n2⟩ := z_readNumber tb w1 t1' a3 hp (most := 99999) (by omega)
    cases hr : rdN T n 99999 p with
    | inl f =>
      obtain ⟨h2, b1, b2⟩ := n1 f hr
      have b1' : Rd_readNumber 93 99999 h1 = some (-1, h2) := b1
      rw [bnd b1']
      refine ⟨h2, ?_, b2⟩
      rw [Rd_readValue_32_eq]
      rfl
    | inr q =>
      obtain ⟨h2, b1, b2, b3⟩ := n2 q hr
      have b1' : Rd_readNumber 93 99999 h1 = some (nI q.1, h2) := b1
      rw [bnd b1']
      exact rsl_y (Sp_y b2) (z_rv (ok_fr b2 w1) (RC_Sp r1 b2 b3) hE hc (o := 0) (by omega) (rd_lt hp hr).1 (Or.inr ⟨rfl, rfl⟩) p)
  | false =>
    simp only [show bB false = 0 from rfl, decide_true, Bool.false_eq_true, ↓reduceIte]
    obtain ⟨h2, b1, b2, b3⟩ := z_takeWord tb (x := 5) (by omega) w1 t1' a3 (by omega)
    rw [bnd b1]
    have w2 := ok_fr b2 w1
    refine rsl_y (Sp_y b2) ?_
    cases hf : fW T n (wsL 5) 0 p with
    | none =>
      have s2 : (gS h2 93).1 = 6 := by obtain ⟨wS, wR, wG, wN⟩ := w2; simp only [wS]
      refine ⟨_, ?_, fr_pI rfl, by rw [gI_pI, if_pos ⟨rfl, rfl⟩]⟩
      show Rd_readValue_32 (-1) 93 0 (nI p) h2 = _
      rw [Rd_readValue_32_eq]
      simp only [not_true_eq_false, decide_false, Bool.false_eq_true, decide_true, ↓reduceIte, s2]
      rw [bnd (z_fail w2 p 0 (c' := 0) rfl)]
      rfl
    | some q =>
      rw [hf] at b3
      have := fW_lt T n (wsL 5) 0 p q hf
      exact z_rv w2 (RC_Sp r1 b2 b3) hE hc (o := 1) (by omega) (by have e : (wsL 5).length = 13 := rfl; omega) (Or.inl ⟨rfl, rfl⟩) p
end
