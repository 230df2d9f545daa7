/-! the reader: blanks, words, numbers; the class's leaves -/
def sgI (T : Nat → Nat) (n p : Nat) : Int32 := if p < n then nI (T p) else -1
def sbF (T : Nat → Nat) (n : Nat) : Nat → Nat → Nat
  | 0, p => p
  | m + 1, p => if p < n ∧ T p = 32 then sbF T n m (p + 1) else p
def sb (T : Nat → Nat) (n p : Nat) : Nat := sbF T n (n - p) p
theorem sbF_ge (T : Nat → Nat) (n : Nat) : ∀ m p, p ≤ sbF T n m p
  | 0, p => Nat.le_refl _
  | m + 1, p => by
    rw [sbF]
    split
    · exact Nat.le_trans (Nat.le_succ p) (sbF_ge T n m (p + 1))
    · exact Nat.le_refl _
theorem sbF_le (T : Nat → Nat) (n : Nat) : ∀ m p, p ≤ n → sbF T n m p ≤ n
  | 0, p, h => h
  | m + 1, p, h => by
    rw [sbF]
    split
    · rename_i q; exact sbF_le T n m (p + 1) (by omega)
    · exact h
theorem sb_ge (T : Nat → Nat) (n p : Nat) : p ≤ sb T n p := sbF_ge T n _ p
theorem sb_le {T : Nat → Nat} {n p : Nat} (h : p ≤ n) : sb T n p ≤ n := sbF_le T n _ p h
theorem sb_st {T : Nat → Nat} {n p : Nat} (h : ¬ (p < n ∧ T p = 32)) : sb T n p = p := by
  unfold sb
  generalize n - p = m
  cases m with
  | zero => rfl
  | succ m => rw [sbF, if_neg h]
theorem sbF_no (T : Nat → Nat) (n : Nat) : ∀ m p, n ≤ p + m → ¬ (sbF T n m p < n ∧ T (sbF T n m p) = 32)
  | 0, p, h => by rw [sbF]; omega
  | m + 1, p, h => by
    rw [sbF]
    split
    · exact sbF_no T n m (p + 1) (by omega)
    · assumption
theorem sb_no (T : Nat → Nat) (n p : Nat) : ¬ (sb T n p < n ∧ T (sb T n p) = 32) := sbF_no T n _ p (by omega)
theorem sb_sb (T : Nat → Nat) (n p : Nat) : sb T n (sb T n p) = sb T n p := sb_st (sb_no T n p)
def Sp (a k : Nat) : Bool := decide (a = 93 ∧ k = 3)
theorem TC_Sp {h h' : ax_H} {T : Nat → Nat} {n : Nat} (q : fr Sp h h') (t : TC h T n) : TC h' T n := ⟨t.1, (fr_I q rfl).trans t.2.1, fun i => (fr_I q rfl).trans (t.2.2 i)⟩
section
theorem z_next_0 {T : Nat → Nat} {n : Nat} (tb : ∀ i, T i < 256) : ∀ (m p : Nat) (h : ax_H), ok h → TC h T n → gI h 93 3 = nI p → n ≤ p + m → p ≤ 1000 → ∃ h', Rd_next_0 93 h = some (sgI T n (sbF T n m p), h') ∧ fr Sp h h' ∧ gI h' 93 3 = nI (sbF T n m p) := by
  intro m
  induction m with
  | zero =>
    intro p h w t hp hm hb
    obtain ⟨wS, wR, wG, wN⟩ := w
    have hle : nI n ≤ nI p := (nJ_le (by omega) (by omega)).mpr (by omega)
    refine ⟨h, ?_, fr_rf _ _, hp⟩
    rw [Rd_next_0_eq]
    simp only [wS, hp, t.2.1, hle, decide_true, ↓reduceIte]
    rw [sbF, sgI, if_neg (by omega)]
  | succ m ih =>
    intro p h w t hp hm hb
    have w0 := w
    have t0 := t
    obtain ⟨wS, wR, wG, wN⟩ := w
    obtain ⟨t1, t2, t3⟩ := t
    by_cases hpn : p < n
    · have hle : ¬ nI n ≤ nI p := by rw [nJ_le (by omega) (by omega)]; omega
      have tp : (nI p).toNatClampNeg = p := nJ_n (by omega)
      have np : ¬ nI p < 0 := nJ_nn (by omega)
      have hp4 : p < 400 := by omega
      by_cases h32 : T p = 32
      · obtain ⟨h', r1, r2, r3⟩ := ih (p + 1) (pI h 93 3 (nI (p + 1))) (ok_pI w0 _ _ _) (TC_Sp (fr_pI rfl) t0) (by rw [gI_pI, if_pos ⟨rfl, rfl⟩]) (by omega) (by omega)
        refine ⟨h', ?_, fr_tr (fr_pI rfl) r2, ?_⟩
        · rw [sbF, if_pos ⟨hpn, h32⟩, ← r1, Rd_next_0_eq 93 h]
          simp only [wS, wR, hp, t2, hle, decide_false, Bool.false_eq_true, ↓reduceIte, ax_in, tp, np, hp4, not_false_eq_true, and_self, t3, h32, show nI 32 = 32 from rfl, not_true_eq_false, nJ_p1]
        · rw [sbF, if_pos ⟨hpn, h32⟩]; exact r3
      · have hn32 : ¬ nI (T p) = 32 := by rw [show (32 : Int32) = nI 32 from rfl, nJ_eq (by have := tb p; omega) (by omega)]; exact h32
        refine ⟨h, ?_, fr_rf _ _, ?_⟩
        · rw [Rd_next_0_eq]
          simp only [wS, wR, hp, t2, hle, decide_false, Bool.false_eq_true, ↓reduceIte, ax_in, tp, np, hp4, not_false_eq_true, and_self, t3, hn32, decide_true]
          rw [sbF, if_neg (fun q => h32 q.2), sgI, if_pos hpn]
        · rw [sbF, if_neg (fun q => h32 q.2)]; exact hp
    · have hle : nI n ≤ nI p := (nJ_le (by omega) (by omega)).mpr (by omega)
      refine ⟨h, ?_, fr_rf _ _, ?_⟩
      · rw [Rd_next_0_eq]
        simp only [wS, hp, t2, hle, decide_true, ↓reduceIte]
        rw [sbF, if_neg (fun q => hpn q.1), sgI, if_neg hpn]
      · rw [sbF, if_neg (fun q => hpn q.1)]; exact hp
theorem z_next {T : Nat → Nat} {n : Nat} (tb : ∀ i, T i < 256) {h : ax_H} (w : ok h) (t : TC h T n) {p : Nat} (hp : gI h 93 3 = nI p) (hb : p ≤ 1000) : ∃ h', Rd_next 93 h = some (sgI T n (sb T n p), h') ∧ fr Sp h h' ∧ gI h' 93 3 = nI (sb T n p) := by
  rw [Rd_next_eq]
  exact z_next_0 tb (n - p) p h w t hp (by omega) hb
end
/-! words -/
def lB (T : Nat → Nat) (n p : Nat) : Bool := decide (p < n ∧ 97 ≤ T p ∧ T p ≤ 122)
def wM (T : Nat → Nat) (n : Nat) : List Nat → Nat → Bool
  | [], _ => true
  | c :: w, p => decide (p < n ∧ T p = c) && wM T n w (p + 1)
def wD (T : Nat → Nat) (n : Nat) (w : List Nat) (p : Nat) : Bool := wM T n w p && !lB T n (p + w.length)
def fW (T : Nat → Nat) (n : Nat) : List (List Nat) → Nat → Nat → Option (Nat × Nat)
  | [], _, _ => none
  | w :: l, k, p => if wD T n w p = true then some (k, p + w.length) else fW T n l (k + 1) p
/-- the class's loop over a list of words, each with a blank behind it -/
def tW (T : Nat → Nat) (n p : Nat) : List Nat → Nat → Nat → Bool → Option (Nat × Nat)
  | [], _, _, _ => none
  | c :: L, k, e, s => if c = 32 then (if (s && !lB T n e) = true then some (k, e) else tW T n p L (k + 1) p true) else tW T n p L k (e + 1) (s && decide (e < n ∧ T e = c))
def jW : List (List Nat) → List Nat
  | [] => []
  | w :: l => w ++ 32 :: jW l
theorem tW_w {T : Nat → Nat} {n p : Nat} (L : List Nat) (k : Nat) : ∀ (w : List Nat) (e : Nat) (s : Bool), (∀ c ∈ w, ¬ c = 32) → tW T n p (w ++ 32 :: L) k e s = if (s && wM T n w e && !lB T n (e + w.length)) = true then some (k, e + w.length) else tW T n p L (k + 1) p true
  | [], e, s, _ => by rw [List.nil_append, tW, if_pos rfl, wM, Bool.and_true]; rfl
  | c :: w, e, s, H => by
    rw [List.cons_append, tW, if_neg (H c List.mem_cons_self), tW_w L k w (e + 1) _ (fun x hx => H x (List.mem_cons_of_mem _ hx)), wM, List.length_cons, show e + 1 + w.length = e + (w.length + 1) by omega, Bool.and_assoc s]
theorem tW_j {T : Nat → Nat} {n p : Nat} : ∀ (l : List (List Nat)) (k : Nat), (∀ w ∈ l, ∀ c ∈ w, ¬ c = 32) → tW T n p (jW l) k p true = fW T n l k p
  | [], k, _ => rfl
  | w :: l, k, H => by
    rw [jW, tW_w _ _ w p true (H w List.mem_cons_self), tW_j l (k + 1) (fun x hx => H x (List.mem_cons_of_mem _ hx)), fW, wD, Bool.true_and]
def wsL (x : Nat) : List (List Nat) := if x = 1 then [[102, 105, 116], [104, 111, 108, 100], [99, 104, 101, 99, 107], [108, 101, 97, 118, 101], [104, 97, 110, 100]] else if x = 2 then [[101, 97, 115, 116], [110, 111, 114, 116, 104], [115, 99, 97, 108, 101], [116, 117, 114, 110], [108, 105, 103, 104, 116], [98, 101, 110, 100]] else if x = 3 then [[105, 102]] else if x = 4 then [[110, 111, 116]] else if x = 5 then [[112, 108, 97, 116, 101], [105, 115, 108, 97, 110, 100], [107, 105, 110, 100], [104, 101, 97, 116], [115, 116, 97, 114], [98, 114, 105, 103, 104, 116], [102, 97, 114], [120], [121], [100, 120], [100, 121], [119, 101, 101, 107], [104, 97, 110, 100]] else if x = 6 then [[97, 110, 100]] else [[111, 114]]
def chs (x : Nat) : List Nat := (ax_text x).toList.map Char.toNat
theorem chs_j : ∀ x, 1 ≤ x ∧ x ≤ 7 → chs x = jW (wsL x) := fun x hx => by
  have : x = 1 ∨ x = 2 ∨ x = 3 ∨ x = 4 ∨ x = 5 ∨ x = 6 ∨ x = 7 := by omega
  rcases this with rfl | rfl | rfl | rfl | rfl | rfl | rfl <;> decide +kernel
theorem wsL_l : ∀ x, 1 ≤ x ∧ x ≤ 7 → ∀ w ∈ wsL x, ∀ c ∈ w, ¬ c = 32 := fun x hx => by
  have : x = 1 ∨ x = 2 ∨ x = 3 ∨ x = 4 ∨ x = 5 ∨ x = 6 ∨ x = 7 := by omega
  rcases this with rfl | rfl | rfl | rfl | rfl | rfl | rfl <;> decide +kernel
theorem txt_len (x : Nat) : (ax_text x).length = (chs x).length := by
  unfold chs
  rw [List.length_map]
  rfl
theorem z_len {x : Nat} (hx : 1 ≤ x ∧ x ≤ 34) (h : ax_H) : Js_length x h = some (nI (chs x).length, h) := by
  show (ax_EE 0).2.1 [.ref x] h = _
  rw [ax_EE_eq, ax_sem, if_pos rfl]
  show (if 1 ≤ x ∧ x ≤ 34 then some (nI (ax_text x).length, h) else none) = _
  rw [if_pos hx, txt_len]
theorem z_chr {x : Nat} (hx : 1 ≤ x ∧ x ≤ 34) {i : Nat} (hi : i < (chs x).length) (hi2 : i < 1000) (h : ax_H) : Js_charAt x (nI i) h = some (nI ((chs x).getD i 0), h) := by
  show (ax_EE 1).2.1 [.ref x, .int (nI i)] h = _
  rw [ax_EE_eq, ax_sem, if_neg (by decide), if_pos rfl]
  show (if 1 ≤ x ∧ x ≤ 34 ∧ ¬ nI i < 0 ∧ (nI i).toNatClampNeg < (ax_text x).length then some (nI (((ax_text x).toList.map Char.toNat).getD (nI i).toNatClampNeg 0), h) else none) = _
  rw [nJ_n (by omega), if_pos ⟨hx.1, hx.2, nJ_nn (by omega), by rw [txt_len]; exact hi⟩]
  rfl
