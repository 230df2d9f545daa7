/-! tests: codes, types of what stands on the stack (0: a truth, n: a sum of n values), values -/
abbrev Cd : Type := List (Nat × Nat)
def tyR (e : Nat × Nat) (ts ts' : List Nat) : Prop := (e.1 = 0 ∧ e.2 ≤ 99999 ∧ ts' = 1 :: ts) ∨ (e.1 = 1 ∧ e.2 < 13 ∧ ts' = 1 :: ts) ∨ (e.1 = 9 ∧ e.2 = 0 ∧ ∃ r, ts = 0 :: r ∧ ts' = 0 :: r) ∨ ∃ a b r, e.2 = 0 ∧ ts = b :: a :: r ∧ (((e.1 = 2 ∨ e.1 = 3) ∧ 0 < a ∧ 0 < b ∧ ts' = (a + b) :: r) ∨ (4 ≤ e.1 ∧ e.1 ≤ 8 ∧ 0 < a ∧ 0 < b ∧ ts' = 0 :: r) ∨ ((e.1 = 10 ∨ e.1 = 11) ∧ a = 0 ∧ b = 0 ∧ ts' = 0 :: r))
def tyL : Cd → List Nat → List Nat → Prop
  | [], ts, ts' => ts = ts'
  | e :: cs, ts, ts' => ∃ t1, tyR e ts t1 ∧ tyL cs t1 ts'
def pu (e : Nat × Nat) : Nat := if e.1 ≤ 1 then 1 else 0
def npu : Cd → Nat
  | [] => 0
  | e :: cs => pu e + npu cs
def bz (o : Nat) (a b : Int) : Int := if o = 2 then a + b else if o = 3 then a - b else if o = 4 then (if a < b then 1 else 0) else if o = 5 then (if a ≤ b then 1 else 0) else if o = 6 then (if a = b then 1 else 0) else if o = 7 then (if b ≤ a then 1 else 0) else if o = 8 then (if b < a then 1 else 0) else if o = 10 then (if a = 1 ∧ b = 1 then 1 else 0) else (if a = 1 ∨ b = 1 then 1 else 0)
def evS (ask : Nat → Int) (e : Nat × Nat) (s : List Int) : List Int := if e.1 = 0 then (e.2 : Int) :: s else if e.1 = 1 then ask e.2 :: s else if e.1 = 9 then (match s with
  | x :: r => (1 - x) :: r
  | [] => []) else (match s with
  | b :: a :: r => bz e.1 a b :: r
  | s => s)
def evL (ask : Nat → Int) : Cd → List Int → List Int
  | [], s => s
  | e :: cs, s => evL ask cs (evS ask e s)
def vt1 (v : Int) (t : Nat) : Prop := if t = 0 then v = 0 ∨ v = 1 else -(99999 * (t : Int)) ≤ v ∧ v ≤ 99999 * (t : Int)
def vtP : List Int → List Nat → Prop
  | [], [] => True
  | v :: s, t :: r => vt1 v t ∧ vtP s r
  | _, _ => False
theorem vt_c {s : List Int} {t : Nat} {r : List Nat} (h : vtP s (t :: r)) : ∃ x q, s = x :: q ∧ vt1 x t ∧ vtP q r := by
  match s, h with
  | x :: q, h => exact ⟨x, q, rfl, h.1, h.2⟩
theorem vt_len : ∀ {s : List Int} {ts : List Nat}, vtP s ts → s.length = ts.length
  | [], [], _ => rfl
  | _ :: _, _ :: _, h => by rw [List.length_cons, List.length_cons, vt_len h.2]
theorem vt_pos {v : Int} {t : Nat} (h : 0 < t) : vt1 v t ↔ -(99999 * (t : Int)) ≤ v ∧ v ≤ 99999 * (t : Int) := by unfold vt1; rw [if_neg (by omega)]
theorem vt_0 {v : Int} : vt1 v 0 ↔ v = 0 ∨ v = 1 := by unfold vt1; rw [if_pos rfl]
theorem bz_b {o : Nat} (h : 4 ≤ o) (a b : Int) : bz o a b = 0 ∨ bz o a b = 1 := by
  unfold bz
  rw [if_neg (by omega), if_neg (by omega)]
  by_cases h1 : o = 4
  · rw [if_pos h1]; split <;> simp
  rw [if_neg h1]
  by_cases h1 : o = 5
  · rw [if_pos h1]; split <;> simp
  rw [if_neg h1]
  by_cases h1 : o = 6
  · rw [if_pos h1]; split <;> simp
  rw [if_neg h1]
  by_cases h1 : o = 7
  · rw [if_pos h1]; split <;> simp
  rw [if_neg h1]
  by_cases h1 : o = 8
  · rw [if_pos h1]; split <;> simp
  rw [if_neg h1]
  by_cases h1 : o = 10
  · rw [if_pos h1]; split <;> simp
  rw [if_neg h1]
  split <;> simp
theorem ev_bin {ask : Nat → Int} {e : Nat × Nat} (h : 2 ≤ e.1) (h9 : e.1 ≠ 9) (a b : Int) (r : List Int) : evS ask e (b :: a :: r) = bz e.1 a b :: r := by
  unfold evS
  rw [if_neg (by omega), if_neg (by omega), if_neg h9]
theorem ev_not {ask : Nat → Int} {e : Nat × Nat} (h9 : e.1 = 9) (x : Int) (r : List Int) : evS ask e (x :: r) = (1 - x) :: r := by
  unfold evS
  rw [if_neg (by omega), if_neg (by omega), if_pos h9]
theorem vt_step {ask : Nat → Int} (ha : ∀ w, w < 13 → -99999 ≤ ask w ∧ ask w ≤ 99999) {e : Nat × Nat} {ts ts' : List Nat} (ht : tyR e ts ts') {s : List Int} (hv : vtP s ts) : vtP (evS ask e s) ts' := by
  rcases ht with ⟨h1, h2, rfl⟩ | ⟨h1, h2, rfl⟩ | ⟨h1, -, r, rfl, rfl⟩ | ⟨a, b, r, -, rfl, h⟩
  · unfold evS
    rw [if_pos h1]
    exact ⟨(vt_pos (by omega)).mpr (by omega), hv⟩
  · unfold evS
    rw [if_neg (by omega), if_pos h1]
    exact ⟨(vt_pos (by omega)).mpr (by have := ha _ h2; omega), hv⟩
  · obtain ⟨x, q, rfl, h3, h4⟩ := vt_c hv
    rw [ev_not h1]
    refine ⟨?_, h4⟩
    rw [vt_0] at h3 ⊢
    omega
  · obtain ⟨y, q, rfl, h3, h4⟩ := vt_c hv
    obtain ⟨x, q, rfl, h5, h6⟩ := vt_c h4
    rcases h with ⟨h1, ha0, hb0, rfl⟩ | ⟨h1, h2, ha0, hb0, rfl⟩ | ⟨h1, rfl, rfl, rfl⟩
    · rw [ev_bin (by omega) (by omega)]
      refine ⟨?_, h6⟩
      rw [vt_pos ha0] at h5
      rw [vt_pos hb0] at h3
      rw [vt_pos (by omega)]
      unfold bz
      rcases h1 with h1 | h1
      · rw [if_pos h1]; omega
      · rw [if_neg (by omega), if_pos h1]; omega
    · rw [ev_bin (by omega) (by omega)]
      exact ⟨vt_0.mpr (bz_b h1 _ _), h6⟩
    · rw [ev_bin (by omega) (by omega)]
      exact ⟨vt_0.mpr (bz_b (by omega) _ _), h6⟩
theorem ty_bd {e : Nat × Nat} {ts ts' : List Nat} (ht : tyR e ts ts') : ts'.sum ≤ ts.sum + pu e ∧ ts'.length ≤ ts.length + pu e := by
  unfold pu
  rcases ht with ⟨h1, h2, rfl⟩ | ⟨h1, h2, rfl⟩ | ⟨h1, -, r, rfl, rfl⟩ | ⟨a, b, r, -, rfl, h⟩
  · rw [if_pos (by omega), List.sum_cons, List.length_cons]; omega
  · rw [if_pos (by omega), List.sum_cons, List.length_cons]; omega
  · omega
  · rcases h with ⟨h1, ha0, hb0, rfl⟩ | ⟨h1, h2, ha0, hb0, rfl⟩ | ⟨h1, rfl, rfl, rfl⟩ <;> simp only [List.sum_cons, List.length_cons] <;> omega
theorem ev_fr {ask : Nat → Int} {e : Nat × Nat} {ts ts' : List Nat} (ht : tyR e ts ts') {s : List Int} (hv : vtP s ts) (c : List Int) : evS ask e (s ++ c) = evS ask e s ++ c := by
  rcases ht with ⟨h1, h2, rfl⟩ | ⟨h1, h2, rfl⟩ | ⟨h1, -, r, rfl, rfl⟩ | ⟨a, b, r, -, rfl, h⟩
  · unfold evS
    rw [if_pos h1, if_pos h1]
    rfl
  · unfold evS
    rw [if_neg (by omega), if_pos h1, if_neg (by omega), if_pos h1]
    rfl
  · obtain ⟨x, q, rfl, h3, h4⟩ := vt_c hv
    rw [List.cons_append, ev_not h1, ev_not h1]
    rfl
  · obtain ⟨y, q, rfl, h3, h4⟩ := vt_c hv
    obtain ⟨x, q, rfl, h5, h6⟩ := vt_c h4
    have h9 : 2 ≤ e.1 ∧ e.1 ≠ 9 := by omega
    rw [List.cons_append, List.cons_append, ev_bin h9.1 h9.2, ev_bin h9.1 h9.2]
    rfl
theorem evL_fr {ask : Nat → Int} (ha : ∀ w, w < 13 → -99999 ≤ ask w ∧ ask w ≤ 99999) : ∀ (cs : Cd) {ts ts' : List Nat}, tyL cs ts ts' → ∀ {s : List Int}, vtP s ts → (∀ c, evL ask cs (s ++ c) = evL ask cs s ++ c) ∧ vtP (evL ask cs s) ts'
  | [], ts, ts', h, s, hv => ⟨fun _ => rfl, by rw [← (show ts = ts' from h)]; exact hv⟩
  | e :: cs, ts, ts', ⟨t1, h1, h2⟩, s, hv => by
    obtain ⟨a, b⟩ := evL_fr ha cs h2 (vt_step ha h1 hv)
    refine ⟨fun c => ?_, b⟩
    show evL ask cs (evS ask e (s ++ c)) = evL ask cs (evS ask e s) ++ c
    rw [ev_fr h1 hv, a]
def tOk (T : Cd) : Prop := tyL T [] [0]
/-- what a test gives -/
def bT (ask : Nat → Int) (T : Cd) : Int := (evL ask T []).headD 0
theorem bT_ev {ask : Nat → Int} (ha : ∀ w, w < 13 → -99999 ≤ ask w ∧ ask w ≤ 99999) {T : Cd} (h : tOk T) (c : List Int) : evL ask T c = bT ask T :: c ∧ (bT ask T = 0 ∨ bT ask T = 1) := by
  obtain ⟨a, b⟩ := evL_fr ha T h (s := []) trivial
  have a1 := a c
  rw [List.nil_append] at a1
  obtain ⟨x, q, e, h1, h2⟩ := vt_c b
  match q, h2 with
  | [], _ =>
    rw [a1]
    unfold bT
    rw [e]
    exact ⟨rfl, vt_0.mp h1⟩
theorem evL_app (ask : Nat → Int) : ∀ (a b : Cd) (s : List Int), evL ask (a ++ b) s = evL ask b (evL ask a s)
  | [], _, _ => rfl
  | e :: a, b, s => evL_app ask a b (evS ask e s)
theorem tyL_app : ∀ (a b : Cd) {ts t1 ts' : List Nat}, tyL a ts t1 → tyL b t1 ts' → tyL (a ++ b) ts ts'
  | [], _, _, _, _, h1, h2 => by rw [show _ = _ from h1]; exact h2
  | _ :: a, b, _, _, _, ⟨t, h1, h2⟩, h3 => ⟨t, h1, tyL_app a b h2 h3⟩
theorem tyR_fr {e : Nat × Nat} {ts ts' : List Nat} (h : tyR e ts ts') (c : List Nat) : tyR e (ts ++ c) (ts' ++ c) := by
  rcases h with ⟨h1, h2, rfl⟩ | ⟨h1, h2, rfl⟩ | ⟨h1, h0, r, rfl, rfl⟩ | ⟨a, b, r, h0, rfl, h⟩
  · exact Or.inl ⟨h1, h2, rfl⟩
  · exact Or.inr (Or.inl ⟨h1, h2, rfl⟩)
  · exact Or.inr (Or.inr (Or.inl ⟨h1, h0, r ++ c, rfl, rfl⟩))
  · refine Or.inr (Or.inr (Or.inr ⟨a, b, r ++ c, h0, rfl, ?_⟩))
    rcases h with ⟨h1, ha0, hb0, rfl⟩ | ⟨h1, h2, ha0, hb0, rfl⟩ | ⟨h1, ha0, hb0, rfl⟩
    · exact Or.inl ⟨h1, ha0, hb0, rfl⟩
    · exact Or.inr (Or.inl ⟨h1, h2, ha0, hb0, rfl⟩)
    · exact Or.inr (Or.inr ⟨h1, ha0, hb0, rfl⟩)
theorem tyL_fr : ∀ (a : Cd) {ts ts' : List Nat} (_ : tyL a ts ts') (c : List Nat), tyL a (ts ++ c) (ts' ++ c)
  | [], _, _, h, c => by rw [show _ = _ from h]; rfl
  | _ :: a, _, _, ⟨t, h1, h2⟩, c => ⟨t ++ c, tyR_fr h1 c, tyL_fr a h2 c⟩
theorem npu_app : ∀ (a b : Cd), npu (a ++ b) = npu a + npu b
  | [], b => by rw [List.nil_append, npu, Nat.zero_add]
  | e :: a, b => by rw [List.cons_append, npu, npu, npu_app a b]; omega
/-- the class's steps: all tests, joined by or -/
def jn2 : List Cd → Cd
  | [] => []
  | T :: r => T ++ (11, 0) :: jn2 r
def jnT : List Cd → Cd
  | [] => []
  | T :: r => T ++ jn2 r
def npT : List Cd → Nat
  | [] => 0
  | T :: r => npu T + npT r
theorem jn2_n : ∀ (L : List Cd), npu (jn2 L) = npT L
  | [] => rfl
  | T :: r => by rw [jn2, npu_app, npu, jn2_n r, npT]; show _ + (0 + _) = _; omega
theorem jnT_n : ∀ (L : List Cd), npu (jnT L) = npT L
  | [] => rfl
  | T :: r => by rw [jnT, npu_app, jn2_n r, npT]
theorem jn2_ty : ∀ (L : List Cd), (∀ T ∈ L, tOk T) → tyL (jn2 L) [0] [0]
  | [], _ => rfl
  | T :: r, h => tyL_app T _ (tyL_fr T (h T List.mem_cons_self) [0]) ⟨[0], Or.inr (Or.inr (Or.inr ⟨0, 0, [], rfl, rfl, Or.inr (Or.inr ⟨Or.inr rfl, rfl, rfl, rfl⟩)⟩)), jn2_ty r fun T' h' => h T' (List.mem_cons_of_mem _ h')⟩
theorem jnT_ty {T : Cd} {r : List Cd} (h : ∀ T' ∈ T :: r, tOk T') : tyL (jnT (T :: r)) [] [0] := tyL_app T _ (h T List.mem_cons_self) (jn2_ty r fun T' h' => h T' (List.mem_cons_of_mem _ h'))
def anT (ask : Nat → Int) (L : List Cd) : Bool := L.any fun T => decide (bT ask T = 1)
theorem jn2_ev {ask : Nat → Int} (ha : ∀ w, w < 13 → -99999 ≤ ask w ∧ ask w ≤ 99999) : ∀ (L : List Cd), (∀ T ∈ L, tOk T) → ∀ b : Int, (b = 0 ∨ b = 1) → evL ask (jn2 L) [b] = [if b = 1 ∨ anT ask L = true then 1 else 0]
  | [], _, b, hb => by
    rw [jn2, evL]
    rcases hb with rfl | rfl <;> rfl
  | T :: r, h, b, hb => by
    obtain ⟨e1, e2⟩ := bT_ev ha (h T List.mem_cons_self) [b]
    rw [jn2, evL_app, e1, evL, ev_bin (by decide) (by decide)]
    have hz : bz 11 b (bT ask T) = if b = 1 ∨ bT ask T = 1 then 1 else 0 := rfl
    show evL ask (jn2 r) [bz 11 b (bT ask T)] = _
    rw [hz, jn2_ev ha r (fun T' h' => h T' (List.mem_cons_of_mem _ h')) _ (by split <;> simp)]
    congr 1
    show _ = if b = 1 ∨ anT ask (T :: r) = true then 1 else 0
    have hA : anT ask (T :: r) = (decide (bT ask T = 1) || anT ask r) := rfl
    simp only [hA, Bool.or_eq_true, decide_eq_true_eq]
    by_cases c1 : b = 1
    · rw [if_pos (Or.inl (if_pos (Or.inl c1))), if_pos (Or.inl c1)]
    · by_cases c2 : bT ask T = 1
      · rw [if_pos (Or.inl (if_pos (Or.inr c2))), if_pos (Or.inr (Or.inl c2))]
      · rw [if_neg (fun q : b = 1 ∨ bT ask T = 1 => q.elim c1 c2)]
        by_cases c3 : anT ask r = true
        · rw [if_pos (Or.inr c3), if_pos (Or.inr (Or.inr c3))]
        · rw [if_neg (fun q => q.elim (by decide) c3), if_neg (fun q => q.elim c1 (fun q => q.elim c2 c3))]
theorem jnT_ev {ask : Nat → Int} (ha : ∀ w, w < 13 → -99999 ≤ ask w ∧ ask w ≤ 99999) {T : Cd} {r : List Cd} (h : ∀ T' ∈ T :: r, tOk T') : evL ask (jnT (T :: r)) [] = [if anT ask (T :: r) = true then 1 else 0] := by
  obtain ⟨e1, e2⟩ := bT_ev ha (h T List.mem_cons_self) []
  rw [jnT, evL_app, e1, jn2_ev ha r (fun T' h' => h T' (List.mem_cons_of_mem _ h')) _ e2]
  congr 1
  have hA : anT ask (T :: r) = (decide (bT ask T = 1) || anT ask r) := rfl
  simp only [hA, Bool.or_eq_true, decide_eq_true_eq]
/-- what words ask of an image -/
def askF (V : BV) (i w : Nat) : Int := if w = 0 then (V 75 i).toInt else if w = 1 then (V 71 (V 75 i).toInt.toNat).toInt else if w = 2 then (V 72 (V 75 i).toInt.toNat).toInt else if w = 3 then (V 73 (V 75 i).toInt.toNat).toInt else if w = 4 then (V 76 i).toInt else if w = 5 then (V 69 (V 76 i).toInt.toNat).toInt else if w = 6 then sx V (V 76 i).toInt.toNat * sx V (V 76 i).toInt.toNat + sy V (V 76 i).toInt.toNat * sy V (V 76 i).toInt.toNat else if w = 7 then sx V (V 76 i).toInt.toNat else if w = 8 then sy V (V 76 i).toInt.toNat else if w = 9 then (V 78 i).toInt else if w = 10 then (V 79 i).toInt else if w = 11 then (V 80 i).toInt else (V 77 i).toInt
theorem ask_bd {V : BV} (g : GV V) {i : Nat} (hi : i < nM V) (w : Nat) : -99999 ≤ askF V i w ∧ askF V i w ≤ 99999 := by
  have hcn := cnts g.1
  have gi := g.2.2.2.1.1 i hi
  have gp := g.2.2.1 (V 75 i).toInt.toNat (by omega)
  have gs := g.2.1 (V 76 i).toInt.toNat (by omega)
  have gw := g.1.1
  have m1 := mul_bd (x := sx V (V 76 i).toInt.toNat) (y := sx V (V 76 i).toInt.toNat) (k := 9) (m := 9) gs.1 gs.1
  have m2 := mul_bd (x := sy V (V 76 i).toInt.toNat) (y := sy V (V 76 i).toInt.toNat) (k := 9) (m := 9) gs.2.1 gs.2.1
  unfold askF
  repeat' split
  all_goals first
    | omega
    | (simp only [sx, sy] at *; omega)
section
theorem z_factOf {h : ax_H} (w : ok h) (g : GV (V h)) {i v : Nat} (hi : i < nM (V h)) (hv : v < 13) : Bk_factOf 65 (nI v) (nI i) h = some (Int32.ofInt (askF (V h) i v), h) := by
  have hcn := cnts g.1
  have w0 := w
  obtain ⟨wS, wR, wG, wN⟩ := w
  have hi2 : i < 100 := by omega
  obtain ⟨p, hp, hp2, hp3, hp4⟩ := nI_ex (g.2.2.2.1.1 i hi).1
  obtain ⟨s, hs, hs2, hs3, hs4⟩ := nI_ex (g.2.2.2.1.1 i hi).2.1
  have hp5 : p < 16 := by omega
  have hs5 : s < 30 := by omega
  have hp6 : (V h 75 i).toInt.toNat = p := by omega
  have hs6 : (V h 76 i).toInt.toNat = s := by omega
  have hF := z_far w0 hs5
  have io : ∀ x : Int32, some (x, h) = some (Int32.ofInt x.toInt, h) := fun x => congrArg (fun z => some (z, h)) (i_of x)
  rw [Bk_factOf_eq]
  try simp only [wS, wR, ↓reduceIte]
  simp (maxSteps := 1000000) (disch := omega) only [ax_in, wS, cV75, cV76, cV71, cV72, cV73, cV69, cV67, cV68, cV78, cV79, cV80, cV77, nJ_nn, nJ_n, hi2, hp, hp5, hs, hs5, true_and, and_true, and_self, not_false_eq_true, ↓reduceIte, ↓bnd hF]
  unfold askF
  rw [hp6, hs6]
  match v, hv with
  | 0, _ => rw [hp]; exact io _
  | 1, _ => exact io _
  | 2, _ => exact io _
  | 3, _ => exact io _
  | 4, _ => rw [hs]; exact io _
  | 5, _ => exact io _
  | 6, _ => exact congrArg (fun z => some (z, h)) (by show _ = Int32.ofInt ((V h 67 s).toInt * (V h 67 s).toInt + (V h 68 s).toInt * (V h 68 s).toInt); rw [Int32.ofInt_add, Int32.ofInt_mul, Int32.ofInt_mul, Int32.ofInt_toInt, Int32.ofInt_toInt])
  | 7, _ => exact io _
  | 8, _ => exact io _
  | 9, _ => exact io _
  | 10, _ => exact io _
  | 11, _ => exact io _
  | 12, _ => exact io _
end
