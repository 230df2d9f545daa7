/-! the reference's carries -/
noncomputable def carF : List Nat → ax_H → Option ax_H
  | [], h => some h
  | f :: l, h => if (gS h 159).1 = 11 then if (gS h 159).1 = 11 then (M_carry 159 (gR h 159 f) h).bind (fun h' => carF l h') else none else none
def cfL : List Nat := [71, 5, 6, 7, 8, 9, 10, 11, 12, 13, 14, 15, 16, 27, 28, 29, 30, 31, 32, 33, 34, 60, 61, 62, 64, 65, 67, 68, 56]
/-- rows and lengths -/
def crL : List (Nat × Nat) := [(205, 8), (160, 30), (161, 30), (162, 30), (163, 16), (164, 16), (165, 16), (166, 100), (167, 100), (168, 100), (169, 100), (170, 100), (171, 100), (173, 3000), (174, 3000), (175, 120), (176, 120), (177, 10), (178, 10), (179, 60), (180, 60), (197, 40), (198, 40), (199, 40), (200, 9), (201, 9), (202, 24), (203, 24), (196, 8)]
theorem carries_F (k : Int32) (h : ax_H) : M_carries 159 k h = if (gS h 159).1 = 11 then carF cfL (pI h 159 73 ((8000 : Int32) * k)) else none := M_carries_eq 159 k h
def totL : List (Nat × Nat) → Nat
  | [] => 0
  | (_, N) :: l => N + totL l
/-- fields and their rows -/
def fldP (h : ax_H) : List Nat → List (Nat × Nat) → Prop
  | [], [] => True
  | f :: l, (r, N) :: m => gR h 159 f = r ∧ gS h r = (16, N) ∧ ¬ r = 204 ∧ ¬ r = 159 ∧ N ≤ 3000 ∧ fldP h l m
  | _, _ => False
theorem fldP_s {h h' : ax_H} (e : gS h' = gS h) (q : gR h' = gR h) : ∀ l m, fldP h l m → fldP h' l m
  | [], [], _ => trivial
  | f :: l, (r, N) :: m, p => by
    obtain ⟨a, b, c, d, n, p⟩ := p
    exact ⟨by rw [q]; exact a, by rw [e]; exact b, c, d, n, fldP_s e q l m p⟩
  | [], _ :: _, p => p.elim
  | _ :: _, [], p => p.elim
def segV (h : ax_H) : List (Nat × Nat) → Nat → Int32
  | [], _ => 0
  | (r, N) :: l, i => if i < N then gI h r i else segV h l (i - N)
def notP (l : List (Nat × Nat)) : Prop := ∀ x ∈ l, ¬ x.1 = 204 ∧ ¬ x.1 = 159
theorem seg_eq {h h' : ax_H} : ∀ (l : List (Nat × Nat)) (i : Nat), (∀ x ∈ l, ∀ k, gI h' x.1 k = gI h x.1 k) → segV h' l i = segV h l i
  | [], _, _ => rfl
  | (r, N) :: l, i, H => by
    rw [segV, segV, H (r, N) (List.mem_cons_self ..) i, seg_eq l (i - N) fun x hx => H x (List.mem_cons_of_mem _ hx)]
theorem fld_n {h : ax_H} : ∀ l m, fldP h l m → notP m
  | [], [], _ => fun x hx => by cases hx
  | f :: l, (r, N) :: m, p => fun x hx => by
    obtain ⟨a, b, c, d, n, p⟩ := p
    rcases List.mem_cons.mp hx with rfl | q
    · exact ⟨c, d⟩
    · exact fld_n l m p x q
  | [], _ :: _, p => p.elim
  | _ :: _, [], p => p.elim
theorem co_all : ∀ (l : List Nat) (m : List (Nat × Nat)) (p : Nat) (h : ax_H), ok h → fldP h l m → p + totL m ≤ 32000 → gI h 159 74 = 0 → gI h 159 73 = nI p → ∃ h', carF l h = some h' ∧ sam h h' ∧ gR h' = gR h ∧ ∀ a k, gI h' a k = if a = 204 ∧ p ≤ k ∧ k < p + totL m then segV h m (k - p) else if a = 159 ∧ k = 73 then nI (p + totL m) else gI h a k
  | [], [], p, h, w, fp, hp, e74, e73 => by
    refine ⟨h, rfl, sam_rf _, rfl, fun a k => ?_⟩
    rw [if_neg (by rw [totL]; omega)]
    by_cases z : a = 159 ∧ k = 73
    · rw [if_pos z, z.1, z.2, e73]; rfl
    · rw [if_neg z]
  | f :: l, (r, N) :: m, p, h, w, fp, hp, e74, e73 => by
    have np := fld_n _ _ fp
    obtain ⟨f1, f2, f3, f4, f5, f6⟩ := fp
    rw [totL] at hp
    obtain ⟨h1, a1, a2, a3, a4⟩ := zm_co_2 ⟨f3, f4⟩ f5 (p := p) (by omega) N 0 h (by omega) w f2 e74 e73
    have S1 : gS h1 = gS h := a2.2.2.1
    have w1 : ok h1 := by
      obtain ⟨wS, wR, wG, wN⟩ := w
      exact ⟨by rw [S1]; exact wS, by rw [a3]; exact wR, by rw [S1, a3]; exact wG, by rw [a2.1]; exact wN⟩
    obtain ⟨h', r1, r2, r3, r4⟩ := co_all l m (p + N) h1 w1 (fldP_s S1 a3 l m f6) (by omega) (by rw [a4, if_neg (by omega), if_neg (by omega)]; exact e74) (by rw [a4, if_neg (by omega), if_pos ⟨rfl, rfl⟩])
    refine ⟨h', ?_, sam_tr a2 r2, r3.trans a3, fun a k => ?_⟩
    · have a1' : M_carry 159 (gR h 159 f) h = some h1 := by rw [f1, M_carry_eq]; exact a1
      obtain ⟨wS, wR, wG, wN⟩ := w
      rw [carF]
      simp only [wS, ↓reduceIte]
      rw [bnd a1', r1]
    · rw [r4, totL, segV]
      have sg1 : segV h1 m (k - (p + N)) = segV h m (k - (p + N)) := seg_eq m _ fun x hx j => by
        have := np x (List.mem_cons_of_mem _ hx)
        rw [a4, if_neg (by omega), if_neg (by omega)]
      by_cases y : a = 204 ∧ p + N ≤ k ∧ k < p + N + totL m
      · rw [if_pos y, if_pos (by omega), if_neg (by omega), sg1, show k - p - N = k - (p + N) by omega]
      · rw [if_neg y]
        by_cases z : a = 159 ∧ k = 73
        · rw [if_pos z, if_neg (by omega), if_pos z, Nat.add_assoc]
        · rw [if_neg z, if_neg z, a4, if_neg z]
          by_cases x : a = 204 ∧ p + 0 ≤ k ∧ k < p + N
          · rw [if_pos x, if_pos (by omega), if_pos (by omega)]
          · rw [if_neg x, if_neg (by omega)]
  | [], _ :: _, _, _, _, fp, _, _, _ => fp.elim
  | _ :: _, [], _, _, _, fp, _, _, _ => fp.elim
def inV (h : ax_H) : List (Nat × Nat) → Nat → Nat → Nat → Int32
  | [], _, a, k => gI h a k
  | (r, N) :: l, p, a, k => if a = r ∧ k < N then gI h 204 (p + k) else inV h l (p + N) a k
theorem inV_eq {h h' : ax_H} {a k : Nat} (H : ∀ i, gI h' 204 i = gI h 204 i) (E : gI h' a k = gI h a k) : ∀ (l : List (Nat × Nat)) (p : Nat), inV h' l p a k = inV h l p a k
  | [], _ => E
  | (r, N) :: l, p => by rw [inV, inV, H, inV_eq H E l (p + N)]
theorem inV_no {h : ax_H} {a k : Nat} : ∀ (l : List (Nat × Nat)) (p : Nat), (∀ x ∈ l, ¬ x.1 = a) → inV h l p a k = gI h a k
  | [], _, _ => rfl
  | (r, N) :: l, p, H => by
    rw [inV, if_neg (fun z => H (r, N) (List.mem_cons_self ..) z.1.symm)]
    exact inV_no l (p + N) fun x hx => H x (List.mem_cons_of_mem _ hx)
def disL : List (Nat × Nat) → Prop
  | [] => True
  | x :: l => (∀ y ∈ l, ¬ y.1 = x.1) ∧ disL l
theorem ci_all : ∀ (l : List Nat) (m : List (Nat × Nat)) (p : Nat) (h : ax_H), ok h → fldP h l m → disL m → p + totL m ≤ 32000 → ¬ gI h 159 74 = 0 → gI h 159 73 = nI p → ∃ h', carF l h = some h' ∧ sam h h' ∧ gR h' = gR h ∧ ∀ a k, gI h' a k = if a = 159 ∧ k = 73 then nI (p + totL m) else inV h m p a k
  | [], [], p, h, w, fp, ds, hp, e74, e73 => by
    refine ⟨h, rfl, sam_rf _, rfl, fun a k => ?_⟩
    by_cases z : a = 159 ∧ k = 73
    · rw [if_pos z, z.1, z.2, e73]; rfl
    · rw [if_neg z]; rfl
  | f :: l, (r, N) :: m, p, h, w, fp, ds, hp, e74, e73 => by
    have np := fld_n _ _ fp
    obtain ⟨f1, f2, f3, f4, f5, f6⟩ := fp
    rw [totL] at hp
    obtain ⟨h1, a1, a2, a3, a4⟩ := zm_ci_2 ⟨f3, f4⟩ f5 (p := p) (by omega) N 0 h (by omega) w f2 e74 e73
    have S1 : gS h1 = gS h := a2.2.2.1
    have w1 : ok h1 := by
      obtain ⟨wS, wR, wG, wN⟩ := w
      exact ⟨by rw [S1]; exact wS, by rw [a3]; exact wR, by rw [S1, a3]; exact wG, by rw [a2.1]; exact wN⟩
    obtain ⟨h', r1, r2, r3, r4⟩ := ci_all l m (p + N) h1 w1 (fldP_s S1 a3 l m f6) ds.2 (by omega) (by rw [a4, if_neg (by omega), if_neg (by omega)]; exact e74) (by rw [a4, if_neg (by omega), if_pos ⟨rfl, rfl⟩])
    refine ⟨h', ?_, sam_tr a2 r2, r3.trans a3, fun a k => ?_⟩
    · have a1' : M_carry 159 (gR h 159 f) h = some h1 := by rw [f1, M_carry_eq]; exact a1
      obtain ⟨wS, wR, wG, wN⟩ := w
      rw [carF]
      simp only [wS, ↓reduceIte]
      rw [bnd a1', r1]
    · rw [r4, totL, inV]
      have H4 : ∀ i, gI h1 204 i = gI h 204 i := fun i => by rw [a4, if_neg (by omega), if_neg (by omega)]
      by_cases z : a = 159 ∧ k = 73
      · rw [if_pos z, if_pos z, Nat.add_assoc]
      · rw [if_neg z, if_neg z]
        by_cases x : a = r ∧ k < N
        · rw [if_pos x, x.1, inV_no m (p + N) ds.1, a4, if_pos ⟨rfl, by omega, x.2⟩]
        · rw [if_neg x]
          exact inV_eq H4 (by rw [a4, if_neg (by omega), if_neg z]) m (p + N)
  | [], _ :: _, _, _, _, fp, _, _, _, _ => fp.elim
  | _ :: _, [], _, _, _, fp, _, _, _, _ => fp.elim
