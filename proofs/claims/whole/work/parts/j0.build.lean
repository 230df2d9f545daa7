/-! the constructors, from the heap at the start (printed by wip/gen/build.py) -/
abbrev Al : Type := List (Nat × Nat × Nat × Nat)
def shT : List (Nat × Nat) := [(0, 0), (1, 0), (2, 0), (16, 30), (16, 30), (16, 30), (3, 0), (16, 16), (16, 16), (16, 16), (4, 0), (16, 100), (16, 100), (16, 100), (16, 100), (16, 100), (16, 100), (16, 100), (20, 10), (16, 40), (16, 40), (16, 40), (16, 9), (16, 9), (16, 24), (16, 24), (16, 8), (16, 6), (21, 4), (6, 0), (16, 400), (16, 64), (16, 400), (16, 6), (16, 6), (7, 0), (16, 100), (16, 6), (16, 3), (16, 600), (16, 200), (16, 200), (16, 200), (22, 47), (17, 13), (17, 13), (17, 13), (17, 13), (17, 13), (17, 13), (17, 13), (17, 13), (17, 13), (17, 13), (17, 13), (17, 13), (17, 13), (17, 13), (17, 13), (17, 13), (17, 13), (17, 13), (17, 13), (17, 13), (17, 13), (17, 13), (17, 13), (17, 13), (17, 13), (17, 13), (17, 13), (17, 13), (17, 13), (17, 13), (17, 13), (17, 13), (17, 13), (17, 13), (17, 13), (17, 13), (17, 13), (17, 13), (17, 13), (17, 13), (17, 13), (17, 13), (17, 13), (17, 13), (17, 13), (17, 13), (17, 13), (17, 13), (16, 8), (16, 64), (8, 0), (11, 0), (16, 30), (16, 30), (16, 30), (16, 16), (16, 16), (16, 16), (16, 100), (16, 100), (16, 100), (16, 100), (16, 100), (16, 100), (18, 400), (16, 3000), (16, 3000), (16, 120), (16, 120), (16, 10), (16, 10), (16, 60), (16, 60), (16, 402), (17, 13), (17, 300), (19, 100), (16, 3), (17, 6), (17, 9), (17, 3), (17, 3), (17, 6), (19, 6), (16, 100), (16, 100), (19, 100), (19, 30), (16, 8), (16, 40), (16, 40), (16, 40), (16, 9), (16, 9), (16, 24), (16, 24), (16, 32000), (16, 8), (19, 4)]
def rfT : List (Nat × Nat × Nat) := [(64, 0, 65), (64, 1, 92), (64, 2, 93), (64, 3, 99), (64, 4, 158), (65, 1, 66), (65, 2, 70), (65, 3, 74), (65, 5, 82), (65, 7, 83), (65, 8, 84), (65, 9, 85), (65, 11, 86), (65, 12, 87), (65, 13, 88), (65, 14, 89), (65, 15, 90), (65, 16, 91), (66, 1, 67), (66, 2, 68), (66, 3, 69), (70, 1, 71), (70, 2, 72), (70, 3, 73), (74, 1, 75), (74, 2, 76), (74, 3, 77), (74, 4, 78), (74, 5, 79), (74, 6, 80), (74, 7, 81), (93, 2, 94), (93, 10, 95), (93, 12, 96), (93, 13, 97), (93, 14, 98), (99, 1, 100), (99, 2, 101), (99, 5, 102), (99, 6, 103), (99, 7, 104), (99, 8, 105), (99, 9, 106), (99, 10, 107), (99, 11, 155), (99, 12, 156), (99, 13, 157), (159, 5, 160), (159, 6, 161), (159, 7, 162), (159, 8, 163), (159, 9, 164), (159, 10, 165), (159, 11, 166), (159, 12, 167), (159, 13, 168), (159, 14, 169), (159, 15, 170), (159, 16, 171), (159, 26, 172), (159, 27, 173), (159, 28, 174), (159, 29, 175), (159, 30, 176), (159, 31, 177), (159, 32, 178), (159, 33, 179), (159, 34, 180), (159, 35, 181), (159, 36, 182), (159, 37, 183), (159, 38, 184), (159, 39, 185), (159, 40, 186), (159, 41, 187), (159, 42, 188), (159, 43, 189), (159, 44, 190), (159, 45, 191), (159, 46, 192), (159, 47, 193), (159, 48, 194), (159, 53, 195), (159, 56, 196), (159, 60, 197), (159, 61, 198), (159, 62, 199), (159, 64, 200), (159, 65, 201), (159, 67, 202), (159, 68, 203), (159, 70, 204), (159, 71, 205), (159, 72, 206)]
def alM : Al := [(16, 30, 30, 5), (16, 30, 30, 6), (16, 30, 30, 7), (16, 16, 16, 8), (16, 16, 16, 9), (16, 16, 16, 10), (16, 100, 100, 11), (16, 100, 100, 12), (16, 100, 100, 13), (16, 100, 100, 14), (16, 100, 100, 15), (16, 100, 100, 16), (18, 400, 400, 26), (16, 3000, 3000, 27), (16, 3000, 3000, 28), (16, 120, 120, 29), (16, 120, 120, 30), (16, 10, 10, 31), (16, 10, 10, 32), (16, 60, 60, 33), (16, 60, 60, 34), (16, 402, 402, 35), (17, 13, 13, 36), (17, 300, 300, 37), (19, 100, 100, 38), (16, 3, 3, 39), (17, 6, 6, 40), (17, 9, 9, 41), (17, 3, 3, 42), (17, 3, 3, 43), (17, 6, 6, 44), (19, 6, 6, 45), (16, 100, 100, 46), (16, 100, 100, 47), (19, 100, 100, 48), (19, 30, 30, 53), (16, 8, 8, 56), (16, 40, 40, 60), (16, 40, 40, 61), (16, 40, 40, 62), (16, 9, 9, 64), (16, 9, 9, 65), (16, 24, 24, 67), (16, 24, 24, 68), (16, 32000, 32000, 70), (16, 8, 8, 71), (19, 4, 4, 72)]
def alRd : Al := [(16, 400, 400, 2), (16, 64, 64, 10), (16, 400, 400, 12), (16, 6, 6, 13), (16, 6, 6, 14)]
def alF1 : Al := [(16, 100, 100, 1), (16, 6, 6, 2), (16, 3, 3, 5), (16, 600, 600, 6), (16, 200, 200, 7), (16, 200, 200, 8), (16, 200, 200, 9)]
def alF2 : Al := [(17, 13, 13, 11), (16, 8, 8, 12), (16, 64, 64, 13)]
def alBk : Al := [(20, 10, 10, 5), (16, 40, 40, 7), (16, 40, 40, 8), (16, 40, 40, 9), (16, 9, 9, 11), (16, 9, 9, 12), (16, 24, 24, 13), (16, 24, 24, 14), (16, 8, 8, 15), (16, 6, 6, 16)]
def al3 (a b : Nat) : Al := [(16, a, a, 1), (16, a, a, 2), (16, a, a, 3)]
def mkB (v : Nat) : Al → ax_H → ax_H
  | [], h => h
  | e :: l, h => mkB v l (alC h e.1 e.2.1 e.2.2.1 v e.2.2.2)
def alB (v c : Nat) (K : ax_H → Option ax_H) : Al → ax_H → Option ax_H
  | [], h => K h
  | e :: l, h => if (gS (nW h e.1 e.2.1 e.2.2.1) v).1 = c then alB v c K l (alC h e.1 e.2.1 e.2.2.1 v e.2.2.2) else none
theorem alB_run {v c : Nat} {K : ax_H → Option ax_H} : ∀ (l : Al) (h : ax_H), (gS h v).1 = c → v < gN h → alB v c K l h = K (mkB v l h)
  | [], h, _, _ => rfl
  | e :: l, h, hs, hv => by
    have e1 : (gS (nW h e.1 e.2.1 e.2.2.1) v).1 = c := by rw [gS_nW, if_neg (by omega)]; exact hs
    rw [alB, mkB, if_pos e1]
    exact alB_run l _ (by rw [gS_al, if_neg (by omega)]; exact hs) (by rw [gN_al]; omega)
/-- half made: n cells, references rs, slots z at most, the row of knowledge f -/
def bl (L : Nat) (xs : Nat → Int32) (f : Nat → Int32) (h : ax_H) (n : Nat) (rs : List (Nat × Nat × Nat)) (z : Nat) : Prop := (gN h = n ∧ 64 ≤ n) ∧ (∀ (i : Nat) (x : Nat × Nat), 64 + i < n → shT[i]? = some x → gS h (64 + i) = x) ∧ (∀ t ∈ rs, t.1 < n ∧ gR h t.1 t.2.1 = t.2.2) ∧ (∀ a j, (∀ t ∈ rs, ¬ (t.1 = a ∧ t.2.1 = j)) → ¬ a = 107 → gR h a j = 0) ∧ (∀ a k, ¬ a = 40 → ¬ a = 90 → gI h a k = 0) ∧ (∀ k, gI h 90 k = f k) ∧ (gS h 40 = (24, L) ∧ ∀ k, gI h 40 k = xs k) ∧ gZ h ≤ z ∧ (155 ≤ n → ∀ g, g < 47 → gR h 107 g = 108 + g)
section
theorem bl_nW {L : Nat} {xs f : Nat → Int32} {h : ax_H} {n : Nat} {rs : List (Nat × Nat × Nat)} {z : Nat} (p : bl L xs f h n rs z) {kd len : Nat} (s : Nat) (hs : shT[n - 64]? = some (kd, len)) (hq : ¬ n = 90 ∨ ∀ k, f k = 0) (h154 : ¬ n = 154) : bl L xs f (nW h kd len s) (n + 1) rs (z + s) := by
  obtain ⟨⟨p1, p1'⟩, p2, p3, p4, p5, p6, ⟨p7, p7'⟩, p8, p9⟩ := p
  refine ⟨⟨by rw [gN_nW, p1], by omega⟩, fun i x hi hx => ?_, fun t ht => ?_, fun a j ha h7 => ?_, fun a k h4 h9 => ?_, fun k => ?_, ⟨?_, fun k => ?_⟩, by rw [gZ_nW]; omega, fun hn g hg => ?_⟩
  · rw [gS_nW, p1]
    by_cases q : 64 + i = n
    · rw [if_pos q]
      rw [show n - 64 = i by omega] at hs
      rw [hs] at hx
      injection hx
    · rw [if_neg q]; exact p2 i x (by omega) hx
  · obtain ⟨t1, t2⟩ := p3 t ht
    exact ⟨by omega, by rw [gR_nW, if_neg (by omega)]; exact t2⟩
  · rw [gR_nW]
    by_cases q : a = gN h
    · rw [if_pos q]
    · rw [if_neg q]; exact p4 a j ha h7
  · rw [gI_nW]
    by_cases q : a = gN h
    · rw [if_pos q]
    · rw [if_neg q]; exact p5 a k h4 h9
  · rw [gI_nW]
    by_cases q : 90 = gN h
    · rw [if_pos q]
      rcases hq with y | y
      · omega
      · exact (y k).symm
    · rw [if_neg q]; exact p6 k
  · rw [gS_nW, if_neg (by omega)]; exact p7
  · rw [gI_nW, if_neg (by omega)]; exact p7' k
  · rw [gR_nW, if_neg (by omega)]; exact p9 (by omega) g hg
theorem bl_pR {L : Nat} {xs f : Nat → Int32} {h : ax_H} {n : Nat} {rs : List (Nat × Nat × Nat)} {z : Nat} (p : bl L xs f h n rs z) {a j r : Nat} (ha : a < n) (h7 : ¬ a = 107) (hd : ∀ t ∈ rs, ¬ (t.1 = a ∧ t.2.1 = j)) : bl L xs f (pR h a j r) n ((a, j, r) :: rs) z := by
  obtain ⟨p1, p2, p3, p4, p5, p6, p7, p8, p9⟩ := p
  refine ⟨p1, p2, fun t ht => ?_, fun x i hx h0 => ?_, p5, p6, p7, p8, fun hn g hg => ?_⟩
  · rcases List.mem_cons.mp ht with rfl | q
    · exact ⟨ha, by rw [gR_pR, if_pos ⟨rfl, rfl⟩]⟩
    · obtain ⟨t1, t2⟩ := p3 t q
      refine ⟨t1, ?_⟩
      have := hd t q
      rw [gR_pR, if_neg (by omega)]
      exact t2
  · have h1 := hx (a, j, r) List.mem_cons_self
    rw [gR_pR, if_neg (fun y => h1 ⟨y.1.symm, y.2.symm⟩)]
    exact p4 x i (fun t ht => hx t (List.mem_cons_of_mem _ ht)) h0
  · rw [gR_pR, if_neg (by omega)]; exact p9 hn g hg
theorem bl_nG {L : Nat} {xs f : Nat → Int32} {h : ax_H} {rs : List (Nat × Nat × Nat)} {z : Nat} (p : bl L xs f h 107 rs z) : bl L xs f (nG h 22 17 47 13) 155 rs (z + 658) := by
  obtain ⟨⟨p1, p1'⟩, p2, p3, p4, p5, p6, ⟨p7, p7'⟩, p8, p9⟩ := p
  have e1 : h.1 = 107 := p1
  have eS : ∀ x, gS (nG h 22 17 47 13) x = if x = 107 then (22, 47) else if 107 < x ∧ x ≤ 154 then (17, 13) else gS h x := fun x => by
    show (if x = h.1 then (22, 47) else if h.1 < x ∧ x ≤ h.1 + 47 then (17, 13) else gS h x) = _
    rw [e1]
  have eI : ∀ x k, ¬ (107 ≤ x ∧ x ≤ 154) → gI (nG h 22 17 47 13) x k = gI h x k := fun x k q => by
    show (if h.1 ≤ x ∧ x ≤ h.1 + 47 then fun _ => 0 else gI h x) k = _
    rw [e1, if_neg q]
  have eI0 : ∀ x k, 107 ≤ x ∧ x ≤ 154 → gI (nG h 22 17 47 13) x k = 0 := fun x k q => by
    show (if h.1 ≤ x ∧ x ≤ h.1 + 47 then fun _ => 0 else gI h x) k = _
    rw [e1, if_pos q]
  have eR : ∀ x k, ¬ (107 ≤ x ∧ x ≤ 154) → gR (nG h 22 17 47 13) x k = gR h x k := fun x k q => by
    show (if x = h.1 then fun y => if y < 47 then h.1 + 1 + y else 0 else if h.1 ≤ x ∧ x ≤ h.1 + 47 then fun _ => 0 else gR h x) k = _
    rw [e1, if_neg (by omega), if_neg q]
  have eR0 : ∀ x k, 107 < x ∧ x ≤ 154 → gR (nG h 22 17 47 13) x k = 0 := fun x k q => by
    show (if x = h.1 then fun y => if y < 47 then h.1 + 1 + y else 0 else if h.1 ≤ x ∧ x ≤ h.1 + 47 then fun _ => 0 else gR h x) k = _
    rw [e1, if_neg (by omega), if_pos (by omega)]
  have eR7 : ∀ k, k < 47 → gR (nG h 22 17 47 13) 107 k = 108 + k := fun k q => by
    show (if 107 = h.1 then fun y => if y < 47 then h.1 + 1 + y else 0 else if h.1 ≤ 107 ∧ 107 ≤ h.1 + 47 then fun _ => 0 else gR h 107) k = _
    rw [e1, if_pos rfl]
    exact if_pos q
  have sT : ∀ i : Nat, i < 91 → 43 ≤ i → shT[i]? = some (if i = 43 then (22, 47) else (17, 13)) := by decide +kernel
  refine ⟨⟨by show h.1 + 48 = 155; rw [e1], by omega⟩, fun i x hi hx => ?_, fun t ht => ?_, fun a j ha h7 => ?_, fun a k h4 h9 => ?_, fun k => by rw [eI 90 k (by omega)]; exact p6 k, ⟨by rw [eS, if_neg (by omega), if_neg (by omega)]; exact p7, fun k => by rw [eI 40 k (by omega)]; exact p7' k⟩, by show h.2.1 + (47 + 47 * 13) ≤ z + 658; have : h.2.1 ≤ z := p8; omega, fun _ g hg => eR7 g hg⟩
  · rw [eS]
    by_cases q : i < 43
    · rw [if_neg (by omega), if_neg (by omega)]; exact p2 i x (by omega) hx
    · rw [sT i (by omega) (by omega)] at hx
      injection hx with hx
      rw [← hx]
      by_cases q2 : i = 43
      · rw [if_pos (by omega), if_pos q2]
      · rw [if_neg (by omega), if_pos (by omega), if_neg q2]
  · obtain ⟨t1, t2⟩ := p3 t ht
    exact ⟨by omega, by rw [eR _ _ (by omega)]; exact t2⟩
  · by_cases q : 107 ≤ a ∧ a ≤ 154
    · exact eR0 a j (by omega)
    · rw [eR a j q]; exact p4 a j ha h7
  · by_cases q : 107 ≤ a ∧ a ≤ 154
    · exact eI0 a k q
    · rw [eI a k q]; exact p5 a k h4 h9
/-- a row of cells made for v -/
def chkB (v : Nat) : Nat → Al → List (Nat × Nat × Nat) → Bool
  | _, [], _ => true
  | n, e :: l, rs => decide (shT[n - 64]? = some (e.1, e.2.1)) && decide (∀ t ∈ rs, ¬ (t.1 = v ∧ t.2.1 = e.2.2.2)) && decide (¬ n = 154) && chkB v (n + 1) l ((v, e.2.2.2, n) :: rs)
def rsB (v : Nat) : Nat → Al → List (Nat × Nat × Nat) → List (Nat × Nat × Nat)
  | _, [], rs => rs
  | n, e :: l, rs => rsB v (n + 1) l ((v, e.2.2.2, n) :: rs)
def szB : Al → Nat
  | [] => 0
  | e :: l => e.2.2.1 + szB l
theorem bl_mkB {L : Nat} {xs f : Nat → Int32} {v : Nat} (h7 : ¬ v = 107) : ∀ (l : Al) (n : Nat) (h : ax_H) (rs : List (Nat × Nat × Nat)) (z : Nat), chkB v n l rs = true → (∀ k, f k = 0) ∨ 90 < n → v < n → bl L xs f h n rs z → bl L xs f (mkB v l h) (n + l.length) (rsB v n l rs) (z + szB l)
  | [], n, h, rs, z, _, _, _, p => p
  | e :: l, n, h, rs, z, hc, hq, hv, p => by
    rw [chkB, Bool.and_eq_true, Bool.and_eq_true, Bool.and_eq_true] at hc
    obtain ⟨⟨⟨c1, c2⟩, c3⟩, c4⟩ := hc
    have b1 := bl_nW p e.2.2.1 (of_decide_eq_true c1) (by
      rcases hq with y | y
      · exact Or.inr y
      · exact Or.inl (by omega)) (of_decide_eq_true c3)
    have b2 := bl_pR b1 (a := v) (j := e.2.2.2) (r := n) (by omega) h7 (of_decide_eq_true c2)
    have eg : alC h e.1 e.2.1 e.2.2.1 v e.2.2.2 = pR (nW h e.1 e.2.1 e.2.2.1) v e.2.2.2 n := by unfold alC; rw [p.1.1]
    rw [mkB, eg, rsB, szB, List.length_cons]
    have := bl_mkB h7 l (n + 1) _ ((v, e.2.2.2, n) :: rs) (z + e.2.2.1) c4 (by
      rcases hq with y | y
      · exact Or.inl y
      · exact Or.inr (by omega)) (by omega) b2
    rw [show n + (l.length + 1) = n + 1 + l.length by omega, show z + (e.2.2.1 + szB l) = z + e.2.2.1 + szB l by omega]
    exact this
/-- shapes by their numbers -/
theorem bl_S {L : Nat} {xs f : Nat → Int32} {h : ax_H} {n : Nat} {rs : List (Nat × Nat × Nat)} {z : Nat} (p : bl L xs f h n rs z) (a : Nat) {x : Nat × Nat} (h1 : 64 ≤ a) (h2 : a < n) (hx : shT[a - 64]? = some x) : gS h a = x := by
  have := p.2.1 (a - 64) x (by omega) hx
  rw [show 64 + (a - 64) = a by omega] at this
  exact this
end
theorem z_Rd_al (v : Nat) (h : ax_H) : Rd_init v h = if (gS h v).1 < 12 ∧ (([] : List Value).map (fun v => v.category)).sum ≤ 8 then alB v 6 some alRd h else none := Rd_init_eq v h
theorem z_Ft_al (v : Nat) (h : ax_H) : Ft_init v h = if (gS h v).1 < 12 ∧ (([] : List Value).map (fun v => v.category)).sum ≤ 8 then alB v 7 (fun h14 => if (gS (nG h14 22 17 47 13) v).1 = 7 then alB v 7 some alF2 (pR (nG h14 22 17 47 13) v 10 (gN h14)) else none) alF1 h else none := Ft_init_eq v h
theorem z_M_al (v : Nat) (h : ax_H) : M_init v h = if (gS h v).1 < 12 ∧ (([] : List Value).map (fun v => v.category)).sum ≤ 8 then alB v 11 (M_init_384 v 0) alM h else none := M_init_eq v h
theorem z_Bk_al (v : Nat) (h : ax_H) : Bk_init v h = if (gS h v).1 < 12 ∧ (([] : List Value).map (fun v => v.category)).sum ≤ 8 then (if (gS (nW h 2 0 4) (gN h)).1 = 2 then (St_init (gN h) (nW h 2 0 4)).bind (fun h2 => if (gS h2 v).1 = 1 then (if (gS (nW (pR h2 v 1 (gN h)) 3 0 4) (gN (pR h2 v 1 (gN h)))).1 = 3 then (Pl_init (gN (pR h2 v 1 (gN h))) (nW (pR h2 v 1 (gN h)) 3 0 4)).bind (fun h5 => if (gS h5 v).1 = 1 then (if (gS (nW (pR h5 v 2 (gN (pR h2 v 1 (gN h)))) 4 0 8) (gN (pR h5 v 2 (gN (pR h2 v 1 (gN h)))))).1 = 4 then (Im_init (gN (pR h5 v 2 (gN (pR h2 v 1 (gN h))))) (nW (pR h5 v 2 (gN (pR h2 v 1 (gN h)))) 4 0 8)).bind (fun h8 => if (gS h8 v).1 = 1 then alB v 1 (Bk_init_120 v 0) alBk (pR h8 v 3 (gN (pR h5 v 2 (gN (pR h2 v 1 (gN h)))))) else none) else none) else none) else none) else none) else none) else none := Bk_init_eq v h
theorem z_mi_384 {v r : Nat} (hv : ¬ v = r) : ∀ (m j : Nat) (h : ax_H), j + m = 8 → (gS h v).1 = 11 → gR h v 56 = r → gS h r = (16, 8) → ∃ h', M_init_384 v (nI j) h = some h' ∧ sam h h' ∧ gR h' = gR h ∧ ∀ a k, gI h' a k = if a = r ∧ j ≤ k ∧ k < 8 then -1 else gI h a k := by
  intro m
  induction m with
  | zero =>
    intro j h hj s1 r1 s2
    have : j = 8 := by omega
    subst this
    refine ⟨h, ?_, sam_rf _, rfl, fun a k => by rw [if_neg (by omega)]⟩
    rw [M_init_384_eq, if_pos (by decide)]
  | succ m ih =>
    intro j h hj s1 r1 s2
    have hle : ¬ (8 : Int32) ≤ nI j := by rw [show (8 : Int32) = nI 8 from rfl, nJ_le (by omega) (by omega)]; omega
    have tj : (nI j).toNatClampNeg = j := nJ_n (by omega)
    have nj : ¬ nI j < 0 := nJ_nn (by omega)
    have hj8 : j < 8 := by omega
    obtain ⟨h', x1, x2, x3, x4⟩ := ih (j + 1) (pI h r j (-1)) (by omega) s1 r1 s2
    refine ⟨h', ?_, sam_tr (sam_pI _ _ _ _) x2, x3, fun a k => ?_⟩
    · rw [← x1, M_init_384_eq, if_neg (by rw [decide_eq_true_eq]; exact hle)]
      simp only [s1, r1, s2, ax_in, tj, nj, hj8, not_false_eq_true, and_self, ↓reduceIte, nJ_p1]
    · rw [x4, gI_pI]
      by_cases y : a = r ∧ j + 1 ≤ k ∧ k < 8
      · rw [if_pos y, if_pos (by omega)]
      · rw [if_neg y]
        by_cases z : a = r ∧ k = j
        · rw [if_pos z, if_pos (by omega)]
        · rw [if_neg z, if_neg (by omega)]
