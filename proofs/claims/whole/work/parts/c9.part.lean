/-! a book half made: n cells of it from b on, references rs; below b all is as in h0 -/
def blwP (b : Nat) (h0 h : ax_H) : Prop := ∀ a, a < b → gS h a = gS h0 a ∧ gR h a = gR h0 a ∧ ∀ k, gI h a k = gI h0 a k ∧ gL h a k = gL h0 a k
def ptB' (h0 h : ax_H) (b n : Nat) (rs : List (Nat × Nat × Nat)) : Prop := gN h = b + n ∧ (∀ (i : Nat) (x : Nat × Nat), i < n → shL[i]? = some x → gS h (b + i) = x) ∧ (∀ t ∈ rs, t.1 < n ∧ gR h (b + t.1) t.2.1 = b + t.2.2) ∧ blwP b h0 h ∧ gZ h ≤ gZ h0 + 200 * n
theorem pt_nW {h0 h : ax_H} {b n : Nat} {rs : List (Nat × Nat × Nat)} (p : ptB' h0 h b n rs) {kd len : Nat} (z : Nat) (hs : shL[n]? = some (kd, len)) (hz : z ≤ 200 := by decide) : ptB' h0 (nW h kd len z) b (n + 1) rs := by
  obtain ⟨p1, p2, p3, p4, p5⟩ := p
  have fa := frA_nW (fun _ _ => false) h kd len z
  refine ⟨by rw [gN_nW, p1]; rfl, fun i x hi hx => ?_, fun t ht => ?_, fun a ha => ?_, by rw [gZ_nW]; omega⟩
  · rw [gS_nW, p1]
    by_cases q : i = n
    · subst q
      rw [if_pos rfl]
      rw [hs] at hx
      injection hx
    · rw [if_neg (by omega)]
      exact p2 i x (by omega) hx
  · obtain ⟨t1, t2⟩ := p3 t ht
    exact ⟨by omega, by rw [fa.2.2.1 _ _ (by omega)]; exact t2⟩
  · obtain ⟨x1, x2, x3⟩ := p4 a ha
    refine ⟨by rw [gS_nW, if_neg (by omega)]; exact x1, ?_, fun k => ⟨by rw [gI_nW, if_neg (by omega)]; exact (x3 k).1, by rw [(fa.2.2.2 a k (by omega) rfl).2]; exact (x3 k).2⟩⟩
    funext k
    rw [fa.2.2.1 a k (by omega), x2]
theorem pt_pR {h0 h : ax_H} {b n : Nat} {rs : List (Nat × Nat × Nat)} (p : ptB' h0 h b n rs) {i j r : Nat} (hi : i < n) (hd : ∀ t ∈ rs, ¬ (t.1 = i ∧ t.2.1 = j)) : ptB' h0 (pR h (b + i) j (b + r)) b n ((i, j, r) :: rs) := by
  obtain ⟨p1, p2, p3, p4, p5⟩ := p
  refine ⟨p1, p2, fun t ht => ?_, fun a ha => ?_, p5⟩
  · rcases List.mem_cons.mp ht with rfl | q
    · exact ⟨hi, by rw [gR_pR, if_pos ⟨rfl, rfl⟩]⟩
    · obtain ⟨t1, t2⟩ := p3 t q
      refine ⟨t1, ?_⟩
      have := hd t q
      rw [gR_pR, if_neg (by omega)]
      exact t2
  · obtain ⟨x1, x2, x3⟩ := p4 a ha
    refine ⟨x1, ?_, x3⟩
    funext k
    rw [gR_pR, if_neg (by omega), x2]
theorem pt_al {h0 h : ax_H} {b n : Nat} {rs : List (Nat × Nat × Nat)} (p : ptB' h0 h b n rs) {kd len : Nat} (z : Nat) (hs : shL[n]? = some (kd, len)) {i j : Nat} (hi : i < n) (hd : ∀ t ∈ rs, ¬ (t.1 = i ∧ t.2.1 = j)) (hz : z ≤ 200 := by decide) : ptB' h0 (alC h kd len z (b + i) j) b (n + 1) ((i, j, n) :: rs) := by
  have := pt_pR (pt_nW p z hs hz) (i := i) (j := j) (r := n) (by omega) hd
  unfold alC
  rw [p.1]
  exact this
