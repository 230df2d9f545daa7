theorem ax_u1n {α : Type} {f : Nat → α} {a b : Nat} {v : α} (h : b ≠ a) : u1 f a v b = f b := by simp [u1, h]
theorem ax_u1s {α : Type} {f : Nat → α} {a : Nat} {v : α} : u1 f a v a = v := by simp [u1]
/-! THE PICTURE: what the machine's heap is, of a pure heap -/
def ax_obj (X : ax_X) (h : ax_H) (H : Heap) (a c : Nat) : Prop := t_OB (ax_r X a) (xC X c) (ax_n c) (xI X c) H (fun k => ax_fv X h a (ax_ft c k) k)
def ax_row (X : ax_X) (h : ax_H) (H : Heap) (a kd : Nat) : Prop := H[ax_r X a]? = some (arrV (xR X kd) (gS h a).2 (ax_av X h a kd))
def ax_cell (X : ax_X) (h : ax_H) (H : Heap) (a : Nat) : Prop := ((gS h a).1 < 12 ∧ ax_obj X h H a (gS h a).1) ∨ (16 ≤ (gS h a).1 ∧ (gS h a).1 < 23 ∧ ax_row X h H a (gS h a).1)
def ax_Rep (X : ax_X) (h : ax_H) (H : Heap) : Prop :=
  64 ≤ gN h ∧ H.size = xB X + (gN h - 64) ∧ (∀ a, 64 ≤ a → a < gN h → ax_cell X h H a) ∧ (∀ q, q < xB X → H[q]? = (xH X)[q]?) ∧
  (∀ a, (a < 64 ∨ gN h ≤ a) → a ≠ 40 → (gS h a).1 = 99) ∧ gS h 40 = (24, xL X) ∧ (∀ j, j < xL X → gI h 40 j = xS X j) ∧ (xH X).size = xB X
theorem ax_valid {X : ax_X} {h : ax_H} {H : Heap} (R : ax_Rep X h H) {a : Nat} (hk : (gS h a).1 < 23) : 64 ≤ a ∧ a < gN h := by
  obtain ⟨-, -, -, -, r5, r6, -⟩ := R
  by_cases h40 : a = 40
  · subst h40; rw [r6] at hk; exact absurd hk (by show ¬ 24 < 23; decide)
  · by_cases hv : a < 64 ∨ gN h ≤ a
    · have := r5 a hv h40; omega
    · omega
theorem ax_getO {X : ax_X} {h : ax_H} {H : Heap} (R : ax_Rep X h H) {a c : Nat} (hk : (gS h a).1 = c) (hc : c < 12) : ax_obj X h H a c := by
  obtain ⟨h1, h2⟩ := ax_valid R (a := a) (by omega)
  rcases R.2.2.1 a h1 h2 with ⟨-, h⟩ | ⟨h, -⟩
  · rw [hk] at h; exact h
  · omega
theorem ax_getA {X : ax_X} {h : ax_H} {H : Heap} (R : ax_Rep X h H) {a c : Nat} (hk : (gS h a).1 = c) (hc : 16 ≤ c) (hc2 : c < 23) : ax_row X h H a c := by
  obtain ⟨h1, h2⟩ := ax_valid R (a := a) (by omega)
  rcases R.2.2.1 a h1 h2 with ⟨h, -⟩ | ⟨-, -, h⟩
  · omega
  · rw [hk] at h; exact h
theorem ax_ne0 {X : ax_X} {h : ax_H} {H : Heap} (R : ax_Rep X h H) {a : Nat} (hk : (gS h a).1 < 23) : a ≠ 0 := by
  have := (ax_valid R hk).1; omega
/-- the pure heap changes at one cell only; the machine's likewise -/
theorem ax_set {X : ax_X} {h h1 : ax_H} {H H1 : Heap} (R : ax_Rep X h H) {a : Nat} (ha : (gS h a).1 < 23) (eN : gN h1 = gN h) (eS : ∀ b, gS h1 b = gS h b) (hoI : ∀ b, b ≠ a → gI h1 b = gI h b) (hoL : ∀ b, b ≠ a → gL h1 b = gL h b) (hoR : ∀ b, b ≠ a → gR h1 b = gR h b)
    (hz : H1.size = H.size) (ho : ∀ q, q ≠ ax_r X a → H1[q]? = H[q]?) (hc : ax_cell X h1 H1 a) : ax_Rep X h1 H1 := by
  obtain ⟨v1, v2⟩ := ax_valid R ha
  obtain ⟨r1, r2, r3, r4, r5, r6, r7, r8⟩ := R
  refine ⟨by rw [eN]; exact r1, by rw [hz, eN]; exact r2, fun b b1 b2 => ?_, fun q hq => ?_, fun b hb h40 => ?_, by rw [eS]; exact r6, fun j hj => ?_, r8⟩
  · by_cases hb : b = a
    · rw [hb]; exact hc
    · have hne : ax_r X b ≠ ax_r X a := fun e => hb (ax_r_inj b1 v1 e)
      have e1 : H1[ax_r X b]? = H[ax_r X b]? := ho _ hne
      have f1 := hoI b hb
      have f2 := hoL b hb
      have f3 := hoR b hb
      rcases r3 b b1 (by rw [← eN]; exact b2) with ⟨k1, k2⟩ | ⟨k1, k2, k3⟩
      · left
        rw [eS]
        refine ⟨k1, ?_⟩
        exact t_OB.to (t_OB.kept k2 e1) (fun k _ => by simp only [ax_fv, f1, f2, f3])
      · right
        rw [eS]
        refine ⟨k1, k2, ?_⟩
        unfold ax_row at k3 ⊢
        rw [e1, k3, eS]
        have : ax_av X h b (gS h b).1 = ax_av X h1 b (gS h b).1 := by
          funext j; simp only [ax_av, f1, f2, f3]
        rw [this]
  · rw [ho q (by rw [ax_r_hi v1]; omega)]; exact r4 q hq
  · rw [eS]; exact r5 b (by rw [← eN]; exact hb) h40
  · rw [hoI 40 (by omega)]; exact r7 j hj
theorem ax_gI_p (h : ax_H) (a k : Nat) (v : Int32) (b : Nat) : gI (pI h a k v) b = if b = a then upd (gI h a) k v else gI h b := by
  funext j
  by_cases e : b = a
  · subst e; by_cases e2 : j = k <;> simp [gI, pI, u2, upd, e2]
  · simp [gI, pI, u2, e]
theorem ax_putI {X : ax_X} {h : ax_H} {H H1 : Heap} (R : ax_Rep X h H) {a c k : Nat} {cell : Cell} {v : Int32} (hk : (gS h a).1 = c) (hc : c < 12) (hap : ∀ x y, x < ax_n c → y < ax_n c → x ≠ y → (xI X c) x ≠ (xI X c) y) (hn : k < ax_n c) (ht : ax_ft c k ≠ 1 ∧ ax_ft c k ≠ 2) (e0 : H[ax_r X a]? = some cell)
    (e1 : H1[ax_r X a]? = some (cell.setSlot (xI X c k) (.int v))) (e2 : H1.size = H.size) (e3 : ∀ q, q ≠ ax_r X a → H1[q]? = H[q]?) : ax_Rep X (pI h a k v) H1 := by
  refine ax_set R (by omega) rfl (fun _ => rfl) (fun b hb => by rw [ax_gI_p, if_neg hb]) (fun _ _ => rfl) (fun _ _ => rfl) e2 e3 ?_
  obtain ⟨cell', q1, q2, q3, q4⟩ := ax_getO R hk hc
  cases e0.symm.trans q1
  left
  refine ⟨by show (gS h a).1 < 12; omega, ?_⟩
  show ax_obj X (pI h a k v) H1 a (gS h a).1
  rw [hk]
  refine t_OB.to (V := updV (fun k => ax_fv X h a (ax_ft c k) k) k (.int v)) ⟨_, e1, q2, q3, t_set q4 hap hn (.int v)⟩ (fun j _ => ?_)
  by_cases e : j = k
  · subst e
    simp [updV, ax_fv, ht.1, ht.2, gI, pI, u2]
  · simp [updV, ax_fv, e, gI, pI, u2, gL, gR]
theorem ax_putL {X : ax_X} {h : ax_H} {H H1 : Heap} (R : ax_Rep X h H) {a c k : Nat} {cell : Cell} {v : Int64} (hk : (gS h a).1 = c) (hc : c < 12) (hap : ∀ x y, x < ax_n c → y < ax_n c → x ≠ y → (xI X c) x ≠ (xI X c) y) (hn : k < ax_n c) (ht : ax_ft c k = 1) (e0 : H[ax_r X a]? = some cell)
    (e1 : H1[ax_r X a]? = some (cell.setSlot (xI X c k) (.long v))) (e2 : H1.size = H.size) (e3 : ∀ q, q ≠ ax_r X a → H1[q]? = H[q]?) : ax_Rep X (pL h a k v) H1 := by
  refine ax_set R (by omega) rfl (fun _ => rfl) (fun _ _ => rfl) (fun b hb => by funext j; simp [gL, pL, u2, hb]) (fun _ _ => rfl) e2 e3 ?_
  obtain ⟨cell', q1, q2, q3, q4⟩ := ax_getO R hk hc
  cases e0.symm.trans q1
  left
  refine ⟨by show (gS h a).1 < 12; omega, ?_⟩
  show ax_obj X (pL h a k v) H1 a (gS h a).1
  rw [hk]
  refine t_OB.to (V := updV (fun k => ax_fv X h a (ax_ft c k) k) k (.long v)) ⟨_, e1, q2, q3, t_set q4 hap hn (.long v)⟩ (fun j _ => ?_)
  by_cases e : j = k
  · subst e
    simp [updV, ax_fv, ht, gL, pL, u2]
  · simp [updV, ax_fv, e, gI, pL, u2, gL, gR]
theorem ax_putR {X : ax_X} {h : ax_H} {H H1 : Heap} (R : ax_Rep X h H) {a c k : Nat} {cell : Cell} {v : Nat} (hk : (gS h a).1 = c) (hc : c < 12) (hap : ∀ x y, x < ax_n c → y < ax_n c → x ≠ y → (xI X c) x ≠ (xI X c) y) (hn : k < ax_n c) (ht : ax_ft c k = 2) (e0 : H[ax_r X a]? = some cell)
    (e1 : H1[ax_r X a]? = some (cell.setSlot (xI X c k) (ax_v X (.ref v)))) (e2 : H1.size = H.size) (e3 : ∀ q, q ≠ ax_r X a → H1[q]? = H[q]?) : ax_Rep X (pR h a k v) H1 := by
  refine ax_set R (by omega) rfl (fun _ => rfl) (fun _ _ => rfl) (fun _ _ => rfl) (fun b hb => by funext j; simp [gR, pR, u2, hb]) e2 e3 ?_
  obtain ⟨cell', q1, q2, q3, q4⟩ := ax_getO R hk hc
  cases e0.symm.trans q1
  left
  refine ⟨by show (gS h a).1 < 12; omega, ?_⟩
  show ax_obj X (pR h a k v) H1 a (gS h a).1
  rw [hk]
  refine t_OB.to (V := updV (fun k => ax_fv X h a (ax_ft c k) k) k (ax_v X (.ref v))) ⟨_, e1, q2, q3, t_set q4 hap hn (ax_v X (.ref v))⟩ (fun j _ => ?_)
  by_cases e : j = k
  · subst e
    simp [updV, ax_fv, ht, gR, pR, u2]
  · simp [updV, ax_fv, e, gI, pR, u2, gL, gR]
/-- a row's cell after a store -/
theorem ax_astI {X : ax_X} {h : ax_H} {H H1 : Heap} (R : ax_Rep X h H) {a c j : Nat} {v : Int32} (hk : (gS h a).1 = c) (hc : c = 16 ∨ c = 18 ∨ c = 19)
    (e1 : H1[ax_r X a]? = some ((arrV (xR X c) (gS h a).2 (ax_av X h a c)).setSlot j (.int v))) (e2 : H1.size = H.size) (e3 : ∀ q, q ≠ ax_r X a → H1[q]? = H[q]?) : ax_Rep X (pI h a j v) H1 := by
  refine ax_set R (by omega) rfl (fun _ => rfl) (fun b hb => by rw [ax_gI_p, if_neg hb]) (fun _ _ => rfl) (fun _ _ => rfl) e2 e3 ?_
  right
  refine ⟨by show 16 ≤ (gS h a).1; omega, by show (gS h a).1 < 23; omega, ?_⟩
  show H1[ax_r X a]? = some (arrV (xR X (gS h a).1) (gS h a).2 (ax_av X (pI h a j v) a (gS h a).1))
  rw [e1, hk, arrV_store]
  have : updV (ax_av X h a c) j (.int v) = ax_av X (pI h a j v) a c := by
    funext i
    by_cases e : i = j
    · subst e; simp only [updV, ax_av]; rcases hc with rfl | rfl | rfl <;> simp [gI, pI, u2]
    · simp only [updV, ax_av]; rcases hc with rfl | rfl | rfl <;> simp [gI, pI, u2, e]
  rw [this]
theorem ax_astL {X : ax_X} {h : ax_H} {H H1 : Heap} (R : ax_Rep X h H) {a j : Nat} {v : Int64} (hk : (gS h a).1 = 17)
    (e1 : H1[ax_r X a]? = some ((arrV (xR X 17) (gS h a).2 (ax_av X h a 17)).setSlot j (.long v))) (e2 : H1.size = H.size) (e3 : ∀ q, q ≠ ax_r X a → H1[q]? = H[q]?) : ax_Rep X (pL h a j v) H1 := by
  refine ax_set R (by omega) rfl (fun _ => rfl) (fun _ _ => rfl) (fun b hb => by funext j; simp [gL, pL, u2, hb]) (fun _ _ => rfl) e2 e3 ?_
  right
  refine ⟨by show 16 ≤ (gS h a).1; omega, by show (gS h a).1 < 23; omega, ?_⟩
  show H1[ax_r X a]? = some (arrV (xR X (gS h a).1) (gS h a).2 (ax_av X (pL h a j v) a (gS h a).1))
  rw [e1, hk, arrV_store]
  have : updV (ax_av X h a 17) j (.long v) = ax_av X (pL h a j v) a 17 := by
    funext i
    by_cases e : i = j
    · subst e; simp [updV, ax_av, gL, pL, u2]
    · simp [updV, ax_av, gL, pL, u2, e]
  rw [this]
theorem ax_astR {X : ax_X} {h : ax_H} {H H1 : Heap} (R : ax_Rep X h H) {a c j v : Nat} (hk : (gS h a).1 = c) (hc : 20 ≤ c) (hc2 : c < 23)
    (e1 : H1[ax_r X a]? = some ((arrV (xR X c) (gS h a).2 (ax_av X h a c)).setSlot j (ax_v X (.ref v)))) (e2 : H1.size = H.size) (e3 : ∀ q, q ≠ ax_r X a → H1[q]? = H[q]?) : ax_Rep X (pR h a j v) H1 := by
  refine ax_set R (by omega) rfl (fun _ => rfl) (fun _ _ => rfl) (fun _ _ => rfl) (fun b hb => by funext j; simp [gR, pR, u2, hb]) e2 e3 ?_
  right
  refine ⟨by show 16 ≤ (gS h a).1; omega, by show (gS h a).1 < 23; omega, ?_⟩
  show H1[ax_r X a]? = some (arrV (xR X (gS h a).1) (gS h a).2 (ax_av X (pR h a j v) a (gS h a).1))
  rw [e1, hk, arrV_store]
  have n1 : ¬ c = 17 := by omega
  have n2 : ¬ c < 20 := by omega
  have : updV (ax_av X h a c) j (ax_v X (.ref v)) = ax_av X (pR h a j v) a c := by
    funext i
    by_cases e : i = j
    · subst e; simp [updV, ax_av, n1, n2, gR, pR, u2]
    · simp [updV, ax_av, n1, n2, gR, pR, u2, e]
  rw [this]
/-- a whole row anew -/
theorem ax_rowI {X : ax_X} {h : ax_H} {H H1 : Heap} (R : ax_Rep X h H) {a c : Nat} {f : Nat → Int32} (hk : (gS h a).1 = c) (hc : c = 16 ∨ c = 18 ∨ c = 19)
    (e1 : H1[ax_r X a]? = some (arrV (xR X c) (gS h a).2 (fun j => .int (f j)))) (e2 : H1.size = H.size) (e3 : ∀ q, q ≠ ax_r X a → H1[q]? = H[q]?) : ax_Rep X (rI h a f) H1 := by
  refine ax_set R (by omega) rfl (fun _ => rfl) (fun b hb => ax_u1n (f := h.2.2.2.1) hb) (fun _ _ => rfl) (fun _ _ => rfl) e2 e3 ?_
  right
  refine ⟨by show 16 ≤ (gS h a).1; omega, by show (gS h a).1 < 23; omega, ?_⟩
  show H1[ax_r X a]? = some (arrV (xR X (gS h a).1) (gS h a).2 (ax_av X (rI h a f) a (gS h a).1))
  rw [e1, hk]
  have : (fun j => Value.int (f j)) = ax_av X (rI h a f) a c := by
    funext i
    simp only [ax_av]; rcases hc with rfl | rfl | rfl <;> simp [gI, rI, u1]
  rw [this]
theorem ax_rowL {X : ax_X} {h : ax_H} {H H1 : Heap} (R : ax_Rep X h H) {a : Nat} {f : Nat → Int64} (hk : (gS h a).1 = 17)
    (e1 : H1[ax_r X a]? = some (arrV (xR X 17) (gS h a).2 (fun j => .long (f j)))) (e2 : H1.size = H.size) (e3 : ∀ q, q ≠ ax_r X a → H1[q]? = H[q]?) : ax_Rep X (rL h a f) H1 := by
  refine ax_set R (by omega) rfl (fun _ => rfl) (fun _ _ => rfl) (fun b hb => ax_u1n (f := h.2.2.2.2.1) hb) (fun _ _ => rfl) e2 e3 ?_
  right
  refine ⟨by show 16 ≤ (gS h a).1; omega, by show (gS h a).1 < 23; omega, ?_⟩
  show H1[ax_r X a]? = some (arrV (xR X (gS h a).1) (gS h a).2 (ax_av X (rL h a f) a (gS h a).1))
  rw [e1, hk]
  have : (fun j => Value.long (f j)) = ax_av X (rL h a f) a 17 := by
    funext i
    simp [ax_av, gL, rL, u1]
  rw [this]
/-- a new cell -/
theorem ax_new {X : ax_X} {h : ax_H} {H H1 : Heap} (R : ax_Rep X h H) {kd len z : Nat} (hz : H1.size = H.size + 1) (ho : ∀ q, q < H.size → H1[q]? = H[q]?) (hc : ax_cell X (nW h kd len z) H1 (gN h)) : ax_Rep X (nW h kd len z) H1 := by
  obtain ⟨r1, r2, r3, r4, r5, r6, r7, r8⟩ := R
  have eN : gN (nW h kd len z) = gN h + 1 := rfl
  have eS : ∀ b, b ≠ gN h → gS (nW h kd len z) b = gS h b := fun b hb => ax_u1n (f := h.2.2.1) (show b ≠ h.1 from hb)
  have f1 : ∀ b, b ≠ gN h → gI (nW h kd len z) b = gI h b := fun b hb => ax_u1n (f := h.2.2.2.1) (show b ≠ h.1 from hb)
  have f2 : ∀ b, b ≠ gN h → gL (nW h kd len z) b = gL h b := fun b hb => ax_u1n (f := h.2.2.2.2.1) (show b ≠ h.1 from hb)
  have f3 : ∀ b, b ≠ gN h → gR (nW h kd len z) b = gR h b := fun b hb => ax_u1n (f := h.2.2.2.2.2) (show b ≠ h.1 from hb)
  refine ⟨by omega, by rw [hz, r2, eN]; omega, fun b b1 b2 => ?_, fun q hq => by rw [ho q (by omega)]; exact r4 q hq, fun b hb h40 => by rw [eS b (by omega)]; exact r5 b (by omega) h40, by rw [eS 40 (by omega)]; exact r6, fun j hj => by rw [f1 40 (by omega)]; exact r7 j hj, r8⟩
  by_cases hb : b = gN h
  · rw [hb]; exact hc
  · have e1 : H1[ax_r X b]? = H[ax_r X b]? := ho _ (by rw [ax_r_hi b1, r2]; omega)
    rcases r3 b b1 (by omega) with ⟨k1, k2⟩ | ⟨k1, k2, k3⟩
    · left
      rw [eS b hb]
      exact ⟨k1, t_OB.to (t_OB.kept k2 e1) (fun k _ => by simp only [ax_fv, f1 b hb, f2 b hb, f3 b hb])⟩
    · right
      rw [eS b hb]
      refine ⟨k1, k2, ?_⟩
      unfold ax_row at k3 ⊢
      rw [e1, k3, eS b hb]
      have : ax_av X h b (gS h b).1 = ax_av X (nW h kd len z) b (gS h b).1 := by
        funext j; simp only [ax_av, f1 b hb, f2 b hb, f3 b hb]
      rw [this]
