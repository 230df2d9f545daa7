/-! rows of rows: one instruction of the claim makes 47 rows of 13 longs -/
section AXG
variable {E : CtlPost} {e : Env} {d : Bool} {acts : List Action} {s : State}
/-- making one row -/
theorem ax_wpRow {c comp : ClassId} {k : Class} {type : FieldType} {len : Nat} {init : Value} (hk : s.vm.classes[c]? = some k) (hkind : k.kind = .array comp type) (hlimit : ¬ len > e.platform.arrayLengthLimit) (hheap : ¬ len * componentBytes type > e.platform.maxHeapBytes) (hfit : fits type init = true) (hdef : init.isDefault = true) {Q : Addr → Pre}
    (h1 : s.heap.size < e.platform.maxCells) (h2 : s.slotsUsed + len ≤ e.platform.maxSlots) (hq : Q s.heap.size d acts (s.pushCell (arrV c len (fun _ => init)))) : wp (Jvm.newArray c len init) Q E e d acts s := by
  rw [← arrV_new] at hq
  have hfits : ∀ i v, (Array.replicate len init)[i]? = some v → s.fitsSlot c .none i v = true := fun i v hv => by
    rw [Array.getElem?_replicate] at hv
    split at hv
    · cases hv; simp [State.fitsSlot, State.slotType?, hk, hkind, hfit]
    · cases hv
  have hall : ((Array.replicate len init).all (·.isDefault)) = true := by
    rw [Array.all_replicate]; split <;> simp [hdef]
  have hda : allocActs (Array.replicate len init) s.heap.size acts = acts := by
    rw [allocActs, if_pos hall]
  simp only [Jvm.newArray, Jvm.arrayFits, wp_bind', W.ask, W.ite, hlimit, if_false, wp_pure', W.theClass, hk, hkind, hheap, W.alloc, W.stop, Option.some.injEq, exists_eq_left', Array.size_replicate, hda]
  rw [if_neg (by omega)]
  exact ⟨h1, h2, hfits, hq⟩
end AXG
/-- the outer row when i rows are in it; the state then -/
def ax_go (c : ClassId) (N h0 i : Nat) : Cell := arrV c N (fun j => if j < i then .ref (h0 + 1 + j) else .null)
theorem ax_go_set (c : ClassId) (N h0 i : Nat) : (ax_go c N h0 i).setSlot i (.ref (h0 + 1 + i)) = ax_go c N h0 (i + 1) := by
  unfold ax_go
  rw [arrV_store]
  congr 1
  funext j
  unfold updV
  by_cases h : j = i
  · subst h; simp
  · rw [if_neg h]
    show (if j < i then Value.ref (h0 + 1 + j) else Value.null) = _
    by_cases h2 : j < i
    · rw [if_pos h2, if_pos (by omega)]
    · rw [if_neg h2, if_neg (by omega)]
def ax_gt (s : State) (c comp : ClassId) (N M : Nat) : Nat → State
  | 0 => s.pushCell (ax_go c N s.heap.size 0)
  | i + 1 => ((ax_gt s c comp N M i).pushCell (arrV comp M (fun _ => .long 0))).setCell s.heap.size (ax_go c N s.heap.size (i + 1))
theorem ax_gt_f (s : State) (c comp : ClassId) (N M : Nat) : ∀ i, (ax_gt s c comp N M i).heap.size = s.heap.size + 1 + i ∧ (ax_gt s c comp N M i).heap[s.heap.size]? = some (ax_go c N s.heap.size i) ∧ (ax_gt s c comp N M i).vm = s.vm ∧ (ax_gt s c comp N M i).slotsUsed = s.slotsUsed + N + i * M
  | 0 => ⟨by simp [ax_gt], by simp [ax_gt], rfl, by simp [ax_gt, ax_go, arrV_size]⟩
  | i + 1 => by
    obtain ⟨a, b, d, u⟩ := ax_gt_f s c comp N M i
    have hlt : s.heap.size < (ax_gt s c comp N M i).heap.size := by omega
    have hb' : ((ax_gt s c comp N M i).pushCell (arrV comp M (fun _ => .long 0))).heap[s.heap.size]? = some (ax_go c N s.heap.size i) := by rw [State.heap_pushCell_of_lt (h := hlt)]; exact b
    refine ⟨?_, State.heap_setCell_self hb', by simp [ax_gt, d], ?_⟩
    · simp [ax_gt, State.setCell, a]; omega
    · simp [ax_gt, u, arrV_size, Nat.succ_mul]; omega
theorem ax_gt_top (s : State) (f : JFrame) (c comp : ClassId) (N M : Nat) : ∀ i, ax_gt (s.setTop f) c comp N M i = (ax_gt s c comp N M i).setTop f
  | 0 => rfl
  | i + 1 => by simp only [ax_gt, ax_gt_top s f c comp N M i, State.heap_setTop, State.pushCell_setTop, State.setCell_setTop]
theorem ax_gt_old (s : State) (c comp : ClassId) (N M : Nat) {a : Addr} (ha : a < s.heap.size) : ∀ i, (ax_gt s c comp N M i).heap[a]? = s.heap[a]?
  | 0 => State.heap_pushCell_of_lt _ _ ha
  | i + 1 => by
    have f1 := (ax_gt_f s c comp N M i).1
    show (((ax_gt s c comp N M i).pushCell _).setCell s.heap.size _).heap[a]? = _
    rw [State.heap_setCell_other (Nat.ne_of_gt ha), State.heap_pushCell_of_lt (h := Nat.lt_of_lt_of_le ha (by rw [f1]; omega))]
    exact ax_gt_old s c comp N M ha i
theorem ax_gt_new (s : State) (c comp : ClassId) (N M : Nat) : ∀ i j, j < i → (ax_gt s c comp N M i).heap[s.heap.size + 1 + j]? = some (arrV comp M (fun _ => .long 0))
  | 0, _, h => absurd h (Nat.not_lt_zero _)
  | i + 1, j, h => by
    have f1 := (ax_gt_f s c comp N M i).1
    show (((ax_gt s c comp N M i).pushCell _).setCell s.heap.size _).heap[s.heap.size + 1 + j]? = _
    rw [State.heap_setCell_other (show s.heap.size ≠ s.heap.size + 1 + j by omega)]
    by_cases hj : j < i
    · rw [State.heap_pushCell_of_lt (h := show s.heap.size + 1 + j < (ax_gt s c comp N M i).heap.size by rw [f1]; omega)]
      exact ax_gt_new s c comp N M i j hj
    · have e : j = i := by omega
      subst e
      rw [← f1]
      exact State.heap_pushCell_size _ _
section AXG2
variable {E : CtlPost} {e : Env} {d : Bool} {acts : List Action} {s : State}
theorem ax_wpRows {c comp cc : ClassId} {k kc : Class} {n m : Int32} (hk : s.vm.classes[c]? = some k) (hkind : k.kind = .array comp (.array .long)) (hkc : s.vm.classes[comp]? = some kc) (hkindc : kc.kind = .array cc .long) (hn : ¬ n < 0) (hm : ¬ m < 0)
    (hl1 : ¬ n.toNatClampNeg > e.platform.arrayLengthLimit) (hh1 : ¬ n.toNatClampNeg * componentBytes (.array .long) > e.platform.maxHeapBytes) (hl2 : ¬ m.toNatClampNeg > e.platform.arrayLengthLimit) (hh2 : ¬ m.toNatClampNeg * componentBytes .long > e.platform.maxHeapBytes)
    (hc : s.heap.size + 1 + n.toNatClampNeg ≤ e.platform.maxCells) (hs : s.slotsUsed + n.toNatClampNeg + n.toNatClampNeg * m.toNatClampNeg ≤ e.platform.maxSlots)
    {Q : Addr → Pre} (hq : ∀ d' acts', Q s.heap.size d' acts' (ax_gt s c comp n.toNatClampNeg m.toNatClampNeg n.toNatClampNeg)) : wp (multianewarray.make c [n, m]) Q E e d acts s := by
  have hfind : ([m].find? (· < 0)) = none := by simp [hm]
  rw [multianewarray.make]
  simp only [wp_bind', W.ite, hn, if_false, wp_pure', W.theClass, hk, hkind, Option.some.injEq, exists_eq_left']
  refine ax_wpRow hk hkind hl1 hh1 rfl rfl (by omega) (by have := Nat.zero_le (n.toNatClampNeg * m.toNatClampNeg); omega) ?_
  simp only [hfind]
  rw [ite_self, wp_bind', Std.Legacy.Range.forIn_eq_forIn_range']
  have hsz : ([:n.toNatClampNeg] : Std.Legacy.Range).size = n.toNatClampNeg := by simp [Std.Legacy.Range.size]
  rw [hsz]
  show wp (forIn (List.range' 0 n.toNatClampNeg 1) PUnit.unit _) _ E e d acts _
  refine wp_forIn_inv (fun rest s' => ∃ i, i ≤ n.toNatClampNeg ∧ rest = List.range' i (n.toNatClampNeg - i) ∧ s' = ax_gt s c comp n.toNatClampNeg m.toNatClampNeg i) _ _ ⟨0, Nat.zero_le _, rfl, by unfold ax_gt ax_go; simp⟩ ?_ ?_
  · rintro x rest s' d' acts' Q' ⟨i, hi, hl, rfl⟩ hnext
    have hlt : i < n.toNatClampNeg := by
      rcases Nat.lt_or_ge i n.toNatClampNeg with h | h
      · exact h
      · rw [show n.toNatClampNeg - i = 0 by omega] at hl; simp at hl
    rw [show n.toNatClampNeg - i = (n.toNatClampNeg - (i + 1)) + 1 by omega, List.range'_succ] at hl
    obtain ⟨rfl, hrest⟩ := List.cons.inj hl
    obtain ⟨f1, f2, f3, f4⟩ := ax_gt_f s c comp n.toNatClampNeg m.toNatClampNeg x
    have hmul : x * m.toNatClampNeg + m.toNatClampNeg ≤ n.toNatClampNeg * m.toNatClampNeg := by
      have := Nat.mul_le_mul_right m.toNatClampNeg (show x + 1 ≤ n.toNatClampNeg from hlt)
      rw [Nat.succ_mul] at this; exact this
    have hkc' : (ax_gt s c comp n.toNatClampNeg m.toNatClampNeg x).vm.classes[comp]? = some kc := by rw [f3]; exact hkc
    simp only [wp_bind']
    rw [multianewarray.make]
    simp only [wp_bind', W.ite, hm, if_false, wp_pure', W.theClass, hkc', hkindc, Option.some.injEq, exists_eq_left']
    refine ax_wpRow hkc' hkindc hl2 hh2 rfl rfl (by rw [f1]; omega) (by rw [f4]; omega) ?_
    have hlt0 : s.heap.size < (ax_gt s c comp n.toNatClampNeg m.toNatClampNeg x).heap.size := by rw [f1]; omega
    simp only [wp_bind', W.writeLoc, wp_pure']
    refine ⟨ax_go c n.toNatClampNeg s.heap.size x, by rw [State.heap_pushCell_of_lt (h := hlt0)]; exact f2, (fun h => by cases h), by unfold ax_go; rw [arrV_size]; exact hlt, ?_, hnext _ _ _ ⟨x + 1, hlt, hrest, ?_⟩⟩
    · simp [State.fitsSlot, State.slotType?, f3, hk, hkind, ax_go, arrV, fits]
    · rw [f1, ax_go_set]; rfl
  · rintro s' d' acts' ⟨i, hi, hl, rfl⟩
    have hiN : i = n.toNatClampNeg := by
      rcases Nat.lt_or_ge i n.toNatClampNeg with h | h
      · rw [show n.toNatClampNeg - i = (n.toNatClampNeg - (i + 1)) + 1 by omega, List.range'_succ] at hl; cases hl
      · omega
    subst hiN
    simp only [wp_pure']
    exact hq _ _
end AXG2
section AXG3
variable {X : ax_X} {p : Program} {l : Launch} {e : Env} {R : Room} {s : State} {m : MethodId} {args : Array Value} {below : List Frame} {meth : Method} {c : Code} {T : State} {locs : List Loc} {cells slots : Nat}
theorem ax_gt_stand (S : Stand p l e R s m args below meth c T locs cells slots) (cA comp : ClassId) (N M : Nat) : ∀ i, Stand p l e R s m args below meth c (ax_gt T cA comp N M i) (locs ++ (List.range i).map fun j => ⟨T.heap.size, j⟩) (cells + 1 + i) (slots + N + i * M)
  | 0 => by
    have h := S.pushed (ax_go cA N T.heap.size 0)
    rw [show (ax_go cA N T.heap.size 0).slots.size = N from arrV_size _ _ _] at h
    simpa [ax_gt] using h
  | i + 1 => by
    have Si := ax_gt_stand S cA comp N M i
    obtain ⟨f1, f2, f3, f4⟩ := ax_gt_f T cA comp N M i
    have hlt0 : T.heap.size < (ax_gt T cA comp N M i).heap.size := by rw [f1]; omega
    have h := (Si.pushed (arrV comp M (fun _ => .long 0))).stored (cell := ax_go cA N T.heap.size i) (a := T.heap.size) (by rw [State.heap_pushCell_of_lt (h := hlt0)]; exact f2) i (.ref (T.heap.size + 1 + i))
    rw [arrV_size, ax_go_set] at h
    have e2 : (locs ++ (List.range (i + 1)).map fun j => (⟨T.heap.size, j⟩ : Loc)) = (locs ++ (List.range i).map fun j => (⟨T.heap.size, j⟩ : Loc)) ++ [⟨T.heap.size, i⟩] := by simp [List.range_succ, List.append_assoc]
    rw [e2, show slots + N + (i + 1) * M = slots + N + i * M + M by rw [Nat.succ_mul]; omega]
    exact h
end AXG3
theorem ax_newG {X : ax_X} {h : ax_H} {H H1 : Heap} (R : ax_Rep X h H) (hz : H1.size = H.size + 1 + 47) (ho : ∀ q, q < H.size → H1[q]? = H[q]?) (h0 : H1[H.size]? = some (arrV (xR X 22) 47 (fun j => if j < 47 then .ref (H.size + 1 + j) else .null))) (hi : ∀ j, j < 47 → H1[H.size + 1 + j]? = some (arrV (xR X 17) 13 (fun _ => .long 0))) : ax_Rep X (nG h 22 17 47 13) H1 := by
  obtain ⟨r1, r2, r3, r4, r5, r6, r7, r8⟩ := R
  have eN : gN (nG h 22 17 47 13) = gN h + 48 := rfl
  have eS0 : gS (nG h 22 17 47 13) (gN h) = (22, 47) := if_pos rfl
  have eS1 : ∀ b, gN h < b → b ≤ gN h + 47 → gS (nG h 22 17 47 13) b = (17, 13) := fun b b1 b2 => by
    show (if b = h.1 then _ else if h.1 < b ∧ b ≤ h.1 + 47 then _ else _) = _
    rw [if_neg (show ¬ b = h.1 from fun e => by have : b = gN h := e; omega), if_pos ⟨b1, b2⟩]
  have eS : ∀ b, (b < gN h ∨ gN h + 47 < b) → gS (nG h 22 17 47 13) b = gS h b := fun b hb => by
    show (if b = h.1 then _ else if h.1 < b ∧ b ≤ h.1 + 47 then _ else _) = _
    rw [if_neg (show ¬ b = h.1 from fun e => by have : b = gN h := e; omega), if_neg (show ¬ (h.1 < b ∧ b ≤ h.1 + 47) from fun q => by have : gN h < b ∧ b ≤ gN h + 47 := q; omega)]
    rfl
  have ef : ∀ b, (b < gN h ∨ gN h + 47 < b) → gI (nG h 22 17 47 13) b = gI h b ∧ gL (nG h 22 17 47 13) b = gL h b ∧ gR (nG h 22 17 47 13) b = gR h b := fun b hb => by
    have n1 : ¬ (h.1 ≤ b ∧ b ≤ h.1 + 47) := fun q => by have : gN h ≤ b ∧ b ≤ gN h + 47 := q; omega
    have n2 : ¬ b = h.1 := fun e => by have : b = gN h := e; omega
    refine ⟨if_neg n1, if_neg n1, ?_⟩
    show (if b = h.1 then _ else if h.1 ≤ b ∧ b ≤ h.1 + 47 then _ else _) = _
    rw [if_neg n2, if_neg n1]
    rfl
  have eL1 : ∀ b, gN h ≤ b → b ≤ gN h + 47 → gL (nG h 22 17 47 13) b = fun _ => 0 := fun b b1 b2 => if_pos ⟨b1, b2⟩
  have eR0 : gR (nG h 22 17 47 13) (gN h) = fun y => if y < 47 then gN h + 1 + y else 0 := if_pos rfl
  refine ⟨by omega, by rw [hz, r2, eN]; omega, fun b b1 b2 => ?_, fun q hq => by rw [ho q (by omega)]; exact r4 q hq, fun b hb h40 => by rw [eS b (by omega)]; exact r5 b (by omega) h40, by rw [eS 40 (by omega)]; exact r6, fun j hj => by rw [(ef 40 (by omega)).1]; exact r7 j hj, r8⟩
  rw [eN] at b2
  by_cases hb : b = gN h
  · subst hb
    right
    rw [eS0]
    refine ⟨by show 16 ≤ 22; omega, by show 22 < 23; omega, ?_⟩
    unfold ax_row
    rw [eS0, ax_r_hi b1, ← r2, h0]
    have : (fun j => if j < 47 then Value.ref (H.size + 1 + j) else Value.null) = ax_av X (nG h 22 17 47 13) (gN h) 22 := by
      funext j
      show (if j < 47 then Value.ref (H.size + 1 + j) else Value.null) = ax_v X (.ref (gR (nG h 22 17 47 13) (gN h) j))
      rw [eR0]
      show _ = ax_v X (.ref (if j < 47 then gN h + 1 + j else 0))
      by_cases hj : j < 47
      · rw [if_pos hj, if_pos hj, ax_v_ref (by omega), ax_r_hi (by omega), r2]
        have e9 : xB X + (gN h - 64) + 1 + j = xB X + (gN h + 1 + j - 64) := by
          have e8 : gN h = gN h - 64 + 64 := by omega
          omega
        rw [e9]
      · rw [if_neg hj, if_neg hj, ax_v_null]
    rw [this]
  · by_cases hb2 : gN h < b ∧ b ≤ gN h + 47
    · right
      rw [eS1 b hb2.1 hb2.2]
      refine ⟨by show 16 ≤ 17; omega, by show 17 < 23; omega, ?_⟩
      unfold ax_row
      rw [eS1 b hb2.1 hb2.2, ax_r_hi b1, show xB X + (b - 64) = H.size + 1 + (b - gN h - 1) by rw [r2]; omega, hi _ (by omega)]
      have : (fun _ => Value.long 0) = ax_av X (nG h 22 17 47 13) b 17 := by
        funext j
        unfold ax_av
        rw [if_pos rfl, eL1 b (by omega) (by omega)]
      rw [this]
    · have e1 : H1[ax_r X b]? = H[ax_r X b]? := ho _ (by rw [ax_r_hi b1, r2]; omega)
      have es := eS b (by omega)
      obtain ⟨g1, g2, g3⟩ := ef b (by omega)
      rcases r3 b b1 (by omega) with ⟨k1, k2⟩ | ⟨k1, k2, k3⟩
      · left
        rw [es]
        exact ⟨k1, t_OB.to (t_OB.kept k2 e1) (fun k _ => by simp only [ax_fv, g1, g2, g3])⟩
      · right
        rw [es]
        refine ⟨k1, k2, ?_⟩
        unfold ax_row at k3 ⊢
        rw [e1, k3, es]
        have : ax_av X h b (gS h b).1 = ax_av X (nG h 22 17 47 13) b (gS h b).1 := by
          funext j; simp only [ax_av, g1, g2, g3]
        rw [this]
section AXG4
variable {α : Type} {X : ax_X} {p : Program} {l : Launch} {e : Env} {R : Room} {s : State} {m : MethodId} {args : Array Value} {below : List Frame} {meth : Method} {c : Code} {Q : State → Prop} {cc : ByteArray} {nL n0 z0 : Nat} {hf : ax_H}
variable {own : String} {ls : ax_L} {st : List Value} {h : ax_H} {k : ax_L → List Value → ax_H → Option α} {res : α}
set_option maxHeartbeats 4000000 in
theorem ax_mn_ok (hexec : p.tables.exec = Jvm.exec) (hb : c.code = cc) (hts : ∀ w ∈ ax_G, w.before args s = true) (hown : s.vm.findClass own = some m.cls) (hK : ax_K X s) (hRc : gN hf ≤ n0 + R.cells) (hRz : gZ hf ≤ z0 + R.slots) {pc idx : Nat} (hlink : Cond.classLink own idx "[[J" ∈ ax_G) (harr : Cond.arrayClass .long ∈ ax_G) (hd : decode cc pc = .ok (.multianewarray idx 2, 4))
    (kk : ∀ ls' st' h1, k ls' st' h1 = some res → ax_W X p l e R s m args below meth c nL Q n0 z0 hf (pc + 4) ls' st' h1) (hs : ax_mn st h (fun r h1 => k ls r h1) = some res) : ax_W X p l e R s m args below meth c nL Q n0 z0 hf pc ls st h := by
  unfold ax_mn at hs
  split at hs
  · rename_i k2 n r
    split at hs
    · rename_i hnk
      obtain ⟨rfl, rfl⟩ := hnk
      have k1 := kk _ _ _ hs
      have b1 : gN h + 48 ≤ gN hf := k1.1
      have b2 : gZ h + (47 + 47 * 13) ≤ gZ hf := k1.2.1
      refine ⟨by omega, by omega, fun a1 a2 H locs lsr hR hlo hl => ?_⟩
      simp only [List.map_cons, ax_v_int]
      intro T hT S
      have hover : (Jvm.Cond.arrayOver (.array .long)).before args s = true := hK.2.2.2.1.2.2.1
      have hpl : e.platform.magicAccessors = ({} : Platform).magicAccessors := by rw [S.admits.platform]
      obtain ⟨comp, cA, kA, hcomp, hidx, hkA, hkindA, hnameA⟩ := arrayOverA_spec hover
      obtain ⟨comp', kC, cc', hcomp', hkC, hkindC⟩ := Cond.arrayClass_spec (hts _ harr)
      have ecomp : comp' = comp := Option.some.inj (hcomp'.symm.trans hcomp)
      subst ecomp
      have h22 := (ax_Ka hK (c := 22) (by omega) (by omega)).2
      have h17 := (ax_Ka hK (c := 17) (by omega) (by omega)).2
      have e22 : cA = xR X 22 := Option.some.inj (hnameA.symm.trans h22)
      have e17 : comp' = xR X 17 := Option.some.inj (hcomp'.symm.trans h17)
      obtain ⟨c0, hfc0, hcl⟩ := Cond.classLink_spec hown (hts _ hlink) e.platform hpl
      have ec0 : c0 = cA := Option.some.inj (hfc0.symm.trans hnameA)
      subst ec0
      obtain ⟨hg₁, hwarm₁, hready₁⟩ := State.classEntry (e := e) S.warmed hcl
      generalize T.vm.noted m.cls idx (.cls c0) = vm₁ at hg₁ hwarm₁ hready₁
      have hal : s.vm.Alike vm₁ := hwarm₁.alike
      obtain ⟨kA₁, hkA₁, heA⟩ := hal.2.2 _ _ hkA
      obtain ⟨kC₁, hkC₁, heC⟩ := hal.2.2 _ _ hkC
      have hkindA₁ : kA₁.kind = .array comp' (.array .long) := by rw [heA]; exact hkindA
      have hkindC₁ : kC₁.kind = .array cc' .long := by rw [heC]; exact hkindC
      have S₁ := S.noted hwarm₁
      obtain ⟨hr1, hr2⟩ := S.roomAbove (a := 48) (b := 47 + 47 * 13) (by omega) (by omega)
      have SF := ax_gt_stand S₁ c0 comp' 47 13 47
      obtain ⟨f1, f2, f3, f4⟩ := ax_gt_f (T.setVm vm₁) c0 comp' 47 13 47
      have hsz : (T.setVm vm₁).heap.size = H.size := by show T.heap.size = _; rw [hT]
      have hRep : ax_Rep X (nG h 22 17 47 13) (ax_gt (T.setVm vm₁) c0 comp' 47 13 47).heap := by
        refine ax_newG hR (by rw [f1, hsz]) (fun q hq => ?_) ?_ (fun j hj => ?_)
        · rw [ax_gt_old _ _ _ _ _ (by rw [hsz]; exact hq)]
          show T.heap[q]? = _
          rw [hT]
        · rw [← hsz, f2, ← e22]; rfl
        · rw [← hsz, ax_gt_new _ _ _ _ _ 47 j hj, ← e17]
      have w := k1.2.2 (by show n0 ≤ gN h + 48; omega) (by show z0 ≤ gZ h + (47 + 47 * 13); omega) _ (locs ++ (List.range 47).map fun j => ⟨T.heap.size, j⟩) lsr hRep (fun q hq => by
        rcases List.mem_append.mp hq with h | h
        · exact hlo q h
        · obtain ⟨j, -, rfl⟩ := List.mem_map.mp h
          show xB X ≤ T.heap.size
          rw [hT, hR.2.1]; omega) hl
      rw [List.map_cons, ax_vN hR] at w
      have w2 := W.cs (show gN h - n0 + 1 + 47 = gN h + 48 - n0 by omega) (show gZ h - z0 + 47 + 47 * 13 = gZ h + (47 + 47 * 13) - z0 by omega) w
      obtain ⟨t, a1', b1'⟩ := w2 _ rfl SF
      refine ⟨t, ?_, b1'⟩
      have hl1 : ¬ (47 : Int32).toNatClampNeg > e.platform.arrayLengthLimit := by rw [Launch.admits_arrayLengthLimit S.admits]; decide
      have hh1 : ¬ (47 : Int32).toNatClampNeg * componentBytes (.array .long) > e.platform.maxHeapBytes := by rw [Launch.admits_maxHeapBytes S.admits]; decide
      have hl2 : ¬ (13 : Int32).toNatClampNeg > e.platform.arrayLengthLimit := by rw [Launch.admits_arrayLengthLimit S.admits]; decide
      have hh2 : ¬ (13 : Int32).toNatClampNeg * componentBytes .long > e.platform.maxHeapBytes := by rw [Launch.admits_maxHeapBytes S.admits]; decide
      jvm_step S.here [hexec, hb, hd]
      simp only [multianewarray.sem, wp_bind', W.resolveClassAt_links (State.method?_setTop (F0 m pc lsr (.int 13 :: .int 47 :: r.map (ax_v X))) S.here.top) hg₁]
      rw [W.popN, if_neg (by decide)]
      refine ⟨F0 m pc lsr (.int 13 :: .int 47 :: r.map (ax_v X)), State.topJava?_setTop' (s := T.setVm vm₁) _ S.here.top, [.int 47, .int 13], r.map (ax_v X), rfl, rfl, ?_⟩
      simp only [List.mapM_cons, List.mapM_nil, wp_bind', wp_pure']
      refine ax_wpRows (k := kA₁) (kc := kC₁) (comp := comp') (cc := cc') hkA₁ hkindA₁ hkC₁ hkindC₁ (by decide) (by decide) hl1 hh1 hl2 hh2 (by show T.heap.size + 1 + 47 ≤ _; omega) (by show T.slotsUsed + 47 + 47 * 13 ≤ _; omega) (fun d' acts' => ?_)
      have eS : ((T.setTop (F0 m pc lsr (.int 13 :: .int 47 :: r.map (ax_v X)))).setVm vm₁).setTop { (F0 m pc lsr (.int 13 :: .int 47 :: r.map (ax_v X))) with stack := r.map (ax_v X) } = (T.setVm vm₁).setTop { (F0 m pc lsr (.int 13 :: .int 47 :: r.map (ax_v X))) with stack := r.map (ax_v X) } := by
        show ((T.setVm vm₁).setTop _).setTop _ = _
        rw [State.setTop_setTop]
      rw [eS, ax_gt_top]
      have e47 : Int32.toNatClampNeg 47 = 47 := rfl
      have e13 : Int32.toNatClampNeg 13 = 13 := rfl
      rw [e47, e13]
      simp only [wp_bind', W.mark, W.pushRef, State.topJava?_setTop' _ SF.here.top, Option.some.injEq, exists_eq_left', State.setTop_setTop, State.heap_setTop]
      intro acts
      simp [jvm, SF.here.top]
      rw [← hT] at a1'
      exact a1'
    · cases hs
  · cases hs
end AXG4
