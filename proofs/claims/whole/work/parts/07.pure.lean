/-! ONE INSTRUCTION: the pure machine's step is the machine's. First those that leave the heap as it is -/
def ax_q (X : ax_X) (q : Nat × Value) : Nat × Value := (q.1, ax_v X q.2)
theorem ax_get_mem {ls : ax_L} {i : Nat} {v : Value} (h : ax_get ls i = some v) : (i, v) ∈ ls := by
  induction ls with
  | nil => simp [ax_get] at h
  | cons q t ih =>
    unfold ax_get at h
    by_cases e : q.1 = i
    · rw [if_pos (by simpa using e)] at h
      cases h
      subst e
      exact List.mem_cons_self
    · rw [if_neg (by simpa using e)] at h
      exact List.mem_cons_of_mem _ (ih h)
theorem ax_get_at {X : ax_X} {lsr : Array Slot} {nL : Nat} {ls : ax_L} {i : Nat} {v : Value} (hl : lv_has lsr nL (ls.map (ax_q X))) (h : ax_get ls i = some v) : lsr[i]? = some (.val (ax_v X v)) :=
  hl.2.2 (i, ax_v X v) (List.mem_map.mpr ⟨(i, v), ax_get_mem h, rfl⟩)
theorem ax_c1_map (X : ax_X) (i : Nat) (ls : ax_L) : (ls.map (ax_q X)).filter (fun q => !(q.1 == i) && !(q.1 + 1 == i && q.2.category == 2)) = (ax_c1 i ls).map (ax_q X) := by
  rw [ax_c1, List.filter_map]
  congr 2
  funext q
  simp [ax_q, ax_v_cat]
theorem ax_c2_map (X : ax_X) (i : Nat) (ls : ax_L) : (ls.map (ax_q X)).filter (fun q => !(q.1 == i) && (!(q.1 == i + 1) && !(q.1 + 1 == i && q.2.category == 2))) = (ax_c2 i ls).map (ax_q X) := by
  rw [ax_c2, List.filter_map]
  congr 2
  funext q
  simp [ax_q, ax_v_cat]
theorem ax_keep_mem {ls : ax_L} {q : Nat × Value} : ∀ (n m : Nat), q ∈ ax_keep ls n m → q ∈ ls
  | 0, m, h => by simp [ax_keep] at h
  | n + 1, m, h => by
    unfold ax_keep at h
    by_cases hb : m.testBit 0 = true
    · rw [if_pos hb] at h
      cases hg : ax_get ls (32 - (n + 1)) with
      | none => rw [hg] at h; exact ax_keep_mem n _ h
      | some v =>
        rw [hg] at h
        rcases List.mem_cons.mp h with rfl | h
        · exact ax_get_mem hg
        · exact ax_keep_mem n _ h
    · rw [if_neg hb] at h
      exact ax_keep_mem n _ h
theorem ax_keep_has {X : ax_X} {lsr : Array Slot} {nL : Nat} {ls : ax_L} {n m : Nat} (hl : lv_has lsr nL (ls.map (ax_q X))) : lv_has lsr nL ((ax_keep ls n m).map (ax_q X)) :=
  ⟨hl.1, hl.2.1, fun q hq => by
    obtain ⟨q0, h0, rfl⟩ := List.mem_map.mp hq
    exact hl.2.2 _ (List.mem_map.mpr ⟨q0, ax_keep_mem n m h0, rfl⟩)⟩
section AXW
variable {X : ax_X} {p : Program} {l : Launch} {e : Env} {R : Room} {s : State} {m : MethodId} {args : Array Value} {below : List Frame} {meth : Method} {c : Code} {Q : State → Prop} {cc : ByteArray} {nL n0 z0 : Nat} {hf : ax_H}
def ax_W (X : ax_X) (p : Program) (l : Launch) (e : Env) (R : Room) (s : State) (m : MethodId) (args : Array Value) (below : List Frame) (meth : Method) (c : Code) (nL : Nat) (Q : State → Prop) (n0 z0 : Nat) (hf : ax_H) (pc : Nat) (ls : ax_L) (st : List Value) (h : ax_H) : Prop :=
  gN h ≤ gN hf ∧ gZ h ≤ gZ hf ∧ (n0 ≤ gN h → z0 ≤ gZ h → ∀ (H : Heap) (locs : List Loc) (lsr : Array Slot), ax_Rep X h H → (∀ l ∈ locs, xB X ≤ l.base) → lv_has lsr nL (ls.map (ax_q X)) → W p l e R s m args below meth c H locs (gN h - n0) (gZ h - z0) Q (F0 m pc lsr (st.map (ax_v X))))
/-- the heap stays -/
theorem ax_stay {pc pc' : Nat} {ls ls' : ax_L} {st st' : List Value} {h : ax_H} (k : ax_W X p l e R s m args below meth c nL Q n0 z0 hf pc' ls' st' h)
    (g : ∀ (H : Heap) (locs : List Loc) (cells slots : Nat) (lsr : Array Slot), ax_Rep X h H → lv_has lsr nL (ls.map (ax_q X)) → (∀ lsr' : Array Slot, lv_has lsr' nL (ls'.map (ax_q X)) → W p l e R s m args below meth c H locs cells slots Q (F0 m pc' lsr' (st'.map (ax_v X)))) → W p l e R s m args below meth c H locs cells slots Q (F0 m pc lsr (st.map (ax_v X)))) : ax_W X p l e R s m args below meth c nL Q n0 z0 hf pc ls st h :=
  ⟨k.1, k.2.1, fun a1 a2 H locs lsr hR hlo hl => g H locs _ _ lsr hR hl (fun lsr' hl' => k.2.2 a1 a2 H locs lsr' hR hlo hl')⟩
variable {pc : Nat} {lsr : Array Slot} {rest : List Value} {H : Heap} {locs : List Loc} {cells slots : Nat}
theorem ax_aload_n (hexec : p.tables.exec = Jvm.exec) (hb : c.code = cc) {k : Fin 4} {i x : Nat} (hdg : decode cc pc = .ok (.aload_n k, 1)) (hi : (k : Nat) = i) (hl : lsr[i]? = some (.val (ax_v X (.ref x))))
    (kk : W p l e R s m args below meth c H locs cells slots Q (F0 m (pc + 1) lsr (ax_v X (.ref x) :: rest))) : W p l e R s m args below meth c H locs cells slots Q (F0 m pc lsr rest) := by
  by_cases h0 : x = 0
  · subst h0
    subst hi
    rw [ax_v_null] at hl kk
    intro T hT X
    obtain ⟨t, a, b⟩ := kk T hT X
    refine ⟨t, ?_, b⟩
    jvm_step X.here [X.here.top, hexec, hb, hdg, hl]
    exact ⟨rfl, a⟩
  · rw [ax_v_ref h0] at hl kk
    exact lv_aload_n hexec hb hdg hi hl kk
theorem ax_aload (hexec : p.tables.exec = Jvm.exec) (hb : c.code = cc) {i x : Nat} (hdg : decode cc pc = .ok (.aload i, 2)) (hl : lsr[i]? = some (.val (ax_v X (.ref x))))
    (kk : W p l e R s m args below meth c H locs cells slots Q (F0 m (pc + 2) lsr (ax_v X (.ref x) :: rest))) : W p l e R s m args below meth c H locs cells slots Q (F0 m pc lsr rest) := by
  by_cases h0 : x = 0
  · subst h0
    rw [ax_v_null] at hl kk
    intro T hT X
    obtain ⟨t, a, b⟩ := kk T hT X
    refine ⟨t, ?_, b⟩
    jvm_step X.here [X.here.top, hexec, hb, hdg, hl]
    exact ⟨rfl, a⟩
  · rw [ax_v_ref h0] at hl kk
    exact lv_aload hexec hb hdg hl kk
theorem ax_astore_n (hexec : p.tables.exec = Jvm.exec) (hb : c.code = cc) {k : Fin 4} {i x : Nat} {lv lv' : List (Nat × Value)} (hdg : decode cc pc = .ok (.astore_n k, 1)) (hi : (k : Nat) = i) (h : lv_has lsr nL lv) (hn : i < nL) (hl : (i, ax_v X (.ref x)) :: lv.filter (fun q => !(q.1 == i) && !(q.1 + 1 == i && q.2.category == 2)) = lv')
    (kk : ∀ ls' : Array Slot, lv_has ls' nL lv' → W p l e R s m args below meth c H locs cells slots Q (F0 m (pc + 1) ls' rest)) : W p l e R s m args below meth c H locs cells slots Q (F0 m pc lsr (ax_v X (.ref x) :: rest)) := by
  by_cases h0 : x = 0
  · subst h0
    subst hi
    rw [ax_v_null] at hl ⊢
    obtain ⟨ls', e', h'⟩ := lv_store1 (v := .null) h hn rfl
    intro T hT X
    obtain ⟨t, a, b⟩ := kk ls' (hl ▸ h') T hT X
    refine ⟨t, ?_, b⟩
    jvm_step X.here [X.here.top, ↓top_set X.here.top, hexec, hb, hdg, e']
    exact ⟨rfl, a⟩
  · rw [ax_v_ref h0] at hl ⊢
    exact lv_astore_n hexec hb hdg hi h hn hl kk
theorem ax_astore (hexec : p.tables.exec = Jvm.exec) (hb : c.code = cc) {i x : Nat} {lv lv' : List (Nat × Value)} (hdg : decode cc pc = .ok (.astore i, 2)) (h : lv_has lsr nL lv) (hn : i < nL) (hl : (i, ax_v X (.ref x)) :: lv.filter (fun q => !(q.1 == i) && !(q.1 + 1 == i && q.2.category == 2)) = lv')
    (kk : ∀ ls' : Array Slot, lv_has ls' nL lv' → W p l e R s m args below meth c H locs cells slots Q (F0 m (pc + 2) ls' rest)) : W p l e R s m args below meth c H locs cells slots Q (F0 m pc lsr (ax_v X (.ref x) :: rest)) := by
  by_cases h0 : x = 0
  · subst h0
    rw [ax_v_null] at hl ⊢
    obtain ⟨ls', e', h'⟩ := lv_store1 (v := .null) h hn rfl
    intro T hT X
    obtain ⟨t, a, b⟩ := kk ls' (hl ▸ h') T hT X
    refine ⟨t, ?_, b⟩
    jvm_step X.here [X.here.top, ↓top_set X.here.top, hexec, hb, hdg, e']
    exact ⟨rfl, a⟩
  · rw [ax_v_ref h0] at hl ⊢
    exact lv_astore hexec hb hdg h hn hl kk
end AXW
