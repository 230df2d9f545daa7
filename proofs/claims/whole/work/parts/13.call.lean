/-! calls: a method's number, its contract, its use -/
/-- name, bytes, locals, return type, values taken off the stack, frames, words -/
abbrev ax_MI : Type := MethodName × ByteArray × Nat × Option FieldType × Nat × Nat × Nat
def ax_Imp (M : Nat → ax_MI) (N : Nat) (av : List Value) (h : ax_H) (o : Option Value) (h' : ax_H) : Prop :=
  gN h ≤ gN h' ∧ gZ h ≤ gZ h' ∧ ∀ (l : Launch) (X : ax_X), Met l (M N).1 (Cond.code (M N).1 (M N).2.1 (M N).2.2.1 (M N).2.2.2.1 :: ax_G) { frames := (M N).2.2.2.2.2.1, cells := gN h' - gN h, slots := gZ h' - gZ h, locals := (M N).2.2.2.2.2.2 } (ax_Pc X av h) (ax_Qc X o h') (gN h' - gN h) (gZ h' - gZ h) (fun q => xB X ≤ q)
def ax_Es (M : Nat → ax_MI) (E : ax_Env) (N : Nat) : Prop :=
  (∀ av h h', E.1 N av h = some h' → ax_Imp M N av h none h') ∧ (∀ av h x h', E.2.1 N av h = some (x, h') → ax_Imp M N av h (some (.int x)) h') ∧ (∀ av h x h', E.2.2.1 N av h = some (x, h') → ax_Imp M N av h (some (.long x)) h') ∧ (∀ av h x h', E.2.2.2 N av h = some (x, h') → ax_Imp M N av h (some (.ref x)) h')
/-- which cell may receive: b / 2 its class, 45 a String constant -/
abbrev ax_rcv (h : ax_H) (b x : Nat) : Prop := if b / 2 = 45 then 1 ≤ x ∧ x ≤ 34 else (gS h x).1 = b / 2
/-- what a call's method must be: good words -/
def ax_Mok (M : Nat → ax_MI) (N : Nat) : Prop :=
  Cond.code (M N).1 (M N).2.1 (M N).2.2.1 (M N).2.2.2.1 ∈ ax_G ∧ Cond.initialized (M N).1.cls ∈ ax_G ∧ (M N).1.cls ≠ "java/lang/invoke/MethodHandle" ∧ (M N).1.cls ≠ "java/lang/invoke/VarHandle"
section AXK
variable {α : Type} {X : ax_X} {p : Program} {l : Launch} {e : Env} {R : Room} {s : State} {m : MethodId} {args : Array Value} {below : List Frame} {meth : Method} {c : Code} {Q : State → Prop} {cc : ByteArray} {nL n0 z0 : Nat} {hf : ax_H}
variable {pc : Nat} {lsr : Array Slot} {rest st0 : List Value} {H : Heap} {locs : List Loc} {cells slots : Nat} {h h' : ax_H} {own : String} {M : Nat → ax_MI} {N : Nat}
theorem ax_Gws (hts : ∀ w ∈ ax_G, w.before args s = true) (hM : ax_Mok M N) : ∀ w ∈ (Cond.code (M N).1 (M N).2.1 (M N).2.2.1 (M N).2.2.2.1 :: ax_G), ∀ (a' : Array Value) (U : State), s.WarmedH U.vm → w.before a' U = true := by
  refine pay_in hts (fun w hw => ?_)
  rcases List.mem_cons.mp hw with rfl | hw
  · exact ⟨hM.1, Or.inl rfl⟩
  · exact ax_G_good w hw
theorem ax_after {mc ms : Nat} {o : Option Value} {a : Array Value} (hr : va_Run p l e R s m args below meth c H locs cells slots mc ms (F0 m pc lsr st0) rest (ax_Qc X o h' a) (fun q => xB X ≤ q)) (hlo : ∀ l ∈ locs, xB X ≤ l.base)
    (kk : ∀ (H1 : Heap) (locs1 : List Loc), ax_Rep X h' H1 → (∀ l ∈ locs1, xB X ≤ l.base) → W p l e R s m args below meth c H1 locs1 (cells + mc) (slots + ms) Q (F0 m (pc + 3) lsr ((o.map (ax_v X)).toList ++ rest))) : W p l e R s m args below meth c H locs cells slots Q (F0 m pc lsr st0) := by
  intro T hT S
  obtain ⟨v, st₀, t, T', L, h0, S', hL, e1, e2, ⟨hv, hrep⟩, step⟩ := hr T hT S
  cases hv
  obtain ⟨t2, a1, b1⟩ := kk T'.heap (locs ++ L) (by rw [e1]; exact hrep) (fun q hq => by
    rcases List.mem_append.mp hq with h | h
    · exact hlo q h
    · exact hL q h) T' rfl S'
  exact ⟨t2, step t2 a1, b1⟩
theorem ax_pre (hK : ax_K X s) (hR : ax_Rep X h H) {av : List Value} : ∀ U : State, U.heap = H → s.WarmedH U.vm → ax_Pc X av h (av.map (ax_v X)).toArray U := fun U hU hW => ⟨rfl, by rw [hU]; exact hR, ax_K.warm hW hK⟩
/-- the numbers that a call's row must bring -/
def ax_room (M : Nat → ax_MI) (N : Nat) (R : Room) : Prop := (M N).2.2.2.2.2.1 + 1 ≤ R.frames ∧ 8 + ((M N).2.2.1 + 11) + (M N).2.2.2.2.2.2 ≤ R.locals
theorem ax_recv (hK : ax_K X s) (hR : ax_Rep X h H) {b x : Nat} (hx : ax_rcv h b x) (hb : b / 2 = 45 ∨ b / 2 < 12) {C : String} (hC : C = if b / 2 = 45 then "java/lang/String" else ax_cn (b / 2)) : x ≠ 0 ∧ ∃ cellB : Cell, H[ax_r X x]? = some cellB ∧ cellB.vm.isStatics = false ∧ s.vm.findClass C = some cellB.cls := by
  by_cases h45 : b / 2 = 45
  · rw [if_pos h45] at hC
    simp only [ax_rcv, h45, if_true] at hx
    refine ⟨by omega, ?_⟩
    have hlen : x - 1 < ax_strs.length := by
      have : ax_strs.length = 34 := rfl
      omega
    obtain ⟨v, hO, -⟩ := (hK.2.2.1 (x - 1) _ (List.getElem?_eq_getElem hlen)).2
    rw [show x - 1 + 1 = x by omega] at hO
    obtain ⟨cell, g1, g2, g3, g4⟩ := hO
    have hlt : xA X x < xB X := by
      have := Nat.not_le.mp g4
      exact this
    refine ⟨cell, ?_, g2, by rw [hC]; exact g3⟩
    rw [ax_r, if_pos (by omega), hR.2.2.2.1 _ hlt]
    exact g1
  · rw [if_neg h45] at hC
    simp only [ax_rcv, h45, if_false] at hx
    have hc : b / 2 < 12 := by omega
    refine ⟨ax_ne0 hR (by omega), ?_⟩
    obtain ⟨cell, q1, q2, q3, -⟩ := ax_getO hR hx hc
    exact ⟨cell, q1, by rw [q3]; rfl, by rw [hC, q2]; exact (ax_Kc hK hc).2.1⟩
variable {idx n : Nat} {st : List Value} {o : Option Value}
/-- a virtual call -/
theorem ax_cv (hexec : p.tables.exec = Jvm.exec) (hb : c.code = cc) (hml : c.maxLocals = lsr.size) (hts : ∀ w ∈ ax_G, w.before args s = true) (hown : s.vm.findClass own = some m.cls) (hK : ax_K X s) (hR : ax_Rep X h H) (hM : ax_Mok M N) (hI : Cond.instanceMethod (M N).1 ∈ ax_G) (hse : Cond.selects (M N).1.cls (M N).1 (M N).1 ∈ ax_G) (hn : (parseMethodDescriptor (M N).1.desc).map (fun d => d.parameters.length) = some n)
    (hlink : Cond.methodLink own idx (M N).1 ∈ ax_G ∨ ∃ host, (own, idx, (M N).1, host) ∈ ax_nest) (hroom : ax_room M N R) {x : Nat} {av : List Value} (hav : av.length = n) (hst : st = av.reverse ++ .ref x :: rest) {bb : Nat} (hx : ax_rcv h bb x) (hbb : bb / 2 = 45 ∨ bb / 2 < 12) (hC : (M N).1.cls = if bb / 2 = 45 then "java/lang/String" else ax_cn (bb / 2))
    (hrest : (rest.map fun v => v.category).sum ≤ 8) (hImp : ax_Imp M N (.ref x :: av) h o h') (hc1 : cells + (gN h' - gN h) ≤ R.cells) (hc2 : slots + (gZ h' - gZ h) ≤ R.slots) (hlo : ∀ l ∈ locs, xB X ≤ l.base) (hdg : decode cc pc = .ok (.invokevirtual idx, 3))
    (kk : ∀ (H1 : Heap) (locs1 : List Loc), ax_Rep X h' H1 → (∀ l ∈ locs1, xB X ≤ l.base) → W p l e R s m args below meth c H1 locs1 (cells + (gN h' - gN h)) (slots + (gZ h' - gZ h)) Q (F0 m (pc + 3) lsr ((o.toList ++ rest).map (ax_v X)))) : W p l e R s m args below meth c H locs cells slots Q (F0 m pc lsr (st.map (ax_v X))) := by
  obtain ⟨hx0, hcell⟩ := ax_recv hK hR hx hbb hC
  have hsig : ∀ sig, parseMethodDescriptor (M N).1.desc = some sig → n = sig.parameters.length := fun sig h => by rw [h] at hn; exact (Option.some.inj hn).symm
  have hpv : PreV s H (M N).1.cls (ax_r X x) (ax_Pc X (.ref x :: av) h) (av.map (ax_v X)) := ⟨ax_Pc.blind, hcell, fun U hU hW => by have := ax_pre hK hR (av := .ref x :: av) U hU hW; rwa [List.map_cons, ax_v_ref hx0] at this⟩
  have hstk : st.map (ax_v X) = (av.map (ax_v X)).reverse ++ .ref (ax_r X x) :: rest.map (ax_v X) := by rw [hst, List.map_append, List.map_cons, ax_v_ref hx0, List.map_reverse]
  have kk2 : ∀ (H1 : Heap) (locs1 : List Loc), ax_Rep X h' H1 → (∀ l ∈ locs1, xB X ≤ l.base) → W p l e R s m args below meth c H1 locs1 (cells + (gN h' - gN h)) (slots + (gZ h' - gZ h)) Q (F0 m (pc + 3) lsr ((o.map (ax_v X)).toList ++ rest.map (ax_v X))) := by
    intro H1 locs1 a1 a2
    have := kk H1 locs1 a1 a2
    rw [List.map_append] at this
    cases o <;> exact this
  rcases hlink with hl | ⟨host, hl⟩
  · exact ax_after (va_runV (cc := cc) (nL := lsr.size) (Ts := ax_G) (own := own) (C := (M N).1.cls) (bytes := (M N).2.1) (maxL := (M N).2.2.1) (ret := (M N).2.2.2.1) (n := n) (As := av.map (ax_v X)) (rest := rest.map (ax_v X)) ⟨hexec, hb, hml, hown, hts⟩ (hImp.2.2 l X) ⟨⟨rfl, rfl, hroom.1, hroom.2, ax_Gws hts hM, List.mem_cons_self, hts _ hM.1, hts _ hM.2.1, ⟨hM.2.2.1, hM.2.2.2⟩, hsig, hts _ hl⟩, hts _ hI, hts _ hse⟩ hpv rfl (by simpa using hav) rfl hstk (by show 2 * 0 + _ ≤ 8; rw [ax_cats]; omega) hdg ⟨hc1, hc2⟩) hlo kk2
  · exact ax_after (va_runVN (cc := cc) (nL := lsr.size) (Ts := ax_G) (own := own) (host := host) (C := (M N).1.cls) (bytes := (M N).2.1) (maxL := (M N).2.2.1) (ret := (M N).2.2.2.1) (n := n) (As := av.map (ax_v X)) (rest := rest.map (ax_v X)) ⟨hexec, hb, hml, hown, hts⟩ (hImp.2.2 l X) ⟨⟨⟨rfl, rfl, hroom.1, hroom.2, ax_Gws hts hM, List.mem_cons_self⟩, hts _ hM.1, hts _ hM.2.1, ⟨hM.2.2.1, hM.2.2.2⟩, hsig, va_Nw.use rfl (hK.2.1 _ hl)⟩, hts _ hI, hts _ hse⟩ hpv rfl (by simpa using hav) rfl hstk (by show 2 * 0 + _ ≤ 8; rw [ax_cats]; omega) hdg ⟨hc1, hc2⟩) hlo kk2
/-- a static call -/
theorem ax_cs (hexec : p.tables.exec = Jvm.exec) (hb : c.code = cc) (hml : c.maxLocals = lsr.size) (hts : ∀ w ∈ ax_G, w.before args s = true) (hown : s.vm.findClass own = some m.cls) (hK : ax_K X s) (hR : ax_Rep X h H) (hM : ax_Mok M N) (hI : Cond.static (M N).1 ∈ ax_G) (hn : (parseMethodDescriptor (M N).1.desc).map (fun d => d.parameters.length) = some n)
    (hlink : Cond.methodLink own idx (M N).1 ∈ ax_G ∨ ∃ host, (own, idx, (M N).1, host) ∈ ax_nest) (hroom : ax_room M N R) {av : List Value} (hav : av.length = n) (hst : st = av.reverse ++ rest)
    (hrest : (rest.map fun v => v.category).sum ≤ 8) (hImp : ax_Imp M N av h o h') (hc1 : cells + (gN h' - gN h) ≤ R.cells) (hc2 : slots + (gZ h' - gZ h) ≤ R.slots) (hlo : ∀ l ∈ locs, xB X ≤ l.base) (hdg : decode cc pc = .ok (.invokestatic idx, 3))
    (kk : ∀ (H1 : Heap) (locs1 : List Loc), ax_Rep X h' H1 → (∀ l ∈ locs1, xB X ≤ l.base) → W p l e R s m args below meth c H1 locs1 (cells + (gN h' - gN h)) (slots + (gZ h' - gZ h)) Q (F0 m (pc + 3) lsr ((o.toList ++ rest).map (ax_v X)))) : W p l e R s m args below meth c H locs cells slots Q (F0 m pc lsr (st.map (ax_v X))) := by
  have hsig : ∀ sig, parseMethodDescriptor (M N).1.desc = some sig → n = sig.parameters.length := fun sig h => by rw [h] at hn; exact (Option.some.inj hn).symm
  have hps : PreS s H (ax_Pc X av h) (av.map (ax_v X)) := ⟨ax_Pc.blind, ax_pre hK hR⟩
  have hstk : st.map (ax_v X) = (av.map (ax_v X)).reverse ++ rest.map (ax_v X) := by rw [hst, List.map_append, List.map_reverse]
  have kk2 : ∀ (H1 : Heap) (locs1 : List Loc), ax_Rep X h' H1 → (∀ l ∈ locs1, xB X ≤ l.base) → W p l e R s m args below meth c H1 locs1 (cells + (gN h' - gN h)) (slots + (gZ h' - gZ h)) Q (F0 m (pc + 3) lsr ((o.map (ax_v X)).toList ++ rest.map (ax_v X))) := by
    intro H1 locs1 a1 a2
    have := kk H1 locs1 a1 a2
    rw [List.map_append] at this
    cases o <;> exact this
  rcases hlink with hl | ⟨host, hl⟩
  · exact ax_after (va_runS (cc := cc) (nL := lsr.size) (Ts := ax_G) (own := own) (bytes := (M N).2.1) (maxL := (M N).2.2.1) (ret := (M N).2.2.2.1) (n := n) (As := av.map (ax_v X)) (rest := rest.map (ax_v X)) ⟨hexec, hb, hml, hown, hts⟩ (hImp.2.2 l X) ⟨⟨rfl, rfl, hroom.1, hroom.2, ax_Gws hts hM, List.mem_cons_self, hts _ hM.1, hts _ hM.2.1, ⟨hM.2.2.1, hM.2.2.2⟩, hsig, hts _ hl⟩, hts _ hI⟩ hps rfl (by simpa using hav) rfl hstk (by show 2 * 0 + _ ≤ 8; rw [ax_cats]; omega) hdg ⟨hc1, hc2⟩) hlo kk2
  · exact ax_after (va_runSN (cc := cc) (nL := lsr.size) (Ts := ax_G) (own := own) (host := host) (bytes := (M N).2.1) (maxL := (M N).2.2.1) (ret := (M N).2.2.2.1) (n := n) (As := av.map (ax_v X)) (rest := rest.map (ax_v X)) ⟨hexec, hb, hml, hown, hts⟩ (hImp.2.2 l X) ⟨⟨⟨rfl, rfl, hroom.1, hroom.2, ax_Gws hts hM, List.mem_cons_self⟩, hts _ hM.1, hts _ hM.2.1, ⟨hM.2.2.1, hM.2.2.2⟩, hsig, va_Nw.use rfl (hK.2.1 _ hl)⟩, hts _ hI, trivial⟩ hps rfl (by simpa using hav) rfl hstk (by show 2 * 0 + _ ≤ 8; rw [ax_cats]; omega) hdg ⟨hc1, hc2⟩) hlo kk2
/-- a constructor -/
theorem ax_ci (hexec : p.tables.exec = Jvm.exec) (hb : c.code = cc) (hml : c.maxLocals = lsr.size) (hts : ∀ w ∈ ax_G, w.before args s = true) (hown : s.vm.findClass own = some m.cls) (hK : ax_K X s) (hR : ax_Rep X h H) (hM : ax_Mok M N) (hI : Cond.instanceMethod (M N).1 ∈ ax_G) (hin : (M N).1.name = "<init>") (hrt : (M N).2.2.2.1 = none) (hn : (parseMethodDescriptor (M N).1.desc).map (fun d => d.parameters.length) = some n)
    (hlink : Cond.methodLink own idx (M N).1 ∈ ax_G ∨ ∃ host, (own, idx, (M N).1, host) ∈ ax_nest) (hroom : ax_room M N R) {x : Nat} {av : List Value} (hav : av.length = n) (hst : st = av.reverse ++ .ref x :: rest) {bb : Nat} (hx : ax_rcv h bb x) (hbb : bb / 2 < 12)
    (hrest : (rest.map fun v => v.category).sum ≤ 8) (hImp : ax_Imp M N (.ref x :: av) h o h') (hc1 : cells + (gN h' - gN h) ≤ R.cells) (hc2 : slots + (gZ h' - gZ h) ≤ R.slots) (hlo : ∀ l ∈ locs, xB X ≤ l.base) (hdg : decode cc pc = .ok (.invokespecial idx, 3))
    (kk : ∀ (H1 : Heap) (locs1 : List Loc), ax_Rep X h' H1 → (∀ l ∈ locs1, xB X ≤ l.base) → W p l e R s m args below meth c H1 locs1 (cells + (gN h' - gN h)) (slots + (gZ h' - gZ h)) Q (F0 m (pc + 3) lsr ((o.toList ++ rest).map (ax_v X)))) : W p l e R s m args below meth c H locs cells slots Q (F0 m pc lsr (st.map (ax_v X))) := by
  have hx0 : x ≠ 0 := by
    simp only [ax_rcv, show ¬ bb / 2 = 45 by omega, if_false] at hx
    exact ax_ne0 hR (by omega)
  have hsig : ∀ sig, parseMethodDescriptor (M N).1.desc = some sig → n = sig.parameters.length := fun sig h => by rw [h] at hn; exact (Option.some.inj hn).symm
  have hps : PreS s H (ax_Pc X (.ref x :: av) h) (.ref (ax_r X x) :: av.map (ax_v X)) := ⟨ax_Pc.blind, fun U hU hW => by have := ax_pre hK hR (av := .ref x :: av) U hU hW; rwa [List.map_cons, ax_v_ref hx0] at this⟩
  have hstk : st.map (ax_v X) = (av.map (ax_v X)).reverse ++ .ref (ax_r X x) :: rest.map (ax_v X) := by rw [hst, List.map_append, List.map_cons, ax_v_ref hx0, List.map_reverse]
  have kk2 : ∀ (H1 : Heap) (locs1 : List Loc), ax_Rep X h' H1 → (∀ l ∈ locs1, xB X ≤ l.base) → W p l e R s m args below meth c H1 locs1 (cells + (gN h' - gN h)) (slots + (gZ h' - gZ h)) Q (F0 m (pc + 3) lsr ((o.map (ax_v X)).toList ++ rest.map (ax_v X))) := by
    intro H1 locs1 a1 a2
    have := kk H1 locs1 a1 a2
    rw [List.map_append] at this
    cases o <;> exact this
  have hcode : Cond.code (M N).1 (M N).2.1 (M N).2.2.1 none ∈ (Cond.code (M N).1 (M N).2.1 (M N).2.2.1 (M N).2.2.2.1 :: ax_G) := by rw [hrt]; exact List.mem_cons_self
  have hcode2 : Cond.code (M N).1 (M N).2.1 (M N).2.2.1 none ∈ ax_G := by have := hM.1; rwa [hrt] at this
  rcases hlink with hl | ⟨host, hl⟩
  · exact ax_after (va_runI (cc := cc) (nL := lsr.size) (Ts := ax_G) (own := own) (bytes := (M N).2.1) (maxL := (M N).2.2.1) (n := n) (As := av.map (ax_v X)) (rest := rest.map (ax_v X)) ⟨hexec, hb, hml, hown, hts⟩ (hImp.2.2 l X) ⟨⟨rfl, rfl, hroom.1, hroom.2, ax_Gws hts hM, hcode, hts _ hcode2, hts _ hM.2.1, ⟨hM.2.2.1, hM.2.2.2⟩, hsig, hts _ hl⟩, hin, hts _ hI⟩ hps rfl (by simpa using hav) rfl hstk (by show 2 * 0 + _ ≤ 8; rw [ax_cats]; omega) hdg ⟨hc1, hc2⟩) hlo kk2
  · exact ax_after (va_runIN (cc := cc) (nL := lsr.size) (Ts := ax_G) (own := own) (host := host) (bytes := (M N).2.1) (maxL := (M N).2.2.1) (n := n) (As := av.map (ax_v X)) (rest := rest.map (ax_v X)) ⟨hexec, hb, hml, hown, hts⟩ (hImp.2.2 l X) ⟨⟨⟨rfl, rfl, hroom.1, hroom.2, ax_Gws hts hM, hcode⟩, hts _ hcode2, hts _ hM.2.1, ⟨hM.2.2.1, hM.2.2.2⟩, hsig, va_Nw.use rfl (hK.2.1 _ hl)⟩, hin, hts _ hI⟩ hps rfl (by simpa using hav) rfl hstk (by show 2 * 0 + _ ≤ 8; rw [ax_cats]; omega) hdg ⟨hc1, hc2⟩) hlo kk2
end AXK
