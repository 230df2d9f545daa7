/-! copies, clones, constants -/
section AXC
variable {α : Type} {X : ax_X} {p : Program} {l : Launch} {e : Env} {R : Room} {s : State} {m : MethodId} {args : Array Value} {below : List Frame} {meth : Method} {c : Code} {Q : State → Prop} {cc : ByteArray} {nL n0 z0 : Nat} {hf : ax_H}
variable {pc : Nat} {lsr : Array Slot} {rest : List Value} {H : Heap} {locs : List Loc} {cells slots : Nat} {h : ax_H} {own : String}
variable {st : List Value} {ls : ax_L} {k : ax_L → List Value → ax_H → Option α} {res : α}
theorem ax_cats (X : ax_X) (r : List Value) : ((r.map (ax_v X)).map fun v => v.category) = r.map (fun v => v.category) := by
  rw [List.map_map]; congr 1; funext v; exact ax_v_cat X v
theorem ax_nnI {z : Int32} (hz : ¬ z < 0) : z.toInt = (z.toNatClampNeg : Int) := by
  have hz0 : (0 : Int) ≤ z.toInt := by
    have := Int32.not_lt.mp hz
    simpa using Int32.le_iff_toInt_le.mp this
  show z.toInt = ((z.toInt.toNat : Nat) : Int)
  omega
/-- System.arraycopy between rows of one primitive kind -/
theorem ax_acp (hexec : p.tables.exec = Jvm.exec) (hb : c.code = cc) (hml : c.maxLocals = lsr.size) (hts : ∀ w ∈ ax_G, w.before args s = true) {idx : Nat} (hown : s.vm.findClass own = some m.cls) (hlink : Cond.methodLink own idx arraycopyName ∈ ax_G) (hnat : Cond.native arraycopyName ∈ ax_G) (hstat : Cond.static arraycopyName ∈ ax_G) (hini : Cond.initialized "java/lang/System" ∈ ax_G)
    (hfr : 1 ≤ R.frames) (hlo : nativeFrameWords "java/lang/System" "arraycopy" 5 + 19 ≤ R.locals) (hrest : (rest.map fun v => v.category).sum ≤ 8) {ra rb nA nB : Nat} {cA : ClassId} {ty : FieldType} {T : Type} (mk : T → Value) {f g : Nat → T} (hA : ArrOfT s cA ty) (hprim : refKind ty = false) (hfits : ∀ v, fits ty (mk v) = true)
    (hno : ∀ (U : State) (cm : ClassId) (v : T), U.takes cm (mk v))
    (ha : H[ra]? = some (arrV cA nA (fun j => mk (f j)))) (hb2 : H[rb]? = some (arrV cA nB (fun j => mk (g j)))) {sp dp n : Int32} (h1 : ¬ sp < 0) (h2 : ¬ dp < 0) (h3 : ¬ n < 0) (h4 : sp.toNatClampNeg + n.toNatClampNeg ≤ nA) (h5 : dp.toNatClampNeg + n.toNatClampNeg ≤ nB)
    (hdg : decode cc pc = .ok (.invokestatic idx, 3))
    (kk : ∀ (H1 : Heap) (L : List Loc), (∀ q ∈ L, q.base = rb) → H1[rb]? = some (arrV cA nB (fun j => mk (va_cpy f g sp.toNatClampNeg dp.toNatClampNeg n.toNatClampNeg j))) → H1.size = H.size → (∀ q, q ≠ rb → H1[q]? = H[q]?) → W p l e R s m args below meth c H1 (locs ++ L) cells slots Q (F0 m (pc + 3) lsr rest)) : W p l e R s m args below meth c H locs cells slots Q (F0 m pc lsr (.int n :: .int dp :: .ref rb :: .int sp :: .ref ra :: rest)) := by
  intro T hT S
  obtain ⟨-, k0, hk0, cm0, hkk0⟩ := hA nA (fun j => mk (f j))
  obtain ⟨-, k1, hk1, cm1, hkk1⟩ := hA nB (fun j => mk (g j))
  obtain ⟨vm', S', step⟩ := S.arraycopy hexec hown (hts _ hlink) (hts _ hnat) (hts _ hstat) (hts _ hini) (src := ra) (dst := rb) (cs := arrV cA nA (fun j => mk (f j))) (cd := arrV cA nB (fun j => mk (g j))) (srcPos := sp) (destPos := dp) (n := n) (by rw [hT]; exact ha) (by rw [hT]; exact hb2)
    (fun _ h => by cases h) (fun _ h => by cases h) (fun h => by cases h) (fun h => by cases h) hk0 hk1 hkk0 hkk1 (by simp [hprim]) h1 h2 h3
    (by rw [ax_nnI h1, ax_nnI h3, arrV_size]; omega)
    (by rw [ax_nnI h2, ax_nnI h3, arrV_size]; omega)
    (fun vm₁ _ i hi => by
      have e : (arrV cA nA (fun j => mk (f j))).slots.getD (sp.toNatClampNeg + i) .null = mk (f (sp.toNatClampNeg + i)) := by
        rw [Array.getD_eq_getD_getElem?, arrV_read _ _ (by omega)]
        rfl
      refine ⟨?_, ?_⟩
      · rw [e]
        exact hfits _
      · rw [e]
        exact hno _ _ _)
    (g := F0 m pc lsr (.int n :: .int dp :: .ref rb :: .int sp :: .ref ra :: rest)) rfl (by rw [hml]) (rest := rest) rfl (by rw [hb]; exact hdg) hfr (by show 2 * 0 + _ + _ ≤ _; omega)
  have e1 : copied (arrV cA nA (fun j => mk (f j))) (arrV cA nB (fun j => mk (g j))) sp dp n = arrV cA nB (fun j => mk (va_cpy f g sp.toNatClampNeg dp.toNatClampNeg n.toNatClampNeg j)) := va_copied mk cA cA f g h4
  rw [e1] at S' step
  have hl : rb < H.size := (Array.getElem?_eq_some_iff.mp hb2).1
  have hheap : ((T.setVm vm').setCell rb (arrV cA nB (fun j => mk (va_cpy f g sp.toNatClampNeg dp.toNatClampNeg n.toNatClampNeg j)))).heap = H.setIfInBounds rb (arrV cA nB (fun j => mk (va_cpy f g sp.toNatClampNeg dp.toNatClampNeg n.toNatClampNeg j))) := by rw [← hT]; rfl
  obtain ⟨t, a1, b1⟩ := kk (H.setIfInBounds rb (arrV cA nB (fun j => mk (va_cpy f g sp.toNatClampNeg dp.toNatClampNeg n.toNatClampNeg j)))) _ (fun q hq => by
      obtain ⟨z, -, hz⟩ := List.mem_map.mp hq
      rw [← hz]) (by simp [Array.getElem?_setIfInBounds, hl]) (by simp) (fun q hq => by simp [Array.getElem?_setIfInBounds, Ne.symm hq]) _ hheap S'
  exact ⟨t, step t a1, b1⟩
theorem ax_ac_ok (hexec : p.tables.exec = Jvm.exec) (hb : c.code = cc) (hml : c.maxLocals = nL) (hts : ∀ w ∈ ax_G, w.before args s = true) (hown : s.vm.findClass own = some m.cls) (hK : ax_K X s) {idx kd : Nat} (hkd : kd = 16 ∨ kd = 17) (hlink : Cond.methodLink own idx arraycopyName ∈ ax_G) (hnat : Cond.native arraycopyName ∈ ax_G) (hstat : Cond.static arraycopyName ∈ ax_G) (hini : Cond.initialized "java/lang/System" ∈ ax_G)
    (hfr : 1 ≤ R.frames) (hlo : nativeFrameWords "java/lang/System" "arraycopy" 5 + 19 ≤ R.locals) (hd : decode cc pc = .ok (.invokestatic idx, 3))
    (kk : ∀ ls' st' h1, k ls' st' h1 = some res → ax_W X p l e R s m args below meth c nL Q n0 z0 hf (pc + 3) ls' st' h1) (hs : ax_ac kd st h (fun r h1 => k ls r h1) = some res) : ax_W X p l e R s m args below meth c nL Q n0 z0 hf pc ls st h := by
  unfold ax_ac at hs
  split at hs
  · rename_i n dp y sp x r
    by_cases hc : ax_cp h x kd sp n ∧ ax_cp h y kd dp n ∧ ¬ n < 0 ∧ (r.map (fun v => v.category)).sum ≤ 8
    · rw [if_pos hc] at hs
      obtain ⟨⟨x1, x2, x3⟩, ⟨y1, y2, y3⟩, hn, hr⟩ := hc
      have app : ∀ (locs L : List Loc), (∀ l ∈ locs, xB X ≤ l.base) → 64 ≤ y → (∀ q ∈ L, q.base = ax_r X y) → ∀ l ∈ locs ++ L, xB X ≤ l.base := by
        intro locs L h1 hy h2 q hq
        rcases List.mem_append.mp hq with h | h
        · exact h1 q h
        · rw [h2 q h, ax_r_hi hy]; omega
      rcases hkd with rfl | rfl
      · rw [if_pos rfl] at hs
        have k1 := kk _ _ _ hs
        refine ⟨k1.1, k1.2.1, fun a1 a2 H locs lsr hR hlo' hl => ?_⟩
        simp only [List.map_cons, ax_v_int]
        rw [ax_v_ref (a := x) (ax_ne0 hR (by omega)), ax_v_ref (a := y) (ax_ne0 hR (by omega))]
        exact ax_acp hexec hb (by rw [hml]; exact hl.1.symm) hts hown hlink hnat hstat hini hfr hlo (by rw [ax_cats]; exact hr) (fun z : Int32 => Value.int z) (f := gI h x) (g := gI h y) (ax_Ka hK (c := 16) (by omega) (by omega)).1 rfl (fun _ => rfl) (fun _ _ _ => trivial) (ax_getA hR x1 (by omega) (by omega)) (ax_getA hR y1 (by omega) (by omega)) x2 y2 hn x3 y3 hd
          (fun H1 L hL e1 e2 e3 => k1.2.2 a1 a2 H1 _ lsr (ax_rowI hR y1 (Or.inl rfl) e1 e2 e3) (app locs L hlo' (ax_valid hR (by omega)).1 hL) hl)
      · rw [if_neg (by omega), if_pos rfl] at hs
        have k1 := kk _ _ _ hs
        refine ⟨k1.1, k1.2.1, fun a1 a2 H locs lsr hR hlo' hl => ?_⟩
        simp only [List.map_cons, ax_v_int]
        rw [ax_v_ref (a := x) (ax_ne0 hR (by omega)), ax_v_ref (a := y) (ax_ne0 hR (by omega))]
        exact ax_acp hexec hb (by rw [hml]; exact hl.1.symm) hts hown hlink hnat hstat hini hfr hlo (by rw [ax_cats]; exact hr) (fun z : Int64 => Value.long z) (f := gL h x) (g := gL h y) (ax_Ka hK (c := 17) (by omega) (by omega)).1 rfl (fun _ => rfl) (fun _ _ _ => trivial) (ax_getA hR x1 (by omega) (by omega)) (ax_getA hR y1 (by omega) (by omega)) x2 y2 hn x3 y3 hd
          (fun H1 L hL e1 e2 e3 => k1.2.2 a1 a2 H1 _ lsr (ax_rowL hR y1 e1 e2 e3) (app locs L hlo' (ax_valid hR (by omega)).1 hL) hl)
    · rw [if_neg hc] at hs; cases hs
  · cases hs
theorem ax_cl_ok (hexec : p.tables.exec = Jvm.exec) (hb : c.code = cc) (hml : c.maxLocals = nL) (hts : ∀ w ∈ ax_G, w.before args s = true) (hown : s.vm.findClass own = some m.cls) (hK : ax_K X s) (hRc : gN hf ≤ n0 + R.cells) (hRz : gZ hf ≤ z0 + R.slots) {idx : Nat} (hlink : Cond.methodLink own idx ⟨"[I", "clone", "()Ljava/lang/Object;"⟩ ∈ ax_G) (hsame : Cond.sameMethod "[I" "java/lang/Object" "clone" "()Ljava/lang/Object;" ∈ ax_G) (hnat : Cond.native ⟨"java/lang/Object", "clone", "()Ljava/lang/Object;"⟩ ∈ ax_G) (hinst : Cond.instanceMethod ⟨"java/lang/Object", "clone", "()Ljava/lang/Object;"⟩ ∈ ax_G) (hsel : Cond.selects "[I" ⟨"[I", "clone", "()Ljava/lang/Object;"⟩ ⟨"java/lang/Object", "clone", "()Ljava/lang/Object;"⟩ ∈ ax_G)
    (hfr : 1 ≤ R.frames) (hlo : 22 ≤ R.locals) (hd : decode cc pc = .ok (.invokevirtual idx, 3))
    (kk : ∀ ls' st' h1, k ls' st' h1 = some res → ax_W X p l e R s m args below meth c nL Q n0 z0 hf (pc + 3) ls' st' h1) (hs : ax_cl st h (fun r h1 => k ls r h1) = some res) : ax_W X p l e R s m args below meth c nL Q n0 z0 hf pc ls st h := by
  unfold ax_cl at hs
  split at hs
  · rename_i x r
    by_cases hc : (gS h x).1 = 16 ∧ (gS h x).2 ≤ 100000 ∧ (r.map (fun v => v.category)).sum ≤ 8
    · rw [if_pos hc] at hs
      obtain ⟨x1, x2, x3⟩ := hc
      have k1 := kk _ _ _ hs
      have b1 : gN h + 1 ≤ gN hf := k1.1
      have b2 : gZ h + (gS h x).2 ≤ gZ hf := k1.2.1
      refine ⟨by omega, by omega, fun a1 a2 H locs lsr hR hlo' hl => ?_⟩
      obtain ⟨-, -, -, -, -, ⟨-, -, -, hcl⟩, -⟩ := (⟨hK.1, hK.2.1, hK.2.2.1, hK.2.2.1, trivial, hK.2.2.2.1, trivial⟩ : _ ∧ _ ∧ _ ∧ _ ∧ True ∧ _ ∧ True)
      have hA := ax_Ka hK (c := 16) (by omega) (by omega)
      have hnm := va_nm_int hA.2
      have hcell := ax_getA hR x1 (by omega) (by omega)
      unfold ax_row at hcell
      obtain ⟨c0, t0', f1, f2, f3⟩ := Cond.castable_spec (va_Nw.use (A := args) rfl hcl)
      cases hnm.symm.trans f1
      simp only [List.map_cons]
      rw [ax_v_ref (a := x) (ax_ne0 hR (by omega))]
      intro T hT S
      obtain ⟨-, kA, hkA, comp, hkind⟩ := State.isArrayOf_alike S.warmed.alike (hA.1 0 (fun _ => .null))
      obtain ⟨-, kS, hkS, compS, hkindS⟩ := hA.1 0 (fun _ => .null)
      obtain ⟨vm', S', step⟩ := S.cloneArray hexec hown (hts _ hlink) (hts _ hsame) (hts _ hnat) (hts _ hinst) (hts _ hsel) (a := ax_r X x) (cell := arrV (xR X 16) (gS h x).2 (ax_av X h x 16)) (by rw [hT]; exact hcell) (fun k h => by cases h) (fun h => by cases h) hnm f2 f3
        (fun i v hv => by
          have hk' : T.vm.classes[xR X 16]? = some kA := hkA
          have hi : i < (gS h x).2 := by
            have := (Array.getElem?_eq_some_iff.mp hv).1
            rwa [arrV_size] at this
          rw [arrV_read _ _ hi] at hv
          cases hv
          simp [State.fitsSlot, State.slotType?, hk', hkind, ax_av, arrV, ax_at, fits])
        (g := F0 m pc lsr (.ref (ax_r X x) :: r.map (ax_v X))) rfl (by rw [hml]; exact hl.1) rfl (by rw [hb]; exact hd) hfr (by show 2 * 0 + _ + 14 ≤ _; rw [ax_cats]; omega) (by omega) (by rw [arrV_size]; omega) (hloader := Vm.clonesLoader_of_array hkS hkindS)
      rw [arrV_size] at S'
      have hR1 : ax_Rep X (nW h 16 (gS h x).2 (gS h x).2) (H.push (arrV (xR X 16) (gS h x).2 (fun _ => .int 0))) := by
        refine ax_new hR (by simp) (fun q hq => by rw [Array.getElem?_push, if_neg (Nat.ne_of_lt hq)]) (Or.inr ?_)
        unfold ax_row
        rw [ax_gS_new]
        refine ⟨by omega, by omega, ?_⟩
        rw [ax_rN hR, Array.getElem?_push_size]
        have : (fun _ => Value.int 0) = ax_av X (nW h 16 (gS h x).2 (gS h x).2) (gN h) 16 := by
          funext j
          simp [ax_av, ax_gI_new]
        rw [this]
      have hR2 : ax_Rep X (rI (nW h 16 (gS h x).2 (gS h x).2) (gN h) (gI h x)) (H.push (arrV (xR X 16) (gS h x).2 (ax_av X h x 16))) := by
        refine ax_rowI (c := 16) hR1 (by rw [ax_gS_new]) (Or.inl rfl) ?_ (by simp) (fun q hq => ?_)
        · rw [ax_gS_new, ax_rN hR, Array.getElem?_push_size]
          rfl
        · rw [ax_rN hR] at hq
          rw [Array.getElem?_push, Array.getElem?_push, if_neg hq, if_neg hq]
      have w := k1.2.2 (by show n0 ≤ gN h + 1; omega) (by show z0 ≤ gZ h + (gS h x).2; omega) _ locs lsr hR2 hlo' hl
      rw [List.map_cons, ax_vN hR] at w
      have w2 := W.cs (show gN h - n0 + 1 = gN h + 1 - n0 by omega) (show gZ h - z0 + (gS h x).2 = gZ h + (gS h x).2 - z0 by omega) w
      obtain ⟨t, b1, b2⟩ := w2 ((T.setVm vm').pushCell (arrV (xR X 16) (gS h x).2 (ax_av X h x 16))) (by rw [← hT]; rfl) S'
      refine ⟨t, step t ?_, b2⟩
      rw [hT]
      exact b1
    · rw [if_neg hc] at hs; cases hs
  · cases hs
/-- constants out of the pool -/
theorem ax_ldc_ok (hexec : p.tables.exec = Jvm.exec) (hb : c.code = cc) (hts : ∀ w ∈ ax_G, w.before args s = true) (hown : s.vm.findClass own = some m.cls) {idx : Nat} {z : Int} (hlink : Jvm.Cond.constant own idx (Int32.ofInt z) ∈ ax_G) (hd : decode cc pc = .ok (.ldc idx, 2))
    (kk : ax_W X p l e R s m args below meth c nL Q n0 z0 hf (pc + 2) ls (.int (Int32.ofInt z) :: st) h) : ax_W X p l e R s m args below meth c nL Q n0 z0 hf pc ls st h :=
  ax_stay kk fun H locs cells slots lsr hR hl w => lv_ldc hexec hb hown (hts _ hlink) hd (w lsr hl)
theorem ax_ldcw_ok (hexec : p.tables.exec = Jvm.exec) (hb : c.code = cc) (hts : ∀ w ∈ ax_G, w.before args s = true) (hown : s.vm.findClass own = some m.cls) {idx : Nat} {z : Int} (hlink : Jvm.Cond.constant own idx (Int32.ofInt z) ∈ ax_G) (hd : decode cc pc = .ok (.ldc_w idx, 3))
    (kk : ax_W X p l e R s m args below meth c nL Q n0 z0 hf (pc + 3) ls (.int (Int32.ofInt z) :: st) h) : ax_W X p l e R s m args below meth c nL Q n0 z0 hf pc ls st h :=
  ax_stay kk fun H locs cells slots lsr hR hl w => lv_ldcw hexec hb hown (hts _ hlink) hd (w lsr hl)
theorem ax_ldc2_ok (hexec : p.tables.exec = Jvm.exec) (hb : c.code = cc) (hts : ∀ w ∈ ax_G, w.before args s = true) (hown : s.vm.findClass own = some m.cls) {idx : Nat} {z : Int} (hlink : Jvm.Cond.constantLong own idx (Int64.ofInt z) ∈ ax_G) (hd : decode cc pc = .ok (.ldc2_w idx, 3))
    (kk : ax_W X p l e R s m args below meth c nL Q n0 z0 hf (pc + 3) ls (.long (Int64.ofInt z) :: st) h) : ax_W X p l e R s m args below meth c nL Q n0 z0 hf pc ls st h :=
  ax_stay kk fun H locs cells slots lsr hR hl w => lv_ldc2 hexec hb hown (hts _ hlink) hd (w lsr hl)
theorem ax_ldcs_ok (hexec : p.tables.exec = Jvm.exec) (hb : c.code = cc) (hown : s.vm.findClass own = some m.cls) (hK : ax_K X s) {i idx : Nat} {tx : String} (hi : ax_strs[i]? = some (own, idx, tx)) (hi2 : i + 1 < 64) (hd : decode cc pc = .ok (.ldc idx, 2))
    (kk : ax_W X p l e R s m args below meth c nL Q n0 z0 hf (pc + 2) ls (.ref (i + 1) :: st) h) : ax_W X p l e R s m args below meth c nL Q n0 z0 hf pc ls st h :=
  ax_stay kk fun H locs cells slots lsr hR hl w => by
    have w := w lsr hl
    rw [List.map_cons, ax_v_ref (by omega), ax_r, if_pos hi2] at w
    exact va_ldcS hexec hb hown (hK.2.2.1 i _ hi).1 hd w
theorem ax_ldcws_ok (hexec : p.tables.exec = Jvm.exec) (hb : c.code = cc) (hown : s.vm.findClass own = some m.cls) (hK : ax_K X s) {i idx : Nat} {tx : String} (hi : ax_strs[i]? = some (own, idx, tx)) (hi2 : i + 1 < 64) (hd : decode cc pc = .ok (.ldc_w idx, 3))
    (kk : ax_W X p l e R s m args below meth c nL Q n0 z0 hf (pc + 3) ls (.ref (i + 1) :: st) h) : ax_W X p l e R s m args below meth c nL Q n0 z0 hf pc ls st h :=
  ax_stay kk fun H locs cells slots lsr hR hl w => by
    have w := w lsr hl
    rw [List.map_cons, ax_v_ref (by omega), ax_r, if_pos hi2] at w
    obtain ⟨h1, h2⟩ := (hK.2.2.1 i _ hi).1
    intro T hT S
    obtain ⟨t, a1, b1⟩ := w T hT S
    refine ⟨t, ?_, b1⟩
    obtain ⟨k0, cf, i0, a', hk, hcf, hcp, -, hr, hev'⟩ := Cond.stringRef_spec hown h1
    cases h2.symm.trans hev'
    obtain ⟨k', hk', he⟩ := S.warmed.alike.2.2 _ _ hk
    have hr' : k'.resolved[idx]? = some (some (.string (xA X (i + 1)))) := by
      rcases S.warmed.entry hk hk' idx with h | ⟨h, -⟩
      · rw [h]; exact hr
      · rw [hr] at h; cases h
    jvm_step S.here [hexec, hb, hd, ldc_w.wp_string (e := e) (s := T) (f := F0 m pc lsr (st.map (ax_v X))) S.here.top hk' (by rw [he]; exact hcf) hcp hr']
    exact a1
end AXC
