/-! what is made: objects, rows, clones; constants; copies -/
section AXN
variable {α : Type} {X : ax_X} {p : Program} {l : Launch} {e : Env} {R : Room} {s : State} {m : MethodId} {args : Array Value} {below : List Frame} {meth : Method} {c : Code} {Q : State → Prop} {cc : ByteArray} {nL n0 z0 : Nat} {hf : ax_H}
variable {pc : Nat} {lsr : Array Slot} {rest : List Value} {H : Heap} {locs : List Loc} {cells slots : Nat} {h : ax_H} {own : String}
variable {st : List Value} {ls : ax_L} {k : ax_L → List Value → ax_H → Option α} {res : α}
theorem ax_rN (hR : ax_Rep X h H) : ax_r X (gN h) = H.size := by
  rw [ax_r_hi hR.1, hR.2.1]
theorem ax_vN (hR : ax_Rep X h H) : ax_v X (.ref (gN h)) = .ref H.size := by
  have := hR.1
  rw [ax_v_ref (by omega), ax_rN hR]
theorem ax_gS_new (h : ax_H) (kd len z : Nat) : gS (nW h kd len z) (gN h) = (kd, len) := ax_u1s (f := h.2.2.1)
theorem ax_gI_new (h : ax_H) (kd len z : Nat) : gI (nW h kd len z) (gN h) = fun _ => 0 := ax_u1s (f := h.2.2.2.1)
theorem ax_gL_new (h : ax_H) (kd len z : Nat) : gL (nW h kd len z) (gN h) = fun _ => 0 := ax_u1s (f := h.2.2.2.2.1)
theorem ax_gR_new (h : ax_H) (kd len z : Nat) : gR (nW h kd len z) (gN h) = fun _ => 0 := ax_u1s (f := h.2.2.2.2.2)
theorem ax_new_ok (hexec : p.tables.exec = Jvm.exec) (hb : c.code = cc) (hts : ∀ w ∈ ax_G, w.before args s = true) (hown : s.vm.findClass own = some m.cls) (hK : ax_K X s) (hRc : gN hf ≤ n0 + R.cells) (hRz : gZ hf ≤ z0 + R.slots) {a idx : Nat} (ha : a < 12) (hlink : Cond.classLink own idx (ax_cn a) ∈ ax_G) (hd : decode cc pc = .ok (.new idx, 3))
    (kk : ∀ ls' st' h1, k ls' st' h1 = some res → ax_W X p l e R s m args below meth c nL Q n0 z0 hf (pc + 3) ls' st' h1) (hs : k ls (.ref (gN h) :: st) (nW h a 0 (ax_n a)) = some res) : ax_W X p l e R s m args below meth c nL Q n0 z0 hf pc ls st h := by
  have k1 := kk _ _ _ hs
  have b1 : gN h + 1 ≤ gN hf := k1.1
  have b2 : gZ h + ax_n a ≤ gZ hf := k1.2.1
  refine ⟨by omega, by omega, fun a1 a2 H locs lsr hR hlo hl => ?_⟩
  have hKn := ax_Kc hK ha
  refine W.newcK hexec hb hown (hts _ hlink) (hts _ (ax_inst a ha)) (hts _ (ax_init a ha)) rfl hd (by omega) (by omega) hKn.2.1 rfl fun H1 kC hkC e1 z1 o1 => ?_
  have hob := u_born (ax_ty a) hts (ax_win a ha) hKn hkC e1 (ax_tok a ha)
  have hR1 : ax_Rep X (nW h a 0 (ax_n a)) H1 := by
    refine ax_new hR z1 o1 (Or.inl ?_)
    rw [ax_gS_new]
    refine ⟨ha, ?_⟩
    unfold ax_obj
    rw [ax_rN hR]
    refine t_OB.to hob (fun j hj => ?_)
    simp only [ax_fv, ax_gI_new, ax_gL_new, ax_gR_new]
    have ht := ax_tyoks a ha j hj
    unfold ax_tyok at ht
    split at ht
    · rename_i h1 h2; simp [h1, h2, defaultValue]
    · rename_i h1 h2; simp [h1, h2, defaultValue]
    · rename_i h1 h2; simp [h1, h2, defaultValue]
    · rename_i h1 h2; simp [h1, h2, defaultValue, ax_v_null]
    · rename_i h1 h2; simp [h1, h2, defaultValue, ax_v_null]
    · cases ht
  have w := k1.2.2 (by show n0 ≤ gN h + 1; omega) (by show z0 ≤ gZ h + ax_n a; omega) H1 locs lsr hR1 hlo hl
  rw [List.map_cons, ax_vN hR] at w
  exact W.cs (show gN h - n0 + 1 = gN h + 1 - n0 by omega) (show gZ h - z0 + ax_n a = gZ h + ax_n a - z0 by omega) w
theorem ax_na_ok (hexec : p.tables.exec = Jvm.exec) (hb : c.code = cc) (hts : ∀ w ∈ ax_G, w.before args s = true) (hown : s.vm.findClass own = some m.cls) (hK : ax_K X s) (hRc : gN hf ≤ n0 + R.cells) (hRz : gZ hf ≤ z0 + R.slots) {kd : Nat} {ins : Instr} {len : Nat} (hd : decode cc pc = .ok (ins, len))
    (hi : (∃ at', ins = .newarray at' ∧ len = 2 ∧ 16 ≤ kd ∧ kd < 20 ∧ newarray.typeOf at' = ax_at kd ∧ Cond.arrayClass (ax_at kd) ∈ ax_G) ∨ (∃ idx cn, ins = .anewarray idx ∧ len = 3 ∧ ((kd = 20 ∧ cn = 5) ∨ (kd = 21 ∧ cn = 1)) ∧ Cond.classLink own idx (ax_cn cn) ∈ ax_G))
    (kk : ∀ ls' st' h1, k ls' st' h1 = some res → ax_W X p l e R s m args below meth c nL Q n0 z0 hf (pc + len) ls' st' h1) (hs : ax_na kd st h (fun r h1 => k ls r h1) = some res) : ax_W X p l e R s m args below meth c nL Q n0 z0 hf pc ls st h := by
  unfold ax_na at hs
  split at hs
  · rename_i n r
    by_cases hn : ¬ n < 0 ∧ n.toNatClampNeg ≤ 100000
    · rw [if_pos hn] at hs
      obtain ⟨hn0, hn1⟩ := hn
      have k1 := kk _ _ _ hs
      have b1 : gN h + 1 ≤ gN hf := k1.1
      have b2 : gZ h + n.toNatClampNeg ≤ gZ hf := k1.2.1
      refine ⟨by omega, by omega, fun a1 a2 H locs lsr hR hlo hl => ?_⟩
      have fin : ∀ H1 : Heap, H1[H.size]? = some (arrV (xR X kd) n.toNatClampNeg (fun _ => if kd = 17 then .long 0 else if kd < 20 then .int 0 else .null)) → H1.size = H.size + 1 → (∀ q, q < H.size → H1[q]? = H[q]?) → 16 ≤ kd → kd < 23 → W p l e R s m args below meth c H1 locs (gN h - n0 + 1) (gZ h - z0 + n.toNatClampNeg) Q (F0 m (pc + len) lsr (.ref H.size :: r.map (ax_v X))) := by
        intro H1 e1 z1 o1 g1 g2
        have hR1 : ax_Rep X (nW h kd n.toNatClampNeg n.toNatClampNeg) H1 := by
          refine ax_new hR z1 o1 (Or.inr ?_)
          unfold ax_row
          rw [ax_gS_new]
          refine ⟨g1, g2, ?_⟩
          rw [ax_rN hR, e1]
          have : (fun _ => if kd = 17 then Value.long 0 else if kd < 20 then .int 0 else .null) = ax_av X (nW h kd n.toNatClampNeg n.toNatClampNeg) (gN h) kd := by
            funext j
            simp only [ax_av, ax_gI_new, ax_gL_new, ax_gR_new, ax_v_null]
          rw [this]
        have w := k1.2.2 (by show n0 ≤ gN h + 1; omega) (by show z0 ≤ gZ h + n.toNatClampNeg; omega) H1 locs lsr hR1 hlo hl
        rw [List.map_cons, ax_vN hR] at w
        exact W.cs (show gN h - n0 + 1 = gN h + 1 - n0 by omega) (show gZ h - z0 + n.toNatClampNeg = gZ h + n.toNatClampNeg - z0 by omega) w
      rcases hi with ⟨at', rfl, rfl, g1, g2, hty, harr⟩ | ⟨idx, cn, rfl, rfl, hkc, hlink⟩
      · have hRA := (ax_Ka hK g1 (by omega)).2
        refine va_newaK hexec hb (atype := at') (N := n.toNatClampNeg) (by rw [hty]; exact hts _ harr) rfl hd rfl hn0 rfl ?_ (by omega) (by omega) rfl fun H1 cA e1 z1 o1 _ hnm => ?_
        · have : componentBytes (newarray.typeOf at') ≤ 8 := by cases at' <;> decide
          have := Nat.mul_le_mul hn1 this
          omega
        · have hcA : cA = xR X kd := by
            rw [hty] at hnm
            match kd, g1, g2, hRA, hnm with
            | 16, _, _, hRA, hnm => exact Option.some.inj (hnm.symm.trans hRA)
            | 17, _, _, hRA, hnm => exact Option.some.inj (hnm.symm.trans hRA)
            | 18, _, _, hRA, hnm => exact Option.some.inj (hnm.symm.trans hRA)
            | 19, _, _, hRA, hnm => exact Option.some.inj (hnm.symm.trans hRA)
            | k + 20, _, h, _, _ => exact absurd h (by omega)
          rw [hcA, hty] at e1
          refine fin H1 ?_ z1 o1 g1 (by omega)
          rw [e1]
          match kd, g1, g2 with
          | 16, _, _ => rfl
          | 17, _, _ => rfl
          | 18, _, _ => rfl
          | 19, _, _ => rfl
          | k + 20, _, h => exact absurd h (by omega)
      · have hover : (Jvm.Cond.arrayOver (.object (ax_cn cn))).before args s = true := by
          obtain ⟨o1, o2, -, -⟩ := hK.2.2.2.1
          rcases hkc with ⟨rfl, rfl⟩ | ⟨rfl, rfl⟩
          · exact va_AO.use o1
          · exact va_AO.use o2
        have hat : ax_at kd = .object (ax_cn cn) := by rcases hkc with ⟨rfl, rfl⟩ | ⟨rfl, rfl⟩ <;> rfl
        have hRA := (ax_Ka hK (c := kd) (by omega) (by omega)).2
        rw [hat] at hRA
        obtain ⟨kA0, comp0, -, -, -, hnm0⟩ := hRA
        refine W.anew hexec hb hown (hts _ hlink) hover rfl hd rfl hn0 (by omega) (by omega) (by omega) fun cA kA comp hnm _ _ _ => ?_
        have hcA : cA = xR X kd := Option.some.inj (hnm.symm.trans hnm0)
        refine fin _ ?_ (by simp) (fun q hq => by rw [Array.getElem?_push, if_neg (Nat.ne_of_lt hq)]) (by omega) (by omega)
        rw [Array.getElem?_push_size, arrV_new, hcA, if_neg (by omega), if_neg (by omega)]
    · rw [if_neg hn] at hs; cases hs
  · cases hs
theorem ax_cc_ok (hexec : p.tables.exec = Jvm.exec) (hb : c.code = cc) (hts : ∀ w ∈ ax_G, w.before args s = true) (hown : s.vm.findClass own = some m.cls) (hK : ax_K X s) {idx : Nat} (hlink : Cond.classLink own idx "[I" ∈ ax_G) (hd : decode cc pc = .ok (.checkcast idx, 3))
    (kk : ∀ ls' st' h1, k ls' st' h1 = some res → ax_W X p l e R s m args below meth c nL Q n0 z0 hf (pc + 3) ls' st' h1) (hs : ax_cc 16 st h (fun r => k ls r h) = some res) : ax_W X p l e R s m args below meth c nL Q n0 z0 hf pc ls st h := by
  unfold ax_cc at hs
  split at hs
  · split at hs
    · rename_i x r hk
      refine ax_stay (kk _ _ _ hs) fun H locs cells slots lsr hR hl w => ?_
      have w := w lsr hl
      rw [List.map_cons, ax_v_ref (ax_ne0 hR (by omega))] at w ⊢
      exact va_castE hexec hb hown (hts _ hlink) ⟨_, ax_getA hR hk (by omega) (by omega), rfl, va_nm_int (ax_Ka hK (c := 16) (by omega) (by omega)).2⟩ hd w
    · cases hs
  · cases hs
theorem ax_init_ok (hexec : p.tables.exec = Jvm.exec) (hb : c.code = cc) (hml : c.maxLocals = nL) (hts : ∀ w ∈ ax_G, w.before args s = true) (hown : s.vm.findClass own = some m.cls) {idx : Nat} (hlink : Cond.methodLink own idx Lib.objectInit ∈ ax_G) (hinst : Cond.instanceMethod Lib.objectInit ∈ ax_G) (hcode : Cond.code Lib.objectInit ⟨#[0xb1]⟩ 1 none ∈ ax_G) (hfr : 1 ≤ R.frames) (hlo : 20 ≤ R.locals) (hd : decode cc pc = .ok (.invokespecial idx, 3))
    (kk : ∀ ls' st' h1, k ls' st' h1 = some res → ax_W X p l e R s m args below meth c nL Q n0 z0 hf (pc + 3) ls' st' h1) (hs : (match st with | .ref x :: r => if (gS h x).1 < 12 ∧ (r.map (fun v => v.category)).sum ≤ 8 then k ls r h else none | _ => none) = some res) : ax_W X p l e R s m args below meth c nL Q n0 z0 hf pc ls st h := by
  split at hs
  · rename_i x r
    split at hs
    · rename_i hx
      refine ax_stay (kk _ _ _ hs) fun H locs cells slots lsr hR hl w => ?_
      rw [List.map_cons, ax_v_ref (ax_ne0 hR (by omega))]
      have hcat : ((r.map (ax_v X)).map fun v => v.category) = r.map (fun v => v.category) := by
        rw [List.map_map]; congr 1; funext v; exact ax_v_cat X v
      refine W.objInit hexec hb hown (hts _ hlink) (hts _ hinst) (hts _ hcode) (g := F0 m pc lsr (.ref (ax_r X x) :: r.map (ax_v X))) rfl (by rw [hml]; exact hl.1) rfl hd hfr ?_ (w lsr hl)
      show 2 * 0 + _ + 12 ≤ _
      rw [hcat]; omega
    · cases hs
  · cases hs
end AXN
