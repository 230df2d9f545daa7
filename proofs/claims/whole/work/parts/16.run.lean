/-! THE PURE MACHINE'S RUN IS THE MACHINE'S -/
section AXR
variable {α : Type} {X : ax_X} {p : Program} {l : Launch} {e : Env} {R : Room} {s : State} {m : MethodId} {args : Array Value} {below : List Frame} {meth : Method} {c : Code} {Q : State → Prop} {cc : ByteArray} {nL n0 z0 fr lo : Nat} {hf : ax_H} {ini : Bool}
variable {own : String} {M : Nat → ax_MI} {na : Nat → Nat} {ρ : Value → ax_H → Option α} {res : α} {E : ax_Env} {C : List ax_E}
set_option maxHeartbeats 4000000 in
theorem ax_ex_ok (hexec : p.tables.exec = Jvm.exec) (hb : c.code = cc) (hml : c.maxLocals = nL) (hts : ∀ w ∈ ax_G, w.before args s = true) (hown : s.vm.findClass own = some m.cls) (hK : ax_K X s) (hRc : gN hf ≤ n0 + R.cells) (hRz : gZ hf ≤ z0 + R.slots) (hini : ini = true → meth.name = "<init>") (hfr : fr ≤ R.frames) (hlo : lo ≤ R.locals)
    (hE : ∀ r ∈ C, ax_kind r = 8 → ax_Es M E r.2.2.2.1) (hna : ∀ r ∈ C, ax_kind r = 8 → ¬ (∃ i, r.2.1 = .invokestatic i) → 0 < na r.2.2.2.1) (hok : ∀ r ∈ C, ax_okE M na own cc nL fr lo ini r) (hsq : ax_seq C) (hrt : ∀ r ∈ C, ax_Rt X p l e R s m args below meth c nL Q n0 z0 hf ρ res r) :
    ∀ (n : Nat) (sfx : List ax_E) (ls : ax_L) (st : List Value) (h : ax_H), (∀ r ∈ sfx, r ∈ C) → ax_seq sfx → ax_ex ρ E na C n sfx ls st h = some res → ∃ r t, sfx = r :: t ∧ ax_W X p l e R s m args below meth c nL Q n0 z0 hf r.1 ls st h := by
  intro n
  induction n with
  | zero => intro sfx ls st h _ _ hs; simp [ax_ex] at hs
  | succ n ih =>
    intro sfx ls st h hin hseq hs
    cases sfx with
    | nil => simp [ax_ex] at hs
    | cons r t =>
      refine ⟨r, t, rfl, ?_⟩
      have hrC := hin r List.mem_cons_self
      have he := hok r hrC
      -- the next row
      have next : ∀ (ls' : ax_L) (st' : List Value) (h1 : ax_H), ax_ex ρ E na C n t ls' st' h1 = some res → ax_W X p l e R s m args below meth c nL Q n0 z0 hf (r.1 + r.2.2.1) ls' st' h1 := by
        intro ls' st' h1 hx
        obtain ⟨r', t', ht, hw⟩ := ih t ls' st' h1 (fun q hq => hin q (List.mem_cons_of_mem _ hq)) (by unfold ax_seq at hseq; exact hseq.2) hx
        subst ht
        unfold ax_seq at hseq
        have : r'.1 = r.1 + r.2.2.1 := hseq.1
        rw [← this]
        exact hw
      -- a jump
      have jump : ∀ (tg : Nat) (ls' : ax_L) (st' : List Value) (h1 : ax_H), ax_ex ρ E na C n (ax_to C tg) ls' st' h1 = some res → ax_W X p l e R s m args below meth c nL Q n0 z0 hf tg ls' st' h1 := by
        intro tg ls' st' h1 hx
        cases hto : ax_to C tg with
        | nil => rw [hto] at hx; cases n <;> simp [ax_ex] at hx
        | cons r' t' =>
          obtain ⟨g1, g2, g3⟩ := ax_to_in hto
          rw [hto] at hx
          obtain ⟨r2, t2, ht, hw⟩ := ih (r' :: t') ls' st' h1 g2 (g3 hsq) hx
          cases ht
          rw [← g1]
          exact hw
      unfold ax_ex at hs
      split at hs
      · -- on
        rename_i hk
        exact ax_stp_ok hexec hb hml hts hown hK hRc hRz hini hfr hlo he hk next hs
      · -- goto
        rename_i hk
        obtain ⟨pc, ins, len, a, b, z⟩ := r
        cases ins <;> simp [ax_kind] at hk <;> try (split at hk <;> cases hk)
        rename_i off
        obtain ⟨hd, ht⟩ := he
        exact ax_stay (jump _ _ _ _ hs) fun H locs cells slots lsr hR hl w => lv_goto hexec hb hd ht (w lsr hl)
      · -- if
        rename_i hk
        obtain ⟨pc, ins, len, a, b, z⟩ := r
        simp only at hs
        split at hs
        · rename_i cd off x rr
          obtain ⟨hd, hlen, ht⟩ := he
          simp only at hd hlen ht
          subst hlen
          by_cases hc : ax_h1 cd x = true
          · rw [if_pos hc] at hs
            have w0 := jump _ _ _ _ hs
            exact ax_stay w0 fun H locs cells slots lsr hR hl w => ax_h1_true (X := X) hexec hb hd ht (fun _ => w lsr hl) (fun q => absurd hc q)
          · rw [if_neg hc] at hs
            have w0 := next _ _ _ hs
            exact ax_stay w0 fun H locs cells slots lsr hR hl w => ax_h1_true (X := X) hexec hb hd ht (fun q => absurd q hc) (fun _ => w lsr hl)
        · cases hs
      · -- if_icmp
        rename_i hk
        obtain ⟨pc, ins, len, a, b, z⟩ := r
        simp only at hs
        split at hs
        · rename_i cd off y x rr
          obtain ⟨hd, hlen, ht⟩ := he
          simp only at hd hlen ht
          subst hlen
          by_cases hc : ax_h2 cd x y = true
          · rw [if_pos hc] at hs
            have w0 := jump _ _ _ _ hs
            exact ax_stay w0 fun H locs cells slots lsr hR hl w => ax_h2_true (X := X) hexec hb hd ht (fun _ => w lsr hl) (fun q => absurd hc q)
          · rw [if_neg hc] at hs
            have w0 := next _ _ _ hs
            exact ax_stay w0 fun H locs cells slots lsr hR hl w => ax_h2_true (X := X) hexec hb hd ht (fun q => absurd q hc) (fun _ => w lsr hl)
        · cases hs
      · -- ifnull
        rename_i hk
        obtain ⟨pc, ins, len, a, b, z⟩ := r
        simp only at hs
        have hins : ∃ off, ins = .ifnull off := by
          cases ins <;> simp [ax_kind] at hk <;> try (split at hk <;> cases hk)
          exact ⟨_, rfl⟩
        obtain ⟨off, rfl⟩ := hins
        obtain ⟨hd, hlen, ht⟩ := he
        simp only at hd hlen ht
        subst hlen
        split at hs
        · rename_i x rr
          by_cases hc : x = 0
          · rw [if_pos hc] at hs
            subst hc
            exact ax_stay (jump _ _ _ _ hs) fun H locs cells slots lsr hR hl w => by rw [List.map_cons, ax_v_null]; exact lv_ifnullN hexec hb hd ht (w lsr hl)
          · rw [if_neg hc] at hs
            exact ax_stay (next _ _ _ hs) fun H locs cells slots lsr hR hl w => by rw [List.map_cons, ax_v_ref hc]; exact lv_ifnull hexec hb hd (w lsr hl)
        · cases hs
      · -- ifnonnull
        rename_i hk
        obtain ⟨pc, ins, len, a, b, z⟩ := r
        simp only at hs
        have hins : ∃ off, ins = .ifnonnull off := by
          cases ins <;> simp [ax_kind] at hk <;> try (split at hk <;> cases hk)
          exact ⟨_, rfl⟩
        obtain ⟨off, rfl⟩ := hins
        obtain ⟨hd, hlen, ht⟩ := he
        simp only at hd hlen ht
        subst hlen
        split at hs
        · rename_i x rr
          by_cases hc : x = 0
          · rw [if_pos hc] at hs
            subst hc
            exact ax_stay (next _ _ _ hs) fun H locs cells slots lsr hR hl w => by rw [List.map_cons, ax_v_null]; exact lv_ifnonnullN hexec hb hd (w lsr hl)
          · rw [if_neg hc] at hs
            exact ax_stay (jump _ _ _ _ hs) fun H locs cells slots lsr hR hl w => by rw [List.map_cons, ax_v_ref hc]; exact lv_ifnonnull hexec hb hd ht (w lsr hl)
        · cases hs
      · -- tableswitch
        rename_i hk
        obtain ⟨pc, ins, len, a, b, z⟩ := r
        simp only at hs
        split at hs
        · rename_i d lw hi offs x rr
          obtain ⟨hd, h1, h2, h3, h4, h5⟩ := he
          simp only at hd h1 h2 h3 h4 h5
          rcases ax_sw_spec hs with ⟨i, tg, g1, g2, g3⟩ | ⟨g1, g2⟩
          · rw [List.getElem?_map] at g1
            obtain ⟨o, ho, hto⟩ := Option.map_eq_some_iff.mp g1
            have hil : i < offs.toList.length := (List.getElem?_eq_some_iff.mp ho).1
            have hx : x.toInt = lw + i := by rw [g2, ax_i32 (by omega) (by omega)]
            have ho2 := h2 o (List.mem_of_getElem? ho)
            exact ax_stay (jump _ _ _ _ g3) fun H locs cells slots lsr hR hl w => lv_tableIn (off := o) (tgt := tg) hexec hb hd (by omega) (by omega) (by rw [hx, show (lw + (i : Int) - lw).toNat = i by omega, ← Array.getElem?_toList]; exact ho) (by rw [← hto]; omega) (w lsr hl)
          · refine ax_stay (jump _ _ _ _ g2) fun H locs cells slots lsr hR hl w => lv_tableOut hexec hb hd ?_ (by omega) (w lsr hl)
            by_cases q1 : x.toInt < lw
            · exact Or.inl q1
            · by_cases q2 : hi < x.toInt
              · exact Or.inr q2
              · exfalso
                refine g1 (x.toInt - lw).toNat (by rw [List.length_map]; omega) ?_
                rw [show lw + ((x.toInt - lw).toNat : Int) = x.toInt by omega, Int32.ofInt_toInt]
        · cases hs
      · -- lookupswitch
        rename_i hk
        obtain ⟨pc, ins, len, a, b, z⟩ := r
        simp only at hs
        split at hs
        · rename_i d ps x rr
          obtain ⟨hd, h1, h2, h3⟩ := he
          simp only at hd h1 h2 h3
          have g := ax_lsw_spec (fun q hq => (h2 q hq).2) hs
          have hoff : ∀ (L : List (Int × Int)), (∀ q ∈ L, 0 ≤ (pc : Int) + q.2) → 0 ≤ (pc : Int) + Op.lookupswitch.offset L d x.toInt := by
            intro L
            induction L with
            | nil => intro _; simpa [Op.lookupswitch.offset] using h1
            | cons q L ihL =>
              intro hq
              rw [Op.lookupswitch.offset_cons]
              split
              · exact hq q List.mem_cons_self
              · exact ihL (fun q' h' => hq q' (List.mem_cons_of_mem _ h'))
          have h0 := hoff ps.toList (fun q hq => (h2 q hq).1)
          exact ax_stay (jump _ _ _ _ g) fun H locs cells slots lsr hR hl w => lv_lookup hexec hb hd h3 rfl (by omega) (w lsr hl)
        · cases hs
      · -- returns
        rename_i hk
        obtain ⟨t1, t2, t3, t4⟩ := hrt r hrC
        split at hs
        · rename_i x hr
          split at hs
          · rename_i h1
            split at hs
            · rename_i hx
              exact t1 ls x h hr (fun _ => hx) hs
            · cases hs
          · rename_i h1
            exact t1 ls x h hr (fun q => absurd q h1) hs
        · rename_i x hr
          exact t2 ls x h hr hs
        · rename_i x hr
          exact t3 ls x h hr hs
        · rename_i hr
          exact t4 ls h hr hs
        · cases hs
      · -- calls
        rename_i k0 k1 k2 k3 k4 k5 k6 k7 k8
        have hk : ax_kind r = 8 := by
          obtain ⟨pc, ins, len, a, b, z⟩ := r
          cases ins <;> simp [ax_kind] at k0 k1 k2 k3 k4 k5 k6 k7 k8 ⊢ <;> omega
        have hEs := hE r hrC hk
        have hn0 := hna r hrC hk
        obtain ⟨pc, ins, len, a, b, z⟩ := r
        simp only at hs hEs hn0
        split at hs
        · rename_i idx
          obtain ⟨hd, hlen, h1⟩ := he
          simp only at hd hlen h1
          subst hlen
          have hb100 : b < 100 := by simp only [ax_kind] at hk; split at hk <;> simp_all
          rw [if_pos hb100] at h1
          obtain ⟨g1, g2, g3, g4, g5, g6⟩ := h1
          obtain ⟨c1, c2, o, h1, hImp, hs⟩ := ax_call_spec hEs hs
          have w0 := next _ _ _ hs
          refine ⟨Nat.le_trans hImp.1 w0.1, Nat.le_trans hImp.2.1 w0.2.1, fun a1 a2 H locs lsr hR hlo' hl => ?_⟩
          have m1 := hImp.1
          have m2 := hImp.2.1
          have m3 := w0.1
          have m4 := w0.2.1
          refine ax_cs (n := na a) (av := (st.take (na a)).reverse) (rest := st.drop (na a)) (h := h) (h' := h1) (o := o) (M := M) (N := a) hexec hb (by rw [hml]; exact hl.1.symm) hts hown hK hR g1 g2 g3 g4 ⟨Nat.le_trans g5 hfr, Nat.le_trans g6 hlo⟩ (by simp; omega) (by rw [List.reverse_reverse, List.take_append_drop]) c2 hImp (by omega) (by omega) hlo' hd fun H1 locs1 q1 q2 => ?_
          exact W.cs (show gN h - n0 + (gN h1 - gN h) = gN h1 - n0 by omega) (show gZ h - z0 + (gZ h1 - gZ h) = gZ h1 - z0 by omega) (w0.2.2 (by omega) (by omega) H1 locs1 lsr q1 q2 hl)
        · rename_i hnst
          split at hs
          · rename_i x rr hdrop
            by_cases hx : ax_rcv h b x
            · rw [if_pos hx] at hs
              have hpos : 0 < na a := hn0 (fun ⟨i, hi⟩ => hnst i hi)
              obtain ⟨td1, td2, td3⟩ := ax_take_drop hpos hdrop
              obtain ⟨c1, c2, o, h1, hImp, hs⟩ := ax_call_spec hEs hs
              have w0 := next _ _ _ hs
              refine ⟨Nat.le_trans hImp.1 w0.1, Nat.le_trans hImp.2.1 w0.2.1, fun a1 a2 H locs lsr hR hlo' hl => ?_⟩
              have m1 := hImp.1
              have m2 := hImp.2.1
              have m3 := w0.1
              have m4 := w0.2.1
              rw [td1] at hImp
              rw [td2] at c2 hs w0
              have fin : ∀ (H1 : Heap) (locs1 : List Loc), ax_Rep X h1 H1 → (∀ l ∈ locs1, xB X ≤ l.base) → W p l e R s m args below meth c H1 locs1 (gN h - n0 + (gN h1 - gN h)) (gZ h - z0 + (gZ h1 - gZ h)) Q (F0 m (pc + len) lsr ((o.toList ++ rr).map (ax_v X))) := fun H1 locs1 q1 q2 =>
                W.cs (show gN h - n0 + (gN h1 - gN h) = gN h1 - n0 by omega) (show gZ h - z0 + (gZ h1 - gZ h) = gZ h1 - z0 by omega) (w0.2.2 (by omega) (by omega) H1 locs1 lsr q1 q2 hl)
              have hlen1 : ((st.take (na a - 1)).reverse).length = na a - 1 := by
                rw [List.length_reverse, List.length_take]; omega
              cases ins <;> simp [ax_kind] at hk
              · rename_i idx
                obtain ⟨hd, hlen, h1'⟩ := he
                simp only at hd hlen h1'
                subst hlen
                rw [if_pos hk] at h1'
                obtain ⟨g1, g2, g3, g4, g5, g6, g7, g8, g9⟩ := h1'
                have g5' : (parseMethodDescriptor (M a).1.desc).map (fun d => d.parameters.length) = some (na a - 1) := by
                  cases hpd : parseMethodDescriptor (M a).1.desc with
                  | none => rw [hpd] at g5; simp at g5
                  | some sig => rw [hpd] at g5; simp at g5 ⊢; omega
                exact ax_ci (n := na a - 1) (x := x) (av := (st.take (na a - 1)).reverse) (rest := rr) (h := h) (h' := h1) (o := o) (M := M) (N := a) hexec hb (by rw [hml]; exact hl.1.symm) hts hown hK hR g1 g2 g3 g4 g5' g6 ⟨Nat.le_trans g8 hfr, Nat.le_trans g9 hlo⟩ hlen1 (by rw [List.reverse_reverse]; exact td3) hx g7 c2 hImp (by omega) (by omega) hlo' hd fin
              · rename_i idx
                exact absurd rfl (hnst idx)
              · rename_i idx
                obtain ⟨hd, hlen, h1'⟩ := he
                simp only at hd hlen h1'
                subst hlen
                rw [if_pos hk] at h1'
                obtain ⟨g1, g2, g3, g4, g5, ⟨g6, g7⟩, g8, g9⟩ := h1'
                have g4' : (parseMethodDescriptor (M a).1.desc).map (fun d => d.parameters.length) = some (na a - 1) := by
                  cases hpd : parseMethodDescriptor (M a).1.desc with
                  | none => rw [hpd] at g4; simp at g4
                  | some sig => rw [hpd] at g4; simp at g4 ⊢; omega
                exact ax_cv (n := na a - 1) (x := x) (av := (st.take (na a - 1)).reverse) (rest := rr) (h := h) (h' := h1) (o := o) (M := M) (N := a) hexec hb (by rw [hml]; exact hl.1.symm) hts hown hK hR g1 g2 g3 g4' g5 ⟨Nat.le_trans g8 hfr, Nat.le_trans g9 hlo⟩ hlen1 (by rw [List.reverse_reverse]; exact td3) hx g6 g7 c2 hImp (by omega) (by omega) hlo' hd fin
            · rw [if_neg hx] at hs; cases hs
          · cases hs
end AXR
