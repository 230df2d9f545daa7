/-! THE PURE MACHINE IS RIGHT -/
theorem ax_i32 {z : Int} (h1 : -2147483648 ≤ z) (h2 : z < 2147483648) : (Int32.ofInt z).toInt = z := by
  rw [Int32.toInt_ofInt]
  exact Int.bmod_eq_of_le (by show -(2147483648 : Int) ≤ z; exact h1) (by show z < (2147483648 : Int); exact h2)
theorem ax_sw_spec {α : Type} {x : Int32} {k : Nat → Option α} {d : Nat} {res : α} : ∀ {L : List Nat} {v : Int}, ax_sw x k v L d = some res → (∃ (i : Nat) (t : Nat), L[i]? = some t ∧ x = Int32.ofInt (v + i) ∧ k t = some res) ∨ ((∀ i : Nat, i < L.length → x ≠ Int32.ofInt (v + i)) ∧ k d = some res)
  | [], v, h => Or.inr ⟨fun i hi => absurd hi (Nat.not_lt_zero i), h⟩
  | t :: L, v, h => by
    unfold ax_sw at h
    split at h
    · rename_i hx
      exact Or.inl ⟨0, t, rfl, by simpa using hx, h⟩
    · rename_i hx
      rcases ax_sw_spec h with ⟨i, t', h1, h2, h3⟩ | ⟨h1, h2⟩
      · exact Or.inl ⟨i + 1, t', by simpa using h1, by rw [h2]; congr 1; push_cast; omega, h3⟩
      · refine Or.inr ⟨fun i hi => ?_, h2⟩
        cases i with
        | zero => simpa using hx
        | succ i =>
          have := h1 i (by simpa using hi)
          rw [show v + ((i + 1 : Nat) : Int) = v + 1 + (i : Int) by push_cast; omega]
          exact this
theorem ax_lsw_spec {α : Type} {x : Int32} {k : Nat → Option α} {res : α} {pc : Nat} {dd : Int} : ∀ {L : List (Int × Int)}, (∀ q ∈ L, -2147483648 ≤ q.1 ∧ q.1 < 2147483648) → ax_lsw x k (L.map (fun q => (q.1, ((pc : Int) + q.2).toNat))) ((pc : Int) + dd).toNat = some res → k ((pc : Int) + Op.lookupswitch.offset L dd x.toInt).toNat = some res
  | [], _, h => by simpa [ax_lsw, Op.lookupswitch.offset] using h
  | q :: L, hb, h => by
    simp only [List.map_cons] at h
    unfold ax_lsw at h
    rw [Op.lookupswitch.offset_cons]
    have hq := hb q List.mem_cons_self
    split at h
    · rename_i hx
      have hx : x = Int32.ofInt q.1 := hx
      rw [if_pos (by rw [hx, ax_i32 hq.1 hq.2])]
      exact h
    · rename_i hx
      have hx : ¬ x = Int32.ofInt q.1 := hx
      rw [if_neg (by intro e; exact hx (by rw [e, Int32.ofInt_toInt]))]
      exact ax_lsw_spec (fun q' h' => hb q' (List.mem_cons_of_mem _ h')) h
section AXX
variable {α : Type} {X : ax_X} {p : Program} {l : Launch} {e : Env} {R : Room} {s : State} {m : MethodId} {args : Array Value} {below : List Frame} {meth : Method} {c : Code} {Q : State → Prop} {cc : ByteArray} {nL n0 z0 fr lo : Nat} {hf : ax_H} {ini : Bool}
variable {own : String} {M : Nat → ax_MI} {na : Nat → Nat} {ls : ax_L} {st : List Value} {h : ax_H} {k : ax_L → List Value → ax_H → Option α} {res : α}
set_option maxHeartbeats 4000000 in
theorem ax_stp_ok (hexec : p.tables.exec = Jvm.exec) (hb : c.code = cc) (hml : c.maxLocals = nL) (hts : ∀ w ∈ ax_G, w.before args s = true) (hown : s.vm.findClass own = some m.cls) (hK : ax_K X s) (hRc : gN hf ≤ n0 + R.cells) (hRz : gZ hf ≤ z0 + R.slots) (hini : ini = true → meth.name = "<init>") (hfr : fr ≤ R.frames) (hlo : lo ≤ R.locals)
    {r : ax_E} (he : ax_okE M na own cc nL fr lo ini r) (hkd : ax_kind r = 0) (kk : ∀ ls' st' h1, k ls' st' h1 = some res → ax_W X p l e R s m args below meth c nL Q n0 z0 hf (r.1 + r.2.2.1) ls' st' h1) (hs : ax_stp r ls st h k = some res) : ax_W X p l e R s m args below meth c nL Q n0 z0 hf r.1 ls st h := by
  obtain ⟨pc, ins, len, a, b, z⟩ := r
  cases ins with
  | jsr off =>
    have hlen : len = 0 := he
    subst hlen
    exact ax_stay (kk _ _ _ hs) fun H locs cells slots lsr hR hl w => w lsr (ax_keep_has hl)
  | ldc idx =>
    obtain ⟨hd, hlen, hc⟩ := he
    simp only at hd hlen hc
    subst hlen
    simp only [ax_stp] at hs
    rcases hc with ⟨hb0, hc⟩ | ⟨hb0, i, tx, hi, hi2, hi3⟩
    · rw [if_pos hb0] at hs
      exact ax_ldc_ok hexec hb hts hown hc hd (kk _ _ _ hs)
    · rw [if_neg hb0] at hs
      subst hi
      exact ax_ldcs_ok hexec hb hown hK hi3 hi2 hd (kk _ _ _ hs)
  | ldc_w idx =>
    obtain ⟨hd, hlen, hc⟩ := he
    simp only at hd hlen hc
    subst hlen
    simp only [ax_stp] at hs
    rcases hc with ⟨hb0, hc⟩ | ⟨hb0, i, tx, hi, hi2, hi3⟩
    · rw [if_pos hb0] at hs
      exact ax_ldcw_ok hexec hb hts hown hc hd (kk _ _ _ hs)
    · rw [if_neg hb0] at hs
      subst hi
      exact ax_ldcws_ok hexec hb hown hK hi3 hi2 hd (kk _ _ _ hs)
  | ldc2_w idx =>
    obtain ⟨hd, hlen, hc⟩ := he
    simp only at hd hlen hc
    subst hlen
    exact ax_ldc2_ok hexec hb hts hown hc hd (kk _ _ _ hs)
  | getfield idx =>
    obtain ⟨hd, hlen, h1, h2, h3⟩ := he
    simp only at hd hlen h1 h2 h3
    subst hlen
    exact ax_getf_ok hexec hb hts hown hK h1 h2 h3 hd kk hs
  | putfield idx =>
    obtain ⟨hd, hlen, h1, h2, h3, h4⟩ := he
    simp only at hd hlen h1 h2 h3 h4
    subst hlen
    exact ax_putf_ok hexec hb hts hown hK h1 h2 h3 (h4.imp id (fun q => ⟨hini q.1, q.2⟩)) hd kk hs
  | iaload =>
    obtain ⟨hd, hlen⟩ := he
    simp only at hd hlen
    subst hlen
    refine ax_al_ok hexec hb hK hd (Or.inl ⟨rfl, ?_⟩) kk hs
    by_cases hb1 : b = 1
    · exact Or.inr (if_pos hb1)
    · exact Or.inl (if_neg hb1)
  | laload =>
    obtain ⟨hd, hlen⟩ := he
    simp only at hd hlen
    subst hlen
    exact ax_al_ok hexec hb hK hd (Or.inr (Or.inl ⟨rfl, rfl⟩)) kk hs
  | baload =>
    obtain ⟨hd, hlen, h1⟩ := he
    simp only at hd hlen h1
    subst hlen
    exact ax_al_ok hexec hb hK hd (Or.inr (Or.inr (Or.inl ⟨rfl, h1⟩))) kk hs
  | aaload =>
    obtain ⟨hd, hlen, h1, h2⟩ := he
    simp only at hd hlen h1 h2
    subst hlen
    exact ax_al_ok hexec hb hK hd (Or.inr (Or.inr (Or.inr ⟨rfl, h1, h2⟩))) kk hs
  | iastore =>
    obtain ⟨hd, hlen⟩ := he
    simp only at hd hlen
    subst hlen
    exact ax_as_ok hexec hb hK hd (Or.inl ⟨rfl, rfl⟩) kk hs
  | lastore =>
    obtain ⟨hd, hlen⟩ := he
    simp only at hd hlen
    subst hlen
    exact ax_as_ok hexec hb hK hd (Or.inr (Or.inl ⟨rfl, rfl⟩)) kk hs
  | bastore =>
    obtain ⟨hd, hlen, h1⟩ := he
    simp only at hd hlen h1
    subst hlen
    exact ax_as_ok hexec hb hK hd (Or.inr (Or.inr (Or.inl ⟨rfl, h1⟩))) kk hs
  | aastore =>
    obtain ⟨hd, hlen, h1⟩ := he
    simp only at hd hlen h1
    subst hlen
    exact ax_as_ok hexec hb hK hd (Or.inr (Or.inr (Or.inr ⟨rfl, h1⟩))) kk hs
  | arraylength =>
    obtain ⟨hd, hlen⟩ := he
    simp only at hd hlen
    subst hlen
    refine ax_ln_ok hexec hb hK ?_ hd kk hs
    by_cases hb1 : b = 1
    · exact Or.inr (if_pos hb1)
    · exact Or.inl (if_neg hb1)
  | new idx =>
    obtain ⟨hd, hlen, h1, h2⟩ := he
    simp only at hd hlen h1 h2
    subst hlen
    exact ax_new_ok hexec hb hts hown hK hRc hRz h1 h2 hd kk hs
  | newarray at' =>
    obtain ⟨hd, hlen, h1, h2, h3, h4⟩ := he
    simp only at hd hlen h1 h2 h3 h4
    subst hlen
    exact ax_na_ok hexec hb hts hown hK hRc hRz hd (Or.inl ⟨at', rfl, rfl, h1, h2, h3, h4⟩) kk hs
  | anewarray idx =>
    obtain ⟨hd, hlen, cn, h1, h2⟩ := he
    simp only at hd hlen h1 h2
    subst hlen
    exact ax_na_ok hexec hb hts hown hK hRc hRz hd (Or.inr ⟨idx, cn, rfl, rfl, h1, h2⟩) kk hs
  | multianewarray idx d =>
    obtain ⟨hd, hlen, h0, h1, h2⟩ := he
    simp only at hd hlen h0 h1 h2
    subst hlen
    exact ax_mn_ok hexec hb hts hown hK hRc hRz h1 h2 hd kk hs
  | checkcast idx =>
    obtain ⟨hd, hlen, h1⟩ := he
    simp only at hd hlen h1
    subst hlen
    exact ax_cc_ok hexec hb hts hown hK h1 hd kk hs
  | invokestatic idx =>
    obtain ⟨hd, hlen, h1⟩ := he
    simp only at hd hlen h1
    subst hlen
    have hb100 : ¬ b < 100 := fun q => by simp [ax_kind, q] at hkd
    rw [if_neg hb100] at h1
    obtain ⟨g1, g2, g3, g4, g5, g6, g7⟩ := h1
    exact ax_ac_ok hexec hb hml hts hown hK g1 g2 g3 g4 g5 (Nat.le_trans g6 hfr) (Nat.le_trans g7 hlo) hd kk hs
  | invokevirtual idx =>
    obtain ⟨hd, hlen, h1⟩ := he
    simp only at hd hlen h1
    subst hlen
    have hb100 : ¬ b < 100 := fun q => by simp [ax_kind, q] at hkd
    rw [if_neg hb100] at h1
    obtain ⟨g1, g2, g3, g4, g5, g6, g7⟩ := h1
    exact ax_cl_ok hexec hb hml hts hown hK hRc hRz g1 g2 g3 g4 g5 (Nat.le_trans g6 hfr) (Nat.le_trans g7 hlo) hd kk hs
  | invokespecial idx =>
    obtain ⟨hd, hlen, h1⟩ := he
    simp only at hd hlen h1
    subst hlen
    have hb100 : ¬ b < 100 := fun q => by simp [ax_kind, q] at hkd
    rw [if_neg hb100] at h1
    obtain ⟨g1, g2, g3, g6, g7⟩ := h1
    exact ax_init_ok hexec hb hml hts hown g1 g2 g3 (Nat.le_trans g6 hfr) (Nat.le_trans g7 hlo) hd kk hs
  | _ => first | (exact ax_stay_ok hexec hb he.1 he.2 trivial kk hs) | (simp [ax_kind] at hkd; done) | (simp [ax_stp] at hs; done)
/-- a call's row -/
theorem ax_call_spec {E : ax_Env} {r : ax_E} {n : Nat} {kc : List Value → ax_H → Option α} (hE : ax_Es M E r.2.2.2.1) (hs : ax_call E r n st h kc = some res) : n ≤ st.length ∧ ((st.drop n).map (fun v => v.category)).sum ≤ 8 ∧ ∃ (o : Option Value) (h1 : ax_H), ax_Imp M r.2.2.2.1 (st.take n).reverse h o h1 ∧ kc (o.toList ++ st.drop n) h1 = some res := by
  unfold ax_call at hs
  split at hs
  · rename_i hc
    refine ⟨hc.1, hc.2, ?_⟩
    split at hs
    · obtain ⟨h1, g1, g2⟩ := Option.bind_eq_some_iff.mp hs
      exact ⟨none, h1, hE.1 _ _ _ g1, g2⟩
    · split at hs
      · obtain ⟨⟨x, h1⟩, g1, g2⟩ := Option.bind_eq_some_iff.mp hs
        exact ⟨some (.int x), h1, hE.2.1 _ _ _ _ g1, g2⟩
      · split at hs
        · obtain ⟨⟨x, h1⟩, g1, g2⟩ := Option.bind_eq_some_iff.mp hs
          exact ⟨some (.long x), h1, hE.2.2.1 _ _ _ _ g1, g2⟩
        · obtain ⟨⟨x, h1⟩, g1, g2⟩ := Option.bind_eq_some_iff.mp hs
          exact ⟨some (.ref x), h1, hE.2.2.2 _ _ _ _ g1, g2⟩
  · cases hs
theorem ax_take_drop {x : Value} {r : List Value} {n : Nat} (hn : 0 < n) (h : st.drop (n - 1) = x :: r) : (st.take n).reverse = x :: (st.take (n - 1)).reverse ∧ st.drop n = r ∧ st = (st.take (n - 1)) ++ x :: r := by
  have e1 : st = st.take (n - 1) ++ x :: r := by rw [← h, List.take_append_drop]
  have hl : (st.take (n - 1)).length = n - 1 := by
    rw [List.length_take]
    have : (st.drop (n - 1)).length = r.length + 1 := by rw [h]; rfl
    rw [List.length_drop] at this
    omega
  have e2 : st.take n = st.take (n - 1) ++ [x] := by
    rw [show n = n - 1 + 1 by omega, List.take_succ, show n - 1 + 1 - 1 = n - 1 by omega]
    congr 1
    have : st[n - 1]? = some x := by
      rw [← List.head?_drop, h]; rfl
    rw [this]; rfl
  refine ⟨by rw [e2]; simp, ?_, e1⟩
  rw [show n = n - 1 + 1 by omega, ← List.drop_drop, h]
  rfl
theorem ax_h1_true {X : ax_X} {H : Heap} {locs : List Loc} {cells slots : Nat} {lsr : Array Slot} (hexec : p.tables.exec = Jvm.exec) (hb : c.code = cc) {pc tgt : Nat} {cd : ClassFile.Cond} {off : Int} {x : Int32} {rest : List Value} (hd : decode cc pc = .ok (.ifCond cd off, 3)) (ht : (pc : Int) + off = (tgt : Int))
    (kt : ax_h1 cd x = true → W p l e R s m args below meth c H locs cells slots Q (F0 m tgt lsr rest)) (kf : ¬ ax_h1 cd x = true → W p l e R s m args below meth c H locs cells slots Q (F0 m (pc + 3) lsr rest)) : W p l e R s m args below meth c H locs cells slots Q (F0 m pc lsr (.int x :: rest)) := by
  cases cd with
  | eq => exact lv_if_eq hexec hb hd ht (fun q => kt (by simpa [ax_h1] using q)) (fun q => kf (by simpa [ax_h1] using q))
  | ne => exact lv_if_ne hexec hb hd ht (fun q => kt (by simpa [ax_h1] using q)) (fun q => kf (by simpa [ax_h1] using q))
  | lt => exact lv_if_lt hexec hb hd ht (fun q => kt (by simpa [ax_h1] using q)) (fun q => kf (by simpa [ax_h1] using q))
  | ge => exact lv_if_ge hexec hb hd ht (fun q => kt (by simpa [ax_h1] using q)) (fun q => kf (by simpa [ax_h1] using q))
  | gt => exact lv_if_gt hexec hb hd ht (fun q => kt (by simpa [ax_h1] using q)) (fun q => kf (by simpa [ax_h1] using q))
  | le => exact lv_if_le hexec hb hd ht (fun q => kt (by simpa [ax_h1] using q)) (fun q => kf (by simpa [ax_h1] using q))
theorem ax_h2_true {X : ax_X} {H : Heap} {locs : List Loc} {cells slots : Nat} {lsr : Array Slot} (hexec : p.tables.exec = Jvm.exec) (hb : c.code = cc) {pc tgt : Nat} {cd : ClassFile.Cond} {off : Int} {x y : Int32} {rest : List Value} (hd : decode cc pc = .ok (.if_icmp cd off, 3)) (ht : (pc : Int) + off = (tgt : Int))
    (kt : ax_h2 cd x y = true → W p l e R s m args below meth c H locs cells slots Q (F0 m tgt lsr rest)) (kf : ¬ ax_h2 cd x y = true → W p l e R s m args below meth c H locs cells slots Q (F0 m (pc + 3) lsr rest)) : W p l e R s m args below meth c H locs cells slots Q (F0 m pc lsr (.int y :: .int x :: rest)) := by
  cases cd with
  | eq => exact lv_icmp_eq hexec hb hd ht (fun q => kt (by simpa [ax_h2] using q)) (fun q => kf (by simpa [ax_h2] using q))
  | ne => exact lv_icmp_ne hexec hb hd ht (fun q => kt (by simpa [ax_h2] using q)) (fun q => kf (by simpa [ax_h2] using q))
  | lt => exact lv_icmp_lt hexec hb hd ht (fun q => kt (by simpa [ax_h2] using q)) (fun q => kf (by simpa [ax_h2] using q))
  | ge => exact lv_icmp_ge hexec hb hd ht (fun q => kt (by simpa [ax_h2] using q)) (fun q => kf (by simpa [ax_h2] using q))
  | gt => exact lv_icmp_gt hexec hb hd ht (fun q => kt (by simpa [ax_h2] using q)) (fun q => kf (by simpa [ax_h2] using q))
  | le => exact lv_icmp_le hexec hb hd ht (fun q => kt (by simpa [ax_h2] using q)) (fun q => kf (by simpa [ax_h2] using q))
/-- what a return's row does -/
def ax_Rt (X : ax_X) (p : Program) (l : Launch) (e : Env) (R : Room) (s : State) (m : MethodId) (args : Array Value) (below : List Frame) (meth : Method) (c : Code) (nL : Nat) (Q : State → Prop) (n0 z0 : Nat) (hf : ax_H) (ρ : Value → ax_H → Option α) (res : α) (r : ax_E) : Prop :=
  (∀ (ls : ax_L) (x : Int32) (h1 : ax_H), r.2.1 = .ireturn → (r.2.2.2.1 = 1 → x = 0 ∨ x = 1) → ρ (.int x) h1 = some res → ax_W X p l e R s m args below meth c nL Q n0 z0 hf r.1 ls [.int x] h1) ∧
  (∀ (ls : ax_L) (x : Int64) (h1 : ax_H), r.2.1 = .lreturn → ρ (.long x) h1 = some res → ax_W X p l e R s m args below meth c nL Q n0 z0 hf r.1 ls [.long x] h1) ∧
  (∀ (ls : ax_L) (x : Nat) (h1 : ax_H), r.2.1 = .areturn → ρ (.ref x) h1 = some res → ax_W X p l e R s m args below meth c nL Q n0 z0 hf r.1 ls [.ref x] h1) ∧
  (∀ (ls : ax_L) (h1 : ax_H), r.2.1 = .return_ → ρ (.retAddr 0) h1 = some res → ax_W X p l e R s m args below meth c nL Q n0 z0 hf r.1 ls [] h1)
end AXX
