/-! A PROGRAM THAT CHECKS A METHOD's ROWS -/
def ax_decB (cc : ByteArray) (e : ax_E) : Bool := match decode cc e.1 with
  | .ok (i, l) => decide (i = e.2.1) && l == e.2.2.1
  | _ => false
def ax_callB (N o : Nat) (e : ax_E) (idx : Nat) : Bool := (ax_mk.contains (o, idx, e.2.2.2.1) || ax_nk.contains (o, idx, e.2.2.2.1)) && ax_cm.contains e.2.2.2.1 && decide ((ax_M e.2.2.2.1).2.2.2.2.2.1 + 1 ≤ (ax_M N).2.2.2.2.2.1) && decide (8 + ((ax_M e.2.2.2.1).2.2.1 + 11) + (ax_M e.2.2.2.1).2.2.2.2.2.2 ≤ (ax_M N).2.2.2.2.2.2) && decide (Cond.initialized (ax_M e.2.2.2.1).1.cls ∈ ax_ini) && decide ((ax_M e.2.2.2.1).1.cls ≠ "java/lang/invoke/MethodHandle" ∧ (ax_M e.2.2.2.1).1.cls ≠ "java/lang/invoke/VarHandle")
/-- N the method's number, o its class's, ini whether it is a constructor -/
def ax_okB (N o : Nat) (ini : Bool) (e : ax_E) : Bool :=
  match e.2.1 with
  | .jsr _ => e.2.2.1 == 0
  | .ldc idx => ax_decB (ax_M N).2.1 e && e.2.2.1 == 2 && (if e.2.2.2.2.1 = 0 then ax_ic.contains (o, idx, e.2.2.2.2.2) else decide (0 < e.2.2.2.1) && decide (e.2.2.2.1 < 64) && (match ax_strs[e.2.2.2.1 - 1]? with | some q => decide (q.1 = ax_on o) && q.2.1 == idx | none => false))
  | .ldc_w idx => ax_decB (ax_M N).2.1 e && e.2.2.1 == 3 && (if e.2.2.2.2.1 = 0 then ax_ic.contains (o, idx, e.2.2.2.2.2) else decide (0 < e.2.2.2.1) && decide (e.2.2.2.1 < 64) && (match ax_strs[e.2.2.2.1 - 1]? with | some q => decide (q.1 = ax_on o) && q.2.1 == idx | none => false))
  | .ldc2_w idx => ax_decB (ax_M N).2.1 e && e.2.2.1 == 3 && ax_jc.contains (o, idx, e.2.2.2.2.2)
  | .getfield idx => ax_decB (ax_M N).2.1 e && e.2.2.1 == 3 && decide (e.2.2.2.1 < 12) && decide (e.2.2.2.2.1 < ax_n e.2.2.2.1) && ax_fk.contains (o, idx, e.2.2.2.1, e.2.2.2.2.1)
  | .putfield idx => ax_decB (ax_M N).2.1 e && e.2.2.1 == 3 && decide (e.2.2.2.1 < 12) && decide (e.2.2.2.2.1 < ax_n e.2.2.2.1) && ax_fk.contains (o, idx, e.2.2.2.1, e.2.2.2.2.1) && (!(ax_T e.2.2.2.1 e.2.2.2.2.1).2.2.2 || (ini && decide ((ax_T e.2.2.2.1 e.2.2.2.2.1).1 = ax_on o)))
  | .iaload => ax_decB (ax_M N).2.1 e && e.2.2.1 == 1
  | .laload => ax_decB (ax_M N).2.1 e && e.2.2.1 == 1
  | .baload => ax_decB (ax_M N).2.1 e && e.2.2.1 == 1 && (e.2.2.2.1 == 18 || e.2.2.2.1 == 19)
  | .aaload => ax_decB (ax_M N).2.1 e && e.2.2.1 == 1 && decide (20 ≤ e.2.2.2.1) && decide (e.2.2.2.1 < 23)
  | .iastore => ax_decB (ax_M N).2.1 e && e.2.2.1 == 1
  | .lastore => ax_decB (ax_M N).2.1 e && e.2.2.1 == 1
  | .bastore => ax_decB (ax_M N).2.1 e && e.2.2.1 == 1 && (e.2.2.2.1 == 18 || e.2.2.2.1 == 19)
  | .aastore => ax_decB (ax_M N).2.1 e && e.2.2.1 == 1 && (e.2.2.2.1 == 20 || e.2.2.2.1 == 21)
  | .arraylength => ax_decB (ax_M N).2.1 e && e.2.2.1 == 1
  | .new idx => ax_decB (ax_M N).2.1 e && e.2.2.1 == 3 && decide (e.2.2.2.1 < 12) && ax_lk.contains (o, idx, e.2.2.2.1)
  | .newarray at' => ax_decB (ax_M N).2.1 e && e.2.2.1 == 2 && decide (16 ≤ e.2.2.2.1) && decide (e.2.2.2.1 < 20) && decide (newarray.typeOf at' = ax_at e.2.2.2.1)
  | .anewarray idx => ax_decB (ax_M N).2.1 e && e.2.2.1 == 3 && ((e.2.2.2.1 == 20 && ax_lk.contains (o, idx, 5)) || (e.2.2.2.1 == 21 && ax_lk.contains (o, idx, 1)))
  | .multianewarray idx d => ax_decB (ax_M N).2.1 e && e.2.2.1 == 4 && d == 2 && ax_lk.contains (o, idx, 21)
  | .checkcast idx => ax_decB (ax_M N).2.1 e && e.2.2.1 == 3 && ax_lk.contains (o, idx, 20)
  | .goto off => ax_decB (ax_M N).2.1 e && e.2.2.1 == 3 && decide ((e.1 : Int) + off = e.2.2.2.1)
  | .ifCond _ off => ax_decB (ax_M N).2.1 e && e.2.2.1 == 3 && decide ((e.1 : Int) + off = e.2.2.2.1)
  | .if_icmp _ off => ax_decB (ax_M N).2.1 e && e.2.2.1 == 3 && decide ((e.1 : Int) + off = e.2.2.2.1)
  | .ifnull off => ax_decB (ax_M N).2.1 e && e.2.2.1 == 3 && decide ((e.1 : Int) + off = e.2.2.2.1)
  | .ifnonnull off => ax_decB (ax_M N).2.1 e && e.2.2.1 == 3 && decide ((e.1 : Int) + off = e.2.2.2.1)
  | .tableswitch d lw hi offs => ax_decB (ax_M N).2.1 e && decide (0 ≤ (e.1 : Int) + d) && offs.toList.all (fun o => decide (0 ≤ (e.1 : Int) + o)) && decide (lw + offs.toList.length = hi + 1) && decide (-2147483648 ≤ lw) && decide (hi < 2147483648)
  | .lookupswitch d ps => ax_decB (ax_M N).2.1 e && decide (0 ≤ (e.1 : Int) + d) && ps.toList.all (fun q => decide (0 ≤ (e.1 : Int) + q.2) && decide (-2147483648 ≤ q.1) && decide (q.1 < 2147483648)) && (ps.toList.zip (ps.toList.drop 1)).all (fun (a, next) => a.1 < next.1)
  | .ireturn => ax_decB (ax_M N).2.1 e && e.2.2.1 == 1 && (decide ((ax_M N).2.2.2.1 = some .int) || (decide ((ax_M N).2.2.2.1 = some .boolean) && e.2.2.2.1 == 1))
  | .lreturn => ax_decB (ax_M N).2.1 e && e.2.2.1 == 1 && decide ((ax_M N).2.2.2.1 = some .long)
  | .areturn => ax_decB (ax_M N).2.1 e && e.2.2.1 == 1 && (match (ax_M N).2.2.2.1 with | some (.object _) => true | some (.array _) => true | _ => false)
  | .return_ => ax_decB (ax_M N).2.1 e && e.2.2.1 == 1 && decide ((ax_M N).2.2.2.1 = none)
  | .invokestatic idx => ax_decB (ax_M N).2.1 e && e.2.2.1 == 3 && (if e.2.2.2.2.1 < 100 then ax_callB N o e idx && ax_sm.contains e.2.2.2.1 && decide ((parseMethodDescriptor (ax_M e.2.2.2.1).1.desc).map (fun d => d.parameters.length) = some (ax_nn e.2.2.2.1))
      else (e.2.2.2.1 == 16 || e.2.2.2.1 == 17) && ax_ak.contains (o, idx) && decide (1 ≤ (ax_M N).2.2.2.2.2.1) && decide (26 ≤ (ax_M N).2.2.2.2.2.2))
  | .invokevirtual idx => ax_decB (ax_M N).2.1 e && e.2.2.1 == 3 && (if e.2.2.2.2.1 < 100 then ax_callB N o e idx && ax_im.contains e.2.2.2.1 && ax_se.contains e.2.2.2.1 && decide ((parseMethodDescriptor (ax_M e.2.2.2.1).1.desc).map (fun d => d.parameters.length + 1) = some (ax_nn e.2.2.2.1)) && decide (e.2.2.2.2.1 / 2 = 45 ∨ e.2.2.2.2.1 / 2 < 12) && decide ((ax_M e.2.2.2.1).1.cls = if e.2.2.2.2.1 / 2 = 45 then "java/lang/String" else ax_cn (e.2.2.2.2.1 / 2))
      else ax_ck.contains (o, idx) && decide (1 ≤ (ax_M N).2.2.2.2.2.1) && decide (22 ≤ (ax_M N).2.2.2.2.2.2))
  | .invokespecial idx => ax_decB (ax_M N).2.1 e && e.2.2.1 == 3 && (if e.2.2.2.2.1 < 100 then ax_callB N o e idx && ax_im.contains e.2.2.2.1 && decide ((ax_M e.2.2.2.1).1.name = "<init>") && decide ((ax_M e.2.2.2.1).2.2.2.1 = none) && decide ((parseMethodDescriptor (ax_M e.2.2.2.1).1.desc).map (fun d => d.parameters.length + 1) = some (ax_nn e.2.2.2.1)) && decide (e.2.2.2.2.1 / 2 < 12)
      else ax_ik.contains (o, idx) && decide (1 ≤ (ax_M N).2.2.2.2.2.1) && decide (20 ≤ (ax_M N).2.2.2.2.2.2))
  | _ => ax_decB (ax_M N).2.1 e && ax_ok0 (ax_M N).2.2.1 e
def ax_seqB : List ax_E → Bool
  | [] => true
  | e :: t => (match t with | [] => true | e' :: _ => e'.1 == e.1 + e.2.2.1) && ax_seqB t
def ax_chk (N o : Nat) (ini : Bool) : Bool := decide ((ax_M N).1.cls = ax_on o) && plainFor (ax_M N).1 && (!ini || decide ((ax_M N).1.name = "<init>")) && (ax_rows N).all (ax_okB N o ini) && ax_seqB (ax_rows N) && (match ax_rows N with | r :: _ => r.1 == 0 | [] => false) && (ax_rows N).all (fun r => !(ax_kind r == 8) || decide (0 < ax_nn r.2.2.2.1) || (match r.2.1 with | .invokestatic _ => true | _ => false))
theorem ax_dec_ok {cc : ByteArray} {e : ax_E} (h : ax_decB cc e = true) : decode cc e.1 = .ok (e.2.1, e.2.2.1) := by
  unfold ax_decB at h
  split at h
  · rename_i i l hd
    simp only [Bool.and_eq_true, decide_eq_true_eq, beq_iff_eq] at h
    rw [hd, h.1, h.2]
  · cases h
theorem ax_mem_of {α : Type} [BEq α] [LawfulBEq α] {l : List α} {a : α} (h : l.contains a = true) : a ∈ l := by simpa using h
theorem ax_ini_ok {w : Jvm.Cond} (h : w ∈ ax_ini) : w ∈ ax_G := by
  have h1 := List.mem_filter.mp h
  refine List.mem_filter.mpr ⟨h1.1, ?_⟩
  have h2 := h1.2
  cases w <;> first | rfl | (simp at h2; done)
theorem ax_callB_ok {N o idx : Nat} {e : ax_E} (h : ax_callB N o e idx = true) : ax_Mok ax_M e.2.2.2.1 ∧ (Cond.methodLink (ax_on o) idx (ax_M e.2.2.2.1).1 ∈ ax_G ∨ ∃ host, (ax_on o, idx, (ax_M e.2.2.2.1).1, host) ∈ ax_nest) ∧ (ax_M e.2.2.2.1).2.2.2.2.2.1 + 1 ≤ (ax_M N).2.2.2.2.2.1 ∧ 8 + ((ax_M e.2.2.2.1).2.2.1 + 11) + (ax_M e.2.2.2.1).2.2.2.2.2.2 ≤ (ax_M N).2.2.2.2.2.2 := by
  unfold ax_callB at h
  simp only [Bool.and_eq_true, Bool.or_eq_true, decide_eq_true_eq] at h
  obtain ⟨⟨⟨⟨⟨h1, h2⟩, h3⟩, h4⟩, h5⟩, h6⟩ := h
  refine ⟨⟨ax_in_G ax_cm_w (ax_mem_of h2) rfl, ax_ini_ok h5, h6.1, h6.2⟩, ?_, h3, h4⟩
  rcases h1 with h1 | h1
  · exact Or.inl (ax_in_G ax_mk_w (ax_mem_of h1) rfl)
  · refine Or.inr ⟨"BlackSun", ?_⟩
    rw [ax_nk_w]
    exact List.mem_map.mpr ⟨_, ax_mem_of h1, rfl⟩
theorem ax_nat_ok : Cond.native arraycopyName ∈ ax_G ∧ Cond.static arraycopyName ∈ ax_G ∧ Cond.initialized "java/lang/System" ∈ ax_G := by decide +kernel
theorem ax_cln_ok : Cond.sameMethod "[I" "java/lang/Object" "clone" "()Ljava/lang/Object;" ∈ ax_G ∧ Cond.native ⟨"java/lang/Object", "clone", "()Ljava/lang/Object;"⟩ ∈ ax_G ∧ Cond.instanceMethod ⟨"java/lang/Object", "clone", "()Ljava/lang/Object;"⟩ ∈ ax_G ∧ Cond.selects "[I" ⟨"[I", "clone", "()Ljava/lang/Object;"⟩ ⟨"java/lang/Object", "clone", "()Ljava/lang/Object;"⟩ ∈ ax_G := by decide +kernel
theorem ax_oin_ok : Cond.instanceMethod Lib.objectInit ∈ ax_G ∧ Cond.code Lib.objectInit ⟨#[0xb1]⟩ 1 none ∈ ax_G := ⟨by decide +kernel, by decide +kernel⟩
theorem ax_arr_ok : ∀ kd, 16 ≤ kd → kd < 20 → Cond.arrayClass (ax_at kd) ∈ ax_G := by
  intro kd h1 h2
  have h : ∀ k, k < 20 → 16 ≤ k → Cond.arrayClass (ax_at k) ∈ ax_G := by decide +kernel
  exact h kd h2 h1
theorem ax_arrl_ok : Cond.arrayClass .long ∈ ax_G := by decide +kernel
set_option maxHeartbeats 4000000 in
theorem ax_okB_ok {N o : Nat} {ini : Bool} {e : ax_E} (h : ax_okB N o ini e = true) : ax_okE ax_M ax_nn (ax_on o) (ax_M N).2.1 (ax_M N).2.2.1 (ax_M N).2.2.2.2.2.1 (ax_M N).2.2.2.2.2.2 ini e := by
  obtain ⟨pc, ins, len, a, b, z⟩ := e
  cases ins with
  | jsr off => simpa [ax_okB, ax_okE] using h
  | ldc idx =>
    simp only [ax_okB, Bool.and_eq_true, beq_iff_eq] at h
    obtain ⟨⟨h1, h2⟩, h3⟩ := h
    subst h2
    refine ⟨ax_dec_ok h1, rfl, ?_⟩
    by_cases hb : b = 0
    · rw [if_pos hb] at h3
      exact Or.inl ⟨hb, ax_in_G ax_ic_w (ax_mem_of h3) rfl⟩
    · rw [if_neg hb] at h3
      simp only [Bool.and_eq_true, decide_eq_true_eq] at h3
      obtain ⟨⟨g1, g2⟩, g3⟩ := h3
      refine Or.inr ⟨hb, ?_⟩
      split at g3
      · rename_i q hq
        simp only [Bool.and_eq_true, decide_eq_true_eq, beq_iff_eq] at g3
        refine ⟨a - 1, q.2.2, by show a = a - 1 + 1; omega, by omega, ?_⟩
        rw [hq, ← g3.1, ← g3.2]
      · cases g3
  | ldc_w idx =>
    simp only [ax_okB, Bool.and_eq_true, beq_iff_eq] at h
    obtain ⟨⟨h1, h2⟩, h3⟩ := h
    subst h2
    refine ⟨ax_dec_ok h1, rfl, ?_⟩
    by_cases hb : b = 0
    · rw [if_pos hb] at h3
      exact Or.inl ⟨hb, ax_in_G ax_ic_w (ax_mem_of h3) rfl⟩
    · rw [if_neg hb] at h3
      simp only [Bool.and_eq_true, decide_eq_true_eq] at h3
      obtain ⟨⟨g1, g2⟩, g3⟩ := h3
      refine Or.inr ⟨hb, ?_⟩
      split at g3
      · rename_i q hq
        simp only [Bool.and_eq_true, decide_eq_true_eq, beq_iff_eq] at g3
        refine ⟨a - 1, q.2.2, by show a = a - 1 + 1; omega, by omega, ?_⟩
        rw [hq, ← g3.1, ← g3.2]
      · cases g3
  | ldc2_w idx =>
    simp only [ax_okB, Bool.and_eq_true, beq_iff_eq] at h
    obtain ⟨⟨h1, h2⟩, h3⟩ := h
    subst h2
    exact ⟨ax_dec_ok h1, rfl, ax_in_G ax_jc_w (ax_mem_of h3) rfl⟩
  | getfield idx =>
    simp only [ax_okB, Bool.and_eq_true, beq_iff_eq, decide_eq_true_eq] at h
    obtain ⟨⟨⟨⟨h1, h2⟩, h3⟩, h4⟩, h5⟩ := h
    subst h2
    exact ⟨ax_dec_ok h1, rfl, h3, h4, ax_in_G ax_fk_w (ax_mem_of h5) rfl⟩
  | putfield idx =>
    simp only [ax_okB, Bool.and_eq_true, beq_iff_eq, decide_eq_true_eq] at h
    obtain ⟨⟨⟨⟨⟨h1, h2⟩, h3⟩, h4⟩, h5⟩, h6⟩ := h
    subst h2
    refine ⟨ax_dec_ok h1, rfl, h3, h4, ax_in_G ax_fk_w (ax_mem_of h5) rfl, ?_⟩
    simp only [Bool.or_eq_true, Bool.not_eq_true', Bool.and_eq_true, decide_eq_true_eq] at h6
    exact h6
  | iaload => simp only [ax_okB, Bool.and_eq_true, beq_iff_eq] at h; obtain ⟨h1, h2⟩ := h; subst h2; exact ⟨ax_dec_ok h1, rfl⟩
  | laload => simp only [ax_okB, Bool.and_eq_true, beq_iff_eq] at h; obtain ⟨h1, h2⟩ := h; subst h2; exact ⟨ax_dec_ok h1, rfl⟩
  | iastore => simp only [ax_okB, Bool.and_eq_true, beq_iff_eq] at h; obtain ⟨h1, h2⟩ := h; subst h2; exact ⟨ax_dec_ok h1, rfl⟩
  | lastore => simp only [ax_okB, Bool.and_eq_true, beq_iff_eq] at h; obtain ⟨h1, h2⟩ := h; subst h2; exact ⟨ax_dec_ok h1, rfl⟩
  | arraylength => simp only [ax_okB, Bool.and_eq_true, beq_iff_eq] at h; obtain ⟨h1, h2⟩ := h; subst h2; exact ⟨ax_dec_ok h1, rfl⟩
  | baload => simp only [ax_okB, Bool.and_eq_true, Bool.or_eq_true, beq_iff_eq] at h; obtain ⟨⟨h1, h2⟩, h3⟩ := h; subst h2; exact ⟨ax_dec_ok h1, rfl, h3⟩
  | bastore => simp only [ax_okB, Bool.and_eq_true, Bool.or_eq_true, beq_iff_eq] at h; obtain ⟨⟨h1, h2⟩, h3⟩ := h; subst h2; exact ⟨ax_dec_ok h1, rfl, h3⟩
  | aastore => simp only [ax_okB, Bool.and_eq_true, Bool.or_eq_true, beq_iff_eq] at h; obtain ⟨⟨h1, h2⟩, h3⟩ := h; subst h2; exact ⟨ax_dec_ok h1, rfl, h3⟩
  | aaload => simp only [ax_okB, Bool.and_eq_true, decide_eq_true_eq, beq_iff_eq] at h; obtain ⟨⟨⟨h1, h2⟩, h3⟩, h4⟩ := h; subst h2; exact ⟨ax_dec_ok h1, rfl, h3, h4⟩
  | new idx =>
    simp only [ax_okB, Bool.and_eq_true, decide_eq_true_eq, beq_iff_eq] at h
    obtain ⟨⟨⟨h1, h2⟩, h3⟩, h4⟩ := h
    subst h2
    have := ax_in_G ax_lk_w (ax_mem_of h4) rfl
    simp only [ax_lc, show ¬ a = 20 by omega, show ¬ a = 21 by omega, if_false] at this
    exact ⟨ax_dec_ok h1, rfl, h3, this⟩
  | newarray at' =>
    simp only [ax_okB, Bool.and_eq_true, decide_eq_true_eq, beq_iff_eq] at h
    obtain ⟨⟨⟨⟨h1, h2⟩, h3⟩, h4⟩, h5⟩ := h
    subst h2
    exact ⟨ax_dec_ok h1, rfl, h3, h4, h5, ax_arr_ok a h3 h4⟩
  | anewarray idx =>
    simp only [ax_okB, Bool.and_eq_true, Bool.or_eq_true, beq_iff_eq] at h
    obtain ⟨⟨h1, h2⟩, h3⟩ := h
    subst h2
    refine ⟨ax_dec_ok h1, rfl, ?_⟩
    rcases h3 with ⟨ha, h3⟩ | ⟨ha, h3⟩
    · exact ⟨5, Or.inl ⟨ha, rfl⟩, ax_in_G ax_lk_w (ax_mem_of h3) rfl⟩
    · exact ⟨1, Or.inr ⟨ha, rfl⟩, ax_in_G ax_lk_w (ax_mem_of h3) rfl⟩
  | multianewarray idx d =>
    simp only [ax_okB, Bool.and_eq_true, beq_iff_eq] at h
    obtain ⟨⟨⟨h1, h2⟩, h3⟩, h4⟩ := h
    subst h2
    subst h3
    exact ⟨ax_dec_ok h1, rfl, rfl, ax_in_G ax_lk_w (ax_mem_of h4) rfl, ax_arrl_ok⟩
  | checkcast idx =>
    simp only [ax_okB, Bool.and_eq_true, beq_iff_eq] at h
    obtain ⟨⟨h1, h2⟩, h3⟩ := h
    subst h2
    exact ⟨ax_dec_ok h1, rfl, ax_in_G ax_lk_w (ax_mem_of h3) rfl⟩
  | goto off =>
    simp only [ax_okB, Bool.and_eq_true, beq_iff_eq, decide_eq_true_eq] at h
    obtain ⟨⟨h1, h2⟩, h3⟩ := h
    subst h2
    exact ⟨ax_dec_ok h1, h3⟩
  | ifCond cd off =>
    simp only [ax_okB, Bool.and_eq_true, beq_iff_eq, decide_eq_true_eq] at h
    obtain ⟨⟨h1, h2⟩, h3⟩ := h
    subst h2
    exact ⟨ax_dec_ok h1, rfl, h3⟩
  | if_icmp cd off =>
    simp only [ax_okB, Bool.and_eq_true, beq_iff_eq, decide_eq_true_eq] at h
    obtain ⟨⟨h1, h2⟩, h3⟩ := h
    subst h2
    exact ⟨ax_dec_ok h1, rfl, h3⟩
  | ifnull off =>
    simp only [ax_okB, Bool.and_eq_true, beq_iff_eq, decide_eq_true_eq] at h
    obtain ⟨⟨h1, h2⟩, h3⟩ := h
    subst h2
    exact ⟨ax_dec_ok h1, rfl, h3⟩
  | ifnonnull off =>
    simp only [ax_okB, Bool.and_eq_true, beq_iff_eq, decide_eq_true_eq] at h
    obtain ⟨⟨h1, h2⟩, h3⟩ := h
    subst h2
    exact ⟨ax_dec_ok h1, rfl, h3⟩
  | tableswitch d lw hi offs =>
    simp only [ax_okB, Bool.and_eq_true, decide_eq_true_eq] at h
    obtain ⟨⟨⟨⟨⟨h1, h2⟩, h3⟩, h4⟩, h5⟩, h6⟩ := h
    exact ⟨ax_dec_ok h1, h2, fun q hq => by simpa using List.all_eq_true.mp h3 q hq, h4, h5, h6⟩
  | lookupswitch d ps =>
    simp only [ax_okB, Bool.and_eq_true, decide_eq_true_eq] at h
    obtain ⟨⟨⟨h1, h2⟩, h3⟩, h4⟩ := h
    refine ⟨ax_dec_ok h1, h2, fun q hq => ?_, h4⟩
    have := List.all_eq_true.mp h3 q hq
    simp only [Bool.and_eq_true, decide_eq_true_eq] at this
    exact ⟨this.1.1, this.1.2, this.2⟩
  | ireturn => simp only [ax_okB, Bool.and_eq_true, beq_iff_eq] at h; obtain ⟨⟨h1, h2⟩, -⟩ := h; subst h2; exact ax_dec_ok h1
  | lreturn => simp only [ax_okB, Bool.and_eq_true, beq_iff_eq] at h; obtain ⟨⟨h1, h2⟩, -⟩ := h; subst h2; exact ax_dec_ok h1
  | areturn => simp only [ax_okB, Bool.and_eq_true, beq_iff_eq] at h; obtain ⟨⟨h1, h2⟩, -⟩ := h; subst h2; exact ax_dec_ok h1
  | return_ => simp only [ax_okB, Bool.and_eq_true, beq_iff_eq] at h; obtain ⟨⟨h1, h2⟩, -⟩ := h; subst h2; exact ax_dec_ok h1
  | invokestatic idx =>
    simp only [ax_okB, Bool.and_eq_true, beq_iff_eq] at h
    obtain ⟨⟨h1, h2⟩, h3⟩ := h
    subst h2
    refine ⟨ax_dec_ok h1, rfl, ?_⟩
    by_cases hb : b < 100
    · rw [if_pos hb] at h3
      show if b < 100 then _ else _
      rw [if_pos hb]
      simp only [Bool.and_eq_true, decide_eq_true_eq] at h3
      obtain ⟨⟨g1, g2⟩, g3⟩ := h3
      obtain ⟨c1, c2, c3, c4⟩ := ax_callB_ok g1
      exact ⟨c1, ax_in_G ax_sm_w (ax_mem_of g2) rfl, g3, c2, c3, c4⟩
    · rw [if_neg hb] at h3
      show if b < 100 then _ else _
      rw [if_neg hb]
      simp only [Bool.and_eq_true, Bool.or_eq_true, beq_iff_eq, decide_eq_true_eq] at h3
      obtain ⟨⟨⟨g1, g2⟩, g3⟩, g4⟩ := h3
      exact ⟨g1, ax_in_G ax_ak_w (ax_mem_of g2) rfl, ax_nat_ok.1, ax_nat_ok.2.1, ax_nat_ok.2.2, g3, g4⟩
  | invokevirtual idx =>
    simp only [ax_okB, Bool.and_eq_true, beq_iff_eq] at h
    obtain ⟨⟨h1, h2⟩, h3⟩ := h
    subst h2
    refine ⟨ax_dec_ok h1, rfl, ?_⟩
    by_cases hb : b < 100
    · rw [if_pos hb] at h3
      show if b < 100 then _ else _
      rw [if_pos hb]
      simp only [Bool.and_eq_true, decide_eq_true_eq] at h3
      obtain ⟨⟨⟨⟨⟨g1, g2⟩, g3⟩, g4⟩, g5⟩, g6⟩ := h3
      obtain ⟨c1, c2, c3, c4⟩ := ax_callB_ok g1
      exact ⟨c1, ax_in_G ax_im_w (ax_mem_of g2) rfl, ax_in_G ax_se_w (ax_mem_of g3) rfl, g4, c2, ⟨g5, g6⟩, c3, c4⟩
    · rw [if_neg hb] at h3
      show if b < 100 then _ else _
      rw [if_neg hb]
      simp only [Bool.and_eq_true, decide_eq_true_eq] at h3
      obtain ⟨⟨g2, g3⟩, g4⟩ := h3
      exact ⟨ax_in_G ax_ck_w (ax_mem_of g2) rfl, ax_cln_ok.1, ax_cln_ok.2.1, ax_cln_ok.2.2.1, ax_cln_ok.2.2.2, g3, g4⟩
  | invokespecial idx =>
    simp only [ax_okB, Bool.and_eq_true, beq_iff_eq] at h
    obtain ⟨⟨h1, h2⟩, h3⟩ := h
    subst h2
    refine ⟨ax_dec_ok h1, rfl, ?_⟩
    by_cases hb : b < 100
    · rw [if_pos hb] at h3
      show if b < 100 then _ else _
      rw [if_pos hb]
      simp only [Bool.and_eq_true, decide_eq_true_eq] at h3
      obtain ⟨⟨⟨⟨⟨g1, g2⟩, g3⟩, g4⟩, g5⟩, g6⟩ := h3
      obtain ⟨c1, c2, c3, c4⟩ := ax_callB_ok g1
      exact ⟨c1, ax_in_G ax_im_w (ax_mem_of g2) rfl, g3, g4, g5, c2, g6, c3, c4⟩
    · rw [if_neg hb] at h3
      show if b < 100 then _ else _
      rw [if_neg hb]
      simp only [Bool.and_eq_true, decide_eq_true_eq] at h3
      obtain ⟨⟨g2, g3⟩, g4⟩ := h3
      exact ⟨ax_in_G ax_ik_w (ax_mem_of g2) rfl, ax_oin_ok.1, ax_oin_ok.2, g3, g4⟩
  | _ =>
    simp only [ax_okB, Bool.and_eq_true] at h
    exact ⟨ax_dec_ok h.1, h.2⟩
theorem ax_seqB_ok : ∀ {C : List ax_E}, ax_seqB C = true → ax_seq C
  | [], _ => trivial
  | e :: t, h => by
    unfold ax_seqB at h
    unfold ax_seq
    rw [Bool.and_eq_true] at h
    refine ⟨?_, ax_seqB_ok h.2⟩
    cases t with
    | nil => trivial
    | cons e' t => simpa using h.1
theorem ax_chk_ok {E0 : ax_Env} {N o : Nat} {ini : Bool} (h : ax_chk N o ini = true) : ax_Code ax_M ax_nn E0 (ax_rows N) N (ax_on o) ini := by
  unfold ax_chk at h
  simp only [Bool.and_eq_true, decide_eq_true_eq] at h
  obtain ⟨⟨⟨⟨⟨⟨h1, h2⟩, h3⟩, h4⟩, h5⟩, h6⟩, h7⟩ := h
  refine ⟨h1, h2, fun q => ?_, fun r hr => ax_okB_ok (List.all_eq_true.mp h4 r hr), ax_seqB_ok h5, ?_, fun r hr hk hns => ?_, fun r hr => ?_⟩
  · rw [q] at h3; simpa using h3
  · cases hC : ax_rows N with
    | nil => rw [hC] at h6; cases h6
    | cons r t => rw [hC] at h6; exact ⟨r, t, rfl, by simpa using h6⟩
  · have := List.all_eq_true.mp h7 r hr
    simp only [Bool.or_eq_true, Bool.not_eq_true', beq_eq_false_iff_ne, decide_eq_true_eq] at this
    rcases this with (q | q) | q
    · exact absurd hk q
    · exact q
    · split at q
      · rename_i i hi
        exact absurd ⟨i, hi⟩ hns
      · cases q
  · have hb := List.all_eq_true.mp h4 r hr
    refine ⟨fun hi => ?_, fun hi => ?_, fun hi => ?_, fun hi => ?_⟩
    · unfold ax_okB at hb
      rw [hi] at hb
      simp only [Bool.and_eq_true, Bool.or_eq_true, decide_eq_true_eq, beq_iff_eq] at hb
      exact hb.2
    · unfold ax_okB at hb
      rw [hi] at hb
      simp only [Bool.and_eq_true, decide_eq_true_eq] at hb
      exact hb.2
    · unfold ax_okB at hb
      rw [hi] at hb
      simp only [Bool.and_eq_true] at hb
      have h9 := hb.2
      split at h9
      · rename_i n hn
        exact ⟨_, hn, Or.inl ⟨n, rfl⟩⟩
      · rename_i n hn
        exact ⟨_, hn, Or.inr ⟨n, rfl⟩⟩
      · cases h9
    · unfold ax_okB at hb
      rw [hi] at hb
      simp only [Bool.and_eq_true, decide_eq_true_eq] at hb
      exact hb.2
