/-! THE PURE MACHINE RUNS: n steps at most -/
def ax_lsw {α : Type} (x : Int32) (k : Nat → Option α) : List (Int × Nat) → Nat → Option α
  | [], d => k d
  | q :: r, d => if x = Int32.ofInt q.1 then k q.2 else ax_lsw x k r d
def ax_ex {α : Type} (ρ : Value → ax_H → Option α) (E : ax_Env) (na : Nat → Nat) (C : List ax_E) : Nat → List ax_E → ax_L → List Value → ax_H → Option α
  | 0, _, _, _, _ => none
  | _ + 1, [], _, _, _ => none
  | n + 1, e :: t, ls, st, h =>
    match ax_kind e with
    | 0 => ax_stp e ls st h (ax_ex ρ E na C n t)
    | 1 => ax_ex ρ E na C n (ax_to C e.2.2.2.1) ls st h
    | 2 => (match e.2.1, st with
      | .ifCond c _, .int x :: r => if ax_h1 c x then ax_ex ρ E na C n (ax_to C e.2.2.2.1) ls r h else ax_ex ρ E na C n t ls r h
      | _, _ => none)
    | 3 => (match e.2.1, st with
      | .if_icmp c _, .int y :: .int x :: r => if ax_h2 c x y then ax_ex ρ E na C n (ax_to C e.2.2.2.1) ls r h else ax_ex ρ E na C n t ls r h
      | _, _ => none)
    | 4 => (match st with
      | .ref x :: r => if x = 0 then ax_ex ρ E na C n (ax_to C e.2.2.2.1) ls r h else ax_ex ρ E na C n t ls r h
      | _ => none)
    | 5 => (match st with
      | .ref x :: r => if x = 0 then ax_ex ρ E na C n t ls r h else ax_ex ρ E na C n (ax_to C e.2.2.2.1) ls r h
      | _ => none)
    | 6 => (match e.2.1, st with
      | .tableswitch d lo _ offs, .int x :: r => ax_sw x (fun tg => ax_ex ρ E na C n (ax_to C tg) ls r h) lo (offs.toList.map (fun o => ((e.1 : Int) + o).toNat)) ((e.1 : Int) + d).toNat
      | _, _ => none)
    | 9 => (match e.2.1, st with
      | .lookupswitch d ps, .int x :: r => ax_lsw x (fun tg => ax_ex ρ E na C n (ax_to C tg) ls r h) (ps.toList.map (fun q => (q.1, ((e.1 : Int) + q.2).toNat))) ((e.1 : Int) + d).toNat
      | _, _ => none)
    | 7 => (match e.2.1, st with
      | .ireturn, [.int x] => if e.2.2.2.1 = 1 then (if x = 0 ∨ x = 1 then ρ (.int x) h else none) else ρ (.int x) h
      | .lreturn, [.long x] => ρ (.long x) h
      | .areturn, [.ref x] => ρ (.ref x) h
      | .return_, [] => ρ (.retAddr 0) h
      | _, _ => none)
    | _ => (match e.2.1 with
      | .invokestatic _ => ax_call E e (na e.2.2.2.1) st h (fun st' h' => ax_ex ρ E na C n t ls st' h')
      | _ => (match st.drop (na e.2.2.2.1 - 1) with
        | .ref x :: _ => if ax_rcv h e.2.2.2.2.1 x then ax_call E e (na e.2.2.2.1) st h (fun st' h' => ax_ex ρ E na C n t ls st' h') else none
        | _ => none))
/-- the rows follow one another -/
def ax_seq : List ax_E → Prop
  | [] => True
  | e :: t => (match t with | [] => True | e' :: _ => e'.1 = e.1 + e.2.2.1) ∧ ax_seq t
/-- what a row must be, in a method of the class own, with the bytes cc, nL locals, in the room R -/
def ax_okE (M : Nat → ax_MI) (na : Nat → Nat) (own : String) (cc : ByteArray) (nL : Nat) (fr lo : Nat) (ini : Bool) (e : ax_E) : Prop :=
  match e.2.1 with
  | .jsr _ => e.2.2.1 = 0
  | .ldc idx => decode cc e.1 = .ok (.ldc idx, 2) ∧ e.2.2.1 = 2 ∧ ((e.2.2.2.2.1 = 0 ∧ Jvm.Cond.constant own idx (Int32.ofInt e.2.2.2.2.2) ∈ ax_G) ∨ (e.2.2.2.2.1 ≠ 0 ∧ ∃ i tx, e.2.2.2.1 = i + 1 ∧ i + 1 < 64 ∧ ax_strs[i]? = some (own, idx, tx)))
  | .ldc_w idx => decode cc e.1 = .ok (.ldc_w idx, 3) ∧ e.2.2.1 = 3 ∧ ((e.2.2.2.2.1 = 0 ∧ Jvm.Cond.constant own idx (Int32.ofInt e.2.2.2.2.2) ∈ ax_G) ∨ (e.2.2.2.2.1 ≠ 0 ∧ ∃ i tx, e.2.2.2.1 = i + 1 ∧ i + 1 < 64 ∧ ax_strs[i]? = some (own, idx, tx)))
  | .ldc2_w idx => decode cc e.1 = .ok (.ldc2_w idx, 3) ∧ e.2.2.1 = 3 ∧ Jvm.Cond.constantLong own idx (Int64.ofInt e.2.2.2.2.2) ∈ ax_G
  | .getfield idx => decode cc e.1 = .ok (.getfield idx, 3) ∧ e.2.2.1 = 3 ∧ e.2.2.2.1 < 12 ∧ e.2.2.2.2.1 < ax_n e.2.2.2.1 ∧ Cond.fieldLink own idx (ax_T e.2.2.2.1 e.2.2.2.2.1).1 (ax_T e.2.2.2.1 e.2.2.2.2.1).2.1 (ax_T e.2.2.2.1 e.2.2.2.2.1).2.2.1 ∈ ax_G
  | .putfield idx => decode cc e.1 = .ok (.putfield idx, 3) ∧ e.2.2.1 = 3 ∧ e.2.2.2.1 < 12 ∧ e.2.2.2.2.1 < ax_n e.2.2.2.1 ∧ Cond.fieldLink own idx (ax_T e.2.2.2.1 e.2.2.2.2.1).1 (ax_T e.2.2.2.1 e.2.2.2.2.1).2.1 (ax_T e.2.2.2.1 e.2.2.2.2.1).2.2.1 ∈ ax_G ∧ ((ax_T e.2.2.2.1 e.2.2.2.2.1).2.2.2 = false ∨ (ini = true ∧ (ax_T e.2.2.2.1 e.2.2.2.2.1).1 = own))
  | .iaload => decode cc e.1 = .ok (.iaload, 1) ∧ e.2.2.1 = 1
  | .laload => decode cc e.1 = .ok (.laload, 1) ∧ e.2.2.1 = 1
  | .baload => decode cc e.1 = .ok (.baload, 1) ∧ e.2.2.1 = 1 ∧ (e.2.2.2.1 = 18 ∨ e.2.2.2.1 = 19)
  | .aaload => decode cc e.1 = .ok (.aaload, 1) ∧ e.2.2.1 = 1 ∧ 20 ≤ e.2.2.2.1 ∧ e.2.2.2.1 < 23
  | .iastore => decode cc e.1 = .ok (.iastore, 1) ∧ e.2.2.1 = 1
  | .lastore => decode cc e.1 = .ok (.lastore, 1) ∧ e.2.2.1 = 1
  | .bastore => decode cc e.1 = .ok (.bastore, 1) ∧ e.2.2.1 = 1 ∧ (e.2.2.2.1 = 18 ∨ e.2.2.2.1 = 19)
  | .aastore => decode cc e.1 = .ok (.aastore, 1) ∧ e.2.2.1 = 1 ∧ (e.2.2.2.1 = 20 ∨ e.2.2.2.1 = 21)
  | .arraylength => decode cc e.1 = .ok (.arraylength, 1) ∧ e.2.2.1 = 1
  | .new idx => decode cc e.1 = .ok (.new idx, 3) ∧ e.2.2.1 = 3 ∧ e.2.2.2.1 < 12 ∧ Cond.classLink own idx (ax_cn e.2.2.2.1) ∈ ax_G
  | .newarray at' => decode cc e.1 = .ok (.newarray at', 2) ∧ e.2.2.1 = 2 ∧ 16 ≤ e.2.2.2.1 ∧ e.2.2.2.1 < 20 ∧ newarray.typeOf at' = ax_at e.2.2.2.1 ∧ Cond.arrayClass (ax_at e.2.2.2.1) ∈ ax_G
  | .anewarray idx => decode cc e.1 = .ok (.anewarray idx, 3) ∧ e.2.2.1 = 3 ∧ ∃ cn, ((e.2.2.2.1 = 20 ∧ cn = 5) ∨ (e.2.2.2.1 = 21 ∧ cn = 1)) ∧ Cond.classLink own idx (ax_cn cn) ∈ ax_G
  | .multianewarray idx d => decode cc e.1 = .ok (.multianewarray idx 2, 4) ∧ e.2.2.1 = 4 ∧ d = 2 ∧ Cond.classLink own idx "[[J" ∈ ax_G ∧ Cond.arrayClass .long ∈ ax_G
  | .checkcast idx => decode cc e.1 = .ok (.checkcast idx, 3) ∧ e.2.2.1 = 3 ∧ Cond.classLink own idx "[I" ∈ ax_G
  | .goto off => decode cc e.1 = .ok (.goto off, 3) ∧ (e.1 : Int) + off = e.2.2.2.1
  | .ifCond cd off => decode cc e.1 = .ok (.ifCond cd off, 3) ∧ e.2.2.1 = 3 ∧ (e.1 : Int) + off = e.2.2.2.1
  | .if_icmp cd off => decode cc e.1 = .ok (.if_icmp cd off, 3) ∧ e.2.2.1 = 3 ∧ (e.1 : Int) + off = e.2.2.2.1
  | .ifnull off => decode cc e.1 = .ok (.ifnull off, 3) ∧ e.2.2.1 = 3 ∧ (e.1 : Int) + off = e.2.2.2.1
  | .ifnonnull off => decode cc e.1 = .ok (.ifnonnull off, 3) ∧ e.2.2.1 = 3 ∧ (e.1 : Int) + off = e.2.2.2.1
  | .tableswitch d lw hi offs => decode cc e.1 = .ok (.tableswitch d lw hi offs, e.2.2.1) ∧ 0 ≤ (e.1 : Int) + d ∧ (∀ o ∈ offs.toList, 0 ≤ (e.1 : Int) + o) ∧ lw + offs.toList.length = hi + 1 ∧ -2147483648 ≤ lw ∧ hi < 2147483648
  | .lookupswitch d ps => decode cc e.1 = .ok (.lookupswitch d ps, e.2.2.1) ∧ 0 ≤ (e.1 : Int) + d ∧ (∀ q ∈ ps.toList, 0 ≤ (e.1 : Int) + q.2 ∧ -2147483648 ≤ q.1 ∧ q.1 < 2147483648) ∧ (ps.toList.zip (ps.toList.drop 1)).all (fun (a, next) => a.1 < next.1) = true
  | .ireturn => decode cc e.1 = .ok (.ireturn, 1)
  | .lreturn => decode cc e.1 = .ok (.lreturn, 1)
  | .areturn => decode cc e.1 = .ok (.areturn, 1)
  | .return_ => decode cc e.1 = .ok (.return_, 1)
  | .invokestatic idx => decode cc e.1 = .ok (.invokestatic idx, 3) ∧ e.2.2.1 = 3 ∧ (if e.2.2.2.2.1 < 100 then ax_Mok M e.2.2.2.1 ∧ Cond.static (M e.2.2.2.1).1 ∈ ax_G ∧ (parseMethodDescriptor (M e.2.2.2.1).1.desc).map (fun d => d.parameters.length) = some (na e.2.2.2.1) ∧ (Cond.methodLink own idx (M e.2.2.2.1).1 ∈ ax_G ∨ ∃ host, (own, idx, (M e.2.2.2.1).1, host) ∈ ax_nest) ∧ (M e.2.2.2.1).2.2.2.2.2.1 + 1 ≤ fr ∧ 8 + ((M e.2.2.2.1).2.2.1 + 11) + (M e.2.2.2.1).2.2.2.2.2.2 ≤ lo
      else (e.2.2.2.1 = 16 ∨ e.2.2.2.1 = 17) ∧ Cond.methodLink own idx arraycopyName ∈ ax_G ∧ Cond.native arraycopyName ∈ ax_G ∧ Cond.static arraycopyName ∈ ax_G ∧ Cond.initialized "java/lang/System" ∈ ax_G ∧ 1 ≤ fr ∧ nativeFrameWords "java/lang/System" "arraycopy" 5 + 19 ≤ lo)
  | .invokevirtual idx => decode cc e.1 = .ok (.invokevirtual idx, 3) ∧ e.2.2.1 = 3 ∧ (if e.2.2.2.2.1 < 100 then ax_Mok M e.2.2.2.1 ∧ Cond.instanceMethod (M e.2.2.2.1).1 ∈ ax_G ∧ Cond.selects (M e.2.2.2.1).1.cls (M e.2.2.2.1).1 (M e.2.2.2.1).1 ∈ ax_G ∧ (parseMethodDescriptor (M e.2.2.2.1).1.desc).map (fun d => d.parameters.length + 1) = some (na e.2.2.2.1) ∧ (Cond.methodLink own idx (M e.2.2.2.1).1 ∈ ax_G ∨ ∃ host, (own, idx, (M e.2.2.2.1).1, host) ∈ ax_nest) ∧ ((e.2.2.2.2.1 / 2 = 45 ∨ e.2.2.2.2.1 / 2 < 12) ∧ (M e.2.2.2.1).1.cls = if e.2.2.2.2.1 / 2 = 45 then "java/lang/String" else ax_cn (e.2.2.2.2.1 / 2)) ∧ (M e.2.2.2.1).2.2.2.2.2.1 + 1 ≤ fr ∧ 8 + ((M e.2.2.2.1).2.2.1 + 11) + (M e.2.2.2.1).2.2.2.2.2.2 ≤ lo
      else Cond.methodLink own idx ⟨"[I", "clone", "()Ljava/lang/Object;"⟩ ∈ ax_G ∧ Cond.sameMethod "[I" "java/lang/Object" "clone" "()Ljava/lang/Object;" ∈ ax_G ∧ Cond.native ⟨"java/lang/Object", "clone", "()Ljava/lang/Object;"⟩ ∈ ax_G ∧ Cond.instanceMethod ⟨"java/lang/Object", "clone", "()Ljava/lang/Object;"⟩ ∈ ax_G ∧ Cond.selects "[I" ⟨"[I", "clone", "()Ljava/lang/Object;"⟩ ⟨"java/lang/Object", "clone", "()Ljava/lang/Object;"⟩ ∈ ax_G ∧ 1 ≤ fr ∧ 22 ≤ lo)
  | .invokespecial idx => decode cc e.1 = .ok (.invokespecial idx, 3) ∧ e.2.2.1 = 3 ∧ (if e.2.2.2.2.1 < 100 then ax_Mok M e.2.2.2.1 ∧ Cond.instanceMethod (M e.2.2.2.1).1 ∈ ax_G ∧ (M e.2.2.2.1).1.name = "<init>" ∧ (M e.2.2.2.1).2.2.2.1 = none ∧ (parseMethodDescriptor (M e.2.2.2.1).1.desc).map (fun d => d.parameters.length + 1) = some (na e.2.2.2.1) ∧ (Cond.methodLink own idx (M e.2.2.2.1).1 ∈ ax_G ∨ ∃ host, (own, idx, (M e.2.2.2.1).1, host) ∈ ax_nest) ∧ e.2.2.2.2.1 / 2 < 12 ∧ (M e.2.2.2.1).2.2.2.2.2.1 + 1 ≤ fr ∧ 8 + ((M e.2.2.2.1).2.2.1 + 11) + (M e.2.2.2.1).2.2.2.2.2.2 ≤ lo
      else Cond.methodLink own idx Lib.objectInit ∈ ax_G ∧ Cond.instanceMethod Lib.objectInit ∈ ax_G ∧ Cond.code Lib.objectInit ⟨#[0xb1]⟩ 1 none ∈ ax_G ∧ 1 ≤ fr ∧ 20 ≤ lo)
  | ins => decode cc e.1 = .ok (ins, e.2.2.1) ∧ ax_ok0 nL e = true
theorem ax_to_in {C : List ax_E} {t : Nat} : ∀ {e : ax_E} {r : List ax_E}, ax_to C t = e :: r → e.1 = t ∧ (∀ e' ∈ e :: r, e' ∈ C) ∧ (ax_seq C → ax_seq (e :: r)) := by
  induction C with
  | nil => intro e r h; simp [ax_to] at h
  | cons q C ih =>
    intro e r h
    unfold ax_to at h
    by_cases hq : q.1 = t
    · rw [if_pos (by simpa using hq)] at h
      cases h
      exact ⟨hq, fun _ h => h, id⟩
    · rw [if_neg (by simpa using hq)] at h
      obtain ⟨h1, h2, h3⟩ := ih h
      exact ⟨h1, fun e' he' => List.mem_cons_of_mem _ (h2 e' he'), fun hs => h3 (by unfold ax_seq at hs; exact hs.2)⟩
