/-! WHAT IS KNOWN of the launch in every state: classes, rows, private links, String constants, the script -/
def ax_tys (X : ax_X) : List (ClassId × FieldType) := [(xR X 16, ax_at 16), (xR X 17, ax_at 17), (xR X 18, ax_at 18), (xR X 19, ax_at 19), (xR X 20, ax_at 20), (xR X 21, ax_at 21), (xR X 22, ax_at 22)]
/-- String constant number i (from 0): its bytes are those of its text -/
def ax_str (X : ax_X) (U : State) (i : Nat) (tx : String) : Prop := ∃ v : Nat, va_O "java/lang/String" (xA X (i + 1)) (fun q => xB X ≤ q) U (xH X) ∧ va_OF "java/lang/String" "coder" "B" (.int 0) (xA X (i + 1)) (fun q => xB X ≤ q) U (xH X) ∧ va_OF "java/lang/String" "value" "[B" (.ref v) (xA X (i + 1)) (fun q => xB X ≤ q) U (xH X) ∧ va_T .byte v tx.length (fun j => .int (nI ((tx.toList.map Char.toNat).getD j 0))) (fun q => xB X ≤ q) U (xH X)
def ax_K (X : ax_X) (U : State) : Prop :=
  va_K (xC X, xI X) ax_cls (ax_tys X) U ∧ (∀ q ∈ ax_nest, va_Nw (.methodLinkNest q.1 q.2.1 q.2.2.1 q.2.2.2) U) ∧ (∀ (i : Nat) (q : String × Nat × String), ax_strs[i]? = some q → vk_R q.1 q.2.1 q.2.2 (xA X (i + 1)) U ∧ ax_str X U i q.2.2) ∧
  (va_Nw (.arrayOver (.object "BlackSun$Way")) U ∧ va_Nw (.arrayOver (.object "BlackSun$Book")) U ∧ va_Nw (.arrayOver (.array .long)) U ∧ va_Nw (.castable "[I" "java/lang/Cloneable") U) ∧
  va_X (xA X 40) (xL X) (xS X) U (xH X) ∧ xA X 40 < xB X ∧ xL X < 2 ^ 31 ∧ (xH X).size = xB X ∧
  va_Z "java/lang/String" "COMPACT_STRINGS" "Z" (.int 1) (fun q => xB X ≤ q) U (xH X) ∧ va_Zq "jdk/internal/util/Preconditions" "SIOOBE_FORMATTER" "Ljava/util/function/BiFunction;" (fun q => xB X ≤ q) U (xH X)
theorem ax_str.moved {X : ax_X} {u U : State} {i : Nat} {tx : String} (hvm : u.vm.Alike U.vm) (h : ax_str X u i tx) : ax_str X U i tx := by
  obtain ⟨v, h1, h2, h3, h4⟩ := h
  exact ⟨v, va_O.moved hvm h1, va_OF.moved hvm h2, va_OF.moved hvm h3, va_T.moved hvm h4⟩
theorem ax_overA {t : FieldType} {u U : State} (hvm : u.vm.Alike U.vm) (h : va_Nw (.arrayOver (.array t)) u) : va_Nw (.arrayOver (.array t)) U := by
  obtain ⟨comp, c, k, h1, h2, h3, h4, h5⟩ := arrayOverA_spec (args := #[]) (first := u) (o := none) (idx := []) h
  obtain ⟨k', hk', he⟩ := hvm.2.2 _ _ h3
  have hi : (U.vm.classes.findIdx? fun (x : Class) => match x.kind with | .array component _ => component == comp | _ => false) = some c := by
    rw [hvm.findIdx?_eq _ (fun _ => rfl)]; exact h2
  have hkind : k'.kind = .array comp (.array t) := by rw [he]; exact h4
  have f1 : U.vm.findClass (FieldType.array t).toString = some comp := by rw [hvm.findClass]; exact h1
  have f2 : U.vm.findClass ("[" ++ (FieldType.array t).toString) = some c := by rw [hvm.findClass]; exact h5
  unfold va_Nw Cond.before Cond.holds
  simp only [Cond.value]
  rw [f1, Option.bind_some]
  refine (congrArg (fun o : Option Nat => (o.bind (fun c => (U.vm.classes[c]?).map fun (k : Class) => match k.kind with | .array _ ty => decide (ty = FieldType.array t) && decide (U.vm.findClass ("[" ++ (FieldType.array t).toString) = some c) | _ => false) == some true)) hi).trans ?_
  simp [hk', hkind, f2]
theorem ax_overO {C : String} {u U : State} (hvm : u.vm.Alike U.vm) (h : va_Nw (.arrayOver (.object C)) u) : va_Nw (.arrayOver (.object C)) U := va_AO.moved hvm h
theorem ax_K.warm {X : ax_X} {s U : State} (hW : s.WarmedH U.vm) (h : ax_K X s) : ax_K X U := by
  obtain ⟨h1, h2, h3, ⟨h4, h5, h6, h7⟩, h8, h9, h10, h11, h12, h13⟩ := h
  refine ⟨va_K.moved hW.alike h1, fun q hq => va_Nw.warmM hW (h2 q hq), fun i q hq => ⟨vk_R.warm hW (h3 i q hq).1, (h3 i q hq).2.moved hW.alike⟩, ⟨ax_overO hW.alike h4, ax_overO hW.alike h5, ax_overA hW.alike h6, va_Nw.warmC hW h7⟩, va_X.moved hW.alike h8, h9, h10, h11, va_Z.moved hW.alike h12, va_Zq.moved hW.alike h13⟩
theorem ax_K.same {X : ax_X} {u U : State} (hv : u.vm = U.vm) (h : ax_K X u) : ax_K X U := by
  have hal : u.vm.Alike U.vm := by rw [hv]; exact Vm.Alike.refl _
  obtain ⟨h1, h2, h3, ⟨h4, h5, h6, h7⟩, h8, h9, h10, h11, h12, h13⟩ := h
  refine ⟨va_K.moved hal h1, fun q hq => va_Nw.same rfl hv (h2 q hq), fun i q hq => ⟨vk_R.same hv.symm (h3 i q hq).1, (h3 i q hq).2.moved hal⟩, ⟨ax_overO hal h4, ax_overO hal h5, ax_overA hal h6, va_Nw.same rfl hv h7⟩, va_X.moved hal h8, h9, h10, h11, va_Z.moved hal h12, va_Zq.moved hal h13⟩
theorem ax_Kc {X : ax_X} {U : State} (h : ax_K X U) {c : Nat} (hc : c < 12) : u_Kn U (ax_cn c) (ax_T c) (ax_n c) (xC X c) (xI X c) := h.1.1 c _ (ax_cls_at c hc)
theorem ax_Ka {X : ax_X} {U : State} (h : ax_K X U) {c : Nat} (hc : 16 ≤ c) (hc2 : c < 23) : ArrOfT U (xR X c) (ax_at c) ∧ va_RA U (xR X c) (ax_at c) := by
  have h1 := h.1.2
  match c, hc, hc2 with
  | 16, _, _ => exact h1 0 _ rfl
  | 17, _, _ => exact h1 1 _ rfl
  | 18, _, _ => exact h1 2 _ rfl
  | 19, _, _ => exact h1 3 _ rfl
  | 20, _, _ => exact h1 4 _ rfl
  | 21, _, _ => exact h1 5 _ rfl
  | 22, _, _ => exact h1 6 _ rfl
  | n + 23, _, h => exact absurd h (by omega)
/-- a contract's start and end -/
def ax_Pc (X : ax_X) (av : List Value) (h : ax_H) : Array Value → State → Prop := fun v U => v = (av.map (ax_v X)).toArray ∧ ax_Rep X h U.heap ∧ ax_K X U
def ax_Qc (X : ax_X) (r : Option Value) (h : ax_H) : Array Value → State → Outcome → State → Prop := fun _ _ o t => o = .returned (r.map (ax_v X)) ∧ ax_Rep X h t.heap
theorem ax_Pc.blind {X : ax_X} {av : List Value} {h : ax_H} : FrameBlind (ax_Pc X av h) := fun a U g mk q => ⟨q.1, q.2.1, ax_K.same (u := U) (U := U.calling g mk a) rfl q.2.2⟩
