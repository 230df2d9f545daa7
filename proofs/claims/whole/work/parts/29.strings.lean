/-! String.length and String.charAt of constants, as the JDK's code -/
abbrev ax_by (X : ax_X) (B : Nat × Nat × (Nat → Int32)) (U : State) : Prop := va_T .byte B.1 B.2.1 (fun k => .int (B.2.2 k)) (fun q => xB X ≤ q) U (xH X)
def ax_Pd (X : ax_X) (B : Nat × Nat × (Nat → Int32)) (As : List Value) (h : ax_H) : Array Value → State → Prop := fun v U => v = As.toArray ∧ ax_Rep X h U.heap ∧ ax_K X U ∧ ax_by X B U
theorem ax_Pd.blind {X : ax_X} {B : Nat × Nat × (Nat → Int32)} {As : List Value} {h : ax_H} : FrameBlind (ax_Pd X B As h) := fun a U g mk q => ⟨q.1, q.2.1, ax_K.same (u := U) (U := U.calling g mk a) rfl q.2.2.1, q.2.2.2⟩
abbrev ax_Md (l : Launch) (X : ax_X) (B : Nat × Nat × (Nat → Int32)) (y : MethodName) (bytes : ByteArray) (maxL : Nat) (ret : Option FieldType) (fr lo : Nat) (As : List Value) (h : ax_H) (o : Option Value) : Prop :=
  Met l y (Cond.code y bytes maxL ret :: ax_G) { frames := fr, cells := 0, slots := 0, locals := lo } (ax_Pd X B As h) (ax_Qc X o h) 0 0 (fun q => xB X ≤ q)
section AXD
variable {X : ax_X} {B : Nat × Nat × (Nat → Int32)} {h : ax_H} {y : MethodName} {bytes : ByteArray} {maxL fr lo : Nat} {ret : Option FieldType} {As : List Value} {o : Option Value}
theorem ax_smt (hy : plainFor y = true) (hsl : (lg_sl As).length ≤ maxL)
    (body : ∀ (p : Program) (l : Launch) (e : Env) (s : State) (m : MethodId) (below : List Frame) (meth : Method) (c : Code) (lsr : Array Slot), p.tables.exec = Jvm.exec → c.code = bytes → c.maxLocals = lsr.size → meth.sig.returnType = ret → meth.locks = false → (∀ w ∈ ax_G, w.before As.toArray s = true) → s.vm.findClass y.cls = some m.cls → ax_K X s → ax_by X B s → ax_Rep X h s.heap → lv_has lsr maxL (lv_args 0 As) →
      W p l e { frames := fr, cells := 0, slots := 0, locals := lo } s m As.toArray below meth c s.heap [] 0 0 (MQ below (ax_Qc X o h) As.toArray s 0 0 (fun q => xB X ≤ q)) (F0 m 0 lsr [])) (l : Launch) : ax_Md l X B y bytes maxL ret fr lo As h o := by
  refine va_MetF (cc := bytes) (maxL := maxL) (ret := ret) hy rfl ?_
  intro p e s m args below meth c s₁ BB hml hv
  obtain ⟨rfl, hRep, hK, hB⟩ := hv
  have hts0 := atoms_spec (ws := Cond.code y bytes maxL ret :: ax_G) BB.pre
  have hl := lv_entry As (n := maxL) hsl
  rw [lg_entry_eq]
  generalize (lg_sl As ++ List.replicate (maxL - (lg_sl As).length) Slot.unset).toArray = lsr at hl ⊢
  exact body p l e s m below meth c lsr BB.exec BB.bytes (by rw [hml]; exact hl.1.symm) BB.returns BB.notSynchronized (fun w hw => hts0 w (List.mem_cons_of_mem _ hw)) (findClass_of_methodNamed BB.named) hK hB hRep hl
variable {p : Program} {l : Launch} {e : Env} {R : Room} {s : State} {m : MethodId} {args : Array Value} {below : List Frame} {meth : Method} {c : Code} {Q : State → Prop} {cc : ByteArray}
variable {pc : Nat} {lsr : Array Slot} {rest : List Value} {H : Heap} {locs : List Loc} {cells slots : Nat} {own : String} {idx n : Nat}
theorem ax_Gwd (hts : ∀ w ∈ ax_G, w.before args s = true) (hM : Cond.code y bytes maxL ret ∈ ax_G) : ∀ w ∈ (Cond.code y bytes maxL ret :: ax_G), ∀ (a' : Array Value) (U : State), s.WarmedH U.vm → w.before a' U = true := by
  refine pay_in hts (fun w hw => ?_)
  rcases List.mem_cons.mp hw with rfl | hw
  · exact ⟨hM, Or.inl rfl⟩
  · exact ax_G_good w hw
theorem ax_preD (hK : ax_K X s) (hB : ax_by X B s) (hR : ax_Rep X h H) : ∀ U : State, U.heap = H → s.WarmedH U.vm → ax_Pd X B As h As.toArray U := fun U hU hW => ⟨rfl, by rw [hU]; exact hR, ax_K.warm hW hK, va_T.moved hW.alike hB⟩
/-- what a method of the JDK must be -/
def ax_Yok (y : MethodName) (bytes : ByteArray) (maxL : Nat) (ret : Option FieldType) (n : Nat) : Prop :=
  Cond.code y bytes maxL ret ∈ ax_G ∧ Cond.initialized y.cls ∈ ax_G ∧ (y.cls ≠ "java/lang/invoke/MethodHandle" ∧ y.cls ≠ "java/lang/invoke/VarHandle") ∧ (parseMethodDescriptor y.desc).map (fun d => d.parameters.length) = some n
theorem ax_dS (hexec : p.tables.exec = Jvm.exec) (hb : c.code = cc) (hml : c.maxLocals = lsr.size) (hts : ∀ w ∈ ax_G, w.before args s = true) (hown : s.vm.findClass own = some m.cls) (hK : ax_K X s) (hB : ax_by X B s) (hR : ax_Rep X h H) (hM : ax_Yok y bytes maxL ret n) (hI : Cond.static y ∈ ax_G) (hlink : Cond.methodLink own idx y ∈ ax_G) (hfr : fr + 1 ≤ R.frames) (hlc : 8 + (maxL + 11) + lo ≤ R.locals) (hav : As.length = n)
    (hrest : (rest.map fun v => v.category).sum ≤ 8) (hMet : ax_Md l X B y bytes maxL ret fr lo As h o) (hc1 : cells ≤ R.cells) (hc2 : slots ≤ R.slots) (hlo : ∀ l ∈ locs, xB X ≤ l.base) (hdg : decode cc pc = .ok (.invokestatic idx, 3))
    (kk : ∀ (H1 : Heap) (locs1 : List Loc), ax_Rep X h H1 → (∀ l ∈ locs1, xB X ≤ l.base) → W p l e R s m args below meth c H1 locs1 cells slots Q (F0 m (pc + 3) lsr ((o.map (ax_v X)).toList ++ rest))) : W p l e R s m args below meth c H locs cells slots Q (F0 m pc lsr (As.reverse ++ rest)) := by
  have hsig : ∀ sig, parseMethodDescriptor y.desc = some sig → n = sig.parameters.length := fun sig h => by have := hM.2.2.2; rw [h] at this; exact (Option.some.inj this).symm
  have hps : PreS s H (ax_Pd X B As h) As := ⟨ax_Pd.blind, ax_preD hK hB hR⟩
  exact ax_after (va_runS (cc := cc) (nL := lsr.size) (Ts := ax_G) (own := own) (bytes := bytes) (maxL := maxL) (ret := ret) (n := n) (As := As) (rest := rest) ⟨hexec, hb, hml, hown, hts⟩ hMet ⟨⟨rfl, rfl, hfr, hlc, ax_Gwd hts hM.1, List.mem_cons_self, hts _ hM.1, hts _ hM.2.1, hM.2.2.1, hsig, hts _ hlink⟩, hts _ hI⟩ hps rfl hav rfl rfl (by show 2 * 0 + _ ≤ 8; omega) hdg ⟨hc1, hc2⟩) hlo kk
theorem ax_dV (hexec : p.tables.exec = Jvm.exec) (hb : c.code = cc) (hml : c.maxLocals = lsr.size) (hts : ∀ w ∈ ax_G, w.before args s = true) (hown : s.vm.findClass own = some m.cls) (hK : ax_K X s) (hB : ax_by X B s) (hR : ax_Rep X h H) (hM : ax_Yok y bytes maxL ret n) (hI : Cond.instanceMethod y ∈ ax_G) (hse : Cond.selects y.cls y y ∈ ax_G) (hlink : Cond.methodLink own idx y ∈ ax_G) (hfr : fr + 1 ≤ R.frames) (hlc : 8 + (maxL + 11) + lo ≤ R.locals) (hav : As.length = n) {a : Nat}
    (hcell : ∃ cellB : Cell, H[a]? = some cellB ∧ cellB.vm.isStatics = false ∧ s.vm.findClass y.cls = some cellB.cls)
    (hrest : (rest.map fun v => v.category).sum ≤ 8) (hMet : ax_Md l X B y bytes maxL ret fr lo (.ref a :: As) h o) (hc1 : cells ≤ R.cells) (hc2 : slots ≤ R.slots) (hlo : ∀ l ∈ locs, xB X ≤ l.base) (hdg : decode cc pc = .ok (.invokevirtual idx, 3))
    (kk : ∀ (H1 : Heap) (locs1 : List Loc), ax_Rep X h H1 → (∀ l ∈ locs1, xB X ≤ l.base) → W p l e R s m args below meth c H1 locs1 cells slots Q (F0 m (pc + 3) lsr ((o.map (ax_v X)).toList ++ rest))) : W p l e R s m args below meth c H locs cells slots Q (F0 m pc lsr (As.reverse ++ .ref a :: rest)) := by
  have hsig : ∀ sig, parseMethodDescriptor y.desc = some sig → n = sig.parameters.length := fun sig h => by have := hM.2.2.2; rw [h] at this; exact (Option.some.inj this).symm
  have hpv : PreV s H y.cls a (ax_Pd X B (.ref a :: As) h) As := ⟨ax_Pd.blind, hcell, fun U hU hW => ax_preD hK hB hR (As := .ref a :: As) U hU hW⟩
  exact ax_after (va_runV (cc := cc) (nL := lsr.size) (Ts := ax_G) (own := own) (C := y.cls) (bytes := bytes) (maxL := maxL) (ret := ret) (n := n) (As := As) (rest := rest) ⟨hexec, hb, hml, hown, hts⟩ hMet ⟨⟨rfl, rfl, hfr, hlc, ax_Gwd hts hM.1, List.mem_cons_self, hts _ hM.1, hts _ hM.2.1, hM.2.2.1, hsig, hts _ hlink⟩, hts _ hI, hts _ hse⟩ hpv rfl hav rfl rfl (by show 2 * 0 + _ ≤ 8; omega) hdg ⟨hc1, hc2⟩) hlo kk
theorem ax_vS (hR : ax_Rep X h s.heap) (hR1 : ax_Rep X h H) (hlo : ∀ l ∈ locs, xB X ≤ l.base) : va_S (fun q => xB X ≤ q) s.heap H locs := by
  refine ⟨by rw [hR.2.1, hR1.2.1]; exact Nat.le_refl _, fun q _ hq => ?_, hlo⟩
  have : q < xB X := Nat.not_le.mp hq
  rw [hR.2.2.2.1 q this, hR1.2.2.2.1 q this]
theorem ax_old (hR : ax_Rep X h H) : ∀ a : Nat, a < (xH X).size → ¬ xB X ≤ a → H[a]? = (xH X)[a]? := fun a _ hn => hR.2.2.2.1 a (Nat.not_le.mp hn)
end AXD
abbrev ys_coder : MethodName := ⟨"java/lang/String", "coder", "()B"⟩
abbrev ys_lat : MethodName := ⟨"java/lang/String", "isLatin1", "()Z"⟩
abbrev ys_len : MethodName := ⟨"java/lang/String", "length", "()I"⟩
abbrev ys_at : MethodName := ⟨"java/lang/String", "charAt", "(I)C"⟩
abbrev ys_lat1 : MethodName := ⟨"java/lang/StringLatin1", "charAt", "([BI)C"⟩
abbrev ys_chk : MethodName := ⟨"java/lang/String", "checkIndex", "(II)V"⟩
abbrev ys_pre : MethodName := ⟨"jdk/internal/util/Preconditions", "checkIndex", "(IILjava/util/function/BiFunction;)I"⟩
theorem ys_coder_ok : ax_Yok ys_coder prog_17_method_152_code 1 (some .byte) 0 := ⟨by decide +kernel, by decide +kernel, by decide, by decide +kernel⟩
theorem ys_lat_ok : ax_Yok ys_lat prog_17_method_154_code 1 (some .boolean) 0 := ⟨by decide +kernel, by decide +kernel, by decide, by decide +kernel⟩
theorem ys_lat1_ok : ax_Yok ys_lat1 prog_18_method_2_code 2 (some .char) 2 := ⟨by decide +kernel, by decide +kernel, by decide, by decide +kernel⟩
theorem ys_chk_ok : ax_Yok ys_chk prog_17_method_155_code 2 none 2 := ⟨by decide +kernel, by decide +kernel, by decide, by decide +kernel⟩
theorem ys_pre_ok : ax_Yok ys_pre prog_21_method_11_code 3 (some .int) 3 := ⟨by decide +kernel, by decide +kernel, by decide, by decide +kernel⟩
theorem yd_cod_0 : decode prog_17_method_152_code 0 = .ok (.getstatic 38, 3) := by decide +kernel
theorem yd_cod_3 : decode prog_17_method_152_code 3 = .ok (.ifCond .eq 10, 3) := by decide +kernel
theorem yd_cod_6 : decode prog_17_method_152_code 6 = .ok (.aload_n 0, 1) := by decide +kernel
theorem yd_cod_7 : decode prog_17_method_152_code 7 = .ok (.getfield 15, 3) := by decide +kernel
theorem yd_cod_10 : decode prog_17_method_152_code 10 = .ok (.goto 4, 3) := by decide +kernel
theorem yd_cod_14 : decode prog_17_method_152_code 14 = .ok (.ireturn, 1) := by decide +kernel
theorem yd_lat_0 : decode prog_17_method_154_code 0 = .ok (.getstatic 38, 3) := by decide +kernel
theorem yd_lat_3 : decode prog_17_method_154_code 3 = .ok (.ifCond .eq 14, 3) := by decide +kernel
theorem yd_lat_6 : decode prog_17_method_154_code 6 = .ok (.aload_n 0, 1) := by decide +kernel
theorem yd_lat_7 : decode prog_17_method_154_code 7 = .ok (.getfield 15, 3) := by decide +kernel
theorem yd_lat_10 : decode prog_17_method_154_code 10 = .ok (.ifCond .ne 7, 3) := by decide +kernel
theorem yd_lat_13 : decode prog_17_method_154_code 13 = .ok (.iconst 1, 1) := by decide +kernel
theorem yd_lat_14 : decode prog_17_method_154_code 14 = .ok (.goto 4, 3) := by decide +kernel
theorem yd_lat_18 : decode prog_17_method_154_code 18 = .ok (.ireturn, 1) := by decide +kernel
theorem yd_pre_0 : decode prog_21_method_11_code 0 = .ok (.iload_n 0, 1) := by decide +kernel
theorem yd_pre_1 : decode prog_21_method_11_code 1 = .ok (.ifCond .lt 8, 3) := by decide +kernel
theorem yd_pre_4 : decode prog_21_method_11_code 4 = .ok (.iload_n 0, 1) := by decide +kernel
theorem yd_pre_5 : decode prog_21_method_11_code 5 = .ok (.iload_n 1, 1) := by decide +kernel
theorem yd_pre_6 : decode prog_21_method_11_code 6 = .ok (.if_icmp .lt 10, 3) := by decide +kernel
theorem yd_pre_16 : decode prog_21_method_11_code 16 = .ok (.iload_n 0, 1) := by decide +kernel
theorem yd_pre_17 : decode prog_21_method_11_code 17 = .ok (.ireturn, 1) := by decide +kernel
theorem yd_chk_0 : decode prog_17_method_155_code 0 = .ok (.iload_n 0, 1) := by decide +kernel
theorem yd_chk_1 : decode prog_17_method_155_code 1 = .ok (.iload_n 1, 1) := by decide +kernel
theorem yd_chk_2 : decode prog_17_method_155_code 2 = .ok (.getstatic 1053, 3) := by decide +kernel
theorem yd_chk_5 : decode prog_17_method_155_code 5 = .ok (.invokestatic 1059, 3) := by decide +kernel
theorem yd_chk_8 : decode prog_17_method_155_code 8 = .ok (.pop, 1) := by decide +kernel
theorem yd_chk_9 : decode prog_17_method_155_code 9 = .ok (.return_, 1) := by decide +kernel
theorem yd_la1_0 : decode prog_18_method_2_code 0 = .ok (.iload_n 1, 1) := by decide +kernel
theorem yd_la1_1 : decode prog_18_method_2_code 1 = .ok (.aload_n 0, 1) := by decide +kernel
theorem yd_la1_2 : decode prog_18_method_2_code 2 = .ok (.arraylength, 1) := by decide +kernel
theorem yd_la1_3 : decode prog_18_method_2_code 3 = .ok (.invokestatic 9, 3) := by decide +kernel
theorem yd_la1_6 : decode prog_18_method_2_code 6 = .ok (.aload_n 0, 1) := by decide +kernel
theorem yd_la1_7 : decode prog_18_method_2_code 7 = .ok (.iload_n 1, 1) := by decide +kernel
theorem yd_la1_8 : decode prog_18_method_2_code 8 = .ok (.baload, 1) := by decide +kernel
theorem yd_la1_9 : decode prog_18_method_2_code 9 = .ok (.sipush 255, 3) := by decide +kernel
theorem yd_la1_12 : decode prog_18_method_2_code 12 = .ok (.iand, 1) := by decide +kernel
theorem yd_la1_13 : decode prog_18_method_2_code 13 = .ok (.i2c, 1) := by decide +kernel
theorem yd_la1_14 : decode prog_18_method_2_code 14 = .ok (.ireturn, 1) := by decide +kernel
theorem yd_len_0 : decode prog_17_method_54_code 0 = .ok (.aload_n 0, 1) := by decide +kernel
theorem yd_len_1 : decode prog_17_method_54_code 1 = .ok (.getfield 9, 3) := by decide +kernel
theorem yd_len_4 : decode prog_17_method_54_code 4 = .ok (.arraylength, 1) := by decide +kernel
theorem yd_len_5 : decode prog_17_method_54_code 5 = .ok (.aload_n 0, 1) := by decide +kernel
theorem yd_len_6 : decode prog_17_method_54_code 6 = .ok (.invokevirtual 335, 3) := by decide +kernel
theorem yd_len_9 : decode prog_17_method_54_code 9 = .ok (.ishr, 1) := by decide +kernel
theorem yd_len_10 : decode prog_17_method_54_code 10 = .ok (.ireturn, 1) := by decide +kernel
theorem yd_at_0 : decode prog_17_method_56_code 0 = .ok (.aload_n 0, 1) := by decide +kernel
theorem yd_at_1 : decode prog_17_method_56_code 1 = .ok (.invokevirtual 492, 3) := by decide +kernel
theorem yd_at_4 : decode prog_17_method_56_code 4 = .ok (.ifCond .eq 12, 3) := by decide +kernel
theorem yd_at_7 : decode prog_17_method_56_code 7 = .ok (.aload_n 0, 1) := by decide +kernel
theorem yd_at_8 : decode prog_17_method_56_code 8 = .ok (.getfield 9, 3) := by decide +kernel
theorem yd_at_11 : decode prog_17_method_56_code 11 = .ok (.iload_n 1, 1) := by decide +kernel
theorem yd_at_12 : decode prog_17_method_56_code 12 = .ok (.invokestatic 495, 3) := by decide +kernel
theorem yd_at_15 : decode prog_17_method_56_code 15 = .ok (.ireturn, 1) := by decide +kernel
theorem ys_ws : Cond.fieldLink "java/lang/String" 38 "java/lang/String" "COMPACT_STRINGS" "Z" ∈ ax_G ∧ Cond.fieldLink "java/lang/String" 9 "java/lang/String" "value" "[B" ∈ ax_G ∧ Cond.fieldLink "java/lang/String" 15 "java/lang/String" "coder" "B" ∈ ax_G ∧ Cond.fieldLink "java/lang/String" 1053 "jdk/internal/util/Preconditions" "SIOOBE_FORMATTER" "Ljava/util/function/BiFunction;" ∈ ax_G := ⟨by decide +kernel, by decide +kernel, by decide +kernel, by decide +kernel⟩
theorem ys_wl : Cond.methodLink "java/lang/String" 335 ys_coder ∈ ax_G ∧ Cond.methodLink "java/lang/String" 492 ys_lat ∈ ax_G ∧ Cond.methodLink "java/lang/String" 495 ys_lat1 ∈ ax_G ∧ Cond.methodLink "java/lang/StringLatin1" 9 ys_chk ∈ ax_G ∧ Cond.methodLink "java/lang/String" 1059 ys_pre ∈ ax_G := ⟨by decide +kernel, by decide +kernel, by decide +kernel, by decide +kernel, by decide +kernel⟩
theorem ys_wi : Cond.instanceMethod ys_coder ∈ ax_G ∧ Cond.selects "java/lang/String" ys_coder ys_coder ∈ ax_G ∧ Cond.instanceMethod ys_lat ∈ ax_G ∧ Cond.selects "java/lang/String" ys_lat ys_lat ∈ ax_G ∧ Cond.static ys_lat1 ∈ ax_G ∧ Cond.static ys_chk ∈ ax_G ∧ Cond.static ys_pre ∈ ax_G := ⟨by decide +kernel, by decide +kernel, by decide +kernel, by decide +kernel, by decide +kernel, by decide +kernel, by decide +kernel⟩
section AXD2
variable {X : ax_X} {B : Nat × Nat × (Nat → Int32)} {h : ax_H}
/-- constant number i, seen in the heap -/
theorem ax_strH {U : State} {H : Heap} (hR : ax_Rep X h H) {i : Nat} {tx : String} (hs : ax_str X U i tx) : ∃ v : Nat, va_O "java/lang/String" (xA X (i + 1)) (fun q => xB X ≤ q) U H ∧ va_OF "java/lang/String" "coder" "B" (.int 0) (xA X (i + 1)) (fun q => xB X ≤ q) U H ∧ va_OF "java/lang/String" "value" "[B" (.ref v) (xA X (i + 1)) (fun q => xB X ≤ q) U H ∧ va_T .byte v tx.length (fun j => .int (nI ((tx.toList.map Char.toNat).getD j 0))) (fun q => xB X ≤ q) U H := by
  obtain ⟨v, h1, h2, h3, h4⟩ := hs
  exact ⟨v, h1.kept (ax_old hR), h2.kept (ax_old hR), h3.kept (ax_old hR), h4.kept (ax_old hR)⟩
theorem ym_coder {i : Nat} {q : String × Nat × String} (hi : ax_strs[i]? = some q) (l : Launch) : ax_Md l X B ys_coder prog_17_method_152_code 1 (some .byte) 0 0 [.ref (xA X (i + 1))] h (some (.int 0)) := by
  refine ax_smt (by decide +kernel) (by exact Nat.le_refl 1) ?_ l
  intro p l e s m below meth c lsr hx hb hml hr hlk hts hown hK hB hR hl
  obtain ⟨v, h1, h2, h3, h4⟩ := ax_strH hR (hK.2.2.1 i q hi).2
  have hZ := hK.2.2.2.2.2.2.2.2.1.kept (ax_old hR)
  have hS := ax_vS (locs := []) hR hR (fun _ q => by cases q)
  refine va_gets hx hb hZ hS hown (hts _ ys_ws.1) (fun _ q => q) yd_cod_0 ?_
  refine lv_if_eq hx hb (tgt := 13) yd_cod_3 rfl (fun q => absurd q (by decide)) (fun _ => ?_)
  refine lv_aload_n hx hb yd_cod_6 rfl (lv_at hl 0 rfl) ?_
  refine vk_getf hx hb h2 hS hown (hts _ ys_ws.2.2.1) (fun _ q => q) yd_cod_7 ?_
  refine lv_goto hx hb (tgt := 14) yd_cod_10 rfl ?_
  exact W.zret (v := 0) (ty := .byte) hx hb hr rfl (fun t ht hW => ⟨rfl, by rw [ht]; exact hR⟩) (fun _ q => by cases q) yd_cod_14
theorem ym_lat {i : Nat} {q : String × Nat × String} (hi : ax_strs[i]? = some q) (l : Launch) : ax_Md l X B ys_lat prog_17_method_154_code 1 (some .boolean) 0 0 [.ref (xA X (i + 1))] h (some (.int 1)) := by
  refine ax_smt (by decide +kernel) (by exact Nat.le_refl 1) ?_ l
  intro p l e s m below meth c lsr hx hb hml hr hlk hts hown hK hB hR hl
  obtain ⟨v, h1, h2, h3, h4⟩ := ax_strH hR (hK.2.2.1 i q hi).2
  have hZ := hK.2.2.2.2.2.2.2.2.1.kept (ax_old hR)
  have hS := ax_vS (locs := []) hR hR (fun _ q => by cases q)
  refine va_gets hx hb hZ hS hown (hts _ ys_ws.1) (fun _ q => q) yd_lat_0 ?_
  refine lv_if_eq hx hb (tgt := 17) yd_lat_3 rfl (fun q => absurd q (by decide)) (fun _ => ?_)
  refine lv_aload_n hx hb yd_lat_6 rfl (lv_at hl 0 rfl) ?_
  refine vk_getf hx hb h2 hS hown (hts _ ys_ws.2.2.1) (fun _ q => q) yd_lat_7 ?_
  refine lv_if_ne hx hb (tgt := 17) yd_lat_10 rfl (fun q => absurd rfl q) (fun _ => ?_)
  refine lv_iconst hx hb (v := 1) yd_lat_13 (by decide) ?_
  refine lv_goto hx hb (tgt := 18) yd_lat_14 rfl ?_
  exact W.zret (v := 1) (ty := .boolean) hx hb hr rfl (fun t ht hW => ⟨rfl, by rw [ht]; exact hR⟩) (fun _ q => by cases q) yd_lat_18
theorem ym_pre {a b : Int32} {z : Value} (hz : z.category = 1) (h0 : ¬ a < 0) (h1 : a < b) (l : Launch) : ax_Md l X B ys_pre prog_21_method_11_code 3 (some .int) 0 0 [.int a, .int b, z] h (some (.int a)) := by
  refine ax_smt (by decide +kernel) (by cases z <;> first | exact Nat.le_refl 3 | (cases hz)) ?_ l
  intro p l e s m below meth c lsr hx hb hml hr hlk hts hown hK hB hR hl
  refine lv_iload_n hx hb yd_pre_0 rfl (lv_at hl 0 rfl) ?_
  refine lv_if_lt hx hb (tgt := 9) yd_pre_1 rfl (fun q => absurd q h0) (fun _ => ?_)
  refine lv_iload_n hx hb yd_pre_4 rfl (lv_at hl 0 rfl) ?_
  refine lv_iload_n hx hb yd_pre_5 rfl (lv_at hl 1 rfl) ?_
  refine lv_icmp_lt hx hb (tgt := 16) yd_pre_6 rfl (fun _ => ?_) (fun q => absurd h1 q)
  refine lv_iload_n hx hb yd_pre_16 rfl (lv_at hl 0 rfl) ?_
  exact W.iret (v := a) hx hb hr (fun t ht hW => ⟨rfl, by rw [ht]; exact hR⟩) (fun _ q => by cases q) yd_pre_17
theorem ym_chk {a b : Int32} (h0 : ¬ a < 0) (h1 : a < b) (l : Launch) : ax_Md l X B ys_chk prog_17_method_155_code 2 none 1 22 [.int a, .int b] h none := by
  refine ax_smt (by decide +kernel) (by exact Nat.le_refl 2) ?_ l
  intro p l e s m below meth c lsr hx hb hml hr hlk hts hown hK hB hR hl
  have hS := ax_vS (locs := []) hR hR (fun _ q => by cases q)
  refine lv_iload_n hx hb yd_chk_0 rfl (lv_at hl 0 rfl) ?_
  refine lv_iload_n hx hb yd_chk_1 rfl (lv_at hl 1 rfl) ?_
  have key : ∀ z : Value, z.category = 1 → va_Z "jdk/internal/util/Preconditions" "SIOOBE_FORMATTER" "Ljava/util/function/BiFunction;" z (fun q => xB X ≤ q) s s.heap → W p l e { frames := 1, cells := 0, slots := 0, locals := 22 } s m [Value.int a, Value.int b].toArray below meth c s.heap [] 0 0 (MQ below (ax_Qc X none h) [Value.int a, Value.int b].toArray s 0 0 (fun q => xB X ≤ q)) (F0 m (0 + 1 + 1) lsr [.int b, .int a]) := by
    intro z hz hZ
    refine va_gets hx hb hZ hS hown (hts _ ys_ws.2.2.2) (fun _ q => q) yd_chk_2 ?_
    refine ax_dS (As := [.int a, .int b, z]) (rest := []) hx hb hml hts hown hK hB hR ys_pre_ok ys_wi.2.2.2.2.2.2 ys_wl.2.2.2.2 (by decide) (by decide) rfl (by decide) (ym_pre hz h0 h1 l) (by decide) (by decide) (fun _ q => by cases q) yd_chk_5 ?_
    intro H1 locs1 hR1 hlo1
    refine lv_pop hx hb yd_chk_8 rfl ?_
    exact W.vret hx hb hr (fun t ht hW => ⟨rfl, by rw [ht]; exact hR1⟩) hlo1 yd_chk_9
  have hZ := hK.2.2.2.2.2.2.2.2.2.kept (ax_old hR)
  rcases hZ with hZ | ⟨t, hZ⟩
  · exact key .null rfl hZ
  · exact key (.ref t) rfl hZ
theorem ym_lat1 {j : Int32} {r : Int32} (hN : B.2.1 < 2 ^ 31) (h0 : ¬ j < 0) (h1 : j.toNatClampNeg < B.2.1) (hr1 : ((B.2.2 j.toNatClampNeg &&& 255).toUInt32 % 65536).toInt32 = r) (hr2 : narrow .char (.int r) = .int r) (l : Launch) : ax_Md l X B ys_lat1 prog_18_method_2_code 2 (some .char) 2 43 [.ref B.1, .int j] h (some (.int r)) := by
  refine ax_smt (by decide +kernel) (by exact Nat.le_refl 2) ?_ l
  intro p l e s m below meth c lsr hx hb hml hr hlk hts hown hK hB hR hl
  have hS := ax_vS (locs := []) hR hR (fun _ q => by cases q)
  have hTs := va_T.kept hB (ax_old hR)
  refine lv_iload_n hx hb yd_la1_0 rfl (lv_at hl 1 rfl) ?_
  refine lv_aload_n hx hb yd_la1_1 rfl (lv_at hl 0 rfl) ?_
  refine va_tlen hx hb hTs hS (v := Int32.ofNat B.2.1) rfl yd_la1_2 ?_
  have hlt : j < Int32.ofNat B.2.1 := Int32.lt_iff_toInt_lt.mpr (by rw [ax_nnI h0, Int32.toInt_ofNat_of_lt hN]; omega)
  refine ax_dS (As := [.int j, .int (Int32.ofNat B.2.1)]) (rest := []) hx hb hml hts hown hK hB hR ys_chk_ok ys_wi.2.2.2.2.2.1 ys_wl.2.2.2.1 (by decide) (by decide) rfl (by decide) (ym_chk h0 hlt l) (by decide) (by decide) (fun _ q => by cases q) yd_la1_3 ?_
  intro H1 locs1 hR1 hlo1
  have hS1 := ax_vS hR hR1 hlo1
  refine lv_aload_n hx hb yd_la1_6 rfl (lv_at hl 0 rfl) ?_
  refine lv_iload_n hx hb yd_la1_7 rfl (lv_at hl 1 rfl) ?_
  refine va_tb hx hb hTs hS1 (ax_nin h0 h1 rfl) (v := .int (B.2.2 j.toNatClampNeg)) rfl yd_la1_8 ?_
  refine lv_sipush hx hb (v := 255) yd_la1_9 (by decide) ?_
  refine lv_iand hx hb yd_la1_12 ?_
  refine lv_i2c hx hb (v := r) yd_la1_13 hr1 ?_
  exact W.zret (v := r) (ty := .char) hx hb hr hr2 (fun t ht hW => ⟨rfl, by rw [ht]; exact hR1⟩) hlo1 yd_la1_14
/-- String.length -/
theorem ym_len {x : Nat} (hx1 : 1 ≤ x) (hx2 : x ≤ 34) (l : Launch) : Met l ys_len (Cond.code ys_len prog_17_method_54_code 1 (some .int) :: ax_G) { frames := 3, cells := 0, slots := 0, locals := 64 } (ax_Pc X [.ref x] h) (ax_Qc X (some (.int (nI (ax_text x).length))) h) 0 0 (fun q => xB X ≤ q) := by
  refine va_MetF (cc := prog_17_method_54_code) (maxL := 1) (ret := some .int) (by decide +kernel) rfl ?_
  intro p e s m args below meth c s₁ BB hml hv
  obtain ⟨rfl, hR, hK⟩ := hv
  have hx := BB.exec
  have hb := BB.bytes
  have hr := BB.returns
  have hlocks := BB.notSynchronized
  have hts0 := atoms_spec (ws := Cond.code ys_len prog_17_method_54_code 1 (some .int) :: ax_G) BB.pre
  have hts : ∀ w ∈ ax_G, w.before ([Value.ref x].map (ax_v X)).toArray s = true := fun w hw => hts0 w (List.mem_cons_of_mem _ hw)
  have hown := findClass_of_methodNamed BB.named
  have hl := lv_entry ([Value.ref x].map (ax_v X)) (n := 1) (by rw [ax_lgsl]; exact Nat.le_refl 1)
  rw [lg_entry_eq]
  generalize (lg_sl ([Value.ref x].map (ax_v X)) ++ List.replicate (1 - (lg_sl ([Value.ref x].map (ax_v X))).length) Slot.unset).toArray = lsr at hl ⊢
  have hlen : x - 1 < ax_strs.length := by
    have : ax_strs.length = 34 := rfl
    omega
  have hi := List.getElem?_eq_getElem hlen
  have hxe : x - 1 + 1 = x := by omega
  have hax : ax_v X (.ref x) = .ref (xA X (x - 1 + 1)) := by rw [hxe, ax_v_ref (by omega), ax_r, if_pos (by omega)]
  have htx : ax_text x = (ax_strs[x - 1]'hlen).2.2 := by unfold ax_text; rw [List.getD_eq_getElem?_getD, hi]; rfl
  have hstr := (hK.2.2.1 (x - 1) _ hi).2
  obtain ⟨v, h1, h2, h3, h4⟩ := hstr
  have hT := h4
  replace h1 := h1.kept (ax_old hR)
  replace h3 := h3.kept (ax_old hR)
  replace h4 := h4.kept (ax_old hR)
  have hS := ax_vS (locs := []) hR hR (fun _ q => by cases q)
  have hl0 : lsr[0]? = some (.val (.ref (xA X (x - 1 + 1)))) := by rw [← hax]; exact lv_at hl 0 rfl
  refine lv_aload_n hx hb yd_len_0 rfl hl0 ?_
  refine vk_getf hx hb h3 hS hown (hts _ ys_ws.2.1) (fun _ q => q) yd_len_1 ?_
  refine va_tlen hx hb h4 hS (v := Int32.ofNat (ax_strs[x - 1]'hlen).2.2.length) rfl yd_len_4 ?_
  refine lv_aload_n hx hb yd_len_5 rfl hl0 ?_
  obtain ⟨cell, g1, g2, g3, g4⟩ := h1
  refine ax_dV (As := []) (rest := [.int (Int32.ofNat (ax_strs[x - 1]'hlen).2.2.length)]) (B := (v, (ax_strs[x - 1]'hlen).2.2.length, fun k => nI (((ax_strs[x - 1]'hlen).2.2.toList.map Char.toNat).getD k 0))) hx hb (by rw [hml]; exact hl.1.symm) hts hown hK hT hR ys_coder_ok ys_wi.1 ys_wi.2.1 ys_wl.1 (show 0 + 1 ≤ 3 by decide) (show 8 + (1 + 11) + 0 ≤ 64 by decide) rfl ⟨cell, g1, g2, g3⟩ (show (1 : Nat) ≤ 8 by decide) (ym_coder (B := (v, (ax_strs[x - 1]'hlen).2.2.length, fun k => nI (((ax_strs[x - 1]'hlen).2.2.toList.map Char.toNat).getD k 0))) hi l) (Nat.le_refl 0) (Nat.le_refl 0) (fun _ q => by cases q) yd_len_6 ?_
  intro H1 locs1 hR1 hlo1
  refine lv_ishr hx hb yd_len_9 ?_
  have e0 : ∀ z : Int32, z >>> ((0 : Int32) &&& 31) = z := fun z => by simp
  rw [e0, htx]
  exact W.iret (v := nI (ax_strs[x - 1]'hlen).2.2.length) hx hb hr (fun t ht hW => ⟨rfl, by rw [ht]; exact hR1⟩) hlo1 yd_len_10
theorem ax_chr : ∀ i, i < 34 → ∀ j, j < (ax_strs.getD i ("", 0, "")).2.2.length → ((nI (((ax_strs.getD i ("", 0, "")).2.2.toList.map Char.toNat).getD j 0) &&& 255).toUInt32 % 65536).toInt32 = nI (((ax_strs.getD i ("", 0, "")).2.2.toList.map Char.toNat).getD j 0) ∧ narrow .char (.int (nI (((ax_strs.getD i ("", 0, "")).2.2.toList.map Char.toNat).getD j 0))) = .int (nI (((ax_strs.getD i ("", 0, "")).2.2.toList.map Char.toNat).getD j 0)) := by decide +kernel
theorem ax_tlen : ∀ i, i < 34 → (ax_strs.getD i ("", 0, "")).2.2.length < 2 ^ 31 := by decide +kernel
/-- String.charAt -/
theorem ym_at {x : Nat} {j : Int32} (hx1 : 1 ≤ x) (hx2 : x ≤ 34) (h0 : ¬ j < 0) (hj : j.toNatClampNeg < (ax_text x).length) (l : Launch) : Met l ys_at (Cond.code ys_at prog_17_method_56_code 2 (some .char) :: ax_G) { frames := 3, cells := 0, slots := 0, locals := 64 } (ax_Pc X [.ref x, .int j] h) (ax_Qc X (some (.int (nI (((ax_text x).toList.map Char.toNat).getD j.toNatClampNeg 0)))) h) 0 0 (fun q => xB X ≤ q) := by
  refine va_MetF (cc := prog_17_method_56_code) (maxL := 2) (ret := some .char) (by decide +kernel) rfl ?_
  intro p e s m args below meth c s₁ BB hml hv
  obtain ⟨rfl, hR, hK⟩ := hv
  have hx := BB.exec
  have hb := BB.bytes
  have hr := BB.returns
  have hlocks := BB.notSynchronized
  have hts0 := atoms_spec (ws := Cond.code ys_at prog_17_method_56_code 2 (some .char) :: ax_G) BB.pre
  have hts : ∀ w ∈ ax_G, w.before ([Value.ref x, .int j].map (ax_v X)).toArray s = true := fun w hw => hts0 w (List.mem_cons_of_mem _ hw)
  have hown := findClass_of_methodNamed BB.named
  have hl := lv_entry ([Value.ref x, .int j].map (ax_v X)) (n := 2) (by rw [ax_lgsl]; exact Nat.le_refl 2)
  rw [lg_entry_eq]
  generalize (lg_sl ([Value.ref x, .int j].map (ax_v X)) ++ List.replicate (2 - (lg_sl ([Value.ref x, .int j].map (ax_v X))).length) Slot.unset).toArray = lsr at hl ⊢
  have hlen : x - 1 < ax_strs.length := by
    have : ax_strs.length = 34 := rfl
    omega
  have hi := List.getElem?_eq_getElem hlen
  have hxe : x - 1 + 1 = x := by omega
  have hax : ax_v X (.ref x) = .ref (xA X (x - 1 + 1)) := by rw [hxe, ax_v_ref (by omega), ax_r, if_pos (by omega)]
  have hgd : ax_strs.getD (x - 1) ("", 0, "") = ax_strs[x - 1]'hlen := by rw [List.getD_eq_getElem?_getD, hi]; rfl
  have htx : ax_text x = (ax_strs[x - 1]'hlen).2.2 := by unfold ax_text; rw [hgd]
  have hstr := (hK.2.2.1 (x - 1) _ hi).2
  obtain ⟨v, h1, h2, h3, h4⟩ := hstr
  have hT := h4
  replace h1 := h1.kept (ax_old hR)
  replace h3 := h3.kept (ax_old hR)
  have hS := ax_vS (locs := []) hR hR (fun _ q => by cases q)
  have hl0 : lsr[0]? = some (.val (.ref (xA X (x - 1 + 1)))) := by
    have : lsr[0]? = some (.val (ax_v X (.ref x))) := lv_at hl 0 rfl
    rw [this, hax]
  have hl1 : lsr[1]? = some (.val (.int j)) := by
    have : (1, Value.int j) ∈ lv_args 0 ([Value.ref x, .int j].map (ax_v X)) := by
      rw [List.map_cons, hax]
      exact List.mem_cons_of_mem _ List.mem_cons_self
    exact hl.2.2 _ this
  have hc1 := ax_chr (x - 1) (by omega) j.toNatClampNeg (by rw [hgd, ← htx]; exact hj)
  have hc2 := ax_tlen (x - 1) (by omega)
  rw [hgd] at hc1 hc2
  rw [htx] at hj ⊢
  refine lv_aload_n hx hb yd_at_0 rfl hl0 ?_
  obtain ⟨cell, g1, g2, g3, g4⟩ := h1
  refine ax_dV (As := []) (rest := []) (B := (v, (ax_strs[x - 1]'hlen).2.2.length, fun k => nI (((ax_strs[x - 1]'hlen).2.2.toList.map Char.toNat).getD k 0))) hx hb (by rw [hml]; exact hl.1.symm) hts hown hK hT hR ys_lat_ok ys_wi.2.2.1 ys_wi.2.2.2.1 ys_wl.2.1 (show 0 + 1 ≤ 3 by decide) (show 8 + (1 + 11) + 0 ≤ 64 by decide) rfl ⟨cell, g1, g2, g3⟩ (by decide) (ym_lat (B := (v, (ax_strs[x - 1]'hlen).2.2.length, fun k => nI (((ax_strs[x - 1]'hlen).2.2.toList.map Char.toNat).getD k 0))) hi l) (Nat.le_refl 0) (Nat.le_refl 0) (fun _ q => by cases q) yd_at_1 ?_
  intro H1 locs1 hR1 hlo1
  have hS1 := ax_vS hR hR1 hlo1
  refine lv_if_eq hx hb (tgt := 16) yd_at_4 rfl (fun q => absurd q (by decide)) (fun _ => ?_)
  refine lv_aload_n hx hb yd_at_7 rfl hl0 ?_
  refine vk_getf hx hb h3 hS1 hown (hts _ ys_ws.2.1) (fun _ q => q) yd_at_8 ?_
  refine lv_iload_n hx hb yd_at_11 rfl hl1 ?_
  refine ax_dS (As := [.ref v, .int j]) (rest := []) (B := (v, (ax_strs[x - 1]'hlen).2.2.length, fun k => nI (((ax_strs[x - 1]'hlen).2.2.toList.map Char.toNat).getD k 0))) hx hb (by rw [hml]; exact hl.1.symm) hts hown hK hT hR1 ys_lat1_ok ys_wi.2.2.2.2.1 ys_wl.2.2.1 (show 2 + 1 ≤ 3 by decide) (show 8 + (2 + 11) + 43 ≤ 64 by decide) rfl (by decide) (ym_lat1 (B := (v, (ax_strs[x - 1]'hlen).2.2.length, fun k => nI (((ax_strs[x - 1]'hlen).2.2.toList.map Char.toNat).getD k 0))) (r := nI (((ax_strs[x - 1]'hlen).2.2.toList.map Char.toNat).getD j.toNatClampNeg 0)) hc2 h0 hj hc1.1 hc1.2 l) (Nat.le_refl 0) (Nat.le_refl 0) hlo1 yd_at_12 ?_
  intro H2 locs2 hR2 hlo2
  exact W.zret (v := nI (((ax_strs[x - 1]'hlen).2.2.toList.map Char.toNat).getD j.toNatClampNeg 0)) (ty := .char) hx hb hr hc1.2 (fun t ht hW => ⟨rfl, by rw [ht]; exact hR2⟩) hlo2 yd_at_15
end AXD2
theorem ax_M_0 : ax_M 0 = (ys_len, prog_17_method_54_code, 1, some .int, (ax_M 0).2.2.2.2.1, 3, 64) := rfl
theorem ax_M_1 : ax_M 1 = (ys_at, prog_17_method_56_code, 2, some .char, (ax_M 1).2.2.2.2.1, 3, 64) := rfl
theorem ax_strlen_ok {av : List Value} {h h' : ax_H} {r : Int32} (hs : ax_strlen av h = some (r, h')) : ax_Imp ax_M 0 av h (some (.int r)) h' := by
  unfold ax_strlen at hs
  split at hs
  · rename_i x
    split at hs
    · rename_i hx
      cases hs
      refine ⟨Nat.le_refl _, Nat.le_refl _, fun l X => ?_⟩
      rw [Nat.sub_self, Nat.sub_self]
      rw [ax_M_0]
      exact ym_len hx.1 hx.2 l
    · cases hs
  · cases hs
theorem ax_strat_ok {av : List Value} {h h' : ax_H} {r : Int32} (hs : ax_strat av h = some (r, h')) : ax_Imp ax_M 1 av h (some (.int r)) h' := by
  unfold ax_strat at hs
  split at hs
  · rename_i x i
    split at hs
    · rename_i hx
      cases hs
      refine ⟨Nat.le_refl _, Nat.le_refl _, fun l X => ?_⟩
      rw [Nat.sub_self, Nat.sub_self]
      rw [ax_M_1]
      exact ym_at hx.1 hx.2.1 hx.2.2.1 hx.2.2.2 l
    · cases hs
  · cases hs
