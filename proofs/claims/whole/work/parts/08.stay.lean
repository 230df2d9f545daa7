/-! what a row of the code must be; first the rows that leave the heap as it is -/
def ax_ok0 (nL : Nat) (e : ax_E) : Bool := match e.2.1 with
  | .iconst n => e.2.2.1 == 1 && decide (Int32.ofInt n = Int32.ofInt e.2.2.2.2.2)
  | .bipush n => e.2.2.1 == 2 && decide ((Int8.ofInt n).toInt32 = Int32.ofInt e.2.2.2.2.2)
  | .sipush n => e.2.2.1 == 3 && decide ((Int16.ofInt n).toInt32 = Int32.ofInt e.2.2.2.2.2)
  | .lconst n => e.2.2.1 == 1 && decide (Int64.ofNat (n : Nat) = Int64.ofInt e.2.2.2.2.2)
  | .aconst_null => e.2.2.1 == 1
  | .iload i => e.2.2.1 == 2 && i == e.2.2.2.1
  | .lload i => e.2.2.1 == 2 && i == e.2.2.2.1
  | .aload i => e.2.2.1 == 2 && i == e.2.2.2.1
  | .iload_n i => e.2.2.1 == 1 && (i : Nat) == e.2.2.2.1
  | .lload_n i => e.2.2.1 == 1 && (i : Nat) == e.2.2.2.1
  | .aload_n i => e.2.2.1 == 1 && (i : Nat) == e.2.2.2.1
  | .istore i => e.2.2.1 == 2 && i == e.2.2.2.1 && decide (i < nL)
  | .lstore i => e.2.2.1 == 2 && i == e.2.2.2.1 && decide (i + 1 < nL)
  | .astore i => e.2.2.1 == 2 && i == e.2.2.2.1 && decide (i < nL)
  | .istore_n i => e.2.2.1 == 1 && (i : Nat) == e.2.2.2.1 && decide (e.2.2.2.1 < nL)
  | .lstore_n i => e.2.2.1 == 1 && (i : Nat) == e.2.2.2.1 && decide (e.2.2.2.1 + 1 < nL)
  | .astore_n i => e.2.2.1 == 1 && (i : Nat) == e.2.2.2.1 && decide (e.2.2.2.1 < nL)
  | .iinc i n => e.2.2.1 == 3 && i == e.2.2.2.1 && decide (i < nL) && decide (Int32.ofInt n = Int32.ofInt e.2.2.2.2.2)
  | _ => e.2.2.1 == 1
section AXS
variable {α : Type} {X : ax_X} {p : Program} {l : Launch} {e : Env} {R : Room} {s : State} {m : MethodId} {args : Array Value} {below : List Frame} {meth : Method} {c : Code} {Q : State → Prop} {cc : ByteArray} {nL n0 z0 : Nat} {hf : ax_H}
variable {pc len a b : Nat} {z : Int} {ls : ax_L} {st : List Value} {h : ax_H} {k : ax_L → List Value → ax_H → Option α} {res : α}
theorem ax_s_ii {f : Int32 → Int32 → Int32} (hx : ax_ii f st (fun r => k ls r h) = some res) : ∃ x y r, st = .int y :: .int x :: r ∧ k ls (.int (f x y) :: r) h = some res := by
  unfold ax_ii at hx
  split at hx
  · exact ⟨_, _, _, rfl, hx⟩
  · cases hx
theorem ax_s_ll {f : Int64 → Int64 → Int64} (hx : ax_ll f st (fun r => k ls r h) = some res) : ∃ x y r, st = .long y :: .long x :: r ∧ k ls (.long (f x y) :: r) h = some res := by
  unfold ax_ll at hx
  split at hx
  · exact ⟨_, _, _, rfl, hx⟩
  · cases hx
set_option maxHeartbeats 4000000 in
/-- constants, locals, arithmetic, stack: the heap stays -/
theorem ax_stay_ok (hexec : p.tables.exec = Jvm.exec) (hb : c.code = cc) {ins : Instr} (hd : decode cc pc = .ok (ins, len)) (hk : ax_ok0 nL (pc, ins, len, a, b, z) = true)
    (hin : match ins with | .iconst _ | .bipush _ | .sipush _ | .lconst _ | .aconst_null | .iload _ | .iload_n _ | .lload _ | .lload_n _ | .aload _ | .aload_n _ | .istore _ | .istore_n _ | .lstore _ | .lstore_n _ | .astore _ | .astore_n _ | .iinc _ _ | .iadd | .isub | .imul | .iand | .ior | .ishl | .ishr | .iushr | .idiv | .irem | .ineg | .ladd | .lsub | .lmul | .land | .lor | .lxor | .ldiv | .lrem | .lneg | .lcmp | .i2l | .l2i | .i2b | .dup | .dup2 | .pop => True | _ => False)
    (kk : ∀ ls' st' h1, k ls' st' h1 = some res → ax_W X p l e R s m args below meth c nL Q n0 z0 hf (pc + len) ls' st' h1) (hs : ax_stp (pc, ins, len, a, b, z) ls st h k = some res) : ax_W X p l e R s m args below meth c nL Q n0 z0 hf pc ls st h := by
  cases ins with
  | iconst n =>
    simp [ax_ok0] at hk
    obtain ⟨rfl, hv⟩ := hk
    exact ax_stay (kk _ _ _ hs) fun H locs cells slots lsr hR hl w => lv_iconst hexec hb hd hv (w lsr hl)
  | bipush n =>
    simp [ax_ok0] at hk
    obtain ⟨rfl, hv⟩ := hk
    exact ax_stay (kk _ _ _ hs) fun H locs cells slots lsr hR hl w => lv_bipush hexec hb hd hv (w lsr hl)
  | sipush n =>
    simp [ax_ok0] at hk
    obtain ⟨rfl, hv⟩ := hk
    exact ax_stay (kk _ _ _ hs) fun H locs cells slots lsr hR hl w => lv_sipush hexec hb hd hv (w lsr hl)
  | lconst n =>
    simp only [ax_ok0, Bool.and_eq_true, beq_iff_eq, decide_eq_true_eq] at hk
    obtain ⟨rfl, hv⟩ := hk
    exact ax_stay (kk _ _ _ hs) fun H locs cells slots lsr hR hl w => lv_lconst hexec hb hd hv (w lsr hl)
  | aconst_null =>
    simp [ax_ok0] at hk
    subst hk
    exact ax_stay (kk _ _ _ hs) fun H locs cells slots lsr hR hl w => lv_null hexec hb hd (by have := w lsr hl; rwa [List.map_cons, ax_v_null] at this)
  | iload i =>
    simp [ax_ok0] at hk
    obtain ⟨rfl, rfl⟩ := hk
    simp only [ax_stp] at hs
    split at hs
    · rename_i x hg
      exact ax_stay (kk _ _ _ hs) fun H locs cells slots lsr hR hl w => lv_iload hexec hb hd (ax_get_at hl hg) (w lsr hl)
    · cases hs
  | iload_n i =>
    simp [ax_ok0] at hk
    obtain ⟨rfl, hi⟩ := hk
    simp only [ax_stp] at hs
    split at hs
    · rename_i x hg
      exact ax_stay (kk _ _ _ hs) fun H locs cells slots lsr hR hl w => lv_iload_n hexec hb hd hi (ax_get_at hl hg) (w lsr hl)
    · cases hs
  | lload i =>
    simp [ax_ok0] at hk
    obtain ⟨rfl, rfl⟩ := hk
    simp only [ax_stp] at hs
    split at hs
    · rename_i x hg
      exact ax_stay (kk _ _ _ hs) fun H locs cells slots lsr hR hl w => lv_lload hexec hb hd (ax_get_at hl hg) (w lsr hl)
    · cases hs
  | lload_n i =>
    simp [ax_ok0] at hk
    obtain ⟨rfl, hi⟩ := hk
    simp only [ax_stp] at hs
    split at hs
    · rename_i x hg
      exact ax_stay (kk _ _ _ hs) fun H locs cells slots lsr hR hl w => lv_lload_n hexec hb hd hi (ax_get_at hl hg) (w lsr hl)
    · cases hs
  | aload i =>
    simp [ax_ok0] at hk
    obtain ⟨rfl, rfl⟩ := hk
    simp only [ax_stp] at hs
    split at hs
    · rename_i x hg
      exact ax_stay (kk _ _ _ hs) fun H locs cells slots lsr hR hl w => ax_aload hexec hb hd (ax_get_at hl hg) (w lsr hl)
    · cases hs
  | aload_n i =>
    simp [ax_ok0] at hk
    obtain ⟨rfl, hi⟩ := hk
    simp only [ax_stp] at hs
    split at hs
    · rename_i x hg
      exact ax_stay (kk _ _ _ hs) fun H locs cells slots lsr hR hl w => ax_aload_n hexec hb hd hi (ax_get_at hl hg) (w lsr hl)
    · cases hs
  | istore i =>
    simp [ax_ok0] at hk
    obtain ⟨⟨rfl, rfl⟩, hn⟩ := hk
    simp only [ax_stp] at hs
    split at hs
    · exact ax_stay (kk _ _ _ hs) fun H locs cells slots lsr hR hl w => lv_istore hexec hb hd hl hn (by rw [ax_c1_map]; rfl) w
    · cases hs
  | istore_n i =>
    simp [ax_ok0] at hk
    obtain ⟨⟨rfl, hi⟩, hn⟩ := hk
    simp only [ax_stp] at hs
    split at hs
    · exact ax_stay (kk _ _ _ hs) fun H locs cells slots lsr hR hl w => lv_istore_n hexec hb hd hi hl hn (by rw [ax_c1_map]; rfl) w
    · cases hs
  | lstore i =>
    simp [ax_ok0] at hk
    obtain ⟨⟨rfl, rfl⟩, hn⟩ := hk
    simp only [ax_stp] at hs
    split at hs
    · exact ax_stay (kk _ _ _ hs) fun H locs cells slots lsr hR hl w => lv_lstore hexec hb hd hl hn (by rw [ax_c2_map]; rfl) w
    · cases hs
  | lstore_n i =>
    simp [ax_ok0] at hk
    obtain ⟨⟨rfl, hi⟩, hn⟩ := hk
    simp only [ax_stp] at hs
    split at hs
    · exact ax_stay (kk _ _ _ hs) fun H locs cells slots lsr hR hl w => lv_lstore_n hexec hb hd hi hl hn (by rw [ax_c2_map]; rfl) w
    · cases hs
  | astore i =>
    simp [ax_ok0] at hk
    obtain ⟨⟨rfl, rfl⟩, hn⟩ := hk
    simp only [ax_stp] at hs
    split at hs
    · exact ax_stay (kk _ _ _ hs) fun H locs cells slots lsr hR hl w => ax_astore hexec hb hd hl hn (by rw [ax_c1_map]; rfl) w
    · cases hs
  | astore_n i =>
    simp [ax_ok0] at hk
    obtain ⟨⟨rfl, hi⟩, hn⟩ := hk
    simp only [ax_stp] at hs
    split at hs
    · exact ax_stay (kk _ _ _ hs) fun H locs cells slots lsr hR hl w => ax_astore_n hexec hb hd hi hl hn (by rw [ax_c1_map]; rfl) w
    · cases hs
  | iinc i n =>
    simp [ax_ok0] at hk
    obtain ⟨⟨⟨rfl, rfl⟩, hn⟩, hv⟩ := hk
    simp only [ax_stp] at hs
    split at hs
    · rename_i x hg
      refine ax_stay (kk _ _ _ hs) fun H locs cells slots lsr hR hl w => ?_
      obtain ⟨k0, hk0⟩ := List.getElem?_of_mem (List.mem_map.mpr ⟨(i, Value.int x), ax_get_mem hg, rfl⟩ : ax_q X (i, Value.int x) ∈ ls.map (ax_q X))
      exact lv_iinc hexec hb hd hl hk0 (by rw [hv]) hn (by rw [ax_c1_map]; rfl) w
    · cases hs
  | iadd => simp [ax_ok0] at hk; subst hk; obtain ⟨x, y, r, rfl, hs⟩ := ax_s_ii hs; exact ax_stay (kk _ _ _ hs) fun H locs cells slots lsr hR hl w => lv_iadd hexec hb hd (w lsr hl)
  | isub => simp [ax_ok0] at hk; subst hk; obtain ⟨x, y, r, rfl, hs⟩ := ax_s_ii hs; exact ax_stay (kk _ _ _ hs) fun H locs cells slots lsr hR hl w => lv_isub hexec hb hd (w lsr hl)
  | imul => simp [ax_ok0] at hk; subst hk; obtain ⟨x, y, r, rfl, hs⟩ := ax_s_ii hs; exact ax_stay (kk _ _ _ hs) fun H locs cells slots lsr hR hl w => lv_imul hexec hb hd (w lsr hl)
  | iand => simp [ax_ok0] at hk; subst hk; obtain ⟨x, y, r, rfl, hs⟩ := ax_s_ii hs; exact ax_stay (kk _ _ _ hs) fun H locs cells slots lsr hR hl w => lv_iand hexec hb hd (w lsr hl)
  | ior => simp [ax_ok0] at hk; subst hk; obtain ⟨x, y, r, rfl, hs⟩ := ax_s_ii hs; exact ax_stay (kk _ _ _ hs) fun H locs cells slots lsr hR hl w => lv_ior hexec hb hd (w lsr hl)
  | ishl => simp [ax_ok0] at hk; subst hk; obtain ⟨x, y, r, rfl, hs⟩ := ax_s_ii hs; exact ax_stay (kk _ _ _ hs) fun H locs cells slots lsr hR hl w => lv_ishl hexec hb hd (w lsr hl)
  | ishr => simp [ax_ok0] at hk; subst hk; obtain ⟨x, y, r, rfl, hs⟩ := ax_s_ii hs; exact ax_stay (kk _ _ _ hs) fun H locs cells slots lsr hR hl w => lv_ishr hexec hb hd (w lsr hl)
  | iushr => simp [ax_ok0] at hk; subst hk; obtain ⟨x, y, r, rfl, hs⟩ := ax_s_ii hs; exact ax_stay (kk _ _ _ hs) fun H locs cells slots lsr hR hl w => lv_iushr hexec hb hd rfl (w lsr hl)
  | ladd => simp [ax_ok0] at hk; subst hk; obtain ⟨x, y, r, rfl, hs⟩ := ax_s_ll hs; exact ax_stay (kk _ _ _ hs) fun H locs cells slots lsr hR hl w => lv_ladd hexec hb hd (w lsr hl)
  | lsub => simp [ax_ok0] at hk; subst hk; obtain ⟨x, y, r, rfl, hs⟩ := ax_s_ll hs; exact ax_stay (kk _ _ _ hs) fun H locs cells slots lsr hR hl w => lv_lsub hexec hb hd (w lsr hl)
  | lmul => simp [ax_ok0] at hk; subst hk; obtain ⟨x, y, r, rfl, hs⟩ := ax_s_ll hs; exact ax_stay (kk _ _ _ hs) fun H locs cells slots lsr hR hl w => lv_lmul hexec hb hd (w lsr hl)
  | land => simp [ax_ok0] at hk; subst hk; obtain ⟨x, y, r, rfl, hs⟩ := ax_s_ll hs; exact ax_stay (kk _ _ _ hs) fun H locs cells slots lsr hR hl w => lv_land hexec hb hd (w lsr hl)
  | lor => simp [ax_ok0] at hk; subst hk; obtain ⟨x, y, r, rfl, hs⟩ := ax_s_ll hs; exact ax_stay (kk _ _ _ hs) fun H locs cells slots lsr hR hl w => lv_lor hexec hb hd (w lsr hl)
  | lxor => simp [ax_ok0] at hk; subst hk; obtain ⟨x, y, r, rfl, hs⟩ := ax_s_ll hs; exact ax_stay (kk _ _ _ hs) fun H locs cells slots lsr hR hl w => lv_lxor hexec hb hd (w lsr hl)
  | idiv =>
    simp [ax_ok0] at hk; subst hk
    simp only [ax_stp] at hs
    split at hs
    · split at hs
      · cases hs
      · rename_i hy
        exact ax_stay (kk _ _ _ hs) fun H locs cells slots lsr hR hl w => lv_idiv hexec hb hd hy (w lsr hl)
    · cases hs
  | irem =>
    simp [ax_ok0] at hk; subst hk
    simp only [ax_stp] at hs
    split at hs
    · split at hs
      · cases hs
      · rename_i hy
        exact ax_stay (kk _ _ _ hs) fun H locs cells slots lsr hR hl w => lv_irem hexec hb hd hy (w lsr hl)
    · cases hs
  | ldiv =>
    simp [ax_ok0] at hk; subst hk
    simp only [ax_stp] at hs
    split at hs
    · split at hs
      · cases hs
      · rename_i hy
        exact ax_stay (kk _ _ _ hs) fun H locs cells slots lsr hR hl w => lv_ldiv hexec hb hd hy (w lsr hl)
    · cases hs
  | lrem =>
    simp [ax_ok0] at hk; subst hk
    simp only [ax_stp] at hs
    split at hs
    · split at hs
      · cases hs
      · rename_i hy
        exact ax_stay (kk _ _ _ hs) fun H locs cells slots lsr hR hl w => lv_lrem hexec hb hd hy (w lsr hl)
    · cases hs
  | ineg =>
    simp [ax_ok0] at hk; subst hk
    simp only [ax_stp] at hs
    split at hs
    · exact ax_stay (kk _ _ _ hs) fun H locs cells slots lsr hR hl w => lv_ineg hexec hb hd (w lsr hl)
    · cases hs
  | lneg =>
    simp [ax_ok0] at hk; subst hk
    simp only [ax_stp] at hs
    split at hs
    · exact ax_stay (kk _ _ _ hs) fun H locs cells slots lsr hR hl w => lv_lneg hexec hb hd (w lsr hl)
    · cases hs
  | lcmp =>
    simp [ax_ok0] at hk; subst hk
    simp only [ax_stp] at hs
    split at hs
    · exact ax_stay (kk _ _ _ hs) fun H locs cells slots lsr hR hl w => W.lcmp hexec hb hd (w lsr hl)
    · cases hs
  | i2l =>
    simp [ax_ok0] at hk; subst hk
    simp only [ax_stp] at hs
    split at hs
    · exact ax_stay (kk _ _ _ hs) fun H locs cells slots lsr hR hl w => lv_i2l hexec hb hd rfl (w lsr hl)
    · cases hs
  | l2i =>
    simp [ax_ok0] at hk; subst hk
    simp only [ax_stp] at hs
    split at hs
    · exact ax_stay (kk _ _ _ hs) fun H locs cells slots lsr hR hl w => lv_l2i hexec hb hd rfl (w lsr hl)
    · cases hs
  | i2b =>
    simp [ax_ok0] at hk; subst hk
    simp only [ax_stp] at hs
    split at hs
    · exact ax_stay (kk _ _ _ hs) fun H locs cells slots lsr hR hl w => lv_i2b hexec hb hd rfl (w lsr hl)
    · cases hs
  | dup =>
    simp [ax_ok0] at hk; subst hk
    simp only [ax_stp] at hs
    split at hs
    · split at hs
      · rename_i hv
        exact ax_stay (kk _ _ _ hs) fun H locs cells slots lsr hR hl w => lv_dup hexec hb hd (by rw [ax_v_cat]; exact hv) (w lsr hl)
      · cases hs
    · cases hs
  | pop =>
    simp [ax_ok0] at hk; subst hk
    simp only [ax_stp] at hs
    split at hs
    · split at hs
      · rename_i hv
        exact ax_stay (kk _ _ _ hs) fun H locs cells slots lsr hR hl w => lv_pop hexec hb hd (by rw [ax_v_cat]; exact hv) (w lsr hl)
      · cases hs
    · cases hs
  | dup2 =>
    simp [ax_ok0] at hk; subst hk
    simp only [ax_stp] at hs
    split at hs
    · split at hs
      · rename_i hv
        exact ax_stay (kk _ _ _ hs) fun H locs cells slots lsr hR hl w => lv_dup2_2 hexec hb hd (by rw [ax_v_cat]; exact hv) (w lsr hl)
      · rename_i v r hv
        have hv1 : v.category = 1 := (lv_cat v).resolve_right hv
        split at hs
        · split at hs
          · rename_i hw
            exact ax_stay (kk _ _ _ hs) fun H locs cells slots lsr hR hl w => lv_dup2_11 hexec hb hd (by rw [ax_v_cat]; exact hv1) (by rw [ax_v_cat]; exact hw) (w lsr hl)
          · cases hs
        · cases hs
    · cases hs
  | _ => exact absurd hin id
end AXS
