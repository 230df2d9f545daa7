/-! fields -/
section AXF
variable {α : Type} {X : ax_X} {p : Program} {l : Launch} {e : Env} {R : Room} {s : State} {m : MethodId} {args : Array Value} {below : List Frame} {meth : Method} {c : Code} {Q : State → Prop} {cc : ByteArray} {nL n0 z0 : Nat} {hf : ax_H}
variable {pc : Nat} {lsr : Array Slot} {rest : List Value} {H : Heap} {locs : List Loc} {cells slots : Nat} {h : ax_H} {own : String}
theorem ax_gv_fv (X : ax_X) (h : ax_H) (x a b : Nat) : ax_v X (ax_gv h x a b) = ax_fv X h x (ax_ft a b) b := by
  unfold ax_gv ax_fv
  by_cases h1 : ax_ft a b = 1
  · simp [h1, ax_v_long]
  · by_cases h2 : ax_ft a b = 2
    · simp [h2]
    · simp [h1, h2, ax_v_int]
theorem ax_getf (hexec : p.tables.exec = Jvm.exec) (hb : c.code = cc) (hts : ∀ w ∈ ax_G, w.before args s = true) (hown : s.vm.findClass own = some m.cls) (hK : ax_K X s) (hR : ax_Rep X h H) {x a b idx : Nat} (ha : a < 12) (hbn : b < ax_n a) (hk : (gS h x).1 = a)
    (hlink : Cond.fieldLink own idx (ax_T a b).1 (ax_T a b).2.1 (ax_T a b).2.2.1 ∈ ax_G) (hdg : decode cc pc = .ok (.getfield idx, 3))
    (kk : W p l e R s m args below meth c H locs cells slots Q (F0 m (pc + 3) lsr (ax_v X (ax_gv h x a b) :: rest))) : W p l e R s m args below meth c H locs cells slots Q (F0 m pc lsr (ax_v X (.ref x) :: rest)) := by
  rw [ax_v_ref (ax_ne0 hR (by omega))]
  rw [ax_gv_fv] at kk
  have hP : va_P (xC X, xI X) ax_cls [(ax_r X x, .inr (a, (List.range (ax_n a)).map (fun k => ax_fv X h x (ax_ft a k) k)))] H := by
    intro k q hq
    match k, hq with
    | 0, hq =>
      cases hq
      refine ⟨_, ax_cls_at a ha, ?_⟩
      exact t_OB.to (ax_getO hR hk ha) (fun k hk => by simp [vp_V, hk])
    | k + 1, hq => simp at hq
  exact va_get (D := (xC X, xI X)) (cl := ax_cls) (tys := ax_tys X) (ci := a) (C := ax_cn a) (T := ax_T a) (N := ax_n a) hexec hb hts (ax_win a ha) hown hK.1 hP 0 rfl (ax_cls_at a ha) b hbn (hts _ hlink) (fun _ h9 => h9) (v := ax_fv X h x (ax_ft a b) b) (by simp [hbn]) hdg kk
theorem ax_apart (hts : ∀ w ∈ ax_G, w.before args s = true) (hK : ax_K X s) {a : Nat} (ha : a < 12) : ∀ x y, x < ax_n a → y < ax_n a → x ≠ y → (xI X a) x ≠ (xI X a) y :=
  va_apart (own := "") (D := (xC X, xI X)) hts (ax_win a ha) (ax_ty a) (ax_tok a ha) (ax_nok a ha) hK.1 (ax_cls_at a ha)
theorem ax_putf (hexec : p.tables.exec = Jvm.exec) (hb : c.code = cc) (hts : ∀ w ∈ ax_G, w.before args s = true) (hown : s.vm.findClass own = some m.cls) (hK : ax_K X s) (hR : ax_Rep X h H) {x a b idx : Nat} (ha : a < 12) (hbn : b < ax_n a) (hk : (gS h x).1 = a)
    (hlink : Cond.fieldLink own idx (ax_T a b).1 (ax_T a b).2.1 (ax_T a b).2.2.1 ∈ ax_G) (hfin : (ax_T a b).2.2.2 = false ∨ (meth.name = "<init>" ∧ (ax_T a b).1 = own)) {v : Value} (hn : narrow (ax_ty a b) v = v) (hfit : fits (ax_ty a b) v = true) (hdg : decode cc pc = .ok (.putfield idx, 3))
    (kk : ∀ (cell : Cell) (H1 : Heap) (lo : Loc), H[ax_r X x]? = some cell → lo.base = ax_r X x → H1[ax_r X x]? = some (cell.setSlot (xI X a b) v) → H1.size = H.size → (∀ q, q ≠ ax_r X x → H1[q]? = H[q]?) → W p l e R s m args below meth c H1 (locs ++ [lo]) cells slots Q (F0 m (pc + 3) lsr rest)) : W p l e R s m args below meth c H locs cells slots Q (F0 m pc lsr (v :: ax_v X (.ref x) :: rest)) := by
  rw [ax_v_ref (ax_ne0 hR (by omega))]
  obtain ⟨cell, q1, q2, q3, q4⟩ := ax_getO hR hk ha
  obtain ⟨hS, hfc, kC, hkC, hkind⟩ := ax_Kc hK ha
  obtain ⟨cf, kf, fi, f, hi, hsl⟩ := hS b hbn
  have hst := (u_facts hfc hkC (u_lays hts (ax_win a ha) hbn) hi).1
  have hlay := hts _ (ax_win a ha _ (u_in_lay hbn))
  by_cases hff : (ax_T a b).2.2.2 = false
  · unfold u_lay at hlay
    rw [if_neg (by rw [hff]; decide)] at hlay
    have h6 := u_store hfc hkC hkind hlay hi (ax_tok a ha b hbn) hn hfit
    refine W.putK hexec hb (f := f) ⟨hown, hts _ hlink, ⟨_, _, _, hi⟩, hst⟩ (by rw [q2]; exact h6) q1 q3 (by rw [hsl]; exact k2_hasslot (q4 b hbn)) rfl rfl hdg fun H' e1 e2 e3 => ?_
    rw [hsl] at e1 ⊢
    exact kk cell H' _ q1 rfl e1 e2 e3
  · obtain ⟨hin2, hdecl⟩ := hfin.resolve_left hff
    have hft : (ax_T a b).2.2.2 = true := by simpa using hff
    unfold u_lay at hlay
    rw [if_pos hft] at hlay
    have hcf : m.cls = cf := by
      obtain ⟨_, _, c', _, _, _, -, -, hf', -, -, -, hown2, -⟩ := Cond.laysFinal_spec hlay
      have e1 : c' = cf := by have := hi.symm.trans hf'; simp at this; exact this.1.symm
      rw [hdecl] at hown2
      rw [← e1]; exact Option.some.inj (hown.symm.trans hown2)
    have h6 := u_fits hfc hkC hkind (Or.inr hlay) hi (ax_tok a ha b hbn) hn hfit
    refine W.putFinK hexec hb hown (hts _ hlink) hi hst hcf hin2 (by rw [q2]; exact h6) q1 q3 (by rw [hsl]; exact k2_hasslot (q4 b hbn)) rfl rfl hdg fun H' e1 e2 e3 => ?_
    rw [hsl] at e1 ⊢
    exact kk cell H' _ q1 rfl e1 e2 e3
theorem ax_ty0 {a b : Nat} (ha : a < 12) (hb : b < ax_n a) (h : ax_ft a b = 0) : ax_ty a b = .int := by
  have := ax_tyoks a ha b hb
  unfold ax_tyok at this
  rw [h] at this
  split at this <;> simp_all
theorem ax_ty3 {a b : Nat} (ha : a < 12) (hb : b < ax_n a) (h : ax_ft a b = 3) : ax_ty a b = .boolean := by
  have := ax_tyoks a ha b hb
  unfold ax_tyok at this
  rw [h] at this
  split at this <;> simp_all
theorem ax_ty1 {a b : Nat} (ha : a < 12) (hb : b < ax_n a) (h : ax_ft a b = 1) : ax_ty a b = .long := by
  have := ax_tyoks a ha b hb
  unfold ax_tyok at this
  rw [h] at this
  split at this <;> simp_all
theorem ax_ty2 {a b : Nat} (ha : a < 12) (hb : b < ax_n a) (h : ax_ft a b = 2) : (∃ n, ax_ty a b = .object n) ∨ ∃ t, ax_ty a b = .array t := by
  have := ax_tyoks a ha b hb
  unfold ax_tyok at this
  rw [h] at this
  split at this <;> simp_all
theorem ax_ref_fits {X : ax_X} {ty : FieldType} (h : (∃ n, ty = .object n) ∨ ∃ t, ty = .array t) (i : Nat) : narrow ty (ax_v X (.ref i)) = ax_v X (.ref i) ∧ fits ty (ax_v X (.ref i)) = true := by
  rcases h with ⟨n, rfl⟩ | ⟨t, rfl⟩ <;> rcases ax_v_ref_or X i with e | ⟨b, e⟩ <;> rw [e] <;> exact ⟨rfl, rfl⟩
variable {st : List Value} {ls : ax_L} {k : ax_L → List Value → ax_H → Option α} {res : α}
theorem ax_app_base {X : ax_X} {locs : List Loc} {lo : Loc} {x : Nat} (hlo : ∀ l ∈ locs, xB X ≤ l.base) (hx : 64 ≤ x) (hb : lo.base = ax_r X x) : ∀ l ∈ locs ++ [lo], xB X ≤ l.base := by
  intro q hq
  rcases List.mem_append.mp hq with h | h
  · exact hlo q h
  · rw [List.mem_singleton.mp h, hb, ax_r_hi hx]; omega
/-- a store into a cell that is there: the pure heap changes at that cell -/
theorem ax_getf_ok (hexec : p.tables.exec = Jvm.exec) (hb : c.code = cc) (hts : ∀ w ∈ ax_G, w.before args s = true) (hown : s.vm.findClass own = some m.cls) (hK : ax_K X s) {a b idx : Nat} (ha : a < 12) (hbn : b < ax_n a)
    (hlink : Cond.fieldLink own idx (ax_T a b).1 (ax_T a b).2.1 (ax_T a b).2.2.1 ∈ ax_G) (hd : decode cc pc = .ok (.getfield idx, 3))
    (kk : ∀ ls' st' h1, k ls' st' h1 = some res → ax_W X p l e R s m args below meth c nL Q n0 z0 hf (pc + 3) ls' st' h1) (hs : ax_gf a b st h (fun r => k ls r h) = some res) : ax_W X p l e R s m args below meth c nL Q n0 z0 hf pc ls st h := by
  unfold ax_gf at hs
  split at hs
  · split at hs
    · rename_i x r hk
      exact ax_stay (kk _ _ _ hs) fun H locs cells slots lsr hR hl w => ax_getf hexec hb hts hown hK hR ha hbn hk hlink hd (w lsr hl)
    · cases hs
  · cases hs
theorem ax_putf_ok (hexec : p.tables.exec = Jvm.exec) (hb : c.code = cc) (hts : ∀ w ∈ ax_G, w.before args s = true) (hown : s.vm.findClass own = some m.cls) (hK : ax_K X s) {a b idx : Nat} (ha : a < 12) (hbn : b < ax_n a)
    (hlink : Cond.fieldLink own idx (ax_T a b).1 (ax_T a b).2.1 (ax_T a b).2.2.1 ∈ ax_G) (hfin : (ax_T a b).2.2.2 = false ∨ (meth.name = "<init>" ∧ (ax_T a b).1 = own)) (hd : decode cc pc = .ok (.putfield idx, 3))
    (kk : ∀ ls' st' h1, k ls' st' h1 = some res → ax_W X p l e R s m args below meth c nL Q n0 z0 hf (pc + 3) ls' st' h1) (hs : ax_pf a b st h (fun r h1 => k ls r h1) = some res) : ax_W X p l e R s m args below meth c nL Q n0 z0 hf pc ls st h := by
  have hap := ax_apart hts hK ha
  unfold ax_pf at hs
  split at hs
  · rename_i i x r
    split at hs
    · rename_i hk
      have go : ∀ (h0 : ax_ft a b ≠ 1 ∧ ax_ft a b ≠ 2), narrow (ax_ty a b) (.int i) = .int i → fits (ax_ty a b) (.int i) = true → k ls r (pI h x b i) = some res → ax_W X p l e R s m args below meth c nL Q n0 z0 hf pc ls (.int i :: .ref x :: r) h := by
        intro h0 hn hfit hs
        have k1 := kk _ _ _ hs
        refine ⟨k1.1, k1.2.1, fun a1 a2 H locs lsr hR hlo hl => ?_⟩
        refine ax_putf hexec hb hts hown hK hR ha hbn hk hlink hfin (v := .int i) hn hfit hd fun cell H1 lo q1 q2 q3 q4 q5 => ?_
        exact k1.2.2 a1 a2 H1 _ lsr (ax_putI hR hk ha hap hbn h0 q1 q3 q4 q5) (ax_app_base hlo (ax_valid hR (by omega)).1 q2) hl
      split at hs
      · rename_i h0
        exact go (by omega) (by rw [ax_ty0 ha hbn h0]; rfl) (by rw [ax_ty0 ha hbn h0]; rfl) hs
      · split at hs
        · rename_i h3
          split at hs
          · rename_i hi
            exact go (by omega) (by rw [ax_ty3 ha hbn h3]; rcases hi with rfl | rfl <;> rfl) (by rw [ax_ty3 ha hbn h3]; rcases hi with rfl | rfl <;> rfl) hs
          · cases hs
        · cases hs
    · cases hs
  · rename_i i x r
    split at hs
    · rename_i hk
      split at hs
      · rename_i h1
        have k1 := kk _ _ _ hs
        refine ⟨k1.1, k1.2.1, fun a1 a2 H locs lsr hR hlo hl => ?_⟩
        refine ax_putf hexec hb hts hown hK hR ha hbn hk hlink hfin (v := .long i) (by rw [ax_ty1 ha hbn h1]; rfl) (by rw [ax_ty1 ha hbn h1]; rfl) hd fun cell H1 lo q1 q2 q3 q4 q5 => ?_
        exact k1.2.2 a1 a2 H1 _ lsr (ax_putL hR hk ha hap hbn h1 q1 q3 q4 q5) (ax_app_base hlo (ax_valid hR (by omega)).1 q2) hl
      · cases hs
    · cases hs
  · rename_i i x r
    split at hs
    · rename_i hk
      split at hs
      · rename_i h1
        have k1 := kk _ _ _ hs
        refine ⟨k1.1, k1.2.1, fun a1 a2 H locs lsr hR hlo hl => ?_⟩
        have hf2 := ax_ref_fits (X := X) (ax_ty2 ha hbn h1) i
        refine ax_putf hexec hb hts hown hK hR ha hbn hk hlink hfin (v := ax_v X (.ref i)) hf2.1 hf2.2 hd fun cell H1 lo q1 q2 q3 q4 q5 => ?_
        exact k1.2.2 a1 a2 H1 _ lsr (ax_putR hR hk ha hap hbn h1 q1 q3 q4 q5) (ax_app_base hlo (ax_valid hR (by omega)).1 q2) hl
      · cases hs
    · cases hs
  · cases hs
end AXF
