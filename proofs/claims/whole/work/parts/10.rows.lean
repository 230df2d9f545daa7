/-! rows: reading, writing, length -/
section AXA
variable {α : Type} {X : ax_X} {p : Program} {l : Launch} {e : Env} {R : Room} {s : State} {m : MethodId} {args : Array Value} {below : List Frame} {meth : Method} {c : Code} {Q : State → Prop} {cc : ByteArray} {nL n0 z0 : Nat} {hf : ax_H}
variable {pc : Nat} {lsr : Array Slot} {rest : List Value} {H : Heap} {locs : List Loc} {cells slots : Nat} {h : ax_H}
theorem ax_k24 (hR : ax_Rep X h H) {x : Nat} (hk : (gS h x).1 = 24) : x = 40 := by
  by_cases h40 : x = 40
  · exact h40
  · by_cases hv : x < 64 ∨ gN h ≤ x
    · have := hR.2.2.2.2.1 x hv h40; omega
    · rcases hR.2.2.1 x (by omega) (by omega) with ⟨h1, -⟩ | ⟨-, h1, -⟩ <;> omega
theorem ax_nin {j : Int32} {n k : Nat} (h1 : ¬ j < 0) (h2 : j.toNatClampNeg < n) (hk : k = n) : ¬ (j < 0 ∨ k ≤ j.toNatClampNeg) := by
  rintro (h | h)
  · exact h1 h
  · omega
theorem ax_iald (hexec : p.tables.exec = Jvm.exec) (hb : c.code = cc) (hK : ax_K X s) (hR : ax_Rep X h H) {x : Nat} {j : Int32} (hin : ax_in h x 16 j) (hdg : decode cc pc = .ok (.iaload, 1))
    (kk : W p l e R s m args below meth c H locs cells slots Q (F0 m (pc + 1) lsr (.int (gI h x j.toNatClampNeg) :: rest))) : W p l e R s m args below meth c H locs cells slots Q (F0 m pc lsr (.int j :: ax_v X (.ref x) :: rest)) := by
  obtain ⟨h1, h2, h3⟩ := hin
  rw [ax_v_ref (ax_ne0 hR (by omega))]
  exact W.iald (v := .int (gI h x j.toNatClampNeg)) hexec hb (ax_getA hR h1 (by omega) (by omega)) ((ax_Ka hK (c := 16) (by omega) (by omega)).1 _ _) (fun q => by cases q) (ax_nin h2 h3 (arrV_size _ _ _)) (by rw [arrV_read _ _ h3]; rfl) rfl rfl hdg kk
theorem ax_sald (hexec : p.tables.exec = Jvm.exec) (hb : c.code = cc) (hK : ax_K X s) (hR : ax_Rep X h H) {x : Nat} {j : Int32} (hin : ax_in h x 24 j) (hdg : decode cc pc = .ok (.iaload, 1))
    (kk : W p l e R s m args below meth c H locs cells slots Q (F0 m (pc + 1) lsr (.int (gI h x j.toNatClampNeg) :: rest))) : W p l e R s m args below meth c H locs cells slots Q (F0 m pc lsr (.int j :: ax_v X (.ref x) :: rest)) := by
  obtain ⟨h1, h2, h3⟩ := hin
  have e40 := ax_k24 hR h1
  subst e40
  obtain ⟨scr, s1, s2, s3, s4, s5⟩ := hK.2.2.2.2.1
  have eS := hR.2.2.2.2.2.1
  rw [eS] at h3
  have hH : H[ax_r X 40]? = some scr := by
    show H[xA X 40]? = _
    rw [hR.2.2.2.1 _ hK.2.2.2.2.2.1]; exact s1
  rw [hR.2.2.2.2.2.2.1 _ h3] at kk
  rw [ax_v_ref (by decide)]
  exact W.iald (v := .int (xS X j.toNatClampNeg)) hexec hb hH s2 s3 (ax_nin h2 h3 s4) (s5 _ h3) rfl rfl hdg kk
theorem ax_lald (hexec : p.tables.exec = Jvm.exec) (hb : c.code = cc) (hK : ax_K X s) (hR : ax_Rep X h H) {x : Nat} {j : Int32} (hin : ax_in h x 17 j) (hdg : decode cc pc = .ok (.laload, 1))
    (kk : W p l e R s m args below meth c H locs cells slots Q (F0 m (pc + 1) lsr (.long (gL h x j.toNatClampNeg) :: rest))) : W p l e R s m args below meth c H locs cells slots Q (F0 m pc lsr (.int j :: ax_v X (.ref x) :: rest)) := by
  obtain ⟨h1, h2, h3⟩ := hin
  rw [ax_v_ref (ax_ne0 hR (by omega))]
  exact W.lald (v := .long (gL h x j.toNatClampNeg)) hexec hb (ax_getA hR h1 (by omega) (by omega)) ((ax_Ka hK (c := 17) (by omega) (by omega)).1 _ _) (fun q => by cases q) (ax_nin h2 h3 (arrV_size _ _ _)) (by rw [arrV_read _ _ h3]; rfl) rfl rfl hdg kk
theorem ax_bald (hexec : p.tables.exec = Jvm.exec) (hb : c.code = cc) (hK : ax_K X s) (hR : ax_Rep X h H) {x : Nat} {j : Int32} (hin : ax_in h x 18 j) (hdg : decode cc pc = .ok (.baload, 1))
    (kk : W p l e R s m args below meth c H locs cells slots Q (F0 m (pc + 1) lsr (.int (gI h x j.toNatClampNeg) :: rest))) : W p l e R s m args below meth c H locs cells slots Q (F0 m pc lsr (.int j :: ax_v X (.ref x) :: rest)) := by
  obtain ⟨h1, h2, h3⟩ := hin
  rw [ax_v_ref (ax_ne0 hR (by omega))]
  exact W.bald (v := .int (gI h x j.toNatClampNeg)) hexec hb (ax_getA hR h1 (by omega) (by omega)) ((ax_Ka hK (c := 18) (by omega) (by omega)).1 _ _) (fun q => by cases q) (ax_nin h2 h3 (arrV_size _ _ _)) (by rw [arrV_read _ _ h3]; rfl) rfl rfl hdg kk
theorem ax_zald (hexec : p.tables.exec = Jvm.exec) (hb : c.code = cc) (hK : ax_K X s) (hR : ax_Rep X h H) {x : Nat} {j : Int32} (hin : ax_in h x 19 j) (hdg : decode cc pc = .ok (.baload, 1))
    (kk : W p l e R s m args below meth c H locs cells slots Q (F0 m (pc + 1) lsr (.int (gI h x j.toNatClampNeg) :: rest))) : W p l e R s m args below meth c H locs cells slots Q (F0 m pc lsr (.int j :: ax_v X (.ref x) :: rest)) := by
  obtain ⟨h1, h2, h3⟩ := hin
  rw [ax_v_ref (ax_ne0 hR (by omega))]
  exact W.zald (v := .int (gI h x j.toNatClampNeg)) hexec hb (ax_getA hR h1 (by omega) (by omega)) ((ax_Ka hK (c := 19) (by omega) (by omega)).1 _ _) (fun q => by cases q) (ax_nin h2 h3 (arrV_size _ _ _)) (by rw [arrV_read _ _ h3]; rfl) rfl rfl hdg kk
theorem ax_at_ref {kd : Nat} (h1 : 20 ≤ kd) : (ax_at kd).isReference = true := by
  unfold ax_at
  split <;> first | rfl | omega
theorem ax_aald (hexec : p.tables.exec = Jvm.exec) (hb : c.code = cc) (hK : ax_K X s) (hR : ax_Rep X h H) {x kd : Nat} (hkd : 20 ≤ kd) (hkd2 : kd < 23) {j : Int32} (hin : ax_in h x kd j) (hdg : decode cc pc = .ok (.aaload, 1))
    (kk : W p l e R s m args below meth c H locs cells slots Q (F0 m (pc + 1) lsr (ax_v X (.ref (gR h x j.toNatClampNeg)) :: rest))) : W p l e R s m args below meth c H locs cells slots Q (F0 m pc lsr (.int j :: ax_v X (.ref x) :: rest)) := by
  obtain ⟨h1, h2, h3⟩ := hin
  rw [ax_v_ref (ax_ne0 hR (by omega))]
  exact W.aald (v := ax_v X (.ref (gR h x j.toNatClampNeg))) hexec hb (ax_getA hR h1 (by omega) hkd2) ((ax_Ka hK (c := kd) (by omega) hkd2).1 _ _) (ax_at_ref hkd) (fun q => by cases q) (ax_nin h2 h3 (arrV_size _ _ _)) (by rw [arrV_read _ _ h3]; simp [ax_av, show ¬ kd = 17 by omega, show ¬ kd < 20 by omega]) rfl rfl hdg kk
variable {st : List Value} {ls : ax_L} {k : ax_L → List Value → ax_H → Option α} {res : α}
theorem ax_al_ok (hexec : p.tables.exec = Jvm.exec) (hb : c.code = cc) (hK : ax_K X s) {kd : Nat} {ins : Instr} (hd : decode cc pc = .ok (ins, 1)) (hi : (ins = .iaload ∧ (kd = 16 ∨ kd = 24)) ∨ (ins = .laload ∧ kd = 17) ∨ (ins = .baload ∧ (kd = 18 ∨ kd = 19)) ∨ (ins = .aaload ∧ 20 ≤ kd ∧ kd < 23))
    (kk : ∀ ls' st' h1, k ls' st' h1 = some res → ax_W X p l e R s m args below meth c nL Q n0 z0 hf (pc + 1) ls' st' h1) (hs : ax_al kd st h (fun r => k ls r h) = some res) : ax_W X p l e R s m args below meth c nL Q n0 z0 hf pc ls st h := by
  unfold ax_al at hs
  split at hs
  · rename_i j x r
    by_cases hin : ax_in h x kd j
    · rw [if_pos hin] at hs
      refine ax_stay (kk _ _ _ hs) fun H locs cells slots lsr hR hl w => ?_
      have w := w lsr hl
      rcases hi with ⟨rfl, rfl | rfl⟩ | ⟨rfl, rfl⟩ | ⟨rfl, rfl | rfl⟩ | ⟨rfl, h1, h2⟩
      · exact ax_iald hexec hb hK hR hin hd w
      · exact ax_sald hexec hb hK hR hin hd w
      · exact ax_lald hexec hb hK hR hin hd w
      · exact ax_bald hexec hb hK hR hin hd w
      · exact ax_zald hexec hb hK hR hin hd w
      · rw [if_neg (by omega), if_neg (by omega)] at w
        exact ax_aald hexec hb hK hR h1 h2 hin hd w
    · rw [if_neg hin] at hs; cases hs
  · cases hs
theorem ax_alen (hexec : p.tables.exec = Jvm.exec) (hb : c.code = cc) (hK : ax_K X s) (hR : ax_Rep X h H) {x kd : Nat} (hkd : kd = 16 ∨ kd = 24) (hk : (gS h x).1 = kd) (hdg : decode cc pc = .ok (.arraylength, 1))
    (kk : W p l e R s m args below meth c H locs cells slots Q (F0 m (pc + 1) lsr (.int (nI (gS h x).2) :: rest))) : W p l e R s m args below meth c H locs cells slots Q (F0 m pc lsr (ax_v X (.ref x) :: rest)) := by
  rcases hkd with rfl | rfl
  · rw [ax_v_ref (ax_ne0 hR (by omega))]
    exact W.alen (n := nI (gS h x).2) hexec hb (ax_getA hR hk (by omega) (by omega)) ((ax_Ka hK (c := 16) (by omega) (by omega)).1 _ _) (by rw [arrV_size]; rfl) rfl rfl hdg kk
  · have e40 := ax_k24 hR hk
    subst e40
    obtain ⟨scr, s1, s2, s3, s4, s5⟩ := hK.2.2.2.2.1
    have hH : H[ax_r X 40]? = some scr := by
      show H[xA X 40]? = _
      rw [hR.2.2.2.1 _ hK.2.2.2.2.2.1]; exact s1
    rw [ax_v_ref (by decide)]
    exact W.alen (n := nI (gS h 40).2) hexec hb hH s2 (by rw [s4, hR.2.2.2.2.2.1]; rfl) rfl rfl hdg kk
theorem ax_ln_ok (hexec : p.tables.exec = Jvm.exec) (hb : c.code = cc) (hK : ax_K X s) {kd : Nat} (hkd : kd = 16 ∨ kd = 24) (hd : decode cc pc = .ok (.arraylength, 1))
    (kk : ∀ ls' st' h1, k ls' st' h1 = some res → ax_W X p l e R s m args below meth c nL Q n0 z0 hf (pc + 1) ls' st' h1) (hs : ax_ln kd st h (fun r => k ls r h) = some res) : ax_W X p l e R s m args below meth c nL Q n0 z0 hf pc ls st h := by
  unfold ax_ln at hs
  split at hs
  · split at hs
    · rename_i x r hk
      exact ax_stay (kk _ _ _ hs) fun H locs cells slots lsr hR hl w => ax_alen hexec hb hK hR hkd hk hd (w lsr hl)
    · cases hs
  · cases hs
/-- writing -/
theorem ax_aast (hexec : p.tables.exec = Jvm.exec) (hb : c.code = cc) (hK : ax_K X s) (hR : ax_Rep X h H) {x kd v : Nat} {cn : Nat} (hkd : (kd = 20 ∧ cn = 5) ∨ (kd = 21 ∧ cn = 1)) (hv : v = 0 ∨ (gS h v).1 = cn) {j : Int32} (hin : ax_in h x kd j) (hdg : decode cc pc = .ok (.aastore, 1))
    (kk : ∀ (H1 : Heap) (lo : Loc), lo.base = ax_r X x → H1[ax_r X x]? = some ((arrV (xR X kd) (gS h x).2 (ax_av X h x kd)).setSlot j.toNatClampNeg (ax_v X (.ref v))) → H1.size = H.size → (∀ q, q ≠ ax_r X x → H1[q]? = H[q]?) → W p l e R s m args below meth c H1 (locs ++ [lo]) cells slots Q (F0 m (pc + 1) lsr rest)) : W p l e R s m args below meth c H locs cells slots Q (F0 m pc lsr (ax_v X (.ref v) :: .int j :: ax_v X (.ref x) :: rest)) := by
  obtain ⟨h1, h2, h3⟩ := hin
  rw [ax_v_ref (a := x) (ax_ne0 hR (by omega))]
  have hA := ax_Ka hK (c := kd) (by omega) (by omega)
  have hcell := ax_getA hR h1 (by omega) (by omega)
  have hat : ax_at kd = .object (ax_cn cn) := by rcases hkd with ⟨rfl, rfl⟩ | ⟨rfl, rfl⟩ <;> rfl
  by_cases h0 : v = 0
  · subst h0
    rw [ax_v_null] at kk ⊢
    rw [hat] at hA
    exact va_WaastN (C := ax_cn cn) hexec hb hcell (hA.1 _ _) (fun q => by cases q) (ax_nin h2 h3 (arrV_size _ _ _)) rfl rfl hdg (fun H1 e1 e2 e3 => kk H1 _ rfl e1 e2 e3)
  · have hv := hv.resolve_left h0
    rw [ax_v_ref h0] at kk ⊢
    have hcn : cn < 12 := by omega
    obtain ⟨cv, q1, q2, q3, q4⟩ := ax_getO hR hv hcn
    obtain ⟨-, hfc, kC, hkC, -⟩ := ax_Kc hK hcn
    rw [hat] at hA
    obtain ⟨kA, comp, f1, f2, f3, f4⟩ := hA.2
    have hcc : comp = xC X cn := Option.some.inj (f3.symm.trans hfc)
    subst hcc
    exact W.aast (k := kA) (kv := kC) (kcomp := kC) (comp := xC X cn) (t := .object (ax_cn cn)) hexec hb hcell (fun q h => by cases h) (fun q => by cases q) f1 f2 rfl hkC ⟨h2, by rw [arrV_size]; exact h3⟩ q1 (fun q h => by rw [q3] at h; cases h) (by rw [q2]; exact hkC) (by rw [q2]; exact va_asg _ _) rfl rfl hdg (fun H1 e1 e2 e3 => kk H1 _ rfl e1 e2 e3)
theorem ax_as_ok (hexec : p.tables.exec = Jvm.exec) (hb : c.code = cc) (hK : ax_K X s) {kd : Nat} {ins : Instr} (hd : decode cc pc = .ok (ins, 1)) (hi : (ins = .iastore ∧ kd = 16) ∨ (ins = .lastore ∧ kd = 17) ∨ (ins = .bastore ∧ (kd = 18 ∨ kd = 19)) ∨ (ins = .aastore ∧ (kd = 20 ∨ kd = 21)))
    (kk : ∀ ls' st' h1, k ls' st' h1 = some res → ax_W X p l e R s m args below meth c nL Q n0 z0 hf (pc + 1) ls' st' h1) (hs : ax_as kd st h (fun r h1 => k ls r h1) = some res) : ax_W X p l e R s m args below meth c nL Q n0 z0 hf pc ls st h := by
  unfold ax_as at hs
  split at hs
  · rename_i v j x r
    by_cases hin : ax_in h x kd j
    · rw [if_pos hin] at hs
      obtain ⟨h1, h2, h3⟩ := id hin
      rcases hi with ⟨rfl, rfl⟩ | ⟨rfl, rfl⟩ | ⟨rfl, rfl | rfl⟩ | ⟨rfl, rfl | rfl⟩
      · have k1 := kk _ _ _ hs
        refine ⟨k1.1, k1.2.1, fun a1 a2 H locs lsr hR hlo hl => ?_⟩
        simp only [List.map_cons, ax_v_int]
        rw [ax_v_ref (ax_ne0 hR (by omega))]
        exact W.iast hexec hb (ax_getA hR h1 (by omega) (by omega)) ((ax_Ka hK (c := 16) (by omega) (by omega)).1 _ _) (fun q => by cases q) (ax_nin h2 h3 (arrV_size _ _ _)) rfl rfl hd fun H1 e1 e2 e3 => k1.2.2 a1 a2 H1 _ lsr (ax_astI hR h1 (Or.inl rfl) e1 e2 e3) (ax_app_base hlo (ax_valid hR (by omega)).1 rfl) hl
      · simp at hs
      · have k1 := kk _ _ _ hs
        refine ⟨k1.1, k1.2.1, fun a1 a2 H locs lsr hR hlo hl => ?_⟩
        simp only [List.map_cons, ax_v_int]
        rw [ax_v_ref (ax_ne0 hR (by omega))]
        exact W.bast hexec hb (ax_getA hR h1 (by omega) (by omega)) ((ax_Ka hK (c := 18) (by omega) (by omega)).1 _ _) (fun q => by cases q) (ax_nin h2 h3 (arrV_size _ _ _)) rfl rfl hd fun H1 e1 e2 e3 => k1.2.2 a1 a2 H1 _ lsr (ax_astI hR h1 (Or.inr (Or.inl rfl)) e1 e2 e3) (ax_app_base hlo (ax_valid hR (by omega)).1 rfl) hl
      · have k1 := kk _ _ _ hs
        refine ⟨k1.1, k1.2.1, fun a1 a2 H locs lsr hR hlo hl => ?_⟩
        simp only [List.map_cons, ax_v_int]
        rw [ax_v_ref (ax_ne0 hR (by omega))]
        exact W.zast hexec hb (ax_getA hR h1 (by omega) (by omega)) ((ax_Ka hK (c := 19) (by omega) (by omega)).1 _ _) (fun q => by cases q) (ax_nin h2 h3 (arrV_size _ _ _)) rfl rfl hd fun H1 e1 e2 e3 => k1.2.2 a1 a2 H1 _ lsr (ax_astI hR h1 (Or.inr (Or.inr rfl)) e1 e2 e3) (ax_app_base hlo (ax_valid hR (by omega)).1 rfl) hl
      · simp at hs
      · simp at hs
    · rw [if_neg hin] at hs; cases hs
  · rename_i v j x r
    by_cases hin : ax_in h x kd j
    · rw [if_pos hin] at hs
      obtain ⟨h1, h2, h3⟩ := id hin
      split at hs
      · rename_i h17
        subst h17
        have hins : ins = .lastore := by simpa using hi
        subst hins
        have k1 := kk _ _ _ hs
        refine ⟨k1.1, k1.2.1, fun a1 a2 H locs lsr hR hlo hl => ?_⟩
        simp only [List.map_cons, ax_v_int, ax_v_long]
        rw [ax_v_ref (ax_ne0 hR (by omega))]
        exact W.last hexec hb (ax_getA hR h1 (by omega) (by omega)) ((ax_Ka hK (c := 17) (by omega) (by omega)).1 _ _) (fun q => by cases q) (ax_nin h2 h3 (arrV_size _ _ _)) rfl rfl hd fun H1 e1 e2 e3 => k1.2.2 a1 a2 H1 _ lsr (ax_astL hR h1 e1 e2 e3) (ax_app_base hlo (ax_valid hR (by omega)).1 rfl) hl
      · cases hs
    · rw [if_neg hin] at hs; cases hs
  · rename_i v j x r
    by_cases hin : ax_in h x kd j
    · rw [if_pos hin] at hs
      have go : ∀ cn, ((kd = 20 ∧ cn = 5) ∨ (kd = 21 ∧ cn = 1)) → (v = 0 ∨ (gS h v).1 = cn) → ins = .aastore → k ls r (pR h x j.toNatClampNeg v) = some res → ax_W X p l e R s m args below meth c nL Q n0 z0 hf pc ls (.ref v :: .int j :: .ref x :: r) h := by
        intro cn hkd hv hins hs
        subst hins
        have k1 := kk _ _ _ hs
        refine ⟨k1.1, k1.2.1, fun a1 a2 H locs lsr hR hlo hl => ?_⟩
        exact ax_aast hexec hb hK hR hkd hv hin hd fun H1 lo q1 e1 e2 e3 => k1.2.2 a1 a2 H1 _ lsr (ax_astR hR hin.1 (by omega) (by omega) e1 e2 e3) (ax_app_base hlo (ax_valid hR (by have := hin.1; omega)).1 q1) hl
      split at hs
      · rename_i h20
        split at hs
        · rename_i hv
          subst h20
          exact go 5 (Or.inl ⟨rfl, rfl⟩) hv (by simpa using hi) hs
        · cases hs
      · split at hs
        · rename_i h21
          split at hs
          · rename_i hv
            subst h21
            exact go 1 (Or.inr ⟨rfl, rfl⟩) hv (by simpa using hi) hs
          · cases hs
        · cases hs
    · rw [if_neg hin] at hs; cases hs
  · cases hs
end AXA
