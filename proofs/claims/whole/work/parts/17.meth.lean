/-! the heap only grows -/
section AXM
variable {α : Type} {ls : ax_L} {st : List Value} {h : ax_H} {k : ax_L → List Value → ax_H → Option α} {res : α}
abbrev ax_mo (h h1 : ax_H) : Prop := gN h ≤ gN h1 ∧ gZ h ≤ gZ h1
theorem ax_mo_rf (h : ax_H) : ax_mo h h := ⟨Nat.le_refl _, Nat.le_refl _⟩
theorem ax_mo_pI (h : ax_H) (a k : Nat) (v : Int32) : ax_mo h (pI h a k v) := ⟨Nat.le_refl _, Nat.le_refl _⟩
theorem ax_mo_pL (h : ax_H) (a k : Nat) (v : Int64) : ax_mo h (pL h a k v) := ⟨Nat.le_refl _, Nat.le_refl _⟩
theorem ax_mo_pR (h : ax_H) (a k : Nat) (v : Nat) : ax_mo h (pR h a k v) := ⟨Nat.le_refl _, Nat.le_refl _⟩
theorem ax_mo_nW (h : ax_H) (a k z : Nat) : ax_mo h (nW h a k z) := ⟨Nat.le_succ _, Nat.le_add_right _ _⟩
theorem ax_mo_nG (h : ax_H) (a b n k : Nat) : ax_mo h (nG h a b n k) := ⟨Nat.le_add_right _ _, Nat.le_add_right _ _⟩
theorem ax_mo_rI (h : ax_H) (a : Nat) (f : Nat → Int32) : ax_mo h (rI h a f) := ⟨Nat.le_refl _, Nat.le_refl _⟩
theorem ax_mo_rL (h : ax_H) (a : Nat) (f : Nat → Int64) : ax_mo h (rL h a f) := ⟨Nat.le_refl _, Nat.le_refl _⟩
theorem ax_mo_cl (h : ax_H) (x : Nat) : ax_mo h (rI (nW h 16 (gS h x).2 (gS h x).2) (gN h) (gI h x)) := ⟨Nat.le_succ _, Nat.le_add_right _ _⟩
set_option maxHeartbeats 4000000 in
theorem ax_stp_mono {r : ax_E} (hs : ax_stp r ls st h k = some res) : ∃ ls' st' h1, k ls' st' h1 = some res ∧ ax_mo h h1 := by
  obtain ⟨pc, ins, len, a, b, z⟩ := r
  cases ins <;> simp only [ax_stp, ax_ii, ax_ll, ax_gf, ax_pf, ax_al, ax_as, ax_ln, ax_na, ax_mn, ax_ac, ax_cl, ax_cc] at hs <;> (repeat' (split at hs)) <;>
    first
    | (cases hs; done)
    | exact ⟨_, _, _, hs, ax_mo_rf h⟩
    | exact ⟨_, _, _, hs, ax_mo_pI _ _ _ _⟩
    | exact ⟨_, _, _, hs, ax_mo_pL _ _ _ _⟩
    | exact ⟨_, _, _, hs, ax_mo_pR _ _ _ _⟩
    | exact ⟨_, _, _, hs, ax_mo_nW _ _ _ _⟩
    | exact ⟨_, _, _, hs, ax_mo_nG _ _ _ _ _⟩
    | exact ⟨_, _, _, hs, ax_mo_rI _ _ _⟩
    | exact ⟨_, _, _, hs, ax_mo_rL _ _ _⟩
    | exact ⟨_, _, _, hs, ax_mo_cl _ _⟩
theorem ax_lsw_some {x : Int32} {kt : Nat → Option α} {d : Nat} : ∀ {L : List (Int × Nat)}, ax_lsw x kt L d = some res → ∃ t, kt t = some res
  | [], h => ⟨d, h⟩
  | q :: L, h => by
    unfold ax_lsw at h
    split at h
    · exact ⟨_, h⟩
    · exact ax_lsw_some h
variable {M : Nat → ax_MI} {na : Nat → Nat} {ρ : Value → ax_H → Option α} {E : ax_Env} {C : List ax_E}
set_option maxHeartbeats 4000000 in
theorem ax_ex_mono {hf : ax_H} (hρ : ∀ v h1, ρ v h1 = some res → ax_mo h1 hf) (hE : ∀ r ∈ C, ax_kind r = 8 → ax_Es M E r.2.2.2.1) :
    ∀ (n : Nat) (sfx : List ax_E) (ls : ax_L) (st : List Value) (h : ax_H), (∀ r ∈ sfx, r ∈ C) → ax_ex ρ E na C n sfx ls st h = some res → ax_mo h hf := by
  intro n
  induction n with
  | zero => intro sfx ls st h _ hs; simp [ax_ex] at hs
  | succ n ih =>
    intro sfx ls st h hin hs
    cases sfx with
    | nil => simp [ax_ex] at hs
    | cons r t =>
      have hrC := hin r List.mem_cons_self
      have next : ∀ (ls' : ax_L) (st' : List Value) (h1 : ax_H), ax_ex ρ E na C n t ls' st' h1 = some res → ax_mo h1 hf := fun ls' st' h1 hx => ih t ls' st' h1 (fun q hq => hin q (List.mem_cons_of_mem _ hq)) hx
      have jump : ∀ (tg : Nat) (ls' : ax_L) (st' : List Value) (h1 : ax_H), ax_ex ρ E na C n (ax_to C tg) ls' st' h1 = some res → ax_mo h1 hf := by
        intro tg ls' st' h1 hx
        cases hto : ax_to C tg with
        | nil => rw [hto] at hx; cases n <;> simp [ax_ex] at hx
        | cons r' t' =>
          obtain ⟨g1, g2, g3⟩ := ax_to_in hto
          rw [hto] at hx
          exact ih (r' :: t') ls' st' h1 g2 hx
      unfold ax_ex at hs
      split at hs
      · obtain ⟨ls', st', h1, g1, g2⟩ := ax_stp_mono hs
        have := next _ _ _ g1
        exact ⟨Nat.le_trans g2.1 this.1, Nat.le_trans g2.2 this.2⟩
      · exact jump _ _ _ _ hs
      · split at hs
        · split at hs
          · exact jump _ _ _ _ hs
          · exact next _ _ _ hs
        · cases hs
      · split at hs
        · split at hs
          · exact jump _ _ _ _ hs
          · exact next _ _ _ hs
        · cases hs
      · split at hs
        · split at hs
          · exact jump _ _ _ _ hs
          · exact next _ _ _ hs
        · cases hs
      · split at hs
        · split at hs
          · exact next _ _ _ hs
          · exact jump _ _ _ _ hs
        · cases hs
      · split at hs
        · rcases ax_sw_spec hs with ⟨i, tg, g1, g2, g3⟩ | ⟨g1, g2⟩
          · exact jump _ _ _ _ g3
          · exact jump _ _ _ _ g2
        · cases hs
      · split at hs
        · obtain ⟨tg, g⟩ := ax_lsw_some hs
          exact jump _ _ _ _ g
        · cases hs
      · split at hs
        · split at hs
          · split at hs
            · exact hρ _ _ hs
            · cases hs
          · exact hρ _ _ hs
        · exact hρ _ _ hs
        · exact hρ _ _ hs
        · exact hρ _ _ hs
        · cases hs
      · rename_i k0 k1 k2 k3 k4 k5 k6 k7 k8
        have hk : ax_kind r = 8 := by
          have q : ax_kind r < 10 := by
            unfold ax_kind
            split <;> (try split) <;> decide
          have j0 : ax_kind r ≠ 0 := k0
          have j1 : ax_kind r ≠ 1 := k1
          have j2 : ax_kind r ≠ 2 := k2
          have j3 : ax_kind r ≠ 3 := k3
          have j4 : ax_kind r ≠ 4 := k4
          have j5 : ax_kind r ≠ 5 := k5
          have j6 : ax_kind r ≠ 6 := k6
          have j7 : ax_kind r ≠ 9 := k7
          have j8 : ax_kind r ≠ 7 := k8
          omega
        have hEs := hE r hrC hk
        split at hs
        · obtain ⟨c1, c2, o, h1, hImp, hs⟩ := ax_call_spec hEs hs
          have := next _ _ _ hs
          exact ⟨Nat.le_trans hImp.1 this.1, Nat.le_trans hImp.2.1 this.2⟩
        · split at hs
          · split at hs
            · obtain ⟨c1, c2, o, h1, hImp, hs⟩ := ax_call_spec hEs hs
              have := next _ _ _ hs
              exact ⟨Nat.le_trans hImp.1 this.1, Nat.le_trans hImp.2.1 this.2⟩
            · cases hs
          · cases hs
end AXM
/-! a method's contract out of its run -/
def ax_ρV : Value → ax_H → Option ax_H := fun v h => match v with | .retAddr _ => some h | _ => none
def ax_ρI : Value → ax_H → Option (Int32 × ax_H) := fun v h => match v with | .int x => some (x, h) | _ => none
def ax_ρL : Value → ax_H → Option (Int64 × ax_H) := fun v h => match v with | .long x => some (x, h) | _ => none
def ax_ρR : Value → ax_H → Option (Nat × ax_H) := fun v h => match v with | .ref x => some (x, h) | _ => none
theorem ax_lvargs (X : ax_X) : ∀ (av : List Value) (i : Nat), lv_args i (av.map (ax_v X)) = (lv_args i av).map (ax_q X)
  | [], _ => rfl
  | v :: av, i => by
    simp only [List.map_cons, lv_args, ax_v_cat]
    rw [ax_lvargs X av]
    rfl
theorem ax_lgsl (X : ax_X) (av : List Value) : (lg_sl (av.map (ax_v X))).length = (lg_sl av).length := by
  induction av with
  | nil => rfl
  | cons v av ih =>
    simp only [List.map_cons, lg_sl, List.flatMap_cons, List.length_append, ax_v_cat] at ih ⊢
    rw [ih]
    split <;> rfl
section AXZ
variable {α : Type} {M : Nat → ax_MI} {na : Nat → Nat} {E : ax_Env} {C : List ax_E} {N : Nat} {own : String} {ini : Bool}
/-- all that is asked of a method's rows -/
def ax_Code (M : Nat → ax_MI) (na : Nat → Nat) (E : ax_Env) (C : List ax_E) (N : Nat) (own : String) (ini : Bool) : Prop :=
  (M N).1.cls = own ∧ plainFor (M N).1 = true ∧ (ini = true → (M N).1.name = "<init>") ∧ (∀ r ∈ C, ax_okE M na own (M N).2.1 (M N).2.2.1 (M N).2.2.2.2.2.1 (M N).2.2.2.2.2.2 ini r) ∧ ax_seq C ∧ (∃ r t, C = r :: t ∧ r.1 = 0) ∧ (∀ r ∈ C, ax_kind r = 8 → ¬ (∃ i, r.2.1 = .invokestatic i) → 0 < na r.2.2.2.1) ∧
  (∀ r ∈ C, (r.2.1 = .ireturn → (M N).2.2.2.1 = some .int ∨ ((M N).2.2.2.1 = some .boolean ∧ r.2.2.2.1 = 1)) ∧ (r.2.1 = .lreturn → (M N).2.2.2.1 = some .long) ∧ (r.2.1 = .areturn → ∃ rt, (M N).2.2.2.1 = some rt ∧ ((∃ n, rt = .object n) ∨ ∃ t, rt = .array t)) ∧ (r.2.1 = .return_ → (M N).2.2.2.1 = none))
/-- the common part: from the run to the walk; what a return does is asked for -/
theorem ax_method {res : α} {ρ : Value → ax_H → Option α} (hC : ax_Code M na E C N own ini) (hE : ∀ r ∈ C, ax_kind r = 8 → ax_Es M E r.2.2.2.1) {av : List Value} {h hf : ax_H} {o : Option Value} {n : Nat} (hav : (lg_sl av).length ≤ (M N).2.2.1)
    (hρ : ∀ v h1, ρ v h1 = some res → h1 = hf ∧ o = (match v with | .retAddr _ => none | v => some v))
    (hrun : ax_ex ρ E na C n C (lv_args 0 av) [] h = some res) : ax_Imp M N av h o hf := by
  obtain ⟨hcls, hpl, hini, hok, hsq, ⟨r0, t0, hC0, hpc0⟩, hna, hret⟩ := hC
  have hmo := ax_ex_mono (M := M) (hf := hf) (fun v h1 q => by rw [(hρ v h1 q).1]; exact ax_mo_rf hf) hE n C (lv_args 0 av) [] h (fun _ q => q) hrun
  refine ⟨hmo.1, hmo.2, fun l X => ?_⟩
  refine va_MetF (cc := (M N).2.1) (maxL := (M N).2.2.1) (ret := (M N).2.2.2.1) hpl rfl ?_
  intro p e s m args below meth c s₁ B hml hv
  obtain ⟨rfl, hRep, hK⟩ := hv
  have hx := B.exec
  have hb := B.bytes
  have hr := B.returns
  have hts0 := atoms_spec (ws := Cond.code (M N).1 (M N).2.1 (M N).2.2.1 (M N).2.2.2.1 :: ax_G) B.pre
  have hts : ∀ w ∈ ax_G, w.before (av.map (ax_v X)).toArray s = true := fun w hw => hts0 w (List.mem_cons_of_mem _ hw)
  have hown : s.vm.findClass own = some m.cls := by rw [← hcls]; exact findClass_of_methodNamed B.named
  have hlocks := B.notSynchronized
  have hnm : meth.name = (M N).1.name := (name_of_methodNamed B.named B.method).1
  have hl := lv_entry (av.map (ax_v X)) (n := (M N).2.2.1) (by rw [ax_lgsl]; exact hav)
  rw [lg_entry_eq]
  generalize (lg_sl (av.map (ax_v X)) ++ List.replicate ((M N).2.2.1 - (lg_sl (av.map (ax_v X))).length) Slot.unset).toArray = lsr at hl ⊢
  rw [ax_lvargs] at hl
  have key := ax_ex_ok (X := X) (p := p) (l := l) (e := e) (R := (headSpec (Cond.code (M N).1 (M N).2.1 (M N).2.2.1 (M N).2.2.2.1 :: ax_G) { frames := (M N).2.2.2.2.2.1, cells := gN hf - gN h, slots := gZ hf - gZ h, locals := (M N).2.2.2.2.2.2 }).room) (s := s) (m := m) (args := (av.map (ax_v X)).toArray) (below := below) (meth := meth) (c := c) (Q := MQ below (ax_Qc X o hf) (av.map (ax_v X)).toArray s (gN hf - gN h) (gZ hf - gZ h) (fun q => xB X ≤ q)) (cc := (M N).2.1) (nL := (M N).2.2.1) (n0 := gN h) (z0 := gZ h) (fr := (M N).2.2.2.2.2.1) (lo := (M N).2.2.2.2.2.2) (hf := hf) (ini := ini) (own := own) (M := M) (na := na) (ρ := ρ) (res := res) (E := E) (C := C)
    hx hb hml hts hown hK (by show gN hf ≤ gN h + (gN hf - gN h); omega) (by show gZ hf ≤ gZ h + (gZ hf - gZ h); omega) (fun q => by rw [hnm]; exact hini q) (Nat.le_refl _) (Nat.le_refl _) hE hna hok hsq ?_ n C (lv_args 0 av) [] h (fun _ q => q) hsq hrun
  · obtain ⟨r, t, hCr, hw⟩ := key
    have e1 : r = r0 := by rw [hC0] at hCr; exact (List.cons.inj hCr).1.symm
    subst e1
    rw [hpc0] at hw
    have w := hw.2.2 (Nat.le_refl _) (Nat.le_refl _) s.heap [] lsr hRep (fun _ q => by cases q) hl
    exact W.cs (show 0 = gN h - gN h by omega) (show 0 = gZ h - gZ h by omega) w
  · intro r hrC
    obtain ⟨i1, i2, i3, i4⟩ := hret r hrC
    have hokr := hok r hrC
    refine ⟨fun ls x h1 hi hz hq => ?_, fun ls x h1 hi hq => ?_, fun ls x h1 hi hq => ?_, fun ls h1 hi hq => ?_⟩
    · obtain ⟨rfl, rfl⟩ := hρ _ _ hq
      have hd : decode (M N).2.1 r.1 = .ok (.ireturn, 1) := by
        unfold ax_okE at hokr; rw [hi] at hokr; exact hokr
      refine ⟨Nat.le_refl _, Nat.le_refl _, fun a1 a2 H locs lsr' hR' hlo' hl' => ?_⟩
      rcases i1 hi with hrt | ⟨hrt, hz1⟩
      · exact W.iret (v := x) hx hb (by rw [hr, hrt]) (fun t ht hW => ⟨rfl, by rw [ht]; exact hR'⟩) hlo' hd
      · exact W.zret (v := x) (ty := .boolean) hx hb (by rw [hr, hrt]) (by rcases hz hz1 with rfl | rfl <;> rfl) (fun t ht hW => ⟨rfl, by rw [ht]; exact hR'⟩) hlo' hd
    · obtain ⟨rfl, rfl⟩ := hρ _ _ hq
      have hd : decode (M N).2.1 r.1 = .ok (.lreturn, 1) := by
        unfold ax_okE at hokr; rw [hi] at hokr; exact hokr
      refine ⟨Nat.le_refl _, Nat.le_refl _, fun a1 a2 H locs lsr' hR' hlo' hl' => ?_⟩
      exact W.lret (v := x) hx hb (by rw [hr, i2 hi]) (fun t ht hW => ⟨rfl, by rw [ht]; exact hR'⟩) hlo' hd
    · obtain ⟨rfl, rfl⟩ := hρ _ _ hq
      have hd : decode (M N).2.1 r.1 = .ok (.areturn, 1) := by
        unfold ax_okE at hokr; rw [hi] at hokr; exact hokr
      refine ⟨Nat.le_refl _, Nat.le_refl _, fun a1 a2 H locs lsr' hR' hlo' hl' => ?_⟩
      obtain ⟨rt, hrt, hrt2⟩ := i3 hi
      exact W.aret (v := ax_v X (.ref x)) (rt := rt) hx hb (by rw [hr, hrt]) hrt2 (ax_v_ref_or X x) (fun t ht hW => ⟨rfl, by rw [ht]; exact hR'⟩) hlo' hd
    · obtain ⟨rfl, rfl⟩ := hρ _ _ hq
      have hd : decode (M N).2.1 r.1 = .ok (.return_, 1) := by
        unfold ax_okE at hokr; rw [hi] at hokr; exact hokr
      refine ⟨Nat.le_refl _, Nat.le_refl _, fun a1 a2 H locs lsr' hR' hlo' hl' => ?_⟩
      exact W.vret hx hb (by rw [hr, i4 hi]) (fun t ht hW => ⟨rfl, by rw [ht]; exact hR'⟩) hlo' hd
theorem ax_methI (hC : ax_Code M na E C N own ini) (hE : ∀ r ∈ C, ax_kind r = 8 → ax_Es M E r.2.2.2.1) {av : List Value} {h h' : ax_H} {x : Int32} (hav : (lg_sl av).length ≤ (M N).2.2.1) (hrun : ∃ n, ax_ex ax_ρI E na C n C (lv_args 0 av) [] h = some (x, h')) : ax_Imp M N av h (some (.int x)) h' := by
  obtain ⟨n, hrun⟩ := hrun
  refine ax_method hC hE hav (fun v h1 q => ?_) hrun
  unfold ax_ρI at q
  split at q
  · cases q; exact ⟨rfl, rfl⟩
  · cases q
theorem ax_methL (hC : ax_Code M na E C N own ini) (hE : ∀ r ∈ C, ax_kind r = 8 → ax_Es M E r.2.2.2.1) {av : List Value} {h h' : ax_H} {x : Int64} (hav : (lg_sl av).length ≤ (M N).2.2.1) (hrun : ∃ n, ax_ex ax_ρL E na C n C (lv_args 0 av) [] h = some (x, h')) : ax_Imp M N av h (some (.long x)) h' := by
  obtain ⟨n, hrun⟩ := hrun
  refine ax_method hC hE hav (fun v h1 q => ?_) hrun
  unfold ax_ρL at q
  split at q
  · cases q; exact ⟨rfl, rfl⟩
  · cases q
theorem ax_methR (hC : ax_Code M na E C N own ini) (hE : ∀ r ∈ C, ax_kind r = 8 → ax_Es M E r.2.2.2.1) {av : List Value} {h h' : ax_H} {x : Nat} (hav : (lg_sl av).length ≤ (M N).2.2.1) (hrun : ∃ n, ax_ex ax_ρR E na C n C (lv_args 0 av) [] h = some (x, h')) : ax_Imp M N av h (some (.ref x)) h' := by
  obtain ⟨n, hrun⟩ := hrun
  refine ax_method hC hE hav (fun v h1 q => ?_) hrun
  unfold ax_ρR at q
  split at q
  · cases q; exact ⟨rfl, rfl⟩
  · cases q
theorem ax_methV (hC : ax_Code M na E C N own ini) (hE : ∀ r ∈ C, ax_kind r = 8 → ax_Es M E r.2.2.2.1) {av : List Value} {h h' : ax_H} (hav : (lg_sl av).length ≤ (M N).2.2.1) (hrun : ∃ n, ax_ex ax_ρV E na C n C (lv_args 0 av) [] h = some h') : ax_Imp M N av h none h' := by
  obtain ⟨n, hrun⟩ := hrun
  refine ax_method hC hE hav (fun v h1 q => ?_) hrun
  unfold ax_ρV at q
  split at q
  · cases q; exact ⟨rfl, rfl⟩
  · cases q
end AXZ
