/-! FROM THE LAW'S FUNCTION TO THE CLAIM -/
def ax_h0 (L : Nat) (xs : Nat → Int32) : ax_H := (64, 0, (fun a => if a = 40 then (24, L) else (99, 0)), (fun a j => if a = 40 then xs j else 0), (fun _ _ => 0), (fun _ _ => 0))
section AXO
variable {s : State} {args : Array Value}
theorem ax_kn (hts : ∀ w ∈ ax_G, w.before args s = true) (c : Nat) : ∃ q : ClassId × (Nat → Nat), c < 12 → u_Kn s (ax_cn c) (ax_T c) (ax_n c) q.1 q.2 := by
  by_cases hc : c < 12
  · obtain ⟨cC, iS, h⟩ := u_known hts (ax_win c hc) (hts _ (ax_inst c hc))
    exact ⟨(cC, iS), fun _ => h⟩
  · exact ⟨(0, fun _ => 0), fun h => absurd h hc⟩
theorem ax_arT {cA : ClassId} {k : Class} {comp : ClassId} {ty : FieldType} (hk : s.vm.classes[cA]? = some k) (hkind : k.kind = .array comp ty) : ArrOfT s cA ty := fun n z => ⟨fun _ h => (by cases h), k, hk, comp, hkind⟩
theorem ax_tw : Cond.arrayOver (.object "BlackSun$Way") ∈ lw_tbl ∧ Cond.arrayOver (.object "BlackSun$Book") ∈ lw_tbl ∧ Cond.arrayOver (.array .long) ∈ lw_tbl ∧ Cond.castable "[I" "java/lang/Cloneable" ∈ lw_tbl ∧ Cond.laysStatic "java/lang/String" "COMPACT_STRINGS" "Z" ∈ lw_tbl ∧ Cond.laysStatic "jdk/internal/util/Preconditions" "SIOOBE_FORMATTER" "Ljava/util/function/BiFunction;" ∈ lw_tbl ∧ Cond.initialized "java/lang/String" ∈ lw_tbl ∧ Cond.initialized "jdk/internal/util/Preconditions" ∈ lw_tbl := ⟨by decide +kernel, by decide +kernel, by decide +kernel, by decide +kernel, by decide +kernel, by decide +kernel, by decide +kernel, by decide +kernel⟩
theorem ax_tn : ∀ q ∈ ax_nest, Cond.methodLinkNest q.1 q.2.1 q.2.2.1 q.2.2.2 ∈ lw_tbl := by decide +kernel
theorem ax_ar (htl : ∀ w ∈ lw_tbl, w.before args s = true) (k : Nat) : ∃ cA : ClassId, 16 ≤ k → k < 23 → ArrOfT s cA (ax_at k) ∧ va_RA s cA (ax_at k) := by
  by_cases h16 : k = 16
  · subst h16
    obtain ⟨c, k, comp, h1, h2, h3⟩ := Cond.arrayClass_spec (htl _ (List.mem_filter.mp (ax_arr_ok 16 (by omega) (by omega))).1)
    exact ⟨c, fun _ _ => ⟨ax_arT h2 h3, h1⟩⟩
  by_cases h17 : k = 17
  · subst h17
    obtain ⟨c, k, comp, h1, h2, h3⟩ := Cond.arrayClass_spec (htl _ (List.mem_filter.mp (ax_arr_ok 17 (by omega) (by omega))).1)
    exact ⟨c, fun _ _ => ⟨ax_arT h2 h3, h1⟩⟩
  by_cases h18 : k = 18
  · subst h18
    obtain ⟨c, k, comp, h1, h2, h3⟩ := Cond.arrayClass_spec (htl _ (List.mem_filter.mp (ax_arr_ok 18 (by omega) (by omega))).1)
    exact ⟨c, fun _ _ => ⟨ax_arT h2 h3, h1⟩⟩
  by_cases h19 : k = 19
  · subst h19
    obtain ⟨c, k, comp, h1, h2, h3⟩ := Cond.arrayClass_spec (htl _ (List.mem_filter.mp (ax_arr_ok 19 (by omega) (by omega))).1)
    exact ⟨c, fun _ _ => ⟨ax_arT h2 h3, h1⟩⟩
  by_cases h20 : k = 20
  · subst h20
    obtain ⟨comp, c, k, h1, h2, h3, h4, h5⟩ := Cond.arrayOver_spec (htl _ ax_tw.1)
    exact ⟨c, fun _ _ => ⟨ax_arT h3 h4, k, comp, h3, h4, h1, h5⟩⟩
  by_cases h21 : k = 21
  · subst h21
    obtain ⟨comp, c, k, h1, h2, h3, h4, h5⟩ := Cond.arrayOver_spec (htl _ ax_tw.2.1)
    exact ⟨c, fun _ _ => ⟨ax_arT h3 h4, k, comp, h3, h4, h1, h5⟩⟩
  by_cases h22 : k = 22
  · subst h22
    obtain ⟨comp, c, k, h1, h2, h3, h4, h5⟩ := arrayOverA_spec (htl _ ax_tw.2.2.1)
    exact ⟨c, fun _ _ => ⟨ax_arT h3 h4, h5⟩⟩
  exact ⟨0, fun h1 h2 => absurd h1 (by omega)⟩
/-! the String constants -/
def ax_FL : List Cond := flatC (Jvm.Cond.and given_1 narrow_1)
abbrev ax_sv (q : String × Nat × String) : Term := .field (.string q.1 q.2.1) "java/lang/String" "value" "[B"
def ax_seg (q : String × Nat × String) : List Cond := [Cond.exactly (.string q.1 q.2.1) "java/lang/String", Cond.eq (.field (.string q.1 q.2.1) "java/lang/String" "coder" "B") (.int 0), Cond.arrayOf (ax_sv q) .byte, Cond.eq (.length (ax_sv q)) (.int (Int32.ofNat q.2.2.length))] ++ (List.range q.2.2.length).map (fun j => Cond.eq (.elem (ax_sv q) (.int (Int32.ofNat j))) (.int (nI ((q.2.2.toList.map Char.toNat).getD j 0))))
theorem ax_sg0 : (ax_FL.drop 9).take 30 = ax_seg ("BlackSun$Reader", 84, "fit hold check leave hand ") := by decide +kernel
theorem ax_sg1 : (ax_FL.drop 39).take 37 = ax_seg ("BlackSun$Reader", 100, "east north scale turn light bend ") := by decide +kernel
theorem ax_sg2 : (ax_FL.drop 76).take 7 = ax_seg ("BlackSun$Reader", 110, "if ") := by decide +kernel
theorem ax_sg3 : (ax_FL.drop 83).take 8 = ax_seg ("BlackSun$Reader", 134, "not ") := by decide +kernel
theorem ax_sg4 : (ax_FL.drop 91).take 63 = ax_seg ("BlackSun$Reader", 162, "plate island kind heat star bright far x y dx dy week hand ") := by decide +kernel
theorem ax_sg5 : (ax_FL.drop 154).take 8 = ax_seg ("BlackSun$Reader", 149, "and ") := by decide +kernel
theorem ax_sg6 : (ax_FL.drop 162).take 7 = ax_seg ("BlackSun$Reader", 151, "or ") := by decide +kernel
theorem ax_sg7 : (ax_FL.drop 169).take 7 = ax_seg ("BlackSunModel", 358, "fit") := by decide +kernel
theorem ax_sg8 : (ax_FL.drop 176).take 8 = ax_seg ("BlackSunModel", 360, "hold") := by decide +kernel
theorem ax_sg9 : (ax_FL.drop 184).take 9 = ax_seg ("BlackSunModel", 362, "check") := by decide +kernel
theorem ax_sg10 : (ax_FL.drop 193).take 9 = ax_seg ("BlackSunModel", 364, "leave") := by decide +kernel
theorem ax_sg11 : (ax_FL.drop 202).take 8 = ax_seg ("BlackSunModel", 257, "hand") := by decide +kernel
theorem ax_sg12 : (ax_FL.drop 210).take 6 = ax_seg ("BlackSunModel", 366, "if") := by decide +kernel
theorem ax_sg13 : (ax_FL.drop 216).take 7 = ax_seg ("BlackSunModel", 335, "not") := by decide +kernel
theorem ax_sg14 : (ax_FL.drop 223).take 9 = ax_seg ("BlackSunModel", 238, "plate") := by decide +kernel
theorem ax_sg15 : (ax_FL.drop 232).take 10 = ax_seg ("BlackSunModel", 240, "island") := by decide +kernel
theorem ax_sg16 : (ax_FL.drop 242).take 8 = ax_seg ("BlackSunModel", 241, "kind") := by decide +kernel
theorem ax_sg17 : (ax_FL.drop 250).take 8 = ax_seg ("BlackSunModel", 242, "heat") := by decide +kernel
theorem ax_sg18 : (ax_FL.drop 258).take 8 = ax_seg ("BlackSunModel", 243, "star") := by decide +kernel
theorem ax_sg19 : (ax_FL.drop 266).take 10 = ax_seg ("BlackSunModel", 245, "bright") := by decide +kernel
theorem ax_sg20 : (ax_FL.drop 276).take 7 = ax_seg ("BlackSunModel", 246, "far") := by decide +kernel
theorem ax_sg21 : (ax_FL.drop 283).take 5 = ax_seg ("BlackSunModel", 247, "x") := by decide +kernel
theorem ax_sg22 : (ax_FL.drop 288).take 5 = ax_seg ("BlackSunModel", 249, "y") := by decide +kernel
theorem ax_sg23 : (ax_FL.drop 293).take 6 = ax_seg ("BlackSunModel", 251, "dx") := by decide +kernel
theorem ax_sg24 : (ax_FL.drop 299).take 6 = ax_seg ("BlackSunModel", 253, "dy") := by decide +kernel
theorem ax_sg25 : (ax_FL.drop 305).take 8 = ax_seg ("BlackSunModel", 255, "week") := by decide +kernel
theorem ax_sg26 : (ax_FL.drop 313).take 7 = ax_seg ("BlackSunModel", 348, "and") := by decide +kernel
theorem ax_sg27 : (ax_FL.drop 320).take 6 = ax_seg ("BlackSunModel", 350, "or") := by decide +kernel
theorem ax_sg28 : (ax_FL.drop 326).take 8 = ax_seg ("BlackSunModel", 226, "east") := by decide +kernel
theorem ax_sg29 : (ax_FL.drop 334).take 9 = ax_seg ("BlackSunModel", 228, "north") := by decide +kernel
theorem ax_sg30 : (ax_FL.drop 343).take 9 = ax_seg ("BlackSunModel", 230, "scale") := by decide +kernel
theorem ax_sg31 : (ax_FL.drop 352).take 8 = ax_seg ("BlackSunModel", 232, "turn") := by decide +kernel
theorem ax_sg32 : (ax_FL.drop 360).take 9 = ax_seg ("BlackSunModel", 234, "light") := by decide +kernel
theorem ax_sg33 : (ax_FL.drop 369).take 8 = ax_seg ("BlackSunModel", 236, "bend") := by decide +kernel
def ax_sps : List (Nat × Nat) := [(9, 30), (39, 37), (76, 7), (83, 8), (91, 63), (154, 8), (162, 7), (169, 7), (176, 8), (184, 9), (193, 9), (202, 8), (210, 6), (216, 7), (223, 9), (232, 10), (242, 8), (250, 8), (258, 8), (266, 10), (276, 7), (283, 5), (288, 5), (293, 6), (299, 6), (305, 8), (313, 7), (320, 6), (326, 8), (334, 9), (343, 9), (352, 8), (360, 9), (369, 8)]
theorem ax_sg : ∀ i, i < 34 → (ax_FL.drop (ax_sps.getD i (0, 0)).1).take (ax_sps.getD i (0, 0)).2 = ax_seg (ax_strs.getD i ("", 0, "")) := fun i hi =>
  match i, hi with
  | 0, _ => ax_sg0
  | 1, _ => ax_sg1
  | 2, _ => ax_sg2
  | 3, _ => ax_sg3
  | 4, _ => ax_sg4
  | 5, _ => ax_sg5
  | 6, _ => ax_sg6
  | 7, _ => ax_sg7
  | 8, _ => ax_sg8
  | 9, _ => ax_sg9
  | 10, _ => ax_sg10
  | 11, _ => ax_sg11
  | 12, _ => ax_sg12
  | 13, _ => ax_sg13
  | 14, _ => ax_sg14
  | 15, _ => ax_sg15
  | 16, _ => ax_sg16
  | 17, _ => ax_sg17
  | 18, _ => ax_sg18
  | 19, _ => ax_sg19
  | 20, _ => ax_sg20
  | 21, _ => ax_sg21
  | 22, _ => ax_sg22
  | 23, _ => ax_sg23
  | 24, _ => ax_sg24
  | 25, _ => ax_sg25
  | 26, _ => ax_sg26
  | 27, _ => ax_sg27
  | 28, _ => ax_sg28
  | 29, _ => ax_sg29
  | 30, _ => ax_sg30
  | 31, _ => ax_sg31
  | 32, _ => ax_sg32
  | 33, _ => ax_sg33
  | n + 34, h => absurd h (by omega)
def ax_sref (c : Cond) : Bool := match c with | .stringRef .. => true | _ => false
theorem ax_srs : (lw_tbl.filter ax_sref) = ax_strs.map (fun q => Cond.stringRef q.1 q.2.1 q.2.2) := by decide +kernel
theorem ax_sln : ∀ q ∈ ax_strs, q.2.2.length < 2 ^ 31 := by decide +kernel
theorem ax_seg_in {i : Nat} (hi : i < 34) {c : Cond} (hc : c ∈ ax_seg (ax_strs.getD i ("", 0, ""))) : c ∈ ax_FL := by
  rw [← ax_sg i hi] at hc
  exact List.mem_of_mem_drop (List.mem_of_mem_take hc)
theorem ax_swz : Cond.eq (.static "java/lang/String" "COMPACT_STRINGS" "Z") (.int 1) ∈ ax_FL ∧ Cond.isRef (.static "jdk/internal/util/Preconditions" "SIOOBE_FORMATTER" "Ljava/util/function/BiFunction;") ∈ ax_FL := ⟨by decide +kernel, by decide +kernel⟩
theorem ax_stx (htl : ∀ w ∈ lw_tbl, w.before args s = true) (hfl : ∀ w ∈ ax_FL, w.before args s = true) (i : Nat) : ∃ a : Nat, ∀ q, ax_strs[i]? = some q → vk_R q.1 q.2.1 q.2.2 a s ∧ ∃ v : Nat, va_O "java/lang/String" a (fun q => s.heap.size ≤ q) s s.heap ∧ va_OF "java/lang/String" "coder" "B" (.int 0) a (fun q => s.heap.size ≤ q) s s.heap ∧ va_OF "java/lang/String" "value" "[B" (.ref v) a (fun q => s.heap.size ≤ q) s s.heap ∧ va_T .byte v q.2.2.length (fun j => .int (nI ((q.2.2.toList.map Char.toNat).getD j 0))) (fun q => s.heap.size ≤ q) s s.heap := by
  cases hq : ax_strs[i]? with
  | none => exact ⟨0, fun q h => by cases h⟩
  | some q =>
    have hi : i < 34 := (List.getElem?_eq_some_iff.mp hq).1
    have hqd : ax_strs.getD i ("", 0, "") = q := by rw [List.getD_eq_getElem?_getD, hq]; rfl
    have hin : ∀ c, c ∈ ax_seg q → c ∈ ax_FL := fun c hc => ax_seg_in hi (by rw [hqd]; exact hc)
    have w1 := hin _ (List.mem_append_left _ (List.Mem.head _))
    have w2 := hin _ (List.mem_append_left _ (List.Mem.tail _ (List.Mem.head _)))
    have w3 := hin _ (List.mem_append_left _ (List.Mem.tail _ (List.Mem.tail _ (List.Mem.head _))))
    have w4 := hin _ (List.mem_append_left _ (List.Mem.tail _ (List.Mem.tail _ (List.Mem.tail _ (List.Mem.head _)))))
    have w5' : ∀ j, j < q.2.2.length → Cond.eq (.elem (ax_sv q) (.int (Int32.ofNat j))) (.int (nI ((q.2.2.toList.map Char.toNat).getD j 0))) ∈ ax_FL := fun j hj => hin _ (List.mem_append_right _ (List.mem_map.mpr ⟨j, List.mem_range.mpr hj, rfl⟩))
    have w6 : Cond.stringRef q.1 q.2.1 q.2.2 ∈ lw_tbl := (List.mem_filter.mp (by rw [ax_srs]; exact List.mem_map.mpr ⟨q, List.mem_of_getElem? hq, rfl⟩ : Cond.stringRef q.1 q.2.1 q.2.2 ∈ lw_tbl.filter ax_sref)).1
    have w7 : q.2.2.length < 2 ^ 31 := ax_sln q (List.mem_of_getElem? hq)
    obtain ⟨adK, adV, h1, h2⟩ := vk_Sof (s := s) (args := args) (N := 1) (tm := fun _ => .string q.1 q.2.1) (len := [q.2.2.length]) (byt := [(List.range q.2.2.length).map (fun j => nI ((q.2.2.toList.map Char.toNat).getD j 0))]) (A := fun q => s.heap.size ≤ q)
      (fun i hi => by have : i = 0 := by omega
                      subst this; exact w7)
      (fun i hi => hfl _ w1) (fun i hi => hfl _ w2) (fun i hi => hfl _ w3)
      (fun i hi => by have : i = 0 := by omega
                      subst this; exact hfl _ w4)
      (fun i hi j hj => by
        have : i = 0 := by omega
        subst this
        have hj' : j < q.2.2.length := hj
        have e : ([(List.range q.2.2.length).map (fun j => nI ((q.2.2.toList.map Char.toNat).getD j 0))].getD 0 []).getD j 0 = nI ((q.2.2.toList.map Char.toNat).getD j 0) := by
          rw [List.getD_eq_getElem?_getD (l := ([(List.range q.2.2.length).map (fun j => nI ((q.2.2.toList.map Char.toNat).getD j 0))].getD 0 []))]
          show (((List.range q.2.2.length).map (fun j => nI ((q.2.2.toList.map Char.toNat).getD j 0)))[j]?).getD 0 = _
          rw [List.getElem?_map, List.getElem?_range hj']
          rfl
        rw [e]
        exact hfl _ (w5' j hj'))
      (fun i j hi hj hne => absurd (by omega : i = j) hne) (fun a ha hb => absurd ha (by omega))
    refine ⟨adK 0, fun q' hq' => ?_⟩
    cases hq'
    obtain ⟨g1, g2, g3, g4⟩ := h1.1 0 (by omega)
    refine ⟨vk_R.of (htl _ w6) (h2 0 (by omega)), adV 0, g1, g2, g3, ?_⟩
    obtain ⟨cell, k1, k2, k3, k4, k5, k6, k7⟩ := g4
    refine ⟨cell, k1, k2, k3, k4, k5, fun j hj => ?_, k7⟩
    rw [k6 j hj]
    congr 1
    show Value.int ((((List.range q.2.2.length).map (fun j => nI ((q.2.2.toList.map Char.toNat).getD j 0)))).getD j 0) = _
    rw [List.getD_eq_getElem?_getD, List.getElem?_map, List.getElem?_range hj]
    rfl
end AXO
/-- what is to be shown of the law's function -/
def ax_LawOk : Prop := ∀ (L : Nat) (xs : Nat → Int32), L ≤ 3584 → ∃ hf : ax_H, (ax_EE 278).2.1 [.ref 40] (ax_h0 L xs) = some (1, hf) ∧ gN hf ≤ 64 + 600000 ∧ gZ hf ≤ 7000000
set_option maxHeartbeats 4000000 in
theorem ax_start (law : ax_LawOk) {p : Program} {e : Env} {s : State} {m : MethodId} {below : List Frame} {meth : Method} {c : Code} (l : Launch) {b L : Nat} {xs : Nat → Int32} (hL : L ≤ 3584) (C0 : lw_At p s m meth c b L xs) : W p l e room_1 s m #[Value.ref b] below meth c s.heap [] 0 0 (lw_Z below #[Value.ref b] s) (entryFrame m ([Value.ref b] : List Value).toArray 4) := by
  obtain ⟨hx, hb, hr, hml, hown, htl, hX, hbl, hlk, hgv⟩ := C0
  have htg : ∀ w ∈ ax_G, w.before #[.ref b] s = true := fun w hw => htl w (List.mem_filter.mp hw).1
  have hfl : ∀ w ∈ ax_FL, w.before #[.ref b] s = true := flat_of_before _ hgv
  have hA : ∀ a : Nat, a < s.heap.size → ¬ s.heap.size ≤ a := fun a h q => absurd h (by omega)
  let sa : Nat → Nat := fun i => Classical.choose (ax_stx htl hfl i)
  have hsa := fun i => Classical.choose_spec (ax_stx htl hfl i)
  let fc : Nat → ClassId × (Nat → Nat) := fun c => Classical.choose (ax_kn htg c)
  have hfc := fun c => Classical.choose_spec (ax_kn htg c)
  let fr : Nat → ClassId := fun k => Classical.choose (ax_ar htl k)
  have hfr := fun k => Classical.choose_spec (ax_ar htl k)
  let X : ax_X := (s.heap.size, s.heap, (fun a => if a = 40 then b else sa (a - 1)), (fun c => (fc c).1), (fun c => (fc c).2), fr, L, xs)
  have hK : ax_K X s := by
    refine ⟨⟨fun c q hq => ?_, fun k q hq => ?_⟩, fun q hq => va_Nw.of rfl (htl _ (ax_tn q hq)), fun i q hq => ?_, ⟨htl _ ax_tw.1, htl _ ax_tw.2.1, htl _ ax_tw.2.2.1, va_Nw.of rfl (htl _ ax_tw.2.2.2.1)⟩, hX, hbl, by show L < 2 ^ 31; omega, rfl, va_Zof (htl _ ax_tw.2.2.2.2.1) (htl _ ax_tw.2.2.2.2.2.2.1) (va_eqi (hfl _ ax_swz.1)) hA, va_Zqof (htl _ ax_tw.2.2.2.2.2.1) (htl _ ax_tw.2.2.2.2.2.2.2) (hfl _ ax_swz.2) hA⟩
    · have hc : c < 12 := by
        have := (List.getElem?_eq_some_iff.mp hq).1
        rwa [ax_cls_len] at this
      have e := ax_cls_at c hc
      rw [hq] at e
      cases e
      exact hfc c hc
    · have h7 : k < 7 := (List.getElem?_eq_some_iff.mp hq).1
      have e : q = (fr (16 + k), ax_at (16 + k)) := by
        match k, h7 with
        | 0, _ => cases hq; rfl
        | 1, _ => cases hq; rfl
        | 2, _ => cases hq; rfl
        | 3, _ => cases hq; rfl
        | 4, _ => cases hq; rfl
        | 5, _ => cases hq; rfl
        | 6, _ => cases hq; rfl
        | n + 7, h => exact absurd h (by omega)
      rw [e]
      exact hfr (16 + k) (by omega) (by omega)
    · have hi : i < 34 := (List.getElem?_eq_some_iff.mp hq).1
      obtain ⟨h1, v, h2, h3, h4, h5⟩ := hsa i q hq
      have e : xA X (i + 1) = sa i := by
        show (if i + 1 = 40 then b else sa (i + 1 - 1)) = _
        rw [if_neg (by omega)]
      refine ⟨by rw [e]; exact h1, v, ?_⟩
      rw [e]
      exact ⟨h2, h3, h4, h5⟩
  have hRep : ax_Rep X (ax_h0 L xs) s.heap := by
    refine ⟨Nat.le_refl _, rfl, fun a h1 h2 => absurd h2 (by show ¬ a < 64; omega), fun _ _ => rfl, fun a _ h40 => ?_, ?_, fun j _ => ?_, rfl⟩
    · show (if a = 40 then (24, L) else (99, 0)).1 = 99
      rw [if_neg h40]
    · show (if (40 : Nat) = 40 then (24, L) else (99, 0)) = _
      rw [if_pos rfl]
    · show (if (40 : Nat) = 40 then xs j else 0) = _
      rw [if_pos rfl]
  obtain ⟨hf, hrun, hn1, hz1⟩ := law L xs hL
  have hC := ax_chk_ok (E0 := ax_env ax_EE 278) (ax_kck 278 (by omega) (by omega))
  obtain ⟨hcls, hpl, hini, hok, hsq, ⟨r0, t0, hC0, hpc0⟩, hna, hret⟩ := hC
  have hEs : ∀ j, ax_Es ax_M (ax_env ax_EE 278) j := ax_P_Es (fun j hj => ax_P_all j (by omega))
  rw [ax_EE_eq, ax_sem, if_neg (by omega), if_neg (by omega)] at hrun
  replace hrun : (if (lg_sl [Value.ref 40]).length ≤ (ax_M 278).2.2.1 then ax_S ax_ρI (ax_env ax_EE 278) ax_nn (ax_rows 278) (ax_rows 278) (lv_args 0 [Value.ref 40]) [] (ax_h0 L xs) else none) = some (1, hf) := hrun
  rw [if_pos (by decide +kernel)] at hrun
  obtain ⟨n, hrun⟩ := ax_S_ex hrun
  have e40 : ax_v X (.ref 40) = .ref b := by
    rw [ax_v_ref (by decide), ax_r, if_pos (by decide)]
    show Value.ref (if (40 : Nat) = 40 then b else sa (40 - 1)) = _
    rw [if_pos rfl]
  have hl := lv_entry ([Value.ref 40].map (ax_v X)) (n := 4) (by rw [ax_lgsl]; decide)
  have hent : ([Value.ref b] : List Value) = [Value.ref 40].map (ax_v X) := by rw [List.map_cons, e40]; rfl
  rw [show ([Value.ref b] : List Value).toArray = ([Value.ref 40].map (ax_v X)).toArray by rw [hent], lg_entry_eq]
  generalize (lg_sl ([Value.ref 40].map (ax_v X)) ++ List.replicate (4 - (lg_sl ([Value.ref 40].map (ax_v X))).length) Slot.unset).toArray = lsr at hl ⊢
  rw [ax_lvargs] at hl
  have key := ax_ex_ok (X := X) (p := p) (l := l) (e := e) (R := room_1) (s := s) (m := m) (args := #[Value.ref b]) (below := below) (meth := meth) (c := c) (Q := lw_Z below #[Value.ref b] s) (cc := code) (nL := 4) (n0 := 64) (z0 := 0) (fr := (ax_M 278).2.2.2.2.2.1) (lo := (ax_M 278).2.2.2.2.2.2) (hf := hf) (ini := false) (own := ax_on 12) (M := ax_M) (na := ax_nn) (ρ := ax_ρI) (res := (1, hf)) (E := ax_env ax_EE 278) (C := ax_rows 278)
    hx hb hml htg hown hK (by show gN hf ≤ 64 + 600000; exact hn1) (by show gZ hf ≤ 0 + room_1.slots; have hr7 : 7000000 ≤ room_1.slots := (by decide); omega) (fun q => by cases q) (by decide +kernel) (by decide +kernel) (fun r _ _ => hEs _) hna hok hsq ?_ n (ax_rows 278) (lv_args 0 [Value.ref 40]) [] (ax_h0 L xs) (fun _ q => q) hsq hrun
  · obtain ⟨r, t, hCr, hw⟩ := key
    have e1 : r = r0 := by rw [hC0] at hCr; exact (List.cons.inj hCr).1.symm
    subst e1
    rw [hpc0] at hw
    have w := hw.2.2 (Nat.le_refl _) (Nat.le_refl _) s.heap [] lsr hRep (fun _ q => by cases q) hl
    exact W.cs (show 0 = gN (ax_h0 L xs) - 64 from rfl) (show 0 = gZ (ax_h0 L xs) - 0 from rfl) w
  · intro r hrC
    have hokr := hok r hrC
    refine ⟨fun ls x h1 hi hz hq => ?_, fun ls x h1 hi hq => ?_, fun ls x h1 hi hq => ?_, fun ls h1 hi hq => ?_⟩
    · have hq' : some (x, h1) = some ((1 : Int32), hf) := hq
      cases hq'
      have hd : decode code r.1 = .ok (.ireturn, 1) := by
        unfold ax_okE at hokr; rw [hi] at hokr; exact hokr
      refine ⟨Nat.le_refl _, Nat.le_refl _, fun a1 a2 H locs lsr' hR' hlo' hl' => ?_⟩
      refine W.widen (k := 600000) (n := room_1.slots) (by omega) (have hr7 : 7000000 ≤ room_1.slots := (by decide); by omega) (va_forget (fun q hq => hlo' q hq) ?_)
      exact lw_ret hx hb hr hlk hd
    · cases hq
    · cases hq
    · cases hq
