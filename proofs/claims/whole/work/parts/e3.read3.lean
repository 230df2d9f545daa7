/-! the class's test reader: its state; fa_or is of the kit's laws -/
theorem fa_or (a b : Nat) : nI a ||| nI b = nI (a ||| b) := by
  apply Int32.toBitVec_inj.1
  show BitVec.ofNat 32 a ||| BitVec.ofNat 32 b = BitVec.ofNat 32 (a ||| b)
  apply BitVec.eq_of_getLsbD_eq
  intro i hi
  simp [hi]
theorem cd_mk {o v : Nat} (ho : o < 16) (hv : v < 100000) : nI o ||| (nI v <<< ((4 : Int32) &&& 31)) = nI (cdN (o, v)) := by
  rw [pk_shlN _ 4 (by decide) (by omega), fa_or, cdN]
  congr 1
  rw [Nat.or_comm, Nat.mul_comm v, ← Nat.two_pow_add_eq_or_of_lt (show o < 2 ^ 4 by omega)]
  show 2 ^ 4 * v + o = o + 16 * v
  omega
def stk (h : ax_H) (a : Nat) : List Nat → Prop
  | [] => True
  | x :: W => gI h a W.length = nI x ∧ stk h a W
theorem stk_eq {h h' : ax_H} {a : Nat} : ∀ W, (∀ k, k < W.length → gI h' a k = gI h a k) → stk h a W → stk h' a W
  | [], _, _ => trivial
  | x :: W, H, s => ⟨(H W.length (by rw [List.length_cons]; omega)).trans s.1, stk_eq W (fun k hk => H k (by rw [List.length_cons]; omega)) s.2⟩
def RC (h : ax_H) (st p c d : Nat) (W : List Nat) (E : Cd) : Prop := (gI h 93 7 = nI st ∧ gI h 93 3 = nI p ∧ gI h 93 4 = nI c ∧ gI h 93 8 = nI d ∧ gI h 93 9 = nI W.length ∧ gI h 93 11 = nI E.length) ∧ stk h 95 W ∧ stk h 96 (E.map cdN)
def Sy (a k : Nat) : Bool := decide ((a = 93 ∧ (k = 3 ∨ k = 4 ∨ k = 7 ∨ k = 8 ∨ k = 9 ∨ k = 11)) ∨ a = 95 ∨ a = 96)
theorem Sp_y {h h' : ax_H} (q : fr Sp h h') : fr Sy h h' := fr_le q fun a k z => by simp only [Sy, Sp, decide_eq_false_iff_not] at z ⊢; omega
theorem Sy_x {h h' : ax_H} (q : fr Sy h h') : fr Sx h h' := fr_le q fun a k z => by simp only [Sy, Sx, decide_eq_false_iff_not] at z ⊢; omega
theorem RC_Sp {h h' : ax_H} {st p c d : Nat} {W : List Nat} {E : Cd} (r : RC h st p c d W E) (q : fr Sp h h') {p' : Nat} (hp : gI h' 93 3 = nI p') : RC h' st p' c d W E := by
  obtain ⟨⟨r1, r2, r3, r4, r5, r6⟩, r7, r8⟩ := r
  exact ⟨⟨(fr_I q rfl).trans r1, hp, (fr_I q rfl).trans r3, (fr_I q rfl).trans r4, (fr_I q rfl).trans r5, (fr_I q rfl).trans r6⟩, stk_eq W (fun k _ => fr_I q rfl) r7, stk_eq _ (fun k _ => fr_I q rfl) r8⟩
theorem stk_93 {h : ax_H} {a k : Nat} {v : Int32} (ha : ¬ a = 93) {W : List Nat} (s : stk h a W) : stk (pI h 93 k v) a W := stk_eq W (fun j _ => by rw [gI_pI, if_neg (fun z => ha z.1)]) s
theorem RC_st {h : ax_H} {st p c d : Nat} {W : List Nat} {E : Cd} (r : RC h st p c d W E) (st' : Nat) : RC (pI h 93 7 (nI st')) st' p c d W E := by
  obtain ⟨⟨r1, r2, r3, r4, r5, r6⟩, r7, r8⟩ := r
  exact ⟨⟨by rw [gI_pI, if_pos ⟨rfl, rfl⟩], by rw [gI_pI, if_neg (by omega)]; exact r2, by rw [gI_pI, if_neg (by omega)]; exact r3, by rw [gI_pI, if_neg (by omega)]; exact r4, by rw [gI_pI, if_neg (by omega)]; exact r5, by rw [gI_pI, if_neg (by omega)]; exact r6⟩, stk_93 (by omega) r7, stk_93 (by omega) r8⟩
theorem RC_p {h : ax_H} {st p c d : Nat} {W : List Nat} {E : Cd} (r : RC h st p c d W E) (p' : Nat) : RC (pI h 93 3 (nI p')) st p' c d W E := RC_Sp r (fr_pI rfl) (by rw [gI_pI, if_pos ⟨rfl, rfl⟩])
theorem RC_c {h : ax_H} {st p c d : Nat} {W : List Nat} {E : Cd} (r : RC h st p c d W E) (c' : Nat) : RC (pI h 93 4 (nI c')) st p c' d W E := by
  obtain ⟨⟨r1, r2, r3, r4, r5, r6⟩, r7, r8⟩ := r
  exact ⟨⟨by rw [gI_pI, if_neg (by omega)]; exact r1, by rw [gI_pI, if_neg (by omega)]; exact r2, by rw [gI_pI, if_pos ⟨rfl, rfl⟩], by rw [gI_pI, if_neg (by omega)]; exact r4, by rw [gI_pI, if_neg (by omega)]; exact r5, by rw [gI_pI, if_neg (by omega)]; exact r6⟩, stk_93 (by omega) r7, stk_93 (by omega) r8⟩
theorem RC_d {h : ax_H} {st p c d : Nat} {W : List Nat} {E : Cd} (r : RC h st p c d W E) (d' : Nat) : RC (pI h 93 8 (nI d')) st p c d' W E := by
  obtain ⟨⟨r1, r2, r3, r4, r5, r6⟩, r7, r8⟩ := r
  exact ⟨⟨by rw [gI_pI, if_neg (by omega)]; exact r1, by rw [gI_pI, if_neg (by omega)]; exact r2, by rw [gI_pI, if_neg (by omega)]; exact r3, by rw [gI_pI, if_pos ⟨rfl, rfl⟩], by rw [gI_pI, if_neg (by omega)]; exact r5, by rw [gI_pI, if_neg (by omega)]; exact r6⟩, stk_93 (by omega) r7, stk_93 (by omega) r8⟩
/-- the top goes -/
theorem RC_pop {h : ax_H} {st p c d x : Nat} {W : List Nat} {E : Cd} (r : RC h st p c d (x :: W) E) : RC (pI h 93 9 (nI W.length)) st p c d W E := by
  obtain ⟨⟨r1, r2, r3, r4, r5, r6⟩, r7, r8⟩ := r
  exact ⟨⟨by rw [gI_pI, if_neg (by omega)]; exact r1, by rw [gI_pI, if_neg (by omega)]; exact r2, by rw [gI_pI, if_neg (by omega)]; exact r3, by rw [gI_pI, if_neg (by omega)]; exact r4, by rw [gI_pI, if_pos ⟨rfl, rfl⟩], by rw [gI_pI, if_neg (by omega)]; exact r6⟩, stk_93 (by omega) r7.2, stk_93 (by omega) r8⟩
theorem z_step {h : ax_H} (w : ok h) {st p c d : Nat} {W : List Nat} {E : Cd} (r : RC h st p c d W E) (hE : E.length < 400) {o v : Nat} (ho : o < 16) (hv : v < 100000) {o' v' : Int32} (eo : o' = nI o) (ev : v' = nI v) : ∃ h', Rd_step 93 o' v' h = some h' ∧ fr Sy h h' ∧ RC h' st p c d W ((o, v) :: E) := by
  subst eo
  subst ev
  obtain ⟨⟨r1, r2, r3, r4, r5, r6⟩, r7, r8⟩ := r
  have w0 := w
  obtain ⟨wS, wR, wG, wN⟩ := w
  have hle : ¬ (400 : Int32) ≤ nI E.length := fun z => by
    have := (nJ_le (a := 400) (b := E.length) (by omega) (by omega)).mp z
    omega
  have te : (nI E.length).toNatClampNeg = E.length := nJ_n (by omega)
  have ne : ¬ nI E.length < 0 := nJ_nn (by omega)
  refine ⟨pI (pI h 96 E.length (nI (cdN (o, v)))) 93 11 (nI (E.length + 1)), ?_, fr_tr (fr_pI rfl) (fr_pI rfl), ⟨?_, ?_, ?_, ?_, ?_, ?_⟩, ?_, ?_⟩
  · have g11 : gI (pI h 96 E.length (nI (cdN (o, v)))) 93 11 = nI E.length := by rw [gI_pI, if_neg (by omega)]; exact r6
    rw [Rd_step_eq]
    simp only [wS, wR, ↓reduceIte, r6, hle, decide_false, Bool.false_eq_true, ax_in, te, ne, hE, not_false_eq_true, and_self, cd_mk ho hv, gS_pI, g11, nJ_p1]
  · rw [gI_pI, if_neg (by omega), gI_pI, if_neg (by omega)]; exact r1
  · rw [gI_pI, if_neg (by omega), gI_pI, if_neg (by omega)]; exact r2
  · rw [gI_pI, if_neg (by omega), gI_pI, if_neg (by omega)]; exact r3
  · rw [gI_pI, if_neg (by omega), gI_pI, if_neg (by omega)]; exact r4
  · rw [gI_pI, if_neg (by omega), gI_pI, if_neg (by omega)]; exact r5
  · rw [gI_pI, if_pos ⟨rfl, rfl⟩, List.length_cons]
  · exact stk_93 (by omega) (stk_eq W (fun k _ => by rw [gI_pI, if_neg (by omega)]) r7)
  · refine stk_93 (by omega) ?_
    rw [List.map_cons]
    refine ⟨by rw [List.length_map, gI_pI, if_pos ⟨rfl, rfl⟩], stk_eq _ (fun k hk => ?_) r8⟩
    rw [List.length_map] at hk
    rw [gI_pI, if_neg (by omega)]
theorem z_await {h : ax_H} (w : ok h) {st p c d : Nat} {W : List Nat} {E : Cd} (r : RC h st p c d W E) (hW : W.length < 64) (o : Nat) {o' : Int32} (eo : o' = nI o) : ∃ h', Rd_await 93 o' h = some h' ∧ fr Sy h h' ∧ RC h' st p c d (o :: W) E := by
  subst eo
  obtain ⟨⟨r1, r2, r3, r4, r5, r6⟩, r7, r8⟩ := r
  obtain ⟨wS, wR, wG, wN⟩ := w
  have hle : ¬ (64 : Int32) ≤ nI W.length := fun z => by
    have := (nJ_le (a := 64) (b := W.length) (by omega) (by omega)).mp z
    omega
  have te : (nI W.length).toNatClampNeg = W.length := nJ_n (by omega)
  have ne : ¬ nI W.length < 0 := nJ_nn (by omega)
  refine ⟨pI (pI h 95 W.length (nI o)) 93 9 (nI (W.length + 1)), ?_, fr_tr (fr_pI rfl) (fr_pI rfl), ⟨?_, ?_, ?_, ?_, ?_, ?_⟩, ?_, ?_⟩
  · have g9 : gI (pI h 95 W.length (nI o)) 93 9 = nI W.length := by rw [gI_pI, if_neg (by omega)]; exact r5
    rw [Rd_await_eq]
    simp only [wS, wR, ↓reduceIte, r5, hle, decide_false, Bool.false_eq_true, ax_in, te, ne, hW, not_false_eq_true, and_self, gS_pI, g9, nJ_p1]
  · rw [gI_pI, if_neg (by omega), gI_pI, if_neg (by omega)]; exact r1
  · rw [gI_pI, if_neg (by omega), gI_pI, if_neg (by omega)]; exact r2
  · rw [gI_pI, if_neg (by omega), gI_pI, if_neg (by omega)]; exact r3
  · rw [gI_pI, if_neg (by omega), gI_pI, if_neg (by omega)]; exact r4
  · rw [gI_pI, if_pos ⟨rfl, rfl⟩, List.length_cons]
  · rw [gI_pI, if_neg (by omega), gI_pI, if_neg (by omega)]; exact r6
  · refine stk_93 (by omega) ⟨by rw [gI_pI, if_pos ⟨rfl, rfl⟩], stk_eq _ (fun k hk => ?_) r7⟩
    rw [gI_pI, if_neg (by omega)]
  · exact stk_93 (by omega) (stk_eq _ (fun k _ => by rw [gI_pI, if_neg (by omega)]) r8)
/-- a value or a sign more -/
theorem z_count {h : ax_H} (w : ok h) {st p c d : Nat} {W : List Nat} {E : Cd} (r : RC h st p c d W E) (hc : c ≤ 60) (b : Nat) : (c + 1 ≤ 60 → ∃ h', Rd_countOneMore 93 (nI b) h = some (1, h') ∧ fr Sy h h' ∧ RC h' st p (c + 1) d W E) ∧ (¬ c + 1 ≤ 60 → ∃ h', Rd_countOneMore 93 (nI b) h = some (0, h') ∧ flt h h' (1 + 8 * b + 3)) := by
  have r3 := r.1.2.2.1
  have w0 := w
  obtain ⟨wS, wR, wG, wN⟩ := w
  have g4 : gI (pI h 93 4 (nI (c + 1))) 93 4 = nI (c + 1) := by rw [gI_pI, if_pos ⟨rfl, rfl⟩]
  refine ⟨fun q => ⟨pI h 93 4 (nI (c + 1)), ?_, fr_pI rfl, RC_c r (c + 1)⟩, fun q => ⟨pI (pI h 93 4 (nI (c + 1))) 93 1 (nI (1 + 8 * b + 3)), ?_, fr_tr (fr_pI rfl) (fr_pI rfl), by rw [gI_pI, if_pos ⟨rfl, rfl⟩]⟩⟩
  · have z : nI (c + 1) ≤ 60 := (nJ_le (a := c + 1) (b := 60) (by omega) (by omega)).mpr q
    rw [Rd_countOneMore_eq]
    simp only [wS, ↓reduceIte, r3, nJ_p1, gS_pI, g4, z, decide_true]
  · have z : ¬ nI (c + 1) ≤ 60 := fun y => q ((nJ_le (a := c + 1) (b := 60) (by omega) (by omega)).mp y)
    rw [Rd_countOneMore_eq]
    simp only [wS, ↓reduceIte, r3, nJ_p1, gS_pI, g4, z, decide_false, Bool.false_eq_true]
    rw [bnd (z_fail (ok_pI w0 _ _ _) b 3 (c' := 3) rfl)]
    rfl
/-! bind -/
def bdW (op : Nat) : List Nat → Cd → Nat → List Nat × Cd × Nat
  | [], E, d => ([], E, d)
  | x :: W, E, d => if x ≤ op then bdW op W ((x, 0) :: E) (if x = 9 then d - 1 else d) else (x :: W, E, d)
def dpW : List Nat → Nat
  | [] => 0
  | x :: W => (if x = 9 ∨ x = 12 then 1 else 0) + dpW W
theorem z_bind_7 {st p c op : Nat} (ho : op < 16) : ∀ (W : List Nat) (E : Cd) (d : Nat) (h : ax_H), ok h → RC h st p c d W E → E.length + W.length ≤ 399 → W.length ≤ 64 → (∀ x ∈ W, x < 16) → dpW W ≤ d → d ≤ 100 → ∃ h', Rd_bind_7 93 (nI op) (nI W.length - 1) h = some h' ∧ fr Sy h h' ∧ RC h' st p c (bdW op W E d).2.2 (bdW op W E d).1 (bdW op W E d).2.1 := by
  intro W
  induction W with
  | nil =>
    intro E d h w r hl hw hx hd hd2
    refine ⟨h, ?_, fr_rf _ _, r⟩
    rw [Rd_bind_7_eq]
    exact if_pos (by decide)
  | cons x W ih =>
    intro E d h w r hl hw hx hd hd2
    rw [List.length_cons] at hl hw
    have hx0 := hx x List.mem_cons_self
    have r' := r
    obtain ⟨⟨r1, r2, r3, r4, r5, r6⟩, r7, r8⟩ := r
    have w0 := w
    obtain ⟨wS, wR, wG, wN⟩ := w
    have eI : nI (x :: W).length - 1 = nI W.length := by
      rw [List.length_cons, show (1 : Int32) = nI 1 from rfl, nI_sb (by omega), Nat.add_sub_cancel]
    have tj : (nI W.length).toNatClampNeg = W.length := nJ_n (by omega)
    have nj : ¬ nI W.length < 0 := nJ_nn (by omega)
    have hj : W.length < 64 := by omega
    rw [eI]
    by_cases q : x ≤ op
    · have z : ¬ nI op < nI x := by rw [nJ_lt (by omega) (by omega)]; omega
      obtain ⟨h1, s1, s2, s3⟩ := z_step w0 r' (by omega) (o := x) (v := 0) hx0 (by omega) (o' := nI x) (v' := 0) rfl rfl
      have w1 := ok_fr s2 w0
      have s3' := s3
      obtain ⟨⟨u1, u2, u3, u4, u5, u6⟩, u7, u8⟩ := s3
      have e2 : nI W.length + -1 = nI W.length - 1 := by rw [Int32.sub_eq_add_neg]
      have S1 : gS h1 = gS h := fr_S s2
      have R1 : gR h1 = gR h := fr_R s2
      rw [dpW] at hd
      by_cases h9 : x = 9
      · have hd1 : 1 ≤ d := by rw [if_pos (Or.inl h9)] at hd; omega
        have z9 : nI x = 9 := by rw [h9]; rfl
        have rr : RC (pI (pI h1 93 8 (nI (d - 1))) 93 9 (nI W.length)) st p c (d - 1) W ((x, 0) :: E) := RC_pop (RC_d s3' (d - 1))
        obtain ⟨h', v1, v2, v3⟩ := ih ((x, 0) :: E) (d - 1) _ (ok_pI (ok_pI w1 _ _ _) _ _ _) rr (by rw [List.length_cons]; omega) (by omega) (fun y hy => hx y (List.mem_cons_of_mem _ hy)) (by rw [if_pos (Or.inl h9)] at hd; omega) (by omega)
        refine ⟨h', ?_, fr_tr s2 (fr_tr (fr_tr (fr_pI rfl) (fr_pI rfl)) v2), ?_⟩
        · rw [← v1, Rd_bind_7_eq 93 (nI op) (nI W.length) h]
          simp only [nj, decide_false, Bool.false_eq_true, ↓reduceIte, wS, wR, ax_in, tj, hj, not_false_eq_true, and_self, r7.1, z]
          rw [bnd s1]
          simp only [S1, R1, wS, wR, ↓reduceIte, nj, tj, hj, not_false_eq_true, and_self, u7.1, z9, not_true_eq_false, decide_false, Bool.false_eq_true, gS_pI, u4, e2]
          rw [show (1 : Int32) = nI 1 from rfl, nI_sb hd1]
        · rw [bdW, if_pos q, if_pos h9]; exact v3
      · have z9 : ¬ nI x = 9 := by rw [show (9 : Int32) = nI 9 from rfl, nJ_eq (by omega) (by omega)]; exact h9
        have rr : RC (pI h1 93 9 (nI W.length)) st p c d W ((x, 0) :: E) := RC_pop s3'
        obtain ⟨h', v1, v2, v3⟩ := ih ((x, 0) :: E) d _ (ok_pI w1 _ _ _) rr (by rw [List.length_cons]; omega) (by omega) (fun y hy => hx y (List.mem_cons_of_mem _ hy)) (by omega) hd2
        refine ⟨h', ?_, fr_tr s2 (fr_tr (fr_pI rfl) v2), ?_⟩
        · rw [← v1, Rd_bind_7_eq 93 (nI op) (nI W.length) h]
          simp only [nj, decide_false, Bool.false_eq_true, ↓reduceIte, wS, wR, ax_in, tj, hj, not_false_eq_true, and_self, r7.1, z]
          rw [bnd s1]
          simp only [S1, R1, wS, wR, ↓reduceIte, nj, tj, hj, not_false_eq_true, and_self, u7.1, z9, decide_true, e2]
        · rw [bdW, if_pos q, if_neg h9]; exact v3
    · have z : nI op < nI x := (nJ_lt (by omega) (by omega)).mpr (by omega)
      refine ⟨h, ?_, fr_rf _ _, by rw [bdW, if_neg q]; exact r'⟩
      rw [Rd_bind_7_eq]
      simp only [nj, decide_false, Bool.false_eq_true, ↓reduceIte, wS, wR, ax_in, tj, hj, not_false_eq_true, and_self, r7.1, z, decide_true]
theorem z_bind {st p c op d : Nat} (ho : op < 16) {W : List Nat} {E : Cd} {h : ax_H} (w : ok h) (r : RC h st p c d W E) (h1 : E.length + W.length ≤ 399) (h2 : W.length ≤ 64) (h3 : ∀ x ∈ W, x < 16) (h4 : dpW W ≤ d) (h5 : d ≤ 100) {op' : Int32} (eo : op' = nI op) : ∃ h', Rd_bind 93 op' h = some h' ∧ fr Sy h h' ∧ RC h' st p c (bdW op W E d).2.2 (bdW op W E d).1 (bdW op W E d).2.1 := by
  subst eo
  obtain ⟨h', a, b, e⟩ := z_bind_7 ho W E d h w r h1 h2 h3 h4 h5
  refine ⟨h', ?_, b, e⟩
  rw [Rd_bind_eq, if_pos (by obtain ⟨wS, wR, wG, wN⟩ := w; simp only [wS]), r.1.2.2.2.2.1]
  exact a
