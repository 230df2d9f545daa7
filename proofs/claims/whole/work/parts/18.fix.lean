/-! BETWEEN MARKS: the run up to the next mark, and the least solution of the equations -/
section AXI
variable {α : Type}
abbrev ax_K0 (α : Type) : Type := List ax_E → ax_L → List Value → ax_H → Option α
def ax_in1 (G : ax_K0 α) (ρ : Value → ax_H → Option α) (E : ax_Env) (na : Nat → Nat) (C : List ax_E) : Nat → List ax_E → ax_L → List Value → ax_H → Option α
  | 0, _, _, _, _ => none
  | _ + 1, [], _, _, _ => none
  | n + 1, e :: t, ls, st, h =>
    match ax_kind e with
    | 0 => (match e.2.1 with
      | .jsr _ => G t (ax_keep ls 32 e.2.2.2.1) st h
      | _ => ax_stp e ls st h (ax_in1 G ρ E na C n t))
    | 1 => ax_in1 G ρ E na C n (ax_to C e.2.2.2.1) ls st h
    | 2 => (match e.2.1, st with
      | .ifCond c _, .int x :: r => if ax_h1 c x then ax_in1 G ρ E na C n (ax_to C e.2.2.2.1) ls r h else ax_in1 G ρ E na C n t ls r h
      | _, _ => none)
    | 3 => (match e.2.1, st with
      | .if_icmp c _, .int y :: .int x :: r => if ax_h2 c x y then ax_in1 G ρ E na C n (ax_to C e.2.2.2.1) ls r h else ax_in1 G ρ E na C n t ls r h
      | _, _ => none)
    | 4 => (match st with
      | .ref x :: r => if x = 0 then ax_in1 G ρ E na C n (ax_to C e.2.2.2.1) ls r h else ax_in1 G ρ E na C n t ls r h
      | _ => none)
    | 5 => (match st with
      | .ref x :: r => if x = 0 then ax_in1 G ρ E na C n t ls r h else ax_in1 G ρ E na C n (ax_to C e.2.2.2.1) ls r h
      | _ => none)
    | 6 => (match e.2.1, st with
      | .tableswitch d lo _ offs, .int x :: r => ax_sw x (fun tg => ax_in1 G ρ E na C n (ax_to C tg) ls r h) lo (offs.toList.map (fun o => ((e.1 : Int) + o).toNat)) ((e.1 : Int) + d).toNat
      | _, _ => none)
    | 9 => (match e.2.1, st with
      | .lookupswitch d ps, .int x :: r => ax_lsw x (fun tg => ax_in1 G ρ E na C n (ax_to C tg) ls r h) (ps.toList.map (fun q => (q.1, ((e.1 : Int) + q.2).toNat))) ((e.1 : Int) + d).toNat
      | _, _ => none)
    | 7 => (match e.2.1, st with
      | .ireturn, [.int x] => if e.2.2.2.1 = 1 then (if x = 0 ∨ x = 1 then ρ (.int x) h else none) else ρ (.int x) h
      | .lreturn, [.long x] => ρ (.long x) h
      | .areturn, [.ref x] => ρ (.ref x) h
      | .return_, [] => ρ (.retAddr 0) h
      | _, _ => none)
    | _ => (match e.2.1 with
      | .invokestatic _ => ax_call E e (na e.2.2.2.1) st h (fun st' h' => ax_in1 G ρ E na C n t ls st' h')
      | _ => (match st.drop (na e.2.2.2.1 - 1) with
        | .ref x :: _ => if ax_rcv h e.2.2.2.2.1 x then ax_call E e (na e.2.2.2.1) st h (fun st' h' => ax_in1 G ρ E na C n t ls st' h') else none
        | _ => none))
def ax_out (ρ : Value → ax_H → Option α) (E : ax_Env) (na : Nat → Nat) (C : List ax_E) : Nat → ax_K0 α
  | 0 => fun _ _ _ _ => none
  | F + 1 => ax_in1 (ax_out ρ E na C F) ρ E na C 4000
variable {ρ : Value → ax_H → Option α} {E : ax_Env} {na : Nat → Nat} {C : List ax_E} {res : α}
theorem ax_al_par {kd : Nat} {st : List Value} {h : ax_H} {k : List Value → Option α} (hs : ax_al kd st h k = some res) : ∃ st', k st' = some res ∧ ∀ k' : List Value → Option α, k' st' = some res → ax_al kd st h k' = some res := by
  unfold ax_al at hs
  split at hs
  · rename_i j x r
    by_cases hin : ax_in h x kd j
    · rw [if_pos hin] at hs
      exact ⟨_, hs, fun k' q => by unfold ax_al; simp only; rw [if_pos hin]; exact q⟩
    · rw [if_neg hin] at hs; cases hs
  · cases hs
set_option maxHeartbeats 8000000 in
theorem ax_stp_par {ls : ax_L} {st : List Value} {h : ax_H} {k : ax_L → List Value → ax_H → Option α} {r : ax_E} (hs : ax_stp r ls st h k = some res) : ∃ ls' st' h1, k ls' st' h1 = some res ∧ ∀ k' : ax_L → List Value → ax_H → Option α, k' ls' st' h1 = some res → ax_stp r ls st h k' = some res := by
  obtain ⟨pc, ins, len, a, b, z⟩ := r
  cases ins <;> simp only [ax_stp, ax_ii, ax_ll, ax_gf, ax_pf, ax_as, ax_ln, ax_na, ax_mn, ax_ac, ax_cl, ax_cc] at hs ⊢ <;>
    first
    | (obtain ⟨st', g1, g2⟩ := ax_al_par hs; exact ⟨_, _, _, g1, fun k' q => g2 (fun r => k' ls r h) q⟩)
    | ((repeat' (split at hs)) <;>
        first
        | (cases hs; done)
        | exact ⟨_, _, _, hs, fun k' hk' => hk'⟩
        | exact ⟨_, _, _, hs, fun k' hk' => by simp_all⟩)
theorem ax_sw_par {x : Int32} {k : Nat → Option α} {d : Nat} : ∀ {L : List Nat} {v : Int}, ax_sw x k v L d = some res → ∃ t, k t = some res ∧ ∀ k' : Nat → Option α, k' t = some res → ax_sw x k' v L d = some res
  | [], v, h => ⟨d, h, fun _ q => q⟩
  | t :: L, v, h => by
    unfold ax_sw at h
    split at h
    · rename_i hx
      exact ⟨t, h, fun k' q => by unfold ax_sw; rw [if_pos hx]; exact q⟩
    · rename_i hx
      obtain ⟨t', g1, g2⟩ := ax_sw_par h
      exact ⟨t', g1, fun k' q => by unfold ax_sw; rw [if_neg hx]; exact g2 k' q⟩
theorem ax_lsw_par {x : Int32} {k : Nat → Option α} {d : Nat} : ∀ {L : List (Int × Nat)}, ax_lsw x k L d = some res → ∃ t, k t = some res ∧ ∀ k' : Nat → Option α, k' t = some res → ax_lsw x k' L d = some res
  | [], h => ⟨d, h, fun _ q => q⟩
  | q :: L, h => by
    unfold ax_lsw at h
    split at h
    · rename_i hx
      exact ⟨_, h, fun k' q => by unfold ax_lsw; rw [if_pos hx]; exact q⟩
    · rename_i hx
      obtain ⟨t', g1, g2⟩ := ax_lsw_par h
      exact ⟨t', g1, fun k' q => by unfold ax_lsw; rw [if_neg hx]; exact g2 k' q⟩
theorem ax_call_par {e : ax_E} {n : Nat} {st : List Value} {h : ax_H} {k : List Value → ax_H → Option α} (hs : ax_call E e n st h k = some res) : ∃ st' h1, k st' h1 = some res ∧ ∀ k' : List Value → ax_H → Option α, k' st' h1 = some res → ax_call E e n st h k' = some res := by
  unfold ax_call at hs
  split at hs
  · rename_i hc
    split at hs
    · rename_i hz
      obtain ⟨r, g1, g2⟩ := Option.bind_eq_some_iff.mp hs
      exact ⟨_, _, g2, fun k' q => by unfold ax_call; rw [if_pos hc, if_pos hz, g1]; exact q⟩
    · rename_i hz
      split at hs
      · rename_i hz1
        obtain ⟨r, g1, g2⟩ := Option.bind_eq_some_iff.mp hs
        exact ⟨_, _, g2, fun k' q => by unfold ax_call; rw [if_pos hc, if_neg hz, if_pos hz1, g1]; exact q⟩
      · rename_i hz1
        split at hs
        · rename_i hz2
          obtain ⟨r, g1, g2⟩ := Option.bind_eq_some_iff.mp hs
          exact ⟨_, _, g2, fun k' q => by unfold ax_call; rw [if_pos hc, if_neg hz, if_neg hz1, if_pos hz2, g1]; exact q⟩
        · rename_i hz2
          obtain ⟨r, g1, g2⟩ := Option.bind_eq_some_iff.mp hs
          exact ⟨_, _, g2, fun k' q => by unfold ax_call; rw [if_pos hc, if_neg hz, if_neg hz1, if_neg hz2, g1]; exact q⟩
  · cases hs
/-- what a run up to the next mark uses of what comes behind it: nothing, or one point -/
def ax_use (f : ax_K0 α → Option α) (G : ax_K0 α) (res : α) : Prop := (∀ G', f G' = some res) ∨ ∃ s l t h1, G s l t h1 = some res ∧ ∀ G' : ax_K0 α, G' s l t h1 = some res → f G' = some res
theorem ax_use.of {f g : ax_K0 α → Option α} {G : ax_K0 α} (h : ax_use f G res) (hg : ∀ G', f G' = some res → g G' = some res) : ax_use g G res :=
  h.imp (fun q G' => hg G' (q G')) (fun ⟨s, l, t, h1, q1, q2⟩ => ⟨s, l, t, h1, q1, fun G' q => hg G' (q2 G' q)⟩)
set_option maxHeartbeats 8000000 in
theorem ax_in1_par (G : ax_K0 α) : ∀ (n : Nat) (sfx : List ax_E) (ls : ax_L) (st : List Value) (h : ax_H), ax_in1 G ρ E na C n sfx ls st h = some res → ax_use (fun G' => ax_in1 G' ρ E na C n sfx ls st h) G res := by
  intro n
  induction n with
  | zero => intro sfx ls st h hs; simp [ax_in1] at hs
  | succ n ih =>
    intro sfx ls st h hs
    cases sfx with
    | nil => simp [ax_in1] at hs
    | cons r t =>
      unfold ax_in1 at hs
      split at hs
      · rename_i hk
        split at hs
        · rename_i q hj
          exact Or.inr ⟨_, _, _, _, hs, fun G' q' => by unfold ax_in1; rw [hk]; simp only [hj]; exact q'⟩
        · rename_i hj
          obtain ⟨ls', st', h1, g1, g2⟩ := ax_stp_par hs
          refine (ih _ _ _ _ g1).of (fun G' q => ?_)
          unfold ax_in1
          rw [hk]
          simp only
          exact g2 _ q
      · rename_i hk
        exact (ih _ _ _ _ hs).of (fun G' q => by unfold ax_in1; rw [hk]; exact q)
      · rename_i hk
        split at hs
        · rename_i c off x r' hi
          split at hs
          · rename_i hc
            exact (ih _ _ _ _ hs).of (fun G' q => by unfold ax_in1; rw [hk]; simp only [hi, hc, if_true]; exact q)
          · rename_i hc
            exact (ih _ _ _ _ hs).of (fun G' q => by unfold ax_in1; rw [hk]; simp only [hi]; rw [if_neg hc]; exact q)
        · cases hs
      · rename_i hk
        split at hs
        · rename_i c off x y r' hi
          split at hs
          · rename_i hc
            exact (ih _ _ _ _ hs).of (fun G' q => by unfold ax_in1; rw [hk]; simp only [hi, hc, if_true]; exact q)
          · rename_i hc
            exact (ih _ _ _ _ hs).of (fun G' q => by unfold ax_in1; rw [hk]; simp only [hi]; rw [if_neg hc]; exact q)
        · cases hs
      · rename_i hk
        split at hs
        · split at hs
          · rename_i hc
            exact (ih _ _ _ _ hs).of (fun G' q => by unfold ax_in1; rw [hk]; simp only; rw [if_pos hc]; exact q)
          · rename_i hc
            exact (ih _ _ _ _ hs).of (fun G' q => by unfold ax_in1; rw [hk]; simp only; rw [if_neg hc]; exact q)
        · cases hs
      · rename_i hk
        split at hs
        · split at hs
          · rename_i hc
            exact (ih _ _ _ _ hs).of (fun G' q => by unfold ax_in1; rw [hk]; simp only; rw [if_pos hc]; exact q)
          · rename_i hc
            exact (ih _ _ _ _ hs).of (fun G' q => by unfold ax_in1; rw [hk]; simp only; rw [if_neg hc]; exact q)
        · cases hs
      · rename_i hk
        split at hs
        · rename_i d lo hi' offs x r' hi
          obtain ⟨tg, g1, g2⟩ := ax_sw_par hs
          exact (ih _ _ _ _ g1).of (fun G' q => by unfold ax_in1; rw [hk]; simp only [hi]; exact g2 _ q)
        · cases hs
      · rename_i hk
        split at hs
        · rename_i d ps x r' hi
          obtain ⟨tg, g1, g2⟩ := ax_lsw_par hs
          exact (ih _ _ _ _ g1).of (fun G' q => by unfold ax_in1; rw [hk]; simp only [hi]; exact g2 _ q)
        · cases hs
      · rename_i hk
        refine Or.inl (fun G' => ?_)
        unfold ax_in1
        rw [hk]
        exact hs
      · rename_i k0 k1 k2 k3 k4 k5 k6 k7 k8
        have key : ∀ G' : ax_K0 α, ax_in1 G' ρ E na C (n + 1) (r :: t) ls st h = (match r.2.1 with
          | .invokestatic _ => ax_call E r (na r.2.2.2.1) st h (fun st' h' => ax_in1 G' ρ E na C n t ls st' h')
          | _ => (match st.drop (na r.2.2.2.1 - 1) with
            | .ref x :: _ => if ax_rcv h r.2.2.2.2.1 x then ax_call E r (na r.2.2.2.1) st h (fun st' h' => ax_in1 G' ρ E na C n t ls st' h') else none
            | _ => none)) := by
          intro G'
          conv => lhs; unfold ax_in1
          split
          · exact absurd ‹_› k0
          · exact absurd ‹_› k1
          · exact absurd ‹_› k2
          · exact absurd ‹_› k3
          · exact absurd ‹_› k4
          · exact absurd ‹_› k5
          · exact absurd ‹_› k6
          · exact absurd ‹_› k7
          · exact absurd ‹_› k8
          · rfl
        split at hs
        · rename_i q hi
          obtain ⟨st', h1, g1, g2⟩ := ax_call_par hs
          exact (ih _ _ _ _ g1).of (fun G' q => by rw [key]; simp only [hi]; exact g2 _ q)
        · rename_i hi
          split at hs
          · rename_i x rr hdr
            split at hs
            · rename_i hx
              obtain ⟨st', h1, g1, g2⟩ := ax_call_par hs
              refine (ih _ _ _ _ g1).of (fun G' q => ?_)
              rw [key]
              split
              · rename_i hj2
                exact absurd hj2 (hi _)
              · rw [hdr]
                simp only
                rw [if_pos hx]
                exact g2 _ q
            · cases hs
          · cases hs
end AXI
