/-! the least solution; and that it is a run -/
section AXP
variable {α : Type} {ρ : Value → ax_H → Option α} {E : ax_Env} {na : Nat → Nat} {C : List ax_E} {res : α}
theorem ax_in1_mono {G G' : ax_K0 α} {n : Nat} {sfx : List ax_E} {ls : ax_L} {st : List Value} {h : ax_H} (hG : ∀ s l t h1 r, G s l t h1 = some r → G' s l t h1 = some r) (hs : ax_in1 G ρ E na C n sfx ls st h = some res) : ax_in1 G' ρ E na C n sfx ls st h = some res := by
  rcases ax_in1_par G n sfx ls st h hs with q | ⟨s, l, t, h1, q1, q2⟩
  · exact q G'
  · exact q2 G' (hG _ _ _ _ _ q1)
theorem ax_out_succ : ∀ (F : Nat) (s : List ax_E) (l : ax_L) (t : List Value) (h1 : ax_H) (r : α), ax_out ρ E na C F s l t h1 = some r → ax_out ρ E na C (F + 1) s l t h1 = some r
  | 0, s, l, t, h1, r, h => by simp [ax_out] at h
  | F + 1, s, l, t, h1, r, h => by
    rw [ax_out] at h ⊢
    exact ax_in1_mono (ax_out_succ F) h
theorem ax_out_add (F : Nat) {s : List ax_E} {l : ax_L} {t : List Value} {h1 : ax_H} {r : α} (h : ax_out ρ E na C F s l t h1 = some r) : ∀ k, ax_out ρ E na C (F + k) s l t h1 = some r
  | 0 => h
  | k + 1 => ax_out_succ (F + k) s l t h1 r (ax_out_add F h k)
theorem ax_out_one {F F' : Nat} {s : List ax_E} {l : ax_L} {t : List Value} {h1 : ax_H} {r r' : α} (h : ax_out ρ E na C F s l t h1 = some r) (h' : ax_out ρ E na C F' s l t h1 = some r') : r = r' := by
  have a := ax_out_add F h F'
  have b := ax_out_add F' h' F
  rw [Nat.add_comm] at b
  exact Option.some.inj (a.symm.trans b)
noncomputable def ax_S (ρ : Value → ax_H → Option α) (E : ax_Env) (na : Nat → Nat) (C : List ax_E) : ax_K0 α := fun s l t h1 =>
  @dite _ (∃ r F, ax_out ρ E na C F s l t h1 = some r) (Classical.propDecidable _) (fun hx => some (Classical.choose hx)) (fun _ => none)
theorem ax_S_some {s : List ax_E} {l : ax_L} {t : List Value} {h1 : ax_H} {r : α} : ax_S ρ E na C s l t h1 = some r ↔ ∃ F, ax_out ρ E na C F s l t h1 = some r := by
  unfold ax_S
  by_cases hx : ∃ r F, ax_out ρ E na C F s l t h1 = some r
  · rw [dif_pos hx]
    obtain ⟨F, hF⟩ := Classical.choose_spec hx
    constructor
    · intro e
      exact ⟨F, by rw [hF]; exact e⟩
    · rintro ⟨F', hF'⟩
      rw [ax_out_one hF hF']
  · rw [dif_neg hx]
    constructor
    · intro e; cases e
    · rintro ⟨F, hF⟩
      exact absurd ⟨r, F, hF⟩ hx
/-- the equation -/
theorem ax_S_eq (s : List ax_E) (l : ax_L) (t : List Value) (h1 : ax_H) : ax_S ρ E na C s l t h1 = ax_in1 (ax_S ρ E na C) ρ E na C 4000 s l t h1 := by
  have one : ∀ r, ax_S ρ E na C s l t h1 = some r → ax_in1 (ax_S ρ E na C) ρ E na C 4000 s l t h1 = some r := by
    intro r h
    obtain ⟨F, hF⟩ := ax_S_some.mp h
    cases F with
    | zero => simp [ax_out] at hF
    | succ F =>
      rw [ax_out] at hF
      exact ax_in1_mono (fun s l t h1 r q => ax_S_some.mpr ⟨F, q⟩) hF
  have two : ∀ r, ax_in1 (ax_S ρ E na C) ρ E na C 4000 s l t h1 = some r → ax_S ρ E na C s l t h1 = some r := by
    intro r h
    rcases ax_in1_par _ 4000 s l t h1 h with q | ⟨s', l', t', h', q1, q2⟩
    · exact ax_S_some.mpr ⟨1, by rw [ax_out]; exact q _⟩
    · obtain ⟨F, hF⟩ := ax_S_some.mp q1
      exact ax_S_some.mpr ⟨F + 1, by rw [ax_out]; exact q2 _ hF⟩
  cases ha : ax_S ρ E na C s l t h1 with
  | some r => exact (one r ha).symm
  | none =>
    cases hb : ax_in1 (ax_S ρ E na C) ρ E na C 4000 s l t h1 with
    | none => rfl
    | some r => rw [two r hb] at ha; cases ha
/-- a run up to marks is a run -/
theorem ax_in1_ex {G : ax_K0 α} (hG : ∀ s l t h1, G s l t h1 = some res → ∃ m, ax_ex ρ E na C m s l t h1 = some res) : ∀ (n : Nat) (sfx : List ax_E) (ls : ax_L) (st : List Value) (h : ax_H), ax_in1 G ρ E na C n sfx ls st h = some res → ∃ m, ax_ex ρ E na C m sfx ls st h = some res := by
  intro n
  induction n with
  | zero => intro sfx ls st h hs; simp [ax_in1] at hs
  | succ n ih =>
    intro sfx ls st h hs
    cases sfx with
    | nil => simp [ax_in1] at hs
    | cons r t =>
      unfold ax_in1 at hs
      split at hs
      · rename_i hk
        split at hs
        · rename_i q hj
          obtain ⟨m, hm⟩ := hG _ _ _ _ hs
          refine ⟨m + 1, ?_⟩
          unfold ax_ex
          rw [hk]
          simp only [ax_stp, hj]
          exact hm
        · rename_i hj
          obtain ⟨ls', st', h1, g1, g2⟩ := ax_stp_par hs
          obtain ⟨m, hm⟩ := ih _ _ _ _ g1
          refine ⟨m + 1, ?_⟩
          unfold ax_ex
          rw [hk]
          exact g2 _ hm
      · rename_i hk
        obtain ⟨m, hm⟩ := ih _ _ _ _ hs
        exact ⟨m + 1, by unfold ax_ex; rw [hk]; exact hm⟩
      · rename_i hk
        split at hs
        · rename_i c off x r' hi
          split at hs
          · rename_i hc
            obtain ⟨m, hm⟩ := ih _ _ _ _ hs
            exact ⟨m + 1, by unfold ax_ex; rw [hk]; simp only [hi, hc, if_true]; exact hm⟩
          · rename_i hc
            obtain ⟨m, hm⟩ := ih _ _ _ _ hs
            exact ⟨m + 1, by unfold ax_ex; rw [hk]; simp only [hi]; rw [if_neg hc]; exact hm⟩
        · cases hs
      · rename_i hk
        split at hs
        · rename_i c off x y r' hi
          split at hs
          · rename_i hc
            obtain ⟨m, hm⟩ := ih _ _ _ _ hs
            exact ⟨m + 1, by unfold ax_ex; rw [hk]; simp only [hi, hc, if_true]; exact hm⟩
          · rename_i hc
            obtain ⟨m, hm⟩ := ih _ _ _ _ hs
            exact ⟨m + 1, by unfold ax_ex; rw [hk]; simp only [hi]; rw [if_neg hc]; exact hm⟩
        · cases hs
      · rename_i hk
        split at hs
        · split at hs
          · rename_i hc
            obtain ⟨m, hm⟩ := ih _ _ _ _ hs
            exact ⟨m + 1, by unfold ax_ex; rw [hk]; simp only; rw [if_pos hc]; exact hm⟩
          · rename_i hc
            obtain ⟨m, hm⟩ := ih _ _ _ _ hs
            exact ⟨m + 1, by unfold ax_ex; rw [hk]; simp only; rw [if_neg hc]; exact hm⟩
        · cases hs
      · rename_i hk
        split at hs
        · split at hs
          · rename_i hc
            obtain ⟨m, hm⟩ := ih _ _ _ _ hs
            exact ⟨m + 1, by unfold ax_ex; rw [hk]; simp only; rw [if_pos hc]; exact hm⟩
          · rename_i hc
            obtain ⟨m, hm⟩ := ih _ _ _ _ hs
            exact ⟨m + 1, by unfold ax_ex; rw [hk]; simp only; rw [if_neg hc]; exact hm⟩
        · cases hs
      · rename_i hk
        split at hs
        · rename_i d lo hi' offs x r' hi
          obtain ⟨tg, g1, g2⟩ := ax_sw_par hs
          obtain ⟨m, hm⟩ := ih _ _ _ _ g1
          exact ⟨m + 1, by unfold ax_ex; rw [hk]; simp only [hi]; exact g2 _ hm⟩
        · cases hs
      · rename_i hk
        split at hs
        · rename_i d ps x r' hi
          obtain ⟨tg, g1, g2⟩ := ax_lsw_par hs
          obtain ⟨m, hm⟩ := ih _ _ _ _ g1
          exact ⟨m + 1, by unfold ax_ex; rw [hk]; simp only [hi]; exact g2 _ hm⟩
        · cases hs
      · rename_i hk
        refine ⟨1, ?_⟩
        unfold ax_ex
        rw [hk]
        exact hs
      · rename_i k0 k1 k2 k3 k4 k5 k6 k7 k8
        have key : ∀ m, ax_ex ρ E na C (m + 1) (r :: t) ls st h = (match r.2.1 with
          | .invokestatic _ => ax_call E r (na r.2.2.2.1) st h (fun st' h' => ax_ex ρ E na C m t ls st' h')
          | _ => (match st.drop (na r.2.2.2.1 - 1) with
            | .ref x :: _ => if ax_rcv h r.2.2.2.2.1 x then ax_call E r (na r.2.2.2.1) st h (fun st' h' => ax_ex ρ E na C m t ls st' h') else none
            | _ => none)) := by
          intro m
          conv => lhs; unfold ax_ex
          split
          · exact absurd ‹_› k0
          · exact absurd ‹_› k1
          · exact absurd ‹_› k2
          · exact absurd ‹_› k3
          · exact absurd ‹_› k4
          · exact absurd ‹_› k5
          · exact absurd ‹_› k6
          · exact absurd ‹_› k7
          · exact absurd ‹_› k8
          · rfl
        split at hs
        · rename_i q hi
          obtain ⟨st', h1, g1, g2⟩ := ax_call_par hs
          obtain ⟨m, hm⟩ := ih _ _ _ _ g1
          exact ⟨m + 1, by rw [key]; simp only [hi]; exact g2 _ hm⟩
        · rename_i hi
          split at hs
          · rename_i x rr hdr
            split at hs
            · rename_i hx
              obtain ⟨st', h1, g1, g2⟩ := ax_call_par hs
              obtain ⟨m, hm⟩ := ih _ _ _ _ g1
              refine ⟨m + 1, ?_⟩
              rw [key]
              split
              · rename_i hj2
                exact absurd hj2 (hi _)
              · rw [hdr]
                simp only
                rw [if_pos hx]
                exact g2 _ hm
            · cases hs
          · cases hs
theorem ax_out_ex : ∀ (F : Nat) (s : List ax_E) (l : ax_L) (t : List Value) (h1 : ax_H), ax_out ρ E na C F s l t h1 = some res → ∃ m, ax_ex ρ E na C m s l t h1 = some res
  | 0, s, l, t, h1, h => by simp [ax_out] at h
  | F + 1, s, l, t, h1, h => by
    rw [ax_out] at h
    exact ax_in1_ex (ax_out_ex F) 4000 s l t h1 h
theorem ax_S_ex {s : List ax_E} {l : ax_L} {t : List Value} {h1 : ax_H} (h : ax_S ρ E na C s l t h1 = some res) : ∃ m, ax_ex ρ E na C m s l t h1 = some res := by
  obtain ⟨F, hF⟩ := ax_S_some.mp h
  exact ax_out_ex F s l t h1 hF
end AXP
