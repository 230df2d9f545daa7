/-! EVERY METHOD IS WHAT ITS FUNCTION SAYS -/
def ax_P (N : Nat) : Prop := (∀ av h h', (ax_EE N).1 av h = some h' → ax_Imp ax_M N av h none h') ∧ (∀ av h x h', (ax_EE N).2.1 av h = some (x, h') → ax_Imp ax_M N av h (some (.int x)) h') ∧ (∀ av h x h', (ax_EE N).2.2.1 av h = some (x, h') → ax_Imp ax_M N av h (some (.long x)) h') ∧ (∀ av h x h', (ax_EE N).2.2.2 av h = some (x, h') → ax_Imp ax_M N av h (some (.ref x)) h')
theorem ax_P_Es {K : Nat} (h : ∀ j, j < K → ax_P j) (j : Nat) : ax_Es ax_M (ax_env ax_EE K) j := by
  by_cases hj : j < K
  · obtain ⟨h1, h2, h3, h4⟩ := h j hj
    refine ⟨fun av g g' q => h1 av g g' ?_, fun av g x g' q => h2 av g x g' ?_, fun av g x g' q => h3 av g x g' ?_, fun av g x g' q => h4 av g x g' ?_⟩ <;>
    · simp only [ax_env, hj, if_true] at q; exact q
  · refine ⟨fun av g g' q => ?_, fun av g x g' q => ?_, fun av g x g' q => ?_, fun av g x g' q => ?_⟩ <;>
    · simp only [ax_env, hj, if_false] at q; cases q
theorem ax_P_all (N : Nat) : N < 279 → ax_P N := by
  induction N using Nat.strongRecOn with
  | ind N ih =>
    intro hN
    have hEs : ∀ j, ax_Es ax_M (ax_env ax_EE N) j := ax_P_Es (fun j hj => ih j hj (by omega))
    by_cases h0 : N = 0
    · subst h0
      have e : ax_EE 0 = (fun _ _ => none, ax_strlen, fun _ _ => none, fun _ _ => none) := by rw [ax_EE_eq, ax_sem, if_pos rfl]
      refine ⟨fun av g g' q => ?_, fun av g x g' q => ?_, fun av g x g' q => ?_, fun av g x g' q => ?_⟩ <;> rw [e] at q
      · cases q
      · exact ax_strlen_ok q
      · cases q
      · cases q
    by_cases h1 : N = 1
    · subst h1
      have e : ax_EE 1 = (fun _ _ => none, ax_strat, fun _ _ => none, fun _ _ => none) := by rw [ax_EE_eq, ax_sem, if_neg (by decide), if_pos rfl]
      refine ⟨fun av g g' q => ?_, fun av g x g' q => ?_, fun av g x g' q => ?_, fun av g x g' q => ?_⟩ <;> rw [e] at q
      · cases q
      · exact ax_strat_ok q
      · cases q
      · cases q
    have hC := fun E0 => ax_chk_ok (E0 := E0) (ax_kck N hN (by omega))
    have hE : ∀ r ∈ ax_rows N, ax_kind r = 8 → ax_Es ax_M (ax_env ax_EE N) r.2.2.2.1 := fun r _ _ => hEs _
    refine ⟨fun av g g' q => ?_, fun av g x g' q => ?_, fun av g x g' q => ?_, fun av g x g' q => ?_⟩
    · rw [ax_EE_eq, ax_sem, if_neg h0, if_neg h1] at q
      replace q : (if (lg_sl av).length ≤ (ax_M N).2.2.1 then ax_S ax_ρV (ax_env ax_EE N) ax_nn (ax_rows N) (ax_rows N) (lv_args 0 av) [] g else none) = some g' := q
      split at q
      · rename_i hl
        exact ax_methV (hC _) hE hl (ax_S_ex q)
      · cases q
    · rw [ax_EE_eq, ax_sem, if_neg h0, if_neg h1] at q
      replace q : (if (lg_sl av).length ≤ (ax_M N).2.2.1 then ax_S ax_ρI (ax_env ax_EE N) ax_nn (ax_rows N) (ax_rows N) (lv_args 0 av) [] g else none) = some (x, g') := q
      split at q
      · rename_i hl
        exact ax_methI (hC _) hE hl (ax_S_ex q)
      · cases q
    · rw [ax_EE_eq, ax_sem, if_neg h0, if_neg h1] at q
      replace q : (if (lg_sl av).length ≤ (ax_M N).2.2.1 then ax_S ax_ρL (ax_env ax_EE N) ax_nn (ax_rows N) (ax_rows N) (lv_args 0 av) [] g else none) = some (x, g') := q
      split at q
      · rename_i hl
        exact ax_methL (hC _) hE hl (ax_S_ex q)
      · cases q
    · rw [ax_EE_eq, ax_sem, if_neg h0, if_neg h1] at q
      replace q : (if (lg_sl av).length ≤ (ax_M N).2.2.1 then ax_S ax_ρR (ax_env ax_EE N) ax_nn (ax_rows N) (ax_rows N) (lv_args 0 av) [] g else none) = some (x, g') := q
      split at q
      · rename_i hl
        exact ax_methR (hC _) hE hl (ax_S_ex q)
      · cases q
