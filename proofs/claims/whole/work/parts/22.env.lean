/-! THE METHODS AS FUNCTIONS: by number, each over those of smaller numbers -/
abbrev ax_T4 : Type := (List Value → ax_H → Option ax_H) × (List Value → ax_H → Option (Int32 × ax_H)) × (List Value → ax_H → Option (Int64 × ax_H)) × (List Value → ax_H → Option (Nat × ax_H))
def ax_none4 : ax_T4 := (fun _ _ => none, fun _ _ => none, fun _ _ => none, fun _ _ => none)
/-- String.length, String.charAt of a constant -/
def ax_text (x : Nat) : String := ((ax_strs.getD (x - 1) ("", 0, "")).2.2)
def ax_strlen (av : List Value) (h : ax_H) : Option (Int32 × ax_H) := match av with
  | [.ref x] => if 1 ≤ x ∧ x ≤ 34 then some (nI (ax_text x).length, h) else none
  | _ => none
def ax_strat (av : List Value) (h : ax_H) : Option (Int32 × ax_H) := match av with
  | [.ref x, .int i] => if 1 ≤ x ∧ x ≤ 34 ∧ ¬ i < 0 ∧ i.toNatClampNeg < (ax_text x).length then some (nI (((ax_text x).toList.map Char.toNat).getD i.toNatClampNeg 0), h) else none
  | _ => none
noncomputable def ax_sem (E : ax_Env) (N : Nat) : ax_T4 :=
  if N = 0 then (fun _ _ => none, ax_strlen, fun _ _ => none, fun _ _ => none)
  else if N = 1 then (fun _ _ => none, ax_strat, fun _ _ => none, fun _ _ => none)
  else (fun av h => if (lg_sl av).length ≤ (ax_M N).2.2.1 then ax_S ax_ρV E ax_nn (ax_rows N) (ax_rows N) (lv_args 0 av) [] h else none,
    fun av h => if (lg_sl av).length ≤ (ax_M N).2.2.1 then ax_S ax_ρI E ax_nn (ax_rows N) (ax_rows N) (lv_args 0 av) [] h else none,
    fun av h => if (lg_sl av).length ≤ (ax_M N).2.2.1 then ax_S ax_ρL E ax_nn (ax_rows N) (ax_rows N) (lv_args 0 av) [] h else none,
    fun av h => if (lg_sl av).length ≤ (ax_M N).2.2.1 then ax_S ax_ρR E ax_nn (ax_rows N) (ax_rows N) (lv_args 0 av) [] h else none)
def ax_env (f : Nat → ax_T4) (N : Nat) : ax_Env := (fun j av h => if j < N then (f j).1 av h else none, fun j av h => if j < N then (f j).2.1 av h else none, fun j av h => if j < N then (f j).2.2.1 av h else none, fun j av h => if j < N then (f j).2.2.2 av h else none)
noncomputable def ax_EE (N : Nat) : ax_T4 := ax_sem (ax_env (fun j => if h : j < N then ax_EE j else ax_none4) N) N
termination_by N
theorem ax_env_eq (N : Nat) : ax_env (fun j => if h : j < N then ax_EE j else ax_none4) N = ax_env ax_EE N := by
  unfold ax_env
  congr 1
  · funext j av h
    by_cases hj : j < N <;> simp [hj]
  · congr 1
    · funext j av h
      by_cases hj : j < N <;> simp [hj]
    · congr 1
      · funext j av h
        by_cases hj : j < N <;> simp [hj]
      · funext j av h
        by_cases hj : j < N <;> simp [hj]
theorem ax_EE_eq (N : Nat) : ax_EE N = ax_sem (ax_env ax_EE N) N := by
  rw [ax_EE, ax_env_eq]
theorem ax_entI {N : Nat} {C : List ax_E} {av : List Value} {h : ax_H} (hN : 2 ≤ N) (hC : ax_rows N = C) (hl : (lg_sl av).length ≤ (ax_M N).2.2.1) : (ax_EE N).2.1 av h = ax_in1 (ax_S ax_ρI (ax_env ax_EE N) ax_nn C) ax_ρI (ax_env ax_EE N) ax_nn C 4000 C (lv_args 0 av) [] h := by
  rw [← ax_S_eq, ax_EE_eq N, ax_sem, if_neg (by omega), if_neg (by omega), ← hC]
  show (if _ then _ else _) = _
  rw [if_pos hl]
theorem ax_entL {N : Nat} {C : List ax_E} {av : List Value} {h : ax_H} (hN : 2 ≤ N) (hC : ax_rows N = C) (hl : (lg_sl av).length ≤ (ax_M N).2.2.1) : (ax_EE N).2.2.1 av h = ax_in1 (ax_S ax_ρL (ax_env ax_EE N) ax_nn C) ax_ρL (ax_env ax_EE N) ax_nn C 4000 C (lv_args 0 av) [] h := by
  rw [← ax_S_eq, ax_EE_eq N, ax_sem, if_neg (by omega), if_neg (by omega), ← hC]
  show (if _ then _ else _) = _
  rw [if_pos hl]
theorem ax_entR {N : Nat} {C : List ax_E} {av : List Value} {h : ax_H} (hN : 2 ≤ N) (hC : ax_rows N = C) (hl : (lg_sl av).length ≤ (ax_M N).2.2.1) : (ax_EE N).2.2.2 av h = ax_in1 (ax_S ax_ρR (ax_env ax_EE N) ax_nn C) ax_ρR (ax_env ax_EE N) ax_nn C 4000 C (lv_args 0 av) [] h := by
  rw [← ax_S_eq, ax_EE_eq N, ax_sem, if_neg (by omega), if_neg (by omega), ← hC]
  show (if _ then _ else _) = _
  rw [if_pos hl]
theorem ax_entV {N : Nat} {C : List ax_E} {av : List Value} {h : ax_H} (hN : 2 ≤ N) (hC : ax_rows N = C) (hl : (lg_sl av).length ≤ (ax_M N).2.2.1) : (ax_EE N).1 av h = ax_in1 (ax_S ax_ρV (ax_env ax_EE N) ax_nn C) ax_ρV (ax_env ax_EE N) ax_nn C 4000 C (lv_args 0 av) [] h := by
  rw [← ax_S_eq, ax_EE_eq N, ax_sem, if_neg (by omega), if_neg (by omega), ← hC]
  show (if _ then _ else _) = _
  rw [if_pos hl]
