set_option maxRecDepth 100000 in
set_option maxHeartbeats 4000000 in
theorem q_11 (x lo hi : Int32) (h : ax_H) : (ax_EE 11).2.1 [.int x, .int lo, .int hi] h = (if decide (x < lo) then some (0, h) else if decide (hi < x) then some (0, h) else some (1, h)) :=
  (ax_entI (N := 11) (C := r_11) (by decide) rfl (Nat.le_of_ble_eq_true rfl)).trans rfl
noncomputable def s_23_3 (a : Nat) (p s hd kn i : Int32) (h : ax_H) : Option (Int32 × ax_H) := ax_S ax_ρI (ax_env ax_EE 23) ax_nn r_23 r_23_3 [(0, .ref a), (1, .int p), (2, .int s), (3, .int hd), (4, .int kn), (5, .int i)] [] h
set_option maxRecDepth 100000 in
set_option maxHeartbeats 4000000 in
theorem q_23 (a : Nat) (p s hd kn : Int32) (h : ax_H) : (ax_EE 23).2.1 [.ref a, .int p, .int s, .int hd, .int kn] h = s_23_3 a p s hd kn 0 h :=
  (ax_entI (N := 23) (C := r_23) (by decide) rfl (Nat.le_of_ble_eq_true rfl)).trans rfl
set_option maxRecDepth 100000 in
set_option maxHeartbeats 4000000 in
theorem q_23_3 (a : Nat) (p s hd kn i : Int32) (h : ax_H) : s_23_3 a p s hd kn i h =
   (if (gS h a).1 = 4 then (if decide (gI h a 0 ≤ i) then some (-1, h) else
     if (gS h a).1 = 4 then if ax_in h (gR h a 1) 16 i then if decide (¬ gI h (gR h a 1) i.toNatClampNeg = p) then s_23_3 a p s hd kn (i + 1) h else 
     if (gS h a).1 = 4 then if ax_in h (gR h a 2) 16 i then if decide (¬ gI h (gR h a 2) i.toNatClampNeg = s) then s_23_3 a p s hd kn (i + 1) h else 
     if (gS h a).1 = 4 then if ax_in h (gR h a 3) 16 i then if decide (¬ gI h (gR h a 3) i.toNatClampNeg = hd) then s_23_3 a p s hd kn (i + 1) h else
     if (gS h a).1 = 4 then ((ax_EE 22).2.1 [.ref a, .int i, .int kn] h).bind (fun r => if decide (r.1 = 0) then s_23_3 a p s hd kn (i + 1) r.2 else some (i, r.2)) else none
     else none else none else none else none else none else none) else none) :=
  (ax_S_eq _ _ _ _).trans rfl
