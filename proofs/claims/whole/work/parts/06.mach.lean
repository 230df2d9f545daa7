/-! THE PURE MACHINE: a row of the code is (pc, instruction, length, a, b, z); a method's code is a list of rows; a mark (.jsr) keeps the locals of a mask -/
abbrev ax_E : Type := Nat × Instr × Nat × Nat × Nat × Int
abbrev ax_L : Type := List (Nat × Value)
def ax_c1 (i : Nat) (l : ax_L) : ax_L := l.filter (fun q => !(q.1 == i) && !(q.1 + 1 == i && q.2.category == 2))
def ax_c2 (i : Nat) (l : ax_L) : ax_L := l.filter (fun q => !(q.1 == i) && (!(q.1 == i + 1) && !(q.1 + 1 == i && q.2.category == 2)))
def ax_get (l : ax_L) (i : Nat) : Option Value := match l with
  | [] => none
  | q :: t => if q.1 == i then some q.2 else ax_get t i
/-- the locals of a mark, in order -/
def ax_keep (l : ax_L) : Nat → Nat → ax_L
  | 0, _ => []
  | n + 1, i => if i.testBit 0 then (match ax_get l (32 - (n + 1)) with
      | some v => (32 - (n + 1), v) :: ax_keep l n (i / 2)
      | none => ax_keep l n (i / 2)) else ax_keep l n (i / 2)
def ax_gv (h : ax_H) (x c k : Nat) : Value := if ax_ft c k = 1 then .long (gL h x k) else if ax_ft c k = 2 then .ref (gR h x k) else .int (gI h x k)
abbrev ax_in (h : ax_H) (x kd : Nat) (j : Int32) : Prop := (gS h x).1 = kd ∧ ¬ j < 0 ∧ j.toNatClampNeg < (gS h x).2
abbrev ax_cp (h : ax_H) (x kd : Nat) (p n : Int32) : Prop := (gS h x).1 = kd ∧ ¬ p < 0 ∧ p.toNatClampNeg + n.toNatClampNeg ≤ (gS h x).2
section
variable {α : Type}
def ax_ii (f : Int32 → Int32 → Int32) (st : List Value) (k : List Value → Option α) : Option α := match st with
  | .int y :: .int x :: r => k (.int (f x y) :: r)
  | _ => none
def ax_ll (f : Int64 → Int64 → Int64) (st : List Value) (k : List Value → Option α) : Option α := match st with
  | .long y :: .long x :: r => k (.long (f x y) :: r)
  | _ => none
/-- getfield, putfield -/
def ax_gf (c kf : Nat) (st : List Value) (h : ax_H) (k : List Value → Option α) : Option α := match st with
  | .ref x :: r => if (gS h x).1 = c then k (ax_gv h x c kf :: r) else none
  | _ => none
def ax_pf (c kf : Nat) (st : List Value) (h : ax_H) (k : List Value → ax_H → Option α) : Option α := match st with
  | .int i :: .ref x :: r => if (gS h x).1 = c then (if ax_ft c kf = 0 then k r (pI h x kf i) else if ax_ft c kf = 3 then (if i = 0 ∨ i = 1 then k r (pI h x kf i) else none) else none) else none
  | .long i :: .ref x :: r => if (gS h x).1 = c then (if ax_ft c kf = 1 then k r (pL h x kf i) else none) else none
  | .ref i :: .ref x :: r => if (gS h x).1 = c then (if ax_ft c kf = 2 then k r (pR h x kf i) else none) else none
  | _ => none
/-- reading rows -/
def ax_al (kd : Nat) (st : List Value) (h : ax_H) (k : List Value → Option α) : Option α := match st with
  | .int j :: .ref x :: r => if ax_in h x kd j then k ((if kd = 17 then .long (gL h x j.toNatClampNeg) else if kd < 20 ∨ kd = 24 then .int (gI h x j.toNatClampNeg) else .ref (gR h x j.toNatClampNeg)) :: r) else none
  | _ => none
/-- writing rows; t: what a byte or a boolean keeps of an int -/
def ax_as (kd : Nat) (st : List Value) (h : ax_H) (k : List Value → ax_H → Option α) : Option α := match st with
  | .int v :: .int j :: .ref x :: r => if ax_in h x kd j then (if kd = 16 then k r (pI h x j.toNatClampNeg v) else if kd = 18 then k r (pI h x j.toNatClampNeg v.toInt8.toInt32) else if kd = 19 then k r (pI h x j.toNatClampNeg (v &&& 1)) else none) else none
  | .long v :: .int j :: .ref x :: r => if ax_in h x kd j then (if kd = 17 then k r (pL h x j.toNatClampNeg v) else none) else none
  | .ref v :: .int j :: .ref x :: r => if ax_in h x kd j then (if kd = 20 then (if v = 0 ∨ (gS h v).1 = 5 then k r (pR h x j.toNatClampNeg v) else none) else if kd = 21 then (if v = 0 ∨ (gS h v).1 = 1 then k r (pR h x j.toNatClampNeg v) else none) else none) else none
  | _ => none
def ax_ln (kd : Nat) (st : List Value) (h : ax_H) (k : List Value → Option α) : Option α := match st with
  | .ref x :: r => if (gS h x).1 = kd then k (.int (nI (gS h x).2) :: r) else none
  | _ => none
def ax_na (kd : Nat) (st : List Value) (h : ax_H) (k : List Value → ax_H → Option α) : Option α := match st with
  | .int n :: r => if ¬ n < 0 ∧ n.toNatClampNeg ≤ 100000 then k (.ref (gN h) :: r) (nW h kd n.toNatClampNeg n.toNatClampNeg) else none
  | _ => none
def ax_mn (st : List Value) (h : ax_H) (k : List Value → ax_H → Option α) : Option α := match st with
  | .int k2 :: .int n :: r => if n = 47 ∧ k2 = 13 then k (.ref (gN h) :: r) (nG h 22 17 47 13) else none
  | _ => none
/-- System.arraycopy of rows of kind kd (16 or 17) -/
def ax_ac (kd : Nat) (st : List Value) (h : ax_H) (k : List Value → ax_H → Option α) : Option α := match st with
  | .int n :: .int dp :: .ref y :: .int sp :: .ref x :: r => if ax_cp h x kd sp n ∧ ax_cp h y kd dp n ∧ ¬ n < 0 ∧ (r.map (fun v => v.category)).sum ≤ 8 then
      (if kd = 16 then k r (rI h y (va_cpy (gI h x) (gI h y) sp.toNatClampNeg dp.toNatClampNeg n.toNatClampNeg)) else if kd = 17 then k r (rL h y (va_cpy (gL h x) (gL h y) sp.toNatClampNeg dp.toNatClampNeg n.toNatClampNeg)) else none) else none
  | _ => none
/-- clone of a row of ints -/
def ax_cl (st : List Value) (h : ax_H) (k : List Value → ax_H → Option α) : Option α := match st with
  | .ref x :: r => if (gS h x).1 = 16 ∧ (gS h x).2 ≤ 100000 ∧ (r.map (fun v => v.category)).sum ≤ 8 then k (.ref (gN h) :: r) (rI (nW h 16 (gS h x).2 (gS h x).2) (gN h) (gI h x)) else none
  | _ => none
def ax_cc (kd : Nat) (st : List Value) (h : ax_H) (k : List Value → Option α) : Option α := match st with
  | .ref x :: r => if (gS h x).1 = kd then k (.ref x :: r) else none
  | _ => none
/-- an instruction that goes on at the next row -/
def ax_stp (e : ax_E) (ls : ax_L) (st : List Value) (h : ax_H) (k : ax_L → List Value → ax_H → Option α) : Option α :=
  match e.2.1 with
  | .jsr _ => k (ax_keep ls 32 e.2.2.2.1) st h
  | .iconst _ => k ls (.int (Int32.ofInt e.2.2.2.2.2) :: st) h
  | .bipush _ => k ls (.int (Int32.ofInt e.2.2.2.2.2) :: st) h
  | .sipush _ => k ls (.int (Int32.ofInt e.2.2.2.2.2) :: st) h
  | .ldc_w _ => if e.2.2.2.2.1 = 0 then k ls (.int (Int32.ofInt e.2.2.2.2.2) :: st) h else k ls (.ref e.2.2.2.1 :: st) h
  | .ldc _ => if e.2.2.2.2.1 = 0 then k ls (.int (Int32.ofInt e.2.2.2.2.2) :: st) h else k ls (.ref e.2.2.2.1 :: st) h
  | .lconst _ => k ls (.long (Int64.ofInt e.2.2.2.2.2) :: st) h
  | .ldc2_w _ => k ls (.long (Int64.ofInt e.2.2.2.2.2) :: st) h
  | .aconst_null => k ls (.ref 0 :: st) h
  | .iload _ => (match ax_get ls e.2.2.2.1 with | some (.int x) => k ls (.int x :: st) h | _ => none)
  | .iload_n _ => (match ax_get ls e.2.2.2.1 with | some (.int x) => k ls (.int x :: st) h | _ => none)
  | .lload _ => (match ax_get ls e.2.2.2.1 with | some (.long x) => k ls (.long x :: st) h | _ => none)
  | .lload_n _ => (match ax_get ls e.2.2.2.1 with | some (.long x) => k ls (.long x :: st) h | _ => none)
  | .aload _ => (match ax_get ls e.2.2.2.1 with | some (.ref x) => k ls (.ref x :: st) h | _ => none)
  | .aload_n _ => (match ax_get ls e.2.2.2.1 with | some (.ref x) => k ls (.ref x :: st) h | _ => none)
  | .istore _ => (match st with | .int x :: r => k ((e.2.2.2.1, .int x) :: ax_c1 e.2.2.2.1 ls) r h | _ => none)
  | .istore_n _ => (match st with | .int x :: r => k ((e.2.2.2.1, .int x) :: ax_c1 e.2.2.2.1 ls) r h | _ => none)
  | .lstore _ => (match st with | .long x :: r => k ((e.2.2.2.1, .long x) :: ax_c2 e.2.2.2.1 ls) r h | _ => none)
  | .lstore_n _ => (match st with | .long x :: r => k ((e.2.2.2.1, .long x) :: ax_c2 e.2.2.2.1 ls) r h | _ => none)
  | .astore _ => (match st with | .ref x :: r => k ((e.2.2.2.1, .ref x) :: ax_c1 e.2.2.2.1 ls) r h | _ => none)
  | .astore_n _ => (match st with | .ref x :: r => k ((e.2.2.2.1, .ref x) :: ax_c1 e.2.2.2.1 ls) r h | _ => none)
  | .iinc _ _ => (match ax_get ls e.2.2.2.1 with | some (.int x) => k ((e.2.2.2.1, .int (x + Int32.ofInt e.2.2.2.2.2)) :: ax_c1 e.2.2.2.1 ls) st h | _ => none)
  | .iadd => ax_ii (fun x y => x + y) st (fun r => k ls r h)
  | .isub => ax_ii (fun x y => x - y) st (fun r => k ls r h)
  | .imul => ax_ii (fun x y => x * y) st (fun r => k ls r h)
  | .iand => ax_ii (fun x y => x &&& y) st (fun r => k ls r h)
  | .ior => ax_ii (fun x y => x ||| y) st (fun r => k ls r h)
  | .ishl => ax_ii (fun x y => x <<< (y &&& 31)) st (fun r => k ls r h)
  | .ishr => ax_ii (fun x y => x >>> (y &&& 31)) st (fun r => k ls r h)
  | .iushr => ax_ii (fun x y => (x.toUInt32 >>> (y.toUInt32 &&& Int32.toUInt32 31)).toInt32) st (fun r => k ls r h)
  | .idiv => (match st with | .int y :: .int x :: r => if y = 0 then none else k ls (.int (x / y) :: r) h | _ => none)
  | .irem => (match st with | .int y :: .int x :: r => if y = 0 then none else k ls (.int (x - x / y * y) :: r) h | _ => none)
  | .ineg => (match st with | .int x :: r => k ls (.int (-x) :: r) h | _ => none)
  | .ladd => ax_ll (fun x y => x + y) st (fun r => k ls r h)
  | .lsub => ax_ll (fun x y => x - y) st (fun r => k ls r h)
  | .lmul => ax_ll (fun x y => x * y) st (fun r => k ls r h)
  | .land => ax_ll (fun x y => x &&& y) st (fun r => k ls r h)
  | .lor => ax_ll (fun x y => x ||| y) st (fun r => k ls r h)
  | .lxor => ax_ll (fun x y => x ^^^ y) st (fun r => k ls r h)
  | .ldiv => (match st with | .long y :: .long x :: r => if y = 0 then none else k ls (.long (x / y) :: r) h | _ => none)
  | .lrem => (match st with | .long y :: .long x :: r => if y = 0 then none else k ls (.long (x - x / y * y) :: r) h | _ => none)
  | .lneg => (match st with | .long x :: r => k ls (.long (-x) :: r) h | _ => none)
  | .lcmp => (match st with | .long y :: .long x :: r => k ls (.int (lg_cmp x y) :: r) h | _ => none)
  | .i2l => (match st with | .int x :: r => k ls (.long x.toInt64 :: r) h | _ => none)
  | .l2i => (match st with | .long x :: r => k ls (.int x.toInt32 :: r) h | _ => none)
  | .i2b => (match st with | .int x :: r => k ls (.int x.toInt8.toInt32 :: r) h | _ => none)
  | .dup => (match st with | v :: r => if v.category = 1 then k ls (v :: v :: r) h else none | _ => none)
  | .dup2 => (match st with | v :: r => if v.category = 2 then k ls (v :: v :: r) h else (match r with | w :: r' => if w.category = 1 then k ls (v :: w :: v :: w :: r') h else none | _ => none) | _ => none)
  | .pop => (match st with | v :: r => if v.category = 1 then k ls r h else none | _ => none)
  | .getfield _ => ax_gf e.2.2.2.1 e.2.2.2.2.1 st h (fun r => k ls r h)
  | .putfield _ => ax_pf e.2.2.2.1 e.2.2.2.2.1 st h (fun r h1 => k ls r h1)
  | .iaload => ax_al (if e.2.2.2.2.1 = 1 then 24 else 16) st h (fun r => k ls r h)
  | .laload => ax_al 17 st h (fun r => k ls r h)
  | .baload => ax_al e.2.2.2.1 st h (fun r => k ls r h)
  | .aaload => ax_al e.2.2.2.1 st h (fun r => k ls r h)
  | .iastore => ax_as 16 st h (fun r h1 => k ls r h1)
  | .lastore => ax_as 17 st h (fun r h1 => k ls r h1)
  | .bastore => ax_as e.2.2.2.1 st h (fun r h1 => k ls r h1)
  | .aastore => ax_as e.2.2.2.1 st h (fun r h1 => k ls r h1)
  | .arraylength => ax_ln (if e.2.2.2.2.1 = 1 then 24 else 16) st h (fun r => k ls r h)
  | .new _ => k ls (.ref (gN h) :: st) (nW h e.2.2.2.1 0 (ax_n e.2.2.2.1))
  | .newarray _ => ax_na e.2.2.2.1 st h (fun r h1 => k ls r h1)
  | .anewarray _ => ax_na e.2.2.2.1 st h (fun r h1 => k ls r h1)
  | .multianewarray _ _ => ax_mn st h (fun r h1 => k ls r h1)
  | .checkcast _ => ax_cc 16 st h (fun r => k ls r h)
  | .invokestatic _ => ax_ac e.2.2.2.1 st h (fun r h1 => k ls r h1)
  | .invokevirtual _ => ax_cl st h (fun r h1 => k ls r h1)
  | .invokespecial _ => (match st with | .ref x :: r => if (gS h x).1 < 12 ∧ (r.map (fun v => v.category)).sum ≤ 8 then k ls r h else none | _ => none)
  | _ => none
end
def ax_h1 (c : ClassFile.Cond) (x : Int32) : Bool := match c with
  | .eq => decide (x = 0)
  | .ne => decide (¬ x = 0)
  | .lt => decide (x < 0)
  | .ge => decide (0 ≤ x)
  | .gt => decide (0 < x)
  | .le => decide (x ≤ 0)
def ax_h2 (c : ClassFile.Cond) (x y : Int32) : Bool := match c with
  | .eq => decide (x = y)
  | .ne => decide (¬ x = y)
  | .lt => decide (x < y)
  | .ge => decide (y ≤ x)
  | .gt => decide (y < x)
  | .le => decide (x ≤ y)
/-- the rows from a pc on -/
def ax_to (C : List ax_E) (t : Nat) : List ax_E := match C with
  | [] => []
  | e :: r => if e.1 == t then e :: r else ax_to r t
/-- the environment: void, int, long, reference methods by number -/
abbrev ax_Env : Type := (Nat → List Value → ax_H → Option ax_H) × (Nat → List Value → ax_H → Option (Int32 × ax_H)) × (Nat → List Value → ax_H → Option (Int64 × ax_H)) × (Nat → List Value → ax_H → Option (Nat × ax_H))
/-- a switch: the values from v on, by their targets -/
def ax_sw {α : Type} (x : Int32) (k : Nat → Option α) : Int → List (Nat) → Nat → Option α
  | _, [], d => k d
  | v, t :: r, d => if x = Int32.ofInt v then k t else ax_sw x k (v + 1) r d
def ax_call {α : Type} (E : ax_Env) (e : ax_E) (n : Nat) (st : List Value) (h : ax_H) (k : List Value → ax_H → Option α) : Option α :=
  if n ≤ st.length ∧ ((st.drop n).map (fun v => v.category)).sum ≤ 8 then
    (if e.2.2.2.2.2 = 0 then (E.1 e.2.2.2.1 (st.take n).reverse h).bind (fun r => k (st.drop n) r)
     else if e.2.2.2.2.2 = 1 then (E.2.1 e.2.2.2.1 (st.take n).reverse h).bind (fun r => k (.int r.1 :: st.drop n) r.2)
     else if e.2.2.2.2.2 = 2 then (E.2.2.1 e.2.2.2.1 (st.take n).reverse h).bind (fun r => k (.long r.1 :: st.drop n) r.2)
     else (E.2.2.2 e.2.2.2.1 (st.take n).reverse h).bind (fun r => k (.ref r.1 :: st.drop n) r.2))
  else none
/-- kinds of rows: 0 on, 1 goto, 2 if, 3 if_icmp, 4 ifnull, 5 ifnonnull, 6 switch, 7 return, 8 call -/
def ax_kind (e : ax_E) : Nat := match e.2.1 with
  | .goto _ => 1
  | .ifCond _ _ => 2
  | .if_icmp _ _ => 3
  | .ifnull _ => 4
  | .ifnonnull _ => 5
  | .tableswitch _ _ _ _ => 6
  | .lookupswitch _ _ => 9
  | .ireturn => 7
  | .lreturn => 7
  | .areturn => 7
  | .return_ => 7
  | .invokevirtual _ => if e.2.2.2.2.1 < 100 then 8 else 0
  | .invokestatic _ => if e.2.2.2.2.1 < 100 then 8 else 0
  | .invokespecial _ => if e.2.2.2.2.1 < 100 then 8 else 0
  | _ => 0
