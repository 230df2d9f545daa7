/-! sums over lists; Cauchy and Schwarz; Gram's determinants are not negative -/
def sg {α : Type} (F : α → Int) : List α → Int
  | [] => 0
  | x :: l => F x + sg F l
theorem sg_nil {α : Type} (F : α → Int) : sg F [] = 0 := rfl
theorem sg_cons {α : Type} (F : α → Int) (x : α) (l : List α) : sg F (x :: l) = F x + sg F l := rfl
theorem sg_app {α : Type} (F : α → Int) : ∀ (l m : List α), sg F (l ++ m) = sg F l + sg F m
  | [], m => by simp [sg]
  | x :: l, m => by rw [List.cons_append, sg_cons, sg_cons, sg_app F l m]; omega
theorem sg_le {α : Type} {F G : α → Int} : ∀ {l : List α}, (∀ x ∈ l, F x ≤ G x) → sg F l ≤ sg G l
  | [], _ => Int.le_refl _
  | x :: l, h => by
    have h1 := h x List.mem_cons_self
    have h2 := sg_le (F := F) (G := G) (l := l) (fun y hy => h y (List.mem_cons_of_mem _ hy))
    rw [sg_cons, sg_cons]; omega
theorem sg_const {α : Type} (c : Int) : ∀ (l : List α), sg (fun _ => c) l = c * l.length
  | [] => by simp [sg]
  | x :: l => by rw [sg_cons, sg_const c l, List.length_cons]; grind
theorem sg_q {α : Type} (F G : α → Int) (s t : Int) : ∀ (l : List α), 0 ≤ sg (fun x => F x * F x) l * (s * s) + 2 * (sg (fun x => F x * G x) l * (s * t)) + sg (fun x => G x * G x) l * (t * t)
  | [] => by simp [sg]
  | x :: l => by
    have ih := sg_q F G s t l
    rw [sg_cons, sg_cons, sg_cons]
    have h2 : 0 ≤ (F x * s + G x * t) * (F x * s + G x * t) := by
      rcases Int.le_total 0 (F x * s + G x * t) with h | h
      · exact Int.mul_nonneg h h
      · exact Int.mul_nonneg_of_nonpos_of_nonpos h h
    have h3 : (F x * F x + sg (fun x => F x * F x) l) * (s * s) + 2 * ((F x * G x + sg (fun x => F x * G x) l) * (s * t)) + (G x * G x + sg (fun x => G x * G x) l) * (t * t) = (sg (fun x => F x * F x) l * (s * s) + 2 * (sg (fun x => F x * G x) l * (s * t)) + sg (fun x => G x * G x) l * (t * t)) + (F x * s + G x * t) * (F x * s + G x * t) := by grind
    rw [h3]; omega
theorem sg_cs {α : Type} (F G : α → Int) : ∀ (l : List α), sg (fun x => F x * G x) l * sg (fun x => F x * G x) l ≤ sg (fun x => F x * F x) l * sg (fun x => G x * G x) l
  | [] => by simp [sg]
  | x :: l => by
    have ih := sg_cs F G l
    have hq := sg_q F G (G x) (- F x) l
    rw [sg_cons, sg_cons, sg_cons]
    generalize sg (fun x => F x * G x) l = B at *
    generalize sg (fun x => F x * F x) l = A at *
    generalize sg (fun x => G x * G x) l = C at *
    generalize F x = u at *
    generalize G x = v at *
    have h3 : (u * u + A) * (v * v + C) = (u * v + B) * (u * v + B) + ((A * C - B * B) + (A * (v * v) + 2 * (B * (v * -u)) + C * (-u * -u))) := by grind
    rw [h3]; omega
theorem sq_nn (x : Int) : 0 ≤ x * x := by
  rcases Int.le_total 0 x with h | h
  · exact Int.mul_nonneg h h
  · exact Int.mul_nonneg_of_nonpos_of_nonpos h h
/-- the quadratic form of three columns -/
def q3 (a b c d e f x y z : Int) : Int := a * (x * x) + d * (y * y) + f * (z * z) + 2 * (b * (x * y)) + 2 * (c * (x * z)) + 2 * (e * (y * z))
/-- its adjugate -/
def a3 (a b c d e f x y z : Int) : Int := q3 (d * f - e * e) (c * e - b * f) (b * e - c * d) (a * f - c * c) (b * c - a * e) (a * d - b * b) x y z
def d3 (a b c d e f : Int) : Int := a * (d * f - e * e) + b * (c * e - b * f) + c * (b * e - c * d)
theorem q3_add (a b c d e f u v w x y z : Int) : q3 (u * u + a) (u * v + b) (u * w + c) (v * v + d) (v * w + e) (w * w + f) x y z = q3 a b c d e f x y z + (u * x + v * y + w * z) * (u * x + v * y + w * z) := by
  unfold q3; grind
theorem a3_add (a b c d e f u v w x y z : Int) : a3 (u * u + a) (u * v + b) (u * w + c) (v * v + d) (v * w + e) (w * w + f) x y z = a3 a b c d e f x y z + q3 a b c d e f (v * z - w * y) (w * x - u * z) (u * y - v * x) := by
  unfold a3 q3; grind
theorem d3_add (a b c d e f u v w : Int) : d3 (u * u + a) (u * v + b) (u * w + c) (v * v + d) (v * w + e) (w * w + f) = d3 a b c d e f + a3 a b c d e f u v w := by
  unfold d3 a3 q3; grind
section
variable {α : Type} (F G H : α → Int)
def gA (l : List α) : Int := sg (fun x => F x * F x) l
theorem gram (l : List α) : (∀ x y z, 0 ≤ q3 (sg (fun x => F x * F x) l) (sg (fun x => F x * G x) l) (sg (fun x => F x * H x) l) (sg (fun x => G x * G x) l) (sg (fun x => G x * H x) l) (sg (fun x => H x * H x) l) x y z) ∧
    (∀ x y z, 0 ≤ a3 (sg (fun x => F x * F x) l) (sg (fun x => F x * G x) l) (sg (fun x => F x * H x) l) (sg (fun x => G x * G x) l) (sg (fun x => G x * H x) l) (sg (fun x => H x * H x) l) x y z) ∧
    0 ≤ d3 (sg (fun x => F x * F x) l) (sg (fun x => F x * G x) l) (sg (fun x => F x * H x) l) (sg (fun x => G x * G x) l) (sg (fun x => G x * H x) l) (sg (fun x => H x * H x) l) := by
  induction l with
  | nil => refine ⟨fun x y z => ?_, fun x y z => ?_, ?_⟩ <;> simp [sg, q3, a3, d3]
  | cons x l ih =>
    obtain ⟨h1, h2, h3⟩ := ih
    simp only [sg_cons]
    refine ⟨fun a b c => ?_, fun a b c => ?_, ?_⟩
    · rw [q3_add]
      exact Int.add_nonneg (h1 a b c) (sq_nn _)
    · rw [a3_add]
      exact Int.add_nonneg (h2 a b c) (h1 _ _ _)
    · rw [d3_add]
      exact Int.add_nonneg h3 (h2 _ _ _)
end
/-- a number whose square is small is small -/
theorem abs_of_sq {x k : Int} (hk : 0 ≤ k) (h : x * x ≤ k * k) : -k ≤ x ∧ x ≤ k := by
  constructor
  · refine Int.not_lt.mp fun q => ?_
    have h1 : k < -x := by omega
    have h2 : k * k < (-x) * (-x) := Int.mul_self_lt_mul_self hk h1
    have h3 : (-x) * (-x) = x * x := by grind
    omega
  · refine Int.not_lt.mp fun q => ?_
    have h2 : k * k < x * x := Int.mul_self_lt_mul_self hk q
    omega
theorem sq_mul_le {x y A B : Int} (h1 : x * x ≤ A) (h2 : y * y ≤ B) : (x * y) * (x * y) ≤ A * B := by
  have e : (x * y) * (x * y) = (x * x) * (y * y) := by grind
  rw [e]
  exact Int.mul_le_mul h1 h2 (sq_nn y) (Int.le_trans (sq_nn x) h1)
