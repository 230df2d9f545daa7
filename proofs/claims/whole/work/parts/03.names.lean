/-! names: the classes by number, their fields, the private nest links, the String constants (printed by wip/gen/names.py) -/
def ax_cn : Nat → String
  | 0 => "BlackSun"
  | 1 => "BlackSun$Book"
  | 2 => "BlackSun$Stars"
  | 3 => "BlackSun$Plates"
  | 4 => "BlackSun$Images"
  | 5 => "BlackSun$Way"
  | 6 => "BlackSun$Reader"
  | 7 => "BlackSun$Fit"
  | 8 => "BlackSun$Mix"
  | 9 => "BlackSun$Lean"
  | 10 => "BlackSun$Moves"
  | 11 => "BlackSunModel"
  | _ => ""
def ax_fl_0 : List (String × String × String × Bool) := [("BlackSun", "book", "LBlackSun$Book;", true), ("BlackSun", "marks", "[LBlackSun$Book;", true), ("BlackSun", "reader", "LBlackSun$Reader;", true), ("BlackSun", "fit", "LBlackSun$Fit;", true), ("BlackSun", "mix", "LBlackSun$Mix;", true)]
def ax_fl_1 : List (String × String × String × Bool) := [("BlackSun$Book", "now", "I", false), ("BlackSun$Book", "stars", "LBlackSun$Stars;", true), ("BlackSun$Book", "plates", "LBlackSun$Plates;", true), ("BlackSun$Book", "images", "LBlackSun$Images;", true), ("BlackSun$Book", "wayCount", "I", false), ("BlackSun$Book", "ways", "[LBlackSun$Way;", true), ("BlackSun$Book", "saidCount", "I", false), ("BlackSun$Book", "saidWay", "[I", true), ("BlackSun$Book", "saidWeek", "[I", true), ("BlackSun$Book", "saidNumber", "[I", true), ("BlackSun$Book", "fieldCount", "I", false), ("BlackSun$Book", "fieldMinutes", "[I", true), ("BlackSun$Book", "fieldStars", "[I", true), ("BlackSun$Book", "cold", "[I", true), ("BlackSun$Book", "more", "[I", true), ("BlackSun$Book", "knowsFrom", "[I", true), ("BlackSun$Book", "warmed", "[I", true)]
def ax_fl_2 : List (String × String × String × Bool) := [("BlackSun$Stars", "count", "I", false), ("BlackSun$Stars", "x", "[I", true), ("BlackSun$Stars", "y", "[I", true), ("BlackSun$Stars", "bright", "[I", true)]
def ax_fl_3 : List (String × String × String × Bool) := [("BlackSun$Plates", "count", "I", false), ("BlackSun$Plates", "island", "[I", true), ("BlackSun$Plates", "kind", "[I", true), ("BlackSun$Plates", "heat", "[I", true)]
def ax_fl_4 : List (String × String × String × Bool) := [("BlackSun$Images", "count", "I", false), ("BlackSun$Images", "plate", "[I", true), ("BlackSun$Images", "star", "[I", true), ("BlackSun$Images", "hand", "[I", true), ("BlackSun$Images", "dx", "[I", true), ("BlackSun$Images", "dy", "[I", true), ("BlackSun$Images", "week", "[I", true), ("BlackSun$Images", "until", "[I", true)]
def ax_fl_5 : List (String × String × String × Bool) := [("BlackSun$Way", "doing", "[I", true), ("BlackSun$Way", "held", "[I", true), ("BlackSun$Way", "hand", "I", true), ("BlackSun$Way", "steps", "[I", true)]
def ax_fl_6 : List (String × String × String × Bool) := [("BlackSun$Reader", "length", "I", false), ("BlackSun$Reader", "fault", "I", false), ("BlackSun$Reader", "tape", "[I", true), ("BlackSun$Reader", "place", "I", false), ("BlackSun$Reader", "counted", "I", false), ("BlackSun$Reader", "fitted", "I", false), ("BlackSun$Reader", "hand", "I", false), ("BlackSun$Reader", "state", "I", false), ("BlackSun$Reader", "deep", "I", false), ("BlackSun$Reader", "waitingCount", "I", false), ("BlackSun$Reader", "waiting", "[I", true), ("BlackSun$Reader", "stepCount", "I", false), ("BlackSun$Reader", "steps", "[I", true), ("BlackSun$Reader", "doing", "[I", true), ("BlackSun$Reader", "held", "[I", true)]
def ax_fl_7 : List (String × String × String × Bool) := [("BlackSun$Fit", "takenCount", "I", false), ("BlackSun$Fit", "taken", "[I", true), ("BlackSun$Fit", "number", "[I", true), ("BlackSun$Fit", "nearestAnswer", "I", false), ("BlackSun$Fit", "fittedCount", "I", false), ("BlackSun$Fit", "fitted", "[I", true), ("BlackSun$Fit", "give", "[I", true), ("BlackSun$Fit", "settled", "[I", true), ("BlackSun$Fit", "rest", "[I", true), ("BlackSun$Fit", "lawful", "[I", true), ("BlackSun$Fit", "sums", "[[J", true), ("BlackSun$Fit", "sum", "[J", true), ("BlackSun$Fit", "rulable", "[I", true), ("BlackSun$Fit", "stack", "[I", true), ("BlackSun$Fit", "seed", "J", false)]
def ax_fl_8 : List (String × String × String × Bool) := [("BlackSun$Mix", "scale", "J", false), ("BlackSun$Mix", "light", "J", false), ("BlackSun$Mix", "both", "J", false)]
def ax_fl_9 : List (String × String × String × Bool) := [("BlackSun$Lean", "above", "J", false), ("BlackSun$Lean", "below", "J", false)]
def ax_fl_10 : List (String × String × String × Bool) := [("BlackSun$Moves", "found", "I", false), ("BlackSun$Moves", "allDx", "I", false), ("BlackSun$Moves", "allDy", "I", false), ("BlackSun$Moves", "greatest", "I", false), ("BlackSun$Moves", "plate", "I", false), ("BlackSun$Moves", "star", "I", false)]
def ax_fl_11 : List (String × String × String × Bool) := [("BlackSunModel", "thrown", "I", false), ("BlackSunModel", "now", "I", false), ("BlackSunModel", "stars", "I", false), ("BlackSunModel", "plates", "I", false), ("BlackSunModel", "images", "I", false), ("BlackSunModel", "starX", "[I", true), ("BlackSunModel", "starY", "[I", true), ("BlackSunModel", "bright", "[I", true), ("BlackSunModel", "island", "[I", true), ("BlackSunModel", "kind", "[I", true), ("BlackSunModel", "heat", "[I", true), ("BlackSunModel", "plateOf", "[I", true), ("BlackSunModel", "starOf", "[I", true), ("BlackSunModel", "handOf", "[I", true), ("BlackSunModel", "dxOf", "[I", true), ("BlackSunModel", "dyOf", "[I", true), ("BlackSunModel", "weekOf", "[I", true), ("BlackSunModel", "taped", "I", false), ("BlackSunModel", "p", "I", false), ("BlackSunModel", "fault", "I", false), ("BlackSunModel", "ways", "I", false), ("BlackSunModel", "entries", "I", false), ("BlackSunModel", "deep", "I", false), ("BlackSunModel", "counted", "I", false), ("BlackSunModel", "opened", "I", false), ("BlackSunModel", "fitted", "I", false), ("BlackSunModel", "tape", "[B", true), ("BlackSunModel", "sort", "[I", true), ("BlackSunModel", "number", "[I", true), ("BlackSunModel", "leaveAt", "[I", true), ("BlackSunModel", "leaveEnd", "[I", true), ("BlackSunModel", "leaves", "[I", true), ("BlackSunModel", "handIn", "[I", true), ("BlackSunModel", "role", "[I", true), ("BlackSunModel", "heldAt", "[I", true), ("BlackSunModel", "open", "[I", true), ("BlackSunModel", "asked", "[J", true), ("BlackSunModel", "stack", "[J", true), ("BlackSunModel", "taken", "[Z", true), ("BlackSunModel", "fits", "[I", true), ("BlackSunModel", "held", "[J", true), ("BlackSunModel", "sums", "[J", true), ("BlackSunModel", "right", "[J", true), ("BlackSunModel", "factors", "[J", true), ("BlackSunModel", "answers", "[J", true), ("BlackSunModel", "isHeld", "[Z", true), ("BlackSunModel", "outX", "[I", true), ("BlackSunModel", "outY", "[I", true), ("BlackSunModel", "isOut", "[Z", true), ("BlackSunModel", "fitMany", "I", false), ("BlackSunModel", "used", "I", false), ("BlackSunModel", "quotient", "J", false), ("BlackSunModel", "rest", "J", false), ("BlackSunModel", "has", "[Z", true), ("BlackSunModel", "above", "J", false), ("BlackSunModel", "below", "J", false), ("BlackSunModel", "toldIn", "[I", true), ("BlackSunModel", "joinAnswer", "J", false), ("BlackSunModel", "joinUsed", "I", false), ("BlackSunModel", "sayings", "I", false), ("BlackSunModel", "saidWay", "[I", true), ("BlackSunModel", "saidNumber", "[I", true), ("BlackSunModel", "saidIn", "[I", true), ("BlackSunModel", "fields", "I", false), ("BlackSunModel", "minutesOf", "[I", true), ("BlackSunModel", "fieldStars", "[I", true), ("BlackSunModel", "draw", "J", false), ("BlackSunModel", "cold", "[I", true), ("BlackSunModel", "more", "[I", true), ("BlackSunModel", "onPlate", "I", false), ("BlackSunModel", "marks", "[I", true), ("BlackSunModel", "scalars", "[I", true), ("BlackSunModel", "isMarked", "[Z", true), ("BlackSunModel", "markAt", "I", false), ("BlackSunModel", "isBack", "Z", false)]
def ax_fl : Nat → List (String × String × String × Bool)
  | 0 => ax_fl_0
  | 1 => ax_fl_1
  | 2 => ax_fl_2
  | 3 => ax_fl_3
  | 4 => ax_fl_4
  | 5 => ax_fl_5
  | 6 => ax_fl_6
  | 7 => ax_fl_7
  | 8 => ax_fl_8
  | 9 => ax_fl_9
  | 10 => ax_fl_10
  | 11 => ax_fl_11
  | _ => []
def ax_tl : Nat → List Nat
  | 0 => [2, 2, 2, 2, 2]
  | 1 => [0, 2, 2, 2, 0, 2, 0, 2, 2, 2, 0, 2, 2, 2, 2, 2, 2]
  | 2 => [0, 2, 2, 2]
  | 3 => [0, 2, 2, 2]
  | 4 => [0, 2, 2, 2, 2, 2, 2, 2]
  | 5 => [2, 2, 0, 2]
  | 6 => [0, 0, 2, 0, 0, 0, 0, 0, 0, 0, 2, 0, 2, 2, 2]
  | 7 => [0, 2, 2, 0, 0, 2, 2, 2, 2, 2, 2, 2, 2, 2, 1]
  | 8 => [1, 1, 1]
  | 9 => [1, 1]
  | 10 => [0, 0, 0, 0, 0, 0]
  | 11 => [0, 0, 0, 0, 0, 2, 2, 2, 2, 2, 2, 2, 2, 2, 2, 2, 2, 0, 0, 0, 0, 0, 0, 0, 0, 0, 2, 2, 2, 2, 2, 2, 2, 2, 2, 2, 2, 2, 2, 2, 2, 2, 2, 2, 2, 2, 2, 2, 2, 0, 0, 1, 1, 2, 1, 1, 2, 1, 0, 0, 2, 2, 2, 0, 2, 2, 1, 2, 2, 0, 2, 2, 2, 0, 3]
  | _ => []
def ax_ft (c k : Nat) : Nat := (ax_tl c).getD k 0
def ax_n : Nat → Nat
  | 0 => 5
  | 1 => 17
  | 2 => 4
  | 3 => 4
  | 4 => 8
  | 5 => 4
  | 6 => 15
  | 7 => 15
  | 8 => 3
  | 9 => 2
  | 10 => 6
  | 11 => 75
  | _ => 0
def ax_T (c : Nat) : u_T := fun k => (ax_fl c).getD k ("", "", "", false)
def ax_ty (c k : Nat) : FieldType := (parseFieldDescriptor (ax_T c k).2.2.1).getD .int
def ax_cls : List vw_C := (List.range 12).map (fun c => (ax_cn c, ax_T c, ax_n c))
def ax_nest : List (String × Nat × MethodName × String) := [("BlackSun$Book", 11, ⟨"BlackSun$Stars", "<init>", "()V"⟩, "BlackSun"), ("BlackSun$Book", 20, ⟨"BlackSun$Plates", "<init>", "()V"⟩, "BlackSun"), ("BlackSun$Book", 27, ⟨"BlackSun$Images", "<init>", "()V"⟩, "BlackSun"), ("BlackSun", 22, ⟨"BlackSun$Reader", "<init>", "()V"⟩, "BlackSun"), ("BlackSun", 29, ⟨"BlackSun$Fit", "<init>", "()V"⟩, "BlackSun"), ("BlackSun", 36, ⟨"BlackSun$Mix", "<init>", "()V"⟩, "BlackSun"), ("BlackSun$Stars", 25, ⟨"BlackSun", "isWithin", "(III)Z"⟩, "BlackSun"), ("BlackSun$Plates", 25, ⟨"BlackSun", "isWithin", "(III)Z"⟩, "BlackSun"), ("BlackSun$Book", 70, ⟨"BlackSun", "isWithin", "(III)Z"⟩, "BlackSun"), ("BlackSun$Book", 133, ⟨"BlackSun", "isNear", "(III)Z"⟩, "BlackSun"), ("BlackSun", 241, ⟨"BlackSun$Lean", "<init>", "()V"⟩, "BlackSun"), ("BlackSun$Fit", 233, ⟨"BlackSun", "isNear", "(III)Z"⟩, "BlackSun"), ("BlackSun", 337, ⟨"BlackSun$Moves", "<init>", "()V"⟩, "BlackSun")]
def ax_strs : List (String × Nat × String) := [("BlackSun$Reader", 84, "fit hold check leave hand "), ("BlackSun$Reader", 100, "east north scale turn light bend "), ("BlackSun$Reader", 110, "if "), ("BlackSun$Reader", 134, "not "), ("BlackSun$Reader", 162, "plate island kind heat star bright far x y dx dy week hand "), ("BlackSun$Reader", 149, "and "), ("BlackSun$Reader", 151, "or "), ("BlackSunModel", 358, "fit"), ("BlackSunModel", 360, "hold"), ("BlackSunModel", 362, "check"), ("BlackSunModel", 364, "leave"), ("BlackSunModel", 257, "hand"), ("BlackSunModel", 366, "if"), ("BlackSunModel", 335, "not"), ("BlackSunModel", 238, "plate"), ("BlackSunModel", 240, "island"), ("BlackSunModel", 241, "kind"), ("BlackSunModel", 242, "heat"), ("BlackSunModel", 243, "star"), ("BlackSunModel", 245, "bright"), ("BlackSunModel", 246, "far"), ("BlackSunModel", 247, "x"), ("BlackSunModel", 249, "y"), ("BlackSunModel", 251, "dx"), ("BlackSunModel", 253, "dy"), ("BlackSunModel", 255, "week"), ("BlackSunModel", 348, "and"), ("BlackSunModel", 350, "or"), ("BlackSunModel", 226, "east"), ("BlackSunModel", 228, "north"), ("BlackSunModel", 230, "scale"), ("BlackSunModel", 232, "turn"), ("BlackSunModel", 234, "light"), ("BlackSunModel", 236, "bend")]
/-- kinds of rows and their component types -/
def ax_at : Nat → FieldType
  | 16 => .int
  | 17 => .long
  | 18 => .byte
  | 19 => .boolean
  | 20 => .object "BlackSun$Way"
  | 21 => .object "BlackSun$Book"
  | _ => .array .long
theorem ax_lt12 {P : Nat → Prop} (h0 : P 0) (h1 : P 1) (h2 : P 2) (h3 : P 3) (h4 : P 4) (h5 : P 5) (h6 : P 6) (h7 : P 7) (h8 : P 8) (h9 : P 9) (h10 : P 10) (h11 : P 11) : ∀ c, c < 12 → P c := by
  intro c hc
  match c, hc with
  | 0, _ => exact h0
  | 1, _ => exact h1
  | 2, _ => exact h2
  | 3, _ => exact h3
  | 4, _ => exact h4
  | 5, _ => exact h5
  | 6, _ => exact h6
  | 7, _ => exact h7
  | 8, _ => exact h8
  | 9, _ => exact h9
  | 10, _ => exact h10
  | 11, _ => exact h11
  | n + 12, h => exact absurd h (by omega)
theorem ax_cls_at : ∀ c, c < 12 → ax_cls[c]? = some (ax_cn c, ax_T c, ax_n c) := ax_lt12 rfl rfl rfl rfl rfl rfl rfl rfl rfl rfl rfl rfl
theorem ax_cls_len : ax_cls.length = 12 := rfl
theorem ax_tok : ∀ c, c < 12 → ∀ k, k < ax_n c → parseFieldDescriptor (ax_T c k).2.2.1 = some (ax_ty c k) := by decide +kernel
theorem ax_nok : ∀ c, c < 12 → ∀ a, a < ax_n c → ∀ b, b < ax_n c → a ≠ b → (ax_T c a).2.1 ≠ (ax_T c b).2.1 := by decide +kernel
/-- the types by their numbers -/
def ax_tyok (c k : Nat) : Bool := match ax_ft c k, ax_ty c k with
  | 0, .int => true
  | 3, .boolean => true
  | 1, .long => true
  | 2, .object _ => true
  | 2, .array _ => true
  | _, _ => false
theorem ax_tyoks : ∀ c, c < 12 → ∀ k, k < ax_n c → ax_tyok c k = true := by decide +kernel
def ax_G : List Cond := lw_tbl.filter goodWord
theorem ax_win_0 : ∀ w ∈ u_ws (ax_cn 0) (ax_T 0) (ax_n 0), w ∈ ax_G := by decide +kernel
theorem ax_win_1 : ∀ w ∈ u_ws (ax_cn 1) (ax_T 1) (ax_n 1), w ∈ ax_G := by decide +kernel
theorem ax_win_2 : ∀ w ∈ u_ws (ax_cn 2) (ax_T 2) (ax_n 2), w ∈ ax_G := by decide +kernel
theorem ax_win_3 : ∀ w ∈ u_ws (ax_cn 3) (ax_T 3) (ax_n 3), w ∈ ax_G := by decide +kernel
theorem ax_win_4 : ∀ w ∈ u_ws (ax_cn 4) (ax_T 4) (ax_n 4), w ∈ ax_G := by decide +kernel
theorem ax_win_5 : ∀ w ∈ u_ws (ax_cn 5) (ax_T 5) (ax_n 5), w ∈ ax_G := by decide +kernel
theorem ax_win_6 : ∀ w ∈ u_ws (ax_cn 6) (ax_T 6) (ax_n 6), w ∈ ax_G := by decide +kernel
theorem ax_win_7 : ∀ w ∈ u_ws (ax_cn 7) (ax_T 7) (ax_n 7), w ∈ ax_G := by decide +kernel
theorem ax_win_8 : ∀ w ∈ u_ws (ax_cn 8) (ax_T 8) (ax_n 8), w ∈ ax_G := by decide +kernel
theorem ax_win_9 : ∀ w ∈ u_ws (ax_cn 9) (ax_T 9) (ax_n 9), w ∈ ax_G := by decide +kernel
theorem ax_win_10 : ∀ w ∈ u_ws (ax_cn 10) (ax_T 10) (ax_n 10), w ∈ ax_G := by decide +kernel
theorem ax_win_11 : ∀ w ∈ u_ws (ax_cn 11) (ax_T 11) (ax_n 11), w ∈ ax_G := by decide +kernel
theorem ax_win : ∀ c, c < 12 → ∀ w ∈ u_ws (ax_cn c) (ax_T c) (ax_n c), w ∈ ax_G := ax_lt12 ax_win_0 ax_win_1 ax_win_2 ax_win_3 ax_win_4 ax_win_5 ax_win_6 ax_win_7 ax_win_8 ax_win_9 ax_win_10 ax_win_11
theorem ax_inst : ∀ c, c < 12 → Cond.instantiable (ax_cn c) (ax_n c) ∈ ax_G := by decide +kernel
theorem ax_init : ∀ c, c < 12 → Cond.initialized (ax_cn c) ∈ ax_G := by decide +kernel
theorem ax_G_sub {w : Cond} (h : w ∈ ax_G) : w ∈ lw_tbl := (List.mem_filter.mp h).1
theorem ax_G_good : GoodIn ax_G ax_G := fun w h => ⟨h, good_of_word (List.mem_filter.mp h).2⟩
