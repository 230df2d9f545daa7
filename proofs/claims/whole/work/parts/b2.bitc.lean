/-! bitCount, for numbers below 65536 -/
def bcI (v0 : Int32) : Int32 := (let x1 := (v0 - ((Int32.toUInt32 v0 >>> (Int32.toUInt32 1 &&& Int32.toUInt32 31)).toInt32 &&& 1431655765)); let x2 := ((x1 &&& 858993459) + ((Int32.toUInt32 x1 >>> (Int32.toUInt32 2 &&& Int32.toUInt32 31)).toInt32 &&& 858993459)); let x3 := ((x2 + (Int32.toUInt32 x2 >>> (Int32.toUInt32 4 &&& Int32.toUInt32 31)).toInt32) &&& 252645135); let x4 := (x3 + (Int32.toUInt32 x3 >>> (Int32.toUInt32 8 &&& Int32.toUInt32 31)).toInt32); let x5 := (x4 + (Int32.toUInt32 x4 >>> (Int32.toUInt32 16 &&& Int32.toUInt32 31)).toInt32); (x5 &&& 63))
theorem bc_0 : ∀ a, a < 16 → ∀ b, b < 16 → ∀ c, c < 16 → bcI (nI (0 + (256 * a + 16 * b + c))) = nI (pcN 16 (0 + (256 * a + 16 * b + c))) := by decide +kernel
theorem bc_1 : ∀ a, a < 16 → ∀ b, b < 16 → ∀ c, c < 16 → bcI (nI (4096 + (256 * a + 16 * b + c))) = nI (pcN 16 (4096 + (256 * a + 16 * b + c))) := by decide +kernel
theorem bc_2 : ∀ a, a < 16 → ∀ b, b < 16 → ∀ c, c < 16 → bcI (nI (8192 + (256 * a + 16 * b + c))) = nI (pcN 16 (8192 + (256 * a + 16 * b + c))) := by decide +kernel
theorem bc_3 : ∀ a, a < 16 → ∀ b, b < 16 → ∀ c, c < 16 → bcI (nI (12288 + (256 * a + 16 * b + c))) = nI (pcN 16 (12288 + (256 * a + 16 * b + c))) := by decide +kernel
theorem bc_4 : ∀ a, a < 16 → ∀ b, b < 16 → ∀ c, c < 16 → bcI (nI (16384 + (256 * a + 16 * b + c))) = nI (pcN 16 (16384 + (256 * a + 16 * b + c))) := by decide +kernel
theorem bc_5 : ∀ a, a < 16 → ∀ b, b < 16 → ∀ c, c < 16 → bcI (nI (20480 + (256 * a + 16 * b + c))) = nI (pcN 16 (20480 + (256 * a + 16 * b + c))) := by decide +kernel
theorem bc_6 : ∀ a, a < 16 → ∀ b, b < 16 → ∀ c, c < 16 → bcI (nI (24576 + (256 * a + 16 * b + c))) = nI (pcN 16 (24576 + (256 * a + 16 * b + c))) := by decide +kernel
theorem bc_7 : ∀ a, a < 16 → ∀ b, b < 16 → ∀ c, c < 16 → bcI (nI (28672 + (256 * a + 16 * b + c))) = nI (pcN 16 (28672 + (256 * a + 16 * b + c))) := by decide +kernel
theorem bc_8 : ∀ a, a < 16 → ∀ b, b < 16 → ∀ c, c < 16 → bcI (nI (32768 + (256 * a + 16 * b + c))) = nI (pcN 16 (32768 + (256 * a + 16 * b + c))) := by decide +kernel
theorem bc_9 : ∀ a, a < 16 → ∀ b, b < 16 → ∀ c, c < 16 → bcI (nI (36864 + (256 * a + 16 * b + c))) = nI (pcN 16 (36864 + (256 * a + 16 * b + c))) := by decide +kernel
theorem bc_10 : ∀ a, a < 16 → ∀ b, b < 16 → ∀ c, c < 16 → bcI (nI (40960 + (256 * a + 16 * b + c))) = nI (pcN 16 (40960 + (256 * a + 16 * b + c))) := by decide +kernel
theorem bc_11 : ∀ a, a < 16 → ∀ b, b < 16 → ∀ c, c < 16 → bcI (nI (45056 + (256 * a + 16 * b + c))) = nI (pcN 16 (45056 + (256 * a + 16 * b + c))) := by decide +kernel
theorem bc_12 : ∀ a, a < 16 → ∀ b, b < 16 → ∀ c, c < 16 → bcI (nI (49152 + (256 * a + 16 * b + c))) = nI (pcN 16 (49152 + (256 * a + 16 * b + c))) := by decide +kernel
theorem bc_13 : ∀ a, a < 16 → ∀ b, b < 16 → ∀ c, c < 16 → bcI (nI (53248 + (256 * a + 16 * b + c))) = nI (pcN 16 (53248 + (256 * a + 16 * b + c))) := by decide +kernel
theorem bc_14 : ∀ a, a < 16 → ∀ b, b < 16 → ∀ c, c < 16 → bcI (nI (57344 + (256 * a + 16 * b + c))) = nI (pcN 16 (57344 + (256 * a + 16 * b + c))) := by decide +kernel
theorem bc_15 : ∀ a, a < 16 → ∀ b, b < 16 → ∀ c, c < 16 → bcI (nI (61440 + (256 * a + 16 * b + c))) = nI (pcN 16 (61440 + (256 * a + 16 * b + c))) := by decide +kernel
theorem bc_in {k s : Nat} (H : ∀ a, a < 16 → ∀ b, b < 16 → ∀ c, c < 16 → bcI (nI (k + (256 * a + 16 * b + c))) = nI (pcN 16 (k + (256 * a + 16 * b + c)))) (h : k ≤ s ∧ s < k + 4096) : bcI (nI s) = nI (pcN 16 s) := by
  have := H ((s - k) / 256) (by omega) ((s - k) / 16 % 16) (by omega) ((s - k) % 16) (by omega)
  rw [show k + (256 * ((s - k) / 256) + 16 * ((s - k) / 16 % 16) + (s - k) % 16) = s by omega] at this
  exact this
theorem bc_s {s : Nat} (h : s < 65536) : bcI (nI s) = nI (pcN 16 s) := by
  by_cases h0 : s < 4096
  · exact bc_in bc_0 (by omega)
  by_cases h1 : s < 8192
  · exact bc_in bc_1 (by omega)
  by_cases h2 : s < 12288
  · exact bc_in bc_2 (by omega)
  by_cases h3 : s < 16384
  · exact bc_in bc_3 (by omega)
  by_cases h4 : s < 20480
  · exact bc_in bc_4 (by omega)
  by_cases h5 : s < 24576
  · exact bc_in bc_5 (by omega)
  by_cases h6 : s < 28672
  · exact bc_in bc_6 (by omega)
  by_cases h7 : s < 32768
  · exact bc_in bc_7 (by omega)
  by_cases h8 : s < 36864
  · exact bc_in bc_8 (by omega)
  by_cases h9 : s < 40960
  · exact bc_in bc_9 (by omega)
  by_cases h10 : s < 45056
  · exact bc_in bc_10 (by omega)
  by_cases h11 : s < 49152
  · exact bc_in bc_11 (by omega)
  by_cases h12 : s < 53248
  · exact bc_in bc_12 (by omega)
  by_cases h13 : s < 57344
  · exact bc_in bc_13 (by omega)
  by_cases h14 : s < 61440
  · exact bc_in bc_14 (by omega)
  exact bc_in bc_15 (by omega)
theorem z_bitCount (h : ax_H) {s : Nat} (hs : s < 65536) : Ji_bitCount (nI s) h = some (nI (pcN 16 s), h) := by
  rw [← bc_s hs, Ji_bitCount_eq]
  rfl
