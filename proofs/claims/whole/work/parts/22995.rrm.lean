theorem cnt13a : ∀ a, a < 32 → ∀ b, b < 64 → f_J6_bitCount_0f7a4 (nI (64 * a + b)) = cntB (nI (64 * a + b)) 14 := by decide +kernel
theorem cnt13b : ∀ a, a < 32 → ∀ b, b < 64 → f_J6_bitCount_0f7a4 (nI (2048 + 64 * a + b)) = cntB (nI (2048 + 64 * a + b)) 14 := by decide +kernel
theorem cnt13c : ∀ a, a < 32 → ∀ b, b < 64 → f_J6_bitCount_0f7a4 (nI (4096 + 64 * a + b)) = cntB (nI (4096 + 64 * a + b)) 14 := by decide +kernel
theorem cnt13d : ∀ a, a < 32 → ∀ b, b < 64 → f_J6_bitCount_0f7a4 (nI (6144 + 64 * a + b)) = cntB (nI (6144 + 64 * a + b)) 14 := by decide +kernel
theorem bitCount_13 {x : Int32} (h0 : 0 ≤ x) (h1 : x ≤ 8191) : f_J6_bitCount_0f7a4 x = f_X7_many x := by
  obtain ⟨k, hk, rfl⟩ := nI_ex (n := 8192) (k := 8192) (by decide) h0 (by grind)
  rw [many_cnt]
  have e : k = 64 * (k / 64) + k % 64 := by omega
  have hb : k % 64 < 64 := Nat.mod_lt _ (by decide)
  have ha : k / 64 < 128 := by omega
  rcases Nat.lt_or_ge (k / 64) 32 with q1 | q1
  · have := cnt13a (k / 64) q1 (k % 64) hb
    rw [← e] at this
    exact this
  · rcases Nat.lt_or_ge (k / 64) 64 with q2 | q2
    · have := cnt13b (k / 64 - 32) (by omega) (k % 64) hb
      rw [show 2048 + 64 * (k / 64 - 32) + k % 64 = k by omega] at this
      exact this
    · rcases Nat.lt_or_ge (k / 64) 96 with q3 | q3
      · have := cnt13c (k / 64 - 64) (by omega) (k % 64) hb
        rw [show 4096 + 64 * (k / 64 - 64) + k % 64 = k by omega] at this
        exact this
      · have := cnt13d (k / 64 - 96) (by omega) (k % 64) hb
        rw [show 6144 + 64 * (k / 64 - 96) + k % 64 = k by omega] at this
        exact this
