theorem l64_lt {x y : Int32} : x.toInt64 < y.toInt64 ↔ x < y := by rw [Int64.lt_iff_toInt_lt, Int32.toInt_toInt64, Int32.toInt_toInt64, ← toI_lt]
theorem in_i (x a b : Int32) : f_X7_in x.toInt64 a.toInt64 b.toInt64 = if a ≤ x ∧ x ≤ b then 1 else 0 := by
  unfold f_X7_in
  rw [lg_cmp_lt, lg_cmp_gt, l64_lt, l64_lt]
  split
  · rw [if_neg (by grind)]
  · split
    · rw [if_neg (by grind)]
    · rw [if_pos (by grind)]
theorem in_0e (x b : Int32) : f_X7_in x.toInt64 0 b.toInt64 = if 0 ≤ x ∧ x ≤ b then 1 else 0 := in_i x 0 b
theorem in_0_255 (x : Int32) : f_X7_in x.toInt64 0 255 = if 0 ≤ x ∧ x ≤ 255 then 1 else 0 := in_i x 0 255
theorem in_0_13 (x : Int32) : f_X7_in x.toInt64 0 13 = if 0 ≤ x ∧ x ≤ 13 then 1 else 0 := in_i x 0 13
theorem in_0_11 (x : Int32) : f_X7_in x.toInt64 0 11 = if 0 ≤ x ∧ x ≤ 11 then 1 else 0 := in_i x 0 11
theorem in_0_3 (x : Int32) : f_X7_in x.toInt64 0 3 = if 0 ≤ x ∧ x ≤ 3 then 1 else 0 := in_i x 0 3
theorem in_0_8191 (x : Int32) : f_X7_in x.toInt64 0 8191 = if 0 ≤ x ∧ x ≤ 8191 then 1 else 0 := in_i x 0 8191
theorem in_2_6 (x : Int32) : f_X7_in x.toInt64 2 6 = if 2 ≤ x ∧ x ≤ 6 then 1 else 0 := in_i x 2 6
theorem in_0_12 (x : Int32) : f_X7_in x.toInt64 0 12 = if 0 ≤ x ∧ x ≤ 12 then 1 else 0 := in_i x 0 12
theorem in_0_1 (x : Int32) : f_X7_in x.toInt64 0 1 = if 0 ≤ x ∧ x ≤ 1 then 1 else 0 := in_i x 0 1
theorem in_1_10 (x : Int32) : f_X7_in x.toInt64 1 10 = if 1 ≤ x ∧ x ≤ 10 then 1 else 0 := in_i x 1 10
theorem in_1_6 (x : Int32) : f_X7_in x.toInt64 1 6 = if 1 ≤ x ∧ x ≤ 6 then 1 else 0 := in_i x 1 6
theorem in_0_10 (x : Int32) : f_X7_in x.toInt64 0 10 = if 0 ≤ x ∧ x ≤ 10 then 1 else 0 := in_i x 0 10
theorem in_1_40 (x : Int32) : f_X7_in x.toInt64 1 40 = if 1 ≤ x ∧ x ≤ 40 then 1 else 0 := in_i x 1 40
theorem nc_eq (c x : Int32) (h0 : 0 ≤ c) (h1 : c ≤ 5) : f_X7_noContract c x = if 0 ≤ x ∧ x < c then 0 else 1 := by
  unfold f_X7_noContract
  rw [in_0e]
  by_cases h : 0 ≤ x ∧ x < c
  · rw [if_pos h, if_pos (show 0 ≤ x ∧ x ≤ c - 1 by grind), if_pos (by decide)]
  · rw [if_neg h, if_neg (show ¬ (0 ≤ x ∧ x ≤ c - 1) by grind), if_neg (by decide)]
theorem np_eq (x : Int32) : f_X7_noPlace x = if 0 ≤ x ∧ x ≤ 13 then 0 else 1 := by
  unfold f_X7_noPlace
  rw [in_0_13]
  by_cases h : 0 ≤ x ∧ x ≤ 13
  · rw [if_pos h, if_pos (by decide)]
  · rw [if_neg h, if_neg (by decide)]
