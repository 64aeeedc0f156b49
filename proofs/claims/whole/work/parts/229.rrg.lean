/-! slips: few enough to be told one by one -/
theorem sl6_b (x1 x4 : Int32) (h : ¬ x4 = 0) : f_X6_slips_b68 x1 x4 = f_X6_slips_b68 x1 1 := by
  have h1 : ¬ (1 : Int32) = 0 := by decide
  funext k a b c
  simp only [f_X6_slips_b68, h, h1, if_false]
theorem sl7_b (x1 x2 x3 x4 a : Int32) (h : ¬ x4 = 0) : f_X7_slips_b74 x1 x2 x3 x4 a = f_X7_slips_b74 x1 x2 x3 1 a := by
  have h1 : ¬ (1 : Int32) = 0 := by decide
  funext k b c
  simp only [f_X7_slips_b74, h, h1, if_false]
theorem sl7_b52 (x1 x2 x3 x4 : Int32) (h : ¬ x4 = 0) : f_X7_slips_b52 x1 x2 x3 x4 = f_X7_slips_b52 x1 x2 x3 1 := by
  funext k a b
  simp only [f_X7_slips_b52, sl7_b x1 x2 x3 x4 _ h]
theorem sl6_1 (x1 x2 x3 x4 : Int32) (h : ¬ x4 = 0) : f_X6_slips x1 x2 x3 x4 = f_X6_slips x1 x2 x3 1 := by
  simp only [f_X6_slips, sl6_b x1 x4 h]
theorem sl7_1 (x1 x2 x3 x4 : Int32) (h : ¬ x4 = 0) : f_X7_slips x1 x2 x3 x4 = f_X7_slips x1 x2 x3 1 := by
  simp only [f_X7_slips, sl7_b52 x1 x2 x3 x4 h]
set_option maxRecDepth 100000 in
theorem sl_1 : ∀ k, k ≤ 1 → ∀ x, x < 11 → (f_X7_slips 1 (nI k) (nI x) 0 = (f_X6_slips 1 (nI k) (nI x) 0, 0) ∧ f_X7_slips 1 (nI k) (nI x) 1 = (f_X6_slips 1 (nI k) (nI x) 1, 0)) := by decide +kernel
set_option maxRecDepth 100000 in
theorem sl_2 : ∀ k, k ≤ 2 → ∀ x, x < 11 → (f_X7_slips 2 (nI k) (nI x) 0 = (f_X6_slips 2 (nI k) (nI x) 0, 0) ∧ f_X7_slips 2 (nI k) (nI x) 1 = (f_X6_slips 2 (nI k) (nI x) 1, 0)) := by decide +kernel
set_option maxRecDepth 100000 in
theorem sl_3 : ∀ k, k ≤ 3 → ∀ x, x < 11 → (f_X7_slips 3 (nI k) (nI x) 0 = (f_X6_slips 3 (nI k) (nI x) 0, 0) ∧ f_X7_slips 3 (nI k) (nI x) 1 = (f_X6_slips 3 (nI k) (nI x) 1, 0)) := by decide +kernel
set_option maxRecDepth 100000 in
theorem sl_4 : ∀ k, k ≤ 4 → ∀ x, x < 11 → (f_X7_slips 4 (nI k) (nI x) 0 = (f_X6_slips 4 (nI k) (nI x) 0, 0) ∧ f_X7_slips 4 (nI k) (nI x) 1 = (f_X6_slips 4 (nI k) (nI x) 1, 0)) := by decide +kernel
set_option maxRecDepth 100000 in
theorem sl_5 : ∀ k, k ≤ 5 → ∀ x, x < 11 → (f_X7_slips 5 (nI k) (nI x) 0 = (f_X6_slips 5 (nI k) (nI x) 0, 0) ∧ f_X7_slips 5 (nI k) (nI x) 1 = (f_X6_slips 5 (nI k) (nI x) 1, 0)) := by decide +kernel
set_option maxRecDepth 100000 in
theorem sl_6 : ∀ k, k ≤ 6 → ∀ x, x < 11 → (f_X7_slips 6 (nI k) (nI x) 0 = (f_X6_slips 6 (nI k) (nI x) 0, 0) ∧ f_X7_slips 6 (nI k) (nI x) 1 = (f_X6_slips 6 (nI k) (nI x) 1, 0)) := by decide +kernel
theorem slips_eq (x1 x2 x3 x4 : Int32) : f_X7_slips x1 x2 x3 x4 = (f_X6_slips x1 x2 x3 x4, 0) := by
  have hin := in_1_6 x1
  have hin2 := in_0e x2 x1
  have hin3 := in_0_10 x3
  by_cases h : (1 ≤ x1 ∧ x1 ≤ 6) ∧ (0 ≤ x2 ∧ x2 ≤ x1) ∧ (0 ≤ x3 ∧ x3 ≤ 10)
  · obtain ⟨h1, h2, h3⟩ := h
    obtain ⟨n, hn, rfl⟩ := nI_ex (n := 7) (k := 7) (by decide) (show 0 ≤ x1 by grind) (by grind)
    obtain ⟨k, hk, rfl⟩ := nI_ex (n := 7) (k := 7) (by decide) h2.1 (by grind)
    obtain ⟨x, hx, rfl⟩ := nI_ex (n := 11) (k := 11) (by decide) h3.1 (by grind)
    have hkn : k ≤ n := (nI_leI (by omega) (by omega)).mp h2.2
    have hn1 : 1 ≤ n := (nI_leI (a := 1) (by omega) (by omega)).mp h1.1
    have hall : (f_X7_slips (nI n) (nI k) (nI x) 0 = (f_X6_slips (nI n) (nI k) (nI x) 0, 0) ∧ f_X7_slips (nI n) (nI k) (nI x) 1 = (f_X6_slips (nI n) (nI k) (nI x) 1, 0)) := by
      have : n = 1 ∨ n = 2 ∨ n = 3 ∨ n = 4 ∨ n = 5 ∨ n = 6 := by omega
      rcases this with rfl | rfl | rfl | rfl | rfl | rfl
      · exact sl_1 k hkn x hx
      · exact sl_2 k hkn x hx
      · exact sl_3 k hkn x hx
      · exact sl_4 k hkn x hx
      · exact sl_5 k hkn x hx
      · exact sl_6 k hkn x hx
    by_cases h4 : x4 = 0
    · rw [h4]; exact hall.1
    · rw [sl7_1 _ _ _ _ h4, sl6_1 _ _ _ _ h4]; exact hall.2
  · have e6 : f_X6_slips x1 x2 x3 x4 = -2 := by
      unfold f_X6_slips
      grind
    have e7 : f_X7_slips x1 x2 x3 x4 = (-2, 0) := by
      unfold f_X7_slips
      rw [hin, hin2, hin3]
      grind
    rw [e6, e7]
