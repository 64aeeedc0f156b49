theorem zt_iff (a b c d : Int32) (h : a + b + c + d = 0) : ∀ m, m < 16 → (((((0 + (if f_X7_has (nI m) 0 = 0 then 0 else a)) + (if f_X7_has (nI m) (0 + 1) = 0 then 0 else b)) + (if f_X7_has (nI m) (0 + 1 + 1) = 0 then 0 else c)) + (if f_X7_has (nI m) (0 + 1 + 1 + 1) = 0 then 0 else d) = 0) ↔ zt (decide (a = 0)) (decide (b = 0)) (decide (c = 0)) (decide (d = 0)) (decide (a + b = 0)) (decide (a + c = 0)) (decide (a + d = 0)) m = true) := by
  intro m hm
  have z10 : ((1 : Int32) = 0) = False := eq_false (by decide)
  have hs : m = 0 ∨ m = 1 ∨ m = 2 ∨ m = 3 ∨ m = 4 ∨ m = 5 ∨ m = 6 ∨ m = 7 ∨ m = 8 ∨ m = 9 ∨ m = 10 ∨ m = 11 ∨ m = 12 ∨ m = 13 ∨ m = 14 ∨ m = 15 := by omega
  rcases hs with rfl | rfl | rfl | rfl | rfl | rfl | rfl | rfl | rfl | rfl | rfl | rfl | rfl | rfl | rfl | rfl
  · show _ ↔ true = true
    have t0 : f_X7_has (nI 0) 0 = 0 := by decide
    have t1 : f_X7_has (nI 0) (0 + 1) = 0 := by decide
    have t2 : f_X7_has (nI 0) (0 + 1 + 1) = 0 := by decide
    have t3 : f_X7_has (nI 0) (0 + 1 + 1 + 1) = 0 := by decide
    simp only [t0, t1, t2, t3, z10, if_true, if_false, decide_eq_true_eq]
    grind
  · show _ ↔ decide (a = 0) = true
    have t0 : f_X7_has (nI 1) 0 = 1 := by decide
    have t1 : f_X7_has (nI 1) (0 + 1) = 0 := by decide
    have t2 : f_X7_has (nI 1) (0 + 1 + 1) = 0 := by decide
    have t3 : f_X7_has (nI 1) (0 + 1 + 1 + 1) = 0 := by decide
    simp only [t0, t1, t2, t3, z10, if_true, if_false, decide_eq_true_eq]
    grind
  · show _ ↔ decide (b = 0) = true
    have t0 : f_X7_has (nI 2) 0 = 0 := by decide
    have t1 : f_X7_has (nI 2) (0 + 1) = 1 := by decide
    have t2 : f_X7_has (nI 2) (0 + 1 + 1) = 0 := by decide
    have t3 : f_X7_has (nI 2) (0 + 1 + 1 + 1) = 0 := by decide
    simp only [t0, t1, t2, t3, z10, if_true, if_false, decide_eq_true_eq]
    grind
  · show _ ↔ decide (a + b = 0) = true
    have t0 : f_X7_has (nI 3) 0 = 1 := by decide
    have t1 : f_X7_has (nI 3) (0 + 1) = 1 := by decide
    have t2 : f_X7_has (nI 3) (0 + 1 + 1) = 0 := by decide
    have t3 : f_X7_has (nI 3) (0 + 1 + 1 + 1) = 0 := by decide
    simp only [t0, t1, t2, t3, z10, if_true, if_false, decide_eq_true_eq]
    grind
  · show _ ↔ decide (c = 0) = true
    have t0 : f_X7_has (nI 4) 0 = 0 := by decide
    have t1 : f_X7_has (nI 4) (0 + 1) = 0 := by decide
    have t2 : f_X7_has (nI 4) (0 + 1 + 1) = 1 := by decide
    have t3 : f_X7_has (nI 4) (0 + 1 + 1 + 1) = 0 := by decide
    simp only [t0, t1, t2, t3, z10, if_true, if_false, decide_eq_true_eq]
    grind
  · show _ ↔ decide (a + c = 0) = true
    have t0 : f_X7_has (nI 5) 0 = 1 := by decide
    have t1 : f_X7_has (nI 5) (0 + 1) = 0 := by decide
    have t2 : f_X7_has (nI 5) (0 + 1 + 1) = 1 := by decide
    have t3 : f_X7_has (nI 5) (0 + 1 + 1 + 1) = 0 := by decide
    simp only [t0, t1, t2, t3, z10, if_true, if_false, decide_eq_true_eq]
    grind
  · show _ ↔ decide (a + d = 0) = true
    have t0 : f_X7_has (nI 6) 0 = 0 := by decide
    have t1 : f_X7_has (nI 6) (0 + 1) = 1 := by decide
    have t2 : f_X7_has (nI 6) (0 + 1 + 1) = 1 := by decide
    have t3 : f_X7_has (nI 6) (0 + 1 + 1 + 1) = 0 := by decide
    simp only [t0, t1, t2, t3, z10, if_true, if_false, decide_eq_true_eq]
    grind
  · show _ ↔ decide (d = 0) = true
    have t0 : f_X7_has (nI 7) 0 = 1 := by decide
    have t1 : f_X7_has (nI 7) (0 + 1) = 1 := by decide
    have t2 : f_X7_has (nI 7) (0 + 1 + 1) = 1 := by decide
    have t3 : f_X7_has (nI 7) (0 + 1 + 1 + 1) = 0 := by decide
    simp only [t0, t1, t2, t3, z10, if_true, if_false, decide_eq_true_eq]
    grind
  · show _ ↔ decide (d = 0) = true
    have t0 : f_X7_has (nI 8) 0 = 0 := by decide
    have t1 : f_X7_has (nI 8) (0 + 1) = 0 := by decide
    have t2 : f_X7_has (nI 8) (0 + 1 + 1) = 0 := by decide
    have t3 : f_X7_has (nI 8) (0 + 1 + 1 + 1) = 1 := by decide
    simp only [t0, t1, t2, t3, z10, if_true, if_false, decide_eq_true_eq]
    grind
  · show _ ↔ decide (a + d = 0) = true
    have t0 : f_X7_has (nI 9) 0 = 1 := by decide
    have t1 : f_X7_has (nI 9) (0 + 1) = 0 := by decide
    have t2 : f_X7_has (nI 9) (0 + 1 + 1) = 0 := by decide
    have t3 : f_X7_has (nI 9) (0 + 1 + 1 + 1) = 1 := by decide
    simp only [t0, t1, t2, t3, z10, if_true, if_false, decide_eq_true_eq]
    grind
  · show _ ↔ decide (a + c = 0) = true
    have t0 : f_X7_has (nI 10) 0 = 0 := by decide
    have t1 : f_X7_has (nI 10) (0 + 1) = 1 := by decide
    have t2 : f_X7_has (nI 10) (0 + 1 + 1) = 0 := by decide
    have t3 : f_X7_has (nI 10) (0 + 1 + 1 + 1) = 1 := by decide
    simp only [t0, t1, t2, t3, z10, if_true, if_false, decide_eq_true_eq]
    grind
  · show _ ↔ decide (c = 0) = true
    have t0 : f_X7_has (nI 11) 0 = 1 := by decide
    have t1 : f_X7_has (nI 11) (0 + 1) = 1 := by decide
    have t2 : f_X7_has (nI 11) (0 + 1 + 1) = 0 := by decide
    have t3 : f_X7_has (nI 11) (0 + 1 + 1 + 1) = 1 := by decide
    simp only [t0, t1, t2, t3, z10, if_true, if_false, decide_eq_true_eq]
    grind
  · show _ ↔ decide (a + b = 0) = true
    have t0 : f_X7_has (nI 12) 0 = 0 := by decide
    have t1 : f_X7_has (nI 12) (0 + 1) = 0 := by decide
    have t2 : f_X7_has (nI 12) (0 + 1 + 1) = 1 := by decide
    have t3 : f_X7_has (nI 12) (0 + 1 + 1 + 1) = 1 := by decide
    simp only [t0, t1, t2, t3, z10, if_true, if_false, decide_eq_true_eq]
    grind
  · show _ ↔ decide (b = 0) = true
    have t0 : f_X7_has (nI 13) 0 = 1 := by decide
    have t1 : f_X7_has (nI 13) (0 + 1) = 0 := by decide
    have t2 : f_X7_has (nI 13) (0 + 1 + 1) = 1 := by decide
    have t3 : f_X7_has (nI 13) (0 + 1 + 1 + 1) = 1 := by decide
    simp only [t0, t1, t2, t3, z10, if_true, if_false, decide_eq_true_eq]
    grind
  · show _ ↔ decide (a = 0) = true
    have t0 : f_X7_has (nI 14) 0 = 0 := by decide
    have t1 : f_X7_has (nI 14) (0 + 1) = 1 := by decide
    have t2 : f_X7_has (nI 14) (0 + 1 + 1) = 1 := by decide
    have t3 : f_X7_has (nI 14) (0 + 1 + 1 + 1) = 1 := by decide
    simp only [t0, t1, t2, t3, z10, if_true, if_false, decide_eq_true_eq]
    grind
  · show _ ↔ true = true
    have t0 : f_X7_has (nI 15) 0 = 1 := by decide
    have t1 : f_X7_has (nI 15) (0 + 1) = 1 := by decide
    have t2 : f_X7_has (nI 15) (0 + 1 + 1) = 1 := by decide
    have t3 : f_X7_has (nI 15) (0 + 1 + 1 + 1) = 1 := by decide
    simp only [t0, t1, t2, t3, z10, if_true, if_false, decide_eq_true_eq]
    grind
