/-! a day's name, its words -/
theorem name_eq (V g : Int32) (h0 : 0 ≤ g) (h1 : g ≤ 13) : (if 13 ≤ g then (if 13 ≤ g then f_X7_ofAge_j89 V else if V ≤ g then f_X7_ofAge_j89 V else f_X7_ofAge_j89 (V - 1)) else if ¬ V = g then (if 13 ≤ g then f_X7_ofAge_j89 V else if V ≤ g then f_X7_ofAge_j89 V else f_X7_ofAge_j89 (V - 1)) else (12, 0)) = (f_X6_nameOf V g, 0) := by
  unfold f_X7_ofAge_j89 f_X6_nameOf f_X6_nameOf_j14 f_X6_nameOf_j26
  by_cases c1 : 13 ≤ g
  · have : g = 13 := by grind
    subst this
    by_cases c2 : V = 13
    · subst c2
      decide
    · by_cases c3 : 13 ≤ V
      · have c4 : 12 ≤ V := by grind
        have c5 : 12 ≤ V - 1 := by grind
        have c0 : (13 : Int32) ≤ 13 := by decide
        simp only [c0, c2, c3, c4, c5, not_false_eq_true, if_true]
      · have c0 : (13 : Int32) ≤ 13 := by decide
        by_cases c4 : 12 ≤ V <;> simp only [c0, c2, c3, c4, not_false_eq_true, if_true, if_false]
  · by_cases c2 : V = g
    · subst c2
      have c3 : ¬ V = 13 := by
        intro q
        subst q
        exact c1 (by decide)
      simp only [c1, c3, eq_self, not_true_eq_false, if_false]
    · by_cases c3 : V ≤ g
      · have c4 : ¬ g ≤ V := by grind
        by_cases c5 : 12 ≤ V <;> simp only [c1, c2, c3, c4, c5, not_false_eq_true, if_true, if_false]
      · have c4 : g ≤ V := by grind
        by_cases c5 : 12 ≤ V - 1 <;> simp only [c1, c2, c3, c4, c5, not_false_eq_true, if_true, if_false]
