theorem dzO_ok (a b c d : Int32) (h : a + b + c + d = 0) : dzO (decide (a = 0)) (decide (b = 0)) (decide (c = 0)) (decide (d = 0)) (decide (a + b = 0)) (decide (a + c = 0)) (decide (a + d = 0)) = true := by
  unfold dzO
  simp only [Bool.and_eq_true, Bool.or_eq_true, Bool.not_eq_true', beq_iff_eq, decide_eq_false_iff_not, decide_eq_decide]
  refine ⟨⟨⟨?_, ?_⟩, ?_⟩, ?_⟩
  · by_cases z : a = 0
    · exact Or.inr ⟨⟨(by constructor <;> intro hh <;> grind), (by constructor <;> intro hh <;> grind)⟩, (by constructor <;> intro hh <;> grind)⟩
    · exact Or.inl z
  · by_cases z : b = 0
    · exact Or.inr ⟨⟨(by constructor <;> intro hh <;> grind), (by constructor <;> intro hh <;> grind)⟩, (by constructor <;> intro hh <;> grind)⟩
    · exact Or.inl z
  · by_cases z : c = 0
    · exact Or.inr ⟨⟨(by constructor <;> intro hh <;> grind), (by constructor <;> intro hh <;> grind)⟩, (by constructor <;> intro hh <;> grind)⟩
    · exact Or.inl z
  · by_cases z : d = 0
    · exact Or.inr ⟨⟨(by constructor <;> intro hh <;> grind), (by constructor <;> intro hh <;> grind)⟩, (by constructor <;> intro hh <;> grind)⟩
    · exact Or.inl z
