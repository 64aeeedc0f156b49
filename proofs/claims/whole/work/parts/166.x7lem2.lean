theorem dv_loop : ∀ (n : Nat) (p q : Int32), 0 ≤ p → 0 ≤ q → (0 < p ∨ 0 < q) → q.toInt.toNat < n → 0 < it2 f_X7_divisor_b4 default n p q := by
  intro n
  induction n with
  | zero => intro p q _ _ _ h; exact absurd h (Nat.not_lt_zero _)
  | succ n ih =>
    intro p q hp hq hpq hm
    rw [it2_s, f_X7_divisor_b4]
    by_cases h : q = 0
    · rw [if_pos h]
      grind
    · rw [if_neg h]
      exact ih q _ hq (rem_bd hp (by grind)).1 (Or.inl (by grind)) (mu_rem hp hq h hm)
theorem dv_pos {a b : Int32} (h0 : 0 ≤ a) (h1 : 0 < b) : ¬ f_X7_divisor a b = 0 := by
  have := dv_loop (b.toInt.toNat + 1) a b h0 (by grind) (Or.inr h1) (Nat.lt_succ_self _)
  unfold f_X7_divisor
  grind
