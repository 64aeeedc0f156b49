theorem kbit (ks : Int32) : ∀ s, s < 2 → ∀ t, t < 2 → ((ks ||| ((1 : Int32) <<< (nI s &&& 31))) >>> (nI t &&& 31)) &&& 1 = if s = t then 1 else (ks >>> (nI t &&& 31)) &&& 1 := by
  intro s hs t ht
  have h1 : ∀ i, i < 32 → bt 1 i = decide (i = 0) := by decide +kernel
  have h2 : ∀ s, s < 2 → ∀ i, i < 32 → bt ((1 : Int32) <<< (nI s &&& 31)) i = decide (i = s) := by decide +kernel
  apply b_ext
  intro i hi
  rw [b_and, h1 i hi, b_sshr t (by omega) _ hi]
  by_cases hi0 : i = 0
  · subst hi0
    rw [if_pos (by omega), Nat.add_zero, b_or, h2 s hs t (by omega)]
    by_cases hst : s = t
    · subst hst
      rw [if_pos rfl, h1 0 (by omega)]
      simp
    · rw [if_neg hst, b_and, h1 0 (by omega), b_sshr t (by omega) _ (by omega), if_pos (by omega), Nat.add_zero]
      simp [Ne.symm hst]
  · have e : ∀ x : Int32, bt (x &&& 1) i = false := by
      intro x
      rw [b_and, h1 i hi]
      simp [hi0]
    by_cases hst : s = t
    · rw [if_pos hst, h1 i hi]
      simp [hi0]
    · rw [if_neg hst, e]
      simp [hi0]
theorem keep_eq (ct : Int32) (con pg kp ik : Nat → Int32) {s : Nat} (hs : s < 2) : f_X7_keep ct con pg kp ik (nI s) = (f_X7_many (f_X7_brokenBy ct con pg (pg 0)), 0, cpy kp pg (12 * s) 12, upd ik s 1) := by
  have key : ∀ n j, j + n = 12 → it2 (f_X7_keep_b26 ct con pg ik (nI s)) default (n + 1) (nI j) (cpy kp pg (12 * s) j) = (f_X7_many (f_X7_brokenBy ct con pg (pg 0)), 0, cpy kp pg (12 * s) 12, upd ik s 1) := by
    intro n
    induction n with
    | zero =>
      intro j hj
      have : j = 12 := by omega
      subst this
      rw [it2_s, f_X7_keep_b26, if_pos (by decide), nI_clamp (by omega)]
      rfl
    | succ n ih =>
      intro j hj
      have hlt : ¬ (12 : Int32) ≤ nI j := nI_ge (a := j) (b := 12) (by omega) (by decide)
      have e : (12 * nI s + nI j).toNatClampNeg = 12 * s + j := by
        rw [show (12 : Int32) = nI 12 from rfl, pk_mul, nI_add, nI_clamp (by omega)]
      rw [it2_s, f_X7_keep_b26, if_neg hlt, nI_1, e, nI_clamp (by omega), cpy_s]
      exact ih (j + 1) (by omega)
  unfold f_X7_keep
  have hin : ¬ f_X7_in (nI s).toInt64 0 1 = 0 := by
    rw [in_0_1, if_pos ⟨nI_pos' (by omega), nI_le (b := 1) (by omega) (by decide)⟩]
    decide
  rw [if_pos hin]
  have := key 12 0 rfl
  rw [cpy_0] at this
  exact this
theorem again_eq (ct ac : Int32) (con pg kp ik : Nat → Int32) {s : Nat} (hs : s < 2) (hk : ¬ ik s = 0) : f_X7_again ct ac con pg kp ik (nI s) = (f_X7_many (f_X7_brokenBy ct con (cpy pg (fun q => kp (12 * s + q)) 0 12) (kp (12 * s))), 0, 0, cpy pg (fun q => kp (12 * s + q)) 0 12) := by
  have key : ∀ n j, j + n = 12 → it2 (f_X7_again_b31 ct con kp (nI s)) default (n + 1) (nI j) (cpy pg (fun q => kp (12 * s + q)) 0 j) = (f_X7_many (f_X7_brokenBy ct con (cpy pg (fun q => kp (12 * s + q)) 0 12) (kp (12 * s))), 0, 0, cpy pg (fun q => kp (12 * s + q)) 0 12) := by
    intro n
    induction n with
    | zero =>
      intro j hj
      have : j = 12 := by omega
      subst this
      rw [it2_s, f_X7_again_b31, if_pos (by decide)]
      rfl
    | succ n ih =>
      intro j hj
      have hlt : ¬ (12 : Int32) ≤ nI j := nI_ge (a := j) (b := 12) (by omega) (by decide)
      have e : (12 * nI s + nI j).toNatClampNeg = 12 * s + j := by
        rw [show (12 : Int32) = nI 12 from rfl, pk_mul, nI_add, nI_clamp (by omega)]
      have hs2 := cpy_s pg (fun q => kp (12 * s + q)) 0 j
      rw [Nat.zero_add] at hs2
      rw [it2_s, f_X7_again_b31, if_neg hlt, nI_1, e, nI_clamp (by omega), hs2]
      exact ih (j + 1) (by omega)
  unfold f_X7_again
  have hin : ¬ f_X7_in (nI s).toInt64 0 1 = 0 := by
    rw [in_0_1, if_pos ⟨nI_pos' (by omega), nI_le (b := 1) (by omega) (by decide)⟩]
    decide
  rw [if_pos hin, nI_clamp (by omega), if_pos hk]
  have := key 12 0 rfl
  rw [cpy_0] at this
  exact this
