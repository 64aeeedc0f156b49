theorem pay_79 (o : Nat → Int32) (x52 x68 : Int32) (w : Nat → Int32) (k68 : Int32 → (Nat → Int32) → Int32 × Int32 × (Nat → Int32) × (Nat → Int32)) : it2 (f_X7_payings_b79 o x52 x68 w k68) default (((4 : Int32).toInt - (0 : Int32).toInt).toNat + 1) 0 0 = if ¬ (x68 &&& (x52 ^^^ ((-1)))) = 0 then k68 (x68 + 1) w else if ¬ ((((0 + (if f_X7_has x68 0 = 0 then 0 else o 0)) + (if f_X7_has x68 (0 + 1) = 0 then 0 else o 1)) + (if f_X7_has x68 (0 + 1 + 1) = 0 then 0 else o 2)) + (if f_X7_has x68 (0 + 1 + 1 + 1) = 0 then 0 else o 3)) = 0 then k68 (x68 + 1) w else if (w (x52 &&& (x68 ^^^ ((-1)))).toNatClampNeg) = ((-9)) then k68 (x68 + 1) w else if ((w (x52 &&& (x68 ^^^ ((-1)))).toNatClampNeg) + 1) ≤ (w x52.toNatClampNeg) then k68 (x68 + 1) w else k68 (x68 + 1) (upd w x52.toNatClampNeg ((w (x52 &&& (x68 ^^^ ((-1)))).toNatClampNeg) + 1)) := by
  have jj : ∀ (a b : Int32) (k : Int32 → Int32 → Int32 × Int32 × (Nat → Int32) × (Nat → Int32)) (c v : Int32), (if c = 0 then f_X7_payings_j107 a b k 0 else f_X7_payings_j107 a b k v) = k (a + (if c = 0 then 0 else v)) (b + 1) := by
    intro a b k c v
    unfold f_X7_payings_j107
    split <;> rfl
  rw [show ((4 : Int32).toInt - (0 : Int32).toInt).toNat + 1 = 5 from by decide]
  rw [it2_s, f_X7_payings_b79, if_neg (by decide), jj, it2_s, f_X7_payings_b79, if_neg (by decide), jj, it2_s, f_X7_payings_b79, if_neg (by decide), jj, it2_s, f_X7_payings_b79, if_neg (by decide), jj, it2_s, f_X7_payings_b79, if_pos (by decide)]
  rfl
theorem rest_le : ∀ s, s < 16 → ∀ m, m < 16 → (nI s &&& (nI m ^^^ (-1))).toNatClampNeg ≤ s := by decide +kernel
theorem pay_68 {o : Nat → Int32} {Z : Nat → Bool} (hS : ∀ m, m < 16 → (((((0 + (if f_X7_has (nI m) 0 = 0 then 0 else o 0)) + (if f_X7_has (nI m) (0 + 1) = 0 then 0 else o 1)) + (if f_X7_has (nI m) (0 + 1 + 1) = 0 then 0 else o 2)) + (if f_X7_has (nI m) (0 + 1 + 1 + 1) = 0 then 0 else o 3) = 0) ↔ Z m = true)) (F : Int32 → Int32) {s : Nat} (hs : s < 16) {k52 : Int32 → (Nat → Int32) → Int32 × Int32 × (Nat → Int32) × (Nat → Int32)} {k52' : Int32 → (Nat → Int32) → Int32} (hk : ∀ w w' : Nat → Int32, (∀ p, p ≤ s → w p = w' p) → (k52 (nI (s + 1)) w).1 = F (k52' (nI (s + 1)) w')) : ∀ (n m : Nat), m + n = s + 1 → ∀ w w' : Nat → Int32, (∀ p, p ≤ s → w p = w' p) → (it2 (f_X7_payings_b68 o (nI s) k52) default (n + 1) (nI m) w).1 = F (it2 (dz68 Z (nI s) k52') default (n + 1) (nI m) w') := by
  intro n
  induction n with
  | zero =>
    intro m hm w w' hw
    have : m = s + 1 := by omega
    subst this
    have hlt : nI s < nI (s + 1) := nI_lt (by omega) (by omega)
    rw [it2_s, it2_s, f_X7_payings_b68, dz68, if_pos hlt, if_pos hlt, nI_1]
    exact hk w w' hw
  | succ n ih =>
    intro m hm w w' hw
    have hlt : ¬ nI s < nI m := nI_nlt (a := s) (b := m) (by omega) (by omega)
    have hm16 : m < 16 := by omega
    have hr := hw _ (rest_le s hs m hm16)
    have hws := hw s (Nat.le_refl s)
    have ih0 := ih (m + 1) (by omega) w w' hw
    rw [it2_s, it2_s, f_X7_payings_b68, dz68, if_neg hlt, if_neg hlt, pay_79, nI_1, nI_clamp (show s < 2 ^ 31 by omega), nI_clamp (show m < 2 ^ 31 by omega), hr, hws]
    have hSm := hS m hm16
    revert hSm
    generalize hSg : ((((0 + (if f_X7_has (nI m) 0 = 0 then 0 else o 0)) + (if f_X7_has (nI m) (0 + 1) = 0 then 0 else o 1)) + (if f_X7_has (nI m) (0 + 1 + 1) = 0 then 0 else o 2)) + (if f_X7_has (nI m) (0 + 1 + 1 + 1) = 0 then 0 else o 3)) = S
    intro hSm
    by_cases c1 : nI m &&& (nI s ^^^ (-1)) = 0
    · by_cases c2 : Z m = true
      · have c5 : S = 0 := hSm.mpr c2
        have c6 : (true = false) = False := eq_false (by decide)
        by_cases c3 : w' (nI s &&& (nI m ^^^ (-1))).toNatClampNeg = (-9)
        · simp only [c1, c2, c3, c5, c6, eq_self, not_true_eq_false, not_false_eq_true, if_true, if_false]
          exact ih0
        · by_cases c4 : w' (nI s &&& (nI m ^^^ (-1))).toNatClampNeg + 1 ≤ w' s
          · simp only [c1, c2, c3, c4, c5, c6, eq_self, not_true_eq_false, not_false_eq_true, if_true, if_false]
            exact ih0
          · simp only [c1, c2, c3, c4, c5, c6, eq_self, not_true_eq_false, not_false_eq_true, if_true, if_false]
            refine ih (m + 1) (by omega) _ _ (fun p hp => ?_)
            unfold upd
            by_cases hps : p = s
            · rw [if_pos hps, if_pos hps]
            · rw [if_neg hps, if_neg hps]
              exact hw p hp
      · have c5 : ¬ S = 0 := fun q => c2 (hSm.mp q)
        have c6 : Z m = false := by simpa using c2
        simp only [c1, c5, c6, eq_self, not_true_eq_false, not_false_eq_true, if_true, if_false]
        exact ih0
    · simp only [c1, eq_self, not_true_eq_false, not_false_eq_true, if_true, if_false]
      exact ih0
theorem pay_52 {o : Nat → Int32} {Z : Nat → Bool} (hS : ∀ m, m < 16 → (((((0 + (if f_X7_has (nI m) 0 = 0 then 0 else o 0)) + (if f_X7_has (nI m) (0 + 1) = 0 then 0 else o 1)) + (if f_X7_has (nI m) (0 + 1 + 1) = 0 then 0 else o 2)) + (if f_X7_has (nI m) (0 + 1 + 1 + 1) = 0 then 0 else o 3) = 0) ↔ Z m = true)) {M : Int32} (hM : M.toNatClampNeg < 16) : ∀ (n s : Nat), s + n = 16 → ∀ w w' : Nat → Int32, (∀ p, p < s → w p = w' p) → (it2 (f_X7_payings_b52 o M) default (n + 1) (nI s) w).1 = f_X7_many M - it2 (dz52 Z M) default (n + 1) (nI s) w' := by
  have hfu : ∀ s, s < 16 → ((nI s).toInt + 1 - (1 : Int32).toInt).toNat + 1 = s + 1 := by decide
  intro n
  induction n with
  | zero =>
    intro s hs w w' hw
    have : s = 16 := by omega
    subst this
    rw [it2_s, it2_s, f_X7_payings_b52, dz52, if_pos (by decide), if_pos (by decide)]
    rw [hw _ hM]
  | succ n ih =>
    intro s hs w w' hw
    have hlt : ¬ (16 : Int32) ≤ nI s := nI_ge (a := s) (b := 16) (by omega) (by decide)
    rw [it2_s, it2_s, f_X7_payings_b52, dz52, if_neg hlt, if_neg hlt, hfu s (by omega), nI_clamp (show s < 2 ^ 31 by omega)]
    refine pay_68 hS (fun r => f_X7_many M - r) (show s < 16 by omega) (fun w w' hw => ih (s + 1) (by omega) w w' (fun p hp => hw p (by omega))) s 1 (by omega) _ _ (fun p hp => ?_)
    unfold upd
    by_cases hps : p = s
    · rw [if_pos hps, if_pos hps]
    · rw [if_neg hps, if_neg hps]
      exact hw p (by omega)
