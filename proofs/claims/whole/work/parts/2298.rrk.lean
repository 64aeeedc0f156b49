theorem zt_iff (a b c d : Int32) (h : a + b + c + d = 0) : ∀ m, m < 16 → (((((0 + (if f_X7_has (nI m) 0 = 0 then 0 else a)) + (if f_X7_has (nI m) (0 + 1) = 0 then 0 else b)) + (if f_X7_has (nI m) (0 + 1 + 1) = 0 then 0 else c)) + (if f_X7_has (nI m) (0 + 1 + 1 + 1) = 0 then 0 else d) = 0) ↔ zt (decide (a = 0)) (decide (b = 0)) (decide (c = 0)) (decide (d = 0)) (decide (a + b = 0)) (decide (a + c = 0)) (decide (a + d = 0)) m = true) := by
  intro m hm
  have z10 : ((1 : Int32) = 0) = False := eq_false (by decide)
  have hs : m = 0 ∨ m = 1 ∨ m = 2 ∨ m = 3 ∨ m = 4 ∨ m = 5 ∨ m = 6 ∨ m = 7 ∨ m = 8 ∨ m = 9 ∨ m = 10 ∨ m = 11 ∨ m = 12 ∨ m = 13 ∨ m = 14 ∨ m = 15 := by omega
  rcases hs with rfl | rfl | rfl | rfl | rfl | rfl | rfl | rfl | rfl | rfl | rfl | rfl | rfl | rfl | rfl | rfl
  · show _ ↔ true = true
    have t0 : f_X7_has (nI 0) 0 = 0 := by decide
    have t1 : f_X7_has (nI 0) (0 + 1) = 0 := by decide
    have t2 : f_X7_has (nI 0) (0 + 1 + 1) = 0 := by decide
    have t3 : f_X7_has (nI 0) (0 + 1 + 1 + 1) = 0 := by decide
    simp only [t0, t1, t2, t3, z10, if_true, if_false, decide_eq_true_eq]
    grind
  · show _ ↔ decide (a = 0) = true
    have t0 : f_X7_has (nI 1) 0 = 1 := by decide
    have t1 : f_X7_has (nI 1) (0 + 1) = 0 := by decide
    have t2 : f_X7_has (nI 1) (0 + 1 + 1) = 0 := by decide
    have t3 : f_X7_has (nI 1) (0 + 1 + 1 + 1) = 0 := by decide
    simp only [t0, t1, t2, t3, z10, if_true, if_false, decide_eq_true_eq]
    grind
  · show _ ↔ decide (b = 0) = true
    have t0 : f_X7_has (nI 2) 0 = 0 := by decide
    have t1 : f_X7_has (nI 2) (0 + 1) = 1 := by decide
    have t2 : f_X7_has (nI 2) (0 + 1 + 1) = 0 := by decide
    have t3 : f_X7_has (nI 2) (0 + 1 + 1 + 1) = 0 := by decide
    simp only [t0, t1, t2, t3, z10, if_true, if_false, decide_eq_true_eq]
    grind
  · show _ ↔ decide (a + b = 0) = true
    have t0 : f_X7_has (nI 3) 0 = 1 := by decide
    have t1 : f_X7_has (nI 3) (0 + 1) = 1 := by decide
    have t2 : f_X7_has (nI 3) (0 + 1 + 1) = 0 := by decide
    have t3 : f_X7_has (nI 3) (0 + 1 + 1 + 1) = 0 := by decide
    simp only [t0, t1, t2, t3, z10, if_true, if_false, decide_eq_true_eq]
    grind
  · show _ ↔ decide (c = 0) = true
    have t0 : f_X7_has (nI 4) 0 = 0 := by decide
    have t1 : f_X7_has (nI 4) (0 + 1) = 0 := by decide
    have t2 : f_X7_has (nI 4) (0 + 1 + 1) = 1 := by decide
    have t3 : f_X7_has (nI 4) (0 + 1 + 1 + 1) = 0 := by decide
    simp only [t0, t1, t2, t3, z10, if_true, if_false, decide_eq_true_eq]
    grind
  · show _ ↔ decide (a + c = 0) = true
    have t0 : f_X7_has (nI 5) 0 = 1 := by decide
    have t1 : f_X7_has (nI 5) (0 + 1) = 0 := by decide
    have t2 : f_X7_has (nI 5) (0 + 1 + 1) = 1 := by decide
    have t3 : f_X7_has (nI 5) (0 + 1 + 1 + 1) = 0 := by decide
    simp only [t0, t1, t2, t3, z10, if_true, if_false, decide_eq_true_eq]
    grind
  · show _ ↔ decide (a + d = 0) = true
    have t0 : f_X7_has (nI 6) 0 = 0 := by decide
    have t1 : f_X7_has (nI 6) (0 + 1) = 1 := by decide
    have t2 : f_X7_has (nI 6) (0 + 1 + 1) = 1 := by decide
    have t3 : f_X7_has (nI 6) (0 + 1 + 1 + 1) = 0 := by decide
    simp only [t0, t1, t2, t3, z10, if_true, if_false, decide_eq_true_eq]
    grind
  · show _ ↔ decide (d = 0) = true
    have t0 : f_X7_has (nI 7) 0 = 1 := by decide
    have t1 : f_X7_has (nI 7) (0 + 1) = 1 := by decide
    have t2 : f_X7_has (nI 7) (0 + 1 + 1) = 1 := by decide
    have t3 : f_X7_has (nI 7) (0 + 1 + 1 + 1) = 0 := by decide
    simp only [t0, t1, t2, t3, z10, if_true, if_false, decide_eq_true_eq]
    grind
  · show _ ↔ decide (d = 0) = true
    have t0 : f_X7_has (nI 8) 0 = 0 := by decide
    have t1 : f_X7_has (nI 8) (0 + 1) = 0 := by decide
    have t2 : f_X7_has (nI 8) (0 + 1 + 1) = 0 := by decide
    have t3 : f_X7_has (nI 8) (0 + 1 + 1 + 1) = 1 := by decide
    simp only [t0, t1, t2, t3, z10, if_true, if_false, decide_eq_true_eq]
    grind
  · show _ ↔ decide (a + d = 0) = true
    have t0 : f_X7_has (nI 9) 0 = 1 := by decide
    have t1 : f_X7_has (nI 9) (0 + 1) = 0 := by decide
    have t2 : f_X7_has (nI 9) (0 + 1 + 1) = 0 := by decide
    have t3 : f_X7_has (nI 9) (0 + 1 + 1 + 1) = 1 := by decide
    simp only [t0, t1, t2, t3, z10, if_true, if_false, decide_eq_true_eq]
    grind
  · show _ ↔ decide (a + c = 0) = true
    have t0 : f_X7_has (nI 10) 0 = 0 := by decide
    have t1 : f_X7_has (nI 10) (0 + 1) = 1 := by decide
    have t2 : f_X7_has (nI 10) (0 + 1 + 1) = 0 := by decide
    have t3 : f_X7_has (nI 10) (0 + 1 + 1 + 1) = 1 := by decide
    simp only [t0, t1, t2, t3, z10, if_true, if_false, decide_eq_true_eq]
    grind
  · show _ ↔ decide (c = 0) = true
    have t0 : f_X7_has (nI 11) 0 = 1 := by decide
    have t1 : f_X7_has (nI 11) (0 + 1) = 1 := by decide
    have t2 : f_X7_has (nI 11) (0 + 1 + 1) = 0 := by decide
    have t3 : f_X7_has (nI 11) (0 + 1 + 1 + 1) = 1 := by decide
    simp only [t0, t1, t2, t3, z10, if_true, if_false, decide_eq_true_eq]
    grind
  · show _ ↔ decide (a + b = 0) = true
    have t0 : f_X7_has (nI 12) 0 = 0 := by decide
    have t1 : f_X7_has (nI 12) (0 + 1) = 0 := by decide
    have t2 : f_X7_has (nI 12) (0 + 1 + 1) = 1 := by decide
    have t3 : f_X7_has (nI 12) (0 + 1 + 1 + 1) = 1 := by decide
    simp only [t0, t1, t2, t3, z10, if_true, if_false, decide_eq_true_eq]
    grind
  · show _ ↔ decide (b = 0) = true
    have t0 : f_X7_has (nI 13) 0 = 1 := by decide
    have t1 : f_X7_has (nI 13) (0 + 1) = 0 := by decide
    have t2 : f_X7_has (nI 13) (0 + 1 + 1) = 1 := by decide
    have t3 : f_X7_has (nI 13) (0 + 1 + 1 + 1) = 1 := by decide
    simp only [t0, t1, t2, t3, z10, if_true, if_false, decide_eq_true_eq]
    grind
  · show _ ↔ decide (a = 0) = true
    have t0 : f_X7_has (nI 14) 0 = 0 := by decide
    have t1 : f_X7_has (nI 14) (0 + 1) = 1 := by decide
    have t2 : f_X7_has (nI 14) (0 + 1 + 1) = 1 := by decide
    have t3 : f_X7_has (nI 14) (0 + 1 + 1 + 1) = 1 := by decide
    simp only [t0, t1, t2, t3, z10, if_true, if_false, decide_eq_true_eq]
    grind
  · show _ ↔ true = true
    have t0 : f_X7_has (nI 15) 0 = 1 := by decide
    have t1 : f_X7_has (nI 15) (0 + 1) = 1 := by decide
    have t2 : f_X7_has (nI 15) (0 + 1 + 1) = 1 := by decide
    have t3 : f_X7_has (nI 15) (0 + 1 + 1 + 1) = 1 := by decide
    simp only [t0, t1, t2, t3, z10, if_true, if_false, decide_eq_true_eq]
    grind
theorem dzO_ok (a b c d : Int32) (h : a + b + c + d = 0) : dzO (decide (a = 0)) (decide (b = 0)) (decide (c = 0)) (decide (d = 0)) (decide (a + b = 0)) (decide (a + c = 0)) (decide (a + d = 0)) = true := by
  unfold dzO
  simp only [Bool.and_eq_true, Bool.or_eq_true, Bool.not_eq_true', beq_iff_eq, decide_eq_false_iff_not, decide_eq_decide]
  refine ⟨⟨⟨?_, ?_⟩, ?_⟩, ?_⟩ <;> grind
theorem pay_79 (o : Nat → Int32) (x52 x68 : Int32) (w : Nat → Int32) (k68 : Int32 → (Nat → Int32) → Int32 × Int32 × (Nat → Int32) × (Nat → Int32)) : it2 (f_X7_payings_b79 o x52 x68 w k68) default (((4 : Int32).toInt - (0 : Int32).toInt).toNat + 1) 0 0 = if ¬ (x68 &&& (x52 ^^^ ((-1)))) = 0 then k68 (x68 + 1) w else if ¬ ((((0 + (if f_X7_has x68 0 = 0 then 0 else o 0)) + (if f_X7_has x68 (0 + 1) = 0 then 0 else o 1)) + (if f_X7_has x68 (0 + 1 + 1) = 0 then 0 else o 2)) + (if f_X7_has x68 (0 + 1 + 1 + 1) = 0 then 0 else o 3)) = 0 then k68 (x68 + 1) w else if (w (x52 &&& (x68 ^^^ ((-1)))).toNatClampNeg) = ((-9)) then k68 (x68 + 1) w else if ((w (x52 &&& (x68 ^^^ ((-1)))).toNatClampNeg) + 1) ≤ (w x52.toNatClampNeg) then k68 (x68 + 1) w else k68 (x68 + 1) (upd w x52.toNatClampNeg ((w (x52 &&& (x68 ^^^ ((-1)))).toNatClampNeg) + 1)) := by
  have jj : ∀ (a b : Int32) (k : Int32 → Int32 → Int32 × Int32 × (Nat → Int32) × (Nat → Int32)) (c v : Int32), (if c = 0 then f_X7_payings_j107 a b k 0 else f_X7_payings_j107 a b k v) = k (a + (if c = 0 then 0 else v)) (b + 1) := by
    intro a b k c v
    unfold f_X7_payings_j107
    split <;> rfl
  rw [show ((4 : Int32).toInt - (0 : Int32).toInt).toNat + 1 = 5 from by decide]
  rw [it2_s, f_X7_payings_b79, if_neg (by decide), jj, it2_s, f_X7_payings_b79, if_neg (by decide), jj, it2_s, f_X7_payings_b79, if_neg (by decide), jj, it2_s, f_X7_payings_b79, if_neg (by decide), jj, it2_s, f_X7_payings_b79, if_pos (by decide)]
  rfl
theorem rest_le : ∀ s, s < 16 → ∀ m, m < 16 → (nI s &&& (nI m ^^^ (-1))).toNatClampNeg ≤ s := by decide +kernel
theorem pay_68 {o : Nat → Int32} {Z : Nat → Bool} (hS : ∀ m, m < 16 → (((((0 + (if f_X7_has (nI m) 0 = 0 then 0 else o 0)) + (if f_X7_has (nI m) (0 + 1) = 0 then 0 else o 1)) + (if f_X7_has (nI m) (0 + 1 + 1) = 0 then 0 else o 2)) + (if f_X7_has (nI m) (0 + 1 + 1 + 1) = 0 then 0 else o 3) = 0) ↔ Z m = true)) (F : Int32 → Int32) {s : Nat} (hs : s < 16) {k52 : Int32 → (Nat → Int32) → Int32 × Int32 × (Nat → Int32) × (Nat → Int32)} {k52' : Int32 → (Nat → Int32) → Int32} (hk : ∀ w w' : Nat → Int32, (∀ p, p ≤ s → w p = w' p) → (k52 (nI (s + 1)) w).1 = F (k52' (nI (s + 1)) w')) : ∀ (n m : Nat), m + n = s + 1 → ∀ w w' : Nat → Int32, (∀ p, p ≤ s → w p = w' p) → (it2 (f_X7_payings_b68 o (nI s) k52) default (n + 1) (nI m) w).1 = F (it2 (dz68 Z (nI s) k52') default (n + 1) (nI m) w') := by
  intro n
  induction n with
  | zero =>
    intro m hm w w' hw
    have : m = s + 1 := by omega
    subst this
    have hlt : nI s < nI (s + 1) := nI_lt (by omega) (by omega)
    rw [it2_s, it2_s, f_X7_payings_b68, dz68, if_pos hlt, if_pos hlt, nI_1]
    exact hk w w' hw
  | succ n ih =>
    intro m hm w w' hw
    have hlt : ¬ nI s < nI m := nI_nlt (a := s) (b := m) (by omega) (by omega)
    have hm16 : m < 16 := by omega
    have hr := hw _ (rest_le s hs m hm16)
    have hws := hw s (Nat.le_refl s)
    have ih0 := ih (m + 1) (by omega) w w' hw
    rw [it2_s, it2_s, f_X7_payings_b68, dz68, if_neg hlt, if_neg hlt, pay_79, nI_1, nI_clamp (show s < 2 ^ 31 by omega), nI_clamp (show m < 2 ^ 31 by omega), hr, hws]
    have hSm := hS m hm16
    revert hSm
    generalize hSg : ((((0 + (if f_X7_has (nI m) 0 = 0 then 0 else o 0)) + (if f_X7_has (nI m) (0 + 1) = 0 then 0 else o 1)) + (if f_X7_has (nI m) (0 + 1 + 1) = 0 then 0 else o 2)) + (if f_X7_has (nI m) (0 + 1 + 1 + 1) = 0 then 0 else o 3)) = S
    intro hSm
    by_cases c1 : nI m &&& (nI s ^^^ (-1)) = 0
    · by_cases c2 : Z m = true
      · have c5 : S = 0 := hSm.mpr c2
        have c6 : (true = false) = False := eq_false (by decide)
        by_cases c3 : w' (nI s &&& (nI m ^^^ (-1))).toNatClampNeg = (-9)
        · simp only [c1, c2, c3, c5, c6, eq_self, not_true_eq_false, not_false_eq_true, if_true, if_false]
          exact ih0
        · by_cases c4 : w' (nI s &&& (nI m ^^^ (-1))).toNatClampNeg + 1 ≤ w' s
          · simp only [c1, c2, c3, c4, c5, c6, eq_self, not_true_eq_false, not_false_eq_true, if_true, if_false]
            exact ih0
          · simp only [c1, c2, c3, c4, c5, c6, eq_self, not_true_eq_false, not_false_eq_true, if_true, if_false]
            refine ih (m + 1) (by omega) _ _ (fun p hp => ?_)
            unfold upd
            by_cases hps : p = s
            · rw [if_pos hps, if_pos hps]
            · rw [if_neg hps, if_neg hps]
              exact hw p hp
      · have c5 : ¬ S = 0 := fun q => c2 (hSm.mp q)
        have c6 : Z m = false := by simpa using c2
        simp only [c1, c5, c6, eq_self, not_true_eq_false, not_false_eq_true, if_true, if_false]
        exact ih0
    · simp only [c1, eq_self, not_true_eq_false, not_false_eq_true, if_true, if_false]
      exact ih0
theorem pay_52 {o : Nat → Int32} {Z : Nat → Bool} (hS : ∀ m, m < 16 → (((((0 + (if f_X7_has (nI m) 0 = 0 then 0 else o 0)) + (if f_X7_has (nI m) (0 + 1) = 0 then 0 else o 1)) + (if f_X7_has (nI m) (0 + 1 + 1) = 0 then 0 else o 2)) + (if f_X7_has (nI m) (0 + 1 + 1 + 1) = 0 then 0 else o 3) = 0) ↔ Z m = true)) {M : Int32} (hM : M.toNatClampNeg < 16) : ∀ (n s : Nat), s + n = 16 → ∀ w w' : Nat → Int32, (∀ p, p < s → w p = w' p) → (it2 (f_X7_payings_b52 o M) default (n + 1) (nI s) w).1 = f_X7_many M - it2 (dz52 Z M) default (n + 1) (nI s) w' := by
  have hfu : ∀ s, s < 16 → ((nI s).toInt + 1 - (1 : Int32).toInt).toNat + 1 = s + 1 := by decide
  intro n
  induction n with
  | zero =>
    intro s hs w w' hw
    have : s = 16 := by omega
    subst this
    rw [it2_s, it2_s, f_X7_payings_b52, dz52, if_pos (by decide), if_pos (by decide)]
    rw [hw _ hM]
  | succ n ih =>
    intro s hs w w' hw
    have hlt : ¬ (16 : Int32) ≤ nI s := nI_ge (a := s) (b := 16) (by omega) (by decide)
    rw [it2_s, it2_s, f_X7_payings_b52, dz52, if_neg hlt, if_neg hlt, hfu s (by omega), nI_clamp (show s < 2 ^ 31 by omega)]
    refine pay_68 hS (fun r => f_X7_many M - r) (show s < 16 by omega) (fun w w' hw => ih (s + 1) (by omega) w w' (fun p hp => hw p (by omega))) s 1 (by omega) _ _ (fun p hp => ?_)
    unfold upd
    by_cases hps : p = s
    · rw [if_pos hps, if_pos hps]
    · rw [if_neg hps, if_neg hps]
      exact hw p (by omega)
theorem dzM_lt : ∀ z0 z1 z2 z3 : Bool, (dzM z0 z1 z2 z3).toNatClampNeg < 16 := by decide
theorem pay_13 {o cu : Nat → Int32} (h : o 0 + o 1 + o 2 + o 3 = 0) : (it2 (f_X7_payings_b13 cu o) default (((4 : Int32).toInt - (0 : Int32).toInt).toNat + 1) 0 0).1 = dzA (decide (o 0 = 0)) (decide (o 1 = 0)) (decide (o 2 = 0)) (decide (o 3 = 0)) (decide (o 0 + o 1 = 0)) (decide (o 0 + o 2 = 0)) (decide (o 0 + o 3 = 0)) := by
  have jj : ∀ (a b : Int32) (k : Int32 → Int32 → Int32 × Int32 × (Nat → Int32) × (Nat → Int32)) (c v : Int32), (if ¬ c = 0 then f_X7_payings_j35 a b k v else f_X7_payings_j35 a b k 0) = k (a ||| (if c = 0 then 0 else v)) (b + 1) := by
    intro a b k c v
    unfold f_X7_payings_j35
    by_cases hc : c = 0
    · rw [if_neg (fun q => q hc), if_pos hc]
    · rw [if_pos hc, if_neg hc]
  rw [show ((4 : Int32).toInt - (0 : Int32).toInt).toNat + 1 = 5 from by decide]
  rw [it2_s, f_X7_payings_b13, if_neg (by decide), jj, it2_s, f_X7_payings_b13, if_neg (by decide), jj, it2_s, f_X7_payings_b13, if_neg (by decide), jj, it2_s, f_X7_payings_b13, if_neg (by decide), jj, it2_s, f_X7_payings_b13, if_pos (by decide)]
  have hmask : ((((0 ||| (if o (0 : Int32).toNatClampNeg = 0 then 0 else (1 : Int32) <<< ((0 : Int32) &&& 31))) ||| (if o ((0 : Int32) + 1).toNatClampNeg = 0 then 0 else (1 : Int32) <<< (((0 : Int32) + 1) &&& 31))) ||| (if o ((0 : Int32) + 1 + 1).toNatClampNeg = 0 then 0 else (1 : Int32) <<< (((0 : Int32) + 1 + 1) &&& 31))) ||| (if o ((0 : Int32) + 1 + 1 + 1).toNatClampNeg = 0 then 0 else (1 : Int32) <<< (((0 : Int32) + 1 + 1 + 1) &&& 31))) = dzM (decide (o 0 = 0)) (decide (o 1 = 0)) (decide (o 2 = 0)) (decide (o 3 = 0)) := by
    have i0 : (0 : Int32).toNatClampNeg = 0 := by decide
    have i1 : ((0 : Int32) + 1).toNatClampNeg = 1 := by decide
    have i2 : ((0 : Int32) + 1 + 1).toNatClampNeg = 2 := by decide
    have i3 : ((0 : Int32) + 1 + 1 + 1).toNatClampNeg = 3 := by decide
    rw [i0, i1, i2, i3]
    unfold dzM
    simp only [decide_eq_true_eq]
    rfl
  rw [hmask]
  have hz := pay_52 (zt_iff (o 0) (o 1) (o 2) (o 3) h) (dzM_lt (decide (o 0 = 0)) (decide (o 1 = 0)) (decide (o 2 = 0)) (decide (o 3 = 0))) 15 1 (by omega) (upd cu (0 : Int32).toNatClampNeg 0) (upd (fun _ => 0) 0 0) (fun p hp => by
    have : p = 0 := by omega
    subst this
    rfl)
  rw [show ((16 : Int32).toInt - (1 : Int32).toInt).toNat + 1 = 16 from by decide]
  refine Eq.trans hz ?_
  exact dz_all _ _ _ _ _ _ _ (dzO_ok _ _ _ _ h)
theorem payings_eq {ct bi ti de : Int32} {sz ce con bir tid deb ow cu : Nat → Int32} (hC : CaseOK ct bi ti de sz ce con bir tid deb) (h0 : 0 ≤ de) (h6 : de ≤ 6) : (f_X7_payings de deb ow cu).1 = f_X6_payings sz ce := by
  have n0 : f_X7_layNets de deb ow 0 = f_X6_netOf sz ce 0 := lay_eq hC h0 h6 (p := 0) (by omega)
  have n1 : f_X7_layNets de deb ow 1 = f_X6_netOf sz ce 1 := lay_eq hC h0 h6 (p := 1) (by omega)
  have n2 : f_X7_layNets de deb ow 2 = f_X6_netOf sz ce 2 := lay_eq hC h0 h6 (p := 2) (by omega)
  have n3 : f_X7_layNets de deb ow 3 = f_X6_netOf sz ce 3 := lay_eq hC h0 h6 (p := 3) (by omega)
  have hs := net_sum hC h0 h6
  unfold f_X7_payings ap1
  refine Eq.trans (pay_13 (by rw [n0, n1, n2, n3]; exact hs)) ?_
  rw [n0, n1, n2, n3]
  have jj : ∀ (a b : Int32) (k : Int32 → Int32 → Int32) (c : Int32), (if c = 0 then f_X6_payings_j20 b k a else f_X6_payings_j20 b k (a + 1)) = k (a + (if c = 0 then 0 else 1)) (b + 1) := by
    intro a b k c
    unfold f_X6_payings_j20
    by_cases hc : c = 0
    · rw [if_pos hc, if_pos hc, show a + 0 = a by grind]
    · rw [if_neg hc, if_neg hc]
  unfold f_X6_payings
  rw [show ((4 : Int32).toInt - (0 : Int32).toInt).toNat + 1 = 5 from by decide]
  rw [it2_s, f_X6_payings_b4, if_neg (by decide), jj, it2_s, f_X6_payings_b4, if_neg (by decide), jj, it2_s, f_X6_payings_b4, if_neg (by decide), jj, it2_s, f_X6_payings_b4, if_neg (by decide), jj, it2_s, f_X6_payings_b4, if_pos (by decide)]
  rw [show (0 : Int32) + 1 = 1 from by decide, show (1 : Int32) + 1 = 2 from by decide, show (2 : Int32) + 1 = 3 from by decide]
  have hc : ((((0 : Int32) + (if f_X6_netOf sz ce 0 = 0 then 0 else 1)) + (if f_X6_netOf sz ce 1 = 0 then 0 else 1)) + (if f_X6_netOf sz ce 2 = 0 then 0 else 1)) + (if f_X6_netOf sz ce 3 = 0 then 0 else 1) = dzC (decide (f_X6_netOf sz ce 0 = 0)) (decide (f_X6_netOf sz ce 1 = 0)) (decide (f_X6_netOf sz ce 2 = 0)) (decide (f_X6_netOf sz ce 3 = 0)) := by
    unfold dzC
    simp only [decide_eq_true_eq]
  rw [hc]
  have hp : (f_X6_hasEvenPair sz ce = 0) ↔ ((decide (f_X6_netOf sz ce 0 + f_X6_netOf sz ce 1 = 0) || decide (f_X6_netOf sz ce 0 + f_X6_netOf sz ce 2 = 0) || decide (f_X6_netOf sz ce 0 + f_X6_netOf sz ce 3 = 0)) = false) := by
    unfold f_X6_hasEvenPair
    rw [show ((4 : Int32).toInt - (1 : Int32).toInt).toNat + 1 = 4 from by decide]
    rw [it1_s, f_X6_hasEvenPair_b2, if_neg (by decide), it1_s, f_X6_hasEvenPair_b2, if_neg (by decide), it1_s, f_X6_hasEvenPair_b2, if_neg (by decide), it1_s, f_X6_hasEvenPair_b2, if_pos (by decide)]
    rw [show (1 : Int32) + 1 = 2 from by decide, show (2 : Int32) + 1 = 3 from by decide]
    have z10 : ¬ (1 : Int32) = 0 := by decide
    by_cases c1 : f_X6_netOf sz ce 0 + f_X6_netOf sz ce 1 = 0 <;> by_cases c2 : f_X6_netOf sz ce 0 + f_X6_netOf sz ce 2 = 0 <;> by_cases c3 : f_X6_netOf sz ce 0 + f_X6_netOf sz ce 3 = 0 <;> simp [c1, c2, c3, z10]
  unfold f_X6_mostSets dzA
  simp only [hp]
