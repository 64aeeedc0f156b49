/-! bits by their places -/
theorem bt_shl1 : ∀ s, s < 32 → ∀ i, i < 32 → bt ((1 : Int32) <<< (nI s &&& 31)) i = decide (i = s) := by decide +kernel
theorem bt_nI {n i : Nat} (hi : i < 32) : bt (nI n) i = n.testBit i := by
  show (BitVec.ofNat 32 n).getLsbD i = _
  rw [BitVec.getLsbD_ofNat, decide_eq_true hi, Bool.true_and]
theorem has_bt (x : Int32) {k : Nat} (hk : k < 32) : f_X7_has x (nI k) = if bt x k = true then 1 else 0 := by
  unfold f_X7_has
  have h1 : ∀ i, i < 32 → bt 1 i = decide (i = 0) := by decide +kernel
  have e : bt ((x >>> (nI k &&& 31)) &&& 1) 0 = bt x k := by
    rw [b_and, h1 0 (by omega), b_sshr k hk _ (by omega), if_pos (by omega), Nat.add_zero]
    simp
  rcases bit01 (x >>> (nI k &&& 31)) with h | h
  · rw [h] at e ⊢
    rw [if_pos (by decide), if_neg]
    rw [← e]; decide
  · rw [h] at e ⊢
    rw [if_neg (by decide), if_pos]
    rw [← e]; decide
theorem bt_zero {x : Int32} : x = 0 ↔ ∀ i, i < 32 → bt x i = false := by
  constructor
  · intro h i hi
    subst h
    have : ∀ i, i < 32 → bt 0 i = false := by decide +kernel
    exact this i hi
  · intro h
    apply b_ext
    intro i hi
    have : ∀ i, i < 32 → bt 0 i = false := by decide +kernel
    rw [h i hi, this i hi]
/-! rule -/
theorem yb_loop {m a b : Nat} (hm : m ≤ 10) (ha : 0 < a) (ha2 : a ≤ 10) (hb10 : b < 10) : ∀ (n j : Nat) (bits : Int32), j + n = m → (∀ i, i < 32 → bt bits i = decide (i < j ∧ i % a = b)) → ∀ i, i < 32 → bt (it2 (f_X6_yearsBy_b5 (nI m) (nI a) (nI b)) default (n + 1) bits (nI j)) i = decide (i < m ∧ i % a = b) := by
  intro n
  induction n with
  | zero =>
    intro j bits hj hb i hi
    have : j = m := by omega
    subst this
    rw [it2_s, f_X6_yearsBy_b5, if_pos (Int32.le_refl _)]
    exact hb i hi
  | succ n ih =>
    intro j bits hj hb
    have hlt : ¬ nI m ≤ nI j := nI_ge (by omega) (by omega)
    have h0 : ¬ nI a ≤ 0 := nI_nle ha (by omega)
    rw [it2_s, f_X6_yearsBy_b5, if_neg hlt, if_neg h0, pk_rem (by omega) ha (by omega)]
    simp only [f_X6_yearsBy_j30, nI_1]
    by_cases hc : nI (j % a) = nI b
    · rw [if_neg (fun q => q hc)]
      refine ih (j + 1) _ (by omega) (fun i hi => ?_)
      rw [b_or, hb i hi, bt_shl1 j (by omega) i hi]
      have hc2 : j % a = b := (nI_eq (Nat.lt_of_lt_of_le (Nat.mod_lt j ha) (by omega)) (by omega)).mp hc
      by_cases hij : i = j
      · subst hij
        simp [hc2]
      · have : (i < j + 1) ↔ (i < j) := by omega
        simp [hij, this]
    · rw [if_pos hc]
      refine ih (j + 1) _ (by omega) (fun i hi => ?_)
      rw [hb i hi]
      by_cases hij : i = j
      · subst hij
        have : ¬ i % a = b := fun q => hc (by rw [q])
        simp [this]
      · have : (i < j + 1) ↔ (i < j) := by omega
        simp [this]
theorem yearsBy_iff {m a b k : Nat} (hm : m ≤ 10) (ha : 0 < a) (ha2 : a ≤ 10) (hb10 : b < 10) (hk : k < 2 ^ m) : f_X6_yearsBy (nI m) (nI a) (nI b) = nI k ↔ ∀ y, y < m → (k.testBit y = decide (y % a = b)) := by
  have hfu : ∀ m, m ≤ 10 → ((nI m).toInt - (0 : Int32).toInt).toNat + 1 = m + 1 := by decide
  have hall := yb_loop (b := b) hm ha ha2 hb10 m 0 0 (by omega) (fun i hi => by
    have h0 : ∀ i, i < 32 → bt 0 i = false := by decide +kernel
    rw [h0 i hi]
    simp)
  have hY : ∀ i, i < 32 → bt (f_X6_yearsBy (nI m) (nI a) (nI b)) i = decide (i < m ∧ i % a = b) := by
    unfold f_X6_yearsBy
    rw [hfu m hm]
    exact hall
  constructor
  · intro h y hy
    have h1 := hY y (by omega)
    rw [h, bt_nI (by omega)] at h1
    rw [h1]
    simp [hy]
  · intro h
    apply b_ext
    intro i hi
    rw [hY i hi, bt_nI hi]
    by_cases hy : i < m
    · rw [h i hy]
      simp [hy]
    · have : k.testBit i = false := Nat.testBit_lt_two_pow (Nat.lt_of_lt_of_le hk (Nat.pow_le_pow_right (by omega) (by omega)))
      rw [this]
      simp [hy]
theorem is_loop {m a b k : Nat} (hm : m ≤ 10) (ha : 0 < a) (ha2 : a ≤ 10) (hb : b < a) (x3 : Int32) (K : Int32 → Int32 × Int32) : ∀ (n j : Nat), j + n = m → (∀ y, y < j → (k.testBit y = decide (y % a = b))) → it2 (f_X7_rule_b77 (nI m) (nI k) x3 (nI a) (nI b) K) default (n + 1) 1 (nI j) = f_X7_rule_j125 x3 (nI a) (nI b) (if ∀ y, y < m → (k.testBit y = decide (y % a = b)) then 1 else 0) K := by
  intro n
  induction n with
  | zero =>
    intro j hj hall
    have : j = m := by omega
    subst this
    rw [it2_s, f_X7_rule_b77, if_pos (Int32.le_refl _), if_pos hall]
  | succ n ih =>
    intro j hj hall
    have hlt : ¬ nI m ≤ nI j := nI_ge (by omega) (by omega)
    rw [it2_s, f_X7_rule_b77, if_neg hlt, if_neg (by decide), pk_rem (by omega) ha (by omega)]
    have hja : j % a < a := Nat.mod_lt j ha
    have hiff : nI (j % a) = nI b ↔ j % a = b := nI_eq (by omega) (by omega)
    have hh := has_bt (nI k) (k := j) (by omega)
    rw [bt_nI (by omega)] at hh
    have hcase : (if ¬ nI (j % a) = nI b then f_X7_rule_j109 (nI k) (nI j) (it2 (f_X7_rule_b77 (nI m) (nI k) x3 (nI a) (nI b) K) default (n + 1)) 0 else f_X7_rule_j109 (nI k) (nI j) (it2 (f_X7_rule_b77 (nI m) (nI k) x3 (nI a) (nI b) K) default (n + 1)) 1) = if k.testBit j = decide (j % a = b) then it2 (f_X7_rule_b77 (nI m) (nI k) x3 (nI a) (nI b) K) default (n + 1) 1 (nI (j + 1)) else it2 (f_X7_rule_b77 (nI m) (nI k) x3 (nI a) (nI b) K) default (n + 1) 0 (nI (j + 1)) := by
      simp only [f_X7_rule_j109, f_X7_rule_j117, nI_1, hh]
      by_cases c1 : j % a = b
      · rw [if_neg (fun q => q (hiff.mpr c1))]
        cases hkb : k.testBit j <;> simp [c1]
      · rw [if_pos (fun q => c1 (hiff.mp q))]
        cases hkb : k.testBit j <;> simp [c1]
    rw [hcase]
    by_cases hc : k.testBit j = decide (j % a = b)
    · rw [if_pos hc]
      refine ih (j + 1) (by omega) (fun y hy => ?_)
      rcases Nat.lt_or_ge y j with q | q
      · exact hall y q
      · have : y = j := by omega
        subst this
        exact hc
    · rw [if_neg hc, if_neg (fun q => hc (q j (by omega)))]
      rw [it2_s, f_X7_rule_b77]
      by_cases hl : nI m ≤ nI (j + 1)
      · rw [if_pos hl]
      · rw [if_neg hl, if_pos rfl]
theorem r_loop {m a k : Nat} (hm : m ≤ 10) (ha : 0 < a) (ha2 : a ≤ 10) (hk : k < 2 ^ m) (x3 : Int32) (K7 : Int32 → Int32 × Int32) (K6 : Int32 → Int32) (hK : K7 (nI (a + 1)) = (K6 (nI (a + 1)), 0)) : ∀ (n b : Nat), b + n = a → it1 (f_X7_rule_b64 (nI m) (nI k) x3 (nI a) K7) default (n + 1) (nI b) = (it1 (f_X6_rule_b48 (nI m) (nI k) x3 (nI a) K6) default (n + 1) (nI b), 0) := by
  have hfu : ∀ m, m ≤ 10 → ((nI m).toInt - (0 : Int32).toInt).toNat + 1 = m + 1 := by decide
  intro n
  induction n with
  | zero =>
    intro b hb
    have : b = a := by omega
    subst this
    rw [it1_s, it1_s, f_X7_rule_b64, f_X6_rule_b48, if_pos (Int32.le_refl _), if_pos (Int32.le_refl _), nI_1]
    exact hK
  | succ n ih =>
    intro b hb
    have hlt : ¬ nI a ≤ nI b := nI_ge (by omega) (by omega)
    rw [it1_s, it1_s, f_X7_rule_b64, f_X6_rule_b48, if_neg hlt, if_neg hlt, hfu m hm]
    have hi := is_loop (k := k) hm ha ha2 (show b < a by omega) x3 (it1 (f_X7_rule_b64 (nI m) (nI k) x3 (nI a) K7) default (n + 1)) m 0 (by omega) (fun y hy => absurd hy (Nat.not_lt_zero y))
    have hi2 : it2 (f_X7_rule_b77 (nI m) (nI k) x3 (nI a) (nI b) (it1 (f_X7_rule_b64 (nI m) (nI k) x3 (nI a) K7) default (n + 1))) default (m + 1) 1 0 = _ := hi
    rw [hi2]
    have hy := yearsBy_iff (b := b) hm ha ha2 (by omega) hk
    unfold f_X7_rule_j125
    by_cases hc : ∀ y, y < m → (k.testBit y = decide (y % a = b))
    · have e := hy.mpr hc
      by_cases h3 : x3 = 0 <;> simp only [if_pos hc, e, h3, z10f, eq_self, not_true_eq_false, not_false_eq_true, if_true, if_false]
    · have e : ¬ f_X6_yearsBy (nI m) (nI a) (nI b) = nI k := fun q => hc (hy.mp q)
      simp only [if_neg hc, e, eq_self, not_false_eq_true, if_true, nI_1]
      exact ih (b + 1) (by omega)
theorem p_loop {m k : Nat} (hm : m ≤ 10) (hk : k < 2 ^ m) (x3 : Int32) : ∀ (n a : Nat), a + n = 11 → 1 ≤ a → it1 (f_X7_rule_b54 (nI m) (nI k) x3) default (n + 1) (nI a) = (it1 (f_X6_rule_b38 (nI m) (nI k) x3) default (n + 1) (nI a), 0) := by
  have hfu : ∀ m, m ≤ 10 → ((nI m).toInt - (0 : Int32).toInt).toNat + 1 = m + 1 := by decide
  intro n
  induction n with
  | zero =>
    intro a ha h1
    have : a = 11 := by omega
    subst this
    rw [it1_s, it1_s, f_X7_rule_b54, f_X6_rule_b38, if_pos (by decide), if_pos (by decide)]
  | succ n ih =>
    intro a ha h1
    have hlt : ¬ (10 : Int32) < nI a := nI_nlt (a := 10) (b := a) (by omega) (by decide)
    rw [it1_s, it1_s, f_X7_rule_b54, f_X6_rule_b38, if_neg hlt, if_neg hlt, hfu a (by omega)]
    exact r_loop hm h1 (by omega) hk x3 _ _ (ih (a + 1) (by omega) (by omega)) a 0 (by omega)
theorem rule_eq (x1 x2 x3 : Int32) : f_X7_rule x1 x2 x3 = (f_X6_rule x1 x2 x3, 0) := by
  unfold f_X7_rule f_X6_rule
  have hin := in_1_10 x1
  by_cases h1 : 1 ≤ x1 ∧ x1 ≤ 10
  · obtain ⟨m, hm, rfl⟩ := nI_ex (n := 11) (k := 11) (by decide) (show 0 ≤ x1 by grind) (by grind)
    have hm0 : m ≠ 0 := fun q => by subst q; exact absurd h1.1 (by decide)
    have hbits : f_X6_areBits x2 (nI m) = f_X7_in x2.toInt64 0 ((1 <<< (nI m &&& 31)) - 1).toInt64 := by
      rw [in_0e]
      unfold f_X6_areBits
      have key := shr_z m (by omega)
      by_cases hx : x2 < 0
      · rw [if_pos hx, if_neg (by grind)]
      · rw [if_neg hx]
        have := key x2 (by grind)
        grind
    have hz : f_X6_isZeroOrOne x3 = f_X7_in x3.toInt64 0 1 := by
      rw [in_0_1]; unfold f_X6_isZeroOrOne; grind
    rw [if_neg (show ¬ f_X7_in (nI m).toInt64 1 10 = 0 by rw [hin]; grind), if_neg (show ¬ nI m < 1 by grind), if_neg (show ¬ 10 < nI m by grind), hbits, hz]
    by_cases c1 : f_X7_in x2.toInt64 0 ((1 <<< (nI m &&& 31)) - 1).toInt64 = 0
    · rw [if_pos c1, if_pos c1]
    · rw [if_neg c1, if_neg c1]
      by_cases c2 : f_X7_in x3.toInt64 0 1 = 0
      · rw [if_neg (fun q => q c2), if_neg (fun q => q c2)]
      · rw [if_pos c2, if_pos c2]
        by_cases c3 : x2 = 0
        · rw [if_neg (fun q => q c3), if_neg (fun q => q c3)]
        · rw [if_pos c3, if_pos c3]
          rw [in_0e] at c1
          have hr : 0 ≤ x2 ∧ x2 ≤ (1 <<< (nI m &&& 31)) - 1 := by grind
          have hx2 : ¬ x2 < 0 := by grind
          obtain ⟨k, hk, rfl⟩ := nI_of hx2
          have e1 : (1 : Int32) <<< (nI m &&& 31) - 1 = nI (2 ^ m - 1) := (by decide : ∀ k, k < 14 → (1 : Int32) <<< (nI k &&& 31) - 1 = nI (2 ^ k - 1)) m (by omega)
          have hp : 2 ^ m ≤ 8192 := (by decide : ∀ k, k < 14 → 2 ^ k ≤ 8192) m (by omega)
          have hp0 : 0 < 2 ^ m := Nat.two_pow_pos m
          have hle := hr.2
          rw [e1] at hle
          have hk2 : k ≤ 2 ^ m - 1 := (nI_leI hk (by omega)).mp hle
          exact p_loop (by omega) (show k < 2 ^ m by omega) x3 10 1 (by omega) (by omega)
  · rw [if_pos (show f_X7_in x1.toInt64 1 10 = 0 by rw [hin]; grind)]
    by_cases h2 : x1 < 1
    · rw [if_pos h2]
    · rw [if_neg h2, if_pos (show 10 < x1 by grind)]
