theorem dzM_lt : ∀ z0 z1 z2 z3 : Bool, (dzM z0 z1 z2 z3).toNatClampNeg < 16 := by decide
theorem pay_13 {o cu : Nat → Int32} (h : o 0 + o 1 + o 2 + o 3 = 0) : (it2 (f_X7_payings_b13 cu o) default (((4 : Int32).toInt - (0 : Int32).toInt).toNat + 1) 0 0).1 = dzA (decide (o 0 = 0)) (decide (o 1 = 0)) (decide (o 2 = 0)) (decide (o 3 = 0)) (decide (o 0 + o 1 = 0)) (decide (o 0 + o 2 = 0)) (decide (o 0 + o 3 = 0)) := by
  have jj : ∀ (a b : Int32) (k : Int32 → Int32 → Int32 × Int32 × (Nat → Int32) × (Nat → Int32)) (c v : Int32), (if ¬ c = 0 then f_X7_payings_j35 a b k v else f_X7_payings_j35 a b k 0) = k (a ||| (if c = 0 then 0 else v)) (b + 1) := by
    intro a b k c v
    unfold f_X7_payings_j35
    by_cases hc : c = 0
    · rw [if_neg (fun q => q hc), if_pos hc]
    · rw [if_pos hc, if_neg hc]
  rw [show ((4 : Int32).toInt - (0 : Int32).toInt).toNat + 1 = 5 from by decide]
  rw [it2_s, f_X7_payings_b13, if_neg (by decide), jj, it2_s, f_X7_payings_b13, if_neg (by decide), jj, it2_s, f_X7_payings_b13, if_neg (by decide), jj, it2_s, f_X7_payings_b13, if_neg (by decide), jj, it2_s, f_X7_payings_b13, if_pos (by decide)]
  have hmask : ((((0 ||| (if o (0 : Int32).toNatClampNeg = 0 then 0 else (1 : Int32) <<< ((0 : Int32) &&& 31))) ||| (if o ((0 : Int32) + 1).toNatClampNeg = 0 then 0 else (1 : Int32) <<< (((0 : Int32) + 1) &&& 31))) ||| (if o ((0 : Int32) + 1 + 1).toNatClampNeg = 0 then 0 else (1 : Int32) <<< (((0 : Int32) + 1 + 1) &&& 31))) ||| (if o ((0 : Int32) + 1 + 1 + 1).toNatClampNeg = 0 then 0 else (1 : Int32) <<< (((0 : Int32) + 1 + 1 + 1) &&& 31))) = dzM (decide (o 0 = 0)) (decide (o 1 = 0)) (decide (o 2 = 0)) (decide (o 3 = 0)) := by
    have i0 : (0 : Int32).toNatClampNeg = 0 := by decide
    have i1 : ((0 : Int32) + 1).toNatClampNeg = 1 := by decide
    have i2 : ((0 : Int32) + 1 + 1).toNatClampNeg = 2 := by decide
    have i3 : ((0 : Int32) + 1 + 1 + 1).toNatClampNeg = 3 := by decide
    have s0 : (1 : Int32) <<< ((0 : Int32) &&& 31) = 1 := by decide
    have s1 : (1 : Int32) <<< (((0 : Int32) + 1) &&& 31) = 2 := by decide
    have s2 : (1 : Int32) <<< (((0 : Int32) + 1 + 1) &&& 31) = 4 := by decide
    have s3 : (1 : Int32) <<< (((0 : Int32) + 1 + 1 + 1) &&& 31) = 8 := by decide
    rw [i0, i1, i2, i3, s0, s1, s2, s3]
    unfold dzM
    simp only [decide_eq_true_eq]
  rw [hmask]
  have hz := pay_52 (zt_iff (o 0) (o 1) (o 2) (o 3) h) (dzM_lt (decide (o 0 = 0)) (decide (o 1 = 0)) (decide (o 2 = 0)) (decide (o 3 = 0))) 15 1 (by omega) (upd cu (0 : Int32).toNatClampNeg 0) (upd (fun _ => 0) 0 0) (fun p hp => by
    have : p = 0 := by omega
    subst this
    rfl)
  rw [show ((16 : Int32).toInt - (1 : Int32).toInt).toNat + 1 = 16 from by decide]
  have hd := dz_all _ _ _ _ _ _ _ (dzO_ok _ _ _ _ h)
  unfold dzV at hd
  rw [show (16 : Nat) = 15 + 1 from rfl] at hd
  have e1 : (1 : Int32) = nI 1 := rfl
  rw [← e1] at hz
  rw [show (16 : Nat) = 15 + 1 from rfl]
  exact hz.trans hd
