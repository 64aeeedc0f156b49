theorem payings_eq {ct bi ti de : Int32} {sz ce con bir tid deb ow cu : Nat → Int32} (hC : CaseOK ct bi ti de sz ce con bir tid deb) (h0 : 0 ≤ de) (h6 : de ≤ 6) : (f_X7_payings de deb ow cu).1 = f_X6_payings sz ce := by
  have n0 : f_X7_layNets de deb ow 0 = f_X6_netOf sz ce 0 := lay_eq hC h0 h6 (p := 0) (by omega)
  have n1 : f_X7_layNets de deb ow 1 = f_X6_netOf sz ce 1 := lay_eq hC h0 h6 (p := 1) (by omega)
  have n2 : f_X7_layNets de deb ow 2 = f_X6_netOf sz ce 2 := lay_eq hC h0 h6 (p := 2) (by omega)
  have n3 : f_X7_layNets de deb ow 3 = f_X6_netOf sz ce 3 := lay_eq hC h0 h6 (p := 3) (by omega)
  have hs := net_sum hC h0 h6
  unfold f_X7_payings ap1
  refine Eq.trans (pay_13 (by rw [n0, n1, n2, n3]; exact hs)) ?_
  rw [n0, n1, n2, n3]
  have jj : ∀ (a b : Int32) (k : Int32 → Int32 → Int32) (c : Int32), (if c = 0 then f_X6_payings_j20 b k a else f_X6_payings_j20 b k (a + 1)) = k (a + (if c = 0 then 0 else 1)) (b + 1) := by
    intro a b k c
    unfold f_X6_payings_j20
    by_cases hc : c = 0
    · rw [if_pos hc, if_pos hc, show a + 0 = a by grind]
    · rw [if_neg hc, if_neg hc]
  unfold f_X6_payings
  rw [show ((4 : Int32).toInt - (0 : Int32).toInt).toNat + 1 = 5 from by decide]
  rw [it2_s, f_X6_payings_b4, if_neg (by decide), jj, it2_s, f_X6_payings_b4, if_neg (by decide), jj, it2_s, f_X6_payings_b4, if_neg (by decide), jj, it2_s, f_X6_payings_b4, if_neg (by decide), jj, it2_s, f_X6_payings_b4, if_pos (by decide)]
  rw [show (0 : Int32) + 1 = 1 from by decide, show (1 : Int32) + 1 = 2 from by decide, show (2 : Int32) + 1 = 3 from by decide]
  have hc : ((((0 : Int32) + (if f_X6_netOf sz ce 0 = 0 then 0 else 1)) + (if f_X6_netOf sz ce 1 = 0 then 0 else 1)) + (if f_X6_netOf sz ce 2 = 0 then 0 else 1)) + (if f_X6_netOf sz ce 3 = 0 then 0 else 1) = dzC (decide (f_X6_netOf sz ce 0 = 0)) (decide (f_X6_netOf sz ce 1 = 0)) (decide (f_X6_netOf sz ce 2 = 0)) (decide (f_X6_netOf sz ce 3 = 0)) := by
    unfold dzC
    simp only [decide_eq_true_eq]
  rw [hc]
  have hp : (f_X6_hasEvenPair sz ce = 0) ↔ ((decide (f_X6_netOf sz ce 0 + f_X6_netOf sz ce 1 = 0) || decide (f_X6_netOf sz ce 0 + f_X6_netOf sz ce 2 = 0) || decide (f_X6_netOf sz ce 0 + f_X6_netOf sz ce 3 = 0)) = false) := by
    unfold f_X6_hasEvenPair
    rw [show ((4 : Int32).toInt - (1 : Int32).toInt).toNat + 1 = 4 from by decide]
    rw [it1_s, f_X6_hasEvenPair_b2, if_neg (by decide), it1_s, f_X6_hasEvenPair_b2, if_neg (by decide), it1_s, f_X6_hasEvenPair_b2, if_neg (by decide), it1_s, f_X6_hasEvenPair_b2, if_pos (by decide)]
    rw [show (1 : Int32) + 1 = 2 from by decide, show (2 : Int32) + 1 = 3 from by decide]
    have z10 : ¬ (1 : Int32) = 0 := by decide
    by_cases c1 : f_X6_netOf sz ce 0 + f_X6_netOf sz ce 1 = 0 <;> by_cases c2 : f_X6_netOf sz ce 0 + f_X6_netOf sz ce 2 = 0 <;> by_cases c3 : f_X6_netOf sz ce 0 + f_X6_netOf sz ce 3 = 0 <;> simp [c1, c2, c3, z10]
  unfold f_X6_mostSets dzA
  simp only [hp]
