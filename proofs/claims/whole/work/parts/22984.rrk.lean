theorem even_iff {sz ce : Nat → Int32} : (f_X6_hasEvenPair sz ce = 0) ↔ ((decide (f_X6_netOf sz ce 0 + f_X6_netOf sz ce 1 = 0) || decide (f_X6_netOf sz ce 0 + f_X6_netOf sz ce 2 = 0) || decide (f_X6_netOf sz ce 0 + f_X6_netOf sz ce 3 = 0)) = false) := by
  unfold f_X6_hasEvenPair
  rw [show ((4 : Int32).toInt - (1 : Int32).toInt).toNat + 1 = 4 from by decide]
  have e2 : (1 : Int32) + 1 = 2 := by decide
  have e3 : (2 : Int32) + 1 = 3 := by decide
  have e4 : (3 : Int32) + 1 = 4 := by decide
  have g1 : ((4 : Int32) ≤ 1) = False := eq_false (by decide)
  have g2 : ((4 : Int32) ≤ 2) = False := eq_false (by decide)
  have g3 : ((4 : Int32) ≤ 3) = False := eq_false (by decide)
  have g4 : ((4 : Int32) ≤ 4) = True := eq_true (by decide)
  simp only [it1_s, f_X6_hasEvenPair_b2, e2, e3, e4, g1, g2, g3, g4, if_true, if_false]
  generalize f_X6_netOf sz ce 0 = a
  generalize f_X6_netOf sz ce 1 = b
  generalize f_X6_netOf sz ce 2 = c
  generalize f_X6_netOf sz ce 3 = d
  by_cases c1 : a + b = 0
  · simp only [c1, eq_self, not_true_eq_false, if_false, z10f, decide_true, Bool.true_or, Bool.true_eq_false]
  · by_cases c2 : a + c = 0
    · simp only [c1, c2, eq_self, not_true_eq_false, not_false_eq_true, if_true, if_false, z10f, decide_true, decide_false, Bool.true_or, Bool.or_true, Bool.true_eq_false]
    · by_cases c3 : a + d = 0
      · simp only [c1, c2, c3, eq_self, not_true_eq_false, not_false_eq_true, if_true, if_false, z10f, decide_true, decide_false, Bool.true_or, Bool.or_true, Bool.true_eq_false]
      · simp only [c1, c2, c3, eq_self, not_false_eq_true, if_true, decide_false, Bool.or_false]
theorem pay_cls {sz ce : Nat → Int32} : f_X6_payings sz ce = dzA (decide (f_X6_netOf sz ce 0 = 0)) (decide (f_X6_netOf sz ce 1 = 0)) (decide (f_X6_netOf sz ce 2 = 0)) (decide (f_X6_netOf sz ce 3 = 0)) (decide (f_X6_netOf sz ce 0 + f_X6_netOf sz ce 1 = 0)) (decide (f_X6_netOf sz ce 0 + f_X6_netOf sz ce 2 = 0)) (decide (f_X6_netOf sz ce 0 + f_X6_netOf sz ce 3 = 0)) := by
  have jj : ∀ (a b : Int32) (k : Int32 → Int32 → Int32) (c : Int32), (if c = 0 then f_X6_payings_j20 b k a else f_X6_payings_j20 b k (a + 1)) = k (a + (if c = 0 then 0 else 1)) (b + 1) := by
    intro a b k c
    unfold f_X6_payings_j20
    by_cases hc : c = 0
    · rw [if_pos hc, if_pos hc, show a + 0 = a by grind]
    · rw [if_neg hc, if_neg hc]
  have e1 : (0 : Int32) + 1 = 1 := by decide
  have e2 : (1 : Int32) + 1 = 2 := by decide
  have e3 : (2 : Int32) + 1 = 3 := by decide
  have he := even_iff (sz := sz) (ce := ce)
  unfold f_X6_payings
  rw [show ((4 : Int32).toInt - (0 : Int32).toInt).toNat + 1 = 5 from by decide]
  rw [it2_s, f_X6_payings_b4, if_neg (by decide), jj, e1, it2_s, f_X6_payings_b4, if_neg (by decide), jj, e2, it2_s, f_X6_payings_b4, if_neg (by decide), jj, e3, it2_s, f_X6_payings_b4, if_neg (by decide), jj, it2_s, f_X6_payings_b4, if_pos (by decide)]
  have hc : ((((0 : Int32) + (if f_X6_netOf sz ce 0 = 0 then 0 else 1)) + (if f_X6_netOf sz ce 1 = 0 then 0 else 1)) + (if f_X6_netOf sz ce 2 = 0 then 0 else 1)) + (if f_X6_netOf sz ce 3 = 0 then 0 else 1) = dzC (decide (f_X6_netOf sz ce 0 = 0)) (decide (f_X6_netOf sz ce 1 = 0)) (decide (f_X6_netOf sz ce 2 = 0)) (decide (f_X6_netOf sz ce 3 = 0)) := by
    unfold dzC
    simp only [decide_eq_true_eq]
  rw [hc]
  unfold f_X6_mostSets dzA
  simp only [he]
theorem pay_mod {de : Int32} {deb ow cu : Nat → Int32} : (f_X7_payings de deb ow cu).1 = (it2 (f_X7_payings_b13 cu (f_X7_layNets de deb ow)) default (((4 : Int32).toInt - (0 : Int32).toInt).toNat + 1) 0 0).1 := by
  rw [f_X7_payings, ap1]
theorem payings_eq {ct bi ti de : Int32} {sz ce con bir tid deb ow cu : Nat → Int32} (hC : CaseOK ct bi ti de sz ce con bir tid deb) (h0 : 0 ≤ de) (h6 : de ≤ 6) : (f_X7_payings de deb ow cu).1 = f_X6_payings sz ce := by
  have n0 : f_X7_layNets de deb ow 0 = f_X6_netOf sz ce (nI 0) := lay_eq hC h0 h6 (p := 0) (by omega)
  have n1 : f_X7_layNets de deb ow 1 = f_X6_netOf sz ce (nI 1) := lay_eq hC h0 h6 (p := 1) (by omega)
  have n2 : f_X7_layNets de deb ow 2 = f_X6_netOf sz ce (nI 2) := lay_eq hC h0 h6 (p := 2) (by omega)
  have n3 : f_X7_layNets de deb ow 3 = f_X6_netOf sz ce (nI 3) := lay_eq hC h0 h6 (p := 3) (by omega)
  rw [show nI 0 = 0 from rfl] at n0
  rw [show nI 1 = 1 from rfl] at n1
  rw [show nI 2 = 2 from rfl] at n2
  rw [show nI 3 = 3 from rfl] at n3
  have hs := net_sum hC h0 h6
  have h13 := pay_13 (o := f_X7_layNets de deb ow) (cu := cu) (by rw [n0, n1, n2, n3]; exact hs)
  rw [pay_mod, h13, n0, n1, n2, n3, pay_cls]
