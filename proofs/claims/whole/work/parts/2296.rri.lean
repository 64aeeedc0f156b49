/-! meant: which way of counting ends as it was seen -/
theorem meant_in {ce con pg cons days : Nat → Int32} {k : Nat} {pl : Int32} (hk : k < 5) (e0 : con (5 * k) = ce (5 * k)) (r0 : 0 ≤ ce (5 * k)) (r1 : ce (5 * k) ≤ 11) (r2 : 0 ≤ ce (5 * k + 2)) (r3 : ce (5 * k + 2) ≤ 11) (hp0 : pg (0 : Int32).toNatClampNeg = pl) (hp7 : pg (7 + nI k).toNatClampNeg = ce (5 * k + 2)) (h3 : 0 ≤ pl) (h4 : pl ≤ 13) {s : Nat} (hs : s ≤ 6) (hD : ∀ j : Nat, j < 6 → nI j < nI s → 0 ≤ days j ∧ days j ≤ 11) (t bits : Int32) (K : Int32 → Int32 → Int32 × Int32) : ∀ (n j : Nat), j + n = s → it2 (f_X7_meant_b53 (nI s) con pg cons days (nI k) bits t K) default (n + 1) 1 (nI j) = f_X7_meant_j112 bits t (it1 (f_X6_endsAsSeen_b17 ce pl (nI s) cons days (nI k) t) default (n + 1) (nI j)) K := by
  intro n
  induction n with
  | zero =>
    intro j hj
    have : j = s := by omega
    subst this
    rw [it2_s, it1_s, f_X7_meant_b53, f_X6_endsAsSeen_b17, f_X2_size, if_pos (Int32.le_refl _), if_pos (Int32.le_refl _)]
  | succ n ih =>
    intro j hj
    have hlt : ¬ nI s ≤ nI j := nI_ge (by omega) (by omega)
    have hj0 : ¬ nI j < 0 := nI_pos (by omega)
    obtain ⟨d0, d1⟩ := hD j (by omega) (by grind)
    have hend := end_eq (t := t) hk e0 r0 r1 r2 r3 hp7 h3 h4
    have hcm := coming_at (d := days j) (g := pl) d0 (by grind) h3 h4
    have ih1 := ih (j + 1) (by omega)
    rw [it2_s, it1_s, f_X7_meant_b53, f_X6_endsAsSeen_b17, f_X2_size, if_neg hlt, if_neg hlt, if_neg (by decide), f_X2_contractAt, f_X2_dayAt, if_neg hj0, if_neg hlt, if_neg hj0, if_neg hlt, nI_clamp (by omega), hp0, hend, hcm]
    simp only [f_X7_meant_j104, f_X7_meant_j99, f_X6_endsAsSeen_j67, nI_1]
    by_cases c1 : cons j = nI k
    · by_cases c2 : f_X7_at (days j) pl = f_X7_endOf con (nI k) pl t (pg (7 + nI k).toNatClampNeg)
      · simp only [c1, c2, eq_self, not_true_eq_false, if_true, if_false]
        exact ih1
      · simp only [c1, c2, eq_self, not_true_eq_false, not_false_eq_true, if_true, if_false]
        rw [it2_s, f_X7_meant_b53]
        by_cases hl : nI s ≤ nI (j + 1)
        · rw [if_pos hl]
        · rw [if_neg hl, if_pos rfl]
    · simp only [c1, not_false_eq_true, if_true]
      exact ih1
