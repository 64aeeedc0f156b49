theorem m2 : ∀ k, k < 3 → ((2 * nI k).toNatClampNeg = 2 * k ∧ (2 * nI k + 1).toNatClampNeg = 2 * k + 1) := by decide
theorem m3 : ∀ k, k < 6 → ((3 * nI k).toNatClampNeg = 3 * k ∧ (3 * nI k + 1).toNatClampNeg = 3 * k + 1 ∧ (3 * nI k + 2).toNatClampNeg = 3 * k + 2) := by decide
/-- a birth is read -/
theorem rp_B {sz ce t rc : Nat → Int32} {l p k : Nat} (hl : l ≤ 64) (hp : p ≤ l) (hk : k < 3) (hsz : sz 1 = nI k) : (∃ (e : Nat) (ce' : Nat → Int32), e ≤ l ∧ f_X5_readPart sz ce (nI l) t (nI p) 1 = (nI e, sz, ce') ∧ f_X7_readBirth (nI l) (nI p) (nI k) t rc = (0, nI e, nI k, rc)) ∨ (∃ a b : Int32, p + 2 ≤ l ∧ 0 ≤ a ∧ a ≤ 11 ∧ 0 ≤ b ∧ b ≤ 9 ∧ f_X5_readPart sz ce (nI l) t (nI p) 1 = (-9, upd sz 1 (nI (k + 1)), upd (upd ce (30 + 5 * k) a) (30 + 5 * k + 1) b) ∧ f_X7_readBirth (nI l) (nI p) (nI k) t rc = (1, nI (p + 2), nI (k + 1), upd (upd rc (2 * k) a) (2 * k + 1) b)) := by
  have hlen : lenS.getD (sgS 1) 0 = 2 := by decide
  have hcl : (1 : Int32).toNatClampNeg = 1 := by decide
  have s0 : f_X5_sizeOf sz 1 = nI k := by rw [size_1, hsz]
  have k0 : chS (sgS 1) (nI 0) = 100 := by decide
  have k1 : chS (sgS 1) (nI 1) = 110 := by decide
  obtain ⟨q0, q1⟩ := m2 k hk
  rw [rp_start hlen (by decide)]
  rcases day_eq t hl hp with ⟨h1, g1⟩ | ⟨a, a0, a1, aq, h1, g1⟩
  · refine Or.inl ⟨p, ce, hp, rp_stop hlen (by omega) (by omega) (by rw [k0, vb_100]; exact h1), ?_⟩
    simp only [f_X7_readBirth, f_X7_readBirth_j23, ap2, g1, eq_self, not_true_eq_false, if_false]
  · have na : ¬ a = -9 := by grind
    rw [rp_go (V := a) hlen (by omega) (by omega) (by rw [k0, vb_100]; exact h1) (by grind)]
    rcases fig_eq t hl (show p + 1 ≤ l by omega) (lo := 0) (hi := 9) (a := 48) (b := 57) fe_0_9 (by decide) with ⟨h2, g2⟩ | ⟨b, b0, b1, bq, _, h2, g2⟩
    · refine Or.inl ⟨p + 1, _, by omega, rp_stop hlen (by omega) (by omega) (by rw [k1, vb_110]; exact h2), ?_⟩
      simp only [f_X7_readBirth, f_X7_readBirth_j23, ap2, g1, g2, na, eq_self, not_true_eq_false, not_false_eq_true, if_true, if_false]
    · have nb : ¬ b = -9 := by grind
      refine Or.inr ⟨a, b, by omega, a0, a1, b0, b1, ?_, ?_⟩
      · rw [rp_go (V := b) hlen (by omega) (by omega) (by rw [k1, vb_110]; exact h2) (by grind)]
        rw [show (1 : Nat) + 1 = 2 from rfl]
        rw [rp_end hlen, s0, hcl, hsz, nI_1, sv_eq (30 + 5 * k) (cc_1 k hk 0 (by omega)) (by omega), sv_eq (30 + 5 * k + 1) (cc_1 k hk 1 (by omega)) (by omega)]
      · simp only [f_X7_readBirth, f_X7_readBirth_j23, ap2, g1, g2, na, nb, not_false_eq_true, if_true, q0, q1, nI_1]
/-- a tide is read -/
theorem rp_T {sz ce t rc : Nat → Int32} {l p k : Nat} (hl : l ≤ 64) (hp : p ≤ l) (hk : k < 3) (hsz : sz 2 = nI k) : (∃ (e : Nat) (ce' : Nat → Int32), e ≤ l ∧ f_X5_readPart sz ce (nI l) t (nI p) 2 = (nI e, sz, ce') ∧ f_X7_readTide (nI l) (nI p) (nI k) t rc = (0, nI e, nI k, rc)) ∨ (∃ a b : Int32, p + 2 ≤ l ∧ 2 ≤ a ∧ a ≤ 9 ∧ 0 ≤ b ∧ b ≤ 9 ∧ f_X5_readPart sz ce (nI l) t (nI p) 2 = (-9, upd sz 2 (nI (k + 1)), upd (upd ce (60 + 5 * k) a) (60 + 5 * k + 1) b) ∧ f_X7_readTide (nI l) (nI p) (nI k) t rc = (1, nI (p + 2), nI (k + 1), upd (upd rc (2 * k) a) (2 * k + 1) b)) := by
  have hlen : lenS.getD (sgS 2) 0 = 2 := by decide
  have hcl : (2 : Int32).toNatClampNeg = 2 := by decide
  have s0 : f_X5_sizeOf sz 2 = nI k := by rw [size_2, hsz]
  have k0 : chS (sgS 2) (nI 0) = 101 := by decide
  have k1 : chS (sgS 2) (nI 1) = 110 := by decide
  obtain ⟨q0, q1⟩ := m2 k hk
  rw [rp_start hlen (by decide)]
  rcases fig_eq t hl hp (lo := 2) (hi := 9) (a := 50) (b := 57) fe_2_9 (by decide) with ⟨h1, g1⟩ | ⟨a, a0, a1, aq, _, h1, g1⟩
  · refine Or.inl ⟨p, ce, hp, rp_stop hlen (by omega) (by omega) (by rw [k0, vb_101]; exact h1), ?_⟩
    simp only [f_X7_readTide, f_X7_readTide_j26, ap2, g1, eq_self, not_true_eq_false, if_false]
  · have na : ¬ a = -9 := by grind
    rw [rp_go (V := a) hlen (by omega) (by omega) (by rw [k0, vb_101]; exact h1) (by grind)]
    rcases fig_eq t hl (show p + 1 ≤ l by omega) (lo := 0) (hi := 9) (a := 48) (b := 57) fe_0_9 (by decide) with ⟨h2, g2⟩ | ⟨b, b0, b1, bq, _, h2, g2⟩
    · refine Or.inl ⟨p + 1, _, by omega, rp_stop hlen (by omega) (by omega) (by rw [k1, vb_110]; exact h2), ?_⟩
      simp only [f_X7_readTide, f_X7_readTide_j26, ap2, g1, g2, na, eq_self, not_true_eq_false, not_false_eq_true, if_true, if_false]
    · have nb : ¬ b = -9 := by grind
      refine Or.inr ⟨a, b, by omega, a0, a1, b0, b1, ?_, ?_⟩
      · rw [rp_go (V := b) hlen (by omega) (by omega) (by rw [k1, vb_110]; exact h2) (by grind)]
        rw [show (1 : Nat) + 1 = 2 from rfl]
        rw [rp_end hlen, s0, hcl, hsz, nI_1, sv_eq (60 + 5 * k) (cc_2 k hk 0 (by omega)) (by omega), sv_eq (60 + 5 * k + 1) (cc_2 k hk 1 (by omega)) (by omega)]
      · simp only [f_X7_readTide, f_X7_readTide_j26, ap2, g1, g2, na, nb, not_false_eq_true, if_true, q0, q1, nI_1]
/-- a debt is read -/
theorem rp_D {sz ce t rc : Nat → Int32} {l p k : Nat} (hl : l ≤ 64) (hp : p ≤ l) (hk : k < 6) (hsz : sz 3 = nI k) : (∃ (e : Nat) (ce' : Nat → Int32), e ≤ l ∧ f_X5_readPart sz ce (nI l) t (nI p) 3 = (nI e, sz, ce') ∧ f_X7_readDebt (nI l) (nI p) (nI k) t rc = (0, nI e, nI k, rc)) ∨ (∃ a b c : Int32, p + 3 ≤ l ∧ 0 ≤ a ∧ a ≤ 3 ∧ 0 ≤ b ∧ b ≤ 3 ∧ 1 ≤ c ∧ c ≤ 9 ∧ f_X5_readPart sz ce (nI l) t (nI p) 3 = (-9, upd sz 3 (nI (k + 1)), upd (upd (upd ce (90 + 5 * k) a) (90 + 5 * k + 1) b) (90 + 5 * k + 2) c) ∧ f_X7_readDebt (nI l) (nI p) (nI k) t rc = (1, nI (p + 3), nI (k + 1), upd (upd (upd rc (3 * k) a) (3 * k + 1) b) (3 * k + 2) c)) := by
  have hlen : lenS.getD (sgS 3) 0 = 3 := by decide
  have hcl : (3 : Int32).toNatClampNeg = 3 := by decide
  have s0 : f_X5_sizeOf sz 3 = nI k := by rw [size_3, hsz]
  have k0 : chS (sgS 3) (nI 0) = 112 := by decide
  have k1 : chS (sgS 3) (nI 1) = 113 := by decide
  have k2 : chS (sgS 3) (nI 2) = 111 := by decide
  obtain ⟨q0, q1, q2⟩ := m3 k hk
  rw [rp_start hlen (by decide)]
  rcases fig_eq t hl hp (lo := 0) (hi := 3) (a := 48) (b := 51) fe_0_3 (by decide) with ⟨h1, g1⟩ | ⟨a, a0, a1, aq, _, h1, g1⟩
  · refine Or.inl ⟨p, ce, hp, rp_stop hlen (by omega) (by omega) (by rw [k0, vb_112]; exact h1), ?_⟩
    simp only [f_X7_readDebt, ap2, g1, eq_self, if_true]
  · have na : ¬ a = -9 := by grind
    rw [rp_go (V := a) hlen (by omega) (by omega) (by rw [k0, vb_112]; exact h1) (by grind)]
    have hcl2 : (nI (p + 1)).toNatClampNeg = p + 1 := nI_clamp (by omega)
    have mod : ¬ (p + 1 < l ∧ t (p + 1) - 48 = a) → f_X7_readDebt (nI l) (nI p) (nI k) t rc = f_X7_readDebt_j42 (nI l) (nI k) t rc a (nI (p + 1)) := by
      intro hn
      by_cases hle : nI l ≤ nI (p + 1)
      · simp only [f_X7_readDebt, ap2, g1, na, hle, if_true, if_false]
      · have hlt : p + 1 < l := by
          rcases Nat.lt_or_ge (p + 1) l with q | q
          · exact q
          · exact absurd ((nI_leI (by omega) (by omega)).mpr q) hle
        have h2 : ¬ t (p + 1) - 48 = a := fun q => hn ⟨hlt, q⟩
        simp only [f_X7_readDebt, ap2, g1, na, hle, hcl2, h2, not_false_eq_true, if_true, if_false]
    rcases fig_eq t hl (show p + 1 ≤ l by omega) (lo := 0) (hi := 3) (a := 48) (b := 51) fe_0_3 (by decide) with ⟨h2, g2⟩ | ⟨b, b0, b1, bq, be, h2, g2⟩
    · have hst : f_X5_valueBy (chS (sgS 3) (nI 1)) (f_X4_at (nI l) t (nI (p + 1))) a = -1 := by
        rw [k1, vb_113, h2]
        split <;> rfl
      refine Or.inl ⟨p + 1, _, by omega, rp_stop hlen (by omega) (by omega) hst, ?_⟩
      by_cases hx : p + 1 < l ∧ t (p + 1) - 48 = a
      · have hfr := from_eq t hl (show p + 1 ≤ l by omega) 48 0 3
        have : f_X7_figure (nI l) (nI (p + 1)) t 0 3 = (t (p + 1) - 48, nI (p + 1 + 1)) := by
          unfold f_X7_figure ap2
          rw [hfr, if_pos (show p + 1 < l ∧ 0 ≤ t (p + 1) - 48 ∧ t (p + 1) - 48 ≤ 3 from ⟨hx.1, by rw [hx.2]; exact a0, by rw [hx.2]; exact a1⟩)]
        rw [g2] at this
        have h9 := (Prod.mk.inj this).1
        exact absurd (h9.trans hx.2).symm na
      · rw [mod hx]
        simp only [f_X7_readDebt_j42, f_X7_readDebt_j67, ap2, g2, eq_self, not_true_eq_false, if_false]
    · have nb : ¬ b = -9 := by grind
      by_cases hab : b = a
      · have hst : f_X5_valueBy (chS (sgS 3) (nI 1)) (f_X4_at (nI l) t (nI (p + 1))) a = -1 := by
          rw [k1, vb_113, h2, hab]
          simp only [eq_self, not_true_eq_false, if_false]
        refine Or.inl ⟨p + 1, _, by omega, rp_stop hlen (by omega) (by omega) hst, ?_⟩
        have hle : ¬ nI l ≤ nI (p + 1) := nI_ge bq (by omega)
        have h3 : t (p + 1) - 48 = a := by rw [← be]; exact hab
        simp only [f_X7_readDebt, ap2, g1, na, hle, hcl2, h3, eq_self, not_true_eq_false, if_false]
      · have hgo : f_X5_valueBy (chS (sgS 3) (nI 1)) (f_X4_at (nI l) t (nI (p + 1))) a = b := by
          rw [k1, vb_113, h2]
          simp only [hab, not_false_eq_true, if_true]
        rw [rp_go (V := b) hlen (by omega) (by omega) hgo (by grind), mod (fun q => hab (be.trans q.2))]
        rcases fig_eq t hl (show p + 2 ≤ l by omega) (lo := 1) (hi := 9) (a := 49) (b := 57) fe_1_9 (by decide) with ⟨h3, g3⟩ | ⟨c, c0, c1, cq, _, h3, g3⟩
        · refine Or.inl ⟨p + 2, _, by omega, rp_stop hlen (by omega) (by omega) (by rw [k2, vb_111]; exact h3), ?_⟩
          simp only [f_X7_readDebt_j42, f_X7_readDebt_j67, ap2, g2, g3, nb, eq_self, not_true_eq_false, not_false_eq_true, if_true, if_false]
        · have nc : ¬ c = -9 := by grind
          refine Or.inr ⟨a, b, c, by omega, a0, a1, b0, b1, c0, c1, ?_, ?_⟩
          · rw [rp_go (V := c) hlen (by omega) (by omega) (by rw [k2, vb_111]; exact h3) (by grind)]
            rw [show (2 : Nat) + 1 = 3 from rfl]
            rw [rp_end hlen, s0, hcl, hsz, nI_1, sv_eq (90 + 5 * k) (cc_3 k hk 0 (by omega)) (by omega), sv_eq (90 + 5 * k + 1) (cc_3 k hk 1 (by omega)) (by omega), sv_eq (90 + 5 * k + 2) (cc_3 k hk 2 (by omega)) (by omega)]
          · simp only [f_X7_readDebt_j42, f_X7_readDebt_j67, ap2, g2, g3, nb, nc, not_false_eq_true, if_true, q0, q1, q2, nI_1]
