/-! reading a case: the same on both sides -/
theorem at_in {l q : Nat} (t : Nat → Int32) (hl : l ≤ 64) (hq : q ≤ l) : f_X4_at (nI l) t (nI q) = if q < l then t q else (-9) := by
  unfold f_X4_at
  rw [if_neg (nI_pos (show q < 2 ^ 31 by omega))]
  by_cases h : q < l
  · rw [if_neg (nI_ge h (by omega)), if_pos h, nI_clamp (by omega)]
  · have : q = l := by omega
    subst this
    rw [if_pos (Int32.le_refl _), if_neg h]
theorem from_eq {l q : Nat} (t : Nat → Int32) (hl : l ≤ 64) (hq : q ≤ l) (b lo hi : Int32) : f_X7_from (nI l) (nI q) t b lo hi = if q < l ∧ lo ≤ t q - b ∧ t q - b ≤ hi then (t q - b, nI (q + 1)) else (-9, nI q) := by
  have e1 : nI (q + 1) - 1 = nI q := by
    rw [← nI_1]
    grind
  unfold f_X7_from
  rw [in_i, nI_1, e1, nI_clamp (show q < 2 ^ 31 by omega)]
  by_cases h : q < l
  · have n1 : ¬ nI q = nI l := fun e => absurd ((nI_eq (by omega) (by omega)).mp e) (by omega)
    by_cases h2 : lo ≤ t q - b ∧ t q - b ≤ hi
    · simp only [n1, h, h2, true_and, z10f, if_true, if_false, not_false_eq_true]
    · simp only [n1, h, h2, true_and, eq_self, not_true_eq_false, if_true, if_false]
  · have : q = l := by omega
    subst this
    simp only [eq_self, h, false_and, if_true, if_false]
theorem fe_0_9 (x : Int32) : (¬ x < 48 ∧ ¬ 57 < x) ↔ (0 ≤ x - 48 ∧ x - 48 ≤ 9) := by grind
theorem fe_0_1 (x : Int32) : (¬ x < 48 ∧ ¬ 49 < x) ↔ (0 ≤ x - 48 ∧ x - 48 ≤ 1) := by grind
theorem fe_2_9 (x : Int32) : (¬ x < 50 ∧ ¬ 57 < x) ↔ (2 ≤ x - 48 ∧ x - 48 ≤ 9) := by grind
theorem fe_0_3 (x : Int32) : (¬ x < 48 ∧ ¬ 51 < x) ↔ (0 ≤ x - 48 ∧ x - 48 ≤ 3) := by grind
theorem fe_1_9 (x : Int32) : (¬ x < 49 ∧ ¬ 57 < x) ↔ (1 ≤ x - 48 ∧ x - 48 ≤ 9) := by grind
theorem fig_eq {l q : Nat} (t : Nat → Int32) (hl : l ≤ 64) (hq : q ≤ l) {lo hi a b : Int32} (he : ∀ x : Int32, (¬ x < a ∧ ¬ b < x) ↔ (lo ≤ x - 48 ∧ x - 48 ≤ hi)) (h9 : -9 < a) : (f_X5_figureBy (f_X4_at (nI l) t (nI q)) a b = -1 ∧ f_X7_figure (nI l) (nI q) t lo hi = (-9, nI q)) ∨ (∃ v, lo ≤ v ∧ v ≤ hi ∧ q < l ∧ v = t q - 48 ∧ f_X5_figureBy (f_X4_at (nI l) t (nI q)) a b = v ∧ f_X7_figure (nI l) (nI q) t lo hi = (v, nI (q + 1))) := by
  unfold f_X7_figure ap2
  rw [from_eq t hl hq, at_in t hl hq]
  unfold f_X5_figureBy
  by_cases h : q < l
  · by_cases h3 : lo ≤ t q - 48 ∧ t q - 48 ≤ hi
    · obtain ⟨c1, c2⟩ := (he (t q)).mpr h3
      refine Or.inr ⟨t q - 48, h3.1, h3.2, h, rfl, ?_, ?_⟩
      · simp only [h, c1, c2, if_true, if_false]
      · simp only [h, h3, true_and, and_self, if_true]
    · refine Or.inl ⟨?_, ?_⟩
      · by_cases c1 : t q < a
        · simp only [h, c1, if_true]
        · by_cases c2 : b < t q
          · simp only [h, c1, c2, if_true, if_false]
          · exact absurd ((he (t q)).mp ⟨c1, c2⟩) h3
      · simp only [h, h3, true_and, if_false]
  · refine Or.inl ⟨?_, ?_⟩
    · simp only [h, h9, if_true, if_false]
    · simp only [h, false_and, if_false]
theorem day_eq {l q : Nat} (t : Nat → Int32) (hl : l ≤ 64) (hq : q ≤ l) : (f_X5_dayBy (f_X4_at (nI l) t (nI q)) = -1 ∧ f_X7_day (nI l) (nI q) t = (-9, nI q)) ∨ (∃ v, 0 ≤ v ∧ v ≤ 11 ∧ q < l ∧ f_X5_dayBy (f_X4_at (nI l) t (nI q)) = v ∧ f_X7_day (nI l) (nI q) t = (v, nI (q + 1))) := by
  unfold f_X7_day ap2
  rw [from_eq t hl hq, at_in t hl hq]
  unfold f_X5_dayBy
  by_cases h : q < l
  · by_cases h3 : 0 ≤ t q - 97 ∧ t q - 97 ≤ 11
    · refine Or.inr ⟨t q - 97, h3.1, h3.2, h, ?_, ?_⟩
      · have c1 : ¬ t q < 97 := by grind
        have c2 : ¬ 108 < t q := by grind
        simp only [h, c1, c2, if_true, if_false]
      · simp only [h, h3, true_and, and_self, if_true]
    · refine Or.inl ⟨?_, ?_⟩
      · by_cases c1 : t q < 97
        · simp only [h, c1, if_true]
        · have c2 : 108 < t q := by grind
          simp only [h, c1, c2, if_true, if_false]
      · simp only [h, h3, true_and, if_false]
  · refine Or.inl ⟨?_, ?_⟩
    · have c1 : (-9 : Int32) < 97 := by decide
      simp only [h, c1, if_true, if_false]
    · simp only [h, false_and, if_false]
theorem vb_100 (c pv : Int32) : f_X5_valueBy 100 c pv = f_X5_dayBy c := by
  unfold f_X5_valueBy
  rw [if_pos rfl]
theorem vb_101 (c pv : Int32) : f_X5_valueBy 101 c pv = f_X5_figureBy c 50 57 := by
  unfold f_X5_valueBy
  rw [if_neg (by decide), if_pos rfl]
theorem vb_107 (c pv : Int32) : f_X5_valueBy 107 c pv = f_X5_figureBy c 48 49 := by
  unfold f_X5_valueBy
  repeat rw [if_neg (by decide)]
  rw [if_pos rfl]
theorem vb_110 (c pv : Int32) : f_X5_valueBy 110 c pv = f_X5_figureBy c 48 57 := by
  unfold f_X5_valueBy
  repeat rw [if_neg (by decide)]
  rw [if_pos rfl]
theorem vb_111 (c pv : Int32) : f_X5_valueBy 111 c pv = f_X5_figureBy c 49 57 := by
  unfold f_X5_valueBy
  repeat rw [if_neg (by decide)]
  rw [if_pos rfl]
theorem vb_112 (c pv : Int32) : f_X5_valueBy 112 c pv = f_X5_figureBy c 48 51 := by
  unfold f_X5_valueBy
  repeat rw [if_neg (by decide)]
  rw [if_pos rfl]
theorem vb_113 (c pv : Int32) : f_X5_valueBy 113 c pv = if ¬ f_X5_figureBy c 48 51 = pv then f_X5_figureBy c 48 51 else (-1) := by
  unfold f_X5_valueBy
  repeat rw [if_neg (by decide)]
  rw [if_pos rfl]
theorem vb_118 (c pv : Int32) : f_X5_valueBy 118 c pv = if ¬ pv = 0 then f_X5_figureBy c 48 57 else f_X5_dayBy c := by
  unfold f_X5_valueBy
  repeat rw [if_neg (by decide)]
  rw [if_pos rfl]
theorem sv_eq {ce : Nat → Int32} {x k i v : Int32} (q : Nat) (h : f_X5_cellOf x k i = nI q) (hq : q < 120) : f_X5_setValue ce x k i v = upd ce q v := by
  unfold f_X5_setValue
  have h1 : ¬ nI q < 0 := nI_pos (by omega)
  have h2 : ¬ (120 : Int32) ≤ nI q := nI_ge (a := q) (b := 120) hq (by decide)
  rw [h, if_neg h1, if_neg h2, nI_clamp (by omega)]
theorem rp_go {sz ce t : Nat → Int32} {L x pv V : Int32} {p n i len : Nat} (hlen : lenS.getD (sgS x) 0 = len) (hi : i < len) (hl5 : len ≤ 5) (hV : f_X5_valueBy (chS (sgS x) (nI i)) (f_X4_at L t (nI (p + i))) pv = V) (hne : ¬ V = -1) : it3 (f_X5_readPart_b12 sz L t (nI p) x) default (n + 1) pv (nI i) ce = it3 (f_X5_readPart_b12 sz L t (nI p) x) default n V (nI (i + 1)) (f_X5_setValue ce x (f_X5_sizeOf sz x) (nI i) V) := by
  rw [it3_s, f_X5_readPart_b12, hlen, if_neg (nI_ge hi (by omega)), nI_add, hV, if_pos hne, nI_1]
  rfl
theorem rp_stop {sz ce t : Nat → Int32} {L x pv : Int32} {p n i len : Nat} (hlen : lenS.getD (sgS x) 0 = len) (hi : i < len) (hl5 : len ≤ 5) (hV : f_X5_valueBy (chS (sgS x) (nI i)) (f_X4_at L t (nI (p + i))) pv = -1) : it3 (f_X5_readPart_b12 sz L t (nI p) x) default (n + 1) pv (nI i) ce = (nI (p + i), sz, ce) := by
  rw [it3_s, f_X5_readPart_b12, hlen, if_neg (nI_ge hi (by omega)), nI_add, hV, if_neg (fun q => q rfl)]
theorem rp_end {sz ce t : Nat → Int32} {L x pv : Int32} {p n len : Nat} (hlen : lenS.getD (sgS x) 0 = len) : it3 (f_X5_readPart_b12 sz L t (nI p) x) default (n + 1) pv (nI len) ce = (-9, upd sz x.toNatClampNeg (sz x.toNatClampNeg + 1), ce) := by
  rw [it3_s, f_X5_readPart_b12, hlen, if_pos (Int32.le_refl _)]
theorem rp_start {sz ce t : Nat → Int32} {L x : Int32} {p len : Nat} (hlen : lenS.getD (sgS x) 0 = len) (hl5 : len ≤ 5) : f_X5_readPart sz ce L t (nI p) x = it3 (f_X5_readPart_b12 sz L t (nI p) x) default (len + 1) (-1) (nI 0) ce := by
  have hfu : ∀ m, m ≤ 5 → ((nI m).toInt - (0 : Int32).toInt).toNat + 1 = m + 1 := by decide
  unfold f_X5_readPart
  rw [hlen, hfu len hl5]
  rfl
theorem cc_0 : ∀ k, k < 5 → ∀ i, i < 5 → f_X5_cellOf 0 (nI k) (nI i) = nI (5 * k + i) := by decide
theorem cc_1 : ∀ k, k < 3 → ∀ i, i < 2 → f_X5_cellOf 1 (nI k) (nI i) = nI (30 + 5 * k + i) := by decide
theorem cc_2 : ∀ k, k < 3 → ∀ i, i < 2 → f_X5_cellOf 2 (nI k) (nI i) = nI (60 + 5 * k + i) := by decide
theorem cc_3 : ∀ k, k < 6 → ∀ i, i < 3 → f_X5_cellOf 3 (nI k) (nI i) = nI (90 + 5 * k + i) := by decide
theorem m5 : ∀ k, k < 5 → ((5 * nI k).toNatClampNeg = 5 * k ∧ (5 * nI k + 1).toNatClampNeg = 5 * k + 1 ∧ (5 * nI k + 2).toNatClampNeg = 5 * k + 2 ∧ (5 * nI k + 3).toNatClampNeg = 5 * k + 3 ∧ (5 * nI k + 4).toNatClampNeg = 5 * k + 4) := by decide
theorem j29_eq {L kk r8 b w : Int32} {t rc : Nat → Int32} (h : ¬ b = -9) : f_X7_readContract_j29 L kk t rc r8 b w = ap2 (if ¬ b = 0 then f_X7_figure L w t 0 9 else f_X7_day L w t) (fun r u => f_X7_readContract_j59 L kk t rc r8 b r u) := by
  unfold f_X7_readContract_j29
  rw [if_pos h]
  by_cases hb : b = 0
  · simp only [hb, eq_self, not_true_eq_false, if_false]
  · simp only [hb, not_false_eq_true, if_true]
/-- a contract is read -/
theorem rp_C {sz ce t rc : Nat → Int32} {l p k : Nat} (hl : l ≤ 64) (hp : p ≤ l) (hk : k < 5) (hsz : sz 0 = nI k) : (∃ (e : Nat) (ce' : Nat → Int32), e ≤ l ∧ f_X5_readPart sz ce (nI l) t (nI p) 0 = (nI e, sz, ce') ∧ f_X7_readContract (nI l) (nI p) (nI k) t rc = (0, nI e, nI k, rc)) ∨ (∃ a b c d e : Int32, p + 5 ≤ l ∧ 0 ≤ a ∧ a ≤ 11 ∧ (b = 0 ∨ b = 1) ∧ 0 ≤ c ∧ c ≤ 11 ∧ 0 ≤ d ∧ d ≤ 11 ∧ 0 ≤ e ∧ e ≤ 9 ∧ f_X5_readPart sz ce (nI l) t (nI p) 0 = (-9, upd sz 0 (nI (k + 1)), upd (upd (upd (upd (upd ce (5 * k) a) (5 * k + 1) b) (5 * k + 2) c) (5 * k + 3) d) (5 * k + 4) e) ∧ f_X7_readContract (nI l) (nI p) (nI k) t rc = (1, nI (p + 5), nI (k + 1), upd (upd (upd (upd (upd rc (5 * k) a) (5 * k + 1) b) (5 * k + 2) c) (5 * k + 3) d) (5 * k + 4) e)) := by
  have hlen : lenS.getD (sgS 0) 0 = 5 := by decide
  have hcl : (0 : Int32).toNatClampNeg = 0 := by decide
  have s0 : f_X5_sizeOf sz 0 = nI k := by rw [size_0, hsz]
  have k0 : chS (sgS 0) (nI 0) = 100 := by decide
  have k1 : chS (sgS 0) (nI 1) = 107 := by decide
  have k2 : chS (sgS 0) (nI 2) = 118 := by decide
  have k3 : chS (sgS 0) (nI 3) = 100 := by decide
  have k4 : chS (sgS 0) (nI 4) = 110 := by decide
  obtain ⟨q0, q1, q2, q3, q4⟩ := m5 k hk
  rw [rp_start hlen (by decide)]
  rcases day_eq t hl hp with ⟨h1, g1⟩ | ⟨a, a0, a1, aq, h1, g1⟩
  · refine Or.inl ⟨p, ce, hp, rp_stop hlen (by omega) (by omega) (by rw [k0, vb_100]; exact h1), ?_⟩
    simp only [f_X7_readContract, f_X7_readContract_j29, f_X7_readContract_j59, f_X7_readContract_j77, f_X7_readContract_j98, ap2, g1, eq_self, not_true_eq_false, if_false]
  · have na : ¬ a = -9 := by grind
    rw [rp_go (V := a) hlen (by omega) (by omega) (by rw [k0, vb_100]; exact h1) (by grind)]
    rcases fig_eq t hl (show p + 1 ≤ l by omega) (lo := 0) (hi := 1) (a := 48) (b := 49) fe_0_1 (by decide) with ⟨h2, g2⟩ | ⟨b, b0, b1, bq, _, h2, g2⟩
    · refine Or.inl ⟨p + 1, _, by omega, rp_stop hlen (by omega) (by omega) (by rw [k1, vb_107]; exact h2), ?_⟩
      simp only [f_X7_readContract, f_X7_readContract_j29, f_X7_readContract_j59, f_X7_readContract_j77, f_X7_readContract_j98, ap2, g1, g2, na, eq_self, not_true_eq_false, not_false_eq_true, if_true, if_false]
    · have nb : ¬ b = -9 := by grind
      have b01 : b = 0 ∨ b = 1 := by grind
      rw [rp_go (V := b) hlen (by omega) (by omega) (by rw [k1, vb_107]; exact h2) (by grind)]
      have third : (f_X5_valueBy 118 (f_X4_at (nI l) t (nI (p + 2))) b = -1 ∧ (if ¬ b = 0 then f_X7_figure (nI l) (nI (p + 1 + 1)) t 0 9 else f_X7_day (nI l) (nI (p + 1 + 1)) t) = (-9, nI (p + 2))) ∨ (∃ v, 0 ≤ v ∧ v ≤ 11 ∧ p + 2 < l ∧ f_X5_valueBy 118 (f_X4_at (nI l) t (nI (p + 2))) b = v ∧ (if ¬ b = 0 then f_X7_figure (nI l) (nI (p + 1 + 1)) t 0 9 else f_X7_day (nI l) (nI (p + 1 + 1)) t) = (v, nI (p + 3))) := by
        rw [vb_118]
        by_cases hb : b = 0
        · simp only [hb, eq_self, not_true_eq_false, if_false]
          exact day_eq t hl (show p + 2 ≤ l by omega)
        · simp only [hb, not_false_eq_true, if_true]
          rcases fig_eq t hl (show p + 2 ≤ l by omega) (lo := 0) (hi := 9) (a := 48) (b := 57) fe_0_9 (by decide) with h | ⟨v, v0, v1, v2, _, v3, v4⟩
          · exact Or.inl h
          · exact Or.inr ⟨v, v0, by grind, v2, v3, v4⟩
      have mod : f_X7_readContract (nI l) (nI p) (nI k) t rc = ap2 (if ¬ b = 0 then f_X7_figure (nI l) (nI (p + 1 + 1)) t 0 9 else f_X7_day (nI l) (nI (p + 1 + 1)) t) (fun r u => f_X7_readContract_j59 (nI l) (nI k) t rc a b r u) := by
        rw [← j29_eq nb]
        simp only [f_X7_readContract, ap2, g1, g2, na, not_false_eq_true, if_true]
      rw [mod]
      rcases third with ⟨h3, g3⟩ | ⟨c, c0, c1, cq, h3, g3⟩
      · refine Or.inl ⟨p + 2, _, by omega, rp_stop hlen (by omega) (by omega) (by rw [k2]; exact h3), ?_⟩
        rw [g3]
        simp only [f_X7_readContract_j59, f_X7_readContract_j77, f_X7_readContract_j98, ap2, eq_self, not_true_eq_false, if_false]
      · have nc : ¬ c = -9 := by grind
        rw [rp_go (V := c) hlen (by omega) (by omega) (by rw [k2]; exact h3) (by grind), g3]
        rcases day_eq t hl (show p + 3 ≤ l by omega) with ⟨h4, g4⟩ | ⟨d, d0, d1, dq, h4, g4⟩
        · refine Or.inl ⟨p + 3, _, by omega, rp_stop hlen (by omega) (by omega) (by rw [k3, vb_100]; exact h4), ?_⟩
          simp only [f_X7_readContract_j59, f_X7_readContract_j77, f_X7_readContract_j98, ap2, g4, nc, eq_self, not_true_eq_false, not_false_eq_true, if_true, if_false]
        · have nd : ¬ d = -9 := by grind
          rw [rp_go (V := d) hlen (by omega) (by omega) (by rw [k3, vb_100]; exact h4) (by grind)]
          rcases fig_eq t hl (show p + 4 ≤ l by omega) (lo := 0) (hi := 9) (a := 48) (b := 57) fe_0_9 (by decide) with ⟨h5, g5⟩ | ⟨e, e0, e1, eq, _, h5, g5⟩
          · refine Or.inl ⟨p + 4, _, by omega, rp_stop hlen (by omega) (by omega) (by rw [k4, vb_110]; exact h5), ?_⟩
            simp only [f_X7_readContract_j59, f_X7_readContract_j77, f_X7_readContract_j98, ap2, g4, g5, nc, nd, eq_self, not_true_eq_false, not_false_eq_true, if_true, if_false]
          · have ne : ¬ e = -9 := by grind
            refine Or.inr ⟨a, b, c, d, e, by omega, a0, a1, b01, c0, c1, d0, d1, e0, e1, ?_, ?_⟩
            · rw [rp_go (V := e) hlen (by omega) (by omega) (by rw [k4, vb_110]; exact h5) (by grind)]
              rw [show (4 : Nat) + 1 = 5 from rfl]
              rw [rp_end hlen, s0, hcl, hsz, nI_1, sv_eq (5 * k) (cc_0 k hk 0 (by omega)) (by omega), sv_eq (5 * k + 1) (cc_0 k hk 1 (by omega)) (by omega), sv_eq (5 * k + 2) (cc_0 k hk 2 (by omega)) (by omega), sv_eq (5 * k + 3) (cc_0 k hk 3 (by omega)) (by omega), sv_eq (5 * k + 4) (cc_0 k hk 4 (by omega)) (by omega)]
            · simp only [f_X7_readContract_j59, f_X7_readContract_j77, f_X7_readContract_j98, ap2, g4, g5, nc, nd, ne, not_false_eq_true, if_true, q0, q1, q2, q3, q4, nI_1]
