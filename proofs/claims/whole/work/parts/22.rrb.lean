/-! what is broken: the same on both sides -/
theorem tn0 : (0 : Int32).toNatClampNeg = 0 := by decide
theorem tn1 : (1 : Int32).toNatClampNeg = 1 := by decide
theorem pg0 {pg : Nat → Int32} {pl : Int32} (h : pg 0 = pl) : pg (0 : Int32).toNatClampNeg = pl := by rw [tn0]; exact h
theorem pg1 {pg : Nat → Int32} {pl : Int32} (h : pg 1 = pl) : pg (1 : Int32).toNatClampNeg = pl := by rw [tn1]; exact h
theorem it2_z {A B R : Type} (b : (A → B → R) → A → B → R) (d : R) (x : A) (y : B) : it2 b d 0 x y = d := rfl
theorem z10f : ((1 : Int32) = 0) = False := eq_false (by decide)
theorem va_g (ce : Nat → Int32) {kind n f : Int32} (q : Nat) (h : f_X5_cellOf kind n f = nI q) (hq : q < 120) : f_X5_valueAt ce kind n f = ce q := by
  unfold f_X5_valueAt
  have h1 : ¬ nI q < 0 := nI_pos (by omega)
  have h2 : ¬ (120 : Int32) ≤ nI q := nI_ge (a := q) (b := 120) hq (by decide)
  rw [h, if_neg h1, if_neg h2, nI_clamp (by omega)]
theorem cell_0 : ∀ k, k < 5 → (f_X5_cellOf 0 (nI k) 0 = nI (5 * k) ∧ f_X5_cellOf 0 (nI k) 2 = nI (5 * k + 2) ∧ f_X5_cellOf 0 (nI k) 3 = nI (5 * k + 3) ∧ f_X5_cellOf 0 (nI k) 4 = nI (5 * k + 4)) := by decide
theorem start_k (ce : Nat → Int32) {k : Nat} (h : k < 5) : f_X5_startOf ce (nI k) = ce (5 * k) := va_g ce _ (cell_0 k h).1 (by omega)
theorem length_k (ce : Nat → Int32) {k : Nat} (h : k < 5) : f_X5_lengthOf ce (nI k) = ce (5 * k + 2) := va_g ce _ (cell_0 k h).2.1 (by omega)
theorem latest_k (ce : Nat → Int32) {k : Nat} (h : k < 5) : f_X5_latestOf ce (nI k) = ce (5 * k + 3) := va_g ce _ (cell_0 k h).2.2.1 (by omega)
theorem least_k (ce : Nat → Int32) {k : Nat} (h : k < 5) : f_X5_leastOf ce (nI k) = ce (5 * k + 4) := va_g ce _ (cell_0 k h).2.2.2 (by omega)
theorem con_0 : ∀ k, k < 5 → ((5 * nI k).toNatClampNeg = 5 * k ∧ (5 * nI k + 3).toNatClampNeg = 5 * k + 3 ∧ (5 * nI k + 4).toNatClampNeg = 5 * k + 4 ∧ (2 + nI k).toNatClampNeg = 2 + k ∧ (7 + nI k).toNatClampNeg = 7 + k) := by decide
theorem size_0 (sz : Nat → Int32) : f_X5_sizeOf sz 0 = sz 0 := by
  unfold f_X5_sizeOf
  rw [if_neg (by decide), if_neg (by decide)]; rfl
theorem size_1 (sz : Nat → Int32) : f_X5_sizeOf sz 1 = sz 1 := by
  unfold f_X5_sizeOf
  rw [if_neg (by decide), if_neg (by decide)]; rfl
theorem size_2 (sz : Nat → Int32) : f_X5_sizeOf sz 2 = sz 2 := by
  unfold f_X5_sizeOf
  rw [if_neg (by decide), if_neg (by decide)]; rfl
theorem size_3 (sz : Nat → Int32) : f_X5_sizeOf sz 3 = sz 3 := by
  unfold f_X5_sizeOf
  rw [if_neg (by decide), if_neg (by decide)]; rfl
theorem coming_at {d g : Int32} (h1 : 0 ≤ d) (h2 : d ≤ 12) (h3 : 0 ≤ g) (h4 : g ≤ 13) : f_X6_comingOf d g = f_X7_at d g := by
  unfold f_X6_comingOf f_X7_at
  grind
theorem void_has (vo x : Int32) : f_X3_isVoid vo x = 0 ↔ f_X7_has vo x = 0 := by
  unfold f_X3_isVoid f_X7_has
  have := bit01 (vo >>> (x &&& 31))
  grind
/-- where a contract ends, as it is read -/
theorem end_eq {ce con : Nat → Int32} {k : Nat} {g v t : Int32} (hk : k < 5) (e0 : con (5 * k) = ce (5 * k)) (r0 : 0 ≤ ce (5 * k)) (r1 : ce (5 * k) ≤ 11) (r2 : 0 ≤ ce (5 * k + 2)) (r3 : ce (5 * k + 2) ≤ 11) (hv : v = ce (5 * k + 2)) (h3 : 0 ≤ g) (h4 : g ≤ 13) : f_X6_endOf ce (nI k) t g = f_X7_endOf con (nI k) g t v := by
  unfold f_X6_endOf f_X7_endOf
  rw [length_k ce hk, start_k ce hk, (con_0 k hk).1, e0, hv, coming_at r2 (by grind) h3 h4, coming_at r0 (by grind) h3 h4]
  grind
theorem brk_eq {ct : Int32} {sz ce con bir tid deb pg : Nat → Int32} {bi ti de pl vo co : Int32} (hC : CaseOK ct bi ti de sz ce con bir tid deb) (hP : PageOK ct ce pg pl vo co) {g : Int32} (h3 : 0 ≤ g) (h4 : g ≤ 13) {k : Nat} (hk : k < 5) (hc : nI k < ct) : f_X7_isBroken con pg (nI k) g = if f_X6_holdsAt ce co (nI k) g = 0 then 1 else 0 := by
  obtain ⟨⟨e0, e1, e2, e3, e4⟩, r0, r1, r2, r3, r4, r5, r6, r7, r8⟩ := hC.2.1 k hk hc
  obtain ⟨p1, p2⟩ := hP.2.2.1 k hk hc
  have hend : f_X6_endOf ce (nI k) (f_X3_isByCount co (nI k)) g = f_X7_endOf con (nI k) g (pg (2 + k)) (pg (7 + k)) := by
    have hb : f_X3_isByCount co (nI k) = pg (2 + k) := by
      unfold f_X3_isByCount
      rw [p1]
      have := bit01 (co >>> (nI k &&& 31))
      grind
    rw [hb]
    exact end_eq hk e0 r0 r1 r3 r4 p2 h3 h4
  unfold f_X7_isBroken f_X6_holdsAt
  rw [hend, latest_k ce hk, start_k ce hk, least_k ce hk, (con_0 k hk).2.1, (con_0 k hk).2.2.1, (con_0 k hk).2.2.2.1, (con_0 k hk).2.2.2.2, (con_0 k hk).1, e0, e3, e4, coming_at r0 (by grind) h3 h4, coming_at r5 (by grind) h3 h4]
  grind
theorem or_0 (x : Int32) : x ||| 0 = x := by
  apply Int32.toBitVec_inj.mp
  simp
theorem nI_lt5 {ct : Int32} (h1 : ct ≤ 5) {j : Nat} (hj : j ≤ 5) (h : ¬ ct ≤ nI j) : j < 5 := by
  rcases Nat.lt_or_ge j 5 with q | q
  · exact q
  · have : j = 5 := by omega
    subst this
    exact absurd (show ct ≤ nI 5 from h1) h
theorem broken_loop {ct : Int32} {sz ce con bir tid deb pg : Nat → Int32} {bi ti de pl vo co : Int32} (hC : CaseOK ct bi ti de sz ce con bir tid deb) (hP : PageOK ct ce pg pl vo co) (h5 : ct ≤ 5) {g : Int32} (h3 : 0 ≤ g) (h4 : g ≤ 13) : ∀ (n j : Nat) (bits : Int32), j ≤ 5 → it2 (f_X6_brokenAt_b4 sz ce vo co g) default n bits (nI j) = it2 (f_X7_brokenBy_b4 ct con pg g) default n bits (nI j) := by
  intro n
  induction n with
  | zero => intro j bits _; exact (it2_z _ _ _ _).trans (it2_z _ _ _ _).symm
  | succ n ih =>
    intro j bits hj
    rw [it2_s, it2_s, f_X6_brokenAt_b4, f_X7_brokenBy_b4, size_0, hC.1.1]
    by_cases h : ct ≤ nI j
    · rw [if_pos h, if_pos h]
    · rw [if_neg h, if_neg h]
      have hj5 := nI_lt5 h5 hj h
      have hc : nI j < ct := by grind
      have e1 := void_has vo (nI j)
      have e2 := brk_eq hC hP h3 h4 hj5 hc
      have ih1 := fun b => ih (j + 1) b (by omega)
      simp only [f_X6_brokenAt_j42, f_X7_brokenBy_j41, f_X7_brokenBy_j42, nI_1, or_0, ih1]
      rw [pg1 hP.2.1, e2]
      by_cases v : f_X7_has vo (nI j) = 0
      · have v2 := e1.mpr v
        by_cases w : f_X6_holdsAt ce co (nI j) g = 0 <;> simp only [v, v2, w, z10f, eq_self, not_true_eq_false, not_false_eq_true, if_true, if_false]
      · have v2 : ¬ f_X3_isVoid vo (nI j) = 0 := fun q => v (e1.mp q)
        by_cases w : f_X6_holdsAt ce co (nI j) g = 0 <;> simp only [v, v2, w, z10f, eq_self, not_true_eq_false, not_false_eq_true, if_true, if_false]
theorem broken_eq {ct : Int32} {sz ce con bir tid deb pg : Nat → Int32} {bi ti de pl vo co : Int32} (hC : CaseOK ct bi ti de sz ce con bir tid deb) (hP : PageOK ct ce pg pl vo co) (h5 : ct ≤ 5) {g : Int32} (h3 : 0 ≤ g) (h4 : g ≤ 13) : f_X6_brokenAt sz ce vo co g = f_X7_brokenBy ct con pg g := by
  unfold f_X6_brokenAt f_X7_brokenBy
  rw [size_0, hC.1.1]
  exact broken_loop hC hP h5 h3 h4 _ 0 0 (by omega)
theorem or32 {a y : Int32} (h0 : 0 ≤ a) (h1 : a < 32) (h2 : 0 ≤ y) (h3 : y < 32) : 0 ≤ a ||| y ∧ a ||| y < 32 := by
  obtain ⟨i, hi, rfl⟩ := nI_ex (n := 32) (k := 32) (by decide) h0 h1
  obtain ⟨j, hj, rfl⟩ := nI_ex (n := 32) (k := 32) (by decide) h2 h3
  have key : ∀ i, i < 32 → ∀ j, j < 32 → ((0 : Int32) ≤ nI i ||| nI j ∧ nI i ||| nI j < 32) := by decide +kernel
  exact key i hi j hj
theorem shl5 : ∀ k, k < 5 → ((0 : Int32) ≤ (1 : Int32) <<< (nI k &&& 31) ∧ (1 : Int32) <<< (nI k &&& 31) < 32) := by decide
theorem broken_bd {ct : Int32} {con pg : Nat → Int32} (h5 : ct ≤ 5) {g : Int32} : ∀ (n j : Nat) (bits : Int32), j ≤ 5 → 0 ≤ bits → bits < 32 → 0 ≤ it2 (f_X7_brokenBy_b4 ct con pg g) default n bits (nI j) ∧ it2 (f_X7_brokenBy_b4 ct con pg g) default n bits (nI j) < 32 := by
  intro n
  induction n with
  | zero => intro j bits _ _ _; exact ⟨(by decide : (0 : Int32) ≤ 0), (by decide : (0 : Int32) < 32)⟩
  | succ n ih =>
    intro j bits hj h0 h1
    rw [it2_s, f_X7_brokenBy_b4]
    by_cases h : ct ≤ nI j
    · rw [if_pos h]; exact ⟨h0, h1⟩
    · rw [if_neg h]
      have hj5 := nI_lt5 h5 hj h
      have o := or32 h0 h1 (shl5 j hj5).1 (shl5 j hj5).2
      simp only [f_X7_brokenBy_j41, f_X7_brokenBy_j42, nI_1, or_0]
      split
      · exact ih (j + 1) _ (by omega) h0 h1
      · split
        · exact ih (j + 1) _ (by omega) h0 h1
        · exact ih (j + 1) _ (by omega) o.1 o.2
theorem brokenBy_bd {ct : Int32} {con pg : Nat → Int32} (h5 : ct ≤ 5) {g : Int32} : 0 ≤ f_X7_brokenBy ct con pg g ∧ f_X7_brokenBy ct con pg g < 32 := by
  unfold f_X7_brokenBy
  exact broken_bd h5 _ 0 0 (by omega) (Int32.le_refl _) (by decide)
theorem cntN : ∀ x, x < 64 → f_J6_bitCount_0f7a4 (nI x) = cntB (nI x) 14 := by decide +kernel
theorem bitCount_many {x : Int32} (h0 : 0 ≤ x) (h1 : x < 64) : f_J6_bitCount_0f7a4 x = f_X7_many x := by
  obtain ⟨i, hi, rfl⟩ := nI_ex (n := 64) (k := 64) (by decide) h0 h1
  rw [many_cnt, cntN i hi]
theorem bc_broken {ct : Int32} {sz ce con bir tid deb pg : Nat → Int32} {bi ti de pl vo co : Int32} (hC : CaseOK ct bi ti de sz ce con bir tid deb) (hP : PageOK ct ce pg pl vo co) (h5 : ct ≤ 5) {g : Int32} (h3 : 0 ≤ g) (h4 : g ≤ 13) : f_J6_bitCount_0f7a4 (f_X6_brokenAt sz ce vo co g) = f_X7_many (f_X7_brokenBy ct con pg g) := by
  rw [broken_eq hC hP h5 h3 h4]
  have := brokenBy_bd (ct := ct) (con := con) (pg := pg) (g := g) h5
  exact bitCount_many this.1 (by grind)
theorem isCon_eq {ct : Int32} {sz : Nat → Int32} (e : sz 0 = ct) (h0 : 0 ≤ ct) (h5 : ct ≤ 5) (x : Int32) : ¬ f_X6_isContract sz x = 0 ↔ f_X7_noContract ct x = 0 := by
  unfold f_X6_isContract
  rw [nc_eq ct x h0 h5, size_0, e]
  grind
theorem isPlace_eq (x : Int32) : ¬ f_X6_isPlace x = 0 ↔ f_X7_noPlace x = 0 := by
  unfold f_X6_isPlace
  rw [np_eq]
  grind
theorem cell_1 : ∀ k, k < 3 → (f_X5_cellOf 1 (nI k) 0 = nI (30 + 5 * k) ∧ f_X5_cellOf 1 (nI k) 1 = nI (31 + 5 * k) ∧ f_X5_cellOf 2 (nI k) 0 = nI (60 + 5 * k) ∧ f_X5_cellOf 2 (nI k) 1 = nI (61 + 5 * k)) := by decide
theorem birthDay_k (ce : Nat → Int32) {k : Nat} (h : k < 3) : f_X5_birthDay ce (nI k) = ce (30 + 5 * k) := va_g ce _ (cell_1 k h).1 (by omega)
theorem fullAge_k (ce : Nat → Int32) {k : Nat} (h : k < 3) : f_X5_fullAge ce (nI k) = ce (31 + 5 * k) := va_g ce _ (cell_1 k h).2.1 (by omega)
theorem tideEach_k (ce : Nat → Int32) {k : Nat} (h : k < 3) : f_X5_tideEach ce (nI k) = ce (60 + 5 * k) := va_g ce _ (cell_1 k h).2.2.1 (by omega)
theorem tideFirst_k (ce : Nat → Int32) {k : Nat} (h : k < 3) : f_X5_tideFirst ce (nI k) = ce (61 + 5 * k) := va_g ce _ (cell_1 k h).2.2.2 (by omega)
theorem cell_3 : ∀ k, k < 6 → (f_X5_cellOf 3 (nI k) 0 = nI (90 + 5 * k) ∧ f_X5_cellOf 3 (nI k) 1 = nI (91 + 5 * k) ∧ f_X5_cellOf 3 (nI k) 2 = nI (92 + 5 * k)) := by decide
theorem debtor_k (ce : Nat → Int32) {k : Nat} (h : k < 6) : f_X5_debtor ce (nI k) = ce (90 + 5 * k) := va_g ce _ (cell_3 k h).1 (by omega)
theorem creditor_k (ce : Nat → Int32) {k : Nat} (h : k < 6) : f_X5_creditor ce (nI k) = ce (91 + 5 * k) := va_g ce _ (cell_3 k h).2.1 (by omega)
theorem debtOf_k (ce : Nat → Int32) {k : Nat} (h : k < 6) : f_X5_debtOf ce (nI k) = ce (92 + 5 * k) := va_g ce _ (cell_3 k h).2.2 (by omega)
theorem two_k : ∀ k, k < 3 → ((2 * nI k).toNatClampNeg = 2 * k ∧ (2 * nI k + 1).toNatClampNeg = 2 * k + 1) := by decide
theorem three_k : ∀ k, k < 6 → ((3 * nI k).toNatClampNeg = 3 * k ∧ (3 * nI k + 1).toNatClampNeg = 3 * k + 1 ∧ (3 * nI k + 2).toNatClampNeg = 3 * k + 2) := by decide
theorem nI_ltN {ct M : Int32} {N : Nat} (hM : nI N = M) (h1 : ct ≤ M) {j : Nat} (hN : N < 2 ^ 31) (hj : j ≤ N) (h : ¬ ct ≤ nI j) : j < N := by
  rcases Nat.lt_or_ge j N with q | q
  · exact q
  · have : j = N := by omega
    subst this
    rw [hM] at h
    exact absurd h1 h
/-- best: the same turns on both sides -/
theorem best_loop {ct : Int32} {sz ce con bir tid deb pg : Nat → Int32} {bi ti de pl vo co : Int32} (hC : CaseOK ct bi ti de sz ce con bir tid deb) (hP : PageOK ct ce pg pl vo co) (h5 : ct ≤ 5) (x1 x2 : Int32) : ∀ (n j : Nat) (w f w2 f2 : Int32), j ≤ 14 → 14 - j < n → ((w = -9 ∧ f = -9 ∧ w2 = -9 ∧ f2 = 9999) ∨ (0 ≤ w ∧ w = w2 ∧ f = f2 ∧ f ≤ 14)) → it3 (f_X7_best_b47 ct con pg x1 x2) default n w2 f2 (nI j) = (it3 (f_X6_best_b35 sz ce vo co x1 x2) default n w f (nI j), 0) := by
  intro n
  induction n with
  | zero => intro j w f w2 f2 _ h _; exact absurd h (Nat.not_lt_zero _)
  | succ n ih =>
    intro j w f w2 f2 hj hn hw
    rw [it3_s, it3_s, f_X7_best_b47, f_X6_best_b35]
    by_cases h : (14 : Int32) ≤ nI j
    · rw [if_pos h, if_pos h]
      rcases hw with ⟨rfl, rfl, rfl, rfl⟩ | ⟨a0, rfl, rfl, a1⟩
      · by_cases c : x2 = 0 <;> simp [c]
      · have c4 : ¬ w = -9 := by grind
        by_cases c : x2 = 0 <;> simp [c, c4]
    · rw [if_neg h, if_neg h]
      have hj14 : j < 14 := nI_ltN (N := 14) rfl (Int32.le_refl _) (by decide) hj h
      have g0 : 0 ≤ nI j := nI_pos' (by omega)
      have g1 : nI j ≤ 13 := by grind
      have hb := broken_eq hC hP h5 g0 g1
      have hm := bc_broken hC hP h5 g0 g1
      have hmb := many_bd (f_X7_brokenBy ct con pg (nI j))
      have ih1 := fun w f w2 f2 q => ih (j + 1) w f w2 f2 (by omega) (by omega) q
      rw [hb] at hm
      simp only [f_X7_best_j89, f_X6_best_j84, f_X6_best_j77, nI_1, hm, hb]
      revert hmb
      generalize f_X7_many (f_X7_brokenBy ct con pg (nI j)) = m
      generalize f_X7_brokenBy ct con pg (nI j) &&& x1 = B
      intro hmb
      rcases hw with ⟨rfl, rfl, rfl, rfl⟩ | ⟨a0, rfl, rfl, a1⟩
      · by_cases cB : B = 0
        · have c3 : ¬ (9999 : Int32) ≤ m := by grind
          simp only [cB, c3, eq_self, not_true_eq_false, not_false_eq_true, if_true, if_false]
          exact ih1 _ _ _ _ (Or.inr ⟨g0, rfl, rfl, hmb.2⟩)
        · simp only [cB, eq_self, not_true_eq_false, not_false_eq_true, if_true, if_false]
          exact ih1 _ _ _ _ (Or.inl ⟨rfl, rfl, rfl, rfl⟩)
      · have c4 : ¬ w = -9 := by grind
        by_cases cB : B = 0
        · by_cases c5 : f ≤ m
          · simp only [cB, c4, c5, eq_self, not_true_eq_false, not_false_eq_true, if_true, if_false]
            exact ih1 _ _ _ _ (Or.inr ⟨a0, rfl, rfl, a1⟩)
          · simp only [cB, c4, c5, eq_self, not_true_eq_false, not_false_eq_true, if_true, if_false]
            exact ih1 _ _ _ _ (Or.inr ⟨g0, rfl, rfl, hmb.2⟩)
        · simp only [cB, eq_self, not_true_eq_false, not_false_eq_true, if_true, if_false]
          exact ih1 _ _ _ _ (Or.inr ⟨a0, rfl, rfl, a1⟩)
theorem agree_loop {ct bi ti de : Int32} {sz ce con bir tid deb : Nat → Int32} (hC : CaseOK ct bi ti de sz ce con bir tid deb) (h3 : ti ≤ 3) {x1 x2 : Int32} (hat : f_X6_comingOf x1 x2 = f_X7_at x1 x2) : ∀ (n j : Nat) (a : Int32), j ≤ 3 → it2 (f_X7_agree_b39 ti tid x1 x2) default n a (nI j) = (it2 (f_X6_agree_b29 sz ce x1 x2) default n a (nI j), 0) := by
  intro n
  induction n with
  | zero => intro j a _; rfl
  | succ n ih =>
    intro j a hj
    rw [it2_s, it2_s, f_X7_agree_b39, f_X6_agree_b29, size_2, hC.1.2.2.1]
    by_cases h : ti ≤ nI j
    · rw [if_pos h, if_pos h]
    · rw [if_neg h, if_neg h]
      have hj3 : j < 3 := nI_ltN (N := 3) rfl h3 (by decide) hj h
      obtain ⟨e1, e2, r⟩ := hC.2.2.2.1 j hj3 (by grind)
      have ih1 := fun a => ih (j + 1) a (by omega)
      have a0 : a + 0 = a := by grind
      simp only [f_X7_agree_j89, f_X7_agree_j90, f_X6_agree_j55, f_X6_comesOn, nI_1, (two_k j hj3).1, (two_k j hj3).2, e1, e2, tideEach_k _ hj3, tideFirst_k _ hj3, hat, ih1, a0]
      have n0 : ¬ ce (60 + 5 * j) ≤ 0 := by
        have := r.1
        grind
      by_cases c1 : f_X7_at x1 x2 - ce (61 + 5 * j) < 0
      · simp only [c1, n0, z10f, eq_self, not_true_eq_false, not_false_eq_true, if_true, if_false]
      · by_cases c2 : f_X7_at x1 x2 - ce (61 + 5 * j) - (f_X7_at x1 x2 - ce (61 + 5 * j)) / ce (60 + 5 * j) * ce (60 + 5 * j) = 0 <;> simp only [c1, c2, n0, z10f, eq_self, not_true_eq_false, not_false_eq_true, if_true, if_false]
theorem drop_loop {ct : Int32} {sz ce con bir tid deb pg : Nat → Int32} {bi ti de pl vo co : Int32} (hC : CaseOK ct bi ti de sz ce con bir tid deb) (hP : PageOK ct ce pg pl vo co) (h5 : ct ≤ 5) : ∀ (n j : Nat) (a : Int32), j ≤ 13 → 0 ≤ a → a < 32 → it2 (f_X7_drop_b13 ct con pg) default n a (nI j) = (it2 (f_X6_drop_b8 sz ce vo co) default n a (nI j), 0) := by
  intro n
  induction n with
  | zero => intro j a _ _ _; rfl
  | succ n ih =>
    intro j a hj ha0 ha1
    rw [it2_s, it2_s, f_X7_drop_b13, f_X6_drop_b8]
    by_cases h : (13 : Int32) ≤ nI j
    · rw [if_pos h, if_pos h]
    · rw [if_neg h, if_neg h]
      have hj13 : j < 13 := nI_ltN (N := 13) rfl (Int32.le_refl _) (by decide) hj h
      have g0 : 0 ≤ nI j := nI_pos' (by omega)
      have g1 : nI j ≤ 13 := by grind
      have hb := broken_eq hC hP h5 g0 g1
      have hm := bc_broken hC hP h5 g0 g1
      have ha := bitCount_many ha0 (show a < 64 by grind)
      have bd := brokenBy_bd (ct := ct) (con := con) (pg := pg) (g := nI j) h5
      have ih1 := ih (j + 1) a (by omega) ha0 ha1
      have ih2 := ih (j + 1) (f_X7_brokenBy ct con pg (nI j)) (by omega) bd.1 bd.2
      rw [hb] at hm
      simp only [f_X7_drop_j52, f_X7_drop_j54, f_X6_drop_j30, f_X6_isSmallerSet, nI_1, hb, hm, ha, ih1, ih2]
      grind
/-- nothing is left of a number behind k bits: it is below 2 to the k -/
theorem shr_z (k : Nat) (hk : k < 14) (x : Int32) (h : 0 ≤ x) : (x >>> (nI k &&& 31) = 0) ↔ x ≤ (1 <<< (nI k &&& 31)) - 1 := by
  have hx : ¬ x < 0 := by grind
  obtain ⟨n, hn, rfl⟩ := nI_of hx
  have hs : ((nI k &&& 31).toBitVec.smod 32).toNat = k := (by decide : ∀ k, k < 14 → ((nI k &&& 31).toBitVec.smod 32).toNat = k) k hk
  have e1 : (1 : Int32) <<< (nI k &&& 31) - 1 = nI (2 ^ k - 1) := (by decide : ∀ k, k < 14 → (1 : Int32) <<< (nI k &&& 31) - 1 = nI (2 ^ k - 1)) k hk
  have hp : 2 ^ k ≤ 8192 := (by decide : ∀ k, k < 14 → 2 ^ k ≤ 8192) k hk
  have hp0 : 0 < 2 ^ k := Nat.two_pow_pos k
  rw [pk_shrN hn _ k hs, e1, show (0 : Int32) = nI 0 from rfl]
  have hd : n / 2 ^ k < 2 ^ 31 := Nat.lt_of_le_of_lt (Nat.div_le_self _ _) hn
  rw [nI_eq hd (by decide), nI_leI hn (by omega)]
  rw [Nat.div_eq_zero_iff]
  omega
/-- bits of as many as there are: tested in two ways -/
theorem bits_eq {ct : Int32} (h0 : 0 ≤ ct) (h5 : ct ≤ 5) (x : Int32) : f_X6_areBits x ct = f_X7_in x.toInt64 0 ((1 <<< (ct &&& 31)) - 1).toInt64 := by
  rw [in_0e]
  unfold f_X6_areBits
  obtain ⟨k, hk, rfl⟩ := nI_ex (n := 6) (k := 6) (by decide) h0 (by grind)
  have key := shr_z k (by omega)
  by_cases hx : x < 0
  · rw [if_pos hx, if_neg (by grind)]
  · rw [if_neg hx]
    have := key x (by grind)
    grind
