theorem l64_lt {x y : Int32} : x.toInt64 < y.toInt64 ↔ x < y := by rw [Int64.lt_iff_toInt_lt, Int32.toInt_toInt64, Int32.toInt_toInt64, ← toI_lt]
theorem in_i (x a b : Int32) : f_X7_in x.toInt64 a.toInt64 b.toInt64 = if a ≤ x ∧ x ≤ b then 1 else 0 := by
  unfold f_X7_in
  simp only [lg_cmp_lt, lg_cmp_gt, l64_lt]
  grind
theorem in_0e (x b : Int32) : f_X7_in x.toInt64 0 b.toInt64 = if 0 ≤ x ∧ x ≤ b then 1 else 0 := in_i x 0 b
theorem in_0_255 (x : Int32) : f_X7_in x.toInt64 0 255 = if 0 ≤ x ∧ x ≤ 255 then 1 else 0 := in_i x 0 255
theorem in_0_13 (x : Int32) : f_X7_in x.toInt64 0 13 = if 0 ≤ x ∧ x ≤ 13 then 1 else 0 := in_i x 0 13
theorem in_0_11 (x : Int32) : f_X7_in x.toInt64 0 11 = if 0 ≤ x ∧ x ≤ 11 then 1 else 0 := in_i x 0 11
theorem in_0_3 (x : Int32) : f_X7_in x.toInt64 0 3 = if 0 ≤ x ∧ x ≤ 3 then 1 else 0 := in_i x 0 3
theorem in_0_8191 (x : Int32) : f_X7_in x.toInt64 0 8191 = if 0 ≤ x ∧ x ≤ 8191 then 1 else 0 := in_i x 0 8191
theorem in_2_6 (x : Int32) : f_X7_in x.toInt64 2 6 = if 2 ≤ x ∧ x ≤ 6 then 1 else 0 := in_i x 2 6
theorem in_0_12 (x : Int32) : f_X7_in x.toInt64 0 12 = if 0 ≤ x ∧ x ≤ 12 then 1 else 0 := in_i x 0 12
theorem in_0_1 (x : Int32) : f_X7_in x.toInt64 0 1 = if 0 ≤ x ∧ x ≤ 1 then 1 else 0 := in_i x 0 1
theorem in_1_10 (x : Int32) : f_X7_in x.toInt64 1 10 = if 1 ≤ x ∧ x ≤ 10 then 1 else 0 := in_i x 1 10
theorem in_1_6 (x : Int32) : f_X7_in x.toInt64 1 6 = if 1 ≤ x ∧ x ≤ 6 then 1 else 0 := in_i x 1 6
theorem in_0_10 (x : Int32) : f_X7_in x.toInt64 0 10 = if 0 ≤ x ∧ x ≤ 10 then 1 else 0 := in_i x 0 10
theorem in_1_40 (x : Int32) : f_X7_in x.toInt64 1 40 = if 1 ≤ x ∧ x ≤ 40 then 1 else 0 := in_i x 1 40
theorem nc_eq (c x : Int32) (h0 : 0 ≤ c) (h1 : c ≤ 5) : f_X7_noContract c x = if 0 ≤ x ∧ x < c then 0 else 1 := by
  unfold f_X7_noContract
  rw [in_0e]
  grind
theorem np_eq (x : Int32) : f_X7_noPlace x = if 0 ≤ x ∧ x ≤ 13 then 0 else 1 := by
  unfold f_X7_noPlace
  rw [in_0_13]
  grind
theorem in_nz {x a b : Int32} {a' b' : Int64} (ha : a.toInt64 = a') (hb : b.toInt64 = b') (h : ¬ f_X7_in x.toInt64 a' b' = 0) : a ≤ x ∧ x ≤ b := by
  subst ha; subst hb
  rw [in_i] at h
  grind
theorem nc_z {c x : Int32} (h0 : 0 ≤ c) (h1 : c ≤ 5) (h : f_X7_noContract c x = 0) : 0 ≤ x ∧ x < c := by
  rw [nc_eq c x h0 h1] at h
  grind
theorem np_z {x : Int32} (h : f_X7_noPlace x = 0) : 0 ≤ x ∧ x ≤ 13 := by
  rw [np_eq] at h
  grind
theorem i32_ex (x : Int32) : ∃ n, n < 2 ^ 32 ∧ x = nI n := ⟨x.toBitVec.toNat, x.toBitVec.isLt, Int32.toBitVec_inj.mp (by show _ = BitVec.ofNat 32 _; simp)⟩
theorem nI_and (a b : Nat) : nI a &&& nI b = nI (a &&& b) := by
  apply Int32.toBitVec_inj.1
  show BitVec.ofNat 32 a &&& BitVec.ofNat 32 b = BitVec.ofNat 32 (a &&& b)
  apply BitVec.eq_of_getLsbD_eq
  intro i hi
  simp [hi]
theorem and_bd {a b : Int32} (h : 0 ≤ a) : 0 ≤ a &&& b ∧ a &&& b ≤ a := by
  have ha : ¬ a < 0 := by grind
  obtain ⟨n, hn, rfl⟩ := nI_of ha
  obtain ⟨k, hk, rfl⟩ := i32_ex b
  rw [nI_and]
  have hl : n &&& k ≤ n := Nat.and_le_left
  exact ⟨nI_pos' (by omega), nI_le hl hn⟩
theorem bit01 (x : Int32) : x &&& 1 = 0 ∨ x &&& 1 = 1 := by
  obtain ⟨k, hk, rfl⟩ := i32_ex x
  rw [show (1 : Int32) = nI 1 from rfl, nI_and, Nat.and_one_is_mod]
  rcases Nat.mod_two_eq_zero_or_one k with h | h <;> rw [h]
  · exact Or.inl rfl
  · exact Or.inr rfl
def cntB (set : Int32) : Nat → Int32
  | 0 => 0
  | n + 1 => cntB set n + ((set >>> (nI n &&& 31)) &&& 1)
theorem cntB_bd (set : Int32) : ∀ n, n ≤ 14 → 0 ≤ cntB set n ∧ cntB set n ≤ nI n ∧ ∀ m, m ≤ n → cntB set m ≤ cntB set n := by
  intro n
  induction n with
  | zero =>
    intro _
    refine ⟨Int32.le_refl _, Int32.le_refl _, fun m hm => ?_⟩
    have : m = 0 := by omega
    subst this
    exact Int32.le_refl _
  | succ n ih =>
    intro hn
    obtain ⟨h1, h2, h3⟩ := ih (by omega)
    have hb := bit01 (set >>> (nI n &&& 31))
    have h14 : nI n ≤ 13 := nI_le (b := 13) (by omega) (by decide)
    rw [cntB, ← nI_1]
    refine ⟨by grind, by grind, fun m hm => ?_⟩
    rcases Nat.lt_or_ge m (n + 1) with q | q
    · have := h3 m (by omega)
      grind
    · have : m = n + 1 := by omega
      subst this
      rw [cntB]
      exact Int32.le_refl _
theorem many_loop (set : Int32) : ∀ n j, j + n = 14 → it2 (f_X7_many_b4 set) default (n + 1) (cntB set j) (nI j) = cntB set 14 := by
  intro n
  induction n with
  | zero =>
    intro j hj
    have : j = 14 := by omega
    subst this
    rw [it2_s, f_X7_many_b4, if_pos (by decide)]
  | succ n ih =>
    intro j hj
    have hg : ¬ (14 : Int32) ≤ nI j := nI_ge (a := j) (b := 14) (by omega) (by decide)
    rw [it2_s, f_X7_many_b4, if_neg hg, nI_1]
    exact ih (j + 1) (by omega)
theorem many_cnt (set : Int32) : f_X7_many set = cntB set 14 := by
  unfold f_X7_many
  exact many_loop set 14 0 rfl
theorem many_bd (set : Int32) : 0 ≤ f_X7_many set ∧ f_X7_many set ≤ 14 := by
  rw [many_cnt]
  have := cntB_bd set 14 (by decide)
  exact ⟨this.1, this.2.1⟩
theorem nI_back {x : Int32} (h : 0 ≤ x) : x = nI x.toNatClampNeg ∧ x.toNatClampNeg < 2 ^ 31 := by
  have hx : ¬ x < 0 := by grind
  obtain ⟨n, hn, rfl⟩ := nI_of hx
  rw [nI_clamp hn]
  exact ⟨rfl, hn⟩
theorem clamp_1 {x k : Int32} (h : 0 ≤ x) (hk : x < k) : (x + 1).toNatClampNeg = x.toNatClampNeg + 1 := by
  have hx : ¬ x < 0 := by grind
  obtain ⟨n, hn, rfl⟩ := nI_of hx
  have hk0 : ¬ k < 0 := by grind
  obtain ⟨j, hj, rfl⟩ := nI_of hk0
  have : n < j := (nI_ltI hn hj).mp hk
  rw [nI_1, nI_clamp (by omega), nI_clamp hn]
/-- the next count, where the bit is there -/
theorem cnt_up {set g n : Int32} (h0 : 0 ≤ g) (h1 : g < 14) (hn : n = cntB set g.toNatClampNeg) (hb : ¬ f_X7_has set g = 0) : n + 1 = cntB set (g + 1).toNatClampNeg := by
  obtain ⟨e, hl⟩ := nI_back h0
  rw [clamp_1 h0 h1, cntB, ← e, hn]
  unfold f_X7_has at hb
  grind
theorem cnt_same {set g n : Int32} (h0 : 0 ≤ g) (h1 : g < 14) (hn : n = cntB set g.toNatClampNeg) (hb : f_X7_has set g = 0) : n = cntB set (g + 1).toNatClampNeg := by
  obtain ⟨e, hl⟩ := nI_back h0
  rw [clamp_1 h0 h1, cntB, ← e, hn]
  unfold f_X7_has at hb
  have := bit01 (set >>> (g &&& 31))
  grind
theorem cnt_le {set g n : Int32} (h0 : 0 ≤ g) (h1 : g ≤ 14) (hn : n = cntB set g.toNatClampNeg) (hm : f_X7_many set ≤ 6) : 0 ≤ n ∧ n ≤ 6 := by
  obtain ⟨e, hl⟩ := nI_back h0
  rw [many_cnt] at hm
  have hg : g.toNatClampNeg ≤ 14 := by
    rw [e] at h1
    exact (nI_leI hl (by decide) (b := 14)).mp h1
  have h3 := (cntB_bd set 14 (by decide)).2.2 _ hg
  have h4 := (cntB_bd set _ hg).1
  grind
theorem cnt_lt {set g n : Int32} (h0 : 0 ≤ g) (h1 : g < 14) (hn : n = cntB set g.toNatClampNeg) (hb : ¬ f_X7_has set g = 0) (hm : f_X7_many set ≤ 6) : 0 ≤ n ∧ n < 6 := by
  have h5 := cnt_up h0 h1 hn hb
  have h6 := cnt_le (g := g + 1) (by grind) (by grind) h5 hm
  have h7 := cnt_le (g := g) h0 (by grind) hn hm
  grind
theorem or16 {a y : Int32} (h0 : 0 ≤ a) (h1 : a < 16) (h2 : 0 ≤ y) (h3 : y < 16) : 0 ≤ a ||| y ∧ a ||| y < 16 := by
  obtain ⟨i, hi, rfl⟩ := nI_ex (n := 16) (k := 16) (by decide) h0 h1
  obtain ⟨j, hj, rfl⟩ := nI_ex (n := 16) (k := 16) (by decide) h2 h3
  have key : ∀ i, i < 16 → ∀ j, j < 16 → ((0 : Int32) ≤ nI i ||| nI j ∧ nI i ||| nI j < 16) := by decide +kernel
  exact key i hi j hj
theorem shl4 {s : Int32} (h0 : 0 ≤ s) (h1 : s < 4) : (0 : Int32) ≤ 1 <<< (s &&& 31) ∧ (1 : Int32) <<< (s &&& 31) < 16 := by
  obtain ⟨a, ha, rfl⟩ := nI_ex (n := 4) (k := 4) (by decide) h0 h1
  have key : ∀ a, a < 4 → ((0 : Int32) ≤ (1 : Int32) <<< (nI a &&& 31) ∧ (1 : Int32) <<< (nI a &&& 31) < 16) := by decide +kernel
  exact key a ha
theorem pw_up {b f y : Int32} (h0 : 0 ≤ b) (hy0 : 0 ≤ y) (hy : y < 6) (h1 : b ≤ nI (10 ^ y.toNatClampNeg)) (hf0 : 0 ≤ f) (hf : f ≤ 10) : 0 ≤ b * f ∧ b * f ≤ nI (10 ^ (y + 1).toNatClampNeg) := by
  rw [clamp_1 hy0 hy]
  obtain ⟨i, hi, rfl⟩ := nI_ex (n := 6) (k := 6) (by decide) hy0 hy
  have hb : ¬ b < 0 := by grind
  obtain ⟨n, hn, rfl⟩ := nI_of hb
  obtain ⟨j, hj, rfl⟩ := nI_ex (n := 11) (k := 11) (by decide) hf0 (by grind)
  rw [nI_clamp (by omega)] at h1 ⊢
  have hp : 10 ^ i ≤ 100000 := by
    have key : ∀ i, i < 6 → 10 ^ i ≤ 100000 := by decide
    exact key i hi
  have h2 : n ≤ 10 ^ i := (nI_leI hn (by omega)).mp h1
  have h3 : n * j ≤ 10 ^ i * 10 := Nat.mul_le_mul h2 (by omega)
  rw [pk_mul, Nat.pow_succ]
  exact ⟨nI_pos' (by omega), nI_le h3 (by omega)⟩
theorem pw_next {y : Int32} (hy0 : 0 ≤ y) (hy : y < 6) : nI (10 ^ y.toNatClampNeg) * 10 = nI (10 ^ (y + 1).toNatClampNeg) := by
  rw [clamp_1 hy0 hy, Nat.pow_succ, show (10 : Int32) = nI 10 from rfl, pk_mul]
theorem pw_bd {y : Int32} (hy0 : 0 ≤ y) (hy : y ≤ 6) : 1 ≤ nI (10 ^ y.toNatClampNeg) ∧ nI (10 ^ y.toNatClampNeg) ≤ 1000000 := by
  obtain ⟨i, hi, rfl⟩ := nI_ex (n := 7) (k := 7) (by decide) hy0 (by grind)
  rw [nI_clamp (by omega)]
  have key : ∀ i, i < 7 → ((1 : Int32) ≤ nI (10 ^ i) ∧ nI (10 ^ i) ≤ 1000000) := by decide
  exact key i hi
