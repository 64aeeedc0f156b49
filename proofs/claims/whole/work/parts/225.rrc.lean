def bt (x : Int32) (i : Nat) : Bool := x.toBitVec.getLsbD i
theorem b_ext {x y : Int32} (h : ∀ i, i < 32 → bt x i = bt y i) : x = y := Int32.toBitVec_inj.mp (BitVec.eq_of_getLsbD_eq (fun i hi => h i hi))
theorem b_or (x y : Int32) (i : Nat) : bt (x ||| y) i = (bt x i || bt y i) := by unfold bt; rw [Int32.toBitVec_or, BitVec.getLsbD_or]
theorem b_and (x y : Int32) (i : Nat) : bt (x &&& y) i = (bt x i && bt y i) := by unfold bt; rw [Int32.toBitVec_and, BitVec.getLsbD_and]
theorem b_xor (x y : Int32) (i : Nat) : bt (x ^^^ y) i = (bt x i ^^ bt y i) := by unfold bt; rw [Int32.toBitVec_xor, BitVec.getLsbD_xor]
theorem b_0 (i : Nat) : bt 0 i = false := BitVec.getLsbD_zero
theorem s_l : ∀ n, n < 32 → ((nI n &&& 31).toBitVec.smod 32).toNat = n := by decide +kernel
theorem s_u : ∀ n, n < 32 → (((nI n).toUInt32 &&& Int32.toUInt32 31).toBitVec % 32).toNat = n := by decide +kernel
theorem b_shl (n : Nat) (hn : n < 32) (x : Int32) {i : Nat} (hi : i < 32) : bt (x <<< (nI n &&& 31)) i = (decide (n ≤ i) && bt x (i - n)) := by
  unfold bt
  rw [Int32.toBitVec_shiftLeft]
  show (x.toBitVec <<< ((nI n &&& 31).toBitVec.smod 32).toNat).getLsbD i = _
  rw [s_l n hn, BitVec.getLsbD_shiftLeft]
  rcases Nat.lt_or_ge i n with h | h
  · simp [h, Nat.not_le.mpr h]
  · simp [hi, h, Nat.not_lt.mpr h]
theorem b_sshr (n : Nat) (hn : n < 32) (x : Int32) {i : Nat} (hi : i < 32) : bt (x >>> (nI n &&& 31)) i = if n + i < 32 then bt x (n + i) else bt x 31 := by
  unfold bt
  rw [Int32.toBitVec_shiftRight]
  show (x.toBitVec.sshiftRight ((nI n &&& 31).toBitVec.smod 32).toNat).getLsbD i = _
  rw [s_l n hn, BitVec.getLsbD_sshiftRight, BitVec.msb_eq_getLsbD_last]
  simp [hi]
theorem b_shl8 (x : Int32) {i : Nat} (hi : i < 32) : bt (x <<< ((8 : Int32) &&& 31)) i = (decide (8 ≤ i) && bt x (i - 8)) := b_shl 8 (by omega) x hi
theorem b_shl16 (x : Int32) {i : Nat} (hi : i < 32) : bt (x <<< ((16 : Int32) &&& 31)) i = (decide (16 ≤ i) && bt x (i - 16)) := b_shl 16 (by omega) x hi
theorem wb_tb (n : Nat) : (lN n).toBitVec = BitVec.ofNat 64 n := rfl
theorem wb_inj {a b : Int64} (h : a.toBitVec = b.toBitVec) : a = b := Int64.toBitVec_inj.mp h
theorem wb_tn {n : Nat} (h : n < 2 ^ 64) : (lN n).toBitVec.toNat = n := by rw [wb_tb, BitVec.toNat_ofNat, Nat.mod_eq_of_lt h]
theorem wb_of (x : Int64) : ∃ n, n < 2 ^ 64 ∧ x = lN n := ⟨x.toBitVec.toNat, x.toBitVec.isLt, wb_inj (by rw [wb_tb]; simp)⟩
theorem wb_cu : ∀ k, k < 64 → ((nI k).toInt64.toUInt64 &&& Int64.toUInt64 63) = UInt64.ofNat k := by decide +kernel
theorem wb_shr {n k : Nat} (hn : n < 2 ^ 64) (hk : k < 64) : ((lN n).toUInt64 >>> ((nI k).toInt64.toUInt64 &&& Int64.toUInt64 63)).toInt64 = lN (n / 2 ^ k) := by
  rw [wb_cu k hk]
  apply wb_inj
  apply BitVec.eq_of_toNat_eq
  show ((lN n).toUInt64 >>> UInt64.ofNat k).toNat = (BitVec.ofNat 64 _).toNat
  have h1 : (UInt64.ofNat k).toNat = k := by
    show (BitVec.ofNat 64 k).toNat = k
    rw [BitVec.toNat_ofNat, Nat.mod_eq_of_lt (by omega)]
  have h2 : (lN n).toUInt64.toNat = n := wb_tn hn
  rw [UInt64.toNat_shiftRight, h1, h2, Nat.mod_eq_of_lt hk, Nat.shiftRight_eq_div_pow, BitVec.toNat_ofNat, Nat.mod_eq_of_lt (Nat.lt_of_le_of_lt (Nat.div_le_self _ _) hn)]
/-- the place that a seed draws -/
theorem yr_bd (s : Int64) : 0 ≤ ((((s.toUInt64 >>> ((33 : Int32).toInt64.toUInt64 &&& Int64.toUInt64 63)).toInt64) - ((s.toUInt64 >>> ((33 : Int32).toInt64.toUInt64 &&& Int64.toUInt64 63)).toInt64) / 14 * 14).toInt32) ∧ ((((s.toUInt64 >>> ((33 : Int32).toInt64.toUInt64 &&& Int64.toUInt64 63)).toInt64) - ((s.toUInt64 >>> ((33 : Int32).toInt64.toUInt64 &&& Int64.toUInt64 63)).toInt64) / 14 * 14).toInt32) ≤ 13 := by
  obtain ⟨n, hn, rfl⟩ := wb_of s
  rw [show (33 : Int32) = nI 33 from rfl, wb_shr hn (by decide), show (14 : Int64) = lN 14 from rfl]
  have h1 : n / 2 ^ 33 < 2 ^ 31 := by
    rw [Nat.div_lt_iff_lt_mul (by decide)]
    exact hn
  rw [pk_lRem (by omega) (by decide) (by decide), lN_i]
  have h2 : n / 2 ^ 33 % 14 < 14 := Nat.mod_lt _ (by decide)
  exact ⟨nI_pos' (by omega), nI_le (b := 13) (by omega) (by decide)⟩
theorem years_loop {ct : Int32} {sz ce con bir tid deb pg : Nat → Int32} {bi ti de pl vo co : Int32} (hC : CaseOK ct bi ti de sz ce con bir tid deb) (hP : PageOK ct ce pg pl vo co) (h5 : ct ≤ 5) (x1 : Int32) : ∀ (n : Nat) (a j : Int32) (sd : Int64), it3 (f_X7_years_b24 ct con pg x1) default n a j sd = ((it3 (f_X6_years_b18 sz ce vo co x1) default n a j sd).1, 0, (it3 (f_X6_years_b18 sz ce vo co x1) default n a j sd).2) := by
  intro n
  induction n with
  | zero => intro a j sd; rfl
  | succ n ih =>
    intro a j sd
    rw [it3_s, it3_s, f_X7_years_b24, f_X6_years_b18]
    by_cases h : x1 ≤ j
    · rw [if_pos h, if_pos h]
    · rw [if_neg h, if_neg h]
      have hy := yr_bd ((sd * 6364136223846793005) + 1442695040888963407)
      rw [bc_broken hC hP h5 hy.1 hy.2]
      exact ih _ _ _
/-! net -/
theorem net_step {w : Nat → Int32} {i j v : Int32} {p : Nat} (hi : 0 ≤ i ∧ i ≤ 3) (hj : 0 ≤ j ∧ j ≤ 3) (hp : p < 4) : (upd (upd w i.toNatClampNeg (w i.toNatClampNeg - v)) j.toNatClampNeg ((upd w i.toNatClampNeg (w i.toNatClampNeg - v)) j.toNatClampNeg + v)) p = (if ¬ j = nI p then (if ¬ i = nI p then w p else w p - v) else (if ¬ i = nI p then w p else w p - v) + v) := by
  obtain ⟨a, ha, rfl⟩ := nI_ex (n := 4) (k := 4) (by decide) hi.1 (by grind)
  obtain ⟨b, hb, rfl⟩ := nI_ex (n := 4) (k := 4) (by decide) hj.1 (by grind)
  rw [nI_clamp (by omega), nI_clamp (by omega)]
  have e1 : nI a = nI p ↔ a = p := nI_eq (by omega) (by omega)
  have e2 : nI b = nI p ↔ b = p := nI_eq (by omega) (by omega)
  simp only [e1, e2]
  unfold upd
  by_cases h1 : a = p <;> by_cases h2 : b = p <;> by_cases h3 : b = a <;> grind
theorem lay_eq {ct bi ti de : Int32} {sz ce con bir tid deb ow : Nat → Int32} (hC : CaseOK ct bi ti de sz ce con bir tid deb) (h0 : 0 ≤ de) (h6 : de ≤ 6) {p : Nat} (hp : p < 4) : (f_X7_layNets de deb ow) p = f_X6_netOf sz ce (nI p) := by
  have e4 : ∀ w : Nat → Int32, f_X7_layNets de deb w = it2 (f_X7_layNets_b22 de deb) default ((de.toInt - (0 : Int32).toInt).toNat + 1) 0 (upd (upd (upd (upd w 0 0) 1 0) 2 0) 3 0) := by
    intro w
    unfold f_X7_layNets
    rw [show ((4 : Int32).toInt - (0 : Int32).toInt).toNat + 1 = 5 from by decide]
    rw [it2_s, f_X7_layNets_b2, if_neg (by decide), it2_s, f_X7_layNets_b2, if_neg (by decide), it2_s, f_X7_layNets_b2, if_neg (by decide), it2_s, f_X7_layNets_b2, if_neg (by decide), it2_s, f_X7_layNets_b2, if_pos (by decide)]
    rfl
  rw [e4]
  unfold f_X6_netOf
  rw [size_3, hC.1.2.2.2]
  have hz : (upd (upd (upd (upd ow 0 0) 1 0) 2 0) 3 0) p = 0 := by
    unfold upd
    have : p = 0 ∨ p = 1 ∨ p = 2 ∨ p = 3 := by omega
    rcases this with rfl | rfl | rfl | rfl <;> rfl
  obtain ⟨k, hk, rfl⟩ := nI_ex (n := 7) (k := 7) (by decide) h0 (by grind)
  have hfu : ∀ k, k < 7 → ((nI k).toInt - (0 : Int32).toInt).toNat + 1 = k + 1 := by decide
  rw [hfu k hk]
  have key : ∀ (n j : Nat) (w : Nat → Int32), j + n = k → (it2 (f_X7_layNets_b22 (nI k) deb) default (n + 1) (nI j) w) p = it2 (f_X6_netOf_b4 sz ce (nI p)) default (n + 1) (w p) (nI j) := by
    intro n
    induction n with
    | zero =>
      intro j w hj
      have : j = k := by omega
      subst this
      rw [it2_s, it2_s, f_X7_layNets_b22, f_X6_netOf_b4, size_3, hC.1.2.2.2, if_pos (Int32.le_refl _), if_pos (Int32.le_refl _)]
    | succ n ih =>
      intro j w hj
      have hlt : ¬ nI k ≤ nI j := nI_ge (by omega) (by omega)
      have hj6 : j < 6 := by omega
      obtain ⟨e1, e2, e3, r0, r1, r2, r3, r4, r5⟩ := hC.2.2.2.2 j hj6 (by grind)
      have ih1 := fun w => ih (j + 1) w (by omega)
      rw [it2_s, it2_s, f_X7_layNets_b22, f_X6_netOf_b4, size_3, hC.1.2.2.2, if_neg hlt, if_neg hlt]
      rw [nI_1, ih1, (three_k j hj6).1, (three_k j hj6).2.1, (three_k j hj6).2.2, e1, e2, e3, net_step ⟨r0, r1⟩ ⟨r2, r3⟩ hp]
      simp only [f_X6_netOf_j39, f_X6_netOf_j62, nI_1, debtor_k _ hj6, creditor_k _ hj6, debtOf_k _ hj6]
      grind
  rw [show (0 : Int32) = nI 0 from rfl] at hz ⊢
  rw [key k 0 _ (by omega)]
  rw [show (upd (upd (upd (upd ow 0 (nI 0)) 1 (nI 0)) 2 (nI 0)) 3 (nI 0)) p = nI 0 from hz]
