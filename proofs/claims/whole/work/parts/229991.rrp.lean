theorem case_0 {sz ce rc rb rt rd : Nat → Int32} (z0 : sz 0 = 0) (z1 : sz 1 = 0) (z2 : sz 2 = 0) (z3 : sz 3 = 0) : CaseOK (nI 0) (nI 0) (nI 0) (nI 0) sz ce rc rb rt rd := by
  have no : ∀ k : Nat, k < 6 → ¬ nI k < nI 0 := fun k hk => nI_nlt (Nat.zero_le k) (by omega)
  exact ⟨⟨z0, z1, z2, z3⟩, fun k h1 h2 => absurd h2 (no k (by omega)), fun k h1 h2 => absurd h2 (no k (by omega)), fun k h1 h2 => absurd h2 (no k (by omega)), fun k h1 h2 => absurd h2 (no k (by omega))⟩
theorem fu_l : ∀ l, l < 65 → 1 ≤ l → ((nI l).toInt - (1 : Int32).toInt).toNat + 1 = l := by decide
theorem read_all {t : Nat → Int32} {l : Nat} (hl : l ≤ 64) (dsz dce rc rb rt rd : Nat → Int32) : ∃ (r : Int32) (sz' ce' : Nat → Int32) (pl ct bi ti de : Int32) (con bir tid deb : Nat → Int32), f_X5_readFrom dsz dce (nI l) t = (r, sz', ce') ∧ f_X7_readCase (nI l) t rc rb rt rd = (r, pl, ct, bi, ti, de, con, bir, tid, deb) ∧ (r = -9 → CaseOK ct bi ti de sz' ce' con bir tid deb) := by
  have f5 : ((4 : Int32).toInt - (0 : Int32).toInt).toNat + 1 = 5 := by decide
  have hcls : f_X5_readFrom dsz dce (nI l) t = if f_X4_at (nI l) t 0 = 77 then it3 (f_X5_readFrom_b34 (nI l) t) default (((f_X4_length (nI l)).toInt - (1 : Int32).toInt).toNat + 1) 1 (upd (upd (upd (upd dsz 0 0) 1 0) 2 0) 3 0) dce else (0, upd (upd (upd (upd dsz 0 0) 1 0) 2 0) 3 0, dce) := by
    unfold f_X5_readFrom
    rw [f5, it2_s, f_X5_readFrom_b2, if_neg (by decide), it2_s, f_X5_readFrom_b2, if_neg (by decide), it2_s, f_X5_readFrom_b2, if_neg (by decide), it2_s, f_X5_readFrom_b2, if_neg (by decide), it2_s, f_X5_readFrom_b2, if_pos (by decide)]
    rfl
  have h0 : f_X4_at (nI l) t (nI 0) = if 0 < l then t 0 else (-9) := at_in t hl (Nat.zero_le l)
  have h0' : f_X4_at (nI l) t 0 = if 0 < l then t 0 else (-9) := h0
  rw [hcls, h0']
  unfold f_X7_readCase
  rw [tn0]
  by_cases hl0 : l = 0
  · subst hl0
    refine ⟨0, upd (upd (upd (upd dsz 0 0) 1 0) 2 0) 3 0, dce, 0, 0, 0, 0, 0, rc, rb, rt, rd, ?_, ?_, fun q => absurd q (by decide)⟩
    · rw [if_neg (show ¬ 0 < 0 by omega), if_neg (by decide)]
    · rw [if_pos (show nI 0 = 0 from rfl)]
  · have hl1 : 0 < l := by omega
    have nl : ¬ nI l = 0 := fun q => hl0 ((nI_eq (a := l) (b := 0) (by omega) (by omega)).mp q)
    rw [if_pos hl1, if_neg nl]
    by_cases h77 : t 0 = 77
    · rw [if_pos h77, if_pos h77]
      obtain ⟨r, sz', ce', pl, ct, bi, ti, de, con, bir, tid, deb, g1, g2, g3⟩ := rp_loop hl (t := t) l 1 0 0 0 0 (upd (upd (upd (upd dsz 0 0) 1 0) 2 0) 3 0) dce rc rb rt rd (by omega) (by omega) (by omega) (by omega) (by omega) (by omega) (case_0 rfl rfl rfl rfl)
      refine ⟨r, sz', ce', pl, ct, bi, ti, de, con, bir, tid, deb, ?_, ?_, g3⟩
      · have e : ((f_X4_length (nI l)).toInt - (1 : Int32).toInt).toNat + 1 = l := fu_l l (by omega) hl1
        show it3 (f_X5_readFrom_b34 (nI l) t) default (((f_X4_length (nI l)).toInt - (1 : Int32).toInt).toNat + 1) 1 _ _ = _
        rw [e]
        exact g1
      · rw [fu_l l (by omega) hl1]
        exact g2
    · rw [if_neg h77, if_neg h77]
      exact ⟨0, upd (upd (upd (upd dsz 0 0) 1 0) 2 0) 3 0, dce, 0, 0, 0, 0, 0, rc, rb, rt, rd, rfl, rfl, fun q => absurd q (by decide)⟩
theorem cnt_step : ∀ j, j < 5 → ∀ x, x < 32 → ∀ v, v < 2 → x < 2 ^ j → ((nI x ||| (nI v <<< (nI j &&& 31))) = nI (x + v * 2 ^ j) ∧ x + v * 2 ^ j < 2 ^ (j + 1) ∧ (x + v * 2 ^ j) / 2 ^ j % 2 = v) := by decide +kernel
theorem cnt_old : ∀ j, j < 5 → ∀ x, x < 32 → ∀ v, v < 2 → ∀ k, k < j → (x + v * 2 ^ j) / 2 ^ k % 2 = x / 2 ^ k % 2 := by decide +kernel
theorem cnt_bit : ∀ x, x < 32 → ∀ k, k < 5 → (nI x >>> (nI k &&& 31)) &&& 1 = nI (x / 2 ^ k % 2) := by decide +kernel
theorem value1_k (ce : Nat → Int32) {k : Nat} (h : k < 5) : f_X5_valueAt ce 0 (nI k) 1 = ce (5 * k + 1) := va_g ce _ (cc_0 k h 1 (by omega)) (by omega)
theorem cnt_loop {sz ce : Nat → Int32} {s : Nat} (hs : s ≤ 5) (hz : sz 0 = nI s) (h01 : ∀ k, k < s → ce (5 * k + 1) = 0 ∨ ce (5 * k + 1) = 1) : ∀ (n j x : Nat), j + n = s → x < 2 ^ j → (∀ k, k < j → nI (x / 2 ^ k % 2) = ce (5 * k + 1)) → ∃ y, y < 2 ^ s ∧ it2 (f_X5_countedContracts_b4 sz ce) default (n + 1) (nI x) (nI j) = nI y ∧ ∀ k, k < s → nI (y / 2 ^ k % 2) = ce (5 * k + 1) := by
  intro n
  induction n with
  | zero =>
    intro j x hj hx hk
    have : j = s := by omega
    subst this
    refine ⟨x, hx, ?_, hk⟩
    rw [it2_s, f_X5_countedContracts_b4, size_0, hz, if_pos (Int32.le_refl _)]
  | succ n ih =>
    intro j x hj hx hk
    have hj5 : j < 5 := by omega
    have x32 : x < 32 := Nat.lt_of_lt_of_le hx (show 2 ^ j ≤ 2 ^ 5 from Nat.pow_le_pow_right (by omega) (by omega))
    have hlt : ¬ nI s ≤ nI j := nI_ge (by omega) (by omega)
    rw [it2_s, f_X5_countedContracts_b4, size_0, hz, if_neg hlt, value1_k ce hj5, nI_1]
    have hv : ∃ v, v < 2 ∧ ce (5 * j + 1) = nI v := by
      rcases h01 j (by omega) with h | h
      · exact ⟨0, by omega, h⟩
      · exact ⟨1, by omega, h⟩
    obtain ⟨v, hv2, hve⟩ := hv
    obtain ⟨g1, g2, g3⟩ := cnt_step j hj5 x x32 v hv2 hx
    rw [hve, g1]
    refine ih (j + 1) _ (by omega) g2 (fun k hk1 => ?_)
    rcases Nat.lt_or_ge k j with q | q
    · rw [cnt_old j hj5 x x32 v hv2 k q]
      exact hk k q
    · have : k = j := by omega
      subst this
      rw [g3, hve]
theorem counted_eq {sz ce : Nat → Int32} {s : Nat} (hs : s ≤ 5) (hz : sz 0 = nI s) (h01 : ∀ k, k < s → ce (5 * k + 1) = 0 ∨ ce (5 * k + 1) = 1) : 0 ≤ f_X5_countedContracts sz ce ∧ f_X5_countedContracts sz ce < 32 ∧ ∀ k, k < s → (f_X5_countedContracts sz ce >>> (nI k &&& 31)) &&& 1 = ce (5 * k + 1) := by
  obtain ⟨y, y1, y2, y3⟩ := cnt_loop hs hz h01 s 0 0 (by omega) (by decide) (fun k hk => absurd hk (Nat.not_lt_zero k))
  have hfu : ∀ m, m ≤ 5 → ((nI m).toInt - (0 : Int32).toInt).toNat + 1 = m + 1 := by decide
  have e : f_X5_countedContracts sz ce = nI y := by
    unfold f_X5_countedContracts
    rw [size_0, hz, hfu s hs]
    exact y2
  have y32 : y < 32 := Nat.lt_of_lt_of_le y1 (show 2 ^ s ≤ 2 ^ 5 from Nat.pow_le_pow_right (by omega) hs)
  rw [e]
  refine ⟨nI_pos' (by omega), nI_lt (b := 32) y32 (by decide), fun k hk => ?_⟩
  rw [cnt_bit y y32 k (by omega)]
  exact y3 k hk
theorem case_cong {ct bi ti de : Int32} {sz ce con bir tid deb con' bir' tid' deb' : Nat → Int32} (hC : CaseOK ct bi ti de sz ce con bir tid deb) (h1 : ∀ q, q < 25 → con' q = con q) (h2 : ∀ q, q < 6 → bir' q = bir q) (h3 : ∀ q, q < 6 → tid' q = tid q) (h4 : ∀ q, q < 18 → deb' q = deb q) : CaseOK ct bi ti de sz ce con' bir' tid' deb' := by
  obtain ⟨z, cC, cB, cT, cD⟩ := hC
  refine ⟨z, fun k hk hc => ?_, fun k hk hc => ?_, fun k hk hc => ?_, fun k hk hc => ?_⟩
  · rw [h1 (5 * k) (by omega), h1 (5 * k + 1) (by omega), h1 (5 * k + 2) (by omega), h1 (5 * k + 3) (by omega), h1 (5 * k + 4) (by omega)]
    exact cC k hk hc
  · rw [h2 (2 * k) (by omega), h2 (2 * k + 1) (by omega)]
    exact cB k hk hc
  · rw [h3 (2 * k) (by omega), h3 (2 * k + 1) (by omega)]
    exact cT k hk hc
  · rw [h4 (3 * k) (by omega), h4 (3 * k + 1) (by omega), h4 (3 * k + 2) (by omega)]
    exact cD k hk hc
