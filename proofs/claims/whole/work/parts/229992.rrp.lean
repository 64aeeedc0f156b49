/-! open: what was read is copied, and the page is begun -/
theorem nar0 : vp_nar .boolean 0 = 0 := by decide
theorem op_156 {ik : Nat → Int32} {pl ct bi ti de : Int32} {rc rb rt rd wc wb wt wd : Nat → Int32} : ∀ (n j : Nat) (pg : Nat → Int32), j + n = 5 → (∀ k, k < j → nI k < ct → pg (2 + k) = wc (5 * k + 1) ∧ pg (7 + k) = wc (5 * k + 2)) → ∃ pg' : Nat → Int32, it2 (f_X7_open_b156 ik pl ct bi ti de rc rb rt rd wc wb wt wd) default (n + 1) (nI j) pg = ((10 * ct) + bi, 0, pl, ct, bi, ti, de, ct, bi, ti, de, 0, wc, wb, wt, wd, rc, rb, rt, rd, pg', upd (upd ik 0 0) 1 0) ∧ pg' 0 = pg 0 ∧ pg' 1 = pg 1 ∧ (∀ k, k < 5 → nI k < ct → pg' (2 + k) = wc (5 * k + 1) ∧ pg' (7 + k) = wc (5 * k + 2)) := by
  intro n
  induction n with
  | zero =>
    intro j pg hj hk
    have : j = 5 := by omega
    subst this
    refine ⟨pg, ?_, rfl, rfl, hk⟩
    rw [it2_s, f_X7_open_b156, if_pos (by decide), nar0, tn0, tn1]
  | succ n ih =>
    intro j pg hj hk
    have hj5 : j < 5 := by omega
    have hlt : ¬ (5 : Int32) ≤ nI j := nI_ge (a := j) (b := 5) hj5 (by decide)
    obtain ⟨c0, c1, c2, c3, c4⟩ := con_0 j hj5
    obtain ⟨q0, q1, q2, q3, q4⟩ := m5 j hj5
    have main : ∀ y z : Int32, (nI j < ct → y = wc (5 * j + 1) ∧ z = wc (5 * j + 2)) → ∃ pg' : Nat → Int32, it2 (f_X7_open_b156 ik pl ct bi ti de rc rb rt rd wc wb wt wd) default (n + 1) (nI j + 1) (upd (upd pg (2 + j) y) (7 + j) z) = ((10 * ct) + bi, 0, pl, ct, bi, ti, de, ct, bi, ti, de, 0, wc, wb, wt, wd, rc, rb, rt, rd, pg', upd (upd ik 0 0) 1 0) ∧ pg' 0 = pg 0 ∧ pg' 1 = pg 1 ∧ (∀ k, k < 5 → nI k < ct → pg' (2 + k) = wc (5 * k + 1) ∧ pg' (7 + k) = wc (5 * k + 2)) := by
      intro y z hyz
      obtain ⟨pg', g1, g2, g3, g4⟩ := ih (j + 1) (upd (upd pg (2 + j) y) (7 + j) z) (by omega) (fun k hk1 hc => by
        rcases Nat.lt_or_ge k j with q | q
        · rw [upd_ne (show ¬ 2 + k = 7 + j by omega), upd_ne (show ¬ 2 + k = 2 + j by omega), upd_ne (show ¬ 7 + k = 7 + j by omega), upd_ne (show ¬ 7 + k = 2 + j by omega)]
          exact hk k q hc
        · have : k = j := by omega
          subst this
          rw [upd_ne (show ¬ 2 + k = 7 + k by omega), upd_eq, upd_eq]
          exact hyz hc)
      rw [nI_1]
      refine ⟨pg', g1, ?_, ?_, g4⟩
      · rw [g2, upd_ne (by omega), upd_ne (by omega)]
      · rw [g3, upd_ne (by omega), upd_ne (by omega)]
    rw [it2_s, f_X7_open_b156, if_neg hlt]
    by_cases h : ct ≤ nI j
    · simp only [f_X7_open_j190, f_X7_open_j221, h, if_true, c3, c4]
      exact main 0 0 (fun q => by
        exfalso
        grind)
    · simp only [f_X7_open_j190, f_X7_open_j221, h, if_false, c3, c4, q1, q2]
      exact main _ _ (fun _ => ⟨rfl, rfl⟩)
theorem op_115 {pg ik : Nat → Int32} {pl ct bi ti de : Int32} {rc rb rt rd wc wb wt : Nat → Int32} : ∀ (n j : Nat) (wd : Nat → Int32), j + n = 18 → (∀ q, q < j → wd q = rd q) → ∃ wd' : Nat → Int32, it2 (f_X7_open_b115 pg ik pl ct bi ti de rc rb rt rd wc wb wt) default (n + 1) (nI j) wd = it2 (f_X7_open_b156 ik pl ct bi ti de rc rb rt rd wc wb wt wd') default 6 0 (upd (upd pg 0 13) 1 0) ∧ ∀ q, q < 18 → wd' q = rd q := by
  intro n
  induction n with
  | zero =>
    intro j wd hj hq
    have : j = 18 := by omega
    subst this
    refine ⟨wd, ?_, hq⟩
    rw [it2_s, f_X7_open_b115, if_pos (by decide), tn0, tn1, show ((5 : Int32).toInt - (0 : Int32).toInt).toNat + 1 = 6 from by decide]
  | succ n ih =>
    intro j wd hj hq
    have hlt : ¬ (18 : Int32) ≤ nI j := nI_ge (a := j) (b := 18) (by omega) (by decide)
    rw [it2_s, f_X7_open_b115, if_neg hlt, nI_1, nI_clamp (show j < 2 ^ 31 by omega)]
    refine ih (j + 1) _ (by omega) (fun q hq1 => ?_)
    rcases Nat.lt_or_ge q j with h | h
    · rw [upd_ne (by omega)]
      exact hq q h
    · have : q = j := by omega
      subst this
      exact upd_eq
theorem op_77 {deb pg ik : Nat → Int32} {pl ct bi ti de : Int32} {rc rb rt rd wc : Nat → Int32} : ∀ (n j : Nat) (wb wt : Nat → Int32), j + n = 6 → (∀ q, q < j → wb q = rb q ∧ wt q = rt q) → ∃ wb' wt' : Nat → Int32, it3 (f_X7_open_b77 deb pg ik pl ct bi ti de rc rb rt rd wc) default (n + 1) (nI j) wb wt = it2 (f_X7_open_b115 pg ik pl ct bi ti de rc rb rt rd wc wb' wt') default 19 0 deb ∧ ∀ q, q < 6 → wb' q = rb q ∧ wt' q = rt q := by
  intro n
  induction n with
  | zero =>
    intro j wb wt hj hq
    have : j = 6 := by omega
    subst this
    refine ⟨wb, wt, ?_, hq⟩
    rw [it3_s, f_X7_open_b77, if_pos (by decide), show ((18 : Int32).toInt - (0 : Int32).toInt).toNat + 1 = 19 from by decide]
  | succ n ih =>
    intro j wb wt hj hq
    have hlt : ¬ (6 : Int32) ≤ nI j := nI_ge (a := j) (b := 6) (by omega) (by decide)
    rw [it3_s, f_X7_open_b77, if_neg hlt, nI_1, nI_clamp (show j < 2 ^ 31 by omega)]
    refine ih (j + 1) _ _ (by omega) (fun q hq1 => ?_)
    rcases Nat.lt_or_ge q j with h | h
    · rw [upd_ne (by omega), upd_ne (by omega)]
      exact hq q h
    · have : q = j := by omega
      subst this
      exact ⟨upd_eq, upd_eq⟩
theorem op_51 {bir tid deb pg ik : Nat → Int32} {pl ct bi ti de : Int32} {rc rb rt rd : Nat → Int32} : ∀ (n j : Nat) (wc : Nat → Int32), j + n = 25 → (∀ q, q < j → wc q = rc q) → ∃ wc' : Nat → Int32, it2 (f_X7_open_b51 bir tid deb pg ik pl ct bi ti de rc rb rt rd) default (n + 1) (nI j) wc = it3 (f_X7_open_b77 deb pg ik pl ct bi ti de rc rb rt rd wc') default 7 0 bir tid ∧ ∀ q, q < 25 → wc' q = rc q := by
  intro n
  induction n with
  | zero =>
    intro j wc hj hq
    have : j = 25 := by omega
    subst this
    refine ⟨wc, ?_, hq⟩
    rw [it2_s, f_X7_open_b51, if_pos (by decide), show ((6 : Int32).toInt - (0 : Int32).toInt).toNat + 1 = 7 from by decide]
  | succ n ih =>
    intro j wc hj hq
    have hlt : ¬ (25 : Int32) ≤ nI j := nI_ge (a := j) (b := 25) (by omega) (by decide)
    rw [it2_s, f_X7_open_b51, if_neg hlt, nI_1, nI_clamp (show j < 2 ^ 31 by omega)]
    refine ih (j + 1) _ (by omega) (fun q hq1 => ?_)
    rcases Nat.lt_or_ge q j with h | h
    · rw [upd_ne (by omega)]
      exact hq q h
    · have : q = j := by omega
      subst this
      exact upd_eq
theorem open_all {con bir tid deb pg ik : Nat → Int32} {pl ct bi ti de : Int32} {rc rb rt rd : Nat → Int32} : ∃ wc wb wt wd pg' : Nat → Int32, it2 (f_X7_open_b51 bir tid deb pg ik pl ct bi ti de rc rb rt rd) default (((25 : Int32).toInt - (0 : Int32).toInt).toNat + 1) 0 con = ((10 * ct) + bi, 0, pl, ct, bi, ti, de, ct, bi, ti, de, 0, wc, wb, wt, wd, rc, rb, rt, rd, pg', upd (upd ik 0 0) 1 0) ∧ (∀ q, q < 25 → wc q = rc q) ∧ (∀ q, q < 6 → wb q = rb q) ∧ (∀ q, q < 6 → wt q = rt q) ∧ (∀ q, q < 18 → wd q = rd q) ∧ pg' 0 = 13 ∧ pg' 1 = 0 ∧ (∀ k, k < 5 → nI k < ct → pg' (2 + k) = wc (5 * k + 1) ∧ pg' (7 + k) = wc (5 * k + 2)) := by
  obtain ⟨wc, a1, a2⟩ := op_51 (bir := bir) (tid := tid) (deb := deb) (pg := pg) (ik := ik) (pl := pl) (ct := ct) (bi := bi) (ti := ti) (de := de) (rc := rc) (rb := rb) (rt := rt) (rd := rd) 25 0 con (by omega) (fun q hq => absurd hq (Nat.not_lt_zero q))
  obtain ⟨wb, wt, b1, b2⟩ := op_77 (deb := deb) (pg := pg) (ik := ik) (pl := pl) (ct := ct) (bi := bi) (ti := ti) (de := de) (rc := rc) (rb := rb) (rt := rt) (rd := rd) (wc := wc) 6 0 bir tid (by omega) (fun q hq => absurd hq (Nat.not_lt_zero q))
  obtain ⟨wd, c1, c2⟩ := op_115 (pg := pg) (ik := ik) (pl := pl) (ct := ct) (bi := bi) (ti := ti) (de := de) (rc := rc) (rb := rb) (rt := rt) (rd := rd) (wc := wc) (wb := wb) (wt := wt) 18 0 deb (by omega) (fun q hq => absurd hq (Nat.not_lt_zero q))
  obtain ⟨pg', d1, d2, d3, d4⟩ := op_156 (ik := ik) (pl := pl) (ct := ct) (bi := bi) (ti := ti) (de := de) (rc := rc) (rb := rb) (rt := rt) (rd := rd) (wc := wc) (wb := wb) (wt := wt) (wd := wd) 5 0 (upd (upd pg 0 13) 1 0) (by omega) (fun q hq => absurd hq (Nat.not_lt_zero q))
  have z : (nI 0 : Int32) = 0 := rfl
  rw [z] at a1 b1 c1 d1
  refine ⟨wc, wb, wt, wd, pg', ?_, a2, fun q hq => (b2 q hq).1, fun q hq => (b2 q hq).2, c2, ?_, ?_, d4⟩
  · rw [show ((25 : Int32).toInt - (0 : Int32).toInt).toNat + 1 = 25 + 1 from by decide, a1, b1, c1, d1]
  · rw [d2, upd_ne (by omega), upd_eq]
  · rw [d3, upd_eq]
