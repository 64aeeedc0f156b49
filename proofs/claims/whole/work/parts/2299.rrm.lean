/-! strike: the sides, one left out after another -/
theorem list_loop {x1 x2 x3 x4 : Int32} {la st : Nat → Int32} (h6 : cntB x1 14 ≤ 6) : ∀ (n j : Nat) (gc gm : Nat → Int32), j + n = 13 → (∀ p : Nat, p < 7 → nI p < cntB x1 j → gc p = gm p ∧ 0 ≤ gc p ∧ gc p ≤ 12) → ∃ gc' gm' : Nat → Int32, it3 (f_X1_list_b7 x1) default (n + 1) (nI j) (cntB x1 j) gc = (cntB x1 13, gc') ∧ it3 (f_X7_strike_b78 la st x1 x2 x3 x4) default (n + 1) (cntB x1 j) (nI j) gm = it3 (f_X7_strike_b115 x2 x3 x4 (cntB x1 13) gm') default (((1 <<< (cntB x1 13 &&& 31)).toInt - (1 : Int32).toInt).toNat + 1) 1 la st ∧ (∀ p : Nat, p < 7 → nI p < cntB x1 13 → gc' p = gm' p ∧ 0 ≤ gc' p ∧ gc' p ≤ 12) := by
  intro n
  induction n with
  | zero =>
    intro j gc gm hj hg
    have : j = 13 := by omega
    subst this
    refine ⟨gc, gm, ?_, ?_, hg⟩
    · rw [it3_s, f_X1_list_b7, if_pos (by decide)]
    · rw [it3_s, f_X7_strike_b78, if_pos (by decide)]
  | succ n ih =>
    intro j gc gm hj hg
    have hlt : ¬ (13 : Int32) ≤ nI j := nI_ge (a := j) (b := 13) (by omega) (by decide)
    have hb := cntB_bd x1 14 (by decide)
    have hb1 := hb.2.2 (j + 1) (by omega)
    have hbj := cntB_bd x1 j (by omega)
    have hs : cntB x1 (j + 1) = cntB x1 j + ((x1 >>> (nI j &&& 31)) &&& 1) := rfl
    rw [it3_s, it3_s, f_X1_list_b7, f_X7_strike_b78, if_neg hlt, if_neg hlt, f_X7_has]
    simp only [f_X1_list_j50, f_X7_strike_j106, nI_1]
    rcases bit01 (x1 >>> (nI j &&& 31)) with b | b
    · have c0 : cntB x1 (j + 1) = cntB x1 j := by rw [hs, b]; grind
      have h01 : ((0 : Int32) = 1) = False := eq_false (by decide)
      simp only [b, h01, eq_self, not_false_eq_true, if_true]
      have r := ih (j + 1) gc gm (by omega) (by rw [c0]; exact hg)
      rw [c0] at r
      exact r
    · have c1 : cntB x1 (j + 1) = cntB x1 j + 1 := by rw [hs, b]
      have h6j : ¬ (6 : Int32) ≤ cntB x1 j := by grind
      simp only [b, z10f, h6j, eq_self, not_true_eq_false, if_true, if_false]
      obtain ⟨S, hS, eS⟩ := nI_ex (n := 6) (k := 6) (by decide) hbj.1 (by grind)
      have r := ih (j + 1) (upd gc S (nI j)) (upd gm S (nI j)) (by omega) (fun p hp hc => by
        unfold upd
        by_cases hps : p = S
        · rw [if_pos hps, if_pos hps]
          exact ⟨rfl, nI_pos' (by omega), nI_le (b := 12) (by omega) (by decide)⟩
        · rw [if_neg hps, if_neg hps]
          refine hg p hp ?_
          rw [c1, eS, nI_1] at hc
          rw [eS]
          rcases Nat.lt_or_ge p S with q | q
          · exact nI_lt q (by omega)
          · exact absurd hc (nI_nlt (a := p) (b := S + 1) (by omega) (by omega)))
      rw [c1] at r
      rw [eS, nI_clamp (show S < 2 ^ 31 by omega)]
      rw [eS] at r
      exact r
theorem abs_far {a x : Int32} (h1 : -9 ≤ a) (h2 : a ≤ 12) (h3 : 0 ≤ x) (h4 : x ≤ 12) : (if 0 ≤ (a - x) then (a - x) else 0 - (a - x)) = f_X7_far a x := by
  unfold f_X7_far
  by_cases h : x ≤ a
  · rw [if_pos h, if_pos (by grind)]
  · rw [if_neg h, if_neg (by grind)]
    grind
theorem k_bit : ∀ s, s < 64 → ∀ i, i < 6 → ((((nI s >>> (nI i &&& 31)) &&& 1) = 0 ↔ s.testBit i = false) ∧ (f_X7_has (nI s) (nI i) = 0 ↔ s.testBit i = false) ∧ (nI s = 1 <<< (nI i &&& 31) ↔ s = 2 ^ i)) := by decide +kernel
theorem k_rest1 : ∀ s, s < 64 → ∀ i, i < 6 → (s.testBit i = true → (nI s ^^^ (1 <<< (nI i &&& 31))) = nI (s - 2 ^ i)) := by decide +kernel
theorem k_rest2 : ∀ s, s < 64 → ∀ i, i < 6 → (s.testBit i = true → (nI s &&& ((1 <<< (nI i &&& 31)) ^^^ ((-1)))) = nI (s - 2 ^ i)) := by decide +kernel
theorem k_rest3 : ∀ s, s < 64 → ∀ i, i < 6 → (s.testBit i = true → (2 ^ i ≤ s ∧ 1 ≤ 2 ^ i)) := by decide +kernel
theorem k_rest (s : Nat) (hs : s < 64) (i : Nat) (hi : i < 6) (hb : s.testBit i = true) (hp : ¬ s = 2 ^ i) : (nI s ^^^ (1 <<< (nI i &&& 31))) = nI (s - 2 ^ i) ∧ (nI s &&& ((1 <<< (nI i &&& 31)) ^^^ ((-1)))) = nI (s - 2 ^ i) ∧ 1 ≤ s - 2 ^ i ∧ s - 2 ^ i < s ∧ ¬ nI (s - 2 ^ i) = 0 := by
  obtain ⟨h1, h2⟩ := k_rest3 s hs i hi hb
  refine ⟨k_rest1 s hs i hi hb, k_rest2 s hs i hi hb, by omega, by omega, fun q => ?_⟩
  have : s - 2 ^ i = 0 := (nI_eq (b := 0) (by omega) (by omega)).mp q
  omega
theorem k_one : ∀ i, i < 6 → (nI (2 ^ i) ^^^ (1 <<< (nI i &&& 31))) = 0 := by decide +kernel
theorem k_pow : ∀ i, i < 6 → ∀ t, t < i → (2 ^ i).testBit t = false := by decide +kernel
theorem k_any : ∀ S, S < 7 → ∀ s, s < 64 → 1 ≤ s → s < 2 ^ S → ∃ t, t < S ∧ s.testBit t = true := by decide +kernel
theorem settle_loop {S s : Nat} (hS6 : S ≤ 6) (hs1 : 1 ≤ s) (hs64 : s < 64) (hsS : s < 2 ^ S) {gc gm lasts : Nat → Int32} (hg : ∀ p : Nat, p < S → gc p = gm p ∧ 0 ≤ gc p ∧ gc p ≤ 12) {x2 : Int32} (h3 : 0 ≤ x2) (h4 : x2 ≤ 12) (K : Int32 → (Nat → Int32) → (Nat → Int32) → Int32 × Int32 × (Nat → Int32) × (Nat → Int32) × (Nat → Int32)) : ∀ (n i : Nat) (x6 str : Int32) (w wst : Nat → Int32), i + n = S → x6 = w s → (∀ p, 1 ≤ p → p < s → lasts p = w p ∧ 0 ≤ w p ∧ w p ≤ 12) → ((∀ t, t < i → s.testBit t = false) → x6 = -9) → ((∃ t, t < i ∧ s.testBit t = true) → 0 ≤ x6 ∧ x6 ≤ 12 ∧ ((∀ t, t < 6 → ¬ s = 2 ^ t) → str = wst s)) → ∃ (v strf : Int32) (wf wstf : Nat → Int32), it3 (f_X1_settle_b6 (nI S) gc lasts (nI s) x2) default (n + 1) x6 (nI i) str = (strf, upd lasts s v) ∧ it3 (f_X7_strike_b165 (nI S) gm (nI s) x2 K) default (n + 1) (nI i) w wst = K (nI (s + 1)) wf wstf ∧ wf s = v ∧ 0 ≤ v ∧ v ≤ 12 ∧ ((∀ t, t < 6 → ¬ s = 2 ^ t) → strf = wstf s) ∧ (∀ p, 1 ≤ p → p < s → lasts p = wf p ∧ 0 ≤ wf p ∧ wf p ≤ 12) := by
  intro n
  induction n with
  | zero =>
    intro i x6 str w wst hi hx hw hA hB
    have : i = S := by omega
    subst this
    obtain ⟨b1, b2, b3⟩ := hB (k_any i (by omega) s hs64 hs1 hsS)
    refine ⟨x6, str, w, wst, ?_, ?_, hx.symm, b1, b2, b3, hw⟩
    · rw [it3_s, f_X1_settle_b6, if_pos (Int32.le_refl _), nI_clamp (by omega)]
    · rw [it3_s, f_X7_strike_b165, if_pos (Int32.le_refl _), nI_1]
  | succ n ih =>
    intro i x6 str w wst hi hx hw hA hB
    have hi6 : i < 6 := by omega
    have hlt : ¬ nI S ≤ nI i := nI_ge (by omega) (by omega)
    obtain ⟨d1, d2, d3⟩ := k_bit s hs64 i hi6
    have sT : s < 2 ^ 31 := by omega
    have iT : i < 2 ^ 31 := by omega
    rw [it3_s, it3_s, f_X1_settle_b6, f_X7_strike_b165, if_neg hlt, if_neg hlt]
    simp only [f_X1_settle_j69, f_X1_settle_j55, f_X7_strike_j281, f_X7_strike_j258, nI_1, nI_clamp sT, nI_clamp iT]
    by_cases hbit : s.testBit i = true
    · have nb : ¬ s.testBit i = false := by rw [hbit]; decide
      have e1 : ¬ ((nI s >>> (nI i &&& 31)) &&& 1) = 0 := fun q => nb (d1.mp q)
      have e2 : ¬ f_X7_has (nI s) (nI i) = 0 := fun q => nb (d2.mp q)
      have hB' : ∀ (x6' str' : Int32) (wst' : Nat → Int32), 0 ≤ x6' → x6' ≤ 12 → ((∀ t, t < 6 → ¬ s = 2 ^ t) → str' = wst' s) → ((∃ t, t < i + 1 ∧ s.testBit t = true) → 0 ≤ x6' ∧ x6' ≤ 12 ∧ ((∀ t, t < 6 → ¬ s = 2 ^ t) → str' = wst' s)) := fun _ _ _ a b c _ => ⟨a, b, c⟩
      have hA' : ∀ x6' : Int32, (∀ t, t < i + 1 → s.testBit t = false) → x6' = -9 := fun _ q => absurd (q i (by omega)) nb
      have hup : ∀ v : Int32, ∀ p, 1 ≤ p → p < s → lasts p = upd w s v p ∧ 0 ≤ upd w s v p ∧ upd w s v p ≤ 12 := by
        intro v p p1 p2
        unfold upd
        rw [if_neg (show ¬ p = s by omega)]
        exact hw p p1 p2
      have hus : ∀ (w : Nat → Int32) (v : Int32), upd w s v s = v := fun w v => if_pos rfl
      by_cases hp : s = 2 ^ i
      · have e3 := d3.mpr hp
        have hxA : x6 = -9 := hA (fun t ht => by rw [hp]; exact k_pow i hi6 t ht)
        have hlw : f_X1_lastWithout gc lasts (nI s) (nI i) = gm i := by
          unfold f_X1_lastWithout
          rw [if_neg (show ¬ ¬ nI s ^^^ (1 <<< (nI i &&& 31)) = 0 from fun q => q (by rw [hp]; exact k_one i hi6)), nI_clamp iT]
          exact (hg i (by omega)).1
        obtain ⟨g1, g2, g3⟩ := hg i (by omega)
        rw [if_neg e1, if_pos hxA, hlw, if_neg (show ¬ ¬ nI s = 1 <<< (nI i &&& 31) from fun q => q e3)]
        exact ih (i + 1) (gm i) (gc i) (upd w s (gm i)) wst (by omega) (hus w _).symm (hup _) (hA' _) (hB' _ _ _ (by rw [← g1]; exact g2) (by rw [← g1]; exact g3) (fun q => absurd hp (q i hi6)))
      · have e3 : ¬ nI s = 1 <<< (nI i &&& 31) := fun q => hp (d3.mp q)
        obtain ⟨r1, r2, r3, r4, r5⟩ := k_rest s hs64 i hi6 hbit hp
        have rT : s - 2 ^ i < 2 ^ 31 := by omega
        obtain ⟨l1, l2, l3⟩ := hw (s - 2 ^ i) r3 r4
        have hlw : f_X1_lastWithout gc lasts (nI s) (nI i) = w (s - 2 ^ i) := by
          unfold f_X1_lastWithout
          rw [r1, if_pos r5, nI_clamp rT]
          exact l1
        obtain ⟨g1, g2, g3⟩ := hg i (by omega)
        rw [if_neg e1, if_pos e3, if_neg e2, hlw, r2, nI_clamp rT, ← hx]
        have step := ih (i + 1) (w (s - 2 ^ i)) (gc i) (upd w s (w (s - 2 ^ i))) (upd wst s (gm i)) (by omega) (hus w _).symm (hup _) (hA' _) (hB' _ _ _ l2 l3 (fun _ => by rw [hus]; exact g1))
        by_cases hx9 : x6 = -9
        · rw [if_pos hx9, if_pos hx9]
          exact step
        · rw [if_neg hx9, if_neg hx9]
          have hx6 : 0 ≤ x6 ∧ x6 ≤ 12 ∧ ((∀ t, t < 6 → ¬ s = 2 ^ t) → str = wst s) := by
            by_cases hb : ∃ t, t < i ∧ s.testBit t = true
            · exact hB hb
            · exact absurd (hA (fun t ht => by
                cases h : s.testBit t
                · rfl
                · exact absurd ⟨t, ht, h⟩ hb)) hx9
          rw [abs_far (a := x6) (by grind) hx6.2.1 h3 h4, abs_far (a := w (s - 2 ^ i)) (by grind) l3 h3 h4]
          by_cases hf : f_X7_far x6 x2 ≤ f_X7_far (w (s - 2 ^ i)) x2
          · rw [if_pos hf, if_pos hf]
            exact ih (i + 1) x6 str w wst (by omega) hx hw (hA' _) (hB' _ _ _ hx6.1 hx6.2.1 hx6.2.2)
          · rw [if_neg hf, if_neg hf]
            exact step
    · have nb : s.testBit i = false := by simpa using hbit
      have e1 := d1.mpr nb
      have e2 := d2.mpr nb
      have hp : ¬ s = 2 ^ i := by
        intro q
        rw [q] at nb
        have : ∀ i, i < 6 → ¬ (2 ^ i).testBit i = false := by decide
        exact this i hi6 nb
      have e3 : ¬ nI s = 1 <<< (nI i &&& 31) := fun q => hp (d3.mp q)
      rw [if_pos e1, if_pos e3, if_pos e2]
      refine ih (i + 1) x6 str w wst (by omega) hx hw (fun q => hA (fun t ht => q t (by omega))) (fun ⟨t, ht, hb⟩ => hB ⟨t, ?_, hb⟩)
      rcases Nat.lt_or_ge t i with q | q
      · exact q
      · have : t = i := by omega
        subst this
        rw [nb] at hb
        exact absurd hb (by decide)
theorem k_sh : ∀ S, S < 7 → ((1 : Int32) <<< (nI S &&& 31) = nI (2 ^ S) ∧ ((1 : Int32) <<< (nI S &&& 31) - 1).toNatClampNeg = 2 ^ S - 1 ∧ ((nI (2 ^ S)).toInt - (1 : Int32).toInt).toNat + 1 = 2 ^ S - 1 + 1 ∧ ((nI S).toInt - (0 : Int32).toInt).toNat + 1 = S + 1 ∧ 2 ^ S ≤ 64) := by decide +kernel
theorem play_loop {S : Nat} (hS2 : 2 ≤ S) (hS6 : S ≤ 6) {gc gm : Nat → Int32} (hg : ∀ p : Nat, p < S → gc p = gm p ∧ 0 ≤ gc p ∧ gc p ≤ 12) {x2 x3 : Int32} (x4 : Int32) (a2 : 0 ≤ x2) (b2 : x2 ≤ 12) (a3 : 0 ≤ x3) (b3 : x3 ≤ 12) : ∀ (n s : Nat) (str : Int32) (lasts la st : Nat → Int32), s + n = 2 ^ S → 1 ≤ s → (∀ p, 1 ≤ p → p < s → lasts p = la p ∧ 0 ≤ la p ∧ la p ≤ 12) → (2 ≤ s → (∀ t, t < 6 → ¬ s - 1 = 2 ^ t) → str = st (s - 1)) → ∃ (strf : Int32) (lf : Nat → Int32), it3 (f_X1_play_b8 x2 x3 (nI S) gc) default (n + 1) (nI s) str lasts = (nI S, strf, gc, lf) ∧ (it3 (f_X7_strike_b115 x2 x3 x4 (nI S) gm) default (n + 1) (nI s) la st).1 = if ¬ x4 = 0 then strf else lf (2 ^ S - 1) := by
  obtain ⟨s1, s2, s3, s4, s5⟩ := k_sh S (by omega)
  intro n
  induction n with
  | zero =>
    intro s str lasts la st hs h1 hl hst
    have : s = 2 ^ S := by omega
    subst this
    have h4 : 4 ≤ 2 ^ S := Nat.pow_le_pow_right (n := 2) (by omega) hS2
    have np : ∀ S, S < 7 → 2 ≤ S → ∀ t, t < 6 → ¬ 2 ^ S - 1 = 2 ^ t := by decide
    refine ⟨str, lasts, ?_, ?_⟩
    · rw [it3_s, f_X1_play_b8, s1, if_pos (Int32.le_refl _)]
    · rw [it3_s, f_X7_strike_b115, s2, s1, if_pos (Int32.le_refl _)]
      have q1 := hst (by omega) (np S (by omega) hS2)
      have q2 := (hl (2 ^ S - 1) (by omega) (by omega)).1
      by_cases c : x4 = 0
      · simp only [c, eq_self, not_true_eq_false, if_false]
        exact q2.symm
      · simp only [c, not_false_eq_true, if_true]
        exact q1.symm
  | succ n ih =>
    intro s str lasts la st hs h1 hl hst
    have hs64 : s < 64 := by omega
    have hlt : ¬ nI (2 ^ S) ≤ nI s := nI_ge (by omega) (by omega)
    have hbc : f_J6_bitCount_0f7a4 (nI s) = f_X7_many (nI s) := bitCount_many (nI_pos' (by omega)) (by
      have := nI_ge (a := s) (b := 64) hs64 (by decide)
      have h64 : nI 64 = 64 := rfl
      grind)
    have sT : s < 2 ^ 31 := by omega
    have main : ∀ y : Int32, 0 ≤ y → y ≤ 12 → ∃ (strf : Int32) (lf : Nat → Int32), f_X1_play_j54 (nI S) gc (nI s) str lasts (it3 (f_X1_play_b8 x2 x3 (nI S) gc) default (n + 1)) y = (nI S, strf, gc, lf) ∧ (f_X7_strike_j142 (nI S) gm (nI s) la st (it3 (f_X7_strike_b115 x2 x3 x4 (nI S) gm) default (n + 1)) y).1 = if ¬ x4 = 0 then strf else lf (2 ^ S - 1) := by
      intro y y0 y1
      obtain ⟨v, sf, wf, wstf, f1, f2, f3, f4, f5, f6, f7⟩ := settle_loop hS6 h1 hs64 (by omega) hg y0 y1 (it3 (f_X7_strike_b115 x2 x3 x4 (nI S) gm) default (n + 1)) S 0 (-9) str (upd la s (-9)) (upd st s (-9)) (by omega) (show (-9 : Int32) = upd la s (-9) s from (if_pos rfl).symm) (lasts := lasts) (fun p p1 p2 => by
        unfold upd
        rw [if_neg (show ¬ p = s by omega)]
        exact hl p p1 p2) (fun _ => rfl) (fun ⟨t, ht, _⟩ => absurd ht (Nat.not_lt_zero t))
      obtain ⟨strf, lf, k1, k2⟩ := ih (s + 1) sf (upd lasts s v) wf wstf (by omega) (by omega) (fun p p1 p2 => by
        unfold upd
        by_cases hps : p = s
        · rw [if_pos hps, hps, f3]
          exact ⟨rfl, f4, f5⟩
        · rw [if_neg hps]
          exact f7 p p1 (by omega)) (fun _ q => f6 q)
      refine ⟨strf, lf, ?_, ?_⟩
      · unfold f_X1_play_j54 f_X1_settle ap2
        rw [s4]
        have f1' : it3 (f_X1_settle_b6 (nI S) gc lasts (nI s) y) default (S + 1) (-9) 0 str = (sf, upd lasts s v) := f1
        rw [f1', nI_1]
        exact k1
      · unfold f_X7_strike_j142
        rw [s4, nI_clamp sT]
        have f2' : it3 (f_X7_strike_b165 (nI S) gm (nI s) y (it3 (f_X7_strike_b115 x2 x3 x4 (nI S) gm) default (n + 1))) default (S + 1) 0 (upd la s (-9)) (upd st s (-9)) = _ := f2
        rw [f2']
        exact k2
    rw [it3_s, it3_s, f_X1_play_b8, f_X7_strike_b115, s1, if_neg hlt, if_neg hlt, hbc]
    unfold f_X1_play_j39
    by_cases c : (nI S - f_X7_many (nI s)) - (nI S - f_X7_many (nI s)) / 2 * 2 = 0
    · simp only [c, z10f, eq_self, not_true_eq_false, if_true, if_false]
      exact main x2 a2 b2
    · simp only [c, eq_self, not_false_eq_true, if_true, if_false]
      exact main x3 a3 b3
