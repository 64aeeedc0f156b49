theorem strike_eq (ssz sst : Int32) (sg sl mg ml ms : Nat → Int32) (x1 x2 x3 x4 : Int32) : (f_X6_strike ssz sst sg sl x1 x2 x3 x4).1 = (f_X7_strike mg ml ms x1 x2 x3 x4).1 := by
  have key := shr_z 13 (by omega) x1
  have e13 : (1 : Int32) <<< (nI 13 &&& 31) - 1 = 8191 := by decide
  have g1 : f_X6_areBits x1 13 = f_X7_in x1.toInt64 0 8191 := by
    rw [in_0_8191]
    unfold f_X6_areBits
    rw [e13] at key
    have key2 : 0 ≤ x1 → (x1 >>> ((13 : Int32) &&& 31) = 0 ↔ x1 ≤ 8191) := key
    by_cases hx : x1 < 0
    · rw [if_pos hx, if_neg (by grind)]
    · rw [if_neg hx]
      have k3 := key2 (by grind)
      by_cases h2 : x1 ≤ 8191
      · rw [if_neg (show ¬ ¬ x1 >>> ((13 : Int32) &&& 31) = 0 from fun q => q (k3.mpr h2)), if_pos (by grind)]
      · rw [if_pos (show ¬ x1 >>> ((13 : Int32) &&& 31) = 0 from fun q => h2 (k3.mp q)), if_neg (by grind)]
  have g2 : ∀ x : Int32, f_X6_isGap x = f_X7_in x.toInt64 0 12 := by
    intro x
    rw [in_0_12]
    unfold f_X6_isGap
    grind
  have g4 : f_X6_isZeroOrOne x4 = f_X7_in x4.toInt64 0 1 := by
    rw [in_0_1]; unfold f_X6_isZeroOrOne; grind
  have i1 := in_0_8191 x1
  have i5 := in_2_6 (f_X7_many x1)
  have i2 := in_0_12 x2
  have i3 := in_0_12 x3
  unfold f_X6_strike f_X7_strike
  rw [g1, g2 x2, g2 x3, g4]
  by_cases c1 : f_X7_in x1.toInt64 0 8191 = 0
  · simp only [c1, if_true]
  · have r1 : 0 ≤ x1 ∧ x1 ≤ 8191 := by grind
    have hbc := bitCount_13 r1.1 r1.2
    rw [hbc]
    by_cases c5 : f_X7_in (f_X7_many x1).toInt64 2 6 = 0
    · have r5 : ¬ (2 ≤ f_X7_many x1 ∧ f_X7_many x1 ≤ 6) := by grind
      by_cases m2 : f_X7_many x1 < 2
      · by_cases c2 : f_X7_in x2.toInt64 0 12 = 0 <;> by_cases c3 : f_X7_in x3.toInt64 0 12 = 0 <;> by_cases c4 : f_X7_in x4.toInt64 0 1 = 0 <;> simp only [c1, c2, c3, c4, c5, m2, eq_self, not_true_eq_false, not_false_eq_true, if_true, if_false]
      · have m6 : ¬ f_X7_many x1 ≤ 6 := fun q => r5 ⟨by grind, q⟩
        by_cases c2 : f_X7_in x2.toInt64 0 12 = 0 <;> by_cases c3 : f_X7_in x3.toInt64 0 12 = 0 <;> by_cases c4 : f_X7_in x4.toInt64 0 1 = 0 <;> simp only [c1, c2, c3, c4, c5, m2, m6, eq_self, not_true_eq_false, not_false_eq_true, if_true, if_false]
    · have r5 : 2 ≤ f_X7_many x1 ∧ f_X7_many x1 ≤ 6 := by grind
      have m2 : ¬ f_X7_many x1 < 2 := by grind
      have m6 := r5.2
      by_cases c2 : f_X7_in x2.toInt64 0 12 = 0
      · simp only [c1, c2, c5, eq_self, if_true, if_false]
      · by_cases c3 : f_X7_in x3.toInt64 0 12 = 0
        · simp only [c1, c2, c3, c5, eq_self, if_true, if_false]
        · by_cases c4 : f_X7_in x4.toInt64 0 1 = 0
          · simp only [c1, c2, c3, c4, c5, eq_self, not_true_eq_false, if_true, if_false]
          · simp only [c1, c2, c3, c4, c5, m2, m6, eq_self, not_false_eq_true, if_true, if_false]
            have r2 : 0 ≤ x2 ∧ x2 ≤ 12 := by grind
            have r3 : 0 ≤ x3 ∧ x3 ≤ 12 := by grind
            rw [many_cnt] at r5
            have hb13 : cntB x1 14 = cntB x1 13 := by
              have h1 : cntB x1 14 = cntB x1 13 + ((x1 >>> (nI 13 &&& 31)) &&& 1) := rfl
              have h2 : x1 >>> (nI 13 &&& 31) = 0 := (key r1.1).mpr (by rw [e13]; exact r1.2)
              rw [h1, h2, show (0 : Int32) &&& 1 = 0 by decide]
              grind
            have hcb := cntB_bd x1 13 (by decide)
            have h6 : cntB x1 14 ≤ 6 := r5.2
            obtain ⟨gc, gm, l1, l2, l3⟩ := list_loop (x1 := x1) (x2 := x2) (x3 := x3) (x4 := x4) (la := ml) (st := ms) h6 13 0 sg mg (by omega) (fun p hp hc => by
              have h0 : ¬ nI p < 0 := nI_pos (by omega)
              exact absurd hc h0)
            rw [hb13] at r5
            obtain ⟨S, hS, eS⟩ := nI_ex (n := 7) (k := 7) (by decide) hcb.1 (show cntB x1 13 < 7 by grind)
            rw [eS] at l1 l2 l3 r5
            have hS2 : 2 ≤ S := by
              have : nI 2 ≤ nI S := r5.1
              exact (nI_leI (by decide) (by omega)).mp this
            obtain ⟨s1, s2, s3, s4, s5⟩ := k_sh S hS
            have h1S : 1 ≤ 2 ^ S := Nat.one_le_two_pow
            obtain ⟨strf, lf, k1, k2⟩ := play_loop hS2 (by omega) (gc := gc) (gm := gm) (fun p hp => l3 p (by omega) (nI_lt hp (by omega))) x4 r2.1 r2.2 r3.1 r3.2 (2 ^ S - 1) 1 sst sl ml ms (by omega) (Nat.le_refl 1) (fun p p1 p2 => absurd p1 (by omega)) (fun q => absurd q (by omega))
            have f14 : ((13 : Int32).toInt - (0 : Int32).toInt).toNat + 1 = 13 + 1 := by decide
            have l1' : it3 (f_X1_list_b7 x1) default (13 + 1) 0 0 sg = (nI S, gc) := l1
            have l2' : it3 (f_X7_strike_b78 ml ms x1 x2 x3 x4) default (13 + 1) 0 0 mg = it3 (f_X7_strike_b115 x2 x3 x4 (nI S) gm) default (((1 <<< (nI S &&& 31)).toInt - (1 : Int32).toInt).toNat + 1) 1 ml ms := l2
            have hplay : f_X1_play sst sg sl x1 x2 x3 = (nI S, strf, gc, lf) := by
              unfold f_X1_play f_X1_list
              rw [f14, l1']
              unfold ap2
              show it3 (f_X1_play_b8 x2 x3 (nI S) gc) default (((1 <<< (nI S &&& 31)).toInt - (1 : Int32).toInt).toNat + 1) 1 sst sl = _
              rw [s1, s3]
              exact k1
            rw [hplay, f14, l2', s1, s3]
            have k2' : (it3 (f_X7_strike_b115 x2 x3 x4 (nI S) gm) default (2 ^ S - 1 + 1) 1 ml ms).1 = _ := k2
            rw [k2']
            unfold ap4 f_X1_firstStruck f_X1_lastLeft
            show (if ¬ x4 = 0 then (strf, nI S, strf, gc, lf) else (lf ((1 <<< (nI S &&& 31)) - 1).toNatClampNeg, nI S, strf, gc, lf)).1 = _
            rw [s2]
            by_cases c : x4 = 0
            · simp only [c, eq_self, not_true_eq_false, if_false]
            · simp only [c, not_false_eq_true, if_true]
