/-! payings: how many sets come out even -/
theorem net_sum {ct bi ti de : Int32} {sz ce con bir tid deb : Nat → Int32} (hC : CaseOK ct bi ti de sz ce con bir tid deb) (h0 : 0 ≤ de) (h6 : de ≤ 6) : f_X6_netOf sz ce 0 + f_X6_netOf sz ce 1 + f_X6_netOf sz ce 2 + f_X6_netOf sz ce 3 = 0 := by
  obtain ⟨k, hk, rfl⟩ := nI_ex (n := 7) (k := 7) (by decide) h0 (by grind)
  have hfu : ∀ k, k < 7 → ((nI k).toInt - (0 : Int32).toInt).toNat + 1 = k + 1 := by decide
  have key : ∀ (n j : Nat) (a b c d : Int32), j + n = k → a + b + c + d = 0 → it2 (f_X6_netOf_b4 sz ce 0) default (n + 1) a (nI j) + it2 (f_X6_netOf_b4 sz ce 1) default (n + 1) b (nI j) + it2 (f_X6_netOf_b4 sz ce 2) default (n + 1) c (nI j) + it2 (f_X6_netOf_b4 sz ce 3) default (n + 1) d (nI j) = 0 := by
    intro n
    induction n with
    | zero =>
      intro j a b c d hj hz
      have : j = k := by omega
      subst this
      simp only [it2_s, f_X6_netOf_b4, size_3, hC.1.2.2.2, if_pos (Int32.le_refl _)]
      exact hz
    | succ n ih =>
      intro j a b c d hj hz
      have hlt : ¬ nI k ≤ nI j := nI_ge (by omega) (by omega)
      have hj6 : j < 6 := by omega
      obtain ⟨_, _, _, r0, r1, r2, r3, _, _⟩ := hC.2.2.2.2 j hj6 (by grind)
      have ih1 := fun a b c d => ih (j + 1) a b c d (by omega)
      obtain ⟨p, hp, ep⟩ := nI_ex (n := 4) (k := 4) (by decide) r0 (by grind)
      obtain ⟨q, hq, eq⟩ := nI_ex (n := 4) (k := 4) (by decide) r2 (by grind)
      have dd : f_X5_debtor ce (nI j) = nI p := by rw [debtor_k _ hj6, ep]
      have cc : f_X5_creditor ce (nI j) = nI q := by rw [creditor_k _ hj6, eq]
      rw [it2_s, it2_s, it2_s, it2_s]
      simp only [f_X6_netOf_b4, f_X6_netOf_j39, f_X6_netOf_j62, size_3, hC.1.2.2.2, if_neg hlt, nI_1, dd, cc]
      generalize f_X5_debtOf ce (nI j) = v
      have w0 : ∀ p, p < 4 → ((nI p = 0 ∧ ¬ nI p = 1 ∧ ¬ nI p = 2 ∧ ¬ nI p = 3) ∨ (¬ nI p = 0 ∧ nI p = 1 ∧ ¬ nI p = 2 ∧ ¬ nI p = 3) ∨ (¬ nI p = 0 ∧ ¬ nI p = 1 ∧ nI p = 2 ∧ ¬ nI p = 3) ∨ (¬ nI p = 0 ∧ ¬ nI p = 1 ∧ ¬ nI p = 2 ∧ nI p = 3)) := by decide
      rcases w0 p hp with ⟨x1, x2, x3, x4⟩ | ⟨x1, x2, x3, x4⟩ | ⟨x1, x2, x3, x4⟩ | ⟨x1, x2, x3, x4⟩ <;> rcases w0 q hq with ⟨y1, y2, y3, y4⟩ | ⟨y1, y2, y3, y4⟩ | ⟨y1, y2, y3, y4⟩ | ⟨y1, y2, y3, y4⟩ <;> simp only [x1, x2, x3, x4, y1, y2, y3, y4, not_true_eq_false, not_false_eq_true, if_true, if_false] <;> exact ih1 _ _ _ _ (by grind)
  unfold f_X6_netOf
  rw [size_3, hC.1.2.2.2, hfu k hk]
  exact key k 0 0 0 0 0 (by omega) (by decide)
/-- does a set of parties come out even: by the parties alone and the pairs with the first of them -/
def zt (z0 z1 z2 z3 p q r : Bool) (m : Nat) : Bool :=
  if m = 0 then true else if m = 1 then z0 else if m = 2 then z1 else if m = 3 then p else if m = 4 then z2 else if m = 5 then q else if m = 6 then r else if m = 7 then z3 else if m = 8 then z3 else if m = 9 then r else if m = 10 then q else if m = 11 then z2 else if m = 12 then p else if m = 13 then z1 else if m = 14 then z0 else true
def dz68 (Z : Nat → Bool) (x52 : Int32) (k52 k68 : Int32 → (Nat → Int32) → Int32) (x68 : Int32) (w : Nat → Int32) : Int32 :=
  if x52 < x68 then k52 (x52 + 1) w else if ¬ (x68 &&& (x52 ^^^ (-1))) = 0 then k68 (x68 + 1) w else if Z x68.toNatClampNeg = false then k68 (x68 + 1) w else if w (x52 &&& (x68 ^^^ (-1))).toNatClampNeg = (-9) then k68 (x68 + 1) w else if (w (x52 &&& (x68 ^^^ (-1))).toNatClampNeg) + 1 ≤ w x52.toNatClampNeg then k68 (x68 + 1) w else k68 (x68 + 1) (upd w x52.toNatClampNeg ((w (x52 &&& (x68 ^^^ (-1))).toNatClampNeg) + 1))
def dz52 (Z : Nat → Bool) (M : Int32) (k52 : Int32 → (Nat → Int32) → Int32) (x52 : Int32) (w : Nat → Int32) : Int32 :=
  if 16 ≤ x52 then w M.toNatClampNeg else it2 (dz68 Z x52 k52) default ((x52.toInt + 1 - (1 : Int32).toInt).toNat + 1) 1 (upd w x52.toNatClampNeg (-9))
def dzM (z0 z1 z2 z3 : Bool) : Int32 := (((0 ||| (if z0 then 0 else 1)) ||| (if z1 then 0 else 2)) ||| (if z2 then 0 else 4)) ||| (if z3 then 0 else 8)
def dzV (z0 z1 z2 z3 p q r : Bool) : Int32 := it2 (dz52 (zt z0 z1 z2 z3 p q r) (dzM z0 z1 z2 z3)) default 16 1 (upd (fun _ => 0) 0 0)
def dzC (z0 z1 z2 z3 : Bool) : Int32 := (((0 + (if z0 then 0 else 1)) + (if z1 then 0 else 1)) + (if z2 then 0 else 1)) + (if z3 then 0 else 1)
def dzA (z0 z1 z2 z3 p q r : Bool) : Int32 := dzC z0 z1 z2 z3 - (if ¬ dzC z0 z1 z2 z3 = 0 then if ¬ dzC z0 z1 z2 z3 = 4 then 1 else if (p || q || r) = false then 1 else 2 else 0)
def dzO (z0 z1 z2 z3 p q r : Bool) : Bool := (!z0 || ((p == z1) && (q == z2) && (r == z3))) && (!z1 || ((p == z0) && (r == z2) && (q == z3))) && (!z2 || ((q == z0) && (r == z1) && (p == z3))) && (!z3 || ((r == z0) && (q == z1) && (p == z2)))
theorem dz_all : ∀ z0 z1 z2 z3 p q r : Bool, dzO z0 z1 z2 z3 p q r = true → f_X7_many (dzM z0 z1 z2 z3) - dzV z0 z1 z2 z3 p q r = dzA z0 z1 z2 z3 p q r := by decide +kernel
