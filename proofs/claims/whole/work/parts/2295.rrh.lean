/-! quarrel: places that hold -/
theorem hp_loop {ce : Nat → Int32} {vo co x1 : Int32} (hv : f_X3_isVoid vo x1 = 0) : ∀ (n j : Nat) (bits : Int32), j + n = 14 → (∀ i, i < 32 → bt bits i = decide (i < j ∧ ¬ f_X6_holdsAt ce co x1 (nI i) = 0)) → ∀ i, i < 32 → bt (it2 (f_X6_holdingPlaces_b4 ce vo co x1) default (n + 1) bits (nI j)) i = decide (i < 14 ∧ ¬ f_X6_holdsAt ce co x1 (nI i) = 0) := by
  intro n
  induction n with
  | zero =>
    intro j bits hj hb i hi
    have : j = 14 := by omega
    subst this
    rw [it2_s, f_X6_holdingPlaces_b4, if_pos (by decide)]
    exact hb i hi
  | succ n ih =>
    intro j bits hj hb
    have hlt : ¬ (14 : Int32) ≤ nI j := nI_ge (a := j) (b := 14) (by omega) (by decide)
    rw [it2_s, f_X6_holdingPlaces_b4, if_neg hlt, if_neg (fun q => q hv)]
    simp only [f_X6_holdingPlaces_j36, nI_1]
    by_cases hc : f_X6_holdsAt ce co x1 (nI j) = 0
    · rw [if_pos hc]
      refine ih (j + 1) _ (by omega) (fun i hi => ?_)
      rw [hb i hi]
      by_cases hij : i = j
      · subst hij
        simp [hc]
      · have : (i < j + 1) ↔ (i < j) := by omega
        simp [this]
    · rw [if_neg hc]
      refine ih (j + 1) _ (by omega) (fun i hi => ?_)
      rw [b_or, hb i hi, bt_shl1 j (by omega) i hi]
      by_cases hij : i = j
      · subst hij
        simp [hc]
      · have : (i < j + 1) ↔ (i < j) := by omega
        simp [hij, this]
theorem hp_bt {ce : Nat → Int32} {vo co x1 : Int32} (hv : f_X3_isVoid vo x1 = 0) : ∀ i, i < 32 → bt (f_X6_holdingPlaces ce vo co x1) i = decide (i < 14 ∧ ¬ f_X6_holdsAt ce co x1 (nI i) = 0) := by
  unfold f_X6_holdingPlaces
  exact hp_loop hv 14 0 0 (by omega) (fun i hi => by
    have h0 : ∀ i, i < 32 → bt 0 i = false := by decide +kernel
    rw [h0 i hi]
    simp)
theorem hp_void {ce : Nat → Int32} {vo co x1 : Int32} (hv : ¬ f_X3_isVoid vo x1 = 0) : f_X6_holdingPlaces ce vo co x1 = 0 := by
  have key : ∀ (n j : Nat), j + n = 14 → it2 (f_X6_holdingPlaces_b4 ce vo co x1) default (n + 1) 0 (nI j) = 0 := by
    intro n
    induction n with
    | zero =>
      intro j hj
      have : j = 14 := by omega
      subst this
      rw [it2_s, f_X6_holdingPlaces_b4, if_pos (by decide)]
    | succ n ih =>
      intro j hj
      have hlt : ¬ (14 : Int32) ≤ nI j := nI_ge (a := j) (b := 14) (by omega) (by decide)
      rw [it2_s, f_X6_holdingPlaces_b4, if_neg hlt, if_pos hv, f_X6_holdingPlaces_j36, nI_1]
      exact ih (j + 1) (by omega)
  unfold f_X6_holdingPlaces
  exact key 14 0 (by omega)
theorem hp_zero {ce : Nat → Int32} {vo co x1 : Int32} (hv : f_X3_isVoid vo x1 = 0) : f_X6_holdingPlaces ce vo co x1 = 0 ↔ ∀ t, t < 14 → f_X6_holdsAt ce co x1 (nI t) = 0 := by
  rw [bt_zero]
  constructor
  · intro h t ht
    have h1 := h t (by omega)
    rw [hp_bt hv t (by omega)] at h1
    have h2 := of_decide_eq_false h1
    exact Classical.byContradiction (fun q => h2 ⟨ht, q⟩)
  · intro h i hi
    rw [hp_bt hv i hi]
    exact decide_eq_false (fun q => q.2 (h i q.1))
theorem hp_and {ce : Nat → Int32} {vo co x1 x2 : Int32} (hv : f_X3_isVoid vo x1 = 0) (hw : f_X3_isVoid vo x2 = 0) : f_X6_holdingPlaces ce vo co x1 &&& f_X6_holdingPlaces ce vo co x2 = 0 ↔ ∀ t, t < 14 → f_X6_holdsAt ce co x1 (nI t) = 0 ∨ f_X6_holdsAt ce co x2 (nI t) = 0 := by
  rw [bt_zero]
  constructor
  · intro h t ht
    have h1 := h t (by omega)
    rw [b_and, hp_bt hv t (by omega), hp_bt hw t (by omega)] at h1
    by_cases c1 : f_X6_holdsAt ce co x1 (nI t) = 0
    · exact Or.inl c1
    · by_cases c2 : f_X6_holdsAt ce co x2 (nI t) = 0
      · exact Or.inr c2
      · rw [decide_eq_true ⟨ht, c1⟩, decide_eq_true ⟨ht, c2⟩] at h1
        exact absurd h1 (by decide)
  · intro h i hi
    rw [b_and, hp_bt hv i hi, hp_bt hw i hi]
    by_cases c : i < 14
    · rcases h i c with q | q
      · rw [decide_eq_false (fun z : i < 14 ∧ ¬ f_X6_holdsAt ce co x1 (nI i) = 0 => z.2 q)]
        rfl
      · rw [decide_eq_false (fun z : i < 14 ∧ ¬ f_X6_holdsAt ce co x2 (nI i) = 0 => z.2 q), Bool.and_false]
    · rw [decide_eq_false (fun z : i < 14 ∧ ¬ f_X6_holdsAt ce co x1 (nI i) = 0 => c z.1)]
      rfl
theorem ite_iff {R : Type} {P Q : Prop} [Decidable P] [Decidable Q] (h : P ↔ Q) (x y : R) : (if P then x else y) = if Q then x else y := by
  by_cases p : P
  · rw [if_pos p, if_pos (h.mp p)]
  · rw [if_neg p, if_neg (fun q => p (h.mpr q))]
theorem q_tail {R : Type} (P Q A B C : Prop) [Decidable P] [Decidable Q] [Decidable A] [Decidable B] [Decidable C] (x y : R) : (if P then x else if Q then x else if A then x else if B then x else if C then x else y) = if P ∨ Q ∨ A ∨ B ∨ C then x else y := by
  by_cases p : P <;> by_cases q : Q <;> by_cases a : A <;> by_cases b : B <;> by_cases c : C <;> simp [p, q, a, b, c]
theorem q_inner {con pg ce : Nat → Int32} {co x7 x19 : Int32} (h1 : ∀ t, t < 14 → f_X7_isBroken con pg x7 (nI t) = if f_X6_holdsAt ce co x7 (nI t) = 0 then 1 else 0) (h2 : ∀ t, t < 14 → f_X7_isBroken con pg x19 (nI t) = if f_X6_holdsAt ce co x19 (nI t) = 0 then 1 else 0) (K : Int32 → Int32 × Int32) : ∀ (n j : Nat) (one two both : Int32), j + n = 14 → (one = 0 ↔ ∀ t, t < j → f_X6_holdsAt ce co x7 (nI t) = 0) → (two = 0 ↔ ∀ t, t < j → f_X6_holdsAt ce co x19 (nI t) = 0) → (both = 0 ↔ ∀ t, t < j → f_X6_holdsAt ce co x7 (nI t) = 0 ∨ f_X6_holdsAt ce co x19 (nI t) = 0) → it4 (f_X7_quarrel_b38 con pg x7 x19 K) default (n + 1) one two both (nI j) = if ¬ f_X7_has (pg (1 : Int32).toNatClampNeg) x7 = 0 ∨ ¬ f_X7_has (pg (1 : Int32).toNatClampNeg) x19 = 0 ∨ (∀ t, t < 14 → f_X6_holdsAt ce co x7 (nI t) = 0) ∨ (∀ t, t < 14 → f_X6_holdsAt ce co x19 (nI t) = 0) ∨ ¬ (∀ t, t < 14 → f_X6_holdsAt ce co x7 (nI t) = 0 ∨ f_X6_holdsAt ce co x19 (nI t) = 0) then K (x19 + 1) else ((10 * x7) + x19, 0) := by
  intro n
  induction n with
  | zero =>
    intro j one two both hj a1 a2 a3
    have : j = 14 := by omega
    subst this
    rw [it4_s, f_X7_quarrel_b38, if_pos (by decide)]
    simp only [f_X7_quarrel_j186]
    rw [q_tail]
    exact ite_iff (or_congr Iff.rfl (or_congr Iff.rfl (or_congr a1 (or_congr a2 (not_congr a3))))) _ _
  | succ n ih =>
    intro j one two both hj a1 a2 a3
    have hlt : ¬ (14 : Int32) ≤ nI j := nI_ge (a := j) (b := 14) (by omega) (by decide)
    rw [it4_s, f_X7_quarrel_b38, if_neg hlt]
    have key : ∀ k38 : Int32 → Int32 → Int32 → Int32 → Int32 × Int32, (if ¬ f_X7_isBroken con pg x7 (nI j) = 0 then f_X7_quarrel_j60 con pg x19 one two both (nI j) k38 0 else f_X7_quarrel_j60 con pg x19 one two both (nI j) k38 1) = k38 (if one = 0 ∧ f_X6_holdsAt ce co x7 (nI j) = 0 then 0 else 1) (if two = 0 ∧ f_X6_holdsAt ce co x19 (nI j) = 0 then 0 else 1) (if both = 0 ∧ (f_X6_holdsAt ce co x7 (nI j) = 0 ∨ f_X6_holdsAt ce co x19 (nI j) = 0) then 0 else 1) (nI (j + 1)) := by
      intro k38
      simp only [f_X7_quarrel_j60, f_X7_quarrel_j77, f_X7_quarrel_j88, f_X7_quarrel_j93, f_X7_quarrel_j104, f_X7_quarrel_j109, f_X7_quarrel_j126, f_X7_quarrel_j130, f_X7_quarrel_j131, h1 j (by omega), h2 j (by omega), nI_1]
      generalize f_X6_holdsAt ce co x7 (nI j) = p
      generalize f_X6_holdsAt ce co x19 (nI j) = q
      by_cases c1 : p = 0 <;> by_cases c2 : q = 0 <;> by_cases c3 : one = 0 <;> by_cases c4 : two = 0 <;> by_cases c5 : both = 0 <;> simp [c1, c2, c3, c4, c5]
    have st : ∀ P : Nat → Prop, ((∀ t, t < j + 1 → P t) ↔ ((∀ t, t < j → P t) ∧ P j)) := by
      intro P
      constructor
      · exact fun h => ⟨fun t ht => h t (by omega), h j (by omega)⟩
      · intro h t ht
        rcases Nat.lt_or_ge t j with q | q
        · exact h.1 t q
        · have : t = j := by omega
          subst this
          exact h.2
    have o : ∀ (P : Prop) [Decidable P], ((if P then (0 : Int32) else 1) = 0 ↔ P) := by
      intro P _
      by_cases hp : P
      · simp [hp]
      · rw [if_neg hp]
        exact ⟨fun q => absurd q (by decide), fun q => absurd q hp⟩
    rw [key]
    exact ih (j + 1) _ _ _ (by omega) (by rw [o, st, a1]) (by rw [o, st, a2]) (by rw [o, st (fun t => f_X6_holdsAt ce co x7 (nI t) = 0 ∨ f_X6_holdsAt ce co x19 (nI t) = 0), a3])
theorem q_mid {ct : Int32} {sz ce con bir tid deb pg : Nat → Int32} {bi ti de pl vo co : Int32} (hC : CaseOK ct bi ti de sz ce con bir tid deb) (hP : PageOK ct ce pg pl vo co) (h5 : ct ≤ 5) {i : Nat} (hi : i < 5) (hic : nI i < ct) (K7 : Int32 → Int32 × Int32) (K6 : Int32 → Int32) (hK : K7 (nI (i + 1)) = (K6 (nI (i + 1)), 0)) : ∀ (n j : Nat), j ≤ 5 → it1 (f_X7_quarrel_b19 ct con pg (nI i) K7) default n (nI j) = (it1 (f_X6_quarrel_b27 sz ce vo co (nI i) K6) default n (nI j), 0) := by
  intro n
  induction n with
  | zero => intro j _; rfl
  | succ n ih =>
    intro j hj
    rw [it1_s, it1_s, f_X7_quarrel_b19, f_X6_quarrel_b27, size_0, hC.1.1]
    by_cases h : ct ≤ nI j
    · rw [if_pos h, if_pos h, nI_1]
      exact hK
    · rw [if_neg h, if_neg h]
      have hj5 := nI_lt5 h5 hj h
      have hjc : nI j < ct := by grind
      have g : ∀ t, t < 14 → 0 ≤ nI t ∧ nI t ≤ 13 := by decide
      have b1 : ∀ t, t < 14 → f_X7_isBroken con pg (nI i) (nI t) = if f_X6_holdsAt ce co (nI i) (nI t) = 0 then 1 else 0 := fun t ht => brk_eq hC hP (g t ht).1 (g t ht).2 hi hic
      have b2 : ∀ t, t < 14 → f_X7_isBroken con pg (nI j) (nI t) = if f_X6_holdsAt ce co (nI j) (nI t) = 0 then 1 else 0 := fun t ht => brk_eq hC hP (g t ht).1 (g t ht).2 hj5 hjc
      have no : ∀ t : Nat, ¬ t < 0 := fun t => Nat.not_lt_zero t
      have hin := q_inner b1 b2 (it1 (f_X7_quarrel_b19 ct con pg (nI i) K7) default n) 14 0 0 0 0 (by omega) ⟨fun _ t ht => absurd ht (no t), fun _ => rfl⟩ ⟨fun _ t ht => absurd ht (no t), fun _ => rfl⟩ ⟨fun _ t ht => absurd ht (no t), fun _ => rfl⟩
      have hin2 : it4 (f_X7_quarrel_b38 con pg (nI i) (nI j) (it1 (f_X7_quarrel_b19 ct con pg (nI i) K7) default n)) default (((14 : Int32).toInt - (0 : Int32).toInt).toNat + 1) 0 0 0 0 = _ := hin
      rw [hin2, pg1 hP.2.1, nI_1]
      have ih1 := ih (j + 1) (by omega)
      have ei := void_has vo (nI i)
      have ej := void_has vo (nI j)
      simp only [f_X6_quarrel_j65, nI_1]
      by_cases v1 : f_X7_has vo (nI i) = 0
      · by_cases v2 : f_X7_has vo (nI j) = 0
        · have z1 := hp_zero (ce := ce) (co := co) (ei.mpr v1)
          have z2 := hp_zero (ce := ce) (co := co) (ej.mpr v2)
          have z3 := hp_and (ce := ce) (co := co) (ei.mpr v1) (ej.mpr v2)
          by_cases p1 : f_X6_holdingPlaces ce vo co (nI i) = 0
          · rw [if_pos p1, if_pos (Or.inr (Or.inr (Or.inl (z1.mp p1))))]
            exact ih1
          · rw [if_neg p1]
            by_cases p2 : f_X6_holdingPlaces ce vo co (nI j) = 0
            · rw [if_pos p2, if_pos (Or.inr (Or.inr (Or.inr (Or.inl (z2.mp p2)))))]
              exact ih1
            · rw [if_neg p2]
              by_cases p3 : f_X6_holdingPlaces ce vo co (nI i) &&& f_X6_holdingPlaces ce vo co (nI j) = 0
              · rw [if_neg (show ¬ ¬ f_X6_holdingPlaces ce vo co (nI i) &&& f_X6_holdingPlaces ce vo co (nI j) = 0 from fun q => q p3), if_neg]
                intro q
                rcases q with q | q | q | q | q
                · exact q v1
                · exact q v2
                · exact p1 (z1.mpr q)
                · exact p2 (z2.mpr q)
                · exact q (z3.mp p3)
              · rw [if_pos p3, if_pos (Or.inr (Or.inr (Or.inr (Or.inr (fun q => p3 (z3.mpr q))))))]
                exact ih1
        · rw [if_pos (Or.inr (Or.inl v2)), if_pos (hp_void (fun q => v2 (ej.mp q)))]
          by_cases p1 : f_X6_holdingPlaces ce vo co (nI i) = 0
          · rw [if_pos p1]; exact ih1
          · rw [if_neg p1]; exact ih1
      · rw [if_pos (Or.inl v1), if_pos (hp_void (fun q => v1 (ei.mp q)))]
        exact ih1
theorem quarrel_eq {ct : Int32} {sz ce con bir tid deb pg : Nat → Int32} {bi ti de pl vo co : Int32} (hC : CaseOK ct bi ti de sz ce con bir tid deb) (hP : PageOK ct ce pg pl vo co) (h5 : ct ≤ 5) : f_X7_quarrel ct con pg = (f_X6_quarrel sz ce vo co, 0) := by
  have key : ∀ (n i : Nat), i ≤ 5 → it1 (f_X7_quarrel_b7 ct con pg) default n (nI i) = (it1 (f_X6_quarrel_b11 sz ce vo co) default n (nI i), 0) := by
    intro n
    induction n with
    | zero => intro i _; rfl
    | succ n ih =>
      intro i hi
      rw [it1_s, it1_s, f_X7_quarrel_b7, f_X6_quarrel_b11, size_0, hC.1.1]
      by_cases h : ct ≤ nI i
      · rw [if_pos h, if_pos h]
      · rw [if_neg h, if_neg h, nI_1]
        have hi5 := nI_lt5 h5 hi h
        exact q_mid hC hP h5 hi5 (by grind) _ _ (ih (i + 1) (by omega)) _ (i + 1) (by omega)
  unfold f_X7_quarrel f_X6_quarrel
  rw [size_0, hC.1.1]
  exact key _ 0 (by omega)
