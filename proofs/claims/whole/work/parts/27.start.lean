theorem va_P_rep {D : va_G} {cl : List vw_C} {ws : va_W} {H : Heap} {k : Nat} {q q' : Nat × va_E} (h : va_P D cl ws H) (hk : ws[k]? = some q) (hq : va_at D cl q H → va_at D cl q' H) : va_P D cl (ws.set k q') H := fun j x hx => by
  by_cases hj : j = k
  · subst hj
    rw [List.getElem?_set_self (List.getElem?_eq_some_iff.mp hk).1] at hx
    cases hx
    exact hq (h j q hk)
  · rw [List.getElem?_set_ne (Ne.symm hj)] at hx
    exact h j x hx
theorem kept_fn (x y : Nat) (n : Nat) (hn : n = 2) : (fun j : Fin n => va_rf ((va_up (va_up (fun _ => none) (0 : Int32).toNatClampNeg (some x)) (1 : Int32).toNatClampNeg (some y)) j.val)) = (fun j : Fin n => va_rf (vk2 x y j.val)) := by
  subst hn
  funext j
  rcases (show j.val = 0 ∨ j.val = 1 by omega) with e | e <;> rw [e] <;> rfl
theorem kept_at {D : va_G} {H : Heap} {cO : ClassId} {k x y : Nat} (h : va_at D vwCl (k, .inl (cO, 2, .inr (.inr (.inr (.inr (va_up (va_up (fun _ => none) (0 : Int32).toNatClampNeg (some x)) (1 : Int32).toNatClampNeg (some y))))))) H) : va_at D vwCl (k, .inl (cO, 2, .inr (.inr (.inr (.inr (vk2 x y)))))) H := by
  have h1 : H[k]? = some (vp_cell cO (2, .inr (.inr (.inr (.inr (va_up (va_up (fun _ => none) (0 : Int32).toNatClampNeg (some x)) (1 : Int32).toNatClampNeg (some y))))))) := h
  show H[k]? = some (vp_cell cO (2, .inr (.inr (.inr (.inr (vk2 x y))))))
  rw [h1, vp_cell_q, vp_cell_q]
  unfold arrV
  rw [kept_fn x y 2 rfl]
theorem rr_new : RR 0 0 0 (fun _ => 0) (fun _ => 0) (fun _ => 0) 13 0 0 0 (fun _ => 0) (fun _ => 0) 0 (fun _ => 0) (fun _ => 0) 0 13 0 0 13 0 0 0 0 0 0 0 0 0 0 (fun _ => 0) (fun _ => 0) (fun _ => 0) (fun _ => 0) (fun _ => 0) (upd (fun _ => 0) (0 : Int32).toNatClampNeg 13) (fun _ => 0) (fun _ => 0) (fun _ => 0) (fun _ => 0) (fun _ => 0) := by
  have z : ∀ k : Nat, k < 6 → ¬ nI k < 0 := fun k hk => nI_pos (by omega)
  have c0 : (0 : Int32).toNatClampNeg = 0 := by decide
  refine ⟨by decide, ⟨⟨rfl, rfl⟩, rfl, rfl, rfl, rfl, fun j hj _ => (by decide : (0 : Int32) ≤ 0 ∧ (0 : Int32) ≤ 11)⟩, ⟨⟨rfl, rfl, rfl, rfl⟩, fun k hk h => absurd h (z k (by omega)), fun k hk h => absurd h (z k (by omega)), fun k hk h => absurd h (z k (by omega)), fun k hk h => absurd h (z k (by omega))⟩, ⟨?_, ?_, fun k hk h => absurd h (z k (by omega)), by decide, by decide, by decide, by decide, by decide, by decide⟩, ⟨rfl, fun _ => (13, 0, 0), rfl, fun j hj => absurd hj (by rw [c0]; exact Nat.not_lt_zero j)⟩, ⟨⟨fun _ => rfl, fun _ => by decide⟩, fun h => absurd rfl h⟩, ⟨⟨fun _ => rfl, fun _ => by decide⟩, fun h => absurd rfl h⟩⟩
  · rw [c0]; rfl
  · rw [c0]; rfl
set_option maxRecDepth 20000 in
theorem start_SX {s : State} {b : Nat} (hts0 : ∀ w ∈ lw_tbl, w.before #[Value.ref b] s = true) (hgv : (Jvm.Cond.and given_1 narrow_1).before #[Value.ref b] s = true) : ∃ adK adV : Nat → Nat, SX adK adV (fun q : Nat => s.heap.size ≤ q) s s.heap := by
  have hs := flat_of_before _ hgv
  have hA : ∀ a : Nat, a < s.heap.size → ¬ (fun q : Nat => s.heap.size ≤ q) a := fun a h => Nat.not_le.mpr h
  have four : ∀ {Q : Nat → Prop}, Q 0 → Q 1 → Q 2 → Q 3 → ∀ i : Nat, i < 4 → Q i := by
    intro Q h0 h1 h2 h3 i hi
    rcases (show i = 0 ∨ i = 1 ∨ i = 2 ∨ i = 3 by omega) with rfl | rfl | rfl | rfl
    · exact h0
    · exact h1
    · exact h2
    · exact h3
  obtain ⟨adK, adV, hV, hE⟩ := vk_Sof (args := #[Value.ref b]) (s := s) (N := 4) (tm := fun i => .string RX5 (66 + 2 * i)) (len := lenS) (byt := bytS) (A := fun q : Nat => s.heap.size ≤ q)
    (four (by decide) (by decide) (by decide) (by decide))
    (four (hs (.exactly (.string RX5 66) "java/lang/String") (by decide +kernel)) (hs (.exactly (.string RX5 68) "java/lang/String") (by decide +kernel)) (hs (.exactly (.string RX5 70) "java/lang/String") (by decide +kernel)) (hs (.exactly (.string RX5 72) "java/lang/String") (by decide +kernel)))
    (four (hs (.eq (.field (.string RX5 66) "java/lang/String" "coder" "B") (.int 0)) (by decide +kernel)) (hs (.eq (.field (.string RX5 68) "java/lang/String" "coder" "B") (.int 0)) (by decide +kernel)) (hs (.eq (.field (.string RX5 70) "java/lang/String" "coder" "B") (.int 0)) (by decide +kernel)) (hs (.eq (.field (.string RX5 72) "java/lang/String" "coder" "B") (.int 0)) (by decide +kernel)))
    (four (hs (.arrayOf (.field (.string RX5 66) "java/lang/String" "value" "[B") .byte) (by decide +kernel)) (hs (.arrayOf (.field (.string RX5 68) "java/lang/String" "value" "[B") .byte) (by decide +kernel)) (hs (.arrayOf (.field (.string RX5 70) "java/lang/String" "value" "[B") .byte) (by decide +kernel)) (hs (.arrayOf (.field (.string RX5 72) "java/lang/String" "value" "[B") .byte) (by decide +kernel)))
    (four (hs (.eq (.length (.field (.string RX5 66) "java/lang/String" "value" "[B")) (.int 5)) (by decide +kernel)) (hs (.eq (.length (.field (.string RX5 68) "java/lang/String" "value" "[B")) (.int 2)) (by decide +kernel)) (hs (.eq (.length (.field (.string RX5 70) "java/lang/String" "value" "[B")) (.int 2)) (by decide +kernel)) (hs (.eq (.length (.field (.string RX5 72) "java/lang/String" "value" "[B")) (.int 3)) (by decide +kernel)))
    (four (fun j hj => by
      have hj : j < 5 := hj
      rcases (show j = 0 ∨ j = 1 ∨ j = 2 ∨ j = 3 ∨ j = 4 by omega) with rfl | rfl | rfl | rfl | rfl
      · exact hs (.eq (.elem (.field (.string RX5 66) "java/lang/String" "value" "[B") (.int 0)) (.int 100)) (by decide +kernel)
      · exact hs (.eq (.elem (.field (.string RX5 66) "java/lang/String" "value" "[B") (.int 1)) (.int 107)) (by decide +kernel)
      · exact hs (.eq (.elem (.field (.string RX5 66) "java/lang/String" "value" "[B") (.int 2)) (.int 118)) (by decide +kernel)
      · exact hs (.eq (.elem (.field (.string RX5 66) "java/lang/String" "value" "[B") (.int 3)) (.int 100)) (by decide +kernel)
      · exact hs (.eq (.elem (.field (.string RX5 66) "java/lang/String" "value" "[B") (.int 4)) (.int 110)) (by decide +kernel)
      ) (fun j hj => by
      have hj : j < 2 := hj
      rcases (show j = 0 ∨ j = 1 by omega) with rfl | rfl
      · exact hs (.eq (.elem (.field (.string RX5 68) "java/lang/String" "value" "[B") (.int 0)) (.int 100)) (by decide +kernel)
      · exact hs (.eq (.elem (.field (.string RX5 68) "java/lang/String" "value" "[B") (.int 1)) (.int 110)) (by decide +kernel)
      ) (fun j hj => by
      have hj : j < 2 := hj
      rcases (show j = 0 ∨ j = 1 by omega) with rfl | rfl
      · exact hs (.eq (.elem (.field (.string RX5 70) "java/lang/String" "value" "[B") (.int 0)) (.int 101)) (by decide +kernel)
      · exact hs (.eq (.elem (.field (.string RX5 70) "java/lang/String" "value" "[B") (.int 1)) (.int 110)) (by decide +kernel)
      ) (fun j hj => by
      have hj : j < 3 := hj
      rcases (show j = 0 ∨ j = 1 ∨ j = 2 by omega) with rfl | rfl | rfl
      · exact hs (.eq (.elem (.field (.string RX5 72) "java/lang/String" "value" "[B") (.int 0)) (.int 112)) (by decide +kernel)
      · exact hs (.eq (.elem (.field (.string RX5 72) "java/lang/String" "value" "[B") (.int 1)) (.int 113)) (by decide +kernel)
      · exact hs (.eq (.elem (.field (.string RX5 72) "java/lang/String" "value" "[B") (.int 2)) (.int 111)) (by decide +kernel)
      ))
    (fun i j hi => four (Q := fun i => ∀ j : Nat, j < 4 → i ≠ j → (Cond.not (Cond.eq (.string RX5 (66 + 2 * i)) (.string RX5 (66 + 2 * j)))).before #[Value.ref b] s = true ∨ (Cond.not (Cond.eq (.string RX5 (66 + 2 * j)) (.string RX5 (66 + 2 * i)))).before #[Value.ref b] s = true) (fun j hj hij => by
      rcases (show j = 0 ∨ j = 1 ∨ j = 2 ∨ j = 3 by omega) with rfl | rfl | rfl | rfl
      · exact absurd rfl hij
      · exact Or.inl (hs (.not (.eq (.string RX5 66) (.string RX5 68))) (by decide +kernel))
      · exact Or.inl (hs (.not (.eq (.string RX5 66) (.string RX5 70))) (by decide +kernel))
      · exact Or.inl (hs (.not (.eq (.string RX5 66) (.string RX5 72))) (by decide +kernel))
      ) (fun j hj hij => by
      rcases (show j = 0 ∨ j = 1 ∨ j = 2 ∨ j = 3 by omega) with rfl | rfl | rfl | rfl
      · exact Or.inr (hs (.not (.eq (.string RX5 66) (.string RX5 68))) (by decide +kernel))
      · exact absurd rfl hij
      · exact Or.inl (hs (.not (.eq (.string RX5 68) (.string RX5 70))) (by decide +kernel))
      · exact Or.inl (hs (.not (.eq (.string RX5 68) (.string RX5 72))) (by decide +kernel))
      ) (fun j hj hij => by
      rcases (show j = 0 ∨ j = 1 ∨ j = 2 ∨ j = 3 by omega) with rfl | rfl | rfl | rfl
      · exact Or.inr (hs (.not (.eq (.string RX5 66) (.string RX5 70))) (by decide +kernel))
      · exact Or.inr (hs (.not (.eq (.string RX5 68) (.string RX5 70))) (by decide +kernel))
      · exact absurd rfl hij
      · exact Or.inl (hs (.not (.eq (.string RX5 70) (.string RX5 72))) (by decide +kernel))
      ) (fun j hj hij => by
      rcases (show j = 0 ∨ j = 1 ∨ j = 2 ∨ j = 3 by omega) with rfl | rfl | rfl | rfl
      · exact Or.inr (hs (.not (.eq (.string RX5 66) (.string RX5 72))) (by decide +kernel))
      · exact Or.inr (hs (.not (.eq (.string RX5 68) (.string RX5 72))) (by decide +kernel))
      · exact Or.inr (hs (.not (.eq (.string RX5 70) (.string RX5 72))) (by decide +kernel))
      · exact absurd rfl hij
      ) i hi j) hA
  exact ⟨adK, adV, hV, ⟨vk_R.of (hts0 (.stringRef RX5 66 "dkvdn") (by decide +kernel)) (hE 0 (by omega)), vk_R.of (hts0 (.stringRef RX5 68 "dn") (by decide +kernel)) (hE 1 (by omega)), vk_R.of (hts0 (.stringRef RX5 70 "en") (by decide +kernel)) (hE 2 (by omega)), vk_R.of (hts0 (.stringRef RX5 72 "pqo") (by decide +kernel)) (hE 3 (by omega))⟩, va_Zof (hts0 (.laysStatic "java/lang/String" "COMPACT_STRINGS" "Z") (by decide +kernel)) (hts0 (.initialized "java/lang/String") (by decide +kernel)) (va_eqi (hs (.eq (.static "java/lang/String" "COMPACT_STRINGS" "Z") (.int 1)) (by decide +kernel))) hA, va_Zqof (hts0 (.laysStatic "jdk/internal/util/Preconditions" "SIOOBE_FORMATTER" "Ljava/util/function/BiFunction;") (by decide +kernel)) (hts0 (.initialized "jdk/internal/util/Preconditions") (by decide +kernel)) (hs (.isRef (.static "jdk/internal/util/Preconditions" "SIOOBE_FORMATTER" "Ljava/util/function/BiFunction;")) (by decide +kernel)) hA⟩
set_option maxRecDepth 20000 in
theorem start_K {s : State} {b : Nat} (hts0 : ∀ w ∈ lw_tbl, w.before #[Value.ref b] s = true) : ∃ (D : va_G) (cI cZ cO : ClassId), KX D (tysG cI cZ cO) s ∧ va_AO RX3 s := by
  obtain ⟨c0, i0, hKn0⟩ := u_known (C := RX0) (T := TX0) (N := 3) (n := 3) hts0 linX0 (hts0 (.instantiable RX0 3) (by decide +kernel))
  obtain ⟨c1, i1, hKn1⟩ := u_known (C := RX1) (T := TX1) (N := 4) (n := 4) hts0 linX1 (hts0 (.instantiable RX1 4) (by decide +kernel))
  obtain ⟨c2, i2, hKn2⟩ := u_known (C := RX2) (T := TX2) (N := 3) (n := 3) hts0 linX2 (hts0 (.instantiable RX2 3) (by decide +kernel))
  obtain ⟨c3, i3, hKn3⟩ := u_known (C := RX3) (T := TX3) (N := 3) (n := 3) hts0 linX3 (hts0 (.instantiable RX3 3) (by decide +kernel))
  obtain ⟨c4, i4, hKn4⟩ := u_known (C := RX4) (T := TX4) (N := 2) (n := 2) hts0 linX4 (hts0 (.instantiable RX4 2) (by decide +kernel))
  obtain ⟨c5, i5, hKn5⟩ := u_known (C := RX5) (T := TX5) (N := 2) (n := 2) hts0 linX5 (hts0 (.instantiable RX5 2) (by decide +kernel))
  obtain ⟨c6, i6, hKn6⟩ := u_known (C := RX6) (T := TX6) (N := 10) (n := 10) hts0 linX6 (hts0 (.instantiable RX6 10) (by decide +kernel))
  obtain ⟨c7, i7, hKn7⟩ := u_known (C := RX7) (T := TX7) (N := 34) (n := 34) hts0 linX7 (hts0 (.instantiable RX7 34) (by decide +kernel))
  obtain ⟨cI, kI, mI, a1, a2, a3⟩ := Cond.arrayClass_spec (args := #[Value.ref b]) (first := s) (o := none) (s := s) (idx := []) (hts0 (.arrayClass .int) (by decide +kernel))
  obtain ⟨cZ, kZ, mZ, b1, b2, b3⟩ := Cond.arrayClass_spec (args := #[Value.ref b]) (first := s) (o := none) (s := s) (idx := []) (hts0 (.arrayClass .boolean) (by decide +kernel))
  have hO : (Cond.arrayOver (.object RX3)).before #[Value.ref b] s = true := hts0 (.arrayOver (.object RX3)) (by decide +kernel)
  obtain ⟨mO, cO, kO, d1, d2, d3, d4, d5⟩ := Cond.arrayOver_spec (args := #[Value.ref b]) (first := s) (o := none) (s := s) (idx := []) hO
  refine ⟨(fun k => match k with | 0 => c0 | 1 => c1 | 2 => c2 | 3 => c3 | 4 => c4 | 5 => c5 | 6 => c6 | _ => c7, fun k => match k with | 0 => i0 | 1 => i1 | 2 => i2 | 3 => i3 | 4 => i4 | 5 => i5 | 6 => i6 | _ => i7), cI, cZ, cO, ⟨⟨?_, ?_⟩, va_Nw.of rfl (hts0 (.fieldLinkNest RX6 96 RX3 "place" "I" RX6) (by decide +kernel)), va_Nw.of rfl (hts0 (.fieldLinkNest RX6 102 RX3 "voided" "I" RX6) (by decide +kernel))⟩, va_AO.of hO⟩
  · intro k q hq
    match k, hq with
    | 0, hq => cases hq; exact hKn0
    | 1, hq => cases hq; exact hKn1
    | 2, hq => cases hq; exact hKn2
    | 3, hq => cases hq; exact hKn3
    | 4, hq => cases hq; exact hKn4
    | 5, hq => cases hq; exact hKn5
    | 6, hq => cases hq; exact hKn6
    | 7, hq => cases hq; exact hKn7
    | k + 8, hq => simp [vwCl] at hq
  · intro k q hq
    match k, hq with
    | 0, hq => cases hq; exact ⟨fun n z => ⟨fun k h => (by cases h), kI, a2, mI, a3⟩, a1⟩
    | 1, hq => cases hq; exact ⟨fun n z => ⟨fun k h => (by cases h), kZ, b2, mZ, b3⟩, b1⟩
    | 2, hq => cases hq; exact ⟨fun n z => ⟨fun k h => (by cases h), kO, d3, mO, d4⟩, ⟨kO, mO, d3, d4, d1, d5⟩⟩
    | k + 3, hq => simp [tysG] at hq
