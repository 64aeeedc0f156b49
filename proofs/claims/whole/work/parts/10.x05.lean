def f_X0_size (v_t_size : Int32) : Int32 :=
  v_t_size
set_option maxHeartbeats 4000000 in
set_option maxRecDepth 100000 in
theorem c_X0_size (l : Launch) (D : va_G) (cI cZ cO : ClassId) (a_t : Nat) (a_t_kinds : Nat) (a_t_numbers : Nat) (v_t_size : Int32) (hp0 : 0 ≤ v_t_size) (hp1 : v_t_size ≤ 14) : Met l yX0_size wsX0_size ({ frames := 0, cells := 0, slots := 0, locals := 0 }) (PcP D (tysG cI cZ cO) [.ref a_t] [(a_t, .inr (0, [.ref a_t_kinds, .ref a_t_numbers, .int v_t_size]))]) (QP (.int (f_X0_size v_t_size))) 0 0 (fun _ => False) := by
  refine Met.ofW (cc := cX0_size) (maxL := 1) (ret := (some .int)) (by decide) rfl ?_
  intro p e s m args below meth c s₁ B hml hv
  obtain ⟨rfl, hP, hKX⟩ := hv
  have hx := B.exec
  have hb := B.bytes
  have hr := B.returns
  have hts := atoms_spec (ws := wsX0_size) B.pre
  have hown : s.vm.findClass RX0 = some m.cls := findClass_of_methodNamed B.named
  have hlocks := B.notSynchronized
  have hK := hKX.1
  have hwX0 : ∀ w ∈ wsX00, w ∈ wsX0_size := by decide +kernel
  have hl := lv_entry ([.ref a_t]) (n := 1) (Nat.le_of_ble_eq_true rfl)
  rw [lg_entry_eq]
  generalize (lg_sl ([.ref a_t]) ++ List.replicate (1 - (lg_sl ([.ref a_t])).length) Slot.unset).toArray = ls at hl ⊢
  have hl : lv_has ls 1 [(0, .ref a_t)] := hl
  have hf := f_X0_size.eq_1 v_t_size
  refine lv_aload_n hx hb dX0_size_0 rfl (lv_at hl 0 rfl) ?_
  refine va_get (D := D) (ci := 0) (v := .int v_t_size) (C := RX0) (T := TX0) (N := 3) hx hb hts hwX0 hown hK hP 0 rfl rfl 2 (by decide) (hts (.fieldLink RX0 18 "SkippedDay$Acts" "size" "I") (by decide +kernel)) (fun _ h9 => h9) rfl dX0_size_1 ?_
  exact W.iret (v := v_t_size) hx hb hr (fun t ht hW => ⟨congrArg (fun z => Outcome.returned (some (Value.int z))) hf.symm, ht⟩) (fun _ h => absurd h List.not_mem_nil) dX0_size_4

def f_X0_clear  : Int32 :=
  0
/- post0@5 -/ theorem s_X0_clear_1  : 0 ≤ (0 : Int32) := by grind
/- post1@5 -/ theorem s_X0_clear_2  : (0 : Int32) ≤ 14 := by grind
set_option maxHeartbeats 4000000 in
set_option maxRecDepth 100000 in
theorem c_X0_clear (l : Launch) (D : va_G) (cI cZ cO : ClassId) (a_t : Nat) (a_t_kinds : Nat) (a_t_numbers : Nat) (v_t_size : Int32) (sz : Nat) (hp0 : 0 ≤ v_t_size) (hp1 : v_t_size ≤ 14) : Met l yX0_clear wsX0_clear ({ frames := 0, cells := 0, slots := 0, locals := 0 }) (PcM D (tysG cI cZ cO) [.ref a_t] sz [(a_t, .inr (0, [.ref a_t_kinds, .ref a_t_numbers, .int v_t_size]))]) (va_Qv (fun u : Int32 => u = f_X0_clear ∧ (0 ≤ u) ∧ (u ≤ 14)) (BM D (va_A [(a_t, .inr (0, [.ref a_t_kinds, .ref a_t_numbers, .int v_t_size]))] sz) (fun u : Int32 => [(a_t, .inr (0, [.ref a_t_kinds, .ref a_t_numbers, .int u]))])) (va_A [(a_t, .inr (0, [.ref a_t_kinds, .ref a_t_numbers, .int v_t_size]))] sz)) 0 0 (va_A [(a_t, .inr (0, [.ref a_t_kinds, .ref a_t_numbers, .int v_t_size]))] sz) := by
  refine Met.ofW (cc := cX0_clear) (maxL := 1) (ret := none) (by decide) rfl ?_
  intro p e s m args below meth c s₁ B hml hv
  obtain ⟨rfl, hsz, hP, hKX, hD0⟩ := hv
  have hx := B.exec
  have hb := B.bytes
  have hr := B.returns
  have hts := atoms_spec (ws := wsX0_clear) B.pre
  have hown : s.vm.findClass RX0 = some m.cls := findClass_of_methodNamed B.named
  have hlocks := B.notSynchronized
  have hK := hKX.1
  have hwX0 : ∀ w ∈ wsX00, w ∈ wsX0_clear := by decide +kernel
  subst hsz
  have hD := hD0.self (sz := s.heap.size)
  generalize hAe : va_A [(a_t, .inr (0, [.ref a_t_kinds, .ref a_t_numbers, .int v_t_size]))] s.heap.size = A at hD ⊢
  have hA : ∀ q : Nat, s.heap.size ≤ q → A q := fun q h => by rw [← hAe]; exact Or.inr h
  have hS : va_S A s.heap s.heap [] := va_S.rf
  have hP : va_P D vwCl [(a_t, .inr (0, [.ref a_t_kinds, .ref a_t_numbers, .int v_t_size]))] s.heap := hP
  have hl := lv_entry ([.ref a_t]) (n := 1) (Nat.le_of_ble_eq_true rfl)
  rw [lg_entry_eq]
  generalize (lg_sl ([.ref a_t]) ++ List.replicate (1 - (lg_sl ([.ref a_t])).length) Slot.unset).toArray = ls at hl ⊢
  have hl : lv_has ls 1 [(0, .ref a_t)] := hl
  have hf := f_X0_clear.eq_1
  refine lv_aload_n hx hb dX0_clear_0 rfl (lv_at hl 0 rfl) ?_
  refine lv_iconst (v := 0) hx hb dX0_clear_1 (by decide) ?_
  refine va_put (D := D) (ci := 0) (v := .int 0) (ty := .int) (C := RX0) (T := TX0) (N := 3) hx hb hts hwX0 tyX0 tyX0_ok nmX0 hown hK hP hD hS 0 rfl rfl 2 (by decide) (hts (.fieldLink RX0 18 "SkippedDay$Acts" "size" "I") (by decide +kernel)) (fun _ h9 => h9) rfl (by decide +kernel) rfl rfl (Nat.le_of_ble_eq_true rfl) dX0_clear_2 (fun H locs hP hD hS => ?_)
  have hP : va_P D vwCl [(a_t, .inr (0, [.ref a_t_kinds, .ref a_t_numbers, .int 0]))] H := hP
  have hD : va_D A [(a_t, .inr (0, [.ref a_t_kinds, .ref a_t_numbers, .int 0]))] := hD
  exact W.vret hx hb hr (fun t ht hW => ⟨⟨(0), rfl, ⟨hf.symm, s_X0_clear_1, s_X0_clear_2⟩, by rw [ht]; exact hP.sub [0] rfl, hD.sub [0] (by decide) rfl⟩, hS.F ht⟩) hS.2.2 dX0_clear_5

def f_X0_forgetFirst_b2 (k2 : Int32 → (Nat → Int32) → (Nat → Int32) → Int32 × (Nat → Int32) × (Nat → Int32)) (x2_1 : Int32) (w2_t_kinds : Nat → Int32) (w2_t_numbers : Nat → Int32) : Int32 × (Nat → Int32) × (Nat → Int32) :=
  if 14 ≤ x2_1 then (13, w2_t_kinds, w2_t_numbers) else k2 (x2_1 + 1) (upd w2_t_kinds (x2_1 - 1).toNatClampNeg (w2_t_kinds x2_1.toNatClampNeg)) (upd w2_t_numbers (x2_1 - 1).toNatClampNeg (w2_t_numbers x2_1.toNatClampNeg))
def f_X0_forgetFirst (f_t_kinds : Nat → Int32) (f_t_numbers : Nat → Int32) : Int32 × (Nat → Int32) × (Nat → Int32) :=
  it3 f_X0_forgetFirst_b2 default (((14 : Int32).toInt - (1 : Int32).toInt).toNat + 1) 1 f_t_kinds f_t_numbers
/- post0@48 -/ theorem s_X0_forgetFirst_1  : (13 : Int32) = 13 := by grind
/- post1@48 -/ theorem s_X0_forgetFirst_2  : 0 ≤ (13 : Int32) := by grind
/- post2@48 -/ theorem s_X0_forgetFirst_3  : (13 : Int32) ≤ 14 := by grind
/- in@20 -/ theorem s_X0_forgetFirst_4 (x2_1 : Int32) (hi2_0 : 1 ≤ x2_1) (c_5 : ¬ 14 ≤ x2_1) : vp_in x2_1 14 := vin (k := 14) (by grind) (by grind) (by decide)
/- in@21 -/ theorem s_X0_forgetFirst_5 (x2_1 : Int32) (hi2_0 : 1 ≤ x2_1) (c_5 : ¬ 14 ≤ x2_1) : vp_in (x2_1 - 1) 14 := vin (k := 14) (by grind) (by grind) (by decide)
/- in@34 -/ theorem s_X0_forgetFirst_6 (x2_1 : Int32) (hi2_0 : 1 ≤ x2_1) (c_5 : ¬ 14 ≤ x2_1) : vp_in x2_1 14 := vin (k := 14) (by grind) (by grind) (by decide)
/- in@35 -/ theorem s_X0_forgetFirst_7 (x2_1 : Int32) (hi2_0 : 1 ≤ x2_1) (c_5 : ¬ 14 ≤ x2_1) : vp_in (x2_1 - 1) 14 := vin (k := 14) (by grind) (by grind) (by decide)
/- inv0@39>2 -/ theorem s_X0_forgetFirst_8 (x2_1 : Int32) (hi2_0 : 1 ≤ x2_1) (c_5 : ¬ 14 ≤ x2_1) : 1 ≤ (x2_1 + 1) := by grind
/- inv0@1>2 -/ theorem s_X0_forgetFirst_9  : 1 ≤ (1 : Int32) := by grind
set_option maxHeartbeats 4000000 in
set_option maxRecDepth 100000 in
theorem c_X0_forgetFirst (l : Launch) (D : va_G) (cI cZ cO : ClassId) (a_t : Nat) (a_t_kinds : Nat) (a_t_numbers : Nat) (v_t_size : Int32) (f_t_kinds : Nat → Int32) (f_t_numbers : Nat → Int32) (sz : Nat) (hp0 : 0 ≤ v_t_size) (hp1 : v_t_size ≤ 14) : Met l yX0_forgetFirst wsX0_forgetFirst ({ frames := 0, cells := 0, slots := 0, locals := 0 }) (PcM D (tysG cI cZ cO) [.ref a_t] sz [(a_t, .inr (0, [.ref a_t_kinds, .ref a_t_numbers, .int v_t_size])), (a_t_kinds, .inl (cI, 14, .inl f_t_kinds)), (a_t_numbers, .inl (cI, 14, .inl f_t_numbers))]) (va_Qv (fun u : Int32 × (Nat → Int32) × (Nat → Int32) => u = f_X0_forgetFirst f_t_kinds f_t_numbers ∧ (u.1 = 13) ∧ (0 ≤ u.1) ∧ (u.1 ≤ 14)) (BM D (va_A [(a_t, .inr (0, [.ref a_t_kinds, .ref a_t_numbers, .int v_t_size])), (a_t_kinds, .inl (cI, 14, .inl f_t_kinds)), (a_t_numbers, .inl (cI, 14, .inl f_t_numbers))] sz) (fun u : Int32 × (Nat → Int32) × (Nat → Int32) => [(a_t, .inr (0, [.ref a_t_kinds, .ref a_t_numbers, .int u.1])), (a_t_kinds, .inl (cI, 14, .inl u.2.1)), (a_t_numbers, .inl (cI, 14, .inl u.2.2))])) (va_A [(a_t, .inr (0, [.ref a_t_kinds, .ref a_t_numbers, .int v_t_size])), (a_t_kinds, .inl (cI, 14, .inl f_t_kinds)), (a_t_numbers, .inl (cI, 14, .inl f_t_numbers))] sz)) 0 0 (va_A [(a_t, .inr (0, [.ref a_t_kinds, .ref a_t_numbers, .int v_t_size])), (a_t_kinds, .inl (cI, 14, .inl f_t_kinds)), (a_t_numbers, .inl (cI, 14, .inl f_t_numbers))] sz) := by
  refine Met.ofW (cc := cX0_forgetFirst) (maxL := 2) (ret := none) (by decide) rfl ?_
  intro p e s m args below meth c s₁ B hml hv
  obtain ⟨rfl, hsz, hP, hKX, hD0⟩ := hv
  have hx := B.exec
  have hb := B.bytes
  have hr := B.returns
  have hts := atoms_spec (ws := wsX0_forgetFirst) B.pre
  have hown : s.vm.findClass RX0 = some m.cls := findClass_of_methodNamed B.named
  have hlocks := B.notSynchronized
  have hK := hKX.1
  have hwX0 : ∀ w ∈ wsX00, w ∈ wsX0_forgetFirst := by decide +kernel
  subst hsz
  have hD := hD0.self (sz := s.heap.size)
  generalize hAe : va_A [(a_t, .inr (0, [.ref a_t_kinds, .ref a_t_numbers, .int v_t_size])), (a_t_kinds, .inl (cI, 14, .inl f_t_kinds)), (a_t_numbers, .inl (cI, 14, .inl f_t_numbers))] s.heap.size = A at hD ⊢
  have hA : ∀ q : Nat, s.heap.size ≤ q → A q := fun q h => by rw [← hAe]; exact Or.inr h
  have hS : va_S A s.heap s.heap [] := va_S.rf
  have hP : va_P D vwCl [(a_t, .inr (0, [.ref a_t_kinds, .ref a_t_numbers, .int v_t_size])), (a_t_kinds, .inl (cI, 14, .inl f_t_kinds)), (a_t_numbers, .inl (cI, 14, .inl f_t_numbers))] s.heap := hP
  have hl := lv_entry ([.ref a_t]) (n := 2) (Nat.le_of_ble_eq_true rfl)
  rw [lg_entry_eq]
  generalize (lg_sl ([.ref a_t]) ++ List.replicate (2 - (lg_sl ([.ref a_t])).length) Slot.unset).toArray = ls at hl ⊢
  have hl : lv_has ls 2 [(0, .ref a_t)] := hl
  have hf := f_X0_forgetFirst.eq_1 f_t_kinds f_t_numbers
  refine lv_iconst (v := 1) hx hb dX0_forgetFirst_0 (by decide) ?_
  refine lv_istore_n (lv' := [(1, .int 1), (0, .ref a_t)]) hx hb dX0_forgetFirst_1 rfl hl (by decide) rfl (fun ls hl => ?_)
  have hJ_2 : ∀ (n2 : Nat) (x2_1 : Int32) (w2_t_kinds : Nat → Int32) (w2_t_numbers : Nat → Int32), f_X0_forgetFirst f_t_kinds f_t_numbers = it3 f_X0_forgetFirst_b2 default n2 x2_1 w2_t_kinds w2_t_numbers → ((14 : Int32).toInt - x2_1.toInt).toNat < n2 → (1 ≤ x2_1) → ∀ (H : Heap) (locs : List Loc), va_P D vwCl [(a_t, .inr (0, [.ref a_t_kinds, .ref a_t_numbers, .int v_t_size])), (a_t_kinds, .inl (cI, 14, .inl w2_t_kinds)), (a_t_numbers, .inl (cI, 14, .inl w2_t_numbers))] H → va_D A [(a_t, .inr (0, [.ref a_t_kinds, .ref a_t_numbers, .int v_t_size])), (a_t_kinds, .inl (cI, 14, .inl w2_t_kinds)), (a_t_numbers, .inl (cI, 14, .inl w2_t_numbers))] → va_S A s.heap H locs → ∀ (ls : Array Slot), lv_has ls 2 [(0, .ref a_t), (1, .int x2_1)] → W p l e (headSpec wsX0_forgetFirst { frames := 0, cells := 0, slots := 0, locals := 0 }).room s m [.ref a_t].toArray below meth c H locs 0 0 (MQ below (va_Qv (fun u : Int32 × (Nat → Int32) × (Nat → Int32) => u = f_X0_forgetFirst f_t_kinds f_t_numbers ∧ (u.1 = 13) ∧ (0 ≤ u.1) ∧ (u.1 ≤ 14)) (BM D A (fun u : Int32 × (Nat → Int32) × (Nat → Int32) => [(a_t, .inr (0, [.ref a_t_kinds, .ref a_t_numbers, .int u.1])), (a_t_kinds, .inl (cI, 14, .inl u.2.1)), (a_t_numbers, .inl (cI, 14, .inl u.2.2))])) A) [.ref a_t].toArray s 0 0 A) (F0 m 2 ls []) := by
    intro n2
    induction n2 with
    | zero => intro x2_1 w2_t_kinds w2_t_numbers hf hm2; exact absurd hm2 (Nat.not_lt_zero _)
    | succ n2 ih2 =>
      intro x2_1 w2_t_kinds w2_t_numbers hf hm2 hi2_0 H locs hP hD hS ls hl
      replace hf := (hf.trans (it3_s _ _ _ _ _ _)).trans (f_X0_forgetFirst_b2.eq_1 _ _ _ _)
      refine lv_iload_n hx hb dX0_forgetFirst_2 rfl (lv_at hl 1 rfl) ?_
      refine lv_bipush (v := 14) hx hb dX0_forgetFirst_3 (by decide) ?_
      refine lv_icmp_ge (tgt := 42) hx hb dX0_forgetFirst_5 (by decide) (fun c_5 => ?_) (fun c_5 => ?_)
      · replace hf := hf.trans (if_pos c_5)
        refine lv_aload_n hx hb dX0_forgetFirst_42 rfl (lv_at hl 0 rfl) ?_
        refine lv_bipush (v := 13) hx hb dX0_forgetFirst_43 (by decide) ?_
        refine va_put (D := D) (ci := 0) (v := .int 13) (ty := .int) (C := RX0) (T := TX0) (N := 3) hx hb hts hwX0 tyX0 tyX0_ok nmX0 hown hK hP hD hS 0 rfl rfl 2 (by decide) (hts (.fieldLink RX0 18 "SkippedDay$Acts" "size" "I") (by decide +kernel)) (fun _ h9 => h9) rfl (by decide +kernel) rfl rfl (Nat.le_of_ble_eq_true rfl) dX0_forgetFirst_45 (fun H locs hP hD hS => ?_)
        have hP : va_P D vwCl [(a_t, .inr (0, [.ref a_t_kinds, .ref a_t_numbers, .int 13])), (a_t_kinds, .inl (cI, 14, .inl w2_t_kinds)), (a_t_numbers, .inl (cI, 14, .inl w2_t_numbers))] H := hP
        have hD : va_D A [(a_t, .inr (0, [.ref a_t_kinds, .ref a_t_numbers, .int 13])), (a_t_kinds, .inl (cI, 14, .inl w2_t_kinds)), (a_t_numbers, .inl (cI, 14, .inl w2_t_numbers))] := hD
        exact W.vret hx hb hr (fun t ht hW => ⟨⟨(13, w2_t_kinds, w2_t_numbers), rfl, ⟨hf.symm, s_X0_forgetFirst_1, s_X0_forgetFirst_2, s_X0_forgetFirst_3⟩, by rw [ht]; exact hP.sub [0, 1, 2] rfl, hD.sub [0, 1, 2] (by decide) rfl⟩, hS.F ht⟩) hS.2.2 dX0_forgetFirst_48
      · replace hf := hf.trans (if_neg c_5)
        refine lv_aload_n hx hb dX0_forgetFirst_8 rfl (lv_at hl 0 rfl) ?_
        refine va_get (D := D) (ci := 0) (v := .ref a_t_kinds) (C := RX0) (T := TX0) (N := 3) hx hb hts hwX0 hown hK hP 0 rfl rfl 0 (by decide) (hts (.fieldLink RX0 11 "SkippedDay$Acts" "kinds" "[I") (by decide +kernel)) (fun _ h9 => h9) rfl dX0_forgetFirst_9 ?_
        refine lv_iload_n hx hb dX0_forgetFirst_12 rfl (lv_at hl 1 rfl) ?_
        refine lv_iconst (v := 1) hx hb dX0_forgetFirst_13 (by decide) ?_
        refine lv_isub hx hb dX0_forgetFirst_14 ?_
        refine lv_aload_n hx hb dX0_forgetFirst_15 rfl (lv_at hl 0 rfl) ?_
        refine va_get (D := D) (ci := 0) (v := .ref a_t_kinds) (C := RX0) (T := TX0) (N := 3) hx hb hts hwX0 hown hK hP 0 rfl rfl 0 (by decide) (hts (.fieldLink RX0 11 "SkippedDay$Acts" "kinds" "[I") (by decide +kernel)) (fun _ h9 => h9) rfl dX0_forgetFirst_16 ?_
        refine lv_iload_n hx hb dX0_forgetFirst_19 rfl (lv_at hl 1 rfl) ?_
        refine va_iald hx hb hK hP 1 0 rfl rfl (s_X0_forgetFirst_4 x2_1 hi2_0 c_5) dX0_forgetFirst_20 ?_
        refine va_iast hx hb hK hP hD hS 1 0 rfl rfl (s_X0_forgetFirst_5 x2_1 hi2_0 c_5) dX0_forgetFirst_21 (fun H locs hP hD hS => ?_)
        have hP : va_P D vwCl [(a_t, .inr (0, [.ref a_t_kinds, .ref a_t_numbers, .int v_t_size])), (a_t_kinds, .inl (cI, 14, .inl (upd w2_t_kinds (x2_1 - 1).toNatClampNeg (w2_t_kinds x2_1.toNatClampNeg)))), (a_t_numbers, .inl (cI, 14, .inl w2_t_numbers))] H := hP
        have hD : va_D A [(a_t, .inr (0, [.ref a_t_kinds, .ref a_t_numbers, .int v_t_size])), (a_t_kinds, .inl (cI, 14, .inl (upd w2_t_kinds (x2_1 - 1).toNatClampNeg (w2_t_kinds x2_1.toNatClampNeg)))), (a_t_numbers, .inl (cI, 14, .inl w2_t_numbers))] := hD
        refine lv_aload_n hx hb dX0_forgetFirst_22 rfl (lv_at hl 0 rfl) ?_
        refine va_get (D := D) (ci := 0) (v := .ref a_t_numbers) (C := RX0) (T := TX0) (N := 3) hx hb hts hwX0 hown hK hP 0 rfl rfl 1 (by decide) (hts (.fieldLink RX0 15 "SkippedDay$Acts" "numbers" "[I") (by decide +kernel)) (fun _ h9 => h9) rfl dX0_forgetFirst_23 ?_
        refine lv_iload_n hx hb dX0_forgetFirst_26 rfl (lv_at hl 1 rfl) ?_
        refine lv_iconst (v := 1) hx hb dX0_forgetFirst_27 (by decide) ?_
        refine lv_isub hx hb dX0_forgetFirst_28 ?_
        refine lv_aload_n hx hb dX0_forgetFirst_29 rfl (lv_at hl 0 rfl) ?_
        refine va_get (D := D) (ci := 0) (v := .ref a_t_numbers) (C := RX0) (T := TX0) (N := 3) hx hb hts hwX0 hown hK hP 0 rfl rfl 1 (by decide) (hts (.fieldLink RX0 15 "SkippedDay$Acts" "numbers" "[I") (by decide +kernel)) (fun _ h9 => h9) rfl dX0_forgetFirst_30 ?_
        refine lv_iload_n hx hb dX0_forgetFirst_33 rfl (lv_at hl 1 rfl) ?_
        refine va_iald hx hb hK hP 2 0 rfl rfl (s_X0_forgetFirst_6 x2_1 hi2_0 c_5) dX0_forgetFirst_34 ?_
        refine va_iast hx hb hK hP hD hS 2 0 rfl rfl (s_X0_forgetFirst_7 x2_1 hi2_0 c_5) dX0_forgetFirst_35 (fun H locs hP hD hS => ?_)
        have hP : va_P D vwCl [(a_t, .inr (0, [.ref a_t_kinds, .ref a_t_numbers, .int v_t_size])), (a_t_kinds, .inl (cI, 14, .inl (upd w2_t_kinds (x2_1 - 1).toNatClampNeg (w2_t_kinds x2_1.toNatClampNeg)))), (a_t_numbers, .inl (cI, 14, .inl (upd w2_t_numbers (x2_1 - 1).toNatClampNeg (w2_t_numbers x2_1.toNatClampNeg))))] H := hP
        have hD : va_D A [(a_t, .inr (0, [.ref a_t_kinds, .ref a_t_numbers, .int v_t_size])), (a_t_kinds, .inl (cI, 14, .inl (upd w2_t_kinds (x2_1 - 1).toNatClampNeg (w2_t_kinds x2_1.toNatClampNeg)))), (a_t_numbers, .inl (cI, 14, .inl (upd w2_t_numbers (x2_1 - 1).toNatClampNeg (w2_t_numbers x2_1.toNatClampNeg))))] := hD
        refine lv_iinc (v := x2_1 + 1) (lv' := [(1, .int (x2_1 + 1)), (0, .ref a_t)]) hx hb dX0_forgetFirst_36 hl (k := 1) rfl rfl (by decide) rfl (fun ls hl => ?_)
        refine lv_goto (tgt := 2) hx hb dX0_forgetFirst_39 (by decide) ?_
        exact ih2 (x2_1 + 1) (upd w2_t_kinds (x2_1 - 1).toNatClampNeg (w2_t_kinds x2_1.toNatClampNeg)) (upd w2_t_numbers (x2_1 - 1).toNatClampNeg (w2_t_numbers x2_1.toNatClampNeg)) hf (mu_up c_5 hm2) (s_X0_forgetFirst_8 x2_1 hi2_0 c_5) _ _ (hP.sub [0, 1, 2] rfl) (hD.sub [0, 1, 2] (by decide) rfl) hS _ (lv_sub hl [1, 0] rfl)
  exact hJ_2 _ 1 f_t_kinds f_t_numbers hf (Nat.lt_succ_self _) s_X0_forgetFirst_9 _ _ (hP.sub [0, 1, 2] rfl) (hD.sub [0, 1, 2] (by decide) rfl) hS _ (lv_sub hl [1, 0] rfl)

def f_X0_add_j13 (x1 : Int32) (x2 : Int32) (w13_t_size : Int32) (w13_t_kinds : Nat → Int32) (w13_t_numbers : Nat → Int32) : Int32 × (Nat → Int32) × (Nat → Int32) :=
  (w13_t_size + 1, upd w13_t_kinds w13_t_size.toNatClampNeg x1, upd w13_t_numbers w13_t_size.toNatClampNeg x2)
def f_X0_add (v_t_size : Int32) (f_t_kinds : Nat → Int32) (f_t_numbers : Nat → Int32) (x1 : Int32) (x2 : Int32) : Int32 × (Nat → Int32) × (Nat → Int32) :=
  if v_t_size < 14 then f_X0_add_j13 x1 x2 v_t_size f_t_kinds f_t_numbers else ap3 (f_X0_forgetFirst f_t_kinds f_t_numbers) (fun u10_t_size u10_t_kinds u10_t_numbers => f_X0_add_j13 x1 x2 u10_t_size u10_t_kinds u10_t_numbers)
/- in@22 -/ theorem s_X0_add_1 (w13_t_size : Int32) (hi13_0 : 0 ≤ w13_t_size) (hi13_1 : w13_t_size < 14) : vp_in w13_t_size 14 := vin (k := 14) (by grind) (by grind) (by decide)
/- in@32 -/ theorem s_X0_add_2 (w13_t_size : Int32) (hi13_0 : 0 ≤ w13_t_size) (hi13_1 : w13_t_size < 14) : vp_in w13_t_size 14 := vin (k := 14) (by grind) (by grind) (by decide)
/- post0@43 -/ theorem s_X0_add_3 (w13_t_size : Int32) (hi13_0 : 0 ≤ w13_t_size) (hi13_1 : w13_t_size < 14) : 0 ≤ (w13_t_size + 1) := by grind
/- post1@43 -/ theorem s_X0_add_4 (w13_t_size : Int32) (hi13_0 : 0 ≤ w13_t_size) (hi13_1 : w13_t_size < 14) : (w13_t_size + 1) ≤ 14 := by grind
/- inv0@6>13 -/ theorem s_X0_add_5 (v_t_size : Int32) (hp0 : 0 ≤ v_t_size) (hp1 : v_t_size ≤ 14) (c_6 : v_t_size < 14) : 0 ≤ v_t_size := by grind
/- inv1@6>13 -/ theorem s_X0_add_6 (v_t_size : Int32) (hp0 : 0 ≤ v_t_size) (hp1 : v_t_size ≤ 14) (c_6 : v_t_size < 14) : v_t_size < 14 := by grind
/- hp0@10 -/ theorem s_X0_add_7 (v_t_size : Int32) (hp0 : 0 ≤ v_t_size) (hp1 : v_t_size ≤ 14) (c_6 : ¬ v_t_size < 14) : 0 ≤ v_t_size := by grind
/- hp1@10 -/ theorem s_X0_add_8 (v_t_size : Int32) (hp0 : 0 ≤ v_t_size) (hp1 : v_t_size ≤ 14) (c_6 : ¬ v_t_size < 14) : v_t_size ≤ 14 := by grind
/- inv0@10>13 -/ theorem s_X0_add_9 (u10_t_size : Int32) (hq10_0 : u10_t_size = 13) (hq10_1 : 0 ≤ u10_t_size) (hq10_2 : u10_t_size ≤ 14) : 0 ≤ u10_t_size := by grind
/- inv1@10>13 -/ theorem s_X0_add_10 (u10_t_size : Int32) (hq10_0 : u10_t_size = 13) (hq10_1 : 0 ≤ u10_t_size) (hq10_2 : u10_t_size ≤ 14) : u10_t_size < 14 := by grind
set_option maxHeartbeats 4000000 in
set_option maxRecDepth 100000 in
theorem c_X0_add (l : Launch) (D : va_G) (cI cZ cO : ClassId) (a_t : Nat) (a_t_kinds : Nat) (a_t_numbers : Nat) (v_t_size : Int32) (f_t_kinds : Nat → Int32) (f_t_numbers : Nat → Int32) (x1 : Int32) (x2 : Int32) (sz : Nat) (hp0 : 0 ≤ v_t_size) (hp1 : v_t_size ≤ 14) : Met l yX0_add wsX0_add ({ frames := 1, cells := 0, slots := 0, locals := 21 }) (PcM D (tysG cI cZ cO) [.ref a_t, .int x1, .int x2] sz [(a_t, .inr (0, [.ref a_t_kinds, .ref a_t_numbers, .int v_t_size])), (a_t_kinds, .inl (cI, 14, .inl f_t_kinds)), (a_t_numbers, .inl (cI, 14, .inl f_t_numbers))]) (va_Qv (fun u : Int32 × (Nat → Int32) × (Nat → Int32) => u = f_X0_add v_t_size f_t_kinds f_t_numbers x1 x2 ∧ (0 ≤ u.1) ∧ (u.1 ≤ 14)) (BM D (va_A [(a_t, .inr (0, [.ref a_t_kinds, .ref a_t_numbers, .int v_t_size])), (a_t_kinds, .inl (cI, 14, .inl f_t_kinds)), (a_t_numbers, .inl (cI, 14, .inl f_t_numbers))] sz) (fun u : Int32 × (Nat → Int32) × (Nat → Int32) => [(a_t, .inr (0, [.ref a_t_kinds, .ref a_t_numbers, .int u.1])), (a_t_kinds, .inl (cI, 14, .inl u.2.1)), (a_t_numbers, .inl (cI, 14, .inl u.2.2))])) (va_A [(a_t, .inr (0, [.ref a_t_kinds, .ref a_t_numbers, .int v_t_size])), (a_t_kinds, .inl (cI, 14, .inl f_t_kinds)), (a_t_numbers, .inl (cI, 14, .inl f_t_numbers))] sz)) 0 0 (va_A [(a_t, .inr (0, [.ref a_t_kinds, .ref a_t_numbers, .int v_t_size])), (a_t_kinds, .inl (cI, 14, .inl f_t_kinds)), (a_t_numbers, .inl (cI, 14, .inl f_t_numbers))] sz) := by
  refine Met.ofW (cc := cX0_add) (maxL := 3) (ret := none) (by decide) rfl ?_
  intro p e s m args below meth c s₁ B hml hv
  obtain ⟨rfl, hsz, hP, hKX, hD0⟩ := hv
  have hx := B.exec
  have hb := B.bytes
  have hr := B.returns
  have hts := atoms_spec (ws := wsX0_add) B.pre
  have hown : s.vm.findClass RX0 = some m.cls := findClass_of_methodNamed B.named
  have hlocks := B.notSynchronized
  have hK := hKX.1
  have hwX0 : ∀ w ∈ wsX00, w ∈ wsX0_add := by decide +kernel
  subst hsz
  have hD := hD0.self (sz := s.heap.size)
  generalize hAe : va_A [(a_t, .inr (0, [.ref a_t_kinds, .ref a_t_numbers, .int v_t_size])), (a_t_kinds, .inl (cI, 14, .inl f_t_kinds)), (a_t_numbers, .inl (cI, 14, .inl f_t_numbers))] s.heap.size = A at hD ⊢
  have hA : ∀ q : Nat, s.heap.size ≤ q → A q := fun q h => by rw [← hAe]; exact Or.inr h
  have hS : va_S A s.heap s.heap [] := va_S.rf
  have hP : va_P D vwCl [(a_t, .inr (0, [.ref a_t_kinds, .ref a_t_numbers, .int v_t_size])), (a_t_kinds, .inl (cI, 14, .inl f_t_kinds)), (a_t_numbers, .inl (cI, 14, .inl f_t_numbers))] s.heap := hP
  have hl := lv_entry ([.ref a_t, .int x1, .int x2]) (n := 3) (Nat.le_of_ble_eq_true rfl)
  rw [lg_entry_eq]
  generalize (lg_sl ([.ref a_t, .int x1, .int x2]) ++ List.replicate (3 - (lg_sl ([.ref a_t, .int x1, .int x2])).length) Slot.unset).toArray = ls at hl ⊢
  have hl : lv_has ls 3 [(0, .ref a_t), (1, .int x1), (2, .int x2)] := hl
  have hf := f_X0_add.eq_1 v_t_size f_t_kinds f_t_numbers x1 x2
  refine lv_aload_n hx hb dX0_add_0 rfl (lv_at hl 0 rfl) ?_
  refine va_get (D := D) (ci := 0) (v := .int v_t_size) (C := RX0) (T := TX0) (N := 3) hx hb hts hwX0 hown hK hP 0 rfl rfl 2 (by decide) (hts (.fieldLink RX0 18 "SkippedDay$Acts" "size" "I") (by decide +kernel)) (fun _ h9 => h9) rfl dX0_add_1 ?_
  refine lv_bipush (v := 14) hx hb dX0_add_4 (by decide) ?_
  have hJ_13 : ∀ (w13_t_size : Int32) (w13_t_kinds : Nat → Int32) (w13_t_numbers : Nat → Int32), f_X0_add v_t_size f_t_kinds f_t_numbers x1 x2 = f_X0_add_j13 x1 x2 w13_t_size w13_t_kinds w13_t_numbers → (0 ≤ w13_t_size) → (w13_t_size < 14) → ∀ (H : Heap) (locs : List Loc), va_P D vwCl [(a_t, .inr (0, [.ref a_t_kinds, .ref a_t_numbers, .int w13_t_size])), (a_t_kinds, .inl (cI, 14, .inl w13_t_kinds)), (a_t_numbers, .inl (cI, 14, .inl w13_t_numbers))] H → va_D A [(a_t, .inr (0, [.ref a_t_kinds, .ref a_t_numbers, .int w13_t_size])), (a_t_kinds, .inl (cI, 14, .inl w13_t_kinds)), (a_t_numbers, .inl (cI, 14, .inl w13_t_numbers))] → va_S A s.heap H locs → ∀ (ls : Array Slot), lv_has ls 3 [(0, .ref a_t), (1, .int x1), (2, .int x2)] → W p l e (headSpec wsX0_add { frames := 1, cells := 0, slots := 0, locals := 21 }).room s m [.ref a_t, .int x1, .int x2].toArray below meth c H locs 0 0 (MQ below (va_Qv (fun u : Int32 × (Nat → Int32) × (Nat → Int32) => u = f_X0_add v_t_size f_t_kinds f_t_numbers x1 x2 ∧ (0 ≤ u.1) ∧ (u.1 ≤ 14)) (BM D A (fun u : Int32 × (Nat → Int32) × (Nat → Int32) => [(a_t, .inr (0, [.ref a_t_kinds, .ref a_t_numbers, .int u.1])), (a_t_kinds, .inl (cI, 14, .inl u.2.1)), (a_t_numbers, .inl (cI, 14, .inl u.2.2))])) A) [.ref a_t, .int x1, .int x2].toArray s 0 0 A) (F0 m 13 ls []) := by
    intro w13_t_size w13_t_kinds w13_t_numbers hf hi13_0 hi13_1 H locs hP hD hS ls hl
    replace hf := hf.trans (f_X0_add_j13.eq_1 _ _ _ _ _)
    refine lv_aload_n hx hb dX0_add_13 rfl (lv_at hl 0 rfl) ?_
    refine va_get (D := D) (ci := 0) (v := .ref a_t_kinds) (C := RX0) (T := TX0) (N := 3) hx hb hts hwX0 hown hK hP 0 rfl rfl 0 (by decide) (hts (.fieldLink RX0 11 "SkippedDay$Acts" "kinds" "[I") (by decide +kernel)) (fun _ h9 => h9) rfl dX0_add_14 ?_
    refine lv_aload_n hx hb dX0_add_17 rfl (lv_at hl 0 rfl) ?_
    refine va_get (D := D) (ci := 0) (v := .int w13_t_size) (C := RX0) (T := TX0) (N := 3) hx hb hts hwX0 hown hK hP 0 rfl rfl 2 (by decide) (hts (.fieldLink RX0 18 "SkippedDay$Acts" "size" "I") (by decide +kernel)) (fun _ h9 => h9) rfl dX0_add_18 ?_
    refine lv_iload_n hx hb dX0_add_21 rfl (lv_at hl 1 rfl) ?_
    refine va_iast hx hb hK hP hD hS 1 0 rfl rfl (s_X0_add_1 w13_t_size hi13_0 hi13_1) dX0_add_22 (fun H locs hP hD hS => ?_)
    have hP : va_P D vwCl [(a_t, .inr (0, [.ref a_t_kinds, .ref a_t_numbers, .int w13_t_size])), (a_t_kinds, .inl (cI, 14, .inl (upd w13_t_kinds w13_t_size.toNatClampNeg x1))), (a_t_numbers, .inl (cI, 14, .inl w13_t_numbers))] H := hP
    have hD : va_D A [(a_t, .inr (0, [.ref a_t_kinds, .ref a_t_numbers, .int w13_t_size])), (a_t_kinds, .inl (cI, 14, .inl (upd w13_t_kinds w13_t_size.toNatClampNeg x1))), (a_t_numbers, .inl (cI, 14, .inl w13_t_numbers))] := hD
    refine lv_aload_n hx hb dX0_add_23 rfl (lv_at hl 0 rfl) ?_
    refine va_get (D := D) (ci := 0) (v := .ref a_t_numbers) (C := RX0) (T := TX0) (N := 3) hx hb hts hwX0 hown hK hP 0 rfl rfl 1 (by decide) (hts (.fieldLink RX0 15 "SkippedDay$Acts" "numbers" "[I") (by decide +kernel)) (fun _ h9 => h9) rfl dX0_add_24 ?_
    refine lv_aload_n hx hb dX0_add_27 rfl (lv_at hl 0 rfl) ?_
    refine va_get (D := D) (ci := 0) (v := .int w13_t_size) (C := RX0) (T := TX0) (N := 3) hx hb hts hwX0 hown hK hP 0 rfl rfl 2 (by decide) (hts (.fieldLink RX0 18 "SkippedDay$Acts" "size" "I") (by decide +kernel)) (fun _ h9 => h9) rfl dX0_add_28 ?_
    refine lv_iload_n hx hb dX0_add_31 rfl (lv_at hl 2 rfl) ?_
    refine va_iast hx hb hK hP hD hS 2 0 rfl rfl (s_X0_add_2 w13_t_size hi13_0 hi13_1) dX0_add_32 (fun H locs hP hD hS => ?_)
    have hP : va_P D vwCl [(a_t, .inr (0, [.ref a_t_kinds, .ref a_t_numbers, .int w13_t_size])), (a_t_kinds, .inl (cI, 14, .inl (upd w13_t_kinds w13_t_size.toNatClampNeg x1))), (a_t_numbers, .inl (cI, 14, .inl (upd w13_t_numbers w13_t_size.toNatClampNeg x2)))] H := hP
    have hD : va_D A [(a_t, .inr (0, [.ref a_t_kinds, .ref a_t_numbers, .int w13_t_size])), (a_t_kinds, .inl (cI, 14, .inl (upd w13_t_kinds w13_t_size.toNatClampNeg x1))), (a_t_numbers, .inl (cI, 14, .inl (upd w13_t_numbers w13_t_size.toNatClampNeg x2)))] := hD
    refine lv_aload_n hx hb dX0_add_33 rfl (lv_at hl 0 rfl) ?_
    refine lv_dup hx hb dX0_add_34 rfl ?_
    refine va_get (D := D) (ci := 0) (v := .int w13_t_size) (C := RX0) (T := TX0) (N := 3) hx hb hts hwX0 hown hK hP 0 rfl rfl 2 (by decide) (hts (.fieldLink RX0 18 "SkippedDay$Acts" "size" "I") (by decide +kernel)) (fun _ h9 => h9) rfl dX0_add_35 ?_
    refine lv_iconst (v := 1) hx hb dX0_add_38 (by decide) ?_
    refine lv_iadd hx hb dX0_add_39 ?_
    refine va_put (D := D) (ci := 0) (v := .int (w13_t_size + 1)) (ty := .int) (C := RX0) (T := TX0) (N := 3) hx hb hts hwX0 tyX0 tyX0_ok nmX0 hown hK hP hD hS 0 rfl rfl 2 (by decide) (hts (.fieldLink RX0 18 "SkippedDay$Acts" "size" "I") (by decide +kernel)) (fun _ h9 => h9) rfl (by decide +kernel) rfl rfl (Nat.le_of_ble_eq_true rfl) dX0_add_40 (fun H locs hP hD hS => ?_)
    have hP : va_P D vwCl [(a_t, .inr (0, [.ref a_t_kinds, .ref a_t_numbers, .int (w13_t_size + 1)])), (a_t_kinds, .inl (cI, 14, .inl (upd w13_t_kinds w13_t_size.toNatClampNeg x1))), (a_t_numbers, .inl (cI, 14, .inl (upd w13_t_numbers w13_t_size.toNatClampNeg x2)))] H := hP
    have hD : va_D A [(a_t, .inr (0, [.ref a_t_kinds, .ref a_t_numbers, .int (w13_t_size + 1)])), (a_t_kinds, .inl (cI, 14, .inl (upd w13_t_kinds w13_t_size.toNatClampNeg x1))), (a_t_numbers, .inl (cI, 14, .inl (upd w13_t_numbers w13_t_size.toNatClampNeg x2)))] := hD
    exact W.vret hx hb hr (fun t ht hW => ⟨⟨(w13_t_size + 1, upd w13_t_kinds w13_t_size.toNatClampNeg x1, upd w13_t_numbers w13_t_size.toNatClampNeg x2), rfl, ⟨hf.symm, (s_X0_add_3 w13_t_size hi13_0 hi13_1), (s_X0_add_4 w13_t_size hi13_0 hi13_1)⟩, by rw [ht]; exact hP.sub [0, 1, 2] rfl, hD.sub [0, 1, 2] (by decide) rfl⟩, hS.F ht⟩) hS.2.2 dX0_add_43
  refine lv_icmp_lt (tgt := 13) hx hb dX0_add_6 (by decide) (fun c_6 => ?_) (fun c_6 => ?_)
  · replace hf := hf.trans (if_pos c_6)
    exact hJ_13 v_t_size f_t_kinds f_t_numbers hf (s_X0_add_5 v_t_size hp0 hp1 c_6) (s_X0_add_6 v_t_size hp0 hp1 c_6) _ _ (hP.sub [0, 1, 2] rfl) (hD.sub [0, 1, 2] (by decide) rfl) hS _ (lv_sub hl [0, 1, 2] rfl)
  · replace hf := hf.trans (if_neg c_6)
    refine lv_aload_n hx hb dX0_add_9 rfl (lv_at hl 0 rfl) ?_
    refine callMv (As := []) (rest := []) (wr := []) ⟨hx, hb, hml, hown, hts⟩ (c_X0_forgetFirst l D cI cZ cO a_t a_t_kinds a_t_numbers v_t_size f_t_kinds f_t_numbers s.heap.size (s_X0_add_7 v_t_size hp0 hp1 c_6) (s_X0_add_8 v_t_size hp0 hp1 c_6)) (cwV 0 hts gX0_add_X0_forgetFirst rfl rfl rfl (by decide +kernel) ⟨Nat.le_of_ble_eq_true rfl, Nat.le_of_ble_eq_true rfl⟩) hKX hP hD hS hA [0, 1, 2] [] rfl rfl (by decide) (by decide) (by decide) 0 0 rfl rfl rfl rfl hl.1 rfl (Nat.le_of_ble_eq_true rfl) dX0_add_10 ⟨Nat.le_of_ble_eq_true rfl, Nat.le_of_ble_eq_true rfl⟩ (fun u H locs hc10 hP hD hS => ?_)
    obtain ⟨u10_t_size, u10_t_kinds, u10_t_numbers⟩ := u
    have hP : va_P D vwCl [(a_t, .inr (0, [.ref a_t_kinds, .ref a_t_numbers, .int u10_t_size])), (a_t_kinds, .inl (cI, 14, .inl u10_t_kinds)), (a_t_numbers, .inl (cI, 14, .inl u10_t_numbers))] H := hP
    have hD : va_D A [(a_t, .inr (0, [.ref a_t_kinds, .ref a_t_numbers, .int u10_t_size])), (a_t_kinds, .inl (cI, 14, .inl u10_t_kinds)), (a_t_numbers, .inl (cI, 14, .inl u10_t_numbers))] := hD
    have hq10_0 : u10_t_size = 13 := hc10.2.1
    have hq10_1 : 0 ≤ u10_t_size := hc10.2.2.1
    have hq10_2 : u10_t_size ≤ 14 := hc10.2.2.2
    replace hf := hf.trans (ap3_g hc10.1)
    exact hJ_13 u10_t_size u10_t_kinds u10_t_numbers hf (s_X0_add_9 u10_t_size hq10_0 hq10_1 hq10_2) (s_X0_add_10 u10_t_size hq10_0 hq10_1 hq10_2) _ _ (hP.sub [0, 1, 2] rfl) (hD.sub [0, 1, 2] (by decide) rfl) hS _ (lv_sub hl [0, 1, 2] rfl)

def f_X0_lastKind (v_t_size : Int32) (f_t_kinds : Nat → Int32) : Int32 :=
  if v_t_size ≤ 0 then (-9) else f_t_kinds (v_t_size - 1).toNatClampNeg
/- in@17 -/ theorem s_X0_lastKind_1 (v_t_size : Int32) (hp0 : 0 ≤ v_t_size) (hp1 : v_t_size ≤ 14) (c_4 : ¬ v_t_size ≤ 0) : vp_in (v_t_size - 1) 14 := vin (k := 14) (by grind) (by grind) (by decide)
set_option maxHeartbeats 4000000 in
set_option maxRecDepth 100000 in
theorem c_X0_lastKind (l : Launch) (D : va_G) (cI cZ cO : ClassId) (a_t : Nat) (a_t_kinds : Nat) (a_t_numbers : Nat) (v_t_size : Int32) (f_t_kinds : Nat → Int32) (hp0 : 0 ≤ v_t_size) (hp1 : v_t_size ≤ 14) : Met l yX0_lastKind wsX0_lastKind ({ frames := 0, cells := 0, slots := 0, locals := 0 }) (PcP D (tysG cI cZ cO) [.ref a_t] [(a_t, .inr (0, [.ref a_t_kinds, .ref a_t_numbers, .int v_t_size])), (a_t_kinds, .inl (cI, 14, .inl f_t_kinds))]) (QP (.int (f_X0_lastKind v_t_size f_t_kinds))) 0 0 (fun _ => False) := by
  refine Met.ofW (cc := cX0_lastKind) (maxL := 1) (ret := (some .int)) (by decide) rfl ?_
  intro p e s m args below meth c s₁ B hml hv
  obtain ⟨rfl, hP, hKX⟩ := hv
  have hx := B.exec
  have hb := B.bytes
  have hr := B.returns
  have hts := atoms_spec (ws := wsX0_lastKind) B.pre
  have hown : s.vm.findClass RX0 = some m.cls := findClass_of_methodNamed B.named
  have hlocks := B.notSynchronized
  have hK := hKX.1
  have hwX0 : ∀ w ∈ wsX00, w ∈ wsX0_lastKind := by decide +kernel
  have hl := lv_entry ([.ref a_t]) (n := 1) (Nat.le_of_ble_eq_true rfl)
  rw [lg_entry_eq]
  generalize (lg_sl ([.ref a_t]) ++ List.replicate (1 - (lg_sl ([.ref a_t])).length) Slot.unset).toArray = ls at hl ⊢
  have hl : lv_has ls 1 [(0, .ref a_t)] := hl
  have hf := f_X0_lastKind.eq_1 v_t_size f_t_kinds
  refine lv_aload_n hx hb dX0_lastKind_0 rfl (lv_at hl 0 rfl) ?_
  refine va_get (D := D) (ci := 0) (v := .int v_t_size) (C := RX0) (T := TX0) (N := 3) hx hb hts hwX0 hown hK hP 0 rfl rfl 2 (by decide) (hts (.fieldLink RX0 18 "SkippedDay$Acts" "size" "I") (by decide +kernel)) (fun _ h9 => h9) rfl dX0_lastKind_1 ?_
  refine lv_if_le (tgt := 21) hx hb dX0_lastKind_4 (by decide) (fun c_4 => ?_) (fun c_4 => ?_)
  · replace hf := hf.trans (if_pos c_4)
    refine lv_bipush (v := (-9)) hx hb dX0_lastKind_21 (by decide) ?_
    exact W.iret (v := (-9)) hx hb hr (fun t ht hW => ⟨congrArg (fun z => Outcome.returned (some (Value.int z))) hf.symm, ht⟩) (fun _ h => absurd h List.not_mem_nil) dX0_lastKind_23
  · replace hf := hf.trans (if_neg c_4)
    refine lv_aload_n hx hb dX0_lastKind_7 rfl (lv_at hl 0 rfl) ?_
    refine va_get (D := D) (ci := 0) (v := .ref a_t_kinds) (C := RX0) (T := TX0) (N := 3) hx hb hts hwX0 hown hK hP 0 rfl rfl 0 (by decide) (hts (.fieldLink RX0 11 "SkippedDay$Acts" "kinds" "[I") (by decide +kernel)) (fun _ h9 => h9) rfl dX0_lastKind_8 ?_
    refine lv_aload_n hx hb dX0_lastKind_11 rfl (lv_at hl 0 rfl) ?_
    refine va_get (D := D) (ci := 0) (v := .int v_t_size) (C := RX0) (T := TX0) (N := 3) hx hb hts hwX0 hown hK hP 0 rfl rfl 2 (by decide) (hts (.fieldLink RX0 18 "SkippedDay$Acts" "size" "I") (by decide +kernel)) (fun _ h9 => h9) rfl dX0_lastKind_12 ?_
    refine lv_iconst (v := 1) hx hb dX0_lastKind_15 (by decide) ?_
    refine lv_isub hx hb dX0_lastKind_16 ?_
    refine va_iald hx hb hK hP 1 0 rfl rfl (s_X0_lastKind_1 v_t_size hp0 hp1 c_4) dX0_lastKind_17 ?_
    refine lv_goto (tgt := 23) hx hb dX0_lastKind_18 (by decide) ?_
    exact W.iret (v := f_t_kinds (v_t_size - 1).toNatClampNeg) hx hb hr (fun t ht hW => ⟨congrArg (fun z => Outcome.returned (some (Value.int z))) hf.symm, ht⟩) (fun _ h => absurd h List.not_mem_nil) dX0_lastKind_23

def f_X0_lastNumber (v_t_size : Int32) (f_t_numbers : Nat → Int32) : Int32 :=
  if v_t_size ≤ 0 then (-9) else f_t_numbers (v_t_size - 1).toNatClampNeg
/- in@17 -/ theorem s_X0_lastNumber_1 (v_t_size : Int32) (hp0 : 0 ≤ v_t_size) (hp1 : v_t_size ≤ 14) (c_4 : ¬ v_t_size ≤ 0) : vp_in (v_t_size - 1) 14 := vin (k := 14) (by grind) (by grind) (by decide)
set_option maxHeartbeats 4000000 in
set_option maxRecDepth 100000 in
theorem c_X0_lastNumber (l : Launch) (D : va_G) (cI cZ cO : ClassId) (a_t : Nat) (a_t_kinds : Nat) (a_t_numbers : Nat) (v_t_size : Int32) (f_t_numbers : Nat → Int32) (hp0 : 0 ≤ v_t_size) (hp1 : v_t_size ≤ 14) : Met l yX0_lastNumber wsX0_lastNumber ({ frames := 0, cells := 0, slots := 0, locals := 0 }) (PcP D (tysG cI cZ cO) [.ref a_t] [(a_t, .inr (0, [.ref a_t_kinds, .ref a_t_numbers, .int v_t_size])), (a_t_numbers, .inl (cI, 14, .inl f_t_numbers))]) (QP (.int (f_X0_lastNumber v_t_size f_t_numbers))) 0 0 (fun _ => False) := by
  refine Met.ofW (cc := cX0_lastNumber) (maxL := 1) (ret := (some .int)) (by decide) rfl ?_
  intro p e s m args below meth c s₁ B hml hv
  obtain ⟨rfl, hP, hKX⟩ := hv
  have hx := B.exec
  have hb := B.bytes
  have hr := B.returns
  have hts := atoms_spec (ws := wsX0_lastNumber) B.pre
  have hown : s.vm.findClass RX0 = some m.cls := findClass_of_methodNamed B.named
  have hlocks := B.notSynchronized
  have hK := hKX.1
  have hwX0 : ∀ w ∈ wsX00, w ∈ wsX0_lastNumber := by decide +kernel
  have hl := lv_entry ([.ref a_t]) (n := 1) (Nat.le_of_ble_eq_true rfl)
  rw [lg_entry_eq]
  generalize (lg_sl ([.ref a_t]) ++ List.replicate (1 - (lg_sl ([.ref a_t])).length) Slot.unset).toArray = ls at hl ⊢
  have hl : lv_has ls 1 [(0, .ref a_t)] := hl
  have hf := f_X0_lastNumber.eq_1 v_t_size f_t_numbers
  refine lv_aload_n hx hb dX0_lastNumber_0 rfl (lv_at hl 0 rfl) ?_
  refine va_get (D := D) (ci := 0) (v := .int v_t_size) (C := RX0) (T := TX0) (N := 3) hx hb hts hwX0 hown hK hP 0 rfl rfl 2 (by decide) (hts (.fieldLink RX0 18 "SkippedDay$Acts" "size" "I") (by decide +kernel)) (fun _ h9 => h9) rfl dX0_lastNumber_1 ?_
  refine lv_if_le (tgt := 21) hx hb dX0_lastNumber_4 (by decide) (fun c_4 => ?_) (fun c_4 => ?_)
  · replace hf := hf.trans (if_pos c_4)
    refine lv_bipush (v := (-9)) hx hb dX0_lastNumber_21 (by decide) ?_
    exact W.iret (v := (-9)) hx hb hr (fun t ht hW => ⟨congrArg (fun z => Outcome.returned (some (Value.int z))) hf.symm, ht⟩) (fun _ h => absurd h List.not_mem_nil) dX0_lastNumber_23
  · replace hf := hf.trans (if_neg c_4)
    refine lv_aload_n hx hb dX0_lastNumber_7 rfl (lv_at hl 0 rfl) ?_
    refine va_get (D := D) (ci := 0) (v := .ref a_t_numbers) (C := RX0) (T := TX0) (N := 3) hx hb hts hwX0 hown hK hP 0 rfl rfl 1 (by decide) (hts (.fieldLink RX0 15 "SkippedDay$Acts" "numbers" "[I") (by decide +kernel)) (fun _ h9 => h9) rfl dX0_lastNumber_8 ?_
    refine lv_aload_n hx hb dX0_lastNumber_11 rfl (lv_at hl 0 rfl) ?_
    refine va_get (D := D) (ci := 0) (v := .int v_t_size) (C := RX0) (T := TX0) (N := 3) hx hb hts hwX0 hown hK hP 0 rfl rfl 2 (by decide) (hts (.fieldLink RX0 18 "SkippedDay$Acts" "size" "I") (by decide +kernel)) (fun _ h9 => h9) rfl dX0_lastNumber_12 ?_
    refine lv_iconst (v := 1) hx hb dX0_lastNumber_15 (by decide) ?_
    refine lv_isub hx hb dX0_lastNumber_16 ?_
    refine va_iald hx hb hK hP 1 0 rfl rfl (s_X0_lastNumber_1 v_t_size hp0 hp1 c_4) dX0_lastNumber_17 ?_
    refine lv_goto (tgt := 23) hx hb dX0_lastNumber_18 (by decide) ?_
    exact W.iret (v := f_t_numbers (v_t_size - 1).toNatClampNeg) hx hb hr (fun t ht hW => ⟨congrArg (fun z => Outcome.returned (some (Value.int z))) hf.symm, ht⟩) (fun _ h => absurd h List.not_mem_nil) dX0_lastNumber_23

def f_X0_removeLast (v_t_size : Int32) : Int32 :=
  if v_t_size ≤ 0 then v_t_size else v_t_size - 1
/- post0@17 -/ theorem s_X0_removeLast_1 (v_t_size : Int32) (hp0 : 0 ≤ v_t_size) (hp1 : v_t_size ≤ 14) (c_4 : v_t_size ≤ 0) : 0 ≤ v_t_size := by grind
/- post1@17 -/ theorem s_X0_removeLast_2 (v_t_size : Int32) (hp0 : 0 ≤ v_t_size) (hp1 : v_t_size ≤ 14) (c_4 : v_t_size ≤ 0) : v_t_size ≤ 14 := by grind
/- post0@17 -/ theorem s_X0_removeLast_3 (v_t_size : Int32) (hp0 : 0 ≤ v_t_size) (hp1 : v_t_size ≤ 14) (c_4 : ¬ v_t_size ≤ 0) : 0 ≤ (v_t_size - 1) := by grind
/- post1@17 -/ theorem s_X0_removeLast_4 (v_t_size : Int32) (hp0 : 0 ≤ v_t_size) (hp1 : v_t_size ≤ 14) (c_4 : ¬ v_t_size ≤ 0) : (v_t_size - 1) ≤ 14 := by grind
set_option maxHeartbeats 4000000 in
set_option maxRecDepth 100000 in
theorem c_X0_removeLast (l : Launch) (D : va_G) (cI cZ cO : ClassId) (a_t : Nat) (a_t_kinds : Nat) (a_t_numbers : Nat) (v_t_size : Int32) (sz : Nat) (hp0 : 0 ≤ v_t_size) (hp1 : v_t_size ≤ 14) : Met l yX0_removeLast wsX0_removeLast ({ frames := 0, cells := 0, slots := 0, locals := 0 }) (PcM D (tysG cI cZ cO) [.ref a_t] sz [(a_t, .inr (0, [.ref a_t_kinds, .ref a_t_numbers, .int v_t_size]))]) (va_Qv (fun u : Int32 => u = f_X0_removeLast v_t_size ∧ (0 ≤ u) ∧ (u ≤ 14)) (BM D (va_A [(a_t, .inr (0, [.ref a_t_kinds, .ref a_t_numbers, .int v_t_size]))] sz) (fun u : Int32 => [(a_t, .inr (0, [.ref a_t_kinds, .ref a_t_numbers, .int u]))])) (va_A [(a_t, .inr (0, [.ref a_t_kinds, .ref a_t_numbers, .int v_t_size]))] sz)) 0 0 (va_A [(a_t, .inr (0, [.ref a_t_kinds, .ref a_t_numbers, .int v_t_size]))] sz) := by
  refine Met.ofW (cc := cX0_removeLast) (maxL := 1) (ret := none) (by decide) rfl ?_
  intro p e s m args below meth c s₁ B hml hv
  obtain ⟨rfl, hsz, hP, hKX, hD0⟩ := hv
  have hx := B.exec
  have hb := B.bytes
  have hr := B.returns
  have hts := atoms_spec (ws := wsX0_removeLast) B.pre
  have hown : s.vm.findClass RX0 = some m.cls := findClass_of_methodNamed B.named
  have hlocks := B.notSynchronized
  have hK := hKX.1
  have hwX0 : ∀ w ∈ wsX00, w ∈ wsX0_removeLast := by decide +kernel
  subst hsz
  have hD := hD0.self (sz := s.heap.size)
  generalize hAe : va_A [(a_t, .inr (0, [.ref a_t_kinds, .ref a_t_numbers, .int v_t_size]))] s.heap.size = A at hD ⊢
  have hA : ∀ q : Nat, s.heap.size ≤ q → A q := fun q h => by rw [← hAe]; exact Or.inr h
  have hS : va_S A s.heap s.heap [] := va_S.rf
  have hP : va_P D vwCl [(a_t, .inr (0, [.ref a_t_kinds, .ref a_t_numbers, .int v_t_size]))] s.heap := hP
  have hl := lv_entry ([.ref a_t]) (n := 1) (Nat.le_of_ble_eq_true rfl)
  rw [lg_entry_eq]
  generalize (lg_sl ([.ref a_t]) ++ List.replicate (1 - (lg_sl ([.ref a_t])).length) Slot.unset).toArray = ls at hl ⊢
  have hl : lv_has ls 1 [(0, .ref a_t)] := hl
  have hf := f_X0_removeLast.eq_1 v_t_size
  refine lv_aload_n hx hb dX0_removeLast_0 rfl (lv_at hl 0 rfl) ?_
  refine va_get (D := D) (ci := 0) (v := .int v_t_size) (C := RX0) (T := TX0) (N := 3) hx hb hts hwX0 hown hK hP 0 rfl rfl 2 (by decide) (hts (.fieldLink RX0 18 "SkippedDay$Acts" "size" "I") (by decide +kernel)) (fun _ h9 => h9) rfl dX0_removeLast_1 ?_
  refine lv_if_le (tgt := 17) hx hb dX0_removeLast_4 (by decide) (fun c_4 => ?_) (fun c_4 => ?_)
  · replace hf := hf.trans (if_pos c_4)
    exact W.vret hx hb hr (fun t ht hW => ⟨⟨(v_t_size), rfl, ⟨hf.symm, (s_X0_removeLast_1 v_t_size hp0 hp1 c_4), (s_X0_removeLast_2 v_t_size hp0 hp1 c_4)⟩, by rw [ht]; exact hP.sub [0] rfl, hD.sub [0] (by decide) rfl⟩, hS.F ht⟩) hS.2.2 dX0_removeLast_17
  · replace hf := hf.trans (if_neg c_4)
    refine lv_aload_n hx hb dX0_removeLast_7 rfl (lv_at hl 0 rfl) ?_
    refine lv_dup hx hb dX0_removeLast_8 rfl ?_
    refine va_get (D := D) (ci := 0) (v := .int v_t_size) (C := RX0) (T := TX0) (N := 3) hx hb hts hwX0 hown hK hP 0 rfl rfl 2 (by decide) (hts (.fieldLink RX0 18 "SkippedDay$Acts" "size" "I") (by decide +kernel)) (fun _ h9 => h9) rfl dX0_removeLast_9 ?_
    refine lv_iconst (v := 1) hx hb dX0_removeLast_12 (by decide) ?_
    refine lv_isub hx hb dX0_removeLast_13 ?_
    refine va_put (D := D) (ci := 0) (v := .int (v_t_size - 1)) (ty := .int) (C := RX0) (T := TX0) (N := 3) hx hb hts hwX0 tyX0 tyX0_ok nmX0 hown hK hP hD hS 0 rfl rfl 2 (by decide) (hts (.fieldLink RX0 18 "SkippedDay$Acts" "size" "I") (by decide +kernel)) (fun _ h9 => h9) rfl (by decide +kernel) rfl rfl (Nat.le_of_ble_eq_true rfl) dX0_removeLast_14 (fun H locs hP hD hS => ?_)
    have hP : va_P D vwCl [(a_t, .inr (0, [.ref a_t_kinds, .ref a_t_numbers, .int (v_t_size - 1)]))] H := hP
    have hD : va_D A [(a_t, .inr (0, [.ref a_t_kinds, .ref a_t_numbers, .int (v_t_size - 1)]))] := hD
    exact W.vret hx hb hr (fun t ht hW => ⟨⟨(v_t_size - 1), rfl, ⟨hf.symm, (s_X0_removeLast_3 v_t_size hp0 hp1 c_4), (s_X0_removeLast_4 v_t_size hp0 hp1 c_4)⟩, by rw [ht]; exact hP.sub [0] rfl, hD.sub [0] (by decide) rfl⟩, hS.F ht⟩) hS.2.2 dX0_removeLast_17

def f_X1_list_j50 (x7_2 : Int32) (k7 : Int32 → Int32 → (Nat → Int32) → Int32 × (Nat → Int32)) (w50_t_size : Int32) (w50_t_gaps : Nat → Int32) : Int32 × (Nat → Int32) :=
  k7 (x7_2 + 1) w50_t_size w50_t_gaps
def f_X1_list_b7 (x1 : Int32) (k7 : Int32 → Int32 → (Nat → Int32) → Int32 × (Nat → Int32)) (x7_2 : Int32) (w7_t_size : Int32) (w7_t_gaps : Nat → Int32) : Int32 × (Nat → Int32) :=
  if 13 ≤ x7_2 then (w7_t_size, w7_t_gaps) else if ((x1 >>> (x7_2 &&& 31)) &&& 1) = 0 then f_X1_list_j50 x7_2 k7 w7_t_size w7_t_gaps else if 6 ≤ w7_t_size then f_X1_list_j50 x7_2 k7 w7_t_size w7_t_gaps else f_X1_list_j50 x7_2 k7 (w7_t_size + 1) (upd w7_t_gaps w7_t_size.toNatClampNeg x7_2)
def f_X1_list (f_t_gaps : Nat → Int32) (x1 : Int32) : Int32 × (Nat → Int32) :=
  it3 (f_X1_list_b7 x1) default (((13 : Int32).toInt - (0 : Int32).toInt).toNat + 1) 0 0 f_t_gaps
/- post0@56 -/ theorem s_X1_list_1 (w7_t_size : Int32) (hi7_1 : 0 ≤ w7_t_size) (hi7_2 : w7_t_size ≤ 6) : 0 ≤ w7_t_size := by grind
/- post1@56 -/ theorem s_X1_list_2 (w7_t_size : Int32) (hi7_1 : 0 ≤ w7_t_size) (hi7_2 : w7_t_size ≤ 6) : w7_t_size ≤ 6 := by grind
/- inv0@53>7 -/ theorem s_X1_list_3 (x7_2 : Int32) (hi7_0 : 0 ≤ x7_2) (c_10 : ¬ 13 ≤ x7_2) : 0 ≤ (x7_2 + 1) := by grind
/- inv1@53>7 -/ theorem s_X1_list_4 (w50_t_size : Int32) (hi50_0 : 0 ≤ w50_t_size) (hi50_1 : w50_t_size ≤ 6) : 0 ≤ w50_t_size := by grind
/- inv2@53>7 -/ theorem s_X1_list_5 (w50_t_size : Int32) (hi50_0 : 0 ≤ w50_t_size) (hi50_1 : w50_t_size ≤ 6) : w50_t_size ≤ 6 := by grind
/- inv0@18>50 -/ theorem s_X1_list_6 (w7_t_size : Int32) (hi7_1 : 0 ≤ w7_t_size) (hi7_2 : w7_t_size ≤ 6) : 0 ≤ w7_t_size := by grind
/- inv1@18>50 -/ theorem s_X1_list_7 (w7_t_size : Int32) (hi7_1 : 0 ≤ w7_t_size) (hi7_2 : w7_t_size ≤ 6) : w7_t_size ≤ 6 := by grind
/- inv0@27>50 -/ theorem s_X1_list_8 (w7_t_size : Int32) (hi7_1 : 0 ≤ w7_t_size) (hi7_2 : w7_t_size ≤ 6) (c_27 : 6 ≤ w7_t_size) : 0 ≤ w7_t_size := by grind
/- inv1@27>50 -/ theorem s_X1_list_9 (w7_t_size : Int32) (hi7_1 : 0 ≤ w7_t_size) (hi7_2 : w7_t_size ≤ 6) (c_27 : 6 ≤ w7_t_size) : w7_t_size ≤ 6 := by grind
/- in@39 -/ theorem s_X1_list_10 (w7_t_size : Int32) (hi7_1 : 0 ≤ w7_t_size) (hi7_2 : w7_t_size ≤ 6) (c_27 : ¬ 6 ≤ w7_t_size) : vp_in w7_t_size 6 := vin (k := 6) (by grind) (by grind) (by decide)
/- inv0@47>50 -/ theorem s_X1_list_11 (w7_t_size : Int32) (hi7_1 : 0 ≤ w7_t_size) (hi7_2 : w7_t_size ≤ 6) (c_27 : ¬ 6 ≤ w7_t_size) : 0 ≤ (w7_t_size + 1) := by grind
/- inv1@47>50 -/ theorem s_X1_list_12 (w7_t_size : Int32) (hi7_1 : 0 ≤ w7_t_size) (hi7_2 : w7_t_size ≤ 6) (c_27 : ¬ 6 ≤ w7_t_size) : (w7_t_size + 1) ≤ 6 := by grind
/- inv0@6>7 -/ theorem s_X1_list_13  : 0 ≤ (0 : Int32) := by grind
/- inv1@6>7 -/ theorem s_X1_list_14  : 0 ≤ (0 : Int32) := by grind
/- inv2@6>7 -/ theorem s_X1_list_15  : (0 : Int32) ≤ 6 := by grind
set_option maxHeartbeats 4000000 in
set_option maxRecDepth 100000 in
theorem c_X1_list (l : Launch) (D : va_G) (cI cZ cO : ClassId) (a_t : Nat) (a_t_gaps : Nat) (a_t_lasts : Nat) (v_t_size : Int32) (v_t_struck : Int32) (f_t_gaps : Nat → Int32) (x1 : Int32) (sz : Nat) (hp0 : 0 ≤ v_t_size) (hp1 : v_t_size ≤ 6) : Met l yX1_list wsX1_list ({ frames := 0, cells := 0, slots := 0, locals := 0 }) (PcM D (tysG cI cZ cO) [.ref a_t, .int x1] sz [(a_t, .inr (1, [.ref a_t_gaps, .ref a_t_lasts, .int v_t_size, .int v_t_struck])), (a_t_gaps, .inl (cI, 6, .inl f_t_gaps))]) (va_Qv (fun u : Int32 × (Nat → Int32) => u = f_X1_list f_t_gaps x1 ∧ (0 ≤ u.1) ∧ (u.1 ≤ 6)) (BM D (va_A [(a_t, .inr (1, [.ref a_t_gaps, .ref a_t_lasts, .int v_t_size, .int v_t_struck])), (a_t_gaps, .inl (cI, 6, .inl f_t_gaps))] sz) (fun u : Int32 × (Nat → Int32) => [(a_t, .inr (1, [.ref a_t_gaps, .ref a_t_lasts, .int u.1, .int v_t_struck])), (a_t_gaps, .inl (cI, 6, .inl u.2))])) (va_A [(a_t, .inr (1, [.ref a_t_gaps, .ref a_t_lasts, .int v_t_size, .int v_t_struck])), (a_t_gaps, .inl (cI, 6, .inl f_t_gaps))] sz)) 0 0 (va_A [(a_t, .inr (1, [.ref a_t_gaps, .ref a_t_lasts, .int v_t_size, .int v_t_struck])), (a_t_gaps, .inl (cI, 6, .inl f_t_gaps))] sz) := by
  refine Met.ofW (cc := cX1_list) (maxL := 3) (ret := none) (by decide) rfl ?_
  intro p e s m args below meth c s₁ B hml hv
  obtain ⟨rfl, hsz, hP, hKX, hD0⟩ := hv
  have hx := B.exec
  have hb := B.bytes
  have hr := B.returns
  have hts := atoms_spec (ws := wsX1_list) B.pre
  have hown : s.vm.findClass RX1 = some m.cls := findClass_of_methodNamed B.named
  have hlocks := B.notSynchronized
  have hK := hKX.1
  have hwX1 : ∀ w ∈ wsX10, w ∈ wsX1_list := by decide +kernel
  subst hsz
  have hD := hD0.self (sz := s.heap.size)
  generalize hAe : va_A [(a_t, .inr (1, [.ref a_t_gaps, .ref a_t_lasts, .int v_t_size, .int v_t_struck])), (a_t_gaps, .inl (cI, 6, .inl f_t_gaps))] s.heap.size = A at hD ⊢
  have hA : ∀ q : Nat, s.heap.size ≤ q → A q := fun q h => by rw [← hAe]; exact Or.inr h
  have hS : va_S A s.heap s.heap [] := va_S.rf
  have hP : va_P D vwCl [(a_t, .inr (1, [.ref a_t_gaps, .ref a_t_lasts, .int v_t_size, .int v_t_struck])), (a_t_gaps, .inl (cI, 6, .inl f_t_gaps))] s.heap := hP
  have hl := lv_entry ([.ref a_t, .int x1]) (n := 3) (Nat.le_of_ble_eq_true rfl)
  rw [lg_entry_eq]
  generalize (lg_sl ([.ref a_t, .int x1]) ++ List.replicate (3 - (lg_sl ([.ref a_t, .int x1])).length) Slot.unset).toArray = ls at hl ⊢
  have hl : lv_has ls 3 [(0, .ref a_t), (1, .int x1)] := hl
  have hf := f_X1_list.eq_1 f_t_gaps x1
  refine lv_aload_n hx hb dX1_list_0 rfl (lv_at hl 0 rfl) ?_
  refine lv_iconst (v := 0) hx hb dX1_list_1 (by decide) ?_
  refine va_put (D := D) (ci := 1) (v := .int 0) (ty := .int) (C := RX1) (T := TX1) (N := 4) hx hb hts hwX1 tyX1 tyX1_ok nmX1 hown hK hP hD hS 0 rfl rfl 2 (by decide) (hts (.fieldLink RX1 18 "SkippedDay$Sides" "size" "I") (by decide +kernel)) (fun _ h9 => h9) rfl (by decide +kernel) rfl rfl (Nat.le_of_ble_eq_true rfl) dX1_list_2 (fun H locs hP hD hS => ?_)
  have hP : va_P D vwCl [(a_t, .inr (1, [.ref a_t_gaps, .ref a_t_lasts, .int 0, .int v_t_struck])), (a_t_gaps, .inl (cI, 6, .inl f_t_gaps))] H := hP
  have hD : va_D A [(a_t, .inr (1, [.ref a_t_gaps, .ref a_t_lasts, .int 0, .int v_t_struck])), (a_t_gaps, .inl (cI, 6, .inl f_t_gaps))] := hD
  refine lv_iconst (v := 0) hx hb dX1_list_5 (by decide) ?_
  refine lv_istore_n (lv' := [(2, .int 0), (0, .ref a_t), (1, .int x1)]) hx hb dX1_list_6 rfl hl (by decide) rfl (fun ls hl => ?_)
  have hJ_7 : ∀ (n7 : Nat) (x7_2 : Int32) (w7_t_size : Int32) (w7_t_gaps : Nat → Int32), f_X1_list f_t_gaps x1 = it3 (f_X1_list_b7 x1) default n7 x7_2 w7_t_size w7_t_gaps → ((13 : Int32).toInt - x7_2.toInt).toNat < n7 → (0 ≤ x7_2) → (0 ≤ w7_t_size) → (w7_t_size ≤ 6) → ∀ (H : Heap) (locs : List Loc), va_P D vwCl [(a_t, .inr (1, [.ref a_t_gaps, .ref a_t_lasts, .int w7_t_size, .int v_t_struck])), (a_t_gaps, .inl (cI, 6, .inl w7_t_gaps))] H → va_D A [(a_t, .inr (1, [.ref a_t_gaps, .ref a_t_lasts, .int w7_t_size, .int v_t_struck])), (a_t_gaps, .inl (cI, 6, .inl w7_t_gaps))] → va_S A s.heap H locs → ∀ (ls : Array Slot), lv_has ls 3 [(0, .ref a_t), (1, .int x1), (2, .int x7_2)] → W p l e (headSpec wsX1_list { frames := 0, cells := 0, slots := 0, locals := 0 }).room s m [.ref a_t, .int x1].toArray below meth c H locs 0 0 (MQ below (va_Qv (fun u : Int32 × (Nat → Int32) => u = f_X1_list f_t_gaps x1 ∧ (0 ≤ u.1) ∧ (u.1 ≤ 6)) (BM D A (fun u : Int32 × (Nat → Int32) => [(a_t, .inr (1, [.ref a_t_gaps, .ref a_t_lasts, .int u.1, .int v_t_struck])), (a_t_gaps, .inl (cI, 6, .inl u.2))])) A) [.ref a_t, .int x1].toArray s 0 0 A) (F0 m 7 ls []) := by
    intro n7
    induction n7 with
    | zero => intro x7_2 w7_t_size w7_t_gaps hf hm7; exact absurd hm7 (Nat.not_lt_zero _)
    | succ n7 ih7 =>
      intro x7_2 w7_t_size w7_t_gaps hf hm7 hi7_0 hi7_1 hi7_2 H locs hP hD hS ls hl
      replace hf := (hf.trans (it3_s _ _ _ _ _ _)).trans (f_X1_list_b7.eq_1 _ _ _ _ _)
      refine lv_iload_n hx hb dX1_list_7 rfl (lv_at hl 2 rfl) ?_
      refine lv_bipush (v := 13) hx hb dX1_list_8 (by decide) ?_
      refine lv_icmp_ge (tgt := 56) hx hb dX1_list_10 (by decide) (fun c_10 => ?_) (fun c_10 => ?_)
      · replace hf := hf.trans (if_pos c_10)
        exact W.vret hx hb hr (fun t ht hW => ⟨⟨(w7_t_size, w7_t_gaps), rfl, ⟨hf.symm, (s_X1_list_1 w7_t_size hi7_1 hi7_2), (s_X1_list_2 w7_t_size hi7_1 hi7_2)⟩, by rw [ht]; exact hP.sub [0, 1] rfl, hD.sub [0, 1] (by decide) rfl⟩, hS.F ht⟩) hS.2.2 dX1_list_56
      · replace hf := hf.trans (if_neg c_10)
        refine lv_iload_n hx hb dX1_list_13 rfl (lv_at hl 1 rfl) ?_
        refine lv_iload_n hx hb dX1_list_14 rfl (lv_at hl 2 rfl) ?_
        refine lv_ishr hx hb dX1_list_15 ?_
        refine lv_iconst (v := 1) hx hb dX1_list_16 (by decide) ?_
        refine lv_iand hx hb dX1_list_17 ?_
        have hJ_50 : ∀ (w50_t_size : Int32) (w50_t_gaps : Nat → Int32), f_X1_list f_t_gaps x1 = f_X1_list_j50 x7_2 ((it3 (f_X1_list_b7 x1) default n7)) w50_t_size w50_t_gaps → (0 ≤ w50_t_size) → (w50_t_size ≤ 6) → ∀ (H : Heap) (locs : List Loc), va_P D vwCl [(a_t, .inr (1, [.ref a_t_gaps, .ref a_t_lasts, .int w50_t_size, .int v_t_struck])), (a_t_gaps, .inl (cI, 6, .inl w50_t_gaps))] H → va_D A [(a_t, .inr (1, [.ref a_t_gaps, .ref a_t_lasts, .int w50_t_size, .int v_t_struck])), (a_t_gaps, .inl (cI, 6, .inl w50_t_gaps))] → va_S A s.heap H locs → ∀ (ls : Array Slot), lv_has ls 3 [(0, .ref a_t), (1, .int x1), (2, .int x7_2)] → W p l e (headSpec wsX1_list { frames := 0, cells := 0, slots := 0, locals := 0 }).room s m [.ref a_t, .int x1].toArray below meth c H locs 0 0 (MQ below (va_Qv (fun u : Int32 × (Nat → Int32) => u = f_X1_list f_t_gaps x1 ∧ (0 ≤ u.1) ∧ (u.1 ≤ 6)) (BM D A (fun u : Int32 × (Nat → Int32) => [(a_t, .inr (1, [.ref a_t_gaps, .ref a_t_lasts, .int u.1, .int v_t_struck])), (a_t_gaps, .inl (cI, 6, .inl u.2))])) A) [.ref a_t, .int x1].toArray s 0 0 A) (F0 m 50 ls []) := by
          intro w50_t_size w50_t_gaps hf hi50_0 hi50_1 H locs hP hD hS ls hl
          replace hf := hf.trans (f_X1_list_j50.eq_1 _ _ _ _)
          refine lv_iinc (v := x7_2 + 1) (lv' := [(2, .int (x7_2 + 1)), (0, .ref a_t), (1, .int x1)]) hx hb dX1_list_50 hl (k := 2) rfl rfl (by decide) rfl (fun ls hl => ?_)
          refine lv_goto (tgt := 7) hx hb dX1_list_53 (by decide) ?_
          exact ih7 (x7_2 + 1) w50_t_size w50_t_gaps hf (mu_up c_10 hm7) (s_X1_list_3 x7_2 hi7_0 c_10) (s_X1_list_4 w50_t_size hi50_0 hi50_1) (s_X1_list_5 w50_t_size hi50_0 hi50_1) _ _ (hP.sub [0, 1] rfl) (hD.sub [0, 1] (by decide) rfl) hS _ (lv_sub hl [1, 2, 0] rfl)
        refine lv_if_eq (tgt := 50) hx hb dX1_list_18 (by decide) (fun c_18 => ?_) (fun c_18 => ?_)
        · replace hf := hf.trans (if_pos c_18)
          exact hJ_50 w7_t_size w7_t_gaps hf (s_X1_list_6 w7_t_size hi7_1 hi7_2) (s_X1_list_7 w7_t_size hi7_1 hi7_2) _ _ (hP.sub [0, 1] rfl) (hD.sub [0, 1] (by decide) rfl) hS _ (lv_sub hl [0, 1, 2] rfl)
        · replace hf := hf.trans (if_neg c_18)
          refine lv_aload_n hx hb dX1_list_21 rfl (lv_at hl 0 rfl) ?_
          refine va_get (D := D) (ci := 1) (v := .int w7_t_size) (C := RX1) (T := TX1) (N := 4) hx hb hts hwX1 hown hK hP 0 rfl rfl 2 (by decide) (hts (.fieldLink RX1 18 "SkippedDay$Sides" "size" "I") (by decide +kernel)) (fun _ h9 => h9) rfl dX1_list_22 ?_
          refine lv_bipush (v := 6) hx hb dX1_list_25 (by decide) ?_
          refine lv_icmp_ge (tgt := 50) hx hb dX1_list_27 (by decide) (fun c_27 => ?_) (fun c_27 => ?_)
          · replace hf := hf.trans (if_pos c_27)
            exact hJ_50 w7_t_size w7_t_gaps hf (s_X1_list_8 w7_t_size hi7_1 hi7_2 c_27) (s_X1_list_9 w7_t_size hi7_1 hi7_2 c_27) _ _ (hP.sub [0, 1] rfl) (hD.sub [0, 1] (by decide) rfl) hS _ (lv_sub hl [0, 1, 2] rfl)
          · replace hf := hf.trans (if_neg c_27)
            refine lv_aload_n hx hb dX1_list_30 rfl (lv_at hl 0 rfl) ?_
            refine va_get (D := D) (ci := 1) (v := .ref a_t_gaps) (C := RX1) (T := TX1) (N := 4) hx hb hts hwX1 hown hK hP 0 rfl rfl 0 (by decide) (hts (.fieldLink RX1 11 "SkippedDay$Sides" "gaps" "[I") (by decide +kernel)) (fun _ h9 => h9) rfl dX1_list_31 ?_
            refine lv_aload_n hx hb dX1_list_34 rfl (lv_at hl 0 rfl) ?_
            refine va_get (D := D) (ci := 1) (v := .int w7_t_size) (C := RX1) (T := TX1) (N := 4) hx hb hts hwX1 hown hK hP 0 rfl rfl 2 (by decide) (hts (.fieldLink RX1 18 "SkippedDay$Sides" "size" "I") (by decide +kernel)) (fun _ h9 => h9) rfl dX1_list_35 ?_
            refine lv_iload_n hx hb dX1_list_38 rfl (lv_at hl 2 rfl) ?_
            refine va_iast hx hb hK hP hD hS 1 0 rfl rfl (s_X1_list_10 w7_t_size hi7_1 hi7_2 c_27) dX1_list_39 (fun H locs hP hD hS => ?_)
            have hP : va_P D vwCl [(a_t, .inr (1, [.ref a_t_gaps, .ref a_t_lasts, .int w7_t_size, .int v_t_struck])), (a_t_gaps, .inl (cI, 6, .inl (upd w7_t_gaps w7_t_size.toNatClampNeg x7_2)))] H := hP
            have hD : va_D A [(a_t, .inr (1, [.ref a_t_gaps, .ref a_t_lasts, .int w7_t_size, .int v_t_struck])), (a_t_gaps, .inl (cI, 6, .inl (upd w7_t_gaps w7_t_size.toNatClampNeg x7_2)))] := hD
            refine lv_aload_n hx hb dX1_list_40 rfl (lv_at hl 0 rfl) ?_
            refine lv_dup hx hb dX1_list_41 rfl ?_
            refine va_get (D := D) (ci := 1) (v := .int w7_t_size) (C := RX1) (T := TX1) (N := 4) hx hb hts hwX1 hown hK hP 0 rfl rfl 2 (by decide) (hts (.fieldLink RX1 18 "SkippedDay$Sides" "size" "I") (by decide +kernel)) (fun _ h9 => h9) rfl dX1_list_42 ?_
            refine lv_iconst (v := 1) hx hb dX1_list_45 (by decide) ?_
            refine lv_iadd hx hb dX1_list_46 ?_
            refine va_put (D := D) (ci := 1) (v := .int (w7_t_size + 1)) (ty := .int) (C := RX1) (T := TX1) (N := 4) hx hb hts hwX1 tyX1 tyX1_ok nmX1 hown hK hP hD hS 0 rfl rfl 2 (by decide) (hts (.fieldLink RX1 18 "SkippedDay$Sides" "size" "I") (by decide +kernel)) (fun _ h9 => h9) rfl (by decide +kernel) rfl rfl (Nat.le_of_ble_eq_true rfl) dX1_list_47 (fun H locs hP hD hS => ?_)
            have hP : va_P D vwCl [(a_t, .inr (1, [.ref a_t_gaps, .ref a_t_lasts, .int (w7_t_size + 1), .int v_t_struck])), (a_t_gaps, .inl (cI, 6, .inl (upd w7_t_gaps w7_t_size.toNatClampNeg x7_2)))] H := hP
            have hD : va_D A [(a_t, .inr (1, [.ref a_t_gaps, .ref a_t_lasts, .int (w7_t_size + 1), .int v_t_struck])), (a_t_gaps, .inl (cI, 6, .inl (upd w7_t_gaps w7_t_size.toNatClampNeg x7_2)))] := hD
            exact hJ_50 (w7_t_size + 1) (upd w7_t_gaps w7_t_size.toNatClampNeg x7_2) hf (s_X1_list_11 w7_t_size hi7_1 hi7_2 c_27) (s_X1_list_12 w7_t_size hi7_1 hi7_2 c_27) _ _ (hP.sub [0, 1] rfl) (hD.sub [0, 1] (by decide) rfl) hS _ (lv_sub hl [0, 1, 2] rfl)
  exact hJ_7 _ 0 0 f_t_gaps hf (Nat.lt_succ_self _) s_X1_list_13 s_X1_list_14 s_X1_list_15 _ _ (hP.sub [0, 1] rfl) (hD.sub [0, 1] (by decide) rfl) hS _ (lv_sub hl [1, 2, 0] rfl)

def f_J6_bitCount_0f7a4 (x0 : Int32) : Int32 :=
  (((((((x0 - (((x0.toUInt32 >>> ((1 : Int32).toUInt32 &&& Int32.toUInt32 31)).toInt32) &&& 1431655765)) &&& 858993459) + ((((x0 - (((x0.toUInt32 >>> ((1 : Int32).toUInt32 &&& Int32.toUInt32 31)).toInt32) &&& 1431655765)).toUInt32 >>> ((2 : Int32).toUInt32 &&& Int32.toUInt32 31)).toInt32) &&& 858993459)) + (((((x0 - (((x0.toUInt32 >>> ((1 : Int32).toUInt32 &&& Int32.toUInt32 31)).toInt32) &&& 1431655765)) &&& 858993459) + ((((x0 - (((x0.toUInt32 >>> ((1 : Int32).toUInt32 &&& Int32.toUInt32 31)).toInt32) &&& 1431655765)).toUInt32 >>> ((2 : Int32).toUInt32 &&& Int32.toUInt32 31)).toInt32) &&& 858993459)).toUInt32 >>> ((4 : Int32).toUInt32 &&& Int32.toUInt32 31)).toInt32)) &&& 252645135) + (((((((x0 - (((x0.toUInt32 >>> ((1 : Int32).toUInt32 &&& Int32.toUInt32 31)).toInt32) &&& 1431655765)) &&& 858993459) + ((((x0 - (((x0.toUInt32 >>> ((1 : Int32).toUInt32 &&& Int32.toUInt32 31)).toInt32) &&& 1431655765)).toUInt32 >>> ((2 : Int32).toUInt32 &&& Int32.toUInt32 31)).toInt32) &&& 858993459)) + (((((x0 - (((x0.toUInt32 >>> ((1 : Int32).toUInt32 &&& Int32.toUInt32 31)).toInt32) &&& 1431655765)) &&& 858993459) + ((((x0 - (((x0.toUInt32 >>> ((1 : Int32).toUInt32 &&& Int32.toUInt32 31)).toInt32) &&& 1431655765)).toUInt32 >>> ((2 : Int32).toUInt32 &&& Int32.toUInt32 31)).toInt32) &&& 858993459)).toUInt32 >>> ((4 : Int32).toUInt32 &&& Int32.toUInt32 31)).toInt32)) &&& 252645135).toUInt32 >>> ((8 : Int32).toUInt32 &&& Int32.toUInt32 31)).toInt32)) + ((((((((x0 - (((x0.toUInt32 >>> ((1 : Int32).toUInt32 &&& Int32.toUInt32 31)).toInt32) &&& 1431655765)) &&& 858993459) + ((((x0 - (((x0.toUInt32 >>> ((1 : Int32).toUInt32 &&& Int32.toUInt32 31)).toInt32) &&& 1431655765)).toUInt32 >>> ((2 : Int32).toUInt32 &&& Int32.toUInt32 31)).toInt32) &&& 858993459)) + (((((x0 - (((x0.toUInt32 >>> ((1 : Int32).toUInt32 &&& Int32.toUInt32 31)).toInt32) &&& 1431655765)) &&& 858993459) + ((((x0 - (((x0.toUInt32 >>> ((1 : Int32).toUInt32 &&& Int32.toUInt32 31)).toInt32) &&& 1431655765)).toUInt32 >>> ((2 : Int32).toUInt32 &&& Int32.toUInt32 31)).toInt32) &&& 858993459)).toUInt32 >>> ((4 : Int32).toUInt32 &&& Int32.toUInt32 31)).toInt32)) &&& 252645135) + (((((((x0 - (((x0.toUInt32 >>> ((1 : Int32).toUInt32 &&& Int32.toUInt32 31)).toInt32) &&& 1431655765)) &&& 858993459) + ((((x0 - (((x0.toUInt32 >>> ((1 : Int32).toUInt32 &&& Int32.toUInt32 31)).toInt32) &&& 1431655765)).toUInt32 >>> ((2 : Int32).toUInt32 &&& Int32.toUInt32 31)).toInt32) &&& 858993459)) + (((((x0 - (((x0.toUInt32 >>> ((1 : Int32).toUInt32 &&& Int32.toUInt32 31)).toInt32) &&& 1431655765)) &&& 858993459) + ((((x0 - (((x0.toUInt32 >>> ((1 : Int32).toUInt32 &&& Int32.toUInt32 31)).toInt32) &&& 1431655765)).toUInt32 >>> ((2 : Int32).toUInt32 &&& Int32.toUInt32 31)).toInt32) &&& 858993459)).toUInt32 >>> ((4 : Int32).toUInt32 &&& Int32.toUInt32 31)).toInt32)) &&& 252645135).toUInt32 >>> ((8 : Int32).toUInt32 &&& Int32.toUInt32 31)).toInt32)).toUInt32 >>> ((16 : Int32).toUInt32 &&& Int32.toUInt32 31)).toInt32)) &&& 63
set_option maxHeartbeats 4000000 in
set_option maxRecDepth 100000 in
theorem c_J6_bitCount_0f7a4 (l : Launch) (D : va_G) (cI cZ cO : ClassId) (x0 : Int32) : Met l yJ6_bitCount_0f7a4 wsJ6_bitCount_0f7a4 ({ frames := 0, cells := 0, slots := 0, locals := 0 }) (PcP D (tysG cI cZ cO) [.int x0] []) (QP (.int (f_J6_bitCount_0f7a4 x0))) 0 0 (fun _ => False) := by
  refine Met.ofW (cc := cJ6_bitCount_0f7a4) (maxL := 1) (ret := (some .int)) (by decide) rfl ?_
  intro p e s m args below meth c s₁ B hml hv
  obtain ⟨rfl, hP, hKX⟩ := hv
  have hx := B.exec
  have hb := B.bytes
  have hr := B.returns
  have hts := atoms_spec (ws := wsJ6_bitCount_0f7a4) B.pre
  have hown : s.vm.findClass RJ6 = some m.cls := findClass_of_methodNamed B.named
  have hlocks := B.notSynchronized
  have hK := hKX.1
  have hl := lv_entry ([.int x0]) (n := 1) (Nat.le_of_ble_eq_true rfl)
  rw [lg_entry_eq]
  generalize (lg_sl ([.int x0]) ++ List.replicate (1 - (lg_sl ([.int x0])).length) Slot.unset).toArray = ls at hl ⊢
  have hl : lv_has ls 1 [(0, .int x0)] := hl
  have hf := f_J6_bitCount_0f7a4.eq_1 x0
  refine lv_iload_n hx hb dJ6_bitCount_0f7a4_0 rfl (lv_at hl 0 rfl) ?_
  refine lv_iload_n hx hb dJ6_bitCount_0f7a4_1 rfl (lv_at hl 0 rfl) ?_
  refine lv_iconst (v := 1) hx hb dJ6_bitCount_0f7a4_2 (by decide) ?_
  refine lv_iushr hx hb dJ6_bitCount_0f7a4_3 rfl ?_
  refine lv_ldcw (v := 1431655765) hx hb hown (hts (.constant RJ6 265 1431655765) (by decide +kernel)) dJ6_bitCount_0f7a4_4 ?_
  refine lv_iand hx hb dJ6_bitCount_0f7a4_7 ?_
  refine lv_isub hx hb dJ6_bitCount_0f7a4_8 ?_
  refine lv_istore_n (lv' := [(0, .int (x0 - (((x0.toUInt32 >>> ((1 : Int32).toUInt32 &&& Int32.toUInt32 31)).toInt32) &&& 1431655765)))]) hx hb dJ6_bitCount_0f7a4_9 rfl hl (by decide) rfl (fun ls hl => ?_)
  refine lv_iload_n hx hb dJ6_bitCount_0f7a4_10 rfl (lv_at hl 0 rfl) ?_
  refine lv_ldcw (v := 858993459) hx hb hown (hts (.constant RJ6 266 858993459) (by decide +kernel)) dJ6_bitCount_0f7a4_11 ?_
  refine lv_iand hx hb dJ6_bitCount_0f7a4_14 ?_
  refine lv_iload_n hx hb dJ6_bitCount_0f7a4_15 rfl (lv_at hl 0 rfl) ?_
  refine lv_iconst (v := 2) hx hb dJ6_bitCount_0f7a4_16 (by decide) ?_
  refine lv_iushr hx hb dJ6_bitCount_0f7a4_17 rfl ?_
  refine lv_ldcw (v := 858993459) hx hb hown (hts (.constant RJ6 266 858993459) (by decide +kernel)) dJ6_bitCount_0f7a4_18 ?_
  refine lv_iand hx hb dJ6_bitCount_0f7a4_21 ?_
  refine lv_iadd hx hb dJ6_bitCount_0f7a4_22 ?_
  refine lv_istore_n (lv' := [(0, .int (((x0 - (((x0.toUInt32 >>> ((1 : Int32).toUInt32 &&& Int32.toUInt32 31)).toInt32) &&& 1431655765)) &&& 858993459) + ((((x0 - (((x0.toUInt32 >>> ((1 : Int32).toUInt32 &&& Int32.toUInt32 31)).toInt32) &&& 1431655765)).toUInt32 >>> ((2 : Int32).toUInt32 &&& Int32.toUInt32 31)).toInt32) &&& 858993459)))]) hx hb dJ6_bitCount_0f7a4_23 rfl hl (by decide) rfl (fun ls hl => ?_)
  refine lv_iload_n hx hb dJ6_bitCount_0f7a4_24 rfl (lv_at hl 0 rfl) ?_
  refine lv_iload_n hx hb dJ6_bitCount_0f7a4_25 rfl (lv_at hl 0 rfl) ?_
  refine lv_iconst (v := 4) hx hb dJ6_bitCount_0f7a4_26 (by decide) ?_
  refine lv_iushr hx hb dJ6_bitCount_0f7a4_27 rfl ?_
  refine lv_iadd hx hb dJ6_bitCount_0f7a4_28 ?_
  refine lv_ldcw (v := 252645135) hx hb hown (hts (.constant RJ6 267 252645135) (by decide +kernel)) dJ6_bitCount_0f7a4_29 ?_
  refine lv_iand hx hb dJ6_bitCount_0f7a4_32 ?_
  refine lv_istore_n (lv' := [(0, .int (((((x0 - (((x0.toUInt32 >>> ((1 : Int32).toUInt32 &&& Int32.toUInt32 31)).toInt32) &&& 1431655765)) &&& 858993459) + ((((x0 - (((x0.toUInt32 >>> ((1 : Int32).toUInt32 &&& Int32.toUInt32 31)).toInt32) &&& 1431655765)).toUInt32 >>> ((2 : Int32).toUInt32 &&& Int32.toUInt32 31)).toInt32) &&& 858993459)) + (((((x0 - (((x0.toUInt32 >>> ((1 : Int32).toUInt32 &&& Int32.toUInt32 31)).toInt32) &&& 1431655765)) &&& 858993459) + ((((x0 - (((x0.toUInt32 >>> ((1 : Int32).toUInt32 &&& Int32.toUInt32 31)).toInt32) &&& 1431655765)).toUInt32 >>> ((2 : Int32).toUInt32 &&& Int32.toUInt32 31)).toInt32) &&& 858993459)).toUInt32 >>> ((4 : Int32).toUInt32 &&& Int32.toUInt32 31)).toInt32)) &&& 252645135))]) hx hb dJ6_bitCount_0f7a4_33 rfl hl (by decide) rfl (fun ls hl => ?_)
  refine lv_iload_n hx hb dJ6_bitCount_0f7a4_34 rfl (lv_at hl 0 rfl) ?_
  refine lv_iload_n hx hb dJ6_bitCount_0f7a4_35 rfl (lv_at hl 0 rfl) ?_
  refine lv_bipush (v := 8) hx hb dJ6_bitCount_0f7a4_36 (by decide) ?_
  refine lv_iushr hx hb dJ6_bitCount_0f7a4_38 rfl ?_
  refine lv_iadd hx hb dJ6_bitCount_0f7a4_39 ?_
  refine lv_istore_n (lv' := [(0, .int ((((((x0 - (((x0.toUInt32 >>> ((1 : Int32).toUInt32 &&& Int32.toUInt32 31)).toInt32) &&& 1431655765)) &&& 858993459) + ((((x0 - (((x0.toUInt32 >>> ((1 : Int32).toUInt32 &&& Int32.toUInt32 31)).toInt32) &&& 1431655765)).toUInt32 >>> ((2 : Int32).toUInt32 &&& Int32.toUInt32 31)).toInt32) &&& 858993459)) + (((((x0 - (((x0.toUInt32 >>> ((1 : Int32).toUInt32 &&& Int32.toUInt32 31)).toInt32) &&& 1431655765)) &&& 858993459) + ((((x0 - (((x0.toUInt32 >>> ((1 : Int32).toUInt32 &&& Int32.toUInt32 31)).toInt32) &&& 1431655765)).toUInt32 >>> ((2 : Int32).toUInt32 &&& Int32.toUInt32 31)).toInt32) &&& 858993459)).toUInt32 >>> ((4 : Int32).toUInt32 &&& Int32.toUInt32 31)).toInt32)) &&& 252645135) + (((((((x0 - (((x0.toUInt32 >>> ((1 : Int32).toUInt32 &&& Int32.toUInt32 31)).toInt32) &&& 1431655765)) &&& 858993459) + ((((x0 - (((x0.toUInt32 >>> ((1 : Int32).toUInt32 &&& Int32.toUInt32 31)).toInt32) &&& 1431655765)).toUInt32 >>> ((2 : Int32).toUInt32 &&& Int32.toUInt32 31)).toInt32) &&& 858993459)) + (((((x0 - (((x0.toUInt32 >>> ((1 : Int32).toUInt32 &&& Int32.toUInt32 31)).toInt32) &&& 1431655765)) &&& 858993459) + ((((x0 - (((x0.toUInt32 >>> ((1 : Int32).toUInt32 &&& Int32.toUInt32 31)).toInt32) &&& 1431655765)).toUInt32 >>> ((2 : Int32).toUInt32 &&& Int32.toUInt32 31)).toInt32) &&& 858993459)).toUInt32 >>> ((4 : Int32).toUInt32 &&& Int32.toUInt32 31)).toInt32)) &&& 252645135).toUInt32 >>> ((8 : Int32).toUInt32 &&& Int32.toUInt32 31)).toInt32)))]) hx hb dJ6_bitCount_0f7a4_40 rfl hl (by decide) rfl (fun ls hl => ?_)
  refine lv_iload_n hx hb dJ6_bitCount_0f7a4_41 rfl (lv_at hl 0 rfl) ?_
  refine lv_iload_n hx hb dJ6_bitCount_0f7a4_42 rfl (lv_at hl 0 rfl) ?_
  refine lv_bipush (v := 16) hx hb dJ6_bitCount_0f7a4_43 (by decide) ?_
  refine lv_iushr hx hb dJ6_bitCount_0f7a4_45 rfl ?_
  refine lv_iadd hx hb dJ6_bitCount_0f7a4_46 ?_
  refine lv_istore_n (lv' := [(0, .int (((((((x0 - (((x0.toUInt32 >>> ((1 : Int32).toUInt32 &&& Int32.toUInt32 31)).toInt32) &&& 1431655765)) &&& 858993459) + ((((x0 - (((x0.toUInt32 >>> ((1 : Int32).toUInt32 &&& Int32.toUInt32 31)).toInt32) &&& 1431655765)).toUInt32 >>> ((2 : Int32).toUInt32 &&& Int32.toUInt32 31)).toInt32) &&& 858993459)) + (((((x0 - (((x0.toUInt32 >>> ((1 : Int32).toUInt32 &&& Int32.toUInt32 31)).toInt32) &&& 1431655765)) &&& 858993459) + ((((x0 - (((x0.toUInt32 >>> ((1 : Int32).toUInt32 &&& Int32.toUInt32 31)).toInt32) &&& 1431655765)).toUInt32 >>> ((2 : Int32).toUInt32 &&& Int32.toUInt32 31)).toInt32) &&& 858993459)).toUInt32 >>> ((4 : Int32).toUInt32 &&& Int32.toUInt32 31)).toInt32)) &&& 252645135) + (((((((x0 - (((x0.toUInt32 >>> ((1 : Int32).toUInt32 &&& Int32.toUInt32 31)).toInt32) &&& 1431655765)) &&& 858993459) + ((((x0 - (((x0.toUInt32 >>> ((1 : Int32).toUInt32 &&& Int32.toUInt32 31)).toInt32) &&& 1431655765)).toUInt32 >>> ((2 : Int32).toUInt32 &&& Int32.toUInt32 31)).toInt32) &&& 858993459)) + (((((x0 - (((x0.toUInt32 >>> ((1 : Int32).toUInt32 &&& Int32.toUInt32 31)).toInt32) &&& 1431655765)) &&& 858993459) + ((((x0 - (((x0.toUInt32 >>> ((1 : Int32).toUInt32 &&& Int32.toUInt32 31)).toInt32) &&& 1431655765)).toUInt32 >>> ((2 : Int32).toUInt32 &&& Int32.toUInt32 31)).toInt32) &&& 858993459)).toUInt32 >>> ((4 : Int32).toUInt32 &&& Int32.toUInt32 31)).toInt32)) &&& 252645135).toUInt32 >>> ((8 : Int32).toUInt32 &&& Int32.toUInt32 31)).toInt32)) + ((((((((x0 - (((x0.toUInt32 >>> ((1 : Int32).toUInt32 &&& Int32.toUInt32 31)).toInt32) &&& 1431655765)) &&& 858993459) + ((((x0 - (((x0.toUInt32 >>> ((1 : Int32).toUInt32 &&& Int32.toUInt32 31)).toInt32) &&& 1431655765)).toUInt32 >>> ((2 : Int32).toUInt32 &&& Int32.toUInt32 31)).toInt32) &&& 858993459)) + (((((x0 - (((x0.toUInt32 >>> ((1 : Int32).toUInt32 &&& Int32.toUInt32 31)).toInt32) &&& 1431655765)) &&& 858993459) + ((((x0 - (((x0.toUInt32 >>> ((1 : Int32).toUInt32 &&& Int32.toUInt32 31)).toInt32) &&& 1431655765)).toUInt32 >>> ((2 : Int32).toUInt32 &&& Int32.toUInt32 31)).toInt32) &&& 858993459)).toUInt32 >>> ((4 : Int32).toUInt32 &&& Int32.toUInt32 31)).toInt32)) &&& 252645135) + (((((((x0 - (((x0.toUInt32 >>> ((1 : Int32).toUInt32 &&& Int32.toUInt32 31)).toInt32) &&& 1431655765)) &&& 858993459) + ((((x0 - (((x0.toUInt32 >>> ((1 : Int32).toUInt32 &&& Int32.toUInt32 31)).toInt32) &&& 1431655765)).toUInt32 >>> ((2 : Int32).toUInt32 &&& Int32.toUInt32 31)).toInt32) &&& 858993459)) + (((((x0 - (((x0.toUInt32 >>> ((1 : Int32).toUInt32 &&& Int32.toUInt32 31)).toInt32) &&& 1431655765)) &&& 858993459) + ((((x0 - (((x0.toUInt32 >>> ((1 : Int32).toUInt32 &&& Int32.toUInt32 31)).toInt32) &&& 1431655765)).toUInt32 >>> ((2 : Int32).toUInt32 &&& Int32.toUInt32 31)).toInt32) &&& 858993459)).toUInt32 >>> ((4 : Int32).toUInt32 &&& Int32.toUInt32 31)).toInt32)) &&& 252645135).toUInt32 >>> ((8 : Int32).toUInt32 &&& Int32.toUInt32 31)).toInt32)).toUInt32 >>> ((16 : Int32).toUInt32 &&& Int32.toUInt32 31)).toInt32)))]) hx hb dJ6_bitCount_0f7a4_47 rfl hl (by decide) rfl (fun ls hl => ?_)
  refine lv_iload_n hx hb dJ6_bitCount_0f7a4_48 rfl (lv_at hl 0 rfl) ?_
  refine lv_bipush (v := 63) hx hb dJ6_bitCount_0f7a4_49 (by decide) ?_
  refine lv_iand hx hb dJ6_bitCount_0f7a4_51 ?_
  exact W.iret (v := (((((((x0 - (((x0.toUInt32 >>> ((1 : Int32).toUInt32 &&& Int32.toUInt32 31)).toInt32) &&& 1431655765)) &&& 858993459) + ((((x0 - (((x0.toUInt32 >>> ((1 : Int32).toUInt32 &&& Int32.toUInt32 31)).toInt32) &&& 1431655765)).toUInt32 >>> ((2 : Int32).toUInt32 &&& Int32.toUInt32 31)).toInt32) &&& 858993459)) + (((((x0 - (((x0.toUInt32 >>> ((1 : Int32).toUInt32 &&& Int32.toUInt32 31)).toInt32) &&& 1431655765)) &&& 858993459) + ((((x0 - (((x0.toUInt32 >>> ((1 : Int32).toUInt32 &&& Int32.toUInt32 31)).toInt32) &&& 1431655765)).toUInt32 >>> ((2 : Int32).toUInt32 &&& Int32.toUInt32 31)).toInt32) &&& 858993459)).toUInt32 >>> ((4 : Int32).toUInt32 &&& Int32.toUInt32 31)).toInt32)) &&& 252645135) + (((((((x0 - (((x0.toUInt32 >>> ((1 : Int32).toUInt32 &&& Int32.toUInt32 31)).toInt32) &&& 1431655765)) &&& 858993459) + ((((x0 - (((x0.toUInt32 >>> ((1 : Int32).toUInt32 &&& Int32.toUInt32 31)).toInt32) &&& 1431655765)).toUInt32 >>> ((2 : Int32).toUInt32 &&& Int32.toUInt32 31)).toInt32) &&& 858993459)) + (((((x0 - (((x0.toUInt32 >>> ((1 : Int32).toUInt32 &&& Int32.toUInt32 31)).toInt32) &&& 1431655765)) &&& 858993459) + ((((x0 - (((x0.toUInt32 >>> ((1 : Int32).toUInt32 &&& Int32.toUInt32 31)).toInt32) &&& 1431655765)).toUInt32 >>> ((2 : Int32).toUInt32 &&& Int32.toUInt32 31)).toInt32) &&& 858993459)).toUInt32 >>> ((4 : Int32).toUInt32 &&& Int32.toUInt32 31)).toInt32)) &&& 252645135).toUInt32 >>> ((8 : Int32).toUInt32 &&& Int32.toUInt32 31)).toInt32)) + ((((((((x0 - (((x0.toUInt32 >>> ((1 : Int32).toUInt32 &&& Int32.toUInt32 31)).toInt32) &&& 1431655765)) &&& 858993459) + ((((x0 - (((x0.toUInt32 >>> ((1 : Int32).toUInt32 &&& Int32.toUInt32 31)).toInt32) &&& 1431655765)).toUInt32 >>> ((2 : Int32).toUInt32 &&& Int32.toUInt32 31)).toInt32) &&& 858993459)) + (((((x0 - (((x0.toUInt32 >>> ((1 : Int32).toUInt32 &&& Int32.toUInt32 31)).toInt32) &&& 1431655765)) &&& 858993459) + ((((x0 - (((x0.toUInt32 >>> ((1 : Int32).toUInt32 &&& Int32.toUInt32 31)).toInt32) &&& 1431655765)).toUInt32 >>> ((2 : Int32).toUInt32 &&& Int32.toUInt32 31)).toInt32) &&& 858993459)).toUInt32 >>> ((4 : Int32).toUInt32 &&& Int32.toUInt32 31)).toInt32)) &&& 252645135) + (((((((x0 - (((x0.toUInt32 >>> ((1 : Int32).toUInt32 &&& Int32.toUInt32 31)).toInt32) &&& 1431655765)) &&& 858993459) + ((((x0 - (((x0.toUInt32 >>> ((1 : Int32).toUInt32 &&& Int32.toUInt32 31)).toInt32) &&& 1431655765)).toUInt32 >>> ((2 : Int32).toUInt32 &&& Int32.toUInt32 31)).toInt32) &&& 858993459)) + (((((x0 - (((x0.toUInt32 >>> ((1 : Int32).toUInt32 &&& Int32.toUInt32 31)).toInt32) &&& 1431655765)) &&& 858993459) + ((((x0 - (((x0.toUInt32 >>> ((1 : Int32).toUInt32 &&& Int32.toUInt32 31)).toInt32) &&& 1431655765)).toUInt32 >>> ((2 : Int32).toUInt32 &&& Int32.toUInt32 31)).toInt32) &&& 858993459)).toUInt32 >>> ((4 : Int32).toUInt32 &&& Int32.toUInt32 31)).toInt32)) &&& 252645135).toUInt32 >>> ((8 : Int32).toUInt32 &&& Int32.toUInt32 31)).toInt32)).toUInt32 >>> ((16 : Int32).toUInt32 &&& Int32.toUInt32 31)).toInt32)) &&& 63) hx hb hr (fun t ht hW => ⟨congrArg (fun z => Outcome.returned (some (Value.int z))) hf.symm, ht⟩) (fun _ h => absurd h List.not_mem_nil) dJ6_bitCount_0f7a4_52

def f_X1_lastWithout (f_t_gaps : Nat → Int32) (f_t_lasts : Nat → Int32) (x1 : Int32) (x2 : Int32) : Int32 :=
  if ¬ (x1 ^^^ (1 <<< (x2 &&& 31))) = 0 then f_t_lasts (x1 ^^^ (1 <<< (x2 &&& 31))).toNatClampNeg else f_t_gaps x2.toNatClampNeg
/- in@24 -/ theorem s_X1_lastWithout_1 (x1 : Int32) (x2 : Int32) (hp0 : 0 ≤ x1) (hp1 : x1 < 64) (hp2 : 0 ≤ x2) (hp3 : x2 < 6) (c_7 : ¬ (x1 ^^^ (1 <<< (x2 &&& 31))) = 0) : vp_in (x1 ^^^ (1 <<< (x2 &&& 31))) 64 := xor_in hp0 hp1 hp2 hp3
/- in@15 -/ theorem s_X1_lastWithout_2 (x1 : Int32) (x2 : Int32) (hp0 : 0 ≤ x1) (hp1 : x1 < 64) (hp2 : 0 ≤ x2) (hp3 : x2 < 6) (c_7 : (x1 ^^^ (1 <<< (x2 &&& 31))) = 0) : vp_in x2 6 := vin (k := 6) (by grind) (by grind) (by decide)
set_option maxHeartbeats 4000000 in
set_option maxRecDepth 100000 in
theorem c_X1_lastWithout (l : Launch) (D : va_G) (cI cZ cO : ClassId) (a_t : Nat) (a_t_gaps : Nat) (a_t_lasts : Nat) (v_t_size : Int32) (v_t_struck : Int32) (f_t_gaps : Nat → Int32) (f_t_lasts : Nat → Int32) (x1 : Int32) (x2 : Int32) (hp0 : 0 ≤ x1) (hp1 : x1 < 64) (hp2 : 0 ≤ x2) (hp3 : x2 < 6) (hp4 : 0 ≤ v_t_size) (hp5 : v_t_size ≤ 6) : Met l yX1_lastWithout wsX1_lastWithout ({ frames := 0, cells := 0, slots := 0, locals := 0 }) (PcP D (tysG cI cZ cO) [.ref a_t, .int x1, .int x2] [(a_t, .inr (1, [.ref a_t_gaps, .ref a_t_lasts, .int v_t_size, .int v_t_struck])), (a_t_gaps, .inl (cI, 6, .inl f_t_gaps)), (a_t_lasts, .inl (cI, 64, .inl f_t_lasts))]) (QP (.int (f_X1_lastWithout f_t_gaps f_t_lasts x1 x2))) 0 0 (fun _ => False) := by
  refine Met.ofW (cc := cX1_lastWithout) (maxL := 4) (ret := (some .int)) (by decide) rfl ?_
  intro p e s m args below meth c s₁ B hml hv
  obtain ⟨rfl, hP, hKX⟩ := hv
  have hx := B.exec
  have hb := B.bytes
  have hr := B.returns
  have hts := atoms_spec (ws := wsX1_lastWithout) B.pre
  have hown : s.vm.findClass RX1 = some m.cls := findClass_of_methodNamed B.named
  have hlocks := B.notSynchronized
  have hK := hKX.1
  have hwX1 : ∀ w ∈ wsX10, w ∈ wsX1_lastWithout := by decide +kernel
  have hl := lv_entry ([.ref a_t, .int x1, .int x2]) (n := 4) (Nat.le_of_ble_eq_true rfl)
  rw [lg_entry_eq]
  generalize (lg_sl ([.ref a_t, .int x1, .int x2]) ++ List.replicate (4 - (lg_sl ([.ref a_t, .int x1, .int x2])).length) Slot.unset).toArray = ls at hl ⊢
  have hl : lv_has ls 4 [(0, .ref a_t), (1, .int x1), (2, .int x2)] := hl
  have hf := f_X1_lastWithout.eq_1 f_t_gaps f_t_lasts x1 x2
  refine lv_iload_n hx hb dX1_lastWithout_0 rfl (lv_at hl 1 rfl) ?_
  refine lv_iconst (v := 1) hx hb dX1_lastWithout_1 (by decide) ?_
  refine lv_iload_n hx hb dX1_lastWithout_2 rfl (lv_at hl 2 rfl) ?_
  refine lv_ishl hx hb dX1_lastWithout_3 ?_
  refine lv_ixor hx hb dX1_lastWithout_4 ?_
  refine lv_istore_n (lv' := [(3, .int (x1 ^^^ (1 <<< (x2 &&& 31)))), (0, .ref a_t), (1, .int x1), (2, .int x2)]) hx hb dX1_lastWithout_5 rfl hl (by decide) rfl (fun ls hl => ?_)
  refine lv_iload_n hx hb dX1_lastWithout_6 rfl (lv_at hl 0 rfl) ?_
  refine lv_if_ne (tgt := 19) hx hb dX1_lastWithout_7 (by decide) (fun c_7 => ?_) (fun c_7 => ?_)
  · replace hf := hf.trans (if_pos c_7)
    refine lv_aload_n hx hb dX1_lastWithout_19 rfl (lv_at hl 1 rfl) ?_
    refine va_get (D := D) (ci := 1) (v := .ref a_t_lasts) (C := RX1) (T := TX1) (N := 4) hx hb hts hwX1 hown hK hP 0 rfl rfl 1 (by decide) (hts (.fieldLink RX1 15 "SkippedDay$Sides" "lasts" "[I") (by decide +kernel)) (fun _ h9 => h9) rfl dX1_lastWithout_20 ?_
    refine lv_iload_n hx hb dX1_lastWithout_23 rfl (lv_at hl 0 rfl) ?_
    refine va_iald hx hb hK hP 2 0 rfl rfl (s_X1_lastWithout_1 x1 x2 hp0 hp1 hp2 hp3 c_7) dX1_lastWithout_24 ?_
    exact W.iret (v := f_t_lasts (x1 ^^^ (1 <<< (x2 &&& 31))).toNatClampNeg) hx hb hr (fun t ht hW => ⟨congrArg (fun z => Outcome.returned (some (Value.int z))) hf.symm, ht⟩) (fun _ h => absurd h List.not_mem_nil) dX1_lastWithout_25
  · replace hf := hf.trans (if_neg (fun h9 => h9 c_7))
    refine lv_aload_n hx hb dX1_lastWithout_10 rfl (lv_at hl 1 rfl) ?_
    refine va_get (D := D) (ci := 1) (v := .ref a_t_gaps) (C := RX1) (T := TX1) (N := 4) hx hb hts hwX1 hown hK hP 0 rfl rfl 0 (by decide) (hts (.fieldLink RX1 11 "SkippedDay$Sides" "gaps" "[I") (by decide +kernel)) (fun _ h9 => h9) rfl dX1_lastWithout_11 ?_
    refine lv_iload_n hx hb dX1_lastWithout_14 rfl (lv_at hl 3 rfl) ?_
    refine va_iald hx hb hK hP 1 0 rfl rfl (s_X1_lastWithout_2 x1 x2 hp0 hp1 hp2 hp3 c_7) dX1_lastWithout_15 ?_
    refine lv_goto (tgt := 25) hx hb dX1_lastWithout_16 (by decide) ?_
    exact W.iret (v := f_t_gaps x2.toNatClampNeg) hx hb hr (fun t ht hW => ⟨congrArg (fun z => Outcome.returned (some (Value.int z))) hf.symm, ht⟩) (fun _ h => absurd h List.not_mem_nil) dX1_lastWithout_25

def f_X1_settle_j69 (x6_4 : Int32) (k6 : Int32 → Int32 → Int32 → Int32 × (Nat → Int32)) (x69_3 : Int32) (w69_t_struck : Int32) : Int32 × (Nat → Int32) :=
  k6 x69_3 (x6_4 + 1) w69_t_struck
def f_X1_settle_j55 (f_t_gaps : Nat → Int32) (f_t_lasts : Nat → Int32) (x1 : Int32) (x6_4 : Int32) (k6 : Int32 → Int32 → Int32 → Int32 × (Nat → Int32)) : Int32 × (Nat → Int32) :=
  f_X1_settle_j69 x6_4 k6 (f_X1_lastWithout f_t_gaps f_t_lasts x1 x6_4) (f_t_gaps x6_4.toNatClampNeg)
def f_X1_settle_b6 (v_t_size : Int32) (f_t_gaps : Nat → Int32) (f_t_lasts : Nat → Int32) (x1 : Int32) (x2 : Int32) (k6 : Int32 → Int32 → Int32 → Int32 × (Nat → Int32)) (x6_3 : Int32) (x6_4 : Int32) (w6_t_struck : Int32) : Int32 × (Nat → Int32) :=
  if v_t_size ≤ x6_4 then (w6_t_struck, upd f_t_lasts x1.toNatClampNeg x6_3) else if ((x1 >>> (x6_4 &&& 31)) &&& 1) = 0 then f_X1_settle_j69 x6_4 k6 x6_3 w6_t_struck else if x6_3 = ((-9)) then f_X1_settle_j55 f_t_gaps f_t_lasts x1 x6_4 k6 else if (if 0 ≤ (x6_3 - x2) then (x6_3 - x2) else 0 - (x6_3 - x2)) ≤ (if 0 ≤ ((f_X1_lastWithout f_t_gaps f_t_lasts x1 x6_4) - x2) then ((f_X1_lastWithout f_t_gaps f_t_lasts x1 x6_4) - x2) else 0 - ((f_X1_lastWithout f_t_gaps f_t_lasts x1 x6_4) - x2)) then f_X1_settle_j69 x6_4 k6 x6_3 w6_t_struck else f_X1_settle_j55 f_t_gaps f_t_lasts x1 x6_4 k6
def f_X1_settle (v_t_size : Int32) (v_t_struck : Int32) (f_t_gaps : Nat → Int32) (f_t_lasts : Nat → Int32) (x1 : Int32) (x2 : Int32) : Int32 × (Nat → Int32) :=
  it3 (f_X1_settle_b6 v_t_size f_t_gaps f_t_lasts x1 x2) default ((v_t_size.toInt - (0 : Int32).toInt).toNat + 1) ((-9)) 0 v_t_struck
/- in@81 -/ theorem s_X1_settle_1 (x1 : Int32) (hp0 : 0 ≤ x1) (hp1 : x1 < 64) : vp_in x1 64 := vin (k := 64) (by grind) (by grind) (by decide)
/- inv0@72>6 -/ theorem s_X1_settle_2 (v_t_size : Int32) (x6_4 : Int32) (hp2 : 0 ≤ v_t_size) (hp3 : v_t_size ≤ 6) (hi6_0 : 0 ≤ x6_4) (c_12 : ¬ v_t_size ≤ x6_4) : 0 ≤ (x6_4 + 1) := by grind
/- hp0@28 -/ theorem s_X1_settle_3 (v_t_size : Int32) (x1 : Int32) (x6_4 : Int32) (hp0 : 0 ≤ x1) (hp1 : x1 < 64) (hp2 : 0 ≤ v_t_size) (hp3 : v_t_size ≤ 6) (hi6_0 : 0 ≤ x6_4) (c_12 : ¬ v_t_size ≤ x6_4) (c_21 : ¬ ((x1 >>> (x6_4 &&& 31)) &&& 1) = 0) : 0 ≤ x1 := by grind
/- hp1@28 -/ theorem s_X1_settle_4 (v_t_size : Int32) (x1 : Int32) (x6_4 : Int32) (hp0 : 0 ≤ x1) (hp1 : x1 < 64) (hp2 : 0 ≤ v_t_size) (hp3 : v_t_size ≤ 6) (hi6_0 : 0 ≤ x6_4) (c_12 : ¬ v_t_size ≤ x6_4) (c_21 : ¬ ((x1 >>> (x6_4 &&& 31)) &&& 1) = 0) : x1 < 64 := by grind
/- hp2@28 -/ theorem s_X1_settle_5 (v_t_size : Int32) (x1 : Int32) (x6_4 : Int32) (hp0 : 0 ≤ x1) (hp1 : x1 < 64) (hp2 : 0 ≤ v_t_size) (hp3 : v_t_size ≤ 6) (hi6_0 : 0 ≤ x6_4) (c_12 : ¬ v_t_size ≤ x6_4) (c_21 : ¬ ((x1 >>> (x6_4 &&& 31)) &&& 1) = 0) : 0 ≤ x6_4 := by grind
/- hp3@28 -/ theorem s_X1_settle_6 (v_t_size : Int32) (x1 : Int32) (x6_4 : Int32) (hp0 : 0 ≤ x1) (hp1 : x1 < 64) (hp2 : 0 ≤ v_t_size) (hp3 : v_t_size ≤ 6) (hi6_0 : 0 ≤ x6_4) (c_12 : ¬ v_t_size ≤ x6_4) (c_21 : ¬ ((x1 >>> (x6_4 &&& 31)) &&& 1) = 0) : x6_4 < 6 := by grind
/- hp4@28 -/ theorem s_X1_settle_7 (v_t_size : Int32) (x1 : Int32) (x6_4 : Int32) (hp0 : 0 ≤ x1) (hp1 : x1 < 64) (hp2 : 0 ≤ v_t_size) (hp3 : v_t_size ≤ 6) (hi6_0 : 0 ≤ x6_4) (c_12 : ¬ v_t_size ≤ x6_4) (c_21 : ¬ ((x1 >>> (x6_4 &&& 31)) &&& 1) = 0) : 0 ≤ v_t_size := by grind
/- hp5@28 -/ theorem s_X1_settle_8 (v_t_size : Int32) (x1 : Int32) (x6_4 : Int32) (hp0 : 0 ≤ x1) (hp1 : x1 < 64) (hp2 : 0 ≤ v_t_size) (hp3 : v_t_size ≤ 6) (hi6_0 : 0 ≤ x6_4) (c_12 : ¬ v_t_size ≤ x6_4) (c_21 : ¬ ((x1 >>> (x6_4 &&& 31)) &&& 1) = 0) : v_t_size ≤ 6 := by grind
/- in@65 -/ theorem s_X1_settle_9 (v_t_size : Int32) (x1 : Int32) (x6_4 : Int32) (hp0 : 0 ≤ x1) (hp1 : x1 < 64) (hp2 : 0 ≤ v_t_size) (hp3 : v_t_size ≤ 6) (hi6_0 : 0 ≤ x6_4) (c_12 : ¬ v_t_size ≤ x6_4) (c_21 : ¬ ((x1 >>> (x6_4 &&& 31)) &&& 1) = 0) : vp_in x6_4 6 := vin (k := 6) (by grind) (by grind) (by decide)
/- inv0@4>6 -/ theorem s_X1_settle_10  : 0 ≤ (0 : Int32) := by grind
set_option maxHeartbeats 4000000 in
set_option maxRecDepth 100000 in
theorem c_X1_settle (l : Launch) (D : va_G) (cI cZ cO : ClassId) (a_t : Nat) (a_t_gaps : Nat) (a_t_lasts : Nat) (v_t_size : Int32) (v_t_struck : Int32) (f_t_gaps : Nat → Int32) (f_t_lasts : Nat → Int32) (x1 : Int32) (x2 : Int32) (sz : Nat) (hp0 : 0 ≤ x1) (hp1 : x1 < 64) (hp2 : 0 ≤ v_t_size) (hp3 : v_t_size ≤ 6) : Met l yX1_settle wsX1_settle ({ frames := 1, cells := 0, slots := 0, locals := 40 }) (PcM D (tysG cI cZ cO) [.ref a_t, .int x1, .int x2] sz [(a_t, .inr (1, [.ref a_t_gaps, .ref a_t_lasts, .int v_t_size, .int v_t_struck])), (a_t_gaps, .inl (cI, 6, .inl f_t_gaps)), (a_t_lasts, .inl (cI, 64, .inl f_t_lasts))]) (va_Qv (fun u : Int32 × (Nat → Int32) => u = f_X1_settle v_t_size v_t_struck f_t_gaps f_t_lasts x1 x2) (BM D (va_A [(a_t, .inr (1, [.ref a_t_gaps, .ref a_t_lasts, .int v_t_size, .int v_t_struck])), (a_t_gaps, .inl (cI, 6, .inl f_t_gaps)), (a_t_lasts, .inl (cI, 64, .inl f_t_lasts))] sz) (fun u : Int32 × (Nat → Int32) => [(a_t, .inr (1, [.ref a_t_gaps, .ref a_t_lasts, .int v_t_size, .int u.1])), (a_t_gaps, .inl (cI, 6, .inl f_t_gaps)), (a_t_lasts, .inl (cI, 64, .inl u.2))])) (va_A [(a_t, .inr (1, [.ref a_t_gaps, .ref a_t_lasts, .int v_t_size, .int v_t_struck])), (a_t_gaps, .inl (cI, 6, .inl f_t_gaps)), (a_t_lasts, .inl (cI, 64, .inl f_t_lasts))] sz)) 0 0 (va_A [(a_t, .inr (1, [.ref a_t_gaps, .ref a_t_lasts, .int v_t_size, .int v_t_struck])), (a_t_gaps, .inl (cI, 6, .inl f_t_gaps)), (a_t_lasts, .inl (cI, 64, .inl f_t_lasts))] sz) := by
  refine Met.ofW (cc := cX1_settle) (maxL := 6) (ret := none) (by decide) rfl ?_
  intro p e s m args below meth c s₁ B hml hv
  obtain ⟨rfl, hsz, hP, hKX, hD0⟩ := hv
  have hx := B.exec
  have hb := B.bytes
  have hr := B.returns
  have hts := atoms_spec (ws := wsX1_settle) B.pre
  have hown : s.vm.findClass RX1 = some m.cls := findClass_of_methodNamed B.named
  have hlocks := B.notSynchronized
  have hK := hKX.1
  have hwX1 : ∀ w ∈ wsX10, w ∈ wsX1_settle := by decide +kernel
  subst hsz
  have hD := hD0.self (sz := s.heap.size)
  generalize hAe : va_A [(a_t, .inr (1, [.ref a_t_gaps, .ref a_t_lasts, .int v_t_size, .int v_t_struck])), (a_t_gaps, .inl (cI, 6, .inl f_t_gaps)), (a_t_lasts, .inl (cI, 64, .inl f_t_lasts))] s.heap.size = A at hD ⊢
  have hA : ∀ q : Nat, s.heap.size ≤ q → A q := fun q h => by rw [← hAe]; exact Or.inr h
  have hS : va_S A s.heap s.heap [] := va_S.rf
  have hP : va_P D vwCl [(a_t, .inr (1, [.ref a_t_gaps, .ref a_t_lasts, .int v_t_size, .int v_t_struck])), (a_t_gaps, .inl (cI, 6, .inl f_t_gaps)), (a_t_lasts, .inl (cI, 64, .inl f_t_lasts))] s.heap := hP
  have hl := lv_entry ([.ref a_t, .int x1, .int x2]) (n := 6) (Nat.le_of_ble_eq_true rfl)
  rw [lg_entry_eq]
  generalize (lg_sl ([.ref a_t, .int x1, .int x2]) ++ List.replicate (6 - (lg_sl ([.ref a_t, .int x1, .int x2])).length) Slot.unset).toArray = ls at hl ⊢
  have hl : lv_has ls 6 [(0, .ref a_t), (1, .int x1), (2, .int x2)] := hl
  have hf := f_X1_settle.eq_1 v_t_size v_t_struck f_t_gaps f_t_lasts x1 x2
  refine lv_bipush (v := (-9)) hx hb dX1_settle_0 (by decide) ?_
  refine lv_istore_n (lv' := [(3, .int ((-9))), (0, .ref a_t), (1, .int x1), (2, .int x2)]) hx hb dX1_settle_2 rfl hl (by decide) rfl (fun ls hl => ?_)
  refine lv_iconst (v := 0) hx hb dX1_settle_3 (by decide) ?_
  refine lv_istore (lv' := [(4, .int 0), (3, .int ((-9))), (0, .ref a_t), (1, .int x1), (2, .int x2)]) hx hb dX1_settle_4 hl (by decide) rfl (fun ls hl => ?_)
  have hJ_6 : ∀ (n6 : Nat) (x6_3 : Int32) (x6_4 : Int32) (w6_t_struck : Int32), f_X1_settle v_t_size v_t_struck f_t_gaps f_t_lasts x1 x2 = it3 (f_X1_settle_b6 v_t_size f_t_gaps f_t_lasts x1 x2) default n6 x6_3 x6_4 w6_t_struck → (v_t_size.toInt - x6_4.toInt).toNat < n6 → (0 ≤ x6_4) → ∀ (H : Heap) (locs : List Loc), va_P D vwCl [(a_t, .inr (1, [.ref a_t_gaps, .ref a_t_lasts, .int v_t_size, .int w6_t_struck])), (a_t_gaps, .inl (cI, 6, .inl f_t_gaps)), (a_t_lasts, .inl (cI, 64, .inl f_t_lasts))] H → va_D A [(a_t, .inr (1, [.ref a_t_gaps, .ref a_t_lasts, .int v_t_size, .int w6_t_struck])), (a_t_gaps, .inl (cI, 6, .inl f_t_gaps)), (a_t_lasts, .inl (cI, 64, .inl f_t_lasts))] → va_S A s.heap H locs → ∀ (ls : Array Slot), lv_has ls 6 [(0, .ref a_t), (1, .int x1), (2, .int x2), (3, .int x6_3), (4, .int x6_4)] → W p l e (headSpec wsX1_settle { frames := 1, cells := 0, slots := 0, locals := 40 }).room s m [.ref a_t, .int x1, .int x2].toArray below meth c H locs 0 0 (MQ below (va_Qv (fun u : Int32 × (Nat → Int32) => u = f_X1_settle v_t_size v_t_struck f_t_gaps f_t_lasts x1 x2) (BM D A (fun u : Int32 × (Nat → Int32) => [(a_t, .inr (1, [.ref a_t_gaps, .ref a_t_lasts, .int v_t_size, .int u.1])), (a_t_gaps, .inl (cI, 6, .inl f_t_gaps)), (a_t_lasts, .inl (cI, 64, .inl u.2))])) A) [.ref a_t, .int x1, .int x2].toArray s 0 0 A) (F0 m 6 ls []) := by
    intro n6
    induction n6 with
    | zero => intro x6_3 x6_4 w6_t_struck hf hm6; exact absurd hm6 (Nat.not_lt_zero _)
    | succ n6 ih6 =>
      intro x6_3 x6_4 w6_t_struck hf hm6 hi6_0 H locs hP hD hS ls hl
      replace hf := (hf.trans (it3_s _ _ _ _ _ _)).trans (f_X1_settle_b6.eq_1 _ _ _ _ _ _ _ _ _)
      refine lv_iload hx hb dX1_settle_6 (lv_at hl 4 rfl) ?_
      refine lv_aload_n hx hb dX1_settle_8 rfl (lv_at hl 0 rfl) ?_
      refine va_get (D := D) (ci := 1) (v := .int v_t_size) (C := RX1) (T := TX1) (N := 4) hx hb hts hwX1 hown hK hP 0 rfl rfl 2 (by decide) (hts (.fieldLink RX1 18 "SkippedDay$Sides" "size" "I") (by decide +kernel)) (fun _ h9 => h9) rfl dX1_settle_9 ?_
      refine lv_icmp_ge (tgt := 75) hx hb dX1_settle_12 (by decide) (fun c_12 => ?_) (fun c_12 => ?_)
      · replace hf := hf.trans (if_pos c_12)
        refine lv_aload_n hx hb dX1_settle_75 rfl (lv_at hl 0 rfl) ?_
        refine va_get (D := D) (ci := 1) (v := .ref a_t_lasts) (C := RX1) (T := TX1) (N := 4) hx hb hts hwX1 hown hK hP 0 rfl rfl 1 (by decide) (hts (.fieldLink RX1 15 "SkippedDay$Sides" "lasts" "[I") (by decide +kernel)) (fun _ h9 => h9) rfl dX1_settle_76 ?_
        refine lv_iload_n hx hb dX1_settle_79 rfl (lv_at hl 1 rfl) ?_
        refine lv_iload_n hx hb dX1_settle_80 rfl (lv_at hl 3 rfl) ?_
        refine va_iast hx hb hK hP hD hS 2 0 rfl rfl (s_X1_settle_1 x1 hp0 hp1) dX1_settle_81 (fun H locs hP hD hS => ?_)
        have hP : va_P D vwCl [(a_t, .inr (1, [.ref a_t_gaps, .ref a_t_lasts, .int v_t_size, .int w6_t_struck])), (a_t_gaps, .inl (cI, 6, .inl f_t_gaps)), (a_t_lasts, .inl (cI, 64, .inl (upd f_t_lasts x1.toNatClampNeg x6_3)))] H := hP
        have hD : va_D A [(a_t, .inr (1, [.ref a_t_gaps, .ref a_t_lasts, .int v_t_size, .int w6_t_struck])), (a_t_gaps, .inl (cI, 6, .inl f_t_gaps)), (a_t_lasts, .inl (cI, 64, .inl (upd f_t_lasts x1.toNatClampNeg x6_3)))] := hD
        exact W.vret hx hb hr (fun t ht hW => ⟨⟨(w6_t_struck, upd f_t_lasts x1.toNatClampNeg x6_3), rfl, hf.symm, by rw [ht]; exact hP.sub [0, 1, 2] rfl, hD.sub [0, 1, 2] (by decide) rfl⟩, hS.F ht⟩) hS.2.2 dX1_settle_82
      · replace hf := hf.trans (if_neg c_12)
        refine lv_iload_n hx hb dX1_settle_15 rfl (lv_at hl 1 rfl) ?_
        refine lv_iload hx hb dX1_settle_16 (lv_at hl 4 rfl) ?_
        refine lv_ishr hx hb dX1_settle_18 ?_
        refine lv_iconst (v := 1) hx hb dX1_settle_19 (by decide) ?_
        refine lv_iand hx hb dX1_settle_20 ?_
        have hJ_69 : ∀ (x69_3 : Int32) (w69_t_struck : Int32), f_X1_settle v_t_size v_t_struck f_t_gaps f_t_lasts x1 x2 = f_X1_settle_j69 x6_4 ((it3 (f_X1_settle_b6 v_t_size f_t_gaps f_t_lasts x1 x2) default n6)) x69_3 w69_t_struck → ∀ (H : Heap) (locs : List Loc), va_P D vwCl [(a_t, .inr (1, [.ref a_t_gaps, .ref a_t_lasts, .int v_t_size, .int w69_t_struck])), (a_t_gaps, .inl (cI, 6, .inl f_t_gaps)), (a_t_lasts, .inl (cI, 64, .inl f_t_lasts))] H → va_D A [(a_t, .inr (1, [.ref a_t_gaps, .ref a_t_lasts, .int v_t_size, .int w69_t_struck])), (a_t_gaps, .inl (cI, 6, .inl f_t_gaps)), (a_t_lasts, .inl (cI, 64, .inl f_t_lasts))] → va_S A s.heap H locs → ∀ (ls : Array Slot), lv_has ls 6 [(0, .ref a_t), (1, .int x1), (2, .int x2), (3, .int x69_3), (4, .int x6_4)] → W p l e (headSpec wsX1_settle { frames := 1, cells := 0, slots := 0, locals := 40 }).room s m [.ref a_t, .int x1, .int x2].toArray below meth c H locs 0 0 (MQ below (va_Qv (fun u : Int32 × (Nat → Int32) => u = f_X1_settle v_t_size v_t_struck f_t_gaps f_t_lasts x1 x2) (BM D A (fun u : Int32 × (Nat → Int32) => [(a_t, .inr (1, [.ref a_t_gaps, .ref a_t_lasts, .int v_t_size, .int u.1])), (a_t_gaps, .inl (cI, 6, .inl f_t_gaps)), (a_t_lasts, .inl (cI, 64, .inl u.2))])) A) [.ref a_t, .int x1, .int x2].toArray s 0 0 A) (F0 m 69 ls []) := by
          intro x69_3 w69_t_struck hf H locs hP hD hS ls hl
          replace hf := hf.trans (f_X1_settle_j69.eq_1 _ _ _ _)
          refine lv_iinc (v := x6_4 + 1) (lv' := [(4, .int (x6_4 + 1)), (0, .ref a_t), (1, .int x1), (2, .int x2), (3, .int x69_3)]) hx hb dX1_settle_69 hl (k := 4) rfl rfl (by decide) rfl (fun ls hl => ?_)
          refine lv_goto (tgt := 6) hx hb dX1_settle_72 (by decide) ?_
          exact ih6 x69_3 (x6_4 + 1) w69_t_struck hf (mu_up c_12 hm6) (s_X1_settle_2 v_t_size x6_4 hp2 hp3 hi6_0 c_12) _ _ (hP.sub [0, 1, 2] rfl) (hD.sub [0, 1, 2] (by decide) rfl) hS _ (lv_sub hl [1, 2, 3, 4, 0] rfl)
        refine lv_if_eq (tgt := 69) hx hb dX1_settle_21 (by decide) (fun c_21 => ?_) (fun c_21 => ?_)
        · replace hf := hf.trans (if_pos c_21)
          exact hJ_69 x6_3 w6_t_struck hf _ _ (hP.sub [0, 1, 2] rfl) (hD.sub [0, 1, 2] (by decide) rfl) hS _ (lv_sub hl [0, 1, 2, 3, 4] rfl)
        · replace hf := hf.trans (if_neg c_21)
          refine lv_aload_n hx hb dX1_settle_24 rfl (lv_at hl 0 rfl) ?_
          refine lv_iload_n hx hb dX1_settle_25 rfl (lv_at hl 1 rfl) ?_
          refine lv_iload hx hb dX1_settle_26 (lv_at hl 4 rfl) ?_
          refine pcV (As := [.int x1, .int x6_4]) (rest := []) ⟨hx, hb, hml, hown, hts⟩ (c_X1_lastWithout l D cI cZ cO a_t a_t_gaps a_t_lasts v_t_size w6_t_struck f_t_gaps f_t_lasts x1 x6_4 (s_X1_settle_3 v_t_size x1 x6_4 hp0 hp1 hp2 hp3 hi6_0 c_12 c_21) (s_X1_settle_4 v_t_size x1 x6_4 hp0 hp1 hp2 hp3 hi6_0 c_12 c_21) (s_X1_settle_5 v_t_size x1 x6_4 hp0 hp1 hp2 hp3 hi6_0 c_12 c_21) (s_X1_settle_6 v_t_size x1 x6_4 hp0 hp1 hp2 hp3 hi6_0 c_12 c_21) (s_X1_settle_7 v_t_size x1 x6_4 hp0 hp1 hp2 hp3 hi6_0 c_12 c_21) (s_X1_settle_8 v_t_size x1 x6_4 hp0 hp1 hp2 hp3 hi6_0 c_12 c_21)) (cwV 2 hts gX1_settle_X1_lastWithout rfl rfl rfl (by decide +kernel) ⟨Nat.le_of_ble_eq_true rfl, Nat.le_of_ble_eq_true rfl⟩) hKX hP [0, 1, 2] rfl 0 1 rfl rfl rfl rfl hl.1 rfl (Nat.le_of_ble_eq_true rfl) dX1_settle_28 ⟨Nat.le_of_ble_eq_true rfl, Nat.le_of_ble_eq_true rfl⟩ ?_
          refine lv_istore (lv' := [(5, .int (f_X1_lastWithout f_t_gaps f_t_lasts x1 x6_4)), (0, .ref a_t), (1, .int x1), (2, .int x2), (3, .int x6_3), (4, .int x6_4)]) hx hb dX1_settle_31 hl (by decide) rfl (fun ls hl => ?_)
          refine lv_iload_n hx hb dX1_settle_33 rfl (lv_at hl 4 rfl) ?_
          refine lv_bipush (v := (-9)) hx hb dX1_settle_34 (by decide) ?_
          have hJ_55 : f_X1_settle v_t_size v_t_struck f_t_gaps f_t_lasts x1 x2 = f_X1_settle_j55 f_t_gaps f_t_lasts x1 x6_4 ((it3 (f_X1_settle_b6 v_t_size f_t_gaps f_t_lasts x1 x2) default n6)) → ∀ (H : Heap) (locs : List Loc), va_P D vwCl [(a_t, .inr (1, [.ref a_t_gaps, .ref a_t_lasts, .int v_t_size, .int w6_t_struck])), (a_t_gaps, .inl (cI, 6, .inl f_t_gaps)), (a_t_lasts, .inl (cI, 64, .inl f_t_lasts))] H → va_D A [(a_t, .inr (1, [.ref a_t_gaps, .ref a_t_lasts, .int v_t_size, .int w6_t_struck])), (a_t_gaps, .inl (cI, 6, .inl f_t_gaps)), (a_t_lasts, .inl (cI, 64, .inl f_t_lasts))] → va_S A s.heap H locs → ∀ (ls : Array Slot), lv_has ls 6 [(0, .ref a_t), (1, .int x1), (2, .int x2), (4, .int x6_4), (5, .int (f_X1_lastWithout f_t_gaps f_t_lasts x1 x6_4))] → W p l e (headSpec wsX1_settle { frames := 1, cells := 0, slots := 0, locals := 40 }).room s m [.ref a_t, .int x1, .int x2].toArray below meth c H locs 0 0 (MQ below (va_Qv (fun u : Int32 × (Nat → Int32) => u = f_X1_settle v_t_size v_t_struck f_t_gaps f_t_lasts x1 x2) (BM D A (fun u : Int32 × (Nat → Int32) => [(a_t, .inr (1, [.ref a_t_gaps, .ref a_t_lasts, .int v_t_size, .int u.1])), (a_t_gaps, .inl (cI, 6, .inl f_t_gaps)), (a_t_lasts, .inl (cI, 64, .inl u.2))])) A) [.ref a_t, .int x1, .int x2].toArray s 0 0 A) (F0 m 55 ls []) := by
            intro hf H locs hP hD hS ls hl
            replace hf := hf.trans (f_X1_settle_j55.eq_1 _ _ _ _ _)
            refine lv_iload hx hb dX1_settle_55 (lv_at hl 4 rfl) ?_
            refine lv_istore_n (lv' := [(3, .int (f_X1_lastWithout f_t_gaps f_t_lasts x1 x6_4)), (0, .ref a_t), (1, .int x1), (2, .int x2), (4, .int x6_4), (5, .int (f_X1_lastWithout f_t_gaps f_t_lasts x1 x6_4))]) hx hb dX1_settle_57 rfl hl (by decide) rfl (fun ls hl => ?_)
            refine lv_aload_n hx hb dX1_settle_58 rfl (lv_at hl 1 rfl) ?_
            refine lv_aload_n hx hb dX1_settle_59 rfl (lv_at hl 1 rfl) ?_
            refine va_get (D := D) (ci := 1) (v := .ref a_t_gaps) (C := RX1) (T := TX1) (N := 4) hx hb hts hwX1 hown hK hP 0 rfl rfl 0 (by decide) (hts (.fieldLink RX1 11 "SkippedDay$Sides" "gaps" "[I") (by decide +kernel)) (fun _ h9 => h9) rfl dX1_settle_60 ?_
            refine lv_iload hx hb dX1_settle_63 (lv_at hl 4 rfl) ?_
            refine va_iald hx hb hK hP 1 0 rfl rfl (s_X1_settle_9 v_t_size x1 x6_4 hp0 hp1 hp2 hp3 hi6_0 c_12 c_21) dX1_settle_65 ?_
            refine va_put (D := D) (ci := 1) (v := .int (f_t_gaps x6_4.toNatClampNeg)) (ty := .int) (C := RX1) (T := TX1) (N := 4) hx hb hts hwX1 tyX1 tyX1_ok nmX1 hown hK hP hD hS 0 rfl rfl 3 (by decide) (hts (.fieldLink RX1 22 "SkippedDay$Sides" "struck" "I") (by decide +kernel)) (fun _ h9 => h9) rfl (by decide +kernel) rfl rfl (Nat.le_of_ble_eq_true rfl) dX1_settle_66 (fun H locs hP hD hS => ?_)
            have hP : va_P D vwCl [(a_t, .inr (1, [.ref a_t_gaps, .ref a_t_lasts, .int v_t_size, .int (f_t_gaps x6_4.toNatClampNeg)])), (a_t_gaps, .inl (cI, 6, .inl f_t_gaps)), (a_t_lasts, .inl (cI, 64, .inl f_t_lasts))] H := hP
            have hD : va_D A [(a_t, .inr (1, [.ref a_t_gaps, .ref a_t_lasts, .int v_t_size, .int (f_t_gaps x6_4.toNatClampNeg)])), (a_t_gaps, .inl (cI, 6, .inl f_t_gaps)), (a_t_lasts, .inl (cI, 64, .inl f_t_lasts))] := hD
            exact hJ_69 (f_X1_lastWithout f_t_gaps f_t_lasts x1 x6_4) (f_t_gaps x6_4.toNatClampNeg) hf _ _ (hP.sub [0, 1, 2] rfl) (hD.sub [0, 1, 2] (by decide) rfl) hS _ (lv_sub hl [1, 2, 3, 0, 4] rfl)
          refine lv_icmp_eq (tgt := 55) hx hb dX1_settle_36 (by decide) (fun c_36 => ?_) (fun c_36 => ?_)
          · replace hf := hf.trans (if_pos c_36)
            exact hJ_55 hf _ _ (hP.sub [0, 1, 2] rfl) (hD.sub [0, 1, 2] (by decide) rfl) hS _ (lv_sub hl [1, 2, 3, 5, 0] rfl)
          · replace hf := hf.trans (if_neg c_36)
            refine lv_iload hx hb dX1_settle_39 (lv_at hl 0 rfl) ?_
            refine lv_iload_n hx hb dX1_settle_41 rfl (lv_at hl 3 rfl) ?_
            refine lv_isub hx hb dX1_settle_42 ?_
            refine va_mabs hx hb (hml.trans hl.1.symm) hown (hts (.methodLink RX1 43 Lib.Math.abs.name) (by decide +kernel)) (hts (.static Lib.Math.abs.name) (by decide +kernel)) (hts (.initialized "java/lang/Math") (by decide +kernel)) (hts (.code Lib.Math.abs.name Lib.Math.abs.code 1 (some .int)) (by decide +kernel)) (Nat.le_of_ble_eq_true rfl) (Nat.le_of_ble_eq_true rfl) (Nat.zero_le _) (Nat.zero_le _) dX1_settle_43 ?_
            refine lv_iload_n hx hb dX1_settle_46 rfl (lv_at hl 4 rfl) ?_
            refine lv_iload_n hx hb dX1_settle_47 rfl (lv_at hl 3 rfl) ?_
            refine lv_isub hx hb dX1_settle_48 ?_
            refine va_mabs hx hb (hml.trans hl.1.symm) hown (hts (.methodLink RX1 43 Lib.Math.abs.name) (by decide +kernel)) (hts (.static Lib.Math.abs.name) (by decide +kernel)) (hts (.initialized "java/lang/Math") (by decide +kernel)) (hts (.code Lib.Math.abs.name Lib.Math.abs.code 1 (some .int)) (by decide +kernel)) (Nat.le_of_ble_eq_true rfl) (Nat.le_of_ble_eq_true rfl) (Nat.zero_le _) (Nat.zero_le _) dX1_settle_49 ?_
            refine lv_icmp_ge (tgt := 69) hx hb dX1_settle_52 (by decide) (fun c_52 => ?_) (fun c_52 => ?_)
            · replace hf := hf.trans (if_pos c_52)
              exact hJ_69 x6_3 w6_t_struck hf _ _ (hP.sub [0, 1, 2] rfl) (hD.sub [0, 1, 2] (by decide) rfl) hS _ (lv_sub hl [1, 2, 3, 4, 5] rfl)
            · replace hf := hf.trans (if_neg c_52)
              exact hJ_55 hf _ _ (hP.sub [0, 1, 2] rfl) (hD.sub [0, 1, 2] (by decide) rfl) hS _ (lv_sub hl [1, 2, 3, 5, 0] rfl)
  exact hJ_6 _ ((-9)) 0 v_t_struck hf (Nat.lt_succ_self _) s_X1_settle_10 _ _ (hP.sub [0, 1, 2] rfl) (hD.sub [0, 1, 2] (by decide) rfl) hS _ (lv_sub hl [2, 3, 4, 1, 0] rfl)

def f_X1_play_j54 (u2_t_size : Int32) (u2_t_gaps : Nat → Int32) (x8_4 : Int32) (w8_t_struck : Int32) (w8_t_lasts : Nat → Int32) (k8 : Int32 → Int32 → (Nat → Int32) → Int32 × Int32 × (Nat → Int32) × (Nat → Int32)) (y54_2 : Int32) : Int32 × Int32 × (Nat → Int32) × (Nat → Int32) :=
  ap2 (f_X1_settle u2_t_size w8_t_struck u2_t_gaps w8_t_lasts x8_4 y54_2) (fun u54_t_struck u54_t_lasts => k8 (x8_4 + 1) u54_t_struck u54_t_lasts)
def f_X1_play_j39 (x2 : Int32) (x3 : Int32) (u2_t_size : Int32) (u2_t_gaps : Nat → Int32) (x8_4 : Int32) (w8_t_struck : Int32) (w8_t_lasts : Nat → Int32) (k8 : Int32 → Int32 → (Nat → Int32) → Int32 × Int32 × (Nat → Int32) × (Nat → Int32)) (y39_0 : Int32) : Int32 × Int32 × (Nat → Int32) × (Nat → Int32) :=
  if y39_0 = 0 then f_X1_play_j54 u2_t_size u2_t_gaps x8_4 w8_t_struck w8_t_lasts k8 x3 else f_X1_play_j54 u2_t_size u2_t_gaps x8_4 w8_t_struck w8_t_lasts k8 x2
def f_X1_play_b8 (x2 : Int32) (x3 : Int32) (u2_t_size : Int32) (u2_t_gaps : Nat → Int32) (k8 : Int32 → Int32 → (Nat → Int32) → Int32 × Int32 × (Nat → Int32) × (Nat → Int32)) (x8_4 : Int32) (w8_t_struck : Int32) (w8_t_lasts : Nat → Int32) : Int32 × Int32 × (Nat → Int32) × (Nat → Int32) :=
  if (1 <<< (u2_t_size &&& 31)) ≤ x8_4 then (u2_t_size, w8_t_struck, u2_t_gaps, w8_t_lasts) else if ¬ ((u2_t_size - (f_J6_bitCount_0f7a4 x8_4)) - (u2_t_size - (f_J6_bitCount_0f7a4 x8_4)) / 2 * 2) = 0 then f_X1_play_j39 x2 x3 u2_t_size u2_t_gaps x8_4 w8_t_struck w8_t_lasts k8 0 else f_X1_play_j39 x2 x3 u2_t_size u2_t_gaps x8_4 w8_t_struck w8_t_lasts k8 1
def f_X1_play (v_t_struck : Int32) (f_t_gaps : Nat → Int32) (f_t_lasts : Nat → Int32) (x1 : Int32) (x2 : Int32) (x3 : Int32) : Int32 × Int32 × (Nat → Int32) × (Nat → Int32) :=
  ap2 (f_X1_list f_t_gaps x1) (fun u2_t_size u2_t_gaps => it3 (f_X1_play_b8 x2 x3 u2_t_size u2_t_gaps) default (((1 <<< (u2_t_size &&& 31)).toInt - (1 : Int32).toInt).toNat + 1) 1 v_t_struck f_t_lasts)
/- hp0@2 -/ theorem s_X1_play_1 (v_t_size : Int32) (hp0 : 0 ≤ v_t_size) (hp1 : v_t_size ≤ 6) : 0 ≤ v_t_size := by grind
/- hp1@2 -/ theorem s_X1_play_2 (v_t_size : Int32) (hp0 : 0 ≤ v_t_size) (hp1 : v_t_size ≤ 6) : v_t_size ≤ 6 := by grind
/- post0@63 -/ theorem s_X1_play_3 (u2_t_size : Int32) (x8_4 : Int32) (hq2_0 : 0 ≤ u2_t_size) (hq2_1 : u2_t_size ≤ 6) (hi8_0 : 1 ≤ x8_4) (c_16 : (1 <<< (u2_t_size &&& 31)) ≤ x8_4) : 0 ≤ u2_t_size := by grind
/- post1@63 -/ theorem s_X1_play_4 (u2_t_size : Int32) (x8_4 : Int32) (hq2_0 : 0 ≤ u2_t_size) (hq2_1 : u2_t_size ≤ 6) (hi8_0 : 1 ≤ x8_4) (c_16 : (1 <<< (u2_t_size &&& 31)) ≤ x8_4) : u2_t_size ≤ 6 := by grind
/- nz@30 -/ theorem s_X1_play_5  : ¬ (2 : Int32) = 0 := by grind
/- hp0@54 -/ theorem s_X1_play_6 (u2_t_size : Int32) (x8_4 : Int32) (hq2_0 : 0 ≤ u2_t_size) (hq2_1 : u2_t_size ≤ 6) (hi8_0 : 1 ≤ x8_4) (c_16 : ¬ (1 <<< (u2_t_size &&& 31)) ≤ x8_4) : 0 ≤ x8_4 := by grind
/- hp1@54 -/ theorem s_X1_play_7 (u2_t_size : Int32) (x8_4 : Int32) (hq2_0 : 0 ≤ u2_t_size) (hq2_1 : u2_t_size ≤ 6) (hi8_0 : 1 ≤ x8_4) (c_16 : ¬ (1 <<< (u2_t_size &&& 31)) ≤ x8_4) : x8_4 < 64 := by have := shl_bd hq2_0 hq2_1; grind
/- hp2@54 -/ theorem s_X1_play_8 (u2_t_size : Int32) (x8_4 : Int32) (hq2_0 : 0 ≤ u2_t_size) (hq2_1 : u2_t_size ≤ 6) (hi8_0 : 1 ≤ x8_4) (c_16 : ¬ (1 <<< (u2_t_size &&& 31)) ≤ x8_4) : 0 ≤ u2_t_size := by grind
/- hp3@54 -/ theorem s_X1_play_9 (u2_t_size : Int32) (x8_4 : Int32) (hq2_0 : 0 ≤ u2_t_size) (hq2_1 : u2_t_size ≤ 6) (hi8_0 : 1 ≤ x8_4) (c_16 : ¬ (1 <<< (u2_t_size &&& 31)) ≤ x8_4) : u2_t_size ≤ 6 := by grind
/- inv0@60>8 -/ theorem s_X1_play_10 (u2_t_size : Int32) (x8_4 : Int32) (hq2_0 : 0 ≤ u2_t_size) (hq2_1 : u2_t_size ≤ 6) (hi8_0 : 1 ≤ x8_4) (c_16 : ¬ (1 <<< (u2_t_size &&& 31)) ≤ x8_4) : 1 ≤ (x8_4 + 1) := by grind
/- inv0@6>8 -/ theorem s_X1_play_11  : 1 ≤ (1 : Int32) := by grind
set_option maxHeartbeats 4000000 in
set_option maxRecDepth 100000 in
theorem c_X1_play (l : Launch) (D : va_G) (cI cZ cO : ClassId) (a_t : Nat) (a_t_gaps : Nat) (a_t_lasts : Nat) (v_t_size : Int32) (v_t_struck : Int32) (f_t_gaps : Nat → Int32) (f_t_lasts : Nat → Int32) (x1 : Int32) (x2 : Int32) (x3 : Int32) (sz : Nat) (hp0 : 0 ≤ v_t_size) (hp1 : v_t_size ≤ 6) : Met l yX1_play wsX1_play ({ frames := 2, cells := 0, slots := 0, locals := 65 }) (PcM D (tysG cI cZ cO) [.ref a_t, .int x1, .int x2, .int x3] sz [(a_t, .inr (1, [.ref a_t_gaps, .ref a_t_lasts, .int v_t_size, .int v_t_struck])), (a_t_gaps, .inl (cI, 6, .inl f_t_gaps)), (a_t_lasts, .inl (cI, 64, .inl f_t_lasts))]) (va_Qv (fun u : Int32 × Int32 × (Nat → Int32) × (Nat → Int32) => u = f_X1_play v_t_struck f_t_gaps f_t_lasts x1 x2 x3 ∧ (0 ≤ u.1) ∧ (u.1 ≤ 6)) (BM D (va_A [(a_t, .inr (1, [.ref a_t_gaps, .ref a_t_lasts, .int v_t_size, .int v_t_struck])), (a_t_gaps, .inl (cI, 6, .inl f_t_gaps)), (a_t_lasts, .inl (cI, 64, .inl f_t_lasts))] sz) (fun u : Int32 × Int32 × (Nat → Int32) × (Nat → Int32) => [(a_t, .inr (1, [.ref a_t_gaps, .ref a_t_lasts, .int u.1, .int u.2.1])), (a_t_gaps, .inl (cI, 6, .inl u.2.2.1)), (a_t_lasts, .inl (cI, 64, .inl u.2.2.2))])) (va_A [(a_t, .inr (1, [.ref a_t_gaps, .ref a_t_lasts, .int v_t_size, .int v_t_struck])), (a_t_gaps, .inl (cI, 6, .inl f_t_gaps)), (a_t_lasts, .inl (cI, 64, .inl f_t_lasts))] sz)) 0 0 (va_A [(a_t, .inr (1, [.ref a_t_gaps, .ref a_t_lasts, .int v_t_size, .int v_t_struck])), (a_t_gaps, .inl (cI, 6, .inl f_t_gaps)), (a_t_lasts, .inl (cI, 64, .inl f_t_lasts))] sz) := by
  refine Met.ofW (cc := cX1_play) (maxL := 6) (ret := none) (by decide) rfl ?_
  intro p e s m args below meth c s₁ B hml hv
  obtain ⟨rfl, hsz, hP, hKX, hD0⟩ := hv
  have hx := B.exec
  have hb := B.bytes
  have hr := B.returns
  have hts := atoms_spec (ws := wsX1_play) B.pre
  have hown : s.vm.findClass RX1 = some m.cls := findClass_of_methodNamed B.named
  have hlocks := B.notSynchronized
  have hK := hKX.1
  have hwX1 : ∀ w ∈ wsX10, w ∈ wsX1_play := by decide +kernel
  subst hsz
  have hD := hD0.self (sz := s.heap.size)
  generalize hAe : va_A [(a_t, .inr (1, [.ref a_t_gaps, .ref a_t_lasts, .int v_t_size, .int v_t_struck])), (a_t_gaps, .inl (cI, 6, .inl f_t_gaps)), (a_t_lasts, .inl (cI, 64, .inl f_t_lasts))] s.heap.size = A at hD ⊢
  have hA : ∀ q : Nat, s.heap.size ≤ q → A q := fun q h => by rw [← hAe]; exact Or.inr h
  have hS : va_S A s.heap s.heap [] := va_S.rf
  have hP : va_P D vwCl [(a_t, .inr (1, [.ref a_t_gaps, .ref a_t_lasts, .int v_t_size, .int v_t_struck])), (a_t_gaps, .inl (cI, 6, .inl f_t_gaps)), (a_t_lasts, .inl (cI, 64, .inl f_t_lasts))] s.heap := hP
  have hl := lv_entry ([.ref a_t, .int x1, .int x2, .int x3]) (n := 6) (Nat.le_of_ble_eq_true rfl)
  rw [lg_entry_eq]
  generalize (lg_sl ([.ref a_t, .int x1, .int x2, .int x3]) ++ List.replicate (6 - (lg_sl ([.ref a_t, .int x1, .int x2, .int x3])).length) Slot.unset).toArray = ls at hl ⊢
  have hl : lv_has ls 6 [(0, .ref a_t), (1, .int x1), (2, .int x2), (3, .int x3)] := hl
  have hf := f_X1_play.eq_1 v_t_struck f_t_gaps f_t_lasts x1 x2 x3
  refine lv_aload_n hx hb dX1_play_0 rfl (lv_at hl 0 rfl) ?_
  refine lv_iload_n hx hb dX1_play_1 rfl (lv_at hl 1 rfl) ?_
  refine callMv (As := [.int x1]) (rest := []) (wr := [(a_t_lasts, .inl (cI, 64, .inl f_t_lasts))]) ⟨hx, hb, hml, hown, hts⟩ (c_X1_list l D cI cZ cO a_t a_t_gaps a_t_lasts v_t_size v_t_struck f_t_gaps x1 s.heap.size (s_X1_play_1 v_t_size hp0 hp1) (s_X1_play_2 v_t_size hp0 hp1)) (cwV 1 hts gX1_play_X1_list rfl rfl rfl (by decide +kernel) ⟨Nat.le_of_ble_eq_true rfl, Nat.le_of_ble_eq_true rfl⟩) hKX hP hD hS hA [0, 1] [2] rfl rfl (by decide) (by decide) (by decide) 0 1 rfl rfl rfl rfl hl.1 rfl (Nat.le_of_ble_eq_true rfl) dX1_play_2 ⟨Nat.le_of_ble_eq_true rfl, Nat.le_of_ble_eq_true rfl⟩ (fun u H locs hc2 hP hD hS => ?_)
  obtain ⟨u2_t_size, u2_t_gaps⟩ := u
  have hP : va_P D vwCl [(a_t_lasts, .inl (cI, 64, .inl f_t_lasts)), (a_t, .inr (1, [.ref a_t_gaps, .ref a_t_lasts, .int u2_t_size, .int v_t_struck])), (a_t_gaps, .inl (cI, 6, .inl u2_t_gaps))] H := hP
  have hD : va_D A [(a_t_lasts, .inl (cI, 64, .inl f_t_lasts)), (a_t, .inr (1, [.ref a_t_gaps, .ref a_t_lasts, .int u2_t_size, .int v_t_struck])), (a_t_gaps, .inl (cI, 6, .inl u2_t_gaps))] := hD
  have hq2_0 : 0 ≤ u2_t_size := hc2.2.1
  have hq2_1 : u2_t_size ≤ 6 := hc2.2.2
  replace hf := hf.trans (ap2_g hc2.1)
  refine lv_iconst (v := 1) hx hb dX1_play_5 (by decide) ?_
  refine lv_istore (lv' := [(4, .int 1), (0, .ref a_t), (1, .int x1), (2, .int x2), (3, .int x3)]) hx hb dX1_play_6 hl (by decide) rfl (fun ls hl => ?_)
  have hJ_8 : ∀ (n8 : Nat) (x8_4 : Int32) (w8_t_struck : Int32) (w8_t_lasts : Nat → Int32), f_X1_play v_t_struck f_t_gaps f_t_lasts x1 x2 x3 = it3 (f_X1_play_b8 x2 x3 u2_t_size u2_t_gaps) default n8 x8_4 w8_t_struck w8_t_lasts → ((1 <<< (u2_t_size &&& 31)).toInt - x8_4.toInt).toNat < n8 → (1 ≤ x8_4) → ∀ (H : Heap) (locs : List Loc), va_P D vwCl [(a_t, .inr (1, [.ref a_t_gaps, .ref a_t_lasts, .int u2_t_size, .int w8_t_struck])), (a_t_gaps, .inl (cI, 6, .inl u2_t_gaps)), (a_t_lasts, .inl (cI, 64, .inl w8_t_lasts))] H → va_D A [(a_t, .inr (1, [.ref a_t_gaps, .ref a_t_lasts, .int u2_t_size, .int w8_t_struck])), (a_t_gaps, .inl (cI, 6, .inl u2_t_gaps)), (a_t_lasts, .inl (cI, 64, .inl w8_t_lasts))] → va_S A s.heap H locs → ∀ (ls : Array Slot), lv_has ls 6 [(0, .ref a_t), (2, .int x2), (3, .int x3), (4, .int x8_4)] → W p l e (headSpec wsX1_play { frames := 2, cells := 0, slots := 0, locals := 65 }).room s m [.ref a_t, .int x1, .int x2, .int x3].toArray below meth c H locs 0 0 (MQ below (va_Qv (fun u : Int32 × Int32 × (Nat → Int32) × (Nat → Int32) => u = f_X1_play v_t_struck f_t_gaps f_t_lasts x1 x2 x3 ∧ (0 ≤ u.1) ∧ (u.1 ≤ 6)) (BM D A (fun u : Int32 × Int32 × (Nat → Int32) × (Nat → Int32) => [(a_t, .inr (1, [.ref a_t_gaps, .ref a_t_lasts, .int u.1, .int u.2.1])), (a_t_gaps, .inl (cI, 6, .inl u.2.2.1)), (a_t_lasts, .inl (cI, 64, .inl u.2.2.2))])) A) [.ref a_t, .int x1, .int x2, .int x3].toArray s 0 0 A) (F0 m 8 ls []) := by
    intro n8
    induction n8 with
    | zero => intro x8_4 w8_t_struck w8_t_lasts hf hm8; exact absurd hm8 (Nat.not_lt_zero _)
    | succ n8 ih8 =>
      intro x8_4 w8_t_struck w8_t_lasts hf hm8 hi8_0 H locs hP hD hS ls hl
      replace hf := (hf.trans (it3_s _ _ _ _ _ _)).trans (f_X1_play_b8.eq_1 _ _ _ _ _ _ _ _)
      refine lv_iload hx hb dX1_play_8 (lv_at hl 3 rfl) ?_
      refine lv_iconst (v := 1) hx hb dX1_play_10 (by decide) ?_
      refine lv_aload_n hx hb dX1_play_11 rfl (lv_at hl 0 rfl) ?_
      refine va_get (D := D) (ci := 1) (v := .int u2_t_size) (C := RX1) (T := TX1) (N := 4) hx hb hts hwX1 hown hK hP 0 rfl rfl 2 (by decide) (hts (.fieldLink RX1 18 "SkippedDay$Sides" "size" "I") (by decide +kernel)) (fun _ h9 => h9) rfl dX1_play_12 ?_
      refine lv_ishl hx hb dX1_play_15 ?_
      refine lv_icmp_ge (tgt := 63) hx hb dX1_play_16 (by decide) (fun c_16 => ?_) (fun c_16 => ?_)
      · replace hf := hf.trans (if_pos c_16)
        exact W.vret hx hb hr (fun t ht hW => ⟨⟨(u2_t_size, w8_t_struck, u2_t_gaps, w8_t_lasts), rfl, ⟨hf.symm, (s_X1_play_3 u2_t_size x8_4 hq2_0 hq2_1 hi8_0 c_16), (s_X1_play_4 u2_t_size x8_4 hq2_0 hq2_1 hi8_0 c_16)⟩, by rw [ht]; exact hP.sub [0, 1, 2] rfl, hD.sub [0, 1, 2] (by decide) rfl⟩, hS.F ht⟩) hS.2.2 dX1_play_63
      · replace hf := hf.trans (if_neg c_16)
        refine lv_aload_n hx hb dX1_play_19 rfl (lv_at hl 0 rfl) ?_
        refine va_get (D := D) (ci := 1) (v := .int u2_t_size) (C := RX1) (T := TX1) (N := 4) hx hb hts hwX1 hown hK hP 0 rfl rfl 2 (by decide) (hts (.fieldLink RX1 18 "SkippedDay$Sides" "size" "I") (by decide +kernel)) (fun _ h9 => h9) rfl dX1_play_20 ?_
        refine lv_iload hx hb dX1_play_23 (lv_at hl 3 rfl) ?_
        refine pcS (As := [.int x8_4]) (rest := [.int u2_t_size]) ⟨hx, hb, hml, hown, hts⟩ (c_J6_bitCount_0f7a4 l D cI cZ cO x8_4) (va_cwS 1 hts gX1_play_J6_bitCount_0f7a4 rfl rfl rfl (by decide +kernel) ⟨Nat.le_of_ble_eq_true rfl, Nat.le_of_ble_eq_true rfl⟩) hKX hP [] rfl rfl hl.1 rfl (Nat.le_of_ble_eq_true rfl) dX1_play_25 ⟨Nat.le_of_ble_eq_true rfl, Nat.le_of_ble_eq_true rfl⟩ ?_
        refine lv_isub hx hb dX1_play_28 ?_
        refine lv_iconst (v := 2) hx hb dX1_play_29 (by decide) ?_
        refine lv_irem hx hb dX1_play_30 s_X1_play_5 ?_
        have hJ_39 : ∀ (y39_0 : Int32), f_X1_play v_t_struck f_t_gaps f_t_lasts x1 x2 x3 = f_X1_play_j39 x2 x3 u2_t_size u2_t_gaps x8_4 w8_t_struck w8_t_lasts ((it3 (f_X1_play_b8 x2 x3 u2_t_size u2_t_gaps) default n8)) y39_0 → ∀ (H : Heap) (locs : List Loc), va_P D vwCl [(a_t, .inr (1, [.ref a_t_gaps, .ref a_t_lasts, .int u2_t_size, .int w8_t_struck])), (a_t_gaps, .inl (cI, 6, .inl u2_t_gaps)), (a_t_lasts, .inl (cI, 64, .inl w8_t_lasts))] H → va_D A [(a_t, .inr (1, [.ref a_t_gaps, .ref a_t_lasts, .int u2_t_size, .int w8_t_struck])), (a_t_gaps, .inl (cI, 6, .inl u2_t_gaps)), (a_t_lasts, .inl (cI, 64, .inl w8_t_lasts))] → va_S A s.heap H locs → ∀ (ls : Array Slot), lv_has ls 6 [(0, .ref a_t), (2, .int x2), (3, .int x3), (4, .int x8_4)] → W p l e (headSpec wsX1_play { frames := 2, cells := 0, slots := 0, locals := 65 }).room s m [.ref a_t, .int x1, .int x2, .int x3].toArray below meth c H locs 0 0 (MQ below (va_Qv (fun u : Int32 × Int32 × (Nat → Int32) × (Nat → Int32) => u = f_X1_play v_t_struck f_t_gaps f_t_lasts x1 x2 x3 ∧ (0 ≤ u.1) ∧ (u.1 ≤ 6)) (BM D A (fun u : Int32 × Int32 × (Nat → Int32) × (Nat → Int32) => [(a_t, .inr (1, [.ref a_t_gaps, .ref a_t_lasts, .int u.1, .int u.2.1])), (a_t_gaps, .inl (cI, 6, .inl u.2.2.1)), (a_t_lasts, .inl (cI, 64, .inl u.2.2.2))])) A) [.ref a_t, .int x1, .int x2, .int x3].toArray s 0 0 A) (F0 m 39 ls [.int y39_0]) := by
          intro y39_0 hf H locs hP hD hS ls hl
          replace hf := hf.trans (f_X1_play_j39.eq_1 _ _ _ _ _ _ _ _ _)
          refine lv_istore (lv' := [(5, .int y39_0), (0, .ref a_t), (2, .int x2), (3, .int x3), (4, .int x8_4)]) hx hb dX1_play_39 hl (by decide) rfl (fun ls hl => ?_)
          refine lv_aload_n hx hb dX1_play_41 rfl (lv_at hl 1 rfl) ?_
          refine lv_iload hx hb dX1_play_42 (lv_at hl 4 rfl) ?_
          refine lv_iload hx hb dX1_play_44 (lv_at hl 0 rfl) ?_
          have hJ_54 : ∀ (y54_2 : Int32), f_X1_play v_t_struck f_t_gaps f_t_lasts x1 x2 x3 = f_X1_play_j54 u2_t_size u2_t_gaps x8_4 w8_t_struck w8_t_lasts ((it3 (f_X1_play_b8 x2 x3 u2_t_size u2_t_gaps) default n8)) y54_2 → ∀ (H : Heap) (locs : List Loc), va_P D vwCl [(a_t, .inr (1, [.ref a_t_gaps, .ref a_t_lasts, .int u2_t_size, .int w8_t_struck])), (a_t_gaps, .inl (cI, 6, .inl u2_t_gaps)), (a_t_lasts, .inl (cI, 64, .inl w8_t_lasts))] H → va_D A [(a_t, .inr (1, [.ref a_t_gaps, .ref a_t_lasts, .int u2_t_size, .int w8_t_struck])), (a_t_gaps, .inl (cI, 6, .inl u2_t_gaps)), (a_t_lasts, .inl (cI, 64, .inl w8_t_lasts))] → va_S A s.heap H locs → ∀ (ls : Array Slot), lv_has ls 6 [(0, .ref a_t), (2, .int x2), (3, .int x3), (4, .int x8_4)] → W p l e (headSpec wsX1_play { frames := 2, cells := 0, slots := 0, locals := 65 }).room s m [.ref a_t, .int x1, .int x2, .int x3].toArray below meth c H locs 0 0 (MQ below (va_Qv (fun u : Int32 × Int32 × (Nat → Int32) × (Nat → Int32) => u = f_X1_play v_t_struck f_t_gaps f_t_lasts x1 x2 x3 ∧ (0 ≤ u.1) ∧ (u.1 ≤ 6)) (BM D A (fun u : Int32 × Int32 × (Nat → Int32) × (Nat → Int32) => [(a_t, .inr (1, [.ref a_t_gaps, .ref a_t_lasts, .int u.1, .int u.2.1])), (a_t_gaps, .inl (cI, 6, .inl u.2.2.1)), (a_t_lasts, .inl (cI, 64, .inl u.2.2.2))])) A) [.ref a_t, .int x1, .int x2, .int x3].toArray s 0 0 A) (F0 m 54 ls [.int y54_2, .int x8_4, .ref a_t]) := by
            intro y54_2 hf H locs hP hD hS ls hl
            replace hf := hf.trans (f_X1_play_j54.eq_1 _ _ _ _ _ _ _)
            refine callMv (As := [.int x8_4, .int y54_2]) (rest := []) (wr := []) ⟨hx, hb, hml, hown, hts⟩ (c_X1_settle l D cI cZ cO a_t a_t_gaps a_t_lasts u2_t_size w8_t_struck u2_t_gaps w8_t_lasts x8_4 y54_2 H.size (s_X1_play_6 u2_t_size x8_4 hq2_0 hq2_1 hi8_0 c_16) (s_X1_play_7 u2_t_size x8_4 hq2_0 hq2_1 hi8_0 c_16) (s_X1_play_8 u2_t_size x8_4 hq2_0 hq2_1 hi8_0 c_16) (s_X1_play_9 u2_t_size x8_4 hq2_0 hq2_1 hi8_0 c_16)) (cwV 2 hts gX1_play_X1_settle rfl rfl rfl (by decide +kernel) ⟨Nat.le_of_ble_eq_true rfl, Nat.le_of_ble_eq_true rfl⟩) hKX hP hD hS hA [0, 1, 2] [] rfl rfl (by decide) (by decide) (by decide) 0 1 rfl rfl rfl rfl hl.1 rfl (Nat.le_of_ble_eq_true rfl) dX1_play_54 ⟨Nat.le_of_ble_eq_true rfl, Nat.le_of_ble_eq_true rfl⟩ (fun u H locs hc54 hP hD hS => ?_)
            obtain ⟨u54_t_struck, u54_t_lasts⟩ := u
            have hP : va_P D vwCl [(a_t, .inr (1, [.ref a_t_gaps, .ref a_t_lasts, .int u2_t_size, .int u54_t_struck])), (a_t_gaps, .inl (cI, 6, .inl u2_t_gaps)), (a_t_lasts, .inl (cI, 64, .inl u54_t_lasts))] H := hP
            have hD : va_D A [(a_t, .inr (1, [.ref a_t_gaps, .ref a_t_lasts, .int u2_t_size, .int u54_t_struck])), (a_t_gaps, .inl (cI, 6, .inl u2_t_gaps)), (a_t_lasts, .inl (cI, 64, .inl u54_t_lasts))] := hD
            replace hf := hf.trans (ap2_g hc54)
            refine lv_iinc (v := x8_4 + 1) (lv' := [(4, .int (x8_4 + 1)), (0, .ref a_t), (2, .int x2), (3, .int x3)]) hx hb dX1_play_57 hl (k := 3) rfl rfl (by decide) rfl (fun ls hl => ?_)
            refine lv_goto (tgt := 8) hx hb dX1_play_60 (by decide) ?_
            exact ih8 (x8_4 + 1) u54_t_struck u54_t_lasts hf (mu_up c_16 hm8) (s_X1_play_10 u2_t_size x8_4 hq2_0 hq2_1 hi8_0 c_16) _ _ (hP.sub [0, 1, 2] rfl) (hD.sub [0, 1, 2] (by decide) rfl) hS _ (lv_sub hl [1, 2, 3, 0] rfl)
          refine lv_if_eq (tgt := 53) hx hb dX1_play_46 (by decide) (fun c_46 => ?_) (fun c_46 => ?_)
          · replace hf := hf.trans (if_pos c_46)
            refine lv_iload_n hx hb dX1_play_53 rfl (lv_at hl 3 rfl) ?_
            exact hJ_54 x3 hf _ _ (hP.sub [0, 1, 2] rfl) (hD.sub [0, 1, 2] (by decide) rfl) hS _ (lv_sub hl [1, 2, 3, 4] rfl)
          · replace hf := hf.trans (if_neg c_46)
            refine lv_iload_n hx hb dX1_play_49 rfl (lv_at hl 2 rfl) ?_
            refine lv_goto (tgt := 54) hx hb dX1_play_50 (by decide) ?_
            exact hJ_54 x2 hf _ _ (hP.sub [0, 1, 2] rfl) (hD.sub [0, 1, 2] (by decide) rfl) hS _ (lv_sub hl [1, 2, 3, 4] rfl)
        refine lv_if_ne (tgt := 38) hx hb dX1_play_31 (by decide) (fun c_31 => ?_) (fun c_31 => ?_)
        · replace hf := hf.trans (if_pos c_31)
          refine lv_iconst (v := 0) hx hb dX1_play_38 (by decide) ?_
          exact hJ_39 0 hf _ _ (hP.sub [0, 1, 2] rfl) (hD.sub [0, 1, 2] (by decide) rfl) hS _ (lv_sub hl [0, 1, 2, 3] rfl)
        · replace hf := hf.trans (if_neg (fun h9 => h9 c_31))
          refine lv_iconst (v := 1) hx hb dX1_play_34 (by decide) ?_
          refine lv_goto (tgt := 39) hx hb dX1_play_35 (by decide) ?_
          exact hJ_39 1 hf _ _ (hP.sub [0, 1, 2] rfl) (hD.sub [0, 1, 2] (by decide) rfl) hS _ (lv_sub hl [0, 1, 2, 3] rfl)
  exact hJ_8 _ 1 v_t_struck f_t_lasts hf (Nat.lt_succ_self _) s_X1_play_11 _ _ (hP.sub [1, 2, 0] rfl) (hD.sub [1, 2, 0] (by decide) rfl) hS _ (lv_sub hl [1, 3, 4, 0] rfl)

def f_X1_lastLeft (v_t_size : Int32) (f_t_lasts : Nat → Int32) : Int32 :=
  f_t_lasts ((1 <<< (v_t_size &&& 31)) - 1).toNatClampNeg
/- in@14 -/ theorem s_X1_lastLeft_1 (v_t_size : Int32) (hp0 : 0 ≤ v_t_size) (hp1 : v_t_size ≤ 6) : vp_in ((1 <<< (v_t_size &&& 31)) - 1) 64 := vin (k := 64) (by have := shl_bd hp0 hp1; grind) (by have := shl_bd hp0 hp1; grind) (by decide)
set_option maxHeartbeats 4000000 in
set_option maxRecDepth 100000 in
theorem c_X1_lastLeft (l : Launch) (D : va_G) (cI cZ cO : ClassId) (a_t : Nat) (a_t_gaps : Nat) (a_t_lasts : Nat) (v_t_size : Int32) (v_t_struck : Int32) (f_t_lasts : Nat → Int32) (hp0 : 0 ≤ v_t_size) (hp1 : v_t_size ≤ 6) : Met l yX1_lastLeft wsX1_lastLeft ({ frames := 0, cells := 0, slots := 0, locals := 0 }) (PcP D (tysG cI cZ cO) [.ref a_t] [(a_t, .inr (1, [.ref a_t_gaps, .ref a_t_lasts, .int v_t_size, .int v_t_struck])), (a_t_lasts, .inl (cI, 64, .inl f_t_lasts))]) (QP (.int (f_X1_lastLeft v_t_size f_t_lasts))) 0 0 (fun _ => False) := by
  refine Met.ofW (cc := cX1_lastLeft) (maxL := 2) (ret := (some .int)) (by decide) rfl ?_
  intro p e s m args below meth c s₁ B hml hv
  obtain ⟨rfl, hP, hKX⟩ := hv
  have hx := B.exec
  have hb := B.bytes
  have hr := B.returns
  have hts := atoms_spec (ws := wsX1_lastLeft) B.pre
  have hown : s.vm.findClass RX1 = some m.cls := findClass_of_methodNamed B.named
  have hlocks := B.notSynchronized
  have hK := hKX.1
  have hwX1 : ∀ w ∈ wsX10, w ∈ wsX1_lastLeft := by decide +kernel
  have hl := lv_entry ([.ref a_t]) (n := 2) (Nat.le_of_ble_eq_true rfl)
  rw [lg_entry_eq]
  generalize (lg_sl ([.ref a_t]) ++ List.replicate (2 - (lg_sl ([.ref a_t])).length) Slot.unset).toArray = ls at hl ⊢
  have hl : lv_has ls 2 [(0, .ref a_t)] := hl
  have hf := f_X1_lastLeft.eq_1 v_t_size f_t_lasts
  refine lv_iconst (v := 1) hx hb dX1_lastLeft_0 (by decide) ?_
  refine lv_aload_n hx hb dX1_lastLeft_1 rfl (lv_at hl 0 rfl) ?_
  refine va_get (D := D) (ci := 1) (v := .int v_t_size) (C := RX1) (T := TX1) (N := 4) hx hb hts hwX1 hown hK hP 0 rfl rfl 2 (by decide) (hts (.fieldLink RX1 18 "SkippedDay$Sides" "size" "I") (by decide +kernel)) (fun _ h9 => h9) rfl dX1_lastLeft_2 ?_
  refine lv_ishl hx hb dX1_lastLeft_5 ?_
  refine lv_iconst (v := 1) hx hb dX1_lastLeft_6 (by decide) ?_
  refine lv_isub hx hb dX1_lastLeft_7 ?_
  refine lv_istore_n (lv' := [(1, .int ((1 <<< (v_t_size &&& 31)) - 1)), (0, .ref a_t)]) hx hb dX1_lastLeft_8 rfl hl (by decide) rfl (fun ls hl => ?_)
  refine lv_aload_n hx hb dX1_lastLeft_9 rfl (lv_at hl 1 rfl) ?_
  refine va_get (D := D) (ci := 1) (v := .ref a_t_lasts) (C := RX1) (T := TX1) (N := 4) hx hb hts hwX1 hown hK hP 0 rfl rfl 1 (by decide) (hts (.fieldLink RX1 15 "SkippedDay$Sides" "lasts" "[I") (by decide +kernel)) (fun _ h9 => h9) rfl dX1_lastLeft_10 ?_
  refine lv_iload_n hx hb dX1_lastLeft_13 rfl (lv_at hl 0 rfl) ?_
  refine va_iald hx hb hK hP 1 0 rfl rfl (s_X1_lastLeft_1 v_t_size hp0 hp1) dX1_lastLeft_14 ?_
  exact W.iret (v := f_t_lasts ((1 <<< (v_t_size &&& 31)) - 1).toNatClampNeg) hx hb hr (fun t ht hW => ⟨congrArg (fun z => Outcome.returned (some (Value.int z))) hf.symm, ht⟩) (fun _ h => absurd h List.not_mem_nil) dX1_lastLeft_15

def f_X1_firstStruck (v_t_struck : Int32) : Int32 :=
  v_t_struck
set_option maxHeartbeats 4000000 in
set_option maxRecDepth 100000 in
theorem c_X1_firstStruck (l : Launch) (D : va_G) (cI cZ cO : ClassId) (a_t : Nat) (a_t_gaps : Nat) (a_t_lasts : Nat) (v_t_size : Int32) (v_t_struck : Int32) (hp0 : 0 ≤ v_t_size) (hp1 : v_t_size ≤ 6) : Met l yX1_firstStruck wsX1_firstStruck ({ frames := 0, cells := 0, slots := 0, locals := 0 }) (PcP D (tysG cI cZ cO) [.ref a_t] [(a_t, .inr (1, [.ref a_t_gaps, .ref a_t_lasts, .int v_t_size, .int v_t_struck]))]) (QP (.int (f_X1_firstStruck v_t_struck))) 0 0 (fun _ => False) := by
  refine Met.ofW (cc := cX1_firstStruck) (maxL := 1) (ret := (some .int)) (by decide) rfl ?_
  intro p e s m args below meth c s₁ B hml hv
  obtain ⟨rfl, hP, hKX⟩ := hv
  have hx := B.exec
  have hb := B.bytes
  have hr := B.returns
  have hts := atoms_spec (ws := wsX1_firstStruck) B.pre
  have hown : s.vm.findClass RX1 = some m.cls := findClass_of_methodNamed B.named
  have hlocks := B.notSynchronized
  have hK := hKX.1
  have hwX1 : ∀ w ∈ wsX10, w ∈ wsX1_firstStruck := by decide +kernel
  have hl := lv_entry ([.ref a_t]) (n := 1) (Nat.le_of_ble_eq_true rfl)
  rw [lg_entry_eq]
  generalize (lg_sl ([.ref a_t]) ++ List.replicate (1 - (lg_sl ([.ref a_t])).length) Slot.unset).toArray = ls at hl ⊢
  have hl : lv_has ls 1 [(0, .ref a_t)] := hl
  have hf := f_X1_firstStruck.eq_1 v_t_struck
  refine lv_aload_n hx hb dX1_firstStruck_0 rfl (lv_at hl 0 rfl) ?_
  refine va_get (D := D) (ci := 1) (v := .int v_t_struck) (C := RX1) (T := TX1) (N := 4) hx hb hts hwX1 hown hK hP 0 rfl rfl 3 (by decide) (hts (.fieldLink RX1 22 "SkippedDay$Sides" "struck" "I") (by decide +kernel)) (fun _ h9 => h9) rfl dX1_firstStruck_1 ?_
  exact W.iret (v := v_t_struck) hx hb hr (fun t ht hW => ⟨congrArg (fun z => Outcome.returned (some (Value.int z))) hf.symm, ht⟩) (fun _ h => absurd h List.not_mem_nil) dX1_firstStruck_4

def f_X2_size (v_t_size : Int32) : Int32 :=
  v_t_size
set_option maxHeartbeats 4000000 in
set_option maxRecDepth 100000 in
theorem c_X2_size (l : Launch) (D : va_G) (cI cZ cO : ClassId) (a_t : Nat) (a_t_contracts : Nat) (a_t_days : Nat) (v_t_size : Int32) (hp0 : 0 ≤ v_t_size) (hp1 : v_t_size ≤ 6) : Met l yX2_size wsX2_size ({ frames := 0, cells := 0, slots := 0, locals := 0 }) (PcP D (tysG cI cZ cO) [.ref a_t] [(a_t, .inr (2, [.ref a_t_contracts, .ref a_t_days, .int v_t_size]))]) (QP (.int (f_X2_size v_t_size))) 0 0 (fun _ => False) := by
  refine Met.ofW (cc := cX2_size) (maxL := 1) (ret := (some .int)) (by decide) rfl ?_
  intro p e s m args below meth c s₁ B hml hv
  obtain ⟨rfl, hP, hKX⟩ := hv
  have hx := B.exec
  have hb := B.bytes
  have hr := B.returns
  have hts := atoms_spec (ws := wsX2_size) B.pre
  have hown : s.vm.findClass RX2 = some m.cls := findClass_of_methodNamed B.named
  have hlocks := B.notSynchronized
  have hK := hKX.1
  have hwX2 : ∀ w ∈ wsX20, w ∈ wsX2_size := by decide +kernel
  have hl := lv_entry ([.ref a_t]) (n := 1) (Nat.le_of_ble_eq_true rfl)
  rw [lg_entry_eq]
  generalize (lg_sl ([.ref a_t]) ++ List.replicate (1 - (lg_sl ([.ref a_t])).length) Slot.unset).toArray = ls at hl ⊢
  have hl : lv_has ls 1 [(0, .ref a_t)] := hl
  have hf := f_X2_size.eq_1 v_t_size
  refine lv_aload_n hx hb dX2_size_0 rfl (lv_at hl 0 rfl) ?_
  refine va_get (D := D) (ci := 2) (v := .int v_t_size) (C := RX2) (T := TX2) (N := 3) hx hb hts hwX2 hown hK hP 0 rfl rfl 2 (by decide) (hts (.fieldLink RX2 18 "SkippedDay$Sightings" "size" "I") (by decide +kernel)) (fun _ h9 => h9) rfl dX2_size_1 ?_
  exact W.iret (v := v_t_size) hx hb hr (fun t ht hW => ⟨congrArg (fun z => Outcome.returned (some (Value.int z))) hf.symm, ht⟩) (fun _ h => absurd h List.not_mem_nil) dX2_size_4

def f_X2_isFull (v_t_size : Int32) : Int32 :=
  if v_t_size < 6 then 0 else 1
set_option maxHeartbeats 4000000 in
set_option maxRecDepth 100000 in
theorem c_X2_isFull (l : Launch) (D : va_G) (cI cZ cO : ClassId) (a_t : Nat) (a_t_contracts : Nat) (a_t_days : Nat) (v_t_size : Int32) (hp0 : 0 ≤ v_t_size) (hp1 : v_t_size ≤ 6) : Met l yX2_isFull wsX2_isFull ({ frames := 0, cells := 0, slots := 0, locals := 0 }) (PcP D (tysG cI cZ cO) [.ref a_t] [(a_t, .inr (2, [.ref a_t_contracts, .ref a_t_days, .int v_t_size]))]) (QP (.int (f_X2_isFull v_t_size))) 0 0 (fun _ => False) := by
  refine Met.ofW (cc := cX2_isFull) (maxL := 1) (ret := (some .boolean)) (by decide) rfl ?_
  intro p e s m args below meth c s₁ B hml hv
  obtain ⟨rfl, hP, hKX⟩ := hv
  have hx := B.exec
  have hb := B.bytes
  have hr := B.returns
  have hts := atoms_spec (ws := wsX2_isFull) B.pre
  have hown : s.vm.findClass RX2 = some m.cls := findClass_of_methodNamed B.named
  have hlocks := B.notSynchronized
  have hK := hKX.1
  have hwX2 : ∀ w ∈ wsX20, w ∈ wsX2_isFull := by decide +kernel
  have hl := lv_entry ([.ref a_t]) (n := 1) (Nat.le_of_ble_eq_true rfl)
  rw [lg_entry_eq]
  generalize (lg_sl ([.ref a_t]) ++ List.replicate (1 - (lg_sl ([.ref a_t])).length) Slot.unset).toArray = ls at hl ⊢
  have hl : lv_has ls 1 [(0, .ref a_t)] := hl
  have hf := f_X2_isFull.eq_1 v_t_size
  refine lv_aload_n hx hb dX2_isFull_0 rfl (lv_at hl 0 rfl) ?_
  refine va_get (D := D) (ci := 2) (v := .int v_t_size) (C := RX2) (T := TX2) (N := 3) hx hb hts hwX2 hown hK hP 0 rfl rfl 2 (by decide) (hts (.fieldLink RX2 18 "SkippedDay$Sightings" "size" "I") (by decide +kernel)) (fun _ h9 => h9) rfl dX2_isFull_1 ?_
  refine lv_bipush (v := 6) hx hb dX2_isFull_4 (by decide) ?_
  refine lv_icmp_lt (tgt := 13) hx hb dX2_isFull_6 (by decide) (fun c_6 => ?_) (fun c_6 => ?_)
  · replace hf := hf.trans (if_pos c_6)
    refine lv_iconst (v := 0) hx hb dX2_isFull_13 (by decide) ?_
    exact W.zret (ty := .boolean) (v := 0) hx hb hr rfl (fun t ht hW => ⟨congrArg (fun z => Outcome.returned (some (Value.int z))) hf.symm, ht⟩) (fun _ h => absurd h List.not_mem_nil) dX2_isFull_14
  · replace hf := hf.trans (if_neg c_6)
    refine lv_iconst (v := 1) hx hb dX2_isFull_9 (by decide) ?_
    refine lv_goto (tgt := 14) hx hb dX2_isFull_10 (by decide) ?_
    exact W.zret (ty := .boolean) (v := 1) hx hb hr rfl (fun t ht hW => ⟨congrArg (fun z => Outcome.returned (some (Value.int z))) hf.symm, ht⟩) (fun _ h => absurd h List.not_mem_nil) dX2_isFull_14

def f_X2_clear  : Int32 :=
  0
/- post0@5 -/ theorem s_X2_clear_1  : 0 ≤ (0 : Int32) := by grind
/- post1@5 -/ theorem s_X2_clear_2  : (0 : Int32) ≤ 6 := by grind
set_option maxHeartbeats 4000000 in
set_option maxRecDepth 100000 in
theorem c_X2_clear (l : Launch) (D : va_G) (cI cZ cO : ClassId) (a_t : Nat) (a_t_contracts : Nat) (a_t_days : Nat) (v_t_size : Int32) (sz : Nat) (hp0 : 0 ≤ v_t_size) (hp1 : v_t_size ≤ 6) : Met l yX2_clear wsX2_clear ({ frames := 0, cells := 0, slots := 0, locals := 0 }) (PcM D (tysG cI cZ cO) [.ref a_t] sz [(a_t, .inr (2, [.ref a_t_contracts, .ref a_t_days, .int v_t_size]))]) (va_Qv (fun u : Int32 => u = f_X2_clear ∧ (0 ≤ u) ∧ (u ≤ 6)) (BM D (va_A [(a_t, .inr (2, [.ref a_t_contracts, .ref a_t_days, .int v_t_size]))] sz) (fun u : Int32 => [(a_t, .inr (2, [.ref a_t_contracts, .ref a_t_days, .int u]))])) (va_A [(a_t, .inr (2, [.ref a_t_contracts, .ref a_t_days, .int v_t_size]))] sz)) 0 0 (va_A [(a_t, .inr (2, [.ref a_t_contracts, .ref a_t_days, .int v_t_size]))] sz) := by
  refine Met.ofW (cc := cX2_clear) (maxL := 1) (ret := none) (by decide) rfl ?_
  intro p e s m args below meth c s₁ B hml hv
  obtain ⟨rfl, hsz, hP, hKX, hD0⟩ := hv
  have hx := B.exec
  have hb := B.bytes
  have hr := B.returns
  have hts := atoms_spec (ws := wsX2_clear) B.pre
  have hown : s.vm.findClass RX2 = some m.cls := findClass_of_methodNamed B.named
  have hlocks := B.notSynchronized
  have hK := hKX.1
  have hwX2 : ∀ w ∈ wsX20, w ∈ wsX2_clear := by decide +kernel
  subst hsz
  have hD := hD0.self (sz := s.heap.size)
  generalize hAe : va_A [(a_t, .inr (2, [.ref a_t_contracts, .ref a_t_days, .int v_t_size]))] s.heap.size = A at hD ⊢
  have hA : ∀ q : Nat, s.heap.size ≤ q → A q := fun q h => by rw [← hAe]; exact Or.inr h
  have hS : va_S A s.heap s.heap [] := va_S.rf
  have hP : va_P D vwCl [(a_t, .inr (2, [.ref a_t_contracts, .ref a_t_days, .int v_t_size]))] s.heap := hP
  have hl := lv_entry ([.ref a_t]) (n := 1) (Nat.le_of_ble_eq_true rfl)
  rw [lg_entry_eq]
  generalize (lg_sl ([.ref a_t]) ++ List.replicate (1 - (lg_sl ([.ref a_t])).length) Slot.unset).toArray = ls at hl ⊢
  have hl : lv_has ls 1 [(0, .ref a_t)] := hl
  have hf := f_X2_clear.eq_1
  refine lv_aload_n hx hb dX2_clear_0 rfl (lv_at hl 0 rfl) ?_
  refine lv_iconst (v := 0) hx hb dX2_clear_1 (by decide) ?_
  refine va_put (D := D) (ci := 2) (v := .int 0) (ty := .int) (C := RX2) (T := TX2) (N := 3) hx hb hts hwX2 tyX2 tyX2_ok nmX2 hown hK hP hD hS 0 rfl rfl 2 (by decide) (hts (.fieldLink RX2 18 "SkippedDay$Sightings" "size" "I") (by decide +kernel)) (fun _ h9 => h9) rfl (by decide +kernel) rfl rfl (Nat.le_of_ble_eq_true rfl) dX2_clear_2 (fun H locs hP hD hS => ?_)
  have hP : va_P D vwCl [(a_t, .inr (2, [.ref a_t_contracts, .ref a_t_days, .int 0]))] H := hP
  have hD : va_D A [(a_t, .inr (2, [.ref a_t_contracts, .ref a_t_days, .int 0]))] := hD
  exact W.vret hx hb hr (fun t ht hW => ⟨⟨(0), rfl, ⟨hf.symm, s_X2_clear_1, s_X2_clear_2⟩, by rw [ht]; exact hP.sub [0] rfl, hD.sub [0] (by decide) rfl⟩, hS.F ht⟩) hS.2.2 dX2_clear_5

def f_X2_add (v_t_size : Int32) (f_t_contracts : Nat → Int32) (f_t_days : Nat → Int32) (x1 : Int32) (x2 : Int32) : Int32 × (Nat → Int32) × (Nat → Int32) :=
  if ¬ (f_X2_isFull v_t_size) = 0 then (v_t_size, f_t_contracts, f_t_days) else (v_t_size + 1, upd f_t_contracts v_t_size.toNatClampNeg x1, upd f_t_days v_t_size.toNatClampNeg x2)
/- hp0@1 -/ theorem s_X2_add_1 (v_t_size : Int32) (hp0 : 0 ≤ v_t_size) (hp1 : v_t_size ≤ 6) : 0 ≤ v_t_size := by grind
/- hp1@1 -/ theorem s_X2_add_2 (v_t_size : Int32) (hp0 : 0 ≤ v_t_size) (hp1 : v_t_size ≤ 6) : v_t_size ≤ 6 := by grind
/- post0@37 -/ theorem s_X2_add_3 (v_t_size : Int32) (hp0 : 0 ≤ v_t_size) (hp1 : v_t_size ≤ 6) (c_4 : ¬ (f_X2_isFull v_t_size) = 0) : 0 ≤ v_t_size := by grind [f_X2_isFull]
/- post1@37 -/ theorem s_X2_add_4 (v_t_size : Int32) (hp0 : 0 ≤ v_t_size) (hp1 : v_t_size ≤ 6) (c_4 : ¬ (f_X2_isFull v_t_size) = 0) : v_t_size ≤ 6 := by grind [f_X2_isFull]
/- in@16 -/ theorem s_X2_add_5 (v_t_size : Int32) (hp0 : 0 ≤ v_t_size) (hp1 : v_t_size ≤ 6) (c_4 : (f_X2_isFull v_t_size) = 0) : vp_in v_t_size 6 := vin (k := 6) (by grind [f_X2_isFull]) (by grind [f_X2_isFull]) (by decide)
/- in@26 -/ theorem s_X2_add_6 (v_t_size : Int32) (hp0 : 0 ≤ v_t_size) (hp1 : v_t_size ≤ 6) (c_4 : (f_X2_isFull v_t_size) = 0) : vp_in v_t_size 6 := vin (k := 6) (by grind [f_X2_isFull]) (by grind [f_X2_isFull]) (by decide)
/- post0@37 -/ theorem s_X2_add_7 (v_t_size : Int32) (hp0 : 0 ≤ v_t_size) (hp1 : v_t_size ≤ 6) (c_4 : (f_X2_isFull v_t_size) = 0) : 0 ≤ (v_t_size + 1) := by grind [f_X2_isFull]
/- post1@37 -/ theorem s_X2_add_8 (v_t_size : Int32) (hp0 : 0 ≤ v_t_size) (hp1 : v_t_size ≤ 6) (c_4 : (f_X2_isFull v_t_size) = 0) : (v_t_size + 1) ≤ 6 := by grind [f_X2_isFull]
set_option maxHeartbeats 4000000 in
set_option maxRecDepth 100000 in
theorem c_X2_add (l : Launch) (D : va_G) (cI cZ cO : ClassId) (a_t : Nat) (a_t_contracts : Nat) (a_t_days : Nat) (v_t_size : Int32) (f_t_contracts : Nat → Int32) (f_t_days : Nat → Int32) (x1 : Int32) (x2 : Int32) (sz : Nat) (hp0 : 0 ≤ v_t_size) (hp1 : v_t_size ≤ 6) : Met l yX2_add wsX2_add ({ frames := 1, cells := 0, slots := 0, locals := 20 }) (PcM D (tysG cI cZ cO) [.ref a_t, .int x1, .int x2] sz [(a_t, .inr (2, [.ref a_t_contracts, .ref a_t_days, .int v_t_size])), (a_t_contracts, .inl (cI, 6, .inl f_t_contracts)), (a_t_days, .inl (cI, 6, .inl f_t_days))]) (va_Qv (fun u : Int32 × (Nat → Int32) × (Nat → Int32) => u = f_X2_add v_t_size f_t_contracts f_t_days x1 x2 ∧ (0 ≤ u.1) ∧ (u.1 ≤ 6)) (BM D (va_A [(a_t, .inr (2, [.ref a_t_contracts, .ref a_t_days, .int v_t_size])), (a_t_contracts, .inl (cI, 6, .inl f_t_contracts)), (a_t_days, .inl (cI, 6, .inl f_t_days))] sz) (fun u : Int32 × (Nat → Int32) × (Nat → Int32) => [(a_t, .inr (2, [.ref a_t_contracts, .ref a_t_days, .int u.1])), (a_t_contracts, .inl (cI, 6, .inl u.2.1)), (a_t_days, .inl (cI, 6, .inl u.2.2))])) (va_A [(a_t, .inr (2, [.ref a_t_contracts, .ref a_t_days, .int v_t_size])), (a_t_contracts, .inl (cI, 6, .inl f_t_contracts)), (a_t_days, .inl (cI, 6, .inl f_t_days))] sz)) 0 0 (va_A [(a_t, .inr (2, [.ref a_t_contracts, .ref a_t_days, .int v_t_size])), (a_t_contracts, .inl (cI, 6, .inl f_t_contracts)), (a_t_days, .inl (cI, 6, .inl f_t_days))] sz) := by
  refine Met.ofW (cc := cX2_add) (maxL := 3) (ret := none) (by decide) rfl ?_
  intro p e s m args below meth c s₁ B hml hv
  obtain ⟨rfl, hsz, hP, hKX, hD0⟩ := hv
  have hx := B.exec
  have hb := B.bytes
  have hr := B.returns
  have hts := atoms_spec (ws := wsX2_add) B.pre
  have hown : s.vm.findClass RX2 = some m.cls := findClass_of_methodNamed B.named
  have hlocks := B.notSynchronized
  have hK := hKX.1
  have hwX2 : ∀ w ∈ wsX20, w ∈ wsX2_add := by decide +kernel
  subst hsz
  have hD := hD0.self (sz := s.heap.size)
  generalize hAe : va_A [(a_t, .inr (2, [.ref a_t_contracts, .ref a_t_days, .int v_t_size])), (a_t_contracts, .inl (cI, 6, .inl f_t_contracts)), (a_t_days, .inl (cI, 6, .inl f_t_days))] s.heap.size = A at hD ⊢
  have hA : ∀ q : Nat, s.heap.size ≤ q → A q := fun q h => by rw [← hAe]; exact Or.inr h
  have hS : va_S A s.heap s.heap [] := va_S.rf
  have hP : va_P D vwCl [(a_t, .inr (2, [.ref a_t_contracts, .ref a_t_days, .int v_t_size])), (a_t_contracts, .inl (cI, 6, .inl f_t_contracts)), (a_t_days, .inl (cI, 6, .inl f_t_days))] s.heap := hP
  have hl := lv_entry ([.ref a_t, .int x1, .int x2]) (n := 3) (Nat.le_of_ble_eq_true rfl)
  rw [lg_entry_eq]
  generalize (lg_sl ([.ref a_t, .int x1, .int x2]) ++ List.replicate (3 - (lg_sl ([.ref a_t, .int x1, .int x2])).length) Slot.unset).toArray = ls at hl ⊢
  have hl : lv_has ls 3 [(0, .ref a_t), (1, .int x1), (2, .int x2)] := hl
  have hf := f_X2_add.eq_1 v_t_size f_t_contracts f_t_days x1 x2
  refine lv_aload_n hx hb dX2_add_0 rfl (lv_at hl 0 rfl) ?_
  refine pcV (As := []) (rest := []) ⟨hx, hb, hml, hown, hts⟩ (c_X2_isFull l D cI cZ cO a_t a_t_contracts a_t_days v_t_size (s_X2_add_1 v_t_size hp0 hp1) (s_X2_add_2 v_t_size hp0 hp1)) (cwV 0 hts gX2_add_X2_isFull rfl rfl rfl (by decide +kernel) ⟨Nat.le_of_ble_eq_true rfl, Nat.le_of_ble_eq_true rfl⟩) hKX hP [0] rfl 0 2 rfl rfl rfl rfl hl.1 rfl (Nat.le_of_ble_eq_true rfl) dX2_add_1 ⟨Nat.le_of_ble_eq_true rfl, Nat.le_of_ble_eq_true rfl⟩ ?_
  refine lv_if_ne (tgt := 37) hx hb dX2_add_4 (by decide) (fun c_4 => ?_) (fun c_4 => ?_)
  · replace hf := hf.trans (if_pos c_4)
    exact W.vret hx hb hr (fun t ht hW => ⟨⟨(v_t_size, f_t_contracts, f_t_days), rfl, ⟨hf.symm, (s_X2_add_3 v_t_size hp0 hp1 c_4), (s_X2_add_4 v_t_size hp0 hp1 c_4)⟩, by rw [ht]; exact hP.sub [0, 1, 2] rfl, hD.sub [0, 1, 2] (by decide) rfl⟩, hS.F ht⟩) hS.2.2 dX2_add_37
  · replace hf := hf.trans (if_neg (fun h9 => h9 c_4))
    refine lv_aload_n hx hb dX2_add_7 rfl (lv_at hl 0 rfl) ?_
    refine va_get (D := D) (ci := 2) (v := .ref a_t_contracts) (C := RX2) (T := TX2) (N := 3) hx hb hts hwX2 hown hK hP 0 rfl rfl 0 (by decide) (hts (.fieldLink RX2 11 "SkippedDay$Sightings" "contracts" "[I") (by decide +kernel)) (fun _ h9 => h9) rfl dX2_add_8 ?_
    refine lv_aload_n hx hb dX2_add_11 rfl (lv_at hl 0 rfl) ?_
    refine va_get (D := D) (ci := 2) (v := .int v_t_size) (C := RX2) (T := TX2) (N := 3) hx hb hts hwX2 hown hK hP 0 rfl rfl 2 (by decide) (hts (.fieldLink RX2 18 "SkippedDay$Sightings" "size" "I") (by decide +kernel)) (fun _ h9 => h9) rfl dX2_add_12 ?_
    refine lv_iload_n hx hb dX2_add_15 rfl (lv_at hl 1 rfl) ?_
    refine va_iast hx hb hK hP hD hS 1 0 rfl rfl (s_X2_add_5 v_t_size hp0 hp1 c_4) dX2_add_16 (fun H locs hP hD hS => ?_)
    have hP : va_P D vwCl [(a_t, .inr (2, [.ref a_t_contracts, .ref a_t_days, .int v_t_size])), (a_t_contracts, .inl (cI, 6, .inl (upd f_t_contracts v_t_size.toNatClampNeg x1))), (a_t_days, .inl (cI, 6, .inl f_t_days))] H := hP
    have hD : va_D A [(a_t, .inr (2, [.ref a_t_contracts, .ref a_t_days, .int v_t_size])), (a_t_contracts, .inl (cI, 6, .inl (upd f_t_contracts v_t_size.toNatClampNeg x1))), (a_t_days, .inl (cI, 6, .inl f_t_days))] := hD
    refine lv_aload_n hx hb dX2_add_17 rfl (lv_at hl 0 rfl) ?_
    refine va_get (D := D) (ci := 2) (v := .ref a_t_days) (C := RX2) (T := TX2) (N := 3) hx hb hts hwX2 hown hK hP 0 rfl rfl 1 (by decide) (hts (.fieldLink RX2 15 "SkippedDay$Sightings" "days" "[I") (by decide +kernel)) (fun _ h9 => h9) rfl dX2_add_18 ?_
    refine lv_aload_n hx hb dX2_add_21 rfl (lv_at hl 0 rfl) ?_
    refine va_get (D := D) (ci := 2) (v := .int v_t_size) (C := RX2) (T := TX2) (N := 3) hx hb hts hwX2 hown hK hP 0 rfl rfl 2 (by decide) (hts (.fieldLink RX2 18 "SkippedDay$Sightings" "size" "I") (by decide +kernel)) (fun _ h9 => h9) rfl dX2_add_22 ?_
    refine lv_iload_n hx hb dX2_add_25 rfl (lv_at hl 2 rfl) ?_
    refine va_iast hx hb hK hP hD hS 2 0 rfl rfl (s_X2_add_6 v_t_size hp0 hp1 c_4) dX2_add_26 (fun H locs hP hD hS => ?_)
    have hP : va_P D vwCl [(a_t, .inr (2, [.ref a_t_contracts, .ref a_t_days, .int v_t_size])), (a_t_contracts, .inl (cI, 6, .inl (upd f_t_contracts v_t_size.toNatClampNeg x1))), (a_t_days, .inl (cI, 6, .inl (upd f_t_days v_t_size.toNatClampNeg x2)))] H := hP
    have hD : va_D A [(a_t, .inr (2, [.ref a_t_contracts, .ref a_t_days, .int v_t_size])), (a_t_contracts, .inl (cI, 6, .inl (upd f_t_contracts v_t_size.toNatClampNeg x1))), (a_t_days, .inl (cI, 6, .inl (upd f_t_days v_t_size.toNatClampNeg x2)))] := hD
    refine lv_aload_n hx hb dX2_add_27 rfl (lv_at hl 0 rfl) ?_
    refine lv_dup hx hb dX2_add_28 rfl ?_
    refine va_get (D := D) (ci := 2) (v := .int v_t_size) (C := RX2) (T := TX2) (N := 3) hx hb hts hwX2 hown hK hP 0 rfl rfl 2 (by decide) (hts (.fieldLink RX2 18 "SkippedDay$Sightings" "size" "I") (by decide +kernel)) (fun _ h9 => h9) rfl dX2_add_29 ?_
    refine lv_iconst (v := 1) hx hb dX2_add_32 (by decide) ?_
    refine lv_iadd hx hb dX2_add_33 ?_
    refine va_put (D := D) (ci := 2) (v := .int (v_t_size + 1)) (ty := .int) (C := RX2) (T := TX2) (N := 3) hx hb hts hwX2 tyX2 tyX2_ok nmX2 hown hK hP hD hS 0 rfl rfl 2 (by decide) (hts (.fieldLink RX2 18 "SkippedDay$Sightings" "size" "I") (by decide +kernel)) (fun _ h9 => h9) rfl (by decide +kernel) rfl rfl (Nat.le_of_ble_eq_true rfl) dX2_add_34 (fun H locs hP hD hS => ?_)
    have hP : va_P D vwCl [(a_t, .inr (2, [.ref a_t_contracts, .ref a_t_days, .int (v_t_size + 1)])), (a_t_contracts, .inl (cI, 6, .inl (upd f_t_contracts v_t_size.toNatClampNeg x1))), (a_t_days, .inl (cI, 6, .inl (upd f_t_days v_t_size.toNatClampNeg x2)))] H := hP
    have hD : va_D A [(a_t, .inr (2, [.ref a_t_contracts, .ref a_t_days, .int (v_t_size + 1)])), (a_t_contracts, .inl (cI, 6, .inl (upd f_t_contracts v_t_size.toNatClampNeg x1))), (a_t_days, .inl (cI, 6, .inl (upd f_t_days v_t_size.toNatClampNeg x2)))] := hD
    exact W.vret hx hb hr (fun t ht hW => ⟨⟨(v_t_size + 1, upd f_t_contracts v_t_size.toNatClampNeg x1, upd f_t_days v_t_size.toNatClampNeg x2), rfl, ⟨hf.symm, (s_X2_add_7 v_t_size hp0 hp1 c_4), (s_X2_add_8 v_t_size hp0 hp1 c_4)⟩, by rw [ht]; exact hP.sub [0, 1, 2] rfl, hD.sub [0, 1, 2] (by decide) rfl⟩, hS.F ht⟩) hS.2.2 dX2_add_37

def f_X2_contractAt (v_t_size : Int32) (f_t_contracts : Nat → Int32) (x1 : Int32) : Int32 :=
  if x1 < 0 then (-9) else if v_t_size ≤ x1 then (-9) else f_t_contracts x1.toNatClampNeg
/- in@17 -/ theorem s_X2_contractAt_1 (v_t_size : Int32) (x1 : Int32) (hp0 : 0 ≤ v_t_size) (hp1 : v_t_size ≤ 6) (c_1 : ¬ x1 < 0) (c_9 : ¬ v_t_size ≤ x1) : vp_in x1 6 := vin (k := 6) (by grind) (by grind) (by decide)
set_option maxHeartbeats 4000000 in
set_option maxRecDepth 100000 in
theorem c_X2_contractAt (l : Launch) (D : va_G) (cI cZ cO : ClassId) (a_t : Nat) (a_t_contracts : Nat) (a_t_days : Nat) (v_t_size : Int32) (f_t_contracts : Nat → Int32) (x1 : Int32) (hp0 : 0 ≤ v_t_size) (hp1 : v_t_size ≤ 6) : Met l yX2_contractAt wsX2_contractAt ({ frames := 0, cells := 0, slots := 0, locals := 0 }) (PcP D (tysG cI cZ cO) [.ref a_t, .int x1] [(a_t, .inr (2, [.ref a_t_contracts, .ref a_t_days, .int v_t_size])), (a_t_contracts, .inl (cI, 6, .inl f_t_contracts))]) (QP (.int (f_X2_contractAt v_t_size f_t_contracts x1))) 0 0 (fun _ => False) := by
  refine Met.ofW (cc := cX2_contractAt) (maxL := 2) (ret := (some .int)) (by decide) rfl ?_
  intro p e s m args below meth c s₁ B hml hv
  obtain ⟨rfl, hP, hKX⟩ := hv
  have hx := B.exec
  have hb := B.bytes
  have hr := B.returns
  have hts := atoms_spec (ws := wsX2_contractAt) B.pre
  have hown : s.vm.findClass RX2 = some m.cls := findClass_of_methodNamed B.named
  have hlocks := B.notSynchronized
  have hK := hKX.1
  have hwX2 : ∀ w ∈ wsX20, w ∈ wsX2_contractAt := by decide +kernel
  have hl := lv_entry ([.ref a_t, .int x1]) (n := 2) (Nat.le_of_ble_eq_true rfl)
  rw [lg_entry_eq]
  generalize (lg_sl ([.ref a_t, .int x1]) ++ List.replicate (2 - (lg_sl ([.ref a_t, .int x1])).length) Slot.unset).toArray = ls at hl ⊢
  have hl : lv_has ls 2 [(0, .ref a_t), (1, .int x1)] := hl
  have hf := f_X2_contractAt.eq_1 v_t_size f_t_contracts x1
  refine lv_iload_n hx hb dX2_contractAt_0 rfl (lv_at hl 1 rfl) ?_
  refine lv_if_lt (tgt := 21) hx hb dX2_contractAt_1 (by decide) (fun c_1 => ?_) (fun c_1 => ?_)
  · replace hf := hf.trans (if_pos c_1)
    refine lv_bipush (v := (-9)) hx hb dX2_contractAt_21 (by decide) ?_
    exact W.iret (v := (-9)) hx hb hr (fun t ht hW => ⟨congrArg (fun z => Outcome.returned (some (Value.int z))) hf.symm, ht⟩) (fun _ h => absurd h List.not_mem_nil) dX2_contractAt_23
  · replace hf := hf.trans (if_neg c_1)
    refine lv_iload_n hx hb dX2_contractAt_4 rfl (lv_at hl 1 rfl) ?_
    refine lv_aload_n hx hb dX2_contractAt_5 rfl (lv_at hl 0 rfl) ?_
    refine va_get (D := D) (ci := 2) (v := .int v_t_size) (C := RX2) (T := TX2) (N := 3) hx hb hts hwX2 hown hK hP 0 rfl rfl 2 (by decide) (hts (.fieldLink RX2 18 "SkippedDay$Sightings" "size" "I") (by decide +kernel)) (fun _ h9 => h9) rfl dX2_contractAt_6 ?_
    refine lv_icmp_ge (tgt := 21) hx hb dX2_contractAt_9 (by decide) (fun c_9 => ?_) (fun c_9 => ?_)
    · replace hf := hf.trans (if_pos c_9)
      refine lv_bipush (v := (-9)) hx hb dX2_contractAt_21 (by decide) ?_
      exact W.iret (v := (-9)) hx hb hr (fun t ht hW => ⟨congrArg (fun z => Outcome.returned (some (Value.int z))) hf.symm, ht⟩) (fun _ h => absurd h List.not_mem_nil) dX2_contractAt_23
    · replace hf := hf.trans (if_neg c_9)
      refine lv_aload_n hx hb dX2_contractAt_12 rfl (lv_at hl 0 rfl) ?_
      refine va_get (D := D) (ci := 2) (v := .ref a_t_contracts) (C := RX2) (T := TX2) (N := 3) hx hb hts hwX2 hown hK hP 0 rfl rfl 0 (by decide) (hts (.fieldLink RX2 11 "SkippedDay$Sightings" "contracts" "[I") (by decide +kernel)) (fun _ h9 => h9) rfl dX2_contractAt_13 ?_
      refine lv_iload_n hx hb dX2_contractAt_16 rfl (lv_at hl 1 rfl) ?_
      refine va_iald hx hb hK hP 1 0 rfl rfl (s_X2_contractAt_1 v_t_size x1 hp0 hp1 c_1 c_9) dX2_contractAt_17 ?_
      refine lv_goto (tgt := 23) hx hb dX2_contractAt_18 (by decide) ?_
      exact W.iret (v := f_t_contracts x1.toNatClampNeg) hx hb hr (fun t ht hW => ⟨congrArg (fun z => Outcome.returned (some (Value.int z))) hf.symm, ht⟩) (fun _ h => absurd h List.not_mem_nil) dX2_contractAt_23

def f_X2_dayAt (v_t_size : Int32) (f_t_days : Nat → Int32) (x1 : Int32) : Int32 :=
  if x1 < 0 then (-9) else if v_t_size ≤ x1 then (-9) else f_t_days x1.toNatClampNeg
/- in@17 -/ theorem s_X2_dayAt_1 (v_t_size : Int32) (x1 : Int32) (hp0 : 0 ≤ v_t_size) (hp1 : v_t_size ≤ 6) (c_1 : ¬ x1 < 0) (c_9 : ¬ v_t_size ≤ x1) : vp_in x1 6 := vin (k := 6) (by grind) (by grind) (by decide)
set_option maxHeartbeats 4000000 in
set_option maxRecDepth 100000 in
theorem c_X2_dayAt (l : Launch) (D : va_G) (cI cZ cO : ClassId) (a_t : Nat) (a_t_contracts : Nat) (a_t_days : Nat) (v_t_size : Int32) (f_t_days : Nat → Int32) (x1 : Int32) (hp0 : 0 ≤ v_t_size) (hp1 : v_t_size ≤ 6) : Met l yX2_dayAt wsX2_dayAt ({ frames := 0, cells := 0, slots := 0, locals := 0 }) (PcP D (tysG cI cZ cO) [.ref a_t, .int x1] [(a_t, .inr (2, [.ref a_t_contracts, .ref a_t_days, .int v_t_size])), (a_t_days, .inl (cI, 6, .inl f_t_days))]) (QP (.int (f_X2_dayAt v_t_size f_t_days x1))) 0 0 (fun _ => False) := by
  refine Met.ofW (cc := cX2_dayAt) (maxL := 2) (ret := (some .int)) (by decide) rfl ?_
  intro p e s m args below meth c s₁ B hml hv
  obtain ⟨rfl, hP, hKX⟩ := hv
  have hx := B.exec
  have hb := B.bytes
  have hr := B.returns
  have hts := atoms_spec (ws := wsX2_dayAt) B.pre
  have hown : s.vm.findClass RX2 = some m.cls := findClass_of_methodNamed B.named
  have hlocks := B.notSynchronized
  have hK := hKX.1
  have hwX2 : ∀ w ∈ wsX20, w ∈ wsX2_dayAt := by decide +kernel
  have hl := lv_entry ([.ref a_t, .int x1]) (n := 2) (Nat.le_of_ble_eq_true rfl)
  rw [lg_entry_eq]
  generalize (lg_sl ([.ref a_t, .int x1]) ++ List.replicate (2 - (lg_sl ([.ref a_t, .int x1])).length) Slot.unset).toArray = ls at hl ⊢
  have hl : lv_has ls 2 [(0, .ref a_t), (1, .int x1)] := hl
  have hf := f_X2_dayAt.eq_1 v_t_size f_t_days x1
  refine lv_iload_n hx hb dX2_dayAt_0 rfl (lv_at hl 1 rfl) ?_
  refine lv_if_lt (tgt := 21) hx hb dX2_dayAt_1 (by decide) (fun c_1 => ?_) (fun c_1 => ?_)
  · replace hf := hf.trans (if_pos c_1)
    refine lv_bipush (v := (-9)) hx hb dX2_dayAt_21 (by decide) ?_
    exact W.iret (v := (-9)) hx hb hr (fun t ht hW => ⟨congrArg (fun z => Outcome.returned (some (Value.int z))) hf.symm, ht⟩) (fun _ h => absurd h List.not_mem_nil) dX2_dayAt_23
  · replace hf := hf.trans (if_neg c_1)
    refine lv_iload_n hx hb dX2_dayAt_4 rfl (lv_at hl 1 rfl) ?_
    refine lv_aload_n hx hb dX2_dayAt_5 rfl (lv_at hl 0 rfl) ?_
    refine va_get (D := D) (ci := 2) (v := .int v_t_size) (C := RX2) (T := TX2) (N := 3) hx hb hts hwX2 hown hK hP 0 rfl rfl 2 (by decide) (hts (.fieldLink RX2 18 "SkippedDay$Sightings" "size" "I") (by decide +kernel)) (fun _ h9 => h9) rfl dX2_dayAt_6 ?_
    refine lv_icmp_ge (tgt := 21) hx hb dX2_dayAt_9 (by decide) (fun c_9 => ?_) (fun c_9 => ?_)
    · replace hf := hf.trans (if_pos c_9)
      refine lv_bipush (v := (-9)) hx hb dX2_dayAt_21 (by decide) ?_
      exact W.iret (v := (-9)) hx hb hr (fun t ht hW => ⟨congrArg (fun z => Outcome.returned (some (Value.int z))) hf.symm, ht⟩) (fun _ h => absurd h List.not_mem_nil) dX2_dayAt_23
    · replace hf := hf.trans (if_neg c_9)
      refine lv_aload_n hx hb dX2_dayAt_12 rfl (lv_at hl 0 rfl) ?_
      refine va_get (D := D) (ci := 2) (v := .ref a_t_days) (C := RX2) (T := TX2) (N := 3) hx hb hts hwX2 hown hK hP 0 rfl rfl 1 (by decide) (hts (.fieldLink RX2 15 "SkippedDay$Sightings" "days" "[I") (by decide +kernel)) (fun _ h9 => h9) rfl dX2_dayAt_13 ?_
      refine lv_iload_n hx hb dX2_dayAt_16 rfl (lv_at hl 1 rfl) ?_
      refine va_iald hx hb hK hP 1 0 rfl rfl (s_X2_dayAt_1 v_t_size x1 hp0 hp1 c_1 c_9) dX2_dayAt_17 ?_
      refine lv_goto (tgt := 23) hx hb dX2_dayAt_18 (by decide) ?_
      exact W.iret (v := f_t_days x1.toNatClampNeg) hx hb hr (fun t ht hW => ⟨congrArg (fun z => Outcome.returned (some (Value.int z))) hf.symm, ht⟩) (fun _ h => absurd h List.not_mem_nil) dX2_dayAt_23

def f_X3_begin (x1 : Int32) : Int32 × Int32 × Int32 :=
  (13, 0, x1)
set_option maxHeartbeats 4000000 in
set_option maxRecDepth 100000 in
theorem c_X3_begin (l : Launch) (D : va_G) (cI cZ cO : ClassId) (a_t : Nat) (v_t_place : Int32) (v_t_voided : Int32) (v_t_counted : Int32) (x1 : Int32) (sz : Nat) : Met l yX3_begin wsX3_begin ({ frames := 0, cells := 0, slots := 0, locals := 0 }) (PcM D (tysG cI cZ cO) [.ref a_t, .int x1] sz [(a_t, .inr (3, [.int v_t_place, .int v_t_voided, .int v_t_counted]))]) (va_Qv (fun u : Int32 × Int32 × Int32 => u = f_X3_begin x1) (BM D (va_A [(a_t, .inr (3, [.int v_t_place, .int v_t_voided, .int v_t_counted]))] sz) (fun u : Int32 × Int32 × Int32 => [(a_t, .inr (3, [.int u.1, .int u.2.1, .int u.2.2]))])) (va_A [(a_t, .inr (3, [.int v_t_place, .int v_t_voided, .int v_t_counted]))] sz)) 0 0 (va_A [(a_t, .inr (3, [.int v_t_place, .int v_t_voided, .int v_t_counted]))] sz) := by
  refine Met.ofW (cc := cX3_begin) (maxL := 2) (ret := none) (by decide) rfl ?_
  intro p e s m args below meth c s₁ B hml hv
  obtain ⟨rfl, hsz, hP, hKX, hD0⟩ := hv
  have hx := B.exec
  have hb := B.bytes
  have hr := B.returns
  have hts := atoms_spec (ws := wsX3_begin) B.pre
  have hown : s.vm.findClass RX3 = some m.cls := findClass_of_methodNamed B.named
  have hlocks := B.notSynchronized
  have hK := hKX.1
  have hwX3 : ∀ w ∈ wsX30, w ∈ wsX3_begin := by decide +kernel
  subst hsz
  have hD := hD0.self (sz := s.heap.size)
  generalize hAe : va_A [(a_t, .inr (3, [.int v_t_place, .int v_t_voided, .int v_t_counted]))] s.heap.size = A at hD ⊢
  have hA : ∀ q : Nat, s.heap.size ≤ q → A q := fun q h => by rw [← hAe]; exact Or.inr h
  have hS : va_S A s.heap s.heap [] := va_S.rf
  have hP : va_P D vwCl [(a_t, .inr (3, [.int v_t_place, .int v_t_voided, .int v_t_counted]))] s.heap := hP
  have hl := lv_entry ([.ref a_t, .int x1]) (n := 2) (Nat.le_of_ble_eq_true rfl)
  rw [lg_entry_eq]
  generalize (lg_sl ([.ref a_t, .int x1]) ++ List.replicate (2 - (lg_sl ([.ref a_t, .int x1])).length) Slot.unset).toArray = ls at hl ⊢
  have hl : lv_has ls 2 [(0, .ref a_t), (1, .int x1)] := hl
  have hf := f_X3_begin.eq_1 x1
  refine lv_aload_n hx hb dX3_begin_0 rfl (lv_at hl 0 rfl) ?_
  refine lv_bipush (v := 13) hx hb dX3_begin_1 (by decide) ?_
  refine va_put (D := D) (ci := 3) (v := .int 13) (ty := .int) (C := RX3) (T := TX3) (N := 3) hx hb hts hwX3 tyX3 tyX3_ok nmX3 hown hK hP hD hS 0 rfl rfl 0 (by decide) (hts (.fieldLink RX3 9 "SkippedDay$Standing" "place" "I") (by decide +kernel)) (fun _ h9 => h9) rfl (by decide +kernel) rfl rfl (Nat.le_of_ble_eq_true rfl) dX3_begin_3 (fun H locs hP hD hS => ?_)
  have hP : va_P D vwCl [(a_t, .inr (3, [.int 13, .int v_t_voided, .int v_t_counted]))] H := hP
  have hD : va_D A [(a_t, .inr (3, [.int 13, .int v_t_voided, .int v_t_counted]))] := hD
  refine lv_aload_n hx hb dX3_begin_6 rfl (lv_at hl 0 rfl) ?_
  refine lv_iconst (v := 0) hx hb dX3_begin_7 (by decide) ?_
  refine va_put (D := D) (ci := 3) (v := .int 0) (ty := .int) (C := RX3) (T := TX3) (N := 3) hx hb hts hwX3 tyX3 tyX3_ok nmX3 hown hK hP hD hS 0 rfl rfl 1 (by decide) (hts (.fieldLink RX3 15 "SkippedDay$Standing" "voided" "I") (by decide +kernel)) (fun _ h9 => h9) rfl (by decide +kernel) rfl rfl (Nat.le_of_ble_eq_true rfl) dX3_begin_8 (fun H locs hP hD hS => ?_)
  have hP : va_P D vwCl [(a_t, .inr (3, [.int 13, .int 0, .int v_t_counted]))] H := hP
  have hD : va_D A [(a_t, .inr (3, [.int 13, .int 0, .int v_t_counted]))] := hD
  refine lv_aload_n hx hb dX3_begin_11 rfl (lv_at hl 0 rfl) ?_
  refine lv_iload_n hx hb dX3_begin_12 rfl (lv_at hl 1 rfl) ?_
  refine va_put (D := D) (ci := 3) (v := .int x1) (ty := .int) (C := RX3) (T := TX3) (N := 3) hx hb hts hwX3 tyX3 tyX3_ok nmX3 hown hK hP hD hS 0 rfl rfl 2 (by decide) (hts (.fieldLink RX3 18 "SkippedDay$Standing" "counted" "I") (by decide +kernel)) (fun _ h9 => h9) rfl (by decide +kernel) rfl rfl (Nat.le_of_ble_eq_true rfl) dX3_begin_13 (fun H locs hP hD hS => ?_)
  have hP : va_P D vwCl [(a_t, .inr (3, [.int 13, .int 0, .int x1]))] H := hP
  have hD : va_D A [(a_t, .inr (3, [.int 13, .int 0, .int x1]))] := hD
  exact W.vret hx hb hr (fun t ht hW => ⟨⟨(13, 0, x1), rfl, hf.symm, by rw [ht]; exact hP.sub [0] rfl, hD.sub [0] (by decide) rfl⟩, hS.F ht⟩) hS.2.2 dX3_begin_16

def f_X3_copyFrom (v_o1_place : Int32) (v_o1_voided : Int32) (v_o1_counted : Int32) : Int32 × Int32 × Int32 :=
  (v_o1_place, v_o1_voided, v_o1_counted)
set_option maxHeartbeats 4000000 in
set_option maxRecDepth 100000 in
theorem c_X3_copyFrom (l : Launch) (D : va_G) (cI cZ cO : ClassId) (a_t : Nat) (v_t_place : Int32) (v_t_voided : Int32) (v_t_counted : Int32) (a_o1 : Nat) (v_o1_place : Int32) (v_o1_voided : Int32) (v_o1_counted : Int32) (sz : Nat) : Met l yX3_copyFrom wsX3_copyFrom ({ frames := 0, cells := 0, slots := 0, locals := 0 }) (PcM D (tysG cI cZ cO) [.ref a_t, .ref a_o1] sz [(a_t, .inr (3, [.int v_t_place, .int v_t_voided, .int v_t_counted])), (a_o1, .inr (3, [.int v_o1_place, .int v_o1_voided, .int v_o1_counted]))]) (va_Qv (fun u : Int32 × Int32 × Int32 => u = f_X3_copyFrom v_o1_place v_o1_voided v_o1_counted) (BM D (va_A [(a_t, .inr (3, [.int v_t_place, .int v_t_voided, .int v_t_counted])), (a_o1, .inr (3, [.int v_o1_place, .int v_o1_voided, .int v_o1_counted]))] sz) (fun u : Int32 × Int32 × Int32 => [(a_t, .inr (3, [.int u.1, .int u.2.1, .int u.2.2])), (a_o1, .inr (3, [.int v_o1_place, .int v_o1_voided, .int v_o1_counted]))])) (va_A [(a_t, .inr (3, [.int v_t_place, .int v_t_voided, .int v_t_counted])), (a_o1, .inr (3, [.int v_o1_place, .int v_o1_voided, .int v_o1_counted]))] sz)) 0 0 (va_A [(a_t, .inr (3, [.int v_t_place, .int v_t_voided, .int v_t_counted])), (a_o1, .inr (3, [.int v_o1_place, .int v_o1_voided, .int v_o1_counted]))] sz) := by
  refine Met.ofW (cc := cX3_copyFrom) (maxL := 2) (ret := none) (by decide) rfl ?_
  intro p e s m args below meth c s₁ B hml hv
  obtain ⟨rfl, hsz, hP, hKX, hD0⟩ := hv
  have hx := B.exec
  have hb := B.bytes
  have hr := B.returns
  have hts := atoms_spec (ws := wsX3_copyFrom) B.pre
  have hown : s.vm.findClass RX3 = some m.cls := findClass_of_methodNamed B.named
  have hlocks := B.notSynchronized
  have hK := hKX.1
  have hwX3 : ∀ w ∈ wsX30, w ∈ wsX3_copyFrom := by decide +kernel
  subst hsz
  have hD := hD0.self (sz := s.heap.size)
  generalize hAe : va_A [(a_t, .inr (3, [.int v_t_place, .int v_t_voided, .int v_t_counted])), (a_o1, .inr (3, [.int v_o1_place, .int v_o1_voided, .int v_o1_counted]))] s.heap.size = A at hD ⊢
  have hA : ∀ q : Nat, s.heap.size ≤ q → A q := fun q h => by rw [← hAe]; exact Or.inr h
  have hS : va_S A s.heap s.heap [] := va_S.rf
  have hP : va_P D vwCl [(a_t, .inr (3, [.int v_t_place, .int v_t_voided, .int v_t_counted])), (a_o1, .inr (3, [.int v_o1_place, .int v_o1_voided, .int v_o1_counted]))] s.heap := hP
  have hl := lv_entry ([.ref a_t, .ref a_o1]) (n := 2) (Nat.le_of_ble_eq_true rfl)
  rw [lg_entry_eq]
  generalize (lg_sl ([.ref a_t, .ref a_o1]) ++ List.replicate (2 - (lg_sl ([.ref a_t, .ref a_o1])).length) Slot.unset).toArray = ls at hl ⊢
  have hl : lv_has ls 2 [(0, .ref a_t), (1, .ref a_o1)] := hl
  have hf := f_X3_copyFrom.eq_1 v_o1_place v_o1_voided v_o1_counted
  refine lv_aload_n hx hb dX3_copyFrom_0 rfl (lv_at hl 0 rfl) ?_
  refine lv_aload_n hx hb dX3_copyFrom_1 rfl (lv_at hl 1 rfl) ?_
  refine va_get (D := D) (ci := 3) (v := .int v_o1_place) (C := RX3) (T := TX3) (N := 3) hx hb hts hwX3 hown hK hP 1 rfl rfl 0 (by decide) (hts (.fieldLink RX3 9 "SkippedDay$Standing" "place" "I") (by decide +kernel)) (fun _ h9 => h9) rfl dX3_copyFrom_2 ?_
  refine va_put (D := D) (ci := 3) (v := .int v_o1_place) (ty := .int) (C := RX3) (T := TX3) (N := 3) hx hb hts hwX3 tyX3 tyX3_ok nmX3 hown hK hP hD hS 0 rfl rfl 0 (by decide) (hts (.fieldLink RX3 9 "SkippedDay$Standing" "place" "I") (by decide +kernel)) (fun _ h9 => h9) rfl (by decide +kernel) rfl rfl (Nat.le_of_ble_eq_true rfl) dX3_copyFrom_5 (fun H locs hP hD hS => ?_)
  have hP : va_P D vwCl [(a_t, .inr (3, [.int v_o1_place, .int v_t_voided, .int v_t_counted])), (a_o1, .inr (3, [.int v_o1_place, .int v_o1_voided, .int v_o1_counted]))] H := hP
  have hD : va_D A [(a_t, .inr (3, [.int v_o1_place, .int v_t_voided, .int v_t_counted])), (a_o1, .inr (3, [.int v_o1_place, .int v_o1_voided, .int v_o1_counted]))] := hD
  refine lv_aload_n hx hb dX3_copyFrom_8 rfl (lv_at hl 0 rfl) ?_
  refine lv_aload_n hx hb dX3_copyFrom_9 rfl (lv_at hl 1 rfl) ?_
  refine va_get (D := D) (ci := 3) (v := .int v_o1_voided) (C := RX3) (T := TX3) (N := 3) hx hb hts hwX3 hown hK hP 1 rfl rfl 1 (by decide) (hts (.fieldLink RX3 15 "SkippedDay$Standing" "voided" "I") (by decide +kernel)) (fun _ h9 => h9) rfl dX3_copyFrom_10 ?_
  refine va_put (D := D) (ci := 3) (v := .int v_o1_voided) (ty := .int) (C := RX3) (T := TX3) (N := 3) hx hb hts hwX3 tyX3 tyX3_ok nmX3 hown hK hP hD hS 0 rfl rfl 1 (by decide) (hts (.fieldLink RX3 15 "SkippedDay$Standing" "voided" "I") (by decide +kernel)) (fun _ h9 => h9) rfl (by decide +kernel) rfl rfl (Nat.le_of_ble_eq_true rfl) dX3_copyFrom_13 (fun H locs hP hD hS => ?_)
  have hP : va_P D vwCl [(a_t, .inr (3, [.int v_o1_place, .int v_o1_voided, .int v_t_counted])), (a_o1, .inr (3, [.int v_o1_place, .int v_o1_voided, .int v_o1_counted]))] H := hP
  have hD : va_D A [(a_t, .inr (3, [.int v_o1_place, .int v_o1_voided, .int v_t_counted])), (a_o1, .inr (3, [.int v_o1_place, .int v_o1_voided, .int v_o1_counted]))] := hD
  refine lv_aload_n hx hb dX3_copyFrom_16 rfl (lv_at hl 0 rfl) ?_
  refine lv_aload_n hx hb dX3_copyFrom_17 rfl (lv_at hl 1 rfl) ?_
  refine va_get (D := D) (ci := 3) (v := .int v_o1_counted) (C := RX3) (T := TX3) (N := 3) hx hb hts hwX3 hown hK hP 1 rfl rfl 2 (by decide) (hts (.fieldLink RX3 18 "SkippedDay$Standing" "counted" "I") (by decide +kernel)) (fun _ h9 => h9) rfl dX3_copyFrom_18 ?_
  refine va_put (D := D) (ci := 3) (v := .int v_o1_counted) (ty := .int) (C := RX3) (T := TX3) (N := 3) hx hb hts hwX3 tyX3 tyX3_ok nmX3 hown hK hP hD hS 0 rfl rfl 2 (by decide) (hts (.fieldLink RX3 18 "SkippedDay$Standing" "counted" "I") (by decide +kernel)) (fun _ h9 => h9) rfl (by decide +kernel) rfl rfl (Nat.le_of_ble_eq_true rfl) dX3_copyFrom_21 (fun H locs hP hD hS => ?_)
  have hP : va_P D vwCl [(a_t, .inr (3, [.int v_o1_place, .int v_o1_voided, .int v_o1_counted])), (a_o1, .inr (3, [.int v_o1_place, .int v_o1_voided, .int v_o1_counted]))] H := hP
  have hD : va_D A [(a_t, .inr (3, [.int v_o1_place, .int v_o1_voided, .int v_o1_counted])), (a_o1, .inr (3, [.int v_o1_place, .int v_o1_voided, .int v_o1_counted]))] := hD
  exact W.vret hx hb hr (fun t ht hW => ⟨⟨(v_o1_place, v_o1_voided, v_o1_counted), rfl, hf.symm, by rw [ht]; exact hP.sub [0, 1] rfl, hD.sub [0, 1] (by decide) rfl⟩, hS.F ht⟩) hS.2.2 dX3_copyFrom_24

def f_X3_isVoid (v_t_voided : Int32) (x1 : Int32) : Int32 :=
  if ((v_t_voided >>> (x1 &&& 31)) &&& 1) = 0 then 0 else 1
set_option maxHeartbeats 4000000 in
set_option maxRecDepth 100000 in
theorem c_X3_isVoid (l : Launch) (D : va_G) (cI cZ cO : ClassId) (a_t : Nat) (v_t_place : Int32) (v_t_voided : Int32) (v_t_counted : Int32) (x1 : Int32) : Met l yX3_isVoid wsX3_isVoid ({ frames := 0, cells := 0, slots := 0, locals := 0 }) (PcP D (tysG cI cZ cO) [.ref a_t, .int x1] [(a_t, .inr (3, [.int v_t_place, .int v_t_voided, .int v_t_counted]))]) (QP (.int (f_X3_isVoid v_t_voided x1))) 0 0 (fun _ => False) := by
  refine Met.ofW (cc := cX3_isVoid) (maxL := 2) (ret := (some .boolean)) (by decide) rfl ?_
  intro p e s m args below meth c s₁ B hml hv
  obtain ⟨rfl, hP, hKX⟩ := hv
  have hx := B.exec
  have hb := B.bytes
  have hr := B.returns
  have hts := atoms_spec (ws := wsX3_isVoid) B.pre
  have hown : s.vm.findClass RX3 = some m.cls := findClass_of_methodNamed B.named
  have hlocks := B.notSynchronized
  have hK := hKX.1
  have hwX3 : ∀ w ∈ wsX30, w ∈ wsX3_isVoid := by decide +kernel
  have hl := lv_entry ([.ref a_t, .int x1]) (n := 2) (Nat.le_of_ble_eq_true rfl)
  rw [lg_entry_eq]
  generalize (lg_sl ([.ref a_t, .int x1]) ++ List.replicate (2 - (lg_sl ([.ref a_t, .int x1])).length) Slot.unset).toArray = ls at hl ⊢
  have hl : lv_has ls 2 [(0, .ref a_t), (1, .int x1)] := hl
  have hf := f_X3_isVoid.eq_1 v_t_voided x1
  refine lv_aload_n hx hb dX3_isVoid_0 rfl (lv_at hl 0 rfl) ?_
  refine va_get (D := D) (ci := 3) (v := .int v_t_voided) (C := RX3) (T := TX3) (N := 3) hx hb hts hwX3 hown hK hP 0 rfl rfl 1 (by decide) (hts (.fieldLink RX3 15 "SkippedDay$Standing" "voided" "I") (by decide +kernel)) (fun _ h9 => h9) rfl dX3_isVoid_1 ?_
  refine lv_iload_n hx hb dX3_isVoid_4 rfl (lv_at hl 1 rfl) ?_
  refine lv_ishr hx hb dX3_isVoid_5 ?_
  refine lv_iconst (v := 1) hx hb dX3_isVoid_6 (by decide) ?_
  refine lv_iand hx hb dX3_isVoid_7 ?_
  refine lv_if_eq (tgt := 15) hx hb dX3_isVoid_8 (by decide) (fun c_8 => ?_) (fun c_8 => ?_)
  · replace hf := hf.trans (if_pos c_8)
    refine lv_iconst (v := 0) hx hb dX3_isVoid_15 (by decide) ?_
    exact W.zret (ty := .boolean) (v := 0) hx hb hr rfl (fun t ht hW => ⟨congrArg (fun z => Outcome.returned (some (Value.int z))) hf.symm, ht⟩) (fun _ h => absurd h List.not_mem_nil) dX3_isVoid_16
  · replace hf := hf.trans (if_neg c_8)
    refine lv_iconst (v := 1) hx hb dX3_isVoid_11 (by decide) ?_
    refine lv_goto (tgt := 16) hx hb dX3_isVoid_12 (by decide) ?_
    exact W.zret (ty := .boolean) (v := 1) hx hb hr rfl (fun t ht hW => ⟨congrArg (fun z => Outcome.returned (some (Value.int z))) hf.symm, ht⟩) (fun _ h => absurd h List.not_mem_nil) dX3_isVoid_16

def f_X3_turnVoided (v_t_voided : Int32) (x1 : Int32) : Int32 :=
  v_t_voided ^^^ (1 <<< (x1 &&& 31))
set_option maxHeartbeats 4000000 in
set_option maxRecDepth 100000 in
theorem c_X3_turnVoided (l : Launch) (D : va_G) (cI cZ cO : ClassId) (a_t : Nat) (v_t_place : Int32) (v_t_voided : Int32) (v_t_counted : Int32) (x1 : Int32) (sz : Nat) : Met l yX3_turnVoided wsX3_turnVoided ({ frames := 0, cells := 0, slots := 0, locals := 0 }) (PcM D (tysG cI cZ cO) [.ref a_t, .int x1] sz [(a_t, .inr (3, [.int v_t_place, .int v_t_voided, .int v_t_counted]))]) (va_Qv (fun u : Int32 => u = f_X3_turnVoided v_t_voided x1) (BM D (va_A [(a_t, .inr (3, [.int v_t_place, .int v_t_voided, .int v_t_counted]))] sz) (fun u : Int32 => [(a_t, .inr (3, [.int v_t_place, .int u, .int v_t_counted]))])) (va_A [(a_t, .inr (3, [.int v_t_place, .int v_t_voided, .int v_t_counted]))] sz)) 0 0 (va_A [(a_t, .inr (3, [.int v_t_place, .int v_t_voided, .int v_t_counted]))] sz) := by
  refine Met.ofW (cc := cX3_turnVoided) (maxL := 2) (ret := none) (by decide) rfl ?_
  intro p e s m args below meth c s₁ B hml hv
  obtain ⟨rfl, hsz, hP, hKX, hD0⟩ := hv
  have hx := B.exec
  have hb := B.bytes
  have hr := B.returns
  have hts := atoms_spec (ws := wsX3_turnVoided) B.pre
  have hown : s.vm.findClass RX3 = some m.cls := findClass_of_methodNamed B.named
  have hlocks := B.notSynchronized
  have hK := hKX.1
  have hwX3 : ∀ w ∈ wsX30, w ∈ wsX3_turnVoided := by decide +kernel
  subst hsz
  have hD := hD0.self (sz := s.heap.size)
  generalize hAe : va_A [(a_t, .inr (3, [.int v_t_place, .int v_t_voided, .int v_t_counted]))] s.heap.size = A at hD ⊢
  have hA : ∀ q : Nat, s.heap.size ≤ q → A q := fun q h => by rw [← hAe]; exact Or.inr h
  have hS : va_S A s.heap s.heap [] := va_S.rf
  have hP : va_P D vwCl [(a_t, .inr (3, [.int v_t_place, .int v_t_voided, .int v_t_counted]))] s.heap := hP
  have hl := lv_entry ([.ref a_t, .int x1]) (n := 2) (Nat.le_of_ble_eq_true rfl)
  rw [lg_entry_eq]
  generalize (lg_sl ([.ref a_t, .int x1]) ++ List.replicate (2 - (lg_sl ([.ref a_t, .int x1])).length) Slot.unset).toArray = ls at hl ⊢
  have hl : lv_has ls 2 [(0, .ref a_t), (1, .int x1)] := hl
  have hf := f_X3_turnVoided.eq_1 v_t_voided x1
  refine lv_aload_n hx hb dX3_turnVoided_0 rfl (lv_at hl 0 rfl) ?_
  refine lv_dup hx hb dX3_turnVoided_1 rfl ?_
  refine va_get (D := D) (ci := 3) (v := .int v_t_voided) (C := RX3) (T := TX3) (N := 3) hx hb hts hwX3 hown hK hP 0 rfl rfl 1 (by decide) (hts (.fieldLink RX3 15 "SkippedDay$Standing" "voided" "I") (by decide +kernel)) (fun _ h9 => h9) rfl dX3_turnVoided_2 ?_
  refine lv_iconst (v := 1) hx hb dX3_turnVoided_5 (by decide) ?_
  refine lv_iload_n hx hb dX3_turnVoided_6 rfl (lv_at hl 1 rfl) ?_
  refine lv_ishl hx hb dX3_turnVoided_7 ?_
  refine lv_ixor hx hb dX3_turnVoided_8 ?_
  refine va_put (D := D) (ci := 3) (v := .int (v_t_voided ^^^ (1 <<< (x1 &&& 31)))) (ty := .int) (C := RX3) (T := TX3) (N := 3) hx hb hts hwX3 tyX3 tyX3_ok nmX3 hown hK hP hD hS 0 rfl rfl 1 (by decide) (hts (.fieldLink RX3 15 "SkippedDay$Standing" "voided" "I") (by decide +kernel)) (fun _ h9 => h9) rfl (by decide +kernel) rfl rfl (Nat.le_of_ble_eq_true rfl) dX3_turnVoided_9 (fun H locs hP hD hS => ?_)
  have hP : va_P D vwCl [(a_t, .inr (3, [.int v_t_place, .int (v_t_voided ^^^ (1 <<< (x1 &&& 31))), .int v_t_counted]))] H := hP
  have hD : va_D A [(a_t, .inr (3, [.int v_t_place, .int (v_t_voided ^^^ (1 <<< (x1 &&& 31))), .int v_t_counted]))] := hD
  exact W.vret hx hb hr (fun t ht hW => ⟨⟨(v_t_voided ^^^ (1 <<< (x1 &&& 31))), rfl, hf.symm, by rw [ht]; exact hP.sub [0] rfl, hD.sub [0] (by decide) rfl⟩, hS.F ht⟩) hS.2.2 dX3_turnVoided_12

def f_X3_isByCount (v_t_counted : Int32) (x1 : Int32) : Int32 :=
  if ((v_t_counted >>> (x1 &&& 31)) &&& 1) = 0 then 0 else 1
set_option maxHeartbeats 4000000 in
set_option maxRecDepth 100000 in
theorem c_X3_isByCount (l : Launch) (D : va_G) (cI cZ cO : ClassId) (a_t : Nat) (v_t_place : Int32) (v_t_voided : Int32) (v_t_counted : Int32) (x1 : Int32) : Met l yX3_isByCount wsX3_isByCount ({ frames := 0, cells := 0, slots := 0, locals := 0 }) (PcP D (tysG cI cZ cO) [.ref a_t, .int x1] [(a_t, .inr (3, [.int v_t_place, .int v_t_voided, .int v_t_counted]))]) (QP (.int (f_X3_isByCount v_t_counted x1))) 0 0 (fun _ => False) := by
  refine Met.ofW (cc := cX3_isByCount) (maxL := 2) (ret := (some .boolean)) (by decide) rfl ?_
  intro p e s m args below meth c s₁ B hml hv
  obtain ⟨rfl, hP, hKX⟩ := hv
  have hx := B.exec
  have hb := B.bytes
  have hr := B.returns
  have hts := atoms_spec (ws := wsX3_isByCount) B.pre
  have hown : s.vm.findClass RX3 = some m.cls := findClass_of_methodNamed B.named
  have hlocks := B.notSynchronized
  have hK := hKX.1
  have hwX3 : ∀ w ∈ wsX30, w ∈ wsX3_isByCount := by decide +kernel
  have hl := lv_entry ([.ref a_t, .int x1]) (n := 2) (Nat.le_of_ble_eq_true rfl)
  rw [lg_entry_eq]
  generalize (lg_sl ([.ref a_t, .int x1]) ++ List.replicate (2 - (lg_sl ([.ref a_t, .int x1])).length) Slot.unset).toArray = ls at hl ⊢
  have hl : lv_has ls 2 [(0, .ref a_t), (1, .int x1)] := hl
  have hf := f_X3_isByCount.eq_1 v_t_counted x1
  refine lv_aload_n hx hb dX3_isByCount_0 rfl (lv_at hl 0 rfl) ?_
  refine va_get (D := D) (ci := 3) (v := .int v_t_counted) (C := RX3) (T := TX3) (N := 3) hx hb hts hwX3 hown hK hP 0 rfl rfl 2 (by decide) (hts (.fieldLink RX3 18 "SkippedDay$Standing" "counted" "I") (by decide +kernel)) (fun _ h9 => h9) rfl dX3_isByCount_1 ?_
  refine lv_iload_n hx hb dX3_isByCount_4 rfl (lv_at hl 1 rfl) ?_
  refine lv_ishr hx hb dX3_isByCount_5 ?_
  refine lv_iconst (v := 1) hx hb dX3_isByCount_6 (by decide) ?_
  refine lv_iand hx hb dX3_isByCount_7 ?_
  refine lv_if_eq (tgt := 15) hx hb dX3_isByCount_8 (by decide) (fun c_8 => ?_) (fun c_8 => ?_)
  · replace hf := hf.trans (if_pos c_8)
    refine lv_iconst (v := 0) hx hb dX3_isByCount_15 (by decide) ?_
    exact W.zret (ty := .boolean) (v := 0) hx hb hr rfl (fun t ht hW => ⟨congrArg (fun z => Outcome.returned (some (Value.int z))) hf.symm, ht⟩) (fun _ h => absurd h List.not_mem_nil) dX3_isByCount_16
  · replace hf := hf.trans (if_neg c_8)
    refine lv_iconst (v := 1) hx hb dX3_isByCount_11 (by decide) ?_
    refine lv_goto (tgt := 16) hx hb dX3_isByCount_12 (by decide) ?_
    exact W.zret (ty := .boolean) (v := 1) hx hb hr rfl (fun t ht hW => ⟨congrArg (fun z => Outcome.returned (some (Value.int z))) hf.symm, ht⟩) (fun _ h => absurd h List.not_mem_nil) dX3_isByCount_16

def f_X3_turnReading (v_t_counted : Int32) (x1 : Int32) : Int32 :=
  v_t_counted ^^^ (1 <<< (x1 &&& 31))
set_option maxHeartbeats 4000000 in
set_option maxRecDepth 100000 in
theorem c_X3_turnReading (l : Launch) (D : va_G) (cI cZ cO : ClassId) (a_t : Nat) (v_t_place : Int32) (v_t_voided : Int32) (v_t_counted : Int32) (x1 : Int32) (sz : Nat) : Met l yX3_turnReading wsX3_turnReading ({ frames := 0, cells := 0, slots := 0, locals := 0 }) (PcM D (tysG cI cZ cO) [.ref a_t, .int x1] sz [(a_t, .inr (3, [.int v_t_place, .int v_t_voided, .int v_t_counted]))]) (va_Qv (fun u : Int32 => u = f_X3_turnReading v_t_counted x1) (BM D (va_A [(a_t, .inr (3, [.int v_t_place, .int v_t_voided, .int v_t_counted]))] sz) (fun u : Int32 => [(a_t, .inr (3, [.int v_t_place, .int v_t_voided, .int u]))])) (va_A [(a_t, .inr (3, [.int v_t_place, .int v_t_voided, .int v_t_counted]))] sz)) 0 0 (va_A [(a_t, .inr (3, [.int v_t_place, .int v_t_voided, .int v_t_counted]))] sz) := by
  refine Met.ofW (cc := cX3_turnReading) (maxL := 2) (ret := none) (by decide) rfl ?_
  intro p e s m args below meth c s₁ B hml hv
  obtain ⟨rfl, hsz, hP, hKX, hD0⟩ := hv
  have hx := B.exec
  have hb := B.bytes
  have hr := B.returns
  have hts := atoms_spec (ws := wsX3_turnReading) B.pre
  have hown : s.vm.findClass RX3 = some m.cls := findClass_of_methodNamed B.named
  have hlocks := B.notSynchronized
  have hK := hKX.1
  have hwX3 : ∀ w ∈ wsX30, w ∈ wsX3_turnReading := by decide +kernel
  subst hsz
  have hD := hD0.self (sz := s.heap.size)
  generalize hAe : va_A [(a_t, .inr (3, [.int v_t_place, .int v_t_voided, .int v_t_counted]))] s.heap.size = A at hD ⊢
  have hA : ∀ q : Nat, s.heap.size ≤ q → A q := fun q h => by rw [← hAe]; exact Or.inr h
  have hS : va_S A s.heap s.heap [] := va_S.rf
  have hP : va_P D vwCl [(a_t, .inr (3, [.int v_t_place, .int v_t_voided, .int v_t_counted]))] s.heap := hP
  have hl := lv_entry ([.ref a_t, .int x1]) (n := 2) (Nat.le_of_ble_eq_true rfl)
  rw [lg_entry_eq]
  generalize (lg_sl ([.ref a_t, .int x1]) ++ List.replicate (2 - (lg_sl ([.ref a_t, .int x1])).length) Slot.unset).toArray = ls at hl ⊢
  have hl : lv_has ls 2 [(0, .ref a_t), (1, .int x1)] := hl
  have hf := f_X3_turnReading.eq_1 v_t_counted x1
  refine lv_aload_n hx hb dX3_turnReading_0 rfl (lv_at hl 0 rfl) ?_
  refine lv_dup hx hb dX3_turnReading_1 rfl ?_
  refine va_get (D := D) (ci := 3) (v := .int v_t_counted) (C := RX3) (T := TX3) (N := 3) hx hb hts hwX3 hown hK hP 0 rfl rfl 2 (by decide) (hts (.fieldLink RX3 18 "SkippedDay$Standing" "counted" "I") (by decide +kernel)) (fun _ h9 => h9) rfl dX3_turnReading_2 ?_
  refine lv_iconst (v := 1) hx hb dX3_turnReading_5 (by decide) ?_
  refine lv_iload_n hx hb dX3_turnReading_6 rfl (lv_at hl 1 rfl) ?_
  refine lv_ishl hx hb dX3_turnReading_7 ?_
  refine lv_ixor hx hb dX3_turnReading_8 ?_
  refine va_put (D := D) (ci := 3) (v := .int (v_t_counted ^^^ (1 <<< (x1 &&& 31)))) (ty := .int) (C := RX3) (T := TX3) (N := 3) hx hb hts hwX3 tyX3 tyX3_ok nmX3 hown hK hP hD hS 0 rfl rfl 2 (by decide) (hts (.fieldLink RX3 18 "SkippedDay$Standing" "counted" "I") (by decide +kernel)) (fun _ h9 => h9) rfl (by decide +kernel) rfl rfl (Nat.le_of_ble_eq_true rfl) dX3_turnReading_9 (fun H locs hP hD hS => ?_)
  have hP : va_P D vwCl [(a_t, .inr (3, [.int v_t_place, .int v_t_voided, .int (v_t_counted ^^^ (1 <<< (x1 &&& 31)))]))] H := hP
  have hD : va_D A [(a_t, .inr (3, [.int v_t_place, .int v_t_voided, .int (v_t_counted ^^^ (1 <<< (x1 &&& 31)))]))] := hD
  exact W.vret hx hb hr (fun t ht hW => ⟨⟨(v_t_counted ^^^ (1 <<< (x1 &&& 31))), rfl, hf.symm, by rw [ht]; exact hP.sub [0] rfl, hD.sub [0] (by decide) rfl⟩, hS.F ht⟩) hS.2.2 dX3_turnReading_12

def f_X4_length (v_t_length : Int32) : Int32 :=
  v_t_length
set_option maxHeartbeats 4000000 in
set_option maxRecDepth 100000 in
theorem c_X4_length (l : Launch) (D : va_G) (cI cZ cO : ClassId) (a_t : Nat) (a_t_bytes : Nat) (v_t_length : Int32) (hp0 : 0 ≤ v_t_length) (hp1 : v_t_length ≤ 64) : Met l yX4_length wsX4_length ({ frames := 0, cells := 0, slots := 0, locals := 0 }) (PcP D (tysG cI cZ cO) [.ref a_t] [(a_t, .inr (4, [.ref a_t_bytes, .int v_t_length]))]) (QP (.int (f_X4_length v_t_length))) 0 0 (fun _ => False) := by
  refine Met.ofW (cc := cX4_length) (maxL := 1) (ret := (some .int)) (by decide) rfl ?_
  intro p e s m args below meth c s₁ B hml hv
  obtain ⟨rfl, hP, hKX⟩ := hv
  have hx := B.exec
  have hb := B.bytes
  have hr := B.returns
  have hts := atoms_spec (ws := wsX4_length) B.pre
  have hown : s.vm.findClass RX4 = some m.cls := findClass_of_methodNamed B.named
  have hlocks := B.notSynchronized
  have hK := hKX.1
  have hwX4 : ∀ w ∈ wsX40, w ∈ wsX4_length := by decide +kernel
  have hl := lv_entry ([.ref a_t]) (n := 1) (Nat.le_of_ble_eq_true rfl)
  rw [lg_entry_eq]
  generalize (lg_sl ([.ref a_t]) ++ List.replicate (1 - (lg_sl ([.ref a_t])).length) Slot.unset).toArray = ls at hl ⊢
  have hl : lv_has ls 1 [(0, .ref a_t)] := hl
  have hf := f_X4_length.eq_1 v_t_length
  refine lv_aload_n hx hb dX4_length_0 rfl (lv_at hl 0 rfl) ?_
  refine va_get (D := D) (ci := 4) (v := .int v_t_length) (C := RX4) (T := TX4) (N := 2) hx hb hts hwX4 hown hK hP 0 rfl rfl 1 (by decide) (hts (.fieldLink RX4 15 "SkippedDay$Text" "length" "I") (by decide +kernel)) (fun _ h9 => h9) rfl dX4_length_1 ?_
  exact W.iret (v := v_t_length) hx hb hr (fun t ht hW => ⟨congrArg (fun z => Outcome.returned (some (Value.int z))) hf.symm, ht⟩) (fun _ h => absurd h List.not_mem_nil) dX4_length_4

def f_X4_isFull (v_t_length : Int32) : Int32 :=
  if v_t_length < 64 then 0 else 1
set_option maxHeartbeats 4000000 in
set_option maxRecDepth 100000 in
theorem c_X4_isFull (l : Launch) (D : va_G) (cI cZ cO : ClassId) (a_t : Nat) (a_t_bytes : Nat) (v_t_length : Int32) (hp0 : 0 ≤ v_t_length) (hp1 : v_t_length ≤ 64) : Met l yX4_isFull wsX4_isFull ({ frames := 0, cells := 0, slots := 0, locals := 0 }) (PcP D (tysG cI cZ cO) [.ref a_t] [(a_t, .inr (4, [.ref a_t_bytes, .int v_t_length]))]) (QP (.int (f_X4_isFull v_t_length))) 0 0 (fun _ => False) := by
  refine Met.ofW (cc := cX4_isFull) (maxL := 1) (ret := (some .boolean)) (by decide) rfl ?_
  intro p e s m args below meth c s₁ B hml hv
  obtain ⟨rfl, hP, hKX⟩ := hv
  have hx := B.exec
  have hb := B.bytes
  have hr := B.returns
  have hts := atoms_spec (ws := wsX4_isFull) B.pre
  have hown : s.vm.findClass RX4 = some m.cls := findClass_of_methodNamed B.named
  have hlocks := B.notSynchronized
  have hK := hKX.1
  have hwX4 : ∀ w ∈ wsX40, w ∈ wsX4_isFull := by decide +kernel
  have hl := lv_entry ([.ref a_t]) (n := 1) (Nat.le_of_ble_eq_true rfl)
  rw [lg_entry_eq]
  generalize (lg_sl ([.ref a_t]) ++ List.replicate (1 - (lg_sl ([.ref a_t])).length) Slot.unset).toArray = ls at hl ⊢
  have hl : lv_has ls 1 [(0, .ref a_t)] := hl
  have hf := f_X4_isFull.eq_1 v_t_length
  refine lv_aload_n hx hb dX4_isFull_0 rfl (lv_at hl 0 rfl) ?_
  refine va_get (D := D) (ci := 4) (v := .int v_t_length) (C := RX4) (T := TX4) (N := 2) hx hb hts hwX4 hown hK hP 0 rfl rfl 1 (by decide) (hts (.fieldLink RX4 15 "SkippedDay$Text" "length" "I") (by decide +kernel)) (fun _ h9 => h9) rfl dX4_isFull_1 ?_
  refine lv_bipush (v := 64) hx hb dX4_isFull_4 (by decide) ?_
  refine lv_icmp_lt (tgt := 13) hx hb dX4_isFull_6 (by decide) (fun c_6 => ?_) (fun c_6 => ?_)
  · replace hf := hf.trans (if_pos c_6)
    refine lv_iconst (v := 0) hx hb dX4_isFull_13 (by decide) ?_
    exact W.zret (ty := .boolean) (v := 0) hx hb hr rfl (fun t ht hW => ⟨congrArg (fun z => Outcome.returned (some (Value.int z))) hf.symm, ht⟩) (fun _ h => absurd h List.not_mem_nil) dX4_isFull_14
  · replace hf := hf.trans (if_neg c_6)
    refine lv_iconst (v := 1) hx hb dX4_isFull_9 (by decide) ?_
    refine lv_goto (tgt := 14) hx hb dX4_isFull_10 (by decide) ?_
    exact W.zret (ty := .boolean) (v := 1) hx hb hr rfl (fun t ht hW => ⟨congrArg (fun z => Outcome.returned (some (Value.int z))) hf.symm, ht⟩) (fun _ h => absurd h List.not_mem_nil) dX4_isFull_14

def f_X4_append (v_t_length : Int32) (f_t_bytes : Nat → Int32) (x1 : Int32) : Int32 × (Nat → Int32) :=
  if ¬ (f_X4_isFull v_t_length) = 0 then (v_t_length, f_t_bytes) else (v_t_length + 1, upd f_t_bytes v_t_length.toNatClampNeg x1)
/- hp0@1 -/ theorem s_X4_append_1 (v_t_length : Int32) (hp0 : 0 ≤ v_t_length) (hp1 : v_t_length ≤ 64) : 0 ≤ v_t_length := by grind
/- hp1@1 -/ theorem s_X4_append_2 (v_t_length : Int32) (hp0 : 0 ≤ v_t_length) (hp1 : v_t_length ≤ 64) : v_t_length ≤ 64 := by grind
/- post0@27 -/ theorem s_X4_append_3 (v_t_length : Int32) (hp0 : 0 ≤ v_t_length) (hp1 : v_t_length ≤ 64) (c_4 : ¬ (f_X4_isFull v_t_length) = 0) : 0 ≤ v_t_length := by grind [f_X4_isFull]
/- post1@27 -/ theorem s_X4_append_4 (v_t_length : Int32) (hp0 : 0 ≤ v_t_length) (hp1 : v_t_length ≤ 64) (c_4 : ¬ (f_X4_isFull v_t_length) = 0) : v_t_length ≤ 64 := by grind [f_X4_isFull]
/- in@16 -/ theorem s_X4_append_5 (v_t_length : Int32) (hp0 : 0 ≤ v_t_length) (hp1 : v_t_length ≤ 64) (c_4 : (f_X4_isFull v_t_length) = 0) : vp_in v_t_length 64 := vin (k := 64) (by grind [f_X4_isFull]) (by grind [f_X4_isFull]) (by decide)
/- post0@27 -/ theorem s_X4_append_6 (v_t_length : Int32) (hp0 : 0 ≤ v_t_length) (hp1 : v_t_length ≤ 64) (c_4 : (f_X4_isFull v_t_length) = 0) : 0 ≤ (v_t_length + 1) := by grind [f_X4_isFull]
/- post1@27 -/ theorem s_X4_append_7 (v_t_length : Int32) (hp0 : 0 ≤ v_t_length) (hp1 : v_t_length ≤ 64) (c_4 : (f_X4_isFull v_t_length) = 0) : (v_t_length + 1) ≤ 64 := by grind [f_X4_isFull]
set_option maxHeartbeats 4000000 in
set_option maxRecDepth 100000 in
theorem c_X4_append (l : Launch) (D : va_G) (cI cZ cO : ClassId) (a_t : Nat) (a_t_bytes : Nat) (v_t_length : Int32) (f_t_bytes : Nat → Int32) (x1 : Int32) (sz : Nat) (hp0 : 0 ≤ v_t_length) (hp1 : v_t_length ≤ 64) : Met l yX4_append wsX4_append ({ frames := 1, cells := 0, slots := 0, locals := 20 }) (PcM D (tysG cI cZ cO) [.ref a_t, .int x1] sz [(a_t, .inr (4, [.ref a_t_bytes, .int v_t_length])), (a_t_bytes, .inl (cI, 64, .inl f_t_bytes))]) (va_Qv (fun u : Int32 × (Nat → Int32) => u = f_X4_append v_t_length f_t_bytes x1 ∧ (0 ≤ u.1) ∧ (u.1 ≤ 64)) (BM D (va_A [(a_t, .inr (4, [.ref a_t_bytes, .int v_t_length])), (a_t_bytes, .inl (cI, 64, .inl f_t_bytes))] sz) (fun u : Int32 × (Nat → Int32) => [(a_t, .inr (4, [.ref a_t_bytes, .int u.1])), (a_t_bytes, .inl (cI, 64, .inl u.2))])) (va_A [(a_t, .inr (4, [.ref a_t_bytes, .int v_t_length])), (a_t_bytes, .inl (cI, 64, .inl f_t_bytes))] sz)) 0 0 (va_A [(a_t, .inr (4, [.ref a_t_bytes, .int v_t_length])), (a_t_bytes, .inl (cI, 64, .inl f_t_bytes))] sz) := by
  refine Met.ofW (cc := cX4_append) (maxL := 2) (ret := none) (by decide) rfl ?_
  intro p e s m args below meth c s₁ B hml hv
  obtain ⟨rfl, hsz, hP, hKX, hD0⟩ := hv
  have hx := B.exec
  have hb := B.bytes
  have hr := B.returns
  have hts := atoms_spec (ws := wsX4_append) B.pre
  have hown : s.vm.findClass RX4 = some m.cls := findClass_of_methodNamed B.named
  have hlocks := B.notSynchronized
  have hK := hKX.1
  have hwX4 : ∀ w ∈ wsX40, w ∈ wsX4_append := by decide +kernel
  subst hsz
  have hD := hD0.self (sz := s.heap.size)
  generalize hAe : va_A [(a_t, .inr (4, [.ref a_t_bytes, .int v_t_length])), (a_t_bytes, .inl (cI, 64, .inl f_t_bytes))] s.heap.size = A at hD ⊢
  have hA : ∀ q : Nat, s.heap.size ≤ q → A q := fun q h => by rw [← hAe]; exact Or.inr h
  have hS : va_S A s.heap s.heap [] := va_S.rf
  have hP : va_P D vwCl [(a_t, .inr (4, [.ref a_t_bytes, .int v_t_length])), (a_t_bytes, .inl (cI, 64, .inl f_t_bytes))] s.heap := hP
  have hl := lv_entry ([.ref a_t, .int x1]) (n := 2) (Nat.le_of_ble_eq_true rfl)
  rw [lg_entry_eq]
  generalize (lg_sl ([.ref a_t, .int x1]) ++ List.replicate (2 - (lg_sl ([.ref a_t, .int x1])).length) Slot.unset).toArray = ls at hl ⊢
  have hl : lv_has ls 2 [(0, .ref a_t), (1, .int x1)] := hl
  have hf := f_X4_append.eq_1 v_t_length f_t_bytes x1
  refine lv_aload_n hx hb dX4_append_0 rfl (lv_at hl 0 rfl) ?_
  refine pcV (As := []) (rest := []) ⟨hx, hb, hml, hown, hts⟩ (c_X4_isFull l D cI cZ cO a_t a_t_bytes v_t_length (s_X4_append_1 v_t_length hp0 hp1) (s_X4_append_2 v_t_length hp0 hp1)) (cwV 0 hts gX4_append_X4_isFull rfl rfl rfl (by decide +kernel) ⟨Nat.le_of_ble_eq_true rfl, Nat.le_of_ble_eq_true rfl⟩) hKX hP [0] rfl 0 4 rfl rfl rfl rfl hl.1 rfl (Nat.le_of_ble_eq_true rfl) dX4_append_1 ⟨Nat.le_of_ble_eq_true rfl, Nat.le_of_ble_eq_true rfl⟩ ?_
  refine lv_if_ne (tgt := 27) hx hb dX4_append_4 (by decide) (fun c_4 => ?_) (fun c_4 => ?_)
  · replace hf := hf.trans (if_pos c_4)
    exact W.vret hx hb hr (fun t ht hW => ⟨⟨(v_t_length, f_t_bytes), rfl, ⟨hf.symm, (s_X4_append_3 v_t_length hp0 hp1 c_4), (s_X4_append_4 v_t_length hp0 hp1 c_4)⟩, by rw [ht]; exact hP.sub [0, 1] rfl, hD.sub [0, 1] (by decide) rfl⟩, hS.F ht⟩) hS.2.2 dX4_append_27
  · replace hf := hf.trans (if_neg (fun h9 => h9 c_4))
    refine lv_aload_n hx hb dX4_append_7 rfl (lv_at hl 0 rfl) ?_
    refine va_get (D := D) (ci := 4) (v := .ref a_t_bytes) (C := RX4) (T := TX4) (N := 2) hx hb hts hwX4 hown hK hP 0 rfl rfl 0 (by decide) (hts (.fieldLink RX4 11 "SkippedDay$Text" "bytes" "[I") (by decide +kernel)) (fun _ h9 => h9) rfl dX4_append_8 ?_
    refine lv_aload_n hx hb dX4_append_11 rfl (lv_at hl 0 rfl) ?_
    refine va_get (D := D) (ci := 4) (v := .int v_t_length) (C := RX4) (T := TX4) (N := 2) hx hb hts hwX4 hown hK hP 0 rfl rfl 1 (by decide) (hts (.fieldLink RX4 15 "SkippedDay$Text" "length" "I") (by decide +kernel)) (fun _ h9 => h9) rfl dX4_append_12 ?_
    refine lv_iload_n hx hb dX4_append_15 rfl (lv_at hl 1 rfl) ?_
    refine va_iast hx hb hK hP hD hS 1 0 rfl rfl (s_X4_append_5 v_t_length hp0 hp1 c_4) dX4_append_16 (fun H locs hP hD hS => ?_)
    have hP : va_P D vwCl [(a_t, .inr (4, [.ref a_t_bytes, .int v_t_length])), (a_t_bytes, .inl (cI, 64, .inl (upd f_t_bytes v_t_length.toNatClampNeg x1)))] H := hP
    have hD : va_D A [(a_t, .inr (4, [.ref a_t_bytes, .int v_t_length])), (a_t_bytes, .inl (cI, 64, .inl (upd f_t_bytes v_t_length.toNatClampNeg x1)))] := hD
    refine lv_aload_n hx hb dX4_append_17 rfl (lv_at hl 0 rfl) ?_
    refine lv_dup hx hb dX4_append_18 rfl ?_
    refine va_get (D := D) (ci := 4) (v := .int v_t_length) (C := RX4) (T := TX4) (N := 2) hx hb hts hwX4 hown hK hP 0 rfl rfl 1 (by decide) (hts (.fieldLink RX4 15 "SkippedDay$Text" "length" "I") (by decide +kernel)) (fun _ h9 => h9) rfl dX4_append_19 ?_
    refine lv_iconst (v := 1) hx hb dX4_append_22 (by decide) ?_
    refine lv_iadd hx hb dX4_append_23 ?_
    refine va_put (D := D) (ci := 4) (v := .int (v_t_length + 1)) (ty := .int) (C := RX4) (T := TX4) (N := 2) hx hb hts hwX4 tyX4 tyX4_ok nmX4 hown hK hP hD hS 0 rfl rfl 1 (by decide) (hts (.fieldLink RX4 15 "SkippedDay$Text" "length" "I") (by decide +kernel)) (fun _ h9 => h9) rfl (by decide +kernel) rfl rfl (Nat.le_of_ble_eq_true rfl) dX4_append_24 (fun H locs hP hD hS => ?_)
    have hP : va_P D vwCl [(a_t, .inr (4, [.ref a_t_bytes, .int (v_t_length + 1)])), (a_t_bytes, .inl (cI, 64, .inl (upd f_t_bytes v_t_length.toNatClampNeg x1)))] H := hP
    have hD : va_D A [(a_t, .inr (4, [.ref a_t_bytes, .int (v_t_length + 1)])), (a_t_bytes, .inl (cI, 64, .inl (upd f_t_bytes v_t_length.toNatClampNeg x1)))] := hD
    exact W.vret hx hb hr (fun t ht hW => ⟨⟨(v_t_length + 1, upd f_t_bytes v_t_length.toNatClampNeg x1), rfl, ⟨hf.symm, (s_X4_append_6 v_t_length hp0 hp1 c_4), (s_X4_append_7 v_t_length hp0 hp1 c_4)⟩, by rw [ht]; exact hP.sub [0, 1] rfl, hD.sub [0, 1] (by decide) rfl⟩, hS.F ht⟩) hS.2.2 dX4_append_27

def f_X4_clear  : Int32 :=
  0
/- post0@5 -/ theorem s_X4_clear_1  : 0 ≤ (0 : Int32) := by grind
/- post1@5 -/ theorem s_X4_clear_2  : (0 : Int32) ≤ 64 := by grind
set_option maxHeartbeats 4000000 in
set_option maxRecDepth 100000 in
theorem c_X4_clear (l : Launch) (D : va_G) (cI cZ cO : ClassId) (a_t : Nat) (a_t_bytes : Nat) (v_t_length : Int32) (sz : Nat) (hp0 : 0 ≤ v_t_length) (hp1 : v_t_length ≤ 64) : Met l yX4_clear wsX4_clear ({ frames := 0, cells := 0, slots := 0, locals := 0 }) (PcM D (tysG cI cZ cO) [.ref a_t] sz [(a_t, .inr (4, [.ref a_t_bytes, .int v_t_length]))]) (va_Qv (fun u : Int32 => u = f_X4_clear ∧ (0 ≤ u) ∧ (u ≤ 64)) (BM D (va_A [(a_t, .inr (4, [.ref a_t_bytes, .int v_t_length]))] sz) (fun u : Int32 => [(a_t, .inr (4, [.ref a_t_bytes, .int u]))])) (va_A [(a_t, .inr (4, [.ref a_t_bytes, .int v_t_length]))] sz)) 0 0 (va_A [(a_t, .inr (4, [.ref a_t_bytes, .int v_t_length]))] sz) := by
  refine Met.ofW (cc := cX4_clear) (maxL := 1) (ret := none) (by decide) rfl ?_
  intro p e s m args below meth c s₁ B hml hv
  obtain ⟨rfl, hsz, hP, hKX, hD0⟩ := hv
  have hx := B.exec
  have hb := B.bytes
  have hr := B.returns
  have hts := atoms_spec (ws := wsX4_clear) B.pre
  have hown : s.vm.findClass RX4 = some m.cls := findClass_of_methodNamed B.named
  have hlocks := B.notSynchronized
  have hK := hKX.1
  have hwX4 : ∀ w ∈ wsX40, w ∈ wsX4_clear := by decide +kernel
  subst hsz
  have hD := hD0.self (sz := s.heap.size)
  generalize hAe : va_A [(a_t, .inr (4, [.ref a_t_bytes, .int v_t_length]))] s.heap.size = A at hD ⊢
  have hA : ∀ q : Nat, s.heap.size ≤ q → A q := fun q h => by rw [← hAe]; exact Or.inr h
  have hS : va_S A s.heap s.heap [] := va_S.rf
  have hP : va_P D vwCl [(a_t, .inr (4, [.ref a_t_bytes, .int v_t_length]))] s.heap := hP
  have hl := lv_entry ([.ref a_t]) (n := 1) (Nat.le_of_ble_eq_true rfl)
  rw [lg_entry_eq]
  generalize (lg_sl ([.ref a_t]) ++ List.replicate (1 - (lg_sl ([.ref a_t])).length) Slot.unset).toArray = ls at hl ⊢
  have hl : lv_has ls 1 [(0, .ref a_t)] := hl
  have hf := f_X4_clear.eq_1
  refine lv_aload_n hx hb dX4_clear_0 rfl (lv_at hl 0 rfl) ?_
  refine lv_iconst (v := 0) hx hb dX4_clear_1 (by decide) ?_
  refine va_put (D := D) (ci := 4) (v := .int 0) (ty := .int) (C := RX4) (T := TX4) (N := 2) hx hb hts hwX4 tyX4 tyX4_ok nmX4 hown hK hP hD hS 0 rfl rfl 1 (by decide) (hts (.fieldLink RX4 15 "SkippedDay$Text" "length" "I") (by decide +kernel)) (fun _ h9 => h9) rfl (by decide +kernel) rfl rfl (Nat.le_of_ble_eq_true rfl) dX4_clear_2 (fun H locs hP hD hS => ?_)
  have hP : va_P D vwCl [(a_t, .inr (4, [.ref a_t_bytes, .int 0]))] H := hP
  have hD : va_D A [(a_t, .inr (4, [.ref a_t_bytes, .int 0]))] := hD
  exact W.vret hx hb hr (fun t ht hW => ⟨⟨(0), rfl, ⟨hf.symm, s_X4_clear_1, s_X4_clear_2⟩, by rw [ht]; exact hP.sub [0] rfl, hD.sub [0] (by decide) rfl⟩, hS.F ht⟩) hS.2.2 dX4_clear_5

def f_X4_at (v_t_length : Int32) (f_t_bytes : Nat → Int32) (x1 : Int32) : Int32 :=
  if x1 < 0 then (-9) else if v_t_length ≤ x1 then (-9) else f_t_bytes x1.toNatClampNeg
/- in@17 -/ theorem s_X4_at_1 (v_t_length : Int32) (x1 : Int32) (hp0 : 0 ≤ v_t_length) (hp1 : v_t_length ≤ 64) (c_1 : ¬ x1 < 0) (c_9 : ¬ v_t_length ≤ x1) : vp_in x1 64 := vin (k := 64) (by grind) (by grind) (by decide)
set_option maxHeartbeats 4000000 in
set_option maxRecDepth 100000 in
theorem c_X4_at (l : Launch) (D : va_G) (cI cZ cO : ClassId) (a_t : Nat) (a_t_bytes : Nat) (v_t_length : Int32) (f_t_bytes : Nat → Int32) (x1 : Int32) (hp0 : 0 ≤ v_t_length) (hp1 : v_t_length ≤ 64) : Met l yX4_at wsX4_at ({ frames := 0, cells := 0, slots := 0, locals := 0 }) (PcP D (tysG cI cZ cO) [.ref a_t, .int x1] [(a_t, .inr (4, [.ref a_t_bytes, .int v_t_length])), (a_t_bytes, .inl (cI, 64, .inl f_t_bytes))]) (QP (.int (f_X4_at v_t_length f_t_bytes x1))) 0 0 (fun _ => False) := by
  refine Met.ofW (cc := cX4_at) (maxL := 2) (ret := (some .int)) (by decide) rfl ?_
  intro p e s m args below meth c s₁ B hml hv
  obtain ⟨rfl, hP, hKX⟩ := hv
  have hx := B.exec
  have hb := B.bytes
  have hr := B.returns
  have hts := atoms_spec (ws := wsX4_at) B.pre
  have hown : s.vm.findClass RX4 = some m.cls := findClass_of_methodNamed B.named
  have hlocks := B.notSynchronized
  have hK := hKX.1
  have hwX4 : ∀ w ∈ wsX40, w ∈ wsX4_at := by decide +kernel
  have hl := lv_entry ([.ref a_t, .int x1]) (n := 2) (Nat.le_of_ble_eq_true rfl)
  rw [lg_entry_eq]
  generalize (lg_sl ([.ref a_t, .int x1]) ++ List.replicate (2 - (lg_sl ([.ref a_t, .int x1])).length) Slot.unset).toArray = ls at hl ⊢
  have hl : lv_has ls 2 [(0, .ref a_t), (1, .int x1)] := hl
  have hf := f_X4_at.eq_1 v_t_length f_t_bytes x1
  refine lv_iload_n hx hb dX4_at_0 rfl (lv_at hl 1 rfl) ?_
  refine lv_if_lt (tgt := 21) hx hb dX4_at_1 (by decide) (fun c_1 => ?_) (fun c_1 => ?_)
  · replace hf := hf.trans (if_pos c_1)
    refine lv_bipush (v := (-9)) hx hb dX4_at_21 (by decide) ?_
    exact W.iret (v := (-9)) hx hb hr (fun t ht hW => ⟨congrArg (fun z => Outcome.returned (some (Value.int z))) hf.symm, ht⟩) (fun _ h => absurd h List.not_mem_nil) dX4_at_23
  · replace hf := hf.trans (if_neg c_1)
    refine lv_iload_n hx hb dX4_at_4 rfl (lv_at hl 1 rfl) ?_
    refine lv_aload_n hx hb dX4_at_5 rfl (lv_at hl 0 rfl) ?_
    refine va_get (D := D) (ci := 4) (v := .int v_t_length) (C := RX4) (T := TX4) (N := 2) hx hb hts hwX4 hown hK hP 0 rfl rfl 1 (by decide) (hts (.fieldLink RX4 15 "SkippedDay$Text" "length" "I") (by decide +kernel)) (fun _ h9 => h9) rfl dX4_at_6 ?_
    refine lv_icmp_ge (tgt := 21) hx hb dX4_at_9 (by decide) (fun c_9 => ?_) (fun c_9 => ?_)
    · replace hf := hf.trans (if_pos c_9)
      refine lv_bipush (v := (-9)) hx hb dX4_at_21 (by decide) ?_
      exact W.iret (v := (-9)) hx hb hr (fun t ht hW => ⟨congrArg (fun z => Outcome.returned (some (Value.int z))) hf.symm, ht⟩) (fun _ h => absurd h List.not_mem_nil) dX4_at_23
    · replace hf := hf.trans (if_neg c_9)
      refine lv_aload_n hx hb dX4_at_12 rfl (lv_at hl 0 rfl) ?_
      refine va_get (D := D) (ci := 4) (v := .ref a_t_bytes) (C := RX4) (T := TX4) (N := 2) hx hb hts hwX4 hown hK hP 0 rfl rfl 0 (by decide) (hts (.fieldLink RX4 11 "SkippedDay$Text" "bytes" "[I") (by decide +kernel)) (fun _ h9 => h9) rfl dX4_at_13 ?_
      refine lv_iload_n hx hb dX4_at_16 rfl (lv_at hl 1 rfl) ?_
      refine va_iald hx hb hK hP 1 0 rfl rfl (s_X4_at_1 v_t_length x1 hp0 hp1 c_1 c_9) dX4_at_17 ?_
      refine lv_goto (tgt := 23) hx hb dX4_at_18 (by decide) ?_
      exact W.iret (v := f_t_bytes x1.toNatClampNeg) hx hb hr (fun t ht hW => ⟨congrArg (fun z => Outcome.returned (some (Value.int z))) hf.symm, ht⟩) (fun _ h => absurd h List.not_mem_nil) dX4_at_23

def f_X5_sizeOf (f_t_sizes : Nat → Int32) (x1 : Int32) : Int32 :=
  if x1 < 0 then 0 else if 4 ≤ x1 then 0 else f_t_sizes x1.toNatClampNeg
/- in@14 -/ theorem s_X5_sizeOf_1 (x1 : Int32) (c_1 : ¬ x1 < 0) (c_6 : ¬ 4 ≤ x1) : vp_in x1 4 := vin (k := 4) (by grind) (by grind) (by decide)
set_option maxHeartbeats 4000000 in
set_option maxRecDepth 100000 in
theorem c_X5_sizeOf (l : Launch) (D : va_G) (cI cZ cO : ClassId) (a_t : Nat) (a_t_sizes : Nat) (a_t_cells : Nat) (f_t_sizes : Nat → Int32) (x1 : Int32) : Met l yX5_sizeOf wsX5_sizeOf ({ frames := 0, cells := 0, slots := 0, locals := 0 }) (PcP D (tysG cI cZ cO) [.ref a_t, .int x1] [(a_t, .inr (5, [.ref a_t_sizes, .ref a_t_cells])), (a_t_sizes, .inl (cI, 4, .inl f_t_sizes))]) (QP (.int (f_X5_sizeOf f_t_sizes x1))) 0 0 (fun _ => False) := by
  refine Met.ofW (cc := cX5_sizeOf) (maxL := 2) (ret := (some .int)) (by decide) rfl ?_
  intro p e s m args below meth c s₁ B hml hv
  obtain ⟨rfl, hP, hKX⟩ := hv
  have hx := B.exec
  have hb := B.bytes
  have hr := B.returns
  have hts := atoms_spec (ws := wsX5_sizeOf) B.pre
  have hown : s.vm.findClass RX5 = some m.cls := findClass_of_methodNamed B.named
  have hlocks := B.notSynchronized
  have hK := hKX.1
  have hwX5 : ∀ w ∈ wsX50, w ∈ wsX5_sizeOf := by decide +kernel
  have hl := lv_entry ([.ref a_t, .int x1]) (n := 2) (Nat.le_of_ble_eq_true rfl)
  rw [lg_entry_eq]
  generalize (lg_sl ([.ref a_t, .int x1]) ++ List.replicate (2 - (lg_sl ([.ref a_t, .int x1])).length) Slot.unset).toArray = ls at hl ⊢
  have hl : lv_has ls 2 [(0, .ref a_t), (1, .int x1)] := hl
  have hf := f_X5_sizeOf.eq_1 f_t_sizes x1
  refine lv_iload_n hx hb dX5_sizeOf_0 rfl (lv_at hl 1 rfl) ?_
  refine lv_if_lt (tgt := 18) hx hb dX5_sizeOf_1 (by decide) (fun c_1 => ?_) (fun c_1 => ?_)
  · replace hf := hf.trans (if_pos c_1)
    refine lv_iconst (v := 0) hx hb dX5_sizeOf_18 (by decide) ?_
    exact W.iret (v := 0) hx hb hr (fun t ht hW => ⟨congrArg (fun z => Outcome.returned (some (Value.int z))) hf.symm, ht⟩) (fun _ h => absurd h List.not_mem_nil) dX5_sizeOf_19
  · replace hf := hf.trans (if_neg c_1)
    refine lv_iload_n hx hb dX5_sizeOf_4 rfl (lv_at hl 1 rfl) ?_
    refine lv_iconst (v := 4) hx hb dX5_sizeOf_5 (by decide) ?_
    refine lv_icmp_ge (tgt := 18) hx hb dX5_sizeOf_6 (by decide) (fun c_6 => ?_) (fun c_6 => ?_)
    · replace hf := hf.trans (if_pos c_6)
      refine lv_iconst (v := 0) hx hb dX5_sizeOf_18 (by decide) ?_
      exact W.iret (v := 0) hx hb hr (fun t ht hW => ⟨congrArg (fun z => Outcome.returned (some (Value.int z))) hf.symm, ht⟩) (fun _ h => absurd h List.not_mem_nil) dX5_sizeOf_19
    · replace hf := hf.trans (if_neg c_6)
      refine lv_aload_n hx hb dX5_sizeOf_9 rfl (lv_at hl 0 rfl) ?_
      refine va_get (D := D) (ci := 5) (v := .ref a_t_sizes) (C := RX5) (T := TX5) (N := 2) hx hb hts hwX5 hown hK hP 0 rfl rfl 0 (by decide) (hts (.fieldLink RX5 11 "SkippedDay$Told" "sizes" "[I") (by decide +kernel)) (fun _ h9 => h9) rfl dX5_sizeOf_10 ?_
      refine lv_iload_n hx hb dX5_sizeOf_13 rfl (lv_at hl 1 rfl) ?_
      refine va_iald hx hb hK hP 1 0 rfl rfl (s_X5_sizeOf_1 x1 c_1 c_6) dX5_sizeOf_14 ?_
      refine lv_goto (tgt := 19) hx hb dX5_sizeOf_15 (by decide) ?_
      exact W.iret (v := f_t_sizes x1.toNatClampNeg) hx hb hr (fun t ht hW => ⟨congrArg (fun z => Outcome.returned (some (Value.int z))) hf.symm, ht⟩) (fun _ h => absurd h List.not_mem_nil) dX5_sizeOf_19

def f_X5_cellOf (x0 : Int32) (x1 : Int32) (x2 : Int32) : Int32 :=
  (((x0 * 6) + x1) * 5) + x2
set_option maxHeartbeats 4000000 in
set_option maxRecDepth 100000 in
theorem c_X5_cellOf (l : Launch) (D : va_G) (cI cZ cO : ClassId) (x0 : Int32) (x1 : Int32) (x2 : Int32) : Met l yX5_cellOf wsX5_cellOf ({ frames := 0, cells := 0, slots := 0, locals := 0 }) (PcP D (tysG cI cZ cO) [.int x0, .int x1, .int x2] []) (QP (.int (f_X5_cellOf x0 x1 x2))) 0 0 (fun _ => False) := by
  refine Met.ofW (cc := cX5_cellOf) (maxL := 3) (ret := (some .int)) (by decide) rfl ?_
  intro p e s m args below meth c s₁ B hml hv
  obtain ⟨rfl, hP, hKX⟩ := hv
  have hx := B.exec
  have hb := B.bytes
  have hr := B.returns
  have hts := atoms_spec (ws := wsX5_cellOf) B.pre
  have hown : s.vm.findClass RX5 = some m.cls := findClass_of_methodNamed B.named
  have hlocks := B.notSynchronized
  have hK := hKX.1
  have hl := lv_entry ([.int x0, .int x1, .int x2]) (n := 3) (Nat.le_of_ble_eq_true rfl)
  rw [lg_entry_eq]
  generalize (lg_sl ([.int x0, .int x1, .int x2]) ++ List.replicate (3 - (lg_sl ([.int x0, .int x1, .int x2])).length) Slot.unset).toArray = ls at hl ⊢
  have hl : lv_has ls 3 [(0, .int x0), (1, .int x1), (2, .int x2)] := hl
  have hf := f_X5_cellOf.eq_1 x0 x1 x2
  refine lv_iload_n hx hb dX5_cellOf_0 rfl (lv_at hl 0 rfl) ?_
  refine lv_bipush (v := 6) hx hb dX5_cellOf_1 (by decide) ?_
  refine lv_imul hx hb dX5_cellOf_3 ?_
  refine lv_iload_n hx hb dX5_cellOf_4 rfl (lv_at hl 1 rfl) ?_
  refine lv_iadd hx hb dX5_cellOf_5 ?_
  refine lv_iconst (v := 5) hx hb dX5_cellOf_6 (by decide) ?_
  refine lv_imul hx hb dX5_cellOf_7 ?_
  refine lv_iload_n hx hb dX5_cellOf_8 rfl (lv_at hl 2 rfl) ?_
  refine lv_iadd hx hb dX5_cellOf_9 ?_
  exact W.iret (v := (((x0 * 6) + x1) * 5) + x2) hx hb hr (fun t ht hW => ⟨congrArg (fun z => Outcome.returned (some (Value.int z))) hf.symm, ht⟩) (fun _ h => absurd h List.not_mem_nil) dX5_cellOf_10

def f_X5_valueAt (f_t_cells : Nat → Int32) (x1 : Int32) (x2 : Int32) (x3 : Int32) : Int32 :=
  if (f_X5_cellOf x1 x2 x3) < 0 then 0 else if 120 ≤ (f_X5_cellOf x1 x2 x3) then 0 else f_t_cells (f_X5_cellOf x1 x2 x3).toNatClampNeg
/- in@26 -/ theorem s_X5_valueAt_1 (x1 : Int32) (x2 : Int32) (x3 : Int32) (c_10 : ¬ (f_X5_cellOf x1 x2 x3) < 0) (c_17 : ¬ 120 ≤ (f_X5_cellOf x1 x2 x3)) : vp_in (f_X5_cellOf x1 x2 x3) 120 := vin (k := 120) (by grind [f_X5_cellOf]) (by grind [f_X5_cellOf]) (by decide)
set_option maxHeartbeats 4000000 in
set_option maxRecDepth 100000 in
theorem c_X5_valueAt (l : Launch) (D : va_G) (cI cZ cO : ClassId) (a_t : Nat) (a_t_sizes : Nat) (a_t_cells : Nat) (f_t_cells : Nat → Int32) (x1 : Int32) (x2 : Int32) (x3 : Int32) : Met l yX5_valueAt wsX5_valueAt ({ frames := 1, cells := 0, slots := 0, locals := 22 }) (PcP D (tysG cI cZ cO) [.ref a_t, .int x1, .int x2, .int x3] [(a_t, .inr (5, [.ref a_t_sizes, .ref a_t_cells])), (a_t_cells, .inl (cI, 120, .inl f_t_cells))]) (QP (.int (f_X5_valueAt f_t_cells x1 x2 x3))) 0 0 (fun _ => False) := by
  refine Met.ofW (cc := cX5_valueAt) (maxL := 5) (ret := (some .int)) (by decide) rfl ?_
  intro p e s m args below meth c s₁ B hml hv
  obtain ⟨rfl, hP, hKX⟩ := hv
  have hx := B.exec
  have hb := B.bytes
  have hr := B.returns
  have hts := atoms_spec (ws := wsX5_valueAt) B.pre
  have hown : s.vm.findClass RX5 = some m.cls := findClass_of_methodNamed B.named
  have hlocks := B.notSynchronized
  have hK := hKX.1
  have hwX5 : ∀ w ∈ wsX50, w ∈ wsX5_valueAt := by decide +kernel
  have hl := lv_entry ([.ref a_t, .int x1, .int x2, .int x3]) (n := 5) (Nat.le_of_ble_eq_true rfl)
  rw [lg_entry_eq]
  generalize (lg_sl ([.ref a_t, .int x1, .int x2, .int x3]) ++ List.replicate (5 - (lg_sl ([.ref a_t, .int x1, .int x2, .int x3])).length) Slot.unset).toArray = ls at hl ⊢
  have hl : lv_has ls 5 [(0, .ref a_t), (1, .int x1), (2, .int x2), (3, .int x3)] := hl
  have hf := f_X5_valueAt.eq_1 f_t_cells x1 x2 x3
  refine lv_iload_n hx hb dX5_valueAt_0 rfl (lv_at hl 1 rfl) ?_
  refine lv_iload_n hx hb dX5_valueAt_1 rfl (lv_at hl 2 rfl) ?_
  refine lv_iload_n hx hb dX5_valueAt_2 rfl (lv_at hl 3 rfl) ?_
  refine pcS (As := [.int x1, .int x2, .int x3]) (rest := []) ⟨hx, hb, hml, hown, hts⟩ (c_X5_cellOf l D cI cZ cO x1 x2 x3) (va_cwS 3 hts gX5_valueAt_X5_cellOf rfl rfl rfl (by decide +kernel) ⟨Nat.le_of_ble_eq_true rfl, Nat.le_of_ble_eq_true rfl⟩) hKX hP [] rfl rfl hl.1 rfl (Nat.le_of_ble_eq_true rfl) dX5_valueAt_3 ⟨Nat.le_of_ble_eq_true rfl, Nat.le_of_ble_eq_true rfl⟩ ?_
  refine lv_istore (lv' := [(4, .int (f_X5_cellOf x1 x2 x3)), (0, .ref a_t), (1, .int x1), (2, .int x2), (3, .int x3)]) hx hb dX5_valueAt_6 hl (by decide) rfl (fun ls hl => ?_)
  refine lv_iload hx hb dX5_valueAt_8 (lv_at hl 0 rfl) ?_
  refine lv_if_lt (tgt := 30) hx hb dX5_valueAt_10 (by decide) (fun c_10 => ?_) (fun c_10 => ?_)
  · replace hf := hf.trans (if_pos c_10)
    refine lv_iconst (v := 0) hx hb dX5_valueAt_30 (by decide) ?_
    exact W.iret (v := 0) hx hb hr (fun t ht hW => ⟨congrArg (fun z => Outcome.returned (some (Value.int z))) hf.symm, ht⟩) (fun _ h => absurd h List.not_mem_nil) dX5_valueAt_31
  · replace hf := hf.trans (if_neg c_10)
    refine lv_iload hx hb dX5_valueAt_13 (lv_at hl 0 rfl) ?_
    refine lv_bipush (v := 120) hx hb dX5_valueAt_15 (by decide) ?_
    refine lv_icmp_ge (tgt := 30) hx hb dX5_valueAt_17 (by decide) (fun c_17 => ?_) (fun c_17 => ?_)
    · replace hf := hf.trans (if_pos c_17)
      refine lv_iconst (v := 0) hx hb dX5_valueAt_30 (by decide) ?_
      exact W.iret (v := 0) hx hb hr (fun t ht hW => ⟨congrArg (fun z => Outcome.returned (some (Value.int z))) hf.symm, ht⟩) (fun _ h => absurd h List.not_mem_nil) dX5_valueAt_31
    · replace hf := hf.trans (if_neg c_17)
      refine lv_aload_n hx hb dX5_valueAt_20 rfl (lv_at hl 1 rfl) ?_
      refine va_get (D := D) (ci := 5) (v := .ref a_t_cells) (C := RX5) (T := TX5) (N := 2) hx hb hts hwX5 hown hK hP 0 rfl rfl 1 (by decide) (hts (.fieldLink RX5 15 "SkippedDay$Told" "cells" "[I") (by decide +kernel)) (fun _ h9 => h9) rfl dX5_valueAt_21 ?_
      refine lv_iload hx hb dX5_valueAt_24 (lv_at hl 0 rfl) ?_
      refine va_iald hx hb hK hP 1 0 rfl rfl (s_X5_valueAt_1 x1 x2 x3 c_10 c_17) dX5_valueAt_26 ?_
      refine lv_goto (tgt := 31) hx hb dX5_valueAt_27 (by decide) ?_
      exact W.iret (v := f_t_cells (f_X5_cellOf x1 x2 x3).toNatClampNeg) hx hb hr (fun t ht hW => ⟨congrArg (fun z => Outcome.returned (some (Value.int z))) hf.symm, ht⟩) (fun _ h => absurd h List.not_mem_nil) dX5_valueAt_31

def f_X5_startOf (f_t_cells : Nat → Int32) (x1 : Int32) : Int32 :=
  f_X5_valueAt f_t_cells 0 x1 0
set_option maxHeartbeats 4000000 in
set_option maxRecDepth 100000 in
theorem c_X5_startOf (l : Launch) (D : va_G) (cI cZ cO : ClassId) (a_t : Nat) (a_t_sizes : Nat) (a_t_cells : Nat) (f_t_cells : Nat → Int32) (x1 : Int32) : Met l yX5_startOf wsX5_startOf ({ frames := 2, cells := 0, slots := 0, locals := 46 }) (PcP D (tysG cI cZ cO) [.ref a_t, .int x1] [(a_t, .inr (5, [.ref a_t_sizes, .ref a_t_cells])), (a_t_cells, .inl (cI, 120, .inl f_t_cells))]) (QP (.int (f_X5_startOf f_t_cells x1))) 0 0 (fun _ => False) := by
  refine Met.ofW (cc := cX5_startOf) (maxL := 2) (ret := (some .int)) (by decide) rfl ?_
  intro p e s m args below meth c s₁ B hml hv
  obtain ⟨rfl, hP, hKX⟩ := hv
  have hx := B.exec
  have hb := B.bytes
  have hr := B.returns
  have hts := atoms_spec (ws := wsX5_startOf) B.pre
  have hown : s.vm.findClass RX5 = some m.cls := findClass_of_methodNamed B.named
  have hlocks := B.notSynchronized
  have hK := hKX.1
  have hl := lv_entry ([.ref a_t, .int x1]) (n := 2) (Nat.le_of_ble_eq_true rfl)
  rw [lg_entry_eq]
  generalize (lg_sl ([.ref a_t, .int x1]) ++ List.replicate (2 - (lg_sl ([.ref a_t, .int x1])).length) Slot.unset).toArray = ls at hl ⊢
  have hl : lv_has ls 2 [(0, .ref a_t), (1, .int x1)] := hl
  have hf := f_X5_startOf.eq_1 f_t_cells x1
  refine lv_aload_n hx hb dX5_startOf_0 rfl (lv_at hl 0 rfl) ?_
  refine lv_iconst (v := 0) hx hb dX5_startOf_1 (by decide) ?_
  refine lv_iload_n hx hb dX5_startOf_2 rfl (lv_at hl 1 rfl) ?_
  refine lv_iconst (v := 0) hx hb dX5_startOf_3 (by decide) ?_
  refine pcV (As := [.int 0, .int x1, .int 0]) (rest := []) ⟨hx, hb, hml, hown, hts⟩ (c_X5_valueAt l D cI cZ cO a_t a_t_sizes a_t_cells f_t_cells 0 x1 0) (cwV 3 hts gX5_startOf_X5_valueAt rfl rfl rfl (by decide +kernel) ⟨Nat.le_of_ble_eq_true rfl, Nat.le_of_ble_eq_true rfl⟩) hKX hP [0, 1] rfl 0 5 rfl rfl rfl rfl hl.1 rfl (Nat.le_of_ble_eq_true rfl) dX5_startOf_4 ⟨Nat.le_of_ble_eq_true rfl, Nat.le_of_ble_eq_true rfl⟩ ?_
  exact W.iret (v := f_X5_valueAt f_t_cells 0 x1 0) hx hb hr (fun t ht hW => ⟨congrArg (fun z => Outcome.returned (some (Value.int z))) hf.symm, ht⟩) (fun _ h => absurd h List.not_mem_nil) dX5_startOf_7

def f_X5_lengthOf (f_t_cells : Nat → Int32) (x1 : Int32) : Int32 :=
  f_X5_valueAt f_t_cells 0 x1 2
set_option maxHeartbeats 4000000 in
set_option maxRecDepth 100000 in
theorem c_X5_lengthOf (l : Launch) (D : va_G) (cI cZ cO : ClassId) (a_t : Nat) (a_t_sizes : Nat) (a_t_cells : Nat) (f_t_cells : Nat → Int32) (x1 : Int32) : Met l yX5_lengthOf wsX5_lengthOf ({ frames := 2, cells := 0, slots := 0, locals := 46 }) (PcP D (tysG cI cZ cO) [.ref a_t, .int x1] [(a_t, .inr (5, [.ref a_t_sizes, .ref a_t_cells])), (a_t_cells, .inl (cI, 120, .inl f_t_cells))]) (QP (.int (f_X5_lengthOf f_t_cells x1))) 0 0 (fun _ => False) := by
  refine Met.ofW (cc := cX5_lengthOf) (maxL := 2) (ret := (some .int)) (by decide) rfl ?_
  intro p e s m args below meth c s₁ B hml hv
  obtain ⟨rfl, hP, hKX⟩ := hv
  have hx := B.exec
  have hb := B.bytes
  have hr := B.returns
  have hts := atoms_spec (ws := wsX5_lengthOf) B.pre
  have hown : s.vm.findClass RX5 = some m.cls := findClass_of_methodNamed B.named
  have hlocks := B.notSynchronized
  have hK := hKX.1
  have hl := lv_entry ([.ref a_t, .int x1]) (n := 2) (Nat.le_of_ble_eq_true rfl)
  rw [lg_entry_eq]
  generalize (lg_sl ([.ref a_t, .int x1]) ++ List.replicate (2 - (lg_sl ([.ref a_t, .int x1])).length) Slot.unset).toArray = ls at hl ⊢
  have hl : lv_has ls 2 [(0, .ref a_t), (1, .int x1)] := hl
  have hf := f_X5_lengthOf.eq_1 f_t_cells x1
  refine lv_aload_n hx hb dX5_lengthOf_0 rfl (lv_at hl 0 rfl) ?_
  refine lv_iconst (v := 0) hx hb dX5_lengthOf_1 (by decide) ?_
  refine lv_iload_n hx hb dX5_lengthOf_2 rfl (lv_at hl 1 rfl) ?_
  refine lv_iconst (v := 2) hx hb dX5_lengthOf_3 (by decide) ?_
  refine pcV (As := [.int 0, .int x1, .int 2]) (rest := []) ⟨hx, hb, hml, hown, hts⟩ (c_X5_valueAt l D cI cZ cO a_t a_t_sizes a_t_cells f_t_cells 0 x1 2) (cwV 3 hts gX5_lengthOf_X5_valueAt rfl rfl rfl (by decide +kernel) ⟨Nat.le_of_ble_eq_true rfl, Nat.le_of_ble_eq_true rfl⟩) hKX hP [0, 1] rfl 0 5 rfl rfl rfl rfl hl.1 rfl (Nat.le_of_ble_eq_true rfl) dX5_lengthOf_4 ⟨Nat.le_of_ble_eq_true rfl, Nat.le_of_ble_eq_true rfl⟩ ?_
  exact W.iret (v := f_X5_valueAt f_t_cells 0 x1 2) hx hb hr (fun t ht hW => ⟨congrArg (fun z => Outcome.returned (some (Value.int z))) hf.symm, ht⟩) (fun _ h => absurd h List.not_mem_nil) dX5_lengthOf_7

def f_X5_latestOf (f_t_cells : Nat → Int32) (x1 : Int32) : Int32 :=
  f_X5_valueAt f_t_cells 0 x1 3
set_option maxHeartbeats 4000000 in
set_option maxRecDepth 100000 in
theorem c_X5_latestOf (l : Launch) (D : va_G) (cI cZ cO : ClassId) (a_t : Nat) (a_t_sizes : Nat) (a_t_cells : Nat) (f_t_cells : Nat → Int32) (x1 : Int32) : Met l yX5_latestOf wsX5_latestOf ({ frames := 2, cells := 0, slots := 0, locals := 46 }) (PcP D (tysG cI cZ cO) [.ref a_t, .int x1] [(a_t, .inr (5, [.ref a_t_sizes, .ref a_t_cells])), (a_t_cells, .inl (cI, 120, .inl f_t_cells))]) (QP (.int (f_X5_latestOf f_t_cells x1))) 0 0 (fun _ => False) := by
  refine Met.ofW (cc := cX5_latestOf) (maxL := 2) (ret := (some .int)) (by decide) rfl ?_
  intro p e s m args below meth c s₁ B hml hv
  obtain ⟨rfl, hP, hKX⟩ := hv
  have hx := B.exec
  have hb := B.bytes
  have hr := B.returns
  have hts := atoms_spec (ws := wsX5_latestOf) B.pre
  have hown : s.vm.findClass RX5 = some m.cls := findClass_of_methodNamed B.named
  have hlocks := B.notSynchronized
  have hK := hKX.1
  have hl := lv_entry ([.ref a_t, .int x1]) (n := 2) (Nat.le_of_ble_eq_true rfl)
  rw [lg_entry_eq]
  generalize (lg_sl ([.ref a_t, .int x1]) ++ List.replicate (2 - (lg_sl ([.ref a_t, .int x1])).length) Slot.unset).toArray = ls at hl ⊢
  have hl : lv_has ls 2 [(0, .ref a_t), (1, .int x1)] := hl
  have hf := f_X5_latestOf.eq_1 f_t_cells x1
  refine lv_aload_n hx hb dX5_latestOf_0 rfl (lv_at hl 0 rfl) ?_
  refine lv_iconst (v := 0) hx hb dX5_latestOf_1 (by decide) ?_
  refine lv_iload_n hx hb dX5_latestOf_2 rfl (lv_at hl 1 rfl) ?_
  refine lv_iconst (v := 3) hx hb dX5_latestOf_3 (by decide) ?_
  refine pcV (As := [.int 0, .int x1, .int 3]) (rest := []) ⟨hx, hb, hml, hown, hts⟩ (c_X5_valueAt l D cI cZ cO a_t a_t_sizes a_t_cells f_t_cells 0 x1 3) (cwV 3 hts gX5_latestOf_X5_valueAt rfl rfl rfl (by decide +kernel) ⟨Nat.le_of_ble_eq_true rfl, Nat.le_of_ble_eq_true rfl⟩) hKX hP [0, 1] rfl 0 5 rfl rfl rfl rfl hl.1 rfl (Nat.le_of_ble_eq_true rfl) dX5_latestOf_4 ⟨Nat.le_of_ble_eq_true rfl, Nat.le_of_ble_eq_true rfl⟩ ?_
  exact W.iret (v := f_X5_valueAt f_t_cells 0 x1 3) hx hb hr (fun t ht hW => ⟨congrArg (fun z => Outcome.returned (some (Value.int z))) hf.symm, ht⟩) (fun _ h => absurd h List.not_mem_nil) dX5_latestOf_7

def f_X5_leastOf (f_t_cells : Nat → Int32) (x1 : Int32) : Int32 :=
  f_X5_valueAt f_t_cells 0 x1 4
set_option maxHeartbeats 4000000 in
set_option maxRecDepth 100000 in
theorem c_X5_leastOf (l : Launch) (D : va_G) (cI cZ cO : ClassId) (a_t : Nat) (a_t_sizes : Nat) (a_t_cells : Nat) (f_t_cells : Nat → Int32) (x1 : Int32) : Met l yX5_leastOf wsX5_leastOf ({ frames := 2, cells := 0, slots := 0, locals := 46 }) (PcP D (tysG cI cZ cO) [.ref a_t, .int x1] [(a_t, .inr (5, [.ref a_t_sizes, .ref a_t_cells])), (a_t_cells, .inl (cI, 120, .inl f_t_cells))]) (QP (.int (f_X5_leastOf f_t_cells x1))) 0 0 (fun _ => False) := by
  refine Met.ofW (cc := cX5_leastOf) (maxL := 2) (ret := (some .int)) (by decide) rfl ?_
  intro p e s m args below meth c s₁ B hml hv
  obtain ⟨rfl, hP, hKX⟩ := hv
  have hx := B.exec
  have hb := B.bytes
  have hr := B.returns
  have hts := atoms_spec (ws := wsX5_leastOf) B.pre
  have hown : s.vm.findClass RX5 = some m.cls := findClass_of_methodNamed B.named
  have hlocks := B.notSynchronized
  have hK := hKX.1
  have hl := lv_entry ([.ref a_t, .int x1]) (n := 2) (Nat.le_of_ble_eq_true rfl)
  rw [lg_entry_eq]
  generalize (lg_sl ([.ref a_t, .int x1]) ++ List.replicate (2 - (lg_sl ([.ref a_t, .int x1])).length) Slot.unset).toArray = ls at hl ⊢
  have hl : lv_has ls 2 [(0, .ref a_t), (1, .int x1)] := hl
  have hf := f_X5_leastOf.eq_1 f_t_cells x1
  refine lv_aload_n hx hb dX5_leastOf_0 rfl (lv_at hl 0 rfl) ?_
  refine lv_iconst (v := 0) hx hb dX5_leastOf_1 (by decide) ?_
  refine lv_iload_n hx hb dX5_leastOf_2 rfl (lv_at hl 1 rfl) ?_
  refine lv_iconst (v := 4) hx hb dX5_leastOf_3 (by decide) ?_
  refine pcV (As := [.int 0, .int x1, .int 4]) (rest := []) ⟨hx, hb, hml, hown, hts⟩ (c_X5_valueAt l D cI cZ cO a_t a_t_sizes a_t_cells f_t_cells 0 x1 4) (cwV 3 hts gX5_leastOf_X5_valueAt rfl rfl rfl (by decide +kernel) ⟨Nat.le_of_ble_eq_true rfl, Nat.le_of_ble_eq_true rfl⟩) hKX hP [0, 1] rfl 0 5 rfl rfl rfl rfl hl.1 rfl (Nat.le_of_ble_eq_true rfl) dX5_leastOf_4 ⟨Nat.le_of_ble_eq_true rfl, Nat.le_of_ble_eq_true rfl⟩ ?_
  exact W.iret (v := f_X5_valueAt f_t_cells 0 x1 4) hx hb hr (fun t ht hW => ⟨congrArg (fun z => Outcome.returned (some (Value.int z))) hf.symm, ht⟩) (fun _ h => absurd h List.not_mem_nil) dX5_leastOf_7

def f_X5_countedContracts_b4 (f_t_sizes : Nat → Int32) (f_t_cells : Nat → Int32) (k4 : Int32 → Int32 → Int32) (x4_1 : Int32) (x4_2 : Int32) : Int32 :=
  if (f_X5_sizeOf f_t_sizes 0) ≤ x4_2 then x4_1 else k4 (x4_1 ||| ((f_X5_valueAt f_t_cells 0 x4_2 1) <<< (x4_2 &&& 31))) (x4_2 + 1)
def f_X5_countedContracts (f_t_sizes : Nat → Int32) (f_t_cells : Nat → Int32) : Int32 :=
  it2 (f_X5_countedContracts_b4 f_t_sizes f_t_cells) default (((f_X5_sizeOf f_t_sizes 0).toInt - (0 : Int32).toInt).toNat + 1) 0 0
/- inv0@28>4 -/ theorem s_X5_countedContracts_1 (f_t_sizes : Nat → Int32) (x4_2 : Int32) (hi4_0 : 0 ≤ x4_2) (c_10 : ¬ (f_X5_sizeOf f_t_sizes 0) ≤ x4_2) : 0 ≤ (x4_2 + 1) := by grind [f_X5_sizeOf]
/- inv0@3>4 -/ theorem s_X5_countedContracts_2  : 0 ≤ (0 : Int32) := by grind
set_option maxHeartbeats 4000000 in
set_option maxRecDepth 100000 in
theorem c_X5_countedContracts (l : Launch) (D : va_G) (cI cZ cO : ClassId) (a_t : Nat) (a_t_sizes : Nat) (a_t_cells : Nat) (f_t_sizes : Nat → Int32) (f_t_cells : Nat → Int32) : Met l yX5_countedContracts wsX5_countedContracts ({ frames := 2, cells := 0, slots := 0, locals := 46 }) (PcP D (tysG cI cZ cO) [.ref a_t] [(a_t, .inr (5, [.ref a_t_sizes, .ref a_t_cells])), (a_t_sizes, .inl (cI, 4, .inl f_t_sizes)), (a_t_cells, .inl (cI, 120, .inl f_t_cells))]) (QP (.int (f_X5_countedContracts f_t_sizes f_t_cells))) 0 0 (fun _ => False) := by
  refine Met.ofW (cc := cX5_countedContracts) (maxL := 3) (ret := (some .int)) (by decide) rfl ?_
  intro p e s m args below meth c s₁ B hml hv
  obtain ⟨rfl, hP, hKX⟩ := hv
  have hx := B.exec
  have hb := B.bytes
  have hr := B.returns
  have hts := atoms_spec (ws := wsX5_countedContracts) B.pre
  have hown : s.vm.findClass RX5 = some m.cls := findClass_of_methodNamed B.named
  have hlocks := B.notSynchronized
  have hK := hKX.1
  have hl := lv_entry ([.ref a_t]) (n := 3) (Nat.le_of_ble_eq_true rfl)
  rw [lg_entry_eq]
  generalize (lg_sl ([.ref a_t]) ++ List.replicate (3 - (lg_sl ([.ref a_t])).length) Slot.unset).toArray = ls at hl ⊢
  have hl : lv_has ls 3 [(0, .ref a_t)] := hl
  have hf := f_X5_countedContracts.eq_1 f_t_sizes f_t_cells
  refine lv_iconst (v := 0) hx hb dX5_countedContracts_0 (by decide) ?_
  refine lv_istore_n (lv' := [(1, .int 0), (0, .ref a_t)]) hx hb dX5_countedContracts_1 rfl hl (by decide) rfl (fun ls hl => ?_)
  refine lv_iconst (v := 0) hx hb dX5_countedContracts_2 (by decide) ?_
  refine lv_istore_n (lv' := [(2, .int 0), (1, .int 0), (0, .ref a_t)]) hx hb dX5_countedContracts_3 rfl hl (by decide) rfl (fun ls hl => ?_)
  have hJ_4 : ∀ (n4 : Nat) (x4_1 : Int32) (x4_2 : Int32), f_X5_countedContracts f_t_sizes f_t_cells = it2 (f_X5_countedContracts_b4 f_t_sizes f_t_cells) default n4 x4_1 x4_2 → ((f_X5_sizeOf f_t_sizes 0).toInt - x4_2.toInt).toNat < n4 → (0 ≤ x4_2) → ∀ (ls : Array Slot), lv_has ls 3 [(0, .ref a_t), (1, .int x4_1), (2, .int x4_2)] → W p l e (headSpec wsX5_countedContracts { frames := 2, cells := 0, slots := 0, locals := 46 }).room s m [.ref a_t].toArray below meth c s.heap [] 0 0 (MQ below (QP (.int (f_X5_countedContracts f_t_sizes f_t_cells))) [.ref a_t].toArray s 0 0 (fun _ => False)) (F0 m 4 ls []) := by
    intro n4
    induction n4 with
    | zero => intro x4_1 x4_2 hf hm4; exact absurd hm4 (Nat.not_lt_zero _)
    | succ n4 ih4 =>
      intro x4_1 x4_2 hf hm4 hi4_0 ls hl
      replace hf := (hf.trans (it2_s _ _ _ _ _)).trans (f_X5_countedContracts_b4.eq_1 _ _ _ _ _)
      refine lv_iload_n hx hb dX5_countedContracts_4 rfl (lv_at hl 2 rfl) ?_
      refine lv_aload_n hx hb dX5_countedContracts_5 rfl (lv_at hl 0 rfl) ?_
      refine lv_iconst (v := 0) hx hb dX5_countedContracts_6 (by decide) ?_
      refine pcV (As := [.int 0]) (rest := [.int x4_2]) ⟨hx, hb, hml, hown, hts⟩ (c_X5_sizeOf l D cI cZ cO a_t a_t_sizes a_t_cells f_t_sizes 0) (cwV 1 hts gX5_countedContracts_X5_sizeOf rfl rfl rfl (by decide +kernel) ⟨Nat.le_of_ble_eq_true rfl, Nat.le_of_ble_eq_true rfl⟩) hKX hP [0, 1] rfl 0 5 rfl rfl rfl rfl hl.1 rfl (Nat.le_of_ble_eq_true rfl) dX5_countedContracts_7 ⟨Nat.le_of_ble_eq_true rfl, Nat.le_of_ble_eq_true rfl⟩ ?_
      refine lv_icmp_ge (tgt := 31) hx hb dX5_countedContracts_10 (by decide) (fun c_10 => ?_) (fun c_10 => ?_)
      · replace hf := hf.trans (if_pos c_10)
        refine lv_iload_n hx hb dX5_countedContracts_31 rfl (lv_at hl 1 rfl) ?_
        exact W.iret (v := x4_1) hx hb hr (fun t ht hW => ⟨congrArg (fun z => Outcome.returned (some (Value.int z))) hf.symm, ht⟩) (fun _ h => absurd h List.not_mem_nil) dX5_countedContracts_32
      · replace hf := hf.trans (if_neg c_10)
        refine lv_iload_n hx hb dX5_countedContracts_13 rfl (lv_at hl 1 rfl) ?_
        refine lv_aload_n hx hb dX5_countedContracts_14 rfl (lv_at hl 0 rfl) ?_
        refine lv_iconst (v := 0) hx hb dX5_countedContracts_15 (by decide) ?_
        refine lv_iload_n hx hb dX5_countedContracts_16 rfl (lv_at hl 2 rfl) ?_
        refine lv_iconst (v := 1) hx hb dX5_countedContracts_17 (by decide) ?_
        refine pcV (As := [.int 0, .int x4_2, .int 1]) (rest := [.int x4_1]) ⟨hx, hb, hml, hown, hts⟩ (c_X5_valueAt l D cI cZ cO a_t a_t_sizes a_t_cells f_t_cells 0 x4_2 1) (cwV 3 hts gX5_countedContracts_X5_valueAt rfl rfl rfl (by decide +kernel) ⟨Nat.le_of_ble_eq_true rfl, Nat.le_of_ble_eq_true rfl⟩) hKX hP [0, 2] rfl 0 5 rfl rfl rfl rfl hl.1 rfl (Nat.le_of_ble_eq_true rfl) dX5_countedContracts_18 ⟨Nat.le_of_ble_eq_true rfl, Nat.le_of_ble_eq_true rfl⟩ ?_
        refine lv_iload_n hx hb dX5_countedContracts_21 rfl (lv_at hl 2 rfl) ?_
        refine lv_ishl hx hb dX5_countedContracts_22 ?_
        refine lv_ior hx hb dX5_countedContracts_23 ?_
        refine lv_istore_n (lv' := [(1, .int (x4_1 ||| ((f_X5_valueAt f_t_cells 0 x4_2 1) <<< (x4_2 &&& 31)))), (0, .ref a_t), (2, .int x4_2)]) hx hb dX5_countedContracts_24 rfl hl (by decide) rfl (fun ls hl => ?_)
        refine lv_iinc (v := x4_2 + 1) (lv' := [(2, .int (x4_2 + 1)), (1, .int (x4_1 ||| ((f_X5_valueAt f_t_cells 0 x4_2 1) <<< (x4_2 &&& 31)))), (0, .ref a_t)]) hx hb dX5_countedContracts_25 hl (k := 2) rfl rfl (by decide) rfl (fun ls hl => ?_)
        refine lv_goto (tgt := 4) hx hb dX5_countedContracts_28 (by decide) ?_
        exact ih4 (x4_1 ||| ((f_X5_valueAt f_t_cells 0 x4_2 1) <<< (x4_2 &&& 31))) (x4_2 + 1) hf (mu_up c_10 hm4) (s_X5_countedContracts_1 f_t_sizes x4_2 hi4_0 c_10) _ (lv_sub hl [2, 1, 0] rfl)
  exact hJ_4 _ 0 0 hf (Nat.lt_succ_self _) s_X5_countedContracts_2 _ (lv_sub hl [2, 1, 0] rfl)

def f_X5_birthDay (f_t_cells : Nat → Int32) (x1 : Int32) : Int32 :=
  f_X5_valueAt f_t_cells 1 x1 0
set_option maxHeartbeats 4000000 in
set_option maxRecDepth 100000 in
theorem c_X5_birthDay (l : Launch) (D : va_G) (cI cZ cO : ClassId) (a_t : Nat) (a_t_sizes : Nat) (a_t_cells : Nat) (f_t_cells : Nat → Int32) (x1 : Int32) : Met l yX5_birthDay wsX5_birthDay ({ frames := 2, cells := 0, slots := 0, locals := 46 }) (PcP D (tysG cI cZ cO) [.ref a_t, .int x1] [(a_t, .inr (5, [.ref a_t_sizes, .ref a_t_cells])), (a_t_cells, .inl (cI, 120, .inl f_t_cells))]) (QP (.int (f_X5_birthDay f_t_cells x1))) 0 0 (fun _ => False) := by
  refine Met.ofW (cc := cX5_birthDay) (maxL := 2) (ret := (some .int)) (by decide) rfl ?_
  intro p e s m args below meth c s₁ B hml hv
  obtain ⟨rfl, hP, hKX⟩ := hv
  have hx := B.exec
  have hb := B.bytes
  have hr := B.returns
  have hts := atoms_spec (ws := wsX5_birthDay) B.pre
  have hown : s.vm.findClass RX5 = some m.cls := findClass_of_methodNamed B.named
  have hlocks := B.notSynchronized
  have hK := hKX.1
  have hl := lv_entry ([.ref a_t, .int x1]) (n := 2) (Nat.le_of_ble_eq_true rfl)
  rw [lg_entry_eq]
  generalize (lg_sl ([.ref a_t, .int x1]) ++ List.replicate (2 - (lg_sl ([.ref a_t, .int x1])).length) Slot.unset).toArray = ls at hl ⊢
  have hl : lv_has ls 2 [(0, .ref a_t), (1, .int x1)] := hl
  have hf := f_X5_birthDay.eq_1 f_t_cells x1
  refine lv_aload_n hx hb dX5_birthDay_0 rfl (lv_at hl 0 rfl) ?_
  refine lv_iconst (v := 1) hx hb dX5_birthDay_1 (by decide) ?_
  refine lv_iload_n hx hb dX5_birthDay_2 rfl (lv_at hl 1 rfl) ?_
  refine lv_iconst (v := 0) hx hb dX5_birthDay_3 (by decide) ?_
  refine pcV (As := [.int 1, .int x1, .int 0]) (rest := []) ⟨hx, hb, hml, hown, hts⟩ (c_X5_valueAt l D cI cZ cO a_t a_t_sizes a_t_cells f_t_cells 1 x1 0) (cwV 3 hts gX5_birthDay_X5_valueAt rfl rfl rfl (by decide +kernel) ⟨Nat.le_of_ble_eq_true rfl, Nat.le_of_ble_eq_true rfl⟩) hKX hP [0, 1] rfl 0 5 rfl rfl rfl rfl hl.1 rfl (Nat.le_of_ble_eq_true rfl) dX5_birthDay_4 ⟨Nat.le_of_ble_eq_true rfl, Nat.le_of_ble_eq_true rfl⟩ ?_
  exact W.iret (v := f_X5_valueAt f_t_cells 1 x1 0) hx hb hr (fun t ht hW => ⟨congrArg (fun z => Outcome.returned (some (Value.int z))) hf.symm, ht⟩) (fun _ h => absurd h List.not_mem_nil) dX5_birthDay_7

def f_X5_fullAge (f_t_cells : Nat → Int32) (x1 : Int32) : Int32 :=
  f_X5_valueAt f_t_cells 1 x1 1
set_option maxHeartbeats 4000000 in
set_option maxRecDepth 100000 in
theorem c_X5_fullAge (l : Launch) (D : va_G) (cI cZ cO : ClassId) (a_t : Nat) (a_t_sizes : Nat) (a_t_cells : Nat) (f_t_cells : Nat → Int32) (x1 : Int32) : Met l yX5_fullAge wsX5_fullAge ({ frames := 2, cells := 0, slots := 0, locals := 46 }) (PcP D (tysG cI cZ cO) [.ref a_t, .int x1] [(a_t, .inr (5, [.ref a_t_sizes, .ref a_t_cells])), (a_t_cells, .inl (cI, 120, .inl f_t_cells))]) (QP (.int (f_X5_fullAge f_t_cells x1))) 0 0 (fun _ => False) := by
  refine Met.ofW (cc := cX5_fullAge) (maxL := 2) (ret := (some .int)) (by decide) rfl ?_
  intro p e s m args below meth c s₁ B hml hv
  obtain ⟨rfl, hP, hKX⟩ := hv
  have hx := B.exec
  have hb := B.bytes
  have hr := B.returns
  have hts := atoms_spec (ws := wsX5_fullAge) B.pre
  have hown : s.vm.findClass RX5 = some m.cls := findClass_of_methodNamed B.named
  have hlocks := B.notSynchronized
  have hK := hKX.1
  have hl := lv_entry ([.ref a_t, .int x1]) (n := 2) (Nat.le_of_ble_eq_true rfl)
  rw [lg_entry_eq]
  generalize (lg_sl ([.ref a_t, .int x1]) ++ List.replicate (2 - (lg_sl ([.ref a_t, .int x1])).length) Slot.unset).toArray = ls at hl ⊢
  have hl : lv_has ls 2 [(0, .ref a_t), (1, .int x1)] := hl
  have hf := f_X5_fullAge.eq_1 f_t_cells x1
  refine lv_aload_n hx hb dX5_fullAge_0 rfl (lv_at hl 0 rfl) ?_
  refine lv_iconst (v := 1) hx hb dX5_fullAge_1 (by decide) ?_
  refine lv_iload_n hx hb dX5_fullAge_2 rfl (lv_at hl 1 rfl) ?_
  refine lv_iconst (v := 1) hx hb dX5_fullAge_3 (by decide) ?_
  refine pcV (As := [.int 1, .int x1, .int 1]) (rest := []) ⟨hx, hb, hml, hown, hts⟩ (c_X5_valueAt l D cI cZ cO a_t a_t_sizes a_t_cells f_t_cells 1 x1 1) (cwV 3 hts gX5_fullAge_X5_valueAt rfl rfl rfl (by decide +kernel) ⟨Nat.le_of_ble_eq_true rfl, Nat.le_of_ble_eq_true rfl⟩) hKX hP [0, 1] rfl 0 5 rfl rfl rfl rfl hl.1 rfl (Nat.le_of_ble_eq_true rfl) dX5_fullAge_4 ⟨Nat.le_of_ble_eq_true rfl, Nat.le_of_ble_eq_true rfl⟩ ?_
  exact W.iret (v := f_X5_valueAt f_t_cells 1 x1 1) hx hb hr (fun t ht hW => ⟨congrArg (fun z => Outcome.returned (some (Value.int z))) hf.symm, ht⟩) (fun _ h => absurd h List.not_mem_nil) dX5_fullAge_7

def f_X5_tideEach (f_t_cells : Nat → Int32) (x1 : Int32) : Int32 :=
  f_X5_valueAt f_t_cells 2 x1 0
set_option maxHeartbeats 4000000 in
set_option maxRecDepth 100000 in
theorem c_X5_tideEach (l : Launch) (D : va_G) (cI cZ cO : ClassId) (a_t : Nat) (a_t_sizes : Nat) (a_t_cells : Nat) (f_t_cells : Nat → Int32) (x1 : Int32) : Met l yX5_tideEach wsX5_tideEach ({ frames := 2, cells := 0, slots := 0, locals := 46 }) (PcP D (tysG cI cZ cO) [.ref a_t, .int x1] [(a_t, .inr (5, [.ref a_t_sizes, .ref a_t_cells])), (a_t_cells, .inl (cI, 120, .inl f_t_cells))]) (QP (.int (f_X5_tideEach f_t_cells x1))) 0 0 (fun _ => False) := by
  refine Met.ofW (cc := cX5_tideEach) (maxL := 2) (ret := (some .int)) (by decide) rfl ?_
  intro p e s m args below meth c s₁ B hml hv
  obtain ⟨rfl, hP, hKX⟩ := hv
  have hx := B.exec
  have hb := B.bytes
  have hr := B.returns
  have hts := atoms_spec (ws := wsX5_tideEach) B.pre
  have hown : s.vm.findClass RX5 = some m.cls := findClass_of_methodNamed B.named
  have hlocks := B.notSynchronized
  have hK := hKX.1
  have hl := lv_entry ([.ref a_t, .int x1]) (n := 2) (Nat.le_of_ble_eq_true rfl)
  rw [lg_entry_eq]
  generalize (lg_sl ([.ref a_t, .int x1]) ++ List.replicate (2 - (lg_sl ([.ref a_t, .int x1])).length) Slot.unset).toArray = ls at hl ⊢
  have hl : lv_has ls 2 [(0, .ref a_t), (1, .int x1)] := hl
  have hf := f_X5_tideEach.eq_1 f_t_cells x1
  refine lv_aload_n hx hb dX5_tideEach_0 rfl (lv_at hl 0 rfl) ?_
  refine lv_iconst (v := 2) hx hb dX5_tideEach_1 (by decide) ?_
  refine lv_iload_n hx hb dX5_tideEach_2 rfl (lv_at hl 1 rfl) ?_
  refine lv_iconst (v := 0) hx hb dX5_tideEach_3 (by decide) ?_
  refine pcV (As := [.int 2, .int x1, .int 0]) (rest := []) ⟨hx, hb, hml, hown, hts⟩ (c_X5_valueAt l D cI cZ cO a_t a_t_sizes a_t_cells f_t_cells 2 x1 0) (cwV 3 hts gX5_tideEach_X5_valueAt rfl rfl rfl (by decide +kernel) ⟨Nat.le_of_ble_eq_true rfl, Nat.le_of_ble_eq_true rfl⟩) hKX hP [0, 1] rfl 0 5 rfl rfl rfl rfl hl.1 rfl (Nat.le_of_ble_eq_true rfl) dX5_tideEach_4 ⟨Nat.le_of_ble_eq_true rfl, Nat.le_of_ble_eq_true rfl⟩ ?_
  exact W.iret (v := f_X5_valueAt f_t_cells 2 x1 0) hx hb hr (fun t ht hW => ⟨congrArg (fun z => Outcome.returned (some (Value.int z))) hf.symm, ht⟩) (fun _ h => absurd h List.not_mem_nil) dX5_tideEach_7

def f_X5_tideFirst (f_t_cells : Nat → Int32) (x1 : Int32) : Int32 :=
  f_X5_valueAt f_t_cells 2 x1 1
set_option maxHeartbeats 4000000 in
set_option maxRecDepth 100000 in
theorem c_X5_tideFirst (l : Launch) (D : va_G) (cI cZ cO : ClassId) (a_t : Nat) (a_t_sizes : Nat) (a_t_cells : Nat) (f_t_cells : Nat → Int32) (x1 : Int32) : Met l yX5_tideFirst wsX5_tideFirst ({ frames := 2, cells := 0, slots := 0, locals := 46 }) (PcP D (tysG cI cZ cO) [.ref a_t, .int x1] [(a_t, .inr (5, [.ref a_t_sizes, .ref a_t_cells])), (a_t_cells, .inl (cI, 120, .inl f_t_cells))]) (QP (.int (f_X5_tideFirst f_t_cells x1))) 0 0 (fun _ => False) := by
  refine Met.ofW (cc := cX5_tideFirst) (maxL := 2) (ret := (some .int)) (by decide) rfl ?_
  intro p e s m args below meth c s₁ B hml hv
  obtain ⟨rfl, hP, hKX⟩ := hv
  have hx := B.exec
  have hb := B.bytes
  have hr := B.returns
  have hts := atoms_spec (ws := wsX5_tideFirst) B.pre
  have hown : s.vm.findClass RX5 = some m.cls := findClass_of_methodNamed B.named
  have hlocks := B.notSynchronized
  have hK := hKX.1
  have hl := lv_entry ([.ref a_t, .int x1]) (n := 2) (Nat.le_of_ble_eq_true rfl)
  rw [lg_entry_eq]
  generalize (lg_sl ([.ref a_t, .int x1]) ++ List.replicate (2 - (lg_sl ([.ref a_t, .int x1])).length) Slot.unset).toArray = ls at hl ⊢
  have hl : lv_has ls 2 [(0, .ref a_t), (1, .int x1)] := hl
  have hf := f_X5_tideFirst.eq_1 f_t_cells x1
  refine lv_aload_n hx hb dX5_tideFirst_0 rfl (lv_at hl 0 rfl) ?_
  refine lv_iconst (v := 2) hx hb dX5_tideFirst_1 (by decide) ?_
  refine lv_iload_n hx hb dX5_tideFirst_2 rfl (lv_at hl 1 rfl) ?_
  refine lv_iconst (v := 1) hx hb dX5_tideFirst_3 (by decide) ?_
  refine pcV (As := [.int 2, .int x1, .int 1]) (rest := []) ⟨hx, hb, hml, hown, hts⟩ (c_X5_valueAt l D cI cZ cO a_t a_t_sizes a_t_cells f_t_cells 2 x1 1) (cwV 3 hts gX5_tideFirst_X5_valueAt rfl rfl rfl (by decide +kernel) ⟨Nat.le_of_ble_eq_true rfl, Nat.le_of_ble_eq_true rfl⟩) hKX hP [0, 1] rfl 0 5 rfl rfl rfl rfl hl.1 rfl (Nat.le_of_ble_eq_true rfl) dX5_tideFirst_4 ⟨Nat.le_of_ble_eq_true rfl, Nat.le_of_ble_eq_true rfl⟩ ?_
  exact W.iret (v := f_X5_valueAt f_t_cells 2 x1 1) hx hb hr (fun t ht hW => ⟨congrArg (fun z => Outcome.returned (some (Value.int z))) hf.symm, ht⟩) (fun _ h => absurd h List.not_mem_nil) dX5_tideFirst_7

def f_X5_debtor (f_t_cells : Nat → Int32) (x1 : Int32) : Int32 :=
  f_X5_valueAt f_t_cells 3 x1 0
set_option maxHeartbeats 4000000 in
set_option maxRecDepth 100000 in
theorem c_X5_debtor (l : Launch) (D : va_G) (cI cZ cO : ClassId) (a_t : Nat) (a_t_sizes : Nat) (a_t_cells : Nat) (f_t_cells : Nat → Int32) (x1 : Int32) : Met l yX5_debtor wsX5_debtor ({ frames := 2, cells := 0, slots := 0, locals := 46 }) (PcP D (tysG cI cZ cO) [.ref a_t, .int x1] [(a_t, .inr (5, [.ref a_t_sizes, .ref a_t_cells])), (a_t_cells, .inl (cI, 120, .inl f_t_cells))]) (QP (.int (f_X5_debtor f_t_cells x1))) 0 0 (fun _ => False) := by
  refine Met.ofW (cc := cX5_debtor) (maxL := 2) (ret := (some .int)) (by decide) rfl ?_
  intro p e s m args below meth c s₁ B hml hv
  obtain ⟨rfl, hP, hKX⟩ := hv
  have hx := B.exec
  have hb := B.bytes
  have hr := B.returns
  have hts := atoms_spec (ws := wsX5_debtor) B.pre
  have hown : s.vm.findClass RX5 = some m.cls := findClass_of_methodNamed B.named
  have hlocks := B.notSynchronized
  have hK := hKX.1
  have hl := lv_entry ([.ref a_t, .int x1]) (n := 2) (Nat.le_of_ble_eq_true rfl)
  rw [lg_entry_eq]
  generalize (lg_sl ([.ref a_t, .int x1]) ++ List.replicate (2 - (lg_sl ([.ref a_t, .int x1])).length) Slot.unset).toArray = ls at hl ⊢
  have hl : lv_has ls 2 [(0, .ref a_t), (1, .int x1)] := hl
  have hf := f_X5_debtor.eq_1 f_t_cells x1
  refine lv_aload_n hx hb dX5_debtor_0 rfl (lv_at hl 0 rfl) ?_
  refine lv_iconst (v := 3) hx hb dX5_debtor_1 (by decide) ?_
  refine lv_iload_n hx hb dX5_debtor_2 rfl (lv_at hl 1 rfl) ?_
  refine lv_iconst (v := 0) hx hb dX5_debtor_3 (by decide) ?_
  refine pcV (As := [.int 3, .int x1, .int 0]) (rest := []) ⟨hx, hb, hml, hown, hts⟩ (c_X5_valueAt l D cI cZ cO a_t a_t_sizes a_t_cells f_t_cells 3 x1 0) (cwV 3 hts gX5_debtor_X5_valueAt rfl rfl rfl (by decide +kernel) ⟨Nat.le_of_ble_eq_true rfl, Nat.le_of_ble_eq_true rfl⟩) hKX hP [0, 1] rfl 0 5 rfl rfl rfl rfl hl.1 rfl (Nat.le_of_ble_eq_true rfl) dX5_debtor_4 ⟨Nat.le_of_ble_eq_true rfl, Nat.le_of_ble_eq_true rfl⟩ ?_
  exact W.iret (v := f_X5_valueAt f_t_cells 3 x1 0) hx hb hr (fun t ht hW => ⟨congrArg (fun z => Outcome.returned (some (Value.int z))) hf.symm, ht⟩) (fun _ h => absurd h List.not_mem_nil) dX5_debtor_7

def f_X5_creditor (f_t_cells : Nat → Int32) (x1 : Int32) : Int32 :=
  f_X5_valueAt f_t_cells 3 x1 1
set_option maxHeartbeats 4000000 in
set_option maxRecDepth 100000 in
theorem c_X5_creditor (l : Launch) (D : va_G) (cI cZ cO : ClassId) (a_t : Nat) (a_t_sizes : Nat) (a_t_cells : Nat) (f_t_cells : Nat → Int32) (x1 : Int32) : Met l yX5_creditor wsX5_creditor ({ frames := 2, cells := 0, slots := 0, locals := 46 }) (PcP D (tysG cI cZ cO) [.ref a_t, .int x1] [(a_t, .inr (5, [.ref a_t_sizes, .ref a_t_cells])), (a_t_cells, .inl (cI, 120, .inl f_t_cells))]) (QP (.int (f_X5_creditor f_t_cells x1))) 0 0 (fun _ => False) := by
  refine Met.ofW (cc := cX5_creditor) (maxL := 2) (ret := (some .int)) (by decide) rfl ?_
  intro p e s m args below meth c s₁ B hml hv
  obtain ⟨rfl, hP, hKX⟩ := hv
  have hx := B.exec
  have hb := B.bytes
  have hr := B.returns
  have hts := atoms_spec (ws := wsX5_creditor) B.pre
  have hown : s.vm.findClass RX5 = some m.cls := findClass_of_methodNamed B.named
  have hlocks := B.notSynchronized
  have hK := hKX.1
  have hl := lv_entry ([.ref a_t, .int x1]) (n := 2) (Nat.le_of_ble_eq_true rfl)
  rw [lg_entry_eq]
  generalize (lg_sl ([.ref a_t, .int x1]) ++ List.replicate (2 - (lg_sl ([.ref a_t, .int x1])).length) Slot.unset).toArray = ls at hl ⊢
  have hl : lv_has ls 2 [(0, .ref a_t), (1, .int x1)] := hl
  have hf := f_X5_creditor.eq_1 f_t_cells x1
  refine lv_aload_n hx hb dX5_creditor_0 rfl (lv_at hl 0 rfl) ?_
  refine lv_iconst (v := 3) hx hb dX5_creditor_1 (by decide) ?_
  refine lv_iload_n hx hb dX5_creditor_2 rfl (lv_at hl 1 rfl) ?_
  refine lv_iconst (v := 1) hx hb dX5_creditor_3 (by decide) ?_
  refine pcV (As := [.int 3, .int x1, .int 1]) (rest := []) ⟨hx, hb, hml, hown, hts⟩ (c_X5_valueAt l D cI cZ cO a_t a_t_sizes a_t_cells f_t_cells 3 x1 1) (cwV 3 hts gX5_creditor_X5_valueAt rfl rfl rfl (by decide +kernel) ⟨Nat.le_of_ble_eq_true rfl, Nat.le_of_ble_eq_true rfl⟩) hKX hP [0, 1] rfl 0 5 rfl rfl rfl rfl hl.1 rfl (Nat.le_of_ble_eq_true rfl) dX5_creditor_4 ⟨Nat.le_of_ble_eq_true rfl, Nat.le_of_ble_eq_true rfl⟩ ?_
  exact W.iret (v := f_X5_valueAt f_t_cells 3 x1 1) hx hb hr (fun t ht hW => ⟨congrArg (fun z => Outcome.returned (some (Value.int z))) hf.symm, ht⟩) (fun _ h => absurd h List.not_mem_nil) dX5_creditor_7

def f_X5_debtOf (f_t_cells : Nat → Int32) (x1 : Int32) : Int32 :=
  f_X5_valueAt f_t_cells 3 x1 2
set_option maxHeartbeats 4000000 in
set_option maxRecDepth 100000 in
theorem c_X5_debtOf (l : Launch) (D : va_G) (cI cZ cO : ClassId) (a_t : Nat) (a_t_sizes : Nat) (a_t_cells : Nat) (f_t_cells : Nat → Int32) (x1 : Int32) : Met l yX5_debtOf wsX5_debtOf ({ frames := 2, cells := 0, slots := 0, locals := 46 }) (PcP D (tysG cI cZ cO) [.ref a_t, .int x1] [(a_t, .inr (5, [.ref a_t_sizes, .ref a_t_cells])), (a_t_cells, .inl (cI, 120, .inl f_t_cells))]) (QP (.int (f_X5_debtOf f_t_cells x1))) 0 0 (fun _ => False) := by
  refine Met.ofW (cc := cX5_debtOf) (maxL := 2) (ret := (some .int)) (by decide) rfl ?_
  intro p e s m args below meth c s₁ B hml hv
  obtain ⟨rfl, hP, hKX⟩ := hv
  have hx := B.exec
  have hb := B.bytes
  have hr := B.returns
  have hts := atoms_spec (ws := wsX5_debtOf) B.pre
  have hown : s.vm.findClass RX5 = some m.cls := findClass_of_methodNamed B.named
  have hlocks := B.notSynchronized
  have hK := hKX.1
  have hl := lv_entry ([.ref a_t, .int x1]) (n := 2) (Nat.le_of_ble_eq_true rfl)
  rw [lg_entry_eq]
  generalize (lg_sl ([.ref a_t, .int x1]) ++ List.replicate (2 - (lg_sl ([.ref a_t, .int x1])).length) Slot.unset).toArray = ls at hl ⊢
  have hl : lv_has ls 2 [(0, .ref a_t), (1, .int x1)] := hl
  have hf := f_X5_debtOf.eq_1 f_t_cells x1
  refine lv_aload_n hx hb dX5_debtOf_0 rfl (lv_at hl 0 rfl) ?_
  refine lv_iconst (v := 3) hx hb dX5_debtOf_1 (by decide) ?_
  refine lv_iload_n hx hb dX5_debtOf_2 rfl (lv_at hl 1 rfl) ?_
  refine lv_iconst (v := 2) hx hb dX5_debtOf_3 (by decide) ?_
  refine pcV (As := [.int 3, .int x1, .int 2]) (rest := []) ⟨hx, hb, hml, hown, hts⟩ (c_X5_valueAt l D cI cZ cO a_t a_t_sizes a_t_cells f_t_cells 3 x1 2) (cwV 3 hts gX5_debtOf_X5_valueAt rfl rfl rfl (by decide +kernel) ⟨Nat.le_of_ble_eq_true rfl, Nat.le_of_ble_eq_true rfl⟩) hKX hP [0, 1] rfl 0 5 rfl rfl rfl rfl hl.1 rfl (Nat.le_of_ble_eq_true rfl) dX5_debtOf_4 ⟨Nat.le_of_ble_eq_true rfl, Nat.le_of_ble_eq_true rfl⟩ ?_
  exact W.iret (v := f_X5_valueAt f_t_cells 3 x1 2) hx hb hr (fun t ht hW => ⟨congrArg (fun z => Outcome.returned (some (Value.int z))) hf.symm, ht⟩) (fun _ h => absurd h List.not_mem_nil) dX5_debtOf_7

def f_X5_kindBy (x0 : Int32) : Int32 :=
  if x0 = 66 then 1 else (if x0 = 67 then 0 else (if x0 = 79 then 3 else (if x0 = 84 then 2 else ((-1)))))
set_option maxHeartbeats 4000000 in
set_option maxRecDepth 100000 in
theorem c_X5_kindBy (l : Launch) (D : va_G) (cI cZ cO : ClassId) (x0 : Int32) : Met l yX5_kindBy wsX5_kindBy ({ frames := 0, cells := 0, slots := 0, locals := 0 }) (PcP D (tysG cI cZ cO) [.int x0] []) (QP (.int (f_X5_kindBy x0))) 0 0 (fun _ => False) := by
  refine Met.ofW (cc := cX5_kindBy) (maxL := 1) (ret := (some .int)) (by decide) rfl ?_
  intro p e s m args below meth c s₁ B hml hv
  obtain ⟨rfl, hP, hKX⟩ := hv
  have hx := B.exec
  have hb := B.bytes
  have hr := B.returns
  have hts := atoms_spec (ws := wsX5_kindBy) B.pre
  have hown : s.vm.findClass RX5 = some m.cls := findClass_of_methodNamed B.named
  have hlocks := B.notSynchronized
  have hK := hKX.1
  have hl := lv_entry ([.int x0]) (n := 1) (Nat.le_of_ble_eq_true rfl)
  rw [lg_entry_eq]
  generalize (lg_sl ([.int x0]) ++ List.replicate (1 - (lg_sl ([.int x0])).length) Slot.unset).toArray = ls at hl ⊢
  have hl : lv_has ls 1 [(0, .int x0)] := hl
  have hf := f_X5_kindBy.eq_1 x0
  refine lv_iload_n hx hb dX5_kindBy_0 rfl (lv_at hl 0 rfl) ?_
  by_cases q_1_0 : x0 = 66
  · replace hf := hf.trans (if_pos q_1_0)
    refine lv_lookup (off := 45) (tgt := 46) hx hb dX5_kindBy_1 (by decide) (by rw [q_1_0]; rfl) (by decide) ?_
    refine lv_iconst (v := 1) hx hb dX5_kindBy_46 (by decide) ?_
    exact W.iret (v := 1) hx hb hr (fun t ht hW => ⟨congrArg (fun z => Outcome.returned (some (Value.int z))) hf.symm, ht⟩) (fun _ h => absurd h List.not_mem_nil) dX5_kindBy_47
  · replace hf := hf.trans (if_neg q_1_0)
    by_cases q_1_1 : x0 = 67
    · replace hf := hf.trans (if_pos q_1_1)
      refine lv_lookup (off := 43) (tgt := 44) hx hb dX5_kindBy_1 (by decide) (by rw [q_1_1]; rfl) (by decide) ?_
      refine lv_iconst (v := 0) hx hb dX5_kindBy_44 (by decide) ?_
      exact W.iret (v := 0) hx hb hr (fun t ht hW => ⟨congrArg (fun z => Outcome.returned (some (Value.int z))) hf.symm, ht⟩) (fun _ h => absurd h List.not_mem_nil) dX5_kindBy_45
    · replace hf := hf.trans (if_neg q_1_1)
      by_cases q_1_2 : x0 = 79
      · replace hf := hf.trans (if_pos q_1_2)
        refine lv_lookup (off := 49) (tgt := 50) hx hb dX5_kindBy_1 (by decide) (by rw [q_1_2]; rfl) (by decide) ?_
        refine lv_iconst (v := 3) hx hb dX5_kindBy_50 (by decide) ?_
        exact W.iret (v := 3) hx hb hr (fun t ht hW => ⟨congrArg (fun z => Outcome.returned (some (Value.int z))) hf.symm, ht⟩) (fun _ h => absurd h List.not_mem_nil) dX5_kindBy_51
      · replace hf := hf.trans (if_neg q_1_2)
        by_cases q_1_3 : x0 = 84
        · replace hf := hf.trans (if_pos q_1_3)
          refine lv_lookup (off := 47) (tgt := 48) hx hb dX5_kindBy_1 (by decide) (by rw [q_1_3]; rfl) (by decide) ?_
          refine lv_iconst (v := 2) hx hb dX5_kindBy_48 (by decide) ?_
          exact W.iret (v := 2) hx hb hr (fun t ht hW => ⟨congrArg (fun z => Outcome.returned (some (Value.int z))) hf.symm, ht⟩) (fun _ h => absurd h List.not_mem_nil) dX5_kindBy_49
        · replace hf := hf.trans (if_neg q_1_3)
          refine lv_lookup (off := 51) (tgt := 52) hx hb dX5_kindBy_1 (by decide) (by rw [lv_osw q_1_0 (by decide), lv_osw q_1_1 (by decide), lv_osw q_1_2 (by decide), lv_osw q_1_3 (by decide)]; rfl) (by decide) ?_
          refine lv_iconst (v := (-1)) hx hb dX5_kindBy_52 (by decide) ?_
          exact W.iret (v := (-1)) hx hb hr (fun t ht hW => ⟨congrArg (fun z => Outcome.returned (some (Value.int z))) hf.symm, ht⟩) (fun _ h => absurd h List.not_mem_nil) dX5_kindBy_53

def f_X5_mostOf (x0 : Int32) : Int32 :=
  if x0 = 0 then 5 else (if x0 = 1 then 3 else (if x0 = 2 then 3 else (6)))
/- sw@1 -/ theorem s_X5_mostOf_1 (x0 : Int32) (q_1_0 : ¬ x0 = 0) (q_1_1 : ¬ x0 = 1) (q_1_2 : ¬ x0 = 2) : x0 < 0 ∨ 2 < x0 := by grind
set_option maxHeartbeats 4000000 in
set_option maxRecDepth 100000 in
theorem c_X5_mostOf (l : Launch) (D : va_G) (cI cZ cO : ClassId) (x0 : Int32) : Met l yX5_mostOf wsX5_mostOf ({ frames := 0, cells := 0, slots := 0, locals := 0 }) (PcP D (tysG cI cZ cO) [.int x0] []) (QP (.int (f_X5_mostOf x0))) 0 0 (fun _ => False) := by
  refine Met.ofW (cc := cX5_mostOf) (maxL := 1) (ret := (some .int)) (by decide) rfl ?_
  intro p e s m args below meth c s₁ B hml hv
  obtain ⟨rfl, hP, hKX⟩ := hv
  have hx := B.exec
  have hb := B.bytes
  have hr := B.returns
  have hts := atoms_spec (ws := wsX5_mostOf) B.pre
  have hown : s.vm.findClass RX5 = some m.cls := findClass_of_methodNamed B.named
  have hlocks := B.notSynchronized
  have hK := hKX.1
  have hl := lv_entry ([.int x0]) (n := 1) (Nat.le_of_ble_eq_true rfl)
  rw [lg_entry_eq]
  generalize (lg_sl ([.int x0]) ++ List.replicate (1 - (lg_sl ([.int x0])).length) Slot.unset).toArray = ls at hl ⊢
  have hl : lv_has ls 1 [(0, .int x0)] := hl
  have hf := f_X5_mostOf.eq_1 x0
  refine lv_iload_n hx hb dX5_mostOf_0 rfl (lv_at hl 0 rfl) ?_
  by_cases q_1_0 : x0 = 0
  · replace hf := hf.trans (if_pos q_1_0)
    refine lv_tableIn (off := 27) (tgt := 28) hx hb dX5_mostOf_1 (by rw [q_1_0]; decide) (by rw [q_1_0]; decide) (by rw [q_1_0]; rfl) (by decide) ?_
    refine lv_iconst (v := 5) hx hb dX5_mostOf_28 (by decide) ?_
    exact W.iret (v := 5) hx hb hr (fun t ht hW => ⟨congrArg (fun z => Outcome.returned (some (Value.int z))) hf.symm, ht⟩) (fun _ h => absurd h List.not_mem_nil) dX5_mostOf_29
  · replace hf := hf.trans (if_neg q_1_0)
    by_cases q_1_1 : x0 = 1
    · replace hf := hf.trans (if_pos q_1_1)
      refine lv_tableIn (off := 29) (tgt := 30) hx hb dX5_mostOf_1 (by rw [q_1_1]; decide) (by rw [q_1_1]; decide) (by rw [q_1_1]; rfl) (by decide) ?_
      refine lv_iconst (v := 3) hx hb dX5_mostOf_30 (by decide) ?_
      exact W.iret (v := 3) hx hb hr (fun t ht hW => ⟨congrArg (fun z => Outcome.returned (some (Value.int z))) hf.symm, ht⟩) (fun _ h => absurd h List.not_mem_nil) dX5_mostOf_31
    · replace hf := hf.trans (if_neg q_1_1)
      by_cases q_1_2 : x0 = 2
      · replace hf := hf.trans (if_pos q_1_2)
        refine lv_tableIn (off := 31) (tgt := 32) hx hb dX5_mostOf_1 (by rw [q_1_2]; decide) (by rw [q_1_2]; decide) (by rw [q_1_2]; rfl) (by decide) ?_
        refine lv_iconst (v := 3) hx hb dX5_mostOf_32 (by decide) ?_
        exact W.iret (v := 3) hx hb hr (fun t ht hW => ⟨congrArg (fun z => Outcome.returned (some (Value.int z))) hf.symm, ht⟩) (fun _ h => absurd h List.not_mem_nil) dX5_mostOf_33
      · replace hf := hf.trans (if_neg q_1_2)
        refine lv_tableOut (tgt := 34) hx hb dX5_mostOf_1 (sw_out (lo := 0) (hi := 2) (by decide) (by decide) (s_X5_mostOf_1 x0 q_1_0 q_1_1 q_1_2)) (by decide) ?_
        refine lv_bipush (v := 6) hx hb dX5_mostOf_34 (by decide) ?_
        exact W.iret (v := 6) hx hb hr (fun t ht hW => ⟨congrArg (fun z => Outcome.returned (some (Value.int z))) hf.symm, ht⟩) (fun _ h => absurd h List.not_mem_nil) dX5_mostOf_36

def f_X5_dayBy (x0 : Int32) : Int32 :=
  if x0 < 97 then (-1) else if 108 < x0 then (-1) else x0 - 97
set_option maxHeartbeats 4000000 in
set_option maxRecDepth 100000 in
theorem c_X5_dayBy (l : Launch) (D : va_G) (cI cZ cO : ClassId) (x0 : Int32) : Met l yX5_dayBy wsX5_dayBy ({ frames := 0, cells := 0, slots := 0, locals := 0 }) (PcP D (tysG cI cZ cO) [.int x0] []) (QP (.int (f_X5_dayBy x0))) 0 0 (fun _ => False) := by
  refine Met.ofW (cc := cX5_dayBy) (maxL := 1) (ret := (some .int)) (by decide) rfl ?_
  intro p e s m args below meth c s₁ B hml hv
  obtain ⟨rfl, hP, hKX⟩ := hv
  have hx := B.exec
  have hb := B.bytes
  have hr := B.returns
  have hts := atoms_spec (ws := wsX5_dayBy) B.pre
  have hown : s.vm.findClass RX5 = some m.cls := findClass_of_methodNamed B.named
  have hlocks := B.notSynchronized
  have hK := hKX.1
  have hl := lv_entry ([.int x0]) (n := 1) (Nat.le_of_ble_eq_true rfl)
  rw [lg_entry_eq]
  generalize (lg_sl ([.int x0]) ++ List.replicate (1 - (lg_sl ([.int x0])).length) Slot.unset).toArray = ls at hl ⊢
  have hl : lv_has ls 1 [(0, .int x0)] := hl
  have hf := f_X5_dayBy.eq_1 x0
  refine lv_iload_n hx hb dX5_dayBy_0 rfl (lv_at hl 0 rfl) ?_
  refine lv_bipush (v := 97) hx hb dX5_dayBy_1 (by decide) ?_
  refine lv_icmp_lt (tgt := 19) hx hb dX5_dayBy_3 (by decide) (fun c_3 => ?_) (fun c_3 => ?_)
  · replace hf := hf.trans (if_pos c_3)
    refine lv_iconst (v := (-1)) hx hb dX5_dayBy_19 (by decide) ?_
    exact W.iret (v := (-1)) hx hb hr (fun t ht hW => ⟨congrArg (fun z => Outcome.returned (some (Value.int z))) hf.symm, ht⟩) (fun _ h => absurd h List.not_mem_nil) dX5_dayBy_20
  · replace hf := hf.trans (if_neg c_3)
    refine lv_iload_n hx hb dX5_dayBy_6 rfl (lv_at hl 0 rfl) ?_
    refine lv_bipush (v := 108) hx hb dX5_dayBy_7 (by decide) ?_
    refine lv_icmp_gt (tgt := 19) hx hb dX5_dayBy_9 (by decide) (fun c_9 => ?_) (fun c_9 => ?_)
    · replace hf := hf.trans (if_pos c_9)
      refine lv_iconst (v := (-1)) hx hb dX5_dayBy_19 (by decide) ?_
      exact W.iret (v := (-1)) hx hb hr (fun t ht hW => ⟨congrArg (fun z => Outcome.returned (some (Value.int z))) hf.symm, ht⟩) (fun _ h => absurd h List.not_mem_nil) dX5_dayBy_20
    · replace hf := hf.trans (if_neg c_9)
      refine lv_iload_n hx hb dX5_dayBy_12 rfl (lv_at hl 0 rfl) ?_
      refine lv_bipush (v := 97) hx hb dX5_dayBy_13 (by decide) ?_
      refine lv_isub hx hb dX5_dayBy_15 ?_
      refine lv_goto (tgt := 20) hx hb dX5_dayBy_16 (by decide) ?_
      exact W.iret (v := x0 - 97) hx hb hr (fun t ht hW => ⟨congrArg (fun z => Outcome.returned (some (Value.int z))) hf.symm, ht⟩) (fun _ h => absurd h List.not_mem_nil) dX5_dayBy_20

def f_X5_figureBy (x0 : Int32) (x1 : Int32) (x2 : Int32) : Int32 :=
  if x0 < x1 then (-1) else if x2 < x0 then (-1) else x0 - 48
set_option maxHeartbeats 4000000 in
set_option maxRecDepth 100000 in
theorem c_X5_figureBy (l : Launch) (D : va_G) (cI cZ cO : ClassId) (x0 : Int32) (x1 : Int32) (x2 : Int32) : Met l yX5_figureBy wsX5_figureBy ({ frames := 0, cells := 0, slots := 0, locals := 0 }) (PcP D (tysG cI cZ cO) [.int x0, .int x1, .int x2] []) (QP (.int (f_X5_figureBy x0 x1 x2))) 0 0 (fun _ => False) := by
  refine Met.ofW (cc := cX5_figureBy) (maxL := 3) (ret := (some .int)) (by decide) rfl ?_
  intro p e s m args below meth c s₁ B hml hv
  obtain ⟨rfl, hP, hKX⟩ := hv
  have hx := B.exec
  have hb := B.bytes
  have hr := B.returns
  have hts := atoms_spec (ws := wsX5_figureBy) B.pre
  have hown : s.vm.findClass RX5 = some m.cls := findClass_of_methodNamed B.named
  have hlocks := B.notSynchronized
  have hK := hKX.1
  have hl := lv_entry ([.int x0, .int x1, .int x2]) (n := 3) (Nat.le_of_ble_eq_true rfl)
  rw [lg_entry_eq]
  generalize (lg_sl ([.int x0, .int x1, .int x2]) ++ List.replicate (3 - (lg_sl ([.int x0, .int x1, .int x2])).length) Slot.unset).toArray = ls at hl ⊢
  have hl : lv_has ls 3 [(0, .int x0), (1, .int x1), (2, .int x2)] := hl
  have hf := f_X5_figureBy.eq_1 x0 x1 x2
  refine lv_iload_n hx hb dX5_figureBy_0 rfl (lv_at hl 0 rfl) ?_
  refine lv_iload_n hx hb dX5_figureBy_1 rfl (lv_at hl 1 rfl) ?_
  refine lv_icmp_lt (tgt := 17) hx hb dX5_figureBy_2 (by decide) (fun c_2 => ?_) (fun c_2 => ?_)
  · replace hf := hf.trans (if_pos c_2)
    refine lv_iconst (v := (-1)) hx hb dX5_figureBy_17 (by decide) ?_
    exact W.iret (v := (-1)) hx hb hr (fun t ht hW => ⟨congrArg (fun z => Outcome.returned (some (Value.int z))) hf.symm, ht⟩) (fun _ h => absurd h List.not_mem_nil) dX5_figureBy_18
  · replace hf := hf.trans (if_neg c_2)
    refine lv_iload_n hx hb dX5_figureBy_5 rfl (lv_at hl 0 rfl) ?_
    refine lv_iload_n hx hb dX5_figureBy_6 rfl (lv_at hl 2 rfl) ?_
    refine lv_icmp_gt (tgt := 17) hx hb dX5_figureBy_7 (by decide) (fun c_7 => ?_) (fun c_7 => ?_)
    · replace hf := hf.trans (if_pos c_7)
      refine lv_iconst (v := (-1)) hx hb dX5_figureBy_17 (by decide) ?_
      exact W.iret (v := (-1)) hx hb hr (fun t ht hW => ⟨congrArg (fun z => Outcome.returned (some (Value.int z))) hf.symm, ht⟩) (fun _ h => absurd h List.not_mem_nil) dX5_figureBy_18
    · replace hf := hf.trans (if_neg c_7)
      refine lv_iload_n hx hb dX5_figureBy_10 rfl (lv_at hl 0 rfl) ?_
      refine lv_bipush (v := 48) hx hb dX5_figureBy_11 (by decide) ?_
      refine lv_isub hx hb dX5_figureBy_13 ?_
      refine lv_goto (tgt := 18) hx hb dX5_figureBy_14 (by decide) ?_
      exact W.iret (v := x0 - 48) hx hb hr (fun t ht hW => ⟨congrArg (fun z => Outcome.returned (some (Value.int z))) hf.symm, ht⟩) (fun _ h => absurd h List.not_mem_nil) dX5_figureBy_18

def f_X5_valueBy (x0 : Int32) (x1 : Int32) (x2 : Int32) : Int32 :=
  if x0 = 100 then f_X5_dayBy x1 else (if x0 = 101 then f_X5_figureBy x1 50 57 else (if x0 = 102 then if ¬ (f_X5_figureBy x1 48 51) = x2 then f_X5_figureBy x1 48 51 else (-1) else (if x0 = 103 then if ¬ (f_X5_figureBy x1 48 51) = x2 then f_X5_figureBy x1 48 51 else (-1) else (if x0 = 104 then if ¬ (f_X5_figureBy x1 48 51) = x2 then f_X5_figureBy x1 48 51 else (-1) else (if x0 = 105 then if ¬ (f_X5_figureBy x1 48 51) = x2 then f_X5_figureBy x1 48 51 else (-1) else (if x0 = 106 then if ¬ (f_X5_figureBy x1 48 51) = x2 then f_X5_figureBy x1 48 51 else (-1) else (if x0 = 107 then f_X5_figureBy x1 48 49 else (if x0 = 108 then if ¬ (f_X5_figureBy x1 48 51) = x2 then f_X5_figureBy x1 48 51 else (-1) else (if x0 = 109 then if ¬ (f_X5_figureBy x1 48 51) = x2 then f_X5_figureBy x1 48 51 else (-1) else (if x0 = 110 then f_X5_figureBy x1 48 57 else (if x0 = 111 then f_X5_figureBy x1 49 57 else (if x0 = 112 then f_X5_figureBy x1 48 51 else (if x0 = 113 then if ¬ (f_X5_figureBy x1 48 51) = x2 then f_X5_figureBy x1 48 51 else (-1) else (if x0 = 114 then if ¬ (f_X5_figureBy x1 48 51) = x2 then f_X5_figureBy x1 48 51 else (-1) else (if x0 = 115 then if ¬ (f_X5_figureBy x1 48 51) = x2 then f_X5_figureBy x1 48 51 else (-1) else (if x0 = 116 then if ¬ (f_X5_figureBy x1 48 51) = x2 then f_X5_figureBy x1 48 51 else (-1) else (if x0 = 117 then if ¬ (f_X5_figureBy x1 48 51) = x2 then f_X5_figureBy x1 48 51 else (-1) else (if x0 = 118 then if ¬ x2 = 0 then f_X5_figureBy x1 48 57 else f_X5_dayBy x1 else (if ¬ (f_X5_figureBy x1 48 51) = x2 then f_X5_figureBy x1 48 51 else (-1))))))))))))))))))))
/- sw@1 -/ theorem s_X5_valueBy_1 (x0 : Int32) (q_1_0 : ¬ x0 = 100) (q_1_1 : ¬ x0 = 101) (q_1_2 : ¬ x0 = 102) (q_1_3 : ¬ x0 = 103) (q_1_4 : ¬ x0 = 104) (q_1_5 : ¬ x0 = 105) (q_1_6 : ¬ x0 = 106) (q_1_7 : ¬ x0 = 107) (q_1_8 : ¬ x0 = 108) (q_1_9 : ¬ x0 = 109) (q_1_10 : ¬ x0 = 110) (q_1_11 : ¬ x0 = 111) (q_1_12 : ¬ x0 = 112) (q_1_13 : ¬ x0 = 113) (q_1_14 : ¬ x0 = 114) (q_1_15 : ¬ x0 = 115) (q_1_16 : ¬ x0 = 116) (q_1_17 : ¬ x0 = 117) (q_1_18 : ¬ x0 = 118) : x0 < 100 ∨ 118 < x0 := by grind
set_option maxHeartbeats 4000000 in
set_option maxRecDepth 100000 in
theorem c_X5_valueBy (l : Launch) (D : va_G) (cI cZ cO : ClassId) (x0 : Int32) (x1 : Int32) (x2 : Int32) : Met l yX5_valueBy wsX5_valueBy ({ frames := 1, cells := 0, slots := 0, locals := 22 }) (PcP D (tysG cI cZ cO) [.int x0, .int x1, .int x2] []) (QP (.int (f_X5_valueBy x0 x1 x2))) 0 0 (fun _ => False) := by
  refine Met.ofW (cc := cX5_valueBy) (maxL := 4) (ret := (some .int)) (by decide) rfl ?_
  intro p e s m args below meth c s₁ B hml hv
  obtain ⟨rfl, hP, hKX⟩ := hv
  have hx := B.exec
  have hb := B.bytes
  have hr := B.returns
  have hts := atoms_spec (ws := wsX5_valueBy) B.pre
  have hown : s.vm.findClass RX5 = some m.cls := findClass_of_methodNamed B.named
  have hlocks := B.notSynchronized
  have hK := hKX.1
  have hl := lv_entry ([.int x0, .int x1, .int x2]) (n := 4) (Nat.le_of_ble_eq_true rfl)
  rw [lg_entry_eq]
  generalize (lg_sl ([.int x0, .int x1, .int x2]) ++ List.replicate (4 - (lg_sl ([.int x0, .int x1, .int x2])).length) Slot.unset).toArray = ls at hl ⊢
  have hl : lv_has ls 4 [(0, .int x0), (1, .int x1), (2, .int x2)] := hl
  have hf := f_X5_valueBy.eq_1 x0 x1 x2
  refine lv_iload_n hx hb dX5_valueBy_0 rfl (lv_at hl 0 rfl) ?_
  by_cases q_1_0 : x0 = 100
  · replace hf := hf.trans (if_pos q_1_0)
    refine lv_tableIn (off := 91) (tgt := 92) hx hb dX5_valueBy_1 (by rw [q_1_0]; decide) (by rw [q_1_0]; decide) (by rw [q_1_0]; rfl) (by decide) ?_
    refine lv_iload_n hx hb dX5_valueBy_92 rfl (lv_at hl 1 rfl) ?_
    refine pcS (As := [.int x1]) (rest := []) ⟨hx, hb, hml, hown, hts⟩ (c_X5_dayBy l D cI cZ cO x1) (va_cwS 1 hts gX5_valueBy_X5_dayBy rfl rfl rfl (by decide +kernel) ⟨Nat.le_of_ble_eq_true rfl, Nat.le_of_ble_eq_true rfl⟩) hKX hP [] rfl rfl hl.1 rfl (Nat.le_of_ble_eq_true rfl) dX5_valueBy_93 ⟨Nat.le_of_ble_eq_true rfl, Nat.le_of_ble_eq_true rfl⟩ ?_
    exact W.iret (v := f_X5_dayBy x1) hx hb hr (fun t ht hW => ⟨congrArg (fun z => Outcome.returned (some (Value.int z))) hf.symm, ht⟩) (fun _ h => absurd h List.not_mem_nil) dX5_valueBy_96
  · replace hf := hf.trans (if_neg q_1_0)
    by_cases q_1_1 : x0 = 101
    · replace hf := hf.trans (if_pos q_1_1)
      refine lv_tableIn (off := 134) (tgt := 135) hx hb dX5_valueBy_1 (by rw [q_1_1]; decide) (by rw [q_1_1]; decide) (by rw [q_1_1]; rfl) (by decide) ?_
      refine lv_iload_n hx hb dX5_valueBy_135 rfl (lv_at hl 1 rfl) ?_
      refine lv_bipush (v := 50) hx hb dX5_valueBy_136 (by decide) ?_
      refine lv_bipush (v := 57) hx hb dX5_valueBy_138 (by decide) ?_
      refine pcS (As := [.int x1, .int 50, .int 57]) (rest := []) ⟨hx, hb, hml, hown, hts⟩ (c_X5_figureBy l D cI cZ cO x1 50 57) (va_cwS 3 hts gX5_valueBy_X5_figureBy rfl rfl rfl (by decide +kernel) ⟨Nat.le_of_ble_eq_true rfl, Nat.le_of_ble_eq_true rfl⟩) hKX hP [] rfl rfl hl.1 rfl (Nat.le_of_ble_eq_true rfl) dX5_valueBy_140 ⟨Nat.le_of_ble_eq_true rfl, Nat.le_of_ble_eq_true rfl⟩ ?_
      exact W.iret (v := f_X5_figureBy x1 50 57) hx hb hr (fun t ht hW => ⟨congrArg (fun z => Outcome.returned (some (Value.int z))) hf.symm, ht⟩) (fun _ h => absurd h List.not_mem_nil) dX5_valueBy_143
    · replace hf := hf.trans (if_neg q_1_1)
      by_cases q_1_2 : x0 = 102
      · replace hf := hf.trans (if_pos q_1_2)
        refine lv_tableIn (off := 161) (tgt := 162) hx hb dX5_valueBy_1 (by rw [q_1_2]; decide) (by rw [q_1_2]; decide) (by rw [q_1_2]; rfl) (by decide) ?_
        refine lv_iload_n hx hb dX5_valueBy_162 rfl (lv_at hl 1 rfl) ?_
        refine lv_bipush (v := 48) hx hb dX5_valueBy_163 (by decide) ?_
        refine lv_bipush (v := 51) hx hb dX5_valueBy_165 (by decide) ?_
        refine pcS (As := [.int x1, .int 48, .int 51]) (rest := []) ⟨hx, hb, hml, hown, hts⟩ (c_X5_figureBy l D cI cZ cO x1 48 51) (va_cwS 3 hts gX5_valueBy_X5_figureBy rfl rfl rfl (by decide +kernel) ⟨Nat.le_of_ble_eq_true rfl, Nat.le_of_ble_eq_true rfl⟩) hKX hP [] rfl rfl hl.1 rfl (Nat.le_of_ble_eq_true rfl) dX5_valueBy_167 ⟨Nat.le_of_ble_eq_true rfl, Nat.le_of_ble_eq_true rfl⟩ ?_
        refine lv_istore_n (lv' := [(3, .int (f_X5_figureBy x1 48 51)), (0, .int x0), (1, .int x1), (2, .int x2)]) hx hb dX5_valueBy_170 rfl hl (by decide) rfl (fun ls hl => ?_)
        refine lv_iload_n hx hb dX5_valueBy_171 rfl (lv_at hl 0 rfl) ?_
        refine lv_iload_n hx hb dX5_valueBy_172 rfl (lv_at hl 3 rfl) ?_
        refine lv_icmp_ne (tgt := 180) hx hb dX5_valueBy_173 (by decide) (fun c_173 => ?_) (fun c_173 => ?_)
        · replace hf := hf.trans (if_pos c_173)
          refine lv_iload_n hx hb dX5_valueBy_180 rfl (lv_at hl 0 rfl) ?_
          exact W.iret (v := f_X5_figureBy x1 48 51) hx hb hr (fun t ht hW => ⟨congrArg (fun z => Outcome.returned (some (Value.int z))) hf.symm, ht⟩) (fun _ h => absurd h List.not_mem_nil) dX5_valueBy_181
        · replace hf := hf.trans (if_neg (fun h9 => h9 c_173))
          refine lv_iconst (v := (-1)) hx hb dX5_valueBy_176 (by decide) ?_
          refine lv_goto (tgt := 181) hx hb dX5_valueBy_177 (by decide) ?_
          exact W.iret (v := (-1)) hx hb hr (fun t ht hW => ⟨congrArg (fun z => Outcome.returned (some (Value.int z))) hf.symm, ht⟩) (fun _ h => absurd h List.not_mem_nil) dX5_valueBy_181
      · replace hf := hf.trans (if_neg q_1_2)
        by_cases q_1_3 : x0 = 103
        · replace hf := hf.trans (if_pos q_1_3)
          refine lv_tableIn (off := 161) (tgt := 162) hx hb dX5_valueBy_1 (by rw [q_1_3]; decide) (by rw [q_1_3]; decide) (by rw [q_1_3]; rfl) (by decide) ?_
          refine lv_iload_n hx hb dX5_valueBy_162 rfl (lv_at hl 1 rfl) ?_
          refine lv_bipush (v := 48) hx hb dX5_valueBy_163 (by decide) ?_
          refine lv_bipush (v := 51) hx hb dX5_valueBy_165 (by decide) ?_
          refine pcS (As := [.int x1, .int 48, .int 51]) (rest := []) ⟨hx, hb, hml, hown, hts⟩ (c_X5_figureBy l D cI cZ cO x1 48 51) (va_cwS 3 hts gX5_valueBy_X5_figureBy rfl rfl rfl (by decide +kernel) ⟨Nat.le_of_ble_eq_true rfl, Nat.le_of_ble_eq_true rfl⟩) hKX hP [] rfl rfl hl.1 rfl (Nat.le_of_ble_eq_true rfl) dX5_valueBy_167 ⟨Nat.le_of_ble_eq_true rfl, Nat.le_of_ble_eq_true rfl⟩ ?_
          refine lv_istore_n (lv' := [(3, .int (f_X5_figureBy x1 48 51)), (0, .int x0), (1, .int x1), (2, .int x2)]) hx hb dX5_valueBy_170 rfl hl (by decide) rfl (fun ls hl => ?_)
          refine lv_iload_n hx hb dX5_valueBy_171 rfl (lv_at hl 0 rfl) ?_
          refine lv_iload_n hx hb dX5_valueBy_172 rfl (lv_at hl 3 rfl) ?_
          refine lv_icmp_ne (tgt := 180) hx hb dX5_valueBy_173 (by decide) (fun c_173 => ?_) (fun c_173 => ?_)
          · replace hf := hf.trans (if_pos c_173)
            refine lv_iload_n hx hb dX5_valueBy_180 rfl (lv_at hl 0 rfl) ?_
            exact W.iret (v := f_X5_figureBy x1 48 51) hx hb hr (fun t ht hW => ⟨congrArg (fun z => Outcome.returned (some (Value.int z))) hf.symm, ht⟩) (fun _ h => absurd h List.not_mem_nil) dX5_valueBy_181
          · replace hf := hf.trans (if_neg (fun h9 => h9 c_173))
            refine lv_iconst (v := (-1)) hx hb dX5_valueBy_176 (by decide) ?_
            refine lv_goto (tgt := 181) hx hb dX5_valueBy_177 (by decide) ?_
            exact W.iret (v := (-1)) hx hb hr (fun t ht hW => ⟨congrArg (fun z => Outcome.returned (some (Value.int z))) hf.symm, ht⟩) (fun _ h => absurd h List.not_mem_nil) dX5_valueBy_181
        · replace hf := hf.trans (if_neg q_1_3)
          by_cases q_1_4 : x0 = 104
          · replace hf := hf.trans (if_pos q_1_4)
            refine lv_tableIn (off := 161) (tgt := 162) hx hb dX5_valueBy_1 (by rw [q_1_4]; decide) (by rw [q_1_4]; decide) (by rw [q_1_4]; rfl) (by decide) ?_
            refine lv_iload_n hx hb dX5_valueBy_162 rfl (lv_at hl 1 rfl) ?_
            refine lv_bipush (v := 48) hx hb dX5_valueBy_163 (by decide) ?_
            refine lv_bipush (v := 51) hx hb dX5_valueBy_165 (by decide) ?_
            refine pcS (As := [.int x1, .int 48, .int 51]) (rest := []) ⟨hx, hb, hml, hown, hts⟩ (c_X5_figureBy l D cI cZ cO x1 48 51) (va_cwS 3 hts gX5_valueBy_X5_figureBy rfl rfl rfl (by decide +kernel) ⟨Nat.le_of_ble_eq_true rfl, Nat.le_of_ble_eq_true rfl⟩) hKX hP [] rfl rfl hl.1 rfl (Nat.le_of_ble_eq_true rfl) dX5_valueBy_167 ⟨Nat.le_of_ble_eq_true rfl, Nat.le_of_ble_eq_true rfl⟩ ?_
            refine lv_istore_n (lv' := [(3, .int (f_X5_figureBy x1 48 51)), (0, .int x0), (1, .int x1), (2, .int x2)]) hx hb dX5_valueBy_170 rfl hl (by decide) rfl (fun ls hl => ?_)
            refine lv_iload_n hx hb dX5_valueBy_171 rfl (lv_at hl 0 rfl) ?_
            refine lv_iload_n hx hb dX5_valueBy_172 rfl (lv_at hl 3 rfl) ?_
            refine lv_icmp_ne (tgt := 180) hx hb dX5_valueBy_173 (by decide) (fun c_173 => ?_) (fun c_173 => ?_)
            · replace hf := hf.trans (if_pos c_173)
              refine lv_iload_n hx hb dX5_valueBy_180 rfl (lv_at hl 0 rfl) ?_
              exact W.iret (v := f_X5_figureBy x1 48 51) hx hb hr (fun t ht hW => ⟨congrArg (fun z => Outcome.returned (some (Value.int z))) hf.symm, ht⟩) (fun _ h => absurd h List.not_mem_nil) dX5_valueBy_181
            · replace hf := hf.trans (if_neg (fun h9 => h9 c_173))
              refine lv_iconst (v := (-1)) hx hb dX5_valueBy_176 (by decide) ?_
              refine lv_goto (tgt := 181) hx hb dX5_valueBy_177 (by decide) ?_
              exact W.iret (v := (-1)) hx hb hr (fun t ht hW => ⟨congrArg (fun z => Outcome.returned (some (Value.int z))) hf.symm, ht⟩) (fun _ h => absurd h List.not_mem_nil) dX5_valueBy_181
          · replace hf := hf.trans (if_neg q_1_4)
            by_cases q_1_5 : x0 = 105
            · replace hf := hf.trans (if_pos q_1_5)
              refine lv_tableIn (off := 161) (tgt := 162) hx hb dX5_valueBy_1 (by rw [q_1_5]; decide) (by rw [q_1_5]; decide) (by rw [q_1_5]; rfl) (by decide) ?_
              refine lv_iload_n hx hb dX5_valueBy_162 rfl (lv_at hl 1 rfl) ?_
              refine lv_bipush (v := 48) hx hb dX5_valueBy_163 (by decide) ?_
              refine lv_bipush (v := 51) hx hb dX5_valueBy_165 (by decide) ?_
              refine pcS (As := [.int x1, .int 48, .int 51]) (rest := []) ⟨hx, hb, hml, hown, hts⟩ (c_X5_figureBy l D cI cZ cO x1 48 51) (va_cwS 3 hts gX5_valueBy_X5_figureBy rfl rfl rfl (by decide +kernel) ⟨Nat.le_of_ble_eq_true rfl, Nat.le_of_ble_eq_true rfl⟩) hKX hP [] rfl rfl hl.1 rfl (Nat.le_of_ble_eq_true rfl) dX5_valueBy_167 ⟨Nat.le_of_ble_eq_true rfl, Nat.le_of_ble_eq_true rfl⟩ ?_
              refine lv_istore_n (lv' := [(3, .int (f_X5_figureBy x1 48 51)), (0, .int x0), (1, .int x1), (2, .int x2)]) hx hb dX5_valueBy_170 rfl hl (by decide) rfl (fun ls hl => ?_)
              refine lv_iload_n hx hb dX5_valueBy_171 rfl (lv_at hl 0 rfl) ?_
              refine lv_iload_n hx hb dX5_valueBy_172 rfl (lv_at hl 3 rfl) ?_
              refine lv_icmp_ne (tgt := 180) hx hb dX5_valueBy_173 (by decide) (fun c_173 => ?_) (fun c_173 => ?_)
              · replace hf := hf.trans (if_pos c_173)
                refine lv_iload_n hx hb dX5_valueBy_180 rfl (lv_at hl 0 rfl) ?_
                exact W.iret (v := f_X5_figureBy x1 48 51) hx hb hr (fun t ht hW => ⟨congrArg (fun z => Outcome.returned (some (Value.int z))) hf.symm, ht⟩) (fun _ h => absurd h List.not_mem_nil) dX5_valueBy_181
              · replace hf := hf.trans (if_neg (fun h9 => h9 c_173))
                refine lv_iconst (v := (-1)) hx hb dX5_valueBy_176 (by decide) ?_
                refine lv_goto (tgt := 181) hx hb dX5_valueBy_177 (by decide) ?_
                exact W.iret (v := (-1)) hx hb hr (fun t ht hW => ⟨congrArg (fun z => Outcome.returned (some (Value.int z))) hf.symm, ht⟩) (fun _ h => absurd h List.not_mem_nil) dX5_valueBy_181
            · replace hf := hf.trans (if_neg q_1_5)
              by_cases q_1_6 : x0 = 106
              · replace hf := hf.trans (if_pos q_1_6)
                refine lv_tableIn (off := 161) (tgt := 162) hx hb dX5_valueBy_1 (by rw [q_1_6]; decide) (by rw [q_1_6]; decide) (by rw [q_1_6]; rfl) (by decide) ?_
                refine lv_iload_n hx hb dX5_valueBy_162 rfl (lv_at hl 1 rfl) ?_
                refine lv_bipush (v := 48) hx hb dX5_valueBy_163 (by decide) ?_
                refine lv_bipush (v := 51) hx hb dX5_valueBy_165 (by decide) ?_
                refine pcS (As := [.int x1, .int 48, .int 51]) (rest := []) ⟨hx, hb, hml, hown, hts⟩ (c_X5_figureBy l D cI cZ cO x1 48 51) (va_cwS 3 hts gX5_valueBy_X5_figureBy rfl rfl rfl (by decide +kernel) ⟨Nat.le_of_ble_eq_true rfl, Nat.le_of_ble_eq_true rfl⟩) hKX hP [] rfl rfl hl.1 rfl (Nat.le_of_ble_eq_true rfl) dX5_valueBy_167 ⟨Nat.le_of_ble_eq_true rfl, Nat.le_of_ble_eq_true rfl⟩ ?_
                refine lv_istore_n (lv' := [(3, .int (f_X5_figureBy x1 48 51)), (0, .int x0), (1, .int x1), (2, .int x2)]) hx hb dX5_valueBy_170 rfl hl (by decide) rfl (fun ls hl => ?_)
                refine lv_iload_n hx hb dX5_valueBy_171 rfl (lv_at hl 0 rfl) ?_
                refine lv_iload_n hx hb dX5_valueBy_172 rfl (lv_at hl 3 rfl) ?_
                refine lv_icmp_ne (tgt := 180) hx hb dX5_valueBy_173 (by decide) (fun c_173 => ?_) (fun c_173 => ?_)
                · replace hf := hf.trans (if_pos c_173)
                  refine lv_iload_n hx hb dX5_valueBy_180 rfl (lv_at hl 0 rfl) ?_
                  exact W.iret (v := f_X5_figureBy x1 48 51) hx hb hr (fun t ht hW => ⟨congrArg (fun z => Outcome.returned (some (Value.int z))) hf.symm, ht⟩) (fun _ h => absurd h List.not_mem_nil) dX5_valueBy_181
                · replace hf := hf.trans (if_neg (fun h9 => h9 c_173))
                  refine lv_iconst (v := (-1)) hx hb dX5_valueBy_176 (by decide) ?_
                  refine lv_goto (tgt := 181) hx hb dX5_valueBy_177 (by decide) ?_
                  exact W.iret (v := (-1)) hx hb hr (fun t ht hW => ⟨congrArg (fun z => Outcome.returned (some (Value.int z))) hf.symm, ht⟩) (fun _ h => absurd h List.not_mem_nil) dX5_valueBy_181
              · replace hf := hf.trans (if_neg q_1_6)
                by_cases q_1_7 : x0 = 107
                · replace hf := hf.trans (if_pos q_1_7)
                  refine lv_tableIn (off := 96) (tgt := 97) hx hb dX5_valueBy_1 (by rw [q_1_7]; decide) (by rw [q_1_7]; decide) (by rw [q_1_7]; rfl) (by decide) ?_
                  refine lv_iload_n hx hb dX5_valueBy_97 rfl (lv_at hl 1 rfl) ?_
                  refine lv_bipush (v := 48) hx hb dX5_valueBy_98 (by decide) ?_
                  refine lv_bipush (v := 49) hx hb dX5_valueBy_100 (by decide) ?_
                  refine pcS (As := [.int x1, .int 48, .int 49]) (rest := []) ⟨hx, hb, hml, hown, hts⟩ (c_X5_figureBy l D cI cZ cO x1 48 49) (va_cwS 3 hts gX5_valueBy_X5_figureBy rfl rfl rfl (by decide +kernel) ⟨Nat.le_of_ble_eq_true rfl, Nat.le_of_ble_eq_true rfl⟩) hKX hP [] rfl rfl hl.1 rfl (Nat.le_of_ble_eq_true rfl) dX5_valueBy_102 ⟨Nat.le_of_ble_eq_true rfl, Nat.le_of_ble_eq_true rfl⟩ ?_
                  exact W.iret (v := f_X5_figureBy x1 48 49) hx hb hr (fun t ht hW => ⟨congrArg (fun z => Outcome.returned (some (Value.int z))) hf.symm, ht⟩) (fun _ h => absurd h List.not_mem_nil) dX5_valueBy_105
                · replace hf := hf.trans (if_neg q_1_7)
                  by_cases q_1_8 : x0 = 108
                  · replace hf := hf.trans (if_pos q_1_8)
                    refine lv_tableIn (off := 161) (tgt := 162) hx hb dX5_valueBy_1 (by rw [q_1_8]; decide) (by rw [q_1_8]; decide) (by rw [q_1_8]; rfl) (by decide) ?_
                    refine lv_iload_n hx hb dX5_valueBy_162 rfl (lv_at hl 1 rfl) ?_
                    refine lv_bipush (v := 48) hx hb dX5_valueBy_163 (by decide) ?_
                    refine lv_bipush (v := 51) hx hb dX5_valueBy_165 (by decide) ?_
                    refine pcS (As := [.int x1, .int 48, .int 51]) (rest := []) ⟨hx, hb, hml, hown, hts⟩ (c_X5_figureBy l D cI cZ cO x1 48 51) (va_cwS 3 hts gX5_valueBy_X5_figureBy rfl rfl rfl (by decide +kernel) ⟨Nat.le_of_ble_eq_true rfl, Nat.le_of_ble_eq_true rfl⟩) hKX hP [] rfl rfl hl.1 rfl (Nat.le_of_ble_eq_true rfl) dX5_valueBy_167 ⟨Nat.le_of_ble_eq_true rfl, Nat.le_of_ble_eq_true rfl⟩ ?_
                    refine lv_istore_n (lv' := [(3, .int (f_X5_figureBy x1 48 51)), (0, .int x0), (1, .int x1), (2, .int x2)]) hx hb dX5_valueBy_170 rfl hl (by decide) rfl (fun ls hl => ?_)
                    refine lv_iload_n hx hb dX5_valueBy_171 rfl (lv_at hl 0 rfl) ?_
                    refine lv_iload_n hx hb dX5_valueBy_172 rfl (lv_at hl 3 rfl) ?_
                    refine lv_icmp_ne (tgt := 180) hx hb dX5_valueBy_173 (by decide) (fun c_173 => ?_) (fun c_173 => ?_)
                    · replace hf := hf.trans (if_pos c_173)
                      refine lv_iload_n hx hb dX5_valueBy_180 rfl (lv_at hl 0 rfl) ?_
                      exact W.iret (v := f_X5_figureBy x1 48 51) hx hb hr (fun t ht hW => ⟨congrArg (fun z => Outcome.returned (some (Value.int z))) hf.symm, ht⟩) (fun _ h => absurd h List.not_mem_nil) dX5_valueBy_181
                    · replace hf := hf.trans (if_neg (fun h9 => h9 c_173))
                      refine lv_iconst (v := (-1)) hx hb dX5_valueBy_176 (by decide) ?_
                      refine lv_goto (tgt := 181) hx hb dX5_valueBy_177 (by decide) ?_
                      exact W.iret (v := (-1)) hx hb hr (fun t ht hW => ⟨congrArg (fun z => Outcome.returned (some (Value.int z))) hf.symm, ht⟩) (fun _ h => absurd h List.not_mem_nil) dX5_valueBy_181
                  · replace hf := hf.trans (if_neg q_1_8)
                    by_cases q_1_9 : x0 = 109
                    · replace hf := hf.trans (if_pos q_1_9)
                      refine lv_tableIn (off := 161) (tgt := 162) hx hb dX5_valueBy_1 (by rw [q_1_9]; decide) (by rw [q_1_9]; decide) (by rw [q_1_9]; rfl) (by decide) ?_
                      refine lv_iload_n hx hb dX5_valueBy_162 rfl (lv_at hl 1 rfl) ?_
                      refine lv_bipush (v := 48) hx hb dX5_valueBy_163 (by decide) ?_
                      refine lv_bipush (v := 51) hx hb dX5_valueBy_165 (by decide) ?_
                      refine pcS (As := [.int x1, .int 48, .int 51]) (rest := []) ⟨hx, hb, hml, hown, hts⟩ (c_X5_figureBy l D cI cZ cO x1 48 51) (va_cwS 3 hts gX5_valueBy_X5_figureBy rfl rfl rfl (by decide +kernel) ⟨Nat.le_of_ble_eq_true rfl, Nat.le_of_ble_eq_true rfl⟩) hKX hP [] rfl rfl hl.1 rfl (Nat.le_of_ble_eq_true rfl) dX5_valueBy_167 ⟨Nat.le_of_ble_eq_true rfl, Nat.le_of_ble_eq_true rfl⟩ ?_
                      refine lv_istore_n (lv' := [(3, .int (f_X5_figureBy x1 48 51)), (0, .int x0), (1, .int x1), (2, .int x2)]) hx hb dX5_valueBy_170 rfl hl (by decide) rfl (fun ls hl => ?_)
                      refine lv_iload_n hx hb dX5_valueBy_171 rfl (lv_at hl 0 rfl) ?_
                      refine lv_iload_n hx hb dX5_valueBy_172 rfl (lv_at hl 3 rfl) ?_
                      refine lv_icmp_ne (tgt := 180) hx hb dX5_valueBy_173 (by decide) (fun c_173 => ?_) (fun c_173 => ?_)
                      · replace hf := hf.trans (if_pos c_173)
                        refine lv_iload_n hx hb dX5_valueBy_180 rfl (lv_at hl 0 rfl) ?_
                        exact W.iret (v := f_X5_figureBy x1 48 51) hx hb hr (fun t ht hW => ⟨congrArg (fun z => Outcome.returned (some (Value.int z))) hf.symm, ht⟩) (fun _ h => absurd h List.not_mem_nil) dX5_valueBy_181
                      · replace hf := hf.trans (if_neg (fun h9 => h9 c_173))
                        refine lv_iconst (v := (-1)) hx hb dX5_valueBy_176 (by decide) ?_
                        refine lv_goto (tgt := 181) hx hb dX5_valueBy_177 (by decide) ?_
                        exact W.iret (v := (-1)) hx hb hr (fun t ht hW => ⟨congrArg (fun z => Outcome.returned (some (Value.int z))) hf.symm, ht⟩) (fun _ h => absurd h List.not_mem_nil) dX5_valueBy_181
                    · replace hf := hf.trans (if_neg q_1_9)
                      by_cases q_1_10 : x0 = 110
                      · replace hf := hf.trans (if_pos q_1_10)
                        refine lv_tableIn (off := 125) (tgt := 126) hx hb dX5_valueBy_1 (by rw [q_1_10]; decide) (by rw [q_1_10]; decide) (by rw [q_1_10]; rfl) (by decide) ?_
                        refine lv_iload_n hx hb dX5_valueBy_126 rfl (lv_at hl 1 rfl) ?_
                        refine lv_bipush (v := 48) hx hb dX5_valueBy_127 (by decide) ?_
                        refine lv_bipush (v := 57) hx hb dX5_valueBy_129 (by decide) ?_
                        refine pcS (As := [.int x1, .int 48, .int 57]) (rest := []) ⟨hx, hb, hml, hown, hts⟩ (c_X5_figureBy l D cI cZ cO x1 48 57) (va_cwS 3 hts gX5_valueBy_X5_figureBy rfl rfl rfl (by decide +kernel) ⟨Nat.le_of_ble_eq_true rfl, Nat.le_of_ble_eq_true rfl⟩) hKX hP [] rfl rfl hl.1 rfl (Nat.le_of_ble_eq_true rfl) dX5_valueBy_131 ⟨Nat.le_of_ble_eq_true rfl, Nat.le_of_ble_eq_true rfl⟩ ?_
                        exact W.iret (v := f_X5_figureBy x1 48 57) hx hb hr (fun t ht hW => ⟨congrArg (fun z => Outcome.returned (some (Value.int z))) hf.symm, ht⟩) (fun _ h => absurd h List.not_mem_nil) dX5_valueBy_134
                      · replace hf := hf.trans (if_neg q_1_10)
                        by_cases q_1_11 : x0 = 111
                        · replace hf := hf.trans (if_pos q_1_11)
                          refine lv_tableIn (off := 143) (tgt := 144) hx hb dX5_valueBy_1 (by rw [q_1_11]; decide) (by rw [q_1_11]; decide) (by rw [q_1_11]; rfl) (by decide) ?_
                          refine lv_iload_n hx hb dX5_valueBy_144 rfl (lv_at hl 1 rfl) ?_
                          refine lv_bipush (v := 49) hx hb dX5_valueBy_145 (by decide) ?_
                          refine lv_bipush (v := 57) hx hb dX5_valueBy_147 (by decide) ?_
                          refine pcS (As := [.int x1, .int 49, .int 57]) (rest := []) ⟨hx, hb, hml, hown, hts⟩ (c_X5_figureBy l D cI cZ cO x1 49 57) (va_cwS 3 hts gX5_valueBy_X5_figureBy rfl rfl rfl (by decide +kernel) ⟨Nat.le_of_ble_eq_true rfl, Nat.le_of_ble_eq_true rfl⟩) hKX hP [] rfl rfl hl.1 rfl (Nat.le_of_ble_eq_true rfl) dX5_valueBy_149 ⟨Nat.le_of_ble_eq_true rfl, Nat.le_of_ble_eq_true rfl⟩ ?_
                          exact W.iret (v := f_X5_figureBy x1 49 57) hx hb hr (fun t ht hW => ⟨congrArg (fun z => Outcome.returned (some (Value.int z))) hf.symm, ht⟩) (fun _ h => absurd h List.not_mem_nil) dX5_valueBy_152
                        · replace hf := hf.trans (if_neg q_1_11)
                          by_cases q_1_12 : x0 = 112
                          · replace hf := hf.trans (if_pos q_1_12)
                            refine lv_tableIn (off := 152) (tgt := 153) hx hb dX5_valueBy_1 (by rw [q_1_12]; decide) (by rw [q_1_12]; decide) (by rw [q_1_12]; rfl) (by decide) ?_
                            refine lv_iload_n hx hb dX5_valueBy_153 rfl (lv_at hl 1 rfl) ?_
                            refine lv_bipush (v := 48) hx hb dX5_valueBy_154 (by decide) ?_
                            refine lv_bipush (v := 51) hx hb dX5_valueBy_156 (by decide) ?_
                            refine pcS (As := [.int x1, .int 48, .int 51]) (rest := []) ⟨hx, hb, hml, hown, hts⟩ (c_X5_figureBy l D cI cZ cO x1 48 51) (va_cwS 3 hts gX5_valueBy_X5_figureBy rfl rfl rfl (by decide +kernel) ⟨Nat.le_of_ble_eq_true rfl, Nat.le_of_ble_eq_true rfl⟩) hKX hP [] rfl rfl hl.1 rfl (Nat.le_of_ble_eq_true rfl) dX5_valueBy_158 ⟨Nat.le_of_ble_eq_true rfl, Nat.le_of_ble_eq_true rfl⟩ ?_
                            exact W.iret (v := f_X5_figureBy x1 48 51) hx hb hr (fun t ht hW => ⟨congrArg (fun z => Outcome.returned (some (Value.int z))) hf.symm, ht⟩) (fun _ h => absurd h List.not_mem_nil) dX5_valueBy_161
                          · replace hf := hf.trans (if_neg q_1_12)
                            by_cases q_1_13 : x0 = 113
                            · replace hf := hf.trans (if_pos q_1_13)
                              refine lv_tableIn (off := 161) (tgt := 162) hx hb dX5_valueBy_1 (by rw [q_1_13]; decide) (by rw [q_1_13]; decide) (by rw [q_1_13]; rfl) (by decide) ?_
                              refine lv_iload_n hx hb dX5_valueBy_162 rfl (lv_at hl 1 rfl) ?_
                              refine lv_bipush (v := 48) hx hb dX5_valueBy_163 (by decide) ?_
                              refine lv_bipush (v := 51) hx hb dX5_valueBy_165 (by decide) ?_
                              refine pcS (As := [.int x1, .int 48, .int 51]) (rest := []) ⟨hx, hb, hml, hown, hts⟩ (c_X5_figureBy l D cI cZ cO x1 48 51) (va_cwS 3 hts gX5_valueBy_X5_figureBy rfl rfl rfl (by decide +kernel) ⟨Nat.le_of_ble_eq_true rfl, Nat.le_of_ble_eq_true rfl⟩) hKX hP [] rfl rfl hl.1 rfl (Nat.le_of_ble_eq_true rfl) dX5_valueBy_167 ⟨Nat.le_of_ble_eq_true rfl, Nat.le_of_ble_eq_true rfl⟩ ?_
                              refine lv_istore_n (lv' := [(3, .int (f_X5_figureBy x1 48 51)), (0, .int x0), (1, .int x1), (2, .int x2)]) hx hb dX5_valueBy_170 rfl hl (by decide) rfl (fun ls hl => ?_)
                              refine lv_iload_n hx hb dX5_valueBy_171 rfl (lv_at hl 0 rfl) ?_
                              refine lv_iload_n hx hb dX5_valueBy_172 rfl (lv_at hl 3 rfl) ?_
                              refine lv_icmp_ne (tgt := 180) hx hb dX5_valueBy_173 (by decide) (fun c_173 => ?_) (fun c_173 => ?_)
                              · replace hf := hf.trans (if_pos c_173)
                                refine lv_iload_n hx hb dX5_valueBy_180 rfl (lv_at hl 0 rfl) ?_
                                exact W.iret (v := f_X5_figureBy x1 48 51) hx hb hr (fun t ht hW => ⟨congrArg (fun z => Outcome.returned (some (Value.int z))) hf.symm, ht⟩) (fun _ h => absurd h List.not_mem_nil) dX5_valueBy_181
                              · replace hf := hf.trans (if_neg (fun h9 => h9 c_173))
                                refine lv_iconst (v := (-1)) hx hb dX5_valueBy_176 (by decide) ?_
                                refine lv_goto (tgt := 181) hx hb dX5_valueBy_177 (by decide) ?_
                                exact W.iret (v := (-1)) hx hb hr (fun t ht hW => ⟨congrArg (fun z => Outcome.returned (some (Value.int z))) hf.symm, ht⟩) (fun _ h => absurd h List.not_mem_nil) dX5_valueBy_181
                            · replace hf := hf.trans (if_neg q_1_13)
                              by_cases q_1_14 : x0 = 114
                              · replace hf := hf.trans (if_pos q_1_14)
                                refine lv_tableIn (off := 161) (tgt := 162) hx hb dX5_valueBy_1 (by rw [q_1_14]; decide) (by rw [q_1_14]; decide) (by rw [q_1_14]; rfl) (by decide) ?_
                                refine lv_iload_n hx hb dX5_valueBy_162 rfl (lv_at hl 1 rfl) ?_
                                refine lv_bipush (v := 48) hx hb dX5_valueBy_163 (by decide) ?_
                                refine lv_bipush (v := 51) hx hb dX5_valueBy_165 (by decide) ?_
                                refine pcS (As := [.int x1, .int 48, .int 51]) (rest := []) ⟨hx, hb, hml, hown, hts⟩ (c_X5_figureBy l D cI cZ cO x1 48 51) (va_cwS 3 hts gX5_valueBy_X5_figureBy rfl rfl rfl (by decide +kernel) ⟨Nat.le_of_ble_eq_true rfl, Nat.le_of_ble_eq_true rfl⟩) hKX hP [] rfl rfl hl.1 rfl (Nat.le_of_ble_eq_true rfl) dX5_valueBy_167 ⟨Nat.le_of_ble_eq_true rfl, Nat.le_of_ble_eq_true rfl⟩ ?_
                                refine lv_istore_n (lv' := [(3, .int (f_X5_figureBy x1 48 51)), (0, .int x0), (1, .int x1), (2, .int x2)]) hx hb dX5_valueBy_170 rfl hl (by decide) rfl (fun ls hl => ?_)
                                refine lv_iload_n hx hb dX5_valueBy_171 rfl (lv_at hl 0 rfl) ?_
                                refine lv_iload_n hx hb dX5_valueBy_172 rfl (lv_at hl 3 rfl) ?_
                                refine lv_icmp_ne (tgt := 180) hx hb dX5_valueBy_173 (by decide) (fun c_173 => ?_) (fun c_173 => ?_)
                                · replace hf := hf.trans (if_pos c_173)
                                  refine lv_iload_n hx hb dX5_valueBy_180 rfl (lv_at hl 0 rfl) ?_
                                  exact W.iret (v := f_X5_figureBy x1 48 51) hx hb hr (fun t ht hW => ⟨congrArg (fun z => Outcome.returned (some (Value.int z))) hf.symm, ht⟩) (fun _ h => absurd h List.not_mem_nil) dX5_valueBy_181
                                · replace hf := hf.trans (if_neg (fun h9 => h9 c_173))
                                  refine lv_iconst (v := (-1)) hx hb dX5_valueBy_176 (by decide) ?_
                                  refine lv_goto (tgt := 181) hx hb dX5_valueBy_177 (by decide) ?_
                                  exact W.iret (v := (-1)) hx hb hr (fun t ht hW => ⟨congrArg (fun z => Outcome.returned (some (Value.int z))) hf.symm, ht⟩) (fun _ h => absurd h List.not_mem_nil) dX5_valueBy_181
                              · replace hf := hf.trans (if_neg q_1_14)
                                by_cases q_1_15 : x0 = 115
                                · replace hf := hf.trans (if_pos q_1_15)
                                  refine lv_tableIn (off := 161) (tgt := 162) hx hb dX5_valueBy_1 (by rw [q_1_15]; decide) (by rw [q_1_15]; decide) (by rw [q_1_15]; rfl) (by decide) ?_
                                  refine lv_iload_n hx hb dX5_valueBy_162 rfl (lv_at hl 1 rfl) ?_
                                  refine lv_bipush (v := 48) hx hb dX5_valueBy_163 (by decide) ?_
                                  refine lv_bipush (v := 51) hx hb dX5_valueBy_165 (by decide) ?_
                                  refine pcS (As := [.int x1, .int 48, .int 51]) (rest := []) ⟨hx, hb, hml, hown, hts⟩ (c_X5_figureBy l D cI cZ cO x1 48 51) (va_cwS 3 hts gX5_valueBy_X5_figureBy rfl rfl rfl (by decide +kernel) ⟨Nat.le_of_ble_eq_true rfl, Nat.le_of_ble_eq_true rfl⟩) hKX hP [] rfl rfl hl.1 rfl (Nat.le_of_ble_eq_true rfl) dX5_valueBy_167 ⟨Nat.le_of_ble_eq_true rfl, Nat.le_of_ble_eq_true rfl⟩ ?_
                                  refine lv_istore_n (lv' := [(3, .int (f_X5_figureBy x1 48 51)), (0, .int x0), (1, .int x1), (2, .int x2)]) hx hb dX5_valueBy_170 rfl hl (by decide) rfl (fun ls hl => ?_)
                                  refine lv_iload_n hx hb dX5_valueBy_171 rfl (lv_at hl 0 rfl) ?_
                                  refine lv_iload_n hx hb dX5_valueBy_172 rfl (lv_at hl 3 rfl) ?_
                                  refine lv_icmp_ne (tgt := 180) hx hb dX5_valueBy_173 (by decide) (fun c_173 => ?_) (fun c_173 => ?_)
                                  · replace hf := hf.trans (if_pos c_173)
                                    refine lv_iload_n hx hb dX5_valueBy_180 rfl (lv_at hl 0 rfl) ?_
                                    exact W.iret (v := f_X5_figureBy x1 48 51) hx hb hr (fun t ht hW => ⟨congrArg (fun z => Outcome.returned (some (Value.int z))) hf.symm, ht⟩) (fun _ h => absurd h List.not_mem_nil) dX5_valueBy_181
                                  · replace hf := hf.trans (if_neg (fun h9 => h9 c_173))
                                    refine lv_iconst (v := (-1)) hx hb dX5_valueBy_176 (by decide) ?_
                                    refine lv_goto (tgt := 181) hx hb dX5_valueBy_177 (by decide) ?_
                                    exact W.iret (v := (-1)) hx hb hr (fun t ht hW => ⟨congrArg (fun z => Outcome.returned (some (Value.int z))) hf.symm, ht⟩) (fun _ h => absurd h List.not_mem_nil) dX5_valueBy_181
                                · replace hf := hf.trans (if_neg q_1_15)
                                  by_cases q_1_16 : x0 = 116
                                  · replace hf := hf.trans (if_pos q_1_16)
                                    refine lv_tableIn (off := 161) (tgt := 162) hx hb dX5_valueBy_1 (by rw [q_1_16]; decide) (by rw [q_1_16]; decide) (by rw [q_1_16]; rfl) (by decide) ?_
                                    refine lv_iload_n hx hb dX5_valueBy_162 rfl (lv_at hl 1 rfl) ?_
                                    refine lv_bipush (v := 48) hx hb dX5_valueBy_163 (by decide) ?_
                                    refine lv_bipush (v := 51) hx hb dX5_valueBy_165 (by decide) ?_
                                    refine pcS (As := [.int x1, .int 48, .int 51]) (rest := []) ⟨hx, hb, hml, hown, hts⟩ (c_X5_figureBy l D cI cZ cO x1 48 51) (va_cwS 3 hts gX5_valueBy_X5_figureBy rfl rfl rfl (by decide +kernel) ⟨Nat.le_of_ble_eq_true rfl, Nat.le_of_ble_eq_true rfl⟩) hKX hP [] rfl rfl hl.1 rfl (Nat.le_of_ble_eq_true rfl) dX5_valueBy_167 ⟨Nat.le_of_ble_eq_true rfl, Nat.le_of_ble_eq_true rfl⟩ ?_
                                    refine lv_istore_n (lv' := [(3, .int (f_X5_figureBy x1 48 51)), (0, .int x0), (1, .int x1), (2, .int x2)]) hx hb dX5_valueBy_170 rfl hl (by decide) rfl (fun ls hl => ?_)
                                    refine lv_iload_n hx hb dX5_valueBy_171 rfl (lv_at hl 0 rfl) ?_
                                    refine lv_iload_n hx hb dX5_valueBy_172 rfl (lv_at hl 3 rfl) ?_
                                    refine lv_icmp_ne (tgt := 180) hx hb dX5_valueBy_173 (by decide) (fun c_173 => ?_) (fun c_173 => ?_)
                                    · replace hf := hf.trans (if_pos c_173)
                                      refine lv_iload_n hx hb dX5_valueBy_180 rfl (lv_at hl 0 rfl) ?_
                                      exact W.iret (v := f_X5_figureBy x1 48 51) hx hb hr (fun t ht hW => ⟨congrArg (fun z => Outcome.returned (some (Value.int z))) hf.symm, ht⟩) (fun _ h => absurd h List.not_mem_nil) dX5_valueBy_181
                                    · replace hf := hf.trans (if_neg (fun h9 => h9 c_173))
                                      refine lv_iconst (v := (-1)) hx hb dX5_valueBy_176 (by decide) ?_
                                      refine lv_goto (tgt := 181) hx hb dX5_valueBy_177 (by decide) ?_
                                      exact W.iret (v := (-1)) hx hb hr (fun t ht hW => ⟨congrArg (fun z => Outcome.returned (some (Value.int z))) hf.symm, ht⟩) (fun _ h => absurd h List.not_mem_nil) dX5_valueBy_181
                                  · replace hf := hf.trans (if_neg q_1_16)
                                    by_cases q_1_17 : x0 = 117
                                    · replace hf := hf.trans (if_pos q_1_17)
                                      refine lv_tableIn (off := 161) (tgt := 162) hx hb dX5_valueBy_1 (by rw [q_1_17]; decide) (by rw [q_1_17]; decide) (by rw [q_1_17]; rfl) (by decide) ?_
                                      refine lv_iload_n hx hb dX5_valueBy_162 rfl (lv_at hl 1 rfl) ?_
                                      refine lv_bipush (v := 48) hx hb dX5_valueBy_163 (by decide) ?_
                                      refine lv_bipush (v := 51) hx hb dX5_valueBy_165 (by decide) ?_
                                      refine pcS (As := [.int x1, .int 48, .int 51]) (rest := []) ⟨hx, hb, hml, hown, hts⟩ (c_X5_figureBy l D cI cZ cO x1 48 51) (va_cwS 3 hts gX5_valueBy_X5_figureBy rfl rfl rfl (by decide +kernel) ⟨Nat.le_of_ble_eq_true rfl, Nat.le_of_ble_eq_true rfl⟩) hKX hP [] rfl rfl hl.1 rfl (Nat.le_of_ble_eq_true rfl) dX5_valueBy_167 ⟨Nat.le_of_ble_eq_true rfl, Nat.le_of_ble_eq_true rfl⟩ ?_
                                      refine lv_istore_n (lv' := [(3, .int (f_X5_figureBy x1 48 51)), (0, .int x0), (1, .int x1), (2, .int x2)]) hx hb dX5_valueBy_170 rfl hl (by decide) rfl (fun ls hl => ?_)
                                      refine lv_iload_n hx hb dX5_valueBy_171 rfl (lv_at hl 0 rfl) ?_
                                      refine lv_iload_n hx hb dX5_valueBy_172 rfl (lv_at hl 3 rfl) ?_
                                      refine lv_icmp_ne (tgt := 180) hx hb dX5_valueBy_173 (by decide) (fun c_173 => ?_) (fun c_173 => ?_)
                                      · replace hf := hf.trans (if_pos c_173)
                                        refine lv_iload_n hx hb dX5_valueBy_180 rfl (lv_at hl 0 rfl) ?_
                                        exact W.iret (v := f_X5_figureBy x1 48 51) hx hb hr (fun t ht hW => ⟨congrArg (fun z => Outcome.returned (some (Value.int z))) hf.symm, ht⟩) (fun _ h => absurd h List.not_mem_nil) dX5_valueBy_181
                                      · replace hf := hf.trans (if_neg (fun h9 => h9 c_173))
                                        refine lv_iconst (v := (-1)) hx hb dX5_valueBy_176 (by decide) ?_
                                        refine lv_goto (tgt := 181) hx hb dX5_valueBy_177 (by decide) ?_
                                        exact W.iret (v := (-1)) hx hb hr (fun t ht hW => ⟨congrArg (fun z => Outcome.returned (some (Value.int z))) hf.symm, ht⟩) (fun _ h => absurd h List.not_mem_nil) dX5_valueBy_181
                                    · replace hf := hf.trans (if_neg q_1_17)
                                      by_cases q_1_18 : x0 = 118
                                      · replace hf := hf.trans (if_pos q_1_18)
                                        refine lv_tableIn (off := 105) (tgt := 106) hx hb dX5_valueBy_1 (by rw [q_1_18]; decide) (by rw [q_1_18]; decide) (by rw [q_1_18]; rfl) (by decide) ?_
                                        refine lv_iload_n hx hb dX5_valueBy_106 rfl (lv_at hl 2 rfl) ?_
                                        refine lv_if_ne (tgt := 117) hx hb dX5_valueBy_107 (by decide) (fun c_107 => ?_) (fun c_107 => ?_)
                                        · replace hf := hf.trans (if_pos c_107)
                                          refine lv_iload_n hx hb dX5_valueBy_117 rfl (lv_at hl 1 rfl) ?_
                                          refine lv_bipush (v := 48) hx hb dX5_valueBy_118 (by decide) ?_
                                          refine lv_bipush (v := 57) hx hb dX5_valueBy_120 (by decide) ?_
                                          refine pcS (As := [.int x1, .int 48, .int 57]) (rest := []) ⟨hx, hb, hml, hown, hts⟩ (c_X5_figureBy l D cI cZ cO x1 48 57) (va_cwS 3 hts gX5_valueBy_X5_figureBy rfl rfl rfl (by decide +kernel) ⟨Nat.le_of_ble_eq_true rfl, Nat.le_of_ble_eq_true rfl⟩) hKX hP [] rfl rfl hl.1 rfl (Nat.le_of_ble_eq_true rfl) dX5_valueBy_122 ⟨Nat.le_of_ble_eq_true rfl, Nat.le_of_ble_eq_true rfl⟩ ?_
                                          exact W.iret (v := f_X5_figureBy x1 48 57) hx hb hr (fun t ht hW => ⟨congrArg (fun z => Outcome.returned (some (Value.int z))) hf.symm, ht⟩) (fun _ h => absurd h List.not_mem_nil) dX5_valueBy_125
                                        · replace hf := hf.trans (if_neg (fun h9 => h9 c_107))
                                          refine lv_iload_n hx hb dX5_valueBy_110 rfl (lv_at hl 1 rfl) ?_
                                          refine pcS (As := [.int x1]) (rest := []) ⟨hx, hb, hml, hown, hts⟩ (c_X5_dayBy l D cI cZ cO x1) (va_cwS 1 hts gX5_valueBy_X5_dayBy rfl rfl rfl (by decide +kernel) ⟨Nat.le_of_ble_eq_true rfl, Nat.le_of_ble_eq_true rfl⟩) hKX hP [] rfl rfl hl.1 rfl (Nat.le_of_ble_eq_true rfl) dX5_valueBy_111 ⟨Nat.le_of_ble_eq_true rfl, Nat.le_of_ble_eq_true rfl⟩ ?_
                                          refine lv_goto (tgt := 125) hx hb dX5_valueBy_114 (by decide) ?_
                                          exact W.iret (v := f_X5_dayBy x1) hx hb hr (fun t ht hW => ⟨congrArg (fun z => Outcome.returned (some (Value.int z))) hf.symm, ht⟩) (fun _ h => absurd h List.not_mem_nil) dX5_valueBy_125
                                      · replace hf := hf.trans (if_neg q_1_18)
                                        refine lv_tableOut (tgt := 162) hx hb dX5_valueBy_1 (sw_out (lo := 100) (hi := 118) (by decide) (by decide) (s_X5_valueBy_1 x0 q_1_0 q_1_1 q_1_2 q_1_3 q_1_4 q_1_5 q_1_6 q_1_7 q_1_8 q_1_9 q_1_10 q_1_11 q_1_12 q_1_13 q_1_14 q_1_15 q_1_16 q_1_17 q_1_18)) (by decide) ?_
                                        refine lv_iload_n hx hb dX5_valueBy_162 rfl (lv_at hl 1 rfl) ?_
                                        refine lv_bipush (v := 48) hx hb dX5_valueBy_163 (by decide) ?_
                                        refine lv_bipush (v := 51) hx hb dX5_valueBy_165 (by decide) ?_
                                        refine pcS (As := [.int x1, .int 48, .int 51]) (rest := []) ⟨hx, hb, hml, hown, hts⟩ (c_X5_figureBy l D cI cZ cO x1 48 51) (va_cwS 3 hts gX5_valueBy_X5_figureBy rfl rfl rfl (by decide +kernel) ⟨Nat.le_of_ble_eq_true rfl, Nat.le_of_ble_eq_true rfl⟩) hKX hP [] rfl rfl hl.1 rfl (Nat.le_of_ble_eq_true rfl) dX5_valueBy_167 ⟨Nat.le_of_ble_eq_true rfl, Nat.le_of_ble_eq_true rfl⟩ ?_
                                        refine lv_istore_n (lv' := [(3, .int (f_X5_figureBy x1 48 51)), (0, .int x0), (1, .int x1), (2, .int x2)]) hx hb dX5_valueBy_170 rfl hl (by decide) rfl (fun ls hl => ?_)
                                        refine lv_iload_n hx hb dX5_valueBy_171 rfl (lv_at hl 0 rfl) ?_
                                        refine lv_iload_n hx hb dX5_valueBy_172 rfl (lv_at hl 3 rfl) ?_
                                        refine lv_icmp_ne (tgt := 180) hx hb dX5_valueBy_173 (by decide) (fun c_173 => ?_) (fun c_173 => ?_)
                                        · replace hf := hf.trans (if_pos c_173)
                                          refine lv_iload_n hx hb dX5_valueBy_180 rfl (lv_at hl 0 rfl) ?_
                                          exact W.iret (v := f_X5_figureBy x1 48 51) hx hb hr (fun t ht hW => ⟨congrArg (fun z => Outcome.returned (some (Value.int z))) hf.symm, ht⟩) (fun _ h => absurd h List.not_mem_nil) dX5_valueBy_181
                                        · replace hf := hf.trans (if_neg (fun h9 => h9 c_173))
                                          refine lv_iconst (v := (-1)) hx hb dX5_valueBy_176 (by decide) ?_
                                          refine lv_goto (tgt := 181) hx hb dX5_valueBy_177 (by decide) ?_
                                          exact W.iret (v := (-1)) hx hb hr (fun t ht hW => ⟨congrArg (fun z => Outcome.returned (some (Value.int z))) hf.symm, ht⟩) (fun _ h => absurd h List.not_mem_nil) dX5_valueBy_181

def f_X5_setValue (f_t_cells : Nat → Int32) (x1 : Int32) (x2 : Int32) (x3 : Int32) (x4 : Int32) : (Nat → Int32) :=
  if (f_X5_cellOf x1 x2 x3) < 0 then f_t_cells else if 120 ≤ (f_X5_cellOf x1 x2 x3) then f_t_cells else upd f_t_cells (f_X5_cellOf x1 x2 x3).toNatClampNeg x4
/- in@28 -/ theorem s_X5_setValue_1 (x1 : Int32) (x2 : Int32) (x3 : Int32) (c_10 : ¬ (f_X5_cellOf x1 x2 x3) < 0) (c_17 : ¬ 120 ≤ (f_X5_cellOf x1 x2 x3)) : vp_in (f_X5_cellOf x1 x2 x3) 120 := vin (k := 120) (by grind [f_X5_cellOf]) (by grind [f_X5_cellOf]) (by decide)
set_option maxHeartbeats 4000000 in
set_option maxRecDepth 100000 in
theorem c_X5_setValue (l : Launch) (D : va_G) (cI cZ cO : ClassId) (a_t : Nat) (a_t_sizes : Nat) (a_t_cells : Nat) (f_t_cells : Nat → Int32) (x1 : Int32) (x2 : Int32) (x3 : Int32) (x4 : Int32) (sz : Nat) : Met l yX5_setValue wsX5_setValue ({ frames := 1, cells := 0, slots := 0, locals := 22 }) (PcM D (tysG cI cZ cO) [.ref a_t, .int x1, .int x2, .int x3, .int x4] sz [(a_t, .inr (5, [.ref a_t_sizes, .ref a_t_cells])), (a_t_cells, .inl (cI, 120, .inl f_t_cells))]) (va_Qv (fun u : (Nat → Int32) => u = f_X5_setValue f_t_cells x1 x2 x3 x4) (BM D (va_A [(a_t, .inr (5, [.ref a_t_sizes, .ref a_t_cells])), (a_t_cells, .inl (cI, 120, .inl f_t_cells))] sz) (fun u : (Nat → Int32) => [(a_t, .inr (5, [.ref a_t_sizes, .ref a_t_cells])), (a_t_cells, .inl (cI, 120, .inl u))])) (va_A [(a_t, .inr (5, [.ref a_t_sizes, .ref a_t_cells])), (a_t_cells, .inl (cI, 120, .inl f_t_cells))] sz)) 0 0 (va_A [(a_t, .inr (5, [.ref a_t_sizes, .ref a_t_cells])), (a_t_cells, .inl (cI, 120, .inl f_t_cells))] sz) := by
  refine Met.ofW (cc := cX5_setValue) (maxL := 6) (ret := none) (by decide) rfl ?_
  intro p e s m args below meth c s₁ B hml hv
  obtain ⟨rfl, hsz, hP, hKX, hD0⟩ := hv
  have hx := B.exec
  have hb := B.bytes
  have hr := B.returns
  have hts := atoms_spec (ws := wsX5_setValue) B.pre
  have hown : s.vm.findClass RX5 = some m.cls := findClass_of_methodNamed B.named
  have hlocks := B.notSynchronized
  have hK := hKX.1
  have hwX5 : ∀ w ∈ wsX50, w ∈ wsX5_setValue := by decide +kernel
  subst hsz
  have hD := hD0.self (sz := s.heap.size)
  generalize hAe : va_A [(a_t, .inr (5, [.ref a_t_sizes, .ref a_t_cells])), (a_t_cells, .inl (cI, 120, .inl f_t_cells))] s.heap.size = A at hD ⊢
  have hA : ∀ q : Nat, s.heap.size ≤ q → A q := fun q h => by rw [← hAe]; exact Or.inr h
  have hS : va_S A s.heap s.heap [] := va_S.rf
  have hP : va_P D vwCl [(a_t, .inr (5, [.ref a_t_sizes, .ref a_t_cells])), (a_t_cells, .inl (cI, 120, .inl f_t_cells))] s.heap := hP
  have hl := lv_entry ([.ref a_t, .int x1, .int x2, .int x3, .int x4]) (n := 6) (Nat.le_of_ble_eq_true rfl)
  rw [lg_entry_eq]
  generalize (lg_sl ([.ref a_t, .int x1, .int x2, .int x3, .int x4]) ++ List.replicate (6 - (lg_sl ([.ref a_t, .int x1, .int x2, .int x3, .int x4])).length) Slot.unset).toArray = ls at hl ⊢
  have hl : lv_has ls 6 [(0, .ref a_t), (1, .int x1), (2, .int x2), (3, .int x3), (4, .int x4)] := hl
  have hf := f_X5_setValue.eq_1 f_t_cells x1 x2 x3 x4
  refine lv_iload_n hx hb dX5_setValue_0 rfl (lv_at hl 1 rfl) ?_
  refine lv_iload_n hx hb dX5_setValue_1 rfl (lv_at hl 2 rfl) ?_
  refine lv_iload_n hx hb dX5_setValue_2 rfl (lv_at hl 3 rfl) ?_
  refine pcS (As := [.int x1, .int x2, .int x3]) (rest := []) ⟨hx, hb, hml, hown, hts⟩ (c_X5_cellOf l D cI cZ cO x1 x2 x3) (va_cwS 3 hts gX5_setValue_X5_cellOf rfl rfl rfl (by decide +kernel) ⟨Nat.le_of_ble_eq_true rfl, Nat.le_of_ble_eq_true rfl⟩) hKX hP [] rfl rfl hl.1 rfl (Nat.le_of_ble_eq_true rfl) dX5_setValue_3 ⟨Nat.le_of_ble_eq_true rfl, Nat.le_of_ble_eq_true rfl⟩ ?_
  refine lv_istore (lv' := [(5, .int (f_X5_cellOf x1 x2 x3)), (0, .ref a_t), (1, .int x1), (2, .int x2), (3, .int x3), (4, .int x4)]) hx hb dX5_setValue_6 hl (by decide) rfl (fun ls hl => ?_)
  refine lv_iload hx hb dX5_setValue_8 (lv_at hl 0 rfl) ?_
  refine lv_if_lt (tgt := 29) hx hb dX5_setValue_10 (by decide) (fun c_10 => ?_) (fun c_10 => ?_)
  · replace hf := hf.trans (if_pos c_10)
    exact W.vret hx hb hr (fun t ht hW => ⟨⟨(f_t_cells), rfl, hf.symm, by rw [ht]; exact hP.sub [0, 1] rfl, hD.sub [0, 1] (by decide) rfl⟩, hS.F ht⟩) hS.2.2 dX5_setValue_29
  · replace hf := hf.trans (if_neg c_10)
    refine lv_iload hx hb dX5_setValue_13 (lv_at hl 0 rfl) ?_
    refine lv_bipush (v := 120) hx hb dX5_setValue_15 (by decide) ?_
    refine lv_icmp_ge (tgt := 29) hx hb dX5_setValue_17 (by decide) (fun c_17 => ?_) (fun c_17 => ?_)
    · replace hf := hf.trans (if_pos c_17)
      exact W.vret hx hb hr (fun t ht hW => ⟨⟨(f_t_cells), rfl, hf.symm, by rw [ht]; exact hP.sub [0, 1] rfl, hD.sub [0, 1] (by decide) rfl⟩, hS.F ht⟩) hS.2.2 dX5_setValue_29
    · replace hf := hf.trans (if_neg c_17)
      refine lv_aload_n hx hb dX5_setValue_20 rfl (lv_at hl 1 rfl) ?_
      refine va_get (D := D) (ci := 5) (v := .ref a_t_cells) (C := RX5) (T := TX5) (N := 2) hx hb hts hwX5 hown hK hP 0 rfl rfl 1 (by decide) (hts (.fieldLink RX5 15 "SkippedDay$Told" "cells" "[I") (by decide +kernel)) (fun _ h9 => h9) rfl dX5_setValue_21 ?_
      refine lv_iload hx hb dX5_setValue_24 (lv_at hl 0 rfl) ?_
      refine lv_iload hx hb dX5_setValue_26 (lv_at hl 5 rfl) ?_
      refine va_iast hx hb hK hP hD hS 1 0 rfl rfl (s_X5_setValue_1 x1 x2 x3 c_10 c_17) dX5_setValue_28 (fun H locs hP hD hS => ?_)
      have hP : va_P D vwCl [(a_t, .inr (5, [.ref a_t_sizes, .ref a_t_cells])), (a_t_cells, .inl (cI, 120, .inl (upd f_t_cells (f_X5_cellOf x1 x2 x3).toNatClampNeg x4)))] H := hP
      have hD : va_D A [(a_t, .inr (5, [.ref a_t_sizes, .ref a_t_cells])), (a_t_cells, .inl (cI, 120, .inl (upd f_t_cells (f_X5_cellOf x1 x2 x3).toNatClampNeg x4)))] := hD
      exact W.vret hx hb hr (fun t ht hW => ⟨⟨(upd f_t_cells (f_X5_cellOf x1 x2 x3).toNatClampNeg x4), rfl, hf.symm, by rw [ht]; exact hP.sub [0, 1] rfl, hD.sub [0, 1] (by decide) rfl⟩, hS.F ht⟩) hS.2.2 dX5_setValue_29
