def f_X7_in (x0 : Int64) (x2 : Int64) (x4 : Int64) : Int32 :=
  if (lg_cmp x0 x2) < 0 then 0 else if 0 < (lg_cmp x0 x4) then 0 else 1
set_option maxHeartbeats 4000000 in
set_option maxRecDepth 100000 in
theorem c_X7_in (l : Launch) (D : va_G) (cI cZ cO : ClassId) (x0 : Int64) (x2 : Int64) (x4 : Int64) : Met l yX7_in wsX7_in ({ frames := 0, cells := 0, slots := 0, locals := 0 }) (PcP D (tysG cI cZ cO) [.long x0, .long x2, .long x4] []) (QP (.int (f_X7_in x0 x2 x4))) 0 0 (fun _ => False) := by
  refine Met.ofW (cc := cX7_in) (maxL := 6) (ret := (some .boolean)) (by decide) rfl ?_
  intro p e s m args below meth c s₁ B hml hv
  obtain ⟨rfl, hP, hKX⟩ := hv
  have hx := B.exec
  have hb := B.bytes
  have hr := B.returns
  have hts := atoms_spec (ws := wsX7_in) B.pre
  have hown : s.vm.findClass RX7 = some m.cls := findClass_of_methodNamed B.named
  have hlocks := B.notSynchronized
  have hK := hKX.1
  have hl := lv_entry ([.long x0, .long x2, .long x4]) (n := 6) (Nat.le_of_ble_eq_true rfl)
  rw [lg_entry_eq]
  generalize (lg_sl ([.long x0, .long x2, .long x4]) ++ List.replicate (6 - (lg_sl ([.long x0, .long x2, .long x4])).length) Slot.unset).toArray = ls at hl ⊢
  have hl : lv_has ls 6 [(0, .long x0), (2, .long x2), (4, .long x4)] := hl
  have hf := f_X7_in.eq_1 x0 x2 x4
  refine lv_lload_n hx hb dX7_in_0 rfl (lv_at hl 0 rfl) ?_
  refine lv_lload_n hx hb dX7_in_1 rfl (lv_at hl 1 rfl) ?_
  refine W.lcmp hx hb dX7_in_2 ?_
  refine lv_if_lt (tgt := 17) hx hb dX7_in_3 (by decide) (fun c_3 => ?_) (fun c_3 => ?_)
  · replace hf := hf.trans (if_pos c_3)
    refine lv_iconst (v := 0) hx hb dX7_in_17 (by decide) ?_
    exact W.zret (ty := .boolean) (v := 0) hx hb hr rfl (fun t ht hW => ⟨congrArg (fun z => Outcome.returned (some (Value.int z))) hf.symm, ht⟩) (fun _ h => absurd h List.not_mem_nil) dX7_in_18
  · replace hf := hf.trans (if_neg c_3)
    refine lv_lload_n hx hb dX7_in_6 rfl (lv_at hl 0 rfl) ?_
    refine lv_lload hx hb dX7_in_7 (lv_at hl 2 rfl) ?_
    refine W.lcmp hx hb dX7_in_9 ?_
    refine lv_if_gt (tgt := 17) hx hb dX7_in_10 (by decide) (fun c_10 => ?_) (fun c_10 => ?_)
    · replace hf := hf.trans (if_pos c_10)
      refine lv_iconst (v := 0) hx hb dX7_in_17 (by decide) ?_
      exact W.zret (ty := .boolean) (v := 0) hx hb hr rfl (fun t ht hW => ⟨congrArg (fun z => Outcome.returned (some (Value.int z))) hf.symm, ht⟩) (fun _ h => absurd h List.not_mem_nil) dX7_in_18
    · replace hf := hf.trans (if_neg c_10)
      refine lv_iconst (v := 1) hx hb dX7_in_13 (by decide) ?_
      refine lv_goto (tgt := 18) hx hb dX7_in_14 (by decide) ?_
      exact W.zret (ty := .boolean) (v := 1) hx hb hr rfl (fun t ht hW => ⟨congrArg (fun z => Outcome.returned (some (Value.int z))) hf.symm, ht⟩) (fun _ h => absurd h List.not_mem_nil) dX7_in_18

def f_X7_has (x0 : Int32) (x1 : Int32) : Int32 :=
  if ¬ ((x0 >>> (x1 &&& 31)) &&& 1) = 1 then 0 else 1
set_option maxHeartbeats 4000000 in
set_option maxRecDepth 100000 in
theorem c_X7_has (l : Launch) (D : va_G) (cI cZ cO : ClassId) (x0 : Int32) (x1 : Int32) : Met l yX7_has wsX7_has ({ frames := 0, cells := 0, slots := 0, locals := 0 }) (PcP D (tysG cI cZ cO) [.int x0, .int x1] []) (QP (.int (f_X7_has x0 x1))) 0 0 (fun _ => False) := by
  refine Met.ofW (cc := cX7_has) (maxL := 2) (ret := (some .boolean)) (by decide) rfl ?_
  intro p e s m args below meth c s₁ B hml hv
  obtain ⟨rfl, hP, hKX⟩ := hv
  have hx := B.exec
  have hb := B.bytes
  have hr := B.returns
  have hts := atoms_spec (ws := wsX7_has) B.pre
  have hown : s.vm.findClass RX7 = some m.cls := findClass_of_methodNamed B.named
  have hlocks := B.notSynchronized
  have hK := hKX.1
  have hl := lv_entry ([.int x0, .int x1]) (n := 2) (Nat.le_of_ble_eq_true rfl)
  rw [lg_entry_eq]
  generalize (lg_sl ([.int x0, .int x1]) ++ List.replicate (2 - (lg_sl ([.int x0, .int x1])).length) Slot.unset).toArray = ls at hl ⊢
  have hl : lv_has ls 2 [(0, .int x0), (1, .int x1)] := hl
  have hf := f_X7_has.eq_1 x0 x1
  refine lv_iload_n hx hb dX7_has_0 rfl (lv_at hl 0 rfl) ?_
  refine lv_iload_n hx hb dX7_has_1 rfl (lv_at hl 1 rfl) ?_
  refine lv_ishr hx hb dX7_has_2 ?_
  refine lv_iconst (v := 1) hx hb dX7_has_3 (by decide) ?_
  refine lv_iand hx hb dX7_has_4 ?_
  refine lv_iconst (v := 1) hx hb dX7_has_5 (by decide) ?_
  refine lv_icmp_ne (tgt := 13) hx hb dX7_has_6 (by decide) (fun c_6 => ?_) (fun c_6 => ?_)
  · replace hf := hf.trans (if_pos c_6)
    refine lv_iconst (v := 0) hx hb dX7_has_13 (by decide) ?_
    exact W.zret (ty := .boolean) (v := 0) hx hb hr rfl (fun t ht hW => ⟨congrArg (fun z => Outcome.returned (some (Value.int z))) hf.symm, ht⟩) (fun _ h => absurd h List.not_mem_nil) dX7_has_14
  · replace hf := hf.trans (if_neg (fun h9 => h9 c_6))
    refine lv_iconst (v := 1) hx hb dX7_has_9 (by decide) ?_
    refine lv_goto (tgt := 14) hx hb dX7_has_10 (by decide) ?_
    exact W.zret (ty := .boolean) (v := 1) hx hb hr rfl (fun t ht hW => ⟨congrArg (fun z => Outcome.returned (some (Value.int z))) hf.symm, ht⟩) (fun _ h => absurd h List.not_mem_nil) dX7_has_14

def f_X7_many_b4 (x0 : Int32) (k4 : Int32 → Int32 → Int32) (x4_1 : Int32) (x4_2 : Int32) : Int32 :=
  if 14 ≤ x4_2 then x4_1 else k4 (x4_1 + ((x0 >>> (x4_2 &&& 31)) &&& 1)) (x4_2 + 1)
def f_X7_many (x0 : Int32) : Int32 :=
  it2 (f_X7_many_b4 x0) default (((14 : Int32).toInt - (0 : Int32).toInt).toNat + 1) 0 0
/- inv0@21>4 -/ theorem s_X7_many_1 (x4_2 : Int32) (hi4_0 : 0 ≤ x4_2) (c_7 : ¬ 14 ≤ x4_2) : 0 ≤ (x4_2 + 1) := by grind
/- inv0@3>4 -/ theorem s_X7_many_2  : 0 ≤ (0 : Int32) := by grind
set_option maxHeartbeats 4000000 in
set_option maxRecDepth 100000 in
theorem c_X7_many (l : Launch) (D : va_G) (cI cZ cO : ClassId) (x0 : Int32) : Met l yX7_many wsX7_many ({ frames := 0, cells := 0, slots := 0, locals := 0 }) (PcP D (tysG cI cZ cO) [.int x0] []) (QP (.int (f_X7_many x0))) 0 0 (fun _ => False) := by
  refine Met.ofW (cc := cX7_many) (maxL := 3) (ret := (some .int)) (by decide) rfl ?_
  intro p e s m args below meth c s₁ B hml hv
  obtain ⟨rfl, hP, hKX⟩ := hv
  have hx := B.exec
  have hb := B.bytes
  have hr := B.returns
  have hts := atoms_spec (ws := wsX7_many) B.pre
  have hown : s.vm.findClass RX7 = some m.cls := findClass_of_methodNamed B.named
  have hlocks := B.notSynchronized
  have hK := hKX.1
  have hl := lv_entry ([.int x0]) (n := 3) (Nat.le_of_ble_eq_true rfl)
  rw [lg_entry_eq]
  generalize (lg_sl ([.int x0]) ++ List.replicate (3 - (lg_sl ([.int x0])).length) Slot.unset).toArray = ls at hl ⊢
  have hl : lv_has ls 3 [(0, .int x0)] := hl
  have hf := f_X7_many.eq_1 x0
  refine lv_iconst (v := 0) hx hb dX7_many_0 (by decide) ?_
  refine lv_istore_n (lv' := [(1, .int 0), (0, .int x0)]) hx hb dX7_many_1 rfl hl (by decide) rfl (fun ls hl => ?_)
  refine lv_iconst (v := 0) hx hb dX7_many_2 (by decide) ?_
  refine lv_istore_n (lv' := [(2, .int 0), (1, .int 0), (0, .int x0)]) hx hb dX7_many_3 rfl hl (by decide) rfl (fun ls hl => ?_)
  have hJ_4 : ∀ (n4 : Nat) (x4_1 : Int32) (x4_2 : Int32), f_X7_many x0 = it2 (f_X7_many_b4 x0) default n4 x4_1 x4_2 → ((14 : Int32).toInt - x4_2.toInt).toNat < n4 → (0 ≤ x4_2) → ∀ (ls : Array Slot), lv_has ls 3 [(0, .int x0), (1, .int x4_1), (2, .int x4_2)] → W p l e (headSpec wsX7_many { frames := 0, cells := 0, slots := 0, locals := 0 }).room s m [.int x0].toArray below meth c s.heap [] 0 0 (MQ below (QP (.int (f_X7_many x0))) [.int x0].toArray s 0 0 (fun _ => False)) (F0 m 4 ls []) := by
    intro n4
    induction n4 with
    | zero => intro x4_1 x4_2 hf hm4; exact absurd hm4 (Nat.not_lt_zero _)
    | succ n4 ih4 =>
      intro x4_1 x4_2 hf hm4 hi4_0 ls hl
      replace hf := (hf.trans (it2_s _ _ _ _ _)).trans (f_X7_many_b4.eq_1 _ _ _ _)
      refine lv_iload_n hx hb dX7_many_4 rfl (lv_at hl 2 rfl) ?_
      refine lv_bipush (v := 14) hx hb dX7_many_5 (by decide) ?_
      refine lv_icmp_ge (tgt := 24) hx hb dX7_many_7 (by decide) (fun c_7 => ?_) (fun c_7 => ?_)
      · replace hf := hf.trans (if_pos c_7)
        refine lv_iload_n hx hb dX7_many_24 rfl (lv_at hl 1 rfl) ?_
        exact W.iret (v := x4_1) hx hb hr (fun t ht hW => ⟨congrArg (fun z => Outcome.returned (some (Value.int z))) hf.symm, ht⟩) (fun _ h => absurd h List.not_mem_nil) dX7_many_25
      · replace hf := hf.trans (if_neg c_7)
        refine lv_iload_n hx hb dX7_many_10 rfl (lv_at hl 1 rfl) ?_
        refine lv_iload_n hx hb dX7_many_11 rfl (lv_at hl 0 rfl) ?_
        refine lv_iload_n hx hb dX7_many_12 rfl (lv_at hl 2 rfl) ?_
        refine lv_ishr hx hb dX7_many_13 ?_
        refine lv_iconst (v := 1) hx hb dX7_many_14 (by decide) ?_
        refine lv_iand hx hb dX7_many_15 ?_
        refine lv_iadd hx hb dX7_many_16 ?_
        refine lv_istore_n (lv' := [(1, .int (x4_1 + ((x0 >>> (x4_2 &&& 31)) &&& 1))), (0, .int x0), (2, .int x4_2)]) hx hb dX7_many_17 rfl hl (by decide) rfl (fun ls hl => ?_)
        refine lv_iinc (v := x4_2 + 1) (lv' := [(2, .int (x4_2 + 1)), (1, .int (x4_1 + ((x0 >>> (x4_2 &&& 31)) &&& 1))), (0, .int x0)]) hx hb dX7_many_18 hl (k := 2) rfl rfl (by decide) rfl (fun ls hl => ?_)
        refine lv_goto (tgt := 4) hx hb dX7_many_21 (by decide) ?_
        exact ih4 (x4_1 + ((x0 >>> (x4_2 &&& 31)) &&& 1)) (x4_2 + 1) hf (mu_up c_7 hm4) (s_X7_many_1 x4_2 hi4_0 c_7) _ (lv_sub hl [2, 1, 0] rfl)
  exact hJ_4 _ 0 0 hf (Nat.lt_succ_self _) s_X7_many_2 _ (lv_sub hl [2, 1, 0] rfl)

def f_X7_noContract (v_t_contracts : Int32) (x1 : Int32) : Int32 :=
  if ¬ (f_X7_in x1.toInt64 0 ((v_t_contracts - 1).toInt64)) = 0 then 0 else 1
set_option maxHeartbeats 4000000 in
set_option maxRecDepth 100000 in
theorem c_X7_noContract (l : Launch) (D : va_G) (cI cZ cO : ClassId) (a_t : Nat) (v_t_thrown : Int32) (a_t_text : Nat) (v_t_textSize : Int32) (v_t_place : Int32) (v_t_contracts : Int32) (v_t_births : Int32) (v_t_tides : Int32) (v_t_debts : Int32) (a_t_contract : Nat) (a_t_birth : Nat) (a_t_tide : Nat) (a_t_debt : Nat) (v_t_readContracts : Int32) (v_t_readBirths : Int32) (v_t_readTides : Int32) (v_t_readDebts : Int32) (a_t_readContract : Nat) (a_t_readBirth : Nat) (a_t_readTide : Nat) (a_t_readDebt : Nat) (a_t_page : Nat) (a_t_book : Nat) (v_t_acts : Int32) (a_t_kept : Nat) (a_t_isKept : Nat) (v_t_seen : Int32) (a_t_seenContract : Nat) (a_t_seenDay : Nat) (v_t_seed : Int64) (a_t_owed : Nat) (a_t_cuts : Nat) (a_t_gaps : Nat) (a_t_last : Nat) (a_t_struck : Nat) (x1 : Int32) (hp0 : 0 ≤ v_t_textSize) (hp1 : v_t_textSize ≤ 64) (hp2 : 0 ≤ v_t_contracts) (hp3 : v_t_contracts ≤ 5) (hp4 : 0 ≤ v_t_births) (hp5 : v_t_births ≤ 3) (hp6 : 0 ≤ v_t_tides) (hp7 : v_t_tides ≤ 3) (hp8 : 0 ≤ v_t_debts) (hp9 : v_t_debts ≤ 6) (hp10 : 0 ≤ v_t_acts) (hp11 : v_t_acts ≤ 14) (hp12 : 0 ≤ v_t_seen) (hp13 : v_t_seen ≤ 6) : Met l yX7_noContract wsX7_noContract ({ frames := 1, cells := 0, slots := 0, locals := 25 }) (PcP D (tysG cI cZ cO) [.ref a_t, .int x1] [(a_t, .inr (7, [.int v_t_thrown, .ref a_t_text, .int v_t_textSize, .int v_t_place, .int v_t_contracts, .int v_t_births, .int v_t_tides, .int v_t_debts, .ref a_t_contract, .ref a_t_birth, .ref a_t_tide, .ref a_t_debt, .int v_t_readContracts, .int v_t_readBirths, .int v_t_readTides, .int v_t_readDebts, .ref a_t_readContract, .ref a_t_readBirth, .ref a_t_readTide, .ref a_t_readDebt, .ref a_t_page, .ref a_t_book, .int v_t_acts, .ref a_t_kept, .ref a_t_isKept, .int v_t_seen, .ref a_t_seenContract, .ref a_t_seenDay, .long v_t_seed, .ref a_t_owed, .ref a_t_cuts, .ref a_t_gaps, .ref a_t_last, .ref a_t_struck]))]) (QP (.int (f_X7_noContract v_t_contracts x1))) 0 0 (fun _ => False) := by
  refine Met.ofW (cc := cX7_noContract) (maxL := 2) (ret := (some .boolean)) (by decide) rfl ?_
  intro p e s m args below meth c s₁ B hml hv
  obtain ⟨rfl, hP, hKX⟩ := hv
  have hx := B.exec
  have hb := B.bytes
  have hr := B.returns
  have hts := atoms_spec (ws := wsX7_noContract) B.pre
  have hown : s.vm.findClass RX7 = some m.cls := findClass_of_methodNamed B.named
  have hlocks := B.notSynchronized
  have hK := hKX.1
  have hwX7 : ∀ w ∈ wsX70, w ∈ wsX7_noContract := by decide +kernel
  have hl := lv_entry ([.ref a_t, .int x1]) (n := 2) (Nat.le_of_ble_eq_true rfl)
  rw [lg_entry_eq]
  generalize (lg_sl ([.ref a_t, .int x1]) ++ List.replicate (2 - (lg_sl ([.ref a_t, .int x1])).length) Slot.unset).toArray = ls at hl ⊢
  have hl : lv_has ls 2 [(0, .ref a_t), (1, .int x1)] := hl
  have hf := f_X7_noContract.eq_1 v_t_contracts x1
  refine lv_iload_n hx hb dX7_noContract_0 rfl (lv_at hl 1 rfl) ?_
  refine lv_i2l hx hb dX7_noContract_1 rfl ?_
  refine lv_lconst (v := 0) hx hb dX7_noContract_2 (by decide) ?_
  refine lv_aload_n hx hb dX7_noContract_3 rfl (lv_at hl 0 rfl) ?_
  refine va_get (D := D) (ci := 7) (v := .int v_t_contracts) (C := RX7) (T := TX7) (N := 34) hx hb hts hwX7 hown hK hP 0 rfl rfl 4 (by decide) (hts (.fieldLink RX7 75 "SkippedDayModel" "contracts" "I") (by decide +kernel)) (fun _ h9 => h9) rfl dX7_noContract_4 ?_
  refine lv_iconst (v := 1) hx hb dX7_noContract_7 (by decide) ?_
  refine lv_isub hx hb dX7_noContract_8 ?_
  refine lv_i2l hx hb dX7_noContract_9 rfl ?_
  refine pcS (As := [.long x1.toInt64, .long 0, .long ((v_t_contracts - 1).toInt64)]) (rest := []) ⟨hx, hb, hml, hown, hts⟩ (c_X7_in l D cI cZ cO x1.toInt64 0 ((v_t_contracts - 1).toInt64)) (va_cwS 3 hts gX7_noContract_X7_in rfl rfl rfl (by decide +kernel) ⟨Nat.le_of_ble_eq_true rfl, Nat.le_of_ble_eq_true rfl⟩) hKX hP [] rfl rfl hl.1 rfl (Nat.le_of_ble_eq_true rfl) dX7_noContract_10 ⟨Nat.le_of_ble_eq_true rfl, Nat.le_of_ble_eq_true rfl⟩ ?_
  refine lv_if_ne (tgt := 20) hx hb dX7_noContract_13 (by decide) (fun c_13 => ?_) (fun c_13 => ?_)
  · replace hf := hf.trans (if_pos c_13)
    refine lv_iconst (v := 0) hx hb dX7_noContract_20 (by decide) ?_
    exact W.zret (ty := .boolean) (v := 0) hx hb hr rfl (fun t ht hW => ⟨congrArg (fun z => Outcome.returned (some (Value.int z))) hf.symm, ht⟩) (fun _ h => absurd h List.not_mem_nil) dX7_noContract_21
  · replace hf := hf.trans (if_neg (fun h9 => h9 c_13))
    refine lv_iconst (v := 1) hx hb dX7_noContract_16 (by decide) ?_
    refine lv_goto (tgt := 21) hx hb dX7_noContract_17 (by decide) ?_
    exact W.zret (ty := .boolean) (v := 1) hx hb hr rfl (fun t ht hW => ⟨congrArg (fun z => Outcome.returned (some (Value.int z))) hf.symm, ht⟩) (fun _ h => absurd h List.not_mem_nil) dX7_noContract_21

def f_X7_noPlace (x0 : Int32) : Int32 :=
  if ¬ (f_X7_in x0.toInt64 0 13) = 0 then 0 else 1
set_option maxHeartbeats 4000000 in
set_option maxRecDepth 100000 in
theorem c_X7_noPlace (l : Launch) (D : va_G) (cI cZ cO : ClassId) (x0 : Int32) : Met l yX7_noPlace wsX7_noPlace ({ frames := 1, cells := 0, slots := 0, locals := 25 }) (PcP D (tysG cI cZ cO) [.int x0] []) (QP (.int (f_X7_noPlace x0))) 0 0 (fun _ => False) := by
  refine Met.ofW (cc := cX7_noPlace) (maxL := 1) (ret := (some .boolean)) (by decide) rfl ?_
  intro p e s m args below meth c s₁ B hml hv
  obtain ⟨rfl, hP, hKX⟩ := hv
  have hx := B.exec
  have hb := B.bytes
  have hr := B.returns
  have hts := atoms_spec (ws := wsX7_noPlace) B.pre
  have hown : s.vm.findClass RX7 = some m.cls := findClass_of_methodNamed B.named
  have hlocks := B.notSynchronized
  have hK := hKX.1
  have hl := lv_entry ([.int x0]) (n := 1) (Nat.le_of_ble_eq_true rfl)
  rw [lg_entry_eq]
  generalize (lg_sl ([.int x0]) ++ List.replicate (1 - (lg_sl ([.int x0])).length) Slot.unset).toArray = ls at hl ⊢
  have hl : lv_has ls 1 [(0, .int x0)] := hl
  have hf := f_X7_noPlace.eq_1 x0
  refine lv_iload_n hx hb dX7_noPlace_0 rfl (lv_at hl 0 rfl) ?_
  refine lv_i2l hx hb dX7_noPlace_1 rfl ?_
  refine lv_lconst (v := 0) hx hb dX7_noPlace_2 (by decide) ?_
  refine lv_ldc2 (v := 13) hx hb hown (hts (.constantLong RX7 82 13) (by decide +kernel)) dX7_noPlace_3 ?_
  refine pcS (As := [.long x0.toInt64, .long 0, .long 13]) (rest := []) ⟨hx, hb, hml, hown, hts⟩ (c_X7_in l D cI cZ cO x0.toInt64 0 13) (va_cwS 3 hts gX7_noPlace_X7_in rfl rfl rfl (by decide +kernel) ⟨Nat.le_of_ble_eq_true rfl, Nat.le_of_ble_eq_true rfl⟩) hKX hP [] rfl rfl hl.1 rfl (Nat.le_of_ble_eq_true rfl) dX7_noPlace_6 ⟨Nat.le_of_ble_eq_true rfl, Nat.le_of_ble_eq_true rfl⟩ ?_
  refine lv_if_ne (tgt := 16) hx hb dX7_noPlace_9 (by decide) (fun c_9 => ?_) (fun c_9 => ?_)
  · replace hf := hf.trans (if_pos c_9)
    refine lv_iconst (v := 0) hx hb dX7_noPlace_16 (by decide) ?_
    exact W.zret (ty := .boolean) (v := 0) hx hb hr rfl (fun t ht hW => ⟨congrArg (fun z => Outcome.returned (some (Value.int z))) hf.symm, ht⟩) (fun _ h => absurd h List.not_mem_nil) dX7_noPlace_17
  · replace hf := hf.trans (if_neg (fun h9 => h9 c_9))
    refine lv_iconst (v := 1) hx hb dX7_noPlace_12 (by decide) ?_
    refine lv_goto (tgt := 17) hx hb dX7_noPlace_13 (by decide) ?_
    exact W.zret (ty := .boolean) (v := 1) hx hb hr rfl (fun t ht hW => ⟨congrArg (fun z => Outcome.returned (some (Value.int z))) hf.symm, ht⟩) (fun _ h => absurd h List.not_mem_nil) dX7_noPlace_17
