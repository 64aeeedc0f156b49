def f_X7_divisor_b4 (k4 : Int32 → Int32 → Int32) (x4_2 : Int32) (x4_3 : Int32) : Int32 :=
  if x4_3 = 0 then x4_2 else k4 x4_3 (x4_2 - x4_2 / x4_3 * x4_3)
def f_X7_divisor (x0 : Int32) (x1 : Int32) : Int32 :=
  it2 f_X7_divisor_b4 default (x1.toInt.toNat + 1) x0 x1
/- nz@10 -/ theorem s_X7_divisor_1 (x4_3 : Int32) (hi4_1 : 0 ≤ x4_3) (c_5 : ¬ x4_3 = 0) : ¬ x4_3 = 0 := by grind
/- mu@4 -/ theorem s_X7_divisor_2 (x4_2 : Int32) (x4_3 : Int32) (n4 : Nat) (hi4_0 : 0 ≤ x4_2) (hi4_1 : 0 ≤ x4_3) (c_5 : ¬ x4_3 = 0) (hm4 : x4_3.toInt.toNat < n4 + 1) : (x4_2 - x4_2 / x4_3 * x4_3).toInt.toNat < n4 := mu_rem hi4_0 hi4_1 c_5 hm4
/- inv0@18>4 -/ theorem s_X7_divisor_3 (x4_3 : Int32) (hi4_1 : 0 ≤ x4_3) (c_5 : ¬ x4_3 = 0) : 0 ≤ x4_3 := by grind
/- inv1@18>4 -/ theorem s_X7_divisor_4 (x4_2 : Int32) (x4_3 : Int32) (hi4_0 : 0 ≤ x4_2) (hi4_1 : 0 ≤ x4_3) (c_5 : ¬ x4_3 = 0) : 0 ≤ (x4_2 - x4_2 / x4_3 * x4_3) := (rem_bd hi4_0 (by grind)).1
/- inv0@3>4 -/ theorem s_X7_divisor_5 (x0 : Int32) (hp0 : 0 ≤ x0) : 0 ≤ x0 := by grind
/- inv1@3>4 -/ theorem s_X7_divisor_6 (x1 : Int32) (hp1 : 0 < x1) : 0 ≤ x1 := by grind
set_option maxHeartbeats 4000000 in
set_option maxRecDepth 100000 in
theorem c_X7_divisor (l : Launch) (D : va_G) (cI cZ cO : ClassId) (x0 : Int32) (x1 : Int32) (hp0 : 0 ≤ x0) (hp1 : 0 < x1) : Met l yX7_divisor wsX7_divisor ({ frames := 0, cells := 0, slots := 0, locals := 0 }) (PcP D (tysG cI cZ cO) [.int x0, .int x1] []) (QP (.int (f_X7_divisor x0 x1))) 0 0 (fun _ => False) := by
  refine Met.ofW (cc := cX7_divisor) (maxL := 5) (ret := (some .int)) (by decide) rfl ?_
  intro p e s m args below meth c s₁ B hml hv
  obtain ⟨rfl, hP, hKX⟩ := hv
  have hx := B.exec
  have hb := B.bytes
  have hr := B.returns
  have hts := atoms_spec (ws := wsX7_divisor) B.pre
  have hown : s.vm.findClass RX7 = some m.cls := findClass_of_methodNamed B.named
  have hlocks := B.notSynchronized
  have hK := hKX.1
  have hl := lv_entry ([.int x0, .int x1]) (n := 5) (Nat.le_of_ble_eq_true rfl)
  rw [lg_entry_eq]
  generalize (lg_sl ([.int x0, .int x1]) ++ List.replicate (5 - (lg_sl ([.int x0, .int x1])).length) Slot.unset).toArray = ls at hl ⊢
  have hl : lv_has ls 5 [(0, .int x0), (1, .int x1)] := hl
  have hf := f_X7_divisor.eq_1 x0 x1
  refine lv_iload_n hx hb dX7_divisor_0 rfl (lv_at hl 0 rfl) ?_
  refine lv_istore_n (lv' := [(2, .int x0), (0, .int x0), (1, .int x1)]) hx hb dX7_divisor_1 rfl hl (by decide) rfl (fun ls hl => ?_)
  refine lv_iload_n hx hb dX7_divisor_2 rfl (lv_at hl 2 rfl) ?_
  refine lv_istore_n (lv' := [(3, .int x1), (2, .int x0), (0, .int x0), (1, .int x1)]) hx hb dX7_divisor_3 rfl hl (by decide) rfl (fun ls hl => ?_)
  have hJ_4 : ∀ (n4 : Nat) (x4_2 : Int32) (x4_3 : Int32), f_X7_divisor x0 x1 = it2 f_X7_divisor_b4 default n4 x4_2 x4_3 → x4_3.toInt.toNat < n4 → (0 ≤ x4_2) → (0 ≤ x4_3) → ∀ (ls : Array Slot), lv_has ls 5 [(2, .int x4_2), (3, .int x4_3)] → W p l e (headSpec wsX7_divisor { frames := 0, cells := 0, slots := 0, locals := 0 }).room s m [.int x0, .int x1].toArray below meth c s.heap [] 0 0 (MQ below (QP (.int (f_X7_divisor x0 x1))) [.int x0, .int x1].toArray s 0 0 (fun _ => False)) (F0 m 4 ls []) := by
    intro n4
    induction n4 with
    | zero => intro x4_2 x4_3 hf hm4; exact absurd hm4 (Nat.not_lt_zero _)
    | succ n4 ih4 =>
      intro x4_2 x4_3 hf hm4 hi4_0 hi4_1 ls hl
      replace hf := (hf.trans (it2_s _ _ _ _ _)).trans (f_X7_divisor_b4.eq_1 _ _ _)
      refine lv_iload_n hx hb dX7_divisor_4 rfl (lv_at hl 1 rfl) ?_
      refine lv_if_eq (tgt := 21) hx hb dX7_divisor_5 (by decide) (fun c_5 => ?_) (fun c_5 => ?_)
      · replace hf := hf.trans (if_pos c_5)
        refine lv_iload_n hx hb dX7_divisor_21 rfl (lv_at hl 0 rfl) ?_
        exact W.iret (v := x4_2) hx hb hr (fun t ht hW => ⟨congrArg (fun z => Outcome.returned (some (Value.int z))) hf.symm, ht⟩) (fun _ h => absurd h List.not_mem_nil) dX7_divisor_22
      · replace hf := hf.trans (if_neg c_5)
        refine lv_iload_n hx hb dX7_divisor_8 rfl (lv_at hl 0 rfl) ?_
        refine lv_iload_n hx hb dX7_divisor_9 rfl (lv_at hl 1 rfl) ?_
        refine lv_irem hx hb dX7_divisor_10 (s_X7_divisor_1 x4_3 hi4_1 c_5) ?_
        refine lv_istore (lv' := [(4, .int (x4_2 - x4_2 / x4_3 * x4_3)), (2, .int x4_2), (3, .int x4_3)]) hx hb dX7_divisor_11 hl (by decide) rfl (fun ls hl => ?_)
        refine lv_iload_n hx hb dX7_divisor_13 rfl (lv_at hl 2 rfl) ?_
        refine lv_istore_n (lv' := [(2, .int x4_3), (4, .int (x4_2 - x4_2 / x4_3 * x4_3)), (3, .int x4_3)]) hx hb dX7_divisor_14 rfl hl (by decide) rfl (fun ls hl => ?_)
        refine lv_iload hx hb dX7_divisor_15 (lv_at hl 1 rfl) ?_
        refine lv_istore_n (lv' := [(3, .int (x4_2 - x4_2 / x4_3 * x4_3)), (2, .int x4_3), (4, .int (x4_2 - x4_2 / x4_3 * x4_3))]) hx hb dX7_divisor_17 rfl hl (by decide) rfl (fun ls hl => ?_)
        refine lv_goto (tgt := 4) hx hb dX7_divisor_18 (by decide) ?_
        exact ih4 x4_3 (x4_2 - x4_2 / x4_3 * x4_3) hf (s_X7_divisor_2 x4_2 x4_3 n4 hi4_0 hi4_1 c_5 hm4) (s_X7_divisor_3 x4_3 hi4_1 c_5) (s_X7_divisor_4 x4_2 x4_3 hi4_0 hi4_1 c_5) _ (lv_sub hl [1, 0] rfl)
  exact hJ_4 _ x0 x1 hf (Nat.lt_succ_self _) (s_X7_divisor_5 x0 hp0) (s_X7_divisor_6 x1 hp1) _ (lv_sub hl [1, 0] rfl)
