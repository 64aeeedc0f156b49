def f_X6_write (v_t_text_length : Int32) (f_t_text_bytes : Nat → Int32) (x1 : Int32) : Int32 × Int32 × (Nat → Int32) :=
  if x1 < 0 then ((-2), v_t_text_length, f_t_text_bytes) else if x1 ≤ 255 then if (f_X4_isFull v_t_text_length) = 0 then ap2 (f_X4_append v_t_text_length f_t_text_bytes x1) (fun u32_t_text_length u32_t_text_bytes => (f_X4_length u32_t_text_length, u32_t_text_length, u32_t_text_bytes)) else ((-4), v_t_text_length, f_t_text_bytes) else ((-2), v_t_text_length, f_t_text_bytes)
/- post0@13 -/ theorem s_X6_write_1 (v_t_text_length : Int32) (hp0 : 0 ≤ v_t_text_length) (hp1 : v_t_text_length ≤ 64) : 0 ≤ v_t_text_length := by grind
/- post1@13 -/ theorem s_X6_write_2 (v_t_text_length : Int32) (hp0 : 0 ≤ v_t_text_length) (hp1 : v_t_text_length ≤ 64) : v_t_text_length ≤ 64 := by grind
/- hp0@18 -/ theorem s_X6_write_3 (v_t_text_length : Int32) (hp0 : 0 ≤ v_t_text_length) (hp1 : v_t_text_length ≤ 64) : 0 ≤ v_t_text_length := by grind
/- hp1@18 -/ theorem s_X6_write_4 (v_t_text_length : Int32) (hp0 : 0 ≤ v_t_text_length) (hp1 : v_t_text_length ≤ 64) : v_t_text_length ≤ 64 := by grind
/- hp0@32 -/ theorem s_X6_write_5 (v_t_text_length : Int32) (hp0 : 0 ≤ v_t_text_length) (hp1 : v_t_text_length ≤ 64) (c_21 : (f_X4_isFull v_t_text_length) = 0) : 0 ≤ v_t_text_length := by grind [f_X4_isFull]
/- hp1@32 -/ theorem s_X6_write_6 (v_t_text_length : Int32) (hp0 : 0 ≤ v_t_text_length) (hp1 : v_t_text_length ≤ 64) (c_21 : (f_X4_isFull v_t_text_length) = 0) : v_t_text_length ≤ 64 := by grind [f_X4_isFull]
/- hp0@39 -/ theorem s_X6_write_7 (u32_t_text_length : Int32) (hq32_0 : 0 ≤ u32_t_text_length) (hq32_1 : u32_t_text_length ≤ 64) : 0 ≤ u32_t_text_length := by grind
/- hp1@39 -/ theorem s_X6_write_8 (u32_t_text_length : Int32) (hq32_0 : 0 ≤ u32_t_text_length) (hq32_1 : u32_t_text_length ≤ 64) : u32_t_text_length ≤ 64 := by grind
/- post0@42 -/ theorem s_X6_write_9 (u32_t_text_length : Int32) (hq32_0 : 0 ≤ u32_t_text_length) (hq32_1 : u32_t_text_length ≤ 64) : 0 ≤ u32_t_text_length := by grind
/- post1@42 -/ theorem s_X6_write_10 (u32_t_text_length : Int32) (hq32_0 : 0 ≤ u32_t_text_length) (hq32_1 : u32_t_text_length ≤ 64) : u32_t_text_length ≤ 64 := by grind
/- post0@26 -/ theorem s_X6_write_11 (v_t_text_length : Int32) (hp0 : 0 ≤ v_t_text_length) (hp1 : v_t_text_length ≤ 64) (c_21 : ¬ (f_X4_isFull v_t_text_length) = 0) : 0 ≤ v_t_text_length := by grind [f_X4_isFull]
/- post1@26 -/ theorem s_X6_write_12 (v_t_text_length : Int32) (hp0 : 0 ≤ v_t_text_length) (hp1 : v_t_text_length ≤ 64) (c_21 : ¬ (f_X4_isFull v_t_text_length) = 0) : v_t_text_length ≤ 64 := by grind [f_X4_isFull]
/- post0@13 -/ theorem s_X6_write_13 (v_t_text_length : Int32) (hp0 : 0 ≤ v_t_text_length) (hp1 : v_t_text_length ≤ 64) : 0 ≤ v_t_text_length := by grind
/- post1@13 -/ theorem s_X6_write_14 (v_t_text_length : Int32) (hp0 : 0 ≤ v_t_text_length) (hp1 : v_t_text_length ≤ 64) : v_t_text_length ≤ 64 := by grind
set_option maxHeartbeats 4000000 in
set_option maxRecDepth 100000 in
theorem c_X6_write (l : Launch) (D : va_G) (cI cZ cO : ClassId) (a_t : Nat) (a_t_text : Nat) (a_t_told : Nat) (a_t_draft : Nat) (a_t_now : Nat) (a_t_acts : Nat) (a_t_sightings : Nat) (a_t_sides : Nat) (a_t_kept : Nat) (v_t_keptSlots : Int32) (v_t_theSeed : Int64) (a_t_text_bytes : Nat) (v_t_text_length : Int32) (f_t_text_bytes : Nat → Int32) (x1 : Int32) (sz : Nat) (hp0 : 0 ≤ v_t_text_length) (hp1 : v_t_text_length ≤ 64) : Met l yX6_write wsX6_write ({ frames := 2, cells := 0, slots := 0, locals := 41 }) (PcM D (tysG cI cZ cO) [.ref a_t, .int x1] sz [(a_t, .inr (6, [.ref a_t_text, .ref a_t_told, .ref a_t_draft, .ref a_t_now, .ref a_t_acts, .ref a_t_sightings, .ref a_t_sides, .ref a_t_kept, .int v_t_keptSlots, .long v_t_theSeed])), (a_t_text, .inr (4, [.ref a_t_text_bytes, .int v_t_text_length])), (a_t_text_bytes, .inl (cI, 64, .inl f_t_text_bytes))]) (va_Qi (fun (r : Int32) (u : Int32 × (Nat → Int32)) => (r, u) = f_X6_write v_t_text_length f_t_text_bytes x1 ∧ (0 ≤ u.1) ∧ (u.1 ≤ 64)) (BM D (va_A [(a_t, .inr (6, [.ref a_t_text, .ref a_t_told, .ref a_t_draft, .ref a_t_now, .ref a_t_acts, .ref a_t_sightings, .ref a_t_sides, .ref a_t_kept, .int v_t_keptSlots, .long v_t_theSeed])), (a_t_text, .inr (4, [.ref a_t_text_bytes, .int v_t_text_length])), (a_t_text_bytes, .inl (cI, 64, .inl f_t_text_bytes))] sz) (fun u : Int32 × (Nat → Int32) => [(a_t, .inr (6, [.ref a_t_text, .ref a_t_told, .ref a_t_draft, .ref a_t_now, .ref a_t_acts, .ref a_t_sightings, .ref a_t_sides, .ref a_t_kept, .int v_t_keptSlots, .long v_t_theSeed])), (a_t_text, .inr (4, [.ref a_t_text_bytes, .int u.1])), (a_t_text_bytes, .inl (cI, 64, .inl u.2))])) (va_A [(a_t, .inr (6, [.ref a_t_text, .ref a_t_told, .ref a_t_draft, .ref a_t_now, .ref a_t_acts, .ref a_t_sightings, .ref a_t_sides, .ref a_t_kept, .int v_t_keptSlots, .long v_t_theSeed])), (a_t_text, .inr (4, [.ref a_t_text_bytes, .int v_t_text_length])), (a_t_text_bytes, .inl (cI, 64, .inl f_t_text_bytes))] sz)) 0 0 (va_A [(a_t, .inr (6, [.ref a_t_text, .ref a_t_told, .ref a_t_draft, .ref a_t_now, .ref a_t_acts, .ref a_t_sightings, .ref a_t_sides, .ref a_t_kept, .int v_t_keptSlots, .long v_t_theSeed])), (a_t_text, .inr (4, [.ref a_t_text_bytes, .int v_t_text_length])), (a_t_text_bytes, .inl (cI, 64, .inl f_t_text_bytes))] sz) := by
  refine Met.ofW (cc := cX6_write) (maxL := 2) (ret := (some .int)) (by decide) rfl ?_
  intro p e s m args below meth c s₁ B hml hv
  obtain ⟨rfl, hsz, hP, hKX, hD0⟩ := hv
  have hx := B.exec
  have hb := B.bytes
  have hr := B.returns
  have hts := atoms_spec (ws := wsX6_write) B.pre
  have hown : s.vm.findClass RX6 = some m.cls := findClass_of_methodNamed B.named
  have hlocks := B.notSynchronized
  have hK := hKX.1
  have hwX6 : ∀ w ∈ wsX60, w ∈ wsX6_write := by decide +kernel
  subst hsz
  have hD := hD0.self (sz := s.heap.size)
  generalize hAe : va_A [(a_t, .inr (6, [.ref a_t_text, .ref a_t_told, .ref a_t_draft, .ref a_t_now, .ref a_t_acts, .ref a_t_sightings, .ref a_t_sides, .ref a_t_kept, .int v_t_keptSlots, .long v_t_theSeed])), (a_t_text, .inr (4, [.ref a_t_text_bytes, .int v_t_text_length])), (a_t_text_bytes, .inl (cI, 64, .inl f_t_text_bytes))] s.heap.size = A at hD ⊢
  have hA : ∀ q : Nat, s.heap.size ≤ q → A q := fun q h => by rw [← hAe]; exact Or.inr h
  have hS : va_S A s.heap s.heap [] := va_S.rf
  have hP : va_P D vwCl [(a_t, .inr (6, [.ref a_t_text, .ref a_t_told, .ref a_t_draft, .ref a_t_now, .ref a_t_acts, .ref a_t_sightings, .ref a_t_sides, .ref a_t_kept, .int v_t_keptSlots, .long v_t_theSeed])), (a_t_text, .inr (4, [.ref a_t_text_bytes, .int v_t_text_length])), (a_t_text_bytes, .inl (cI, 64, .inl f_t_text_bytes))] s.heap := hP
  have hl := lv_entry ([.ref a_t, .int x1]) (n := 2) (Nat.le_of_ble_eq_true rfl)
  rw [lg_entry_eq]
  generalize (lg_sl ([.ref a_t, .int x1]) ++ List.replicate (2 - (lg_sl ([.ref a_t, .int x1])).length) Slot.unset).toArray = ls at hl ⊢
  have hl : lv_has ls 2 [(0, .ref a_t), (1, .int x1)] := hl
  have hf := f_X6_write.eq_1 v_t_text_length f_t_text_bytes x1
  refine lv_iload_n hx hb dX6_write_0 rfl (lv_at hl 1 rfl) ?_
  refine lv_if_lt (tgt := 11) hx hb dX6_write_1 (by decide) (fun c_1 => ?_) (fun c_1 => ?_)
  · replace hf := hf.trans (if_pos c_1)
    refine lv_bipush (v := (-2)) hx hb dX6_write_11 (by decide) ?_
    exact W.iret (v := (-2)) hx hb hr (fun t ht hW => ⟨⟨(-2), (v_t_text_length, f_t_text_bytes), rfl, ⟨hf.symm, (s_X6_write_1 v_t_text_length hp0 hp1), (s_X6_write_2 v_t_text_length hp0 hp1)⟩, by rw [ht]; exact hP.sub [0, 1, 2] rfl, hD.sub [0, 1, 2] (by decide) rfl⟩, hS.F ht⟩) hS.2.2 dX6_write_13
  · replace hf := hf.trans (if_neg c_1)
    refine lv_iload_n hx hb dX6_write_4 rfl (lv_at hl 1 rfl) ?_
    refine lv_sipush (v := 255) hx hb dX6_write_5 (by decide) ?_
    refine lv_icmp_le (tgt := 14) hx hb dX6_write_8 (by decide) (fun c_8 => ?_) (fun c_8 => ?_)
    · replace hf := hf.trans (if_pos c_8)
      refine lv_aload_n hx hb dX6_write_14 rfl (lv_at hl 0 rfl) ?_
      refine va_get (D := D) (ci := 6) (v := .ref a_t_text) (C := RX6) (T := TX6) (N := 10) hx hb hts hwX6 hown hK hP 0 rfl rfl 0 (by decide) (hts (.fieldLink RX6 10 "SkippedDay" "text" "LSkippedDay$Text;") (by decide +kernel)) (fun _ h9 => h9) rfl dX6_write_15 ?_
      refine pcV (As := []) (rest := []) ⟨hx, hb, hml, hown, hts⟩ (c_X4_isFull l D cI cZ cO a_t_text a_t_text_bytes v_t_text_length (s_X6_write_3 v_t_text_length hp0 hp1) (s_X6_write_4 v_t_text_length hp0 hp1)) (cwV 0 hts gX6_write_X4_isFull rfl rfl rfl (by decide +kernel) ⟨Nat.le_of_ble_eq_true rfl, Nat.le_of_ble_eq_true rfl⟩) hKX hP [1] rfl 1 4 rfl rfl rfl rfl hl.1 rfl (Nat.le_of_ble_eq_true rfl) dX6_write_18 ⟨Nat.le_of_ble_eq_true rfl, Nat.le_of_ble_eq_true rfl⟩ ?_
      refine lv_if_eq (tgt := 27) hx hb dX6_write_21 (by decide) (fun c_21 => ?_) (fun c_21 => ?_)
      · replace hf := hf.trans (if_pos c_21)
        refine lv_aload_n hx hb dX6_write_27 rfl (lv_at hl 0 rfl) ?_
        refine va_get (D := D) (ci := 6) (v := .ref a_t_text) (C := RX6) (T := TX6) (N := 10) hx hb hts hwX6 hown hK hP 0 rfl rfl 0 (by decide) (hts (.fieldLink RX6 10 "SkippedDay" "text" "LSkippedDay$Text;") (by decide +kernel)) (fun _ h9 => h9) rfl dX6_write_28 ?_
        refine lv_iload_n hx hb dX6_write_31 rfl (lv_at hl 1 rfl) ?_
        refine callMv (As := [.int x1]) (rest := []) (wr := [(a_t, .inr (6, [.ref a_t_text, .ref a_t_told, .ref a_t_draft, .ref a_t_now, .ref a_t_acts, .ref a_t_sightings, .ref a_t_sides, .ref a_t_kept, .int v_t_keptSlots, .long v_t_theSeed]))]) ⟨hx, hb, hml, hown, hts⟩ (c_X4_append l D cI cZ cO a_t_text a_t_text_bytes v_t_text_length f_t_text_bytes x1 s.heap.size (s_X6_write_5 v_t_text_length hp0 hp1 c_21) (s_X6_write_6 v_t_text_length hp0 hp1 c_21)) (cwV 1 hts gX6_write_X4_append rfl rfl rfl (by decide +kernel) ⟨Nat.le_of_ble_eq_true rfl, Nat.le_of_ble_eq_true rfl⟩) hKX hP hD hS hA [1, 2] [0] rfl rfl (by decide) (by decide) (by decide) 1 4 rfl rfl rfl rfl hl.1 rfl (Nat.le_of_ble_eq_true rfl) dX6_write_32 ⟨Nat.le_of_ble_eq_true rfl, Nat.le_of_ble_eq_true rfl⟩ (fun u H locs hc32 hP hD hS => ?_)
        obtain ⟨u32_t_text_length, u32_t_text_bytes⟩ := u
        have hP : va_P D vwCl [(a_t, .inr (6, [.ref a_t_text, .ref a_t_told, .ref a_t_draft, .ref a_t_now, .ref a_t_acts, .ref a_t_sightings, .ref a_t_sides, .ref a_t_kept, .int v_t_keptSlots, .long v_t_theSeed])), (a_t_text, .inr (4, [.ref a_t_text_bytes, .int u32_t_text_length])), (a_t_text_bytes, .inl (cI, 64, .inl u32_t_text_bytes))] H := hP
        have hD : va_D A [(a_t, .inr (6, [.ref a_t_text, .ref a_t_told, .ref a_t_draft, .ref a_t_now, .ref a_t_acts, .ref a_t_sightings, .ref a_t_sides, .ref a_t_kept, .int v_t_keptSlots, .long v_t_theSeed])), (a_t_text, .inr (4, [.ref a_t_text_bytes, .int u32_t_text_length])), (a_t_text_bytes, .inl (cI, 64, .inl u32_t_text_bytes))] := hD
        have hq32_0 : 0 ≤ u32_t_text_length := hc32.2.1
        have hq32_1 : u32_t_text_length ≤ 64 := hc32.2.2
        replace hf := hf.trans (ap2_g hc32.1)
        refine lv_aload_n hx hb dX6_write_35 rfl (lv_at hl 0 rfl) ?_
        refine va_get (D := D) (ci := 6) (v := .ref a_t_text) (C := RX6) (T := TX6) (N := 10) hx hb hts hwX6 hown hK hP 0 rfl rfl 0 (by decide) (hts (.fieldLink RX6 10 "SkippedDay" "text" "LSkippedDay$Text;") (by decide +kernel)) (fun _ h9 => h9) rfl dX6_write_36 ?_
        refine pcV (As := []) (rest := []) ⟨hx, hb, hml, hown, hts⟩ (c_X4_length l D cI cZ cO a_t_text a_t_text_bytes u32_t_text_length (s_X6_write_7 u32_t_text_length hq32_0 hq32_1) (s_X6_write_8 u32_t_text_length hq32_0 hq32_1)) (cwV 0 hts gX6_write_X4_length rfl rfl rfl (by decide +kernel) ⟨Nat.le_of_ble_eq_true rfl, Nat.le_of_ble_eq_true rfl⟩) hKX hP [1] rfl 1 4 rfl rfl rfl rfl hl.1 rfl (Nat.le_of_ble_eq_true rfl) dX6_write_39 ⟨Nat.le_of_ble_eq_true rfl, Nat.le_of_ble_eq_true rfl⟩ ?_
        exact W.iret (v := f_X4_length u32_t_text_length) hx hb hr (fun t ht hW => ⟨⟨f_X4_length u32_t_text_length, (u32_t_text_length, u32_t_text_bytes), rfl, ⟨hf.symm, (s_X6_write_9 u32_t_text_length hq32_0 hq32_1), (s_X6_write_10 u32_t_text_length hq32_0 hq32_1)⟩, by rw [ht]; exact hP.sub [0, 1, 2] rfl, hD.sub [0, 1, 2] (by decide) rfl⟩, hS.F ht⟩) hS.2.2 dX6_write_42
      · replace hf := hf.trans (if_neg c_21)
        refine lv_bipush (v := (-4)) hx hb dX6_write_24 (by decide) ?_
        exact W.iret (v := (-4)) hx hb hr (fun t ht hW => ⟨⟨(-4), (v_t_text_length, f_t_text_bytes), rfl, ⟨hf.symm, (s_X6_write_11 v_t_text_length hp0 hp1 c_21), (s_X6_write_12 v_t_text_length hp0 hp1 c_21)⟩, by rw [ht]; exact hP.sub [0, 1, 2] rfl, hD.sub [0, 1, 2] (by decide) rfl⟩, hS.F ht⟩) hS.2.2 dX6_write_26
    · replace hf := hf.trans (if_neg c_8)
      refine lv_bipush (v := (-2)) hx hb dX6_write_11 (by decide) ?_
      exact W.iret (v := (-2)) hx hb hr (fun t ht hW => ⟨⟨(-2), (v_t_text_length, f_t_text_bytes), rfl, ⟨hf.symm, (s_X6_write_13 v_t_text_length hp0 hp1), (s_X6_write_14 v_t_text_length hp0 hp1)⟩, by rw [ht]; exact hP.sub [0, 1, 2] rfl, hD.sub [0, 1, 2] (by decide) rfl⟩, hS.F ht⟩) hS.2.2 dX6_write_13

def f_X6_wipe (v_t_text_length : Int32) : Int32 × Int32 :=
  ap1 (f_X4_clear) (fun u12_t_text_length => (f_X4_length v_t_text_length, u12_t_text_length))
/- hp0@4 -/ theorem s_X6_wipe_1 (v_t_text_length : Int32) (hp0 : 0 ≤ v_t_text_length) (hp1 : v_t_text_length ≤ 64) : 0 ≤ v_t_text_length := by grind
/- hp1@4 -/ theorem s_X6_wipe_2 (v_t_text_length : Int32) (hp0 : 0 ≤ v_t_text_length) (hp1 : v_t_text_length ≤ 64) : v_t_text_length ≤ 64 := by grind
/- hp0@12 -/ theorem s_X6_wipe_3 (v_t_text_length : Int32) (hp0 : 0 ≤ v_t_text_length) (hp1 : v_t_text_length ≤ 64) : 0 ≤ v_t_text_length := by grind
/- hp1@12 -/ theorem s_X6_wipe_4 (v_t_text_length : Int32) (hp0 : 0 ≤ v_t_text_length) (hp1 : v_t_text_length ≤ 64) : v_t_text_length ≤ 64 := by grind
/- post0@16 -/ theorem s_X6_wipe_5 (u12_t_text_length : Int32) (hq12_0 : 0 ≤ u12_t_text_length) (hq12_1 : u12_t_text_length ≤ 64) : 0 ≤ u12_t_text_length := by grind
/- post1@16 -/ theorem s_X6_wipe_6 (u12_t_text_length : Int32) (hq12_0 : 0 ≤ u12_t_text_length) (hq12_1 : u12_t_text_length ≤ 64) : u12_t_text_length ≤ 64 := by grind
set_option maxHeartbeats 4000000 in
set_option maxRecDepth 100000 in
theorem c_X6_wipe (l : Launch) (D : va_G) (cI cZ cO : ClassId) (a_t : Nat) (a_t_text : Nat) (a_t_told : Nat) (a_t_draft : Nat) (a_t_now : Nat) (a_t_acts : Nat) (a_t_sightings : Nat) (a_t_sides : Nat) (a_t_kept : Nat) (v_t_keptSlots : Int32) (v_t_theSeed : Int64) (a_t_text_bytes : Nat) (v_t_text_length : Int32) (sz : Nat) (hp0 : 0 ≤ v_t_text_length) (hp1 : v_t_text_length ≤ 64) : Met l yX6_wipe wsX6_wipe ({ frames := 1, cells := 0, slots := 0, locals := 20 }) (PcM D (tysG cI cZ cO) [.ref a_t] sz [(a_t, .inr (6, [.ref a_t_text, .ref a_t_told, .ref a_t_draft, .ref a_t_now, .ref a_t_acts, .ref a_t_sightings, .ref a_t_sides, .ref a_t_kept, .int v_t_keptSlots, .long v_t_theSeed])), (a_t_text, .inr (4, [.ref a_t_text_bytes, .int v_t_text_length]))]) (va_Qi (fun (r : Int32) (u : Int32) => (r, u) = f_X6_wipe v_t_text_length ∧ (0 ≤ u) ∧ (u ≤ 64)) (BM D (va_A [(a_t, .inr (6, [.ref a_t_text, .ref a_t_told, .ref a_t_draft, .ref a_t_now, .ref a_t_acts, .ref a_t_sightings, .ref a_t_sides, .ref a_t_kept, .int v_t_keptSlots, .long v_t_theSeed])), (a_t_text, .inr (4, [.ref a_t_text_bytes, .int v_t_text_length]))] sz) (fun u : Int32 => [(a_t, .inr (6, [.ref a_t_text, .ref a_t_told, .ref a_t_draft, .ref a_t_now, .ref a_t_acts, .ref a_t_sightings, .ref a_t_sides, .ref a_t_kept, .int v_t_keptSlots, .long v_t_theSeed])), (a_t_text, .inr (4, [.ref a_t_text_bytes, .int u]))])) (va_A [(a_t, .inr (6, [.ref a_t_text, .ref a_t_told, .ref a_t_draft, .ref a_t_now, .ref a_t_acts, .ref a_t_sightings, .ref a_t_sides, .ref a_t_kept, .int v_t_keptSlots, .long v_t_theSeed])), (a_t_text, .inr (4, [.ref a_t_text_bytes, .int v_t_text_length]))] sz)) 0 0 (va_A [(a_t, .inr (6, [.ref a_t_text, .ref a_t_told, .ref a_t_draft, .ref a_t_now, .ref a_t_acts, .ref a_t_sightings, .ref a_t_sides, .ref a_t_kept, .int v_t_keptSlots, .long v_t_theSeed])), (a_t_text, .inr (4, [.ref a_t_text_bytes, .int v_t_text_length]))] sz) := by
  refine Met.ofW (cc := cX6_wipe) (maxL := 2) (ret := (some .int)) (by decide) rfl ?_
  intro p e s m args below meth c s₁ B hml hv
  obtain ⟨rfl, hsz, hP, hKX, hD0⟩ := hv
  have hx := B.exec
  have hb := B.bytes
  have hr := B.returns
  have hts := atoms_spec (ws := wsX6_wipe) B.pre
  have hown : s.vm.findClass RX6 = some m.cls := findClass_of_methodNamed B.named
  have hlocks := B.notSynchronized
  have hK := hKX.1
  have hwX6 : ∀ w ∈ wsX60, w ∈ wsX6_wipe := by decide +kernel
  subst hsz
  have hD := hD0.self (sz := s.heap.size)
  generalize hAe : va_A [(a_t, .inr (6, [.ref a_t_text, .ref a_t_told, .ref a_t_draft, .ref a_t_now, .ref a_t_acts, .ref a_t_sightings, .ref a_t_sides, .ref a_t_kept, .int v_t_keptSlots, .long v_t_theSeed])), (a_t_text, .inr (4, [.ref a_t_text_bytes, .int v_t_text_length]))] s.heap.size = A at hD ⊢
  have hA : ∀ q : Nat, s.heap.size ≤ q → A q := fun q h => by rw [← hAe]; exact Or.inr h
  have hS : va_S A s.heap s.heap [] := va_S.rf
  have hP : va_P D vwCl [(a_t, .inr (6, [.ref a_t_text, .ref a_t_told, .ref a_t_draft, .ref a_t_now, .ref a_t_acts, .ref a_t_sightings, .ref a_t_sides, .ref a_t_kept, .int v_t_keptSlots, .long v_t_theSeed])), (a_t_text, .inr (4, [.ref a_t_text_bytes, .int v_t_text_length]))] s.heap := hP
  have hl := lv_entry ([.ref a_t]) (n := 2) (Nat.le_of_ble_eq_true rfl)
  rw [lg_entry_eq]
  generalize (lg_sl ([.ref a_t]) ++ List.replicate (2 - (lg_sl ([.ref a_t])).length) Slot.unset).toArray = ls at hl ⊢
  have hl : lv_has ls 2 [(0, .ref a_t)] := hl
  have hf := f_X6_wipe.eq_1 v_t_text_length
  refine lv_aload_n hx hb dX6_wipe_0 rfl (lv_at hl 0 rfl) ?_
  refine va_get (D := D) (ci := 6) (v := .ref a_t_text) (C := RX6) (T := TX6) (N := 10) hx hb hts hwX6 hown hK hP 0 rfl rfl 0 (by decide) (hts (.fieldLink RX6 10 "SkippedDay" "text" "LSkippedDay$Text;") (by decide +kernel)) (fun _ h9 => h9) rfl dX6_wipe_1 ?_
  refine pcV (As := []) (rest := []) ⟨hx, hb, hml, hown, hts⟩ (c_X4_length l D cI cZ cO a_t_text a_t_text_bytes v_t_text_length (s_X6_wipe_1 v_t_text_length hp0 hp1) (s_X6_wipe_2 v_t_text_length hp0 hp1)) (cwV 0 hts gX6_wipe_X4_length rfl rfl rfl (by decide +kernel) ⟨Nat.le_of_ble_eq_true rfl, Nat.le_of_ble_eq_true rfl⟩) hKX hP [1] rfl 1 4 rfl rfl rfl rfl hl.1 rfl (Nat.le_of_ble_eq_true rfl) dX6_wipe_4 ⟨Nat.le_of_ble_eq_true rfl, Nat.le_of_ble_eq_true rfl⟩ ?_
  refine lv_istore_n (lv' := [(1, .int (f_X4_length v_t_text_length)), (0, .ref a_t)]) hx hb dX6_wipe_7 rfl hl (by decide) rfl (fun ls hl => ?_)
  refine lv_aload_n hx hb dX6_wipe_8 rfl (lv_at hl 1 rfl) ?_
  refine va_get (D := D) (ci := 6) (v := .ref a_t_text) (C := RX6) (T := TX6) (N := 10) hx hb hts hwX6 hown hK hP 0 rfl rfl 0 (by decide) (hts (.fieldLink RX6 10 "SkippedDay" "text" "LSkippedDay$Text;") (by decide +kernel)) (fun _ h9 => h9) rfl dX6_wipe_9 ?_
  refine callMv (As := []) (rest := []) (wr := [(a_t, .inr (6, [.ref a_t_text, .ref a_t_told, .ref a_t_draft, .ref a_t_now, .ref a_t_acts, .ref a_t_sightings, .ref a_t_sides, .ref a_t_kept, .int v_t_keptSlots, .long v_t_theSeed]))]) ⟨hx, hb, hml, hown, hts⟩ (c_X4_clear l D cI cZ cO a_t_text a_t_text_bytes v_t_text_length s.heap.size (s_X6_wipe_3 v_t_text_length hp0 hp1) (s_X6_wipe_4 v_t_text_length hp0 hp1)) (cwV 0 hts gX6_wipe_X4_clear rfl rfl rfl (by decide +kernel) ⟨Nat.le_of_ble_eq_true rfl, Nat.le_of_ble_eq_true rfl⟩) hKX hP hD hS hA [1] [0] rfl rfl (by decide) (by decide) (by decide) 1 4 rfl rfl rfl rfl hl.1 rfl (Nat.le_of_ble_eq_true rfl) dX6_wipe_12 ⟨Nat.le_of_ble_eq_true rfl, Nat.le_of_ble_eq_true rfl⟩ (fun u H locs hc12 hP hD hS => ?_)
  obtain ⟨u12_t_text_length, rfl⟩ : ∃ z, z = u := ⟨_, rfl⟩
  have hP : va_P D vwCl [(a_t, .inr (6, [.ref a_t_text, .ref a_t_told, .ref a_t_draft, .ref a_t_now, .ref a_t_acts, .ref a_t_sightings, .ref a_t_sides, .ref a_t_kept, .int v_t_keptSlots, .long v_t_theSeed])), (a_t_text, .inr (4, [.ref a_t_text_bytes, .int u12_t_text_length]))] H := hP
  have hD : va_D A [(a_t, .inr (6, [.ref a_t_text, .ref a_t_told, .ref a_t_draft, .ref a_t_now, .ref a_t_acts, .ref a_t_sightings, .ref a_t_sides, .ref a_t_kept, .int v_t_keptSlots, .long v_t_theSeed])), (a_t_text, .inr (4, [.ref a_t_text_bytes, .int u12_t_text_length]))] := hD
  have hq12_0 : 0 ≤ u12_t_text_length := hc12.2.1
  have hq12_1 : u12_t_text_length ≤ 64 := hc12.2.2
  replace hf := hf.trans (ap1_g hc12.1)
  refine lv_iload_n hx hb dX6_wipe_15 rfl (lv_at hl 0 rfl) ?_
  exact W.iret (v := f_X4_length v_t_text_length) hx hb hr (fun t ht hW => ⟨⟨f_X4_length v_t_text_length, (u12_t_text_length), rfl, ⟨hf.symm, (s_X6_wipe_5 u12_t_text_length hq12_0 hq12_1), (s_X6_wipe_6 u12_t_text_length hq12_0 hq12_1)⟩, by rw [ht]; exact hP.sub [0, 1] rfl, hD.sub [0, 1] (by decide) rfl⟩, hS.F ht⟩) hS.2.2 dX6_wipe_16

def f_X6_gapOrNone (x0 : Int32) : Int32 :=
  if ¬ x0 = 13 then x0 else (-9)
set_option maxHeartbeats 4000000 in
set_option maxRecDepth 100000 in
theorem c_X6_gapOrNone (l : Launch) (D : va_G) (cI cZ cO : ClassId) (x0 : Int32) : Met l yX6_gapOrNone wsX6_gapOrNone ({ frames := 0, cells := 0, slots := 0, locals := 0 }) (PcP D (tysG cI cZ cO) [.int x0] []) (QP (.int (f_X6_gapOrNone x0))) 0 0 (fun _ => False) := by
  refine Met.ofW (cc := cX6_gapOrNone) (maxL := 1) (ret := (some .int)) (by decide) rfl ?_
  intro p e s m args below meth c s₁ B hml hv
  obtain ⟨rfl, hP, hKX⟩ := hv
  have hx := B.exec
  have hb := B.bytes
  have hr := B.returns
  have hts := atoms_spec (ws := wsX6_gapOrNone) B.pre
  have hown : s.vm.findClass RX6 = some m.cls := findClass_of_methodNamed B.named
  have hlocks := B.notSynchronized
  have hK := hKX.1
  have hl := lv_entry ([.int x0]) (n := 1) (Nat.le_of_ble_eq_true rfl)
  rw [lg_entry_eq]
  generalize (lg_sl ([.int x0]) ++ List.replicate (1 - (lg_sl ([.int x0])).length) Slot.unset).toArray = ls at hl ⊢
  have hl : lv_has ls 1 [(0, .int x0)] := hl
  have hf := f_X6_gapOrNone.eq_1 x0
  refine lv_iload_n hx hb dX6_gapOrNone_0 rfl (lv_at hl 0 rfl) ?_
  refine lv_bipush (v := 13) hx hb dX6_gapOrNone_1 (by decide) ?_
  refine lv_icmp_ne (tgt := 11) hx hb dX6_gapOrNone_3 (by decide) (fun c_3 => ?_) (fun c_3 => ?_)
  · replace hf := hf.trans (if_pos c_3)
    refine lv_iload_n hx hb dX6_gapOrNone_11 rfl (lv_at hl 0 rfl) ?_
    exact W.iret (v := x0) hx hb hr (fun t ht hW => ⟨congrArg (fun z => Outcome.returned (some (Value.int z))) hf.symm, ht⟩) (fun _ h => absurd h List.not_mem_nil) dX6_gapOrNone_12
  · replace hf := hf.trans (if_neg (fun h9 => h9 c_3))
    refine lv_bipush (v := (-9)) hx hb dX6_gapOrNone_6 (by decide) ?_
    refine lv_goto (tgt := 12) hx hb dX6_gapOrNone_8 (by decide) ?_
    exact W.iret (v := (-9)) hx hb hr (fun t ht hW => ⟨congrArg (fun z => Outcome.returned (some (Value.int z))) hf.symm, ht⟩) (fun _ h => absurd h List.not_mem_nil) dX6_gapOrNone_12

def f_X6_comingOf (x0 : Int32) (x1 : Int32) : Int32 :=
  if x1 ≤ x0 then x0 + 1 else x0
set_option maxHeartbeats 4000000 in
set_option maxRecDepth 100000 in
theorem c_X6_comingOf (l : Launch) (D : va_G) (cI cZ cO : ClassId) (x0 : Int32) (x1 : Int32) : Met l yX6_comingOf wsX6_comingOf ({ frames := 0, cells := 0, slots := 0, locals := 0 }) (PcP D (tysG cI cZ cO) [.int x0, .int x1] []) (QP (.int (f_X6_comingOf x0 x1))) 0 0 (fun _ => False) := by
  refine Met.ofW (cc := cX6_comingOf) (maxL := 2) (ret := (some .int)) (by decide) rfl ?_
  intro p e s m args below meth c s₁ B hml hv
  obtain ⟨rfl, hP, hKX⟩ := hv
  have hx := B.exec
  have hb := B.bytes
  have hr := B.returns
  have hts := atoms_spec (ws := wsX6_comingOf) B.pre
  have hown : s.vm.findClass RX6 = some m.cls := findClass_of_methodNamed B.named
  have hlocks := B.notSynchronized
  have hK := hKX.1
  have hl := lv_entry ([.int x0, .int x1]) (n := 2) (Nat.le_of_ble_eq_true rfl)
  rw [lg_entry_eq]
  generalize (lg_sl ([.int x0, .int x1]) ++ List.replicate (2 - (lg_sl ([.int x0, .int x1])).length) Slot.unset).toArray = ls at hl ⊢
  have hl : lv_has ls 2 [(0, .int x0), (1, .int x1)] := hl
  have hf := f_X6_comingOf.eq_1 x0 x1
  refine lv_iload_n hx hb dX6_comingOf_0 rfl (lv_at hl 0 rfl) ?_
  refine lv_iload_n hx hb dX6_comingOf_1 rfl (lv_at hl 1 rfl) ?_
  refine lv_icmp_ge (tgt := 9) hx hb dX6_comingOf_2 (by decide) (fun c_2 => ?_) (fun c_2 => ?_)
  · replace hf := hf.trans (if_pos c_2)
    refine lv_iload_n hx hb dX6_comingOf_9 rfl (lv_at hl 0 rfl) ?_
    refine lv_iconst (v := 1) hx hb dX6_comingOf_10 (by decide) ?_
    refine lv_iadd hx hb dX6_comingOf_11 ?_
    exact W.iret (v := x0 + 1) hx hb hr (fun t ht hW => ⟨congrArg (fun z => Outcome.returned (some (Value.int z))) hf.symm, ht⟩) (fun _ h => absurd h List.not_mem_nil) dX6_comingOf_12
  · replace hf := hf.trans (if_neg c_2)
    refine lv_iload_n hx hb dX6_comingOf_5 rfl (lv_at hl 0 rfl) ?_
    refine lv_goto (tgt := 12) hx hb dX6_comingOf_6 (by decide) ?_
    exact W.iret (v := x0) hx hb hr (fun t ht hW => ⟨congrArg (fun z => Outcome.returned (some (Value.int z))) hf.symm, ht⟩) (fun _ h => absurd h List.not_mem_nil) dX6_comingOf_12

def f_X6_endOf (f_t_told_cells : Nat → Int32) (x1 : Int32) (x2 : Int32) (x3 : Int32) : Int32 :=
  if x2 = 0 then f_X6_comingOf (f_X5_lengthOf f_t_told_cells x1) x3 else (f_X6_comingOf (f_X5_startOf f_t_told_cells x1) x3) + (f_X5_lengthOf f_t_told_cells x1)
set_option maxHeartbeats 4000000 in
set_option maxRecDepth 100000 in
theorem c_X6_endOf (l : Launch) (D : va_G) (cI cZ cO : ClassId) (a_t : Nat) (a_t_text : Nat) (a_t_told : Nat) (a_t_draft : Nat) (a_t_now : Nat) (a_t_acts : Nat) (a_t_sightings : Nat) (a_t_sides : Nat) (a_t_kept : Nat) (v_t_keptSlots : Int32) (v_t_theSeed : Int64) (a_t_told_sizes : Nat) (a_t_told_cells : Nat) (f_t_told_cells : Nat → Int32) (x1 : Int32) (x2 : Int32) (x3 : Int32) : Met l yX6_endOf wsX6_endOf ({ frames := 3, cells := 0, slots := 0, locals := 67 }) (PcP D (tysG cI cZ cO) [.ref a_t, .int x1, .int x2, .int x3] [(a_t, .inr (6, [.ref a_t_text, .ref a_t_told, .ref a_t_draft, .ref a_t_now, .ref a_t_acts, .ref a_t_sightings, .ref a_t_sides, .ref a_t_kept, .int v_t_keptSlots, .long v_t_theSeed])), (a_t_told, .inr (5, [.ref a_t_told_sizes, .ref a_t_told_cells])), (a_t_told_cells, .inl (cI, 120, .inl f_t_told_cells))]) (QP (.int (f_X6_endOf f_t_told_cells x1 x2 x3))) 0 0 (fun _ => False) := by
  refine Met.ofW (cc := cX6_endOf) (maxL := 5) (ret := (some .int)) (by decide) rfl ?_
  intro p e s m args below meth c s₁ B hml hv
  obtain ⟨rfl, hP, hKX⟩ := hv
  have hx := B.exec
  have hb := B.bytes
  have hr := B.returns
  have hts := atoms_spec (ws := wsX6_endOf) B.pre
  have hown : s.vm.findClass RX6 = some m.cls := findClass_of_methodNamed B.named
  have hlocks := B.notSynchronized
  have hK := hKX.1
  have hwX6 : ∀ w ∈ wsX60, w ∈ wsX6_endOf := by decide +kernel
  have hl := lv_entry ([.ref a_t, .int x1, .int x2, .int x3]) (n := 5) (Nat.le_of_ble_eq_true rfl)
  rw [lg_entry_eq]
  generalize (lg_sl ([.ref a_t, .int x1, .int x2, .int x3]) ++ List.replicate (5 - (lg_sl ([.ref a_t, .int x1, .int x2, .int x3])).length) Slot.unset).toArray = ls at hl ⊢
  have hl : lv_has ls 5 [(0, .ref a_t), (1, .int x1), (2, .int x2), (3, .int x3)] := hl
  have hf := f_X6_endOf.eq_1 f_t_told_cells x1 x2 x3
  refine lv_aload_n hx hb dX6_endOf_0 rfl (lv_at hl 0 rfl) ?_
  refine va_get (D := D) (ci := 6) (v := .ref a_t_told) (C := RX6) (T := TX6) (N := 10) hx hb hts hwX6 hown hK hP 0 rfl rfl 1 (by decide) (hts (.fieldLink RX6 19 "SkippedDay" "told" "LSkippedDay$Told;") (by decide +kernel)) (fun _ h9 => h9) rfl dX6_endOf_1 ?_
  refine lv_iload_n hx hb dX6_endOf_4 rfl (lv_at hl 1 rfl) ?_
  refine pcV (As := [.int x1]) (rest := []) ⟨hx, hb, hml, hown, hts⟩ (c_X5_lengthOf l D cI cZ cO a_t_told a_t_told_sizes a_t_told_cells f_t_told_cells x1) (cwV 1 hts gX6_endOf_X5_lengthOf rfl rfl rfl (by decide +kernel) ⟨Nat.le_of_ble_eq_true rfl, Nat.le_of_ble_eq_true rfl⟩) hKX hP [1, 2] rfl 1 5 rfl rfl rfl rfl hl.1 rfl (Nat.le_of_ble_eq_true rfl) dX6_endOf_5 ⟨Nat.le_of_ble_eq_true rfl, Nat.le_of_ble_eq_true rfl⟩ ?_
  refine lv_istore (lv' := [(4, .int (f_X5_lengthOf f_t_told_cells x1)), (0, .ref a_t), (1, .int x1), (2, .int x2), (3, .int x3)]) hx hb dX6_endOf_8 hl (by decide) rfl (fun ls hl => ?_)
  refine lv_iload_n hx hb dX6_endOf_10 rfl (lv_at hl 3 rfl) ?_
  refine lv_if_eq (tgt := 32) hx hb dX6_endOf_11 (by decide) (fun c_11 => ?_) (fun c_11 => ?_)
  · replace hf := hf.trans (if_pos c_11)
    refine lv_iload hx hb dX6_endOf_32 (lv_at hl 0 rfl) ?_
    refine lv_iload_n hx hb dX6_endOf_34 rfl (lv_at hl 4 rfl) ?_
    refine pcS (As := [.int (f_X5_lengthOf f_t_told_cells x1), .int x3]) (rest := []) ⟨hx, hb, hml, hown, hts⟩ (c_X6_comingOf l D cI cZ cO (f_X5_lengthOf f_t_told_cells x1) x3) (va_cwS 2 hts gX6_endOf_X6_comingOf rfl rfl rfl (by decide +kernel) ⟨Nat.le_of_ble_eq_true rfl, Nat.le_of_ble_eq_true rfl⟩) hKX hP [] rfl rfl hl.1 rfl (Nat.le_of_ble_eq_true rfl) dX6_endOf_35 ⟨Nat.le_of_ble_eq_true rfl, Nat.le_of_ble_eq_true rfl⟩ ?_
    exact W.iret (v := f_X6_comingOf (f_X5_lengthOf f_t_told_cells x1) x3) hx hb hr (fun t ht hW => ⟨congrArg (fun z => Outcome.returned (some (Value.int z))) hf.symm, ht⟩) (fun _ h => absurd h List.not_mem_nil) dX6_endOf_38
  · replace hf := hf.trans (if_neg c_11)
    refine lv_aload_n hx hb dX6_endOf_14 rfl (lv_at hl 1 rfl) ?_
    refine va_get (D := D) (ci := 6) (v := .ref a_t_told) (C := RX6) (T := TX6) (N := 10) hx hb hts hwX6 hown hK hP 0 rfl rfl 1 (by decide) (hts (.fieldLink RX6 19 "SkippedDay" "told" "LSkippedDay$Told;") (by decide +kernel)) (fun _ h9 => h9) rfl dX6_endOf_15 ?_
    refine lv_iload_n hx hb dX6_endOf_18 rfl (lv_at hl 2 rfl) ?_
    refine pcV (As := [.int x1]) (rest := []) ⟨hx, hb, hml, hown, hts⟩ (c_X5_startOf l D cI cZ cO a_t_told a_t_told_sizes a_t_told_cells f_t_told_cells x1) (cwV 1 hts gX6_endOf_X5_startOf rfl rfl rfl (by decide +kernel) ⟨Nat.le_of_ble_eq_true rfl, Nat.le_of_ble_eq_true rfl⟩) hKX hP [1, 2] rfl 1 5 rfl rfl rfl rfl hl.1 rfl (Nat.le_of_ble_eq_true rfl) dX6_endOf_19 ⟨Nat.le_of_ble_eq_true rfl, Nat.le_of_ble_eq_true rfl⟩ ?_
    refine lv_iload_n hx hb dX6_endOf_22 rfl (lv_at hl 4 rfl) ?_
    refine pcS (As := [.int (f_X5_startOf f_t_told_cells x1), .int x3]) (rest := []) ⟨hx, hb, hml, hown, hts⟩ (c_X6_comingOf l D cI cZ cO (f_X5_startOf f_t_told_cells x1) x3) (va_cwS 2 hts gX6_endOf_X6_comingOf rfl rfl rfl (by decide +kernel) ⟨Nat.le_of_ble_eq_true rfl, Nat.le_of_ble_eq_true rfl⟩) hKX hP [] rfl rfl hl.1 rfl (Nat.le_of_ble_eq_true rfl) dX6_endOf_23 ⟨Nat.le_of_ble_eq_true rfl, Nat.le_of_ble_eq_true rfl⟩ ?_
    refine lv_iload hx hb dX6_endOf_26 (lv_at hl 0 rfl) ?_
    refine lv_iadd hx hb dX6_endOf_28 ?_
    refine lv_goto (tgt := 38) hx hb dX6_endOf_29 (by decide) ?_
    exact W.iret (v := (f_X6_comingOf (f_X5_startOf f_t_told_cells x1) x3) + (f_X5_lengthOf f_t_told_cells x1)) hx hb hr (fun t ht hW => ⟨congrArg (fun z => Outcome.returned (some (Value.int z))) hf.symm, ht⟩) (fun _ h => absurd h List.not_mem_nil) dX6_endOf_38

def f_X6_holdsAt (f_t_told_cells : Nat → Int32) (v_t_now_counted : Int32) (x1 : Int32) (x2 : Int32) : Int32 :=
  if (f_X6_comingOf (f_X5_latestOf f_t_told_cells x1) x2) < (f_X6_endOf f_t_told_cells x1 (f_X3_isByCount v_t_now_counted x1) x2) then 0 else if ((f_X6_endOf f_t_told_cells x1 (f_X3_isByCount v_t_now_counted x1) x2) - (f_X6_comingOf (f_X5_startOf f_t_told_cells x1) x2)) < (f_X5_leastOf f_t_told_cells x1) then 0 else 1
set_option maxHeartbeats 4000000 in
set_option maxRecDepth 100000 in
theorem c_X6_holdsAt (l : Launch) (D : va_G) (cI cZ cO : ClassId) (a_t : Nat) (a_t_text : Nat) (a_t_told : Nat) (a_t_draft : Nat) (a_t_now : Nat) (a_t_acts : Nat) (a_t_sightings : Nat) (a_t_sides : Nat) (a_t_kept : Nat) (v_t_keptSlots : Int32) (v_t_theSeed : Int64) (a_t_told_sizes : Nat) (a_t_told_cells : Nat) (f_t_told_cells : Nat → Int32) (v_t_now_place : Int32) (v_t_now_voided : Int32) (v_t_now_counted : Int32) (x1 : Int32) (x2 : Int32) : Met l yX6_holdsAt wsX6_holdsAt ({ frames := 4, cells := 0, slots := 0, locals := 91 }) (PcP D (tysG cI cZ cO) [.ref a_t, .int x1, .int x2] [(a_t, .inr (6, [.ref a_t_text, .ref a_t_told, .ref a_t_draft, .ref a_t_now, .ref a_t_acts, .ref a_t_sightings, .ref a_t_sides, .ref a_t_kept, .int v_t_keptSlots, .long v_t_theSeed])), (a_t_told, .inr (5, [.ref a_t_told_sizes, .ref a_t_told_cells])), (a_t_told_cells, .inl (cI, 120, .inl f_t_told_cells)), (a_t_now, .inr (3, [.int v_t_now_place, .int v_t_now_voided, .int v_t_now_counted]))]) (QP (.int (f_X6_holdsAt f_t_told_cells v_t_now_counted x1 x2))) 0 0 (fun _ => False) := by
  refine Met.ofW (cc := cX6_holdsAt) (maxL := 5) (ret := (some .boolean)) (by decide) rfl ?_
  intro p e s m args below meth c s₁ B hml hv
  obtain ⟨rfl, hP, hKX⟩ := hv
  have hx := B.exec
  have hb := B.bytes
  have hr := B.returns
  have hts := atoms_spec (ws := wsX6_holdsAt) B.pre
  have hown : s.vm.findClass RX6 = some m.cls := findClass_of_methodNamed B.named
  have hlocks := B.notSynchronized
  have hK := hKX.1
  have hwX6 : ∀ w ∈ wsX60, w ∈ wsX6_holdsAt := by decide +kernel
  have hl := lv_entry ([.ref a_t, .int x1, .int x2]) (n := 5) (Nat.le_of_ble_eq_true rfl)
  rw [lg_entry_eq]
  generalize (lg_sl ([.ref a_t, .int x1, .int x2]) ++ List.replicate (5 - (lg_sl ([.ref a_t, .int x1, .int x2])).length) Slot.unset).toArray = ls at hl ⊢
  have hl : lv_has ls 5 [(0, .ref a_t), (1, .int x1), (2, .int x2)] := hl
  have hf := f_X6_holdsAt.eq_1 f_t_told_cells v_t_now_counted x1 x2
  refine lv_aload_n hx hb dX6_holdsAt_0 rfl (lv_at hl 0 rfl) ?_
  refine lv_iload_n hx hb dX6_holdsAt_1 rfl (lv_at hl 1 rfl) ?_
  refine lv_aload_n hx hb dX6_holdsAt_2 rfl (lv_at hl 0 rfl) ?_
  refine va_get (D := D) (ci := 6) (v := .ref a_t_now) (C := RX6) (T := TX6) (N := 10) hx hb hts hwX6 hown hK hP 0 rfl rfl 3 (by decide) (hts (.fieldLink RX6 29 "SkippedDay" "now" "LSkippedDay$Standing;") (by decide +kernel)) (fun _ h9 => h9) rfl dX6_holdsAt_3 ?_
  refine lv_iload_n hx hb dX6_holdsAt_6 rfl (lv_at hl 1 rfl) ?_
  refine pcV (As := [.int x1]) (rest := [.int x1, .ref a_t]) ⟨hx, hb, hml, hown, hts⟩ (c_X3_isByCount l D cI cZ cO a_t_now v_t_now_place v_t_now_voided v_t_now_counted x1) (cwV 1 hts gX6_holdsAt_X3_isByCount rfl rfl rfl (by decide +kernel) ⟨Nat.le_of_ble_eq_true rfl, Nat.le_of_ble_eq_true rfl⟩) hKX hP [3] rfl 3 3 rfl rfl rfl rfl hl.1 rfl (Nat.le_of_ble_eq_true rfl) dX6_holdsAt_7 ⟨Nat.le_of_ble_eq_true rfl, Nat.le_of_ble_eq_true rfl⟩ ?_
  refine lv_iload_n hx hb dX6_holdsAt_10 rfl (lv_at hl 2 rfl) ?_
  refine pcV (As := [.int x1, .int (f_X3_isByCount v_t_now_counted x1), .int x2]) (rest := []) ⟨hx, hb, hml, hown, hts⟩ (c_X6_endOf l D cI cZ cO a_t a_t_text a_t_told a_t_draft a_t_now a_t_acts a_t_sightings a_t_sides a_t_kept v_t_keptSlots v_t_theSeed a_t_told_sizes a_t_told_cells f_t_told_cells x1 (f_X3_isByCount v_t_now_counted x1) x2) (cwV 3 hts gX6_holdsAt_X6_endOf rfl rfl rfl (by decide +kernel) ⟨Nat.le_of_ble_eq_true rfl, Nat.le_of_ble_eq_true rfl⟩) hKX hP [0, 1, 2] rfl 0 6 rfl rfl rfl rfl hl.1 rfl (Nat.le_of_ble_eq_true rfl) dX6_holdsAt_11 ⟨Nat.le_of_ble_eq_true rfl, Nat.le_of_ble_eq_true rfl⟩ ?_
  refine lv_istore_n (lv' := [(3, .int (f_X6_endOf f_t_told_cells x1 (f_X3_isByCount v_t_now_counted x1) x2)), (0, .ref a_t), (1, .int x1), (2, .int x2)]) hx hb dX6_holdsAt_14 rfl hl (by decide) rfl (fun ls hl => ?_)
  refine lv_iload_n hx hb dX6_holdsAt_15 rfl (lv_at hl 0 rfl) ?_
  refine lv_aload_n hx hb dX6_holdsAt_16 rfl (lv_at hl 1 rfl) ?_
  refine va_get (D := D) (ci := 6) (v := .ref a_t_told) (C := RX6) (T := TX6) (N := 10) hx hb hts hwX6 hown hK hP 0 rfl rfl 1 (by decide) (hts (.fieldLink RX6 19 "SkippedDay" "told" "LSkippedDay$Told;") (by decide +kernel)) (fun _ h9 => h9) rfl dX6_holdsAt_17 ?_
  refine lv_iload_n hx hb dX6_holdsAt_20 rfl (lv_at hl 2 rfl) ?_
  refine pcV (As := [.int x1]) (rest := [.int (f_X6_endOf f_t_told_cells x1 (f_X3_isByCount v_t_now_counted x1) x2)]) ⟨hx, hb, hml, hown, hts⟩ (c_X5_startOf l D cI cZ cO a_t_told a_t_told_sizes a_t_told_cells f_t_told_cells x1) (cwV 1 hts gX6_holdsAt_X5_startOf rfl rfl rfl (by decide +kernel) ⟨Nat.le_of_ble_eq_true rfl, Nat.le_of_ble_eq_true rfl⟩) hKX hP [1, 2] rfl 1 5 rfl rfl rfl rfl hl.1 rfl (Nat.le_of_ble_eq_true rfl) dX6_holdsAt_21 ⟨Nat.le_of_ble_eq_true rfl, Nat.le_of_ble_eq_true rfl⟩ ?_
  refine lv_iload_n hx hb dX6_holdsAt_24 rfl (lv_at hl 3 rfl) ?_
  refine pcS (As := [.int (f_X5_startOf f_t_told_cells x1), .int x2]) (rest := [.int (f_X6_endOf f_t_told_cells x1 (f_X3_isByCount v_t_now_counted x1) x2)]) ⟨hx, hb, hml, hown, hts⟩ (c_X6_comingOf l D cI cZ cO (f_X5_startOf f_t_told_cells x1) x2) (va_cwS 2 hts gX6_holdsAt_X6_comingOf rfl rfl rfl (by decide +kernel) ⟨Nat.le_of_ble_eq_true rfl, Nat.le_of_ble_eq_true rfl⟩) hKX hP [] rfl rfl hl.1 rfl (Nat.le_of_ble_eq_true rfl) dX6_holdsAt_25 ⟨Nat.le_of_ble_eq_true rfl, Nat.le_of_ble_eq_true rfl⟩ ?_
  refine lv_isub hx hb dX6_holdsAt_28 ?_
  refine lv_istore (lv' := [(4, .int ((f_X6_endOf f_t_told_cells x1 (f_X3_isByCount v_t_now_counted x1) x2) - (f_X6_comingOf (f_X5_startOf f_t_told_cells x1) x2))), (3, .int (f_X6_endOf f_t_told_cells x1 (f_X3_isByCount v_t_now_counted x1) x2)), (0, .ref a_t), (1, .int x1), (2, .int x2)]) hx hb dX6_holdsAt_29 hl (by decide) rfl (fun ls hl => ?_)
  refine lv_iload_n hx hb dX6_holdsAt_31 rfl (lv_at hl 1 rfl) ?_
  refine lv_aload_n hx hb dX6_holdsAt_32 rfl (lv_at hl 2 rfl) ?_
  refine va_get (D := D) (ci := 6) (v := .ref a_t_told) (C := RX6) (T := TX6) (N := 10) hx hb hts hwX6 hown hK hP 0 rfl rfl 1 (by decide) (hts (.fieldLink RX6 19 "SkippedDay" "told" "LSkippedDay$Told;") (by decide +kernel)) (fun _ h9 => h9) rfl dX6_holdsAt_33 ?_
  refine lv_iload_n hx hb dX6_holdsAt_36 rfl (lv_at hl 3 rfl) ?_
  refine pcV (As := [.int x1]) (rest := [.int (f_X6_endOf f_t_told_cells x1 (f_X3_isByCount v_t_now_counted x1) x2)]) ⟨hx, hb, hml, hown, hts⟩ (c_X5_latestOf l D cI cZ cO a_t_told a_t_told_sizes a_t_told_cells f_t_told_cells x1) (cwV 1 hts gX6_holdsAt_X5_latestOf rfl rfl rfl (by decide +kernel) ⟨Nat.le_of_ble_eq_true rfl, Nat.le_of_ble_eq_true rfl⟩) hKX hP [1, 2] rfl 1 5 rfl rfl rfl rfl hl.1 rfl (Nat.le_of_ble_eq_true rfl) dX6_holdsAt_37 ⟨Nat.le_of_ble_eq_true rfl, Nat.le_of_ble_eq_true rfl⟩ ?_
  refine lv_iload_n hx hb dX6_holdsAt_40 rfl (lv_at hl 4 rfl) ?_
  refine pcS (As := [.int (f_X5_latestOf f_t_told_cells x1), .int x2]) (rest := [.int (f_X6_endOf f_t_told_cells x1 (f_X3_isByCount v_t_now_counted x1) x2)]) ⟨hx, hb, hml, hown, hts⟩ (c_X6_comingOf l D cI cZ cO (f_X5_latestOf f_t_told_cells x1) x2) (va_cwS 2 hts gX6_holdsAt_X6_comingOf rfl rfl rfl (by decide +kernel) ⟨Nat.le_of_ble_eq_true rfl, Nat.le_of_ble_eq_true rfl⟩) hKX hP [] rfl rfl hl.1 rfl (Nat.le_of_ble_eq_true rfl) dX6_holdsAt_41 ⟨Nat.le_of_ble_eq_true rfl, Nat.le_of_ble_eq_true rfl⟩ ?_
  refine lv_icmp_gt (tgt := 64) hx hb dX6_holdsAt_44 (by decide) (fun c_44 => ?_) (fun c_44 => ?_)
  · replace hf := hf.trans (if_pos c_44)
    refine lv_iconst (v := 0) hx hb dX6_holdsAt_64 (by decide) ?_
    exact W.zret (ty := .boolean) (v := 0) hx hb hr rfl (fun t ht hW => ⟨congrArg (fun z => Outcome.returned (some (Value.int z))) hf.symm, ht⟩) (fun _ h => absurd h List.not_mem_nil) dX6_holdsAt_65
  · replace hf := hf.trans (if_neg c_44)
    refine lv_iload hx hb dX6_holdsAt_47 (lv_at hl 0 rfl) ?_
    refine lv_aload_n hx hb dX6_holdsAt_49 rfl (lv_at hl 2 rfl) ?_
    refine va_get (D := D) (ci := 6) (v := .ref a_t_told) (C := RX6) (T := TX6) (N := 10) hx hb hts hwX6 hown hK hP 0 rfl rfl 1 (by decide) (hts (.fieldLink RX6 19 "SkippedDay" "told" "LSkippedDay$Told;") (by decide +kernel)) (fun _ h9 => h9) rfl dX6_holdsAt_50 ?_
    refine lv_iload_n hx hb dX6_holdsAt_53 rfl (lv_at hl 3 rfl) ?_
    refine pcV (As := [.int x1]) (rest := [.int ((f_X6_endOf f_t_told_cells x1 (f_X3_isByCount v_t_now_counted x1) x2) - (f_X6_comingOf (f_X5_startOf f_t_told_cells x1) x2))]) ⟨hx, hb, hml, hown, hts⟩ (c_X5_leastOf l D cI cZ cO a_t_told a_t_told_sizes a_t_told_cells f_t_told_cells x1) (cwV 1 hts gX6_holdsAt_X5_leastOf rfl rfl rfl (by decide +kernel) ⟨Nat.le_of_ble_eq_true rfl, Nat.le_of_ble_eq_true rfl⟩) hKX hP [1, 2] rfl 1 5 rfl rfl rfl rfl hl.1 rfl (Nat.le_of_ble_eq_true rfl) dX6_holdsAt_54 ⟨Nat.le_of_ble_eq_true rfl, Nat.le_of_ble_eq_true rfl⟩ ?_
    refine lv_icmp_lt (tgt := 64) hx hb dX6_holdsAt_57 (by decide) (fun c_57 => ?_) (fun c_57 => ?_)
    · replace hf := hf.trans (if_pos c_57)
      refine lv_iconst (v := 0) hx hb dX6_holdsAt_64 (by decide) ?_
      exact W.zret (ty := .boolean) (v := 0) hx hb hr rfl (fun t ht hW => ⟨congrArg (fun z => Outcome.returned (some (Value.int z))) hf.symm, ht⟩) (fun _ h => absurd h List.not_mem_nil) dX6_holdsAt_65
    · replace hf := hf.trans (if_neg c_57)
      refine lv_iconst (v := 1) hx hb dX6_holdsAt_60 (by decide) ?_
      refine lv_goto (tgt := 65) hx hb dX6_holdsAt_61 (by decide) ?_
      exact W.zret (ty := .boolean) (v := 1) hx hb hr rfl (fun t ht hW => ⟨congrArg (fun z => Outcome.returned (some (Value.int z))) hf.symm, ht⟩) (fun _ h => absurd h List.not_mem_nil) dX6_holdsAt_65

def f_X6_brokenAt_j42 (x4_3 : Int32) (k4 : Int32 → Int32 → Int32) (x42_2 : Int32) : Int32 :=
  k4 x42_2 (x4_3 + 1)
def f_X6_brokenAt_b4 (f_t_told_sizes : Nat → Int32) (f_t_told_cells : Nat → Int32) (v_t_now_voided : Int32) (v_t_now_counted : Int32) (x1 : Int32) (k4 : Int32 → Int32 → Int32) (x4_2 : Int32) (x4_3 : Int32) : Int32 :=
  if (f_X5_sizeOf f_t_told_sizes 0) ≤ x4_3 then x4_2 else if ¬ (f_X3_isVoid v_t_now_voided x4_3) = 0 then f_X6_brokenAt_j42 x4_3 k4 x4_2 else if ¬ (f_X6_holdsAt f_t_told_cells v_t_now_counted x4_3 x1) = 0 then f_X6_brokenAt_j42 x4_3 k4 x4_2 else f_X6_brokenAt_j42 x4_3 k4 (x4_2 ||| (1 <<< (x4_3 &&& 31)))
def f_X6_brokenAt (f_t_told_sizes : Nat → Int32) (f_t_told_cells : Nat → Int32) (v_t_now_voided : Int32) (v_t_now_counted : Int32) (x1 : Int32) : Int32 :=
  it2 (f_X6_brokenAt_b4 f_t_told_sizes f_t_told_cells v_t_now_voided v_t_now_counted x1) default (((f_X5_sizeOf f_t_told_sizes 0).toInt - (0 : Int32).toInt).toNat + 1) 0 0
/- inv0@45>4 -/ theorem s_X6_brokenAt_1 (f_t_told_sizes : Nat → Int32) (x4_3 : Int32) (hi4_0 : 0 ≤ x4_3) (c_13 : ¬ (f_X5_sizeOf f_t_told_sizes 0) ≤ x4_3) : 0 ≤ (x4_3 + 1) := by grind [f_X5_sizeOf]
/- inv0@3>4 -/ theorem s_X6_brokenAt_2  : 0 ≤ (0 : Int32) := by grind
set_option maxHeartbeats 4000000 in
set_option maxRecDepth 100000 in
theorem c_X6_brokenAt (l : Launch) (D : va_G) (cI cZ cO : ClassId) (a_t : Nat) (a_t_text : Nat) (a_t_told : Nat) (a_t_draft : Nat) (a_t_now : Nat) (a_t_acts : Nat) (a_t_sightings : Nat) (a_t_sides : Nat) (a_t_kept : Nat) (v_t_keptSlots : Int32) (v_t_theSeed : Int64) (a_t_told_sizes : Nat) (a_t_told_cells : Nat) (f_t_told_sizes : Nat → Int32) (f_t_told_cells : Nat → Int32) (v_t_now_place : Int32) (v_t_now_voided : Int32) (v_t_now_counted : Int32) (x1 : Int32) : Met l yX6_brokenAt wsX6_brokenAt ({ frames := 5, cells := 0, slots := 0, locals := 115 }) (PcP D (tysG cI cZ cO) [.ref a_t, .int x1] [(a_t, .inr (6, [.ref a_t_text, .ref a_t_told, .ref a_t_draft, .ref a_t_now, .ref a_t_acts, .ref a_t_sightings, .ref a_t_sides, .ref a_t_kept, .int v_t_keptSlots, .long v_t_theSeed])), (a_t_told, .inr (5, [.ref a_t_told_sizes, .ref a_t_told_cells])), (a_t_told_sizes, .inl (cI, 4, .inl f_t_told_sizes)), (a_t_told_cells, .inl (cI, 120, .inl f_t_told_cells)), (a_t_now, .inr (3, [.int v_t_now_place, .int v_t_now_voided, .int v_t_now_counted]))]) (QP (.int (f_X6_brokenAt f_t_told_sizes f_t_told_cells v_t_now_voided v_t_now_counted x1))) 0 0 (fun _ => False) := by
  refine Met.ofW (cc := cX6_brokenAt) (maxL := 4) (ret := (some .int)) (by decide) rfl ?_
  intro p e s m args below meth c s₁ B hml hv
  obtain ⟨rfl, hP, hKX⟩ := hv
  have hx := B.exec
  have hb := B.bytes
  have hr := B.returns
  have hts := atoms_spec (ws := wsX6_brokenAt) B.pre
  have hown : s.vm.findClass RX6 = some m.cls := findClass_of_methodNamed B.named
  have hlocks := B.notSynchronized
  have hK := hKX.1
  have hwX6 : ∀ w ∈ wsX60, w ∈ wsX6_brokenAt := by decide +kernel
  have hl := lv_entry ([.ref a_t, .int x1]) (n := 4) (Nat.le_of_ble_eq_true rfl)
  rw [lg_entry_eq]
  generalize (lg_sl ([.ref a_t, .int x1]) ++ List.replicate (4 - (lg_sl ([.ref a_t, .int x1])).length) Slot.unset).toArray = ls at hl ⊢
  have hl : lv_has ls 4 [(0, .ref a_t), (1, .int x1)] := hl
  have hf := f_X6_brokenAt.eq_1 f_t_told_sizes f_t_told_cells v_t_now_voided v_t_now_counted x1
  refine lv_iconst (v := 0) hx hb dX6_brokenAt_0 (by decide) ?_
  refine lv_istore_n (lv' := [(2, .int 0), (0, .ref a_t), (1, .int x1)]) hx hb dX6_brokenAt_1 rfl hl (by decide) rfl (fun ls hl => ?_)
  refine lv_iconst (v := 0) hx hb dX6_brokenAt_2 (by decide) ?_
  refine lv_istore_n (lv' := [(3, .int 0), (2, .int 0), (0, .ref a_t), (1, .int x1)]) hx hb dX6_brokenAt_3 rfl hl (by decide) rfl (fun ls hl => ?_)
  have hJ_4 : ∀ (n4 : Nat) (x4_2 : Int32) (x4_3 : Int32), f_X6_brokenAt f_t_told_sizes f_t_told_cells v_t_now_voided v_t_now_counted x1 = it2 (f_X6_brokenAt_b4 f_t_told_sizes f_t_told_cells v_t_now_voided v_t_now_counted x1) default n4 x4_2 x4_3 → ((f_X5_sizeOf f_t_told_sizes 0).toInt - x4_3.toInt).toNat < n4 → (0 ≤ x4_3) → ∀ (ls : Array Slot), lv_has ls 4 [(0, .ref a_t), (1, .int x1), (2, .int x4_2), (3, .int x4_3)] → W p l e (headSpec wsX6_brokenAt { frames := 5, cells := 0, slots := 0, locals := 115 }).room s m [.ref a_t, .int x1].toArray below meth c s.heap [] 0 0 (MQ below (QP (.int (f_X6_brokenAt f_t_told_sizes f_t_told_cells v_t_now_voided v_t_now_counted x1))) [.ref a_t, .int x1].toArray s 0 0 (fun _ => False)) (F0 m 4 ls []) := by
    intro n4
    induction n4 with
    | zero => intro x4_2 x4_3 hf hm4; exact absurd hm4 (Nat.not_lt_zero _)
    | succ n4 ih4 =>
      intro x4_2 x4_3 hf hm4 hi4_0 ls hl
      replace hf := (hf.trans (it2_s _ _ _ _ _)).trans (f_X6_brokenAt_b4.eq_1 _ _ _ _ _ _ _ _)
      refine lv_iload_n hx hb dX6_brokenAt_4 rfl (lv_at hl 3 rfl) ?_
      refine lv_aload_n hx hb dX6_brokenAt_5 rfl (lv_at hl 0 rfl) ?_
      refine va_get (D := D) (ci := 6) (v := .ref a_t_told) (C := RX6) (T := TX6) (N := 10) hx hb hts hwX6 hown hK hP 0 rfl rfl 1 (by decide) (hts (.fieldLink RX6 19 "SkippedDay" "told" "LSkippedDay$Told;") (by decide +kernel)) (fun _ h9 => h9) rfl dX6_brokenAt_6 ?_
      refine lv_iconst (v := 0) hx hb dX6_brokenAt_9 (by decide) ?_
      refine pcV (As := [.int 0]) (rest := [.int x4_3]) ⟨hx, hb, hml, hown, hts⟩ (c_X5_sizeOf l D cI cZ cO a_t_told a_t_told_sizes a_t_told_cells f_t_told_sizes 0) (cwV 1 hts gX6_brokenAt_X5_sizeOf rfl rfl rfl (by decide +kernel) ⟨Nat.le_of_ble_eq_true rfl, Nat.le_of_ble_eq_true rfl⟩) hKX hP [1, 2] rfl 1 5 rfl rfl rfl rfl hl.1 rfl (Nat.le_of_ble_eq_true rfl) dX6_brokenAt_10 ⟨Nat.le_of_ble_eq_true rfl, Nat.le_of_ble_eq_true rfl⟩ ?_
      refine lv_icmp_ge (tgt := 48) hx hb dX6_brokenAt_13 (by decide) (fun c_13 => ?_) (fun c_13 => ?_)
      · replace hf := hf.trans (if_pos c_13)
        refine lv_iload_n hx hb dX6_brokenAt_48 rfl (lv_at hl 2 rfl) ?_
        exact W.iret (v := x4_2) hx hb hr (fun t ht hW => ⟨congrArg (fun z => Outcome.returned (some (Value.int z))) hf.symm, ht⟩) (fun _ h => absurd h List.not_mem_nil) dX6_brokenAt_49
      · replace hf := hf.trans (if_neg c_13)
        refine lv_aload_n hx hb dX6_brokenAt_16 rfl (lv_at hl 0 rfl) ?_
        refine va_get (D := D) (ci := 6) (v := .ref a_t_now) (C := RX6) (T := TX6) (N := 10) hx hb hts hwX6 hown hK hP 0 rfl rfl 3 (by decide) (hts (.fieldLink RX6 29 "SkippedDay" "now" "LSkippedDay$Standing;") (by decide +kernel)) (fun _ h9 => h9) rfl dX6_brokenAt_17 ?_
        refine lv_iload_n hx hb dX6_brokenAt_20 rfl (lv_at hl 3 rfl) ?_
        refine pcV (As := [.int x4_3]) (rest := []) ⟨hx, hb, hml, hown, hts⟩ (c_X3_isVoid l D cI cZ cO a_t_now v_t_now_place v_t_now_voided v_t_now_counted x4_3) (cwV 1 hts gX6_brokenAt_X3_isVoid rfl rfl rfl (by decide +kernel) ⟨Nat.le_of_ble_eq_true rfl, Nat.le_of_ble_eq_true rfl⟩) hKX hP [4] rfl 4 3 rfl rfl rfl rfl hl.1 rfl (Nat.le_of_ble_eq_true rfl) dX6_brokenAt_21 ⟨Nat.le_of_ble_eq_true rfl, Nat.le_of_ble_eq_true rfl⟩ ?_
        have hJ_42 : ∀ (x42_2 : Int32), f_X6_brokenAt f_t_told_sizes f_t_told_cells v_t_now_voided v_t_now_counted x1 = f_X6_brokenAt_j42 x4_3 ((it2 (f_X6_brokenAt_b4 f_t_told_sizes f_t_told_cells v_t_now_voided v_t_now_counted x1) default n4)) x42_2 → ∀ (ls : Array Slot), lv_has ls 4 [(0, .ref a_t), (1, .int x1), (2, .int x42_2), (3, .int x4_3)] → W p l e (headSpec wsX6_brokenAt { frames := 5, cells := 0, slots := 0, locals := 115 }).room s m [.ref a_t, .int x1].toArray below meth c s.heap [] 0 0 (MQ below (QP (.int (f_X6_brokenAt f_t_told_sizes f_t_told_cells v_t_now_voided v_t_now_counted x1))) [.ref a_t, .int x1].toArray s 0 0 (fun _ => False)) (F0 m 42 ls []) := by
          intro x42_2 hf ls hl
          replace hf := hf.trans (f_X6_brokenAt_j42.eq_1 _ _ _)
          refine lv_iinc (v := x4_3 + 1) (lv' := [(3, .int (x4_3 + 1)), (0, .ref a_t), (1, .int x1), (2, .int x42_2)]) hx hb dX6_brokenAt_42 hl (k := 3) rfl rfl (by decide) rfl (fun ls hl => ?_)
          refine lv_goto (tgt := 4) hx hb dX6_brokenAt_45 (by decide) ?_
          exact ih4 x42_2 (x4_3 + 1) hf (mu_up c_13 hm4) (s_X6_brokenAt_1 f_t_told_sizes x4_3 hi4_0 c_13) _ (lv_sub hl [1, 2, 3, 0] rfl)
        refine lv_if_ne (tgt := 42) hx hb dX6_brokenAt_24 (by decide) (fun c_24 => ?_) (fun c_24 => ?_)
        · replace hf := hf.trans (if_pos c_24)
          exact hJ_42 x4_2 hf _ (lv_sub hl [0, 1, 2, 3] rfl)
        · replace hf := hf.trans (if_neg (fun h9 => h9 c_24))
          refine lv_aload_n hx hb dX6_brokenAt_27 rfl (lv_at hl 0 rfl) ?_
          refine lv_iload_n hx hb dX6_brokenAt_28 rfl (lv_at hl 3 rfl) ?_
          refine lv_iload_n hx hb dX6_brokenAt_29 rfl (lv_at hl 1 rfl) ?_
          refine pcV (As := [.int x4_3, .int x1]) (rest := []) ⟨hx, hb, hml, hown, hts⟩ (c_X6_holdsAt l D cI cZ cO a_t a_t_text a_t_told a_t_draft a_t_now a_t_acts a_t_sightings a_t_sides a_t_kept v_t_keptSlots v_t_theSeed a_t_told_sizes a_t_told_cells f_t_told_cells v_t_now_place v_t_now_voided v_t_now_counted x4_3 x1) (cwV 2 hts gX6_brokenAt_X6_holdsAt rfl rfl rfl (by decide +kernel) ⟨Nat.le_of_ble_eq_true rfl, Nat.le_of_ble_eq_true rfl⟩) hKX hP [0, 1, 3, 4] rfl 0 6 rfl rfl rfl rfl hl.1 rfl (Nat.le_of_ble_eq_true rfl) dX6_brokenAt_30 ⟨Nat.le_of_ble_eq_true rfl, Nat.le_of_ble_eq_true rfl⟩ ?_
          refine lv_if_ne (tgt := 42) hx hb dX6_brokenAt_33 (by decide) (fun c_33 => ?_) (fun c_33 => ?_)
          · replace hf := hf.trans (if_pos c_33)
            exact hJ_42 x4_2 hf _ (lv_sub hl [0, 1, 2, 3] rfl)
          · replace hf := hf.trans (if_neg (fun h9 => h9 c_33))
            refine lv_iload_n hx hb dX6_brokenAt_36 rfl (lv_at hl 2 rfl) ?_
            refine lv_iconst (v := 1) hx hb dX6_brokenAt_37 (by decide) ?_
            refine lv_iload_n hx hb dX6_brokenAt_38 rfl (lv_at hl 3 rfl) ?_
            refine lv_ishl hx hb dX6_brokenAt_39 ?_
            refine lv_ior hx hb dX6_brokenAt_40 ?_
            refine lv_istore_n (lv' := [(2, .int (x4_2 ||| (1 <<< (x4_3 &&& 31)))), (0, .ref a_t), (1, .int x1), (3, .int x4_3)]) hx hb dX6_brokenAt_41 rfl hl (by decide) rfl (fun ls hl => ?_)
            exact hJ_42 (x4_2 ||| (1 <<< (x4_3 &&& 31))) hf _ (lv_sub hl [1, 2, 0, 3] rfl)
  exact hJ_4 _ 0 0 hf (Nat.lt_succ_self _) s_X6_brokenAt_2 _ (lv_sub hl [2, 3, 1, 0] rfl)

def f_X6_about (v_t_text_length : Int32) (f_t_told_sizes : Nat → Int32) (f_t_told_cells : Nat → Int32) (v_t_now_place : Int32) (v_t_now_voided : Int32) (v_t_now_counted : Int32) (v_t_acts_size : Int32) (v_t_sightings_size : Int32) (x1 : Int32) : Int32 :=
  if x1 = 0 then f_X5_sizeOf f_t_told_sizes x1 else (if x1 = 1 then f_X5_sizeOf f_t_told_sizes x1 else (if x1 = 2 then f_X5_sizeOf f_t_told_sizes x1 else (if x1 = 3 then f_X5_sizeOf f_t_told_sizes x1 else (if x1 = 4 then f_X6_gapOrNone v_t_now_place else (if x1 = 5 then v_t_now_voided else (if x1 = 6 then f_X6_brokenAt f_t_told_sizes f_t_told_cells v_t_now_voided v_t_now_counted v_t_now_place else (if x1 = 7 then f_X0_size v_t_acts_size else (if x1 = 8 then f_X2_size v_t_sightings_size else (if x1 = 9 then f_X4_length v_t_text_length else ((-2)))))))))))
/- hp0@100 -/ theorem s_X6_about_1 (v_t_acts_size : Int32) (hp2 : 0 ≤ v_t_acts_size) (hp3 : v_t_acts_size ≤ 14) : 0 ≤ v_t_acts_size := by grind
/- hp1@100 -/ theorem s_X6_about_2 (v_t_acts_size : Int32) (hp2 : 0 ≤ v_t_acts_size) (hp3 : v_t_acts_size ≤ 14) : v_t_acts_size ≤ 14 := by grind
/- hp0@108 -/ theorem s_X6_about_3 (v_t_sightings_size : Int32) (hp4 : 0 ≤ v_t_sightings_size) (hp5 : v_t_sightings_size ≤ 6) : 0 ≤ v_t_sightings_size := by grind
/- hp1@108 -/ theorem s_X6_about_4 (v_t_sightings_size : Int32) (hp4 : 0 ≤ v_t_sightings_size) (hp5 : v_t_sightings_size ≤ 6) : v_t_sightings_size ≤ 6 := by grind
/- hp0@116 -/ theorem s_X6_about_5 (v_t_text_length : Int32) (hp0 : 0 ≤ v_t_text_length) (hp1 : v_t_text_length ≤ 64) : 0 ≤ v_t_text_length := by grind
/- hp1@116 -/ theorem s_X6_about_6 (v_t_text_length : Int32) (hp0 : 0 ≤ v_t_text_length) (hp1 : v_t_text_length ≤ 64) : v_t_text_length ≤ 64 := by grind
/- sw@1 -/ theorem s_X6_about_7 (x1 : Int32) (q_1_0 : ¬ x1 = 0) (q_1_1 : ¬ x1 = 1) (q_1_2 : ¬ x1 = 2) (q_1_3 : ¬ x1 = 3) (q_1_4 : ¬ x1 = 4) (q_1_5 : ¬ x1 = 5) (q_1_6 : ¬ x1 = 6) (q_1_7 : ¬ x1 = 7) (q_1_8 : ¬ x1 = 8) (q_1_9 : ¬ x1 = 9) : x1 < 0 ∨ 9 < x1 := by grind
set_option maxHeartbeats 4000000 in
set_option maxRecDepth 100000 in
theorem c_X6_about (l : Launch) (D : va_G) (cI cZ cO : ClassId) (a_t : Nat) (a_t_text : Nat) (a_t_told : Nat) (a_t_draft : Nat) (a_t_now : Nat) (a_t_acts : Nat) (a_t_sightings : Nat) (a_t_sides : Nat) (a_t_kept : Nat) (v_t_keptSlots : Int32) (v_t_theSeed : Int64) (a_t_text_bytes : Nat) (v_t_text_length : Int32) (a_t_told_sizes : Nat) (a_t_told_cells : Nat) (f_t_told_sizes : Nat → Int32) (f_t_told_cells : Nat → Int32) (v_t_now_place : Int32) (v_t_now_voided : Int32) (v_t_now_counted : Int32) (a_t_acts_kinds : Nat) (a_t_acts_numbers : Nat) (v_t_acts_size : Int32) (a_t_sightings_contracts : Nat) (a_t_sightings_days : Nat) (v_t_sightings_size : Int32) (x1 : Int32) (hp0 : 0 ≤ v_t_text_length) (hp1 : v_t_text_length ≤ 64) (hp2 : 0 ≤ v_t_acts_size) (hp3 : v_t_acts_size ≤ 14) (hp4 : 0 ≤ v_t_sightings_size) (hp5 : v_t_sightings_size ≤ 6) : Met l yX6_about wsX6_about ({ frames := 6, cells := 0, slots := 0, locals := 138 }) (PcP D (tysG cI cZ cO) [.ref a_t, .int x1] [(a_t, .inr (6, [.ref a_t_text, .ref a_t_told, .ref a_t_draft, .ref a_t_now, .ref a_t_acts, .ref a_t_sightings, .ref a_t_sides, .ref a_t_kept, .int v_t_keptSlots, .long v_t_theSeed])), (a_t_text, .inr (4, [.ref a_t_text_bytes, .int v_t_text_length])), (a_t_told, .inr (5, [.ref a_t_told_sizes, .ref a_t_told_cells])), (a_t_told_sizes, .inl (cI, 4, .inl f_t_told_sizes)), (a_t_told_cells, .inl (cI, 120, .inl f_t_told_cells)), (a_t_now, .inr (3, [.int v_t_now_place, .int v_t_now_voided, .int v_t_now_counted])), (a_t_acts, .inr (0, [.ref a_t_acts_kinds, .ref a_t_acts_numbers, .int v_t_acts_size])), (a_t_sightings, .inr (2, [.ref a_t_sightings_contracts, .ref a_t_sightings_days, .int v_t_sightings_size]))]) (QP (.int (f_X6_about v_t_text_length f_t_told_sizes f_t_told_cells v_t_now_place v_t_now_voided v_t_now_counted v_t_acts_size v_t_sightings_size x1))) 0 0 (fun _ => False) := by
  refine Met.ofW (cc := cX6_about) (maxL := 2) (ret := (some .int)) (by decide) rfl ?_
  intro p e s m args below meth c s₁ B hml hv
  obtain ⟨rfl, hP, hKX⟩ := hv
  have hx := B.exec
  have hb := B.bytes
  have hr := B.returns
  have hts := atoms_spec (ws := wsX6_about) B.pre
  have hown : s.vm.findClass RX6 = some m.cls := findClass_of_methodNamed B.named
  have hlocks := B.notSynchronized
  have hK := hKX.1
  have hwX3 : ∀ w ∈ wsX30, w ∈ wsX6_about := by decide +kernel
  have hwX6 : ∀ w ∈ wsX60, w ∈ wsX6_about := by decide +kernel
  have hl := lv_entry ([.ref a_t, .int x1]) (n := 2) (Nat.le_of_ble_eq_true rfl)
  rw [lg_entry_eq]
  generalize (lg_sl ([.ref a_t, .int x1]) ++ List.replicate (2 - (lg_sl ([.ref a_t, .int x1])).length) Slot.unset).toArray = ls at hl ⊢
  have hl : lv_has ls 2 [(0, .ref a_t), (1, .int x1)] := hl
  have hf := f_X6_about.eq_1 v_t_text_length f_t_told_sizes f_t_told_cells v_t_now_place v_t_now_voided v_t_now_counted v_t_acts_size v_t_sightings_size x1
  refine lv_iload_n hx hb dX6_about_0 rfl (lv_at hl 1 rfl) ?_
  by_cases q_1_0 : x1 = 0
  · replace hf := hf.trans (if_pos q_1_0)
    refine lv_tableIn (off := 55) (tgt := 56) hx hb dX6_about_1 (by rw [q_1_0]; decide) (by rw [q_1_0]; decide) (by rw [q_1_0]; rfl) (by decide) ?_
    refine lv_aload_n hx hb dX6_about_56 rfl (lv_at hl 0 rfl) ?_
    refine va_get (D := D) (ci := 6) (v := .ref a_t_told) (C := RX6) (T := TX6) (N := 10) hx hb hts hwX6 hown hK hP 0 rfl rfl 1 (by decide) (hts (.fieldLink RX6 19 "SkippedDay" "told" "LSkippedDay$Told;") (by decide +kernel)) (fun _ h9 => h9) rfl dX6_about_57 ?_
    refine lv_iload_n hx hb dX6_about_60 rfl (lv_at hl 1 rfl) ?_
    refine pcV (As := [.int x1]) (rest := []) ⟨hx, hb, hml, hown, hts⟩ (c_X5_sizeOf l D cI cZ cO a_t_told a_t_told_sizes a_t_told_cells f_t_told_sizes x1) (cwV 1 hts gX6_about_X5_sizeOf rfl rfl rfl (by decide +kernel) ⟨Nat.le_of_ble_eq_true rfl, Nat.le_of_ble_eq_true rfl⟩) hKX hP [2, 3] rfl 2 5 rfl rfl rfl rfl hl.1 rfl (Nat.le_of_ble_eq_true rfl) dX6_about_61 ⟨Nat.le_of_ble_eq_true rfl, Nat.le_of_ble_eq_true rfl⟩ ?_
    exact W.iret (v := f_X5_sizeOf f_t_told_sizes x1) hx hb hr (fun t ht hW => ⟨congrArg (fun z => Outcome.returned (some (Value.int z))) hf.symm, ht⟩) (fun _ h => absurd h List.not_mem_nil) dX6_about_64
  · replace hf := hf.trans (if_neg q_1_0)
    by_cases q_1_1 : x1 = 1
    · replace hf := hf.trans (if_pos q_1_1)
      refine lv_tableIn (off := 55) (tgt := 56) hx hb dX6_about_1 (by rw [q_1_1]; decide) (by rw [q_1_1]; decide) (by rw [q_1_1]; rfl) (by decide) ?_
      refine lv_aload_n hx hb dX6_about_56 rfl (lv_at hl 0 rfl) ?_
      refine va_get (D := D) (ci := 6) (v := .ref a_t_told) (C := RX6) (T := TX6) (N := 10) hx hb hts hwX6 hown hK hP 0 rfl rfl 1 (by decide) (hts (.fieldLink RX6 19 "SkippedDay" "told" "LSkippedDay$Told;") (by decide +kernel)) (fun _ h9 => h9) rfl dX6_about_57 ?_
      refine lv_iload_n hx hb dX6_about_60 rfl (lv_at hl 1 rfl) ?_
      refine pcV (As := [.int x1]) (rest := []) ⟨hx, hb, hml, hown, hts⟩ (c_X5_sizeOf l D cI cZ cO a_t_told a_t_told_sizes a_t_told_cells f_t_told_sizes x1) (cwV 1 hts gX6_about_X5_sizeOf rfl rfl rfl (by decide +kernel) ⟨Nat.le_of_ble_eq_true rfl, Nat.le_of_ble_eq_true rfl⟩) hKX hP [2, 3] rfl 2 5 rfl rfl rfl rfl hl.1 rfl (Nat.le_of_ble_eq_true rfl) dX6_about_61 ⟨Nat.le_of_ble_eq_true rfl, Nat.le_of_ble_eq_true rfl⟩ ?_
      exact W.iret (v := f_X5_sizeOf f_t_told_sizes x1) hx hb hr (fun t ht hW => ⟨congrArg (fun z => Outcome.returned (some (Value.int z))) hf.symm, ht⟩) (fun _ h => absurd h List.not_mem_nil) dX6_about_64
    · replace hf := hf.trans (if_neg q_1_1)
      by_cases q_1_2 : x1 = 2
      · replace hf := hf.trans (if_pos q_1_2)
        refine lv_tableIn (off := 55) (tgt := 56) hx hb dX6_about_1 (by rw [q_1_2]; decide) (by rw [q_1_2]; decide) (by rw [q_1_2]; rfl) (by decide) ?_
        refine lv_aload_n hx hb dX6_about_56 rfl (lv_at hl 0 rfl) ?_
        refine va_get (D := D) (ci := 6) (v := .ref a_t_told) (C := RX6) (T := TX6) (N := 10) hx hb hts hwX6 hown hK hP 0 rfl rfl 1 (by decide) (hts (.fieldLink RX6 19 "SkippedDay" "told" "LSkippedDay$Told;") (by decide +kernel)) (fun _ h9 => h9) rfl dX6_about_57 ?_
        refine lv_iload_n hx hb dX6_about_60 rfl (lv_at hl 1 rfl) ?_
        refine pcV (As := [.int x1]) (rest := []) ⟨hx, hb, hml, hown, hts⟩ (c_X5_sizeOf l D cI cZ cO a_t_told a_t_told_sizes a_t_told_cells f_t_told_sizes x1) (cwV 1 hts gX6_about_X5_sizeOf rfl rfl rfl (by decide +kernel) ⟨Nat.le_of_ble_eq_true rfl, Nat.le_of_ble_eq_true rfl⟩) hKX hP [2, 3] rfl 2 5 rfl rfl rfl rfl hl.1 rfl (Nat.le_of_ble_eq_true rfl) dX6_about_61 ⟨Nat.le_of_ble_eq_true rfl, Nat.le_of_ble_eq_true rfl⟩ ?_
        exact W.iret (v := f_X5_sizeOf f_t_told_sizes x1) hx hb hr (fun t ht hW => ⟨congrArg (fun z => Outcome.returned (some (Value.int z))) hf.symm, ht⟩) (fun _ h => absurd h List.not_mem_nil) dX6_about_64
      · replace hf := hf.trans (if_neg q_1_2)
        by_cases q_1_3 : x1 = 3
        · replace hf := hf.trans (if_pos q_1_3)
          refine lv_tableIn (off := 55) (tgt := 56) hx hb dX6_about_1 (by rw [q_1_3]; decide) (by rw [q_1_3]; decide) (by rw [q_1_3]; rfl) (by decide) ?_
          refine lv_aload_n hx hb dX6_about_56 rfl (lv_at hl 0 rfl) ?_
          refine va_get (D := D) (ci := 6) (v := .ref a_t_told) (C := RX6) (T := TX6) (N := 10) hx hb hts hwX6 hown hK hP 0 rfl rfl 1 (by decide) (hts (.fieldLink RX6 19 "SkippedDay" "told" "LSkippedDay$Told;") (by decide +kernel)) (fun _ h9 => h9) rfl dX6_about_57 ?_
          refine lv_iload_n hx hb dX6_about_60 rfl (lv_at hl 1 rfl) ?_
          refine pcV (As := [.int x1]) (rest := []) ⟨hx, hb, hml, hown, hts⟩ (c_X5_sizeOf l D cI cZ cO a_t_told a_t_told_sizes a_t_told_cells f_t_told_sizes x1) (cwV 1 hts gX6_about_X5_sizeOf rfl rfl rfl (by decide +kernel) ⟨Nat.le_of_ble_eq_true rfl, Nat.le_of_ble_eq_true rfl⟩) hKX hP [2, 3] rfl 2 5 rfl rfl rfl rfl hl.1 rfl (Nat.le_of_ble_eq_true rfl) dX6_about_61 ⟨Nat.le_of_ble_eq_true rfl, Nat.le_of_ble_eq_true rfl⟩ ?_
          exact W.iret (v := f_X5_sizeOf f_t_told_sizes x1) hx hb hr (fun t ht hW => ⟨congrArg (fun z => Outcome.returned (some (Value.int z))) hf.symm, ht⟩) (fun _ h => absurd h List.not_mem_nil) dX6_about_64
        · replace hf := hf.trans (if_neg q_1_3)
          by_cases q_1_4 : x1 = 4
          · replace hf := hf.trans (if_pos q_1_4)
            refine lv_tableIn (off := 64) (tgt := 65) hx hb dX6_about_1 (by rw [q_1_4]; decide) (by rw [q_1_4]; decide) (by rw [q_1_4]; rfl) (by decide) ?_
            refine lv_aload_n hx hb dX6_about_65 rfl (lv_at hl 0 rfl) ?_
            refine va_get (D := D) (ci := 6) (v := .ref a_t_now) (C := RX6) (T := TX6) (N := 10) hx hb hts hwX6 hown hK hP 0 rfl rfl 3 (by decide) (hts (.fieldLink RX6 29 "SkippedDay" "now" "LSkippedDay$Standing;") (by decide +kernel)) (fun _ h9 => h9) rfl dX6_about_66 ?_
            refine va_getN (host := RX6) (D := D) (ci := 3) (v := .int v_t_now_place) (C := RX3) (T := TX3) (N := 3) hx hb hts hwX3 hown hK hP 5 rfl rfl 0 (by decide) (va_Nw.use rfl hKX.2.1) (fun _ h9 => h9) rfl dX6_about_69 ?_
            refine pcS (As := [.int v_t_now_place]) (rest := []) ⟨hx, hb, hml, hown, hts⟩ (c_X6_gapOrNone l D cI cZ cO v_t_now_place) (va_cwS 1 hts gX6_about_X6_gapOrNone rfl rfl rfl (by decide +kernel) ⟨Nat.le_of_ble_eq_true rfl, Nat.le_of_ble_eq_true rfl⟩) hKX hP [] rfl rfl hl.1 rfl (Nat.le_of_ble_eq_true rfl) dX6_about_72 ⟨Nat.le_of_ble_eq_true rfl, Nat.le_of_ble_eq_true rfl⟩ ?_
            exact W.iret (v := f_X6_gapOrNone v_t_now_place) hx hb hr (fun t ht hW => ⟨congrArg (fun z => Outcome.returned (some (Value.int z))) hf.symm, ht⟩) (fun _ h => absurd h List.not_mem_nil) dX6_about_75
          · replace hf := hf.trans (if_neg q_1_4)
            by_cases q_1_5 : x1 = 5
            · replace hf := hf.trans (if_pos q_1_5)
              refine lv_tableIn (off := 75) (tgt := 76) hx hb dX6_about_1 (by rw [q_1_5]; decide) (by rw [q_1_5]; decide) (by rw [q_1_5]; rfl) (by decide) ?_
              refine lv_aload_n hx hb dX6_about_76 rfl (lv_at hl 0 rfl) ?_
              refine va_get (D := D) (ci := 6) (v := .ref a_t_now) (C := RX6) (T := TX6) (N := 10) hx hb hts hwX6 hown hK hP 0 rfl rfl 3 (by decide) (hts (.fieldLink RX6 29 "SkippedDay" "now" "LSkippedDay$Standing;") (by decide +kernel)) (fun _ h9 => h9) rfl dX6_about_77 ?_
              refine va_getN (host := RX6) (D := D) (ci := 3) (v := .int v_t_now_voided) (C := RX3) (T := TX3) (N := 3) hx hb hts hwX3 hown hK hP 5 rfl rfl 1 (by decide) (va_Nw.use rfl hKX.2.2) (fun _ h9 => h9) rfl dX6_about_80 ?_
              exact W.iret (v := v_t_now_voided) hx hb hr (fun t ht hW => ⟨congrArg (fun z => Outcome.returned (some (Value.int z))) hf.symm, ht⟩) (fun _ h => absurd h List.not_mem_nil) dX6_about_83
            · replace hf := hf.trans (if_neg q_1_5)
              by_cases q_1_6 : x1 = 6
              · replace hf := hf.trans (if_pos q_1_6)
                refine lv_tableIn (off := 83) (tgt := 84) hx hb dX6_about_1 (by rw [q_1_6]; decide) (by rw [q_1_6]; decide) (by rw [q_1_6]; rfl) (by decide) ?_
                refine lv_aload_n hx hb dX6_about_84 rfl (lv_at hl 0 rfl) ?_
                refine lv_aload_n hx hb dX6_about_85 rfl (lv_at hl 0 rfl) ?_
                refine va_get (D := D) (ci := 6) (v := .ref a_t_now) (C := RX6) (T := TX6) (N := 10) hx hb hts hwX6 hown hK hP 0 rfl rfl 3 (by decide) (hts (.fieldLink RX6 29 "SkippedDay" "now" "LSkippedDay$Standing;") (by decide +kernel)) (fun _ h9 => h9) rfl dX6_about_86 ?_
                refine va_getN (host := RX6) (D := D) (ci := 3) (v := .int v_t_now_place) (C := RX3) (T := TX3) (N := 3) hx hb hts hwX3 hown hK hP 5 rfl rfl 0 (by decide) (va_Nw.use rfl hKX.2.1) (fun _ h9 => h9) rfl dX6_about_89 ?_
                refine pcV (As := [.int v_t_now_place]) (rest := []) ⟨hx, hb, hml, hown, hts⟩ (c_X6_brokenAt l D cI cZ cO a_t a_t_text a_t_told a_t_draft a_t_now a_t_acts a_t_sightings a_t_sides a_t_kept v_t_keptSlots v_t_theSeed a_t_told_sizes a_t_told_cells f_t_told_sizes f_t_told_cells v_t_now_place v_t_now_voided v_t_now_counted v_t_now_place) (cwV 1 hts gX6_about_X6_brokenAt rfl rfl rfl (by decide +kernel) ⟨Nat.le_of_ble_eq_true rfl, Nat.le_of_ble_eq_true rfl⟩) hKX hP [0, 2, 3, 4, 5] rfl 0 6 rfl rfl rfl rfl hl.1 rfl (Nat.le_of_ble_eq_true rfl) dX6_about_92 ⟨Nat.le_of_ble_eq_true rfl, Nat.le_of_ble_eq_true rfl⟩ ?_
                exact W.iret (v := f_X6_brokenAt f_t_told_sizes f_t_told_cells v_t_now_voided v_t_now_counted v_t_now_place) hx hb hr (fun t ht hW => ⟨congrArg (fun z => Outcome.returned (some (Value.int z))) hf.symm, ht⟩) (fun _ h => absurd h List.not_mem_nil) dX6_about_95
              · replace hf := hf.trans (if_neg q_1_6)
                by_cases q_1_7 : x1 = 7
                · replace hf := hf.trans (if_pos q_1_7)
                  refine lv_tableIn (off := 95) (tgt := 96) hx hb dX6_about_1 (by rw [q_1_7]; decide) (by rw [q_1_7]; decide) (by rw [q_1_7]; rfl) (by decide) ?_
                  refine lv_aload_n hx hb dX6_about_96 rfl (lv_at hl 0 rfl) ?_
                  refine va_get (D := D) (ci := 6) (v := .ref a_t_acts) (C := RX6) (T := TX6) (N := 10) hx hb hts hwX6 hown hK hP 0 rfl rfl 4 (by decide) (hts (.fieldLink RX6 36 "SkippedDay" "acts" "LSkippedDay$Acts;") (by decide +kernel)) (fun _ h9 => h9) rfl dX6_about_97 ?_
                  refine pcV (As := []) (rest := []) ⟨hx, hb, hml, hown, hts⟩ (c_X0_size l D cI cZ cO a_t_acts a_t_acts_kinds a_t_acts_numbers v_t_acts_size (s_X6_about_1 v_t_acts_size hp2 hp3) (s_X6_about_2 v_t_acts_size hp2 hp3)) (cwV 0 hts gX6_about_X0_size rfl rfl rfl (by decide +kernel) ⟨Nat.le_of_ble_eq_true rfl, Nat.le_of_ble_eq_true rfl⟩) hKX hP [6] rfl 6 0 rfl rfl rfl rfl hl.1 rfl (Nat.le_of_ble_eq_true rfl) dX6_about_100 ⟨Nat.le_of_ble_eq_true rfl, Nat.le_of_ble_eq_true rfl⟩ ?_
                  exact W.iret (v := f_X0_size v_t_acts_size) hx hb hr (fun t ht hW => ⟨congrArg (fun z => Outcome.returned (some (Value.int z))) hf.symm, ht⟩) (fun _ h => absurd h List.not_mem_nil) dX6_about_103
                · replace hf := hf.trans (if_neg q_1_7)
                  by_cases q_1_8 : x1 = 8
                  · replace hf := hf.trans (if_pos q_1_8)
                    refine lv_tableIn (off := 103) (tgt := 104) hx hb dX6_about_1 (by rw [q_1_8]; decide) (by rw [q_1_8]; decide) (by rw [q_1_8]; rfl) (by decide) ?_
                    refine lv_aload_n hx hb dX6_about_104 rfl (lv_at hl 0 rfl) ?_
                    refine va_get (D := D) (ci := 6) (v := .ref a_t_sightings) (C := RX6) (T := TX6) (N := 10) hx hb hts hwX6 hown hK hP 0 rfl rfl 5 (by decide) (hts (.fieldLink RX6 43 "SkippedDay" "sightings" "LSkippedDay$Sightings;") (by decide +kernel)) (fun _ h9 => h9) rfl dX6_about_105 ?_
                    refine pcV (As := []) (rest := []) ⟨hx, hb, hml, hown, hts⟩ (c_X2_size l D cI cZ cO a_t_sightings a_t_sightings_contracts a_t_sightings_days v_t_sightings_size (s_X6_about_3 v_t_sightings_size hp4 hp5) (s_X6_about_4 v_t_sightings_size hp4 hp5)) (cwV 0 hts gX6_about_X2_size rfl rfl rfl (by decide +kernel) ⟨Nat.le_of_ble_eq_true rfl, Nat.le_of_ble_eq_true rfl⟩) hKX hP [7] rfl 7 2 rfl rfl rfl rfl hl.1 rfl (Nat.le_of_ble_eq_true rfl) dX6_about_108 ⟨Nat.le_of_ble_eq_true rfl, Nat.le_of_ble_eq_true rfl⟩ ?_
                    exact W.iret (v := f_X2_size v_t_sightings_size) hx hb hr (fun t ht hW => ⟨congrArg (fun z => Outcome.returned (some (Value.int z))) hf.symm, ht⟩) (fun _ h => absurd h List.not_mem_nil) dX6_about_111
                  · replace hf := hf.trans (if_neg q_1_8)
                    by_cases q_1_9 : x1 = 9
                    · replace hf := hf.trans (if_pos q_1_9)
                      refine lv_tableIn (off := 111) (tgt := 112) hx hb dX6_about_1 (by rw [q_1_9]; decide) (by rw [q_1_9]; decide) (by rw [q_1_9]; rfl) (by decide) ?_
                      refine lv_aload_n hx hb dX6_about_112 rfl (lv_at hl 0 rfl) ?_
                      refine va_get (D := D) (ci := 6) (v := .ref a_t_text) (C := RX6) (T := TX6) (N := 10) hx hb hts hwX6 hown hK hP 0 rfl rfl 0 (by decide) (hts (.fieldLink RX6 10 "SkippedDay" "text" "LSkippedDay$Text;") (by decide +kernel)) (fun _ h9 => h9) rfl dX6_about_113 ?_
                      refine pcV (As := []) (rest := []) ⟨hx, hb, hml, hown, hts⟩ (c_X4_length l D cI cZ cO a_t_text a_t_text_bytes v_t_text_length (s_X6_about_5 v_t_text_length hp0 hp1) (s_X6_about_6 v_t_text_length hp0 hp1)) (cwV 0 hts gX6_about_X4_length rfl rfl rfl (by decide +kernel) ⟨Nat.le_of_ble_eq_true rfl, Nat.le_of_ble_eq_true rfl⟩) hKX hP [1] rfl 1 4 rfl rfl rfl rfl hl.1 rfl (Nat.le_of_ble_eq_true rfl) dX6_about_116 ⟨Nat.le_of_ble_eq_true rfl, Nat.le_of_ble_eq_true rfl⟩ ?_
                      exact W.iret (v := f_X4_length v_t_text_length) hx hb hr (fun t ht hW => ⟨congrArg (fun z => Outcome.returned (some (Value.int z))) hf.symm, ht⟩) (fun _ h => absurd h List.not_mem_nil) dX6_about_119
                    · replace hf := hf.trans (if_neg q_1_9)
                      refine lv_tableOut (tgt := 120) hx hb dX6_about_1 (sw_out (lo := 0) (hi := 9) (by decide) (by decide) (s_X6_about_7 x1 q_1_0 q_1_1 q_1_2 q_1_3 q_1_4 q_1_5 q_1_6 q_1_7 q_1_8 q_1_9)) (by decide) ?_
                      refine lv_bipush (v := (-2)) hx hb dX6_about_120 (by decide) ?_
                      exact W.iret (v := (-2)) hx hb hr (fun t ht hW => ⟨congrArg (fun z => Outcome.returned (some (Value.int z))) hf.symm, ht⟩) (fun _ h => absurd h List.not_mem_nil) dX6_about_122

def f_X6_isContract (f_t_told_sizes : Nat → Int32) (x1 : Int32) : Int32 :=
  if x1 < 0 then 0 else if (f_X5_sizeOf f_t_told_sizes 0) ≤ x1 then 0 else 1
set_option maxHeartbeats 4000000 in
set_option maxRecDepth 100000 in
theorem c_X6_isContract (l : Launch) (D : va_G) (cI cZ cO : ClassId) (a_t : Nat) (a_t_text : Nat) (a_t_told : Nat) (a_t_draft : Nat) (a_t_now : Nat) (a_t_acts : Nat) (a_t_sightings : Nat) (a_t_sides : Nat) (a_t_kept : Nat) (v_t_keptSlots : Int32) (v_t_theSeed : Int64) (a_t_told_sizes : Nat) (a_t_told_cells : Nat) (f_t_told_sizes : Nat → Int32) (x1 : Int32) : Met l yX6_isContract wsX6_isContract ({ frames := 1, cells := 0, slots := 0, locals := 21 }) (PcP D (tysG cI cZ cO) [.ref a_t, .int x1] [(a_t, .inr (6, [.ref a_t_text, .ref a_t_told, .ref a_t_draft, .ref a_t_now, .ref a_t_acts, .ref a_t_sightings, .ref a_t_sides, .ref a_t_kept, .int v_t_keptSlots, .long v_t_theSeed])), (a_t_told, .inr (5, [.ref a_t_told_sizes, .ref a_t_told_cells])), (a_t_told_sizes, .inl (cI, 4, .inl f_t_told_sizes))]) (QP (.int (f_X6_isContract f_t_told_sizes x1))) 0 0 (fun _ => False) := by
  refine Met.ofW (cc := cX6_isContract) (maxL := 2) (ret := (some .boolean)) (by decide) rfl ?_
  intro p e s m args below meth c s₁ B hml hv
  obtain ⟨rfl, hP, hKX⟩ := hv
  have hx := B.exec
  have hb := B.bytes
  have hr := B.returns
  have hts := atoms_spec (ws := wsX6_isContract) B.pre
  have hown : s.vm.findClass RX6 = some m.cls := findClass_of_methodNamed B.named
  have hlocks := B.notSynchronized
  have hK := hKX.1
  have hwX6 : ∀ w ∈ wsX60, w ∈ wsX6_isContract := by decide +kernel
  have hl := lv_entry ([.ref a_t, .int x1]) (n := 2) (Nat.le_of_ble_eq_true rfl)
  rw [lg_entry_eq]
  generalize (lg_sl ([.ref a_t, .int x1]) ++ List.replicate (2 - (lg_sl ([.ref a_t, .int x1])).length) Slot.unset).toArray = ls at hl ⊢
  have hl : lv_has ls 2 [(0, .ref a_t), (1, .int x1)] := hl
  have hf := f_X6_isContract.eq_1 f_t_told_sizes x1
  refine lv_iload_n hx hb dX6_isContract_0 rfl (lv_at hl 1 rfl) ?_
  refine lv_if_lt (tgt := 20) hx hb dX6_isContract_1 (by decide) (fun c_1 => ?_) (fun c_1 => ?_)
  · replace hf := hf.trans (if_pos c_1)
    refine lv_iconst (v := 0) hx hb dX6_isContract_20 (by decide) ?_
    exact W.zret (ty := .boolean) (v := 0) hx hb hr rfl (fun t ht hW => ⟨congrArg (fun z => Outcome.returned (some (Value.int z))) hf.symm, ht⟩) (fun _ h => absurd h List.not_mem_nil) dX6_isContract_21
  · replace hf := hf.trans (if_neg c_1)
    refine lv_iload_n hx hb dX6_isContract_4 rfl (lv_at hl 1 rfl) ?_
    refine lv_aload_n hx hb dX6_isContract_5 rfl (lv_at hl 0 rfl) ?_
    refine va_get (D := D) (ci := 6) (v := .ref a_t_told) (C := RX6) (T := TX6) (N := 10) hx hb hts hwX6 hown hK hP 0 rfl rfl 1 (by decide) (hts (.fieldLink RX6 19 "SkippedDay" "told" "LSkippedDay$Told;") (by decide +kernel)) (fun _ h9 => h9) rfl dX6_isContract_6 ?_
    refine lv_iconst (v := 0) hx hb dX6_isContract_9 (by decide) ?_
    refine pcV (As := [.int 0]) (rest := [.int x1]) ⟨hx, hb, hml, hown, hts⟩ (c_X5_sizeOf l D cI cZ cO a_t_told a_t_told_sizes a_t_told_cells f_t_told_sizes 0) (cwV 1 hts gX6_isContract_X5_sizeOf rfl rfl rfl (by decide +kernel) ⟨Nat.le_of_ble_eq_true rfl, Nat.le_of_ble_eq_true rfl⟩) hKX hP [1, 2] rfl 1 5 rfl rfl rfl rfl hl.1 rfl (Nat.le_of_ble_eq_true rfl) dX6_isContract_10 ⟨Nat.le_of_ble_eq_true rfl, Nat.le_of_ble_eq_true rfl⟩ ?_
    refine lv_icmp_ge (tgt := 20) hx hb dX6_isContract_13 (by decide) (fun c_13 => ?_) (fun c_13 => ?_)
    · replace hf := hf.trans (if_pos c_13)
      refine lv_iconst (v := 0) hx hb dX6_isContract_20 (by decide) ?_
      exact W.zret (ty := .boolean) (v := 0) hx hb hr rfl (fun t ht hW => ⟨congrArg (fun z => Outcome.returned (some (Value.int z))) hf.symm, ht⟩) (fun _ h => absurd h List.not_mem_nil) dX6_isContract_21
    · replace hf := hf.trans (if_neg c_13)
      refine lv_iconst (v := 1) hx hb dX6_isContract_16 (by decide) ?_
      refine lv_goto (tgt := 21) hx hb dX6_isContract_17 (by decide) ?_
      exact W.zret (ty := .boolean) (v := 1) hx hb hr rfl (fun t ht hW => ⟨congrArg (fun z => Outcome.returned (some (Value.int z))) hf.symm, ht⟩) (fun _ h => absurd h List.not_mem_nil) dX6_isContract_21

def f_X6_contract (f_t_told_sizes : Nat → Int32) (f_t_told_cells : Nat → Int32) (v_t_now_place : Int32) (v_t_now_voided : Int32) (v_t_now_counted : Int32) (x1 : Int32) (x2 : Int32) : Int32 :=
  if ¬ (f_X6_isContract f_t_told_sizes x1) = 0 then if x2 = 0 then f_X5_startOf f_t_told_cells x1 else (if x2 = 1 then if (f_X3_isByCount v_t_now_counted x1) = 0 then 0 else 1 else (if x2 = 2 then f_X5_lengthOf f_t_told_cells x1 else (if x2 = 3 then f_X5_latestOf f_t_told_cells x1 else (if x2 = 4 then f_X5_leastOf f_t_told_cells x1 else (if x2 = 5 then if (f_X3_isVoid v_t_now_voided x1) = 0 then 0 else 1 else (if x2 = 6 then f_X6_endOf f_t_told_cells x1 (f_X3_isByCount v_t_now_counted x1) v_t_now_place else ((-2)))))))) else (-1)
/- sw@11 -/ theorem s_X6_contract_1 (x2 : Int32) (q_11_0 : ¬ x2 = 0) (q_11_1 : ¬ x2 = 1) (q_11_2 : ¬ x2 = 2) (q_11_3 : ¬ x2 = 3) (q_11_4 : ¬ x2 = 4) (q_11_5 : ¬ x2 = 5) (q_11_6 : ¬ x2 = 6) : x2 < 0 ∨ 6 < x2 := by grind
set_option maxHeartbeats 4000000 in
set_option maxRecDepth 100000 in
theorem c_X6_contract (l : Launch) (D : va_G) (cI cZ cO : ClassId) (a_t : Nat) (a_t_text : Nat) (a_t_told : Nat) (a_t_draft : Nat) (a_t_now : Nat) (a_t_acts : Nat) (a_t_sightings : Nat) (a_t_sides : Nat) (a_t_kept : Nat) (v_t_keptSlots : Int32) (v_t_theSeed : Int64) (a_t_told_sizes : Nat) (a_t_told_cells : Nat) (f_t_told_sizes : Nat → Int32) (f_t_told_cells : Nat → Int32) (v_t_now_place : Int32) (v_t_now_voided : Int32) (v_t_now_counted : Int32) (x1 : Int32) (x2 : Int32) : Met l yX6_contract wsX6_contract ({ frames := 4, cells := 0, slots := 0, locals := 91 }) (PcP D (tysG cI cZ cO) [.ref a_t, .int x1, .int x2] [(a_t, .inr (6, [.ref a_t_text, .ref a_t_told, .ref a_t_draft, .ref a_t_now, .ref a_t_acts, .ref a_t_sightings, .ref a_t_sides, .ref a_t_kept, .int v_t_keptSlots, .long v_t_theSeed])), (a_t_told, .inr (5, [.ref a_t_told_sizes, .ref a_t_told_cells])), (a_t_told_sizes, .inl (cI, 4, .inl f_t_told_sizes)), (a_t_told_cells, .inl (cI, 120, .inl f_t_told_cells)), (a_t_now, .inr (3, [.int v_t_now_place, .int v_t_now_voided, .int v_t_now_counted]))]) (QP (.int (f_X6_contract f_t_told_sizes f_t_told_cells v_t_now_place v_t_now_voided v_t_now_counted x1 x2))) 0 0 (fun _ => False) := by
  refine Met.ofW (cc := cX6_contract) (maxL := 3) (ret := (some .int)) (by decide) rfl ?_
  intro p e s m args below meth c s₁ B hml hv
  obtain ⟨rfl, hP, hKX⟩ := hv
  have hx := B.exec
  have hb := B.bytes
  have hr := B.returns
  have hts := atoms_spec (ws := wsX6_contract) B.pre
  have hown : s.vm.findClass RX6 = some m.cls := findClass_of_methodNamed B.named
  have hlocks := B.notSynchronized
  have hK := hKX.1
  have hwX3 : ∀ w ∈ wsX30, w ∈ wsX6_contract := by decide +kernel
  have hwX6 : ∀ w ∈ wsX60, w ∈ wsX6_contract := by decide +kernel
  have hl := lv_entry ([.ref a_t, .int x1, .int x2]) (n := 3) (Nat.le_of_ble_eq_true rfl)
  rw [lg_entry_eq]
  generalize (lg_sl ([.ref a_t, .int x1, .int x2]) ++ List.replicate (3 - (lg_sl ([.ref a_t, .int x1, .int x2])).length) Slot.unset).toArray = ls at hl ⊢
  have hl : lv_has ls 3 [(0, .ref a_t), (1, .int x1), (2, .int x2)] := hl
  have hf := f_X6_contract.eq_1 f_t_told_sizes f_t_told_cells v_t_now_place v_t_now_voided v_t_now_counted x1 x2
  refine lv_aload_n hx hb dX6_contract_0 rfl (lv_at hl 0 rfl) ?_
  refine lv_iload_n hx hb dX6_contract_1 rfl (lv_at hl 1 rfl) ?_
  refine pcV (As := [.int x1]) (rest := []) ⟨hx, hb, hml, hown, hts⟩ (c_X6_isContract l D cI cZ cO a_t a_t_text a_t_told a_t_draft a_t_now a_t_acts a_t_sightings a_t_sides a_t_kept v_t_keptSlots v_t_theSeed a_t_told_sizes a_t_told_cells f_t_told_sizes x1) (cwV 1 hts gX6_contract_X6_isContract rfl rfl rfl (by decide +kernel) ⟨Nat.le_of_ble_eq_true rfl, Nat.le_of_ble_eq_true rfl⟩) hKX hP [0, 1, 2] rfl 0 6 rfl rfl rfl rfl hl.1 rfl (Nat.le_of_ble_eq_true rfl) dX6_contract_2 ⟨Nat.le_of_ble_eq_true rfl, Nat.le_of_ble_eq_true rfl⟩ ?_
  refine lv_if_ne (tgt := 10) hx hb dX6_contract_5 (by decide) (fun c_5 => ?_) (fun c_5 => ?_)
  · replace hf := hf.trans (if_pos c_5)
    refine lv_iload_n hx hb dX6_contract_10 rfl (lv_at hl 2 rfl) ?_
    by_cases q_11_0 : x2 = 0
    · replace hf := hf.trans (if_pos q_11_0)
      refine lv_tableIn (off := 41) (tgt := 52) hx hb dX6_contract_11 (by rw [q_11_0]; decide) (by rw [q_11_0]; decide) (by rw [q_11_0]; rfl) (by decide) ?_
      refine lv_aload_n hx hb dX6_contract_52 rfl (lv_at hl 0 rfl) ?_
      refine va_get (D := D) (ci := 6) (v := .ref a_t_told) (C := RX6) (T := TX6) (N := 10) hx hb hts hwX6 hown hK hP 0 rfl rfl 1 (by decide) (hts (.fieldLink RX6 19 "SkippedDay" "told" "LSkippedDay$Told;") (by decide +kernel)) (fun _ h9 => h9) rfl dX6_contract_53 ?_
      refine lv_iload_n hx hb dX6_contract_56 rfl (lv_at hl 1 rfl) ?_
      refine pcV (As := [.int x1]) (rest := []) ⟨hx, hb, hml, hown, hts⟩ (c_X5_startOf l D cI cZ cO a_t_told a_t_told_sizes a_t_told_cells f_t_told_cells x1) (cwV 1 hts gX6_contract_X5_startOf rfl rfl rfl (by decide +kernel) ⟨Nat.le_of_ble_eq_true rfl, Nat.le_of_ble_eq_true rfl⟩) hKX hP [1, 3] rfl 1 5 rfl rfl rfl rfl hl.1 rfl (Nat.le_of_ble_eq_true rfl) dX6_contract_57 ⟨Nat.le_of_ble_eq_true rfl, Nat.le_of_ble_eq_true rfl⟩ ?_
      exact W.iret (v := f_X5_startOf f_t_told_cells x1) hx hb hr (fun t ht hW => ⟨congrArg (fun z => Outcome.returned (some (Value.int z))) hf.symm, ht⟩) (fun _ h => absurd h List.not_mem_nil) dX6_contract_60
    · replace hf := hf.trans (if_neg q_11_0)
      by_cases q_11_1 : x2 = 1
      · replace hf := hf.trans (if_pos q_11_1)
        refine lv_tableIn (off := 50) (tgt := 61) hx hb dX6_contract_11 (by rw [q_11_1]; decide) (by rw [q_11_1]; decide) (by rw [q_11_1]; rfl) (by decide) ?_
        refine lv_aload_n hx hb dX6_contract_61 rfl (lv_at hl 0 rfl) ?_
        refine va_get (D := D) (ci := 6) (v := .ref a_t_now) (C := RX6) (T := TX6) (N := 10) hx hb hts hwX6 hown hK hP 0 rfl rfl 3 (by decide) (hts (.fieldLink RX6 29 "SkippedDay" "now" "LSkippedDay$Standing;") (by decide +kernel)) (fun _ h9 => h9) rfl dX6_contract_62 ?_
        refine lv_iload_n hx hb dX6_contract_65 rfl (lv_at hl 1 rfl) ?_
        refine pcV (As := [.int x1]) (rest := []) ⟨hx, hb, hml, hown, hts⟩ (c_X3_isByCount l D cI cZ cO a_t_now v_t_now_place v_t_now_voided v_t_now_counted x1) (cwV 1 hts gX6_contract_X3_isByCount rfl rfl rfl (by decide +kernel) ⟨Nat.le_of_ble_eq_true rfl, Nat.le_of_ble_eq_true rfl⟩) hKX hP [4] rfl 4 3 rfl rfl rfl rfl hl.1 rfl (Nat.le_of_ble_eq_true rfl) dX6_contract_66 ⟨Nat.le_of_ble_eq_true rfl, Nat.le_of_ble_eq_true rfl⟩ ?_
        refine lv_if_eq (tgt := 76) hx hb dX6_contract_69 (by decide) (fun c_69 => ?_) (fun c_69 => ?_)
        · replace hf := hf.trans (if_pos c_69)
          refine lv_iconst (v := 0) hx hb dX6_contract_76 (by decide) ?_
          exact W.iret (v := 0) hx hb hr (fun t ht hW => ⟨congrArg (fun z => Outcome.returned (some (Value.int z))) hf.symm, ht⟩) (fun _ h => absurd h List.not_mem_nil) dX6_contract_77
        · replace hf := hf.trans (if_neg c_69)
          refine lv_iconst (v := 1) hx hb dX6_contract_72 (by decide) ?_
          refine lv_goto (tgt := 77) hx hb dX6_contract_73 (by decide) ?_
          exact W.iret (v := 1) hx hb hr (fun t ht hW => ⟨congrArg (fun z => Outcome.returned (some (Value.int z))) hf.symm, ht⟩) (fun _ h => absurd h List.not_mem_nil) dX6_contract_77
      · replace hf := hf.trans (if_neg q_11_1)
        by_cases q_11_2 : x2 = 2
        · replace hf := hf.trans (if_pos q_11_2)
          refine lv_tableIn (off := 67) (tgt := 78) hx hb dX6_contract_11 (by rw [q_11_2]; decide) (by rw [q_11_2]; decide) (by rw [q_11_2]; rfl) (by decide) ?_
          refine lv_aload_n hx hb dX6_contract_78 rfl (lv_at hl 0 rfl) ?_
          refine va_get (D := D) (ci := 6) (v := .ref a_t_told) (C := RX6) (T := TX6) (N := 10) hx hb hts hwX6 hown hK hP 0 rfl rfl 1 (by decide) (hts (.fieldLink RX6 19 "SkippedDay" "told" "LSkippedDay$Told;") (by decide +kernel)) (fun _ h9 => h9) rfl dX6_contract_79 ?_
          refine lv_iload_n hx hb dX6_contract_82 rfl (lv_at hl 1 rfl) ?_
          refine pcV (As := [.int x1]) (rest := []) ⟨hx, hb, hml, hown, hts⟩ (c_X5_lengthOf l D cI cZ cO a_t_told a_t_told_sizes a_t_told_cells f_t_told_cells x1) (cwV 1 hts gX6_contract_X5_lengthOf rfl rfl rfl (by decide +kernel) ⟨Nat.le_of_ble_eq_true rfl, Nat.le_of_ble_eq_true rfl⟩) hKX hP [1, 3] rfl 1 5 rfl rfl rfl rfl hl.1 rfl (Nat.le_of_ble_eq_true rfl) dX6_contract_83 ⟨Nat.le_of_ble_eq_true rfl, Nat.le_of_ble_eq_true rfl⟩ ?_
          exact W.iret (v := f_X5_lengthOf f_t_told_cells x1) hx hb hr (fun t ht hW => ⟨congrArg (fun z => Outcome.returned (some (Value.int z))) hf.symm, ht⟩) (fun _ h => absurd h List.not_mem_nil) dX6_contract_86
        · replace hf := hf.trans (if_neg q_11_2)
          by_cases q_11_3 : x2 = 3
          · replace hf := hf.trans (if_pos q_11_3)
            refine lv_tableIn (off := 76) (tgt := 87) hx hb dX6_contract_11 (by rw [q_11_3]; decide) (by rw [q_11_3]; decide) (by rw [q_11_3]; rfl) (by decide) ?_
            refine lv_aload_n hx hb dX6_contract_87 rfl (lv_at hl 0 rfl) ?_
            refine va_get (D := D) (ci := 6) (v := .ref a_t_told) (C := RX6) (T := TX6) (N := 10) hx hb hts hwX6 hown hK hP 0 rfl rfl 1 (by decide) (hts (.fieldLink RX6 19 "SkippedDay" "told" "LSkippedDay$Told;") (by decide +kernel)) (fun _ h9 => h9) rfl dX6_contract_88 ?_
            refine lv_iload_n hx hb dX6_contract_91 rfl (lv_at hl 1 rfl) ?_
            refine pcV (As := [.int x1]) (rest := []) ⟨hx, hb, hml, hown, hts⟩ (c_X5_latestOf l D cI cZ cO a_t_told a_t_told_sizes a_t_told_cells f_t_told_cells x1) (cwV 1 hts gX6_contract_X5_latestOf rfl rfl rfl (by decide +kernel) ⟨Nat.le_of_ble_eq_true rfl, Nat.le_of_ble_eq_true rfl⟩) hKX hP [1, 3] rfl 1 5 rfl rfl rfl rfl hl.1 rfl (Nat.le_of_ble_eq_true rfl) dX6_contract_92 ⟨Nat.le_of_ble_eq_true rfl, Nat.le_of_ble_eq_true rfl⟩ ?_
            exact W.iret (v := f_X5_latestOf f_t_told_cells x1) hx hb hr (fun t ht hW => ⟨congrArg (fun z => Outcome.returned (some (Value.int z))) hf.symm, ht⟩) (fun _ h => absurd h List.not_mem_nil) dX6_contract_95
          · replace hf := hf.trans (if_neg q_11_3)
            by_cases q_11_4 : x2 = 4
            · replace hf := hf.trans (if_pos q_11_4)
              refine lv_tableIn (off := 85) (tgt := 96) hx hb dX6_contract_11 (by rw [q_11_4]; decide) (by rw [q_11_4]; decide) (by rw [q_11_4]; rfl) (by decide) ?_
              refine lv_aload_n hx hb dX6_contract_96 rfl (lv_at hl 0 rfl) ?_
              refine va_get (D := D) (ci := 6) (v := .ref a_t_told) (C := RX6) (T := TX6) (N := 10) hx hb hts hwX6 hown hK hP 0 rfl rfl 1 (by decide) (hts (.fieldLink RX6 19 "SkippedDay" "told" "LSkippedDay$Told;") (by decide +kernel)) (fun _ h9 => h9) rfl dX6_contract_97 ?_
              refine lv_iload_n hx hb dX6_contract_100 rfl (lv_at hl 1 rfl) ?_
              refine pcV (As := [.int x1]) (rest := []) ⟨hx, hb, hml, hown, hts⟩ (c_X5_leastOf l D cI cZ cO a_t_told a_t_told_sizes a_t_told_cells f_t_told_cells x1) (cwV 1 hts gX6_contract_X5_leastOf rfl rfl rfl (by decide +kernel) ⟨Nat.le_of_ble_eq_true rfl, Nat.le_of_ble_eq_true rfl⟩) hKX hP [1, 3] rfl 1 5 rfl rfl rfl rfl hl.1 rfl (Nat.le_of_ble_eq_true rfl) dX6_contract_101 ⟨Nat.le_of_ble_eq_true rfl, Nat.le_of_ble_eq_true rfl⟩ ?_
              exact W.iret (v := f_X5_leastOf f_t_told_cells x1) hx hb hr (fun t ht hW => ⟨congrArg (fun z => Outcome.returned (some (Value.int z))) hf.symm, ht⟩) (fun _ h => absurd h List.not_mem_nil) dX6_contract_104
            · replace hf := hf.trans (if_neg q_11_4)
              by_cases q_11_5 : x2 = 5
              · replace hf := hf.trans (if_pos q_11_5)
                refine lv_tableIn (off := 94) (tgt := 105) hx hb dX6_contract_11 (by rw [q_11_5]; decide) (by rw [q_11_5]; decide) (by rw [q_11_5]; rfl) (by decide) ?_
                refine lv_aload_n hx hb dX6_contract_105 rfl (lv_at hl 0 rfl) ?_
                refine va_get (D := D) (ci := 6) (v := .ref a_t_now) (C := RX6) (T := TX6) (N := 10) hx hb hts hwX6 hown hK hP 0 rfl rfl 3 (by decide) (hts (.fieldLink RX6 29 "SkippedDay" "now" "LSkippedDay$Standing;") (by decide +kernel)) (fun _ h9 => h9) rfl dX6_contract_106 ?_
                refine lv_iload_n hx hb dX6_contract_109 rfl (lv_at hl 1 rfl) ?_
                refine pcV (As := [.int x1]) (rest := []) ⟨hx, hb, hml, hown, hts⟩ (c_X3_isVoid l D cI cZ cO a_t_now v_t_now_place v_t_now_voided v_t_now_counted x1) (cwV 1 hts gX6_contract_X3_isVoid rfl rfl rfl (by decide +kernel) ⟨Nat.le_of_ble_eq_true rfl, Nat.le_of_ble_eq_true rfl⟩) hKX hP [4] rfl 4 3 rfl rfl rfl rfl hl.1 rfl (Nat.le_of_ble_eq_true rfl) dX6_contract_110 ⟨Nat.le_of_ble_eq_true rfl, Nat.le_of_ble_eq_true rfl⟩ ?_
                refine lv_if_eq (tgt := 120) hx hb dX6_contract_113 (by decide) (fun c_113 => ?_) (fun c_113 => ?_)
                · replace hf := hf.trans (if_pos c_113)
                  refine lv_iconst (v := 0) hx hb dX6_contract_120 (by decide) ?_
                  exact W.iret (v := 0) hx hb hr (fun t ht hW => ⟨congrArg (fun z => Outcome.returned (some (Value.int z))) hf.symm, ht⟩) (fun _ h => absurd h List.not_mem_nil) dX6_contract_121
                · replace hf := hf.trans (if_neg c_113)
                  refine lv_iconst (v := 1) hx hb dX6_contract_116 (by decide) ?_
                  refine lv_goto (tgt := 121) hx hb dX6_contract_117 (by decide) ?_
                  exact W.iret (v := 1) hx hb hr (fun t ht hW => ⟨congrArg (fun z => Outcome.returned (some (Value.int z))) hf.symm, ht⟩) (fun _ h => absurd h List.not_mem_nil) dX6_contract_121
              · replace hf := hf.trans (if_neg q_11_5)
                by_cases q_11_6 : x2 = 6
                · replace hf := hf.trans (if_pos q_11_6)
                  refine lv_tableIn (off := 111) (tgt := 122) hx hb dX6_contract_11 (by rw [q_11_6]; decide) (by rw [q_11_6]; decide) (by rw [q_11_6]; rfl) (by decide) ?_
                  refine lv_aload_n hx hb dX6_contract_122 rfl (lv_at hl 0 rfl) ?_
                  refine lv_iload_n hx hb dX6_contract_123 rfl (lv_at hl 1 rfl) ?_
                  refine lv_aload_n hx hb dX6_contract_124 rfl (lv_at hl 0 rfl) ?_
                  refine va_get (D := D) (ci := 6) (v := .ref a_t_now) (C := RX6) (T := TX6) (N := 10) hx hb hts hwX6 hown hK hP 0 rfl rfl 3 (by decide) (hts (.fieldLink RX6 29 "SkippedDay" "now" "LSkippedDay$Standing;") (by decide +kernel)) (fun _ h9 => h9) rfl dX6_contract_125 ?_
                  refine lv_iload_n hx hb dX6_contract_128 rfl (lv_at hl 1 rfl) ?_
                  refine pcV (As := [.int x1]) (rest := [.int x1, .ref a_t]) ⟨hx, hb, hml, hown, hts⟩ (c_X3_isByCount l D cI cZ cO a_t_now v_t_now_place v_t_now_voided v_t_now_counted x1) (cwV 1 hts gX6_contract_X3_isByCount rfl rfl rfl (by decide +kernel) ⟨Nat.le_of_ble_eq_true rfl, Nat.le_of_ble_eq_true rfl⟩) hKX hP [4] rfl 4 3 rfl rfl rfl rfl hl.1 rfl (Nat.le_of_ble_eq_true rfl) dX6_contract_129 ⟨Nat.le_of_ble_eq_true rfl, Nat.le_of_ble_eq_true rfl⟩ ?_
                  refine lv_aload_n hx hb dX6_contract_132 rfl (lv_at hl 0 rfl) ?_
                  refine va_get (D := D) (ci := 6) (v := .ref a_t_now) (C := RX6) (T := TX6) (N := 10) hx hb hts hwX6 hown hK hP 0 rfl rfl 3 (by decide) (hts (.fieldLink RX6 29 "SkippedDay" "now" "LSkippedDay$Standing;") (by decide +kernel)) (fun _ h9 => h9) rfl dX6_contract_133 ?_
                  refine va_getN (host := RX6) (D := D) (ci := 3) (v := .int v_t_now_place) (C := RX3) (T := TX3) (N := 3) hx hb hts hwX3 hown hK hP 4 rfl rfl 0 (by decide) (va_Nw.use rfl hKX.2.1) (fun _ h9 => h9) rfl dX6_contract_136 ?_
                  refine pcV (As := [.int x1, .int (f_X3_isByCount v_t_now_counted x1), .int v_t_now_place]) (rest := []) ⟨hx, hb, hml, hown, hts⟩ (c_X6_endOf l D cI cZ cO a_t a_t_text a_t_told a_t_draft a_t_now a_t_acts a_t_sightings a_t_sides a_t_kept v_t_keptSlots v_t_theSeed a_t_told_sizes a_t_told_cells f_t_told_cells x1 (f_X3_isByCount v_t_now_counted x1) v_t_now_place) (cwV 3 hts gX6_contract_X6_endOf rfl rfl rfl (by decide +kernel) ⟨Nat.le_of_ble_eq_true rfl, Nat.le_of_ble_eq_true rfl⟩) hKX hP [0, 1, 3] rfl 0 6 rfl rfl rfl rfl hl.1 rfl (Nat.le_of_ble_eq_true rfl) dX6_contract_139 ⟨Nat.le_of_ble_eq_true rfl, Nat.le_of_ble_eq_true rfl⟩ ?_
                  exact W.iret (v := f_X6_endOf f_t_told_cells x1 (f_X3_isByCount v_t_now_counted x1) v_t_now_place) hx hb hr (fun t ht hW => ⟨congrArg (fun z => Outcome.returned (some (Value.int z))) hf.symm, ht⟩) (fun _ h => absurd h List.not_mem_nil) dX6_contract_142
                · replace hf := hf.trans (if_neg q_11_6)
                  refine lv_tableOut (tgt := 143) hx hb dX6_contract_11 (sw_out (lo := 0) (hi := 6) (by decide) (by decide) (s_X6_contract_1 x2 q_11_0 q_11_1 q_11_2 q_11_3 q_11_4 q_11_5 q_11_6)) (by decide) ?_
                  refine lv_bipush (v := (-2)) hx hb dX6_contract_143 (by decide) ?_
                  exact W.iret (v := (-2)) hx hb hr (fun t ht hW => ⟨congrArg (fun z => Outcome.returned (some (Value.int z))) hf.symm, ht⟩) (fun _ h => absurd h List.not_mem_nil) dX6_contract_145
  · replace hf := hf.trans (if_neg (fun h9 => h9 c_5))
    refine lv_iconst (v := (-1)) hx hb dX6_contract_8 (by decide) ?_
    exact W.iret (v := (-1)) hx hb hr (fun t ht hW => ⟨congrArg (fun z => Outcome.returned (some (Value.int z))) hf.symm, ht⟩) (fun _ h => absurd h List.not_mem_nil) dX6_contract_9

def f_X6_isPlace (x0 : Int32) : Int32 :=
  if x0 < 0 then 0 else if 14 ≤ x0 then 0 else 1
set_option maxHeartbeats 4000000 in
set_option maxRecDepth 100000 in
theorem c_X6_isPlace (l : Launch) (D : va_G) (cI cZ cO : ClassId) (x0 : Int32) : Met l yX6_isPlace wsX6_isPlace ({ frames := 0, cells := 0, slots := 0, locals := 0 }) (PcP D (tysG cI cZ cO) [.int x0] []) (QP (.int (f_X6_isPlace x0))) 0 0 (fun _ => False) := by
  refine Met.ofW (cc := cX6_isPlace) (maxL := 1) (ret := (some .boolean)) (by decide) rfl ?_
  intro p e s m args below meth c s₁ B hml hv
  obtain ⟨rfl, hP, hKX⟩ := hv
  have hx := B.exec
  have hb := B.bytes
  have hr := B.returns
  have hts := atoms_spec (ws := wsX6_isPlace) B.pre
  have hown : s.vm.findClass RX6 = some m.cls := findClass_of_methodNamed B.named
  have hlocks := B.notSynchronized
  have hK := hKX.1
  have hl := lv_entry ([.int x0]) (n := 1) (Nat.le_of_ble_eq_true rfl)
  rw [lg_entry_eq]
  generalize (lg_sl ([.int x0]) ++ List.replicate (1 - (lg_sl ([.int x0])).length) Slot.unset).toArray = ls at hl ⊢
  have hl : lv_has ls 1 [(0, .int x0)] := hl
  have hf := f_X6_isPlace.eq_1 x0
  refine lv_iload_n hx hb dX6_isPlace_0 rfl (lv_at hl 0 rfl) ?_
  refine lv_if_lt (tgt := 14) hx hb dX6_isPlace_1 (by decide) (fun c_1 => ?_) (fun c_1 => ?_)
  · replace hf := hf.trans (if_pos c_1)
    refine lv_iconst (v := 0) hx hb dX6_isPlace_14 (by decide) ?_
    exact W.zret (ty := .boolean) (v := 0) hx hb hr rfl (fun t ht hW => ⟨congrArg (fun z => Outcome.returned (some (Value.int z))) hf.symm, ht⟩) (fun _ h => absurd h List.not_mem_nil) dX6_isPlace_15
  · replace hf := hf.trans (if_neg c_1)
    refine lv_iload_n hx hb dX6_isPlace_4 rfl (lv_at hl 0 rfl) ?_
    refine lv_bipush (v := 14) hx hb dX6_isPlace_5 (by decide) ?_
    refine lv_icmp_ge (tgt := 14) hx hb dX6_isPlace_7 (by decide) (fun c_7 => ?_) (fun c_7 => ?_)
    · replace hf := hf.trans (if_pos c_7)
      refine lv_iconst (v := 0) hx hb dX6_isPlace_14 (by decide) ?_
      exact W.zret (ty := .boolean) (v := 0) hx hb hr rfl (fun t ht hW => ⟨congrArg (fun z => Outcome.returned (some (Value.int z))) hf.symm, ht⟩) (fun _ h => absurd h List.not_mem_nil) dX6_isPlace_15
    · replace hf := hf.trans (if_neg c_7)
      refine lv_iconst (v := 1) hx hb dX6_isPlace_10 (by decide) ?_
      refine lv_goto (tgt := 15) hx hb dX6_isPlace_11 (by decide) ?_
      exact W.zret (ty := .boolean) (v := 1) hx hb hr rfl (fun t ht hW => ⟨congrArg (fun z => Outcome.returned (some (Value.int z))) hf.symm, ht⟩) (fun _ h => absurd h List.not_mem_nil) dX6_isPlace_15

def f_X6_put (v_t_now_place : Int32) (v_t_acts_size : Int32) (f_t_acts_kinds : Nat → Int32) (f_t_acts_numbers : Nat → Int32) (x1 : Int32) : Int32 × Int32 × Int32 × (Nat → Int32) × (Nat → Int32) :=
  if ¬ (f_X6_isPlace x1) = 0 then if ¬ x1 = v_t_now_place then ap3 (f_X0_add v_t_acts_size f_t_acts_kinds f_t_acts_numbers 0 v_t_now_place) (fun u38_t_acts_size u38_t_acts_kinds u38_t_acts_numbers => (f_X6_gapOrNone v_t_now_place, x1, u38_t_acts_size, u38_t_acts_kinds, u38_t_acts_numbers)) else ((-3), v_t_now_place, v_t_acts_size, f_t_acts_kinds, f_t_acts_numbers) else ((-2), v_t_now_place, v_t_acts_size, f_t_acts_kinds, f_t_acts_numbers)
/- hp0@38 -/ theorem s_X6_put_1 (v_t_acts_size : Int32) (hp0 : 0 ≤ v_t_acts_size) (hp1 : v_t_acts_size ≤ 14) : 0 ≤ v_t_acts_size := by grind
/- hp1@38 -/ theorem s_X6_put_2 (v_t_acts_size : Int32) (hp0 : 0 ≤ v_t_acts_size) (hp1 : v_t_acts_size ≤ 14) : v_t_acts_size ≤ 14 := by grind
/- post0@53 -/ theorem s_X6_put_3 (u38_t_acts_size : Int32) (hq38_0 : 0 ≤ u38_t_acts_size) (hq38_1 : u38_t_acts_size ≤ 14) : 0 ≤ u38_t_acts_size := by grind
/- post1@53 -/ theorem s_X6_put_4 (u38_t_acts_size : Int32) (hq38_0 : 0 ≤ u38_t_acts_size) (hq38_1 : u38_t_acts_size ≤ 14) : u38_t_acts_size ≤ 14 := by grind
/- post0@23 -/ theorem s_X6_put_5 (v_t_acts_size : Int32) (hp0 : 0 ≤ v_t_acts_size) (hp1 : v_t_acts_size ≤ 14) : 0 ≤ v_t_acts_size := by grind
/- post1@23 -/ theorem s_X6_put_6 (v_t_acts_size : Int32) (hp0 : 0 ≤ v_t_acts_size) (hp1 : v_t_acts_size ≤ 14) : v_t_acts_size ≤ 14 := by grind
/- post0@9 -/ theorem s_X6_put_7 (v_t_acts_size : Int32) (hp0 : 0 ≤ v_t_acts_size) (hp1 : v_t_acts_size ≤ 14) : 0 ≤ v_t_acts_size := by grind
/- post1@9 -/ theorem s_X6_put_8 (v_t_acts_size : Int32) (hp0 : 0 ≤ v_t_acts_size) (hp1 : v_t_acts_size ≤ 14) : v_t_acts_size ≤ 14 := by grind
set_option maxHeartbeats 4000000 in
set_option maxRecDepth 100000 in
theorem c_X6_put (l : Launch) (D : va_G) (cI cZ cO : ClassId) (a_t : Nat) (a_t_text : Nat) (a_t_told : Nat) (a_t_draft : Nat) (a_t_now : Nat) (a_t_acts : Nat) (a_t_sightings : Nat) (a_t_sides : Nat) (a_t_kept : Nat) (v_t_keptSlots : Int32) (v_t_theSeed : Int64) (v_t_now_place : Int32) (v_t_now_voided : Int32) (v_t_now_counted : Int32) (a_t_acts_kinds : Nat) (a_t_acts_numbers : Nat) (v_t_acts_size : Int32) (f_t_acts_kinds : Nat → Int32) (f_t_acts_numbers : Nat → Int32) (x1 : Int32) (sz : Nat) (hp0 : 0 ≤ v_t_acts_size) (hp1 : v_t_acts_size ≤ 14) : Met l yX6_put wsX6_put ({ frames := 2, cells := 0, slots := 0, locals := 43 }) (PcM D (tysG cI cZ cO) [.ref a_t, .int x1] sz [(a_t, .inr (6, [.ref a_t_text, .ref a_t_told, .ref a_t_draft, .ref a_t_now, .ref a_t_acts, .ref a_t_sightings, .ref a_t_sides, .ref a_t_kept, .int v_t_keptSlots, .long v_t_theSeed])), (a_t_now, .inr (3, [.int v_t_now_place, .int v_t_now_voided, .int v_t_now_counted])), (a_t_acts, .inr (0, [.ref a_t_acts_kinds, .ref a_t_acts_numbers, .int v_t_acts_size])), (a_t_acts_kinds, .inl (cI, 14, .inl f_t_acts_kinds)), (a_t_acts_numbers, .inl (cI, 14, .inl f_t_acts_numbers))]) (va_Qi (fun (r : Int32) (u : Int32 × Int32 × (Nat → Int32) × (Nat → Int32)) => (r, u) = f_X6_put v_t_now_place v_t_acts_size f_t_acts_kinds f_t_acts_numbers x1 ∧ (0 ≤ u.2.1) ∧ (u.2.1 ≤ 14)) (BM D (va_A [(a_t, .inr (6, [.ref a_t_text, .ref a_t_told, .ref a_t_draft, .ref a_t_now, .ref a_t_acts, .ref a_t_sightings, .ref a_t_sides, .ref a_t_kept, .int v_t_keptSlots, .long v_t_theSeed])), (a_t_now, .inr (3, [.int v_t_now_place, .int v_t_now_voided, .int v_t_now_counted])), (a_t_acts, .inr (0, [.ref a_t_acts_kinds, .ref a_t_acts_numbers, .int v_t_acts_size])), (a_t_acts_kinds, .inl (cI, 14, .inl f_t_acts_kinds)), (a_t_acts_numbers, .inl (cI, 14, .inl f_t_acts_numbers))] sz) (fun u : Int32 × Int32 × (Nat → Int32) × (Nat → Int32) => [(a_t, .inr (6, [.ref a_t_text, .ref a_t_told, .ref a_t_draft, .ref a_t_now, .ref a_t_acts, .ref a_t_sightings, .ref a_t_sides, .ref a_t_kept, .int v_t_keptSlots, .long v_t_theSeed])), (a_t_now, .inr (3, [.int u.1, .int v_t_now_voided, .int v_t_now_counted])), (a_t_acts, .inr (0, [.ref a_t_acts_kinds, .ref a_t_acts_numbers, .int u.2.1])), (a_t_acts_kinds, .inl (cI, 14, .inl u.2.2.1)), (a_t_acts_numbers, .inl (cI, 14, .inl u.2.2.2))])) (va_A [(a_t, .inr (6, [.ref a_t_text, .ref a_t_told, .ref a_t_draft, .ref a_t_now, .ref a_t_acts, .ref a_t_sightings, .ref a_t_sides, .ref a_t_kept, .int v_t_keptSlots, .long v_t_theSeed])), (a_t_now, .inr (3, [.int v_t_now_place, .int v_t_now_voided, .int v_t_now_counted])), (a_t_acts, .inr (0, [.ref a_t_acts_kinds, .ref a_t_acts_numbers, .int v_t_acts_size])), (a_t_acts_kinds, .inl (cI, 14, .inl f_t_acts_kinds)), (a_t_acts_numbers, .inl (cI, 14, .inl f_t_acts_numbers))] sz)) 0 0 (va_A [(a_t, .inr (6, [.ref a_t_text, .ref a_t_told, .ref a_t_draft, .ref a_t_now, .ref a_t_acts, .ref a_t_sightings, .ref a_t_sides, .ref a_t_kept, .int v_t_keptSlots, .long v_t_theSeed])), (a_t_now, .inr (3, [.int v_t_now_place, .int v_t_now_voided, .int v_t_now_counted])), (a_t_acts, .inr (0, [.ref a_t_acts_kinds, .ref a_t_acts_numbers, .int v_t_acts_size])), (a_t_acts_kinds, .inl (cI, 14, .inl f_t_acts_kinds)), (a_t_acts_numbers, .inl (cI, 14, .inl f_t_acts_numbers))] sz) := by
  refine Met.ofW (cc := cX6_put) (maxL := 3) (ret := (some .int)) (by decide) rfl ?_
  intro p e s m args below meth c s₁ B hml hv
  obtain ⟨rfl, hsz, hP, hKX, hD0⟩ := hv
  have hx := B.exec
  have hb := B.bytes
  have hr := B.returns
  have hts := atoms_spec (ws := wsX6_put) B.pre
  have hown : s.vm.findClass RX6 = some m.cls := findClass_of_methodNamed B.named
  have hlocks := B.notSynchronized
  have hK := hKX.1
  have hwX3 : ∀ w ∈ wsX30, w ∈ wsX6_put := by decide +kernel
  have hwX6 : ∀ w ∈ wsX60, w ∈ wsX6_put := by decide +kernel
  subst hsz
  have hD := hD0.self (sz := s.heap.size)
  generalize hAe : va_A [(a_t, .inr (6, [.ref a_t_text, .ref a_t_told, .ref a_t_draft, .ref a_t_now, .ref a_t_acts, .ref a_t_sightings, .ref a_t_sides, .ref a_t_kept, .int v_t_keptSlots, .long v_t_theSeed])), (a_t_now, .inr (3, [.int v_t_now_place, .int v_t_now_voided, .int v_t_now_counted])), (a_t_acts, .inr (0, [.ref a_t_acts_kinds, .ref a_t_acts_numbers, .int v_t_acts_size])), (a_t_acts_kinds, .inl (cI, 14, .inl f_t_acts_kinds)), (a_t_acts_numbers, .inl (cI, 14, .inl f_t_acts_numbers))] s.heap.size = A at hD ⊢
  have hA : ∀ q : Nat, s.heap.size ≤ q → A q := fun q h => by rw [← hAe]; exact Or.inr h
  have hS : va_S A s.heap s.heap [] := va_S.rf
  have hP : va_P D vwCl [(a_t, .inr (6, [.ref a_t_text, .ref a_t_told, .ref a_t_draft, .ref a_t_now, .ref a_t_acts, .ref a_t_sightings, .ref a_t_sides, .ref a_t_kept, .int v_t_keptSlots, .long v_t_theSeed])), (a_t_now, .inr (3, [.int v_t_now_place, .int v_t_now_voided, .int v_t_now_counted])), (a_t_acts, .inr (0, [.ref a_t_acts_kinds, .ref a_t_acts_numbers, .int v_t_acts_size])), (a_t_acts_kinds, .inl (cI, 14, .inl f_t_acts_kinds)), (a_t_acts_numbers, .inl (cI, 14, .inl f_t_acts_numbers))] s.heap := hP
  have hl := lv_entry ([.ref a_t, .int x1]) (n := 3) (Nat.le_of_ble_eq_true rfl)
  rw [lg_entry_eq]
  generalize (lg_sl ([.ref a_t, .int x1]) ++ List.replicate (3 - (lg_sl ([.ref a_t, .int x1])).length) Slot.unset).toArray = ls at hl ⊢
  have hl : lv_has ls 3 [(0, .ref a_t), (1, .int x1)] := hl
  have hf := f_X6_put.eq_1 v_t_now_place v_t_acts_size f_t_acts_kinds f_t_acts_numbers x1
  refine lv_iload_n hx hb dX6_put_0 rfl (lv_at hl 1 rfl) ?_
  refine pcS (As := [.int x1]) (rest := []) ⟨hx, hb, hml, hown, hts⟩ (c_X6_isPlace l D cI cZ cO x1) (va_cwS 1 hts gX6_put_X6_isPlace rfl rfl rfl (by decide +kernel) ⟨Nat.le_of_ble_eq_true rfl, Nat.le_of_ble_eq_true rfl⟩) hKX hP [] rfl rfl hl.1 rfl (Nat.le_of_ble_eq_true rfl) dX6_put_1 ⟨Nat.le_of_ble_eq_true rfl, Nat.le_of_ble_eq_true rfl⟩ ?_
  refine lv_if_ne (tgt := 10) hx hb dX6_put_4 (by decide) (fun c_4 => ?_) (fun c_4 => ?_)
  · replace hf := hf.trans (if_pos c_4)
    refine lv_iload_n hx hb dX6_put_10 rfl (lv_at hl 1 rfl) ?_
    refine lv_aload_n hx hb dX6_put_11 rfl (lv_at hl 0 rfl) ?_
    refine va_get (D := D) (ci := 6) (v := .ref a_t_now) (C := RX6) (T := TX6) (N := 10) hx hb hts hwX6 hown hK hP 0 rfl rfl 3 (by decide) (hts (.fieldLink RX6 29 "SkippedDay" "now" "LSkippedDay$Standing;") (by decide +kernel)) (fun _ h9 => h9) rfl dX6_put_12 ?_
    refine va_getN (host := RX6) (D := D) (ci := 3) (v := .int v_t_now_place) (C := RX3) (T := TX3) (N := 3) hx hb hts hwX3 hown hK hP 1 rfl rfl 0 (by decide) (va_Nw.use rfl hKX.2.1) (fun _ h9 => h9) rfl dX6_put_15 ?_
    refine lv_icmp_ne (tgt := 24) hx hb dX6_put_18 (by decide) (fun c_18 => ?_) (fun c_18 => ?_)
    · replace hf := hf.trans (if_pos c_18)
      refine lv_aload_n hx hb dX6_put_24 rfl (lv_at hl 0 rfl) ?_
      refine va_get (D := D) (ci := 6) (v := .ref a_t_now) (C := RX6) (T := TX6) (N := 10) hx hb hts hwX6 hown hK hP 0 rfl rfl 3 (by decide) (hts (.fieldLink RX6 29 "SkippedDay" "now" "LSkippedDay$Standing;") (by decide +kernel)) (fun _ h9 => h9) rfl dX6_put_25 ?_
      refine va_getN (host := RX6) (D := D) (ci := 3) (v := .int v_t_now_place) (C := RX3) (T := TX3) (N := 3) hx hb hts hwX3 hown hK hP 1 rfl rfl 0 (by decide) (va_Nw.use rfl hKX.2.1) (fun _ h9 => h9) rfl dX6_put_28 ?_
      refine lv_istore_n (lv' := [(2, .int v_t_now_place), (0, .ref a_t), (1, .int x1)]) hx hb dX6_put_31 rfl hl (by decide) rfl (fun ls hl => ?_)
      refine lv_aload_n hx hb dX6_put_32 rfl (lv_at hl 1 rfl) ?_
      refine va_get (D := D) (ci := 6) (v := .ref a_t_acts) (C := RX6) (T := TX6) (N := 10) hx hb hts hwX6 hown hK hP 0 rfl rfl 4 (by decide) (hts (.fieldLink RX6 36 "SkippedDay" "acts" "LSkippedDay$Acts;") (by decide +kernel)) (fun _ h9 => h9) rfl dX6_put_33 ?_
      refine lv_iconst (v := 0) hx hb dX6_put_36 (by decide) ?_
      refine lv_iload_n hx hb dX6_put_37 rfl (lv_at hl 0 rfl) ?_
      refine callMv (As := [.int 0, .int v_t_now_place]) (rest := []) (wr := [(a_t, .inr (6, [.ref a_t_text, .ref a_t_told, .ref a_t_draft, .ref a_t_now, .ref a_t_acts, .ref a_t_sightings, .ref a_t_sides, .ref a_t_kept, .int v_t_keptSlots, .long v_t_theSeed])), (a_t_now, .inr (3, [.int v_t_now_place, .int v_t_now_voided, .int v_t_now_counted]))]) ⟨hx, hb, hml, hown, hts⟩ (c_X0_add l D cI cZ cO a_t_acts a_t_acts_kinds a_t_acts_numbers v_t_acts_size f_t_acts_kinds f_t_acts_numbers 0 v_t_now_place s.heap.size (s_X6_put_1 v_t_acts_size hp0 hp1) (s_X6_put_2 v_t_acts_size hp0 hp1)) (cwV 2 hts gX6_put_X0_add rfl rfl rfl (by decide +kernel) ⟨Nat.le_of_ble_eq_true rfl, Nat.le_of_ble_eq_true rfl⟩) hKX hP hD hS hA [2, 3, 4] [0, 1] rfl rfl (by decide) (by decide) (by decide) 2 0 rfl rfl rfl rfl hl.1 rfl (Nat.le_of_ble_eq_true rfl) dX6_put_38 ⟨Nat.le_of_ble_eq_true rfl, Nat.le_of_ble_eq_true rfl⟩ (fun u H locs hc38 hP hD hS => ?_)
      obtain ⟨u38_t_acts_size, u38_t_acts_kinds, u38_t_acts_numbers⟩ := u
      have hP : va_P D vwCl [(a_t, .inr (6, [.ref a_t_text, .ref a_t_told, .ref a_t_draft, .ref a_t_now, .ref a_t_acts, .ref a_t_sightings, .ref a_t_sides, .ref a_t_kept, .int v_t_keptSlots, .long v_t_theSeed])), (a_t_now, .inr (3, [.int v_t_now_place, .int v_t_now_voided, .int v_t_now_counted])), (a_t_acts, .inr (0, [.ref a_t_acts_kinds, .ref a_t_acts_numbers, .int u38_t_acts_size])), (a_t_acts_kinds, .inl (cI, 14, .inl u38_t_acts_kinds)), (a_t_acts_numbers, .inl (cI, 14, .inl u38_t_acts_numbers))] H := hP
      have hD : va_D A [(a_t, .inr (6, [.ref a_t_text, .ref a_t_told, .ref a_t_draft, .ref a_t_now, .ref a_t_acts, .ref a_t_sightings, .ref a_t_sides, .ref a_t_kept, .int v_t_keptSlots, .long v_t_theSeed])), (a_t_now, .inr (3, [.int v_t_now_place, .int v_t_now_voided, .int v_t_now_counted])), (a_t_acts, .inr (0, [.ref a_t_acts_kinds, .ref a_t_acts_numbers, .int u38_t_acts_size])), (a_t_acts_kinds, .inl (cI, 14, .inl u38_t_acts_kinds)), (a_t_acts_numbers, .inl (cI, 14, .inl u38_t_acts_numbers))] := hD
      have hq38_0 : 0 ≤ u38_t_acts_size := hc38.2.1
      have hq38_1 : u38_t_acts_size ≤ 14 := hc38.2.2
      replace hf := hf.trans (ap3_g hc38.1)
      refine lv_aload_n hx hb dX6_put_41 rfl (lv_at hl 1 rfl) ?_
      refine va_get (D := D) (ci := 6) (v := .ref a_t_now) (C := RX6) (T := TX6) (N := 10) hx hb hts hwX6 hown hK hP 0 rfl rfl 3 (by decide) (hts (.fieldLink RX6 29 "SkippedDay" "now" "LSkippedDay$Standing;") (by decide +kernel)) (fun _ h9 => h9) rfl dX6_put_42 ?_
      refine lv_iload_n hx hb dX6_put_45 rfl (lv_at hl 2 rfl) ?_
      refine va_putN (host := RX6) (D := D) (ci := 3) (v := .int x1) (ty := .int) (C := RX3) (T := TX3) (N := 3) hx hb hts hwX3 tyX3 tyX3_ok nmX3 hown hK hP hD hS 1 rfl rfl 0 (by decide) (va_Nw.use rfl hKX.2.1) (fun _ h9 => h9) rfl (by decide +kernel) rfl rfl (Nat.le_of_ble_eq_true rfl) dX6_put_46 (fun H locs hP hD hS => ?_)
      have hP : va_P D vwCl [(a_t, .inr (6, [.ref a_t_text, .ref a_t_told, .ref a_t_draft, .ref a_t_now, .ref a_t_acts, .ref a_t_sightings, .ref a_t_sides, .ref a_t_kept, .int v_t_keptSlots, .long v_t_theSeed])), (a_t_now, .inr (3, [.int x1, .int v_t_now_voided, .int v_t_now_counted])), (a_t_acts, .inr (0, [.ref a_t_acts_kinds, .ref a_t_acts_numbers, .int u38_t_acts_size])), (a_t_acts_kinds, .inl (cI, 14, .inl u38_t_acts_kinds)), (a_t_acts_numbers, .inl (cI, 14, .inl u38_t_acts_numbers))] H := hP
      have hD : va_D A [(a_t, .inr (6, [.ref a_t_text, .ref a_t_told, .ref a_t_draft, .ref a_t_now, .ref a_t_acts, .ref a_t_sightings, .ref a_t_sides, .ref a_t_kept, .int v_t_keptSlots, .long v_t_theSeed])), (a_t_now, .inr (3, [.int x1, .int v_t_now_voided, .int v_t_now_counted])), (a_t_acts, .inr (0, [.ref a_t_acts_kinds, .ref a_t_acts_numbers, .int u38_t_acts_size])), (a_t_acts_kinds, .inl (cI, 14, .inl u38_t_acts_kinds)), (a_t_acts_numbers, .inl (cI, 14, .inl u38_t_acts_numbers))] := hD
      refine lv_iload_n hx hb dX6_put_49 rfl (lv_at hl 0 rfl) ?_
      refine pcS (As := [.int v_t_now_place]) (rest := []) ⟨hx, hb, hml, hown, hts⟩ (c_X6_gapOrNone l D cI cZ cO v_t_now_place) (va_cwS 1 hts gX6_put_X6_gapOrNone rfl rfl rfl (by decide +kernel) ⟨Nat.le_of_ble_eq_true rfl, Nat.le_of_ble_eq_true rfl⟩) hKX hP [] rfl rfl hl.1 rfl (Nat.le_of_ble_eq_true rfl) dX6_put_50 ⟨Nat.le_of_ble_eq_true rfl, Nat.le_of_ble_eq_true rfl⟩ ?_
      exact W.iret (v := f_X6_gapOrNone v_t_now_place) hx hb hr (fun t ht hW => ⟨⟨f_X6_gapOrNone v_t_now_place, (x1, u38_t_acts_size, u38_t_acts_kinds, u38_t_acts_numbers), rfl, ⟨hf.symm, (s_X6_put_3 u38_t_acts_size hq38_0 hq38_1), (s_X6_put_4 u38_t_acts_size hq38_0 hq38_1)⟩, by rw [ht]; exact hP.sub [0, 1, 2, 3, 4] rfl, hD.sub [0, 1, 2, 3, 4] (by decide) rfl⟩, hS.F ht⟩) hS.2.2 dX6_put_53
    · replace hf := hf.trans (if_neg (fun h9 => h9 c_18))
      refine lv_bipush (v := (-3)) hx hb dX6_put_21 (by decide) ?_
      exact W.iret (v := (-3)) hx hb hr (fun t ht hW => ⟨⟨(-3), (v_t_now_place, v_t_acts_size, f_t_acts_kinds, f_t_acts_numbers), rfl, ⟨hf.symm, (s_X6_put_5 v_t_acts_size hp0 hp1), (s_X6_put_6 v_t_acts_size hp0 hp1)⟩, by rw [ht]; exact hP.sub [0, 1, 2, 3, 4] rfl, hD.sub [0, 1, 2, 3, 4] (by decide) rfl⟩, hS.F ht⟩) hS.2.2 dX6_put_23
  · replace hf := hf.trans (if_neg (fun h9 => h9 c_4))
    refine lv_bipush (v := (-2)) hx hb dX6_put_7 (by decide) ?_
    exact W.iret (v := (-2)) hx hb hr (fun t ht hW => ⟨⟨(-2), (v_t_now_place, v_t_acts_size, f_t_acts_kinds, f_t_acts_numbers), rfl, ⟨hf.symm, (s_X6_put_7 v_t_acts_size hp0 hp1), (s_X6_put_8 v_t_acts_size hp0 hp1)⟩, by rw [ht]; exact hP.sub [0, 1, 2, 3, 4] rfl, hD.sub [0, 1, 2, 3, 4] (by decide) rfl⟩, hS.F ht⟩) hS.2.2 dX6_put_9

def f_X6_turnVoid (f_t_told_sizes : Nat → Int32) (v_t_now_voided : Int32) (v_t_acts_size : Int32) (f_t_acts_kinds : Nat → Int32) (f_t_acts_numbers : Nat → Int32) (x1 : Int32) : Int32 × Int32 × Int32 × (Nat → Int32) × (Nat → Int32) :=
  if ¬ (f_X6_isContract f_t_told_sizes x1) = 0 then ap3 (f_X0_add v_t_acts_size f_t_acts_kinds f_t_acts_numbers 1 x1) (fun u16_t_acts_size u16_t_acts_kinds u16_t_acts_numbers => ap1 (f_X3_turnVoided v_t_now_voided x1) (fun u24_t_now_voided => if (f_X3_isVoid u24_t_now_voided x1) = 0 then (0, u24_t_now_voided, u16_t_acts_size, u16_t_acts_kinds, u16_t_acts_numbers) else (1, u24_t_now_voided, u16_t_acts_size, u16_t_acts_kinds, u16_t_acts_numbers))) else ((-1), v_t_now_voided, v_t_acts_size, f_t_acts_kinds, f_t_acts_numbers)
/- hp0@16 -/ theorem s_X6_turnVoid_1 (v_t_acts_size : Int32) (hp0 : 0 ≤ v_t_acts_size) (hp1 : v_t_acts_size ≤ 14) : 0 ≤ v_t_acts_size := by grind
/- hp1@16 -/ theorem s_X6_turnVoid_2 (v_t_acts_size : Int32) (hp0 : 0 ≤ v_t_acts_size) (hp1 : v_t_acts_size ≤ 14) : v_t_acts_size ≤ 14 := by grind
/- post0@43 -/ theorem s_X6_turnVoid_3 (u16_t_acts_size : Int32) (hq16_0 : 0 ≤ u16_t_acts_size) (hq16_1 : u16_t_acts_size ≤ 14) : 0 ≤ u16_t_acts_size := by grind
/- post1@43 -/ theorem s_X6_turnVoid_4 (u16_t_acts_size : Int32) (hq16_0 : 0 ≤ u16_t_acts_size) (hq16_1 : u16_t_acts_size ≤ 14) : u16_t_acts_size ≤ 14 := by grind
/- post0@43 -/ theorem s_X6_turnVoid_5 (u16_t_acts_size : Int32) (hq16_0 : 0 ≤ u16_t_acts_size) (hq16_1 : u16_t_acts_size ≤ 14) : 0 ≤ u16_t_acts_size := by grind
/- post1@43 -/ theorem s_X6_turnVoid_6 (u16_t_acts_size : Int32) (hq16_0 : 0 ≤ u16_t_acts_size) (hq16_1 : u16_t_acts_size ≤ 14) : u16_t_acts_size ≤ 14 := by grind
/- post0@9 -/ theorem s_X6_turnVoid_7 (v_t_acts_size : Int32) (hp0 : 0 ≤ v_t_acts_size) (hp1 : v_t_acts_size ≤ 14) : 0 ≤ v_t_acts_size := by grind
/- post1@9 -/ theorem s_X6_turnVoid_8 (v_t_acts_size : Int32) (hp0 : 0 ≤ v_t_acts_size) (hp1 : v_t_acts_size ≤ 14) : v_t_acts_size ≤ 14 := by grind
set_option maxHeartbeats 4000000 in
set_option maxRecDepth 100000 in
theorem c_X6_turnVoid (l : Launch) (D : va_G) (cI cZ cO : ClassId) (a_t : Nat) (a_t_text : Nat) (a_t_told : Nat) (a_t_draft : Nat) (a_t_now : Nat) (a_t_acts : Nat) (a_t_sightings : Nat) (a_t_sides : Nat) (a_t_kept : Nat) (v_t_keptSlots : Int32) (v_t_theSeed : Int64) (a_t_told_sizes : Nat) (a_t_told_cells : Nat) (f_t_told_sizes : Nat → Int32) (v_t_now_place : Int32) (v_t_now_voided : Int32) (v_t_now_counted : Int32) (a_t_acts_kinds : Nat) (a_t_acts_numbers : Nat) (v_t_acts_size : Int32) (f_t_acts_kinds : Nat → Int32) (f_t_acts_numbers : Nat → Int32) (x1 : Int32) (sz : Nat) (hp0 : 0 ≤ v_t_acts_size) (hp1 : v_t_acts_size ≤ 14) : Met l yX6_turnVoid wsX6_turnVoid ({ frames := 2, cells := 0, slots := 0, locals := 43 }) (PcM D (tysG cI cZ cO) [.ref a_t, .int x1] sz [(a_t, .inr (6, [.ref a_t_text, .ref a_t_told, .ref a_t_draft, .ref a_t_now, .ref a_t_acts, .ref a_t_sightings, .ref a_t_sides, .ref a_t_kept, .int v_t_keptSlots, .long v_t_theSeed])), (a_t_told, .inr (5, [.ref a_t_told_sizes, .ref a_t_told_cells])), (a_t_told_sizes, .inl (cI, 4, .inl f_t_told_sizes)), (a_t_now, .inr (3, [.int v_t_now_place, .int v_t_now_voided, .int v_t_now_counted])), (a_t_acts, .inr (0, [.ref a_t_acts_kinds, .ref a_t_acts_numbers, .int v_t_acts_size])), (a_t_acts_kinds, .inl (cI, 14, .inl f_t_acts_kinds)), (a_t_acts_numbers, .inl (cI, 14, .inl f_t_acts_numbers))]) (va_Qi (fun (r : Int32) (u : Int32 × Int32 × (Nat → Int32) × (Nat → Int32)) => (r, u) = f_X6_turnVoid f_t_told_sizes v_t_now_voided v_t_acts_size f_t_acts_kinds f_t_acts_numbers x1 ∧ (0 ≤ u.2.1) ∧ (u.2.1 ≤ 14)) (BM D (va_A [(a_t, .inr (6, [.ref a_t_text, .ref a_t_told, .ref a_t_draft, .ref a_t_now, .ref a_t_acts, .ref a_t_sightings, .ref a_t_sides, .ref a_t_kept, .int v_t_keptSlots, .long v_t_theSeed])), (a_t_told, .inr (5, [.ref a_t_told_sizes, .ref a_t_told_cells])), (a_t_told_sizes, .inl (cI, 4, .inl f_t_told_sizes)), (a_t_now, .inr (3, [.int v_t_now_place, .int v_t_now_voided, .int v_t_now_counted])), (a_t_acts, .inr (0, [.ref a_t_acts_kinds, .ref a_t_acts_numbers, .int v_t_acts_size])), (a_t_acts_kinds, .inl (cI, 14, .inl f_t_acts_kinds)), (a_t_acts_numbers, .inl (cI, 14, .inl f_t_acts_numbers))] sz) (fun u : Int32 × Int32 × (Nat → Int32) × (Nat → Int32) => [(a_t, .inr (6, [.ref a_t_text, .ref a_t_told, .ref a_t_draft, .ref a_t_now, .ref a_t_acts, .ref a_t_sightings, .ref a_t_sides, .ref a_t_kept, .int v_t_keptSlots, .long v_t_theSeed])), (a_t_told, .inr (5, [.ref a_t_told_sizes, .ref a_t_told_cells])), (a_t_told_sizes, .inl (cI, 4, .inl f_t_told_sizes)), (a_t_now, .inr (3, [.int v_t_now_place, .int u.1, .int v_t_now_counted])), (a_t_acts, .inr (0, [.ref a_t_acts_kinds, .ref a_t_acts_numbers, .int u.2.1])), (a_t_acts_kinds, .inl (cI, 14, .inl u.2.2.1)), (a_t_acts_numbers, .inl (cI, 14, .inl u.2.2.2))])) (va_A [(a_t, .inr (6, [.ref a_t_text, .ref a_t_told, .ref a_t_draft, .ref a_t_now, .ref a_t_acts, .ref a_t_sightings, .ref a_t_sides, .ref a_t_kept, .int v_t_keptSlots, .long v_t_theSeed])), (a_t_told, .inr (5, [.ref a_t_told_sizes, .ref a_t_told_cells])), (a_t_told_sizes, .inl (cI, 4, .inl f_t_told_sizes)), (a_t_now, .inr (3, [.int v_t_now_place, .int v_t_now_voided, .int v_t_now_counted])), (a_t_acts, .inr (0, [.ref a_t_acts_kinds, .ref a_t_acts_numbers, .int v_t_acts_size])), (a_t_acts_kinds, .inl (cI, 14, .inl f_t_acts_kinds)), (a_t_acts_numbers, .inl (cI, 14, .inl f_t_acts_numbers))] sz)) 0 0 (va_A [(a_t, .inr (6, [.ref a_t_text, .ref a_t_told, .ref a_t_draft, .ref a_t_now, .ref a_t_acts, .ref a_t_sightings, .ref a_t_sides, .ref a_t_kept, .int v_t_keptSlots, .long v_t_theSeed])), (a_t_told, .inr (5, [.ref a_t_told_sizes, .ref a_t_told_cells])), (a_t_told_sizes, .inl (cI, 4, .inl f_t_told_sizes)), (a_t_now, .inr (3, [.int v_t_now_place, .int v_t_now_voided, .int v_t_now_counted])), (a_t_acts, .inr (0, [.ref a_t_acts_kinds, .ref a_t_acts_numbers, .int v_t_acts_size])), (a_t_acts_kinds, .inl (cI, 14, .inl f_t_acts_kinds)), (a_t_acts_numbers, .inl (cI, 14, .inl f_t_acts_numbers))] sz) := by
  refine Met.ofW (cc := cX6_turnVoid) (maxL := 2) (ret := (some .int)) (by decide) rfl ?_
  intro p e s m args below meth c s₁ B hml hv
  obtain ⟨rfl, hsz, hP, hKX, hD0⟩ := hv
  have hx := B.exec
  have hb := B.bytes
  have hr := B.returns
  have hts := atoms_spec (ws := wsX6_turnVoid) B.pre
  have hown : s.vm.findClass RX6 = some m.cls := findClass_of_methodNamed B.named
  have hlocks := B.notSynchronized
  have hK := hKX.1
  have hwX6 : ∀ w ∈ wsX60, w ∈ wsX6_turnVoid := by decide +kernel
  subst hsz
  have hD := hD0.self (sz := s.heap.size)
  generalize hAe : va_A [(a_t, .inr (6, [.ref a_t_text, .ref a_t_told, .ref a_t_draft, .ref a_t_now, .ref a_t_acts, .ref a_t_sightings, .ref a_t_sides, .ref a_t_kept, .int v_t_keptSlots, .long v_t_theSeed])), (a_t_told, .inr (5, [.ref a_t_told_sizes, .ref a_t_told_cells])), (a_t_told_sizes, .inl (cI, 4, .inl f_t_told_sizes)), (a_t_now, .inr (3, [.int v_t_now_place, .int v_t_now_voided, .int v_t_now_counted])), (a_t_acts, .inr (0, [.ref a_t_acts_kinds, .ref a_t_acts_numbers, .int v_t_acts_size])), (a_t_acts_kinds, .inl (cI, 14, .inl f_t_acts_kinds)), (a_t_acts_numbers, .inl (cI, 14, .inl f_t_acts_numbers))] s.heap.size = A at hD ⊢
  have hA : ∀ q : Nat, s.heap.size ≤ q → A q := fun q h => by rw [← hAe]; exact Or.inr h
  have hS : va_S A s.heap s.heap [] := va_S.rf
  have hP : va_P D vwCl [(a_t, .inr (6, [.ref a_t_text, .ref a_t_told, .ref a_t_draft, .ref a_t_now, .ref a_t_acts, .ref a_t_sightings, .ref a_t_sides, .ref a_t_kept, .int v_t_keptSlots, .long v_t_theSeed])), (a_t_told, .inr (5, [.ref a_t_told_sizes, .ref a_t_told_cells])), (a_t_told_sizes, .inl (cI, 4, .inl f_t_told_sizes)), (a_t_now, .inr (3, [.int v_t_now_place, .int v_t_now_voided, .int v_t_now_counted])), (a_t_acts, .inr (0, [.ref a_t_acts_kinds, .ref a_t_acts_numbers, .int v_t_acts_size])), (a_t_acts_kinds, .inl (cI, 14, .inl f_t_acts_kinds)), (a_t_acts_numbers, .inl (cI, 14, .inl f_t_acts_numbers))] s.heap := hP
  have hl := lv_entry ([.ref a_t, .int x1]) (n := 2) (Nat.le_of_ble_eq_true rfl)
  rw [lg_entry_eq]
  generalize (lg_sl ([.ref a_t, .int x1]) ++ List.replicate (2 - (lg_sl ([.ref a_t, .int x1])).length) Slot.unset).toArray = ls at hl ⊢
  have hl : lv_has ls 2 [(0, .ref a_t), (1, .int x1)] := hl
  have hf := f_X6_turnVoid.eq_1 f_t_told_sizes v_t_now_voided v_t_acts_size f_t_acts_kinds f_t_acts_numbers x1
  refine lv_aload_n hx hb dX6_turnVoid_0 rfl (lv_at hl 0 rfl) ?_
  refine lv_iload_n hx hb dX6_turnVoid_1 rfl (lv_at hl 1 rfl) ?_
  refine pcV (As := [.int x1]) (rest := []) ⟨hx, hb, hml, hown, hts⟩ (c_X6_isContract l D cI cZ cO a_t a_t_text a_t_told a_t_draft a_t_now a_t_acts a_t_sightings a_t_sides a_t_kept v_t_keptSlots v_t_theSeed a_t_told_sizes a_t_told_cells f_t_told_sizes x1) (cwV 1 hts gX6_turnVoid_X6_isContract rfl rfl rfl (by decide +kernel) ⟨Nat.le_of_ble_eq_true rfl, Nat.le_of_ble_eq_true rfl⟩) hKX hP [0, 1, 2] rfl 0 6 rfl rfl rfl rfl hl.1 rfl (Nat.le_of_ble_eq_true rfl) dX6_turnVoid_2 ⟨Nat.le_of_ble_eq_true rfl, Nat.le_of_ble_eq_true rfl⟩ ?_
  refine lv_if_ne (tgt := 10) hx hb dX6_turnVoid_5 (by decide) (fun c_5 => ?_) (fun c_5 => ?_)
  · replace hf := hf.trans (if_pos c_5)
    refine lv_aload_n hx hb dX6_turnVoid_10 rfl (lv_at hl 0 rfl) ?_
    refine va_get (D := D) (ci := 6) (v := .ref a_t_acts) (C := RX6) (T := TX6) (N := 10) hx hb hts hwX6 hown hK hP 0 rfl rfl 4 (by decide) (hts (.fieldLink RX6 36 "SkippedDay" "acts" "LSkippedDay$Acts;") (by decide +kernel)) (fun _ h9 => h9) rfl dX6_turnVoid_11 ?_
    refine lv_iconst (v := 1) hx hb dX6_turnVoid_14 (by decide) ?_
    refine lv_iload_n hx hb dX6_turnVoid_15 rfl (lv_at hl 1 rfl) ?_
    refine callMv (As := [.int 1, .int x1]) (rest := []) (wr := [(a_t, .inr (6, [.ref a_t_text, .ref a_t_told, .ref a_t_draft, .ref a_t_now, .ref a_t_acts, .ref a_t_sightings, .ref a_t_sides, .ref a_t_kept, .int v_t_keptSlots, .long v_t_theSeed])), (a_t_told, .inr (5, [.ref a_t_told_sizes, .ref a_t_told_cells])), (a_t_told_sizes, .inl (cI, 4, .inl f_t_told_sizes)), (a_t_now, .inr (3, [.int v_t_now_place, .int v_t_now_voided, .int v_t_now_counted]))]) ⟨hx, hb, hml, hown, hts⟩ (c_X0_add l D cI cZ cO a_t_acts a_t_acts_kinds a_t_acts_numbers v_t_acts_size f_t_acts_kinds f_t_acts_numbers 1 x1 s.heap.size (s_X6_turnVoid_1 v_t_acts_size hp0 hp1) (s_X6_turnVoid_2 v_t_acts_size hp0 hp1)) (cwV 2 hts gX6_turnVoid_X0_add rfl rfl rfl (by decide +kernel) ⟨Nat.le_of_ble_eq_true rfl, Nat.le_of_ble_eq_true rfl⟩) hKX hP hD hS hA [4, 5, 6] [0, 1, 2, 3] rfl rfl (by decide) (by decide) (by decide) 4 0 rfl rfl rfl rfl hl.1 rfl (Nat.le_of_ble_eq_true rfl) dX6_turnVoid_16 ⟨Nat.le_of_ble_eq_true rfl, Nat.le_of_ble_eq_true rfl⟩ (fun u H locs hc16 hP hD hS => ?_)
    obtain ⟨u16_t_acts_size, u16_t_acts_kinds, u16_t_acts_numbers⟩ := u
    have hP : va_P D vwCl [(a_t, .inr (6, [.ref a_t_text, .ref a_t_told, .ref a_t_draft, .ref a_t_now, .ref a_t_acts, .ref a_t_sightings, .ref a_t_sides, .ref a_t_kept, .int v_t_keptSlots, .long v_t_theSeed])), (a_t_told, .inr (5, [.ref a_t_told_sizes, .ref a_t_told_cells])), (a_t_told_sizes, .inl (cI, 4, .inl f_t_told_sizes)), (a_t_now, .inr (3, [.int v_t_now_place, .int v_t_now_voided, .int v_t_now_counted])), (a_t_acts, .inr (0, [.ref a_t_acts_kinds, .ref a_t_acts_numbers, .int u16_t_acts_size])), (a_t_acts_kinds, .inl (cI, 14, .inl u16_t_acts_kinds)), (a_t_acts_numbers, .inl (cI, 14, .inl u16_t_acts_numbers))] H := hP
    have hD : va_D A [(a_t, .inr (6, [.ref a_t_text, .ref a_t_told, .ref a_t_draft, .ref a_t_now, .ref a_t_acts, .ref a_t_sightings, .ref a_t_sides, .ref a_t_kept, .int v_t_keptSlots, .long v_t_theSeed])), (a_t_told, .inr (5, [.ref a_t_told_sizes, .ref a_t_told_cells])), (a_t_told_sizes, .inl (cI, 4, .inl f_t_told_sizes)), (a_t_now, .inr (3, [.int v_t_now_place, .int v_t_now_voided, .int v_t_now_counted])), (a_t_acts, .inr (0, [.ref a_t_acts_kinds, .ref a_t_acts_numbers, .int u16_t_acts_size])), (a_t_acts_kinds, .inl (cI, 14, .inl u16_t_acts_kinds)), (a_t_acts_numbers, .inl (cI, 14, .inl u16_t_acts_numbers))] := hD
    have hq16_0 : 0 ≤ u16_t_acts_size := hc16.2.1
    have hq16_1 : u16_t_acts_size ≤ 14 := hc16.2.2
    replace hf := hf.trans (ap3_g hc16.1)
    refine lv_aload_n hx hb dX6_turnVoid_19 rfl (lv_at hl 0 rfl) ?_
    refine va_get (D := D) (ci := 6) (v := .ref a_t_now) (C := RX6) (T := TX6) (N := 10) hx hb hts hwX6 hown hK hP 0 rfl rfl 3 (by decide) (hts (.fieldLink RX6 29 "SkippedDay" "now" "LSkippedDay$Standing;") (by decide +kernel)) (fun _ h9 => h9) rfl dX6_turnVoid_20 ?_
    refine lv_iload_n hx hb dX6_turnVoid_23 rfl (lv_at hl 1 rfl) ?_
    refine callMv (As := [.int x1]) (rest := []) (wr := [(a_t, .inr (6, [.ref a_t_text, .ref a_t_told, .ref a_t_draft, .ref a_t_now, .ref a_t_acts, .ref a_t_sightings, .ref a_t_sides, .ref a_t_kept, .int v_t_keptSlots, .long v_t_theSeed])), (a_t_told, .inr (5, [.ref a_t_told_sizes, .ref a_t_told_cells])), (a_t_told_sizes, .inl (cI, 4, .inl f_t_told_sizes)), (a_t_acts, .inr (0, [.ref a_t_acts_kinds, .ref a_t_acts_numbers, .int u16_t_acts_size])), (a_t_acts_kinds, .inl (cI, 14, .inl u16_t_acts_kinds)), (a_t_acts_numbers, .inl (cI, 14, .inl u16_t_acts_numbers))]) ⟨hx, hb, hml, hown, hts⟩ (c_X3_turnVoided l D cI cZ cO a_t_now v_t_now_place v_t_now_voided v_t_now_counted x1 H.size) (cwV 1 hts gX6_turnVoid_X3_turnVoided rfl rfl rfl (by decide +kernel) ⟨Nat.le_of_ble_eq_true rfl, Nat.le_of_ble_eq_true rfl⟩) hKX hP hD hS hA [3] [0, 1, 2, 4, 5, 6] rfl rfl (by decide) (by decide) (by decide) 3 3 rfl rfl rfl rfl hl.1 rfl (Nat.le_of_ble_eq_true rfl) dX6_turnVoid_24 ⟨Nat.le_of_ble_eq_true rfl, Nat.le_of_ble_eq_true rfl⟩ (fun u H locs hc24 hP hD hS => ?_)
    obtain ⟨u24_t_now_voided, rfl⟩ : ∃ z, z = u := ⟨_, rfl⟩
    have hP : va_P D vwCl [(a_t, .inr (6, [.ref a_t_text, .ref a_t_told, .ref a_t_draft, .ref a_t_now, .ref a_t_acts, .ref a_t_sightings, .ref a_t_sides, .ref a_t_kept, .int v_t_keptSlots, .long v_t_theSeed])), (a_t_told, .inr (5, [.ref a_t_told_sizes, .ref a_t_told_cells])), (a_t_told_sizes, .inl (cI, 4, .inl f_t_told_sizes)), (a_t_acts, .inr (0, [.ref a_t_acts_kinds, .ref a_t_acts_numbers, .int u16_t_acts_size])), (a_t_acts_kinds, .inl (cI, 14, .inl u16_t_acts_kinds)), (a_t_acts_numbers, .inl (cI, 14, .inl u16_t_acts_numbers)), (a_t_now, .inr (3, [.int v_t_now_place, .int u24_t_now_voided, .int v_t_now_counted]))] H := hP
    have hD : va_D A [(a_t, .inr (6, [.ref a_t_text, .ref a_t_told, .ref a_t_draft, .ref a_t_now, .ref a_t_acts, .ref a_t_sightings, .ref a_t_sides, .ref a_t_kept, .int v_t_keptSlots, .long v_t_theSeed])), (a_t_told, .inr (5, [.ref a_t_told_sizes, .ref a_t_told_cells])), (a_t_told_sizes, .inl (cI, 4, .inl f_t_told_sizes)), (a_t_acts, .inr (0, [.ref a_t_acts_kinds, .ref a_t_acts_numbers, .int u16_t_acts_size])), (a_t_acts_kinds, .inl (cI, 14, .inl u16_t_acts_kinds)), (a_t_acts_numbers, .inl (cI, 14, .inl u16_t_acts_numbers)), (a_t_now, .inr (3, [.int v_t_now_place, .int u24_t_now_voided, .int v_t_now_counted]))] := hD
    replace hf := hf.trans (ap1_g hc24)
    refine lv_aload_n hx hb dX6_turnVoid_27 rfl (lv_at hl 0 rfl) ?_
    refine va_get (D := D) (ci := 6) (v := .ref a_t_now) (C := RX6) (T := TX6) (N := 10) hx hb hts hwX6 hown hK hP 0 rfl rfl 3 (by decide) (hts (.fieldLink RX6 29 "SkippedDay" "now" "LSkippedDay$Standing;") (by decide +kernel)) (fun _ h9 => h9) rfl dX6_turnVoid_28 ?_
    refine lv_iload_n hx hb dX6_turnVoid_31 rfl (lv_at hl 1 rfl) ?_
    refine pcV (As := [.int x1]) (rest := []) ⟨hx, hb, hml, hown, hts⟩ (c_X3_isVoid l D cI cZ cO a_t_now v_t_now_place u24_t_now_voided v_t_now_counted x1) (cwV 1 hts gX6_turnVoid_X3_isVoid rfl rfl rfl (by decide +kernel) ⟨Nat.le_of_ble_eq_true rfl, Nat.le_of_ble_eq_true rfl⟩) hKX hP [6] rfl 6 3 rfl rfl rfl rfl hl.1 rfl (Nat.le_of_ble_eq_true rfl) dX6_turnVoid_32 ⟨Nat.le_of_ble_eq_true rfl, Nat.le_of_ble_eq_true rfl⟩ ?_
    refine lv_if_eq (tgt := 42) hx hb dX6_turnVoid_35 (by decide) (fun c_35 => ?_) (fun c_35 => ?_)
    · replace hf := hf.trans (if_pos c_35)
      refine lv_iconst (v := 0) hx hb dX6_turnVoid_42 (by decide) ?_
      exact W.iret (v := 0) hx hb hr (fun t ht hW => ⟨⟨0, (u24_t_now_voided, u16_t_acts_size, u16_t_acts_kinds, u16_t_acts_numbers), rfl, ⟨hf.symm, (s_X6_turnVoid_3 u16_t_acts_size hq16_0 hq16_1), (s_X6_turnVoid_4 u16_t_acts_size hq16_0 hq16_1)⟩, by rw [ht]; exact hP.sub [0, 1, 2, 6, 3, 4, 5] rfl, hD.sub [0, 1, 2, 6, 3, 4, 5] (by decide) rfl⟩, hS.F ht⟩) hS.2.2 dX6_turnVoid_43
    · replace hf := hf.trans (if_neg c_35)
      refine lv_iconst (v := 1) hx hb dX6_turnVoid_38 (by decide) ?_
      refine lv_goto (tgt := 43) hx hb dX6_turnVoid_39 (by decide) ?_
      exact W.iret (v := 1) hx hb hr (fun t ht hW => ⟨⟨1, (u24_t_now_voided, u16_t_acts_size, u16_t_acts_kinds, u16_t_acts_numbers), rfl, ⟨hf.symm, (s_X6_turnVoid_5 u16_t_acts_size hq16_0 hq16_1), (s_X6_turnVoid_6 u16_t_acts_size hq16_0 hq16_1)⟩, by rw [ht]; exact hP.sub [0, 1, 2, 6, 3, 4, 5] rfl, hD.sub [0, 1, 2, 6, 3, 4, 5] (by decide) rfl⟩, hS.F ht⟩) hS.2.2 dX6_turnVoid_43
  · replace hf := hf.trans (if_neg (fun h9 => h9 c_5))
    refine lv_iconst (v := (-1)) hx hb dX6_turnVoid_8 (by decide) ?_
    exact W.iret (v := (-1)) hx hb hr (fun t ht hW => ⟨⟨(-1), (v_t_now_voided, v_t_acts_size, f_t_acts_kinds, f_t_acts_numbers), rfl, ⟨hf.symm, (s_X6_turnVoid_7 v_t_acts_size hp0 hp1), (s_X6_turnVoid_8 v_t_acts_size hp0 hp1)⟩, by rw [ht]; exact hP.sub [0, 1, 2, 3, 4, 5, 6] rfl, hD.sub [0, 1, 2, 3, 4, 5, 6] (by decide) rfl⟩, hS.F ht⟩) hS.2.2 dX6_turnVoid_9

def f_X6_readOtherwise_j37 (v_t_now_counted : Int32) (v_t_acts_size : Int32) (f_t_acts_kinds : Nat → Int32) (f_t_acts_numbers : Nat → Int32) (x1 : Int32) : Int32 × Int32 × Int32 × (Nat → Int32) × (Nat → Int32) :=
  ap3 (f_X0_add v_t_acts_size f_t_acts_kinds f_t_acts_numbers 2 x1) (fun u43_t_acts_size u43_t_acts_kinds u43_t_acts_numbers => ap1 (f_X3_turnReading v_t_now_counted x1) (fun u51_t_now_counted => if (f_X3_isByCount u51_t_now_counted x1) = 0 then (0, u51_t_now_counted, u43_t_acts_size, u43_t_acts_kinds, u43_t_acts_numbers) else (1, u51_t_now_counted, u43_t_acts_size, u43_t_acts_kinds, u43_t_acts_numbers)))
def f_X6_readOtherwise (f_t_told_sizes : Nat → Int32) (f_t_told_cells : Nat → Int32) (v_t_now_counted : Int32) (v_t_acts_size : Int32) (f_t_acts_kinds : Nat → Int32) (f_t_acts_numbers : Nat → Int32) (x1 : Int32) : Int32 × Int32 × Int32 × (Nat → Int32) × (Nat → Int32) :=
  if ¬ (f_X6_isContract f_t_told_sizes x1) = 0 then if ¬ (f_X3_isByCount v_t_now_counted x1) = 0 then f_X6_readOtherwise_j37 v_t_now_counted v_t_acts_size f_t_acts_kinds f_t_acts_numbers x1 else if (f_X5_lengthOf f_t_told_cells x1) ≤ 9 then f_X6_readOtherwise_j37 v_t_now_counted v_t_acts_size f_t_acts_kinds f_t_acts_numbers x1 else ((-3), v_t_now_counted, v_t_acts_size, f_t_acts_kinds, f_t_acts_numbers) else ((-1), v_t_now_counted, v_t_acts_size, f_t_acts_kinds, f_t_acts_numbers)
/- hp0@43 -/ theorem s_X6_readOtherwise_1 (v_t_acts_size : Int32) (hp0 : 0 ≤ v_t_acts_size) (hp1 : v_t_acts_size ≤ 14) : 0 ≤ v_t_acts_size := by grind
/- hp1@43 -/ theorem s_X6_readOtherwise_2 (v_t_acts_size : Int32) (hp0 : 0 ≤ v_t_acts_size) (hp1 : v_t_acts_size ≤ 14) : v_t_acts_size ≤ 14 := by grind
/- post0@70 -/ theorem s_X6_readOtherwise_3 (u43_t_acts_size : Int32) (hq43_0 : 0 ≤ u43_t_acts_size) (hq43_1 : u43_t_acts_size ≤ 14) : 0 ≤ u43_t_acts_size := by grind
/- post1@70 -/ theorem s_X6_readOtherwise_4 (u43_t_acts_size : Int32) (hq43_0 : 0 ≤ u43_t_acts_size) (hq43_1 : u43_t_acts_size ≤ 14) : u43_t_acts_size ≤ 14 := by grind
/- post0@70 -/ theorem s_X6_readOtherwise_5 (u43_t_acts_size : Int32) (hq43_0 : 0 ≤ u43_t_acts_size) (hq43_1 : u43_t_acts_size ≤ 14) : 0 ≤ u43_t_acts_size := by grind
/- post1@70 -/ theorem s_X6_readOtherwise_6 (u43_t_acts_size : Int32) (hq43_0 : 0 ≤ u43_t_acts_size) (hq43_1 : u43_t_acts_size ≤ 14) : u43_t_acts_size ≤ 14 := by grind
/- post0@36 -/ theorem s_X6_readOtherwise_7 (v_t_acts_size : Int32) (hp0 : 0 ≤ v_t_acts_size) (hp1 : v_t_acts_size ≤ 14) : 0 ≤ v_t_acts_size := by grind
/- post1@36 -/ theorem s_X6_readOtherwise_8 (v_t_acts_size : Int32) (hp0 : 0 ≤ v_t_acts_size) (hp1 : v_t_acts_size ≤ 14) : v_t_acts_size ≤ 14 := by grind
/- post0@9 -/ theorem s_X6_readOtherwise_9 (v_t_acts_size : Int32) (hp0 : 0 ≤ v_t_acts_size) (hp1 : v_t_acts_size ≤ 14) : 0 ≤ v_t_acts_size := by grind
/- post1@9 -/ theorem s_X6_readOtherwise_10 (v_t_acts_size : Int32) (hp0 : 0 ≤ v_t_acts_size) (hp1 : v_t_acts_size ≤ 14) : v_t_acts_size ≤ 14 := by grind
set_option maxHeartbeats 4000000 in
set_option maxRecDepth 100000 in
theorem c_X6_readOtherwise (l : Launch) (D : va_G) (cI cZ cO : ClassId) (a_t : Nat) (a_t_text : Nat) (a_t_told : Nat) (a_t_draft : Nat) (a_t_now : Nat) (a_t_acts : Nat) (a_t_sightings : Nat) (a_t_sides : Nat) (a_t_kept : Nat) (v_t_keptSlots : Int32) (v_t_theSeed : Int64) (a_t_told_sizes : Nat) (a_t_told_cells : Nat) (f_t_told_sizes : Nat → Int32) (f_t_told_cells : Nat → Int32) (v_t_now_place : Int32) (v_t_now_voided : Int32) (v_t_now_counted : Int32) (a_t_acts_kinds : Nat) (a_t_acts_numbers : Nat) (v_t_acts_size : Int32) (f_t_acts_kinds : Nat → Int32) (f_t_acts_numbers : Nat → Int32) (x1 : Int32) (sz : Nat) (hp0 : 0 ≤ v_t_acts_size) (hp1 : v_t_acts_size ≤ 14) : Met l yX6_readOtherwise wsX6_readOtherwise ({ frames := 3, cells := 0, slots := 0, locals := 67 }) (PcM D (tysG cI cZ cO) [.ref a_t, .int x1] sz [(a_t, .inr (6, [.ref a_t_text, .ref a_t_told, .ref a_t_draft, .ref a_t_now, .ref a_t_acts, .ref a_t_sightings, .ref a_t_sides, .ref a_t_kept, .int v_t_keptSlots, .long v_t_theSeed])), (a_t_told, .inr (5, [.ref a_t_told_sizes, .ref a_t_told_cells])), (a_t_told_sizes, .inl (cI, 4, .inl f_t_told_sizes)), (a_t_told_cells, .inl (cI, 120, .inl f_t_told_cells)), (a_t_now, .inr (3, [.int v_t_now_place, .int v_t_now_voided, .int v_t_now_counted])), (a_t_acts, .inr (0, [.ref a_t_acts_kinds, .ref a_t_acts_numbers, .int v_t_acts_size])), (a_t_acts_kinds, .inl (cI, 14, .inl f_t_acts_kinds)), (a_t_acts_numbers, .inl (cI, 14, .inl f_t_acts_numbers))]) (va_Qi (fun (r : Int32) (u : Int32 × Int32 × (Nat → Int32) × (Nat → Int32)) => (r, u) = f_X6_readOtherwise f_t_told_sizes f_t_told_cells v_t_now_counted v_t_acts_size f_t_acts_kinds f_t_acts_numbers x1 ∧ (0 ≤ u.2.1) ∧ (u.2.1 ≤ 14)) (BM D (va_A [(a_t, .inr (6, [.ref a_t_text, .ref a_t_told, .ref a_t_draft, .ref a_t_now, .ref a_t_acts, .ref a_t_sightings, .ref a_t_sides, .ref a_t_kept, .int v_t_keptSlots, .long v_t_theSeed])), (a_t_told, .inr (5, [.ref a_t_told_sizes, .ref a_t_told_cells])), (a_t_told_sizes, .inl (cI, 4, .inl f_t_told_sizes)), (a_t_told_cells, .inl (cI, 120, .inl f_t_told_cells)), (a_t_now, .inr (3, [.int v_t_now_place, .int v_t_now_voided, .int v_t_now_counted])), (a_t_acts, .inr (0, [.ref a_t_acts_kinds, .ref a_t_acts_numbers, .int v_t_acts_size])), (a_t_acts_kinds, .inl (cI, 14, .inl f_t_acts_kinds)), (a_t_acts_numbers, .inl (cI, 14, .inl f_t_acts_numbers))] sz) (fun u : Int32 × Int32 × (Nat → Int32) × (Nat → Int32) => [(a_t, .inr (6, [.ref a_t_text, .ref a_t_told, .ref a_t_draft, .ref a_t_now, .ref a_t_acts, .ref a_t_sightings, .ref a_t_sides, .ref a_t_kept, .int v_t_keptSlots, .long v_t_theSeed])), (a_t_told, .inr (5, [.ref a_t_told_sizes, .ref a_t_told_cells])), (a_t_told_sizes, .inl (cI, 4, .inl f_t_told_sizes)), (a_t_told_cells, .inl (cI, 120, .inl f_t_told_cells)), (a_t_now, .inr (3, [.int v_t_now_place, .int v_t_now_voided, .int u.1])), (a_t_acts, .inr (0, [.ref a_t_acts_kinds, .ref a_t_acts_numbers, .int u.2.1])), (a_t_acts_kinds, .inl (cI, 14, .inl u.2.2.1)), (a_t_acts_numbers, .inl (cI, 14, .inl u.2.2.2))])) (va_A [(a_t, .inr (6, [.ref a_t_text, .ref a_t_told, .ref a_t_draft, .ref a_t_now, .ref a_t_acts, .ref a_t_sightings, .ref a_t_sides, .ref a_t_kept, .int v_t_keptSlots, .long v_t_theSeed])), (a_t_told, .inr (5, [.ref a_t_told_sizes, .ref a_t_told_cells])), (a_t_told_sizes, .inl (cI, 4, .inl f_t_told_sizes)), (a_t_told_cells, .inl (cI, 120, .inl f_t_told_cells)), (a_t_now, .inr (3, [.int v_t_now_place, .int v_t_now_voided, .int v_t_now_counted])), (a_t_acts, .inr (0, [.ref a_t_acts_kinds, .ref a_t_acts_numbers, .int v_t_acts_size])), (a_t_acts_kinds, .inl (cI, 14, .inl f_t_acts_kinds)), (a_t_acts_numbers, .inl (cI, 14, .inl f_t_acts_numbers))] sz)) 0 0 (va_A [(a_t, .inr (6, [.ref a_t_text, .ref a_t_told, .ref a_t_draft, .ref a_t_now, .ref a_t_acts, .ref a_t_sightings, .ref a_t_sides, .ref a_t_kept, .int v_t_keptSlots, .long v_t_theSeed])), (a_t_told, .inr (5, [.ref a_t_told_sizes, .ref a_t_told_cells])), (a_t_told_sizes, .inl (cI, 4, .inl f_t_told_sizes)), (a_t_told_cells, .inl (cI, 120, .inl f_t_told_cells)), (a_t_now, .inr (3, [.int v_t_now_place, .int v_t_now_voided, .int v_t_now_counted])), (a_t_acts, .inr (0, [.ref a_t_acts_kinds, .ref a_t_acts_numbers, .int v_t_acts_size])), (a_t_acts_kinds, .inl (cI, 14, .inl f_t_acts_kinds)), (a_t_acts_numbers, .inl (cI, 14, .inl f_t_acts_numbers))] sz) := by
  refine Met.ofW (cc := cX6_readOtherwise) (maxL := 2) (ret := (some .int)) (by decide) rfl ?_
  intro p e s m args below meth c s₁ B hml hv
  obtain ⟨rfl, hsz, hP, hKX, hD0⟩ := hv
  have hx := B.exec
  have hb := B.bytes
  have hr := B.returns
  have hts := atoms_spec (ws := wsX6_readOtherwise) B.pre
  have hown : s.vm.findClass RX6 = some m.cls := findClass_of_methodNamed B.named
  have hlocks := B.notSynchronized
  have hK := hKX.1
  have hwX6 : ∀ w ∈ wsX60, w ∈ wsX6_readOtherwise := by decide +kernel
  subst hsz
  have hD := hD0.self (sz := s.heap.size)
  generalize hAe : va_A [(a_t, .inr (6, [.ref a_t_text, .ref a_t_told, .ref a_t_draft, .ref a_t_now, .ref a_t_acts, .ref a_t_sightings, .ref a_t_sides, .ref a_t_kept, .int v_t_keptSlots, .long v_t_theSeed])), (a_t_told, .inr (5, [.ref a_t_told_sizes, .ref a_t_told_cells])), (a_t_told_sizes, .inl (cI, 4, .inl f_t_told_sizes)), (a_t_told_cells, .inl (cI, 120, .inl f_t_told_cells)), (a_t_now, .inr (3, [.int v_t_now_place, .int v_t_now_voided, .int v_t_now_counted])), (a_t_acts, .inr (0, [.ref a_t_acts_kinds, .ref a_t_acts_numbers, .int v_t_acts_size])), (a_t_acts_kinds, .inl (cI, 14, .inl f_t_acts_kinds)), (a_t_acts_numbers, .inl (cI, 14, .inl f_t_acts_numbers))] s.heap.size = A at hD ⊢
  have hA : ∀ q : Nat, s.heap.size ≤ q → A q := fun q h => by rw [← hAe]; exact Or.inr h
  have hS : va_S A s.heap s.heap [] := va_S.rf
  have hP : va_P D vwCl [(a_t, .inr (6, [.ref a_t_text, .ref a_t_told, .ref a_t_draft, .ref a_t_now, .ref a_t_acts, .ref a_t_sightings, .ref a_t_sides, .ref a_t_kept, .int v_t_keptSlots, .long v_t_theSeed])), (a_t_told, .inr (5, [.ref a_t_told_sizes, .ref a_t_told_cells])), (a_t_told_sizes, .inl (cI, 4, .inl f_t_told_sizes)), (a_t_told_cells, .inl (cI, 120, .inl f_t_told_cells)), (a_t_now, .inr (3, [.int v_t_now_place, .int v_t_now_voided, .int v_t_now_counted])), (a_t_acts, .inr (0, [.ref a_t_acts_kinds, .ref a_t_acts_numbers, .int v_t_acts_size])), (a_t_acts_kinds, .inl (cI, 14, .inl f_t_acts_kinds)), (a_t_acts_numbers, .inl (cI, 14, .inl f_t_acts_numbers))] s.heap := hP
  have hl := lv_entry ([.ref a_t, .int x1]) (n := 2) (Nat.le_of_ble_eq_true rfl)
  rw [lg_entry_eq]
  generalize (lg_sl ([.ref a_t, .int x1]) ++ List.replicate (2 - (lg_sl ([.ref a_t, .int x1])).length) Slot.unset).toArray = ls at hl ⊢
  have hl : lv_has ls 2 [(0, .ref a_t), (1, .int x1)] := hl
  have hf := f_X6_readOtherwise.eq_1 f_t_told_sizes f_t_told_cells v_t_now_counted v_t_acts_size f_t_acts_kinds f_t_acts_numbers x1
  refine lv_aload_n hx hb dX6_readOtherwise_0 rfl (lv_at hl 0 rfl) ?_
  refine lv_iload_n hx hb dX6_readOtherwise_1 rfl (lv_at hl 1 rfl) ?_
  refine pcV (As := [.int x1]) (rest := []) ⟨hx, hb, hml, hown, hts⟩ (c_X6_isContract l D cI cZ cO a_t a_t_text a_t_told a_t_draft a_t_now a_t_acts a_t_sightings a_t_sides a_t_kept v_t_keptSlots v_t_theSeed a_t_told_sizes a_t_told_cells f_t_told_sizes x1) (cwV 1 hts gX6_readOtherwise_X6_isContract rfl rfl rfl (by decide +kernel) ⟨Nat.le_of_ble_eq_true rfl, Nat.le_of_ble_eq_true rfl⟩) hKX hP [0, 1, 2] rfl 0 6 rfl rfl rfl rfl hl.1 rfl (Nat.le_of_ble_eq_true rfl) dX6_readOtherwise_2 ⟨Nat.le_of_ble_eq_true rfl, Nat.le_of_ble_eq_true rfl⟩ ?_
  refine lv_if_ne (tgt := 10) hx hb dX6_readOtherwise_5 (by decide) (fun c_5 => ?_) (fun c_5 => ?_)
  · replace hf := hf.trans (if_pos c_5)
    refine lv_aload_n hx hb dX6_readOtherwise_10 rfl (lv_at hl 0 rfl) ?_
    refine va_get (D := D) (ci := 6) (v := .ref a_t_now) (C := RX6) (T := TX6) (N := 10) hx hb hts hwX6 hown hK hP 0 rfl rfl 3 (by decide) (hts (.fieldLink RX6 29 "SkippedDay" "now" "LSkippedDay$Standing;") (by decide +kernel)) (fun _ h9 => h9) rfl dX6_readOtherwise_11 ?_
    refine lv_iload_n hx hb dX6_readOtherwise_14 rfl (lv_at hl 1 rfl) ?_
    refine pcV (As := [.int x1]) (rest := []) ⟨hx, hb, hml, hown, hts⟩ (c_X3_isByCount l D cI cZ cO a_t_now v_t_now_place v_t_now_voided v_t_now_counted x1) (cwV 1 hts gX6_readOtherwise_X3_isByCount rfl rfl rfl (by decide +kernel) ⟨Nat.le_of_ble_eq_true rfl, Nat.le_of_ble_eq_true rfl⟩) hKX hP [4] rfl 4 3 rfl rfl rfl rfl hl.1 rfl (Nat.le_of_ble_eq_true rfl) dX6_readOtherwise_15 ⟨Nat.le_of_ble_eq_true rfl, Nat.le_of_ble_eq_true rfl⟩ ?_
    have hJ_37 : f_X6_readOtherwise f_t_told_sizes f_t_told_cells v_t_now_counted v_t_acts_size f_t_acts_kinds f_t_acts_numbers x1 = f_X6_readOtherwise_j37 v_t_now_counted v_t_acts_size f_t_acts_kinds f_t_acts_numbers x1 → ∀ (H : Heap) (locs : List Loc), va_P D vwCl [(a_t, .inr (6, [.ref a_t_text, .ref a_t_told, .ref a_t_draft, .ref a_t_now, .ref a_t_acts, .ref a_t_sightings, .ref a_t_sides, .ref a_t_kept, .int v_t_keptSlots, .long v_t_theSeed])), (a_t_told, .inr (5, [.ref a_t_told_sizes, .ref a_t_told_cells])), (a_t_told_sizes, .inl (cI, 4, .inl f_t_told_sizes)), (a_t_told_cells, .inl (cI, 120, .inl f_t_told_cells)), (a_t_now, .inr (3, [.int v_t_now_place, .int v_t_now_voided, .int v_t_now_counted])), (a_t_acts, .inr (0, [.ref a_t_acts_kinds, .ref a_t_acts_numbers, .int v_t_acts_size])), (a_t_acts_kinds, .inl (cI, 14, .inl f_t_acts_kinds)), (a_t_acts_numbers, .inl (cI, 14, .inl f_t_acts_numbers))] H → va_D A [(a_t, .inr (6, [.ref a_t_text, .ref a_t_told, .ref a_t_draft, .ref a_t_now, .ref a_t_acts, .ref a_t_sightings, .ref a_t_sides, .ref a_t_kept, .int v_t_keptSlots, .long v_t_theSeed])), (a_t_told, .inr (5, [.ref a_t_told_sizes, .ref a_t_told_cells])), (a_t_told_sizes, .inl (cI, 4, .inl f_t_told_sizes)), (a_t_told_cells, .inl (cI, 120, .inl f_t_told_cells)), (a_t_now, .inr (3, [.int v_t_now_place, .int v_t_now_voided, .int v_t_now_counted])), (a_t_acts, .inr (0, [.ref a_t_acts_kinds, .ref a_t_acts_numbers, .int v_t_acts_size])), (a_t_acts_kinds, .inl (cI, 14, .inl f_t_acts_kinds)), (a_t_acts_numbers, .inl (cI, 14, .inl f_t_acts_numbers))] → va_S A s.heap H locs → ∀ (ls : Array Slot), lv_has ls 2 [(0, .ref a_t), (1, .int x1)] → W p l e (headSpec wsX6_readOtherwise { frames := 3, cells := 0, slots := 0, locals := 67 }).room s m [.ref a_t, .int x1].toArray below meth c H locs 0 0 (MQ below (va_Qi (fun (r : Int32) (u : Int32 × Int32 × (Nat → Int32) × (Nat → Int32)) => (r, u) = f_X6_readOtherwise f_t_told_sizes f_t_told_cells v_t_now_counted v_t_acts_size f_t_acts_kinds f_t_acts_numbers x1 ∧ (0 ≤ u.2.1) ∧ (u.2.1 ≤ 14)) (BM D A (fun u : Int32 × Int32 × (Nat → Int32) × (Nat → Int32) => [(a_t, .inr (6, [.ref a_t_text, .ref a_t_told, .ref a_t_draft, .ref a_t_now, .ref a_t_acts, .ref a_t_sightings, .ref a_t_sides, .ref a_t_kept, .int v_t_keptSlots, .long v_t_theSeed])), (a_t_told, .inr (5, [.ref a_t_told_sizes, .ref a_t_told_cells])), (a_t_told_sizes, .inl (cI, 4, .inl f_t_told_sizes)), (a_t_told_cells, .inl (cI, 120, .inl f_t_told_cells)), (a_t_now, .inr (3, [.int v_t_now_place, .int v_t_now_voided, .int u.1])), (a_t_acts, .inr (0, [.ref a_t_acts_kinds, .ref a_t_acts_numbers, .int u.2.1])), (a_t_acts_kinds, .inl (cI, 14, .inl u.2.2.1)), (a_t_acts_numbers, .inl (cI, 14, .inl u.2.2.2))])) A) [.ref a_t, .int x1].toArray s 0 0 A) (F0 m 37 ls []) := by
      intro hf H locs hP hD hS ls hl
      replace hf := hf.trans (f_X6_readOtherwise_j37.eq_1 _ _ _ _ _)
      refine lv_aload_n hx hb dX6_readOtherwise_37 rfl (lv_at hl 0 rfl) ?_
      refine va_get (D := D) (ci := 6) (v := .ref a_t_acts) (C := RX6) (T := TX6) (N := 10) hx hb hts hwX6 hown hK hP 0 rfl rfl 4 (by decide) (hts (.fieldLink RX6 36 "SkippedDay" "acts" "LSkippedDay$Acts;") (by decide +kernel)) (fun _ h9 => h9) rfl dX6_readOtherwise_38 ?_
      refine lv_iconst (v := 2) hx hb dX6_readOtherwise_41 (by decide) ?_
      refine lv_iload_n hx hb dX6_readOtherwise_42 rfl (lv_at hl 1 rfl) ?_
      refine callMv (As := [.int 2, .int x1]) (rest := []) (wr := [(a_t, .inr (6, [.ref a_t_text, .ref a_t_told, .ref a_t_draft, .ref a_t_now, .ref a_t_acts, .ref a_t_sightings, .ref a_t_sides, .ref a_t_kept, .int v_t_keptSlots, .long v_t_theSeed])), (a_t_told, .inr (5, [.ref a_t_told_sizes, .ref a_t_told_cells])), (a_t_told_sizes, .inl (cI, 4, .inl f_t_told_sizes)), (a_t_told_cells, .inl (cI, 120, .inl f_t_told_cells)), (a_t_now, .inr (3, [.int v_t_now_place, .int v_t_now_voided, .int v_t_now_counted]))]) ⟨hx, hb, hml, hown, hts⟩ (c_X0_add l D cI cZ cO a_t_acts a_t_acts_kinds a_t_acts_numbers v_t_acts_size f_t_acts_kinds f_t_acts_numbers 2 x1 H.size (s_X6_readOtherwise_1 v_t_acts_size hp0 hp1) (s_X6_readOtherwise_2 v_t_acts_size hp0 hp1)) (cwV 2 hts gX6_readOtherwise_X0_add rfl rfl rfl (by decide +kernel) ⟨Nat.le_of_ble_eq_true rfl, Nat.le_of_ble_eq_true rfl⟩) hKX hP hD hS hA [5, 6, 7] [0, 1, 2, 3, 4] rfl rfl (by decide) (by decide) (by decide) 5 0 rfl rfl rfl rfl hl.1 rfl (Nat.le_of_ble_eq_true rfl) dX6_readOtherwise_43 ⟨Nat.le_of_ble_eq_true rfl, Nat.le_of_ble_eq_true rfl⟩ (fun u H locs hc43 hP hD hS => ?_)
      obtain ⟨u43_t_acts_size, u43_t_acts_kinds, u43_t_acts_numbers⟩ := u
      have hP : va_P D vwCl [(a_t, .inr (6, [.ref a_t_text, .ref a_t_told, .ref a_t_draft, .ref a_t_now, .ref a_t_acts, .ref a_t_sightings, .ref a_t_sides, .ref a_t_kept, .int v_t_keptSlots, .long v_t_theSeed])), (a_t_told, .inr (5, [.ref a_t_told_sizes, .ref a_t_told_cells])), (a_t_told_sizes, .inl (cI, 4, .inl f_t_told_sizes)), (a_t_told_cells, .inl (cI, 120, .inl f_t_told_cells)), (a_t_now, .inr (3, [.int v_t_now_place, .int v_t_now_voided, .int v_t_now_counted])), (a_t_acts, .inr (0, [.ref a_t_acts_kinds, .ref a_t_acts_numbers, .int u43_t_acts_size])), (a_t_acts_kinds, .inl (cI, 14, .inl u43_t_acts_kinds)), (a_t_acts_numbers, .inl (cI, 14, .inl u43_t_acts_numbers))] H := hP
      have hD : va_D A [(a_t, .inr (6, [.ref a_t_text, .ref a_t_told, .ref a_t_draft, .ref a_t_now, .ref a_t_acts, .ref a_t_sightings, .ref a_t_sides, .ref a_t_kept, .int v_t_keptSlots, .long v_t_theSeed])), (a_t_told, .inr (5, [.ref a_t_told_sizes, .ref a_t_told_cells])), (a_t_told_sizes, .inl (cI, 4, .inl f_t_told_sizes)), (a_t_told_cells, .inl (cI, 120, .inl f_t_told_cells)), (a_t_now, .inr (3, [.int v_t_now_place, .int v_t_now_voided, .int v_t_now_counted])), (a_t_acts, .inr (0, [.ref a_t_acts_kinds, .ref a_t_acts_numbers, .int u43_t_acts_size])), (a_t_acts_kinds, .inl (cI, 14, .inl u43_t_acts_kinds)), (a_t_acts_numbers, .inl (cI, 14, .inl u43_t_acts_numbers))] := hD
      have hq43_0 : 0 ≤ u43_t_acts_size := hc43.2.1
      have hq43_1 : u43_t_acts_size ≤ 14 := hc43.2.2
      replace hf := hf.trans (ap3_g hc43.1)
      refine lv_aload_n hx hb dX6_readOtherwise_46 rfl (lv_at hl 0 rfl) ?_
      refine va_get (D := D) (ci := 6) (v := .ref a_t_now) (C := RX6) (T := TX6) (N := 10) hx hb hts hwX6 hown hK hP 0 rfl rfl 3 (by decide) (hts (.fieldLink RX6 29 "SkippedDay" "now" "LSkippedDay$Standing;") (by decide +kernel)) (fun _ h9 => h9) rfl dX6_readOtherwise_47 ?_
      refine lv_iload_n hx hb dX6_readOtherwise_50 rfl (lv_at hl 1 rfl) ?_
      refine callMv (As := [.int x1]) (rest := []) (wr := [(a_t, .inr (6, [.ref a_t_text, .ref a_t_told, .ref a_t_draft, .ref a_t_now, .ref a_t_acts, .ref a_t_sightings, .ref a_t_sides, .ref a_t_kept, .int v_t_keptSlots, .long v_t_theSeed])), (a_t_told, .inr (5, [.ref a_t_told_sizes, .ref a_t_told_cells])), (a_t_told_sizes, .inl (cI, 4, .inl f_t_told_sizes)), (a_t_told_cells, .inl (cI, 120, .inl f_t_told_cells)), (a_t_acts, .inr (0, [.ref a_t_acts_kinds, .ref a_t_acts_numbers, .int u43_t_acts_size])), (a_t_acts_kinds, .inl (cI, 14, .inl u43_t_acts_kinds)), (a_t_acts_numbers, .inl (cI, 14, .inl u43_t_acts_numbers))]) ⟨hx, hb, hml, hown, hts⟩ (c_X3_turnReading l D cI cZ cO a_t_now v_t_now_place v_t_now_voided v_t_now_counted x1 H.size) (cwV 1 hts gX6_readOtherwise_X3_turnReading rfl rfl rfl (by decide +kernel) ⟨Nat.le_of_ble_eq_true rfl, Nat.le_of_ble_eq_true rfl⟩) hKX hP hD hS hA [4] [0, 1, 2, 3, 5, 6, 7] rfl rfl (by decide) (by decide) (by decide) 4 3 rfl rfl rfl rfl hl.1 rfl (Nat.le_of_ble_eq_true rfl) dX6_readOtherwise_51 ⟨Nat.le_of_ble_eq_true rfl, Nat.le_of_ble_eq_true rfl⟩ (fun u H locs hc51 hP hD hS => ?_)
      obtain ⟨u51_t_now_counted, rfl⟩ : ∃ z, z = u := ⟨_, rfl⟩
      have hP : va_P D vwCl [(a_t, .inr (6, [.ref a_t_text, .ref a_t_told, .ref a_t_draft, .ref a_t_now, .ref a_t_acts, .ref a_t_sightings, .ref a_t_sides, .ref a_t_kept, .int v_t_keptSlots, .long v_t_theSeed])), (a_t_told, .inr (5, [.ref a_t_told_sizes, .ref a_t_told_cells])), (a_t_told_sizes, .inl (cI, 4, .inl f_t_told_sizes)), (a_t_told_cells, .inl (cI, 120, .inl f_t_told_cells)), (a_t_acts, .inr (0, [.ref a_t_acts_kinds, .ref a_t_acts_numbers, .int u43_t_acts_size])), (a_t_acts_kinds, .inl (cI, 14, .inl u43_t_acts_kinds)), (a_t_acts_numbers, .inl (cI, 14, .inl u43_t_acts_numbers)), (a_t_now, .inr (3, [.int v_t_now_place, .int v_t_now_voided, .int u51_t_now_counted]))] H := hP
      have hD : va_D A [(a_t, .inr (6, [.ref a_t_text, .ref a_t_told, .ref a_t_draft, .ref a_t_now, .ref a_t_acts, .ref a_t_sightings, .ref a_t_sides, .ref a_t_kept, .int v_t_keptSlots, .long v_t_theSeed])), (a_t_told, .inr (5, [.ref a_t_told_sizes, .ref a_t_told_cells])), (a_t_told_sizes, .inl (cI, 4, .inl f_t_told_sizes)), (a_t_told_cells, .inl (cI, 120, .inl f_t_told_cells)), (a_t_acts, .inr (0, [.ref a_t_acts_kinds, .ref a_t_acts_numbers, .int u43_t_acts_size])), (a_t_acts_kinds, .inl (cI, 14, .inl u43_t_acts_kinds)), (a_t_acts_numbers, .inl (cI, 14, .inl u43_t_acts_numbers)), (a_t_now, .inr (3, [.int v_t_now_place, .int v_t_now_voided, .int u51_t_now_counted]))] := hD
      replace hf := hf.trans (ap1_g hc51)
      refine lv_aload_n hx hb dX6_readOtherwise_54 rfl (lv_at hl 0 rfl) ?_
      refine va_get (D := D) (ci := 6) (v := .ref a_t_now) (C := RX6) (T := TX6) (N := 10) hx hb hts hwX6 hown hK hP 0 rfl rfl 3 (by decide) (hts (.fieldLink RX6 29 "SkippedDay" "now" "LSkippedDay$Standing;") (by decide +kernel)) (fun _ h9 => h9) rfl dX6_readOtherwise_55 ?_
      refine lv_iload_n hx hb dX6_readOtherwise_58 rfl (lv_at hl 1 rfl) ?_
      refine pcV (As := [.int x1]) (rest := []) ⟨hx, hb, hml, hown, hts⟩ (c_X3_isByCount l D cI cZ cO a_t_now v_t_now_place v_t_now_voided u51_t_now_counted x1) (cwV 1 hts gX6_readOtherwise_X3_isByCount rfl rfl rfl (by decide +kernel) ⟨Nat.le_of_ble_eq_true rfl, Nat.le_of_ble_eq_true rfl⟩) hKX hP [7] rfl 7 3 rfl rfl rfl rfl hl.1 rfl (Nat.le_of_ble_eq_true rfl) dX6_readOtherwise_59 ⟨Nat.le_of_ble_eq_true rfl, Nat.le_of_ble_eq_true rfl⟩ ?_
      refine lv_if_eq (tgt := 69) hx hb dX6_readOtherwise_62 (by decide) (fun c_62 => ?_) (fun c_62 => ?_)
      · replace hf := hf.trans (if_pos c_62)
        refine lv_iconst (v := 0) hx hb dX6_readOtherwise_69 (by decide) ?_
        exact W.iret (v := 0) hx hb hr (fun t ht hW => ⟨⟨0, (u51_t_now_counted, u43_t_acts_size, u43_t_acts_kinds, u43_t_acts_numbers), rfl, ⟨hf.symm, (s_X6_readOtherwise_3 u43_t_acts_size hq43_0 hq43_1), (s_X6_readOtherwise_4 u43_t_acts_size hq43_0 hq43_1)⟩, by rw [ht]; exact hP.sub [0, 1, 2, 3, 7, 4, 5, 6] rfl, hD.sub [0, 1, 2, 3, 7, 4, 5, 6] (by decide) rfl⟩, hS.F ht⟩) hS.2.2 dX6_readOtherwise_70
      · replace hf := hf.trans (if_neg c_62)
        refine lv_iconst (v := 1) hx hb dX6_readOtherwise_65 (by decide) ?_
        refine lv_goto (tgt := 70) hx hb dX6_readOtherwise_66 (by decide) ?_
        exact W.iret (v := 1) hx hb hr (fun t ht hW => ⟨⟨1, (u51_t_now_counted, u43_t_acts_size, u43_t_acts_kinds, u43_t_acts_numbers), rfl, ⟨hf.symm, (s_X6_readOtherwise_5 u43_t_acts_size hq43_0 hq43_1), (s_X6_readOtherwise_6 u43_t_acts_size hq43_0 hq43_1)⟩, by rw [ht]; exact hP.sub [0, 1, 2, 3, 7, 4, 5, 6] rfl, hD.sub [0, 1, 2, 3, 7, 4, 5, 6] (by decide) rfl⟩, hS.F ht⟩) hS.2.2 dX6_readOtherwise_70
    refine lv_if_ne (tgt := 37) hx hb dX6_readOtherwise_18 (by decide) (fun c_18 => ?_) (fun c_18 => ?_)
    · replace hf := hf.trans (if_pos c_18)
      exact hJ_37 hf _ _ (hP.sub [0, 1, 2, 3, 4, 5, 6, 7] rfl) (hD.sub [0, 1, 2, 3, 4, 5, 6, 7] (by decide) rfl) hS _ (lv_sub hl [0, 1] rfl)
    · replace hf := hf.trans (if_neg (fun h9 => h9 c_18))
      refine lv_aload_n hx hb dX6_readOtherwise_21 rfl (lv_at hl 0 rfl) ?_
      refine va_get (D := D) (ci := 6) (v := .ref a_t_told) (C := RX6) (T := TX6) (N := 10) hx hb hts hwX6 hown hK hP 0 rfl rfl 1 (by decide) (hts (.fieldLink RX6 19 "SkippedDay" "told" "LSkippedDay$Told;") (by decide +kernel)) (fun _ h9 => h9) rfl dX6_readOtherwise_22 ?_
      refine lv_iload_n hx hb dX6_readOtherwise_25 rfl (lv_at hl 1 rfl) ?_
      refine pcV (As := [.int x1]) (rest := []) ⟨hx, hb, hml, hown, hts⟩ (c_X5_lengthOf l D cI cZ cO a_t_told a_t_told_sizes a_t_told_cells f_t_told_cells x1) (cwV 1 hts gX6_readOtherwise_X5_lengthOf rfl rfl rfl (by decide +kernel) ⟨Nat.le_of_ble_eq_true rfl, Nat.le_of_ble_eq_true rfl⟩) hKX hP [1, 3] rfl 1 5 rfl rfl rfl rfl hl.1 rfl (Nat.le_of_ble_eq_true rfl) dX6_readOtherwise_26 ⟨Nat.le_of_ble_eq_true rfl, Nat.le_of_ble_eq_true rfl⟩ ?_
      refine lv_bipush (v := 9) hx hb dX6_readOtherwise_29 (by decide) ?_
      refine lv_icmp_le (tgt := 37) hx hb dX6_readOtherwise_31 (by decide) (fun c_31 => ?_) (fun c_31 => ?_)
      · replace hf := hf.trans (if_pos c_31)
        exact hJ_37 hf _ _ (hP.sub [0, 1, 2, 3, 4, 5, 6, 7] rfl) (hD.sub [0, 1, 2, 3, 4, 5, 6, 7] (by decide) rfl) hS _ (lv_sub hl [0, 1] rfl)
      · replace hf := hf.trans (if_neg c_31)
        refine lv_bipush (v := (-3)) hx hb dX6_readOtherwise_34 (by decide) ?_
        exact W.iret (v := (-3)) hx hb hr (fun t ht hW => ⟨⟨(-3), (v_t_now_counted, v_t_acts_size, f_t_acts_kinds, f_t_acts_numbers), rfl, ⟨hf.symm, (s_X6_readOtherwise_7 v_t_acts_size hp0 hp1), (s_X6_readOtherwise_8 v_t_acts_size hp0 hp1)⟩, by rw [ht]; exact hP.sub [0, 1, 2, 3, 4, 5, 6, 7] rfl, hD.sub [0, 1, 2, 3, 4, 5, 6, 7] (by decide) rfl⟩, hS.F ht⟩) hS.2.2 dX6_readOtherwise_36
  · replace hf := hf.trans (if_neg (fun h9 => h9 c_5))
    refine lv_iconst (v := (-1)) hx hb dX6_readOtherwise_8 (by decide) ?_
    exact W.iret (v := (-1)) hx hb hr (fun t ht hW => ⟨⟨(-1), (v_t_now_counted, v_t_acts_size, f_t_acts_kinds, f_t_acts_numbers), rfl, ⟨hf.symm, (s_X6_readOtherwise_9 v_t_acts_size hp0 hp1), (s_X6_readOtherwise_10 v_t_acts_size hp0 hp1)⟩, by rw [ht]; exact hP.sub [0, 1, 2, 3, 4, 5, 6, 7] rfl, hD.sub [0, 1, 2, 3, 4, 5, 6, 7] (by decide) rfl⟩, hS.F ht⟩) hS.2.2 dX6_readOtherwise_9

def f_X6_undo_j86 (v_t_acts_size : Int32) (w86_t_now_place : Int32) (w86_t_now_voided : Int32) (w86_t_now_counted : Int32) : Int32 × Int32 × Int32 × Int32 × Int32 :=
  ap1 (f_X0_removeLast v_t_acts_size) (fun u90_t_acts_size => (f_X0_size u90_t_acts_size, w86_t_now_place, w86_t_now_voided, w86_t_now_counted, u90_t_acts_size))
def f_X6_undo (v_t_now_place : Int32) (v_t_now_voided : Int32) (v_t_now_counted : Int32) (v_t_acts_size : Int32) (f_t_acts_kinds : Nat → Int32) (f_t_acts_numbers : Nat → Int32) : Int32 × Int32 × Int32 × Int32 × Int32 :=
  if ¬ (f_X0_size v_t_acts_size) = 0 then if (f_X0_lastKind v_t_acts_size f_t_acts_kinds) = 0 then f_X6_undo_j86 v_t_acts_size (f_X0_lastNumber v_t_acts_size f_t_acts_numbers) v_t_now_voided v_t_now_counted else (if (f_X0_lastKind v_t_acts_size f_t_acts_kinds) = 1 then ap1 (f_X3_turnVoided v_t_now_voided (f_X0_lastNumber v_t_acts_size f_t_acts_numbers)) (fun u72_t_now_voided => f_X6_undo_j86 v_t_acts_size v_t_now_place u72_t_now_voided v_t_now_counted) else (ap1 (f_X3_turnReading v_t_now_counted (f_X0_lastNumber v_t_acts_size f_t_acts_numbers)) (fun u83_t_now_counted => f_X6_undo_j86 v_t_acts_size v_t_now_place v_t_now_voided u83_t_now_counted))) else ((-3), v_t_now_place, v_t_now_voided, v_t_now_counted, v_t_acts_size)
/- hp0@4 -/ theorem s_X6_undo_1 (v_t_acts_size : Int32) (hp0 : 0 ≤ v_t_acts_size) (hp1 : v_t_acts_size ≤ 14) : 0 ≤ v_t_acts_size := by grind
/- hp1@4 -/ theorem s_X6_undo_2 (v_t_acts_size : Int32) (hp0 : 0 ≤ v_t_acts_size) (hp1 : v_t_acts_size ≤ 14) : v_t_acts_size ≤ 14 := by grind
/- hp0@17 -/ theorem s_X6_undo_3 (v_t_acts_size : Int32) (hp0 : 0 ≤ v_t_acts_size) (hp1 : v_t_acts_size ≤ 14) (c_7 : ¬ (f_X0_size v_t_acts_size) = 0) : 0 ≤ v_t_acts_size := by grind [f_X0_size]
/- hp1@17 -/ theorem s_X6_undo_4 (v_t_acts_size : Int32) (hp0 : 0 ≤ v_t_acts_size) (hp1 : v_t_acts_size ≤ 14) (c_7 : ¬ (f_X0_size v_t_acts_size) = 0) : v_t_acts_size ≤ 14 := by grind [f_X0_size]
/- hp0@25 -/ theorem s_X6_undo_5 (v_t_acts_size : Int32) (hp0 : 0 ≤ v_t_acts_size) (hp1 : v_t_acts_size ≤ 14) (c_7 : ¬ (f_X0_size v_t_acts_size) = 0) : 0 ≤ v_t_acts_size := by grind [f_X0_size]
/- hp1@25 -/ theorem s_X6_undo_6 (v_t_acts_size : Int32) (hp0 : 0 ≤ v_t_acts_size) (hp1 : v_t_acts_size ≤ 14) (c_7 : ¬ (f_X0_size v_t_acts_size) = 0) : v_t_acts_size ≤ 14 := by grind [f_X0_size]
/- hp0@90 -/ theorem s_X6_undo_7 (v_t_acts_size : Int32) (hp0 : 0 ≤ v_t_acts_size) (hp1 : v_t_acts_size ≤ 14) (c_7 : ¬ (f_X0_size v_t_acts_size) = 0) : 0 ≤ v_t_acts_size := by grind [f_X0_size]
/- hp1@90 -/ theorem s_X6_undo_8 (v_t_acts_size : Int32) (hp0 : 0 ≤ v_t_acts_size) (hp1 : v_t_acts_size ≤ 14) (c_7 : ¬ (f_X0_size v_t_acts_size) = 0) : v_t_acts_size ≤ 14 := by grind [f_X0_size]
/- hp0@97 -/ theorem s_X6_undo_9 (u90_t_acts_size : Int32) (hq90_0 : 0 ≤ u90_t_acts_size) (hq90_1 : u90_t_acts_size ≤ 14) : 0 ≤ u90_t_acts_size := by grind
/- hp1@97 -/ theorem s_X6_undo_10 (u90_t_acts_size : Int32) (hq90_0 : 0 ≤ u90_t_acts_size) (hq90_1 : u90_t_acts_size ≤ 14) : u90_t_acts_size ≤ 14 := by grind
/- post0@100 -/ theorem s_X6_undo_11 (u90_t_acts_size : Int32) (hq90_0 : 0 ≤ u90_t_acts_size) (hq90_1 : u90_t_acts_size ≤ 14) : 0 ≤ u90_t_acts_size := by grind
/- post1@100 -/ theorem s_X6_undo_12 (u90_t_acts_size : Int32) (hq90_0 : 0 ≤ u90_t_acts_size) (hq90_1 : u90_t_acts_size ≤ 14) : u90_t_acts_size ≤ 14 := by grind
/- post0@12 -/ theorem s_X6_undo_13 (v_t_acts_size : Int32) (hp0 : 0 ≤ v_t_acts_size) (hp1 : v_t_acts_size ≤ 14) (c_7 : (f_X0_size v_t_acts_size) = 0) : 0 ≤ v_t_acts_size := by grind [f_X0_size]
/- post1@12 -/ theorem s_X6_undo_14 (v_t_acts_size : Int32) (hp0 : 0 ≤ v_t_acts_size) (hp1 : v_t_acts_size ≤ 14) (c_7 : (f_X0_size v_t_acts_size) = 0) : v_t_acts_size ≤ 14 := by grind [f_X0_size]
set_option maxHeartbeats 4000000 in
set_option maxRecDepth 100000 in
theorem c_X6_undo (l : Launch) (D : va_G) (cI cZ cO : ClassId) (a_t : Nat) (a_t_text : Nat) (a_t_told : Nat) (a_t_draft : Nat) (a_t_now : Nat) (a_t_acts : Nat) (a_t_sightings : Nat) (a_t_sides : Nat) (a_t_kept : Nat) (v_t_keptSlots : Int32) (v_t_theSeed : Int64) (v_t_now_place : Int32) (v_t_now_voided : Int32) (v_t_now_counted : Int32) (a_t_acts_kinds : Nat) (a_t_acts_numbers : Nat) (v_t_acts_size : Int32) (f_t_acts_kinds : Nat → Int32) (f_t_acts_numbers : Nat → Int32) (sz : Nat) (hp0 : 0 ≤ v_t_acts_size) (hp1 : v_t_acts_size ≤ 14) : Met l yX6_undo wsX6_undo ({ frames := 1, cells := 0, slots := 0, locals := 21 }) (PcM D (tysG cI cZ cO) [.ref a_t] sz [(a_t, .inr (6, [.ref a_t_text, .ref a_t_told, .ref a_t_draft, .ref a_t_now, .ref a_t_acts, .ref a_t_sightings, .ref a_t_sides, .ref a_t_kept, .int v_t_keptSlots, .long v_t_theSeed])), (a_t_now, .inr (3, [.int v_t_now_place, .int v_t_now_voided, .int v_t_now_counted])), (a_t_acts, .inr (0, [.ref a_t_acts_kinds, .ref a_t_acts_numbers, .int v_t_acts_size])), (a_t_acts_kinds, .inl (cI, 14, .inl f_t_acts_kinds)), (a_t_acts_numbers, .inl (cI, 14, .inl f_t_acts_numbers))]) (va_Qi (fun (r : Int32) (u : Int32 × Int32 × Int32 × Int32) => (r, u) = f_X6_undo v_t_now_place v_t_now_voided v_t_now_counted v_t_acts_size f_t_acts_kinds f_t_acts_numbers ∧ (0 ≤ u.2.2.2) ∧ (u.2.2.2 ≤ 14)) (BM D (va_A [(a_t, .inr (6, [.ref a_t_text, .ref a_t_told, .ref a_t_draft, .ref a_t_now, .ref a_t_acts, .ref a_t_sightings, .ref a_t_sides, .ref a_t_kept, .int v_t_keptSlots, .long v_t_theSeed])), (a_t_now, .inr (3, [.int v_t_now_place, .int v_t_now_voided, .int v_t_now_counted])), (a_t_acts, .inr (0, [.ref a_t_acts_kinds, .ref a_t_acts_numbers, .int v_t_acts_size])), (a_t_acts_kinds, .inl (cI, 14, .inl f_t_acts_kinds)), (a_t_acts_numbers, .inl (cI, 14, .inl f_t_acts_numbers))] sz) (fun u : Int32 × Int32 × Int32 × Int32 => [(a_t, .inr (6, [.ref a_t_text, .ref a_t_told, .ref a_t_draft, .ref a_t_now, .ref a_t_acts, .ref a_t_sightings, .ref a_t_sides, .ref a_t_kept, .int v_t_keptSlots, .long v_t_theSeed])), (a_t_now, .inr (3, [.int u.1, .int u.2.1, .int u.2.2.1])), (a_t_acts, .inr (0, [.ref a_t_acts_kinds, .ref a_t_acts_numbers, .int u.2.2.2])), (a_t_acts_kinds, .inl (cI, 14, .inl f_t_acts_kinds)), (a_t_acts_numbers, .inl (cI, 14, .inl f_t_acts_numbers))])) (va_A [(a_t, .inr (6, [.ref a_t_text, .ref a_t_told, .ref a_t_draft, .ref a_t_now, .ref a_t_acts, .ref a_t_sightings, .ref a_t_sides, .ref a_t_kept, .int v_t_keptSlots, .long v_t_theSeed])), (a_t_now, .inr (3, [.int v_t_now_place, .int v_t_now_voided, .int v_t_now_counted])), (a_t_acts, .inr (0, [.ref a_t_acts_kinds, .ref a_t_acts_numbers, .int v_t_acts_size])), (a_t_acts_kinds, .inl (cI, 14, .inl f_t_acts_kinds)), (a_t_acts_numbers, .inl (cI, 14, .inl f_t_acts_numbers))] sz)) 0 0 (va_A [(a_t, .inr (6, [.ref a_t_text, .ref a_t_told, .ref a_t_draft, .ref a_t_now, .ref a_t_acts, .ref a_t_sightings, .ref a_t_sides, .ref a_t_kept, .int v_t_keptSlots, .long v_t_theSeed])), (a_t_now, .inr (3, [.int v_t_now_place, .int v_t_now_voided, .int v_t_now_counted])), (a_t_acts, .inr (0, [.ref a_t_acts_kinds, .ref a_t_acts_numbers, .int v_t_acts_size])), (a_t_acts_kinds, .inl (cI, 14, .inl f_t_acts_kinds)), (a_t_acts_numbers, .inl (cI, 14, .inl f_t_acts_numbers))] sz) := by
  refine Met.ofW (cc := cX6_undo) (maxL := 2) (ret := (some .int)) (by decide) rfl ?_
  intro p e s m args below meth c s₁ B hml hv
  obtain ⟨rfl, hsz, hP, hKX, hD0⟩ := hv
  have hx := B.exec
  have hb := B.bytes
  have hr := B.returns
  have hts := atoms_spec (ws := wsX6_undo) B.pre
  have hown : s.vm.findClass RX6 = some m.cls := findClass_of_methodNamed B.named
  have hlocks := B.notSynchronized
  have hK := hKX.1
  have hwX3 : ∀ w ∈ wsX30, w ∈ wsX6_undo := by decide +kernel
  have hwX6 : ∀ w ∈ wsX60, w ∈ wsX6_undo := by decide +kernel
  subst hsz
  have hD := hD0.self (sz := s.heap.size)
  generalize hAe : va_A [(a_t, .inr (6, [.ref a_t_text, .ref a_t_told, .ref a_t_draft, .ref a_t_now, .ref a_t_acts, .ref a_t_sightings, .ref a_t_sides, .ref a_t_kept, .int v_t_keptSlots, .long v_t_theSeed])), (a_t_now, .inr (3, [.int v_t_now_place, .int v_t_now_voided, .int v_t_now_counted])), (a_t_acts, .inr (0, [.ref a_t_acts_kinds, .ref a_t_acts_numbers, .int v_t_acts_size])), (a_t_acts_kinds, .inl (cI, 14, .inl f_t_acts_kinds)), (a_t_acts_numbers, .inl (cI, 14, .inl f_t_acts_numbers))] s.heap.size = A at hD ⊢
  have hA : ∀ q : Nat, s.heap.size ≤ q → A q := fun q h => by rw [← hAe]; exact Or.inr h
  have hS : va_S A s.heap s.heap [] := va_S.rf
  have hP : va_P D vwCl [(a_t, .inr (6, [.ref a_t_text, .ref a_t_told, .ref a_t_draft, .ref a_t_now, .ref a_t_acts, .ref a_t_sightings, .ref a_t_sides, .ref a_t_kept, .int v_t_keptSlots, .long v_t_theSeed])), (a_t_now, .inr (3, [.int v_t_now_place, .int v_t_now_voided, .int v_t_now_counted])), (a_t_acts, .inr (0, [.ref a_t_acts_kinds, .ref a_t_acts_numbers, .int v_t_acts_size])), (a_t_acts_kinds, .inl (cI, 14, .inl f_t_acts_kinds)), (a_t_acts_numbers, .inl (cI, 14, .inl f_t_acts_numbers))] s.heap := hP
  have hl := lv_entry ([.ref a_t]) (n := 2) (Nat.le_of_ble_eq_true rfl)
  rw [lg_entry_eq]
  generalize (lg_sl ([.ref a_t]) ++ List.replicate (2 - (lg_sl ([.ref a_t])).length) Slot.unset).toArray = ls at hl ⊢
  have hl : lv_has ls 2 [(0, .ref a_t)] := hl
  have hf := f_X6_undo.eq_1 v_t_now_place v_t_now_voided v_t_now_counted v_t_acts_size f_t_acts_kinds f_t_acts_numbers
  refine lv_aload_n hx hb dX6_undo_0 rfl (lv_at hl 0 rfl) ?_
  refine va_get (D := D) (ci := 6) (v := .ref a_t_acts) (C := RX6) (T := TX6) (N := 10) hx hb hts hwX6 hown hK hP 0 rfl rfl 4 (by decide) (hts (.fieldLink RX6 36 "SkippedDay" "acts" "LSkippedDay$Acts;") (by decide +kernel)) (fun _ h9 => h9) rfl dX6_undo_1 ?_
  refine pcV (As := []) (rest := []) ⟨hx, hb, hml, hown, hts⟩ (c_X0_size l D cI cZ cO a_t_acts a_t_acts_kinds a_t_acts_numbers v_t_acts_size (s_X6_undo_1 v_t_acts_size hp0 hp1) (s_X6_undo_2 v_t_acts_size hp0 hp1)) (cwV 0 hts gX6_undo_X0_size rfl rfl rfl (by decide +kernel) ⟨Nat.le_of_ble_eq_true rfl, Nat.le_of_ble_eq_true rfl⟩) hKX hP [2] rfl 2 0 rfl rfl rfl rfl hl.1 rfl (Nat.le_of_ble_eq_true rfl) dX6_undo_4 ⟨Nat.le_of_ble_eq_true rfl, Nat.le_of_ble_eq_true rfl⟩ ?_
  refine lv_if_ne (tgt := 13) hx hb dX6_undo_7 (by decide) (fun c_7 => ?_) (fun c_7 => ?_)
  · replace hf := hf.trans (if_pos c_7)
    refine lv_aload_n hx hb dX6_undo_13 rfl (lv_at hl 0 rfl) ?_
    refine va_get (D := D) (ci := 6) (v := .ref a_t_acts) (C := RX6) (T := TX6) (N := 10) hx hb hts hwX6 hown hK hP 0 rfl rfl 4 (by decide) (hts (.fieldLink RX6 36 "SkippedDay" "acts" "LSkippedDay$Acts;") (by decide +kernel)) (fun _ h9 => h9) rfl dX6_undo_14 ?_
    refine pcV (As := []) (rest := []) ⟨hx, hb, hml, hown, hts⟩ (c_X0_lastNumber l D cI cZ cO a_t_acts a_t_acts_kinds a_t_acts_numbers v_t_acts_size f_t_acts_numbers (s_X6_undo_3 v_t_acts_size hp0 hp1 c_7) (s_X6_undo_4 v_t_acts_size hp0 hp1 c_7)) (cwV 0 hts gX6_undo_X0_lastNumber rfl rfl rfl (by decide +kernel) ⟨Nat.le_of_ble_eq_true rfl, Nat.le_of_ble_eq_true rfl⟩) hKX hP [2, 4] rfl 2 0 rfl rfl rfl rfl hl.1 rfl (Nat.le_of_ble_eq_true rfl) dX6_undo_17 ⟨Nat.le_of_ble_eq_true rfl, Nat.le_of_ble_eq_true rfl⟩ ?_
    refine lv_istore_n (lv' := [(1, .int (f_X0_lastNumber v_t_acts_size f_t_acts_numbers)), (0, .ref a_t)]) hx hb dX6_undo_20 rfl hl (by decide) rfl (fun ls hl => ?_)
    refine lv_aload_n hx hb dX6_undo_21 rfl (lv_at hl 1 rfl) ?_
    refine va_get (D := D) (ci := 6) (v := .ref a_t_acts) (C := RX6) (T := TX6) (N := 10) hx hb hts hwX6 hown hK hP 0 rfl rfl 4 (by decide) (hts (.fieldLink RX6 36 "SkippedDay" "acts" "LSkippedDay$Acts;") (by decide +kernel)) (fun _ h9 => h9) rfl dX6_undo_22 ?_
    refine pcV (As := []) (rest := []) ⟨hx, hb, hml, hown, hts⟩ (c_X0_lastKind l D cI cZ cO a_t_acts a_t_acts_kinds a_t_acts_numbers v_t_acts_size f_t_acts_kinds (s_X6_undo_5 v_t_acts_size hp0 hp1 c_7) (s_X6_undo_6 v_t_acts_size hp0 hp1 c_7)) (cwV 0 hts gX6_undo_X0_lastKind rfl rfl rfl (by decide +kernel) ⟨Nat.le_of_ble_eq_true rfl, Nat.le_of_ble_eq_true rfl⟩) hKX hP [2, 3] rfl 2 0 rfl rfl rfl rfl hl.1 rfl (Nat.le_of_ble_eq_true rfl) dX6_undo_25 ⟨Nat.le_of_ble_eq_true rfl, Nat.le_of_ble_eq_true rfl⟩ ?_
    have hJ_86 : ∀ (w86_t_now_place : Int32) (w86_t_now_voided : Int32) (w86_t_now_counted : Int32), f_X6_undo v_t_now_place v_t_now_voided v_t_now_counted v_t_acts_size f_t_acts_kinds f_t_acts_numbers = f_X6_undo_j86 v_t_acts_size w86_t_now_place w86_t_now_voided w86_t_now_counted → ∀ (H : Heap) (locs : List Loc), va_P D vwCl [(a_t, .inr (6, [.ref a_t_text, .ref a_t_told, .ref a_t_draft, .ref a_t_now, .ref a_t_acts, .ref a_t_sightings, .ref a_t_sides, .ref a_t_kept, .int v_t_keptSlots, .long v_t_theSeed])), (a_t_now, .inr (3, [.int w86_t_now_place, .int w86_t_now_voided, .int w86_t_now_counted])), (a_t_acts, .inr (0, [.ref a_t_acts_kinds, .ref a_t_acts_numbers, .int v_t_acts_size])), (a_t_acts_kinds, .inl (cI, 14, .inl f_t_acts_kinds)), (a_t_acts_numbers, .inl (cI, 14, .inl f_t_acts_numbers))] H → va_D A [(a_t, .inr (6, [.ref a_t_text, .ref a_t_told, .ref a_t_draft, .ref a_t_now, .ref a_t_acts, .ref a_t_sightings, .ref a_t_sides, .ref a_t_kept, .int v_t_keptSlots, .long v_t_theSeed])), (a_t_now, .inr (3, [.int w86_t_now_place, .int w86_t_now_voided, .int w86_t_now_counted])), (a_t_acts, .inr (0, [.ref a_t_acts_kinds, .ref a_t_acts_numbers, .int v_t_acts_size])), (a_t_acts_kinds, .inl (cI, 14, .inl f_t_acts_kinds)), (a_t_acts_numbers, .inl (cI, 14, .inl f_t_acts_numbers))] → va_S A s.heap H locs → ∀ (ls : Array Slot), lv_has ls 2 [(0, .ref a_t)] → W p l e (headSpec wsX6_undo { frames := 1, cells := 0, slots := 0, locals := 21 }).room s m [.ref a_t].toArray below meth c H locs 0 0 (MQ below (va_Qi (fun (r : Int32) (u : Int32 × Int32 × Int32 × Int32) => (r, u) = f_X6_undo v_t_now_place v_t_now_voided v_t_now_counted v_t_acts_size f_t_acts_kinds f_t_acts_numbers ∧ (0 ≤ u.2.2.2) ∧ (u.2.2.2 ≤ 14)) (BM D A (fun u : Int32 × Int32 × Int32 × Int32 => [(a_t, .inr (6, [.ref a_t_text, .ref a_t_told, .ref a_t_draft, .ref a_t_now, .ref a_t_acts, .ref a_t_sightings, .ref a_t_sides, .ref a_t_kept, .int v_t_keptSlots, .long v_t_theSeed])), (a_t_now, .inr (3, [.int u.1, .int u.2.1, .int u.2.2.1])), (a_t_acts, .inr (0, [.ref a_t_acts_kinds, .ref a_t_acts_numbers, .int u.2.2.2])), (a_t_acts_kinds, .inl (cI, 14, .inl f_t_acts_kinds)), (a_t_acts_numbers, .inl (cI, 14, .inl f_t_acts_numbers))])) A) [.ref a_t].toArray s 0 0 A) (F0 m 86 ls []) := by
      intro w86_t_now_place w86_t_now_voided w86_t_now_counted hf H locs hP hD hS ls hl
      replace hf := hf.trans (f_X6_undo_j86.eq_1 _ _ _ _)
      refine lv_aload_n hx hb dX6_undo_86 rfl (lv_at hl 0 rfl) ?_
      refine va_get (D := D) (ci := 6) (v := .ref a_t_acts) (C := RX6) (T := TX6) (N := 10) hx hb hts hwX6 hown hK hP 0 rfl rfl 4 (by decide) (hts (.fieldLink RX6 36 "SkippedDay" "acts" "LSkippedDay$Acts;") (by decide +kernel)) (fun _ h9 => h9) rfl dX6_undo_87 ?_
      refine callMv (As := []) (rest := []) (wr := [(a_t, .inr (6, [.ref a_t_text, .ref a_t_told, .ref a_t_draft, .ref a_t_now, .ref a_t_acts, .ref a_t_sightings, .ref a_t_sides, .ref a_t_kept, .int v_t_keptSlots, .long v_t_theSeed])), (a_t_now, .inr (3, [.int w86_t_now_place, .int w86_t_now_voided, .int w86_t_now_counted])), (a_t_acts_kinds, .inl (cI, 14, .inl f_t_acts_kinds)), (a_t_acts_numbers, .inl (cI, 14, .inl f_t_acts_numbers))]) ⟨hx, hb, hml, hown, hts⟩ (c_X0_removeLast l D cI cZ cO a_t_acts a_t_acts_kinds a_t_acts_numbers v_t_acts_size H.size (s_X6_undo_7 v_t_acts_size hp0 hp1 c_7) (s_X6_undo_8 v_t_acts_size hp0 hp1 c_7)) (cwV 0 hts gX6_undo_X0_removeLast rfl rfl rfl (by decide +kernel) ⟨Nat.le_of_ble_eq_true rfl, Nat.le_of_ble_eq_true rfl⟩) hKX hP hD hS hA [2] [0, 1, 3, 4] rfl rfl (by decide) (by decide) (by decide) 2 0 rfl rfl rfl rfl hl.1 rfl (Nat.le_of_ble_eq_true rfl) dX6_undo_90 ⟨Nat.le_of_ble_eq_true rfl, Nat.le_of_ble_eq_true rfl⟩ (fun u H locs hc90 hP hD hS => ?_)
      obtain ⟨u90_t_acts_size, rfl⟩ : ∃ z, z = u := ⟨_, rfl⟩
      have hP : va_P D vwCl [(a_t, .inr (6, [.ref a_t_text, .ref a_t_told, .ref a_t_draft, .ref a_t_now, .ref a_t_acts, .ref a_t_sightings, .ref a_t_sides, .ref a_t_kept, .int v_t_keptSlots, .long v_t_theSeed])), (a_t_now, .inr (3, [.int w86_t_now_place, .int w86_t_now_voided, .int w86_t_now_counted])), (a_t_acts_kinds, .inl (cI, 14, .inl f_t_acts_kinds)), (a_t_acts_numbers, .inl (cI, 14, .inl f_t_acts_numbers)), (a_t_acts, .inr (0, [.ref a_t_acts_kinds, .ref a_t_acts_numbers, .int u90_t_acts_size]))] H := hP
      have hD : va_D A [(a_t, .inr (6, [.ref a_t_text, .ref a_t_told, .ref a_t_draft, .ref a_t_now, .ref a_t_acts, .ref a_t_sightings, .ref a_t_sides, .ref a_t_kept, .int v_t_keptSlots, .long v_t_theSeed])), (a_t_now, .inr (3, [.int w86_t_now_place, .int w86_t_now_voided, .int w86_t_now_counted])), (a_t_acts_kinds, .inl (cI, 14, .inl f_t_acts_kinds)), (a_t_acts_numbers, .inl (cI, 14, .inl f_t_acts_numbers)), (a_t_acts, .inr (0, [.ref a_t_acts_kinds, .ref a_t_acts_numbers, .int u90_t_acts_size]))] := hD
      have hq90_0 : 0 ≤ u90_t_acts_size := hc90.2.1
      have hq90_1 : u90_t_acts_size ≤ 14 := hc90.2.2
      replace hf := hf.trans (ap1_g hc90.1)
      refine lv_aload_n hx hb dX6_undo_93 rfl (lv_at hl 0 rfl) ?_
      refine va_get (D := D) (ci := 6) (v := .ref a_t_acts) (C := RX6) (T := TX6) (N := 10) hx hb hts hwX6 hown hK hP 0 rfl rfl 4 (by decide) (hts (.fieldLink RX6 36 "SkippedDay" "acts" "LSkippedDay$Acts;") (by decide +kernel)) (fun _ h9 => h9) rfl dX6_undo_94 ?_
      refine pcV (As := []) (rest := []) ⟨hx, hb, hml, hown, hts⟩ (c_X0_size l D cI cZ cO a_t_acts a_t_acts_kinds a_t_acts_numbers u90_t_acts_size (s_X6_undo_9 u90_t_acts_size hq90_0 hq90_1) (s_X6_undo_10 u90_t_acts_size hq90_0 hq90_1)) (cwV 0 hts gX6_undo_X0_size rfl rfl rfl (by decide +kernel) ⟨Nat.le_of_ble_eq_true rfl, Nat.le_of_ble_eq_true rfl⟩) hKX hP [4] rfl 4 0 rfl rfl rfl rfl hl.1 rfl (Nat.le_of_ble_eq_true rfl) dX6_undo_97 ⟨Nat.le_of_ble_eq_true rfl, Nat.le_of_ble_eq_true rfl⟩ ?_
      exact W.iret (v := f_X0_size u90_t_acts_size) hx hb hr (fun t ht hW => ⟨⟨f_X0_size u90_t_acts_size, (w86_t_now_place, w86_t_now_voided, w86_t_now_counted, u90_t_acts_size), rfl, ⟨hf.symm, (s_X6_undo_11 u90_t_acts_size hq90_0 hq90_1), (s_X6_undo_12 u90_t_acts_size hq90_0 hq90_1)⟩, by rw [ht]; exact hP.sub [0, 1, 4, 2, 3] rfl, hD.sub [0, 1, 4, 2, 3] (by decide) rfl⟩, hS.F ht⟩) hS.2.2 dX6_undo_100
    by_cases q_28_0 : (f_X0_lastKind v_t_acts_size f_t_acts_kinds) = 0
    · replace hf := hf.trans (if_pos q_28_0)
      refine lv_lookup (off := 28) (tgt := 56) hx hb dX6_undo_28 (by decide) (by rw [q_28_0]; rfl) (by decide) ?_
      refine lv_aload_n hx hb dX6_undo_56 rfl (lv_at hl 1 rfl) ?_
      refine va_get (D := D) (ci := 6) (v := .ref a_t_now) (C := RX6) (T := TX6) (N := 10) hx hb hts hwX6 hown hK hP 0 rfl rfl 3 (by decide) (hts (.fieldLink RX6 29 "SkippedDay" "now" "LSkippedDay$Standing;") (by decide +kernel)) (fun _ h9 => h9) rfl dX6_undo_57 ?_
      refine lv_iload_n hx hb dX6_undo_60 rfl (lv_at hl 0 rfl) ?_
      refine va_putN (host := RX6) (D := D) (ci := 3) (v := .int (f_X0_lastNumber v_t_acts_size f_t_acts_numbers)) (ty := .int) (C := RX3) (T := TX3) (N := 3) hx hb hts hwX3 tyX3 tyX3_ok nmX3 hown hK hP hD hS 1 rfl rfl 0 (by decide) (va_Nw.use rfl hKX.2.1) (fun _ h9 => h9) rfl (by decide +kernel) rfl rfl (Nat.le_of_ble_eq_true rfl) dX6_undo_61 (fun H locs hP hD hS => ?_)
      have hP : va_P D vwCl [(a_t, .inr (6, [.ref a_t_text, .ref a_t_told, .ref a_t_draft, .ref a_t_now, .ref a_t_acts, .ref a_t_sightings, .ref a_t_sides, .ref a_t_kept, .int v_t_keptSlots, .long v_t_theSeed])), (a_t_now, .inr (3, [.int (f_X0_lastNumber v_t_acts_size f_t_acts_numbers), .int v_t_now_voided, .int v_t_now_counted])), (a_t_acts, .inr (0, [.ref a_t_acts_kinds, .ref a_t_acts_numbers, .int v_t_acts_size])), (a_t_acts_kinds, .inl (cI, 14, .inl f_t_acts_kinds)), (a_t_acts_numbers, .inl (cI, 14, .inl f_t_acts_numbers))] H := hP
      have hD : va_D A [(a_t, .inr (6, [.ref a_t_text, .ref a_t_told, .ref a_t_draft, .ref a_t_now, .ref a_t_acts, .ref a_t_sightings, .ref a_t_sides, .ref a_t_kept, .int v_t_keptSlots, .long v_t_theSeed])), (a_t_now, .inr (3, [.int (f_X0_lastNumber v_t_acts_size f_t_acts_numbers), .int v_t_now_voided, .int v_t_now_counted])), (a_t_acts, .inr (0, [.ref a_t_acts_kinds, .ref a_t_acts_numbers, .int v_t_acts_size])), (a_t_acts_kinds, .inl (cI, 14, .inl f_t_acts_kinds)), (a_t_acts_numbers, .inl (cI, 14, .inl f_t_acts_numbers))] := hD
      refine lv_goto (tgt := 86) hx hb dX6_undo_64 (by decide) ?_
      exact hJ_86 (f_X0_lastNumber v_t_acts_size f_t_acts_numbers) v_t_now_voided v_t_now_counted hf _ _ (hP.sub [0, 1, 2, 3, 4] rfl) (hD.sub [0, 1, 2, 3, 4] (by decide) rfl) hS _ (lv_sub hl [1] rfl)
    · replace hf := hf.trans (if_neg q_28_0)
      by_cases q_28_1 : (f_X0_lastKind v_t_acts_size f_t_acts_kinds) = 1
      · replace hf := hf.trans (if_pos q_28_1)
        refine lv_lookup (off := 39) (tgt := 67) hx hb dX6_undo_28 (by decide) (by rw [q_28_1]; rfl) (by decide) ?_
        refine lv_aload_n hx hb dX6_undo_67 rfl (lv_at hl 1 rfl) ?_
        refine va_get (D := D) (ci := 6) (v := .ref a_t_now) (C := RX6) (T := TX6) (N := 10) hx hb hts hwX6 hown hK hP 0 rfl rfl 3 (by decide) (hts (.fieldLink RX6 29 "SkippedDay" "now" "LSkippedDay$Standing;") (by decide +kernel)) (fun _ h9 => h9) rfl dX6_undo_68 ?_
        refine lv_iload_n hx hb dX6_undo_71 rfl (lv_at hl 0 rfl) ?_
        refine callMv (As := [.int (f_X0_lastNumber v_t_acts_size f_t_acts_numbers)]) (rest := []) (wr := [(a_t, .inr (6, [.ref a_t_text, .ref a_t_told, .ref a_t_draft, .ref a_t_now, .ref a_t_acts, .ref a_t_sightings, .ref a_t_sides, .ref a_t_kept, .int v_t_keptSlots, .long v_t_theSeed])), (a_t_acts, .inr (0, [.ref a_t_acts_kinds, .ref a_t_acts_numbers, .int v_t_acts_size])), (a_t_acts_kinds, .inl (cI, 14, .inl f_t_acts_kinds)), (a_t_acts_numbers, .inl (cI, 14, .inl f_t_acts_numbers))]) ⟨hx, hb, hml, hown, hts⟩ (c_X3_turnVoided l D cI cZ cO a_t_now v_t_now_place v_t_now_voided v_t_now_counted (f_X0_lastNumber v_t_acts_size f_t_acts_numbers) s.heap.size) (cwV 1 hts gX6_undo_X3_turnVoided rfl rfl rfl (by decide +kernel) ⟨Nat.le_of_ble_eq_true rfl, Nat.le_of_ble_eq_true rfl⟩) hKX hP hD hS hA [1] [0, 2, 3, 4] rfl rfl (by decide) (by decide) (by decide) 1 3 rfl rfl rfl rfl hl.1 rfl (Nat.le_of_ble_eq_true rfl) dX6_undo_72 ⟨Nat.le_of_ble_eq_true rfl, Nat.le_of_ble_eq_true rfl⟩ (fun u H locs hc72 hP hD hS => ?_)
        obtain ⟨u72_t_now_voided, rfl⟩ : ∃ z, z = u := ⟨_, rfl⟩
        have hP : va_P D vwCl [(a_t, .inr (6, [.ref a_t_text, .ref a_t_told, .ref a_t_draft, .ref a_t_now, .ref a_t_acts, .ref a_t_sightings, .ref a_t_sides, .ref a_t_kept, .int v_t_keptSlots, .long v_t_theSeed])), (a_t_acts, .inr (0, [.ref a_t_acts_kinds, .ref a_t_acts_numbers, .int v_t_acts_size])), (a_t_acts_kinds, .inl (cI, 14, .inl f_t_acts_kinds)), (a_t_acts_numbers, .inl (cI, 14, .inl f_t_acts_numbers)), (a_t_now, .inr (3, [.int v_t_now_place, .int u72_t_now_voided, .int v_t_now_counted]))] H := hP
        have hD : va_D A [(a_t, .inr (6, [.ref a_t_text, .ref a_t_told, .ref a_t_draft, .ref a_t_now, .ref a_t_acts, .ref a_t_sightings, .ref a_t_sides, .ref a_t_kept, .int v_t_keptSlots, .long v_t_theSeed])), (a_t_acts, .inr (0, [.ref a_t_acts_kinds, .ref a_t_acts_numbers, .int v_t_acts_size])), (a_t_acts_kinds, .inl (cI, 14, .inl f_t_acts_kinds)), (a_t_acts_numbers, .inl (cI, 14, .inl f_t_acts_numbers)), (a_t_now, .inr (3, [.int v_t_now_place, .int u72_t_now_voided, .int v_t_now_counted]))] := hD
        replace hf := hf.trans (ap1_g hc72)
        refine lv_goto (tgt := 86) hx hb dX6_undo_75 (by decide) ?_
        exact hJ_86 v_t_now_place u72_t_now_voided v_t_now_counted hf _ _ (hP.sub [0, 4, 1, 2, 3] rfl) (hD.sub [0, 4, 1, 2, 3] (by decide) rfl) hS _ (lv_sub hl [1] rfl)
      · replace hf := hf.trans (if_neg q_28_1)
        refine lv_lookup (off := 50) (tgt := 78) hx hb dX6_undo_28 (by decide) (by rw [lv_osw q_28_0 (by decide), lv_osw q_28_1 (by decide)]; rfl) (by decide) ?_
        refine lv_aload_n hx hb dX6_undo_78 rfl (lv_at hl 1 rfl) ?_
        refine va_get (D := D) (ci := 6) (v := .ref a_t_now) (C := RX6) (T := TX6) (N := 10) hx hb hts hwX6 hown hK hP 0 rfl rfl 3 (by decide) (hts (.fieldLink RX6 29 "SkippedDay" "now" "LSkippedDay$Standing;") (by decide +kernel)) (fun _ h9 => h9) rfl dX6_undo_79 ?_
        refine lv_iload_n hx hb dX6_undo_82 rfl (lv_at hl 0 rfl) ?_
        refine callMv (As := [.int (f_X0_lastNumber v_t_acts_size f_t_acts_numbers)]) (rest := []) (wr := [(a_t, .inr (6, [.ref a_t_text, .ref a_t_told, .ref a_t_draft, .ref a_t_now, .ref a_t_acts, .ref a_t_sightings, .ref a_t_sides, .ref a_t_kept, .int v_t_keptSlots, .long v_t_theSeed])), (a_t_acts, .inr (0, [.ref a_t_acts_kinds, .ref a_t_acts_numbers, .int v_t_acts_size])), (a_t_acts_kinds, .inl (cI, 14, .inl f_t_acts_kinds)), (a_t_acts_numbers, .inl (cI, 14, .inl f_t_acts_numbers))]) ⟨hx, hb, hml, hown, hts⟩ (c_X3_turnReading l D cI cZ cO a_t_now v_t_now_place v_t_now_voided v_t_now_counted (f_X0_lastNumber v_t_acts_size f_t_acts_numbers) s.heap.size) (cwV 1 hts gX6_undo_X3_turnReading rfl rfl rfl (by decide +kernel) ⟨Nat.le_of_ble_eq_true rfl, Nat.le_of_ble_eq_true rfl⟩) hKX hP hD hS hA [1] [0, 2, 3, 4] rfl rfl (by decide) (by decide) (by decide) 1 3 rfl rfl rfl rfl hl.1 rfl (Nat.le_of_ble_eq_true rfl) dX6_undo_83 ⟨Nat.le_of_ble_eq_true rfl, Nat.le_of_ble_eq_true rfl⟩ (fun u H locs hc83 hP hD hS => ?_)
        obtain ⟨u83_t_now_counted, rfl⟩ : ∃ z, z = u := ⟨_, rfl⟩
        have hP : va_P D vwCl [(a_t, .inr (6, [.ref a_t_text, .ref a_t_told, .ref a_t_draft, .ref a_t_now, .ref a_t_acts, .ref a_t_sightings, .ref a_t_sides, .ref a_t_kept, .int v_t_keptSlots, .long v_t_theSeed])), (a_t_acts, .inr (0, [.ref a_t_acts_kinds, .ref a_t_acts_numbers, .int v_t_acts_size])), (a_t_acts_kinds, .inl (cI, 14, .inl f_t_acts_kinds)), (a_t_acts_numbers, .inl (cI, 14, .inl f_t_acts_numbers)), (a_t_now, .inr (3, [.int v_t_now_place, .int v_t_now_voided, .int u83_t_now_counted]))] H := hP
        have hD : va_D A [(a_t, .inr (6, [.ref a_t_text, .ref a_t_told, .ref a_t_draft, .ref a_t_now, .ref a_t_acts, .ref a_t_sightings, .ref a_t_sides, .ref a_t_kept, .int v_t_keptSlots, .long v_t_theSeed])), (a_t_acts, .inr (0, [.ref a_t_acts_kinds, .ref a_t_acts_numbers, .int v_t_acts_size])), (a_t_acts_kinds, .inl (cI, 14, .inl f_t_acts_kinds)), (a_t_acts_numbers, .inl (cI, 14, .inl f_t_acts_numbers)), (a_t_now, .inr (3, [.int v_t_now_place, .int v_t_now_voided, .int u83_t_now_counted]))] := hD
        replace hf := hf.trans (ap1_g hc83)
        exact hJ_86 v_t_now_place v_t_now_voided u83_t_now_counted hf _ _ (hP.sub [0, 4, 1, 2, 3] rfl) (hD.sub [0, 4, 1, 2, 3] (by decide) rfl) hS _ (lv_sub hl [1] rfl)
  · replace hf := hf.trans (if_neg (fun h9 => h9 c_7))
    refine lv_bipush (v := (-3)) hx hb dX6_undo_10 (by decide) ?_
    exact W.iret (v := (-3)) hx hb hr (fun t ht hW => ⟨⟨(-3), (v_t_now_place, v_t_now_voided, v_t_now_counted, v_t_acts_size), rfl, ⟨hf.symm, (s_X6_undo_13 v_t_acts_size hp0 hp1 c_7), (s_X6_undo_14 v_t_acts_size hp0 hp1 c_7)⟩, by rw [ht]; exact hP.sub [0, 1, 2, 3, 4] rfl, hD.sub [0, 1, 2, 3, 4] (by decide) rfl⟩, hS.F ht⟩) hS.2.2 dX6_undo_12

def f_X6_broken (f_t_told_sizes : Nat → Int32) (f_t_told_cells : Nat → Int32) (v_t_now_voided : Int32) (v_t_now_counted : Int32) (x1 : Int32) : Int32 :=
  if (f_X6_isPlace x1) = 0 then (-2) else f_X6_brokenAt f_t_told_sizes f_t_told_cells v_t_now_voided v_t_now_counted x1
set_option maxHeartbeats 4000000 in
set_option maxRecDepth 100000 in
theorem c_X6_broken (l : Launch) (D : va_G) (cI cZ cO : ClassId) (a_t : Nat) (a_t_text : Nat) (a_t_told : Nat) (a_t_draft : Nat) (a_t_now : Nat) (a_t_acts : Nat) (a_t_sightings : Nat) (a_t_sides : Nat) (a_t_kept : Nat) (v_t_keptSlots : Int32) (v_t_theSeed : Int64) (a_t_told_sizes : Nat) (a_t_told_cells : Nat) (f_t_told_sizes : Nat → Int32) (f_t_told_cells : Nat → Int32) (v_t_now_place : Int32) (v_t_now_voided : Int32) (v_t_now_counted : Int32) (x1 : Int32) : Met l yX6_broken wsX6_broken ({ frames := 6, cells := 0, slots := 0, locals := 138 }) (PcP D (tysG cI cZ cO) [.ref a_t, .int x1] [(a_t, .inr (6, [.ref a_t_text, .ref a_t_told, .ref a_t_draft, .ref a_t_now, .ref a_t_acts, .ref a_t_sightings, .ref a_t_sides, .ref a_t_kept, .int v_t_keptSlots, .long v_t_theSeed])), (a_t_told, .inr (5, [.ref a_t_told_sizes, .ref a_t_told_cells])), (a_t_told_sizes, .inl (cI, 4, .inl f_t_told_sizes)), (a_t_told_cells, .inl (cI, 120, .inl f_t_told_cells)), (a_t_now, .inr (3, [.int v_t_now_place, .int v_t_now_voided, .int v_t_now_counted]))]) (QP (.int (f_X6_broken f_t_told_sizes f_t_told_cells v_t_now_voided v_t_now_counted x1))) 0 0 (fun _ => False) := by
  refine Met.ofW (cc := cX6_broken) (maxL := 2) (ret := (some .int)) (by decide) rfl ?_
  intro p e s m args below meth c s₁ B hml hv
  obtain ⟨rfl, hP, hKX⟩ := hv
  have hx := B.exec
  have hb := B.bytes
  have hr := B.returns
  have hts := atoms_spec (ws := wsX6_broken) B.pre
  have hown : s.vm.findClass RX6 = some m.cls := findClass_of_methodNamed B.named
  have hlocks := B.notSynchronized
  have hK := hKX.1
  have hl := lv_entry ([.ref a_t, .int x1]) (n := 2) (Nat.le_of_ble_eq_true rfl)
  rw [lg_entry_eq]
  generalize (lg_sl ([.ref a_t, .int x1]) ++ List.replicate (2 - (lg_sl ([.ref a_t, .int x1])).length) Slot.unset).toArray = ls at hl ⊢
  have hl : lv_has ls 2 [(0, .ref a_t), (1, .int x1)] := hl
  have hf := f_X6_broken.eq_1 f_t_told_sizes f_t_told_cells v_t_now_voided v_t_now_counted x1
  refine lv_iload_n hx hb dX6_broken_0 rfl (lv_at hl 1 rfl) ?_
  refine pcS (As := [.int x1]) (rest := []) ⟨hx, hb, hml, hown, hts⟩ (c_X6_isPlace l D cI cZ cO x1) (va_cwS 1 hts gX6_broken_X6_isPlace rfl rfl rfl (by decide +kernel) ⟨Nat.le_of_ble_eq_true rfl, Nat.le_of_ble_eq_true rfl⟩) hKX hP [] rfl rfl hl.1 rfl (Nat.le_of_ble_eq_true rfl) dX6_broken_1 ⟨Nat.le_of_ble_eq_true rfl, Nat.le_of_ble_eq_true rfl⟩ ?_
  refine lv_if_eq (tgt := 15) hx hb dX6_broken_4 (by decide) (fun c_4 => ?_) (fun c_4 => ?_)
  · replace hf := hf.trans (if_pos c_4)
    refine lv_bipush (v := (-2)) hx hb dX6_broken_15 (by decide) ?_
    exact W.iret (v := (-2)) hx hb hr (fun t ht hW => ⟨congrArg (fun z => Outcome.returned (some (Value.int z))) hf.symm, ht⟩) (fun _ h => absurd h List.not_mem_nil) dX6_broken_17
  · replace hf := hf.trans (if_neg c_4)
    refine lv_aload_n hx hb dX6_broken_7 rfl (lv_at hl 0 rfl) ?_
    refine lv_iload_n hx hb dX6_broken_8 rfl (lv_at hl 1 rfl) ?_
    refine pcV (As := [.int x1]) (rest := []) ⟨hx, hb, hml, hown, hts⟩ (c_X6_brokenAt l D cI cZ cO a_t a_t_text a_t_told a_t_draft a_t_now a_t_acts a_t_sightings a_t_sides a_t_kept v_t_keptSlots v_t_theSeed a_t_told_sizes a_t_told_cells f_t_told_sizes f_t_told_cells v_t_now_place v_t_now_voided v_t_now_counted x1) (cwV 1 hts gX6_broken_X6_brokenAt rfl rfl rfl (by decide +kernel) ⟨Nat.le_of_ble_eq_true rfl, Nat.le_of_ble_eq_true rfl⟩) hKX hP [0, 1, 2, 3, 4] rfl 0 6 rfl rfl rfl rfl hl.1 rfl (Nat.le_of_ble_eq_true rfl) dX6_broken_9 ⟨Nat.le_of_ble_eq_true rfl, Nat.le_of_ble_eq_true rfl⟩ ?_
    refine lv_goto (tgt := 17) hx hb dX6_broken_12 (by decide) ?_
    exact W.iret (v := f_X6_brokenAt f_t_told_sizes f_t_told_cells v_t_now_voided v_t_now_counted x1) hx hb hr (fun t ht hW => ⟨congrArg (fun z => Outcome.returned (some (Value.int z))) hf.symm, ht⟩) (fun _ h => absurd h List.not_mem_nil) dX6_broken_17

def f_X6_areBits (x0 : Int32) (x1 : Int32) : Int32 :=
  if x0 < 0 then 0 else if ¬ (x0 >>> (x1 &&& 31)) = 0 then 0 else 1
set_option maxHeartbeats 4000000 in
set_option maxRecDepth 100000 in
theorem c_X6_areBits (l : Launch) (D : va_G) (cI cZ cO : ClassId) (x0 : Int32) (x1 : Int32) : Met l yX6_areBits wsX6_areBits ({ frames := 0, cells := 0, slots := 0, locals := 0 }) (PcP D (tysG cI cZ cO) [.int x0, .int x1] []) (QP (.int (f_X6_areBits x0 x1))) 0 0 (fun _ => False) := by
  refine Met.ofW (cc := cX6_areBits) (maxL := 2) (ret := (some .boolean)) (by decide) rfl ?_
  intro p e s m args below meth c s₁ B hml hv
  obtain ⟨rfl, hP, hKX⟩ := hv
  have hx := B.exec
  have hb := B.bytes
  have hr := B.returns
  have hts := atoms_spec (ws := wsX6_areBits) B.pre
  have hown : s.vm.findClass RX6 = some m.cls := findClass_of_methodNamed B.named
  have hlocks := B.notSynchronized
  have hK := hKX.1
  have hl := lv_entry ([.int x0, .int x1]) (n := 2) (Nat.le_of_ble_eq_true rfl)
  rw [lg_entry_eq]
  generalize (lg_sl ([.int x0, .int x1]) ++ List.replicate (2 - (lg_sl ([.int x0, .int x1])).length) Slot.unset).toArray = ls at hl ⊢
  have hl : lv_has ls 2 [(0, .int x0), (1, .int x1)] := hl
  have hf := f_X6_areBits.eq_1 x0 x1
  refine lv_iload_n hx hb dX6_areBits_0 rfl (lv_at hl 0 rfl) ?_
  refine lv_if_lt (tgt := 14) hx hb dX6_areBits_1 (by decide) (fun c_1 => ?_) (fun c_1 => ?_)
  · replace hf := hf.trans (if_pos c_1)
    refine lv_iconst (v := 0) hx hb dX6_areBits_14 (by decide) ?_
    exact W.zret (ty := .boolean) (v := 0) hx hb hr rfl (fun t ht hW => ⟨congrArg (fun z => Outcome.returned (some (Value.int z))) hf.symm, ht⟩) (fun _ h => absurd h List.not_mem_nil) dX6_areBits_15
  · replace hf := hf.trans (if_neg c_1)
    refine lv_iload_n hx hb dX6_areBits_4 rfl (lv_at hl 0 rfl) ?_
    refine lv_iload_n hx hb dX6_areBits_5 rfl (lv_at hl 1 rfl) ?_
    refine lv_ishr hx hb dX6_areBits_6 ?_
    refine lv_if_ne (tgt := 14) hx hb dX6_areBits_7 (by decide) (fun c_7 => ?_) (fun c_7 => ?_)
    · replace hf := hf.trans (if_pos c_7)
      refine lv_iconst (v := 0) hx hb dX6_areBits_14 (by decide) ?_
      exact W.zret (ty := .boolean) (v := 0) hx hb hr rfl (fun t ht hW => ⟨congrArg (fun z => Outcome.returned (some (Value.int z))) hf.symm, ht⟩) (fun _ h => absurd h List.not_mem_nil) dX6_areBits_15
    · replace hf := hf.trans (if_neg (fun h9 => h9 c_7))
      refine lv_iconst (v := 1) hx hb dX6_areBits_10 (by decide) ?_
      refine lv_goto (tgt := 15) hx hb dX6_areBits_11 (by decide) ?_
      exact W.zret (ty := .boolean) (v := 1) hx hb hr rfl (fun t ht hW => ⟨congrArg (fun z => Outcome.returned (some (Value.int z))) hf.symm, ht⟩) (fun _ h => absurd h List.not_mem_nil) dX6_areBits_15

def f_X6_isZeroOrOne (x0 : Int32) : Int32 :=
  if x0 = 0 then 1 else if ¬ x0 = 1 then 0 else 1
set_option maxHeartbeats 4000000 in
set_option maxRecDepth 100000 in
theorem c_X6_isZeroOrOne (l : Launch) (D : va_G) (cI cZ cO : ClassId) (x0 : Int32) : Met l yX6_isZeroOrOne wsX6_isZeroOrOne ({ frames := 0, cells := 0, slots := 0, locals := 0 }) (PcP D (tysG cI cZ cO) [.int x0] []) (QP (.int (f_X6_isZeroOrOne x0))) 0 0 (fun _ => False) := by
  refine Met.ofW (cc := cX6_isZeroOrOne) (maxL := 1) (ret := (some .boolean)) (by decide) rfl ?_
  intro p e s m args below meth c s₁ B hml hv
  obtain ⟨rfl, hP, hKX⟩ := hv
  have hx := B.exec
  have hb := B.bytes
  have hr := B.returns
  have hts := atoms_spec (ws := wsX6_isZeroOrOne) B.pre
  have hown : s.vm.findClass RX6 = some m.cls := findClass_of_methodNamed B.named
  have hlocks := B.notSynchronized
  have hK := hKX.1
  have hl := lv_entry ([.int x0]) (n := 1) (Nat.le_of_ble_eq_true rfl)
  rw [lg_entry_eq]
  generalize (lg_sl ([.int x0]) ++ List.replicate (1 - (lg_sl ([.int x0])).length) Slot.unset).toArray = ls at hl ⊢
  have hl : lv_has ls 1 [(0, .int x0)] := hl
  have hf := f_X6_isZeroOrOne.eq_1 x0
  refine lv_iload_n hx hb dX6_isZeroOrOne_0 rfl (lv_at hl 0 rfl) ?_
  refine lv_if_eq (tgt := 9) hx hb dX6_isZeroOrOne_1 (by decide) (fun c_1 => ?_) (fun c_1 => ?_)
  · replace hf := hf.trans (if_pos c_1)
    refine lv_iconst (v := 1) hx hb dX6_isZeroOrOne_9 (by decide) ?_
    refine lv_goto (tgt := 14) hx hb dX6_isZeroOrOne_10 (by decide) ?_
    exact W.zret (ty := .boolean) (v := 1) hx hb hr rfl (fun t ht hW => ⟨congrArg (fun z => Outcome.returned (some (Value.int z))) hf.symm, ht⟩) (fun _ h => absurd h List.not_mem_nil) dX6_isZeroOrOne_14
  · replace hf := hf.trans (if_neg c_1)
    refine lv_iload_n hx hb dX6_isZeroOrOne_4 rfl (lv_at hl 0 rfl) ?_
    refine lv_iconst (v := 1) hx hb dX6_isZeroOrOne_5 (by decide) ?_
    refine lv_icmp_ne (tgt := 13) hx hb dX6_isZeroOrOne_6 (by decide) (fun c_6 => ?_) (fun c_6 => ?_)
    · replace hf := hf.trans (if_pos c_6)
      refine lv_iconst (v := 0) hx hb dX6_isZeroOrOne_13 (by decide) ?_
      exact W.zret (ty := .boolean) (v := 0) hx hb hr rfl (fun t ht hW => ⟨congrArg (fun z => Outcome.returned (some (Value.int z))) hf.symm, ht⟩) (fun _ h => absurd h List.not_mem_nil) dX6_isZeroOrOne_14
    · replace hf := hf.trans (if_neg (fun h9 => h9 c_6))
      refine lv_iconst (v := 1) hx hb dX6_isZeroOrOne_9 (by decide) ?_
      refine lv_goto (tgt := 14) hx hb dX6_isZeroOrOne_10 (by decide) ?_
      exact W.zret (ty := .boolean) (v := 1) hx hb hr rfl (fun t ht hW => ⟨congrArg (fun z => Outcome.returned (some (Value.int z))) hf.symm, ht⟩) (fun _ h => absurd h List.not_mem_nil) dX6_isZeroOrOne_14

def f_X6_best_j84 (x35_5 : Int32) (k35 : Int32 → Int32 → Int32 → Int32) (x84_3 : Int32) (x84_4 : Int32) : Int32 :=
  k35 x84_3 x84_4 (x35_5 + 1)
def f_X6_best_j77 (f_t_told_sizes : Nat → Int32) (f_t_told_cells : Nat → Int32) (v_t_now_voided : Int32) (v_t_now_counted : Int32) (x35_5 : Int32) (k35 : Int32 → Int32 → Int32 → Int32) : Int32 :=
  f_X6_best_j84 x35_5 k35 x35_5 (f_J6_bitCount_0f7a4 (f_X6_brokenAt f_t_told_sizes f_t_told_cells v_t_now_voided v_t_now_counted x35_5))
def f_X6_best_b35 (f_t_told_sizes : Nat → Int32) (f_t_told_cells : Nat → Int32) (v_t_now_voided : Int32) (v_t_now_counted : Int32) (x1 : Int32) (x2 : Int32) (k35 : Int32 → Int32 → Int32 → Int32) (x35_3 : Int32) (x35_4 : Int32) (x35_5 : Int32) : Int32 :=
  if 14 ≤ x35_5 then if ¬ x2 = 0 then x35_4 else x35_3 else if ¬ ((f_X6_brokenAt f_t_told_sizes f_t_told_cells v_t_now_voided v_t_now_counted x35_5) &&& x1) = 0 then f_X6_best_j84 x35_5 k35 x35_3 x35_4 else if x35_3 = ((-9)) then f_X6_best_j77 f_t_told_sizes f_t_told_cells v_t_now_voided v_t_now_counted x35_5 k35 else if x35_4 ≤ (f_J6_bitCount_0f7a4 (f_X6_brokenAt f_t_told_sizes f_t_told_cells v_t_now_voided v_t_now_counted x35_5)) then f_X6_best_j84 x35_5 k35 x35_3 x35_4 else f_X6_best_j77 f_t_told_sizes f_t_told_cells v_t_now_voided v_t_now_counted x35_5 k35
def f_X6_best (f_t_told_sizes : Nat → Int32) (f_t_told_cells : Nat → Int32) (v_t_now_voided : Int32) (v_t_now_counted : Int32) (x1 : Int32) (x2 : Int32) : Int32 :=
  if (f_X6_areBits x1 (f_X5_sizeOf f_t_told_sizes 0)) = 0 then (-2) else if ¬ (f_X6_isZeroOrOne x2) = 0 then it3 (f_X6_best_b35 f_t_told_sizes f_t_told_cells v_t_now_voided v_t_now_counted x1 x2) default (((14 : Int32).toInt - (0 : Int32).toInt).toNat + 1) ((-9)) ((-9)) 0 else (-2)
/- inv0@87>35 -/ theorem s_X6_best_1 (x35_5 : Int32) (hi35_0 : 0 ≤ x35_5) (c_39 : ¬ 14 ≤ x35_5) : 0 ≤ (x35_5 + 1) := by grind
/- inv0@33>35 -/ theorem s_X6_best_2  : 0 ≤ (0 : Int32) := by grind
set_option maxHeartbeats 4000000 in
set_option maxRecDepth 100000 in
theorem c_X6_best (l : Launch) (D : va_G) (cI cZ cO : ClassId) (a_t : Nat) (a_t_text : Nat) (a_t_told : Nat) (a_t_draft : Nat) (a_t_now : Nat) (a_t_acts : Nat) (a_t_sightings : Nat) (a_t_sides : Nat) (a_t_kept : Nat) (v_t_keptSlots : Int32) (v_t_theSeed : Int64) (a_t_told_sizes : Nat) (a_t_told_cells : Nat) (f_t_told_sizes : Nat → Int32) (f_t_told_cells : Nat → Int32) (v_t_now_place : Int32) (v_t_now_voided : Int32) (v_t_now_counted : Int32) (x1 : Int32) (x2 : Int32) : Met l yX6_best wsX6_best ({ frames := 6, cells := 0, slots := 0, locals := 138 }) (PcP D (tysG cI cZ cO) [.ref a_t, .int x1, .int x2] [(a_t, .inr (6, [.ref a_t_text, .ref a_t_told, .ref a_t_draft, .ref a_t_now, .ref a_t_acts, .ref a_t_sightings, .ref a_t_sides, .ref a_t_kept, .int v_t_keptSlots, .long v_t_theSeed])), (a_t_told, .inr (5, [.ref a_t_told_sizes, .ref a_t_told_cells])), (a_t_told_sizes, .inl (cI, 4, .inl f_t_told_sizes)), (a_t_told_cells, .inl (cI, 120, .inl f_t_told_cells)), (a_t_now, .inr (3, [.int v_t_now_place, .int v_t_now_voided, .int v_t_now_counted]))]) (QP (.int (f_X6_best f_t_told_sizes f_t_told_cells v_t_now_voided v_t_now_counted x1 x2))) 0 0 (fun _ => False) := by
  refine Met.ofW (cc := cX6_best) (maxL := 8) (ret := (some .int)) (by decide) rfl ?_
  intro p e s m args below meth c s₁ B hml hv
  obtain ⟨rfl, hP, hKX⟩ := hv
  have hx := B.exec
  have hb := B.bytes
  have hr := B.returns
  have hts := atoms_spec (ws := wsX6_best) B.pre
  have hown : s.vm.findClass RX6 = some m.cls := findClass_of_methodNamed B.named
  have hlocks := B.notSynchronized
  have hK := hKX.1
  have hwX6 : ∀ w ∈ wsX60, w ∈ wsX6_best := by decide +kernel
  have hl := lv_entry ([.ref a_t, .int x1, .int x2]) (n := 8) (Nat.le_of_ble_eq_true rfl)
  rw [lg_entry_eq]
  generalize (lg_sl ([.ref a_t, .int x1, .int x2]) ++ List.replicate (8 - (lg_sl ([.ref a_t, .int x1, .int x2])).length) Slot.unset).toArray = ls at hl ⊢
  have hl : lv_has ls 8 [(0, .ref a_t), (1, .int x1), (2, .int x2)] := hl
  have hf := f_X6_best.eq_1 f_t_told_sizes f_t_told_cells v_t_now_voided v_t_now_counted x1 x2
  refine lv_iload_n hx hb dX6_best_0 rfl (lv_at hl 1 rfl) ?_
  refine lv_aload_n hx hb dX6_best_1 rfl (lv_at hl 0 rfl) ?_
  refine va_get (D := D) (ci := 6) (v := .ref a_t_told) (C := RX6) (T := TX6) (N := 10) hx hb hts hwX6 hown hK hP 0 rfl rfl 1 (by decide) (hts (.fieldLink RX6 19 "SkippedDay" "told" "LSkippedDay$Told;") (by decide +kernel)) (fun _ h9 => h9) rfl dX6_best_2 ?_
  refine lv_iconst (v := 0) hx hb dX6_best_5 (by decide) ?_
  refine pcV (As := [.int 0]) (rest := [.int x1]) ⟨hx, hb, hml, hown, hts⟩ (c_X5_sizeOf l D cI cZ cO a_t_told a_t_told_sizes a_t_told_cells f_t_told_sizes 0) (cwV 1 hts gX6_best_X5_sizeOf rfl rfl rfl (by decide +kernel) ⟨Nat.le_of_ble_eq_true rfl, Nat.le_of_ble_eq_true rfl⟩) hKX hP [1, 2] rfl 1 5 rfl rfl rfl rfl hl.1 rfl (Nat.le_of_ble_eq_true rfl) dX6_best_6 ⟨Nat.le_of_ble_eq_true rfl, Nat.le_of_ble_eq_true rfl⟩ ?_
  refine pcS (As := [.int x1, .int (f_X5_sizeOf f_t_told_sizes 0)]) (rest := []) ⟨hx, hb, hml, hown, hts⟩ (c_X6_areBits l D cI cZ cO x1 (f_X5_sizeOf f_t_told_sizes 0)) (va_cwS 2 hts gX6_best_X6_areBits rfl rfl rfl (by decide +kernel) ⟨Nat.le_of_ble_eq_true rfl, Nat.le_of_ble_eq_true rfl⟩) hKX hP [] rfl rfl hl.1 rfl (Nat.le_of_ble_eq_true rfl) dX6_best_9 ⟨Nat.le_of_ble_eq_true rfl, Nat.le_of_ble_eq_true rfl⟩ ?_
  refine lv_if_eq (tgt := 22) hx hb dX6_best_12 (by decide) (fun c_12 => ?_) (fun c_12 => ?_)
  · replace hf := hf.trans (if_pos c_12)
    refine lv_bipush (v := (-2)) hx hb dX6_best_22 (by decide) ?_
    exact W.iret (v := (-2)) hx hb hr (fun t ht hW => ⟨congrArg (fun z => Outcome.returned (some (Value.int z))) hf.symm, ht⟩) (fun _ h => absurd h List.not_mem_nil) dX6_best_24
  · replace hf := hf.trans (if_neg c_12)
    refine lv_iload_n hx hb dX6_best_15 rfl (lv_at hl 2 rfl) ?_
    refine pcS (As := [.int x2]) (rest := []) ⟨hx, hb, hml, hown, hts⟩ (c_X6_isZeroOrOne l D cI cZ cO x2) (va_cwS 1 hts gX6_best_X6_isZeroOrOne rfl rfl rfl (by decide +kernel) ⟨Nat.le_of_ble_eq_true rfl, Nat.le_of_ble_eq_true rfl⟩) hKX hP [] rfl rfl hl.1 rfl (Nat.le_of_ble_eq_true rfl) dX6_best_16 ⟨Nat.le_of_ble_eq_true rfl, Nat.le_of_ble_eq_true rfl⟩ ?_
    refine lv_if_ne (tgt := 25) hx hb dX6_best_19 (by decide) (fun c_19 => ?_) (fun c_19 => ?_)
    · replace hf := hf.trans (if_pos c_19)
      refine lv_bipush (v := (-9)) hx hb dX6_best_25 (by decide) ?_
      refine lv_istore_n (lv' := [(3, .int ((-9))), (0, .ref a_t), (1, .int x1), (2, .int x2)]) hx hb dX6_best_27 rfl hl (by decide) rfl (fun ls hl => ?_)
      refine lv_bipush (v := (-9)) hx hb dX6_best_28 (by decide) ?_
      refine lv_istore (lv' := [(4, .int ((-9))), (3, .int ((-9))), (0, .ref a_t), (1, .int x1), (2, .int x2)]) hx hb dX6_best_30 hl (by decide) rfl (fun ls hl => ?_)
      refine lv_iconst (v := 0) hx hb dX6_best_32 (by decide) ?_
      refine lv_istore (lv' := [(5, .int 0), (4, .int ((-9))), (3, .int ((-9))), (0, .ref a_t), (1, .int x1), (2, .int x2)]) hx hb dX6_best_33 hl (by decide) rfl (fun ls hl => ?_)
      have hJ_35 : ∀ (n35 : Nat) (x35_3 : Int32) (x35_4 : Int32) (x35_5 : Int32), f_X6_best f_t_told_sizes f_t_told_cells v_t_now_voided v_t_now_counted x1 x2 = it3 (f_X6_best_b35 f_t_told_sizes f_t_told_cells v_t_now_voided v_t_now_counted x1 x2) default n35 x35_3 x35_4 x35_5 → ((14 : Int32).toInt - x35_5.toInt).toNat < n35 → (0 ≤ x35_5) → ∀ (ls : Array Slot), lv_has ls 8 [(0, .ref a_t), (1, .int x1), (2, .int x2), (3, .int x35_3), (4, .int x35_4), (5, .int x35_5)] → W p l e (headSpec wsX6_best { frames := 6, cells := 0, slots := 0, locals := 138 }).room s m [.ref a_t, .int x1, .int x2].toArray below meth c s.heap [] 0 0 (MQ below (QP (.int (f_X6_best f_t_told_sizes f_t_told_cells v_t_now_voided v_t_now_counted x1 x2))) [.ref a_t, .int x1, .int x2].toArray s 0 0 (fun _ => False)) (F0 m 35 ls []) := by
        intro n35
        induction n35 with
        | zero => intro x35_3 x35_4 x35_5 hf hm35; exact absurd hm35 (Nat.not_lt_zero _)
        | succ n35 ih35 =>
          intro x35_3 x35_4 x35_5 hf hm35 hi35_0 ls hl
          replace hf := (hf.trans (it3_s _ _ _ _ _ _)).trans (f_X6_best_b35.eq_1 _ _ _ _ _ _ _ _ _ _)
          refine lv_iload hx hb dX6_best_35 (lv_at hl 5 rfl) ?_
          refine lv_bipush (v := 14) hx hb dX6_best_37 (by decide) ?_
          refine lv_icmp_ge (tgt := 90) hx hb dX6_best_39 (by decide) (fun c_39 => ?_) (fun c_39 => ?_)
          · replace hf := hf.trans (if_pos c_39)
            refine lv_iload_n hx hb dX6_best_90 rfl (lv_at hl 2 rfl) ?_
            refine lv_if_ne (tgt := 98) hx hb dX6_best_91 (by decide) (fun c_91 => ?_) (fun c_91 => ?_)
            · replace hf := hf.trans (if_pos c_91)
              refine lv_iload hx hb dX6_best_98 (lv_at hl 4 rfl) ?_
              exact W.iret (v := x35_4) hx hb hr (fun t ht hW => ⟨congrArg (fun z => Outcome.returned (some (Value.int z))) hf.symm, ht⟩) (fun _ h => absurd h List.not_mem_nil) dX6_best_100
            · replace hf := hf.trans (if_neg (fun h9 => h9 c_91))
              refine lv_iload_n hx hb dX6_best_94 rfl (lv_at hl 3 rfl) ?_
              refine lv_goto (tgt := 100) hx hb dX6_best_95 (by decide) ?_
              exact W.iret (v := x35_3) hx hb hr (fun t ht hW => ⟨congrArg (fun z => Outcome.returned (some (Value.int z))) hf.symm, ht⟩) (fun _ h => absurd h List.not_mem_nil) dX6_best_100
          · replace hf := hf.trans (if_neg c_39)
            refine lv_aload_n hx hb dX6_best_42 rfl (lv_at hl 0 rfl) ?_
            refine lv_iload hx hb dX6_best_43 (lv_at hl 5 rfl) ?_
            refine pcV (As := [.int x35_5]) (rest := []) ⟨hx, hb, hml, hown, hts⟩ (c_X6_brokenAt l D cI cZ cO a_t a_t_text a_t_told a_t_draft a_t_now a_t_acts a_t_sightings a_t_sides a_t_kept v_t_keptSlots v_t_theSeed a_t_told_sizes a_t_told_cells f_t_told_sizes f_t_told_cells v_t_now_place v_t_now_voided v_t_now_counted x35_5) (cwV 1 hts gX6_best_X6_brokenAt rfl rfl rfl (by decide +kernel) ⟨Nat.le_of_ble_eq_true rfl, Nat.le_of_ble_eq_true rfl⟩) hKX hP [0, 1, 2, 3, 4] rfl 0 6 rfl rfl rfl rfl hl.1 rfl (Nat.le_of_ble_eq_true rfl) dX6_best_45 ⟨Nat.le_of_ble_eq_true rfl, Nat.le_of_ble_eq_true rfl⟩ ?_
            refine lv_istore (lv' := [(6, .int (f_X6_brokenAt f_t_told_sizes f_t_told_cells v_t_now_voided v_t_now_counted x35_5)), (0, .ref a_t), (1, .int x1), (2, .int x2), (3, .int x35_3), (4, .int x35_4), (5, .int x35_5)]) hx hb dX6_best_48 hl (by decide) rfl (fun ls hl => ?_)
            refine lv_iload hx hb dX6_best_50 (lv_at hl 0 rfl) ?_
            refine pcS (As := [.int (f_X6_brokenAt f_t_told_sizes f_t_told_cells v_t_now_voided v_t_now_counted x35_5)]) (rest := []) ⟨hx, hb, hml, hown, hts⟩ (c_J6_bitCount_0f7a4 l D cI cZ cO (f_X6_brokenAt f_t_told_sizes f_t_told_cells v_t_now_voided v_t_now_counted x35_5)) (va_cwS 1 hts gX6_best_J6_bitCount_0f7a4 rfl rfl rfl (by decide +kernel) ⟨Nat.le_of_ble_eq_true rfl, Nat.le_of_ble_eq_true rfl⟩) hKX hP [] rfl rfl hl.1 rfl (Nat.le_of_ble_eq_true rfl) dX6_best_52 ⟨Nat.le_of_ble_eq_true rfl, Nat.le_of_ble_eq_true rfl⟩ ?_
            refine lv_istore (lv' := [(7, .int (f_J6_bitCount_0f7a4 (f_X6_brokenAt f_t_told_sizes f_t_told_cells v_t_now_voided v_t_now_counted x35_5))), (6, .int (f_X6_brokenAt f_t_told_sizes f_t_told_cells v_t_now_voided v_t_now_counted x35_5)), (0, .ref a_t), (1, .int x1), (2, .int x2), (3, .int x35_3), (4, .int x35_4), (5, .int x35_5)]) hx hb dX6_best_55 hl (by decide) rfl (fun ls hl => ?_)
            refine lv_iload hx hb dX6_best_57 (lv_at hl 1 rfl) ?_
            refine lv_iload_n hx hb dX6_best_59 rfl (lv_at hl 3 rfl) ?_
            refine lv_iand hx hb dX6_best_60 ?_
            have hJ_84 : ∀ (x84_3 : Int32) (x84_4 : Int32), f_X6_best f_t_told_sizes f_t_told_cells v_t_now_voided v_t_now_counted x1 x2 = f_X6_best_j84 x35_5 ((it3 (f_X6_best_b35 f_t_told_sizes f_t_told_cells v_t_now_voided v_t_now_counted x1 x2) default n35)) x84_3 x84_4 → ∀ (ls : Array Slot), lv_has ls 8 [(0, .ref a_t), (1, .int x1), (2, .int x2), (3, .int x84_3), (4, .int x84_4), (5, .int x35_5)] → W p l e (headSpec wsX6_best { frames := 6, cells := 0, slots := 0, locals := 138 }).room s m [.ref a_t, .int x1, .int x2].toArray below meth c s.heap [] 0 0 (MQ below (QP (.int (f_X6_best f_t_told_sizes f_t_told_cells v_t_now_voided v_t_now_counted x1 x2))) [.ref a_t, .int x1, .int x2].toArray s 0 0 (fun _ => False)) (F0 m 84 ls []) := by
              intro x84_3 x84_4 hf ls hl
              replace hf := hf.trans (f_X6_best_j84.eq_1 _ _ _ _)
              refine lv_iinc (v := x35_5 + 1) (lv' := [(5, .int (x35_5 + 1)), (0, .ref a_t), (1, .int x1), (2, .int x2), (3, .int x84_3), (4, .int x84_4)]) hx hb dX6_best_84 hl (k := 5) rfl rfl (by decide) rfl (fun ls hl => ?_)
              refine lv_goto (tgt := 35) hx hb dX6_best_87 (by decide) ?_
              exact ih35 x84_3 x84_4 (x35_5 + 1) hf (mu_up c_39 hm35) (s_X6_best_1 x35_5 hi35_0 c_39) _ (lv_sub hl [1, 2, 3, 4, 5, 0] rfl)
            refine lv_if_ne (tgt := 84) hx hb dX6_best_61 (by decide) (fun c_61 => ?_) (fun c_61 => ?_)
            · replace hf := hf.trans (if_pos c_61)
              exact hJ_84 x35_3 x35_4 hf _ (lv_sub hl [2, 3, 4, 5, 6, 7] rfl)
            · replace hf := hf.trans (if_neg (fun h9 => h9 c_61))
              refine lv_iload_n hx hb dX6_best_64 rfl (lv_at hl 5 rfl) ?_
              refine lv_bipush (v := (-9)) hx hb dX6_best_65 (by decide) ?_
              have hJ_77 : f_X6_best f_t_told_sizes f_t_told_cells v_t_now_voided v_t_now_counted x1 x2 = f_X6_best_j77 f_t_told_sizes f_t_told_cells v_t_now_voided v_t_now_counted x35_5 ((it3 (f_X6_best_b35 f_t_told_sizes f_t_told_cells v_t_now_voided v_t_now_counted x1 x2) default n35)) → ∀ (ls : Array Slot), lv_has ls 8 [(0, .ref a_t), (1, .int x1), (2, .int x2), (5, .int x35_5), (7, .int (f_J6_bitCount_0f7a4 (f_X6_brokenAt f_t_told_sizes f_t_told_cells v_t_now_voided v_t_now_counted x35_5)))] → W p l e (headSpec wsX6_best { frames := 6, cells := 0, slots := 0, locals := 138 }).room s m [.ref a_t, .int x1, .int x2].toArray below meth c s.heap [] 0 0 (MQ below (QP (.int (f_X6_best f_t_told_sizes f_t_told_cells v_t_now_voided v_t_now_counted x1 x2))) [.ref a_t, .int x1, .int x2].toArray s 0 0 (fun _ => False)) (F0 m 77 ls []) := by
                intro hf ls hl
                replace hf := hf.trans (f_X6_best_j77.eq_1 _ _ _ _ _ _)
                refine lv_iload hx hb dX6_best_77 (lv_at hl 3 rfl) ?_
                refine lv_istore_n (lv' := [(3, .int x35_5), (0, .ref a_t), (1, .int x1), (2, .int x2), (5, .int x35_5), (7, .int (f_J6_bitCount_0f7a4 (f_X6_brokenAt f_t_told_sizes f_t_told_cells v_t_now_voided v_t_now_counted x35_5)))]) hx hb dX6_best_79 rfl hl (by decide) rfl (fun ls hl => ?_)
                refine lv_iload hx hb dX6_best_80 (lv_at hl 5 rfl) ?_
                refine lv_istore (lv' := [(4, .int (f_J6_bitCount_0f7a4 (f_X6_brokenAt f_t_told_sizes f_t_told_cells v_t_now_voided v_t_now_counted x35_5))), (3, .int x35_5), (0, .ref a_t), (1, .int x1), (2, .int x2), (5, .int x35_5), (7, .int (f_J6_bitCount_0f7a4 (f_X6_brokenAt f_t_told_sizes f_t_told_cells v_t_now_voided v_t_now_counted x35_5)))]) hx hb dX6_best_82 hl (by decide) rfl (fun ls hl => ?_)
                exact hJ_84 x35_5 (f_J6_bitCount_0f7a4 (f_X6_brokenAt f_t_told_sizes f_t_told_cells v_t_now_voided v_t_now_counted x35_5)) hf _ (lv_sub hl [2, 3, 4, 1, 0, 5] rfl)
              refine lv_icmp_eq (tgt := 77) hx hb dX6_best_67 (by decide) (fun c_67 => ?_) (fun c_67 => ?_)
              · replace hf := hf.trans (if_pos c_67)
                exact hJ_77 hf _ (lv_sub hl [2, 3, 4, 7, 0] rfl)
              · replace hf := hf.trans (if_neg c_67)
                refine lv_iload hx hb dX6_best_70 (lv_at hl 0 rfl) ?_
                refine lv_iload hx hb dX6_best_72 (lv_at hl 6 rfl) ?_
                refine lv_icmp_ge (tgt := 84) hx hb dX6_best_74 (by decide) (fun c_74 => ?_) (fun c_74 => ?_)
                · replace hf := hf.trans (if_pos c_74)
                  exact hJ_84 x35_3 x35_4 hf _ (lv_sub hl [2, 3, 4, 5, 6, 7] rfl)
                · replace hf := hf.trans (if_neg c_74)
                  exact hJ_77 hf _ (lv_sub hl [2, 3, 4, 7, 0] rfl)
      exact hJ_35 _ ((-9)) ((-9)) 0 hf (Nat.lt_succ_self _) s_X6_best_2 _ (lv_sub hl [3, 4, 5, 2, 1, 0] rfl)
    · replace hf := hf.trans (if_neg (fun h9 => h9 c_19))
      refine lv_bipush (v := (-2)) hx hb dX6_best_22 (by decide) ?_
      exact W.iret (v := (-2)) hx hb hr (fun t ht hW => ⟨congrArg (fun z => Outcome.returned (some (Value.int z))) hf.symm, ht⟩) (fun _ h => absurd h List.not_mem_nil) dX6_best_24

def f_X6_holdingPlaces_j36 (x4_3 : Int32) (k4 : Int32 → Int32 → Int32) (x36_2 : Int32) : Int32 :=
  k4 x36_2 (x4_3 + 1)
def f_X6_holdingPlaces_b4 (f_t_told_cells : Nat → Int32) (v_t_now_voided : Int32) (v_t_now_counted : Int32) (x1 : Int32) (k4 : Int32 → Int32 → Int32) (x4_2 : Int32) (x4_3 : Int32) : Int32 :=
  if 14 ≤ x4_3 then x4_2 else if ¬ (f_X3_isVoid v_t_now_voided x1) = 0 then f_X6_holdingPlaces_j36 x4_3 k4 x4_2 else if (f_X6_holdsAt f_t_told_cells v_t_now_counted x1 x4_3) = 0 then f_X6_holdingPlaces_j36 x4_3 k4 x4_2 else f_X6_holdingPlaces_j36 x4_3 k4 (x4_2 ||| (1 <<< (x4_3 &&& 31)))
def f_X6_holdingPlaces (f_t_told_cells : Nat → Int32) (v_t_now_voided : Int32) (v_t_now_counted : Int32) (x1 : Int32) : Int32 :=
  it2 (f_X6_holdingPlaces_b4 f_t_told_cells v_t_now_voided v_t_now_counted x1) default (((14 : Int32).toInt - (0 : Int32).toInt).toNat + 1) 0 0
/- inv0@39>4 -/ theorem s_X6_holdingPlaces_1 (x4_3 : Int32) (hi4_0 : 0 ≤ x4_3) (c_7 : ¬ 14 ≤ x4_3) : 0 ≤ (x4_3 + 1) := by grind
/- inv0@3>4 -/ theorem s_X6_holdingPlaces_2  : 0 ≤ (0 : Int32) := by grind
set_option maxHeartbeats 4000000 in
set_option maxRecDepth 100000 in
theorem c_X6_holdingPlaces (l : Launch) (D : va_G) (cI cZ cO : ClassId) (a_t : Nat) (a_t_text : Nat) (a_t_told : Nat) (a_t_draft : Nat) (a_t_now : Nat) (a_t_acts : Nat) (a_t_sightings : Nat) (a_t_sides : Nat) (a_t_kept : Nat) (v_t_keptSlots : Int32) (v_t_theSeed : Int64) (a_t_told_sizes : Nat) (a_t_told_cells : Nat) (f_t_told_cells : Nat → Int32) (v_t_now_place : Int32) (v_t_now_voided : Int32) (v_t_now_counted : Int32) (x1 : Int32) : Met l yX6_holdingPlaces wsX6_holdingPlaces ({ frames := 5, cells := 0, slots := 0, locals := 115 }) (PcP D (tysG cI cZ cO) [.ref a_t, .int x1] [(a_t, .inr (6, [.ref a_t_text, .ref a_t_told, .ref a_t_draft, .ref a_t_now, .ref a_t_acts, .ref a_t_sightings, .ref a_t_sides, .ref a_t_kept, .int v_t_keptSlots, .long v_t_theSeed])), (a_t_told, .inr (5, [.ref a_t_told_sizes, .ref a_t_told_cells])), (a_t_told_cells, .inl (cI, 120, .inl f_t_told_cells)), (a_t_now, .inr (3, [.int v_t_now_place, .int v_t_now_voided, .int v_t_now_counted]))]) (QP (.int (f_X6_holdingPlaces f_t_told_cells v_t_now_voided v_t_now_counted x1))) 0 0 (fun _ => False) := by
  refine Met.ofW (cc := cX6_holdingPlaces) (maxL := 4) (ret := (some .int)) (by decide) rfl ?_
  intro p e s m args below meth c s₁ B hml hv
  obtain ⟨rfl, hP, hKX⟩ := hv
  have hx := B.exec
  have hb := B.bytes
  have hr := B.returns
  have hts := atoms_spec (ws := wsX6_holdingPlaces) B.pre
  have hown : s.vm.findClass RX6 = some m.cls := findClass_of_methodNamed B.named
  have hlocks := B.notSynchronized
  have hK := hKX.1
  have hwX6 : ∀ w ∈ wsX60, w ∈ wsX6_holdingPlaces := by decide +kernel
  have hl := lv_entry ([.ref a_t, .int x1]) (n := 4) (Nat.le_of_ble_eq_true rfl)
  rw [lg_entry_eq]
  generalize (lg_sl ([.ref a_t, .int x1]) ++ List.replicate (4 - (lg_sl ([.ref a_t, .int x1])).length) Slot.unset).toArray = ls at hl ⊢
  have hl : lv_has ls 4 [(0, .ref a_t), (1, .int x1)] := hl
  have hf := f_X6_holdingPlaces.eq_1 f_t_told_cells v_t_now_voided v_t_now_counted x1
  refine lv_iconst (v := 0) hx hb dX6_holdingPlaces_0 (by decide) ?_
  refine lv_istore_n (lv' := [(2, .int 0), (0, .ref a_t), (1, .int x1)]) hx hb dX6_holdingPlaces_1 rfl hl (by decide) rfl (fun ls hl => ?_)
  refine lv_iconst (v := 0) hx hb dX6_holdingPlaces_2 (by decide) ?_
  refine lv_istore_n (lv' := [(3, .int 0), (2, .int 0), (0, .ref a_t), (1, .int x1)]) hx hb dX6_holdingPlaces_3 rfl hl (by decide) rfl (fun ls hl => ?_)
  have hJ_4 : ∀ (n4 : Nat) (x4_2 : Int32) (x4_3 : Int32), f_X6_holdingPlaces f_t_told_cells v_t_now_voided v_t_now_counted x1 = it2 (f_X6_holdingPlaces_b4 f_t_told_cells v_t_now_voided v_t_now_counted x1) default n4 x4_2 x4_3 → ((14 : Int32).toInt - x4_3.toInt).toNat < n4 → (0 ≤ x4_3) → ∀ (ls : Array Slot), lv_has ls 4 [(0, .ref a_t), (1, .int x1), (2, .int x4_2), (3, .int x4_3)] → W p l e (headSpec wsX6_holdingPlaces { frames := 5, cells := 0, slots := 0, locals := 115 }).room s m [.ref a_t, .int x1].toArray below meth c s.heap [] 0 0 (MQ below (QP (.int (f_X6_holdingPlaces f_t_told_cells v_t_now_voided v_t_now_counted x1))) [.ref a_t, .int x1].toArray s 0 0 (fun _ => False)) (F0 m 4 ls []) := by
    intro n4
    induction n4 with
    | zero => intro x4_2 x4_3 hf hm4; exact absurd hm4 (Nat.not_lt_zero _)
    | succ n4 ih4 =>
      intro x4_2 x4_3 hf hm4 hi4_0 ls hl
      replace hf := (hf.trans (it2_s _ _ _ _ _)).trans (f_X6_holdingPlaces_b4.eq_1 _ _ _ _ _ _ _)
      refine lv_iload_n hx hb dX6_holdingPlaces_4 rfl (lv_at hl 3 rfl) ?_
      refine lv_bipush (v := 14) hx hb dX6_holdingPlaces_5 (by decide) ?_
      refine lv_icmp_ge (tgt := 42) hx hb dX6_holdingPlaces_7 (by decide) (fun c_7 => ?_) (fun c_7 => ?_)
      · replace hf := hf.trans (if_pos c_7)
        refine lv_iload_n hx hb dX6_holdingPlaces_42 rfl (lv_at hl 2 rfl) ?_
        exact W.iret (v := x4_2) hx hb hr (fun t ht hW => ⟨congrArg (fun z => Outcome.returned (some (Value.int z))) hf.symm, ht⟩) (fun _ h => absurd h List.not_mem_nil) dX6_holdingPlaces_43
      · replace hf := hf.trans (if_neg c_7)
        refine lv_aload_n hx hb dX6_holdingPlaces_10 rfl (lv_at hl 0 rfl) ?_
        refine va_get (D := D) (ci := 6) (v := .ref a_t_now) (C := RX6) (T := TX6) (N := 10) hx hb hts hwX6 hown hK hP 0 rfl rfl 3 (by decide) (hts (.fieldLink RX6 29 "SkippedDay" "now" "LSkippedDay$Standing;") (by decide +kernel)) (fun _ h9 => h9) rfl dX6_holdingPlaces_11 ?_
        refine lv_iload_n hx hb dX6_holdingPlaces_14 rfl (lv_at hl 1 rfl) ?_
        refine pcV (As := [.int x1]) (rest := []) ⟨hx, hb, hml, hown, hts⟩ (c_X3_isVoid l D cI cZ cO a_t_now v_t_now_place v_t_now_voided v_t_now_counted x1) (cwV 1 hts gX6_holdingPlaces_X3_isVoid rfl rfl rfl (by decide +kernel) ⟨Nat.le_of_ble_eq_true rfl, Nat.le_of_ble_eq_true rfl⟩) hKX hP [3] rfl 3 3 rfl rfl rfl rfl hl.1 rfl (Nat.le_of_ble_eq_true rfl) dX6_holdingPlaces_15 ⟨Nat.le_of_ble_eq_true rfl, Nat.le_of_ble_eq_true rfl⟩ ?_
        have hJ_36 : ∀ (x36_2 : Int32), f_X6_holdingPlaces f_t_told_cells v_t_now_voided v_t_now_counted x1 = f_X6_holdingPlaces_j36 x4_3 ((it2 (f_X6_holdingPlaces_b4 f_t_told_cells v_t_now_voided v_t_now_counted x1) default n4)) x36_2 → ∀ (ls : Array Slot), lv_has ls 4 [(0, .ref a_t), (1, .int x1), (2, .int x36_2), (3, .int x4_3)] → W p l e (headSpec wsX6_holdingPlaces { frames := 5, cells := 0, slots := 0, locals := 115 }).room s m [.ref a_t, .int x1].toArray below meth c s.heap [] 0 0 (MQ below (QP (.int (f_X6_holdingPlaces f_t_told_cells v_t_now_voided v_t_now_counted x1))) [.ref a_t, .int x1].toArray s 0 0 (fun _ => False)) (F0 m 36 ls []) := by
          intro x36_2 hf ls hl
          replace hf := hf.trans (f_X6_holdingPlaces_j36.eq_1 _ _ _)
          refine lv_iinc (v := x4_3 + 1) (lv' := [(3, .int (x4_3 + 1)), (0, .ref a_t), (1, .int x1), (2, .int x36_2)]) hx hb dX6_holdingPlaces_36 hl (k := 3) rfl rfl (by decide) rfl (fun ls hl => ?_)
          refine lv_goto (tgt := 4) hx hb dX6_holdingPlaces_39 (by decide) ?_
          exact ih4 x36_2 (x4_3 + 1) hf (mu_up c_7 hm4) (s_X6_holdingPlaces_1 x4_3 hi4_0 c_7) _ (lv_sub hl [1, 2, 3, 0] rfl)
        refine lv_if_ne (tgt := 36) hx hb dX6_holdingPlaces_18 (by decide) (fun c_18 => ?_) (fun c_18 => ?_)
        · replace hf := hf.trans (if_pos c_18)
          exact hJ_36 x4_2 hf _ (lv_sub hl [0, 1, 2, 3] rfl)
        · replace hf := hf.trans (if_neg (fun h9 => h9 c_18))
          refine lv_aload_n hx hb dX6_holdingPlaces_21 rfl (lv_at hl 0 rfl) ?_
          refine lv_iload_n hx hb dX6_holdingPlaces_22 rfl (lv_at hl 1 rfl) ?_
          refine lv_iload_n hx hb dX6_holdingPlaces_23 rfl (lv_at hl 3 rfl) ?_
          refine pcV (As := [.int x1, .int x4_3]) (rest := []) ⟨hx, hb, hml, hown, hts⟩ (c_X6_holdsAt l D cI cZ cO a_t a_t_text a_t_told a_t_draft a_t_now a_t_acts a_t_sightings a_t_sides a_t_kept v_t_keptSlots v_t_theSeed a_t_told_sizes a_t_told_cells f_t_told_cells v_t_now_place v_t_now_voided v_t_now_counted x1 x4_3) (cwV 2 hts gX6_holdingPlaces_X6_holdsAt rfl rfl rfl (by decide +kernel) ⟨Nat.le_of_ble_eq_true rfl, Nat.le_of_ble_eq_true rfl⟩) hKX hP [0, 1, 2, 3] rfl 0 6 rfl rfl rfl rfl hl.1 rfl (Nat.le_of_ble_eq_true rfl) dX6_holdingPlaces_24 ⟨Nat.le_of_ble_eq_true rfl, Nat.le_of_ble_eq_true rfl⟩ ?_
          refine lv_if_eq (tgt := 36) hx hb dX6_holdingPlaces_27 (by decide) (fun c_27 => ?_) (fun c_27 => ?_)
          · replace hf := hf.trans (if_pos c_27)
            exact hJ_36 x4_2 hf _ (lv_sub hl [0, 1, 2, 3] rfl)
          · replace hf := hf.trans (if_neg c_27)
            refine lv_iload_n hx hb dX6_holdingPlaces_30 rfl (lv_at hl 2 rfl) ?_
            refine lv_iconst (v := 1) hx hb dX6_holdingPlaces_31 (by decide) ?_
            refine lv_iload_n hx hb dX6_holdingPlaces_32 rfl (lv_at hl 3 rfl) ?_
            refine lv_ishl hx hb dX6_holdingPlaces_33 ?_
            refine lv_ior hx hb dX6_holdingPlaces_34 ?_
            refine lv_istore_n (lv' := [(2, .int (x4_2 ||| (1 <<< (x4_3 &&& 31)))), (0, .ref a_t), (1, .int x1), (3, .int x4_3)]) hx hb dX6_holdingPlaces_35 rfl hl (by decide) rfl (fun ls hl => ?_)
            exact hJ_36 (x4_2 ||| (1 <<< (x4_3 &&& 31))) hf _ (lv_sub hl [1, 2, 0, 3] rfl)
  exact hJ_4 _ 0 0 hf (Nat.lt_succ_self _) s_X6_holdingPlaces_2 _ (lv_sub hl [2, 3, 1, 0] rfl)

def f_X6_quarrel_j65 (x27_4 : Int32) (k27 : Int32 → Int32) : Int32 :=
  k27 (x27_4 + 1)
def f_X6_quarrel_b27 (f_t_told_sizes : Nat → Int32) (f_t_told_cells : Nat → Int32) (v_t_now_voided : Int32) (v_t_now_counted : Int32) (x11_2 : Int32) (k11 : Int32 → Int32) (k27 : Int32 → Int32) (x27_4 : Int32) : Int32 :=
  if (f_X5_sizeOf f_t_told_sizes 0) ≤ x27_4 then k11 (x11_2 + 1) else if (f_X6_holdingPlaces f_t_told_cells v_t_now_voided v_t_now_counted x11_2) = 0 then f_X6_quarrel_j65 x27_4 k27 else if (f_X6_holdingPlaces f_t_told_cells v_t_now_voided v_t_now_counted x27_4) = 0 then f_X6_quarrel_j65 x27_4 k27 else if ¬ ((f_X6_holdingPlaces f_t_told_cells v_t_now_voided v_t_now_counted x11_2) &&& (f_X6_holdingPlaces f_t_told_cells v_t_now_voided v_t_now_counted x27_4)) = 0 then f_X6_quarrel_j65 x27_4 k27 else (10 * x11_2) + x27_4
def f_X6_quarrel_b11 (f_t_told_sizes : Nat → Int32) (f_t_told_cells : Nat → Int32) (v_t_now_voided : Int32) (v_t_now_counted : Int32) (k11 : Int32 → Int32) (x11_2 : Int32) : Int32 :=
  if (f_X5_sizeOf f_t_told_sizes 0) ≤ x11_2 then (-9) else it1 (f_X6_quarrel_b27 f_t_told_sizes f_t_told_cells v_t_now_voided v_t_now_counted x11_2 k11) default (((f_X5_sizeOf f_t_told_sizes 0).toInt - (x11_2 + 1).toInt).toNat + 1) (x11_2 + 1)
def f_X6_quarrel (f_t_told_sizes : Nat → Int32) (f_t_told_cells : Nat → Int32) (v_t_now_voided : Int32) (v_t_now_counted : Int32) : Int32 :=
  it1 (f_X6_quarrel_b11 f_t_told_sizes f_t_told_cells v_t_now_voided v_t_now_counted) default (((f_X5_sizeOf f_t_told_sizes 0).toInt - (0 : Int32).toInt).toNat + 1) 0
/- inv0@74>11 -/ theorem s_X6_quarrel_1 (f_t_told_sizes : Nat → Int32) (x11_2 : Int32) (x27_4 : Int32) (hi11_0 : 0 ≤ x11_2) (c_13 : ¬ (f_X5_sizeOf f_t_told_sizes 0) ≤ x11_2) (hi27_0 : x11_2 + 1 ≤ x27_4) (c_30 : (f_X5_sizeOf f_t_told_sizes 0) ≤ x27_4) : 0 ≤ (x11_2 + 1) := by grind [f_X5_sizeOf]
/- inv0@68>27 -/ theorem s_X6_quarrel_2 (f_t_told_sizes : Nat → Int32) (x11_2 : Int32) (x27_4 : Int32) (hi11_0 : 0 ≤ x11_2) (c_13 : ¬ (f_X5_sizeOf f_t_told_sizes 0) ≤ x11_2) (hi27_0 : x11_2 + 1 ≤ x27_4) (c_30 : ¬ (f_X5_sizeOf f_t_told_sizes 0) ≤ x27_4) : x11_2 + 1 ≤ (x27_4 + 1) := by grind [f_X5_sizeOf]
/- inv0@25>27 -/ theorem s_X6_quarrel_3 (f_t_told_sizes : Nat → Int32) (x11_2 : Int32) (hi11_0 : 0 ≤ x11_2) (c_13 : ¬ (f_X5_sizeOf f_t_told_sizes 0) ≤ x11_2) : x11_2 + 1 ≤ (x11_2 + 1) := by grind [f_X5_sizeOf]
/- inv0@10>11 -/ theorem s_X6_quarrel_4  : 0 ≤ (0 : Int32) := by grind
set_option maxHeartbeats 4000000 in
set_option maxRecDepth 100000 in
theorem c_X6_quarrel (l : Launch) (D : va_G) (cI cZ cO : ClassId) (a_t : Nat) (a_t_text : Nat) (a_t_told : Nat) (a_t_draft : Nat) (a_t_now : Nat) (a_t_acts : Nat) (a_t_sightings : Nat) (a_t_sides : Nat) (a_t_kept : Nat) (v_t_keptSlots : Int32) (v_t_theSeed : Int64) (a_t_told_sizes : Nat) (a_t_told_cells : Nat) (f_t_told_sizes : Nat → Int32) (f_t_told_cells : Nat → Int32) (v_t_now_place : Int32) (v_t_now_voided : Int32) (v_t_now_counted : Int32) : Met l yX6_quarrel wsX6_quarrel ({ frames := 6, cells := 0, slots := 0, locals := 138 }) (PcP D (tysG cI cZ cO) [.ref a_t] [(a_t, .inr (6, [.ref a_t_text, .ref a_t_told, .ref a_t_draft, .ref a_t_now, .ref a_t_acts, .ref a_t_sightings, .ref a_t_sides, .ref a_t_kept, .int v_t_keptSlots, .long v_t_theSeed])), (a_t_told, .inr (5, [.ref a_t_told_sizes, .ref a_t_told_cells])), (a_t_told_sizes, .inl (cI, 4, .inl f_t_told_sizes)), (a_t_told_cells, .inl (cI, 120, .inl f_t_told_cells)), (a_t_now, .inr (3, [.int v_t_now_place, .int v_t_now_voided, .int v_t_now_counted]))]) (QP (.int (f_X6_quarrel f_t_told_sizes f_t_told_cells v_t_now_voided v_t_now_counted))) 0 0 (fun _ => False) := by
  refine Met.ofW (cc := cX6_quarrel) (maxL := 6) (ret := (some .int)) (by decide) rfl ?_
  intro p e s m args below meth c s₁ B hml hv
  obtain ⟨rfl, hP, hKX⟩ := hv
  have hx := B.exec
  have hb := B.bytes
  have hr := B.returns
  have hts := atoms_spec (ws := wsX6_quarrel) B.pre
  have hown : s.vm.findClass RX6 = some m.cls := findClass_of_methodNamed B.named
  have hlocks := B.notSynchronized
  have hK := hKX.1
  have hwX6 : ∀ w ∈ wsX60, w ∈ wsX6_quarrel := by decide +kernel
  have hl := lv_entry ([.ref a_t]) (n := 6) (Nat.le_of_ble_eq_true rfl)
  rw [lg_entry_eq]
  generalize (lg_sl ([.ref a_t]) ++ List.replicate (6 - (lg_sl ([.ref a_t])).length) Slot.unset).toArray = ls at hl ⊢
  have hl : lv_has ls 6 [(0, .ref a_t)] := hl
  have hf := f_X6_quarrel.eq_1 f_t_told_sizes f_t_told_cells v_t_now_voided v_t_now_counted
  refine lv_aload_n hx hb dX6_quarrel_0 rfl (lv_at hl 0 rfl) ?_
  refine va_get (D := D) (ci := 6) (v := .ref a_t_told) (C := RX6) (T := TX6) (N := 10) hx hb hts hwX6 hown hK hP 0 rfl rfl 1 (by decide) (hts (.fieldLink RX6 19 "SkippedDay" "told" "LSkippedDay$Told;") (by decide +kernel)) (fun _ h9 => h9) rfl dX6_quarrel_1 ?_
  refine lv_iconst (v := 0) hx hb dX6_quarrel_4 (by decide) ?_
  refine pcV (As := [.int 0]) (rest := []) ⟨hx, hb, hml, hown, hts⟩ (c_X5_sizeOf l D cI cZ cO a_t_told a_t_told_sizes a_t_told_cells f_t_told_sizes 0) (cwV 1 hts gX6_quarrel_X5_sizeOf rfl rfl rfl (by decide +kernel) ⟨Nat.le_of_ble_eq_true rfl, Nat.le_of_ble_eq_true rfl⟩) hKX hP [1, 2] rfl 1 5 rfl rfl rfl rfl hl.1 rfl (Nat.le_of_ble_eq_true rfl) dX6_quarrel_5 ⟨Nat.le_of_ble_eq_true rfl, Nat.le_of_ble_eq_true rfl⟩ ?_
  refine lv_istore_n (lv' := [(1, .int (f_X5_sizeOf f_t_told_sizes 0)), (0, .ref a_t)]) hx hb dX6_quarrel_8 rfl hl (by decide) rfl (fun ls hl => ?_)
  refine lv_iconst (v := 0) hx hb dX6_quarrel_9 (by decide) ?_
  refine lv_istore_n (lv' := [(2, .int 0), (1, .int (f_X5_sizeOf f_t_told_sizes 0)), (0, .ref a_t)]) hx hb dX6_quarrel_10 rfl hl (by decide) rfl (fun ls hl => ?_)
  have hJ_11 : ∀ (n11 : Nat) (x11_2 : Int32), f_X6_quarrel f_t_told_sizes f_t_told_cells v_t_now_voided v_t_now_counted = it1 (f_X6_quarrel_b11 f_t_told_sizes f_t_told_cells v_t_now_voided v_t_now_counted) default n11 x11_2 → ((f_X5_sizeOf f_t_told_sizes 0).toInt - x11_2.toInt).toNat < n11 → (0 ≤ x11_2) → ∀ (ls : Array Slot), lv_has ls 6 [(0, .ref a_t), (1, .int (f_X5_sizeOf f_t_told_sizes 0)), (2, .int x11_2)] → W p l e (headSpec wsX6_quarrel { frames := 6, cells := 0, slots := 0, locals := 138 }).room s m [.ref a_t].toArray below meth c s.heap [] 0 0 (MQ below (QP (.int (f_X6_quarrel f_t_told_sizes f_t_told_cells v_t_now_voided v_t_now_counted))) [.ref a_t].toArray s 0 0 (fun _ => False)) (F0 m 11 ls []) := by
    intro n11
    induction n11 with
    | zero => intro x11_2 hf hm11; exact absurd hm11 (Nat.not_lt_zero _)
    | succ n11 ih11 =>
      intro x11_2 hf hm11 hi11_0 ls hl
      replace hf := (hf.trans (it1_s _ _ _ _)).trans (f_X6_quarrel_b11.eq_1 _ _ _ _ _ _)
      refine lv_iload_n hx hb dX6_quarrel_11 rfl (lv_at hl 2 rfl) ?_
      refine lv_iload_n hx hb dX6_quarrel_12 rfl (lv_at hl 1 rfl) ?_
      refine lv_icmp_ge (tgt := 77) hx hb dX6_quarrel_13 (by decide) (fun c_13 => ?_) (fun c_13 => ?_)
      · replace hf := hf.trans (if_pos c_13)
        refine lv_bipush (v := (-9)) hx hb dX6_quarrel_77 (by decide) ?_
        exact W.iret (v := (-9)) hx hb hr (fun t ht hW => ⟨congrArg (fun z => Outcome.returned (some (Value.int z))) hf.symm, ht⟩) (fun _ h => absurd h List.not_mem_nil) dX6_quarrel_79
      · replace hf := hf.trans (if_neg c_13)
        refine lv_aload_n hx hb dX6_quarrel_16 rfl (lv_at hl 0 rfl) ?_
        refine lv_iload_n hx hb dX6_quarrel_17 rfl (lv_at hl 2 rfl) ?_
        refine pcV (As := [.int x11_2]) (rest := []) ⟨hx, hb, hml, hown, hts⟩ (c_X6_holdingPlaces l D cI cZ cO a_t a_t_text a_t_told a_t_draft a_t_now a_t_acts a_t_sightings a_t_sides a_t_kept v_t_keptSlots v_t_theSeed a_t_told_sizes a_t_told_cells f_t_told_cells v_t_now_place v_t_now_voided v_t_now_counted x11_2) (cwV 1 hts gX6_quarrel_X6_holdingPlaces rfl rfl rfl (by decide +kernel) ⟨Nat.le_of_ble_eq_true rfl, Nat.le_of_ble_eq_true rfl⟩) hKX hP [0, 1, 3, 4] rfl 0 6 rfl rfl rfl rfl hl.1 rfl (Nat.le_of_ble_eq_true rfl) dX6_quarrel_18 ⟨Nat.le_of_ble_eq_true rfl, Nat.le_of_ble_eq_true rfl⟩ ?_
        refine lv_istore_n (lv' := [(3, .int (f_X6_holdingPlaces f_t_told_cells v_t_now_voided v_t_now_counted x11_2)), (0, .ref a_t), (1, .int (f_X5_sizeOf f_t_told_sizes 0)), (2, .int x11_2)]) hx hb dX6_quarrel_21 rfl hl (by decide) rfl (fun ls hl => ?_)
        refine lv_iload_n hx hb dX6_quarrel_22 rfl (lv_at hl 3 rfl) ?_
        refine lv_iconst (v := 1) hx hb dX6_quarrel_23 (by decide) ?_
        refine lv_iadd hx hb dX6_quarrel_24 ?_
        refine lv_istore (lv' := [(4, .int (x11_2 + 1)), (3, .int (f_X6_holdingPlaces f_t_told_cells v_t_now_voided v_t_now_counted x11_2)), (0, .ref a_t), (1, .int (f_X5_sizeOf f_t_told_sizes 0)), (2, .int x11_2)]) hx hb dX6_quarrel_25 hl (by decide) rfl (fun ls hl => ?_)
        have hJ_27 : ∀ (n27 : Nat) (x27_4 : Int32), f_X6_quarrel f_t_told_sizes f_t_told_cells v_t_now_voided v_t_now_counted = it1 (f_X6_quarrel_b27 f_t_told_sizes f_t_told_cells v_t_now_voided v_t_now_counted x11_2 ((it1 (f_X6_quarrel_b11 f_t_told_sizes f_t_told_cells v_t_now_voided v_t_now_counted) default n11))) default n27 x27_4 → ((f_X5_sizeOf f_t_told_sizes 0).toInt - x27_4.toInt).toNat < n27 → (x11_2 + 1 ≤ x27_4) → ∀ (ls : Array Slot), lv_has ls 6 [(0, .ref a_t), (1, .int (f_X5_sizeOf f_t_told_sizes 0)), (2, .int x11_2), (3, .int (f_X6_holdingPlaces f_t_told_cells v_t_now_voided v_t_now_counted x11_2)), (4, .int x27_4)] → W p l e (headSpec wsX6_quarrel { frames := 6, cells := 0, slots := 0, locals := 138 }).room s m [.ref a_t].toArray below meth c s.heap [] 0 0 (MQ below (QP (.int (f_X6_quarrel f_t_told_sizes f_t_told_cells v_t_now_voided v_t_now_counted))) [.ref a_t].toArray s 0 0 (fun _ => False)) (F0 m 27 ls []) := by
          intro n27
          induction n27 with
          | zero => intro x27_4 hf hm27; exact absurd hm27 (Nat.not_lt_zero _)
          | succ n27 ih27 =>
            intro x27_4 hf hm27 hi27_0 ls hl
            replace hf := (hf.trans (it1_s _ _ _ _)).trans (f_X6_quarrel_b27.eq_1 _ _ _ _ _ _ _ _)
            refine lv_iload hx hb dX6_quarrel_27 (lv_at hl 4 rfl) ?_
            refine lv_iload_n hx hb dX6_quarrel_29 rfl (lv_at hl 1 rfl) ?_
            refine lv_icmp_ge (tgt := 71) hx hb dX6_quarrel_30 (by decide) (fun c_30 => ?_) (fun c_30 => ?_)
            · replace hf := hf.trans (if_pos c_30)
              refine lv_iinc (v := x11_2 + 1) (lv' := [(2, .int (x11_2 + 1)), (0, .ref a_t), (1, .int (f_X5_sizeOf f_t_told_sizes 0)), (3, .int (f_X6_holdingPlaces f_t_told_cells v_t_now_voided v_t_now_counted x11_2)), (4, .int x27_4)]) hx hb dX6_quarrel_71 hl (k := 2) rfl rfl (by decide) rfl (fun ls hl => ?_)
              refine lv_goto (tgt := 11) hx hb dX6_quarrel_74 (by decide) ?_
              exact ih11 (x11_2 + 1) hf (mu_up c_13 hm11) (s_X6_quarrel_1 f_t_told_sizes x11_2 x27_4 hi11_0 c_13 hi27_0 c_30) _ (lv_sub hl [1, 2, 0] rfl)
            · replace hf := hf.trans (if_neg c_30)
              refine lv_aload_n hx hb dX6_quarrel_33 rfl (lv_at hl 0 rfl) ?_
              refine lv_iload hx hb dX6_quarrel_34 (lv_at hl 4 rfl) ?_
              refine pcV (As := [.int x27_4]) (rest := []) ⟨hx, hb, hml, hown, hts⟩ (c_X6_holdingPlaces l D cI cZ cO a_t a_t_text a_t_told a_t_draft a_t_now a_t_acts a_t_sightings a_t_sides a_t_kept v_t_keptSlots v_t_theSeed a_t_told_sizes a_t_told_cells f_t_told_cells v_t_now_place v_t_now_voided v_t_now_counted x27_4) (cwV 1 hts gX6_quarrel_X6_holdingPlaces rfl rfl rfl (by decide +kernel) ⟨Nat.le_of_ble_eq_true rfl, Nat.le_of_ble_eq_true rfl⟩) hKX hP [0, 1, 3, 4] rfl 0 6 rfl rfl rfl rfl hl.1 rfl (Nat.le_of_ble_eq_true rfl) dX6_quarrel_36 ⟨Nat.le_of_ble_eq_true rfl, Nat.le_of_ble_eq_true rfl⟩ ?_
              refine lv_istore (lv' := [(5, .int (f_X6_holdingPlaces f_t_told_cells v_t_now_voided v_t_now_counted x27_4)), (0, .ref a_t), (1, .int (f_X5_sizeOf f_t_told_sizes 0)), (2, .int x11_2), (3, .int (f_X6_holdingPlaces f_t_told_cells v_t_now_voided v_t_now_counted x11_2)), (4, .int x27_4)]) hx hb dX6_quarrel_39 hl (by decide) rfl (fun ls hl => ?_)
              refine lv_iload_n hx hb dX6_quarrel_41 rfl (lv_at hl 4 rfl) ?_
              have hJ_65 : f_X6_quarrel f_t_told_sizes f_t_told_cells v_t_now_voided v_t_now_counted = f_X6_quarrel_j65 x27_4 ((it1 (f_X6_quarrel_b27 f_t_told_sizes f_t_told_cells v_t_now_voided v_t_now_counted x11_2 ((it1 (f_X6_quarrel_b11 f_t_told_sizes f_t_told_cells v_t_now_voided v_t_now_counted) default n11))) default n27)) → ∀ (ls : Array Slot), lv_has ls 6 [(0, .ref a_t), (1, .int (f_X5_sizeOf f_t_told_sizes 0)), (2, .int x11_2), (3, .int (f_X6_holdingPlaces f_t_told_cells v_t_now_voided v_t_now_counted x11_2)), (4, .int x27_4)] → W p l e (headSpec wsX6_quarrel { frames := 6, cells := 0, slots := 0, locals := 138 }).room s m [.ref a_t].toArray below meth c s.heap [] 0 0 (MQ below (QP (.int (f_X6_quarrel f_t_told_sizes f_t_told_cells v_t_now_voided v_t_now_counted))) [.ref a_t].toArray s 0 0 (fun _ => False)) (F0 m 65 ls []) := by
                intro hf ls hl
                replace hf := hf.trans (f_X6_quarrel_j65.eq_1 _ _)
                refine lv_iinc (v := x27_4 + 1) (lv' := [(4, .int (x27_4 + 1)), (0, .ref a_t), (1, .int (f_X5_sizeOf f_t_told_sizes 0)), (2, .int x11_2), (3, .int (f_X6_holdingPlaces f_t_told_cells v_t_now_voided v_t_now_counted x11_2))]) hx hb dX6_quarrel_65 hl (k := 4) rfl rfl (by decide) rfl (fun ls hl => ?_)
                refine lv_goto (tgt := 27) hx hb dX6_quarrel_68 (by decide) ?_
                exact ih27 (x27_4 + 1) hf (mu_up c_30 hm27) (s_X6_quarrel_2 f_t_told_sizes x11_2 x27_4 hi11_0 c_13 hi27_0 c_30) _ (lv_sub hl [1, 2, 3, 4, 0] rfl)
              refine lv_if_eq (tgt := 65) hx hb dX6_quarrel_42 (by decide) (fun c_42 => ?_) (fun c_42 => ?_)
              · replace hf := hf.trans (if_pos c_42)
                exact hJ_65 hf _ (lv_sub hl [1, 2, 3, 4, 5] rfl)
              · replace hf := hf.trans (if_neg c_42)
                refine lv_iload hx hb dX6_quarrel_45 (lv_at hl 0 rfl) ?_
                refine lv_if_eq (tgt := 65) hx hb dX6_quarrel_47 (by decide) (fun c_47 => ?_) (fun c_47 => ?_)
                · replace hf := hf.trans (if_pos c_47)
                  exact hJ_65 hf _ (lv_sub hl [1, 2, 3, 4, 5] rfl)
                · replace hf := hf.trans (if_neg c_47)
                  refine lv_iload_n hx hb dX6_quarrel_50 rfl (lv_at hl 4 rfl) ?_
                  refine lv_iload hx hb dX6_quarrel_51 (lv_at hl 0 rfl) ?_
                  refine lv_iand hx hb dX6_quarrel_53 ?_
                  refine lv_if_ne (tgt := 65) hx hb dX6_quarrel_54 (by decide) (fun c_54 => ?_) (fun c_54 => ?_)
                  · replace hf := hf.trans (if_pos c_54)
                    exact hJ_65 hf _ (lv_sub hl [1, 2, 3, 4, 5] rfl)
                  · replace hf := hf.trans (if_neg (fun h9 => h9 c_54))
                    refine lv_bipush (v := 10) hx hb dX6_quarrel_57 (by decide) ?_
                    refine lv_iload_n hx hb dX6_quarrel_59 rfl (lv_at hl 3 rfl) ?_
                    refine lv_imul hx hb dX6_quarrel_60 ?_
                    refine lv_iload hx hb dX6_quarrel_61 (lv_at hl 5 rfl) ?_
                    refine lv_iadd hx hb dX6_quarrel_63 ?_
                    exact W.iret (v := (10 * x11_2) + x27_4) hx hb hr (fun t ht hW => ⟨congrArg (fun z => Outcome.returned (some (Value.int z))) hf.symm, ht⟩) (fun _ h => absurd h List.not_mem_nil) dX6_quarrel_64
        exact hJ_27 _ (x11_2 + 1) hf (Nat.lt_succ_self _) (s_X6_quarrel_3 f_t_told_sizes x11_2 hi11_0 c_13) _ (lv_sub hl [2, 3, 4, 1, 0] rfl)
  exact hJ_11 _ 0 hf (Nat.lt_succ_self _) s_X6_quarrel_4 _ (lv_sub hl [2, 1, 0] rfl)

def f_X6_isSmallerSet (x0 : Int32) (x1 : Int32) : Int32 :=
  if (f_J6_bitCount_0f7a4 x0) < (f_J6_bitCount_0f7a4 x1) then 1 else if ¬ (f_J6_bitCount_0f7a4 x0) = (f_J6_bitCount_0f7a4 x1) then 0 else if x1 ≤ x0 then 0 else 1
set_option maxHeartbeats 4000000 in
set_option maxRecDepth 100000 in
theorem c_X6_isSmallerSet (l : Launch) (D : va_G) (cI cZ cO : ClassId) (x0 : Int32) (x1 : Int32) : Met l yX6_isSmallerSet wsX6_isSmallerSet ({ frames := 1, cells := 0, slots := 0, locals := 20 }) (PcP D (tysG cI cZ cO) [.int x0, .int x1] []) (QP (.int (f_X6_isSmallerSet x0 x1))) 0 0 (fun _ => False) := by
  refine Met.ofW (cc := cX6_isSmallerSet) (maxL := 4) (ret := (some .boolean)) (by decide) rfl ?_
  intro p e s m args below meth c s₁ B hml hv
  obtain ⟨rfl, hP, hKX⟩ := hv
  have hx := B.exec
  have hb := B.bytes
  have hr := B.returns
  have hts := atoms_spec (ws := wsX6_isSmallerSet) B.pre
  have hown : s.vm.findClass RX6 = some m.cls := findClass_of_methodNamed B.named
  have hlocks := B.notSynchronized
  have hK := hKX.1
  have hl := lv_entry ([.int x0, .int x1]) (n := 4) (Nat.le_of_ble_eq_true rfl)
  rw [lg_entry_eq]
  generalize (lg_sl ([.int x0, .int x1]) ++ List.replicate (4 - (lg_sl ([.int x0, .int x1])).length) Slot.unset).toArray = ls at hl ⊢
  have hl : lv_has ls 4 [(0, .int x0), (1, .int x1)] := hl
  have hf := f_X6_isSmallerSet.eq_1 x0 x1
  refine lv_iload_n hx hb dX6_isSmallerSet_0 rfl (lv_at hl 0 rfl) ?_
  refine pcS (As := [.int x0]) (rest := []) ⟨hx, hb, hml, hown, hts⟩ (c_J6_bitCount_0f7a4 l D cI cZ cO x0) (va_cwS 1 hts gX6_isSmallerSet_J6_bitCount_0f7a4 rfl rfl rfl (by decide +kernel) ⟨Nat.le_of_ble_eq_true rfl, Nat.le_of_ble_eq_true rfl⟩) hKX hP [] rfl rfl hl.1 rfl (Nat.le_of_ble_eq_true rfl) dX6_isSmallerSet_1 ⟨Nat.le_of_ble_eq_true rfl, Nat.le_of_ble_eq_true rfl⟩ ?_
  refine lv_istore_n (lv' := [(2, .int (f_J6_bitCount_0f7a4 x0)), (0, .int x0), (1, .int x1)]) hx hb dX6_isSmallerSet_4 rfl hl (by decide) rfl (fun ls hl => ?_)
  refine lv_iload_n hx hb dX6_isSmallerSet_5 rfl (lv_at hl 2 rfl) ?_
  refine pcS (As := [.int x1]) (rest := []) ⟨hx, hb, hml, hown, hts⟩ (c_J6_bitCount_0f7a4 l D cI cZ cO x1) (va_cwS 1 hts gX6_isSmallerSet_J6_bitCount_0f7a4 rfl rfl rfl (by decide +kernel) ⟨Nat.le_of_ble_eq_true rfl, Nat.le_of_ble_eq_true rfl⟩) hKX hP [] rfl rfl hl.1 rfl (Nat.le_of_ble_eq_true rfl) dX6_isSmallerSet_6 ⟨Nat.le_of_ble_eq_true rfl, Nat.le_of_ble_eq_true rfl⟩ ?_
  refine lv_istore_n (lv' := [(3, .int (f_J6_bitCount_0f7a4 x1)), (2, .int (f_J6_bitCount_0f7a4 x0)), (0, .int x0), (1, .int x1)]) hx hb dX6_isSmallerSet_9 rfl hl (by decide) rfl (fun ls hl => ?_)
  refine lv_iload_n hx hb dX6_isSmallerSet_10 rfl (lv_at hl 1 rfl) ?_
  refine lv_iload_n hx hb dX6_isSmallerSet_11 rfl (lv_at hl 0 rfl) ?_
  refine lv_icmp_lt (tgt := 25) hx hb dX6_isSmallerSet_12 (by decide) (fun c_12 => ?_) (fun c_12 => ?_)
  · replace hf := hf.trans (if_pos c_12)
    refine lv_iconst (v := 1) hx hb dX6_isSmallerSet_25 (by decide) ?_
    refine lv_goto (tgt := 30) hx hb dX6_isSmallerSet_26 (by decide) ?_
    exact W.zret (ty := .boolean) (v := 1) hx hb hr rfl (fun t ht hW => ⟨congrArg (fun z => Outcome.returned (some (Value.int z))) hf.symm, ht⟩) (fun _ h => absurd h List.not_mem_nil) dX6_isSmallerSet_30
  · replace hf := hf.trans (if_neg c_12)
    refine lv_iload_n hx hb dX6_isSmallerSet_15 rfl (lv_at hl 1 rfl) ?_
    refine lv_iload_n hx hb dX6_isSmallerSet_16 rfl (lv_at hl 0 rfl) ?_
    refine lv_icmp_ne (tgt := 29) hx hb dX6_isSmallerSet_17 (by decide) (fun c_17 => ?_) (fun c_17 => ?_)
    · replace hf := hf.trans (if_pos c_17)
      refine lv_iconst (v := 0) hx hb dX6_isSmallerSet_29 (by decide) ?_
      exact W.zret (ty := .boolean) (v := 0) hx hb hr rfl (fun t ht hW => ⟨congrArg (fun z => Outcome.returned (some (Value.int z))) hf.symm, ht⟩) (fun _ h => absurd h List.not_mem_nil) dX6_isSmallerSet_30
    · replace hf := hf.trans (if_neg (fun h9 => h9 c_17))
      refine lv_iload_n hx hb dX6_isSmallerSet_20 rfl (lv_at hl 2 rfl) ?_
      refine lv_iload_n hx hb dX6_isSmallerSet_21 rfl (lv_at hl 3 rfl) ?_
      refine lv_icmp_ge (tgt := 29) hx hb dX6_isSmallerSet_22 (by decide) (fun c_22 => ?_) (fun c_22 => ?_)
      · replace hf := hf.trans (if_pos c_22)
        refine lv_iconst (v := 0) hx hb dX6_isSmallerSet_29 (by decide) ?_
        exact W.zret (ty := .boolean) (v := 0) hx hb hr rfl (fun t ht hW => ⟨congrArg (fun z => Outcome.returned (some (Value.int z))) hf.symm, ht⟩) (fun _ h => absurd h List.not_mem_nil) dX6_isSmallerSet_30
      · replace hf := hf.trans (if_neg c_22)
        refine lv_iconst (v := 1) hx hb dX6_isSmallerSet_25 (by decide) ?_
        refine lv_goto (tgt := 30) hx hb dX6_isSmallerSet_26 (by decide) ?_
        exact W.zret (ty := .boolean) (v := 1) hx hb hr rfl (fun t ht hW => ⟨congrArg (fun z => Outcome.returned (some (Value.int z))) hf.symm, ht⟩) (fun _ h => absurd h List.not_mem_nil) dX6_isSmallerSet_30

def f_X6_drop_j30 (x8_2 : Int32) (k8 : Int32 → Int32 → Int32) (x30_1 : Int32) : Int32 :=
  k8 x30_1 (x8_2 + 1)
def f_X6_drop_b8 (f_t_told_sizes : Nat → Int32) (f_t_told_cells : Nat → Int32) (v_t_now_voided : Int32) (v_t_now_counted : Int32) (k8 : Int32 → Int32 → Int32) (x8_1 : Int32) (x8_2 : Int32) : Int32 :=
  if 13 ≤ x8_2 then x8_1 else if (f_X6_isSmallerSet (f_X6_brokenAt f_t_told_sizes f_t_told_cells v_t_now_voided v_t_now_counted x8_2) x8_1) = 0 then f_X6_drop_j30 x8_2 k8 x8_1 else f_X6_drop_j30 x8_2 k8 (f_X6_brokenAt f_t_told_sizes f_t_told_cells v_t_now_voided v_t_now_counted x8_2)
def f_X6_drop (f_t_told_sizes : Nat → Int32) (f_t_told_cells : Nat → Int32) (v_t_now_voided : Int32) (v_t_now_counted : Int32) : Int32 :=
  it2 (f_X6_drop_b8 f_t_told_sizes f_t_told_cells v_t_now_voided v_t_now_counted) default (((13 : Int32).toInt - (1 : Int32).toInt).toNat + 1) (f_X6_brokenAt f_t_told_sizes f_t_told_cells v_t_now_voided v_t_now_counted 0) 1
/- inv0@33>8 -/ theorem s_X6_drop_1 (x8_2 : Int32) (hi8_0 : 1 ≤ x8_2) (c_11 : ¬ 13 ≤ x8_2) : 1 ≤ (x8_2 + 1) := by grind
/- inv0@7>8 -/ theorem s_X6_drop_2  : 1 ≤ (1 : Int32) := by grind
set_option maxHeartbeats 4000000 in
set_option maxRecDepth 100000 in
theorem c_X6_drop (l : Launch) (D : va_G) (cI cZ cO : ClassId) (a_t : Nat) (a_t_text : Nat) (a_t_told : Nat) (a_t_draft : Nat) (a_t_now : Nat) (a_t_acts : Nat) (a_t_sightings : Nat) (a_t_sides : Nat) (a_t_kept : Nat) (v_t_keptSlots : Int32) (v_t_theSeed : Int64) (a_t_told_sizes : Nat) (a_t_told_cells : Nat) (f_t_told_sizes : Nat → Int32) (f_t_told_cells : Nat → Int32) (v_t_now_place : Int32) (v_t_now_voided : Int32) (v_t_now_counted : Int32) : Met l yX6_drop wsX6_drop ({ frames := 6, cells := 0, slots := 0, locals := 138 }) (PcP D (tysG cI cZ cO) [.ref a_t] [(a_t, .inr (6, [.ref a_t_text, .ref a_t_told, .ref a_t_draft, .ref a_t_now, .ref a_t_acts, .ref a_t_sightings, .ref a_t_sides, .ref a_t_kept, .int v_t_keptSlots, .long v_t_theSeed])), (a_t_told, .inr (5, [.ref a_t_told_sizes, .ref a_t_told_cells])), (a_t_told_sizes, .inl (cI, 4, .inl f_t_told_sizes)), (a_t_told_cells, .inl (cI, 120, .inl f_t_told_cells)), (a_t_now, .inr (3, [.int v_t_now_place, .int v_t_now_voided, .int v_t_now_counted]))]) (QP (.int (f_X6_drop f_t_told_sizes f_t_told_cells v_t_now_voided v_t_now_counted))) 0 0 (fun _ => False) := by
  refine Met.ofW (cc := cX6_drop) (maxL := 4) (ret := (some .int)) (by decide) rfl ?_
  intro p e s m args below meth c s₁ B hml hv
  obtain ⟨rfl, hP, hKX⟩ := hv
  have hx := B.exec
  have hb := B.bytes
  have hr := B.returns
  have hts := atoms_spec (ws := wsX6_drop) B.pre
  have hown : s.vm.findClass RX6 = some m.cls := findClass_of_methodNamed B.named
  have hlocks := B.notSynchronized
  have hK := hKX.1
  have hl := lv_entry ([.ref a_t]) (n := 4) (Nat.le_of_ble_eq_true rfl)
  rw [lg_entry_eq]
  generalize (lg_sl ([.ref a_t]) ++ List.replicate (4 - (lg_sl ([.ref a_t])).length) Slot.unset).toArray = ls at hl ⊢
  have hl : lv_has ls 4 [(0, .ref a_t)] := hl
  have hf := f_X6_drop.eq_1 f_t_told_sizes f_t_told_cells v_t_now_voided v_t_now_counted
  refine lv_aload_n hx hb dX6_drop_0 rfl (lv_at hl 0 rfl) ?_
  refine lv_iconst (v := 0) hx hb dX6_drop_1 (by decide) ?_
  refine pcV (As := [.int 0]) (rest := []) ⟨hx, hb, hml, hown, hts⟩ (c_X6_brokenAt l D cI cZ cO a_t a_t_text a_t_told a_t_draft a_t_now a_t_acts a_t_sightings a_t_sides a_t_kept v_t_keptSlots v_t_theSeed a_t_told_sizes a_t_told_cells f_t_told_sizes f_t_told_cells v_t_now_place v_t_now_voided v_t_now_counted 0) (cwV 1 hts gX6_drop_X6_brokenAt rfl rfl rfl (by decide +kernel) ⟨Nat.le_of_ble_eq_true rfl, Nat.le_of_ble_eq_true rfl⟩) hKX hP [0, 1, 2, 3, 4] rfl 0 6 rfl rfl rfl rfl hl.1 rfl (Nat.le_of_ble_eq_true rfl) dX6_drop_2 ⟨Nat.le_of_ble_eq_true rfl, Nat.le_of_ble_eq_true rfl⟩ ?_
  refine lv_istore_n (lv' := [(1, .int (f_X6_brokenAt f_t_told_sizes f_t_told_cells v_t_now_voided v_t_now_counted 0)), (0, .ref a_t)]) hx hb dX6_drop_5 rfl hl (by decide) rfl (fun ls hl => ?_)
  refine lv_iconst (v := 1) hx hb dX6_drop_6 (by decide) ?_
  refine lv_istore_n (lv' := [(2, .int 1), (1, .int (f_X6_brokenAt f_t_told_sizes f_t_told_cells v_t_now_voided v_t_now_counted 0)), (0, .ref a_t)]) hx hb dX6_drop_7 rfl hl (by decide) rfl (fun ls hl => ?_)
  have hJ_8 : ∀ (n8 : Nat) (x8_1 : Int32) (x8_2 : Int32), f_X6_drop f_t_told_sizes f_t_told_cells v_t_now_voided v_t_now_counted = it2 (f_X6_drop_b8 f_t_told_sizes f_t_told_cells v_t_now_voided v_t_now_counted) default n8 x8_1 x8_2 → ((13 : Int32).toInt - x8_2.toInt).toNat < n8 → (1 ≤ x8_2) → ∀ (ls : Array Slot), lv_has ls 4 [(0, .ref a_t), (1, .int x8_1), (2, .int x8_2)] → W p l e (headSpec wsX6_drop { frames := 6, cells := 0, slots := 0, locals := 138 }).room s m [.ref a_t].toArray below meth c s.heap [] 0 0 (MQ below (QP (.int (f_X6_drop f_t_told_sizes f_t_told_cells v_t_now_voided v_t_now_counted))) [.ref a_t].toArray s 0 0 (fun _ => False)) (F0 m 8 ls []) := by
    intro n8
    induction n8 with
    | zero => intro x8_1 x8_2 hf hm8; exact absurd hm8 (Nat.not_lt_zero _)
    | succ n8 ih8 =>
      intro x8_1 x8_2 hf hm8 hi8_0 ls hl
      replace hf := (hf.trans (it2_s _ _ _ _ _)).trans (f_X6_drop_b8.eq_1 _ _ _ _ _ _ _)
      refine lv_iload_n hx hb dX6_drop_8 rfl (lv_at hl 2 rfl) ?_
      refine lv_bipush (v := 13) hx hb dX6_drop_9 (by decide) ?_
      refine lv_icmp_ge (tgt := 36) hx hb dX6_drop_11 (by decide) (fun c_11 => ?_) (fun c_11 => ?_)
      · replace hf := hf.trans (if_pos c_11)
        refine lv_iload_n hx hb dX6_drop_36 rfl (lv_at hl 1 rfl) ?_
        exact W.iret (v := x8_1) hx hb hr (fun t ht hW => ⟨congrArg (fun z => Outcome.returned (some (Value.int z))) hf.symm, ht⟩) (fun _ h => absurd h List.not_mem_nil) dX6_drop_37
      · replace hf := hf.trans (if_neg c_11)
        refine lv_aload_n hx hb dX6_drop_14 rfl (lv_at hl 0 rfl) ?_
        refine lv_iload_n hx hb dX6_drop_15 rfl (lv_at hl 2 rfl) ?_
        refine pcV (As := [.int x8_2]) (rest := []) ⟨hx, hb, hml, hown, hts⟩ (c_X6_brokenAt l D cI cZ cO a_t a_t_text a_t_told a_t_draft a_t_now a_t_acts a_t_sightings a_t_sides a_t_kept v_t_keptSlots v_t_theSeed a_t_told_sizes a_t_told_cells f_t_told_sizes f_t_told_cells v_t_now_place v_t_now_voided v_t_now_counted x8_2) (cwV 1 hts gX6_drop_X6_brokenAt rfl rfl rfl (by decide +kernel) ⟨Nat.le_of_ble_eq_true rfl, Nat.le_of_ble_eq_true rfl⟩) hKX hP [0, 1, 2, 3, 4] rfl 0 6 rfl rfl rfl rfl hl.1 rfl (Nat.le_of_ble_eq_true rfl) dX6_drop_16 ⟨Nat.le_of_ble_eq_true rfl, Nat.le_of_ble_eq_true rfl⟩ ?_
        refine lv_istore_n (lv' := [(3, .int (f_X6_brokenAt f_t_told_sizes f_t_told_cells v_t_now_voided v_t_now_counted x8_2)), (0, .ref a_t), (1, .int x8_1), (2, .int x8_2)]) hx hb dX6_drop_19 rfl hl (by decide) rfl (fun ls hl => ?_)
        refine lv_iload_n hx hb dX6_drop_20 rfl (lv_at hl 0 rfl) ?_
        refine lv_iload_n hx hb dX6_drop_21 rfl (lv_at hl 2 rfl) ?_
        refine pcS (As := [.int (f_X6_brokenAt f_t_told_sizes f_t_told_cells v_t_now_voided v_t_now_counted x8_2), .int x8_1]) (rest := []) ⟨hx, hb, hml, hown, hts⟩ (c_X6_isSmallerSet l D cI cZ cO (f_X6_brokenAt f_t_told_sizes f_t_told_cells v_t_now_voided v_t_now_counted x8_2) x8_1) (va_cwS 2 hts gX6_drop_X6_isSmallerSet rfl rfl rfl (by decide +kernel) ⟨Nat.le_of_ble_eq_true rfl, Nat.le_of_ble_eq_true rfl⟩) hKX hP [] rfl rfl hl.1 rfl (Nat.le_of_ble_eq_true rfl) dX6_drop_22 ⟨Nat.le_of_ble_eq_true rfl, Nat.le_of_ble_eq_true rfl⟩ ?_
        have hJ_30 : ∀ (x30_1 : Int32), f_X6_drop f_t_told_sizes f_t_told_cells v_t_now_voided v_t_now_counted = f_X6_drop_j30 x8_2 ((it2 (f_X6_drop_b8 f_t_told_sizes f_t_told_cells v_t_now_voided v_t_now_counted) default n8)) x30_1 → ∀ (ls : Array Slot), lv_has ls 4 [(0, .ref a_t), (1, .int x30_1), (2, .int x8_2)] → W p l e (headSpec wsX6_drop { frames := 6, cells := 0, slots := 0, locals := 138 }).room s m [.ref a_t].toArray below meth c s.heap [] 0 0 (MQ below (QP (.int (f_X6_drop f_t_told_sizes f_t_told_cells v_t_now_voided v_t_now_counted))) [.ref a_t].toArray s 0 0 (fun _ => False)) (F0 m 30 ls []) := by
          intro x30_1 hf ls hl
          replace hf := hf.trans (f_X6_drop_j30.eq_1 _ _ _)
          refine lv_iinc (v := x8_2 + 1) (lv' := [(2, .int (x8_2 + 1)), (0, .ref a_t), (1, .int x30_1)]) hx hb dX6_drop_30 hl (k := 2) rfl rfl (by decide) rfl (fun ls hl => ?_)
          refine lv_goto (tgt := 8) hx hb dX6_drop_33 (by decide) ?_
          exact ih8 x30_1 (x8_2 + 1) hf (mu_up c_11 hm8) (s_X6_drop_1 x8_2 hi8_0 c_11) _ (lv_sub hl [1, 2, 0] rfl)
        refine lv_if_eq (tgt := 30) hx hb dX6_drop_25 (by decide) (fun c_25 => ?_) (fun c_25 => ?_)
        · replace hf := hf.trans (if_pos c_25)
          exact hJ_30 x8_1 hf _ (lv_sub hl [1, 2, 3] rfl)
        · replace hf := hf.trans (if_neg c_25)
          refine lv_iload_n hx hb dX6_drop_28 rfl (lv_at hl 0 rfl) ?_
          refine lv_istore_n (lv' := [(1, .int (f_X6_brokenAt f_t_told_sizes f_t_told_cells v_t_now_voided v_t_now_counted x8_2)), (3, .int (f_X6_brokenAt f_t_told_sizes f_t_told_cells v_t_now_voided v_t_now_counted x8_2)), (0, .ref a_t), (2, .int x8_2)]) hx hb dX6_drop_29 rfl hl (by decide) rfl (fun ls hl => ?_)
          exact hJ_30 (f_X6_brokenAt f_t_told_sizes f_t_told_cells v_t_now_voided v_t_now_counted x8_2) hf _ (lv_sub hl [2, 0, 3] rfl)
  exact hJ_8 _ (f_X6_brokenAt f_t_told_sizes f_t_told_cells v_t_now_voided v_t_now_counted 0) 1 hf (Nat.lt_succ_self _) s_X6_drop_2 _ (lv_sub hl [2, 1, 0] rfl)

def f_X6_isDay (x0 : Int32) : Int32 :=
  if x0 < 0 then 0 else if 12 ≤ x0 then 0 else 1
set_option maxHeartbeats 4000000 in
set_option maxRecDepth 100000 in
theorem c_X6_isDay (l : Launch) (D : va_G) (cI cZ cO : ClassId) (x0 : Int32) : Met l yX6_isDay wsX6_isDay ({ frames := 0, cells := 0, slots := 0, locals := 0 }) (PcP D (tysG cI cZ cO) [.int x0] []) (QP (.int (f_X6_isDay x0))) 0 0 (fun _ => False) := by
  refine Met.ofW (cc := cX6_isDay) (maxL := 1) (ret := (some .boolean)) (by decide) rfl ?_
  intro p e s m args below meth c s₁ B hml hv
  obtain ⟨rfl, hP, hKX⟩ := hv
  have hx := B.exec
  have hb := B.bytes
  have hr := B.returns
  have hts := atoms_spec (ws := wsX6_isDay) B.pre
  have hown : s.vm.findClass RX6 = some m.cls := findClass_of_methodNamed B.named
  have hlocks := B.notSynchronized
  have hK := hKX.1
  have hl := lv_entry ([.int x0]) (n := 1) (Nat.le_of_ble_eq_true rfl)
  rw [lg_entry_eq]
  generalize (lg_sl ([.int x0]) ++ List.replicate (1 - (lg_sl ([.int x0])).length) Slot.unset).toArray = ls at hl ⊢
  have hl : lv_has ls 1 [(0, .int x0)] := hl
  have hf := f_X6_isDay.eq_1 x0
  refine lv_iload_n hx hb dX6_isDay_0 rfl (lv_at hl 0 rfl) ?_
  refine lv_if_lt (tgt := 14) hx hb dX6_isDay_1 (by decide) (fun c_1 => ?_) (fun c_1 => ?_)
  · replace hf := hf.trans (if_pos c_1)
    refine lv_iconst (v := 0) hx hb dX6_isDay_14 (by decide) ?_
    exact W.zret (ty := .boolean) (v := 0) hx hb hr rfl (fun t ht hW => ⟨congrArg (fun z => Outcome.returned (some (Value.int z))) hf.symm, ht⟩) (fun _ h => absurd h List.not_mem_nil) dX6_isDay_15
  · replace hf := hf.trans (if_neg c_1)
    refine lv_iload_n hx hb dX6_isDay_4 rfl (lv_at hl 0 rfl) ?_
    refine lv_bipush (v := 12) hx hb dX6_isDay_5 (by decide) ?_
    refine lv_icmp_ge (tgt := 14) hx hb dX6_isDay_7 (by decide) (fun c_7 => ?_) (fun c_7 => ?_)
    · replace hf := hf.trans (if_pos c_7)
      refine lv_iconst (v := 0) hx hb dX6_isDay_14 (by decide) ?_
      exact W.zret (ty := .boolean) (v := 0) hx hb hr rfl (fun t ht hW => ⟨congrArg (fun z => Outcome.returned (some (Value.int z))) hf.symm, ht⟩) (fun _ h => absurd h List.not_mem_nil) dX6_isDay_15
    · replace hf := hf.trans (if_neg c_7)
      refine lv_iconst (v := 1) hx hb dX6_isDay_10 (by decide) ?_
      refine lv_goto (tgt := 15) hx hb dX6_isDay_11 (by decide) ?_
      exact W.zret (ty := .boolean) (v := 1) hx hb hr rfl (fun t ht hW => ⟨congrArg (fun z => Outcome.returned (some (Value.int z))) hf.symm, ht⟩) (fun _ h => absurd h List.not_mem_nil) dX6_isDay_15

def f_X6_see (f_t_told_sizes : Nat → Int32) (v_t_sightings_size : Int32) (f_t_sightings_contracts : Nat → Int32) (f_t_sightings_days : Nat → Int32) (x1 : Int32) (x2 : Int32) : Int32 × Int32 × (Nat → Int32) × (Nat → Int32) :=
  if ¬ (f_X6_isContract f_t_told_sizes x1) = 0 then if ¬ (f_X6_isDay x2) = 0 then if (f_X2_isFull v_t_sightings_size) = 0 then ap3 (f_X2_add v_t_sightings_size f_t_sightings_contracts f_t_sightings_days x1 x2) (fun u39_t_sightings_size u39_t_sightings_contracts u39_t_sightings_days => (f_X2_size u39_t_sightings_size, u39_t_sightings_size, u39_t_sightings_contracts, u39_t_sightings_days)) else ((-4), v_t_sightings_size, f_t_sightings_contracts, f_t_sightings_days) else ((-2), v_t_sightings_size, f_t_sightings_contracts, f_t_sightings_days) else ((-1), v_t_sightings_size, f_t_sightings_contracts, f_t_sightings_days)
/- hp0@24 -/ theorem s_X6_see_1 (v_t_sightings_size : Int32) (hp0 : 0 ≤ v_t_sightings_size) (hp1 : v_t_sightings_size ≤ 6) : 0 ≤ v_t_sightings_size := by grind
/- hp1@24 -/ theorem s_X6_see_2 (v_t_sightings_size : Int32) (hp0 : 0 ≤ v_t_sightings_size) (hp1 : v_t_sightings_size ≤ 6) : v_t_sightings_size ≤ 6 := by grind
/- hp0@39 -/ theorem s_X6_see_3 (v_t_sightings_size : Int32) (hp0 : 0 ≤ v_t_sightings_size) (hp1 : v_t_sightings_size ≤ 6) (c_27 : (f_X2_isFull v_t_sightings_size) = 0) : 0 ≤ v_t_sightings_size := by grind [f_X2_isFull]
/- hp1@39 -/ theorem s_X6_see_4 (v_t_sightings_size : Int32) (hp0 : 0 ≤ v_t_sightings_size) (hp1 : v_t_sightings_size ≤ 6) (c_27 : (f_X2_isFull v_t_sightings_size) = 0) : v_t_sightings_size ≤ 6 := by grind [f_X2_isFull]
/- hp0@46 -/ theorem s_X6_see_5 (u39_t_sightings_size : Int32) (hq39_0 : 0 ≤ u39_t_sightings_size) (hq39_1 : u39_t_sightings_size ≤ 6) : 0 ≤ u39_t_sightings_size := by grind
/- hp1@46 -/ theorem s_X6_see_6 (u39_t_sightings_size : Int32) (hq39_0 : 0 ≤ u39_t_sightings_size) (hq39_1 : u39_t_sightings_size ≤ 6) : u39_t_sightings_size ≤ 6 := by grind
/- post0@49 -/ theorem s_X6_see_7 (u39_t_sightings_size : Int32) (hq39_0 : 0 ≤ u39_t_sightings_size) (hq39_1 : u39_t_sightings_size ≤ 6) : 0 ≤ u39_t_sightings_size := by grind
/- post1@49 -/ theorem s_X6_see_8 (u39_t_sightings_size : Int32) (hq39_0 : 0 ≤ u39_t_sightings_size) (hq39_1 : u39_t_sightings_size ≤ 6) : u39_t_sightings_size ≤ 6 := by grind
/- post0@32 -/ theorem s_X6_see_9 (v_t_sightings_size : Int32) (hp0 : 0 ≤ v_t_sightings_size) (hp1 : v_t_sightings_size ≤ 6) (c_27 : ¬ (f_X2_isFull v_t_sightings_size) = 0) : 0 ≤ v_t_sightings_size := by grind [f_X2_isFull]
/- post1@32 -/ theorem s_X6_see_10 (v_t_sightings_size : Int32) (hp0 : 0 ≤ v_t_sightings_size) (hp1 : v_t_sightings_size ≤ 6) (c_27 : ¬ (f_X2_isFull v_t_sightings_size) = 0) : v_t_sightings_size ≤ 6 := by grind [f_X2_isFull]
/- post0@19 -/ theorem s_X6_see_11 (v_t_sightings_size : Int32) (hp0 : 0 ≤ v_t_sightings_size) (hp1 : v_t_sightings_size ≤ 6) : 0 ≤ v_t_sightings_size := by grind
/- post1@19 -/ theorem s_X6_see_12 (v_t_sightings_size : Int32) (hp0 : 0 ≤ v_t_sightings_size) (hp1 : v_t_sightings_size ≤ 6) : v_t_sightings_size ≤ 6 := by grind
/- post0@9 -/ theorem s_X6_see_13 (v_t_sightings_size : Int32) (hp0 : 0 ≤ v_t_sightings_size) (hp1 : v_t_sightings_size ≤ 6) : 0 ≤ v_t_sightings_size := by grind
/- post1@9 -/ theorem s_X6_see_14 (v_t_sightings_size : Int32) (hp0 : 0 ≤ v_t_sightings_size) (hp1 : v_t_sightings_size ≤ 6) : v_t_sightings_size ≤ 6 := by grind
set_option maxHeartbeats 4000000 in
set_option maxRecDepth 100000 in
theorem c_X6_see (l : Launch) (D : va_G) (cI cZ cO : ClassId) (a_t : Nat) (a_t_text : Nat) (a_t_told : Nat) (a_t_draft : Nat) (a_t_now : Nat) (a_t_acts : Nat) (a_t_sightings : Nat) (a_t_sides : Nat) (a_t_kept : Nat) (v_t_keptSlots : Int32) (v_t_theSeed : Int64) (a_t_told_sizes : Nat) (a_t_told_cells : Nat) (f_t_told_sizes : Nat → Int32) (a_t_sightings_contracts : Nat) (a_t_sightings_days : Nat) (v_t_sightings_size : Int32) (f_t_sightings_contracts : Nat → Int32) (f_t_sightings_days : Nat → Int32) (x1 : Int32) (x2 : Int32) (sz : Nat) (hp0 : 0 ≤ v_t_sightings_size) (hp1 : v_t_sightings_size ≤ 6) : Met l yX6_see wsX6_see ({ frames := 2, cells := 0, slots := 0, locals := 42 }) (PcM D (tysG cI cZ cO) [.ref a_t, .int x1, .int x2] sz [(a_t, .inr (6, [.ref a_t_text, .ref a_t_told, .ref a_t_draft, .ref a_t_now, .ref a_t_acts, .ref a_t_sightings, .ref a_t_sides, .ref a_t_kept, .int v_t_keptSlots, .long v_t_theSeed])), (a_t_told, .inr (5, [.ref a_t_told_sizes, .ref a_t_told_cells])), (a_t_told_sizes, .inl (cI, 4, .inl f_t_told_sizes)), (a_t_sightings, .inr (2, [.ref a_t_sightings_contracts, .ref a_t_sightings_days, .int v_t_sightings_size])), (a_t_sightings_contracts, .inl (cI, 6, .inl f_t_sightings_contracts)), (a_t_sightings_days, .inl (cI, 6, .inl f_t_sightings_days))]) (va_Qi (fun (r : Int32) (u : Int32 × (Nat → Int32) × (Nat → Int32)) => (r, u) = f_X6_see f_t_told_sizes v_t_sightings_size f_t_sightings_contracts f_t_sightings_days x1 x2 ∧ (0 ≤ u.1) ∧ (u.1 ≤ 6)) (BM D (va_A [(a_t, .inr (6, [.ref a_t_text, .ref a_t_told, .ref a_t_draft, .ref a_t_now, .ref a_t_acts, .ref a_t_sightings, .ref a_t_sides, .ref a_t_kept, .int v_t_keptSlots, .long v_t_theSeed])), (a_t_told, .inr (5, [.ref a_t_told_sizes, .ref a_t_told_cells])), (a_t_told_sizes, .inl (cI, 4, .inl f_t_told_sizes)), (a_t_sightings, .inr (2, [.ref a_t_sightings_contracts, .ref a_t_sightings_days, .int v_t_sightings_size])), (a_t_sightings_contracts, .inl (cI, 6, .inl f_t_sightings_contracts)), (a_t_sightings_days, .inl (cI, 6, .inl f_t_sightings_days))] sz) (fun u : Int32 × (Nat → Int32) × (Nat → Int32) => [(a_t, .inr (6, [.ref a_t_text, .ref a_t_told, .ref a_t_draft, .ref a_t_now, .ref a_t_acts, .ref a_t_sightings, .ref a_t_sides, .ref a_t_kept, .int v_t_keptSlots, .long v_t_theSeed])), (a_t_told, .inr (5, [.ref a_t_told_sizes, .ref a_t_told_cells])), (a_t_told_sizes, .inl (cI, 4, .inl f_t_told_sizes)), (a_t_sightings, .inr (2, [.ref a_t_sightings_contracts, .ref a_t_sightings_days, .int u.1])), (a_t_sightings_contracts, .inl (cI, 6, .inl u.2.1)), (a_t_sightings_days, .inl (cI, 6, .inl u.2.2))])) (va_A [(a_t, .inr (6, [.ref a_t_text, .ref a_t_told, .ref a_t_draft, .ref a_t_now, .ref a_t_acts, .ref a_t_sightings, .ref a_t_sides, .ref a_t_kept, .int v_t_keptSlots, .long v_t_theSeed])), (a_t_told, .inr (5, [.ref a_t_told_sizes, .ref a_t_told_cells])), (a_t_told_sizes, .inl (cI, 4, .inl f_t_told_sizes)), (a_t_sightings, .inr (2, [.ref a_t_sightings_contracts, .ref a_t_sightings_days, .int v_t_sightings_size])), (a_t_sightings_contracts, .inl (cI, 6, .inl f_t_sightings_contracts)), (a_t_sightings_days, .inl (cI, 6, .inl f_t_sightings_days))] sz)) 0 0 (va_A [(a_t, .inr (6, [.ref a_t_text, .ref a_t_told, .ref a_t_draft, .ref a_t_now, .ref a_t_acts, .ref a_t_sightings, .ref a_t_sides, .ref a_t_kept, .int v_t_keptSlots, .long v_t_theSeed])), (a_t_told, .inr (5, [.ref a_t_told_sizes, .ref a_t_told_cells])), (a_t_told_sizes, .inl (cI, 4, .inl f_t_told_sizes)), (a_t_sightings, .inr (2, [.ref a_t_sightings_contracts, .ref a_t_sightings_days, .int v_t_sightings_size])), (a_t_sightings_contracts, .inl (cI, 6, .inl f_t_sightings_contracts)), (a_t_sightings_days, .inl (cI, 6, .inl f_t_sightings_days))] sz) := by
  refine Met.ofW (cc := cX6_see) (maxL := 3) (ret := (some .int)) (by decide) rfl ?_
  intro p e s m args below meth c s₁ B hml hv
  obtain ⟨rfl, hsz, hP, hKX, hD0⟩ := hv
  have hx := B.exec
  have hb := B.bytes
  have hr := B.returns
  have hts := atoms_spec (ws := wsX6_see) B.pre
  have hown : s.vm.findClass RX6 = some m.cls := findClass_of_methodNamed B.named
  have hlocks := B.notSynchronized
  have hK := hKX.1
  have hwX6 : ∀ w ∈ wsX60, w ∈ wsX6_see := by decide +kernel
  subst hsz
  have hD := hD0.self (sz := s.heap.size)
  generalize hAe : va_A [(a_t, .inr (6, [.ref a_t_text, .ref a_t_told, .ref a_t_draft, .ref a_t_now, .ref a_t_acts, .ref a_t_sightings, .ref a_t_sides, .ref a_t_kept, .int v_t_keptSlots, .long v_t_theSeed])), (a_t_told, .inr (5, [.ref a_t_told_sizes, .ref a_t_told_cells])), (a_t_told_sizes, .inl (cI, 4, .inl f_t_told_sizes)), (a_t_sightings, .inr (2, [.ref a_t_sightings_contracts, .ref a_t_sightings_days, .int v_t_sightings_size])), (a_t_sightings_contracts, .inl (cI, 6, .inl f_t_sightings_contracts)), (a_t_sightings_days, .inl (cI, 6, .inl f_t_sightings_days))] s.heap.size = A at hD ⊢
  have hA : ∀ q : Nat, s.heap.size ≤ q → A q := fun q h => by rw [← hAe]; exact Or.inr h
  have hS : va_S A s.heap s.heap [] := va_S.rf
  have hP : va_P D vwCl [(a_t, .inr (6, [.ref a_t_text, .ref a_t_told, .ref a_t_draft, .ref a_t_now, .ref a_t_acts, .ref a_t_sightings, .ref a_t_sides, .ref a_t_kept, .int v_t_keptSlots, .long v_t_theSeed])), (a_t_told, .inr (5, [.ref a_t_told_sizes, .ref a_t_told_cells])), (a_t_told_sizes, .inl (cI, 4, .inl f_t_told_sizes)), (a_t_sightings, .inr (2, [.ref a_t_sightings_contracts, .ref a_t_sightings_days, .int v_t_sightings_size])), (a_t_sightings_contracts, .inl (cI, 6, .inl f_t_sightings_contracts)), (a_t_sightings_days, .inl (cI, 6, .inl f_t_sightings_days))] s.heap := hP
  have hl := lv_entry ([.ref a_t, .int x1, .int x2]) (n := 3) (Nat.le_of_ble_eq_true rfl)
  rw [lg_entry_eq]
  generalize (lg_sl ([.ref a_t, .int x1, .int x2]) ++ List.replicate (3 - (lg_sl ([.ref a_t, .int x1, .int x2])).length) Slot.unset).toArray = ls at hl ⊢
  have hl : lv_has ls 3 [(0, .ref a_t), (1, .int x1), (2, .int x2)] := hl
  have hf := f_X6_see.eq_1 f_t_told_sizes v_t_sightings_size f_t_sightings_contracts f_t_sightings_days x1 x2
  refine lv_aload_n hx hb dX6_see_0 rfl (lv_at hl 0 rfl) ?_
  refine lv_iload_n hx hb dX6_see_1 rfl (lv_at hl 1 rfl) ?_
  refine pcV (As := [.int x1]) (rest := []) ⟨hx, hb, hml, hown, hts⟩ (c_X6_isContract l D cI cZ cO a_t a_t_text a_t_told a_t_draft a_t_now a_t_acts a_t_sightings a_t_sides a_t_kept v_t_keptSlots v_t_theSeed a_t_told_sizes a_t_told_cells f_t_told_sizes x1) (cwV 1 hts gX6_see_X6_isContract rfl rfl rfl (by decide +kernel) ⟨Nat.le_of_ble_eq_true rfl, Nat.le_of_ble_eq_true rfl⟩) hKX hP [0, 1, 2] rfl 0 6 rfl rfl rfl rfl hl.1 rfl (Nat.le_of_ble_eq_true rfl) dX6_see_2 ⟨Nat.le_of_ble_eq_true rfl, Nat.le_of_ble_eq_true rfl⟩ ?_
  refine lv_if_ne (tgt := 10) hx hb dX6_see_5 (by decide) (fun c_5 => ?_) (fun c_5 => ?_)
  · replace hf := hf.trans (if_pos c_5)
    refine lv_iload_n hx hb dX6_see_10 rfl (lv_at hl 2 rfl) ?_
    refine pcS (As := [.int x2]) (rest := []) ⟨hx, hb, hml, hown, hts⟩ (c_X6_isDay l D cI cZ cO x2) (va_cwS 1 hts gX6_see_X6_isDay rfl rfl rfl (by decide +kernel) ⟨Nat.le_of_ble_eq_true rfl, Nat.le_of_ble_eq_true rfl⟩) hKX hP [] rfl rfl hl.1 rfl (Nat.le_of_ble_eq_true rfl) dX6_see_11 ⟨Nat.le_of_ble_eq_true rfl, Nat.le_of_ble_eq_true rfl⟩ ?_
    refine lv_if_ne (tgt := 20) hx hb dX6_see_14 (by decide) (fun c_14 => ?_) (fun c_14 => ?_)
    · replace hf := hf.trans (if_pos c_14)
      refine lv_aload_n hx hb dX6_see_20 rfl (lv_at hl 0 rfl) ?_
      refine va_get (D := D) (ci := 6) (v := .ref a_t_sightings) (C := RX6) (T := TX6) (N := 10) hx hb hts hwX6 hown hK hP 0 rfl rfl 5 (by decide) (hts (.fieldLink RX6 43 "SkippedDay" "sightings" "LSkippedDay$Sightings;") (by decide +kernel)) (fun _ h9 => h9) rfl dX6_see_21 ?_
      refine pcV (As := []) (rest := []) ⟨hx, hb, hml, hown, hts⟩ (c_X2_isFull l D cI cZ cO a_t_sightings a_t_sightings_contracts a_t_sightings_days v_t_sightings_size (s_X6_see_1 v_t_sightings_size hp0 hp1) (s_X6_see_2 v_t_sightings_size hp0 hp1)) (cwV 0 hts gX6_see_X2_isFull rfl rfl rfl (by decide +kernel) ⟨Nat.le_of_ble_eq_true rfl, Nat.le_of_ble_eq_true rfl⟩) hKX hP [3] rfl 3 2 rfl rfl rfl rfl hl.1 rfl (Nat.le_of_ble_eq_true rfl) dX6_see_24 ⟨Nat.le_of_ble_eq_true rfl, Nat.le_of_ble_eq_true rfl⟩ ?_
      refine lv_if_eq (tgt := 33) hx hb dX6_see_27 (by decide) (fun c_27 => ?_) (fun c_27 => ?_)
      · replace hf := hf.trans (if_pos c_27)
        refine lv_aload_n hx hb dX6_see_33 rfl (lv_at hl 0 rfl) ?_
        refine va_get (D := D) (ci := 6) (v := .ref a_t_sightings) (C := RX6) (T := TX6) (N := 10) hx hb hts hwX6 hown hK hP 0 rfl rfl 5 (by decide) (hts (.fieldLink RX6 43 "SkippedDay" "sightings" "LSkippedDay$Sightings;") (by decide +kernel)) (fun _ h9 => h9) rfl dX6_see_34 ?_
        refine lv_iload_n hx hb dX6_see_37 rfl (lv_at hl 1 rfl) ?_
        refine lv_iload_n hx hb dX6_see_38 rfl (lv_at hl 2 rfl) ?_
        refine callMv (As := [.int x1, .int x2]) (rest := []) (wr := [(a_t, .inr (6, [.ref a_t_text, .ref a_t_told, .ref a_t_draft, .ref a_t_now, .ref a_t_acts, .ref a_t_sightings, .ref a_t_sides, .ref a_t_kept, .int v_t_keptSlots, .long v_t_theSeed])), (a_t_told, .inr (5, [.ref a_t_told_sizes, .ref a_t_told_cells])), (a_t_told_sizes, .inl (cI, 4, .inl f_t_told_sizes))]) ⟨hx, hb, hml, hown, hts⟩ (c_X2_add l D cI cZ cO a_t_sightings a_t_sightings_contracts a_t_sightings_days v_t_sightings_size f_t_sightings_contracts f_t_sightings_days x1 x2 s.heap.size (s_X6_see_3 v_t_sightings_size hp0 hp1 c_27) (s_X6_see_4 v_t_sightings_size hp0 hp1 c_27)) (cwV 2 hts gX6_see_X2_add rfl rfl rfl (by decide +kernel) ⟨Nat.le_of_ble_eq_true rfl, Nat.le_of_ble_eq_true rfl⟩) hKX hP hD hS hA [3, 4, 5] [0, 1, 2] rfl rfl (by decide) (by decide) (by decide) 3 2 rfl rfl rfl rfl hl.1 rfl (Nat.le_of_ble_eq_true rfl) dX6_see_39 ⟨Nat.le_of_ble_eq_true rfl, Nat.le_of_ble_eq_true rfl⟩ (fun u H locs hc39 hP hD hS => ?_)
        obtain ⟨u39_t_sightings_size, u39_t_sightings_contracts, u39_t_sightings_days⟩ := u
        have hP : va_P D vwCl [(a_t, .inr (6, [.ref a_t_text, .ref a_t_told, .ref a_t_draft, .ref a_t_now, .ref a_t_acts, .ref a_t_sightings, .ref a_t_sides, .ref a_t_kept, .int v_t_keptSlots, .long v_t_theSeed])), (a_t_told, .inr (5, [.ref a_t_told_sizes, .ref a_t_told_cells])), (a_t_told_sizes, .inl (cI, 4, .inl f_t_told_sizes)), (a_t_sightings, .inr (2, [.ref a_t_sightings_contracts, .ref a_t_sightings_days, .int u39_t_sightings_size])), (a_t_sightings_contracts, .inl (cI, 6, .inl u39_t_sightings_contracts)), (a_t_sightings_days, .inl (cI, 6, .inl u39_t_sightings_days))] H := hP
        have hD : va_D A [(a_t, .inr (6, [.ref a_t_text, .ref a_t_told, .ref a_t_draft, .ref a_t_now, .ref a_t_acts, .ref a_t_sightings, .ref a_t_sides, .ref a_t_kept, .int v_t_keptSlots, .long v_t_theSeed])), (a_t_told, .inr (5, [.ref a_t_told_sizes, .ref a_t_told_cells])), (a_t_told_sizes, .inl (cI, 4, .inl f_t_told_sizes)), (a_t_sightings, .inr (2, [.ref a_t_sightings_contracts, .ref a_t_sightings_days, .int u39_t_sightings_size])), (a_t_sightings_contracts, .inl (cI, 6, .inl u39_t_sightings_contracts)), (a_t_sightings_days, .inl (cI, 6, .inl u39_t_sightings_days))] := hD
        have hq39_0 : 0 ≤ u39_t_sightings_size := hc39.2.1
        have hq39_1 : u39_t_sightings_size ≤ 6 := hc39.2.2
        replace hf := hf.trans (ap3_g hc39.1)
        refine lv_aload_n hx hb dX6_see_42 rfl (lv_at hl 0 rfl) ?_
        refine va_get (D := D) (ci := 6) (v := .ref a_t_sightings) (C := RX6) (T := TX6) (N := 10) hx hb hts hwX6 hown hK hP 0 rfl rfl 5 (by decide) (hts (.fieldLink RX6 43 "SkippedDay" "sightings" "LSkippedDay$Sightings;") (by decide +kernel)) (fun _ h9 => h9) rfl dX6_see_43 ?_
        refine pcV (As := []) (rest := []) ⟨hx, hb, hml, hown, hts⟩ (c_X2_size l D cI cZ cO a_t_sightings a_t_sightings_contracts a_t_sightings_days u39_t_sightings_size (s_X6_see_5 u39_t_sightings_size hq39_0 hq39_1) (s_X6_see_6 u39_t_sightings_size hq39_0 hq39_1)) (cwV 0 hts gX6_see_X2_size rfl rfl rfl (by decide +kernel) ⟨Nat.le_of_ble_eq_true rfl, Nat.le_of_ble_eq_true rfl⟩) hKX hP [3] rfl 3 2 rfl rfl rfl rfl hl.1 rfl (Nat.le_of_ble_eq_true rfl) dX6_see_46 ⟨Nat.le_of_ble_eq_true rfl, Nat.le_of_ble_eq_true rfl⟩ ?_
        exact W.iret (v := f_X2_size u39_t_sightings_size) hx hb hr (fun t ht hW => ⟨⟨f_X2_size u39_t_sightings_size, (u39_t_sightings_size, u39_t_sightings_contracts, u39_t_sightings_days), rfl, ⟨hf.symm, (s_X6_see_7 u39_t_sightings_size hq39_0 hq39_1), (s_X6_see_8 u39_t_sightings_size hq39_0 hq39_1)⟩, by rw [ht]; exact hP.sub [0, 1, 2, 3, 4, 5] rfl, hD.sub [0, 1, 2, 3, 4, 5] (by decide) rfl⟩, hS.F ht⟩) hS.2.2 dX6_see_49
      · replace hf := hf.trans (if_neg c_27)
        refine lv_bipush (v := (-4)) hx hb dX6_see_30 (by decide) ?_
        exact W.iret (v := (-4)) hx hb hr (fun t ht hW => ⟨⟨(-4), (v_t_sightings_size, f_t_sightings_contracts, f_t_sightings_days), rfl, ⟨hf.symm, (s_X6_see_9 v_t_sightings_size hp0 hp1 c_27), (s_X6_see_10 v_t_sightings_size hp0 hp1 c_27)⟩, by rw [ht]; exact hP.sub [0, 1, 2, 3, 4, 5] rfl, hD.sub [0, 1, 2, 3, 4, 5] (by decide) rfl⟩, hS.F ht⟩) hS.2.2 dX6_see_32
    · replace hf := hf.trans (if_neg (fun h9 => h9 c_14))
      refine lv_bipush (v := (-2)) hx hb dX6_see_17 (by decide) ?_
      exact W.iret (v := (-2)) hx hb hr (fun t ht hW => ⟨⟨(-2), (v_t_sightings_size, f_t_sightings_contracts, f_t_sightings_days), rfl, ⟨hf.symm, (s_X6_see_11 v_t_sightings_size hp0 hp1), (s_X6_see_12 v_t_sightings_size hp0 hp1)⟩, by rw [ht]; exact hP.sub [0, 1, 2, 3, 4, 5] rfl, hD.sub [0, 1, 2, 3, 4, 5] (by decide) rfl⟩, hS.F ht⟩) hS.2.2 dX6_see_19
  · replace hf := hf.trans (if_neg (fun h9 => h9 c_5))
    refine lv_iconst (v := (-1)) hx hb dX6_see_8 (by decide) ?_
    exact W.iret (v := (-1)) hx hb hr (fun t ht hW => ⟨⟨(-1), (v_t_sightings_size, f_t_sightings_contracts, f_t_sightings_days), rfl, ⟨hf.symm, (s_X6_see_13 v_t_sightings_size hp0 hp1), (s_X6_see_14 v_t_sightings_size hp0 hp1)⟩, by rw [ht]; exact hP.sub [0, 1, 2, 3, 4, 5] rfl, hD.sub [0, 1, 2, 3, 4, 5] (by decide) rfl⟩, hS.F ht⟩) hS.2.2 dX6_see_9

def f_X6_unsee (v_t_sightings_size : Int32) : Int32 × Int32 :=
  ap1 (f_X2_clear) (fun u12_t_sightings_size => (f_X2_size v_t_sightings_size, u12_t_sightings_size))
/- hp0@4 -/ theorem s_X6_unsee_1 (v_t_sightings_size : Int32) (hp0 : 0 ≤ v_t_sightings_size) (hp1 : v_t_sightings_size ≤ 6) : 0 ≤ v_t_sightings_size := by grind
/- hp1@4 -/ theorem s_X6_unsee_2 (v_t_sightings_size : Int32) (hp0 : 0 ≤ v_t_sightings_size) (hp1 : v_t_sightings_size ≤ 6) : v_t_sightings_size ≤ 6 := by grind
/- hp0@12 -/ theorem s_X6_unsee_3 (v_t_sightings_size : Int32) (hp0 : 0 ≤ v_t_sightings_size) (hp1 : v_t_sightings_size ≤ 6) : 0 ≤ v_t_sightings_size := by grind
/- hp1@12 -/ theorem s_X6_unsee_4 (v_t_sightings_size : Int32) (hp0 : 0 ≤ v_t_sightings_size) (hp1 : v_t_sightings_size ≤ 6) : v_t_sightings_size ≤ 6 := by grind
/- post0@16 -/ theorem s_X6_unsee_5 (u12_t_sightings_size : Int32) (hq12_0 : 0 ≤ u12_t_sightings_size) (hq12_1 : u12_t_sightings_size ≤ 6) : 0 ≤ u12_t_sightings_size := by grind
/- post1@16 -/ theorem s_X6_unsee_6 (u12_t_sightings_size : Int32) (hq12_0 : 0 ≤ u12_t_sightings_size) (hq12_1 : u12_t_sightings_size ≤ 6) : u12_t_sightings_size ≤ 6 := by grind
set_option maxHeartbeats 4000000 in
set_option maxRecDepth 100000 in
theorem c_X6_unsee (l : Launch) (D : va_G) (cI cZ cO : ClassId) (a_t : Nat) (a_t_text : Nat) (a_t_told : Nat) (a_t_draft : Nat) (a_t_now : Nat) (a_t_acts : Nat) (a_t_sightings : Nat) (a_t_sides : Nat) (a_t_kept : Nat) (v_t_keptSlots : Int32) (v_t_theSeed : Int64) (a_t_sightings_contracts : Nat) (a_t_sightings_days : Nat) (v_t_sightings_size : Int32) (sz : Nat) (hp0 : 0 ≤ v_t_sightings_size) (hp1 : v_t_sightings_size ≤ 6) : Met l yX6_unsee wsX6_unsee ({ frames := 1, cells := 0, slots := 0, locals := 20 }) (PcM D (tysG cI cZ cO) [.ref a_t] sz [(a_t, .inr (6, [.ref a_t_text, .ref a_t_told, .ref a_t_draft, .ref a_t_now, .ref a_t_acts, .ref a_t_sightings, .ref a_t_sides, .ref a_t_kept, .int v_t_keptSlots, .long v_t_theSeed])), (a_t_sightings, .inr (2, [.ref a_t_sightings_contracts, .ref a_t_sightings_days, .int v_t_sightings_size]))]) (va_Qi (fun (r : Int32) (u : Int32) => (r, u) = f_X6_unsee v_t_sightings_size ∧ (0 ≤ u) ∧ (u ≤ 6)) (BM D (va_A [(a_t, .inr (6, [.ref a_t_text, .ref a_t_told, .ref a_t_draft, .ref a_t_now, .ref a_t_acts, .ref a_t_sightings, .ref a_t_sides, .ref a_t_kept, .int v_t_keptSlots, .long v_t_theSeed])), (a_t_sightings, .inr (2, [.ref a_t_sightings_contracts, .ref a_t_sightings_days, .int v_t_sightings_size]))] sz) (fun u : Int32 => [(a_t, .inr (6, [.ref a_t_text, .ref a_t_told, .ref a_t_draft, .ref a_t_now, .ref a_t_acts, .ref a_t_sightings, .ref a_t_sides, .ref a_t_kept, .int v_t_keptSlots, .long v_t_theSeed])), (a_t_sightings, .inr (2, [.ref a_t_sightings_contracts, .ref a_t_sightings_days, .int u]))])) (va_A [(a_t, .inr (6, [.ref a_t_text, .ref a_t_told, .ref a_t_draft, .ref a_t_now, .ref a_t_acts, .ref a_t_sightings, .ref a_t_sides, .ref a_t_kept, .int v_t_keptSlots, .long v_t_theSeed])), (a_t_sightings, .inr (2, [.ref a_t_sightings_contracts, .ref a_t_sightings_days, .int v_t_sightings_size]))] sz)) 0 0 (va_A [(a_t, .inr (6, [.ref a_t_text, .ref a_t_told, .ref a_t_draft, .ref a_t_now, .ref a_t_acts, .ref a_t_sightings, .ref a_t_sides, .ref a_t_kept, .int v_t_keptSlots, .long v_t_theSeed])), (a_t_sightings, .inr (2, [.ref a_t_sightings_contracts, .ref a_t_sightings_days, .int v_t_sightings_size]))] sz) := by
  refine Met.ofW (cc := cX6_unsee) (maxL := 2) (ret := (some .int)) (by decide) rfl ?_
  intro p e s m args below meth c s₁ B hml hv
  obtain ⟨rfl, hsz, hP, hKX, hD0⟩ := hv
  have hx := B.exec
  have hb := B.bytes
  have hr := B.returns
  have hts := atoms_spec (ws := wsX6_unsee) B.pre
  have hown : s.vm.findClass RX6 = some m.cls := findClass_of_methodNamed B.named
  have hlocks := B.notSynchronized
  have hK := hKX.1
  have hwX6 : ∀ w ∈ wsX60, w ∈ wsX6_unsee := by decide +kernel
  subst hsz
  have hD := hD0.self (sz := s.heap.size)
  generalize hAe : va_A [(a_t, .inr (6, [.ref a_t_text, .ref a_t_told, .ref a_t_draft, .ref a_t_now, .ref a_t_acts, .ref a_t_sightings, .ref a_t_sides, .ref a_t_kept, .int v_t_keptSlots, .long v_t_theSeed])), (a_t_sightings, .inr (2, [.ref a_t_sightings_contracts, .ref a_t_sightings_days, .int v_t_sightings_size]))] s.heap.size = A at hD ⊢
  have hA : ∀ q : Nat, s.heap.size ≤ q → A q := fun q h => by rw [← hAe]; exact Or.inr h
  have hS : va_S A s.heap s.heap [] := va_S.rf
  have hP : va_P D vwCl [(a_t, .inr (6, [.ref a_t_text, .ref a_t_told, .ref a_t_draft, .ref a_t_now, .ref a_t_acts, .ref a_t_sightings, .ref a_t_sides, .ref a_t_kept, .int v_t_keptSlots, .long v_t_theSeed])), (a_t_sightings, .inr (2, [.ref a_t_sightings_contracts, .ref a_t_sightings_days, .int v_t_sightings_size]))] s.heap := hP
  have hl := lv_entry ([.ref a_t]) (n := 2) (Nat.le_of_ble_eq_true rfl)
  rw [lg_entry_eq]
  generalize (lg_sl ([.ref a_t]) ++ List.replicate (2 - (lg_sl ([.ref a_t])).length) Slot.unset).toArray = ls at hl ⊢
  have hl : lv_has ls 2 [(0, .ref a_t)] := hl
  have hf := f_X6_unsee.eq_1 v_t_sightings_size
  refine lv_aload_n hx hb dX6_unsee_0 rfl (lv_at hl 0 rfl) ?_
  refine va_get (D := D) (ci := 6) (v := .ref a_t_sightings) (C := RX6) (T := TX6) (N := 10) hx hb hts hwX6 hown hK hP 0 rfl rfl 5 (by decide) (hts (.fieldLink RX6 43 "SkippedDay" "sightings" "LSkippedDay$Sightings;") (by decide +kernel)) (fun _ h9 => h9) rfl dX6_unsee_1 ?_
  refine pcV (As := []) (rest := []) ⟨hx, hb, hml, hown, hts⟩ (c_X2_size l D cI cZ cO a_t_sightings a_t_sightings_contracts a_t_sightings_days v_t_sightings_size (s_X6_unsee_1 v_t_sightings_size hp0 hp1) (s_X6_unsee_2 v_t_sightings_size hp0 hp1)) (cwV 0 hts gX6_unsee_X2_size rfl rfl rfl (by decide +kernel) ⟨Nat.le_of_ble_eq_true rfl, Nat.le_of_ble_eq_true rfl⟩) hKX hP [1] rfl 1 2 rfl rfl rfl rfl hl.1 rfl (Nat.le_of_ble_eq_true rfl) dX6_unsee_4 ⟨Nat.le_of_ble_eq_true rfl, Nat.le_of_ble_eq_true rfl⟩ ?_
  refine lv_istore_n (lv' := [(1, .int (f_X2_size v_t_sightings_size)), (0, .ref a_t)]) hx hb dX6_unsee_7 rfl hl (by decide) rfl (fun ls hl => ?_)
  refine lv_aload_n hx hb dX6_unsee_8 rfl (lv_at hl 1 rfl) ?_
  refine va_get (D := D) (ci := 6) (v := .ref a_t_sightings) (C := RX6) (T := TX6) (N := 10) hx hb hts hwX6 hown hK hP 0 rfl rfl 5 (by decide) (hts (.fieldLink RX6 43 "SkippedDay" "sightings" "LSkippedDay$Sightings;") (by decide +kernel)) (fun _ h9 => h9) rfl dX6_unsee_9 ?_
  refine callMv (As := []) (rest := []) (wr := [(a_t, .inr (6, [.ref a_t_text, .ref a_t_told, .ref a_t_draft, .ref a_t_now, .ref a_t_acts, .ref a_t_sightings, .ref a_t_sides, .ref a_t_kept, .int v_t_keptSlots, .long v_t_theSeed]))]) ⟨hx, hb, hml, hown, hts⟩ (c_X2_clear l D cI cZ cO a_t_sightings a_t_sightings_contracts a_t_sightings_days v_t_sightings_size s.heap.size (s_X6_unsee_3 v_t_sightings_size hp0 hp1) (s_X6_unsee_4 v_t_sightings_size hp0 hp1)) (cwV 0 hts gX6_unsee_X2_clear rfl rfl rfl (by decide +kernel) ⟨Nat.le_of_ble_eq_true rfl, Nat.le_of_ble_eq_true rfl⟩) hKX hP hD hS hA [1] [0] rfl rfl (by decide) (by decide) (by decide) 1 2 rfl rfl rfl rfl hl.1 rfl (Nat.le_of_ble_eq_true rfl) dX6_unsee_12 ⟨Nat.le_of_ble_eq_true rfl, Nat.le_of_ble_eq_true rfl⟩ (fun u H locs hc12 hP hD hS => ?_)
  obtain ⟨u12_t_sightings_size, rfl⟩ : ∃ z, z = u := ⟨_, rfl⟩
  have hP : va_P D vwCl [(a_t, .inr (6, [.ref a_t_text, .ref a_t_told, .ref a_t_draft, .ref a_t_now, .ref a_t_acts, .ref a_t_sightings, .ref a_t_sides, .ref a_t_kept, .int v_t_keptSlots, .long v_t_theSeed])), (a_t_sightings, .inr (2, [.ref a_t_sightings_contracts, .ref a_t_sightings_days, .int u12_t_sightings_size]))] H := hP
  have hD : va_D A [(a_t, .inr (6, [.ref a_t_text, .ref a_t_told, .ref a_t_draft, .ref a_t_now, .ref a_t_acts, .ref a_t_sightings, .ref a_t_sides, .ref a_t_kept, .int v_t_keptSlots, .long v_t_theSeed])), (a_t_sightings, .inr (2, [.ref a_t_sightings_contracts, .ref a_t_sightings_days, .int u12_t_sightings_size]))] := hD
  have hq12_0 : 0 ≤ u12_t_sightings_size := hc12.2.1
  have hq12_1 : u12_t_sightings_size ≤ 6 := hc12.2.2
  replace hf := hf.trans (ap1_g hc12.1)
  refine lv_iload_n hx hb dX6_unsee_15 rfl (lv_at hl 0 rfl) ?_
  exact W.iret (v := f_X2_size v_t_sightings_size) hx hb hr (fun t ht hW => ⟨⟨f_X2_size v_t_sightings_size, (u12_t_sightings_size), rfl, ⟨hf.symm, (s_X6_unsee_5 u12_t_sightings_size hq12_0 hq12_1), (s_X6_unsee_6 u12_t_sightings_size hq12_0 hq12_1)⟩, by rw [ht]; exact hP.sub [0, 1] rfl, hD.sub [0, 1] (by decide) rfl⟩, hS.F ht⟩) hS.2.2 dX6_unsee_16

def f_X6_endsAsSeen_j67 (x17_4 : Int32) (k17 : Int32 → Int32) : Int32 :=
  k17 (x17_4 + 1)
def f_X6_endsAsSeen_b17 (f_t_told_cells : Nat → Int32) (v_t_now_place : Int32) (v_t_sightings_size : Int32) (f_t_sightings_contracts : Nat → Int32) (f_t_sightings_days : Nat → Int32) (x1 : Int32) (x2 : Int32) (k17 : Int32 → Int32) (x17_4 : Int32) : Int32 :=
  if (f_X2_size v_t_sightings_size) ≤ x17_4 then 1 else if ¬ (f_X2_contractAt v_t_sightings_size f_t_sightings_contracts x17_4) = x1 then f_X6_endsAsSeen_j67 x17_4 k17 else if (f_X6_comingOf (f_X2_dayAt v_t_sightings_size f_t_sightings_days x17_4) v_t_now_place) = (f_X6_endOf f_t_told_cells x1 x2 v_t_now_place) then f_X6_endsAsSeen_j67 x17_4 k17 else 0
def f_X6_endsAsSeen (f_t_told_cells : Nat → Int32) (v_t_now_place : Int32) (v_t_sightings_size : Int32) (f_t_sightings_contracts : Nat → Int32) (f_t_sightings_days : Nat → Int32) (x1 : Int32) (x2 : Int32) : Int32 :=
  it1 (f_X6_endsAsSeen_b17 f_t_told_cells v_t_now_place v_t_sightings_size f_t_sightings_contracts f_t_sightings_days x1 x2) default (((f_X2_size v_t_sightings_size).toInt - (0 : Int32).toInt).toNat + 1) 0
/- hp0@23 -/ theorem s_X6_endsAsSeen_1 (v_t_sightings_size : Int32) (hp0 : 0 ≤ v_t_sightings_size) (hp1 : v_t_sightings_size ≤ 6) : 0 ≤ v_t_sightings_size := by grind
/- hp1@23 -/ theorem s_X6_endsAsSeen_2 (v_t_sightings_size : Int32) (hp0 : 0 ≤ v_t_sightings_size) (hp1 : v_t_sightings_size ≤ 6) : v_t_sightings_size ≤ 6 := by grind
/- hp0@35 -/ theorem s_X6_endsAsSeen_3 (v_t_sightings_size : Int32) (x17_4 : Int32) (hp0 : 0 ≤ v_t_sightings_size) (hp1 : v_t_sightings_size ≤ 6) (hi17_0 : 0 ≤ x17_4) (c_26 : ¬ (f_X2_size v_t_sightings_size) ≤ x17_4) : 0 ≤ v_t_sightings_size := by grind [f_X2_size]
/- hp1@35 -/ theorem s_X6_endsAsSeen_4 (v_t_sightings_size : Int32) (x17_4 : Int32) (hp0 : 0 ≤ v_t_sightings_size) (hp1 : v_t_sightings_size ≤ 6) (hi17_0 : 0 ≤ x17_4) (c_26 : ¬ (f_X2_size v_t_sightings_size) ≤ x17_4) : v_t_sightings_size ≤ 6 := by grind [f_X2_size]
/- inv0@70>17 -/ theorem s_X6_endsAsSeen_5 (v_t_sightings_size : Int32) (x17_4 : Int32) (hp0 : 0 ≤ v_t_sightings_size) (hp1 : v_t_sightings_size ≤ 6) (hi17_0 : 0 ≤ x17_4) (c_26 : ¬ (f_X2_size v_t_sightings_size) ≤ x17_4) : 0 ≤ (x17_4 + 1) := by grind [f_X2_size]
/- hp0@48 -/ theorem s_X6_endsAsSeen_6 (v_t_sightings_size : Int32) (f_t_sightings_contracts : Nat → Int32) (x1 : Int32) (x17_4 : Int32) (hp0 : 0 ≤ v_t_sightings_size) (hp1 : v_t_sightings_size ≤ 6) (hi17_0 : 0 ≤ x17_4) (c_26 : ¬ (f_X2_size v_t_sightings_size) ≤ x17_4) (c_39 : (f_X2_contractAt v_t_sightings_size f_t_sightings_contracts x17_4) = x1) : 0 ≤ v_t_sightings_size := by grind [f_X2_contractAt, f_X2_size]
/- hp1@48 -/ theorem s_X6_endsAsSeen_7 (v_t_sightings_size : Int32) (f_t_sightings_contracts : Nat → Int32) (x1 : Int32) (x17_4 : Int32) (hp0 : 0 ≤ v_t_sightings_size) (hp1 : v_t_sightings_size ≤ 6) (hi17_0 : 0 ≤ x17_4) (c_26 : ¬ (f_X2_size v_t_sightings_size) ≤ x17_4) (c_39 : (f_X2_contractAt v_t_sightings_size f_t_sightings_contracts x17_4) = x1) : v_t_sightings_size ≤ 6 := by grind [f_X2_contractAt, f_X2_size]
/- inv0@15>17 -/ theorem s_X6_endsAsSeen_8  : 0 ≤ (0 : Int32) := by grind
set_option maxHeartbeats 4000000 in
set_option maxRecDepth 100000 in
theorem c_X6_endsAsSeen (l : Launch) (D : va_G) (cI cZ cO : ClassId) (a_t : Nat) (a_t_text : Nat) (a_t_told : Nat) (a_t_draft : Nat) (a_t_now : Nat) (a_t_acts : Nat) (a_t_sightings : Nat) (a_t_sides : Nat) (a_t_kept : Nat) (v_t_keptSlots : Int32) (v_t_theSeed : Int64) (a_t_told_sizes : Nat) (a_t_told_cells : Nat) (f_t_told_cells : Nat → Int32) (v_t_now_place : Int32) (v_t_now_voided : Int32) (v_t_now_counted : Int32) (a_t_sightings_contracts : Nat) (a_t_sightings_days : Nat) (v_t_sightings_size : Int32) (f_t_sightings_contracts : Nat → Int32) (f_t_sightings_days : Nat → Int32) (x1 : Int32) (x2 : Int32) (hp0 : 0 ≤ v_t_sightings_size) (hp1 : v_t_sightings_size ≤ 6) : Met l yX6_endsAsSeen wsX6_endsAsSeen ({ frames := 4, cells := 0, slots := 0, locals := 91 }) (PcP D (tysG cI cZ cO) [.ref a_t, .int x1, .int x2] [(a_t, .inr (6, [.ref a_t_text, .ref a_t_told, .ref a_t_draft, .ref a_t_now, .ref a_t_acts, .ref a_t_sightings, .ref a_t_sides, .ref a_t_kept, .int v_t_keptSlots, .long v_t_theSeed])), (a_t_told, .inr (5, [.ref a_t_told_sizes, .ref a_t_told_cells])), (a_t_told_cells, .inl (cI, 120, .inl f_t_told_cells)), (a_t_now, .inr (3, [.int v_t_now_place, .int v_t_now_voided, .int v_t_now_counted])), (a_t_sightings, .inr (2, [.ref a_t_sightings_contracts, .ref a_t_sightings_days, .int v_t_sightings_size])), (a_t_sightings_contracts, .inl (cI, 6, .inl f_t_sightings_contracts)), (a_t_sightings_days, .inl (cI, 6, .inl f_t_sightings_days))]) (QP (.int (f_X6_endsAsSeen f_t_told_cells v_t_now_place v_t_sightings_size f_t_sightings_contracts f_t_sightings_days x1 x2))) 0 0 (fun _ => False) := by
  refine Met.ofW (cc := cX6_endsAsSeen) (maxL := 5) (ret := (some .boolean)) (by decide) rfl ?_
  intro p e s m args below meth c s₁ B hml hv
  obtain ⟨rfl, hP, hKX⟩ := hv
  have hx := B.exec
  have hb := B.bytes
  have hr := B.returns
  have hts := atoms_spec (ws := wsX6_endsAsSeen) B.pre
  have hown : s.vm.findClass RX6 = some m.cls := findClass_of_methodNamed B.named
  have hlocks := B.notSynchronized
  have hK := hKX.1
  have hwX3 : ∀ w ∈ wsX30, w ∈ wsX6_endsAsSeen := by decide +kernel
  have hwX6 : ∀ w ∈ wsX60, w ∈ wsX6_endsAsSeen := by decide +kernel
  have hl := lv_entry ([.ref a_t, .int x1, .int x2]) (n := 5) (Nat.le_of_ble_eq_true rfl)
  rw [lg_entry_eq]
  generalize (lg_sl ([.ref a_t, .int x1, .int x2]) ++ List.replicate (5 - (lg_sl ([.ref a_t, .int x1, .int x2])).length) Slot.unset).toArray = ls at hl ⊢
  have hl : lv_has ls 5 [(0, .ref a_t), (1, .int x1), (2, .int x2)] := hl
  have hf := f_X6_endsAsSeen.eq_1 f_t_told_cells v_t_now_place v_t_sightings_size f_t_sightings_contracts f_t_sightings_days x1 x2
  refine lv_aload_n hx hb dX6_endsAsSeen_0 rfl (lv_at hl 0 rfl) ?_
  refine lv_iload_n hx hb dX6_endsAsSeen_1 rfl (lv_at hl 1 rfl) ?_
  refine lv_iload_n hx hb dX6_endsAsSeen_2 rfl (lv_at hl 2 rfl) ?_
  refine lv_aload_n hx hb dX6_endsAsSeen_3 rfl (lv_at hl 0 rfl) ?_
  refine va_get (D := D) (ci := 6) (v := .ref a_t_now) (C := RX6) (T := TX6) (N := 10) hx hb hts hwX6 hown hK hP 0 rfl rfl 3 (by decide) (hts (.fieldLink RX6 29 "SkippedDay" "now" "LSkippedDay$Standing;") (by decide +kernel)) (fun _ h9 => h9) rfl dX6_endsAsSeen_4 ?_
  refine va_getN (host := RX6) (D := D) (ci := 3) (v := .int v_t_now_place) (C := RX3) (T := TX3) (N := 3) hx hb hts hwX3 hown hK hP 3 rfl rfl 0 (by decide) (va_Nw.use rfl hKX.2.1) (fun _ h9 => h9) rfl dX6_endsAsSeen_7 ?_
  refine pcV (As := [.int x1, .int x2, .int v_t_now_place]) (rest := []) ⟨hx, hb, hml, hown, hts⟩ (c_X6_endOf l D cI cZ cO a_t a_t_text a_t_told a_t_draft a_t_now a_t_acts a_t_sightings a_t_sides a_t_kept v_t_keptSlots v_t_theSeed a_t_told_sizes a_t_told_cells f_t_told_cells x1 x2 v_t_now_place) (cwV 3 hts gX6_endsAsSeen_X6_endOf rfl rfl rfl (by decide +kernel) ⟨Nat.le_of_ble_eq_true rfl, Nat.le_of_ble_eq_true rfl⟩) hKX hP [0, 1, 2] rfl 0 6 rfl rfl rfl rfl hl.1 rfl (Nat.le_of_ble_eq_true rfl) dX6_endsAsSeen_10 ⟨Nat.le_of_ble_eq_true rfl, Nat.le_of_ble_eq_true rfl⟩ ?_
  refine lv_istore_n (lv' := [(3, .int (f_X6_endOf f_t_told_cells x1 x2 v_t_now_place)), (0, .ref a_t), (1, .int x1), (2, .int x2)]) hx hb dX6_endsAsSeen_13 rfl hl (by decide) rfl (fun ls hl => ?_)
  refine lv_iconst (v := 0) hx hb dX6_endsAsSeen_14 (by decide) ?_
  refine lv_istore (lv' := [(4, .int 0), (3, .int (f_X6_endOf f_t_told_cells x1 x2 v_t_now_place)), (0, .ref a_t), (1, .int x1), (2, .int x2)]) hx hb dX6_endsAsSeen_15 hl (by decide) rfl (fun ls hl => ?_)
  have hJ_17 : ∀ (n17 : Nat) (x17_4 : Int32), f_X6_endsAsSeen f_t_told_cells v_t_now_place v_t_sightings_size f_t_sightings_contracts f_t_sightings_days x1 x2 = it1 (f_X6_endsAsSeen_b17 f_t_told_cells v_t_now_place v_t_sightings_size f_t_sightings_contracts f_t_sightings_days x1 x2) default n17 x17_4 → ((f_X2_size v_t_sightings_size).toInt - x17_4.toInt).toNat < n17 → (0 ≤ x17_4) → ∀ (ls : Array Slot), lv_has ls 5 [(0, .ref a_t), (1, .int x1), (3, .int (f_X6_endOf f_t_told_cells x1 x2 v_t_now_place)), (4, .int x17_4)] → W p l e (headSpec wsX6_endsAsSeen { frames := 4, cells := 0, slots := 0, locals := 91 }).room s m [.ref a_t, .int x1, .int x2].toArray below meth c s.heap [] 0 0 (MQ below (QP (.int (f_X6_endsAsSeen f_t_told_cells v_t_now_place v_t_sightings_size f_t_sightings_contracts f_t_sightings_days x1 x2))) [.ref a_t, .int x1, .int x2].toArray s 0 0 (fun _ => False)) (F0 m 17 ls []) := by
    intro n17
    induction n17 with
    | zero => intro x17_4 hf hm17; exact absurd hm17 (Nat.not_lt_zero _)
    | succ n17 ih17 =>
      intro x17_4 hf hm17 hi17_0 ls hl
      replace hf := (hf.trans (it1_s _ _ _ _)).trans (f_X6_endsAsSeen_b17.eq_1 _ _ _ _ _ _ _ _ _)
      refine lv_iload hx hb dX6_endsAsSeen_17 (lv_at hl 3 rfl) ?_
      refine lv_aload_n hx hb dX6_endsAsSeen_19 rfl (lv_at hl 0 rfl) ?_
      refine va_get (D := D) (ci := 6) (v := .ref a_t_sightings) (C := RX6) (T := TX6) (N := 10) hx hb hts hwX6 hown hK hP 0 rfl rfl 5 (by decide) (hts (.fieldLink RX6 43 "SkippedDay" "sightings" "LSkippedDay$Sightings;") (by decide +kernel)) (fun _ h9 => h9) rfl dX6_endsAsSeen_20 ?_
      refine pcV (As := []) (rest := [.int x17_4]) ⟨hx, hb, hml, hown, hts⟩ (c_X2_size l D cI cZ cO a_t_sightings a_t_sightings_contracts a_t_sightings_days v_t_sightings_size (s_X6_endsAsSeen_1 v_t_sightings_size hp0 hp1) (s_X6_endsAsSeen_2 v_t_sightings_size hp0 hp1)) (cwV 0 hts gX6_endsAsSeen_X2_size rfl rfl rfl (by decide +kernel) ⟨Nat.le_of_ble_eq_true rfl, Nat.le_of_ble_eq_true rfl⟩) hKX hP [4] rfl 4 2 rfl rfl rfl rfl hl.1 rfl (Nat.le_of_ble_eq_true rfl) dX6_endsAsSeen_23 ⟨Nat.le_of_ble_eq_true rfl, Nat.le_of_ble_eq_true rfl⟩ ?_
      refine lv_icmp_ge (tgt := 73) hx hb dX6_endsAsSeen_26 (by decide) (fun c_26 => ?_) (fun c_26 => ?_)
      · replace hf := hf.trans (if_pos c_26)
        refine lv_iconst (v := 1) hx hb dX6_endsAsSeen_73 (by decide) ?_
        exact W.zret (ty := .boolean) (v := 1) hx hb hr rfl (fun t ht hW => ⟨congrArg (fun z => Outcome.returned (some (Value.int z))) hf.symm, ht⟩) (fun _ h => absurd h List.not_mem_nil) dX6_endsAsSeen_74
      · replace hf := hf.trans (if_neg c_26)
        refine lv_aload_n hx hb dX6_endsAsSeen_29 rfl (lv_at hl 0 rfl) ?_
        refine va_get (D := D) (ci := 6) (v := .ref a_t_sightings) (C := RX6) (T := TX6) (N := 10) hx hb hts hwX6 hown hK hP 0 rfl rfl 5 (by decide) (hts (.fieldLink RX6 43 "SkippedDay" "sightings" "LSkippedDay$Sightings;") (by decide +kernel)) (fun _ h9 => h9) rfl dX6_endsAsSeen_30 ?_
        refine lv_iload hx hb dX6_endsAsSeen_33 (lv_at hl 3 rfl) ?_
        refine pcV (As := [.int x17_4]) (rest := []) ⟨hx, hb, hml, hown, hts⟩ (c_X2_contractAt l D cI cZ cO a_t_sightings a_t_sightings_contracts a_t_sightings_days v_t_sightings_size f_t_sightings_contracts x17_4 (s_X6_endsAsSeen_3 v_t_sightings_size x17_4 hp0 hp1 hi17_0 c_26) (s_X6_endsAsSeen_4 v_t_sightings_size x17_4 hp0 hp1 hi17_0 c_26)) (cwV 1 hts gX6_endsAsSeen_X2_contractAt rfl rfl rfl (by decide +kernel) ⟨Nat.le_of_ble_eq_true rfl, Nat.le_of_ble_eq_true rfl⟩) hKX hP [4, 5] rfl 4 2 rfl rfl rfl rfl hl.1 rfl (Nat.le_of_ble_eq_true rfl) dX6_endsAsSeen_35 ⟨Nat.le_of_ble_eq_true rfl, Nat.le_of_ble_eq_true rfl⟩ ?_
        refine lv_iload_n hx hb dX6_endsAsSeen_38 rfl (lv_at hl 1 rfl) ?_
        have hJ_67 : f_X6_endsAsSeen f_t_told_cells v_t_now_place v_t_sightings_size f_t_sightings_contracts f_t_sightings_days x1 x2 = f_X6_endsAsSeen_j67 x17_4 ((it1 (f_X6_endsAsSeen_b17 f_t_told_cells v_t_now_place v_t_sightings_size f_t_sightings_contracts f_t_sightings_days x1 x2) default n17)) → ∀ (ls : Array Slot), lv_has ls 5 [(0, .ref a_t), (1, .int x1), (3, .int (f_X6_endOf f_t_told_cells x1 x2 v_t_now_place)), (4, .int x17_4)] → W p l e (headSpec wsX6_endsAsSeen { frames := 4, cells := 0, slots := 0, locals := 91 }).room s m [.ref a_t, .int x1, .int x2].toArray below meth c s.heap [] 0 0 (MQ below (QP (.int (f_X6_endsAsSeen f_t_told_cells v_t_now_place v_t_sightings_size f_t_sightings_contracts f_t_sightings_days x1 x2))) [.ref a_t, .int x1, .int x2].toArray s 0 0 (fun _ => False)) (F0 m 67 ls []) := by
          intro hf ls hl
          replace hf := hf.trans (f_X6_endsAsSeen_j67.eq_1 _ _)
          refine lv_iinc (v := x17_4 + 1) (lv' := [(4, .int (x17_4 + 1)), (0, .ref a_t), (1, .int x1), (3, .int (f_X6_endOf f_t_told_cells x1 x2 v_t_now_place))]) hx hb dX6_endsAsSeen_67 hl (k := 3) rfl rfl (by decide) rfl (fun ls hl => ?_)
          refine lv_goto (tgt := 17) hx hb dX6_endsAsSeen_70 (by decide) ?_
          exact ih17 (x17_4 + 1) hf (mu_up c_26 hm17) (s_X6_endsAsSeen_5 v_t_sightings_size x17_4 hp0 hp1 hi17_0 c_26) _ (lv_sub hl [1, 2, 3, 0] rfl)
        refine lv_icmp_ne (tgt := 67) hx hb dX6_endsAsSeen_39 (by decide) (fun c_39 => ?_) (fun c_39 => ?_)
        · replace hf := hf.trans (if_pos c_39)
          exact hJ_67 hf _ (lv_sub hl [0, 1, 2, 3] rfl)
        · replace hf := hf.trans (if_neg (fun h9 => h9 c_39))
          refine lv_aload_n hx hb dX6_endsAsSeen_42 rfl (lv_at hl 0 rfl) ?_
          refine va_get (D := D) (ci := 6) (v := .ref a_t_sightings) (C := RX6) (T := TX6) (N := 10) hx hb hts hwX6 hown hK hP 0 rfl rfl 5 (by decide) (hts (.fieldLink RX6 43 "SkippedDay" "sightings" "LSkippedDay$Sightings;") (by decide +kernel)) (fun _ h9 => h9) rfl dX6_endsAsSeen_43 ?_
          refine lv_iload hx hb dX6_endsAsSeen_46 (lv_at hl 3 rfl) ?_
          refine pcV (As := [.int x17_4]) (rest := []) ⟨hx, hb, hml, hown, hts⟩ (c_X2_dayAt l D cI cZ cO a_t_sightings a_t_sightings_contracts a_t_sightings_days v_t_sightings_size f_t_sightings_days x17_4 (s_X6_endsAsSeen_6 v_t_sightings_size f_t_sightings_contracts x1 x17_4 hp0 hp1 hi17_0 c_26 c_39) (s_X6_endsAsSeen_7 v_t_sightings_size f_t_sightings_contracts x1 x17_4 hp0 hp1 hi17_0 c_26 c_39)) (cwV 1 hts gX6_endsAsSeen_X2_dayAt rfl rfl rfl (by decide +kernel) ⟨Nat.le_of_ble_eq_true rfl, Nat.le_of_ble_eq_true rfl⟩) hKX hP [4, 6] rfl 4 2 rfl rfl rfl rfl hl.1 rfl (Nat.le_of_ble_eq_true rfl) dX6_endsAsSeen_48 ⟨Nat.le_of_ble_eq_true rfl, Nat.le_of_ble_eq_true rfl⟩ ?_
          refine lv_aload_n hx hb dX6_endsAsSeen_51 rfl (lv_at hl 0 rfl) ?_
          refine va_get (D := D) (ci := 6) (v := .ref a_t_now) (C := RX6) (T := TX6) (N := 10) hx hb hts hwX6 hown hK hP 0 rfl rfl 3 (by decide) (hts (.fieldLink RX6 29 "SkippedDay" "now" "LSkippedDay$Standing;") (by decide +kernel)) (fun _ h9 => h9) rfl dX6_endsAsSeen_52 ?_
          refine va_getN (host := RX6) (D := D) (ci := 3) (v := .int v_t_now_place) (C := RX3) (T := TX3) (N := 3) hx hb hts hwX3 hown hK hP 3 rfl rfl 0 (by decide) (va_Nw.use rfl hKX.2.1) (fun _ h9 => h9) rfl dX6_endsAsSeen_55 ?_
          refine pcS (As := [.int (f_X2_dayAt v_t_sightings_size f_t_sightings_days x17_4), .int v_t_now_place]) (rest := []) ⟨hx, hb, hml, hown, hts⟩ (c_X6_comingOf l D cI cZ cO (f_X2_dayAt v_t_sightings_size f_t_sightings_days x17_4) v_t_now_place) (va_cwS 2 hts gX6_endsAsSeen_X6_comingOf rfl rfl rfl (by decide +kernel) ⟨Nat.le_of_ble_eq_true rfl, Nat.le_of_ble_eq_true rfl⟩) hKX hP [] rfl rfl hl.1 rfl (Nat.le_of_ble_eq_true rfl) dX6_endsAsSeen_58 ⟨Nat.le_of_ble_eq_true rfl, Nat.le_of_ble_eq_true rfl⟩ ?_
          refine lv_iload_n hx hb dX6_endsAsSeen_61 rfl (lv_at hl 2 rfl) ?_
          refine lv_icmp_eq (tgt := 67) hx hb dX6_endsAsSeen_62 (by decide) (fun c_62 => ?_) (fun c_62 => ?_)
          · replace hf := hf.trans (if_pos c_62)
            exact hJ_67 hf _ (lv_sub hl [0, 1, 2, 3] rfl)
          · replace hf := hf.trans (if_neg c_62)
            refine lv_iconst (v := 0) hx hb dX6_endsAsSeen_65 (by decide) ?_
            exact W.zret (ty := .boolean) (v := 0) hx hb hr rfl (fun t ht hW => ⟨congrArg (fun z => Outcome.returned (some (Value.int z))) hf.symm, ht⟩) (fun _ h => absurd h List.not_mem_nil) dX6_endsAsSeen_66
  exact hJ_17 _ 0 hf (Nat.lt_succ_self _) s_X6_endsAsSeen_8 _ (lv_sub hl [2, 3, 1, 0] rfl)

def f_X6_meant_j24 (f_t_told_cells : Nat → Int32) (v_t_now_place : Int32) (v_t_sightings_size : Int32) (f_t_sightings_contracts : Nat → Int32) (f_t_sightings_days : Nat → Int32) (x1 : Int32) (x24_2 : Int32) : Int32 :=
  if (f_X6_endsAsSeen f_t_told_cells v_t_now_place v_t_sightings_size f_t_sightings_contracts f_t_sightings_days x1 1) = 0 then x24_2 else x24_2 + 2
def f_X6_meant (f_t_told_sizes : Nat → Int32) (f_t_told_cells : Nat → Int32) (v_t_now_place : Int32) (v_t_sightings_size : Int32) (f_t_sightings_contracts : Nat → Int32) (f_t_sightings_days : Nat → Int32) (x1 : Int32) : Int32 :=
  if ¬ (f_X6_isContract f_t_told_sizes x1) = 0 then if (f_X6_endsAsSeen f_t_told_cells v_t_now_place v_t_sightings_size f_t_sightings_contracts f_t_sightings_days x1 0) = 0 then f_X6_meant_j24 f_t_told_cells v_t_now_place v_t_sightings_size f_t_sightings_contracts f_t_sightings_days x1 0 else f_X6_meant_j24 f_t_told_cells v_t_now_place v_t_sightings_size f_t_sightings_contracts f_t_sightings_days x1 (0 + 1) else (-1)
/- hp0@15 -/ theorem s_X6_meant_1 (v_t_sightings_size : Int32) (hp0 : 0 ≤ v_t_sightings_size) (hp1 : v_t_sightings_size ≤ 6) : 0 ≤ v_t_sightings_size := by grind
/- hp1@15 -/ theorem s_X6_meant_2 (v_t_sightings_size : Int32) (hp0 : 0 ≤ v_t_sightings_size) (hp1 : v_t_sightings_size ≤ 6) : v_t_sightings_size ≤ 6 := by grind
/- hp0@27 -/ theorem s_X6_meant_3 (v_t_sightings_size : Int32) (hp0 : 0 ≤ v_t_sightings_size) (hp1 : v_t_sightings_size ≤ 6) : 0 ≤ v_t_sightings_size := by grind
/- hp1@27 -/ theorem s_X6_meant_4 (v_t_sightings_size : Int32) (hp0 : 0 ≤ v_t_sightings_size) (hp1 : v_t_sightings_size ≤ 6) : v_t_sightings_size ≤ 6 := by grind
set_option maxHeartbeats 4000000 in
set_option maxRecDepth 100000 in
theorem c_X6_meant (l : Launch) (D : va_G) (cI cZ cO : ClassId) (a_t : Nat) (a_t_text : Nat) (a_t_told : Nat) (a_t_draft : Nat) (a_t_now : Nat) (a_t_acts : Nat) (a_t_sightings : Nat) (a_t_sides : Nat) (a_t_kept : Nat) (v_t_keptSlots : Int32) (v_t_theSeed : Int64) (a_t_told_sizes : Nat) (a_t_told_cells : Nat) (f_t_told_sizes : Nat → Int32) (f_t_told_cells : Nat → Int32) (v_t_now_place : Int32) (v_t_now_voided : Int32) (v_t_now_counted : Int32) (a_t_sightings_contracts : Nat) (a_t_sightings_days : Nat) (v_t_sightings_size : Int32) (f_t_sightings_contracts : Nat → Int32) (f_t_sightings_days : Nat → Int32) (x1 : Int32) (hp0 : 0 ≤ v_t_sightings_size) (hp1 : v_t_sightings_size ≤ 6) : Met l yX6_meant wsX6_meant ({ frames := 5, cells := 0, slots := 0, locals := 115 }) (PcP D (tysG cI cZ cO) [.ref a_t, .int x1] [(a_t, .inr (6, [.ref a_t_text, .ref a_t_told, .ref a_t_draft, .ref a_t_now, .ref a_t_acts, .ref a_t_sightings, .ref a_t_sides, .ref a_t_kept, .int v_t_keptSlots, .long v_t_theSeed])), (a_t_told, .inr (5, [.ref a_t_told_sizes, .ref a_t_told_cells])), (a_t_told_sizes, .inl (cI, 4, .inl f_t_told_sizes)), (a_t_told_cells, .inl (cI, 120, .inl f_t_told_cells)), (a_t_now, .inr (3, [.int v_t_now_place, .int v_t_now_voided, .int v_t_now_counted])), (a_t_sightings, .inr (2, [.ref a_t_sightings_contracts, .ref a_t_sightings_days, .int v_t_sightings_size])), (a_t_sightings_contracts, .inl (cI, 6, .inl f_t_sightings_contracts)), (a_t_sightings_days, .inl (cI, 6, .inl f_t_sightings_days))]) (QP (.int (f_X6_meant f_t_told_sizes f_t_told_cells v_t_now_place v_t_sightings_size f_t_sightings_contracts f_t_sightings_days x1))) 0 0 (fun _ => False) := by
  refine Met.ofW (cc := cX6_meant) (maxL := 3) (ret := (some .int)) (by decide) rfl ?_
  intro p e s m args below meth c s₁ B hml hv
  obtain ⟨rfl, hP, hKX⟩ := hv
  have hx := B.exec
  have hb := B.bytes
  have hr := B.returns
  have hts := atoms_spec (ws := wsX6_meant) B.pre
  have hown : s.vm.findClass RX6 = some m.cls := findClass_of_methodNamed B.named
  have hlocks := B.notSynchronized
  have hK := hKX.1
  have hl := lv_entry ([.ref a_t, .int x1]) (n := 3) (Nat.le_of_ble_eq_true rfl)
  rw [lg_entry_eq]
  generalize (lg_sl ([.ref a_t, .int x1]) ++ List.replicate (3 - (lg_sl ([.ref a_t, .int x1])).length) Slot.unset).toArray = ls at hl ⊢
  have hl : lv_has ls 3 [(0, .ref a_t), (1, .int x1)] := hl
  have hf := f_X6_meant.eq_1 f_t_told_sizes f_t_told_cells v_t_now_place v_t_sightings_size f_t_sightings_contracts f_t_sightings_days x1
  refine lv_aload_n hx hb dX6_meant_0 rfl (lv_at hl 0 rfl) ?_
  refine lv_iload_n hx hb dX6_meant_1 rfl (lv_at hl 1 rfl) ?_
  refine pcV (As := [.int x1]) (rest := []) ⟨hx, hb, hml, hown, hts⟩ (c_X6_isContract l D cI cZ cO a_t a_t_text a_t_told a_t_draft a_t_now a_t_acts a_t_sightings a_t_sides a_t_kept v_t_keptSlots v_t_theSeed a_t_told_sizes a_t_told_cells f_t_told_sizes x1) (cwV 1 hts gX6_meant_X6_isContract rfl rfl rfl (by decide +kernel) ⟨Nat.le_of_ble_eq_true rfl, Nat.le_of_ble_eq_true rfl⟩) hKX hP [0, 1, 2] rfl 0 6 rfl rfl rfl rfl hl.1 rfl (Nat.le_of_ble_eq_true rfl) dX6_meant_2 ⟨Nat.le_of_ble_eq_true rfl, Nat.le_of_ble_eq_true rfl⟩ ?_
  refine lv_if_ne (tgt := 10) hx hb dX6_meant_5 (by decide) (fun c_5 => ?_) (fun c_5 => ?_)
  · replace hf := hf.trans (if_pos c_5)
    refine lv_iconst (v := 0) hx hb dX6_meant_10 (by decide) ?_
    refine lv_istore_n (lv' := [(2, .int 0), (0, .ref a_t), (1, .int x1)]) hx hb dX6_meant_11 rfl hl (by decide) rfl (fun ls hl => ?_)
    refine lv_aload_n hx hb dX6_meant_12 rfl (lv_at hl 1 rfl) ?_
    refine lv_iload_n hx hb dX6_meant_13 rfl (lv_at hl 2 rfl) ?_
    refine lv_iconst (v := 0) hx hb dX6_meant_14 (by decide) ?_
    refine pcV (As := [.int x1, .int 0]) (rest := []) ⟨hx, hb, hml, hown, hts⟩ (c_X6_endsAsSeen l D cI cZ cO a_t a_t_text a_t_told a_t_draft a_t_now a_t_acts a_t_sightings a_t_sides a_t_kept v_t_keptSlots v_t_theSeed a_t_told_sizes a_t_told_cells f_t_told_cells v_t_now_place v_t_now_voided v_t_now_counted a_t_sightings_contracts a_t_sightings_days v_t_sightings_size f_t_sightings_contracts f_t_sightings_days x1 0 (s_X6_meant_1 v_t_sightings_size hp0 hp1) (s_X6_meant_2 v_t_sightings_size hp0 hp1)) (cwV 2 hts gX6_meant_X6_endsAsSeen rfl rfl rfl (by decide +kernel) ⟨Nat.le_of_ble_eq_true rfl, Nat.le_of_ble_eq_true rfl⟩) hKX hP [0, 1, 3, 4, 5, 6, 7] rfl 0 6 rfl rfl rfl rfl hl.1 rfl (Nat.le_of_ble_eq_true rfl) dX6_meant_15 ⟨Nat.le_of_ble_eq_true rfl, Nat.le_of_ble_eq_true rfl⟩ ?_
    have hJ_24 : ∀ (x24_2 : Int32), f_X6_meant f_t_told_sizes f_t_told_cells v_t_now_place v_t_sightings_size f_t_sightings_contracts f_t_sightings_days x1 = f_X6_meant_j24 f_t_told_cells v_t_now_place v_t_sightings_size f_t_sightings_contracts f_t_sightings_days x1 x24_2 → ∀ (ls : Array Slot), lv_has ls 3 [(0, .ref a_t), (1, .int x1), (2, .int x24_2)] → W p l e (headSpec wsX6_meant { frames := 5, cells := 0, slots := 0, locals := 115 }).room s m [.ref a_t, .int x1].toArray below meth c s.heap [] 0 0 (MQ below (QP (.int (f_X6_meant f_t_told_sizes f_t_told_cells v_t_now_place v_t_sightings_size f_t_sightings_contracts f_t_sightings_days x1))) [.ref a_t, .int x1].toArray s 0 0 (fun _ => False)) (F0 m 24 ls []) := by
      intro x24_2 hf ls hl
      replace hf := hf.trans (f_X6_meant_j24.eq_1 _ _ _ _ _ _ _)
      refine lv_aload_n hx hb dX6_meant_24 rfl (lv_at hl 0 rfl) ?_
      refine lv_iload_n hx hb dX6_meant_25 rfl (lv_at hl 1 rfl) ?_
      refine lv_iconst (v := 1) hx hb dX6_meant_26 (by decide) ?_
      refine pcV (As := [.int x1, .int 1]) (rest := []) ⟨hx, hb, hml, hown, hts⟩ (c_X6_endsAsSeen l D cI cZ cO a_t a_t_text a_t_told a_t_draft a_t_now a_t_acts a_t_sightings a_t_sides a_t_kept v_t_keptSlots v_t_theSeed a_t_told_sizes a_t_told_cells f_t_told_cells v_t_now_place v_t_now_voided v_t_now_counted a_t_sightings_contracts a_t_sightings_days v_t_sightings_size f_t_sightings_contracts f_t_sightings_days x1 1 (s_X6_meant_3 v_t_sightings_size hp0 hp1) (s_X6_meant_4 v_t_sightings_size hp0 hp1)) (cwV 2 hts gX6_meant_X6_endsAsSeen rfl rfl rfl (by decide +kernel) ⟨Nat.le_of_ble_eq_true rfl, Nat.le_of_ble_eq_true rfl⟩) hKX hP [0, 1, 3, 4, 5, 6, 7] rfl 0 6 rfl rfl rfl rfl hl.1 rfl (Nat.le_of_ble_eq_true rfl) dX6_meant_27 ⟨Nat.le_of_ble_eq_true rfl, Nat.le_of_ble_eq_true rfl⟩ ?_
      refine lv_if_eq (tgt := 36) hx hb dX6_meant_30 (by decide) (fun c_30 => ?_) (fun c_30 => ?_)
      · replace hf := hf.trans (if_pos c_30)
        refine lv_iload_n hx hb dX6_meant_36 rfl (lv_at hl 2 rfl) ?_
        exact W.iret (v := x24_2) hx hb hr (fun t ht hW => ⟨congrArg (fun z => Outcome.returned (some (Value.int z))) hf.symm, ht⟩) (fun _ h => absurd h List.not_mem_nil) dX6_meant_37
      · replace hf := hf.trans (if_neg c_30)
        refine lv_iinc (v := x24_2 + 2) (lv' := [(2, .int (x24_2 + 2)), (0, .ref a_t), (1, .int x1)]) hx hb dX6_meant_33 hl (k := 2) rfl rfl (by decide) rfl (fun ls hl => ?_)
        refine lv_iload_n hx hb dX6_meant_36 rfl (lv_at hl 0 rfl) ?_
        exact W.iret (v := x24_2 + 2) hx hb hr (fun t ht hW => ⟨congrArg (fun z => Outcome.returned (some (Value.int z))) hf.symm, ht⟩) (fun _ h => absurd h List.not_mem_nil) dX6_meant_37
    refine lv_if_eq (tgt := 24) hx hb dX6_meant_18 (by decide) (fun c_18 => ?_) (fun c_18 => ?_)
    · replace hf := hf.trans (if_pos c_18)
      exact hJ_24 0 hf _ (lv_sub hl [1, 2, 0] rfl)
    · replace hf := hf.trans (if_neg c_18)
      refine lv_iinc (v := 0 + 1) (lv' := [(2, .int (0 + 1)), (0, .ref a_t), (1, .int x1)]) hx hb dX6_meant_21 hl (k := 0) rfl rfl (by decide) rfl (fun ls hl => ?_)
      exact hJ_24 (0 + 1) hf _ (lv_sub hl [1, 2, 0] rfl)
  · replace hf := hf.trans (if_neg (fun h9 => h9 c_5))
    refine lv_iconst (v := (-1)) hx hb dX6_meant_8 (by decide) ?_
    exact W.iret (v := (-1)) hx hb hr (fun t ht hW => ⟨congrArg (fun z => Outcome.returned (some (Value.int z))) hf.symm, ht⟩) (fun _ h => absurd h List.not_mem_nil) dX6_meant_9

def f_X6_nameOf_j26 (y26_0 : Int32) : Int32 :=
  if 12 ≤ y26_0 then 13 else y26_0
def f_X6_nameOf_j14 (x0 : Int32) (x1 : Int32) : Int32 :=
  if x1 ≤ x0 then f_X6_nameOf_j26 (x0 - 1) else f_X6_nameOf_j26 x0
def f_X6_nameOf (x0 : Int32) (x1 : Int32) : Int32 :=
  if ¬ x0 = x1 then f_X6_nameOf_j14 x0 x1 else if x1 = 13 then f_X6_nameOf_j14 x0 x1 else 12
set_option maxHeartbeats 4000000 in
set_option maxRecDepth 100000 in
theorem c_X6_nameOf (l : Launch) (D : va_G) (cI cZ cO : ClassId) (x0 : Int32) (x1 : Int32) : Met l yX6_nameOf wsX6_nameOf ({ frames := 0, cells := 0, slots := 0, locals := 0 }) (PcP D (tysG cI cZ cO) [.int x0, .int x1] []) (QP (.int (f_X6_nameOf x0 x1))) 0 0 (fun _ => False) := by
  refine Met.ofW (cc := cX6_nameOf) (maxL := 3) (ret := (some .int)) (by decide) rfl ?_
  intro p e s m args below meth c s₁ B hml hv
  obtain ⟨rfl, hP, hKX⟩ := hv
  have hx := B.exec
  have hb := B.bytes
  have hr := B.returns
  have hts := atoms_spec (ws := wsX6_nameOf) B.pre
  have hown : s.vm.findClass RX6 = some m.cls := findClass_of_methodNamed B.named
  have hlocks := B.notSynchronized
  have hK := hKX.1
  have hl := lv_entry ([.int x0, .int x1]) (n := 3) (Nat.le_of_ble_eq_true rfl)
  rw [lg_entry_eq]
  generalize (lg_sl ([.int x0, .int x1]) ++ List.replicate (3 - (lg_sl ([.int x0, .int x1])).length) Slot.unset).toArray = ls at hl ⊢
  have hl : lv_has ls 3 [(0, .int x0), (1, .int x1)] := hl
  have hf := f_X6_nameOf.eq_1 x0 x1
  refine lv_iload_n hx hb dX6_nameOf_0 rfl (lv_at hl 0 rfl) ?_
  refine lv_iload_n hx hb dX6_nameOf_1 rfl (lv_at hl 1 rfl) ?_
  have hJ_14 : f_X6_nameOf x0 x1 = f_X6_nameOf_j14 x0 x1 → ∀ (ls : Array Slot), lv_has ls 3 [(0, .int x0), (1, .int x1)] → W p l e (headSpec wsX6_nameOf { frames := 0, cells := 0, slots := 0, locals := 0 }).room s m [.int x0, .int x1].toArray below meth c s.heap [] 0 0 (MQ below (QP (.int (f_X6_nameOf x0 x1))) [.int x0, .int x1].toArray s 0 0 (fun _ => False)) (F0 m 14 ls []) := by
    intro hf ls hl
    replace hf := hf.trans (f_X6_nameOf_j14.eq_1 _ _)
    refine lv_iload_n hx hb dX6_nameOf_14 rfl (lv_at hl 0 rfl) ?_
    refine lv_iload_n hx hb dX6_nameOf_15 rfl (lv_at hl 1 rfl) ?_
    have hJ_26 : ∀ (y26_0 : Int32), f_X6_nameOf x0 x1 = f_X6_nameOf_j26 y26_0 → ∀ (ls : Array Slot), lv_has ls 3 [] → W p l e (headSpec wsX6_nameOf { frames := 0, cells := 0, slots := 0, locals := 0 }).room s m [.int x0, .int x1].toArray below meth c s.heap [] 0 0 (MQ below (QP (.int (f_X6_nameOf x0 x1))) [.int x0, .int x1].toArray s 0 0 (fun _ => False)) (F0 m 26 ls [.int y26_0]) := by
      intro y26_0 hf ls hl
      replace hf := hf.trans (f_X6_nameOf_j26.eq_1 _)
      refine lv_istore_n (lv' := [(2, .int y26_0)]) hx hb dX6_nameOf_26 rfl hl (by decide) rfl (fun ls hl => ?_)
      refine lv_iload_n hx hb dX6_nameOf_27 rfl (lv_at hl 0 rfl) ?_
      refine lv_bipush (v := 12) hx hb dX6_nameOf_28 (by decide) ?_
      refine lv_icmp_ge (tgt := 37) hx hb dX6_nameOf_30 (by decide) (fun c_30 => ?_) (fun c_30 => ?_)
      · replace hf := hf.trans (if_pos c_30)
        refine lv_bipush (v := 13) hx hb dX6_nameOf_37 (by decide) ?_
        exact W.iret (v := 13) hx hb hr (fun t ht hW => ⟨congrArg (fun z => Outcome.returned (some (Value.int z))) hf.symm, ht⟩) (fun _ h => absurd h List.not_mem_nil) dX6_nameOf_39
      · replace hf := hf.trans (if_neg c_30)
        refine lv_iload_n hx hb dX6_nameOf_33 rfl (lv_at hl 0 rfl) ?_
        refine lv_goto (tgt := 39) hx hb dX6_nameOf_34 (by decide) ?_
        exact W.iret (v := y26_0) hx hb hr (fun t ht hW => ⟨congrArg (fun z => Outcome.returned (some (Value.int z))) hf.symm, ht⟩) (fun _ h => absurd h List.not_mem_nil) dX6_nameOf_39
    refine lv_icmp_ge (tgt := 23) hx hb dX6_nameOf_16 (by decide) (fun c_16 => ?_) (fun c_16 => ?_)
    · replace hf := hf.trans (if_pos c_16)
      refine lv_iload_n hx hb dX6_nameOf_23 rfl (lv_at hl 0 rfl) ?_
      refine lv_iconst (v := 1) hx hb dX6_nameOf_24 (by decide) ?_
      refine lv_isub hx hb dX6_nameOf_25 ?_
      exact hJ_26 (x0 - 1) hf _ (lv_sub hl [] rfl)
    · replace hf := hf.trans (if_neg c_16)
      refine lv_iload_n hx hb dX6_nameOf_19 rfl (lv_at hl 0 rfl) ?_
      refine lv_goto (tgt := 26) hx hb dX6_nameOf_20 (by decide) ?_
      exact hJ_26 x0 hf _ (lv_sub hl [] rfl)
  refine lv_icmp_ne (tgt := 14) hx hb dX6_nameOf_2 (by decide) (fun c_2 => ?_) (fun c_2 => ?_)
  · replace hf := hf.trans (if_pos c_2)
    exact hJ_14 hf _ (lv_sub hl [0, 1] rfl)
  · replace hf := hf.trans (if_neg (fun h9 => h9 c_2))
    refine lv_iload_n hx hb dX6_nameOf_5 rfl (lv_at hl 1 rfl) ?_
    refine lv_bipush (v := 13) hx hb dX6_nameOf_6 (by decide) ?_
    refine lv_icmp_eq (tgt := 14) hx hb dX6_nameOf_8 (by decide) (fun c_8 => ?_) (fun c_8 => ?_)
    · replace hf := hf.trans (if_pos c_8)
      exact hJ_14 hf _ (lv_sub hl [0, 1] rfl)
    · replace hf := hf.trans (if_neg c_8)
      refine lv_bipush (v := 12) hx hb dX6_nameOf_11 (by decide) ?_
      exact W.iret (v := 12) hx hb hr (fun t ht hW => ⟨congrArg (fun z => Outcome.returned (some (Value.int z))) hf.symm, ht⟩) (fun _ h => absurd h List.not_mem_nil) dX6_nameOf_13

def f_X6_ofAge (f_t_told_sizes : Nat → Int32) (f_t_told_cells : Nat → Int32) (x1 : Int32) (x2 : Int32) : Int32 :=
  if x1 < 0 then (-1) else if x1 < (f_X5_sizeOf f_t_told_sizes 1) then if ¬ (f_X6_isPlace x2) = 0 then f_X6_nameOf ((f_X6_comingOf (f_X5_birthDay f_t_told_cells x1) x2) + (f_X5_fullAge f_t_told_cells x1)) x2 else (-2) else (-1)
set_option maxHeartbeats 4000000 in
set_option maxRecDepth 100000 in
theorem c_X6_ofAge (l : Launch) (D : va_G) (cI cZ cO : ClassId) (a_t : Nat) (a_t_text : Nat) (a_t_told : Nat) (a_t_draft : Nat) (a_t_now : Nat) (a_t_acts : Nat) (a_t_sightings : Nat) (a_t_sides : Nat) (a_t_kept : Nat) (v_t_keptSlots : Int32) (v_t_theSeed : Int64) (a_t_told_sizes : Nat) (a_t_told_cells : Nat) (f_t_told_sizes : Nat → Int32) (f_t_told_cells : Nat → Int32) (x1 : Int32) (x2 : Int32) : Met l yX6_ofAge wsX6_ofAge ({ frames := 3, cells := 0, slots := 0, locals := 67 }) (PcP D (tysG cI cZ cO) [.ref a_t, .int x1, .int x2] [(a_t, .inr (6, [.ref a_t_text, .ref a_t_told, .ref a_t_draft, .ref a_t_now, .ref a_t_acts, .ref a_t_sightings, .ref a_t_sides, .ref a_t_kept, .int v_t_keptSlots, .long v_t_theSeed])), (a_t_told, .inr (5, [.ref a_t_told_sizes, .ref a_t_told_cells])), (a_t_told_sizes, .inl (cI, 4, .inl f_t_told_sizes)), (a_t_told_cells, .inl (cI, 120, .inl f_t_told_cells))]) (QP (.int (f_X6_ofAge f_t_told_sizes f_t_told_cells x1 x2))) 0 0 (fun _ => False) := by
  refine Met.ofW (cc := cX6_ofAge) (maxL := 3) (ret := (some .int)) (by decide) rfl ?_
  intro p e s m args below meth c s₁ B hml hv
  obtain ⟨rfl, hP, hKX⟩ := hv
  have hx := B.exec
  have hb := B.bytes
  have hr := B.returns
  have hts := atoms_spec (ws := wsX6_ofAge) B.pre
  have hown : s.vm.findClass RX6 = some m.cls := findClass_of_methodNamed B.named
  have hlocks := B.notSynchronized
  have hK := hKX.1
  have hwX6 : ∀ w ∈ wsX60, w ∈ wsX6_ofAge := by decide +kernel
  have hl := lv_entry ([.ref a_t, .int x1, .int x2]) (n := 3) (Nat.le_of_ble_eq_true rfl)
  rw [lg_entry_eq]
  generalize (lg_sl ([.ref a_t, .int x1, .int x2]) ++ List.replicate (3 - (lg_sl ([.ref a_t, .int x1, .int x2])).length) Slot.unset).toArray = ls at hl ⊢
  have hl : lv_has ls 3 [(0, .ref a_t), (1, .int x1), (2, .int x2)] := hl
  have hf := f_X6_ofAge.eq_1 f_t_told_sizes f_t_told_cells x1 x2
  refine lv_iload_n hx hb dX6_ofAge_0 rfl (lv_at hl 1 rfl) ?_
  refine lv_if_lt (tgt := 16) hx hb dX6_ofAge_1 (by decide) (fun c_1 => ?_) (fun c_1 => ?_)
  · replace hf := hf.trans (if_pos c_1)
    refine lv_iconst (v := (-1)) hx hb dX6_ofAge_16 (by decide) ?_
    exact W.iret (v := (-1)) hx hb hr (fun t ht hW => ⟨congrArg (fun z => Outcome.returned (some (Value.int z))) hf.symm, ht⟩) (fun _ h => absurd h List.not_mem_nil) dX6_ofAge_17
  · replace hf := hf.trans (if_neg c_1)
    refine lv_iload_n hx hb dX6_ofAge_4 rfl (lv_at hl 1 rfl) ?_
    refine lv_aload_n hx hb dX6_ofAge_5 rfl (lv_at hl 0 rfl) ?_
    refine va_get (D := D) (ci := 6) (v := .ref a_t_told) (C := RX6) (T := TX6) (N := 10) hx hb hts hwX6 hown hK hP 0 rfl rfl 1 (by decide) (hts (.fieldLink RX6 19 "SkippedDay" "told" "LSkippedDay$Told;") (by decide +kernel)) (fun _ h9 => h9) rfl dX6_ofAge_6 ?_
    refine lv_iconst (v := 1) hx hb dX6_ofAge_9 (by decide) ?_
    refine pcV (As := [.int 1]) (rest := [.int x1]) ⟨hx, hb, hml, hown, hts⟩ (c_X5_sizeOf l D cI cZ cO a_t_told a_t_told_sizes a_t_told_cells f_t_told_sizes 1) (cwV 1 hts gX6_ofAge_X5_sizeOf rfl rfl rfl (by decide +kernel) ⟨Nat.le_of_ble_eq_true rfl, Nat.le_of_ble_eq_true rfl⟩) hKX hP [1, 2] rfl 1 5 rfl rfl rfl rfl hl.1 rfl (Nat.le_of_ble_eq_true rfl) dX6_ofAge_10 ⟨Nat.le_of_ble_eq_true rfl, Nat.le_of_ble_eq_true rfl⟩ ?_
    refine lv_icmp_lt (tgt := 18) hx hb dX6_ofAge_13 (by decide) (fun c_13 => ?_) (fun c_13 => ?_)
    · replace hf := hf.trans (if_pos c_13)
      refine lv_iload_n hx hb dX6_ofAge_18 rfl (lv_at hl 2 rfl) ?_
      refine pcS (As := [.int x2]) (rest := []) ⟨hx, hb, hml, hown, hts⟩ (c_X6_isPlace l D cI cZ cO x2) (va_cwS 1 hts gX6_ofAge_X6_isPlace rfl rfl rfl (by decide +kernel) ⟨Nat.le_of_ble_eq_true rfl, Nat.le_of_ble_eq_true rfl⟩) hKX hP [] rfl rfl hl.1 rfl (Nat.le_of_ble_eq_true rfl) dX6_ofAge_19 ⟨Nat.le_of_ble_eq_true rfl, Nat.le_of_ble_eq_true rfl⟩ ?_
      refine lv_if_ne (tgt := 28) hx hb dX6_ofAge_22 (by decide) (fun c_22 => ?_) (fun c_22 => ?_)
      · replace hf := hf.trans (if_pos c_22)
        refine lv_aload_n hx hb dX6_ofAge_28 rfl (lv_at hl 0 rfl) ?_
        refine va_get (D := D) (ci := 6) (v := .ref a_t_told) (C := RX6) (T := TX6) (N := 10) hx hb hts hwX6 hown hK hP 0 rfl rfl 1 (by decide) (hts (.fieldLink RX6 19 "SkippedDay" "told" "LSkippedDay$Told;") (by decide +kernel)) (fun _ h9 => h9) rfl dX6_ofAge_29 ?_
        refine lv_iload_n hx hb dX6_ofAge_32 rfl (lv_at hl 1 rfl) ?_
        refine pcV (As := [.int x1]) (rest := []) ⟨hx, hb, hml, hown, hts⟩ (c_X5_birthDay l D cI cZ cO a_t_told a_t_told_sizes a_t_told_cells f_t_told_cells x1) (cwV 1 hts gX6_ofAge_X5_birthDay rfl rfl rfl (by decide +kernel) ⟨Nat.le_of_ble_eq_true rfl, Nat.le_of_ble_eq_true rfl⟩) hKX hP [1, 3] rfl 1 5 rfl rfl rfl rfl hl.1 rfl (Nat.le_of_ble_eq_true rfl) dX6_ofAge_33 ⟨Nat.le_of_ble_eq_true rfl, Nat.le_of_ble_eq_true rfl⟩ ?_
        refine lv_iload_n hx hb dX6_ofAge_36 rfl (lv_at hl 2 rfl) ?_
        refine pcS (As := [.int (f_X5_birthDay f_t_told_cells x1), .int x2]) (rest := []) ⟨hx, hb, hml, hown, hts⟩ (c_X6_comingOf l D cI cZ cO (f_X5_birthDay f_t_told_cells x1) x2) (va_cwS 2 hts gX6_ofAge_X6_comingOf rfl rfl rfl (by decide +kernel) ⟨Nat.le_of_ble_eq_true rfl, Nat.le_of_ble_eq_true rfl⟩) hKX hP [] rfl rfl hl.1 rfl (Nat.le_of_ble_eq_true rfl) dX6_ofAge_37 ⟨Nat.le_of_ble_eq_true rfl, Nat.le_of_ble_eq_true rfl⟩ ?_
        refine lv_aload_n hx hb dX6_ofAge_40 rfl (lv_at hl 0 rfl) ?_
        refine va_get (D := D) (ci := 6) (v := .ref a_t_told) (C := RX6) (T := TX6) (N := 10) hx hb hts hwX6 hown hK hP 0 rfl rfl 1 (by decide) (hts (.fieldLink RX6 19 "SkippedDay" "told" "LSkippedDay$Told;") (by decide +kernel)) (fun _ h9 => h9) rfl dX6_ofAge_41 ?_
        refine lv_iload_n hx hb dX6_ofAge_44 rfl (lv_at hl 1 rfl) ?_
        refine pcV (As := [.int x1]) (rest := [.int (f_X6_comingOf (f_X5_birthDay f_t_told_cells x1) x2)]) ⟨hx, hb, hml, hown, hts⟩ (c_X5_fullAge l D cI cZ cO a_t_told a_t_told_sizes a_t_told_cells f_t_told_cells x1) (cwV 1 hts gX6_ofAge_X5_fullAge rfl rfl rfl (by decide +kernel) ⟨Nat.le_of_ble_eq_true rfl, Nat.le_of_ble_eq_true rfl⟩) hKX hP [1, 3] rfl 1 5 rfl rfl rfl rfl hl.1 rfl (Nat.le_of_ble_eq_true rfl) dX6_ofAge_45 ⟨Nat.le_of_ble_eq_true rfl, Nat.le_of_ble_eq_true rfl⟩ ?_
        refine lv_iadd hx hb dX6_ofAge_48 ?_
        refine lv_iload_n hx hb dX6_ofAge_49 rfl (lv_at hl 2 rfl) ?_
        refine pcS (As := [.int ((f_X6_comingOf (f_X5_birthDay f_t_told_cells x1) x2) + (f_X5_fullAge f_t_told_cells x1)), .int x2]) (rest := []) ⟨hx, hb, hml, hown, hts⟩ (c_X6_nameOf l D cI cZ cO ((f_X6_comingOf (f_X5_birthDay f_t_told_cells x1) x2) + (f_X5_fullAge f_t_told_cells x1)) x2) (va_cwS 2 hts gX6_ofAge_X6_nameOf rfl rfl rfl (by decide +kernel) ⟨Nat.le_of_ble_eq_true rfl, Nat.le_of_ble_eq_true rfl⟩) hKX hP [] rfl rfl hl.1 rfl (Nat.le_of_ble_eq_true rfl) dX6_ofAge_50 ⟨Nat.le_of_ble_eq_true rfl, Nat.le_of_ble_eq_true rfl⟩ ?_
        exact W.iret (v := f_X6_nameOf ((f_X6_comingOf (f_X5_birthDay f_t_told_cells x1) x2) + (f_X5_fullAge f_t_told_cells x1)) x2) hx hb hr (fun t ht hW => ⟨congrArg (fun z => Outcome.returned (some (Value.int z))) hf.symm, ht⟩) (fun _ h => absurd h List.not_mem_nil) dX6_ofAge_53
      · replace hf := hf.trans (if_neg (fun h9 => h9 c_22))
        refine lv_bipush (v := (-2)) hx hb dX6_ofAge_25 (by decide) ?_
        exact W.iret (v := (-2)) hx hb hr (fun t ht hW => ⟨congrArg (fun z => Outcome.returned (some (Value.int z))) hf.symm, ht⟩) (fun _ h => absurd h List.not_mem_nil) dX6_ofAge_27
    · replace hf := hf.trans (if_neg c_13)
      refine lv_iconst (v := (-1)) hx hb dX6_ofAge_16 (by decide) ?_
      exact W.iret (v := (-1)) hx hb hr (fun t ht hW => ⟨congrArg (fun z => Outcome.returned (some (Value.int z))) hf.symm, ht⟩) (fun _ h => absurd h List.not_mem_nil) dX6_ofAge_17

def f_X6_comesOn (f_t_told_cells : Nat → Int32) (x1 : Int32) (x2 : Int32) : Int32 :=
  if (x2 - (f_X5_tideFirst f_t_told_cells x1)) < 0 then 0 else if (f_X5_tideEach f_t_told_cells x1) ≤ 0 then 0 else if ¬ ((x2 - (f_X5_tideFirst f_t_told_cells x1)) - (x2 - (f_X5_tideFirst f_t_told_cells x1)) / (f_X5_tideEach f_t_told_cells x1) * (f_X5_tideEach f_t_told_cells x1)) = 0 then 0 else 1
/- nz@33 -/ theorem s_X6_comesOn_1 (f_t_told_cells : Nat → Int32) (x1 : Int32) (x2 : Int32) (c_22 : ¬ (x2 - (f_X5_tideFirst f_t_told_cells x1)) < 0) (c_27 : ¬ (f_X5_tideEach f_t_told_cells x1) ≤ 0) : ¬ (f_X5_tideEach f_t_told_cells x1) = 0 := by grind [f_X5_tideEach, f_X5_tideFirst]
set_option maxHeartbeats 4000000 in
set_option maxRecDepth 100000 in
theorem c_X6_comesOn (l : Launch) (D : va_G) (cI cZ cO : ClassId) (a_t : Nat) (a_t_text : Nat) (a_t_told : Nat) (a_t_draft : Nat) (a_t_now : Nat) (a_t_acts : Nat) (a_t_sightings : Nat) (a_t_sides : Nat) (a_t_kept : Nat) (v_t_keptSlots : Int32) (v_t_theSeed : Int64) (a_t_told_sizes : Nat) (a_t_told_cells : Nat) (f_t_told_cells : Nat → Int32) (x1 : Int32) (x2 : Int32) : Met l yX6_comesOn wsX6_comesOn ({ frames := 3, cells := 0, slots := 0, locals := 67 }) (PcP D (tysG cI cZ cO) [.ref a_t, .int x1, .int x2] [(a_t, .inr (6, [.ref a_t_text, .ref a_t_told, .ref a_t_draft, .ref a_t_now, .ref a_t_acts, .ref a_t_sightings, .ref a_t_sides, .ref a_t_kept, .int v_t_keptSlots, .long v_t_theSeed])), (a_t_told, .inr (5, [.ref a_t_told_sizes, .ref a_t_told_cells])), (a_t_told_cells, .inl (cI, 120, .inl f_t_told_cells))]) (QP (.int (f_X6_comesOn f_t_told_cells x1 x2))) 0 0 (fun _ => False) := by
  refine Met.ofW (cc := cX6_comesOn) (maxL := 5) (ret := (some .boolean)) (by decide) rfl ?_
  intro p e s m args below meth c s₁ B hml hv
  obtain ⟨rfl, hP, hKX⟩ := hv
  have hx := B.exec
  have hb := B.bytes
  have hr := B.returns
  have hts := atoms_spec (ws := wsX6_comesOn) B.pre
  have hown : s.vm.findClass RX6 = some m.cls := findClass_of_methodNamed B.named
  have hlocks := B.notSynchronized
  have hK := hKX.1
  have hwX6 : ∀ w ∈ wsX60, w ∈ wsX6_comesOn := by decide +kernel
  have hl := lv_entry ([.ref a_t, .int x1, .int x2]) (n := 5) (Nat.le_of_ble_eq_true rfl)
  rw [lg_entry_eq]
  generalize (lg_sl ([.ref a_t, .int x1, .int x2]) ++ List.replicate (5 - (lg_sl ([.ref a_t, .int x1, .int x2])).length) Slot.unset).toArray = ls at hl ⊢
  have hl : lv_has ls 5 [(0, .ref a_t), (1, .int x1), (2, .int x2)] := hl
  have hf := f_X6_comesOn.eq_1 f_t_told_cells x1 x2
  refine lv_iload_n hx hb dX6_comesOn_0 rfl (lv_at hl 2 rfl) ?_
  refine lv_aload_n hx hb dX6_comesOn_1 rfl (lv_at hl 0 rfl) ?_
  refine va_get (D := D) (ci := 6) (v := .ref a_t_told) (C := RX6) (T := TX6) (N := 10) hx hb hts hwX6 hown hK hP 0 rfl rfl 1 (by decide) (hts (.fieldLink RX6 19 "SkippedDay" "told" "LSkippedDay$Told;") (by decide +kernel)) (fun _ h9 => h9) rfl dX6_comesOn_2 ?_
  refine lv_iload_n hx hb dX6_comesOn_5 rfl (lv_at hl 1 rfl) ?_
  refine pcV (As := [.int x1]) (rest := [.int x2]) ⟨hx, hb, hml, hown, hts⟩ (c_X5_tideFirst l D cI cZ cO a_t_told a_t_told_sizes a_t_told_cells f_t_told_cells x1) (cwV 1 hts gX6_comesOn_X5_tideFirst rfl rfl rfl (by decide +kernel) ⟨Nat.le_of_ble_eq_true rfl, Nat.le_of_ble_eq_true rfl⟩) hKX hP [1, 2] rfl 1 5 rfl rfl rfl rfl hl.1 rfl (Nat.le_of_ble_eq_true rfl) dX6_comesOn_6 ⟨Nat.le_of_ble_eq_true rfl, Nat.le_of_ble_eq_true rfl⟩ ?_
  refine lv_isub hx hb dX6_comesOn_9 ?_
  refine lv_istore_n (lv' := [(3, .int (x2 - (f_X5_tideFirst f_t_told_cells x1))), (0, .ref a_t), (1, .int x1), (2, .int x2)]) hx hb dX6_comesOn_10 rfl hl (by decide) rfl (fun ls hl => ?_)
  refine lv_aload_n hx hb dX6_comesOn_11 rfl (lv_at hl 1 rfl) ?_
  refine va_get (D := D) (ci := 6) (v := .ref a_t_told) (C := RX6) (T := TX6) (N := 10) hx hb hts hwX6 hown hK hP 0 rfl rfl 1 (by decide) (hts (.fieldLink RX6 19 "SkippedDay" "told" "LSkippedDay$Told;") (by decide +kernel)) (fun _ h9 => h9) rfl dX6_comesOn_12 ?_
  refine lv_iload_n hx hb dX6_comesOn_15 rfl (lv_at hl 2 rfl) ?_
  refine pcV (As := [.int x1]) (rest := []) ⟨hx, hb, hml, hown, hts⟩ (c_X5_tideEach l D cI cZ cO a_t_told a_t_told_sizes a_t_told_cells f_t_told_cells x1) (cwV 1 hts gX6_comesOn_X5_tideEach rfl rfl rfl (by decide +kernel) ⟨Nat.le_of_ble_eq_true rfl, Nat.le_of_ble_eq_true rfl⟩) hKX hP [1, 2] rfl 1 5 rfl rfl rfl rfl hl.1 rfl (Nat.le_of_ble_eq_true rfl) dX6_comesOn_16 ⟨Nat.le_of_ble_eq_true rfl, Nat.le_of_ble_eq_true rfl⟩ ?_
  refine lv_istore (lv' := [(4, .int (f_X5_tideEach f_t_told_cells x1)), (3, .int (x2 - (f_X5_tideFirst f_t_told_cells x1))), (0, .ref a_t), (1, .int x1), (2, .int x2)]) hx hb dX6_comesOn_19 hl (by decide) rfl (fun ls hl => ?_)
  refine lv_iload_n hx hb dX6_comesOn_21 rfl (lv_at hl 1 rfl) ?_
  refine lv_if_lt (tgt := 41) hx hb dX6_comesOn_22 (by decide) (fun c_22 => ?_) (fun c_22 => ?_)
  · replace hf := hf.trans (if_pos c_22)
    refine lv_iconst (v := 0) hx hb dX6_comesOn_41 (by decide) ?_
    exact W.zret (ty := .boolean) (v := 0) hx hb hr rfl (fun t ht hW => ⟨congrArg (fun z => Outcome.returned (some (Value.int z))) hf.symm, ht⟩) (fun _ h => absurd h List.not_mem_nil) dX6_comesOn_42
  · replace hf := hf.trans (if_neg c_22)
    refine lv_iload hx hb dX6_comesOn_25 (lv_at hl 0 rfl) ?_
    refine lv_if_le (tgt := 41) hx hb dX6_comesOn_27 (by decide) (fun c_27 => ?_) (fun c_27 => ?_)
    · replace hf := hf.trans (if_pos c_27)
      refine lv_iconst (v := 0) hx hb dX6_comesOn_41 (by decide) ?_
      exact W.zret (ty := .boolean) (v := 0) hx hb hr rfl (fun t ht hW => ⟨congrArg (fun z => Outcome.returned (some (Value.int z))) hf.symm, ht⟩) (fun _ h => absurd h List.not_mem_nil) dX6_comesOn_42
    · replace hf := hf.trans (if_neg c_27)
      refine lv_iload_n hx hb dX6_comesOn_30 rfl (lv_at hl 1 rfl) ?_
      refine lv_iload hx hb dX6_comesOn_31 (lv_at hl 0 rfl) ?_
      refine lv_irem hx hb dX6_comesOn_33 (s_X6_comesOn_1 f_t_told_cells x1 x2 c_22 c_27) ?_
      refine lv_if_ne (tgt := 41) hx hb dX6_comesOn_34 (by decide) (fun c_34 => ?_) (fun c_34 => ?_)
      · replace hf := hf.trans (if_pos c_34)
        refine lv_iconst (v := 0) hx hb dX6_comesOn_41 (by decide) ?_
        exact W.zret (ty := .boolean) (v := 0) hx hb hr rfl (fun t ht hW => ⟨congrArg (fun z => Outcome.returned (some (Value.int z))) hf.symm, ht⟩) (fun _ h => absurd h List.not_mem_nil) dX6_comesOn_42
      · replace hf := hf.trans (if_neg (fun h9 => h9 c_34))
        refine lv_iconst (v := 1) hx hb dX6_comesOn_37 (by decide) ?_
        refine lv_goto (tgt := 42) hx hb dX6_comesOn_38 (by decide) ?_
        exact W.zret (ty := .boolean) (v := 1) hx hb hr rfl (fun t ht hW => ⟨congrArg (fun z => Outcome.returned (some (Value.int z))) hf.symm, ht⟩) (fun _ h => absurd h List.not_mem_nil) dX6_comesOn_42

def f_X6_agree_j55 (x29_5 : Int32) (k29 : Int32 → Int32 → Int32) (x55_4 : Int32) : Int32 :=
  k29 x55_4 (x29_5 + 1)
def f_X6_agree_b29 (f_t_told_sizes : Nat → Int32) (f_t_told_cells : Nat → Int32) (x1 : Int32) (x2 : Int32) (k29 : Int32 → Int32 → Int32) (x29_4 : Int32) (x29_5 : Int32) : Int32 :=
  if (f_X5_sizeOf f_t_told_sizes 2) ≤ x29_5 then x29_4 else if (f_X6_comesOn f_t_told_cells x29_5 (f_X6_comingOf x1 x2)) = 0 then f_X6_agree_j55 x29_5 k29 x29_4 else f_X6_agree_j55 x29_5 k29 (x29_4 + 1)
def f_X6_agree (f_t_told_sizes : Nat → Int32) (f_t_told_cells : Nat → Int32) (x1 : Int32) (x2 : Int32) : Int32 :=
  if (f_X6_isDay x1) = 0 then (-2) else if ¬ (f_X6_isPlace x2) = 0 then it2 (f_X6_agree_b29 f_t_told_sizes f_t_told_cells x1 x2) default (((f_X5_sizeOf f_t_told_sizes 2).toInt - (0 : Int32).toInt).toNat + 1) 0 0 else (-2)
/- inv0@58>29 -/ theorem s_X6_agree_1 (f_t_told_sizes : Nat → Int32) (x29_5 : Int32) (hi29_0 : 0 ≤ x29_5) (c_39 : ¬ (f_X5_sizeOf f_t_told_sizes 2) ≤ x29_5) : 0 ≤ (x29_5 + 1) := by grind [f_X5_sizeOf]
/- inv0@27>29 -/ theorem s_X6_agree_2  : 0 ≤ (0 : Int32) := by grind
set_option maxHeartbeats 4000000 in
set_option maxRecDepth 100000 in
theorem c_X6_agree (l : Launch) (D : va_G) (cI cZ cO : ClassId) (a_t : Nat) (a_t_text : Nat) (a_t_told : Nat) (a_t_draft : Nat) (a_t_now : Nat) (a_t_acts : Nat) (a_t_sightings : Nat) (a_t_sides : Nat) (a_t_kept : Nat) (v_t_keptSlots : Int32) (v_t_theSeed : Int64) (a_t_told_sizes : Nat) (a_t_told_cells : Nat) (f_t_told_sizes : Nat → Int32) (f_t_told_cells : Nat → Int32) (x1 : Int32) (x2 : Int32) : Met l yX6_agree wsX6_agree ({ frames := 4, cells := 0, slots := 0, locals := 91 }) (PcP D (tysG cI cZ cO) [.ref a_t, .int x1, .int x2] [(a_t, .inr (6, [.ref a_t_text, .ref a_t_told, .ref a_t_draft, .ref a_t_now, .ref a_t_acts, .ref a_t_sightings, .ref a_t_sides, .ref a_t_kept, .int v_t_keptSlots, .long v_t_theSeed])), (a_t_told, .inr (5, [.ref a_t_told_sizes, .ref a_t_told_cells])), (a_t_told_sizes, .inl (cI, 4, .inl f_t_told_sizes)), (a_t_told_cells, .inl (cI, 120, .inl f_t_told_cells))]) (QP (.int (f_X6_agree f_t_told_sizes f_t_told_cells x1 x2))) 0 0 (fun _ => False) := by
  refine Met.ofW (cc := cX6_agree) (maxL := 6) (ret := (some .int)) (by decide) rfl ?_
  intro p e s m args below meth c s₁ B hml hv
  obtain ⟨rfl, hP, hKX⟩ := hv
  have hx := B.exec
  have hb := B.bytes
  have hr := B.returns
  have hts := atoms_spec (ws := wsX6_agree) B.pre
  have hown : s.vm.findClass RX6 = some m.cls := findClass_of_methodNamed B.named
  have hlocks := B.notSynchronized
  have hK := hKX.1
  have hwX6 : ∀ w ∈ wsX60, w ∈ wsX6_agree := by decide +kernel
  have hl := lv_entry ([.ref a_t, .int x1, .int x2]) (n := 6) (Nat.le_of_ble_eq_true rfl)
  rw [lg_entry_eq]
  generalize (lg_sl ([.ref a_t, .int x1, .int x2]) ++ List.replicate (6 - (lg_sl ([.ref a_t, .int x1, .int x2])).length) Slot.unset).toArray = ls at hl ⊢
  have hl : lv_has ls 6 [(0, .ref a_t), (1, .int x1), (2, .int x2)] := hl
  have hf := f_X6_agree.eq_1 f_t_told_sizes f_t_told_cells x1 x2
  refine lv_iload_n hx hb dX6_agree_0 rfl (lv_at hl 1 rfl) ?_
  refine pcS (As := [.int x1]) (rest := []) ⟨hx, hb, hml, hown, hts⟩ (c_X6_isDay l D cI cZ cO x1) (va_cwS 1 hts gX6_agree_X6_isDay rfl rfl rfl (by decide +kernel) ⟨Nat.le_of_ble_eq_true rfl, Nat.le_of_ble_eq_true rfl⟩) hKX hP [] rfl rfl hl.1 rfl (Nat.le_of_ble_eq_true rfl) dX6_agree_1 ⟨Nat.le_of_ble_eq_true rfl, Nat.le_of_ble_eq_true rfl⟩ ?_
  refine lv_if_eq (tgt := 14) hx hb dX6_agree_4 (by decide) (fun c_4 => ?_) (fun c_4 => ?_)
  · replace hf := hf.trans (if_pos c_4)
    refine lv_bipush (v := (-2)) hx hb dX6_agree_14 (by decide) ?_
    exact W.iret (v := (-2)) hx hb hr (fun t ht hW => ⟨congrArg (fun z => Outcome.returned (some (Value.int z))) hf.symm, ht⟩) (fun _ h => absurd h List.not_mem_nil) dX6_agree_16
  · replace hf := hf.trans (if_neg c_4)
    refine lv_iload_n hx hb dX6_agree_7 rfl (lv_at hl 2 rfl) ?_
    refine pcS (As := [.int x2]) (rest := []) ⟨hx, hb, hml, hown, hts⟩ (c_X6_isPlace l D cI cZ cO x2) (va_cwS 1 hts gX6_agree_X6_isPlace rfl rfl rfl (by decide +kernel) ⟨Nat.le_of_ble_eq_true rfl, Nat.le_of_ble_eq_true rfl⟩) hKX hP [] rfl rfl hl.1 rfl (Nat.le_of_ble_eq_true rfl) dX6_agree_8 ⟨Nat.le_of_ble_eq_true rfl, Nat.le_of_ble_eq_true rfl⟩ ?_
    refine lv_if_ne (tgt := 17) hx hb dX6_agree_11 (by decide) (fun c_11 => ?_) (fun c_11 => ?_)
    · replace hf := hf.trans (if_pos c_11)
      refine lv_iload_n hx hb dX6_agree_17 rfl (lv_at hl 1 rfl) ?_
      refine lv_iload_n hx hb dX6_agree_18 rfl (lv_at hl 2 rfl) ?_
      refine pcS (As := [.int x1, .int x2]) (rest := []) ⟨hx, hb, hml, hown, hts⟩ (c_X6_comingOf l D cI cZ cO x1 x2) (va_cwS 2 hts gX6_agree_X6_comingOf rfl rfl rfl (by decide +kernel) ⟨Nat.le_of_ble_eq_true rfl, Nat.le_of_ble_eq_true rfl⟩) hKX hP [] rfl rfl hl.1 rfl (Nat.le_of_ble_eq_true rfl) dX6_agree_19 ⟨Nat.le_of_ble_eq_true rfl, Nat.le_of_ble_eq_true rfl⟩ ?_
      refine lv_istore_n (lv' := [(3, .int (f_X6_comingOf x1 x2)), (0, .ref a_t), (1, .int x1), (2, .int x2)]) hx hb dX6_agree_22 rfl hl (by decide) rfl (fun ls hl => ?_)
      refine lv_iconst (v := 0) hx hb dX6_agree_23 (by decide) ?_
      refine lv_istore (lv' := [(4, .int 0), (3, .int (f_X6_comingOf x1 x2)), (0, .ref a_t), (1, .int x1), (2, .int x2)]) hx hb dX6_agree_24 hl (by decide) rfl (fun ls hl => ?_)
      refine lv_iconst (v := 0) hx hb dX6_agree_26 (by decide) ?_
      refine lv_istore (lv' := [(5, .int 0), (4, .int 0), (3, .int (f_X6_comingOf x1 x2)), (0, .ref a_t), (1, .int x1), (2, .int x2)]) hx hb dX6_agree_27 hl (by decide) rfl (fun ls hl => ?_)
      have hJ_29 : ∀ (n29 : Nat) (x29_4 : Int32) (x29_5 : Int32), f_X6_agree f_t_told_sizes f_t_told_cells x1 x2 = it2 (f_X6_agree_b29 f_t_told_sizes f_t_told_cells x1 x2) default n29 x29_4 x29_5 → ((f_X5_sizeOf f_t_told_sizes 2).toInt - x29_5.toInt).toNat < n29 → (0 ≤ x29_5) → ∀ (ls : Array Slot), lv_has ls 6 [(0, .ref a_t), (3, .int (f_X6_comingOf x1 x2)), (4, .int x29_4), (5, .int x29_5)] → W p l e (headSpec wsX6_agree { frames := 4, cells := 0, slots := 0, locals := 91 }).room s m [.ref a_t, .int x1, .int x2].toArray below meth c s.heap [] 0 0 (MQ below (QP (.int (f_X6_agree f_t_told_sizes f_t_told_cells x1 x2))) [.ref a_t, .int x1, .int x2].toArray s 0 0 (fun _ => False)) (F0 m 29 ls []) := by
        intro n29
        induction n29 with
        | zero => intro x29_4 x29_5 hf hm29; exact absurd hm29 (Nat.not_lt_zero _)
        | succ n29 ih29 =>
          intro x29_4 x29_5 hf hm29 hi29_0 ls hl
          replace hf := (hf.trans (it2_s _ _ _ _ _)).trans (f_X6_agree_b29.eq_1 _ _ _ _ _ _ _)
          refine lv_iload hx hb dX6_agree_29 (lv_at hl 3 rfl) ?_
          refine lv_aload_n hx hb dX6_agree_31 rfl (lv_at hl 0 rfl) ?_
          refine va_get (D := D) (ci := 6) (v := .ref a_t_told) (C := RX6) (T := TX6) (N := 10) hx hb hts hwX6 hown hK hP 0 rfl rfl 1 (by decide) (hts (.fieldLink RX6 19 "SkippedDay" "told" "LSkippedDay$Told;") (by decide +kernel)) (fun _ h9 => h9) rfl dX6_agree_32 ?_
          refine lv_iconst (v := 2) hx hb dX6_agree_35 (by decide) ?_
          refine pcV (As := [.int 2]) (rest := [.int x29_5]) ⟨hx, hb, hml, hown, hts⟩ (c_X5_sizeOf l D cI cZ cO a_t_told a_t_told_sizes a_t_told_cells f_t_told_sizes 2) (cwV 1 hts gX6_agree_X5_sizeOf rfl rfl rfl (by decide +kernel) ⟨Nat.le_of_ble_eq_true rfl, Nat.le_of_ble_eq_true rfl⟩) hKX hP [1, 2] rfl 1 5 rfl rfl rfl rfl hl.1 rfl (Nat.le_of_ble_eq_true rfl) dX6_agree_36 ⟨Nat.le_of_ble_eq_true rfl, Nat.le_of_ble_eq_true rfl⟩ ?_
          refine lv_icmp_ge (tgt := 61) hx hb dX6_agree_39 (by decide) (fun c_39 => ?_) (fun c_39 => ?_)
          · replace hf := hf.trans (if_pos c_39)
            refine lv_iload hx hb dX6_agree_61 (lv_at hl 2 rfl) ?_
            exact W.iret (v := x29_4) hx hb hr (fun t ht hW => ⟨congrArg (fun z => Outcome.returned (some (Value.int z))) hf.symm, ht⟩) (fun _ h => absurd h List.not_mem_nil) dX6_agree_63
          · replace hf := hf.trans (if_neg c_39)
            refine lv_aload_n hx hb dX6_agree_42 rfl (lv_at hl 0 rfl) ?_
            refine lv_iload hx hb dX6_agree_43 (lv_at hl 3 rfl) ?_
            refine lv_iload_n hx hb dX6_agree_45 rfl (lv_at hl 1 rfl) ?_
            refine pcV (As := [.int x29_5, .int (f_X6_comingOf x1 x2)]) (rest := []) ⟨hx, hb, hml, hown, hts⟩ (c_X6_comesOn l D cI cZ cO a_t a_t_text a_t_told a_t_draft a_t_now a_t_acts a_t_sightings a_t_sides a_t_kept v_t_keptSlots v_t_theSeed a_t_told_sizes a_t_told_cells f_t_told_cells x29_5 (f_X6_comingOf x1 x2)) (cwV 2 hts gX6_agree_X6_comesOn rfl rfl rfl (by decide +kernel) ⟨Nat.le_of_ble_eq_true rfl, Nat.le_of_ble_eq_true rfl⟩) hKX hP [0, 1, 3] rfl 0 6 rfl rfl rfl rfl hl.1 rfl (Nat.le_of_ble_eq_true rfl) dX6_agree_46 ⟨Nat.le_of_ble_eq_true rfl, Nat.le_of_ble_eq_true rfl⟩ ?_
            have hJ_55 : ∀ (x55_4 : Int32), f_X6_agree f_t_told_sizes f_t_told_cells x1 x2 = f_X6_agree_j55 x29_5 ((it2 (f_X6_agree_b29 f_t_told_sizes f_t_told_cells x1 x2) default n29)) x55_4 → ∀ (ls : Array Slot), lv_has ls 6 [(0, .ref a_t), (3, .int (f_X6_comingOf x1 x2)), (4, .int x55_4), (5, .int x29_5)] → W p l e (headSpec wsX6_agree { frames := 4, cells := 0, slots := 0, locals := 91 }).room s m [.ref a_t, .int x1, .int x2].toArray below meth c s.heap [] 0 0 (MQ below (QP (.int (f_X6_agree f_t_told_sizes f_t_told_cells x1 x2))) [.ref a_t, .int x1, .int x2].toArray s 0 0 (fun _ => False)) (F0 m 55 ls []) := by
              intro x55_4 hf ls hl
              replace hf := hf.trans (f_X6_agree_j55.eq_1 _ _ _)
              refine lv_iinc (v := x29_5 + 1) (lv' := [(5, .int (x29_5 + 1)), (0, .ref a_t), (3, .int (f_X6_comingOf x1 x2)), (4, .int x55_4)]) hx hb dX6_agree_55 hl (k := 3) rfl rfl (by decide) rfl (fun ls hl => ?_)
              refine lv_goto (tgt := 29) hx hb dX6_agree_58 (by decide) ?_
              exact ih29 x55_4 (x29_5 + 1) hf (mu_up c_39 hm29) (s_X6_agree_1 f_t_told_sizes x29_5 hi29_0 c_39) _ (lv_sub hl [1, 2, 3, 0] rfl)
            refine lv_if_eq (tgt := 55) hx hb dX6_agree_49 (by decide) (fun c_49 => ?_) (fun c_49 => ?_)
            · replace hf := hf.trans (if_pos c_49)
              exact hJ_55 x29_4 hf _ (lv_sub hl [0, 1, 2, 3] rfl)
            · replace hf := hf.trans (if_neg c_49)
              refine lv_iinc (v := x29_4 + 1) (lv' := [(4, .int (x29_4 + 1)), (0, .ref a_t), (3, .int (f_X6_comingOf x1 x2)), (5, .int x29_5)]) hx hb dX6_agree_52 hl (k := 2) rfl rfl (by decide) rfl (fun ls hl => ?_)
              exact hJ_55 (x29_4 + 1) hf _ (lv_sub hl [1, 2, 0, 3] rfl)
      exact hJ_29 _ 0 0 hf (Nat.lt_succ_self _) s_X6_agree_2 _ (lv_sub hl [3, 2, 1, 0] rfl)
    · replace hf := hf.trans (if_neg (fun h9 => h9 c_11))
      refine lv_bipush (v := (-2)) hx hb dX6_agree_14 (by decide) ?_
      exact W.iret (v := (-2)) hx hb hr (fun t ht hW => ⟨congrArg (fun z => Outcome.returned (some (Value.int z))) hf.symm, ht⟩) (fun _ h => absurd h List.not_mem_nil) dX6_agree_16

def f_X6_netOf_j62 (x4_3 : Int32) (k4 : Int32 → Int32 → Int32) (x62_2 : Int32) : Int32 :=
  k4 x62_2 (x4_3 + 1)
def f_X6_netOf_j39 (f_t_told_cells : Nat → Int32) (x1 : Int32) (x4_3 : Int32) (k4 : Int32 → Int32 → Int32) (x39_2 : Int32) : Int32 :=
  if ¬ (f_X5_creditor f_t_told_cells x4_3) = x1 then f_X6_netOf_j62 x4_3 k4 x39_2 else f_X6_netOf_j62 x4_3 k4 (x39_2 + (f_X5_debtOf f_t_told_cells x4_3))
def f_X6_netOf_b4 (f_t_told_sizes : Nat → Int32) (f_t_told_cells : Nat → Int32) (x1 : Int32) (k4 : Int32 → Int32 → Int32) (x4_2 : Int32) (x4_3 : Int32) : Int32 :=
  if (f_X5_sizeOf f_t_told_sizes 3) ≤ x4_3 then x4_2 else if ¬ (f_X5_debtor f_t_told_cells x4_3) = x1 then f_X6_netOf_j39 f_t_told_cells x1 x4_3 k4 x4_2 else f_X6_netOf_j39 f_t_told_cells x1 x4_3 k4 (x4_2 - (f_X5_debtOf f_t_told_cells x4_3))
def f_X6_netOf (f_t_told_sizes : Nat → Int32) (f_t_told_cells : Nat → Int32) (x1 : Int32) : Int32 :=
  it2 (f_X6_netOf_b4 f_t_told_sizes f_t_told_cells x1) default (((f_X5_sizeOf f_t_told_sizes 3).toInt - (0 : Int32).toInt).toNat + 1) 0 0
/- inv0@65>4 -/ theorem s_X6_netOf_1 (f_t_told_sizes : Nat → Int32) (x4_3 : Int32) (hi4_0 : 0 ≤ x4_3) (c_13 : ¬ (f_X5_sizeOf f_t_told_sizes 3) ≤ x4_3) : 0 ≤ (x4_3 + 1) := by grind [f_X5_sizeOf]
/- inv0@3>4 -/ theorem s_X6_netOf_2  : 0 ≤ (0 : Int32) := by grind
set_option maxHeartbeats 4000000 in
set_option maxRecDepth 100000 in
theorem c_X6_netOf (l : Launch) (D : va_G) (cI cZ cO : ClassId) (a_t : Nat) (a_t_text : Nat) (a_t_told : Nat) (a_t_draft : Nat) (a_t_now : Nat) (a_t_acts : Nat) (a_t_sightings : Nat) (a_t_sides : Nat) (a_t_kept : Nat) (v_t_keptSlots : Int32) (v_t_theSeed : Int64) (a_t_told_sizes : Nat) (a_t_told_cells : Nat) (f_t_told_sizes : Nat → Int32) (f_t_told_cells : Nat → Int32) (x1 : Int32) : Met l yX6_netOf wsX6_netOf ({ frames := 3, cells := 0, slots := 0, locals := 67 }) (PcP D (tysG cI cZ cO) [.ref a_t, .int x1] [(a_t, .inr (6, [.ref a_t_text, .ref a_t_told, .ref a_t_draft, .ref a_t_now, .ref a_t_acts, .ref a_t_sightings, .ref a_t_sides, .ref a_t_kept, .int v_t_keptSlots, .long v_t_theSeed])), (a_t_told, .inr (5, [.ref a_t_told_sizes, .ref a_t_told_cells])), (a_t_told_sizes, .inl (cI, 4, .inl f_t_told_sizes)), (a_t_told_cells, .inl (cI, 120, .inl f_t_told_cells))]) (QP (.int (f_X6_netOf f_t_told_sizes f_t_told_cells x1))) 0 0 (fun _ => False) := by
  refine Met.ofW (cc := cX6_netOf) (maxL := 4) (ret := (some .int)) (by decide) rfl ?_
  intro p e s m args below meth c s₁ B hml hv
  obtain ⟨rfl, hP, hKX⟩ := hv
  have hx := B.exec
  have hb := B.bytes
  have hr := B.returns
  have hts := atoms_spec (ws := wsX6_netOf) B.pre
  have hown : s.vm.findClass RX6 = some m.cls := findClass_of_methodNamed B.named
  have hlocks := B.notSynchronized
  have hK := hKX.1
  have hwX6 : ∀ w ∈ wsX60, w ∈ wsX6_netOf := by decide +kernel
  have hl := lv_entry ([.ref a_t, .int x1]) (n := 4) (Nat.le_of_ble_eq_true rfl)
  rw [lg_entry_eq]
  generalize (lg_sl ([.ref a_t, .int x1]) ++ List.replicate (4 - (lg_sl ([.ref a_t, .int x1])).length) Slot.unset).toArray = ls at hl ⊢
  have hl : lv_has ls 4 [(0, .ref a_t), (1, .int x1)] := hl
  have hf := f_X6_netOf.eq_1 f_t_told_sizes f_t_told_cells x1
  refine lv_iconst (v := 0) hx hb dX6_netOf_0 (by decide) ?_
  refine lv_istore_n (lv' := [(2, .int 0), (0, .ref a_t), (1, .int x1)]) hx hb dX6_netOf_1 rfl hl (by decide) rfl (fun ls hl => ?_)
  refine lv_iconst (v := 0) hx hb dX6_netOf_2 (by decide) ?_
  refine lv_istore_n (lv' := [(3, .int 0), (2, .int 0), (0, .ref a_t), (1, .int x1)]) hx hb dX6_netOf_3 rfl hl (by decide) rfl (fun ls hl => ?_)
  have hJ_4 : ∀ (n4 : Nat) (x4_2 : Int32) (x4_3 : Int32), f_X6_netOf f_t_told_sizes f_t_told_cells x1 = it2 (f_X6_netOf_b4 f_t_told_sizes f_t_told_cells x1) default n4 x4_2 x4_3 → ((f_X5_sizeOf f_t_told_sizes 3).toInt - x4_3.toInt).toNat < n4 → (0 ≤ x4_3) → ∀ (ls : Array Slot), lv_has ls 4 [(0, .ref a_t), (1, .int x1), (2, .int x4_2), (3, .int x4_3)] → W p l e (headSpec wsX6_netOf { frames := 3, cells := 0, slots := 0, locals := 67 }).room s m [.ref a_t, .int x1].toArray below meth c s.heap [] 0 0 (MQ below (QP (.int (f_X6_netOf f_t_told_sizes f_t_told_cells x1))) [.ref a_t, .int x1].toArray s 0 0 (fun _ => False)) (F0 m 4 ls []) := by
    intro n4
    induction n4 with
    | zero => intro x4_2 x4_3 hf hm4; exact absurd hm4 (Nat.not_lt_zero _)
    | succ n4 ih4 =>
      intro x4_2 x4_3 hf hm4 hi4_0 ls hl
      replace hf := (hf.trans (it2_s _ _ _ _ _)).trans (f_X6_netOf_b4.eq_1 _ _ _ _ _ _)
      refine lv_iload_n hx hb dX6_netOf_4 rfl (lv_at hl 3 rfl) ?_
      refine lv_aload_n hx hb dX6_netOf_5 rfl (lv_at hl 0 rfl) ?_
      refine va_get (D := D) (ci := 6) (v := .ref a_t_told) (C := RX6) (T := TX6) (N := 10) hx hb hts hwX6 hown hK hP 0 rfl rfl 1 (by decide) (hts (.fieldLink RX6 19 "SkippedDay" "told" "LSkippedDay$Told;") (by decide +kernel)) (fun _ h9 => h9) rfl dX6_netOf_6 ?_
      refine lv_iconst (v := 3) hx hb dX6_netOf_9 (by decide) ?_
      refine pcV (As := [.int 3]) (rest := [.int x4_3]) ⟨hx, hb, hml, hown, hts⟩ (c_X5_sizeOf l D cI cZ cO a_t_told a_t_told_sizes a_t_told_cells f_t_told_sizes 3) (cwV 1 hts gX6_netOf_X5_sizeOf rfl rfl rfl (by decide +kernel) ⟨Nat.le_of_ble_eq_true rfl, Nat.le_of_ble_eq_true rfl⟩) hKX hP [1, 2] rfl 1 5 rfl rfl rfl rfl hl.1 rfl (Nat.le_of_ble_eq_true rfl) dX6_netOf_10 ⟨Nat.le_of_ble_eq_true rfl, Nat.le_of_ble_eq_true rfl⟩ ?_
      refine lv_icmp_ge (tgt := 68) hx hb dX6_netOf_13 (by decide) (fun c_13 => ?_) (fun c_13 => ?_)
      · replace hf := hf.trans (if_pos c_13)
        refine lv_iload_n hx hb dX6_netOf_68 rfl (lv_at hl 2 rfl) ?_
        exact W.iret (v := x4_2) hx hb hr (fun t ht hW => ⟨congrArg (fun z => Outcome.returned (some (Value.int z))) hf.symm, ht⟩) (fun _ h => absurd h List.not_mem_nil) dX6_netOf_69
      · replace hf := hf.trans (if_neg c_13)
        refine lv_aload_n hx hb dX6_netOf_16 rfl (lv_at hl 0 rfl) ?_
        refine va_get (D := D) (ci := 6) (v := .ref a_t_told) (C := RX6) (T := TX6) (N := 10) hx hb hts hwX6 hown hK hP 0 rfl rfl 1 (by decide) (hts (.fieldLink RX6 19 "SkippedDay" "told" "LSkippedDay$Told;") (by decide +kernel)) (fun _ h9 => h9) rfl dX6_netOf_17 ?_
        refine lv_iload_n hx hb dX6_netOf_20 rfl (lv_at hl 3 rfl) ?_
        refine pcV (As := [.int x4_3]) (rest := []) ⟨hx, hb, hml, hown, hts⟩ (c_X5_debtor l D cI cZ cO a_t_told a_t_told_sizes a_t_told_cells f_t_told_cells x4_3) (cwV 1 hts gX6_netOf_X5_debtor rfl rfl rfl (by decide +kernel) ⟨Nat.le_of_ble_eq_true rfl, Nat.le_of_ble_eq_true rfl⟩) hKX hP [1, 3] rfl 1 5 rfl rfl rfl rfl hl.1 rfl (Nat.le_of_ble_eq_true rfl) dX6_netOf_21 ⟨Nat.le_of_ble_eq_true rfl, Nat.le_of_ble_eq_true rfl⟩ ?_
        refine lv_iload_n hx hb dX6_netOf_24 rfl (lv_at hl 1 rfl) ?_
        have hJ_39 : ∀ (x39_2 : Int32), f_X6_netOf f_t_told_sizes f_t_told_cells x1 = f_X6_netOf_j39 f_t_told_cells x1 x4_3 ((it2 (f_X6_netOf_b4 f_t_told_sizes f_t_told_cells x1) default n4)) x39_2 → ∀ (ls : Array Slot), lv_has ls 4 [(0, .ref a_t), (1, .int x1), (2, .int x39_2), (3, .int x4_3)] → W p l e (headSpec wsX6_netOf { frames := 3, cells := 0, slots := 0, locals := 67 }).room s m [.ref a_t, .int x1].toArray below meth c s.heap [] 0 0 (MQ below (QP (.int (f_X6_netOf f_t_told_sizes f_t_told_cells x1))) [.ref a_t, .int x1].toArray s 0 0 (fun _ => False)) (F0 m 39 ls []) := by
          intro x39_2 hf ls hl
          replace hf := hf.trans (f_X6_netOf_j39.eq_1 _ _ _ _ _)
          refine lv_aload_n hx hb dX6_netOf_39 rfl (lv_at hl 0 rfl) ?_
          refine va_get (D := D) (ci := 6) (v := .ref a_t_told) (C := RX6) (T := TX6) (N := 10) hx hb hts hwX6 hown hK hP 0 rfl rfl 1 (by decide) (hts (.fieldLink RX6 19 "SkippedDay" "told" "LSkippedDay$Told;") (by decide +kernel)) (fun _ h9 => h9) rfl dX6_netOf_40 ?_
          refine lv_iload_n hx hb dX6_netOf_43 rfl (lv_at hl 3 rfl) ?_
          refine pcV (As := [.int x4_3]) (rest := []) ⟨hx, hb, hml, hown, hts⟩ (c_X5_creditor l D cI cZ cO a_t_told a_t_told_sizes a_t_told_cells f_t_told_cells x4_3) (cwV 1 hts gX6_netOf_X5_creditor rfl rfl rfl (by decide +kernel) ⟨Nat.le_of_ble_eq_true rfl, Nat.le_of_ble_eq_true rfl⟩) hKX hP [1, 3] rfl 1 5 rfl rfl rfl rfl hl.1 rfl (Nat.le_of_ble_eq_true rfl) dX6_netOf_44 ⟨Nat.le_of_ble_eq_true rfl, Nat.le_of_ble_eq_true rfl⟩ ?_
          refine lv_iload_n hx hb dX6_netOf_47 rfl (lv_at hl 1 rfl) ?_
          have hJ_62 : ∀ (x62_2 : Int32), f_X6_netOf f_t_told_sizes f_t_told_cells x1 = f_X6_netOf_j62 x4_3 ((it2 (f_X6_netOf_b4 f_t_told_sizes f_t_told_cells x1) default n4)) x62_2 → ∀ (ls : Array Slot), lv_has ls 4 [(0, .ref a_t), (1, .int x1), (2, .int x62_2), (3, .int x4_3)] → W p l e (headSpec wsX6_netOf { frames := 3, cells := 0, slots := 0, locals := 67 }).room s m [.ref a_t, .int x1].toArray below meth c s.heap [] 0 0 (MQ below (QP (.int (f_X6_netOf f_t_told_sizes f_t_told_cells x1))) [.ref a_t, .int x1].toArray s 0 0 (fun _ => False)) (F0 m 62 ls []) := by
            intro x62_2 hf ls hl
            replace hf := hf.trans (f_X6_netOf_j62.eq_1 _ _ _)
            refine lv_iinc (v := x4_3 + 1) (lv' := [(3, .int (x4_3 + 1)), (0, .ref a_t), (1, .int x1), (2, .int x62_2)]) hx hb dX6_netOf_62 hl (k := 3) rfl rfl (by decide) rfl (fun ls hl => ?_)
            refine lv_goto (tgt := 4) hx hb dX6_netOf_65 (by decide) ?_
            exact ih4 x62_2 (x4_3 + 1) hf (mu_up c_13 hm4) (s_X6_netOf_1 f_t_told_sizes x4_3 hi4_0 c_13) _ (lv_sub hl [1, 2, 3, 0] rfl)
          refine lv_icmp_ne (tgt := 62) hx hb dX6_netOf_48 (by decide) (fun c_48 => ?_) (fun c_48 => ?_)
          · replace hf := hf.trans (if_pos c_48)
            exact hJ_62 x39_2 hf _ (lv_sub hl [0, 1, 2, 3] rfl)
          · replace hf := hf.trans (if_neg (fun h9 => h9 c_48))
            refine lv_iload_n hx hb dX6_netOf_51 rfl (lv_at hl 2 rfl) ?_
            refine lv_aload_n hx hb dX6_netOf_52 rfl (lv_at hl 0 rfl) ?_
            refine va_get (D := D) (ci := 6) (v := .ref a_t_told) (C := RX6) (T := TX6) (N := 10) hx hb hts hwX6 hown hK hP 0 rfl rfl 1 (by decide) (hts (.fieldLink RX6 19 "SkippedDay" "told" "LSkippedDay$Told;") (by decide +kernel)) (fun _ h9 => h9) rfl dX6_netOf_53 ?_
            refine lv_iload_n hx hb dX6_netOf_56 rfl (lv_at hl 3 rfl) ?_
            refine pcV (As := [.int x4_3]) (rest := [.int x39_2]) ⟨hx, hb, hml, hown, hts⟩ (c_X5_debtOf l D cI cZ cO a_t_told a_t_told_sizes a_t_told_cells f_t_told_cells x4_3) (cwV 1 hts gX6_netOf_X5_debtOf rfl rfl rfl (by decide +kernel) ⟨Nat.le_of_ble_eq_true rfl, Nat.le_of_ble_eq_true rfl⟩) hKX hP [1, 3] rfl 1 5 rfl rfl rfl rfl hl.1 rfl (Nat.le_of_ble_eq_true rfl) dX6_netOf_57 ⟨Nat.le_of_ble_eq_true rfl, Nat.le_of_ble_eq_true rfl⟩ ?_
            refine lv_iadd hx hb dX6_netOf_60 ?_
            refine lv_istore_n (lv' := [(2, .int (x39_2 + (f_X5_debtOf f_t_told_cells x4_3))), (0, .ref a_t), (1, .int x1), (3, .int x4_3)]) hx hb dX6_netOf_61 rfl hl (by decide) rfl (fun ls hl => ?_)
            exact hJ_62 (x39_2 + (f_X5_debtOf f_t_told_cells x4_3)) hf _ (lv_sub hl [1, 2, 0, 3] rfl)
        refine lv_icmp_ne (tgt := 39) hx hb dX6_netOf_25 (by decide) (fun c_25 => ?_) (fun c_25 => ?_)
        · replace hf := hf.trans (if_pos c_25)
          exact hJ_39 x4_2 hf _ (lv_sub hl [0, 1, 2, 3] rfl)
        · replace hf := hf.trans (if_neg (fun h9 => h9 c_25))
          refine lv_iload_n hx hb dX6_netOf_28 rfl (lv_at hl 2 rfl) ?_
          refine lv_aload_n hx hb dX6_netOf_29 rfl (lv_at hl 0 rfl) ?_
          refine va_get (D := D) (ci := 6) (v := .ref a_t_told) (C := RX6) (T := TX6) (N := 10) hx hb hts hwX6 hown hK hP 0 rfl rfl 1 (by decide) (hts (.fieldLink RX6 19 "SkippedDay" "told" "LSkippedDay$Told;") (by decide +kernel)) (fun _ h9 => h9) rfl dX6_netOf_30 ?_
          refine lv_iload_n hx hb dX6_netOf_33 rfl (lv_at hl 3 rfl) ?_
          refine pcV (As := [.int x4_3]) (rest := [.int x4_2]) ⟨hx, hb, hml, hown, hts⟩ (c_X5_debtOf l D cI cZ cO a_t_told a_t_told_sizes a_t_told_cells f_t_told_cells x4_3) (cwV 1 hts gX6_netOf_X5_debtOf rfl rfl rfl (by decide +kernel) ⟨Nat.le_of_ble_eq_true rfl, Nat.le_of_ble_eq_true rfl⟩) hKX hP [1, 3] rfl 1 5 rfl rfl rfl rfl hl.1 rfl (Nat.le_of_ble_eq_true rfl) dX6_netOf_34 ⟨Nat.le_of_ble_eq_true rfl, Nat.le_of_ble_eq_true rfl⟩ ?_
          refine lv_isub hx hb dX6_netOf_37 ?_
          refine lv_istore_n (lv' := [(2, .int (x4_2 - (f_X5_debtOf f_t_told_cells x4_3))), (0, .ref a_t), (1, .int x1), (3, .int x4_3)]) hx hb dX6_netOf_38 rfl hl (by decide) rfl (fun ls hl => ?_)
          exact hJ_39 (x4_2 - (f_X5_debtOf f_t_told_cells x4_3)) hf _ (lv_sub hl [1, 2, 0, 3] rfl)
  exact hJ_4 _ 0 0 hf (Nat.lt_succ_self _) s_X6_netOf_2 _ (lv_sub hl [2, 3, 1, 0] rfl)

def f_X6_net (f_t_told_sizes : Nat → Int32) (f_t_told_cells : Nat → Int32) (x1 : Int32) : Int32 :=
  if x1 < 0 then (-1) else if x1 < 4 then (f_X6_netOf f_t_told_sizes f_t_told_cells x1) + 100 else (-1)
set_option maxHeartbeats 4000000 in
set_option maxRecDepth 100000 in
theorem c_X6_net (l : Launch) (D : va_G) (cI cZ cO : ClassId) (a_t : Nat) (a_t_text : Nat) (a_t_told : Nat) (a_t_draft : Nat) (a_t_now : Nat) (a_t_acts : Nat) (a_t_sightings : Nat) (a_t_sides : Nat) (a_t_kept : Nat) (v_t_keptSlots : Int32) (v_t_theSeed : Int64) (a_t_told_sizes : Nat) (a_t_told_cells : Nat) (f_t_told_sizes : Nat → Int32) (f_t_told_cells : Nat → Int32) (x1 : Int32) : Met l yX6_net wsX6_net ({ frames := 4, cells := 0, slots := 0, locals := 90 }) (PcP D (tysG cI cZ cO) [.ref a_t, .int x1] [(a_t, .inr (6, [.ref a_t_text, .ref a_t_told, .ref a_t_draft, .ref a_t_now, .ref a_t_acts, .ref a_t_sightings, .ref a_t_sides, .ref a_t_kept, .int v_t_keptSlots, .long v_t_theSeed])), (a_t_told, .inr (5, [.ref a_t_told_sizes, .ref a_t_told_cells])), (a_t_told_sizes, .inl (cI, 4, .inl f_t_told_sizes)), (a_t_told_cells, .inl (cI, 120, .inl f_t_told_cells))]) (QP (.int (f_X6_net f_t_told_sizes f_t_told_cells x1))) 0 0 (fun _ => False) := by
  refine Met.ofW (cc := cX6_net) (maxL := 2) (ret := (some .int)) (by decide) rfl ?_
  intro p e s m args below meth c s₁ B hml hv
  obtain ⟨rfl, hP, hKX⟩ := hv
  have hx := B.exec
  have hb := B.bytes
  have hr := B.returns
  have hts := atoms_spec (ws := wsX6_net) B.pre
  have hown : s.vm.findClass RX6 = some m.cls := findClass_of_methodNamed B.named
  have hlocks := B.notSynchronized
  have hK := hKX.1
  have hl := lv_entry ([.ref a_t, .int x1]) (n := 2) (Nat.le_of_ble_eq_true rfl)
  rw [lg_entry_eq]
  generalize (lg_sl ([.ref a_t, .int x1]) ++ List.replicate (2 - (lg_sl ([.ref a_t, .int x1])).length) Slot.unset).toArray = ls at hl ⊢
  have hl : lv_has ls 2 [(0, .ref a_t), (1, .int x1)] := hl
  have hf := f_X6_net.eq_1 f_t_told_sizes f_t_told_cells x1
  refine lv_iload_n hx hb dX6_net_0 rfl (lv_at hl 1 rfl) ?_
  refine lv_if_lt (tgt := 9) hx hb dX6_net_1 (by decide) (fun c_1 => ?_) (fun c_1 => ?_)
  · replace hf := hf.trans (if_pos c_1)
    refine lv_iconst (v := (-1)) hx hb dX6_net_9 (by decide) ?_
    exact W.iret (v := (-1)) hx hb hr (fun t ht hW => ⟨congrArg (fun z => Outcome.returned (some (Value.int z))) hf.symm, ht⟩) (fun _ h => absurd h List.not_mem_nil) dX6_net_10
  · replace hf := hf.trans (if_neg c_1)
    refine lv_iload_n hx hb dX6_net_4 rfl (lv_at hl 1 rfl) ?_
    refine lv_iconst (v := 4) hx hb dX6_net_5 (by decide) ?_
    refine lv_icmp_lt (tgt := 11) hx hb dX6_net_6 (by decide) (fun c_6 => ?_) (fun c_6 => ?_)
    · replace hf := hf.trans (if_pos c_6)
      refine lv_aload_n hx hb dX6_net_11 rfl (lv_at hl 0 rfl) ?_
      refine lv_iload_n hx hb dX6_net_12 rfl (lv_at hl 1 rfl) ?_
      refine pcV (As := [.int x1]) (rest := []) ⟨hx, hb, hml, hown, hts⟩ (c_X6_netOf l D cI cZ cO a_t a_t_text a_t_told a_t_draft a_t_now a_t_acts a_t_sightings a_t_sides a_t_kept v_t_keptSlots v_t_theSeed a_t_told_sizes a_t_told_cells f_t_told_sizes f_t_told_cells x1) (cwV 1 hts gX6_net_X6_netOf rfl rfl rfl (by decide +kernel) ⟨Nat.le_of_ble_eq_true rfl, Nat.le_of_ble_eq_true rfl⟩) hKX hP [0, 1, 2, 3] rfl 0 6 rfl rfl rfl rfl hl.1 rfl (Nat.le_of_ble_eq_true rfl) dX6_net_13 ⟨Nat.le_of_ble_eq_true rfl, Nat.le_of_ble_eq_true rfl⟩ ?_
      refine lv_bipush (v := 100) hx hb dX6_net_16 (by decide) ?_
      refine lv_iadd hx hb dX6_net_18 ?_
      exact W.iret (v := (f_X6_netOf f_t_told_sizes f_t_told_cells x1) + 100) hx hb hr (fun t ht hW => ⟨congrArg (fun z => Outcome.returned (some (Value.int z))) hf.symm, ht⟩) (fun _ h => absurd h List.not_mem_nil) dX6_net_19
    · replace hf := hf.trans (if_neg c_6)
      refine lv_iconst (v := (-1)) hx hb dX6_net_9 (by decide) ?_
      exact W.iret (v := (-1)) hx hb hr (fun t ht hW => ⟨congrArg (fun z => Outcome.returned (some (Value.int z))) hf.symm, ht⟩) (fun _ h => absurd h List.not_mem_nil) dX6_net_10

def f_X6_hasEvenPair_b2 (f_t_told_sizes : Nat → Int32) (f_t_told_cells : Nat → Int32) (k2 : Int32 → Int32) (x2_1 : Int32) : Int32 :=
  if 4 ≤ x2_1 then 0 else if ¬ ((f_X6_netOf f_t_told_sizes f_t_told_cells 0) + (f_X6_netOf f_t_told_sizes f_t_told_cells x2_1)) = 0 then k2 (x2_1 + 1) else 1
def f_X6_hasEvenPair (f_t_told_sizes : Nat → Int32) (f_t_told_cells : Nat → Int32) : Int32 :=
  it1 (f_X6_hasEvenPair_b2 f_t_told_sizes f_t_told_cells) default (((4 : Int32).toInt - (1 : Int32).toInt).toNat + 1) 1
/- inv0@26>2 -/ theorem s_X6_hasEvenPair_1 (f_t_told_sizes : Nat → Int32) (f_t_told_cells : Nat → Int32) (x2_1 : Int32) (hi2_0 : 1 ≤ x2_1) (c_4 : ¬ 4 ≤ x2_1) (c_18 : ¬ ((f_X6_netOf f_t_told_sizes f_t_told_cells 0) + (f_X6_netOf f_t_told_sizes f_t_told_cells x2_1)) = 0) : 1 ≤ (x2_1 + 1) := by grind
/- inv0@1>2 -/ theorem s_X6_hasEvenPair_2  : 1 ≤ (1 : Int32) := by grind
set_option maxHeartbeats 4000000 in
set_option maxRecDepth 100000 in
theorem c_X6_hasEvenPair (l : Launch) (D : va_G) (cI cZ cO : ClassId) (a_t : Nat) (a_t_text : Nat) (a_t_told : Nat) (a_t_draft : Nat) (a_t_now : Nat) (a_t_acts : Nat) (a_t_sightings : Nat) (a_t_sides : Nat) (a_t_kept : Nat) (v_t_keptSlots : Int32) (v_t_theSeed : Int64) (a_t_told_sizes : Nat) (a_t_told_cells : Nat) (f_t_told_sizes : Nat → Int32) (f_t_told_cells : Nat → Int32) : Met l yX6_hasEvenPair wsX6_hasEvenPair ({ frames := 4, cells := 0, slots := 0, locals := 90 }) (PcP D (tysG cI cZ cO) [.ref a_t] [(a_t, .inr (6, [.ref a_t_text, .ref a_t_told, .ref a_t_draft, .ref a_t_now, .ref a_t_acts, .ref a_t_sightings, .ref a_t_sides, .ref a_t_kept, .int v_t_keptSlots, .long v_t_theSeed])), (a_t_told, .inr (5, [.ref a_t_told_sizes, .ref a_t_told_cells])), (a_t_told_sizes, .inl (cI, 4, .inl f_t_told_sizes)), (a_t_told_cells, .inl (cI, 120, .inl f_t_told_cells))]) (QP (.int (f_X6_hasEvenPair f_t_told_sizes f_t_told_cells))) 0 0 (fun _ => False) := by
  refine Met.ofW (cc := cX6_hasEvenPair) (maxL := 2) (ret := (some .boolean)) (by decide) rfl ?_
  intro p e s m args below meth c s₁ B hml hv
  obtain ⟨rfl, hP, hKX⟩ := hv
  have hx := B.exec
  have hb := B.bytes
  have hr := B.returns
  have hts := atoms_spec (ws := wsX6_hasEvenPair) B.pre
  have hown : s.vm.findClass RX6 = some m.cls := findClass_of_methodNamed B.named
  have hlocks := B.notSynchronized
  have hK := hKX.1
  have hl := lv_entry ([.ref a_t]) (n := 2) (Nat.le_of_ble_eq_true rfl)
  rw [lg_entry_eq]
  generalize (lg_sl ([.ref a_t]) ++ List.replicate (2 - (lg_sl ([.ref a_t])).length) Slot.unset).toArray = ls at hl ⊢
  have hl : lv_has ls 2 [(0, .ref a_t)] := hl
  have hf := f_X6_hasEvenPair.eq_1 f_t_told_sizes f_t_told_cells
  refine lv_iconst (v := 1) hx hb dX6_hasEvenPair_0 (by decide) ?_
  refine lv_istore_n (lv' := [(1, .int 1), (0, .ref a_t)]) hx hb dX6_hasEvenPair_1 rfl hl (by decide) rfl (fun ls hl => ?_)
  have hJ_2 : ∀ (n2 : Nat) (x2_1 : Int32), f_X6_hasEvenPair f_t_told_sizes f_t_told_cells = it1 (f_X6_hasEvenPair_b2 f_t_told_sizes f_t_told_cells) default n2 x2_1 → ((4 : Int32).toInt - x2_1.toInt).toNat < n2 → (1 ≤ x2_1) → ∀ (ls : Array Slot), lv_has ls 2 [(0, .ref a_t), (1, .int x2_1)] → W p l e (headSpec wsX6_hasEvenPair { frames := 4, cells := 0, slots := 0, locals := 90 }).room s m [.ref a_t].toArray below meth c s.heap [] 0 0 (MQ below (QP (.int (f_X6_hasEvenPair f_t_told_sizes f_t_told_cells))) [.ref a_t].toArray s 0 0 (fun _ => False)) (F0 m 2 ls []) := by
    intro n2
    induction n2 with
    | zero => intro x2_1 hf hm2; exact absurd hm2 (Nat.not_lt_zero _)
    | succ n2 ih2 =>
      intro x2_1 hf hm2 hi2_0 ls hl
      replace hf := (hf.trans (it1_s _ _ _ _)).trans (f_X6_hasEvenPair_b2.eq_1 _ _ _ _)
      refine lv_iload_n hx hb dX6_hasEvenPair_2 rfl (lv_at hl 1 rfl) ?_
      refine lv_iconst (v := 4) hx hb dX6_hasEvenPair_3 (by decide) ?_
      refine lv_icmp_ge (tgt := 29) hx hb dX6_hasEvenPair_4 (by decide) (fun c_4 => ?_) (fun c_4 => ?_)
      · replace hf := hf.trans (if_pos c_4)
        refine lv_iconst (v := 0) hx hb dX6_hasEvenPair_29 (by decide) ?_
        exact W.zret (ty := .boolean) (v := 0) hx hb hr rfl (fun t ht hW => ⟨congrArg (fun z => Outcome.returned (some (Value.int z))) hf.symm, ht⟩) (fun _ h => absurd h List.not_mem_nil) dX6_hasEvenPair_30
      · replace hf := hf.trans (if_neg c_4)
        refine lv_aload_n hx hb dX6_hasEvenPair_7 rfl (lv_at hl 0 rfl) ?_
        refine lv_iconst (v := 0) hx hb dX6_hasEvenPair_8 (by decide) ?_
        refine pcV (As := [.int 0]) (rest := []) ⟨hx, hb, hml, hown, hts⟩ (c_X6_netOf l D cI cZ cO a_t a_t_text a_t_told a_t_draft a_t_now a_t_acts a_t_sightings a_t_sides a_t_kept v_t_keptSlots v_t_theSeed a_t_told_sizes a_t_told_cells f_t_told_sizes f_t_told_cells 0) (cwV 1 hts gX6_hasEvenPair_X6_netOf rfl rfl rfl (by decide +kernel) ⟨Nat.le_of_ble_eq_true rfl, Nat.le_of_ble_eq_true rfl⟩) hKX hP [0, 1, 2, 3] rfl 0 6 rfl rfl rfl rfl hl.1 rfl (Nat.le_of_ble_eq_true rfl) dX6_hasEvenPair_9 ⟨Nat.le_of_ble_eq_true rfl, Nat.le_of_ble_eq_true rfl⟩ ?_
        refine lv_aload_n hx hb dX6_hasEvenPair_12 rfl (lv_at hl 0 rfl) ?_
        refine lv_iload_n hx hb dX6_hasEvenPair_13 rfl (lv_at hl 1 rfl) ?_
        refine pcV (As := [.int x2_1]) (rest := [.int (f_X6_netOf f_t_told_sizes f_t_told_cells 0)]) ⟨hx, hb, hml, hown, hts⟩ (c_X6_netOf l D cI cZ cO a_t a_t_text a_t_told a_t_draft a_t_now a_t_acts a_t_sightings a_t_sides a_t_kept v_t_keptSlots v_t_theSeed a_t_told_sizes a_t_told_cells f_t_told_sizes f_t_told_cells x2_1) (cwV 1 hts gX6_hasEvenPair_X6_netOf rfl rfl rfl (by decide +kernel) ⟨Nat.le_of_ble_eq_true rfl, Nat.le_of_ble_eq_true rfl⟩) hKX hP [0, 1, 2, 3] rfl 0 6 rfl rfl rfl rfl hl.1 rfl (Nat.le_of_ble_eq_true rfl) dX6_hasEvenPair_14 ⟨Nat.le_of_ble_eq_true rfl, Nat.le_of_ble_eq_true rfl⟩ ?_
        refine lv_iadd hx hb dX6_hasEvenPair_17 ?_
        refine lv_if_ne (tgt := 23) hx hb dX6_hasEvenPair_18 (by decide) (fun c_18 => ?_) (fun c_18 => ?_)
        · replace hf := hf.trans (if_pos c_18)
          refine lv_iinc (v := x2_1 + 1) (lv' := [(1, .int (x2_1 + 1)), (0, .ref a_t)]) hx hb dX6_hasEvenPair_23 hl (k := 1) rfl rfl (by decide) rfl (fun ls hl => ?_)
          refine lv_goto (tgt := 2) hx hb dX6_hasEvenPair_26 (by decide) ?_
          exact ih2 (x2_1 + 1) hf (mu_up c_4 hm2) (s_X6_hasEvenPair_1 f_t_told_sizes f_t_told_cells x2_1 hi2_0 c_4 c_18) _ (lv_sub hl [1, 0] rfl)
        · replace hf := hf.trans (if_neg (fun h9 => h9 c_18))
          refine lv_iconst (v := 1) hx hb dX6_hasEvenPair_21 (by decide) ?_
          exact W.zret (ty := .boolean) (v := 1) hx hb hr rfl (fun t ht hW => ⟨congrArg (fun z => Outcome.returned (some (Value.int z))) hf.symm, ht⟩) (fun _ h => absurd h List.not_mem_nil) dX6_hasEvenPair_22
  exact hJ_2 _ 1 hf (Nat.lt_succ_self _) s_X6_hasEvenPair_2 _ (lv_sub hl [1, 0] rfl)

def f_X6_mostSets (f_t_told_sizes : Nat → Int32) (f_t_told_cells : Nat → Int32) (x1 : Int32) : Int32 :=
  if ¬ x1 = 0 then if ¬ x1 = 4 then 1 else if (f_X6_hasEvenPair f_t_told_sizes f_t_told_cells) = 0 then 1 else 2 else 0
set_option maxHeartbeats 4000000 in
set_option maxRecDepth 100000 in
theorem c_X6_mostSets (l : Launch) (D : va_G) (cI cZ cO : ClassId) (a_t : Nat) (a_t_text : Nat) (a_t_told : Nat) (a_t_draft : Nat) (a_t_now : Nat) (a_t_acts : Nat) (a_t_sightings : Nat) (a_t_sides : Nat) (a_t_kept : Nat) (v_t_keptSlots : Int32) (v_t_theSeed : Int64) (a_t_told_sizes : Nat) (a_t_told_cells : Nat) (f_t_told_sizes : Nat → Int32) (f_t_told_cells : Nat → Int32) (x1 : Int32) : Met l yX6_mostSets wsX6_mostSets ({ frames := 5, cells := 0, slots := 0, locals := 111 }) (PcP D (tysG cI cZ cO) [.ref a_t, .int x1] [(a_t, .inr (6, [.ref a_t_text, .ref a_t_told, .ref a_t_draft, .ref a_t_now, .ref a_t_acts, .ref a_t_sightings, .ref a_t_sides, .ref a_t_kept, .int v_t_keptSlots, .long v_t_theSeed])), (a_t_told, .inr (5, [.ref a_t_told_sizes, .ref a_t_told_cells])), (a_t_told_sizes, .inl (cI, 4, .inl f_t_told_sizes)), (a_t_told_cells, .inl (cI, 120, .inl f_t_told_cells))]) (QP (.int (f_X6_mostSets f_t_told_sizes f_t_told_cells x1))) 0 0 (fun _ => False) := by
  refine Met.ofW (cc := cX6_mostSets) (maxL := 2) (ret := (some .int)) (by decide) rfl ?_
  intro p e s m args below meth c s₁ B hml hv
  obtain ⟨rfl, hP, hKX⟩ := hv
  have hx := B.exec
  have hb := B.bytes
  have hr := B.returns
  have hts := atoms_spec (ws := wsX6_mostSets) B.pre
  have hown : s.vm.findClass RX6 = some m.cls := findClass_of_methodNamed B.named
  have hlocks := B.notSynchronized
  have hK := hKX.1
  have hl := lv_entry ([.ref a_t, .int x1]) (n := 2) (Nat.le_of_ble_eq_true rfl)
  rw [lg_entry_eq]
  generalize (lg_sl ([.ref a_t, .int x1]) ++ List.replicate (2 - (lg_sl ([.ref a_t, .int x1])).length) Slot.unset).toArray = ls at hl ⊢
  have hl : lv_has ls 2 [(0, .ref a_t), (1, .int x1)] := hl
  have hf := f_X6_mostSets.eq_1 f_t_told_sizes f_t_told_cells x1
  refine lv_iload_n hx hb dX6_mostSets_0 rfl (lv_at hl 1 rfl) ?_
  refine lv_if_ne (tgt := 6) hx hb dX6_mostSets_1 (by decide) (fun c_1 => ?_) (fun c_1 => ?_)
  · replace hf := hf.trans (if_pos c_1)
    refine lv_iload_n hx hb dX6_mostSets_6 rfl (lv_at hl 1 rfl) ?_
    refine lv_iconst (v := 4) hx hb dX6_mostSets_7 (by decide) ?_
    refine lv_icmp_ne (tgt := 22) hx hb dX6_mostSets_8 (by decide) (fun c_8 => ?_) (fun c_8 => ?_)
    · replace hf := hf.trans (if_pos c_8)
      refine lv_iconst (v := 1) hx hb dX6_mostSets_22 (by decide) ?_
      exact W.iret (v := 1) hx hb hr (fun t ht hW => ⟨congrArg (fun z => Outcome.returned (some (Value.int z))) hf.symm, ht⟩) (fun _ h => absurd h List.not_mem_nil) dX6_mostSets_23
    · replace hf := hf.trans (if_neg (fun h9 => h9 c_8))
      refine lv_aload_n hx hb dX6_mostSets_11 rfl (lv_at hl 0 rfl) ?_
      refine pcV (As := []) (rest := []) ⟨hx, hb, hml, hown, hts⟩ (c_X6_hasEvenPair l D cI cZ cO a_t a_t_text a_t_told a_t_draft a_t_now a_t_acts a_t_sightings a_t_sides a_t_kept v_t_keptSlots v_t_theSeed a_t_told_sizes a_t_told_cells f_t_told_sizes f_t_told_cells) (cwV 0 hts gX6_mostSets_X6_hasEvenPair rfl rfl rfl (by decide +kernel) ⟨Nat.le_of_ble_eq_true rfl, Nat.le_of_ble_eq_true rfl⟩) hKX hP [0, 1, 2, 3] rfl 0 6 rfl rfl rfl rfl hl.1 rfl (Nat.le_of_ble_eq_true rfl) dX6_mostSets_12 ⟨Nat.le_of_ble_eq_true rfl, Nat.le_of_ble_eq_true rfl⟩ ?_
      refine lv_if_eq (tgt := 22) hx hb dX6_mostSets_15 (by decide) (fun c_15 => ?_) (fun c_15 => ?_)
      · replace hf := hf.trans (if_pos c_15)
        refine lv_iconst (v := 1) hx hb dX6_mostSets_22 (by decide) ?_
        exact W.iret (v := 1) hx hb hr (fun t ht hW => ⟨congrArg (fun z => Outcome.returned (some (Value.int z))) hf.symm, ht⟩) (fun _ h => absurd h List.not_mem_nil) dX6_mostSets_23
      · replace hf := hf.trans (if_neg c_15)
        refine lv_iconst (v := 2) hx hb dX6_mostSets_18 (by decide) ?_
        refine lv_goto (tgt := 23) hx hb dX6_mostSets_19 (by decide) ?_
        exact W.iret (v := 2) hx hb hr (fun t ht hW => ⟨congrArg (fun z => Outcome.returned (some (Value.int z))) hf.symm, ht⟩) (fun _ h => absurd h List.not_mem_nil) dX6_mostSets_23
  · replace hf := hf.trans (if_neg (fun h9 => h9 c_1))
    refine lv_iconst (v := 0) hx hb dX6_mostSets_4 (by decide) ?_
    exact W.iret (v := 0) hx hb hr (fun t ht hW => ⟨congrArg (fun z => Outcome.returned (some (Value.int z))) hf.symm, ht⟩) (fun _ h => absurd h List.not_mem_nil) dX6_mostSets_5

def f_X6_payings_j20 (x4_2 : Int32) (k4 : Int32 → Int32 → Int32) (x20_1 : Int32) : Int32 :=
  k4 x20_1 (x4_2 + 1)
def f_X6_payings_b4 (f_t_told_sizes : Nat → Int32) (f_t_told_cells : Nat → Int32) (k4 : Int32 → Int32 → Int32) (x4_1 : Int32) (x4_2 : Int32) : Int32 :=
  if 4 ≤ x4_2 then x4_1 - (f_X6_mostSets f_t_told_sizes f_t_told_cells x4_1) else if (f_X6_netOf f_t_told_sizes f_t_told_cells x4_2) = 0 then f_X6_payings_j20 x4_2 k4 x4_1 else f_X6_payings_j20 x4_2 k4 (x4_1 + 1)
def f_X6_payings (f_t_told_sizes : Nat → Int32) (f_t_told_cells : Nat → Int32) : Int32 :=
  it2 (f_X6_payings_b4 f_t_told_sizes f_t_told_cells) default (((4 : Int32).toInt - (0 : Int32).toInt).toNat + 1) 0 0
/- inv0@23>4 -/ theorem s_X6_payings_1 (x4_2 : Int32) (hi4_0 : 0 ≤ x4_2) (c_6 : ¬ 4 ≤ x4_2) : 0 ≤ (x4_2 + 1) := by grind
/- inv0@3>4 -/ theorem s_X6_payings_2  : 0 ≤ (0 : Int32) := by grind
set_option maxHeartbeats 4000000 in
set_option maxRecDepth 100000 in
theorem c_X6_payings (l : Launch) (D : va_G) (cI cZ cO : ClassId) (a_t : Nat) (a_t_text : Nat) (a_t_told : Nat) (a_t_draft : Nat) (a_t_now : Nat) (a_t_acts : Nat) (a_t_sightings : Nat) (a_t_sides : Nat) (a_t_kept : Nat) (v_t_keptSlots : Int32) (v_t_theSeed : Int64) (a_t_told_sizes : Nat) (a_t_told_cells : Nat) (f_t_told_sizes : Nat → Int32) (f_t_told_cells : Nat → Int32) : Met l yX6_payings wsX6_payings ({ frames := 6, cells := 0, slots := 0, locals := 132 }) (PcP D (tysG cI cZ cO) [.ref a_t] [(a_t, .inr (6, [.ref a_t_text, .ref a_t_told, .ref a_t_draft, .ref a_t_now, .ref a_t_acts, .ref a_t_sightings, .ref a_t_sides, .ref a_t_kept, .int v_t_keptSlots, .long v_t_theSeed])), (a_t_told, .inr (5, [.ref a_t_told_sizes, .ref a_t_told_cells])), (a_t_told_sizes, .inl (cI, 4, .inl f_t_told_sizes)), (a_t_told_cells, .inl (cI, 120, .inl f_t_told_cells))]) (QP (.int (f_X6_payings f_t_told_sizes f_t_told_cells))) 0 0 (fun _ => False) := by
  refine Met.ofW (cc := cX6_payings) (maxL := 3) (ret := (some .int)) (by decide) rfl ?_
  intro p e s m args below meth c s₁ B hml hv
  obtain ⟨rfl, hP, hKX⟩ := hv
  have hx := B.exec
  have hb := B.bytes
  have hr := B.returns
  have hts := atoms_spec (ws := wsX6_payings) B.pre
  have hown : s.vm.findClass RX6 = some m.cls := findClass_of_methodNamed B.named
  have hlocks := B.notSynchronized
  have hK := hKX.1
  have hl := lv_entry ([.ref a_t]) (n := 3) (Nat.le_of_ble_eq_true rfl)
  rw [lg_entry_eq]
  generalize (lg_sl ([.ref a_t]) ++ List.replicate (3 - (lg_sl ([.ref a_t])).length) Slot.unset).toArray = ls at hl ⊢
  have hl : lv_has ls 3 [(0, .ref a_t)] := hl
  have hf := f_X6_payings.eq_1 f_t_told_sizes f_t_told_cells
  refine lv_iconst (v := 0) hx hb dX6_payings_0 (by decide) ?_
  refine lv_istore_n (lv' := [(1, .int 0), (0, .ref a_t)]) hx hb dX6_payings_1 rfl hl (by decide) rfl (fun ls hl => ?_)
  refine lv_iconst (v := 0) hx hb dX6_payings_2 (by decide) ?_
  refine lv_istore_n (lv' := [(2, .int 0), (1, .int 0), (0, .ref a_t)]) hx hb dX6_payings_3 rfl hl (by decide) rfl (fun ls hl => ?_)
  have hJ_4 : ∀ (n4 : Nat) (x4_1 : Int32) (x4_2 : Int32), f_X6_payings f_t_told_sizes f_t_told_cells = it2 (f_X6_payings_b4 f_t_told_sizes f_t_told_cells) default n4 x4_1 x4_2 → ((4 : Int32).toInt - x4_2.toInt).toNat < n4 → (0 ≤ x4_2) → ∀ (ls : Array Slot), lv_has ls 3 [(0, .ref a_t), (1, .int x4_1), (2, .int x4_2)] → W p l e (headSpec wsX6_payings { frames := 6, cells := 0, slots := 0, locals := 132 }).room s m [.ref a_t].toArray below meth c s.heap [] 0 0 (MQ below (QP (.int (f_X6_payings f_t_told_sizes f_t_told_cells))) [.ref a_t].toArray s 0 0 (fun _ => False)) (F0 m 4 ls []) := by
    intro n4
    induction n4 with
    | zero => intro x4_1 x4_2 hf hm4; exact absurd hm4 (Nat.not_lt_zero _)
    | succ n4 ih4 =>
      intro x4_1 x4_2 hf hm4 hi4_0 ls hl
      replace hf := (hf.trans (it2_s _ _ _ _ _)).trans (f_X6_payings_b4.eq_1 _ _ _ _ _)
      refine lv_iload_n hx hb dX6_payings_4 rfl (lv_at hl 2 rfl) ?_
      refine lv_iconst (v := 4) hx hb dX6_payings_5 (by decide) ?_
      refine lv_icmp_ge (tgt := 26) hx hb dX6_payings_6 (by decide) (fun c_6 => ?_) (fun c_6 => ?_)
      · replace hf := hf.trans (if_pos c_6)
        refine lv_iload_n hx hb dX6_payings_26 rfl (lv_at hl 1 rfl) ?_
        refine lv_aload_n hx hb dX6_payings_27 rfl (lv_at hl 0 rfl) ?_
        refine lv_iload_n hx hb dX6_payings_28 rfl (lv_at hl 1 rfl) ?_
        refine pcV (As := [.int x4_1]) (rest := [.int x4_1]) ⟨hx, hb, hml, hown, hts⟩ (c_X6_mostSets l D cI cZ cO a_t a_t_text a_t_told a_t_draft a_t_now a_t_acts a_t_sightings a_t_sides a_t_kept v_t_keptSlots v_t_theSeed a_t_told_sizes a_t_told_cells f_t_told_sizes f_t_told_cells x4_1) (cwV 1 hts gX6_payings_X6_mostSets rfl rfl rfl (by decide +kernel) ⟨Nat.le_of_ble_eq_true rfl, Nat.le_of_ble_eq_true rfl⟩) hKX hP [0, 1, 2, 3] rfl 0 6 rfl rfl rfl rfl hl.1 rfl (Nat.le_of_ble_eq_true rfl) dX6_payings_29 ⟨Nat.le_of_ble_eq_true rfl, Nat.le_of_ble_eq_true rfl⟩ ?_
        refine lv_isub hx hb dX6_payings_32 ?_
        exact W.iret (v := x4_1 - (f_X6_mostSets f_t_told_sizes f_t_told_cells x4_1)) hx hb hr (fun t ht hW => ⟨congrArg (fun z => Outcome.returned (some (Value.int z))) hf.symm, ht⟩) (fun _ h => absurd h List.not_mem_nil) dX6_payings_33
      · replace hf := hf.trans (if_neg c_6)
        refine lv_aload_n hx hb dX6_payings_9 rfl (lv_at hl 0 rfl) ?_
        refine lv_iload_n hx hb dX6_payings_10 rfl (lv_at hl 2 rfl) ?_
        refine pcV (As := [.int x4_2]) (rest := []) ⟨hx, hb, hml, hown, hts⟩ (c_X6_netOf l D cI cZ cO a_t a_t_text a_t_told a_t_draft a_t_now a_t_acts a_t_sightings a_t_sides a_t_kept v_t_keptSlots v_t_theSeed a_t_told_sizes a_t_told_cells f_t_told_sizes f_t_told_cells x4_2) (cwV 1 hts gX6_payings_X6_netOf rfl rfl rfl (by decide +kernel) ⟨Nat.le_of_ble_eq_true rfl, Nat.le_of_ble_eq_true rfl⟩) hKX hP [0, 1, 2, 3] rfl 0 6 rfl rfl rfl rfl hl.1 rfl (Nat.le_of_ble_eq_true rfl) dX6_payings_11 ⟨Nat.le_of_ble_eq_true rfl, Nat.le_of_ble_eq_true rfl⟩ ?_
        have hJ_20 : ∀ (x20_1 : Int32), f_X6_payings f_t_told_sizes f_t_told_cells = f_X6_payings_j20 x4_2 ((it2 (f_X6_payings_b4 f_t_told_sizes f_t_told_cells) default n4)) x20_1 → ∀ (ls : Array Slot), lv_has ls 3 [(0, .ref a_t), (1, .int x20_1), (2, .int x4_2)] → W p l e (headSpec wsX6_payings { frames := 6, cells := 0, slots := 0, locals := 132 }).room s m [.ref a_t].toArray below meth c s.heap [] 0 0 (MQ below (QP (.int (f_X6_payings f_t_told_sizes f_t_told_cells))) [.ref a_t].toArray s 0 0 (fun _ => False)) (F0 m 20 ls []) := by
          intro x20_1 hf ls hl
          replace hf := hf.trans (f_X6_payings_j20.eq_1 _ _ _)
          refine lv_iinc (v := x4_2 + 1) (lv' := [(2, .int (x4_2 + 1)), (0, .ref a_t), (1, .int x20_1)]) hx hb dX6_payings_20 hl (k := 2) rfl rfl (by decide) rfl (fun ls hl => ?_)
          refine lv_goto (tgt := 4) hx hb dX6_payings_23 (by decide) ?_
          exact ih4 x20_1 (x4_2 + 1) hf (mu_up c_6 hm4) (s_X6_payings_1 x4_2 hi4_0 c_6) _ (lv_sub hl [1, 2, 0] rfl)
        refine lv_if_eq (tgt := 20) hx hb dX6_payings_14 (by decide) (fun c_14 => ?_) (fun c_14 => ?_)
        · replace hf := hf.trans (if_pos c_14)
          exact hJ_20 x4_1 hf _ (lv_sub hl [0, 1, 2] rfl)
        · replace hf := hf.trans (if_neg c_14)
          refine lv_iinc (v := x4_1 + 1) (lv' := [(1, .int (x4_1 + 1)), (0, .ref a_t), (2, .int x4_2)]) hx hb dX6_payings_17 hl (k := 1) rfl rfl (by decide) rfl (fun ls hl => ?_)
          exact hJ_20 (x4_1 + 1) hf _ (lv_sub hl [1, 0, 2] rfl)
  exact hJ_4 _ 0 0 hf (Nat.lt_succ_self _) s_X6_payings_2 _ (lv_sub hl [2, 1, 0] rfl)

def f_X6_isGap (x0 : Int32) : Int32 :=
  if x0 < 0 then 0 else if 13 ≤ x0 then 0 else 1
set_option maxHeartbeats 4000000 in
set_option maxRecDepth 100000 in
theorem c_X6_isGap (l : Launch) (D : va_G) (cI cZ cO : ClassId) (x0 : Int32) : Met l yX6_isGap wsX6_isGap ({ frames := 0, cells := 0, slots := 0, locals := 0 }) (PcP D (tysG cI cZ cO) [.int x0] []) (QP (.int (f_X6_isGap x0))) 0 0 (fun _ => False) := by
  refine Met.ofW (cc := cX6_isGap) (maxL := 1) (ret := (some .boolean)) (by decide) rfl ?_
  intro p e s m args below meth c s₁ B hml hv
  obtain ⟨rfl, hP, hKX⟩ := hv
  have hx := B.exec
  have hb := B.bytes
  have hr := B.returns
  have hts := atoms_spec (ws := wsX6_isGap) B.pre
  have hown : s.vm.findClass RX6 = some m.cls := findClass_of_methodNamed B.named
  have hlocks := B.notSynchronized
  have hK := hKX.1
  have hl := lv_entry ([.int x0]) (n := 1) (Nat.le_of_ble_eq_true rfl)
  rw [lg_entry_eq]
  generalize (lg_sl ([.int x0]) ++ List.replicate (1 - (lg_sl ([.int x0])).length) Slot.unset).toArray = ls at hl ⊢
  have hl : lv_has ls 1 [(0, .int x0)] := hl
  have hf := f_X6_isGap.eq_1 x0
  refine lv_iload_n hx hb dX6_isGap_0 rfl (lv_at hl 0 rfl) ?_
  refine lv_if_lt (tgt := 14) hx hb dX6_isGap_1 (by decide) (fun c_1 => ?_) (fun c_1 => ?_)
  · replace hf := hf.trans (if_pos c_1)
    refine lv_iconst (v := 0) hx hb dX6_isGap_14 (by decide) ?_
    exact W.zret (ty := .boolean) (v := 0) hx hb hr rfl (fun t ht hW => ⟨congrArg (fun z => Outcome.returned (some (Value.int z))) hf.symm, ht⟩) (fun _ h => absurd h List.not_mem_nil) dX6_isGap_15
  · replace hf := hf.trans (if_neg c_1)
    refine lv_iload_n hx hb dX6_isGap_4 rfl (lv_at hl 0 rfl) ?_
    refine lv_bipush (v := 13) hx hb dX6_isGap_5 (by decide) ?_
    refine lv_icmp_ge (tgt := 14) hx hb dX6_isGap_7 (by decide) (fun c_7 => ?_) (fun c_7 => ?_)
    · replace hf := hf.trans (if_pos c_7)
      refine lv_iconst (v := 0) hx hb dX6_isGap_14 (by decide) ?_
      exact W.zret (ty := .boolean) (v := 0) hx hb hr rfl (fun t ht hW => ⟨congrArg (fun z => Outcome.returned (some (Value.int z))) hf.symm, ht⟩) (fun _ h => absurd h List.not_mem_nil) dX6_isGap_15
    · replace hf := hf.trans (if_neg c_7)
      refine lv_iconst (v := 1) hx hb dX6_isGap_10 (by decide) ?_
      refine lv_goto (tgt := 15) hx hb dX6_isGap_11 (by decide) ?_
      exact W.zret (ty := .boolean) (v := 1) hx hb hr rfl (fun t ht hW => ⟨congrArg (fun z => Outcome.returned (some (Value.int z))) hf.symm, ht⟩) (fun _ h => absurd h List.not_mem_nil) dX6_isGap_15

def f_X6_strike (v_t_sides_size : Int32) (v_t_sides_struck : Int32) (f_t_sides_gaps : Nat → Int32) (f_t_sides_lasts : Nat → Int32) (x1 : Int32) (x2 : Int32) (x3 : Int32) (x4 : Int32) : Int32 × Int32 × Int32 × (Nat → Int32) × (Nat → Int32) :=
  if (f_X6_areBits x1 13) = 0 then ((-2), v_t_sides_size, v_t_sides_struck, f_t_sides_gaps, f_t_sides_lasts) else if (f_X6_isGap x2) = 0 then ((-2), v_t_sides_size, v_t_sides_struck, f_t_sides_gaps, f_t_sides_lasts) else if (f_X6_isGap x3) = 0 then ((-2), v_t_sides_size, v_t_sides_struck, f_t_sides_gaps, f_t_sides_lasts) else if ¬ (f_X6_isZeroOrOne x4) = 0 then if (f_J6_bitCount_0f7a4 x1) < 2 then ((-2), v_t_sides_size, v_t_sides_struck, f_t_sides_gaps, f_t_sides_lasts) else if (f_J6_bitCount_0f7a4 x1) ≤ 6 then ap4 (f_X1_play v_t_sides_struck f_t_sides_gaps f_t_sides_lasts x1 x2 x3) (fun u63_t_sides_size u63_t_sides_struck u63_t_sides_gaps u63_t_sides_lasts => if ¬ x4 = 0 then (f_X1_firstStruck u63_t_sides_struck, u63_t_sides_size, u63_t_sides_struck, u63_t_sides_gaps, u63_t_sides_lasts) else (f_X1_lastLeft u63_t_sides_size u63_t_sides_lasts, u63_t_sides_size, u63_t_sides_struck, u63_t_sides_gaps, u63_t_sides_lasts)) else ((-2), v_t_sides_size, v_t_sides_struck, f_t_sides_gaps, f_t_sides_lasts) else ((-2), v_t_sides_size, v_t_sides_struck, f_t_sides_gaps, f_t_sides_lasts)
/- post0@33 -/ theorem s_X6_strike_1 (v_t_sides_size : Int32) (hp0 : 0 ≤ v_t_sides_size) (hp1 : v_t_sides_size ≤ 6) : 0 ≤ v_t_sides_size := by grind
/- post1@33 -/ theorem s_X6_strike_2 (v_t_sides_size : Int32) (hp0 : 0 ≤ v_t_sides_size) (hp1 : v_t_sides_size ≤ 6) : v_t_sides_size ≤ 6 := by grind
/- post0@33 -/ theorem s_X6_strike_3 (v_t_sides_size : Int32) (hp0 : 0 ≤ v_t_sides_size) (hp1 : v_t_sides_size ≤ 6) : 0 ≤ v_t_sides_size := by grind
/- post1@33 -/ theorem s_X6_strike_4 (v_t_sides_size : Int32) (hp0 : 0 ≤ v_t_sides_size) (hp1 : v_t_sides_size ≤ 6) : v_t_sides_size ≤ 6 := by grind
/- post0@33 -/ theorem s_X6_strike_5 (v_t_sides_size : Int32) (hp0 : 0 ≤ v_t_sides_size) (hp1 : v_t_sides_size ≤ 6) : 0 ≤ v_t_sides_size := by grind
/- post1@33 -/ theorem s_X6_strike_6 (v_t_sides_size : Int32) (hp0 : 0 ≤ v_t_sides_size) (hp1 : v_t_sides_size ≤ 6) : v_t_sides_size ≤ 6 := by grind
/- post0@55 -/ theorem s_X6_strike_7 (v_t_sides_size : Int32) (hp0 : 0 ≤ v_t_sides_size) (hp1 : v_t_sides_size ≤ 6) : 0 ≤ v_t_sides_size := by grind
/- post1@55 -/ theorem s_X6_strike_8 (v_t_sides_size : Int32) (hp0 : 0 ≤ v_t_sides_size) (hp1 : v_t_sides_size ≤ 6) : v_t_sides_size ≤ 6 := by grind
/- hp0@63 -/ theorem s_X6_strike_9 (v_t_sides_size : Int32) (hp0 : 0 ≤ v_t_sides_size) (hp1 : v_t_sides_size ≤ 6) : 0 ≤ v_t_sides_size := by grind
/- hp1@63 -/ theorem s_X6_strike_10 (v_t_sides_size : Int32) (hp0 : 0 ≤ v_t_sides_size) (hp1 : v_t_sides_size ≤ 6) : v_t_sides_size ≤ 6 := by grind
/- hp0@85 -/ theorem s_X6_strike_11 (u63_t_sides_size : Int32) (hq63_0 : 0 ≤ u63_t_sides_size) (hq63_1 : u63_t_sides_size ≤ 6) : 0 ≤ u63_t_sides_size := by grind
/- hp1@85 -/ theorem s_X6_strike_12 (u63_t_sides_size : Int32) (hq63_0 : 0 ≤ u63_t_sides_size) (hq63_1 : u63_t_sides_size ≤ 6) : u63_t_sides_size ≤ 6 := by grind
/- post0@88 -/ theorem s_X6_strike_13 (u63_t_sides_size : Int32) (hq63_0 : 0 ≤ u63_t_sides_size) (hq63_1 : u63_t_sides_size ≤ 6) : 0 ≤ u63_t_sides_size := by grind
/- post1@88 -/ theorem s_X6_strike_14 (u63_t_sides_size : Int32) (hq63_0 : 0 ≤ u63_t_sides_size) (hq63_1 : u63_t_sides_size ≤ 6) : u63_t_sides_size ≤ 6 := by grind
/- hp0@75 -/ theorem s_X6_strike_15 (u63_t_sides_size : Int32) (hq63_0 : 0 ≤ u63_t_sides_size) (hq63_1 : u63_t_sides_size ≤ 6) : 0 ≤ u63_t_sides_size := by grind
/- hp1@75 -/ theorem s_X6_strike_16 (u63_t_sides_size : Int32) (hq63_0 : 0 ≤ u63_t_sides_size) (hq63_1 : u63_t_sides_size ≤ 6) : u63_t_sides_size ≤ 6 := by grind
/- post0@88 -/ theorem s_X6_strike_17 (u63_t_sides_size : Int32) (hq63_0 : 0 ≤ u63_t_sides_size) (hq63_1 : u63_t_sides_size ≤ 6) : 0 ≤ u63_t_sides_size := by grind
/- post1@88 -/ theorem s_X6_strike_18 (u63_t_sides_size : Int32) (hq63_0 : 0 ≤ u63_t_sides_size) (hq63_1 : u63_t_sides_size ≤ 6) : u63_t_sides_size ≤ 6 := by grind
/- post0@55 -/ theorem s_X6_strike_19 (v_t_sides_size : Int32) (hp0 : 0 ≤ v_t_sides_size) (hp1 : v_t_sides_size ≤ 6) : 0 ≤ v_t_sides_size := by grind
/- post1@55 -/ theorem s_X6_strike_20 (v_t_sides_size : Int32) (hp0 : 0 ≤ v_t_sides_size) (hp1 : v_t_sides_size ≤ 6) : v_t_sides_size ≤ 6 := by grind
/- post0@33 -/ theorem s_X6_strike_21 (v_t_sides_size : Int32) (hp0 : 0 ≤ v_t_sides_size) (hp1 : v_t_sides_size ≤ 6) : 0 ≤ v_t_sides_size := by grind
/- post1@33 -/ theorem s_X6_strike_22 (v_t_sides_size : Int32) (hp0 : 0 ≤ v_t_sides_size) (hp1 : v_t_sides_size ≤ 6) : v_t_sides_size ≤ 6 := by grind
set_option maxHeartbeats 4000000 in
set_option maxRecDepth 100000 in
theorem c_X6_strike (l : Launch) (D : va_G) (cI cZ cO : ClassId) (a_t : Nat) (a_t_text : Nat) (a_t_told : Nat) (a_t_draft : Nat) (a_t_now : Nat) (a_t_acts : Nat) (a_t_sightings : Nat) (a_t_sides : Nat) (a_t_kept : Nat) (v_t_keptSlots : Int32) (v_t_theSeed : Int64) (a_t_sides_gaps : Nat) (a_t_sides_lasts : Nat) (v_t_sides_size : Int32) (v_t_sides_struck : Int32) (f_t_sides_gaps : Nat → Int32) (f_t_sides_lasts : Nat → Int32) (x1 : Int32) (x2 : Int32) (x3 : Int32) (x4 : Int32) (sz : Nat) (hp0 : 0 ≤ v_t_sides_size) (hp1 : v_t_sides_size ≤ 6) : Met l yX6_strike wsX6_strike ({ frames := 3, cells := 0, slots := 0, locals := 90 }) (PcM D (tysG cI cZ cO) [.ref a_t, .int x1, .int x2, .int x3, .int x4] sz [(a_t, .inr (6, [.ref a_t_text, .ref a_t_told, .ref a_t_draft, .ref a_t_now, .ref a_t_acts, .ref a_t_sightings, .ref a_t_sides, .ref a_t_kept, .int v_t_keptSlots, .long v_t_theSeed])), (a_t_sides, .inr (1, [.ref a_t_sides_gaps, .ref a_t_sides_lasts, .int v_t_sides_size, .int v_t_sides_struck])), (a_t_sides_gaps, .inl (cI, 6, .inl f_t_sides_gaps)), (a_t_sides_lasts, .inl (cI, 64, .inl f_t_sides_lasts))]) (va_Qi (fun (r : Int32) (u : Int32 × Int32 × (Nat → Int32) × (Nat → Int32)) => (r, u) = f_X6_strike v_t_sides_size v_t_sides_struck f_t_sides_gaps f_t_sides_lasts x1 x2 x3 x4 ∧ (0 ≤ u.1) ∧ (u.1 ≤ 6)) (BM D (va_A [(a_t, .inr (6, [.ref a_t_text, .ref a_t_told, .ref a_t_draft, .ref a_t_now, .ref a_t_acts, .ref a_t_sightings, .ref a_t_sides, .ref a_t_kept, .int v_t_keptSlots, .long v_t_theSeed])), (a_t_sides, .inr (1, [.ref a_t_sides_gaps, .ref a_t_sides_lasts, .int v_t_sides_size, .int v_t_sides_struck])), (a_t_sides_gaps, .inl (cI, 6, .inl f_t_sides_gaps)), (a_t_sides_lasts, .inl (cI, 64, .inl f_t_sides_lasts))] sz) (fun u : Int32 × Int32 × (Nat → Int32) × (Nat → Int32) => [(a_t, .inr (6, [.ref a_t_text, .ref a_t_told, .ref a_t_draft, .ref a_t_now, .ref a_t_acts, .ref a_t_sightings, .ref a_t_sides, .ref a_t_kept, .int v_t_keptSlots, .long v_t_theSeed])), (a_t_sides, .inr (1, [.ref a_t_sides_gaps, .ref a_t_sides_lasts, .int u.1, .int u.2.1])), (a_t_sides_gaps, .inl (cI, 6, .inl u.2.2.1)), (a_t_sides_lasts, .inl (cI, 64, .inl u.2.2.2))])) (va_A [(a_t, .inr (6, [.ref a_t_text, .ref a_t_told, .ref a_t_draft, .ref a_t_now, .ref a_t_acts, .ref a_t_sightings, .ref a_t_sides, .ref a_t_kept, .int v_t_keptSlots, .long v_t_theSeed])), (a_t_sides, .inr (1, [.ref a_t_sides_gaps, .ref a_t_sides_lasts, .int v_t_sides_size, .int v_t_sides_struck])), (a_t_sides_gaps, .inl (cI, 6, .inl f_t_sides_gaps)), (a_t_sides_lasts, .inl (cI, 64, .inl f_t_sides_lasts))] sz)) 0 0 (va_A [(a_t, .inr (6, [.ref a_t_text, .ref a_t_told, .ref a_t_draft, .ref a_t_now, .ref a_t_acts, .ref a_t_sightings, .ref a_t_sides, .ref a_t_kept, .int v_t_keptSlots, .long v_t_theSeed])), (a_t_sides, .inr (1, [.ref a_t_sides_gaps, .ref a_t_sides_lasts, .int v_t_sides_size, .int v_t_sides_struck])), (a_t_sides_gaps, .inl (cI, 6, .inl f_t_sides_gaps)), (a_t_sides_lasts, .inl (cI, 64, .inl f_t_sides_lasts))] sz) := by
  refine Met.ofW (cc := cX6_strike) (maxL := 6) (ret := (some .int)) (by decide) rfl ?_
  intro p e s m args below meth c s₁ B hml hv
  obtain ⟨rfl, hsz, hP, hKX, hD0⟩ := hv
  have hx := B.exec
  have hb := B.bytes
  have hr := B.returns
  have hts := atoms_spec (ws := wsX6_strike) B.pre
  have hown : s.vm.findClass RX6 = some m.cls := findClass_of_methodNamed B.named
  have hlocks := B.notSynchronized
  have hK := hKX.1
  have hwX6 : ∀ w ∈ wsX60, w ∈ wsX6_strike := by decide +kernel
  subst hsz
  have hD := hD0.self (sz := s.heap.size)
  generalize hAe : va_A [(a_t, .inr (6, [.ref a_t_text, .ref a_t_told, .ref a_t_draft, .ref a_t_now, .ref a_t_acts, .ref a_t_sightings, .ref a_t_sides, .ref a_t_kept, .int v_t_keptSlots, .long v_t_theSeed])), (a_t_sides, .inr (1, [.ref a_t_sides_gaps, .ref a_t_sides_lasts, .int v_t_sides_size, .int v_t_sides_struck])), (a_t_sides_gaps, .inl (cI, 6, .inl f_t_sides_gaps)), (a_t_sides_lasts, .inl (cI, 64, .inl f_t_sides_lasts))] s.heap.size = A at hD ⊢
  have hA : ∀ q : Nat, s.heap.size ≤ q → A q := fun q h => by rw [← hAe]; exact Or.inr h
  have hS : va_S A s.heap s.heap [] := va_S.rf
  have hP : va_P D vwCl [(a_t, .inr (6, [.ref a_t_text, .ref a_t_told, .ref a_t_draft, .ref a_t_now, .ref a_t_acts, .ref a_t_sightings, .ref a_t_sides, .ref a_t_kept, .int v_t_keptSlots, .long v_t_theSeed])), (a_t_sides, .inr (1, [.ref a_t_sides_gaps, .ref a_t_sides_lasts, .int v_t_sides_size, .int v_t_sides_struck])), (a_t_sides_gaps, .inl (cI, 6, .inl f_t_sides_gaps)), (a_t_sides_lasts, .inl (cI, 64, .inl f_t_sides_lasts))] s.heap := hP
  have hl := lv_entry ([.ref a_t, .int x1, .int x2, .int x3, .int x4]) (n := 6) (Nat.le_of_ble_eq_true rfl)
  rw [lg_entry_eq]
  generalize (lg_sl ([.ref a_t, .int x1, .int x2, .int x3, .int x4]) ++ List.replicate (6 - (lg_sl ([.ref a_t, .int x1, .int x2, .int x3, .int x4])).length) Slot.unset).toArray = ls at hl ⊢
  have hl : lv_has ls 6 [(0, .ref a_t), (1, .int x1), (2, .int x2), (3, .int x3), (4, .int x4)] := hl
  have hf := f_X6_strike.eq_1 v_t_sides_size v_t_sides_struck f_t_sides_gaps f_t_sides_lasts x1 x2 x3 x4
  refine lv_iload_n hx hb dX6_strike_0 rfl (lv_at hl 1 rfl) ?_
  refine lv_bipush (v := 13) hx hb dX6_strike_1 (by decide) ?_
  refine pcS (As := [.int x1, .int 13]) (rest := []) ⟨hx, hb, hml, hown, hts⟩ (c_X6_areBits l D cI cZ cO x1 13) (va_cwS 2 hts gX6_strike_X6_areBits rfl rfl rfl (by decide +kernel) ⟨Nat.le_of_ble_eq_true rfl, Nat.le_of_ble_eq_true rfl⟩) hKX hP [] rfl rfl hl.1 rfl (Nat.le_of_ble_eq_true rfl) dX6_strike_3 ⟨Nat.le_of_ble_eq_true rfl, Nat.le_of_ble_eq_true rfl⟩ ?_
  refine lv_if_eq (tgt := 31) hx hb dX6_strike_6 (by decide) (fun c_6 => ?_) (fun c_6 => ?_)
  · replace hf := hf.trans (if_pos c_6)
    refine lv_bipush (v := (-2)) hx hb dX6_strike_31 (by decide) ?_
    exact W.iret (v := (-2)) hx hb hr (fun t ht hW => ⟨⟨(-2), (v_t_sides_size, v_t_sides_struck, f_t_sides_gaps, f_t_sides_lasts), rfl, ⟨hf.symm, (s_X6_strike_1 v_t_sides_size hp0 hp1), (s_X6_strike_2 v_t_sides_size hp0 hp1)⟩, by rw [ht]; exact hP.sub [0, 1, 2, 3] rfl, hD.sub [0, 1, 2, 3] (by decide) rfl⟩, hS.F ht⟩) hS.2.2 dX6_strike_33
  · replace hf := hf.trans (if_neg c_6)
    refine lv_iload_n hx hb dX6_strike_9 rfl (lv_at hl 2 rfl) ?_
    refine pcS (As := [.int x2]) (rest := []) ⟨hx, hb, hml, hown, hts⟩ (c_X6_isGap l D cI cZ cO x2) (va_cwS 1 hts gX6_strike_X6_isGap rfl rfl rfl (by decide +kernel) ⟨Nat.le_of_ble_eq_true rfl, Nat.le_of_ble_eq_true rfl⟩) hKX hP [] rfl rfl hl.1 rfl (Nat.le_of_ble_eq_true rfl) dX6_strike_10 ⟨Nat.le_of_ble_eq_true rfl, Nat.le_of_ble_eq_true rfl⟩ ?_
    refine lv_if_eq (tgt := 31) hx hb dX6_strike_13 (by decide) (fun c_13 => ?_) (fun c_13 => ?_)
    · replace hf := hf.trans (if_pos c_13)
      refine lv_bipush (v := (-2)) hx hb dX6_strike_31 (by decide) ?_
      exact W.iret (v := (-2)) hx hb hr (fun t ht hW => ⟨⟨(-2), (v_t_sides_size, v_t_sides_struck, f_t_sides_gaps, f_t_sides_lasts), rfl, ⟨hf.symm, (s_X6_strike_3 v_t_sides_size hp0 hp1), (s_X6_strike_4 v_t_sides_size hp0 hp1)⟩, by rw [ht]; exact hP.sub [0, 1, 2, 3] rfl, hD.sub [0, 1, 2, 3] (by decide) rfl⟩, hS.F ht⟩) hS.2.2 dX6_strike_33
    · replace hf := hf.trans (if_neg c_13)
      refine lv_iload_n hx hb dX6_strike_16 rfl (lv_at hl 3 rfl) ?_
      refine pcS (As := [.int x3]) (rest := []) ⟨hx, hb, hml, hown, hts⟩ (c_X6_isGap l D cI cZ cO x3) (va_cwS 1 hts gX6_strike_X6_isGap rfl rfl rfl (by decide +kernel) ⟨Nat.le_of_ble_eq_true rfl, Nat.le_of_ble_eq_true rfl⟩) hKX hP [] rfl rfl hl.1 rfl (Nat.le_of_ble_eq_true rfl) dX6_strike_17 ⟨Nat.le_of_ble_eq_true rfl, Nat.le_of_ble_eq_true rfl⟩ ?_
      refine lv_if_eq (tgt := 31) hx hb dX6_strike_20 (by decide) (fun c_20 => ?_) (fun c_20 => ?_)
      · replace hf := hf.trans (if_pos c_20)
        refine lv_bipush (v := (-2)) hx hb dX6_strike_31 (by decide) ?_
        exact W.iret (v := (-2)) hx hb hr (fun t ht hW => ⟨⟨(-2), (v_t_sides_size, v_t_sides_struck, f_t_sides_gaps, f_t_sides_lasts), rfl, ⟨hf.symm, (s_X6_strike_5 v_t_sides_size hp0 hp1), (s_X6_strike_6 v_t_sides_size hp0 hp1)⟩, by rw [ht]; exact hP.sub [0, 1, 2, 3] rfl, hD.sub [0, 1, 2, 3] (by decide) rfl⟩, hS.F ht⟩) hS.2.2 dX6_strike_33
      · replace hf := hf.trans (if_neg c_20)
        refine lv_iload hx hb dX6_strike_23 (lv_at hl 4 rfl) ?_
        refine pcS (As := [.int x4]) (rest := []) ⟨hx, hb, hml, hown, hts⟩ (c_X6_isZeroOrOne l D cI cZ cO x4) (va_cwS 1 hts gX6_strike_X6_isZeroOrOne rfl rfl rfl (by decide +kernel) ⟨Nat.le_of_ble_eq_true rfl, Nat.le_of_ble_eq_true rfl⟩) hKX hP [] rfl rfl hl.1 rfl (Nat.le_of_ble_eq_true rfl) dX6_strike_25 ⟨Nat.le_of_ble_eq_true rfl, Nat.le_of_ble_eq_true rfl⟩ ?_
        refine lv_if_ne (tgt := 34) hx hb dX6_strike_28 (by decide) (fun c_28 => ?_) (fun c_28 => ?_)
        · replace hf := hf.trans (if_pos c_28)
          refine lv_iload_n hx hb dX6_strike_34 rfl (lv_at hl 1 rfl) ?_
          refine pcS (As := [.int x1]) (rest := []) ⟨hx, hb, hml, hown, hts⟩ (c_J6_bitCount_0f7a4 l D cI cZ cO x1) (va_cwS 1 hts gX6_strike_J6_bitCount_0f7a4 rfl rfl rfl (by decide +kernel) ⟨Nat.le_of_ble_eq_true rfl, Nat.le_of_ble_eq_true rfl⟩) hKX hP [] rfl rfl hl.1 rfl (Nat.le_of_ble_eq_true rfl) dX6_strike_35 ⟨Nat.le_of_ble_eq_true rfl, Nat.le_of_ble_eq_true rfl⟩ ?_
          refine lv_istore (lv' := [(5, .int (f_J6_bitCount_0f7a4 x1)), (0, .ref a_t), (1, .int x1), (2, .int x2), (3, .int x3), (4, .int x4)]) hx hb dX6_strike_38 hl (by decide) rfl (fun ls hl => ?_)
          refine lv_iload hx hb dX6_strike_40 (lv_at hl 0 rfl) ?_
          refine lv_iconst (v := 2) hx hb dX6_strike_42 (by decide) ?_
          refine lv_icmp_lt (tgt := 53) hx hb dX6_strike_43 (by decide) (fun c_43 => ?_) (fun c_43 => ?_)
          · replace hf := hf.trans (if_pos c_43)
            refine lv_bipush (v := (-2)) hx hb dX6_strike_53 (by decide) ?_
            exact W.iret (v := (-2)) hx hb hr (fun t ht hW => ⟨⟨(-2), (v_t_sides_size, v_t_sides_struck, f_t_sides_gaps, f_t_sides_lasts), rfl, ⟨hf.symm, (s_X6_strike_7 v_t_sides_size hp0 hp1), (s_X6_strike_8 v_t_sides_size hp0 hp1)⟩, by rw [ht]; exact hP.sub [0, 1, 2, 3] rfl, hD.sub [0, 1, 2, 3] (by decide) rfl⟩, hS.F ht⟩) hS.2.2 dX6_strike_55
          · replace hf := hf.trans (if_neg c_43)
            refine lv_iload hx hb dX6_strike_46 (lv_at hl 0 rfl) ?_
            refine lv_bipush (v := 6) hx hb dX6_strike_48 (by decide) ?_
            refine lv_icmp_le (tgt := 56) hx hb dX6_strike_50 (by decide) (fun c_50 => ?_) (fun c_50 => ?_)
            · replace hf := hf.trans (if_pos c_50)
              refine lv_aload_n hx hb dX6_strike_56 rfl (lv_at hl 1 rfl) ?_
              refine va_get (D := D) (ci := 6) (v := .ref a_t_sides) (C := RX6) (T := TX6) (N := 10) hx hb hts hwX6 hown hK hP 0 rfl rfl 6 (by decide) (hts (.fieldLink RX6 50 "SkippedDay" "sides" "LSkippedDay$Sides;") (by decide +kernel)) (fun _ h9 => h9) rfl dX6_strike_57 ?_
              refine lv_iload_n hx hb dX6_strike_60 rfl (lv_at hl 2 rfl) ?_
              refine lv_iload_n hx hb dX6_strike_61 rfl (lv_at hl 3 rfl) ?_
              refine lv_iload_n hx hb dX6_strike_62 rfl (lv_at hl 4 rfl) ?_
              refine callMv (As := [.int x1, .int x2, .int x3]) (rest := []) (wr := [(a_t, .inr (6, [.ref a_t_text, .ref a_t_told, .ref a_t_draft, .ref a_t_now, .ref a_t_acts, .ref a_t_sightings, .ref a_t_sides, .ref a_t_kept, .int v_t_keptSlots, .long v_t_theSeed]))]) ⟨hx, hb, hml, hown, hts⟩ (c_X1_play l D cI cZ cO a_t_sides a_t_sides_gaps a_t_sides_lasts v_t_sides_size v_t_sides_struck f_t_sides_gaps f_t_sides_lasts x1 x2 x3 s.heap.size (s_X6_strike_9 v_t_sides_size hp0 hp1) (s_X6_strike_10 v_t_sides_size hp0 hp1)) (cwV 3 hts gX6_strike_X1_play rfl rfl rfl (by decide +kernel) ⟨Nat.le_of_ble_eq_true rfl, Nat.le_of_ble_eq_true rfl⟩) hKX hP hD hS hA [1, 2, 3] [0] rfl rfl (by decide) (by decide) (by decide) 1 1 rfl rfl rfl rfl hl.1 rfl (Nat.le_of_ble_eq_true rfl) dX6_strike_63 ⟨Nat.le_of_ble_eq_true rfl, Nat.le_of_ble_eq_true rfl⟩ (fun u H locs hc63 hP hD hS => ?_)
              obtain ⟨u63_t_sides_size, u63_t_sides_struck, u63_t_sides_gaps, u63_t_sides_lasts⟩ := u
              have hP : va_P D vwCl [(a_t, .inr (6, [.ref a_t_text, .ref a_t_told, .ref a_t_draft, .ref a_t_now, .ref a_t_acts, .ref a_t_sightings, .ref a_t_sides, .ref a_t_kept, .int v_t_keptSlots, .long v_t_theSeed])), (a_t_sides, .inr (1, [.ref a_t_sides_gaps, .ref a_t_sides_lasts, .int u63_t_sides_size, .int u63_t_sides_struck])), (a_t_sides_gaps, .inl (cI, 6, .inl u63_t_sides_gaps)), (a_t_sides_lasts, .inl (cI, 64, .inl u63_t_sides_lasts))] H := hP
              have hD : va_D A [(a_t, .inr (6, [.ref a_t_text, .ref a_t_told, .ref a_t_draft, .ref a_t_now, .ref a_t_acts, .ref a_t_sightings, .ref a_t_sides, .ref a_t_kept, .int v_t_keptSlots, .long v_t_theSeed])), (a_t_sides, .inr (1, [.ref a_t_sides_gaps, .ref a_t_sides_lasts, .int u63_t_sides_size, .int u63_t_sides_struck])), (a_t_sides_gaps, .inl (cI, 6, .inl u63_t_sides_gaps)), (a_t_sides_lasts, .inl (cI, 64, .inl u63_t_sides_lasts))] := hD
              have hq63_0 : 0 ≤ u63_t_sides_size := hc63.2.1
              have hq63_1 : u63_t_sides_size ≤ 6 := hc63.2.2
              replace hf := hf.trans (ap4_g hc63.1)
              refine lv_iload hx hb dX6_strike_66 (lv_at hl 5 rfl) ?_
              refine lv_if_ne (tgt := 81) hx hb dX6_strike_68 (by decide) (fun c_68 => ?_) (fun c_68 => ?_)
              · replace hf := hf.trans (if_pos c_68)
                refine lv_aload_n hx hb dX6_strike_81 rfl (lv_at hl 1 rfl) ?_
                refine va_get (D := D) (ci := 6) (v := .ref a_t_sides) (C := RX6) (T := TX6) (N := 10) hx hb hts hwX6 hown hK hP 0 rfl rfl 6 (by decide) (hts (.fieldLink RX6 50 "SkippedDay" "sides" "LSkippedDay$Sides;") (by decide +kernel)) (fun _ h9 => h9) rfl dX6_strike_82 ?_
                refine pcV (As := []) (rest := []) ⟨hx, hb, hml, hown, hts⟩ (c_X1_firstStruck l D cI cZ cO a_t_sides a_t_sides_gaps a_t_sides_lasts u63_t_sides_size u63_t_sides_struck (s_X6_strike_11 u63_t_sides_size hq63_0 hq63_1) (s_X6_strike_12 u63_t_sides_size hq63_0 hq63_1)) (cwV 0 hts gX6_strike_X1_firstStruck rfl rfl rfl (by decide +kernel) ⟨Nat.le_of_ble_eq_true rfl, Nat.le_of_ble_eq_true rfl⟩) hKX hP [1] rfl 1 1 rfl rfl rfl rfl hl.1 rfl (Nat.le_of_ble_eq_true rfl) dX6_strike_85 ⟨Nat.le_of_ble_eq_true rfl, Nat.le_of_ble_eq_true rfl⟩ ?_
                exact W.iret (v := f_X1_firstStruck u63_t_sides_struck) hx hb hr (fun t ht hW => ⟨⟨f_X1_firstStruck u63_t_sides_struck, (u63_t_sides_size, u63_t_sides_struck, u63_t_sides_gaps, u63_t_sides_lasts), rfl, ⟨hf.symm, (s_X6_strike_13 u63_t_sides_size hq63_0 hq63_1), (s_X6_strike_14 u63_t_sides_size hq63_0 hq63_1)⟩, by rw [ht]; exact hP.sub [0, 1, 2, 3] rfl, hD.sub [0, 1, 2, 3] (by decide) rfl⟩, hS.F ht⟩) hS.2.2 dX6_strike_88
              · replace hf := hf.trans (if_neg (fun h9 => h9 c_68))
                refine lv_aload_n hx hb dX6_strike_71 rfl (lv_at hl 1 rfl) ?_
                refine va_get (D := D) (ci := 6) (v := .ref a_t_sides) (C := RX6) (T := TX6) (N := 10) hx hb hts hwX6 hown hK hP 0 rfl rfl 6 (by decide) (hts (.fieldLink RX6 50 "SkippedDay" "sides" "LSkippedDay$Sides;") (by decide +kernel)) (fun _ h9 => h9) rfl dX6_strike_72 ?_
                refine pcV (As := []) (rest := []) ⟨hx, hb, hml, hown, hts⟩ (c_X1_lastLeft l D cI cZ cO a_t_sides a_t_sides_gaps a_t_sides_lasts u63_t_sides_size u63_t_sides_struck u63_t_sides_lasts (s_X6_strike_15 u63_t_sides_size hq63_0 hq63_1) (s_X6_strike_16 u63_t_sides_size hq63_0 hq63_1)) (cwV 0 hts gX6_strike_X1_lastLeft rfl rfl rfl (by decide +kernel) ⟨Nat.le_of_ble_eq_true rfl, Nat.le_of_ble_eq_true rfl⟩) hKX hP [1, 3] rfl 1 1 rfl rfl rfl rfl hl.1 rfl (Nat.le_of_ble_eq_true rfl) dX6_strike_75 ⟨Nat.le_of_ble_eq_true rfl, Nat.le_of_ble_eq_true rfl⟩ ?_
                refine lv_goto (tgt := 88) hx hb dX6_strike_78 (by decide) ?_
                exact W.iret (v := f_X1_lastLeft u63_t_sides_size u63_t_sides_lasts) hx hb hr (fun t ht hW => ⟨⟨f_X1_lastLeft u63_t_sides_size u63_t_sides_lasts, (u63_t_sides_size, u63_t_sides_struck, u63_t_sides_gaps, u63_t_sides_lasts), rfl, ⟨hf.symm, (s_X6_strike_17 u63_t_sides_size hq63_0 hq63_1), (s_X6_strike_18 u63_t_sides_size hq63_0 hq63_1)⟩, by rw [ht]; exact hP.sub [0, 1, 2, 3] rfl, hD.sub [0, 1, 2, 3] (by decide) rfl⟩, hS.F ht⟩) hS.2.2 dX6_strike_88
            · replace hf := hf.trans (if_neg c_50)
              refine lv_bipush (v := (-2)) hx hb dX6_strike_53 (by decide) ?_
              exact W.iret (v := (-2)) hx hb hr (fun t ht hW => ⟨⟨(-2), (v_t_sides_size, v_t_sides_struck, f_t_sides_gaps, f_t_sides_lasts), rfl, ⟨hf.symm, (s_X6_strike_19 v_t_sides_size hp0 hp1), (s_X6_strike_20 v_t_sides_size hp0 hp1)⟩, by rw [ht]; exact hP.sub [0, 1, 2, 3] rfl, hD.sub [0, 1, 2, 3] (by decide) rfl⟩, hS.F ht⟩) hS.2.2 dX6_strike_55
        · replace hf := hf.trans (if_neg (fun h9 => h9 c_28))
          refine lv_bipush (v := (-2)) hx hb dX6_strike_31 (by decide) ?_
          exact W.iret (v := (-2)) hx hb hr (fun t ht hW => ⟨⟨(-2), (v_t_sides_size, v_t_sides_struck, f_t_sides_gaps, f_t_sides_lasts), rfl, ⟨hf.symm, (s_X6_strike_21 v_t_sides_size hp0 hp1), (s_X6_strike_22 v_t_sides_size hp0 hp1)⟩, by rw [ht]; exact hP.sub [0, 1, 2, 3] rfl, hD.sub [0, 1, 2, 3] (by decide) rfl⟩, hS.F ht⟩) hS.2.2 dX6_strike_33

def f_X6_yearsBy_j30 (x5_4 : Int32) (k5 : Int32 → Int32 → Int32) (x30_3 : Int32) : Int32 :=
  k5 x30_3 (x5_4 + 1)
def f_X6_yearsBy_b5 (x0 : Int32) (x1 : Int32) (x2 : Int32) (k5 : Int32 → Int32 → Int32) (x5_3 : Int32) (x5_4 : Int32) : Int32 :=
  if x0 ≤ x5_4 then x5_3 else if x1 ≤ 0 then f_X6_yearsBy_j30 x5_4 k5 x5_3 else if ¬ (x5_4 - x5_4 / x1 * x1) = x2 then f_X6_yearsBy_j30 x5_4 k5 x5_3 else f_X6_yearsBy_j30 x5_4 k5 (x5_3 ||| (1 <<< (x5_4 &&& 31)))
def f_X6_yearsBy (x0 : Int32) (x1 : Int32) (x2 : Int32) : Int32 :=
  it2 (f_X6_yearsBy_b5 x0 x1 x2) default ((x0.toInt - (0 : Int32).toInt).toNat + 1) 0 0
/- inv0@33>5 -/ theorem s_X6_yearsBy_1 (x0 : Int32) (x5_4 : Int32) (hi5_0 : 0 ≤ x5_4) (c_8 : ¬ x0 ≤ x5_4) : 0 ≤ (x5_4 + 1) := by grind
/- nz@18 -/ theorem s_X6_yearsBy_2 (x1 : Int32) (c_12 : ¬ x1 ≤ 0) : ¬ x1 = 0 := by grind
/- inv0@3>5 -/ theorem s_X6_yearsBy_3  : 0 ≤ (0 : Int32) := by grind
set_option maxHeartbeats 4000000 in
set_option maxRecDepth 100000 in
theorem c_X6_yearsBy (l : Launch) (D : va_G) (cI cZ cO : ClassId) (x0 : Int32) (x1 : Int32) (x2 : Int32) : Met l yX6_yearsBy wsX6_yearsBy ({ frames := 0, cells := 0, slots := 0, locals := 0 }) (PcP D (tysG cI cZ cO) [.int x0, .int x1, .int x2] []) (QP (.int (f_X6_yearsBy x0 x1 x2))) 0 0 (fun _ => False) := by
  refine Met.ofW (cc := cX6_yearsBy) (maxL := 5) (ret := (some .int)) (by decide) rfl ?_
  intro p e s m args below meth c s₁ B hml hv
  obtain ⟨rfl, hP, hKX⟩ := hv
  have hx := B.exec
  have hb := B.bytes
  have hr := B.returns
  have hts := atoms_spec (ws := wsX6_yearsBy) B.pre
  have hown : s.vm.findClass RX6 = some m.cls := findClass_of_methodNamed B.named
  have hlocks := B.notSynchronized
  have hK := hKX.1
  have hl := lv_entry ([.int x0, .int x1, .int x2]) (n := 5) (Nat.le_of_ble_eq_true rfl)
  rw [lg_entry_eq]
  generalize (lg_sl ([.int x0, .int x1, .int x2]) ++ List.replicate (5 - (lg_sl ([.int x0, .int x1, .int x2])).length) Slot.unset).toArray = ls at hl ⊢
  have hl : lv_has ls 5 [(0, .int x0), (1, .int x1), (2, .int x2)] := hl
  have hf := f_X6_yearsBy.eq_1 x0 x1 x2
  refine lv_iconst (v := 0) hx hb dX6_yearsBy_0 (by decide) ?_
  refine lv_istore_n (lv' := [(3, .int 0), (0, .int x0), (1, .int x1), (2, .int x2)]) hx hb dX6_yearsBy_1 rfl hl (by decide) rfl (fun ls hl => ?_)
  refine lv_iconst (v := 0) hx hb dX6_yearsBy_2 (by decide) ?_
  refine lv_istore (lv' := [(4, .int 0), (3, .int 0), (0, .int x0), (1, .int x1), (2, .int x2)]) hx hb dX6_yearsBy_3 hl (by decide) rfl (fun ls hl => ?_)
  have hJ_5 : ∀ (n5 : Nat) (x5_3 : Int32) (x5_4 : Int32), f_X6_yearsBy x0 x1 x2 = it2 (f_X6_yearsBy_b5 x0 x1 x2) default n5 x5_3 x5_4 → (x0.toInt - x5_4.toInt).toNat < n5 → (0 ≤ x5_4) → ∀ (ls : Array Slot), lv_has ls 5 [(0, .int x0), (1, .int x1), (2, .int x2), (3, .int x5_3), (4, .int x5_4)] → W p l e (headSpec wsX6_yearsBy { frames := 0, cells := 0, slots := 0, locals := 0 }).room s m [.int x0, .int x1, .int x2].toArray below meth c s.heap [] 0 0 (MQ below (QP (.int (f_X6_yearsBy x0 x1 x2))) [.int x0, .int x1, .int x2].toArray s 0 0 (fun _ => False)) (F0 m 5 ls []) := by
    intro n5
    induction n5 with
    | zero => intro x5_3 x5_4 hf hm5; exact absurd hm5 (Nat.not_lt_zero _)
    | succ n5 ih5 =>
      intro x5_3 x5_4 hf hm5 hi5_0 ls hl
      replace hf := (hf.trans (it2_s _ _ _ _ _)).trans (f_X6_yearsBy_b5.eq_1 _ _ _ _ _ _)
      refine lv_iload hx hb dX6_yearsBy_5 (lv_at hl 4 rfl) ?_
      refine lv_iload_n hx hb dX6_yearsBy_7 rfl (lv_at hl 0 rfl) ?_
      refine lv_icmp_ge (tgt := 36) hx hb dX6_yearsBy_8 (by decide) (fun c_8 => ?_) (fun c_8 => ?_)
      · replace hf := hf.trans (if_pos c_8)
        refine lv_iload_n hx hb dX6_yearsBy_36 rfl (lv_at hl 3 rfl) ?_
        exact W.iret (v := x5_3) hx hb hr (fun t ht hW => ⟨congrArg (fun z => Outcome.returned (some (Value.int z))) hf.symm, ht⟩) (fun _ h => absurd h List.not_mem_nil) dX6_yearsBy_37
      · replace hf := hf.trans (if_neg c_8)
        refine lv_iload_n hx hb dX6_yearsBy_11 rfl (lv_at hl 1 rfl) ?_
        have hJ_30 : ∀ (x30_3 : Int32), f_X6_yearsBy x0 x1 x2 = f_X6_yearsBy_j30 x5_4 ((it2 (f_X6_yearsBy_b5 x0 x1 x2) default n5)) x30_3 → ∀ (ls : Array Slot), lv_has ls 5 [(0, .int x0), (1, .int x1), (2, .int x2), (3, .int x30_3), (4, .int x5_4)] → W p l e (headSpec wsX6_yearsBy { frames := 0, cells := 0, slots := 0, locals := 0 }).room s m [.int x0, .int x1, .int x2].toArray below meth c s.heap [] 0 0 (MQ below (QP (.int (f_X6_yearsBy x0 x1 x2))) [.int x0, .int x1, .int x2].toArray s 0 0 (fun _ => False)) (F0 m 30 ls []) := by
          intro x30_3 hf ls hl
          replace hf := hf.trans (f_X6_yearsBy_j30.eq_1 _ _ _)
          refine lv_iinc (v := x5_4 + 1) (lv' := [(4, .int (x5_4 + 1)), (0, .int x0), (1, .int x1), (2, .int x2), (3, .int x30_3)]) hx hb dX6_yearsBy_30 hl (k := 4) rfl rfl (by decide) rfl (fun ls hl => ?_)
          refine lv_goto (tgt := 5) hx hb dX6_yearsBy_33 (by decide) ?_
          exact ih5 x30_3 (x5_4 + 1) hf (mu_up c_8 hm5) (s_X6_yearsBy_1 x0 x5_4 hi5_0 c_8) _ (lv_sub hl [1, 2, 3, 4, 0] rfl)
        refine lv_if_le (tgt := 30) hx hb dX6_yearsBy_12 (by decide) (fun c_12 => ?_) (fun c_12 => ?_)
        · replace hf := hf.trans (if_pos c_12)
          exact hJ_30 x5_3 hf _ (lv_sub hl [0, 1, 2, 3, 4] rfl)
        · replace hf := hf.trans (if_neg c_12)
          refine lv_iload hx hb dX6_yearsBy_15 (lv_at hl 4 rfl) ?_
          refine lv_iload_n hx hb dX6_yearsBy_17 rfl (lv_at hl 1 rfl) ?_
          refine lv_irem hx hb dX6_yearsBy_18 (s_X6_yearsBy_2 x1 c_12) ?_
          refine lv_iload_n hx hb dX6_yearsBy_19 rfl (lv_at hl 2 rfl) ?_
          refine lv_icmp_ne (tgt := 30) hx hb dX6_yearsBy_20 (by decide) (fun c_20 => ?_) (fun c_20 => ?_)
          · replace hf := hf.trans (if_pos c_20)
            exact hJ_30 x5_3 hf _ (lv_sub hl [0, 1, 2, 3, 4] rfl)
          · replace hf := hf.trans (if_neg (fun h9 => h9 c_20))
            refine lv_iload_n hx hb dX6_yearsBy_23 rfl (lv_at hl 3 rfl) ?_
            refine lv_iconst (v := 1) hx hb dX6_yearsBy_24 (by decide) ?_
            refine lv_iload hx hb dX6_yearsBy_25 (lv_at hl 4 rfl) ?_
            refine lv_ishl hx hb dX6_yearsBy_27 ?_
            refine lv_ior hx hb dX6_yearsBy_28 ?_
            refine lv_istore_n (lv' := [(3, .int (x5_3 ||| (1 <<< (x5_4 &&& 31)))), (0, .int x0), (1, .int x1), (2, .int x2), (4, .int x5_4)]) hx hb dX6_yearsBy_29 rfl hl (by decide) rfl (fun ls hl => ?_)
            exact hJ_30 (x5_3 ||| (1 <<< (x5_4 &&& 31))) hf _ (lv_sub hl [1, 2, 3, 0, 4] rfl)
  exact hJ_5 _ 0 0 hf (Nat.lt_succ_self _) s_X6_yearsBy_3 _ (lv_sub hl [2, 3, 4, 1, 0] rfl)

def f_X6_rule_b48 (x1 : Int32) (x2 : Int32) (x3 : Int32) (x38_4 : Int32) (k38 : Int32 → Int32) (k48 : Int32 → Int32) (x48_5 : Int32) : Int32 :=
  if x38_4 ≤ x48_5 then k38 (x38_4 + 1) else if ¬ (f_X6_yearsBy x1 x38_4 x48_5) = x2 then k48 (x48_5 + 1) else if ¬ x3 = 0 then x48_5 else x38_4
def f_X6_rule_b38 (x1 : Int32) (x2 : Int32) (x3 : Int32) (k38 : Int32 → Int32) (x38_4 : Int32) : Int32 :=
  if 10 < x38_4 then (-9) else it1 (f_X6_rule_b48 x1 x2 x3 x38_4 k38) default ((x38_4.toInt - (0 : Int32).toInt).toNat + 1) 0
def f_X6_rule (x1 : Int32) (x2 : Int32) (x3 : Int32) : Int32 :=
  if x1 < 1 then (-2) else if 10 < x1 then (-2) else if (f_X6_areBits x2 x1) = 0 then (-2) else if ¬ (f_X6_isZeroOrOne x3) = 0 then if ¬ x2 = 0 then it1 (f_X6_rule_b38 x1 x2 x3) default (((10 : Int32).toInt + 1 - (1 : Int32).toInt).toNat + 1) 1 else 0 else (-2)
/- mub@38 -/ theorem s_X6_rule_1  : (10 : Int32) < 2147483647 := by grind
/- inv0@88>38 -/ theorem s_X6_rule_2 (x38_4 : Int32) (x48_5 : Int32) (hi38_0 : 1 ≤ x38_4) (c_42 : ¬ 10 < x38_4) (hi48_0 : 0 ≤ x48_5) (c_52 : x38_4 ≤ x48_5) : 1 ≤ (x38_4 + 1) := by grind
/- inv0@82>48 -/ theorem s_X6_rule_3 (x1 : Int32) (x2 : Int32) (x38_4 : Int32) (x48_5 : Int32) (c_2 : ¬ x1 < 1) (c_8 : ¬ 10 < x1) (c_16 : ¬ (f_X6_areBits x2 x1) = 0) (c_30 : ¬ x2 = 0) (hi38_0 : 1 ≤ x38_4) (c_42 : ¬ 10 < x38_4) (hi48_0 : 0 ≤ x48_5) (c_52 : ¬ x38_4 ≤ x48_5) (c_64 : ¬ (f_X6_yearsBy x1 x38_4 x48_5) = x2) : 0 ≤ (x48_5 + 1) := by grind [f_X6_areBits]
/- inv0@46>48 -/ theorem s_X6_rule_4  : 0 ≤ (0 : Int32) := by grind
/- inv0@36>38 -/ theorem s_X6_rule_5  : 1 ≤ (1 : Int32) := by grind
set_option maxHeartbeats 4000000 in
set_option maxRecDepth 100000 in
theorem c_X6_rule (l : Launch) (D : va_G) (cI cZ cO : ClassId) (a_t : Nat) (x1 : Int32) (x2 : Int32) (x3 : Int32) : Met l yX6_rule wsX6_rule ({ frames := 1, cells := 0, slots := 0, locals := 24 }) (PcP D (tysG cI cZ cO) [.ref a_t, .int x1, .int x2, .int x3] []) (QP (.int (f_X6_rule x1 x2 x3))) 0 0 (fun _ => False) := by
  refine Met.ofW (cc := cX6_rule) (maxL := 6) (ret := (some .int)) (by decide) rfl ?_
  intro p e s m args below meth c s₁ B hml hv
  obtain ⟨rfl, hP, hKX⟩ := hv
  have hx := B.exec
  have hb := B.bytes
  have hr := B.returns
  have hts := atoms_spec (ws := wsX6_rule) B.pre
  have hown : s.vm.findClass RX6 = some m.cls := findClass_of_methodNamed B.named
  have hlocks := B.notSynchronized
  have hK := hKX.1
  have hl := lv_entry ([.ref a_t, .int x1, .int x2, .int x3]) (n := 6) (Nat.le_of_ble_eq_true rfl)
  rw [lg_entry_eq]
  generalize (lg_sl ([.ref a_t, .int x1, .int x2, .int x3]) ++ List.replicate (6 - (lg_sl ([.ref a_t, .int x1, .int x2, .int x3])).length) Slot.unset).toArray = ls at hl ⊢
  have hl : lv_has ls 6 [(0, .ref a_t), (1, .int x1), (2, .int x2), (3, .int x3)] := hl
  have hf := f_X6_rule.eq_1 x1 x2 x3
  refine lv_iload_n hx hb dX6_rule_0 rfl (lv_at hl 1 rfl) ?_
  refine lv_iconst (v := 1) hx hb dX6_rule_1 (by decide) ?_
  refine lv_icmp_lt (tgt := 26) hx hb dX6_rule_2 (by decide) (fun c_2 => ?_) (fun c_2 => ?_)
  · replace hf := hf.trans (if_pos c_2)
    refine lv_bipush (v := (-2)) hx hb dX6_rule_26 (by decide) ?_
    exact W.iret (v := (-2)) hx hb hr (fun t ht hW => ⟨congrArg (fun z => Outcome.returned (some (Value.int z))) hf.symm, ht⟩) (fun _ h => absurd h List.not_mem_nil) dX6_rule_28
  · replace hf := hf.trans (if_neg c_2)
    refine lv_iload_n hx hb dX6_rule_5 rfl (lv_at hl 1 rfl) ?_
    refine lv_bipush (v := 10) hx hb dX6_rule_6 (by decide) ?_
    refine lv_icmp_gt (tgt := 26) hx hb dX6_rule_8 (by decide) (fun c_8 => ?_) (fun c_8 => ?_)
    · replace hf := hf.trans (if_pos c_8)
      refine lv_bipush (v := (-2)) hx hb dX6_rule_26 (by decide) ?_
      exact W.iret (v := (-2)) hx hb hr (fun t ht hW => ⟨congrArg (fun z => Outcome.returned (some (Value.int z))) hf.symm, ht⟩) (fun _ h => absurd h List.not_mem_nil) dX6_rule_28
    · replace hf := hf.trans (if_neg c_8)
      refine lv_iload_n hx hb dX6_rule_11 rfl (lv_at hl 2 rfl) ?_
      refine lv_iload_n hx hb dX6_rule_12 rfl (lv_at hl 1 rfl) ?_
      refine pcS (As := [.int x2, .int x1]) (rest := []) ⟨hx, hb, hml, hown, hts⟩ (c_X6_areBits l D cI cZ cO x2 x1) (va_cwS 2 hts gX6_rule_X6_areBits rfl rfl rfl (by decide +kernel) ⟨Nat.le_of_ble_eq_true rfl, Nat.le_of_ble_eq_true rfl⟩) hKX hP [] rfl rfl hl.1 rfl (Nat.le_of_ble_eq_true rfl) dX6_rule_13 ⟨Nat.le_of_ble_eq_true rfl, Nat.le_of_ble_eq_true rfl⟩ ?_
      refine lv_if_eq (tgt := 26) hx hb dX6_rule_16 (by decide) (fun c_16 => ?_) (fun c_16 => ?_)
      · replace hf := hf.trans (if_pos c_16)
        refine lv_bipush (v := (-2)) hx hb dX6_rule_26 (by decide) ?_
        exact W.iret (v := (-2)) hx hb hr (fun t ht hW => ⟨congrArg (fun z => Outcome.returned (some (Value.int z))) hf.symm, ht⟩) (fun _ h => absurd h List.not_mem_nil) dX6_rule_28
      · replace hf := hf.trans (if_neg c_16)
        refine lv_iload_n hx hb dX6_rule_19 rfl (lv_at hl 3 rfl) ?_
        refine pcS (As := [.int x3]) (rest := []) ⟨hx, hb, hml, hown, hts⟩ (c_X6_isZeroOrOne l D cI cZ cO x3) (va_cwS 1 hts gX6_rule_X6_isZeroOrOne rfl rfl rfl (by decide +kernel) ⟨Nat.le_of_ble_eq_true rfl, Nat.le_of_ble_eq_true rfl⟩) hKX hP [] rfl rfl hl.1 rfl (Nat.le_of_ble_eq_true rfl) dX6_rule_20 ⟨Nat.le_of_ble_eq_true rfl, Nat.le_of_ble_eq_true rfl⟩ ?_
        refine lv_if_ne (tgt := 29) hx hb dX6_rule_23 (by decide) (fun c_23 => ?_) (fun c_23 => ?_)
        · replace hf := hf.trans (if_pos c_23)
          refine lv_iload_n hx hb dX6_rule_29 rfl (lv_at hl 2 rfl) ?_
          refine lv_if_ne (tgt := 35) hx hb dX6_rule_30 (by decide) (fun c_30 => ?_) (fun c_30 => ?_)
          · replace hf := hf.trans (if_pos c_30)
            refine lv_iconst (v := 1) hx hb dX6_rule_35 (by decide) ?_
            refine lv_istore (lv' := [(4, .int 1), (0, .ref a_t), (1, .int x1), (2, .int x2), (3, .int x3)]) hx hb dX6_rule_36 hl (by decide) rfl (fun ls hl => ?_)
            have hJ_38 : ∀ (n38 : Nat) (x38_4 : Int32), f_X6_rule x1 x2 x3 = it1 (f_X6_rule_b38 x1 x2 x3) default n38 x38_4 → ((10 : Int32).toInt + 1 - x38_4.toInt).toNat < n38 → (1 ≤ x38_4) → ∀ (ls : Array Slot), lv_has ls 6 [(1, .int x1), (2, .int x2), (3, .int x3), (4, .int x38_4)] → W p l e (headSpec wsX6_rule { frames := 1, cells := 0, slots := 0, locals := 24 }).room s m [.ref a_t, .int x1, .int x2, .int x3].toArray below meth c s.heap [] 0 0 (MQ below (QP (.int (f_X6_rule x1 x2 x3))) [.ref a_t, .int x1, .int x2, .int x3].toArray s 0 0 (fun _ => False)) (F0 m 38 ls []) := by
              intro n38
              induction n38 with
              | zero => intro x38_4 hf hm38; exact absurd hm38 (Nat.not_lt_zero _)
              | succ n38 ih38 =>
                intro x38_4 hf hm38 hi38_0 ls hl
                replace hf := (hf.trans (it1_s _ _ _ _)).trans (f_X6_rule_b38.eq_1 _ _ _ _ _)
                refine lv_iload hx hb dX6_rule_38 (lv_at hl 3 rfl) ?_
                refine lv_bipush (v := 10) hx hb dX6_rule_40 (by decide) ?_
                refine lv_icmp_gt (tgt := 91) hx hb dX6_rule_42 (by decide) (fun c_42 => ?_) (fun c_42 => ?_)
                · replace hf := hf.trans (if_pos c_42)
                  refine lv_bipush (v := (-9)) hx hb dX6_rule_91 (by decide) ?_
                  exact W.iret (v := (-9)) hx hb hr (fun t ht hW => ⟨congrArg (fun z => Outcome.returned (some (Value.int z))) hf.symm, ht⟩) (fun _ h => absurd h List.not_mem_nil) dX6_rule_93
                · replace hf := hf.trans (if_neg c_42)
                  refine lv_iconst (v := 0) hx hb dX6_rule_45 (by decide) ?_
                  refine lv_istore (lv' := [(5, .int 0), (1, .int x1), (2, .int x2), (3, .int x3), (4, .int x38_4)]) hx hb dX6_rule_46 hl (by decide) rfl (fun ls hl => ?_)
                  have hJ_48 : ∀ (n48 : Nat) (x48_5 : Int32), f_X6_rule x1 x2 x3 = it1 (f_X6_rule_b48 x1 x2 x3 x38_4 ((it1 (f_X6_rule_b38 x1 x2 x3) default n38))) default n48 x48_5 → (x38_4.toInt - x48_5.toInt).toNat < n48 → (0 ≤ x48_5) → ∀ (ls : Array Slot), lv_has ls 6 [(1, .int x1), (2, .int x2), (3, .int x3), (4, .int x38_4), (5, .int x48_5)] → W p l e (headSpec wsX6_rule { frames := 1, cells := 0, slots := 0, locals := 24 }).room s m [.ref a_t, .int x1, .int x2, .int x3].toArray below meth c s.heap [] 0 0 (MQ below (QP (.int (f_X6_rule x1 x2 x3))) [.ref a_t, .int x1, .int x2, .int x3].toArray s 0 0 (fun _ => False)) (F0 m 48 ls []) := by
                    intro n48
                    induction n48 with
                    | zero => intro x48_5 hf hm48; exact absurd hm48 (Nat.not_lt_zero _)
                    | succ n48 ih48 =>
                      intro x48_5 hf hm48 hi48_0 ls hl
                      replace hf := (hf.trans (it1_s _ _ _ _)).trans (f_X6_rule_b48.eq_1 _ _ _ _ _ _ _)
                      refine lv_iload hx hb dX6_rule_48 (lv_at hl 4 rfl) ?_
                      refine lv_iload hx hb dX6_rule_50 (lv_at hl 3 rfl) ?_
                      refine lv_icmp_ge (tgt := 85) hx hb dX6_rule_52 (by decide) (fun c_52 => ?_) (fun c_52 => ?_)
                      · replace hf := hf.trans (if_pos c_52)
                        refine lv_iinc (v := x38_4 + 1) (lv' := [(4, .int (x38_4 + 1)), (1, .int x1), (2, .int x2), (3, .int x3), (5, .int x48_5)]) hx hb dX6_rule_85 hl (k := 3) rfl rfl (by decide) rfl (fun ls hl => ?_)
                        refine lv_goto (tgt := 38) hx hb dX6_rule_88 (by decide) ?_
                        exact ih38 (x38_4 + 1) hf (mu_gt s_X6_rule_1 c_42 hm38) (s_X6_rule_2 x38_4 x48_5 hi38_0 c_42 hi48_0 c_52) _ (lv_sub hl [1, 2, 3, 0] rfl)
                      · replace hf := hf.trans (if_neg c_52)
                        refine lv_iload_n hx hb dX6_rule_55 rfl (lv_at hl 0 rfl) ?_
                        refine lv_iload hx hb dX6_rule_56 (lv_at hl 3 rfl) ?_
                        refine lv_iload hx hb dX6_rule_58 (lv_at hl 4 rfl) ?_
                        refine pcS (As := [.int x1, .int x38_4, .int x48_5]) (rest := []) ⟨hx, hb, hml, hown, hts⟩ (c_X6_yearsBy l D cI cZ cO x1 x38_4 x48_5) (va_cwS 3 hts gX6_rule_X6_yearsBy rfl rfl rfl (by decide +kernel) ⟨Nat.le_of_ble_eq_true rfl, Nat.le_of_ble_eq_true rfl⟩) hKX hP [] rfl rfl hl.1 rfl (Nat.le_of_ble_eq_true rfl) dX6_rule_60 ⟨Nat.le_of_ble_eq_true rfl, Nat.le_of_ble_eq_true rfl⟩ ?_
                        refine lv_iload_n hx hb dX6_rule_63 rfl (lv_at hl 1 rfl) ?_
                        refine lv_icmp_ne (tgt := 79) hx hb dX6_rule_64 (by decide) (fun c_64 => ?_) (fun c_64 => ?_)
                        · replace hf := hf.trans (if_pos c_64)
                          refine lv_iinc (v := x48_5 + 1) (lv' := [(5, .int (x48_5 + 1)), (1, .int x1), (2, .int x2), (3, .int x3), (4, .int x38_4)]) hx hb dX6_rule_79 hl (k := 4) rfl rfl (by decide) rfl (fun ls hl => ?_)
                          refine lv_goto (tgt := 48) hx hb dX6_rule_82 (by decide) ?_
                          exact ih48 (x48_5 + 1) hf (mu_up c_52 hm48) (s_X6_rule_3 x1 x2 x38_4 x48_5 c_2 c_8 c_16 c_30 hi38_0 c_42 hi48_0 c_52 c_64) _ (lv_sub hl [1, 2, 3, 4, 0] rfl)
                        · replace hf := hf.trans (if_neg (fun h9 => h9 c_64))
                          refine lv_iload_n hx hb dX6_rule_67 rfl (lv_at hl 2 rfl) ?_
                          refine lv_if_ne (tgt := 76) hx hb dX6_rule_68 (by decide) (fun c_68 => ?_) (fun c_68 => ?_)
                          · replace hf := hf.trans (if_pos c_68)
                            refine lv_iload hx hb dX6_rule_76 (lv_at hl 4 rfl) ?_
                            exact W.iret (v := x48_5) hx hb hr (fun t ht hW => ⟨congrArg (fun z => Outcome.returned (some (Value.int z))) hf.symm, ht⟩) (fun _ h => absurd h List.not_mem_nil) dX6_rule_78
                          · replace hf := hf.trans (if_neg (fun h9 => h9 c_68))
                            refine lv_iload hx hb dX6_rule_71 (lv_at hl 3 rfl) ?_
                            refine lv_goto (tgt := 78) hx hb dX6_rule_73 (by decide) ?_
                            exact W.iret (v := x38_4) hx hb hr (fun t ht hW => ⟨congrArg (fun z => Outcome.returned (some (Value.int z))) hf.symm, ht⟩) (fun _ h => absurd h List.not_mem_nil) dX6_rule_78
                  exact hJ_48 _ 0 hf (Nat.lt_succ_self _) s_X6_rule_4 _ (lv_sub hl [1, 2, 3, 4, 0] rfl)
            exact hJ_38 _ 1 hf (Nat.lt_succ_self _) s_X6_rule_5 _ (lv_sub hl [2, 3, 4, 0] rfl)
          · replace hf := hf.trans (if_neg (fun h9 => h9 c_30))
            refine lv_iconst (v := 0) hx hb dX6_rule_33 (by decide) ?_
            exact W.iret (v := 0) hx hb hr (fun t ht hW => ⟨congrArg (fun z => Outcome.returned (some (Value.int z))) hf.symm, ht⟩) (fun _ h => absurd h List.not_mem_nil) dX6_rule_34
        · replace hf := hf.trans (if_neg (fun h9 => h9 c_23))
          refine lv_bipush (v := (-2)) hx hb dX6_rule_26 (by decide) ?_
          exact W.iret (v := (-2)) hx hb hr (fun t ht hW => ⟨congrArg (fun z => Outcome.returned (some (Value.int z))) hf.symm, ht⟩) (fun _ h => absurd h List.not_mem_nil) dX6_rule_28

def f_X6_choices_b4 (x0 : Int32) (x1 : Int32) (k4 : Int32 → Int32 → Int32) (x4_2 : Int32) (x4_3 : Int32) : Int32 :=
  if x1 ≤ x4_3 then x4_2 else k4 ((x4_2 * (x0 - x4_3)) / (x4_3 + 1)) (x4_3 + 1)
def f_X6_choices (x0 : Int32) (x1 : Int32) : Int32 :=
  it2 (f_X6_choices_b4 x0 x1) default ((x1.toInt - (0 : Int32).toInt).toNat + 1) 1 0
/- nz@17 -/ theorem s_X6_choices_1 (x1 : Int32) (x4_3 : Int32) (hi4_0 : 0 ≤ x4_3) (c_6 : ¬ x1 ≤ x4_3) : ¬ (x4_3 + 1) = 0 := by grind
/- inv0@22>4 -/ theorem s_X6_choices_2 (x1 : Int32) (x4_3 : Int32) (hi4_0 : 0 ≤ x4_3) (c_6 : ¬ x1 ≤ x4_3) : 0 ≤ (x4_3 + 1) := by grind
/- inv0@3>4 -/ theorem s_X6_choices_3  : 0 ≤ (0 : Int32) := by grind
set_option maxHeartbeats 4000000 in
set_option maxRecDepth 100000 in
theorem c_X6_choices (l : Launch) (D : va_G) (cI cZ cO : ClassId) (x0 : Int32) (x1 : Int32) : Met l yX6_choices wsX6_choices ({ frames := 0, cells := 0, slots := 0, locals := 0 }) (PcP D (tysG cI cZ cO) [.int x0, .int x1] []) (QP (.int (f_X6_choices x0 x1))) 0 0 (fun _ => False) := by
  refine Met.ofW (cc := cX6_choices) (maxL := 4) (ret := (some .int)) (by decide) rfl ?_
  intro p e s m args below meth c s₁ B hml hv
  obtain ⟨rfl, hP, hKX⟩ := hv
  have hx := B.exec
  have hb := B.bytes
  have hr := B.returns
  have hts := atoms_spec (ws := wsX6_choices) B.pre
  have hown : s.vm.findClass RX6 = some m.cls := findClass_of_methodNamed B.named
  have hlocks := B.notSynchronized
  have hK := hKX.1
  have hl := lv_entry ([.int x0, .int x1]) (n := 4) (Nat.le_of_ble_eq_true rfl)
  rw [lg_entry_eq]
  generalize (lg_sl ([.int x0, .int x1]) ++ List.replicate (4 - (lg_sl ([.int x0, .int x1])).length) Slot.unset).toArray = ls at hl ⊢
  have hl : lv_has ls 4 [(0, .int x0), (1, .int x1)] := hl
  have hf := f_X6_choices.eq_1 x0 x1
  refine lv_iconst (v := 1) hx hb dX6_choices_0 (by decide) ?_
  refine lv_istore_n (lv' := [(2, .int 1), (0, .int x0), (1, .int x1)]) hx hb dX6_choices_1 rfl hl (by decide) rfl (fun ls hl => ?_)
  refine lv_iconst (v := 0) hx hb dX6_choices_2 (by decide) ?_
  refine lv_istore_n (lv' := [(3, .int 0), (2, .int 1), (0, .int x0), (1, .int x1)]) hx hb dX6_choices_3 rfl hl (by decide) rfl (fun ls hl => ?_)
  have hJ_4 : ∀ (n4 : Nat) (x4_2 : Int32) (x4_3 : Int32), f_X6_choices x0 x1 = it2 (f_X6_choices_b4 x0 x1) default n4 x4_2 x4_3 → (x1.toInt - x4_3.toInt).toNat < n4 → (0 ≤ x4_3) → ∀ (ls : Array Slot), lv_has ls 4 [(0, .int x0), (1, .int x1), (2, .int x4_2), (3, .int x4_3)] → W p l e (headSpec wsX6_choices { frames := 0, cells := 0, slots := 0, locals := 0 }).room s m [.int x0, .int x1].toArray below meth c s.heap [] 0 0 (MQ below (QP (.int (f_X6_choices x0 x1))) [.int x0, .int x1].toArray s 0 0 (fun _ => False)) (F0 m 4 ls []) := by
    intro n4
    induction n4 with
    | zero => intro x4_2 x4_3 hf hm4; exact absurd hm4 (Nat.not_lt_zero _)
    | succ n4 ih4 =>
      intro x4_2 x4_3 hf hm4 hi4_0 ls hl
      replace hf := (hf.trans (it2_s _ _ _ _ _)).trans (f_X6_choices_b4.eq_1 _ _ _ _ _)
      refine lv_iload_n hx hb dX6_choices_4 rfl (lv_at hl 3 rfl) ?_
      refine lv_iload_n hx hb dX6_choices_5 rfl (lv_at hl 1 rfl) ?_
      refine lv_icmp_ge (tgt := 25) hx hb dX6_choices_6 (by decide) (fun c_6 => ?_) (fun c_6 => ?_)
      · replace hf := hf.trans (if_pos c_6)
        refine lv_iload_n hx hb dX6_choices_25 rfl (lv_at hl 2 rfl) ?_
        exact W.iret (v := x4_2) hx hb hr (fun t ht hW => ⟨congrArg (fun z => Outcome.returned (some (Value.int z))) hf.symm, ht⟩) (fun _ h => absurd h List.not_mem_nil) dX6_choices_26
      · replace hf := hf.trans (if_neg c_6)
        refine lv_iload_n hx hb dX6_choices_9 rfl (lv_at hl 2 rfl) ?_
        refine lv_iload_n hx hb dX6_choices_10 rfl (lv_at hl 0 rfl) ?_
        refine lv_iload_n hx hb dX6_choices_11 rfl (lv_at hl 3 rfl) ?_
        refine lv_isub hx hb dX6_choices_12 ?_
        refine lv_imul hx hb dX6_choices_13 ?_
        refine lv_iload_n hx hb dX6_choices_14 rfl (lv_at hl 3 rfl) ?_
        refine lv_iconst (v := 1) hx hb dX6_choices_15 (by decide) ?_
        refine lv_iadd hx hb dX6_choices_16 ?_
        refine lv_idiv hx hb dX6_choices_17 (s_X6_choices_1 x1 x4_3 hi4_0 c_6) ?_
        refine lv_istore_n (lv' := [(2, .int ((x4_2 * (x0 - x4_3)) / (x4_3 + 1))), (0, .int x0), (1, .int x1), (3, .int x4_3)]) hx hb dX6_choices_18 rfl hl (by decide) rfl (fun ls hl => ?_)
        refine lv_iinc (v := x4_3 + 1) (lv' := [(3, .int (x4_3 + 1)), (2, .int ((x4_2 * (x0 - x4_3)) / (x4_3 + 1))), (0, .int x0), (1, .int x1)]) hx hb dX6_choices_19 hl (k := 3) rfl rfl (by decide) rfl (fun ls hl => ?_)
        refine lv_goto (tgt := 4) hx hb dX6_choices_22 (by decide) ?_
        exact ih4 ((x4_2 * (x0 - x4_3)) / (x4_3 + 1)) (x4_3 + 1) hf (mu_up c_6 hm4) (s_X6_choices_2 x1 x4_3 hi4_0 c_6) _ (lv_sub hl [2, 3, 1, 0] rfl)
  exact hJ_4 _ 1 0 hf (Nat.lt_succ_self _) s_X6_choices_3 _ (lv_sub hl [2, 3, 1, 0] rfl)

def f_X6_power_b4 (x0 : Int32) (x1 : Int32) (k4 : Int32 → Int32 → Int32) (x4_2 : Int32) (x4_3 : Int32) : Int32 :=
  if x1 ≤ x4_3 then x4_2 else k4 (x4_2 * x0) (x4_3 + 1)
def f_X6_power (x0 : Int32) (x1 : Int32) : Int32 :=
  it2 (f_X6_power_b4 x0 x1) default ((x1.toInt - (0 : Int32).toInt).toNat + 1) 1 0
/- inv0@16>4 -/ theorem s_X6_power_1 (x1 : Int32) (x4_3 : Int32) (hi4_0 : 0 ≤ x4_3) (c_6 : ¬ x1 ≤ x4_3) : 0 ≤ (x4_3 + 1) := by grind
/- inv0@3>4 -/ theorem s_X6_power_2  : 0 ≤ (0 : Int32) := by grind
set_option maxHeartbeats 4000000 in
set_option maxRecDepth 100000 in
theorem c_X6_power (l : Launch) (D : va_G) (cI cZ cO : ClassId) (x0 : Int32) (x1 : Int32) : Met l yX6_power wsX6_power ({ frames := 0, cells := 0, slots := 0, locals := 0 }) (PcP D (tysG cI cZ cO) [.int x0, .int x1] []) (QP (.int (f_X6_power x0 x1))) 0 0 (fun _ => False) := by
  refine Met.ofW (cc := cX6_power) (maxL := 4) (ret := (some .int)) (by decide) rfl ?_
  intro p e s m args below meth c s₁ B hml hv
  obtain ⟨rfl, hP, hKX⟩ := hv
  have hx := B.exec
  have hb := B.bytes
  have hr := B.returns
  have hts := atoms_spec (ws := wsX6_power) B.pre
  have hown : s.vm.findClass RX6 = some m.cls := findClass_of_methodNamed B.named
  have hlocks := B.notSynchronized
  have hK := hKX.1
  have hl := lv_entry ([.int x0, .int x1]) (n := 4) (Nat.le_of_ble_eq_true rfl)
  rw [lg_entry_eq]
  generalize (lg_sl ([.int x0, .int x1]) ++ List.replicate (4 - (lg_sl ([.int x0, .int x1])).length) Slot.unset).toArray = ls at hl ⊢
  have hl : lv_has ls 4 [(0, .int x0), (1, .int x1)] := hl
  have hf := f_X6_power.eq_1 x0 x1
  refine lv_iconst (v := 1) hx hb dX6_power_0 (by decide) ?_
  refine lv_istore_n (lv' := [(2, .int 1), (0, .int x0), (1, .int x1)]) hx hb dX6_power_1 rfl hl (by decide) rfl (fun ls hl => ?_)
  refine lv_iconst (v := 0) hx hb dX6_power_2 (by decide) ?_
  refine lv_istore_n (lv' := [(3, .int 0), (2, .int 1), (0, .int x0), (1, .int x1)]) hx hb dX6_power_3 rfl hl (by decide) rfl (fun ls hl => ?_)
  have hJ_4 : ∀ (n4 : Nat) (x4_2 : Int32) (x4_3 : Int32), f_X6_power x0 x1 = it2 (f_X6_power_b4 x0 x1) default n4 x4_2 x4_3 → (x1.toInt - x4_3.toInt).toNat < n4 → (0 ≤ x4_3) → ∀ (ls : Array Slot), lv_has ls 4 [(0, .int x0), (1, .int x1), (2, .int x4_2), (3, .int x4_3)] → W p l e (headSpec wsX6_power { frames := 0, cells := 0, slots := 0, locals := 0 }).room s m [.int x0, .int x1].toArray below meth c s.heap [] 0 0 (MQ below (QP (.int (f_X6_power x0 x1))) [.int x0, .int x1].toArray s 0 0 (fun _ => False)) (F0 m 4 ls []) := by
    intro n4
    induction n4 with
    | zero => intro x4_2 x4_3 hf hm4; exact absurd hm4 (Nat.not_lt_zero _)
    | succ n4 ih4 =>
      intro x4_2 x4_3 hf hm4 hi4_0 ls hl
      replace hf := (hf.trans (it2_s _ _ _ _ _)).trans (f_X6_power_b4.eq_1 _ _ _ _ _)
      refine lv_iload_n hx hb dX6_power_4 rfl (lv_at hl 3 rfl) ?_
      refine lv_iload_n hx hb dX6_power_5 rfl (lv_at hl 1 rfl) ?_
      refine lv_icmp_ge (tgt := 19) hx hb dX6_power_6 (by decide) (fun c_6 => ?_) (fun c_6 => ?_)
      · replace hf := hf.trans (if_pos c_6)
        refine lv_iload_n hx hb dX6_power_19 rfl (lv_at hl 2 rfl) ?_
        exact W.iret (v := x4_2) hx hb hr (fun t ht hW => ⟨congrArg (fun z => Outcome.returned (some (Value.int z))) hf.symm, ht⟩) (fun _ h => absurd h List.not_mem_nil) dX6_power_20
      · replace hf := hf.trans (if_neg c_6)
        refine lv_iload_n hx hb dX6_power_9 rfl (lv_at hl 2 rfl) ?_
        refine lv_iload_n hx hb dX6_power_10 rfl (lv_at hl 0 rfl) ?_
        refine lv_imul hx hb dX6_power_11 ?_
        refine lv_istore_n (lv' := [(2, .int (x4_2 * x0)), (0, .int x0), (1, .int x1), (3, .int x4_3)]) hx hb dX6_power_12 rfl hl (by decide) rfl (fun ls hl => ?_)
        refine lv_iinc (v := x4_3 + 1) (lv' := [(3, .int (x4_3 + 1)), (2, .int (x4_2 * x0)), (0, .int x0), (1, .int x1)]) hx hb dX6_power_13 hl (k := 3) rfl rfl (by decide) rfl (fun ls hl => ?_)
        refine lv_goto (tgt := 4) hx hb dX6_power_16 (by decide) ?_
        exact ih4 (x4_2 * x0) (x4_3 + 1) hf (mu_up c_6 hm4) (s_X6_power_1 x1 x4_3 hi4_0 c_6) _ (lv_sub hl [2, 3, 1, 0] rfl)
  exact hJ_4 _ 1 0 hf (Nat.lt_succ_self _) s_X6_power_2 _ (lv_sub hl [2, 3, 1, 0] rfl)

def f_X6_slips_j112 (x68_7 : Int32) (k68 : Int32 → Int32 → Int32 → Int32) (x112_5 : Int32) (x112_6 : Int32) : Int32 :=
  k68 x112_5 x112_6 (x68_7 + 1)
def f_X6_slips_j93 (x68_7 : Int32) (k68 : Int32 → Int32 → Int32 → Int32) (x93_5 : Int32) (x93_6 : Int32) : Int32 :=
  if ¬ (x93_5 - x93_5 / 5 * 5) = 0 then f_X6_slips_j112 x68_7 k68 x93_5 x93_6 else f_X6_slips_j112 x68_7 k68 (x93_5 / 5) (x93_6 / 5)
def f_X6_slips_b68 (x1 : Int32) (x4 : Int32) (k68 : Int32 → Int32 → Int32 → Int32) (x68_5 : Int32) (x68_6 : Int32) (x68_7 : Int32) : Int32 :=
  if x1 ≤ x68_7 then if x4 = 0 then x68_6 else x68_5 else if ¬ (x68_5 - x68_5 / 2 * 2) = 0 then f_X6_slips_j93 x68_7 k68 x68_5 x68_6 else f_X6_slips_j93 x68_7 k68 (x68_5 / 2) (x68_6 / 2)
def f_X6_slips (x1 : Int32) (x2 : Int32) (x3 : Int32) (x4 : Int32) : Int32 :=
  if x1 < 1 then (-2) else if 6 < x1 then (-2) else if x2 < 0 then (-2) else if x1 < x2 then (-2) else if x3 < 0 then (-2) else if x3 ≤ 10 then it3 (f_X6_slips_b68 x1 x4) default ((x1.toInt - (0 : Int32).toInt).toNat + 1) (((f_X6_choices x1 x2) * (f_X6_power x3 x2)) * (f_X6_power (10 - x3) (x1 - x2))) (f_X6_power 10 x1) 0 else (-2)
/- nz@77 -/ theorem s_X6_slips_1  : ¬ (2 : Int32) = 0 := by grind
/- nz@96 -/ theorem s_X6_slips_2  : ¬ (5 : Int32) = 0 := by grind
/- inv0@115>68 -/ theorem s_X6_slips_3 (x1 : Int32) (x2 : Int32) (x68_7 : Int32) (c_2 : ¬ x1 < 1) (c_8 : ¬ 6 < x1) (c_12 : ¬ x2 < 0) (c_17 : ¬ x1 < x2) (hi68_0 : 0 ≤ x68_7) (c_71 : ¬ x1 ≤ x68_7) : 0 ≤ (x68_7 + 1) := by grind
/- nz@103 -/ theorem s_X6_slips_4  : ¬ (5 : Int32) = 0 := by grind
/- nz@109 -/ theorem s_X6_slips_5  : ¬ (5 : Int32) = 0 := by grind
/- nz@84 -/ theorem s_X6_slips_6  : ¬ (2 : Int32) = 0 := by grind
/- nz@90 -/ theorem s_X6_slips_7  : ¬ (2 : Int32) = 0 := by grind
/- inv0@66>68 -/ theorem s_X6_slips_8  : 0 ≤ (0 : Int32) := by grind
set_option maxHeartbeats 4000000 in
set_option maxRecDepth 100000 in
theorem c_X6_slips (l : Launch) (D : va_G) (cI cZ cO : ClassId) (a_t : Nat) (x1 : Int32) (x2 : Int32) (x3 : Int32) (x4 : Int32) : Met l yX6_slips wsX6_slips ({ frames := 1, cells := 0, slots := 0, locals := 23 }) (PcP D (tysG cI cZ cO) [.ref a_t, .int x1, .int x2, .int x3, .int x4] []) (QP (.int (f_X6_slips x1 x2 x3 x4))) 0 0 (fun _ => False) := by
  refine Met.ofW (cc := cX6_slips) (maxL := 8) (ret := (some .int)) (by decide) rfl ?_
  intro p e s m args below meth c s₁ B hml hv
  obtain ⟨rfl, hP, hKX⟩ := hv
  have hx := B.exec
  have hb := B.bytes
  have hr := B.returns
  have hts := atoms_spec (ws := wsX6_slips) B.pre
  have hown : s.vm.findClass RX6 = some m.cls := findClass_of_methodNamed B.named
  have hlocks := B.notSynchronized
  have hK := hKX.1
  have hl := lv_entry ([.ref a_t, .int x1, .int x2, .int x3, .int x4]) (n := 8) (Nat.le_of_ble_eq_true rfl)
  rw [lg_entry_eq]
  generalize (lg_sl ([.ref a_t, .int x1, .int x2, .int x3, .int x4]) ++ List.replicate (8 - (lg_sl ([.ref a_t, .int x1, .int x2, .int x3, .int x4])).length) Slot.unset).toArray = ls at hl ⊢
  have hl : lv_has ls 8 [(0, .ref a_t), (1, .int x1), (2, .int x2), (3, .int x3), (4, .int x4)] := hl
  have hf := f_X6_slips.eq_1 x1 x2 x3 x4
  refine lv_iload_n hx hb dX6_slips_0 rfl (lv_at hl 1 rfl) ?_
  refine lv_iconst (v := 1) hx hb dX6_slips_1 (by decide) ?_
  refine lv_icmp_lt (tgt := 30) hx hb dX6_slips_2 (by decide) (fun c_2 => ?_) (fun c_2 => ?_)
  · replace hf := hf.trans (if_pos c_2)
    refine lv_bipush (v := (-2)) hx hb dX6_slips_30 (by decide) ?_
    exact W.iret (v := (-2)) hx hb hr (fun t ht hW => ⟨congrArg (fun z => Outcome.returned (some (Value.int z))) hf.symm, ht⟩) (fun _ h => absurd h List.not_mem_nil) dX6_slips_32
  · replace hf := hf.trans (if_neg c_2)
    refine lv_iload_n hx hb dX6_slips_5 rfl (lv_at hl 1 rfl) ?_
    refine lv_bipush (v := 6) hx hb dX6_slips_6 (by decide) ?_
    refine lv_icmp_gt (tgt := 30) hx hb dX6_slips_8 (by decide) (fun c_8 => ?_) (fun c_8 => ?_)
    · replace hf := hf.trans (if_pos c_8)
      refine lv_bipush (v := (-2)) hx hb dX6_slips_30 (by decide) ?_
      exact W.iret (v := (-2)) hx hb hr (fun t ht hW => ⟨congrArg (fun z => Outcome.returned (some (Value.int z))) hf.symm, ht⟩) (fun _ h => absurd h List.not_mem_nil) dX6_slips_32
    · replace hf := hf.trans (if_neg c_8)
      refine lv_iload_n hx hb dX6_slips_11 rfl (lv_at hl 2 rfl) ?_
      refine lv_if_lt (tgt := 30) hx hb dX6_slips_12 (by decide) (fun c_12 => ?_) (fun c_12 => ?_)
      · replace hf := hf.trans (if_pos c_12)
        refine lv_bipush (v := (-2)) hx hb dX6_slips_30 (by decide) ?_
        exact W.iret (v := (-2)) hx hb hr (fun t ht hW => ⟨congrArg (fun z => Outcome.returned (some (Value.int z))) hf.symm, ht⟩) (fun _ h => absurd h List.not_mem_nil) dX6_slips_32
      · replace hf := hf.trans (if_neg c_12)
        refine lv_iload_n hx hb dX6_slips_15 rfl (lv_at hl 2 rfl) ?_
        refine lv_iload_n hx hb dX6_slips_16 rfl (lv_at hl 1 rfl) ?_
        refine lv_icmp_gt (tgt := 30) hx hb dX6_slips_17 (by decide) (fun c_17 => ?_) (fun c_17 => ?_)
        · replace hf := hf.trans (if_pos c_17)
          refine lv_bipush (v := (-2)) hx hb dX6_slips_30 (by decide) ?_
          exact W.iret (v := (-2)) hx hb hr (fun t ht hW => ⟨congrArg (fun z => Outcome.returned (some (Value.int z))) hf.symm, ht⟩) (fun _ h => absurd h List.not_mem_nil) dX6_slips_32
        · replace hf := hf.trans (if_neg c_17)
          refine lv_iload_n hx hb dX6_slips_20 rfl (lv_at hl 3 rfl) ?_
          refine lv_if_lt (tgt := 30) hx hb dX6_slips_21 (by decide) (fun c_21 => ?_) (fun c_21 => ?_)
          · replace hf := hf.trans (if_pos c_21)
            refine lv_bipush (v := (-2)) hx hb dX6_slips_30 (by decide) ?_
            exact W.iret (v := (-2)) hx hb hr (fun t ht hW => ⟨congrArg (fun z => Outcome.returned (some (Value.int z))) hf.symm, ht⟩) (fun _ h => absurd h List.not_mem_nil) dX6_slips_32
          · replace hf := hf.trans (if_neg c_21)
            refine lv_iload_n hx hb dX6_slips_24 rfl (lv_at hl 3 rfl) ?_
            refine lv_bipush (v := 10) hx hb dX6_slips_25 (by decide) ?_
            refine lv_icmp_le (tgt := 33) hx hb dX6_slips_27 (by decide) (fun c_27 => ?_) (fun c_27 => ?_)
            · replace hf := hf.trans (if_pos c_27)
              refine lv_iload_n hx hb dX6_slips_33 rfl (lv_at hl 1 rfl) ?_
              refine lv_iload_n hx hb dX6_slips_34 rfl (lv_at hl 2 rfl) ?_
              refine pcS (As := [.int x1, .int x2]) (rest := []) ⟨hx, hb, hml, hown, hts⟩ (c_X6_choices l D cI cZ cO x1 x2) (va_cwS 2 hts gX6_slips_X6_choices rfl rfl rfl (by decide +kernel) ⟨Nat.le_of_ble_eq_true rfl, Nat.le_of_ble_eq_true rfl⟩) hKX hP [] rfl rfl hl.1 rfl (Nat.le_of_ble_eq_true rfl) dX6_slips_35 ⟨Nat.le_of_ble_eq_true rfl, Nat.le_of_ble_eq_true rfl⟩ ?_
              refine lv_iload_n hx hb dX6_slips_38 rfl (lv_at hl 3 rfl) ?_
              refine lv_iload_n hx hb dX6_slips_39 rfl (lv_at hl 2 rfl) ?_
              refine pcS (As := [.int x3, .int x2]) (rest := [.int (f_X6_choices x1 x2)]) ⟨hx, hb, hml, hown, hts⟩ (c_X6_power l D cI cZ cO x3 x2) (va_cwS 2 hts gX6_slips_X6_power rfl rfl rfl (by decide +kernel) ⟨Nat.le_of_ble_eq_true rfl, Nat.le_of_ble_eq_true rfl⟩) hKX hP [] rfl rfl hl.1 rfl (Nat.le_of_ble_eq_true rfl) dX6_slips_40 ⟨Nat.le_of_ble_eq_true rfl, Nat.le_of_ble_eq_true rfl⟩ ?_
              refine lv_imul hx hb dX6_slips_43 ?_
              refine lv_bipush (v := 10) hx hb dX6_slips_44 (by decide) ?_
              refine lv_iload_n hx hb dX6_slips_46 rfl (lv_at hl 3 rfl) ?_
              refine lv_isub hx hb dX6_slips_47 ?_
              refine lv_iload_n hx hb dX6_slips_48 rfl (lv_at hl 1 rfl) ?_
              refine lv_iload_n hx hb dX6_slips_49 rfl (lv_at hl 2 rfl) ?_
              refine lv_isub hx hb dX6_slips_50 ?_
              refine pcS (As := [.int (10 - x3), .int (x1 - x2)]) (rest := [.int ((f_X6_choices x1 x2) * (f_X6_power x3 x2))]) ⟨hx, hb, hml, hown, hts⟩ (c_X6_power l D cI cZ cO (10 - x3) (x1 - x2)) (va_cwS 2 hts gX6_slips_X6_power rfl rfl rfl (by decide +kernel) ⟨Nat.le_of_ble_eq_true rfl, Nat.le_of_ble_eq_true rfl⟩) hKX hP [] rfl rfl hl.1 rfl (Nat.le_of_ble_eq_true rfl) dX6_slips_51 ⟨Nat.le_of_ble_eq_true rfl, Nat.le_of_ble_eq_true rfl⟩ ?_
              refine lv_imul hx hb dX6_slips_54 ?_
              refine lv_istore (lv' := [(5, .int (((f_X6_choices x1 x2) * (f_X6_power x3 x2)) * (f_X6_power (10 - x3) (x1 - x2)))), (0, .ref a_t), (1, .int x1), (2, .int x2), (3, .int x3), (4, .int x4)]) hx hb dX6_slips_55 hl (by decide) rfl (fun ls hl => ?_)
              refine lv_bipush (v := 10) hx hb dX6_slips_57 (by decide) ?_
              refine lv_iload_n hx hb dX6_slips_59 rfl (lv_at hl 2 rfl) ?_
              refine pcS (As := [.int 10, .int x1]) (rest := []) ⟨hx, hb, hml, hown, hts⟩ (c_X6_power l D cI cZ cO 10 x1) (va_cwS 2 hts gX6_slips_X6_power rfl rfl rfl (by decide +kernel) ⟨Nat.le_of_ble_eq_true rfl, Nat.le_of_ble_eq_true rfl⟩) hKX hP [] rfl rfl hl.1 rfl (Nat.le_of_ble_eq_true rfl) dX6_slips_60 ⟨Nat.le_of_ble_eq_true rfl, Nat.le_of_ble_eq_true rfl⟩ ?_
              refine lv_istore (lv' := [(6, .int (f_X6_power 10 x1)), (5, .int (((f_X6_choices x1 x2) * (f_X6_power x3 x2)) * (f_X6_power (10 - x3) (x1 - x2)))), (0, .ref a_t), (1, .int x1), (2, .int x2), (3, .int x3), (4, .int x4)]) hx hb dX6_slips_63 hl (by decide) rfl (fun ls hl => ?_)
              refine lv_iconst (v := 0) hx hb dX6_slips_65 (by decide) ?_
              refine lv_istore (lv' := [(7, .int 0), (6, .int (f_X6_power 10 x1)), (5, .int (((f_X6_choices x1 x2) * (f_X6_power x3 x2)) * (f_X6_power (10 - x3) (x1 - x2)))), (0, .ref a_t), (1, .int x1), (2, .int x2), (3, .int x3), (4, .int x4)]) hx hb dX6_slips_66 hl (by decide) rfl (fun ls hl => ?_)
              have hJ_68 : ∀ (n68 : Nat) (x68_5 : Int32) (x68_6 : Int32) (x68_7 : Int32), f_X6_slips x1 x2 x3 x4 = it3 (f_X6_slips_b68 x1 x4) default n68 x68_5 x68_6 x68_7 → (x1.toInt - x68_7.toInt).toNat < n68 → (0 ≤ x68_7) → ∀ (ls : Array Slot), lv_has ls 8 [(1, .int x1), (4, .int x4), (5, .int x68_5), (6, .int x68_6), (7, .int x68_7)] → W p l e (headSpec wsX6_slips { frames := 1, cells := 0, slots := 0, locals := 23 }).room s m [.ref a_t, .int x1, .int x2, .int x3, .int x4].toArray below meth c s.heap [] 0 0 (MQ below (QP (.int (f_X6_slips x1 x2 x3 x4))) [.ref a_t, .int x1, .int x2, .int x3, .int x4].toArray s 0 0 (fun _ => False)) (F0 m 68 ls []) := by
                intro n68
                induction n68 with
                | zero => intro x68_5 x68_6 x68_7 hf hm68; exact absurd hm68 (Nat.not_lt_zero _)
                | succ n68 ih68 =>
                  intro x68_5 x68_6 x68_7 hf hm68 hi68_0 ls hl
                  replace hf := (hf.trans (it3_s _ _ _ _ _ _)).trans (f_X6_slips_b68.eq_1 _ _ _ _ _ _)
                  refine lv_iload hx hb dX6_slips_68 (lv_at hl 4 rfl) ?_
                  refine lv_iload_n hx hb dX6_slips_70 rfl (lv_at hl 0 rfl) ?_
                  refine lv_icmp_ge (tgt := 118) hx hb dX6_slips_71 (by decide) (fun c_71 => ?_) (fun c_71 => ?_)
                  · replace hf := hf.trans (if_pos c_71)
                    refine lv_iload hx hb dX6_slips_118 (lv_at hl 1 rfl) ?_
                    refine lv_if_eq (tgt := 128) hx hb dX6_slips_120 (by decide) (fun c_120 => ?_) (fun c_120 => ?_)
                    · replace hf := hf.trans (if_pos c_120)
                      refine lv_iload hx hb dX6_slips_128 (lv_at hl 3 rfl) ?_
                      exact W.iret (v := x68_6) hx hb hr (fun t ht hW => ⟨congrArg (fun z => Outcome.returned (some (Value.int z))) hf.symm, ht⟩) (fun _ h => absurd h List.not_mem_nil) dX6_slips_130
                    · replace hf := hf.trans (if_neg c_120)
                      refine lv_iload hx hb dX6_slips_123 (lv_at hl 2 rfl) ?_
                      refine lv_goto (tgt := 130) hx hb dX6_slips_125 (by decide) ?_
                      exact W.iret (v := x68_5) hx hb hr (fun t ht hW => ⟨congrArg (fun z => Outcome.returned (some (Value.int z))) hf.symm, ht⟩) (fun _ h => absurd h List.not_mem_nil) dX6_slips_130
                  · replace hf := hf.trans (if_neg c_71)
                    refine lv_iload hx hb dX6_slips_74 (lv_at hl 2 rfl) ?_
                    refine lv_iconst (v := 2) hx hb dX6_slips_76 (by decide) ?_
                    refine lv_irem hx hb dX6_slips_77 s_X6_slips_1 ?_
                    have hJ_93 : ∀ (x93_5 : Int32) (x93_6 : Int32), f_X6_slips x1 x2 x3 x4 = f_X6_slips_j93 x68_7 ((it3 (f_X6_slips_b68 x1 x4) default n68)) x93_5 x93_6 → ∀ (ls : Array Slot), lv_has ls 8 [(1, .int x1), (4, .int x4), (5, .int x93_5), (6, .int x93_6), (7, .int x68_7)] → W p l e (headSpec wsX6_slips { frames := 1, cells := 0, slots := 0, locals := 23 }).room s m [.ref a_t, .int x1, .int x2, .int x3, .int x4].toArray below meth c s.heap [] 0 0 (MQ below (QP (.int (f_X6_slips x1 x2 x3 x4))) [.ref a_t, .int x1, .int x2, .int x3, .int x4].toArray s 0 0 (fun _ => False)) (F0 m 93 ls []) := by
                      intro x93_5 x93_6 hf ls hl
                      replace hf := hf.trans (f_X6_slips_j93.eq_1 _ _ _ _)
                      refine lv_iload hx hb dX6_slips_93 (lv_at hl 2 rfl) ?_
                      refine lv_iconst (v := 5) hx hb dX6_slips_95 (by decide) ?_
                      refine lv_irem hx hb dX6_slips_96 s_X6_slips_2 ?_
                      have hJ_112 : ∀ (x112_5 : Int32) (x112_6 : Int32), f_X6_slips x1 x2 x3 x4 = f_X6_slips_j112 x68_7 ((it3 (f_X6_slips_b68 x1 x4) default n68)) x112_5 x112_6 → ∀ (ls : Array Slot), lv_has ls 8 [(1, .int x1), (4, .int x4), (5, .int x112_5), (6, .int x112_6), (7, .int x68_7)] → W p l e (headSpec wsX6_slips { frames := 1, cells := 0, slots := 0, locals := 23 }).room s m [.ref a_t, .int x1, .int x2, .int x3, .int x4].toArray below meth c s.heap [] 0 0 (MQ below (QP (.int (f_X6_slips x1 x2 x3 x4))) [.ref a_t, .int x1, .int x2, .int x3, .int x4].toArray s 0 0 (fun _ => False)) (F0 m 112 ls []) := by
                        intro x112_5 x112_6 hf ls hl
                        replace hf := hf.trans (f_X6_slips_j112.eq_1 _ _ _ _)
                        refine lv_iinc (v := x68_7 + 1) (lv' := [(7, .int (x68_7 + 1)), (1, .int x1), (4, .int x4), (5, .int x112_5), (6, .int x112_6)]) hx hb dX6_slips_112 hl (k := 4) rfl rfl (by decide) rfl (fun ls hl => ?_)
                        refine lv_goto (tgt := 68) hx hb dX6_slips_115 (by decide) ?_
                        exact ih68 x112_5 x112_6 (x68_7 + 1) hf (mu_up c_71 hm68) (s_X6_slips_3 x1 x2 x68_7 c_2 c_8 c_12 c_17 hi68_0 c_71) _ (lv_sub hl [1, 2, 3, 4, 0] rfl)
                      refine lv_if_ne (tgt := 112) hx hb dX6_slips_97 (by decide) (fun c_97 => ?_) (fun c_97 => ?_)
                      · replace hf := hf.trans (if_pos c_97)
                        exact hJ_112 x93_5 x93_6 hf _ (lv_sub hl [0, 1, 2, 3, 4] rfl)
                      · replace hf := hf.trans (if_neg (fun h9 => h9 c_97))
                        refine lv_iload hx hb dX6_slips_100 (lv_at hl 2 rfl) ?_
                        refine lv_iconst (v := 5) hx hb dX6_slips_102 (by decide) ?_
                        refine lv_idiv hx hb dX6_slips_103 s_X6_slips_4 ?_
                        refine lv_istore (lv' := [(5, .int (x93_5 / 5)), (1, .int x1), (4, .int x4), (6, .int x93_6), (7, .int x68_7)]) hx hb dX6_slips_104 hl (by decide) rfl (fun ls hl => ?_)
                        refine lv_iload hx hb dX6_slips_106 (lv_at hl 3 rfl) ?_
                        refine lv_iconst (v := 5) hx hb dX6_slips_108 (by decide) ?_
                        refine lv_idiv hx hb dX6_slips_109 s_X6_slips_5 ?_
                        refine lv_istore (lv' := [(6, .int (x93_6 / 5)), (5, .int (x93_5 / 5)), (1, .int x1), (4, .int x4), (7, .int x68_7)]) hx hb dX6_slips_110 hl (by decide) rfl (fun ls hl => ?_)
                        exact hJ_112 (x93_5 / 5) (x93_6 / 5) hf _ (lv_sub hl [2, 3, 1, 0, 4] rfl)
                    refine lv_if_ne (tgt := 93) hx hb dX6_slips_78 (by decide) (fun c_78 => ?_) (fun c_78 => ?_)
                    · replace hf := hf.trans (if_pos c_78)
                      exact hJ_93 x68_5 x68_6 hf _ (lv_sub hl [0, 1, 2, 3, 4] rfl)
                    · replace hf := hf.trans (if_neg (fun h9 => h9 c_78))
                      refine lv_iload hx hb dX6_slips_81 (lv_at hl 2 rfl) ?_
                      refine lv_iconst (v := 2) hx hb dX6_slips_83 (by decide) ?_
                      refine lv_idiv hx hb dX6_slips_84 s_X6_slips_6 ?_
                      refine lv_istore (lv' := [(5, .int (x68_5 / 2)), (1, .int x1), (4, .int x4), (6, .int x68_6), (7, .int x68_7)]) hx hb dX6_slips_85 hl (by decide) rfl (fun ls hl => ?_)
                      refine lv_iload hx hb dX6_slips_87 (lv_at hl 3 rfl) ?_
                      refine lv_iconst (v := 2) hx hb dX6_slips_89 (by decide) ?_
                      refine lv_idiv hx hb dX6_slips_90 s_X6_slips_7 ?_
                      refine lv_istore (lv' := [(6, .int (x68_6 / 2)), (5, .int (x68_5 / 2)), (1, .int x1), (4, .int x4), (7, .int x68_7)]) hx hb dX6_slips_91 hl (by decide) rfl (fun ls hl => ?_)
                      exact hJ_93 (x68_5 / 2) (x68_6 / 2) hf _ (lv_sub hl [2, 3, 1, 0, 4] rfl)
              exact hJ_68 _ (((f_X6_choices x1 x2) * (f_X6_power x3 x2)) * (f_X6_power (10 - x3) (x1 - x2))) (f_X6_power 10 x1) 0 hf (Nat.lt_succ_self _) s_X6_slips_8 _ (lv_sub hl [4, 7, 2, 1, 0] rfl)
            · replace hf := hf.trans (if_neg c_27)
              refine lv_bipush (v := (-2)) hx hb dX6_slips_30 (by decide) ?_
              exact W.iret (v := (-2)) hx hb hr (fun t ht hW => ⟨congrArg (fun z => Outcome.returned (some (Value.int z))) hf.symm, ht⟩) (fun _ h => absurd h List.not_mem_nil) dX6_slips_32

def f_X6_seed (v_t_theSeed : Int64) (x1 : Int64) : Int64 × Int64 :=
  (v_t_theSeed, x1)
set_option maxHeartbeats 4000000 in
set_option maxRecDepth 100000 in
theorem c_X6_seed (l : Launch) (D : va_G) (cI cZ cO : ClassId) (a_t : Nat) (a_t_text : Nat) (a_t_told : Nat) (a_t_draft : Nat) (a_t_now : Nat) (a_t_acts : Nat) (a_t_sightings : Nat) (a_t_sides : Nat) (a_t_kept : Nat) (v_t_keptSlots : Int32) (v_t_theSeed : Int64) (x1 : Int64) (sz : Nat) : Met l yX6_seed wsX6_seed ({ frames := 0, cells := 0, slots := 0, locals := 0 }) (PcM D (tysG cI cZ cO) [.ref a_t, .long x1] sz [(a_t, .inr (6, [.ref a_t_text, .ref a_t_told, .ref a_t_draft, .ref a_t_now, .ref a_t_acts, .ref a_t_sightings, .ref a_t_sides, .ref a_t_kept, .int v_t_keptSlots, .long v_t_theSeed]))]) (va_Ql (fun (r : Int64) (u : Int64) => (r, u) = f_X6_seed v_t_theSeed x1) (BM D (va_A [(a_t, .inr (6, [.ref a_t_text, .ref a_t_told, .ref a_t_draft, .ref a_t_now, .ref a_t_acts, .ref a_t_sightings, .ref a_t_sides, .ref a_t_kept, .int v_t_keptSlots, .long v_t_theSeed]))] sz) (fun u : Int64 => [(a_t, .inr (6, [.ref a_t_text, .ref a_t_told, .ref a_t_draft, .ref a_t_now, .ref a_t_acts, .ref a_t_sightings, .ref a_t_sides, .ref a_t_kept, .int v_t_keptSlots, .long u]))])) (va_A [(a_t, .inr (6, [.ref a_t_text, .ref a_t_told, .ref a_t_draft, .ref a_t_now, .ref a_t_acts, .ref a_t_sightings, .ref a_t_sides, .ref a_t_kept, .int v_t_keptSlots, .long v_t_theSeed]))] sz)) 0 0 (va_A [(a_t, .inr (6, [.ref a_t_text, .ref a_t_told, .ref a_t_draft, .ref a_t_now, .ref a_t_acts, .ref a_t_sightings, .ref a_t_sides, .ref a_t_kept, .int v_t_keptSlots, .long v_t_theSeed]))] sz) := by
  refine Met.ofW (cc := cX6_seed) (maxL := 5) (ret := (some .long)) (by decide) rfl ?_
  intro p e s m args below meth c s₁ B hml hv
  obtain ⟨rfl, hsz, hP, hKX, hD0⟩ := hv
  have hx := B.exec
  have hb := B.bytes
  have hr := B.returns
  have hts := atoms_spec (ws := wsX6_seed) B.pre
  have hown : s.vm.findClass RX6 = some m.cls := findClass_of_methodNamed B.named
  have hlocks := B.notSynchronized
  have hK := hKX.1
  have hwX6 : ∀ w ∈ wsX60, w ∈ wsX6_seed := by decide +kernel
  subst hsz
  have hD := hD0.self (sz := s.heap.size)
  generalize hAe : va_A [(a_t, .inr (6, [.ref a_t_text, .ref a_t_told, .ref a_t_draft, .ref a_t_now, .ref a_t_acts, .ref a_t_sightings, .ref a_t_sides, .ref a_t_kept, .int v_t_keptSlots, .long v_t_theSeed]))] s.heap.size = A at hD ⊢
  have hA : ∀ q : Nat, s.heap.size ≤ q → A q := fun q h => by rw [← hAe]; exact Or.inr h
  have hS : va_S A s.heap s.heap [] := va_S.rf
  have hP : va_P D vwCl [(a_t, .inr (6, [.ref a_t_text, .ref a_t_told, .ref a_t_draft, .ref a_t_now, .ref a_t_acts, .ref a_t_sightings, .ref a_t_sides, .ref a_t_kept, .int v_t_keptSlots, .long v_t_theSeed]))] s.heap := hP
  have hl := lv_entry ([.ref a_t, .long x1]) (n := 5) (Nat.le_of_ble_eq_true rfl)
  rw [lg_entry_eq]
  generalize (lg_sl ([.ref a_t, .long x1]) ++ List.replicate (5 - (lg_sl ([.ref a_t, .long x1])).length) Slot.unset).toArray = ls at hl ⊢
  have hl : lv_has ls 5 [(0, .ref a_t), (1, .long x1)] := hl
  have hf := f_X6_seed.eq_1 v_t_theSeed x1
  refine lv_aload_n hx hb dX6_seed_0 rfl (lv_at hl 0 rfl) ?_
  refine va_get (D := D) (ci := 6) (v := .long v_t_theSeed) (C := RX6) (T := TX6) (N := 10) hx hb hts hwX6 hown hK hP 0 rfl rfl 9 (by decide) (hts (.fieldLink RX6 62 "SkippedDay" "theSeed" "J") (by decide +kernel)) (fun _ h9 => h9) rfl dX6_seed_1 ?_
  refine lv_lstore_n (lv' := [(3, .long v_t_theSeed), (0, .ref a_t), (1, .long x1)]) hx hb dX6_seed_4 rfl hl (by decide) rfl (fun ls hl => ?_)
  refine lv_aload_n hx hb dX6_seed_5 rfl (lv_at hl 1 rfl) ?_
  refine lv_lload_n hx hb dX6_seed_6 rfl (lv_at hl 2 rfl) ?_
  refine va_put (D := D) (ci := 6) (v := .long x1) (ty := .long) (C := RX6) (T := TX6) (N := 10) hx hb hts hwX6 tyX6 tyX6_ok nmX6 hown hK hP hD hS 0 rfl rfl 9 (by decide) (hts (.fieldLink RX6 62 "SkippedDay" "theSeed" "J") (by decide +kernel)) (fun _ h9 => h9) rfl (by decide +kernel) rfl rfl (Nat.le_of_ble_eq_true rfl) dX6_seed_7 (fun H locs hP hD hS => ?_)
  have hP : va_P D vwCl [(a_t, .inr (6, [.ref a_t_text, .ref a_t_told, .ref a_t_draft, .ref a_t_now, .ref a_t_acts, .ref a_t_sightings, .ref a_t_sides, .ref a_t_kept, .int v_t_keptSlots, .long x1]))] H := hP
  have hD : va_D A [(a_t, .inr (6, [.ref a_t_text, .ref a_t_told, .ref a_t_draft, .ref a_t_now, .ref a_t_acts, .ref a_t_sightings, .ref a_t_sides, .ref a_t_kept, .int v_t_keptSlots, .long x1]))] := hD
  refine lv_lload_n hx hb dX6_seed_10 rfl (lv_at hl 0 rfl) ?_
  exact W.lret (v := v_t_theSeed) hx hb hr (fun t ht hW => ⟨⟨v_t_theSeed, (x1), rfl, hf.symm, by rw [ht]; exact hP.sub [0] rfl, hD.sub [0] (by decide) rfl⟩, hS.F ht⟩) hS.2.2 dX6_seed_11

def f_X6_years_b18 (f_t_told_sizes : Nat → Int32) (f_t_told_cells : Nat → Int32) (v_t_now_voided : Int32) (v_t_now_counted : Int32) (x1 : Int32) (k18 : Int32 → Int32 → Int64 → Int32 × Int64) (x18_2 : Int32) (x18_3 : Int32) (w18_t_theSeed : Int64) : Int32 × Int64 :=
  if x1 ≤ x18_3 then (x18_2, w18_t_theSeed) else k18 (x18_2 + (f_J6_bitCount_0f7a4 (f_X6_brokenAt f_t_told_sizes f_t_told_cells v_t_now_voided v_t_now_counted ((((((w18_t_theSeed * 6364136223846793005) + 1442695040888963407).toUInt64 >>> ((33 : Int32).toInt64.toUInt64 &&& Int64.toUInt64 63)).toInt64) - ((((w18_t_theSeed * 6364136223846793005) + 1442695040888963407).toUInt64 >>> ((33 : Int32).toInt64.toUInt64 &&& Int64.toUInt64 63)).toInt64) / 14 * 14).toInt32)))) (x18_3 + 1) ((w18_t_theSeed * 6364136223846793005) + 1442695040888963407)
def f_X6_years (v_t_theSeed : Int64) (f_t_told_sizes : Nat → Int32) (f_t_told_cells : Nat → Int32) (v_t_now_voided : Int32) (v_t_now_counted : Int32) (x1 : Int32) : Int32 × Int64 :=
  if x1 < 1 then ((-2), v_t_theSeed) else if x1 ≤ 40 then it3 (f_X6_years_b18 f_t_told_sizes f_t_told_cells v_t_now_voided v_t_now_counted x1) default ((x1.toInt - (0 : Int32).toInt).toNat + 1) 0 0 v_t_theSeed else ((-2), v_t_theSeed)
/- nz@49 -/ theorem s_X6_years_1  : ¬ (14 : Int64) = 0 := by grind
/- inv0@68>18 -/ theorem s_X6_years_2 (x1 : Int32) (x18_3 : Int32) (c_2 : ¬ x1 < 1) (c_8 : x1 ≤ 40) (hi18_0 : 0 ≤ x18_3) (c_20 : ¬ x1 ≤ x18_3) : 0 ≤ (x18_3 + 1) := by grind
/- inv0@17>18 -/ theorem s_X6_years_3  : 0 ≤ (0 : Int32) := by grind
set_option maxHeartbeats 4000000 in
set_option maxRecDepth 100000 in
theorem c_X6_years (l : Launch) (D : va_G) (cI cZ cO : ClassId) (a_t : Nat) (a_t_text : Nat) (a_t_told : Nat) (a_t_draft : Nat) (a_t_now : Nat) (a_t_acts : Nat) (a_t_sightings : Nat) (a_t_sides : Nat) (a_t_kept : Nat) (v_t_keptSlots : Int32) (v_t_theSeed : Int64) (a_t_told_sizes : Nat) (a_t_told_cells : Nat) (f_t_told_sizes : Nat → Int32) (f_t_told_cells : Nat → Int32) (v_t_now_place : Int32) (v_t_now_voided : Int32) (v_t_now_counted : Int32) (x1 : Int32) (sz : Nat) : Met l yX6_years wsX6_years ({ frames := 6, cells := 0, slots := 0, locals := 138 }) (PcM D (tysG cI cZ cO) [.ref a_t, .int x1] sz [(a_t, .inr (6, [.ref a_t_text, .ref a_t_told, .ref a_t_draft, .ref a_t_now, .ref a_t_acts, .ref a_t_sightings, .ref a_t_sides, .ref a_t_kept, .int v_t_keptSlots, .long v_t_theSeed])), (a_t_told, .inr (5, [.ref a_t_told_sizes, .ref a_t_told_cells])), (a_t_told_sizes, .inl (cI, 4, .inl f_t_told_sizes)), (a_t_told_cells, .inl (cI, 120, .inl f_t_told_cells)), (a_t_now, .inr (3, [.int v_t_now_place, .int v_t_now_voided, .int v_t_now_counted]))]) (va_Qi (fun (r : Int32) (u : Int64) => (r, u) = f_X6_years v_t_theSeed f_t_told_sizes f_t_told_cells v_t_now_voided v_t_now_counted x1) (BM D (va_A [(a_t, .inr (6, [.ref a_t_text, .ref a_t_told, .ref a_t_draft, .ref a_t_now, .ref a_t_acts, .ref a_t_sightings, .ref a_t_sides, .ref a_t_kept, .int v_t_keptSlots, .long v_t_theSeed])), (a_t_told, .inr (5, [.ref a_t_told_sizes, .ref a_t_told_cells])), (a_t_told_sizes, .inl (cI, 4, .inl f_t_told_sizes)), (a_t_told_cells, .inl (cI, 120, .inl f_t_told_cells)), (a_t_now, .inr (3, [.int v_t_now_place, .int v_t_now_voided, .int v_t_now_counted]))] sz) (fun u : Int64 => [(a_t, .inr (6, [.ref a_t_text, .ref a_t_told, .ref a_t_draft, .ref a_t_now, .ref a_t_acts, .ref a_t_sightings, .ref a_t_sides, .ref a_t_kept, .int v_t_keptSlots, .long u])), (a_t_told, .inr (5, [.ref a_t_told_sizes, .ref a_t_told_cells])), (a_t_told_sizes, .inl (cI, 4, .inl f_t_told_sizes)), (a_t_told_cells, .inl (cI, 120, .inl f_t_told_cells)), (a_t_now, .inr (3, [.int v_t_now_place, .int v_t_now_voided, .int v_t_now_counted]))])) (va_A [(a_t, .inr (6, [.ref a_t_text, .ref a_t_told, .ref a_t_draft, .ref a_t_now, .ref a_t_acts, .ref a_t_sightings, .ref a_t_sides, .ref a_t_kept, .int v_t_keptSlots, .long v_t_theSeed])), (a_t_told, .inr (5, [.ref a_t_told_sizes, .ref a_t_told_cells])), (a_t_told_sizes, .inl (cI, 4, .inl f_t_told_sizes)), (a_t_told_cells, .inl (cI, 120, .inl f_t_told_cells)), (a_t_now, .inr (3, [.int v_t_now_place, .int v_t_now_voided, .int v_t_now_counted]))] sz)) 0 0 (va_A [(a_t, .inr (6, [.ref a_t_text, .ref a_t_told, .ref a_t_draft, .ref a_t_now, .ref a_t_acts, .ref a_t_sightings, .ref a_t_sides, .ref a_t_kept, .int v_t_keptSlots, .long v_t_theSeed])), (a_t_told, .inr (5, [.ref a_t_told_sizes, .ref a_t_told_cells])), (a_t_told_sizes, .inl (cI, 4, .inl f_t_told_sizes)), (a_t_told_cells, .inl (cI, 120, .inl f_t_told_cells)), (a_t_now, .inr (3, [.int v_t_now_place, .int v_t_now_voided, .int v_t_now_counted]))] sz) := by
  refine Met.ofW (cc := cX6_years) (maxL := 5) (ret := (some .int)) (by decide) rfl ?_
  intro p e s m args below meth c s₁ B hml hv
  obtain ⟨rfl, hsz, hP, hKX, hD0⟩ := hv
  have hx := B.exec
  have hb := B.bytes
  have hr := B.returns
  have hts := atoms_spec (ws := wsX6_years) B.pre
  have hown : s.vm.findClass RX6 = some m.cls := findClass_of_methodNamed B.named
  have hlocks := B.notSynchronized
  have hK := hKX.1
  have hwX6 : ∀ w ∈ wsX60, w ∈ wsX6_years := by decide +kernel
  subst hsz
  have hD := hD0.self (sz := s.heap.size)
  generalize hAe : va_A [(a_t, .inr (6, [.ref a_t_text, .ref a_t_told, .ref a_t_draft, .ref a_t_now, .ref a_t_acts, .ref a_t_sightings, .ref a_t_sides, .ref a_t_kept, .int v_t_keptSlots, .long v_t_theSeed])), (a_t_told, .inr (5, [.ref a_t_told_sizes, .ref a_t_told_cells])), (a_t_told_sizes, .inl (cI, 4, .inl f_t_told_sizes)), (a_t_told_cells, .inl (cI, 120, .inl f_t_told_cells)), (a_t_now, .inr (3, [.int v_t_now_place, .int v_t_now_voided, .int v_t_now_counted]))] s.heap.size = A at hD ⊢
  have hA : ∀ q : Nat, s.heap.size ≤ q → A q := fun q h => by rw [← hAe]; exact Or.inr h
  have hS : va_S A s.heap s.heap [] := va_S.rf
  have hP : va_P D vwCl [(a_t, .inr (6, [.ref a_t_text, .ref a_t_told, .ref a_t_draft, .ref a_t_now, .ref a_t_acts, .ref a_t_sightings, .ref a_t_sides, .ref a_t_kept, .int v_t_keptSlots, .long v_t_theSeed])), (a_t_told, .inr (5, [.ref a_t_told_sizes, .ref a_t_told_cells])), (a_t_told_sizes, .inl (cI, 4, .inl f_t_told_sizes)), (a_t_told_cells, .inl (cI, 120, .inl f_t_told_cells)), (a_t_now, .inr (3, [.int v_t_now_place, .int v_t_now_voided, .int v_t_now_counted]))] s.heap := hP
  have hl := lv_entry ([.ref a_t, .int x1]) (n := 5) (Nat.le_of_ble_eq_true rfl)
  rw [lg_entry_eq]
  generalize (lg_sl ([.ref a_t, .int x1]) ++ List.replicate (5 - (lg_sl ([.ref a_t, .int x1])).length) Slot.unset).toArray = ls at hl ⊢
  have hl : lv_has ls 5 [(0, .ref a_t), (1, .int x1)] := hl
  have hf := f_X6_years.eq_1 v_t_theSeed f_t_told_sizes f_t_told_cells v_t_now_voided v_t_now_counted x1
  refine lv_iload_n hx hb dX6_years_0 rfl (lv_at hl 1 rfl) ?_
  refine lv_iconst (v := 1) hx hb dX6_years_1 (by decide) ?_
  refine lv_icmp_lt (tgt := 11) hx hb dX6_years_2 (by decide) (fun c_2 => ?_) (fun c_2 => ?_)
  · replace hf := hf.trans (if_pos c_2)
    refine lv_bipush (v := (-2)) hx hb dX6_years_11 (by decide) ?_
    exact W.iret (v := (-2)) hx hb hr (fun t ht hW => ⟨⟨(-2), (v_t_theSeed), rfl, hf.symm, by rw [ht]; exact hP.sub [0, 1, 2, 3, 4] rfl, hD.sub [0, 1, 2, 3, 4] (by decide) rfl⟩, hS.F ht⟩) hS.2.2 dX6_years_13
  · replace hf := hf.trans (if_neg c_2)
    refine lv_iload_n hx hb dX6_years_5 rfl (lv_at hl 1 rfl) ?_
    refine lv_bipush (v := 40) hx hb dX6_years_6 (by decide) ?_
    refine lv_icmp_le (tgt := 14) hx hb dX6_years_8 (by decide) (fun c_8 => ?_) (fun c_8 => ?_)
    · replace hf := hf.trans (if_pos c_8)
      refine lv_iconst (v := 0) hx hb dX6_years_14 (by decide) ?_
      refine lv_istore_n (lv' := [(2, .int 0), (0, .ref a_t), (1, .int x1)]) hx hb dX6_years_15 rfl hl (by decide) rfl (fun ls hl => ?_)
      refine lv_iconst (v := 0) hx hb dX6_years_16 (by decide) ?_
      refine lv_istore_n (lv' := [(3, .int 0), (2, .int 0), (0, .ref a_t), (1, .int x1)]) hx hb dX6_years_17 rfl hl (by decide) rfl (fun ls hl => ?_)
      have hJ_18 : ∀ (n18 : Nat) (x18_2 : Int32) (x18_3 : Int32) (w18_t_theSeed : Int64), f_X6_years v_t_theSeed f_t_told_sizes f_t_told_cells v_t_now_voided v_t_now_counted x1 = it3 (f_X6_years_b18 f_t_told_sizes f_t_told_cells v_t_now_voided v_t_now_counted x1) default n18 x18_2 x18_3 w18_t_theSeed → (x1.toInt - x18_3.toInt).toNat < n18 → (0 ≤ x18_3) → ∀ (H : Heap) (locs : List Loc), va_P D vwCl [(a_t, .inr (6, [.ref a_t_text, .ref a_t_told, .ref a_t_draft, .ref a_t_now, .ref a_t_acts, .ref a_t_sightings, .ref a_t_sides, .ref a_t_kept, .int v_t_keptSlots, .long w18_t_theSeed])), (a_t_told, .inr (5, [.ref a_t_told_sizes, .ref a_t_told_cells])), (a_t_told_sizes, .inl (cI, 4, .inl f_t_told_sizes)), (a_t_told_cells, .inl (cI, 120, .inl f_t_told_cells)), (a_t_now, .inr (3, [.int v_t_now_place, .int v_t_now_voided, .int v_t_now_counted]))] H → va_D A [(a_t, .inr (6, [.ref a_t_text, .ref a_t_told, .ref a_t_draft, .ref a_t_now, .ref a_t_acts, .ref a_t_sightings, .ref a_t_sides, .ref a_t_kept, .int v_t_keptSlots, .long w18_t_theSeed])), (a_t_told, .inr (5, [.ref a_t_told_sizes, .ref a_t_told_cells])), (a_t_told_sizes, .inl (cI, 4, .inl f_t_told_sizes)), (a_t_told_cells, .inl (cI, 120, .inl f_t_told_cells)), (a_t_now, .inr (3, [.int v_t_now_place, .int v_t_now_voided, .int v_t_now_counted]))] → va_S A s.heap H locs → ∀ (ls : Array Slot), lv_has ls 5 [(0, .ref a_t), (1, .int x1), (2, .int x18_2), (3, .int x18_3)] → W p l e (headSpec wsX6_years { frames := 6, cells := 0, slots := 0, locals := 138 }).room s m [.ref a_t, .int x1].toArray below meth c H locs 0 0 (MQ below (va_Qi (fun (r : Int32) (u : Int64) => (r, u) = f_X6_years v_t_theSeed f_t_told_sizes f_t_told_cells v_t_now_voided v_t_now_counted x1) (BM D A (fun u : Int64 => [(a_t, .inr (6, [.ref a_t_text, .ref a_t_told, .ref a_t_draft, .ref a_t_now, .ref a_t_acts, .ref a_t_sightings, .ref a_t_sides, .ref a_t_kept, .int v_t_keptSlots, .long u])), (a_t_told, .inr (5, [.ref a_t_told_sizes, .ref a_t_told_cells])), (a_t_told_sizes, .inl (cI, 4, .inl f_t_told_sizes)), (a_t_told_cells, .inl (cI, 120, .inl f_t_told_cells)), (a_t_now, .inr (3, [.int v_t_now_place, .int v_t_now_voided, .int v_t_now_counted]))])) A) [.ref a_t, .int x1].toArray s 0 0 A) (F0 m 18 ls []) := by
        intro n18
        induction n18 with
        | zero => intro x18_2 x18_3 w18_t_theSeed hf hm18; exact absurd hm18 (Nat.not_lt_zero _)
        | succ n18 ih18 =>
          intro x18_2 x18_3 w18_t_theSeed hf hm18 hi18_0 H locs hP hD hS ls hl
          replace hf := (hf.trans (it3_s _ _ _ _ _ _)).trans (f_X6_years_b18.eq_1 _ _ _ _ _ _ _ _ _)
          refine lv_iload_n hx hb dX6_years_18 rfl (lv_at hl 3 rfl) ?_
          refine lv_iload_n hx hb dX6_years_19 rfl (lv_at hl 1 rfl) ?_
          refine lv_icmp_ge (tgt := 71) hx hb dX6_years_20 (by decide) (fun c_20 => ?_) (fun c_20 => ?_)
          · replace hf := hf.trans (if_pos c_20)
            refine lv_iload_n hx hb dX6_years_71 rfl (lv_at hl 2 rfl) ?_
            exact W.iret (v := x18_2) hx hb hr (fun t ht hW => ⟨⟨x18_2, (w18_t_theSeed), rfl, hf.symm, by rw [ht]; exact hP.sub [0, 1, 2, 3, 4] rfl, hD.sub [0, 1, 2, 3, 4] (by decide) rfl⟩, hS.F ht⟩) hS.2.2 dX6_years_72
          · replace hf := hf.trans (if_neg c_20)
            refine lv_aload_n hx hb dX6_years_23 rfl (lv_at hl 0 rfl) ?_
            refine lv_aload_n hx hb dX6_years_24 rfl (lv_at hl 0 rfl) ?_
            refine va_get (D := D) (ci := 6) (v := .long w18_t_theSeed) (C := RX6) (T := TX6) (N := 10) hx hb hts hwX6 hown hK hP 0 rfl rfl 9 (by decide) (hts (.fieldLink RX6 62 "SkippedDay" "theSeed" "J") (by decide +kernel)) (fun _ h9 => h9) rfl dX6_years_25 ?_
            refine lv_ldc2 (v := 6364136223846793005) hx hb hown (hts (.constantLong RX6 233 6364136223846793005) (by decide +kernel)) dX6_years_28 ?_
            refine lv_lmul hx hb dX6_years_31 ?_
            refine lv_ldc2 (v := 1442695040888963407) hx hb hown (hts (.constantLong RX6 235 1442695040888963407) (by decide +kernel)) dX6_years_32 ?_
            refine lv_ladd hx hb dX6_years_35 ?_
            refine va_put (D := D) (ci := 6) (v := .long ((w18_t_theSeed * 6364136223846793005) + 1442695040888963407)) (ty := .long) (C := RX6) (T := TX6) (N := 10) hx hb hts hwX6 tyX6 tyX6_ok nmX6 hown hK hP hD hS 0 rfl rfl 9 (by decide) (hts (.fieldLink RX6 62 "SkippedDay" "theSeed" "J") (by decide +kernel)) (fun _ h9 => h9) rfl (by decide +kernel) rfl rfl (Nat.le_of_ble_eq_true rfl) dX6_years_36 (fun H locs hP hD hS => ?_)
            have hP : va_P D vwCl [(a_t, .inr (6, [.ref a_t_text, .ref a_t_told, .ref a_t_draft, .ref a_t_now, .ref a_t_acts, .ref a_t_sightings, .ref a_t_sides, .ref a_t_kept, .int v_t_keptSlots, .long ((w18_t_theSeed * 6364136223846793005) + 1442695040888963407)])), (a_t_told, .inr (5, [.ref a_t_told_sizes, .ref a_t_told_cells])), (a_t_told_sizes, .inl (cI, 4, .inl f_t_told_sizes)), (a_t_told_cells, .inl (cI, 120, .inl f_t_told_cells)), (a_t_now, .inr (3, [.int v_t_now_place, .int v_t_now_voided, .int v_t_now_counted]))] H := hP
            have hD : va_D A [(a_t, .inr (6, [.ref a_t_text, .ref a_t_told, .ref a_t_draft, .ref a_t_now, .ref a_t_acts, .ref a_t_sightings, .ref a_t_sides, .ref a_t_kept, .int v_t_keptSlots, .long ((w18_t_theSeed * 6364136223846793005) + 1442695040888963407)])), (a_t_told, .inr (5, [.ref a_t_told_sizes, .ref a_t_told_cells])), (a_t_told_sizes, .inl (cI, 4, .inl f_t_told_sizes)), (a_t_told_cells, .inl (cI, 120, .inl f_t_told_cells)), (a_t_now, .inr (3, [.int v_t_now_place, .int v_t_now_voided, .int v_t_now_counted]))] := hD
            refine lv_aload_n hx hb dX6_years_39 rfl (lv_at hl 0 rfl) ?_
            refine va_get (D := D) (ci := 6) (v := .long ((w18_t_theSeed * 6364136223846793005) + 1442695040888963407)) (C := RX6) (T := TX6) (N := 10) hx hb hts hwX6 hown hK hP 0 rfl rfl 9 (by decide) (hts (.fieldLink RX6 62 "SkippedDay" "theSeed" "J") (by decide +kernel)) (fun _ h9 => h9) rfl dX6_years_40 ?_
            refine lv_bipush (v := 33) hx hb dX6_years_43 (by decide) ?_
            refine lv_lushr hx hb dX6_years_45 rfl ?_
            refine lv_ldc2 (v := 14) hx hb hown (hts (.constantLong RX6 237 14) (by decide +kernel)) dX6_years_46 ?_
            refine lv_lrem hx hb dX6_years_49 s_X6_years_1 ?_
            refine lv_l2i hx hb dX6_years_50 rfl ?_
            refine lv_istore (lv' := [(4, .int ((((((w18_t_theSeed * 6364136223846793005) + 1442695040888963407).toUInt64 >>> ((33 : Int32).toInt64.toUInt64 &&& Int64.toUInt64 63)).toInt64) - ((((w18_t_theSeed * 6364136223846793005) + 1442695040888963407).toUInt64 >>> ((33 : Int32).toInt64.toUInt64 &&& Int64.toUInt64 63)).toInt64) / 14 * 14).toInt32)), (0, .ref a_t), (1, .int x1), (2, .int x18_2), (3, .int x18_3)]) hx hb dX6_years_51 hl (by decide) rfl (fun ls hl => ?_)
            refine lv_iload_n hx hb dX6_years_53 rfl (lv_at hl 3 rfl) ?_
            refine lv_aload_n hx hb dX6_years_54 rfl (lv_at hl 1 rfl) ?_
            refine lv_iload hx hb dX6_years_55 (lv_at hl 0 rfl) ?_
            refine pcV (As := [.int ((((((w18_t_theSeed * 6364136223846793005) + 1442695040888963407).toUInt64 >>> ((33 : Int32).toInt64.toUInt64 &&& Int64.toUInt64 63)).toInt64) - ((((w18_t_theSeed * 6364136223846793005) + 1442695040888963407).toUInt64 >>> ((33 : Int32).toInt64.toUInt64 &&& Int64.toUInt64 63)).toInt64) / 14 * 14).toInt32)]) (rest := [.int x18_2]) ⟨hx, hb, hml, hown, hts⟩ (c_X6_brokenAt l D cI cZ cO a_t a_t_text a_t_told a_t_draft a_t_now a_t_acts a_t_sightings a_t_sides a_t_kept v_t_keptSlots ((w18_t_theSeed * 6364136223846793005) + 1442695040888963407) a_t_told_sizes a_t_told_cells f_t_told_sizes f_t_told_cells v_t_now_place v_t_now_voided v_t_now_counted ((((((w18_t_theSeed * 6364136223846793005) + 1442695040888963407).toUInt64 >>> ((33 : Int32).toInt64.toUInt64 &&& Int64.toUInt64 63)).toInt64) - ((((w18_t_theSeed * 6364136223846793005) + 1442695040888963407).toUInt64 >>> ((33 : Int32).toInt64.toUInt64 &&& Int64.toUInt64 63)).toInt64) / 14 * 14).toInt32)) (cwV 1 hts gX6_years_X6_brokenAt rfl rfl rfl (by decide +kernel) ⟨Nat.le_of_ble_eq_true rfl, Nat.le_of_ble_eq_true rfl⟩) hKX hP [0, 1, 2, 3, 4] rfl 0 6 rfl rfl rfl rfl hl.1 rfl (Nat.le_of_ble_eq_true rfl) dX6_years_57 ⟨Nat.le_of_ble_eq_true rfl, Nat.le_of_ble_eq_true rfl⟩ ?_
            refine pcS (As := [.int (f_X6_brokenAt f_t_told_sizes f_t_told_cells v_t_now_voided v_t_now_counted ((((((w18_t_theSeed * 6364136223846793005) + 1442695040888963407).toUInt64 >>> ((33 : Int32).toInt64.toUInt64 &&& Int64.toUInt64 63)).toInt64) - ((((w18_t_theSeed * 6364136223846793005) + 1442695040888963407).toUInt64 >>> ((33 : Int32).toInt64.toUInt64 &&& Int64.toUInt64 63)).toInt64) / 14 * 14).toInt32))]) (rest := [.int x18_2]) ⟨hx, hb, hml, hown, hts⟩ (c_J6_bitCount_0f7a4 l D cI cZ cO (f_X6_brokenAt f_t_told_sizes f_t_told_cells v_t_now_voided v_t_now_counted ((((((w18_t_theSeed * 6364136223846793005) + 1442695040888963407).toUInt64 >>> ((33 : Int32).toInt64.toUInt64 &&& Int64.toUInt64 63)).toInt64) - ((((w18_t_theSeed * 6364136223846793005) + 1442695040888963407).toUInt64 >>> ((33 : Int32).toInt64.toUInt64 &&& Int64.toUInt64 63)).toInt64) / 14 * 14).toInt32))) (va_cwS 1 hts gX6_years_J6_bitCount_0f7a4 rfl rfl rfl (by decide +kernel) ⟨Nat.le_of_ble_eq_true rfl, Nat.le_of_ble_eq_true rfl⟩) hKX hP [] rfl rfl hl.1 rfl (Nat.le_of_ble_eq_true rfl) dX6_years_60 ⟨Nat.le_of_ble_eq_true rfl, Nat.le_of_ble_eq_true rfl⟩ ?_
            refine lv_iadd hx hb dX6_years_63 ?_
            refine lv_istore_n (lv' := [(2, .int (x18_2 + (f_J6_bitCount_0f7a4 (f_X6_brokenAt f_t_told_sizes f_t_told_cells v_t_now_voided v_t_now_counted ((((((w18_t_theSeed * 6364136223846793005) + 1442695040888963407).toUInt64 >>> ((33 : Int32).toInt64.toUInt64 &&& Int64.toUInt64 63)).toInt64) - ((((w18_t_theSeed * 6364136223846793005) + 1442695040888963407).toUInt64 >>> ((33 : Int32).toInt64.toUInt64 &&& Int64.toUInt64 63)).toInt64) / 14 * 14).toInt32))))), (4, .int ((((((w18_t_theSeed * 6364136223846793005) + 1442695040888963407).toUInt64 >>> ((33 : Int32).toInt64.toUInt64 &&& Int64.toUInt64 63)).toInt64) - ((((w18_t_theSeed * 6364136223846793005) + 1442695040888963407).toUInt64 >>> ((33 : Int32).toInt64.toUInt64 &&& Int64.toUInt64 63)).toInt64) / 14 * 14).toInt32)), (0, .ref a_t), (1, .int x1), (3, .int x18_3)]) hx hb dX6_years_64 rfl hl (by decide) rfl (fun ls hl => ?_)
            refine lv_iinc (v := x18_3 + 1) (lv' := [(3, .int (x18_3 + 1)), (2, .int (x18_2 + (f_J6_bitCount_0f7a4 (f_X6_brokenAt f_t_told_sizes f_t_told_cells v_t_now_voided v_t_now_counted ((((((w18_t_theSeed * 6364136223846793005) + 1442695040888963407).toUInt64 >>> ((33 : Int32).toInt64.toUInt64 &&& Int64.toUInt64 63)).toInt64) - ((((w18_t_theSeed * 6364136223846793005) + 1442695040888963407).toUInt64 >>> ((33 : Int32).toInt64.toUInt64 &&& Int64.toUInt64 63)).toInt64) / 14 * 14).toInt32))))), (4, .int ((((((w18_t_theSeed * 6364136223846793005) + 1442695040888963407).toUInt64 >>> ((33 : Int32).toInt64.toUInt64 &&& Int64.toUInt64 63)).toInt64) - ((((w18_t_theSeed * 6364136223846793005) + 1442695040888963407).toUInt64 >>> ((33 : Int32).toInt64.toUInt64 &&& Int64.toUInt64 63)).toInt64) / 14 * 14).toInt32)), (0, .ref a_t), (1, .int x1)]) hx hb dX6_years_65 hl (k := 4) rfl rfl (by decide) rfl (fun ls hl => ?_)
            refine lv_goto (tgt := 18) hx hb dX6_years_68 (by decide) ?_
            exact ih18 (x18_2 + (f_J6_bitCount_0f7a4 (f_X6_brokenAt f_t_told_sizes f_t_told_cells v_t_now_voided v_t_now_counted ((((((w18_t_theSeed * 6364136223846793005) + 1442695040888963407).toUInt64 >>> ((33 : Int32).toInt64.toUInt64 &&& Int64.toUInt64 63)).toInt64) - ((((w18_t_theSeed * 6364136223846793005) + 1442695040888963407).toUInt64 >>> ((33 : Int32).toInt64.toUInt64 &&& Int64.toUInt64 63)).toInt64) / 14 * 14).toInt32)))) (x18_3 + 1) ((w18_t_theSeed * 6364136223846793005) + 1442695040888963407) hf (mu_up c_20 hm18) (s_X6_years_2 x1 x18_3 c_2 c_8 hi18_0 c_20) _ _ (hP.sub [0, 1, 2, 3, 4] rfl) (hD.sub [0, 1, 2, 3, 4] (by decide) rfl) hS _ (lv_sub hl [3, 4, 1, 0] rfl)
      exact hJ_18 _ 0 0 v_t_theSeed hf (Nat.lt_succ_self _) s_X6_years_3 _ _ (hP.sub [0, 1, 2, 3, 4] rfl) (hD.sub [0, 1, 2, 3, 4] (by decide) rfl) hS _ (lv_sub hl [2, 3, 1, 0] rfl)
    · replace hf := hf.trans (if_neg c_8)
      refine lv_bipush (v := (-2)) hx hb dX6_years_11 (by decide) ?_
      exact W.iret (v := (-2)) hx hb hr (fun t ht hW => ⟨⟨(-2), (v_t_theSeed), rfl, hf.symm, by rw [ht]; exact hP.sub [0, 1, 2, 3, 4] rfl, hD.sub [0, 1, 2, 3, 4] (by decide) rfl⟩, hS.F ht⟩) hS.2.2 dX6_years_13

def f_X6_brokenNow (f_t_told_sizes : Nat → Int32) (f_t_told_cells : Nat → Int32) (v_t_now_place : Int32) (v_t_now_voided : Int32) (v_t_now_counted : Int32) : Int32 :=
  f_J6_bitCount_0f7a4 (f_X6_brokenAt f_t_told_sizes f_t_told_cells v_t_now_voided v_t_now_counted v_t_now_place)
set_option maxHeartbeats 4000000 in
set_option maxRecDepth 100000 in
theorem c_X6_brokenNow (l : Launch) (D : va_G) (cI cZ cO : ClassId) (a_t : Nat) (a_t_text : Nat) (a_t_told : Nat) (a_t_draft : Nat) (a_t_now : Nat) (a_t_acts : Nat) (a_t_sightings : Nat) (a_t_sides : Nat) (a_t_kept : Nat) (v_t_keptSlots : Int32) (v_t_theSeed : Int64) (a_t_told_sizes : Nat) (a_t_told_cells : Nat) (f_t_told_sizes : Nat → Int32) (f_t_told_cells : Nat → Int32) (v_t_now_place : Int32) (v_t_now_voided : Int32) (v_t_now_counted : Int32) : Met l yX6_brokenNow wsX6_brokenNow ({ frames := 6, cells := 0, slots := 0, locals := 138 }) (PcP D (tysG cI cZ cO) [.ref a_t] [(a_t, .inr (6, [.ref a_t_text, .ref a_t_told, .ref a_t_draft, .ref a_t_now, .ref a_t_acts, .ref a_t_sightings, .ref a_t_sides, .ref a_t_kept, .int v_t_keptSlots, .long v_t_theSeed])), (a_t_told, .inr (5, [.ref a_t_told_sizes, .ref a_t_told_cells])), (a_t_told_sizes, .inl (cI, 4, .inl f_t_told_sizes)), (a_t_told_cells, .inl (cI, 120, .inl f_t_told_cells)), (a_t_now, .inr (3, [.int v_t_now_place, .int v_t_now_voided, .int v_t_now_counted]))]) (QP (.int (f_X6_brokenNow f_t_told_sizes f_t_told_cells v_t_now_place v_t_now_voided v_t_now_counted))) 0 0 (fun _ => False) := by
  refine Met.ofW (cc := cX6_brokenNow) (maxL := 1) (ret := (some .int)) (by decide) rfl ?_
  intro p e s m args below meth c s₁ B hml hv
  obtain ⟨rfl, hP, hKX⟩ := hv
  have hx := B.exec
  have hb := B.bytes
  have hr := B.returns
  have hts := atoms_spec (ws := wsX6_brokenNow) B.pre
  have hown : s.vm.findClass RX6 = some m.cls := findClass_of_methodNamed B.named
  have hlocks := B.notSynchronized
  have hK := hKX.1
  have hwX3 : ∀ w ∈ wsX30, w ∈ wsX6_brokenNow := by decide +kernel
  have hwX6 : ∀ w ∈ wsX60, w ∈ wsX6_brokenNow := by decide +kernel
  have hl := lv_entry ([.ref a_t]) (n := 1) (Nat.le_of_ble_eq_true rfl)
  rw [lg_entry_eq]
  generalize (lg_sl ([.ref a_t]) ++ List.replicate (1 - (lg_sl ([.ref a_t])).length) Slot.unset).toArray = ls at hl ⊢
  have hl : lv_has ls 1 [(0, .ref a_t)] := hl
  have hf := f_X6_brokenNow.eq_1 f_t_told_sizes f_t_told_cells v_t_now_place v_t_now_voided v_t_now_counted
  refine lv_aload_n hx hb dX6_brokenNow_0 rfl (lv_at hl 0 rfl) ?_
  refine lv_aload_n hx hb dX6_brokenNow_1 rfl (lv_at hl 0 rfl) ?_
  refine va_get (D := D) (ci := 6) (v := .ref a_t_now) (C := RX6) (T := TX6) (N := 10) hx hb hts hwX6 hown hK hP 0 rfl rfl 3 (by decide) (hts (.fieldLink RX6 29 "SkippedDay" "now" "LSkippedDay$Standing;") (by decide +kernel)) (fun _ h9 => h9) rfl dX6_brokenNow_2 ?_
  refine va_getN (host := RX6) (D := D) (ci := 3) (v := .int v_t_now_place) (C := RX3) (T := TX3) (N := 3) hx hb hts hwX3 hown hK hP 4 rfl rfl 0 (by decide) (va_Nw.use rfl hKX.2.1) (fun _ h9 => h9) rfl dX6_brokenNow_5 ?_
  refine pcV (As := [.int v_t_now_place]) (rest := []) ⟨hx, hb, hml, hown, hts⟩ (c_X6_brokenAt l D cI cZ cO a_t a_t_text a_t_told a_t_draft a_t_now a_t_acts a_t_sightings a_t_sides a_t_kept v_t_keptSlots v_t_theSeed a_t_told_sizes a_t_told_cells f_t_told_sizes f_t_told_cells v_t_now_place v_t_now_voided v_t_now_counted v_t_now_place) (cwV 1 hts gX6_brokenNow_X6_brokenAt rfl rfl rfl (by decide +kernel) ⟨Nat.le_of_ble_eq_true rfl, Nat.le_of_ble_eq_true rfl⟩) hKX hP [0, 1, 2, 3, 4] rfl 0 6 rfl rfl rfl rfl hl.1 rfl (Nat.le_of_ble_eq_true rfl) dX6_brokenNow_8 ⟨Nat.le_of_ble_eq_true rfl, Nat.le_of_ble_eq_true rfl⟩ ?_
  refine pcS (As := [.int (f_X6_brokenAt f_t_told_sizes f_t_told_cells v_t_now_voided v_t_now_counted v_t_now_place)]) (rest := []) ⟨hx, hb, hml, hown, hts⟩ (c_J6_bitCount_0f7a4 l D cI cZ cO (f_X6_brokenAt f_t_told_sizes f_t_told_cells v_t_now_voided v_t_now_counted v_t_now_place)) (va_cwS 1 hts gX6_brokenNow_J6_bitCount_0f7a4 rfl rfl rfl (by decide +kernel) ⟨Nat.le_of_ble_eq_true rfl, Nat.le_of_ble_eq_true rfl⟩) hKX hP [] rfl rfl hl.1 rfl (Nat.le_of_ble_eq_true rfl) dX6_brokenNow_11 ⟨Nat.le_of_ble_eq_true rfl, Nat.le_of_ble_eq_true rfl⟩ ?_
  exact W.iret (v := f_J6_bitCount_0f7a4 (f_X6_brokenAt f_t_told_sizes f_t_told_cells v_t_now_voided v_t_now_counted v_t_now_place)) hx hb hr (fun t ht hW => ⟨congrArg (fun z => Outcome.returned (some (Value.int z))) hf.symm, ht⟩) (fun _ h => absurd h List.not_mem_nil) dX6_brokenNow_14

def f_X6_keep (v_t_keptSlots : Int32) (f_t_told_sizes : Nat → Int32) (f_t_told_cells : Nat → Int32) (v_t_now_place : Int32) (v_t_now_voided : Int32) (v_t_now_counted : Int32) (v_t_kept0_place : Int32) (v_t_kept0_voided : Int32) (v_t_kept0_counted : Int32) (v_t_kept1_place : Int32) (v_t_kept1_voided : Int32) (v_t_kept1_counted : Int32) (x1 : Int32) : Int32 × Int32 × Int32 × Int32 × Int32 × Int32 × Int32 × Int32 :=
  if x1 < 0 then ((-1), v_t_keptSlots, v_t_kept0_place, v_t_kept0_voided, v_t_kept0_counted, v_t_kept1_place, v_t_kept1_voided, v_t_kept1_counted) else if x1 < 2 then if x1 = 0 then ap3 (f_X3_copyFrom v_t_now_place v_t_now_voided v_t_now_counted) (fun u21_t_kept0_place u21_t_kept0_voided u21_t_kept0_counted => (f_X6_brokenNow f_t_told_sizes f_t_told_cells v_t_now_place v_t_now_voided v_t_now_counted, v_t_keptSlots ||| (1 <<< (x1 &&& 31)), u21_t_kept0_place, u21_t_kept0_voided, u21_t_kept0_counted, v_t_kept1_place, v_t_kept1_voided, v_t_kept1_counted)) else ap3 (f_X3_copyFrom v_t_now_place v_t_now_voided v_t_now_counted) (fun u21_t_kept1_place u21_t_kept1_voided u21_t_kept1_counted => (f_X6_brokenNow f_t_told_sizes f_t_told_cells v_t_now_place v_t_now_voided v_t_now_counted, v_t_keptSlots ||| (1 <<< (x1 &&& 31)), v_t_kept0_place, v_t_kept0_voided, v_t_kept0_counted, u21_t_kept1_place, u21_t_kept1_voided, u21_t_kept1_counted)) else ((-1), v_t_keptSlots, v_t_kept0_place, v_t_kept0_voided, v_t_kept0_counted, v_t_kept1_place, v_t_kept1_voided, v_t_kept1_counted)
/- in@16 -/ theorem s_X6_keep_1 (x1 : Int32) (c_1 : ¬ x1 < 0) (c_6 : x1 < 2) : vp_in x1 2 := vin (k := 2) (by grind) (by grind) (by decide)
/- ra@16 -/ theorem s_X6_keep_2 (x1 : Int32) (c_1 : ¬ x1 < 0) (c_6 : x1 < 2) (q_16 : ¬ x1 = 0) : x1 = 1 := by grind
set_option maxHeartbeats 4000000 in
set_option maxRecDepth 100000 in
theorem c_X6_keep (l : Launch) (D : va_G) (cI cZ cO : ClassId) (a_t : Nat) (a_t_text : Nat) (a_t_told : Nat) (a_t_draft : Nat) (a_t_now : Nat) (a_t_acts : Nat) (a_t_sightings : Nat) (a_t_sides : Nat) (a_t_kept : Nat) (v_t_keptSlots : Int32) (v_t_theSeed : Int64) (a_t_told_sizes : Nat) (a_t_told_cells : Nat) (f_t_told_sizes : Nat → Int32) (f_t_told_cells : Nat → Int32) (v_t_now_place : Int32) (v_t_now_voided : Int32) (v_t_now_counted : Int32) (a_t_kept0 : Nat) (a_t_kept1 : Nat) (v_t_kept0_place : Int32) (v_t_kept0_voided : Int32) (v_t_kept0_counted : Int32) (v_t_kept1_place : Int32) (v_t_kept1_voided : Int32) (v_t_kept1_counted : Int32) (x1 : Int32) (sz : Nat) : Met l yX6_keep wsX6_keep ({ frames := 7, cells := 0, slots := 0, locals := 158 }) (PcM D (tysG cI cZ cO) [.ref a_t, .int x1] sz [(a_t, .inr (6, [.ref a_t_text, .ref a_t_told, .ref a_t_draft, .ref a_t_now, .ref a_t_acts, .ref a_t_sightings, .ref a_t_sides, .ref a_t_kept, .int v_t_keptSlots, .long v_t_theSeed])), (a_t_told, .inr (5, [.ref a_t_told_sizes, .ref a_t_told_cells])), (a_t_told_sizes, .inl (cI, 4, .inl f_t_told_sizes)), (a_t_told_cells, .inl (cI, 120, .inl f_t_told_cells)), (a_t_now, .inr (3, [.int v_t_now_place, .int v_t_now_voided, .int v_t_now_counted])), (a_t_kept, .inl (cO, 2, .inr (.inr (.inr (.inr (vk2 a_t_kept0 a_t_kept1)))))), (a_t_kept0, .inr (3, [.int v_t_kept0_place, .int v_t_kept0_voided, .int v_t_kept0_counted])), (a_t_kept1, .inr (3, [.int v_t_kept1_place, .int v_t_kept1_voided, .int v_t_kept1_counted]))]) (va_Qi (fun (r : Int32) (u : Int32 × Int32 × Int32 × Int32 × Int32 × Int32 × Int32) => (r, u) = f_X6_keep v_t_keptSlots f_t_told_sizes f_t_told_cells v_t_now_place v_t_now_voided v_t_now_counted v_t_kept0_place v_t_kept0_voided v_t_kept0_counted v_t_kept1_place v_t_kept1_voided v_t_kept1_counted x1) (BM D (va_A [(a_t, .inr (6, [.ref a_t_text, .ref a_t_told, .ref a_t_draft, .ref a_t_now, .ref a_t_acts, .ref a_t_sightings, .ref a_t_sides, .ref a_t_kept, .int v_t_keptSlots, .long v_t_theSeed])), (a_t_told, .inr (5, [.ref a_t_told_sizes, .ref a_t_told_cells])), (a_t_told_sizes, .inl (cI, 4, .inl f_t_told_sizes)), (a_t_told_cells, .inl (cI, 120, .inl f_t_told_cells)), (a_t_now, .inr (3, [.int v_t_now_place, .int v_t_now_voided, .int v_t_now_counted])), (a_t_kept, .inl (cO, 2, .inr (.inr (.inr (.inr (vk2 a_t_kept0 a_t_kept1)))))), (a_t_kept0, .inr (3, [.int v_t_kept0_place, .int v_t_kept0_voided, .int v_t_kept0_counted])), (a_t_kept1, .inr (3, [.int v_t_kept1_place, .int v_t_kept1_voided, .int v_t_kept1_counted]))] sz) (fun u : Int32 × Int32 × Int32 × Int32 × Int32 × Int32 × Int32 => [(a_t, .inr (6, [.ref a_t_text, .ref a_t_told, .ref a_t_draft, .ref a_t_now, .ref a_t_acts, .ref a_t_sightings, .ref a_t_sides, .ref a_t_kept, .int u.1, .long v_t_theSeed])), (a_t_told, .inr (5, [.ref a_t_told_sizes, .ref a_t_told_cells])), (a_t_told_sizes, .inl (cI, 4, .inl f_t_told_sizes)), (a_t_told_cells, .inl (cI, 120, .inl f_t_told_cells)), (a_t_now, .inr (3, [.int v_t_now_place, .int v_t_now_voided, .int v_t_now_counted])), (a_t_kept, .inl (cO, 2, .inr (.inr (.inr (.inr (vk2 a_t_kept0 a_t_kept1)))))), (a_t_kept0, .inr (3, [.int u.2.1, .int u.2.2.1, .int u.2.2.2.1])), (a_t_kept1, .inr (3, [.int u.2.2.2.2.1, .int u.2.2.2.2.2.1, .int u.2.2.2.2.2.2]))])) (va_A [(a_t, .inr (6, [.ref a_t_text, .ref a_t_told, .ref a_t_draft, .ref a_t_now, .ref a_t_acts, .ref a_t_sightings, .ref a_t_sides, .ref a_t_kept, .int v_t_keptSlots, .long v_t_theSeed])), (a_t_told, .inr (5, [.ref a_t_told_sizes, .ref a_t_told_cells])), (a_t_told_sizes, .inl (cI, 4, .inl f_t_told_sizes)), (a_t_told_cells, .inl (cI, 120, .inl f_t_told_cells)), (a_t_now, .inr (3, [.int v_t_now_place, .int v_t_now_voided, .int v_t_now_counted])), (a_t_kept, .inl (cO, 2, .inr (.inr (.inr (.inr (vk2 a_t_kept0 a_t_kept1)))))), (a_t_kept0, .inr (3, [.int v_t_kept0_place, .int v_t_kept0_voided, .int v_t_kept0_counted])), (a_t_kept1, .inr (3, [.int v_t_kept1_place, .int v_t_kept1_voided, .int v_t_kept1_counted]))] sz)) 0 0 (va_A [(a_t, .inr (6, [.ref a_t_text, .ref a_t_told, .ref a_t_draft, .ref a_t_now, .ref a_t_acts, .ref a_t_sightings, .ref a_t_sides, .ref a_t_kept, .int v_t_keptSlots, .long v_t_theSeed])), (a_t_told, .inr (5, [.ref a_t_told_sizes, .ref a_t_told_cells])), (a_t_told_sizes, .inl (cI, 4, .inl f_t_told_sizes)), (a_t_told_cells, .inl (cI, 120, .inl f_t_told_cells)), (a_t_now, .inr (3, [.int v_t_now_place, .int v_t_now_voided, .int v_t_now_counted])), (a_t_kept, .inl (cO, 2, .inr (.inr (.inr (.inr (vk2 a_t_kept0 a_t_kept1)))))), (a_t_kept0, .inr (3, [.int v_t_kept0_place, .int v_t_kept0_voided, .int v_t_kept0_counted])), (a_t_kept1, .inr (3, [.int v_t_kept1_place, .int v_t_kept1_voided, .int v_t_kept1_counted]))] sz) := by
  refine Met.ofW (cc := cX6_keep) (maxL := 2) (ret := (some .int)) (by decide) rfl ?_
  intro p e s m args below meth c s₁ B hml hv
  obtain ⟨rfl, hsz, hP, hKX, hD0⟩ := hv
  have hx := B.exec
  have hb := B.bytes
  have hr := B.returns
  have hts := atoms_spec (ws := wsX6_keep) B.pre
  have hown : s.vm.findClass RX6 = some m.cls := findClass_of_methodNamed B.named
  have hlocks := B.notSynchronized
  have hK := hKX.1
  have hwX6 : ∀ w ∈ wsX60, w ∈ wsX6_keep := by decide +kernel
  subst hsz
  have hD := hD0.self (sz := s.heap.size)
  generalize hAe : va_A [(a_t, .inr (6, [.ref a_t_text, .ref a_t_told, .ref a_t_draft, .ref a_t_now, .ref a_t_acts, .ref a_t_sightings, .ref a_t_sides, .ref a_t_kept, .int v_t_keptSlots, .long v_t_theSeed])), (a_t_told, .inr (5, [.ref a_t_told_sizes, .ref a_t_told_cells])), (a_t_told_sizes, .inl (cI, 4, .inl f_t_told_sizes)), (a_t_told_cells, .inl (cI, 120, .inl f_t_told_cells)), (a_t_now, .inr (3, [.int v_t_now_place, .int v_t_now_voided, .int v_t_now_counted])), (a_t_kept, .inl (cO, 2, .inr (.inr (.inr (.inr (vk2 a_t_kept0 a_t_kept1)))))), (a_t_kept0, .inr (3, [.int v_t_kept0_place, .int v_t_kept0_voided, .int v_t_kept0_counted])), (a_t_kept1, .inr (3, [.int v_t_kept1_place, .int v_t_kept1_voided, .int v_t_kept1_counted]))] s.heap.size = A at hD ⊢
  have hA : ∀ q : Nat, s.heap.size ≤ q → A q := fun q h => by rw [← hAe]; exact Or.inr h
  have hS : va_S A s.heap s.heap [] := va_S.rf
  have hP : va_P D vwCl [(a_t, .inr (6, [.ref a_t_text, .ref a_t_told, .ref a_t_draft, .ref a_t_now, .ref a_t_acts, .ref a_t_sightings, .ref a_t_sides, .ref a_t_kept, .int v_t_keptSlots, .long v_t_theSeed])), (a_t_told, .inr (5, [.ref a_t_told_sizes, .ref a_t_told_cells])), (a_t_told_sizes, .inl (cI, 4, .inl f_t_told_sizes)), (a_t_told_cells, .inl (cI, 120, .inl f_t_told_cells)), (a_t_now, .inr (3, [.int v_t_now_place, .int v_t_now_voided, .int v_t_now_counted])), (a_t_kept, .inl (cO, 2, .inr (.inr (.inr (.inr (vk2 a_t_kept0 a_t_kept1)))))), (a_t_kept0, .inr (3, [.int v_t_kept0_place, .int v_t_kept0_voided, .int v_t_kept0_counted])), (a_t_kept1, .inr (3, [.int v_t_kept1_place, .int v_t_kept1_voided, .int v_t_kept1_counted]))] s.heap := hP
  have hl := lv_entry ([.ref a_t, .int x1]) (n := 2) (Nat.le_of_ble_eq_true rfl)
  rw [lg_entry_eq]
  generalize (lg_sl ([.ref a_t, .int x1]) ++ List.replicate (2 - (lg_sl ([.ref a_t, .int x1])).length) Slot.unset).toArray = ls at hl ⊢
  have hl : lv_has ls 2 [(0, .ref a_t), (1, .int x1)] := hl
  have hf := f_X6_keep.eq_1 v_t_keptSlots f_t_told_sizes f_t_told_cells v_t_now_place v_t_now_voided v_t_now_counted v_t_kept0_place v_t_kept0_voided v_t_kept0_counted v_t_kept1_place v_t_kept1_voided v_t_kept1_counted x1
  refine lv_iload_n hx hb dX6_keep_0 rfl (lv_at hl 1 rfl) ?_
  refine lv_if_lt (tgt := 9) hx hb dX6_keep_1 (by decide) (fun c_1 => ?_) (fun c_1 => ?_)
  · replace hf := hf.trans (if_pos c_1)
    refine lv_iconst (v := (-1)) hx hb dX6_keep_9 (by decide) ?_
    exact W.iret (v := (-1)) hx hb hr (fun t ht hW => ⟨⟨(-1), (v_t_keptSlots, v_t_kept0_place, v_t_kept0_voided, v_t_kept0_counted, v_t_kept1_place, v_t_kept1_voided, v_t_kept1_counted), rfl, hf.symm, by rw [ht]; exact hP.sub [0, 1, 2, 3, 4, 5, 6, 7] rfl, hD.sub [0, 1, 2, 3, 4, 5, 6, 7] (by decide) rfl⟩, hS.F ht⟩) hS.2.2 dX6_keep_10
  · replace hf := hf.trans (if_neg c_1)
    refine lv_iload_n hx hb dX6_keep_4 rfl (lv_at hl 1 rfl) ?_
    refine lv_iconst (v := 2) hx hb dX6_keep_5 (by decide) ?_
    refine lv_icmp_lt (tgt := 11) hx hb dX6_keep_6 (by decide) (fun c_6 => ?_) (fun c_6 => ?_)
    · replace hf := hf.trans (if_pos c_6)
      refine lv_aload_n hx hb dX6_keep_11 rfl (lv_at hl 0 rfl) ?_
      refine va_get (D := D) (ci := 6) (v := .ref a_t_kept) (C := RX6) (T := TX6) (N := 10) hx hb hts hwX6 hown hK hP 0 rfl rfl 7 (by decide) (hts (.fieldLink RX6 54 "SkippedDay" "kept" "[LSkippedDay$Standing;") (by decide +kernel)) (fun _ h9 => h9) rfl dX6_keep_12 ?_
      refine lv_iload_n hx hb dX6_keep_15 rfl (lv_at hl 1 rfl) ?_
      by_cases q_16 : x1 = 0
      · replace hf := hf.trans (if_pos q_16)
        refine va_aldq hx hb hK hP 5 2 rfl rfl (s_X6_keep_1 x1 c_1 c_6) dX6_keep_16 ?_
        refine W.eq (g2 := F0 m 17 ls [.ref a_t_kept0]) (by rw [q_16]; rfl) ?_
        refine lv_aload_n hx hb dX6_keep_17 rfl (lv_at hl 0 rfl) ?_
        refine va_get (D := D) (ci := 6) (v := .ref a_t_now) (C := RX6) (T := TX6) (N := 10) hx hb hts hwX6 hown hK hP 0 rfl rfl 3 (by decide) (hts (.fieldLink RX6 29 "SkippedDay" "now" "LSkippedDay$Standing;") (by decide +kernel)) (fun _ h9 => h9) rfl dX6_keep_18 ?_
        refine callMv (As := [.ref a_t_now]) (rest := []) (wr := [(a_t, .inr (6, [.ref a_t_text, .ref a_t_told, .ref a_t_draft, .ref a_t_now, .ref a_t_acts, .ref a_t_sightings, .ref a_t_sides, .ref a_t_kept, .int v_t_keptSlots, .long v_t_theSeed])), (a_t_told, .inr (5, [.ref a_t_told_sizes, .ref a_t_told_cells])), (a_t_told_sizes, .inl (cI, 4, .inl f_t_told_sizes)), (a_t_told_cells, .inl (cI, 120, .inl f_t_told_cells)), (a_t_kept, .inl (cO, 2, .inr (.inr (.inr (.inr (vk2 a_t_kept0 a_t_kept1)))))), (a_t_kept1, .inr (3, [.int v_t_kept1_place, .int v_t_kept1_voided, .int v_t_kept1_counted]))]) ⟨hx, hb, hml, hown, hts⟩ (c_X3_copyFrom l D cI cZ cO a_t_kept0 v_t_kept0_place v_t_kept0_voided v_t_kept0_counted a_t_now v_t_now_place v_t_now_voided v_t_now_counted s.heap.size) (cwV 1 hts gX6_keep_X3_copyFrom rfl rfl rfl (by decide +kernel) ⟨Nat.le_of_ble_eq_true rfl, Nat.le_of_ble_eq_true rfl⟩) hKX hP hD hS hA [6, 4] [0, 1, 2, 3, 5, 7] rfl rfl (by decide) (by decide) (by decide) 6 3 rfl rfl rfl rfl hl.1 rfl (Nat.le_of_ble_eq_true rfl) dX6_keep_21 ⟨Nat.le_of_ble_eq_true rfl, Nat.le_of_ble_eq_true rfl⟩ (fun u H locs hc21 hP hD hS => ?_)
        obtain ⟨u21_t_kept0_place, u21_t_kept0_voided, u21_t_kept0_counted⟩ := u
        have hP : va_P D vwCl [(a_t, .inr (6, [.ref a_t_text, .ref a_t_told, .ref a_t_draft, .ref a_t_now, .ref a_t_acts, .ref a_t_sightings, .ref a_t_sides, .ref a_t_kept, .int v_t_keptSlots, .long v_t_theSeed])), (a_t_told, .inr (5, [.ref a_t_told_sizes, .ref a_t_told_cells])), (a_t_told_sizes, .inl (cI, 4, .inl f_t_told_sizes)), (a_t_told_cells, .inl (cI, 120, .inl f_t_told_cells)), (a_t_kept, .inl (cO, 2, .inr (.inr (.inr (.inr (vk2 a_t_kept0 a_t_kept1)))))), (a_t_kept1, .inr (3, [.int v_t_kept1_place, .int v_t_kept1_voided, .int v_t_kept1_counted])), (a_t_kept0, .inr (3, [.int u21_t_kept0_place, .int u21_t_kept0_voided, .int u21_t_kept0_counted])), (a_t_now, .inr (3, [.int v_t_now_place, .int v_t_now_voided, .int v_t_now_counted]))] H := hP
        have hD : va_D A [(a_t, .inr (6, [.ref a_t_text, .ref a_t_told, .ref a_t_draft, .ref a_t_now, .ref a_t_acts, .ref a_t_sightings, .ref a_t_sides, .ref a_t_kept, .int v_t_keptSlots, .long v_t_theSeed])), (a_t_told, .inr (5, [.ref a_t_told_sizes, .ref a_t_told_cells])), (a_t_told_sizes, .inl (cI, 4, .inl f_t_told_sizes)), (a_t_told_cells, .inl (cI, 120, .inl f_t_told_cells)), (a_t_kept, .inl (cO, 2, .inr (.inr (.inr (.inr (vk2 a_t_kept0 a_t_kept1)))))), (a_t_kept1, .inr (3, [.int v_t_kept1_place, .int v_t_kept1_voided, .int v_t_kept1_counted])), (a_t_kept0, .inr (3, [.int u21_t_kept0_place, .int u21_t_kept0_voided, .int u21_t_kept0_counted])), (a_t_now, .inr (3, [.int v_t_now_place, .int v_t_now_voided, .int v_t_now_counted]))] := hD
        replace hf := hf.trans (ap3_g hc21)
        refine lv_aload_n hx hb dX6_keep_24 rfl (lv_at hl 0 rfl) ?_
        refine lv_dup hx hb dX6_keep_25 rfl ?_
        refine va_get (D := D) (ci := 6) (v := .int v_t_keptSlots) (C := RX6) (T := TX6) (N := 10) hx hb hts hwX6 hown hK hP 0 rfl rfl 8 (by decide) (hts (.fieldLink RX6 58 "SkippedDay" "keptSlots" "I") (by decide +kernel)) (fun _ h9 => h9) rfl dX6_keep_26 ?_
        refine lv_iconst (v := 1) hx hb dX6_keep_29 (by decide) ?_
        refine lv_iload_n hx hb dX6_keep_30 rfl (lv_at hl 1 rfl) ?_
        refine lv_ishl hx hb dX6_keep_31 ?_
        refine lv_ior hx hb dX6_keep_32 ?_
        refine va_put (D := D) (ci := 6) (v := .int (v_t_keptSlots ||| (1 <<< (x1 &&& 31)))) (ty := .int) (C := RX6) (T := TX6) (N := 10) hx hb hts hwX6 tyX6 tyX6_ok nmX6 hown hK hP hD hS 0 rfl rfl 8 (by decide) (hts (.fieldLink RX6 58 "SkippedDay" "keptSlots" "I") (by decide +kernel)) (fun _ h9 => h9) rfl (by decide +kernel) rfl rfl (Nat.le_of_ble_eq_true rfl) dX6_keep_33 (fun H locs hP hD hS => ?_)
        have hP : va_P D vwCl [(a_t, .inr (6, [.ref a_t_text, .ref a_t_told, .ref a_t_draft, .ref a_t_now, .ref a_t_acts, .ref a_t_sightings, .ref a_t_sides, .ref a_t_kept, .int (v_t_keptSlots ||| (1 <<< (x1 &&& 31))), .long v_t_theSeed])), (a_t_told, .inr (5, [.ref a_t_told_sizes, .ref a_t_told_cells])), (a_t_told_sizes, .inl (cI, 4, .inl f_t_told_sizes)), (a_t_told_cells, .inl (cI, 120, .inl f_t_told_cells)), (a_t_kept, .inl (cO, 2, .inr (.inr (.inr (.inr (vk2 a_t_kept0 a_t_kept1)))))), (a_t_kept1, .inr (3, [.int v_t_kept1_place, .int v_t_kept1_voided, .int v_t_kept1_counted])), (a_t_kept0, .inr (3, [.int u21_t_kept0_place, .int u21_t_kept0_voided, .int u21_t_kept0_counted])), (a_t_now, .inr (3, [.int v_t_now_place, .int v_t_now_voided, .int v_t_now_counted]))] H := hP
        have hD : va_D A [(a_t, .inr (6, [.ref a_t_text, .ref a_t_told, .ref a_t_draft, .ref a_t_now, .ref a_t_acts, .ref a_t_sightings, .ref a_t_sides, .ref a_t_kept, .int (v_t_keptSlots ||| (1 <<< (x1 &&& 31))), .long v_t_theSeed])), (a_t_told, .inr (5, [.ref a_t_told_sizes, .ref a_t_told_cells])), (a_t_told_sizes, .inl (cI, 4, .inl f_t_told_sizes)), (a_t_told_cells, .inl (cI, 120, .inl f_t_told_cells)), (a_t_kept, .inl (cO, 2, .inr (.inr (.inr (.inr (vk2 a_t_kept0 a_t_kept1)))))), (a_t_kept1, .inr (3, [.int v_t_kept1_place, .int v_t_kept1_voided, .int v_t_kept1_counted])), (a_t_kept0, .inr (3, [.int u21_t_kept0_place, .int u21_t_kept0_voided, .int u21_t_kept0_counted])), (a_t_now, .inr (3, [.int v_t_now_place, .int v_t_now_voided, .int v_t_now_counted]))] := hD
        refine lv_aload_n hx hb dX6_keep_36 rfl (lv_at hl 0 rfl) ?_
        refine pcV (As := []) (rest := []) ⟨hx, hb, hml, hown, hts⟩ (c_X6_brokenNow l D cI cZ cO a_t a_t_text a_t_told a_t_draft a_t_now a_t_acts a_t_sightings a_t_sides a_t_kept (v_t_keptSlots ||| (1 <<< (x1 &&& 31))) v_t_theSeed a_t_told_sizes a_t_told_cells f_t_told_sizes f_t_told_cells v_t_now_place v_t_now_voided v_t_now_counted) (cwV 0 hts gX6_keep_X6_brokenNow rfl rfl rfl (by decide +kernel) ⟨Nat.le_of_ble_eq_true rfl, Nat.le_of_ble_eq_true rfl⟩) hKX hP [0, 1, 2, 3, 7] rfl 0 6 rfl rfl rfl rfl hl.1 rfl (Nat.le_of_ble_eq_true rfl) dX6_keep_37 ⟨Nat.le_of_ble_eq_true rfl, Nat.le_of_ble_eq_true rfl⟩ ?_
        exact W.iret (v := f_X6_brokenNow f_t_told_sizes f_t_told_cells v_t_now_place v_t_now_voided v_t_now_counted) hx hb hr (fun t ht hW => ⟨⟨f_X6_brokenNow f_t_told_sizes f_t_told_cells v_t_now_place v_t_now_voided v_t_now_counted, (v_t_keptSlots ||| (1 <<< (x1 &&& 31)), u21_t_kept0_place, u21_t_kept0_voided, u21_t_kept0_counted, v_t_kept1_place, v_t_kept1_voided, v_t_kept1_counted), rfl, hf.symm, by rw [ht]; exact hP.sub [0, 1, 2, 3, 7, 4, 6, 5] rfl, hD.sub [0, 1, 2, 3, 7, 4, 6, 5] (by decide) rfl⟩, hS.F ht⟩) hS.2.2 dX6_keep_40
      · replace hf := hf.trans (if_neg q_16)
        refine va_aldq hx hb hK hP 5 2 rfl rfl (s_X6_keep_1 x1 c_1 c_6) dX6_keep_16 ?_
        refine W.eq (g2 := F0 m 17 ls [.ref a_t_kept1]) (by rw [(s_X6_keep_2 x1 c_1 c_6 q_16)]; rfl) ?_
        refine lv_aload_n hx hb dX6_keep_17 rfl (lv_at hl 0 rfl) ?_
        refine va_get (D := D) (ci := 6) (v := .ref a_t_now) (C := RX6) (T := TX6) (N := 10) hx hb hts hwX6 hown hK hP 0 rfl rfl 3 (by decide) (hts (.fieldLink RX6 29 "SkippedDay" "now" "LSkippedDay$Standing;") (by decide +kernel)) (fun _ h9 => h9) rfl dX6_keep_18 ?_
        refine callMv (As := [.ref a_t_now]) (rest := []) (wr := [(a_t, .inr (6, [.ref a_t_text, .ref a_t_told, .ref a_t_draft, .ref a_t_now, .ref a_t_acts, .ref a_t_sightings, .ref a_t_sides, .ref a_t_kept, .int v_t_keptSlots, .long v_t_theSeed])), (a_t_told, .inr (5, [.ref a_t_told_sizes, .ref a_t_told_cells])), (a_t_told_sizes, .inl (cI, 4, .inl f_t_told_sizes)), (a_t_told_cells, .inl (cI, 120, .inl f_t_told_cells)), (a_t_kept, .inl (cO, 2, .inr (.inr (.inr (.inr (vk2 a_t_kept0 a_t_kept1)))))), (a_t_kept0, .inr (3, [.int v_t_kept0_place, .int v_t_kept0_voided, .int v_t_kept0_counted]))]) ⟨hx, hb, hml, hown, hts⟩ (c_X3_copyFrom l D cI cZ cO a_t_kept1 v_t_kept1_place v_t_kept1_voided v_t_kept1_counted a_t_now v_t_now_place v_t_now_voided v_t_now_counted s.heap.size) (cwV 1 hts gX6_keep_X3_copyFrom rfl rfl rfl (by decide +kernel) ⟨Nat.le_of_ble_eq_true rfl, Nat.le_of_ble_eq_true rfl⟩) hKX hP hD hS hA [7, 4] [0, 1, 2, 3, 5, 6] rfl rfl (by decide) (by decide) (by decide) 7 3 rfl rfl rfl rfl hl.1 rfl (Nat.le_of_ble_eq_true rfl) dX6_keep_21 ⟨Nat.le_of_ble_eq_true rfl, Nat.le_of_ble_eq_true rfl⟩ (fun u H locs hc21 hP hD hS => ?_)
        obtain ⟨u21_t_kept1_place, u21_t_kept1_voided, u21_t_kept1_counted⟩ := u
        have hP : va_P D vwCl [(a_t, .inr (6, [.ref a_t_text, .ref a_t_told, .ref a_t_draft, .ref a_t_now, .ref a_t_acts, .ref a_t_sightings, .ref a_t_sides, .ref a_t_kept, .int v_t_keptSlots, .long v_t_theSeed])), (a_t_told, .inr (5, [.ref a_t_told_sizes, .ref a_t_told_cells])), (a_t_told_sizes, .inl (cI, 4, .inl f_t_told_sizes)), (a_t_told_cells, .inl (cI, 120, .inl f_t_told_cells)), (a_t_kept, .inl (cO, 2, .inr (.inr (.inr (.inr (vk2 a_t_kept0 a_t_kept1)))))), (a_t_kept0, .inr (3, [.int v_t_kept0_place, .int v_t_kept0_voided, .int v_t_kept0_counted])), (a_t_kept1, .inr (3, [.int u21_t_kept1_place, .int u21_t_kept1_voided, .int u21_t_kept1_counted])), (a_t_now, .inr (3, [.int v_t_now_place, .int v_t_now_voided, .int v_t_now_counted]))] H := hP
        have hD : va_D A [(a_t, .inr (6, [.ref a_t_text, .ref a_t_told, .ref a_t_draft, .ref a_t_now, .ref a_t_acts, .ref a_t_sightings, .ref a_t_sides, .ref a_t_kept, .int v_t_keptSlots, .long v_t_theSeed])), (a_t_told, .inr (5, [.ref a_t_told_sizes, .ref a_t_told_cells])), (a_t_told_sizes, .inl (cI, 4, .inl f_t_told_sizes)), (a_t_told_cells, .inl (cI, 120, .inl f_t_told_cells)), (a_t_kept, .inl (cO, 2, .inr (.inr (.inr (.inr (vk2 a_t_kept0 a_t_kept1)))))), (a_t_kept0, .inr (3, [.int v_t_kept0_place, .int v_t_kept0_voided, .int v_t_kept0_counted])), (a_t_kept1, .inr (3, [.int u21_t_kept1_place, .int u21_t_kept1_voided, .int u21_t_kept1_counted])), (a_t_now, .inr (3, [.int v_t_now_place, .int v_t_now_voided, .int v_t_now_counted]))] := hD
        replace hf := hf.trans (ap3_g hc21)
        refine lv_aload_n hx hb dX6_keep_24 rfl (lv_at hl 0 rfl) ?_
        refine lv_dup hx hb dX6_keep_25 rfl ?_
        refine va_get (D := D) (ci := 6) (v := .int v_t_keptSlots) (C := RX6) (T := TX6) (N := 10) hx hb hts hwX6 hown hK hP 0 rfl rfl 8 (by decide) (hts (.fieldLink RX6 58 "SkippedDay" "keptSlots" "I") (by decide +kernel)) (fun _ h9 => h9) rfl dX6_keep_26 ?_
        refine lv_iconst (v := 1) hx hb dX6_keep_29 (by decide) ?_
        refine lv_iload_n hx hb dX6_keep_30 rfl (lv_at hl 1 rfl) ?_
        refine lv_ishl hx hb dX6_keep_31 ?_
        refine lv_ior hx hb dX6_keep_32 ?_
        refine va_put (D := D) (ci := 6) (v := .int (v_t_keptSlots ||| (1 <<< (x1 &&& 31)))) (ty := .int) (C := RX6) (T := TX6) (N := 10) hx hb hts hwX6 tyX6 tyX6_ok nmX6 hown hK hP hD hS 0 rfl rfl 8 (by decide) (hts (.fieldLink RX6 58 "SkippedDay" "keptSlots" "I") (by decide +kernel)) (fun _ h9 => h9) rfl (by decide +kernel) rfl rfl (Nat.le_of_ble_eq_true rfl) dX6_keep_33 (fun H locs hP hD hS => ?_)
        have hP : va_P D vwCl [(a_t, .inr (6, [.ref a_t_text, .ref a_t_told, .ref a_t_draft, .ref a_t_now, .ref a_t_acts, .ref a_t_sightings, .ref a_t_sides, .ref a_t_kept, .int (v_t_keptSlots ||| (1 <<< (x1 &&& 31))), .long v_t_theSeed])), (a_t_told, .inr (5, [.ref a_t_told_sizes, .ref a_t_told_cells])), (a_t_told_sizes, .inl (cI, 4, .inl f_t_told_sizes)), (a_t_told_cells, .inl (cI, 120, .inl f_t_told_cells)), (a_t_kept, .inl (cO, 2, .inr (.inr (.inr (.inr (vk2 a_t_kept0 a_t_kept1)))))), (a_t_kept0, .inr (3, [.int v_t_kept0_place, .int v_t_kept0_voided, .int v_t_kept0_counted])), (a_t_kept1, .inr (3, [.int u21_t_kept1_place, .int u21_t_kept1_voided, .int u21_t_kept1_counted])), (a_t_now, .inr (3, [.int v_t_now_place, .int v_t_now_voided, .int v_t_now_counted]))] H := hP
        have hD : va_D A [(a_t, .inr (6, [.ref a_t_text, .ref a_t_told, .ref a_t_draft, .ref a_t_now, .ref a_t_acts, .ref a_t_sightings, .ref a_t_sides, .ref a_t_kept, .int (v_t_keptSlots ||| (1 <<< (x1 &&& 31))), .long v_t_theSeed])), (a_t_told, .inr (5, [.ref a_t_told_sizes, .ref a_t_told_cells])), (a_t_told_sizes, .inl (cI, 4, .inl f_t_told_sizes)), (a_t_told_cells, .inl (cI, 120, .inl f_t_told_cells)), (a_t_kept, .inl (cO, 2, .inr (.inr (.inr (.inr (vk2 a_t_kept0 a_t_kept1)))))), (a_t_kept0, .inr (3, [.int v_t_kept0_place, .int v_t_kept0_voided, .int v_t_kept0_counted])), (a_t_kept1, .inr (3, [.int u21_t_kept1_place, .int u21_t_kept1_voided, .int u21_t_kept1_counted])), (a_t_now, .inr (3, [.int v_t_now_place, .int v_t_now_voided, .int v_t_now_counted]))] := hD
        refine lv_aload_n hx hb dX6_keep_36 rfl (lv_at hl 0 rfl) ?_
        refine pcV (As := []) (rest := []) ⟨hx, hb, hml, hown, hts⟩ (c_X6_brokenNow l D cI cZ cO a_t a_t_text a_t_told a_t_draft a_t_now a_t_acts a_t_sightings a_t_sides a_t_kept (v_t_keptSlots ||| (1 <<< (x1 &&& 31))) v_t_theSeed a_t_told_sizes a_t_told_cells f_t_told_sizes f_t_told_cells v_t_now_place v_t_now_voided v_t_now_counted) (cwV 0 hts gX6_keep_X6_brokenNow rfl rfl rfl (by decide +kernel) ⟨Nat.le_of_ble_eq_true rfl, Nat.le_of_ble_eq_true rfl⟩) hKX hP [0, 1, 2, 3, 7] rfl 0 6 rfl rfl rfl rfl hl.1 rfl (Nat.le_of_ble_eq_true rfl) dX6_keep_37 ⟨Nat.le_of_ble_eq_true rfl, Nat.le_of_ble_eq_true rfl⟩ ?_
        exact W.iret (v := f_X6_brokenNow f_t_told_sizes f_t_told_cells v_t_now_place v_t_now_voided v_t_now_counted) hx hb hr (fun t ht hW => ⟨⟨f_X6_brokenNow f_t_told_sizes f_t_told_cells v_t_now_place v_t_now_voided v_t_now_counted, (v_t_keptSlots ||| (1 <<< (x1 &&& 31)), v_t_kept0_place, v_t_kept0_voided, v_t_kept0_counted, u21_t_kept1_place, u21_t_kept1_voided, u21_t_kept1_counted), rfl, hf.symm, by rw [ht]; exact hP.sub [0, 1, 2, 3, 7, 4, 5, 6] rfl, hD.sub [0, 1, 2, 3, 7, 4, 5, 6] (by decide) rfl⟩, hS.F ht⟩) hS.2.2 dX6_keep_40
    · replace hf := hf.trans (if_neg c_6)
      refine lv_iconst (v := (-1)) hx hb dX6_keep_9 (by decide) ?_
      exact W.iret (v := (-1)) hx hb hr (fun t ht hW => ⟨⟨(-1), (v_t_keptSlots, v_t_kept0_place, v_t_kept0_voided, v_t_kept0_counted, v_t_kept1_place, v_t_kept1_voided, v_t_kept1_counted), rfl, hf.symm, by rw [ht]; exact hP.sub [0, 1, 2, 3, 4, 5, 6, 7] rfl, hD.sub [0, 1, 2, 3, 4, 5, 6, 7] (by decide) rfl⟩, hS.F ht⟩) hS.2.2 dX6_keep_10

def f_X6_again (v_t_keptSlots : Int32) (f_t_told_sizes : Nat → Int32) (f_t_told_cells : Nat → Int32) (v_t_now_place : Int32) (v_t_now_voided : Int32) (v_t_now_counted : Int32) (v_t_acts_size : Int32) (v_t_kept0_place : Int32) (v_t_kept0_voided : Int32) (v_t_kept0_counted : Int32) (v_t_kept1_place : Int32) (v_t_kept1_voided : Int32) (v_t_kept1_counted : Int32) (x1 : Int32) : Int32 × Int32 × Int32 × Int32 × Int32 :=
  if x1 < 0 then ((-1), v_t_now_place, v_t_now_voided, v_t_now_counted, v_t_acts_size) else if x1 < 2 then if ¬ ((v_t_keptSlots >>> (x1 &&& 31)) &&& 1) = 0 then if x1 = 0 then ap3 (f_X3_copyFrom v_t_kept0_place v_t_kept0_voided v_t_kept0_counted) (fun u35_t_now_place u35_t_now_voided u35_t_now_counted => ap1 (f_X0_clear) (fun u42_t_acts_size => (f_X6_brokenNow f_t_told_sizes f_t_told_cells u35_t_now_place u35_t_now_voided u35_t_now_counted, u35_t_now_place, u35_t_now_voided, u35_t_now_counted, u42_t_acts_size))) else ap3 (f_X3_copyFrom v_t_kept1_place v_t_kept1_voided v_t_kept1_counted) (fun u35_t_now_place u35_t_now_voided u35_t_now_counted => ap1 (f_X0_clear) (fun u42_t_acts_size => (f_X6_brokenNow f_t_told_sizes f_t_told_cells u35_t_now_place u35_t_now_voided u35_t_now_counted, u35_t_now_place, u35_t_now_voided, u35_t_now_counted, u42_t_acts_size))) else ((-3), v_t_now_place, v_t_now_voided, v_t_now_counted, v_t_acts_size) else ((-1), v_t_now_place, v_t_now_voided, v_t_now_counted, v_t_acts_size)
/- post0@10 -/ theorem s_X6_again_1 (v_t_acts_size : Int32) (hp0 : 0 ≤ v_t_acts_size) (hp1 : v_t_acts_size ≤ 14) : 0 ≤ v_t_acts_size := by grind
/- post1@10 -/ theorem s_X6_again_2 (v_t_acts_size : Int32) (hp0 : 0 ≤ v_t_acts_size) (hp1 : v_t_acts_size ≤ 14) : v_t_acts_size ≤ 14 := by grind
/- in@34 -/ theorem s_X6_again_3 (v_t_keptSlots : Int32) (x1 : Int32) (c_1 : ¬ x1 < 0) (c_6 : x1 < 2) (c_19 : ¬ ((v_t_keptSlots >>> (x1 &&& 31)) &&& 1) = 0) : vp_in x1 2 := vin (k := 2) (by grind) (by grind) (by decide)
/- hp0@42 -/ theorem s_X6_again_4 (v_t_acts_size : Int32) (hp0 : 0 ≤ v_t_acts_size) (hp1 : v_t_acts_size ≤ 14) : 0 ≤ v_t_acts_size := by grind
/- hp1@42 -/ theorem s_X6_again_5 (v_t_acts_size : Int32) (hp0 : 0 ≤ v_t_acts_size) (hp1 : v_t_acts_size ≤ 14) : v_t_acts_size ≤ 14 := by grind
/- post0@49 -/ theorem s_X6_again_6 (u42_t_acts_size : Int32) (hq42_0 : 0 ≤ u42_t_acts_size) (hq42_1 : u42_t_acts_size ≤ 14) : 0 ≤ u42_t_acts_size := by grind
/- post1@49 -/ theorem s_X6_again_7 (u42_t_acts_size : Int32) (hq42_0 : 0 ≤ u42_t_acts_size) (hq42_1 : u42_t_acts_size ≤ 14) : u42_t_acts_size ≤ 14 := by grind
/- ra@34 -/ theorem s_X6_again_8 (v_t_keptSlots : Int32) (x1 : Int32) (c_1 : ¬ x1 < 0) (c_6 : x1 < 2) (c_19 : ¬ ((v_t_keptSlots >>> (x1 &&& 31)) &&& 1) = 0) (q_34 : ¬ x1 = 0) : x1 = 1 := by grind
/- hp0@42 -/ theorem s_X6_again_9 (v_t_acts_size : Int32) (hp0 : 0 ≤ v_t_acts_size) (hp1 : v_t_acts_size ≤ 14) : 0 ≤ v_t_acts_size := by grind
/- hp1@42 -/ theorem s_X6_again_10 (v_t_acts_size : Int32) (hp0 : 0 ≤ v_t_acts_size) (hp1 : v_t_acts_size ≤ 14) : v_t_acts_size ≤ 14 := by grind
/- post0@49 -/ theorem s_X6_again_11 (u42_t_acts_size : Int32) (hq42_0 : 0 ≤ u42_t_acts_size) (hq42_1 : u42_t_acts_size ≤ 14) : 0 ≤ u42_t_acts_size := by grind
/- post1@49 -/ theorem s_X6_again_12 (u42_t_acts_size : Int32) (hq42_0 : 0 ≤ u42_t_acts_size) (hq42_1 : u42_t_acts_size ≤ 14) : u42_t_acts_size ≤ 14 := by grind
/- post0@24 -/ theorem s_X6_again_13 (v_t_acts_size : Int32) (hp0 : 0 ≤ v_t_acts_size) (hp1 : v_t_acts_size ≤ 14) : 0 ≤ v_t_acts_size := by grind
/- post1@24 -/ theorem s_X6_again_14 (v_t_acts_size : Int32) (hp0 : 0 ≤ v_t_acts_size) (hp1 : v_t_acts_size ≤ 14) : v_t_acts_size ≤ 14 := by grind
/- post0@10 -/ theorem s_X6_again_15 (v_t_acts_size : Int32) (hp0 : 0 ≤ v_t_acts_size) (hp1 : v_t_acts_size ≤ 14) : 0 ≤ v_t_acts_size := by grind
/- post1@10 -/ theorem s_X6_again_16 (v_t_acts_size : Int32) (hp0 : 0 ≤ v_t_acts_size) (hp1 : v_t_acts_size ≤ 14) : v_t_acts_size ≤ 14 := by grind
set_option maxHeartbeats 4000000 in
set_option maxRecDepth 100000 in
theorem c_X6_again (l : Launch) (D : va_G) (cI cZ cO : ClassId) (a_t : Nat) (a_t_text : Nat) (a_t_told : Nat) (a_t_draft : Nat) (a_t_now : Nat) (a_t_acts : Nat) (a_t_sightings : Nat) (a_t_sides : Nat) (a_t_kept : Nat) (v_t_keptSlots : Int32) (v_t_theSeed : Int64) (a_t_told_sizes : Nat) (a_t_told_cells : Nat) (f_t_told_sizes : Nat → Int32) (f_t_told_cells : Nat → Int32) (v_t_now_place : Int32) (v_t_now_voided : Int32) (v_t_now_counted : Int32) (a_t_acts_kinds : Nat) (a_t_acts_numbers : Nat) (v_t_acts_size : Int32) (a_t_kept0 : Nat) (a_t_kept1 : Nat) (v_t_kept0_place : Int32) (v_t_kept0_voided : Int32) (v_t_kept0_counted : Int32) (v_t_kept1_place : Int32) (v_t_kept1_voided : Int32) (v_t_kept1_counted : Int32) (x1 : Int32) (sz : Nat) (hp0 : 0 ≤ v_t_acts_size) (hp1 : v_t_acts_size ≤ 14) : Met l yX6_again wsX6_again ({ frames := 7, cells := 0, slots := 0, locals := 158 }) (PcM D (tysG cI cZ cO) [.ref a_t, .int x1] sz [(a_t, .inr (6, [.ref a_t_text, .ref a_t_told, .ref a_t_draft, .ref a_t_now, .ref a_t_acts, .ref a_t_sightings, .ref a_t_sides, .ref a_t_kept, .int v_t_keptSlots, .long v_t_theSeed])), (a_t_told, .inr (5, [.ref a_t_told_sizes, .ref a_t_told_cells])), (a_t_told_sizes, .inl (cI, 4, .inl f_t_told_sizes)), (a_t_told_cells, .inl (cI, 120, .inl f_t_told_cells)), (a_t_now, .inr (3, [.int v_t_now_place, .int v_t_now_voided, .int v_t_now_counted])), (a_t_acts, .inr (0, [.ref a_t_acts_kinds, .ref a_t_acts_numbers, .int v_t_acts_size])), (a_t_kept, .inl (cO, 2, .inr (.inr (.inr (.inr (vk2 a_t_kept0 a_t_kept1)))))), (a_t_kept0, .inr (3, [.int v_t_kept0_place, .int v_t_kept0_voided, .int v_t_kept0_counted])), (a_t_kept1, .inr (3, [.int v_t_kept1_place, .int v_t_kept1_voided, .int v_t_kept1_counted]))]) (va_Qi (fun (r : Int32) (u : Int32 × Int32 × Int32 × Int32) => (r, u) = f_X6_again v_t_keptSlots f_t_told_sizes f_t_told_cells v_t_now_place v_t_now_voided v_t_now_counted v_t_acts_size v_t_kept0_place v_t_kept0_voided v_t_kept0_counted v_t_kept1_place v_t_kept1_voided v_t_kept1_counted x1 ∧ (0 ≤ u.2.2.2) ∧ (u.2.2.2 ≤ 14)) (BM D (va_A [(a_t, .inr (6, [.ref a_t_text, .ref a_t_told, .ref a_t_draft, .ref a_t_now, .ref a_t_acts, .ref a_t_sightings, .ref a_t_sides, .ref a_t_kept, .int v_t_keptSlots, .long v_t_theSeed])), (a_t_told, .inr (5, [.ref a_t_told_sizes, .ref a_t_told_cells])), (a_t_told_sizes, .inl (cI, 4, .inl f_t_told_sizes)), (a_t_told_cells, .inl (cI, 120, .inl f_t_told_cells)), (a_t_now, .inr (3, [.int v_t_now_place, .int v_t_now_voided, .int v_t_now_counted])), (a_t_acts, .inr (0, [.ref a_t_acts_kinds, .ref a_t_acts_numbers, .int v_t_acts_size])), (a_t_kept, .inl (cO, 2, .inr (.inr (.inr (.inr (vk2 a_t_kept0 a_t_kept1)))))), (a_t_kept0, .inr (3, [.int v_t_kept0_place, .int v_t_kept0_voided, .int v_t_kept0_counted])), (a_t_kept1, .inr (3, [.int v_t_kept1_place, .int v_t_kept1_voided, .int v_t_kept1_counted]))] sz) (fun u : Int32 × Int32 × Int32 × Int32 => [(a_t, .inr (6, [.ref a_t_text, .ref a_t_told, .ref a_t_draft, .ref a_t_now, .ref a_t_acts, .ref a_t_sightings, .ref a_t_sides, .ref a_t_kept, .int v_t_keptSlots, .long v_t_theSeed])), (a_t_told, .inr (5, [.ref a_t_told_sizes, .ref a_t_told_cells])), (a_t_told_sizes, .inl (cI, 4, .inl f_t_told_sizes)), (a_t_told_cells, .inl (cI, 120, .inl f_t_told_cells)), (a_t_now, .inr (3, [.int u.1, .int u.2.1, .int u.2.2.1])), (a_t_acts, .inr (0, [.ref a_t_acts_kinds, .ref a_t_acts_numbers, .int u.2.2.2])), (a_t_kept, .inl (cO, 2, .inr (.inr (.inr (.inr (vk2 a_t_kept0 a_t_kept1)))))), (a_t_kept0, .inr (3, [.int v_t_kept0_place, .int v_t_kept0_voided, .int v_t_kept0_counted])), (a_t_kept1, .inr (3, [.int v_t_kept1_place, .int v_t_kept1_voided, .int v_t_kept1_counted]))])) (va_A [(a_t, .inr (6, [.ref a_t_text, .ref a_t_told, .ref a_t_draft, .ref a_t_now, .ref a_t_acts, .ref a_t_sightings, .ref a_t_sides, .ref a_t_kept, .int v_t_keptSlots, .long v_t_theSeed])), (a_t_told, .inr (5, [.ref a_t_told_sizes, .ref a_t_told_cells])), (a_t_told_sizes, .inl (cI, 4, .inl f_t_told_sizes)), (a_t_told_cells, .inl (cI, 120, .inl f_t_told_cells)), (a_t_now, .inr (3, [.int v_t_now_place, .int v_t_now_voided, .int v_t_now_counted])), (a_t_acts, .inr (0, [.ref a_t_acts_kinds, .ref a_t_acts_numbers, .int v_t_acts_size])), (a_t_kept, .inl (cO, 2, .inr (.inr (.inr (.inr (vk2 a_t_kept0 a_t_kept1)))))), (a_t_kept0, .inr (3, [.int v_t_kept0_place, .int v_t_kept0_voided, .int v_t_kept0_counted])), (a_t_kept1, .inr (3, [.int v_t_kept1_place, .int v_t_kept1_voided, .int v_t_kept1_counted]))] sz)) 0 0 (va_A [(a_t, .inr (6, [.ref a_t_text, .ref a_t_told, .ref a_t_draft, .ref a_t_now, .ref a_t_acts, .ref a_t_sightings, .ref a_t_sides, .ref a_t_kept, .int v_t_keptSlots, .long v_t_theSeed])), (a_t_told, .inr (5, [.ref a_t_told_sizes, .ref a_t_told_cells])), (a_t_told_sizes, .inl (cI, 4, .inl f_t_told_sizes)), (a_t_told_cells, .inl (cI, 120, .inl f_t_told_cells)), (a_t_now, .inr (3, [.int v_t_now_place, .int v_t_now_voided, .int v_t_now_counted])), (a_t_acts, .inr (0, [.ref a_t_acts_kinds, .ref a_t_acts_numbers, .int v_t_acts_size])), (a_t_kept, .inl (cO, 2, .inr (.inr (.inr (.inr (vk2 a_t_kept0 a_t_kept1)))))), (a_t_kept0, .inr (3, [.int v_t_kept0_place, .int v_t_kept0_voided, .int v_t_kept0_counted])), (a_t_kept1, .inr (3, [.int v_t_kept1_place, .int v_t_kept1_voided, .int v_t_kept1_counted]))] sz) := by
  refine Met.ofW (cc := cX6_again) (maxL := 2) (ret := (some .int)) (by decide) rfl ?_
  intro p e s m args below meth c s₁ B hml hv
  obtain ⟨rfl, hsz, hP, hKX, hD0⟩ := hv
  have hx := B.exec
  have hb := B.bytes
  have hr := B.returns
  have hts := atoms_spec (ws := wsX6_again) B.pre
  have hown : s.vm.findClass RX6 = some m.cls := findClass_of_methodNamed B.named
  have hlocks := B.notSynchronized
  have hK := hKX.1
  have hwX6 : ∀ w ∈ wsX60, w ∈ wsX6_again := by decide +kernel
  subst hsz
  have hD := hD0.self (sz := s.heap.size)
  generalize hAe : va_A [(a_t, .inr (6, [.ref a_t_text, .ref a_t_told, .ref a_t_draft, .ref a_t_now, .ref a_t_acts, .ref a_t_sightings, .ref a_t_sides, .ref a_t_kept, .int v_t_keptSlots, .long v_t_theSeed])), (a_t_told, .inr (5, [.ref a_t_told_sizes, .ref a_t_told_cells])), (a_t_told_sizes, .inl (cI, 4, .inl f_t_told_sizes)), (a_t_told_cells, .inl (cI, 120, .inl f_t_told_cells)), (a_t_now, .inr (3, [.int v_t_now_place, .int v_t_now_voided, .int v_t_now_counted])), (a_t_acts, .inr (0, [.ref a_t_acts_kinds, .ref a_t_acts_numbers, .int v_t_acts_size])), (a_t_kept, .inl (cO, 2, .inr (.inr (.inr (.inr (vk2 a_t_kept0 a_t_kept1)))))), (a_t_kept0, .inr (3, [.int v_t_kept0_place, .int v_t_kept0_voided, .int v_t_kept0_counted])), (a_t_kept1, .inr (3, [.int v_t_kept1_place, .int v_t_kept1_voided, .int v_t_kept1_counted]))] s.heap.size = A at hD ⊢
  have hA : ∀ q : Nat, s.heap.size ≤ q → A q := fun q h => by rw [← hAe]; exact Or.inr h
  have hS : va_S A s.heap s.heap [] := va_S.rf
  have hP : va_P D vwCl [(a_t, .inr (6, [.ref a_t_text, .ref a_t_told, .ref a_t_draft, .ref a_t_now, .ref a_t_acts, .ref a_t_sightings, .ref a_t_sides, .ref a_t_kept, .int v_t_keptSlots, .long v_t_theSeed])), (a_t_told, .inr (5, [.ref a_t_told_sizes, .ref a_t_told_cells])), (a_t_told_sizes, .inl (cI, 4, .inl f_t_told_sizes)), (a_t_told_cells, .inl (cI, 120, .inl f_t_told_cells)), (a_t_now, .inr (3, [.int v_t_now_place, .int v_t_now_voided, .int v_t_now_counted])), (a_t_acts, .inr (0, [.ref a_t_acts_kinds, .ref a_t_acts_numbers, .int v_t_acts_size])), (a_t_kept, .inl (cO, 2, .inr (.inr (.inr (.inr (vk2 a_t_kept0 a_t_kept1)))))), (a_t_kept0, .inr (3, [.int v_t_kept0_place, .int v_t_kept0_voided, .int v_t_kept0_counted])), (a_t_kept1, .inr (3, [.int v_t_kept1_place, .int v_t_kept1_voided, .int v_t_kept1_counted]))] s.heap := hP
  have hl := lv_entry ([.ref a_t, .int x1]) (n := 2) (Nat.le_of_ble_eq_true rfl)
  rw [lg_entry_eq]
  generalize (lg_sl ([.ref a_t, .int x1]) ++ List.replicate (2 - (lg_sl ([.ref a_t, .int x1])).length) Slot.unset).toArray = ls at hl ⊢
  have hl : lv_has ls 2 [(0, .ref a_t), (1, .int x1)] := hl
  have hf := f_X6_again.eq_1 v_t_keptSlots f_t_told_sizes f_t_told_cells v_t_now_place v_t_now_voided v_t_now_counted v_t_acts_size v_t_kept0_place v_t_kept0_voided v_t_kept0_counted v_t_kept1_place v_t_kept1_voided v_t_kept1_counted x1
  refine lv_iload_n hx hb dX6_again_0 rfl (lv_at hl 1 rfl) ?_
  refine lv_if_lt (tgt := 9) hx hb dX6_again_1 (by decide) (fun c_1 => ?_) (fun c_1 => ?_)
  · replace hf := hf.trans (if_pos c_1)
    refine lv_iconst (v := (-1)) hx hb dX6_again_9 (by decide) ?_
    exact W.iret (v := (-1)) hx hb hr (fun t ht hW => ⟨⟨(-1), (v_t_now_place, v_t_now_voided, v_t_now_counted, v_t_acts_size), rfl, ⟨hf.symm, (s_X6_again_1 v_t_acts_size hp0 hp1), (s_X6_again_2 v_t_acts_size hp0 hp1)⟩, by rw [ht]; exact hP.sub [0, 1, 2, 3, 4, 5, 6, 7, 8] rfl, hD.sub [0, 1, 2, 3, 4, 5, 6, 7, 8] (by decide) rfl⟩, hS.F ht⟩) hS.2.2 dX6_again_10
  · replace hf := hf.trans (if_neg c_1)
    refine lv_iload_n hx hb dX6_again_4 rfl (lv_at hl 1 rfl) ?_
    refine lv_iconst (v := 2) hx hb dX6_again_5 (by decide) ?_
    refine lv_icmp_lt (tgt := 11) hx hb dX6_again_6 (by decide) (fun c_6 => ?_) (fun c_6 => ?_)
    · replace hf := hf.trans (if_pos c_6)
      refine lv_aload_n hx hb dX6_again_11 rfl (lv_at hl 0 rfl) ?_
      refine va_get (D := D) (ci := 6) (v := .int v_t_keptSlots) (C := RX6) (T := TX6) (N := 10) hx hb hts hwX6 hown hK hP 0 rfl rfl 8 (by decide) (hts (.fieldLink RX6 58 "SkippedDay" "keptSlots" "I") (by decide +kernel)) (fun _ h9 => h9) rfl dX6_again_12 ?_
      refine lv_iload_n hx hb dX6_again_15 rfl (lv_at hl 1 rfl) ?_
      refine lv_ishr hx hb dX6_again_16 ?_
      refine lv_iconst (v := 1) hx hb dX6_again_17 (by decide) ?_
      refine lv_iand hx hb dX6_again_18 ?_
      refine lv_if_ne (tgt := 25) hx hb dX6_again_19 (by decide) (fun c_19 => ?_) (fun c_19 => ?_)
      · replace hf := hf.trans (if_pos c_19)
        refine lv_aload_n hx hb dX6_again_25 rfl (lv_at hl 0 rfl) ?_
        refine va_get (D := D) (ci := 6) (v := .ref a_t_now) (C := RX6) (T := TX6) (N := 10) hx hb hts hwX6 hown hK hP 0 rfl rfl 3 (by decide) (hts (.fieldLink RX6 29 "SkippedDay" "now" "LSkippedDay$Standing;") (by decide +kernel)) (fun _ h9 => h9) rfl dX6_again_26 ?_
        refine lv_aload_n hx hb dX6_again_29 rfl (lv_at hl 0 rfl) ?_
        refine va_get (D := D) (ci := 6) (v := .ref a_t_kept) (C := RX6) (T := TX6) (N := 10) hx hb hts hwX6 hown hK hP 0 rfl rfl 7 (by decide) (hts (.fieldLink RX6 54 "SkippedDay" "kept" "[LSkippedDay$Standing;") (by decide +kernel)) (fun _ h9 => h9) rfl dX6_again_30 ?_
        refine lv_iload_n hx hb dX6_again_33 rfl (lv_at hl 1 rfl) ?_
        by_cases q_34 : x1 = 0
        · replace hf := hf.trans (if_pos q_34)
          refine va_aldq hx hb hK hP 6 2 rfl rfl (s_X6_again_3 v_t_keptSlots x1 c_1 c_6 c_19) dX6_again_34 ?_
          refine W.eq (g2 := F0 m 35 ls [.ref a_t_kept0, .ref a_t_now]) (by rw [q_34]; rfl) ?_
          refine callMv (As := [.ref a_t_kept0]) (rest := []) (wr := [(a_t, .inr (6, [.ref a_t_text, .ref a_t_told, .ref a_t_draft, .ref a_t_now, .ref a_t_acts, .ref a_t_sightings, .ref a_t_sides, .ref a_t_kept, .int v_t_keptSlots, .long v_t_theSeed])), (a_t_told, .inr (5, [.ref a_t_told_sizes, .ref a_t_told_cells])), (a_t_told_sizes, .inl (cI, 4, .inl f_t_told_sizes)), (a_t_told_cells, .inl (cI, 120, .inl f_t_told_cells)), (a_t_acts, .inr (0, [.ref a_t_acts_kinds, .ref a_t_acts_numbers, .int v_t_acts_size])), (a_t_kept, .inl (cO, 2, .inr (.inr (.inr (.inr (vk2 a_t_kept0 a_t_kept1)))))), (a_t_kept1, .inr (3, [.int v_t_kept1_place, .int v_t_kept1_voided, .int v_t_kept1_counted]))]) ⟨hx, hb, hml, hown, hts⟩ (c_X3_copyFrom l D cI cZ cO a_t_now v_t_now_place v_t_now_voided v_t_now_counted a_t_kept0 v_t_kept0_place v_t_kept0_voided v_t_kept0_counted s.heap.size) (cwV 1 hts gX6_again_X3_copyFrom rfl rfl rfl (by decide +kernel) ⟨Nat.le_of_ble_eq_true rfl, Nat.le_of_ble_eq_true rfl⟩) hKX hP hD hS hA [4, 7] [0, 1, 2, 3, 5, 6, 8] rfl rfl (by decide) (by decide) (by decide) 4 3 rfl rfl rfl rfl hl.1 rfl (Nat.le_of_ble_eq_true rfl) dX6_again_35 ⟨Nat.le_of_ble_eq_true rfl, Nat.le_of_ble_eq_true rfl⟩ (fun u H locs hc35 hP hD hS => ?_)
          obtain ⟨u35_t_now_place, u35_t_now_voided, u35_t_now_counted⟩ := u
          have hP : va_P D vwCl [(a_t, .inr (6, [.ref a_t_text, .ref a_t_told, .ref a_t_draft, .ref a_t_now, .ref a_t_acts, .ref a_t_sightings, .ref a_t_sides, .ref a_t_kept, .int v_t_keptSlots, .long v_t_theSeed])), (a_t_told, .inr (5, [.ref a_t_told_sizes, .ref a_t_told_cells])), (a_t_told_sizes, .inl (cI, 4, .inl f_t_told_sizes)), (a_t_told_cells, .inl (cI, 120, .inl f_t_told_cells)), (a_t_acts, .inr (0, [.ref a_t_acts_kinds, .ref a_t_acts_numbers, .int v_t_acts_size])), (a_t_kept, .inl (cO, 2, .inr (.inr (.inr (.inr (vk2 a_t_kept0 a_t_kept1)))))), (a_t_kept1, .inr (3, [.int v_t_kept1_place, .int v_t_kept1_voided, .int v_t_kept1_counted])), (a_t_now, .inr (3, [.int u35_t_now_place, .int u35_t_now_voided, .int u35_t_now_counted])), (a_t_kept0, .inr (3, [.int v_t_kept0_place, .int v_t_kept0_voided, .int v_t_kept0_counted]))] H := hP
          have hD : va_D A [(a_t, .inr (6, [.ref a_t_text, .ref a_t_told, .ref a_t_draft, .ref a_t_now, .ref a_t_acts, .ref a_t_sightings, .ref a_t_sides, .ref a_t_kept, .int v_t_keptSlots, .long v_t_theSeed])), (a_t_told, .inr (5, [.ref a_t_told_sizes, .ref a_t_told_cells])), (a_t_told_sizes, .inl (cI, 4, .inl f_t_told_sizes)), (a_t_told_cells, .inl (cI, 120, .inl f_t_told_cells)), (a_t_acts, .inr (0, [.ref a_t_acts_kinds, .ref a_t_acts_numbers, .int v_t_acts_size])), (a_t_kept, .inl (cO, 2, .inr (.inr (.inr (.inr (vk2 a_t_kept0 a_t_kept1)))))), (a_t_kept1, .inr (3, [.int v_t_kept1_place, .int v_t_kept1_voided, .int v_t_kept1_counted])), (a_t_now, .inr (3, [.int u35_t_now_place, .int u35_t_now_voided, .int u35_t_now_counted])), (a_t_kept0, .inr (3, [.int v_t_kept0_place, .int v_t_kept0_voided, .int v_t_kept0_counted]))] := hD
          replace hf := hf.trans (ap3_g hc35)
          refine lv_aload_n hx hb dX6_again_38 rfl (lv_at hl 0 rfl) ?_
          refine va_get (D := D) (ci := 6) (v := .ref a_t_acts) (C := RX6) (T := TX6) (N := 10) hx hb hts hwX6 hown hK hP 0 rfl rfl 4 (by decide) (hts (.fieldLink RX6 36 "SkippedDay" "acts" "LSkippedDay$Acts;") (by decide +kernel)) (fun _ h9 => h9) rfl dX6_again_39 ?_
          refine callMv (As := []) (rest := []) (wr := [(a_t, .inr (6, [.ref a_t_text, .ref a_t_told, .ref a_t_draft, .ref a_t_now, .ref a_t_acts, .ref a_t_sightings, .ref a_t_sides, .ref a_t_kept, .int v_t_keptSlots, .long v_t_theSeed])), (a_t_told, .inr (5, [.ref a_t_told_sizes, .ref a_t_told_cells])), (a_t_told_sizes, .inl (cI, 4, .inl f_t_told_sizes)), (a_t_told_cells, .inl (cI, 120, .inl f_t_told_cells)), (a_t_kept, .inl (cO, 2, .inr (.inr (.inr (.inr (vk2 a_t_kept0 a_t_kept1)))))), (a_t_kept1, .inr (3, [.int v_t_kept1_place, .int v_t_kept1_voided, .int v_t_kept1_counted])), (a_t_now, .inr (3, [.int u35_t_now_place, .int u35_t_now_voided, .int u35_t_now_counted])), (a_t_kept0, .inr (3, [.int v_t_kept0_place, .int v_t_kept0_voided, .int v_t_kept0_counted]))]) ⟨hx, hb, hml, hown, hts⟩ (c_X0_clear l D cI cZ cO a_t_acts a_t_acts_kinds a_t_acts_numbers v_t_acts_size H.size (s_X6_again_4 v_t_acts_size hp0 hp1) (s_X6_again_5 v_t_acts_size hp0 hp1)) (cwV 0 hts gX6_again_X0_clear rfl rfl rfl (by decide +kernel) ⟨Nat.le_of_ble_eq_true rfl, Nat.le_of_ble_eq_true rfl⟩) hKX hP hD hS hA [4] [0, 1, 2, 3, 5, 6, 7, 8] rfl rfl (by decide) (by decide) (by decide) 4 0 rfl rfl rfl rfl hl.1 rfl (Nat.le_of_ble_eq_true rfl) dX6_again_42 ⟨Nat.le_of_ble_eq_true rfl, Nat.le_of_ble_eq_true rfl⟩ (fun u H locs hc42 hP hD hS => ?_)
          obtain ⟨u42_t_acts_size, rfl⟩ : ∃ z, z = u := ⟨_, rfl⟩
          have hP : va_P D vwCl [(a_t, .inr (6, [.ref a_t_text, .ref a_t_told, .ref a_t_draft, .ref a_t_now, .ref a_t_acts, .ref a_t_sightings, .ref a_t_sides, .ref a_t_kept, .int v_t_keptSlots, .long v_t_theSeed])), (a_t_told, .inr (5, [.ref a_t_told_sizes, .ref a_t_told_cells])), (a_t_told_sizes, .inl (cI, 4, .inl f_t_told_sizes)), (a_t_told_cells, .inl (cI, 120, .inl f_t_told_cells)), (a_t_kept, .inl (cO, 2, .inr (.inr (.inr (.inr (vk2 a_t_kept0 a_t_kept1)))))), (a_t_kept1, .inr (3, [.int v_t_kept1_place, .int v_t_kept1_voided, .int v_t_kept1_counted])), (a_t_now, .inr (3, [.int u35_t_now_place, .int u35_t_now_voided, .int u35_t_now_counted])), (a_t_kept0, .inr (3, [.int v_t_kept0_place, .int v_t_kept0_voided, .int v_t_kept0_counted])), (a_t_acts, .inr (0, [.ref a_t_acts_kinds, .ref a_t_acts_numbers, .int u42_t_acts_size]))] H := hP
          have hD : va_D A [(a_t, .inr (6, [.ref a_t_text, .ref a_t_told, .ref a_t_draft, .ref a_t_now, .ref a_t_acts, .ref a_t_sightings, .ref a_t_sides, .ref a_t_kept, .int v_t_keptSlots, .long v_t_theSeed])), (a_t_told, .inr (5, [.ref a_t_told_sizes, .ref a_t_told_cells])), (a_t_told_sizes, .inl (cI, 4, .inl f_t_told_sizes)), (a_t_told_cells, .inl (cI, 120, .inl f_t_told_cells)), (a_t_kept, .inl (cO, 2, .inr (.inr (.inr (.inr (vk2 a_t_kept0 a_t_kept1)))))), (a_t_kept1, .inr (3, [.int v_t_kept1_place, .int v_t_kept1_voided, .int v_t_kept1_counted])), (a_t_now, .inr (3, [.int u35_t_now_place, .int u35_t_now_voided, .int u35_t_now_counted])), (a_t_kept0, .inr (3, [.int v_t_kept0_place, .int v_t_kept0_voided, .int v_t_kept0_counted])), (a_t_acts, .inr (0, [.ref a_t_acts_kinds, .ref a_t_acts_numbers, .int u42_t_acts_size]))] := hD
          have hq42_0 : 0 ≤ u42_t_acts_size := hc42.2.1
          have hq42_1 : u42_t_acts_size ≤ 14 := hc42.2.2
          replace hf := hf.trans (ap1_g hc42.1)
          refine lv_aload_n hx hb dX6_again_45 rfl (lv_at hl 0 rfl) ?_
          refine pcV (As := []) (rest := []) ⟨hx, hb, hml, hown, hts⟩ (c_X6_brokenNow l D cI cZ cO a_t a_t_text a_t_told a_t_draft a_t_now a_t_acts a_t_sightings a_t_sides a_t_kept v_t_keptSlots v_t_theSeed a_t_told_sizes a_t_told_cells f_t_told_sizes f_t_told_cells u35_t_now_place u35_t_now_voided u35_t_now_counted) (cwV 0 hts gX6_again_X6_brokenNow rfl rfl rfl (by decide +kernel) ⟨Nat.le_of_ble_eq_true rfl, Nat.le_of_ble_eq_true rfl⟩) hKX hP [0, 1, 2, 3, 6] rfl 0 6 rfl rfl rfl rfl hl.1 rfl (Nat.le_of_ble_eq_true rfl) dX6_again_46 ⟨Nat.le_of_ble_eq_true rfl, Nat.le_of_ble_eq_true rfl⟩ ?_
          exact W.iret (v := f_X6_brokenNow f_t_told_sizes f_t_told_cells u35_t_now_place u35_t_now_voided u35_t_now_counted) hx hb hr (fun t ht hW => ⟨⟨f_X6_brokenNow f_t_told_sizes f_t_told_cells u35_t_now_place u35_t_now_voided u35_t_now_counted, (u35_t_now_place, u35_t_now_voided, u35_t_now_counted, u42_t_acts_size), rfl, ⟨hf.symm, (s_X6_again_6 u42_t_acts_size hq42_0 hq42_1), (s_X6_again_7 u42_t_acts_size hq42_0 hq42_1)⟩, by rw [ht]; exact hP.sub [0, 1, 2, 3, 6, 8, 4, 7, 5] rfl, hD.sub [0, 1, 2, 3, 6, 8, 4, 7, 5] (by decide) rfl⟩, hS.F ht⟩) hS.2.2 dX6_again_49
        · replace hf := hf.trans (if_neg q_34)
          refine va_aldq hx hb hK hP 6 2 rfl rfl (s_X6_again_3 v_t_keptSlots x1 c_1 c_6 c_19) dX6_again_34 ?_
          refine W.eq (g2 := F0 m 35 ls [.ref a_t_kept1, .ref a_t_now]) (by rw [(s_X6_again_8 v_t_keptSlots x1 c_1 c_6 c_19 q_34)]; rfl) ?_
          refine callMv (As := [.ref a_t_kept1]) (rest := []) (wr := [(a_t, .inr (6, [.ref a_t_text, .ref a_t_told, .ref a_t_draft, .ref a_t_now, .ref a_t_acts, .ref a_t_sightings, .ref a_t_sides, .ref a_t_kept, .int v_t_keptSlots, .long v_t_theSeed])), (a_t_told, .inr (5, [.ref a_t_told_sizes, .ref a_t_told_cells])), (a_t_told_sizes, .inl (cI, 4, .inl f_t_told_sizes)), (a_t_told_cells, .inl (cI, 120, .inl f_t_told_cells)), (a_t_acts, .inr (0, [.ref a_t_acts_kinds, .ref a_t_acts_numbers, .int v_t_acts_size])), (a_t_kept, .inl (cO, 2, .inr (.inr (.inr (.inr (vk2 a_t_kept0 a_t_kept1)))))), (a_t_kept0, .inr (3, [.int v_t_kept0_place, .int v_t_kept0_voided, .int v_t_kept0_counted]))]) ⟨hx, hb, hml, hown, hts⟩ (c_X3_copyFrom l D cI cZ cO a_t_now v_t_now_place v_t_now_voided v_t_now_counted a_t_kept1 v_t_kept1_place v_t_kept1_voided v_t_kept1_counted s.heap.size) (cwV 1 hts gX6_again_X3_copyFrom rfl rfl rfl (by decide +kernel) ⟨Nat.le_of_ble_eq_true rfl, Nat.le_of_ble_eq_true rfl⟩) hKX hP hD hS hA [4, 8] [0, 1, 2, 3, 5, 6, 7] rfl rfl (by decide) (by decide) (by decide) 4 3 rfl rfl rfl rfl hl.1 rfl (Nat.le_of_ble_eq_true rfl) dX6_again_35 ⟨Nat.le_of_ble_eq_true rfl, Nat.le_of_ble_eq_true rfl⟩ (fun u H locs hc35 hP hD hS => ?_)
          obtain ⟨u35_t_now_place, u35_t_now_voided, u35_t_now_counted⟩ := u
          have hP : va_P D vwCl [(a_t, .inr (6, [.ref a_t_text, .ref a_t_told, .ref a_t_draft, .ref a_t_now, .ref a_t_acts, .ref a_t_sightings, .ref a_t_sides, .ref a_t_kept, .int v_t_keptSlots, .long v_t_theSeed])), (a_t_told, .inr (5, [.ref a_t_told_sizes, .ref a_t_told_cells])), (a_t_told_sizes, .inl (cI, 4, .inl f_t_told_sizes)), (a_t_told_cells, .inl (cI, 120, .inl f_t_told_cells)), (a_t_acts, .inr (0, [.ref a_t_acts_kinds, .ref a_t_acts_numbers, .int v_t_acts_size])), (a_t_kept, .inl (cO, 2, .inr (.inr (.inr (.inr (vk2 a_t_kept0 a_t_kept1)))))), (a_t_kept0, .inr (3, [.int v_t_kept0_place, .int v_t_kept0_voided, .int v_t_kept0_counted])), (a_t_now, .inr (3, [.int u35_t_now_place, .int u35_t_now_voided, .int u35_t_now_counted])), (a_t_kept1, .inr (3, [.int v_t_kept1_place, .int v_t_kept1_voided, .int v_t_kept1_counted]))] H := hP
          have hD : va_D A [(a_t, .inr (6, [.ref a_t_text, .ref a_t_told, .ref a_t_draft, .ref a_t_now, .ref a_t_acts, .ref a_t_sightings, .ref a_t_sides, .ref a_t_kept, .int v_t_keptSlots, .long v_t_theSeed])), (a_t_told, .inr (5, [.ref a_t_told_sizes, .ref a_t_told_cells])), (a_t_told_sizes, .inl (cI, 4, .inl f_t_told_sizes)), (a_t_told_cells, .inl (cI, 120, .inl f_t_told_cells)), (a_t_acts, .inr (0, [.ref a_t_acts_kinds, .ref a_t_acts_numbers, .int v_t_acts_size])), (a_t_kept, .inl (cO, 2, .inr (.inr (.inr (.inr (vk2 a_t_kept0 a_t_kept1)))))), (a_t_kept0, .inr (3, [.int v_t_kept0_place, .int v_t_kept0_voided, .int v_t_kept0_counted])), (a_t_now, .inr (3, [.int u35_t_now_place, .int u35_t_now_voided, .int u35_t_now_counted])), (a_t_kept1, .inr (3, [.int v_t_kept1_place, .int v_t_kept1_voided, .int v_t_kept1_counted]))] := hD
          replace hf := hf.trans (ap3_g hc35)
          refine lv_aload_n hx hb dX6_again_38 rfl (lv_at hl 0 rfl) ?_
          refine va_get (D := D) (ci := 6) (v := .ref a_t_acts) (C := RX6) (T := TX6) (N := 10) hx hb hts hwX6 hown hK hP 0 rfl rfl 4 (by decide) (hts (.fieldLink RX6 36 "SkippedDay" "acts" "LSkippedDay$Acts;") (by decide +kernel)) (fun _ h9 => h9) rfl dX6_again_39 ?_
          refine callMv (As := []) (rest := []) (wr := [(a_t, .inr (6, [.ref a_t_text, .ref a_t_told, .ref a_t_draft, .ref a_t_now, .ref a_t_acts, .ref a_t_sightings, .ref a_t_sides, .ref a_t_kept, .int v_t_keptSlots, .long v_t_theSeed])), (a_t_told, .inr (5, [.ref a_t_told_sizes, .ref a_t_told_cells])), (a_t_told_sizes, .inl (cI, 4, .inl f_t_told_sizes)), (a_t_told_cells, .inl (cI, 120, .inl f_t_told_cells)), (a_t_kept, .inl (cO, 2, .inr (.inr (.inr (.inr (vk2 a_t_kept0 a_t_kept1)))))), (a_t_kept0, .inr (3, [.int v_t_kept0_place, .int v_t_kept0_voided, .int v_t_kept0_counted])), (a_t_now, .inr (3, [.int u35_t_now_place, .int u35_t_now_voided, .int u35_t_now_counted])), (a_t_kept1, .inr (3, [.int v_t_kept1_place, .int v_t_kept1_voided, .int v_t_kept1_counted]))]) ⟨hx, hb, hml, hown, hts⟩ (c_X0_clear l D cI cZ cO a_t_acts a_t_acts_kinds a_t_acts_numbers v_t_acts_size H.size (s_X6_again_9 v_t_acts_size hp0 hp1) (s_X6_again_10 v_t_acts_size hp0 hp1)) (cwV 0 hts gX6_again_X0_clear rfl rfl rfl (by decide +kernel) ⟨Nat.le_of_ble_eq_true rfl, Nat.le_of_ble_eq_true rfl⟩) hKX hP hD hS hA [4] [0, 1, 2, 3, 5, 6, 7, 8] rfl rfl (by decide) (by decide) (by decide) 4 0 rfl rfl rfl rfl hl.1 rfl (Nat.le_of_ble_eq_true rfl) dX6_again_42 ⟨Nat.le_of_ble_eq_true rfl, Nat.le_of_ble_eq_true rfl⟩ (fun u H locs hc42 hP hD hS => ?_)
          obtain ⟨u42_t_acts_size, rfl⟩ : ∃ z, z = u := ⟨_, rfl⟩
          have hP : va_P D vwCl [(a_t, .inr (6, [.ref a_t_text, .ref a_t_told, .ref a_t_draft, .ref a_t_now, .ref a_t_acts, .ref a_t_sightings, .ref a_t_sides, .ref a_t_kept, .int v_t_keptSlots, .long v_t_theSeed])), (a_t_told, .inr (5, [.ref a_t_told_sizes, .ref a_t_told_cells])), (a_t_told_sizes, .inl (cI, 4, .inl f_t_told_sizes)), (a_t_told_cells, .inl (cI, 120, .inl f_t_told_cells)), (a_t_kept, .inl (cO, 2, .inr (.inr (.inr (.inr (vk2 a_t_kept0 a_t_kept1)))))), (a_t_kept0, .inr (3, [.int v_t_kept0_place, .int v_t_kept0_voided, .int v_t_kept0_counted])), (a_t_now, .inr (3, [.int u35_t_now_place, .int u35_t_now_voided, .int u35_t_now_counted])), (a_t_kept1, .inr (3, [.int v_t_kept1_place, .int v_t_kept1_voided, .int v_t_kept1_counted])), (a_t_acts, .inr (0, [.ref a_t_acts_kinds, .ref a_t_acts_numbers, .int u42_t_acts_size]))] H := hP
          have hD : va_D A [(a_t, .inr (6, [.ref a_t_text, .ref a_t_told, .ref a_t_draft, .ref a_t_now, .ref a_t_acts, .ref a_t_sightings, .ref a_t_sides, .ref a_t_kept, .int v_t_keptSlots, .long v_t_theSeed])), (a_t_told, .inr (5, [.ref a_t_told_sizes, .ref a_t_told_cells])), (a_t_told_sizes, .inl (cI, 4, .inl f_t_told_sizes)), (a_t_told_cells, .inl (cI, 120, .inl f_t_told_cells)), (a_t_kept, .inl (cO, 2, .inr (.inr (.inr (.inr (vk2 a_t_kept0 a_t_kept1)))))), (a_t_kept0, .inr (3, [.int v_t_kept0_place, .int v_t_kept0_voided, .int v_t_kept0_counted])), (a_t_now, .inr (3, [.int u35_t_now_place, .int u35_t_now_voided, .int u35_t_now_counted])), (a_t_kept1, .inr (3, [.int v_t_kept1_place, .int v_t_kept1_voided, .int v_t_kept1_counted])), (a_t_acts, .inr (0, [.ref a_t_acts_kinds, .ref a_t_acts_numbers, .int u42_t_acts_size]))] := hD
          have hq42_0 : 0 ≤ u42_t_acts_size := hc42.2.1
          have hq42_1 : u42_t_acts_size ≤ 14 := hc42.2.2
          replace hf := hf.trans (ap1_g hc42.1)
          refine lv_aload_n hx hb dX6_again_45 rfl (lv_at hl 0 rfl) ?_
          refine pcV (As := []) (rest := []) ⟨hx, hb, hml, hown, hts⟩ (c_X6_brokenNow l D cI cZ cO a_t a_t_text a_t_told a_t_draft a_t_now a_t_acts a_t_sightings a_t_sides a_t_kept v_t_keptSlots v_t_theSeed a_t_told_sizes a_t_told_cells f_t_told_sizes f_t_told_cells u35_t_now_place u35_t_now_voided u35_t_now_counted) (cwV 0 hts gX6_again_X6_brokenNow rfl rfl rfl (by decide +kernel) ⟨Nat.le_of_ble_eq_true rfl, Nat.le_of_ble_eq_true rfl⟩) hKX hP [0, 1, 2, 3, 6] rfl 0 6 rfl rfl rfl rfl hl.1 rfl (Nat.le_of_ble_eq_true rfl) dX6_again_46 ⟨Nat.le_of_ble_eq_true rfl, Nat.le_of_ble_eq_true rfl⟩ ?_
          exact W.iret (v := f_X6_brokenNow f_t_told_sizes f_t_told_cells u35_t_now_place u35_t_now_voided u35_t_now_counted) hx hb hr (fun t ht hW => ⟨⟨f_X6_brokenNow f_t_told_sizes f_t_told_cells u35_t_now_place u35_t_now_voided u35_t_now_counted, (u35_t_now_place, u35_t_now_voided, u35_t_now_counted, u42_t_acts_size), rfl, ⟨hf.symm, (s_X6_again_11 u42_t_acts_size hq42_0 hq42_1), (s_X6_again_12 u42_t_acts_size hq42_0 hq42_1)⟩, by rw [ht]; exact hP.sub [0, 1, 2, 3, 6, 8, 4, 5, 7] rfl, hD.sub [0, 1, 2, 3, 6, 8, 4, 5, 7] (by decide) rfl⟩, hS.F ht⟩) hS.2.2 dX6_again_49
      · replace hf := hf.trans (if_neg (fun h9 => h9 c_19))
        refine lv_bipush (v := (-3)) hx hb dX6_again_22 (by decide) ?_
        exact W.iret (v := (-3)) hx hb hr (fun t ht hW => ⟨⟨(-3), (v_t_now_place, v_t_now_voided, v_t_now_counted, v_t_acts_size), rfl, ⟨hf.symm, (s_X6_again_13 v_t_acts_size hp0 hp1), (s_X6_again_14 v_t_acts_size hp0 hp1)⟩, by rw [ht]; exact hP.sub [0, 1, 2, 3, 4, 5, 6, 7, 8] rfl, hD.sub [0, 1, 2, 3, 4, 5, 6, 7, 8] (by decide) rfl⟩, hS.F ht⟩) hS.2.2 dX6_again_24
    · replace hf := hf.trans (if_neg c_6)
      refine lv_iconst (v := (-1)) hx hb dX6_again_9 (by decide) ?_
      exact W.iret (v := (-1)) hx hb hr (fun t ht hW => ⟨⟨(-1), (v_t_now_place, v_t_now_voided, v_t_now_counted, v_t_acts_size), rfl, ⟨hf.symm, (s_X6_again_15 v_t_acts_size hp0 hp1), (s_X6_again_16 v_t_acts_size hp0 hp1)⟩, by rw [ht]; exact hP.sub [0, 1, 2, 3, 4, 5, 6, 7, 8] rfl, hD.sub [0, 1, 2, 3, 4, 5, 6, 7, 8] (by decide) rfl⟩, hS.F ht⟩) hS.2.2 dX6_again_10
