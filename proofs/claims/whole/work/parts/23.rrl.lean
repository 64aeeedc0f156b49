/-- write -/
theorem rr_0 {v_x_keptSlots : Int32} {v_x_theSeed : Int64} {v_x_text_length : Int32} {f_x_text_bytes : Nat → Int32} {f_x_told_sizes : Nat → Int32} {f_x_told_cells : Nat → Int32} {v_x_now_place : Int32} {v_x_now_voided : Int32} {v_x_now_counted : Int32} {v_x_acts_size : Int32} {f_x_acts_kinds : Nat → Int32} {f_x_acts_numbers : Nat → Int32} {v_x_sightings_size : Int32} {f_x_sightings_contracts : Nat → Int32} {f_x_sightings_days : Nat → Int32} {v_x_sides_size : Int32} {v_x_kept0_place : Int32} {v_x_kept0_voided : Int32} {v_x_kept0_counted : Int32} {v_x_kept1_place : Int32} {v_x_kept1_voided : Int32} {v_x_kept1_counted : Int32} {v_m_textSize : Int32} {v_m_contracts : Int32} {v_m_births : Int32} {v_m_tides : Int32} {v_m_debts : Int32} {v_m_acts : Int32} {v_m_seen : Int32} {v_m_seed : Int64} {f_m_text : Nat → Int32} {f_m_contract : Nat → Int32} {f_m_birth : Nat → Int32} {f_m_tide : Nat → Int32} {f_m_debt : Nat → Int32} {f_m_page : Nat → Int32} {f_m_book : Nat → Int32} {f_m_kept : Nat → Int32} {f_m_isKept : Nat → Int32} {f_m_seenContract : Nat → Int32} {f_m_seenDay : Nat → Int32} {rx : Int32} {u_x_text_length : Int32} {u_x_text_bytes : Nat → Int32} {rm : Int32} {u_m_thrown : Int32} {u_m_textSize : Int32} {u_m_text : Nat → Int32} (hR : RR v_x_keptSlots v_x_theSeed v_x_text_length f_x_text_bytes f_x_told_sizes f_x_told_cells v_x_now_place v_x_now_voided v_x_now_counted v_x_acts_size f_x_acts_kinds f_x_acts_numbers v_x_sightings_size f_x_sightings_contracts f_x_sightings_days v_x_sides_size v_x_kept0_place v_x_kept0_voided v_x_kept0_counted v_x_kept1_place v_x_kept1_voided v_x_kept1_counted v_m_textSize v_m_contracts v_m_births v_m_tides v_m_debts v_m_acts v_m_seen v_m_seed f_m_text f_m_contract f_m_birth f_m_tide f_m_debt f_m_page f_m_book f_m_kept f_m_isKept f_m_seenContract f_m_seenDay) (x1 : Int32) (hcx : (rx, u_x_text_length, u_x_text_bytes) = f_X6_write v_x_text_length f_x_text_bytes x1 ∧ (0 ≤ u_x_text_length) ∧ (u_x_text_length ≤ 64)) (hcm : (rm, u_m_thrown, u_m_textSize, u_m_text) = f_X7_write v_m_textSize f_m_text x1 ∧ (0 ≤ u_m_textSize) ∧ (u_m_textSize ≤ 64)) : (rx = rm) ∧ RR v_x_keptSlots v_x_theSeed u_x_text_length u_x_text_bytes f_x_told_sizes f_x_told_cells v_x_now_place v_x_now_voided v_x_now_counted v_x_acts_size f_x_acts_kinds f_x_acts_numbers v_x_sightings_size f_x_sightings_contracts f_x_sightings_days v_x_sides_size v_x_kept0_place v_x_kept0_voided v_x_kept0_counted v_x_kept1_place v_x_kept1_voided v_x_kept1_counted u_m_textSize v_m_contracts v_m_births v_m_tides v_m_debts v_m_acts v_m_seen v_m_seed u_m_text f_m_contract f_m_birth f_m_tide f_m_debt f_m_page f_m_book f_m_kept f_m_isKept f_m_seenContract f_m_seenDay := by
  obtain ⟨hI, ⟨⟨e1, e2⟩, hT⟩, hB⟩ := hR
  obtain ⟨hx, hx0, hx1⟩ := hcx
  obtain ⟨hm, hm0, hm1⟩ := hcm
  subst e1 e2
  have key : rx = rm ∧ u_x_text_length = u_m_textSize ∧ u_x_text_bytes = u_m_text := by
    simp only [f_X6_write, f_X7_write, f_X4_append, f_X4_isFull, f_X4_length, ap2, in_0_255] at hx hm
    grind
  obtain ⟨k1, k2, k3⟩ := key
  exact ⟨k1, ⟨hx0, hx1, hI.2.2.1, hI.2.2.2.1, hI.2.2.2.2.1, hI.2.2.2.2.2.1, hI.2.2.2.2.2.2.1, hI.2.2.2.2.2.2.2.1, hm0, hm1, hI.2.2.2.2.2.2.2.2.2.2⟩, ⟨⟨k2, k3⟩, hT⟩, hB⟩
/-- wipe -/
theorem rr_1 {v_x_keptSlots : Int32} {v_x_theSeed : Int64} {v_x_text_length : Int32} {f_x_text_bytes : Nat → Int32} {f_x_told_sizes : Nat → Int32} {f_x_told_cells : Nat → Int32} {v_x_now_place : Int32} {v_x_now_voided : Int32} {v_x_now_counted : Int32} {v_x_acts_size : Int32} {f_x_acts_kinds : Nat → Int32} {f_x_acts_numbers : Nat → Int32} {v_x_sightings_size : Int32} {f_x_sightings_contracts : Nat → Int32} {f_x_sightings_days : Nat → Int32} {v_x_sides_size : Int32} {v_x_kept0_place : Int32} {v_x_kept0_voided : Int32} {v_x_kept0_counted : Int32} {v_x_kept1_place : Int32} {v_x_kept1_voided : Int32} {v_x_kept1_counted : Int32} {v_m_textSize : Int32} {v_m_contracts : Int32} {v_m_births : Int32} {v_m_tides : Int32} {v_m_debts : Int32} {v_m_acts : Int32} {v_m_seen : Int32} {v_m_seed : Int64} {f_m_text : Nat → Int32} {f_m_contract : Nat → Int32} {f_m_birth : Nat → Int32} {f_m_tide : Nat → Int32} {f_m_debt : Nat → Int32} {f_m_page : Nat → Int32} {f_m_book : Nat → Int32} {f_m_kept : Nat → Int32} {f_m_isKept : Nat → Int32} {f_m_seenContract : Nat → Int32} {f_m_seenDay : Nat → Int32} {rx : Int32} {u_x_text_length : Int32} {rm : Int32} {u_m_thrown : Int32} {u_m_textSize : Int32} (hR : RR v_x_keptSlots v_x_theSeed v_x_text_length f_x_text_bytes f_x_told_sizes f_x_told_cells v_x_now_place v_x_now_voided v_x_now_counted v_x_acts_size f_x_acts_kinds f_x_acts_numbers v_x_sightings_size f_x_sightings_contracts f_x_sightings_days v_x_sides_size v_x_kept0_place v_x_kept0_voided v_x_kept0_counted v_x_kept1_place v_x_kept1_voided v_x_kept1_counted v_m_textSize v_m_contracts v_m_births v_m_tides v_m_debts v_m_acts v_m_seen v_m_seed f_m_text f_m_contract f_m_birth f_m_tide f_m_debt f_m_page f_m_book f_m_kept f_m_isKept f_m_seenContract f_m_seenDay) (hcx : (rx, u_x_text_length) = f_X6_wipe v_x_text_length ∧ (0 ≤ u_x_text_length) ∧ (u_x_text_length ≤ 64)) (hcm : (rm, u_m_thrown, u_m_textSize) = f_X7_wipe v_m_textSize ∧ (0 ≤ u_m_textSize) ∧ (u_m_textSize ≤ 64)) : (rx = rm) ∧ RR v_x_keptSlots v_x_theSeed u_x_text_length f_x_text_bytes f_x_told_sizes f_x_told_cells v_x_now_place v_x_now_voided v_x_now_counted v_x_acts_size f_x_acts_kinds f_x_acts_numbers v_x_sightings_size f_x_sightings_contracts f_x_sightings_days v_x_sides_size v_x_kept0_place v_x_kept0_voided v_x_kept0_counted v_x_kept1_place v_x_kept1_voided v_x_kept1_counted u_m_textSize v_m_contracts v_m_births v_m_tides v_m_debts v_m_acts v_m_seen v_m_seed f_m_text f_m_contract f_m_birth f_m_tide f_m_debt f_m_page f_m_book f_m_kept f_m_isKept f_m_seenContract f_m_seenDay := by
  obtain ⟨hI, ⟨⟨e1, e2⟩, hT⟩, hB⟩ := hR
  obtain ⟨hx, hx0, hx1⟩ := hcx
  obtain ⟨hm, hm0, hm1⟩ := hcm
  have key : rx = rm ∧ u_x_text_length = u_m_textSize := by
    simp only [f_X6_wipe, f_X7_wipe, f_X4_clear, f_X4_length, ap1] at hx hm
    grind
  exact ⟨key.1, ⟨hx0, hx1, hI.2.2.1, hI.2.2.2.1, hI.2.2.2.2.1, hI.2.2.2.2.2.1, hI.2.2.2.2.2.2.1, hI.2.2.2.2.2.2.2.1, hm0, hm1, hI.2.2.2.2.2.2.2.2.2.2⟩, ⟨⟨key.2, e2⟩, hT⟩, hB⟩
/-- fault -/
theorem rr_2 {v_x_keptSlots : Int32} {v_x_theSeed : Int64} {v_x_text_length : Int32} {f_x_text_bytes : Nat → Int32} {f_x_told_sizes : Nat → Int32} {f_x_told_cells : Nat → Int32} {v_x_now_place : Int32} {v_x_now_voided : Int32} {v_x_now_counted : Int32} {v_x_acts_size : Int32} {f_x_acts_kinds : Nat → Int32} {f_x_acts_numbers : Nat → Int32} {v_x_sightings_size : Int32} {f_x_sightings_contracts : Nat → Int32} {f_x_sightings_days : Nat → Int32} {v_x_sides_size : Int32} {v_x_kept0_place : Int32} {v_x_kept0_voided : Int32} {v_x_kept0_counted : Int32} {v_x_kept1_place : Int32} {v_x_kept1_voided : Int32} {v_x_kept1_counted : Int32} {v_m_textSize : Int32} {v_m_contracts : Int32} {v_m_births : Int32} {v_m_tides : Int32} {v_m_debts : Int32} {v_m_acts : Int32} {v_m_seen : Int32} {v_m_seed : Int64} {f_m_text : Nat → Int32} {f_m_contract : Nat → Int32} {f_m_birth : Nat → Int32} {f_m_tide : Nat → Int32} {f_m_debt : Nat → Int32} {f_m_page : Nat → Int32} {f_m_book : Nat → Int32} {f_m_kept : Nat → Int32} {f_m_isKept : Nat → Int32} {f_m_seenContract : Nat → Int32} {f_m_seenDay : Nat → Int32} {f_x_draft_sizes : Nat → Int32} {f_x_draft_cells : Nat → Int32} {f_m_readContract : Nat → Int32} {f_m_readBirth : Nat → Int32} {f_m_readTide : Nat → Int32} {f_m_readDebt : Nat → Int32} {rx : Int32} {u_x_draft_sizes : Nat → Int32} {u_x_draft_cells : Nat → Int32} {rm : Int32} {u_m_thrown : Int32} {u_m_place : Int32} {u_m_readContracts : Int32} {u_m_readBirths : Int32} {u_m_readTides : Int32} {u_m_readDebts : Int32} {u_m_readContract : Nat → Int32} {u_m_readBirth : Nat → Int32} {u_m_readTide : Nat → Int32} {u_m_readDebt : Nat → Int32} (hR : RR v_x_keptSlots v_x_theSeed v_x_text_length f_x_text_bytes f_x_told_sizes f_x_told_cells v_x_now_place v_x_now_voided v_x_now_counted v_x_acts_size f_x_acts_kinds f_x_acts_numbers v_x_sightings_size f_x_sightings_contracts f_x_sightings_days v_x_sides_size v_x_kept0_place v_x_kept0_voided v_x_kept0_counted v_x_kept1_place v_x_kept1_voided v_x_kept1_counted v_m_textSize v_m_contracts v_m_births v_m_tides v_m_debts v_m_acts v_m_seen v_m_seed f_m_text f_m_contract f_m_birth f_m_tide f_m_debt f_m_page f_m_book f_m_kept f_m_isKept f_m_seenContract f_m_seenDay) (hcx : (rx, u_x_draft_sizes, u_x_draft_cells) = f_X6_fault v_x_text_length f_x_text_bytes f_x_draft_sizes f_x_draft_cells) (hcm : (rm, u_m_thrown, u_m_place, u_m_readContracts, u_m_readBirths, u_m_readTides, u_m_readDebts, u_m_readContract, u_m_readBirth, u_m_readTide, u_m_readDebt) = f_X7_fault v_m_textSize f_m_text f_m_readContract f_m_readBirth f_m_readTide f_m_readDebt) : (rx = rm) ∧ RR v_x_keptSlots v_x_theSeed v_x_text_length f_x_text_bytes f_x_told_sizes f_x_told_cells v_x_now_place v_x_now_voided v_x_now_counted v_x_acts_size f_x_acts_kinds f_x_acts_numbers v_x_sightings_size f_x_sightings_contracts f_x_sightings_days v_x_sides_size v_x_kept0_place v_x_kept0_voided v_x_kept0_counted v_x_kept1_place v_x_kept1_voided v_x_kept1_counted v_m_textSize v_m_contracts v_m_births v_m_tides v_m_debts v_m_acts v_m_seen v_m_seed f_m_text f_m_contract f_m_birth f_m_tide f_m_debt f_m_page f_m_book f_m_kept f_m_isKept f_m_seenContract f_m_seenDay := by
  refine ⟨?_, hR⟩
  obtain ⟨hI, ⟨⟨e1, e2⟩, _⟩, _⟩ := hR
  subst e1 e2
  obtain ⟨l, hl, rfl⟩ := nI_ex (n := 65) (k := 65) (by decide) hI.1 (show v_x_text_length < 65 by
    have := hI.2.1
    grind)
  obtain ⟨r, sz', ce', pl, ct, bi, ti, de, con, bir, tid, deb, g1, g2, _⟩ := read_all (t := f_x_text_bytes) (show l ≤ 64 by omega) f_x_draft_sizes f_x_draft_cells f_m_readContract f_m_readBirth f_m_readTide f_m_readDebt
  unfold f_X6_fault ap3 at hcx
  unfold f_X7_fault ap10 at hcm
  rw [g1] at hcx
  rw [g2] at hcm
  exact (Prod.mk.inj hcx).1.trans (Prod.mk.inj hcm).1.symm
/-- open -/
theorem rr_3 {v_x_keptSlots : Int32} {v_x_theSeed : Int64} {v_x_text_length : Int32} {f_x_text_bytes : Nat → Int32} {f_x_told_sizes : Nat → Int32} {f_x_told_cells : Nat → Int32} {v_x_now_place : Int32} {v_x_now_voided : Int32} {v_x_now_counted : Int32} {v_x_acts_size : Int32} {f_x_acts_kinds : Nat → Int32} {f_x_acts_numbers : Nat → Int32} {v_x_sightings_size : Int32} {f_x_sightings_contracts : Nat → Int32} {f_x_sightings_days : Nat → Int32} {v_x_sides_size : Int32} {v_x_kept0_place : Int32} {v_x_kept0_voided : Int32} {v_x_kept0_counted : Int32} {v_x_kept1_place : Int32} {v_x_kept1_voided : Int32} {v_x_kept1_counted : Int32} {v_m_textSize : Int32} {v_m_contracts : Int32} {v_m_births : Int32} {v_m_tides : Int32} {v_m_debts : Int32} {v_m_acts : Int32} {v_m_seen : Int32} {v_m_seed : Int64} {f_m_text : Nat → Int32} {f_m_contract : Nat → Int32} {f_m_birth : Nat → Int32} {f_m_tide : Nat → Int32} {f_m_debt : Nat → Int32} {f_m_page : Nat → Int32} {f_m_book : Nat → Int32} {f_m_kept : Nat → Int32} {f_m_isKept : Nat → Int32} {f_m_seenContract : Nat → Int32} {f_m_seenDay : Nat → Int32} {f_m_readContract : Nat → Int32} {f_m_readBirth : Nat → Int32} {f_m_readTide : Nat → Int32} {f_m_readDebt : Nat → Int32} {a_x_told a_x_draft : Nat} {f_x_draft_sizes f_x_draft_cells : Nat → Int32} {rx : Int32} {u_x_told : Nat} {u_x_draft : Nat} {u_x_keptSlots : Int32} {u_x_draft_sizes : Nat → Int32} {u_x_draft_cells : Nat → Int32} {u_x_now_place : Int32} {u_x_now_voided : Int32} {u_x_now_counted : Int32} {u_x_acts_size : Int32} {rm : Int32} {u_m_thrown : Int32} {u_m_place : Int32} {u_m_contracts : Int32} {u_m_births : Int32} {u_m_tides : Int32} {u_m_debts : Int32} {u_m_readContracts : Int32} {u_m_readBirths : Int32} {u_m_readTides : Int32} {u_m_readDebts : Int32} {u_m_acts : Int32} {u_m_contract : Nat → Int32} {u_m_birth : Nat → Int32} {u_m_tide : Nat → Int32} {u_m_debt : Nat → Int32} {u_m_readContract : Nat → Int32} {u_m_readBirth : Nat → Int32} {u_m_readTide : Nat → Int32} {u_m_readDebt : Nat → Int32} {u_m_page : Nat → Int32} {u_m_isKept : Nat → Int32} (hR : RR v_x_keptSlots v_x_theSeed v_x_text_length f_x_text_bytes f_x_told_sizes f_x_told_cells v_x_now_place v_x_now_voided v_x_now_counted v_x_acts_size f_x_acts_kinds f_x_acts_numbers v_x_sightings_size f_x_sightings_contracts f_x_sightings_days v_x_sides_size v_x_kept0_place v_x_kept0_voided v_x_kept0_counted v_x_kept1_place v_x_kept1_voided v_x_kept1_counted v_m_textSize v_m_contracts v_m_births v_m_tides v_m_debts v_m_acts v_m_seen v_m_seed f_m_text f_m_contract f_m_birth f_m_tide f_m_debt f_m_page f_m_book f_m_kept f_m_isKept f_m_seenContract f_m_seenDay) (hcx : (rx, u_x_told, u_x_draft, u_x_keptSlots, u_x_draft_sizes, u_x_draft_cells, u_x_now_place, u_x_now_voided, u_x_now_counted, u_x_acts_size) = f_X6_open a_x_told a_x_draft v_x_keptSlots v_x_text_length f_x_text_bytes f_x_draft_sizes f_x_draft_cells v_x_now_place v_x_now_voided v_x_now_counted v_x_acts_size ∧ (0 ≤ u_x_acts_size) ∧ (u_x_acts_size ≤ 14)) (hcm : (rm, u_m_thrown, u_m_place, u_m_contracts, u_m_births, u_m_tides, u_m_debts, u_m_readContracts, u_m_readBirths, u_m_readTides, u_m_readDebts, u_m_acts, u_m_contract, u_m_birth, u_m_tide, u_m_debt, u_m_readContract, u_m_readBirth, u_m_readTide, u_m_readDebt, u_m_page, u_m_isKept) = f_X7_open v_m_textSize v_m_contracts v_m_births v_m_tides v_m_debts v_m_acts f_m_text f_m_contract f_m_birth f_m_tide f_m_debt f_m_readContract f_m_readBirth f_m_readTide f_m_readDebt f_m_page f_m_isKept ∧ (0 ≤ u_m_contracts) ∧ (u_m_contracts ≤ 5) ∧ (0 ≤ u_m_births) ∧ (u_m_births ≤ 3) ∧ (0 ≤ u_m_tides) ∧ (u_m_tides ≤ 3) ∧ (0 ≤ u_m_debts) ∧ (u_m_debts ≤ 6) ∧ (0 ≤ u_m_acts) ∧ (u_m_acts ≤ 14)) : (rx = rm) ∧ ((u_x_told = a_x_told ∧ u_x_draft = a_x_draft ∧ RR u_x_keptSlots v_x_theSeed v_x_text_length f_x_text_bytes f_x_told_sizes f_x_told_cells u_x_now_place u_x_now_voided u_x_now_counted u_x_acts_size f_x_acts_kinds f_x_acts_numbers v_x_sightings_size f_x_sightings_contracts f_x_sightings_days v_x_sides_size v_x_kept0_place v_x_kept0_voided v_x_kept0_counted v_x_kept1_place v_x_kept1_voided v_x_kept1_counted v_m_textSize u_m_contracts u_m_births u_m_tides u_m_debts u_m_acts v_m_seen v_m_seed f_m_text u_m_contract u_m_birth u_m_tide u_m_debt u_m_page f_m_book f_m_kept u_m_isKept f_m_seenContract f_m_seenDay) ∨ (u_x_told = a_x_draft ∧ u_x_draft = a_x_told ∧ RR u_x_keptSlots v_x_theSeed v_x_text_length f_x_text_bytes u_x_draft_sizes u_x_draft_cells u_x_now_place u_x_now_voided u_x_now_counted u_x_acts_size f_x_acts_kinds f_x_acts_numbers v_x_sightings_size f_x_sightings_contracts f_x_sightings_days v_x_sides_size v_x_kept0_place v_x_kept0_voided v_x_kept0_counted v_x_kept1_place v_x_kept1_voided v_x_kept1_counted v_m_textSize u_m_contracts u_m_births u_m_tides u_m_debts u_m_acts v_m_seen v_m_seed f_m_text u_m_contract u_m_birth u_m_tide u_m_debt u_m_page f_m_book f_m_kept u_m_isKept f_m_seenContract f_m_seenDay)) := by
  obtain ⟨hx, hxa⟩ := hcx
  obtain ⟨hm, hmb⟩ := hcm
  obtain ⟨hI, ⟨⟨e1, e2⟩, e3⟩, hC, hP, hA, hK⟩ := hR
  have hI2 := hI
  subst e1 e2
  obtain ⟨l, hl, rfl⟩ := nI_ex (n := 65) (k := 65) (by decide) hI.1 (show v_x_text_length < 65 by
    have := hI.2.1
    grind)
  obtain ⟨r, sz', ce', pl, ct, bi, ti, de, rc, rb, rt, rd, g1, g2, g3⟩ := read_all (t := f_x_text_bytes) (show l ≤ 64 by omega) f_x_draft_sizes f_x_draft_cells f_m_readContract f_m_readBirth f_m_readTide f_m_readDebt
  unfold f_X6_open ap3 at hx
  unfold f_X7_open ap10 at hm
  rw [g1] at hx
  rw [g2] at hm
  obtain ⟨i1, i2, i3, i4, i5, i6, i7, i8, i9, i10, i11, i12, i13, i14, i15, i16, i17, i18, i19, i20, i21, i22⟩ := hI
  by_cases h9 : r = -9
  · obtain ⟨wc, wb, wt, wd, pg', o1, o2, o3, o4, o5, o6, o7, o8⟩ := open_all (con := f_m_contract) (bir := f_m_birth) (tid := f_m_tide) (deb := f_m_debt) (pg := f_m_page) (ik := f_m_isKept) (pl := pl) (ct := ct) (bi := bi) (ti := ti) (de := de) (rc := rc) (rb := rb) (rt := rt) (rd := rd)
    have hC2 := case_cong (g3 h9) o2 o3 o4 o5
    simp only [h9, eq_self, if_true, ap1, f_X3_begin, f_X0_clear] at hx hm
    rw [o1] at hm
    simp only [Prod.mk.injEq] at hx hm
    obtain ⟨x1, x2, x3, x4, x5, x6, x7, x8, x9, x10⟩ := hx
    obtain ⟨y1, y2, y3, y4, y5, y6, y7, y8, y9, y10, y11, y12, y13, y14, y15, y16, y17, y18, y19, y20, y21, y22⟩ := hm
    subst x1 x2 x3 x4 x5 x6 x7 x8 x9 x10 y1 y2 y3 y4 y5 y6 y7 y8 y9 y10 y11 y12 y13 y14 y15 y16 y17 y18 y19 y20 y21 y22
    obtain ⟨b1, b2, b3, b4, b5, b6, b7, b8, b9, b10⟩ := hmb
    refine ⟨?_, Or.inr ⟨rfl, rfl, ?_⟩⟩
    · rw [size_0, size_1, hC2.1.1, hC2.1.2.1]
    · obtain ⟨s, hs, es⟩ := nI_ex (n := 6) (k := 6) (by decide) b1 (by have := b2; grind)
      have hcnt := counted_eq (s := s) (by omega) (hC2.1.1.trans es) (fun k hk => (hC2.2.1 k (by omega) (by rw [es]; exact nI_lt hk (by omega))).2.2.2.1)
      refine ⟨⟨i1, i2, Int32.le_refl _, by decide, i5, i6, i7, i8, i9, i10, b1, b2, b3, b4, b5, b6, b7, b8, Int32.le_refl _, by decide, i21, i22⟩, ⟨⟨rfl, rfl⟩, e3⟩, hC2, ⟨o6, o7, fun k hk hkc => ?_, by decide, by decide, by decide, by decide, hcnt.1, hcnt.2.1⟩, ⟨rfl, ?_⟩, ?_⟩
      · obtain ⟨p1, p2⟩ := o8 k hk hkc
        obtain ⟨⟨q0, q1, q2, _⟩, _⟩ := hC2.2.1 k hk hkc
        rw [p1, p2, q1, q2]
        refine ⟨(hcnt.2.2 k ?_).symm, rfl⟩
        rw [es] at hkc
        exact (nI_ltI (by omega) (by omega)).mp hkc
      · exact ⟨fun _ => (13, 0, _), rfl, fun j hj => absurd hj (Nat.not_lt_zero j)⟩
      · have z0 : (upd (upd f_m_isKept 0 0) 1 0) 0 = 0 := (upd_ne (by decide)).trans upd_eq
        have z1 : (upd (upd f_m_isKept 0 0) 1 0) 1 = 0 := upd_eq
        exact ⟨⟨⟨fun _ => z0, fun _ => by decide⟩, fun q => absurd z0 q⟩, ⟨⟨fun _ => z1, fun _ => by decide⟩, fun q => absurd z1 q⟩⟩
  · simp only [h9, if_false] at hx hm
    simp only [Prod.mk.injEq] at hx hm
    obtain ⟨x1, x2, x3, x4, x5, x6, x7, x8, x9, x10⟩ := hx
    obtain ⟨y1, y2, y3, y4, y5, y6, y7, y8, y9, y10, y11, y12, y13, y14, y15, y16, y17, y18, y19, y20, y21, y22⟩ := hm
    subst x1 x2 x3 x4 x5 x6 x7 x8 x9 x10 y1 y2 y3 y4 y5 y6 y7 y8 y9 y10 y11 y12 y13 y14 y15 y16 y17 y18 y19 y20 y21 y22
    exact ⟨rfl, Or.inl ⟨rfl, rfl, hI2, ⟨⟨rfl, rfl⟩, e3⟩, hC, hP, hA, hK⟩⟩
/-- about -/
theorem rr_4 {v_x_keptSlots : Int32} {v_x_theSeed : Int64} {v_x_text_length : Int32} {f_x_text_bytes : Nat → Int32} {f_x_told_sizes : Nat → Int32} {f_x_told_cells : Nat → Int32} {v_x_now_place : Int32} {v_x_now_voided : Int32} {v_x_now_counted : Int32} {v_x_acts_size : Int32} {f_x_acts_kinds : Nat → Int32} {f_x_acts_numbers : Nat → Int32} {v_x_sightings_size : Int32} {f_x_sightings_contracts : Nat → Int32} {f_x_sightings_days : Nat → Int32} {v_x_sides_size : Int32} {v_x_kept0_place : Int32} {v_x_kept0_voided : Int32} {v_x_kept0_counted : Int32} {v_x_kept1_place : Int32} {v_x_kept1_voided : Int32} {v_x_kept1_counted : Int32} {v_m_textSize : Int32} {v_m_contracts : Int32} {v_m_births : Int32} {v_m_tides : Int32} {v_m_debts : Int32} {v_m_acts : Int32} {v_m_seen : Int32} {v_m_seed : Int64} {f_m_text : Nat → Int32} {f_m_contract : Nat → Int32} {f_m_birth : Nat → Int32} {f_m_tide : Nat → Int32} {f_m_debt : Nat → Int32} {f_m_page : Nat → Int32} {f_m_book : Nat → Int32} {f_m_kept : Nat → Int32} {f_m_isKept : Nat → Int32} {f_m_seenContract : Nat → Int32} {f_m_seenDay : Nat → Int32} {rm : Int32} {u_m_thrown : Int32} (hR : RR v_x_keptSlots v_x_theSeed v_x_text_length f_x_text_bytes f_x_told_sizes f_x_told_cells v_x_now_place v_x_now_voided v_x_now_counted v_x_acts_size f_x_acts_kinds f_x_acts_numbers v_x_sightings_size f_x_sightings_contracts f_x_sightings_days v_x_sides_size v_x_kept0_place v_x_kept0_voided v_x_kept0_counted v_x_kept1_place v_x_kept1_voided v_x_kept1_counted v_m_textSize v_m_contracts v_m_births v_m_tides v_m_debts v_m_acts v_m_seen v_m_seed f_m_text f_m_contract f_m_birth f_m_tide f_m_debt f_m_page f_m_book f_m_kept f_m_isKept f_m_seenContract f_m_seenDay) (x1 : Int32) (hcm : (rm, u_m_thrown) = f_X7_about v_m_textSize v_m_contracts v_m_births v_m_tides v_m_debts v_m_acts v_m_seen f_m_contract f_m_page x1) : (f_X6_about v_x_text_length f_x_told_sizes f_x_told_cells v_x_now_place v_x_now_voided v_x_now_counted v_x_acts_size v_x_sightings_size x1 = rm) ∧ RR v_x_keptSlots v_x_theSeed v_x_text_length f_x_text_bytes f_x_told_sizes f_x_told_cells v_x_now_place v_x_now_voided v_x_now_counted v_x_acts_size f_x_acts_kinds f_x_acts_numbers v_x_sightings_size f_x_sightings_contracts f_x_sightings_days v_x_sides_size v_x_kept0_place v_x_kept0_voided v_x_kept0_counted v_x_kept1_place v_x_kept1_voided v_x_kept1_counted v_m_textSize v_m_contracts v_m_births v_m_tides v_m_debts v_m_acts v_m_seen v_m_seed f_m_text f_m_contract f_m_birth f_m_tide f_m_debt f_m_page f_m_book f_m_kept f_m_isKept f_m_seenContract f_m_seenDay := by
  refine ⟨?_, hR⟩
  obtain ⟨hI, ⟨⟨e1, e2⟩, e3, e4, e5, e6, eD⟩, hC, hP, ⟨e7, hA⟩, hQ⟩ := hR
  have h5 : v_m_contracts ≤ 5 := hI.2.2.2.2.2.2.2.2.2.2.2.1
  have hb := broken_eq hC hP h5 hP.2.2.2.1 hP.2.2.2.2.1
  have p0 : f_m_page (0 : Int32).toNatClampNeg = v_x_now_place := pg0 hP.1
  have p1 : f_m_page (1 : Int32).toNatClampNeg = v_x_now_voided := pg1 hP.2.1
  obtain ⟨⟨s0, s1, s2, s3⟩, _⟩ := hC
  have z0 := size_0 f_x_told_sizes
  have z1 := size_1 f_x_told_sizes
  have z2 := size_2 f_x_told_sizes
  have z3 := size_3 f_x_told_sizes
  unfold f_X6_about f_X6_gapOrNone f_X0_size f_X2_size f_X4_length
  unfold f_X7_about at hcm
  rw [p0, p1] at hcm
  by_cases c0 : x1 = 0
  · rw [if_pos c0] at hcm ⊢
    rw [c0, z0, s0]
    exact (Prod.mk.inj hcm).1.symm
  · skip
    by_cases c1 : x1 = 1
    · rw [if_neg c0, if_pos c1] at hcm ⊢
      rw [c1, z1, s1]
      exact (Prod.mk.inj hcm).1.symm
    · skip
      by_cases c2 : x1 = 2
      · rw [if_neg c0, if_neg c1, if_pos c2] at hcm ⊢
        rw [c2, z2, s2]
        exact (Prod.mk.inj hcm).1.symm
      · skip
        by_cases c3 : x1 = 3
        · rw [if_neg c0, if_neg c1, if_neg c2, if_pos c3] at hcm ⊢
          rw [c3, z3, s3]
          exact (Prod.mk.inj hcm).1.symm
        · skip
          by_cases c4 : x1 = 4
          · rw [if_neg c0, if_neg c1, if_neg c2, if_neg c3, if_pos c4] at hcm ⊢
            by_cases d : v_x_now_place = 13
            · simp only [d, eq_self, not_true_eq_false, if_false] at hcm ⊢
              exact (Prod.mk.inj hcm).1.symm
            · simp only [d, not_false_eq_true, if_true] at hcm ⊢
              exact (Prod.mk.inj hcm).1.symm
          · skip
            by_cases c5 : x1 = 5
            · rw [if_neg c0, if_neg c1, if_neg c2, if_neg c3, if_neg c4, if_pos c5] at hcm ⊢
              exact (Prod.mk.inj hcm).1.symm
            · skip
              by_cases c6 : x1 = 6
              · rw [if_neg c0, if_neg c1, if_neg c2, if_neg c3, if_neg c4, if_neg c5, if_pos c6] at hcm ⊢
                exact hb.trans (Prod.mk.inj hcm).1.symm
              · skip
                by_cases c7 : x1 = 7
                · rw [if_neg c0, if_neg c1, if_neg c2, if_neg c3, if_neg c4, if_neg c5, if_neg c6, if_pos c7] at hcm ⊢
                  exact e7.trans (Prod.mk.inj hcm).1.symm
                · skip
                  by_cases c8 : x1 = 8
                  · rw [if_neg c0, if_neg c1, if_neg c2, if_neg c3, if_neg c4, if_neg c5, if_neg c6, if_neg c7, if_pos c8] at hcm ⊢
                    exact e4.trans (Prod.mk.inj hcm).1.symm
                  · skip
                    by_cases c9 : x1 = 9
                    · rw [if_neg c0, if_neg c1, if_neg c2, if_neg c3, if_neg c4, if_neg c5, if_neg c6, if_neg c7, if_neg c8, if_pos c9] at hcm ⊢
                      exact e1.trans (Prod.mk.inj hcm).1.symm
                    · skip
                      rw [if_neg c0, if_neg c1, if_neg c2, if_neg c3, if_neg c4, if_neg c5, if_neg c6, if_neg c7, if_neg c8, if_neg c9] at hcm ⊢
                      exact (Prod.mk.inj hcm).1.symm
/-- contract -/
theorem rr_5 {v_x_keptSlots : Int32} {v_x_theSeed : Int64} {v_x_text_length : Int32} {f_x_text_bytes : Nat → Int32} {f_x_told_sizes : Nat → Int32} {f_x_told_cells : Nat → Int32} {v_x_now_place : Int32} {v_x_now_voided : Int32} {v_x_now_counted : Int32} {v_x_acts_size : Int32} {f_x_acts_kinds : Nat → Int32} {f_x_acts_numbers : Nat → Int32} {v_x_sightings_size : Int32} {f_x_sightings_contracts : Nat → Int32} {f_x_sightings_days : Nat → Int32} {v_x_sides_size : Int32} {v_x_kept0_place : Int32} {v_x_kept0_voided : Int32} {v_x_kept0_counted : Int32} {v_x_kept1_place : Int32} {v_x_kept1_voided : Int32} {v_x_kept1_counted : Int32} {v_m_textSize : Int32} {v_m_contracts : Int32} {v_m_births : Int32} {v_m_tides : Int32} {v_m_debts : Int32} {v_m_acts : Int32} {v_m_seen : Int32} {v_m_seed : Int64} {f_m_text : Nat → Int32} {f_m_contract : Nat → Int32} {f_m_birth : Nat → Int32} {f_m_tide : Nat → Int32} {f_m_debt : Nat → Int32} {f_m_page : Nat → Int32} {f_m_book : Nat → Int32} {f_m_kept : Nat → Int32} {f_m_isKept : Nat → Int32} {f_m_seenContract : Nat → Int32} {f_m_seenDay : Nat → Int32} {rm : Int32} {u_m_thrown : Int32} (hR : RR v_x_keptSlots v_x_theSeed v_x_text_length f_x_text_bytes f_x_told_sizes f_x_told_cells v_x_now_place v_x_now_voided v_x_now_counted v_x_acts_size f_x_acts_kinds f_x_acts_numbers v_x_sightings_size f_x_sightings_contracts f_x_sightings_days v_x_sides_size v_x_kept0_place v_x_kept0_voided v_x_kept0_counted v_x_kept1_place v_x_kept1_voided v_x_kept1_counted v_m_textSize v_m_contracts v_m_births v_m_tides v_m_debts v_m_acts v_m_seen v_m_seed f_m_text f_m_contract f_m_birth f_m_tide f_m_debt f_m_page f_m_book f_m_kept f_m_isKept f_m_seenContract f_m_seenDay) (x1 : Int32) (x2 : Int32) (hcm : (rm, u_m_thrown) = f_X7_contract v_m_contracts f_m_contract f_m_page x1 x2) : (f_X6_contract f_x_told_sizes f_x_told_cells v_x_now_place v_x_now_voided v_x_now_counted x1 x2 = rm) ∧ RR v_x_keptSlots v_x_theSeed v_x_text_length f_x_text_bytes f_x_told_sizes f_x_told_cells v_x_now_place v_x_now_voided v_x_now_counted v_x_acts_size f_x_acts_kinds f_x_acts_numbers v_x_sightings_size f_x_sightings_contracts f_x_sightings_days v_x_sides_size v_x_kept0_place v_x_kept0_voided v_x_kept0_counted v_x_kept1_place v_x_kept1_voided v_x_kept1_counted v_m_textSize v_m_contracts v_m_births v_m_tides v_m_debts v_m_acts v_m_seen v_m_seed f_m_text f_m_contract f_m_birth f_m_tide f_m_debt f_m_page f_m_book f_m_kept f_m_isKept f_m_seenContract f_m_seenDay := by
  refine ⟨?_, hR⟩
  obtain ⟨hI, _, hC, hP, _⟩ := hR
  obtain ⟨i1, i2, i3, i4, i5, i6, i7, i8, i9, i10, i11, i12, i13, i14, i15, i16, i17, i18, i19, i20, i21, i22⟩ := hI
  have hc := isCon_eq hC.1.1 i11 i12 x1
  have p0 : f_m_page (0 : Int32).toNatClampNeg = v_x_now_place := pg0 hP.1
  have p1 : f_m_page (1 : Int32).toNatClampNeg = v_x_now_voided := pg1 hP.2.1
  simp only [f_X6_contract, f_X7_contract] at *
  by_cases h : f_X7_noContract v_m_contracts x1 = 0
  · have hr := nc_z i11 i12 h
    obtain ⟨k, hk, rfl⟩ := nI_ex (n := 5) (k := 5) (by decide) hr.1 (by grind)
    obtain ⟨⟨e0, e1, e2, e3, e4⟩, r0, r1, r2, r3, r4, r5, r6, r7, r8⟩ := hC.2.1 k hk hr.2
    obtain ⟨q1, q2⟩ := hP.2.2.1 k hk hr.2
    have hb : f_X3_isByCount v_x_now_counted (nI k) = f_m_page (2 + k) := by
      unfold f_X3_isByCount
      rw [q1]
      have := bit01 (v_x_now_counted >>> (nI k &&& 31))
      grind
    have hend := end_eq (t := f_m_page (2 + k)) hk e0 r0 r1 r3 r4 q2 hP.2.2.2.1 hP.2.2.2.2.1
    have hvo : f_X3_isVoid v_x_now_voided (nI k) = (v_x_now_voided >>> (nI k &&& 31)) &&& 1 := by
      unfold f_X3_isVoid
      have := bit01 (v_x_now_voided >>> (nI k &&& 31))
      grind
    have hb01 : f_m_page (2 + k) = 0 ∨ f_m_page (2 + k) = 1 := by
      rw [q1]; exact bit01 _
    have hv01 := bit01 (v_x_now_voided >>> (nI k &&& 31))
    have z : (5 * nI k + 0).toNatClampNeg = 5 * k ∧ (5 * nI k + 3).toNatClampNeg = 5 * k + 3 ∧ (5 * nI k + 4).toNatClampNeg = 5 * k + 4 := (by decide : ∀ k, k < 5 → ((5 * nI k + 0).toNatClampNeg = 5 * k ∧ (5 * nI k + 3).toNatClampNeg = 5 * k + 3 ∧ (5 * nI k + 4).toNatClampNeg = 5 * k + 4)) k hk
    rw [p0, p1, (con_0 k hk).2.2.2.1, (con_0 k hk).2.2.2.2] at hcm
    rw [if_pos h] at hcm
    rw [if_pos (hc.mpr h), start_k _ hk, length_k _ hk, latest_k _ hk, least_k _ hk, hb, hvo, hend]
    by_cases c0 : x2 = 0
    · subst c0; rw [if_pos rfl, z.1] at hcm; rw [if_pos rfl]; grind
    · rw [if_neg c0] at hcm ⊢
      by_cases c1 : x2 = 1
      · rw [if_pos c1] at hcm ⊢; grind
      · rw [if_neg c1] at hcm ⊢
        by_cases c2 : x2 = 2
        · rw [if_pos c2] at hcm ⊢; grind
        · rw [if_neg c2] at hcm ⊢
          by_cases c3 : x2 = 3
          · subst c3; rw [if_pos rfl, z.2.1] at hcm; rw [if_pos rfl]; grind
          · rw [if_neg c3] at hcm ⊢
            by_cases c4 : x2 = 4
            · subst c4; rw [if_pos rfl, z.2.2] at hcm; rw [if_pos rfl]; grind
            · rw [if_neg c4] at hcm ⊢
              grind
  · rw [if_neg h] at hcm
    rw [if_neg (fun q => h (hc.mp q))]
    grind
/-- put -/
theorem rr_6 {v_x_keptSlots : Int32} {v_x_theSeed : Int64} {v_x_text_length : Int32} {f_x_text_bytes : Nat → Int32} {f_x_told_sizes : Nat → Int32} {f_x_told_cells : Nat → Int32} {v_x_now_place : Int32} {v_x_now_voided : Int32} {v_x_now_counted : Int32} {v_x_acts_size : Int32} {f_x_acts_kinds : Nat → Int32} {f_x_acts_numbers : Nat → Int32} {v_x_sightings_size : Int32} {f_x_sightings_contracts : Nat → Int32} {f_x_sightings_days : Nat → Int32} {v_x_sides_size : Int32} {v_x_kept0_place : Int32} {v_x_kept0_voided : Int32} {v_x_kept0_counted : Int32} {v_x_kept1_place : Int32} {v_x_kept1_voided : Int32} {v_x_kept1_counted : Int32} {v_m_textSize : Int32} {v_m_contracts : Int32} {v_m_births : Int32} {v_m_tides : Int32} {v_m_debts : Int32} {v_m_acts : Int32} {v_m_seen : Int32} {v_m_seed : Int64} {f_m_text : Nat → Int32} {f_m_contract : Nat → Int32} {f_m_birth : Nat → Int32} {f_m_tide : Nat → Int32} {f_m_debt : Nat → Int32} {f_m_page : Nat → Int32} {f_m_book : Nat → Int32} {f_m_kept : Nat → Int32} {f_m_isKept : Nat → Int32} {f_m_seenContract : Nat → Int32} {f_m_seenDay : Nat → Int32} {rx : Int32} {u_x_now_place : Int32} {u_x_acts_size : Int32} {u_x_acts_kinds : Nat → Int32} {u_x_acts_numbers : Nat → Int32} {rm : Int32} {u_m_thrown : Int32} {u_m_acts : Int32} {u_m_page : Nat → Int32} {u_m_book : Nat → Int32} (hR : RR v_x_keptSlots v_x_theSeed v_x_text_length f_x_text_bytes f_x_told_sizes f_x_told_cells v_x_now_place v_x_now_voided v_x_now_counted v_x_acts_size f_x_acts_kinds f_x_acts_numbers v_x_sightings_size f_x_sightings_contracts f_x_sightings_days v_x_sides_size v_x_kept0_place v_x_kept0_voided v_x_kept0_counted v_x_kept1_place v_x_kept1_voided v_x_kept1_counted v_m_textSize v_m_contracts v_m_births v_m_tides v_m_debts v_m_acts v_m_seen v_m_seed f_m_text f_m_contract f_m_birth f_m_tide f_m_debt f_m_page f_m_book f_m_kept f_m_isKept f_m_seenContract f_m_seenDay) (x1 : Int32) (hcx : (rx, u_x_now_place, u_x_acts_size, u_x_acts_kinds, u_x_acts_numbers) = f_X6_put v_x_now_place v_x_acts_size f_x_acts_kinds f_x_acts_numbers x1 ∧ (0 ≤ u_x_acts_size) ∧ (u_x_acts_size ≤ 14)) (hcm : (rm, u_m_thrown, u_m_acts, u_m_page, u_m_book) = f_X7_put v_m_acts f_m_page f_m_book x1 ∧ (0 ≤ u_m_acts) ∧ (u_m_acts ≤ 14)) : (rx = rm) ∧ RR v_x_keptSlots v_x_theSeed v_x_text_length f_x_text_bytes f_x_told_sizes f_x_told_cells u_x_now_place v_x_now_voided v_x_now_counted u_x_acts_size u_x_acts_kinds u_x_acts_numbers v_x_sightings_size f_x_sightings_contracts f_x_sightings_days v_x_sides_size v_x_kept0_place v_x_kept0_voided v_x_kept0_counted v_x_kept1_place v_x_kept1_voided v_x_kept1_counted v_m_textSize v_m_contracts v_m_births v_m_tides v_m_debts u_m_acts v_m_seen v_m_seed f_m_text f_m_contract f_m_birth f_m_tide f_m_debt u_m_page u_m_book f_m_kept f_m_isKept f_m_seenContract f_m_seenDay := by
  obtain ⟨hI, hT, hC, hP, ⟨e7, hA⟩, hQ⟩ := hR
  obtain ⟨hx, hx0, hx1⟩ := hcx
  obtain ⟨hm, hm0, hm1⟩ := hcm
  obtain ⟨i1, i2, i3, i4, i5, i6, i7, i8, i9, i10, i11, i12, i13, i14, i15, i16, i17, i18, i19, i20, i21, i22⟩ := hI
  subst e7
  have hpl := isPlace_eq x1
  have p0 : f_m_page (0 : Int32).toNatClampNeg = v_x_now_place := pg0 hP.1
  unfold f_X6_put f_X6_gapOrNone at hx
  unfold f_X7_put at hm
  by_cases h : f_X7_noPlace x1 = 0
  · have hp := np_z h
    rw [if_pos h, p0] at hm
    rw [if_pos (hpl.mpr h)] at hx
    by_cases hs : x1 = v_x_now_place
    · rw [if_neg (fun q => q hs)] at hx
      rw [if_neg (fun q => q hs.symm)] at hm
      simp only [Prod.mk.injEq] at hx hm
      obtain ⟨rfl, rfl, rfl, rfl, rfl⟩ := hx
      obtain ⟨rfl, rfl, rfl, rfl, rfl⟩ := hm
      exact ⟨rfl, ⟨i1, i2, i3, i4, i5, i6, i7, i8, i9, i10, i11, i12, i13, i14, i15, i16, i17, i18, i19, i20, i21, i22⟩, hT, hC, hP, ⟨rfl, hA⟩, hQ⟩
    · rw [if_pos hs] at hx
      rw [if_pos (fun q => hs q.symm)] at hm
      have hst : stepU 0 v_x_now_place (x1, v_x_now_voided, v_x_now_counted) = (v_x_now_place, v_x_now_voided, v_x_now_counted) := by
        unfold stepU; rw [if_pos rfl]
      have hb := act_both (kk := f_x_acts_kinds) (kn := f_x_acts_numbers) (pg := f_m_page) (bk := f_m_book) i3 i4 hA hP hst
      generalize f_X0_add v_x_acts_size f_x_acts_kinds f_x_acts_numbers 0 v_x_now_place = A1 at hx hb
      generalize f_X7_note v_x_acts_size f_m_page f_m_book = B1 at hm hb
      obtain ⟨a1, a2, a3⟩ := A1
      obtain ⟨b1, b2⟩ := B1
      obtain ⟨hb1, hb2⟩ := hb
      have hb1 : a1 = b1 := hb1
      subst hb1
      have hb2 : ActsOK v_m_contracts f_x_told_cells a1.toNatClampNeg a2 a3 x1 v_x_now_voided v_x_now_counted b2 := hb2
      have hx : (rx, u_x_now_place, u_x_acts_size, u_x_acts_kinds, u_x_acts_numbers) = ((if ¬ v_x_now_place = 13 then v_x_now_place else (-9)), x1, a1, a2, a3) := hx
      have hm : (rm, u_m_thrown, u_m_acts, u_m_page, u_m_book) = (if ¬ v_x_now_place = 13 then (v_x_now_place, 0, a1, upd f_m_page (0 : Int32).toNatClampNeg x1, b2) else ((-9), 0, a1, upd f_m_page (0 : Int32).toNatClampNeg x1, b2)) := hm
      have hP2 := page_upd0 hp.1 hp.2 hP
      by_cases h13 : v_x_now_place = 13
      · rw [if_neg (fun q => q h13)] at hx hm
        simp only [Prod.mk.injEq] at hx hm
        obtain ⟨rfl, rfl, rfl, rfl, rfl⟩ := hx
        obtain ⟨rfl, rfl, rfl, rfl, rfl⟩ := hm
        exact ⟨rfl, ⟨i1, i2, hx0, hx1, i5, i6, i7, i8, i9, i10, i11, i12, i13, i14, i15, i16, i17, i18, hm0, hm1, i21, i22⟩, hT, hC, hP2, ⟨rfl, hb2⟩, hQ⟩
      · rw [if_pos h13] at hx hm
        simp only [Prod.mk.injEq] at hx hm
        obtain ⟨rfl, rfl, rfl, rfl, rfl⟩ := hx
        obtain ⟨rfl, rfl, rfl, rfl, rfl⟩ := hm
        exact ⟨rfl, ⟨i1, i2, hx0, hx1, i5, i6, i7, i8, i9, i10, i11, i12, i13, i14, i15, i16, i17, i18, hm0, hm1, i21, i22⟩, hT, hC, hP2, ⟨rfl, hb2⟩, hQ⟩
  · rw [if_neg h] at hm
    rw [if_neg (fun q => h (hpl.mp q))] at hx
    simp only [Prod.mk.injEq] at hx hm
    obtain ⟨rfl, rfl, rfl, rfl, rfl⟩ := hx
    obtain ⟨rfl, rfl, rfl, rfl, rfl⟩ := hm
    exact ⟨rfl, ⟨i1, i2, i3, i4, i5, i6, i7, i8, i9, i10, i11, i12, i13, i14, i15, i16, i17, i18, i19, i20, i21, i22⟩, hT, hC, hP, ⟨rfl, hA⟩, hQ⟩
/-- turnVoid -/
theorem rr_7 {v_x_keptSlots : Int32} {v_x_theSeed : Int64} {v_x_text_length : Int32} {f_x_text_bytes : Nat → Int32} {f_x_told_sizes : Nat → Int32} {f_x_told_cells : Nat → Int32} {v_x_now_place : Int32} {v_x_now_voided : Int32} {v_x_now_counted : Int32} {v_x_acts_size : Int32} {f_x_acts_kinds : Nat → Int32} {f_x_acts_numbers : Nat → Int32} {v_x_sightings_size : Int32} {f_x_sightings_contracts : Nat → Int32} {f_x_sightings_days : Nat → Int32} {v_x_sides_size : Int32} {v_x_kept0_place : Int32} {v_x_kept0_voided : Int32} {v_x_kept0_counted : Int32} {v_x_kept1_place : Int32} {v_x_kept1_voided : Int32} {v_x_kept1_counted : Int32} {v_m_textSize : Int32} {v_m_contracts : Int32} {v_m_births : Int32} {v_m_tides : Int32} {v_m_debts : Int32} {v_m_acts : Int32} {v_m_seen : Int32} {v_m_seed : Int64} {f_m_text : Nat → Int32} {f_m_contract : Nat → Int32} {f_m_birth : Nat → Int32} {f_m_tide : Nat → Int32} {f_m_debt : Nat → Int32} {f_m_page : Nat → Int32} {f_m_book : Nat → Int32} {f_m_kept : Nat → Int32} {f_m_isKept : Nat → Int32} {f_m_seenContract : Nat → Int32} {f_m_seenDay : Nat → Int32} {rx : Int32} {u_x_now_voided : Int32} {u_x_acts_size : Int32} {u_x_acts_kinds : Nat → Int32} {u_x_acts_numbers : Nat → Int32} {rm : Int32} {u_m_thrown : Int32} {u_m_acts : Int32} {u_m_page : Nat → Int32} {u_m_book : Nat → Int32} (hR : RR v_x_keptSlots v_x_theSeed v_x_text_length f_x_text_bytes f_x_told_sizes f_x_told_cells v_x_now_place v_x_now_voided v_x_now_counted v_x_acts_size f_x_acts_kinds f_x_acts_numbers v_x_sightings_size f_x_sightings_contracts f_x_sightings_days v_x_sides_size v_x_kept0_place v_x_kept0_voided v_x_kept0_counted v_x_kept1_place v_x_kept1_voided v_x_kept1_counted v_m_textSize v_m_contracts v_m_births v_m_tides v_m_debts v_m_acts v_m_seen v_m_seed f_m_text f_m_contract f_m_birth f_m_tide f_m_debt f_m_page f_m_book f_m_kept f_m_isKept f_m_seenContract f_m_seenDay) (x1 : Int32) (hcx : (rx, u_x_now_voided, u_x_acts_size, u_x_acts_kinds, u_x_acts_numbers) = f_X6_turnVoid f_x_told_sizes v_x_now_voided v_x_acts_size f_x_acts_kinds f_x_acts_numbers x1 ∧ (0 ≤ u_x_acts_size) ∧ (u_x_acts_size ≤ 14)) (hcm : (rm, u_m_thrown, u_m_acts, u_m_page, u_m_book) = f_X7_turnVoid v_m_contracts v_m_acts f_m_page f_m_book x1 ∧ (0 ≤ u_m_acts) ∧ (u_m_acts ≤ 14)) : (rx = rm) ∧ RR v_x_keptSlots v_x_theSeed v_x_text_length f_x_text_bytes f_x_told_sizes f_x_told_cells v_x_now_place u_x_now_voided v_x_now_counted u_x_acts_size u_x_acts_kinds u_x_acts_numbers v_x_sightings_size f_x_sightings_contracts f_x_sightings_days v_x_sides_size v_x_kept0_place v_x_kept0_voided v_x_kept0_counted v_x_kept1_place v_x_kept1_voided v_x_kept1_counted v_m_textSize v_m_contracts v_m_births v_m_tides v_m_debts u_m_acts v_m_seen v_m_seed f_m_text f_m_contract f_m_birth f_m_tide f_m_debt u_m_page u_m_book f_m_kept f_m_isKept f_m_seenContract f_m_seenDay := by
  obtain ⟨hI, hT, hC, hP, ⟨e7, hA⟩, hQ⟩ := hR
  obtain ⟨hx, hx0, hx1⟩ := hcx
  obtain ⟨hm, hm0, hm1⟩ := hcm
  obtain ⟨i1, i2, i3, i4, i5, i6, i7, i8, i9, i10, i11, i12, i13, i14, i15, i16, i17, i18, i19, i20, i21, i22⟩ := hI
  subst e7
  have hc := isCon_eq hC.1.1 i11 i12 x1
  have p1 : f_m_page (1 : Int32).toNatClampNeg = v_x_now_voided := pg1 hP.2.1
  unfold f_X6_turnVoid at hx
  unfold f_X7_turnVoid at hm
  by_cases h : f_X7_noContract v_m_contracts x1 = 0
  · have hr := nc_z i11 i12 h
    obtain ⟨k, hk, rfl⟩ := nI_ex (n := 5) (k := 5) (by decide) hr.1 (by grind)
    obtain ⟨v, hv, rfl⟩ := nI_ex (n := 32) (k := 32) (by decide) hP.2.2.2.2.2.1 hP.2.2.2.2.2.2.1
    obtain ⟨w0, w1, w2⟩ := xor5 v hv k hk
    rw [if_pos h, p1] at hm
    rw [if_pos (hc.mpr h)] at hx
    have hst : stepU 1 (nI k) (v_x_now_place, nI v ^^^ (1 <<< (nI k &&& 31)), v_x_now_counted) = (v_x_now_place, nI v, v_x_now_counted) := by
      unfold stepU
      rw [if_neg (by decide), if_pos rfl]
      show (v_x_now_place, nI v ^^^ (1 <<< (nI k &&& 31)) ^^^ (1 <<< (nI k &&& 31)), v_x_now_counted) = _
      rw [xor_self2]
    have hb := act_both (kk := f_x_acts_kinds) (kn := f_x_acts_numbers) (pg := f_m_page) (bk := f_m_book) i3 i4 hA hP hst
    generalize f_X0_add v_x_acts_size f_x_acts_kinds f_x_acts_numbers 1 (nI k) = A1 at hx hb
    generalize f_X7_note v_x_acts_size f_m_page f_m_book = B1 at hm hb
    obtain ⟨a1, a2, a3⟩ := A1
    obtain ⟨b1, b2⟩ := B1
    obtain ⟨hb1, hb2⟩ := hb
    have hb1 : a1 = b1 := hb1
    subst hb1
    have hb2 : ActsOK v_m_contracts f_x_told_cells a1.toNatClampNeg a2 a3 v_x_now_place (nI v ^^^ (1 <<< (nI k &&& 31))) v_x_now_counted b2 := hb2
    have hP2 := page_upd1 w0 w1 hP
    have hx : (rx, u_x_now_voided, u_x_acts_size, u_x_acts_kinds, u_x_acts_numbers) = (if f_X3_isVoid (nI v ^^^ (1 <<< (nI k &&& 31))) (nI k) = 0 then ((0 : Int32), nI v ^^^ (1 <<< (nI k &&& 31)), a1, a2, a3) else ((1 : Int32), nI v ^^^ (1 <<< (nI k &&& 31)), a1, a2, a3)) := hx
    have hm : (rm, u_m_thrown, u_m_acts, u_m_page, u_m_book) = (((upd f_m_page (1 : Int32).toNatClampNeg (nI v ^^^ (1 <<< (nI k &&& 31)))) (1 : Int32).toNatClampNeg >>> (nI k &&& 31)) &&& 1, (0 : Int32), a1, upd f_m_page (1 : Int32).toNatClampNeg (nI v ^^^ (1 <<< (nI k &&& 31))), b2) := hm
    have hu : (upd f_m_page (1 : Int32).toNatClampNeg (nI v ^^^ (1 <<< (nI k &&& 31)))) (1 : Int32).toNatClampNeg = nI v ^^^ (1 <<< (nI k &&& 31)) := if_pos rfl
    rw [hu] at hm
    unfold f_X3_isVoid at hx
    have hbt := bit01 ((nI v ^^^ (1 <<< (nI k &&& 31))) >>> (nI k &&& 31))
    simp only [Prod.mk.injEq] at hm
    obtain ⟨rfl, rfl, rfl, rfl, rfl⟩ := hm
    by_cases hz : ((nI v ^^^ (1 <<< (nI k &&& 31))) >>> (nI k &&& 31)) &&& 1 = 0
    · rw [if_pos hz, if_pos rfl] at hx
      simp only [Prod.mk.injEq] at hx
      obtain ⟨rfl, rfl, rfl, rfl, rfl⟩ := hx
      exact ⟨hz.symm, ⟨i1, i2, hx0, hx1, i5, i6, i7, i8, i9, i10, i11, i12, i13, i14, i15, i16, i17, i18, hm0, hm1, i21, i22⟩, hT, hC, hP2, ⟨rfl, hb2⟩, hQ⟩
    · rw [if_neg hz, if_neg (by decide)] at hx
      simp only [Prod.mk.injEq] at hx
      obtain ⟨rfl, rfl, rfl, rfl, rfl⟩ := hx
      exact ⟨(hbt.resolve_left hz).symm, ⟨i1, i2, hx0, hx1, i5, i6, i7, i8, i9, i10, i11, i12, i13, i14, i15, i16, i17, i18, hm0, hm1, i21, i22⟩, hT, hC, hP2, ⟨rfl, hb2⟩, hQ⟩
  · rw [if_neg h] at hm
    rw [if_neg (fun q => h (hc.mp q))] at hx
    simp only [Prod.mk.injEq] at hx hm
    obtain ⟨rfl, rfl, rfl, rfl, rfl⟩ := hx
    obtain ⟨rfl, rfl, rfl, rfl, rfl⟩ := hm
    exact ⟨rfl, ⟨i1, i2, i3, i4, i5, i6, i7, i8, i9, i10, i11, i12, i13, i14, i15, i16, i17, i18, i19, i20, i21, i22⟩, hT, hC, hP, ⟨rfl, hA⟩, hQ⟩
/-- readOtherwise -/
theorem rr_8 {v_x_keptSlots : Int32} {v_x_theSeed : Int64} {v_x_text_length : Int32} {f_x_text_bytes : Nat → Int32} {f_x_told_sizes : Nat → Int32} {f_x_told_cells : Nat → Int32} {v_x_now_place : Int32} {v_x_now_voided : Int32} {v_x_now_counted : Int32} {v_x_acts_size : Int32} {f_x_acts_kinds : Nat → Int32} {f_x_acts_numbers : Nat → Int32} {v_x_sightings_size : Int32} {f_x_sightings_contracts : Nat → Int32} {f_x_sightings_days : Nat → Int32} {v_x_sides_size : Int32} {v_x_kept0_place : Int32} {v_x_kept0_voided : Int32} {v_x_kept0_counted : Int32} {v_x_kept1_place : Int32} {v_x_kept1_voided : Int32} {v_x_kept1_counted : Int32} {v_m_textSize : Int32} {v_m_contracts : Int32} {v_m_births : Int32} {v_m_tides : Int32} {v_m_debts : Int32} {v_m_acts : Int32} {v_m_seen : Int32} {v_m_seed : Int64} {f_m_text : Nat → Int32} {f_m_contract : Nat → Int32} {f_m_birth : Nat → Int32} {f_m_tide : Nat → Int32} {f_m_debt : Nat → Int32} {f_m_page : Nat → Int32} {f_m_book : Nat → Int32} {f_m_kept : Nat → Int32} {f_m_isKept : Nat → Int32} {f_m_seenContract : Nat → Int32} {f_m_seenDay : Nat → Int32} {rx : Int32} {u_x_now_counted : Int32} {u_x_acts_size : Int32} {u_x_acts_kinds : Nat → Int32} {u_x_acts_numbers : Nat → Int32} {rm : Int32} {u_m_thrown : Int32} {u_m_acts : Int32} {u_m_page : Nat → Int32} {u_m_book : Nat → Int32} (hR : RR v_x_keptSlots v_x_theSeed v_x_text_length f_x_text_bytes f_x_told_sizes f_x_told_cells v_x_now_place v_x_now_voided v_x_now_counted v_x_acts_size f_x_acts_kinds f_x_acts_numbers v_x_sightings_size f_x_sightings_contracts f_x_sightings_days v_x_sides_size v_x_kept0_place v_x_kept0_voided v_x_kept0_counted v_x_kept1_place v_x_kept1_voided v_x_kept1_counted v_m_textSize v_m_contracts v_m_births v_m_tides v_m_debts v_m_acts v_m_seen v_m_seed f_m_text f_m_contract f_m_birth f_m_tide f_m_debt f_m_page f_m_book f_m_kept f_m_isKept f_m_seenContract f_m_seenDay) (x1 : Int32) (hcx : (rx, u_x_now_counted, u_x_acts_size, u_x_acts_kinds, u_x_acts_numbers) = f_X6_readOtherwise f_x_told_sizes f_x_told_cells v_x_now_counted v_x_acts_size f_x_acts_kinds f_x_acts_numbers x1 ∧ (0 ≤ u_x_acts_size) ∧ (u_x_acts_size ≤ 14)) (hcm : (rm, u_m_thrown, u_m_acts, u_m_page, u_m_book) = f_X7_readOtherwise v_m_contracts v_m_acts f_m_page f_m_book x1 ∧ (0 ≤ u_m_acts) ∧ (u_m_acts ≤ 14)) : (rx = rm) ∧ RR v_x_keptSlots v_x_theSeed v_x_text_length f_x_text_bytes f_x_told_sizes f_x_told_cells v_x_now_place v_x_now_voided u_x_now_counted u_x_acts_size u_x_acts_kinds u_x_acts_numbers v_x_sightings_size f_x_sightings_contracts f_x_sightings_days v_x_sides_size v_x_kept0_place v_x_kept0_voided v_x_kept0_counted v_x_kept1_place v_x_kept1_voided v_x_kept1_counted v_m_textSize v_m_contracts v_m_births v_m_tides v_m_debts u_m_acts v_m_seen v_m_seed f_m_text f_m_contract f_m_birth f_m_tide f_m_debt u_m_page u_m_book f_m_kept f_m_isKept f_m_seenContract f_m_seenDay := by
  obtain ⟨hI, hT, hC, hP, ⟨e7, hA⟩, hQ⟩ := hR
  obtain ⟨hx, hx0, hx1⟩ := hcx
  obtain ⟨hm, hm0, hm1⟩ := hcm
  obtain ⟨i1, i2, i3, i4, i5, i6, i7, i8, i9, i10, i11, i12, i13, i14, i15, i16, i17, i18, i19, i20, i21, i22⟩ := hI
  subst e7
  have hc := isCon_eq hC.1.1 i11 i12 x1
  unfold f_X6_readOtherwise at hx
  unfold f_X7_readOtherwise at hm
  by_cases h : f_X7_noContract v_m_contracts x1 = 0
  · have hr := nc_z i11 i12 h
    obtain ⟨k, hk, rfl⟩ := nI_ex (n := 5) (k := 5) (by decide) hr.1 (by grind)
    obtain ⟨v, hv, rfl⟩ := nI_ex (n := 32) (k := 32) (by decide) hP.2.2.2.2.2.2.2.1 hP.2.2.2.2.2.2.2.2
    obtain ⟨w0, w1, w2⟩ := xor5 v hv k hk
    obtain ⟨q1, q2⟩ := hP.2.2.1 k hk hr.2
    rw [if_pos h, (con_0 k hk).2.2.2.1, (con_0 k hk).2.2.2.2, q2] at hm
    rw [if_pos (hc.mpr h), length_k _ hk] at hx
    have hbt := bit01 (nI v >>> (nI k &&& 31))
    have hbc : f_X3_isByCount (nI v) (nI k) = f_m_page (2 + k) := by
      unfold f_X3_isByCount
      rw [q1]
      grind
    rw [hbc] at hx
    by_cases hl : f_m_page (2 + k) = 0 ∧ ¬ f_x_told_cells (5 * k + 2) ≤ 9
    · rw [if_neg (fun q => q hl.1), if_neg hl.2] at hx hm
      simp only [Prod.mk.injEq] at hx hm
      obtain ⟨rfl, rfl, rfl, rfl, rfl⟩ := hx
      obtain ⟨rfl, rfl, rfl, rfl, rfl⟩ := hm
      exact ⟨rfl, ⟨i1, i2, i3, i4, i5, i6, i7, i8, i9, i10, i11, i12, i13, i14, i15, i16, i17, i18, i19, i20, i21, i22⟩, hT, hC, hP, ⟨rfl, hA⟩, hQ⟩
    · have hx : (rx, u_x_now_counted, u_x_acts_size, u_x_acts_kinds, u_x_acts_numbers) = f_X6_readOtherwise_j37 (nI v) v_x_acts_size f_x_acts_kinds f_x_acts_numbers (nI k) := by
        rw [hx]
        by_cases z : f_m_page (2 + k) = 0
        · rw [if_neg (fun q => q z), if_pos (Classical.byContradiction (fun q => hl ⟨z, q⟩))]
        · rw [if_pos z]
      have hm : (rm, u_m_thrown, u_m_acts, u_m_page, u_m_book) = f_X7_readOtherwise_j43 v_x_acts_size f_m_page f_m_book (nI k) := by
        rw [hm]
        by_cases z : f_m_page (2 + k) = 0
        · rw [if_neg (fun q => q z), if_pos (Classical.byContradiction (fun q => hl ⟨z, q⟩))]
        · rw [if_pos z]
      unfold f_X6_readOtherwise_j37 at hx
      unfold f_X7_readOtherwise_j43 at hm
      rw [(con_0 k hk).2.2.2.1] at hm
      have hst : stepU 2 (nI k) (v_x_now_place, v_x_now_voided, nI v ^^^ (1 <<< (nI k &&& 31))) = (v_x_now_place, v_x_now_voided, nI v) := by
        unfold stepU
        rw [if_neg (by decide), if_neg (by decide)]
        show (v_x_now_place, v_x_now_voided, nI v ^^^ (1 <<< (nI k &&& 31)) ^^^ (1 <<< (nI k &&& 31))) = _
        rw [xor_self2]
      have hb := act_both (kk := f_x_acts_kinds) (kn := f_x_acts_numbers) (pg := f_m_page) (bk := f_m_book) i3 i4 hA hP hst
      generalize f_X0_add v_x_acts_size f_x_acts_kinds f_x_acts_numbers 2 (nI k) = A1 at hx hb
      generalize f_X7_note v_x_acts_size f_m_page f_m_book = B1 at hm hb
      obtain ⟨a1, a2, a3⟩ := A1
      obtain ⟨b1, b2⟩ := B1
      obtain ⟨hb1, hb2⟩ := hb
      have hb1 : a1 = b1 := hb1
      subst hb1
      have hb2 : ActsOK v_m_contracts f_x_told_cells a1.toNatClampNeg a2 a3 v_x_now_place v_x_now_voided (nI v ^^^ (1 <<< (nI k &&& 31))) b2 := hb2
      have hx : (rx, u_x_now_counted, u_x_acts_size, u_x_acts_kinds, u_x_acts_numbers) = (if f_X3_isByCount (nI v ^^^ (1 <<< (nI k &&& 31))) (nI k) = 0 then ((0 : Int32), nI v ^^^ (1 <<< (nI k &&& 31)), a1, a2, a3) else ((1 : Int32), nI v ^^^ (1 <<< (nI k &&& 31)), a1, a2, a3)) := hx
      have hm : (rm, u_m_thrown, u_m_acts, u_m_page, u_m_book) = ((upd f_m_page (2 + k) (1 - f_m_page (2 + k))) (2 + k), 0, a1, upd f_m_page (2 + k) (1 - f_m_page (2 + k)), b2) := hm
      have hu : (upd f_m_page (2 + k) (1 - f_m_page (2 + k))) (2 + k) = 1 - f_m_page (2 + k) := if_pos rfl
      have hP2 : PageOK v_m_contracts f_x_told_cells (upd f_m_page (2 + k) (1 - f_m_page (2 + k))) v_x_now_place v_x_now_voided (nI v ^^^ (1 <<< (nI k &&& 31))) := by
        obtain ⟨p0, p1, p2, p3, p4, p5, p6, p7, p8⟩ := hP
        refine ⟨(if_neg (by omega)).trans p0, (if_neg (by omega)).trans p1, fun j hj hc2 => ?_, p3, p4, p5, p6, w0, w1⟩
        obtain ⟨c1, c2⟩ := p2 j hj hc2
        refine ⟨?_, (if_neg (by omega)).trans c2⟩
        rw [w2 j hj]
        unfold upd
        by_cases hjk : j = k
        · subst hjk
          rw [if_pos rfl, if_pos rfl, q1]
        · rw [if_neg (by omega), if_neg hjk]
          exact c1
      have hk2 := w2 k hk
      rw [if_pos rfl, ← q1] at hk2
      unfold f_X3_isByCount at hx
      rw [hk2] at hx
      rw [hu] at hm
      have hpg : f_m_page (2 + k) = 0 ∨ f_m_page (2 + k) = 1 := by rw [q1]; exact hbt
      simp only [Prod.mk.injEq] at hm
      obtain ⟨rfl, rfl, rfl, rfl, rfl⟩ := hm
      rcases hpg with hz | hz
      · rw [hz, if_neg (by decide)] at hx
        simp only [Prod.mk.injEq] at hx
        obtain ⟨rfl, rfl, rfl, rfl, rfl⟩ := hx
        refine ⟨?_, ⟨i1, i2, hx0, hx1, i5, i6, i7, i8, i9, i10, i11, i12, i13, i14, i15, i16, i17, i18, hm0, hm1, i21, i22⟩, hT, hC, hP2, ⟨rfl, hb2⟩, hQ⟩
        rw [hz]; rfl
      · rw [hz, if_pos (by decide)] at hx
        simp only [Prod.mk.injEq] at hx
        obtain ⟨rfl, rfl, rfl, rfl, rfl⟩ := hx
        refine ⟨?_, ⟨i1, i2, hx0, hx1, i5, i6, i7, i8, i9, i10, i11, i12, i13, i14, i15, i16, i17, i18, hm0, hm1, i21, i22⟩, hT, hC, hP2, ⟨rfl, hb2⟩, hQ⟩
        rw [hz]; rfl
  · rw [if_neg h] at hm
    rw [if_neg (fun q => h (hc.mp q))] at hx
    simp only [Prod.mk.injEq] at hx hm
    obtain ⟨rfl, rfl, rfl, rfl, rfl⟩ := hx
    obtain ⟨rfl, rfl, rfl, rfl, rfl⟩ := hm
    exact ⟨rfl, ⟨i1, i2, i3, i4, i5, i6, i7, i8, i9, i10, i11, i12, i13, i14, i15, i16, i17, i18, i19, i20, i21, i22⟩, hT, hC, hP, ⟨rfl, hA⟩, hQ⟩
/-- undo -/
theorem rr_9 {v_x_keptSlots : Int32} {v_x_theSeed : Int64} {v_x_text_length : Int32} {f_x_text_bytes : Nat → Int32} {f_x_told_sizes : Nat → Int32} {f_x_told_cells : Nat → Int32} {v_x_now_place : Int32} {v_x_now_voided : Int32} {v_x_now_counted : Int32} {v_x_acts_size : Int32} {f_x_acts_kinds : Nat → Int32} {f_x_acts_numbers : Nat → Int32} {v_x_sightings_size : Int32} {f_x_sightings_contracts : Nat → Int32} {f_x_sightings_days : Nat → Int32} {v_x_sides_size : Int32} {v_x_kept0_place : Int32} {v_x_kept0_voided : Int32} {v_x_kept0_counted : Int32} {v_x_kept1_place : Int32} {v_x_kept1_voided : Int32} {v_x_kept1_counted : Int32} {v_m_textSize : Int32} {v_m_contracts : Int32} {v_m_births : Int32} {v_m_tides : Int32} {v_m_debts : Int32} {v_m_acts : Int32} {v_m_seen : Int32} {v_m_seed : Int64} {f_m_text : Nat → Int32} {f_m_contract : Nat → Int32} {f_m_birth : Nat → Int32} {f_m_tide : Nat → Int32} {f_m_debt : Nat → Int32} {f_m_page : Nat → Int32} {f_m_book : Nat → Int32} {f_m_kept : Nat → Int32} {f_m_isKept : Nat → Int32} {f_m_seenContract : Nat → Int32} {f_m_seenDay : Nat → Int32} {rx : Int32} {u_x_now_place : Int32} {u_x_now_voided : Int32} {u_x_now_counted : Int32} {u_x_acts_size : Int32} {rm : Int32} {u_m_thrown : Int32} {u_m_acts : Int32} {u_m_page : Nat → Int32} (hR : RR v_x_keptSlots v_x_theSeed v_x_text_length f_x_text_bytes f_x_told_sizes f_x_told_cells v_x_now_place v_x_now_voided v_x_now_counted v_x_acts_size f_x_acts_kinds f_x_acts_numbers v_x_sightings_size f_x_sightings_contracts f_x_sightings_days v_x_sides_size v_x_kept0_place v_x_kept0_voided v_x_kept0_counted v_x_kept1_place v_x_kept1_voided v_x_kept1_counted v_m_textSize v_m_contracts v_m_births v_m_tides v_m_debts v_m_acts v_m_seen v_m_seed f_m_text f_m_contract f_m_birth f_m_tide f_m_debt f_m_page f_m_book f_m_kept f_m_isKept f_m_seenContract f_m_seenDay) (hcx : (rx, u_x_now_place, u_x_now_voided, u_x_now_counted, u_x_acts_size) = f_X6_undo v_x_now_place v_x_now_voided v_x_now_counted v_x_acts_size f_x_acts_kinds f_x_acts_numbers ∧ (0 ≤ u_x_acts_size) ∧ (u_x_acts_size ≤ 14)) (hcm : (rm, u_m_thrown, u_m_acts, u_m_page) = f_X7_undo v_m_acts f_m_page f_m_book ∧ (0 ≤ u_m_acts) ∧ (u_m_acts ≤ 14)) : (rx = rm) ∧ RR v_x_keptSlots v_x_theSeed v_x_text_length f_x_text_bytes f_x_told_sizes f_x_told_cells u_x_now_place u_x_now_voided u_x_now_counted u_x_acts_size f_x_acts_kinds f_x_acts_numbers v_x_sightings_size f_x_sightings_contracts f_x_sightings_days v_x_sides_size v_x_kept0_place v_x_kept0_voided v_x_kept0_counted v_x_kept1_place v_x_kept1_voided v_x_kept1_counted v_m_textSize v_m_contracts v_m_births v_m_tides v_m_debts u_m_acts v_m_seen v_m_seed f_m_text f_m_contract f_m_birth f_m_tide f_m_debt u_m_page f_m_book f_m_kept f_m_isKept f_m_seenContract f_m_seenDay := by
  obtain ⟨hI, hT, hC, hP, ⟨e7, hA⟩, hQ⟩ := hR
  obtain ⟨hx, hx0, hx1⟩ := hcx
  obtain ⟨hm, hm0, hm1⟩ := hcm
  obtain ⟨i1, i2, i3, i4, i5, i6, i7, i8, i9, i10, i11, i12, i13, i14, i15, i16, i17, i18, i19, i20, i21, i22⟩ := hI
  subst e7
  unfold f_X6_undo f_X0_size at hx
  by_cases h : v_x_acts_size = 0
  · unfold f_X7_undo at hm
    rw [if_neg (fun q => q h)] at hx hm
    simp only [Prod.mk.injEq] at hx hm
    obtain ⟨rfl, rfl, rfl, rfl, rfl⟩ := hx
    obtain ⟨rfl, rfl, rfl, rfl⟩ := hm
    exact ⟨rfl, ⟨i1, i2, i3, i4, i5, i6, i7, i8, i9, i10, i11, i12, i13, i14, i15, i16, i17, i18, i19, i20, i21, i22⟩, hT, hC, hP, ⟨rfl, hA⟩, hQ⟩
  · rw [if_pos h] at hx
    obtain ⟨n, hn, rfl⟩ := nI_ex (n := 15) (k := 15) (by decide) i3 (by grind)
    obtain ⟨a, rfl⟩ : ∃ a, n = a + 1 := ⟨n - 1, by
      have : n ≠ 0 := fun q => h (by rw [q]; rfl)
      omega⟩
    rw [undo_copy f_m_book f_m_page (by omega)] at hm
    simp only [Prod.mk.injEq] at hm
    obtain ⟨rfl, rfl, rfl, rfl⟩ := hm
    rw [nI_clamp (by omega)] at hA
    obtain ⟨T, hT0, hj⟩ := hA
    obtain ⟨t1, t2⟩ := hj a (by omega)
    have hP2 : PageOK v_m_contracts f_x_told_cells (cpy f_m_page (fun q => f_m_book (12 * a + q)) 0 12) (T a).1 (T a).2.1 (T a).2.2 := page_congr (fun q hq => by
      have := cpy_in (w := f_m_page) (pg := fun q => f_m_book (12 * a + q)) (b := 0) hq
      rw [Nat.zero_add] at this
      exact this) t2
    have e1 : nI (a + 1) - 1 = nI a := nI_pred a
    have hle : ¬ nI (a + 1) ≤ 0 := nI_nle (by omega) (by omega)
    have hlk : f_X0_lastKind (nI (a + 1)) f_x_acts_kinds = f_x_acts_kinds a := by
      unfold f_X0_lastKind
      rw [if_neg hle, e1, nI_clamp (by omega)]
    have hln : f_X0_lastNumber (nI (a + 1)) f_x_acts_numbers = f_x_acts_numbers a := by
      unfold f_X0_lastNumber
      rw [if_neg hle, e1, nI_clamp (by omega)]
    have hrl : f_X0_removeLast (nI (a + 1)) = nI a := by
      unfold f_X0_removeLast
      rw [if_neg hle, e1]
    rw [hT0] at t1
    have hx : (rx, u_x_now_place, u_x_now_voided, u_x_now_counted, u_x_acts_size) = (nI a, (T a).1, (T a).2.1, (T a).2.2, nI a) := by
      rw [hx, hlk, hln]
      simp only [f_X6_undo_j86, ap1, f_X0_size, hrl, f_X3_turnVoided, f_X3_turnReading, t1]
      unfold stepU
      by_cases k0 : f_x_acts_kinds a = 0
      · rw [if_pos k0, if_pos k0]
      · rw [if_neg k0, if_neg k0]
        by_cases k1 : f_x_acts_kinds a = 1
        · rw [if_pos k1, if_pos k1]
        · rw [if_neg k1, if_neg k1]
    simp only [Prod.mk.injEq] at hx
    obtain ⟨rfl, rfl, rfl, rfl, rfl⟩ := hx
    refine ⟨rfl, ⟨i1, i2, hx0, hx1, i5, i6, i7, i8, i9, i10, i11, i12, i13, i14, i15, i16, i17, i18, hm0, hm1, i21, i22⟩, hT, hC, hP2, ⟨rfl, ?_⟩, hQ⟩
    rw [nI_clamp (by omega)]
    exact ⟨T, rfl, fun j hj2 => hj j (by omega)⟩
/-- broken -/
theorem rr_10 {v_x_keptSlots : Int32} {v_x_theSeed : Int64} {v_x_text_length : Int32} {f_x_text_bytes : Nat → Int32} {f_x_told_sizes : Nat → Int32} {f_x_told_cells : Nat → Int32} {v_x_now_place : Int32} {v_x_now_voided : Int32} {v_x_now_counted : Int32} {v_x_acts_size : Int32} {f_x_acts_kinds : Nat → Int32} {f_x_acts_numbers : Nat → Int32} {v_x_sightings_size : Int32} {f_x_sightings_contracts : Nat → Int32} {f_x_sightings_days : Nat → Int32} {v_x_sides_size : Int32} {v_x_kept0_place : Int32} {v_x_kept0_voided : Int32} {v_x_kept0_counted : Int32} {v_x_kept1_place : Int32} {v_x_kept1_voided : Int32} {v_x_kept1_counted : Int32} {v_m_textSize : Int32} {v_m_contracts : Int32} {v_m_births : Int32} {v_m_tides : Int32} {v_m_debts : Int32} {v_m_acts : Int32} {v_m_seen : Int32} {v_m_seed : Int64} {f_m_text : Nat → Int32} {f_m_contract : Nat → Int32} {f_m_birth : Nat → Int32} {f_m_tide : Nat → Int32} {f_m_debt : Nat → Int32} {f_m_page : Nat → Int32} {f_m_book : Nat → Int32} {f_m_kept : Nat → Int32} {f_m_isKept : Nat → Int32} {f_m_seenContract : Nat → Int32} {f_m_seenDay : Nat → Int32} {rm : Int32} {u_m_thrown : Int32} (hR : RR v_x_keptSlots v_x_theSeed v_x_text_length f_x_text_bytes f_x_told_sizes f_x_told_cells v_x_now_place v_x_now_voided v_x_now_counted v_x_acts_size f_x_acts_kinds f_x_acts_numbers v_x_sightings_size f_x_sightings_contracts f_x_sightings_days v_x_sides_size v_x_kept0_place v_x_kept0_voided v_x_kept0_counted v_x_kept1_place v_x_kept1_voided v_x_kept1_counted v_m_textSize v_m_contracts v_m_births v_m_tides v_m_debts v_m_acts v_m_seen v_m_seed f_m_text f_m_contract f_m_birth f_m_tide f_m_debt f_m_page f_m_book f_m_kept f_m_isKept f_m_seenContract f_m_seenDay) (x1 : Int32) (hcm : (rm, u_m_thrown) = f_X7_broken v_m_contracts f_m_contract f_m_page x1) : (f_X6_broken f_x_told_sizes f_x_told_cells v_x_now_voided v_x_now_counted x1 = rm) ∧ RR v_x_keptSlots v_x_theSeed v_x_text_length f_x_text_bytes f_x_told_sizes f_x_told_cells v_x_now_place v_x_now_voided v_x_now_counted v_x_acts_size f_x_acts_kinds f_x_acts_numbers v_x_sightings_size f_x_sightings_contracts f_x_sightings_days v_x_sides_size v_x_kept0_place v_x_kept0_voided v_x_kept0_counted v_x_kept1_place v_x_kept1_voided v_x_kept1_counted v_m_textSize v_m_contracts v_m_births v_m_tides v_m_debts v_m_acts v_m_seen v_m_seed f_m_text f_m_contract f_m_birth f_m_tide f_m_debt f_m_page f_m_book f_m_kept f_m_isKept f_m_seenContract f_m_seenDay := by
  refine ⟨?_, hR⟩
  obtain ⟨hI, _, hC, hP, _⟩ := hR
  have h5 : v_m_contracts ≤ 5 := hI.2.2.2.2.2.2.2.2.2.2.2.1
  have hpl := isPlace_eq x1
  simp only [f_X6_broken, f_X7_broken] at *
  by_cases h : f_X7_noPlace x1 = 0
  · have hp := np_z h
    have hb := broken_eq hC hP h5 hp.1 hp.2
    rw [if_pos h] at hcm
    rw [if_neg (hpl.mpr h), hb]
    grind
  · rw [if_neg h] at hcm
    rw [if_pos (by grind)]
    grind
/-- best -/
theorem rr_11 {v_x_keptSlots : Int32} {v_x_theSeed : Int64} {v_x_text_length : Int32} {f_x_text_bytes : Nat → Int32} {f_x_told_sizes : Nat → Int32} {f_x_told_cells : Nat → Int32} {v_x_now_place : Int32} {v_x_now_voided : Int32} {v_x_now_counted : Int32} {v_x_acts_size : Int32} {f_x_acts_kinds : Nat → Int32} {f_x_acts_numbers : Nat → Int32} {v_x_sightings_size : Int32} {f_x_sightings_contracts : Nat → Int32} {f_x_sightings_days : Nat → Int32} {v_x_sides_size : Int32} {v_x_kept0_place : Int32} {v_x_kept0_voided : Int32} {v_x_kept0_counted : Int32} {v_x_kept1_place : Int32} {v_x_kept1_voided : Int32} {v_x_kept1_counted : Int32} {v_m_textSize : Int32} {v_m_contracts : Int32} {v_m_births : Int32} {v_m_tides : Int32} {v_m_debts : Int32} {v_m_acts : Int32} {v_m_seen : Int32} {v_m_seed : Int64} {f_m_text : Nat → Int32} {f_m_contract : Nat → Int32} {f_m_birth : Nat → Int32} {f_m_tide : Nat → Int32} {f_m_debt : Nat → Int32} {f_m_page : Nat → Int32} {f_m_book : Nat → Int32} {f_m_kept : Nat → Int32} {f_m_isKept : Nat → Int32} {f_m_seenContract : Nat → Int32} {f_m_seenDay : Nat → Int32} {rm : Int32} {u_m_thrown : Int32} (hR : RR v_x_keptSlots v_x_theSeed v_x_text_length f_x_text_bytes f_x_told_sizes f_x_told_cells v_x_now_place v_x_now_voided v_x_now_counted v_x_acts_size f_x_acts_kinds f_x_acts_numbers v_x_sightings_size f_x_sightings_contracts f_x_sightings_days v_x_sides_size v_x_kept0_place v_x_kept0_voided v_x_kept0_counted v_x_kept1_place v_x_kept1_voided v_x_kept1_counted v_m_textSize v_m_contracts v_m_births v_m_tides v_m_debts v_m_acts v_m_seen v_m_seed f_m_text f_m_contract f_m_birth f_m_tide f_m_debt f_m_page f_m_book f_m_kept f_m_isKept f_m_seenContract f_m_seenDay) (x1 : Int32) (x2 : Int32) (hcm : (rm, u_m_thrown) = f_X7_best v_m_contracts f_m_contract f_m_page x1 x2) : (f_X6_best f_x_told_sizes f_x_told_cells v_x_now_voided v_x_now_counted x1 x2 = rm) ∧ RR v_x_keptSlots v_x_theSeed v_x_text_length f_x_text_bytes f_x_told_sizes f_x_told_cells v_x_now_place v_x_now_voided v_x_now_counted v_x_acts_size f_x_acts_kinds f_x_acts_numbers v_x_sightings_size f_x_sightings_contracts f_x_sightings_days v_x_sides_size v_x_kept0_place v_x_kept0_voided v_x_kept0_counted v_x_kept1_place v_x_kept1_voided v_x_kept1_counted v_m_textSize v_m_contracts v_m_births v_m_tides v_m_debts v_m_acts v_m_seen v_m_seed f_m_text f_m_contract f_m_birth f_m_tide f_m_debt f_m_page f_m_book f_m_kept f_m_isKept f_m_seenContract f_m_seenDay := by
  refine ⟨?_, hR⟩
  obtain ⟨hI, _, hC, hP, _⟩ := hR
  obtain ⟨i1, i2, i3, i4, i5, i6, i7, i8, i9, i10, i11, i12, i13, i14, i15, i16, i17, i18, i19, i20, i21, i22⟩ := hI
  have hbits := bits_eq i11 i12 x1
  have hz : f_X6_isZeroOrOne x2 = f_X7_in x2.toInt64 0 1 := by
    rw [in_0_1]; unfold f_X6_isZeroOrOne; grind
  have hl := best_loop hC hP i12 x1 x2 15 0 (-9) (-9) (-9) 9999 (by omega) (by omega) (Or.inl ⟨rfl, rfl, rfl, rfl⟩)
  simp only [f_X6_best, f_X7_best] at *
  rw [size_0, hC.1.1, hbits, hz]
  by_cases c1 : f_X7_in x1.toInt64 0 ((1 <<< (v_m_contracts &&& 31)) - 1).toInt64 = 0
  · rw [if_pos c1] at hcm ⊢; grind
  · rw [if_neg c1] at hcm ⊢
    by_cases c2 : f_X7_in x2.toInt64 0 1 = 0
    · rw [if_neg (fun q => q c2)] at hcm ⊢; grind
    · rw [if_pos c2] at hcm ⊢
      have hl2 := hcm.trans hl
      exact (Prod.mk.inj hl2).1.symm
/-- quarrel -/
theorem rr_12 {v_x_keptSlots : Int32} {v_x_theSeed : Int64} {v_x_text_length : Int32} {f_x_text_bytes : Nat → Int32} {f_x_told_sizes : Nat → Int32} {f_x_told_cells : Nat → Int32} {v_x_now_place : Int32} {v_x_now_voided : Int32} {v_x_now_counted : Int32} {v_x_acts_size : Int32} {f_x_acts_kinds : Nat → Int32} {f_x_acts_numbers : Nat → Int32} {v_x_sightings_size : Int32} {f_x_sightings_contracts : Nat → Int32} {f_x_sightings_days : Nat → Int32} {v_x_sides_size : Int32} {v_x_kept0_place : Int32} {v_x_kept0_voided : Int32} {v_x_kept0_counted : Int32} {v_x_kept1_place : Int32} {v_x_kept1_voided : Int32} {v_x_kept1_counted : Int32} {v_m_textSize : Int32} {v_m_contracts : Int32} {v_m_births : Int32} {v_m_tides : Int32} {v_m_debts : Int32} {v_m_acts : Int32} {v_m_seen : Int32} {v_m_seed : Int64} {f_m_text : Nat → Int32} {f_m_contract : Nat → Int32} {f_m_birth : Nat → Int32} {f_m_tide : Nat → Int32} {f_m_debt : Nat → Int32} {f_m_page : Nat → Int32} {f_m_book : Nat → Int32} {f_m_kept : Nat → Int32} {f_m_isKept : Nat → Int32} {f_m_seenContract : Nat → Int32} {f_m_seenDay : Nat → Int32} {rm : Int32} {u_m_thrown : Int32} (hR : RR v_x_keptSlots v_x_theSeed v_x_text_length f_x_text_bytes f_x_told_sizes f_x_told_cells v_x_now_place v_x_now_voided v_x_now_counted v_x_acts_size f_x_acts_kinds f_x_acts_numbers v_x_sightings_size f_x_sightings_contracts f_x_sightings_days v_x_sides_size v_x_kept0_place v_x_kept0_voided v_x_kept0_counted v_x_kept1_place v_x_kept1_voided v_x_kept1_counted v_m_textSize v_m_contracts v_m_births v_m_tides v_m_debts v_m_acts v_m_seen v_m_seed f_m_text f_m_contract f_m_birth f_m_tide f_m_debt f_m_page f_m_book f_m_kept f_m_isKept f_m_seenContract f_m_seenDay) (hcm : (rm, u_m_thrown) = f_X7_quarrel v_m_contracts f_m_contract f_m_page) : (f_X6_quarrel f_x_told_sizes f_x_told_cells v_x_now_voided v_x_now_counted = rm) ∧ RR v_x_keptSlots v_x_theSeed v_x_text_length f_x_text_bytes f_x_told_sizes f_x_told_cells v_x_now_place v_x_now_voided v_x_now_counted v_x_acts_size f_x_acts_kinds f_x_acts_numbers v_x_sightings_size f_x_sightings_contracts f_x_sightings_days v_x_sides_size v_x_kept0_place v_x_kept0_voided v_x_kept0_counted v_x_kept1_place v_x_kept1_voided v_x_kept1_counted v_m_textSize v_m_contracts v_m_births v_m_tides v_m_debts v_m_acts v_m_seen v_m_seed f_m_text f_m_contract f_m_birth f_m_tide f_m_debt f_m_page f_m_book f_m_kept f_m_isKept f_m_seenContract f_m_seenDay := by
  refine ⟨?_, hR⟩
  have k := hcm.trans (quarrel_eq hR.2.2.1 hR.2.2.2.1 hR.1.2.2.2.2.2.2.2.2.2.2.2.1)
  exact (Prod.mk.inj k).1.symm
/-- drop -/
theorem rr_13 {v_x_keptSlots : Int32} {v_x_theSeed : Int64} {v_x_text_length : Int32} {f_x_text_bytes : Nat → Int32} {f_x_told_sizes : Nat → Int32} {f_x_told_cells : Nat → Int32} {v_x_now_place : Int32} {v_x_now_voided : Int32} {v_x_now_counted : Int32} {v_x_acts_size : Int32} {f_x_acts_kinds : Nat → Int32} {f_x_acts_numbers : Nat → Int32} {v_x_sightings_size : Int32} {f_x_sightings_contracts : Nat → Int32} {f_x_sightings_days : Nat → Int32} {v_x_sides_size : Int32} {v_x_kept0_place : Int32} {v_x_kept0_voided : Int32} {v_x_kept0_counted : Int32} {v_x_kept1_place : Int32} {v_x_kept1_voided : Int32} {v_x_kept1_counted : Int32} {v_m_textSize : Int32} {v_m_contracts : Int32} {v_m_births : Int32} {v_m_tides : Int32} {v_m_debts : Int32} {v_m_acts : Int32} {v_m_seen : Int32} {v_m_seed : Int64} {f_m_text : Nat → Int32} {f_m_contract : Nat → Int32} {f_m_birth : Nat → Int32} {f_m_tide : Nat → Int32} {f_m_debt : Nat → Int32} {f_m_page : Nat → Int32} {f_m_book : Nat → Int32} {f_m_kept : Nat → Int32} {f_m_isKept : Nat → Int32} {f_m_seenContract : Nat → Int32} {f_m_seenDay : Nat → Int32} {rm : Int32} {u_m_thrown : Int32} (hR : RR v_x_keptSlots v_x_theSeed v_x_text_length f_x_text_bytes f_x_told_sizes f_x_told_cells v_x_now_place v_x_now_voided v_x_now_counted v_x_acts_size f_x_acts_kinds f_x_acts_numbers v_x_sightings_size f_x_sightings_contracts f_x_sightings_days v_x_sides_size v_x_kept0_place v_x_kept0_voided v_x_kept0_counted v_x_kept1_place v_x_kept1_voided v_x_kept1_counted v_m_textSize v_m_contracts v_m_births v_m_tides v_m_debts v_m_acts v_m_seen v_m_seed f_m_text f_m_contract f_m_birth f_m_tide f_m_debt f_m_page f_m_book f_m_kept f_m_isKept f_m_seenContract f_m_seenDay) (hcm : (rm, u_m_thrown) = f_X7_drop v_m_contracts f_m_contract f_m_page) : (f_X6_drop f_x_told_sizes f_x_told_cells v_x_now_voided v_x_now_counted = rm) ∧ RR v_x_keptSlots v_x_theSeed v_x_text_length f_x_text_bytes f_x_told_sizes f_x_told_cells v_x_now_place v_x_now_voided v_x_now_counted v_x_acts_size f_x_acts_kinds f_x_acts_numbers v_x_sightings_size f_x_sightings_contracts f_x_sightings_days v_x_sides_size v_x_kept0_place v_x_kept0_voided v_x_kept0_counted v_x_kept1_place v_x_kept1_voided v_x_kept1_counted v_m_textSize v_m_contracts v_m_births v_m_tides v_m_debts v_m_acts v_m_seen v_m_seed f_m_text f_m_contract f_m_birth f_m_tide f_m_debt f_m_page f_m_book f_m_kept f_m_isKept f_m_seenContract f_m_seenDay := by
  refine ⟨?_, hR⟩
  obtain ⟨hI, _, hC, hP, _⟩ := hR
  obtain ⟨i1, i2, i3, i4, i5, i6, i7, i8, i9, i10, i11, i12, i13, i14, i15, i16, i17, i18, i19, i20, i21, i22⟩ := hI
  have b0 := broken_eq hC hP i12 (Int32.le_refl 0) (by decide : (0 : Int32) ≤ 13)
  have bd := brokenBy_bd (ct := v_m_contracts) (con := f_m_contract) (pg := f_m_page) (g := 0) i12
  have key := drop_loop hC hP i12 13 1 (f_X7_brokenBy v_m_contracts f_m_contract f_m_page 0) (by omega) bd.1 bd.2
  unfold f_X6_drop
  unfold f_X7_drop at hcm
  rw [b0]
  have k2 := hcm.trans key
  exact ((Prod.mk.inj k2).1).symm
/-- see -/
theorem rr_14 {v_x_keptSlots : Int32} {v_x_theSeed : Int64} {v_x_text_length : Int32} {f_x_text_bytes : Nat → Int32} {f_x_told_sizes : Nat → Int32} {f_x_told_cells : Nat → Int32} {v_x_now_place : Int32} {v_x_now_voided : Int32} {v_x_now_counted : Int32} {v_x_acts_size : Int32} {f_x_acts_kinds : Nat → Int32} {f_x_acts_numbers : Nat → Int32} {v_x_sightings_size : Int32} {f_x_sightings_contracts : Nat → Int32} {f_x_sightings_days : Nat → Int32} {v_x_sides_size : Int32} {v_x_kept0_place : Int32} {v_x_kept0_voided : Int32} {v_x_kept0_counted : Int32} {v_x_kept1_place : Int32} {v_x_kept1_voided : Int32} {v_x_kept1_counted : Int32} {v_m_textSize : Int32} {v_m_contracts : Int32} {v_m_births : Int32} {v_m_tides : Int32} {v_m_debts : Int32} {v_m_acts : Int32} {v_m_seen : Int32} {v_m_seed : Int64} {f_m_text : Nat → Int32} {f_m_contract : Nat → Int32} {f_m_birth : Nat → Int32} {f_m_tide : Nat → Int32} {f_m_debt : Nat → Int32} {f_m_page : Nat → Int32} {f_m_book : Nat → Int32} {f_m_kept : Nat → Int32} {f_m_isKept : Nat → Int32} {f_m_seenContract : Nat → Int32} {f_m_seenDay : Nat → Int32} {rx : Int32} {u_x_sightings_size : Int32} {u_x_sightings_contracts : Nat → Int32} {u_x_sightings_days : Nat → Int32} {rm : Int32} {u_m_thrown : Int32} {u_m_seen : Int32} {u_m_seenContract : Nat → Int32} {u_m_seenDay : Nat → Int32} (hR : RR v_x_keptSlots v_x_theSeed v_x_text_length f_x_text_bytes f_x_told_sizes f_x_told_cells v_x_now_place v_x_now_voided v_x_now_counted v_x_acts_size f_x_acts_kinds f_x_acts_numbers v_x_sightings_size f_x_sightings_contracts f_x_sightings_days v_x_sides_size v_x_kept0_place v_x_kept0_voided v_x_kept0_counted v_x_kept1_place v_x_kept1_voided v_x_kept1_counted v_m_textSize v_m_contracts v_m_births v_m_tides v_m_debts v_m_acts v_m_seen v_m_seed f_m_text f_m_contract f_m_birth f_m_tide f_m_debt f_m_page f_m_book f_m_kept f_m_isKept f_m_seenContract f_m_seenDay) (x1 : Int32) (x2 : Int32) (hcx : (rx, u_x_sightings_size, u_x_sightings_contracts, u_x_sightings_days) = f_X6_see f_x_told_sizes v_x_sightings_size f_x_sightings_contracts f_x_sightings_days x1 x2 ∧ (0 ≤ u_x_sightings_size) ∧ (u_x_sightings_size ≤ 6)) (hcm : (rm, u_m_thrown, u_m_seen, u_m_seenContract, u_m_seenDay) = f_X7_see v_m_contracts v_m_seen f_m_seenContract f_m_seenDay x1 x2 ∧ (0 ≤ u_m_seen) ∧ (u_m_seen ≤ 6)) : (rx = rm) ∧ RR v_x_keptSlots v_x_theSeed v_x_text_length f_x_text_bytes f_x_told_sizes f_x_told_cells v_x_now_place v_x_now_voided v_x_now_counted v_x_acts_size f_x_acts_kinds f_x_acts_numbers u_x_sightings_size u_x_sightings_contracts u_x_sightings_days v_x_sides_size v_x_kept0_place v_x_kept0_voided v_x_kept0_counted v_x_kept1_place v_x_kept1_voided v_x_kept1_counted v_m_textSize v_m_contracts v_m_births v_m_tides v_m_debts v_m_acts u_m_seen v_m_seed f_m_text f_m_contract f_m_birth f_m_tide f_m_debt f_m_page f_m_book f_m_kept f_m_isKept u_m_seenContract u_m_seenDay := by
  obtain ⟨hI, ⟨e12, e3, e4, e5, e6, eD⟩, hC, hB⟩ := hR
  obtain ⟨hx, hx0, hx1⟩ := hcx
  obtain ⟨hm, hm0, hm1⟩ := hcm
  have hI2 := hI
  obtain ⟨i1, i2, i3, i4, i5, i6, i7, i8, i9, i10, i11, i12, i13, i14, i15, i16, i17, i18, i19, i20, i21, i22⟩ := hI
  subst e4 e5 e6
  have hc := isCon_eq hC.1.1 i11 i12 x1
  have key : rx = rm ∧ u_x_sightings_size = u_m_seen ∧ u_x_sightings_contracts = u_m_seenContract ∧ u_x_sightings_days = u_m_seenDay := by
    simp only [f_X6_see, f_X7_see, f_X2_add, f_X2_isFull, f_X2_size, f_X6_isDay, ap3, in_0_11] at hx hm
    grind
  obtain ⟨k1, k2, k3, k4⟩ := key
  have kD : ∀ j : Nat, j < 6 → nI j < u_m_seen → 0 ≤ u_m_seenDay j ∧ u_m_seenDay j ≤ 11 := by
    intro j hj hlt
    have hd := eD j hj
    obtain ⟨n, hn, rfl⟩ := nI_ex (n := 7) (k := 7) (by decide) i5 (by grind)
    have hcl : (nI n).toNatClampNeg = n := nI_clamp (by omega)
    have hnn : nI n + 1 = nI (n + 1) := nI_1 n
    have hjn : nI j < nI n ↔ j < n := nI_ltI (by omega) (by omega)
    have hjn1 : nI j < nI (n + 1) ↔ j < n + 1 := nI_ltI (by omega) (by omega)
    simp only [f_X7_see, in_0_11, hcl, hnn] at hm
    unfold upd at hm
    grind
  exact ⟨k1, ⟨i1, i2, i3, i4, hx0, hx1, i7, i8, i9, i10, i11, i12, i13, i14, i15, i16, i17, i18, i19, i20, hm0, hm1⟩, ⟨e12, e3, k2, k3, k4, kD⟩, hC, hB⟩
/-- unsee -/
theorem rr_15 {v_x_keptSlots : Int32} {v_x_theSeed : Int64} {v_x_text_length : Int32} {f_x_text_bytes : Nat → Int32} {f_x_told_sizes : Nat → Int32} {f_x_told_cells : Nat → Int32} {v_x_now_place : Int32} {v_x_now_voided : Int32} {v_x_now_counted : Int32} {v_x_acts_size : Int32} {f_x_acts_kinds : Nat → Int32} {f_x_acts_numbers : Nat → Int32} {v_x_sightings_size : Int32} {f_x_sightings_contracts : Nat → Int32} {f_x_sightings_days : Nat → Int32} {v_x_sides_size : Int32} {v_x_kept0_place : Int32} {v_x_kept0_voided : Int32} {v_x_kept0_counted : Int32} {v_x_kept1_place : Int32} {v_x_kept1_voided : Int32} {v_x_kept1_counted : Int32} {v_m_textSize : Int32} {v_m_contracts : Int32} {v_m_births : Int32} {v_m_tides : Int32} {v_m_debts : Int32} {v_m_acts : Int32} {v_m_seen : Int32} {v_m_seed : Int64} {f_m_text : Nat → Int32} {f_m_contract : Nat → Int32} {f_m_birth : Nat → Int32} {f_m_tide : Nat → Int32} {f_m_debt : Nat → Int32} {f_m_page : Nat → Int32} {f_m_book : Nat → Int32} {f_m_kept : Nat → Int32} {f_m_isKept : Nat → Int32} {f_m_seenContract : Nat → Int32} {f_m_seenDay : Nat → Int32} {rx : Int32} {u_x_sightings_size : Int32} {rm : Int32} {u_m_thrown : Int32} {u_m_seen : Int32} (hR : RR v_x_keptSlots v_x_theSeed v_x_text_length f_x_text_bytes f_x_told_sizes f_x_told_cells v_x_now_place v_x_now_voided v_x_now_counted v_x_acts_size f_x_acts_kinds f_x_acts_numbers v_x_sightings_size f_x_sightings_contracts f_x_sightings_days v_x_sides_size v_x_kept0_place v_x_kept0_voided v_x_kept0_counted v_x_kept1_place v_x_kept1_voided v_x_kept1_counted v_m_textSize v_m_contracts v_m_births v_m_tides v_m_debts v_m_acts v_m_seen v_m_seed f_m_text f_m_contract f_m_birth f_m_tide f_m_debt f_m_page f_m_book f_m_kept f_m_isKept f_m_seenContract f_m_seenDay) (hcx : (rx, u_x_sightings_size) = f_X6_unsee v_x_sightings_size ∧ (0 ≤ u_x_sightings_size) ∧ (u_x_sightings_size ≤ 6)) (hcm : (rm, u_m_thrown, u_m_seen) = f_X7_unsee v_m_seen ∧ (0 ≤ u_m_seen) ∧ (u_m_seen ≤ 6)) : (rx = rm) ∧ RR v_x_keptSlots v_x_theSeed v_x_text_length f_x_text_bytes f_x_told_sizes f_x_told_cells v_x_now_place v_x_now_voided v_x_now_counted v_x_acts_size f_x_acts_kinds f_x_acts_numbers u_x_sightings_size f_x_sightings_contracts f_x_sightings_days v_x_sides_size v_x_kept0_place v_x_kept0_voided v_x_kept0_counted v_x_kept1_place v_x_kept1_voided v_x_kept1_counted v_m_textSize v_m_contracts v_m_births v_m_tides v_m_debts v_m_acts u_m_seen v_m_seed f_m_text f_m_contract f_m_birth f_m_tide f_m_debt f_m_page f_m_book f_m_kept f_m_isKept f_m_seenContract f_m_seenDay := by
  obtain ⟨hI, ⟨e12, e3, e4, e5, e6, eD⟩, hC, hB⟩ := hR
  obtain ⟨hx, hx0, hx1⟩ := hcx
  obtain ⟨hm, hm0, hm1⟩ := hcm
  obtain ⟨i1, i2, i3, i4, i5, i6, i7, i8, i9, i10, i11, i12, i13, i14, i15, i16, i17, i18, i19, i20, i21, i22⟩ := hI
  have key : rx = rm ∧ u_x_sightings_size = u_m_seen := by
    simp only [f_X6_unsee, f_X7_unsee, f_X2_clear, f_X2_size, ap1] at hx hm
    grind
  exact ⟨key.1, ⟨i1, i2, i3, i4, hx0, hx1, i7, i8, i9, i10, i11, i12, i13, i14, i15, i16, i17, i18, i19, i20, hm0, hm1⟩, ⟨e12, e3, key.2, e5, e6, fun j hj hlt => by
    have h0 : u_m_seen = 0 := by
      simp only [f_X7_unsee] at hm
      grind
    rw [h0] at hlt
    exact absurd hlt (nI_pos (by omega))⟩, hC, hB⟩
/-- meant -/
theorem rr_16 {v_x_keptSlots : Int32} {v_x_theSeed : Int64} {v_x_text_length : Int32} {f_x_text_bytes : Nat → Int32} {f_x_told_sizes : Nat → Int32} {f_x_told_cells : Nat → Int32} {v_x_now_place : Int32} {v_x_now_voided : Int32} {v_x_now_counted : Int32} {v_x_acts_size : Int32} {f_x_acts_kinds : Nat → Int32} {f_x_acts_numbers : Nat → Int32} {v_x_sightings_size : Int32} {f_x_sightings_contracts : Nat → Int32} {f_x_sightings_days : Nat → Int32} {v_x_sides_size : Int32} {v_x_kept0_place : Int32} {v_x_kept0_voided : Int32} {v_x_kept0_counted : Int32} {v_x_kept1_place : Int32} {v_x_kept1_voided : Int32} {v_x_kept1_counted : Int32} {v_m_textSize : Int32} {v_m_contracts : Int32} {v_m_births : Int32} {v_m_tides : Int32} {v_m_debts : Int32} {v_m_acts : Int32} {v_m_seen : Int32} {v_m_seed : Int64} {f_m_text : Nat → Int32} {f_m_contract : Nat → Int32} {f_m_birth : Nat → Int32} {f_m_tide : Nat → Int32} {f_m_debt : Nat → Int32} {f_m_page : Nat → Int32} {f_m_book : Nat → Int32} {f_m_kept : Nat → Int32} {f_m_isKept : Nat → Int32} {f_m_seenContract : Nat → Int32} {f_m_seenDay : Nat → Int32} {rm : Int32} {u_m_thrown : Int32} (hR : RR v_x_keptSlots v_x_theSeed v_x_text_length f_x_text_bytes f_x_told_sizes f_x_told_cells v_x_now_place v_x_now_voided v_x_now_counted v_x_acts_size f_x_acts_kinds f_x_acts_numbers v_x_sightings_size f_x_sightings_contracts f_x_sightings_days v_x_sides_size v_x_kept0_place v_x_kept0_voided v_x_kept0_counted v_x_kept1_place v_x_kept1_voided v_x_kept1_counted v_m_textSize v_m_contracts v_m_births v_m_tides v_m_debts v_m_acts v_m_seen v_m_seed f_m_text f_m_contract f_m_birth f_m_tide f_m_debt f_m_page f_m_book f_m_kept f_m_isKept f_m_seenContract f_m_seenDay) (x1 : Int32) (hcm : (rm, u_m_thrown) = f_X7_meant v_m_contracts v_m_seen f_m_contract f_m_page f_m_seenContract f_m_seenDay x1) : (f_X6_meant f_x_told_sizes f_x_told_cells v_x_now_place v_x_sightings_size f_x_sightings_contracts f_x_sightings_days x1 = rm) ∧ RR v_x_keptSlots v_x_theSeed v_x_text_length f_x_text_bytes f_x_told_sizes f_x_told_cells v_x_now_place v_x_now_voided v_x_now_counted v_x_acts_size f_x_acts_kinds f_x_acts_numbers v_x_sightings_size f_x_sightings_contracts f_x_sightings_days v_x_sides_size v_x_kept0_place v_x_kept0_voided v_x_kept0_counted v_x_kept1_place v_x_kept1_voided v_x_kept1_counted v_m_textSize v_m_contracts v_m_births v_m_tides v_m_debts v_m_acts v_m_seen v_m_seed f_m_text f_m_contract f_m_birth f_m_tide f_m_debt f_m_page f_m_book f_m_kept f_m_isKept f_m_seenContract f_m_seenDay := by
  refine ⟨?_, hR⟩
  obtain ⟨hI, ⟨_, _, ⟨e4, e5, e6, eD⟩⟩, hC, hP, _⟩ := hR
  obtain ⟨i1, i2, i3, i4, i5, i6, i7, i8, i9, i10, i11, i12, i13, i14, i15, i16, i17, i18, i19, i20, i21, i22⟩ := hI
  subst e5 e6
  have hc := isCon_eq hC.1.1 i11 i12 x1
  unfold f_X7_meant at hcm
  unfold f_X6_meant
  by_cases h : f_X7_noContract v_m_contracts x1 = 0
  · rw [if_pos h] at hcm
    rw [if_pos (hc.mpr h)]
    have hr := nc_z i11 i12 h
    obtain ⟨k, hk, rfl⟩ := nI_ex (n := 5) (k := 5) (by decide) hr.1 (by grind)
    obtain ⟨⟨e0, e1, e2, e3, e4'⟩, r0, r1, r2, r3, r4, r5, r6, r7, r8⟩ := hC.2.1 k hk hr.2
    obtain ⟨q1, q2⟩ := hP.2.2.1 k hk hr.2
    have hq2 : f_m_page (7 + nI k).toNatClampNeg = f_x_told_cells (5 * k + 2) := by rw [(con_0 k hk).2.2.2.2]; exact q2
    obtain ⟨s, hs, hsm⟩ := nI_ex (n := 7) (k := 7) (by decide) i21 (show v_m_seen < 7 by grind)
    rw [e4]
    subst hsm
    have hin := fun t bits K => meant_in (cons := f_x_sightings_contracts) (days := f_x_sightings_days) hk e0 r0 r1 r3 r4 (pg0 hP.1) hq2 hP.2.2.2.1 hP.2.2.2.2.1 (s := s) (by omega) eD t bits K s 0 (by omega)
    have hfu : ∀ m, m < 7 → ((nI m).toInt - (0 : Int32).toInt).toNat + 1 = m + 1 := by decide
    have hE : ∀ t, f_X6_endsAsSeen f_x_told_cells v_x_now_place (nI s) f_x_sightings_contracts f_x_sightings_days (nI k) t = it1 (f_X6_endsAsSeen_b17 f_x_told_cells v_x_now_place (nI s) f_x_sightings_contracts f_x_sightings_days (nI k) t) default (s + 1) (nI 0) := by
      intro t
      unfold f_X6_endsAsSeen f_X2_size
      rw [hfu s hs]
      rfl
    have hin2 : ∀ t bits K, it2 (f_X7_meant_b53 (nI s) f_m_contract f_m_page f_x_sightings_contracts f_x_sightings_days (nI k) bits t K) default (s + 1) 1 0 = f_X7_meant_j112 bits t (f_X6_endsAsSeen f_x_told_cells v_x_now_place (nI s) f_x_sightings_contracts f_x_sightings_days (nI k) t) K := by
      intro t bits K
      rw [hE t]
      exact hin t bits K
    rw [show ((2 : Int32).toInt - (0 : Int32).toInt).toNat + 1 = 3 from by decide, it2_s, f_X7_meant_b19, if_neg (by decide), hfu s hs, hin2] at hcm
    unfold f_X6_meant_j24
    simp only [f_X7_meant_j112, f_X7_meant_j125] at hcm
    have hb : ∀ bits, it2 (f_X7_meant_b19 (nI s) f_m_contract f_m_page f_x_sightings_contracts f_x_sightings_days (nI k)) default 2 bits (0 + 1) = if f_X6_endsAsSeen f_x_told_cells v_x_now_place (nI s) f_x_sightings_contracts f_x_sightings_days (nI k) 1 = 0 then (bits ||| 0, (0 : Int32)) else (bits ||| (1 <<< ((1 : Int32) &&& 31)), 0) := by
      intro bits
      rw [show (0 : Int32) + 1 = 1 from by decide, it2_s, f_X7_meant_b19, if_neg (by decide), hfu s hs, hin2]
      simp only [f_X7_meant_j112, f_X7_meant_j125]
      have fin : ∀ z, it2 (f_X7_meant_b19 (nI s) f_m_contract f_m_page f_x_sightings_contracts f_x_sightings_days (nI k)) default 1 z (1 + 1) = (z, (0 : Int32)) := by
        intro z
        rw [show (1 : Int32) + 1 = 2 from by decide, it2_s, f_X7_meant_b19, if_pos (by decide)]
      rw [fin, fin]
    rw [hb, hb] at hcm
    by_cases c0 : f_X6_endsAsSeen f_x_told_cells v_x_now_place (nI s) f_x_sightings_contracts f_x_sightings_days (nI k) 0 = 0 <;> by_cases c1 : f_X6_endsAsSeen f_x_told_cells v_x_now_place (nI s) f_x_sightings_contracts f_x_sightings_days (nI k) 1 = 0 <;> simp only [c0, c1, if_true, if_false, if_pos, ite_true, ite_false] at hcm ⊢ <;> exact (Prod.mk.inj hcm).1.symm
  · rw [if_neg h] at hcm
    rw [if_neg (fun q => h (hc.mp q))]
    exact (Prod.mk.inj hcm).1.symm
/-- ofAge -/
theorem rr_17 {v_x_keptSlots : Int32} {v_x_theSeed : Int64} {v_x_text_length : Int32} {f_x_text_bytes : Nat → Int32} {f_x_told_sizes : Nat → Int32} {f_x_told_cells : Nat → Int32} {v_x_now_place : Int32} {v_x_now_voided : Int32} {v_x_now_counted : Int32} {v_x_acts_size : Int32} {f_x_acts_kinds : Nat → Int32} {f_x_acts_numbers : Nat → Int32} {v_x_sightings_size : Int32} {f_x_sightings_contracts : Nat → Int32} {f_x_sightings_days : Nat → Int32} {v_x_sides_size : Int32} {v_x_kept0_place : Int32} {v_x_kept0_voided : Int32} {v_x_kept0_counted : Int32} {v_x_kept1_place : Int32} {v_x_kept1_voided : Int32} {v_x_kept1_counted : Int32} {v_m_textSize : Int32} {v_m_contracts : Int32} {v_m_births : Int32} {v_m_tides : Int32} {v_m_debts : Int32} {v_m_acts : Int32} {v_m_seen : Int32} {v_m_seed : Int64} {f_m_text : Nat → Int32} {f_m_contract : Nat → Int32} {f_m_birth : Nat → Int32} {f_m_tide : Nat → Int32} {f_m_debt : Nat → Int32} {f_m_page : Nat → Int32} {f_m_book : Nat → Int32} {f_m_kept : Nat → Int32} {f_m_isKept : Nat → Int32} {f_m_seenContract : Nat → Int32} {f_m_seenDay : Nat → Int32} {rm : Int32} {u_m_thrown : Int32} (hR : RR v_x_keptSlots v_x_theSeed v_x_text_length f_x_text_bytes f_x_told_sizes f_x_told_cells v_x_now_place v_x_now_voided v_x_now_counted v_x_acts_size f_x_acts_kinds f_x_acts_numbers v_x_sightings_size f_x_sightings_contracts f_x_sightings_days v_x_sides_size v_x_kept0_place v_x_kept0_voided v_x_kept0_counted v_x_kept1_place v_x_kept1_voided v_x_kept1_counted v_m_textSize v_m_contracts v_m_births v_m_tides v_m_debts v_m_acts v_m_seen v_m_seed f_m_text f_m_contract f_m_birth f_m_tide f_m_debt f_m_page f_m_book f_m_kept f_m_isKept f_m_seenContract f_m_seenDay) (x1 : Int32) (x2 : Int32) (hcm : (rm, u_m_thrown) = f_X7_ofAge v_m_births f_m_birth x1 x2) : (f_X6_ofAge f_x_told_sizes f_x_told_cells x1 x2 = rm) ∧ RR v_x_keptSlots v_x_theSeed v_x_text_length f_x_text_bytes f_x_told_sizes f_x_told_cells v_x_now_place v_x_now_voided v_x_now_counted v_x_acts_size f_x_acts_kinds f_x_acts_numbers v_x_sightings_size f_x_sightings_contracts f_x_sightings_days v_x_sides_size v_x_kept0_place v_x_kept0_voided v_x_kept0_counted v_x_kept1_place v_x_kept1_voided v_x_kept1_counted v_m_textSize v_m_contracts v_m_births v_m_tides v_m_debts v_m_acts v_m_seen v_m_seed f_m_text f_m_contract f_m_birth f_m_tide f_m_debt f_m_page f_m_book f_m_kept f_m_isKept f_m_seenContract f_m_seenDay := by
  refine ⟨?_, hR⟩
  obtain ⟨hI, _, hC, hP, _⟩ := hR
  obtain ⟨i1, i2, i3, i4, i5, i6, i7, i8, i9, i10, i11, i12, i13, i14, i15, i16, i17, i18, i19, i20, i21, i22⟩ := hI
  have hpl := isPlace_eq x2
  have hin := in_0e x1 (v_m_births - 1)
  have hs : f_X5_sizeOf f_x_told_sizes 1 = v_m_births := by rw [size_1]; exact hC.1.2.1
  unfold f_X6_ofAge
  unfold f_X7_ofAge at hcm
  rw [hs]
  by_cases hb : 0 ≤ x1 ∧ x1 < v_m_births
  · obtain ⟨k, hk, rfl⟩ := nI_ex (n := 3) (k := 3) (by decide) hb.1 (by grind)
    obtain ⟨b0, b1, r0, r1, r2, r3⟩ := hC.2.2.1 k hk hb.2
    rw [if_pos (show ¬ f_X7_in (nI k).toInt64 0 (v_m_births - 1).toInt64 = 0 by rw [hin]; grind)] at hcm
    rw [if_neg (show ¬ nI k < 0 by grind), if_pos hb.2, birthDay_k _ hk, fullAge_k _ hk]
    by_cases hp : f_X7_noPlace x2 = 0
    · have hp' := np_z hp
      rw [if_pos (hpl.mpr hp), coming_at r0 (by grind) hp'.1 hp'.2]
      rw [if_pos hp] at hcm
      simp only [f_X7_ofAge_j71, f_X7_ofAge_j88, f_X7_ofAge_j89, (two_k k hk).1, (two_k k hk).2, b0, b1] at hcm
      exact (Prod.mk.inj (hcm.trans (name_eq _ _ hp'.1 hp'.2))).1.symm
    · rw [if_neg (show ¬ ¬ f_X6_isPlace x2 = 0 from fun q => hp (hpl.mp q))]
      rw [if_neg hp] at hcm
      exact (Prod.mk.inj hcm).1.symm
  · rw [if_neg (show ¬ ¬ f_X7_in x1.toInt64 0 (v_m_births - 1).toInt64 = 0 by rw [hin]; grind)] at hcm
    have hr := (Prod.mk.inj hcm).1
    by_cases n1 : x1 < 0
    · rw [if_pos n1]
      exact hr.symm
    · rw [if_neg n1, if_neg (show ¬ x1 < v_m_births from fun q => hb ⟨by grind, q⟩)]
      exact hr.symm
/-- agree -/
theorem rr_18 {v_x_keptSlots : Int32} {v_x_theSeed : Int64} {v_x_text_length : Int32} {f_x_text_bytes : Nat → Int32} {f_x_told_sizes : Nat → Int32} {f_x_told_cells : Nat → Int32} {v_x_now_place : Int32} {v_x_now_voided : Int32} {v_x_now_counted : Int32} {v_x_acts_size : Int32} {f_x_acts_kinds : Nat → Int32} {f_x_acts_numbers : Nat → Int32} {v_x_sightings_size : Int32} {f_x_sightings_contracts : Nat → Int32} {f_x_sightings_days : Nat → Int32} {v_x_sides_size : Int32} {v_x_kept0_place : Int32} {v_x_kept0_voided : Int32} {v_x_kept0_counted : Int32} {v_x_kept1_place : Int32} {v_x_kept1_voided : Int32} {v_x_kept1_counted : Int32} {v_m_textSize : Int32} {v_m_contracts : Int32} {v_m_births : Int32} {v_m_tides : Int32} {v_m_debts : Int32} {v_m_acts : Int32} {v_m_seen : Int32} {v_m_seed : Int64} {f_m_text : Nat → Int32} {f_m_contract : Nat → Int32} {f_m_birth : Nat → Int32} {f_m_tide : Nat → Int32} {f_m_debt : Nat → Int32} {f_m_page : Nat → Int32} {f_m_book : Nat → Int32} {f_m_kept : Nat → Int32} {f_m_isKept : Nat → Int32} {f_m_seenContract : Nat → Int32} {f_m_seenDay : Nat → Int32} {rm : Int32} {u_m_thrown : Int32} (hR : RR v_x_keptSlots v_x_theSeed v_x_text_length f_x_text_bytes f_x_told_sizes f_x_told_cells v_x_now_place v_x_now_voided v_x_now_counted v_x_acts_size f_x_acts_kinds f_x_acts_numbers v_x_sightings_size f_x_sightings_contracts f_x_sightings_days v_x_sides_size v_x_kept0_place v_x_kept0_voided v_x_kept0_counted v_x_kept1_place v_x_kept1_voided v_x_kept1_counted v_m_textSize v_m_contracts v_m_births v_m_tides v_m_debts v_m_acts v_m_seen v_m_seed f_m_text f_m_contract f_m_birth f_m_tide f_m_debt f_m_page f_m_book f_m_kept f_m_isKept f_m_seenContract f_m_seenDay) (x1 : Int32) (x2 : Int32) (hcm : (rm, u_m_thrown) = f_X7_agree v_m_tides f_m_tide x1 x2) : (f_X6_agree f_x_told_sizes f_x_told_cells x1 x2 = rm) ∧ RR v_x_keptSlots v_x_theSeed v_x_text_length f_x_text_bytes f_x_told_sizes f_x_told_cells v_x_now_place v_x_now_voided v_x_now_counted v_x_acts_size f_x_acts_kinds f_x_acts_numbers v_x_sightings_size f_x_sightings_contracts f_x_sightings_days v_x_sides_size v_x_kept0_place v_x_kept0_voided v_x_kept0_counted v_x_kept1_place v_x_kept1_voided v_x_kept1_counted v_m_textSize v_m_contracts v_m_births v_m_tides v_m_debts v_m_acts v_m_seen v_m_seed f_m_text f_m_contract f_m_birth f_m_tide f_m_debt f_m_page f_m_book f_m_kept f_m_isKept f_m_seenContract f_m_seenDay := by
  refine ⟨?_, hR⟩
  obtain ⟨hI, _, hC, hP, _⟩ := hR
  obtain ⟨i1, i2, i3, i4, i5, i6, i7, i8, i9, i10, i11, i12, i13, i14, i15, i16, i17, i18, i19, i20, i21, i22⟩ := hI
  have hpl := isPlace_eq x2
  have hin := in_0_11 x1
  have hs : f_X5_sizeOf f_x_told_sizes 2 = v_m_tides := by rw [size_2]; exact hC.1.2.2.1
  unfold f_X6_agree f_X6_isDay
  unfold f_X7_agree at hcm
  by_cases hd : 0 ≤ x1 ∧ x1 ≤ 11
  · rw [if_neg (show ¬ f_X7_in x1.toInt64 0 11 = 0 by rw [hin]; grind)] at hcm
    rw [if_neg (show ¬ (if x1 < 0 then (0 : Int32) else if 12 ≤ x1 then 0 else 1) = 0 by grind)]
    by_cases hp : f_X7_noPlace x2 = 0
    · have hp' := np_z hp
      rw [if_pos (hpl.mpr hp), hs]
      rw [if_pos hp] at hcm
      have key := agree_loop hC i16 (coming_at hd.1 (by grind) hp'.1 hp'.2) (v_m_tides.toInt - (0 : Int32).toInt).toNat.succ 0 0 (by omega)
      have k2 := hcm.trans key
      exact (Prod.mk.inj k2).1.symm
    · rw [if_neg (show ¬ ¬ f_X6_isPlace x2 = 0 from fun q => hp (hpl.mp q))]
      rw [if_neg hp] at hcm
      exact (Prod.mk.inj hcm).1.symm
  · rw [if_pos (show f_X7_in x1.toInt64 0 11 = 0 by rw [hin]; grind)] at hcm
    rw [if_pos (show (if x1 < 0 then (0 : Int32) else if 12 ≤ x1 then 0 else 1) = 0 by grind)]
    exact (Prod.mk.inj hcm).1.symm
/-- net -/
theorem rr_19 {v_x_keptSlots : Int32} {v_x_theSeed : Int64} {v_x_text_length : Int32} {f_x_text_bytes : Nat → Int32} {f_x_told_sizes : Nat → Int32} {f_x_told_cells : Nat → Int32} {v_x_now_place : Int32} {v_x_now_voided : Int32} {v_x_now_counted : Int32} {v_x_acts_size : Int32} {f_x_acts_kinds : Nat → Int32} {f_x_acts_numbers : Nat → Int32} {v_x_sightings_size : Int32} {f_x_sightings_contracts : Nat → Int32} {f_x_sightings_days : Nat → Int32} {v_x_sides_size : Int32} {v_x_kept0_place : Int32} {v_x_kept0_voided : Int32} {v_x_kept0_counted : Int32} {v_x_kept1_place : Int32} {v_x_kept1_voided : Int32} {v_x_kept1_counted : Int32} {v_m_textSize : Int32} {v_m_contracts : Int32} {v_m_births : Int32} {v_m_tides : Int32} {v_m_debts : Int32} {v_m_acts : Int32} {v_m_seen : Int32} {v_m_seed : Int64} {f_m_text : Nat → Int32} {f_m_contract : Nat → Int32} {f_m_birth : Nat → Int32} {f_m_tide : Nat → Int32} {f_m_debt : Nat → Int32} {f_m_page : Nat → Int32} {f_m_book : Nat → Int32} {f_m_kept : Nat → Int32} {f_m_isKept : Nat → Int32} {f_m_seenContract : Nat → Int32} {f_m_seenDay : Nat → Int32} {f_m_owed : Nat → Int32} {rm : Int32} {u_m_thrown : Int32} {u_m_owed : Nat → Int32} (hR : RR v_x_keptSlots v_x_theSeed v_x_text_length f_x_text_bytes f_x_told_sizes f_x_told_cells v_x_now_place v_x_now_voided v_x_now_counted v_x_acts_size f_x_acts_kinds f_x_acts_numbers v_x_sightings_size f_x_sightings_contracts f_x_sightings_days v_x_sides_size v_x_kept0_place v_x_kept0_voided v_x_kept0_counted v_x_kept1_place v_x_kept1_voided v_x_kept1_counted v_m_textSize v_m_contracts v_m_births v_m_tides v_m_debts v_m_acts v_m_seen v_m_seed f_m_text f_m_contract f_m_birth f_m_tide f_m_debt f_m_page f_m_book f_m_kept f_m_isKept f_m_seenContract f_m_seenDay) (x1 : Int32) (hcm : (rm, u_m_thrown, u_m_owed) = f_X7_net v_m_debts f_m_debt f_m_owed x1) : (f_X6_net f_x_told_sizes f_x_told_cells x1 = rm) ∧ RR v_x_keptSlots v_x_theSeed v_x_text_length f_x_text_bytes f_x_told_sizes f_x_told_cells v_x_now_place v_x_now_voided v_x_now_counted v_x_acts_size f_x_acts_kinds f_x_acts_numbers v_x_sightings_size f_x_sightings_contracts f_x_sightings_days v_x_sides_size v_x_kept0_place v_x_kept0_voided v_x_kept0_counted v_x_kept1_place v_x_kept1_voided v_x_kept1_counted v_m_textSize v_m_contracts v_m_births v_m_tides v_m_debts v_m_acts v_m_seen v_m_seed f_m_text f_m_contract f_m_birth f_m_tide f_m_debt f_m_page f_m_book f_m_kept f_m_isKept f_m_seenContract f_m_seenDay := by
  refine ⟨?_, hR⟩
  obtain ⟨hI, _, hC, hP, _⟩ := hR
  obtain ⟨i1, i2, i3, i4, i5, i6, i7, i8, i9, i10, i11, i12, i13, i14, i15, i16, i17, i18, i19, i20, i21, i22⟩ := hI
  unfold f_X6_net
  unfold f_X7_net at hcm
  have hin := in_0_3 x1
  by_cases h : 0 ≤ x1 ∧ x1 ≤ 3
  · obtain ⟨k, hk, rfl⟩ := nI_ex (n := 4) (k := 4) (by decide) h.1 (by grind)
    have hl := lay_eq (ow := f_m_owed) hC i17 i18 hk
    rw [if_pos (show ¬ f_X7_in (nI k).toInt64 0 3 = 0 by rw [hin]; grind)] at hcm
    rw [if_neg (show ¬ nI k < 0 by grind), if_pos (show nI k < 4 by grind)]
    unfold ap1 at hcm
    dsimp only at hcm
    rw [nI_clamp (show k < 2 ^ 31 by omega), hl] at hcm
    have hr := (Prod.mk.inj hcm).1
    rw [hr]
    grind
  · rw [if_neg (show ¬ ¬ f_X7_in x1.toInt64 0 3 = 0 by rw [hin]; grind)] at hcm
    grind
/-- payings -/
theorem rr_20 {v_x_keptSlots : Int32} {v_x_theSeed : Int64} {v_x_text_length : Int32} {f_x_text_bytes : Nat → Int32} {f_x_told_sizes : Nat → Int32} {f_x_told_cells : Nat → Int32} {v_x_now_place : Int32} {v_x_now_voided : Int32} {v_x_now_counted : Int32} {v_x_acts_size : Int32} {f_x_acts_kinds : Nat → Int32} {f_x_acts_numbers : Nat → Int32} {v_x_sightings_size : Int32} {f_x_sightings_contracts : Nat → Int32} {f_x_sightings_days : Nat → Int32} {v_x_sides_size : Int32} {v_x_kept0_place : Int32} {v_x_kept0_voided : Int32} {v_x_kept0_counted : Int32} {v_x_kept1_place : Int32} {v_x_kept1_voided : Int32} {v_x_kept1_counted : Int32} {v_m_textSize : Int32} {v_m_contracts : Int32} {v_m_births : Int32} {v_m_tides : Int32} {v_m_debts : Int32} {v_m_acts : Int32} {v_m_seen : Int32} {v_m_seed : Int64} {f_m_text : Nat → Int32} {f_m_contract : Nat → Int32} {f_m_birth : Nat → Int32} {f_m_tide : Nat → Int32} {f_m_debt : Nat → Int32} {f_m_page : Nat → Int32} {f_m_book : Nat → Int32} {f_m_kept : Nat → Int32} {f_m_isKept : Nat → Int32} {f_m_seenContract : Nat → Int32} {f_m_seenDay : Nat → Int32} {f_m_owed : Nat → Int32} {f_m_cuts : Nat → Int32} {rm : Int32} {u_m_thrown : Int32} {u_m_owed : Nat → Int32} {u_m_cuts : Nat → Int32} (hR : RR v_x_keptSlots v_x_theSeed v_x_text_length f_x_text_bytes f_x_told_sizes f_x_told_cells v_x_now_place v_x_now_voided v_x_now_counted v_x_acts_size f_x_acts_kinds f_x_acts_numbers v_x_sightings_size f_x_sightings_contracts f_x_sightings_days v_x_sides_size v_x_kept0_place v_x_kept0_voided v_x_kept0_counted v_x_kept1_place v_x_kept1_voided v_x_kept1_counted v_m_textSize v_m_contracts v_m_births v_m_tides v_m_debts v_m_acts v_m_seen v_m_seed f_m_text f_m_contract f_m_birth f_m_tide f_m_debt f_m_page f_m_book f_m_kept f_m_isKept f_m_seenContract f_m_seenDay) (hcm : (rm, u_m_thrown, u_m_owed, u_m_cuts) = f_X7_payings v_m_debts f_m_debt f_m_owed f_m_cuts) : (f_X6_payings f_x_told_sizes f_x_told_cells = rm) ∧ RR v_x_keptSlots v_x_theSeed v_x_text_length f_x_text_bytes f_x_told_sizes f_x_told_cells v_x_now_place v_x_now_voided v_x_now_counted v_x_acts_size f_x_acts_kinds f_x_acts_numbers v_x_sightings_size f_x_sightings_contracts f_x_sightings_days v_x_sides_size v_x_kept0_place v_x_kept0_voided v_x_kept0_counted v_x_kept1_place v_x_kept1_voided v_x_kept1_counted v_m_textSize v_m_contracts v_m_births v_m_tides v_m_debts v_m_acts v_m_seen v_m_seed f_m_text f_m_contract f_m_birth f_m_tide f_m_debt f_m_page f_m_book f_m_kept f_m_isKept f_m_seenContract f_m_seenDay := by
  refine ⟨?_, hR⟩
  obtain ⟨hI, _, hC, hP, _⟩ := hR
  obtain ⟨i1, i2, i3, i4, i5, i6, i7, i8, i9, i10, i11, i12, i13, i14, i15, i16, i17, i18, i19, i20, i21, i22⟩ := hI
  have k := payings_eq (ow := f_m_owed) (cu := f_m_cuts) hC i17 i18
  rw [← hcm] at k
  exact k.symm
/-- strike -/
theorem rr_21 {v_x_keptSlots : Int32} {v_x_theSeed : Int64} {v_x_text_length : Int32} {f_x_text_bytes : Nat → Int32} {f_x_told_sizes : Nat → Int32} {f_x_told_cells : Nat → Int32} {v_x_now_place : Int32} {v_x_now_voided : Int32} {v_x_now_counted : Int32} {v_x_acts_size : Int32} {f_x_acts_kinds : Nat → Int32} {f_x_acts_numbers : Nat → Int32} {v_x_sightings_size : Int32} {f_x_sightings_contracts : Nat → Int32} {f_x_sightings_days : Nat → Int32} {v_x_sides_size : Int32} {v_x_kept0_place : Int32} {v_x_kept0_voided : Int32} {v_x_kept0_counted : Int32} {v_x_kept1_place : Int32} {v_x_kept1_voided : Int32} {v_x_kept1_counted : Int32} {v_m_textSize : Int32} {v_m_contracts : Int32} {v_m_births : Int32} {v_m_tides : Int32} {v_m_debts : Int32} {v_m_acts : Int32} {v_m_seen : Int32} {v_m_seed : Int64} {f_m_text : Nat → Int32} {f_m_contract : Nat → Int32} {f_m_birth : Nat → Int32} {f_m_tide : Nat → Int32} {f_m_debt : Nat → Int32} {f_m_page : Nat → Int32} {f_m_book : Nat → Int32} {f_m_kept : Nat → Int32} {f_m_isKept : Nat → Int32} {f_m_seenContract : Nat → Int32} {f_m_seenDay : Nat → Int32} {v_x_sides_struck : Int32} {f_x_sides_gaps : Nat → Int32} {f_x_sides_lasts : Nat → Int32} {f_m_gaps : Nat → Int32} {f_m_last : Nat → Int32} {f_m_struck : Nat → Int32} {rx : Int32} {u_x_sides_size : Int32} {u_x_sides_struck : Int32} {u_x_sides_gaps : Nat → Int32} {u_x_sides_lasts : Nat → Int32} {rm : Int32} {u_m_thrown : Int32} {u_m_gaps : Nat → Int32} {u_m_last : Nat → Int32} {u_m_struck : Nat → Int32} (hR : RR v_x_keptSlots v_x_theSeed v_x_text_length f_x_text_bytes f_x_told_sizes f_x_told_cells v_x_now_place v_x_now_voided v_x_now_counted v_x_acts_size f_x_acts_kinds f_x_acts_numbers v_x_sightings_size f_x_sightings_contracts f_x_sightings_days v_x_sides_size v_x_kept0_place v_x_kept0_voided v_x_kept0_counted v_x_kept1_place v_x_kept1_voided v_x_kept1_counted v_m_textSize v_m_contracts v_m_births v_m_tides v_m_debts v_m_acts v_m_seen v_m_seed f_m_text f_m_contract f_m_birth f_m_tide f_m_debt f_m_page f_m_book f_m_kept f_m_isKept f_m_seenContract f_m_seenDay) (x1 : Int32) (x2 : Int32) (x3 : Int32) (x4 : Int32) (hcx : (rx, u_x_sides_size, u_x_sides_struck, u_x_sides_gaps, u_x_sides_lasts) = f_X6_strike v_x_sides_size v_x_sides_struck f_x_sides_gaps f_x_sides_lasts x1 x2 x3 x4 ∧ (0 ≤ u_x_sides_size) ∧ (u_x_sides_size ≤ 6)) (hcm : (rm, u_m_thrown, u_m_gaps, u_m_last, u_m_struck) = f_X7_strike f_m_gaps f_m_last f_m_struck x1 x2 x3 x4) : (rx = rm) ∧ RR v_x_keptSlots v_x_theSeed v_x_text_length f_x_text_bytes f_x_told_sizes f_x_told_cells v_x_now_place v_x_now_voided v_x_now_counted v_x_acts_size f_x_acts_kinds f_x_acts_numbers v_x_sightings_size f_x_sightings_contracts f_x_sightings_days u_x_sides_size v_x_kept0_place v_x_kept0_voided v_x_kept0_counted v_x_kept1_place v_x_kept1_voided v_x_kept1_counted v_m_textSize v_m_contracts v_m_births v_m_tides v_m_debts v_m_acts v_m_seen v_m_seed f_m_text f_m_contract f_m_birth f_m_tide f_m_debt f_m_page f_m_book f_m_kept f_m_isKept f_m_seenContract f_m_seenDay := by
  obtain ⟨hx, hx0, hx1⟩ := hcx
  have k := strike_eq v_x_sides_size v_x_sides_struck f_x_sides_gaps f_x_sides_lasts f_m_gaps f_m_last f_m_struck x1 x2 x3 x4
  rw [← hx, ← hcm] at k
  obtain ⟨⟨i1, i2, i3, i4, i5, i6, i7, i8, i9⟩, hT⟩ := hR
  exact ⟨k, ⟨i1, i2, i3, i4, i5, i6, hx0, hx1, i9⟩, hT⟩
/-- rule -/
theorem rr_22 {v_x_keptSlots : Int32} {v_x_theSeed : Int64} {v_x_text_length : Int32} {f_x_text_bytes : Nat → Int32} {f_x_told_sizes : Nat → Int32} {f_x_told_cells : Nat → Int32} {v_x_now_place : Int32} {v_x_now_voided : Int32} {v_x_now_counted : Int32} {v_x_acts_size : Int32} {f_x_acts_kinds : Nat → Int32} {f_x_acts_numbers : Nat → Int32} {v_x_sightings_size : Int32} {f_x_sightings_contracts : Nat → Int32} {f_x_sightings_days : Nat → Int32} {v_x_sides_size : Int32} {v_x_kept0_place : Int32} {v_x_kept0_voided : Int32} {v_x_kept0_counted : Int32} {v_x_kept1_place : Int32} {v_x_kept1_voided : Int32} {v_x_kept1_counted : Int32} {v_m_textSize : Int32} {v_m_contracts : Int32} {v_m_births : Int32} {v_m_tides : Int32} {v_m_debts : Int32} {v_m_acts : Int32} {v_m_seen : Int32} {v_m_seed : Int64} {f_m_text : Nat → Int32} {f_m_contract : Nat → Int32} {f_m_birth : Nat → Int32} {f_m_tide : Nat → Int32} {f_m_debt : Nat → Int32} {f_m_page : Nat → Int32} {f_m_book : Nat → Int32} {f_m_kept : Nat → Int32} {f_m_isKept : Nat → Int32} {f_m_seenContract : Nat → Int32} {f_m_seenDay : Nat → Int32} {rm : Int32} {u_m_thrown : Int32} (hR : RR v_x_keptSlots v_x_theSeed v_x_text_length f_x_text_bytes f_x_told_sizes f_x_told_cells v_x_now_place v_x_now_voided v_x_now_counted v_x_acts_size f_x_acts_kinds f_x_acts_numbers v_x_sightings_size f_x_sightings_contracts f_x_sightings_days v_x_sides_size v_x_kept0_place v_x_kept0_voided v_x_kept0_counted v_x_kept1_place v_x_kept1_voided v_x_kept1_counted v_m_textSize v_m_contracts v_m_births v_m_tides v_m_debts v_m_acts v_m_seen v_m_seed f_m_text f_m_contract f_m_birth f_m_tide f_m_debt f_m_page f_m_book f_m_kept f_m_isKept f_m_seenContract f_m_seenDay) (x1 : Int32) (x2 : Int32) (x3 : Int32) (hcm : (rm, u_m_thrown) = f_X7_rule x1 x2 x3) : (f_X6_rule x1 x2 x3 = rm) ∧ RR v_x_keptSlots v_x_theSeed v_x_text_length f_x_text_bytes f_x_told_sizes f_x_told_cells v_x_now_place v_x_now_voided v_x_now_counted v_x_acts_size f_x_acts_kinds f_x_acts_numbers v_x_sightings_size f_x_sightings_contracts f_x_sightings_days v_x_sides_size v_x_kept0_place v_x_kept0_voided v_x_kept0_counted v_x_kept1_place v_x_kept1_voided v_x_kept1_counted v_m_textSize v_m_contracts v_m_births v_m_tides v_m_debts v_m_acts v_m_seen v_m_seed f_m_text f_m_contract f_m_birth f_m_tide f_m_debt f_m_page f_m_book f_m_kept f_m_isKept f_m_seenContract f_m_seenDay := by
  refine ⟨?_, hR⟩
  have k := hcm.trans (rule_eq x1 x2 x3)
  exact (Prod.mk.inj k).1.symm
/-- slips -/
theorem rr_23 {v_x_keptSlots : Int32} {v_x_theSeed : Int64} {v_x_text_length : Int32} {f_x_text_bytes : Nat → Int32} {f_x_told_sizes : Nat → Int32} {f_x_told_cells : Nat → Int32} {v_x_now_place : Int32} {v_x_now_voided : Int32} {v_x_now_counted : Int32} {v_x_acts_size : Int32} {f_x_acts_kinds : Nat → Int32} {f_x_acts_numbers : Nat → Int32} {v_x_sightings_size : Int32} {f_x_sightings_contracts : Nat → Int32} {f_x_sightings_days : Nat → Int32} {v_x_sides_size : Int32} {v_x_kept0_place : Int32} {v_x_kept0_voided : Int32} {v_x_kept0_counted : Int32} {v_x_kept1_place : Int32} {v_x_kept1_voided : Int32} {v_x_kept1_counted : Int32} {v_m_textSize : Int32} {v_m_contracts : Int32} {v_m_births : Int32} {v_m_tides : Int32} {v_m_debts : Int32} {v_m_acts : Int32} {v_m_seen : Int32} {v_m_seed : Int64} {f_m_text : Nat → Int32} {f_m_contract : Nat → Int32} {f_m_birth : Nat → Int32} {f_m_tide : Nat → Int32} {f_m_debt : Nat → Int32} {f_m_page : Nat → Int32} {f_m_book : Nat → Int32} {f_m_kept : Nat → Int32} {f_m_isKept : Nat → Int32} {f_m_seenContract : Nat → Int32} {f_m_seenDay : Nat → Int32} {rm : Int32} {u_m_thrown : Int32} (hR : RR v_x_keptSlots v_x_theSeed v_x_text_length f_x_text_bytes f_x_told_sizes f_x_told_cells v_x_now_place v_x_now_voided v_x_now_counted v_x_acts_size f_x_acts_kinds f_x_acts_numbers v_x_sightings_size f_x_sightings_contracts f_x_sightings_days v_x_sides_size v_x_kept0_place v_x_kept0_voided v_x_kept0_counted v_x_kept1_place v_x_kept1_voided v_x_kept1_counted v_m_textSize v_m_contracts v_m_births v_m_tides v_m_debts v_m_acts v_m_seen v_m_seed f_m_text f_m_contract f_m_birth f_m_tide f_m_debt f_m_page f_m_book f_m_kept f_m_isKept f_m_seenContract f_m_seenDay) (x1 : Int32) (x2 : Int32) (x3 : Int32) (x4 : Int32) (hcm : (rm, u_m_thrown) = f_X7_slips x1 x2 x3 x4) : (f_X6_slips x1 x2 x3 x4 = rm) ∧ RR v_x_keptSlots v_x_theSeed v_x_text_length f_x_text_bytes f_x_told_sizes f_x_told_cells v_x_now_place v_x_now_voided v_x_now_counted v_x_acts_size f_x_acts_kinds f_x_acts_numbers v_x_sightings_size f_x_sightings_contracts f_x_sightings_days v_x_sides_size v_x_kept0_place v_x_kept0_voided v_x_kept0_counted v_x_kept1_place v_x_kept1_voided v_x_kept1_counted v_m_textSize v_m_contracts v_m_births v_m_tides v_m_debts v_m_acts v_m_seen v_m_seed f_m_text f_m_contract f_m_birth f_m_tide f_m_debt f_m_page f_m_book f_m_kept f_m_isKept f_m_seenContract f_m_seenDay := by
  refine ⟨?_, hR⟩
  have k := hcm.trans (slips_eq x1 x2 x3 x4)
  exact (Prod.mk.inj k).1.symm
/-- seed -/
theorem rr_24 {v_x_keptSlots : Int32} {v_x_theSeed : Int64} {v_x_text_length : Int32} {f_x_text_bytes : Nat → Int32} {f_x_told_sizes : Nat → Int32} {f_x_told_cells : Nat → Int32} {v_x_now_place : Int32} {v_x_now_voided : Int32} {v_x_now_counted : Int32} {v_x_acts_size : Int32} {f_x_acts_kinds : Nat → Int32} {f_x_acts_numbers : Nat → Int32} {v_x_sightings_size : Int32} {f_x_sightings_contracts : Nat → Int32} {f_x_sightings_days : Nat → Int32} {v_x_sides_size : Int32} {v_x_kept0_place : Int32} {v_x_kept0_voided : Int32} {v_x_kept0_counted : Int32} {v_x_kept1_place : Int32} {v_x_kept1_voided : Int32} {v_x_kept1_counted : Int32} {v_m_textSize : Int32} {v_m_contracts : Int32} {v_m_births : Int32} {v_m_tides : Int32} {v_m_debts : Int32} {v_m_acts : Int32} {v_m_seen : Int32} {v_m_seed : Int64} {f_m_text : Nat → Int32} {f_m_contract : Nat → Int32} {f_m_birth : Nat → Int32} {f_m_tide : Nat → Int32} {f_m_debt : Nat → Int32} {f_m_page : Nat → Int32} {f_m_book : Nat → Int32} {f_m_kept : Nat → Int32} {f_m_isKept : Nat → Int32} {f_m_seenContract : Nat → Int32} {f_m_seenDay : Nat → Int32} {rx : Int64} {u_x_theSeed : Int64} {rm : Int64} {u_m_thrown : Int32} {u_m_seed : Int64} (hR : RR v_x_keptSlots v_x_theSeed v_x_text_length f_x_text_bytes f_x_told_sizes f_x_told_cells v_x_now_place v_x_now_voided v_x_now_counted v_x_acts_size f_x_acts_kinds f_x_acts_numbers v_x_sightings_size f_x_sightings_contracts f_x_sightings_days v_x_sides_size v_x_kept0_place v_x_kept0_voided v_x_kept0_counted v_x_kept1_place v_x_kept1_voided v_x_kept1_counted v_m_textSize v_m_contracts v_m_births v_m_tides v_m_debts v_m_acts v_m_seen v_m_seed f_m_text f_m_contract f_m_birth f_m_tide f_m_debt f_m_page f_m_book f_m_kept f_m_isKept f_m_seenContract f_m_seenDay) (x1 : Int64) (hcx : (rx, u_x_theSeed) = f_X6_seed v_x_theSeed x1) (hcm : (rm, u_m_thrown, u_m_seed) = f_X7_seed v_m_seed x1) : (rx = rm) ∧ RR v_x_keptSlots u_x_theSeed v_x_text_length f_x_text_bytes f_x_told_sizes f_x_told_cells v_x_now_place v_x_now_voided v_x_now_counted v_x_acts_size f_x_acts_kinds f_x_acts_numbers v_x_sightings_size f_x_sightings_contracts f_x_sightings_days v_x_sides_size v_x_kept0_place v_x_kept0_voided v_x_kept0_counted v_x_kept1_place v_x_kept1_voided v_x_kept1_counted v_m_textSize v_m_contracts v_m_births v_m_tides v_m_debts v_m_acts v_m_seen u_m_seed f_m_text f_m_contract f_m_birth f_m_tide f_m_debt f_m_page f_m_book f_m_kept f_m_isKept f_m_seenContract f_m_seenDay := by
  obtain ⟨hI, ⟨e12, e3, eT⟩, hB⟩ := hR
  have key : rx = rm ∧ u_x_theSeed = u_m_seed := by
    simp only [f_X6_seed, f_X7_seed] at hcx hcm
    grind
  exact ⟨key.1, hI, ⟨e12, key.2, eT⟩, hB⟩
/-- years -/
theorem rr_25 {v_x_keptSlots : Int32} {v_x_theSeed : Int64} {v_x_text_length : Int32} {f_x_text_bytes : Nat → Int32} {f_x_told_sizes : Nat → Int32} {f_x_told_cells : Nat → Int32} {v_x_now_place : Int32} {v_x_now_voided : Int32} {v_x_now_counted : Int32} {v_x_acts_size : Int32} {f_x_acts_kinds : Nat → Int32} {f_x_acts_numbers : Nat → Int32} {v_x_sightings_size : Int32} {f_x_sightings_contracts : Nat → Int32} {f_x_sightings_days : Nat → Int32} {v_x_sides_size : Int32} {v_x_kept0_place : Int32} {v_x_kept0_voided : Int32} {v_x_kept0_counted : Int32} {v_x_kept1_place : Int32} {v_x_kept1_voided : Int32} {v_x_kept1_counted : Int32} {v_m_textSize : Int32} {v_m_contracts : Int32} {v_m_births : Int32} {v_m_tides : Int32} {v_m_debts : Int32} {v_m_acts : Int32} {v_m_seen : Int32} {v_m_seed : Int64} {f_m_text : Nat → Int32} {f_m_contract : Nat → Int32} {f_m_birth : Nat → Int32} {f_m_tide : Nat → Int32} {f_m_debt : Nat → Int32} {f_m_page : Nat → Int32} {f_m_book : Nat → Int32} {f_m_kept : Nat → Int32} {f_m_isKept : Nat → Int32} {f_m_seenContract : Nat → Int32} {f_m_seenDay : Nat → Int32} {rx : Int32} {u_x_theSeed : Int64} {rm : Int32} {u_m_thrown : Int32} {u_m_seed : Int64} (hR : RR v_x_keptSlots v_x_theSeed v_x_text_length f_x_text_bytes f_x_told_sizes f_x_told_cells v_x_now_place v_x_now_voided v_x_now_counted v_x_acts_size f_x_acts_kinds f_x_acts_numbers v_x_sightings_size f_x_sightings_contracts f_x_sightings_days v_x_sides_size v_x_kept0_place v_x_kept0_voided v_x_kept0_counted v_x_kept1_place v_x_kept1_voided v_x_kept1_counted v_m_textSize v_m_contracts v_m_births v_m_tides v_m_debts v_m_acts v_m_seen v_m_seed f_m_text f_m_contract f_m_birth f_m_tide f_m_debt f_m_page f_m_book f_m_kept f_m_isKept f_m_seenContract f_m_seenDay) (x1 : Int32) (hcx : (rx, u_x_theSeed) = f_X6_years v_x_theSeed f_x_told_sizes f_x_told_cells v_x_now_voided v_x_now_counted x1) (hcm : (rm, u_m_thrown, u_m_seed) = f_X7_years v_m_contracts v_m_seed f_m_contract f_m_page x1) : (rx = rm) ∧ RR v_x_keptSlots u_x_theSeed v_x_text_length f_x_text_bytes f_x_told_sizes f_x_told_cells v_x_now_place v_x_now_voided v_x_now_counted v_x_acts_size f_x_acts_kinds f_x_acts_numbers v_x_sightings_size f_x_sightings_contracts f_x_sightings_days v_x_sides_size v_x_kept0_place v_x_kept0_voided v_x_kept0_counted v_x_kept1_place v_x_kept1_voided v_x_kept1_counted v_m_textSize v_m_contracts v_m_births v_m_tides v_m_debts v_m_acts v_m_seen u_m_seed f_m_text f_m_contract f_m_birth f_m_tide f_m_debt f_m_page f_m_book f_m_kept f_m_isKept f_m_seenContract f_m_seenDay := by
  obtain ⟨hI, ⟨e12, e3, eT⟩, hC, hP, hB⟩ := hR
  have i11 := hI.2.2.2.2.2.2.2.2.2.2.1
  have i12 : v_m_contracts ≤ 5 := hI.2.2.2.2.2.2.2.2.2.2.2.1
  subst e3
  have key : rx = rm ∧ u_x_theSeed = u_m_seed := by
    unfold f_X6_years at hcx
    unfold f_X7_years at hcm
    have hin := in_1_40 x1
    by_cases h : 1 ≤ x1 ∧ x1 ≤ 40
    · rw [if_neg (show ¬ x1 < 1 by grind), if_pos h.2] at hcx
      rw [if_pos (show ¬ f_X7_in x1.toInt64 1 40 = 0 by rw [hin]; grind)] at hcm
      have k := hcm.trans (years_loop hC hP i12 x1 _ 0 0 v_x_theSeed)
      grind
    · rw [if_neg (show ¬ ¬ f_X7_in x1.toInt64 1 40 = 0 by rw [hin]; grind)] at hcm
      grind
  exact ⟨key.1, hI, ⟨e12, key.2, eT⟩, hC, hP, hB⟩
/-- keep -/
theorem rr_26 {v_x_keptSlots : Int32} {v_x_theSeed : Int64} {v_x_text_length : Int32} {f_x_text_bytes : Nat → Int32} {f_x_told_sizes : Nat → Int32} {f_x_told_cells : Nat → Int32} {v_x_now_place : Int32} {v_x_now_voided : Int32} {v_x_now_counted : Int32} {v_x_acts_size : Int32} {f_x_acts_kinds : Nat → Int32} {f_x_acts_numbers : Nat → Int32} {v_x_sightings_size : Int32} {f_x_sightings_contracts : Nat → Int32} {f_x_sightings_days : Nat → Int32} {v_x_sides_size : Int32} {v_x_kept0_place : Int32} {v_x_kept0_voided : Int32} {v_x_kept0_counted : Int32} {v_x_kept1_place : Int32} {v_x_kept1_voided : Int32} {v_x_kept1_counted : Int32} {v_m_textSize : Int32} {v_m_contracts : Int32} {v_m_births : Int32} {v_m_tides : Int32} {v_m_debts : Int32} {v_m_acts : Int32} {v_m_seen : Int32} {v_m_seed : Int64} {f_m_text : Nat → Int32} {f_m_contract : Nat → Int32} {f_m_birth : Nat → Int32} {f_m_tide : Nat → Int32} {f_m_debt : Nat → Int32} {f_m_page : Nat → Int32} {f_m_book : Nat → Int32} {f_m_kept : Nat → Int32} {f_m_isKept : Nat → Int32} {f_m_seenContract : Nat → Int32} {f_m_seenDay : Nat → Int32} {rx : Int32} {u_x_keptSlots : Int32} {u_x_kept0_place : Int32} {u_x_kept0_voided : Int32} {u_x_kept0_counted : Int32} {u_x_kept1_place : Int32} {u_x_kept1_voided : Int32} {u_x_kept1_counted : Int32} {rm : Int32} {u_m_thrown : Int32} {u_m_kept : Nat → Int32} {u_m_isKept : Nat → Int32} (hR : RR v_x_keptSlots v_x_theSeed v_x_text_length f_x_text_bytes f_x_told_sizes f_x_told_cells v_x_now_place v_x_now_voided v_x_now_counted v_x_acts_size f_x_acts_kinds f_x_acts_numbers v_x_sightings_size f_x_sightings_contracts f_x_sightings_days v_x_sides_size v_x_kept0_place v_x_kept0_voided v_x_kept0_counted v_x_kept1_place v_x_kept1_voided v_x_kept1_counted v_m_textSize v_m_contracts v_m_births v_m_tides v_m_debts v_m_acts v_m_seen v_m_seed f_m_text f_m_contract f_m_birth f_m_tide f_m_debt f_m_page f_m_book f_m_kept f_m_isKept f_m_seenContract f_m_seenDay) (x1 : Int32) (hcx : (rx, u_x_keptSlots, u_x_kept0_place, u_x_kept0_voided, u_x_kept0_counted, u_x_kept1_place, u_x_kept1_voided, u_x_kept1_counted) = f_X6_keep v_x_keptSlots f_x_told_sizes f_x_told_cells v_x_now_place v_x_now_voided v_x_now_counted v_x_kept0_place v_x_kept0_voided v_x_kept0_counted v_x_kept1_place v_x_kept1_voided v_x_kept1_counted x1) (hcm : (rm, u_m_thrown, u_m_kept, u_m_isKept) = f_X7_keep v_m_contracts f_m_contract f_m_page f_m_kept f_m_isKept x1) : (rx = rm) ∧ RR u_x_keptSlots v_x_theSeed v_x_text_length f_x_text_bytes f_x_told_sizes f_x_told_cells v_x_now_place v_x_now_voided v_x_now_counted v_x_acts_size f_x_acts_kinds f_x_acts_numbers v_x_sightings_size f_x_sightings_contracts f_x_sightings_days v_x_sides_size u_x_kept0_place u_x_kept0_voided u_x_kept0_counted u_x_kept1_place u_x_kept1_voided u_x_kept1_counted v_m_textSize v_m_contracts v_m_births v_m_tides v_m_debts v_m_acts v_m_seen v_m_seed f_m_text f_m_contract f_m_birth f_m_tide f_m_debt f_m_page f_m_book u_m_kept u_m_isKept f_m_seenContract f_m_seenDay := by
  obtain ⟨hI, hT, hC, hP, hA, hQ⟩ := hR
  have i12 : v_m_contracts ≤ 5 := hI.2.2.2.2.2.2.2.2.2.2.2.1
  have hb := bc_broken hC hP i12 hP.2.2.2.1 hP.2.2.2.2.1
  have p0 : f_m_page 0 = v_x_now_place := hP.1
  obtain ⟨⟨q0, q1⟩, q2, q3⟩ := hQ
  unfold f_X6_keep f_X6_brokenNow f_X3_copyFrom at hcx
  by_cases h0 : x1 = 0
  · subst h0
    have hm := hcm.trans (keep_eq v_m_contracts f_m_contract f_m_page f_m_kept f_m_isKept (s := 0) (by omega))
    rw [if_neg (by decide), if_pos (by decide), if_pos rfl, hb] at hcx
    have hcx : (rx, u_x_keptSlots, u_x_kept0_place, u_x_kept0_voided, u_x_kept0_counted, u_x_kept1_place, u_x_kept1_voided, u_x_kept1_counted) = (f_X7_many (f_X7_brokenBy v_m_contracts f_m_contract f_m_page v_x_now_place), v_x_keptSlots ||| ((1 : Int32) <<< ((0 : Int32) &&& 31)), v_x_now_place, v_x_now_voided, v_x_now_counted, v_x_kept1_place, v_x_kept1_voided, v_x_kept1_counted) := hcx
    rw [p0] at hm
    simp only [Prod.mk.injEq] at hcx hm
    obtain ⟨rfl, rfl, rfl, rfl, rfl, rfl, rfl, rfl⟩ := hcx
    obtain ⟨rfl, rfl, rfl, rfl⟩ := hm
    have k0 := kbit v_x_keptSlots 0 (by omega) 0 (by omega)
    have k1 := kbit v_x_keptSlots 0 (by omega) 1 (by omega)
    rw [if_pos rfl] at k0
    rw [if_neg (by omega)] at k1
    refine ⟨rfl, hI, hT, hC, hP, hA, ⟨?_, fun _ => ?_⟩, ?_, fun hz => ?_⟩
    · have e : upd f_m_isKept 0 1 0 = 1 := rfl
      rw [e]
      exact iff_of_false (fun q => absurd (k0.symm.trans q) (by decide)) (by decide)
    · exact page_congr (fun q hq => by
        have := cpy_in (w := f_m_kept) (pg := f_m_page) (b := 0) hq
        rw [Nat.zero_add] at this
        exact this) hP
    · have e : upd f_m_isKept 0 1 1 = f_m_isKept 1 := rfl
      rw [e]
      exact (show _ = (v_x_keptSlots >>> ((1 : Int32) &&& 31)) &&& 1 from k1) ▸ q2
    · have e : upd f_m_isKept 0 1 1 = f_m_isKept 1 := rfl
      rw [e] at hz
      exact page_congr (fun q hq => by
        show cpy f_m_kept f_m_page 0 12 (12 + q) = f_m_kept (12 + q)
        unfold cpy
        rw [if_neg (by omega)]) (q3 hz)
  · by_cases h1 : x1 = 1
    · subst h1
      have hm := hcm.trans (keep_eq v_m_contracts f_m_contract f_m_page f_m_kept f_m_isKept (s := 1) (by omega))
      rw [if_neg (by decide), if_pos (by decide), if_neg (by decide), hb] at hcx
      have hcx : (rx, u_x_keptSlots, u_x_kept0_place, u_x_kept0_voided, u_x_kept0_counted, u_x_kept1_place, u_x_kept1_voided, u_x_kept1_counted) = (f_X7_many (f_X7_brokenBy v_m_contracts f_m_contract f_m_page v_x_now_place), v_x_keptSlots ||| ((1 : Int32) <<< ((1 : Int32) &&& 31)), v_x_kept0_place, v_x_kept0_voided, v_x_kept0_counted, v_x_now_place, v_x_now_voided, v_x_now_counted) := hcx
      rw [p0] at hm
      simp only [Prod.mk.injEq] at hcx hm
      obtain ⟨rfl, rfl, rfl, rfl, rfl, rfl, rfl, rfl⟩ := hcx
      obtain ⟨rfl, rfl, rfl, rfl⟩ := hm
      have k0 := kbit v_x_keptSlots 1 (by omega) 0 (by omega)
      have k1 := kbit v_x_keptSlots 1 (by omega) 1 (by omega)
      rw [if_neg (by omega)] at k0
      rw [if_pos rfl] at k1
      refine ⟨rfl, hI, hT, hC, hP, hA, ⟨?_, fun hz => ?_⟩, ?_, fun _ => ?_⟩
      · have e : upd f_m_isKept 1 1 0 = f_m_isKept 0 := rfl
        rw [e]
        exact (show _ = (v_x_keptSlots >>> ((0 : Int32) &&& 31)) &&& 1 from k0) ▸ q0
      · have e : upd f_m_isKept 1 1 0 = f_m_isKept 0 := rfl
        rw [e] at hz
        exact page_congr (fun q hq => by
          show cpy f_m_kept f_m_page 12 12 q = f_m_kept q
          exact cpy_out (by omega)) (q1 hz)
      · have e : upd f_m_isKept 1 1 1 = 1 := rfl
        rw [e]
        exact iff_of_false (fun q => absurd (k1.symm.trans q) (by decide)) (by decide)
      · exact page_congr (fun q hq => cpy_in (b := 12) hq) hP
    · have hin : f_X7_in x1.toInt64 0 1 = 0 := by rw [in_0_1]; grind
      unfold f_X7_keep at hcm
      rw [if_neg (fun q => q hin)] at hcm
      have hcx : (rx, u_x_keptSlots, u_x_kept0_place, u_x_kept0_voided, u_x_kept0_counted, u_x_kept1_place, u_x_kept1_voided, u_x_kept1_counted) = ((-1), v_x_keptSlots, v_x_kept0_place, v_x_kept0_voided, v_x_kept0_counted, v_x_kept1_place, v_x_kept1_voided, v_x_kept1_counted) := by
        rw [hcx]
        by_cases hl : x1 < 0
        · rw [if_pos hl]
        · rw [if_neg hl, if_neg (show ¬ x1 < 2 by grind)]
      simp only [Prod.mk.injEq] at hcx hcm
      obtain ⟨rfl, rfl, rfl, rfl, rfl, rfl, rfl, rfl⟩ := hcx
      obtain ⟨rfl, rfl, rfl, rfl⟩ := hcm
      exact ⟨rfl, hI, hT, hC, hP, hA, ⟨q0, q1⟩, q2, q3⟩
/-- again -/
theorem rr_27 {v_x_keptSlots : Int32} {v_x_theSeed : Int64} {v_x_text_length : Int32} {f_x_text_bytes : Nat → Int32} {f_x_told_sizes : Nat → Int32} {f_x_told_cells : Nat → Int32} {v_x_now_place : Int32} {v_x_now_voided : Int32} {v_x_now_counted : Int32} {v_x_acts_size : Int32} {f_x_acts_kinds : Nat → Int32} {f_x_acts_numbers : Nat → Int32} {v_x_sightings_size : Int32} {f_x_sightings_contracts : Nat → Int32} {f_x_sightings_days : Nat → Int32} {v_x_sides_size : Int32} {v_x_kept0_place : Int32} {v_x_kept0_voided : Int32} {v_x_kept0_counted : Int32} {v_x_kept1_place : Int32} {v_x_kept1_voided : Int32} {v_x_kept1_counted : Int32} {v_m_textSize : Int32} {v_m_contracts : Int32} {v_m_births : Int32} {v_m_tides : Int32} {v_m_debts : Int32} {v_m_acts : Int32} {v_m_seen : Int32} {v_m_seed : Int64} {f_m_text : Nat → Int32} {f_m_contract : Nat → Int32} {f_m_birth : Nat → Int32} {f_m_tide : Nat → Int32} {f_m_debt : Nat → Int32} {f_m_page : Nat → Int32} {f_m_book : Nat → Int32} {f_m_kept : Nat → Int32} {f_m_isKept : Nat → Int32} {f_m_seenContract : Nat → Int32} {f_m_seenDay : Nat → Int32} {rx : Int32} {u_x_now_place : Int32} {u_x_now_voided : Int32} {u_x_now_counted : Int32} {u_x_acts_size : Int32} {rm : Int32} {u_m_thrown : Int32} {u_m_acts : Int32} {u_m_page : Nat → Int32} (hR : RR v_x_keptSlots v_x_theSeed v_x_text_length f_x_text_bytes f_x_told_sizes f_x_told_cells v_x_now_place v_x_now_voided v_x_now_counted v_x_acts_size f_x_acts_kinds f_x_acts_numbers v_x_sightings_size f_x_sightings_contracts f_x_sightings_days v_x_sides_size v_x_kept0_place v_x_kept0_voided v_x_kept0_counted v_x_kept1_place v_x_kept1_voided v_x_kept1_counted v_m_textSize v_m_contracts v_m_births v_m_tides v_m_debts v_m_acts v_m_seen v_m_seed f_m_text f_m_contract f_m_birth f_m_tide f_m_debt f_m_page f_m_book f_m_kept f_m_isKept f_m_seenContract f_m_seenDay) (x1 : Int32) (hcx : (rx, u_x_now_place, u_x_now_voided, u_x_now_counted, u_x_acts_size) = f_X6_again v_x_keptSlots f_x_told_sizes f_x_told_cells v_x_now_place v_x_now_voided v_x_now_counted v_x_acts_size v_x_kept0_place v_x_kept0_voided v_x_kept0_counted v_x_kept1_place v_x_kept1_voided v_x_kept1_counted x1 ∧ (0 ≤ u_x_acts_size) ∧ (u_x_acts_size ≤ 14)) (hcm : (rm, u_m_thrown, u_m_acts, u_m_page) = f_X7_again v_m_contracts v_m_acts f_m_contract f_m_page f_m_kept f_m_isKept x1 ∧ (0 ≤ u_m_acts) ∧ (u_m_acts ≤ 14)) : (rx = rm) ∧ RR v_x_keptSlots v_x_theSeed v_x_text_length f_x_text_bytes f_x_told_sizes f_x_told_cells u_x_now_place u_x_now_voided u_x_now_counted u_x_acts_size f_x_acts_kinds f_x_acts_numbers v_x_sightings_size f_x_sightings_contracts f_x_sightings_days v_x_sides_size v_x_kept0_place v_x_kept0_voided v_x_kept0_counted v_x_kept1_place v_x_kept1_voided v_x_kept1_counted v_m_textSize v_m_contracts v_m_births v_m_tides v_m_debts u_m_acts v_m_seen v_m_seed f_m_text f_m_contract f_m_birth f_m_tide f_m_debt u_m_page f_m_book f_m_kept f_m_isKept f_m_seenContract f_m_seenDay := by
  obtain ⟨hI, hT, hC, hP, ⟨e7, hA⟩, hQ⟩ := hR
  obtain ⟨hx, hx0, hx1⟩ := hcx
  obtain ⟨hm, hm0, hm1⟩ := hcm
  obtain ⟨i1, i2, i3, i4, i5, i6, i7, i8, i9, i10, i11, i12, i13, i14, i15, i16, i17, i18, i19, i20, i21, i22⟩ := hI
  obtain ⟨⟨q0, q1⟩, q2, q3⟩ := hQ
  unfold f_X6_again f_X6_brokenNow f_X3_copyFrom f_X0_clear at hx
  have go : ∀ (s : Nat) (p v c : Int32), s < 2 → ¬ f_m_isKept s = 0 → PageOK v_m_contracts f_x_told_cells (fun q => f_m_kept (12 * s + q)) p v c → (rm, u_m_thrown, u_m_acts, u_m_page) = f_X7_again v_m_contracts v_m_acts f_m_contract f_m_page f_m_kept f_m_isKept (nI s) → rm = f_J6_bitCount_0f7a4 (f_X6_brokenAt f_x_told_sizes f_x_told_cells v c p) ∧ u_m_acts = 0 ∧ PageOK v_m_contracts f_x_told_cells u_m_page p v c := by
    intro s p v c hs hk hpg hmm
    have hm2 := hmm.trans (again_eq v_m_contracts v_m_acts f_m_contract f_m_page f_m_kept f_m_isKept hs hk)
    simp only [Prod.mk.injEq] at hm2
    obtain ⟨rfl, rfl, rfl, rfl⟩ := hm2
    have hP2 : PageOK v_m_contracts f_x_told_cells (cpy f_m_page (fun q => f_m_kept (12 * s + q)) 0 12) p v c := page_congr (fun q hq => by
      have := cpy_in (w := f_m_page) (pg := fun q => f_m_kept (12 * s + q)) (b := 0) hq
      rw [Nat.zero_add] at this
      exact this) hpg
    refine ⟨?_, rfl, hP2⟩
    have e0 : f_m_kept (12 * s) = p := hpg.1
    rw [e0]
    exact (bc_broken hC hP2 i12 hP2.2.2.2.1 hP2.2.2.2.2.1).symm
  by_cases h01 : x1 = 0 ∨ x1 = 1
  · obtain ⟨s, hs, rfl⟩ : ∃ s : Nat, s < 2 ∧ x1 = nI s := by
      rcases h01 with rfl | rfl
      · exact ⟨0, by omega, rfl⟩
      · exact ⟨1, by omega, rfl⟩
    have hin : ¬ f_X7_in (nI s).toInt64 0 1 = 0 := by
      rw [in_0_1, if_pos ⟨nI_pos' (by omega), nI_le (b := 1) (by omega) (by decide)⟩]
      decide
    have hbit : ((v_x_keptSlots >>> (nI s &&& 31)) &&& 1 = 0) ↔ f_m_isKept s = 0 := by
      have : s = 0 ∨ s = 1 := by omega
      rcases this with rfl | rfl
      · exact q0
      · exact q2
    rw [if_neg (nI_pos (by omega)), if_pos (show nI s < 2 from nI_lt (b := 2) hs (by decide))] at hx
    by_cases hk : f_m_isKept s = 0
    · unfold f_X7_again at hm
      rw [if_pos hin, nI_clamp (by omega), if_neg (fun q => q hk)] at hm
      rw [if_neg (fun q => q (hbit.mpr hk))] at hx
      simp only [Prod.mk.injEq] at hx hm
      obtain ⟨rfl, rfl, rfl, rfl, rfl⟩ := hx
      obtain ⟨rfl, rfl, rfl, rfl⟩ := hm
      exact ⟨rfl, ⟨i1, i2, i3, i4, i5, i6, i7, i8, i9, i10, i11, i12, i13, i14, i15, i16, i17, i18, i19, i20, i21, i22⟩, hT, hC, hP, ⟨e7, hA⟩, ⟨q0, q1⟩, q2, q3⟩
    · rw [if_pos (fun q => hk (hbit.mp q))] at hx
      have : s = 0 ∨ s = 1 := by omega
      rcases this with rfl | rfl
      · obtain ⟨g1, g2, g3⟩ := go 0 v_x_kept0_place v_x_kept0_voided v_x_kept0_counted hs hk (page_congr (fun q hq => by show f_m_kept (12 * 0 + q) = f_m_kept q; congr 1; omega) (q1 hk)) hm
        rw [if_pos (show nI 0 = 0 from rfl)] at hx
        have hx : (rx, u_x_now_place, u_x_now_voided, u_x_now_counted, u_x_acts_size) = (f_J6_bitCount_0f7a4 (f_X6_brokenAt f_x_told_sizes f_x_told_cells v_x_kept0_voided v_x_kept0_counted v_x_kept0_place), v_x_kept0_place, v_x_kept0_voided, v_x_kept0_counted, 0) := hx
        simp only [Prod.mk.injEq] at hx
        obtain ⟨rfl, rfl, rfl, rfl, rfl⟩ := hx
        subst g2
        exact ⟨g1.symm, ⟨i1, i2, hx0, hx1, i5, i6, i7, i8, i9, i10, i11, i12, i13, i14, i15, i16, i17, i18, hm0, hm1, i21, i22⟩, hT, hC, g3, ⟨rfl, ⟨fun _ => (u_x_now_place, u_x_now_voided, u_x_now_counted), rfl, fun j hj => absurd hj (Nat.not_lt_zero j)⟩⟩, ⟨q0, q1⟩, q2, q3⟩
      · obtain ⟨g1, g2, g3⟩ := go 1 v_x_kept1_place v_x_kept1_voided v_x_kept1_counted hs hk (q3 hk) hm
        rw [if_neg (show ¬ nI 1 = 0 by decide)] at hx
        have hx : (rx, u_x_now_place, u_x_now_voided, u_x_now_counted, u_x_acts_size) = (f_J6_bitCount_0f7a4 (f_X6_brokenAt f_x_told_sizes f_x_told_cells v_x_kept1_voided v_x_kept1_counted v_x_kept1_place), v_x_kept1_place, v_x_kept1_voided, v_x_kept1_counted, 0) := hx
        simp only [Prod.mk.injEq] at hx
        obtain ⟨rfl, rfl, rfl, rfl, rfl⟩ := hx
        subst g2
        exact ⟨g1.symm, ⟨i1, i2, hx0, hx1, i5, i6, i7, i8, i9, i10, i11, i12, i13, i14, i15, i16, i17, i18, hm0, hm1, i21, i22⟩, hT, hC, g3, ⟨rfl, ⟨fun _ => (u_x_now_place, u_x_now_voided, u_x_now_counted), rfl, fun j hj => absurd hj (Nat.not_lt_zero j)⟩⟩, ⟨q0, q1⟩, q2, q3⟩
  · have hin : f_X7_in x1.toInt64 0 1 = 0 := by rw [in_0_1]; grind
    unfold f_X7_again at hm
    rw [if_neg (fun q => q hin)] at hm
    have hx : (rx, u_x_now_place, u_x_now_voided, u_x_now_counted, u_x_acts_size) = ((-1), v_x_now_place, v_x_now_voided, v_x_now_counted, v_x_acts_size) := by
      rw [hx]
      by_cases hl : x1 < 0
      · rw [if_pos hl]
      · rw [if_neg hl, if_neg (show ¬ x1 < 2 by grind)]
    simp only [Prod.mk.injEq] at hx hm
    obtain ⟨rfl, rfl, rfl, rfl, rfl⟩ := hx
    obtain ⟨rfl, rfl, rfl, rfl⟩ := hm
    exact ⟨rfl, ⟨i1, i2, i3, i4, i5, i6, i7, i8, i9, i10, i11, i12, i13, i14, i15, i16, i17, i18, i19, i20, i21, i22⟩, hT, hC, hP, ⟨e7, hA⟩, ⟨q0, q1⟩, q2, q3⟩
