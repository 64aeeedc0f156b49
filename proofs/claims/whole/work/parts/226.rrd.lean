/-! acts: pages kept and taken back -/
def cpy (w pg : Nat → Int32) (b m : Nat) : Nat → Int32 := fun j => if b ≤ j ∧ j < b + m then pg (j - b) else w j
def shD (w : Nat → Int32) (d m : Nat) : Nat → Int32 := fun q => if q < m then w (q + d) else w q
theorem cpy_0 (w pg : Nat → Int32) (b : Nat) : cpy w pg b 0 = w := by
  funext j
  unfold cpy
  rw [if_neg (by omega)]
theorem cpy_s (w pg : Nat → Int32) (b m : Nat) : upd (cpy w pg b m) (b + m) (pg m) = cpy w pg b (m + 1) := by
  funext j
  unfold upd cpy
  by_cases h : j = b + m
  · subst h
    rw [if_pos rfl, if_pos (by omega), Nat.add_sub_cancel_left]
  · rw [if_neg h]
    by_cases h2 : b ≤ j ∧ j < b + m
    · rw [if_pos h2, if_pos (by omega)]
    · rw [if_neg h2, if_neg (by omega)]
theorem cpy_in {w pg : Nat → Int32} {b m q : Nat} (h : q < m) : cpy w pg b m (b + q) = pg q := by
  unfold cpy
  rw [if_pos (by omega), Nat.add_sub_cancel_left]
theorem cpy_out {w pg : Nat → Int32} {b m j : Nat} (h : j < b) : cpy w pg b m j = w j := by
  unfold cpy
  rw [if_neg (by omega)]
theorem shD_0 (w : Nat → Int32) (d : Nat) : shD w d 0 = w := by
  funext j
  unfold shD
  rw [if_neg (by omega)]
theorem shD_s (w : Nat → Int32) (d m : Nat) : upd (shD w d m) m (shD w d m (m + d)) = shD w d (m + 1) := by
  funext j
  unfold upd shD
  by_cases h : j = m
  · subst h
    rw [if_pos rfl, if_neg (by omega), if_pos (by omega)]
  · rw [if_neg h]
    by_cases h2 : j < m
    · rw [if_pos h2, if_pos (by omega)]
    · rw [if_neg h2, if_neg (by omega)]
theorem note_copy (pg : Nat → Int32) {a : Nat} (ha : a < 14) (w : Nat → Int32) : ∀ n j, j + n = 12 → it2 (f_X7_note_b51 pg (nI a)) default (n + 1) (nI j) (cpy w pg (12 * a) j) = (nI (a + 1), cpy w pg (12 * a) 12) := by
  intro n
  induction n with
  | zero =>
    intro j hj
    have : j = 12 := by omega
    subst this
    rw [it2_s, f_X7_note_b51, if_pos (by decide), nI_1]
  | succ n ih =>
    intro j hj
    have hlt : ¬ (12 : Int32) ≤ nI j := nI_ge (a := j) (b := 12) (by omega) (by decide)
    have e : (12 * nI a + nI j).toNatClampNeg = 12 * a + j := by
      rw [show (12 : Int32) = nI 12 from rfl, pk_mul, nI_add, nI_clamp (by omega)]
    rw [it2_s, f_X7_note_b51, if_neg hlt, nI_1, e, nI_clamp (by omega), cpy_s]
    exact ih (j + 1) (by omega)
theorem note_j49 (pg : Nat → Int32) {a : Nat} (ha : a < 14) (w : Nat → Int32) : f_X7_note_j49 pg (nI a) w = (nI (a + 1), cpy w pg (12 * a) 12) := by
  unfold f_X7_note_j49
  have := note_copy pg ha w 12 0 rfl
  rw [cpy_0] at this
  exact this
theorem note_shift (pg bk : Nat → Int32) : ∀ n j, j + n = 156 → it2 (f_X7_note_b11 14 pg) default (n + 1) (nI j) (shD bk 12 j) = f_X7_note_j49 pg (nI 13) (shD bk 12 156) := by
  intro n
  induction n with
  | zero =>
    intro j hj
    have : j = 156 := by omega
    subst this
    rw [it2_s, f_X7_note_b11, if_pos (by decide)]
    rfl
  | succ n ih =>
    intro j hj
    have hlt : ¬ (156 : Int32) ≤ nI j := nI_ge (a := j) (b := 156) (by omega) (by decide)
    have e : (nI j + 12).toNatClampNeg = j + 12 := by
      rw [show (12 : Int32) = nI 12 from rfl, nI_add, nI_clamp (by omega)]
    rw [it2_s, f_X7_note_b11, if_neg hlt, nI_1, e, nI_clamp (by omega), shD_s]
    exact ih (j + 1) (by omega)
theorem note_eq (pg bk : Nat → Int32) {a : Nat} (ha : a ≤ 14) : f_X7_note (nI a) pg bk = if a < 14 then (nI (a + 1), cpy bk pg (12 * a) 12) else (nI 14, cpy (shD bk 12 156) pg 156 12) := by
  unfold f_X7_note
  by_cases h : a < 14
  · have hne : ¬ nI a = 14 := by
      intro q
      have := (nI_eq (a := a) (b := 14) (by omega) (by omega)).mp q
      omega
    rw [if_pos hne, if_pos h, note_j49 pg h]
  · have : a = 14 := by omega
    subst this
    rw [if_neg (fun q => q rfl), if_neg h]
    have := note_shift pg bk 156 0 rfl
    rw [shD_0, note_j49 pg (by omega)] at this
    exact this
theorem forget_eq (kk kn : Nat → Int32) : f_X0_forgetFirst kk kn = (13, shD kk 1 13, shD kn 1 13) := by
  have key : ∀ n j, j + n = 13 → it3 f_X0_forgetFirst_b2 default (n + 1) (nI (j + 1)) (shD kk 1 j) (shD kn 1 j) = (13, shD kk 1 13, shD kn 1 13) := by
    intro n
    induction n with
    | zero =>
      intro j hj
      have : j = 13 := by omega
      subst this
      rw [it3_s, f_X0_forgetFirst_b2, if_pos (by decide)]
    | succ n ih =>
      intro j hj
      have hlt : ¬ (14 : Int32) ≤ nI (j + 1) := nI_ge (a := j + 1) (b := 14) (by omega) (by decide)
      have e : nI (j + 1) - 1 = nI j := nI_pred j
      rw [it3_s, f_X0_forgetFirst_b2, if_neg hlt, nI_1, e, nI_clamp (by omega), nI_clamp (by omega), shD_s, shD_s]
      exact ih (j + 1) (by omega)
  have := key 13 0 rfl
  rw [shD_0, shD_0] at this
  exact this
theorem add_eq (kk kn : Nat → Int32) (kind num : Int32) {a : Nat} (ha : a ≤ 14) : f_X0_add (nI a) kk kn kind num = if a < 14 then (nI (a + 1), upd kk a kind, upd kn a num) else (nI 14, upd (shD kk 1 13) 13 kind, upd (shD kn 1 13) 13 num) := by
  unfold f_X0_add
  by_cases h : a < 14
  · rw [if_pos (show nI a < 14 from nI_lt (b := 14) h (by decide)), if_pos h, f_X0_add_j13, nI_1, nI_clamp (by omega)]
  · have : a = 14 := by omega
    subst this
    rw [if_neg (by decide), if_neg h, forget_eq]
    rfl
theorem page_congr {ct : Int32} {ce pg pg' : Nat → Int32} {pl vo co : Int32} (h : ∀ q, q < 12 → pg' q = pg q) (hP : PageOK ct ce pg pl vo co) : PageOK ct ce pg' pl vo co := by
  obtain ⟨h0, h1, h2, h3⟩ := hP
  refine ⟨(h 0 (by omega)).trans h0, (h 1 (by omega)).trans h1, fun k hk hc => ?_, h3⟩
  rw [h (2 + k) (by omega), h (7 + k) (by omega)]
  exact h2 k hk hc
theorem acts_push {ct : Int32} {ce : Nat → Int32} {n : Nat} {kk kn pg bk : Nat → Int32} {pl vo co pl' vo' co' kind num : Int32} (hA : ActsOK ct ce n kk kn pl vo co bk) (hn : n < 14) (hP : PageOK ct ce pg pl vo co) (hs : stepU kind num (pl', vo', co') = (pl, vo, co)) : ActsOK ct ce (n + 1) (upd kk n kind) (upd kn n num) pl' vo' co' (cpy bk pg (12 * n) 12) := by
  obtain ⟨T, hT, hj⟩ := hA
  refine ⟨fun j => if j = n + 1 then (pl', vo', co') else T j, by simp, fun j hlt => ?_⟩
  rcases Nat.lt_or_ge j n with h | h
  · obtain ⟨h1, h2⟩ := hj j h
    simp only [if_neg (show ¬ j = n + 1 by omega), if_neg (show ¬ j + 1 = n + 1 by omega)]
    refine ⟨?_, page_congr (fun q hq => cpy_out (by omega)) h2⟩
    unfold upd
    rw [if_neg (by omega), if_neg (by omega)]
    exact h1
  · have : j = n := by omega
    subst this
    simp only [if_neg (show ¬ j = j + 1 by omega), if_pos]
    rw [hT]
    refine ⟨?_, page_congr (fun q hq => cpy_in hq) hP⟩
    unfold upd
    rw [if_pos rfl, if_pos rfl]
    exact hs.symm
theorem acts_shift {ct : Int32} {ce : Nat → Int32} {kk kn pg bk : Nat → Int32} {pl vo co pl' vo' co' kind num : Int32} (hA : ActsOK ct ce 14 kk kn pl vo co bk) (hP : PageOK ct ce pg pl vo co) (hs : stepU kind num (pl', vo', co') = (pl, vo, co)) : ActsOK ct ce 14 (upd (shD kk 1 13) 13 kind) (upd (shD kn 1 13) 13 num) pl' vo' co' (cpy (shD bk 12 156) pg 156 12) := by
  obtain ⟨T, hT, hj⟩ := hA
  refine ⟨fun j => if j = 14 then (pl', vo', co') else T (j + 1), by simp, fun j hlt => ?_⟩
  rcases Nat.lt_or_ge j 13 with h | h
  · obtain ⟨h1, h2⟩ := hj (j + 1) (by omega)
    simp only [if_neg (show ¬ j = 14 by omega), if_neg (show ¬ j + 1 = 14 by omega)]
    refine ⟨?_, page_congr (fun q hq => ?_) h2⟩
    · have u1 : ∀ (f : Nat → Int32) (v : Int32), upd f 13 v j = f j := fun f v => if_neg (show ¬ j = 13 by omega)
      have d1 : ∀ f : Nat → Int32, shD f 1 13 j = f (j + 1) := fun f => if_pos h
      rw [u1, u1, d1, d1]
      exact h1
    · rw [cpy_out (by omega)]
      unfold shD
      rw [if_pos (by omega)]
      congr 1
      omega
  · have : j = 13 := by omega
    subst this
    simp only [if_neg (show ¬ (13 : Nat) = 14 by omega), if_pos]
    rw [hT]
    refine ⟨?_, page_congr (fun q hq => cpy_in (b := 156) hq) hP⟩
    unfold upd
    rw [if_pos rfl, if_pos rfl]
    exact hs.symm
/-- an act is done on both sides -/
theorem act_both {ct : Int32} {ce : Nat → Int32} {a : Int32} {kk kn pg bk : Nat → Int32} {pl vo co pl' vo' co' kind num : Int32} (h0 : 0 ≤ a) (h14 : a ≤ 14) (hA : ActsOK ct ce a.toNatClampNeg kk kn pl vo co bk) (hP : PageOK ct ce pg pl vo co) (hs : stepU kind num (pl', vo', co') = (pl, vo, co)) :
    (f_X0_add a kk kn kind num).1 = (f_X7_note a pg bk).1 ∧ ActsOK ct ce (f_X7_note a pg bk).1.toNatClampNeg (f_X0_add a kk kn kind num).2.1 (f_X0_add a kk kn kind num).2.2 pl' vo' co' (f_X7_note a pg bk).2 := by
  obtain ⟨n, hn, rfl⟩ := nI_ex (n := 15) (k := 15) (by decide) h0 (by grind)
  rw [nI_clamp (by omega)] at hA
  rw [add_eq kk kn kind num (by omega), note_eq pg bk (by omega)]
  by_cases h : n < 14
  · rw [if_pos h, if_pos h]
    refine ⟨rfl, ?_⟩
    show ActsOK ct ce (nI (n + 1)).toNatClampNeg _ _ _ _ _ _
    rw [nI_clamp (by omega)]
    exact acts_push hA h hP hs
  · have : n = 14 := by omega
    subst this
    rw [if_neg h, if_neg h]
    exact ⟨rfl, acts_shift hA hP hs⟩
theorem xor_self2 (a b : Int32) : a ^^^ b ^^^ b = a := by
  apply Int32.toBitVec_inj.mp
  simp [BitVec.xor_assoc]
theorem xor5 : ∀ a, a < 32 → ∀ k, k < 5 → ((0 : Int32) ≤ nI a ^^^ ((1 : Int32) <<< (nI k &&& 31)) ∧ nI a ^^^ ((1 : Int32) <<< (nI k &&& 31)) < 32 ∧ ∀ j, j < 5 → ((nI a ^^^ ((1 : Int32) <<< (nI k &&& 31))) >>> (nI j &&& 31)) &&& 1 = if j = k then 1 - ((nI a >>> (nI j &&& 31)) &&& 1) else (nI a >>> (nI j &&& 31)) &&& 1) := by decide +kernel
theorem undo_copy (bk pg : Nat → Int32) {a : Nat} (ha : a < 14) : f_X7_undo (nI (a + 1)) pg bk = (nI a, 0, nI a, cpy pg (fun q => bk (12 * a + q)) 0 12) := by
  have e1 : nI (a + 1) - 1 = nI a := nI_pred a
  have key : ∀ n j, j + n = 12 → it2 (f_X7_undo_b27 (nI (a + 1)) bk) default (n + 1) (nI j) (cpy pg (fun q => bk (12 * a + q)) 0 j) = (nI a, 0, nI a, cpy pg (fun q => bk (12 * a + q)) 0 12) := by
    intro n
    induction n with
    | zero =>
      intro j hj
      have : j = 12 := by omega
      subst this
      rw [it2_s, f_X7_undo_b27, if_pos (by decide), e1]
    | succ n ih =>
      intro j hj
      have hlt : ¬ (12 : Int32) ≤ nI j := nI_ge (a := j) (b := 12) (by omega) (by decide)
      have e : (12 * nI a + nI j).toNatClampNeg = 12 * a + j := by
        rw [show (12 : Int32) = nI 12 from rfl, pk_mul, nI_add, nI_clamp (by omega)]
      have hs := cpy_s pg (fun q => bk (12 * a + q)) 0 j
      rw [Nat.zero_add] at hs
      rw [it2_s, f_X7_undo_b27, if_neg hlt, nI_1, e1, e, nI_clamp (by omega), hs]
      exact ih (j + 1) (by omega)
  unfold f_X7_undo
  have hne : ¬ nI (a + 1) = 0 := nI_ne0 (by omega) (by omega)
  rw [if_pos hne]
  have := key 12 0 rfl
  rw [cpy_0] at this
  exact this
theorem page_upd0 {ct : Int32} {ce pg : Nat → Int32} {pl vo co x : Int32} (h0 : 0 ≤ x) (h1 : x ≤ 13) (hP : PageOK ct ce pg pl vo co) : PageOK ct ce (upd pg (0 : Int32).toNatClampNeg x) x vo co := by
  obtain ⟨p0, p1, p2, p3, p4, p5⟩ := hP
  exact ⟨rfl, p1, fun k hk hc => by
    have e2 : upd pg (0 : Int32).toNatClampNeg x (2 + k) = pg (2 + k) := if_neg (by show ¬ 2 + k = 0; omega)
    have e7 : upd pg (0 : Int32).toNatClampNeg x (7 + k) = pg (7 + k) := if_neg (by show ¬ 7 + k = 0; omega)
    rw [e2, e7]; exact p2 k hk hc, h0, h1, p5⟩
theorem page_upd1 {ct : Int32} {ce pg : Nat → Int32} {pl vo co x : Int32} (h0 : 0 ≤ x) (h1 : x < 32) (hP : PageOK ct ce pg pl vo co) : PageOK ct ce (upd pg (1 : Int32).toNatClampNeg x) pl x co := by
  obtain ⟨p0, p1, p2, p3, p4, p5, p6, p7⟩ := hP
  exact ⟨p0, rfl, fun k hk hc => by
    have e2 : upd pg (1 : Int32).toNatClampNeg x (2 + k) = pg (2 + k) := if_neg (by show ¬ 2 + k = 1; omega)
    have e7 : upd pg (1 : Int32).toNatClampNeg x (7 + k) = pg (7 + k) := if_neg (by show ¬ 7 + k = 1; omega)
    rw [e2, e7]; exact p2 k hk hc, p3, p4, h0, h1, p7⟩
