theorem upd_ne {f : Nat → Int32} {i j : Nat} {v : Int32} (h : ¬ j = i) : upd f i v j = f j := if_neg h
theorem upd_eq {f : Nat → Int32} {i : Nat} {v : Int32} : upd f i v i = v := if_pos rfl
theorem case_C {c b d e : Nat} {sz ce rc rb rt rd : Nat → Int32} (hb5 : c ≤ 5) (hb3 : b ≤ 3) (hd3 : d ≤ 3) (he6 : e ≤ 6) (hC : CaseOK (nI c) (nI b) (nI d) (nI e) sz ce rc rb rt rd) (hk : c < 5) {a0 a1 a2 a3 a4 : Int32} (h0 : 0 ≤ a0) (h1 : a0 ≤ 11) (h2 : a1 = 0 ∨ a1 = 1) (h3 : 0 ≤ a2) (h4 : a2 ≤ 11) (h5 : 0 ≤ a3) (h6 : a3 ≤ 11) (h7 : 0 ≤ a4) (h8 : a4 ≤ 9) : CaseOK (nI (c + 1)) (nI b) (nI d) (nI e) (upd sz 0 (nI (c + 1))) (upd (upd (upd (upd (upd ce (5 * c) a0) (5 * c + 1) a1) (5 * c + 2) a2) (5 * c + 3) a3) (5 * c + 4) a4) (upd (upd (upd (upd (upd rc (5 * c) a0) (5 * c + 1) a1) (5 * c + 2) a2) (5 * c + 3) a3) (5 * c + 4) a4) rb rt rd := by
  obtain ⟨⟨z0, z1, z2, z3⟩, cC, cB, cT, cD⟩ := hC
  have o : ∀ j, (j < 5 * c ∨ 5 * c + 5 ≤ j) → (upd (upd (upd (upd (upd ce (5 * c) a0) (5 * c + 1) a1) (5 * c + 2) a2) (5 * c + 3) a3) (5 * c + 4) a4) j = ce j := by
    intro j hj
    rw [upd_ne (by omega), upd_ne (by omega), upd_ne (by omega), upd_ne (by omega), upd_ne (by omega)]
  have om : ∀ j, (j < 5 * c ∨ 5 * c + 5 ≤ j) → (upd (upd (upd (upd (upd rc (5 * c) a0) (5 * c + 1) a1) (5 * c + 2) a2) (5 * c + 3) a3) (5 * c + 4) a4) j = rc j := by
    intro j hj
    rw [upd_ne (by omega), upd_ne (by omega), upd_ne (by omega), upd_ne (by omega), upd_ne (by omega)]
  have n0 : (upd (upd (upd (upd (upd ce (5 * c) a0) (5 * c + 1) a1) (5 * c + 2) a2) (5 * c + 3) a3) (5 * c + 4) a4) (5 * c) = a0 := by rw [upd_ne (by omega), upd_ne (by omega), upd_ne (by omega), upd_ne (by omega), upd_eq]
  have w0 : (upd (upd (upd (upd (upd rc (5 * c) a0) (5 * c + 1) a1) (5 * c + 2) a2) (5 * c + 3) a3) (5 * c + 4) a4) (5 * c) = a0 := by rw [upd_ne (by omega), upd_ne (by omega), upd_ne (by omega), upd_ne (by omega), upd_eq]
  have n1 : (upd (upd (upd (upd (upd ce (5 * c) a0) (5 * c + 1) a1) (5 * c + 2) a2) (5 * c + 3) a3) (5 * c + 4) a4) (5 * c + 1) = a1 := by rw [upd_ne (by omega), upd_ne (by omega), upd_ne (by omega), upd_eq]
  have w1 : (upd (upd (upd (upd (upd rc (5 * c) a0) (5 * c + 1) a1) (5 * c + 2) a2) (5 * c + 3) a3) (5 * c + 4) a4) (5 * c + 1) = a1 := by rw [upd_ne (by omega), upd_ne (by omega), upd_ne (by omega), upd_eq]
  have n2 : (upd (upd (upd (upd (upd ce (5 * c) a0) (5 * c + 1) a1) (5 * c + 2) a2) (5 * c + 3) a3) (5 * c + 4) a4) (5 * c + 2) = a2 := by rw [upd_ne (by omega), upd_ne (by omega), upd_eq]
  have w2 : (upd (upd (upd (upd (upd rc (5 * c) a0) (5 * c + 1) a1) (5 * c + 2) a2) (5 * c + 3) a3) (5 * c + 4) a4) (5 * c + 2) = a2 := by rw [upd_ne (by omega), upd_ne (by omega), upd_eq]
  have n3 : (upd (upd (upd (upd (upd ce (5 * c) a0) (5 * c + 1) a1) (5 * c + 2) a2) (5 * c + 3) a3) (5 * c + 4) a4) (5 * c + 3) = a3 := by rw [upd_ne (by omega), upd_eq]
  have w3 : (upd (upd (upd (upd (upd rc (5 * c) a0) (5 * c + 1) a1) (5 * c + 2) a2) (5 * c + 3) a3) (5 * c + 4) a4) (5 * c + 3) = a3 := by rw [upd_ne (by omega), upd_eq]
  have n4 : (upd (upd (upd (upd (upd ce (5 * c) a0) (5 * c + 1) a1) (5 * c + 2) a2) (5 * c + 3) a3) (5 * c + 4) a4) (5 * c + 4) = a4 := by rw [upd_eq]
  have w4 : (upd (upd (upd (upd (upd rc (5 * c) a0) (5 * c + 1) a1) (5 * c + 2) a2) (5 * c + 3) a3) (5 * c + 4) a4) (5 * c + 4) = a4 := by rw [upd_eq]
  refine ⟨⟨upd_eq, (upd_ne (by decide)).trans z1, (upd_ne (by decide)).trans z2, (upd_ne (by decide)).trans z3⟩, ?_, ?_, ?_, ?_⟩
  · intro k hk5 hkc
    have hkc2 : k < c + 1 := (nI_ltI (by omega) (by omega)).mp hkc
    rcases Nat.lt_or_ge k c with q | q
    · have h := cC k hk5 (nI_lt q (by omega))
      rw [← o (5 * k) (by omega), ← om (5 * k) (by omega)] at h
      rw [← o (5 * k + 1) (by omega), ← om (5 * k + 1) (by omega)] at h
      rw [← o (5 * k + 2) (by omega), ← om (5 * k + 2) (by omega)] at h
      rw [← o (5 * k + 3) (by omega), ← om (5 * k + 3) (by omega)] at h
      rw [← o (5 * k + 4) (by omega), ← om (5 * k + 4) (by omega)] at h
      exact h
    · have : k = c := by omega
      subst this
      rw [w0, w1, w2, w3, w4, n0, n1, n2, n3, n4]
      exact ⟨⟨rfl, rfl, rfl, rfl, rfl⟩, h0, h1, h2, h3, h4, h5, h6, h7, h8⟩
  · intro k hk5 hkc
    have h := cB k hk5 hkc
    rw [← o (30 + 5 * k) (by omega)] at h
    rw [← o (31 + 5 * k) (by omega)] at h
    exact h
  · intro k hk5 hkc
    have h := cT k hk5 hkc
    rw [← o (60 + 5 * k) (by omega)] at h
    rw [← o (61 + 5 * k) (by omega)] at h
    exact h
  · intro k hk5 hkc
    have h := cD k hk5 hkc
    rw [← o (90 + 5 * k) (by omega)] at h
    rw [← o (91 + 5 * k) (by omega)] at h
    rw [← o (92 + 5 * k) (by omega)] at h
    exact h
theorem case_B {c b d e : Nat} {sz ce rc rb rt rd : Nat → Int32} (hb5 : c ≤ 5) (hb3 : b ≤ 3) (hd3 : d ≤ 3) (he6 : e ≤ 6) (hC : CaseOK (nI c) (nI b) (nI d) (nI e) sz ce rc rb rt rd) (hk : b < 3) {a0 a1 : Int32} (h0 : 0 ≤ a0) (h1 : a0 ≤ 11) (h2 : 0 ≤ a1) (h3 : a1 ≤ 9) : CaseOK (nI c) (nI (b + 1)) (nI d) (nI e) (upd sz 1 (nI (b + 1))) (upd (upd ce (30 + 5 * b) a0) (30 + 5 * b + 1) a1) rc (upd (upd rb (2 * b) a0) (2 * b + 1) a1) rt rd := by
  obtain ⟨⟨z0, z1, z2, z3⟩, cC, cB, cT, cD⟩ := hC
  have o : ∀ j, (j < 30 + 5 * b ∨ 30 + 5 * b + 2 ≤ j) → (upd (upd ce (30 + 5 * b) a0) (30 + 5 * b + 1) a1) j = ce j := by
    intro j hj
    rw [upd_ne (by omega), upd_ne (by omega)]
  have om : ∀ j, (j < 2 * b ∨ 2 * b + 2 ≤ j) → (upd (upd rb (2 * b) a0) (2 * b + 1) a1) j = rb j := by
    intro j hj
    rw [upd_ne (by omega), upd_ne (by omega)]
  have n0 : (upd (upd ce (30 + 5 * b) a0) (30 + 5 * b + 1) a1) (30 + 5 * b) = a0 := by rw [upd_ne (by omega), upd_eq]
  have w0 : (upd (upd rb (2 * b) a0) (2 * b + 1) a1) (2 * b) = a0 := by rw [upd_ne (by omega), upd_eq]
  have n1 : (upd (upd ce (30 + 5 * b) a0) (30 + 5 * b + 1) a1) (30 + 5 * b + 1) = a1 := by rw [upd_eq]
  have w1 : (upd (upd rb (2 * b) a0) (2 * b + 1) a1) (2 * b + 1) = a1 := by rw [upd_eq]
  refine ⟨⟨(upd_ne (by decide)).trans z0, upd_eq, (upd_ne (by decide)).trans z2, (upd_ne (by decide)).trans z3⟩, ?_, ?_, ?_, ?_⟩
  · intro k hk5 hkc
    have h := cC k hk5 hkc
    rw [← o (5 * k) (by omega)] at h
    rw [← o (5 * k + 1) (by omega)] at h
    rw [← o (5 * k + 2) (by omega)] at h
    rw [← o (5 * k + 3) (by omega)] at h
    rw [← o (5 * k + 4) (by omega)] at h
    exact h
  · intro k hk5 hkc
    have hkc2 : k < b + 1 := (nI_ltI (by omega) (by omega)).mp hkc
    rcases Nat.lt_or_ge k b with q | q
    · have h := cB k hk5 (nI_lt q (by omega))
      rw [← o (30 + 5 * k) (by omega), ← om (2 * k) (by omega)] at h
      rw [← o (31 + 5 * k) (by omega), ← om (2 * k + 1) (by omega)] at h
      exact h
    · have : k = b := by omega
      subst this
      rw [show 31 + 5 * k = 30 + 5 * k + 1 by omega]
      rw [w0, w1, n0, n1]
      exact ⟨rfl, rfl, h0, h1, h2, h3⟩
  · intro k hk5 hkc
    have h := cT k hk5 hkc
    rw [← o (60 + 5 * k) (by omega)] at h
    rw [← o (61 + 5 * k) (by omega)] at h
    exact h
  · intro k hk5 hkc
    have h := cD k hk5 hkc
    rw [← o (90 + 5 * k) (by omega)] at h
    rw [← o (91 + 5 * k) (by omega)] at h
    rw [← o (92 + 5 * k) (by omega)] at h
    exact h
theorem case_T {c b d e : Nat} {sz ce rc rb rt rd : Nat → Int32} (hb5 : c ≤ 5) (hb3 : b ≤ 3) (hd3 : d ≤ 3) (he6 : e ≤ 6) (hC : CaseOK (nI c) (nI b) (nI d) (nI e) sz ce rc rb rt rd) (hk : d < 3) {a0 a1 : Int32} (h0 : 2 ≤ a0) (h1 : a0 ≤ 9) (h2 : 0 ≤ a1) (h3 : a1 ≤ 9) : CaseOK (nI c) (nI b) (nI (d + 1)) (nI e) (upd sz 2 (nI (d + 1))) (upd (upd ce (60 + 5 * d) a0) (60 + 5 * d + 1) a1) rc rb (upd (upd rt (2 * d) a0) (2 * d + 1) a1) rd := by
  obtain ⟨⟨z0, z1, z2, z3⟩, cC, cB, cT, cD⟩ := hC
  have o : ∀ j, (j < 60 + 5 * d ∨ 60 + 5 * d + 2 ≤ j) → (upd (upd ce (60 + 5 * d) a0) (60 + 5 * d + 1) a1) j = ce j := by
    intro j hj
    rw [upd_ne (by omega), upd_ne (by omega)]
  have om : ∀ j, (j < 2 * d ∨ 2 * d + 2 ≤ j) → (upd (upd rt (2 * d) a0) (2 * d + 1) a1) j = rt j := by
    intro j hj
    rw [upd_ne (by omega), upd_ne (by omega)]
  have n0 : (upd (upd ce (60 + 5 * d) a0) (60 + 5 * d + 1) a1) (60 + 5 * d) = a0 := by rw [upd_ne (by omega), upd_eq]
  have w0 : (upd (upd rt (2 * d) a0) (2 * d + 1) a1) (2 * d) = a0 := by rw [upd_ne (by omega), upd_eq]
  have n1 : (upd (upd ce (60 + 5 * d) a0) (60 + 5 * d + 1) a1) (60 + 5 * d + 1) = a1 := by rw [upd_eq]
  have w1 : (upd (upd rt (2 * d) a0) (2 * d + 1) a1) (2 * d + 1) = a1 := by rw [upd_eq]
  refine ⟨⟨(upd_ne (by decide)).trans z0, (upd_ne (by decide)).trans z1, upd_eq, (upd_ne (by decide)).trans z3⟩, ?_, ?_, ?_, ?_⟩
  · intro k hk5 hkc
    have h := cC k hk5 hkc
    rw [← o (5 * k) (by omega)] at h
    rw [← o (5 * k + 1) (by omega)] at h
    rw [← o (5 * k + 2) (by omega)] at h
    rw [← o (5 * k + 3) (by omega)] at h
    rw [← o (5 * k + 4) (by omega)] at h
    exact h
  · intro k hk5 hkc
    have h := cB k hk5 hkc
    rw [← o (30 + 5 * k) (by omega)] at h
    rw [← o (31 + 5 * k) (by omega)] at h
    exact h
  · intro k hk5 hkc
    have hkc2 : k < d + 1 := (nI_ltI (by omega) (by omega)).mp hkc
    rcases Nat.lt_or_ge k d with q | q
    · have h := cT k hk5 (nI_lt q (by omega))
      rw [← o (60 + 5 * k) (by omega), ← om (2 * k) (by omega)] at h
      rw [← o (61 + 5 * k) (by omega), ← om (2 * k + 1) (by omega)] at h
      exact h
    · have : k = d := by omega
      subst this
      rw [show 61 + 5 * k = 60 + 5 * k + 1 by omega]
      rw [w0, w1, n0, n1]
      exact ⟨rfl, rfl, h0, h1, h2, h3⟩
  · intro k hk5 hkc
    have h := cD k hk5 hkc
    rw [← o (90 + 5 * k) (by omega)] at h
    rw [← o (91 + 5 * k) (by omega)] at h
    rw [← o (92 + 5 * k) (by omega)] at h
    exact h
theorem case_D {c b d e : Nat} {sz ce rc rb rt rd : Nat → Int32} (hb5 : c ≤ 5) (hb3 : b ≤ 3) (hd3 : d ≤ 3) (he6 : e ≤ 6) (hC : CaseOK (nI c) (nI b) (nI d) (nI e) sz ce rc rb rt rd) (hk : e < 6) {a0 a1 a2 : Int32} (h0 : 0 ≤ a0) (h1 : a0 ≤ 3) (h2 : 0 ≤ a1) (h3 : a1 ≤ 3) (h4 : 1 ≤ a2) (h5 : a2 ≤ 9) : CaseOK (nI c) (nI b) (nI d) (nI (e + 1)) (upd sz 3 (nI (e + 1))) (upd (upd (upd ce (90 + 5 * e) a0) (90 + 5 * e + 1) a1) (90 + 5 * e + 2) a2) rc rb rt (upd (upd (upd rd (3 * e) a0) (3 * e + 1) a1) (3 * e + 2) a2) := by
  obtain ⟨⟨z0, z1, z2, z3⟩, cC, cB, cT, cD⟩ := hC
  have o : ∀ j, (j < 90 + 5 * e ∨ 90 + 5 * e + 3 ≤ j) → (upd (upd (upd ce (90 + 5 * e) a0) (90 + 5 * e + 1) a1) (90 + 5 * e + 2) a2) j = ce j := by
    intro j hj
    rw [upd_ne (by omega), upd_ne (by omega), upd_ne (by omega)]
  have om : ∀ j, (j < 3 * e ∨ 3 * e + 3 ≤ j) → (upd (upd (upd rd (3 * e) a0) (3 * e + 1) a1) (3 * e + 2) a2) j = rd j := by
    intro j hj
    rw [upd_ne (by omega), upd_ne (by omega), upd_ne (by omega)]
  have n0 : (upd (upd (upd ce (90 + 5 * e) a0) (90 + 5 * e + 1) a1) (90 + 5 * e + 2) a2) (90 + 5 * e) = a0 := by rw [upd_ne (by omega), upd_ne (by omega), upd_eq]
  have w0 : (upd (upd (upd rd (3 * e) a0) (3 * e + 1) a1) (3 * e + 2) a2) (3 * e) = a0 := by rw [upd_ne (by omega), upd_ne (by omega), upd_eq]
  have n1 : (upd (upd (upd ce (90 + 5 * e) a0) (90 + 5 * e + 1) a1) (90 + 5 * e + 2) a2) (90 + 5 * e + 1) = a1 := by rw [upd_ne (by omega), upd_eq]
  have w1 : (upd (upd (upd rd (3 * e) a0) (3 * e + 1) a1) (3 * e + 2) a2) (3 * e + 1) = a1 := by rw [upd_ne (by omega), upd_eq]
  have n2 : (upd (upd (upd ce (90 + 5 * e) a0) (90 + 5 * e + 1) a1) (90 + 5 * e + 2) a2) (90 + 5 * e + 2) = a2 := by rw [upd_eq]
  have w2 : (upd (upd (upd rd (3 * e) a0) (3 * e + 1) a1) (3 * e + 2) a2) (3 * e + 2) = a2 := by rw [upd_eq]
  refine ⟨⟨(upd_ne (by decide)).trans z0, (upd_ne (by decide)).trans z1, (upd_ne (by decide)).trans z2, upd_eq⟩, ?_, ?_, ?_, ?_⟩
  · intro k hk5 hkc
    have h := cC k hk5 hkc
    rw [← o (5 * k) (by omega)] at h
    rw [← o (5 * k + 1) (by omega)] at h
    rw [← o (5 * k + 2) (by omega)] at h
    rw [← o (5 * k + 3) (by omega)] at h
    rw [← o (5 * k + 4) (by omega)] at h
    exact h
  · intro k hk5 hkc
    have h := cB k hk5 hkc
    rw [← o (30 + 5 * k) (by omega)] at h
    rw [← o (31 + 5 * k) (by omega)] at h
    exact h
  · intro k hk5 hkc
    have h := cT k hk5 hkc
    rw [← o (60 + 5 * k) (by omega)] at h
    rw [← o (61 + 5 * k) (by omega)] at h
    exact h
  · intro k hk5 hkc
    have hkc2 : k < e + 1 := (nI_ltI (by omega) (by omega)).mp hkc
    rcases Nat.lt_or_ge k e with q | q
    · have h := cD k hk5 (nI_lt q (by omega))
      rw [← o (90 + 5 * k) (by omega), ← om (3 * k) (by omega)] at h
      rw [← o (91 + 5 * k) (by omega), ← om (3 * k + 1) (by omega)] at h
      rw [← o (92 + 5 * k) (by omega), ← om (3 * k + 2) (by omega)] at h
      exact h
    · have : k = e := by omega
      subst this
      rw [show 91 + 5 * k = 90 + 5 * k + 1 by omega]
      rw [show 92 + 5 * k = 90 + 5 * k + 2 by omega]
      rw [w0, w1, w2, n0, n1, n2]
      exact ⟨rfl, rfl, rfl, h0, h1, h2, h3, h4, h5⟩
theorem f6766 : ((67 : Int32) = 66) = False := eq_false (by decide)
theorem f6784 : ((67 : Int32) = 84) = False := eq_false (by decide)
theorem f6779 : ((67 : Int32) = 79) = False := eq_false (by decide)
theorem f6667 : ((66 : Int32) = 67) = False := eq_false (by decide)
theorem f6684 : ((66 : Int32) = 84) = False := eq_false (by decide)
theorem f6679 : ((66 : Int32) = 79) = False := eq_false (by decide)
theorem f8467 : ((84 : Int32) = 67) = False := eq_false (by decide)
theorem f8466 : ((84 : Int32) = 66) = False := eq_false (by decide)
theorem f8479 : ((84 : Int32) = 79) = False := eq_false (by decide)
theorem f7967 : ((79 : Int32) = 67) = False := eq_false (by decide)
theorem f7966 : ((79 : Int32) = 66) = False := eq_false (by decide)
theorem f7984 : ((79 : Int32) = 84) = False := eq_false (by decide)
/-- all parts, one after another -/
theorem rp_loop {t : Nat → Int32} {l : Nat} (hl : l ≤ 64) : ∀ (n p c b d e : Nat) (sz ce rc rb rt rd : Nat → Int32), l < p + n → p ≤ l → c ≤ 5 → b ≤ 3 → d ≤ 3 → e ≤ 6 → CaseOK (nI c) (nI b) (nI d) (nI e) sz ce rc rb rt rd → ∃ (r : Int32) (sz' ce' : Nat → Int32) (pl ct bi ti de : Int32) (con bir tid deb : Nat → Int32), it3 (f_X5_readFrom_b34 (nI l) t) default n (nI p) sz ce = (r, sz', ce') ∧ it9 (f_X7_readCase_b50 (nI l) t) default n (nI p) (nI c) (nI b) (nI d) (nI e) rc rb rt rd = (r, pl, ct, bi, ti, de, con, bir, tid, deb) ∧ (r = -9 → CaseOK ct bi ti de sz' ce' con bir tid deb) := by
  intro n
  induction n with
  | zero =>
    intro p c b d e sz ce rc rb rt rd hn hp
    omega
  | succ n ih =>
    intro p c b d e sz ce rc rb rt rd hn hp hc5 hb3 hd3 he6 hC
    have szs := hC.1
    have np9 : ∀ q : Nat, q ≤ 64 → ¬ nI q = -9 := by
      intro q hq
      have := nI_pos' (n := q) (by omega)
      grind
    have pcl : (nI p).toNatClampNeg = p := nI_clamp (by omega)
    have back : nI (p + 1) - 1 = nI p := by
      rw [← nI_1]
      grind
    rw [it3_s, it9_s, f_X5_readFrom_b34, f_X7_readCase_b50, f_X4_length]
    by_cases hpl : nI l ≤ nI p
    · rw [if_pos hpl, if_pos hpl]
      exact ⟨-9, sz, ce, _, _, _, _, _, _, _, _, _, rfl, rfl, fun _ => hC⟩
    · have hlt : p < l := by
        rcases Nat.lt_or_ge p l with q | q
        · exact q
        · exact absurd ((nI_leI (by omega) (by omega)).mpr q) hpl
      rw [if_neg hpl, if_neg hpl, at_in t hl hp, if_pos hlt, nI_1]
      by_cases h67 : t p = 67
      · have hk : f_X5_kindBy (t p) = 0 := by rw [h67]; decide
        have hn0 : ¬ (0 : Int32) = -1 := by decide
        rw [hk, if_neg hn0, size_0, szs.1, show f_X5_mostOf 0 = 5 by decide]
        by_cases hx : c < 5
        · have lx : nI c < 5 := nI_lt (b := 5) hx (by decide)
          have gx : ¬ (5 : Int32) ≤ nI c := nI_ge (b := 5) hx (by decide)
          rw [if_pos lx]
          rcases rp_C (sz := sz) (ce := ce) (t := t) (rc := rc) hl (show p + 1 ≤ l by omega) hx szs.1 with ⟨e', ce', he', r1, r2⟩ | ⟨v0, v1, v2, v3, v4, hpp, h0', h1', h2', h3', h4', h5', h6', h7', h8', r1, r2⟩
          · have ne9 := np9 e' (by omega)
            refine ⟨nI e', sz, ce', nI e', nI c, nI b, nI d, nI e, rc, rb, rt, rd, ?_, ?_, fun q => absurd q ne9⟩
            · simp only [ap3, r1, ne9, if_false]
            · simp only [ap10, ap4, f_X7_readPart, f_X7_readPart_j39, f_X7_readPart_j58, f_X7_readPart_j77, f_X7_readPart_j97, pcl, h67, gx, nI_1, r2, f6766, f6784, f6779, f6667, f6684, f6679, f8467, f8466, f8479, f7967, f7966, f7984, eq_self, not_true_eq_false, not_false_eq_true, if_true, if_false]
          · obtain ⟨r, sz', ce', pl, ct, bi, ti, de, con, bir, tid, deb, f1, f2, f3⟩ := ih (p + 1 + 5) (c + 1) b d e _ _ _ rb rt rd (by omega) (by omega) (by omega) hb3 hd3 he6 (case_C hc5 hb3 hd3 he6 hC hx h0' h1' h2' h3' h4' h5' h6' h7' h8')
            refine ⟨r, sz', ce', pl, ct, bi, ti, de, con, bir, tid, deb, ?_, ?_, f3⟩
            · have hst : nI p + (1 + nI (lenS.getD (sgS 0) 0)) = nI (p + 1 + 5) := by
                rw [show (1 : Int32) + nI (lenS.getD (sgS 0) 0) = nI 6 by decide, nI_add]
              simp only [ap3, r1, eq_self, if_true]
              rw [hst]
              exact f1
            · simp only [ap10, ap4, f_X7_readPart, f_X7_readPart_j39, f_X7_readPart_j58, f_X7_readPart_j77, f_X7_readPart_j97, pcl, h67, gx, nI_1, r2, z10f, f6766, f6784, f6779, f6667, f6684, f6679, f8467, f8466, f8479, f7967, f7966, f7984, eq_self, not_true_eq_false, not_false_eq_true, if_true, if_false]
              exact f2
        · have : c = 5 := by omega
          subst this
          have lx : ¬ nI 5 < 5 := by decide
          have gx : (5 : Int32) ≤ nI 5 := by decide
          rw [if_neg lx]
          refine ⟨nI p, sz, ce, nI p, nI 5, nI b, nI d, nI e, rc, rb, rt, rd, rfl, ?_, fun q => absurd q (np9 p (by omega))⟩
          simp only [ap10, f_X7_readPart, f_X7_readPart_j39, f_X7_readPart_j58, f_X7_readPart_j77, f_X7_readPart_j97, pcl, h67, gx, back, nI_1, f6766, f6784, f6779, f6667, f6684, f6679, f8467, f8466, f8479, f7967, f7966, f7984, eq_self, not_true_eq_false, not_false_eq_true, if_true, if_false]
      · skip
        by_cases h66 : t p = 66
        · have hk : f_X5_kindBy (t p) = 1 := by rw [h66]; decide
          have hn0 : ¬ (1 : Int32) = -1 := by decide
          rw [hk, if_neg hn0, size_1, szs.2.1, show f_X5_mostOf 1 = 3 by decide]
          by_cases hx : b < 3
          · have lx : nI b < 3 := nI_lt (b := 3) hx (by decide)
            have gx : ¬ (3 : Int32) ≤ nI b := nI_ge (b := 3) hx (by decide)
            rw [if_pos lx]
            rcases rp_B (sz := sz) (ce := ce) (t := t) (rc := rb) hl (show p + 1 ≤ l by omega) hx szs.2.1 with ⟨e', ce', he', r1, r2⟩ | ⟨v0, v1, hpp, h0', h1', h2', h3', r1, r2⟩
            · have ne9 := np9 e' (by omega)
              refine ⟨nI e', sz, ce', nI e', nI c, nI b, nI d, nI e, rc, rb, rt, rd, ?_, ?_, fun q => absurd q ne9⟩
              · simp only [ap3, r1, ne9, if_false]
              · simp only [ap10, ap4, f_X7_readPart, f_X7_readPart_j39, f_X7_readPart_j58, f_X7_readPart_j77, f_X7_readPart_j97, pcl, h66, gx, nI_1, r2, f6766, f6784, f6779, f6667, f6684, f6679, f8467, f8466, f8479, f7967, f7966, f7984, eq_self, not_true_eq_false, not_false_eq_true, if_true, if_false]
            · obtain ⟨r, sz', ce', pl, ct, bi, ti, de, con, bir, tid, deb, f1, f2, f3⟩ := ih (p + 1 + 2) c (b + 1) d e _ _ rc _ rt rd (by omega) (by omega) hc5 (by omega) hd3 he6 (case_B hc5 hb3 hd3 he6 hC hx h0' h1' h2' h3')
              refine ⟨r, sz', ce', pl, ct, bi, ti, de, con, bir, tid, deb, ?_, ?_, f3⟩
              · have hst : nI p + (1 + nI (lenS.getD (sgS 1) 0)) = nI (p + 1 + 2) := by
                  rw [show (1 : Int32) + nI (lenS.getD (sgS 1) 0) = nI 3 by decide, nI_add]
                simp only [ap3, r1, eq_self, if_true]
                rw [hst]
                exact f1
              · simp only [ap10, ap4, f_X7_readPart, f_X7_readPart_j39, f_X7_readPart_j58, f_X7_readPart_j77, f_X7_readPart_j97, pcl, h66, gx, nI_1, r2, z10f, f6766, f6784, f6779, f6667, f6684, f6679, f8467, f8466, f8479, f7967, f7966, f7984, eq_self, not_true_eq_false, not_false_eq_true, if_true, if_false]
                exact f2
          · have : b = 3 := by omega
            subst this
            have lx : ¬ nI 3 < 3 := by decide
            have gx : (3 : Int32) ≤ nI 3 := by decide
            rw [if_neg lx]
            refine ⟨nI p, sz, ce, nI p, nI c, nI 3, nI d, nI e, rc, rb, rt, rd, rfl, ?_, fun q => absurd q (np9 p (by omega))⟩
            simp only [ap10, f_X7_readPart, f_X7_readPart_j39, f_X7_readPart_j58, f_X7_readPart_j77, f_X7_readPart_j97, pcl, h66, gx, back, nI_1, f6766, f6784, f6779, f6667, f6684, f6679, f8467, f8466, f8479, f7967, f7966, f7984, eq_self, not_true_eq_false, not_false_eq_true, if_true, if_false]
        · skip
          by_cases h84 : t p = 84
          · have hk : f_X5_kindBy (t p) = 2 := by rw [h84]; decide
            have hn0 : ¬ (2 : Int32) = -1 := by decide
            rw [hk, if_neg hn0, size_2, szs.2.2.1, show f_X5_mostOf 2 = 3 by decide]
            by_cases hx : d < 3
            · have lx : nI d < 3 := nI_lt (b := 3) hx (by decide)
              have gx : ¬ (3 : Int32) ≤ nI d := nI_ge (b := 3) hx (by decide)
              rw [if_pos lx]
              rcases rp_T (sz := sz) (ce := ce) (t := t) (rc := rt) hl (show p + 1 ≤ l by omega) hx szs.2.2.1 with ⟨e', ce', he', r1, r2⟩ | ⟨v0, v1, hpp, h0', h1', h2', h3', r1, r2⟩
              · have ne9 := np9 e' (by omega)
                refine ⟨nI e', sz, ce', nI e', nI c, nI b, nI d, nI e, rc, rb, rt, rd, ?_, ?_, fun q => absurd q ne9⟩
                · simp only [ap3, r1, ne9, if_false]
                · simp only [ap10, ap4, f_X7_readPart, f_X7_readPart_j39, f_X7_readPart_j58, f_X7_readPart_j77, f_X7_readPart_j97, pcl, h84, gx, nI_1, r2, f6766, f6784, f6779, f6667, f6684, f6679, f8467, f8466, f8479, f7967, f7966, f7984, eq_self, not_true_eq_false, not_false_eq_true, if_true, if_false]
              · obtain ⟨r, sz', ce', pl, ct, bi, ti, de, con, bir, tid, deb, f1, f2, f3⟩ := ih (p + 1 + 2) c b (d + 1) e _ _ rc rb _ rd (by omega) (by omega) hc5 hb3 (by omega) he6 (case_T hc5 hb3 hd3 he6 hC hx h0' h1' h2' h3')
                refine ⟨r, sz', ce', pl, ct, bi, ti, de, con, bir, tid, deb, ?_, ?_, f3⟩
                · have hst : nI p + (1 + nI (lenS.getD (sgS 2) 0)) = nI (p + 1 + 2) := by
                    rw [show (1 : Int32) + nI (lenS.getD (sgS 2) 0) = nI 3 by decide, nI_add]
                  simp only [ap3, r1, eq_self, if_true]
                  rw [hst]
                  exact f1
                · simp only [ap10, ap4, f_X7_readPart, f_X7_readPart_j39, f_X7_readPart_j58, f_X7_readPart_j77, f_X7_readPart_j97, pcl, h84, gx, nI_1, r2, z10f, f6766, f6784, f6779, f6667, f6684, f6679, f8467, f8466, f8479, f7967, f7966, f7984, eq_self, not_true_eq_false, not_false_eq_true, if_true, if_false]
                  exact f2
            · have : d = 3 := by omega
              subst this
              have lx : ¬ nI 3 < 3 := by decide
              have gx : (3 : Int32) ≤ nI 3 := by decide
              rw [if_neg lx]
              refine ⟨nI p, sz, ce, nI p, nI c, nI b, nI 3, nI e, rc, rb, rt, rd, rfl, ?_, fun q => absurd q (np9 p (by omega))⟩
              simp only [ap10, f_X7_readPart, f_X7_readPart_j39, f_X7_readPart_j58, f_X7_readPart_j77, f_X7_readPart_j97, pcl, h84, gx, back, nI_1, f6766, f6784, f6779, f6667, f6684, f6679, f8467, f8466, f8479, f7967, f7966, f7984, eq_self, not_true_eq_false, not_false_eq_true, if_true, if_false]
          · skip
            by_cases h79 : t p = 79
            · have hk : f_X5_kindBy (t p) = 3 := by rw [h79]; decide
              have hn0 : ¬ (3 : Int32) = -1 := by decide
              rw [hk, if_neg hn0, size_3, szs.2.2.2, show f_X5_mostOf 3 = 6 by decide]
              by_cases hx : e < 6
              · have lx : nI e < 6 := nI_lt (b := 6) hx (by decide)
                have gx : ¬ (6 : Int32) ≤ nI e := nI_ge (b := 6) hx (by decide)
                rw [if_pos lx]
                rcases rp_D (sz := sz) (ce := ce) (t := t) (rc := rd) hl (show p + 1 ≤ l by omega) hx szs.2.2.2 with ⟨e', ce', he', r1, r2⟩ | ⟨v0, v1, v2, hpp, h0', h1', h2', h3', h4', h5', r1, r2⟩
                · have ne9 := np9 e' (by omega)
                  refine ⟨nI e', sz, ce', nI e', nI c, nI b, nI d, nI e, rc, rb, rt, rd, ?_, ?_, fun q => absurd q ne9⟩
                  · simp only [ap3, r1, ne9, if_false]
                  · simp only [ap10, ap4, f_X7_readPart, f_X7_readPart_j39, f_X7_readPart_j58, f_X7_readPart_j77, f_X7_readPart_j97, pcl, h79, gx, nI_1, r2, f6766, f6784, f6779, f6667, f6684, f6679, f8467, f8466, f8479, f7967, f7966, f7984, eq_self, not_true_eq_false, not_false_eq_true, if_true, if_false]
                · obtain ⟨r, sz', ce', pl, ct, bi, ti, de, con, bir, tid, deb, f1, f2, f3⟩ := ih (p + 1 + 3) c b d (e + 1) _ _ rc rb rt _ (by omega) (by omega) hc5 hb3 hd3 (by omega) (case_D hc5 hb3 hd3 he6 hC hx h0' h1' h2' h3' h4' h5')
                  refine ⟨r, sz', ce', pl, ct, bi, ti, de, con, bir, tid, deb, ?_, ?_, f3⟩
                  · have hst : nI p + (1 + nI (lenS.getD (sgS 3) 0)) = nI (p + 1 + 3) := by
                      rw [show (1 : Int32) + nI (lenS.getD (sgS 3) 0) = nI 4 by decide, nI_add]
                    simp only [ap3, r1, eq_self, if_true]
                    rw [hst]
                    exact f1
                  · simp only [ap10, ap4, f_X7_readPart, f_X7_readPart_j39, f_X7_readPart_j58, f_X7_readPart_j77, f_X7_readPart_j97, pcl, h79, gx, nI_1, r2, z10f, f6766, f6784, f6779, f6667, f6684, f6679, f8467, f8466, f8479, f7967, f7966, f7984, eq_self, not_true_eq_false, not_false_eq_true, if_true, if_false]
                    exact f2
              · have : e = 6 := by omega
                subst this
                have lx : ¬ nI 6 < 6 := by decide
                have gx : (6 : Int32) ≤ nI 6 := by decide
                rw [if_neg lx]
                refine ⟨nI p, sz, ce, nI p, nI c, nI b, nI d, nI 6, rc, rb, rt, rd, rfl, ?_, fun q => absurd q (np9 p (by omega))⟩
                simp only [ap10, f_X7_readPart, f_X7_readPart_j39, f_X7_readPart_j58, f_X7_readPart_j77, f_X7_readPart_j97, pcl, h79, gx, back, nI_1, f6766, f6784, f6779, f6667, f6684, f6679, f8467, f8466, f8479, f7967, f7966, f7984, eq_self, not_true_eq_false, not_false_eq_true, if_true, if_false]
            · skip
              have hk : f_X5_kindBy (t p) = -1 := by
                unfold f_X5_kindBy
                rw [if_neg h66, if_neg h67, if_neg h79, if_neg h84]
              rw [hk, if_pos rfl]
              refine ⟨nI p, sz, ce, nI p, nI c, nI b, nI d, nI e, rc, rb, rt, rd, rfl, ?_, fun q => absurd q (np9 p (by omega))⟩
              simp only [ap10, f_X7_readPart, f_X7_readPart_j39, f_X7_readPart_j58, f_X7_readPart_j77, f_X7_readPart_j97, pcl, h67, h66, h84, h79, back, nI_1, eq_self, not_true_eq_false, not_false_eq_true, if_true, if_false]
