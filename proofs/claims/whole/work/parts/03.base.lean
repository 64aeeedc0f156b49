abbrev vwCl : List vw_C := [(RX0, TX0, 3), (RX1, TX1, 4), (RX2, TX2, 3), (RX3, TX3, 3), (RX4, TX4, 2), (RX5, TX5, 2), (RX6, TX6, 10), (RX7, TX7, 34)]
/-! what every contract here is made of: a method that writes nothing (QP), a method that writes its own world (PcM, BM), calls of both, iteration, small steps of the lifted programs -/
abbrev tysG (cI cZ cO : ClassId) : List (ClassId × FieldType) := [(cI, .int), (cZ, .boolean), (cO, .object RX3)]
def KX (D : va_G) (ty : List (ClassId × FieldType)) (U : State) : Prop := va_K D vwCl ty U ∧ va_Nw (.fieldLinkNest RX6 96 RX3 "place" "I" RX6) U ∧ va_Nw (.fieldLinkNest RX6 102 RX3 "voided" "I" RX6) U
theorem KX.blind {D : va_G} {ty : List (ClassId × FieldType)} {U : State} (h : KX D ty U) (g : JFrame) (mk : MethodId) (a : Array Value) : KX D ty (U.calling g mk a) := ⟨va_K.moved (u := U) (U := U.calling g mk a) (Vm.Alike.refl U.vm) h.1, va_Nw.same rfl (show U.vm = (U.calling g mk a).vm from rfl) h.2.1, va_Nw.same rfl (show U.vm = (U.calling g mk a).vm from rfl) h.2.2⟩
theorem KX.warm {D : va_G} {ty : List (ClassId × FieldType)} {s U : State} (hW : s.WarmedH U.vm) (h : KX D ty s) : KX D ty U := ⟨va_K.moved hW.alike h.1, va_Nw.warmF hW h.2.1, va_Nw.warmF hW h.2.2⟩
def QP (v : Value) : Array Value → State → Outcome → State → Prop := fun _ st oc t => oc = .returned (some v) ∧ t.heap = st.heap
def PcP (D : va_G) (ty : List (ClassId × FieldType)) (av : List Value) (ws : va_W) : Array Value → State → Prop := va_Pc av (fun U => va_P D vwCl ws U.heap ∧ KX D ty U)
def PcM (D : va_G) (ty : List (ClassId × FieldType)) (av : List Value) (sz : Nat) (ws : va_W) : Array Value → State → Prop := va_Pc av (fun U => U.heap.size = sz ∧ va_P D vwCl ws U.heap ∧ KX D ty U ∧ va_D (fun _ => True) ws)
def BM {S : Type} (D : va_G) (A : Nat → Prop) (w1 : S → va_W) : S → State → Prop := fun u t => va_P D vwCl (w1 u) t.heap ∧ va_D A (w1 u)
theorem PcP_blind {D : va_G} {ty : List (ClassId × FieldType)} {av : List Value} {ws : va_W} : FrameBlind (PcP D ty av ws) := fun a U g mk q => by
  obtain ⟨q0, qP, qK⟩ := q
  exact ⟨q0, qP, qK.blind g mk a⟩
theorem PcM_blind {D : va_G} {ty : List (ClassId × FieldType)} {av : List Value} {sz : Nat} {ws : va_W} : FrameBlind (PcM D ty av sz ws) := fun a U g mk q => by
  obtain ⟨q0, q1, qP, qK, qD⟩ := q
  exact ⟨q0, q1, qP, qK.blind g mk a, qD⟩
section CP
variable {p : Program} {l : Launch} {e : Env} {R : Room} {s : State} {m : MethodId} {args : Array Value} {below : List Frame} {meth : Method} {c : Code} {H : Heap} {locs : List Loc} {cells slots : Nat} {Q : State → Prop}
variable {pc : Nat} {ls : Array Slot} {rest st0 : List Value} {a : Array Value}
theorem csP {v : Value} (hr : va_Run p l e R s m args below meth c H locs cells slots 0 0 (F0 m pc ls st0) rest (QP v a) (fun _ => False))
    (kk : W p l e R s m args below meth c H locs cells slots Q (F0 m (pc + 3) ls (v :: rest))) : W p l e R s m args below meth c H locs cells slots Q (F0 m pc ls st0) := by
  intro T hT X
  obtain ⟨v', st₀, t, T', L, h0, X', hL, e1, e2, ⟨hv, hh⟩, st⟩ := hr T hT X
  cases hv
  obtain ⟨t2, a1, b1⟩ := kk T' (by rw [e1, hh, h0]) (Stand.forget X' (fun q h => (hL q h).elim))
  exact ⟨t2, st t2 a1, b1⟩
variable {y : MethodName} {bytes cc : ByteArray} {maxL nL n index : Nat} {ret : Option FieldType} {wsy : List Cond} {rm : Room} {Ts : List Cond} {own C : String} {b : Addr} {As : List Value} {D : va_G} {ty : List (ClassId × FieldType)} {ws wc : va_W} {v : Value}
theorem pcV (S0 : CallFix p m c cc nL s args Ts own) (hM : Met l y wsy rm (PcP D ty (.ref b :: As) wc) (QP v) 0 0 (fun _ => False)) (cw : CallW R s args own C index y bytes maxL ret wsy rm 0 0 n)
    (hK : KX D ty s) (hP : va_P D vwCl ws H) (isC : List Nat) (hC : isC.filterMap (fun i => ws[i]?) = wc) (q0 ci : Nat) {q : vw_C} {fs : List Value} (hc : vwCl[ci]? = some q) (hq : q.1 = C) (he : ws[q0]? = some (b, .inr (ci, fs)))
    (hn : As.length = n) (hsize : ls.size = nL) (hstack : st0 = As.reverse ++ .ref b :: rest) (hW : (rest.map fun v => v.category).sum ≤ 8) (hdg : decode cc pc = .ok (.invokevirtual index, 3)) (hf : cells ≤ R.cells ∧ slots ≤ R.slots)
    (kk : W p l e R s m args below meth c H locs cells slots Q (F0 m (pc + 3) ls (v :: rest))) : W p l e R s m args below meth c H locs cells slots Q (F0 m pc ls st0) := by
  subst hq
  exact csP (va_runV S0 hM cw ⟨PcP_blind, va_recv hK.1 hP hc he, fun U hU hW => ⟨rfl, by rw [hU]; exact hP.sub isC hC, hK.warm hW⟩⟩ rfl hn hsize hstack (lv_room hW) hdg hf) kk
theorem pcS (S0 : CallFix p m c cc nL s args Ts own) (hM : Met l y wsy rm (PcP D ty As wc) (QP v) 0 0 (fun _ => False)) (cw : CallB R s args own index y bytes maxL ret wsy rm 0 0 n ∧ (Cond.static y).before args s = true)
    (hK : KX D ty s) (hP : va_P D vwCl ws H) (isC : List Nat) (hC : isC.filterMap (fun i => ws[i]?) = wc)
    (hn : As.length = n) (hsize : ls.size = nL) (hstack : st0 = As.reverse ++ rest) (hW : (rest.map fun v => v.category).sum ≤ 8) (hdg : decode cc pc = .ok (.invokestatic index, 3)) (hf : cells ≤ R.cells ∧ slots ≤ R.slots)
    (kk : W p l e R s m args below meth c H locs cells slots Q (F0 m (pc + 3) ls (v :: rest))) : W p l e R s m args below meth c H locs cells slots Q (F0 m pc ls st0) :=
  csP (va_runS S0 hM cw ⟨PcP_blind, fun U hU hW => ⟨rfl, by rw [hU]; exact hP.sub isC hC, hK.warm hW⟩⟩ rfl hn hsize hstack (lv_room hW) hdg hf) kk
variable {A0 : Nat → Prop} {H0 : Heap} {wr : va_W} {S : Type} {w1 : S → va_W}
theorem fm_of_map {α β : Type} {is : List α} {f : α → Option β} {wc : List β} (h : is.map f = wc.map some) : is.filterMap f = wc := by
  induction is generalizing wc with
  | nil => cases wc with
    | nil => rfl
    | cons a l => simp at h
  | cons a l ih =>
    cases wc with
    | nil => simp at h
    | cons b l2 =>
      simp only [List.map_cons, List.cons.injEq] at h
      rw [List.filterMap_cons, h.1]
      simp only
      rw [ih h.2]
theorem callMi {post : Int32 → S → Prop} (S0 : CallFix p m c cc nL s args Ts own) (hM : Met l y wsy rm (PcM D ty (.ref b :: As) H.size wc) (va_Qi post (BM D (va_A wc H.size) w1) (va_A wc H.size)) 0 0 (va_A wc H.size)) (cw : CallW R s args own C index y bytes maxL ret wsy rm 0 0 n)
    (hK : KX D ty s) (hP : va_P D vwCl ws H) (hD : va_D A0 ws) (hS : va_S A0 H0 H locs) (hA : ∀ q, H0.size ≤ q → A0 q)
    (isC isR : List Nat) (hC : isC.map (fun i => ws[i]?) = wc.map some) (hR : isR.map (fun i => ws[i]?) = wr.map some) (hn1 : va_nd isC = true) (hn2 : va_nd isR = true) (hdis : ∀ i ∈ isR, i ∉ isC)
    (q0 ci : Nat) {q : vw_C} {fs : List Value} (hc : vwCl[ci]? = some q) (hq : q.1 = C) (he : ws[q0]? = some (b, .inr (ci, fs)))
    (hn : As.length = n) (hsize : ls.size = nL) (hstack : st0 = As.reverse ++ .ref b :: rest) (hW : (rest.map fun v => v.category).sum ≤ 8) (hdg : decode cc pc = .ok (.invokevirtual index, 3)) (hf : cells ≤ R.cells ∧ slots ≤ R.slots)
    (kk : ∀ (r : Int32) (u : S) (H1 : Heap) (locs1 : List Loc), post r u → va_P D vwCl (wr ++ w1 u) H1 → va_D A0 (wr ++ w1 u) → va_S A0 H0 H1 locs1 → W p l e R s m args below meth c H1 locs1 cells slots Q (F0 m (pc + 3) ls (.int r :: rest))) : W p l e R s m args below meth c H locs cells slots Q (F0 m pc ls st0) := by
  subst hq
  have hFc := va_free (wc := wc) hD hS hA isC hC
  refine va_calli (va_runV S0 hM cw ⟨PcM_blind, va_recv hK.1 hP hc he, fun U hU hW => ⟨rfl, by rw [hU], by rw [hU]; exact hP.sub isC (fm_of_map hC), hK.warm hW, (hD.sub isC hn1 hC).weaken (fun _ _ _ _ => trivial)⟩⟩ rfl hn hsize hstack (lv_room hW) hdg hf) hS (fun q _ h => hFc q h) hFc (fun r u t H1 locs ht hvm hw hB hz1 hk1 hS => ?_)
  obtain ⟨hP1, hD1⟩ := hB
  rw [ht] at hP1
  obtain ⟨hP2, hD2⟩ := va_join (wr := wr) (w1 := w1 u) hP hD isC isR hC hR hn2 hdis hk1 hFc hP1 hD1
  exact kk r u H1 locs hw hP2 hD2 hS
theorem callMl {post : Int64 → S → Prop} (S0 : CallFix p m c cc nL s args Ts own) (hM : Met l y wsy rm (PcM D ty (.ref b :: As) H.size wc) (va_Ql post (BM D (va_A wc H.size) w1) (va_A wc H.size)) 0 0 (va_A wc H.size)) (cw : CallW R s args own C index y bytes maxL ret wsy rm 0 0 n)
    (hK : KX D ty s) (hP : va_P D vwCl ws H) (hD : va_D A0 ws) (hS : va_S A0 H0 H locs) (hA : ∀ q, H0.size ≤ q → A0 q)
    (isC isR : List Nat) (hC : isC.map (fun i => ws[i]?) = wc.map some) (hR : isR.map (fun i => ws[i]?) = wr.map some) (hn1 : va_nd isC = true) (hn2 : va_nd isR = true) (hdis : ∀ i ∈ isR, i ∉ isC)
    (q0 ci : Nat) {q : vw_C} {fs : List Value} (hc : vwCl[ci]? = some q) (hq : q.1 = C) (he : ws[q0]? = some (b, .inr (ci, fs)))
    (hn : As.length = n) (hsize : ls.size = nL) (hstack : st0 = As.reverse ++ .ref b :: rest) (hW : (rest.map fun v => v.category).sum ≤ 8) (hdg : decode cc pc = .ok (.invokevirtual index, 3)) (hf : cells ≤ R.cells ∧ slots ≤ R.slots)
    (kk : ∀ (r : Int64) (u : S) (H1 : Heap) (locs1 : List Loc), post r u → va_P D vwCl (wr ++ w1 u) H1 → va_D A0 (wr ++ w1 u) → va_S A0 H0 H1 locs1 → W p l e R s m args below meth c H1 locs1 cells slots Q (F0 m (pc + 3) ls (.long r :: rest))) : W p l e R s m args below meth c H locs cells slots Q (F0 m pc ls st0) := by
  subst hq
  have hFc := va_free (wc := wc) hD hS hA isC hC
  refine va_calll (va_runV S0 hM cw ⟨PcM_blind, va_recv hK.1 hP hc he, fun U hU hW => ⟨rfl, by rw [hU], by rw [hU]; exact hP.sub isC (fm_of_map hC), hK.warm hW, (hD.sub isC hn1 hC).weaken (fun _ _ _ _ => trivial)⟩⟩ rfl hn hsize hstack (lv_room hW) hdg hf) hS (fun q _ h => hFc q h) hFc (fun r u t H1 locs ht hvm hw hB hz1 hk1 hS => ?_)
  obtain ⟨hP1, hD1⟩ := hB
  rw [ht] at hP1
  obtain ⟨hP2, hD2⟩ := va_join (wr := wr) (w1 := w1 u) hP hD isC isR hC hR hn2 hdis hk1 hFc hP1 hD1
  exact kk r u H1 locs hw hP2 hD2 hS
theorem callMv {post : S → Prop} (S0 : CallFix p m c cc nL s args Ts own) (hM : Met l y wsy rm (PcM D ty (.ref b :: As) H.size wc) (va_Qv post (BM D (va_A wc H.size) w1) (va_A wc H.size)) 0 0 (va_A wc H.size)) (cw : CallW R s args own C index y bytes maxL ret wsy rm 0 0 n)
    (hK : KX D ty s) (hP : va_P D vwCl ws H) (hD : va_D A0 ws) (hS : va_S A0 H0 H locs) (hA : ∀ q, H0.size ≤ q → A0 q)
    (isC isR : List Nat) (hC : isC.map (fun i => ws[i]?) = wc.map some) (hR : isR.map (fun i => ws[i]?) = wr.map some) (hn1 : va_nd isC = true) (hn2 : va_nd isR = true) (hdis : ∀ i ∈ isR, i ∉ isC)
    (q0 ci : Nat) {q : vw_C} {fs : List Value} (hc : vwCl[ci]? = some q) (hq : q.1 = C) (he : ws[q0]? = some (b, .inr (ci, fs)))
    (hn : As.length = n) (hsize : ls.size = nL) (hstack : st0 = As.reverse ++ .ref b :: rest) (hW : (rest.map fun v => v.category).sum ≤ 8) (hdg : decode cc pc = .ok (.invokevirtual index, 3)) (hf : cells ≤ R.cells ∧ slots ≤ R.slots)
    (kk : ∀ (u : S) (H1 : Heap) (locs1 : List Loc), post u → va_P D vwCl (wr ++ w1 u) H1 → va_D A0 (wr ++ w1 u) → va_S A0 H0 H1 locs1 → W p l e R s m args below meth c H1 locs1 cells slots Q (F0 m (pc + 3) ls rest)) : W p l e R s m args below meth c H locs cells slots Q (F0 m pc ls st0) := by
  subst hq
  have hFc := va_free (wc := wc) hD hS hA isC hC
  refine va_callv (va_runV S0 hM cw ⟨PcM_blind, va_recv hK.1 hP hc he, fun U hU hW => ⟨rfl, by rw [hU], by rw [hU]; exact hP.sub isC (fm_of_map hC), hK.warm hW, (hD.sub isC hn1 hC).weaken (fun _ _ _ _ => trivial)⟩⟩ rfl hn hsize hstack (lv_room hW) hdg hf) hS (fun q _ h => hFc q h) hFc (fun u t H1 locs ht hvm hw hB hz1 hk1 hS => ?_)
  obtain ⟨hP1, hD1⟩ := hB
  rw [ht] at hP1
  obtain ⟨hP2, hD2⟩ := va_join (wr := wr) (w1 := w1 u) hP hD isC isR hC hR hn2 hdis hk1 hFc hP1 hD1
  exact kk u H1 locs hw hP2 hD2 hS
end CP
/-! iteration with a count of turns left -/
section IT
variable {A B C D E F G H R : Type}
def it1 (b : (A → R) → A → R) (d : R) : Nat → A → R
  | 0, _ => d
  | n + 1, x => b (fun x => it1 b d n x) x
def it2 (b : (A → B → R) → A → B → R) (d : R) : Nat → A → B → R
  | 0, _, _ => d
  | n + 1, x, y => b (fun x y => it2 b d n x y) x y
def it3 (b : (A → B → C → R) → A → B → C → R) (d : R) : Nat → A → B → C → R
  | 0, _, _, _ => d
  | n + 1, x, y, z => b (fun x y z => it3 b d n x y z) x y z
def it4 (b : (A → B → C → D → R) → A → B → C → D → R) (d : R) : Nat → A → B → C → D → R
  | 0, _, _, _, _ => d
  | n + 1, x, y, z, w => b (fun x y z w => it4 b d n x y z w) x y z w
def it5 (b : (A → B → C → D → E → R) → A → B → C → D → E → R) (d : R) : Nat → A → B → C → D → E → R
  | 0, _, _, _, _, _ => d
  | n + 1, x, y, z, w, v => b (fun x y z w v => it5 b d n x y z w v) x y z w v
def it6 (b : (A → B → C → D → E → F → R) → A → B → C → D → E → F → R) (d : R) : Nat → A → B → C → D → E → F → R
  | 0, _, _, _, _, _, _ => d
  | n + 1, x, y, z, w, v, u => b (fun x y z w v u => it6 b d n x y z w v u) x y z w v u
def it7 (b : (A → B → C → D → E → F → G → R) → A → B → C → D → E → F → G → R) (d : R) : Nat → A → B → C → D → E → F → G → R
  | 0, _, _, _, _, _, _, _ => d
  | n + 1, x, y, z, w, v, u, t => b (fun x y z w v u t => it7 b d n x y z w v u t) x y z w v u t
theorem it1_s (b : (A → R) → A → R) (d : R) (n : Nat) (x : A) : it1 b d (n + 1) x = b (it1 b d n) x := rfl
theorem it2_s (b : (A → B → R) → A → B → R) (d : R) (n : Nat) (x : A) (y : B) : it2 b d (n + 1) x y = b (it2 b d n) x y := rfl
theorem it3_s (b : (A → B → C → R) → A → B → C → R) (d : R) (n : Nat) (x : A) (y : B) (z : C) : it3 b d (n + 1) x y z = b (it3 b d n) x y z := rfl
theorem it4_s (b : (A → B → C → D → R) → A → B → C → D → R) (d : R) (n : Nat) (x : A) (y : B) (z : C) (w : D) : it4 b d (n + 1) x y z w = b (it4 b d n) x y z w := rfl
theorem it5_s (b : (A → B → C → D → E → R) → A → B → C → D → E → R) (d : R) (n : Nat) (x : A) (y : B) (z : C) (w : D) (v : E) : it5 b d (n + 1) x y z w v = b (it5 b d n) x y z w v := rfl
theorem it6_s (b : (A → B → C → D → E → F → R) → A → B → C → D → E → F → R) (d : R) (n : Nat) (x : A) (y : B) (z : C) (w : D) (v : E) (u : F) : it6 b d (n + 1) x y z w v u = b (it6 b d n) x y z w v u := rfl
theorem it7_s (b : (A → B → C → D → E → F → G → R) → A → B → C → D → E → F → G → R) (d : R) (n : Nat) (x : A) (y : B) (z : C) (w : D) (v : E) (u : F) (t : G) : it7 b d (n + 1) x y z w v u t = b (it7 b d n) x y z w v u t := rfl
def ap1 (p : A) (k : A → R) : R := k p
def ap2 (p : A × B) (k : A → B → R) : R := k p.1 p.2
def ap3 (p : A × B × C) (k : A → B → C → R) : R := k p.1 p.2.1 p.2.2
def ap4 (p : A × B × C × D) (k : A → B → C → D → R) : R := k p.1 p.2.1 p.2.2.1 p.2.2.2
def ap5 (p : A × B × C × D × E) (k : A → B → C → D → E → R) : R := k p.1 p.2.1 p.2.2.1 p.2.2.2.1 p.2.2.2.2
def ap6 (p : A × B × C × D × E × F) (k : A → B → C → D → E → F → R) : R := k p.1 p.2.1 p.2.2.1 p.2.2.2.1 p.2.2.2.2.1 p.2.2.2.2.2
def ap7 (p : A × B × C × D × E × F × G) (k : A → B → C → D → E → F → G → R) : R := k p.1 p.2.1 p.2.2.1 p.2.2.2.1 p.2.2.2.2.1 p.2.2.2.2.2.1 p.2.2.2.2.2.2
theorem ap1_g {p a : A} {k : A → R} (h : a = p) : ap1 p k = k a := by subst h; rfl
theorem ap2_g {p : A × B} {a : A} {b : B} {k : A → B → R} (h : (a, b) = p) : ap2 p k = k a b := by subst h; rfl
theorem ap3_g {p : A × B × C} {a : A} {b : B} {c : C} {k : A → B → C → R} (h : (a, b, c) = p) : ap3 p k = k a b c := by subst h; rfl
theorem ap4_g {p : A × B × C × D} {a : A} {b : B} {c : C} {d : D} {k : A → B → C → D → R} (h : (a, b, c, d) = p) : ap4 p k = k a b c d := by subst h; rfl
theorem ap5_g {p : A × B × C × D × E} {a : A} {b : B} {c : C} {d : D} {e : E} {k : A → B → C → D → E → R} (h : (a, b, c, d, e) = p) : ap5 p k = k a b c d e := by subst h; rfl
theorem ap6_g {p : A × B × C × D × E × F} {a : A} {b : B} {c : C} {d : D} {e : E} {f : F} {k : A → B → C → D → E → F → R} (h : (a, b, c, d, e, f) = p) : ap6 p k = k a b c d e f := by subst h; rfl
theorem ap7_g {p : A × B × C × D × E × F × G} {a : A} {b : B} {c : C} {d : D} {e : E} {f : F} {g : G} {k : A → B → C → D → E → F → G → R} (h : (a, b, c, d, e, f, g) = p) : ap7 p k = k a b c d e f g := by subst h; rfl
end IT
/-! numbers -/
theorem toI_lt {a b : Int32} : a < b ↔ a.toInt < b.toInt := Int32.lt_iff_toInt_lt
theorem toI_le {a b : Int32} : a ≤ b ↔ a.toInt ≤ b.toInt := Int32.le_iff_toInt_le
theorem mu_up {i b : Int32} {n : Nat} (h : ¬ b ≤ i) (hn : (b.toInt - i.toInt).toNat < n + 1) : (b.toInt - (i + 1).toInt).toNat < n := by
  rw [toI_le] at h
  have h1 : (i + 1).toInt = i.toInt + 1 := by
    have hb := b.toInt_lt
    have hi := i.le_toInt
    rw [Int32.toInt_add]
    have e : (1 : Int32).toInt = 1 := by decide
    rw [e]
    apply Int.bmod_eq_of_le <;> omega
  rw [h1]
  omega
theorem mu_up' {i b : Int32} {n : Nat} (h : i < b) (hn : (b.toInt - i.toInt).toNat < n + 1) : (b.toInt - (i + 1).toInt).toNat < n := mu_up (by rw [toI_le]; rw [toI_lt] at h; omega) hn
theorem nz_b {b : Int32} : ∀ x : Int32, x = 0 ∨ x = 1 → narrow .boolean (.int x) = .int x := by
  intro x h
  rcases h with rfl | rfl <;> rfl
theorem vin {x k : Int32} {n : Nat} (h0 : 0 ≤ x) (h1 : x < k) (hk : k.toInt = n) : vp_in x n := by
  rw [vp_in_iff]
  rw [toI_le] at h0
  rw [toI_lt, hk] at h1
  exact ⟨h0, h1⟩
theorem sw_out {x lo hi : Int32} {l h : Int} (hl : lo.toInt = l) (hh : hi.toInt = h) (q : x < lo ∨ hi < x) : x.toInt < l ∨ h < x.toInt := by
  rw [toI_lt, toI_lt, hl, hh] at q
  exact q
def vk2 (a b : Nat) : Nat → Option Nat := fun j => if j = 0 then some a else some b
