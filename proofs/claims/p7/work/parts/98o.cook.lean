/-! a dish cooked, by both -/
section PAR35
theorem i_sub3 (a b c : Int32) : a - (b + c) = a - b - c := by
  rw [Int32.sub_eq_add_neg, Int32.neg_add, Int32.sub_eq_add_neg (-b) c, ← Int32.add_assoc, ← Int32.sub_eq_add_neg, ← Int32.sub_eq_add_neg]
def inB (M : gM) (lv d : Nat) (r : Nat → Int32) : Nat → Bool
  | 0 => true
  | n + 1 => inB M lv d r n && decide (M 417 (6 * (5 * lv + d) + n) ≤ r n)
theorem inB_all {M : gM} {lv d : Nat} {r : Nat → Int32} : ∀ n, inB M lv d r n = true → ∀ f, f < n → M 417 (6 * (5 * lv + d) + f) ≤ r f
  | 0, _, f, hf => absurd hf (Nat.not_lt_zero _)
  | n + 1, h, f, hf => by
    unfold inB at h
    rw [Bool.and_eq_true] at h
    by_cases q : f = n
    · rw [q]; exact of_decide_eq_true h.2
    · exact inB_all n h.1 f (by omega)
theorem inB_no {M : gM} {lv d : Nat} {r : Nat → Int32} {k : Nat} (h : inB M lv d r k = false) : ∀ s, inB M lv d r (k + s) = false
  | 0 => h
  | s + 1 => by
    show (inB M lv d r (k + s) && _) = false
    rw [inB_no h s]; rfl
theorem inB_k {M M' : gM} {lv d : Nat} {r : Nat → Int32} (e : ∀ c j, 411 ≤ c → c ≤ 432 → M' c j = M c j) : ∀ n, inB M' lv d r n = inB M lv d r n
  | 0 => rfl
  | n + 1 => by unfold inB; rw [inB_k e n, e 417 _ (by decide) (by decide)]
def slS (M : gM) (lv nf : Nat) (seed : Int32) (r : Nat → Int32) (d : Nat) : Option Nat :=
  if lotS 100 seed (8 * r 37) < sliS M lv d (manS M lv nf d) (r 35) then
    (if r (lotS (nI nf) seed (8 * r 37 + 1)).toInt.toNat - M 417 (6 * (5 * lv + d) + (lotS (nI nf) seed (8 * r 37 + 1)).toInt.toNat) = 0 then none else some (lotS (nI nf) seed (8 * r 37 + 1)).toInt.toNat)
  else none
/-- the row behind it -/
def ckR (M : gM) (lv nf d : Nat) (sl : Option Nat) (r : Nat → Int32) (k : Nat) : Int32 :=
  if k < nf then r k - (M 417 (6 * (5 * lv + d) + k) + (if sl = some k then 1 else 0)) else if k = 6 + d then r k + 1 else if k = 11 then nI d else if 12 ≤ k ∧ k < 15 then disS M lv nf d sl (k - 12) (r 35) else if k = 36 then r 36 + priS M lv nf d else if k = 37 then r 37 + 1 else r k
section CK
variable {D Q ld lv nf nd ng ne X : Nat} {M M' : gM} {r : Nat → Int32}
theorem disS_k (e : ∀ c j, 411 ≤ c → c ≤ 432 → M' c j = M c j) {d j : Nat} {more : Option Nat} {day : Int32} : disS M' lv nf d more j day = disS M lv nf d more j day := by
  unfold disS
  match more with
  | none => dsimp only; rw [potS_k e, sumS_k e, manS_k e, e 416 _ (by decide) (by decide)]
  | some f => dsimp only; rw [potS_k e, sumS_k e, manS_k e, e 416 _ (by decide) (by decide), e 414 _ (by decide) (by decide)]
theorem slS_k (e : ∀ c j, 411 ≤ c → c ≤ 432 → M' c j = M c j) {d : Nat} {seed : Int32} : slS M' lv nf seed r d = slS M lv nf seed r d := by
  unfold slS
  rw [sliS_k e, manS_k e, e 417 _ (by decide) (by decide)]
theorem slS_lt (h0 : 0 < nf) (h6 : nf ≤ 6) {d x : Nat} {seed : Int32} (h : slS M lv nf seed r d = some x) : x < nf ∧ ¬ r x - M 417 (6 * (5 * lv + d) + x) = 0 := by
  obtain ⟨y, hy, e⟩ := lotS_r (n := nf) (seed := seed) (which := 8 * r 37 + 1) h0 (by omega)
  unfold slS at h
  rw [e, nI_tn (by omega)] at h
  by_cases q : lotS 100 seed (8 * r 37) < sliS M lv d (manS M lv nf d) (r 35)
  · rw [if_pos q] at h
    by_cases w : r y - M 417 (6 * (5 * lv + d) + y) = 0
    · rw [if_pos w] at h; cases h
    · rw [if_neg w] at h; cases h; exact ⟨hy, w⟩
  · rw [if_neg q] at h; cases h
theorem Lnd.kX (h : Lnd ld lv nf nd ng ne M) (hX : isSt X) (e : Eo (fun c _ => X ≤ c ∧ c < X + 7) M M') : Lnd ld lv nf nd ng ne M' := h.keep (fun c j q => e c j (by
  have h1 := gv_num q
  have h2 := (by decide +kernel : ∀ X ∈ lSt, (64 ≤ X ∧ X + 7 ≤ 360) ∨ (362 ≤ X ∧ X + 7 ≤ 383)) X hX
  omega))
theorem kX_M (hX : isSt X) (e : Eo (fun c _ => X ≤ c ∧ c < X + 7) M M') : ∀ c j, 411 ≤ c → c ≤ 432 → M' c j = M c j := fun c j a b => e c j (by
  have h2 := (by decide +kernel : ∀ X ∈ lSt, (64 ≤ X ∧ X + 7 ≤ 360) ∨ (362 ≤ X ∧ X + 7 ≤ 383)) X hX
  omega)
theorem kCX_M (hX : isSt X) (k : Kl (CX X) M zL M' zL) : ∀ c j, 411 ≤ c → c ≤ 432 → M' c j = M c j := fun c j a b => k.m (by
  have h2 := (by decide +kernel : ∀ X ∈ lSt, (64 ≤ X ∧ X + 7 ≤ 360) ∨ (362 ≤ X ∧ X + 7 ≤ 383)) X hX
  unfold CX
  rw [C0_M (by omega) (by omega)]
  simp only [Bool.false_or, Bool.and_eq_false_iff, decide_eq_false_iff_not]
  omega)
theorem Lnd.kCX (h : Lnd ld lv nf nd ng ne M) (hX : isSt X) (k : Kl (CX X) M zL M' zL) : Lnd ld lv nf nd ng ne M' := h.keep (fun c j q => (k.mono (CX_CSt hX)).m (gv_CSt q))
/-- a dish's foods and a store's, small -/
theorem St.two (h : Lnd ld lv nf nd ng ne M) (hS : St D Q nf X r M) {d f : Nat} (hd : d < nd) (hf : f < 6) : ∃ a s, a ≤ 6 ∧ s ≤ 99 ∧ M 417 (6 * (5 * lv + d) + f) = nI a ∧ r f = nI s ∧ M (X + 2) f = nI s := by
  obtain ⟨a, a1, _, a3, _⟩ := h.am hd hf
  obtain ⟨s, s1, s2, s3, _⟩ := hS.2.2.2.2.2.1 f hf
  exact ⟨a, s, a1, s1, a3, s3, s2⟩
theorem c_inStore (h : Lnd ld lv nf nd ng ne M) (hS : St D Q nf X r M) {d : Nat} (hd : d < nd) : F_State_inStore X ld (nI d) M = some (if inB M lv d r nf = true then 1 else 0) := by
  have h6 := h.nf6
  have key : ∀ (s k f : Nat), k + s = nf → inB M lv d r k = true → H_State_inStore_2 X ld (nI d) M (f + 1 + s) (nI k) = some (if inB M lv d r nf = true then 1 else 0) := by
    intro s
    induction s with
    | zero =>
      intro k f hk hb
      obtain rfl : k = nf := by omega
      show B_State_inStore_2 X ld (nI d) M (H_State_inStore_2 X ld (nI d) M f) (nI k) = _
      unfold B_State_inStore_2
      rw [h.cf, if_pos (by rw [nI_leI (by omega) (by omega)]; omega), if_pos hb]
    | succ s ih =>
      intro k f hk hb
      show B_State_inStore_2 X ld (nI d) M (H_State_inStore_2 X ld (nI d) M (f + 1 + s)) (nI k) = _
      unfold B_State_inStore_2
      obtain ⟨x, x1, x2, x3, _⟩ := hS.2.2.2.2.2.1 k (by omega)
      rw [h.cf, if_neg (by rw [nI_leI (by omega) (by omega)]; omega), s_at (by omega) (by decide), bI_s, c_inDish h hd (by omega), bI_s, x2, ← x3]
      by_cases q : M 417 (6 * (5 * lv + d) + k) ≤ r k
      · rw [if_pos q, nmI_e, nI_1]
        refine ih (k + 1) f (by omega) ?_
        unfold inB
        rw [hb, decide_eq_true q]; rfl
      · rw [if_neg q]
        have hn : inB M lv d r (k + 1) = false := by unfold inB; rw [decide_eq_false q, Bool.and_false]
        have := inB_no hn (nf - (k + 1))
        rw [show k + 1 + (nf - (k + 1)) = nf by omega] at this
        rw [this, if_neg (by decide)]
  unfold F_State_inStore
  obtain ⟨g, hg⟩ := FU_k (1 + nf) (by omega)
  rw [hg, ← Nat.add_assoc]
  exact key nf 0 g (Nat.zero_add _) rfl
theorem m_isInStore (h : Lnd ld lv nf nd ng ne M) {d : Nat} (hd : d < nd) : F_Mod_isInStore (nI d) M = some (if inB M lv d (M 437) nf = true then 1 else 0, fl M 438 0 6 (potD M lv nf d)) := by
  have h6 := h.nf6
  have h1 := h.l1
  unfold F_Mod_isInStore
  rw [m_fillsPot h hd, bI_s]
  have hN : Lnd ld lv nf nd ng ne (fl M 438 0 6 (potD M lv nf d)) := h.kQ (fun c j q => fl_out (by unfold mQ at q; omega))
  have e437 : ∀ i, fl M 438 0 6 (potD M lv nf d) 437 i = M 437 i := fun i => fl_out (by omega)
  have e438 : ∀ i, i < 6 → fl M 438 0 6 (potD M lv nf d) 438 i = potD M lv nf d i := fun i hi => by rw [fl_in (by omega), Nat.sub_zero]
  generalize fl M 438 0 6 (potD M lv nf d) = N at hN e437 e438 ⊢
  have key : ∀ (s k f : Nat), k + s = nf → inB M lv d (M 437) k = true → H_Mod_isInStore_7 N (f + 1 + s) (nI k) = some (if inB M lv d (M 437) nf = true then 1 else 0, N) := by
    intro s
    induction s with
    | zero =>
      intro k f hk hb
      obtain rfl : k = nf := by omega
      show B_Mod_isInStore_7 N (H_Mod_isInStore_7 N f) (nI k) = _
      unfold B_Mod_isInStore_7
      rw [hN.l18, if_neg (nI_in (by omega) (by omega)), nI_clamp (by omega), hN.mf, if_pos (by rw [nI_leI (by omega) (by omega)]; omega), if_pos hb]
    | succ s ih =>
      intro k f hk hb
      show B_Mod_isInStore_7 N (H_Mod_isInStore_7 N (f + 1 + s)) (nI k) = _
      unfold B_Mod_isInStore_7
      have ep : potD M lv nf d k = M 417 (6 * (5 * lv + d) + k) := by unfold potD; rw [if_pos (by omega)]
      rw [hN.l18, if_neg (nI_in (by omega) (by omega)), nI_clamp (by omega), hN.mf, if_neg (by rw [nI_leI (by omega) (by omega)]; omega), if_neg (nI_in (by omega) (by omega)), if_neg (nI_in (by omega) (by omega)), nI_clamp (by omega), e437, e438 k (by omega), ep]
      by_cases q : M 417 (6 * (5 * lv + d) + k) ≤ M 437 k
      · rw [if_pos q, nmI_e, nI_1]
        refine ih (k + 1) f (by omega) ?_
        unfold inB
        rw [hb, decide_eq_true q]; rfl
      · rw [if_neg q]
        have hn : inB M lv d (M 437) (k + 1) = false := by unfold inB; rw [decide_eq_false q, Bool.and_false]
        have := inB_no hn (nf - (k + 1))
        rw [show k + 1 + (nf - (k + 1)) = nf by omega] at this
        rw [this, if_neg (by decide)]
  obtain ⟨g, hg⟩ := FU_k (1 + nf) (by omega)
  rw [hg, ← Nat.add_assoc]
  exact key nf 0 g (Nat.zero_add _) rfl
theorem c_slipInto (h : Lnd ld lv nf nd ng ne M) (hS : St D Q nf X r M) (hX : isSt X) {d : Nat} {seed : Int32} (hd : d < nd) (hin : inB M lv d r nf = true) : ∃ M', F_State_slipInto X ld (nI d) seed M = some (moreI (slS M lv nf seed r d), M') ∧ Kl C0 M zL M' zL := by
  have h6 := h.nf6
  have h0 := h.some_ (by omega)
  obtain ⟨⟨day, d1, d2, d3, d4⟩, s1, s2, s3, s4, s5, s6, s7⟩ := id hS
  unfold F_State_slipInto
  obtain ⟨M6, y1, y2⟩ := c_slipsOf h (d := d) (day := M X 0) hd
  rw [nmI_e, c_lot (n := 100) (by decide), bI_s, y1, bI2_s, s2, (h.k0 y2).cf]
  have hr35 : M X 0 = r 35 := by rw [d2, d3]
  obtain ⟨x, hx, ex⟩ := lotS_r (n := nf) (seed := seed) (which := 8 * r 37 + 1) h0 (by omega)
  unfold slS
  rw [hr35, ex, nI_tn (by omega)]
  by_cases q : lotS 100 seed (8 * r 37) < sliS M lv d (manS M lv nf d) (r 35)
  · rw [if_pos q, if_pos q, c_lot (nI_nle h0 (by omega)), bI_s, ex, s_at (by omega) (by decide), bI_s, c_inDish (h.k0 y2) hd (by omega), bI_s, k0_M y2 417 _ (by decide) (by decide)]
    obtain ⟨a, s, a1, a2, a3, a4, a5⟩ := St.two h hS hd (f := x) (by omega)
    have hle := inB_all nf hin x hx
    have e66 : M6 (X + 2) x = nI s := by
      have := ((hS.k0 hX y2).2.2.2.2.2.1 x (by omega))
      obtain ⟨s', _, b2, b3, _⟩ := this
      rw [b2, ← b3, a4]
    rw [e66, a3, a4]
    rw [a3, a4, nI_leI (by omega) (by omega)] at hle
    rw [nI_sub hle]
    by_cases w : s ≤ a
    · rw [if_pos (by rw [nI_leI (by omega) (by omega)]; exact w), if_pos (by rw [show s - a = 0 by omega]; rfl)]
      exact ⟨M6, rfl, y2⟩
    · rw [if_neg (by rw [nI_leI (by omega) (by omega)]; exact w), if_neg (nI_ne0 (by omega) (by omega))]
      exact ⟨M6, rfl, y2⟩
  · rw [if_neg q, if_neg q]
    exact ⟨M6, rfl, y2⟩
theorem c_ckStock {N : gM} (hN : Lnd ld lv nf nd ng ne N) (hX : isSt X) {d : Nat} {sl : Option Nat} {st : Nat → Int32} (hd : d < nd) (hsl : ∀ x, sl = some x → x < nf) : ∀ (s k f : Nat) (N1 : gM), k + s = nf → (∀ c j, ¬ (c = X + 2 ∧ j < k) → N1 c j = N c j) → (∀ j, j < 6 → N (X + 2) j = st j) → (∀ j, j < k → N1 (X + 2) j = st j - (N 417 (6 * (5 * lv + d) + j) + (if sl = some j then 1 else 0))) →
    ∃ N', H_State_cookOne_14 X ld (nI d) (moreI sl) (f + 1 + s) (nI k) N1 = J_State_cookOne_71 X ld (nI d) (moreI sl) N' ∧ (∀ c j, ¬ (c = X + 2 ∧ j < nf) → N' c j = N c j) ∧ (∀ j, j < nf → N' (X + 2) j = st j - (N 417 (6 * (5 * lv + d) + j) + (if sl = some j then 1 else 0))) := by
  have h6 := hN.nf6
  have hX2 := (by decide +kernel : ∀ X ∈ lSt, (64 ≤ X ∧ X + 7 ≤ 360) ∨ (362 ≤ X ∧ X + 7 ≤ 383)) X hX
  intro s
  induction s with
  | zero =>
    intro k f N1 hk e1 e2 e3
    obtain rfl : k = nf := by omega
    refine ⟨N1, ?_, e1, e3⟩
    show B_State_cookOne_14 X ld (nI d) (moreI sl) (H_State_cookOne_14 X ld (nI d) (moreI sl) f) (nI k) N1 = _
    unfold B_State_cookOne_14
    rw [(hN.kX (X := X) hX (fun c j q => e1 c j (by omega))).cf, if_pos (by rw [nI_leI (by omega) (by omega)]; omega)]
  | succ s ih =>
    intro k f N1 hk e1 e2 e3
    have hN1 := hN.kX (X := X) (M' := N1) hX (fun c j q => e1 c j (by omega))
    have e417 : N1 417 (6 * (5 * lv + d) + k) = N 417 (6 * (5 * lv + d) + k) := e1 417 _ (by omega)
    have est : N1 (X + 2) k = st k := by rw [e1 _ _ (by omega)]; exact e2 k (by omega)
    obtain ⟨N', y1, y2, y3⟩ := ih (k + 1) f (uM N1 (X + 2) k (st k - (N 417 (6 * (5 * lv + d) + k) + (if sl = some k then 1 else 0)))) (by omega) (fun c j q => by rw [uM_diff (by omega)]; exact e1 c j (by omega)) e2 (fun j hj => by
      by_cases q : j = k
      · rw [q, uM_same]
      · rw [uM_diff (by omega)]; exact e3 j (by omega))
    refine ⟨N', ?_, y2, y3⟩
    rw [← y1]
    show B_State_cookOne_14 X ld (nI d) (moreI sl) (H_State_cookOne_14 X ld (nI d) (moreI sl) (f + 1 + s)) (nI k) N1 = _
    unfold B_State_cookOne_14 J_State_cookOne_41
    rw [hN1.cf, if_neg (by rw [nI_leI (by omega) (by omega)]; omega), c_inDish hN1 hd (by omega), bI_s, e417]
    have fin : ∀ s1 : Int32, s1 = (if sl = some k then 1 else 0) → nmI (N 417 (6 * (5 * lv + d) + k) + s1) (fun x24 => bI (F_Main_at (X + 2) 6 (nI k) N1) (fun r26 => bI (F_Main_put (X + 2) 6 (nI k) (r26 - x24) N1) (fun M28 => nmI (nI k + 1) (fun x29 => H_State_cookOne_14 X ld (nI d) (moreI sl) (f + 1 + s) x29 M28)))) = H_State_cookOne_14 X ld (nI d) (moreI sl) (f + 1 + s) (nI (k + 1)) (uM N1 (X + 2) k (st k - (N 417 (6 * (5 * lv + d) + k) + (if sl = some k then 1 else 0)))) := fun s1 hs1 => by
      rw [nmI_e, s_at (by omega) (by decide), bI_s, est, s_put (by omega) (by decide), bI_s, nmI_e, nI_1, hs1]
    by_cases q : nI k = moreI sl
    · rw [if_pos q]
      refine fin 1 ?_
      match sl, hsl, q with
      | none, _, q => exact absurd q (fun w => nI_pos (n := k) (by omega) (by rw [w]; decide))
      | some x, hsl, q =>
        have := hsl x rfl
        have e : k = x := (nI_eq (by omega) (by omega)).mp q
        rw [if_pos (by rw [e])]
    · rw [if_neg q]
      refine fin 0 ?_
      rw [if_neg (fun w => q (by rw [w]; rfl))]
theorem c_ckForce {N : gM} (hN : Lnd ld lv nf nd ng ne N) (hX : isSt X) {d : Nat} {sl : Option Nat} {day : Int32} (hd : d < nd) (hsl : ∀ x, sl = some x → x < nf) (hday : N X 0 = day) : ∀ (s k f : Nat) (N1 : gM), k + s = 3 → Kl (CX X) N zL N1 zL → (∀ c j, X ≤ c → c < X + 7 → ¬ (c = X + 1 ∧ j < k) → N1 c j = N c j) → (∀ j, j < k → N1 (X + 1) j = disS N lv nf d sl j day) →
    ∃ N', H_State_cookOne_74 X ld (nI d) (moreI sl) (f + 1 + s) (nI k) N1 = J_State_cookOne_107 X ld (nI d) (moreI sl) N' ∧ Kl (CX X) N zL N' zL ∧ (∀ c j, X ≤ c → c < X + 7 → ¬ (c = X + 1 ∧ j < 3) → N' c j = N c j) ∧ (∀ j, j < 3 → N' (X + 1) j = disS N lv nf d sl j day) := by
  have hX2 := (by decide +kernel : ∀ X ∈ lSt, (64 ≤ X ∧ X + 7 ≤ 360) ∨ (362 ≤ X ∧ X + 7 ≤ 383)) X hX
  intro s
  induction s with
  | zero =>
    intro k f N1 hk kN e1 e3
    obtain rfl : k = 3 := by omega
    exact ⟨N1, by
      show B_State_cookOne_74 X ld (nI d) (moreI sl) (H_State_cookOne_74 X ld (nI d) (moreI sl) f) (nI 3) N1 = _
      unfold B_State_cookOne_74
      rw [if_pos (by decide)], kN, e1, e3⟩
  | succ s ih =>
    intro k f N1 hk kN e1 e3
    have hN1 := hN.kCX hX kN
    have ed : N1 X 0 = day := by rw [e1 X 0 (by omega) (by omega) (by omega)]; exact hday
    obtain ⟨N2, y1, y2⟩ := c_dishForce hN1 (d := d) (j := k) (more := sl) (day := day) hd (by omega) hsl
    have x2 : ∀ c j, X ≤ c → c < X + 7 → N2 c j = N1 c j := fun c j a b => y2.m (C0_M (by omega) (by omega))
    have k3 : Kl (CX X) N zL (uM N2 (X + 1) k (disS N lv nf d sl k day)) zL := (kN.trans (y2.mono C0_CX)).wM (CX_o ⟨by omega, by omega⟩) rfl
    obtain ⟨N', z1, z2, z3, z4⟩ := ih (k + 1) f (uM N2 (X + 1) k (disS N lv nf d sl k day)) (by omega) k3 (fun c j a b q => by rw [uM_diff (by omega), x2 c j a b]; exact e1 c j a b (by omega)) (fun j hj => by
      by_cases q : j = k
      · rw [q, uM_same]
      · rw [uM_diff (by omega), x2 _ _ (by omega) (by omega)]; exact e3 j (by omega))
    refine ⟨N', ?_, z2, z3, z4⟩
    rw [← z1]
    show B_State_cookOne_74 X ld (nI d) (moreI sl) (H_State_cookOne_74 X ld (nI d) (moreI sl) (f + 1 + s)) (nI k) N1 = _
    unfold B_State_cookOne_74
    rw [show (3 : Int32) = nI 3 from rfl, if_neg (by rw [nI_leI (by omega) (by omega)]; omega), ed, y1, bI2_s, s_put (by omega) (by decide), bI_s, nmI_e, nI_1, disS_k (kCX_M hX kN)]
theorem c_cookOne (h : Lnd ld lv nf nd ng ne M) (hS : St D Q nf X r M) (hX : isSt X) {d : Nat} (hd : d < nd) (hin : inB M lv d r nf = true) : ∃ M', F_State_cookOne X ld (nI d) M = some (moreI (slS M lv nf (M 423 lv) r d), M') ∧ St D Q nf X (ckR M lv nf d (slS M lv nf (M 423 lv) r d) r) M' ∧ Kl (CX X) M zL M' zL := by
  have h6 := h.nf6
  have h5 := h.nd5
  have h0 := h.some_ (by omega)
  have hX2 := (by decide +kernel : ∀ X ∈ lSt, (64 ≤ X ∧ X + 7 ≤ 360) ∨ (362 ≤ X ∧ X + 7 ≤ 383)) X hX
  obtain ⟨⟨day, d1, d2, d3, d4⟩, s1, s2, s3, s4, s5, s6, s7⟩ := id hS
  have hr35 : M X 0 = r 35 := by rw [d2, d3]
  obtain ⟨M3, y1, k1⟩ := c_slipInto h hS hX (d := d) (seed := M ld 4) hd hin
  rw [h.sd] at y1
  have hslt : ∀ x, slS M lv nf (M 423 lv) r d = some x → x < nf ∧ ¬ r x - M 417 (6 * (5 * lv + d) + x) = 0 := fun x q => slS_lt h0 h6 q
  generalize slS M lv nf (M 423 lv) r d = sl at y1 hslt ⊢
  have h3 := h.k0 k1
  have x3 : ∀ c j, X ≤ c → c < X + 7 → M3 c j = M c j := fun c j a b => k1.m (C0_M (by omega) (by omega))
  have m3 := k0_M k1
  obtain ⟨M4, z1, z2, z3⟩ := c_ckStock h3 hX (d := d) (sl := sl) (st := r) hd (fun x q => (hslt x q).1) nf 0 (FU - 1 - nf) M3 (Nat.zero_add _) (fun _ _ _ => rfl) (fun j hj => by
    rw [x3 _ _ (by omega) (by omega)]
    obtain ⟨x, _, q2, q3, _⟩ := s5 j hj
    rw [q2, q3]) (fun j hj => absurd hj (Nat.not_lt_zero _))
  have h4 := h3.kX (X := X) (M' := M4) hX (fun c j q => z2 c j (by omega))
  have m4 : ∀ c j, 411 ≤ c → c ≤ 432 → M4 c j = M c j := fun c j a b => (z2 c j (by omega)).trans (m3 c j a b)
  obtain ⟨M5, w1, w2, w3, w4⟩ := c_ckForce h4 hX (d := d) (sl := sl) (day := r 35) hd (fun x q => (hslt x q).1) (by rw [z2 X 0 (by omega), x3 X 0 (by omega) (by omega)]; exact hr35) 3 0 (FU - 4) M4 (by omega) Kl.rf (fun _ _ _ _ _ => rfl) (fun j hj => absurd hj (Nat.not_lt_zero _))
  have h5' := h4.kCX hX w2
  have m5 : ∀ c j, 411 ≤ c → c ≤ 432 → M5 c j = M c j := fun c j a b => (kCX_M hX w2 c j a b).trans (m4 c j a b)
  have c5 : ∀ c j, X ≤ c → c < X + 7 → ¬ (c = X + 1 ∧ j < 3) → ¬ (c = X + 2 ∧ j < nf) → M5 c j = M c j := fun c j a b q1 q2 => by
    rw [w3 c j a b q1, z2 c j q2, x3 c j a b]
  have hcal : ∃ M', F_State_cookOne X ld (nI d) M = some (moreI sl, M') ∧ M' = uM (uM (uM (uM M5 X 1 (r 36 + priS M lv nf d)) X 3 (nI d)) X 2 (r 37 + 1)) (X + 3) d (r (6 + d) + 1) := by
    unfold F_State_cookOne
    rw [h.sd, y1, bI2_s]
    have e1 : (H_State_cookOne_14 X ld (nI d) (moreI sl) FU 0 M3) = H_State_cookOne_14 X ld (nI d) (moreI sl) (FU - 1 - nf + 1 + nf) (nI 0) M3 := by
      rw [show FU - 1 - nf + 1 + nf = FU by unfold FU; omega]; rfl
    rw [e1, z1]
    unfold J_State_cookOne_71
    have e2 : (H_State_cookOne_74 X ld (nI d) (moreI sl) FU 0 M4) = H_State_cookOne_74 X ld (nI d) (moreI sl) (FU - 4 + 1 + 3) (nI 0) M4 := by
      rw [show FU - 4 + 1 + 3 = FU by unfold FU; omega]; rfl
    rw [e2, w1]
    unfold J_State_cookOne_107
    have g1 : M5 X 1 = r 36 := by rw [c5 X 1 (by omega) (by omega) (by omega) (by omega)]; exact s1
    have g2 : M5 X 2 = r 37 := by rw [c5 X 2 (by omega) (by omega) (by omega) (by omega)]; exact s2
    have g3 : M5 (X + 3) d = r (6 + d) := by rw [c5 (X + 3) d (by omega) (by omega) (by omega) (by omega)]; exact s6 d (by omega)
    rw [c_priceOf h5' hd, bI_s, priS_k m5, g1, nmM_e, nmM_e, uM_diff (by omega), uM_diff (by omega), g2, nmM_e, s_at (by omega) (by decide), bI_s, uM_diff (by omega), uM_diff (by omega), uM_diff (by omega), g3, s_put (by omega) (by decide), bI_s]
    exact ⟨_, rfl, rfl⟩
  obtain ⟨M', t1, t2⟩ := hcal
  obtain ⟨r0, M1, e1, _, k9⟩ := tf_State_cookOne (X0 := X) (Ld1 := ld) (p2 := nI d) (M := M) hX h.la
  have i1 := Option.some.inj (e1.symm.trans t1)
  injection i1 with i2 i3
  subst i3
  refine ⟨M1, t1, ?_, k9⟩
  have c6 : ∀ c j, X ≤ c → c < X + 7 → ¬ (c = X ∧ (j = 1 ∨ j = 2 ∨ j = 3)) → ¬ (c = X + 1 ∧ j < 3) → ¬ (c = X + 2 ∧ j < nf) → ¬ (c = X + 3 ∧ j = d) → M1 c j = M c j := fun c j a b q1 q2 q3 q4 => by
    rw [t2, uM_diff (by omega), uM_diff (by omega), uM_diff (by omega), uM_diff (by omega), c5 c j a b q2 q3]
  have rr : ∀ k, nf ≤ k → k ≠ 6 + d → k ≠ 11 → ¬ (12 ≤ k ∧ k < 15) → k ≠ 36 → k ≠ 37 → ckR M lv nf d sl r k = r k := fun k a1 a2 a3 a4 a5 a6 => by
    unfold ckR
    rw [if_neg (by omega), if_neg a2, if_neg a3, if_neg a4, if_neg a5, if_neg a6]
  refine ⟨⟨day, d1, by rw [c6 X 0 (by omega) (by omega) (by omega) (by omega) (by omega) (by omega)]; exact d2, by rw [rr 35 (by omega) (by omega) (by omega) (by omega) (by omega) (by omega)]; exact d3, fun g hg => ?_⟩, ?_, ?_, ?_, fun j hj => ?_, fun f hf => ?_, fun j hj => ?_, fun i hi => ?_⟩
  · rw [c6 (X + 4) g (by omega) (by omega) (by omega) (by omega) (by omega) (by omega), c6 (X + 5) g (by omega) (by omega) (by omega) (by omega) (by omega) (by omega), rr (31 + g) (by omega) (by omega) (by omega) (by omega) (by omega) (by omega), rr (15 + g) (by omega) (by omega) (by omega) (by omega) (by omega) (by omega)]
    exact d4 g hg
  · rw [t2, uM_diff (by omega), uM_diff (by omega), uM_diff (by omega), uM_same]
    unfold ckR
    rw [if_neg (by omega), if_neg (by omega), if_neg (by omega), if_neg (by omega), if_pos rfl]
  · rw [t2, uM_diff (by omega), uM_same]
    unfold ckR
    rw [if_neg (by omega), if_neg (by omega), if_neg (by omega), if_neg (by omega), if_neg (by omega), if_pos rfl]
  · rw [t2, uM_diff (by omega), uM_diff (by omega), uM_same]
    unfold ckR
    rw [if_neg (by omega), if_neg (by omega), if_pos rfl]
  · rw [t2, uM_diff (by omega), uM_diff (by omega), uM_diff (by omega), uM_diff (by omega), w4 j hj, disS_k m4]
    unfold ckR
    rw [if_neg (by omega), if_neg (by omega), if_neg (by omega), if_pos (by omega), show 12 + j - 12 = j by omega]
  · obtain ⟨x, x1, x2, x3', x4⟩ := s5 f hf
    by_cases q : f < nf
    · obtain ⟨a, s, a1, a2, a3, a4, a5⟩ := St.two h hS hd (f := f) hf
      have hle := inB_all nf hin f q
      rw [a3, a4, nI_leI (by omega) (by omega)] at hle
      have ev : M1 (X + 2) f = r f - (M 417 (6 * (5 * lv + d) + f) + (if sl = some f then 1 else 0)) := by
        rw [t2, uM_diff (by omega), uM_diff (by omega), uM_diff (by omega), uM_diff (by omega), w3 (X + 2) f (by omega) (by omega) (by omega), z3 f q, m3 417 _ (by decide) (by decide)]
      have er : ckR M lv nf d sl r f = r f - (M 417 (6 * (5 * lv + d) + f) + (if sl = some f then 1 else 0)) := by unfold ckR; rw [if_pos q]
      by_cases w : sl = some f
      · have hn := (hslt f w).2
        rw [a3, a4, nI_sub hle] at hn
        have hlt : a < s := by
          rcases Nat.lt_or_ge a s with g | g
          · exact g
          · exact absurd (by rw [show s - a = 0 by omega]; rfl) hn
        refine ⟨s - (a + 1), by omega, ?_, ?_, fun g => absurd q (by omega)⟩
        · rw [ev, if_pos w, a3, a4, nI_1, nI_sub (by omega)]
        · rw [er, if_pos w, a3, a4, nI_1, nI_sub (by omega)]
      · refine ⟨s - a, by omega, ?_, ?_, fun g => absurd q (by omega)⟩
        · rw [ev, if_neg w, a3, a4, Int32.add_zero, nI_sub hle]
        · rw [er, if_neg w, a3, a4, Int32.add_zero, nI_sub hle]
    · refine ⟨x, x1, ?_, ?_, x4⟩
      · rw [c6 (X + 2) f (by omega) (by omega) (by omega) (by omega) (by omega) (by omega)]; exact x2
      · rw [rr f (by omega) (by omega) (by omega) (by omega) (by omega) (by omega)]; exact x3'
  · by_cases q : j = d
    · rw [q, t2, uM_same]
      unfold ckR
      rw [if_neg (by omega), if_pos rfl]
    · rw [c6 (X + 3) j (by omega) (by omega) (by omega) (by omega) (by omega) (by omega), rr (6 + j) (by omega) (by omega) (by omega) (by omega) (by omega) (by omega)]
      exact s6 j hj
  · rw [c6 (X + 6) i (by omega) (by omega) (by omega) (by omega) (by omega) (by omega), rr (19 + i) (by omega) (by omega) (by omega) (by omega) (by omega) (by omega)]
    exact s7 i hi
end CK
end PAR35
