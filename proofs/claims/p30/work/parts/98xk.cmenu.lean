/-! menu, by the class -/
section PAR55
/-- what the menu's search may change -/
def gN (x y : Nat) : Prop := C0 x y = true ∨ (396 ≤ x ∧ x ≤ 400)
theorem gN_n {x y : Nat} (h1 : 64 ≤ x) (h2 : x ≠ 390) (h3 : ¬ (396 ≤ x ∧ x ≤ 400)) : ¬ gN x y := fun h => by
  rcases h with h | h
  · rw [C0_M h1 h2] at h; cases h
  · exact h3 h
theorem gN_0 {M M' : gM} (k : Kl C0 M zL M' zL) : Eo gN M M' := fun x y z => k.m (by
  cases q : C0 x y with
  | false => rfl
  | true => exact absurd (Or.inl q) z)
section CM
variable {D Q q ld lv nf nd ng ne : Nat} {M M' M1 Mc Mb : gM} {L : gL} {r : Nat → Int32}
theorem gN_M (e : Eo gN M M') : ∀ c j, 411 ≤ c → c ≤ 432 → M' c j = M c j := fun c j a b => e c j (gN_n (by omega) (by omega) (by omega))
theorem Lnd.kN (h : Lnd ld lv nf nd ng ne M) (e : Eo gN M M') : Lnd ld lv nf nd ng ne M' := h.keep (fun c j q => e c j (fun w => by
  rcases w with w | w
  · rw [gv_C0 q] at w; cases w
  · have := gv_num q; omega))
theorem St.kN (hS : St D Q nf 64 r M) (e : Eo gN M M') : St D Q nf 64 r M' := hS.keep (fun c j a b => e c j (gN_n (by omega) (by omega) (by omega))) (fun _ _ => rfl)
/-- what is free so many days ahead, without a meal -/
def fU (M : gM) (lv ne g : Nat) (r : Nat → Int32) (a : Nat) : Int32 := frS M lv (fun j => bowS M lv r g j (nI a)) ne
/-- what is free so many days behind a dish -/
def fF (M : gM) (lv nf ne g d day a : Nat) : Int32 := frS M lv (fun j => bndS M lv g (nI j) (disS M lv nf d none j (nI day)) (nI a) (nI (day + a))) ne
theorem fU_k (e : ∀ c j, 411 ≤ c → c ≤ 432 → M' c j = M c j) {g a : Nat} : fU M' lv ne g r a = fU M lv ne g r a := by
  unfold fU
  rw [frS_k e]
  exact congrArg (fun b => frS M lv b ne) (funext fun j => bowS_k e)
theorem fF_k (e : ∀ c j, 411 ≤ c → c ≤ 432 → M' c j = M c j) {g d day a : Nat} : fF M' lv nf ne g d day a = fF M lv nf ne g d day a := by
  unfold fF
  rw [frS_k e]
  exact congrArg (fun b => frS M lv b ne) (funext fun j => by rw [bndS_k e, disS_k e])
/-- free by a dish, so many days ahead -/
theorem c_freeByDish (hL : Lnd ld lv nf nd ng ne M) {g d day a : Nat} (hg : g < ng) (hd : d < nd) : ∃ X, F_Land_freeByDish ld (nI g) (nI d) (nI day) (nI a) M = some (fF M lv nf ne g d day a, X) ∧ Kl C0 M zL X zL := by
  obtain ⟨q, hq⟩ := FU_k (1 + 3) (by omega)
  obtain ⟨N, y1, y2, y3⟩ := fb1 hL (g := g) (d := d) (day := nI day) (v4 := nI a) hd 3 0 q M (by omega) Kl.rf (fun j hj => absurd hj (Nat.not_lt_zero _))
  have c1 : F_Land_freeByDish ld (nI g) (nI d) (nI day) (nI a) M = J_Land_freeByDish_34 ld (nI g) (nI day) (nI a) N := by
    unfold F_Land_freeByDish
    rw [hq, ← Nat.add_assoc]
    exact y1
  generalize hb : (fun j : Nat => bndS M lv g (nI j) (disS M lv nf d none j (nI day)) (nI a) (nI (day + a))) = b
  have step : ∀ (N1 : gM) (f k : Nat) (acc : Int32), k < 3 → Kl C9 N zL N1 zL → ∃ N', H_Land_freeByDish_40 ld (nI g) (nI day) (nI a) (f + 1) acc (nI k) N1 = H_Land_freeByDish_40 ld (nI g) (nI day) (nI a) f (acc ||| frK M lv k (b k) ne) (nI (k + 1)) N' ∧ Kl C9 N zL N' zL := fun N1 f k acc hk k1 => by
    have kM1 := y2.trans (k1.mono C9_C0)
    have h1 := hL.k0 kM1
    obtain ⟨X, z1, z2⟩ := c_boundBy9 h1 (g := g) (kind := nI k) (ate := disS M lv nf d none k (nI day)) (ago := nI a) (day := nI (day + a)) hg
    have hX := h1.k0 (z2.mono C9_C0)
    refine ⟨X, ?_, k1.trans z2⟩
    show B_Land_freeByDish_40 ld (nI g) (nI day) (nI a) (H_Land_freeByDish_40 ld (nI g) (nI day) (nI a) f) acc (nI k) N1 = _
    generalize H_Land_freeByDish_40 ld (nI g) (nI day) (nI a) f = H
    unfold B_Land_freeByDish_40
    rw [bndS_k (k0_M kM1)] at z1
    have ek : bndS M lv g (nI k) (disS M lv nf d none k (nI day)) (nI a) (nI (day + a)) = b k := by rw [← hb]
    rw [ek] at z1
    rw [show (3 : Int32) = nI 3 from rfl, if_neg (by rw [nI_leI (by omega) (by omega)]; omega), s_at (by omega) (by decide), bI_s, k9_25 hL.la k1, y3 k hk, nI_add, z1, bI2_s, c_freeUnder hX hk, bI_s, nmI_e, nmI_e, nI_1, frK_k (k0_M (kM1.trans (z2.mono C9_C0)))]
  obtain ⟨q4, hq4⟩ := FU_k 4 (by omega)
  obtain ⟨N1, a1, k1⟩ := step N (q4 + 3) 0 0 (by decide) Kl.rf
  obtain ⟨N2, a2, k2⟩ := step N1 (q4 + 2) 1 (0 ||| frK M lv 0 (b 0) ne) (by decide) k1
  obtain ⟨N3, a3, k3⟩ := step N2 (q4 + 1) 2 (0 ||| frK M lv 0 (b 0) ne ||| frK M lv 1 (b 1) ne) (by decide) k2
  have c2 : J_Land_freeByDish_34 ld (nI g) (nI day) (nI a) N = some (frS M lv b ne, N3) := by
    unfold J_Land_freeByDish_34
    rw [hq4, show (H_Land_freeByDish_40 ld (nI g) (nI day) (nI a) (q4 + 4) 0 0 N) = H_Land_freeByDish_40 ld (nI g) (nI day) (nI a) (q4 + 3 + 1) 0 (nI 0) N from rfl, a1, a2, a3]
    show B_Land_freeByDish_40 ld (nI g) (nI day) (nI a) (H_Land_freeByDish_40 ld (nI g) (nI day) (nI a) q4) _ (nI 3) N3 = _
    generalize H_Land_freeByDish_40 ld (nI g) (nI day) (nI a) q4 = H
    unfold B_Land_freeByDish_40
    rw [if_pos (by decide), fr3 hL (b := b) ne (Nat.le_refl _)]
  refine ⟨N3, ?_, y2.trans (k3.mono C9_C0)⟩
  rw [c1, c2]
  unfold fF
  rw [hb]
def b32 (b : Bool) : Int32 := if b = true then 1 else 0
theorem b32_0 {b : Bool} : (b32 b = 0) ↔ ¬ b = true := by
  cases b <;> decide
theorem vpb1 : vp_nar .boolean 1 = 1 := by decide
theorem vpb0 : vp_nar .boolean 0 = 0 := by decide
/-- the days without a meal -/
theorem c_lookUnfed (hL : Lnd ld lv nf nd ng ne M) (hS : St D Q nf 64 r M) (hD : D < 2 ^ 31) (hQ : Q < 2 ^ 31) {g : Nat} (hg : g < ng) {st : Int32} : ∃ X, F_MenuSearch_lookUnfed ld 64 (nI g) st M = some X ∧ Eo gN M X ∧ ∀ i, i < 4 → X 397 i = b32 (oks (fU M lv ne g r i) st) := by
  have key : ∀ (s i f : Nat) (N : gM), i + s = 4 → Eo gN M N → (∀ x, x < i → N 397 x = b32 (oks (fU M lv ne g r x) st)) → ∃ X, H_MenuSearch_lookUnfed_3 ld 64 (nI g) st (f + 1 + s) (nI i) N = some X ∧ Eo gN M X ∧ ∀ i, i < 4 → X 397 i = b32 (oks (fU M lv ne g r i) st) := by
    intro s
    induction s with
    | zero =>
      intro i f N hi eN e
      obtain rfl : i = 4 := by omega
      refine ⟨N, ?_, eN, e⟩
      show B_MenuSearch_lookUnfed_3 ld 64 (nI g) st (H_MenuSearch_lookUnfed_3 ld 64 (nI g) st f) (nI 4) N = _
      generalize H_MenuSearch_lookUnfed_3 ld 64 (nI g) st f = H
      unfold B_MenuSearch_lookUnfed_3
      rw [if_pos (by decide)]
    | succ s ih =>
      intro i f N hi eN e
      obtain ⟨X, y1, y2⟩ := c_freeOf (hL.kN eN) (hS.kN eN) st64 hD hQ (g := g) (ahead := nI i) hg
      have ef : frS N lv (fun j => bowS N lv r g j (nI i)) ne = fU M lv ne g r i := fU_k (gN_M eN)
      rw [ef] at y1
      have eX := eN.tr (gN_0 y2)
      have x397 : ∀ x, X 397 x = N 397 x := fun x => y2.m (C0_M (by decide) (by decide))
      obtain ⟨X', z1, z2⟩ := ih (i + 1) f (uM X 397 i (b32 (oks (fU M lv ne g r i) st))) (by omega) (eX.u (Or.inr (by omega))) (fun x hx => by
        by_cases w : x = i
        · rw [w, uM_same]
        · rw [uM_diff (by omega), x397]; exact e x (by omega))
      refine ⟨X', ?_, z2⟩
      rw [← z1]
      show B_MenuSearch_lookUnfed_3 ld 64 (nI g) st (H_MenuSearch_lookUnfed_3 ld 64 (nI g) st (f + 1 + s)) (nI i) N = _
      generalize H_MenuSearch_lookUnfed_3 ld 64 (nI g) st (f + 1 + s) = H
      unfold B_MenuSearch_lookUnfed_3 J_MenuSearch_lookUnfed_40
      rw [if_neg (by rw [show (4 : Int32) = nI 4 from rfl, nI_leI (by omega) (by omega)]; omega), y1, bI2_s, if_neg (nI_in (by omega) (by omega)), if_neg (nI_in (by omega) (by omega)), nI_clamp (by omega), nmM_e, nmM_e, nmI_e, nmI_e, nI_1, vpb1, vpb0]
      unfold oks b32
      by_cases w : fU M lv ne g r i &&& st = st
      · rw [if_pos w, if_pos (decide_eq_true w)]
      · rw [if_neg w, if_neg (by rw [decide_eq_true_eq]; exact w)]
  unfold F_MenuSearch_lookUnfed
  obtain ⟨f, hf⟩ := FU_k (1 + 4) (by omega)
  rw [hf, ← Nat.add_assoc]
  exact key 4 0 f M (by omega) Eo.rf (fun x hx => absurd hx (Nat.not_lt_zero _))
/-- the days behind a meal, those done so far -/
def FdMn (M : gM) (lv nf nd ne n g day : Nat) (st : Int32) (m d i : Nat) (N : gM) : Prop := ∀ x y z, x < n → y < nd → x ≤ z → z < n → (x < m ∨ (x = m ∧ (y < d ∨ (y = d ∧ z < i)))) → N 398 (20 * z + 5 * x + y) = b32 (oks (fF M lv nf ne g y (day + x) (z - x)) st)
theorem c_lookFed (hL : Lnd ld lv nf nd ng ne M) {g n day : Nat} (hg : g < ng) (hn : n ≤ 4) {st : Int32} : ∃ X, F_MenuSearch_lookFed ld (nI day) (nI g) (nI n) st M = some X ∧ Eo gN M X ∧ (∀ x, X 397 x = M 397 x) ∧ FdMn M lv nf nd ne n g day st n 0 0 X := by
  have h5 := hL.nd5
  have inner : ∀ (m d : Nat) (K3 K13 : Int32 → gM → Option gM), m < n → d < nd → ∀ (s i f : Nat) (N : gM), i + s = n → m ≤ i → Eo gN M N → (∀ x, N 397 x = M 397 x) → FdMn M lv nf nd ne n g day st m d i N → ∃ X, H_MenuSearch_lookFed_26 ld K3 K13 (nI day) (nI g) (nI n) st (nI m) (nI d) (f + 1 + s) (nI i) N = J_MenuSearch_lookFed_105 ld K3 K13 (nI day) (nI g) (nI n) st (nI m) (nI d) X ∧ Eo gN M X ∧ (∀ x, X 397 x = M 397 x) ∧ FdMn M lv nf nd ne n g day st m (d + 1) 0 X := by
    intro m d K3 K13 hm hd s
    induction s with
    | zero =>
      intro i f N hi hmi eN e7 hF
      obtain rfl : i = n := by omega
      refine ⟨N, ?_, eN, e7, fun x y z a b c e w => hF x y z a b c e (by omega)⟩
      show B_MenuSearch_lookFed_26 ld K3 K13 (nI day) (nI g) (nI i) st (nI m) (nI d) (H_MenuSearch_lookFed_26 ld K3 K13 (nI day) (nI g) (nI i) st (nI m) (nI d) f) (nI i) N = _
      generalize H_MenuSearch_lookFed_26 ld K3 K13 (nI day) (nI g) (nI i) st (nI m) (nI d) f = H
      unfold B_MenuSearch_lookFed_26
      rw [if_pos (by rw [nI_leI (by omega) (by omega)]; omega)]
    | succ s ih =>
      intro i f N hi hmi eN e7 hF
      obtain ⟨X, y1, y2⟩ := c_freeByDish (hL.kN eN) (g := g) (d := d) (day := day + m) (a := i - m) hg hd
      rw [fF_k (gN_M eN)] at y1
      have eX := eN.tr (gN_0 y2)
      have xm : ∀ c x, 396 ≤ c → c ≤ 400 → X c x = N c x := fun c x a b => y2.m (C0_M (by omega) (by omega))
      obtain ⟨X', z1, z2⟩ := ih (i + 1) f (uM X 398 (20 * i + 5 * m + d) (b32 (oks (fF M lv nf ne g d (day + m) (i - m)) st))) (by omega) (by omega) (eX.u (Or.inr (by omega))) (fun x => by rw [uM_diff (by omega), xm 397 x (by omega) (by omega)]; exact e7 x) (fun x y z a b c e w => by
        by_cases v : x = m ∧ y = d ∧ z = i
        · obtain ⟨rfl, rfl, rfl⟩ := v
          rw [uM_same]
        · rw [uM_diff (by omega), xm 398 _ (by omega) (by omega)]
          exact hF x y z a b c e (by omega))
      refine ⟨X', ?_, z2⟩
      rw [← z1]
      show B_MenuSearch_lookFed_26 ld K3 K13 (nI day) (nI g) (nI n) st (nI m) (nI d) (H_MenuSearch_lookFed_26 ld K3 K13 (nI day) (nI g) (nI n) st (nI m) (nI d) (f + 1 + s)) (nI i) N = _
      generalize H_MenuSearch_lookFed_26 ld K3 K13 (nI day) (nI g) (nI n) st (nI m) (nI d) (f + 1 + s) = H
      have ix : F_MenuSearch_indexOf (nI i) (nI m) (nI d) = some (nI (20 * i + 5 * m + d)) := by
        unfold F_MenuSearch_indexOf
        rw [show (4 : Int32) = nI 4 from rfl, show (5 : Int32) = nI 5 from rfl, nI_mul, nI_add, nI_mul, nI_add]
        exact congrArg (fun x => some (nI x)) (by omega)
      have bd : 20 * i + 5 * m + d < 80 := by omega
      unfold B_MenuSearch_lookFed_26 J_MenuSearch_lookFed_98 J_MenuSearch_lookFed_99
      rw [if_neg (by rw [nI_leI (by omega) (by omega)]; omega), nI_add, nI_sub hmi, y1, bI2_s, ix, bI_s, if_neg (nI_pos (by omega)), if_neg (by rw [show (80 : Int32) = nI 80 from rfl, nI_leI (by omega) (by omega)]; omega), if_neg (nI_in bd (by omega)), if_neg (nI_in bd (by omega)), nI_clamp (by omega), nmM_e, nmM_e, nmI_e, nmI_e, nI_1, vpb1, vpb0]
      unfold oks b32
      by_cases w : fF M lv nf ne g d (day + m) (i - m) &&& st = st
      · rw [if_pos w, if_pos (decide_eq_true w)]
      · rw [if_neg w, if_neg (by rw [decide_eq_true_eq]; exact w)]
  have mid : ∀ (m : Nat) (K3 : Int32 → gM → Option gM), m < n → ∀ (s d f : Nat) (N : gM), d + s = nd → Eo gN M N → (∀ x, N 397 x = M 397 x) → FdMn M lv nf nd ne n g day st m d 0 N → ∃ X, H_MenuSearch_lookFed_13 ld K3 (nI day) (nI g) (nI n) st (nI m) (f + 1 + s) (nI d) N = J_MenuSearch_lookFed_111 ld K3 (nI day) (nI g) (nI n) st (nI m) X ∧ Eo gN M X ∧ (∀ x, X 397 x = M 397 x) ∧ FdMn M lv nf nd ne n g day st (m + 1) 0 0 X := by
    intro m K3 hm s
    induction s with
    | zero =>
      intro d f N hd eN e7 hF
      obtain rfl : d = nd := by omega
      refine ⟨N, ?_, eN, e7, fun x y z a b c e w => hF x y z a b c e (by omega)⟩
      show B_MenuSearch_lookFed_13 ld K3 (nI day) (nI g) (nI n) st (nI m) (H_MenuSearch_lookFed_13 ld K3 (nI day) (nI g) (nI n) st (nI m) f) (nI d) N = _
      generalize H_MenuSearch_lookFed_13 ld K3 (nI day) (nI g) (nI n) st (nI m) f = H
      unfold B_MenuSearch_lookFed_13
      rw [(hL.kN eN).cd, if_pos (by rw [nI_leI (by omega) (by omega)]; omega)]
    | succ s ih =>
      intro d f N hd eN e7 hF
      obtain ⟨g', hg'⟩ := FU_k (1 + (n - m)) (by omega)
      obtain ⟨X, y1, y2, y3, y4⟩ := inner m d K3 (H_MenuSearch_lookFed_13 ld K3 (nI day) (nI g) (nI n) st (nI m) (f + 1 + s)) hm (by omega) (n - m) m g' N (by omega) (Nat.le_refl _) eN e7 (fun x y z a b c e w => hF x y z a b c e (by omega))
      obtain ⟨X', z1, z2⟩ := ih (d + 1) f X (by omega) y2 y3 y4
      refine ⟨X', ?_, z2⟩
      rw [← z1]
      show B_MenuSearch_lookFed_13 ld K3 (nI day) (nI g) (nI n) st (nI m) (H_MenuSearch_lookFed_13 ld K3 (nI day) (nI g) (nI n) st (nI m) (f + 1 + s)) (nI d) N = _
      rw [Nat.add_assoc g' 1 (n - m), ← hg'] at y1
      generalize H_MenuSearch_lookFed_13 ld K3 (nI day) (nI g) (nI n) st (nI m) (f + 1 + s) = H at y1 ⊢
      unfold B_MenuSearch_lookFed_13
      rw [(hL.kN eN).cd, if_neg (by rw [nI_leI (by omega) (by omega)]; omega), y1]
      unfold J_MenuSearch_lookFed_105
      rw [nmI_e, nI_1]
  have outer : ∀ (s m f : Nat) (N : gM), m + s = n → Eo gN M N → (∀ x, N 397 x = M 397 x) → FdMn M lv nf nd ne n g day st m 0 0 N → ∃ X, H_MenuSearch_lookFed_3 ld (nI day) (nI g) (nI n) st (f + 1 + s) (nI m) N = some X ∧ Eo gN M X ∧ (∀ x, X 397 x = M 397 x) ∧ FdMn M lv nf nd ne n g day st n 0 0 X := by
    intro s
    induction s with
    | zero =>
      intro m f N hm eN e7 hF
      obtain rfl : m = n := by omega
      refine ⟨N, ?_, eN, e7, hF⟩
      show B_MenuSearch_lookFed_3 ld (nI day) (nI g) (nI m) st (H_MenuSearch_lookFed_3 ld (nI day) (nI g) (nI m) st f) (nI m) N = _
      generalize H_MenuSearch_lookFed_3 ld (nI day) (nI g) (nI m) st f = H
      unfold B_MenuSearch_lookFed_3
      rw [if_pos (by rw [nI_leI (by omega) (by omega)]; omega)]
    | succ s ih =>
      intro m f N hm eN e7 hF
      obtain ⟨g', hg'⟩ := FU_k (1 + nd) (by omega)
      obtain ⟨X, y1, y2, y3, y4⟩ := mid m (H_MenuSearch_lookFed_3 ld (nI day) (nI g) (nI n) st (f + 1 + s)) (by omega) nd 0 g' N (by omega) eN e7 hF
      obtain ⟨X', z1, z2⟩ := ih (m + 1) f X (by omega) y2 y3 y4
      refine ⟨X', ?_, z2⟩
      rw [← z1]
      show B_MenuSearch_lookFed_3 ld (nI day) (nI g) (nI n) st (H_MenuSearch_lookFed_3 ld (nI day) (nI g) (nI n) st (f + 1 + s)) (nI m) N = _
      rw [Nat.add_assoc g' 1 nd, ← hg'] at y1
      generalize H_MenuSearch_lookFed_3 ld (nI day) (nI g) (nI n) st (f + 1 + s) = H at y1 ⊢
      unfold B_MenuSearch_lookFed_3
      rw [if_neg (by rw [nI_leI (by omega) (by omega)]; omega), show (0 : Int32) = nI 0 from rfl, y1]
      unfold J_MenuSearch_lookFed_111
      rw [nmI_e, nI_1]
  unfold F_MenuSearch_lookFed
  obtain ⟨f, hf⟩ := FU_k (1 + n) (by omega)
  rw [hf, ← Nat.add_assoc]
  exact outer n 0 f M (by omega) Eo.rf (fun _ => rfl) (fun x y z a b c e w => by omega)
/-- the menu's tables, and a row of choices -/
def TabMn (ld n nd : Nat) (U : Nat → Bool) (F : Nat → Nat → Nat → Bool) (N : gM) : Prop := N ld 1 = nI nd ∧ (∀ i, i < 4 → N 397 i = b32 (U i)) ∧ ∀ x y z, x < n → y < nd → x ≤ z → z < n → N 398 (20 * z + 5 * x + y) = b32 (F z x y)
def okM (U : Nat → Bool) (F : Nat → Nat → Nat → Bool) (i meal c : Nat) : Bool := if c = 0 then U i else F i meal (c - 1)
def oI (o : Option Nat) : Int32 := match o with
  | none => -1
  | some m => nI m
theorem c_isFreeM {n : Nat} {U : Nat → Bool} {F : Nat → Nat → Nat → Bool} {N : gM} (hT : TabMn ld n nd U F N) (hn : n ≤ 4) (h5 : nd ≤ 5) {i meal c : Nat} (hi : i < n) (hm : meal ≤ i) (hc : c ≤ nd) : F_MenuSearch_isFree (nI i) (nI meal) (nI c - 1) N = some (b32 (okM U F i meal c)) := by
  obtain ⟨_, _, c3, c4, _⟩ := ch_n c (by omega) 5 (by decide)
  have fin : ∀ b, (if b32 b = 0 then some (0 : Int32) else some 1) = some (b32 b) := fun b => by cases b <;> rfl
  unfold F_MenuSearch_isFree okM
  by_cases w : c = 0
  · rw [if_neg (fun z => c3.mp z w), if_neg (nI_pos (by omega)), if_neg (by rw [show (4 : Int32) = nI 4 from rfl, nI_leI (by omega) (by omega)]; omega), if_neg (nI_in (by omega) (by omega)), nI_clamp (by omega), hT.2.1 i (by omega), fin, if_pos w]
  · have ix : F_MenuSearch_indexOf (nI i) (nI meal) (nI (c - 1)) = some (nI (20 * i + 5 * meal + (c - 1))) := by
      unfold F_MenuSearch_indexOf
      rw [show (4 : Int32) = nI 4 from rfl, show (5 : Int32) = nI 5 from rfl, nI_mul, nI_add, nI_mul, nI_add]
      exact congrArg (fun x => some (nI x)) (by omega)
    rw [if_pos (c3.mpr w), c4 w, ix, bI_s, if_neg (nI_pos (by omega)), if_neg (by rw [show (80 : Int32) = nI 80 from rfl, nI_leI (by omega) (by omega)]; omega), if_neg (nI_in (by omega) (by omega)), nI_clamp (by omega), hT.2.2 meal (c - 1) i (by omega) (by omega) hm hi, fin, if_neg w]
theorem c_meals {n : Nat} {U : Nat → Bool} {F : Nat → Nat → Nat → Bool} {N : gM} (hT : TabMn ld n nd U F N) (hn : n ≤ 4) (h5 : nd ≤ 5) {ch : Nat → Nat} (hr : ∀ i, i < 4 → N 399 i = nI (ch i)) (hv : ∀ i, i < n → ch i ≤ nd) : F_MenuSearch_mealsIfAllFree (nI n) N = some (oI (mls nd (okM U F) ch n 0 0 0 0)) := by
  have key : ∀ (s i f meal c cnt : Nat), i + s = n → meal ≤ i → c ≤ nd → cnt ≤ i → H_MenuSearch_mealsIfAllFree_10 (nI n) N (f + 1 + s) (nI cnt) (nI meal) (nI c - 1) (nI i) = some (oI (mls nd (okM U F) ch s i meal c cnt)) := by
    intro s
    induction s with
    | zero =>
      intro i f meal c cnt hi hm hc hk
      obtain rfl : i = n := by omega
      show B_MenuSearch_mealsIfAllFree_10 (nI i) N (H_MenuSearch_mealsIfAllFree_10 (nI i) N f) _ _ _ (nI i) = _
      generalize H_MenuSearch_mealsIfAllFree_10 (nI i) N f = H
      unfold B_MenuSearch_mealsIfAllFree_10
      rw [if_pos (by rw [nI_leI (by omega) (by omega)]; omega)]
      rfl
    | succ s ih =>
      intro i f meal c cnt hi hm hc hk
      have hx := hv i (by omega)
      obtain ⟨_, _, _, x4, x5⟩ := ch_n (ch i) (by omega) 5 (by decide)
      have h1 := ih (i + 1) f meal c cnt (by omega) (by omega) hc (by omega)
      have h2 := ih (i + 1) f i (ch i) (cnt + 1) (by omega) (by omega) hx (by omega)
      show B_MenuSearch_mealsIfAllFree_10 (nI n) N (H_MenuSearch_mealsIfAllFree_10 (nI n) N (f + 1 + s)) _ _ _ (nI i) = _
      generalize H_MenuSearch_mealsIfAllFree_10 (nI n) N (f + 1 + s) = H at h1 h2 ⊢
      unfold B_MenuSearch_mealsIfAllFree_10 J_MenuSearch_mealsIfAllFree_44 mls
      rw [if_neg (by rw [nI_leI (by omega) (by omega)]; omega), s_at (by omega) (by decide), bI_s, hr i (by omega), if_neg (show ¬ nd < ch i by omega), nmI_e, nmI_e, nmI_e, nmI_e, nI_1, nI_1]
      by_cases w : ch i = 0
      · rw [if_pos w, if_pos (by rw [w]; decide), c_isFreeM hT hn h5 (by omega) hm hc, bI_s]
        by_cases z : okM U F i meal c = true
        · rw [if_pos z, if_neg (fun q => b32_0.mp q z)]
          exact h1
        · rw [if_neg z, if_pos (b32_0.mpr z)]
          rfl
      · rw [if_neg w, if_neg (by rw [show (0 : Int32) = nI 0 from rfl, nI_leI (by omega) (by omega)]; omega), c_isFreeM hT hn h5 (by omega) (Nat.le_refl _) hx, bI_s]
        by_cases z : okM U F i i (ch i) = true
        · rw [if_pos z, if_neg (fun q => b32_0.mp q z)]
          exact h2
        · rw [if_neg z, if_pos (b32_0.mpr z)]
          rfl
  unfold F_MenuSearch_mealsIfAllFree
  obtain ⟨f, hf⟩ := FU_k (1 + n) (by omega)
  rw [hf, ← Nat.add_assoc]
  exact key n 0 f 0 0 0 (by omega) (Nat.le_refl _) (Nat.zero_le _) (Nat.le_refl _)
theorem nx_sub {w k : Nat} : p6 k * (w / p6 k) + w % p6 k = w := Nat.div_add_mod w (p6 k)
/-- the class's step to the next choices -/
theorem c_stepM {n W : Nat} (h5 : nd ≤ 5) (hn1 : 1 ≤ n) (hn : n ≤ 4) (hW : W < p6 n) (hv : vld n nd W) {N : gM} (hr : ∀ i, i < 4 → N 399 i = nI (dg n W i)) : ∃ b X, F_MenuSearch_step (nI n) (nI nd) N = some (b, X) ∧ Eo (fun c _ => c = 399) N X ∧ ((b = 0 ∧ ∀ w, W < w → w < p6 n → ¬ vld n nd w) ∨ (b = 1 ∧ ∃ W', W < W' ∧ W' < p6 n ∧ vld n nd W' ∧ (∀ w, W < w → w < W' → ¬ vld n nd w) ∧ ∀ i, i < 4 → X 399 i = nI (dg n W' i))) := by
  have key : ∀ (j k f : Nat) (X : gM), j + k = n → W % p6 k = rpn nd k → Eo (fun c _ => c = 399) N X → (∀ i, i < 4 → X 399 i = nI (if i < j then dg n W i else 0)) → ∃ b Y, H_MenuSearch_step_4 (nI nd) (f + 1 + j) (nI j + -1) X = some (b, Y) ∧ Eo (fun c _ => c = 399) N Y ∧ ((b = 0 ∧ ∀ w, W < w → w < p6 n → ¬ vld n nd w) ∨ (b = 1 ∧ ∃ W', W < W' ∧ W' < p6 n ∧ vld n nd W' ∧ (∀ w, W < w → w < W' → ¬ vld n nd w) ∧ ∀ i, i < 4 → Y 399 i = nI (dg n W' i))) := by
    intro j
    induction j with
    | zero =>
      intro k f X hj hm eX hx
      obtain rfl : k = n := by omega
      refine ⟨0, X, ?_, eX, Or.inl ⟨rfl, fun w h1 h2 hv2 => ?_⟩⟩
      · show B_MenuSearch_step_4 (nI nd) (H_MenuSearch_step_4 (nI nd) f) (nI 0 + -1) X = _
        unfold B_MenuSearch_step_4
        rw [if_pos (by decide)]
      · have h3 := low_le k hv2
        rw [Nat.mod_eq_of_lt h2] at h3
        rw [Nat.mod_eq_of_lt hW] at hm
        omega
    | succ j ih =>
      intro k f X hj hm eX hx
      have hc : dg n W j = dgk W k := by
        unfold dg
        rw [if_pos (by omega), show n - 1 - j = k by omega]
      have hcv : dgk W k ≤ nd := hv k (by omega)
      have xj : X 399 j = nI (dgk W k) := by rw [hx j (by omega), if_pos (by omega), hc]
      have e0 : H_MenuSearch_step_4 (nI nd) (f + 1 + (j + 1)) (nI (j + 1) + -1) X = (if nI nd ≤ nI (dgk W k) then H_MenuSearch_step_4 (nI nd) (f + 1 + j) (nI j + -1) (uM X 399 j 0) else some (1, uM X 399 j (nI (dgk W k + 1)))) := by
        rw [nI_m1]
        show B_MenuSearch_step_4 (nI nd) (H_MenuSearch_step_4 (nI nd) (f + 1 + j)) (nI j) X = _
        generalize H_MenuSearch_step_4 (nI nd) (f + 1 + j) = H
        unfold B_MenuSearch_step_4 J_MenuSearch_step_24
        rw [if_neg (nI_pos (by omega)), s_at (by omega) (by decide), bI_s, xj, s_put (by omega) (by decide), bI_s, nmI_e, s_put (by omega) (by decide), bI_s, nI_1]
      rw [e0]
      by_cases w : nd ≤ dgk W k
      · rw [if_pos (by rw [nI_leI (by omega) (by omega)]; exact w)]
        have e1 : dgk W k = nd := by omega
        refine ih (k + 1) f (uM X 399 j 0) (by omega) ?_ (eX.u rfl) (fun i hi => ?_)
        · rw [p6_mod, hm, e1]; rfl
        · by_cases z : i = j
          · rw [z, uM_same, if_neg (by omega)]; rfl
          · rw [uM_diff (by omega), hx i hi]
            by_cases y : i < j
            · rw [if_pos y, if_pos (by omega)]
            · rw [if_neg y, if_neg (by omega)]
      · rw [if_neg (by rw [nI_leI (by omega) (by omega)]; exact w)]
        have c5 : dgk W k < 5 := by omega
        have hB : (W / p6 k + 1) % 6 = dgk W k + 1 := by
          unfold dgk at c5 ⊢
          omega
        refine ⟨1, _, rfl, eX.u rfl, Or.inr ⟨rfl, p6 k * (W / p6 k + 1), nx_gt, nx_lt c5 (by omega) hW, fun x hx' => ?_, fun w h1 h2 => nx_no hm (by omega) h1 h2, fun i hi => ?_⟩⟩
        · rcases Nat.lt_trichotomy x k with q | q | q
          · rw [nx_dn q]; omega
          · rw [q, nx_at, hB]; omega
          · rw [nx_up c5 q]; exact hv x hx'
        · by_cases z : i = j
          · rw [z, uM_same]
            unfold dg
            rw [if_pos (by omega), show n - 1 - j = k by omega, nx_at, hB]
          · rw [uM_diff (by omega), hx i hi]
            unfold dg
            by_cases y : i < j
            · rw [if_pos (by omega), if_pos (by omega), if_pos (by omega), nx_up c5 (by omega)]
            · rw [if_neg (by omega)]
              by_cases y2 : i < n
              · rw [if_pos y2, nx_dn (by omega)]
              · rw [if_neg y2]
  unfold F_MenuSearch_step
  rw [nmI_e, show nI n - 1 = nI n + -1 from Int32.sub_eq_add_neg ..]
  obtain ⟨f, hf⟩ := FU_k (1 + n) (by omega)
  rw [hf, ← Nat.add_assoc]
  exact key n 0 f N (by omega) (Nat.mod_one W) Eo.rf (fun i hi => by
    rw [hr i hi]
    by_cases y : i < n
    · rw [if_pos y]
    · rw [if_neg y]; unfold dg; rw [if_neg y])
/-- the best so far, in the class's places -/
def CstMn (n : Nat) (o : Option (Nat × Nat)) (N : gM) : Prop := match o with
  | none => N 396 4 = nI 5
  | some (b, l) => N 396 4 = nI l ∧ l ≤ 4 ∧ ∀ i, i < 4 → N 400 i = nI (dg n b i)
theorem c_find {n : Nat} {U : Nat → Bool} {F : Nat → Nat → Nat → Bool} (h5 : nd ≤ 5) (hn1 : 1 ≤ n) (hn : n ≤ 4) (hld : isLa ld) : ∀ (s W way f : Nat) (N : gM), W < p6 n → p6 n ≤ W + s → way ≤ W → vld n nd W → TabMn ld n nd U F N → (∀ i, i < 4 → N 399 i = nI (dg n W i)) → CstMn n (bsW (fun w => mls nd (okM U F) (dg n w) n 0 0 0 0) W) N → ∃ X, H_MenuSearch_find_38 ld 64 (nI n) (f + 1 + s) (nI way) N = some (if bsW (fun w => mls nd (okM U F) (dg n w) n 0 0 0 0) (p6 n) = none then 0 else 1, X) ∧ CstMn n (bsW (fun w => mls nd (okM U F) (dg n w) n 0 0 0 0) (p6 n)) X := by
  have hl := (by decide +kernel : ∀ x ∈ lLa, x < 390) ld hld
  have l6 := p6_4 n (by omega)
  generalize hv : (fun w => mls nd (okM U F) (dg n w) n 0 0 0 0) = v
  have hinv : ∀ w, ¬ vld n nd w → v w = none := fun w h => by
    rw [← hv]
    refine mls_v n 0 0 0 0 ?_
    have h2 : ¬ ∀ i, i < n → dg n w i ≤ nd := fun z => h (vld_dg.mpr z)
    apply Classical.byContradiction
    intro z
    exact h2 (fun i hi => by
      apply Classical.byContradiction
      intro y
      exact z ⟨i, by omega, by omega, by omega⟩)
  intro s
  induction s with
  | zero => intro W way f N hW hs; omega
  | succ s ih =>
    intro W way f N hW hs hw hvW hT hr hC
    have hm := c_meals hT hn h5 hr (vld_dg.mp hvW)
    have hm' : mls nd (okM U F) (dg n W) n 0 0 0 0 = v W := by rw [← hv]
    rw [hm'] at hm
    -- behind the look
    have fin : ∀ N', Eo (fun c j => (c = 396 ∧ j = 4) ∨ c = 400) N N' → CstMn n (bsW v (W + 1)) N' → ∃ X, J_MenuSearch_find_85 ld 64 (H_MenuSearch_find_38 ld 64 (nI n) (f + 1 + s)) (nI n) (nI way) N' = some (if bsW v (p6 n) = none then 0 else 1, X) ∧ CstMn n (bsW v (p6 n)) X := fun N' eN hC' => by
      have e9 : ∀ i, N' 399 i = N 399 i := fun i => eN 399 i (by omega)
      have hT' : TabMn ld n nd U F N' := ⟨(eN ld 1 (by omega)).trans hT.1, fun i hi => (eN 397 i (by omega)).trans (hT.2.1 i hi), fun x y z a b c d => (eN 398 _ (by omega)).trans (hT.2.2 x y z a b c d)⟩
      obtain ⟨b, X, y1, y2, y3⟩ := c_stepM h5 hn1 hn hW hvW (N := N') (fun i hi => (e9 i).trans (hr i hi))
      have cX : ∀ o, CstMn n o N' → CstMn n o X := fun o h => by
        match o, h with
        | none, h => exact (y2 396 4 (show ¬ (396 : Nat) = 399 by decide)).trans h
        | some (b, l), h => exact ⟨(y2 396 4 (show ¬ (396 : Nat) = 399 by decide)).trans h.1, h.2.1, fun i hi => (y2 400 i (show ¬ (400 : Nat) = 399 by decide)).trans (h.2.2 i hi)⟩
      unfold J_MenuSearch_find_85
      rw [hT'.1, y1, bI2_s]
      rcases y3 with ⟨rfl, no⟩ | ⟨rfl, W', w1, w2, w3, w4, w5⟩
      · have eb : bsW v (p6 n) = bsW v (W + 1) := by
          have := bsW_skip (v := v) (a := W + 1) (p6 n - (W + 1)) (fun w p q => hinv w (no w (by omega) (by omega)))
          rw [show W + 1 + (p6 n - (W + 1)) = p6 n by omega] at this
          exact this
        rw [if_pos rfl, eb]
        refine ⟨X, ?_, cX _ hC'⟩
        have hX := cX _ hC'
        unfold J_MenuSearch_find_98 J_MenuSearch_find_107
        generalize bsW v (W + 1) = o at hX ⊢
        match o, hX with
        | none, h => rw [show X 396 4 = nI 5 from h, if_pos (by decide), if_pos rfl]
        | some (b, l), h => rw [h.1, if_neg (by have := h.2.1; rw [show (4 : Int32) = nI 4 from rfl, nI_ltI (by omega) (by omega)]; omega), if_neg (fun z => nomatch z)]
      · have eb : bsW v W' = bsW v (W + 1) := by
          have := bsW_skip (v := v) (a := W + 1) (W' - (W + 1)) (fun w p q => hinv w (w4 w (by omega) (by omega)))
          rw [show W + 1 + (W' - (W + 1)) = W' by omega] at this
          exact this
        rw [if_neg (by decide), nmI_e, nI_1]
        exact ih W' (way + 1) f X w2 (by omega) (by omega) w3 ⟨(y2 ld 1 (by omega)).trans hT'.1, fun i hi => (y2 397 i (show ¬ (397 : Nat) = 399 by decide)).trans (hT'.2.1 i hi), fun x y z a b c d => (y2 398 _ (show ¬ (398 : Nat) = 399 by decide)).trans (hT'.2.2 x y z a b c d)⟩ w5 (by rw [eb]; exact cX _ hC')
    show ∃ X, B_MenuSearch_find_38 ld 64 (nI n) (H_MenuSearch_find_38 ld 64 (nI n) (f + 1 + s)) (nI way) N = _ ∧ _
    generalize H_MenuSearch_find_38 ld 64 (nI n) (f + 1 + s) = H at fin ⊢
    unfold B_MenuSearch_find_38
    rw [if_neg (by rw [show (1296 : Int32) = nI 1296 from rfl, nI_leI (by omega) (by omega)]; omega), hm, bI_s]
    cases hq : v W with
    | none =>
      rw [if_pos (show oI none < 0 by decide)]
      exact fin N Eo.rf (by rw [bsW_none hq]; exact hC)
    | some m =>
      have hm4 : m ≤ 4 := by
        have := mls_le n 0 0 0 0 m (hm'.trans hq)
        omega
      rw [if_neg (show ¬ oI (some m) < 0 from nI_pos (by omega))]
      have take : CstMn n (some (W, m)) (fl (uM N 396 4 (nI m)) 400 0 4 (uM N 396 4 (nI m) 399)) := ⟨by rw [fl_out (by omega), uM_same], hm4, fun i hi => by rw [fl_in (by omega), Nat.sub_zero, uM_diff (by omega)]; exact hr i hi⟩
      have et : Eo (fun c j => (c = 396 ∧ j = 4) ∨ c = 400) N (fl (uM N 396 4 (nI m)) 400 0 4 (uM N 396 4 (nI m) 399)) := fun c j w => by
        rw [fl_out (by omega), uM_diff (by omega)]
      cases hb : bsW v W with
      | none =>
        rw [hb] at hC
        rw [show N 396 4 = nI 5 from hC, if_neg (show ¬ nI 5 ≤ oI (some m) by show ¬ nI 5 ≤ nI m; rw [nI_leI (by omega) (by omega)]; omega), nmM_e, s_copyRow (by decide) (by decide), bI_s]
        exact fin _ et (by rw [bsW_first hq hb]; exact take)
      | some p =>
        obtain ⟨b, l⟩ := p
        rw [hb] at hC
        have hl4 := hC.2.1
        rw [hC.1]
        by_cases z : m < l
        · rw [if_neg (show ¬ nI l ≤ oI (some m) by show ¬ nI l ≤ nI m; rw [nI_leI (by omega) (by omega)]; omega), nmM_e, s_copyRow (by decide) (by decide), bI_s]
          exact fin _ et (by rw [bsW_some hq hb, if_pos z]; exact take)
        · rw [if_pos (show nI l ≤ oI (some m) by show nI l ≤ nI m; rw [nI_leI (by omega) (by omega)]; omega)]
          exact fin N Eo.rf (by rw [bsW_some hq hb, if_neg z]; exact hC)
/-- the class's menu -/
theorem c_menu (hL : Lnd ld lv nf nd ng ne M) (hS : St D Q nf 64 r M) (hD : D < 2 ^ 31) (hQ : Q < 2 ^ 31) {g n t day : Nat} (hg : g < ng) (hn1 : 1 ≤ n) (hn : n ≤ 4) (h0 : M 64 0 = nI day) : ∃ X, F_MenuSearch_find ld 64 (nI g) (nI n) (nI t) M = some (if bsW (fun w => mls nd (okM (fun i => oks (fU M lv ne g r i) (nI t)) (fun z x y => oks (fF M lv nf ne g y (day + x) (z - x)) (nI t))) (dg n w) n 0 0 0 0) (p6 n) = none then 0 else 1, X) ∧ CstMn n (bsW (fun w => mls nd (okM (fun i => oks (fU M lv ne g r i) (nI t)) (fun z x y => oks (fF M lv nf ne g y (day + x) (z - x)) (nI t))) (dg n w) n 0 0 0 0) (p6 n)) X := by
  have h5 := hL.nd5
  have hl := (by decide +kernel : ∀ x ∈ lLa, x < 390) ld hL.la
  obtain ⟨A, a1, a2, a3⟩ := c_lookUnfed hL hS hD hQ hg (st := nI t)
  obtain ⟨B, b1, b2, b3, b4⟩ := c_lookFed (hL.kN a2) (g := g) (n := n) (day := day) (st := nI t) hg hn
  have a64 : A 64 0 = nI day := (a2 64 0 (gN_n (by decide) (by decide) (by omega))).trans h0
  have l6 := p6_4 n (by omega)
  obtain ⟨f, hf⟩ := FU_k (1 + p6 n) (by omega)
  have z0 : ∀ k, dgk 0 k = 0 := fun k => by unfold dgk; rw [Nat.zero_div]
  have eD : ∀ c j, c ≠ 399 → ¬ (c = 396 ∧ j = 4) → uM (fl B 399 0 4 (fun _ => 0)) 396 4 5 c j = B c j := fun c j a b => by rw [uM_diff b, fl_out (by omega)]
  obtain ⟨X, y1, y2⟩ := c_find (U := fun i => oks (fU M lv ne g r i) (nI t)) (F := fun z x y => oks (fF M lv nf ne g y (day + x) (z - x)) (nI t)) h5 hn1 hn hL.la (p6 n) 0 0 f (uM (fl B 399 0 4 (fun _ => 0)) 396 4 5) (p6_pos n) (by omega) (Nat.le_refl _) (fun x _ => by rw [z0]; omega) ⟨by rw [eD ld 1 (by omega) (by omega)]; exact ((hL.kN a2).kN b2).cd, fun i hi => by rw [eD 397 i (by decide) (by omega), b3]; exact a3 i hi, fun x y z a b c d => by
    rw [eD 398 _ (by decide) (by omega), b4 x y z a b c d (by omega), fF_k (gN_M a2)]⟩ (fun i hi => by
    rw [uM_diff (by omega), fl_in (by omega)]
    unfold dg
    rw [z0]
    by_cases w : i < n
    · rw [if_pos w]; rfl
    · rw [if_neg w]; rfl) (show uM (fl B 399 0 4 (fun _ => 0)) 396 4 5 396 4 = nI 5 from uM_same)
  refine ⟨X, ?_, y2⟩
  unfold F_MenuSearch_find
  rw [a1, bI_s, a64, b1, bI_s, s_wipe (by decide), bI_s, nmM_e, hf, ← Nat.add_assoc]
  exact y1
end CM
end PAR55
