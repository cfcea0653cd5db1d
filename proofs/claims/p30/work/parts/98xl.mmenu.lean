/-! menu, by the model -/
section PAR56
section MM
variable {D Q q ld lv nf nd ng ne : Nat} {M M' M1 Mc Mb : gM} {L : gL} {r : Nat → Int32}
/-- the model's guest eats a dish: what its row holds then -/
theorem m_eatsDishR (h : Lnd ld lv nf nd ng ne M) {g d : Nat} (hg : g < 4) (hd : d < nd) : ∃ M', F_Mod_eatsDish (nI g) (nI d) M = some M' ∧ Eo mEat M M' ∧ M' 437 35 = M 437 35 ∧ M' 437 (15 + g) = M 437 35 ∧ ∀ j, j < 3 → M' 437 (19 + 3 * g + j) = disS M lv nf d none j (M 437 35) := by
  have h5 := h.nd5
  have h1 := h.l1
  unfold F_Mod_eatsDish
  rw [m_fillsPot h hd, bI_s]
  have f7 : Eo mEat M (fl M 438 0 6 (potD M lv nf d)) := fun c j w => fl_out (by unfold mEat mQ at w; omega)
  have hp7 : ∀ i, i < 6 → fl M 438 0 6 (potD M lv nf d) 438 i = potD M lv nf d i := fun i hi => by rw [fl_in (by omega), Nat.sub_zero]
  have r7 : ∀ k, fl M 438 0 6 (potD M lv nf d) 437 k = M 437 k := fun k => fl_out (by omega)
  generalize fl M 438 0 6 (potD M lv nf d) = N at f7 hp7 r7 ⊢
  rw [show (15 : Int32) = nI 15 from rfl, nI_add, if_neg (nI_in (by omega) (by omega)), nI_clamp (by omega), nmM_e, r7 35]
  have fA : Eo mEat M (uM N 437 (15 + g) (M 437 35)) := f7.u (by unfold mEat mQ; omega)
  have pA : ∀ i, i < 6 → uM N 437 (15 + g) (M 437 35) 438 i = potD M lv nf d i := fun i hi => by rw [uM_diff (by omega)]; exact hp7 i hi
  have rA : uM N 437 (15 + g) (M 437 35) 437 35 = M 437 35 := by rw [uM_diff (by omega)]; exact r7 35
  have rB : uM N 437 (15 + g) (M 437 35) 437 (15 + g) = M 437 35 := uM_same
  generalize uM N 437 (15 + g) (M 437 35) = A at fA pA rA rB ⊢
  have key : ∀ (s k f : Nat) (N : gM), k + s = 3 → Eo mEat M N → (∀ i, i < 6 → N 438 i = potD M lv nf d i) → N 437 35 = M 437 35 → N 437 (15 + g) = M 437 35 → (∀ j, j < k → N 437 (19 + 3 * g + j) = disS M lv nf d none j (M 437 35)) → ∃ N', H_Mod_eatsDish_23 (nI g) (nI d) (f + 1 + s) (nI k) N = some N' ∧ Eo mEat M N' ∧ N' 437 35 = M 437 35 ∧ N' 437 (15 + g) = M 437 35 ∧ (∀ j, j < 3 → N' 437 (19 + 3 * g + j) = disS M lv nf d none j (M 437 35)) := by
    intro s
    induction s with
    | zero =>
      intro k f N hk a1 a2 a3 a4 a5
      obtain rfl : k = 3 := by omega
      refine ⟨N, ?_, a1, a3, a4, a5⟩
      show B_Mod_eatsDish_23 (nI g) (nI d) (H_Mod_eatsDish_23 (nI g) (nI d) f) (nI 3) N = _
      unfold B_Mod_eatsDish_23
      rw [if_pos (by decide)]
    | succ s ih =>
      intro k f N hk a1 a2 a3 a4 a5
      have hN := h.kQ (a1.mono mEat_mQ)
      have mN := mQ_M (a1.mono mEat_mQ)
      have hPot : Pot N lv nf d none := fun i hi => by
        rw [a2 i hi, if_neg (by simp)]
        unfold potD
        rw [mN 417 _ (by decide) (by decide)]
      obtain ⟨X, y1, y2⟩ := hPot.force hN (j := k) (fun f w => by cases w) (by omega)
      rw [disS_k mN, a3] at y1
      have e437 : ∀ i, X 437 i = N 437 i := fun i => y2 437 i (by unfold mV; omega)
      obtain ⟨N', z1, z2⟩ := ih (k + 1) f (uM X 437 (19 + 3 * g + k) (disS M lv nf d none k (M 437 35))) (by omega) ((a1.tr (y2.mono mV_mEat)).u (by unfold mEat mQ; omega)) (fun i hi => by rw [uM_diff (by omega), y2 438 i (by unfold mV; omega)]; exact a2 i hi) (by rw [uM_diff (by omega), e437]; exact a3) (by rw [uM_diff (by omega), e437]; exact a4) (fun j hj => by
        by_cases w : j = k
        · rw [w, uM_same]
        · rw [uM_diff (by omega), e437]; exact a5 j (by omega))
      refine ⟨N', ?_, z2⟩
      rw [← z1]
      show B_Mod_eatsDish_23 (nI g) (nI d) (H_Mod_eatsDish_23 (nI g) (nI d) (f + 1 + s)) (nI k) N = _
      generalize H_Mod_eatsDish_23 (nI g) (nI d) (f + 1 + s) = H
      unfold B_Mod_eatsDish_23
      rw [hN.l18, show (5 : Int32) = nI 5 from rfl, show (3 : Int32) = nI 3 from rfl, show (19 : Int32) = nI 19 from rfl, nI_mul, nI_add, nI_mul, nI_add, nI_add, if_neg (by rw [nI_leI (by omega) (by omega)]; omega), if_neg (nI_in (by omega) (by omega)), nI_clamp (by omega), y1, bI2_s, if_neg (nI_in (by omega) (by omega)), nI_clamp (by omega), nmM_e, nmI_e, nI_1]
  obtain ⟨q, hq⟩ := FU_k (1 + 3) (by omega)
  obtain ⟨N', z1, z2, z3, z4, z5⟩ := key 3 0 q A (by omega) fA pA rA rB (fun j hj => absurd hj (Nat.not_lt_zero _))
  refine ⟨N', ?_, z2, z3, z4, z5⟩
  rw [hq, ← Nat.add_assoc]
  exact z1
/-- the row at day i, the last meal (c - 1) at day m, or none -/
def RsMn (M : gM) (lv nf g day : Nat) (r : Nat → Int32) (i m c : Nat) (N : gM) : Prop := N 437 35 = nI (day + i) ∧ (c = 0 → N 437 (15 + g) = r (15 + g) ∧ ∀ j, j < 3 → N 437 (19 + 3 * g + j) = r (19 + 3 * g + j)) ∧ (c ≠ 0 → N 437 (15 + g) = nI (day + m) ∧ ∀ j, j < 3 → N 437 (19 + 3 * g + j) = disS M lv nf (c - 1) none j (nI (day + m)))
theorem RsMn.frees (h : Lnd ld lv nf nd ng ne M) {N : gM} (mN : ∀ c j, 411 ≤ c → c ≤ 432 → N c j = M c j) {g day i m c : Nat} (hR : RsMn M lv nf g day r i m c N) (hr : r 35 = nI day) (hd : day + i < 2 ^ 31) (hm : m ≤ i) : frS N lv (fun j => bowS N lv (N 437) g j 0) ne = if c = 0 then fU M lv ne g r i else fF M lv nf ne g (c - 1) (day + m) (i - m) := by
  rw [frS_k mN]
  have hx : ∀ e, e < ne → ∃ x, x ≤ 2 ∧ M 421 (6 * lv + e) = nI x := fun e he => by
    obtain ⟨x, hx, -, ex⟩ := h.df he
    exact ⟨x, hx, ex⟩
  obtain ⟨r1, r2, r3⟩ := hR
  by_cases w : c = 0
  · obtain ⟨a1, a2⟩ := r2 w
    rw [if_pos w]
    unfold fU
    refine frS_b (ne := ne) (fun j hj => ?_) hx ne (Nat.le_refl _)
    show bowS N lv (N 437) g j 0 = bowS M lv r g j (nI i)
    rw [bowS_k mN]
    unfold bowS
    rw [a1, a2 j hj, r1, hr, Int32.add_zero, Int32.add_zero, ← nI_add, show nI day + nI i - r (15 + g) = nI day - r (15 + g) + nI i by rw [Int32.sub_eq_add_neg, Int32.sub_eq_add_neg, i_ac]]
  · obtain ⟨a1, a2⟩ := r3 w
    rw [if_neg w]
    unfold fF
    refine frS_b (ne := ne) (fun j hj => ?_) hx ne (Nat.le_refl _)
    show bowS N lv (N 437) g j 0 = bndS M lv g (nI j) (disS M lv nf (c - 1) none j (nI (day + m))) (nI (i - m)) (nI (day + m + (i - m)))
    rw [bowS_k mN]
    unfold bowS
    rw [a1, if_pos (nI_pos' (by omega)), a2 j hj, r1, Int32.add_zero, Int32.add_zero, nI_sub (by omega), show day + i - (day + m) = i - m by omega, show day + m + (i - m) = day + i by omega]
def mKMn (c j : Nat) : Prop := mQ c j ∧ ¬ (c = 401 ∧ j = 63)
/-- the model's meals of a way -/
theorem m_mealsBy (hL : Lnd ld lv nf nd ng ne Mb) (mb : ∀ c j, 411 ≤ c → c ≤ 432 → Mb c j = M c j) (hLM : Lnd ld lv nf nd ng ne M) (rb : ∀ k, k < 38 → Mb 436 k = r k) {g n t day w : Nat} (hg : g < ng) (hn : n ≤ 4) (ht : t < 64) (hr : r 35 = nI day) (hd : day + 4 < 2 ^ 31) (hw : w < p6 n) {N0 : gM} (e0 : Eo mQ Mb N0) : ∃ X, F_Mod_mealsBy (nI w) (nI g) (nI n) (nI t) N0 = some (oI (mls nd (okM (fun i => oks (fU M lv ne g r i) (nI t)) (fun z x y => oks (fF M lv nf ne g y (day + x) (z - x)) (nI t))) (dg n w) n 0 0 0 0), X) ∧ Eo mQ Mb X := by
  have h5 := hL.nd5
  have h4 := hL.ng4
  have h6 := hL.ne6
  have h1 := hL.l1
  have l6 := p6_4 n (by omega)
  generalize hok : okM (fun i => oks (fU M lv ne g r i) (nI t)) (fun z x y => oks (fF M lv nf ne g y (day + x) (z - x)) (nI t)) = ok
  have okv : ∀ i m c, ok i m c = oks (if c = 0 then fU M lv ne g r i else fF M lv nf ne g (c - 1) (day + m) (i - m)) (nI t) := fun i m c => by
    rw [← hok]
    unfold okM
    by_cases z : c = 0
    · rw [if_pos z, if_pos z]
    · rw [if_neg z, if_neg z]
  obtain ⟨Mc, w1, w2, _, w4⟩ := m_copies (hL.kQ e0)
  have ec := e0.tr w4
  have rc : ∀ i, i < 38 → Mc 437 i = r i := fun i hi => by rw [w2 i hi, e0 436 i (by unfold mQ; omega)]; exact rb i hi
  have key : ∀ (s i f m c cnt : Nat) (N : gM), i + s = n → m ≤ i → c ≤ nd → cnt ≤ i → Eo mQ Mb N → RsMn M lv nf g day r i m c N → ∃ X, H_Mod_mealsBy_10 (nI w) (nI g) (nI n) (nI t) (f + 1 + s) (nI cnt) (nI i) N = some (oI (mls nd ok (dg n w) s i m c cnt), X) ∧ Eo mQ Mb X := by
    intro s
    induction s with
    | zero =>
      intro i f m c cnt N hi hm hc hk eN hR
      obtain rfl : i = n := by omega
      refine ⟨N, ?_, eN⟩
      show B_Mod_mealsBy_10 (nI w) (nI g) (nI i) (nI t) (H_Mod_mealsBy_10 (nI w) (nI g) (nI i) (nI t) f) _ (nI i) N = _
      generalize H_Mod_mealsBy_10 (nI w) (nI g) (nI i) (nI t) f = H
      unfold B_Mod_mealsBy_10
      rw [if_pos (by rw [nI_leI (by omega) (by omega)]; omega)]
      rfl
    | succ s ih =>
      intro i f m c cnt N hi hm hc hk eN hR
      have hN := hL.kQ eN
      have mN : ∀ c j, 411 ≤ c → c ≤ 432 → N c j = M c j := fun c j a b => (mQ_M eN c j a b).trans (mb c j a b)
      have lp := p6_4 (n - 1 - i) (by omega)
      have pp := p6_pos (n - 1 - i)
      have ed : dg n w i = w / p6 (n - 1 - i) % 6 := by unfold dg dgk; rw [if_pos (by omega)]
      have wl : w / p6 (n - 1 - i) < 2 ^ 31 := Nat.lt_of_le_of_lt (Nat.div_le_self _ _) (by omega)
      have c5 := dg_5 n w i
      obtain ⟨x1, x2, _, x4, _⟩ := ch_n (dg n w i) (by omega) nd (by omega)
      -- one look at a day
      have look : ∀ (N : gM) (m c cnt : Nat), m ≤ i → c ≤ nd → cnt ≤ i + 1 → Eo mQ Mb N → RsMn M lv nf g day r i m c N → ∃ X, J_Mod_mealsBy_65 (H_Mod_mealsBy_10 (nI w) (nI g) (nI n) (nI t) (f + 1 + s)) (nI w) (nI g) (nI n) (nI t) (nI cnt) (nI i) N = some (oI (if ok i m c = true then mls nd ok (dg n w) s (i + 1) m c cnt else none), X) ∧ Eo mQ Mb X := fun N m c cnt hm hc hk eN hR => by
        have hN := hL.kQ eN
        have mN : ∀ c j, 411 ≤ c → c ≤ 432 → N c j = M c j := fun c j a b => (mQ_M eN c j a b).trans (mb c j a b)
        obtain ⟨Y, y1, y2⟩ := m_freeBits hN (g := g) (by omega)
        rw [hR.frees hLM mN hr (by omega) hm] at y1
        have eY := eN.tr (y2.mono mV_mQ)
        have e437 : ∀ k, Y 437 k = N 437 k := fun k => y2 437 k (by unfold mV; omega)
        have tst : (nI t &&& ((if c = 0 then fU M lv ne g r i else fF M lv nf ne g (c - 1) (day + m) (i - m)) ^^^ (-1)) = 0) ↔ ok i m c = true := by
          rw [okv]
          by_cases z : c = 0
          · rw [if_pos z]; exact frS_set h6 ht
          · rw [if_neg z]; exact frS_set h6 ht
        obtain ⟨X, z1, z2⟩ := ih (i + 1) f m c cnt (uM Y 437 35 (nI (day + i) + 1)) (by omega) (by omega) hc (by omega) (eY.u (by unfold mQ; omega)) ⟨by rw [uM_same, nI_1]; rfl, fun z => by
          rw [uM_diff (by omega), e437]
          exact ⟨(hR.2.1 z).1, fun j hj => by rw [uM_diff (by omega), e437]; exact (hR.2.1 z).2 j hj⟩, fun z => by
          rw [uM_diff (by omega), e437]
          exact ⟨(hR.2.2 z).1, fun j hj => by rw [uM_diff (by omega), e437]; exact (hR.2.2 z).2 j hj⟩⟩
        by_cases z : ok i m c = true
        · refine ⟨X, ?_, z2⟩
          rw [if_pos z, ← z1]
          unfold J_Mod_mealsBy_65
          rw [y1, bI2_s, if_pos (tst.mpr z), nmM_e, nmI_e, nI_1 i, e437, hR.1]
        · refine ⟨Y, ?_, eY⟩
          rw [if_neg z]
          unfold J_Mod_mealsBy_65
          rw [y1, bI2_s, if_neg (fun q => z (tst.mp q))]
          rfl
      have e1 : ∀ H, B_Mod_mealsBy_10 (nI w) (nI g) (nI n) (nI t) H (nI cnt) (nI i) N = (if dg n w i ≤ nd then (if dg n w i = 0 then J_Mod_mealsBy_65 H (nI w) (nI g) (nI n) (nI t) (nI cnt) (nI i) N else bI (F_Mod_eatsDish (nI g) (nI (dg n w i - 1)) N) (fun M18 => J_Mod_mealsBy_65 H (nI w) (nI g) (nI n) (nI t) (nI (cnt + 1)) (nI i) M18)) else some (-1, N)) := fun H => by
        have e6 : nI w / nI (p6 (n - 1 - i)) - nI w / nI (p6 (n - 1 - i)) / 6 * 6 = nI (dg n w i) := by
          rw [ed, pk_div (by omega) pp (by omega), show (6 : Int32) = nI 6 from rfl, pk_rem wl (by decide) (by decide)]
        unfold B_Mod_mealsBy_10
        rw [if_neg (by rw [nI_leI (by omega) (by omega)]; omega), show nI n - 1 - nI i = nI (n - 1 - i) by rw [show (1 : Int32) = nI 1 from rfl, nI_sub (by omega), nI_sub (by omega)], m_sixes (by omega), bI_s, if_neg (nI_ne0 pp (by omega)), e6, nmI_e, hN.l18, if_neg (nI_in (by omega) (by omega)), nI_clamp (by omega), hN.md]
        by_cases z : dg n w i ≤ nd
        · rw [if_pos z, if_pos (x1.mpr z)]
          by_cases y : dg n w i = 0
          · rw [if_pos y, if_pos (x2.mpr y)]
          · rw [if_neg y, if_neg (fun q => y (x2.mp q)), x4 y]
            simp only [nmI_e, nI_1]
        · rw [if_neg z, if_neg (fun q => z (x1.mp q))]
      show ∃ X, B_Mod_mealsBy_10 (nI w) (nI g) (nI n) (nI t) (H_Mod_mealsBy_10 (nI w) (nI g) (nI n) (nI t) (f + 1 + s)) (nI cnt) (nI i) N = some (oI (if nd < dg n w i then none else if dg n w i = 0 then (if ok i m c = true then mls nd ok (dg n w) s (i + 1) m c cnt else none) else (if ok i i (dg n w i) = true then mls nd ok (dg n w) s (i + 1) i (dg n w i) (cnt + 1) else none)), X) ∧ Eo mQ Mb X
      rw [e1]
      by_cases z : dg n w i ≤ nd
      rotate_left
      · rw [if_neg z, if_pos (show nd < dg n w i by omega)]
        exact ⟨N, rfl, eN⟩
      rw [if_pos z, if_neg (show ¬ nd < dg n w i by omega)]
      by_cases y : dg n w i = 0
      · rw [if_pos y, if_pos y]
        exact look N m c cnt hm hc (by omega) eN hR
      rw [if_neg y, if_neg y]
      obtain ⟨Y, y1, y2, y3, y4, y5⟩ := m_eatsDishR hN (g := g) (d := dg n w i - 1) (by omega) (by omega)
      rw [y1, bI_s]
      exact look Y i (dg n w i) (cnt + 1) (Nat.le_refl _) z (by omega) (eN.tr (y2.mono mEat_mQ)) ⟨y3.trans hR.1, fun q => absurd q y, fun _ => ⟨y4.trans hR.1, fun j hj => by rw [y5 j hj, hR.1, disS_k mN]⟩⟩
  unfold F_Mod_mealsBy
  rw [w1, bI_s]
  obtain ⟨f, hf⟩ := FU_k (1 + n) (by omega)
  rw [hf, ← Nat.add_assoc]
  exact key n 0 f 0 0 0 Mc (by omega) (Nat.le_refl _) (Nat.zero_le _) (Nat.le_refl _) ec ⟨(rc 35 (by omega)).trans hr, fun _ => ⟨rc _ (by omega), fun j hj => rc _ (by omega)⟩, fun z => absurd rfl z⟩
/-- the answer to a menu found -/
def mnS (n : Nat) (o : Option (Nat × Nat)) (x : Option Nat) : Int32 := match o, x with
  | none, none => -2
  | none, some _ => -3
  | some (_, l), none => nI l
  | some (b, _), some i => if dg n b i = 0 then -2 else nI (dg n b i - 1)
def MmMn (o : Option (Nat × Nat)) (v5 v6 : Int32) : Prop := match o with
  | none => v5 = -1
  | some (b, l) => v5 = nI b ∧ v6 = nI l ∧ l ≤ 4
def xI (o : Option Nat) : Int32 := match o with
  | none => -1
  | some i => nI i
theorem m_menuEnd {n : Nat} (hn1 : 1 ≤ n) (hn : n ≤ 4) {g v3 v5 v6 : Int32} {x : Option Nat} (hx : ∀ i, x = some i → i < n) {o : Option (Nat × Nat)} (ho : ∀ b l, o = some (b, l) → b < p6 n) (hM : MmMn o v5 v6) {N : gM} : J_Mod_menu_115 (nI n) (xI x) v5 v6 N = some (mnS n o x, N) := by
  have l6 := p6_4 n (by omega)
  unfold J_Mod_menu_115
  match o, ho, hM with
  | none, _, h =>
    rw [show v5 = -1 from h, if_neg (by decide)]
    match x, hx with
    | none, _ => rw [if_pos (show xI none = -1 from rfl)]; rfl
    | some i, hx =>
      have := hx i rfl
      rw [if_neg (show ¬ xI (some i) = -1 from fun z => nI_pos (n := i) (by omega) (by rw [show nI i = -1 from z]; decide))]
      rfl
  | some (b, l), ho, h =>
    have hb := ho b l rfl
    rw [h.1, if_pos (nI_pos' (by omega))]
    match x, hx with
    | none, _ => rw [if_pos (show xI none = -1 from rfl), h.2.1]; rfl
    | some i, hx =>
      have hi := hx i rfl
      have lp := p6_4 (n - 1 - i) (by omega)
      have pp := p6_pos (n - 1 - i)
      have ed : dg n b i = b / p6 (n - 1 - i) % 6 := by unfold dg dgk; rw [if_pos (by omega)]
      have wl : b / p6 (n - 1 - i) < 2 ^ 31 := Nat.lt_of_le_of_lt (Nat.div_le_self _ _) (by omega)
      have c5 := dg_5 n b i
      obtain ⟨_, x2, x3, x4, _⟩ := ch_n (dg n b i) (by omega) 5 (by omega)
      have e6 : nI b / nI (p6 (n - 1 - i)) - nI b / nI (p6 (n - 1 - i)) / 6 * 6 = nI (dg n b i) := by
        rw [ed, pk_div (by omega) pp (by omega), show (6 : Int32) = nI 6 from rfl, pk_rem wl (by decide) (by decide)]
      rw [if_neg (show ¬ xI (some i) = -1 from fun z => nI_pos (n := i) (by omega) (by rw [show nI i = -1 from z]; decide)), show nI n - 1 - xI (some i) = nI (n - 1 - i) by show nI n - 1 - nI i = _; rw [show (1 : Int32) = nI 1 from rfl, nI_sub (by omega), nI_sub (by omega)], m_sixes (by omega), bI_s, if_neg (nI_ne0 pp (by omega)), e6, nmI_e]
      show _ = some (if dg n b i = 0 then -2 else nI (dg n b i - 1), N)
      by_cases z : dg n b i = 0
      · rw [if_pos z, if_neg (fun q => x3.mp q z)]
      · rw [if_neg z, if_pos (x3.mpr z), x4 z]
theorem bsW_lt {v : Nat → Option Nat} : ∀ w b l, bsW v w = some (b, l) → b < w
  | 0, _, _, h => by cases h
  | w + 1, b, l, h => by
    cases hq : v w with
    | none =>
      rw [bsW_none hq] at h
      have := bsW_lt w b l h
      omega
    | some m =>
      cases hb : bsW v w with
      | none =>
        rw [bsW_first hq hb] at h
        have := (Prod.mk.inj (Option.some.inj h)).1
        omega
      | some p =>
        obtain ⟨b', l'⟩ := p
        rw [bsW_some hq hb] at h
        by_cases z : m < l'
        · rw [if_pos z] at h
          have := (Prod.mk.inj (Option.some.inj h)).1
          omega
        · rw [if_neg z] at h
          have := (Prod.mk.inj (Option.some.inj h)).1
          have := bsW_lt w b' l' hb
          omega
/-- the model's menu -/
theorem m_menu (hL : Lnd ld lv nf nd ng ne Mb) (mb : ∀ c j, 411 ≤ c → c ≤ 432 → Mb c j = M c j) (hLM : Lnd ld lv nf nd ng ne M) (rb : ∀ k, k < 38 → Mb 436 k = r k) {g n t day : Nat} (hg : g < ng) (hn1 : 1 ≤ n) (hn : n ≤ 4) (ht : t < 64) (hr : r 35 = nI day) (hd : day + 4 < 2 ^ 31) {x : Option Nat} (hx : ∀ i, x = some i → i < n) {v : Nat → Option Nat} (hv : v = fun w => mls nd (okM (fun i => oks (fU M lv ne g r i) (nI t)) (fun z x y => oks (fF M lv nf ne g y (day + x) (z - x)) (nI t))) (dg n w) n 0 0 0 0) : ∀ (s w f : Nat) (v5 v6 : Int32) (N : gM), w + s = p6 n → Eo mQ Mb N → MmMn (bsW v w) v5 v6 → ∃ X, H_Mod_menu_61 (nI g) (nI n) (nI t) (xI x) (f + 1 + s) v5 v6 (nI w) N = some (mnS n (bsW v (p6 n)) x, X) := by
  have l6 := p6_4 n (by omega)
  intro s
  induction s with
  | zero =>
    intro w f v5 v6 N hw eN hM
    obtain rfl : w = p6 n := by omega
    refine ⟨N, ?_⟩
    show B_Mod_menu_61 (nI g) (nI n) (nI t) (xI x) (H_Mod_menu_61 (nI g) (nI n) (nI t) (xI x) f) v5 v6 (nI (p6 n)) N = _
    generalize H_Mod_menu_61 (nI g) (nI n) (nI t) (xI x) f = H
    unfold B_Mod_menu_61
    rw [m_sixes (by omega), bI_s, if_pos (by rw [nI_leI (by omega) (by omega)]; omega)]
    exact m_menuEnd hn1 hn (g := nI g) (v3 := 0) hx (fun b l h => bsW_lt _ b l h) hM
  | succ s ih =>
    intro w f v5 v6 N hw eN hM
    obtain ⟨X, y1, y2⟩ := m_mealsBy hL mb hLM rb hg hn ht hr hd (w := w) (by omega) eN
    have ev : mls nd (okM (fun i => oks (fU M lv ne g r i) (nI t)) (fun z x y => oks (fF M lv nf ne g y (day + x) (z - x)) (nI t))) (dg n w) n 0 0 0 0 = v w := by rw [hv]
    rw [ev] at y1
    have h1 := fun v5 v6 => ih (w + 1) f v5 v6 X (by omega) y2
    show ∃ X, B_Mod_menu_61 (nI g) (nI n) (nI t) (xI x) (H_Mod_menu_61 (nI g) (nI n) (nI t) (xI x) (f + 1 + s)) v5 v6 (nI w) N = _
    generalize H_Mod_menu_61 (nI g) (nI n) (nI t) (xI x) (f + 1 + s) = H at h1 ⊢
    unfold B_Mod_menu_61 J_Mod_menu_101 J_Mod_menu_109
    rw [m_sixes (by omega), bI_s, if_neg (by rw [nI_leI (by omega) (by omega)]; omega), y1, bI2_s, nmI_e, nmI_e, nI_1]
    cases hq : v w with
    | none =>
      rw [if_pos (show oI none < 0 by decide)]
      exact h1 v5 v6 (by rw [bsW_none hq]; exact hM)
    | some m =>
      have hm4 : m ≤ 4 := by
        have := mls_le n 0 0 0 0 m (ev.trans hq)
        omega
      rw [if_neg (show ¬ oI (some m) < 0 from nI_pos (by omega))]
      cases hb : bsW v w with
      | none =>
        rw [hb] at hM
        rw [show v5 = -1 from hM, if_pos (by decide)]
        exact h1 (nI w) (nI m) (by rw [bsW_first hq hb]; exact ⟨rfl, rfl, hm4⟩)
      | some p =>
        obtain ⟨b, l⟩ := p
        have hbl := bsW_lt w b l hb
        rw [hb] at hM
        obtain ⟨m1, m2, m3⟩ := hM
        rw [m1, if_neg (nI_pos (by omega)), m2]
        by_cases z : m < l
        · rw [if_pos (show oI (some m) < nI l by show nI m < nI l; rw [nI_ltI (by omega) (by omega)]; exact z)]
          exact h1 (nI w) (nI m) (by rw [bsW_some hq hb, if_pos z]; exact ⟨rfl, rfl, hm4⟩)
        · rw [if_neg (show ¬ oI (some m) < nI l by show ¬ nI m < nI l; rw [nI_ltI (by omega) (by omega)]; exact z)]
          exact h1 (nI b) (nI l) (by rw [bsW_some hq hb, if_neg z]; exact ⟨rfl, rfl, m3⟩)
theorem in_14 (p : Int32) : (F_Mod_in p 1 4 = some 0 ∧ (p < 1 ∨ 4 < p)) ∨ ∃ n, 1 ≤ n ∧ n ≤ 4 ∧ p = nI n ∧ F_Mod_in p 1 4 = some 1 := by
  unfold F_Mod_in
  by_cases a : p < 1
  · rw [if_pos a]; exact Or.inl ⟨rfl, Or.inl a⟩
  by_cases b : 4 < p
  · rw [if_neg a, if_pos b]; exact Or.inl ⟨rfl, Or.inr b⟩
  rw [if_neg a, if_neg b]
  have a' : ¬ p < 0 := fun z => a (Int32.lt_of_lt_of_le z (by decide))
  obtain ⟨n, hn, rfl⟩ := nI_of a'
  refine Or.inr ⟨n, ?_, ?_, rfl, rfl⟩
  · rw [show (1 : Int32) = nI 1 from rfl, nI_ltI hn (by omega)] at a; omega
  · rw [show (4 : Int32) = nI 4 from rfl, nI_ltI (by omega) hn] at b; omega
theorem in_m1 (p : Int32) {n : Nat} (hn1 : 1 ≤ n) (hn : n ≤ 4) : (F_Mod_in p (-1) (nI n - 1) = some 0 ∧ (p < -1 ∨ (¬ p < -1 ∧ ¬ p < nI n))) ∨ ∃ x : Option Nat, p = xI x ∧ (∀ i, x = some i → i < n) ∧ F_Mod_in p (-1) (nI n - 1) = some 1 ∧ ¬ p < -1 ∧ p < nI n := by
  have e1 : (nI n - 1) = nI (n - 1) := by rw [show (1 : Int32) = nI 1 from rfl, nI_sub hn1]
  rw [e1]
  unfold F_Mod_in
  by_cases a : p < -1
  · rw [if_pos a]; exact Or.inl ⟨rfl, Or.inl a⟩
  rw [if_neg a]
  by_cases c : p < 0
  · have e : p = -1 := by
      have h1 : ¬ p.toInt < (-1 : Int32).toInt := fun z => a (i_lt.mpr z)
      have h2 := i_lt.mp c
      refine Int32.toInt_inj.mp ?_
      have h3 : (-1 : Int32).toInt = -1 := by decide
      have h4 : (0 : Int32).toInt = 0 := by decide
      omega
    refine Or.inr ⟨none, e, fun i z => (nomatch z), ?_, a, ?_⟩
    · rw [e, if_neg (fun z => nI_pos (n := n - 1) (by omega) (Int32.lt_trans z (by decide : (-1 : Int32) < 0)))]
    · rw [e]; exact Int32.lt_of_lt_of_le (show (-1 : Int32) < 0 by decide) (nI_pos' (by omega))
  · obtain ⟨i, hi, rfl⟩ := nI_of c
    by_cases b : i < n
    · refine Or.inr ⟨some i, rfl, fun j z => by rw [← Option.some.inj z]; exact b, ?_, a, by rw [nI_ltI hi (by omega)]; exact b⟩
      rw [if_neg (by rw [nI_ltI (by omega) hi]; omega)]
    · refine Or.inl ⟨?_, Or.inr ⟨a, by rw [nI_ltI hi (by omega)]; exact b⟩⟩
      rw [if_pos (by rw [nI_ltI (by omega) hi]; omega)]
theorem c_menuEnd {n : Nat} (hn : n ≤ 4) {x : Option Nat} (hx : ∀ i, x = some i → i < n) {o : Option (Nat × Nat)} {X : gM} (z2 : CstMn n o X) : (if (if o = none then (0 : Int32) else 1) = 0 then (if xI x = (-1) then some ((-2 : Int32), X) else some ((-3), X)) else (if xI x = (-1) then some ((X 396 4), X) else bI (F_Main_at 400 4 (xI x) X) (fun r17 => (if r17 = 0 then some ((-2), X) else some ((r17 - 1), X))))) = some (mnS n o x, X) := by
  have ni : ∀ i, i < n → ¬ xI (some i) = -1 := fun i hi z => nI_pos (n := i) (by omega) (by rw [show nI i = -1 from z]; decide)
  cases o with
  | none =>
    rw [if_pos rfl, if_pos rfl]
    cases x with
    | none => rw [if_pos (show xI none = -1 from rfl)]; rfl
    | some i => rw [if_neg (ni i (hx i rfl))]; rfl
  | some p =>
    obtain ⟨b, l⟩ := p
    rw [if_neg (show ¬ (some (b, l) = (none : Option (Nat × Nat))) from fun z => nomatch z), if_neg (show ¬ (1 : Int32) = 0 by decide)]
    cases x with
    | none => rw [if_pos (show xI none = -1 from rfl), z2.1]; rfl
    | some i =>
      have hi := hx i rfl
      have c5 := dg_5 n b i
      obtain ⟨_, _, _, x4, x5⟩ := ch_n (dg n b i) (by omega) 5 (by omega)
      rw [if_neg (ni i hi), show F_Main_at 400 4 (xI (some i)) X = some (X 400 i) from s_at (i := i) (by omega) (by decide), bI_s, z2.2.2 i (by omega)]
      show (if nI (dg n b i) = 0 then some ((-2 : Int32), X) else some (nI (dg n b i) - 1, X)) = some (if dg n b i = 0 then -2 else nI (dg n b i - 1), X)
      by_cases z : dg n b i = 0
      · rw [if_pos z, if_pos (x5.mpr z)]
      · rw [if_neg z, if_neg (fun q => z (x5.mp q)), x4 z]
theorem v_menu (h : G1 q ld M L) (hq : q < 512) (a b c d : Int32) : ∃ r M1 r' M2, F_Main_menu ld a b c d M = some (r, M1) ∧ F_Mod_menu a b c d M1 = some (r', M2) ∧ G1 (q + 1) ld M2 L ∧ r = r' := by
  obtain ⟨r, M1, e1, -, k1⟩ := tf_Main_menu (p1 := a) (p2 := b) (p3 := c) (p4 := d) (M := M) h.1.la
  have g1 := h.1.kC1 k1
  obtain ⟨r', M2, e2, -, k2⟩ := tf_Mod_menu (p0 := a) (p1 := b) (p2 := c) (p3 := d) g1.inv
  refine ⟨r, M1, r', M2, e1, e2, h.q2 (g1.kM1 k2) k1 k2, ?_⟩
  obtain ⟨lv, nf, nd, ng, ne, hL, hS⟩ := h.get
  obtain ⟨hL1, m1, _⟩ := cop hL k1
  have h5 := hL.nd5
  have h6 := hL.ne6
  have h1 := hL.l1
  unfold F_Main_menu at e1
  unfold F_Mod_menu at e2
  rw [hL.cg, hL.ce] at e1
  rcases m_isGuest hL1 a with ⟨d1, d2⟩ | ⟨g, hg, rfl, d1, d2⟩
  · rw [d1, bI_s, if_pos rfl] at e1
    rw [d2, bI_s, if_pos rfl] at e2
    exact pair_fin e1 e2 rfl
  rw [d1, bI_s, if_neg (by decide)] at e1
  rw [d2, bI_s, if_neg (by decide)] at e2
  rcases in_14 b with ⟨d1, d2⟩ | ⟨n, hn1, hn, rfl, d1⟩
  · rw [d1, bI_s, if_pos rfl] at e2
    rcases d2 with d2 | d2
    · rw [if_pos d2] at e1
      exact pair_fin e1 e2 rfl
    · by_cases z : b < 1
      · rw [if_pos z] at e1
        exact pair_fin e1 e2 rfl
      · rw [if_neg z, if_pos d2] at e1
        exact pair_fin e1 e2 rfl
  obtain ⟨s1, s2⟩ := sh_n ne (by omega)
  rw [d1, bI_s, if_neg (by decide), hL1.l18, if_neg (nI_in (by omega) (by omega)), nI_clamp (by omega), hL1.me, s1] at e2
  rw [if_neg (by rw [show (1 : Int32) = nI 1 from rfl, nI_ltI (by omega) (by omega)]; omega), if_neg (by rw [show (4 : Int32) = nI 4 from rfl, nI_ltI (by omega) (by omega)]; omega), s1] at e1
  rcases one_c2 c (n := 2 ^ ne) (by omega) with ⟨d1, d2⟩ | ⟨t, ht, rfl, d1, d2⟩
  · rw [d1, bI_s, if_pos rfl] at e1
    rw [d2, bI_s, if_pos rfl] at e2
    exact pair_fin e1 e2 rfl
  rw [d1, bI_s, if_neg (by decide)] at e1
  rw [d2, bI_s, if_neg (by decide)] at e2
  rcases in_m1 d hn1 hn with ⟨d1, d2⟩ | ⟨x, rfl, hx, d1, d2, d3⟩
  · rw [d1, bI_s, if_pos rfl] at e2
    rcases d2 with d2 | ⟨d2, d3⟩
    · rw [if_pos d2] at e1
      exact pair_fin e1 e2 rfl
    · rw [if_neg d2, if_neg d3] at e1
      exact pair_fin e1 e2 rfl
  rw [d1, bI_s, if_neg (by decide)] at e2
  rw [if_neg d2, if_pos d3] at e1
  obtain ⟨⟨day, y1, y2, y3, _⟩, _⟩ := id hS.1
  obtain ⟨X, z1, z2⟩ := c_menu hL hS.1 (by omega) (by omega) (t := t) hg hn1 hn y2
  generalize hv : (fun w => mls nd (okM (fun i => oks (fU M lv ne g (M 436) i) (nI t)) (fun z x y => oks (fF M lv nf ne g y (day + x) (z - x)) (nI t))) (dg n w) n 0 0 0 0) = v at z1 z2
  have l6 := p6_4 n (by omega)
  obtain ⟨f, hf⟩ := FU_k (1 + p6 n) (by omega)
  obtain ⟨Y, w1⟩ := m_menu (M := M) hL1 (fun c j p _ => m1 c j (by omega)) hL (r := M 436) (fun k _ => m1 436 k (by omega)) (t := t) hg hn1 hn (by omega) y3 (by omega) hx hv.symm (p6 n) 0 f (-1) 0 M1 (Nat.zero_add _) Eo.rf rfl
  have c2 : H_Mod_menu_61 (nI g) (nI n) (nI t) (xI x) FU (-1) 0 0 M1 = some (mnS n (bsW v (p6 n)) x, Y) := by rw [hf, ← Nat.add_assoc]; exact w1
  rw [c2] at e2
  rw [z1, bI2_s] at e1
  rw [c_menuEnd hn hx z2] at e1
  exact pair_fin e1 e2 rfl
end MM
end PAR56
