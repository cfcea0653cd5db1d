/-! what is asked, first row -/
section PAR40
section QU
variable {D Q q ld lv nf nd ng ne : Nat} {M M1 : gM} {L : gL} {r : Nat → Int32}
theorem C1_hi {c j : Nat} (a : 401 ≤ c) : C1 c j = false := by
  unfold C1
  rw [C0_M (by omega) (by omega)]
  simp only [Bool.false_or, Bool.or_eq_false_iff, Bool.and_eq_false_iff, beq_eq_false_iff_ne, decide_eq_false_iff_not, Bool.not_eq_false', beq_iff_eq]
  omega
/-- behind the class, the model's copy of the row -/
theorem cop (hL : Lnd ld lv nf nd ng ne M) (k1 : Kl C1 M zL M1 zL) : Lnd ld lv nf nd ng ne M1 ∧ (∀ c j, 401 ≤ c → M1 c j = M c j) ∧ ∃ Mc, F_Mod_copies M1 = some Mc ∧ (∀ k, k < 38 → Mc 437 k = M 436 k) ∧ Mc 401 54 = M 423 lv ∧ Lnd ld lv nf nd ng ne Mc ∧ (∀ c j, 411 ≤ c → c ≤ 432 → Mc c j = M c j) := by
  have h1 := hL.k1 k1
  have m1 : ∀ c j, 401 ≤ c → M1 c j = M c j := fun c j a => k1.m (C1_hi a)
  obtain ⟨Mc, x1, x2, x3, x4⟩ := m_copies h1
  exact ⟨h1, m1, Mc, x1, fun k hk => by rw [x2 k hk, m1 436 k (by omega)], by rw [x3, m1 423 _ (by omega)], h1.kQ x4, fun c j a b => by rw [mQ_M x4 c j a b, m1 c j (by omega)]⟩
theorem v_food (h : G1 q ld M L) (hq : q < 512) (a b : Int32) : ∃ r r', F_Main_food ld a b M = some r ∧ F_Mod_food a b M = some r' ∧ G1 (q + 1) ld M L ∧ r = r' := by
  obtain ⟨r, r', e1, e2, _⟩ := g_food h.1 a b
  obtain ⟨lv, nf, nd, ng, ne, hL, hS⟩ := h.get
  refine ⟨r, r', e1, e2, h.up, ?_⟩
  have h6 := hL.nf6
  have h1 := hL.l1
  unfold F_Main_food at e1
  unfold F_Mod_food at e2
  rw [hL.cf] at e1
  rcases m_isFood hL a with ⟨d1, d2⟩ | ⟨f, hf, rfl, d1, d2⟩
  · rw [d1, bI_s, if_pos rfl] at e1
    rw [d2, bI_s, if_pos rfl] at e2
    exact (Option.some.inj e1).symm.trans (Option.some.inj e2)
  rw [d1, bI_s, if_neg (by decide)] at e1
  rw [d2, bI_s, if_neg (by decide), hL.l18] at e2
  by_cases b0 : b = 0
  · obtain ⟨x, _, s2, s3, _⟩ := hS.1.2.2.2.2.2.1 f (by omega)
    rw [if_pos b0, s_at (by omega) (by decide), bI_s, s2] at e1
    rw [if_pos b0, if_neg (nI_in (by omega) (by omega)), nI_clamp (by omega), s3] at e2
    exact (Option.some.inj e1).symm.trans (Option.some.inj e2)
  rw [if_neg b0] at e1 e2
  by_cases b1 : b = 1
  · rw [if_pos b1, s_at (by omega) (by decide), bI_s, hL.pr hf] at e1
    rw [if_pos b1, show (6 : Int32) = nI 6 from rfl, nI_mul, nI_add, if_neg (nI_in (by omega) (by omega)), nI_clamp (by omega)] at e2
    exact (Option.some.inj e1).symm.trans (Option.some.inj e2)
  rw [if_neg b1] at e1 e2
  have br : ∀ j, j < 3 → F_Land_broughtBy ld (nI f) (nI (j + 2) - 2) M = some (M 414 (3 * (6 * lv + f) + j)) := fun j hj => by
    rw [show (2 : Int32) = nI 2 from rfl, nI_sub (by omega), Nat.add_sub_cancel]; exact c_brought hL hf hj
  have mr : ∀ j, j < 3 → (if ((((3 * ((6 * nI lv) + nI f)) + nI (j + 2)) - 2) : Int32) < 0 ∨ 36 ≤ ((((3 * ((6 * nI lv) + nI f)) + nI (j + 2)) - 2) : Int32).toNatClampNeg then none else some (M 414 ((((3 * ((6 * nI lv) + nI f)) + nI (j + 2)) - 2) : Int32).toNatClampNeg)) = some (M 414 (3 * (6 * lv + f) + j)) := fun j hj => by
    rw [show (3 : Int32) = nI 3 from rfl, show (6 : Int32) = nI 6 from rfl, show (2 : Int32) = nI 2 from rfl, nI_mul, nI_add, nI_mul, nI_add, nI_sub (by omega), show 3 * (6 * lv + f) + (j + 2) - 2 = 3 * (6 * lv + f) + j by omega, if_neg (nI_in (by omega) (by omega)), nI_clamp (by omega)]
  by_cases b2 : b = 2
  · rw [if_pos b2, b2, show (2 : Int32) = nI (0 + 2) from rfl, show (nI (0 + 2) - nI (0 + 2)) = nI (0 + 2) - 2 from rfl, br 0 (by decide), bI_s] at e1
    rw [if_pos b2, b2] at e2
    exact (Option.some.inj e1).symm.trans (Option.some.inj ((mr 0 (by decide)).symm.trans e2))
  rw [if_neg b2] at e1 e2
  by_cases b3 : b = 3
  · rw [if_pos b3, b3, show ((3 : Int32) - 2) = nI (1 + 2) - 2 from rfl, br 1 (by decide), bI_s] at e1
    rw [if_pos b3, b3] at e2
    exact (Option.some.inj e1).symm.trans (Option.some.inj ((mr 1 (by decide)).symm.trans e2))
  rw [if_neg b3] at e1 e2
  by_cases b4 : b = 4
  · rw [if_pos b4, b4, show ((4 : Int32) - 2) = nI (2 + 2) - 2 from rfl, br 2 (by decide), bI_s] at e1
    rw [if_pos b4, b4] at e2
    exact (Option.some.inj e1).symm.trans (Option.some.inj ((mr 2 (by decide)).symm.trans e2))
  rw [if_neg b4] at e1 e2
  exact (Option.some.inj e1).symm.trans (Option.some.inj e2)
theorem full_e {b : Nat} (hb : b < 8) : ∀ s0 s1 s2 : Int32, s0 = (if b.testBit 0 then 1 else 0) → s1 = (if b.testBit 1 then 1 else 0) → s2 = (if b.testBit 2 then 1 else 0) → F_Int_bitCount (nI b) = some ((if s0 = 0 then 0 else 1) + (if s1 = 0 then 0 else 1) + (if s2 = 0 then 0 else 1)) := fun s0 s1 s2 e0 e1 e2 => by
  subst e0; subst e1; subst e2
  exact (by decide +kernel : ∀ b, b < 8 → F_Int_bitCount (nI b) = some ((if (if b.testBit 0 then (1 : Int32) else 0) = 0 then 0 else 1) + (if (if b.testBit 1 then (1 : Int32) else 0) = 0 then 0 else 1) + (if (if b.testBit 2 then (1 : Int32) else 0) = 0 then 0 else 1))) b hb
theorem c_allMeals (hS : St D Q nf 64 r M) : F_State_allMeals 64 M = some (r 31 + r 32 + r 33 + r 34) := by
  have hm : ∀ g, g < 4 → M (64 + 4) g = r (31 + g) := fun g hg => by
    obtain ⟨⟨day, d1, d2, d3, d4⟩, _⟩ := hS
    obtain ⟨ml, _, m2, m3, _⟩ := d4 g hg
    rw [m2, m3]
  unfold F_State_allMeals
  obtain ⟨g, hg⟩ := FU_k 5 (by omega)
  have step : ∀ (f k : Nat) (acc : Int32), k < 4 → H_State_allMeals_4 64 M (f + 1) acc (nI k) = H_State_allMeals_4 64 M f (acc + r (31 + k)) (nI (k + 1)) := fun f k acc hk => by
    show B_State_allMeals_4 64 M (H_State_allMeals_4 64 M f) acc (nI k) = _
    unfold B_State_allMeals_4
    rw [show (4 : Int32) = nI 4 from rfl, if_neg (by rw [nI_leI (by omega) (by omega)]; omega), s_at hk (by decide), bI_s, hm k hk, nmI_e, nmI_e, nI_1]
  rw [hg, show (H_State_allMeals_4 64 M (g + 5) 0 0) = H_State_allMeals_4 64 M (g + 4 + 1) 0 (nI 0) from rfl, step (g + 4) 0 0 (by decide), step (g + 3) 1 _ (by decide), step (g + 2) 2 _ (by decide), step (g + 1) 3 _ (by decide)]
  show B_State_allMeals_4 64 M (H_State_allMeals_4 64 M g) _ (nI 4) = _
  unfold B_State_allMeals_4
  rw [if_pos (by decide), Int32.zero_add]
theorem v_count (h : G1 q ld M L) (hq : q < 512) (a : Int32) : ∃ r r', F_Main_count ld a M = some r ∧ F_Mod_count a M = some r' ∧ G1 (q + 1) ld M L ∧ r = r' := by
  obtain ⟨r, r', e1, e2, _⟩ := g_count h.1 a
  obtain ⟨lv, nf, nd, ng, ne, hL, hS⟩ := h.get
  refine ⟨r, r', e1, e2, h.up, ?_⟩
  have h1 := hL.l1
  obtain ⟨hs, ⟨u, nx, p1, p2, p3, p4, p5, p6⟩, hl⟩ := id hS
  obtain ⟨b, n, hT, hQ⟩ := h.1.1
  obtain ⟨k, t1, t2, t3, _⟩ := h.1.2.2.2.2.2.2.2.1
  obtain ⟨sb, sb1, sb2, sb3⟩ := h.1.2.2.2.2.2.2.2.2
  have hgd : ¬ (nI lv < 0 ∨ 2 ≤ (nI lv).toNatClampNeg) := nI_in (by omega) (by omega)
  unfold F_Main_count at e1
  unfold F_Mod_count at e2
  rw [hL.l18] at e2
  have fin : ∀ x y : Int32, some x = some r → some y = some r' → x = y → r = r' := fun x y u1 u2 u3 => by rw [← Option.some.inj u1, ← Option.some.inj u2, u3]
  by_cases c0 : a = 0
  · rw [if_pos c0] at e1 e2; rw [if_neg hgd, nI_clamp (by omega)] at e2
    exact fin _ _ e1 e2 (by rw [hL.cf, hL.mf])
  rw [if_neg c0] at e1 e2
  by_cases c1 : a = 1
  · rw [if_pos c1] at e1 e2; rw [if_neg hgd, nI_clamp (by omega)] at e2
    exact fin _ _ e1 e2 (by rw [hL.cd, hL.md])
  rw [if_neg c1] at e1 e2
  by_cases c2 : a = 2
  · rw [if_pos c2] at e1 e2; rw [if_neg hgd, nI_clamp (by omega)] at e2
    exact fin _ _ e1 e2 (by rw [hL.cg, hL.mg])
  rw [if_neg c2] at e1 e2
  by_cases c3 : a = 3
  · rw [if_pos c3] at e1 e2; rw [if_neg hgd, nI_clamp (by omega)] at e2
    exact fin _ _ e1 e2 (by rw [hL.ce, hL.me])
  rw [if_neg c3] at e1 e2
  by_cases c4 : a = 4
  · rw [if_pos c4] at e1 e2; rw [c4, show ((31 : Int32) + 4) = nI 35 from rfl, if_neg (nI_in (by omega) (by omega)), nI_clamp (by omega)] at e2
    exact fin _ _ e1 e2 hs.d0
  rw [if_neg c4] at e1 e2
  by_cases c5 : a = 5
  · rw [if_pos c5] at e1 e2; rw [c5, show ((31 : Int32) + 5) = nI 36 from rfl, if_neg (nI_in (by omega) (by omega)), nI_clamp (by omega)] at e2
    exact fin _ _ e1 e2 hs.2.1
  rw [if_neg c5] at e1 e2
  by_cases c6 : a = 6
  · rw [if_pos c6] at e1 e2
    exact fin _ _ e1 e2 hs.2.2.2.1
  rw [if_neg c6] at e1 e2
  by_cases c7 : a = 7
  · rw [if_pos c7] at e1 e2
    rw [c7, show ((7 : Int32) - 7) = nI 0 from rfl, s_at (by omega) (by decide), bI_s] at e1
    rw [c7, show ((5 : Int32) + 7) = nI 12 from rfl, if_neg (nI_in (by omega) (by omega)), nI_clamp (by omega)] at e2
    exact fin _ _ e1 e2 (hs.2.2.2.2.1 0 (by decide))
  rw [if_neg c7] at e1 e2
  by_cases c8 : a = 8
  · rw [if_pos c8] at e1 e2
    rw [c8, show ((8 : Int32) - 7) = nI 1 from rfl, s_at (by omega) (by decide), bI_s] at e1
    rw [c8, show ((5 : Int32) + 8) = nI 13 from rfl, if_neg (nI_in (by omega) (by omega)), nI_clamp (by omega)] at e2
    exact fin _ _ e1 e2 (hs.2.2.2.2.1 1 (by decide))
  rw [if_neg c8] at e1 e2
  by_cases c9 : a = 9
  · rw [if_pos c9] at e1 e2
    rw [c9, show ((9 : Int32) - 7) = nI 2 from rfl, s_at (by omega) (by decide), bI_s] at e1
    rw [c9, show ((5 : Int32) + 9) = nI 14 from rfl, if_neg (nI_in (by omega) (by omega)), nI_clamp (by omega)] at e2
    exact fin _ _ e1 e2 (hs.2.2.2.2.1 2 (by decide))
  rw [if_neg c9] at e1 e2
  by_cases c10 : a = 10
  · rw [if_pos c10] at e1 e2
    exact fin _ _ e1 e2 (by rw [hT.1, hQ.1])
  rw [if_neg c10] at e1 e2
  by_cases c11 : a = 11
  · rw [if_pos c11] at e1 e2
    exact fin _ _ e1 e2 (by rw [p3, p4])
  rw [if_neg c11] at e1 e2
  by_cases c12 : a = 12
  · rw [if_pos c12] at e1 e2
    exact fin _ _ e1 e2 (by rw [t2, t3])
  rw [if_neg c12] at e1 e2
  by_cases c13 : a = 13
  · rw [if_pos c13] at e1 e2
    unfold F_Slots_full at e1
    rw [sb2, full_e sb1 (M 445 0) (M 445 1) (M 445 2) (sb3 0 (by decide)) (sb3 1 (by decide)) (sb3 2 (by decide)), bI_s, bI_s] at e1
    unfold J_Mod_count_176 J_Mod_count_190 at e2
    refine fin ((if M 445 0 = 0 then 0 else 1) + (if M 445 1 = 0 then 0 else 1) + (if M 445 2 = 0 then 0 else 1)) ((if M 445 0 = 0 then 0 else 1) + (if M 445 1 = 0 then 0 else 1) + (if M 445 2 = 0 then 0 else 1)) e1 (Eq.trans ?_ e2) rfl
    by_cases w0 : M 445 0 = 0
    · rw [if_pos w0, if_pos w0]
      by_cases w1 : M 445 1 = 0
      · rw [if_pos w1, if_pos w1]
        by_cases w2 : M 445 2 = 0
        · rw [if_pos w2, if_pos w2]
        · rw [if_neg w2, if_neg w2]
      · rw [if_neg w1, if_neg w1]
        by_cases w2 : M 445 2 = 0
        · rw [if_pos w2, if_pos w2]
        · rw [if_neg w2, if_neg w2]
    · rw [if_neg w0, if_neg w0]
      by_cases w1 : M 445 1 = 0
      · rw [if_pos w1, if_pos w1]
        by_cases w2 : M 445 2 = 0
        · rw [if_pos w2, if_pos w2]
        · rw [if_neg w2, if_neg w2]
      · rw [if_neg w1, if_neg w1]
        by_cases w2 : M 445 2 = 0
        · rw [if_pos w2, if_pos w2]
        · rw [if_neg w2, if_neg w2]
  rw [if_neg c13] at e1 e2
  by_cases c14 : a = 14
  · rw [if_pos c14] at e1 e2
    exact fin _ _ e1 e2 hs.2.2.1
  rw [if_neg c14] at e1 e2
  by_cases c15 : a = 15
  · rw [if_pos c15] at e1 e2
    rw [c_allMeals hs, bI_s] at e1
    exact fin _ _ e1 e2 rfl
  rw [if_neg c15] at e1 e2
  exact fin _ _ e1 e2 rfl
theorem pair_fin {x y r r' : Int32} {X Y M1 M2 : gM} (u1 : some (x, X) = some (r, M1)) (u2 : some (y, Y) = some (r', M2)) (e : x = y) : r = r' := by
  rw [← (Prod.mk.inj (Option.some.inj u1)).1, ← (Prod.mk.inj (Option.some.inj u2)).1, e]
theorem v_dish (h : G1 q ld M L) (hq : q < 512) (a b : Int32) : ∃ r M1 r' M2, F_Main_dish ld a b M = some (r, M1) ∧ F_Mod_dish a b M1 = some (r', M2) ∧ G1 (q + 1) ld M2 L ∧ r = r' := by
  obtain ⟨r, M1, e1, -, k1⟩ := tf_Main_dish (p1 := a) (p2 := b) (M := M) h.1.la
  have g1 := h.1.kC0 k1
  obtain ⟨r', M2, e2, -, k2⟩ := tf_Mod_dish (p0 := a) (p1 := b) g1.inv
  refine ⟨r, M1, r', M2, e1, e2, h.q2 (g1.kM1 k2) (k1.mono C0_C1) k2, ?_⟩
  obtain ⟨lv, nf, nd, ng, ne, hL, hS⟩ := h.get
  obtain ⟨hL1, m1, Mc, x1, x2, x3, hLc, mc⟩ := cop hL (k1.mono C0_C1)
  have h6 := hL.nf6
  have h5 := hL.nd5
  have h1 := hL.l1
  unfold F_Main_dish at e1
  unfold F_Mod_dish at e2
  rw [hL.cd] at e1
  rcases m_isDish hL1 a with ⟨d1, d2⟩ | ⟨d, hd, rfl, d1, d2⟩
  · rw [d1, bI_s, if_pos rfl] at e1
    rw [d2, bI_s, if_pos rfl] at e2
    exact pair_fin e1 e2 rfl
  rw [d1, bI_s, if_neg (by decide)] at e1
  rw [d2, bI_s, if_neg (by decide), x1, bI_s, m_fillsPot hLc hd, bI_s] at e2
  have f7 : Eo mQ Mc (fl Mc 438 0 6 (potD Mc lv nf d)) := fun c j w => fl_out (by unfold mQ at w; omega)
  have hp7 : ∀ i, i < 6 → fl Mc 438 0 6 (potD Mc lv nf d) 438 i = potD Mc lv nf d i := fun i hi => by rw [fl_in (by omega), Nat.sub_zero]
  have r7 : ∀ k, k < 38 → fl Mc 438 0 6 (potD Mc lv nf d) 437 k = M 436 k := fun k hk => by rw [fl_out (by omega)]; exact x2 k hk
  generalize fl Mc 438 0 6 (potD Mc lv nf d) = N at f7 hp7 r7 e2
  have hN := hLc.kQ f7
  have mN : ∀ c j, 411 ≤ c → c ≤ 432 → N c j = M c j := fun c j a b => (mQ_M f7 c j a b).trans (mc c j a b)
  have hpN : ∀ i, i < 6 → N 438 i = potD N lv nf d i := fun i hi => by
    rw [hp7 i hi]
    unfold potD
    rw [mQ_M f7 417 _ (by decide) (by decide)]
  have hPot : Pot N lv nf d none := fun i hi => by rw [hpN i hi, if_neg (by simp)]
  rw [hN.l18] at e2
  have gd : ¬ ((5 : Int32) * nI lv + nI d < 0 ∨ 10 ≤ ((5 : Int32) * nI lv + nI d).toNatClampNeg) := by rw [show (5 : Int32) = nI 5 from rfl, nI_mul, nI_add]; exact nI_in (by omega) (by omega)
  have gc : ((5 : Int32) * nI lv + nI d).toNatClampNeg = 5 * lv + d := by rw [show (5 : Int32) = nI 5 from rfl, nI_mul, nI_add, nI_clamp (by omega)]
  by_cases b0 : b = 0
  · rw [if_pos b0, s_at (by omega) (by decide), bI_s] at e1
    rw [if_pos b0, if_neg gd, gc] at e2
    exact pair_fin e1 e2 (by rw [hL.htE hd, mN 416 _ (by decide) (by decide)])
  rw [if_neg b0] at e1 e2
  by_cases b1 : b = 1
  · rw [if_pos b1, c_manyIn hL hd, bI_s] at e1
    rw [if_pos b1, m_potMany, bI_s] at e2
    exact pair_fin e1 e2 (by rw [potD_man hpN h6, manS_k mN])
  rw [if_neg b1] at e1 e2
  by_cases b2 : b = 2
  · rw [if_pos b2, c_priceOf hL hd, bI_s] at e1
    rw [if_pos b2, m_potPrice hN, bI_s] at e2
    exact pair_fin e1 e2 (by rw [potD_pri hpN h6, priS_k mN])
  rw [if_neg b2] at e1 e2
  have cf : ∀ j, j < 3 → ∃ X, F_Land_dishForce ld (nI d) (-2) (nI j) (M 64 0) M = some (disS M lv nf d none j (M 64 0), X) := fun j hj => by
    obtain ⟨X, y1, _⟩ := c_dishForce hL (d := d) (j := j) (more := none) (day := M 64 0) hd hj (fun f w => by cases w)
    exact ⟨X, y1⟩
  have mf : ∀ j, j < 3 → ∃ X, F_Mod_forceBy (nI j) (N 416 (5 * lv + d)) N = some (disS M lv nf d none j (M 64 0), X) := fun j hj => by
    obtain ⟨X, y1, _⟩ := hPot.force hN (j := j) (fun f w => by cases w) hj
    rw [disS_k mN, r7 35 (by omega), ← hS.1.d0] at y1
    exact ⟨X, y1⟩
  by_cases b3 : b = 3
  · obtain ⟨X, y1⟩ := cf 0 (by decide)
    obtain ⟨Y, y2⟩ := mf 0 (by decide)
    rw [if_pos b3, b3, show ((3 : Int32) - 3) = nI 0 from rfl, y1, bI2_s] at e1
    rw [if_pos b3, if_neg gd, gc, b3, show ((3 : Int32) - 3) = nI 0 from rfl, y2, bI2_s] at e2
    exact pair_fin e1 e2 rfl
  rw [if_neg b3] at e1 e2
  by_cases b4 : b = 4
  · obtain ⟨X, y1⟩ := cf 1 (by decide)
    obtain ⟨Y, y2⟩ := mf 1 (by decide)
    rw [if_pos b4, b4, show ((4 : Int32) - 3) = nI 1 from rfl, y1, bI2_s] at e1
    rw [if_pos b4, if_neg gd, gc, b4, show ((4 : Int32) - 3) = nI 1 from rfl, y2, bI2_s] at e2
    exact pair_fin e1 e2 rfl
  rw [if_neg b4] at e1 e2
  by_cases b5 : b = 5
  · obtain ⟨X, y1⟩ := cf 2 (by decide)
    obtain ⟨Y, y2⟩ := mf 2 (by decide)
    rw [if_pos b5, b5, show ((5 : Int32) - 3) = nI 2 from rfl, y1, bI2_s] at e1
    rw [if_pos b5, if_neg gd, gc, b5, show ((5 : Int32) - 3) = nI 2 from rfl, y2, bI2_s] at e2
    exact pair_fin e1 e2 rfl
  rw [if_neg b5] at e1 e2
  by_cases b6 : b = 6
  · rw [if_pos b6, s_at (by omega) (by decide), bI_s] at e1
    rw [if_pos b6, show (6 : Int32) = nI 6 from rfl, nI_add, if_neg (nI_in (by omega) (by omega)), nI_clamp (by omega)] at e2
    exact pair_fin e1 e2 (by rw [r7 _ (by omega)]; exact hS.1.2.2.2.2.2.2.1 d (by omega))
  rw [if_neg b6] at e1 e2
  exact pair_fin e1 e2 rfl
theorem v_guest (h : G1 q ld M L) (hq : q < 512) (a b : Int32) : ∃ r M1 r' M2, F_Main_guest ld a b M = some (r, M1) ∧ F_Mod_guest a b M1 = some (r', M2) ∧ G1 (q + 1) ld M2 L ∧ r = r' := by
  obtain ⟨r, M1, e1, -, k1⟩ := tf_Main_guest (p1 := a) (p2 := b) (M := M) h.1.la
  have g1 := h.1.kC0 k1
  obtain ⟨r', M2, e2, -, k2⟩ := tf_Mod_guest (p0 := a) (p1 := b) g1.inv
  refine ⟨r, M1, r', M2, e1, e2, h.q2 (g1.kM1 k2) (k1.mono C0_C1) k2, ?_⟩
  obtain ⟨lv, nf, nd, ng, ne, hL, hS⟩ := h.get
  obtain ⟨hL1, m1, Mc, x1, x2, x3, hLc, mc⟩ := cop hL (k1.mono C0_C1)
  have h4 := hL.ng4
  have h1 := hL.l1
  unfold F_Main_guest at e1
  unfold F_Mod_guest at e2
  rw [hL.cg] at e1
  rcases m_isGuest hL1 a with ⟨d1, d2⟩ | ⟨g, hg, rfl, d1, d2⟩
  · rw [d1, bI_s, if_pos rfl] at e1
    rw [d2, bI_s, if_pos rfl] at e2
    exact pair_fin e1 e2 rfl
  rw [d1, bI_s, if_neg (by decide)] at e1
  rw [d2, bI_s, if_neg (by decide), x1, bI_s, hLc.l18] at e2
  obtain ⟨⟨day, dd1, dd2, dd3, dd4⟩, s1, s2, s3, s4, s5, s6, s7⟩ := id hS.1
  obtain ⟨ml, n1, n2, n3, n4⟩ := dd4 g (by omega)
  by_cases b0 : b = 0
  · rw [if_pos b0, s_at (by omega) (by decide), bI_s] at e1
    rw [if_pos b0, show (4 : Int32) = nI 4 from rfl, nI_mul, nI_add, if_neg (nI_in (by omega) (by omega)), nI_clamp (by omega)] at e2
    exact pair_fin e1 e2 (by rw [hL.pa hg, mc 419 _ (by decide) (by decide)])
  rw [if_neg b0] at e1 e2
  by_cases b1 : b = 1
  · rw [if_pos b1, c_hasEaten hS.1 (by omega) (by omega) (by omega), bI_s] at e1
    rw [if_pos b1, show (15 : Int32) = nI 15 from rfl, nI_add, if_neg (nI_in (by omega) (by omega)), nI_clamp (by omega), x2 _ (by omega)] at e2
    by_cases w : 0 ≤ M 436 (15 + g)
    · unfold F_State_agoOf at e1
      rw [if_pos w, if_neg (by decide), s_at (by omega) (by decide), bI_s, bI_s] at e1
      rw [if_pos w, if_neg (not_or.mpr ⟨nI_pos (by omega), by omega⟩), x2 _ (by omega)] at e2
      refine pair_fin e1 e2 ?_
      have e5 : M (64 + 5) g = M 436 (15 + g) := by
        rcases n4 with ⟨_, m6⟩ | ⟨_, e, _, m7, m8⟩
        · rw [m6] at w; exact absurd w (by decide)
        · rw [m7, m8]
      rw [e5, hS.1.d0]
    · rw [if_neg w, if_pos rfl] at e1
      rw [if_neg w] at e2
      exact pair_fin e1 e2 rfl
  rw [if_neg b1] at e1 e2
  by_cases b2 : b = 2
  · rw [if_pos b2, s_at (by omega) (by decide), bI_s] at e1
    rw [if_pos b2, show (31 : Int32) = nI 31 from rfl, nI_add, if_neg (nI_in (by omega) (by omega)), nI_clamp (by omega)] at e2
    exact pair_fin e1 e2 (by rw [x2 _ (by omega), n2, n3])
  rw [if_neg b2] at e1 e2
  have cf : ∀ j, j < 3 → ∃ X, F_State_boundOf 64 ld (nI g) (nI j) 0 M = some (bowS M lv (M 436) g j 0, X) := fun j hj => by
    obtain ⟨X, y1, _⟩ := c_boundOf hL hS.1 (by omega) (by omega) (g := g) (j := j) (ahead := 0) hg hj
    exact ⟨X, y1⟩
  have mf : ∀ j, j < 3 → ∃ X, F_Mod_boundNow (nI g) (nI j) Mc = some (bowS M lv (M 436) g j 0, X) := fun j hj => by
    obtain ⟨X, y1, _⟩ := m_boundNow hLc (g := g) (j := j) (by omega) hj
    rw [bowS_k mc, bowS_r (by omega) hj x2] at y1
    exact ⟨X, y1⟩
  by_cases b3 : b = 3
  · obtain ⟨X, y1⟩ := cf 0 (by decide)
    obtain ⟨Y, y2⟩ := mf 0 (by decide)
    rw [if_pos b3, b3, show ((3 : Int32) - 3) = nI 0 from rfl, y1, bI2_s] at e1
    rw [if_pos b3, b3, show ((3 : Int32) - 3) = nI 0 from rfl, y2, bI2_s] at e2
    exact pair_fin e1 e2 rfl
  rw [if_neg b3] at e1 e2
  by_cases b4 : b = 4
  · obtain ⟨X, y1⟩ := cf 1 (by decide)
    obtain ⟨Y, y2⟩ := mf 1 (by decide)
    rw [if_pos b4, b4, show ((4 : Int32) - 3) = nI 1 from rfl, y1, bI2_s] at e1
    rw [if_pos b4, b4, show ((4 : Int32) - 3) = nI 1 from rfl, y2, bI2_s] at e2
    exact pair_fin e1 e2 rfl
  rw [if_neg b4] at e1 e2
  by_cases b5 : b = 5
  · obtain ⟨X, y1⟩ := cf 2 (by decide)
    obtain ⟨Y, y2⟩ := mf 2 (by decide)
    rw [if_pos b5, b5, show ((5 : Int32) - 3) = nI 2 from rfl, y1, bI2_s] at e1
    rw [if_pos b5, b5, show ((5 : Int32) - 3) = nI 2 from rfl, y2, bI2_s] at e2
    exact pair_fin e1 e2 rfl
  rw [if_neg b5] at e1 e2
  exact pair_fin e1 e2 rfl
/-! a new object, both halves -/
theorem VZ_start : VZ M00 := fun c j hc hj => by
  have h1 := vz_va hc
  unfold vaC at h1
  have key : ∀ c, (c = 23 ∨ c = 27 ∨ c = 31 ∨ c = 35 ∨ c = 49 ∨ c = 53 ∨ c = 57 ∨ c = 61) → ∀ j, j < 9 → M00 c j = 0 := fun c hc => by
    rcases hc with e | e | e | e | e | e | e | e <;> subst e <;> decide +kernel
  exact key c h1 j hj
theorem St_start : St 0 0 0 64 (M00 436) M00 := by
  refine ⟨⟨0, by decide, by decide +kernel, by decide +kernel, fun g hg => ⟨0, by decide, ?_, ?_, Or.inl ⟨rfl, ?_⟩⟩⟩, by decide +kernel, by decide +kernel, by decide +kernel, fun j hj => ?_, fun f hf => ⟨0, by decide, ?_, ?_, fun _ => rfl⟩, fun d hd => ?_, fun i hi => ?_⟩
  · exact (by decide +kernel : ∀ g, g < 4 → M00 (64 + 4) g = nI 0) g hg
  · exact (by decide +kernel : ∀ g, g < 4 → M00 436 (31 + g) = nI 0) g hg
  · exact (by decide +kernel : ∀ g, g < 4 → M00 436 (15 + g) = -2) g hg
  · exact (by decide +kernel : ∀ j, j < 3 → M00 (64 + 1) j = M00 436 (12 + j)) j hj
  · exact (by decide +kernel : ∀ f, f < 6 → M00 (64 + 2) f = nI 0) f hf
  · exact (by decide +kernel : ∀ f, f < 6 → M00 436 f = nI 0) f hf
  · exact (by decide +kernel : ∀ d, d < 5 → M00 (64 + 3) d = M00 436 (6 + d)) d hd
  · exact (by decide +kernel : ∀ i, i < 12 → M00 (64 + 6) i = M00 436 (19 + i)) i hi
theorem G1_start : G1 0 12 M00 L00 := ⟨G0_start, VZ_start, 0, by decide, by decide +kernel, St_start, ⟨0, 0, by decide, by decide, by decide +kernel, by decide +kernel, by decide +kernel, fun i hi => absurd hi (Nat.not_lt_zero _)⟩, fun s hs e => by
  rw [(by decide +kernel : ∀ s, s < 3 → M00 445 s = 0) s hs] at e
  exact absurd e (by decide)⟩
end QU
end PAR40
