/-! freest, supper, feud: what a dish would set free -/
section PAR44
section FB
variable {D Q q ld lv nf nd ng ne : Nat} {M M' M1 Mc : gM} {L : gL} {r : Nat → Int32}
theorem c_dishForce9 (h : Lnd ld lv nf nd ng ne M) {d j : Nat} {day : Int32} (hd : d < nd) (hj : j < 3) : ∃ M', F_Land_dishForce ld (nI d) (-2) (nI j) day M = some (disS M lv nf d none j day, M') ∧ Kl C9 M zL M' zL := by
  obtain ⟨X, y1, _⟩ := c_dishForce h (d := d) (j := j) (more := none) (day := day) hd hj (fun f w => by cases w)
  obtain ⟨_, X', z1, -, z2⟩ := tz_Land_dishForce (p1 := nI d) (p2 := -2) (p3 := nI j) (p4 := day) (M := M) h.la
  have e := (Prod.mk.inj (Option.some.inj (z1.symm.trans (show F_Land_dishForce ld (nI d) (-2) (nI j) day M = _ from y1)))).2
  exact ⟨X, y1, by rw [← e]; exact z2⟩
theorem c_boundBy9 (h : Lnd ld lv nf nd ng ne M) {g : Nat} {kind ate ago day : Int32} (hg : g < ng) : ∃ M', F_Land_boundBy ld (nI g) kind ate ago day M = some (bndS M lv g kind ate ago day, M') ∧ Kl C9 M zL M' zL := by
  obtain ⟨X, y1, _⟩ := c_boundBy h (g := g) (kind := kind) (ate := ate) (ago := ago) (day := day) hg
  obtain ⟨_, X', z1, -, z2⟩ := tz_Land_boundBy (p1 := nI g) (p2 := kind) (p3 := ate) (p4 := ago) (p5 := day) (M := M) h.la
  have e := (Prod.mk.inj (Option.some.inj (z1.symm.trans y1))).2
  exact ⟨X, y1, by rw [← e]; exact z2⟩
/-- a guest who has just eaten a dish: by how much bound -/
def eatB (M : gM) (lv nf g d : Nat) (day : Int32) (j : Nat) : Int32 := bndS M lv g (nI j) (disS M lv nf d none j day) 0 day
theorem eatB_k (e : ∀ c j, 411 ≤ c → c ≤ 432 → M' c j = M c j) {g d j : Nat} {day : Int32} : eatB M' lv nf g d day j = eatB M lv nf g d day j := by
  unfold eatB; rw [bndS_k e, disS_k e]
theorem k9_25 (hla : isLa ld) (k : Kl C9 M zL M' zL) {j : Nat} : M' (ld + 25) j = M (ld + 25) j := k.m (C9_25 hla)
/-- first loop: the forces into the row -/
theorem fb1 (hL : Lnd ld lv nf nd ng ne M) {g d : Nat} {day v4 : Int32} (hd : d < nd) : ∀ (s k f : Nat) (N : gM), k + s = 3 → Kl C0 M zL N zL → (∀ j, j < k → N (ld + 25) j = disS M lv nf d none j day) →
    ∃ N', H_Land_freeByDish_3 ld (nI g) (nI d) day v4 (f + 1 + s) (nI k) N = J_Land_freeByDish_34 ld (nI g) day v4 N' ∧ Kl C0 M zL N' zL ∧ (∀ j, j < 3 → N' (ld + 25) j = disS M lv nf d none j day) := by
  intro s
  induction s with
  | zero =>
    intro k f N hk kN e
    obtain rfl : k = 3 := by omega
    refine ⟨N, ?_, kN, e⟩
    show B_Land_freeByDish_3 ld (nI g) (nI d) day v4 (H_Land_freeByDish_3 ld (nI g) (nI d) day v4 f) (nI 3) N = _
    unfold B_Land_freeByDish_3
    rw [if_pos (by decide)]
  | succ s ih =>
    intro k f N hk kN e
    have hN := hL.k0 kN
    obtain ⟨X, y1, y2⟩ := c_dishForce9 hN (d := d) (j := k) (day := day) hd (by omega)
    rw [disS_k (k0_M kN)] at y1
    have kX : Kl C0 M zL (uM X (ld + 25) k (disS M lv nf d none k day)) zL := Kl.wM (kN.trans (y2.mono C9_C0)) (C0_La_25 hL.la k) rfl
    obtain ⟨N', z1, z2, z3⟩ := ih (k + 1) f (uM X (ld + 25) k (disS M lv nf d none k day)) (by omega) kX (fun j hj => by
      by_cases w : j = k
      · rw [w, uM_same]
      · rw [uM_diff (by omega), k9_25 hL.la y2]; exact e j (by omega))
    refine ⟨N', ?_, z2, z3⟩
    rw [← z1]
    show B_Land_freeByDish_3 ld (nI g) (nI d) day v4 (H_Land_freeByDish_3 ld (nI g) (nI d) day v4 (f + 1 + s)) (nI k) N = _
    unfold B_Land_freeByDish_3
    rw [show (3 : Int32) = nI 3 from rfl, if_neg (by rw [nI_leI (by omega) (by omega)]; omega), y1, bI2_s, s_put (by omega) (by decide), bI_s, nmI_e, nI_1]
theorem c_freeBehind (hL : Lnd ld lv nf nd ng ne M) {g d : Nat} (hg : g < ng) (hd : d < nd) : ∃ X, F_Main_freeBehind ld (nI g) (nI d) M = some (frS M lv (eatB M lv nf g d (M 64 0)) ne, X) ∧ Kl C0 M zL X zL := by
  obtain ⟨q, hq⟩ := FU_k (1 + 3) (by omega)
  obtain ⟨N, y1, y2, y3⟩ := fb1 hL (g := g) (d := d) (day := M 64 0) (v4 := 0) hd 3 0 q M (by omega) Kl.rf (fun j hj => absurd hj (Nat.not_lt_zero _))
  have c1 : F_Land_freeByDish ld (nI g) (nI d) (M 64 0) 0 M = J_Land_freeByDish_34 ld (nI g) (M 64 0) 0 N := by
    unfold F_Land_freeByDish
    rw [hq, ← Nat.add_assoc]
    exact y1
  have step : ∀ (N1 : gM) (f k : Nat) (acc : Int32), k < 3 → Kl C9 N zL N1 zL → ∃ N', H_Land_freeByDish_40 ld (nI g) (M 64 0) 0 (f + 1) acc (nI k) N1 = H_Land_freeByDish_40 ld (nI g) (M 64 0) 0 f (acc ||| frK M lv k (eatB M lv nf g d (M 64 0) k) ne) (nI (k + 1)) N' ∧ Kl C9 N zL N' zL := fun N1 f k acc hk k1 => by
    have kM1 := y2.trans (k1.mono C9_C0)
    have h1 := hL.k0 kM1
    obtain ⟨X, z1, z2⟩ := c_boundBy9 h1 (g := g) (kind := nI k) (ate := disS M lv nf d none k (M 64 0)) (ago := 0) (day := M 64 0 + 0) hg
    have hX := h1.k0 (z2.mono C9_C0)
    refine ⟨X, ?_, k1.trans z2⟩
    show B_Land_freeByDish_40 ld (nI g) (M 64 0) 0 (H_Land_freeByDish_40 ld (nI g) (M 64 0) 0 f) acc (nI k) N1 = _
    unfold B_Land_freeByDish_40
    rw [bndS_k (k0_M kM1), Int32.add_zero] at z1
    rw [show (3 : Int32) = nI 3 from rfl, if_neg (by rw [nI_leI (by omega) (by omega)]; omega), s_at (by omega) (by decide), bI_s, k9_25 hL.la k1, y3 k hk, Int32.add_zero, z1, bI2_s, c_freeUnder hX hk, bI_s, nmI_e, nmI_e, nI_1, frK_k (k0_M (kM1.trans (z2.mono C9_C0)))]
    rfl
  obtain ⟨q4, hq4⟩ := FU_k 4 (by omega)
  obtain ⟨N1, a1, k1⟩ := step N (q4 + 3) 0 0 (by decide) Kl.rf
  obtain ⟨N2, a2, k2⟩ := step N1 (q4 + 2) 1 (0 ||| frK M lv 0 (eatB M lv nf g d (M 64 0) 0) ne) (by decide) k1
  obtain ⟨N3, a3, k3⟩ := step N2 (q4 + 1) 2 (0 ||| frK M lv 0 (eatB M lv nf g d (M 64 0) 0) ne ||| frK M lv 1 (eatB M lv nf g d (M 64 0) 1) ne) (by decide) k2
  have c2 : J_Land_freeByDish_34 ld (nI g) (M 64 0) 0 N = some (frS M lv (eatB M lv nf g d (M 64 0)) ne, N3) := by
    unfold J_Land_freeByDish_34
    rw [hq4, show (H_Land_freeByDish_40 ld (nI g) (M 64 0) 0 (q4 + 4) 0 0 N) = H_Land_freeByDish_40 ld (nI g) (M 64 0) 0 (q4 + 3 + 1) 0 (nI 0) N from rfl, a1, a2, a3]
    show B_Land_freeByDish_40 ld (nI g) (M 64 0) 0 (H_Land_freeByDish_40 ld (nI g) (M 64 0) 0 q4) _ (nI 3) N3 = _
    unfold B_Land_freeByDish_40
    rw [if_pos (by decide), fr3 hL (b := eatB M lv nf g d (M 64 0)) ne (Nat.le_refl _)]
  refine ⟨N3, ?_, y2.trans (k3.mono C9_C0)⟩
  unfold F_Main_freeBehind
  rw [c1, c2, bI2_s]
def mEat (c j : Nat) : Prop := mQ c j ∧ ¬ (c = 401 ∧ j = 63)
theorem mEat_mQ : ∀ c j, mEat c j → mQ c j := fun _ _ h => h.1
theorem mV_mEat : ∀ c j, mV c j → mEat c j := fun c j h => ⟨mV_mQ c j h, by unfold mV at h; omega⟩
/-- the model's guest eats a dish -/
theorem m_eatsDish (h : Lnd ld lv nf nd ng ne M) {g d : Nat} (hg : g < 4) (hd : d < nd) (hday : ∃ day, day < 2 ^ 31 ∧ M 437 35 = nI day) : ∃ M', F_Mod_eatsDish (nI g) (nI d) M = some M' ∧ Eo mEat M M' ∧ ∀ j, j < 3 → bowS M' lv (M' 437) g j 0 = eatB M lv nf g d (M 437 35) j := by
  have h5 := h.nd5
  have h1 := h.l1
  unfold F_Mod_eatsDish
  rw [m_fillsPot h hd, bI_s]
  have f7 : Eo mEat M (fl M 438 0 6 (potD M lv nf d)) := fun c j w => fl_out (by unfold mEat mQ at w; omega)
  have hp7 : ∀ i, i < 6 → fl M 438 0 6 (potD M lv nf d) 438 i = potD M lv nf d i := fun i hi => by rw [fl_in (by omega), Nat.sub_zero]
  have r7 : ∀ k, fl M 438 0 6 (potD M lv nf d) 437 k = M 437 k := fun k => fl_out (by omega)
  generalize fl M 438 0 6 (potD M lv nf d) = N at f7 hp7 r7 ⊢
  rw [show (15 : Int32) = nI 15 from rfl, nI_add, if_neg (nI_in (by omega) (by omega)), nI_clamp (by omega), nmM_e, r7 35]
  have fA : Eo mEat M (uM N 437 (15 + g) (M 437 35)) := f7.u (by unfold mEat mQ; omega)
  have pA : ∀ i, i < 6 → uM N 437 (15 + g) (M 437 35) 438 i = potD M lv nf d i := fun i hi => by rw [uM_diff (by omega)]; exact hp7 i hi
  have rA : uM N 437 (15 + g) (M 437 35) 437 35 = M 437 35 := by rw [uM_diff (by omega)]; exact r7 35
  have rB : uM N 437 (15 + g) (M 437 35) 437 (15 + g) = M 437 35 := uM_same
  generalize uM N 437 (15 + g) (M 437 35) = A at fA pA rA rB ⊢
  have key : ∀ (s k f : Nat) (N : gM), k + s = 3 → Eo mEat M N → (∀ i, i < 6 → N 438 i = potD M lv nf d i) → N 437 35 = M 437 35 → N 437 (15 + g) = M 437 35 → (∀ j, j < k → N 437 (19 + 3 * g + j) = disS M lv nf d none j (M 437 35)) → ∃ N', H_Mod_eatsDish_23 (nI g) (nI d) (f + 1 + s) (nI k) N = some N' ∧ Eo mEat M N' ∧ N' 437 35 = M 437 35 ∧ N' 437 (15 + g) = M 437 35 ∧ (∀ j, j < 3 → N' 437 (19 + 3 * g + j) = disS M lv nf d none j (M 437 35)) := by
    intro s
    induction s with
    | zero =>
      intro k f N hk a1 a2 a3 a4 a5
      obtain rfl : k = 3 := by omega
      refine ⟨N, ?_, a1, a3, a4, a5⟩
      show B_Mod_eatsDish_23 (nI g) (nI d) (H_Mod_eatsDish_23 (nI g) (nI d) f) (nI 3) N = _
      unfold B_Mod_eatsDish_23
      rw [if_pos (by decide)]
    | succ s ih =>
      intro k f N hk a1 a2 a3 a4 a5
      have hN := h.kQ (a1.mono mEat_mQ)
      have mN := mQ_M (a1.mono mEat_mQ)
      have hPot : Pot N lv nf d none := fun i hi => by
        rw [a2 i hi, if_neg (by simp)]
        unfold potD
        rw [mN 417 _ (by decide) (by decide)]
      obtain ⟨X, y1, y2⟩ := hPot.force hN (j := k) (fun f w => by cases w) (by omega)
      rw [disS_k mN, a3] at y1
      have e437 : ∀ i, X 437 i = N 437 i := fun i => y2 437 i (by unfold mV; omega)
      obtain ⟨N', z1, z2⟩ := ih (k + 1) f (uM X 437 (19 + 3 * g + k) (disS M lv nf d none k (M 437 35))) (by omega) ((a1.tr (y2.mono mV_mEat)).u (by unfold mEat mQ; omega)) (fun i hi => by rw [uM_diff (by omega), y2 438 i (by unfold mV; omega)]; exact a2 i hi) (by rw [uM_diff (by omega), e437]; exact a3) (by rw [uM_diff (by omega), e437]; exact a4) (fun j hj => by
        by_cases w : j = k
        · rw [w, uM_same]
        · rw [uM_diff (by omega), e437]; exact a5 j (by omega))
      refine ⟨N', ?_, z2⟩
      rw [← z1]
      show B_Mod_eatsDish_23 (nI g) (nI d) (H_Mod_eatsDish_23 (nI g) (nI d) (f + 1 + s)) (nI k) N = _
      unfold B_Mod_eatsDish_23
      rw [hN.l18, show (5 : Int32) = nI 5 from rfl, show (3 : Int32) = nI 3 from rfl, show (19 : Int32) = nI 19 from rfl, nI_mul, nI_add, nI_mul, nI_add, nI_add, if_neg (by rw [nI_leI (by omega) (by omega)]; omega), if_neg (nI_in (by omega) (by omega)), nI_clamp (by omega), y1, bI2_s, if_neg (nI_in (by omega) (by omega)), nI_clamp (by omega), nmM_e, nmI_e, nI_1]
  obtain ⟨q, hq⟩ := FU_k (1 + 3) (by omega)
  obtain ⟨N', z1, z2, z3, z4, z5⟩ := key 3 0 q A (by omega) fA pA rA rB (fun j hj => absurd hj (Nat.not_lt_zero _))
  refine ⟨N', ?_, z2, fun j hj => ?_⟩
  · rw [hq, ← Nat.add_assoc]; exact z1
  · obtain ⟨day, w1, w2⟩ := hday
    unfold bowS eatB
    rw [z4, if_pos (by rw [w2]; exact nI_pos' w1), z5 j hj, z3, bndS_k (mQ_M (z2.mono mEat_mQ)), Int32.sub_self, Int32.add_zero, Int32.add_zero]
end FB
end PAR44
