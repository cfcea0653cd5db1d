/-! feud, freest, supper, pinch, year -/
section PAR45
theorem kM1_Q {M M' : gM} (k : Kl MS1 M zL M' zL) : Eo mQ M M' := fun c j w => k.m (by
  unfold mQ at w
  simp only [MS1, MS0, Bool.or_eq_false_iff, Bool.and_eq_false_iff, beq_eq_false_iff_ne]
  omega)
theorem kQ_M1 {M M' : gM} (e : Eo mQ M M') : Kl MS1 M zL M' zL := fun c j w => ⟨e c j (fun hq => by
  unfold mQ at hq
  simp only [MS1, MS0, Bool.or_eq_false_iff, Bool.and_eq_false_iff, beq_eq_false_iff_ne] at w
  omega), rfl⟩
section FV
variable {D Q q ld lv nf nd ng ne : Nat} {M M' M1 Mc Mb : gM} {L : gL} {r : Nat → Int32}
theorem St.dayx (hS : St D Q nf 64 r M) (hD : D < 2 ^ 31) : ∃ day, day < 2 ^ 31 ∧ r 35 = nI day := by
  obtain ⟨⟨day, d1, d2, d3, _⟩, _⟩ := hS
  exact ⟨day, by omega, d3⟩
theorem d0_k (k : Kl C0 M zL M' zL) : M' 64 0 = M 64 0 := k.m (C0_M (by decide) (by decide))
/-- feud: both loops over the dishes -/
theorem feud_loop (hL : Lnd ld lv nf nd ng ne M) (hS : St D Q nf 64 r M) (hD : D < 2 ^ 31) (hLb : Lnd ld lv nf nd ng ne Mb) (mb : ∀ c j, 411 ≤ c → c ≤ 432 → Mb c j = M c j) (rb : ∀ k, k < 38 → Mb 436 k = r k) {g e1 e2 : Nat} (hg : g < ng) (he1 : e1 < ne) (he2 : e2 < ne) :
    ∀ (s k f f' : Nat) (N N' : gM) (acc : Int32), k + s = nd → Kl C0 M zL N zL → Eo mQ Mb N' → ∃ v X Y, H_Main_feud_55 ld (nI g) (nI e1) (nI e2) (f + 1 + s) acc (nI k) N = some (v, X) ∧ H_Mod_feud_37 (nI g) (nI e1) (nI e2) (f' + 1 + s) acc (nI k) N' = some (v, Y) := by
  have h4 := hL.ng4
  have h5 := hL.nd5
  have h6 := hL.ne6
  have h1 := hL.l1
  obtain ⟨x1, hx1, -, ex1⟩ := hL.df he1
  obtain ⟨x2, hx2, -, ex2⟩ := hL.df he2
  intro s
  induction s with
  | zero =>
    intro k f f' N N' acc hk kN kN'
    obtain rfl : k = nd := by omega
    have hN := hL.k0 kN
    have hN' := hLb.kQ kN'
    refine ⟨acc, N, N', ?_, ?_⟩
    · show B_Main_feud_55 ld (nI g) (nI e1) (nI e2) (H_Main_feud_55 ld (nI g) (nI e1) (nI e2) f) acc (nI k) N = _
      unfold B_Main_feud_55
      rw [hN.cd, if_pos (by rw [nI_leI (by omega) (by omega)]; omega)]
    · show B_Mod_feud_37 (nI g) (nI e1) (nI e2) (H_Mod_feud_37 (nI g) (nI e1) (nI e2) f') acc (nI k) N' = _
      unfold B_Mod_feud_37
      rw [hN'.l18, if_neg (nI_in (by omega) (by omega)), nI_clamp (by omega), hN'.md, if_pos (by rw [nI_leI (by omega) (by omega)]; omega)]
  | succ s ih =>
    intro k f f' N N' acc hk kN kN'
    have hN := hL.k0 kN
    have hN' := hLb.kQ kN'
    have mN := k0_M kN
    obtain ⟨X, y1, y2⟩ := c_freeBehind hN (g := g) (d := k) hg (by omega)
    have hb : eatB N lv nf g k (N 64 0) = eatB M lv nf g k (r 35) := funext fun j => by rw [eatB_k mN, d0_k kN, hS.d0]
    rw [hb, frS_k mN] at y1
    obtain ⟨Mc, w1, w2, w3, w4⟩ := m_copies hN'
    have kc := kN'.tr w4
    have hLc := hLb.kQ kc
    have rc : ∀ i, i < 38 → Mc 437 i = r i := fun i hi => by rw [w2 i hi, kN' 436 i (by unfold mQ; omega)]; exact rb i hi
    obtain ⟨Y, z1, z0, z3⟩ := m_eatsDish hLc (g := g) (d := k) (by omega) (by omega) (by rw [rc 35 (by omega)]; exact hS.dayx hD)
    have z2 := z0.mono mEat_mQ
    have ky := kc.tr z2
    have hY := hLb.kQ ky
    have mY : ∀ c j, 411 ≤ c → c ≤ 432 → Y c j = M c j := fun c j a b => (mQ_M ky c j a b).trans (mb c j a b)
    have mc : ∀ c j, 411 ≤ c → c ≤ 432 → Mc c j = M c j := fun c j a b => (mQ_M kc c j a b).trans (mb c j a b)
    have bY : ∀ j, j < 3 → bowS Y lv (Y 437) g j 0 = eatB M lv nf g k (r 35) j := fun j hj => by rw [z3 j hj, eatB_k mc, rc 35 (by omega)]
    obtain ⟨Y1, u1, u2⟩ := m_isFree hY (g := g) (e := e1) (by omega) he1
    obtain ⟨Y2, v1, v2⟩ := m_isFree (hY.kV u2) (g := g) (e := e2) (by omega) he2
    rw [mY 422 _ (by decide) (by decide), mY 421 _ (by decide) (by decide), ex1, nI_tn (by omega), bY x1 (by omega)] at u1
    have e437 : ∀ i, i < 38 → Y1 437 i = Y 437 i := fun i hi => u2 437 i (by unfold mV; omega)
    rw [mV_M u2 422 _ (by decide) (by decide), mV_M u2 421 _ (by decide) (by decide), mY 422 _ (by decide) (by decide), mY 421 _ (by decide) (by decide), ex2, nI_tn (by omega), bowS_k (mV_M u2), bowS_r (by omega) (by omega) e437, bY x2 (by omega)] at v1
    have b1 : F_Main_hasBit (frS M lv (eatB M lv nf g k (r 35)) ne) (nI e1) = some (if M 422 (6 * lv + e1) ≤ eatB M lv nf g k (r 35) x1 then 0 else 1) := by
      rw [frS_bit h6 he1, ex1, nI_tn (by omega)]
    have b2 : F_Main_hasBit (frS M lv (eatB M lv nf g k (r 35)) ne) (nI e2) = some (if M 422 (6 * lv + e2) ≤ eatB M lv nf g k (r 35) x2 then 0 else 1) := by
      rw [frS_bit h6 he2, ex2, nI_tn (by omega)]
    generalize (if M 422 (6 * lv + e1) ≤ eatB M lv nf g k (r 35) x1 then (0 : Int32) else 1) = A at u1 b1
    generalize (if M 422 (6 * lv + e2) ≤ eatB M lv nf g k (r 35) x2 then (0 : Int32) else 1) = B at v1 b2
    have c1 : ∀ K, B_Main_feud_55 ld (nI g) (nI e1) (nI e2) K acc (nI k) N = K (if A = B then acc else acc ||| (1 <<< (nI k &&& 31))) (nI (k + 1)) X := fun K => by
      unfold B_Main_feud_55 J_Main_feud_100
      rw [hN.cd, if_neg (by rw [nI_leI (by omega) (by omega)]; omega), y1, bI2_s, b1, bI_s, b2, bI_s, nmI_e, nmI_e, nmI_e, nI_1]
      by_cases w : A = B
      · rw [if_pos w, if_pos w]
      · rw [if_neg w, if_neg w]
    have c2 : ∀ K, B_Mod_feud_37 (nI g) (nI e1) (nI e2) K acc (nI k) N' = K (if A = B then acc else acc ||| (1 <<< (nI k &&& 31))) (nI (k + 1)) Y2 := fun K => by
      unfold B_Mod_feud_37 J_Mod_feud_86
      rw [hN'.l18, if_neg (nI_in (by omega) (by omega)), nI_clamp (by omega), hN'.md, if_neg (by rw [nI_leI (by omega) (by omega)]; omega), w1, bI_s, z1, bI_s, u1, bI2_s, v1, bI2_s, nmI_e, nmI_e, nmI_e, nI_1]
      by_cases w : A = B
      · rw [if_pos w, if_pos w]
      · rw [if_neg w, if_neg w]
    obtain ⟨v, X', Y', t1, t2⟩ := ih (k + 1) f f' X Y2 (if A = B then acc else acc ||| (1 <<< (nI k &&& 31))) (by omega) (kN.trans y2) ((ky.tr (u2.mono mV_mQ)).tr (v2.mono mV_mQ))
    exact ⟨v, X', Y', (c1 _).trans t1, (c2 _).trans t2⟩
theorem v_feud (h : G1 q ld M L) (hq : q < 512) (a b c : Int32) : ∃ r M1 r' M2, F_Main_feud ld a b c M = some (r, M1) ∧ F_Mod_feud a b c M1 = some (r', M2) ∧ G1 (q + 1) ld M2 L ∧ r = r' := by
  obtain ⟨r, M1, e1, -, k1⟩ := tf_Main_feud (p1 := a) (p2 := b) (p3 := c) (M := M) h.1.la
  have g1 := h.1.kC0 k1
  obtain ⟨r', M2, e2, -, k2⟩ := tf_Mod_feud (p0 := a) (p1 := b) (p2 := c) g1.inv
  refine ⟨r, M1, r', M2, e1, e2, h.q2 (g1.kM1 k2) (k1.mono C0_C1) k2, ?_⟩
  obtain ⟨lv, nf, nd, ng, ne, hL, hS⟩ := h.get
  obtain ⟨hL1, m1, _⟩ := cop hL (k1.mono C0_C1)
  have h5 := hL.nd5
  unfold F_Main_feud at e1
  unfold F_Mod_feud at e2
  rw [hL.cg, hL.ce] at e1
  rcases m_isGuest hL1 a with ⟨d1, d2⟩ | ⟨g, hg, rfl, d1, d2⟩
  · rw [d1, bI_s, if_pos rfl] at e1
    rw [d2, bI_s, if_pos rfl] at e2
    exact pair_fin e1 e2 rfl
  rw [d1, bI_s, if_neg (by decide)] at e1
  rw [d2, bI_s, if_neg (by decide)] at e2
  rcases m_isDeed hL1 b with ⟨d1, d2⟩ | ⟨x, hx, rfl, d1, d2⟩
  · rw [d1, bI_s, if_pos rfl] at e1
    rw [d2, bI_s, if_pos rfl] at e2
    exact pair_fin e1 e2 rfl
  rw [d1, bI_s, if_neg (by decide)] at e1
  rw [d2, bI_s, if_neg (by decide)] at e2
  rcases m_isDeed hL1 c with ⟨d1, d2⟩ | ⟨y, hy, rfl, d1, d2⟩
  · rw [d1, bI_s, if_pos rfl] at e1
    rw [d2, bI_s, if_pos rfl] at e2
    exact pair_fin e1 e2 rfl
  rw [d1, bI_s, if_neg (by decide)] at e1
  rw [d2, bI_s, if_neg (by decide)] at e2
  by_cases w : nI x = nI y
  · rw [if_pos w] at e1 e2
    exact pair_fin e1 e2 rfl
  rw [if_neg w] at e1 e2
  obtain ⟨f, hf⟩ := FU_k (1 + nd) (by omega)
  obtain ⟨v, X, Y, u1, u2⟩ := feud_loop hL hS.1 (by omega) hL1 (fun c j p _ => m1 c j (by omega)) (fun k _ => m1 436 k (by omega)) hg hx hy nd 0 f f M M1 0 (Nat.zero_add _) Kl.rf Eo.rf
  have c1 : H_Main_feud_55 ld (nI g) (nI x) (nI y) FU 0 0 M = some (v, X) := by rw [hf, ← Nat.add_assoc]; exact u1
  have c2 : H_Mod_feud_37 (nI g) (nI x) (nI y) FU 0 0 M1 = some (v, Y) := by rw [hf, ← Nat.add_assoc]; exact u2
  rw [c1] at e1
  rw [c2] at e2
  exact pair_fin e1 e2 rfl
/-! the dish that sets free most -/
theorem copies63 (h : Lnd ld lv nf nd ng ne M) {Mc : gM} (w1 : F_Mod_copies M = some Mc) : Mc 401 63 = M 401 63 := by
  have := Option.some.inj (w1.symm.trans (s_copies h.l18 (by have := h.l1; omega)))
  rw [this, uM_diff (by omega), fl_out (by omega)]
def bsD (c : Nat → Int32) : Nat → Int32 × Int32
  | 0 => (-1, -1)
  | n + 1 => if c n ≤ (bsD c n).1 then bsD c n else (c n, nI n)
theorem not_m1 {x : Int32} (h : 0 ≤ x) : ¬ x ≤ -1 := fun w => absurd (Int32.le_trans h w) (by decide)
theorem bsD_in {c : Nat → Int32} (hc : ∀ n, 0 ≤ c n) : ∀ n, ∃ d, d < n + 1 ∧ bsD c (n + 1) = (c d, nI d)
  | 0 => ⟨0, by omega, by
    show (if c 0 ≤ -1 then ((-1 : Int32), (-1 : Int32)) else (c 0, nI 0)) = _
    rw [if_neg (not_m1 (hc 0))]⟩
  | n + 1 => by
    obtain ⟨d, h1, h2⟩ := bsD_in hc n
    show ∃ d, d < n + 1 + 1 ∧ (if c (n + 1) ≤ (bsD c (n + 1)).1 then bsD c (n + 1) else (c (n + 1), nI (n + 1))) = _
    by_cases w : c (n + 1) ≤ (bsD c (n + 1)).1
    · rw [if_pos w]; exact ⟨d, by omega, h2⟩
    · rw [if_neg w]; exact ⟨n + 1, by omega, rfl⟩
/-- how many deeds a dish sets free -/
def cnS (M : gM) (lv nf ne g : Nat) (day : Int32) (d : Nat) : Int32 := bcS (frS M lv (eatB M lv nf g d day) ne)
theorem cnS_0 (h6 : ne ≤ 6) {g d : Nat} {day : Int32} : 0 ≤ cnS M lv nf ne g day d := (frS_cnt h6).2.2
theorem c_behindN (hL : Lnd ld lv nf nd ng ne M) (hS : St D Q nf 64 r M) {N : gM} (kN : Kl C0 M zL N zL) {g d : Nat} (hg : g < ng) (hd : d < nd) : ∃ X, F_Main_freeBehind ld (nI g) (nI d) N = some (frS M lv (eatB M lv nf g d (r 35)) ne, X) ∧ Kl C0 M zL X zL := by
  obtain ⟨X, y1, y2⟩ := c_freeBehind (hL.k0 kN) (g := g) (d := d) hg hd
  have hb : eatB N lv nf g d (N 64 0) = eatB M lv nf g d (r 35) := funext fun j => by rw [eatB_k (k0_M kN), d0_k kN, hS.d0]
  rw [hb, frS_k (k0_M kN)] at y1
  exact ⟨X, y1, kN.trans y2⟩
theorem c_freestDish (hL : Lnd ld lv nf nd ng ne M) (hS : St D Q nf 64 r M) {g : Nat} (hg : g < ng) {N0 : gM} (k0 : Kl C0 M zL N0 zL) : ∃ X, F_Main_freestDish ld (nI g) N0 = some ((bsD (cnS M lv nf ne g (r 35)) nd).2, X) ∧ Kl C0 M zL X zL := by
  have h5 := hL.nd5
  have h6 := hL.ne6
  have key : ∀ (s k f : Nat) (N : gM), k + s = nd → Kl C0 M zL N zL → ∃ X, H_Main_freestDish_7 ld (nI g) (f + 1 + s) (bsD (cnS M lv nf ne g (r 35)) k).1 (bsD (cnS M lv nf ne g (r 35)) k).2 (nI k) N = some ((bsD (cnS M lv nf ne g (r 35)) nd).2, X) ∧ Kl C0 M zL X zL := by
    intro s
    induction s with
    | zero =>
      intro k f N hk kN
      obtain rfl : k = nd := by omega
      refine ⟨N, ?_, kN⟩
      show B_Main_freestDish_7 ld (nI g) (H_Main_freestDish_7 ld (nI g) f) _ _ (nI k) N = _
      unfold B_Main_freestDish_7
      rw [(hL.k0 kN).cd, if_pos (by rw [nI_leI (by omega) (by omega)]; omega)]
    | succ s ih =>
      intro k f N hk kN
      obtain ⟨X, y1, y2⟩ := c_behindN hL hS kN (g := g) (d := k) hg (by omega)
      obtain ⟨X', z1, z2⟩ := ih (k + 1) f X (by omega) y2
      refine ⟨X', ?_, z2⟩
      rw [← z1]
      show B_Main_freestDish_7 ld (nI g) (H_Main_freestDish_7 ld (nI g) (f + 1 + s)) _ _ (nI k) N = _
      unfold B_Main_freestDish_7 J_Main_freestDish_43
      rw [(hL.k0 kN).cd, if_neg (by rw [nI_leI (by omega) (by omega)]; omega), y1, bI2_s, (frS_cnt h6).1, bI_s, nmI_e, nmI_e, nI_1]
      have hu : bsD (cnS M lv nf ne g (r 35)) (k + 1) = if cnS M lv nf ne g (r 35) k ≤ (bsD (cnS M lv nf ne g (r 35)) k).1 then bsD (cnS M lv nf ne g (r 35)) k else (cnS M lv nf ne g (r 35) k, nI k) := rfl
      rw [hu]
      by_cases w : cnS M lv nf ne g (r 35) k ≤ (bsD (cnS M lv nf ne g (r 35)) k).1
      · rw [if_pos (show bcS (frS M lv (eatB M lv nf g k (r 35)) ne) ≤ _ from w), if_pos w]
      · rw [if_neg (show ¬ bcS (frS M lv (eatB M lv nf g k (r 35)) ne) ≤ _ from w), if_neg w]
        rfl
  obtain ⟨f, hf⟩ := FU_k (1 + nd) (by omega)
  unfold F_Main_freestDish
  rw [hf, ← Nat.add_assoc]
  exact key nd 0 f N0 (Nat.zero_add _) k0
theorem m_freestOf (hS : St D Q nf 64 r M) (hD : D < 2 ^ 31) (hLb : Lnd ld lv nf nd ng ne Mb) (mb : ∀ c j, 411 ≤ c → c ≤ 432 → Mb c j = M c j) (rb : ∀ k, k < 38 → Mb 436 k = r k) {g : Nat} (hg : g < ng) {N0 : gM} (k0 : Eo mQ Mb N0) : ∃ Y, F_Mod_freestOf (nI g) N0 = some (if nd = 0 then -2 else (bsD (cnS M lv nf ne g (r 35)) nd).2, Y) ∧ Y 401 63 = (bsD (cnS M lv nf ne g (r 35)) nd).1 ∧ Eo mQ Mb Y := by
  have h5 := hLb.nd5
  have h4 := hLb.ng4
  have h6 := hLb.ne6
  have h1 := hLb.l1
  have key : ∀ (s k f : Nat) (N : gM), k + s = nd → Eo mQ Mb N → N 401 63 = (bsD (cnS M lv nf ne g (r 35)) k).1 → ∃ Y, H_Mod_freestOf_10 (nI g) (f + 1 + s) (if k = 0 then -2 else (bsD (cnS M lv nf ne g (r 35)) k).2) (nI k) N = some (if nd = 0 then -2 else (bsD (cnS M lv nf ne g (r 35)) nd).2, Y) ∧ Y 401 63 = (bsD (cnS M lv nf ne g (r 35)) nd).1 ∧ Eo mQ Mb Y := by
    intro s
    induction s with
    | zero =>
      intro k f N hk kN e63
      obtain rfl : k = nd := by omega
      have hN := hLb.kQ kN
      refine ⟨N, ?_, e63, kN⟩
      show B_Mod_freestOf_10 (nI g) (H_Mod_freestOf_10 (nI g) f) _ (nI k) N = _
      unfold B_Mod_freestOf_10
      rw [hN.l18, if_neg (nI_in (by omega) (by omega)), nI_clamp (by omega), hN.md, if_pos (by rw [nI_leI (by omega) (by omega)]; omega)]
    | succ s ih =>
      intro k f N hk kN e63
      have hN := hLb.kQ kN
      obtain ⟨Mc, w1, w2, w3, w4⟩ := m_copies hN
      have kc := kN.tr w4
      have hLc := hLb.kQ kc
      have rc : ∀ i, i < 38 → Mc 437 i = r i := fun i hi => by rw [w2 i hi, kN 436 i (by unfold mQ; omega)]; exact rb i hi
      have mc : ∀ c j, 411 ≤ c → c ≤ 432 → Mc c j = M c j := fun c j a b => (mQ_M kc c j a b).trans (mb c j a b)
      have c63 : Mc 401 63 = N 401 63 := copies63 hN w1
      obtain ⟨Y, z1, z0, z3⟩ := m_eatsDish hLc (g := g) (d := k) (by omega) (by omega) (by rw [rc 35 (by omega)]; exact hS.dayx hD)
      have z63 : Y 401 63 = Mc 401 63 := z0 401 63 (by unfold mEat; omega)
      have z2 := z0.mono mEat_mQ
      have ky := kc.tr z2
      have hY := hLb.kQ ky
      have mY : ∀ c j, 411 ≤ c → c ≤ 432 → Y c j = M c j := fun c j a b => (mQ_M ky c j a b).trans (mb c j a b)
      have bY : ∀ j, j < 3 → bowS Y lv (Y 437) g j 0 = eatB M lv nf g k (r 35) j := fun j hj => by rw [z3 j hj, eatB_k mc, rc 35 (by omega)]
      obtain ⟨Y1, u1, u2⟩ := m_freeBits hY (g := g) (by omega)
      have hfr : frS Y lv (fun j => bowS Y lv (Y 437) g j 0) ne = frS M lv (eatB M lv nf g k (r 35)) ne := by
        rw [frS_k mY]
        exact frS_b (ne := ne) bY (fun e he => by
          obtain ⟨x, hx, -, ex⟩ := hLb.df he
          exact ⟨x, hx, by rw [← mb 421 _ (by decide) (by decide)]; exact ex⟩) ne (Nat.le_refl _)
      rw [hfr] at u1
      have y63 : Y1 401 63 = (bsD (cnS M lv nf ne g (r 35)) k).1 := by rw [u2 401 63 (by unfold mV; omega), z63, c63, e63]
      have hu : bsD (cnS M lv nf ne g (r 35)) (k + 1) = if cnS M lv nf ne g (r 35) k ≤ (bsD (cnS M lv nf ne g (r 35)) k).1 then bsD (cnS M lv nf ne g (r 35)) k else (cnS M lv nf ne g (r 35) k, nI k) := rfl
      have kY1 := ky.tr (u2.mono mV_mQ)
      by_cases w : cnS M lv nf ne g (r 35) k ≤ (bsD (cnS M lv nf ne g (r 35)) k).1
      · have hk0 : k ≠ 0 := fun z => by subst z; exact absurd w (not_m1 (cnS_0 h6))
        rw [if_pos w] at hu
        obtain ⟨Y', t1, t2⟩ := ih (k + 1) f Y1 (by omega) kY1 (by rw [hu]; exact y63)
        refine ⟨Y', ?_, t2⟩
        rw [← t1, hu, if_neg hk0, if_neg (Nat.succ_ne_zero k)]
        show B_Mod_freestOf_10 (nI g) (H_Mod_freestOf_10 (nI g) (f + 1 + s)) _ (nI k) N = _
        unfold B_Mod_freestOf_10 J_Mod_freestOf_63
        rw [hN.l18, if_neg (nI_in (by omega) (by omega)), nI_clamp (by omega), hN.md, if_neg (by rw [nI_leI (by omega) (by omega)]; omega), w1, bI_s, z1, bI_s, u1, bI2_s, (frS_cnt h6).2.1, bI_s, y63, if_neg (show ¬ (bsD (cnS M lv nf ne g (r 35)) k).1 < bcS (frS M lv (eatB M lv nf g k (r 35)) ne) from Int32.not_lt.mpr w), nmI_e, nI_1]
      · rw [if_neg w] at hu
        obtain ⟨Y', t1, t2⟩ := ih (k + 1) f (uM Y1 401 63 (cnS M lv nf ne g (r 35) k)) (by omega) (kY1.u (by unfold mQ; omega)) (by rw [hu, uM_same])
        refine ⟨Y', ?_, t2⟩
        rw [← t1, hu, if_neg (Nat.succ_ne_zero k)]
        show B_Mod_freestOf_10 (nI g) (H_Mod_freestOf_10 (nI g) (f + 1 + s)) _ (nI k) N = _
        unfold B_Mod_freestOf_10 J_Mod_freestOf_63
        rw [hN.l18, if_neg (nI_in (by omega) (by omega)), nI_clamp (by omega), hN.md, if_neg (by rw [nI_leI (by omega) (by omega)]; omega), w1, bI_s, z1, bI_s, u1, bI2_s, (frS_cnt h6).2.1, bI_s, y63, if_pos (show (bsD (cnS M lv nf ne g (r 35)) k).1 < bcS (frS M lv (eatB M lv nf g k (r 35)) ne) from Int32.not_le.mp w), nmM_e, nmI_e, nI_1]
        rfl
  obtain ⟨f, hf⟩ := FU_k (1 + nd) (by omega)
  unfold F_Mod_freestOf
  rw [nmM_e, hf, ← Nat.add_assoc]
  exact key nd 0 f (uM N0 401 63 (-1)) (Nat.zero_add _) (k0.u (by unfold mQ; omega)) uM_same

theorem v_freest (h : G1 q ld M L) (hq : q < 512) (a b : Int32) : ∃ r M1 r' M2, F_Main_freest ld a b M = some (r, M1) ∧ F_Mod_freest a b M1 = some (r', M2) ∧ G1 (q + 1) ld M2 L ∧ r = r' := by
  obtain ⟨r, M1, e1, -, k1⟩ := tf_Main_freest (p1 := a) (p2 := b) (M := M) h.1.la
  have g1 := h.1.kC0 k1
  obtain ⟨r', M2, e2, -, k2⟩ := tf_Mod_freest (p0 := a) (p1 := b) g1.inv
  refine ⟨r, M1, r', M2, e1, e2, h.q2 (g1.kM1 k2) (k1.mono C0_C1) k2, ?_⟩
  obtain ⟨lv, nf, nd, ng, ne, hL, hS⟩ := h.get
  obtain ⟨hL1, m1, _⟩ := cop hL (k1.mono C0_C1)
  have h5 := hL.nd5
  have h6 := hL.ne6
  unfold F_Main_freest at e1
  unfold F_Mod_freest J_Mod_freest_33 at e2
  rw [hL.cg] at e1
  rcases m_isGuest hL1 a with ⟨d1, d2⟩ | ⟨g, hg, rfl, d1, d2⟩
  · rw [d1, bI_s, if_pos rfl] at e1
    rw [d2, bI_s, if_pos rfl] at e2
    exact pair_fin e1 e2 rfl
  rw [d1, bI_s, if_neg (by decide)] at e1
  rw [d2, bI_s, if_neg (by decide)] at e2
  rcases one_in0 b (n := 1) (by decide) with ⟨d1, d2⟩ | ⟨w, hw, rfl, d1, d2⟩
  · rw [show F_Main_isOne b 2 = some 0 from d1, bI_s, if_pos rfl] at e1
    rw [show F_Mod_in b 0 1 = some 0 from d2, bI_s, if_pos rfl] at e2
    exact pair_fin e1 e2 rfl
  rw [show F_Main_isOne (nI w) 2 = some 1 from d1, bI_s, if_neg (by decide), hL.cd] at e1
  rw [show F_Mod_in (nI w) 0 1 = some 1 from d2, bI_s, if_neg (by decide)] at e2
  obtain ⟨Y, y1, y2, y3⟩ := m_freestOf hS.1 (by omega) hL1 (fun c j p _ => m1 c j (by omega)) (fun k _ => m1 436 k (by omega)) hg Eo.rf
  rw [y1, bI2_s] at e2
  by_cases z : nd = 0
  · rw [if_pos z, if_pos (by decide)] at e2
    rw [z, if_pos (show nI 0 = 0 from rfl)] at e1
    exact pair_fin e1 e2 rfl
  rw [if_neg (nI_ne0 (by omega) (by omega))] at e1
  obtain ⟨X, x1, x2⟩ := c_freestDish hL hS.1 hg Kl.rf
  obtain ⟨d, hd, ed⟩ := bsD_in (c := cnS M lv nf ne g (M 436 35)) (fun n => cnS_0 h6) (nd - 1)
  rw [show nd - 1 + 1 = nd by omega] at ed hd
  rw [ed] at x1 y2 e2
  rw [if_neg z, if_neg (show ¬ nI d < 0 from nI_pos (by omega))] at e2
  rw [x1, bI2_s] at e1
  by_cases w0 : nI w = 0
  · rw [if_pos w0] at e1 e2
    exact pair_fin e1 e2 rfl
  rw [if_neg w0] at e1 e2
  obtain ⟨X2, u1, _⟩ := c_behindN hL hS.1 x2 (g := g) (d := d) hg hd
  rw [u1, bI2_s, (frS_cnt h6).1, bI_s] at e1
  exact pair_fin e1 e2 y2.symm
theorem supper_loop (hL : Lnd ld lv nf nd ng ne M) (hS : St D Q nf 64 r M) (hD : D < 2 ^ 31) (hLb : Lnd ld lv nf nd ng ne Mb) (mb : ∀ c j, 411 ≤ c → c ≤ 432 → Mb c j = M c j) (rb : ∀ k, k < 38 → Mb 436 k = r k) (hz : 0 < nd) :
    ∀ (s k f f' : Nat) (N N' : gM) (acc : Int32), k + s = ng → Kl C0 M zL N zL → Eo mQ Mb N' → ∃ v X Y, H_Main_supper_16 ld (f + 1 + s) acc (nI k) N = some (v, X) ∧ H_Mod_supper_4 (f' + 1 + s) acc (nI k) N' = some (v, Y) := by
  have h4 := hL.ng4
  have h5 := hL.nd5
  have h6 := hL.ne6
  have h1 := hL.l1
  intro s
  induction s with
  | zero =>
    intro k f f' N N' acc hk kN kN'
    obtain rfl : k = ng := by omega
    have hN := hL.k0 kN
    have hN' := hLb.kQ kN'
    refine ⟨acc, N, N', ?_, ?_⟩
    · show B_Main_supper_16 ld (H_Main_supper_16 ld f) acc (nI k) N = _
      unfold B_Main_supper_16
      rw [hN.cg, if_pos (by rw [nI_leI (by omega) (by omega)]; omega)]
    · show B_Mod_supper_4 (H_Mod_supper_4 f') acc (nI k) N' = _
      unfold B_Mod_supper_4
      rw [hN'.l18, if_neg (nI_in (by omega) (by omega)), nI_clamp (by omega), hN'.mg, if_pos (by rw [nI_leI (by omega) (by omega)]; omega)]
  | succ s ih =>
    intro k f f' N N' acc hk kN kN'
    have hN := hL.k0 kN
    have hN' := hLb.kQ kN'
    obtain ⟨Y, y1, y2, y3⟩ := m_freestOf hS hD hLb mb rb (g := k) (by omega) kN'
    obtain ⟨X, x1, x2⟩ := c_freestDish hL hS (g := k) (by omega) kN
    obtain ⟨d, hd, ed⟩ := bsD_in (c := cnS M lv nf ne k (r 35)) (fun n => cnS_0 h6) (nd - 1)
    rw [show nd - 1 + 1 = nd by omega] at ed hd
    rw [ed] at x1 y2
    obtain ⟨X2, u1, u2⟩ := c_behindN hL hS x2 (g := k) (d := d) (by omega) hd
    obtain ⟨v, X', Y', t1, t2⟩ := ih (k + 1) f f' X2 Y (acc + cnS M lv nf ne k (r 35) d) (by omega) u2 y3
    refine ⟨v, X', Y', ?_, ?_⟩
    · rw [← t1]
      show B_Main_supper_16 ld (H_Main_supper_16 ld (f + 1 + s)) acc (nI k) N = _
      unfold B_Main_supper_16
      rw [hN.cg, if_neg (by rw [nI_leI (by omega) (by omega)]; omega), x1, bI2_s, u1, bI2_s, (frS_cnt h6).1, bI_s, nmI_e, nmI_e, nI_1]
      rfl
    · rw [← t2]
      show B_Mod_supper_4 (H_Mod_supper_4 (f' + 1 + s)) acc (nI k) N' = _
      unfold B_Mod_supper_4
      rw [hN'.l18, if_neg (nI_in (by omega) (by omega)), nI_clamp (by omega), hN'.mg, if_neg (by rw [nI_leI (by omega) (by omega)]; omega), if_neg (nI_inc (by omega) (by omega)), hN'.md, if_neg (by rw [show (0 : Int32) = nI 0 from rfl, nI_leI (by omega) (by omega)]; omega), y1, bI2_s, nmI_e, nmI_e, nI_1, y2]
theorem v_supper (h : G1 q ld M L) (hq : q < 512) : ∃ r M1 r' M2, F_Main_supper ld M = some (r, M1) ∧ F_Mod_supper M1 = some (r', M2) ∧ G1 (q + 1) ld M2 L ∧ r = r' := by
  obtain ⟨r, M1, e1, -, k1⟩ := tf_Main_supper (M := M) h.1.la
  have g1 := h.1.kC0 k1
  obtain ⟨r', M2, e2, -, k2⟩ := tf_Mod_supper g1.inv
  refine ⟨r, M1, r', M2, e1, e2, h.q2 (g1.kM1 k2) (k1.mono C0_C1) k2, ?_⟩
  obtain ⟨lv, nf, nd, ng, ne, hL, hS⟩ := h.get
  obtain ⟨hL1, m1, _⟩ := cop hL (k1.mono C0_C1)
  have h5 := hL.nd5
  have h4 := hL.ng4
  have h1 := hL.l1
  unfold F_Main_supper at e1
  unfold F_Mod_supper at e2
  rw [hL.cd] at e1
  by_cases z : nd = 0
  · rw [z, if_pos (show nI 0 = 0 from rfl)] at e1
    obtain ⟨f, hf⟩ := FU_k 1 (by omega)
    rw [hf] at e2
    have e3 : B_Mod_supper_4 (H_Mod_supper_4 f) 0 (nI 0) M1 = some (r', M2) := e2
    unfold B_Mod_supper_4 at e3
    rw [hL1.l18, if_neg (nI_in (by omega) (by omega)), nI_clamp (by omega), hL1.mg] at e3
    by_cases w : nI ng ≤ nI 0
    · rw [if_pos w] at e3
      exact pair_fin e1 e3 rfl
    · rw [if_neg w, if_neg (nI_inc (by omega) (by omega)), hL1.md, z, if_pos (show nI 0 ≤ 0 by decide)] at e3
      exact pair_fin e1 e3 rfl
  rw [if_neg (nI_ne0 (by omega) (by omega))] at e1
  obtain ⟨f, hf⟩ := FU_k (1 + ng) (by omega)
  obtain ⟨v, X, Y, u1, u2⟩ := supper_loop hL hS.1 (by omega) hL1 (fun c j p _ => m1 c j (by omega)) (fun k _ => m1 436 k (by omega)) (by omega) ng 0 f f M M1 0 (Nat.zero_add _) Kl.rf Eo.rf
  have c1 : H_Main_supper_16 ld FU 0 0 M = some (v, X) := by rw [hf, ← Nat.add_assoc]; exact u1
  have c2 : H_Mod_supper_4 FU 0 0 M1 = some (v, Y) := by rw [hf, ← Nat.add_assoc]; exact u2
  rw [c1] at e1
  rw [c2] at e2
  exact pair_fin e1 e2 rfl
end FV
end PAR45
