/-! the ways gathered; blame and sure -/
section PAR51
section SU
variable {D Q q ld lv nf nd ng ne : Nat} {M M' M1 Mc Mb : gM} {L : gL} {r : Nat → Int32}
theorem c_gather (hL : Lnd ld lv nf nd ng ne M) (hT : Td M) {k : Nat} {day : Int32} (hk : ∃ n, n ≤ 20 ∧ M 383 3 = nI n ∧ k ≤ n) : ∃ X, F_Told_gather ld day (nI k) M = some X ∧ Eo gF M X ∧ Rw M lv nf (wl (wK M lv nf k day) (13 * nd)) X := by
  have h5 := hL.nd5
  have inner : ∀ (d : Nat) (K8 : Int32 → gM → Option gM), d < nd → ∀ (s v f : Nat) (N : gM), v + s = 13 → Eo gF M N → Rw M lv nf (wl (wK M lv nf k day) (13 * d + v)) N → ∃ X, H_Told_gather_20 ld K8 day (nI k) (nI d) (f + 1 + s) (nI v) N = J_Told_gather_65 ld K8 day (nI k) (nI d) X ∧ Eo gF M X ∧ Rw M lv nf (wl (wK M lv nf k day) (13 * (d + 1))) X := by
    intro d K8 hd s
    induction s with
    | zero =>
      intro v f N hv eN hR
      obtain rfl : v = 13 := by omega
      refine ⟨N, ?_, eN, hR⟩
      show B_Told_gather_20 ld K8 day (nI k) (nI d) (H_Told_gather_20 ld K8 day (nI k) (nI d) f) (nI 13) N = _
      generalize H_Told_gather_20 ld K8 day (nI k) (nI d) f = H
      unfold B_Told_gather_20
      rw [if_pos (by decide)]
    | succ s ih =>
      intro v f N hv eN hR
      have ln := wl_len (wK M lv nf k day) (13 * d + v)
      obtain ⟨X, y1, y2, y3⟩ := c_wayStep hL hT (day := day) hk hd (v := v) (by omega) (by omega) eN hR (fun M14 => J_Told_gather_59 ld K8 (H_Told_gather_20 ld K8 day (nI k) (nI d) (f + 1 + s)) day (nI k) (nI d) (nI v) M14)
      obtain ⟨X', z1, z2⟩ := ih (v + 1) f X (by omega) y2 y3
      refine ⟨X', ?_, z2⟩
      rw [← z1]
      show B_Told_gather_20 ld K8 day (nI k) (nI d) (H_Told_gather_20 ld K8 day (nI k) (nI d) (f + 1 + s)) (nI v) N = _
      generalize H_Told_gather_20 ld K8 day (nI k) (nI d) (f + 1 + s) = H at y1 ⊢
      unfold B_Told_gather_20
      rw [if_neg (by rw [show (13 : Int32) = nI 13 from rfl, nI_leI (by omega) (by omega)]; omega)]
      refine y1.trans ?_
      unfold J_Told_gather_59
      rw [nmI_e, nI_1]
  have outer : ∀ (s d f : Nat) (N : gM), d + s = nd → Eo gF M N → Rw M lv nf (wl (wK M lv nf k day) (13 * d)) N → ∃ X, H_Told_gather_8 ld day (nI k) (f + 1 + s) (nI d) N = some X ∧ Eo gF M X ∧ Rw M lv nf (wl (wK M lv nf k day) (13 * nd)) X := by
    intro s
    induction s with
    | zero =>
      intro d f N hd eN hR
      obtain rfl : d = nd := by omega
      refine ⟨N, ?_, eN, hR⟩
      show B_Told_gather_8 ld day (nI k) (H_Told_gather_8 ld day (nI k) f) (nI d) N = _
      unfold B_Told_gather_8
      rw [(hL.kG eN).cd, if_pos (by rw [nI_leI (by omega) (by omega)]; omega)]
    | succ s ih =>
      intro d f N hd eN hR
      obtain ⟨g, hg⟩ := FU_k (1 + 13) (by omega)
      obtain ⟨X, y1, y2, y3⟩ := inner d (H_Told_gather_8 ld day (nI k) (f + 1 + s)) (by omega) 13 0 g N (by omega) eN hR
      obtain ⟨X', z1, z2⟩ := ih (d + 1) f X (by omega) y2 y3
      refine ⟨X', ?_, z2⟩
      rw [← z1]
      show B_Told_gather_8 ld day (nI k) (H_Told_gather_8 ld day (nI k) (f + 1 + s)) (nI d) N = _
      have c1 : H_Told_gather_20 ld (H_Told_gather_8 ld day (nI k) (f + 1 + s)) day (nI k) (nI d) FU 0 N = J_Told_gather_65 ld (H_Told_gather_8 ld day (nI k) (f + 1 + s)) day (nI k) (nI d) X := by
        rw [hg, ← Nat.add_assoc]; exact y1
      generalize H_Told_gather_8 ld day (nI k) (f + 1 + s) = H at c1 ⊢
      unfold B_Told_gather_8
      rw [(hL.kG eN).cd, if_neg (by rw [nI_leI (by omega) (by omega)]; omega), c1]
      unfold J_Told_gather_65
      rw [nmI_e, nI_1]
  unfold F_Told_gather
  rw [nmM_e]
  obtain ⟨g, hg⟩ := FU_k (1 + nd) (by omega)
  rw [hg, ← Nat.add_assoc]
  exact outer nd 0 g (uM M 383 7 0) (Nat.zero_add _) (Eo.rf.u (Or.inr (Or.inr ⟨rfl, rfl⟩))) ⟨uM_same, fun i hi => absurd hi (Nat.not_lt_zero _)⟩
/-- one way, by the model -/
theorem m_isWay (hL : Lnd ld lv nf nd ng ne M) (hT : Td M) {k : Nat} {day : Int32} (hk : ∃ n, n ≤ 20 ∧ M 401 64 = nI n ∧ k ≤ n) (e35 : M 437 35 = day) {n : Nat} (hn : n < 13 * nd) {N : gM} (eN : Eo mP8 M N) : ∃ X, F_Mod_isWay (nI n) (nI k) N = some (if wK M lv nf k day n = true then 1 else 0, X) ∧ Eo mP8 M X := by
  have h5 := hL.nd5
  have hN := hL.kQ (mP8_Q eN)
  have mN : ∀ c j, 411 ≤ c → c ≤ 432 → N c j = M c j := mQ_M (mP8_Q eN)
  obtain ⟨A, a1, a2, a3⟩ := m_fillsWay hN (d := n / 13) (v := n % 13) (by omega) (by omega)
  rw [show 13 * (n / 13) + n % 13 = n by omega, wOk_k mN] at a1
  rw [wOk_k mN] at a3
  have eA : Eo mP8 M A := fun c j w => by rw [a2 c j (fun z => w (Or.inr z))]; exact eN c j w
  unfold F_Mod_isWay wK
  rw [a1, bI2_s]
  by_cases w : wOk M lv nf (n / 13) (n % 13) = true
  rotate_left
  · have w' : wOk M lv nf (n / 13) (n % 13) = false := by simpa using w
    rw [if_neg w, if_pos rfl, w', Bool.false_and, if_neg (by decide)]
    exact ⟨A, rfl, eA⟩
  rw [if_pos w, if_neg (by decide), w, Bool.true_and]
  have hA := hL.kQ (mP8_Q eA)
  have mA : ∀ c j, 411 ≤ c → c ≤ 432 → A c j = M c j := mQ_M (mP8_Q eA)
  have fr : ∀ x y, x ≠ 434 → x ≠ 435 → x ≠ 438 → ¬ (x = 401 ∧ y = 51) → A x y = M x y := fun x y p1 p2 p3 p4 => eA x y (by unfold mP8 mV; omega)
  have m4 : ∀ c j, 441 ≤ c → c ≤ 443 → A c j = M c j := fun c j a b => fr c j (by omega) (by omega) (by omega) (by omega)
  have hTA : Td A := hT.keep2 (fr 383 3 (by decide) (by decide) (by decide) (by decide)) (fr 401 64 (by decide) (by decide) (by decide) (by decide)) (fun c j w => fr c j (by omega) (by omega) (by omega) (by omega))
  obtain ⟨g, hg⟩ := FU_k (1 + k) (by obtain ⟨n, a, _, b⟩ := hk; omega)
  obtain ⟨Y, u1, u2⟩ := m_known hA hTA (d := n / 13) (v := n % 13) (k := k) (day := day) (by omega) (by
    obtain ⟨n, a, b, c⟩ := hk
    exact ⟨n, a, (fr 401 64 (by decide) (by decide) (by decide) (by decide)).trans b, c⟩) (by rw [wOk_k mA]; exact w) (fun i hi => by rw [a3 w i hi, potD_k mN, potD_k mA]) (by rw [fr 437 35 (by decide) (by decide) (by decide) (by decide)]; exact e35) k 0 g A (Nat.zero_add _) Eo.rf
  rw [kP_k mA m4] at u1
  have c1 : F_Mod_isAsKnown (nI k) A = some (if allK (kP M lv nf (n / 13) (n % 13) day) k 0 = true then 1 else 0, Y) := by
    unfold F_Mod_isAsKnown
    rw [hg, ← Nat.add_assoc]
    exact u1
  refine ⟨Y, ?_, eA.tr (mV_P8 u2)⟩
  rw [c1, bI2_s]
  by_cases w2 : allK (kP M lv nf (n / 13) (n % 13) day) k 0 = true
  · rw [if_pos w2, if_neg (by decide)]
  · rw [if_neg w2, if_pos rfl]
theorem m_blame (hL : Lnd ld lv nf nd ng ne M) (hT : Td M) {k : Nat} {day : Int32} (hk : ∃ n, n ≤ 20 ∧ M 401 64 = nI n ∧ k ≤ n) (e35 : M 437 35 = day) : ∀ (s n f : Nat) (N : gM), n + s = 13 * nd → Eo mP8 M N → ∃ X, H_Mod_blame_22 (nI k) (f + 1 + s) (nI (wl (wK M lv nf k day) n).length) (nI n) N = some (nI (wl (wK M lv nf k day) (13 * nd)).length, X) := by
  have h5 := hL.nd5
  have h1 := hL.l1
  intro s
  induction s with
  | zero =>
    intro n f N hn eN
    obtain rfl : n = 13 * nd := by omega
    have hN := hL.kQ (mP8_Q eN)
    refine ⟨N, ?_⟩
    show B_Mod_blame_22 (nI k) (H_Mod_blame_22 (nI k) f) _ (nI (13 * nd)) N = _
    unfold B_Mod_blame_22
    rw [hN.l18, if_neg (nI_in (by omega) (by omega)), nI_clamp (by omega), hN.md, show (13 : Int32) = nI 13 from rfl, nI_mul, if_pos (by rw [nI_leI (by omega) (by omega)]; omega)]
  | succ s ih =>
    intro n f N hn eN
    have hN := hL.kQ (mP8_Q eN)
    obtain ⟨X, y1, y2⟩ := m_isWay hL hT hk e35 (n := n) (by omega) eN
    obtain ⟨X', z1⟩ := ih (n + 1) f X (by omega) y2
    refine ⟨X', ?_⟩
    rw [← z1]
    show B_Mod_blame_22 (nI k) (H_Mod_blame_22 (nI k) (f + 1 + s)) _ (nI n) N = _
    generalize H_Mod_blame_22 (nI k) (f + 1 + s) = H
    unfold B_Mod_blame_22 J_Mod_blame_50
    rw [hN.l18, if_neg (nI_in (by omega) (by omega)), nI_clamp (by omega), hN.md, show (13 : Int32) = nI 13 from rfl, nI_mul, if_neg (by rw [nI_leI (by omega) (by omega)]; omega), y1, bI2_s, nmI_e, nmI_e, nmI_e, nI_1]
    show _ = H (nI (if wK M lv nf k day n = true then wl (wK M lv nf k day) n ++ [n] else wl (wK M lv nf k day) n).length) (nI (n + 1)) X
    by_cases w : wK M lv nf k day n = true
    · rw [if_pos w, if_neg (by decide), if_pos w, nI_1, List.length_append]
      rfl
    · rw [if_neg w, if_pos rfl, if_neg w]
theorem v_blame (h : G1 q ld M L) (hq : q < 512) (a : Int32) : ∃ r M1 r' M2, F_Main_blame ld a M = some (r, M1) ∧ F_Mod_blame a M1 = some (r', M2) ∧ G1 (q + 1) ld M2 L ∧ r = r' := by
  obtain ⟨r, M1, e1, -, k1⟩ := tf_Main_blame (p1 := a) (M := M) h.1.la
  have g1 := h.1.kC1 k1
  obtain ⟨r', M2, e2, -, k2⟩ := tf_Mod_blame (p0 := a) g1.inv
  refine ⟨r, M1, r', M2, e1, e2, h.q2 (g1.kM1 k2) k1 k2, ?_⟩
  obtain ⟨lv, nf, nd, ng, ne, hL, hS⟩ := h.get
  obtain ⟨hL1, m1, Mc, x1, x2, x3, hLc, mc⟩ := cop hL k1
  have hT : Td M := h.1.2.2.2.2.2.2.2.1
  have hT1 : Td M1 := g1.2.2.2.2.2.2.2.1
  obtain ⟨n, t1, t2, t3, t4⟩ := id hT
  have h5 := hL.nd5
  unfold F_Main_blame at e1
  unfold F_Mod_blame at e2
  rw [t2, nI_1] at e1
  rw [m1 401 64 (by decide), t3] at e2
  rcases one_in0 a (n := n) (by omega) with ⟨d1, d2⟩ | ⟨k, hk, rfl, d1, d2⟩
  · rw [d1, bI_s, if_pos rfl] at e1
    rw [d2, bI_s, if_pos rfl] at e2
    exact pair_fin e1 e2 rfl
  obtain ⟨X, y1, y2, y3⟩ := c_gather hL hT (day := M 436 35) ⟨n, t1, t2, hk⟩
  rw [d1, bI_s, if_neg (by decide), hS.1.d0, y1, bI_s, y3.1] at e1
  rw [d2, bI_s, if_neg (by decide), x1, bI_s] at e2
  obtain ⟨Mq, w1, w2, w3, w4⟩ := m_copies hL1
  have eMq : Mq = Mc := Option.some.inj (w1.symm.trans x1)
  rw [eMq] at w4
  have hTc : Td Mc := hT1.keep2 (w4 383 3 (by unfold mQ; omega)) (w4 401 64 (by unfold mQ; omega)) (fun c j w => w4 c j (by unfold mQ; omega))
  have c64 : Mc 401 64 = nI n := by rw [w4 401 64 (by unfold mQ; omega), m1 401 64 (by decide), t3]
  obtain ⟨f, hf⟩ := FU_k (1 + 13 * nd) (by omega)
  obtain ⟨Y, z1⟩ := m_blame hLc hTc (k := k) (day := M 436 35) ⟨n, t1, c64, hk⟩ (x2 35 (by omega)) (13 * nd) 0 f Mc (Nat.zero_add _) Eo.rf
  have c2 : H_Mod_blame_22 (nI k) FU 0 0 Mc = some (nI (wl (wK Mc lv nf k (M 436 35)) (13 * nd)).length, Y) := by rw [hf, ← Nat.add_assoc]; exact z1
  rw [c2] at e2
  have hW : wK Mc lv nf k (M 436 35) = wK M lv nf k (M 436 35) := funext fun n => by
    unfold wK
    rw [wOk_k mc, kP_k mc (fun c j a b => by rw [w4 c j (by unfold mQ; omega), m1 c j (by omega)])]
  rw [hW] at e2
  exact pair_fin e1 e2 rfl
end SU
end PAR51
