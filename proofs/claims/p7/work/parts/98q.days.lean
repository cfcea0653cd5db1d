/-! days, in both -/
section PAR37
def dyR (M : gM) (lv nf : Nat) (r : Nat → Int32) (k : Nat) : Int32 := if k < nf then hb 0 99 (r k + filS M lv k (r k) (r 35)) else if k = 35 then r 35 + 1 else r k
def dyI (M : gM) (lv nf : Nat) : Nat → (Nat → Int32) → Nat → Int32
  | 0, r => r
  | n + 1, r => dyI M lv nf n (dyR M lv nf r)
section DY
variable {D Q ld lv nf nd ng ne X : Nat} {M M' : gM} {r : Nat → Int32}
theorem dyR_k (e : ∀ c j, 411 ≤ c → c ≤ 432 → M' c j = M c j) : dyR M' lv nf r = dyR M lv nf r := by
  funext k
  unfold dyR
  rw [filS_k e]
theorem dyR_r {r' : Nat → Int32} (h6 : nf ≤ 6) (e : ∀ k, k < 38 → r' k = r k) : ∀ k, k < 38 → dyR M lv nf r' k = dyR M lv nf r k := fun k hk => by
  unfold dyR
  rw [e k hk, e 35 (by omega)]
theorem dyI_r (h6 : nf ≤ 6) : ∀ n (r r' : Nat → Int32), (∀ k, k < 38 → r' k = r k) → ∀ k, k < 38 → dyI M lv nf n r' k = dyI M lv nf n r k
  | 0, _, _, e => e
  | n + 1, r, r', e => dyI_r h6 n (dyR M lv nf r) (dyR M lv nf r') (dyR_r h6 e)
theorem hb_r {x : Int32} {a b : Nat} (hab : a ≤ b) (hb31 : b < 2 ^ 31) : ∃ y, a ≤ y ∧ y ≤ b ∧ hb (nI a) (nI b) x = nI y := by
  unfold hb
  by_cases q : nI a ≤ x
  · rw [if_pos q]
    by_cases w : x ≤ nI b
    · rw [if_pos w]
      rw [i_le, nI_toInt (by omega)] at q
      rw [i_le, nI_toInt hb31] at w
      exact ⟨x.toInt.toNat, by omega, by omega, i_nI (by omega)⟩
    · rw [if_neg w]; exact ⟨b, hab, Nat.le_refl _, rfl⟩
  · rw [if_neg q]; exact ⟨a, Nat.le_refl _, hab, rfl⟩
theorem c_dayL {N : gM} (hN : Lnd ld lv nf nd ng ne N) (hX : isSt X) (hS : St D Q nf X r N) {K2 : Int32 → gM → Option gM} {v2 v3 : Int32} : ∀ (s k f : Nat) (N1 : gM), k + s = nf → Kl (CX X) N zL N1 zL → (∀ c j, X ≤ c → c < X + 7 → ¬ (c = X + 2 ∧ j < k) → N1 c j = N c j) → (∀ j, j < k → N1 (X + 2) j = dyR N lv nf r j) →
    ∃ N', H_State_passDays_10 X ld K2 v2 v3 (f + 1 + s) (nI k) N1 = J_State_passDays_66 X ld K2 v2 v3 N' ∧ Kl (CX X) N zL N' zL ∧ (∀ c j, X ≤ c → c < X + 7 → ¬ (c = X + 2 ∧ j < nf) → N' c j = N c j) ∧ (∀ j, j < nf → N' (X + 2) j = dyR N lv nf r j) := by
  have h6 := hN.nf6
  have hX2 := (by decide +kernel : ∀ X ∈ lSt, (64 ≤ X ∧ X + 7 ≤ 360) ∨ (362 ≤ X ∧ X + 7 ≤ 383)) X hX
  have hs := id hS
  obtain ⟨⟨day, d1, d2, d3, d4⟩, s1, s2, s3, s4, s5, s6, s7⟩ := hs
  intro s
  induction s with
  | zero =>
    intro k f N1 hk kN e1 e3
    obtain rfl : k = nf := by omega
    refine ⟨N1, ?_, kN, e1, e3⟩
    show B_State_passDays_10 X ld K2 v2 v3 (H_State_passDays_10 X ld K2 v2 v3 f) (nI k) N1 = _
    unfold B_State_passDays_10
    rw [(hN.kCX hX kN).cf, if_pos (by rw [nI_leI (by omega) (by omega)]; omega)]
  | succ s ih =>
    intro k f N1 hk kN e1 e3
    have hN1 := hN.kCX hX kN
    have ed : N1 X 0 = r 35 := by rw [e1 X 0 (by omega) (by omega) (by omega), d2, d3]
    have est : N1 (X + 2) k = r k := by
      obtain ⟨x, _, q2, q3, _⟩ := s5 k (by omega)
      rw [e1 _ _ (by omega) (by omega) (by omega), q2, q3]
    obtain ⟨N2, y1, y2⟩ := c_fillOf hN1 (f := k) (st := r k) (day := r 35) (by omega)
    rw [filS_k (kCX_M hX kN)] at y1
    have x2 : ∀ c j, X ≤ c → c < X + 7 → N2 c j = N1 c j := fun c j a b => y2.m (C0_M (by omega) (by omega))
    have ev : hb 0 99 (r k + filS N lv k (r k) (r 35)) = dyR N lv nf r k := by unfold dyR; rw [if_pos (by omega)]
    have k3 : Kl (CX X) N zL (uM N2 (X + 2) k (dyR N lv nf r k)) zL := (kN.trans (y2.mono C0_CX)).wM (CX_o ⟨by omega, by omega⟩) rfl
    obtain ⟨N', z1, z2, z3, z4⟩ := ih (k + 1) f (uM N2 (X + 2) k (dyR N lv nf r k)) (by omega) k3 (fun c j a b q => by rw [uM_diff (by omega), x2 c j a b]; exact e1 c j a b (by omega)) (fun j hj => by
      by_cases q : j = k
      · rw [q, uM_same]
      · rw [uM_diff (by omega), x2 _ _ (by omega) (by omega)]; exact e3 j (by omega))
    refine ⟨N', ?_, z2, z3, z4⟩
    rw [← z1]
    show B_State_passDays_10 X ld K2 v2 v3 (H_State_passDays_10 X ld K2 v2 v3 (f + 1 + s)) (nI k) N1 = _
    unfold B_State_passDays_10
    rw [hN1.cf, if_neg (by rw [nI_leI (by omega) (by omega)]; omega), s_at (by omega) (by decide), bI_s, est, ed, y1, bI2_s, within_e (by decide), bI_s, ev, s_put (by omega) (by decide), bI_s, nmI_e, nI_1]
/-- a day of the class's state -/
theorem St.day (hN : Lnd ld lv nf nd ng ne M) (hS : St D Q nf X r M) (h3 : ∀ c j, X ≤ c → c < X + 7 → ¬ (c = X + 2 ∧ j < nf) → M' c j = M c j) (h4 : ∀ j, j < nf → M' (X + 2) j = dyR M lv nf r j) : St (D + 1) Q nf X (dyR M lv nf r) (uM M' X 0 (M' X 0 + 1)) := by
  have h6 := hN.nf6
  obtain ⟨⟨day, d1, d2, d3, d4⟩, s1, s2, s3, s4, s5, s6, s7⟩ := hS
  have c6 : ∀ c j, X ≤ c → c < X + 7 → ¬ (c = X + 2 ∧ j < nf) → ¬ (c = X ∧ j = 0) → uM M' X 0 (M' X 0 + 1) c j = M c j := fun c j a b q w => by rw [uM_diff w]; exact h3 c j a b q
  have rr : ∀ k, nf ≤ k → k ≠ 35 → dyR M lv nf r k = r k := fun k a b => by unfold dyR; rw [if_neg (by omega), if_neg b]
  refine ⟨⟨day + 1, by omega, ?_, ?_, fun g hg => ?_⟩, ?_, ?_, ?_, fun j hj => ?_, fun f hf => ?_, fun j hj => ?_, fun i hi => ?_⟩
  · rw [uM_same, h3 X 0 (by omega) (by omega) (by omega), d2, nI_1]
  · unfold dyR
    rw [if_neg (by omega), if_pos rfl, d3, nI_1]
  · obtain ⟨ml, m1, m2, m3, m4⟩ := d4 g hg
    rw [c6 (X + 4) g (by omega) (by omega) (by omega) (by omega), c6 (X + 5) g (by omega) (by omega) (by omega) (by omega), rr (31 + g) (by omega) (by omega), rr (15 + g) (by omega) (by omega)]
    refine ⟨ml, m1, m2, m3, ?_⟩
    rcases m4 with m4 | ⟨m5, e, m6, m7⟩
    · exact Or.inl m4
    · exact Or.inr ⟨m5, e, by omega, m7⟩
  · rw [c6 X 1 (by omega) (by omega) (by omega) (by omega), rr 36 (by omega) (by omega)]; exact s1
  · rw [c6 X 2 (by omega) (by omega) (by omega) (by omega), rr 37 (by omega) (by omega)]; exact s2
  · rw [c6 X 3 (by omega) (by omega) (by omega) (by omega), rr 11 (by omega) (by omega)]; exact s3
  · rw [c6 (X + 1) j (by omega) (by omega) (by omega) (by omega), rr (12 + j) (by omega) (by omega)]; exact s4 j hj
  · obtain ⟨x, x1, x2, x3, x4⟩ := s5 f hf
    by_cases q : f < nf
    · obtain ⟨y, _, y2, y3⟩ := hb_r (x := r f + filS M lv f (r f) (r 35)) (a := 0) (b := 99) (by decide) (by decide)
      have ev : dyR M lv nf r f = nI y := by unfold dyR; rw [if_pos q]; exact y3
      exact ⟨y, y2, by rw [uM_diff (by omega), h4 f q, ev], ev, fun w => absurd q (by omega)⟩
    · exact ⟨x, x1, by rw [c6 (X + 2) f (by omega) (by omega) (by omega) (by omega)]; exact x2, by rw [rr f (by omega) (by omega)]; exact x3, x4⟩
  · rw [c6 (X + 3) j (by omega) (by omega) (by omega) (by omega), rr (6 + j) (by omega) (by omega)]; exact s6 j hj
  · rw [c6 (X + 6) i (by omega) (by omega) (by omega) (by omega), rr (19 + i) (by omega) (by omega)]; exact s7 i hi
theorem c_passL (h : Lnd ld lv nf nd ng ne M) (hX : isSt X) {n : Nat} (hn : n < 2 ^ 20) : ∀ (s i f D : Nat) (N1 : gM) (r1 : Nat → Int32), i + s = n → Kl (CX X) M zL N1 zL → St D Q nf X r1 N1 → ∃ N', H_State_passDays_2 X ld (nI n) (f + 1 + s) (nI i) N1 = some N' ∧ St (D + s) Q nf X (dyI M lv nf s r1) N' ∧ Kl (CX X) M zL N' zL := by
  have h6 := h.nf6
  have hX2 := (by decide +kernel : ∀ X ∈ lSt, (64 ≤ X ∧ X + 7 ≤ 360) ∨ (362 ≤ X ∧ X + 7 ≤ 383)) X hX
  intro s
  induction s with
  | zero =>
    intro i f D N1 r1 hi kN hS
    obtain rfl : i = n := by omega
    refine ⟨N1, ?_, hS, kN⟩
    show B_State_passDays_2 X ld (nI i) (H_State_passDays_2 X ld (nI i) f) (nI i) N1 = _
    unfold B_State_passDays_2
    rw [if_pos (by rw [nI_leI (by omega) (by omega)]; omega)]
  | succ s ih =>
    intro i f D N1 r1 hi kN hS
    have hN1 := h.kCX hX kN
    have e0 : H_State_passDays_2 X ld (nI n) (f + 1 + (s + 1)) (nI i) N1 = B_State_passDays_2 X ld (nI n) (H_State_passDays_2 X ld (nI n) (f + 1 + s)) (nI i) N1 := rfl
    rw [e0]
    unfold B_State_passDays_2
    rw [if_neg (by rw [nI_leI (by omega) (by omega)]; omega)]
    obtain ⟨N2, y1, y2, y3, y4⟩ := c_dayL hN1 hX hS (K2 := H_State_passDays_2 X ld (nI n) (f + 1 + s)) (v2 := nI n) (v3 := nI i) nf 0 (FU - 1 - nf) N1 (Nat.zero_add _) Kl.rf (fun _ _ _ _ _ => rfl) (fun j hj => absurd hj (Nat.not_lt_zero _))
    have e1 : H_State_passDays_10 X ld (H_State_passDays_2 X ld (nI n) (f + 1 + s)) (nI n) (nI i) FU 0 N1 = H_State_passDays_10 X ld (H_State_passDays_2 X ld (nI n) (f + 1 + s)) (nI n) (nI i) (FU - 1 - nf + 1 + nf) (nI 0) N1 := by
      rw [show FU - 1 - nf + 1 + nf = FU by unfold FU; omega]; rfl
    rw [e1, y1]
    unfold J_State_passDays_66
    rw [nmM_e, nmI_e, nI_1]
    have hd := hS.day hN1 y3 y4
    rw [dyR_k (kCX_M hX kN)] at hd
    obtain ⟨N', z1, z2, z3⟩ := ih (i + 1) f (D + 1) _ _ (by omega) ((kN.trans y2).wM (CX_o ⟨by omega, by omega⟩) rfl) hd
    exact ⟨N', z1, by rw [show D + (s + 1) = D + 1 + s by omega]; exact z2, z3⟩
theorem c_passDays (h : Lnd ld lv nf nd ng ne M) (hX : isSt X) (hS : St D Q nf X r M) {n : Nat} (hn : n < 2 ^ 20) : ∃ M', F_State_passDays X ld (nI n) M = some M' ∧ St (D + n) Q nf X (dyI M lv nf n r) M' ∧ Kl (CX X) M zL M' zL := by
  unfold F_State_passDays
  obtain ⟨g, hg⟩ : ∃ g, FU = g + 1 + n := ⟨FU - 1 - n, by unfold FU; omega⟩
  rw [hg]
  exact c_passL h hX hn n 0 g D M r (Nat.zero_add _) Kl.rf hS
theorem m_dayA (h : Lnd ld lv nf nd ng ne M) : ∀ (s k f : Nat) (N1 : gM), k + s = nf → Eo (fun c j => mV c j ∨ (c = 439 ∧ j < k)) M N1 → (∀ j, j < k → N1 439 j = dyR M lv nf (M 437) j) →
    ∃ N', H_Mod_dayGoes_2 (f + 1 + s) (nI k) N1 = J_Mod_dayGoes_95 N' ∧ Eo (fun c j => mV c j ∨ (c = 439 ∧ j < nf)) M N' ∧ (∀ j, j < nf → N' 439 j = dyR M lv nf (M 437) j) := by
  have h6 := h.nf6
  have h1 := h.l1
  intro s
  induction s with
  | zero =>
    intro k f N1 hk e1 e3
    obtain rfl : k = nf := by omega
    have hN1 := h.kQ (M' := N1) (fun c j q => e1 c j (by unfold mQ at q; unfold mV; omega))
    refine ⟨N1, ?_, e1, e3⟩
    show B_Mod_dayGoes_2 (H_Mod_dayGoes_2 f) (nI k) N1 = _
    unfold B_Mod_dayGoes_2
    rw [hN1.l18, if_neg (nI_in (by omega) (by omega)), nI_clamp (by omega), hN1.mf, if_pos (by rw [nI_leI (by omega) (by omega)]; omega)]
  | succ s ih =>
    intro k f N1 hk e1 e3
    have hN1 := h.kQ (M' := N1) (fun c j q => e1 c j (by unfold mQ at q; unfold mV; omega))
    have m1 : ∀ c j, 411 ≤ c → c ≤ 432 → N1 c j = M c j := fun c j a b => e1 c j (by unfold mV; omega)
    have r1 : ∀ j, N1 437 j = M 437 j := fun j => e1 437 j (by unfold mV; omega)
    have e0 : H_Mod_dayGoes_2 (f + 1 + (s + 1)) (nI k) N1 = B_Mod_dayGoes_2 (H_Mod_dayGoes_2 (f + 1 + s)) (nI k) N1 := rfl
    have u18 : uM (uM (uM (fl N1 434 0 9 (fun _ => 0)) 434 4 (N1 437 35)) 434 2 (nI k)) 434 7 (M 437 k) 401 18 = nI lv := by rw [uM_diff (by omega), uM_diff (by omega), uM_diff (by omega), fl_out (by omega)]; exact hN1.l18
    have u437 : uM (uM (fl N1 434 0 9 (fun _ => 0)) 434 4 (N1 437 35)) 434 2 (nI k) 437 k = M 437 k := by rw [uM_diff (by omega), uM_diff (by omega), fl_out (by omega)]; exact r1 k
    have u413 : uM (uM (uM (fl N1 434 0 9 (fun _ => 0)) 434 4 (N1 437 35)) 434 2 (nI k)) 434 7 (M 437 k) 413 (6 * lv + k) = M 413 (6 * lv + k) := by rw [uM_diff (by omega), uM_diff (by omega), uM_diff (by omega), fl_out (by omega)]; exact m1 413 _ (by decide) (by decide)
    generalize hN5 : uM (uM (uM (uM (fl N1 434 0 9 (fun _ => 0)) 434 4 (N1 437 35)) 434 2 (nI k)) 434 7 (M 437 k)) 434 8 (M 413 (6 * lv + k)) = N5
    have f5 : Eo mV N1 N5 := fun c j q => by
      unfold mV at q
      rw [← hN5, uM_diff (by omega), uM_diff (by omega), uM_diff (by omega), uM_diff (by omega), fl_out (by omega)]
    have hN5L := hN1.kV f5
    have hv : ∀ i, i < 9 → N5 434 i = v9 0 0 (nI k) 0 (M 437 35) 0 0 (M 437 k) (M 413 (6 * lv + k)) i := fun i hi => by
      rw [← hN5]
      rcases (show i = 2 ∨ i = 4 ∨ i = 7 ∨ i = 8 ∨ i = 0 ∨ i = 1 ∨ i = 3 ∨ i = 5 ∨ i = 6 by omega) with q | q | q | q | q | q | q | q | q <;> subst q
      · rw [uM_diff (by omega), uM_diff (by omega)]; exact uM_same
      · rw [uM_diff (by omega), uM_diff (by omega), uM_diff (by omega), uM_same]; exact r1 35
      · rw [uM_diff (by omega)]; exact uM_same
      · exact uM_same
      all_goals (rw [uM_diff (by omega), uM_diff (by omega), uM_diff (by omega), uM_diff (by omega)]; exact fl_in (by omega))
    obtain ⟨N6, z1, z2⟩ := hN5L.asks (w := 2) (p := 0) (a := -9) (b := 9) (by decide) hv
    have z1' : F_Mod_asks 2 0 (-9) 9 N5 = some (filS M lv k (M 437 k) (M 437 35), N6) := by
      rw [show F_Mod_asks 2 0 (-9) 9 N5 = _ from z1]
      unfold filS
      rw [lawS_keep (M' := N5) (M := M) (fun c j a b => (f5 c j (by unfold mV; omega)).trans (m1 c j (by omega) (by omega)))]
    have ev : hb 0 99 (M 437 k + filS M lv k (M 437 k) (M 437 35)) = dyR M lv nf (M 437) k := by unfold dyR; rw [if_pos (by omega)]
    have e5k : N5 437 k = M 437 k := by rw [f5 437 k (by unfold mV; omega)]; exact r1 k
    obtain ⟨N', w1, w2, w3⟩ := ih (k + 1) f (uM N6 439 k (dyR M lv nf (M 437) k)) (by omega) (fun c j q => by
      have q1 : ¬ mV c j := fun w => q (Or.inl w)
      rw [uM_diff (fun w => q (Or.inr ⟨w.1, by omega⟩)), z2 c j (fun w => q1 (by unfold mV; omega)), f5 c j q1]
      exact e1 c j (fun w => q (w.imp id (fun z => ⟨z.1, by omega⟩)))) (fun j hj => by
      by_cases q : j = k
      · rw [q, uM_same]
      · rw [uM_diff (by omega), z2 439 j (by omega), f5 439 j (by unfold mV; omega)]; exact e3 j (by omega))
    refine ⟨N', ?_, w2, w3⟩
    rw [← w1, e0]
    unfold B_Mod_dayGoes_2
    rw [hN1.l18, if_neg (nI_in (by omega) (by omega)), nI_clamp (by omega), hN1.mf, if_neg (by rw [nI_leI (by omega) (by omega)]; omega), m_looks, bI_s, nmM_e, if_neg (nI_in (by omega) (by omega)), nI_clamp (by omega), u437, nmM_e, u18, show (6 : Int32) = nI 6 from rfl, nI_mul, nI_add, if_neg (nI_in (by omega) (by omega)), nI_clamp (by omega), u413, hN5, nmM_e, if_neg (nI_inc (by omega) (by omega)), z1', bI2_s, e5k, held_e, bI_s, if_neg (nI_inc (by omega) (by omega)), nmM_e, nmI_e, nI_1, ev]
theorem m_dayB (h : Lnd ld lv nf nd ng ne M) {r : Nat → Int32} : ∀ (s k f : Nat) (N1 : gM), k + s = nf → (∀ c j, ¬ (c = 437 ∧ j < k) → N1 c j = M c j) → (∀ j, j < nf → M 439 j = r j) → (∀ j, j < k → N1 437 j = r j) →
    ∃ N', H_Mod_dayGoes_97 (f + 1 + s) (nI k) N1 = J_Mod_dayGoes_128 N' ∧ (∀ c j, ¬ (c = 437 ∧ j < nf) → N' c j = M c j) ∧ (∀ j, j < nf → N' 437 j = r j) := by
  have h6 := h.nf6
  have h1 := h.l1
  intro s
  induction s with
  | zero =>
    intro k f N1 hk e1 e2 e3
    obtain rfl : k = nf := by omega
    have hN1 := h.kQ (M' := N1) (fun c j q => e1 c j (by unfold mQ at q; omega))
    refine ⟨N1, ?_, e1, e3⟩
    show B_Mod_dayGoes_97 (H_Mod_dayGoes_97 f) (nI k) N1 = _
    unfold B_Mod_dayGoes_97
    rw [hN1.l18, if_neg (nI_in (by omega) (by omega)), nI_clamp (by omega), hN1.mf, if_pos (by rw [nI_leI (by omega) (by omega)]; omega)]
  | succ s ih =>
    intro k f N1 hk e1 e2 e3
    have hN1 := h.kQ (M' := N1) (fun c j q => e1 c j (by unfold mQ at q; omega))
    obtain ⟨N', y1, y2, y3⟩ := ih (k + 1) f (uM N1 437 k (r k)) (by omega) (fun c j q => by rw [uM_diff (by omega)]; exact e1 c j (by omega)) e2 (fun j hj => by
      by_cases q : j = k
      · rw [q, uM_same]
      · rw [uM_diff (by omega)]; exact e3 j (by omega))
    refine ⟨N', ?_, y2, y3⟩
    rw [← y1]
    show B_Mod_dayGoes_97 (H_Mod_dayGoes_97 (f + 1 + s)) (nI k) N1 = _
    unfold B_Mod_dayGoes_97
    have g1 : N1 439 k = r k := by rw [e1 439 k (by omega)]; exact e2 k (by omega)
    rw [hN1.l18, if_neg (nI_in (by omega) (by omega)), nI_clamp (by omega), hN1.mf, if_neg (by rw [nI_leI (by omega) (by omega)]; omega), if_neg (nI_in (by omega) (by omega)), if_neg (nI_in (by omega) (by omega)), nI_clamp (by omega), g1, nmM_e, nmI_e, nI_1]
theorem m_dayGoes (h : Lnd ld lv nf nd ng ne M) : ∃ M', F_Mod_dayGoes M = some M' ∧ (∀ k, k < 38 → M' 437 k = dyR M lv nf (M 437) k) ∧ Eo mQ M M' := by
  have h6 := h.nf6
  unfold F_Mod_dayGoes
  obtain ⟨g, hg⟩ : ∃ g, FU = g + 1 + nf := ⟨FU - 1 - nf, by unfold FU; omega⟩
  obtain ⟨N1, y1, y2, y3⟩ := m_dayA h nf 0 g M (Nat.zero_add _) Eo.rf (fun j hj => absurd hj (Nat.not_lt_zero _))
  have hN1 := h.kQ (M' := N1) (fun c j q => y2 c j (by unfold mQ at q; unfold mV; omega))
  obtain ⟨N2, z1, z2, z3⟩ := m_dayB hN1 (r := dyR M lv nf (M 437)) nf 0 g N1 (Nat.zero_add _) (fun _ _ _ => rfl) y3 (fun j hj => absurd hj (Nat.not_lt_zero _))
  rw [hg, show (H_Mod_dayGoes_2 (g + 1 + nf) 0 M) = H_Mod_dayGoes_2 (g + 1 + nf) (nI 0) M from rfl, y1]
  unfold J_Mod_dayGoes_95
  rw [hg, show (H_Mod_dayGoes_97 (g + 1 + nf) 0 N1) = H_Mod_dayGoes_97 (g + 1 + nf) (nI 0) N1 from rfl, z1]
  unfold J_Mod_dayGoes_128
  rw [nmM_e]
  have e2 : ∀ k, nf ≤ k → N2 437 k = M 437 k := fun k hk => by rw [z2 437 k (by omega), y2 437 k (by unfold mV; omega)]
  refine ⟨_, rfl, fun k hk => ?_, fun c j q => ?_⟩
  · by_cases q35 : k = 35
    · subst q35
      rw [uM_same, e2 35 (by omega)]
      unfold dyR
      rw [if_neg (by omega), if_pos rfl]
    · rw [uM_diff (by omega)]
      by_cases qn : k < nf
      · exact z3 k qn
      · rw [e2 k (by omega)]
        unfold dyR
        rw [if_neg qn, if_neg q35]
  · unfold mQ at q
    rw [uM_diff (by omega), z2 c j (by omega), y2 c j (by unfold mV; omega)]
theorem m_goes (h : Lnd ld lv nf nd ng ne M) {n : Nat} (hn : n < 2 ^ 20) : ∃ M', F_Mod_goes (nI n) M = some M' ∧ (∀ k, k < 38 → M' 437 k = dyI M lv nf n (M 437) k) ∧ Eo mQ M M' := by
  have h6 := h.nf6
  have key : ∀ (s i f : Nat) (N1 : gM) (r1 : Nat → Int32), i + s = n → Eo mQ M N1 → (∀ k, k < 38 → N1 437 k = r1 k) → ∃ N', H_Mod_goes_2 (nI n) (f + 1 + s) (nI i) N1 = some N' ∧ (∀ k, k < 38 → N' 437 k = dyI M lv nf s r1 k) ∧ Eo mQ M N' := by
    intro s
    induction s with
    | zero =>
      intro i f N1 r1 hi kN e
      obtain rfl : i = n := by omega
      refine ⟨N1, ?_, e, kN⟩
      show B_Mod_goes_2 (nI i) (H_Mod_goes_2 (nI i) f) (nI i) N1 = _
      unfold B_Mod_goes_2
      rw [if_pos (by rw [nI_leI (by omega) (by omega)]; omega)]
    | succ s ih =>
      intro i f N1 r1 hi kN e
      obtain ⟨N2, y1, y2, y3⟩ := m_dayGoes (h.kQ kN)
      rw [dyR_k (mQ_M kN)] at y2
      obtain ⟨N', z1, z2, z3⟩ := ih (i + 1) f N2 (dyR M lv nf r1) (by omega) (kN.tr y3) (fun k hk => by rw [y2 k hk]; exact dyR_r h6 e k hk)
      refine ⟨N', ?_, z2, z3⟩
      rw [← z1]
      show B_Mod_goes_2 (nI n) (H_Mod_goes_2 (nI n) (f + 1 + s)) (nI i) N1 = _
      unfold B_Mod_goes_2
      rw [if_neg (by rw [nI_leI (by omega) (by omega)]; omega), y1, bI_s, nmI_e, nI_1]
  unfold F_Mod_goes
  obtain ⟨g, hg⟩ : ∃ g, FU = g + 1 + n := ⟨FU - 1 - n, by unfold FU; omega⟩
  rw [hg]
  exact key n 0 g M (M 437) (Nat.zero_add _) Eo.rf (fun _ _ => rfl)
/-! a guest eats what is served -/
def eaR (r : Nat → Int32) (g k : Nat) : Int32 := if k = 15 + g then r 35 else if 19 + 3 * g ≤ k ∧ k < 22 + 3 * g then r (12 + (k - (19 + 3 * g))) else if k = 31 + g then r (31 + g) + 1 else r k
theorem c_eatServed (hS : St D Q nf X r M) (hX : isSt X) {g : Nat} (hg : g < 4) : ∃ M', F_State_eatServed X (nI g) M = some M' ∧ St D (Q + 1) nf X (eaR r g) M' ∧ Kl (CX X) M zL M' zL := by
  have hX2 := (by decide +kernel : ∀ X ∈ lSt, (64 ≤ X ∧ X + 7 ≤ 360) ∨ (362 ≤ X ∧ X + 7 ≤ 383)) X hX
  obtain ⟨⟨day, d1, d2, d3, d4⟩, s1, s2, s3, s4, s5, s6, s7⟩ := hS
  have key : F_State_eatServed X (nI g) M = some (uM (uM (uM (uM (uM M (X + 6) (3 * g) (r 12)) (X + 6) (3 * g + 1) (r 13)) (X + 6) (3 * g + 2) (r 14)) (X + 5) g (r 35)) (X + 4) g (r (31 + g) + 1)) := by
    unfold F_State_eatServed
    obtain ⟨q, hq⟩ := FU_k 4 (by omega)
    rw [hq]
    have step : ∀ (f k : Nat) (N : gM), k < 3 → N (X + 1) k = r (12 + k) → H_State_eatServed_2 X (nI g) (f + 1) (nI k) N = H_State_eatServed_2 X (nI g) f (nI (k + 1)) (uM N (X + 6) (3 * g + k) (r (12 + k))) := fun f k N hk e => by
      show B_State_eatServed_2 X (nI g) (H_State_eatServed_2 X (nI g) f) (nI k) N = _
      unfold B_State_eatServed_2
      rw [show (3 : Int32) = nI 3 from rfl, if_neg (by rw [nI_leI (by omega) (by omega)]; omega), s_at (by omega) (by decide), bI_s, e, nI_mul, nI_add, s_put (by omega) (by decide), bI_s, nmI_e, nI_1, Nat.mul_comm g 3]
    rw [show (H_State_eatServed_2 X (nI g) (q + 4) 0 M) = H_State_eatServed_2 X (nI g) (q + 3 + 1) (nI 0) M from rfl, step (q + 3) 0 M (by decide) (s4 0 (by decide)), show (H_State_eatServed_2 X (nI g) (q + 3) (nI (0 + 1)) (uM M (X + 6) (3 * g + 0) (r (12 + 0)))) = H_State_eatServed_2 X (nI g) (q + 2 + 1) (nI 1) (uM M (X + 6) (3 * g) (r 12)) from rfl, step (q + 2) 1 _ (by decide) (by rw [uM_diff (by omega)]; exact s4 1 (by decide)), show (H_State_eatServed_2 X (nI g) (q + 2) (nI (1 + 1)) (uM (uM M (X + 6) (3 * g) (r 12)) (X + 6) (3 * g + 1) (r (12 + 1)))) = H_State_eatServed_2 X (nI g) (q + 1 + 1) (nI 2) (uM (uM M (X + 6) (3 * g) (r 12)) (X + 6) (3 * g + 1) (r 13)) from rfl, step (q + 1) 2 _ (by decide) (by rw [uM_diff (by omega), uM_diff (by omega)]; exact s4 2 (by decide))]
    show B_State_eatServed_2 X (nI g) (H_State_eatServed_2 X (nI g) q) (nI 3) _ = _
    unfold B_State_eatServed_2 J_State_eatServed_33
    obtain ⟨ml, m1, m2, m3, m4⟩ := d4 g hg
    rw [if_pos (by decide), s_put (by omega) (by decide), bI_s, s_at (by omega) (by decide), bI_s, s_put (by omega) (by decide), bI_s, uM_diff (a := X + 6) (by omega), uM_diff (a := X + 6) (by omega), uM_diff (a := X + 6) (by omega), d2, ← d3]
    have e4 : uM (uM (uM (uM M (X + 6) (3 * g) (r 12)) (X + 6) (3 * g + 1) (r 13)) (X + 6) (3 * g + 2) (r (12 + 2))) (X + 5) g (r 35) (X + 4) g = r (31 + g) := by
      rw [uM_diff (by omega), uM_diff (by omega), uM_diff (by omega), uM_diff (by omega), m2, m3]
    rw [e4]
  obtain ⟨M1, e1, k1⟩ := tf_State_eatServed (X0 := X) (p1 := nI g) (M := M) hX
  have i1 := Option.some.inj (e1.symm.trans key)
  refine ⟨_, key, ?_, by rw [← i1]; exact k1⟩
  have rr : ∀ k, k ≠ 15 + g → ¬ (19 + 3 * g ≤ k ∧ k < 22 + 3 * g) → k ≠ 31 + g → eaR r g k = r k := fun k a b c => by unfold eaR; rw [if_neg a, if_neg b, if_neg c]
  refine ⟨⟨day, d1, ?_, ?_, fun g2 hg2 => ?_⟩, ?_, ?_, ?_, fun j hj => ?_, fun f hf => ?_, fun j hj => ?_, fun i hi => ?_⟩
  · rw [uM_diff (by omega), uM_diff (by omega), uM_diff (by omega), uM_diff (by omega), uM_diff (by omega)]; exact d2
  · rw [rr 35 (by omega) (by omega) (by omega)]; exact d3
  · obtain ⟨ml, m1, m2, m3, m4⟩ := d4 g2 hg2
    by_cases q : g2 = g
    · subst q
      refine ⟨ml + 1, by omega, ?_, ?_, Or.inr ⟨by omega, day, Nat.le_refl _, ?_, ?_⟩⟩
      · rw [uM_same, m3, nI_1]
      · unfold eaR
        rw [if_neg (by omega), if_neg (by omega), if_pos rfl, m3, nI_1]
      · rw [uM_diff (by omega), uM_same, d3]
      · unfold eaR
        rw [if_pos rfl, d3]
    · rw [rr (31 + g2) (by omega) (by omega) (by omega), rr (15 + g2) (by omega) (by omega) (by omega), uM_diff (by omega), uM_diff (by omega), uM_diff (by omega), uM_diff (by omega), uM_diff (by omega), uM_diff (by omega), uM_diff (by omega), uM_diff (by omega), uM_diff (by omega), uM_diff (by omega)]
      exact ⟨ml, by omega, m2, m3, m4⟩
  · rw [rr 36 (by omega) (by omega) (by omega), uM_diff (by omega), uM_diff (by omega), uM_diff (by omega), uM_diff (by omega), uM_diff (by omega)]; exact s1
  · rw [rr 37 (by omega) (by omega) (by omega), uM_diff (by omega), uM_diff (by omega), uM_diff (by omega), uM_diff (by omega), uM_diff (by omega)]; exact s2
  · rw [rr 11 (by omega) (by omega) (by omega), uM_diff (by omega), uM_diff (by omega), uM_diff (by omega), uM_diff (by omega), uM_diff (by omega)]; exact s3
  · rw [rr (12 + j) (by omega) (by omega) (by omega), uM_diff (by omega), uM_diff (by omega), uM_diff (by omega), uM_diff (by omega), uM_diff (by omega)]; exact s4 j hj
  · rw [rr f (by omega) (by omega) (by omega), uM_diff (by omega), uM_diff (by omega), uM_diff (by omega), uM_diff (by omega), uM_diff (by omega)]; exact s5 f hf
  · rw [rr (6 + j) (by omega) (by omega) (by omega), uM_diff (by omega), uM_diff (by omega), uM_diff (by omega), uM_diff (by omega), uM_diff (by omega)]; exact s6 j hj
  · rw [uM_diff (by omega), uM_diff (by omega)]
    by_cases q0 : i = 3 * g
    · rw [q0, uM_diff (by omega), uM_diff (by omega), uM_same]
      unfold eaR
      rw [if_neg (by omega), if_pos (by omega), show 12 + (19 + 3 * g - (19 + 3 * g)) = 12 by omega]
    by_cases q1 : i = 3 * g + 1
    · rw [q1, uM_diff (by omega), uM_same]
      unfold eaR
      rw [if_neg (by omega), if_pos (by omega), show 12 + (19 + (3 * g + 1) - (19 + 3 * g)) = 13 by omega]
    by_cases q2 : i = 3 * g + 2
    · rw [q2, uM_same]
      unfold eaR
      rw [if_neg (by omega), if_pos (by omega), show 12 + (19 + (3 * g + 2) - (19 + 3 * g)) = 14 by omega]
    · rw [uM_diff (by omega), uM_diff (by omega), uM_diff (by omega), rr (19 + i) (by omega) (by omega) (by omega)]
      exact s7 i hi
end DY
end PAR37
