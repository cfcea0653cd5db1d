/-! a dish cooked, by the model -/
section PAR36
section MCK
variable {ld lv nf nd ng ne : Nat} {M M' : gM}
theorem m_ckStock {N : gM} (hN : Lnd ld lv nf nd ng ne N) {v1 v2 : Int32} {r : Nat → Int32} : ∀ (s k f : Nat) (N1 : gM), k + s = nf → (∀ c j, ¬ (c = 437 ∧ j < k) → N1 c j = N c j) → (∀ j, j < 6 → N 437 j = r j) → (∀ j, j < k → N1 437 j = r j - N 438 j) →
    ∃ N', H_Mod_cooks_21 v1 v2 (f + 1 + s) (nI k) N1 = J_Mod_cooks_55 v1 v2 N' ∧ (∀ c j, ¬ (c = 437 ∧ j < nf) → N' c j = N c j) ∧ (∀ j, j < nf → N' 437 j = r j - N 438 j) := by
  have h6 := hN.nf6
  have h1 := hN.l1
  intro s
  induction s with
  | zero =>
    intro k f N1 hk e1 e2 e3
    obtain rfl : k = nf := by omega
    refine ⟨N1, ?_, e1, e3⟩
    have hN1 := hN.kQ (M' := N1) (fun c j q => e1 c j (by unfold mQ at q; omega))
    show B_Mod_cooks_21 v1 v2 (H_Mod_cooks_21 v1 v2 f) (nI k) N1 = _
    unfold B_Mod_cooks_21
    rw [hN1.l18, if_neg (nI_in (by omega) (by omega)), nI_clamp (by omega), hN1.mf, if_pos (by rw [nI_leI (by omega) (by omega)]; omega)]
  | succ s ih =>
    intro k f N1 hk e1 e2 e3
    have hN1 := hN.kQ (M' := N1) (fun c j q => e1 c j (by unfold mQ at q; omega))
    obtain ⟨N', y1, y2, y3⟩ := ih (k + 1) f (uM N1 437 k (r k - N 438 k)) (by omega) (fun c j q => by rw [uM_diff (by omega)]; exact e1 c j (by omega)) e2 (fun j hj => by
      by_cases q : j = k
      · rw [q, uM_same]
      · rw [uM_diff (by omega)]; exact e3 j (by omega))
    refine ⟨N', ?_, y2, y3⟩
    rw [← y1]
    show B_Mod_cooks_21 v1 v2 (H_Mod_cooks_21 v1 v2 (f + 1 + s)) (nI k) N1 = _
    unfold B_Mod_cooks_21
    have g1 : N1 437 k = r k := by rw [e1 437 k (by omega)]; exact e2 k (by omega)
    have g2 : N1 438 k = N 438 k := e1 438 k (by omega)
    rw [hN1.l18, if_neg (nI_in (by omega) (by omega)), nI_clamp (by omega), hN1.mf, if_neg (by rw [nI_leI (by omega) (by omega)]; omega), if_neg (nI_in (by omega) (by omega)), if_neg (nI_in (by omega) (by omega)), if_neg (nI_in (by omega) (by omega)), nI_clamp (by omega), g1, g2, nmM_e, nmI_e, nI_1]
/-- the three forces of the pot into a row -/
theorem m_ckForce {N : gM} (hN : Lnd ld lv nf nd ng ne N) {d : Nat} {sl : Option Nat} {v3 : Int32} (hd : d < nd) (hp : Pot N lv nf d sl) (hsl : ∀ x, sl = some x → x < nf) : ∀ (s k f : Nat) (N1 : gM), k + s = 3 → Eo (fun c j => mV c j ∨ (c = 437 ∧ 12 ≤ j ∧ j < 12 + k)) N N1 → (∀ j, j < k → N1 437 (12 + j) = disS N lv nf d sl j (N 437 35)) →
    ∃ N', H_Mod_cooks_198 (nI d) (N 416 (5 * lv + d)) v3 (f + 1 + s) (nI k) N1 = J_Mod_cooks_227 (nI d) v3 N' ∧ Eo (fun c j => mV c j ∨ (c = 437 ∧ 12 ≤ j ∧ j < 15)) N N' ∧ (∀ j, j < 3 → N' 437 (12 + j) = disS N lv nf d sl j (N 437 35)) := by
  intro s
  induction s with
  | zero =>
    intro k f N1 hk e1 e3
    obtain rfl : k = 3 := by omega
    exact ⟨N1, by
      show B_Mod_cooks_198 (nI d) (N 416 (5 * lv + d)) v3 (H_Mod_cooks_198 (nI d) (N 416 (5 * lv + d)) v3 f) (nI 3) N1 = _
      unfold B_Mod_cooks_198
      rw [if_pos (by decide)], e1, e3⟩
  | succ s ih =>
    intro k f N1 hk e1 e3
    have hN1 := hN.kQ (M' := N1) (fun c j q => e1 c j (by unfold mQ at q; unfold mV; omega))
    have m1 : ∀ c j, 411 ≤ c → c ≤ 432 → N1 c j = N c j := fun c j a b => e1 c j (by unfold mV; omega)
    have hp1 : Pot N1 lv nf d sl := fun f hf => by
      have e417 : potD N1 lv nf d f = potD N lv nf d f := by unfold potD; rw [m1 417 _ (by decide) (by decide)]
      rw [e1 438 f (by unfold mV; omega), e417]; exact hp f hf
    obtain ⟨N2, y1, y2⟩ := hp1.force hN1 (j := k) hsl (by omega)
    rw [m1 416 _ (by decide) (by decide), disS_k m1, e1 437 35 (by unfold mV; omega)] at y1
    obtain ⟨N', z1, z2, z3⟩ := ih (k + 1) f (uM N2 437 (12 + k) (disS N lv nf d sl k (N 437 35))) (by omega) (fun c j q => by rw [uM_diff (fun w => q (Or.inr (by omega))), y2 c j (fun w => q (Or.inl w))]; exact e1 c j (fun w => q (w.imp id (fun z => by omega)))) (fun j hj => by
      by_cases q : j = k
      · rw [q, uM_same]
      · rw [uM_diff (by omega), y2 437 _ (by unfold mV; omega)]; exact e3 j (by omega))
    refine ⟨N', ?_, z2, z3⟩
    rw [← z1]
    show B_Mod_cooks_198 (nI d) (N 416 (5 * lv + d)) v3 (H_Mod_cooks_198 (nI d) (N 416 (5 * lv + d)) v3 (f + 1 + s)) (nI k) N1 = _
    unfold B_Mod_cooks_198
    rw [show (3 : Int32) = nI 3 from rfl, if_neg (by rw [nI_leI (by omega) (by omega)]; omega), y1, bI2_s, show (12 : Int32) = nI 12 from rfl, nI_add, if_neg (nI_in (by omega) (by omega)), nI_clamp (by omega), nmM_e, nmI_e, nI_1]
theorem m_cooks (hI : Inv M) (h : Lnd ld lv nf nd ng ne M) {d : Nat} (hd : d < nd) : ∃ M', F_Mod_cooks (nI d) M = some (moreI (slS M lv nf (M 401 54) (M 437) d), M') ∧ (∀ k, k < 38 → M' 437 k = ckR M lv nf d (slS M lv nf (M 401 54) (M 437) d) (M 437) k) ∧ Kl MS1 M zL M' zL := by
  have h6 := h.nf6
  have h5 := h.nd5
  have h1 := h.l1
  have h0 := h.some_ (by omega)
  obtain ⟨r0, M9, w1, _, k9⟩ := tf_Mod_cooks (p0 := nI d) hI (by
    rw [h.l18, nI_clamp (by omega), h.md, nI_toInt (by omega), nI_toInt (by omega)]
    omega)
  have key : ∃ M', F_Mod_cooks (nI d) M = some (moreI (slS M lv nf (M 401 54) (M 437) d), M') ∧ (∀ k, k < 38 → M' 437 k = ckR M lv nf d (slS M lv nf (M 401 54) (M 437) d) (M 437) k) := by
    unfold F_Mod_cooks
    rw [h.l18, show (5 : Int32) = nI 5 from rfl, nI_mul, nI_add, if_neg (nI_in (by omega) (by omega)), nI_clamp (by omega), nmI_e, m_fillsPot h hd, bI_s]
    -- the dish in the pot
    have f1 : Eo mQ M (fl M 438 0 6 (potD M lv nf d)) := fun c j q => fl_out (by unfold mQ at q; omega)
    have e437 : ∀ i, fl M 438 0 6 (potD M lv nf d) 437 i = M 437 i := fun i => fl_out (by omega)
    have e54 : fl M 438 0 6 (potD M lv nf d) 401 54 = M 401 54 := fl_out (by omega)
    have e438 : ∀ i, i < 6 → fl M 438 0 6 (potD M lv nf d) 438 i = potD M lv nf d i := fun i hi => by rw [fl_in (by omega), Nat.sub_zero]
    generalize fl M 438 0 6 (potD M lv nf d) = N1 at f1 e437 e54 e438 ⊢
    have hN1 := h.kQ f1
    obtain ⟨N2, y1, y2, y3⟩ := m_ckStock hN1 (v1 := nI d) (v2 := M 416 (5 * lv + d)) (r := M 437) nf 0 (FU - 1 - nf) N1 (Nat.zero_add _) (fun _ _ _ => rfl) (fun j hj => e437 j) (fun j hj => absurd hj (Nat.not_lt_zero _))
    have e0 : H_Mod_cooks_21 (nI d) (M 416 (5 * lv + d)) FU 0 N1 = H_Mod_cooks_21 (nI d) (M 416 (5 * lv + d)) (FU - 1 - nf + 1 + nf) (nI 0) N1 := by
      rw [show FU - 1 - nf + 1 + nf = FU by unfold FU; omega]; rfl
    rw [e0, y1]
    have f2 : Eo mQ M N2 := f1.tr (fun c j q => y2 c j (by unfold mQ at q; omega))
    have hN2 := h.kQ f2
    have m2 := mQ_M f2
    have st2 : ∀ k, k < 38 → N2 437 k = if k < nf then M 437 k - M 417 (6 * (5 * lv + d) + k) else M 437 k := fun k hk => by
      by_cases q : k < nf
      · rw [if_pos q, y3 k q, e438 k (by omega)]
        unfold potD
        rw [if_pos q]
      · rw [if_neg q, y2 437 k (by omega), e437]
    have p2 : ∀ i, i < 6 → N2 438 i = potD N2 lv nf d i := fun i hi => by
      have : potD N2 lv nf d i = potD M lv nf d i := by unfold potD; rw [m2 417 _ (by decide) (by decide)]
      rw [this, y2 438 i (by omega), e438 i hi]
    unfold J_Mod_cooks_55
    have hpri : F_Mod_potPrice N2 = some (priS M lv nf d) := by
      rw [m_potPrice hN2, potD_pri p2 h6, priS_k m2]
    have e36 : N2 437 36 = M 437 36 := by rw [st2 36 (by omega), if_neg (by omega)]
    rw [hpri, bI_s, e36, nmM_e, m_looks, bI_s, nmM_e]
    -- looks, heat, many
    have hman : ∀ N : gM, (∀ i, N 438 i = N2 438 i) → F_Mod_potMany N = some (manS M lv nf d) := fun N e => by
      rw [m_potMany, sm_c 6 (fun k _ => e k), potD_man p2 h6, manS_k m2]
    rw [hman _ (fun i => by rw [uM_diff (by omega), uM_diff (by omega), fl_out (by omega), uM_diff (by omega)]), bI_s, nmM_e]
    have e35 : uM N2 437 36 (M 437 36 + priS M lv nf d) 437 35 = M 437 35 := by rw [uM_diff (by omega), st2 35 (by omega), if_neg (by omega)]
    rw [e35]
    generalize hN5 : uM (uM (uM (fl (uM N2 437 36 (M 437 36 + priS M lv nf d)) 434 0 9 (fun _ => 0)) 434 4 (M 437 35)) 434 1 (M 416 (5 * lv + d))) 434 3 (manS M lv nf d) = N5
    have f5 : ∀ c j, c ≠ 434 → ¬ (c = 437 ∧ j = 36) → N5 c j = N2 c j := fun c j q1 q2 => by
      rw [← hN5, uM_diff (by omega), uM_diff (by omega), uM_diff (by omega), fl_out (by omega), uM_diff (by omega)]
    have hN5L := hN2.kQ (M' := N5) (fun c j q => f5 c j (by unfold mQ at q; omega) (by unfold mQ at q; omega))
    have m5 : ∀ c j, 411 ≤ c → c ≤ 432 → N5 c j = M c j := fun c j a b => (f5 c j (by omega) (by omega)).trans (m2 c j a b)
    have e37 : N5 437 37 = M 437 37 := by rw [f5 437 37 (by omega) (by omega), st2 37 (by omega), if_neg (by omega)]
    have e54b : N5 401 54 = M 401 54 := by rw [f5 401 54 (by omega) (by omega), y2 401 54 (by omega), e54]
    have hv : ∀ i, i < 9 → N5 434 i = v9 0 (M 416 (5 * lv + d)) 0 (manS M lv nf d) (M 437 35) 0 0 0 0 i := fun i hi => by
      rw [← hN5]
      rcases (show i = 1 ∨ i = 3 ∨ i = 4 ∨ i = 0 ∨ i = 2 ∨ i = 5 ∨ i = 6 ∨ i = 7 ∨ i = 8 by omega) with q | q | q | q | q | q | q | q | q <;> subst q
      · rw [uM_diff (by omega)]; exact uM_same
      · exact uM_same
      · rw [uM_diff (by omega), uM_diff (by omega)]; exact uM_same
      all_goals (rw [uM_diff (by omega), uM_diff (by omega), uM_diff (by omega)]; exact fl_in (by omega))
    obtain ⟨N6, z1, z2⟩ := hN5L.asks (w := 3) (p := 0) (a := 0) (b := 100) (by decide) hv
    have z1' : F_Mod_asks 3 0 0 100 N5 = some (sliS M lv d (manS M lv nf d) (M 437 35), N6) := by
      rw [show F_Mod_asks 3 0 0 100 N5 = _ from z1]
      unfold sliS
      rw [lawS_keep (fun c j a b => m5 c j (by omega) (by omega))]
    rw [e37, show (F_Mod_lotOf (8 * M 437 37) 100 N5) = some (lotS 100 (N5 401 54) (8 * M 437 37)) from m_lotOf (by decide), bI_s, e54b, z1', bI2_s]
    have f6 : ∀ c j, c ≠ 434 → c ≠ 435 → ¬ (c = 401 ∧ j = 51) → ¬ (c = 437 ∧ j = 36) → N6 c j = N2 c j := fun c j a1 a2 a3 a4 => by rw [z2 c j (by omega), f5 c j a1 a4]
    have hN6 := hN2.kQ (M' := N6) (fun c j q => f6 c j (by unfold mQ at q; omega) (by unfold mQ at q; omega) (by unfold mQ at q; omega) (by unfold mQ at q; omega))
    have m6 : ∀ c j, 411 ≤ c → c ≤ 432 → N6 c j = M c j := fun c j a b => (f6 c j (by omega) (by omega) (by omega) (by omega)).trans (m2 c j a b)
    have e36b : N6 437 36 = M 437 36 + priS M lv nf d := by rw [z2 437 36 (by omega), ← hN5, uM_diff (by omega), uM_diff (by omega), uM_diff (by omega), fl_out (by omega), uM_same]
    have st6 : ∀ k, k < 38 → k ≠ 36 → N6 437 k = if k < nf then M 437 k - M 417 (6 * (5 * lv + d) + k) else M 437 k := fun k hk hk2 => by
      rw [f6 437 k (by omega) (by omega) (by omega) (by omega)]; exact st2 k hk
    have p6 : ∀ i, i < 6 → N6 438 i = potD M lv nf d i := fun i hi => by
      rw [f6 438 i (by omega) (by omega) (by omega) (by omega), p2 i hi]
      unfold potD
      rw [m2 417 _ (by decide) (by decide)]
    -- from the slip on
    have fin : ∀ sl : Option Nat, (∀ x, sl = some x → x < nf) → ∃ M', J_Mod_cooks_163 (nI d) (M 416 (5 * lv + d)) (moreI sl) N6 = some (moreI sl, M') ∧ (∀ k, k < 38 → M' 437 k = ckR M lv nf d sl (M 437) k) := by
      intro sl hsl
      -- the pot with what slipped in
      have h187 : ∀ N7 : gM, (∀ c j, c ≠ 437 → c ≠ 438 → N7 c j = N6 c j) → (∀ k, k < 38 → k ≠ 36 → N7 437 k = if k < nf then M 437 k - (M 417 (6 * (5 * lv + d) + k) + (if sl = some k then 1 else 0)) else M 437 k) → N7 437 36 = M 437 36 + priS M lv nf d → Pot N7 lv nf d sl → ∃ M', J_Mod_cooks_187 (nI d) (M 416 (5 * lv + d)) (moreI sl) N7 = some (moreI sl, M') ∧ (∀ k, k < 38 → M' 437 k = ckR M lv nf d sl (M 437) k) := by
        intro N7 e7 st7 e736 hp7
        unfold J_Mod_cooks_187
        rw [nmM_e]
        have f8 : ∀ c j, c ≠ 437 → uM N7 437 11 (nI d) c j = N7 c j := fun c j q => uM_diff (by omega)
        have hN8 : Lnd ld lv nf nd ng ne (uM N7 437 11 (nI d)) := hN6.kQ (fun c j q => by rw [f8 c j (by unfold mQ at q; omega), e7 c j (by unfold mQ at q; omega) (by unfold mQ at q; omega)])
        have m8 : ∀ c j, 411 ≤ c → c ≤ 432 → uM N7 437 11 (nI d) c j = M c j := fun c j a b => by rw [f8 c j (by omega), e7 c j (by omega) (by omega)]; exact m6 c j a b
        have hp8 : Pot (uM N7 437 11 (nI d)) lv nf d sl := fun f hf => by
          have : potD (uM N7 437 11 (nI d)) lv nf d f = potD N7 lv nf d f := by unfold potD; rw [f8 417 _ (by omega)]
          rw [this, f8 438 f (by omega)]; exact hp7 f hf
        have e35c : uM N7 437 11 (nI d) 437 35 = M 437 35 := by rw [uM_diff (by omega), st7 35 (by omega) (by omega), if_neg (by omega)]
        obtain ⟨N9, t1, t2, t3⟩ := m_ckForce hN8 (v3 := moreI sl) hd hp8 hsl 3 0 (FU - 4) (uM N7 437 11 (nI d)) (by omega) Eo.rf (fun j hj => absurd hj (Nat.not_lt_zero _))
        rw [m8 416 _ (by decide) (by decide)] at t1
        have e1 : (H_Mod_cooks_198 (nI d) (M 416 (5 * lv + d)) (moreI sl) FU 0 (uM N7 437 11 (nI d))) = H_Mod_cooks_198 (nI d) (M 416 (5 * lv + d)) (moreI sl) (FU - 4 + 1 + 3) (nI 0) (uM N7 437 11 (nI d)) := by
          rw [show FU - 4 + 1 + 3 = FU by unfold FU; omega]; rfl
        rw [e1, t1]
        unfold J_Mod_cooks_227
        rw [show (6 : Int32) = nI 6 from rfl, nI_add, if_neg (nI_in (by omega) (by omega)), if_neg (nI_in (by omega) (by omega)), nI_clamp (by omega), nmM_e, nmM_e]
        refine ⟨_, rfl, fun k hk => ?_⟩
        have u9 : ∀ k, k < 38 → k ≠ 36 → ¬ (12 ≤ k ∧ k < 15) → k ≠ 11 → N9 437 k = if k < nf then M 437 k - (M 417 (6 * (5 * lv + d) + k) + (if sl = some k then 1 else 0)) else M 437 k := fun k hk a1 a2 a3 => by
          rw [t2 437 k (by unfold mV; omega), uM_diff (by omega)]; exact st7 k hk a1
        unfold ckR
        by_cases q37 : k = 37
        · rw [q37, uM_same, uM_diff (by omega), u9 37 (by omega) (by omega) (by omega) (by omega), if_neg (by omega), if_neg (by omega), if_neg (by omega), if_neg (by omega), if_neg (by omega), if_neg (by omega), if_pos rfl]
        rw [uM_diff (by omega)]
        by_cases q6 : k = 6 + d
        · rw [q6, uM_same, u9 (6 + d) (by omega) (by omega) (by omega) (by omega), if_neg (by omega), if_neg (by omega), if_pos rfl]
        rw [uM_diff (by omega)]
        by_cases qn : k < nf
        · rw [u9 k hk (by omega) (by omega) (by omega), if_pos qn, if_pos qn]
        rw [if_neg qn, if_neg q6]
        by_cases q11 : k = 11
        · rw [if_pos q11, q11, t2 437 11 (by unfold mV; omega), uM_same]
        rw [if_neg q11]
        by_cases q12 : 12 ≤ k ∧ k < 15
        · rw [if_pos q12]
          have := t3 (k - 12) (by omega)
          rw [show 12 + (k - 12) = k by omega, disS_k m8, e35c] at this
          exact this
        rw [if_neg q12]
        by_cases q36 : k = 36
        · rw [if_pos q36, q36, t2 437 36 (by unfold mV; omega), uM_diff (by omega)]; exact e736
        rw [if_neg q36, if_neg q37, u9 k hk q36 q12 q11, if_neg qn]
      unfold J_Mod_cooks_163
      match sl, hsl, h187 with
      | none, _, h187 =>
        rw [if_pos (show moreI none < 0 by decide)]
        refine h187 N6 (fun _ _ _ _ => rfl) (fun k hk a => ?_) e36b (fun f hf => ?_)
        · rw [st6 k hk a, if_neg (show ¬ (none = some k) by simp), Int32.add_zero]
        · rw [p6 f hf, if_neg (show ¬ (none = some f) by simp)]
          unfold potD
          rw [m6 417 _ (by decide) (by decide)]
      | some x, hsl, h187 =>
        have hx := hsl x rfl
        rw [show moreI (some x) = nI x from rfl, if_neg (nI_pos (by omega)), if_neg (nI_in (by omega) (by omega)), if_neg (nI_in (by omega) (by omega)), nI_clamp (by omega), nmM_e, if_neg (nI_inc (by omega) (by omega)), if_neg (nI_inc (by omega) (by omega)), nmM_e, uM_diff (by omega), p6 x (by omega)]
        refine h187 _ (fun c j a b => ?_) (fun k hk a => ?_) ?_ (fun f hf => ?_)
        · rw [uM_diff (by omega), uM_diff (by omega)]
        · rw [uM_diff (by omega)]
          by_cases q : k = x
          · subst q
            rw [uM_same, st6 k hk a, if_pos hx, if_pos hx, if_pos rfl, i_sub3]
          · rw [uM_diff (by omega), st6 k hk a, if_neg (show ¬ (some x = some k) from fun w => q (Option.some.inj w).symm), Int32.add_zero]
        · rw [uM_diff (by omega), uM_diff (by omega)]; exact e36b
        · have e : potD (uM (uM N6 437 x (N6 437 x - 1)) 438 x (potD M lv nf d x + 1)) lv nf d f = potD M lv nf d f := by
            unfold potD
            rw [uM_diff (by omega), uM_diff (by omega), m6 417 _ (by decide) (by decide)]
          rw [e]
          by_cases q : f = x
          · subst q
            rw [uM_same, if_pos rfl]
          · rw [uM_diff (by omega), uM_diff (by omega), p6 f hf, if_neg (show ¬ (some x = some f) from fun w => q (Option.some.inj w).symm)]
    unfold slS
    obtain ⟨x, hx, ex⟩ := lotS_r (n := nf) (seed := M 401 54) (which := 8 * M 437 37 + 1) h0 (by omega)
    rw [ex, nI_tn (by omega)]
    by_cases q : lotS 100 (M 401 54) (8 * M 437 37) < sliS M lv d (manS M lv nf d) (M 437 35)
    · rw [if_neg (i32_nle_of_lt q), if_pos q, hN6.l18, if_neg (nI_in (by omega) (by omega)), nI_clamp (by omega), hN6.mf]
      have e37c : N6 437 37 = M 437 37 := by rw [st6 37 (by omega) (by omega), if_neg (by omega)]
      have e54c : N6 401 54 = M 401 54 := by rw [f6 401 54 (by omega) (by omega) (by omega) (by omega), y2 401 54 (by omega), e54]
      rw [e37c, m_lotOf (nI_ne0 h0 (by omega)), bI_s, e54c, ex]
      unfold J_Mod_cooks_147
      rw [if_neg (nI_pos (by omega)), if_neg (nI_in (by omega) (by omega)), nI_clamp (by omega), st6 x (by omega) (by omega), if_pos hx]
      by_cases w : M 437 x - M 417 (6 * (5 * lv + d) + x) = 0
      · rw [if_pos w, if_pos w]
        exact fin none (fun y q => by cases q)
      · rw [if_neg w, if_neg w]
        exact fin (some x) (fun y q => by cases q; exact hx)
    · rw [if_pos (i32_le_of_nlt q), if_neg q]
      unfold J_Mod_cooks_147
      rw [if_pos (by decide)]
      exact fin none (fun y q => by cases q)
  obtain ⟨M', t1, t2⟩ := key
  have i1 := Option.some.inj (w1.symm.trans t1)
  injection i1 with i2 i3
  subst i3
  exact ⟨M9, t1, t2, k9⟩
end MCK
end PAR36
