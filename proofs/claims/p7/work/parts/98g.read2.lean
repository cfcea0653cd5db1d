/-! read -/
section PAR22
/-- what a read that fails leaves alone -/
def stC (c j : Nat) : Prop := (64 ≤ c ∧ c < 383) ∨ c = 436 ∨ c = 440 ∨ c = 446 ∨ (c = 401 ∧ j = 57)
/-- the state as it begins -/
def Fr (ld : Nat) (M : gM) : Prop := (∀ j, j < 3 → M 64 j = 0) ∧ M 64 3 = -2 ∧ (∀ j, j < 3 → M 65 j = 0) ∧ (∃ nf, nf ≤ 6 ∧ M ld 0 = nI nf ∧ ∀ f, f < 6 → ∃ x, x ≤ 99 ∧ M 66 f = nI x ∧ M 436 f = nI x ∧ (nf ≤ f → x = 0)) ∧ (∀ j, j < 5 → M 67 j = 0) ∧ (∀ j, j < 4 → M 68 j = 0) ∧ (∀ j, j < 4 → M 69 j = 0) ∧ (∀ j, j < 12 → M 70 j = 0) ∧ (∀ k, 6 ≤ k → k < 38 → M 436 k = if k = 11 ∨ (15 ≤ k ∧ k < 19) then -2 else 0) ∧ M 78 1 = 0 ∧ M 78 2 = 0 ∧ M 360 1 = 0 ∧ M 401 57 = 0
theorem c_beginDraft {ld nf : Nat} {M : gM} (hld : isLa ld) (hf : nf ≤ 6) (h : M (50 - ld) 0 = nI nf) : ∃ M', F_Main_beginDraft ld M = some M' ∧ ((∀ j, j < 3 → M' 64 j = 0) ∧ M' 64 3 = -2 ∧ (∀ j, j < 3 → M' 65 j = 0) ∧ (∀ j, j < 6 → M' 66 j = if j < nf then M (50 - ld + 1) j else 0) ∧ (∀ j, j < 5 → M' 67 j = 0) ∧ (∀ j, j < 4 → M' 68 j = 0) ∧ (∀ j, j < 4 → M' 69 j = 0) ∧ (∀ j, j < 12 → M' 70 j = 0)) ∧ (M' 78 1 = 0 ∧ M' 78 2 = 0 ∧ M' 360 1 = 0 ∧ M' 383 3 = 0) ∧ Eo (fun c j => (64 ≤ c ∧ c < 71) ∨ (c = 78 ∧ (j = 1 ∨ j = 2)) ∨ (c = 360 ∧ j = 1) ∨ (c = 383 ∧ j = 3)) M M' := by
  unfold F_Main_beginDraft F_Past_clear F_Slots_clear F_Told_clear
  have h64 : 50 - ld + 2 ≤ 64 := by rcases La_cases hld with e | e <;> omega
  obtain ⟨M', a1, a2, a3, a4, a5, a6, a7, a8, a9, a10⟩ := s_begin (X := 64) (M := M) h64 hf h
  rw [a1, bI_s, nmM_e, nmM_e, bI_s, nmM_e, bI_s, nmM_e, bI_s]
  refine ⟨_, rfl, ⟨fun j hj => ?_, ?_, fun j hj => ?_, fun j hj => ?_, fun j hj => ?_, fun j hj => ?_, fun j hj => ?_, fun j hj => ?_⟩, ⟨?_, ?_, ?_, uM_same⟩, fun c j q => ?_⟩
  · rw [uM_diff (by omega), uM_diff (by omega), uM_diff (by omega), uM_diff (by omega)]; exact a2 j hj
  · rw [uM_diff (by omega), uM_diff (by omega), uM_diff (by omega), uM_diff (by omega)]; exact a3
  · rw [uM_diff (by omega), uM_diff (by omega), uM_diff (by omega), uM_diff (by omega)]; exact a4 j hj
  · rw [uM_diff (by omega), uM_diff (by omega), uM_diff (by omega), uM_diff (by omega)]; exact a5 j hj
  · rw [uM_diff (by omega), uM_diff (by omega), uM_diff (by omega), uM_diff (by omega)]; exact a6 j hj
  · rw [uM_diff (by omega), uM_diff (by omega), uM_diff (by omega), uM_diff (by omega)]; exact a7 j hj
  · rw [uM_diff (by omega), uM_diff (by omega), uM_diff (by omega), uM_diff (by omega)]; exact a8 j hj
  · rw [uM_diff (by omega), uM_diff (by omega), uM_diff (by omega), uM_diff (by omega)]; exact a9 j hj
  · rw [uM_diff (by omega), uM_diff (by omega), uM_diff (by omega), uM_same]
  · rw [uM_diff (by omega), uM_diff (by omega), uM_same]
  · rw [uM_diff (by omega), uM_same]
  · rw [uM_diff (by omega), uM_diff (by omega), uM_diff (by omega), uM_diff (by omega), a10 c j (by omega)]
/-- what the class's read does behind its parser -/
def CR (ld k : Nat) (M3 M1 : gM) : Prop := ((k ≠ 0 ∧ Eo (fun c j => (c = 0 ∧ j = 11) ∨ (c = 1 ∧ j = 1)) M3 M1) ∨        (k = 0 ∧ (∃ nf, nf ≤ 6 ∧ M3 (50 - ld) 0 = nI nf ∧ (∀ j, j < 3 → M1 64 j = 0) ∧ M1 64 3 = -2 ∧ (∀ j, j < 3 → M1 65 j = 0) ∧ (∀ j, j < 6 → M1 66 j = if j < nf then M3 (50 - ld + 1) j else 0) ∧ (∀ j, j < 5 → M1 67 j = 0) ∧ (∀ j, j < 4 → M1 68 j = 0) ∧ (∀ j, j < 4 → M1 69 j = 0) ∧ (∀ j, j < 12 → M1 70 j = 0)) ∧ (M1 78 1 = 0 ∧ M1 78 2 = 0 ∧ M1 360 1 = 0 ∧ M1 383 3 = 0) ∧ Eo (fun c j => (c = 0 ∧ j = 11) ∨ (c = 1 ∧ j = 1) ∨ (64 ≤ c ∧ c < 71) ∨ (c = 78 ∧ (j = 1 ∨ j = 2)) ∨ (c = 360 ∧ j = 1) ∨ (c = 383 ∧ j = 3)) M3 M1))
/-- the class's read, behind its parser -/
theorem c_read {ld k : Nat} {M M3 : gM} {L L3 : gL} {pl : Int32} (hld : isLa ld) (hk : k ≤ 5) (hp : F_Reader_parse (50 - ld) M L = some (nI k, M3, L3)) (hpl : F_Reader_placeOfFault M3 = some pl) (h0 : k = 0 → ∃ nf, nf ≤ 6 ∧ M3 (50 - ld) 0 = nI nf) :
    ∃ M1, F_Main_read ld M L = some (nI k, M1, L3, if k = 0 then 50 - ld else ld) ∧ M1 0 11 = pl ∧ M1 1 1 = 0 ∧
      CR ld k M3 M1 := by
  have hl2 := La_cases hld
  unfold F_Main_read CR
  rw [hp]
  show ∃ M1, bI (F_Reader_placeOfFault M3) _ = _ ∧ _
  rw [hpl, bI_s, nmM_e, nmM_e]
  by_cases h : k = 0
  · obtain ⟨nf, b1, b2⟩ := h0 h
    obtain ⟨M', a1, ⟨a2, a3, a4, a5, a6, a7, a8, a9⟩, a10, a11⟩ := c_beginDraft (M := uM (uM M3 0 11 pl) 1 1 0) hld b1 (by rw [uM_diff (by omega), uM_diff (by omega)]; exact b2)
    rw [if_pos (by rw [h]; rfl), a1, bI_s, if_pos h]
    refine ⟨M', rfl, ?_, ?_, Or.inr ⟨h, ⟨nf, b1, b2, a2, a3, a4, fun j hj => ?_, a6, a7, a8, a9⟩, a10, fun c j q => ?_⟩⟩
    · rw [a11 0 11 (by omega), uM_diff (by omega), uM_same]
    · rw [a11 1 1 (by omega), uM_same]
    · rw [a5 j hj, uM_diff (by omega), uM_diff (by omega)]
    · rw [a11 c j (by omega), uM_diff (by omega), uM_diff (by omega)]
  · rw [if_neg (nI_ne0 (Nat.pos_of_ne_zero h) (by omega)), if_neg h]
    refine ⟨_, rfl, ?_, uM_same, Or.inl ⟨h, fun c j q => ?_⟩⟩
    · rw [uM_diff (by omega), uM_same]
    · rw [uM_diff (by omega), uM_diff (by omega)]
/-- the model's read, behind its parser, of a good text -/
theorem m_readE {sd nf : Nat} {N : gM} {K : gL} (hsd : sd ≤ 1) (hf : nf ≤ 6) (h13 : N 401 13 = 0) (h15 : N 401 15 = 0) (h19 : N 401 19 = nI sd) (h411 : N 411 sd = nI nf) :
    ∃ M2, J_Mod_read_164 (-1) N K = some (0, M2, K) ∧ M2 401 17 = -1 ∧ M2 401 18 = nI sd ∧ M2 401 57 = 0 ∧ M2 401 64 = 0 ∧ (∀ s, s < 3 → M2 445 s = 0) ∧ (∀ k, k < 38 → M2 436 k = if k < nf then N 412 (6 * sd + k) else if k = 11 ∨ (15 ≤ k ∧ k < 19) then -2 else 0) ∧ Eo (fun c j => c = 436 ∨ c = 437 ∨ c = 445 ∨ (c = 401 ∧ (j = 17 ∨ j = 18 ∨ j = 54 ∨ j = 57 ∨ j = 64))) N M2 := by
  unfold J_Mod_read_164
  obtain ⟨g, hg⟩ := FU_k (1 + 3) (by omega)
  have e1 : ∀ j, j ≠ 17 → uM N 401 17 (-1) 401 j = N 401 j := fun j hj => uM_diff (by omega)
  rw [nmM_e, e1 13 (by decide), h13, if_pos (by decide), e1 15 (by decide), h15, if_pos (by decide), e1 19 (by decide), h19, nmM_e]
  obtain ⟨M', a1, a2, a3, a4⟩ := s_begins (lv := sd) (nf := nf) (M := uM (uM N 401 17 (-1)) 401 18 (nI sd)) (by omega) hf uM_same (by rw [uM_diff (by omega), uM_diff (by omega)]; exact h411)
  rw [a1, bI_s, s_keepsRow, bI_s, nmM_e, nmM_e, hg, ← Nat.add_assoc, show (H_Mod_read_219 K (g + 1 + 3) 0 : gM → Option (Int32 × gM × gL)) = H_Mod_read_219 K (g + 1 + 3) (nI 0) from rfl, unh_loop 3 0 _ _ (by omega)]
  have b : ∀ j, j ≠ 57 → j ≠ 64 → fl (uM (uM (fl M' 436 0 38 (M' 437)) 401 57 0) 401 64 0) 445 0 3 (fun _ => vp_nar .boolean 0) 401 j = M' 401 j := fun j x y => by
    rw [fl_out (by omega), uM_diff (by omega), uM_diff (by omega), fl_out (by omega)]
  refine ⟨_, rfl, ?_, ?_, ?_, ?_, fun s hs => ?_, fun k hk => ?_, fun c j q => ?_⟩
  · rw [b 17 (by decide) (by decide), a4 401 17 (by omega), uM_diff (by omega), uM_same]
  · rw [b 18 (by decide) (by decide), a4 401 18 (by omega), uM_same]
  · rw [fl_out (by omega), uM_diff (by omega), uM_same]
  · rw [fl_out (by omega), uM_same]
  · rw [fl_in (by omega)]
    rfl
  · rw [fl_out (by omega), uM_diff (by omega), uM_diff (by omega), fl_in (by omega), Nat.sub_zero, a2 k hk, uM_diff (by omega), uM_diff (by omega)]
  · rw [fl_out (by omega), uM_diff (by omega), uM_diff (by omega), fl_out (by omega), a4 c j (by omega), uM_diff (by omega), uM_diff (by omega)]
/-- the places of the VARs of laws -/
def vaC (c : Nat) : Prop := c = 23 ∨ c = 27 ∨ c = 31 ∨ c = 35 ∨ c = 49 ∨ c = 53 ∨ c = 57 ∨ c = 61
theorem g_read {ld : Nat} {M : gM} {L : gL} (h : G0 ld M L) : ∃ k M1 L1 ld1 M2 L2, F_Main_read ld M L = some (nI k, M1, L1, ld1) ∧ F_Mod_read M1 L1 = some (nI k, M2, L2) ∧ G0 ld1 M2 L2 ∧ (∀ c j, vaC c → M2 c j = M c j) ∧ ((k ≠ 0 ∧ ld1 = ld ∧ M2 ld 0 = M ld 0 ∧ ∀ c j, stC c j → M2 c j = M c j) ∨ (k = 0 ∧ Fr ld1 M2)) := by
  obtain ⟨⟨b, n, hT, hQ⟩, hld, hWc, hWm, hI, ⟨lv, hlv, h18, hD⟩, h11, hTd, hSl⟩ := h
  have hl2 := La_cases hld
  have hld' : isLa (50 - ld) := by
    rcases hl2 with e | e
    · rw [e]; exact (by decide : (38 : Nat) ∈ lLa)
    · rw [e]; exact (by decide : (12 : Nat) ∈ lLa)
  have hn := hT.2.1
  generalize hsdE : 1 - lv = sd
  have hsd : sd ≤ 1 := by omega
  have hlsd : lv = 1 - sd := by omega
  -- the class alone
  obtain ⟨ka, M3, La, pla, hka, hpar, hpla, hnf, cfr, cL⟩ : ∃ ka M3 La pla, ka ≤ 5 ∧ F_Reader_parse (50 - ld) M L = some (nI ka, M3, La) ∧ F_Reader_placeOfFault M3 = some pla ∧ (ka = 0 → ∃ nf, nf ≤ 6 ∧ M3 (50 - ld) 0 = nI nf) ∧ (∀ c j, PD (50 - ld) c j = false → c ≠ 6 → c ≠ 7 → M3 c j = M c j) ∧ (∀ c j, c ≠ 8 → c ≠ 9 → La c j = L c j) := by
    have hX0 : Tx b n (fl (uM M 401 4 (M 401 2)) 403 0 n (fun j => vp_nar .byte (M 402 j))) := by
      refine ⟨?_, hn, fun j hj => ⟨?_, (hT.2.2 j hj).2⟩⟩
      · rw [fl_out (by omega), uM_same, hQ.1]
      · rw [fl_in (by omega), Nat.sub_zero]; exact hQ.2 j hj
    obtain ⟨m0, Ma, La, Na, Ka, p1, p2, p3, p4, p5, p6, p7, p8, p9, p10⟩ := p_parse (sd := sd) hld' hsd hT hWc hX0 hWm (by rw [fl_out (by omega), uM_diff (by omega), h18, hlsd])
    obtain ⟨ka, M3, pla, a1, a2, a3, a4, a5, a6⟩ := p_ans p3 p6 p7
    refine ⟨ka, M3, La, pla, a1, p1.trans a2, a3, fun q => ?_, fun c j q1 q2 q3 => ?_, p9⟩
    · rcases a6 with ⟨_, _, _, _, _, t', nf, nd, ng, ne, l, a, c, i, hR⟩ | ⟨x, _⟩
      · exact ⟨nf, hR.2.2.1.1.2.2, by rw [a5 _ _ (by omega)]; exact hR.2.2.1.1.1⟩
      · exact absurd q x
    · have q4 := PD_n q1
      rw [a5 c j (by omega), p8 c j q1 q2 q3]
  have cfr2 : ∀ c j, c ≠ 3 → c ≠ 6 → c ≠ 7 → c ≠ 10 → c ≠ 11 → ¬ (50 - ld ≤ c ∧ c < 50 - ld + 26) → M3 c j = M c j := fun c j x1 x2 x3 x4 x5 x6 => cfr c j (PD_m (by omega)) x2 x3
  obtain ⟨M1, hrd, m11, m1t, hcl⟩ := c_read hld hka hpar hpla hnf
  clear hnf
  have clE : Eo (fun c j => (c = 0 ∧ j = 11) ∨ (c = 1 ∧ j = 1) ∨ (64 ≤ c ∧ c < 71) ∨ (c = 78 ∧ (j = 1 ∨ j = 2)) ∨ (c = 360 ∧ j = 1) ∨ (c = 383 ∧ j = 3)) M3 M1 := by
    unfold CR at hcl
    rcases hcl with ⟨_, q⟩ | ⟨_, _, _, q⟩
    · exact q.mono (fun c j w => by omega)
    · exact q
  have m1M : ∀ c j, 384 ≤ c → M1 c j = M c j := fun c j q => by rw [clE c j (by omega), cfr2 c j (by omega) (by omega) (by omega) (by omega) (by omega) (by omega)]
  -- the model, behind the class
  have hc2 : M1 401 2 = nI n := (m1M 401 2 (by omega)).trans hQ.1
  obtain ⟨N1, hN1, f1, f2, f3⟩ : ∃ N1, F_Mod_read M1 La = J_Mod_read_36 N1 La ∧ Eo (fun c j => (c = 401 ∧ j = 4) ∨ c = 403) M1 N1 ∧ N1 401 4 = nI n ∧ ∀ j, j < n → N1 403 j = vp_nar .byte (M1 402 j) := by
    refine ⟨fl (uM M1 401 4 (nI n)) 403 0 n (fun j => vp_nar .byte (uM M1 401 4 (nI n) 402 (0 + j))), ?_, fun c j q => ?_, ?_, fun j hj => ?_⟩
    · unfold F_Mod_read
      obtain ⟨g, hg⟩ := FU_k (1 + n) (by omega)
      rw [hc2, nmM_e, hg, ← Nat.add_assoc, show (H_Mod_read_10 La (g + 1 + n) 0 : gM → Option (Int32 × gM × gL)) = H_Mod_read_10 La (g + 1 + n) (nI 0) from rfl]
      exact txt_loop hn n 0 g _ uM_same (by omega)
    · rw [fl_out (by omega), uM_diff (by omega)]
    · rw [fl_out (by omega), uM_same]
    · rw [fl_in (by omega), uM_diff (by omega), Nat.sub_zero, Nat.zero_add]
  have hX1 : Tx b n N1 := ⟨f2, hn, fun j hj => ⟨by rw [f3 j hj, m1M 402 j (by omega)]; exact hQ.2 j hj, (hT.2.2 j hj).2⟩⟩
  have hWm1 : Wdm La := fun w hw => (cL 408 w (by decide) (by decide)).trans (hWm w hw)
  obtain ⟨m, Mb, Lb, Nb, Kb, q1, q2, q3, q4, q5, q6, q7, q8, q9, q10⟩ := p_parse (sd := sd) hld' hsd hT hWc hX1 hWm1 (by rw [f1 401 18 (by omega), m1M 401 18 (by omega), h18, hlsd])
  obtain ⟨kb, M3b, plb, b1, b2, b3, b4, b5, b6⟩ := p_ans q3 q6 q7
  have hpar2 := hpar.symm.trans (q1.trans b2)
  have i1 := Option.some.inj hpar2
  injection i1 with i2 i3
  injection i3 with i3 i4
  have ekb : ka = kb := (nI_eq (by omega) (by omega)).mp i2
  subst ekb
  subst i3
  subst i4
  have epl : pla = plb := Option.some.inj (hpla.symm.trans b3)
  subst epl
  have hm0 : F_Mod_read M1 La = J_Mod_read_164 pla Nb Kb := hN1.trans (q2.trans b4)
  have nbF : ∀ c j, ¬ (mP sd c j ∨ tkS c j ∨ (c = 401 ∧ (j = 2 ∨ j = 19))) → ¬ ((c = 401 ∧ j = 4) ∨ c = 403) → Nb c j = M1 c j := fun c j x y => (q4 c j x).trans (f1 c j y)
  have nbC : ∀ c j, c ≤ 400 → Nb c j = M1 c j := fun c j x => nbF c j (by unfold mP mT tkS; omega) (by omega)
  have nbS : ∀ c j, sideC lv c j → Nb c j = M c j := fun c j x => by
    have x2 := sideC_r x
    rw [nbF c j (by unfold sideC at x; unfold mP mT tkS; omega) (by omega), m1M c j (by omega)]
  have nbX : ∀ c j, (433 < c ∨ c = 402) → Nb c j = M c j := fun c j x => by
    rw [nbF c j (by unfold mP mT tkS; omega) (by omega), m1M c j (by omega)]
  have nbY : ∀ j, (j = 18 ∨ j = 57 ∨ j = 64) → Nb 401 j = M 401 j := fun j x => by
    rw [nbF 401 j (by unfold mP mT tkS; omega) (by omega), m1M 401 j (by omega)]
  have hWcK : Wdc Kb := fun w hw => (q5 5 w (by decide) (by decide)).trans ((cL 5 w (by decide) (by decide)).trans (hWc w hw))
  have hWmK : Wdm Kb := fun w hw => (q5 408 w (by decide) (by decide)).trans (hWm1 w hw)
  have tpE : ∀ M2 : gM, M2 1 1 = 0 → M2 401 2 = 0 → ∃ b n, Tp b n M2 ∧ Tq b n M2 := fun M2 x y => ⟨b, 0, ⟨x, by omega, fun j hj => absurd hj (Nat.not_lt_zero _)⟩, ⟨y, fun j hj => absurd hj (Nat.not_lt_zero _)⟩⟩
  have cbO : ∀ c j, (c = 411 ∨ c = 415 ∨ c = 418 ∨ c = 420) → j ≠ sd → Nb c j = M c j := fun c j x y => by
    rw [nbF c j (by unfold mP mT tkS; omega) (by omega), m1M c j (by omega)]
  rcases b6 with ⟨k0, p0, h34, h13, h15, t', nf, nd, ng, ne, l, a, c, i, hR⟩ | ⟨k0, hres, hmc⟩
  · -- a good text
    obtain ⟨hI1, ⟨r19, r12, r44, r38, rc, ri⟩, hCt, hMn, hAv, hDat, hLw⟩ := id hR
    have hlv2 := hI1.2.1
    have hm := hI1.1.m400
    have htm := hlv2.2.2.2.2
    obtain ⟨d1, d2, d3⟩ := hDat h34
    unfold CR at hcl
    rcases hcl with ⟨w0, _⟩ | ⟨_, ⟨nf2, w1, w2, w3, w4, w5, w6, w7, w8, w9, w10⟩, ⟨w11, w12, w13, w14⟩, w15⟩
    · exact absurd k0 w0
    have enf : nf2 = nf := by
      have e1 := w2
      rw [b5 _ _ (by omega), hCt.1.1] at e1
      have e2 := hCt.1.2.2
      exact ((nI_eq (by omega) (by omega)).mp e1).symm
    subst enf
    obtain ⟨M2, y1, y2, y3, y4, y5, y6, y7, y8⟩ := m_readE (K := Kb) hsd w1 h13 h15 r19 hCt.1.2.1
    have c2 : ∀ c j, c ≤ 400 → M2 c j = M1 c j := fun c j x => (y8 c j (by omega)).trans (nbC c j x)
    have c3 : ∀ c j, 50 - ld ≤ c → c ≤ 50 - ld + 25 → M2 c j = Mb c j := fun c j x1 x2 => by
      rw [c2 c j (by omega), clE c j (by omega), b5 c j (by omega)]
    have n3 : ∀ c j, 411 ≤ c → c ≤ 432 → M2 c j = Nb c j := fun c j x1 x2 => y8 c j (by omega)
    have hDl : Dl (50 - ld) sd M2 := by
      obtain ⟨x1, x2, x3, x4, x5⟩ := d3
      refine ⟨nf2, nd, ng, ne, c, i, ?_, ⟨x1.keep (fun c j u v => c3 c j (by omega) (by omega)) (fun c j u v => n3 c j (by omega) (by omega)), x2.keep (Nat.le_refl _) (fun c j u v => c3 c j (by omega) (by omega)) (fun c j u v => n3 c j (by omega) (by omega)), x3.keep (fun j => c3 _ j (by omega) (by omega)) (fun j => n3 _ j (by omega) (by omega)), x4.keep (fun c j u v => c3 c j (by omega) (by omega)) (fun c j u v => n3 c j (by omega) (by omega)), x5.keep (c3 _ _ (by omega) (by omega)) (n3 _ _ (by omega) (by omega))⟩, hLw.keep (fun cc j u v => c3 cc j (by omega) (by omega)) (fun cc j u v => n3 cc j (by omega) (by omega)), by omega, by omega⟩
      unfold Cnts at hCt ⊢
      rw [c3 _ 0 (by omega) (by omega), c3 _ 1 (by omega) (by omega), c3 _ 2 (by omega) (by omega), c3 _ 3 (by omega) (by omega), n3 411 _ (by omega) (by omega), n3 415 _ (by omega) (by omega), n3 418 _ (by omega) (by omega), n3 420 _ (by omega) (by omega)]
      exact hCt
    have hTd2 : Td M2 := ⟨0, by omega, by rw [c2 383 3 (by omega)]; exact w14, y5, fun i hi => absurd hi (Nat.not_lt_zero _)⟩
    have hSl2 : Sl M2 := ⟨0, by omega, by rw [c2 360 1 (by omega)]; exact w13, fun s hs => by rw [y6 s hs, Nat.zero_testBit]; rfl⟩
    have hCb : Cb M2 := Cb.upd (sd := sd) hI.cb (fun c j x y => by rw [n3 c j (by omega) (by omega)]; exact cbO c j x y) (hCt.mc.keep (fun c x => n3 c sd (by omega) (by omega)))
    have hInv : Inv M2 := Inv_of hsd y3 hDl hCb (by rw [y4]; decide) hTd2
    refine ⟨ka, M1, La, _, M2, Kb, hrd, ?_, ⟨tpE M2 (by rw [c2 1 1 (by omega)]; exact m1t) (by rw [y8 401 2 (by omega)]; exact q10), ?_, hWcK, hWmK, hInv, ⟨sd, hsd, y3, ?_⟩, ?_, hTd2, hSl2⟩, fun cc j hv => ?_, Or.inr ⟨k0, ?_⟩⟩
    · rw [hm0, p0, y1, k0]
      rfl
    · rw [if_pos k0]; exact hld'
    · rw [if_pos k0]; exact hDl
    · rw [c2 0 11 (by omega), m11, p0, y2]
    · unfold vaC at hv
      rw [c2 cc j (by omega), clE cc j (by omega), cfr cc j (PD_m (by omega)) (by omega) (by omega)]
    · refine ⟨fun j hj => by rw [c2 _ _ (by omega)]; exact w3 j hj, by rw [c2 _ _ (by omega)]; exact w4, fun j hj => by rw [c2 _ _ (by omega)]; exact w5 j hj, ⟨nf2, w1, ?_, fun f hf => ?_⟩, fun j hj => by rw [c2 _ _ (by omega)]; exact w7 j hj, fun j hj => by rw [c2 _ _ (by omega)]; exact w8 j hj, fun j hj => by rw [c2 _ _ (by omega)]; exact w9 j hj, fun j hj => by rw [c2 _ _ (by omega)]; exact w10 j hj, fun k hk hk2 => ?_, by rw [c2 _ _ (by omega)]; exact w11, by rw [c2 _ _ (by omega)]; exact w12, by rw [c2 _ _ (by omega)]; exact w13, y4⟩
      · rw [if_pos k0, c3 _ 0 (by omega) (by omega)]; exact hCt.1.1
      · rw [c2 66 f (by omega), w6 f hf, y7 f (by omega)]
        by_cases hfn : f < nf2
        · obtain ⟨x, z1, z2, z3⟩ := (d3.1 f hfn).1
          rw [if_pos hfn, if_pos hfn, b5 _ _ (by omega), z2, z3]
          exact ⟨x, z1, rfl, rfl, fun w => absurd hfn (by omega)⟩
        · rw [if_neg hfn, if_neg hfn, if_neg (by omega)]
          exact ⟨0, by omega, rfl, rfl, fun _ => rfl⟩
      · rw [y7 k hk2, if_neg (by omega)]
  · -- a fault
    unfold CR at hcl
    rcases hcl with ⟨_, w1⟩ | ⟨w0, _⟩
    rotate_left
    · exact absurd w0 k0
    have c2 : ∀ c j, c ≤ 400 → uM Nb 401 17 pla c j = M1 c j := fun c j x => (uM_diff (by omega)).trans (nbC c j x)
    have c3 : ∀ c j, c ≤ 400 → c ≠ 0 → c ≠ 1 → c ≠ 3 → c ≠ 6 → c ≠ 7 → c ≠ 10 → c ≠ 11 → ¬ (50 - ld ≤ c ∧ c < 50 - ld + 26) → uM Nb 401 17 pla c j = M c j := fun c j x1 x2 x3 x4 x5 x6 x7 x8 x9 => by
      rw [c2 c j x1, w1 c j (by omega), cfr2 c j (by omega) (by omega) (by omega) (by omega) (by omega) (by omega)]
    have hDl : Dl ld lv (uM Nb 401 17 pla) := hD.keepR (fun c j u v => c3 c j (by omega) (by omega) (by omega) (by omega) (by omega) (by omega) (by omega) (by omega) (by omega)) (fun w hw j => ⟨c3 _ j (by omega) (by omega) (by omega) (by omega) (by omega) (by omega) (by omega) (by omega) (by omega), c3 _ j (by omega) (by omega) (by omega) (by omega) (by omega) (by omega) (by omega) (by omega) (by omega)⟩) (fun c j u => by
      have := sideC_r u
      rw [uM_diff (by omega)]
      exact nbS c j u)
    have hTd2 : Td (uM Nb 401 17 pla) := hTd.keep2 (c3 _ _ (by omega) (by omega) (by omega) (by omega) (by omega) (by omega) (by omega) (by omega) (by omega)) (by rw [uM_diff (by omega)]; exact nbY 64 (by omega)) (fun c j u => by
      rcases u with u | u
      · exact c3 c j (by omega) (by omega) (by omega) (by omega) (by omega) (by omega) (by omega) (by omega) (by omega)
      · rw [uM_diff (by omega)]; exact nbX c j (by omega))
    have hSl2 : Sl (uM Nb 401 17 pla) := hSl.keep2 (c3 _ _ (by omega) (by omega) (by omega) (by omega) (by omega) (by omega) (by omega) (by omega) (by omega)) (fun j => by rw [uM_diff (by omega)]; exact nbX 445 j (by omega))
    have hCb : Cb (uM Nb 401 17 pla) := Cb.upd (sd := sd) hI.cb (fun c j x y => by rw [uM_diff (by omega)]; exact cbO c j x y) (hmc.keep (fun c x => uM_diff (by omega)))
    have h18b : uM Nb 401 17 pla 401 18 = nI lv := by rw [uM_diff (by omega), nbY 18 (by omega)]; exact h18
    have h57b : uM Nb 401 17 pla 401 57 = M 401 57 := by rw [uM_diff (by omega), nbY 57 (by omega)]
    have hInv : Inv (uM Nb 401 17 pla) := Inv_of hlv h18b hDl hCb (by rw [h57b]; exact hI.undos) hTd2
    refine ⟨ka, M1, La, _, uM Nb 401 17 pla, Kb, hrd, hm0.trans hres, ⟨tpE _ (by rw [c2 1 1 (by omega)]; exact m1t) (by rw [uM_diff (by omega)]; exact q10), ?_, hWcK, hWmK, hInv, ⟨lv, hlv, h18b, ?_⟩, ?_, hTd2, hSl2⟩, fun cc j hv => ?_, Or.inl ⟨k0, ?_, c3 ld 0 (by omega) (by omega) (by omega) (by omega) (by omega) (by omega) (by omega) (by omega) (by omega), fun c j u => ?_⟩⟩
    · rw [if_neg k0]; exact hld
    · rw [if_neg k0]; exact hDl
    · rw [c2 0 11 (by omega), m11, uM_same]
    · unfold vaC at hv
      rw [c2 cc j (by omega), w1 cc j (by omega), cfr cc j (PD_m (by omega)) (by omega) (by omega)]
    · rw [if_neg k0]
    · unfold stC at u
      rcases u with u | u | u | u | u
      · exact c3 c j (by omega) (by omega) (by omega) (by omega) (by omega) (by omega) (by omega) (by omega) (by omega)
      · rw [uM_diff (by omega)]; exact nbX c j (by omega)
      · rw [uM_diff (by omega)]; exact nbX c j (by omega)
      · rw [uM_diff (by omega)]; exact nbX c j (by omega)
      · rw [u.1, u.2]; exact h57b
end PAR22
