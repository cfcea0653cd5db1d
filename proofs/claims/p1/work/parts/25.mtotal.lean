set_option maxHeartbeats 4000000 in
set_option maxRecDepth 20000 in
theorem t2_Mod_guest {l : Launch} {ld : Nat} (hld : isLa ld) {M : gM} {L : gL} {Q : Option Value → gM → gL → gR → Prop} (hI : Inv M) (p0 : Int32) (p1 : Int32)  (hQ : ∀ (r : Int32) (M' : gM) (L' : gL), Kl MS1 M L M' L' → Q (some (.int r)) M' L' (rf ld)) : Tm l y_Mod_guest (0, 0, 447) 447 [.ref 401, .int p0, .int p1] M L (rf ld) Q := by
  refine Tm.of (by decide) (Nat.le_of_ble_eq_true rfl) ?_
  show Wp l y_Mod_guest (0, 0, 447) 447 0 0 0 [(0, .ref 401), (1, .int p0), (2, .int p1)] [] M L (rf ld) Q
  refine g_aload_n (pc1 := 1) d_Mod_guest_0 rfl 0 rfl ?_
  refine g_iload_n (pc1 := 2) d_Mod_guest_1 rfl 1 rfl ?_
  refine g_callV0 (pc1 := 5) (As := [.int p0]) (rest := []) d_Mod_guest_2 rfl mo_Mod_380 mi_Mod_isGuest mv_Mod_isGuest rfl sh_401 (by decide) (by decide) rfl rfl (Nat.le_of_ble_eq_true rfl) ?_
  refine t2_Mod_isGuest hld hI _  (fun r4578 hbr4578 => ?_)
  refine g_if_ne (pc1 := 8) (tgt := 10) d_Mod_guest_5 (by decide) rfl (fun h4579 => ?_) (fun h4579 => ?_)
  · refine g_aload_n (pc1 := 11) d_Mod_guest_10 rfl 0 rfl ?_
    refine g_callV0 (pc1 := 14) (As := []) (rest := []) d_Mod_guest_11 rfl mo_Mod_377 mi_Mod_copies mv_Mod_copies rfl sh_401 (by decide) (by decide) rfl rfl (Nat.le_of_ble_eq_true rfl) ?_
    refine t2_Mod_copies hld hI   (fun  M4580 L4581 k4582 => ?_)
    refine g_iload_n (pc1 := 15) d_Mod_guest_14 rfl 2 rfl ?_
    by_cases h4583 : p1 = 0
    · refine g_tabK (tgt := 52) (off := 37) d_Mod_guest_15 h4583 (by decide) (by decide) (by decide) (by decide) ?_
      refine g_aload_n (pc1 := 53) d_Mod_guest_52 rfl 0 rfl ?_
      refine g_getr (pc1 := 56) d_Mod_guest_53 rfl ⟨_, fo_Mod_70⟩ sh_401 (by decide) (rf_401_31 ld) ?_
      refine g_iconst (pc1 := 57) (v := 4) d_Mod_guest_56 rfl (by decide) ?_
      refine g_aload_n (pc1 := 58) d_Mod_guest_57 rfl 0 rfl ?_
      refine g_geti (pc1 := 61) d_Mod_guest_58 rfl ⟨_, fo_Mod_236⟩ sh_401 (by decide) ?_
      refine Wp.vali (y := (M 401 18)) (Kl.m k4582 rfl) ?_
      refine g_imul (pc1 := 62) d_Mod_guest_61 rfl ?_
      refine g_iload_n (pc1 := 63) d_Mod_guest_62 rfl 1 rfl ?_
      refine g_iadd (pc1 := 64) d_Mod_guest_63 rfl ?_
      refine g_iald (pc1 := 65) d_Mod_guest_64 rfl sh_419 (by decide) (by have l0 : (4 : Int32).toInt = 4 := (by decide); have r0 := (bp_t hbr4578 h4579); have r1 := hI.live; have r2 := (hI.guests (M 401 18).toNatClampNeg); have r3 := (i_b (M 401 18)); have r4 := (i_b (M 418 (M 401 18).toNatClampNeg)); have r5 := (i_b (p0)); have e1 : (4 * (M 401 18) : Int32).toInt = (4 * ((M 401 18) : Int32).toInt) := i_mulE (by decide : (4 : Int32).toInt = 4) rfl (by omega); have e2 : ((4 * (M 401 18)) + p0 : Int32).toInt = ((4 * ((M 401 18) : Int32).toInt) + p0.toInt) := i_addE e1 rfl (by omega); exact vin_i (by omega) (by omega)) ?_
      refine Wp.vali (y := (M 419 (((4 * (M 401 18)) + p0) : Int32).toNatClampNeg)) (Kl.m k4582 rfl) ?_
      refine g_ireturn (Or.inl rfl) d_Mod_guest_65 rfl ?_
      exact hQ _ _ _ (Kl.trans Kl.rf k4582)
    by_cases h4584 : p1 = 1
    · refine g_tabK (tgt := 66) (off := 51) d_Mod_guest_15 h4584 (by decide) (by decide) (by decide) (by decide) ?_
      refine g_aload_n (pc1 := 67) d_Mod_guest_66 rfl 0 rfl ?_
      refine g_getr (pc1 := 70) d_Mod_guest_67 rfl ⟨_, fo_Mod_125⟩ sh_401 (by decide) (rf_401_53 ld) ?_
      refine g_bipush (pc1 := 72) (v := 15) d_Mod_guest_70 rfl (by decide) ?_
      refine g_iload_n (pc1 := 73) d_Mod_guest_72 rfl 1 rfl ?_
      refine g_iadd (pc1 := 74) d_Mod_guest_73 rfl ?_
      refine g_iald (pc1 := 75) d_Mod_guest_74 rfl sh_437 (by decide) (by have l0 : (15 : Int32).toInt = 15 := (by decide); have r0 := (bp_t hbr4578 h4579); have r1 := (hI.guests (M 401 18).toNatClampNeg); have r2 := (i_b (M 418 (M 401 18).toNatClampNeg)); have r3 := (i_b (p0)); have e1 : (15 + p0 : Int32).toInt = (15 + p0.toInt) := i_addE (by decide : (15 : Int32).toInt = 15) rfl (by omega); exact vin_i (by omega) (by omega)) ?_
      refine g_if_ge (pc1 := 78) (tgt := 83) d_Mod_guest_75 (by decide) rfl (fun h4585 => ?_) (fun h4585 => ?_)
      · refine g_aload_n (pc1 := 84) d_Mod_guest_83 rfl 0 rfl ?_
        refine g_getr (pc1 := 87) d_Mod_guest_84 rfl ⟨_, fo_Mod_125⟩ sh_401 (by decide) (rf_401_53 ld) ?_
        refine g_bipush (pc1 := 89) (v := 35) d_Mod_guest_87 rfl (by decide) ?_
        refine g_iald (pc1 := 90) d_Mod_guest_89 rfl sh_437 (by decide) (vin_lit (x := 35) (by decide)) ?_
        refine g_aload_n (pc1 := 91) d_Mod_guest_90 rfl 0 rfl ?_
        refine g_getr (pc1 := 94) d_Mod_guest_91 rfl ⟨_, fo_Mod_125⟩ sh_401 (by decide) (rf_401_53 ld) ?_
        refine g_bipush (pc1 := 96) (v := 15) d_Mod_guest_94 rfl (by decide) ?_
        refine g_iload_n (pc1 := 97) d_Mod_guest_96 rfl 1 rfl ?_
        refine g_iadd (pc1 := 98) d_Mod_guest_97 rfl ?_
        refine g_iald (pc1 := 99) d_Mod_guest_98 rfl sh_437 (by decide) (by have l0 : (15 : Int32).toInt = 15 := (by decide); have r0 := (bp_t hbr4578 h4579); have r1 := (hI.guests (M 401 18).toNatClampNeg); have r2 := (i_b (M 418 (M 401 18).toNatClampNeg)); have r3 := (i_b (p0)); have e1 : (15 + p0 : Int32).toInt = (15 + p0.toInt) := i_addE (by decide : (15 : Int32).toInt = 15) rfl (by omega); exact vin_i (by omega) (by omega)) ?_
        refine g_isub (pc1 := 100) d_Mod_guest_99 rfl ?_
        refine g_ireturn (Or.inl rfl) d_Mod_guest_100 rfl ?_
        exact hQ _ _ _ (Kl.trans Kl.rf k4582)
      · refine g_bipush (pc1 := 80) (v := (-2)) d_Mod_guest_78 rfl (by decide) ?_
        refine g_goto (tgt := 100) d_Mod_guest_80 (by decide) ?_
        refine g_ireturn (Or.inl rfl) d_Mod_guest_100 rfl ?_
        exact hQ _ _ _ (Kl.trans Kl.rf k4582)
    by_cases h4586 : p1 = 2
    · refine g_tabK (tgt := 101) (off := 86) d_Mod_guest_15 h4586 (by decide) (by decide) (by decide) (by decide) ?_
      refine g_aload_n (pc1 := 102) d_Mod_guest_101 rfl 0 rfl ?_
      refine g_getr (pc1 := 105) d_Mod_guest_102 rfl ⟨_, fo_Mod_125⟩ sh_401 (by decide) (rf_401_53 ld) ?_
      refine g_bipush (pc1 := 107) (v := 31) d_Mod_guest_105 rfl (by decide) ?_
      refine g_iload_n (pc1 := 108) d_Mod_guest_107 rfl 1 rfl ?_
      refine g_iadd (pc1 := 109) d_Mod_guest_108 rfl ?_
      refine g_iald (pc1 := 110) d_Mod_guest_109 rfl sh_437 (by decide) (by have l0 : (31 : Int32).toInt = 31 := (by decide); have r0 := (bp_t hbr4578 h4579); have r1 := (hI.guests (M 401 18).toNatClampNeg); have r2 := (i_b (M 418 (M 401 18).toNatClampNeg)); have r3 := (i_b (p0)); have e1 : (31 + p0 : Int32).toInt = (31 + p0.toInt) := i_addE (by decide : (31 : Int32).toInt = 31) rfl (by omega); exact vin_i (by omega) (by omega)) ?_
      refine g_ireturn (Or.inl rfl) d_Mod_guest_110 rfl ?_
      exact hQ _ _ _ (Kl.trans Kl.rf k4582)
    by_cases h4587 : p1 = 3
    · refine g_tabK (tgt := 111) (off := 96) d_Mod_guest_15 h4587 (by decide) (by decide) (by decide) (by decide) ?_
      refine g_aload_n (pc1 := 112) d_Mod_guest_111 rfl 0 rfl ?_
      refine g_iload_n (pc1 := 113) d_Mod_guest_112 rfl 1 rfl ?_
      refine g_iload_n (pc1 := 114) d_Mod_guest_113 rfl 2 rfl ?_
      refine g_iconst (pc1 := 115) (v := 3) d_Mod_guest_114 rfl (by decide) ?_
      refine g_isub (pc1 := 116) d_Mod_guest_115 rfl ?_
      refine g_callV0 (pc1 := 119) (As := [.int p0, .int (p1 - 3)]) (rest := []) d_Mod_guest_116 rfl mo_Mod_349 mi_Mod_boundNow mv_Mod_boundNow rfl sh_401 (by decide) (by decide) rfl rfl (Nat.le_of_ble_eq_true rfl) ?_
      refine t2_Mod_boundNow hld (Inv.keep hI inv_MS1 (Kl.trans Kl.rf k4582)) _ _ (by have r0 := (bp_t hbr4578 h4579); have r1 := (hI.guests (M 401 18).toNatClampNeg); have r2 := (i_b (M 418 (M 401 18).toNatClampNeg)); have r3 := (i_b (p0)); omega) (by have l0 : (0 : Int32).toInt = 0 := (by decide); have l1 : (1 : Int32).toInt = 1 := (by decide); have l2 : (2 : Int32).toInt = 2 := (by decide); have l3 : (3 : Int32).toInt = 3 := (by decide); have r0 := (mt Int32.toInt_inj.mp h4583); have r1 := (mt Int32.toInt_inj.mp h4584); have r2 := (mt Int32.toInt_inj.mp h4586); have r3 := (congrArg Int32.toInt h4587); have r4 := (i_b (p1)); have e1 : (p1 - 3 : Int32).toInt = (p1.toInt - 3) := i_subE rfl (by decide : (3 : Int32).toInt = 3) (by omega); omega) (fun r4588 M4589 L4590 k4591 => ?_)
      refine g_ireturn (Or.inl rfl) d_Mod_guest_119 rfl ?_
      exact hQ _ _ _ (Kl.trans (Kl.trans Kl.rf k4582) (Kl.mono k4591 MS0_MS1))
    by_cases h4592 : p1 = 4
    · refine g_tabK (tgt := 111) (off := 96) d_Mod_guest_15 h4592 (by decide) (by decide) (by decide) (by decide) ?_
      refine g_aload_n (pc1 := 112) d_Mod_guest_111 rfl 0 rfl ?_
      refine g_iload_n (pc1 := 113) d_Mod_guest_112 rfl 1 rfl ?_
      refine g_iload_n (pc1 := 114) d_Mod_guest_113 rfl 2 rfl ?_
      refine g_iconst (pc1 := 115) (v := 3) d_Mod_guest_114 rfl (by decide) ?_
      refine g_isub (pc1 := 116) d_Mod_guest_115 rfl ?_
      refine g_callV0 (pc1 := 119) (As := [.int p0, .int (p1 - 3)]) (rest := []) d_Mod_guest_116 rfl mo_Mod_349 mi_Mod_boundNow mv_Mod_boundNow rfl sh_401 (by decide) (by decide) rfl rfl (Nat.le_of_ble_eq_true rfl) ?_
      refine t2_Mod_boundNow hld (Inv.keep hI inv_MS1 (Kl.trans Kl.rf k4582)) _ _ (by have r0 := (bp_t hbr4578 h4579); have r1 := (hI.guests (M 401 18).toNatClampNeg); have r2 := (i_b (M 418 (M 401 18).toNatClampNeg)); have r3 := (i_b (p0)); omega) (by have l0 : (0 : Int32).toInt = 0 := (by decide); have l1 : (1 : Int32).toInt = 1 := (by decide); have l2 : (2 : Int32).toInt = 2 := (by decide); have l3 : (3 : Int32).toInt = 3 := (by decide); have l4 : (4 : Int32).toInt = 4 := (by decide); have r0 := (mt Int32.toInt_inj.mp h4583); have r1 := (mt Int32.toInt_inj.mp h4584); have r2 := (mt Int32.toInt_inj.mp h4586); have r3 := (mt Int32.toInt_inj.mp h4587); have r4 := (congrArg Int32.toInt h4592); have r5 := (i_b (p1)); have e1 : (p1 - 3 : Int32).toInt = (p1.toInt - 3) := i_subE rfl (by decide : (3 : Int32).toInt = 3) (by omega); omega) (fun r4593 M4594 L4595 k4596 => ?_)
      refine g_ireturn (Or.inl rfl) d_Mod_guest_119 rfl ?_
      exact hQ _ _ _ (Kl.trans (Kl.trans Kl.rf k4582) (Kl.mono k4596 MS0_MS1))
    by_cases h4597 : p1 = 5
    · refine g_tabK (tgt := 111) (off := 96) d_Mod_guest_15 h4597 (by decide) (by decide) (by decide) (by decide) ?_
      refine g_aload_n (pc1 := 112) d_Mod_guest_111 rfl 0 rfl ?_
      refine g_iload_n (pc1 := 113) d_Mod_guest_112 rfl 1 rfl ?_
      refine g_iload_n (pc1 := 114) d_Mod_guest_113 rfl 2 rfl ?_
      refine g_iconst (pc1 := 115) (v := 3) d_Mod_guest_114 rfl (by decide) ?_
      refine g_isub (pc1 := 116) d_Mod_guest_115 rfl ?_
      refine g_callV0 (pc1 := 119) (As := [.int p0, .int (p1 - 3)]) (rest := []) d_Mod_guest_116 rfl mo_Mod_349 mi_Mod_boundNow mv_Mod_boundNow rfl sh_401 (by decide) (by decide) rfl rfl (Nat.le_of_ble_eq_true rfl) ?_
      refine t2_Mod_boundNow hld (Inv.keep hI inv_MS1 (Kl.trans Kl.rf k4582)) _ _ (by have r0 := (bp_t hbr4578 h4579); have r1 := (hI.guests (M 401 18).toNatClampNeg); have r2 := (i_b (M 418 (M 401 18).toNatClampNeg)); have r3 := (i_b (p0)); omega) (by have l0 : (0 : Int32).toInt = 0 := (by decide); have l1 : (1 : Int32).toInt = 1 := (by decide); have l2 : (2 : Int32).toInt = 2 := (by decide); have l3 : (3 : Int32).toInt = 3 := (by decide); have l4 : (4 : Int32).toInt = 4 := (by decide); have l5 : (5 : Int32).toInt = 5 := (by decide); have r0 := (mt Int32.toInt_inj.mp h4583); have r1 := (mt Int32.toInt_inj.mp h4584); have r2 := (mt Int32.toInt_inj.mp h4586); have r3 := (mt Int32.toInt_inj.mp h4587); have r4 := (mt Int32.toInt_inj.mp h4592); have r5 := (congrArg Int32.toInt h4597); have r6 := (i_b (p1)); have e1 : (p1 - 3 : Int32).toInt = (p1.toInt - 3) := i_subE rfl (by decide : (3 : Int32).toInt = 3) (by omega); omega) (fun r4598 M4599 L4600 k4601 => ?_)
      refine g_ireturn (Or.inl rfl) d_Mod_guest_119 rfl ?_
      exact hQ _ _ _ (Kl.trans (Kl.trans Kl.rf k4582) (Kl.mono k4601 MS0_MS1))
    refine g_tabOut (tgt := 120) d_Mod_guest_15 (by
      have nh4583 := neT (a := 0) h4583 (by decide)
      have nh4584 := neT (a := 1) h4584 (by decide)
      have nh4586 := neT (a := 2) h4586 (by decide)
      have nh4587 := neT (a := 3) h4587 (by decide)
      have nh4592 := neT (a := 4) h4592 (by decide)
      have nh4597 := neT (a := 5) h4597 (by decide)
      omega) (by decide) ?_
    refine g_iconst (pc1 := 121) (v := (-1)) d_Mod_guest_120 rfl (by decide) ?_
    refine g_ireturn (Or.inl rfl) d_Mod_guest_121 rfl ?_
    exact hQ _ _ _ (Kl.trans Kl.rf k4582)
  · refine g_iconst (pc1 := 9) (v := (-1)) d_Mod_guest_8 rfl (by decide) ?_
    refine g_ireturn (Or.inl rfl) d_Mod_guest_9 rfl ?_
    exact hQ _ _ _ Kl.rf
set_option maxHeartbeats 4000000 in
set_option maxRecDepth 20000 in
theorem t2_Mod_isFree {l : Launch} {ld : Nat} (hld : isLa ld) {M : gM} {L : gL} {Q : Option Value → gM → gL → gR → Prop} (hI : Inv M) (p0 : Int32) (p1 : Int32) (h0 : 0 ≤ (p0 : Int32).toInt ∧ (p0 : Int32).toInt ≤ 3) (h1 : 0 ≤ (p1 : Int32).toInt ∧ (p1 : Int32).toInt < (M 420 (M 401 18).toNatClampNeg).toInt) (hQ : ∀ (r : Int32) (M' : gM) (L' : gL), (r = 0 ∨ r = 1) → Kl MS0 M L M' L' → Q (some (.int r)) M' L' (rf ld)) : Tm l y_Mod_isFree (0, 0, 447) 447 [.ref 401, .int p0, .int p1] M L (rf ld) Q := by
  refine Tm.of (by decide) (Nat.le_of_ble_eq_true rfl) ?_
  show Wp l y_Mod_isFree (0, 0, 447) 447 0 0 0 [(0, .ref 401), (1, .int p0), (2, .int p1)] [] M L (rf ld) Q
  refine g_aload_n (pc1 := 1) d_Mod_isFree_0 rfl 0 rfl ?_
  refine g_iload_n (pc1 := 2) d_Mod_isFree_1 rfl 1 rfl ?_
  refine g_aload_n (pc1 := 3) d_Mod_isFree_2 rfl 0 rfl ?_
  refine g_getr (pc1 := 6) d_Mod_isFree_3 rfl ⟨_, fo_Mod_76⟩ sh_401 (by decide) (rf_401_33 ld) ?_
  refine g_bipush (pc1 := 8) (v := 6) d_Mod_isFree_6 rfl (by decide) ?_
  refine g_aload_n (pc1 := 9) d_Mod_isFree_8 rfl 0 rfl ?_
  refine g_geti (pc1 := 12) d_Mod_isFree_9 rfl ⟨_, fo_Mod_236⟩ sh_401 (by decide) ?_
  refine g_imul (pc1 := 13) d_Mod_isFree_12 rfl ?_
  refine g_iload_n (pc1 := 14) d_Mod_isFree_13 rfl 2 rfl ?_
  refine g_iadd (pc1 := 15) d_Mod_isFree_14 rfl ?_
  refine g_iald (pc1 := 16) d_Mod_isFree_15 rfl sh_421 (by decide) (by have l0 : (6 : Int32).toInt = 6 := (by decide); have r0 := h1; have r1 := hI.live; have r2 := (hI.deeds (M 401 18).toNatClampNeg); have r3 := (i_b (M 401 18)); have r4 := (i_b (M 420 (M 401 18).toNatClampNeg)); have r5 := (i_b (p1)); have e1 : (6 * (M 401 18) : Int32).toInt = (6 * ((M 401 18) : Int32).toInt) := i_mulE (by decide : (6 : Int32).toInt = 6) rfl (by omega); have e2 : ((6 * (M 401 18)) + p1 : Int32).toInt = ((6 * ((M 401 18) : Int32).toInt) + p1.toInt) := i_addE e1 rfl (by omega); exact vin_i (by omega) (by omega)) ?_
  refine g_callV0 (pc1 := 19) (As := [.int p0, .int (M 421 (((6 * (M 401 18)) + p1) : Int32).toNatClampNeg)]) (rest := []) d_Mod_isFree_16 rfl mo_Mod_349 mi_Mod_boundNow mv_Mod_boundNow rfl sh_401 (by decide) (by decide) rfl rfl (Nat.le_of_ble_eq_true rfl) ?_
  refine t2_Mod_boundNow hld hI _ _ (by have r0 := h0; have r1 := (i_b (p0)); omega) (by have r0 := (hI.force (i := ((6 * (M 401 18)) + p1)) (e := p1.toInt) (by have l0 : (6 : Int32).toInt = 6 := (by decide); have r0 := h1; have r1 := hI.live; have r2 := (hI.deeds (M 401 18).toNatClampNeg); have r3 := (i_b (M 401 18)); have r4 := (i_b (M 420 (M 401 18).toNatClampNeg)); have r5 := (i_b (p1)); have e1 : (6 * (M 401 18) : Int32).toInt = (6 * ((M 401 18) : Int32).toInt) := i_mulE (by decide : (6 : Int32).toInt = 6) rfl (by omega); have e2 : ((6 * (M 401 18)) + p1 : Int32).toInt = ((6 * ((M 401 18) : Int32).toInt) + p1.toInt) := i_addE e1 rfl (by omega); omega) h1.1 h1.2); have r1 := (i_b (M 421 (((6 * (M 401 18)) + p1) : Int32).toNatClampNeg)); omega) (fun r4602 M4603 L4604 k4605 => ?_)
  refine g_aload_n (pc1 := 20) d_Mod_isFree_19 rfl 0 rfl ?_
  refine g_getr (pc1 := 23) d_Mod_isFree_20 rfl ⟨_, fo_Mod_79⟩ sh_401 (by decide) (rf_401_34 ld) ?_
  refine g_bipush (pc1 := 25) (v := 6) d_Mod_isFree_23 rfl (by decide) ?_
  refine g_aload_n (pc1 := 26) d_Mod_isFree_25 rfl 0 rfl ?_
  refine g_geti (pc1 := 29) d_Mod_isFree_26 rfl ⟨_, fo_Mod_236⟩ sh_401 (by decide) ?_
  refine Wp.vali (y := (M 401 18)) (Kl.m k4605 rfl) ?_
  refine g_imul (pc1 := 30) d_Mod_isFree_29 rfl ?_
  refine g_iload_n (pc1 := 31) d_Mod_isFree_30 rfl 2 rfl ?_
  refine g_iadd (pc1 := 32) d_Mod_isFree_31 rfl ?_
  refine g_iald (pc1 := 33) d_Mod_isFree_32 rfl sh_422 (by decide) (by have l0 : (6 : Int32).toInt = 6 := (by decide); have r0 := h1; have r1 := hI.live; have r2 := (hI.deeds (M 401 18).toNatClampNeg); have r3 := (i_b (M 401 18)); have r4 := (i_b (M 420 (M 401 18).toNatClampNeg)); have r5 := (i_b (p1)); have e1 : (6 * (M 401 18) : Int32).toInt = (6 * ((M 401 18) : Int32).toInt) := i_mulE (by decide : (6 : Int32).toInt = 6) rfl (by omega); have e2 : ((6 * (M 401 18)) + p1 : Int32).toInt = ((6 * ((M 401 18) : Int32).toInt) + p1.toInt) := i_addE e1 rfl (by omega); exact vin_i (by omega) (by omega)) ?_
  refine Wp.vali (y := (M 422 (((6 * (M 401 18)) + p1) : Int32).toNatClampNeg)) (Kl.m k4605 rfl) ?_
  refine g_icmp_ge (pc1 := 36) (tgt := 40) d_Mod_isFree_33 (by decide) rfl (fun h4606 => ?_) (fun h4606 => ?_)
  · refine g_iconst (pc1 := 41) (v := 0) d_Mod_isFree_40 rfl (by decide) ?_
    refine g_ireturn (Or.inr ⟨rfl, rfl⟩) d_Mod_isFree_41 rfl ?_
    exact hQ _ _ _ (Or.inl rfl) (Kl.trans Kl.rf k4605)
  · refine g_iconst (pc1 := 37) (v := 1) d_Mod_isFree_36 rfl (by decide) ?_
    refine g_goto (tgt := 41) d_Mod_isFree_37 (by decide) ?_
    refine g_ireturn (Or.inr ⟨rfl, rfl⟩) d_Mod_isFree_41 rfl ?_
    exact hQ _ _ _ (Or.inr rfl) (Kl.trans Kl.rf k4605)
set_option maxHeartbeats 4000000 in
set_option maxRecDepth 20000 in
theorem t2_Mod_isWay {l : Launch} {ld : Nat} (hld : isLa ld) {M : gM} {L : gL} {Q : Option Value → gM → gL → gR → Prop} (hI : Inv M) (p0 : Int32) (p1 : Int32) (h0 : 0 ≤ (p0 : Int32).toInt ∧ (p0 : Int32).toInt ≤ 64) (h1 : (p1 : Int32).toInt ≤ (M 401 64).toInt) (hQ : ∀ (r : Int32) (M' : gM) (L' : gL), (r = 0 ∨ r = 1) → Kl MS1 M L M' L' → Q (some (.int r)) M' L' (rf ld)) : Tm l y_Mod_isWay (0, 0, 447) 447 [.ref 401, .int p0, .int p1] M L (rf ld) Q := by
  refine Tm.of (by decide) (Nat.le_of_ble_eq_true rfl) ?_
  show Wp l y_Mod_isWay (0, 0, 447) 447 0 0 0 [(0, .ref 401), (1, .int p0), (2, .int p1)] [] M L (rf ld) Q
  refine g_aload_n (pc1 := 1) d_Mod_isWay_0 rfl 0 rfl ?_
  refine g_iload_n (pc1 := 2) d_Mod_isWay_1 rfl 1 rfl ?_
  refine g_callV0 (pc1 := 5) (As := [.int p0]) (rest := []) d_Mod_isWay_2 rfl mo_Mod_449 mi_Mod_fillsWay mv_Mod_fillsWay rfl sh_401 (by decide) (by decide) rfl rfl (Nat.le_of_ble_eq_true rfl) ?_
  refine t2_Mod_fillsWay hld hI _ (by have r0 := h0; have r1 := (i_b (p0)); omega) (fun r4607 M4608 L4609 hbr4607 k4610 => ?_)
  refine g_if_eq (pc1 := 8) (tgt := 20) d_Mod_isWay_5 (by decide) rfl (fun h4611 => ?_) (fun h4611 => ?_)
  · refine g_iconst (pc1 := 21) (v := 0) d_Mod_isWay_20 rfl (by decide) ?_
    refine g_ireturn (Or.inr ⟨rfl, rfl⟩) d_Mod_isWay_21 rfl ?_
    exact hQ _ _ _ (Or.inl rfl) (Kl.trans Kl.rf k4610)
  · refine g_aload_n (pc1 := 9) d_Mod_isWay_8 rfl 0 rfl ?_
    refine g_iload_n (pc1 := 10) d_Mod_isWay_9 rfl 2 rfl ?_
    refine g_callV0 (pc1 := 13) (As := [.int p1]) (rest := []) d_Mod_isWay_10 rfl mo_Mod_452 mi_Mod_isAsKnown mv_Mod_isAsKnown rfl sh_401 (by decide) (by decide) rfl rfl (Nat.le_of_ble_eq_true rfl) ?_
    refine t2_Mod_isAsKnown hld (Inv.keep hI inv_MS1 (Kl.trans Kl.rf k4610)) _ (by rw [(Kl.m (c := 401) (j := 64) (Kl.trans Kl.rf k4610) rfl : M4608 401 64 = M 401 64)]; exact (by have r0 := h1; have r1 := hI.tolds; have r2 := (i_b (M 401 64)); have r3 := (i_b (p1)); omega)) (fun r4612 M4613 L4614 hbr4612 k4615 => ?_)
    refine g_if_eq (pc1 := 16) (tgt := 20) d_Mod_isWay_13 (by decide) rfl (fun h4616 => ?_) (fun h4616 => ?_)
    · refine g_iconst (pc1 := 21) (v := 0) d_Mod_isWay_20 rfl (by decide) ?_
      refine g_ireturn (Or.inr ⟨rfl, rfl⟩) d_Mod_isWay_21 rfl ?_
      exact hQ _ _ _ (Or.inl rfl) (Kl.trans (Kl.trans Kl.rf k4610) (Kl.mono k4615 MS0_MS1))
    · refine g_iconst (pc1 := 17) (v := 1) d_Mod_isWay_16 rfl (by decide) ?_
      refine g_goto (tgt := 21) d_Mod_isWay_17 (by decide) ?_
      refine g_ireturn (Or.inr ⟨rfl, rfl⟩) d_Mod_isWay_21 rfl ?_
      exact hQ _ _ _ (Or.inr rfl) (Kl.trans (Kl.trans Kl.rf k4610) (Kl.mono k4615 MS0_MS1))
set_option maxHeartbeats 4000000 in
set_option maxRecDepth 20000 in
theorem t2_Mod_pot {l : Launch} {ld : Nat} (hld : isLa ld) {M : gM} {L : gL} {Q : Option Value → gM → gL → gR → Prop} (hI : Inv M) (p0 : Int32) (p1 : Int32) (p2 : Int32) (p3 : Int32)  (hQ : ∀ (r : Int32) (M' : gM) (L' : gL), Kl MS1 M L M' L' → Q (some (.int r)) M' L' (rf ld)) : Tm l y_Mod_pot (0, 0, 447) 447 [.ref 401, .int p0, .int p1, .int p2, .int p3] M L (rf ld) Q := by
  refine Tm.of (by decide) (Nat.le_of_ble_eq_true rfl) ?_
  show Wp l y_Mod_pot (0, 0, 447) 447 0 0 0 [(0, .ref 401), (1, .int p0), (2, .int p1), (3, .int p2), (4, .int p3)] [] M L (rf ld) Q
  refine g_iload_n (pc1 := 1) d_Mod_pot_0 rfl 1 rfl ?_
  refine g_iconst (pc1 := 2) (v := 0) d_Mod_pot_1 rfl (by decide) ?_
  refine g_bipush (pc1 := 4) (v := 99) d_Mod_pot_2 rfl (by decide) ?_
  refine g_callS0 (pc1 := 7) (As := [.int p0, .int 0, .int 99]) (rest := []) d_Mod_pot_4 rfl mo_Mod_316 ms_Mod_in (by decide) rfl rfl (Nat.le_of_ble_eq_true rfl) ?_
  refine t2_Mod_in hld _ _ _  (fun r4617 hbr4617 => ?_)
  refine g_if_eq (pc1 := 10) (tgt := 41) d_Mod_pot_7 (by decide) rfl (fun h4618 => ?_) (fun h4618 => ?_)
  · refine g_iconst (pc1 := 42) (v := (-1)) d_Mod_pot_41 rfl (by decide) ?_
    refine g_ireturn (Or.inl rfl) d_Mod_pot_42 rfl ?_
    exact hQ _ _ _ Kl.rf
  · refine g_iload_n (pc1 := 11) d_Mod_pot_10 rfl 2 rfl ?_
    refine g_iconst (pc1 := 12) (v := 0) d_Mod_pot_11 rfl (by decide) ?_
    refine g_bipush (pc1 := 14) (v := 99) d_Mod_pot_12 rfl (by decide) ?_
    refine g_callS0 (pc1 := 17) (As := [.int p1, .int 0, .int 99]) (rest := []) d_Mod_pot_14 rfl mo_Mod_316 ms_Mod_in (by decide) rfl rfl (Nat.le_of_ble_eq_true rfl) ?_
    refine t2_Mod_in hld _ _ _  (fun r4619 hbr4619 => ?_)
    refine g_if_eq (pc1 := 20) (tgt := 41) d_Mod_pot_17 (by decide) rfl (fun h4620 => ?_) (fun h4620 => ?_)
    · refine g_iconst (pc1 := 42) (v := (-1)) d_Mod_pot_41 rfl (by decide) ?_
      refine g_ireturn (Or.inl rfl) d_Mod_pot_42 rfl ?_
      exact hQ _ _ _ Kl.rf
    · refine g_iload_n (pc1 := 21) d_Mod_pot_20 rfl 3 rfl ?_
      refine g_iconst (pc1 := 22) (v := 0) d_Mod_pot_21 rfl (by decide) ?_
      refine g_bipush (pc1 := 24) (v := 99) d_Mod_pot_22 rfl (by decide) ?_
      refine g_callS0 (pc1 := 27) (As := [.int p2, .int 0, .int 99]) (rest := []) d_Mod_pot_24 rfl mo_Mod_316 ms_Mod_in (by decide) rfl rfl (Nat.le_of_ble_eq_true rfl) ?_
      refine t2_Mod_in hld _ _ _  (fun r4621 hbr4621 => ?_)
      refine g_if_eq (pc1 := 30) (tgt := 41) d_Mod_pot_27 (by decide) rfl (fun h4622 => ?_) (fun h4622 => ?_)
      · refine g_iconst (pc1 := 42) (v := (-1)) d_Mod_pot_41 rfl (by decide) ?_
        refine g_ireturn (Or.inl rfl) d_Mod_pot_42 rfl ?_
        exact hQ _ _ _ Kl.rf
      · refine g_iload (pc1 := 32) d_Mod_pot_30 rfl 4 rfl ?_
        refine g_iconst (pc1 := 33) (v := 0) d_Mod_pot_32 rfl (by decide) ?_
        refine g_bipush (pc1 := 35) (v := 7) d_Mod_pot_33 rfl (by decide) ?_
        refine g_callS0 (pc1 := 38) (As := [.int p3, .int 0, .int 7]) (rest := []) d_Mod_pot_35 rfl mo_Mod_316 ms_Mod_in (by decide) rfl rfl (Nat.le_of_ble_eq_true rfl) ?_
        refine t2_Mod_in hld _ _ _  (fun r4623 hbr4623 => ?_)
        refine g_if_ne (pc1 := 41) (tgt := 43) d_Mod_pot_38 (by decide) rfl (fun h4624 => ?_) (fun h4624 => ?_)
        · refine g_aload_n (pc1 := 44) d_Mod_pot_43 rfl 0 rfl ?_
          refine g_callV0 (pc1 := 47) (As := []) (rest := []) d_Mod_pot_44 rfl mo_Mod_377 mi_Mod_copies mv_Mod_copies rfl sh_401 (by decide) (by decide) rfl rfl (Nat.le_of_ble_eq_true rfl) ?_
          refine t2_Mod_copies hld hI   (fun  M4625 L4626 k4627 => ?_)
          refine g_aload_n (pc1 := 48) d_Mod_pot_47 rfl 0 rfl ?_
          refine g_iconst (pc1 := 49) (v := (-1)) d_Mod_pot_48 rfl (by decide) ?_
          refine g_puti (pc1 := 52) d_Mod_pot_49 rfl fo_Mod_404 (po_12_59 _) sh_401 (by decide) ?_
          refine Wp.topM (fun M4628 eM4628 => ?_)
          refine g_bipush (pc1 := 54) (v := 6) d_Mod_pot_52 rfl (by decide) ?_
          refine g_callS0 (pc1 := 57) (As := [.int 6]) (rest := []) d_Mod_pot_54 rfl mo_Mod_401 ms_Mod_sevens (by decide) rfl rfl (Nat.le_of_ble_eq_true rfl) ?_
          refine t2_Mod_sevens hld _ (by have l0 : (6 : Int32).toInt = 6 := (by decide); omega) (fun r4629 hbr4629 => ?_)
          refine g_iconst (pc1 := 58) (v := 1) d_Mod_pot_57 rfl (by decide) ?_
          refine g_isub (pc1 := 59) d_Mod_pot_58 rfl ?_
          refine Wp.topi (fun x4630 ex4630 => ?_)
          refine g_istore (pc1 := 61) (lv' := [(0, .ref 401), (1, .int p0), (2, .int p1), (3, .int p2), (4, .int p3), (5, .int x4630)]) d_Mod_pot_59 rfl (by decide) [1, 2, 3, 4, 5, 0] rfl ?_
          have LP4634 : ∀ (f4631 : Nat) (v4635 : Int32) (M4636 : gM) (L4637 : gL), Kl MS1 M L M4636 L4637 → (-1 ≤ v4635.toInt ∧ v4635.toInt ≤ 117648) → (v4635.toInt + 1).toNat < f4631 → Wp l y_Mod_pot (0, 0, 447) 447 0 0 61 [(0, .ref 401), (1, .int p0), (2, .int p1), (3, .int p2), (4, .int p3), (5, .int v4635)] [] M4636 L4637 (rf ld) Q := by
            intro f4631
            induction f4631 with
            | zero => intro v4635 M4636 L4637 _ _ hm4633; exact absurd hm4633 (Nat.not_lt_zero _)
            | succ f4631 ih4632 =>
              intro v4635 M4636 L4637 k4638 n4639 hm4633
              refine g_iload (pc1 := 63) d_Mod_pot_61 rfl 5 rfl ?_
              refine g_if_le (pc1 := 66) (tgt := 156) d_Mod_pot_63 (by decide) rfl (fun h4640 => ?_) (fun h4640 => ?_)
              · refine g_aload_n (pc1 := 157) d_Mod_pot_156 rfl 0 rfl ?_
                refine g_geti (pc1 := 160) d_Mod_pot_157 rfl ⟨_, fo_Mod_404⟩ sh_401 (by decide) ?_
                refine g_if_ge (pc1 := 163) (tgt := 166) d_Mod_pot_160 (by decide) rfl (fun h4641 => ?_) (fun h4641 => ?_)
                · refine g_iload (pc1 := 168) d_Mod_pot_166 rfl 4 rfl ?_
                  refine g_if_ne (pc1 := 171) (tgt := 178) d_Mod_pot_168 (by decide) rfl (fun h4642 => ?_) (fun h4642 => ?_)
                  · refine g_iload (pc1 := 180) d_Mod_pot_178 rfl 4 rfl ?_
                    refine g_iconst (pc1 := 181) (v := 1) d_Mod_pot_180 rfl (by decide) ?_
                    refine g_icmp_ne (pc1 := 184) (tgt := 191) d_Mod_pot_181 (by decide) rfl (fun h4643 => ?_) (fun h4643 => ?_)
                    · refine g_aload_n (pc1 := 192) d_Mod_pot_191 rfl 0 rfl ?_
                      refine g_geti (pc1 := 195) d_Mod_pot_192 rfl ⟨_, fo_Mod_404⟩ sh_401 (by decide) ?_
                      refine g_bipush (pc1 := 197) (v := 7) d_Mod_pot_195 rfl (by decide) ?_
                      refine g_iload (pc1 := 199) d_Mod_pot_197 rfl 4 rfl ?_
                      refine g_isub (pc1 := 200) d_Mod_pot_199 rfl ?_
                      refine g_callS0 (pc1 := 203) (As := [.int (7 - p3)]) (rest := [.int (M4636 401 59)]) d_Mod_pot_200 rfl mo_Mod_401 ms_Mod_sevens (by decide) rfl rfl (Nat.le_of_ble_eq_true rfl) ?_
                      refine t2_Mod_sevens hld _ (by have l0 : (0 : Int32).toInt = 0 := (by decide); have l1 : (1 : Int32).toInt = 1 := (by decide); have l2 : (7 : Int32).toInt = 7 := (by decide); have r0 := (mt Int32.toInt_inj.mp h4642); have r1 := (mt Int32.toInt_inj.mp h4643); have r2 := (bp_t hbr4623 h4624); have r3 := (i_b (p3)); have e1 : (7 - p3 : Int32).toInt = (7 - p3.toInt) := i_subE (by decide : (7 : Int32).toInt = 7) rfl (by omega); omega) (fun r4644 hbr4644 => ?_)
                      refine g_idiv (pc1 := 204) d_Mod_pot_203 rfl (by have l0 : (0 : Int32).toInt = 0 := (by decide); have l1 : (1 : Int32).toInt = 1 := (by decide); have l2 : (7 : Int32).toInt = 7 := (by decide); have r0 := hbr4644; have r1 := (mt Int32.toInt_inj.mp h4642); have r2 := (mt Int32.toInt_inj.mp h4643); have r3 := (bp_t hbr4623 h4624); have r4 := (i_b (p3)); have r5 := (i_b (r4644)); (try have e1 : (7 - p3 : Int32).toInt = (7 - p3.toInt) := i_subE (by decide : (7 : Int32).toInt = 7) rfl (by omega)); intro q0; have q1 := congrArg Int32.toInt q0; have q2 : (0 : Int32).toInt = 0 := (by decide); omega) ?_
                      refine g_bipush (pc1 := 206) (v := 7) d_Mod_pot_204 rfl (by decide) ?_
                      refine g_irem (pc1 := 207) d_Mod_pot_206 rfl (by decide) ?_
                      refine g_ireturn (Or.inl rfl) d_Mod_pot_207 rfl ?_
                      exact hQ _ _ _ k4638
                    · refine g_aload_n (pc1 := 185) d_Mod_pot_184 rfl 0 rfl ?_
                      refine g_geti (pc1 := 188) d_Mod_pot_185 rfl ⟨_, fo_Mod_413⟩ sh_401 (by decide) ?_
                      refine g_goto (tgt := 207) d_Mod_pot_188 (by decide) ?_
                      refine g_ireturn (Or.inl rfl) d_Mod_pot_207 rfl ?_
                      exact hQ _ _ _ k4638
                  · refine g_aload_n (pc1 := 172) d_Mod_pot_171 rfl 0 rfl ?_
                    refine g_geti (pc1 := 175) d_Mod_pot_172 rfl ⟨_, fo_Mod_407⟩ sh_401 (by decide) ?_
                    refine g_goto (tgt := 207) d_Mod_pot_175 (by decide) ?_
                    refine g_ireturn (Or.inl rfl) d_Mod_pot_207 rfl ?_
                    exact hQ _ _ _ k4638
                · refine g_bipush (pc1 := 165) (v := (-2)) d_Mod_pot_163 rfl (by decide) ?_
                  refine g_ireturn (Or.inl rfl) d_Mod_pot_165 rfl ?_
                  exact hQ _ _ _ k4638
              · refine g_aload_n (pc1 := 67) d_Mod_pot_66 rfl 0 rfl ?_
                refine g_iload (pc1 := 69) d_Mod_pot_67 rfl 5 rfl ?_
                refine g_callV0 (pc1 := 72) (As := [.int v4635]) (rest := []) d_Mod_pot_69 rfl mo_Mod_416 mi_Mod_isPot mv_Mod_isPot rfl sh_401 (by decide) (by decide) rfl rfl (Nat.le_of_ble_eq_true rfl) ?_
                refine t2_Mod_isPot hld (Inv.keep hI inv_MS1 k4638) _ (by have l0 : (0 : Int32).toInt = 0 := (by decide); have r0 := (mt i_le.mpr h4640); have r1 := n4639; have r2 := (i_b (v4635)); omega) (fun r4645 M4646 L4647 hbr4645 k4648 => ?_)
                refine g_if_eq (pc1 := 75) (tgt := 150) d_Mod_pot_72 (by decide) rfl (fun h4649 => ?_) (fun h4649 => ?_)
                · obtain ⟨x4650, ex4650⟩ : ∃ y : Int32, y = v4635 + (-1) := ⟨_, rfl⟩
                  refine g_iinc (pc1 := 153) (v := x4650) (lv' := [(0, .ref 401), (1, .int p0), (2, .int p1), (3, .int p2), (4, .int p3), (5, .int x4650)]) d_Mod_pot_150 rfl 5 rfl (by rw [ex4650]; rfl) (by decide) [1, 2, 3, 4, 5, 0] rfl ?_
                  refine g_goto (tgt := 61) d_Mod_pot_153 (by decide) ?_
                  exact ih4632 x4650 M4646 L4647 (Kl.trans k4638 k4648) (by have l0 : (-1 : Int32).toInt = -1 := (by decide); have l1 : (0 : Int32).toInt = 0 := (by decide); have r0 := (mt i_le.mpr h4640); have r1 := n4639; have r2 := (i_b (v4635)); have r3 := (i_b (x4650)); have e1 : (v4635 + (-1) : Int32).toInt = (v4635.toInt + (-1)) := i_addE rfl (by decide : (-1 : Int32).toInt = -1) (by omega); have d2 : x4650.toInt = (v4635.toInt + (-1)) := (congrArg Int32.toInt ex4650).trans e1; omega) (by have l0 : (-1 : Int32).toInt = -1 := (by decide); have l1 : (0 : Int32).toInt = 0 := (by decide); have r0 := (mt i_le.mpr h4640); have r1 := n4639; have r2 := hm4633; have r3 := (i_b (v4635)); have r4 := (i_b (x4650)); have e1 : (v4635 + (-1) : Int32).toInt = (v4635.toInt + (-1)) := i_addE rfl (by decide : (-1 : Int32).toInt = -1) (by omega); have d2 : x4650.toInt = (v4635.toInt + (-1)) := (congrArg Int32.toInt ex4650).trans e1; omega)
                · refine g_aload_n (pc1 := 76) d_Mod_pot_75 rfl 0 rfl ?_
                  refine g_geti (pc1 := 79) d_Mod_pot_76 rfl ⟨_, fo_Mod_404⟩ sh_401 (by decide) ?_
                  refine g_if_lt (pc1 := 82) (tgt := 96) d_Mod_pot_79 (by decide) rfl (fun h4651 => ?_) (fun h4651 => ?_)
                  · refine g_aload_n (pc1 := 97) d_Mod_pot_96 rfl 0 rfl ?_
                    refine g_iload_n (pc1 := 98) d_Mod_pot_97 rfl 1 rfl ?_
                    refine g_iload_n (pc1 := 99) d_Mod_pot_98 rfl 2 rfl ?_
                    refine g_iload_n (pc1 := 100) d_Mod_pot_99 rfl 3 rfl ?_
                    refine g_callV0 (pc1 := 103) (As := [.int p0, .int p1, .int p2]) (rest := []) d_Mod_pot_100 rfl mo_Mod_419 mi_Mod_potAt mv_Mod_potAt rfl sh_401 (by decide) (by decide) rfl rfl (Nat.le_of_ble_eq_true rfl) ?_
                    refine t2_Mod_potAt hld (Inv.keep hI inv_MS1 (Kl.trans k4638 k4648)) _ _ _  (fun r4652 M4653 L4654 k4655 => ?_)
                    refine g_istore (pc1 := 105) (lv' := [(0, .ref 401), (1, .int p0), (2, .int p1), (3, .int p2), (4, .int p3), (5, .int v4635), (6, .int r4652)]) d_Mod_pot_103 rfl (by decide) [1, 2, 3, 4, 5, 6, 0] rfl ?_
                    refine g_iload (pc1 := 107) d_Mod_pot_105 rfl 6 rfl ?_
                    refine g_if_lt (pc1 := 110) (tgt := 150) d_Mod_pot_107 (by decide) rfl (fun h4656 => ?_) (fun h4656 => ?_)
                    · obtain ⟨x4657, ex4657⟩ : ∃ y : Int32, y = v4635 + (-1) := ⟨_, rfl⟩
                      refine g_iinc (pc1 := 153) (v := x4657) (lv' := [(0, .ref 401), (1, .int p0), (2, .int p1), (3, .int p2), (4, .int p3), (5, .int x4657), (6, .int r4652)]) d_Mod_pot_150 rfl 5 rfl (by rw [ex4657]; rfl) (by decide) [1, 2, 3, 4, 5, 0, 6] rfl ?_
                      refine g_goto (tgt := 61) d_Mod_pot_153 (by decide) ?_
                      refine Wp.loc (lv' := [(0, .ref 401), (1, .int p0), (2, .int p1), (3, .int p2), (4, .int p3), (5, .int x4657)]) [0, 1, 2, 3, 4, 5] rfl ?_
                      exact ih4632 x4657 M4653 L4654 (Kl.trans (Kl.trans k4638 k4648) (Kl.mono k4655 MS0_MS1)) (by have l0 : (-1 : Int32).toInt = -1 := (by decide); have l1 : (0 : Int32).toInt = 0 := (by decide); have r0 := (mt i_le.mpr h4640); have r1 := n4639; have r2 := (i_b (v4635)); have r3 := (i_b (x4657)); have e1 : (v4635 + (-1) : Int32).toInt = (v4635.toInt + (-1)) := i_addE rfl (by decide : (-1 : Int32).toInt = -1) (by omega); have d2 : x4657.toInt = (v4635.toInt + (-1)) := (congrArg Int32.toInt ex4657).trans e1; omega) (by have l0 : (-1 : Int32).toInt = -1 := (by decide); have l1 : (0 : Int32).toInt = 0 := (by decide); have r0 := (mt i_le.mpr h4640); have r1 := n4639; have r2 := hm4633; have r3 := (i_b (v4635)); have r4 := (i_b (x4657)); have e1 : (v4635 + (-1) : Int32).toInt = (v4635.toInt + (-1)) := i_addE rfl (by decide : (-1 : Int32).toInt = -1) (by omega); have d2 : x4657.toInt = (v4635.toInt + (-1)) := (congrArg Int32.toInt ex4657).trans e1; omega)
                    · refine g_aload_n (pc1 := 111) d_Mod_pot_110 rfl 0 rfl ?_
                      refine g_iload (pc1 := 113) d_Mod_pot_111 rfl 6 rfl ?_
                      refine g_callV0 (pc1 := 116) (As := [.int r4652]) (rest := []) d_Mod_pot_113 rfl mo_Mod_422 mi_Mod_isBetter mv_Mod_isBetter rfl sh_401 (by decide) (by decide) rfl rfl (Nat.le_of_ble_eq_true rfl) ?_
                      refine t2_Mod_isBetter hld (Inv.keep hI inv_MS1 (Kl.trans (Kl.trans k4638 k4648) (Kl.mono k4655 MS0_MS1))) _  (fun r4658 hbr4658 => ?_)
                      refine g_if_ne (pc1 := 119) (tgt := 122) d_Mod_pot_116 (by decide) rfl (fun h4659 => ?_) (fun h4659 => ?_)
                      · refine g_aload_n (pc1 := 123) d_Mod_pot_122 rfl 0 rfl ?_
                        refine g_iload (pc1 := 125) d_Mod_pot_123 rfl 5 rfl ?_
                        refine g_puti (pc1 := 128) d_Mod_pot_125 rfl fo_Mod_404 (po_12_59 _) sh_401 (by decide) ?_
                        refine Wp.topM (fun M4660 eM4660 => ?_)
                        refine g_aload_n (pc1 := 129) d_Mod_pot_128 rfl 0 rfl ?_
                        refine g_aload_n (pc1 := 130) d_Mod_pot_129 rfl 0 rfl ?_
                        refine g_callV0 (pc1 := 133) (As := []) (rest := [.ref 401]) d_Mod_pot_130 rfl mo_Mod_362 mi_Mod_potPrice mv_Mod_potPrice rfl sh_401 (by decide) (by decide) rfl rfl (Nat.le_of_ble_eq_true rfl) ?_
                        refine t2_Mod_potPrice hld (Inv.keep hI inv_MS1 (Kl.wM (Kl.trans (Kl.trans k4638 k4648) (Kl.mono k4655 MS0_MS1)) rfl eM4660))   (fun r4661 => ?_)
                        refine g_puti (pc1 := 136) d_Mod_pot_133 rfl fo_Mod_407 (po_12_60 _) sh_401 (by decide) ?_
                        refine Wp.topM (fun M4662 eM4662 => ?_)
                        refine g_aload_n (pc1 := 137) d_Mod_pot_136 rfl 0 rfl ?_
                        refine g_aload_n (pc1 := 138) d_Mod_pot_137 rfl 0 rfl ?_
                        refine g_callV0 (pc1 := 141) (As := []) (rest := [.ref 401]) d_Mod_pot_138 rfl mo_Mod_339 mi_Mod_potMany mv_Mod_potMany rfl sh_401 (by decide) (by decide) rfl rfl (Nat.le_of_ble_eq_true rfl) ?_
                        refine t2_Mod_potMany hld (Inv.keep hI inv_MS1 (Kl.wM (Kl.wM (Kl.trans (Kl.trans k4638 k4648) (Kl.mono k4655 MS0_MS1)) rfl eM4660) rfl eM4662))   (fun r4663 => ?_)
                        refine g_puti (pc1 := 144) d_Mod_pot_141 rfl fo_Mod_410 (po_12_61 _) sh_401 (by decide) ?_
                        refine Wp.topM (fun M4664 eM4664 => ?_)
                        refine g_aload_n (pc1 := 145) d_Mod_pot_144 rfl 0 rfl ?_
                        refine g_iload (pc1 := 147) d_Mod_pot_145 rfl 6 rfl ?_
                        refine g_puti (pc1 := 150) d_Mod_pot_147 rfl fo_Mod_413 (po_12_62 _) sh_401 (by decide) ?_
                        refine Wp.topM (fun M4665 eM4665 => ?_)
                        obtain ⟨x4666, ex4666⟩ : ∃ y : Int32, y = v4635 + (-1) := ⟨_, rfl⟩
                        refine g_iinc (pc1 := 153) (v := x4666) (lv' := [(0, .ref 401), (1, .int p0), (2, .int p1), (3, .int p2), (4, .int p3), (5, .int x4666), (6, .int r4652)]) d_Mod_pot_150 rfl 5 rfl (by rw [ex4666]; rfl) (by decide) [1, 2, 3, 4, 5, 0, 6] rfl ?_
                        refine g_goto (tgt := 61) d_Mod_pot_153 (by decide) ?_
                        refine Wp.loc (lv' := [(0, .ref 401), (1, .int p0), (2, .int p1), (3, .int p2), (4, .int p3), (5, .int x4666)]) [0, 1, 2, 3, 4, 5] rfl ?_
                        exact ih4632 x4666 M4665 L4654 (Kl.wM (Kl.wM (Kl.wM (Kl.wM (Kl.trans (Kl.trans k4638 k4648) (Kl.mono k4655 MS0_MS1)) rfl eM4660) rfl eM4662) rfl eM4664) rfl eM4665) (by have l0 : (-1 : Int32).toInt = -1 := (by decide); have l1 : (0 : Int32).toInt = 0 := (by decide); have r0 := (mt i_le.mpr h4640); have r1 := n4639; have r2 := (i_b (v4635)); have r3 := (i_b (x4666)); have e1 : (v4635 + (-1) : Int32).toInt = (v4635.toInt + (-1)) := i_addE rfl (by decide : (-1 : Int32).toInt = -1) (by omega); have d2 : x4666.toInt = (v4635.toInt + (-1)) := (congrArg Int32.toInt ex4666).trans e1; omega) (by have l0 : (-1 : Int32).toInt = -1 := (by decide); have l1 : (0 : Int32).toInt = 0 := (by decide); have r0 := (mt i_le.mpr h4640); have r1 := n4639; have r2 := hm4633; have r3 := (i_b (v4635)); have r4 := (i_b (x4666)); have e1 : (v4635 + (-1) : Int32).toInt = (v4635.toInt + (-1)) := i_addE rfl (by decide : (-1 : Int32).toInt = -1) (by omega); have d2 : x4666.toInt = (v4635.toInt + (-1)) := (congrArg Int32.toInt ex4666).trans e1; omega)
                      · refine g_goto (tgt := 150) d_Mod_pot_119 (by decide) ?_
                        obtain ⟨x4667, ex4667⟩ : ∃ y : Int32, y = v4635 + (-1) := ⟨_, rfl⟩
                        refine g_iinc (pc1 := 153) (v := x4667) (lv' := [(0, .ref 401), (1, .int p0), (2, .int p1), (3, .int p2), (4, .int p3), (5, .int x4667), (6, .int r4652)]) d_Mod_pot_150 rfl 5 rfl (by rw [ex4667]; rfl) (by decide) [1, 2, 3, 4, 5, 0, 6] rfl ?_
                        refine g_goto (tgt := 61) d_Mod_pot_153 (by decide) ?_
                        refine Wp.loc (lv' := [(0, .ref 401), (1, .int p0), (2, .int p1), (3, .int p2), (4, .int p3), (5, .int x4667)]) [0, 1, 2, 3, 4, 5] rfl ?_
                        exact ih4632 x4667 M4653 L4654 (Kl.trans (Kl.trans k4638 k4648) (Kl.mono k4655 MS0_MS1)) (by have l0 : (-1 : Int32).toInt = -1 := (by decide); have l1 : (0 : Int32).toInt = 0 := (by decide); have r0 := (mt i_le.mpr h4640); have r1 := n4639; have r2 := (i_b (v4635)); have r3 := (i_b (x4667)); have e1 : (v4635 + (-1) : Int32).toInt = (v4635.toInt + (-1)) := i_addE rfl (by decide : (-1 : Int32).toInt = -1) (by omega); have d2 : x4667.toInt = (v4635.toInt + (-1)) := (congrArg Int32.toInt ex4667).trans e1; omega) (by have l0 : (-1 : Int32).toInt = -1 := (by decide); have l1 : (0 : Int32).toInt = 0 := (by decide); have r0 := (mt i_le.mpr h4640); have r1 := n4639; have r2 := hm4633; have r3 := (i_b (v4635)); have r4 := (i_b (x4667)); have e1 : (v4635 + (-1) : Int32).toInt = (v4635.toInt + (-1)) := i_addE rfl (by decide : (-1 : Int32).toInt = -1) (by omega); have d2 : x4667.toInt = (v4635.toInt + (-1)) := (congrArg Int32.toInt ex4667).trans e1; omega)
                  · refine g_aload_n (pc1 := 83) d_Mod_pot_82 rfl 0 rfl ?_
                    refine g_callV0 (pc1 := 86) (As := []) (rest := []) d_Mod_pot_83 rfl mo_Mod_362 mi_Mod_potPrice mv_Mod_potPrice rfl sh_401 (by decide) (by decide) rfl rfl (Nat.le_of_ble_eq_true rfl) ?_
                    refine t2_Mod_potPrice hld (Inv.keep hI inv_MS1 (Kl.trans k4638 k4648))   (fun r4668 => ?_)
                    refine g_aload_n (pc1 := 87) d_Mod_pot_86 rfl 0 rfl ?_
                    refine g_geti (pc1 := 90) d_Mod_pot_87 rfl ⟨_, fo_Mod_407⟩ sh_401 (by decide) ?_
                    refine g_icmp_le (pc1 := 93) (tgt := 96) d_Mod_pot_90 (by decide) rfl (fun h4669 => ?_) (fun h4669 => ?_)
                    · refine g_aload_n (pc1 := 97) d_Mod_pot_96 rfl 0 rfl ?_
                      refine g_iload_n (pc1 := 98) d_Mod_pot_97 rfl 1 rfl ?_
                      refine g_iload_n (pc1 := 99) d_Mod_pot_98 rfl 2 rfl ?_
                      refine g_iload_n (pc1 := 100) d_Mod_pot_99 rfl 3 rfl ?_
                      refine g_callV0 (pc1 := 103) (As := [.int p0, .int p1, .int p2]) (rest := []) d_Mod_pot_100 rfl mo_Mod_419 mi_Mod_potAt mv_Mod_potAt rfl sh_401 (by decide) (by decide) rfl rfl (Nat.le_of_ble_eq_true rfl) ?_
                      refine t2_Mod_potAt hld (Inv.keep hI inv_MS1 (Kl.trans k4638 k4648)) _ _ _  (fun r4670 M4671 L4672 k4673 => ?_)
                      refine g_istore (pc1 := 105) (lv' := [(0, .ref 401), (1, .int p0), (2, .int p1), (3, .int p2), (4, .int p3), (5, .int v4635), (6, .int r4670)]) d_Mod_pot_103 rfl (by decide) [1, 2, 3, 4, 5, 6, 0] rfl ?_
                      refine g_iload (pc1 := 107) d_Mod_pot_105 rfl 6 rfl ?_
                      refine g_if_lt (pc1 := 110) (tgt := 150) d_Mod_pot_107 (by decide) rfl (fun h4674 => ?_) (fun h4674 => ?_)
                      · obtain ⟨x4675, ex4675⟩ : ∃ y : Int32, y = v4635 + (-1) := ⟨_, rfl⟩
                        refine g_iinc (pc1 := 153) (v := x4675) (lv' := [(0, .ref 401), (1, .int p0), (2, .int p1), (3, .int p2), (4, .int p3), (5, .int x4675), (6, .int r4670)]) d_Mod_pot_150 rfl 5 rfl (by rw [ex4675]; rfl) (by decide) [1, 2, 3, 4, 5, 0, 6] rfl ?_
                        refine g_goto (tgt := 61) d_Mod_pot_153 (by decide) ?_
                        refine Wp.loc (lv' := [(0, .ref 401), (1, .int p0), (2, .int p1), (3, .int p2), (4, .int p3), (5, .int x4675)]) [0, 1, 2, 3, 4, 5] rfl ?_
                        exact ih4632 x4675 M4671 L4672 (Kl.trans (Kl.trans k4638 k4648) (Kl.mono k4673 MS0_MS1)) (by have l0 : (-1 : Int32).toInt = -1 := (by decide); have l1 : (0 : Int32).toInt = 0 := (by decide); have r0 := (mt i_le.mpr h4640); have r1 := n4639; have r2 := (i_b (v4635)); have r3 := (i_b (x4675)); have e1 : (v4635 + (-1) : Int32).toInt = (v4635.toInt + (-1)) := i_addE rfl (by decide : (-1 : Int32).toInt = -1) (by omega); have d2 : x4675.toInt = (v4635.toInt + (-1)) := (congrArg Int32.toInt ex4675).trans e1; omega) (by have l0 : (-1 : Int32).toInt = -1 := (by decide); have l1 : (0 : Int32).toInt = 0 := (by decide); have r0 := (mt i_le.mpr h4640); have r1 := n4639; have r2 := hm4633; have r3 := (i_b (v4635)); have r4 := (i_b (x4675)); have e1 : (v4635 + (-1) : Int32).toInt = (v4635.toInt + (-1)) := i_addE rfl (by decide : (-1 : Int32).toInt = -1) (by omega); have d2 : x4675.toInt = (v4635.toInt + (-1)) := (congrArg Int32.toInt ex4675).trans e1; omega)
                      · refine g_aload_n (pc1 := 111) d_Mod_pot_110 rfl 0 rfl ?_
                        refine g_iload (pc1 := 113) d_Mod_pot_111 rfl 6 rfl ?_
                        refine g_callV0 (pc1 := 116) (As := [.int r4670]) (rest := []) d_Mod_pot_113 rfl mo_Mod_422 mi_Mod_isBetter mv_Mod_isBetter rfl sh_401 (by decide) (by decide) rfl rfl (Nat.le_of_ble_eq_true rfl) ?_
                        refine t2_Mod_isBetter hld (Inv.keep hI inv_MS1 (Kl.trans (Kl.trans k4638 k4648) (Kl.mono k4673 MS0_MS1))) _  (fun r4676 hbr4676 => ?_)
                        refine g_if_ne (pc1 := 119) (tgt := 122) d_Mod_pot_116 (by decide) rfl (fun h4677 => ?_) (fun h4677 => ?_)
                        · refine g_aload_n (pc1 := 123) d_Mod_pot_122 rfl 0 rfl ?_
                          refine g_iload (pc1 := 125) d_Mod_pot_123 rfl 5 rfl ?_
                          refine g_puti (pc1 := 128) d_Mod_pot_125 rfl fo_Mod_404 (po_12_59 _) sh_401 (by decide) ?_
                          refine Wp.topM (fun M4678 eM4678 => ?_)
                          refine g_aload_n (pc1 := 129) d_Mod_pot_128 rfl 0 rfl ?_
                          refine g_aload_n (pc1 := 130) d_Mod_pot_129 rfl 0 rfl ?_
                          refine g_callV0 (pc1 := 133) (As := []) (rest := [.ref 401]) d_Mod_pot_130 rfl mo_Mod_362 mi_Mod_potPrice mv_Mod_potPrice rfl sh_401 (by decide) (by decide) rfl rfl (Nat.le_of_ble_eq_true rfl) ?_
                          refine t2_Mod_potPrice hld (Inv.keep hI inv_MS1 (Kl.wM (Kl.trans (Kl.trans k4638 k4648) (Kl.mono k4673 MS0_MS1)) rfl eM4678))   (fun r4679 => ?_)
                          refine g_puti (pc1 := 136) d_Mod_pot_133 rfl fo_Mod_407 (po_12_60 _) sh_401 (by decide) ?_
                          refine Wp.topM (fun M4680 eM4680 => ?_)
                          refine g_aload_n (pc1 := 137) d_Mod_pot_136 rfl 0 rfl ?_
                          refine g_aload_n (pc1 := 138) d_Mod_pot_137 rfl 0 rfl ?_
                          refine g_callV0 (pc1 := 141) (As := []) (rest := [.ref 401]) d_Mod_pot_138 rfl mo_Mod_339 mi_Mod_potMany mv_Mod_potMany rfl sh_401 (by decide) (by decide) rfl rfl (Nat.le_of_ble_eq_true rfl) ?_
                          refine t2_Mod_potMany hld (Inv.keep hI inv_MS1 (Kl.wM (Kl.wM (Kl.trans (Kl.trans k4638 k4648) (Kl.mono k4673 MS0_MS1)) rfl eM4678) rfl eM4680))   (fun r4681 => ?_)
                          refine g_puti (pc1 := 144) d_Mod_pot_141 rfl fo_Mod_410 (po_12_61 _) sh_401 (by decide) ?_
                          refine Wp.topM (fun M4682 eM4682 => ?_)
                          refine g_aload_n (pc1 := 145) d_Mod_pot_144 rfl 0 rfl ?_
                          refine g_iload (pc1 := 147) d_Mod_pot_145 rfl 6 rfl ?_
                          refine g_puti (pc1 := 150) d_Mod_pot_147 rfl fo_Mod_413 (po_12_62 _) sh_401 (by decide) ?_
                          refine Wp.topM (fun M4683 eM4683 => ?_)
                          obtain ⟨x4684, ex4684⟩ : ∃ y : Int32, y = v4635 + (-1) := ⟨_, rfl⟩
                          refine g_iinc (pc1 := 153) (v := x4684) (lv' := [(0, .ref 401), (1, .int p0), (2, .int p1), (3, .int p2), (4, .int p3), (5, .int x4684), (6, .int r4670)]) d_Mod_pot_150 rfl 5 rfl (by rw [ex4684]; rfl) (by decide) [1, 2, 3, 4, 5, 0, 6] rfl ?_
                          refine g_goto (tgt := 61) d_Mod_pot_153 (by decide) ?_
                          refine Wp.loc (lv' := [(0, .ref 401), (1, .int p0), (2, .int p1), (3, .int p2), (4, .int p3), (5, .int x4684)]) [0, 1, 2, 3, 4, 5] rfl ?_
                          exact ih4632 x4684 M4683 L4672 (Kl.wM (Kl.wM (Kl.wM (Kl.wM (Kl.trans (Kl.trans k4638 k4648) (Kl.mono k4673 MS0_MS1)) rfl eM4678) rfl eM4680) rfl eM4682) rfl eM4683) (by have l0 : (-1 : Int32).toInt = -1 := (by decide); have l1 : (0 : Int32).toInt = 0 := (by decide); have r0 := (mt i_le.mpr h4640); have r1 := n4639; have r2 := (i_b (v4635)); have r3 := (i_b (x4684)); have e1 : (v4635 + (-1) : Int32).toInt = (v4635.toInt + (-1)) := i_addE rfl (by decide : (-1 : Int32).toInt = -1) (by omega); have d2 : x4684.toInt = (v4635.toInt + (-1)) := (congrArg Int32.toInt ex4684).trans e1; omega) (by have l0 : (-1 : Int32).toInt = -1 := (by decide); have l1 : (0 : Int32).toInt = 0 := (by decide); have r0 := (mt i_le.mpr h4640); have r1 := n4639; have r2 := hm4633; have r3 := (i_b (v4635)); have r4 := (i_b (x4684)); have e1 : (v4635 + (-1) : Int32).toInt = (v4635.toInt + (-1)) := i_addE rfl (by decide : (-1 : Int32).toInt = -1) (by omega); have d2 : x4684.toInt = (v4635.toInt + (-1)) := (congrArg Int32.toInt ex4684).trans e1; omega)
                        · refine g_goto (tgt := 150) d_Mod_pot_119 (by decide) ?_
                          obtain ⟨x4685, ex4685⟩ : ∃ y : Int32, y = v4635 + (-1) := ⟨_, rfl⟩
                          refine g_iinc (pc1 := 153) (v := x4685) (lv' := [(0, .ref 401), (1, .int p0), (2, .int p1), (3, .int p2), (4, .int p3), (5, .int x4685), (6, .int r4670)]) d_Mod_pot_150 rfl 5 rfl (by rw [ex4685]; rfl) (by decide) [1, 2, 3, 4, 5, 0, 6] rfl ?_
                          refine g_goto (tgt := 61) d_Mod_pot_153 (by decide) ?_
                          refine Wp.loc (lv' := [(0, .ref 401), (1, .int p0), (2, .int p1), (3, .int p2), (4, .int p3), (5, .int x4685)]) [0, 1, 2, 3, 4, 5] rfl ?_
                          exact ih4632 x4685 M4671 L4672 (Kl.trans (Kl.trans k4638 k4648) (Kl.mono k4673 MS0_MS1)) (by have l0 : (-1 : Int32).toInt = -1 := (by decide); have l1 : (0 : Int32).toInt = 0 := (by decide); have r0 := (mt i_le.mpr h4640); have r1 := n4639; have r2 := (i_b (v4635)); have r3 := (i_b (x4685)); have e1 : (v4635 + (-1) : Int32).toInt = (v4635.toInt + (-1)) := i_addE rfl (by decide : (-1 : Int32).toInt = -1) (by omega); have d2 : x4685.toInt = (v4635.toInt + (-1)) := (congrArg Int32.toInt ex4685).trans e1; omega) (by have l0 : (-1 : Int32).toInt = -1 := (by decide); have l1 : (0 : Int32).toInt = 0 := (by decide); have r0 := (mt i_le.mpr h4640); have r1 := n4639; have r2 := hm4633; have r3 := (i_b (v4635)); have r4 := (i_b (x4685)); have e1 : (v4635 + (-1) : Int32).toInt = (v4635.toInt + (-1)) := i_addE rfl (by decide : (-1 : Int32).toInt = -1) (by omega); have d2 : x4685.toInt = (v4635.toInt + (-1)) := (congrArg Int32.toInt ex4685).trans e1; omega)
                    · refine g_goto (tgt := 150) d_Mod_pot_93 (by decide) ?_
                      obtain ⟨x4686, ex4686⟩ : ∃ y : Int32, y = v4635 + (-1) := ⟨_, rfl⟩
                      refine g_iinc (pc1 := 153) (v := x4686) (lv' := [(0, .ref 401), (1, .int p0), (2, .int p1), (3, .int p2), (4, .int p3), (5, .int x4686)]) d_Mod_pot_150 rfl 5 rfl (by rw [ex4686]; rfl) (by decide) [1, 2, 3, 4, 5, 0] rfl ?_
                      refine g_goto (tgt := 61) d_Mod_pot_153 (by decide) ?_
                      exact ih4632 x4686 M4646 L4647 (Kl.trans k4638 k4648) (by have l0 : (-1 : Int32).toInt = -1 := (by decide); have l1 : (0 : Int32).toInt = 0 := (by decide); have r0 := (mt i_le.mpr h4640); have r1 := n4639; have r2 := (i_b (v4635)); have r3 := (i_b (x4686)); have e1 : (v4635 + (-1) : Int32).toInt = (v4635.toInt + (-1)) := i_addE rfl (by decide : (-1 : Int32).toInt = -1) (by omega); have d2 : x4686.toInt = (v4635.toInt + (-1)) := (congrArg Int32.toInt ex4686).trans e1; omega) (by have l0 : (-1 : Int32).toInt = -1 := (by decide); have l1 : (0 : Int32).toInt = 0 := (by decide); have r0 := (mt i_le.mpr h4640); have r1 := n4639; have r2 := hm4633; have r3 := (i_b (v4635)); have r4 := (i_b (x4686)); have e1 : (v4635 + (-1) : Int32).toInt = (v4635.toInt + (-1)) := i_addE rfl (by decide : (-1 : Int32).toInt = -1) (by omega); have d2 : x4686.toInt = (v4635.toInt + (-1)) := (congrArg Int32.toInt ex4686).trans e1; omega)
          exact LP4634 _ x4630 M4628 L4626 (Kl.wM (Kl.trans Kl.rf k4627) rfl eM4628) (by have l0 : (1 : Int32).toInt = 1 := (by decide); have l1 : (6 : Int32).toInt = 6 := (by decide); have r0 := hbr4629; have r1 := (hbr4629.1.trans (by decide : (((7 : Nat) : Int)) ^ ((6 : Int32).toInt.toNat) = 117649)); have r2 := (i_b (r4629)); have r3 := (i_b (x4630)); have e1 : (r4629 - 1 : Int32).toInt = (r4629.toInt - 1) := i_subE rfl (by decide : (1 : Int32).toInt = 1) (by omega); have d2 : x4630.toInt = (r4629.toInt - 1) := (congrArg Int32.toInt ex4630).trans e1; omega) (Nat.lt_succ_self _)
        · refine g_iconst (pc1 := 42) (v := (-1)) d_Mod_pot_41 rfl (by decide) ?_
          refine g_ireturn (Or.inl rfl) d_Mod_pot_42 rfl ?_
          exact hQ _ _ _ Kl.rf
set_option maxHeartbeats 4000000 in
set_option maxRecDepth 20000 in
theorem t2_Mod_stockIn {l : Launch} {ld : Nat} (hld : isLa ld) {M : gM} {L : gL} {Q : Option Value → gM → gL → gR → Prop} (hI : Inv M) (p0 : Int32) (p1 : Int32)  (hQ : ∀ (r : Int32) (M' : gM) (L' : gL), Kl MS1 M L M' L' → Q (some (.int r)) M' L' (rf ld)) : Tm l y_Mod_stockIn (0, 0, 447) 447 [.ref 401, .int p0, .int p1] M L (rf ld) Q := by
  refine Tm.of (by decide) (Nat.le_of_ble_eq_true rfl) ?_
  show Wp l y_Mod_stockIn (0, 0, 447) 447 0 0 0 [(0, .ref 401), (1, .int p0), (2, .int p1)] [] M L (rf ld) Q
  refine g_aload_n (pc1 := 1) d_Mod_stockIn_0 rfl 0 rfl ?_
  refine g_iload_n (pc1 := 2) d_Mod_stockIn_1 rfl 1 rfl ?_
  refine g_callV0 (pc1 := 5) (As := [.int p0]) (rest := []) d_Mod_stockIn_2 rfl mo_Mod_371 mi_Mod_isFood mv_Mod_isFood rfl sh_401 (by decide) (by decide) rfl rfl (Nat.le_of_ble_eq_true rfl) ?_
  refine t2_Mod_isFood hld hI _  (fun r4687 hbr4687 => ?_)
  refine g_if_eq (pc1 := 8) (tgt := 15) d_Mod_stockIn_5 (by decide) rfl (fun h4688 => ?_) (fun h4688 => ?_)
  · refine g_iconst (pc1 := 16) (v := (-1)) d_Mod_stockIn_15 rfl (by decide) ?_
    refine g_ireturn (Or.inl rfl) d_Mod_stockIn_16 rfl ?_
    exact hQ _ _ _ Kl.rf
  · refine g_iload_n (pc1 := 9) d_Mod_stockIn_8 rfl 2 rfl ?_
    refine g_callS0 (pc1 := 12) (As := [.int p1]) (rest := []) d_Mod_stockIn_9 rfl mo_Mod_446 ms_Mod_isLong (by decide) rfl rfl (Nat.le_of_ble_eq_true rfl) ?_
    refine t2_Mod_isLong hld _  (fun r4689 hbr4689 => ?_)
    refine g_if_ne (pc1 := 15) (tgt := 17) d_Mod_stockIn_12 (by decide) rfl (fun h4690 => ?_) (fun h4690 => ?_)
    · refine g_aload_n (pc1 := 18) d_Mod_stockIn_17 rfl 0 rfl ?_
      refine g_callV0 (pc1 := 21) (As := []) (rest := []) d_Mod_stockIn_18 rfl mo_Mod_377 mi_Mod_copies mv_Mod_copies rfl sh_401 (by decide) (by decide) rfl rfl (Nat.le_of_ble_eq_true rfl) ?_
      refine t2_Mod_copies hld hI   (fun  M4691 L4692 k4693 => ?_)
      refine g_aload_n (pc1 := 22) d_Mod_stockIn_21 rfl 0 rfl ?_
      refine g_iload_n (pc1 := 23) d_Mod_stockIn_22 rfl 2 rfl ?_
      refine g_callV0 (pc1 := 26) (As := [.int p1]) (rest := []) d_Mod_stockIn_23 rfl mo_Mod_398 mi_Mod_goes mv_Mod_goes rfl sh_401 (by decide) (by decide) rfl rfl (Nat.le_of_ble_eq_true rfl) ?_
      refine t2_Mod_goes hld (Inv.keep hI inv_MS1 (Kl.trans Kl.rf k4693)) _  (fun  M4694 L4695 k4696 => ?_)
      refine g_aload_n (pc1 := 27) d_Mod_stockIn_26 rfl 0 rfl ?_
      refine g_getr (pc1 := 30) d_Mod_stockIn_27 rfl ⟨_, fo_Mod_125⟩ sh_401 (by decide) (rf_401_53 ld) ?_
      refine g_iload_n (pc1 := 31) d_Mod_stockIn_30 rfl 1 rfl ?_
      refine g_iald (pc1 := 32) d_Mod_stockIn_31 rfl sh_437 (by decide) (by have r0 := (bp_t hbr4687 h4688); have r1 := (hI.foods (M 401 18).toNatClampNeg); have r2 := (i_b (M 411 (M 401 18).toNatClampNeg)); have r3 := (i_b (p0)); exact vin_i (by omega) (by omega)) ?_
      refine g_ireturn (Or.inl rfl) d_Mod_stockIn_32 rfl ?_
      exact hQ _ _ _ (Kl.trans (Kl.trans Kl.rf k4693) k4696)
    · refine g_iconst (pc1 := 16) (v := (-1)) d_Mod_stockIn_15 rfl (by decide) ?_
      refine g_ireturn (Or.inl rfl) d_Mod_stockIn_16 rfl ?_
      exact hQ _ _ _ Kl.rf
set_option maxHeartbeats 4000000 in
set_option maxRecDepth 20000 in
theorem t2_Mod_year {l : Launch} {ld : Nat} (hld : isLa ld) {M : gM} {L : gL} {Q : Option Value → gM → gL → gR → Prop} (hI : Inv M) (p0 : Int32) (p1 : Int32) (p2 : Int32) (p3 : Int32)  (hQ : ∀ (r : Int32) (M' : gM) (L' : gL), Kl MS1 M L M' L' → Q (some (.int r)) M' L' (rf ld)) : Tm l y_Mod_year (0, 0, 447) 447 [.ref 401, .int p0, .int p1, .int p2, .int p3] M L (rf ld) Q := by
  refine Tm.of (by decide) (Nat.le_of_ble_eq_true rfl) ?_
  show Wp l y_Mod_year (0, 0, 447) 447 0 0 0 [(0, .ref 401), (1, .int p0), (2, .int p1), (3, .int p2), (4, .int p3)] [] M L (rf ld) Q
  refine g_aload_n (pc1 := 1) d_Mod_year_0 rfl 0 rfl ?_
  refine g_iload_n (pc1 := 2) d_Mod_year_1 rfl 1 rfl ?_
  refine g_callV0 (pc1 := 5) (As := [.int p0]) (rest := []) d_Mod_year_2 rfl mo_Mod_374 mi_Mod_isDish mv_Mod_isDish rfl sh_401 (by decide) (by decide) rfl rfl (Nat.le_of_ble_eq_true rfl) ?_
  refine t2_Mod_isDish hld hI _  (fun r4697 hbr4697 => ?_)
  refine g_if_eq (pc1 := 8) (tgt := 38) d_Mod_year_5 (by decide) rfl (fun h4698 => ?_) (fun h4698 => ?_)
  · refine g_iconst (pc1 := 39) (v := (-1)) d_Mod_year_38 rfl (by decide) ?_
    refine g_ireturn (Or.inl rfl) d_Mod_year_39 rfl ?_
    exact hQ _ _ _ Kl.rf
  · refine g_iload_n (pc1 := 9) d_Mod_year_8 rfl 2 rfl ?_
    refine g_iconst (pc1 := 10) (v := 0) d_Mod_year_9 rfl (by decide) ?_
    refine g_iconst (pc1 := 11) (v := 2) d_Mod_year_10 rfl (by decide) ?_
    refine g_callS0 (pc1 := 14) (As := [.int p1, .int 0, .int 2]) (rest := []) d_Mod_year_11 rfl mo_Mod_316 ms_Mod_in (by decide) rfl rfl (Nat.le_of_ble_eq_true rfl) ?_
    refine t2_Mod_in hld _ _ _  (fun r4699 hbr4699 => ?_)
    refine g_if_eq (pc1 := 17) (tgt := 38) d_Mod_year_14 (by decide) rfl (fun h4700 => ?_) (fun h4700 => ?_)
    · refine g_iconst (pc1 := 39) (v := (-1)) d_Mod_year_38 rfl (by decide) ?_
      refine g_ireturn (Or.inl rfl) d_Mod_year_39 rfl ?_
      exact hQ _ _ _ Kl.rf
    · refine g_iload_n (pc1 := 18) d_Mod_year_17 rfl 3 rfl ?_
      refine g_iconst (pc1 := 19) (v := 0) d_Mod_year_18 rfl (by decide) ?_
      refine g_bipush (pc1 := 21) (v := 99) d_Mod_year_19 rfl (by decide) ?_
      refine g_callS0 (pc1 := 24) (As := [.int p2, .int 0, .int 99]) (rest := []) d_Mod_year_21 rfl mo_Mod_316 ms_Mod_in (by decide) rfl rfl (Nat.le_of_ble_eq_true rfl) ?_
      refine t2_Mod_in hld _ _ _  (fun r4701 hbr4701 => ?_)
      refine g_if_eq (pc1 := 27) (tgt := 38) d_Mod_year_24 (by decide) rfl (fun h4702 => ?_) (fun h4702 => ?_)
      · refine g_iconst (pc1 := 39) (v := (-1)) d_Mod_year_38 rfl (by decide) ?_
        refine g_ireturn (Or.inl rfl) d_Mod_year_39 rfl ?_
        exact hQ _ _ _ Kl.rf
      · refine g_iload (pc1 := 29) d_Mod_year_27 rfl 4 rfl ?_
        refine g_iconst (pc1 := 30) (v := 1) d_Mod_year_29 rfl (by decide) ?_
        refine g_bipush (pc1 := 32) (v := 20) d_Mod_year_30 rfl (by decide) ?_
        refine g_callS0 (pc1 := 35) (As := [.int p3, .int 1, .int 20]) (rest := []) d_Mod_year_32 rfl mo_Mod_316 ms_Mod_in (by decide) rfl rfl (Nat.le_of_ble_eq_true rfl) ?_
        refine t2_Mod_in hld _ _ _  (fun r4703 hbr4703 => ?_)
        refine g_if_ne (pc1 := 38) (tgt := 40) d_Mod_year_35 (by decide) rfl (fun h4704 => ?_) (fun h4704 => ?_)
        · refine g_aload_n (pc1 := 41) d_Mod_year_40 rfl 0 rfl ?_
          refine g_callV0 (pc1 := 44) (As := []) (rest := []) d_Mod_year_41 rfl mo_Mod_377 mi_Mod_copies mv_Mod_copies rfl sh_401 (by decide) (by decide) rfl rfl (Nat.le_of_ble_eq_true rfl) ?_
          refine t2_Mod_copies hld hI   (fun  M4705 L4706 k4707 => ?_)
          refine g_aload_n (pc1 := 45) d_Mod_year_44 rfl 0 rfl ?_
          refine g_iload_n (pc1 := 46) d_Mod_year_45 rfl 1 rfl ?_
          refine g_callV0 (pc1 := 49) (As := [.int p0]) (rest := []) d_Mod_year_46 rfl mo_Mod_386 mi_Mod_isInStore mv_Mod_isInStore rfl sh_401 (by decide) (by decide) rfl rfl (Nat.le_of_ble_eq_true rfl) ?_
          refine t2_Mod_isInStore hld (Inv.keep hI inv_MS1 (Kl.trans Kl.rf k4707)) _ (by have r0 := (bp_t hbr4697 h4698); have r1 := (hI.dishes (M 401 18).toNatClampNeg); have r2 := (i_b (M 415 (M 401 18).toNatClampNeg)); have r3 := (i_b (p0)); omega) (fun r4708 M4709 L4710 hbr4708 k4711 => ?_)
          refine g_if_ne (pc1 := 52) (tgt := 55) d_Mod_year_49 (by decide) rfl (fun h4712 => ?_) (fun h4712 => ?_)
          · refine g_iconst (pc1 := 56) (v := 0) d_Mod_year_55 rfl (by decide) ?_
            refine g_istore (pc1 := 58) (lv' := [(0, .ref 401), (1, .int p0), (2, .int p1), (3, .int p2), (4, .int p3), (5, .int 0)]) d_Mod_year_56 rfl (by decide) [1, 2, 3, 4, 5, 0] rfl ?_
            refine g_iconst (pc1 := 59) (v := 0) d_Mod_year_58 rfl (by decide) ?_
            refine g_istore (pc1 := 61) (lv' := [(0, .ref 401), (1, .int p0), (2, .int p1), (3, .int p2), (4, .int p3), (5, .int 0), (6, .int 0)]) d_Mod_year_59 rfl (by decide) [1, 2, 3, 4, 5, 6, 0] rfl ?_
            have LP4716 : ∀ (f4713 : Nat) (v4717 : Int32) (v4718 : Int32) (M4719 : gM) (L4720 : gL), Kl MS1 M L M4719 L4720 → (0 ≤ v4718.toInt) → (p3.toInt - v4718.toInt).toNat < f4713 → Wp l y_Mod_year (0, 0, 447) 447 0 0 61 [(0, .ref 401), (1, .int p0), (2, .int p1), (3, .int p2), (4, .int p3), (5, .int v4717), (6, .int v4718)] [] M4719 L4720 (rf ld) Q := by
              intro f4713
              induction f4713 with
              | zero => intro v4717 v4718 M4719 L4720 _ _ hm4715; exact absurd hm4715 (Nat.not_lt_zero _)
              | succ f4713 ih4714 =>
                intro v4717 v4718 M4719 L4720 k4721 n4722 hm4715
                refine g_iload (pc1 := 63) d_Mod_year_61 rfl 6 rfl ?_
                refine g_iload (pc1 := 65) d_Mod_year_63 rfl 4 rfl ?_
                refine g_icmp_ge (pc1 := 68) (tgt := 111) d_Mod_year_65 (by decide) rfl (fun h4723 => ?_) (fun h4723 => ?_)
                · refine g_iload (pc1 := 113) d_Mod_year_111 rfl 5 rfl ?_
                  refine g_ireturn (Or.inl rfl) d_Mod_year_113 rfl ?_
                  exact hQ _ _ _ k4721
                · refine g_aload_n (pc1 := 69) d_Mod_year_68 rfl 0 rfl ?_
                  refine g_callV0 (pc1 := 72) (As := []) (rest := []) d_Mod_year_69 rfl mo_Mod_377 mi_Mod_copies mv_Mod_copies rfl sh_401 (by decide) (by decide) rfl rfl (Nat.le_of_ble_eq_true rfl) ?_
                  refine t2_Mod_copies hld (Inv.keep hI inv_MS1 k4721)   (fun  M4724 L4725 k4726 => ?_)
                  refine g_aload_n (pc1 := 73) d_Mod_year_72 rfl 0 rfl ?_
                  refine g_dup (pc1 := 74) d_Mod_year_73 rfl rfl ?_
                  refine g_geti (pc1 := 77) d_Mod_year_74 rfl ⟨_, fo_Mod_320⟩ sh_401 (by decide) ?_
                  refine g_iload (pc1 := 79) d_Mod_year_77 rfl 6 rfl ?_
                  refine g_iadd (pc1 := 80) d_Mod_year_79 rfl ?_
                  refine g_puti (pc1 := 83) d_Mod_year_80 rfl fo_Mod_320 (po_12_54 _) sh_401 (by decide) ?_
                  refine Wp.topM (fun M4727 eM4727 => ?_)
                  refine g_aload_n (pc1 := 84) d_Mod_year_83 rfl 0 rfl ?_
                  refine g_iload_n (pc1 := 85) d_Mod_year_84 rfl 1 rfl ?_
                  refine g_callV0 (pc1 := 88) (As := [.int p0]) (rest := []) d_Mod_year_85 rfl mo_Mod_389 mi_Mod_cooks mv_Mod_cooks rfl sh_401 (by decide) (by decide) rfl rfl (Nat.le_of_ble_eq_true rfl) ?_
                  refine t2_Mod_cooks hld (Inv.keep hI inv_MS1 (Kl.wM (Kl.trans k4721 k4726) rfl eM4727)) _ (by rw [(Kl.m (c := 401) (j := 18) (Kl.wM (Kl.trans k4721 k4726) rfl eM4727) rfl : M4727 401 18 = M 401 18), (Kl.m (c := 415) (j := (M 401 18).toNatClampNeg) (Kl.wM (Kl.trans k4721 k4726) rfl eM4727) rfl : M4727 415 (M 401 18).toNatClampNeg = M 415 (M 401 18).toNatClampNeg)]; exact (by have r0 := (hI.dishes (M 401 18).toNatClampNeg); have r1 := (bp_t hbr4697 h4698); have r2 := (i_b (M 415 (M 401 18).toNatClampNeg)); have r3 := (i_b (p0)); omega)) (fun r4728 M4729 L4730 k4731 => ?_)
                  refine g_pop (pc1 := 89) d_Mod_year_88 rfl rfl ?_
                  refine g_aload_n (pc1 := 90) d_Mod_year_89 rfl 0 rfl ?_
                  refine g_getr (pc1 := 93) d_Mod_year_90 rfl ⟨_, fo_Mod_125⟩ sh_401 (by decide) (rf_401_53 ld) ?_
                  refine g_bipush (pc1 := 95) (v := 12) d_Mod_year_93 rfl (by decide) ?_
                  refine g_iload_n (pc1 := 96) d_Mod_year_95 rfl 2 rfl ?_
                  refine g_iadd (pc1 := 97) d_Mod_year_96 rfl ?_
                  refine g_iald (pc1 := 98) d_Mod_year_97 rfl sh_437 (by decide) (by have l0 : (0 : Int32).toInt = 0 := (by decide); have l1 : (12 : Int32).toInt = 12 := (by decide); have l2 : (2 : Int32).toInt = 2 := (by decide); have r0 := (bp_t hbr4699 h4700); have r1 := (i_b (p1)); have e1 : (12 + p1 : Int32).toInt = (12 + p1.toInt) := i_addE (by decide : (12 : Int32).toInt = 12) rfl (by omega); exact vin_i (by omega) (by omega)) ?_
                  refine g_iload_n (pc1 := 99) d_Mod_year_98 rfl 3 rfl ?_
                  refine g_icmp_lt (pc1 := 102) (tgt := 105) d_Mod_year_99 (by decide) rfl (fun h4732 => ?_) (fun h4732 => ?_)
                  · obtain ⟨x4733, ex4733⟩ : ∃ y : Int32, y = v4718 + 1 := ⟨_, rfl⟩
                    refine g_iinc (pc1 := 108) (v := x4733) (lv' := [(0, .ref 401), (1, .int p0), (2, .int p1), (3, .int p2), (4, .int p3), (5, .int v4717), (6, .int x4733)]) d_Mod_year_105 rfl 6 rfl (by rw [ex4733]; rfl) (by decide) [1, 2, 3, 4, 5, 6, 0] rfl ?_
                    refine g_goto (tgt := 61) d_Mod_year_108 (by decide) ?_
                    exact ih4714 v4717 x4733 M4729 L4730 (Kl.trans (Kl.wM (Kl.trans k4721 k4726) rfl eM4727) k4731) (by have l0 : (1 : Int32).toInt = 1 := (by decide); have l1 : (20 : Int32).toInt = 20 := (by decide); have r0 := (mt i_le.mpr h4723); have r1 := n4722; have r2 := (bp_t hbr4703 h4704); have r3 := (i_b (p3)); have r4 := (i_b (v4718)); have r5 := (i_b (x4733)); have e1 : (v4718 + 1 : Int32).toInt = (v4718.toInt + 1) := i_addE rfl (by decide : (1 : Int32).toInt = 1) (by omega); have d2 : x4733.toInt = (v4718.toInt + 1) := (congrArg Int32.toInt ex4733).trans e1; omega) (by have l0 : (1 : Int32).toInt = 1 := (by decide); have l1 : (20 : Int32).toInt = 20 := (by decide); have r0 := (mt i_le.mpr h4723); have r1 := n4722; have r2 := hm4715; have r3 := (bp_t hbr4703 h4704); have r4 := (i_b (p3)); have r5 := (i_b (v4718)); have r6 := (i_b (x4733)); have e1 : (v4718 + 1 : Int32).toInt = (v4718.toInt + 1) := i_addE rfl (by decide : (1 : Int32).toInt = 1) (by omega); have d2 : x4733.toInt = (v4718.toInt + 1) := (congrArg Int32.toInt ex4733).trans e1; omega)
                  · obtain ⟨x4734, ex4734⟩ : ∃ y : Int32, y = v4717 + 1 := ⟨_, rfl⟩
                    refine g_iinc (pc1 := 105) (v := x4734) (lv' := [(0, .ref 401), (1, .int p0), (2, .int p1), (3, .int p2), (4, .int p3), (5, .int x4734), (6, .int v4718)]) d_Mod_year_102 rfl 5 rfl (by rw [ex4734]; rfl) (by decide) [1, 2, 3, 4, 5, 0, 6] rfl ?_
                    obtain ⟨x4735, ex4735⟩ : ∃ y : Int32, y = v4718 + 1 := ⟨_, rfl⟩
                    refine g_iinc (pc1 := 108) (v := x4735) (lv' := [(0, .ref 401), (1, .int p0), (2, .int p1), (3, .int p2), (4, .int p3), (5, .int x4734), (6, .int x4735)]) d_Mod_year_105 rfl 6 rfl (by rw [ex4735]; rfl) (by decide) [1, 2, 3, 4, 5, 6, 0] rfl ?_
                    refine g_goto (tgt := 61) d_Mod_year_108 (by decide) ?_
                    exact ih4714 x4734 x4735 M4729 L4730 (Kl.trans (Kl.wM (Kl.trans k4721 k4726) rfl eM4727) k4731) (by have l0 : (1 : Int32).toInt = 1 := (by decide); have l1 : (20 : Int32).toInt = 20 := (by decide); have r0 := (mt i_le.mpr h4723); have r1 := n4722; have r2 := (bp_t hbr4703 h4704); have r3 := (i_b (p3)); have r4 := (i_b (v4718)); have r5 := (i_b (x4735)); have e1 : (v4718 + 1 : Int32).toInt = (v4718.toInt + 1) := i_addE rfl (by decide : (1 : Int32).toInt = 1) (by omega); have d2 : x4735.toInt = (v4718.toInt + 1) := (congrArg Int32.toInt ex4735).trans e1; omega) (by have l0 : (1 : Int32).toInt = 1 := (by decide); have l1 : (20 : Int32).toInt = 20 := (by decide); have r0 := (mt i_le.mpr h4723); have r1 := n4722; have r2 := hm4715; have r3 := (bp_t hbr4703 h4704); have r4 := (i_b (p3)); have r5 := (i_b (v4718)); have r6 := (i_b (x4735)); have e1 : (v4718 + 1 : Int32).toInt = (v4718.toInt + 1) := i_addE rfl (by decide : (1 : Int32).toInt = 1) (by omega); have d2 : x4735.toInt = (v4718.toInt + 1) := (congrArg Int32.toInt ex4735).trans e1; omega)
            exact LP4716 _ 0 0 M4709 L4710 (Kl.trans (Kl.trans Kl.rf k4707) k4711) (by decide) (Nat.lt_succ_self _)
          · refine g_bipush (pc1 := 54) (v := (-2)) d_Mod_year_52 rfl (by decide) ?_
            refine g_ireturn (Or.inl rfl) d_Mod_year_54 rfl ?_
            exact hQ _ _ _ (Kl.trans (Kl.trans Kl.rf k4707) k4711)
        · refine g_iconst (pc1 := 39) (v := (-1)) d_Mod_year_38 rfl (by decide) ?_
          refine g_ireturn (Or.inl rfl) d_Mod_year_39 rfl ?_
          exact hQ _ _ _ Kl.rf
set_option maxHeartbeats 4000000 in
set_option maxRecDepth 20000 in
theorem t2_Mod_blame {l : Launch} {ld : Nat} (hld : isLa ld) {M : gM} {L : gL} {Q : Option Value → gM → gL → gR → Prop} (hI : Inv M) (p0 : Int32)  (hQ : ∀ (r : Int32) (M' : gM) (L' : gL), Kl MS1 M L M' L' → Q (some (.int r)) M' L' (rf ld)) : Tm l y_Mod_blame (0, 0, 447) 447 [.ref 401, .int p0] M L (rf ld) Q := by
  refine Tm.of (by decide) (Nat.le_of_ble_eq_true rfl) ?_
  show Wp l y_Mod_blame (0, 0, 447) 447 0 0 0 [(0, .ref 401), (1, .int p0)] [] M L (rf ld) Q
  refine g_iload_n (pc1 := 1) d_Mod_blame_0 rfl 1 rfl ?_
  refine g_iconst (pc1 := 2) (v := 0) d_Mod_blame_1 rfl (by decide) ?_
  refine g_aload_n (pc1 := 3) d_Mod_blame_2 rfl 0 rfl ?_
  refine g_geti (pc1 := 6) d_Mod_blame_3 rfl ⟨_, fo_Mod_257⟩ sh_401 (by decide) ?_
  refine g_callS0 (pc1 := 9) (As := [.int p0, .int 0, .int (M 401 64)]) (rest := []) d_Mod_blame_6 rfl mo_Mod_316 ms_Mod_in (by decide) rfl rfl (Nat.le_of_ble_eq_true rfl) ?_
  refine t2_Mod_in hld _ _ _  (fun r4736 hbr4736 => ?_)
  refine g_if_ne (pc1 := 12) (tgt := 14) d_Mod_blame_9 (by decide) rfl (fun h4737 => ?_) (fun h4737 => ?_)
  · refine g_aload_n (pc1 := 15) d_Mod_blame_14 rfl 0 rfl ?_
    refine g_callV0 (pc1 := 18) (As := []) (rest := []) d_Mod_blame_15 rfl mo_Mod_377 mi_Mod_copies mv_Mod_copies rfl sh_401 (by decide) (by decide) rfl rfl (Nat.le_of_ble_eq_true rfl) ?_
    refine t2_Mod_copies hld hI   (fun  M4738 L4739 k4740 => ?_)
    refine g_iconst (pc1 := 19) (v := 0) d_Mod_blame_18 rfl (by decide) ?_
    refine g_istore_n (pc1 := 20) (lv' := [(0, .ref 401), (1, .int p0), (2, .int 0)]) d_Mod_blame_19 rfl rfl (by decide) [1, 2, 0] rfl ?_
    refine g_iconst (pc1 := 21) (v := 0) d_Mod_blame_20 rfl (by decide) ?_
    refine g_istore_n (pc1 := 22) (lv' := [(0, .ref 401), (1, .int p0), (2, .int 0), (3, .int 0)]) d_Mod_blame_21 rfl rfl (by decide) [1, 2, 3, 0] rfl ?_
    have LP4744 : ∀ (f4741 : Nat) (v4745 : Int32) (v4746 : Int32) (M4747 : gM) (L4748 : gL), Kl MS1 M L M4747 L4748 → (0 ≤ v4746.toInt) → (((13 * (M 415 ((M 401 18) : Int32).toNatClampNeg)) : Int32).toInt - v4746.toInt).toNat < f4741 → Wp l y_Mod_blame (0, 0, 447) 447 0 0 22 [(0, .ref 401), (1, .int p0), (2, .int v4745), (3, .int v4746)] [] M4747 L4748 (rf ld) Q := by
      intro f4741
      induction f4741 with
      | zero => intro v4745 v4746 M4747 L4748 _ _ hm4743; exact absurd hm4743 (Nat.not_lt_zero _)
      | succ f4741 ih4742 =>
        intro v4745 v4746 M4747 L4748 k4749 n4750 hm4743
        refine g_iload_n (pc1 := 23) d_Mod_blame_22 rfl 3 rfl ?_
        refine g_bipush (pc1 := 25) (v := 13) d_Mod_blame_23 rfl (by decide) ?_
        refine g_aload_n (pc1 := 26) d_Mod_blame_25 rfl 0 rfl ?_
        refine g_getr (pc1 := 29) d_Mod_blame_26 rfl ⟨_, fo_Mod_58⟩ sh_401 (by decide) (rf_401_27 ld) ?_
        refine g_aload_n (pc1 := 30) d_Mod_blame_29 rfl 0 rfl ?_
        refine g_geti (pc1 := 33) d_Mod_blame_30 rfl ⟨_, fo_Mod_236⟩ sh_401 (by decide) ?_
        refine Wp.vali (y := (M 401 18)) (Kl.m k4749 rfl) ?_
        refine g_iald (pc1 := 34) d_Mod_blame_33 rfl sh_415 (by decide) (by have r0 := hI.live; have r1 := (i_b (M 401 18)); exact vin_i (by omega) (by omega)) ?_
        refine Wp.vali (y := (M 415 ((M 401 18) : Int32).toNatClampNeg)) (Kl.m k4749 rfl) ?_
        refine g_imul (pc1 := 35) d_Mod_blame_34 rfl ?_
        refine g_icmp_ge (pc1 := 38) (tgt := 56) d_Mod_blame_35 (by decide) rfl (fun h4751 => ?_) (fun h4751 => ?_)
        · refine g_iload_n (pc1 := 57) d_Mod_blame_56 rfl 2 rfl ?_
          refine g_ireturn (Or.inl rfl) d_Mod_blame_57 rfl ?_
          exact hQ _ _ _ k4749
        · refine g_aload_n (pc1 := 39) d_Mod_blame_38 rfl 0 rfl ?_
          refine g_iload_n (pc1 := 40) d_Mod_blame_39 rfl 3 rfl ?_
          refine g_iload_n (pc1 := 41) d_Mod_blame_40 rfl 1 rfl ?_
          refine g_callV0 (pc1 := 44) (As := [.int v4746, .int p0]) (rest := []) d_Mod_blame_41 rfl mo_Mod_455 mi_Mod_isWay mv_Mod_isWay rfl sh_401 (by decide) (by decide) rfl rfl (Nat.le_of_ble_eq_true rfl) ?_
          refine t2_Mod_isWay hld (Inv.keep hI inv_MS1 k4749) _ _ (by have l0 : (13 : Int32).toInt = 13 := (by decide); have r0 := (mt i_le.mpr h4751); have r1 := n4750; have r2 := (hI.dishes (((M 401 18) : Int32).toNatClampNeg)); have r3 := (i_b (M 415 (M 401 18).toNatClampNeg)); have r4 := (i_b (v4746)); (try have e1 : (13 * (M 415 (M 401 18).toNatClampNeg) : Int32).toInt = (13 * ((M 415 (M 401 18).toNatClampNeg) : Int32).toInt) := i_mulE (by decide : (13 : Int32).toInt = 13) rfl (by omega)); omega) (by rw [(Kl.m (c := 401) (j := 64) k4749 rfl : M4747 401 64 = M 401 64)]; exact (by have l0 : (0 : Int32).toInt = 0 := (by decide); have r0 := (bp_t hbr4736 h4737); have r1 := hI.tolds; have r2 := (i_b (M 401 64)); have r3 := (i_b (p0)); omega)) (fun r4752 M4753 L4754 hbr4752 k4755 => ?_)
          refine g_if_eq (pc1 := 47) (tgt := 50) d_Mod_blame_44 (by decide) rfl (fun h4756 => ?_) (fun h4756 => ?_)
          · obtain ⟨x4757, ex4757⟩ : ∃ y : Int32, y = v4746 + 1 := ⟨_, rfl⟩
            refine g_iinc (pc1 := 53) (v := x4757) (lv' := [(0, .ref 401), (1, .int p0), (2, .int v4745), (3, .int x4757)]) d_Mod_blame_50 rfl 3 rfl (by rw [ex4757]; rfl) (by decide) [1, 2, 3, 0] rfl ?_
            refine g_goto (tgt := 22) d_Mod_blame_53 (by decide) ?_
            exact ih4742 v4745 x4757 M4753 L4754 (Kl.trans k4749 k4755) (by have l0 : (1 : Int32).toInt = 1 := (by decide); have l1 : (13 : Int32).toInt = 13 := (by decide); have r0 := (mt i_le.mpr h4751); have r1 := n4750; have r2 := (hI.dishes (((M 401 18) : Int32).toNatClampNeg)); have r3 := (i_b (M 415 (M 401 18).toNatClampNeg)); have r4 := (i_b (v4746)); have r5 := (i_b (x4757)); (try have e1 : (13 * (M 415 (M 401 18).toNatClampNeg) : Int32).toInt = (13 * ((M 415 (M 401 18).toNatClampNeg) : Int32).toInt) := i_mulE (by decide : (13 : Int32).toInt = 13) rfl (by omega)); have e2 : (v4746 + 1 : Int32).toInt = (v4746.toInt + 1) := i_addE rfl (by decide : (1 : Int32).toInt = 1) (by omega); have d3 : x4757.toInt = (v4746.toInt + 1) := (congrArg Int32.toInt ex4757).trans e2; omega) (by have l0 : (1 : Int32).toInt = 1 := (by decide); have l1 : (13 : Int32).toInt = 13 := (by decide); have r0 := (mt i_le.mpr h4751); have r1 := n4750; have r2 := hm4743; have r3 := (hI.dishes (((M 401 18) : Int32).toNatClampNeg)); have r4 := (i_b (M 415 (M 401 18).toNatClampNeg)); have r5 := (i_b (v4746)); have r6 := (i_b (x4757)); (try have e1 : (13 * (M 415 (M 401 18).toNatClampNeg) : Int32).toInt = (13 * ((M 415 (M 401 18).toNatClampNeg) : Int32).toInt) := i_mulE (by decide : (13 : Int32).toInt = 13) rfl (by omega)); have e2 : (v4746 + 1 : Int32).toInt = (v4746.toInt + 1) := i_addE rfl (by decide : (1 : Int32).toInt = 1) (by omega); have d3 : x4757.toInt = (v4746.toInt + 1) := (congrArg Int32.toInt ex4757).trans e2; omega)
          · obtain ⟨x4758, ex4758⟩ : ∃ y : Int32, y = v4745 + 1 := ⟨_, rfl⟩
            refine g_iinc (pc1 := 50) (v := x4758) (lv' := [(0, .ref 401), (1, .int p0), (2, .int x4758), (3, .int v4746)]) d_Mod_blame_47 rfl 2 rfl (by rw [ex4758]; rfl) (by decide) [1, 2, 0, 3] rfl ?_
            obtain ⟨x4759, ex4759⟩ : ∃ y : Int32, y = v4746 + 1 := ⟨_, rfl⟩
            refine g_iinc (pc1 := 53) (v := x4759) (lv' := [(0, .ref 401), (1, .int p0), (2, .int x4758), (3, .int x4759)]) d_Mod_blame_50 rfl 3 rfl (by rw [ex4759]; rfl) (by decide) [1, 2, 3, 0] rfl ?_
            refine g_goto (tgt := 22) d_Mod_blame_53 (by decide) ?_
            exact ih4742 x4758 x4759 M4753 L4754 (Kl.trans k4749 k4755) (by have l0 : (1 : Int32).toInt = 1 := (by decide); have l1 : (13 : Int32).toInt = 13 := (by decide); have r0 := (mt i_le.mpr h4751); have r1 := n4750; have r2 := (hI.dishes (((M 401 18) : Int32).toNatClampNeg)); have r3 := (i_b (M 415 (M 401 18).toNatClampNeg)); have r4 := (i_b (v4746)); have r5 := (i_b (x4759)); (try have e1 : (13 * (M 415 (M 401 18).toNatClampNeg) : Int32).toInt = (13 * ((M 415 (M 401 18).toNatClampNeg) : Int32).toInt) := i_mulE (by decide : (13 : Int32).toInt = 13) rfl (by omega)); have e2 : (v4746 + 1 : Int32).toInt = (v4746.toInt + 1) := i_addE rfl (by decide : (1 : Int32).toInt = 1) (by omega); have d3 : x4759.toInt = (v4746.toInt + 1) := (congrArg Int32.toInt ex4759).trans e2; omega) (by have l0 : (1 : Int32).toInt = 1 := (by decide); have l1 : (13 : Int32).toInt = 13 := (by decide); have r0 := (mt i_le.mpr h4751); have r1 := n4750; have r2 := hm4743; have r3 := (hI.dishes (((M 401 18) : Int32).toNatClampNeg)); have r4 := (i_b (M 415 (M 401 18).toNatClampNeg)); have r5 := (i_b (v4746)); have r6 := (i_b (x4759)); (try have e1 : (13 * (M 415 (M 401 18).toNatClampNeg) : Int32).toInt = (13 * ((M 415 (M 401 18).toNatClampNeg) : Int32).toInt) := i_mulE (by decide : (13 : Int32).toInt = 13) rfl (by omega)); have e2 : (v4746 + 1 : Int32).toInt = (v4746.toInt + 1) := i_addE rfl (by decide : (1 : Int32).toInt = 1) (by omega); have d3 : x4759.toInt = (v4746.toInt + 1) := (congrArg Int32.toInt ex4759).trans e2; omega)
    exact LP4744 _ 0 0 M4738 L4739 (Kl.trans Kl.rf k4740) (by decide) (Nat.lt_succ_self _)
  · refine g_iconst (pc1 := 13) (v := (-1)) d_Mod_blame_12 rfl (by decide) ?_
    refine g_ireturn (Or.inl rfl) d_Mod_blame_13 rfl ?_
    exact hQ _ _ _ Kl.rf
set_option maxHeartbeats 4000000 in
set_option maxRecDepth 20000 in
theorem t2_Mod_deed {l : Launch} {ld : Nat} (hld : isLa ld) {M : gM} {L : gL} {Q : Option Value → gM → gL → gR → Prop} (hI : Inv M) (p0 : Int32) (p1 : Int32)  (hQ : ∀ (r : Int32) (M' : gM) (L' : gL), Kl MS1 M L M' L' → Q (some (.int r)) M' L' (rf ld)) : Tm l y_Mod_deed (0, 0, 447) 447 [.ref 401, .int p0, .int p1] M L (rf ld) Q := by
  refine Tm.of (by decide) (Nat.le_of_ble_eq_true rfl) ?_
  show Wp l y_Mod_deed (0, 0, 447) 447 0 0 0 [(0, .ref 401), (1, .int p0), (2, .int p1)] [] M L (rf ld) Q
  refine g_aload_n (pc1 := 1) d_Mod_deed_0 rfl 0 rfl ?_
  refine g_iload_n (pc1 := 2) d_Mod_deed_1 rfl 1 rfl ?_
  refine g_callV0 (pc1 := 5) (As := [.int p0]) (rest := []) d_Mod_deed_2 rfl mo_Mod_383 mi_Mod_isDeed mv_Mod_isDeed rfl sh_401 (by decide) (by decide) rfl rfl (Nat.le_of_ble_eq_true rfl) ?_
  refine t2_Mod_isDeed hld hI _  (fun r4760 hbr4760 => ?_)
  refine g_if_ne (pc1 := 8) (tgt := 10) d_Mod_deed_5 (by decide) rfl (fun h4761 => ?_) (fun h4761 => ?_)
  · refine g_aload_n (pc1 := 11) d_Mod_deed_10 rfl 0 rfl ?_
    refine g_callV0 (pc1 := 14) (As := []) (rest := []) d_Mod_deed_11 rfl mo_Mod_377 mi_Mod_copies mv_Mod_copies rfl sh_401 (by decide) (by decide) rfl rfl (Nat.le_of_ble_eq_true rfl) ?_
    refine t2_Mod_copies hld hI   (fun  M4762 L4763 k4764 => ?_)
    refine g_iload_n (pc1 := 15) d_Mod_deed_14 rfl 2 rfl ?_
    by_cases h4765 : p1 = 0
    · refine g_tabK (tgt := 40) (off := 25) d_Mod_deed_15 h4765 (by decide) (by decide) (by decide) (by decide) ?_
      refine g_aload_n (pc1 := 41) d_Mod_deed_40 rfl 0 rfl ?_
      refine g_getr (pc1 := 44) d_Mod_deed_41 rfl ⟨_, fo_Mod_76⟩ sh_401 (by decide) (rf_401_33 ld) ?_
      refine g_bipush (pc1 := 46) (v := 6) d_Mod_deed_44 rfl (by decide) ?_
      refine g_aload_n (pc1 := 47) d_Mod_deed_46 rfl 0 rfl ?_
      refine g_geti (pc1 := 50) d_Mod_deed_47 rfl ⟨_, fo_Mod_236⟩ sh_401 (by decide) ?_
      refine Wp.vali (y := (M 401 18)) (Kl.m k4764 rfl) ?_
      refine g_imul (pc1 := 51) d_Mod_deed_50 rfl ?_
      refine g_iload_n (pc1 := 52) d_Mod_deed_51 rfl 1 rfl ?_
      refine g_iadd (pc1 := 53) d_Mod_deed_52 rfl ?_
      refine g_iald (pc1 := 54) d_Mod_deed_53 rfl sh_421 (by decide) (by have l0 : (6 : Int32).toInt = 6 := (by decide); have r0 := (bp_t hbr4760 h4761); have r1 := hI.live; have r2 := (hI.deeds (M 401 18).toNatClampNeg); have r3 := (i_b (M 401 18)); have r4 := (i_b (M 420 (M 401 18).toNatClampNeg)); have r5 := (i_b (p0)); have e1 : (6 * (M 401 18) : Int32).toInt = (6 * ((M 401 18) : Int32).toInt) := i_mulE (by decide : (6 : Int32).toInt = 6) rfl (by omega); have e2 : ((6 * (M 401 18)) + p0 : Int32).toInt = ((6 * ((M 401 18) : Int32).toInt) + p0.toInt) := i_addE e1 rfl (by omega); exact vin_i (by omega) (by omega)) ?_
      refine Wp.vali (y := (M 421 (((6 * (M 401 18)) + p0) : Int32).toNatClampNeg)) (Kl.m k4764 rfl) ?_
      refine g_ireturn (Or.inl rfl) d_Mod_deed_54 rfl ?_
      exact hQ _ _ _ (Kl.trans Kl.rf k4764)
    by_cases h4766 : p1 = 1
    · refine g_tabK (tgt := 55) (off := 40) d_Mod_deed_15 h4766 (by decide) (by decide) (by decide) (by decide) ?_
      refine g_aload_n (pc1 := 56) d_Mod_deed_55 rfl 0 rfl ?_
      refine g_getr (pc1 := 59) d_Mod_deed_56 rfl ⟨_, fo_Mod_79⟩ sh_401 (by decide) (rf_401_34 ld) ?_
      refine g_bipush (pc1 := 61) (v := 6) d_Mod_deed_59 rfl (by decide) ?_
      refine g_aload_n (pc1 := 62) d_Mod_deed_61 rfl 0 rfl ?_
      refine g_geti (pc1 := 65) d_Mod_deed_62 rfl ⟨_, fo_Mod_236⟩ sh_401 (by decide) ?_
      refine Wp.vali (y := (M 401 18)) (Kl.m k4764 rfl) ?_
      refine g_imul (pc1 := 66) d_Mod_deed_65 rfl ?_
      refine g_iload_n (pc1 := 67) d_Mod_deed_66 rfl 1 rfl ?_
      refine g_iadd (pc1 := 68) d_Mod_deed_67 rfl ?_
      refine g_iald (pc1 := 69) d_Mod_deed_68 rfl sh_422 (by decide) (by have l0 : (6 : Int32).toInt = 6 := (by decide); have r0 := (bp_t hbr4760 h4761); have r1 := hI.live; have r2 := (hI.deeds (M 401 18).toNatClampNeg); have r3 := (i_b (M 401 18)); have r4 := (i_b (M 420 (M 401 18).toNatClampNeg)); have r5 := (i_b (p0)); have e1 : (6 * (M 401 18) : Int32).toInt = (6 * ((M 401 18) : Int32).toInt) := i_mulE (by decide : (6 : Int32).toInt = 6) rfl (by omega); have e2 : ((6 * (M 401 18)) + p0 : Int32).toInt = ((6 * ((M 401 18) : Int32).toInt) + p0.toInt) := i_addE e1 rfl (by omega); exact vin_i (by omega) (by omega)) ?_
      refine Wp.vali (y := (M 422 (((6 * (M 401 18)) + p0) : Int32).toNatClampNeg)) (Kl.m k4764 rfl) ?_
      refine g_ireturn (Or.inl rfl) d_Mod_deed_69 rfl ?_
      exact hQ _ _ _ (Kl.trans Kl.rf k4764)
    by_cases h4767 : p1 = 2
    · refine g_tabK (tgt := 70) (off := 55) d_Mod_deed_15 h4767 (by decide) (by decide) (by decide) (by decide) ?_
      refine g_iconst (pc1 := 71) (v := 0) d_Mod_deed_70 rfl (by decide) ?_
      refine g_istore_n (pc1 := 72) (lv' := [(0, .ref 401), (1, .int p0), (2, .int p1), (3, .int 0)]) d_Mod_deed_71 rfl rfl (by decide) [1, 2, 3, 0] rfl ?_
      refine g_iconst (pc1 := 73) (v := 0) d_Mod_deed_72 rfl (by decide) ?_
      refine g_istore (pc1 := 75) (lv' := [(0, .ref 401), (1, .int p0), (2, .int p1), (3, .int 0), (4, .int 0)]) d_Mod_deed_73 rfl (by decide) [1, 2, 3, 4, 0] rfl ?_
      have LP4771 : ∀ (f4768 : Nat) (v4772 : Int32) (v4773 : Int32) (M4774 : gM) (L4775 : gL), Kl MS1 M L M4774 L4775 → (0 ≤ v4773.toInt) → (((M 418 ((M 401 18) : Int32).toNatClampNeg) : Int32).toInt - v4773.toInt).toNat < f4768 → Wp l y_Mod_deed (0, 0, 447) 447 0 0 75 [(0, .ref 401), (1, .int p0), (2, .int p1), (3, .int v4772), (4, .int v4773)] [] M4774 L4775 (rf ld) Q := by
        intro f4768
        induction f4768 with
        | zero => intro v4772 v4773 M4774 L4775 _ _ hm4770; exact absurd hm4770 (Nat.not_lt_zero _)
        | succ f4768 ih4769 =>
          intro v4772 v4773 M4774 L4775 k4776 n4777 hm4770
          refine g_iload (pc1 := 77) d_Mod_deed_75 rfl 4 rfl ?_
          refine g_aload_n (pc1 := 78) d_Mod_deed_77 rfl 0 rfl ?_
          refine g_getr (pc1 := 81) d_Mod_deed_78 rfl ⟨_, fo_Mod_67⟩ sh_401 (by decide) (rf_401_30 ld) ?_
          refine g_aload_n (pc1 := 82) d_Mod_deed_81 rfl 0 rfl ?_
          refine g_geti (pc1 := 85) d_Mod_deed_82 rfl ⟨_, fo_Mod_236⟩ sh_401 (by decide) ?_
          refine Wp.vali (y := (M 401 18)) (Kl.m k4776 rfl) ?_
          refine g_iald (pc1 := 86) d_Mod_deed_85 rfl sh_418 (by decide) (by have r0 := hI.live; have r1 := (i_b (M 401 18)); exact vin_i (by omega) (by omega)) ?_
          refine Wp.vali (y := (M 418 ((M 401 18) : Int32).toNatClampNeg)) (Kl.m k4776 rfl) ?_
          refine g_icmp_ge (pc1 := 89) (tgt := 112) d_Mod_deed_86 (by decide) rfl (fun h4778 => ?_) (fun h4778 => ?_)
          · refine g_iload_n (pc1 := 113) d_Mod_deed_112 rfl 3 rfl ?_
            refine g_ireturn (Or.inl rfl) d_Mod_deed_113 rfl ?_
            exact hQ _ _ _ k4776
          · refine g_aload_n (pc1 := 90) d_Mod_deed_89 rfl 0 rfl ?_
            refine g_iload (pc1 := 92) d_Mod_deed_90 rfl 4 rfl ?_
            refine g_iload_n (pc1 := 93) d_Mod_deed_92 rfl 1 rfl ?_
            refine g_callV0 (pc1 := 96) (As := [.int v4773, .int p0]) (rest := []) d_Mod_deed_93 rfl mo_Mod_352 mi_Mod_isFree mv_Mod_isFree rfl sh_401 (by decide) (by decide) rfl rfl (Nat.le_of_ble_eq_true rfl) ?_
            refine t2_Mod_isFree hld (Inv.keep hI inv_MS1 k4776) _ _ (by have r0 := (mt i_le.mpr h4778); have r1 := n4777; have r2 := (hI.guests (((M 401 18) : Int32).toNatClampNeg)); have r3 := (i_b (M 418 (M 401 18).toNatClampNeg)); have r4 := (i_b (v4773)); omega) (by rw [(Kl.m (c := 401) (j := 18) k4776 rfl : M4774 401 18 = M 401 18), (Kl.m (c := 420) (j := (M 401 18).toNatClampNeg) k4776 rfl : M4774 420 (M 401 18).toNatClampNeg = M 420 (M 401 18).toNatClampNeg)]; exact (by have r0 := (hI.deeds (M 401 18).toNatClampNeg); have r1 := (bp_t hbr4760 h4761); have r2 := (i_b (M 420 (M 401 18).toNatClampNeg)); have r3 := (i_b (p0)); omega)) (fun r4779 M4780 L4781 hbr4779 k4782 => ?_)
            refine g_if_eq (pc1 := 99) (tgt := 106) d_Mod_deed_96 (by decide) rfl (fun h4783 => ?_) (fun h4783 => ?_)
            · obtain ⟨x4784, ex4784⟩ : ∃ y : Int32, y = v4773 + 1 := ⟨_, rfl⟩
              refine g_iinc (pc1 := 109) (v := x4784) (lv' := [(0, .ref 401), (1, .int p0), (2, .int p1), (3, .int v4772), (4, .int x4784)]) d_Mod_deed_106 rfl 4 rfl (by rw [ex4784]; rfl) (by decide) [1, 2, 3, 4, 0] rfl ?_
              refine g_goto (tgt := 75) d_Mod_deed_109 (by decide) ?_
              exact ih4769 v4772 x4784 M4780 L4781 (Kl.trans k4776 (Kl.mono k4782 MS0_MS1)) (by have l0 : (1 : Int32).toInt = 1 := (by decide); have r0 := (mt i_le.mpr h4778); have r1 := n4777; have r2 := (hI.guests (((M 401 18) : Int32).toNatClampNeg)); have r3 := (i_b (M 418 (M 401 18).toNatClampNeg)); have r4 := (i_b (v4773)); have r5 := (i_b (x4784)); have e1 : (v4773 + 1 : Int32).toInt = (v4773.toInt + 1) := i_addE rfl (by decide : (1 : Int32).toInt = 1) (by omega); have d2 : x4784.toInt = (v4773.toInt + 1) := (congrArg Int32.toInt ex4784).trans e1; omega) (by have l0 : (1 : Int32).toInt = 1 := (by decide); have r0 := (mt i_le.mpr h4778); have r1 := n4777; have r2 := hm4770; have r3 := (hI.guests (((M 401 18) : Int32).toNatClampNeg)); have r4 := (i_b (M 418 (M 401 18).toNatClampNeg)); have r5 := (i_b (v4773)); have r6 := (i_b (x4784)); have e1 : (v4773 + 1 : Int32).toInt = (v4773.toInt + 1) := i_addE rfl (by decide : (1 : Int32).toInt = 1) (by omega); have d2 : x4784.toInt = (v4773.toInt + 1) := (congrArg Int32.toInt ex4784).trans e1; omega)
            · refine g_iload_n (pc1 := 100) d_Mod_deed_99 rfl 3 rfl ?_
              refine g_iconst (pc1 := 101) (v := 1) d_Mod_deed_100 rfl (by decide) ?_
              refine g_iload (pc1 := 103) d_Mod_deed_101 rfl 4 rfl ?_
              refine g_ishl (pc1 := 104) d_Mod_deed_103 rfl ?_
              refine g_ior (pc1 := 105) d_Mod_deed_104 rfl ?_
              refine Wp.topi (fun x4785 ex4785 => ?_)
              refine g_istore_n (pc1 := 106) (lv' := [(0, .ref 401), (1, .int p0), (2, .int p1), (3, .int x4785), (4, .int v4773)]) d_Mod_deed_105 rfl rfl (by decide) [1, 2, 3, 0, 4] rfl ?_
              obtain ⟨x4786, ex4786⟩ : ∃ y : Int32, y = v4773 + 1 := ⟨_, rfl⟩
              refine g_iinc (pc1 := 109) (v := x4786) (lv' := [(0, .ref 401), (1, .int p0), (2, .int p1), (3, .int x4785), (4, .int x4786)]) d_Mod_deed_106 rfl 4 rfl (by rw [ex4786]; rfl) (by decide) [1, 2, 3, 4, 0] rfl ?_
              refine g_goto (tgt := 75) d_Mod_deed_109 (by decide) ?_
              exact ih4769 x4785 x4786 M4780 L4781 (Kl.trans k4776 (Kl.mono k4782 MS0_MS1)) (by have l0 : (1 : Int32).toInt = 1 := (by decide); have r0 := (mt i_le.mpr h4778); have r1 := n4777; have r2 := (hI.guests (((M 401 18) : Int32).toNatClampNeg)); have r3 := (i_b (M 418 (M 401 18).toNatClampNeg)); have r4 := (i_b (v4773)); have r5 := (i_b (x4786)); have e1 : (v4773 + 1 : Int32).toInt = (v4773.toInt + 1) := i_addE rfl (by decide : (1 : Int32).toInt = 1) (by omega); have d2 : x4786.toInt = (v4773.toInt + 1) := (congrArg Int32.toInt ex4786).trans e1; omega) (by have l0 : (1 : Int32).toInt = 1 := (by decide); have r0 := (mt i_le.mpr h4778); have r1 := n4777; have r2 := hm4770; have r3 := (hI.guests (((M 401 18) : Int32).toNatClampNeg)); have r4 := (i_b (M 418 (M 401 18).toNatClampNeg)); have r5 := (i_b (v4773)); have r6 := (i_b (x4786)); have e1 : (v4773 + 1 : Int32).toInt = (v4773.toInt + 1) := i_addE rfl (by decide : (1 : Int32).toInt = 1) (by omega); have d2 : x4786.toInt = (v4773.toInt + 1) := (congrArg Int32.toInt ex4786).trans e1; omega)
      exact LP4771 _ 0 0 M4762 L4763 (Kl.trans Kl.rf k4764) (by decide) (Nat.lt_succ_self _)
    refine g_tabOut (tgt := 114) d_Mod_deed_15 (by
      have nh4765 := neT (a := 0) h4765 (by decide)
      have nh4766 := neT (a := 1) h4766 (by decide)
      have nh4767 := neT (a := 2) h4767 (by decide)
      omega) (by decide) ?_
    refine g_iconst (pc1 := 115) (v := (-1)) d_Mod_deed_114 rfl (by decide) ?_
    refine g_ireturn (Or.inl rfl) d_Mod_deed_115 rfl ?_
    exact hQ _ _ _ (Kl.trans Kl.rf k4764)
  · refine g_iconst (pc1 := 9) (v := (-1)) d_Mod_deed_8 rfl (by decide) ?_
    refine g_ireturn (Or.inl rfl) d_Mod_deed_9 rfl ?_
    exact hQ _ _ _ Kl.rf
set_option maxHeartbeats 4000000 in
set_option maxRecDepth 20000 in
theorem t2_Mod_feud {l : Launch} {ld : Nat} (hld : isLa ld) {M : gM} {L : gL} {Q : Option Value → gM → gL → gR → Prop} (hI : Inv M) (p0 : Int32) (p1 : Int32) (p2 : Int32)  (hQ : ∀ (r : Int32) (M' : gM) (L' : gL), Kl MS1 M L M' L' → Q (some (.int r)) M' L' (rf ld)) : Tm l y_Mod_feud (0, 0, 447) 447 [.ref 401, .int p0, .int p1, .int p2] M L (rf ld) Q := by
  refine Tm.of (by decide) (Nat.le_of_ble_eq_true rfl) ?_
  show Wp l y_Mod_feud (0, 0, 447) 447 0 0 0 [(0, .ref 401), (1, .int p0), (2, .int p1), (3, .int p2)] [] M L (rf ld) Q
  refine g_aload_n (pc1 := 1) d_Mod_feud_0 rfl 0 rfl ?_
  refine g_iload_n (pc1 := 2) d_Mod_feud_1 rfl 1 rfl ?_
  refine g_callV0 (pc1 := 5) (As := [.int p0]) (rest := []) d_Mod_feud_2 rfl mo_Mod_380 mi_Mod_isGuest mv_Mod_isGuest rfl sh_401 (by decide) (by decide) rfl rfl (Nat.le_of_ble_eq_true rfl) ?_
  refine t2_Mod_isGuest hld hI _  (fun r4787 hbr4787 => ?_)
  refine g_if_eq (pc1 := 8) (tgt := 29) d_Mod_feud_5 (by decide) rfl (fun h4788 => ?_) (fun h4788 => ?_)
  · refine g_iconst (pc1 := 30) (v := (-1)) d_Mod_feud_29 rfl (by decide) ?_
    refine g_ireturn (Or.inl rfl) d_Mod_feud_30 rfl ?_
    exact hQ _ _ _ Kl.rf
  · refine g_aload_n (pc1 := 9) d_Mod_feud_8 rfl 0 rfl ?_
    refine g_iload_n (pc1 := 10) d_Mod_feud_9 rfl 2 rfl ?_
    refine g_callV0 (pc1 := 13) (As := [.int p1]) (rest := []) d_Mod_feud_10 rfl mo_Mod_383 mi_Mod_isDeed mv_Mod_isDeed rfl sh_401 (by decide) (by decide) rfl rfl (Nat.le_of_ble_eq_true rfl) ?_
    refine t2_Mod_isDeed hld hI _  (fun r4789 hbr4789 => ?_)
    refine g_if_eq (pc1 := 16) (tgt := 29) d_Mod_feud_13 (by decide) rfl (fun h4790 => ?_) (fun h4790 => ?_)
    · refine g_iconst (pc1 := 30) (v := (-1)) d_Mod_feud_29 rfl (by decide) ?_
      refine g_ireturn (Or.inl rfl) d_Mod_feud_30 rfl ?_
      exact hQ _ _ _ Kl.rf
    · refine g_aload_n (pc1 := 17) d_Mod_feud_16 rfl 0 rfl ?_
      refine g_iload_n (pc1 := 18) d_Mod_feud_17 rfl 3 rfl ?_
      refine g_callV0 (pc1 := 21) (As := [.int p2]) (rest := []) d_Mod_feud_18 rfl mo_Mod_383 mi_Mod_isDeed mv_Mod_isDeed rfl sh_401 (by decide) (by decide) rfl rfl (Nat.le_of_ble_eq_true rfl) ?_
      refine t2_Mod_isDeed hld hI _  (fun r4791 hbr4791 => ?_)
      refine g_if_eq (pc1 := 24) (tgt := 29) d_Mod_feud_21 (by decide) rfl (fun h4792 => ?_) (fun h4792 => ?_)
      · refine g_iconst (pc1 := 30) (v := (-1)) d_Mod_feud_29 rfl (by decide) ?_
        refine g_ireturn (Or.inl rfl) d_Mod_feud_30 rfl ?_
        exact hQ _ _ _ Kl.rf
      · refine g_iload_n (pc1 := 25) d_Mod_feud_24 rfl 2 rfl ?_
        refine g_iload_n (pc1 := 26) d_Mod_feud_25 rfl 3 rfl ?_
        refine g_icmp_ne (pc1 := 29) (tgt := 31) d_Mod_feud_26 (by decide) rfl (fun h4793 => ?_) (fun h4793 => ?_)
        · refine g_iconst (pc1 := 32) (v := 0) d_Mod_feud_31 rfl (by decide) ?_
          refine g_istore (pc1 := 34) (lv' := [(0, .ref 401), (1, .int p0), (2, .int p1), (3, .int p2), (4, .int 0)]) d_Mod_feud_32 rfl (by decide) [1, 2, 3, 4, 0] rfl ?_
          refine g_iconst (pc1 := 35) (v := 0) d_Mod_feud_34 rfl (by decide) ?_
          refine g_istore (pc1 := 37) (lv' := [(0, .ref 401), (1, .int p0), (2, .int p1), (3, .int p2), (4, .int 0), (5, .int 0)]) d_Mod_feud_35 rfl (by decide) [1, 2, 3, 4, 5, 0] rfl ?_
          have LP4797 : ∀ (f4794 : Nat) (v4798 : Int32) (v4799 : Int32) (M4800 : gM) (L4801 : gL), Kl MS1 M L M4800 L4801 → (0 ≤ v4799.toInt) → (((M 415 ((M 401 18) : Int32).toNatClampNeg) : Int32).toInt - v4799.toInt).toNat < f4794 → Wp l y_Mod_feud (0, 0, 447) 447 0 0 37 [(0, .ref 401), (1, .int p0), (2, .int p1), (3, .int p2), (4, .int v4798), (5, .int v4799)] [] M4800 L4801 (rf ld) Q := by
            intro f4794
            induction f4794 with
            | zero => intro v4798 v4799 M4800 L4801 _ _ hm4796; exact absurd hm4796 (Nat.not_lt_zero _)
            | succ f4794 ih4795 =>
              intro v4798 v4799 M4800 L4801 k4802 n4803 hm4796
              refine g_iload (pc1 := 39) d_Mod_feud_37 rfl 5 rfl ?_
              refine g_aload_n (pc1 := 40) d_Mod_feud_39 rfl 0 rfl ?_
              refine g_getr (pc1 := 43) d_Mod_feud_40 rfl ⟨_, fo_Mod_58⟩ sh_401 (by decide) (rf_401_27 ld) ?_
              refine g_aload_n (pc1 := 44) d_Mod_feud_43 rfl 0 rfl ?_
              refine g_geti (pc1 := 47) d_Mod_feud_44 rfl ⟨_, fo_Mod_236⟩ sh_401 (by decide) ?_
              refine Wp.vali (y := (M 401 18)) (Kl.m k4802 rfl) ?_
              refine g_iald (pc1 := 48) d_Mod_feud_47 rfl sh_415 (by decide) (by have r0 := hI.live; have r1 := (i_b (M 401 18)); exact vin_i (by omega) (by omega)) ?_
              refine Wp.vali (y := (M 415 ((M 401 18) : Int32).toNatClampNeg)) (Kl.m k4802 rfl) ?_
              refine g_icmp_ge (pc1 := 51) (tgt := 92) d_Mod_feud_48 (by decide) rfl (fun h4804 => ?_) (fun h4804 => ?_)
              · refine g_iload (pc1 := 94) d_Mod_feud_92 rfl 4 rfl ?_
                refine g_ireturn (Or.inl rfl) d_Mod_feud_94 rfl ?_
                exact hQ _ _ _ k4802
              · refine g_aload_n (pc1 := 52) d_Mod_feud_51 rfl 0 rfl ?_
                refine g_callV0 (pc1 := 55) (As := []) (rest := []) d_Mod_feud_52 rfl mo_Mod_377 mi_Mod_copies mv_Mod_copies rfl sh_401 (by decide) (by decide) rfl rfl (Nat.le_of_ble_eq_true rfl) ?_
                refine t2_Mod_copies hld (Inv.keep hI inv_MS1 k4802)   (fun  M4805 L4806 k4807 => ?_)
                refine g_aload_n (pc1 := 56) d_Mod_feud_55 rfl 0 rfl ?_
                refine g_iload_n (pc1 := 57) d_Mod_feud_56 rfl 1 rfl ?_
                refine g_iload (pc1 := 59) d_Mod_feud_57 rfl 5 rfl ?_
                refine g_callV0 (pc1 := 62) (As := [.int p0, .int v4799]) (rest := []) d_Mod_feud_59 rfl mo_Mod_431 mi_Mod_eatsDish mv_Mod_eatsDish rfl sh_401 (by decide) (by decide) rfl rfl (Nat.le_of_ble_eq_true rfl) ?_
                refine t2_Mod_eatsDish hld (Inv.keep hI inv_MS1 (Kl.trans k4802 k4807)) _ _ (by have r0 := (bp_t hbr4787 h4788); have r1 := (hI.guests (M 401 18).toNatClampNeg); have r2 := (i_b (M 418 (M 401 18).toNatClampNeg)); have r3 := (i_b (p0)); omega) (by have r0 := (mt i_le.mpr h4804); have r1 := n4803; have r2 := (hI.dishes (((M 401 18) : Int32).toNatClampNeg)); have r3 := (i_b (M 415 (M 401 18).toNatClampNeg)); have r4 := (i_b (v4799)); omega) (fun  M4808 L4809 k4810 => ?_)
                refine g_aload_n (pc1 := 63) d_Mod_feud_62 rfl 0 rfl ?_
                refine g_iload_n (pc1 := 64) d_Mod_feud_63 rfl 1 rfl ?_
                refine g_iload_n (pc1 := 65) d_Mod_feud_64 rfl 2 rfl ?_
                refine g_callV0 (pc1 := 68) (As := [.int p0, .int p1]) (rest := []) d_Mod_feud_65 rfl mo_Mod_352 mi_Mod_isFree mv_Mod_isFree rfl sh_401 (by decide) (by decide) rfl rfl (Nat.le_of_ble_eq_true rfl) ?_
                refine t2_Mod_isFree hld (Inv.keep hI inv_MS1 (Kl.trans (Kl.trans k4802 k4807) k4810)) _ _ (by have r0 := (bp_t hbr4787 h4788); have r1 := (hI.guests (M 401 18).toNatClampNeg); have r2 := (i_b (M 418 (M 401 18).toNatClampNeg)); have r3 := (i_b (p0)); omega) (by rw [(Kl.m (c := 401) (j := 18) (Kl.trans (Kl.trans k4802 k4807) k4810) rfl : M4808 401 18 = M 401 18), (Kl.m (c := 420) (j := (M 401 18).toNatClampNeg) (Kl.trans (Kl.trans k4802 k4807) k4810) rfl : M4808 420 (M 401 18).toNatClampNeg = M 420 (M 401 18).toNatClampNeg)]; exact (by have r0 := (mt Int32.toInt_inj.mp h4793); have r1 := (hI.deeds (M 401 18).toNatClampNeg); have r2 := (bp_t hbr4789 h4790); have r3 := (bp_t hbr4791 h4792); have r4 := (i_b (M 420 (M 401 18).toNatClampNeg)); have r5 := (i_b (p1)); have r6 := (i_b (p2)); omega)) (fun r4811 M4812 L4813 hbr4811 k4814 => ?_)
                refine g_aload_n (pc1 := 69) d_Mod_feud_68 rfl 0 rfl ?_
                refine g_iload_n (pc1 := 70) d_Mod_feud_69 rfl 1 rfl ?_
                refine g_iload_n (pc1 := 71) d_Mod_feud_70 rfl 3 rfl ?_
                refine g_callV0 (pc1 := 74) (As := [.int p0, .int p2]) (rest := [.int r4811]) d_Mod_feud_71 rfl mo_Mod_352 mi_Mod_isFree mv_Mod_isFree rfl sh_401 (by decide) (by decide) rfl rfl (Nat.le_of_ble_eq_true rfl) ?_
                refine t2_Mod_isFree hld (Inv.keep hI inv_MS1 (Kl.trans (Kl.trans (Kl.trans k4802 k4807) k4810) (Kl.mono k4814 MS0_MS1))) _ _ (by have r0 := (bp_t hbr4787 h4788); have r1 := (hI.guests (M 401 18).toNatClampNeg); have r2 := (i_b (M 418 (M 401 18).toNatClampNeg)); have r3 := (i_b (p0)); omega) (by rw [(Kl.m (c := 401) (j := 18) (Kl.trans (Kl.trans (Kl.trans k4802 k4807) k4810) (Kl.mono k4814 MS0_MS1)) rfl : M4812 401 18 = M 401 18), (Kl.m (c := 420) (j := (M 401 18).toNatClampNeg) (Kl.trans (Kl.trans (Kl.trans k4802 k4807) k4810) (Kl.mono k4814 MS0_MS1)) rfl : M4812 420 (M 401 18).toNatClampNeg = M 420 (M 401 18).toNatClampNeg)]; exact (by have r0 := (mt Int32.toInt_inj.mp h4793); have r1 := (hI.deeds (M 401 18).toNatClampNeg); have r2 := (bp_t hbr4789 h4790); have r3 := (bp_t hbr4791 h4792); have r4 := (i_b (M 420 (M 401 18).toNatClampNeg)); have r5 := (i_b (p1)); have r6 := (i_b (p2)); omega)) (fun r4815 M4816 L4817 hbr4815 k4818 => ?_)
                refine g_icmp_eq (pc1 := 77) (tgt := 86) d_Mod_feud_74 (by decide) rfl (fun h4819 => ?_) (fun h4819 => ?_)
                · obtain ⟨x4820, ex4820⟩ : ∃ y : Int32, y = v4799 + 1 := ⟨_, rfl⟩
                  refine g_iinc (pc1 := 89) (v := x4820) (lv' := [(0, .ref 401), (1, .int p0), (2, .int p1), (3, .int p2), (4, .int v4798), (5, .int x4820)]) d_Mod_feud_86 rfl 5 rfl (by rw [ex4820]; rfl) (by decide) [1, 2, 3, 4, 5, 0] rfl ?_
                  refine g_goto (tgt := 37) d_Mod_feud_89 (by decide) ?_
                  exact ih4795 v4798 x4820 M4816 L4817 (Kl.trans (Kl.trans (Kl.trans (Kl.trans k4802 k4807) k4810) (Kl.mono k4814 MS0_MS1)) (Kl.mono k4818 MS0_MS1)) (by have l0 : (1 : Int32).toInt = 1 := (by decide); have r0 := (mt i_le.mpr h4804); have r1 := n4803; have r2 := (hI.dishes (((M 401 18) : Int32).toNatClampNeg)); have r3 := (i_b (M 415 (M 401 18).toNatClampNeg)); have r4 := (i_b (v4799)); have r5 := (i_b (x4820)); have e1 : (v4799 + 1 : Int32).toInt = (v4799.toInt + 1) := i_addE rfl (by decide : (1 : Int32).toInt = 1) (by omega); have d2 : x4820.toInt = (v4799.toInt + 1) := (congrArg Int32.toInt ex4820).trans e1; omega) (by have l0 : (1 : Int32).toInt = 1 := (by decide); have r0 := (mt i_le.mpr h4804); have r1 := n4803; have r2 := hm4796; have r3 := (hI.dishes (((M 401 18) : Int32).toNatClampNeg)); have r4 := (i_b (M 415 (M 401 18).toNatClampNeg)); have r5 := (i_b (v4799)); have r6 := (i_b (x4820)); have e1 : (v4799 + 1 : Int32).toInt = (v4799.toInt + 1) := i_addE rfl (by decide : (1 : Int32).toInt = 1) (by omega); have d2 : x4820.toInt = (v4799.toInt + 1) := (congrArg Int32.toInt ex4820).trans e1; omega)
                · refine g_iload (pc1 := 79) d_Mod_feud_77 rfl 4 rfl ?_
                  refine g_iconst (pc1 := 80) (v := 1) d_Mod_feud_79 rfl (by decide) ?_
                  refine g_iload (pc1 := 82) d_Mod_feud_80 rfl 5 rfl ?_
                  refine g_ishl (pc1 := 83) d_Mod_feud_82 rfl ?_
                  refine g_ior (pc1 := 84) d_Mod_feud_83 rfl ?_
                  refine Wp.topi (fun x4821 ex4821 => ?_)
                  refine g_istore (pc1 := 86) (lv' := [(0, .ref 401), (1, .int p0), (2, .int p1), (3, .int p2), (4, .int x4821), (5, .int v4799)]) d_Mod_feud_84 rfl (by decide) [1, 2, 3, 4, 0, 5] rfl ?_
                  obtain ⟨x4822, ex4822⟩ : ∃ y : Int32, y = v4799 + 1 := ⟨_, rfl⟩
                  refine g_iinc (pc1 := 89) (v := x4822) (lv' := [(0, .ref 401), (1, .int p0), (2, .int p1), (3, .int p2), (4, .int x4821), (5, .int x4822)]) d_Mod_feud_86 rfl 5 rfl (by rw [ex4822]; rfl) (by decide) [1, 2, 3, 4, 5, 0] rfl ?_
                  refine g_goto (tgt := 37) d_Mod_feud_89 (by decide) ?_
                  exact ih4795 x4821 x4822 M4816 L4817 (Kl.trans (Kl.trans (Kl.trans (Kl.trans k4802 k4807) k4810) (Kl.mono k4814 MS0_MS1)) (Kl.mono k4818 MS0_MS1)) (by have l0 : (1 : Int32).toInt = 1 := (by decide); have r0 := (mt i_le.mpr h4804); have r1 := n4803; have r2 := (hI.dishes (((M 401 18) : Int32).toNatClampNeg)); have r3 := (i_b (M 415 (M 401 18).toNatClampNeg)); have r4 := (i_b (v4799)); have r5 := (i_b (x4822)); have e1 : (v4799 + 1 : Int32).toInt = (v4799.toInt + 1) := i_addE rfl (by decide : (1 : Int32).toInt = 1) (by omega); have d2 : x4822.toInt = (v4799.toInt + 1) := (congrArg Int32.toInt ex4822).trans e1; omega) (by have l0 : (1 : Int32).toInt = 1 := (by decide); have r0 := (mt i_le.mpr h4804); have r1 := n4803; have r2 := hm4796; have r3 := (hI.dishes (((M 401 18) : Int32).toNatClampNeg)); have r4 := (i_b (M 415 (M 401 18).toNatClampNeg)); have r5 := (i_b (v4799)); have r6 := (i_b (x4822)); have e1 : (v4799 + 1 : Int32).toInt = (v4799.toInt + 1) := i_addE rfl (by decide : (1 : Int32).toInt = 1) (by omega); have d2 : x4822.toInt = (v4799.toInt + 1) := (congrArg Int32.toInt ex4822).trans e1; omega)
          exact LP4797 _ 0 0 M L Kl.rf (by decide) (Nat.lt_succ_self _)
        · refine g_iconst (pc1 := 30) (v := (-1)) d_Mod_feud_29 rfl (by decide) ?_
          refine g_ireturn (Or.inl rfl) d_Mod_feud_30 rfl ?_
          exact hQ _ _ _ Kl.rf
set_option maxHeartbeats 4000000 in
set_option maxRecDepth 20000 in
theorem t2_Mod_freeBits {l : Launch} {ld : Nat} (hld : isLa ld) {M : gM} {L : gL} {Q : Option Value → gM → gL → gR → Prop} (hI : Inv M) (p0 : Int32) (h0 : 0 ≤ (p0 : Int32).toInt ∧ (p0 : Int32).toInt ≤ 3) (hQ : ∀ (r : Int32) (M' : gM) (L' : gL), Kl MS0 M L M' L' → Q (some (.int r)) M' L' (rf ld)) : Tm l y_Mod_freeBits (0, 0, 447) 447 [.ref 401, .int p0] M L (rf ld) Q := by
  refine Tm.of (by decide) (Nat.le_of_ble_eq_true rfl) ?_
  show Wp l y_Mod_freeBits (0, 0, 447) 447 0 0 0 [(0, .ref 401), (1, .int p0)] [] M L (rf ld) Q
  refine g_iconst (pc1 := 1) (v := 0) d_Mod_freeBits_0 rfl (by decide) ?_
  refine g_istore_n (pc1 := 2) (lv' := [(0, .ref 401), (1, .int p0), (2, .int 0)]) d_Mod_freeBits_1 rfl rfl (by decide) [1, 2, 0] rfl ?_
  refine g_iconst (pc1 := 3) (v := 0) d_Mod_freeBits_2 rfl (by decide) ?_
  refine g_istore_n (pc1 := 4) (lv' := [(0, .ref 401), (1, .int p0), (2, .int 0), (3, .int 0)]) d_Mod_freeBits_3 rfl rfl (by decide) [1, 2, 3, 0] rfl ?_
  have LP4826 : ∀ (f4823 : Nat) (v4827 : Int32) (v4828 : Int32) (M4829 : gM) (L4830 : gL), Kl MS0 M L M4829 L4830 → (0 ≤ v4828.toInt) → (((M 420 ((M 401 18) : Int32).toNatClampNeg) : Int32).toInt - v4828.toInt).toNat < f4823 → Wp l y_Mod_freeBits (0, 0, 447) 447 0 0 4 [(0, .ref 401), (1, .int p0), (2, .int v4827), (3, .int v4828)] [] M4829 L4830 (rf ld) Q := by
    intro f4823
    induction f4823 with
    | zero => intro v4827 v4828 M4829 L4830 _ _ hm4825; exact absurd hm4825 (Nat.not_lt_zero _)
    | succ f4823 ih4824 =>
      intro v4827 v4828 M4829 L4830 k4831 n4832 hm4825
      refine g_iload_n (pc1 := 5) d_Mod_freeBits_4 rfl 3 rfl ?_
      refine g_aload_n (pc1 := 6) d_Mod_freeBits_5 rfl 0 rfl ?_
      refine g_getr (pc1 := 9) d_Mod_freeBits_6 rfl ⟨_, fo_Mod_73⟩ sh_401 (by decide) (rf_401_32 ld) ?_
      refine g_aload_n (pc1 := 10) d_Mod_freeBits_9 rfl 0 rfl ?_
      refine g_geti (pc1 := 13) d_Mod_freeBits_10 rfl ⟨_, fo_Mod_236⟩ sh_401 (by decide) ?_
      refine Wp.vali (y := (M 401 18)) (Kl.m k4831 rfl) ?_
      refine g_iald (pc1 := 14) d_Mod_freeBits_13 rfl sh_420 (by decide) (by have r0 := hI.live; have r1 := (i_b (M 401 18)); exact vin_i (by omega) (by omega)) ?_
      refine Wp.vali (y := (M 420 ((M 401 18) : Int32).toNatClampNeg)) (Kl.m k4831 rfl) ?_
      refine g_icmp_ge (pc1 := 17) (tgt := 38) d_Mod_freeBits_14 (by decide) rfl (fun h4833 => ?_) (fun h4833 => ?_)
      · refine g_iload_n (pc1 := 39) d_Mod_freeBits_38 rfl 2 rfl ?_
        refine g_ireturn (Or.inl rfl) d_Mod_freeBits_39 rfl ?_
        exact hQ _ _ _ k4831
      · refine g_aload_n (pc1 := 18) d_Mod_freeBits_17 rfl 0 rfl ?_
        refine g_iload_n (pc1 := 19) d_Mod_freeBits_18 rfl 1 rfl ?_
        refine g_iload_n (pc1 := 20) d_Mod_freeBits_19 rfl 3 rfl ?_
        refine g_callV0 (pc1 := 23) (As := [.int p0, .int v4828]) (rest := []) d_Mod_freeBits_20 rfl mo_Mod_352 mi_Mod_isFree mv_Mod_isFree rfl sh_401 (by decide) (by decide) rfl rfl (Nat.le_of_ble_eq_true rfl) ?_
        refine t2_Mod_isFree hld (Inv.keep hI inv_MS0 k4831) _ _ (by have r0 := h0; have r1 := (i_b (p0)); omega) (by rw [(Kl.m (c := 401) (j := 18) k4831 rfl : M4829 401 18 = M 401 18), (Kl.m (c := 420) (j := (M 401 18).toNatClampNeg) k4831 rfl : M4829 420 (M 401 18).toNatClampNeg = M 420 (M 401 18).toNatClampNeg)]; exact (by have r0 := (mt i_le.mpr h4833); have r1 := n4832; have r2 := (hI.deeds (((M 401 18) : Int32).toNatClampNeg)); have r3 := (i_b (M 420 (M 401 18).toNatClampNeg)); have r4 := (i_b (v4828)); omega)) (fun r4834 M4835 L4836 hbr4834 k4837 => ?_)
        refine g_if_eq (pc1 := 26) (tgt := 32) d_Mod_freeBits_23 (by decide) rfl (fun h4838 => ?_) (fun h4838 => ?_)
        · obtain ⟨x4839, ex4839⟩ : ∃ y : Int32, y = v4828 + 1 := ⟨_, rfl⟩
          refine g_iinc (pc1 := 35) (v := x4839) (lv' := [(0, .ref 401), (1, .int p0), (2, .int v4827), (3, .int x4839)]) d_Mod_freeBits_32 rfl 3 rfl (by rw [ex4839]; rfl) (by decide) [1, 2, 3, 0] rfl ?_
          refine g_goto (tgt := 4) d_Mod_freeBits_35 (by decide) ?_
          exact ih4824 v4827 x4839 M4835 L4836 (Kl.trans k4831 k4837) (by have l0 : (1 : Int32).toInt = 1 := (by decide); have r0 := (mt i_le.mpr h4833); have r1 := n4832; have r2 := (hI.deeds (((M 401 18) : Int32).toNatClampNeg)); have r3 := (i_b (M 420 (M 401 18).toNatClampNeg)); have r4 := (i_b (v4828)); have r5 := (i_b (x4839)); have e1 : (v4828 + 1 : Int32).toInt = (v4828.toInt + 1) := i_addE rfl (by decide : (1 : Int32).toInt = 1) (by omega); have d2 : x4839.toInt = (v4828.toInt + 1) := (congrArg Int32.toInt ex4839).trans e1; omega) (by have l0 : (1 : Int32).toInt = 1 := (by decide); have r0 := (mt i_le.mpr h4833); have r1 := n4832; have r2 := hm4825; have r3 := (hI.deeds (((M 401 18) : Int32).toNatClampNeg)); have r4 := (i_b (M 420 (M 401 18).toNatClampNeg)); have r5 := (i_b (v4828)); have r6 := (i_b (x4839)); have e1 : (v4828 + 1 : Int32).toInt = (v4828.toInt + 1) := i_addE rfl (by decide : (1 : Int32).toInt = 1) (by omega); have d2 : x4839.toInt = (v4828.toInt + 1) := (congrArg Int32.toInt ex4839).trans e1; omega)
        · refine g_iload_n (pc1 := 27) d_Mod_freeBits_26 rfl 2 rfl ?_
          refine g_iconst (pc1 := 28) (v := 1) d_Mod_freeBits_27 rfl (by decide) ?_
          refine g_iload_n (pc1 := 29) d_Mod_freeBits_28 rfl 3 rfl ?_
          refine g_ishl (pc1 := 30) d_Mod_freeBits_29 rfl ?_
          refine g_ior (pc1 := 31) d_Mod_freeBits_30 rfl ?_
          refine Wp.topi (fun x4840 ex4840 => ?_)
          refine g_istore_n (pc1 := 32) (lv' := [(0, .ref 401), (1, .int p0), (2, .int x4840), (3, .int v4828)]) d_Mod_freeBits_31 rfl rfl (by decide) [1, 2, 0, 3] rfl ?_
          obtain ⟨x4841, ex4841⟩ : ∃ y : Int32, y = v4828 + 1 := ⟨_, rfl⟩
          refine g_iinc (pc1 := 35) (v := x4841) (lv' := [(0, .ref 401), (1, .int p0), (2, .int x4840), (3, .int x4841)]) d_Mod_freeBits_32 rfl 3 rfl (by rw [ex4841]; rfl) (by decide) [1, 2, 3, 0] rfl ?_
          refine g_goto (tgt := 4) d_Mod_freeBits_35 (by decide) ?_
          exact ih4824 x4840 x4841 M4835 L4836 (Kl.trans k4831 k4837) (by have l0 : (1 : Int32).toInt = 1 := (by decide); have r0 := (mt i_le.mpr h4833); have r1 := n4832; have r2 := (hI.deeds (((M 401 18) : Int32).toNatClampNeg)); have r3 := (i_b (M 420 (M 401 18).toNatClampNeg)); have r4 := (i_b (v4828)); have r5 := (i_b (x4841)); have e1 : (v4828 + 1 : Int32).toInt = (v4828.toInt + 1) := i_addE rfl (by decide : (1 : Int32).toInt = 1) (by omega); have d2 : x4841.toInt = (v4828.toInt + 1) := (congrArg Int32.toInt ex4841).trans e1; omega) (by have l0 : (1 : Int32).toInt = 1 := (by decide); have r0 := (mt i_le.mpr h4833); have r1 := n4832; have r2 := hm4825; have r3 := (hI.deeds (((M 401 18) : Int32).toNatClampNeg)); have r4 := (i_b (M 420 (M 401 18).toNatClampNeg)); have r5 := (i_b (v4828)); have r6 := (i_b (x4841)); have e1 : (v4828 + 1 : Int32).toInt = (v4828.toInt + 1) := i_addE rfl (by decide : (1 : Int32).toInt = 1) (by omega); have d2 : x4841.toInt = (v4828.toInt + 1) := (congrArg Int32.toInt ex4841).trans e1; omega)
  exact LP4826 _ 0 0 M L Kl.rf (by decide) (Nat.lt_succ_self _)
set_option maxHeartbeats 4000000 in
set_option maxRecDepth 20000 in
theorem t2_Mod_hunger {l : Launch} {ld : Nat} (hld : isLa ld) {M : gM} {L : gL} {Q : Option Value → gM → gL → gR → Prop} (hI : Inv M) (p0 : Int32) (p1 : Int32)  (hQ : ∀ (r : Int32) (M' : gM) (L' : gL), Kl MS1 M L M' L' → Q (some (.int r)) M' L' (rf ld)) : Tm l y_Mod_hunger (0, 0, 447) 447 [.ref 401, .int p0, .int p1] M L (rf ld) Q := by
  refine Tm.of (by decide) (Nat.le_of_ble_eq_true rfl) ?_
  show Wp l y_Mod_hunger (0, 0, 447) 447 0 0 0 [(0, .ref 401), (1, .int p0), (2, .int p1)] [] M L (rf ld) Q
  refine g_aload_n (pc1 := 1) d_Mod_hunger_0 rfl 0 rfl ?_
  refine g_iload_n (pc1 := 2) d_Mod_hunger_1 rfl 1 rfl ?_
  refine g_callV0 (pc1 := 5) (As := [.int p0]) (rest := []) d_Mod_hunger_2 rfl mo_Mod_380 mi_Mod_isGuest mv_Mod_isGuest rfl sh_401 (by decide) (by decide) rfl rfl (Nat.le_of_ble_eq_true rfl) ?_
  refine t2_Mod_isGuest hld hI _  (fun r4842 hbr4842 => ?_)
  refine g_if_eq (pc1 := 8) (tgt := 16) d_Mod_hunger_5 (by decide) rfl (fun h4843 => ?_) (fun h4843 => ?_)
  · refine g_iconst (pc1 := 17) (v := (-1)) d_Mod_hunger_16 rfl (by decide) ?_
    refine g_ireturn (Or.inl rfl) d_Mod_hunger_17 rfl ?_
    exact hQ _ _ _ Kl.rf
  · refine g_aload_n (pc1 := 9) d_Mod_hunger_8 rfl 0 rfl ?_
    refine g_iload_n (pc1 := 10) d_Mod_hunger_9 rfl 2 rfl ?_
    refine g_callV0 (pc1 := 13) (As := [.int p1]) (rest := []) d_Mod_hunger_10 rfl mo_Mod_383 mi_Mod_isDeed mv_Mod_isDeed rfl sh_401 (by decide) (by decide) rfl rfl (Nat.le_of_ble_eq_true rfl) ?_
    refine t2_Mod_isDeed hld hI _  (fun r4844 hbr4844 => ?_)
    refine g_if_ne (pc1 := 16) (tgt := 18) d_Mod_hunger_13 (by decide) rfl (fun h4845 => ?_) (fun h4845 => ?_)
    · refine g_aload_n (pc1 := 19) d_Mod_hunger_18 rfl 0 rfl ?_
      refine g_callV0 (pc1 := 22) (As := []) (rest := []) d_Mod_hunger_19 rfl mo_Mod_377 mi_Mod_copies mv_Mod_copies rfl sh_401 (by decide) (by decide) rfl rfl (Nat.le_of_ble_eq_true rfl) ?_
      refine t2_Mod_copies hld hI   (fun  M4846 L4847 k4848 => ?_)
      refine g_iconst (pc1 := 23) (v := 0) d_Mod_hunger_22 rfl (by decide) ?_
      refine g_istore_n (pc1 := 24) (lv' := [(0, .ref 401), (1, .int p0), (2, .int p1), (3, .int 0)]) d_Mod_hunger_23 rfl rfl (by decide) [1, 2, 3, 0] rfl ?_
      have LP4852 : ∀ (f4849 : Nat) (v4853 : Int32) (M4854 : gM) (L4855 : gL), Kl MS1 M L M4854 L4855 → (0 ≤ v4853.toInt) → ((99 : Int32).toInt + 1 - v4853.toInt).toNat < f4849 → Wp l y_Mod_hunger (0, 0, 447) 447 0 0 24 [(0, .ref 401), (1, .int p0), (2, .int p1), (3, .int v4853)] [] M4854 L4855 (rf ld) Q := by
        intro f4849
        induction f4849 with
        | zero => intro v4853 M4854 L4855 _ _ hm4851; exact absurd hm4851 (Nat.not_lt_zero _)
        | succ f4849 ih4850 =>
          intro v4853 M4854 L4855 k4856 n4857 hm4851
          refine g_iload_n (pc1 := 25) d_Mod_hunger_24 rfl 3 rfl ?_
          refine g_bipush (pc1 := 27) (v := 99) d_Mod_hunger_25 rfl (by decide) ?_
          refine g_icmp_gt (pc1 := 30) (tgt := 58) d_Mod_hunger_27 (by decide) rfl (fun h4858 => ?_) (fun h4858 => ?_)
          · refine g_bipush (pc1 := 60) (v := (-2)) d_Mod_hunger_58 rfl (by decide) ?_
            refine g_ireturn (Or.inl rfl) d_Mod_hunger_60 rfl ?_
            exact hQ _ _ _ k4856
          · refine g_aload_n (pc1 := 31) d_Mod_hunger_30 rfl 0 rfl ?_
            refine g_iload_n (pc1 := 32) d_Mod_hunger_31 rfl 1 rfl ?_
            refine g_iload_n (pc1 := 33) d_Mod_hunger_32 rfl 2 rfl ?_
            refine g_callV0 (pc1 := 36) (As := [.int p0, .int p1]) (rest := []) d_Mod_hunger_33 rfl mo_Mod_352 mi_Mod_isFree mv_Mod_isFree rfl sh_401 (by decide) (by decide) rfl rfl (Nat.le_of_ble_eq_true rfl) ?_
            refine t2_Mod_isFree hld (Inv.keep hI inv_MS1 k4856) _ _ (by have r0 := (bp_t hbr4842 h4843); have r1 := (hI.guests (M 401 18).toNatClampNeg); have r2 := (i_b (M 418 (M 401 18).toNatClampNeg)); have r3 := (i_b (p0)); omega) (by rw [(Kl.m (c := 401) (j := 18) k4856 rfl : M4854 401 18 = M 401 18), (Kl.m (c := 420) (j := (M 401 18).toNatClampNeg) k4856 rfl : M4854 420 (M 401 18).toNatClampNeg = M 420 (M 401 18).toNatClampNeg)]; exact (by have r0 := (hI.deeds (M 401 18).toNatClampNeg); have r1 := (bp_t hbr4844 h4845); have r2 := (i_b (M 420 (M 401 18).toNatClampNeg)); have r3 := (i_b (p1)); omega)) (fun r4859 M4860 L4861 hbr4859 k4862 => ?_)
            refine g_if_eq (pc1 := 39) (tgt := 41) d_Mod_hunger_36 (by decide) rfl (fun h4863 => ?_) (fun h4863 => ?_)
            · refine g_aload_n (pc1 := 42) d_Mod_hunger_41 rfl 0 rfl ?_
              refine g_getr (pc1 := 45) d_Mod_hunger_42 rfl ⟨_, fo_Mod_125⟩ sh_401 (by decide) (rf_401_53 ld) ?_
              refine g_bipush (pc1 := 47) (v := 35) d_Mod_hunger_45 rfl (by decide) ?_
              refine g_dup2 (pc1 := 48) d_Mod_hunger_47 rfl rfl rfl ?_
              refine g_iald (pc1 := 49) d_Mod_hunger_48 rfl sh_437 (by decide) (vin_lit (x := 35) (by decide)) ?_
              refine Wp.vali (y := (M4854 437 (35 : Int32).toNatClampNeg)) (Kl.m k4862 rfl) ?_
              refine g_iconst (pc1 := 50) (v := 1) d_Mod_hunger_49 rfl (by decide) ?_
              refine g_iadd (pc1 := 51) d_Mod_hunger_50 rfl ?_
              refine g_iast (pc1 := 52) d_Mod_hunger_51 rfl sh_437 (by decide) (vin_lit (x := 35) (by decide)) ?_
              refine Wp.topM (fun M4864 eM4864 => ?_)
              obtain ⟨x4865, ex4865⟩ : ∃ y : Int32, y = v4853 + 1 := ⟨_, rfl⟩
              refine g_iinc (pc1 := 55) (v := x4865) (lv' := [(0, .ref 401), (1, .int p0), (2, .int p1), (3, .int x4865)]) d_Mod_hunger_52 rfl 3 rfl (by rw [ex4865]; rfl) (by decide) [1, 2, 3, 0] rfl ?_
              refine g_goto (tgt := 24) d_Mod_hunger_55 (by decide) ?_
              exact ih4850 x4865 M4864 L4861 (Kl.wM (Kl.trans k4856 (Kl.mono k4862 MS0_MS1)) rfl eM4864) (by have l0 : (1 : Int32).toInt = 1 := (by decide); have l1 : (99 : Int32).toInt = 99 := (by decide); have r0 := (mt i_lt.mpr h4858); have r1 := n4857; have r2 := (i_b (v4853)); have r3 := (i_b (x4865)); have e1 : (v4853 + 1 : Int32).toInt = (v4853.toInt + 1) := i_addE rfl (by decide : (1 : Int32).toInt = 1) (by omega); have d2 : x4865.toInt = (v4853.toInt + 1) := (congrArg Int32.toInt ex4865).trans e1; omega) (by have l0 : (1 : Int32).toInt = 1 := (by decide); have l1 : (99 : Int32).toInt = 99 := (by decide); have r0 := (mt i_lt.mpr h4858); have r1 := n4857; have r2 := hm4851; have r3 := (i_b (v4853)); have r4 := (i_b (x4865)); have e1 : (v4853 + 1 : Int32).toInt = (v4853.toInt + 1) := i_addE rfl (by decide : (1 : Int32).toInt = 1) (by omega); have d2 : x4865.toInt = (v4853.toInt + 1) := (congrArg Int32.toInt ex4865).trans e1; omega)
            · refine g_iload_n (pc1 := 40) d_Mod_hunger_39 rfl 3 rfl ?_
              refine g_ireturn (Or.inl rfl) d_Mod_hunger_40 rfl ?_
              exact hQ _ _ _ (Kl.trans k4856 (Kl.mono k4862 MS0_MS1))
      exact LP4852 _ 0 M4846 L4847 (Kl.trans Kl.rf k4848) (by decide) (Nat.lt_succ_self _)
    · refine g_iconst (pc1 := 17) (v := (-1)) d_Mod_hunger_16 rfl (by decide) ?_
      refine g_ireturn (Or.inl rfl) d_Mod_hunger_17 rfl ?_
      exact hQ _ _ _ Kl.rf
set_option maxHeartbeats 4000000 in
set_option maxRecDepth 20000 in
theorem t2_Mod_sure {l : Launch} {ld : Nat} (hld : isLa ld) {M : gM} {L : gL} {Q : Option Value → gM → gL → gR → Prop} (hI : Inv M) (p0 : Int32)  (hQ : ∀ (r : Int32) (M' : gM) (L' : gL), Kl MS1 M L M' L' → Q (some (.int r)) M' L' (rf ld)) : Tm l y_Mod_sure (0, 0, 447) 447 [.ref 401, .int p0] M L (rf ld) Q := by
  refine Tm.of (by decide) (Nat.le_of_ble_eq_true rfl) ?_
  show Wp l y_Mod_sure (0, 0, 447) 447 0 0 0 [(0, .ref 401), (1, .int p0)] [] M L (rf ld) Q
  refine g_iload_n (pc1 := 1) d_Mod_sure_0 rfl 1 rfl ?_
  refine g_iconst (pc1 := 2) (v := 0) d_Mod_sure_1 rfl (by decide) ?_
  refine g_aload_n (pc1 := 3) d_Mod_sure_2 rfl 0 rfl ?_
  refine g_geti (pc1 := 6) d_Mod_sure_3 rfl ⟨_, fo_Mod_257⟩ sh_401 (by decide) ?_
  refine g_callS0 (pc1 := 9) (As := [.int p0, .int 0, .int (M 401 64)]) (rest := []) d_Mod_sure_6 rfl mo_Mod_316 ms_Mod_in (by decide) rfl rfl (Nat.le_of_ble_eq_true rfl) ?_
  refine t2_Mod_in hld _ _ _  (fun r4866 hbr4866 => ?_)
  refine g_if_ne (pc1 := 12) (tgt := 14) d_Mod_sure_9 (by decide) rfl (fun h4867 => ?_) (fun h4867 => ?_)
  · refine g_aload_n (pc1 := 15) d_Mod_sure_14 rfl 0 rfl ?_
    refine g_callV0 (pc1 := 18) (As := []) (rest := []) d_Mod_sure_15 rfl mo_Mod_377 mi_Mod_copies mv_Mod_copies rfl sh_401 (by decide) (by decide) rfl rfl (Nat.le_of_ble_eq_true rfl) ?_
    refine t2_Mod_copies hld hI   (fun  M4868 L4869 k4870 => ?_)
    refine g_iconst (pc1 := 19) (v := (-1)) d_Mod_sure_18 rfl (by decide) ?_
    refine Wp.topi (fun x4871 ex4871 => ?_)
    refine g_istore_n (pc1 := 20) (lv' := [(0, .ref 401), (1, .int p0), (2, .int x4871)]) d_Mod_sure_19 rfl rfl (by decide) [1, 2, 0] rfl ?_
    refine g_iconst (pc1 := 21) (v := 0) d_Mod_sure_20 rfl (by decide) ?_
    refine g_istore_n (pc1 := 22) (lv' := [(0, .ref 401), (1, .int p0), (2, .int x4871), (3, .int 0)]) d_Mod_sure_21 rfl rfl (by decide) [1, 2, 3, 0] rfl ?_
    have LP4875 : ∀ (f4872 : Nat) (v4876 : Int32) (v4877 : Int32) (M4878 : gM) (L4879 : gL), Kl MS1 M L M4878 L4879 → (0 ≤ v4877.toInt) → (((13 * (M 415 ((M 401 18) : Int32).toNatClampNeg)) : Int32).toInt - v4877.toInt).toNat < f4872 → Wp l y_Mod_sure (0, 0, 447) 447 0 0 22 [(0, .ref 401), (1, .int p0), (2, .int v4876), (3, .int v4877)] [] M4878 L4879 (rf ld) Q := by
      intro f4872
      induction f4872 with
      | zero => intro v4876 v4877 M4878 L4879 _ _ hm4874; exact absurd hm4874 (Nat.not_lt_zero _)
      | succ f4872 ih4873 =>
        intro v4876 v4877 M4878 L4879 k4880 n4881 hm4874
        refine g_iload_n (pc1 := 23) d_Mod_sure_22 rfl 3 rfl ?_
        refine g_bipush (pc1 := 25) (v := 13) d_Mod_sure_23 rfl (by decide) ?_
        refine g_aload_n (pc1 := 26) d_Mod_sure_25 rfl 0 rfl ?_
        refine g_getr (pc1 := 29) d_Mod_sure_26 rfl ⟨_, fo_Mod_58⟩ sh_401 (by decide) (rf_401_27 ld) ?_
        refine g_aload_n (pc1 := 30) d_Mod_sure_29 rfl 0 rfl ?_
        refine g_geti (pc1 := 33) d_Mod_sure_30 rfl ⟨_, fo_Mod_236⟩ sh_401 (by decide) ?_
        refine Wp.vali (y := (M 401 18)) (Kl.m k4880 rfl) ?_
        refine g_iald (pc1 := 34) d_Mod_sure_33 rfl sh_415 (by decide) (by have r0 := hI.live; have r1 := (i_b (M 401 18)); exact vin_i (by omega) (by omega)) ?_
        refine Wp.vali (y := (M 415 ((M 401 18) : Int32).toNatClampNeg)) (Kl.m k4880 rfl) ?_
        refine g_imul (pc1 := 35) d_Mod_sure_34 rfl ?_
        refine g_icmp_ge (pc1 := 38) (tgt := 76) d_Mod_sure_35 (by decide) rfl (fun h4882 => ?_) (fun h4882 => ?_)
        · refine g_iload_n (pc1 := 77) d_Mod_sure_76 rfl 2 rfl ?_
          refine g_if_ge (pc1 := 80) (tgt := 85) d_Mod_sure_77 (by decide) rfl (fun h4883 => ?_) (fun h4883 => ?_)
          · refine g_iload_n (pc1 := 86) d_Mod_sure_85 rfl 2 rfl ?_
            refine g_ireturn (Or.inl rfl) d_Mod_sure_86 rfl ?_
            exact hQ _ _ _ k4880
          · refine g_bipush (pc1 := 82) (v := (-2)) d_Mod_sure_80 rfl (by decide) ?_
            refine g_goto (tgt := 86) d_Mod_sure_82 (by decide) ?_
            refine g_ireturn (Or.inl rfl) d_Mod_sure_86 rfl ?_
            exact hQ _ _ _ k4880
        · refine g_aload_n (pc1 := 39) d_Mod_sure_38 rfl 0 rfl ?_
          refine g_iload_n (pc1 := 40) d_Mod_sure_39 rfl 3 rfl ?_
          refine g_iload_n (pc1 := 41) d_Mod_sure_40 rfl 1 rfl ?_
          refine g_callV0 (pc1 := 44) (As := [.int v4877, .int p0]) (rest := []) d_Mod_sure_41 rfl mo_Mod_455 mi_Mod_isWay mv_Mod_isWay rfl sh_401 (by decide) (by decide) rfl rfl (Nat.le_of_ble_eq_true rfl) ?_
          refine t2_Mod_isWay hld (Inv.keep hI inv_MS1 k4880) _ _ (by have l0 : (13 : Int32).toInt = 13 := (by decide); have r0 := (mt i_le.mpr h4882); have r1 := n4881; have r2 := (hI.dishes (((M 401 18) : Int32).toNatClampNeg)); have r3 := (i_b (M 415 (M 401 18).toNatClampNeg)); have r4 := (i_b (v4877)); (try have e1 : (13 * (M 415 (M 401 18).toNatClampNeg) : Int32).toInt = (13 * ((M 415 (M 401 18).toNatClampNeg) : Int32).toInt) := i_mulE (by decide : (13 : Int32).toInt = 13) rfl (by omega)); omega) (by rw [(Kl.m (c := 401) (j := 64) k4880 rfl : M4878 401 64 = M 401 64)]; exact (by have l0 : (0 : Int32).toInt = 0 := (by decide); have r0 := (bp_t hbr4866 h4867); have r1 := hI.tolds; have r2 := (i_b (M 401 64)); have r3 := (i_b (p0)); omega)) (fun r4884 M4885 L4886 hbr4884 k4887 => ?_)
          refine g_if_ne (pc1 := 47) (tgt := 50) d_Mod_sure_44 (by decide) rfl (fun h4888 => ?_) (fun h4888 => ?_)
          · refine g_iload_n (pc1 := 51) d_Mod_sure_50 rfl 2 rfl ?_
            refine g_if_lt (pc1 := 54) (tgt := 65) d_Mod_sure_51 (by decide) rfl (fun h4889 => ?_) (fun h4889 => ?_)
            · refine g_iload_n (pc1 := 66) d_Mod_sure_65 rfl 3 rfl ?_
              refine g_bipush (pc1 := 68) (v := 13) d_Mod_sure_66 rfl (by decide) ?_
              refine g_idiv (pc1 := 69) d_Mod_sure_68 rfl (by decide) ?_
              refine Wp.topi (fun x4890 ex4890 => ?_)
              refine g_istore_n (pc1 := 70) (lv' := [(0, .ref 401), (1, .int p0), (2, .int x4890), (3, .int v4877)]) d_Mod_sure_69 rfl rfl (by decide) [1, 2, 0, 3] rfl ?_
              obtain ⟨x4891, ex4891⟩ : ∃ y : Int32, y = v4877 + 1 := ⟨_, rfl⟩
              refine g_iinc (pc1 := 73) (v := x4891) (lv' := [(0, .ref 401), (1, .int p0), (2, .int x4890), (3, .int x4891)]) d_Mod_sure_70 rfl 3 rfl (by rw [ex4891]; rfl) (by decide) [1, 2, 3, 0] rfl ?_
              refine g_goto (tgt := 22) d_Mod_sure_73 (by decide) ?_
              exact ih4873 x4890 x4891 M4885 L4886 (Kl.trans k4880 k4887) (by have l0 : (1 : Int32).toInt = 1 := (by decide); have l1 : (13 : Int32).toInt = 13 := (by decide); have r0 := (mt i_le.mpr h4882); have r1 := n4881; have r2 := (hI.dishes (((M 401 18) : Int32).toNatClampNeg)); have r3 := (i_b (M 415 (M 401 18).toNatClampNeg)); have r4 := (i_b (v4877)); have r5 := (i_b (x4891)); (try have e1 : (13 * (M 415 (M 401 18).toNatClampNeg) : Int32).toInt = (13 * ((M 415 (M 401 18).toNatClampNeg) : Int32).toInt) := i_mulE (by decide : (13 : Int32).toInt = 13) rfl (by omega)); have e2 : (v4877 + 1 : Int32).toInt = (v4877.toInt + 1) := i_addE rfl (by decide : (1 : Int32).toInt = 1) (by omega); have d3 : x4891.toInt = (v4877.toInt + 1) := (congrArg Int32.toInt ex4891).trans e2; omega) (by have l0 : (1 : Int32).toInt = 1 := (by decide); have l1 : (13 : Int32).toInt = 13 := (by decide); have r0 := (mt i_le.mpr h4882); have r1 := n4881; have r2 := hm4874; have r3 := (hI.dishes (((M 401 18) : Int32).toNatClampNeg)); have r4 := (i_b (M 415 (M 401 18).toNatClampNeg)); have r5 := (i_b (v4877)); have r6 := (i_b (x4891)); (try have e1 : (13 * (M 415 (M 401 18).toNatClampNeg) : Int32).toInt = (13 * ((M 415 (M 401 18).toNatClampNeg) : Int32).toInt) := i_mulE (by decide : (13 : Int32).toInt = 13) rfl (by omega)); have e2 : (v4877 + 1 : Int32).toInt = (v4877.toInt + 1) := i_addE rfl (by decide : (1 : Int32).toInt = 1) (by omega); have d3 : x4891.toInt = (v4877.toInt + 1) := (congrArg Int32.toInt ex4891).trans e2; omega)
            · refine g_iload_n (pc1 := 55) d_Mod_sure_54 rfl 2 rfl ?_
              refine g_iload_n (pc1 := 56) d_Mod_sure_55 rfl 3 rfl ?_
              refine g_bipush (pc1 := 58) (v := 13) d_Mod_sure_56 rfl (by decide) ?_
              refine g_idiv (pc1 := 59) d_Mod_sure_58 rfl (by decide) ?_
              refine g_icmp_eq (pc1 := 62) (tgt := 65) d_Mod_sure_59 (by decide) rfl (fun h4892 => ?_) (fun h4892 => ?_)
              · refine g_iload_n (pc1 := 66) d_Mod_sure_65 rfl 3 rfl ?_
                refine g_bipush (pc1 := 68) (v := 13) d_Mod_sure_66 rfl (by decide) ?_
                refine g_idiv (pc1 := 69) d_Mod_sure_68 rfl (by decide) ?_
                refine Wp.topi (fun x4893 ex4893 => ?_)
                refine g_istore_n (pc1 := 70) (lv' := [(0, .ref 401), (1, .int p0), (2, .int x4893), (3, .int v4877)]) d_Mod_sure_69 rfl rfl (by decide) [1, 2, 0, 3] rfl ?_
                obtain ⟨x4894, ex4894⟩ : ∃ y : Int32, y = v4877 + 1 := ⟨_, rfl⟩
                refine g_iinc (pc1 := 73) (v := x4894) (lv' := [(0, .ref 401), (1, .int p0), (2, .int x4893), (3, .int x4894)]) d_Mod_sure_70 rfl 3 rfl (by rw [ex4894]; rfl) (by decide) [1, 2, 3, 0] rfl ?_
                refine g_goto (tgt := 22) d_Mod_sure_73 (by decide) ?_
                exact ih4873 x4893 x4894 M4885 L4886 (Kl.trans k4880 k4887) (by have l0 : (0 : Int32).toInt = 0 := (by decide); have l1 : (1 : Int32).toInt = 1 := (by decide); have l2 : (13 : Int32).toInt = 13 := (by decide); have r0 := (mt i_le.mpr h4882); have r1 := (congrArg Int32.toInt h4892); have r2 := n4881; have r3 := (mt i_lt.mpr h4889); have r4 := (hI.dishes (((M 401 18) : Int32).toNatClampNeg)); have r5 := (i_b (M 415 (M 401 18).toNatClampNeg)); have r6 := (i_b (v4876)); have r7 := (i_b (v4877)); have r8 := (i_b (x4894)); (try have e1 : (13 * (M 415 (M 401 18).toNatClampNeg) : Int32).toInt = (13 * ((M 415 (M 401 18).toNatClampNeg) : Int32).toInt) := i_mulE (by decide : (13 : Int32).toInt = 13) rfl (by omega)); (try have e2 : (v4877 / 13 : Int32).toInt = (v4877.toInt / 13) := i_divE rfl (by decide : (13 : Int32).toInt = 13) (by omega) (by omega)); have e3 : (v4877 + 1 : Int32).toInt = (v4877.toInt + 1) := i_addE rfl (by decide : (1 : Int32).toInt = 1) (by omega); have d4 : x4894.toInt = (v4877.toInt + 1) := (congrArg Int32.toInt ex4894).trans e3; omega) (by have l0 : (0 : Int32).toInt = 0 := (by decide); have l1 : (1 : Int32).toInt = 1 := (by decide); have l2 : (13 : Int32).toInt = 13 := (by decide); have r0 := (mt i_le.mpr h4882); have r1 := (congrArg Int32.toInt h4892); have r2 := n4881; have r3 := hm4874; have r4 := (mt i_lt.mpr h4889); have r5 := (hI.dishes (((M 401 18) : Int32).toNatClampNeg)); have r6 := (i_b (M 415 (M 401 18).toNatClampNeg)); have r7 := (i_b (v4876)); have r8 := (i_b (v4877)); have r9 := (i_b (x4894)); (try have e1 : (13 * (M 415 (M 401 18).toNatClampNeg) : Int32).toInt = (13 * ((M 415 (M 401 18).toNatClampNeg) : Int32).toInt) := i_mulE (by decide : (13 : Int32).toInt = 13) rfl (by omega)); (try have e2 : (v4877 / 13 : Int32).toInt = (v4877.toInt / 13) := i_divE rfl (by decide : (13 : Int32).toInt = 13) (by omega) (by omega)); have e3 : (v4877 + 1 : Int32).toInt = (v4877.toInt + 1) := i_addE rfl (by decide : (1 : Int32).toInt = 1) (by omega); have d4 : x4894.toInt = (v4877.toInt + 1) := (congrArg Int32.toInt ex4894).trans e3; omega)
              · refine g_bipush (pc1 := 64) (v := (-2)) d_Mod_sure_62 rfl (by decide) ?_
                refine g_ireturn (Or.inl rfl) d_Mod_sure_64 rfl ?_
                exact hQ _ _ _ (Kl.trans k4880 k4887)
          · refine g_goto (tgt := 70) d_Mod_sure_47 (by decide) ?_
            obtain ⟨x4895, ex4895⟩ : ∃ y : Int32, y = v4877 + 1 := ⟨_, rfl⟩
            refine g_iinc (pc1 := 73) (v := x4895) (lv' := [(0, .ref 401), (1, .int p0), (2, .int v4876), (3, .int x4895)]) d_Mod_sure_70 rfl 3 rfl (by rw [ex4895]; rfl) (by decide) [1, 2, 3, 0] rfl ?_
            refine g_goto (tgt := 22) d_Mod_sure_73 (by decide) ?_
            exact ih4873 v4876 x4895 M4885 L4886 (Kl.trans k4880 k4887) (by have l0 : (1 : Int32).toInt = 1 := (by decide); have l1 : (13 : Int32).toInt = 13 := (by decide); have r0 := (mt i_le.mpr h4882); have r1 := n4881; have r2 := (hI.dishes (((M 401 18) : Int32).toNatClampNeg)); have r3 := (i_b (M 415 (M 401 18).toNatClampNeg)); have r4 := (i_b (v4877)); have r5 := (i_b (x4895)); (try have e1 : (13 * (M 415 (M 401 18).toNatClampNeg) : Int32).toInt = (13 * ((M 415 (M 401 18).toNatClampNeg) : Int32).toInt) := i_mulE (by decide : (13 : Int32).toInt = 13) rfl (by omega)); have e2 : (v4877 + 1 : Int32).toInt = (v4877.toInt + 1) := i_addE rfl (by decide : (1 : Int32).toInt = 1) (by omega); have d3 : x4895.toInt = (v4877.toInt + 1) := (congrArg Int32.toInt ex4895).trans e2; omega) (by have l0 : (1 : Int32).toInt = 1 := (by decide); have l1 : (13 : Int32).toInt = 13 := (by decide); have r0 := (mt i_le.mpr h4882); have r1 := n4881; have r2 := hm4874; have r3 := (hI.dishes (((M 401 18) : Int32).toNatClampNeg)); have r4 := (i_b (M 415 (M 401 18).toNatClampNeg)); have r5 := (i_b (v4877)); have r6 := (i_b (x4895)); (try have e1 : (13 * (M 415 (M 401 18).toNatClampNeg) : Int32).toInt = (13 * ((M 415 (M 401 18).toNatClampNeg) : Int32).toInt) := i_mulE (by decide : (13 : Int32).toInt = 13) rfl (by omega)); have e2 : (v4877 + 1 : Int32).toInt = (v4877.toInt + 1) := i_addE rfl (by decide : (1 : Int32).toInt = 1) (by omega); have d3 : x4895.toInt = (v4877.toInt + 1) := (congrArg Int32.toInt ex4895).trans e2; omega)
    exact LP4875 _ x4871 0 M4868 L4869 (Kl.trans Kl.rf k4870) (by decide) (Nat.lt_succ_self _)
  · refine g_iconst (pc1 := 13) (v := (-1)) d_Mod_sure_12 rfl (by decide) ?_
    refine g_ireturn (Or.inl rfl) d_Mod_sure_13 rfl ?_
    exact hQ _ _ _ Kl.rf
set_option maxHeartbeats 4000000 in
set_option maxRecDepth 20000 in
theorem t2_Mod_taste {l : Launch} {ld : Nat} (hld : isLa ld) {M : gM} {L : gL} {Q : Option Value → gM → gL → gR → Prop} (hI : Inv M) (p0 : Int32)  (hQ : ∀ (r : Int32) (M' : gM) (L' : gL), Kl MS1 M L M' L' → Q (some (.int r)) M' L' (rf ld)) : Tm l y_Mod_taste (0, 0, 447) 447 [.ref 401, .int p0] M L (rf ld) Q := by
  refine Tm.of (by decide) (Nat.le_of_ble_eq_true rfl) ?_
  show Wp l y_Mod_taste (0, 0, 447) 447 0 0 0 [(0, .ref 401), (1, .int p0)] [] M L (rf ld) Q
  refine g_iload_n (pc1 := 1) d_Mod_taste_0 rfl 1 rfl ?_
  refine g_iconst (pc1 := 2) (v := 0) d_Mod_taste_1 rfl (by decide) ?_
  refine g_aload_n (pc1 := 3) d_Mod_taste_2 rfl 0 rfl ?_
  refine g_geti (pc1 := 6) d_Mod_taste_3 rfl ⟨_, fo_Mod_257⟩ sh_401 (by decide) ?_
  refine g_callS0 (pc1 := 9) (As := [.int p0, .int 0, .int (M 401 64)]) (rest := []) d_Mod_taste_6 rfl mo_Mod_316 ms_Mod_in (by decide) rfl rfl (Nat.le_of_ble_eq_true rfl) ?_
  refine t2_Mod_in hld _ _ _  (fun r4896 hbr4896 => ?_)
  refine g_if_ne (pc1 := 12) (tgt := 14) d_Mod_taste_9 (by decide) rfl (fun h4897 => ?_) (fun h4897 => ?_)
  · refine g_aload_n (pc1 := 15) d_Mod_taste_14 rfl 0 rfl ?_
    refine g_callV0 (pc1 := 18) (As := []) (rest := []) d_Mod_taste_15 rfl mo_Mod_377 mi_Mod_copies mv_Mod_copies rfl sh_401 (by decide) (by decide) rfl rfl (Nat.le_of_ble_eq_true rfl) ?_
    refine t2_Mod_copies hld hI   (fun  M4898 L4899 k4900 => ?_)
    refine g_iconst (pc1 := 19) (v := 0) d_Mod_taste_18 rfl (by decide) ?_
    refine g_istore_n (pc1 := 20) (lv' := [(0, .ref 401), (1, .int p0), (2, .int 0)]) d_Mod_taste_19 rfl rfl (by decide) [1, 2, 0] rfl ?_
    have LP4904 : ∀ (f4901 : Nat) (v4905 : Int32) (M4906 : gM) (L4907 : gL), Kl MS1 M L M4906 L4907 → (0 ≤ v4905.toInt) → ((3000 : Int32).toInt - v4905.toInt).toNat < f4901 → Wp l y_Mod_taste (0, 0, 447) 447 0 0 20 [(0, .ref 401), (1, .int p0), (2, .int v4905)] [] M4906 L4907 (rf ld) Q := by
      intro f4901
      induction f4901 with
      | zero => intro v4905 M4906 L4907 _ _ hm4903; exact absurd hm4903 (Nat.not_lt_zero _)
      | succ f4901 ih4902 =>
        intro v4905 M4906 L4907 k4908 n4909 hm4903
        refine g_iload_n (pc1 := 21) d_Mod_taste_20 rfl 2 rfl ?_
        refine g_sipush (pc1 := 24) (v := 3000) d_Mod_taste_21 rfl (by decide) ?_
        refine g_icmp_ge (pc1 := 27) (tgt := 40) d_Mod_taste_24 (by decide) rfl (fun h4910 => ?_) (fun h4910 => ?_)
        · refine g_iconst (pc1 := 41) (v := 0) d_Mod_taste_40 rfl (by decide) ?_
          refine g_istore_n (pc1 := 42) (lv' := [(0, .ref 401), (1, .int p0), (2, .int 0)]) d_Mod_taste_41 rfl rfl (by decide) [1, 2, 0] rfl ?_
          refine g_iconst (pc1 := 43) (v := 0) d_Mod_taste_42 rfl (by decide) ?_
          refine g_istore_n (pc1 := 44) (lv' := [(0, .ref 401), (1, .int p0), (2, .int 0), (3, .int 0)]) d_Mod_taste_43 rfl rfl (by decide) [1, 2, 3, 0] rfl ?_
          have LP4914 : ∀ (f4911 : Nat) (v4915 : Int32) (v4916 : Int32) (M4917 : gM) (L4918 : gL), Kl MS1 M L M4917 L4918 → (0 ≤ v4916.toInt) → (((13 * (M 415 ((M 401 18) : Int32).toNatClampNeg)) : Int32).toInt - v4916.toInt).toNat < f4911 → Wp l y_Mod_taste (0, 0, 447) 447 0 0 44 [(0, .ref 401), (1, .int p0), (2, .int v4915), (3, .int v4916)] [] M4917 L4918 (rf ld) Q := by
            intro f4911
            induction f4911 with
            | zero => intro v4915 v4916 M4917 L4918 _ _ hm4913; exact absurd hm4913 (Nat.not_lt_zero _)
            | succ f4911 ih4912 =>
              intro v4915 v4916 M4917 L4918 k4919 n4920 hm4913
              refine g_iload_n (pc1 := 45) d_Mod_taste_44 rfl 3 rfl ?_
              refine g_bipush (pc1 := 47) (v := 13) d_Mod_taste_45 rfl (by decide) ?_
              refine g_aload_n (pc1 := 48) d_Mod_taste_47 rfl 0 rfl ?_
              refine g_getr (pc1 := 51) d_Mod_taste_48 rfl ⟨_, fo_Mod_58⟩ sh_401 (by decide) (rf_401_27 ld) ?_
              refine g_aload_n (pc1 := 52) d_Mod_taste_51 rfl 0 rfl ?_
              refine g_geti (pc1 := 55) d_Mod_taste_52 rfl ⟨_, fo_Mod_236⟩ sh_401 (by decide) ?_
              refine Wp.vali (y := (M 401 18)) (Kl.m k4919 rfl) ?_
              refine g_iald (pc1 := 56) d_Mod_taste_55 rfl sh_415 (by decide) (by have r0 := hI.live; have r1 := (i_b (M 401 18)); exact vin_i (by omega) (by omega)) ?_
              refine Wp.vali (y := (M 415 ((M 401 18) : Int32).toNatClampNeg)) (Kl.m k4919 rfl) ?_
              refine g_imul (pc1 := 57) d_Mod_taste_56 rfl ?_
              refine g_icmp_ge (pc1 := 60) (tgt := 126) d_Mod_taste_57 (by decide) rfl (fun h4921 => ?_) (fun h4921 => ?_)
              · refine g_iload_n (pc1 := 127) d_Mod_taste_126 rfl 2 rfl ?_
                refine g_if_ne (pc1 := 130) (tgt := 133) d_Mod_taste_127 (by decide) rfl (fun h4922 => ?_) (fun h4922 => ?_)
                · refine g_bipush (pc1 := 135) (v := (-2)) d_Mod_taste_133 rfl (by decide) ?_
                  refine Wp.topi (fun x4923 ex4923 => ?_)
                  refine g_istore_n (pc1 := 136) (lv' := [(0, .ref 401), (1, .int p0), (2, .int v4915), (3, .int x4923)]) d_Mod_taste_135 rfl rfl (by decide) [1, 2, 3, 0] rfl ?_
                  refine g_iconst (pc1 := 137) (v := 0) d_Mod_taste_136 rfl (by decide) ?_
                  refine g_istore (pc1 := 139) (lv' := [(0, .ref 401), (1, .int p0), (2, .int v4915), (3, .int x4923), (4, .int 0)]) d_Mod_taste_137 rfl (by decide) [1, 2, 3, 4, 0] rfl ?_
                  refine g_iconst (pc1 := 140) (v := 0) d_Mod_taste_139 rfl (by decide) ?_
                  refine g_istore (pc1 := 142) (lv' := [(0, .ref 401), (1, .int p0), (2, .int v4915), (3, .int x4923), (4, .int 0), (5, .int 0)]) d_Mod_taste_140 rfl (by decide) [1, 2, 3, 4, 5, 0] rfl ?_
                  have LP4927 : ∀ (f4924 : Nat) (v4928 : Int32) (v4929 : Int32) (v4930 : Int32), (0 ≤ v4930.toInt) → ((30 : Int32).toInt - v4930.toInt).toNat < f4924 → Wp l y_Mod_taste (0, 0, 447) 447 0 0 142 [(0, .ref 401), (1, .int p0), (2, .int v4915), (3, .int v4928), (4, .int v4929), (5, .int v4930)] [] M4917 L4918 (rf ld) Q := by
                    intro f4924
                    induction f4924 with
                    | zero => intro v4928 v4929 v4930 _ hm4926; exact absurd hm4926 (Nat.not_lt_zero _)
                    | succ f4924 ih4925 =>
                      intro v4928 v4929 v4930 n4931 hm4926
                      refine g_iload (pc1 := 144) d_Mod_taste_142 rfl 5 rfl ?_
                      refine g_bipush (pc1 := 146) (v := 30) d_Mod_taste_144 rfl (by decide) ?_
                      refine g_icmp_ge (pc1 := 149) (tgt := 228) d_Mod_taste_146 (by decide) rfl (fun h4932 => ?_) (fun h4932 => ?_)
                      · refine g_iload_n (pc1 := 229) d_Mod_taste_228 rfl 3 rfl ?_
                        refine g_ireturn (Or.inl rfl) d_Mod_taste_229 rfl ?_
                        exact hQ _ _ _ k4919
                      · refine g_iconst (pc1 := 150) (v := 0) d_Mod_taste_149 rfl (by decide) ?_
                        refine g_istore (pc1 := 152) (lv' := [(0, .ref 401), (1, .int p0), (2, .int v4915), (3, .int v4928), (4, .int v4929), (5, .int v4930), (6, .int 0)]) d_Mod_taste_150 rfl (by decide) [1, 2, 3, 4, 5, 6, 0] rfl ?_
                        refine g_iconst (pc1 := 153) (v := 0) d_Mod_taste_152 rfl (by decide) ?_
                        refine g_istore (pc1 := 155) (lv' := [(0, .ref 401), (1, .int p0), (2, .int v4915), (3, .int v4928), (4, .int v4929), (5, .int v4930), (6, .int 0), (7, .int 0)]) d_Mod_taste_153 rfl (by decide) [1, 2, 3, 4, 5, 6, 7, 0] rfl ?_
                        have LP4936 : ∀ (f4933 : Nat) (v4937 : Int32) (v4938 : Int32), (0 ≤ v4938.toInt) → ((100 : Int32).toInt - v4938.toInt).toNat < f4933 → Wp l y_Mod_taste (0, 0, 447) 447 0 0 155 [(0, .ref 401), (1, .int p0), (2, .int v4915), (3, .int v4928), (4, .int v4929), (5, .int v4930), (6, .int v4937), (7, .int v4938)] [] M4917 L4918 (rf ld) Q := by
                          intro f4933
                          induction f4933 with
                          | zero => intro v4937 v4938 _ hm4935; exact absurd hm4935 (Nat.not_lt_zero _)
                          | succ f4933 ih4934 =>
                            intro v4937 v4938 n4939 hm4935
                            refine g_iload (pc1 := 157) d_Mod_taste_155 rfl 7 rfl ?_
                            refine g_bipush (pc1 := 159) (v := 100) d_Mod_taste_157 rfl (by decide) ?_
                            refine g_icmp_ge (pc1 := 162) (tgt := 201) d_Mod_taste_159 (by decide) rfl (fun h4940 => ?_) (fun h4940 => ?_)
                            · refine g_iload_n (pc1 := 202) d_Mod_taste_201 rfl 3 rfl ?_
                              refine g_if_lt (pc1 := 205) (tgt := 215) d_Mod_taste_202 (by decide) rfl (fun h4941 => ?_) (fun h4941 => ?_)
                              · refine g_iload (pc1 := 217) d_Mod_taste_215 rfl 5 rfl ?_
                                refine g_istore_n (pc1 := 218) (lv' := [(0, .ref 401), (1, .int p0), (2, .int v4915), (3, .int v4930), (4, .int v4929), (5, .int v4930), (6, .int v4937), (7, .int v4938)]) d_Mod_taste_217 rfl rfl (by decide) [1, 2, 3, 0, 4, 5, 6, 7] rfl ?_
                                refine g_iload (pc1 := 220) d_Mod_taste_218 rfl 6 rfl ?_
                                refine g_istore (pc1 := 222) (lv' := [(0, .ref 401), (1, .int p0), (2, .int v4915), (3, .int v4930), (4, .int v4937), (5, .int v4930), (6, .int v4937), (7, .int v4938)]) d_Mod_taste_220 rfl (by decide) [1, 2, 3, 4, 0, 5, 6, 7] rfl ?_
                                obtain ⟨x4942, ex4942⟩ : ∃ y : Int32, y = v4930 + 1 := ⟨_, rfl⟩
                                refine g_iinc (pc1 := 225) (v := x4942) (lv' := [(0, .ref 401), (1, .int p0), (2, .int v4915), (3, .int v4930), (4, .int v4937), (5, .int x4942), (6, .int v4937), (7, .int v4938)]) d_Mod_taste_222 rfl 5 rfl (by rw [ex4942]; rfl) (by decide) [1, 2, 3, 4, 5, 0, 6, 7] rfl ?_
                                refine g_goto (tgt := 142) d_Mod_taste_225 (by decide) ?_
                                refine Wp.loc (lv' := [(0, .ref 401), (1, .int p0), (2, .int v4915), (3, .int v4930), (4, .int v4937), (5, .int x4942)]) [0, 1, 2, 3, 4, 5] rfl ?_
                                exact ih4925 v4930 v4937 x4942 (by have l0 : (1 : Int32).toInt = 1 := (by decide); have l1 : (30 : Int32).toInt = 30 := (by decide); have r0 := (mt i_le.mpr h4932); have r1 := n4931; have r2 := (i_b (v4930)); have r3 := (i_b (x4942)); have e1 : (v4930 + 1 : Int32).toInt = (v4930.toInt + 1) := i_addE rfl (by decide : (1 : Int32).toInt = 1) (by omega); have d2 : x4942.toInt = (v4930.toInt + 1) := (congrArg Int32.toInt ex4942).trans e1; omega) (by have l0 : (1 : Int32).toInt = 1 := (by decide); have l1 : (30 : Int32).toInt = 30 := (by decide); have r0 := (mt i_le.mpr h4932); have r1 := n4931; have r2 := hm4926; have r3 := (i_b (v4930)); have r4 := (i_b (x4942)); have e1 : (v4930 + 1 : Int32).toInt = (v4930.toInt + 1) := i_addE rfl (by decide : (1 : Int32).toInt = 1) (by omega); have d2 : x4942.toInt = (v4930.toInt + 1) := (congrArg Int32.toInt ex4942).trans e1; omega)
                              · refine g_iload (pc1 := 207) d_Mod_taste_205 rfl 6 rfl ?_
                                refine g_iload (pc1 := 209) d_Mod_taste_207 rfl 4 rfl ?_
                                refine g_icmp_lt (pc1 := 212) (tgt := 215) d_Mod_taste_209 (by decide) rfl (fun h4943 => ?_) (fun h4943 => ?_)
                                · refine g_iload (pc1 := 217) d_Mod_taste_215 rfl 5 rfl ?_
                                  refine g_istore_n (pc1 := 218) (lv' := [(0, .ref 401), (1, .int p0), (2, .int v4915), (3, .int v4930), (4, .int v4929), (5, .int v4930), (6, .int v4937), (7, .int v4938)]) d_Mod_taste_217 rfl rfl (by decide) [1, 2, 3, 0, 4, 5, 6, 7] rfl ?_
                                  refine g_iload (pc1 := 220) d_Mod_taste_218 rfl 6 rfl ?_
                                  refine g_istore (pc1 := 222) (lv' := [(0, .ref 401), (1, .int p0), (2, .int v4915), (3, .int v4930), (4, .int v4937), (5, .int v4930), (6, .int v4937), (7, .int v4938)]) d_Mod_taste_220 rfl (by decide) [1, 2, 3, 4, 0, 5, 6, 7] rfl ?_
                                  obtain ⟨x4944, ex4944⟩ : ∃ y : Int32, y = v4930 + 1 := ⟨_, rfl⟩
                                  refine g_iinc (pc1 := 225) (v := x4944) (lv' := [(0, .ref 401), (1, .int p0), (2, .int v4915), (3, .int v4930), (4, .int v4937), (5, .int x4944), (6, .int v4937), (7, .int v4938)]) d_Mod_taste_222 rfl 5 rfl (by rw [ex4944]; rfl) (by decide) [1, 2, 3, 4, 5, 0, 6, 7] rfl ?_
                                  refine g_goto (tgt := 142) d_Mod_taste_225 (by decide) ?_
                                  refine Wp.loc (lv' := [(0, .ref 401), (1, .int p0), (2, .int v4915), (3, .int v4930), (4, .int v4937), (5, .int x4944)]) [0, 1, 2, 3, 4, 5] rfl ?_
                                  exact ih4925 v4930 v4937 x4944 (by have l0 : (1 : Int32).toInt = 1 := (by decide); have l1 : (30 : Int32).toInt = 30 := (by decide); have r0 := (mt i_le.mpr h4932); have r1 := n4931; have r2 := (i_b (v4930)); have r3 := (i_b (x4944)); have e1 : (v4930 + 1 : Int32).toInt = (v4930.toInt + 1) := i_addE rfl (by decide : (1 : Int32).toInt = 1) (by omega); have d2 : x4944.toInt = (v4930.toInt + 1) := (congrArg Int32.toInt ex4944).trans e1; omega) (by have l0 : (1 : Int32).toInt = 1 := (by decide); have l1 : (30 : Int32).toInt = 30 := (by decide); have r0 := (mt i_le.mpr h4932); have r1 := n4931; have r2 := hm4926; have r3 := (i_b (v4930)); have r4 := (i_b (x4944)); have e1 : (v4930 + 1 : Int32).toInt = (v4930.toInt + 1) := i_addE rfl (by decide : (1 : Int32).toInt = 1) (by omega); have d2 : x4944.toInt = (v4930.toInt + 1) := (congrArg Int32.toInt ex4944).trans e1; omega)
                                · refine g_goto (tgt := 222) d_Mod_taste_212 (by decide) ?_
                                  obtain ⟨x4945, ex4945⟩ : ∃ y : Int32, y = v4930 + 1 := ⟨_, rfl⟩
                                  refine g_iinc (pc1 := 225) (v := x4945) (lv' := [(0, .ref 401), (1, .int p0), (2, .int v4915), (3, .int v4928), (4, .int v4929), (5, .int x4945), (6, .int v4937), (7, .int v4938)]) d_Mod_taste_222 rfl 5 rfl (by rw [ex4945]; rfl) (by decide) [1, 2, 3, 4, 5, 0, 6, 7] rfl ?_
                                  refine g_goto (tgt := 142) d_Mod_taste_225 (by decide) ?_
                                  refine Wp.loc (lv' := [(0, .ref 401), (1, .int p0), (2, .int v4915), (3, .int v4928), (4, .int v4929), (5, .int x4945)]) [0, 1, 2, 3, 4, 5] rfl ?_
                                  exact ih4925 v4928 v4929 x4945 (by have l0 : (1 : Int32).toInt = 1 := (by decide); have l1 : (30 : Int32).toInt = 30 := (by decide); have r0 := (mt i_le.mpr h4932); have r1 := n4931; have r2 := (i_b (v4930)); have r3 := (i_b (x4945)); have e1 : (v4930 + 1 : Int32).toInt = (v4930.toInt + 1) := i_addE rfl (by decide : (1 : Int32).toInt = 1) (by omega); have d2 : x4945.toInt = (v4930.toInt + 1) := (congrArg Int32.toInt ex4945).trans e1; omega) (by have l0 : (1 : Int32).toInt = 1 := (by decide); have l1 : (30 : Int32).toInt = 30 := (by decide); have r0 := (mt i_le.mpr h4932); have r1 := n4931; have r2 := hm4926; have r3 := (i_b (v4930)); have r4 := (i_b (x4945)); have e1 : (v4930 + 1 : Int32).toInt = (v4930.toInt + 1) := i_addE rfl (by decide : (1 : Int32).toInt = 1) (by omega); have d2 : x4945.toInt = (v4930.toInt + 1) := (congrArg Int32.toInt ex4945).trans e1; omega)
                            · refine g_aload_n (pc1 := 163) d_Mod_taste_162 rfl 0 rfl ?_
                              refine g_getr (pc1 := 166) d_Mod_taste_163 rfl ⟨_, fo_Mod_146⟩ sh_401 (by decide) (rf_401_68 ld) ?_
                              refine g_bipush (pc1 := 168) (v := 100) d_Mod_taste_166 rfl (by decide) ?_
                              refine g_iload (pc1 := 170) d_Mod_taste_168 rfl 5 rfl ?_
                              refine g_imul (pc1 := 171) d_Mod_taste_170 rfl ?_
                              refine g_iload (pc1 := 173) d_Mod_taste_171 rfl 7 rfl ?_
                              refine g_iadd (pc1 := 174) d_Mod_taste_173 rfl ?_
                              refine g_iald (pc1 := 175) d_Mod_taste_174 rfl sh_444 (by decide) (by have l0 : (100 : Int32).toInt = 100 := (by decide); have l1 : (30 : Int32).toInt = 30 := (by decide); have r0 := (mt i_le.mpr h4932); have r1 := (mt i_le.mpr h4940); have r2 := n4931; have r3 := n4939; have r4 := (i_b (v4930)); have r5 := (i_b (v4938)); have e1 : (100 * v4930 : Int32).toInt = (100 * v4930.toInt) := i_mulE (by decide : (100 : Int32).toInt = 100) rfl (by omega); have e2 : ((100 * v4930) + v4938 : Int32).toInt = ((100 * v4930.toInt) + v4938.toInt) := i_addE e1 rfl (by omega); exact vin_i (by omega) (by omega)) ?_
                              refine g_iload (pc1 := 177) d_Mod_taste_175 rfl 6 rfl ?_
                              refine g_icmp_le (pc1 := 180) (tgt := 195) d_Mod_taste_177 (by decide) rfl (fun h4946 => ?_) (fun h4946 => ?_)
                              · obtain ⟨x4947, ex4947⟩ : ∃ y : Int32, y = v4938 + 1 := ⟨_, rfl⟩
                                refine g_iinc (pc1 := 198) (v := x4947) (lv' := [(0, .ref 401), (1, .int p0), (2, .int v4915), (3, .int v4928), (4, .int v4929), (5, .int v4930), (6, .int v4937), (7, .int x4947)]) d_Mod_taste_195 rfl 7 rfl (by rw [ex4947]; rfl) (by decide) [1, 2, 3, 4, 5, 6, 7, 0] rfl ?_
                                refine g_goto (tgt := 155) d_Mod_taste_198 (by decide) ?_
                                exact ih4934 v4937 x4947 (by have l0 : (1 : Int32).toInt = 1 := (by decide); have l1 : (100 : Int32).toInt = 100 := (by decide); have r0 := (mt i_le.mpr h4940); have r1 := n4939; have r2 := (i_b (v4938)); have r3 := (i_b (x4947)); have e1 : (v4938 + 1 : Int32).toInt = (v4938.toInt + 1) := i_addE rfl (by decide : (1 : Int32).toInt = 1) (by omega); have d2 : x4947.toInt = (v4938.toInt + 1) := (congrArg Int32.toInt ex4947).trans e1; omega) (by have l0 : (1 : Int32).toInt = 1 := (by decide); have l1 : (100 : Int32).toInt = 100 := (by decide); have r0 := (mt i_le.mpr h4940); have r1 := n4939; have r2 := hm4935; have r3 := (i_b (v4938)); have r4 := (i_b (x4947)); have e1 : (v4938 + 1 : Int32).toInt = (v4938.toInt + 1) := i_addE rfl (by decide : (1 : Int32).toInt = 1) (by omega); have d2 : x4947.toInt = (v4938.toInt + 1) := (congrArg Int32.toInt ex4947).trans e1; omega)
                              · refine g_aload_n (pc1 := 181) d_Mod_taste_180 rfl 0 rfl ?_
                                refine g_getr (pc1 := 184) d_Mod_taste_181 rfl ⟨_, fo_Mod_146⟩ sh_401 (by decide) (rf_401_68 ld) ?_
                                refine g_bipush (pc1 := 186) (v := 100) d_Mod_taste_184 rfl (by decide) ?_
                                refine g_iload (pc1 := 188) d_Mod_taste_186 rfl 5 rfl ?_
                                refine g_imul (pc1 := 189) d_Mod_taste_188 rfl ?_
                                refine g_iload (pc1 := 191) d_Mod_taste_189 rfl 7 rfl ?_
                                refine g_iadd (pc1 := 192) d_Mod_taste_191 rfl ?_
                                refine g_iald (pc1 := 193) d_Mod_taste_192 rfl sh_444 (by decide) (by have l0 : (100 : Int32).toInt = 100 := (by decide); have l1 : (30 : Int32).toInt = 30 := (by decide); have r0 := (mt i_le.mpr h4932); have r1 := (mt i_le.mpr h4940); have r2 := n4931; have r3 := n4939; have r4 := (i_b (v4930)); have r5 := (i_b (v4938)); have e1 : (100 * v4930 : Int32).toInt = (100 * v4930.toInt) := i_mulE (by decide : (100 : Int32).toInt = 100) rfl (by omega); have e2 : ((100 * v4930) + v4938 : Int32).toInt = ((100 * v4930.toInt) + v4938.toInt) := i_addE e1 rfl (by omega); exact vin_i (by omega) (by omega)) ?_
                                refine Wp.topi (fun x4948 ex4948 => ?_)
                                refine g_istore (pc1 := 195) (lv' := [(0, .ref 401), (1, .int p0), (2, .int v4915), (3, .int v4928), (4, .int v4929), (5, .int v4930), (6, .int x4948), (7, .int v4938)]) d_Mod_taste_193 rfl (by decide) [1, 2, 3, 4, 5, 6, 0, 7] rfl ?_
                                obtain ⟨x4949, ex4949⟩ : ∃ y : Int32, y = v4938 + 1 := ⟨_, rfl⟩
                                refine g_iinc (pc1 := 198) (v := x4949) (lv' := [(0, .ref 401), (1, .int p0), (2, .int v4915), (3, .int v4928), (4, .int v4929), (5, .int v4930), (6, .int x4948), (7, .int x4949)]) d_Mod_taste_195 rfl 7 rfl (by rw [ex4949]; rfl) (by decide) [1, 2, 3, 4, 5, 6, 7, 0] rfl ?_
                                refine g_goto (tgt := 155) d_Mod_taste_198 (by decide) ?_
                                exact ih4934 x4948 x4949 (by have l0 : (1 : Int32).toInt = 1 := (by decide); have l1 : (100 : Int32).toInt = 100 := (by decide); have r0 := (mt i_le.mpr h4940); have r1 := n4939; have r2 := (i_b (v4938)); have r3 := (i_b (x4949)); have e1 : (v4938 + 1 : Int32).toInt = (v4938.toInt + 1) := i_addE rfl (by decide : (1 : Int32).toInt = 1) (by omega); have d2 : x4949.toInt = (v4938.toInt + 1) := (congrArg Int32.toInt ex4949).trans e1; omega) (by have l0 : (1 : Int32).toInt = 1 := (by decide); have l1 : (100 : Int32).toInt = 100 := (by decide); have r0 := (mt i_le.mpr h4940); have r1 := n4939; have r2 := hm4935; have r3 := (i_b (v4938)); have r4 := (i_b (x4949)); have e1 : (v4938 + 1 : Int32).toInt = (v4938.toInt + 1) := i_addE rfl (by decide : (1 : Int32).toInt = 1) (by omega); have d2 : x4949.toInt = (v4938.toInt + 1) := (congrArg Int32.toInt ex4949).trans e1; omega)
                        exact LP4936 _ 0 0 (by decide) (Nat.lt_succ_self _)
                  exact LP4927 _ x4923 0 0 (by decide) (Nat.lt_succ_self _)
                · refine g_bipush (pc1 := 132) (v := (-2)) d_Mod_taste_130 rfl (by decide) ?_
                  refine g_ireturn (Or.inl rfl) d_Mod_taste_132 rfl ?_
                  exact hQ _ _ _ k4919
              · refine g_aload_n (pc1 := 61) d_Mod_taste_60 rfl 0 rfl ?_
                refine g_iload_n (pc1 := 62) d_Mod_taste_61 rfl 3 rfl ?_
                refine g_iload_n (pc1 := 63) d_Mod_taste_62 rfl 1 rfl ?_
                refine g_callV0 (pc1 := 66) (As := [.int v4916, .int p0]) (rest := []) d_Mod_taste_63 rfl mo_Mod_455 mi_Mod_isWay mv_Mod_isWay rfl sh_401 (by decide) (by decide) rfl rfl (Nat.le_of_ble_eq_true rfl) ?_
                refine t2_Mod_isWay hld (Inv.keep hI inv_MS1 k4919) _ _ (by have l0 : (13 : Int32).toInt = 13 := (by decide); have r0 := (mt i_le.mpr h4921); have r1 := n4920; have r2 := (hI.dishes (((M 401 18) : Int32).toNatClampNeg)); have r3 := (i_b (M 415 (M 401 18).toNatClampNeg)); have r4 := (i_b (v4916)); (try have e1 : (13 * (M 415 (M 401 18).toNatClampNeg) : Int32).toInt = (13 * ((M 415 (M 401 18).toNatClampNeg) : Int32).toInt) := i_mulE (by decide : (13 : Int32).toInt = 13) rfl (by omega)); omega) (by rw [(Kl.m (c := 401) (j := 64) k4919 rfl : M4917 401 64 = M 401 64)]; exact (by have l0 : (0 : Int32).toInt = 0 := (by decide); have r0 := (bp_t hbr4896 h4897); have r1 := hI.tolds; have r2 := (i_b (M 401 64)); have r3 := (i_b (p0)); omega)) (fun r4950 M4951 L4952 hbr4950 k4953 => ?_)
                refine g_if_ne (pc1 := 69) (tgt := 72) d_Mod_taste_66 (by decide) rfl (fun h4954 => ?_) (fun h4954 => ?_)
                · obtain ⟨x4955, ex4955⟩ : ∃ y : Int32, y = v4915 + 1 := ⟨_, rfl⟩
                  refine g_iinc (pc1 := 75) (v := x4955) (lv' := [(0, .ref 401), (1, .int p0), (2, .int x4955), (3, .int v4916)]) d_Mod_taste_72 rfl 2 rfl (by rw [ex4955]; rfl) (by decide) [1, 2, 0, 3] rfl ?_
                  refine g_iconst (pc1 := 76) (v := 0) d_Mod_taste_75 rfl (by decide) ?_
                  refine g_istore (pc1 := 78) (lv' := [(0, .ref 401), (1, .int p0), (2, .int x4955), (3, .int v4916), (4, .int 0)]) d_Mod_taste_76 rfl (by decide) [1, 2, 3, 4, 0] rfl ?_
                  have LP4959 : ∀ (f4956 : Nat) (v4960 : Int32) (M4961 : gM) (L4962 : gL), Kl MS1 M L M4961 L4962 → (0 ≤ v4960.toInt) → ((30 : Int32).toInt - v4960.toInt).toNat < f4956 → Wp l y_Mod_taste (0, 0, 447) 447 0 0 78 [(0, .ref 401), (1, .int p0), (2, .int x4955), (3, .int v4916), (4, .int v4960)] [] M4961 L4962 (rf ld) Q := by
                    intro f4956
                    induction f4956 with
                    | zero => intro v4960 M4961 L4962 _ _ hm4958; exact absurd hm4958 (Nat.not_lt_zero _)
                    | succ f4956 ih4957 =>
                      intro v4960 M4961 L4962 k4963 n4964 hm4958
                      refine g_iload (pc1 := 80) d_Mod_taste_78 rfl 4 rfl ?_
                      refine g_bipush (pc1 := 82) (v := 30) d_Mod_taste_80 rfl (by decide) ?_
                      refine g_icmp_ge (pc1 := 85) (tgt := 120) d_Mod_taste_82 (by decide) rfl (fun h4965 => ?_) (fun h4965 => ?_)
                      · obtain ⟨x4966, ex4966⟩ : ∃ y : Int32, y = v4916 + 1 := ⟨_, rfl⟩
                        refine g_iinc (pc1 := 123) (v := x4966) (lv' := [(0, .ref 401), (1, .int p0), (2, .int x4955), (3, .int x4966), (4, .int v4960)]) d_Mod_taste_120 rfl 3 rfl (by rw [ex4966]; rfl) (by decide) [1, 2, 3, 0, 4] rfl ?_
                        refine g_goto (tgt := 44) d_Mod_taste_123 (by decide) ?_
                        refine Wp.loc (lv' := [(0, .ref 401), (1, .int p0), (2, .int x4955), (3, .int x4966)]) [0, 1, 2, 3] rfl ?_
                        exact ih4912 x4955 x4966 M4961 L4962 k4963 (by have l0 : (1 : Int32).toInt = 1 := (by decide); have l1 : (13 : Int32).toInt = 13 := (by decide); have r0 := (mt i_le.mpr h4921); have r1 := n4920; have r2 := (hI.dishes (((M 401 18) : Int32).toNatClampNeg)); have r3 := (i_b (M 415 (M 401 18).toNatClampNeg)); have r4 := (i_b (v4916)); have r5 := (i_b (x4966)); (try have e1 : (13 * (M 415 (M 401 18).toNatClampNeg) : Int32).toInt = (13 * ((M 415 (M 401 18).toNatClampNeg) : Int32).toInt) := i_mulE (by decide : (13 : Int32).toInt = 13) rfl (by omega)); have e2 : (v4916 + 1 : Int32).toInt = (v4916.toInt + 1) := i_addE rfl (by decide : (1 : Int32).toInt = 1) (by omega); have d3 : x4966.toInt = (v4916.toInt + 1) := (congrArg Int32.toInt ex4966).trans e2; omega) (by have l0 : (1 : Int32).toInt = 1 := (by decide); have l1 : (13 : Int32).toInt = 13 := (by decide); have r0 := (mt i_le.mpr h4921); have r1 := n4920; have r2 := hm4913; have r3 := (hI.dishes (((M 401 18) : Int32).toNatClampNeg)); have r4 := (i_b (M 415 (M 401 18).toNatClampNeg)); have r5 := (i_b (v4916)); have r6 := (i_b (x4966)); (try have e1 : (13 * (M 415 (M 401 18).toNatClampNeg) : Int32).toInt = (13 * ((M 415 (M 401 18).toNatClampNeg) : Int32).toInt) := i_mulE (by decide : (13 : Int32).toInt = 13) rfl (by omega)); have e2 : (v4916 + 1 : Int32).toInt = (v4916.toInt + 1) := i_addE rfl (by decide : (1 : Int32).toInt = 1) (by omega); have d3 : x4966.toInt = (v4916.toInt + 1) := (congrArg Int32.toInt ex4966).trans e2; omega)
                      · refine g_aload_n (pc1 := 86) d_Mod_taste_85 rfl 0 rfl ?_
                        refine g_getr (pc1 := 89) d_Mod_taste_86 rfl ⟨_, fo_Mod_146⟩ sh_401 (by decide) (rf_401_68 ld) ?_
                        refine g_bipush (pc1 := 91) (v := 100) d_Mod_taste_89 rfl (by decide) ?_
                        refine g_iload (pc1 := 93) d_Mod_taste_91 rfl 4 rfl ?_
                        refine g_imul (pc1 := 94) d_Mod_taste_93 rfl ?_
                        refine g_aload_n (pc1 := 95) d_Mod_taste_94 rfl 0 rfl ?_
                        refine g_iload (pc1 := 97) d_Mod_taste_95 rfl 4 rfl ?_
                        refine g_bipush (pc1 := 99) (v := 10) d_Mod_taste_97 rfl (by decide) ?_
                        refine g_idiv (pc1 := 100) d_Mod_taste_99 rfl (by decide) ?_
                        refine g_iload (pc1 := 102) d_Mod_taste_100 rfl 4 rfl ?_
                        refine g_bipush (pc1 := 104) (v := 10) d_Mod_taste_102 rfl (by decide) ?_
                        refine g_irem (pc1 := 105) d_Mod_taste_104 rfl (by decide) ?_
                        refine g_callV0 (pc1 := 108) (As := [.int (v4960 / 10), .int (v4960 - v4960 / 10 * 10)]) (rest := [.int (100 * v4960), .ref 444]) d_Mod_taste_105 rfl mo_Mod_359 mi_Mod_forceBy mv_Mod_forceBy rfl sh_401 (by decide) (by decide) rfl rfl (Nat.le_of_ble_eq_true rfl) ?_
                        refine t2_Mod_forceBy hld (Inv.keep hI inv_MS1 k4963) _ _ (by have l0 : (10 : Int32).toInt = 10 := (by decide); have l1 : (30 : Int32).toInt = 30 := (by decide); have r0 := (mt i_le.mpr h4965); have r1 := n4964; have r2 := (i_b (v4960)); have e1 : (v4960 / 10 : Int32).toInt = (v4960.toInt / 10) := i_divE rfl (by decide : (10 : Int32).toInt = 10) (by omega) (by omega); omega) (fun r4967 M4968 L4969 hbr4967 k4970 => ?_)
                        refine g_iadd (pc1 := 109) d_Mod_taste_108 rfl ?_
                        refine g_dup2 (pc1 := 110) d_Mod_taste_109 rfl rfl rfl ?_
                        refine g_iald (pc1 := 111) d_Mod_taste_110 rfl sh_444 (by decide) (by have l0 : (10 : Int32).toInt = 10 := (by decide); have l1 : (100 : Int32).toInt = 100 := (by decide); have l2 : (30 : Int32).toInt = 30 := (by decide); have r0 := (mt i_le.mpr h4965); have r1 := n4964; have r2 := hbr4967; have r3 := (i_b (r4967)); have r4 := (i_b (v4960)); (try have e1 : (v4960 / 10 : Int32).toInt = (v4960.toInt / 10) := i_divE rfl (by decide : (10 : Int32).toInt = 10) (by omega) (by omega)); (try have e2 : (v4960 - v4960 / 10 * 10 : Int32).toInt = (v4960.toInt % 10) := i_remE rfl (by decide : (10 : Int32).toInt = 10) (by omega) (by omega)); have e3 : (100 * v4960 : Int32).toInt = (100 * v4960.toInt) := i_mulE (by decide : (100 : Int32).toInt = 100) rfl (by omega); have e4 : ((100 * v4960) + r4967 : Int32).toInt = ((100 * v4960.toInt) + r4967.toInt) := i_addE e3 rfl (by omega); exact vin_i (by omega) (by omega)) ?_
                        refine Wp.vali (y := (M4961 444 (((100 * v4960) + r4967) : Int32).toNatClampNeg)) (Kl.m k4970 rfl) ?_
                        refine g_iconst (pc1 := 112) (v := 1) d_Mod_taste_111 rfl (by decide) ?_
                        refine g_iadd (pc1 := 113) d_Mod_taste_112 rfl ?_
                        refine g_iast (pc1 := 114) d_Mod_taste_113 rfl sh_444 (by decide) (by have l0 : (10 : Int32).toInt = 10 := (by decide); have l1 : (100 : Int32).toInt = 100 := (by decide); have l2 : (30 : Int32).toInt = 30 := (by decide); have r0 := (mt i_le.mpr h4965); have r1 := n4964; have r2 := hbr4967; have r3 := (i_b (r4967)); have r4 := (i_b (v4960)); (try have e1 : (v4960 / 10 : Int32).toInt = (v4960.toInt / 10) := i_divE rfl (by decide : (10 : Int32).toInt = 10) (by omega) (by omega)); (try have e2 : (v4960 - v4960 / 10 * 10 : Int32).toInt = (v4960.toInt % 10) := i_remE rfl (by decide : (10 : Int32).toInt = 10) (by omega) (by omega)); have e3 : (100 * v4960 : Int32).toInt = (100 * v4960.toInt) := i_mulE (by decide : (100 : Int32).toInt = 100) rfl (by omega); have e4 : ((100 * v4960) + r4967 : Int32).toInt = ((100 * v4960.toInt) + r4967.toInt) := i_addE e3 rfl (by omega); exact vin_i (by omega) (by omega)) ?_
                        refine Wp.topM (fun M4971 eM4971 => ?_)
                        obtain ⟨x4972, ex4972⟩ : ∃ y : Int32, y = v4960 + 1 := ⟨_, rfl⟩
                        refine g_iinc (pc1 := 117) (v := x4972) (lv' := [(0, .ref 401), (1, .int p0), (2, .int x4955), (3, .int v4916), (4, .int x4972)]) d_Mod_taste_114 rfl 4 rfl (by rw [ex4972]; rfl) (by decide) [1, 2, 3, 4, 0] rfl ?_
                        refine g_goto (tgt := 78) d_Mod_taste_117 (by decide) ?_
                        exact ih4957 x4972 M4971 L4969 (Kl.wM (Kl.trans k4963 (Kl.mono k4970 MS0_MS1)) rfl eM4971) (by have l0 : (1 : Int32).toInt = 1 := (by decide); have l1 : (10 : Int32).toInt = 10 := (by decide); have l2 : (30 : Int32).toInt = 30 := (by decide); have r0 := (mt i_le.mpr h4965); have r1 := n4964; have r2 := hbr4967; have r3 := (i_b (r4967)); have r4 := (i_b (v4960)); have r5 := (i_b (x4972)); (try have e1 : (v4960 / 10 : Int32).toInt = (v4960.toInt / 10) := i_divE rfl (by decide : (10 : Int32).toInt = 10) (by omega) (by omega)); (try have e2 : (v4960 - v4960 / 10 * 10 : Int32).toInt = (v4960.toInt % 10) := i_remE rfl (by decide : (10 : Int32).toInt = 10) (by omega) (by omega)); have e3 : (v4960 + 1 : Int32).toInt = (v4960.toInt + 1) := i_addE rfl (by decide : (1 : Int32).toInt = 1) (by omega); have d4 : x4972.toInt = (v4960.toInt + 1) := (congrArg Int32.toInt ex4972).trans e3; omega) (by have l0 : (1 : Int32).toInt = 1 := (by decide); have l1 : (10 : Int32).toInt = 10 := (by decide); have l2 : (30 : Int32).toInt = 30 := (by decide); have r0 := (mt i_le.mpr h4965); have r1 := n4964; have r2 := hbr4967; have r3 := hm4958; have r4 := (i_b (r4967)); have r5 := (i_b (v4960)); have r6 := (i_b (x4972)); (try have e1 : (v4960 / 10 : Int32).toInt = (v4960.toInt / 10) := i_divE rfl (by decide : (10 : Int32).toInt = 10) (by omega) (by omega)); (try have e2 : (v4960 - v4960 / 10 * 10 : Int32).toInt = (v4960.toInt % 10) := i_remE rfl (by decide : (10 : Int32).toInt = 10) (by omega) (by omega)); have e3 : (v4960 + 1 : Int32).toInt = (v4960.toInt + 1) := i_addE rfl (by decide : (1 : Int32).toInt = 1) (by omega); have d4 : x4972.toInt = (v4960.toInt + 1) := (congrArg Int32.toInt ex4972).trans e3; omega)
                  exact LP4959 _ 0 M4951 L4952 (Kl.trans k4919 k4953) (by decide) (Nat.lt_succ_self _)
                · refine g_goto (tgt := 120) d_Mod_taste_69 (by decide) ?_
                  obtain ⟨x4973, ex4973⟩ : ∃ y : Int32, y = v4916 + 1 := ⟨_, rfl⟩
                  refine g_iinc (pc1 := 123) (v := x4973) (lv' := [(0, .ref 401), (1, .int p0), (2, .int v4915), (3, .int x4973)]) d_Mod_taste_120 rfl 3 rfl (by rw [ex4973]; rfl) (by decide) [1, 2, 3, 0] rfl ?_
                  refine g_goto (tgt := 44) d_Mod_taste_123 (by decide) ?_
                  exact ih4912 v4915 x4973 M4951 L4952 (Kl.trans k4919 k4953) (by have l0 : (1 : Int32).toInt = 1 := (by decide); have l1 : (13 : Int32).toInt = 13 := (by decide); have r0 := (mt i_le.mpr h4921); have r1 := n4920; have r2 := (hI.dishes (((M 401 18) : Int32).toNatClampNeg)); have r3 := (i_b (M 415 (M 401 18).toNatClampNeg)); have r4 := (i_b (v4916)); have r5 := (i_b (x4973)); (try have e1 : (13 * (M 415 (M 401 18).toNatClampNeg) : Int32).toInt = (13 * ((M 415 (M 401 18).toNatClampNeg) : Int32).toInt) := i_mulE (by decide : (13 : Int32).toInt = 13) rfl (by omega)); have e2 : (v4916 + 1 : Int32).toInt = (v4916.toInt + 1) := i_addE rfl (by decide : (1 : Int32).toInt = 1) (by omega); have d3 : x4973.toInt = (v4916.toInt + 1) := (congrArg Int32.toInt ex4973).trans e2; omega) (by have l0 : (1 : Int32).toInt = 1 := (by decide); have l1 : (13 : Int32).toInt = 13 := (by decide); have r0 := (mt i_le.mpr h4921); have r1 := n4920; have r2 := hm4913; have r3 := (hI.dishes (((M 401 18) : Int32).toNatClampNeg)); have r4 := (i_b (M 415 (M 401 18).toNatClampNeg)); have r5 := (i_b (v4916)); have r6 := (i_b (x4973)); (try have e1 : (13 * (M 415 (M 401 18).toNatClampNeg) : Int32).toInt = (13 * ((M 415 (M 401 18).toNatClampNeg) : Int32).toInt) := i_mulE (by decide : (13 : Int32).toInt = 13) rfl (by omega)); have e2 : (v4916 + 1 : Int32).toInt = (v4916.toInt + 1) := i_addE rfl (by decide : (1 : Int32).toInt = 1) (by omega); have d3 : x4973.toInt = (v4916.toInt + 1) := (congrArg Int32.toInt ex4973).trans e2; omega)
          exact LP4914 _ 0 0 M4906 L4907 k4908 (by decide) (Nat.lt_succ_self _)
        · refine g_aload_n (pc1 := 28) d_Mod_taste_27 rfl 0 rfl ?_
          refine g_getr (pc1 := 31) d_Mod_taste_28 rfl ⟨_, fo_Mod_146⟩ sh_401 (by decide) (rf_401_68 ld) ?_
          refine g_iload_n (pc1 := 32) d_Mod_taste_31 rfl 2 rfl ?_
          refine g_iconst (pc1 := 33) (v := 0) d_Mod_taste_32 rfl (by decide) ?_
          refine g_iast (pc1 := 34) d_Mod_taste_33 rfl sh_444 (by decide) (by have l0 : (3000 : Int32).toInt = 3000 := (by decide); have r0 := (mt i_le.mpr h4910); have r1 := n4909; have r2 := (i_b (v4905)); exact vin_i (by omega) (by omega)) ?_
          refine Wp.topM (fun M4974 eM4974 => ?_)
          obtain ⟨x4975, ex4975⟩ : ∃ y : Int32, y = v4905 + 1 := ⟨_, rfl⟩
          refine g_iinc (pc1 := 37) (v := x4975) (lv' := [(0, .ref 401), (1, .int p0), (2, .int x4975)]) d_Mod_taste_34 rfl 2 rfl (by rw [ex4975]; rfl) (by decide) [1, 2, 0] rfl ?_
          refine g_goto (tgt := 20) d_Mod_taste_37 (by decide) ?_
          exact ih4902 x4975 M4974 L4907 (Kl.wM k4908 rfl eM4974) (by have l0 : (1 : Int32).toInt = 1 := (by decide); have l1 : (3000 : Int32).toInt = 3000 := (by decide); have r0 := (mt i_le.mpr h4910); have r1 := n4909; have r2 := (i_b (v4905)); have r3 := (i_b (x4975)); have e1 : (v4905 + 1 : Int32).toInt = (v4905.toInt + 1) := i_addE rfl (by decide : (1 : Int32).toInt = 1) (by omega); have d2 : x4975.toInt = (v4905.toInt + 1) := (congrArg Int32.toInt ex4975).trans e1; omega) (by have l0 : (1 : Int32).toInt = 1 := (by decide); have l1 : (3000 : Int32).toInt = 3000 := (by decide); have r0 := (mt i_le.mpr h4910); have r1 := n4909; have r2 := hm4903; have r3 := (i_b (v4905)); have r4 := (i_b (x4975)); have e1 : (v4905 + 1 : Int32).toInt = (v4905.toInt + 1) := i_addE rfl (by decide : (1 : Int32).toInt = 1) (by omega); have d2 : x4975.toInt = (v4905.toInt + 1) := (congrArg Int32.toInt ex4975).trans e1; omega)
    exact LP4904 _ 0 M4898 L4899 (Kl.trans Kl.rf k4900) (by decide) (Nat.lt_succ_self _)
  · refine g_iconst (pc1 := 13) (v := (-1)) d_Mod_taste_12 rfl (by decide) ?_
    refine g_ireturn (Or.inl rfl) d_Mod_taste_13 rfl ?_
    exact hQ _ _ _ Kl.rf
set_option maxHeartbeats 4000000 in
set_option maxRecDepth 20000 in
theorem t2_Mod_freestOf {l : Launch} {ld : Nat} (hld : isLa ld) {M : gM} {L : gL} {Q : Option Value → gM → gL → gR → Prop} (hI : Inv M) (p0 : Int32) (h0 : 0 ≤ (p0 : Int32).toInt ∧ (p0 : Int32).toInt ≤ 3) (hQ : ∀ (r : Int32) (M' : gM) (L' : gL), Kl MS1 M L M' L' → Q (some (.int r)) M' L' (rf ld)) : Tm l y_Mod_freestOf (0, 0, 447) 447 [.ref 401, .int p0] M L (rf ld) Q := by
  refine Tm.of (by decide) (Nat.le_of_ble_eq_true rfl) ?_
  show Wp l y_Mod_freestOf (0, 0, 447) 447 0 0 0 [(0, .ref 401), (1, .int p0)] [] M L (rf ld) Q
  refine g_bipush (pc1 := 2) (v := (-2)) d_Mod_freestOf_0 rfl (by decide) ?_
  refine Wp.topi (fun x4976 ex4976 => ?_)
  refine g_istore_n (pc1 := 3) (lv' := [(0, .ref 401), (1, .int p0), (2, .int x4976)]) d_Mod_freestOf_2 rfl rfl (by decide) [1, 2, 0] rfl ?_
  refine g_aload_n (pc1 := 4) d_Mod_freestOf_3 rfl 0 rfl ?_
  refine g_iconst (pc1 := 5) (v := (-1)) d_Mod_freestOf_4 rfl (by decide) ?_
  refine g_puti (pc1 := 8) d_Mod_freestOf_5 rfl fo_Mod_428 (po_12_63 _) sh_401 (by decide) ?_
  refine Wp.topM (fun M4977 eM4977 => ?_)
  refine g_iconst (pc1 := 9) (v := 0) d_Mod_freestOf_8 rfl (by decide) ?_
  refine g_istore_n (pc1 := 10) (lv' := [(0, .ref 401), (1, .int p0), (2, .int x4976), (3, .int 0)]) d_Mod_freestOf_9 rfl rfl (by decide) [1, 2, 3, 0] rfl ?_
  have LP4981 : ∀ (f4978 : Nat) (v4982 : Int32) (v4983 : Int32) (M4984 : gM) (L4985 : gL), Kl MS1 M L M4984 L4985 → (0 ≤ v4983.toInt) → (((M 415 ((M 401 18) : Int32).toNatClampNeg) : Int32).toInt - v4983.toInt).toNat < f4978 → Wp l y_Mod_freestOf (0, 0, 447) 447 0 0 10 [(0, .ref 401), (1, .int p0), (2, .int v4982), (3, .int v4983)] [] M4984 L4985 (rf ld) Q := by
    intro f4978
    induction f4978 with
    | zero => intro v4982 v4983 M4984 L4985 _ _ hm4980; exact absurd hm4980 (Nat.not_lt_zero _)
    | succ f4978 ih4979 =>
      intro v4982 v4983 M4984 L4985 k4986 n4987 hm4980
      refine g_iload_n (pc1 := 11) d_Mod_freestOf_10 rfl 3 rfl ?_
      refine g_aload_n (pc1 := 12) d_Mod_freestOf_11 rfl 0 rfl ?_
      refine g_getr (pc1 := 15) d_Mod_freestOf_12 rfl ⟨_, fo_Mod_58⟩ sh_401 (by decide) (rf_401_27 ld) ?_
      refine g_aload_n (pc1 := 16) d_Mod_freestOf_15 rfl 0 rfl ?_
      refine g_geti (pc1 := 19) d_Mod_freestOf_16 rfl ⟨_, fo_Mod_236⟩ sh_401 (by decide) ?_
      refine Wp.vali (y := (M 401 18)) (Kl.m k4986 rfl) ?_
      refine g_iald (pc1 := 20) d_Mod_freestOf_19 rfl sh_415 (by decide) (by have r0 := hI.live; have r1 := (i_b (M 401 18)); exact vin_i (by omega) (by omega)) ?_
      refine Wp.vali (y := (M 415 ((M 401 18) : Int32).toNatClampNeg)) (Kl.m k4986 rfl) ?_
      refine g_icmp_ge (pc1 := 23) (tgt := 69) d_Mod_freestOf_20 (by decide) rfl (fun h4988 => ?_) (fun h4988 => ?_)
      · refine g_iload_n (pc1 := 70) d_Mod_freestOf_69 rfl 2 rfl ?_
        refine g_ireturn (Or.inl rfl) d_Mod_freestOf_70 rfl ?_
        exact hQ _ _ _ k4986
      · refine g_aload_n (pc1 := 24) d_Mod_freestOf_23 rfl 0 rfl ?_
        refine g_callV0 (pc1 := 27) (As := []) (rest := []) d_Mod_freestOf_24 rfl mo_Mod_377 mi_Mod_copies mv_Mod_copies rfl sh_401 (by decide) (by decide) rfl rfl (Nat.le_of_ble_eq_true rfl) ?_
        refine t2_Mod_copies hld (Inv.keep hI inv_MS1 k4986)   (fun  M4989 L4990 k4991 => ?_)
        refine g_aload_n (pc1 := 28) d_Mod_freestOf_27 rfl 0 rfl ?_
        refine g_iload_n (pc1 := 29) d_Mod_freestOf_28 rfl 1 rfl ?_
        refine g_iload_n (pc1 := 30) d_Mod_freestOf_29 rfl 3 rfl ?_
        refine g_callV0 (pc1 := 33) (As := [.int p0, .int v4983]) (rest := []) d_Mod_freestOf_30 rfl mo_Mod_431 mi_Mod_eatsDish mv_Mod_eatsDish rfl sh_401 (by decide) (by decide) rfl rfl (Nat.le_of_ble_eq_true rfl) ?_
        refine t2_Mod_eatsDish hld (Inv.keep hI inv_MS1 (Kl.trans k4986 k4991)) _ _ (by have r0 := h0; have r1 := (i_b (p0)); omega) (by have r0 := (mt i_le.mpr h4988); have r1 := n4987; have r2 := (hI.dishes (((M 401 18) : Int32).toNatClampNeg)); have r3 := (i_b (M 415 (M 401 18).toNatClampNeg)); have r4 := (i_b (v4983)); omega) (fun  M4992 L4993 k4994 => ?_)
        refine g_aload_n (pc1 := 34) d_Mod_freestOf_33 rfl 0 rfl ?_
        refine g_iload_n (pc1 := 35) d_Mod_freestOf_34 rfl 1 rfl ?_
        refine g_callV0 (pc1 := 38) (As := [.int p0]) (rest := []) d_Mod_freestOf_35 rfl mo_Mod_395 mi_Mod_freeBits mv_Mod_freeBits rfl sh_401 (by decide) (by decide) rfl rfl (Nat.le_of_ble_eq_true rfl) ?_
        refine t2_Mod_freeBits hld (Inv.keep hI inv_MS1 (Kl.trans (Kl.trans k4986 k4991) k4994)) _ (by have r0 := h0; have r1 := (i_b (p0)); omega) (fun r4995 M4996 L4997 k4998 => ?_)
        refine g_callS0 (pc1 := 41) (As := [.int r4995]) (rest := []) d_Mod_freestOf_38 rfl mo_Mod_434 ms_Mod_bits (by decide) rfl rfl (Nat.le_of_ble_eq_true rfl) ?_
        refine t2_Mod_bits hld _  (fun r4999 => ?_)
        refine g_istore (pc1 := 43) (lv' := [(0, .ref 401), (1, .int p0), (2, .int v4982), (3, .int v4983), (4, .int r4999)]) d_Mod_freestOf_41 rfl (by decide) [1, 2, 3, 4, 0] rfl ?_
        refine g_iload (pc1 := 45) d_Mod_freestOf_43 rfl 4 rfl ?_
        refine g_aload_n (pc1 := 46) d_Mod_freestOf_45 rfl 0 rfl ?_
        refine g_geti (pc1 := 49) d_Mod_freestOf_46 rfl ⟨_, fo_Mod_428⟩ sh_401 (by decide) ?_
        refine Wp.vali (y := (M4992 401 63)) (Kl.m k4998 rfl) ?_
        refine g_icmp_gt (pc1 := 52) (tgt := 55) d_Mod_freestOf_49 (by decide) rfl (fun h5000 => ?_) (fun h5000 => ?_)
        · refine g_iload_n (pc1 := 56) d_Mod_freestOf_55 rfl 3 rfl ?_
          refine g_istore_n (pc1 := 57) (lv' := [(0, .ref 401), (1, .int p0), (2, .int v4983), (3, .int v4983), (4, .int r4999)]) d_Mod_freestOf_56 rfl rfl (by decide) [1, 2, 0, 3, 4] rfl ?_
          refine g_aload_n (pc1 := 58) d_Mod_freestOf_57 rfl 0 rfl ?_
          refine g_iload (pc1 := 60) d_Mod_freestOf_58 rfl 4 rfl ?_
          refine g_puti (pc1 := 63) d_Mod_freestOf_60 rfl fo_Mod_428 (po_12_63 _) sh_401 (by decide) ?_
          refine Wp.topM (fun M5001 eM5001 => ?_)
          obtain ⟨x5002, ex5002⟩ : ∃ y : Int32, y = v4983 + 1 := ⟨_, rfl⟩
          refine g_iinc (pc1 := 66) (v := x5002) (lv' := [(0, .ref 401), (1, .int p0), (2, .int v4983), (3, .int x5002), (4, .int r4999)]) d_Mod_freestOf_63 rfl 3 rfl (by rw [ex5002]; rfl) (by decide) [1, 2, 3, 0, 4] rfl ?_
          refine g_goto (tgt := 10) d_Mod_freestOf_66 (by decide) ?_
          refine Wp.loc (lv' := [(0, .ref 401), (1, .int p0), (2, .int v4983), (3, .int x5002)]) [0, 1, 2, 3] rfl ?_
          exact ih4979 v4983 x5002 M5001 L4997 (Kl.wM (Kl.trans (Kl.trans (Kl.trans k4986 k4991) k4994) (Kl.mono k4998 MS0_MS1)) rfl eM5001) (by have l0 : (1 : Int32).toInt = 1 := (by decide); have r0 := (mt i_le.mpr h4988); have r1 := n4987; have r2 := (hI.dishes (((M 401 18) : Int32).toNatClampNeg)); have r3 := (i_b (M 415 (M 401 18).toNatClampNeg)); have r4 := (i_b (v4983)); have r5 := (i_b (x5002)); have e1 : (v4983 + 1 : Int32).toInt = (v4983.toInt + 1) := i_addE rfl (by decide : (1 : Int32).toInt = 1) (by omega); have d2 : x5002.toInt = (v4983.toInt + 1) := (congrArg Int32.toInt ex5002).trans e1; omega) (by have l0 : (1 : Int32).toInt = 1 := (by decide); have r0 := (mt i_le.mpr h4988); have r1 := n4987; have r2 := hm4980; have r3 := (hI.dishes (((M 401 18) : Int32).toNatClampNeg)); have r4 := (i_b (M 415 (M 401 18).toNatClampNeg)); have r5 := (i_b (v4983)); have r6 := (i_b (x5002)); have e1 : (v4983 + 1 : Int32).toInt = (v4983.toInt + 1) := i_addE rfl (by decide : (1 : Int32).toInt = 1) (by omega); have d2 : x5002.toInt = (v4983.toInt + 1) := (congrArg Int32.toInt ex5002).trans e1; omega)
        · refine g_goto (tgt := 63) d_Mod_freestOf_52 (by decide) ?_
          obtain ⟨x5003, ex5003⟩ : ∃ y : Int32, y = v4983 + 1 := ⟨_, rfl⟩
          refine g_iinc (pc1 := 66) (v := x5003) (lv' := [(0, .ref 401), (1, .int p0), (2, .int v4982), (3, .int x5003), (4, .int r4999)]) d_Mod_freestOf_63 rfl 3 rfl (by rw [ex5003]; rfl) (by decide) [1, 2, 3, 0, 4] rfl ?_
          refine g_goto (tgt := 10) d_Mod_freestOf_66 (by decide) ?_
          refine Wp.loc (lv' := [(0, .ref 401), (1, .int p0), (2, .int v4982), (3, .int x5003)]) [0, 1, 2, 3] rfl ?_
          exact ih4979 v4982 x5003 M4996 L4997 (Kl.trans (Kl.trans (Kl.trans k4986 k4991) k4994) (Kl.mono k4998 MS0_MS1)) (by have l0 : (1 : Int32).toInt = 1 := (by decide); have r0 := (mt i_le.mpr h4988); have r1 := n4987; have r2 := (hI.dishes (((M 401 18) : Int32).toNatClampNeg)); have r3 := (i_b (M 415 (M 401 18).toNatClampNeg)); have r4 := (i_b (v4983)); have r5 := (i_b (x5003)); have e1 : (v4983 + 1 : Int32).toInt = (v4983.toInt + 1) := i_addE rfl (by decide : (1 : Int32).toInt = 1) (by omega); have d2 : x5003.toInt = (v4983.toInt + 1) := (congrArg Int32.toInt ex5003).trans e1; omega) (by have l0 : (1 : Int32).toInt = 1 := (by decide); have r0 := (mt i_le.mpr h4988); have r1 := n4987; have r2 := hm4980; have r3 := (hI.dishes (((M 401 18) : Int32).toNatClampNeg)); have r4 := (i_b (M 415 (M 401 18).toNatClampNeg)); have r5 := (i_b (v4983)); have r6 := (i_b (x5003)); have e1 : (v4983 + 1 : Int32).toInt = (v4983.toInt + 1) := i_addE rfl (by decide : (1 : Int32).toInt = 1) (by omega); have d2 : x5003.toInt = (v4983.toInt + 1) := (congrArg Int32.toInt ex5003).trans e1; omega)
  exact LP4981 _ x4976 0 M4977 L (Kl.wM Kl.rf rfl eM4977) (by decide) (Nat.lt_succ_self _)
set_option maxHeartbeats 4000000 in
set_option maxRecDepth 20000 in
theorem t2_Mod_mealsBy {l : Launch} {ld : Nat} (hld : isLa ld) {M : gM} {L : gL} {Q : Option Value → gM → gL → gR → Prop} (hI : Inv M) (p0 : Int32) (p1 : Int32) (p2 : Int32) (p3 : Int32) (h0 : 0 ≤ (p0 : Int32).toInt ∧ (p0 : Int32).toInt ≤ 1295) (h1 : 0 ≤ (p1 : Int32).toInt ∧ (p1 : Int32).toInt ≤ 3) (h2 : 1 ≤ (p2 : Int32).toInt ∧ (p2 : Int32).toInt ≤ 4) (hQ : ∀ (r : Int32) (M' : gM) (L' : gL), Kl MS1 M L M' L' → Q (some (.int r)) M' L' (rf ld)) : Tm l y_Mod_mealsBy (0, 0, 447) 447 [.ref 401, .int p0, .int p1, .int p2, .int p3] M L (rf ld) Q := by
  refine Tm.of (by decide) (Nat.le_of_ble_eq_true rfl) ?_
  show Wp l y_Mod_mealsBy (0, 0, 447) 447 0 0 0 [(0, .ref 401), (1, .int p0), (2, .int p1), (3, .int p2), (4, .int p3)] [] M L (rf ld) Q
  refine g_aload_n (pc1 := 1) d_Mod_mealsBy_0 rfl 0 rfl ?_
  refine g_callV0 (pc1 := 4) (As := []) (rest := []) d_Mod_mealsBy_1 rfl mo_Mod_377 mi_Mod_copies mv_Mod_copies rfl sh_401 (by decide) (by decide) rfl rfl (Nat.le_of_ble_eq_true rfl) ?_
  refine t2_Mod_copies hld hI   (fun  M5004 L5005 k5006 => ?_)
  refine g_iconst (pc1 := 5) (v := 0) d_Mod_mealsBy_4 rfl (by decide) ?_
  refine g_istore (pc1 := 7) (lv' := [(0, .ref 401), (1, .int p0), (2, .int p1), (3, .int p2), (4, .int p3), (5, .int 0)]) d_Mod_mealsBy_5 rfl (by decide) [1, 2, 3, 4, 5, 0] rfl ?_
  refine g_iconst (pc1 := 8) (v := 0) d_Mod_mealsBy_7 rfl (by decide) ?_
  refine g_istore (pc1 := 10) (lv' := [(0, .ref 401), (1, .int p0), (2, .int p1), (3, .int p2), (4, .int p3), (5, .int 0), (6, .int 0)]) d_Mod_mealsBy_8 rfl (by decide) [1, 2, 3, 4, 5, 6, 0] rfl ?_
  have LP5010 : ∀ (f5007 : Nat) (v5011 : Int32) (v5012 : Int32) (M5013 : gM) (L5014 : gL), Kl MS1 M L M5013 L5014 → (0 ≤ v5012.toInt) → (p2.toInt - v5012.toInt).toNat < f5007 → Wp l y_Mod_mealsBy (0, 0, 447) 447 0 0 10 [(0, .ref 401), (1, .int p0), (2, .int p1), (3, .int p2), (4, .int p3), (5, .int v5011), (6, .int v5012)] [] M5013 L5014 (rf ld) Q := by
    intro f5007
    induction f5007 with
    | zero => intro v5011 v5012 M5013 L5014 _ _ hm5009; exact absurd hm5009 (Nat.not_lt_zero _)
    | succ f5007 ih5008 =>
      intro v5011 v5012 M5013 L5014 k5015 n5016 hm5009
      refine g_iload (pc1 := 12) d_Mod_mealsBy_10 rfl 6 rfl ?_
      refine g_iload_n (pc1 := 13) d_Mod_mealsBy_12 rfl 3 rfl ?_
      refine g_icmp_ge (pc1 := 16) (tgt := 97) d_Mod_mealsBy_13 (by decide) rfl (fun h5017 => ?_) (fun h5017 => ?_)
      · refine g_iload (pc1 := 99) d_Mod_mealsBy_97 rfl 5 rfl ?_
        refine g_ireturn (Or.inl rfl) d_Mod_mealsBy_99 rfl ?_
        exact hQ _ _ _ k5015
      · refine g_iload_n (pc1 := 17) d_Mod_mealsBy_16 rfl 1 rfl ?_
        refine g_iload_n (pc1 := 18) d_Mod_mealsBy_17 rfl 3 rfl ?_
        refine g_iconst (pc1 := 19) (v := 1) d_Mod_mealsBy_18 rfl (by decide) ?_
        refine g_isub (pc1 := 20) d_Mod_mealsBy_19 rfl ?_
        refine g_iload (pc1 := 22) d_Mod_mealsBy_20 rfl 6 rfl ?_
        refine g_isub (pc1 := 23) d_Mod_mealsBy_22 rfl ?_
        refine g_callS0 (pc1 := 26) (As := [.int ((p2 - 1) - v5012)]) (rest := [.int p0]) d_Mod_mealsBy_23 rfl mo_Mod_440 ms_Mod_sixes (by decide) rfl rfl (Nat.le_of_ble_eq_true rfl) ?_
        refine t2_Mod_sixes hld _ (by have l0 : (1 : Int32).toInt = 1 := (by decide); have r0 := (mt i_le.mpr h5017); have r1 := h2; have r2 := n5016; have r3 := (i_b (p2)); have r4 := (i_b (v5012)); have e1 : (p2 - 1 : Int32).toInt = (p2.toInt - 1) := i_subE rfl (by decide : (1 : Int32).toInt = 1) (by omega); have e2 : ((p2 - 1) - v5012 : Int32).toInt = ((p2.toInt - 1) - v5012.toInt) := i_subE e1 rfl (by omega); omega) (fun r5018 hbr5018 => ?_)
        refine g_idiv (pc1 := 27) d_Mod_mealsBy_26 rfl (by have l0 : (1 : Int32).toInt = 1 := (by decide); have r0 := hbr5018; have r1 := (mt i_le.mpr h5017); have r2 := h2; have r3 := n5016; have r4 := (i_b (p2)); have r5 := (i_b (r5018)); have r6 := (i_b (v5012)); (try have e1 : (p2 - 1 : Int32).toInt = (p2.toInt - 1) := i_subE rfl (by decide : (1 : Int32).toInt = 1) (by omega)); (try have e2 : ((p2 - 1) - v5012 : Int32).toInt = ((p2.toInt - 1) - v5012.toInt) := i_subE e1 rfl (by omega)); intro q0; have q1 := congrArg Int32.toInt q0; have q2 : (0 : Int32).toInt = 0 := (by decide); omega) ?_
        refine g_bipush (pc1 := 29) (v := 6) d_Mod_mealsBy_27 rfl (by decide) ?_
        refine g_irem (pc1 := 30) d_Mod_mealsBy_29 rfl (by decide) ?_
        refine g_iconst (pc1 := 31) (v := 1) d_Mod_mealsBy_30 rfl (by decide) ?_
        refine g_isub (pc1 := 32) d_Mod_mealsBy_31 rfl ?_
        refine Wp.topi (fun x5019 ex5019 => ?_)
        refine g_istore (pc1 := 34) (lv' := [(0, .ref 401), (1, .int p0), (2, .int p1), (3, .int p2), (4, .int p3), (5, .int v5011), (6, .int v5012), (7, .int x5019)]) d_Mod_mealsBy_32 rfl (by decide) [1, 2, 3, 4, 5, 6, 7, 0] rfl ?_
        refine g_iload (pc1 := 36) d_Mod_mealsBy_34 rfl 7 rfl ?_
        refine g_aload_n (pc1 := 37) d_Mod_mealsBy_36 rfl 0 rfl ?_
        refine g_getr (pc1 := 40) d_Mod_mealsBy_37 rfl ⟨_, fo_Mod_58⟩ sh_401 (by decide) (rf_401_27 ld) ?_
        refine g_aload_n (pc1 := 41) d_Mod_mealsBy_40 rfl 0 rfl ?_
        refine g_geti (pc1 := 44) d_Mod_mealsBy_41 rfl ⟨_, fo_Mod_236⟩ sh_401 (by decide) ?_
        refine Wp.vali (y := (M 401 18)) (Kl.m k5015 rfl) ?_
        refine g_iald (pc1 := 45) d_Mod_mealsBy_44 rfl sh_415 (by decide) (by have r0 := hI.live; have r1 := (i_b (M 401 18)); exact vin_i (by omega) (by omega)) ?_
        refine Wp.vali (y := (M 415 ((M 401 18) : Int32).toNatClampNeg)) (Kl.m k5015 rfl) ?_
        refine g_icmp_lt (pc1 := 48) (tgt := 50) d_Mod_mealsBy_45 (by decide) rfl (fun h5020 => ?_) (fun h5020 => ?_)
        · refine g_iload (pc1 := 52) d_Mod_mealsBy_50 rfl 7 rfl ?_
          refine g_if_lt (pc1 := 55) (tgt := 65) d_Mod_mealsBy_52 (by decide) rfl (fun h5021 => ?_) (fun h5021 => ?_)
          · refine g_iload (pc1 := 67) d_Mod_mealsBy_65 rfl 4 rfl ?_
            refine g_aload_n (pc1 := 68) d_Mod_mealsBy_67 rfl 0 rfl ?_
            refine g_iload_n (pc1 := 69) d_Mod_mealsBy_68 rfl 2 rfl ?_
            refine g_callV0 (pc1 := 72) (As := [.int p1]) (rest := [.int p3]) d_Mod_mealsBy_69 rfl mo_Mod_395 mi_Mod_freeBits mv_Mod_freeBits rfl sh_401 (by decide) (by decide) rfl rfl (Nat.le_of_ble_eq_true rfl) ?_
            refine t2_Mod_freeBits hld (Inv.keep hI inv_MS1 k5015) _ (by have r0 := h1; have r1 := (i_b (p1)); omega) (fun r5022 M5023 L5024 k5025 => ?_)
            refine g_iconst (pc1 := 73) (v := (-1)) d_Mod_mealsBy_72 rfl (by decide) ?_
            refine g_ixor (pc1 := 74) d_Mod_mealsBy_73 rfl ?_
            refine g_iand (pc1 := 75) d_Mod_mealsBy_74 rfl ?_
            refine g_if_eq (pc1 := 78) (tgt := 80) d_Mod_mealsBy_75 (by decide) rfl (fun h5026 => ?_) (fun h5026 => ?_)
            · refine g_aload_n (pc1 := 81) d_Mod_mealsBy_80 rfl 0 rfl ?_
              refine g_getr (pc1 := 84) d_Mod_mealsBy_81 rfl ⟨_, fo_Mod_125⟩ sh_401 (by decide) (rf_401_53 ld) ?_
              refine g_bipush (pc1 := 86) (v := 35) d_Mod_mealsBy_84 rfl (by decide) ?_
              refine g_dup2 (pc1 := 87) d_Mod_mealsBy_86 rfl rfl rfl ?_
              refine g_iald (pc1 := 88) d_Mod_mealsBy_87 rfl sh_437 (by decide) (vin_lit (x := 35) (by decide)) ?_
              refine Wp.vali (y := (M5013 437 (35 : Int32).toNatClampNeg)) (Kl.m k5025 rfl) ?_
              refine g_iconst (pc1 := 89) (v := 1) d_Mod_mealsBy_88 rfl (by decide) ?_
              refine g_iadd (pc1 := 90) d_Mod_mealsBy_89 rfl ?_
              refine g_iast (pc1 := 91) d_Mod_mealsBy_90 rfl sh_437 (by decide) (vin_lit (x := 35) (by decide)) ?_
              refine Wp.topM (fun M5027 eM5027 => ?_)
              obtain ⟨x5028, ex5028⟩ : ∃ y : Int32, y = v5012 + 1 := ⟨_, rfl⟩
              refine g_iinc (pc1 := 94) (v := x5028) (lv' := [(0, .ref 401), (1, .int p0), (2, .int p1), (3, .int p2), (4, .int p3), (5, .int v5011), (6, .int x5028), (7, .int x5019)]) d_Mod_mealsBy_91 rfl 6 rfl (by rw [ex5028]; rfl) (by decide) [1, 2, 3, 4, 5, 6, 0, 7] rfl ?_
              refine g_goto (tgt := 10) d_Mod_mealsBy_94 (by decide) ?_
              refine Wp.loc (lv' := [(0, .ref 401), (1, .int p0), (2, .int p1), (3, .int p2), (4, .int p3), (5, .int v5011), (6, .int x5028)]) [0, 1, 2, 3, 4, 5, 6] rfl ?_
              exact ih5008 v5011 x5028 M5027 L5024 (Kl.wM (Kl.trans k5015 (Kl.mono k5025 MS0_MS1)) rfl eM5027) (by have l0 : (0 : Int32).toInt = 0 := (by decide); have l1 : (1 : Int32).toInt = 1 := (by decide); have l2 : (6 : Int32).toInt = 6 := (by decide); have r0 := (mt i_le.mpr h5017); have r1 := n5016; have r2 := hbr5018; have r3 := (i_lt.mp h5020); have r4 := (i_lt.mp h5021); have r5 := h2; have r6 := h0; have r7 := (hI.dishes (((M 401 18) : Int32).toNatClampNeg)); have r8 := (i_b (M 415 (M 401 18).toNatClampNeg)); have r9 := (i_b (p0)); have r10 := (i_b (p2)); have r11 := (i_b (r5018)); have r12 := (i_b (v5012)); have r13 := (i_b (x5019)); have r14 := (i_b (x5028)); (try have e1 : (p2 - 1 : Int32).toInt = (p2.toInt - 1) := i_subE rfl (by decide : (1 : Int32).toInt = 1) (by omega)); (try have e2 : ((p2 - 1) - v5012 : Int32).toInt = ((p2.toInt - 1) - v5012.toInt) := i_subE e1 rfl (by omega)); (try have e3 : (p0 / r5018 : Int32).toInt = (p0.toInt / r5018.toInt) := i_divE rfl rfl (by omega) (by omega)); (try have e4 : ((p0 / r5018) - (p0 / r5018) / 6 * 6 : Int32).toInt = ((p0.toInt / r5018.toInt) % 6) := i_remE e3 (by decide : (6 : Int32).toInt = 6) (by omega) (by omega)); (try have e5 : (((p0 / r5018) - (p0 / r5018) / 6 * 6) - 1 : Int32).toInt = (((p0.toInt / r5018.toInt) % 6) - 1) := i_subE e4 (by decide : (1 : Int32).toInt = 1) (by omega)); (try have d6 : x5019.toInt = (((p0.toInt / r5018.toInt) % 6) - 1) := (congrArg Int32.toInt ex5019).trans e5); have e7 : (v5012 + 1 : Int32).toInt = (v5012.toInt + 1) := i_addE rfl (by decide : (1 : Int32).toInt = 1) (by omega); have d8 : x5028.toInt = (v5012.toInt + 1) := (congrArg Int32.toInt ex5028).trans e7; omega) (by have l0 : (0 : Int32).toInt = 0 := (by decide); have l1 : (1 : Int32).toInt = 1 := (by decide); have l2 : (6 : Int32).toInt = 6 := (by decide); have r0 := (mt i_le.mpr h5017); have r1 := n5016; have r2 := hbr5018; have r3 := hm5009; have r4 := (i_lt.mp h5020); have r5 := (i_lt.mp h5021); have r6 := h2; have r7 := h0; have r8 := (hI.dishes (((M 401 18) : Int32).toNatClampNeg)); have r9 := (i_b (M 415 (M 401 18).toNatClampNeg)); have r10 := (i_b (p0)); have r11 := (i_b (p2)); have r12 := (i_b (r5018)); have r13 := (i_b (v5012)); have r14 := (i_b (x5019)); have r15 := (i_b (x5028)); (try have e1 : (p2 - 1 : Int32).toInt = (p2.toInt - 1) := i_subE rfl (by decide : (1 : Int32).toInt = 1) (by omega)); (try have e2 : ((p2 - 1) - v5012 : Int32).toInt = ((p2.toInt - 1) - v5012.toInt) := i_subE e1 rfl (by omega)); (try have e3 : (p0 / r5018 : Int32).toInt = (p0.toInt / r5018.toInt) := i_divE rfl rfl (by omega) (by omega)); (try have e4 : ((p0 / r5018) - (p0 / r5018) / 6 * 6 : Int32).toInt = ((p0.toInt / r5018.toInt) % 6) := i_remE e3 (by decide : (6 : Int32).toInt = 6) (by omega) (by omega)); (try have e5 : (((p0 / r5018) - (p0 / r5018) / 6 * 6) - 1 : Int32).toInt = (((p0.toInt / r5018.toInt) % 6) - 1) := i_subE e4 (by decide : (1 : Int32).toInt = 1) (by omega)); (try have d6 : x5019.toInt = (((p0.toInt / r5018.toInt) % 6) - 1) := (congrArg Int32.toInt ex5019).trans e5); have e7 : (v5012 + 1 : Int32).toInt = (v5012.toInt + 1) := i_addE rfl (by decide : (1 : Int32).toInt = 1) (by omega); have d8 : x5028.toInt = (v5012.toInt + 1) := (congrArg Int32.toInt ex5028).trans e7; omega)
            · refine g_iconst (pc1 := 79) (v := (-1)) d_Mod_mealsBy_78 rfl (by decide) ?_
              refine g_ireturn (Or.inl rfl) d_Mod_mealsBy_79 rfl ?_
              exact hQ _ _ _ (Kl.trans k5015 (Kl.mono k5025 MS0_MS1))
          · refine g_aload_n (pc1 := 56) d_Mod_mealsBy_55 rfl 0 rfl ?_
            refine g_iload_n (pc1 := 57) d_Mod_mealsBy_56 rfl 2 rfl ?_
            refine g_iload (pc1 := 59) d_Mod_mealsBy_57 rfl 7 rfl ?_
            refine g_callV0 (pc1 := 62) (As := [.int p1, .int x5019]) (rest := []) d_Mod_mealsBy_59 rfl mo_Mod_431 mi_Mod_eatsDish mv_Mod_eatsDish rfl sh_401 (by decide) (by decide) rfl rfl (Nat.le_of_ble_eq_true rfl) ?_
            refine t2_Mod_eatsDish hld (Inv.keep hI inv_MS1 k5015) _ _ (by have r0 := h1; have r1 := (i_b (p1)); omega) (by have l0 : (0 : Int32).toInt = 0 := (by decide); have l1 : (1 : Int32).toInt = 1 := (by decide); have l2 : (6 : Int32).toInt = 6 := (by decide); have r0 := (i_lt.mp h5020); have r1 := (mt i_lt.mpr h5021); have r2 := h0; have r3 := hbr5018; have r4 := (mt i_le.mpr h5017); have r5 := h2; have r6 := n5016; have r7 := (hI.dishes (((M 401 18) : Int32).toNatClampNeg)); have r8 := (i_b (M 415 (M 401 18).toNatClampNeg)); have r9 := (i_b (p0)); have r10 := (i_b (p2)); have r11 := (i_b (r5018)); have r12 := (i_b (v5012)); have r13 := (i_b (x5019)); (try have e1 : (p0 / r5018 : Int32).toInt = (p0.toInt / r5018.toInt) := i_divE rfl rfl (by omega) (by omega)); (try have e2 : ((p0 / r5018) - (p0 / r5018) / 6 * 6 : Int32).toInt = ((p0.toInt / r5018.toInt) % 6) := i_remE e1 (by decide : (6 : Int32).toInt = 6) (by omega) (by omega)); (try have e3 : (((p0 / r5018) - (p0 / r5018) / 6 * 6) - 1 : Int32).toInt = (((p0.toInt / r5018.toInt) % 6) - 1) := i_subE e2 (by decide : (1 : Int32).toInt = 1) (by omega)); (try have d4 : x5019.toInt = (((p0.toInt / r5018.toInt) % 6) - 1) := (congrArg Int32.toInt ex5019).trans e3); (try have e5 : (p2 - 1 : Int32).toInt = (p2.toInt - 1) := i_subE rfl (by decide : (1 : Int32).toInt = 1) (by omega)); (try have e6 : ((p2 - 1) - v5012 : Int32).toInt = ((p2.toInt - 1) - v5012.toInt) := i_subE e5 rfl (by omega)); omega) (fun  M5029 L5030 k5031 => ?_)
            obtain ⟨x5032, ex5032⟩ : ∃ y : Int32, y = v5011 + 1 := ⟨_, rfl⟩
            refine g_iinc (pc1 := 65) (v := x5032) (lv' := [(0, .ref 401), (1, .int p0), (2, .int p1), (3, .int p2), (4, .int p3), (5, .int x5032), (6, .int v5012), (7, .int x5019)]) d_Mod_mealsBy_62 rfl 5 rfl (by rw [ex5032]; rfl) (by decide) [1, 2, 3, 4, 5, 0, 6, 7] rfl ?_
            refine g_iload (pc1 := 67) d_Mod_mealsBy_65 rfl 4 rfl ?_
            refine g_aload_n (pc1 := 68) d_Mod_mealsBy_67 rfl 0 rfl ?_
            refine g_iload_n (pc1 := 69) d_Mod_mealsBy_68 rfl 2 rfl ?_
            refine g_callV0 (pc1 := 72) (As := [.int p1]) (rest := [.int p3]) d_Mod_mealsBy_69 rfl mo_Mod_395 mi_Mod_freeBits mv_Mod_freeBits rfl sh_401 (by decide) (by decide) rfl rfl (Nat.le_of_ble_eq_true rfl) ?_
            refine t2_Mod_freeBits hld (Inv.keep hI inv_MS1 (Kl.trans k5015 k5031)) _ (by have r0 := h1; have r1 := (i_b (p1)); omega) (fun r5033 M5034 L5035 k5036 => ?_)
            refine g_iconst (pc1 := 73) (v := (-1)) d_Mod_mealsBy_72 rfl (by decide) ?_
            refine g_ixor (pc1 := 74) d_Mod_mealsBy_73 rfl ?_
            refine g_iand (pc1 := 75) d_Mod_mealsBy_74 rfl ?_
            refine g_if_eq (pc1 := 78) (tgt := 80) d_Mod_mealsBy_75 (by decide) rfl (fun h5037 => ?_) (fun h5037 => ?_)
            · refine g_aload_n (pc1 := 81) d_Mod_mealsBy_80 rfl 0 rfl ?_
              refine g_getr (pc1 := 84) d_Mod_mealsBy_81 rfl ⟨_, fo_Mod_125⟩ sh_401 (by decide) (rf_401_53 ld) ?_
              refine g_bipush (pc1 := 86) (v := 35) d_Mod_mealsBy_84 rfl (by decide) ?_
              refine g_dup2 (pc1 := 87) d_Mod_mealsBy_86 rfl rfl rfl ?_
              refine g_iald (pc1 := 88) d_Mod_mealsBy_87 rfl sh_437 (by decide) (vin_lit (x := 35) (by decide)) ?_
              refine Wp.vali (y := (M5029 437 (35 : Int32).toNatClampNeg)) (Kl.m k5036 rfl) ?_
              refine g_iconst (pc1 := 89) (v := 1) d_Mod_mealsBy_88 rfl (by decide) ?_
              refine g_iadd (pc1 := 90) d_Mod_mealsBy_89 rfl ?_
              refine g_iast (pc1 := 91) d_Mod_mealsBy_90 rfl sh_437 (by decide) (vin_lit (x := 35) (by decide)) ?_
              refine Wp.topM (fun M5038 eM5038 => ?_)
              obtain ⟨x5039, ex5039⟩ : ∃ y : Int32, y = v5012 + 1 := ⟨_, rfl⟩
              refine g_iinc (pc1 := 94) (v := x5039) (lv' := [(0, .ref 401), (1, .int p0), (2, .int p1), (3, .int p2), (4, .int p3), (5, .int x5032), (6, .int x5039), (7, .int x5019)]) d_Mod_mealsBy_91 rfl 6 rfl (by rw [ex5039]; rfl) (by decide) [1, 2, 3, 4, 5, 6, 0, 7] rfl ?_
              refine g_goto (tgt := 10) d_Mod_mealsBy_94 (by decide) ?_
              refine Wp.loc (lv' := [(0, .ref 401), (1, .int p0), (2, .int p1), (3, .int p2), (4, .int p3), (5, .int x5032), (6, .int x5039)]) [0, 1, 2, 3, 4, 5, 6] rfl ?_
              exact ih5008 x5032 x5039 M5038 L5035 (Kl.wM (Kl.trans (Kl.trans k5015 k5031) (Kl.mono k5036 MS0_MS1)) rfl eM5038) (by have l0 : (0 : Int32).toInt = 0 := (by decide); have l1 : (1 : Int32).toInt = 1 := (by decide); have l2 : (6 : Int32).toInt = 6 := (by decide); have r0 := (mt i_le.mpr h5017); have r1 := n5016; have r2 := hbr5018; have r3 := (i_lt.mp h5020); have r4 := (mt i_lt.mpr h5021); have r5 := h2; have r6 := h0; have r7 := (hI.dishes (((M 401 18) : Int32).toNatClampNeg)); have r8 := (i_b (M 415 (M 401 18).toNatClampNeg)); have r9 := (i_b (p0)); have r10 := (i_b (p2)); have r11 := (i_b (r5018)); have r12 := (i_b (v5012)); have r13 := (i_b (x5019)); have r14 := (i_b (x5039)); (try have e1 : (p2 - 1 : Int32).toInt = (p2.toInt - 1) := i_subE rfl (by decide : (1 : Int32).toInt = 1) (by omega)); (try have e2 : ((p2 - 1) - v5012 : Int32).toInt = ((p2.toInt - 1) - v5012.toInt) := i_subE e1 rfl (by omega)); (try have e3 : (p0 / r5018 : Int32).toInt = (p0.toInt / r5018.toInt) := i_divE rfl rfl (by omega) (by omega)); (try have e4 : ((p0 / r5018) - (p0 / r5018) / 6 * 6 : Int32).toInt = ((p0.toInt / r5018.toInt) % 6) := i_remE e3 (by decide : (6 : Int32).toInt = 6) (by omega) (by omega)); (try have e5 : (((p0 / r5018) - (p0 / r5018) / 6 * 6) - 1 : Int32).toInt = (((p0.toInt / r5018.toInt) % 6) - 1) := i_subE e4 (by decide : (1 : Int32).toInt = 1) (by omega)); (try have d6 : x5019.toInt = (((p0.toInt / r5018.toInt) % 6) - 1) := (congrArg Int32.toInt ex5019).trans e5); have e7 : (v5012 + 1 : Int32).toInt = (v5012.toInt + 1) := i_addE rfl (by decide : (1 : Int32).toInt = 1) (by omega); have d8 : x5039.toInt = (v5012.toInt + 1) := (congrArg Int32.toInt ex5039).trans e7; omega) (by have l0 : (0 : Int32).toInt = 0 := (by decide); have l1 : (1 : Int32).toInt = 1 := (by decide); have l2 : (6 : Int32).toInt = 6 := (by decide); have r0 := (mt i_le.mpr h5017); have r1 := n5016; have r2 := hbr5018; have r3 := hm5009; have r4 := (i_lt.mp h5020); have r5 := (mt i_lt.mpr h5021); have r6 := h2; have r7 := h0; have r8 := (hI.dishes (((M 401 18) : Int32).toNatClampNeg)); have r9 := (i_b (M 415 (M 401 18).toNatClampNeg)); have r10 := (i_b (p0)); have r11 := (i_b (p2)); have r12 := (i_b (r5018)); have r13 := (i_b (v5012)); have r14 := (i_b (x5019)); have r15 := (i_b (x5039)); (try have e1 : (p2 - 1 : Int32).toInt = (p2.toInt - 1) := i_subE rfl (by decide : (1 : Int32).toInt = 1) (by omega)); (try have e2 : ((p2 - 1) - v5012 : Int32).toInt = ((p2.toInt - 1) - v5012.toInt) := i_subE e1 rfl (by omega)); (try have e3 : (p0 / r5018 : Int32).toInt = (p0.toInt / r5018.toInt) := i_divE rfl rfl (by omega) (by omega)); (try have e4 : ((p0 / r5018) - (p0 / r5018) / 6 * 6 : Int32).toInt = ((p0.toInt / r5018.toInt) % 6) := i_remE e3 (by decide : (6 : Int32).toInt = 6) (by omega) (by omega)); (try have e5 : (((p0 / r5018) - (p0 / r5018) / 6 * 6) - 1 : Int32).toInt = (((p0.toInt / r5018.toInt) % 6) - 1) := i_subE e4 (by decide : (1 : Int32).toInt = 1) (by omega)); (try have d6 : x5019.toInt = (((p0.toInt / r5018.toInt) % 6) - 1) := (congrArg Int32.toInt ex5019).trans e5); have e7 : (v5012 + 1 : Int32).toInt = (v5012.toInt + 1) := i_addE rfl (by decide : (1 : Int32).toInt = 1) (by omega); have d8 : x5039.toInt = (v5012.toInt + 1) := (congrArg Int32.toInt ex5039).trans e7; omega)
            · refine g_iconst (pc1 := 79) (v := (-1)) d_Mod_mealsBy_78 rfl (by decide) ?_
              refine g_ireturn (Or.inl rfl) d_Mod_mealsBy_79 rfl ?_
              exact hQ _ _ _ (Kl.trans (Kl.trans k5015 k5031) (Kl.mono k5036 MS0_MS1))
        · refine g_iconst (pc1 := 49) (v := (-1)) d_Mod_mealsBy_48 rfl (by decide) ?_
          refine g_ireturn (Or.inl rfl) d_Mod_mealsBy_49 rfl ?_
          exact hQ _ _ _ k5015
  exact LP5010 _ 0 0 M5004 L5005 (Kl.trans Kl.rf k5006) (by decide) (Nat.lt_succ_self _)
set_option maxHeartbeats 4000000 in
set_option maxRecDepth 20000 in
theorem t2_Mod_freest {l : Launch} {ld : Nat} (hld : isLa ld) {M : gM} {L : gL} {Q : Option Value → gM → gL → gR → Prop} (hI : Inv M) (p0 : Int32) (p1 : Int32)  (hQ : ∀ (r : Int32) (M' : gM) (L' : gL), Kl MS1 M L M' L' → Q (some (.int r)) M' L' (rf ld)) : Tm l y_Mod_freest (0, 0, 447) 447 [.ref 401, .int p0, .int p1] M L (rf ld) Q := by
  refine Tm.of (by decide) (Nat.le_of_ble_eq_true rfl) ?_
  show Wp l y_Mod_freest (0, 0, 447) 447 0 0 0 [(0, .ref 401), (1, .int p0), (2, .int p1)] [] M L (rf ld) Q
  refine g_aload_n (pc1 := 1) d_Mod_freest_0 rfl 0 rfl ?_
  refine g_iload_n (pc1 := 2) d_Mod_freest_1 rfl 1 rfl ?_
  refine g_callV0 (pc1 := 5) (As := [.int p0]) (rest := []) d_Mod_freest_2 rfl mo_Mod_380 mi_Mod_isGuest mv_Mod_isGuest rfl sh_401 (by decide) (by decide) rfl rfl (Nat.le_of_ble_eq_true rfl) ?_
  refine t2_Mod_isGuest hld hI _  (fun r5040 hbr5040 => ?_)
  refine g_if_eq (pc1 := 8) (tgt := 17) d_Mod_freest_5 (by decide) rfl (fun h5041 => ?_) (fun h5041 => ?_)
  · refine g_iconst (pc1 := 18) (v := (-1)) d_Mod_freest_17 rfl (by decide) ?_
    refine g_ireturn (Or.inl rfl) d_Mod_freest_18 rfl ?_
    exact hQ _ _ _ Kl.rf
  · refine g_iload_n (pc1 := 9) d_Mod_freest_8 rfl 2 rfl ?_
    refine g_iconst (pc1 := 10) (v := 0) d_Mod_freest_9 rfl (by decide) ?_
    refine g_iconst (pc1 := 11) (v := 1) d_Mod_freest_10 rfl (by decide) ?_
    refine g_callS0 (pc1 := 14) (As := [.int p1, .int 0, .int 1]) (rest := []) d_Mod_freest_11 rfl mo_Mod_316 ms_Mod_in (by decide) rfl rfl (Nat.le_of_ble_eq_true rfl) ?_
    refine t2_Mod_in hld _ _ _  (fun r5042 hbr5042 => ?_)
    refine g_if_ne (pc1 := 17) (tgt := 19) d_Mod_freest_14 (by decide) rfl (fun h5043 => ?_) (fun h5043 => ?_)
    · refine g_aload_n (pc1 := 20) d_Mod_freest_19 rfl 0 rfl ?_
      refine g_iload_n (pc1 := 21) d_Mod_freest_20 rfl 1 rfl ?_
      refine g_callV0 (pc1 := 24) (As := [.int p0]) (rest := []) d_Mod_freest_21 rfl mo_Mod_437 mi_Mod_freestOf mv_Mod_freestOf rfl sh_401 (by decide) (by decide) rfl rfl (Nat.le_of_ble_eq_true rfl) ?_
      refine t2_Mod_freestOf hld hI _ (by have r0 := (bp_t hbr5040 h5041); have r1 := (hI.guests (M 401 18).toNatClampNeg); have r2 := (i_b (M 418 (M 401 18).toNatClampNeg)); have r3 := (i_b (p0)); omega) (fun r5044 M5045 L5046 k5047 => ?_)
      refine g_istore_n (pc1 := 25) (lv' := [(0, .ref 401), (1, .int p0), (2, .int p1), (3, .int r5044)]) d_Mod_freest_24 rfl rfl (by decide) [1, 2, 3, 0] rfl ?_
      refine g_iload_n (pc1 := 26) d_Mod_freest_25 rfl 3 rfl ?_
      refine g_if_lt (pc1 := 29) (tgt := 33) d_Mod_freest_26 (by decide) rfl (fun h5048 => ?_) (fun h5048 => ?_)
      · refine g_iload_n (pc1 := 34) d_Mod_freest_33 rfl 3 rfl ?_
        refine g_goto (tgt := 41) d_Mod_freest_34 (by decide) ?_
        refine g_ireturn (Or.inl rfl) d_Mod_freest_41 rfl ?_
        exact hQ _ _ _ (Kl.trans Kl.rf k5047)
      · refine g_iload_n (pc1 := 30) d_Mod_freest_29 rfl 2 rfl ?_
        refine g_if_ne (pc1 := 33) (tgt := 37) d_Mod_freest_30 (by decide) rfl (fun h5049 => ?_) (fun h5049 => ?_)
        · refine g_aload_n (pc1 := 38) d_Mod_freest_37 rfl 0 rfl ?_
          refine g_geti (pc1 := 41) d_Mod_freest_38 rfl ⟨_, fo_Mod_428⟩ sh_401 (by decide) ?_
          refine g_ireturn (Or.inl rfl) d_Mod_freest_41 rfl ?_
          exact hQ _ _ _ (Kl.trans Kl.rf k5047)
        · refine g_iload_n (pc1 := 34) d_Mod_freest_33 rfl 3 rfl ?_
          refine g_goto (tgt := 41) d_Mod_freest_34 (by decide) ?_
          refine g_ireturn (Or.inl rfl) d_Mod_freest_41 rfl ?_
          exact hQ _ _ _ (Kl.trans Kl.rf k5047)
    · refine g_iconst (pc1 := 18) (v := (-1)) d_Mod_freest_17 rfl (by decide) ?_
      refine g_ireturn (Or.inl rfl) d_Mod_freest_18 rfl ?_
      exact hQ _ _ _ Kl.rf
