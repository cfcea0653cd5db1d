set_option maxHeartbeats 4000000 in
set_option maxRecDepth 20000 in
theorem t2_Mod_fillsWay {l : Launch} {ld : Nat} (hld : isLa ld) {M : gM} {L : gL} {Q : Option Value → gM → gL → gR → Prop} (hI : Inv M) (p0 : Int32) (h0 : 0 ≤ (p0 : Int32).toInt ∧ (p0 : Int32).toInt ≤ 64) (hQ : ∀ (r : Int32) (M' : gM) (L' : gL), (r = 0 ∨ r = 1) → Kl MS1 M L M' L' → Q (some (.int r)) M' L' (rf ld)) : Tm l y_Mod_fillsWay (0, 0, 447) 447 [.ref 401, .int p0] M L (rf ld) Q := by
  refine Tm.of (by decide) (Nat.le_of_ble_eq_true rfl) ?_
  show Wp l y_Mod_fillsWay (0, 0, 447) 447 0 0 0 [(0, .ref 401), (1, .int p0)] [] M L (rf ld) Q
  refine g_aload_n (pc1 := 1) d_Mod_fillsWay_0 rfl 0 rfl ?_
  refine g_iload_n (pc1 := 2) d_Mod_fillsWay_1 rfl 1 rfl ?_
  refine g_bipush (pc1 := 4) (v := 13) d_Mod_fillsWay_2 rfl (by decide) ?_
  refine g_idiv (pc1 := 5) d_Mod_fillsWay_4 rfl (by decide) ?_
  refine g_callV0 (pc1 := 8) (As := [.int (p0 / 13)]) (rest := []) d_Mod_fillsWay_5 rfl mo_Mod_356 mi_Mod_fillsPot mv_Mod_fillsPot rfl sh_401 (by decide) (by decide) rfl rfl (Nat.le_of_ble_eq_true rfl) ?_
  refine t2_Mod_fillsPot hld hI _ (by have l0 : (13 : Int32).toInt = 13 := (by decide); have r0 := h0; have r1 := (i_b (p0)); have e1 : (p0 / 13 : Int32).toInt = (p0.toInt / 13) := i_divE rfl (by decide : (13 : Int32).toInt = 13) (by omega) (by omega); omega) (fun  M4005 L4006 k4007 => ?_)
  refine g_iload_n (pc1 := 9) d_Mod_fillsWay_8 rfl 1 rfl ?_
  refine g_bipush (pc1 := 11) (v := 13) d_Mod_fillsWay_9 rfl (by decide) ?_
  refine g_irem (pc1 := 12) d_Mod_fillsWay_11 rfl (by decide) ?_
  refine Wp.topi (fun x4008 ex4008 => ?_)
  refine g_istore_n (pc1 := 13) (lv' := [(0, .ref 401), (1, .int p0), (2, .int x4008)]) d_Mod_fillsWay_12 rfl rfl (by decide) [1, 2, 0] rfl ?_
  refine g_iload_n (pc1 := 14) d_Mod_fillsWay_13 rfl 2 rfl ?_
  refine g_if_ne (pc1 := 17) (tgt := 19) d_Mod_fillsWay_14 (by decide) rfl (fun h4009 => ?_) (fun h4009 => ?_)
  · refine g_iload_n (pc1 := 20) d_Mod_fillsWay_19 rfl 2 rfl ?_
    refine g_iconst (pc1 := 21) (v := 1) d_Mod_fillsWay_20 rfl (by decide) ?_
    refine g_isub (pc1 := 22) d_Mod_fillsWay_21 rfl ?_
    refine g_bipush (pc1 := 24) (v := 6) d_Mod_fillsWay_22 rfl (by decide) ?_
    refine g_irem (pc1 := 25) d_Mod_fillsWay_24 rfl (by decide) ?_
    refine Wp.topi (fun x4010 ex4010 => ?_)
    refine g_istore_n (pc1 := 26) (lv' := [(0, .ref 401), (1, .int p0), (2, .int x4008), (3, .int x4010)]) d_Mod_fillsWay_25 rfl rfl (by decide) [1, 2, 3, 0] rfl ?_
    refine g_aload_n (pc1 := 27) d_Mod_fillsWay_26 rfl 0 rfl ?_
    refine g_iload_n (pc1 := 28) d_Mod_fillsWay_27 rfl 3 rfl ?_
    refine g_callV0 (pc1 := 31) (As := [.int x4010]) (rest := []) d_Mod_fillsWay_28 rfl mo_Mod_371 mi_Mod_isFood mv_Mod_isFood rfl sh_401 (by decide) (by decide) rfl rfl (Nat.le_of_ble_eq_true rfl) ?_
    refine t2_Mod_isFood hld (Inv.keep hI inv_MS1 (Kl.trans Kl.rf k4007)) _  (fun r4011 hbr4011 => ?_)
    refine g_if_ne (pc1 := 34) (tgt := 36) d_Mod_fillsWay_31 (by decide) rfl (fun h4012 => ?_) (fun h4012 => ?_)
    · refine g_iload_n (pc1 := 37) d_Mod_fillsWay_36 rfl 2 rfl ?_
      refine g_bipush (pc1 := 39) (v := 6) d_Mod_fillsWay_37 rfl (by decide) ?_
      refine g_icmp_gt (pc1 := 42) (tgt := 54) d_Mod_fillsWay_39 (by decide) rfl (fun h4013 => ?_) (fun h4013 => ?_)
      · refine g_aload_n (pc1 := 55) d_Mod_fillsWay_54 rfl 0 rfl ?_
        refine g_getr (pc1 := 58) d_Mod_fillsWay_55 rfl ⟨_, fo_Mod_128⟩ sh_401 (by decide) (rf_401_55 ld) ?_
        refine g_iload_n (pc1 := 59) d_Mod_fillsWay_58 rfl 3 rfl ?_
        refine g_iald (pc1 := 60) d_Mod_fillsWay_59 rfl sh_438 (by decide) (by have l0 : (0 : Int32).toInt = 0 := (by decide); have l1 : (1 : Int32).toInt = 1 := (by decide); have l2 : (13 : Int32).toInt = 13 := (by decide); have l3 : (6 : Int32).toInt = 6 := (by decide); have r0 := (mt Int32.toInt_inj.mp h4009); have r1 := (i_lt.mp h4013); have r2 := h0; have r3 := (bp_t hbr4011 h4012); have r4 := (by rw [(Kl.m (c := 401) (j := 18) (Kl.trans Kl.rf k4007) rfl : M4005 401 18 = M 401 18), (Kl.m (c := 411) (j := (M 401 18).toNatClampNeg) (Kl.trans Kl.rf k4007) rfl : M4005 411 (M 401 18).toNatClampNeg = M 411 (M 401 18).toNatClampNeg)] : (M4005 411 (M4005 401 18).toNatClampNeg).toInt = (M 411 (M 401 18).toNatClampNeg).toInt); have r5 := (hI.foods (M 401 18).toNatClampNeg); have r6 := (i_b (M 411 (M 401 18).toNatClampNeg)); have r7 := (i_b (M4005 411 (M4005 401 18).toNatClampNeg)); have r8 := (i_b (p0)); have r9 := (i_b (x4008)); have r10 := (i_b (x4010)); (try have e1 : (p0 - p0 / 13 * 13 : Int32).toInt = (p0.toInt % 13) := i_remE rfl (by decide : (13 : Int32).toInt = 13) (by omega) (by omega)); (try have d2 : x4008.toInt = (p0.toInt % 13) := (congrArg Int32.toInt ex4008).trans e1); (try have e3 : (x4008 - 1 : Int32).toInt = ((p0.toInt % 13) - 1) := i_subE d2 (by decide : (1 : Int32).toInt = 1) (by omega)); (try have e4 : ((x4008 - 1) - (x4008 - 1) / 6 * 6 : Int32).toInt = (((p0.toInt % 13) - 1) % 6) := i_remE e3 (by decide : (6 : Int32).toInt = 6) (by omega) (by omega)); (try have d5 : x4010.toInt = (((p0.toInt % 13) - 1) % 6) := (congrArg Int32.toInt ex4010).trans e4); exact vin_i (by omega) (by omega)) ?_
        refine g_if_eq (pc1 := 63) (tgt := 71) d_Mod_fillsWay_60 (by decide) rfl (fun h4014 => ?_) (fun h4014 => ?_)
        · refine g_iconst (pc1 := 72) (v := 0) d_Mod_fillsWay_71 rfl (by decide) ?_
          refine g_ireturn (Or.inr ⟨rfl, rfl⟩) d_Mod_fillsWay_72 rfl ?_
          exact hQ _ _ _ (Or.inl rfl) (Kl.trans Kl.rf k4007)
        · refine g_aload_n (pc1 := 64) d_Mod_fillsWay_63 rfl 0 rfl ?_
          refine g_callV0 (pc1 := 67) (As := []) (rest := []) d_Mod_fillsWay_64 rfl mo_Mod_339 mi_Mod_potMany mv_Mod_potMany rfl sh_401 (by decide) (by decide) rfl rfl (Nat.le_of_ble_eq_true rfl) ?_
          refine t2_Mod_potMany hld (Inv.keep hI inv_MS1 (Kl.trans Kl.rf k4007))   (fun r4015 => ?_)
          refine g_iconst (pc1 := 68) (v := 2) d_Mod_fillsWay_67 rfl (by decide) ?_
          refine g_icmp_ge (pc1 := 71) (tgt := 73) d_Mod_fillsWay_68 (by decide) rfl (fun h4016 => ?_) (fun h4016 => ?_)
          · refine g_aload_n (pc1 := 74) d_Mod_fillsWay_73 rfl 0 rfl ?_
            refine g_getr (pc1 := 77) d_Mod_fillsWay_74 rfl ⟨_, fo_Mod_128⟩ sh_401 (by decide) (rf_401_55 ld) ?_
            refine g_iload_n (pc1 := 78) d_Mod_fillsWay_77 rfl 3 rfl ?_
            refine g_dup2 (pc1 := 79) d_Mod_fillsWay_78 rfl rfl rfl ?_
            refine g_iald (pc1 := 80) d_Mod_fillsWay_79 rfl sh_438 (by decide) (by have l0 : (0 : Int32).toInt = 0 := (by decide); have l1 : (1 : Int32).toInt = 1 := (by decide); have l2 : (13 : Int32).toInt = 13 := (by decide); have l3 : (6 : Int32).toInt = 6 := (by decide); have r0 := (mt Int32.toInt_inj.mp h4009); have r1 := (i_lt.mp h4013); have r2 := h0; have r3 := (bp_t hbr4011 h4012); have r4 := (by rw [(Kl.m (c := 401) (j := 18) (Kl.trans Kl.rf k4007) rfl : M4005 401 18 = M 401 18), (Kl.m (c := 411) (j := (M 401 18).toNatClampNeg) (Kl.trans Kl.rf k4007) rfl : M4005 411 (M 401 18).toNatClampNeg = M 411 (M 401 18).toNatClampNeg)] : (M4005 411 (M4005 401 18).toNatClampNeg).toInt = (M 411 (M 401 18).toNatClampNeg).toInt); have r5 := (hI.foods (M 401 18).toNatClampNeg); have r6 := (i_b (M 411 (M 401 18).toNatClampNeg)); have r7 := (i_b (M4005 411 (M4005 401 18).toNatClampNeg)); have r8 := (i_b (p0)); have r9 := (i_b (x4008)); have r10 := (i_b (x4010)); (try have e1 : (p0 - p0 / 13 * 13 : Int32).toInt = (p0.toInt % 13) := i_remE rfl (by decide : (13 : Int32).toInt = 13) (by omega) (by omega)); (try have d2 : x4008.toInt = (p0.toInt % 13) := (congrArg Int32.toInt ex4008).trans e1); (try have e3 : (x4008 - 1 : Int32).toInt = ((p0.toInt % 13) - 1) := i_subE d2 (by decide : (1 : Int32).toInt = 1) (by omega)); (try have e4 : ((x4008 - 1) - (x4008 - 1) / 6 * 6 : Int32).toInt = (((p0.toInt % 13) - 1) % 6) := i_remE e3 (by decide : (6 : Int32).toInt = 6) (by omega) (by omega)); (try have d5 : x4010.toInt = (((p0.toInt % 13) - 1) % 6) := (congrArg Int32.toInt ex4010).trans e4); exact vin_i (by omega) (by omega)) ?_
            refine g_iconst (pc1 := 81) (v := 1) d_Mod_fillsWay_80 rfl (by decide) ?_
            refine g_isub (pc1 := 82) d_Mod_fillsWay_81 rfl ?_
            refine g_iast (pc1 := 83) d_Mod_fillsWay_82 rfl sh_438 (by decide) (by have l0 : (0 : Int32).toInt = 0 := (by decide); have l1 : (1 : Int32).toInt = 1 := (by decide); have l2 : (13 : Int32).toInt = 13 := (by decide); have l3 : (6 : Int32).toInt = 6 := (by decide); have r0 := (mt Int32.toInt_inj.mp h4009); have r1 := (i_lt.mp h4013); have r2 := h0; have r3 := (bp_t hbr4011 h4012); have r4 := (by rw [(Kl.m (c := 401) (j := 18) (Kl.trans Kl.rf k4007) rfl : M4005 401 18 = M 401 18), (Kl.m (c := 411) (j := (M 401 18).toNatClampNeg) (Kl.trans Kl.rf k4007) rfl : M4005 411 (M 401 18).toNatClampNeg = M 411 (M 401 18).toNatClampNeg)] : (M4005 411 (M4005 401 18).toNatClampNeg).toInt = (M 411 (M 401 18).toNatClampNeg).toInt); have r5 := (hI.foods (M 401 18).toNatClampNeg); have r6 := (i_b (M 411 (M 401 18).toNatClampNeg)); have r7 := (i_b (M4005 411 (M4005 401 18).toNatClampNeg)); have r8 := (i_b (p0)); have r9 := (i_b (x4008)); have r10 := (i_b (x4010)); (try have e1 : (p0 - p0 / 13 * 13 : Int32).toInt = (p0.toInt % 13) := i_remE rfl (by decide : (13 : Int32).toInt = 13) (by omega) (by omega)); (try have d2 : x4008.toInt = (p0.toInt % 13) := (congrArg Int32.toInt ex4008).trans e1); (try have e3 : (x4008 - 1 : Int32).toInt = ((p0.toInt % 13) - 1) := i_subE d2 (by decide : (1 : Int32).toInt = 1) (by omega)); (try have e4 : ((x4008 - 1) - (x4008 - 1) / 6 * 6 : Int32).toInt = (((p0.toInt % 13) - 1) % 6) := i_remE e3 (by decide : (6 : Int32).toInt = 6) (by omega) (by omega)); (try have d5 : x4010.toInt = (((p0.toInt % 13) - 1) % 6) := (congrArg Int32.toInt ex4010).trans e4); exact vin_i (by omega) (by omega)) ?_
            refine Wp.topM (fun M4017 eM4017 => ?_)
            refine g_iconst (pc1 := 84) (v := 1) d_Mod_fillsWay_83 rfl (by decide) ?_
            refine g_ireturn (Or.inr ⟨rfl, rfl⟩) d_Mod_fillsWay_84 rfl ?_
            exact hQ _ _ _ (Or.inr rfl) (Kl.wM (Kl.trans Kl.rf k4007) rfl eM4017)
          · refine g_iconst (pc1 := 72) (v := 0) d_Mod_fillsWay_71 rfl (by decide) ?_
            refine g_ireturn (Or.inr ⟨rfl, rfl⟩) d_Mod_fillsWay_72 rfl ?_
            exact hQ _ _ _ (Or.inl rfl) (Kl.trans Kl.rf k4007)
      · refine g_aload_n (pc1 := 43) d_Mod_fillsWay_42 rfl 0 rfl ?_
        refine g_getr (pc1 := 46) d_Mod_fillsWay_43 rfl ⟨_, fo_Mod_128⟩ sh_401 (by decide) (rf_401_55 ld) ?_
        refine g_iload_n (pc1 := 47) d_Mod_fillsWay_46 rfl 3 rfl ?_
        refine g_dup2 (pc1 := 48) d_Mod_fillsWay_47 rfl rfl rfl ?_
        refine g_iald (pc1 := 49) d_Mod_fillsWay_48 rfl sh_438 (by decide) (by have l0 : (0 : Int32).toInt = 0 := (by decide); have l1 : (1 : Int32).toInt = 1 := (by decide); have l2 : (13 : Int32).toInt = 13 := (by decide); have l3 : (6 : Int32).toInt = 6 := (by decide); have r0 := (mt Int32.toInt_inj.mp h4009); have r1 := (mt i_lt.mpr h4013); have r2 := h0; have r3 := (bp_t hbr4011 h4012); have r4 := (by rw [(Kl.m (c := 401) (j := 18) (Kl.trans Kl.rf k4007) rfl : M4005 401 18 = M 401 18), (Kl.m (c := 411) (j := (M 401 18).toNatClampNeg) (Kl.trans Kl.rf k4007) rfl : M4005 411 (M 401 18).toNatClampNeg = M 411 (M 401 18).toNatClampNeg)] : (M4005 411 (M4005 401 18).toNatClampNeg).toInt = (M 411 (M 401 18).toNatClampNeg).toInt); have r5 := (hI.foods (M 401 18).toNatClampNeg); have r6 := (i_b (M 411 (M 401 18).toNatClampNeg)); have r7 := (i_b (M4005 411 (M4005 401 18).toNatClampNeg)); have r8 := (i_b (p0)); have r9 := (i_b (x4008)); have r10 := (i_b (x4010)); (try have e1 : (p0 - p0 / 13 * 13 : Int32).toInt = (p0.toInt % 13) := i_remE rfl (by decide : (13 : Int32).toInt = 13) (by omega) (by omega)); (try have d2 : x4008.toInt = (p0.toInt % 13) := (congrArg Int32.toInt ex4008).trans e1); (try have e3 : (x4008 - 1 : Int32).toInt = ((p0.toInt % 13) - 1) := i_subE d2 (by decide : (1 : Int32).toInt = 1) (by omega)); (try have e4 : ((x4008 - 1) - (x4008 - 1) / 6 * 6 : Int32).toInt = (((p0.toInt % 13) - 1) % 6) := i_remE e3 (by decide : (6 : Int32).toInt = 6) (by omega) (by omega)); (try have d5 : x4010.toInt = (((p0.toInt % 13) - 1) % 6) := (congrArg Int32.toInt ex4010).trans e4); exact vin_i (by omega) (by omega)) ?_
        refine g_iconst (pc1 := 50) (v := 1) d_Mod_fillsWay_49 rfl (by decide) ?_
        refine g_iadd (pc1 := 51) d_Mod_fillsWay_50 rfl ?_
        refine g_iast (pc1 := 52) d_Mod_fillsWay_51 rfl sh_438 (by decide) (by have l0 : (0 : Int32).toInt = 0 := (by decide); have l1 : (1 : Int32).toInt = 1 := (by decide); have l2 : (13 : Int32).toInt = 13 := (by decide); have l3 : (6 : Int32).toInt = 6 := (by decide); have r0 := (mt Int32.toInt_inj.mp h4009); have r1 := (mt i_lt.mpr h4013); have r2 := h0; have r3 := (bp_t hbr4011 h4012); have r4 := (by rw [(Kl.m (c := 401) (j := 18) (Kl.trans Kl.rf k4007) rfl : M4005 401 18 = M 401 18), (Kl.m (c := 411) (j := (M 401 18).toNatClampNeg) (Kl.trans Kl.rf k4007) rfl : M4005 411 (M 401 18).toNatClampNeg = M 411 (M 401 18).toNatClampNeg)] : (M4005 411 (M4005 401 18).toNatClampNeg).toInt = (M 411 (M 401 18).toNatClampNeg).toInt); have r5 := (hI.foods (M 401 18).toNatClampNeg); have r6 := (i_b (M 411 (M 401 18).toNatClampNeg)); have r7 := (i_b (M4005 411 (M4005 401 18).toNatClampNeg)); have r8 := (i_b (p0)); have r9 := (i_b (x4008)); have r10 := (i_b (x4010)); (try have e1 : (p0 - p0 / 13 * 13 : Int32).toInt = (p0.toInt % 13) := i_remE rfl (by decide : (13 : Int32).toInt = 13) (by omega) (by omega)); (try have d2 : x4008.toInt = (p0.toInt % 13) := (congrArg Int32.toInt ex4008).trans e1); (try have e3 : (x4008 - 1 : Int32).toInt = ((p0.toInt % 13) - 1) := i_subE d2 (by decide : (1 : Int32).toInt = 1) (by omega)); (try have e4 : ((x4008 - 1) - (x4008 - 1) / 6 * 6 : Int32).toInt = (((p0.toInt % 13) - 1) % 6) := i_remE e3 (by decide : (6 : Int32).toInt = 6) (by omega) (by omega)); (try have d5 : x4010.toInt = (((p0.toInt % 13) - 1) % 6) := (congrArg Int32.toInt ex4010).trans e4); exact vin_i (by omega) (by omega)) ?_
        refine Wp.topM (fun M4018 eM4018 => ?_)
        refine g_iconst (pc1 := 53) (v := 1) d_Mod_fillsWay_52 rfl (by decide) ?_
        refine g_ireturn (Or.inr ⟨rfl, rfl⟩) d_Mod_fillsWay_53 rfl ?_
        exact hQ _ _ _ (Or.inr rfl) (Kl.wM (Kl.trans Kl.rf k4007) rfl eM4018)
    · refine g_iconst (pc1 := 35) (v := 0) d_Mod_fillsWay_34 rfl (by decide) ?_
      refine g_ireturn (Or.inr ⟨rfl, rfl⟩) d_Mod_fillsWay_35 rfl ?_
      exact hQ _ _ _ (Or.inl rfl) (Kl.trans Kl.rf k4007)
  · refine g_iconst (pc1 := 18) (v := 1) d_Mod_fillsWay_17 rfl (by decide) ?_
    refine g_ireturn (Or.inr ⟨rfl, rfl⟩) d_Mod_fillsWay_18 rfl ?_
    exact hQ _ _ _ (Or.inr rfl) (Kl.trans Kl.rf k4007)
set_option maxHeartbeats 4000000 in
set_option maxRecDepth 20000 in
theorem t2_Mod_food {l : Launch} {ld : Nat} (hld : isLa ld) {M : gM} {L : gL} {Q : Option Value → gM → gL → gR → Prop} (hI : Inv M) (p0 : Int32) (p1 : Int32)  (hQ : ∀ (r : Int32), Q (some (.int r)) M L (rf ld)) : Tm l y_Mod_food (0, 0, 447) 447 [.ref 401, .int p0, .int p1] M L (rf ld) Q := by
  refine Tm.of (by decide) (Nat.le_of_ble_eq_true rfl) ?_
  show Wp l y_Mod_food (0, 0, 447) 447 0 0 0 [(0, .ref 401), (1, .int p0), (2, .int p1)] [] M L (rf ld) Q
  refine g_aload_n (pc1 := 1) d_Mod_food_0 rfl 0 rfl ?_
  refine g_iload_n (pc1 := 2) d_Mod_food_1 rfl 1 rfl ?_
  refine g_callV0 (pc1 := 5) (As := [.int p0]) (rest := []) d_Mod_food_2 rfl mo_Mod_371 mi_Mod_isFood mv_Mod_isFood rfl sh_401 (by decide) (by decide) rfl rfl (Nat.le_of_ble_eq_true rfl) ?_
  refine t2_Mod_isFood hld hI _  (fun r4019 hbr4019 => ?_)
  refine g_if_ne (pc1 := 8) (tgt := 10) d_Mod_food_5 (by decide) rfl (fun h4020 => ?_) (fun h4020 => ?_)
  · refine g_iload_n (pc1 := 11) d_Mod_food_10 rfl 2 rfl ?_
    by_cases h4021 : p1 = 0
    · refine g_tabK (tgt := 44) (off := 33) d_Mod_food_11 h4021 (by decide) (by decide) (by decide) (by decide) ?_
      refine g_aload_n (pc1 := 45) d_Mod_food_44 rfl 0 rfl ?_
      refine g_getr (pc1 := 48) d_Mod_food_45 rfl ⟨_, fo_Mod_122⟩ sh_401 (by decide) (rf_401_52 ld) ?_
      refine g_iload_n (pc1 := 49) d_Mod_food_48 rfl 1 rfl ?_
      refine g_iald (pc1 := 50) d_Mod_food_49 rfl sh_436 (by decide) (by have r0 := (bp_t hbr4019 h4020); have r1 := (hI.foods (M 401 18).toNatClampNeg); have r2 := (i_b (M 411 (M 401 18).toNatClampNeg)); have r3 := (i_b (p0)); exact vin_i (by omega) (by omega)) ?_
      refine g_ireturn (Or.inl rfl) d_Mod_food_50 rfl ?_
      exact hQ _
    by_cases h4022 : p1 = 1
    · refine g_tabK (tgt := 51) (off := 40) d_Mod_food_11 h4022 (by decide) (by decide) (by decide) (by decide) ?_
      refine g_aload_n (pc1 := 52) d_Mod_food_51 rfl 0 rfl ?_
      refine g_getr (pc1 := 55) d_Mod_food_52 rfl ⟨_, fo_Mod_52⟩ sh_401 (by decide) (rf_401_25 ld) ?_
      refine g_bipush (pc1 := 57) (v := 6) d_Mod_food_55 rfl (by decide) ?_
      refine g_aload_n (pc1 := 58) d_Mod_food_57 rfl 0 rfl ?_
      refine g_geti (pc1 := 61) d_Mod_food_58 rfl ⟨_, fo_Mod_236⟩ sh_401 (by decide) ?_
      refine g_imul (pc1 := 62) d_Mod_food_61 rfl ?_
      refine g_iload_n (pc1 := 63) d_Mod_food_62 rfl 1 rfl ?_
      refine g_iadd (pc1 := 64) d_Mod_food_63 rfl ?_
      refine g_iald (pc1 := 65) d_Mod_food_64 rfl sh_413 (by decide) (by have l0 : (6 : Int32).toInt = 6 := (by decide); have r0 := (bp_t hbr4019 h4020); have r1 := hI.live; have r2 := (hI.foods (M 401 18).toNatClampNeg); have r3 := (i_b (M 401 18)); have r4 := (i_b (M 411 (M 401 18).toNatClampNeg)); have r5 := (i_b (p0)); have e1 : (6 * (M 401 18) : Int32).toInt = (6 * ((M 401 18) : Int32).toInt) := i_mulE (by decide : (6 : Int32).toInt = 6) rfl (by omega); have e2 : ((6 * (M 401 18)) + p0 : Int32).toInt = ((6 * ((M 401 18) : Int32).toInt) + p0.toInt) := i_addE e1 rfl (by omega); exact vin_i (by omega) (by omega)) ?_
      refine g_ireturn (Or.inl rfl) d_Mod_food_65 rfl ?_
      exact hQ _
    by_cases h4023 : p1 = 2
    · refine g_tabK (tgt := 66) (off := 55) d_Mod_food_11 h4023 (by decide) (by decide) (by decide) (by decide) ?_
      refine g_aload_n (pc1 := 67) d_Mod_food_66 rfl 0 rfl ?_
      refine g_getr (pc1 := 70) d_Mod_food_67 rfl ⟨_, fo_Mod_55⟩ sh_401 (by decide) (rf_401_26 ld) ?_
      refine g_iconst (pc1 := 71) (v := 3) d_Mod_food_70 rfl (by decide) ?_
      refine g_bipush (pc1 := 73) (v := 6) d_Mod_food_71 rfl (by decide) ?_
      refine g_aload_n (pc1 := 74) d_Mod_food_73 rfl 0 rfl ?_
      refine g_geti (pc1 := 77) d_Mod_food_74 rfl ⟨_, fo_Mod_236⟩ sh_401 (by decide) ?_
      refine g_imul (pc1 := 78) d_Mod_food_77 rfl ?_
      refine g_iload_n (pc1 := 79) d_Mod_food_78 rfl 1 rfl ?_
      refine g_iadd (pc1 := 80) d_Mod_food_79 rfl ?_
      refine g_imul (pc1 := 81) d_Mod_food_80 rfl ?_
      refine g_iload_n (pc1 := 82) d_Mod_food_81 rfl 2 rfl ?_
      refine g_iadd (pc1 := 83) d_Mod_food_82 rfl ?_
      refine g_iconst (pc1 := 84) (v := 2) d_Mod_food_83 rfl (by decide) ?_
      refine g_isub (pc1 := 85) d_Mod_food_84 rfl ?_
      refine g_iald (pc1 := 86) d_Mod_food_85 rfl sh_414 (by decide) (by have l0 : (0 : Int32).toInt = 0 := (by decide); have l1 : (1 : Int32).toInt = 1 := (by decide); have l2 : (2 : Int32).toInt = 2 := (by decide); have l3 : (3 : Int32).toInt = 3 := (by decide); have l4 : (6 : Int32).toInt = 6 := (by decide); have r0 := (mt Int32.toInt_inj.mp h4021); have r1 := (mt Int32.toInt_inj.mp h4022); have r2 := (congrArg Int32.toInt h4023); have r3 := (bp_t hbr4019 h4020); have r4 := hI.live; have r5 := (hI.foods (M 401 18).toNatClampNeg); have r6 := (i_b (M 401 18)); have r7 := (i_b (M 411 (M 401 18).toNatClampNeg)); have r8 := (i_b (p0)); have r9 := (i_b (p1)); have e1 : (6 * (M 401 18) : Int32).toInt = (6 * ((M 401 18) : Int32).toInt) := i_mulE (by decide : (6 : Int32).toInt = 6) rfl (by omega); have e2 : ((6 * (M 401 18)) + p0 : Int32).toInt = ((6 * ((M 401 18) : Int32).toInt) + p0.toInt) := i_addE e1 rfl (by omega); have e3 : (3 * ((6 * (M 401 18)) + p0) : Int32).toInt = (3 * ((6 * ((M 401 18) : Int32).toInt) + p0.toInt)) := i_mulE (by decide : (3 : Int32).toInt = 3) e2 (by omega); have e4 : ((3 * ((6 * (M 401 18)) + p0)) + p1 : Int32).toInt = ((3 * ((6 * ((M 401 18) : Int32).toInt) + p0.toInt)) + p1.toInt) := i_addE e3 rfl (by omega); have e5 : (((3 * ((6 * (M 401 18)) + p0)) + p1) - 2 : Int32).toInt = (((3 * ((6 * ((M 401 18) : Int32).toInt) + p0.toInt)) + p1.toInt) - 2) := i_subE e4 (by decide : (2 : Int32).toInt = 2) (by omega); exact vin_i (by omega) (by omega)) ?_
      refine g_ireturn (Or.inl rfl) d_Mod_food_86 rfl ?_
      exact hQ _
    by_cases h4024 : p1 = 3
    · refine g_tabK (tgt := 66) (off := 55) d_Mod_food_11 h4024 (by decide) (by decide) (by decide) (by decide) ?_
      refine g_aload_n (pc1 := 67) d_Mod_food_66 rfl 0 rfl ?_
      refine g_getr (pc1 := 70) d_Mod_food_67 rfl ⟨_, fo_Mod_55⟩ sh_401 (by decide) (rf_401_26 ld) ?_
      refine g_iconst (pc1 := 71) (v := 3) d_Mod_food_70 rfl (by decide) ?_
      refine g_bipush (pc1 := 73) (v := 6) d_Mod_food_71 rfl (by decide) ?_
      refine g_aload_n (pc1 := 74) d_Mod_food_73 rfl 0 rfl ?_
      refine g_geti (pc1 := 77) d_Mod_food_74 rfl ⟨_, fo_Mod_236⟩ sh_401 (by decide) ?_
      refine g_imul (pc1 := 78) d_Mod_food_77 rfl ?_
      refine g_iload_n (pc1 := 79) d_Mod_food_78 rfl 1 rfl ?_
      refine g_iadd (pc1 := 80) d_Mod_food_79 rfl ?_
      refine g_imul (pc1 := 81) d_Mod_food_80 rfl ?_
      refine g_iload_n (pc1 := 82) d_Mod_food_81 rfl 2 rfl ?_
      refine g_iadd (pc1 := 83) d_Mod_food_82 rfl ?_
      refine g_iconst (pc1 := 84) (v := 2) d_Mod_food_83 rfl (by decide) ?_
      refine g_isub (pc1 := 85) d_Mod_food_84 rfl ?_
      refine g_iald (pc1 := 86) d_Mod_food_85 rfl sh_414 (by decide) (by have l0 : (0 : Int32).toInt = 0 := (by decide); have l1 : (1 : Int32).toInt = 1 := (by decide); have l2 : (2 : Int32).toInt = 2 := (by decide); have l3 : (3 : Int32).toInt = 3 := (by decide); have l4 : (6 : Int32).toInt = 6 := (by decide); have r0 := (mt Int32.toInt_inj.mp h4021); have r1 := (mt Int32.toInt_inj.mp h4022); have r2 := (mt Int32.toInt_inj.mp h4023); have r3 := (congrArg Int32.toInt h4024); have r4 := (bp_t hbr4019 h4020); have r5 := hI.live; have r6 := (hI.foods (M 401 18).toNatClampNeg); have r7 := (i_b (M 401 18)); have r8 := (i_b (M 411 (M 401 18).toNatClampNeg)); have r9 := (i_b (p0)); have r10 := (i_b (p1)); have e1 : (6 * (M 401 18) : Int32).toInt = (6 * ((M 401 18) : Int32).toInt) := i_mulE (by decide : (6 : Int32).toInt = 6) rfl (by omega); have e2 : ((6 * (M 401 18)) + p0 : Int32).toInt = ((6 * ((M 401 18) : Int32).toInt) + p0.toInt) := i_addE e1 rfl (by omega); have e3 : (3 * ((6 * (M 401 18)) + p0) : Int32).toInt = (3 * ((6 * ((M 401 18) : Int32).toInt) + p0.toInt)) := i_mulE (by decide : (3 : Int32).toInt = 3) e2 (by omega); have e4 : ((3 * ((6 * (M 401 18)) + p0)) + p1 : Int32).toInt = ((3 * ((6 * ((M 401 18) : Int32).toInt) + p0.toInt)) + p1.toInt) := i_addE e3 rfl (by omega); have e5 : (((3 * ((6 * (M 401 18)) + p0)) + p1) - 2 : Int32).toInt = (((3 * ((6 * ((M 401 18) : Int32).toInt) + p0.toInt)) + p1.toInt) - 2) := i_subE e4 (by decide : (2 : Int32).toInt = 2) (by omega); exact vin_i (by omega) (by omega)) ?_
      refine g_ireturn (Or.inl rfl) d_Mod_food_86 rfl ?_
      exact hQ _
    by_cases h4025 : p1 = 4
    · refine g_tabK (tgt := 66) (off := 55) d_Mod_food_11 h4025 (by decide) (by decide) (by decide) (by decide) ?_
      refine g_aload_n (pc1 := 67) d_Mod_food_66 rfl 0 rfl ?_
      refine g_getr (pc1 := 70) d_Mod_food_67 rfl ⟨_, fo_Mod_55⟩ sh_401 (by decide) (rf_401_26 ld) ?_
      refine g_iconst (pc1 := 71) (v := 3) d_Mod_food_70 rfl (by decide) ?_
      refine g_bipush (pc1 := 73) (v := 6) d_Mod_food_71 rfl (by decide) ?_
      refine g_aload_n (pc1 := 74) d_Mod_food_73 rfl 0 rfl ?_
      refine g_geti (pc1 := 77) d_Mod_food_74 rfl ⟨_, fo_Mod_236⟩ sh_401 (by decide) ?_
      refine g_imul (pc1 := 78) d_Mod_food_77 rfl ?_
      refine g_iload_n (pc1 := 79) d_Mod_food_78 rfl 1 rfl ?_
      refine g_iadd (pc1 := 80) d_Mod_food_79 rfl ?_
      refine g_imul (pc1 := 81) d_Mod_food_80 rfl ?_
      refine g_iload_n (pc1 := 82) d_Mod_food_81 rfl 2 rfl ?_
      refine g_iadd (pc1 := 83) d_Mod_food_82 rfl ?_
      refine g_iconst (pc1 := 84) (v := 2) d_Mod_food_83 rfl (by decide) ?_
      refine g_isub (pc1 := 85) d_Mod_food_84 rfl ?_
      refine g_iald (pc1 := 86) d_Mod_food_85 rfl sh_414 (by decide) (by have l0 : (0 : Int32).toInt = 0 := (by decide); have l1 : (1 : Int32).toInt = 1 := (by decide); have l2 : (2 : Int32).toInt = 2 := (by decide); have l3 : (3 : Int32).toInt = 3 := (by decide); have l4 : (4 : Int32).toInt = 4 := (by decide); have l5 : (6 : Int32).toInt = 6 := (by decide); have r0 := (mt Int32.toInt_inj.mp h4021); have r1 := (mt Int32.toInt_inj.mp h4022); have r2 := (mt Int32.toInt_inj.mp h4023); have r3 := (mt Int32.toInt_inj.mp h4024); have r4 := (congrArg Int32.toInt h4025); have r5 := (bp_t hbr4019 h4020); have r6 := hI.live; have r7 := (hI.foods (M 401 18).toNatClampNeg); have r8 := (i_b (M 401 18)); have r9 := (i_b (M 411 (M 401 18).toNatClampNeg)); have r10 := (i_b (p0)); have r11 := (i_b (p1)); have e1 : (6 * (M 401 18) : Int32).toInt = (6 * ((M 401 18) : Int32).toInt) := i_mulE (by decide : (6 : Int32).toInt = 6) rfl (by omega); have e2 : ((6 * (M 401 18)) + p0 : Int32).toInt = ((6 * ((M 401 18) : Int32).toInt) + p0.toInt) := i_addE e1 rfl (by omega); have e3 : (3 * ((6 * (M 401 18)) + p0) : Int32).toInt = (3 * ((6 * ((M 401 18) : Int32).toInt) + p0.toInt)) := i_mulE (by decide : (3 : Int32).toInt = 3) e2 (by omega); have e4 : ((3 * ((6 * (M 401 18)) + p0)) + p1 : Int32).toInt = ((3 * ((6 * ((M 401 18) : Int32).toInt) + p0.toInt)) + p1.toInt) := i_addE e3 rfl (by omega); have e5 : (((3 * ((6 * (M 401 18)) + p0)) + p1) - 2 : Int32).toInt = (((3 * ((6 * ((M 401 18) : Int32).toInt) + p0.toInt)) + p1.toInt) - 2) := i_subE e4 (by decide : (2 : Int32).toInt = 2) (by omega); exact vin_i (by omega) (by omega)) ?_
      refine g_ireturn (Or.inl rfl) d_Mod_food_86 rfl ?_
      exact hQ _
    refine g_tabOut (tgt := 87) d_Mod_food_11 (by
      have nh4021 := neT (a := 0) h4021 (by decide)
      have nh4022 := neT (a := 1) h4022 (by decide)
      have nh4023 := neT (a := 2) h4023 (by decide)
      have nh4024 := neT (a := 3) h4024 (by decide)
      have nh4025 := neT (a := 4) h4025 (by decide)
      omega) (by decide) ?_
    refine g_iconst (pc1 := 88) (v := (-1)) d_Mod_food_87 rfl (by decide) ?_
    refine g_ireturn (Or.inl rfl) d_Mod_food_88 rfl ?_
    exact hQ _
  · refine g_iconst (pc1 := 9) (v := (-1)) d_Mod_food_8 rfl (by decide) ?_
    refine g_ireturn (Or.inl rfl) d_Mod_food_9 rfl ?_
    exact hQ _
set_option maxHeartbeats 4000000 in
set_option maxRecDepth 20000 in
theorem t2_Mod_often {l : Launch} {ld : Nat} (hld : isLa ld) {M : gM} {L : gL} {Q : Option Value → gM → gL → gR → Prop} (hI : Inv M) (p0 : Int32)  (hQ : ∀ (r : Int32) (M' : gM) (L' : gL), Kl MS1 M L M' L' → Q (some (.int r)) M' L' (rf ld)) : Tm l y_Mod_often (0, 0, 447) 447 [.ref 401, .int p0] M L (rf ld) Q := by
  refine Tm.of (by decide) (Nat.le_of_ble_eq_true rfl) ?_
  show Wp l y_Mod_often (0, 0, 447) 447 0 0 0 [(0, .ref 401), (1, .int p0)] [] M L (rf ld) Q
  refine g_aload_n (pc1 := 1) d_Mod_often_0 rfl 0 rfl ?_
  refine g_iload_n (pc1 := 2) d_Mod_often_1 rfl 1 rfl ?_
  refine g_callV0 (pc1 := 5) (As := [.int p0]) (rest := []) d_Mod_often_2 rfl mo_Mod_374 mi_Mod_isDish mv_Mod_isDish rfl sh_401 (by decide) (by decide) rfl rfl (Nat.le_of_ble_eq_true rfl) ?_
  refine t2_Mod_isDish hld hI _  (fun r4026 hbr4026 => ?_)
  refine g_if_ne (pc1 := 8) (tgt := 10) d_Mod_often_5 (by decide) rfl (fun h4027 => ?_) (fun h4027 => ?_)
  · refine g_aload_n (pc1 := 11) d_Mod_often_10 rfl 0 rfl ?_
    refine g_callV0 (pc1 := 14) (As := []) (rest := []) d_Mod_often_11 rfl mo_Mod_377 mi_Mod_copies mv_Mod_copies rfl sh_401 (by decide) (by decide) rfl rfl (Nat.le_of_ble_eq_true rfl) ?_
    refine t2_Mod_copies hld hI   (fun  M4028 L4029 k4030 => ?_)
    refine g_aload_n (pc1 := 15) d_Mod_often_14 rfl 0 rfl ?_
    refine g_iload_n (pc1 := 16) d_Mod_often_15 rfl 1 rfl ?_
    refine g_callV0 (pc1 := 19) (As := [.int p0]) (rest := []) d_Mod_often_16 rfl mo_Mod_356 mi_Mod_fillsPot mv_Mod_fillsPot rfl sh_401 (by decide) (by decide) rfl rfl (Nat.le_of_ble_eq_true rfl) ?_
    refine t2_Mod_fillsPot hld (Inv.keep hI inv_MS1 (Kl.trans Kl.rf k4030)) _ (by have r0 := (bp_t hbr4026 h4027); have r1 := (hI.dishes (M 401 18).toNatClampNeg); have r2 := (i_b (M 415 (M 401 18).toNatClampNeg)); have r3 := (i_b (p0)); omega) (fun  M4031 L4032 k4033 => ?_)
    refine g_sipush (pc1 := 22) (v := 999) d_Mod_often_19 rfl (by decide) ?_
    refine g_istore_n (pc1 := 23) (lv' := [(0, .ref 401), (1, .int p0), (2, .int 999)]) d_Mod_often_22 rfl rfl (by decide) [1, 2, 0] rfl ?_
    refine g_iconst (pc1 := 24) (v := 0) d_Mod_often_23 rfl (by decide) ?_
    refine g_istore_n (pc1 := 25) (lv' := [(0, .ref 401), (1, .int p0), (2, .int 999), (3, .int 0)]) d_Mod_often_24 rfl rfl (by decide) [1, 2, 3, 0] rfl ?_
    have LP4037 : ∀ (f4034 : Nat) (v4038 : Int32) (v4039 : Int32), (0 ≤ v4039.toInt) → (((M 411 ((M 401 18) : Int32).toNatClampNeg) : Int32).toInt - v4039.toInt).toNat < f4034 → Wp l y_Mod_often (0, 0, 447) 447 0 0 25 [(0, .ref 401), (1, .int p0), (2, .int v4038), (3, .int v4039)] [] M4031 L4032 (rf ld) Q := by
      intro f4034
      induction f4034 with
      | zero => intro v4038 v4039 _ hm4036; exact absurd hm4036 (Nat.not_lt_zero _)
      | succ f4034 ih4035 =>
        intro v4038 v4039 n4040 hm4036
        refine g_iload_n (pc1 := 26) d_Mod_often_25 rfl 3 rfl ?_
        refine g_aload_n (pc1 := 27) d_Mod_often_26 rfl 0 rfl ?_
        refine g_getr (pc1 := 30) d_Mod_often_27 rfl ⟨_, fo_Mod_46⟩ sh_401 (by decide) (rf_401_23 ld) ?_
        refine g_aload_n (pc1 := 31) d_Mod_often_30 rfl 0 rfl ?_
        refine g_geti (pc1 := 34) d_Mod_often_31 rfl ⟨_, fo_Mod_236⟩ sh_401 (by decide) ?_
        refine Wp.vali (y := (M 401 18)) ((Kl.m k4033 rfl).trans (Kl.m k4030 rfl)) ?_
        refine g_iald (pc1 := 35) d_Mod_often_34 rfl sh_411 (by decide) (by have r0 := hI.live; have r1 := (i_b (M 401 18)); exact vin_i (by omega) (by omega)) ?_
        refine Wp.vali (y := (M 411 ((M 401 18) : Int32).toNatClampNeg)) ((Kl.m k4033 rfl).trans (Kl.m k4030 rfl)) ?_
        refine g_icmp_ge (pc1 := 38) (tgt := 84) d_Mod_often_35 (by decide) rfl (fun h4041 => ?_) (fun h4041 => ?_)
        · refine g_iload_n (pc1 := 85) d_Mod_often_84 rfl 2 rfl ?_
          refine g_ireturn (Or.inl rfl) d_Mod_often_85 rfl ?_
          exact hQ _ _ _ (Kl.trans (Kl.trans Kl.rf k4030) k4033)
        · refine g_aload_n (pc1 := 39) d_Mod_often_38 rfl 0 rfl ?_
          refine g_getr (pc1 := 42) d_Mod_often_39 rfl ⟨_, fo_Mod_128⟩ sh_401 (by decide) (rf_401_55 ld) ?_
          refine g_iload_n (pc1 := 43) d_Mod_often_42 rfl 3 rfl ?_
          refine g_iald (pc1 := 44) d_Mod_often_43 rfl sh_438 (by decide) (by have r0 := (mt i_le.mpr h4041); have r1 := n4040; have r2 := (hI.foods (((M 401 18) : Int32).toNatClampNeg)); have r3 := (i_b (M 411 (M 401 18).toNatClampNeg)); have r4 := (i_b (v4039)); exact vin_i (by omega) (by omega)) ?_
          refine g_if_le (pc1 := 47) (tgt := 78) d_Mod_often_44 (by decide) rfl (fun h4042 => ?_) (fun h4042 => ?_)
          · obtain ⟨x4043, ex4043⟩ : ∃ y : Int32, y = v4039 + 1 := ⟨_, rfl⟩
            refine g_iinc (pc1 := 81) (v := x4043) (lv' := [(0, .ref 401), (1, .int p0), (2, .int v4038), (3, .int x4043)]) d_Mod_often_78 rfl 3 rfl (by rw [ex4043]; rfl) (by decide) [1, 2, 3, 0] rfl ?_
            refine g_goto (tgt := 25) d_Mod_often_81 (by decide) ?_
            exact ih4035 v4038 x4043 (by have l0 : (1 : Int32).toInt = 1 := (by decide); have r0 := (mt i_le.mpr h4041); have r1 := n4040; have r2 := (hI.foods (((M 401 18) : Int32).toNatClampNeg)); have r3 := (i_b (M 411 (M 401 18).toNatClampNeg)); have r4 := (i_b (v4039)); have r5 := (i_b (x4043)); have e1 : (v4039 + 1 : Int32).toInt = (v4039.toInt + 1) := i_addE rfl (by decide : (1 : Int32).toInt = 1) (by omega); have d2 : x4043.toInt = (v4039.toInt + 1) := (congrArg Int32.toInt ex4043).trans e1; omega) (by have l0 : (1 : Int32).toInt = 1 := (by decide); have r0 := (mt i_le.mpr h4041); have r1 := n4040; have r2 := hm4036; have r3 := (hI.foods (((M 401 18) : Int32).toNatClampNeg)); have r4 := (i_b (M 411 (M 401 18).toNatClampNeg)); have r5 := (i_b (v4039)); have r6 := (i_b (x4043)); have e1 : (v4039 + 1 : Int32).toInt = (v4039.toInt + 1) := i_addE rfl (by decide : (1 : Int32).toInt = 1) (by omega); have d2 : x4043.toInt = (v4039.toInt + 1) := (congrArg Int32.toInt ex4043).trans e1; omega)
          · refine g_aload_n (pc1 := 48) d_Mod_often_47 rfl 0 rfl ?_
            refine g_getr (pc1 := 51) d_Mod_often_48 rfl ⟨_, fo_Mod_125⟩ sh_401 (by decide) (rf_401_53 ld) ?_
            refine g_iload_n (pc1 := 52) d_Mod_often_51 rfl 3 rfl ?_
            refine g_iald (pc1 := 53) d_Mod_often_52 rfl sh_437 (by decide) (by have r0 := (mt i_le.mpr h4041); have r1 := n4040; have r2 := (hI.foods (((M 401 18) : Int32).toNatClampNeg)); have r3 := (i_b (M 411 (M 401 18).toNatClampNeg)); have r4 := (i_b (v4039)); exact vin_i (by omega) (by omega)) ?_
            refine g_aload_n (pc1 := 54) d_Mod_often_53 rfl 0 rfl ?_
            refine g_getr (pc1 := 57) d_Mod_often_54 rfl ⟨_, fo_Mod_128⟩ sh_401 (by decide) (rf_401_55 ld) ?_
            refine g_iload_n (pc1 := 58) d_Mod_often_57 rfl 3 rfl ?_
            refine g_iald (pc1 := 59) d_Mod_often_58 rfl sh_438 (by decide) (by have r0 := (mt i_le.mpr h4041); have r1 := n4040; have r2 := (hI.foods (((M 401 18) : Int32).toNatClampNeg)); have r3 := (i_b (M 411 (M 401 18).toNatClampNeg)); have r4 := (i_b (v4039)); exact vin_i (by omega) (by omega)) ?_
            refine g_idiv (pc1 := 60) d_Mod_often_59 rfl (fun q => h4042 (by rw [q]; decide)) ?_
            refine g_iload_n (pc1 := 61) d_Mod_often_60 rfl 2 rfl ?_
            refine g_icmp_ge (pc1 := 64) (tgt := 78) d_Mod_often_61 (by decide) rfl (fun h4044 => ?_) (fun h4044 => ?_)
            · obtain ⟨x4045, ex4045⟩ : ∃ y : Int32, y = v4039 + 1 := ⟨_, rfl⟩
              refine g_iinc (pc1 := 81) (v := x4045) (lv' := [(0, .ref 401), (1, .int p0), (2, .int v4038), (3, .int x4045)]) d_Mod_often_78 rfl 3 rfl (by rw [ex4045]; rfl) (by decide) [1, 2, 3, 0] rfl ?_
              refine g_goto (tgt := 25) d_Mod_often_81 (by decide) ?_
              exact ih4035 v4038 x4045 (by have l0 : (1 : Int32).toInt = 1 := (by decide); have r0 := (mt i_le.mpr h4041); have r1 := n4040; have r2 := (hI.foods (((M 401 18) : Int32).toNatClampNeg)); have r3 := (i_b (M 411 (M 401 18).toNatClampNeg)); have r4 := (i_b (v4039)); have r5 := (i_b (x4045)); have e1 : (v4039 + 1 : Int32).toInt = (v4039.toInt + 1) := i_addE rfl (by decide : (1 : Int32).toInt = 1) (by omega); have d2 : x4045.toInt = (v4039.toInt + 1) := (congrArg Int32.toInt ex4045).trans e1; omega) (by have l0 : (1 : Int32).toInt = 1 := (by decide); have r0 := (mt i_le.mpr h4041); have r1 := n4040; have r2 := hm4036; have r3 := (hI.foods (((M 401 18) : Int32).toNatClampNeg)); have r4 := (i_b (M 411 (M 401 18).toNatClampNeg)); have r5 := (i_b (v4039)); have r6 := (i_b (x4045)); have e1 : (v4039 + 1 : Int32).toInt = (v4039.toInt + 1) := i_addE rfl (by decide : (1 : Int32).toInt = 1) (by omega); have d2 : x4045.toInt = (v4039.toInt + 1) := (congrArg Int32.toInt ex4045).trans e1; omega)
            · refine g_aload_n (pc1 := 65) d_Mod_often_64 rfl 0 rfl ?_
              refine g_getr (pc1 := 68) d_Mod_often_65 rfl ⟨_, fo_Mod_125⟩ sh_401 (by decide) (rf_401_53 ld) ?_
              refine g_iload_n (pc1 := 69) d_Mod_often_68 rfl 3 rfl ?_
              refine g_iald (pc1 := 70) d_Mod_often_69 rfl sh_437 (by decide) (by have r0 := (mt i_le.mpr h4041); have r1 := n4040; have r2 := (hI.foods (((M 401 18) : Int32).toNatClampNeg)); have r3 := (i_b (M 411 (M 401 18).toNatClampNeg)); have r4 := (i_b (v4039)); exact vin_i (by omega) (by omega)) ?_
              refine g_aload_n (pc1 := 71) d_Mod_often_70 rfl 0 rfl ?_
              refine g_getr (pc1 := 74) d_Mod_often_71 rfl ⟨_, fo_Mod_128⟩ sh_401 (by decide) (rf_401_55 ld) ?_
              refine g_iload_n (pc1 := 75) d_Mod_often_74 rfl 3 rfl ?_
              refine g_iald (pc1 := 76) d_Mod_often_75 rfl sh_438 (by decide) (by have r0 := (mt i_le.mpr h4041); have r1 := n4040; have r2 := (hI.foods (((M 401 18) : Int32).toNatClampNeg)); have r3 := (i_b (M 411 (M 401 18).toNatClampNeg)); have r4 := (i_b (v4039)); exact vin_i (by omega) (by omega)) ?_
              refine g_idiv (pc1 := 77) d_Mod_often_76 rfl (fun q => h4042 (by rw [q]; decide)) ?_
              refine Wp.topi (fun x4046 ex4046 => ?_)
              refine g_istore_n (pc1 := 78) (lv' := [(0, .ref 401), (1, .int p0), (2, .int x4046), (3, .int v4039)]) d_Mod_often_77 rfl rfl (by decide) [1, 2, 0, 3] rfl ?_
              obtain ⟨x4047, ex4047⟩ : ∃ y : Int32, y = v4039 + 1 := ⟨_, rfl⟩
              refine g_iinc (pc1 := 81) (v := x4047) (lv' := [(0, .ref 401), (1, .int p0), (2, .int x4046), (3, .int x4047)]) d_Mod_often_78 rfl 3 rfl (by rw [ex4047]; rfl) (by decide) [1, 2, 3, 0] rfl ?_
              refine g_goto (tgt := 25) d_Mod_often_81 (by decide) ?_
              exact ih4035 x4046 x4047 (by have l0 : (1 : Int32).toInt = 1 := (by decide); have r0 := (mt i_le.mpr h4041); have r1 := n4040; have r2 := (hI.foods (((M 401 18) : Int32).toNatClampNeg)); have r3 := (i_b (M 411 (M 401 18).toNatClampNeg)); have r4 := (i_b (v4039)); have r5 := (i_b (x4047)); have e1 : (v4039 + 1 : Int32).toInt = (v4039.toInt + 1) := i_addE rfl (by decide : (1 : Int32).toInt = 1) (by omega); have d2 : x4047.toInt = (v4039.toInt + 1) := (congrArg Int32.toInt ex4047).trans e1; omega) (by have l0 : (1 : Int32).toInt = 1 := (by decide); have r0 := (mt i_le.mpr h4041); have r1 := n4040; have r2 := hm4036; have r3 := (hI.foods (((M 401 18) : Int32).toNatClampNeg)); have r4 := (i_b (M 411 (M 401 18).toNatClampNeg)); have r5 := (i_b (v4039)); have r6 := (i_b (x4047)); have e1 : (v4039 + 1 : Int32).toInt = (v4039.toInt + 1) := i_addE rfl (by decide : (1 : Int32).toInt = 1) (by omega); have d2 : x4047.toInt = (v4039.toInt + 1) := (congrArg Int32.toInt ex4047).trans e1; omega)
    exact LP4037 _ 999 0 (by decide) (Nat.lt_succ_self _)
  · refine g_iconst (pc1 := 9) (v := (-1)) d_Mod_often_8 rfl (by decide) ?_
    refine g_ireturn (Or.inl rfl) d_Mod_often_9 rfl ?_
    exact hQ _ _ _ Kl.rf
set_option maxHeartbeats 4000000 in
set_option maxRecDepth 20000 in
theorem t2_Mod_boundBy {l : Launch} {ld : Nat} (hld : isLa ld) {M : gM} {L : gL} {Q : Option Value → gM → gL → gR → Prop} (hI : Inv M) (p0 : Int32) (p1 : Int32) (p2 : Int32) (p3 : Int32) (h0 : 0 ≤ (p0 : Int32).toInt ∧ (p0 : Int32).toInt ≤ 3) (hQ : ∀ (r : Int32) (M' : gM) (L' : gL), (0 ≤ r.toInt ∧ r.toInt ≤ 99) → Kl MS0 M L M' L' → Q (some (.int r)) M' L' (rf ld)) : Tm l y_Mod_boundBy (0, 0, 447) 447 [.ref 401, .int p0, .int p1, .int p2, .int p3] M L (rf ld) Q := by
  refine Tm.of (by decide) (Nat.le_of_ble_eq_true rfl) ?_
  show Wp l y_Mod_boundBy (0, 0, 447) 447 0 0 0 [(0, .ref 401), (1, .int p0), (2, .int p1), (3, .int p2), (4, .int p3)] [] M L (rf ld) Q
  refine g_aload_n (pc1 := 1) d_Mod_boundBy_0 rfl 0 rfl ?_
  refine g_callV0 (pc1 := 4) (As := []) (rest := []) d_Mod_boundBy_1 rfl mo_Mod_336 mi_Mod_looks mv_Mod_looks rfl sh_401 (by decide) (by decide) rfl rfl (Nat.le_of_ble_eq_true rfl) ?_
  refine t2_Mod_looks hld hI   (fun  M4048 L4049 k4050 => ?_)
  refine g_aload_n (pc1 := 5) d_Mod_boundBy_4 rfl 0 rfl ?_
  refine g_getr (pc1 := 8) d_Mod_boundBy_5 rfl ⟨_, fo_Mod_116⟩ sh_401 (by decide) (rf_401_49 ld) ?_
  refine g_iconst (pc1 := 9) (v := 0) d_Mod_boundBy_8 rfl (by decide) ?_
  refine g_iload_n (pc1 := 10) d_Mod_boundBy_9 rfl 3 rfl ?_
  refine g_iast (pc1 := 11) d_Mod_boundBy_10 rfl sh_434 (by decide) (vin_lit (x := 0) (by decide)) ?_
  refine Wp.topM (fun M4051 eM4051 => ?_)
  refine g_aload_n (pc1 := 12) d_Mod_boundBy_11 rfl 0 rfl ?_
  refine g_getr (pc1 := 15) d_Mod_boundBy_12 rfl ⟨_, fo_Mod_116⟩ sh_401 (by decide) (rf_401_49 ld) ?_
  refine g_iconst (pc1 := 16) (v := 2) d_Mod_boundBy_15 rfl (by decide) ?_
  refine g_iload_n (pc1 := 17) d_Mod_boundBy_16 rfl 2 rfl ?_
  refine g_iast (pc1 := 18) d_Mod_boundBy_17 rfl sh_434 (by decide) (vin_lit (x := 2) (by decide)) ?_
  refine Wp.topM (fun M4052 eM4052 => ?_)
  refine g_aload_n (pc1 := 19) d_Mod_boundBy_18 rfl 0 rfl ?_
  refine g_getr (pc1 := 22) d_Mod_boundBy_19 rfl ⟨_, fo_Mod_116⟩ sh_401 (by decide) (rf_401_49 ld) ?_
  refine g_iconst (pc1 := 23) (v := 5) d_Mod_boundBy_22 rfl (by decide) ?_
  refine g_aload_n (pc1 := 24) d_Mod_boundBy_23 rfl 0 rfl ?_
  refine g_getr (pc1 := 27) d_Mod_boundBy_24 rfl ⟨_, fo_Mod_70⟩ sh_401 (by decide) (rf_401_31 ld) ?_
  refine g_iconst (pc1 := 28) (v := 4) d_Mod_boundBy_27 rfl (by decide) ?_
  refine g_aload_n (pc1 := 29) d_Mod_boundBy_28 rfl 0 rfl ?_
  refine g_geti (pc1 := 32) d_Mod_boundBy_29 rfl ⟨_, fo_Mod_236⟩ sh_401 (by decide) ?_
  refine Wp.vali (y := (M 401 18)) (((rd_ne eM4052 (fun q => absurd q.1 (by decide))).trans (rd_ne eM4051 (fun q => absurd q.1 (by decide)))).trans (Kl.m k4050 rfl)) ?_
  refine g_imul (pc1 := 33) d_Mod_boundBy_32 rfl ?_
  refine g_iload_n (pc1 := 34) d_Mod_boundBy_33 rfl 1 rfl ?_
  refine g_iadd (pc1 := 35) d_Mod_boundBy_34 rfl ?_
  refine g_iald (pc1 := 36) d_Mod_boundBy_35 rfl sh_419 (by decide) (by have l0 : (4 : Int32).toInt = 4 := (by decide); have r0 := h0; have r1 := hI.live; have r2 := (i_b (M 401 18)); have r3 := (i_b (p0)); have e1 : (4 * (M 401 18) : Int32).toInt = (4 * ((M 401 18) : Int32).toInt) := i_mulE (by decide : (4 : Int32).toInt = 4) rfl (by omega); have e2 : ((4 * (M 401 18)) + p0 : Int32).toInt = ((4 * ((M 401 18) : Int32).toInt) + p0.toInt) := i_addE e1 rfl (by omega); exact vin_i (by omega) (by omega)) ?_
  refine Wp.vali (y := (M 419 (((4 * (M 401 18)) + p0) : Int32).toNatClampNeg)) (((rd_ne eM4052 (fun q => absurd q.1 (by decide))).trans (rd_ne eM4051 (fun q => absurd q.1 (by decide)))).trans (Kl.m k4050 rfl)) ?_
  refine g_iast (pc1 := 37) d_Mod_boundBy_36 rfl sh_434 (by decide) (vin_lit (x := 5) (by decide)) ?_
  refine Wp.topM (fun M4053 eM4053 => ?_)
  refine g_aload_n (pc1 := 38) d_Mod_boundBy_37 rfl 0 rfl ?_
  refine g_getr (pc1 := 41) d_Mod_boundBy_38 rfl ⟨_, fo_Mod_116⟩ sh_401 (by decide) (rf_401_49 ld) ?_
  refine g_bipush (pc1 := 43) (v := 6) d_Mod_boundBy_41 rfl (by decide) ?_
  refine g_iload (pc1 := 45) d_Mod_boundBy_43 rfl 4 rfl ?_
  refine g_iast (pc1 := 46) d_Mod_boundBy_45 rfl sh_434 (by decide) (vin_lit (x := 6) (by decide)) ?_
  refine Wp.topM (fun M4054 eM4054 => ?_)
  refine g_aload_n (pc1 := 47) d_Mod_boundBy_46 rfl 0 rfl ?_
  refine g_iconst (pc1 := 48) (v := 1) d_Mod_boundBy_47 rfl (by decide) ?_
  refine g_iload_n (pc1 := 49) d_Mod_boundBy_48 rfl 3 rfl ?_
  refine g_iload (pc1 := 51) d_Mod_boundBy_49 rfl 4 rfl ?_
  refine g_isub (pc1 := 52) d_Mod_boundBy_51 rfl ?_
  refine g_iconst (pc1 := 53) (v := 0) d_Mod_boundBy_52 rfl (by decide) ?_
  refine g_bipush (pc1 := 55) (v := 99) d_Mod_boundBy_53 rfl (by decide) ?_
  refine g_callV0 (pc1 := 58) (As := [.int 1, .int (p2 - p3), .int 0, .int 99]) (rest := []) d_Mod_boundBy_55 rfl mo_Mod_342 mi_Mod_asks mv_Mod_asks rfl sh_401 (by decide) (by decide) rfl rfl (Nat.le_of_ble_eq_true rfl) ?_
  refine t2_Mod_asks hld (Inv.keep hI inv_MS0 (Kl.wM (Kl.wM (Kl.wM (Kl.wM (Kl.trans Kl.rf k4050) rfl eM4051) rfl eM4052) rfl eM4053) rfl eM4054)) _ _ _ _ (by have l0 : (1 : Int32).toInt = 1 := (by decide); omega) (by have l0 : (0 : Int32).toInt = 0 := (by decide); have l1 : (99 : Int32).toInt = 99 := (by decide); omega) (fun r4055 M4056 L4057 hbr4055 k4058 => ?_)
  refine g_ireturn (Or.inl rfl) d_Mod_boundBy_58 rfl ?_
  exact hQ _ _ _ (by have l0 : (0 : Int32).toInt = 0 := (by decide); have l1 : (1 : Int32).toInt = 1 := (by decide); have l2 : (99 : Int32).toInt = 99 := (by decide); have r0 := h0; have r1 := hbr4055; have r2 := (i_b (p0)); have r3 := (i_b (p1)); have r4 := (i_b (p2)); have r5 := (i_b (p3)); have r6 := (i_b (r4055)); (try have e1 : (p2 - p3 : Int32).toInt = (p2.toInt - p3.toInt) := i_subE rfl rfl (by omega)); omega) (Kl.trans (Kl.wM (Kl.wM (Kl.wM (Kl.wM (Kl.trans Kl.rf k4050) rfl eM4051) rfl eM4052) rfl eM4053) rfl eM4054) k4058)
set_option maxHeartbeats 4000000 in
set_option maxRecDepth 20000 in
theorem t2_Mod_dayGoes {l : Launch} {ld : Nat} (hld : isLa ld) {M : gM} {L : gL} {Q : Option Value → gM → gL → gR → Prop} (hI : Inv M)   (hQ : ∀  (M' : gM) (L' : gL), Kl MS1 M L M' L' → Q none M' L' (rf ld)) : Tm l y_Mod_dayGoes (0, 0, 447) 447 [.ref 401] M L (rf ld) Q := by
  refine Tm.of (by decide) (Nat.le_of_ble_eq_true rfl) ?_
  show Wp l y_Mod_dayGoes (0, 0, 447) 447 0 0 0 [(0, .ref 401)] [] M L (rf ld) Q
  refine g_iconst (pc1 := 1) (v := 0) d_Mod_dayGoes_0 rfl (by decide) ?_
  refine g_istore_n (pc1 := 2) (lv' := [(0, .ref 401), (1, .int 0)]) d_Mod_dayGoes_1 rfl rfl (by decide) [1, 0] rfl ?_
  have LP4062 : ∀ (f4059 : Nat) (v4063 : Int32) (M4064 : gM) (L4065 : gL), Kl MS1 M L M4064 L4065 → (0 ≤ v4063.toInt) → (((M 411 ((M 401 18) : Int32).toNatClampNeg) : Int32).toInt - v4063.toInt).toNat < f4059 → Wp l y_Mod_dayGoes (0, 0, 447) 447 0 0 2 [(0, .ref 401), (1, .int v4063)] [] M4064 L4065 (rf ld) Q := by
    intro f4059
    induction f4059 with
    | zero => intro v4063 M4064 L4065 _ _ hm4061; exact absurd hm4061 (Nat.not_lt_zero _)
    | succ f4059 ih4060 =>
      intro v4063 M4064 L4065 k4066 n4067 hm4061
      refine g_iload_n (pc1 := 3) d_Mod_dayGoes_2 rfl 1 rfl ?_
      refine g_aload_n (pc1 := 4) d_Mod_dayGoes_3 rfl 0 rfl ?_
      refine g_getr (pc1 := 7) d_Mod_dayGoes_4 rfl ⟨_, fo_Mod_46⟩ sh_401 (by decide) (rf_401_23 ld) ?_
      refine g_aload_n (pc1 := 8) d_Mod_dayGoes_7 rfl 0 rfl ?_
      refine g_geti (pc1 := 11) d_Mod_dayGoes_8 rfl ⟨_, fo_Mod_236⟩ sh_401 (by decide) ?_
      refine Wp.vali (y := (M 401 18)) (Kl.m k4066 rfl) ?_
      refine g_iald (pc1 := 12) d_Mod_dayGoes_11 rfl sh_411 (by decide) (by have r0 := hI.live; have r1 := (i_b (M 401 18)); exact vin_i (by omega) (by omega)) ?_
      refine Wp.vali (y := (M 411 ((M 401 18) : Int32).toNatClampNeg)) (Kl.m k4066 rfl) ?_
      refine g_icmp_ge (pc1 := 15) (tgt := 95) d_Mod_dayGoes_12 (by decide) rfl (fun h4068 => ?_) (fun h4068 => ?_)
      · refine g_iconst (pc1 := 96) (v := 0) d_Mod_dayGoes_95 rfl (by decide) ?_
        refine g_istore_n (pc1 := 97) (lv' := [(0, .ref 401), (1, .int 0)]) d_Mod_dayGoes_96 rfl rfl (by decide) [1, 0] rfl ?_
        have LP4072 : ∀ (f4069 : Nat) (v4073 : Int32) (M4074 : gM) (L4075 : gL), Kl MS1 M L M4074 L4075 → (0 ≤ v4073.toInt) → (((M 411 ((M 401 18) : Int32).toNatClampNeg) : Int32).toInt - v4073.toInt).toNat < f4069 → Wp l y_Mod_dayGoes (0, 0, 447) 447 0 0 97 [(0, .ref 401), (1, .int v4073)] [] M4074 L4075 (rf ld) Q := by
          intro f4069
          induction f4069 with
          | zero => intro v4073 M4074 L4075 _ _ hm4071; exact absurd hm4071 (Nat.not_lt_zero _)
          | succ f4069 ih4070 =>
            intro v4073 M4074 L4075 k4076 n4077 hm4071
            refine g_iload_n (pc1 := 98) d_Mod_dayGoes_97 rfl 1 rfl ?_
            refine g_aload_n (pc1 := 99) d_Mod_dayGoes_98 rfl 0 rfl ?_
            refine g_getr (pc1 := 102) d_Mod_dayGoes_99 rfl ⟨_, fo_Mod_46⟩ sh_401 (by decide) (rf_401_23 ld) ?_
            refine g_aload_n (pc1 := 103) d_Mod_dayGoes_102 rfl 0 rfl ?_
            refine g_geti (pc1 := 106) d_Mod_dayGoes_103 rfl ⟨_, fo_Mod_236⟩ sh_401 (by decide) ?_
            refine Wp.vali (y := (M 401 18)) (Kl.m k4076 rfl) ?_
            refine g_iald (pc1 := 107) d_Mod_dayGoes_106 rfl sh_411 (by decide) (by have r0 := hI.live; have r1 := (i_b (M 401 18)); exact vin_i (by omega) (by omega)) ?_
            refine Wp.vali (y := (M 411 ((M 401 18) : Int32).toNatClampNeg)) (Kl.m k4076 rfl) ?_
            refine g_icmp_ge (pc1 := 110) (tgt := 128) d_Mod_dayGoes_107 (by decide) rfl (fun h4078 => ?_) (fun h4078 => ?_)
            · refine g_aload_n (pc1 := 129) d_Mod_dayGoes_128 rfl 0 rfl ?_
              refine g_getr (pc1 := 132) d_Mod_dayGoes_129 rfl ⟨_, fo_Mod_125⟩ sh_401 (by decide) (rf_401_53 ld) ?_
              refine g_bipush (pc1 := 134) (v := 35) d_Mod_dayGoes_132 rfl (by decide) ?_
              refine g_dup2 (pc1 := 135) d_Mod_dayGoes_134 rfl rfl rfl ?_
              refine g_iald (pc1 := 136) d_Mod_dayGoes_135 rfl sh_437 (by decide) (vin_lit (x := 35) (by decide)) ?_
              refine g_iconst (pc1 := 137) (v := 1) d_Mod_dayGoes_136 rfl (by decide) ?_
              refine g_iadd (pc1 := 138) d_Mod_dayGoes_137 rfl ?_
              refine g_iast (pc1 := 139) d_Mod_dayGoes_138 rfl sh_437 (by decide) (vin_lit (x := 35) (by decide)) ?_
              refine Wp.topM (fun M4079 eM4079 => ?_)
              refine g_return rfl d_Mod_dayGoes_139 rfl ?_
              exact hQ _ _ (Kl.wM k4076 rfl eM4079)
            · refine g_aload_n (pc1 := 111) d_Mod_dayGoes_110 rfl 0 rfl ?_
              refine g_getr (pc1 := 114) d_Mod_dayGoes_111 rfl ⟨_, fo_Mod_125⟩ sh_401 (by decide) (rf_401_53 ld) ?_
              refine g_iload_n (pc1 := 115) d_Mod_dayGoes_114 rfl 1 rfl ?_
              refine g_aload_n (pc1 := 116) d_Mod_dayGoes_115 rfl 0 rfl ?_
              refine g_getr (pc1 := 119) d_Mod_dayGoes_116 rfl ⟨_, fo_Mod_131⟩ sh_401 (by decide) (rf_401_56 ld) ?_
              refine g_iload_n (pc1 := 120) d_Mod_dayGoes_119 rfl 1 rfl ?_
              refine g_iald (pc1 := 121) d_Mod_dayGoes_120 rfl sh_439 (by decide) (by have r0 := (mt i_le.mpr h4078); have r1 := n4077; have r2 := (i_le.mp h4068); have r3 := (hI.foods (((M 401 18) : Int32).toNatClampNeg)); have r4 := n4067; have r5 := (i_b (M 411 (M 401 18).toNatClampNeg)); have r6 := (i_b (v4063)); have r7 := (i_b (v4073)); exact vin_i (by omega) (by omega)) ?_
              refine g_iast (pc1 := 122) d_Mod_dayGoes_121 rfl sh_437 (by decide) (by have r0 := (mt i_le.mpr h4078); have r1 := n4077; have r2 := (i_le.mp h4068); have r3 := (hI.foods (((M 401 18) : Int32).toNatClampNeg)); have r4 := n4067; have r5 := (i_b (M 411 (M 401 18).toNatClampNeg)); have r6 := (i_b (v4063)); have r7 := (i_b (v4073)); exact vin_i (by omega) (by omega)) ?_
              refine Wp.topM (fun M4080 eM4080 => ?_)
              obtain ⟨x4081, ex4081⟩ : ∃ y : Int32, y = v4073 + 1 := ⟨_, rfl⟩
              refine g_iinc (pc1 := 125) (v := x4081) (lv' := [(0, .ref 401), (1, .int x4081)]) d_Mod_dayGoes_122 rfl 1 rfl (by rw [ex4081]; rfl) (by decide) [1, 0] rfl ?_
              refine g_goto (tgt := 97) d_Mod_dayGoes_125 (by decide) ?_
              exact ih4070 x4081 M4080 L4075 (Kl.wM k4076 rfl eM4080) (by have l0 : (1 : Int32).toInt = 1 := (by decide); have r0 := (mt i_le.mpr h4078); have r1 := n4077; have r2 := (i_le.mp h4068); have r3 := (hI.foods (((M 401 18) : Int32).toNatClampNeg)); have r4 := n4067; have r5 := (i_b (M 411 (M 401 18).toNatClampNeg)); have r6 := (i_b (v4063)); have r7 := (i_b (v4073)); have r8 := (i_b (x4081)); have e1 : (v4073 + 1 : Int32).toInt = (v4073.toInt + 1) := i_addE rfl (by decide : (1 : Int32).toInt = 1) (by omega); have d2 : x4081.toInt = (v4073.toInt + 1) := (congrArg Int32.toInt ex4081).trans e1; omega) (by have l0 : (1 : Int32).toInt = 1 := (by decide); have r0 := (mt i_le.mpr h4078); have r1 := n4077; have r2 := hm4071; have r3 := (i_le.mp h4068); have r4 := (hI.foods (((M 401 18) : Int32).toNatClampNeg)); have r5 := n4067; have r6 := (i_b (M 411 (M 401 18).toNatClampNeg)); have r7 := (i_b (v4063)); have r8 := (i_b (v4073)); have r9 := (i_b (x4081)); have e1 : (v4073 + 1 : Int32).toInt = (v4073.toInt + 1) := i_addE rfl (by decide : (1 : Int32).toInt = 1) (by omega); have d2 : x4081.toInt = (v4073.toInt + 1) := (congrArg Int32.toInt ex4081).trans e1; omega)
        exact LP4072 _ 0 M4064 L4065 k4066 (by decide) (Nat.lt_succ_self _)
      · refine g_aload_n (pc1 := 16) d_Mod_dayGoes_15 rfl 0 rfl ?_
        refine g_callV0 (pc1 := 19) (As := []) (rest := []) d_Mod_dayGoes_16 rfl mo_Mod_336 mi_Mod_looks mv_Mod_looks rfl sh_401 (by decide) (by decide) rfl rfl (Nat.le_of_ble_eq_true rfl) ?_
        refine t2_Mod_looks hld (Inv.keep hI inv_MS1 k4066)   (fun  M4082 L4083 k4084 => ?_)
        refine g_aload_n (pc1 := 20) d_Mod_dayGoes_19 rfl 0 rfl ?_
        refine g_getr (pc1 := 23) d_Mod_dayGoes_20 rfl ⟨_, fo_Mod_116⟩ sh_401 (by decide) (rf_401_49 ld) ?_
        refine g_iconst (pc1 := 24) (v := 2) d_Mod_dayGoes_23 rfl (by decide) ?_
        refine g_iload_n (pc1 := 25) d_Mod_dayGoes_24 rfl 1 rfl ?_
        refine g_iast (pc1 := 26) d_Mod_dayGoes_25 rfl sh_434 (by decide) (vin_lit (x := 2) (by decide)) ?_
        refine Wp.topM (fun M4085 eM4085 => ?_)
        refine g_aload_n (pc1 := 27) d_Mod_dayGoes_26 rfl 0 rfl ?_
        refine g_getr (pc1 := 30) d_Mod_dayGoes_27 rfl ⟨_, fo_Mod_116⟩ sh_401 (by decide) (rf_401_49 ld) ?_
        refine g_bipush (pc1 := 32) (v := 7) d_Mod_dayGoes_30 rfl (by decide) ?_
        refine g_aload_n (pc1 := 33) d_Mod_dayGoes_32 rfl 0 rfl ?_
        refine g_getr (pc1 := 36) d_Mod_dayGoes_33 rfl ⟨_, fo_Mod_125⟩ sh_401 (by decide) (rf_401_53 ld) ?_
        refine g_iload_n (pc1 := 37) d_Mod_dayGoes_36 rfl 1 rfl ?_
        refine g_iald (pc1 := 38) d_Mod_dayGoes_37 rfl sh_437 (by decide) (by have r0 := (mt i_le.mpr h4068); have r1 := n4067; have r2 := (hI.foods (((M 401 18) : Int32).toNatClampNeg)); have r3 := (i_b (M 411 (M 401 18).toNatClampNeg)); have r4 := (i_b (v4063)); exact vin_i (by omega) (by omega)) ?_
        refine Wp.vali (y := (M4064 437 (v4063 : Int32).toNatClampNeg)) ((rd_ne eM4085 (fun q => absurd q.1 (by decide))).trans (Kl.m k4084 rfl)) ?_
        refine g_iast (pc1 := 39) d_Mod_dayGoes_38 rfl sh_434 (by decide) (vin_lit (x := 7) (by decide)) ?_
        refine Wp.topM (fun M4086 eM4086 => ?_)
        refine g_aload_n (pc1 := 40) d_Mod_dayGoes_39 rfl 0 rfl ?_
        refine g_getr (pc1 := 43) d_Mod_dayGoes_40 rfl ⟨_, fo_Mod_116⟩ sh_401 (by decide) (rf_401_49 ld) ?_
        refine g_bipush (pc1 := 45) (v := 8) d_Mod_dayGoes_43 rfl (by decide) ?_
        refine g_aload_n (pc1 := 46) d_Mod_dayGoes_45 rfl 0 rfl ?_
        refine g_getr (pc1 := 49) d_Mod_dayGoes_46 rfl ⟨_, fo_Mod_52⟩ sh_401 (by decide) (rf_401_25 ld) ?_
        refine g_bipush (pc1 := 51) (v := 6) d_Mod_dayGoes_49 rfl (by decide) ?_
        refine g_aload_n (pc1 := 52) d_Mod_dayGoes_51 rfl 0 rfl ?_
        refine g_geti (pc1 := 55) d_Mod_dayGoes_52 rfl ⟨_, fo_Mod_236⟩ sh_401 (by decide) ?_
        refine Wp.vali (y := (M 401 18)) ((((rd_ne eM4086 (fun q => absurd q.1 (by decide))).trans (rd_ne eM4085 (fun q => absurd q.1 (by decide)))).trans (Kl.m k4084 rfl)).trans (Kl.m k4066 rfl)) ?_
        refine g_imul (pc1 := 56) d_Mod_dayGoes_55 rfl ?_
        refine g_iload_n (pc1 := 57) d_Mod_dayGoes_56 rfl 1 rfl ?_
        refine g_iadd (pc1 := 58) d_Mod_dayGoes_57 rfl ?_
        refine g_iald (pc1 := 59) d_Mod_dayGoes_58 rfl sh_413 (by decide) (by have l0 : (6 : Int32).toInt = 6 := (by decide); have r0 := (mt i_le.mpr h4068); have r1 := n4067; have r2 := hI.live; have r3 := (hI.foods (((M 401 18) : Int32).toNatClampNeg)); have r4 := (i_b (M 401 18)); have r5 := (i_b (M 411 (M 401 18).toNatClampNeg)); have r6 := (i_b (v4063)); have e1 : (6 * (M 401 18) : Int32).toInt = (6 * ((M 401 18) : Int32).toInt) := i_mulE (by decide : (6 : Int32).toInt = 6) rfl (by omega); have e2 : ((6 * (M 401 18)) + v4063 : Int32).toInt = ((6 * ((M 401 18) : Int32).toInt) + v4063.toInt) := i_addE e1 rfl (by omega); exact vin_i (by omega) (by omega)) ?_
        refine Wp.vali (y := (M 413 (((6 * (M 401 18)) + v4063) : Int32).toNatClampNeg)) ((((rd_ne eM4086 (fun q => absurd q.1 (by decide))).trans (rd_ne eM4085 (fun q => absurd q.1 (by decide)))).trans (Kl.m k4084 rfl)).trans (Kl.m k4066 rfl)) ?_
        refine g_iast (pc1 := 60) d_Mod_dayGoes_59 rfl sh_434 (by decide) (vin_lit (x := 8) (by decide)) ?_
        refine Wp.topM (fun M4087 eM4087 => ?_)
        refine g_aload_n (pc1 := 61) d_Mod_dayGoes_60 rfl 0 rfl ?_
        refine g_getr (pc1 := 64) d_Mod_dayGoes_61 rfl ⟨_, fo_Mod_131⟩ sh_401 (by decide) (rf_401_56 ld) ?_
        refine g_iload_n (pc1 := 65) d_Mod_dayGoes_64 rfl 1 rfl ?_
        refine g_aload_n (pc1 := 66) d_Mod_dayGoes_65 rfl 0 rfl ?_
        refine g_getr (pc1 := 69) d_Mod_dayGoes_66 rfl ⟨_, fo_Mod_125⟩ sh_401 (by decide) (rf_401_53 ld) ?_
        refine g_iload_n (pc1 := 70) d_Mod_dayGoes_69 rfl 1 rfl ?_
        refine g_iald (pc1 := 71) d_Mod_dayGoes_70 rfl sh_437 (by decide) (by have r0 := (mt i_le.mpr h4068); have r1 := n4067; have r2 := (hI.foods (((M 401 18) : Int32).toNatClampNeg)); have r3 := (i_b (M 411 (M 401 18).toNatClampNeg)); have r4 := (i_b (v4063)); exact vin_i (by omega) (by omega)) ?_
        refine Wp.vali (y := (M4064 437 (v4063 : Int32).toNatClampNeg)) ((((rd_ne eM4087 (fun q => absurd q.1 (by decide))).trans (rd_ne eM4086 (fun q => absurd q.1 (by decide)))).trans (rd_ne eM4085 (fun q => absurd q.1 (by decide)))).trans (Kl.m k4084 rfl)) ?_
        refine g_aload_n (pc1 := 72) d_Mod_dayGoes_71 rfl 0 rfl ?_
        refine g_iconst (pc1 := 73) (v := 2) d_Mod_dayGoes_72 rfl (by decide) ?_
        refine g_iconst (pc1 := 74) (v := 0) d_Mod_dayGoes_73 rfl (by decide) ?_
        refine g_bipush (pc1 := 76) (v := (-9)) d_Mod_dayGoes_74 rfl (by decide) ?_
        refine g_bipush (pc1 := 78) (v := 9) d_Mod_dayGoes_76 rfl (by decide) ?_
        refine g_callV0 (pc1 := 81) (As := [.int 2, .int 0, .int (-9), .int 9]) (rest := [.int (M4064 437 (v4063 : Int32).toNatClampNeg), .int v4063, .ref 439]) d_Mod_dayGoes_78 rfl mo_Mod_342 mi_Mod_asks mv_Mod_asks rfl sh_401 (by decide) (by decide) rfl rfl (Nat.le_of_ble_eq_true rfl) ?_
        refine t2_Mod_asks hld (Inv.keep hI inv_MS1 (Kl.wM (Kl.wM (Kl.wM (Kl.trans k4066 (Kl.mono k4084 MS0_MS1)) rfl eM4085) rfl eM4086) rfl eM4087)) _ _ _ _ (by have l0 : (2 : Int32).toInt = 2 := (by decide); omega) (by have l0 : (-9 : Int32).toInt = -9 := (by decide); have l1 : (9 : Int32).toInt = 9 := (by decide); omega) (fun r4088 M4089 L4090 hbr4088 k4091 => ?_)
        refine g_iadd (pc1 := 82) d_Mod_dayGoes_81 rfl ?_
        refine g_iconst (pc1 := 83) (v := 0) d_Mod_dayGoes_82 rfl (by decide) ?_
        refine g_bipush (pc1 := 85) (v := 99) d_Mod_dayGoes_83 rfl (by decide) ?_
        refine g_callS0 (pc1 := 88) (As := [.int ((M4064 437 (v4063 : Int32).toNatClampNeg) + r4088), .int 0, .int 99]) (rest := [.int v4063, .ref 439]) d_Mod_dayGoes_85 rfl mo_Mod_330 ms_Mod_held (by decide) rfl rfl (Nat.le_of_ble_eq_true rfl) ?_
        refine t2_Mod_held hld _ _ _ (by have l0 : (0 : Int32).toInt = 0 := (by decide); have l1 : (99 : Int32).toInt = 99 := (by decide); omega) (fun r4092 hbr4092 => ?_)
        refine g_iast (pc1 := 89) d_Mod_dayGoes_88 rfl sh_439 (by decide) (by have r0 := (mt i_le.mpr h4068); have r1 := n4067; have r2 := (hI.foods (((M 401 18) : Int32).toNatClampNeg)); have r3 := (i_b (M 411 (M 401 18).toNatClampNeg)); have r4 := (i_b (v4063)); exact vin_i (by omega) (by omega)) ?_
        refine Wp.topM (fun M4093 eM4093 => ?_)
        obtain ⟨x4094, ex4094⟩ : ∃ y : Int32, y = v4063 + 1 := ⟨_, rfl⟩
        refine g_iinc (pc1 := 92) (v := x4094) (lv' := [(0, .ref 401), (1, .int x4094)]) d_Mod_dayGoes_89 rfl 1 rfl (by rw [ex4094]; rfl) (by decide) [1, 0] rfl ?_
        refine g_goto (tgt := 2) d_Mod_dayGoes_92 (by decide) ?_
        exact ih4060 x4094 M4093 L4090 (Kl.wM (Kl.trans (Kl.wM (Kl.wM (Kl.wM (Kl.trans k4066 (Kl.mono k4084 MS0_MS1)) rfl eM4085) rfl eM4086) rfl eM4087) (Kl.mono k4091 MS0_MS1)) rfl eM4093) (by have l0 : (1 : Int32).toInt = 1 := (by decide); have r0 := (mt i_le.mpr h4068); have r1 := n4067; have r2 := (hI.foods (((M 401 18) : Int32).toNatClampNeg)); have r3 := (i_b (M 411 (M 401 18).toNatClampNeg)); have r4 := (i_b (v4063)); have r5 := (i_b (x4094)); have e1 : (v4063 + 1 : Int32).toInt = (v4063.toInt + 1) := i_addE rfl (by decide : (1 : Int32).toInt = 1) (by omega); have d2 : x4094.toInt = (v4063.toInt + 1) := (congrArg Int32.toInt ex4094).trans e1; omega) (by have l0 : (1 : Int32).toInt = 1 := (by decide); have r0 := (mt i_le.mpr h4068); have r1 := n4067; have r2 := hm4061; have r3 := (hI.foods (((M 401 18) : Int32).toNatClampNeg)); have r4 := (i_b (M 411 (M 401 18).toNatClampNeg)); have r5 := (i_b (v4063)); have r6 := (i_b (x4094)); have e1 : (v4063 + 1 : Int32).toInt = (v4063.toInt + 1) := i_addE rfl (by decide : (1 : Int32).toInt = 1) (by omega); have d2 : x4094.toInt = (v4063.toInt + 1) := (congrArg Int32.toInt ex4094).trans e1; omega)
  exact LP4062 _ 0 M L Kl.rf (by decide) (Nat.lt_succ_self _)
set_option maxHeartbeats 4000000 in
set_option maxRecDepth 20000 in
theorem t2_Mod_forceBy {l : Launch} {ld : Nat} (hld : isLa ld) {M : gM} {L : gL} {Q : Option Value → gM → gL → gR → Prop} (hI : Inv M) (p0 : Int32) (p1 : Int32) (h0 : 0 ≤ (p0 : Int32).toInt ∧ (p0 : Int32).toInt ≤ 2) (hQ : ∀ (r : Int32) (M' : gM) (L' : gL), (0 ≤ r.toInt ∧ r.toInt ≤ 99) → Kl MS0 M L M' L' → Q (some (.int r)) M' L' (rf ld)) : Tm l y_Mod_forceBy (0, 0, 447) 447 [.ref 401, .int p0, .int p1] M L (rf ld) Q := by
  refine Tm.of (by decide) (Nat.le_of_ble_eq_true rfl) ?_
  show Wp l y_Mod_forceBy (0, 0, 447) 447 0 0 0 [(0, .ref 401), (1, .int p0), (2, .int p1)] [] M L (rf ld) Q
  refine g_iconst (pc1 := 1) (v := 0) d_Mod_forceBy_0 rfl (by decide) ?_
  refine g_istore_n (pc1 := 2) (lv' := [(0, .ref 401), (1, .int p0), (2, .int p1), (3, .int 0)]) d_Mod_forceBy_1 rfl rfl (by decide) [1, 2, 3, 0] rfl ?_
  refine g_iconst (pc1 := 3) (v := 0) d_Mod_forceBy_2 rfl (by decide) ?_
  refine g_istore (pc1 := 5) (lv' := [(0, .ref 401), (1, .int p0), (2, .int p1), (3, .int 0), (4, .int 0)]) d_Mod_forceBy_3 rfl (by decide) [1, 2, 3, 4, 0] rfl ?_
  have LP4098 : ∀ (f4095 : Nat) (v4099 : Int32) (v4100 : Int32), (0 ≤ v4100.toInt) → (((M 411 ((M 401 18) : Int32).toNatClampNeg) : Int32).toInt - v4100.toInt).toNat < f4095 → Wp l y_Mod_forceBy (0, 0, 447) 447 0 0 5 [(0, .ref 401), (1, .int p0), (2, .int p1), (3, .int v4099), (4, .int v4100)] [] M L (rf ld) Q := by
    intro f4095
    induction f4095 with
    | zero => intro v4099 v4100 _ hm4097; exact absurd hm4097 (Nat.not_lt_zero _)
    | succ f4095 ih4096 =>
      intro v4099 v4100 n4101 hm4097
      refine g_iload (pc1 := 7) d_Mod_forceBy_5 rfl 4 rfl ?_
      refine g_aload_n (pc1 := 8) d_Mod_forceBy_7 rfl 0 rfl ?_
      refine g_getr (pc1 := 11) d_Mod_forceBy_8 rfl ⟨_, fo_Mod_46⟩ sh_401 (by decide) (rf_401_23 ld) ?_
      refine g_aload_n (pc1 := 12) d_Mod_forceBy_11 rfl 0 rfl ?_
      refine g_geti (pc1 := 15) d_Mod_forceBy_12 rfl ⟨_, fo_Mod_236⟩ sh_401 (by decide) ?_
      refine g_iald (pc1 := 16) d_Mod_forceBy_15 rfl sh_411 (by decide) (by have r0 := hI.live; have r1 := (i_b (M 401 18)); exact vin_i (by omega) (by omega)) ?_
      refine g_icmp_ge (pc1 := 19) (tgt := 55) d_Mod_forceBy_16 (by decide) rfl (fun h4102 => ?_) (fun h4102 => ?_)
      · refine g_aload_n (pc1 := 56) d_Mod_forceBy_55 rfl 0 rfl ?_
        refine g_callV0 (pc1 := 59) (As := []) (rest := []) d_Mod_forceBy_56 rfl mo_Mod_336 mi_Mod_looks mv_Mod_looks rfl sh_401 (by decide) (by decide) rfl rfl (Nat.le_of_ble_eq_true rfl) ?_
        refine t2_Mod_looks hld hI   (fun  M4103 L4104 k4105 => ?_)
        refine g_aload_n (pc1 := 60) d_Mod_forceBy_59 rfl 0 rfl ?_
        refine g_getr (pc1 := 63) d_Mod_forceBy_60 rfl ⟨_, fo_Mod_116⟩ sh_401 (by decide) (rf_401_49 ld) ?_
        refine g_iconst (pc1 := 64) (v := 0) d_Mod_forceBy_63 rfl (by decide) ?_
        refine g_iload_n (pc1 := 65) d_Mod_forceBy_64 rfl 3 rfl ?_
        refine g_iast (pc1 := 66) d_Mod_forceBy_65 rfl sh_434 (by decide) (vin_lit (x := 0) (by decide)) ?_
        refine Wp.topM (fun M4106 eM4106 => ?_)
        refine g_aload_n (pc1 := 67) d_Mod_forceBy_66 rfl 0 rfl ?_
        refine g_getr (pc1 := 70) d_Mod_forceBy_67 rfl ⟨_, fo_Mod_116⟩ sh_401 (by decide) (rf_401_49 ld) ?_
        refine g_iconst (pc1 := 71) (v := 1) d_Mod_forceBy_70 rfl (by decide) ?_
        refine g_iload_n (pc1 := 72) d_Mod_forceBy_71 rfl 2 rfl ?_
        refine g_iast (pc1 := 73) d_Mod_forceBy_72 rfl sh_434 (by decide) (vin_lit (x := 1) (by decide)) ?_
        refine Wp.topM (fun M4107 eM4107 => ?_)
        refine g_aload_n (pc1 := 74) d_Mod_forceBy_73 rfl 0 rfl ?_
        refine g_getr (pc1 := 77) d_Mod_forceBy_74 rfl ⟨_, fo_Mod_116⟩ sh_401 (by decide) (rf_401_49 ld) ?_
        refine g_iconst (pc1 := 78) (v := 2) d_Mod_forceBy_77 rfl (by decide) ?_
        refine g_iload_n (pc1 := 79) d_Mod_forceBy_78 rfl 1 rfl ?_
        refine g_iast (pc1 := 80) d_Mod_forceBy_79 rfl sh_434 (by decide) (vin_lit (x := 2) (by decide)) ?_
        refine Wp.topM (fun M4108 eM4108 => ?_)
        refine g_aload_n (pc1 := 81) d_Mod_forceBy_80 rfl 0 rfl ?_
        refine g_getr (pc1 := 84) d_Mod_forceBy_81 rfl ⟨_, fo_Mod_116⟩ sh_401 (by decide) (rf_401_49 ld) ?_
        refine g_iconst (pc1 := 85) (v := 3) d_Mod_forceBy_84 rfl (by decide) ?_
        refine g_aload_n (pc1 := 86) d_Mod_forceBy_85 rfl 0 rfl ?_
        refine g_callV0 (pc1 := 89) (As := []) (rest := [.int 3, .ref 434]) d_Mod_forceBy_86 rfl mo_Mod_339 mi_Mod_potMany mv_Mod_potMany rfl sh_401 (by decide) (by decide) rfl rfl (Nat.le_of_ble_eq_true rfl) ?_
        refine t2_Mod_potMany hld (Inv.keep hI inv_MS0 (Kl.wM (Kl.wM (Kl.wM (Kl.trans Kl.rf k4105) rfl eM4106) rfl eM4107) rfl eM4108))   (fun r4109 => ?_)
        refine g_iast (pc1 := 90) d_Mod_forceBy_89 rfl sh_434 (by decide) (vin_lit (x := 3) (by decide)) ?_
        refine Wp.topM (fun M4110 eM4110 => ?_)
        refine g_aload_n (pc1 := 91) d_Mod_forceBy_90 rfl 0 rfl ?_
        refine g_iconst (pc1 := 92) (v := 0) d_Mod_forceBy_91 rfl (by decide) ?_
        refine g_iload_n (pc1 := 93) d_Mod_forceBy_92 rfl 3 rfl ?_
        refine g_iconst (pc1 := 94) (v := 0) d_Mod_forceBy_93 rfl (by decide) ?_
        refine g_bipush (pc1 := 96) (v := 99) d_Mod_forceBy_94 rfl (by decide) ?_
        refine g_callV0 (pc1 := 99) (As := [.int 0, .int v4099, .int 0, .int 99]) (rest := []) d_Mod_forceBy_96 rfl mo_Mod_342 mi_Mod_asks mv_Mod_asks rfl sh_401 (by decide) (by decide) rfl rfl (Nat.le_of_ble_eq_true rfl) ?_
        refine t2_Mod_asks hld (Inv.keep hI inv_MS0 (Kl.wM (Kl.wM (Kl.wM (Kl.wM (Kl.trans Kl.rf k4105) rfl eM4106) rfl eM4107) rfl eM4108) rfl eM4110)) _ _ _ _ (by have l0 : (0 : Int32).toInt = 0 := (by decide); omega) (by have l0 : (0 : Int32).toInt = 0 := (by decide); have l1 : (99 : Int32).toInt = 99 := (by decide); omega) (fun r4111 M4112 L4113 hbr4111 k4114 => ?_)
        refine g_ireturn (Or.inl rfl) d_Mod_forceBy_99 rfl ?_
        exact hQ _ _ _ (by have l0 : (0 : Int32).toInt = 0 := (by decide); have l1 : (99 : Int32).toInt = 99 := (by decide); have r0 := h0; have r1 := hbr4111; have r2 := (i_b (p0)); have r3 := (i_b (p1)); have r4 := (i_b (r4111)); have r5 := (i_b (v4099)); omega) (Kl.trans (Kl.wM (Kl.wM (Kl.wM (Kl.wM (Kl.trans Kl.rf k4105) rfl eM4106) rfl eM4107) rfl eM4108) rfl eM4110) k4114)
      · refine g_iload_n (pc1 := 20) d_Mod_forceBy_19 rfl 3 rfl ?_
        refine g_aload_n (pc1 := 21) d_Mod_forceBy_20 rfl 0 rfl ?_
        refine g_getr (pc1 := 24) d_Mod_forceBy_21 rfl ⟨_, fo_Mod_128⟩ sh_401 (by decide) (rf_401_55 ld) ?_
        refine g_iload (pc1 := 26) d_Mod_forceBy_24 rfl 4 rfl ?_
        refine g_iald (pc1 := 27) d_Mod_forceBy_26 rfl sh_438 (by decide) (by have r0 := (mt i_le.mpr h4102); have r1 := n4101; have r2 := (hI.foods (((M 401 18) : Int32).toNatClampNeg)); have r3 := (i_b (M 411 (M 401 18).toNatClampNeg)); have r4 := (i_b (v4100)); exact vin_i (by omega) (by omega)) ?_
        refine g_aload_n (pc1 := 28) d_Mod_forceBy_27 rfl 0 rfl ?_
        refine g_getr (pc1 := 31) d_Mod_forceBy_28 rfl ⟨_, fo_Mod_55⟩ sh_401 (by decide) (rf_401_26 ld) ?_
        refine g_iconst (pc1 := 32) (v := 3) d_Mod_forceBy_31 rfl (by decide) ?_
        refine g_bipush (pc1 := 34) (v := 6) d_Mod_forceBy_32 rfl (by decide) ?_
        refine g_aload_n (pc1 := 35) d_Mod_forceBy_34 rfl 0 rfl ?_
        refine g_geti (pc1 := 38) d_Mod_forceBy_35 rfl ⟨_, fo_Mod_236⟩ sh_401 (by decide) ?_
        refine g_imul (pc1 := 39) d_Mod_forceBy_38 rfl ?_
        refine g_iload (pc1 := 41) d_Mod_forceBy_39 rfl 4 rfl ?_
        refine g_iadd (pc1 := 42) d_Mod_forceBy_41 rfl ?_
        refine g_imul (pc1 := 43) d_Mod_forceBy_42 rfl ?_
        refine g_iload_n (pc1 := 44) d_Mod_forceBy_43 rfl 1 rfl ?_
        refine g_iadd (pc1 := 45) d_Mod_forceBy_44 rfl ?_
        refine g_iald (pc1 := 46) d_Mod_forceBy_45 rfl sh_414 (by decide) (by have l0 : (3 : Int32).toInt = 3 := (by decide); have l1 : (6 : Int32).toInt = 6 := (by decide); have r0 := (mt i_le.mpr h4102); have r1 := h0; have r2 := n4101; have r3 := hI.live; have r4 := (hI.foods (((M 401 18) : Int32).toNatClampNeg)); have r5 := (i_b (M 401 18)); have r6 := (i_b (M 411 (M 401 18).toNatClampNeg)); have r7 := (i_b (p0)); have r8 := (i_b (v4100)); have e1 : (6 * (M 401 18) : Int32).toInt = (6 * ((M 401 18) : Int32).toInt) := i_mulE (by decide : (6 : Int32).toInt = 6) rfl (by omega); have e2 : ((6 * (M 401 18)) + v4100 : Int32).toInt = ((6 * ((M 401 18) : Int32).toInt) + v4100.toInt) := i_addE e1 rfl (by omega); have e3 : (3 * ((6 * (M 401 18)) + v4100) : Int32).toInt = (3 * ((6 * ((M 401 18) : Int32).toInt) + v4100.toInt)) := i_mulE (by decide : (3 : Int32).toInt = 3) e2 (by omega); have e4 : ((3 * ((6 * (M 401 18)) + v4100)) + p0 : Int32).toInt = ((3 * ((6 * ((M 401 18) : Int32).toInt) + v4100.toInt)) + p0.toInt) := i_addE e3 rfl (by omega); exact vin_i (by omega) (by omega)) ?_
        refine g_imul (pc1 := 47) d_Mod_forceBy_46 rfl ?_
        refine g_iadd (pc1 := 48) d_Mod_forceBy_47 rfl ?_
        refine Wp.topi (fun x4115 ex4115 => ?_)
        refine g_istore_n (pc1 := 49) (lv' := [(0, .ref 401), (1, .int p0), (2, .int p1), (3, .int x4115), (4, .int v4100)]) d_Mod_forceBy_48 rfl rfl (by decide) [1, 2, 3, 0, 4] rfl ?_
        obtain ⟨x4116, ex4116⟩ : ∃ y : Int32, y = v4100 + 1 := ⟨_, rfl⟩
        refine g_iinc (pc1 := 52) (v := x4116) (lv' := [(0, .ref 401), (1, .int p0), (2, .int p1), (3, .int x4115), (4, .int x4116)]) d_Mod_forceBy_49 rfl 4 rfl (by rw [ex4116]; rfl) (by decide) [1, 2, 3, 4, 0] rfl ?_
        refine g_goto (tgt := 5) d_Mod_forceBy_52 (by decide) ?_
        exact ih4096 x4115 x4116 (by have l0 : (1 : Int32).toInt = 1 := (by decide); have r0 := (mt i_le.mpr h4102); have r1 := n4101; have r2 := (hI.foods (((M 401 18) : Int32).toNatClampNeg)); have r3 := (i_b (M 411 (M 401 18).toNatClampNeg)); have r4 := (i_b (v4100)); have r5 := (i_b (x4116)); have e1 : (v4100 + 1 : Int32).toInt = (v4100.toInt + 1) := i_addE rfl (by decide : (1 : Int32).toInt = 1) (by omega); have d2 : x4116.toInt = (v4100.toInt + 1) := (congrArg Int32.toInt ex4116).trans e1; omega) (by have l0 : (1 : Int32).toInt = 1 := (by decide); have r0 := (mt i_le.mpr h4102); have r1 := n4101; have r2 := hm4097; have r3 := (hI.foods (((M 401 18) : Int32).toNatClampNeg)); have r4 := (i_b (M 411 (M 401 18).toNatClampNeg)); have r5 := (i_b (v4100)); have r6 := (i_b (x4116)); have e1 : (v4100 + 1 : Int32).toInt = (v4100.toInt + 1) := i_addE rfl (by decide : (1 : Int32).toInt = 1) (by omega); have d2 : x4116.toInt = (v4100.toInt + 1) := (congrArg Int32.toInt ex4116).trans e1; omega)
  exact LP4098 _ 0 0 (by decide) (Nat.lt_succ_self _)
set_option maxHeartbeats 4000000 in
set_option maxRecDepth 20000 in
theorem t2_Mod_boundNow {l : Launch} {ld : Nat} (hld : isLa ld) {M : gM} {L : gL} {Q : Option Value → gM → gL → gR → Prop} (hI : Inv M) (p0 : Int32) (p1 : Int32) (h0 : 0 ≤ (p0 : Int32).toInt ∧ (p0 : Int32).toInt ≤ 3) (h1 : 0 ≤ (p1 : Int32).toInt ∧ (p1 : Int32).toInt ≤ 2) (hQ : ∀ (r : Int32) (M' : gM) (L' : gL), Kl MS0 M L M' L' → Q (some (.int r)) M' L' (rf ld)) : Tm l y_Mod_boundNow (0, 0, 447) 447 [.ref 401, .int p0, .int p1] M L (rf ld) Q := by
  refine Tm.of (by decide) (Nat.le_of_ble_eq_true rfl) ?_
  show Wp l y_Mod_boundNow (0, 0, 447) 447 0 0 0 [(0, .ref 401), (1, .int p0), (2, .int p1)] [] M L (rf ld) Q
  refine g_aload_n (pc1 := 1) d_Mod_boundNow_0 rfl 0 rfl ?_
  refine g_getr (pc1 := 4) d_Mod_boundNow_1 rfl ⟨_, fo_Mod_125⟩ sh_401 (by decide) (rf_401_53 ld) ?_
  refine g_bipush (pc1 := 6) (v := 15) d_Mod_boundNow_4 rfl (by decide) ?_
  refine g_iload_n (pc1 := 7) d_Mod_boundNow_6 rfl 1 rfl ?_
  refine g_iadd (pc1 := 8) d_Mod_boundNow_7 rfl ?_
  refine g_iald (pc1 := 9) d_Mod_boundNow_8 rfl sh_437 (by decide) (by have l0 : (15 : Int32).toInt = 15 := (by decide); have r0 := h0; have r1 := (i_b (p0)); have e1 : (15 + p0 : Int32).toInt = (15 + p0.toInt) := i_addE (by decide : (15 : Int32).toInt = 15) rfl (by omega); exact vin_i (by omega) (by omega)) ?_
  refine g_if_ge (pc1 := 12) (tgt := 16) d_Mod_boundNow_9 (by decide) rfl (fun h4117 => ?_) (fun h4117 => ?_)
  · refine g_aload_n (pc1 := 17) d_Mod_boundNow_16 rfl 0 rfl ?_
    refine g_iload_n (pc1 := 18) d_Mod_boundNow_17 rfl 1 rfl ?_
    refine g_iload_n (pc1 := 19) d_Mod_boundNow_18 rfl 2 rfl ?_
    refine g_aload_n (pc1 := 20) d_Mod_boundNow_19 rfl 0 rfl ?_
    refine g_getr (pc1 := 23) d_Mod_boundNow_20 rfl ⟨_, fo_Mod_125⟩ sh_401 (by decide) (rf_401_53 ld) ?_
    refine g_bipush (pc1 := 25) (v := 19) d_Mod_boundNow_23 rfl (by decide) ?_
    refine g_iconst (pc1 := 26) (v := 3) d_Mod_boundNow_25 rfl (by decide) ?_
    refine g_iload_n (pc1 := 27) d_Mod_boundNow_26 rfl 1 rfl ?_
    refine g_imul (pc1 := 28) d_Mod_boundNow_27 rfl ?_
    refine g_iadd (pc1 := 29) d_Mod_boundNow_28 rfl ?_
    refine g_iload_n (pc1 := 30) d_Mod_boundNow_29 rfl 2 rfl ?_
    refine g_iadd (pc1 := 31) d_Mod_boundNow_30 rfl ?_
    refine g_iald (pc1 := 32) d_Mod_boundNow_31 rfl sh_437 (by decide) (by have l0 : (19 : Int32).toInt = 19 := (by decide); have l1 : (3 : Int32).toInt = 3 := (by decide); have r0 := h0; have r1 := h1; have r2 := (i_b (p0)); have r3 := (i_b (p1)); have e1 : (3 * p0 : Int32).toInt = (3 * p0.toInt) := i_mulE (by decide : (3 : Int32).toInt = 3) rfl (by omega); have e2 : (19 + (3 * p0) : Int32).toInt = (19 + (3 * p0.toInt)) := i_addE (by decide : (19 : Int32).toInt = 19) e1 (by omega); have e3 : ((19 + (3 * p0)) + p1 : Int32).toInt = ((19 + (3 * p0.toInt)) + p1.toInt) := i_addE e2 rfl (by omega); exact vin_i (by omega) (by omega)) ?_
    refine g_aload_n (pc1 := 33) d_Mod_boundNow_32 rfl 0 rfl ?_
    refine g_getr (pc1 := 36) d_Mod_boundNow_33 rfl ⟨_, fo_Mod_125⟩ sh_401 (by decide) (rf_401_53 ld) ?_
    refine g_bipush (pc1 := 38) (v := 35) d_Mod_boundNow_36 rfl (by decide) ?_
    refine g_iald (pc1 := 39) d_Mod_boundNow_38 rfl sh_437 (by decide) (vin_lit (x := 35) (by decide)) ?_
    refine g_aload_n (pc1 := 40) d_Mod_boundNow_39 rfl 0 rfl ?_
    refine g_getr (pc1 := 43) d_Mod_boundNow_40 rfl ⟨_, fo_Mod_125⟩ sh_401 (by decide) (rf_401_53 ld) ?_
    refine g_bipush (pc1 := 45) (v := 15) d_Mod_boundNow_43 rfl (by decide) ?_
    refine g_iload_n (pc1 := 46) d_Mod_boundNow_45 rfl 1 rfl ?_
    refine g_iadd (pc1 := 47) d_Mod_boundNow_46 rfl ?_
    refine g_iald (pc1 := 48) d_Mod_boundNow_47 rfl sh_437 (by decide) (by have l0 : (15 : Int32).toInt = 15 := (by decide); have r0 := h0; have r1 := (i_b (p0)); have e1 : (15 + p0 : Int32).toInt = (15 + p0.toInt) := i_addE (by decide : (15 : Int32).toInt = 15) rfl (by omega); exact vin_i (by omega) (by omega)) ?_
    refine g_isub (pc1 := 49) d_Mod_boundNow_48 rfl ?_
    refine g_callV0 (pc1 := 52) (As := [.int p0, .int p1, .int (M 437 (((19 + (3 * p0)) + p1) : Int32).toNatClampNeg), .int ((M 437 (35 : Int32).toNatClampNeg) - (M 437 ((15 + p0) : Int32).toNatClampNeg))]) (rest := []) d_Mod_boundNow_49 rfl mo_Mod_346 mi_Mod_boundBy mv_Mod_boundBy rfl sh_401 (by decide) (by decide) rfl rfl (Nat.le_of_ble_eq_true rfl) ?_
    refine t2_Mod_boundBy hld hI _ _ _ _ (by have r0 := h0; have r1 := (i_b (p0)); omega) (fun r4118 M4119 L4120 hbr4118 k4121 => ?_)
    refine g_ireturn (Or.inl rfl) d_Mod_boundNow_52 rfl ?_
    exact hQ _ _ _ (Kl.trans Kl.rf k4121)
  · refine g_iconst (pc1 := 13) (v := 0) d_Mod_boundNow_12 rfl (by decide) ?_
    refine g_goto (tgt := 52) d_Mod_boundNow_13 (by decide) ?_
    refine g_ireturn (Or.inl rfl) d_Mod_boundNow_52 rfl ?_
    exact hQ _ _ _ Kl.rf
