set_option maxHeartbeats 4000000 in
set_option maxRecDepth 20000 in
theorem t2_Mod_appends {l : Launch} {ld : Nat} (hld : isLa ld) {M : gM} {L : gL} {Q : Option Value → gM → gL → gR → Prop} (p0 : Int64) (p1 : Int32)  (hQ : ∀ (r : Int64), Q (some (.long r)) M L (rf ld)) : Tm l y_Mod_appends (0, 0, 447) 447 [.long p0, .int p1] M L (rf ld) Q := by
  refine Tm.of (by decide) (Nat.le_of_ble_eq_true rfl) ?_
  show Wp l y_Mod_appends (0, 0, 447) 447 0 0 0 [(0, .long p0), (2, .int p1)] [] M L (rf ld) Q
  refine g_iload_n (pc1 := 1) d_Mod_appends_0 rfl 1 rfl ?_
  refine g_if_ne (pc1 := 4) (tgt := 8) d_Mod_appends_1 (by decide) rfl (fun h3729 => ?_) (fun h3729 => ?_)
  · refine g_ldc2 (pc1 := 11) (v := 27) d_Mod_appends_8 rfl co_Mod_178 ?_
    refine g_lload_n (pc1 := 12) d_Mod_appends_11 rfl 0 rfl ?_
    refine g_lmul (pc1 := 13) d_Mod_appends_12 rfl ?_
    refine g_iload_n (pc1 := 14) d_Mod_appends_13 rfl 1 rfl ?_
    refine g_bipush (pc1 := 16) (v := 97) d_Mod_appends_14 rfl (by decide) ?_
    refine g_isub (pc1 := 17) d_Mod_appends_16 rfl ?_
    refine g_iconst (pc1 := 18) (v := 1) d_Mod_appends_17 rfl (by decide) ?_
    refine g_iadd (pc1 := 19) d_Mod_appends_18 rfl ?_
    refine g_i2l (pc1 := 20) d_Mod_appends_19 rfl ?_
    refine g_ladd (pc1 := 21) d_Mod_appends_20 rfl ?_
    refine g_lreturn rfl d_Mod_appends_21 rfl ?_
    exact hQ _
  · refine g_lload_n (pc1 := 5) d_Mod_appends_4 rfl 0 rfl ?_
    refine g_goto (tgt := 21) d_Mod_appends_5 (by decide) ?_
    refine g_lreturn rfl d_Mod_appends_21 rfl ?_
    exact hQ _
set_option maxHeartbeats 4000000 in
set_option maxRecDepth 20000 in
theorem t2_Mod_bits {l : Launch} {ld : Nat} (hld : isLa ld) {M : gM} {L : gL} {Q : Option Value → gM → gL → gR → Prop} (p0 : Int32)  (hQ : ∀ (r : Int32), Q (some (.int r)) M L (rf ld)) : Tm l y_Mod_bits (0, 0, 447) 447 [.int p0] M L (rf ld) Q := by
  refine Tm.of (by decide) (Nat.le_of_ble_eq_true rfl) ?_
  show Wp l y_Mod_bits (0, 0, 447) 447 0 0 0 [(0, .int p0)] [] M L (rf ld) Q
  refine g_iconst (pc1 := 1) (v := 0) d_Mod_bits_0 rfl (by decide) ?_
  refine g_istore_n (pc1 := 2) (lv' := [(0, .int p0), (1, .int 0)]) d_Mod_bits_1 rfl rfl (by decide) [1, 0] rfl ?_
  refine g_iconst (pc1 := 3) (v := 0) d_Mod_bits_2 rfl (by decide) ?_
  refine g_istore_n (pc1 := 4) (lv' := [(0, .int p0), (1, .int 0), (2, .int 0)]) d_Mod_bits_3 rfl rfl (by decide) [1, 2, 0] rfl ?_
  have LP3733 : ∀ (f3730 : Nat) (v3734 : Int32) (v3735 : Int32), (0 ≤ v3735.toInt) → ((6 : Int32).toInt - v3735.toInt).toNat < f3730 → Wp l y_Mod_bits (0, 0, 447) 447 0 0 4 [(0, .int p0), (1, .int v3734), (2, .int v3735)] [] M L (rf ld) Q := by
    intro f3730
    induction f3730 with
    | zero => intro v3734 v3735 _ hm3732; exact absurd hm3732 (Nat.not_lt_zero _)
    | succ f3730 ih3731 =>
      intro v3734 v3735 n3736 hm3732
      refine g_iload_n (pc1 := 5) d_Mod_bits_4 rfl 2 rfl ?_
      refine g_bipush (pc1 := 7) (v := 6) d_Mod_bits_5 rfl (by decide) ?_
      refine g_icmp_ge (pc1 := 10) (tgt := 24) d_Mod_bits_7 (by decide) rfl (fun h3737 => ?_) (fun h3737 => ?_)
      · refine g_iload_n (pc1 := 25) d_Mod_bits_24 rfl 1 rfl ?_
        refine g_ireturn (Or.inl rfl) d_Mod_bits_25 rfl ?_
        exact hQ _
      · refine g_iload_n (pc1 := 11) d_Mod_bits_10 rfl 1 rfl ?_
        refine g_iload_n (pc1 := 12) d_Mod_bits_11 rfl 0 rfl ?_
        refine g_iload_n (pc1 := 13) d_Mod_bits_12 rfl 2 rfl ?_
        refine g_ishr (pc1 := 14) d_Mod_bits_13 rfl ?_
        refine g_iconst (pc1 := 15) (v := 1) d_Mod_bits_14 rfl (by decide) ?_
        refine g_iand (pc1 := 16) d_Mod_bits_15 rfl ?_
        refine g_iadd (pc1 := 17) d_Mod_bits_16 rfl ?_
        refine Wp.topi (fun x3738 ex3738 => ?_)
        refine g_istore_n (pc1 := 18) (lv' := [(0, .int p0), (1, .int x3738), (2, .int v3735)]) d_Mod_bits_17 rfl rfl (by decide) [1, 0, 2] rfl ?_
        obtain ⟨x3739, ex3739⟩ : ∃ y : Int32, y = v3735 + 1 := ⟨_, rfl⟩
        refine g_iinc (pc1 := 21) (v := x3739) (lv' := [(0, .int p0), (1, .int x3738), (2, .int x3739)]) d_Mod_bits_18 rfl 2 rfl (by rw [ex3739]; rfl) (by decide) [1, 2, 0] rfl ?_
        refine g_goto (tgt := 4) d_Mod_bits_21 (by decide) ?_
        exact ih3731 x3738 x3739 (by have l0 : (1 : Int32).toInt = 1 := (by decide); have l1 : (6 : Int32).toInt = 6 := (by decide); have r0 := (mt i_le.mpr h3737); have r1 := n3736; have r2 := (i_b (v3735)); have r3 := (i_b (x3739)); have e1 : (v3735 + 1 : Int32).toInt = (v3735.toInt + 1) := i_addE rfl (by decide : (1 : Int32).toInt = 1) (by omega); have d2 : x3739.toInt = (v3735.toInt + 1) := (congrArg Int32.toInt ex3739).trans e1; omega) (by have l0 : (1 : Int32).toInt = 1 := (by decide); have l1 : (6 : Int32).toInt = 6 := (by decide); have r0 := (mt i_le.mpr h3737); have r1 := n3736; have r2 := hm3732; have r3 := (i_b (v3735)); have r4 := (i_b (x3739)); have e1 : (v3735 + 1 : Int32).toInt = (v3735.toInt + 1) := i_addE rfl (by decide : (1 : Int32).toInt = 1) (by omega); have d2 : x3739.toInt = (v3735.toInt + 1) := (congrArg Int32.toInt ex3739).trans e1; omega)
  exact LP3733 _ 0 0 (by decide) (Nat.lt_succ_self _)
set_option maxHeartbeats 4000000 in
set_option maxRecDepth 20000 in
theorem t2_Mod_copies {l : Launch} {ld : Nat} (hld : isLa ld) {M : gM} {L : gL} {Q : Option Value → gM → gL → gR → Prop} (hI : Inv M)   (hQ : ∀  (M' : gM) (L' : gL), Kl MS1 M L M' L' → Q none M' L' (rf ld)) : Tm l y_Mod_copies (0, 0, 447) 447 [.ref 401] M L (rf ld) Q := by
  refine Tm.of (by decide) (Nat.le_of_ble_eq_true rfl) ?_
  show Wp l y_Mod_copies (0, 0, 447) 447 0 0 0 [(0, .ref 401)] [] M L (rf ld) Q
  refine g_iconst (pc1 := 1) (v := 0) d_Mod_copies_0 rfl (by decide) ?_
  refine g_istore_n (pc1 := 2) (lv' := [(0, .ref 401), (1, .int 0)]) d_Mod_copies_1 rfl rfl (by decide) [1, 0] rfl ?_
  have LP3743 : ∀ (f3740 : Nat) (v3744 : Int32) (M3745 : gM) (L3746 : gL), Kl MS1 M L M3745 L3746 → (0 ≤ v3744.toInt) → ((38 : Int32).toInt - v3744.toInt).toNat < f3740 → Wp l y_Mod_copies (0, 0, 447) 447 0 0 2 [(0, .ref 401), (1, .int v3744)] [] M3745 L3746 (rf ld) Q := by
    intro f3740
    induction f3740 with
    | zero => intro v3744 M3745 L3746 _ _ hm3742; exact absurd hm3742 (Nat.not_lt_zero _)
    | succ f3740 ih3741 =>
      intro v3744 M3745 L3746 k3747 n3748 hm3742
      refine g_iload_n (pc1 := 3) d_Mod_copies_2 rfl 1 rfl ?_
      refine g_bipush (pc1 := 5) (v := 38) d_Mod_copies_3 rfl (by decide) ?_
      refine g_icmp_ge (pc1 := 8) (tgt := 26) d_Mod_copies_5 (by decide) rfl (fun h3749 => ?_) (fun h3749 => ?_)
      · refine g_aload_n (pc1 := 27) d_Mod_copies_26 rfl 0 rfl ?_
        refine g_aload_n (pc1 := 28) d_Mod_copies_27 rfl 0 rfl ?_
        refine g_getr (pc1 := 31) d_Mod_copies_28 rfl ⟨_, fo_Mod_82⟩ sh_401 (by decide) (rf_401_35 ld) ?_
        refine g_aload_n (pc1 := 32) d_Mod_copies_31 rfl 0 rfl ?_
        refine g_geti (pc1 := 35) d_Mod_copies_32 rfl ⟨_, fo_Mod_236⟩ sh_401 (by decide) ?_
        refine Wp.vali (y := (M 401 18)) (Kl.m k3747 rfl) ?_
        refine g_iald (pc1 := 36) d_Mod_copies_35 rfl sh_423 (by decide) (by have r0 := hI.live; have r1 := (i_b (M 401 18)); exact vin_i (by omega) (by omega)) ?_
        refine Wp.vali (y := (M 423 ((M 401 18) : Int32).toNatClampNeg)) (Kl.m k3747 rfl) ?_
        refine g_puti (pc1 := 39) d_Mod_copies_36 rfl fo_Mod_320 (po_12_54 _) sh_401 (by decide) ?_
        refine Wp.topM (fun M3750 eM3750 => ?_)
        refine g_return rfl d_Mod_copies_39 rfl ?_
        exact hQ _ _ (Kl.wM k3747 rfl eM3750)
      · refine g_aload_n (pc1 := 9) d_Mod_copies_8 rfl 0 rfl ?_
        refine g_getr (pc1 := 12) d_Mod_copies_9 rfl ⟨_, fo_Mod_125⟩ sh_401 (by decide) (rf_401_53 ld) ?_
        refine g_iload_n (pc1 := 13) d_Mod_copies_12 rfl 1 rfl ?_
        refine g_aload_n (pc1 := 14) d_Mod_copies_13 rfl 0 rfl ?_
        refine g_getr (pc1 := 17) d_Mod_copies_14 rfl ⟨_, fo_Mod_122⟩ sh_401 (by decide) (rf_401_52 ld) ?_
        refine g_iload_n (pc1 := 18) d_Mod_copies_17 rfl 1 rfl ?_
        refine g_iald (pc1 := 19) d_Mod_copies_18 rfl sh_436 (by decide) (by have l0 : (38 : Int32).toInt = 38 := (by decide); have r0 := (mt i_le.mpr h3749); have r1 := n3748; have r2 := (i_b (v3744)); exact vin_i (by omega) (by omega)) ?_
        refine Wp.vali (y := (M 436 (v3744 : Int32).toNatClampNeg)) (Kl.m k3747 rfl) ?_
        refine g_iast (pc1 := 20) d_Mod_copies_19 rfl sh_437 (by decide) (by have l0 : (38 : Int32).toInt = 38 := (by decide); have r0 := (mt i_le.mpr h3749); have r1 := n3748; have r2 := (i_b (v3744)); exact vin_i (by omega) (by omega)) ?_
        refine Wp.topM (fun M3751 eM3751 => ?_)
        obtain ⟨x3752, ex3752⟩ : ∃ y : Int32, y = v3744 + 1 := ⟨_, rfl⟩
        refine g_iinc (pc1 := 23) (v := x3752) (lv' := [(0, .ref 401), (1, .int x3752)]) d_Mod_copies_20 rfl 1 rfl (by rw [ex3752]; rfl) (by decide) [1, 0] rfl ?_
        refine g_goto (tgt := 2) d_Mod_copies_23 (by decide) ?_
        exact ih3741 x3752 M3751 L3746 (Kl.wM k3747 rfl eM3751) (by have l0 : (1 : Int32).toInt = 1 := (by decide); have l1 : (38 : Int32).toInt = 38 := (by decide); have r0 := (mt i_le.mpr h3749); have r1 := n3748; have r2 := (i_b (v3744)); have r3 := (i_b (x3752)); have e1 : (v3744 + 1 : Int32).toInt = (v3744.toInt + 1) := i_addE rfl (by decide : (1 : Int32).toInt = 1) (by omega); have d2 : x3752.toInt = (v3744.toInt + 1) := (congrArg Int32.toInt ex3752).trans e1; omega) (by have l0 : (1 : Int32).toInt = 1 := (by decide); have l1 : (38 : Int32).toInt = 38 := (by decide); have r0 := (mt i_le.mpr h3749); have r1 := n3748; have r2 := hm3742; have r3 := (i_b (v3744)); have r4 := (i_b (x3752)); have e1 : (v3744 + 1 : Int32).toInt = (v3744.toInt + 1) := i_addE rfl (by decide : (1 : Int32).toInt = 1) (by omega); have d2 : x3752.toInt = (v3744.toInt + 1) := (congrArg Int32.toInt ex3752).trans e1; omega)
  exact LP3743 _ 0 M L Kl.rf (by decide) (Nat.lt_succ_self _)
set_option maxHeartbeats 4000000 in
set_option maxRecDepth 20000 in
theorem t2_Mod_count {l : Launch} {ld : Nat} (hld : isLa ld) {M : gM} {L : gL} {Q : Option Value → gM → gL → gR → Prop} (hI : Inv M) (p0 : Int32)  (hQ : ∀ (r : Int32), Q (some (.int r)) M L (rf ld)) : Tm l y_Mod_count (0, 0, 447) 447 [.ref 401, .int p0] M L (rf ld) Q := by
  refine Tm.of (by decide) (Nat.le_of_ble_eq_true rfl) ?_
  show Wp l y_Mod_count (0, 0, 447) 447 0 0 0 [(0, .ref 401), (1, .int p0)] [] M L (rf ld) Q
  refine g_iload_n (pc1 := 1) d_Mod_count_0 rfl 1 rfl ?_
  by_cases h3753 : p0 = 0
  · refine g_tabK (tgt := 80) (off := 79) d_Mod_count_1 h3753 (by decide) (by decide) (by decide) (by decide) ?_
    refine g_aload_n (pc1 := 81) d_Mod_count_80 rfl 0 rfl ?_
    refine g_getr (pc1 := 84) d_Mod_count_81 rfl ⟨_, fo_Mod_46⟩ sh_401 (by decide) (rf_401_23 ld) ?_
    refine g_aload_n (pc1 := 85) d_Mod_count_84 rfl 0 rfl ?_
    refine g_geti (pc1 := 88) d_Mod_count_85 rfl ⟨_, fo_Mod_236⟩ sh_401 (by decide) ?_
    refine g_iald (pc1 := 89) d_Mod_count_88 rfl sh_411 (by decide) (by have r0 := hI.live; have r1 := (i_b (M 401 18)); exact vin_i (by omega) (by omega)) ?_
    refine g_ireturn (Or.inl rfl) d_Mod_count_89 rfl ?_
    exact hQ _
  by_cases h3754 : p0 = 1
  · refine g_tabK (tgt := 90) (off := 89) d_Mod_count_1 h3754 (by decide) (by decide) (by decide) (by decide) ?_
    refine g_aload_n (pc1 := 91) d_Mod_count_90 rfl 0 rfl ?_
    refine g_getr (pc1 := 94) d_Mod_count_91 rfl ⟨_, fo_Mod_58⟩ sh_401 (by decide) (rf_401_27 ld) ?_
    refine g_aload_n (pc1 := 95) d_Mod_count_94 rfl 0 rfl ?_
    refine g_geti (pc1 := 98) d_Mod_count_95 rfl ⟨_, fo_Mod_236⟩ sh_401 (by decide) ?_
    refine g_iald (pc1 := 99) d_Mod_count_98 rfl sh_415 (by decide) (by have r0 := hI.live; have r1 := (i_b (M 401 18)); exact vin_i (by omega) (by omega)) ?_
    refine g_ireturn (Or.inl rfl) d_Mod_count_99 rfl ?_
    exact hQ _
  by_cases h3755 : p0 = 2
  · refine g_tabK (tgt := 100) (off := 99) d_Mod_count_1 h3755 (by decide) (by decide) (by decide) (by decide) ?_
    refine g_aload_n (pc1 := 101) d_Mod_count_100 rfl 0 rfl ?_
    refine g_getr (pc1 := 104) d_Mod_count_101 rfl ⟨_, fo_Mod_67⟩ sh_401 (by decide) (rf_401_30 ld) ?_
    refine g_aload_n (pc1 := 105) d_Mod_count_104 rfl 0 rfl ?_
    refine g_geti (pc1 := 108) d_Mod_count_105 rfl ⟨_, fo_Mod_236⟩ sh_401 (by decide) ?_
    refine g_iald (pc1 := 109) d_Mod_count_108 rfl sh_418 (by decide) (by have r0 := hI.live; have r1 := (i_b (M 401 18)); exact vin_i (by omega) (by omega)) ?_
    refine g_ireturn (Or.inl rfl) d_Mod_count_109 rfl ?_
    exact hQ _
  by_cases h3756 : p0 = 3
  · refine g_tabK (tgt := 110) (off := 109) d_Mod_count_1 h3756 (by decide) (by decide) (by decide) (by decide) ?_
    refine g_aload_n (pc1 := 111) d_Mod_count_110 rfl 0 rfl ?_
    refine g_getr (pc1 := 114) d_Mod_count_111 rfl ⟨_, fo_Mod_73⟩ sh_401 (by decide) (rf_401_32 ld) ?_
    refine g_aload_n (pc1 := 115) d_Mod_count_114 rfl 0 rfl ?_
    refine g_geti (pc1 := 118) d_Mod_count_115 rfl ⟨_, fo_Mod_236⟩ sh_401 (by decide) ?_
    refine g_iald (pc1 := 119) d_Mod_count_118 rfl sh_420 (by decide) (by have r0 := hI.live; have r1 := (i_b (M 401 18)); exact vin_i (by omega) (by omega)) ?_
    refine g_ireturn (Or.inl rfl) d_Mod_count_119 rfl ?_
    exact hQ _
  by_cases h3757 : p0 = 4
  · refine g_tabK (tgt := 120) (off := 119) d_Mod_count_1 h3757 (by decide) (by decide) (by decide) (by decide) ?_
    refine g_aload_n (pc1 := 121) d_Mod_count_120 rfl 0 rfl ?_
    refine g_getr (pc1 := 124) d_Mod_count_121 rfl ⟨_, fo_Mod_122⟩ sh_401 (by decide) (rf_401_52 ld) ?_
    refine g_bipush (pc1 := 126) (v := 31) d_Mod_count_124 rfl (by decide) ?_
    refine g_iload_n (pc1 := 127) d_Mod_count_126 rfl 1 rfl ?_
    refine g_iadd (pc1 := 128) d_Mod_count_127 rfl ?_
    refine g_iald (pc1 := 129) d_Mod_count_128 rfl sh_436 (by decide) (by have l0 : (0 : Int32).toInt = 0 := (by decide); have l1 : (1 : Int32).toInt = 1 := (by decide); have l2 : (2 : Int32).toInt = 2 := (by decide); have l3 : (3 : Int32).toInt = 3 := (by decide); have l4 : (31 : Int32).toInt = 31 := (by decide); have l5 : (4 : Int32).toInt = 4 := (by decide); have r0 := (mt Int32.toInt_inj.mp h3753); have r1 := (mt Int32.toInt_inj.mp h3754); have r2 := (mt Int32.toInt_inj.mp h3755); have r3 := (mt Int32.toInt_inj.mp h3756); have r4 := (congrArg Int32.toInt h3757); have r5 := (i_b (p0)); have e1 : (31 + p0 : Int32).toInt = (31 + p0.toInt) := i_addE (by decide : (31 : Int32).toInt = 31) rfl (by omega); exact vin_i (by omega) (by omega)) ?_
    refine g_ireturn (Or.inl rfl) d_Mod_count_129 rfl ?_
    exact hQ _
  by_cases h3758 : p0 = 5
  · refine g_tabK (tgt := 120) (off := 119) d_Mod_count_1 h3758 (by decide) (by decide) (by decide) (by decide) ?_
    refine g_aload_n (pc1 := 121) d_Mod_count_120 rfl 0 rfl ?_
    refine g_getr (pc1 := 124) d_Mod_count_121 rfl ⟨_, fo_Mod_122⟩ sh_401 (by decide) (rf_401_52 ld) ?_
    refine g_bipush (pc1 := 126) (v := 31) d_Mod_count_124 rfl (by decide) ?_
    refine g_iload_n (pc1 := 127) d_Mod_count_126 rfl 1 rfl ?_
    refine g_iadd (pc1 := 128) d_Mod_count_127 rfl ?_
    refine g_iald (pc1 := 129) d_Mod_count_128 rfl sh_436 (by decide) (by have l0 : (0 : Int32).toInt = 0 := (by decide); have l1 : (1 : Int32).toInt = 1 := (by decide); have l2 : (2 : Int32).toInt = 2 := (by decide); have l3 : (3 : Int32).toInt = 3 := (by decide); have l4 : (31 : Int32).toInt = 31 := (by decide); have l5 : (4 : Int32).toInt = 4 := (by decide); have l6 : (5 : Int32).toInt = 5 := (by decide); have r0 := (mt Int32.toInt_inj.mp h3753); have r1 := (mt Int32.toInt_inj.mp h3754); have r2 := (mt Int32.toInt_inj.mp h3755); have r3 := (mt Int32.toInt_inj.mp h3756); have r4 := (mt Int32.toInt_inj.mp h3757); have r5 := (congrArg Int32.toInt h3758); have r6 := (i_b (p0)); have e1 : (31 + p0 : Int32).toInt = (31 + p0.toInt) := i_addE (by decide : (31 : Int32).toInt = 31) rfl (by omega); exact vin_i (by omega) (by omega)) ?_
    refine g_ireturn (Or.inl rfl) d_Mod_count_129 rfl ?_
    exact hQ _
  by_cases h3759 : p0 = 6
  · refine g_tabK (tgt := 130) (off := 129) d_Mod_count_1 h3759 (by decide) (by decide) (by decide) (by decide) ?_
    refine g_aload_n (pc1 := 131) d_Mod_count_130 rfl 0 rfl ?_
    refine g_getr (pc1 := 134) d_Mod_count_131 rfl ⟨_, fo_Mod_122⟩ sh_401 (by decide) (rf_401_52 ld) ?_
    refine g_bipush (pc1 := 136) (v := 11) d_Mod_count_134 rfl (by decide) ?_
    refine g_iald (pc1 := 137) d_Mod_count_136 rfl sh_436 (by decide) (vin_lit (x := 11) (by decide)) ?_
    refine g_ireturn (Or.inl rfl) d_Mod_count_137 rfl ?_
    exact hQ _
  by_cases h3760 : p0 = 7
  · refine g_tabK (tgt := 138) (off := 137) d_Mod_count_1 h3760 (by decide) (by decide) (by decide) (by decide) ?_
    refine g_aload_n (pc1 := 139) d_Mod_count_138 rfl 0 rfl ?_
    refine g_getr (pc1 := 142) d_Mod_count_139 rfl ⟨_, fo_Mod_122⟩ sh_401 (by decide) (rf_401_52 ld) ?_
    refine g_iconst (pc1 := 143) (v := 5) d_Mod_count_142 rfl (by decide) ?_
    refine g_iload_n (pc1 := 144) d_Mod_count_143 rfl 1 rfl ?_
    refine g_iadd (pc1 := 145) d_Mod_count_144 rfl ?_
    refine g_iald (pc1 := 146) d_Mod_count_145 rfl sh_436 (by decide) (by have l0 : (0 : Int32).toInt = 0 := (by decide); have l1 : (1 : Int32).toInt = 1 := (by decide); have l2 : (2 : Int32).toInt = 2 := (by decide); have l3 : (3 : Int32).toInt = 3 := (by decide); have l4 : (4 : Int32).toInt = 4 := (by decide); have l5 : (5 : Int32).toInt = 5 := (by decide); have l6 : (6 : Int32).toInt = 6 := (by decide); have l7 : (7 : Int32).toInt = 7 := (by decide); have r0 := (mt Int32.toInt_inj.mp h3753); have r1 := (mt Int32.toInt_inj.mp h3754); have r2 := (mt Int32.toInt_inj.mp h3755); have r3 := (mt Int32.toInt_inj.mp h3756); have r4 := (mt Int32.toInt_inj.mp h3757); have r5 := (mt Int32.toInt_inj.mp h3758); have r6 := (mt Int32.toInt_inj.mp h3759); have r7 := (congrArg Int32.toInt h3760); have r8 := (i_b (p0)); have e1 : (5 + p0 : Int32).toInt = (5 + p0.toInt) := i_addE (by decide : (5 : Int32).toInt = 5) rfl (by omega); exact vin_i (by omega) (by omega)) ?_
    refine g_ireturn (Or.inl rfl) d_Mod_count_146 rfl ?_
    exact hQ _
  by_cases h3761 : p0 = 8
  · refine g_tabK (tgt := 138) (off := 137) d_Mod_count_1 h3761 (by decide) (by decide) (by decide) (by decide) ?_
    refine g_aload_n (pc1 := 139) d_Mod_count_138 rfl 0 rfl ?_
    refine g_getr (pc1 := 142) d_Mod_count_139 rfl ⟨_, fo_Mod_122⟩ sh_401 (by decide) (rf_401_52 ld) ?_
    refine g_iconst (pc1 := 143) (v := 5) d_Mod_count_142 rfl (by decide) ?_
    refine g_iload_n (pc1 := 144) d_Mod_count_143 rfl 1 rfl ?_
    refine g_iadd (pc1 := 145) d_Mod_count_144 rfl ?_
    refine g_iald (pc1 := 146) d_Mod_count_145 rfl sh_436 (by decide) (by have l0 : (0 : Int32).toInt = 0 := (by decide); have l1 : (1 : Int32).toInt = 1 := (by decide); have l2 : (2 : Int32).toInt = 2 := (by decide); have l3 : (3 : Int32).toInt = 3 := (by decide); have l4 : (4 : Int32).toInt = 4 := (by decide); have l5 : (5 : Int32).toInt = 5 := (by decide); have l6 : (6 : Int32).toInt = 6 := (by decide); have l7 : (7 : Int32).toInt = 7 := (by decide); have l8 : (8 : Int32).toInt = 8 := (by decide); have r0 := (mt Int32.toInt_inj.mp h3753); have r1 := (mt Int32.toInt_inj.mp h3754); have r2 := (mt Int32.toInt_inj.mp h3755); have r3 := (mt Int32.toInt_inj.mp h3756); have r4 := (mt Int32.toInt_inj.mp h3757); have r5 := (mt Int32.toInt_inj.mp h3758); have r6 := (mt Int32.toInt_inj.mp h3759); have r7 := (mt Int32.toInt_inj.mp h3760); have r8 := (congrArg Int32.toInt h3761); have r9 := (i_b (p0)); have e1 : (5 + p0 : Int32).toInt = (5 + p0.toInt) := i_addE (by decide : (5 : Int32).toInt = 5) rfl (by omega); exact vin_i (by omega) (by omega)) ?_
    refine g_ireturn (Or.inl rfl) d_Mod_count_146 rfl ?_
    exact hQ _
  by_cases h3762 : p0 = 9
  · refine g_tabK (tgt := 138) (off := 137) d_Mod_count_1 h3762 (by decide) (by decide) (by decide) (by decide) ?_
    refine g_aload_n (pc1 := 139) d_Mod_count_138 rfl 0 rfl ?_
    refine g_getr (pc1 := 142) d_Mod_count_139 rfl ⟨_, fo_Mod_122⟩ sh_401 (by decide) (rf_401_52 ld) ?_
    refine g_iconst (pc1 := 143) (v := 5) d_Mod_count_142 rfl (by decide) ?_
    refine g_iload_n (pc1 := 144) d_Mod_count_143 rfl 1 rfl ?_
    refine g_iadd (pc1 := 145) d_Mod_count_144 rfl ?_
    refine g_iald (pc1 := 146) d_Mod_count_145 rfl sh_436 (by decide) (by have l0 : (0 : Int32).toInt = 0 := (by decide); have l1 : (1 : Int32).toInt = 1 := (by decide); have l2 : (2 : Int32).toInt = 2 := (by decide); have l3 : (3 : Int32).toInt = 3 := (by decide); have l4 : (4 : Int32).toInt = 4 := (by decide); have l5 : (5 : Int32).toInt = 5 := (by decide); have l6 : (6 : Int32).toInt = 6 := (by decide); have l7 : (7 : Int32).toInt = 7 := (by decide); have l8 : (8 : Int32).toInt = 8 := (by decide); have l9 : (9 : Int32).toInt = 9 := (by decide); have r0 := (mt Int32.toInt_inj.mp h3753); have r1 := (mt Int32.toInt_inj.mp h3754); have r2 := (mt Int32.toInt_inj.mp h3755); have r3 := (mt Int32.toInt_inj.mp h3756); have r4 := (mt Int32.toInt_inj.mp h3757); have r5 := (mt Int32.toInt_inj.mp h3758); have r6 := (mt Int32.toInt_inj.mp h3759); have r7 := (mt Int32.toInt_inj.mp h3760); have r8 := (mt Int32.toInt_inj.mp h3761); have r9 := (congrArg Int32.toInt h3762); have r10 := (i_b (p0)); have e1 : (5 + p0 : Int32).toInt = (5 + p0.toInt) := i_addE (by decide : (5 : Int32).toInt = 5) rfl (by omega); exact vin_i (by omega) (by omega)) ?_
    refine g_ireturn (Or.inl rfl) d_Mod_count_146 rfl ?_
    exact hQ _
  by_cases h3763 : p0 = 10
  · refine g_tabK (tgt := 147) (off := 146) d_Mod_count_1 h3763 (by decide) (by decide) (by decide) (by decide) ?_
    refine g_aload_n (pc1 := 148) d_Mod_count_147 rfl 0 rfl ?_
    refine g_geti (pc1 := 151) d_Mod_count_148 rfl ⟨_, fo_Mod_169⟩ sh_401 (by decide) ?_
    refine g_ireturn (Or.inl rfl) d_Mod_count_151 rfl ?_
    exact hQ _
  by_cases h3764 : p0 = 11
  · refine g_tabK (tgt := 152) (off := 151) d_Mod_count_1 h3764 (by decide) (by decide) (by decide) (by decide) ?_
    refine g_aload_n (pc1 := 153) d_Mod_count_152 rfl 0 rfl ?_
    refine g_geti (pc1 := 156) d_Mod_count_153 rfl ⟨_, fo_Mod_254⟩ sh_401 (by decide) ?_
    refine g_ireturn (Or.inl rfl) d_Mod_count_156 rfl ?_
    exact hQ _
  by_cases h3765 : p0 = 12
  · refine g_tabK (tgt := 157) (off := 156) d_Mod_count_1 h3765 (by decide) (by decide) (by decide) (by decide) ?_
    refine g_aload_n (pc1 := 158) d_Mod_count_157 rfl 0 rfl ?_
    refine g_geti (pc1 := 161) d_Mod_count_158 rfl ⟨_, fo_Mod_257⟩ sh_401 (by decide) ?_
    refine g_ireturn (Or.inl rfl) d_Mod_count_161 rfl ?_
    exact hQ _
  by_cases h3766 : p0 = 13
  · refine g_tabK (tgt := 162) (off := 161) d_Mod_count_1 h3766 (by decide) (by decide) (by decide) (by decide) ?_
    refine g_aload_n (pc1 := 163) d_Mod_count_162 rfl 0 rfl ?_
    refine g_getr (pc1 := 166) d_Mod_count_163 rfl ⟨_, fo_Mod_149⟩ sh_401 (by decide) (rf_401_69 ld) ?_
    refine g_iconst (pc1 := 167) (v := 0) d_Mod_count_166 rfl (by decide) ?_
    refine g_zald (pc1 := 168) d_Mod_count_167 rfl sh_445 (by decide) (vin_lit (x := 0) (by decide)) ?_
    refine g_if_eq (pc1 := 171) (tgt := 175) d_Mod_count_168 (by decide) rfl (fun h3767 => ?_) (fun h3767 => ?_)
    · refine g_iconst (pc1 := 176) (v := 0) d_Mod_count_175 rfl (by decide) ?_
      refine g_aload_n (pc1 := 177) d_Mod_count_176 rfl 0 rfl ?_
      refine g_getr (pc1 := 180) d_Mod_count_177 rfl ⟨_, fo_Mod_149⟩ sh_401 (by decide) (rf_401_69 ld) ?_
      refine g_iconst (pc1 := 181) (v := 1) d_Mod_count_180 rfl (by decide) ?_
      refine g_zald (pc1 := 182) d_Mod_count_181 rfl sh_445 (by decide) (vin_lit (x := 1) (by decide)) ?_
      refine g_if_eq (pc1 := 185) (tgt := 189) d_Mod_count_182 (by decide) rfl (fun h3768 => ?_) (fun h3768 => ?_)
      · refine g_iconst (pc1 := 190) (v := 0) d_Mod_count_189 rfl (by decide) ?_
        refine g_iadd (pc1 := 191) d_Mod_count_190 rfl ?_
        refine g_aload_n (pc1 := 192) d_Mod_count_191 rfl 0 rfl ?_
        refine g_getr (pc1 := 195) d_Mod_count_192 rfl ⟨_, fo_Mod_149⟩ sh_401 (by decide) (rf_401_69 ld) ?_
        refine g_iconst (pc1 := 196) (v := 2) d_Mod_count_195 rfl (by decide) ?_
        refine g_zald (pc1 := 197) d_Mod_count_196 rfl sh_445 (by decide) (vin_lit (x := 2) (by decide)) ?_
        refine g_if_eq (pc1 := 200) (tgt := 204) d_Mod_count_197 (by decide) rfl (fun h3769 => ?_) (fun h3769 => ?_)
        · refine g_iconst (pc1 := 205) (v := 0) d_Mod_count_204 rfl (by decide) ?_
          refine g_iadd (pc1 := 206) d_Mod_count_205 rfl ?_
          refine g_ireturn (Or.inl rfl) d_Mod_count_206 rfl ?_
          exact hQ _
        · refine g_iconst (pc1 := 201) (v := 1) d_Mod_count_200 rfl (by decide) ?_
          refine g_goto (tgt := 205) d_Mod_count_201 (by decide) ?_
          refine g_iadd (pc1 := 206) d_Mod_count_205 rfl ?_
          refine g_ireturn (Or.inl rfl) d_Mod_count_206 rfl ?_
          exact hQ _
      · refine g_iconst (pc1 := 186) (v := 1) d_Mod_count_185 rfl (by decide) ?_
        refine g_goto (tgt := 190) d_Mod_count_186 (by decide) ?_
        refine g_iadd (pc1 := 191) d_Mod_count_190 rfl ?_
        refine g_aload_n (pc1 := 192) d_Mod_count_191 rfl 0 rfl ?_
        refine g_getr (pc1 := 195) d_Mod_count_192 rfl ⟨_, fo_Mod_149⟩ sh_401 (by decide) (rf_401_69 ld) ?_
        refine g_iconst (pc1 := 196) (v := 2) d_Mod_count_195 rfl (by decide) ?_
        refine g_zald (pc1 := 197) d_Mod_count_196 rfl sh_445 (by decide) (vin_lit (x := 2) (by decide)) ?_
        refine g_if_eq (pc1 := 200) (tgt := 204) d_Mod_count_197 (by decide) rfl (fun h3770 => ?_) (fun h3770 => ?_)
        · refine g_iconst (pc1 := 205) (v := 0) d_Mod_count_204 rfl (by decide) ?_
          refine g_iadd (pc1 := 206) d_Mod_count_205 rfl ?_
          refine g_ireturn (Or.inl rfl) d_Mod_count_206 rfl ?_
          exact hQ _
        · refine g_iconst (pc1 := 201) (v := 1) d_Mod_count_200 rfl (by decide) ?_
          refine g_goto (tgt := 205) d_Mod_count_201 (by decide) ?_
          refine g_iadd (pc1 := 206) d_Mod_count_205 rfl ?_
          refine g_ireturn (Or.inl rfl) d_Mod_count_206 rfl ?_
          exact hQ _
    · refine g_iconst (pc1 := 172) (v := 1) d_Mod_count_171 rfl (by decide) ?_
      refine g_goto (tgt := 176) d_Mod_count_172 (by decide) ?_
      refine g_aload_n (pc1 := 177) d_Mod_count_176 rfl 0 rfl ?_
      refine g_getr (pc1 := 180) d_Mod_count_177 rfl ⟨_, fo_Mod_149⟩ sh_401 (by decide) (rf_401_69 ld) ?_
      refine g_iconst (pc1 := 181) (v := 1) d_Mod_count_180 rfl (by decide) ?_
      refine g_zald (pc1 := 182) d_Mod_count_181 rfl sh_445 (by decide) (vin_lit (x := 1) (by decide)) ?_
      refine g_if_eq (pc1 := 185) (tgt := 189) d_Mod_count_182 (by decide) rfl (fun h3771 => ?_) (fun h3771 => ?_)
      · refine g_iconst (pc1 := 190) (v := 0) d_Mod_count_189 rfl (by decide) ?_
        refine g_iadd (pc1 := 191) d_Mod_count_190 rfl ?_
        refine g_aload_n (pc1 := 192) d_Mod_count_191 rfl 0 rfl ?_
        refine g_getr (pc1 := 195) d_Mod_count_192 rfl ⟨_, fo_Mod_149⟩ sh_401 (by decide) (rf_401_69 ld) ?_
        refine g_iconst (pc1 := 196) (v := 2) d_Mod_count_195 rfl (by decide) ?_
        refine g_zald (pc1 := 197) d_Mod_count_196 rfl sh_445 (by decide) (vin_lit (x := 2) (by decide)) ?_
        refine g_if_eq (pc1 := 200) (tgt := 204) d_Mod_count_197 (by decide) rfl (fun h3772 => ?_) (fun h3772 => ?_)
        · refine g_iconst (pc1 := 205) (v := 0) d_Mod_count_204 rfl (by decide) ?_
          refine g_iadd (pc1 := 206) d_Mod_count_205 rfl ?_
          refine g_ireturn (Or.inl rfl) d_Mod_count_206 rfl ?_
          exact hQ _
        · refine g_iconst (pc1 := 201) (v := 1) d_Mod_count_200 rfl (by decide) ?_
          refine g_goto (tgt := 205) d_Mod_count_201 (by decide) ?_
          refine g_iadd (pc1 := 206) d_Mod_count_205 rfl ?_
          refine g_ireturn (Or.inl rfl) d_Mod_count_206 rfl ?_
          exact hQ _
      · refine g_iconst (pc1 := 186) (v := 1) d_Mod_count_185 rfl (by decide) ?_
        refine g_goto (tgt := 190) d_Mod_count_186 (by decide) ?_
        refine g_iadd (pc1 := 191) d_Mod_count_190 rfl ?_
        refine g_aload_n (pc1 := 192) d_Mod_count_191 rfl 0 rfl ?_
        refine g_getr (pc1 := 195) d_Mod_count_192 rfl ⟨_, fo_Mod_149⟩ sh_401 (by decide) (rf_401_69 ld) ?_
        refine g_iconst (pc1 := 196) (v := 2) d_Mod_count_195 rfl (by decide) ?_
        refine g_zald (pc1 := 197) d_Mod_count_196 rfl sh_445 (by decide) (vin_lit (x := 2) (by decide)) ?_
        refine g_if_eq (pc1 := 200) (tgt := 204) d_Mod_count_197 (by decide) rfl (fun h3773 => ?_) (fun h3773 => ?_)
        · refine g_iconst (pc1 := 205) (v := 0) d_Mod_count_204 rfl (by decide) ?_
          refine g_iadd (pc1 := 206) d_Mod_count_205 rfl ?_
          refine g_ireturn (Or.inl rfl) d_Mod_count_206 rfl ?_
          exact hQ _
        · refine g_iconst (pc1 := 201) (v := 1) d_Mod_count_200 rfl (by decide) ?_
          refine g_goto (tgt := 205) d_Mod_count_201 (by decide) ?_
          refine g_iadd (pc1 := 206) d_Mod_count_205 rfl ?_
          refine g_ireturn (Or.inl rfl) d_Mod_count_206 rfl ?_
          exact hQ _
  by_cases h3774 : p0 = 14
  · refine g_tabK (tgt := 207) (off := 206) d_Mod_count_1 h3774 (by decide) (by decide) (by decide) (by decide) ?_
    refine g_aload_n (pc1 := 208) d_Mod_count_207 rfl 0 rfl ?_
    refine g_getr (pc1 := 211) d_Mod_count_208 rfl ⟨_, fo_Mod_122⟩ sh_401 (by decide) (rf_401_52 ld) ?_
    refine g_bipush (pc1 := 213) (v := 37) d_Mod_count_211 rfl (by decide) ?_
    refine g_iald (pc1 := 214) d_Mod_count_213 rfl sh_436 (by decide) (vin_lit (x := 37) (by decide)) ?_
    refine g_ireturn (Or.inl rfl) d_Mod_count_214 rfl ?_
    exact hQ _
  by_cases h3775 : p0 = 15
  · refine g_tabK (tgt := 215) (off := 214) d_Mod_count_1 h3775 (by decide) (by decide) (by decide) (by decide) ?_
    refine g_aload_n (pc1 := 216) d_Mod_count_215 rfl 0 rfl ?_
    refine g_getr (pc1 := 219) d_Mod_count_216 rfl ⟨_, fo_Mod_122⟩ sh_401 (by decide) (rf_401_52 ld) ?_
    refine g_bipush (pc1 := 221) (v := 31) d_Mod_count_219 rfl (by decide) ?_
    refine g_iald (pc1 := 222) d_Mod_count_221 rfl sh_436 (by decide) (vin_lit (x := 31) (by decide)) ?_
    refine g_aload_n (pc1 := 223) d_Mod_count_222 rfl 0 rfl ?_
    refine g_getr (pc1 := 226) d_Mod_count_223 rfl ⟨_, fo_Mod_122⟩ sh_401 (by decide) (rf_401_52 ld) ?_
    refine g_bipush (pc1 := 228) (v := 32) d_Mod_count_226 rfl (by decide) ?_
    refine g_iald (pc1 := 229) d_Mod_count_228 rfl sh_436 (by decide) (vin_lit (x := 32) (by decide)) ?_
    refine g_iadd (pc1 := 230) d_Mod_count_229 rfl ?_
    refine g_aload_n (pc1 := 231) d_Mod_count_230 rfl 0 rfl ?_
    refine g_getr (pc1 := 234) d_Mod_count_231 rfl ⟨_, fo_Mod_122⟩ sh_401 (by decide) (rf_401_52 ld) ?_
    refine g_bipush (pc1 := 236) (v := 33) d_Mod_count_234 rfl (by decide) ?_
    refine g_iald (pc1 := 237) d_Mod_count_236 rfl sh_436 (by decide) (vin_lit (x := 33) (by decide)) ?_
    refine g_iadd (pc1 := 238) d_Mod_count_237 rfl ?_
    refine g_aload_n (pc1 := 239) d_Mod_count_238 rfl 0 rfl ?_
    refine g_getr (pc1 := 242) d_Mod_count_239 rfl ⟨_, fo_Mod_122⟩ sh_401 (by decide) (rf_401_52 ld) ?_
    refine g_bipush (pc1 := 244) (v := 34) d_Mod_count_242 rfl (by decide) ?_
    refine g_iald (pc1 := 245) d_Mod_count_244 rfl sh_436 (by decide) (vin_lit (x := 34) (by decide)) ?_
    refine g_iadd (pc1 := 246) d_Mod_count_245 rfl ?_
    refine g_ireturn (Or.inl rfl) d_Mod_count_246 rfl ?_
    exact hQ _
  refine g_tabOut (tgt := 247) d_Mod_count_1 (by
    have nh3753 := neT (a := 0) h3753 (by decide)
    have nh3754 := neT (a := 1) h3754 (by decide)
    have nh3755 := neT (a := 2) h3755 (by decide)
    have nh3756 := neT (a := 3) h3756 (by decide)
    have nh3757 := neT (a := 4) h3757 (by decide)
    have nh3758 := neT (a := 5) h3758 (by decide)
    have nh3759 := neT (a := 6) h3759 (by decide)
    have nh3760 := neT (a := 7) h3760 (by decide)
    have nh3761 := neT (a := 8) h3761 (by decide)
    have nh3762 := neT (a := 9) h3762 (by decide)
    have nh3763 := neT (a := 10) h3763 (by decide)
    have nh3764 := neT (a := 11) h3764 (by decide)
    have nh3765 := neT (a := 12) h3765 (by decide)
    have nh3766 := neT (a := 13) h3766 (by decide)
    have nh3774 := neT (a := 14) h3774 (by decide)
    have nh3775 := neT (a := 15) h3775 (by decide)
    omega) (by decide) ?_
  refine g_iconst (pc1 := 248) (v := (-1)) d_Mod_count_247 rfl (by decide) ?_
  refine g_ireturn (Or.inl rfl) d_Mod_count_248 rfl ?_
  exact hQ _
set_option maxHeartbeats 4000000 in
set_option maxRecDepth 20000 in
theorem t2_Mod_fillsPot {l : Launch} {ld : Nat} (hld : isLa ld) {M : gM} {L : gL} {Q : Option Value → gM → gL → gR → Prop} (hI : Inv M) (p0 : Int32) (h0 : 0 ≤ (p0 : Int32).toInt ∧ (p0 : Int32).toInt ≤ 4) (hQ : ∀  (M' : gM) (L' : gL), Kl MS1 M L M' L' → Q none M' L' (rf ld)) : Tm l y_Mod_fillsPot (0, 0, 447) 447 [.ref 401, .int p0] M L (rf ld) Q := by
  refine Tm.of (by decide) (Nat.le_of_ble_eq_true rfl) ?_
  show Wp l y_Mod_fillsPot (0, 0, 447) 447 0 0 0 [(0, .ref 401), (1, .int p0)] [] M L (rf ld) Q
  refine g_iconst (pc1 := 1) (v := 0) d_Mod_fillsPot_0 rfl (by decide) ?_
  refine g_istore_n (pc1 := 2) (lv' := [(0, .ref 401), (1, .int p0), (2, .int 0)]) d_Mod_fillsPot_1 rfl rfl (by decide) [1, 2, 0] rfl ?_
  have LP3779 : ∀ (f3776 : Nat) (v3780 : Int32) (M3781 : gM) (L3782 : gL), Kl MS1 M L M3781 L3782 → (0 ≤ v3780.toInt) → ((6 : Int32).toInt - v3780.toInt).toNat < f3776 → Wp l y_Mod_fillsPot (0, 0, 447) 447 0 0 2 [(0, .ref 401), (1, .int p0), (2, .int v3780)] [] M3781 L3782 (rf ld) Q := by
    intro f3776
    induction f3776 with
    | zero => intro v3780 M3781 L3782 _ _ hm3778; exact absurd hm3778 (Nat.not_lt_zero _)
    | succ f3776 ih3777 =>
      intro v3780 M3781 L3782 k3783 n3784 hm3778
      refine g_iload_n (pc1 := 3) d_Mod_fillsPot_2 rfl 2 rfl ?_
      refine g_bipush (pc1 := 5) (v := 6) d_Mod_fillsPot_3 rfl (by decide) ?_
      refine g_icmp_ge (pc1 := 8) (tgt := 55) d_Mod_fillsPot_5 (by decide) rfl (fun h3785 => ?_) (fun h3785 => ?_)
      · refine g_return rfl d_Mod_fillsPot_55 rfl ?_
        exact hQ _ _ k3783
      · refine g_aload_n (pc1 := 9) d_Mod_fillsPot_8 rfl 0 rfl ?_
        refine g_getr (pc1 := 12) d_Mod_fillsPot_9 rfl ⟨_, fo_Mod_128⟩ sh_401 (by decide) (rf_401_55 ld) ?_
        refine g_iload_n (pc1 := 13) d_Mod_fillsPot_12 rfl 2 rfl ?_
        refine g_iload_n (pc1 := 14) d_Mod_fillsPot_13 rfl 2 rfl ?_
        refine g_aload_n (pc1 := 15) d_Mod_fillsPot_14 rfl 0 rfl ?_
        refine g_getr (pc1 := 18) d_Mod_fillsPot_15 rfl ⟨_, fo_Mod_46⟩ sh_401 (by decide) (rf_401_23 ld) ?_
        refine g_aload_n (pc1 := 19) d_Mod_fillsPot_18 rfl 0 rfl ?_
        refine g_geti (pc1 := 22) d_Mod_fillsPot_19 rfl ⟨_, fo_Mod_236⟩ sh_401 (by decide) ?_
        refine Wp.vali (y := (M 401 18)) (Kl.m k3783 rfl) ?_
        refine g_iald (pc1 := 23) d_Mod_fillsPot_22 rfl sh_411 (by decide) (by have r0 := hI.live; have r1 := (i_b (M 401 18)); exact vin_i (by omega) (by omega)) ?_
        refine Wp.vali (y := (M 411 ((M 401 18) : Int32).toNatClampNeg)) (Kl.m k3783 rfl) ?_
        refine g_icmp_ge (pc1 := 26) (tgt := 47) d_Mod_fillsPot_23 (by decide) rfl (fun h3786 => ?_) (fun h3786 => ?_)
        · refine g_iconst (pc1 := 48) (v := 0) d_Mod_fillsPot_47 rfl (by decide) ?_
          refine g_iast (pc1 := 49) d_Mod_fillsPot_48 rfl sh_438 (by decide) (by have l0 : (6 : Int32).toInt = 6 := (by decide); have r0 := (mt i_le.mpr h3785); have r1 := (i_le.mp h3786); have r2 := n3784; have r3 := (hI.foods (((M 401 18) : Int32).toNatClampNeg)); have r4 := (i_b (M 411 (M 401 18).toNatClampNeg)); have r5 := (i_b (v3780)); exact vin_i (by omega) (by omega)) ?_
          refine Wp.topM (fun M3787 eM3787 => ?_)
          obtain ⟨x3788, ex3788⟩ : ∃ y : Int32, y = v3780 + 1 := ⟨_, rfl⟩
          refine g_iinc (pc1 := 52) (v := x3788) (lv' := [(0, .ref 401), (1, .int p0), (2, .int x3788)]) d_Mod_fillsPot_49 rfl 2 rfl (by rw [ex3788]; rfl) (by decide) [1, 2, 0] rfl ?_
          refine g_goto (tgt := 2) d_Mod_fillsPot_52 (by decide) ?_
          exact ih3777 x3788 M3787 L3782 (Kl.wM k3783 rfl eM3787) (by have l0 : (1 : Int32).toInt = 1 := (by decide); have l1 : (6 : Int32).toInt = 6 := (by decide); have r0 := (mt i_le.mpr h3785); have r1 := (i_le.mp h3786); have r2 := n3784; have r3 := (hI.foods (((M 401 18) : Int32).toNatClampNeg)); have r4 := (i_b (M 411 (M 401 18).toNatClampNeg)); have r5 := (i_b (v3780)); have r6 := (i_b (x3788)); have e1 : (v3780 + 1 : Int32).toInt = (v3780.toInt + 1) := i_addE rfl (by decide : (1 : Int32).toInt = 1) (by omega); have d2 : x3788.toInt = (v3780.toInt + 1) := (congrArg Int32.toInt ex3788).trans e1; omega) (by have l0 : (1 : Int32).toInt = 1 := (by decide); have l1 : (6 : Int32).toInt = 6 := (by decide); have r0 := (mt i_le.mpr h3785); have r1 := (i_le.mp h3786); have r2 := n3784; have r3 := hm3778; have r4 := (hI.foods (((M 401 18) : Int32).toNatClampNeg)); have r5 := (i_b (M 411 (M 401 18).toNatClampNeg)); have r6 := (i_b (v3780)); have r7 := (i_b (x3788)); have e1 : (v3780 + 1 : Int32).toInt = (v3780.toInt + 1) := i_addE rfl (by decide : (1 : Int32).toInt = 1) (by omega); have d2 : x3788.toInt = (v3780.toInt + 1) := (congrArg Int32.toInt ex3788).trans e1; omega)
        · refine g_aload_n (pc1 := 27) d_Mod_fillsPot_26 rfl 0 rfl ?_
          refine g_getr (pc1 := 30) d_Mod_fillsPot_27 rfl ⟨_, fo_Mod_64⟩ sh_401 (by decide) (rf_401_29 ld) ?_
          refine g_bipush (pc1 := 32) (v := 6) d_Mod_fillsPot_30 rfl (by decide) ?_
          refine g_iconst (pc1 := 33) (v := 5) d_Mod_fillsPot_32 rfl (by decide) ?_
          refine g_aload_n (pc1 := 34) d_Mod_fillsPot_33 rfl 0 rfl ?_
          refine g_geti (pc1 := 37) d_Mod_fillsPot_34 rfl ⟨_, fo_Mod_236⟩ sh_401 (by decide) ?_
          refine Wp.vali (y := (M 401 18)) (Kl.m k3783 rfl) ?_
          refine g_imul (pc1 := 38) d_Mod_fillsPot_37 rfl ?_
          refine g_iload_n (pc1 := 39) d_Mod_fillsPot_38 rfl 1 rfl ?_
          refine g_iadd (pc1 := 40) d_Mod_fillsPot_39 rfl ?_
          refine g_imul (pc1 := 41) d_Mod_fillsPot_40 rfl ?_
          refine g_iload_n (pc1 := 42) d_Mod_fillsPot_41 rfl 2 rfl ?_
          refine g_iadd (pc1 := 43) d_Mod_fillsPot_42 rfl ?_
          refine g_iald (pc1 := 44) d_Mod_fillsPot_43 rfl sh_417 (by decide) (by have l0 : (5 : Int32).toInt = 5 := (by decide); have l1 : (6 : Int32).toInt = 6 := (by decide); have r0 := (mt i_le.mpr h3785); have r1 := (mt i_le.mpr h3786); have r2 := h0; have r3 := n3784; have r4 := hI.live; have r5 := (hI.foods (((M 401 18) : Int32).toNatClampNeg)); have r6 := (i_b (M 401 18)); have r7 := (i_b (M 411 (M 401 18).toNatClampNeg)); have r8 := (i_b (p0)); have r9 := (i_b (v3780)); have e1 : (5 * (M 401 18) : Int32).toInt = (5 * ((M 401 18) : Int32).toInt) := i_mulE (by decide : (5 : Int32).toInt = 5) rfl (by omega); have e2 : ((5 * (M 401 18)) + p0 : Int32).toInt = ((5 * ((M 401 18) : Int32).toInt) + p0.toInt) := i_addE e1 rfl (by omega); have e3 : (6 * ((5 * (M 401 18)) + p0) : Int32).toInt = (6 * ((5 * ((M 401 18) : Int32).toInt) + p0.toInt)) := i_mulE (by decide : (6 : Int32).toInt = 6) e2 (by omega); have e4 : ((6 * ((5 * (M 401 18)) + p0)) + v3780 : Int32).toInt = ((6 * ((5 * ((M 401 18) : Int32).toInt) + p0.toInt)) + v3780.toInt) := i_addE e3 rfl (by omega); exact vin_i (by omega) (by omega)) ?_
          refine Wp.vali (y := (M 417 (((6 * ((5 * (M 401 18)) + p0)) + v3780) : Int32).toNatClampNeg)) (Kl.m k3783 rfl) ?_
          refine g_goto (tgt := 48) d_Mod_fillsPot_44 (by decide) ?_
          refine g_iast (pc1 := 49) d_Mod_fillsPot_48 rfl sh_438 (by decide) (by have l0 : (6 : Int32).toInt = 6 := (by decide); have r0 := (mt i_le.mpr h3785); have r1 := (mt i_le.mpr h3786); have r2 := n3784; have r3 := (hI.foods (((M 401 18) : Int32).toNatClampNeg)); have r4 := (i_b (M 411 (M 401 18).toNatClampNeg)); have r5 := (i_b (v3780)); exact vin_i (by omega) (by omega)) ?_
          refine Wp.topM (fun M3789 eM3789 => ?_)
          obtain ⟨x3790, ex3790⟩ : ∃ y : Int32, y = v3780 + 1 := ⟨_, rfl⟩
          refine g_iinc (pc1 := 52) (v := x3790) (lv' := [(0, .ref 401), (1, .int p0), (2, .int x3790)]) d_Mod_fillsPot_49 rfl 2 rfl (by rw [ex3790]; rfl) (by decide) [1, 2, 0] rfl ?_
          refine g_goto (tgt := 2) d_Mod_fillsPot_52 (by decide) ?_
          exact ih3777 x3790 M3789 L3782 (Kl.wM k3783 rfl eM3789) (by have l0 : (1 : Int32).toInt = 1 := (by decide); have l1 : (6 : Int32).toInt = 6 := (by decide); have r0 := (mt i_le.mpr h3785); have r1 := (mt i_le.mpr h3786); have r2 := n3784; have r3 := (hI.foods (((M 401 18) : Int32).toNatClampNeg)); have r4 := (i_b (M 411 (M 401 18).toNatClampNeg)); have r5 := (i_b (v3780)); have r6 := (i_b (x3790)); have e1 : (v3780 + 1 : Int32).toInt = (v3780.toInt + 1) := i_addE rfl (by decide : (1 : Int32).toInt = 1) (by omega); have d2 : x3790.toInt = (v3780.toInt + 1) := (congrArg Int32.toInt ex3790).trans e1; omega) (by have l0 : (1 : Int32).toInt = 1 := (by decide); have l1 : (6 : Int32).toInt = 6 := (by decide); have r0 := (mt i_le.mpr h3785); have r1 := (mt i_le.mpr h3786); have r2 := n3784; have r3 := hm3778; have r4 := (hI.foods (((M 401 18) : Int32).toNatClampNeg)); have r5 := (i_b (M 411 (M 401 18).toNatClampNeg)); have r6 := (i_b (v3780)); have r7 := (i_b (x3790)); have e1 : (v3780 + 1 : Int32).toInt = (v3780.toInt + 1) := i_addE rfl (by decide : (1 : Int32).toInt = 1) (by omega); have d2 : x3790.toInt = (v3780.toInt + 1) := (congrArg Int32.toInt ex3790).trans e1; omega)
  exact LP3779 _ 0 M L Kl.rf (by decide) (Nat.lt_succ_self _)
set_option maxHeartbeats 4000000 in
set_option maxRecDepth 20000 in
theorem t2_Mod_held {l : Launch} {ld : Nat} (hld : isLa ld) {M : gM} {L : gL} {Q : Option Value → gM → gL → gR → Prop} (p0 : Int32) (p1 : Int32) (p2 : Int32) (h0 : (p1 : Int32).toInt ≤ (p2 : Int32).toInt) (hQ : ∀ (r : Int32), ((p1 : Int32).toInt ≤ r.toInt ∧ r.toInt ≤ (p2 : Int32).toInt) → Q (some (.int r)) M L (rf ld)) : Tm l y_Mod_held (0, 0, 447) 447 [.int p0, .int p1, .int p2] M L (rf ld) Q := by
  refine Tm.of (by decide) (Nat.le_of_ble_eq_true rfl) ?_
  show Wp l y_Mod_held (0, 0, 447) 447 0 0 0 [(0, .int p0), (1, .int p1), (2, .int p2)] [] M L (rf ld) Q
  refine g_iload_n (pc1 := 1) d_Mod_held_0 rfl 0 rfl ?_
  refine g_iload_n (pc1 := 2) d_Mod_held_1 rfl 1 rfl ?_
  refine g_icmp_ge (pc1 := 5) (tgt := 9) d_Mod_held_2 (by decide) rfl (fun h3791 => ?_) (fun h3791 => ?_)
  · refine g_iload_n (pc1 := 10) d_Mod_held_9 rfl 0 rfl ?_
    refine g_iload_n (pc1 := 11) d_Mod_held_10 rfl 2 rfl ?_
    refine g_icmp_le (pc1 := 14) (tgt := 18) d_Mod_held_11 (by decide) rfl (fun h3792 => ?_) (fun h3792 => ?_)
    · refine g_iload_n (pc1 := 19) d_Mod_held_18 rfl 0 rfl ?_
      refine g_ireturn (Or.inl rfl) d_Mod_held_19 rfl ?_
      exact hQ _ (by have r0 := (i_le.mp h3791); have r1 := (i_le.mp h3792); have r2 := h0; have r3 := (i_b (p0)); have r4 := (i_b (p1)); have r5 := (i_b (p2)); omega)
    · refine g_iload_n (pc1 := 15) d_Mod_held_14 rfl 2 rfl ?_
      refine g_goto (tgt := 19) d_Mod_held_15 (by decide) ?_
      refine g_ireturn (Or.inl rfl) d_Mod_held_19 rfl ?_
      exact hQ _ (by have r0 := (i_le.mp h3791); have r1 := (mt i_le.mpr h3792); have r2 := h0; have r3 := (i_b (p0)); have r4 := (i_b (p1)); have r5 := (i_b (p2)); omega)
  · refine g_iload_n (pc1 := 6) d_Mod_held_5 rfl 1 rfl ?_
    refine g_goto (tgt := 19) d_Mod_held_6 (by decide) ?_
    refine g_ireturn (Or.inl rfl) d_Mod_held_19 rfl ?_
    exact hQ _ (by have r0 := (mt i_le.mpr h3791); have r1 := h0; have r2 := (i_b (p0)); have r3 := (i_b (p1)); have r4 := (i_b (p2)); omega)
set_option maxHeartbeats 4000000 in
set_option maxRecDepth 20000 in
theorem t2_Mod_in {l : Launch} {ld : Nat} (hld : isLa ld) {M : gM} {L : gL} {Q : Option Value → gM → gL → gR → Prop} (p0 : Int32) (p1 : Int32) (p2 : Int32)  (hQ : ∀ (r : Int32), ((r = 0 ∧ ¬ ((p1 : Int32).toInt ≤ (p0 : Int32).toInt ∧ (p0 : Int32).toInt ≤ (p2 : Int32).toInt)) ∨ (r = 1 ∧ ((p1 : Int32).toInt ≤ (p0 : Int32).toInt ∧ (p0 : Int32).toInt ≤ (p2 : Int32).toInt))) → Q (some (.int r)) M L (rf ld)) : Tm l y_Mod_in (0, 0, 447) 447 [.int p0, .int p1, .int p2] M L (rf ld) Q := by
  refine Tm.of (by decide) (Nat.le_of_ble_eq_true rfl) ?_
  show Wp l y_Mod_in (0, 0, 447) 447 0 0 0 [(0, .int p0), (1, .int p1), (2, .int p2)] [] M L (rf ld) Q
  refine g_iload_n (pc1 := 1) d_Mod_in_0 rfl 0 rfl ?_
  refine g_iload_n (pc1 := 2) d_Mod_in_1 rfl 1 rfl ?_
  refine g_icmp_lt (pc1 := 5) (tgt := 14) d_Mod_in_2 (by decide) rfl (fun h3793 => ?_) (fun h3793 => ?_)
  · refine g_iconst (pc1 := 15) (v := 0) d_Mod_in_14 rfl (by decide) ?_
    refine g_ireturn (Or.inr ⟨rfl, rfl⟩) d_Mod_in_15 rfl ?_
    exact hQ _ (Or.inl ⟨rfl, (by have r0 := (i_lt.mp h3793); have r1 := (i_b (p0)); have r2 := (i_b (p1)); have r3 := (i_b (p2)); omega)⟩)
  · refine g_iload_n (pc1 := 6) d_Mod_in_5 rfl 0 rfl ?_
    refine g_iload_n (pc1 := 7) d_Mod_in_6 rfl 2 rfl ?_
    refine g_icmp_gt (pc1 := 10) (tgt := 14) d_Mod_in_7 (by decide) rfl (fun h3794 => ?_) (fun h3794 => ?_)
    · refine g_iconst (pc1 := 15) (v := 0) d_Mod_in_14 rfl (by decide) ?_
      refine g_ireturn (Or.inr ⟨rfl, rfl⟩) d_Mod_in_15 rfl ?_
      exact hQ _ (Or.inl ⟨rfl, (by have r0 := (mt i_lt.mpr h3793); have r1 := (i_lt.mp h3794); have r2 := (i_b (p0)); have r3 := (i_b (p1)); have r4 := (i_b (p2)); omega)⟩)
    · refine g_iconst (pc1 := 11) (v := 1) d_Mod_in_10 rfl (by decide) ?_
      refine g_goto (tgt := 15) d_Mod_in_11 (by decide) ?_
      refine g_ireturn (Or.inr ⟨rfl, rfl⟩) d_Mod_in_15 rfl ?_
      exact hQ _ (Or.inr ⟨rfl, (by have r0 := (mt i_lt.mpr h3793); have r1 := (mt i_lt.mpr h3794); have r2 := (i_b (p0)); have r3 := (i_b (p1)); have r4 := (i_b (p2)); omega)⟩)
set_option maxHeartbeats 4000000 in
set_option maxRecDepth 20000 in
theorem t2_Mod_isDigit {l : Launch} {ld : Nat} (hld : isLa ld) {M : gM} {L : gL} {Q : Option Value → gM → gL → gR → Prop} (p0 : Int32)  (hQ : ∀ (r : Int32), (r = 0 ∨ r = 1) → Q (some (.int r)) M L (rf ld)) : Tm l y_Mod_isDigit (0, 0, 447) 447 [.int p0] M L (rf ld) Q := by
  refine Tm.of (by decide) (Nat.le_of_ble_eq_true rfl) ?_
  show Wp l y_Mod_isDigit (0, 0, 447) 447 0 0 0 [(0, .int p0)] [] M L (rf ld) Q
  refine g_iload_n (pc1 := 1) d_Mod_isDigit_0 rfl 0 rfl ?_
  refine g_bipush (pc1 := 3) (v := 48) d_Mod_isDigit_1 rfl (by decide) ?_
  refine g_icmp_lt (pc1 := 6) (tgt := 16) d_Mod_isDigit_3 (by decide) rfl (fun h3795 => ?_) (fun h3795 => ?_)
  · refine g_iconst (pc1 := 17) (v := 0) d_Mod_isDigit_16 rfl (by decide) ?_
    refine g_ireturn (Or.inr ⟨rfl, rfl⟩) d_Mod_isDigit_17 rfl ?_
    exact hQ _ (Or.inl rfl)
  · refine g_iload_n (pc1 := 7) d_Mod_isDigit_6 rfl 0 rfl ?_
    refine g_bipush (pc1 := 9) (v := 57) d_Mod_isDigit_7 rfl (by decide) ?_
    refine g_icmp_gt (pc1 := 12) (tgt := 16) d_Mod_isDigit_9 (by decide) rfl (fun h3796 => ?_) (fun h3796 => ?_)
    · refine g_iconst (pc1 := 17) (v := 0) d_Mod_isDigit_16 rfl (by decide) ?_
      refine g_ireturn (Or.inr ⟨rfl, rfl⟩) d_Mod_isDigit_17 rfl ?_
      exact hQ _ (Or.inl rfl)
    · refine g_iconst (pc1 := 13) (v := 1) d_Mod_isDigit_12 rfl (by decide) ?_
      refine g_goto (tgt := 17) d_Mod_isDigit_13 (by decide) ?_
      refine g_ireturn (Or.inr ⟨rfl, rfl⟩) d_Mod_isDigit_17 rfl ?_
      exact hQ _ (Or.inr rfl)
set_option maxHeartbeats 4000000 in
set_option maxRecDepth 20000 in
theorem t2_Mod_isLetter {l : Launch} {ld : Nat} (hld : isLa ld) {M : gM} {L : gL} {Q : Option Value → gM → gL → gR → Prop} (p0 : Int32)  (hQ : ∀ (r : Int32), (r = 0 ∨ r = 1) → Q (some (.int r)) M L (rf ld)) : Tm l y_Mod_isLetter (0, 0, 447) 447 [.int p0] M L (rf ld) Q := by
  refine Tm.of (by decide) (Nat.le_of_ble_eq_true rfl) ?_
  show Wp l y_Mod_isLetter (0, 0, 447) 447 0 0 0 [(0, .int p0)] [] M L (rf ld) Q
  refine g_iload_n (pc1 := 1) d_Mod_isLetter_0 rfl 0 rfl ?_
  refine g_bipush (pc1 := 3) (v := 97) d_Mod_isLetter_1 rfl (by decide) ?_
  refine g_icmp_lt (pc1 := 6) (tgt := 16) d_Mod_isLetter_3 (by decide) rfl (fun h3797 => ?_) (fun h3797 => ?_)
  · refine g_iconst (pc1 := 17) (v := 0) d_Mod_isLetter_16 rfl (by decide) ?_
    refine g_ireturn (Or.inr ⟨rfl, rfl⟩) d_Mod_isLetter_17 rfl ?_
    exact hQ _ (Or.inl rfl)
  · refine g_iload_n (pc1 := 7) d_Mod_isLetter_6 rfl 0 rfl ?_
    refine g_bipush (pc1 := 9) (v := 122) d_Mod_isLetter_7 rfl (by decide) ?_
    refine g_icmp_gt (pc1 := 12) (tgt := 16) d_Mod_isLetter_9 (by decide) rfl (fun h3798 => ?_) (fun h3798 => ?_)
    · refine g_iconst (pc1 := 17) (v := 0) d_Mod_isLetter_16 rfl (by decide) ?_
      refine g_ireturn (Or.inr ⟨rfl, rfl⟩) d_Mod_isLetter_17 rfl ?_
      exact hQ _ (Or.inl rfl)
    · refine g_iconst (pc1 := 13) (v := 1) d_Mod_isLetter_12 rfl (by decide) ?_
      refine g_goto (tgt := 17) d_Mod_isLetter_13 (by decide) ?_
      refine g_ireturn (Or.inr ⟨rfl, rfl⟩) d_Mod_isLetter_17 rfl ?_
      exact hQ _ (Or.inr rfl)
set_option maxHeartbeats 4000000 in
set_option maxRecDepth 20000 in
theorem t2_Mod_looks {l : Launch} {ld : Nat} (hld : isLa ld) {M : gM} {L : gL} {Q : Option Value → gM → gL → gR → Prop} (hI : Inv M)   (hQ : ∀  (M' : gM) (L' : gL), Kl MS0 M L M' L' → Q none M' L' (rf ld)) : Tm l y_Mod_looks (0, 0, 447) 447 [.ref 401] M L (rf ld) Q := by
  refine Tm.of (by decide) (Nat.le_of_ble_eq_true rfl) ?_
  show Wp l y_Mod_looks (0, 0, 447) 447 0 0 0 [(0, .ref 401)] [] M L (rf ld) Q
  refine g_iconst (pc1 := 1) (v := 0) d_Mod_looks_0 rfl (by decide) ?_
  refine g_istore_n (pc1 := 2) (lv' := [(0, .ref 401), (1, .int 0)]) d_Mod_looks_1 rfl rfl (by decide) [1, 0] rfl ?_
  have LP3802 : ∀ (f3799 : Nat) (v3803 : Int32) (M3804 : gM) (L3805 : gL), Kl MS0 M L M3804 L3805 → (0 ≤ v3803.toInt) → ((9 : Int32).toInt - v3803.toInt).toNat < f3799 → Wp l y_Mod_looks (0, 0, 447) 447 0 0 2 [(0, .ref 401), (1, .int v3803)] [] M3804 L3805 (rf ld) Q := by
    intro f3799
    induction f3799 with
    | zero => intro v3803 M3804 L3805 _ _ hm3801; exact absurd hm3801 (Nat.not_lt_zero _)
    | succ f3799 ih3800 =>
      intro v3803 M3804 L3805 k3806 n3807 hm3801
      refine g_iload_n (pc1 := 3) d_Mod_looks_2 rfl 1 rfl ?_
      refine g_bipush (pc1 := 5) (v := 9) d_Mod_looks_3 rfl (by decide) ?_
      refine g_icmp_ge (pc1 := 8) (tgt := 21) d_Mod_looks_5 (by decide) rfl (fun h3808 => ?_) (fun h3808 => ?_)
      · refine g_aload_n (pc1 := 22) d_Mod_looks_21 rfl 0 rfl ?_
        refine g_getr (pc1 := 25) d_Mod_looks_22 rfl ⟨_, fo_Mod_116⟩ sh_401 (by decide) (rf_401_49 ld) ?_
        refine g_iconst (pc1 := 26) (v := 4) d_Mod_looks_25 rfl (by decide) ?_
        refine g_aload_n (pc1 := 27) d_Mod_looks_26 rfl 0 rfl ?_
        refine g_getr (pc1 := 30) d_Mod_looks_27 rfl ⟨_, fo_Mod_125⟩ sh_401 (by decide) (rf_401_53 ld) ?_
        refine g_bipush (pc1 := 32) (v := 35) d_Mod_looks_30 rfl (by decide) ?_
        refine g_iald (pc1 := 33) d_Mod_looks_32 rfl sh_437 (by decide) (vin_lit (x := 35) (by decide)) ?_
        refine Wp.vali (y := (M 437 (35 : Int32).toNatClampNeg)) (Kl.m k3806 rfl) ?_
        refine g_iast (pc1 := 34) d_Mod_looks_33 rfl sh_434 (by decide) (vin_lit (x := 4) (by decide)) ?_
        refine Wp.topM (fun M3809 eM3809 => ?_)
        refine g_return rfl d_Mod_looks_34 rfl ?_
        exact hQ _ _ (Kl.wM k3806 rfl eM3809)
      · refine g_aload_n (pc1 := 9) d_Mod_looks_8 rfl 0 rfl ?_
        refine g_getr (pc1 := 12) d_Mod_looks_9 rfl ⟨_, fo_Mod_116⟩ sh_401 (by decide) (rf_401_49 ld) ?_
        refine g_iload_n (pc1 := 13) d_Mod_looks_12 rfl 1 rfl ?_
        refine g_iconst (pc1 := 14) (v := 0) d_Mod_looks_13 rfl (by decide) ?_
        refine g_iast (pc1 := 15) d_Mod_looks_14 rfl sh_434 (by decide) (by have l0 : (9 : Int32).toInt = 9 := (by decide); have r0 := (mt i_le.mpr h3808); have r1 := n3807; have r2 := (i_b (v3803)); exact vin_i (by omega) (by omega)) ?_
        refine Wp.topM (fun M3810 eM3810 => ?_)
        obtain ⟨x3811, ex3811⟩ : ∃ y : Int32, y = v3803 + 1 := ⟨_, rfl⟩
        refine g_iinc (pc1 := 18) (v := x3811) (lv' := [(0, .ref 401), (1, .int x3811)]) d_Mod_looks_15 rfl 1 rfl (by rw [ex3811]; rfl) (by decide) [1, 0] rfl ?_
        refine g_goto (tgt := 2) d_Mod_looks_18 (by decide) ?_
        exact ih3800 x3811 M3810 L3805 (Kl.wM k3806 rfl eM3810) (by have l0 : (1 : Int32).toInt = 1 := (by decide); have l1 : (9 : Int32).toInt = 9 := (by decide); have r0 := (mt i_le.mpr h3808); have r1 := n3807; have r2 := (i_b (v3803)); have r3 := (i_b (x3811)); have e1 : (v3803 + 1 : Int32).toInt = (v3803.toInt + 1) := i_addE rfl (by decide : (1 : Int32).toInt = 1) (by omega); have d2 : x3811.toInt = (v3803.toInt + 1) := (congrArg Int32.toInt ex3811).trans e1; omega) (by have l0 : (1 : Int32).toInt = 1 := (by decide); have l1 : (9 : Int32).toInt = 9 := (by decide); have r0 := (mt i_le.mpr h3808); have r1 := n3807; have r2 := hm3801; have r3 := (i_b (v3803)); have r4 := (i_b (x3811)); have e1 : (v3803 + 1 : Int32).toInt = (v3803.toInt + 1) := i_addE rfl (by decide : (1 : Int32).toInt = 1) (by omega); have d2 : x3811.toInt = (v3803.toInt + 1) := (congrArg Int32.toInt ex3811).trans e1; omega)
  exact LP3802 _ 0 M L Kl.rf (by decide) (Nat.lt_succ_self _)
set_option maxHeartbeats 4000000 in
set_option maxRecDepth 20000 in
theorem t2_Mod_mixed {l : Launch} {ld : Nat} (hld : isLa ld) {M : gM} {L : gL} {Q : Option Value → gM → gL → gR → Prop} (p0 : Int32) (p1 : Int32)  (hQ : ∀ (r : Int32), Q (some (.int r)) M L (rf ld)) : Tm l y_Mod_mixed (0, 0, 447) 447 [.int p0, .int p1] M L (rf ld) Q := by
  refine Tm.of (by decide) (Nat.le_of_ble_eq_true rfl) ?_
  show Wp l y_Mod_mixed (0, 0, 447) 447 0 0 0 [(0, .int p0), (1, .int p1)] [] M L (rf ld) Q
  refine g_iload_n (pc1 := 1) d_Mod_mixed_0 rfl 0 rfl ?_
  refine g_iload_n (pc1 := 2) d_Mod_mixed_1 rfl 1 rfl ?_
  refine g_ixor (pc1 := 3) d_Mod_mixed_2 rfl ?_
  refine g_ldcw (pc1 := 6) (v := 1103515245) d_Mod_mixed_3 rfl co_Mod_323 ?_
  refine g_imul (pc1 := 7) d_Mod_mixed_6 rfl ?_
  refine g_sipush (pc1 := 10) (v := 12345) d_Mod_mixed_7 rfl (by decide) ?_
  refine g_iadd (pc1 := 11) d_Mod_mixed_10 rfl ?_
  refine Wp.topi (fun x3812 ex3812 => ?_)
  refine g_istore_n (pc1 := 12) (lv' := [(0, .int p0), (1, .int p1), (2, .int x3812)]) d_Mod_mixed_11 rfl rfl (by decide) [1, 2, 0] rfl ?_
  refine g_iload_n (pc1 := 13) d_Mod_mixed_12 rfl 2 rfl ?_
  refine g_iload_n (pc1 := 14) d_Mod_mixed_13 rfl 2 rfl ?_
  refine g_bipush (pc1 := 16) (v := 15) d_Mod_mixed_14 rfl (by decide) ?_
  refine g_iushr (pc1 := 17) d_Mod_mixed_16 rfl ?_
  refine g_ixor (pc1 := 18) d_Mod_mixed_17 rfl ?_
  refine g_ireturn (Or.inl rfl) d_Mod_mixed_18 rfl ?_
  exact hQ _
set_option maxHeartbeats 4000000 in
set_option maxRecDepth 20000 in
theorem t2_Mod_off {l : Launch} {ld : Nat} (hld : isLa ld) {M : gM} {L : gL} {Q : Option Value → gM → gL → gR → Prop} (p0 : Int32) (p1 : Int32)  (hQ : ∀ (r : Int32), Q (some (.int r)) M L (rf ld)) : Tm l y_Mod_off (0, 0, 447) 447 [.int p0, .int p1] M L (rf ld) Q := by
  refine Tm.of (by decide) (Nat.le_of_ble_eq_true rfl) ?_
  show Wp l y_Mod_off (0, 0, 447) 447 0 0 0 [(0, .int p0), (1, .int p1)] [] M L (rf ld) Q
  refine g_iload_n (pc1 := 1) d_Mod_off_0 rfl 0 rfl ?_
  refine g_iload_n (pc1 := 2) d_Mod_off_1 rfl 1 rfl ?_
  refine g_icmp_ge (pc1 := 5) (tgt := 11) d_Mod_off_2 (by decide) rfl (fun h3813 => ?_) (fun h3813 => ?_)
  · refine g_iload_n (pc1 := 12) d_Mod_off_11 rfl 0 rfl ?_
    refine g_iload_n (pc1 := 13) d_Mod_off_12 rfl 1 rfl ?_
    refine g_isub (pc1 := 14) d_Mod_off_13 rfl ?_
    refine g_ireturn (Or.inl rfl) d_Mod_off_14 rfl ?_
    exact hQ _
  · refine g_iload_n (pc1 := 6) d_Mod_off_5 rfl 1 rfl ?_
    refine g_iload_n (pc1 := 7) d_Mod_off_6 rfl 0 rfl ?_
    refine g_isub (pc1 := 8) d_Mod_off_7 rfl ?_
    refine g_goto (tgt := 14) d_Mod_off_8 (by decide) ?_
    refine g_ireturn (Or.inl rfl) d_Mod_off_14 rfl ?_
    exact hQ _
set_option maxHeartbeats 4000000 in
set_option maxRecDepth 20000 in
theorem t2_Mod_place {l : Launch} {ld : Nat} (hld : isLa ld) {M : gM} {L : gL} {Q : Option Value → gM → gL → gR → Prop} (hI : Inv M)   (hQ : ∀ (r : Int32), Q (some (.int r)) M L (rf ld)) : Tm l y_Mod_place (0, 0, 447) 447 [.ref 401] M L (rf ld) Q := by
  refine Tm.of (by decide) (Nat.le_of_ble_eq_true rfl) ?_
  show Wp l y_Mod_place (0, 0, 447) 447 0 0 0 [(0, .ref 401)] [] M L (rf ld) Q
  refine g_aload_n (pc1 := 1) d_Mod_place_0 rfl 0 rfl ?_
  refine g_geti (pc1 := 4) d_Mod_place_1 rfl ⟨_, fo_Mod_37⟩ sh_401 (by decide) ?_
  refine g_ireturn (Or.inl rfl) d_Mod_place_4 rfl ?_
  exact hQ _
set_option maxHeartbeats 4000000 in
set_option maxRecDepth 20000 in
theorem t2_Mod_potMany {l : Launch} {ld : Nat} (hld : isLa ld) {M : gM} {L : gL} {Q : Option Value → gM → gL → gR → Prop} (hI : Inv M)   (hQ : ∀ (r : Int32), Q (some (.int r)) M L (rf ld)) : Tm l y_Mod_potMany (0, 0, 447) 447 [.ref 401] M L (rf ld) Q := by
  refine Tm.of (by decide) (Nat.le_of_ble_eq_true rfl) ?_
  show Wp l y_Mod_potMany (0, 0, 447) 447 0 0 0 [(0, .ref 401)] [] M L (rf ld) Q
  refine g_iconst (pc1 := 1) (v := 0) d_Mod_potMany_0 rfl (by decide) ?_
  refine g_istore_n (pc1 := 2) (lv' := [(0, .ref 401), (1, .int 0)]) d_Mod_potMany_1 rfl rfl (by decide) [1, 0] rfl ?_
  refine g_iconst (pc1 := 3) (v := 0) d_Mod_potMany_2 rfl (by decide) ?_
  refine g_istore_n (pc1 := 4) (lv' := [(0, .ref 401), (1, .int 0), (2, .int 0)]) d_Mod_potMany_3 rfl rfl (by decide) [1, 2, 0] rfl ?_
  have LP3817 : ∀ (f3814 : Nat) (v3818 : Int32) (v3819 : Int32), (0 ≤ v3819.toInt) → ((6 : Int32).toInt - v3819.toInt).toNat < f3814 → Wp l y_Mod_potMany (0, 0, 447) 447 0 0 4 [(0, .ref 401), (1, .int v3818), (2, .int v3819)] [] M L (rf ld) Q := by
    intro f3814
    induction f3814 with
    | zero => intro v3818 v3819 _ hm3816; exact absurd hm3816 (Nat.not_lt_zero _)
    | succ f3814 ih3815 =>
      intro v3818 v3819 n3820 hm3816
      refine g_iload_n (pc1 := 5) d_Mod_potMany_4 rfl 2 rfl ?_
      refine g_bipush (pc1 := 7) (v := 6) d_Mod_potMany_5 rfl (by decide) ?_
      refine g_icmp_ge (pc1 := 10) (tgt := 25) d_Mod_potMany_7 (by decide) rfl (fun h3821 => ?_) (fun h3821 => ?_)
      · refine g_iload_n (pc1 := 26) d_Mod_potMany_25 rfl 1 rfl ?_
        refine g_ireturn (Or.inl rfl) d_Mod_potMany_26 rfl ?_
        exact hQ _
      · refine g_iload_n (pc1 := 11) d_Mod_potMany_10 rfl 1 rfl ?_
        refine g_aload_n (pc1 := 12) d_Mod_potMany_11 rfl 0 rfl ?_
        refine g_getr (pc1 := 15) d_Mod_potMany_12 rfl ⟨_, fo_Mod_128⟩ sh_401 (by decide) (rf_401_55 ld) ?_
        refine g_iload_n (pc1 := 16) d_Mod_potMany_15 rfl 2 rfl ?_
        refine g_iald (pc1 := 17) d_Mod_potMany_16 rfl sh_438 (by decide) (by have l0 : (6 : Int32).toInt = 6 := (by decide); have r0 := (mt i_le.mpr h3821); have r1 := n3820; have r2 := (i_b (v3819)); exact vin_i (by omega) (by omega)) ?_
        refine g_iadd (pc1 := 18) d_Mod_potMany_17 rfl ?_
        refine Wp.topi (fun x3822 ex3822 => ?_)
        refine g_istore_n (pc1 := 19) (lv' := [(0, .ref 401), (1, .int x3822), (2, .int v3819)]) d_Mod_potMany_18 rfl rfl (by decide) [1, 0, 2] rfl ?_
        obtain ⟨x3823, ex3823⟩ : ∃ y : Int32, y = v3819 + 1 := ⟨_, rfl⟩
        refine g_iinc (pc1 := 22) (v := x3823) (lv' := [(0, .ref 401), (1, .int x3822), (2, .int x3823)]) d_Mod_potMany_19 rfl 2 rfl (by rw [ex3823]; rfl) (by decide) [1, 2, 0] rfl ?_
        refine g_goto (tgt := 4) d_Mod_potMany_22 (by decide) ?_
        exact ih3815 x3822 x3823 (by have l0 : (1 : Int32).toInt = 1 := (by decide); have l1 : (6 : Int32).toInt = 6 := (by decide); have r0 := (mt i_le.mpr h3821); have r1 := n3820; have r2 := (i_b (v3819)); have r3 := (i_b (x3823)); have e1 : (v3819 + 1 : Int32).toInt = (v3819.toInt + 1) := i_addE rfl (by decide : (1 : Int32).toInt = 1) (by omega); have d2 : x3823.toInt = (v3819.toInt + 1) := (congrArg Int32.toInt ex3823).trans e1; omega) (by have l0 : (1 : Int32).toInt = 1 := (by decide); have l1 : (6 : Int32).toInt = 6 := (by decide); have r0 := (mt i_le.mpr h3821); have r1 := n3820; have r2 := hm3816; have r3 := (i_b (v3819)); have r4 := (i_b (x3823)); have e1 : (v3819 + 1 : Int32).toInt = (v3819.toInt + 1) := i_addE rfl (by decide : (1 : Int32).toInt = 1) (by omega); have d2 : x3823.toInt = (v3819.toInt + 1) := (congrArg Int32.toInt ex3823).trans e1; omega)
  exact LP3817 _ 0 0 (by decide) (Nat.lt_succ_self _)
set_option maxHeartbeats 4000000 in
set_option maxRecDepth 20000 in
theorem t2_Mod_potPrice {l : Launch} {ld : Nat} (hld : isLa ld) {M : gM} {L : gL} {Q : Option Value → gM → gL → gR → Prop} (hI : Inv M)   (hQ : ∀ (r : Int32), Q (some (.int r)) M L (rf ld)) : Tm l y_Mod_potPrice (0, 0, 447) 447 [.ref 401] M L (rf ld) Q := by
  refine Tm.of (by decide) (Nat.le_of_ble_eq_true rfl) ?_
  show Wp l y_Mod_potPrice (0, 0, 447) 447 0 0 0 [(0, .ref 401)] [] M L (rf ld) Q
  refine g_iconst (pc1 := 1) (v := 0) d_Mod_potPrice_0 rfl (by decide) ?_
  refine g_istore_n (pc1 := 2) (lv' := [(0, .ref 401), (1, .int 0)]) d_Mod_potPrice_1 rfl rfl (by decide) [1, 0] rfl ?_
  refine g_iconst (pc1 := 3) (v := 0) d_Mod_potPrice_2 rfl (by decide) ?_
  refine g_istore_n (pc1 := 4) (lv' := [(0, .ref 401), (1, .int 0), (2, .int 0)]) d_Mod_potPrice_3 rfl rfl (by decide) [1, 2, 0] rfl ?_
  have LP3827 : ∀ (f3824 : Nat) (v3828 : Int32) (v3829 : Int32), (0 ≤ v3829.toInt) → (((M 411 ((M 401 18) : Int32).toNatClampNeg) : Int32).toInt - v3829.toInt).toNat < f3824 → Wp l y_Mod_potPrice (0, 0, 447) 447 0 0 4 [(0, .ref 401), (1, .int v3828), (2, .int v3829)] [] M L (rf ld) Q := by
    intro f3824
    induction f3824 with
    | zero => intro v3828 v3829 _ hm3826; exact absurd hm3826 (Nat.not_lt_zero _)
    | succ f3824 ih3825 =>
      intro v3828 v3829 n3830 hm3826
      refine g_iload_n (pc1 := 5) d_Mod_potPrice_4 rfl 2 rfl ?_
      refine g_aload_n (pc1 := 6) d_Mod_potPrice_5 rfl 0 rfl ?_
      refine g_getr (pc1 := 9) d_Mod_potPrice_6 rfl ⟨_, fo_Mod_46⟩ sh_401 (by decide) (rf_401_23 ld) ?_
      refine g_aload_n (pc1 := 10) d_Mod_potPrice_9 rfl 0 rfl ?_
      refine g_geti (pc1 := 13) d_Mod_potPrice_10 rfl ⟨_, fo_Mod_236⟩ sh_401 (by decide) ?_
      refine g_iald (pc1 := 14) d_Mod_potPrice_13 rfl sh_411 (by decide) (by have r0 := hI.live; have r1 := (i_b (M 401 18)); exact vin_i (by omega) (by omega)) ?_
      refine g_icmp_ge (pc1 := 17) (tgt := 47) d_Mod_potPrice_14 (by decide) rfl (fun h3831 => ?_) (fun h3831 => ?_)
      · refine g_iload_n (pc1 := 48) d_Mod_potPrice_47 rfl 1 rfl ?_
        refine g_ireturn (Or.inl rfl) d_Mod_potPrice_48 rfl ?_
        exact hQ _
      · refine g_iload_n (pc1 := 18) d_Mod_potPrice_17 rfl 1 rfl ?_
        refine g_aload_n (pc1 := 19) d_Mod_potPrice_18 rfl 0 rfl ?_
        refine g_getr (pc1 := 22) d_Mod_potPrice_19 rfl ⟨_, fo_Mod_128⟩ sh_401 (by decide) (rf_401_55 ld) ?_
        refine g_iload_n (pc1 := 23) d_Mod_potPrice_22 rfl 2 rfl ?_
        refine g_iald (pc1 := 24) d_Mod_potPrice_23 rfl sh_438 (by decide) (by have r0 := (mt i_le.mpr h3831); have r1 := n3830; have r2 := (hI.foods (((M 401 18) : Int32).toNatClampNeg)); have r3 := (i_b (M 411 (M 401 18).toNatClampNeg)); have r4 := (i_b (v3829)); exact vin_i (by omega) (by omega)) ?_
        refine g_aload_n (pc1 := 25) d_Mod_potPrice_24 rfl 0 rfl ?_
        refine g_getr (pc1 := 28) d_Mod_potPrice_25 rfl ⟨_, fo_Mod_52⟩ sh_401 (by decide) (rf_401_25 ld) ?_
        refine g_bipush (pc1 := 30) (v := 6) d_Mod_potPrice_28 rfl (by decide) ?_
        refine g_aload_n (pc1 := 31) d_Mod_potPrice_30 rfl 0 rfl ?_
        refine g_geti (pc1 := 34) d_Mod_potPrice_31 rfl ⟨_, fo_Mod_236⟩ sh_401 (by decide) ?_
        refine g_imul (pc1 := 35) d_Mod_potPrice_34 rfl ?_
        refine g_iload_n (pc1 := 36) d_Mod_potPrice_35 rfl 2 rfl ?_
        refine g_iadd (pc1 := 37) d_Mod_potPrice_36 rfl ?_
        refine g_iald (pc1 := 38) d_Mod_potPrice_37 rfl sh_413 (by decide) (by have l0 : (6 : Int32).toInt = 6 := (by decide); have r0 := (mt i_le.mpr h3831); have r1 := n3830; have r2 := hI.live; have r3 := (hI.foods (((M 401 18) : Int32).toNatClampNeg)); have r4 := (i_b (M 401 18)); have r5 := (i_b (M 411 (M 401 18).toNatClampNeg)); have r6 := (i_b (v3829)); have e1 : (6 * (M 401 18) : Int32).toInt = (6 * ((M 401 18) : Int32).toInt) := i_mulE (by decide : (6 : Int32).toInt = 6) rfl (by omega); have e2 : ((6 * (M 401 18)) + v3829 : Int32).toInt = ((6 * ((M 401 18) : Int32).toInt) + v3829.toInt) := i_addE e1 rfl (by omega); exact vin_i (by omega) (by omega)) ?_
        refine g_imul (pc1 := 39) d_Mod_potPrice_38 rfl ?_
        refine g_iadd (pc1 := 40) d_Mod_potPrice_39 rfl ?_
        refine Wp.topi (fun x3832 ex3832 => ?_)
        refine g_istore_n (pc1 := 41) (lv' := [(0, .ref 401), (1, .int x3832), (2, .int v3829)]) d_Mod_potPrice_40 rfl rfl (by decide) [1, 0, 2] rfl ?_
        obtain ⟨x3833, ex3833⟩ : ∃ y : Int32, y = v3829 + 1 := ⟨_, rfl⟩
        refine g_iinc (pc1 := 44) (v := x3833) (lv' := [(0, .ref 401), (1, .int x3832), (2, .int x3833)]) d_Mod_potPrice_41 rfl 2 rfl (by rw [ex3833]; rfl) (by decide) [1, 2, 0] rfl ?_
        refine g_goto (tgt := 4) d_Mod_potPrice_44 (by decide) ?_
        exact ih3825 x3832 x3833 (by have l0 : (1 : Int32).toInt = 1 := (by decide); have r0 := (mt i_le.mpr h3831); have r1 := n3830; have r2 := (hI.foods (((M 401 18) : Int32).toNatClampNeg)); have r3 := (i_b (M 411 (M 401 18).toNatClampNeg)); have r4 := (i_b (v3829)); have r5 := (i_b (x3833)); have e1 : (v3829 + 1 : Int32).toInt = (v3829.toInt + 1) := i_addE rfl (by decide : (1 : Int32).toInt = 1) (by omega); have d2 : x3833.toInt = (v3829.toInt + 1) := (congrArg Int32.toInt ex3833).trans e1; omega) (by have l0 : (1 : Int32).toInt = 1 := (by decide); have r0 := (mt i_le.mpr h3831); have r1 := n3830; have r2 := hm3826; have r3 := (hI.foods (((M 401 18) : Int32).toNatClampNeg)); have r4 := (i_b (M 411 (M 401 18).toNatClampNeg)); have r5 := (i_b (v3829)); have r6 := (i_b (x3833)); have e1 : (v3829 + 1 : Int32).toInt = (v3829.toInt + 1) := i_addE rfl (by decide : (1 : Int32).toInt = 1) (by omega); have d2 : x3833.toInt = (v3829.toInt + 1) := (congrArg Int32.toInt ex3833).trans e1; omega)
  exact LP3827 _ 0 0 (by decide) (Nat.lt_succ_self _)
set_option maxHeartbeats 4000000 in
set_option maxRecDepth 20000 in
theorem t2_Mod_sevens {l : Launch} {ld : Nat} (hld : isLa ld) {M : gM} {L : gL} {Q : Option Value → gM → gL → gR → Prop} (p0 : Int32) (h0 : 0 ≤ (p0 : Int32).toInt ∧ (p0 : Int32).toInt ≤ 7) (hQ : ∀ (r : Int32), (r.toInt = (7 : Nat) ^ (p0 : Int32).toInt.toNat ∧ 1 ≤ r.toInt ∧ r.toInt ≤ 823543) → Q (some (.int r)) M L (rf ld)) : Tm l y_Mod_sevens (0, 0, 447) 447 [.int p0] M L (rf ld) Q := by
  refine Tm.of (by decide) (Nat.le_of_ble_eq_true rfl) ?_
  show Wp l y_Mod_sevens (0, 0, 447) 447 0 0 0 [(0, .int p0)] [] M L (rf ld) Q
  refine g_iconst (pc1 := 1) (v := 1) d_Mod_sevens_0 rfl (by decide) ?_
  refine g_istore_n (pc1 := 2) (lv' := [(0, .int p0), (1, .int 1)]) d_Mod_sevens_1 rfl rfl (by decide) [1, 0] rfl ?_
  refine g_iconst (pc1 := 3) (v := 0) d_Mod_sevens_2 rfl (by decide) ?_
  refine g_istore_n (pc1 := 4) (lv' := [(0, .int p0), (1, .int 1), (2, .int 0)]) d_Mod_sevens_3 rfl rfl (by decide) [1, 2, 0] rfl ?_
  have LP3837 : ∀ (f3834 : Nat) (v3838 : Int32) (v3839 : Int32), (0 ≤ v3839.toInt) → (v3839.toInt ≤ p0.toInt ∧ v3838.toInt = ((7 : Nat) : Int) ^ v3839.toInt.toNat) → (p0.toInt - v3839.toInt).toNat < f3834 → Wp l y_Mod_sevens (0, 0, 447) 447 0 0 4 [(0, .int p0), (1, .int v3838), (2, .int v3839)] [] M L (rf ld) Q := by
    intro f3834
    induction f3834 with
    | zero => intro v3838 v3839 _ _ hm3836; exact absurd hm3836 (Nat.not_lt_zero _)
    | succ f3834 ih3835 =>
      intro v3838 v3839 n3840 n3841 hm3836
      refine g_iload_n (pc1 := 5) d_Mod_sevens_4 rfl 2 rfl ?_
      refine g_iload_n (pc1 := 6) d_Mod_sevens_5 rfl 0 rfl ?_
      refine g_icmp_ge (pc1 := 9) (tgt := 20) d_Mod_sevens_6 (by decide) rfl (fun h3842 => ?_) (fun h3842 => ?_)
      · refine g_iload_n (pc1 := 21) d_Mod_sevens_20 rfl 1 rfl ?_
        refine g_ireturn (Or.inl rfl) d_Mod_sevens_21 rfl ?_
        exact hQ _ (pow_fin 7 (by decide) n3841 h0.2 (by have r0 := (i_le.mp h3842); have r1 := n3840; have r2 := h0; have r3 := (i_b (p0)); have r4 := (i_b (v3839)); omega))
      · refine g_iload_n (pc1 := 10) d_Mod_sevens_9 rfl 1 rfl ?_
        refine g_bipush (pc1 := 12) (v := 7) d_Mod_sevens_10 rfl (by decide) ?_
        refine g_imul (pc1 := 13) d_Mod_sevens_12 rfl ?_
        refine Wp.topi (fun x3843 ex3843 => ?_)
        refine g_istore_n (pc1 := 14) (lv' := [(0, .int p0), (1, .int x3843), (2, .int v3839)]) d_Mod_sevens_13 rfl rfl (by decide) [1, 0, 2] rfl ?_
        obtain ⟨x3844, ex3844⟩ : ∃ y : Int32, y = v3839 + 1 := ⟨_, rfl⟩
        refine g_iinc (pc1 := 17) (v := x3844) (lv' := [(0, .int p0), (1, .int x3843), (2, .int x3844)]) d_Mod_sevens_14 rfl 2 rfl (by rw [ex3844]; rfl) (by decide) [1, 2, 0] rfl ?_
        refine g_goto (tgt := 4) d_Mod_sevens_17 (by decide) ?_
        exact ih3835 x3843 x3844 (by have l0 : (1 : Int32).toInt = 1 := (by decide); have r0 := (mt i_le.mpr h3842); have r1 := n3840; have r2 := h0; have r3 := (i_b (p0)); have r4 := (i_b (v3839)); have r5 := (i_b (x3844)); have e1 : (v3839 + 1 : Int32).toInt = (v3839.toInt + 1) := i_addE rfl (by decide : (1 : Int32).toInt = 1) (by omega); have d2 : x3844.toInt = (v3839.toInt + 1) := (congrArg Int32.toInt ex3844).trans e1; omega) (pow_step 7 (by decide) (by decide) (bI := 7) (by decide) n3841 h0.2 n3840 (by have r0 := (mt i_le.mpr h3842); have r1 := n3840; have r2 := h0; have r3 := (i_b (p0)); have r4 := (i_b (v3839)); omega) ex3844 ex3843) (by have l0 : (1 : Int32).toInt = 1 := (by decide); have r0 := (mt i_le.mpr h3842); have r1 := n3840; have r2 := hm3836; have r3 := h0; have r4 := (i_b (p0)); have r5 := (i_b (v3839)); have r6 := (i_b (x3844)); have e1 : (v3839 + 1 : Int32).toInt = (v3839.toInt + 1) := i_addE rfl (by decide : (1 : Int32).toInt = 1) (by omega); have d2 : x3844.toInt = (v3839.toInt + 1) := (congrArg Int32.toInt ex3844).trans e1; omega)
  exact LP3837 _ 1 0 (by decide) ⟨(by exact h0.1), by decide⟩ (Nat.lt_succ_self _)
set_option maxHeartbeats 4000000 in
set_option maxRecDepth 20000 in
theorem t2_Mod_sixes {l : Launch} {ld : Nat} (hld : isLa ld) {M : gM} {L : gL} {Q : Option Value → gM → gL → gR → Prop} (p0 : Int32) (h0 : 0 ≤ (p0 : Int32).toInt ∧ (p0 : Int32).toInt ≤ 7) (hQ : ∀ (r : Int32), (r.toInt = (6 : Nat) ^ (p0 : Int32).toInt.toNat ∧ 1 ≤ r.toInt ∧ r.toInt ≤ 279936) → Q (some (.int r)) M L (rf ld)) : Tm l y_Mod_sixes (0, 0, 447) 447 [.int p0] M L (rf ld) Q := by
  refine Tm.of (by decide) (Nat.le_of_ble_eq_true rfl) ?_
  show Wp l y_Mod_sixes (0, 0, 447) 447 0 0 0 [(0, .int p0)] [] M L (rf ld) Q
  refine g_iconst (pc1 := 1) (v := 1) d_Mod_sixes_0 rfl (by decide) ?_
  refine g_istore_n (pc1 := 2) (lv' := [(0, .int p0), (1, .int 1)]) d_Mod_sixes_1 rfl rfl (by decide) [1, 0] rfl ?_
  refine g_iconst (pc1 := 3) (v := 0) d_Mod_sixes_2 rfl (by decide) ?_
  refine g_istore_n (pc1 := 4) (lv' := [(0, .int p0), (1, .int 1), (2, .int 0)]) d_Mod_sixes_3 rfl rfl (by decide) [1, 2, 0] rfl ?_
  have LP3848 : ∀ (f3845 : Nat) (v3849 : Int32) (v3850 : Int32), (0 ≤ v3850.toInt) → (v3850.toInt ≤ p0.toInt ∧ v3849.toInt = ((6 : Nat) : Int) ^ v3850.toInt.toNat) → (p0.toInt - v3850.toInt).toNat < f3845 → Wp l y_Mod_sixes (0, 0, 447) 447 0 0 4 [(0, .int p0), (1, .int v3849), (2, .int v3850)] [] M L (rf ld) Q := by
    intro f3845
    induction f3845 with
    | zero => intro v3849 v3850 _ _ hm3847; exact absurd hm3847 (Nat.not_lt_zero _)
    | succ f3845 ih3846 =>
      intro v3849 v3850 n3851 n3852 hm3847
      refine g_iload_n (pc1 := 5) d_Mod_sixes_4 rfl 2 rfl ?_
      refine g_iload_n (pc1 := 6) d_Mod_sixes_5 rfl 0 rfl ?_
      refine g_icmp_ge (pc1 := 9) (tgt := 20) d_Mod_sixes_6 (by decide) rfl (fun h3853 => ?_) (fun h3853 => ?_)
      · refine g_iload_n (pc1 := 21) d_Mod_sixes_20 rfl 1 rfl ?_
        refine g_ireturn (Or.inl rfl) d_Mod_sixes_21 rfl ?_
        exact hQ _ (pow_fin 6 (by decide) n3852 h0.2 (by have r0 := (i_le.mp h3853); have r1 := n3851; have r2 := h0; have r3 := (i_b (p0)); have r4 := (i_b (v3850)); omega))
      · refine g_iload_n (pc1 := 10) d_Mod_sixes_9 rfl 1 rfl ?_
        refine g_bipush (pc1 := 12) (v := 6) d_Mod_sixes_10 rfl (by decide) ?_
        refine g_imul (pc1 := 13) d_Mod_sixes_12 rfl ?_
        refine Wp.topi (fun x3854 ex3854 => ?_)
        refine g_istore_n (pc1 := 14) (lv' := [(0, .int p0), (1, .int x3854), (2, .int v3850)]) d_Mod_sixes_13 rfl rfl (by decide) [1, 0, 2] rfl ?_
        obtain ⟨x3855, ex3855⟩ : ∃ y : Int32, y = v3850 + 1 := ⟨_, rfl⟩
        refine g_iinc (pc1 := 17) (v := x3855) (lv' := [(0, .int p0), (1, .int x3854), (2, .int x3855)]) d_Mod_sixes_14 rfl 2 rfl (by rw [ex3855]; rfl) (by decide) [1, 2, 0] rfl ?_
        refine g_goto (tgt := 4) d_Mod_sixes_17 (by decide) ?_
        exact ih3846 x3854 x3855 (by have l0 : (1 : Int32).toInt = 1 := (by decide); have r0 := (mt i_le.mpr h3853); have r1 := n3851; have r2 := h0; have r3 := (i_b (p0)); have r4 := (i_b (v3850)); have r5 := (i_b (x3855)); have e1 : (v3850 + 1 : Int32).toInt = (v3850.toInt + 1) := i_addE rfl (by decide : (1 : Int32).toInt = 1) (by omega); have d2 : x3855.toInt = (v3850.toInt + 1) := (congrArg Int32.toInt ex3855).trans e1; omega) (pow_step 6 (by decide) (by decide) (bI := 6) (by decide) n3852 h0.2 n3851 (by have r0 := (mt i_le.mpr h3853); have r1 := n3851; have r2 := h0; have r3 := (i_b (p0)); have r4 := (i_b (v3850)); omega) ex3855 ex3854) (by have l0 : (1 : Int32).toInt = 1 := (by decide); have r0 := (mt i_le.mpr h3853); have r1 := n3851; have r2 := hm3847; have r3 := h0; have r4 := (i_b (p0)); have r5 := (i_b (v3850)); have r6 := (i_b (x3855)); have e1 : (v3850 + 1 : Int32).toInt = (v3850.toInt + 1) := i_addE rfl (by decide : (1 : Int32).toInt = 1) (by omega); have d2 : x3855.toInt = (v3850.toInt + 1) := (congrArg Int32.toInt ex3855).trans e1; omega)
  exact LP3848 _ 1 0 (by decide) ⟨(by exact h0.1), by decide⟩ (Nat.lt_succ_self _)
set_option maxHeartbeats 4000000 in
set_option maxRecDepth 20000 in
theorem t2_Mod_termOf {l : Launch} {ld : Nat} (hld : isLa ld) {M : gM} {L : gL} {Q : Option Value → gM → gL → gR → Prop} (p0 : Int32) (p1 : Int32) (h0 : 0 ≤ (p0 : Int32).toInt ∧ 0 ≤ (p1 : Int32).toInt ∧ segOk M (p0 : Int32).toInt.toNat (p1 : Int32).toInt.toNat) (hQ : ∀ (r : Int32) (M' : gM) (L' : gL), Kl MS0 M L M' L' → Q (some (.int r)) M' L' (rf ld)) : Tm l y_Mod_termOf (0, 0, 447) 447 [.ref 401, .int p0, .int p1] M L (rf ld) Q := by
  refine Tm.of (by decide) (Nat.le_of_ble_eq_true rfl) ?_
  show Wp l y_Mod_termOf (0, 0, 447) 447 0 0 0 [(0, .ref 401), (1, .int p0), (2, .int p1)] [] M L (rf ld) Q
  refine g_iconst (pc1 := 1) (v := 0) d_Mod_termOf_0 rfl (by decide) ?_
  refine g_istore_n (pc1 := 2) (lv' := [(0, .ref 401), (1, .int p0), (2, .int p1), (3, .int 0)]) d_Mod_termOf_1 rfl rfl (by decide) [1, 2, 3, 0] rfl ?_
  refine g_iload_n (pc1 := 3) d_Mod_termOf_2 rfl 1 rfl ?_
  refine g_istore (pc1 := 5) (lv' := [(0, .ref 401), (1, .int p0), (2, .int p1), (3, .int 0), (4, .int p0)]) d_Mod_termOf_3 rfl (by decide) [1, 2, 3, 4, 0] rfl ?_
  have LP3859 : ∀ (f3856 : Nat) (v3860 : Int32) (v3861 : Int32) (M3862 : gM) (L3863 : gL), Kl MS0 M L M3862 L3863 → (tInv M p0 p1 v3861 v3860) → (p1.toInt - v3861.toInt).toNat < f3856 → Wp l y_Mod_termOf (0, 0, 447) 447 0 0 5 [(0, .ref 401), (1, .int p0), (2, .int p1), (3, .int v3860), (4, .int v3861)] [] M3862 L3863 (rf ld) Q := by
    intro f3856
    induction f3856 with
    | zero => intro v3860 v3861 M3862 L3863 _ _ hm3858; exact absurd hm3858 (Nat.not_lt_zero _)
    | succ f3856 ih3857 =>
      intro v3860 v3861 M3862 L3863 k3864 n3865 hm3858
      refine g_iload (pc1 := 7) d_Mod_termOf_5 rfl 4 rfl ?_
      refine g_iload_n (pc1 := 8) d_Mod_termOf_7 rfl 2 rfl ?_
      refine g_icmp_ge (pc1 := 11) (tgt := 165) d_Mod_termOf_8 (by decide) rfl (fun h3866 => ?_) (fun h3866 => ?_)
      · refine g_aload_n (pc1 := 166) d_Mod_termOf_165 rfl 0 rfl ?_
        refine g_getr (pc1 := 169) d_Mod_termOf_166 rfl ⟨_, fo_Mod_119⟩ sh_401 (by decide) (rf_401_50 ld) ?_
        refine g_iconst (pc1 := 170) (v := 0) d_Mod_termOf_169 rfl (by decide) ?_
        refine g_iald (pc1 := 171) d_Mod_termOf_170 rfl sh_435 (by decide) (vin_lit (x := 0) (by decide)) ?_
        refine g_ireturn (Or.inl rfl) d_Mod_termOf_171 rfl ?_
        exact hQ _ _ _ k3864
      · refine g_aload_n (pc1 := 12) d_Mod_termOf_11 rfl 0 rfl ?_
        refine g_getr (pc1 := 15) d_Mod_termOf_12 rfl ⟨_, fo_Mod_107⟩ sh_401 (by decide) (rf_401_45 ld) ?_
        refine g_iload (pc1 := 17) d_Mod_termOf_15 rfl 4 rfl ?_
        refine g_iald (pc1 := 18) d_Mod_termOf_17 rfl sh_431 (by decide) (by have r0 := (mt i_le.mpr h3866); have r1 := (tInv_b h0.1 h0.2.2 n3865); have r2 := h0.1; have r3 := h0.2.1; have r4 := (i_b (p0)); have r5 := (i_b (p1)); have r6 := (i_b (v3860)); have r7 := (i_b (v3861)); exact vin_i (by omega) (by omega)) ?_
        refine Wp.vali (y := (M 431 (v3861 : Int32).toNatClampNeg)) (Kl.m k3864 rfl) ?_
        refine Wp.topi (fun x3867 ex3867 => ?_)
        refine g_istore (pc1 := 20) (lv' := [(0, .ref 401), (1, .int p0), (2, .int p1), (3, .int v3860), (4, .int v3861), (5, .int x3867)]) d_Mod_termOf_18 rfl (by decide) [1, 2, 3, 4, 5, 0] rfl ?_
        refine g_iload (pc1 := 22) d_Mod_termOf_20 rfl 5 rfl ?_
        refine g_iconst (pc1 := 23) (v := 2) d_Mod_termOf_22 rfl (by decide) ?_
        refine g_icmp_ge (pc1 := 26) (tgt := 65) d_Mod_termOf_23 (by decide) rfl (fun h3868 => ?_) (fun h3868 => ?_)
        · obtain ⟨x3869, ex3869⟩ : ∃ y : Int32, y = v3860 + (-1) := ⟨_, rfl⟩
          refine g_iinc (pc1 := 68) (v := x3869) (lv' := [(0, .ref 401), (1, .int p0), (2, .int p1), (3, .int x3869), (4, .int v3861), (5, .int x3867)]) d_Mod_termOf_65 rfl 3 rfl (by rw [ex3869]; rfl) (by decide) [1, 2, 3, 0, 4, 5] rfl ?_
          refine g_aload_n (pc1 := 69) d_Mod_termOf_68 rfl 0 rfl ?_
          refine g_getr (pc1 := 72) d_Mod_termOf_69 rfl ⟨_, fo_Mod_119⟩ sh_401 (by decide) (rf_401_50 ld) ?_
          refine g_iload_n (pc1 := 73) d_Mod_termOf_72 rfl 3 rfl ?_
          refine g_iconst (pc1 := 74) (v := 1) d_Mod_termOf_73 rfl (by decide) ?_
          refine g_isub (pc1 := 75) d_Mod_termOf_74 rfl ?_
          refine g_iald (pc1 := 76) d_Mod_termOf_75 rfl sh_435 (by decide) (by have l0 : (-1 : Int32).toInt = -1 := (by decide); have l1 : (1 : Int32).toInt = 1 := (by decide); have r0 := (tInv_b h0.1 h0.2.2 n3865); have r1 := (tInv_op h0.1 h0.2.2 n3865 (by have r0 := (mt i_le.mpr h3866); have r1 := (tInv_b h0.1 h0.2.2 n3865); have r2 := h0.1; have r3 := h0.2.1; have r4 := (i_b (p0)); have r5 := (i_b (p1)); have r6 := (i_b (v3860)); have r7 := (i_b (v3861)); omega) ex3867 (by have l0 : (2 : Int32).toInt = 2 := (by decide); have r0 := (i_le.mp h3868); have r1 := (seg_k h0.1 h0.2.2 n3865 (by have r0 := (mt i_le.mpr h3866); have r1 := (tInv_b h0.1 h0.2.2 n3865); have r2 := h0.1; have r3 := h0.2.1; have r4 := (i_b (p0)); have r5 := (i_b (p1)); have r6 := (i_b (v3860)); have r7 := (i_b (v3861)); omega)); have r2 := (i_b (M 431 (v3861 : Int32).toNatClampNeg)); have r3 := (i_b (x3867)); (try have d1 : x3867.toInt = ((M 431 (v3861 : Int32).toNatClampNeg) : Int32).toInt := (congrArg Int32.toInt ex3867).trans rfl); omega)); have r2 := (mt i_le.mpr h3866); have r3 := h0.1; have r4 := h0.2.1; have r5 := (i_b (p0)); have r6 := (i_b (p1)); have r7 := (i_b (v3860)); have r8 := (i_b (v3861)); have r9 := (i_b (x3869)); have e1 : (v3860 + (-1) : Int32).toInt = (v3860.toInt + (-1)) := i_addE rfl (by decide : (-1 : Int32).toInt = -1) (by omega); have d2 : x3869.toInt = (v3860.toInt + (-1)) := (congrArg Int32.toInt ex3869).trans e1; have e3 : (x3869 - 1 : Int32).toInt = ((v3860.toInt + (-1)) - 1) := i_subE d2 (by decide : (1 : Int32).toInt = 1) (by omega); exact vin_i (by omega) (by omega)) ?_
          refine Wp.topi (fun x3870 ex3870 => ?_)
          refine g_istore (pc1 := 78) (lv' := [(0, .ref 401), (1, .int p0), (2, .int p1), (3, .int x3869), (4, .int v3861), (5, .int x3867), (6, .int x3870)]) d_Mod_termOf_76 rfl (by decide) [1, 2, 3, 4, 5, 6, 0] rfl ?_
          refine g_aload_n (pc1 := 79) d_Mod_termOf_78 rfl 0 rfl ?_
          refine g_getr (pc1 := 82) d_Mod_termOf_79 rfl ⟨_, fo_Mod_119⟩ sh_401 (by decide) (rf_401_50 ld) ?_
          refine g_iload_n (pc1 := 83) d_Mod_termOf_82 rfl 3 rfl ?_
          refine g_iald (pc1 := 84) d_Mod_termOf_83 rfl sh_435 (by decide) (by have l0 : (-1 : Int32).toInt = -1 := (by decide); have r0 := (tInv_b h0.1 h0.2.2 n3865); have r1 := (tInv_op h0.1 h0.2.2 n3865 (by have r0 := (mt i_le.mpr h3866); have r1 := (tInv_b h0.1 h0.2.2 n3865); have r2 := h0.1; have r3 := h0.2.1; have r4 := (i_b (p0)); have r5 := (i_b (p1)); have r6 := (i_b (v3860)); have r7 := (i_b (v3861)); omega) ex3867 (by have l0 : (2 : Int32).toInt = 2 := (by decide); have r0 := (i_le.mp h3868); have r1 := (seg_k h0.1 h0.2.2 n3865 (by have r0 := (mt i_le.mpr h3866); have r1 := (tInv_b h0.1 h0.2.2 n3865); have r2 := h0.1; have r3 := h0.2.1; have r4 := (i_b (p0)); have r5 := (i_b (p1)); have r6 := (i_b (v3860)); have r7 := (i_b (v3861)); omega)); have r2 := (i_b (M 431 (v3861 : Int32).toNatClampNeg)); have r3 := (i_b (x3867)); (try have d1 : x3867.toInt = ((M 431 (v3861 : Int32).toNatClampNeg) : Int32).toInt := (congrArg Int32.toInt ex3867).trans rfl); omega)); have r2 := (mt i_le.mpr h3866); have r3 := h0.1; have r4 := h0.2.1; have r5 := (i_b (p0)); have r6 := (i_b (p1)); have r7 := (i_b (v3860)); have r8 := (i_b (v3861)); have r9 := (i_b (x3869)); have e1 : (v3860 + (-1) : Int32).toInt = (v3860.toInt + (-1)) := i_addE rfl (by decide : (-1 : Int32).toInt = -1) (by omega); have d2 : x3869.toInt = (v3860.toInt + (-1)) := (congrArg Int32.toInt ex3869).trans e1; exact vin_i (by omega) (by omega)) ?_
          refine Wp.topi (fun x3871 ex3871 => ?_)
          refine g_istore (pc1 := 86) (lv' := [(0, .ref 401), (1, .int p0), (2, .int p1), (3, .int x3869), (4, .int v3861), (5, .int x3867), (6, .int x3870), (7, .int x3871)]) d_Mod_termOf_84 rfl (by decide) [1, 2, 3, 4, 5, 6, 7, 0] rfl ?_
          refine g_iload (pc1 := 88) d_Mod_termOf_86 rfl 5 rfl ?_
          refine g_iconst (pc1 := 89) (v := 5) d_Mod_termOf_88 rfl (by decide) ?_
          refine g_icmp_ne (pc1 := 92) (tgt := 104) d_Mod_termOf_89 (by decide) rfl (fun h3872 => ?_) (fun h3872 => ?_)
          · refine g_aload_n (pc1 := 105) d_Mod_termOf_104 rfl 0 rfl ?_
            refine g_getr (pc1 := 108) d_Mod_termOf_105 rfl ⟨_, fo_Mod_119⟩ sh_401 (by decide) (rf_401_50 ld) ?_
            refine g_iload_n (pc1 := 109) d_Mod_termOf_108 rfl 3 rfl ?_
            refine g_iconst (pc1 := 110) (v := 1) d_Mod_termOf_109 rfl (by decide) ?_
            refine g_isub (pc1 := 111) d_Mod_termOf_110 rfl ?_
            refine g_iload (pc1 := 113) d_Mod_termOf_111 rfl 5 rfl ?_
            refine g_iconst (pc1 := 114) (v := 2) d_Mod_termOf_113 rfl (by decide) ?_
            refine g_icmp_ne (pc1 := 117) (tgt := 125) d_Mod_termOf_114 (by decide) rfl (fun h3873 => ?_) (fun h3873 => ?_)
            · refine g_iload (pc1 := 127) d_Mod_termOf_125 rfl 5 rfl ?_
              refine g_iconst (pc1 := 128) (v := 3) d_Mod_termOf_127 rfl (by decide) ?_
              refine g_icmp_ne (pc1 := 131) (tgt := 139) d_Mod_termOf_128 (by decide) rfl (fun h3874 => ?_) (fun h3874 => ?_)
              · refine g_iload (pc1 := 141) d_Mod_termOf_139 rfl 5 rfl ?_
                refine g_iconst (pc1 := 142) (v := 4) d_Mod_termOf_141 rfl (by decide) ?_
                refine g_icmp_ne (pc1 := 145) (tgt := 153) d_Mod_termOf_142 (by decide) rfl (fun h3875 => ?_) (fun h3875 => ?_)
                · refine g_iload (pc1 := 155) d_Mod_termOf_153 rfl 6 rfl ?_
                  refine g_iload (pc1 := 157) d_Mod_termOf_155 rfl 7 rfl ?_
                  refine g_idiv (pc1 := 158) d_Mod_termOf_157 rfl (by have l0 : (2 : Int32).toInt = 2 := (by decide); have l1 : (3 : Int32).toInt = 3 := (by decide); have l2 : (4 : Int32).toInt = 4 := (by decide); have l3 : (5 : Int32).toInt = 5 := (by decide); have r0 := (i_le.mp h3868); have r1 := (mt Int32.toInt_inj.mp h3872); have r2 := (mt Int32.toInt_inj.mp h3873); have r3 := (mt Int32.toInt_inj.mp h3874); have r4 := (mt Int32.toInt_inj.mp h3875); have r5 := (seg_k h0.1 h0.2.2 n3865 (by have r0 := (mt i_le.mpr h3866); have r1 := (tInv_b h0.1 h0.2.2 n3865); have r2 := h0.1; have r3 := h0.2.1; have r4 := (i_b (p0)); have r5 := (i_b (p1)); have r6 := (i_b (v3860)); have r7 := (i_b (v3861)); omega)); have r6 := (i_b (M 431 (v3861 : Int32).toNatClampNeg)); have r7 := (i_b (M3862 435 (x3869 : Int32).toNatClampNeg)); have r8 := (i_b (x3867)); have r9 := (i_b (x3871)); (try have d1 : x3867.toInt = ((M 431 (v3861 : Int32).toNatClampNeg) : Int32).toInt := (congrArg Int32.toInt ex3867).trans rfl); have d2 : x3871.toInt = ((M3862 435 (x3869 : Int32).toNatClampNeg) : Int32).toInt := (congrArg Int32.toInt ex3871).trans rfl; intro q0; have q1 := congrArg Int32.toInt q0; have q2 : (0 : Int32).toInt = 0 := (by decide); omega) ?_
                  refine g_iast (pc1 := 159) d_Mod_termOf_158 rfl sh_435 (by decide) (by have l0 : (-1 : Int32).toInt = -1 := (by decide); have l1 : (1 : Int32).toInt = 1 := (by decide); have r0 := (tInv_b h0.1 h0.2.2 n3865); have r1 := (tInv_op h0.1 h0.2.2 n3865 (by have r0 := (mt i_le.mpr h3866); have r1 := (tInv_b h0.1 h0.2.2 n3865); have r2 := h0.1; have r3 := h0.2.1; have r4 := (i_b (p0)); have r5 := (i_b (p1)); have r6 := (i_b (v3860)); have r7 := (i_b (v3861)); omega) ex3867 (by have l0 : (2 : Int32).toInt = 2 := (by decide); have r0 := (i_le.mp h3868); have r1 := (seg_k h0.1 h0.2.2 n3865 (by have r0 := (mt i_le.mpr h3866); have r1 := (tInv_b h0.1 h0.2.2 n3865); have r2 := h0.1; have r3 := h0.2.1; have r4 := (i_b (p0)); have r5 := (i_b (p1)); have r6 := (i_b (v3860)); have r7 := (i_b (v3861)); omega)); have r2 := (i_b (M 431 (v3861 : Int32).toNatClampNeg)); have r3 := (i_b (x3867)); (try have d1 : x3867.toInt = ((M 431 (v3861 : Int32).toNatClampNeg) : Int32).toInt := (congrArg Int32.toInt ex3867).trans rfl); omega)); have r2 := (tInv_op h0.1 h0.2.2 n3865 (by have r0 := (mt i_le.mpr h3866); have r1 := (tInv_b h0.1 h0.2.2 n3865); have r2 := h0.1; have r3 := h0.2.1; have r4 := (tInv_op h0.1 h0.2.2 n3865 (by have r0 := (mt i_le.mpr h3866); have r1 := (tInv_b h0.1 h0.2.2 n3865); have r2 := h0.1; have r3 := h0.2.1; have r4 := (i_b (p0)); have r5 := (i_b (p1)); have r6 := (i_b (v3860)); have r7 := (i_b (v3861)); omega) ex3867 (by have l0 : (2 : Int32).toInt = 2 := (by decide); have r0 := (i_le.mp h3868); have r1 := (seg_k h0.1 h0.2.2 n3865 (by have r0 := (mt i_le.mpr h3866); have r1 := (tInv_b h0.1 h0.2.2 n3865); have r2 := h0.1; have r3 := h0.2.1; have r4 := (i_b (p0)); have r5 := (i_b (p1)); have r6 := (i_b (v3860)); have r7 := (i_b (v3861)); omega)); have r2 := (i_b (M 431 (v3861 : Int32).toNatClampNeg)); have r3 := (i_b (x3867)); (try have d1 : x3867.toInt = ((M 431 (v3861 : Int32).toNatClampNeg) : Int32).toInt := (congrArg Int32.toInt ex3867).trans rfl); omega)); have r5 := (i_b (p0)); have r6 := (i_b (p1)); have r7 := (i_b (v3860)); have r8 := (i_b (v3861)); omega) ex3867 (by have l0 : (2 : Int32).toInt = 2 := (by decide); have l1 : (5 : Int32).toInt = 5 := (by decide); have r0 := (i_le.mp h3868); have r1 := (mt Int32.toInt_inj.mp h3872); have r2 := (mt Int32.toInt_inj.mp h3873); have r3 := (seg_k h0.1 h0.2.2 n3865 (by have r0 := (mt i_le.mpr h3866); have r1 := (tInv_b h0.1 h0.2.2 n3865); have r2 := h0.1; have r3 := h0.2.1; have r4 := (i_b (p0)); have r5 := (i_b (p1)); have r6 := (i_b (v3860)); have r7 := (i_b (v3861)); omega)); have r4 := (i_b (M 431 (v3861 : Int32).toNatClampNeg)); have r5 := (i_b (x3867)); (try have d1 : x3867.toInt = ((M 431 (v3861 : Int32).toNatClampNeg) : Int32).toInt := (congrArg Int32.toInt ex3867).trans rfl); omega)); have r3 := (mt i_le.mpr h3866); have r4 := h0.1; have r5 := h0.2.1; have r6 := (i_b (p0)); have r7 := (i_b (p1)); have r8 := (i_b (v3860)); have r9 := (i_b (v3861)); have r10 := (i_b (x3869)); have e1 : (v3860 + (-1) : Int32).toInt = (v3860.toInt + (-1)) := i_addE rfl (by decide : (-1 : Int32).toInt = -1) (by omega); have d2 : x3869.toInt = (v3860.toInt + (-1)) := (congrArg Int32.toInt ex3869).trans e1; have e3 : (x3869 - 1 : Int32).toInt = ((v3860.toInt + (-1)) - 1) := i_subE d2 (by decide : (1 : Int32).toInt = 1) (by omega); exact vin_i (by omega) (by omega)) ?_
                  refine Wp.topM (fun M3876 eM3876 => ?_)
                  obtain ⟨x3877, ex3877⟩ : ∃ y : Int32, y = v3861 + 1 := ⟨_, rfl⟩
                  refine g_iinc (pc1 := 162) (v := x3877) (lv' := [(0, .ref 401), (1, .int p0), (2, .int p1), (3, .int x3869), (4, .int x3877), (5, .int x3867), (6, .int x3870), (7, .int x3871)]) d_Mod_termOf_159 rfl 4 rfl (by rw [ex3877]; rfl) (by decide) [1, 2, 3, 4, 0, 5, 6, 7] rfl ?_
                  refine g_goto (tgt := 5) d_Mod_termOf_162 (by decide) ?_
                  refine Wp.loc (lv' := [(0, .ref 401), (1, .int p0), (2, .int p1), (3, .int x3869), (4, .int x3877)]) [0, 1, 2, 3, 4] rfl ?_
                  exact ih3857 x3869 x3877 M3876 L3863 (Kl.wM k3864 rfl eM3876) (tInv_pop h0.1 h0.2.2 n3865 (by have r0 := (mt i_le.mpr h3866); have r1 := (tInv_b h0.1 h0.2.2 n3865); have r2 := h0.1; have r3 := h0.2.1; have r4 := (tInv_op h0.1 h0.2.2 n3865 (by have r0 := (mt i_le.mpr h3866); have r1 := (tInv_b h0.1 h0.2.2 n3865); have r2 := h0.1; have r3 := h0.2.1; have r4 := (i_b (p0)); have r5 := (i_b (p1)); have r6 := (i_b (v3860)); have r7 := (i_b (v3861)); omega) ex3867 (by have l0 : (2 : Int32).toInt = 2 := (by decide); have r0 := (i_le.mp h3868); have r1 := (seg_k h0.1 h0.2.2 n3865 (by have r0 := (mt i_le.mpr h3866); have r1 := (tInv_b h0.1 h0.2.2 n3865); have r2 := h0.1; have r3 := h0.2.1; have r4 := (i_b (p0)); have r5 := (i_b (p1)); have r6 := (i_b (v3860)); have r7 := (i_b (v3861)); omega)); have r2 := (i_b (M 431 (v3861 : Int32).toNatClampNeg)); have r3 := (i_b (x3867)); (try have d1 : x3867.toInt = ((M 431 (v3861 : Int32).toNatClampNeg) : Int32).toInt := (congrArg Int32.toInt ex3867).trans rfl); omega)); have r5 := (tInv_op h0.1 h0.2.2 n3865 (by have r0 := (mt i_le.mpr h3866); have r1 := (tInv_b h0.1 h0.2.2 n3865); have r2 := h0.1; have r3 := h0.2.1; have r4 := (tInv_op h0.1 h0.2.2 n3865 (by have r0 := (mt i_le.mpr h3866); have r1 := (tInv_b h0.1 h0.2.2 n3865); have r2 := h0.1; have r3 := h0.2.1; have r4 := (i_b (p0)); have r5 := (i_b (p1)); have r6 := (i_b (v3860)); have r7 := (i_b (v3861)); omega) ex3867 (by have l0 : (2 : Int32).toInt = 2 := (by decide); have r0 := (i_le.mp h3868); have r1 := (seg_k h0.1 h0.2.2 n3865 (by have r0 := (mt i_le.mpr h3866); have r1 := (tInv_b h0.1 h0.2.2 n3865); have r2 := h0.1; have r3 := h0.2.1; have r4 := (i_b (p0)); have r5 := (i_b (p1)); have r6 := (i_b (v3860)); have r7 := (i_b (v3861)); omega)); have r2 := (i_b (M 431 (v3861 : Int32).toNatClampNeg)); have r3 := (i_b (x3867)); (try have d1 : x3867.toInt = ((M 431 (v3861 : Int32).toNatClampNeg) : Int32).toInt := (congrArg Int32.toInt ex3867).trans rfl); omega)); have r5 := (i_b (p0)); have r6 := (i_b (p1)); have r7 := (i_b (v3860)); have r8 := (i_b (v3861)); omega) ex3867 (by have l0 : (2 : Int32).toInt = 2 := (by decide); have l1 : (5 : Int32).toInt = 5 := (by decide); have r0 := (i_le.mp h3868); have r1 := (mt Int32.toInt_inj.mp h3872); have r2 := (mt Int32.toInt_inj.mp h3873); have r3 := (seg_k h0.1 h0.2.2 n3865 (by have r0 := (mt i_le.mpr h3866); have r1 := (tInv_b h0.1 h0.2.2 n3865); have r2 := h0.1; have r3 := h0.2.1; have r4 := (i_b (p0)); have r5 := (i_b (p1)); have r6 := (i_b (v3860)); have r7 := (i_b (v3861)); omega)); have r4 := (i_b (M 431 (v3861 : Int32).toNatClampNeg)); have r5 := (i_b (x3867)); (try have d1 : x3867.toInt = ((M 431 (v3861 : Int32).toNatClampNeg) : Int32).toInt := (congrArg Int32.toInt ex3867).trans rfl); omega)); have r6 := (i_b (p0)); have r7 := (i_b (p1)); have r8 := (i_b (v3860)); have r9 := (i_b (v3861)); omega) ex3867 (by have l0 : (2 : Int32).toInt = 2 := (by decide); have l1 : (3 : Int32).toInt = 3 := (by decide); have l2 : (4 : Int32).toInt = 4 := (by decide); have l3 : (5 : Int32).toInt = 5 := (by decide); have r0 := (i_le.mp h3868); have r1 := (mt Int32.toInt_inj.mp h3872); have r2 := (mt Int32.toInt_inj.mp h3873); have r3 := (mt Int32.toInt_inj.mp h3874); have r4 := (mt Int32.toInt_inj.mp h3875); have r5 := (seg_k h0.1 h0.2.2 n3865 (by have r0 := (mt i_le.mpr h3866); have r1 := (tInv_b h0.1 h0.2.2 n3865); have r2 := h0.1; have r3 := h0.2.1; have r4 := (i_b (p0)); have r5 := (i_b (p1)); have r6 := (i_b (v3860)); have r7 := (i_b (v3861)); omega)); have r6 := (i_b (M 431 (v3861 : Int32).toNatClampNeg)); have r7 := (i_b (x3867)); (try have d1 : x3867.toInt = ((M 431 (v3861 : Int32).toNatClampNeg) : Int32).toInt := (congrArg Int32.toInt ex3867).trans rfl); omega) ex3877 ex3869) (by have l0 : (1 : Int32).toInt = 1 := (by decide); have r0 := (mt i_le.mpr h3866); have r1 := (tInv_b h0.1 h0.2.2 n3865); have r2 := hm3858; have r3 := h0.1; have r4 := h0.2.1; have r5 := (tInv_op h0.1 h0.2.2 n3865 (by have r0 := (mt i_le.mpr h3866); have r1 := (tInv_b h0.1 h0.2.2 n3865); have r2 := h0.1; have r3 := h0.2.1; have r4 := (i_b (p0)); have r5 := (i_b (p1)); have r6 := (i_b (v3860)); have r7 := (i_b (v3861)); omega) ex3867 (by have l0 : (2 : Int32).toInt = 2 := (by decide); have r0 := (i_le.mp h3868); have r1 := (seg_k h0.1 h0.2.2 n3865 (by have r0 := (mt i_le.mpr h3866); have r1 := (tInv_b h0.1 h0.2.2 n3865); have r2 := h0.1; have r3 := h0.2.1; have r4 := (i_b (p0)); have r5 := (i_b (p1)); have r6 := (i_b (v3860)); have r7 := (i_b (v3861)); omega)); have r2 := (i_b (M 431 (v3861 : Int32).toNatClampNeg)); have r3 := (i_b (x3867)); (try have d1 : x3867.toInt = ((M 431 (v3861 : Int32).toNatClampNeg) : Int32).toInt := (congrArg Int32.toInt ex3867).trans rfl); omega)); have r6 := (tInv_op h0.1 h0.2.2 n3865 (by have r0 := (mt i_le.mpr h3866); have r1 := (tInv_b h0.1 h0.2.2 n3865); have r2 := h0.1; have r3 := h0.2.1; have r4 := (tInv_op h0.1 h0.2.2 n3865 (by have r0 := (mt i_le.mpr h3866); have r1 := (tInv_b h0.1 h0.2.2 n3865); have r2 := h0.1; have r3 := h0.2.1; have r4 := (i_b (p0)); have r5 := (i_b (p1)); have r6 := (i_b (v3860)); have r7 := (i_b (v3861)); omega) ex3867 (by have l0 : (2 : Int32).toInt = 2 := (by decide); have r0 := (i_le.mp h3868); have r1 := (seg_k h0.1 h0.2.2 n3865 (by have r0 := (mt i_le.mpr h3866); have r1 := (tInv_b h0.1 h0.2.2 n3865); have r2 := h0.1; have r3 := h0.2.1; have r4 := (i_b (p0)); have r5 := (i_b (p1)); have r6 := (i_b (v3860)); have r7 := (i_b (v3861)); omega)); have r2 := (i_b (M 431 (v3861 : Int32).toNatClampNeg)); have r3 := (i_b (x3867)); (try have d1 : x3867.toInt = ((M 431 (v3861 : Int32).toNatClampNeg) : Int32).toInt := (congrArg Int32.toInt ex3867).trans rfl); omega)); have r5 := (i_b (p0)); have r6 := (i_b (p1)); have r7 := (i_b (v3860)); have r8 := (i_b (v3861)); omega) ex3867 (by have l0 : (2 : Int32).toInt = 2 := (by decide); have l1 : (5 : Int32).toInt = 5 := (by decide); have r0 := (i_le.mp h3868); have r1 := (mt Int32.toInt_inj.mp h3872); have r2 := (mt Int32.toInt_inj.mp h3873); have r3 := (seg_k h0.1 h0.2.2 n3865 (by have r0 := (mt i_le.mpr h3866); have r1 := (tInv_b h0.1 h0.2.2 n3865); have r2 := h0.1; have r3 := h0.2.1; have r4 := (i_b (p0)); have r5 := (i_b (p1)); have r6 := (i_b (v3860)); have r7 := (i_b (v3861)); omega)); have r4 := (i_b (M 431 (v3861 : Int32).toNatClampNeg)); have r5 := (i_b (x3867)); (try have d1 : x3867.toInt = ((M 431 (v3861 : Int32).toNatClampNeg) : Int32).toInt := (congrArg Int32.toInt ex3867).trans rfl); omega)); have r7 := (i_b (p0)); have r8 := (i_b (p1)); have r9 := (i_b (v3860)); have r10 := (i_b (v3861)); have r11 := (i_b (x3877)); have e1 : (v3861 + 1 : Int32).toInt = (v3861.toInt + 1) := i_addE rfl (by decide : (1 : Int32).toInt = 1) (by omega); have d2 : x3877.toInt = (v3861.toInt + 1) := (congrArg Int32.toInt ex3877).trans e1; omega)
                · refine g_iload (pc1 := 147) d_Mod_termOf_145 rfl 6 rfl ?_
                  refine g_iload (pc1 := 149) d_Mod_termOf_147 rfl 7 rfl ?_
                  refine g_imul (pc1 := 150) d_Mod_termOf_149 rfl ?_
                  refine g_goto (tgt := 158) d_Mod_termOf_150 (by decide) ?_
                  refine g_iast (pc1 := 159) d_Mod_termOf_158 rfl sh_435 (by decide) (by have l0 : (-1 : Int32).toInt = -1 := (by decide); have l1 : (1 : Int32).toInt = 1 := (by decide); have r0 := (tInv_b h0.1 h0.2.2 n3865); have r1 := (tInv_op h0.1 h0.2.2 n3865 (by have r0 := (mt i_le.mpr h3866); have r1 := (tInv_b h0.1 h0.2.2 n3865); have r2 := h0.1; have r3 := h0.2.1; have r4 := (i_b (p0)); have r5 := (i_b (p1)); have r6 := (i_b (v3860)); have r7 := (i_b (v3861)); omega) ex3867 (by have l0 : (2 : Int32).toInt = 2 := (by decide); have r0 := (i_le.mp h3868); have r1 := (seg_k h0.1 h0.2.2 n3865 (by have r0 := (mt i_le.mpr h3866); have r1 := (tInv_b h0.1 h0.2.2 n3865); have r2 := h0.1; have r3 := h0.2.1; have r4 := (i_b (p0)); have r5 := (i_b (p1)); have r6 := (i_b (v3860)); have r7 := (i_b (v3861)); omega)); have r2 := (i_b (M 431 (v3861 : Int32).toNatClampNeg)); have r3 := (i_b (x3867)); (try have d1 : x3867.toInt = ((M 431 (v3861 : Int32).toNatClampNeg) : Int32).toInt := (congrArg Int32.toInt ex3867).trans rfl); omega)); have r2 := (tInv_op h0.1 h0.2.2 n3865 (by have r0 := (mt i_le.mpr h3866); have r1 := (tInv_b h0.1 h0.2.2 n3865); have r2 := h0.1; have r3 := h0.2.1; have r4 := (tInv_op h0.1 h0.2.2 n3865 (by have r0 := (mt i_le.mpr h3866); have r1 := (tInv_b h0.1 h0.2.2 n3865); have r2 := h0.1; have r3 := h0.2.1; have r4 := (i_b (p0)); have r5 := (i_b (p1)); have r6 := (i_b (v3860)); have r7 := (i_b (v3861)); omega) ex3867 (by have l0 : (2 : Int32).toInt = 2 := (by decide); have r0 := (i_le.mp h3868); have r1 := (seg_k h0.1 h0.2.2 n3865 (by have r0 := (mt i_le.mpr h3866); have r1 := (tInv_b h0.1 h0.2.2 n3865); have r2 := h0.1; have r3 := h0.2.1; have r4 := (i_b (p0)); have r5 := (i_b (p1)); have r6 := (i_b (v3860)); have r7 := (i_b (v3861)); omega)); have r2 := (i_b (M 431 (v3861 : Int32).toNatClampNeg)); have r3 := (i_b (x3867)); (try have d1 : x3867.toInt = ((M 431 (v3861 : Int32).toNatClampNeg) : Int32).toInt := (congrArg Int32.toInt ex3867).trans rfl); omega)); have r5 := (i_b (p0)); have r6 := (i_b (p1)); have r7 := (i_b (v3860)); have r8 := (i_b (v3861)); omega) ex3867 (by have l0 : (2 : Int32).toInt = 2 := (by decide); have l1 : (5 : Int32).toInt = 5 := (by decide); have r0 := (i_le.mp h3868); have r1 := (mt Int32.toInt_inj.mp h3872); have r2 := (mt Int32.toInt_inj.mp h3873); have r3 := (seg_k h0.1 h0.2.2 n3865 (by have r0 := (mt i_le.mpr h3866); have r1 := (tInv_b h0.1 h0.2.2 n3865); have r2 := h0.1; have r3 := h0.2.1; have r4 := (i_b (p0)); have r5 := (i_b (p1)); have r6 := (i_b (v3860)); have r7 := (i_b (v3861)); omega)); have r4 := (i_b (M 431 (v3861 : Int32).toNatClampNeg)); have r5 := (i_b (x3867)); (try have d1 : x3867.toInt = ((M 431 (v3861 : Int32).toNatClampNeg) : Int32).toInt := (congrArg Int32.toInt ex3867).trans rfl); omega)); have r3 := (mt i_le.mpr h3866); have r4 := h0.1; have r5 := h0.2.1; have r6 := (i_b (p0)); have r7 := (i_b (p1)); have r8 := (i_b (v3860)); have r9 := (i_b (v3861)); have r10 := (i_b (x3869)); have e1 : (v3860 + (-1) : Int32).toInt = (v3860.toInt + (-1)) := i_addE rfl (by decide : (-1 : Int32).toInt = -1) (by omega); have d2 : x3869.toInt = (v3860.toInt + (-1)) := (congrArg Int32.toInt ex3869).trans e1; have e3 : (x3869 - 1 : Int32).toInt = ((v3860.toInt + (-1)) - 1) := i_subE d2 (by decide : (1 : Int32).toInt = 1) (by omega); exact vin_i (by omega) (by omega)) ?_
                  refine Wp.topM (fun M3878 eM3878 => ?_)
                  obtain ⟨x3879, ex3879⟩ : ∃ y : Int32, y = v3861 + 1 := ⟨_, rfl⟩
                  refine g_iinc (pc1 := 162) (v := x3879) (lv' := [(0, .ref 401), (1, .int p0), (2, .int p1), (3, .int x3869), (4, .int x3879), (5, .int x3867), (6, .int x3870), (7, .int x3871)]) d_Mod_termOf_159 rfl 4 rfl (by rw [ex3879]; rfl) (by decide) [1, 2, 3, 4, 0, 5, 6, 7] rfl ?_
                  refine g_goto (tgt := 5) d_Mod_termOf_162 (by decide) ?_
                  refine Wp.loc (lv' := [(0, .ref 401), (1, .int p0), (2, .int p1), (3, .int x3869), (4, .int x3879)]) [0, 1, 2, 3, 4] rfl ?_
                  exact ih3857 x3869 x3879 M3878 L3863 (Kl.wM k3864 rfl eM3878) (tInv_pop h0.1 h0.2.2 n3865 (by have r0 := (mt i_le.mpr h3866); have r1 := (tInv_b h0.1 h0.2.2 n3865); have r2 := h0.1; have r3 := h0.2.1; have r4 := (tInv_op h0.1 h0.2.2 n3865 (by have r0 := (mt i_le.mpr h3866); have r1 := (tInv_b h0.1 h0.2.2 n3865); have r2 := h0.1; have r3 := h0.2.1; have r4 := (i_b (p0)); have r5 := (i_b (p1)); have r6 := (i_b (v3860)); have r7 := (i_b (v3861)); omega) ex3867 (by have l0 : (2 : Int32).toInt = 2 := (by decide); have r0 := (i_le.mp h3868); have r1 := (seg_k h0.1 h0.2.2 n3865 (by have r0 := (mt i_le.mpr h3866); have r1 := (tInv_b h0.1 h0.2.2 n3865); have r2 := h0.1; have r3 := h0.2.1; have r4 := (i_b (p0)); have r5 := (i_b (p1)); have r6 := (i_b (v3860)); have r7 := (i_b (v3861)); omega)); have r2 := (i_b (M 431 (v3861 : Int32).toNatClampNeg)); have r3 := (i_b (x3867)); (try have d1 : x3867.toInt = ((M 431 (v3861 : Int32).toNatClampNeg) : Int32).toInt := (congrArg Int32.toInt ex3867).trans rfl); omega)); have r5 := (tInv_op h0.1 h0.2.2 n3865 (by have r0 := (mt i_le.mpr h3866); have r1 := (tInv_b h0.1 h0.2.2 n3865); have r2 := h0.1; have r3 := h0.2.1; have r4 := (tInv_op h0.1 h0.2.2 n3865 (by have r0 := (mt i_le.mpr h3866); have r1 := (tInv_b h0.1 h0.2.2 n3865); have r2 := h0.1; have r3 := h0.2.1; have r4 := (i_b (p0)); have r5 := (i_b (p1)); have r6 := (i_b (v3860)); have r7 := (i_b (v3861)); omega) ex3867 (by have l0 : (2 : Int32).toInt = 2 := (by decide); have r0 := (i_le.mp h3868); have r1 := (seg_k h0.1 h0.2.2 n3865 (by have r0 := (mt i_le.mpr h3866); have r1 := (tInv_b h0.1 h0.2.2 n3865); have r2 := h0.1; have r3 := h0.2.1; have r4 := (i_b (p0)); have r5 := (i_b (p1)); have r6 := (i_b (v3860)); have r7 := (i_b (v3861)); omega)); have r2 := (i_b (M 431 (v3861 : Int32).toNatClampNeg)); have r3 := (i_b (x3867)); (try have d1 : x3867.toInt = ((M 431 (v3861 : Int32).toNatClampNeg) : Int32).toInt := (congrArg Int32.toInt ex3867).trans rfl); omega)); have r5 := (i_b (p0)); have r6 := (i_b (p1)); have r7 := (i_b (v3860)); have r8 := (i_b (v3861)); omega) ex3867 (by have l0 : (2 : Int32).toInt = 2 := (by decide); have l1 : (5 : Int32).toInt = 5 := (by decide); have r0 := (i_le.mp h3868); have r1 := (mt Int32.toInt_inj.mp h3872); have r2 := (mt Int32.toInt_inj.mp h3873); have r3 := (seg_k h0.1 h0.2.2 n3865 (by have r0 := (mt i_le.mpr h3866); have r1 := (tInv_b h0.1 h0.2.2 n3865); have r2 := h0.1; have r3 := h0.2.1; have r4 := (i_b (p0)); have r5 := (i_b (p1)); have r6 := (i_b (v3860)); have r7 := (i_b (v3861)); omega)); have r4 := (i_b (M 431 (v3861 : Int32).toNatClampNeg)); have r5 := (i_b (x3867)); (try have d1 : x3867.toInt = ((M 431 (v3861 : Int32).toNatClampNeg) : Int32).toInt := (congrArg Int32.toInt ex3867).trans rfl); omega)); have r6 := (i_b (p0)); have r7 := (i_b (p1)); have r8 := (i_b (v3860)); have r9 := (i_b (v3861)); omega) ex3867 (by have l0 : (2 : Int32).toInt = 2 := (by decide); have l1 : (3 : Int32).toInt = 3 := (by decide); have l2 : (4 : Int32).toInt = 4 := (by decide); have l3 : (5 : Int32).toInt = 5 := (by decide); have r0 := (i_le.mp h3868); have r1 := (mt Int32.toInt_inj.mp h3872); have r2 := (mt Int32.toInt_inj.mp h3873); have r3 := (mt Int32.toInt_inj.mp h3874); have r4 := (congrArg Int32.toInt h3875); have r5 := (seg_k h0.1 h0.2.2 n3865 (by have r0 := (mt i_le.mpr h3866); have r1 := (tInv_b h0.1 h0.2.2 n3865); have r2 := h0.1; have r3 := h0.2.1; have r4 := (i_b (p0)); have r5 := (i_b (p1)); have r6 := (i_b (v3860)); have r7 := (i_b (v3861)); omega)); have r6 := (i_b (M 431 (v3861 : Int32).toNatClampNeg)); have r7 := (i_b (x3867)); (try have d1 : x3867.toInt = ((M 431 (v3861 : Int32).toNatClampNeg) : Int32).toInt := (congrArg Int32.toInt ex3867).trans rfl); omega) ex3879 ex3869) (by have l0 : (1 : Int32).toInt = 1 := (by decide); have r0 := (mt i_le.mpr h3866); have r1 := (tInv_b h0.1 h0.2.2 n3865); have r2 := hm3858; have r3 := h0.1; have r4 := h0.2.1; have r5 := (tInv_op h0.1 h0.2.2 n3865 (by have r0 := (mt i_le.mpr h3866); have r1 := (tInv_b h0.1 h0.2.2 n3865); have r2 := h0.1; have r3 := h0.2.1; have r4 := (i_b (p0)); have r5 := (i_b (p1)); have r6 := (i_b (v3860)); have r7 := (i_b (v3861)); omega) ex3867 (by have l0 : (2 : Int32).toInt = 2 := (by decide); have r0 := (i_le.mp h3868); have r1 := (seg_k h0.1 h0.2.2 n3865 (by have r0 := (mt i_le.mpr h3866); have r1 := (tInv_b h0.1 h0.2.2 n3865); have r2 := h0.1; have r3 := h0.2.1; have r4 := (i_b (p0)); have r5 := (i_b (p1)); have r6 := (i_b (v3860)); have r7 := (i_b (v3861)); omega)); have r2 := (i_b (M 431 (v3861 : Int32).toNatClampNeg)); have r3 := (i_b (x3867)); (try have d1 : x3867.toInt = ((M 431 (v3861 : Int32).toNatClampNeg) : Int32).toInt := (congrArg Int32.toInt ex3867).trans rfl); omega)); have r6 := (tInv_op h0.1 h0.2.2 n3865 (by have r0 := (mt i_le.mpr h3866); have r1 := (tInv_b h0.1 h0.2.2 n3865); have r2 := h0.1; have r3 := h0.2.1; have r4 := (tInv_op h0.1 h0.2.2 n3865 (by have r0 := (mt i_le.mpr h3866); have r1 := (tInv_b h0.1 h0.2.2 n3865); have r2 := h0.1; have r3 := h0.2.1; have r4 := (i_b (p0)); have r5 := (i_b (p1)); have r6 := (i_b (v3860)); have r7 := (i_b (v3861)); omega) ex3867 (by have l0 : (2 : Int32).toInt = 2 := (by decide); have r0 := (i_le.mp h3868); have r1 := (seg_k h0.1 h0.2.2 n3865 (by have r0 := (mt i_le.mpr h3866); have r1 := (tInv_b h0.1 h0.2.2 n3865); have r2 := h0.1; have r3 := h0.2.1; have r4 := (i_b (p0)); have r5 := (i_b (p1)); have r6 := (i_b (v3860)); have r7 := (i_b (v3861)); omega)); have r2 := (i_b (M 431 (v3861 : Int32).toNatClampNeg)); have r3 := (i_b (x3867)); (try have d1 : x3867.toInt = ((M 431 (v3861 : Int32).toNatClampNeg) : Int32).toInt := (congrArg Int32.toInt ex3867).trans rfl); omega)); have r5 := (i_b (p0)); have r6 := (i_b (p1)); have r7 := (i_b (v3860)); have r8 := (i_b (v3861)); omega) ex3867 (by have l0 : (2 : Int32).toInt = 2 := (by decide); have l1 : (5 : Int32).toInt = 5 := (by decide); have r0 := (i_le.mp h3868); have r1 := (mt Int32.toInt_inj.mp h3872); have r2 := (mt Int32.toInt_inj.mp h3873); have r3 := (seg_k h0.1 h0.2.2 n3865 (by have r0 := (mt i_le.mpr h3866); have r1 := (tInv_b h0.1 h0.2.2 n3865); have r2 := h0.1; have r3 := h0.2.1; have r4 := (i_b (p0)); have r5 := (i_b (p1)); have r6 := (i_b (v3860)); have r7 := (i_b (v3861)); omega)); have r4 := (i_b (M 431 (v3861 : Int32).toNatClampNeg)); have r5 := (i_b (x3867)); (try have d1 : x3867.toInt = ((M 431 (v3861 : Int32).toNatClampNeg) : Int32).toInt := (congrArg Int32.toInt ex3867).trans rfl); omega)); have r7 := (i_b (p0)); have r8 := (i_b (p1)); have r9 := (i_b (v3860)); have r10 := (i_b (v3861)); have r11 := (i_b (x3879)); have e1 : (v3861 + 1 : Int32).toInt = (v3861.toInt + 1) := i_addE rfl (by decide : (1 : Int32).toInt = 1) (by omega); have d2 : x3879.toInt = (v3861.toInt + 1) := (congrArg Int32.toInt ex3879).trans e1; omega)
              · refine g_iload (pc1 := 133) d_Mod_termOf_131 rfl 6 rfl ?_
                refine g_iload (pc1 := 135) d_Mod_termOf_133 rfl 7 rfl ?_
                refine g_isub (pc1 := 136) d_Mod_termOf_135 rfl ?_
                refine g_goto (tgt := 158) d_Mod_termOf_136 (by decide) ?_
                refine g_iast (pc1 := 159) d_Mod_termOf_158 rfl sh_435 (by decide) (by have l0 : (-1 : Int32).toInt = -1 := (by decide); have l1 : (1 : Int32).toInt = 1 := (by decide); have r0 := (tInv_b h0.1 h0.2.2 n3865); have r1 := (tInv_op h0.1 h0.2.2 n3865 (by have r0 := (mt i_le.mpr h3866); have r1 := (tInv_b h0.1 h0.2.2 n3865); have r2 := h0.1; have r3 := h0.2.1; have r4 := (i_b (p0)); have r5 := (i_b (p1)); have r6 := (i_b (v3860)); have r7 := (i_b (v3861)); omega) ex3867 (by have l0 : (2 : Int32).toInt = 2 := (by decide); have r0 := (i_le.mp h3868); have r1 := (seg_k h0.1 h0.2.2 n3865 (by have r0 := (mt i_le.mpr h3866); have r1 := (tInv_b h0.1 h0.2.2 n3865); have r2 := h0.1; have r3 := h0.2.1; have r4 := (i_b (p0)); have r5 := (i_b (p1)); have r6 := (i_b (v3860)); have r7 := (i_b (v3861)); omega)); have r2 := (i_b (M 431 (v3861 : Int32).toNatClampNeg)); have r3 := (i_b (x3867)); (try have d1 : x3867.toInt = ((M 431 (v3861 : Int32).toNatClampNeg) : Int32).toInt := (congrArg Int32.toInt ex3867).trans rfl); omega)); have r2 := (tInv_op h0.1 h0.2.2 n3865 (by have r0 := (mt i_le.mpr h3866); have r1 := (tInv_b h0.1 h0.2.2 n3865); have r2 := h0.1; have r3 := h0.2.1; have r4 := (tInv_op h0.1 h0.2.2 n3865 (by have r0 := (mt i_le.mpr h3866); have r1 := (tInv_b h0.1 h0.2.2 n3865); have r2 := h0.1; have r3 := h0.2.1; have r4 := (i_b (p0)); have r5 := (i_b (p1)); have r6 := (i_b (v3860)); have r7 := (i_b (v3861)); omega) ex3867 (by have l0 : (2 : Int32).toInt = 2 := (by decide); have r0 := (i_le.mp h3868); have r1 := (seg_k h0.1 h0.2.2 n3865 (by have r0 := (mt i_le.mpr h3866); have r1 := (tInv_b h0.1 h0.2.2 n3865); have r2 := h0.1; have r3 := h0.2.1; have r4 := (i_b (p0)); have r5 := (i_b (p1)); have r6 := (i_b (v3860)); have r7 := (i_b (v3861)); omega)); have r2 := (i_b (M 431 (v3861 : Int32).toNatClampNeg)); have r3 := (i_b (x3867)); (try have d1 : x3867.toInt = ((M 431 (v3861 : Int32).toNatClampNeg) : Int32).toInt := (congrArg Int32.toInt ex3867).trans rfl); omega)); have r5 := (i_b (p0)); have r6 := (i_b (p1)); have r7 := (i_b (v3860)); have r8 := (i_b (v3861)); omega) ex3867 (by have l0 : (2 : Int32).toInt = 2 := (by decide); have l1 : (5 : Int32).toInt = 5 := (by decide); have r0 := (i_le.mp h3868); have r1 := (mt Int32.toInt_inj.mp h3872); have r2 := (mt Int32.toInt_inj.mp h3873); have r3 := (seg_k h0.1 h0.2.2 n3865 (by have r0 := (mt i_le.mpr h3866); have r1 := (tInv_b h0.1 h0.2.2 n3865); have r2 := h0.1; have r3 := h0.2.1; have r4 := (i_b (p0)); have r5 := (i_b (p1)); have r6 := (i_b (v3860)); have r7 := (i_b (v3861)); omega)); have r4 := (i_b (M 431 (v3861 : Int32).toNatClampNeg)); have r5 := (i_b (x3867)); (try have d1 : x3867.toInt = ((M 431 (v3861 : Int32).toNatClampNeg) : Int32).toInt := (congrArg Int32.toInt ex3867).trans rfl); omega)); have r3 := (mt i_le.mpr h3866); have r4 := h0.1; have r5 := h0.2.1; have r6 := (i_b (p0)); have r7 := (i_b (p1)); have r8 := (i_b (v3860)); have r9 := (i_b (v3861)); have r10 := (i_b (x3869)); have e1 : (v3860 + (-1) : Int32).toInt = (v3860.toInt + (-1)) := i_addE rfl (by decide : (-1 : Int32).toInt = -1) (by omega); have d2 : x3869.toInt = (v3860.toInt + (-1)) := (congrArg Int32.toInt ex3869).trans e1; have e3 : (x3869 - 1 : Int32).toInt = ((v3860.toInt + (-1)) - 1) := i_subE d2 (by decide : (1 : Int32).toInt = 1) (by omega); exact vin_i (by omega) (by omega)) ?_
                refine Wp.topM (fun M3880 eM3880 => ?_)
                obtain ⟨x3881, ex3881⟩ : ∃ y : Int32, y = v3861 + 1 := ⟨_, rfl⟩
                refine g_iinc (pc1 := 162) (v := x3881) (lv' := [(0, .ref 401), (1, .int p0), (2, .int p1), (3, .int x3869), (4, .int x3881), (5, .int x3867), (6, .int x3870), (7, .int x3871)]) d_Mod_termOf_159 rfl 4 rfl (by rw [ex3881]; rfl) (by decide) [1, 2, 3, 4, 0, 5, 6, 7] rfl ?_
                refine g_goto (tgt := 5) d_Mod_termOf_162 (by decide) ?_
                refine Wp.loc (lv' := [(0, .ref 401), (1, .int p0), (2, .int p1), (3, .int x3869), (4, .int x3881)]) [0, 1, 2, 3, 4] rfl ?_
                exact ih3857 x3869 x3881 M3880 L3863 (Kl.wM k3864 rfl eM3880) (tInv_pop h0.1 h0.2.2 n3865 (by have r0 := (mt i_le.mpr h3866); have r1 := (tInv_b h0.1 h0.2.2 n3865); have r2 := h0.1; have r3 := h0.2.1; have r4 := (tInv_op h0.1 h0.2.2 n3865 (by have r0 := (mt i_le.mpr h3866); have r1 := (tInv_b h0.1 h0.2.2 n3865); have r2 := h0.1; have r3 := h0.2.1; have r4 := (i_b (p0)); have r5 := (i_b (p1)); have r6 := (i_b (v3860)); have r7 := (i_b (v3861)); omega) ex3867 (by have l0 : (2 : Int32).toInt = 2 := (by decide); have r0 := (i_le.mp h3868); have r1 := (seg_k h0.1 h0.2.2 n3865 (by have r0 := (mt i_le.mpr h3866); have r1 := (tInv_b h0.1 h0.2.2 n3865); have r2 := h0.1; have r3 := h0.2.1; have r4 := (i_b (p0)); have r5 := (i_b (p1)); have r6 := (i_b (v3860)); have r7 := (i_b (v3861)); omega)); have r2 := (i_b (M 431 (v3861 : Int32).toNatClampNeg)); have r3 := (i_b (x3867)); (try have d1 : x3867.toInt = ((M 431 (v3861 : Int32).toNatClampNeg) : Int32).toInt := (congrArg Int32.toInt ex3867).trans rfl); omega)); have r5 := (tInv_op h0.1 h0.2.2 n3865 (by have r0 := (mt i_le.mpr h3866); have r1 := (tInv_b h0.1 h0.2.2 n3865); have r2 := h0.1; have r3 := h0.2.1; have r4 := (tInv_op h0.1 h0.2.2 n3865 (by have r0 := (mt i_le.mpr h3866); have r1 := (tInv_b h0.1 h0.2.2 n3865); have r2 := h0.1; have r3 := h0.2.1; have r4 := (i_b (p0)); have r5 := (i_b (p1)); have r6 := (i_b (v3860)); have r7 := (i_b (v3861)); omega) ex3867 (by have l0 : (2 : Int32).toInt = 2 := (by decide); have r0 := (i_le.mp h3868); have r1 := (seg_k h0.1 h0.2.2 n3865 (by have r0 := (mt i_le.mpr h3866); have r1 := (tInv_b h0.1 h0.2.2 n3865); have r2 := h0.1; have r3 := h0.2.1; have r4 := (i_b (p0)); have r5 := (i_b (p1)); have r6 := (i_b (v3860)); have r7 := (i_b (v3861)); omega)); have r2 := (i_b (M 431 (v3861 : Int32).toNatClampNeg)); have r3 := (i_b (x3867)); (try have d1 : x3867.toInt = ((M 431 (v3861 : Int32).toNatClampNeg) : Int32).toInt := (congrArg Int32.toInt ex3867).trans rfl); omega)); have r5 := (i_b (p0)); have r6 := (i_b (p1)); have r7 := (i_b (v3860)); have r8 := (i_b (v3861)); omega) ex3867 (by have l0 : (2 : Int32).toInt = 2 := (by decide); have l1 : (5 : Int32).toInt = 5 := (by decide); have r0 := (i_le.mp h3868); have r1 := (mt Int32.toInt_inj.mp h3872); have r2 := (mt Int32.toInt_inj.mp h3873); have r3 := (seg_k h0.1 h0.2.2 n3865 (by have r0 := (mt i_le.mpr h3866); have r1 := (tInv_b h0.1 h0.2.2 n3865); have r2 := h0.1; have r3 := h0.2.1; have r4 := (i_b (p0)); have r5 := (i_b (p1)); have r6 := (i_b (v3860)); have r7 := (i_b (v3861)); omega)); have r4 := (i_b (M 431 (v3861 : Int32).toNatClampNeg)); have r5 := (i_b (x3867)); (try have d1 : x3867.toInt = ((M 431 (v3861 : Int32).toNatClampNeg) : Int32).toInt := (congrArg Int32.toInt ex3867).trans rfl); omega)); have r6 := (i_b (p0)); have r7 := (i_b (p1)); have r8 := (i_b (v3860)); have r9 := (i_b (v3861)); omega) ex3867 (by have l0 : (2 : Int32).toInt = 2 := (by decide); have l1 : (3 : Int32).toInt = 3 := (by decide); have l2 : (5 : Int32).toInt = 5 := (by decide); have r0 := (i_le.mp h3868); have r1 := (mt Int32.toInt_inj.mp h3872); have r2 := (mt Int32.toInt_inj.mp h3873); have r3 := (congrArg Int32.toInt h3874); have r4 := (seg_k h0.1 h0.2.2 n3865 (by have r0 := (mt i_le.mpr h3866); have r1 := (tInv_b h0.1 h0.2.2 n3865); have r2 := h0.1; have r3 := h0.2.1; have r4 := (i_b (p0)); have r5 := (i_b (p1)); have r6 := (i_b (v3860)); have r7 := (i_b (v3861)); omega)); have r5 := (i_b (M 431 (v3861 : Int32).toNatClampNeg)); have r6 := (i_b (x3867)); (try have d1 : x3867.toInt = ((M 431 (v3861 : Int32).toNatClampNeg) : Int32).toInt := (congrArg Int32.toInt ex3867).trans rfl); omega) ex3881 ex3869) (by have l0 : (1 : Int32).toInt = 1 := (by decide); have r0 := (mt i_le.mpr h3866); have r1 := (tInv_b h0.1 h0.2.2 n3865); have r2 := hm3858; have r3 := h0.1; have r4 := h0.2.1; have r5 := (tInv_op h0.1 h0.2.2 n3865 (by have r0 := (mt i_le.mpr h3866); have r1 := (tInv_b h0.1 h0.2.2 n3865); have r2 := h0.1; have r3 := h0.2.1; have r4 := (i_b (p0)); have r5 := (i_b (p1)); have r6 := (i_b (v3860)); have r7 := (i_b (v3861)); omega) ex3867 (by have l0 : (2 : Int32).toInt = 2 := (by decide); have r0 := (i_le.mp h3868); have r1 := (seg_k h0.1 h0.2.2 n3865 (by have r0 := (mt i_le.mpr h3866); have r1 := (tInv_b h0.1 h0.2.2 n3865); have r2 := h0.1; have r3 := h0.2.1; have r4 := (i_b (p0)); have r5 := (i_b (p1)); have r6 := (i_b (v3860)); have r7 := (i_b (v3861)); omega)); have r2 := (i_b (M 431 (v3861 : Int32).toNatClampNeg)); have r3 := (i_b (x3867)); (try have d1 : x3867.toInt = ((M 431 (v3861 : Int32).toNatClampNeg) : Int32).toInt := (congrArg Int32.toInt ex3867).trans rfl); omega)); have r6 := (tInv_op h0.1 h0.2.2 n3865 (by have r0 := (mt i_le.mpr h3866); have r1 := (tInv_b h0.1 h0.2.2 n3865); have r2 := h0.1; have r3 := h0.2.1; have r4 := (tInv_op h0.1 h0.2.2 n3865 (by have r0 := (mt i_le.mpr h3866); have r1 := (tInv_b h0.1 h0.2.2 n3865); have r2 := h0.1; have r3 := h0.2.1; have r4 := (i_b (p0)); have r5 := (i_b (p1)); have r6 := (i_b (v3860)); have r7 := (i_b (v3861)); omega) ex3867 (by have l0 : (2 : Int32).toInt = 2 := (by decide); have r0 := (i_le.mp h3868); have r1 := (seg_k h0.1 h0.2.2 n3865 (by have r0 := (mt i_le.mpr h3866); have r1 := (tInv_b h0.1 h0.2.2 n3865); have r2 := h0.1; have r3 := h0.2.1; have r4 := (i_b (p0)); have r5 := (i_b (p1)); have r6 := (i_b (v3860)); have r7 := (i_b (v3861)); omega)); have r2 := (i_b (M 431 (v3861 : Int32).toNatClampNeg)); have r3 := (i_b (x3867)); (try have d1 : x3867.toInt = ((M 431 (v3861 : Int32).toNatClampNeg) : Int32).toInt := (congrArg Int32.toInt ex3867).trans rfl); omega)); have r5 := (i_b (p0)); have r6 := (i_b (p1)); have r7 := (i_b (v3860)); have r8 := (i_b (v3861)); omega) ex3867 (by have l0 : (2 : Int32).toInt = 2 := (by decide); have l1 : (5 : Int32).toInt = 5 := (by decide); have r0 := (i_le.mp h3868); have r1 := (mt Int32.toInt_inj.mp h3872); have r2 := (mt Int32.toInt_inj.mp h3873); have r3 := (seg_k h0.1 h0.2.2 n3865 (by have r0 := (mt i_le.mpr h3866); have r1 := (tInv_b h0.1 h0.2.2 n3865); have r2 := h0.1; have r3 := h0.2.1; have r4 := (i_b (p0)); have r5 := (i_b (p1)); have r6 := (i_b (v3860)); have r7 := (i_b (v3861)); omega)); have r4 := (i_b (M 431 (v3861 : Int32).toNatClampNeg)); have r5 := (i_b (x3867)); (try have d1 : x3867.toInt = ((M 431 (v3861 : Int32).toNatClampNeg) : Int32).toInt := (congrArg Int32.toInt ex3867).trans rfl); omega)); have r7 := (i_b (p0)); have r8 := (i_b (p1)); have r9 := (i_b (v3860)); have r10 := (i_b (v3861)); have r11 := (i_b (x3881)); have e1 : (v3861 + 1 : Int32).toInt = (v3861.toInt + 1) := i_addE rfl (by decide : (1 : Int32).toInt = 1) (by omega); have d2 : x3881.toInt = (v3861.toInt + 1) := (congrArg Int32.toInt ex3881).trans e1; omega)
            · refine g_iload (pc1 := 119) d_Mod_termOf_117 rfl 6 rfl ?_
              refine g_iload (pc1 := 121) d_Mod_termOf_119 rfl 7 rfl ?_
              refine g_iadd (pc1 := 122) d_Mod_termOf_121 rfl ?_
              refine g_goto (tgt := 158) d_Mod_termOf_122 (by decide) ?_
              refine g_iast (pc1 := 159) d_Mod_termOf_158 rfl sh_435 (by decide) (by have l0 : (-1 : Int32).toInt = -1 := (by decide); have l1 : (1 : Int32).toInt = 1 := (by decide); have r0 := (tInv_b h0.1 h0.2.2 n3865); have r1 := (tInv_op h0.1 h0.2.2 n3865 (by have r0 := (mt i_le.mpr h3866); have r1 := (tInv_b h0.1 h0.2.2 n3865); have r2 := h0.1; have r3 := h0.2.1; have r4 := (i_b (p0)); have r5 := (i_b (p1)); have r6 := (i_b (v3860)); have r7 := (i_b (v3861)); omega) ex3867 (by have l0 : (2 : Int32).toInt = 2 := (by decide); have r0 := (i_le.mp h3868); have r1 := (seg_k h0.1 h0.2.2 n3865 (by have r0 := (mt i_le.mpr h3866); have r1 := (tInv_b h0.1 h0.2.2 n3865); have r2 := h0.1; have r3 := h0.2.1; have r4 := (i_b (p0)); have r5 := (i_b (p1)); have r6 := (i_b (v3860)); have r7 := (i_b (v3861)); omega)); have r2 := (i_b (M 431 (v3861 : Int32).toNatClampNeg)); have r3 := (i_b (x3867)); (try have d1 : x3867.toInt = ((M 431 (v3861 : Int32).toNatClampNeg) : Int32).toInt := (congrArg Int32.toInt ex3867).trans rfl); omega)); have r2 := (tInv_op h0.1 h0.2.2 n3865 (by have r0 := (mt i_le.mpr h3866); have r1 := (tInv_b h0.1 h0.2.2 n3865); have r2 := h0.1; have r3 := h0.2.1; have r4 := (tInv_op h0.1 h0.2.2 n3865 (by have r0 := (mt i_le.mpr h3866); have r1 := (tInv_b h0.1 h0.2.2 n3865); have r2 := h0.1; have r3 := h0.2.1; have r4 := (i_b (p0)); have r5 := (i_b (p1)); have r6 := (i_b (v3860)); have r7 := (i_b (v3861)); omega) ex3867 (by have l0 : (2 : Int32).toInt = 2 := (by decide); have r0 := (i_le.mp h3868); have r1 := (seg_k h0.1 h0.2.2 n3865 (by have r0 := (mt i_le.mpr h3866); have r1 := (tInv_b h0.1 h0.2.2 n3865); have r2 := h0.1; have r3 := h0.2.1; have r4 := (i_b (p0)); have r5 := (i_b (p1)); have r6 := (i_b (v3860)); have r7 := (i_b (v3861)); omega)); have r2 := (i_b (M 431 (v3861 : Int32).toNatClampNeg)); have r3 := (i_b (x3867)); (try have d1 : x3867.toInt = ((M 431 (v3861 : Int32).toNatClampNeg) : Int32).toInt := (congrArg Int32.toInt ex3867).trans rfl); omega)); have r5 := (i_b (p0)); have r6 := (i_b (p1)); have r7 := (i_b (v3860)); have r8 := (i_b (v3861)); omega) ex3867 (by have l0 : (2 : Int32).toInt = 2 := (by decide); have l1 : (5 : Int32).toInt = 5 := (by decide); have r0 := (i_le.mp h3868); have r1 := (mt Int32.toInt_inj.mp h3872); have r2 := (congrArg Int32.toInt h3873); have r3 := (seg_k h0.1 h0.2.2 n3865 (by have r0 := (mt i_le.mpr h3866); have r1 := (tInv_b h0.1 h0.2.2 n3865); have r2 := h0.1; have r3 := h0.2.1; have r4 := (i_b (p0)); have r5 := (i_b (p1)); have r6 := (i_b (v3860)); have r7 := (i_b (v3861)); omega)); have r4 := (i_b (M 431 (v3861 : Int32).toNatClampNeg)); have r5 := (i_b (x3867)); (try have d1 : x3867.toInt = ((M 431 (v3861 : Int32).toNatClampNeg) : Int32).toInt := (congrArg Int32.toInt ex3867).trans rfl); omega)); have r3 := (mt i_le.mpr h3866); have r4 := h0.1; have r5 := h0.2.1; have r6 := (i_b (p0)); have r7 := (i_b (p1)); have r8 := (i_b (v3860)); have r9 := (i_b (v3861)); have r10 := (i_b (x3869)); have e1 : (v3860 + (-1) : Int32).toInt = (v3860.toInt + (-1)) := i_addE rfl (by decide : (-1 : Int32).toInt = -1) (by omega); have d2 : x3869.toInt = (v3860.toInt + (-1)) := (congrArg Int32.toInt ex3869).trans e1; have e3 : (x3869 - 1 : Int32).toInt = ((v3860.toInt + (-1)) - 1) := i_subE d2 (by decide : (1 : Int32).toInt = 1) (by omega); exact vin_i (by omega) (by omega)) ?_
              refine Wp.topM (fun M3882 eM3882 => ?_)
              obtain ⟨x3883, ex3883⟩ : ∃ y : Int32, y = v3861 + 1 := ⟨_, rfl⟩
              refine g_iinc (pc1 := 162) (v := x3883) (lv' := [(0, .ref 401), (1, .int p0), (2, .int p1), (3, .int x3869), (4, .int x3883), (5, .int x3867), (6, .int x3870), (7, .int x3871)]) d_Mod_termOf_159 rfl 4 rfl (by rw [ex3883]; rfl) (by decide) [1, 2, 3, 4, 0, 5, 6, 7] rfl ?_
              refine g_goto (tgt := 5) d_Mod_termOf_162 (by decide) ?_
              refine Wp.loc (lv' := [(0, .ref 401), (1, .int p0), (2, .int p1), (3, .int x3869), (4, .int x3883)]) [0, 1, 2, 3, 4] rfl ?_
              exact ih3857 x3869 x3883 M3882 L3863 (Kl.wM k3864 rfl eM3882) (tInv_pop h0.1 h0.2.2 n3865 (by have r0 := (mt i_le.mpr h3866); have r1 := (tInv_b h0.1 h0.2.2 n3865); have r2 := h0.1; have r3 := h0.2.1; have r4 := (tInv_op h0.1 h0.2.2 n3865 (by have r0 := (mt i_le.mpr h3866); have r1 := (tInv_b h0.1 h0.2.2 n3865); have r2 := h0.1; have r3 := h0.2.1; have r4 := (i_b (p0)); have r5 := (i_b (p1)); have r6 := (i_b (v3860)); have r7 := (i_b (v3861)); omega) ex3867 (by have l0 : (2 : Int32).toInt = 2 := (by decide); have r0 := (i_le.mp h3868); have r1 := (seg_k h0.1 h0.2.2 n3865 (by have r0 := (mt i_le.mpr h3866); have r1 := (tInv_b h0.1 h0.2.2 n3865); have r2 := h0.1; have r3 := h0.2.1; have r4 := (i_b (p0)); have r5 := (i_b (p1)); have r6 := (i_b (v3860)); have r7 := (i_b (v3861)); omega)); have r2 := (i_b (M 431 (v3861 : Int32).toNatClampNeg)); have r3 := (i_b (x3867)); (try have d1 : x3867.toInt = ((M 431 (v3861 : Int32).toNatClampNeg) : Int32).toInt := (congrArg Int32.toInt ex3867).trans rfl); omega)); have r5 := (tInv_op h0.1 h0.2.2 n3865 (by have r0 := (mt i_le.mpr h3866); have r1 := (tInv_b h0.1 h0.2.2 n3865); have r2 := h0.1; have r3 := h0.2.1; have r4 := (tInv_op h0.1 h0.2.2 n3865 (by have r0 := (mt i_le.mpr h3866); have r1 := (tInv_b h0.1 h0.2.2 n3865); have r2 := h0.1; have r3 := h0.2.1; have r4 := (i_b (p0)); have r5 := (i_b (p1)); have r6 := (i_b (v3860)); have r7 := (i_b (v3861)); omega) ex3867 (by have l0 : (2 : Int32).toInt = 2 := (by decide); have r0 := (i_le.mp h3868); have r1 := (seg_k h0.1 h0.2.2 n3865 (by have r0 := (mt i_le.mpr h3866); have r1 := (tInv_b h0.1 h0.2.2 n3865); have r2 := h0.1; have r3 := h0.2.1; have r4 := (i_b (p0)); have r5 := (i_b (p1)); have r6 := (i_b (v3860)); have r7 := (i_b (v3861)); omega)); have r2 := (i_b (M 431 (v3861 : Int32).toNatClampNeg)); have r3 := (i_b (x3867)); (try have d1 : x3867.toInt = ((M 431 (v3861 : Int32).toNatClampNeg) : Int32).toInt := (congrArg Int32.toInt ex3867).trans rfl); omega)); have r5 := (i_b (p0)); have r6 := (i_b (p1)); have r7 := (i_b (v3860)); have r8 := (i_b (v3861)); omega) ex3867 (by have l0 : (2 : Int32).toInt = 2 := (by decide); have l1 : (5 : Int32).toInt = 5 := (by decide); have r0 := (i_le.mp h3868); have r1 := (mt Int32.toInt_inj.mp h3872); have r2 := (congrArg Int32.toInt h3873); have r3 := (seg_k h0.1 h0.2.2 n3865 (by have r0 := (mt i_le.mpr h3866); have r1 := (tInv_b h0.1 h0.2.2 n3865); have r2 := h0.1; have r3 := h0.2.1; have r4 := (i_b (p0)); have r5 := (i_b (p1)); have r6 := (i_b (v3860)); have r7 := (i_b (v3861)); omega)); have r4 := (i_b (M 431 (v3861 : Int32).toNatClampNeg)); have r5 := (i_b (x3867)); (try have d1 : x3867.toInt = ((M 431 (v3861 : Int32).toNatClampNeg) : Int32).toInt := (congrArg Int32.toInt ex3867).trans rfl); omega)); have r6 := (i_b (p0)); have r7 := (i_b (p1)); have r8 := (i_b (v3860)); have r9 := (i_b (v3861)); omega) ex3867 (by have l0 : (2 : Int32).toInt = 2 := (by decide); have l1 : (5 : Int32).toInt = 5 := (by decide); have r0 := (i_le.mp h3868); have r1 := (mt Int32.toInt_inj.mp h3872); have r2 := (congrArg Int32.toInt h3873); have r3 := (seg_k h0.1 h0.2.2 n3865 (by have r0 := (mt i_le.mpr h3866); have r1 := (tInv_b h0.1 h0.2.2 n3865); have r2 := h0.1; have r3 := h0.2.1; have r4 := (i_b (p0)); have r5 := (i_b (p1)); have r6 := (i_b (v3860)); have r7 := (i_b (v3861)); omega)); have r4 := (i_b (M 431 (v3861 : Int32).toNatClampNeg)); have r5 := (i_b (x3867)); (try have d1 : x3867.toInt = ((M 431 (v3861 : Int32).toNatClampNeg) : Int32).toInt := (congrArg Int32.toInt ex3867).trans rfl); omega) ex3883 ex3869) (by have l0 : (1 : Int32).toInt = 1 := (by decide); have r0 := (mt i_le.mpr h3866); have r1 := (tInv_b h0.1 h0.2.2 n3865); have r2 := hm3858; have r3 := h0.1; have r4 := h0.2.1; have r5 := (tInv_op h0.1 h0.2.2 n3865 (by have r0 := (mt i_le.mpr h3866); have r1 := (tInv_b h0.1 h0.2.2 n3865); have r2 := h0.1; have r3 := h0.2.1; have r4 := (i_b (p0)); have r5 := (i_b (p1)); have r6 := (i_b (v3860)); have r7 := (i_b (v3861)); omega) ex3867 (by have l0 : (2 : Int32).toInt = 2 := (by decide); have r0 := (i_le.mp h3868); have r1 := (seg_k h0.1 h0.2.2 n3865 (by have r0 := (mt i_le.mpr h3866); have r1 := (tInv_b h0.1 h0.2.2 n3865); have r2 := h0.1; have r3 := h0.2.1; have r4 := (i_b (p0)); have r5 := (i_b (p1)); have r6 := (i_b (v3860)); have r7 := (i_b (v3861)); omega)); have r2 := (i_b (M 431 (v3861 : Int32).toNatClampNeg)); have r3 := (i_b (x3867)); (try have d1 : x3867.toInt = ((M 431 (v3861 : Int32).toNatClampNeg) : Int32).toInt := (congrArg Int32.toInt ex3867).trans rfl); omega)); have r6 := (tInv_op h0.1 h0.2.2 n3865 (by have r0 := (mt i_le.mpr h3866); have r1 := (tInv_b h0.1 h0.2.2 n3865); have r2 := h0.1; have r3 := h0.2.1; have r4 := (tInv_op h0.1 h0.2.2 n3865 (by have r0 := (mt i_le.mpr h3866); have r1 := (tInv_b h0.1 h0.2.2 n3865); have r2 := h0.1; have r3 := h0.2.1; have r4 := (i_b (p0)); have r5 := (i_b (p1)); have r6 := (i_b (v3860)); have r7 := (i_b (v3861)); omega) ex3867 (by have l0 : (2 : Int32).toInt = 2 := (by decide); have r0 := (i_le.mp h3868); have r1 := (seg_k h0.1 h0.2.2 n3865 (by have r0 := (mt i_le.mpr h3866); have r1 := (tInv_b h0.1 h0.2.2 n3865); have r2 := h0.1; have r3 := h0.2.1; have r4 := (i_b (p0)); have r5 := (i_b (p1)); have r6 := (i_b (v3860)); have r7 := (i_b (v3861)); omega)); have r2 := (i_b (M 431 (v3861 : Int32).toNatClampNeg)); have r3 := (i_b (x3867)); (try have d1 : x3867.toInt = ((M 431 (v3861 : Int32).toNatClampNeg) : Int32).toInt := (congrArg Int32.toInt ex3867).trans rfl); omega)); have r5 := (i_b (p0)); have r6 := (i_b (p1)); have r7 := (i_b (v3860)); have r8 := (i_b (v3861)); omega) ex3867 (by have l0 : (2 : Int32).toInt = 2 := (by decide); have l1 : (5 : Int32).toInt = 5 := (by decide); have r0 := (i_le.mp h3868); have r1 := (mt Int32.toInt_inj.mp h3872); have r2 := (congrArg Int32.toInt h3873); have r3 := (seg_k h0.1 h0.2.2 n3865 (by have r0 := (mt i_le.mpr h3866); have r1 := (tInv_b h0.1 h0.2.2 n3865); have r2 := h0.1; have r3 := h0.2.1; have r4 := (i_b (p0)); have r5 := (i_b (p1)); have r6 := (i_b (v3860)); have r7 := (i_b (v3861)); omega)); have r4 := (i_b (M 431 (v3861 : Int32).toNatClampNeg)); have r5 := (i_b (x3867)); (try have d1 : x3867.toInt = ((M 431 (v3861 : Int32).toNatClampNeg) : Int32).toInt := (congrArg Int32.toInt ex3867).trans rfl); omega)); have r7 := (i_b (p0)); have r8 := (i_b (p1)); have r9 := (i_b (v3860)); have r10 := (i_b (v3861)); have r11 := (i_b (x3883)); have e1 : (v3861 + 1 : Int32).toInt = (v3861.toInt + 1) := i_addE rfl (by decide : (1 : Int32).toInt = 1) (by omega); have d2 : x3883.toInt = (v3861.toInt + 1) := (congrArg Int32.toInt ex3883).trans e1; omega)
          · refine g_iload (pc1 := 94) d_Mod_termOf_92 rfl 7 rfl ?_
            refine g_if_ne (pc1 := 97) (tgt := 104) d_Mod_termOf_94 (by decide) rfl (fun h3884 => ?_) (fun h3884 => ?_)
            · refine g_aload_n (pc1 := 105) d_Mod_termOf_104 rfl 0 rfl ?_
              refine g_getr (pc1 := 108) d_Mod_termOf_105 rfl ⟨_, fo_Mod_119⟩ sh_401 (by decide) (rf_401_50 ld) ?_
              refine g_iload_n (pc1 := 109) d_Mod_termOf_108 rfl 3 rfl ?_
              refine g_iconst (pc1 := 110) (v := 1) d_Mod_termOf_109 rfl (by decide) ?_
              refine g_isub (pc1 := 111) d_Mod_termOf_110 rfl ?_
              refine g_iload (pc1 := 113) d_Mod_termOf_111 rfl 5 rfl ?_
              refine g_iconst (pc1 := 114) (v := 2) d_Mod_termOf_113 rfl (by decide) ?_
              refine g_icmp_ne (pc1 := 117) (tgt := 125) d_Mod_termOf_114 (by decide) rfl (fun h3885 => ?_) (fun h3885 => ?_)
              · refine g_iload (pc1 := 127) d_Mod_termOf_125 rfl 5 rfl ?_
                refine g_iconst (pc1 := 128) (v := 3) d_Mod_termOf_127 rfl (by decide) ?_
                refine g_icmp_ne (pc1 := 131) (tgt := 139) d_Mod_termOf_128 (by decide) rfl (fun h3886 => ?_) (fun h3886 => ?_)
                · refine g_iload (pc1 := 141) d_Mod_termOf_139 rfl 5 rfl ?_
                  refine g_iconst (pc1 := 142) (v := 4) d_Mod_termOf_141 rfl (by decide) ?_
                  refine g_icmp_ne (pc1 := 145) (tgt := 153) d_Mod_termOf_142 (by decide) rfl (fun h3887 => ?_) (fun h3887 => ?_)
                  · refine g_iload (pc1 := 155) d_Mod_termOf_153 rfl 6 rfl ?_
                    refine g_iload (pc1 := 157) d_Mod_termOf_155 rfl 7 rfl ?_
                    refine g_idiv (pc1 := 158) d_Mod_termOf_157 rfl h3884 ?_
                    refine g_iast (pc1 := 159) d_Mod_termOf_158 rfl sh_435 (by decide) (by have l0 : (-1 : Int32).toInt = -1 := (by decide); have l1 : (1 : Int32).toInt = 1 := (by decide); have r0 := (tInv_b h0.1 h0.2.2 n3865); have r1 := (tInv_op h0.1 h0.2.2 n3865 (by have r0 := (mt i_le.mpr h3866); have r1 := (tInv_b h0.1 h0.2.2 n3865); have r2 := h0.1; have r3 := h0.2.1; have r4 := (i_b (p0)); have r5 := (i_b (p1)); have r6 := (i_b (v3860)); have r7 := (i_b (v3861)); omega) ex3867 (by have l0 : (2 : Int32).toInt = 2 := (by decide); have r0 := (i_le.mp h3868); have r1 := (seg_k h0.1 h0.2.2 n3865 (by have r0 := (mt i_le.mpr h3866); have r1 := (tInv_b h0.1 h0.2.2 n3865); have r2 := h0.1; have r3 := h0.2.1; have r4 := (i_b (p0)); have r5 := (i_b (p1)); have r6 := (i_b (v3860)); have r7 := (i_b (v3861)); omega)); have r2 := (i_b (M 431 (v3861 : Int32).toNatClampNeg)); have r3 := (i_b (x3867)); (try have d1 : x3867.toInt = ((M 431 (v3861 : Int32).toNatClampNeg) : Int32).toInt := (congrArg Int32.toInt ex3867).trans rfl); omega)); have r2 := (tInv_op h0.1 h0.2.2 n3865 (by have r0 := (mt i_le.mpr h3866); have r1 := (tInv_b h0.1 h0.2.2 n3865); have r2 := h0.1; have r3 := h0.2.1; have r4 := (tInv_op h0.1 h0.2.2 n3865 (by have r0 := (mt i_le.mpr h3866); have r1 := (tInv_b h0.1 h0.2.2 n3865); have r2 := h0.1; have r3 := h0.2.1; have r4 := (i_b (p0)); have r5 := (i_b (p1)); have r6 := (i_b (v3860)); have r7 := (i_b (v3861)); omega) ex3867 (by have l0 : (2 : Int32).toInt = 2 := (by decide); have r0 := (i_le.mp h3868); have r1 := (seg_k h0.1 h0.2.2 n3865 (by have r0 := (mt i_le.mpr h3866); have r1 := (tInv_b h0.1 h0.2.2 n3865); have r2 := h0.1; have r3 := h0.2.1; have r4 := (i_b (p0)); have r5 := (i_b (p1)); have r6 := (i_b (v3860)); have r7 := (i_b (v3861)); omega)); have r2 := (i_b (M 431 (v3861 : Int32).toNatClampNeg)); have r3 := (i_b (x3867)); (try have d1 : x3867.toInt = ((M 431 (v3861 : Int32).toNatClampNeg) : Int32).toInt := (congrArg Int32.toInt ex3867).trans rfl); omega)); have r5 := (i_b (p0)); have r6 := (i_b (p1)); have r7 := (i_b (v3860)); have r8 := (i_b (v3861)); omega) ex3867 (by have l0 : (2 : Int32).toInt = 2 := (by decide); have l1 : (5 : Int32).toInt = 5 := (by decide); have r0 := (i_le.mp h3868); have r1 := (congrArg Int32.toInt h3872); have r2 := (mt Int32.toInt_inj.mp h3885); have r3 := (seg_k h0.1 h0.2.2 n3865 (by have r0 := (mt i_le.mpr h3866); have r1 := (tInv_b h0.1 h0.2.2 n3865); have r2 := h0.1; have r3 := h0.2.1; have r4 := (i_b (p0)); have r5 := (i_b (p1)); have r6 := (i_b (v3860)); have r7 := (i_b (v3861)); omega)); have r4 := (i_b (M 431 (v3861 : Int32).toNatClampNeg)); have r5 := (i_b (x3867)); (try have d1 : x3867.toInt = ((M 431 (v3861 : Int32).toNatClampNeg) : Int32).toInt := (congrArg Int32.toInt ex3867).trans rfl); omega)); have r3 := (mt i_le.mpr h3866); have r4 := h0.1; have r5 := h0.2.1; have r6 := (i_b (p0)); have r7 := (i_b (p1)); have r8 := (i_b (v3860)); have r9 := (i_b (v3861)); have r10 := (i_b (x3869)); have e1 : (v3860 + (-1) : Int32).toInt = (v3860.toInt + (-1)) := i_addE rfl (by decide : (-1 : Int32).toInt = -1) (by omega); have d2 : x3869.toInt = (v3860.toInt + (-1)) := (congrArg Int32.toInt ex3869).trans e1; have e3 : (x3869 - 1 : Int32).toInt = ((v3860.toInt + (-1)) - 1) := i_subE d2 (by decide : (1 : Int32).toInt = 1) (by omega); exact vin_i (by omega) (by omega)) ?_
                    refine Wp.topM (fun M3888 eM3888 => ?_)
                    obtain ⟨x3889, ex3889⟩ : ∃ y : Int32, y = v3861 + 1 := ⟨_, rfl⟩
                    refine g_iinc (pc1 := 162) (v := x3889) (lv' := [(0, .ref 401), (1, .int p0), (2, .int p1), (3, .int x3869), (4, .int x3889), (5, .int x3867), (6, .int x3870), (7, .int x3871)]) d_Mod_termOf_159 rfl 4 rfl (by rw [ex3889]; rfl) (by decide) [1, 2, 3, 4, 0, 5, 6, 7] rfl ?_
                    refine g_goto (tgt := 5) d_Mod_termOf_162 (by decide) ?_
                    refine Wp.loc (lv' := [(0, .ref 401), (1, .int p0), (2, .int p1), (3, .int x3869), (4, .int x3889)]) [0, 1, 2, 3, 4] rfl ?_
                    exact ih3857 x3869 x3889 M3888 L3863 (Kl.wM k3864 rfl eM3888) (tInv_pop h0.1 h0.2.2 n3865 (by have r0 := (mt i_le.mpr h3866); have r1 := (tInv_b h0.1 h0.2.2 n3865); have r2 := h0.1; have r3 := h0.2.1; have r4 := (tInv_op h0.1 h0.2.2 n3865 (by have r0 := (mt i_le.mpr h3866); have r1 := (tInv_b h0.1 h0.2.2 n3865); have r2 := h0.1; have r3 := h0.2.1; have r4 := (i_b (p0)); have r5 := (i_b (p1)); have r6 := (i_b (v3860)); have r7 := (i_b (v3861)); omega) ex3867 (by have l0 : (2 : Int32).toInt = 2 := (by decide); have r0 := (i_le.mp h3868); have r1 := (seg_k h0.1 h0.2.2 n3865 (by have r0 := (mt i_le.mpr h3866); have r1 := (tInv_b h0.1 h0.2.2 n3865); have r2 := h0.1; have r3 := h0.2.1; have r4 := (i_b (p0)); have r5 := (i_b (p1)); have r6 := (i_b (v3860)); have r7 := (i_b (v3861)); omega)); have r2 := (i_b (M 431 (v3861 : Int32).toNatClampNeg)); have r3 := (i_b (x3867)); (try have d1 : x3867.toInt = ((M 431 (v3861 : Int32).toNatClampNeg) : Int32).toInt := (congrArg Int32.toInt ex3867).trans rfl); omega)); have r5 := (tInv_op h0.1 h0.2.2 n3865 (by have r0 := (mt i_le.mpr h3866); have r1 := (tInv_b h0.1 h0.2.2 n3865); have r2 := h0.1; have r3 := h0.2.1; have r4 := (tInv_op h0.1 h0.2.2 n3865 (by have r0 := (mt i_le.mpr h3866); have r1 := (tInv_b h0.1 h0.2.2 n3865); have r2 := h0.1; have r3 := h0.2.1; have r4 := (i_b (p0)); have r5 := (i_b (p1)); have r6 := (i_b (v3860)); have r7 := (i_b (v3861)); omega) ex3867 (by have l0 : (2 : Int32).toInt = 2 := (by decide); have r0 := (i_le.mp h3868); have r1 := (seg_k h0.1 h0.2.2 n3865 (by have r0 := (mt i_le.mpr h3866); have r1 := (tInv_b h0.1 h0.2.2 n3865); have r2 := h0.1; have r3 := h0.2.1; have r4 := (i_b (p0)); have r5 := (i_b (p1)); have r6 := (i_b (v3860)); have r7 := (i_b (v3861)); omega)); have r2 := (i_b (M 431 (v3861 : Int32).toNatClampNeg)); have r3 := (i_b (x3867)); (try have d1 : x3867.toInt = ((M 431 (v3861 : Int32).toNatClampNeg) : Int32).toInt := (congrArg Int32.toInt ex3867).trans rfl); omega)); have r5 := (i_b (p0)); have r6 := (i_b (p1)); have r7 := (i_b (v3860)); have r8 := (i_b (v3861)); omega) ex3867 (by have l0 : (2 : Int32).toInt = 2 := (by decide); have l1 : (5 : Int32).toInt = 5 := (by decide); have r0 := (i_le.mp h3868); have r1 := (congrArg Int32.toInt h3872); have r2 := (mt Int32.toInt_inj.mp h3885); have r3 := (seg_k h0.1 h0.2.2 n3865 (by have r0 := (mt i_le.mpr h3866); have r1 := (tInv_b h0.1 h0.2.2 n3865); have r2 := h0.1; have r3 := h0.2.1; have r4 := (i_b (p0)); have r5 := (i_b (p1)); have r6 := (i_b (v3860)); have r7 := (i_b (v3861)); omega)); have r4 := (i_b (M 431 (v3861 : Int32).toNatClampNeg)); have r5 := (i_b (x3867)); (try have d1 : x3867.toInt = ((M 431 (v3861 : Int32).toNatClampNeg) : Int32).toInt := (congrArg Int32.toInt ex3867).trans rfl); omega)); have r6 := (i_b (p0)); have r7 := (i_b (p1)); have r8 := (i_b (v3860)); have r9 := (i_b (v3861)); omega) ex3867 (by have l0 : (2 : Int32).toInt = 2 := (by decide); have l1 : (3 : Int32).toInt = 3 := (by decide); have l2 : (4 : Int32).toInt = 4 := (by decide); have l3 : (5 : Int32).toInt = 5 := (by decide); have r0 := (i_le.mp h3868); have r1 := (congrArg Int32.toInt h3872); have r2 := (mt Int32.toInt_inj.mp h3885); have r3 := (mt Int32.toInt_inj.mp h3886); have r4 := (mt Int32.toInt_inj.mp h3887); have r5 := (seg_k h0.1 h0.2.2 n3865 (by have r0 := (mt i_le.mpr h3866); have r1 := (tInv_b h0.1 h0.2.2 n3865); have r2 := h0.1; have r3 := h0.2.1; have r4 := (i_b (p0)); have r5 := (i_b (p1)); have r6 := (i_b (v3860)); have r7 := (i_b (v3861)); omega)); have r6 := (i_b (M 431 (v3861 : Int32).toNatClampNeg)); have r7 := (i_b (x3867)); (try have d1 : x3867.toInt = ((M 431 (v3861 : Int32).toNatClampNeg) : Int32).toInt := (congrArg Int32.toInt ex3867).trans rfl); omega) ex3889 ex3869) (by have l0 : (1 : Int32).toInt = 1 := (by decide); have r0 := (mt i_le.mpr h3866); have r1 := (tInv_b h0.1 h0.2.2 n3865); have r2 := hm3858; have r3 := h0.1; have r4 := h0.2.1; have r5 := (tInv_op h0.1 h0.2.2 n3865 (by have r0 := (mt i_le.mpr h3866); have r1 := (tInv_b h0.1 h0.2.2 n3865); have r2 := h0.1; have r3 := h0.2.1; have r4 := (i_b (p0)); have r5 := (i_b (p1)); have r6 := (i_b (v3860)); have r7 := (i_b (v3861)); omega) ex3867 (by have l0 : (2 : Int32).toInt = 2 := (by decide); have r0 := (i_le.mp h3868); have r1 := (seg_k h0.1 h0.2.2 n3865 (by have r0 := (mt i_le.mpr h3866); have r1 := (tInv_b h0.1 h0.2.2 n3865); have r2 := h0.1; have r3 := h0.2.1; have r4 := (i_b (p0)); have r5 := (i_b (p1)); have r6 := (i_b (v3860)); have r7 := (i_b (v3861)); omega)); have r2 := (i_b (M 431 (v3861 : Int32).toNatClampNeg)); have r3 := (i_b (x3867)); (try have d1 : x3867.toInt = ((M 431 (v3861 : Int32).toNatClampNeg) : Int32).toInt := (congrArg Int32.toInt ex3867).trans rfl); omega)); have r6 := (tInv_op h0.1 h0.2.2 n3865 (by have r0 := (mt i_le.mpr h3866); have r1 := (tInv_b h0.1 h0.2.2 n3865); have r2 := h0.1; have r3 := h0.2.1; have r4 := (tInv_op h0.1 h0.2.2 n3865 (by have r0 := (mt i_le.mpr h3866); have r1 := (tInv_b h0.1 h0.2.2 n3865); have r2 := h0.1; have r3 := h0.2.1; have r4 := (i_b (p0)); have r5 := (i_b (p1)); have r6 := (i_b (v3860)); have r7 := (i_b (v3861)); omega) ex3867 (by have l0 : (2 : Int32).toInt = 2 := (by decide); have r0 := (i_le.mp h3868); have r1 := (seg_k h0.1 h0.2.2 n3865 (by have r0 := (mt i_le.mpr h3866); have r1 := (tInv_b h0.1 h0.2.2 n3865); have r2 := h0.1; have r3 := h0.2.1; have r4 := (i_b (p0)); have r5 := (i_b (p1)); have r6 := (i_b (v3860)); have r7 := (i_b (v3861)); omega)); have r2 := (i_b (M 431 (v3861 : Int32).toNatClampNeg)); have r3 := (i_b (x3867)); (try have d1 : x3867.toInt = ((M 431 (v3861 : Int32).toNatClampNeg) : Int32).toInt := (congrArg Int32.toInt ex3867).trans rfl); omega)); have r5 := (i_b (p0)); have r6 := (i_b (p1)); have r7 := (i_b (v3860)); have r8 := (i_b (v3861)); omega) ex3867 (by have l0 : (2 : Int32).toInt = 2 := (by decide); have l1 : (5 : Int32).toInt = 5 := (by decide); have r0 := (i_le.mp h3868); have r1 := (congrArg Int32.toInt h3872); have r2 := (mt Int32.toInt_inj.mp h3885); have r3 := (seg_k h0.1 h0.2.2 n3865 (by have r0 := (mt i_le.mpr h3866); have r1 := (tInv_b h0.1 h0.2.2 n3865); have r2 := h0.1; have r3 := h0.2.1; have r4 := (i_b (p0)); have r5 := (i_b (p1)); have r6 := (i_b (v3860)); have r7 := (i_b (v3861)); omega)); have r4 := (i_b (M 431 (v3861 : Int32).toNatClampNeg)); have r5 := (i_b (x3867)); (try have d1 : x3867.toInt = ((M 431 (v3861 : Int32).toNatClampNeg) : Int32).toInt := (congrArg Int32.toInt ex3867).trans rfl); omega)); have r7 := (i_b (p0)); have r8 := (i_b (p1)); have r9 := (i_b (v3860)); have r10 := (i_b (v3861)); have r11 := (i_b (x3889)); have e1 : (v3861 + 1 : Int32).toInt = (v3861.toInt + 1) := i_addE rfl (by decide : (1 : Int32).toInt = 1) (by omega); have d2 : x3889.toInt = (v3861.toInt + 1) := (congrArg Int32.toInt ex3889).trans e1; omega)
                  · refine g_iload (pc1 := 147) d_Mod_termOf_145 rfl 6 rfl ?_
                    refine g_iload (pc1 := 149) d_Mod_termOf_147 rfl 7 rfl ?_
                    refine g_imul (pc1 := 150) d_Mod_termOf_149 rfl ?_
                    refine g_goto (tgt := 158) d_Mod_termOf_150 (by decide) ?_
                    refine g_iast (pc1 := 159) d_Mod_termOf_158 rfl sh_435 (by decide) (by have l0 : (-1 : Int32).toInt = -1 := (by decide); have l1 : (1 : Int32).toInt = 1 := (by decide); have r0 := (tInv_b h0.1 h0.2.2 n3865); have r1 := (tInv_op h0.1 h0.2.2 n3865 (by have r0 := (mt i_le.mpr h3866); have r1 := (tInv_b h0.1 h0.2.2 n3865); have r2 := h0.1; have r3 := h0.2.1; have r4 := (i_b (p0)); have r5 := (i_b (p1)); have r6 := (i_b (v3860)); have r7 := (i_b (v3861)); omega) ex3867 (by have l0 : (2 : Int32).toInt = 2 := (by decide); have r0 := (i_le.mp h3868); have r1 := (seg_k h0.1 h0.2.2 n3865 (by have r0 := (mt i_le.mpr h3866); have r1 := (tInv_b h0.1 h0.2.2 n3865); have r2 := h0.1; have r3 := h0.2.1; have r4 := (i_b (p0)); have r5 := (i_b (p1)); have r6 := (i_b (v3860)); have r7 := (i_b (v3861)); omega)); have r2 := (i_b (M 431 (v3861 : Int32).toNatClampNeg)); have r3 := (i_b (x3867)); (try have d1 : x3867.toInt = ((M 431 (v3861 : Int32).toNatClampNeg) : Int32).toInt := (congrArg Int32.toInt ex3867).trans rfl); omega)); have r2 := (tInv_op h0.1 h0.2.2 n3865 (by have r0 := (mt i_le.mpr h3866); have r1 := (tInv_b h0.1 h0.2.2 n3865); have r2 := h0.1; have r3 := h0.2.1; have r4 := (tInv_op h0.1 h0.2.2 n3865 (by have r0 := (mt i_le.mpr h3866); have r1 := (tInv_b h0.1 h0.2.2 n3865); have r2 := h0.1; have r3 := h0.2.1; have r4 := (i_b (p0)); have r5 := (i_b (p1)); have r6 := (i_b (v3860)); have r7 := (i_b (v3861)); omega) ex3867 (by have l0 : (2 : Int32).toInt = 2 := (by decide); have r0 := (i_le.mp h3868); have r1 := (seg_k h0.1 h0.2.2 n3865 (by have r0 := (mt i_le.mpr h3866); have r1 := (tInv_b h0.1 h0.2.2 n3865); have r2 := h0.1; have r3 := h0.2.1; have r4 := (i_b (p0)); have r5 := (i_b (p1)); have r6 := (i_b (v3860)); have r7 := (i_b (v3861)); omega)); have r2 := (i_b (M 431 (v3861 : Int32).toNatClampNeg)); have r3 := (i_b (x3867)); (try have d1 : x3867.toInt = ((M 431 (v3861 : Int32).toNatClampNeg) : Int32).toInt := (congrArg Int32.toInt ex3867).trans rfl); omega)); have r5 := (i_b (p0)); have r6 := (i_b (p1)); have r7 := (i_b (v3860)); have r8 := (i_b (v3861)); omega) ex3867 (by have l0 : (2 : Int32).toInt = 2 := (by decide); have l1 : (5 : Int32).toInt = 5 := (by decide); have r0 := (i_le.mp h3868); have r1 := (congrArg Int32.toInt h3872); have r2 := (mt Int32.toInt_inj.mp h3885); have r3 := (seg_k h0.1 h0.2.2 n3865 (by have r0 := (mt i_le.mpr h3866); have r1 := (tInv_b h0.1 h0.2.2 n3865); have r2 := h0.1; have r3 := h0.2.1; have r4 := (i_b (p0)); have r5 := (i_b (p1)); have r6 := (i_b (v3860)); have r7 := (i_b (v3861)); omega)); have r4 := (i_b (M 431 (v3861 : Int32).toNatClampNeg)); have r5 := (i_b (x3867)); (try have d1 : x3867.toInt = ((M 431 (v3861 : Int32).toNatClampNeg) : Int32).toInt := (congrArg Int32.toInt ex3867).trans rfl); omega)); have r3 := (mt i_le.mpr h3866); have r4 := h0.1; have r5 := h0.2.1; have r6 := (i_b (p0)); have r7 := (i_b (p1)); have r8 := (i_b (v3860)); have r9 := (i_b (v3861)); have r10 := (i_b (x3869)); have e1 : (v3860 + (-1) : Int32).toInt = (v3860.toInt + (-1)) := i_addE rfl (by decide : (-1 : Int32).toInt = -1) (by omega); have d2 : x3869.toInt = (v3860.toInt + (-1)) := (congrArg Int32.toInt ex3869).trans e1; have e3 : (x3869 - 1 : Int32).toInt = ((v3860.toInt + (-1)) - 1) := i_subE d2 (by decide : (1 : Int32).toInt = 1) (by omega); exact vin_i (by omega) (by omega)) ?_
                    refine Wp.topM (fun M3890 eM3890 => ?_)
                    obtain ⟨x3891, ex3891⟩ : ∃ y : Int32, y = v3861 + 1 := ⟨_, rfl⟩
                    refine g_iinc (pc1 := 162) (v := x3891) (lv' := [(0, .ref 401), (1, .int p0), (2, .int p1), (3, .int x3869), (4, .int x3891), (5, .int x3867), (6, .int x3870), (7, .int x3871)]) d_Mod_termOf_159 rfl 4 rfl (by rw [ex3891]; rfl) (by decide) [1, 2, 3, 4, 0, 5, 6, 7] rfl ?_
                    refine g_goto (tgt := 5) d_Mod_termOf_162 (by decide) ?_
                    refine Wp.loc (lv' := [(0, .ref 401), (1, .int p0), (2, .int p1), (3, .int x3869), (4, .int x3891)]) [0, 1, 2, 3, 4] rfl ?_
                    exact ih3857 x3869 x3891 M3890 L3863 (Kl.wM k3864 rfl eM3890) (tInv_pop h0.1 h0.2.2 n3865 (by have r0 := (mt i_le.mpr h3866); have r1 := (tInv_b h0.1 h0.2.2 n3865); have r2 := h0.1; have r3 := h0.2.1; have r4 := (tInv_op h0.1 h0.2.2 n3865 (by have r0 := (mt i_le.mpr h3866); have r1 := (tInv_b h0.1 h0.2.2 n3865); have r2 := h0.1; have r3 := h0.2.1; have r4 := (i_b (p0)); have r5 := (i_b (p1)); have r6 := (i_b (v3860)); have r7 := (i_b (v3861)); omega) ex3867 (by have l0 : (2 : Int32).toInt = 2 := (by decide); have r0 := (i_le.mp h3868); have r1 := (seg_k h0.1 h0.2.2 n3865 (by have r0 := (mt i_le.mpr h3866); have r1 := (tInv_b h0.1 h0.2.2 n3865); have r2 := h0.1; have r3 := h0.2.1; have r4 := (i_b (p0)); have r5 := (i_b (p1)); have r6 := (i_b (v3860)); have r7 := (i_b (v3861)); omega)); have r2 := (i_b (M 431 (v3861 : Int32).toNatClampNeg)); have r3 := (i_b (x3867)); (try have d1 : x3867.toInt = ((M 431 (v3861 : Int32).toNatClampNeg) : Int32).toInt := (congrArg Int32.toInt ex3867).trans rfl); omega)); have r5 := (tInv_op h0.1 h0.2.2 n3865 (by have r0 := (mt i_le.mpr h3866); have r1 := (tInv_b h0.1 h0.2.2 n3865); have r2 := h0.1; have r3 := h0.2.1; have r4 := (tInv_op h0.1 h0.2.2 n3865 (by have r0 := (mt i_le.mpr h3866); have r1 := (tInv_b h0.1 h0.2.2 n3865); have r2 := h0.1; have r3 := h0.2.1; have r4 := (i_b (p0)); have r5 := (i_b (p1)); have r6 := (i_b (v3860)); have r7 := (i_b (v3861)); omega) ex3867 (by have l0 : (2 : Int32).toInt = 2 := (by decide); have r0 := (i_le.mp h3868); have r1 := (seg_k h0.1 h0.2.2 n3865 (by have r0 := (mt i_le.mpr h3866); have r1 := (tInv_b h0.1 h0.2.2 n3865); have r2 := h0.1; have r3 := h0.2.1; have r4 := (i_b (p0)); have r5 := (i_b (p1)); have r6 := (i_b (v3860)); have r7 := (i_b (v3861)); omega)); have r2 := (i_b (M 431 (v3861 : Int32).toNatClampNeg)); have r3 := (i_b (x3867)); (try have d1 : x3867.toInt = ((M 431 (v3861 : Int32).toNatClampNeg) : Int32).toInt := (congrArg Int32.toInt ex3867).trans rfl); omega)); have r5 := (i_b (p0)); have r6 := (i_b (p1)); have r7 := (i_b (v3860)); have r8 := (i_b (v3861)); omega) ex3867 (by have l0 : (2 : Int32).toInt = 2 := (by decide); have l1 : (5 : Int32).toInt = 5 := (by decide); have r0 := (i_le.mp h3868); have r1 := (congrArg Int32.toInt h3872); have r2 := (mt Int32.toInt_inj.mp h3885); have r3 := (seg_k h0.1 h0.2.2 n3865 (by have r0 := (mt i_le.mpr h3866); have r1 := (tInv_b h0.1 h0.2.2 n3865); have r2 := h0.1; have r3 := h0.2.1; have r4 := (i_b (p0)); have r5 := (i_b (p1)); have r6 := (i_b (v3860)); have r7 := (i_b (v3861)); omega)); have r4 := (i_b (M 431 (v3861 : Int32).toNatClampNeg)); have r5 := (i_b (x3867)); (try have d1 : x3867.toInt = ((M 431 (v3861 : Int32).toNatClampNeg) : Int32).toInt := (congrArg Int32.toInt ex3867).trans rfl); omega)); have r6 := (i_b (p0)); have r7 := (i_b (p1)); have r8 := (i_b (v3860)); have r9 := (i_b (v3861)); omega) ex3867 (by have l0 : (2 : Int32).toInt = 2 := (by decide); have l1 : (3 : Int32).toInt = 3 := (by decide); have l2 : (4 : Int32).toInt = 4 := (by decide); have l3 : (5 : Int32).toInt = 5 := (by decide); have r0 := (i_le.mp h3868); have r1 := (congrArg Int32.toInt h3872); have r2 := (mt Int32.toInt_inj.mp h3885); have r3 := (mt Int32.toInt_inj.mp h3886); have r4 := (congrArg Int32.toInt h3887); have r5 := (seg_k h0.1 h0.2.2 n3865 (by have r0 := (mt i_le.mpr h3866); have r1 := (tInv_b h0.1 h0.2.2 n3865); have r2 := h0.1; have r3 := h0.2.1; have r4 := (i_b (p0)); have r5 := (i_b (p1)); have r6 := (i_b (v3860)); have r7 := (i_b (v3861)); omega)); have r6 := (i_b (M 431 (v3861 : Int32).toNatClampNeg)); have r7 := (i_b (x3867)); (try have d1 : x3867.toInt = ((M 431 (v3861 : Int32).toNatClampNeg) : Int32).toInt := (congrArg Int32.toInt ex3867).trans rfl); omega) ex3891 ex3869) (by have l0 : (1 : Int32).toInt = 1 := (by decide); have r0 := (mt i_le.mpr h3866); have r1 := (tInv_b h0.1 h0.2.2 n3865); have r2 := hm3858; have r3 := h0.1; have r4 := h0.2.1; have r5 := (tInv_op h0.1 h0.2.2 n3865 (by have r0 := (mt i_le.mpr h3866); have r1 := (tInv_b h0.1 h0.2.2 n3865); have r2 := h0.1; have r3 := h0.2.1; have r4 := (i_b (p0)); have r5 := (i_b (p1)); have r6 := (i_b (v3860)); have r7 := (i_b (v3861)); omega) ex3867 (by have l0 : (2 : Int32).toInt = 2 := (by decide); have r0 := (i_le.mp h3868); have r1 := (seg_k h0.1 h0.2.2 n3865 (by have r0 := (mt i_le.mpr h3866); have r1 := (tInv_b h0.1 h0.2.2 n3865); have r2 := h0.1; have r3 := h0.2.1; have r4 := (i_b (p0)); have r5 := (i_b (p1)); have r6 := (i_b (v3860)); have r7 := (i_b (v3861)); omega)); have r2 := (i_b (M 431 (v3861 : Int32).toNatClampNeg)); have r3 := (i_b (x3867)); (try have d1 : x3867.toInt = ((M 431 (v3861 : Int32).toNatClampNeg) : Int32).toInt := (congrArg Int32.toInt ex3867).trans rfl); omega)); have r6 := (tInv_op h0.1 h0.2.2 n3865 (by have r0 := (mt i_le.mpr h3866); have r1 := (tInv_b h0.1 h0.2.2 n3865); have r2 := h0.1; have r3 := h0.2.1; have r4 := (tInv_op h0.1 h0.2.2 n3865 (by have r0 := (mt i_le.mpr h3866); have r1 := (tInv_b h0.1 h0.2.2 n3865); have r2 := h0.1; have r3 := h0.2.1; have r4 := (i_b (p0)); have r5 := (i_b (p1)); have r6 := (i_b (v3860)); have r7 := (i_b (v3861)); omega) ex3867 (by have l0 : (2 : Int32).toInt = 2 := (by decide); have r0 := (i_le.mp h3868); have r1 := (seg_k h0.1 h0.2.2 n3865 (by have r0 := (mt i_le.mpr h3866); have r1 := (tInv_b h0.1 h0.2.2 n3865); have r2 := h0.1; have r3 := h0.2.1; have r4 := (i_b (p0)); have r5 := (i_b (p1)); have r6 := (i_b (v3860)); have r7 := (i_b (v3861)); omega)); have r2 := (i_b (M 431 (v3861 : Int32).toNatClampNeg)); have r3 := (i_b (x3867)); (try have d1 : x3867.toInt = ((M 431 (v3861 : Int32).toNatClampNeg) : Int32).toInt := (congrArg Int32.toInt ex3867).trans rfl); omega)); have r5 := (i_b (p0)); have r6 := (i_b (p1)); have r7 := (i_b (v3860)); have r8 := (i_b (v3861)); omega) ex3867 (by have l0 : (2 : Int32).toInt = 2 := (by decide); have l1 : (5 : Int32).toInt = 5 := (by decide); have r0 := (i_le.mp h3868); have r1 := (congrArg Int32.toInt h3872); have r2 := (mt Int32.toInt_inj.mp h3885); have r3 := (seg_k h0.1 h0.2.2 n3865 (by have r0 := (mt i_le.mpr h3866); have r1 := (tInv_b h0.1 h0.2.2 n3865); have r2 := h0.1; have r3 := h0.2.1; have r4 := (i_b (p0)); have r5 := (i_b (p1)); have r6 := (i_b (v3860)); have r7 := (i_b (v3861)); omega)); have r4 := (i_b (M 431 (v3861 : Int32).toNatClampNeg)); have r5 := (i_b (x3867)); (try have d1 : x3867.toInt = ((M 431 (v3861 : Int32).toNatClampNeg) : Int32).toInt := (congrArg Int32.toInt ex3867).trans rfl); omega)); have r7 := (i_b (p0)); have r8 := (i_b (p1)); have r9 := (i_b (v3860)); have r10 := (i_b (v3861)); have r11 := (i_b (x3891)); have e1 : (v3861 + 1 : Int32).toInt = (v3861.toInt + 1) := i_addE rfl (by decide : (1 : Int32).toInt = 1) (by omega); have d2 : x3891.toInt = (v3861.toInt + 1) := (congrArg Int32.toInt ex3891).trans e1; omega)
                · refine g_iload (pc1 := 133) d_Mod_termOf_131 rfl 6 rfl ?_
                  refine g_iload (pc1 := 135) d_Mod_termOf_133 rfl 7 rfl ?_
                  refine g_isub (pc1 := 136) d_Mod_termOf_135 rfl ?_
                  refine g_goto (tgt := 158) d_Mod_termOf_136 (by decide) ?_
                  refine g_iast (pc1 := 159) d_Mod_termOf_158 rfl sh_435 (by decide) (by have l0 : (-1 : Int32).toInt = -1 := (by decide); have l1 : (1 : Int32).toInt = 1 := (by decide); have r0 := (tInv_b h0.1 h0.2.2 n3865); have r1 := (tInv_op h0.1 h0.2.2 n3865 (by have r0 := (mt i_le.mpr h3866); have r1 := (tInv_b h0.1 h0.2.2 n3865); have r2 := h0.1; have r3 := h0.2.1; have r4 := (i_b (p0)); have r5 := (i_b (p1)); have r6 := (i_b (v3860)); have r7 := (i_b (v3861)); omega) ex3867 (by have l0 : (2 : Int32).toInt = 2 := (by decide); have r0 := (i_le.mp h3868); have r1 := (seg_k h0.1 h0.2.2 n3865 (by have r0 := (mt i_le.mpr h3866); have r1 := (tInv_b h0.1 h0.2.2 n3865); have r2 := h0.1; have r3 := h0.2.1; have r4 := (i_b (p0)); have r5 := (i_b (p1)); have r6 := (i_b (v3860)); have r7 := (i_b (v3861)); omega)); have r2 := (i_b (M 431 (v3861 : Int32).toNatClampNeg)); have r3 := (i_b (x3867)); (try have d1 : x3867.toInt = ((M 431 (v3861 : Int32).toNatClampNeg) : Int32).toInt := (congrArg Int32.toInt ex3867).trans rfl); omega)); have r2 := (tInv_op h0.1 h0.2.2 n3865 (by have r0 := (mt i_le.mpr h3866); have r1 := (tInv_b h0.1 h0.2.2 n3865); have r2 := h0.1; have r3 := h0.2.1; have r4 := (tInv_op h0.1 h0.2.2 n3865 (by have r0 := (mt i_le.mpr h3866); have r1 := (tInv_b h0.1 h0.2.2 n3865); have r2 := h0.1; have r3 := h0.2.1; have r4 := (i_b (p0)); have r5 := (i_b (p1)); have r6 := (i_b (v3860)); have r7 := (i_b (v3861)); omega) ex3867 (by have l0 : (2 : Int32).toInt = 2 := (by decide); have r0 := (i_le.mp h3868); have r1 := (seg_k h0.1 h0.2.2 n3865 (by have r0 := (mt i_le.mpr h3866); have r1 := (tInv_b h0.1 h0.2.2 n3865); have r2 := h0.1; have r3 := h0.2.1; have r4 := (i_b (p0)); have r5 := (i_b (p1)); have r6 := (i_b (v3860)); have r7 := (i_b (v3861)); omega)); have r2 := (i_b (M 431 (v3861 : Int32).toNatClampNeg)); have r3 := (i_b (x3867)); (try have d1 : x3867.toInt = ((M 431 (v3861 : Int32).toNatClampNeg) : Int32).toInt := (congrArg Int32.toInt ex3867).trans rfl); omega)); have r5 := (i_b (p0)); have r6 := (i_b (p1)); have r7 := (i_b (v3860)); have r8 := (i_b (v3861)); omega) ex3867 (by have l0 : (2 : Int32).toInt = 2 := (by decide); have l1 : (5 : Int32).toInt = 5 := (by decide); have r0 := (i_le.mp h3868); have r1 := (congrArg Int32.toInt h3872); have r2 := (mt Int32.toInt_inj.mp h3885); have r3 := (seg_k h0.1 h0.2.2 n3865 (by have r0 := (mt i_le.mpr h3866); have r1 := (tInv_b h0.1 h0.2.2 n3865); have r2 := h0.1; have r3 := h0.2.1; have r4 := (i_b (p0)); have r5 := (i_b (p1)); have r6 := (i_b (v3860)); have r7 := (i_b (v3861)); omega)); have r4 := (i_b (M 431 (v3861 : Int32).toNatClampNeg)); have r5 := (i_b (x3867)); (try have d1 : x3867.toInt = ((M 431 (v3861 : Int32).toNatClampNeg) : Int32).toInt := (congrArg Int32.toInt ex3867).trans rfl); omega)); have r3 := (mt i_le.mpr h3866); have r4 := h0.1; have r5 := h0.2.1; have r6 := (i_b (p0)); have r7 := (i_b (p1)); have r8 := (i_b (v3860)); have r9 := (i_b (v3861)); have r10 := (i_b (x3869)); have e1 : (v3860 + (-1) : Int32).toInt = (v3860.toInt + (-1)) := i_addE rfl (by decide : (-1 : Int32).toInt = -1) (by omega); have d2 : x3869.toInt = (v3860.toInt + (-1)) := (congrArg Int32.toInt ex3869).trans e1; have e3 : (x3869 - 1 : Int32).toInt = ((v3860.toInt + (-1)) - 1) := i_subE d2 (by decide : (1 : Int32).toInt = 1) (by omega); exact vin_i (by omega) (by omega)) ?_
                  refine Wp.topM (fun M3892 eM3892 => ?_)
                  obtain ⟨x3893, ex3893⟩ : ∃ y : Int32, y = v3861 + 1 := ⟨_, rfl⟩
                  refine g_iinc (pc1 := 162) (v := x3893) (lv' := [(0, .ref 401), (1, .int p0), (2, .int p1), (3, .int x3869), (4, .int x3893), (5, .int x3867), (6, .int x3870), (7, .int x3871)]) d_Mod_termOf_159 rfl 4 rfl (by rw [ex3893]; rfl) (by decide) [1, 2, 3, 4, 0, 5, 6, 7] rfl ?_
                  refine g_goto (tgt := 5) d_Mod_termOf_162 (by decide) ?_
                  refine Wp.loc (lv' := [(0, .ref 401), (1, .int p0), (2, .int p1), (3, .int x3869), (4, .int x3893)]) [0, 1, 2, 3, 4] rfl ?_
                  exact ih3857 x3869 x3893 M3892 L3863 (Kl.wM k3864 rfl eM3892) (tInv_pop h0.1 h0.2.2 n3865 (by have r0 := (mt i_le.mpr h3866); have r1 := (tInv_b h0.1 h0.2.2 n3865); have r2 := h0.1; have r3 := h0.2.1; have r4 := (tInv_op h0.1 h0.2.2 n3865 (by have r0 := (mt i_le.mpr h3866); have r1 := (tInv_b h0.1 h0.2.2 n3865); have r2 := h0.1; have r3 := h0.2.1; have r4 := (i_b (p0)); have r5 := (i_b (p1)); have r6 := (i_b (v3860)); have r7 := (i_b (v3861)); omega) ex3867 (by have l0 : (2 : Int32).toInt = 2 := (by decide); have r0 := (i_le.mp h3868); have r1 := (seg_k h0.1 h0.2.2 n3865 (by have r0 := (mt i_le.mpr h3866); have r1 := (tInv_b h0.1 h0.2.2 n3865); have r2 := h0.1; have r3 := h0.2.1; have r4 := (i_b (p0)); have r5 := (i_b (p1)); have r6 := (i_b (v3860)); have r7 := (i_b (v3861)); omega)); have r2 := (i_b (M 431 (v3861 : Int32).toNatClampNeg)); have r3 := (i_b (x3867)); (try have d1 : x3867.toInt = ((M 431 (v3861 : Int32).toNatClampNeg) : Int32).toInt := (congrArg Int32.toInt ex3867).trans rfl); omega)); have r5 := (tInv_op h0.1 h0.2.2 n3865 (by have r0 := (mt i_le.mpr h3866); have r1 := (tInv_b h0.1 h0.2.2 n3865); have r2 := h0.1; have r3 := h0.2.1; have r4 := (tInv_op h0.1 h0.2.2 n3865 (by have r0 := (mt i_le.mpr h3866); have r1 := (tInv_b h0.1 h0.2.2 n3865); have r2 := h0.1; have r3 := h0.2.1; have r4 := (i_b (p0)); have r5 := (i_b (p1)); have r6 := (i_b (v3860)); have r7 := (i_b (v3861)); omega) ex3867 (by have l0 : (2 : Int32).toInt = 2 := (by decide); have r0 := (i_le.mp h3868); have r1 := (seg_k h0.1 h0.2.2 n3865 (by have r0 := (mt i_le.mpr h3866); have r1 := (tInv_b h0.1 h0.2.2 n3865); have r2 := h0.1; have r3 := h0.2.1; have r4 := (i_b (p0)); have r5 := (i_b (p1)); have r6 := (i_b (v3860)); have r7 := (i_b (v3861)); omega)); have r2 := (i_b (M 431 (v3861 : Int32).toNatClampNeg)); have r3 := (i_b (x3867)); (try have d1 : x3867.toInt = ((M 431 (v3861 : Int32).toNatClampNeg) : Int32).toInt := (congrArg Int32.toInt ex3867).trans rfl); omega)); have r5 := (i_b (p0)); have r6 := (i_b (p1)); have r7 := (i_b (v3860)); have r8 := (i_b (v3861)); omega) ex3867 (by have l0 : (2 : Int32).toInt = 2 := (by decide); have l1 : (5 : Int32).toInt = 5 := (by decide); have r0 := (i_le.mp h3868); have r1 := (congrArg Int32.toInt h3872); have r2 := (mt Int32.toInt_inj.mp h3885); have r3 := (seg_k h0.1 h0.2.2 n3865 (by have r0 := (mt i_le.mpr h3866); have r1 := (tInv_b h0.1 h0.2.2 n3865); have r2 := h0.1; have r3 := h0.2.1; have r4 := (i_b (p0)); have r5 := (i_b (p1)); have r6 := (i_b (v3860)); have r7 := (i_b (v3861)); omega)); have r4 := (i_b (M 431 (v3861 : Int32).toNatClampNeg)); have r5 := (i_b (x3867)); (try have d1 : x3867.toInt = ((M 431 (v3861 : Int32).toNatClampNeg) : Int32).toInt := (congrArg Int32.toInt ex3867).trans rfl); omega)); have r6 := (i_b (p0)); have r7 := (i_b (p1)); have r8 := (i_b (v3860)); have r9 := (i_b (v3861)); omega) ex3867 (by have l0 : (2 : Int32).toInt = 2 := (by decide); have l1 : (3 : Int32).toInt = 3 := (by decide); have l2 : (5 : Int32).toInt = 5 := (by decide); have r0 := (i_le.mp h3868); have r1 := (congrArg Int32.toInt h3872); have r2 := (mt Int32.toInt_inj.mp h3885); have r3 := (congrArg Int32.toInt h3886); have r4 := (seg_k h0.1 h0.2.2 n3865 (by have r0 := (mt i_le.mpr h3866); have r1 := (tInv_b h0.1 h0.2.2 n3865); have r2 := h0.1; have r3 := h0.2.1; have r4 := (i_b (p0)); have r5 := (i_b (p1)); have r6 := (i_b (v3860)); have r7 := (i_b (v3861)); omega)); have r5 := (i_b (M 431 (v3861 : Int32).toNatClampNeg)); have r6 := (i_b (x3867)); (try have d1 : x3867.toInt = ((M 431 (v3861 : Int32).toNatClampNeg) : Int32).toInt := (congrArg Int32.toInt ex3867).trans rfl); omega) ex3893 ex3869) (by have l0 : (1 : Int32).toInt = 1 := (by decide); have r0 := (mt i_le.mpr h3866); have r1 := (tInv_b h0.1 h0.2.2 n3865); have r2 := hm3858; have r3 := h0.1; have r4 := h0.2.1; have r5 := (tInv_op h0.1 h0.2.2 n3865 (by have r0 := (mt i_le.mpr h3866); have r1 := (tInv_b h0.1 h0.2.2 n3865); have r2 := h0.1; have r3 := h0.2.1; have r4 := (i_b (p0)); have r5 := (i_b (p1)); have r6 := (i_b (v3860)); have r7 := (i_b (v3861)); omega) ex3867 (by have l0 : (2 : Int32).toInt = 2 := (by decide); have r0 := (i_le.mp h3868); have r1 := (seg_k h0.1 h0.2.2 n3865 (by have r0 := (mt i_le.mpr h3866); have r1 := (tInv_b h0.1 h0.2.2 n3865); have r2 := h0.1; have r3 := h0.2.1; have r4 := (i_b (p0)); have r5 := (i_b (p1)); have r6 := (i_b (v3860)); have r7 := (i_b (v3861)); omega)); have r2 := (i_b (M 431 (v3861 : Int32).toNatClampNeg)); have r3 := (i_b (x3867)); (try have d1 : x3867.toInt = ((M 431 (v3861 : Int32).toNatClampNeg) : Int32).toInt := (congrArg Int32.toInt ex3867).trans rfl); omega)); have r6 := (tInv_op h0.1 h0.2.2 n3865 (by have r0 := (mt i_le.mpr h3866); have r1 := (tInv_b h0.1 h0.2.2 n3865); have r2 := h0.1; have r3 := h0.2.1; have r4 := (tInv_op h0.1 h0.2.2 n3865 (by have r0 := (mt i_le.mpr h3866); have r1 := (tInv_b h0.1 h0.2.2 n3865); have r2 := h0.1; have r3 := h0.2.1; have r4 := (i_b (p0)); have r5 := (i_b (p1)); have r6 := (i_b (v3860)); have r7 := (i_b (v3861)); omega) ex3867 (by have l0 : (2 : Int32).toInt = 2 := (by decide); have r0 := (i_le.mp h3868); have r1 := (seg_k h0.1 h0.2.2 n3865 (by have r0 := (mt i_le.mpr h3866); have r1 := (tInv_b h0.1 h0.2.2 n3865); have r2 := h0.1; have r3 := h0.2.1; have r4 := (i_b (p0)); have r5 := (i_b (p1)); have r6 := (i_b (v3860)); have r7 := (i_b (v3861)); omega)); have r2 := (i_b (M 431 (v3861 : Int32).toNatClampNeg)); have r3 := (i_b (x3867)); (try have d1 : x3867.toInt = ((M 431 (v3861 : Int32).toNatClampNeg) : Int32).toInt := (congrArg Int32.toInt ex3867).trans rfl); omega)); have r5 := (i_b (p0)); have r6 := (i_b (p1)); have r7 := (i_b (v3860)); have r8 := (i_b (v3861)); omega) ex3867 (by have l0 : (2 : Int32).toInt = 2 := (by decide); have l1 : (5 : Int32).toInt = 5 := (by decide); have r0 := (i_le.mp h3868); have r1 := (congrArg Int32.toInt h3872); have r2 := (mt Int32.toInt_inj.mp h3885); have r3 := (seg_k h0.1 h0.2.2 n3865 (by have r0 := (mt i_le.mpr h3866); have r1 := (tInv_b h0.1 h0.2.2 n3865); have r2 := h0.1; have r3 := h0.2.1; have r4 := (i_b (p0)); have r5 := (i_b (p1)); have r6 := (i_b (v3860)); have r7 := (i_b (v3861)); omega)); have r4 := (i_b (M 431 (v3861 : Int32).toNatClampNeg)); have r5 := (i_b (x3867)); (try have d1 : x3867.toInt = ((M 431 (v3861 : Int32).toNatClampNeg) : Int32).toInt := (congrArg Int32.toInt ex3867).trans rfl); omega)); have r7 := (i_b (p0)); have r8 := (i_b (p1)); have r9 := (i_b (v3860)); have r10 := (i_b (v3861)); have r11 := (i_b (x3893)); have e1 : (v3861 + 1 : Int32).toInt = (v3861.toInt + 1) := i_addE rfl (by decide : (1 : Int32).toInt = 1) (by omega); have d2 : x3893.toInt = (v3861.toInt + 1) := (congrArg Int32.toInt ex3893).trans e1; omega)
              · refine g_iload (pc1 := 119) d_Mod_termOf_117 rfl 6 rfl ?_
                refine g_iload (pc1 := 121) d_Mod_termOf_119 rfl 7 rfl ?_
                refine g_iadd (pc1 := 122) d_Mod_termOf_121 rfl ?_
                refine g_goto (tgt := 158) d_Mod_termOf_122 (by decide) ?_
                refine g_iast (pc1 := 159) d_Mod_termOf_158 rfl sh_435 (by decide) (by have l0 : (-1 : Int32).toInt = -1 := (by decide); have l1 : (1 : Int32).toInt = 1 := (by decide); have r0 := (tInv_b h0.1 h0.2.2 n3865); have r1 := (tInv_op h0.1 h0.2.2 n3865 (by have r0 := (mt i_le.mpr h3866); have r1 := (tInv_b h0.1 h0.2.2 n3865); have r2 := h0.1; have r3 := h0.2.1; have r4 := (i_b (p0)); have r5 := (i_b (p1)); have r6 := (i_b (v3860)); have r7 := (i_b (v3861)); omega) ex3867 (by have l0 : (2 : Int32).toInt = 2 := (by decide); have r0 := (i_le.mp h3868); have r1 := (seg_k h0.1 h0.2.2 n3865 (by have r0 := (mt i_le.mpr h3866); have r1 := (tInv_b h0.1 h0.2.2 n3865); have r2 := h0.1; have r3 := h0.2.1; have r4 := (i_b (p0)); have r5 := (i_b (p1)); have r6 := (i_b (v3860)); have r7 := (i_b (v3861)); omega)); have r2 := (i_b (M 431 (v3861 : Int32).toNatClampNeg)); have r3 := (i_b (x3867)); (try have d1 : x3867.toInt = ((M 431 (v3861 : Int32).toNatClampNeg) : Int32).toInt := (congrArg Int32.toInt ex3867).trans rfl); omega)); have r2 := (tInv_op h0.1 h0.2.2 n3865 (by have r0 := (mt i_le.mpr h3866); have r1 := (tInv_b h0.1 h0.2.2 n3865); have r2 := h0.1; have r3 := h0.2.1; have r4 := (tInv_op h0.1 h0.2.2 n3865 (by have r0 := (mt i_le.mpr h3866); have r1 := (tInv_b h0.1 h0.2.2 n3865); have r2 := h0.1; have r3 := h0.2.1; have r4 := (i_b (p0)); have r5 := (i_b (p1)); have r6 := (i_b (v3860)); have r7 := (i_b (v3861)); omega) ex3867 (by have l0 : (2 : Int32).toInt = 2 := (by decide); have r0 := (i_le.mp h3868); have r1 := (seg_k h0.1 h0.2.2 n3865 (by have r0 := (mt i_le.mpr h3866); have r1 := (tInv_b h0.1 h0.2.2 n3865); have r2 := h0.1; have r3 := h0.2.1; have r4 := (i_b (p0)); have r5 := (i_b (p1)); have r6 := (i_b (v3860)); have r7 := (i_b (v3861)); omega)); have r2 := (i_b (M 431 (v3861 : Int32).toNatClampNeg)); have r3 := (i_b (x3867)); (try have d1 : x3867.toInt = ((M 431 (v3861 : Int32).toNatClampNeg) : Int32).toInt := (congrArg Int32.toInt ex3867).trans rfl); omega)); have r5 := (i_b (p0)); have r6 := (i_b (p1)); have r7 := (i_b (v3860)); have r8 := (i_b (v3861)); omega) ex3867 (by have l0 : (2 : Int32).toInt = 2 := (by decide); have l1 : (5 : Int32).toInt = 5 := (by decide); have r0 := (i_le.mp h3868); have r1 := (congrArg Int32.toInt h3872); have r2 := (congrArg Int32.toInt h3885); have r3 := (seg_k h0.1 h0.2.2 n3865 (by have r0 := (mt i_le.mpr h3866); have r1 := (tInv_b h0.1 h0.2.2 n3865); have r2 := h0.1; have r3 := h0.2.1; have r4 := (i_b (p0)); have r5 := (i_b (p1)); have r6 := (i_b (v3860)); have r7 := (i_b (v3861)); omega)); have r4 := (i_b (M 431 (v3861 : Int32).toNatClampNeg)); have r5 := (i_b (x3867)); (try have d1 : x3867.toInt = ((M 431 (v3861 : Int32).toNatClampNeg) : Int32).toInt := (congrArg Int32.toInt ex3867).trans rfl); omega)); have r3 := (mt i_le.mpr h3866); have r4 := h0.1; have r5 := h0.2.1; have r6 := (i_b (p0)); have r7 := (i_b (p1)); have r8 := (i_b (v3860)); have r9 := (i_b (v3861)); have r10 := (i_b (x3869)); have e1 : (v3860 + (-1) : Int32).toInt = (v3860.toInt + (-1)) := i_addE rfl (by decide : (-1 : Int32).toInt = -1) (by omega); have d2 : x3869.toInt = (v3860.toInt + (-1)) := (congrArg Int32.toInt ex3869).trans e1; have e3 : (x3869 - 1 : Int32).toInt = ((v3860.toInt + (-1)) - 1) := i_subE d2 (by decide : (1 : Int32).toInt = 1) (by omega); exact vin_i (by omega) (by omega)) ?_
                refine Wp.topM (fun M3894 eM3894 => ?_)
                obtain ⟨x3895, ex3895⟩ : ∃ y : Int32, y = v3861 + 1 := ⟨_, rfl⟩
                refine g_iinc (pc1 := 162) (v := x3895) (lv' := [(0, .ref 401), (1, .int p0), (2, .int p1), (3, .int x3869), (4, .int x3895), (5, .int x3867), (6, .int x3870), (7, .int x3871)]) d_Mod_termOf_159 rfl 4 rfl (by rw [ex3895]; rfl) (by decide) [1, 2, 3, 4, 0, 5, 6, 7] rfl ?_
                refine g_goto (tgt := 5) d_Mod_termOf_162 (by decide) ?_
                refine Wp.loc (lv' := [(0, .ref 401), (1, .int p0), (2, .int p1), (3, .int x3869), (4, .int x3895)]) [0, 1, 2, 3, 4] rfl ?_
                exact ih3857 x3869 x3895 M3894 L3863 (Kl.wM k3864 rfl eM3894) (tInv_pop h0.1 h0.2.2 n3865 (by have r0 := (mt i_le.mpr h3866); have r1 := (tInv_b h0.1 h0.2.2 n3865); have r2 := h0.1; have r3 := h0.2.1; have r4 := (tInv_op h0.1 h0.2.2 n3865 (by have r0 := (mt i_le.mpr h3866); have r1 := (tInv_b h0.1 h0.2.2 n3865); have r2 := h0.1; have r3 := h0.2.1; have r4 := (i_b (p0)); have r5 := (i_b (p1)); have r6 := (i_b (v3860)); have r7 := (i_b (v3861)); omega) ex3867 (by have l0 : (2 : Int32).toInt = 2 := (by decide); have r0 := (i_le.mp h3868); have r1 := (seg_k h0.1 h0.2.2 n3865 (by have r0 := (mt i_le.mpr h3866); have r1 := (tInv_b h0.1 h0.2.2 n3865); have r2 := h0.1; have r3 := h0.2.1; have r4 := (i_b (p0)); have r5 := (i_b (p1)); have r6 := (i_b (v3860)); have r7 := (i_b (v3861)); omega)); have r2 := (i_b (M 431 (v3861 : Int32).toNatClampNeg)); have r3 := (i_b (x3867)); (try have d1 : x3867.toInt = ((M 431 (v3861 : Int32).toNatClampNeg) : Int32).toInt := (congrArg Int32.toInt ex3867).trans rfl); omega)); have r5 := (tInv_op h0.1 h0.2.2 n3865 (by have r0 := (mt i_le.mpr h3866); have r1 := (tInv_b h0.1 h0.2.2 n3865); have r2 := h0.1; have r3 := h0.2.1; have r4 := (tInv_op h0.1 h0.2.2 n3865 (by have r0 := (mt i_le.mpr h3866); have r1 := (tInv_b h0.1 h0.2.2 n3865); have r2 := h0.1; have r3 := h0.2.1; have r4 := (i_b (p0)); have r5 := (i_b (p1)); have r6 := (i_b (v3860)); have r7 := (i_b (v3861)); omega) ex3867 (by have l0 : (2 : Int32).toInt = 2 := (by decide); have r0 := (i_le.mp h3868); have r1 := (seg_k h0.1 h0.2.2 n3865 (by have r0 := (mt i_le.mpr h3866); have r1 := (tInv_b h0.1 h0.2.2 n3865); have r2 := h0.1; have r3 := h0.2.1; have r4 := (i_b (p0)); have r5 := (i_b (p1)); have r6 := (i_b (v3860)); have r7 := (i_b (v3861)); omega)); have r2 := (i_b (M 431 (v3861 : Int32).toNatClampNeg)); have r3 := (i_b (x3867)); (try have d1 : x3867.toInt = ((M 431 (v3861 : Int32).toNatClampNeg) : Int32).toInt := (congrArg Int32.toInt ex3867).trans rfl); omega)); have r5 := (i_b (p0)); have r6 := (i_b (p1)); have r7 := (i_b (v3860)); have r8 := (i_b (v3861)); omega) ex3867 (by have l0 : (2 : Int32).toInt = 2 := (by decide); have l1 : (5 : Int32).toInt = 5 := (by decide); have r0 := (i_le.mp h3868); have r1 := (congrArg Int32.toInt h3872); have r2 := (congrArg Int32.toInt h3885); have r3 := (seg_k h0.1 h0.2.2 n3865 (by have r0 := (mt i_le.mpr h3866); have r1 := (tInv_b h0.1 h0.2.2 n3865); have r2 := h0.1; have r3 := h0.2.1; have r4 := (i_b (p0)); have r5 := (i_b (p1)); have r6 := (i_b (v3860)); have r7 := (i_b (v3861)); omega)); have r4 := (i_b (M 431 (v3861 : Int32).toNatClampNeg)); have r5 := (i_b (x3867)); (try have d1 : x3867.toInt = ((M 431 (v3861 : Int32).toNatClampNeg) : Int32).toInt := (congrArg Int32.toInt ex3867).trans rfl); omega)); have r6 := (i_b (p0)); have r7 := (i_b (p1)); have r8 := (i_b (v3860)); have r9 := (i_b (v3861)); omega) ex3867 (by have l0 : (2 : Int32).toInt = 2 := (by decide); have l1 : (5 : Int32).toInt = 5 := (by decide); have r0 := (i_le.mp h3868); have r1 := (congrArg Int32.toInt h3872); have r2 := (congrArg Int32.toInt h3885); have r3 := (seg_k h0.1 h0.2.2 n3865 (by have r0 := (mt i_le.mpr h3866); have r1 := (tInv_b h0.1 h0.2.2 n3865); have r2 := h0.1; have r3 := h0.2.1; have r4 := (i_b (p0)); have r5 := (i_b (p1)); have r6 := (i_b (v3860)); have r7 := (i_b (v3861)); omega)); have r4 := (i_b (M 431 (v3861 : Int32).toNatClampNeg)); have r5 := (i_b (x3867)); (try have d1 : x3867.toInt = ((M 431 (v3861 : Int32).toNatClampNeg) : Int32).toInt := (congrArg Int32.toInt ex3867).trans rfl); omega) ex3895 ex3869) (by have l0 : (1 : Int32).toInt = 1 := (by decide); have r0 := (mt i_le.mpr h3866); have r1 := (tInv_b h0.1 h0.2.2 n3865); have r2 := hm3858; have r3 := h0.1; have r4 := h0.2.1; have r5 := (tInv_op h0.1 h0.2.2 n3865 (by have r0 := (mt i_le.mpr h3866); have r1 := (tInv_b h0.1 h0.2.2 n3865); have r2 := h0.1; have r3 := h0.2.1; have r4 := (i_b (p0)); have r5 := (i_b (p1)); have r6 := (i_b (v3860)); have r7 := (i_b (v3861)); omega) ex3867 (by have l0 : (2 : Int32).toInt = 2 := (by decide); have r0 := (i_le.mp h3868); have r1 := (seg_k h0.1 h0.2.2 n3865 (by have r0 := (mt i_le.mpr h3866); have r1 := (tInv_b h0.1 h0.2.2 n3865); have r2 := h0.1; have r3 := h0.2.1; have r4 := (i_b (p0)); have r5 := (i_b (p1)); have r6 := (i_b (v3860)); have r7 := (i_b (v3861)); omega)); have r2 := (i_b (M 431 (v3861 : Int32).toNatClampNeg)); have r3 := (i_b (x3867)); (try have d1 : x3867.toInt = ((M 431 (v3861 : Int32).toNatClampNeg) : Int32).toInt := (congrArg Int32.toInt ex3867).trans rfl); omega)); have r6 := (tInv_op h0.1 h0.2.2 n3865 (by have r0 := (mt i_le.mpr h3866); have r1 := (tInv_b h0.1 h0.2.2 n3865); have r2 := h0.1; have r3 := h0.2.1; have r4 := (tInv_op h0.1 h0.2.2 n3865 (by have r0 := (mt i_le.mpr h3866); have r1 := (tInv_b h0.1 h0.2.2 n3865); have r2 := h0.1; have r3 := h0.2.1; have r4 := (i_b (p0)); have r5 := (i_b (p1)); have r6 := (i_b (v3860)); have r7 := (i_b (v3861)); omega) ex3867 (by have l0 : (2 : Int32).toInt = 2 := (by decide); have r0 := (i_le.mp h3868); have r1 := (seg_k h0.1 h0.2.2 n3865 (by have r0 := (mt i_le.mpr h3866); have r1 := (tInv_b h0.1 h0.2.2 n3865); have r2 := h0.1; have r3 := h0.2.1; have r4 := (i_b (p0)); have r5 := (i_b (p1)); have r6 := (i_b (v3860)); have r7 := (i_b (v3861)); omega)); have r2 := (i_b (M 431 (v3861 : Int32).toNatClampNeg)); have r3 := (i_b (x3867)); (try have d1 : x3867.toInt = ((M 431 (v3861 : Int32).toNatClampNeg) : Int32).toInt := (congrArg Int32.toInt ex3867).trans rfl); omega)); have r5 := (i_b (p0)); have r6 := (i_b (p1)); have r7 := (i_b (v3860)); have r8 := (i_b (v3861)); omega) ex3867 (by have l0 : (2 : Int32).toInt = 2 := (by decide); have l1 : (5 : Int32).toInt = 5 := (by decide); have r0 := (i_le.mp h3868); have r1 := (congrArg Int32.toInt h3872); have r2 := (congrArg Int32.toInt h3885); have r3 := (seg_k h0.1 h0.2.2 n3865 (by have r0 := (mt i_le.mpr h3866); have r1 := (tInv_b h0.1 h0.2.2 n3865); have r2 := h0.1; have r3 := h0.2.1; have r4 := (i_b (p0)); have r5 := (i_b (p1)); have r6 := (i_b (v3860)); have r7 := (i_b (v3861)); omega)); have r4 := (i_b (M 431 (v3861 : Int32).toNatClampNeg)); have r5 := (i_b (x3867)); (try have d1 : x3867.toInt = ((M 431 (v3861 : Int32).toNatClampNeg) : Int32).toInt := (congrArg Int32.toInt ex3867).trans rfl); omega)); have r7 := (i_b (p0)); have r8 := (i_b (p1)); have r9 := (i_b (v3860)); have r10 := (i_b (v3861)); have r11 := (i_b (x3895)); have e1 : (v3861 + 1 : Int32).toInt = (v3861.toInt + 1) := i_addE rfl (by decide : (1 : Int32).toInt = 1) (by omega); have d2 : x3895.toInt = (v3861.toInt + 1) := (congrArg Int32.toInt ex3895).trans e1; omega)
            · refine g_aload_n (pc1 := 98) d_Mod_termOf_97 rfl 0 rfl ?_
              refine g_iconst (pc1 := 99) (v := 1) d_Mod_termOf_98 rfl (by decide) ?_
              refine g_putz (pc1 := 102) d_Mod_termOf_99 rfl fo_Mod_312 po_12_51_1 rfl sh_401 (by decide) ?_
              refine Wp.topM (fun M3896 eM3896 => ?_)
              refine g_iconst (pc1 := 103) (v := 0) d_Mod_termOf_102 rfl (by decide) ?_
              refine g_ireturn (Or.inl rfl) d_Mod_termOf_103 rfl ?_
              exact hQ _ _ _ (Kl.wM k3864 rfl eM3896)
        · refine g_aload_n (pc1 := 27) d_Mod_termOf_26 rfl 0 rfl ?_
          refine g_getr (pc1 := 30) d_Mod_termOf_27 rfl ⟨_, fo_Mod_119⟩ sh_401 (by decide) (rf_401_50 ld) ?_
          refine g_iload_n (pc1 := 31) d_Mod_termOf_30 rfl 3 rfl ?_
          refine g_iload (pc1 := 33) d_Mod_termOf_31 rfl 5 rfl ?_
          refine g_if_ne (pc1 := 36) (tgt := 46) d_Mod_termOf_33 (by decide) rfl (fun h3897 => ?_) (fun h3897 => ?_)
          · refine g_aload_n (pc1 := 47) d_Mod_termOf_46 rfl 0 rfl ?_
            refine g_getr (pc1 := 50) d_Mod_termOf_47 rfl ⟨_, fo_Mod_116⟩ sh_401 (by decide) (rf_401_49 ld) ?_
            refine g_aload_n (pc1 := 51) d_Mod_termOf_50 rfl 0 rfl ?_
            refine g_getr (pc1 := 54) d_Mod_termOf_51 rfl ⟨_, fo_Mod_110⟩ sh_401 (by decide) (rf_401_46 ld) ?_
            refine g_iload (pc1 := 56) d_Mod_termOf_54 rfl 4 rfl ?_
            refine g_iald (pc1 := 57) d_Mod_termOf_56 rfl sh_432 (by decide) (by have r0 := (mt i_le.mpr h3866); have r1 := (tInv_b h0.1 h0.2.2 n3865); have r2 := h0.1; have r3 := h0.2.1; have r4 := (i_b (p0)); have r5 := (i_b (p1)); have r6 := (i_b (v3860)); have r7 := (i_b (v3861)); exact vin_i (by omega) (by omega)) ?_
            refine Wp.vali (y := (M 432 (v3861 : Int32).toNatClampNeg)) (Kl.m k3864 rfl) ?_
            refine g_iald (pc1 := 58) d_Mod_termOf_57 rfl sh_434 (by decide) (by have r0 := (seg_var h0.1 h0.2.2 n3865 (by have r0 := (mt i_le.mpr h3866); have r1 := (tInv_b h0.1 h0.2.2 n3865); have r2 := h0.1; have r3 := h0.2.1; have r4 := (i_b (p0)); have r5 := (i_b (p1)); have r6 := (i_b (v3860)); have r7 := (i_b (v3861)); omega) ex3867 (by have l0 : (0 : Int32).toInt = 0 := (by decide); have l1 : (2 : Int32).toInt = 2 := (by decide); have r0 := (mt i_le.mpr h3868); have r1 := (mt Int32.toInt_inj.mp h3897); have r2 := (seg_k h0.1 h0.2.2 n3865 (by have r0 := (mt i_le.mpr h3866); have r1 := (tInv_b h0.1 h0.2.2 n3865); have r2 := h0.1; have r3 := h0.2.1; have r4 := (i_b (p0)); have r5 := (i_b (p1)); have r6 := (i_b (v3860)); have r7 := (i_b (v3861)); omega)); have r3 := (i_b (M 431 (v3861 : Int32).toNatClampNeg)); have r4 := (i_b (x3867)); (try have d1 : x3867.toInt = ((M 431 (v3861 : Int32).toNatClampNeg) : Int32).toInt := (congrArg Int32.toInt ex3867).trans rfl); omega) h3897); have r1 := (i_b (M 432 (v3861 : Int32).toNatClampNeg)); exact vin_i (by omega) (by omega)) ?_
            refine g_iast (pc1 := 59) d_Mod_termOf_58 rfl sh_435 (by decide) (by have r0 := (tInv_b h0.1 h0.2.2 n3865); have r1 := (mt i_le.mpr h3866); have r2 := h0.1; have r3 := h0.2.1; have r4 := (i_b (p0)); have r5 := (i_b (p1)); have r6 := (i_b (v3860)); have r7 := (i_b (v3861)); exact vin_i (by omega) (by omega)) ?_
            refine Wp.topM (fun M3898 eM3898 => ?_)
            obtain ⟨x3899, ex3899⟩ : ∃ y : Int32, y = v3860 + 1 := ⟨_, rfl⟩
            refine g_iinc (pc1 := 62) (v := x3899) (lv' := [(0, .ref 401), (1, .int p0), (2, .int p1), (3, .int x3899), (4, .int v3861), (5, .int x3867)]) d_Mod_termOf_59 rfl 3 rfl (by rw [ex3899]; rfl) (by decide) [1, 2, 3, 0, 4, 5] rfl ?_
            refine g_goto (tgt := 159) d_Mod_termOf_62 (by decide) ?_
            obtain ⟨x3900, ex3900⟩ : ∃ y : Int32, y = v3861 + 1 := ⟨_, rfl⟩
            refine g_iinc (pc1 := 162) (v := x3900) (lv' := [(0, .ref 401), (1, .int p0), (2, .int p1), (3, .int x3899), (4, .int x3900), (5, .int x3867)]) d_Mod_termOf_159 rfl 4 rfl (by rw [ex3900]; rfl) (by decide) [1, 2, 3, 4, 0, 5] rfl ?_
            refine g_goto (tgt := 5) d_Mod_termOf_162 (by decide) ?_
            refine Wp.loc (lv' := [(0, .ref 401), (1, .int p0), (2, .int p1), (3, .int x3899), (4, .int x3900)]) [0, 1, 2, 3, 4] rfl ?_
            exact ih3857 x3899 x3900 M3898 L3863 (Kl.wM k3864 rfl eM3898) (tInv_push h0.1 h0.2.2 n3865 (by have r0 := (mt i_le.mpr h3866); have r1 := (tInv_b h0.1 h0.2.2 n3865); have r2 := h0.1; have r3 := h0.2.1; have r4 := (i_b (p0)); have r5 := (i_b (p1)); have r6 := (i_b (v3860)); have r7 := (i_b (v3861)); omega) ex3867 (by have l0 : (0 : Int32).toInt = 0 := (by decide); have l1 : (2 : Int32).toInt = 2 := (by decide); have r0 := (mt i_le.mpr h3868); have r1 := (mt Int32.toInt_inj.mp h3897); have r2 := (seg_k h0.1 h0.2.2 n3865 (by have r0 := (mt i_le.mpr h3866); have r1 := (tInv_b h0.1 h0.2.2 n3865); have r2 := h0.1; have r3 := h0.2.1; have r4 := (i_b (p0)); have r5 := (i_b (p1)); have r6 := (i_b (v3860)); have r7 := (i_b (v3861)); omega)); have r3 := (i_b (M 431 (v3861 : Int32).toNatClampNeg)); have r4 := (i_b (x3867)); (try have d1 : x3867.toInt = ((M 431 (v3861 : Int32).toNatClampNeg) : Int32).toInt := (congrArg Int32.toInt ex3867).trans rfl); omega) ex3900 ex3899) (by have l0 : (1 : Int32).toInt = 1 := (by decide); have r0 := (mt i_le.mpr h3866); have r1 := (tInv_b h0.1 h0.2.2 n3865); have r2 := hm3858; have r3 := h0.1; have r4 := h0.2.1; have r5 := (i_b (p0)); have r6 := (i_b (p1)); have r7 := (i_b (v3860)); have r8 := (i_b (v3861)); have r9 := (i_b (x3900)); have e1 : (v3861 + 1 : Int32).toInt = (v3861.toInt + 1) := i_addE rfl (by decide : (1 : Int32).toInt = 1) (by omega); have d2 : x3900.toInt = (v3861.toInt + 1) := (congrArg Int32.toInt ex3900).trans e1; omega)
          · refine g_aload_n (pc1 := 37) d_Mod_termOf_36 rfl 0 rfl ?_
            refine g_getr (pc1 := 40) d_Mod_termOf_37 rfl ⟨_, fo_Mod_110⟩ sh_401 (by decide) (rf_401_46 ld) ?_
            refine g_iload (pc1 := 42) d_Mod_termOf_40 rfl 4 rfl ?_
            refine g_iald (pc1 := 43) d_Mod_termOf_42 rfl sh_432 (by decide) (by have r0 := (mt i_le.mpr h3866); have r1 := (tInv_b h0.1 h0.2.2 n3865); have r2 := h0.1; have r3 := h0.2.1; have r4 := (i_b (p0)); have r5 := (i_b (p1)); have r6 := (i_b (v3860)); have r7 := (i_b (v3861)); exact vin_i (by omega) (by omega)) ?_
            refine Wp.vali (y := (M 432 (v3861 : Int32).toNatClampNeg)) (Kl.m k3864 rfl) ?_
            refine g_goto (tgt := 58) d_Mod_termOf_43 (by decide) ?_
            refine g_iast (pc1 := 59) d_Mod_termOf_58 rfl sh_435 (by decide) (by have r0 := (tInv_b h0.1 h0.2.2 n3865); have r1 := (mt i_le.mpr h3866); have r2 := h0.1; have r3 := h0.2.1; have r4 := (i_b (p0)); have r5 := (i_b (p1)); have r6 := (i_b (v3860)); have r7 := (i_b (v3861)); exact vin_i (by omega) (by omega)) ?_
            refine Wp.topM (fun M3901 eM3901 => ?_)
            obtain ⟨x3902, ex3902⟩ : ∃ y : Int32, y = v3860 + 1 := ⟨_, rfl⟩
            refine g_iinc (pc1 := 62) (v := x3902) (lv' := [(0, .ref 401), (1, .int p0), (2, .int p1), (3, .int x3902), (4, .int v3861), (5, .int x3867)]) d_Mod_termOf_59 rfl 3 rfl (by rw [ex3902]; rfl) (by decide) [1, 2, 3, 0, 4, 5] rfl ?_
            refine g_goto (tgt := 159) d_Mod_termOf_62 (by decide) ?_
            obtain ⟨x3903, ex3903⟩ : ∃ y : Int32, y = v3861 + 1 := ⟨_, rfl⟩
            refine g_iinc (pc1 := 162) (v := x3903) (lv' := [(0, .ref 401), (1, .int p0), (2, .int p1), (3, .int x3902), (4, .int x3903), (5, .int x3867)]) d_Mod_termOf_159 rfl 4 rfl (by rw [ex3903]; rfl) (by decide) [1, 2, 3, 4, 0, 5] rfl ?_
            refine g_goto (tgt := 5) d_Mod_termOf_162 (by decide) ?_
            refine Wp.loc (lv' := [(0, .ref 401), (1, .int p0), (2, .int p1), (3, .int x3902), (4, .int x3903)]) [0, 1, 2, 3, 4] rfl ?_
            exact ih3857 x3902 x3903 M3901 L3863 (Kl.wM k3864 rfl eM3901) (tInv_push h0.1 h0.2.2 n3865 (by have r0 := (mt i_le.mpr h3866); have r1 := (tInv_b h0.1 h0.2.2 n3865); have r2 := h0.1; have r3 := h0.2.1; have r4 := (i_b (p0)); have r5 := (i_b (p1)); have r6 := (i_b (v3860)); have r7 := (i_b (v3861)); omega) ex3867 (by have l0 : (0 : Int32).toInt = 0 := (by decide); have l1 : (2 : Int32).toInt = 2 := (by decide); have r0 := (mt i_le.mpr h3868); have r1 := (congrArg Int32.toInt h3897); have r2 := (seg_k h0.1 h0.2.2 n3865 (by have r0 := (mt i_le.mpr h3866); have r1 := (tInv_b h0.1 h0.2.2 n3865); have r2 := h0.1; have r3 := h0.2.1; have r4 := (i_b (p0)); have r5 := (i_b (p1)); have r6 := (i_b (v3860)); have r7 := (i_b (v3861)); omega)); have r3 := (i_b (M 431 (v3861 : Int32).toNatClampNeg)); have r4 := (i_b (x3867)); (try have d1 : x3867.toInt = ((M 431 (v3861 : Int32).toNatClampNeg) : Int32).toInt := (congrArg Int32.toInt ex3867).trans rfl); omega) ex3903 ex3902) (by have l0 : (1 : Int32).toInt = 1 := (by decide); have r0 := (mt i_le.mpr h3866); have r1 := (tInv_b h0.1 h0.2.2 n3865); have r2 := hm3858; have r3 := h0.1; have r4 := h0.2.1; have r5 := (i_b (p0)); have r6 := (i_b (p1)); have r7 := (i_b (v3860)); have r8 := (i_b (v3861)); have r9 := (i_b (x3903)); have e1 : (v3861 + 1 : Int32).toInt = (v3861.toInt + 1) := i_addE rfl (by decide : (1 : Int32).toInt = 1) (by omega); have d2 : x3903.toInt = (v3861.toInt + 1) := (congrArg Int32.toInt ex3903).trans e1; omega)
  exact LP3859 _ 0 p0 M L Kl.rf (tInv_0 h0.1 h0.2.2) (Nat.lt_succ_self _)
set_option maxHeartbeats 4000000 in
set_option maxRecDepth 20000 in
theorem t2_Mod_isBetter {l : Launch} {ld : Nat} (hld : isLa ld) {M : gM} {L : gL} {Q : Option Value → gM → gL → gR → Prop} (hI : Inv M) (p0 : Int32)  (hQ : ∀ (r : Int32), (r = 0 ∨ r = 1) → Q (some (.int r)) M L (rf ld)) : Tm l y_Mod_isBetter (0, 0, 447) 447 [.ref 401, .int p0] M L (rf ld) Q := by
  refine Tm.of (by decide) (Nat.le_of_ble_eq_true rfl) ?_
  show Wp l y_Mod_isBetter (0, 0, 447) 447 0 0 0 [(0, .ref 401), (1, .int p0)] [] M L (rf ld) Q
  refine g_aload_n (pc1 := 1) d_Mod_isBetter_0 rfl 0 rfl ?_
  refine g_geti (pc1 := 4) d_Mod_isBetter_1 rfl ⟨_, fo_Mod_404⟩ sh_401 (by decide) ?_
  refine g_if_ge (pc1 := 7) (tgt := 9) d_Mod_isBetter_4 (by decide) rfl (fun h3904 => ?_) (fun h3904 => ?_)
  · refine g_aload_n (pc1 := 10) d_Mod_isBetter_9 rfl 0 rfl ?_
    refine g_callV0 (pc1 := 13) (As := []) (rest := []) d_Mod_isBetter_10 rfl mo_Mod_362 mi_Mod_potPrice mv_Mod_potPrice rfl sh_401 (by decide) (by decide) rfl rfl (Nat.le_of_ble_eq_true rfl) ?_
    refine t2_Mod_potPrice hld hI   (fun r3905 => ?_)
    refine g_aload_n (pc1 := 14) d_Mod_isBetter_13 rfl 0 rfl ?_
    refine g_geti (pc1 := 17) d_Mod_isBetter_14 rfl ⟨_, fo_Mod_407⟩ sh_401 (by decide) ?_
    refine g_icmp_eq (pc1 := 20) (tgt := 37) d_Mod_isBetter_17 (by decide) rfl (fun h3906 => ?_) (fun h3906 => ?_)
    · refine g_aload_n (pc1 := 38) d_Mod_isBetter_37 rfl 0 rfl ?_
      refine g_callV0 (pc1 := 41) (As := []) (rest := []) d_Mod_isBetter_38 rfl mo_Mod_339 mi_Mod_potMany mv_Mod_potMany rfl sh_401 (by decide) (by decide) rfl rfl (Nat.le_of_ble_eq_true rfl) ?_
      refine t2_Mod_potMany hld hI   (fun r3907 => ?_)
      refine g_aload_n (pc1 := 42) d_Mod_isBetter_41 rfl 0 rfl ?_
      refine g_geti (pc1 := 45) d_Mod_isBetter_42 rfl ⟨_, fo_Mod_410⟩ sh_401 (by decide) ?_
      refine g_icmp_eq (pc1 := 48) (tgt := 65) d_Mod_isBetter_45 (by decide) rfl (fun h3908 => ?_) (fun h3908 => ?_)
      · refine g_iload_n (pc1 := 66) d_Mod_isBetter_65 rfl 1 rfl ?_
        refine g_aload_n (pc1 := 67) d_Mod_isBetter_66 rfl 0 rfl ?_
        refine g_geti (pc1 := 70) d_Mod_isBetter_67 rfl ⟨_, fo_Mod_413⟩ sh_401 (by decide) ?_
        refine g_icmp_ge (pc1 := 73) (tgt := 77) d_Mod_isBetter_70 (by decide) rfl (fun h3909 => ?_) (fun h3909 => ?_)
        · refine g_iconst (pc1 := 78) (v := 0) d_Mod_isBetter_77 rfl (by decide) ?_
          refine g_ireturn (Or.inr ⟨rfl, rfl⟩) d_Mod_isBetter_78 rfl ?_
          exact hQ _ (Or.inl rfl)
        · refine g_iconst (pc1 := 74) (v := 1) d_Mod_isBetter_73 rfl (by decide) ?_
          refine g_goto (tgt := 78) d_Mod_isBetter_74 (by decide) ?_
          refine g_ireturn (Or.inr ⟨rfl, rfl⟩) d_Mod_isBetter_78 rfl ?_
          exact hQ _ (Or.inr rfl)
      · refine g_aload_n (pc1 := 49) d_Mod_isBetter_48 rfl 0 rfl ?_
        refine g_callV0 (pc1 := 52) (As := []) (rest := []) d_Mod_isBetter_49 rfl mo_Mod_339 mi_Mod_potMany mv_Mod_potMany rfl sh_401 (by decide) (by decide) rfl rfl (Nat.le_of_ble_eq_true rfl) ?_
        refine t2_Mod_potMany hld hI   (fun r3910 => ?_)
        refine g_aload_n (pc1 := 53) d_Mod_isBetter_52 rfl 0 rfl ?_
        refine g_geti (pc1 := 56) d_Mod_isBetter_53 rfl ⟨_, fo_Mod_410⟩ sh_401 (by decide) ?_
        refine g_icmp_ge (pc1 := 59) (tgt := 63) d_Mod_isBetter_56 (by decide) rfl (fun h3911 => ?_) (fun h3911 => ?_)
        · refine g_iconst (pc1 := 64) (v := 0) d_Mod_isBetter_63 rfl (by decide) ?_
          refine g_ireturn (Or.inr ⟨rfl, rfl⟩) d_Mod_isBetter_64 rfl ?_
          exact hQ _ (Or.inl rfl)
        · refine g_iconst (pc1 := 60) (v := 1) d_Mod_isBetter_59 rfl (by decide) ?_
          refine g_goto (tgt := 64) d_Mod_isBetter_60 (by decide) ?_
          refine g_ireturn (Or.inr ⟨rfl, rfl⟩) d_Mod_isBetter_64 rfl ?_
          exact hQ _ (Or.inr rfl)
    · refine g_aload_n (pc1 := 21) d_Mod_isBetter_20 rfl 0 rfl ?_
      refine g_callV0 (pc1 := 24) (As := []) (rest := []) d_Mod_isBetter_21 rfl mo_Mod_362 mi_Mod_potPrice mv_Mod_potPrice rfl sh_401 (by decide) (by decide) rfl rfl (Nat.le_of_ble_eq_true rfl) ?_
      refine t2_Mod_potPrice hld hI   (fun r3912 => ?_)
      refine g_aload_n (pc1 := 25) d_Mod_isBetter_24 rfl 0 rfl ?_
      refine g_geti (pc1 := 28) d_Mod_isBetter_25 rfl ⟨_, fo_Mod_407⟩ sh_401 (by decide) ?_
      refine g_icmp_ge (pc1 := 31) (tgt := 35) d_Mod_isBetter_28 (by decide) rfl (fun h3913 => ?_) (fun h3913 => ?_)
      · refine g_iconst (pc1 := 36) (v := 0) d_Mod_isBetter_35 rfl (by decide) ?_
        refine g_ireturn (Or.inr ⟨rfl, rfl⟩) d_Mod_isBetter_36 rfl ?_
        exact hQ _ (Or.inl rfl)
      · refine g_iconst (pc1 := 32) (v := 1) d_Mod_isBetter_31 rfl (by decide) ?_
        refine g_goto (tgt := 36) d_Mod_isBetter_32 (by decide) ?_
        refine g_ireturn (Or.inr ⟨rfl, rfl⟩) d_Mod_isBetter_36 rfl ?_
        exact hQ _ (Or.inr rfl)
  · refine g_iconst (pc1 := 8) (v := 1) d_Mod_isBetter_7 rfl (by decide) ?_
    refine g_ireturn (Or.inr ⟨rfl, rfl⟩) d_Mod_isBetter_8 rfl ?_
    exact hQ _ (Or.inr rfl)
set_option maxHeartbeats 4000000 in
set_option maxRecDepth 20000 in
theorem t2_Mod_isDeed {l : Launch} {ld : Nat} (hld : isLa ld) {M : gM} {L : gL} {Q : Option Value → gM → gL → gR → Prop} (hI : Inv M) (p0 : Int32)  (hQ : ∀ (r : Int32), ((r = 0 ∧ ¬ (0 ≤ (p0 : Int32).toInt ∧ (p0 : Int32).toInt < (M 420 (M 401 18).toNatClampNeg).toInt)) ∨ (r = 1 ∧ (0 ≤ (p0 : Int32).toInt ∧ (p0 : Int32).toInt < (M 420 (M 401 18).toNatClampNeg).toInt))) → Q (some (.int r)) M L (rf ld)) : Tm l y_Mod_isDeed (0, 0, 447) 447 [.ref 401, .int p0] M L (rf ld) Q := by
  refine Tm.of (by decide) (Nat.le_of_ble_eq_true rfl) ?_
  show Wp l y_Mod_isDeed (0, 0, 447) 447 0 0 0 [(0, .ref 401), (1, .int p0)] [] M L (rf ld) Q
  refine g_iload_n (pc1 := 1) d_Mod_isDeed_0 rfl 1 rfl ?_
  refine g_iconst (pc1 := 2) (v := 0) d_Mod_isDeed_1 rfl (by decide) ?_
  refine g_aload_n (pc1 := 3) d_Mod_isDeed_2 rfl 0 rfl ?_
  refine g_getr (pc1 := 6) d_Mod_isDeed_3 rfl ⟨_, fo_Mod_73⟩ sh_401 (by decide) (rf_401_32 ld) ?_
  refine g_aload_n (pc1 := 7) d_Mod_isDeed_6 rfl 0 rfl ?_
  refine g_geti (pc1 := 10) d_Mod_isDeed_7 rfl ⟨_, fo_Mod_236⟩ sh_401 (by decide) ?_
  refine g_iald (pc1 := 11) d_Mod_isDeed_10 rfl sh_420 (by decide) (by have r0 := hI.live; have r1 := (i_b (M 401 18)); exact vin_i (by omega) (by omega)) ?_
  refine g_iconst (pc1 := 12) (v := 1) d_Mod_isDeed_11 rfl (by decide) ?_
  refine g_isub (pc1 := 13) d_Mod_isDeed_12 rfl ?_
  refine g_callS0 (pc1 := 16) (As := [.int p0, .int 0, .int ((M 420 ((M 401 18) : Int32).toNatClampNeg) - 1)]) (rest := []) d_Mod_isDeed_13 rfl mo_Mod_316 ms_Mod_in (by decide) rfl rfl (Nat.le_of_ble_eq_true rfl) ?_
  refine t2_Mod_in hld _ _ _  (fun r3914 hbr3914 => ?_)
  refine g_ireturn (Or.inr ⟨rfl, nar01 (bp_01 hbr3914)⟩) d_Mod_isDeed_16 rfl ?_
  exact hQ _ (bp_iff hbr3914 (by have l0 : (0 : Int32).toInt = 0 := (by decide); have l1 : (1 : Int32).toInt = 1 := (by decide); have r0 := (hI.deeds (((M 401 18) : Int32).toNatClampNeg)); have r1 := (i_b (M 420 (M 401 18).toNatClampNeg)); have r2 := (i_b (p0)); have e1 : ((M 420 (M 401 18).toNatClampNeg) - 1 : Int32).toInt = (((M 420 (M 401 18).toNatClampNeg) : Int32).toInt - 1) := i_subE rfl (by decide : (1 : Int32).toInt = 1) (by omega); constructor <;> intro z <;> omega))
set_option maxHeartbeats 4000000 in
set_option maxRecDepth 20000 in
theorem t2_Mod_isDish {l : Launch} {ld : Nat} (hld : isLa ld) {M : gM} {L : gL} {Q : Option Value → gM → gL → gR → Prop} (hI : Inv M) (p0 : Int32)  (hQ : ∀ (r : Int32), ((r = 0 ∧ ¬ (0 ≤ (p0 : Int32).toInt ∧ (p0 : Int32).toInt < (M 415 (M 401 18).toNatClampNeg).toInt)) ∨ (r = 1 ∧ (0 ≤ (p0 : Int32).toInt ∧ (p0 : Int32).toInt < (M 415 (M 401 18).toNatClampNeg).toInt))) → Q (some (.int r)) M L (rf ld)) : Tm l y_Mod_isDish (0, 0, 447) 447 [.ref 401, .int p0] M L (rf ld) Q := by
  refine Tm.of (by decide) (Nat.le_of_ble_eq_true rfl) ?_
  show Wp l y_Mod_isDish (0, 0, 447) 447 0 0 0 [(0, .ref 401), (1, .int p0)] [] M L (rf ld) Q
  refine g_iload_n (pc1 := 1) d_Mod_isDish_0 rfl 1 rfl ?_
  refine g_iconst (pc1 := 2) (v := 0) d_Mod_isDish_1 rfl (by decide) ?_
  refine g_aload_n (pc1 := 3) d_Mod_isDish_2 rfl 0 rfl ?_
  refine g_getr (pc1 := 6) d_Mod_isDish_3 rfl ⟨_, fo_Mod_58⟩ sh_401 (by decide) (rf_401_27 ld) ?_
  refine g_aload_n (pc1 := 7) d_Mod_isDish_6 rfl 0 rfl ?_
  refine g_geti (pc1 := 10) d_Mod_isDish_7 rfl ⟨_, fo_Mod_236⟩ sh_401 (by decide) ?_
  refine g_iald (pc1 := 11) d_Mod_isDish_10 rfl sh_415 (by decide) (by have r0 := hI.live; have r1 := (i_b (M 401 18)); exact vin_i (by omega) (by omega)) ?_
  refine g_iconst (pc1 := 12) (v := 1) d_Mod_isDish_11 rfl (by decide) ?_
  refine g_isub (pc1 := 13) d_Mod_isDish_12 rfl ?_
  refine g_callS0 (pc1 := 16) (As := [.int p0, .int 0, .int ((M 415 ((M 401 18) : Int32).toNatClampNeg) - 1)]) (rest := []) d_Mod_isDish_13 rfl mo_Mod_316 ms_Mod_in (by decide) rfl rfl (Nat.le_of_ble_eq_true rfl) ?_
  refine t2_Mod_in hld _ _ _  (fun r3915 hbr3915 => ?_)
  refine g_ireturn (Or.inr ⟨rfl, nar01 (bp_01 hbr3915)⟩) d_Mod_isDish_16 rfl ?_
  exact hQ _ (bp_iff hbr3915 (by have l0 : (0 : Int32).toInt = 0 := (by decide); have l1 : (1 : Int32).toInt = 1 := (by decide); have r0 := (hI.dishes (((M 401 18) : Int32).toNatClampNeg)); have r1 := (i_b (M 415 (M 401 18).toNatClampNeg)); have r2 := (i_b (p0)); have e1 : ((M 415 (M 401 18).toNatClampNeg) - 1 : Int32).toInt = (((M 415 (M 401 18).toNatClampNeg) : Int32).toInt - 1) := i_subE rfl (by decide : (1 : Int32).toInt = 1) (by omega); constructor <;> intro z <;> omega))
set_option maxHeartbeats 4000000 in
set_option maxRecDepth 20000 in
theorem t2_Mod_isFood {l : Launch} {ld : Nat} (hld : isLa ld) {M : gM} {L : gL} {Q : Option Value → gM → gL → gR → Prop} (hI : Inv M) (p0 : Int32)  (hQ : ∀ (r : Int32), ((r = 0 ∧ ¬ (0 ≤ (p0 : Int32).toInt ∧ (p0 : Int32).toInt < (M 411 (M 401 18).toNatClampNeg).toInt)) ∨ (r = 1 ∧ (0 ≤ (p0 : Int32).toInt ∧ (p0 : Int32).toInt < (M 411 (M 401 18).toNatClampNeg).toInt))) → Q (some (.int r)) M L (rf ld)) : Tm l y_Mod_isFood (0, 0, 447) 447 [.ref 401, .int p0] M L (rf ld) Q := by
  refine Tm.of (by decide) (Nat.le_of_ble_eq_true rfl) ?_
  show Wp l y_Mod_isFood (0, 0, 447) 447 0 0 0 [(0, .ref 401), (1, .int p0)] [] M L (rf ld) Q
  refine g_iload_n (pc1 := 1) d_Mod_isFood_0 rfl 1 rfl ?_
  refine g_iconst (pc1 := 2) (v := 0) d_Mod_isFood_1 rfl (by decide) ?_
  refine g_aload_n (pc1 := 3) d_Mod_isFood_2 rfl 0 rfl ?_
  refine g_getr (pc1 := 6) d_Mod_isFood_3 rfl ⟨_, fo_Mod_46⟩ sh_401 (by decide) (rf_401_23 ld) ?_
  refine g_aload_n (pc1 := 7) d_Mod_isFood_6 rfl 0 rfl ?_
  refine g_geti (pc1 := 10) d_Mod_isFood_7 rfl ⟨_, fo_Mod_236⟩ sh_401 (by decide) ?_
  refine g_iald (pc1 := 11) d_Mod_isFood_10 rfl sh_411 (by decide) (by have r0 := hI.live; have r1 := (i_b (M 401 18)); exact vin_i (by omega) (by omega)) ?_
  refine g_iconst (pc1 := 12) (v := 1) d_Mod_isFood_11 rfl (by decide) ?_
  refine g_isub (pc1 := 13) d_Mod_isFood_12 rfl ?_
  refine g_callS0 (pc1 := 16) (As := [.int p0, .int 0, .int ((M 411 ((M 401 18) : Int32).toNatClampNeg) - 1)]) (rest := []) d_Mod_isFood_13 rfl mo_Mod_316 ms_Mod_in (by decide) rfl rfl (Nat.le_of_ble_eq_true rfl) ?_
  refine t2_Mod_in hld _ _ _  (fun r3916 hbr3916 => ?_)
  refine g_ireturn (Or.inr ⟨rfl, nar01 (bp_01 hbr3916)⟩) d_Mod_isFood_16 rfl ?_
  exact hQ _ (bp_iff hbr3916 (by have l0 : (0 : Int32).toInt = 0 := (by decide); have l1 : (1 : Int32).toInt = 1 := (by decide); have r0 := (hI.foods (((M 401 18) : Int32).toNatClampNeg)); have r1 := (i_b (M 411 (M 401 18).toNatClampNeg)); have r2 := (i_b (p0)); have e1 : ((M 411 (M 401 18).toNatClampNeg) - 1 : Int32).toInt = (((M 411 (M 401 18).toNatClampNeg) : Int32).toInt - 1) := i_subE rfl (by decide : (1 : Int32).toInt = 1) (by omega); constructor <;> intro z <;> omega))
set_option maxHeartbeats 4000000 in
set_option maxRecDepth 20000 in
theorem t2_Mod_isGuest {l : Launch} {ld : Nat} (hld : isLa ld) {M : gM} {L : gL} {Q : Option Value → gM → gL → gR → Prop} (hI : Inv M) (p0 : Int32)  (hQ : ∀ (r : Int32), ((r = 0 ∧ ¬ (0 ≤ (p0 : Int32).toInt ∧ (p0 : Int32).toInt < (M 418 (M 401 18).toNatClampNeg).toInt)) ∨ (r = 1 ∧ (0 ≤ (p0 : Int32).toInt ∧ (p0 : Int32).toInt < (M 418 (M 401 18).toNatClampNeg).toInt))) → Q (some (.int r)) M L (rf ld)) : Tm l y_Mod_isGuest (0, 0, 447) 447 [.ref 401, .int p0] M L (rf ld) Q := by
  refine Tm.of (by decide) (Nat.le_of_ble_eq_true rfl) ?_
  show Wp l y_Mod_isGuest (0, 0, 447) 447 0 0 0 [(0, .ref 401), (1, .int p0)] [] M L (rf ld) Q
  refine g_iload_n (pc1 := 1) d_Mod_isGuest_0 rfl 1 rfl ?_
  refine g_iconst (pc1 := 2) (v := 0) d_Mod_isGuest_1 rfl (by decide) ?_
  refine g_aload_n (pc1 := 3) d_Mod_isGuest_2 rfl 0 rfl ?_
  refine g_getr (pc1 := 6) d_Mod_isGuest_3 rfl ⟨_, fo_Mod_67⟩ sh_401 (by decide) (rf_401_30 ld) ?_
  refine g_aload_n (pc1 := 7) d_Mod_isGuest_6 rfl 0 rfl ?_
  refine g_geti (pc1 := 10) d_Mod_isGuest_7 rfl ⟨_, fo_Mod_236⟩ sh_401 (by decide) ?_
  refine g_iald (pc1 := 11) d_Mod_isGuest_10 rfl sh_418 (by decide) (by have r0 := hI.live; have r1 := (i_b (M 401 18)); exact vin_i (by omega) (by omega)) ?_
  refine g_iconst (pc1 := 12) (v := 1) d_Mod_isGuest_11 rfl (by decide) ?_
  refine g_isub (pc1 := 13) d_Mod_isGuest_12 rfl ?_
  refine g_callS0 (pc1 := 16) (As := [.int p0, .int 0, .int ((M 418 ((M 401 18) : Int32).toNatClampNeg) - 1)]) (rest := []) d_Mod_isGuest_13 rfl mo_Mod_316 ms_Mod_in (by decide) rfl rfl (Nat.le_of_ble_eq_true rfl) ?_
  refine t2_Mod_in hld _ _ _  (fun r3917 hbr3917 => ?_)
  refine g_ireturn (Or.inr ⟨rfl, nar01 (bp_01 hbr3917)⟩) d_Mod_isGuest_16 rfl ?_
  exact hQ _ (bp_iff hbr3917 (by have l0 : (0 : Int32).toInt = 0 := (by decide); have l1 : (1 : Int32).toInt = 1 := (by decide); have r0 := (hI.guests (((M 401 18) : Int32).toNatClampNeg)); have r1 := (i_b (M 418 (M 401 18).toNatClampNeg)); have r2 := (i_b (p0)); have e1 : ((M 418 (M 401 18).toNatClampNeg) - 1 : Int32).toInt = (((M 418 (M 401 18).toNatClampNeg) : Int32).toInt - 1) := i_subE rfl (by decide : (1 : Int32).toInt = 1) (by omega); constructor <;> intro z <;> omega))
set_option maxHeartbeats 4000000 in
set_option maxRecDepth 20000 in
theorem t2_Mod_isInStore {l : Launch} {ld : Nat} (hld : isLa ld) {M : gM} {L : gL} {Q : Option Value → gM → gL → gR → Prop} (hI : Inv M) (p0 : Int32) (h0 : 0 ≤ (p0 : Int32).toInt ∧ (p0 : Int32).toInt ≤ 4) (hQ : ∀ (r : Int32) (M' : gM) (L' : gL), (r = 0 ∨ r = 1) → Kl MS1 M L M' L' → Q (some (.int r)) M' L' (rf ld)) : Tm l y_Mod_isInStore (0, 0, 447) 447 [.ref 401, .int p0] M L (rf ld) Q := by
  refine Tm.of (by decide) (Nat.le_of_ble_eq_true rfl) ?_
  show Wp l y_Mod_isInStore (0, 0, 447) 447 0 0 0 [(0, .ref 401), (1, .int p0)] [] M L (rf ld) Q
  refine g_aload_n (pc1 := 1) d_Mod_isInStore_0 rfl 0 rfl ?_
  refine g_iload_n (pc1 := 2) d_Mod_isInStore_1 rfl 1 rfl ?_
  refine g_callV0 (pc1 := 5) (As := [.int p0]) (rest := []) d_Mod_isInStore_2 rfl mo_Mod_356 mi_Mod_fillsPot mv_Mod_fillsPot rfl sh_401 (by decide) (by decide) rfl rfl (Nat.le_of_ble_eq_true rfl) ?_
  refine t2_Mod_fillsPot hld hI _ (by have r0 := h0; have r1 := (i_b (p0)); omega) (fun  M3918 L3919 k3920 => ?_)
  refine g_iconst (pc1 := 6) (v := 0) d_Mod_isInStore_5 rfl (by decide) ?_
  refine g_istore_n (pc1 := 7) (lv' := [(0, .ref 401), (1, .int p0), (2, .int 0)]) d_Mod_isInStore_6 rfl rfl (by decide) [1, 2, 0] rfl ?_
  have LP3924 : ∀ (f3921 : Nat) (v3925 : Int32), (0 ≤ v3925.toInt) → (((M 411 ((M 401 18) : Int32).toNatClampNeg) : Int32).toInt - v3925.toInt).toNat < f3921 → Wp l y_Mod_isInStore (0, 0, 447) 447 0 0 7 [(0, .ref 401), (1, .int p0), (2, .int v3925)] [] M3918 L3919 (rf ld) Q := by
    intro f3921
    induction f3921 with
    | zero => intro v3925 _ hm3923; exact absurd hm3923 (Nat.not_lt_zero _)
    | succ f3921 ih3922 =>
      intro v3925 n3926 hm3923
      refine g_iload_n (pc1 := 8) d_Mod_isInStore_7 rfl 2 rfl ?_
      refine g_aload_n (pc1 := 9) d_Mod_isInStore_8 rfl 0 rfl ?_
      refine g_getr (pc1 := 12) d_Mod_isInStore_9 rfl ⟨_, fo_Mod_46⟩ sh_401 (by decide) (rf_401_23 ld) ?_
      refine g_aload_n (pc1 := 13) d_Mod_isInStore_12 rfl 0 rfl ?_
      refine g_geti (pc1 := 16) d_Mod_isInStore_13 rfl ⟨_, fo_Mod_236⟩ sh_401 (by decide) ?_
      refine Wp.vali (y := (M 401 18)) (Kl.m k3920 rfl) ?_
      refine g_iald (pc1 := 17) d_Mod_isInStore_16 rfl sh_411 (by decide) (by have r0 := hI.live; have r1 := (i_b (M 401 18)); exact vin_i (by omega) (by omega)) ?_
      refine Wp.vali (y := (M 411 ((M 401 18) : Int32).toNatClampNeg)) (Kl.m k3920 rfl) ?_
      refine g_icmp_ge (pc1 := 20) (tgt := 43) d_Mod_isInStore_17 (by decide) rfl (fun h3927 => ?_) (fun h3927 => ?_)
      · refine g_iconst (pc1 := 44) (v := 1) d_Mod_isInStore_43 rfl (by decide) ?_
        refine g_ireturn (Or.inr ⟨rfl, rfl⟩) d_Mod_isInStore_44 rfl ?_
        exact hQ _ _ _ (Or.inr rfl) (Kl.trans Kl.rf k3920)
      · refine g_aload_n (pc1 := 21) d_Mod_isInStore_20 rfl 0 rfl ?_
        refine g_getr (pc1 := 24) d_Mod_isInStore_21 rfl ⟨_, fo_Mod_128⟩ sh_401 (by decide) (rf_401_55 ld) ?_
        refine g_iload_n (pc1 := 25) d_Mod_isInStore_24 rfl 2 rfl ?_
        refine g_iald (pc1 := 26) d_Mod_isInStore_25 rfl sh_438 (by decide) (by have r0 := (mt i_le.mpr h3927); have r1 := n3926; have r2 := (hI.foods (((M 401 18) : Int32).toNatClampNeg)); have r3 := (i_b (M 411 (M 401 18).toNatClampNeg)); have r4 := (i_b (v3925)); exact vin_i (by omega) (by omega)) ?_
        refine g_aload_n (pc1 := 27) d_Mod_isInStore_26 rfl 0 rfl ?_
        refine g_getr (pc1 := 30) d_Mod_isInStore_27 rfl ⟨_, fo_Mod_125⟩ sh_401 (by decide) (rf_401_53 ld) ?_
        refine g_iload_n (pc1 := 31) d_Mod_isInStore_30 rfl 2 rfl ?_
        refine g_iald (pc1 := 32) d_Mod_isInStore_31 rfl sh_437 (by decide) (by have r0 := (mt i_le.mpr h3927); have r1 := n3926; have r2 := (hI.foods (((M 401 18) : Int32).toNatClampNeg)); have r3 := (i_b (M 411 (M 401 18).toNatClampNeg)); have r4 := (i_b (v3925)); exact vin_i (by omega) (by omega)) ?_
        refine g_icmp_le (pc1 := 35) (tgt := 37) d_Mod_isInStore_32 (by decide) rfl (fun h3928 => ?_) (fun h3928 => ?_)
        · obtain ⟨x3929, ex3929⟩ : ∃ y : Int32, y = v3925 + 1 := ⟨_, rfl⟩
          refine g_iinc (pc1 := 40) (v := x3929) (lv' := [(0, .ref 401), (1, .int p0), (2, .int x3929)]) d_Mod_isInStore_37 rfl 2 rfl (by rw [ex3929]; rfl) (by decide) [1, 2, 0] rfl ?_
          refine g_goto (tgt := 7) d_Mod_isInStore_40 (by decide) ?_
          exact ih3922 x3929 (by have l0 : (1 : Int32).toInt = 1 := (by decide); have r0 := (mt i_le.mpr h3927); have r1 := n3926; have r2 := (hI.foods (((M 401 18) : Int32).toNatClampNeg)); have r3 := (i_b (M 411 (M 401 18).toNatClampNeg)); have r4 := (i_b (v3925)); have r5 := (i_b (x3929)); have e1 : (v3925 + 1 : Int32).toInt = (v3925.toInt + 1) := i_addE rfl (by decide : (1 : Int32).toInt = 1) (by omega); have d2 : x3929.toInt = (v3925.toInt + 1) := (congrArg Int32.toInt ex3929).trans e1; omega) (by have l0 : (1 : Int32).toInt = 1 := (by decide); have r0 := (mt i_le.mpr h3927); have r1 := n3926; have r2 := hm3923; have r3 := (hI.foods (((M 401 18) : Int32).toNatClampNeg)); have r4 := (i_b (M 411 (M 401 18).toNatClampNeg)); have r5 := (i_b (v3925)); have r6 := (i_b (x3929)); have e1 : (v3925 + 1 : Int32).toInt = (v3925.toInt + 1) := i_addE rfl (by decide : (1 : Int32).toInt = 1) (by omega); have d2 : x3929.toInt = (v3925.toInt + 1) := (congrArg Int32.toInt ex3929).trans e1; omega)
        · refine g_iconst (pc1 := 36) (v := 0) d_Mod_isInStore_35 rfl (by decide) ?_
          refine g_ireturn (Or.inr ⟨rfl, rfl⟩) d_Mod_isInStore_36 rfl ?_
          exact hQ _ _ _ (Or.inl rfl) (Kl.trans Kl.rf k3920)
  exact LP3924 _ 0 (by decide) (Nat.lt_succ_self _)
set_option maxHeartbeats 4000000 in
set_option maxRecDepth 20000 in
theorem t2_Mod_isLong {l : Launch} {ld : Nat} (hld : isLa ld) {M : gM} {L : gL} {Q : Option Value → gM → gL → gR → Prop} (p0 : Int32)  (hQ : ∀ (r : Int32), ((r = 0 ∧ ¬ (0 ≤ (p0 : Int32).toInt ∧ (p0 : Int32).toInt ≤ 60)) ∨ (r = 1 ∧ (0 ≤ (p0 : Int32).toInt ∧ (p0 : Int32).toInt ≤ 60))) → Q (some (.int r)) M L (rf ld)) : Tm l y_Mod_isLong (0, 0, 447) 447 [.int p0] M L (rf ld) Q := by
  refine Tm.of (by decide) (Nat.le_of_ble_eq_true rfl) ?_
  show Wp l y_Mod_isLong (0, 0, 447) 447 0 0 0 [(0, .int p0)] [] M L (rf ld) Q
  refine g_iload_n (pc1 := 1) d_Mod_isLong_0 rfl 0 rfl ?_
  refine g_iconst (pc1 := 2) (v := 0) d_Mod_isLong_1 rfl (by decide) ?_
  refine g_bipush (pc1 := 4) (v := 60) d_Mod_isLong_2 rfl (by decide) ?_
  refine g_callS0 (pc1 := 7) (As := [.int p0, .int 0, .int 60]) (rest := []) d_Mod_isLong_4 rfl mo_Mod_316 ms_Mod_in (by decide) rfl rfl (Nat.le_of_ble_eq_true rfl) ?_
  refine t2_Mod_in hld _ _ _  (fun r3930 hbr3930 => ?_)
  refine g_ireturn (Or.inr ⟨rfl, nar01 (bp_01 hbr3930)⟩) d_Mod_isLong_7 rfl ?_
  exact hQ _ (bp_iff hbr3930 (by have l0 : (0 : Int32).toInt = 0 := (by decide); have l1 : (60 : Int32).toInt = 60 := (by decide); have r0 := (i_b (p0)); constructor <;> intro z <;> omega))
set_option maxHeartbeats 4000000 in
set_option maxRecDepth 20000 in
theorem t2_Mod_isPot {l : Launch} {ld : Nat} (hld : isLa ld) {M : gM} {L : gL} {Q : Option Value → gM → gL → gR → Prop} (hI : Inv M) (p0 : Int32) (h0 : 0 ≤ (p0 : Int32).toInt ∧ (p0 : Int32).toInt ≤ 117648) (hQ : ∀ (r : Int32) (M' : gM) (L' : gL), (r = 0 ∨ r = 1) → Kl MS1 M L M' L' → Q (some (.int r)) M' L' (rf ld)) : Tm l y_Mod_isPot (0, 0, 447) 447 [.ref 401, .int p0] M L (rf ld) Q := by
  refine Tm.of (by decide) (Nat.le_of_ble_eq_true rfl) ?_
  show Wp l y_Mod_isPot (0, 0, 447) 447 0 0 0 [(0, .ref 401), (1, .int p0)] [] M L (rf ld) Q
  refine g_iconst (pc1 := 1) (v := 0) d_Mod_isPot_0 rfl (by decide) ?_
  refine g_istore_n (pc1 := 2) (lv' := [(0, .ref 401), (1, .int p0), (2, .int 0)]) d_Mod_isPot_1 rfl rfl (by decide) [1, 2, 0] rfl ?_
  have LP3934 : ∀ (f3931 : Nat) (v3935 : Int32) (M3936 : gM) (L3937 : gL), Kl MS1 M L M3936 L3937 → (0 ≤ v3935.toInt) → ((6 : Int32).toInt - v3935.toInt).toNat < f3931 → Wp l y_Mod_isPot (0, 0, 447) 447 0 0 2 [(0, .ref 401), (1, .int p0), (2, .int v3935)] [] M3936 L3937 (rf ld) Q := by
    intro f3931
    induction f3931 with
    | zero => intro v3935 M3936 L3937 _ _ hm3933; exact absurd hm3933 (Nat.not_lt_zero _)
    | succ f3931 ih3932 =>
      intro v3935 M3936 L3937 k3938 n3939 hm3933
      refine g_iload_n (pc1 := 3) d_Mod_isPot_2 rfl 2 rfl ?_
      refine g_bipush (pc1 := 5) (v := 6) d_Mod_isPot_3 rfl (by decide) ?_
      refine g_icmp_ge (pc1 := 8) (tgt := 70) d_Mod_isPot_5 (by decide) rfl (fun h3940 => ?_) (fun h3940 => ?_)
      · refine g_aload_n (pc1 := 71) d_Mod_isPot_70 rfl 0 rfl ?_
        refine g_callV0 (pc1 := 74) (As := []) (rest := []) d_Mod_isPot_71 rfl mo_Mod_339 mi_Mod_potMany mv_Mod_potMany rfl sh_401 (by decide) (by decide) rfl rfl (Nat.le_of_ble_eq_true rfl) ?_
        refine t2_Mod_potMany hld (Inv.keep hI inv_MS1 k3938)   (fun r3941 => ?_)
        refine g_iconst (pc1 := 75) (v := 1) d_Mod_isPot_74 rfl (by decide) ?_
        refine g_bipush (pc1 := 77) (v := 6) d_Mod_isPot_75 rfl (by decide) ?_
        refine g_callS0 (pc1 := 80) (As := [.int r3941, .int 1, .int 6]) (rest := []) d_Mod_isPot_77 rfl mo_Mod_316 ms_Mod_in (by decide) rfl rfl (Nat.le_of_ble_eq_true rfl) ?_
        refine t2_Mod_in hld _ _ _  (fun r3942 hbr3942 => ?_)
        refine g_ireturn (Or.inr ⟨rfl, nar01 (bp_01 hbr3942)⟩) d_Mod_isPot_80 rfl ?_
        exact hQ _ _ _ (bp_01 hbr3942) k3938
      · refine g_aload_n (pc1 := 9) d_Mod_isPot_8 rfl 0 rfl ?_
        refine g_getr (pc1 := 12) d_Mod_isPot_9 rfl ⟨_, fo_Mod_128⟩ sh_401 (by decide) (rf_401_55 ld) ?_
        refine g_iload_n (pc1 := 13) d_Mod_isPot_12 rfl 2 rfl ?_
        refine g_iload_n (pc1 := 14) d_Mod_isPot_13 rfl 1 rfl ?_
        refine g_iconst (pc1 := 15) (v := 5) d_Mod_isPot_14 rfl (by decide) ?_
        refine g_iload_n (pc1 := 16) d_Mod_isPot_15 rfl 2 rfl ?_
        refine g_isub (pc1 := 17) d_Mod_isPot_16 rfl ?_
        refine g_callS0 (pc1 := 20) (As := [.int (5 - v3935)]) (rest := [.int p0, .int v3935, .ref 438]) d_Mod_isPot_17 rfl mo_Mod_401 ms_Mod_sevens (by decide) rfl rfl (Nat.le_of_ble_eq_true rfl) ?_
        refine t2_Mod_sevens hld _ (by have l0 : (5 : Int32).toInt = 5 := (by decide); have l1 : (6 : Int32).toInt = 6 := (by decide); have r0 := (mt i_le.mpr h3940); have r1 := n3939; have r2 := (i_b (v3935)); have e1 : (5 - v3935 : Int32).toInt = (5 - v3935.toInt) := i_subE (by decide : (5 : Int32).toInt = 5) rfl (by omega); omega) (fun r3943 hbr3943 => ?_)
        refine g_idiv (pc1 := 21) d_Mod_isPot_20 rfl (by have l0 : (5 : Int32).toInt = 5 := (by decide); have l1 : (6 : Int32).toInt = 6 := (by decide); have r0 := hbr3943; have r1 := (mt i_le.mpr h3940); have r2 := n3939; have r3 := (i_b (r3943)); have r4 := (i_b (v3935)); (try have e1 : (5 - v3935 : Int32).toInt = (5 - v3935.toInt) := i_subE (by decide : (5 : Int32).toInt = 5) rfl (by omega)); intro q0; have q1 := congrArg Int32.toInt q0; have q2 : (0 : Int32).toInt = 0 := (by decide); omega) ?_
        refine g_bipush (pc1 := 23) (v := 7) d_Mod_isPot_21 rfl (by decide) ?_
        refine g_irem (pc1 := 24) d_Mod_isPot_23 rfl (by decide) ?_
        refine g_iast (pc1 := 25) d_Mod_isPot_24 rfl sh_438 (by decide) (by have l0 : (5 : Int32).toInt = 5 := (by decide); have l1 : (6 : Int32).toInt = 6 := (by decide); have r0 := (mt i_le.mpr h3940); have r1 := n3939; have r2 := hbr3943; have r3 := (i_b (r3943)); have r4 := (i_b (v3935)); (try have e1 : (5 - v3935 : Int32).toInt = (5 - v3935.toInt) := i_subE (by decide : (5 : Int32).toInt = 5) rfl (by omega)); exact vin_i (by omega) (by omega)) ?_
        refine Wp.topM (fun M3944 eM3944 => ?_)
        refine g_aload_n (pc1 := 26) d_Mod_isPot_25 rfl 0 rfl ?_
        refine g_getr (pc1 := 29) d_Mod_isPot_26 rfl ⟨_, fo_Mod_128⟩ sh_401 (by decide) (rf_401_55 ld) ?_
        refine g_iload_n (pc1 := 30) d_Mod_isPot_29 rfl 2 rfl ?_
        refine g_iald (pc1 := 31) d_Mod_isPot_30 rfl sh_438 (by decide) (by have l0 : (5 : Int32).toInt = 5 := (by decide); have l1 : (6 : Int32).toInt = 6 := (by decide); have r0 := (mt i_le.mpr h3940); have r1 := n3939; have r2 := hbr3943; have r3 := (i_b (r3943)); have r4 := (i_b (v3935)); (try have e1 : (5 - v3935 : Int32).toInt = (5 - v3935.toInt) := i_subE (by decide : (5 : Int32).toInt = 5) rfl (by omega)); exact vin_i (by omega) (by omega)) ?_
        refine g_if_le (pc1 := 34) (tgt := 64) d_Mod_isPot_31 (by decide) rfl (fun h3945 => ?_) (fun h3945 => ?_)
        · obtain ⟨x3946, ex3946⟩ : ∃ y : Int32, y = v3935 + 1 := ⟨_, rfl⟩
          refine g_iinc (pc1 := 67) (v := x3946) (lv' := [(0, .ref 401), (1, .int p0), (2, .int x3946)]) d_Mod_isPot_64 rfl 2 rfl (by rw [ex3946]; rfl) (by decide) [1, 2, 0] rfl ?_
          refine g_goto (tgt := 2) d_Mod_isPot_67 (by decide) ?_
          exact ih3932 x3946 M3944 L3937 (Kl.wM k3938 rfl eM3944) (by have l0 : (1 : Int32).toInt = 1 := (by decide); have l1 : (5 : Int32).toInt = 5 := (by decide); have l2 : (6 : Int32).toInt = 6 := (by decide); have r0 := (mt i_le.mpr h3940); have r1 := n3939; have r2 := hbr3943; have r3 := (i_b (r3943)); have r4 := (i_b (v3935)); have r5 := (i_b (x3946)); (try have e1 : (5 - v3935 : Int32).toInt = (5 - v3935.toInt) := i_subE (by decide : (5 : Int32).toInt = 5) rfl (by omega)); have e2 : (v3935 + 1 : Int32).toInt = (v3935.toInt + 1) := i_addE rfl (by decide : (1 : Int32).toInt = 1) (by omega); have d3 : x3946.toInt = (v3935.toInt + 1) := (congrArg Int32.toInt ex3946).trans e2; omega) (by have l0 : (1 : Int32).toInt = 1 := (by decide); have l1 : (5 : Int32).toInt = 5 := (by decide); have l2 : (6 : Int32).toInt = 6 := (by decide); have r0 := (mt i_le.mpr h3940); have r1 := n3939; have r2 := hbr3943; have r3 := hm3933; have r4 := (i_b (r3943)); have r5 := (i_b (v3935)); have r6 := (i_b (x3946)); (try have e1 : (5 - v3935 : Int32).toInt = (5 - v3935.toInt) := i_subE (by decide : (5 : Int32).toInt = 5) rfl (by omega)); have e2 : (v3935 + 1 : Int32).toInt = (v3935.toInt + 1) := i_addE rfl (by decide : (1 : Int32).toInt = 1) (by omega); have d3 : x3946.toInt = (v3935.toInt + 1) := (congrArg Int32.toInt ex3946).trans e2; omega)
        · refine g_iload_n (pc1 := 35) d_Mod_isPot_34 rfl 2 rfl ?_
          refine g_aload_n (pc1 := 36) d_Mod_isPot_35 rfl 0 rfl ?_
          refine g_getr (pc1 := 39) d_Mod_isPot_36 rfl ⟨_, fo_Mod_46⟩ sh_401 (by decide) (rf_401_23 ld) ?_
          refine g_aload_n (pc1 := 40) d_Mod_isPot_39 rfl 0 rfl ?_
          refine g_geti (pc1 := 43) d_Mod_isPot_40 rfl ⟨_, fo_Mod_236⟩ sh_401 (by decide) ?_
          refine Wp.vali (y := (M 401 18)) ((rd_ne eM3944 (fun q => absurd q.1 (by decide))).trans (Kl.m k3938 rfl)) ?_
          refine g_iald (pc1 := 44) d_Mod_isPot_43 rfl sh_411 (by decide) (by have r0 := hI.live; have r1 := (i_b (M 401 18)); exact vin_i (by omega) (by omega)) ?_
          refine Wp.vali (y := (M 411 ((M 401 18) : Int32).toNatClampNeg)) ((rd_ne eM3944 (fun q => absurd q.1 (by decide))).trans (Kl.m k3938 rfl)) ?_
          refine g_icmp_ge (pc1 := 47) (tgt := 62) d_Mod_isPot_44 (by decide) rfl (fun h3947 => ?_) (fun h3947 => ?_)
          · refine g_iconst (pc1 := 63) (v := 0) d_Mod_isPot_62 rfl (by decide) ?_
            refine g_ireturn (Or.inr ⟨rfl, rfl⟩) d_Mod_isPot_63 rfl ?_
            exact hQ _ _ _ (Or.inl rfl) (Kl.wM k3938 rfl eM3944)
          · refine g_aload_n (pc1 := 48) d_Mod_isPot_47 rfl 0 rfl ?_
            refine g_getr (pc1 := 51) d_Mod_isPot_48 rfl ⟨_, fo_Mod_128⟩ sh_401 (by decide) (rf_401_55 ld) ?_
            refine g_iload_n (pc1 := 52) d_Mod_isPot_51 rfl 2 rfl ?_
            refine g_iald (pc1 := 53) d_Mod_isPot_52 rfl sh_438 (by decide) (by have l0 : (5 : Int32).toInt = 5 := (by decide); have l1 : (6 : Int32).toInt = 6 := (by decide); have r0 := (mt i_le.mpr h3940); have r1 := (mt i_le.mpr h3947); have r2 := n3939; have r3 := hbr3943; have r4 := (hI.foods (((M 401 18) : Int32).toNatClampNeg)); have r5 := (i_b (M 411 (M 401 18).toNatClampNeg)); have r6 := (i_b (r3943)); have r7 := (i_b (v3935)); (try have e1 : (5 - v3935 : Int32).toInt = (5 - v3935.toInt) := i_subE (by decide : (5 : Int32).toInt = 5) rfl (by omega)); exact vin_i (by omega) (by omega)) ?_
            refine g_aload_n (pc1 := 54) d_Mod_isPot_53 rfl 0 rfl ?_
            refine g_getr (pc1 := 57) d_Mod_isPot_54 rfl ⟨_, fo_Mod_125⟩ sh_401 (by decide) (rf_401_53 ld) ?_
            refine g_iload_n (pc1 := 58) d_Mod_isPot_57 rfl 2 rfl ?_
            refine g_iald (pc1 := 59) d_Mod_isPot_58 rfl sh_437 (by decide) (by have l0 : (5 : Int32).toInt = 5 := (by decide); have l1 : (6 : Int32).toInt = 6 := (by decide); have r0 := (mt i_le.mpr h3940); have r1 := (mt i_le.mpr h3947); have r2 := n3939; have r3 := hbr3943; have r4 := (hI.foods (((M 401 18) : Int32).toNatClampNeg)); have r5 := (i_b (M 411 (M 401 18).toNatClampNeg)); have r6 := (i_b (r3943)); have r7 := (i_b (v3935)); (try have e1 : (5 - v3935 : Int32).toInt = (5 - v3935.toInt) := i_subE (by decide : (5 : Int32).toInt = 5) rfl (by omega)); exact vin_i (by omega) (by omega)) ?_
            refine Wp.vali (y := (M3936 437 (v3935 : Int32).toNatClampNeg)) (rd_ne eM3944 (fun q => absurd q.1 (by decide))) ?_
            refine g_icmp_le (pc1 := 62) (tgt := 64) d_Mod_isPot_59 (by decide) rfl (fun h3948 => ?_) (fun h3948 => ?_)
            · obtain ⟨x3949, ex3949⟩ : ∃ y : Int32, y = v3935 + 1 := ⟨_, rfl⟩
              refine g_iinc (pc1 := 67) (v := x3949) (lv' := [(0, .ref 401), (1, .int p0), (2, .int x3949)]) d_Mod_isPot_64 rfl 2 rfl (by rw [ex3949]; rfl) (by decide) [1, 2, 0] rfl ?_
              refine g_goto (tgt := 2) d_Mod_isPot_67 (by decide) ?_
              exact ih3932 x3949 M3944 L3937 (Kl.wM k3938 rfl eM3944) (by have l0 : (1 : Int32).toInt = 1 := (by decide); have l1 : (5 : Int32).toInt = 5 := (by decide); have l2 : (6 : Int32).toInt = 6 := (by decide); have r0 := (mt i_le.mpr h3940); have r1 := (mt i_le.mpr h3947); have r2 := n3939; have r3 := hbr3943; have r4 := (hI.foods (((M 401 18) : Int32).toNatClampNeg)); have r5 := (i_b (M 411 (M 401 18).toNatClampNeg)); have r6 := (i_b (r3943)); have r7 := (i_b (v3935)); have r8 := (i_b (x3949)); (try have e1 : (5 - v3935 : Int32).toInt = (5 - v3935.toInt) := i_subE (by decide : (5 : Int32).toInt = 5) rfl (by omega)); have e2 : (v3935 + 1 : Int32).toInt = (v3935.toInt + 1) := i_addE rfl (by decide : (1 : Int32).toInt = 1) (by omega); have d3 : x3949.toInt = (v3935.toInt + 1) := (congrArg Int32.toInt ex3949).trans e2; omega) (by have l0 : (1 : Int32).toInt = 1 := (by decide); have l1 : (5 : Int32).toInt = 5 := (by decide); have l2 : (6 : Int32).toInt = 6 := (by decide); have r0 := (mt i_le.mpr h3940); have r1 := (mt i_le.mpr h3947); have r2 := n3939; have r3 := hbr3943; have r4 := hm3933; have r5 := (hI.foods (((M 401 18) : Int32).toNatClampNeg)); have r6 := (i_b (M 411 (M 401 18).toNatClampNeg)); have r7 := (i_b (r3943)); have r8 := (i_b (v3935)); have r9 := (i_b (x3949)); (try have e1 : (5 - v3935 : Int32).toInt = (5 - v3935.toInt) := i_subE (by decide : (5 : Int32).toInt = 5) rfl (by omega)); have e2 : (v3935 + 1 : Int32).toInt = (v3935.toInt + 1) := i_addE rfl (by decide : (1 : Int32).toInt = 1) (by omega); have d3 : x3949.toInt = (v3935.toInt + 1) := (congrArg Int32.toInt ex3949).trans e2; omega)
            · refine g_iconst (pc1 := 63) (v := 0) d_Mod_isPot_62 rfl (by decide) ?_
              refine g_ireturn (Or.inr ⟨rfl, rfl⟩) d_Mod_isPot_63 rfl ?_
              exact hQ _ _ _ (Or.inl rfl) (Kl.wM k3938 rfl eM3944)
  exact LP3934 _ 0 M L Kl.rf (by decide) (Nat.lt_succ_self _)
set_option maxHeartbeats 4000000 in
set_option maxRecDepth 20000 in
theorem t2_Mod_lawTells {l : Launch} {ld : Nat} (hld : isLa ld) {M : gM} {L : gL} {Q : Option Value → gM → gL → gR → Prop} (hI : Inv M) (p0 : Int32) (h0 : 0 ≤ (p0 : Int32).toInt ∧ (p0 : Int32).toInt < 8 ∧ lawOk M (p0 : Int32).toNatClampNeg) (hQ : ∀ (r : Int32) (M' : gM) (L' : gL), Kl MS0 M L M' L' → Q (some (.int r)) M' L' (rf ld)) : Tm l y_Mod_lawTells (0, 0, 447) 447 [.ref 401, .int p0] M L (rf ld) Q := by
  refine Tm.of (by decide) (Nat.le_of_ble_eq_true rfl) ?_
  show Wp l y_Mod_lawTells (0, 0, 447) 447 0 0 0 [(0, .ref 401), (1, .int p0)] [] M L (rf ld) Q
  refine g_aload_n (pc1 := 1) d_Mod_lawTells_0 rfl 0 rfl ?_
  refine g_iconst (pc1 := 2) (v := 0) d_Mod_lawTells_1 rfl (by decide) ?_
  refine g_putz (pc1 := 5) d_Mod_lawTells_2 rfl fo_Mod_312 po_12_51_0 rfl sh_401 (by decide) ?_
  refine Wp.topM (fun M3950 eM3950 => ?_)
  refine g_aload_n (pc1 := 6) d_Mod_lawTells_5 rfl 0 rfl ?_
  refine g_getr (pc1 := 9) d_Mod_lawTells_6 rfl ⟨_, fo_Mod_85⟩ sh_401 (by decide) (rf_401_36 ld) ?_
  refine g_iload_n (pc1 := 10) d_Mod_lawTells_9 rfl 1 rfl ?_
  refine g_iald (pc1 := 11) d_Mod_lawTells_10 rfl sh_424 (by decide) (by have r0 := h0.1; have r1 := h0.2.1; have r2 := (i_b (p0)); exact vin_i (by omega) (by omega)) ?_
  refine Wp.vali (y := (M 424 (p0 : Int32).toNatClampNeg)) (rd_ne eM3950 (fun q => absurd q.1 (by decide))) ?_
  refine Wp.topi (fun x3951 ex3951 => ?_)
  refine g_istore_n (pc1 := 12) (lv' := [(0, .ref 401), (1, .int p0), (2, .int x3951)]) d_Mod_lawTells_11 rfl rfl (by decide) [1, 2, 0] rfl ?_
  have LP3955 : ∀ (f3952 : Nat) (v3956 : Int32) (M3957 : gM) (L3958 : gL), Kl MS0 M L M3957 L3958 → ((M 424 (p0 : Int32).toNatClampNeg).toInt ≤ v3956.toInt) → ((M 425 (p0 : Int32).toNatClampNeg).toInt - v3956.toInt).toNat < f3952 → Wp l y_Mod_lawTells (0, 0, 447) 447 0 0 12 [(0, .ref 401), (1, .int p0), (2, .int v3956)] [] M3957 L3958 (rf ld) Q := by
    intro f3952
    induction f3952 with
    | zero => intro v3956 M3957 L3958 _ _ hm3954; exact absurd hm3954 (Nat.not_lt_zero _)
    | succ f3952 ih3953 =>
      intro v3956 M3957 L3958 k3959 n3960 hm3954
      refine g_iload_n (pc1 := 13) d_Mod_lawTells_12 rfl 2 rfl ?_
      refine g_aload_n (pc1 := 14) d_Mod_lawTells_13 rfl 0 rfl ?_
      refine g_getr (pc1 := 17) d_Mod_lawTells_14 rfl ⟨_, fo_Mod_88⟩ sh_401 (by decide) (rf_401_37 ld) ?_
      refine g_iload_n (pc1 := 18) d_Mod_lawTells_17 rfl 1 rfl ?_
      refine g_iald (pc1 := 19) d_Mod_lawTells_18 rfl sh_425 (by decide) (by have r0 := h0.1; have r1 := h0.2.1; have r2 := (i_b (p0)); exact vin_i (by omega) (by omega)) ?_
      refine Wp.vali (y := (M 425 (p0 : Int32).toNatClampNeg)) (Kl.m k3959 rfl) ?_
      refine g_icmp_ge (pc1 := 22) (tgt := 120) d_Mod_lawTells_19 (by decide) rfl (fun h3961 => ?_) (fun h3961 => ?_)
      · refine g_iconst (pc1 := 121) (v := 0) d_Mod_lawTells_120 rfl (by decide) ?_
        refine g_ireturn (Or.inl rfl) d_Mod_lawTells_121 rfl ?_
        exact hQ _ _ _ k3959
      · refine g_aload_n (pc1 := 23) d_Mod_lawTells_22 rfl 0 rfl ?_
        refine g_getr (pc1 := 26) d_Mod_lawTells_23 rfl ⟨_, fo_Mod_91⟩ sh_401 (by decide) (rf_401_39 ld) ?_
        refine g_iload_n (pc1 := 27) d_Mod_lawTells_26 rfl 2 rfl ?_
        refine g_zald (pc1 := 28) d_Mod_lawTells_27 rfl sh_426 (by decide) (by have r0 := (mt i_le.mpr h3961); have r1 := n3960; have r2 := h0.2.2.1; have r3 := h0.2.2.2.1; have r4 := (i_b (M 424 (p0 : Int32).toNatClampNeg)); have r5 := (i_b (M 425 (p0 : Int32).toNatClampNeg)); have r6 := (i_b (v3956)); exact vin_i (by omega) (by omega)) ?_
        refine Wp.vali (y := (M 426 (v3956 : Int32).toNatClampNeg)) (Kl.m k3959 rfl) ?_
        refine g_if_eq (pc1 := 31) (tgt := 84) d_Mod_lawTells_28 (by decide) rfl (fun h3962 => ?_) (fun h3962 => ?_)
        · refine g_aload_n (pc1 := 85) d_Mod_lawTells_84 rfl 0 rfl ?_
          refine g_aload_n (pc1 := 86) d_Mod_lawTells_85 rfl 0 rfl ?_
          refine g_getr (pc1 := 89) d_Mod_lawTells_86 rfl ⟨_, fo_Mod_101⟩ sh_401 (by decide) (rf_401_42 ld) ?_
          refine g_iload_n (pc1 := 90) d_Mod_lawTells_89 rfl 2 rfl ?_
          refine g_iald (pc1 := 91) d_Mod_lawTells_90 rfl sh_429 (by decide) (by have r0 := (mt i_le.mpr h3961); have r1 := n3960; have r2 := h0.2.2.1; have r3 := h0.2.2.2.1; have r4 := (i_b (M 424 (p0 : Int32).toNatClampNeg)); have r5 := (i_b (M 425 (p0 : Int32).toNatClampNeg)); have r6 := (i_b (v3956)); exact vin_i (by omega) (by omega)) ?_
          refine Wp.vali (y := (M 429 (v3956 : Int32).toNatClampNeg)) (Kl.m k3959 rfl) ?_
          refine g_aload_n (pc1 := 92) d_Mod_lawTells_91 rfl 0 rfl ?_
          refine g_getr (pc1 := 95) d_Mod_lawTells_92 rfl ⟨_, fo_Mod_104⟩ sh_401 (by decide) (rf_401_43 ld) ?_
          refine g_iload_n (pc1 := 96) d_Mod_lawTells_95 rfl 2 rfl ?_
          refine g_iald (pc1 := 97) d_Mod_lawTells_96 rfl sh_430 (by decide) (by have r0 := (mt i_le.mpr h3961); have r1 := n3960; have r2 := h0.2.2.1; have r3 := h0.2.2.2.1; have r4 := (i_b (M 424 (p0 : Int32).toNatClampNeg)); have r5 := (i_b (M 425 (p0 : Int32).toNatClampNeg)); have r6 := (i_b (v3956)); exact vin_i (by omega) (by omega)) ?_
          refine Wp.vali (y := (M 430 (v3956 : Int32).toNatClampNeg)) (Kl.m k3959 rfl) ?_
          refine g_callV0 (pc1 := 100) (As := [.int (M 429 (v3956 : Int32).toNatClampNeg), .int (M 430 (v3956 : Int32).toNatClampNeg)]) (rest := []) d_Mod_lawTells_97 rfl mo_Mod_333 mi_Mod_termOf mv_Mod_termOf rfl sh_401 (by decide) (by decide) rfl rfl (Nat.le_of_ble_eq_true rfl) ?_
          refine t2_Mod_termOf hld _ _ ⟨(lawOk.at h0.2.2 (v := v3956) (by have r0 := (mt i_le.mpr h3961); have r1 := n3960; have r2 := h0.2.2.1; have r3 := h0.2.2.2.1; have r4 := (i_b (M 424 (p0 : Int32).toNatClampNeg)); have r5 := (i_b (M 425 (p0 : Int32).toNatClampNeg)); have r6 := (i_b (v3956)); omega) n3960 (by have r0 := (mt i_le.mpr h3961); have r1 := n3960; have r2 := h0.2.2.1; have r3 := h0.2.2.2.1; have r4 := (i_b (M 424 (p0 : Int32).toNatClampNeg)); have r5 := (i_b (M 425 (p0 : Int32).toNatClampNeg)); have r6 := (i_b (v3956)); omega)).2.1, (lawOk.at h0.2.2 (v := v3956) (by have r0 := (mt i_le.mpr h3961); have r1 := n3960; have r2 := h0.2.2.1; have r3 := h0.2.2.2.1; have r4 := (i_b (M 424 (p0 : Int32).toNatClampNeg)); have r5 := (i_b (M 425 (p0 : Int32).toNatClampNeg)); have r6 := (i_b (v3956)); omega) n3960 (by have r0 := (mt i_le.mpr h3961); have r1 := n3960; have r2 := h0.2.2.1; have r3 := h0.2.2.2.1; have r4 := (i_b (M 424 (p0 : Int32).toNatClampNeg)); have r5 := (i_b (M 425 (p0 : Int32).toNatClampNeg)); have r6 := (i_b (v3956)); omega)).2.2.2.1, (segOk.keep (fun c j hc => Kl.m k3959 (inv_MS0 c j hc)) (lawOk.at h0.2.2 (v := v3956) (by have r0 := (mt i_le.mpr h3961); have r1 := n3960; have r2 := h0.2.2.1; have r3 := h0.2.2.2.1; have r4 := (i_b (M 424 (p0 : Int32).toNatClampNeg)); have r5 := (i_b (M 425 (p0 : Int32).toNatClampNeg)); have r6 := (i_b (v3956)); omega) n3960 (by have r0 := (mt i_le.mpr h3961); have r1 := n3960; have r2 := h0.2.2.1; have r3 := h0.2.2.2.1; have r4 := (i_b (M 424 (p0 : Int32).toNatClampNeg)); have r5 := (i_b (M 425 (p0 : Int32).toNatClampNeg)); have r6 := (i_b (v3956)); omega)).2.2.2.2)⟩ (fun r3963 M3964 L3965 k3966 => ?_)
          refine g_istore_n (pc1 := 101) (lv' := [(0, .ref 401), (1, .int p0), (2, .int v3956), (3, .int r3963)]) d_Mod_lawTells_100 rfl rfl (by decide) [1, 2, 3, 0] rfl ?_
          refine g_aload_n (pc1 := 102) d_Mod_lawTells_101 rfl 0 rfl ?_
          refine g_getz (pc1 := 105) d_Mod_lawTells_102 rfl ⟨_, fo_Mod_312⟩ sh_401 (by decide) ?_
          refine g_if_eq (pc1 := 108) (tgt := 112) d_Mod_lawTells_105 (by decide) rfl (fun h3967 => ?_) (fun h3967 => ?_)
          · refine g_iload_n (pc1 := 113) d_Mod_lawTells_112 rfl 3 rfl ?_
            refine g_ireturn (Or.inl rfl) d_Mod_lawTells_113 rfl ?_
            exact hQ _ _ _ (Kl.trans k3959 k3966)
          · refine g_iconst (pc1 := 109) (v := 0) d_Mod_lawTells_108 rfl (by decide) ?_
            refine g_goto (tgt := 113) d_Mod_lawTells_109 (by decide) ?_
            refine g_ireturn (Or.inl rfl) d_Mod_lawTells_113 rfl ?_
            exact hQ _ _ _ (Kl.trans k3959 k3966)
        · refine g_aload_n (pc1 := 32) d_Mod_lawTells_31 rfl 0 rfl ?_
          refine g_aload_n (pc1 := 33) d_Mod_lawTells_32 rfl 0 rfl ?_
          refine g_getr (pc1 := 36) d_Mod_lawTells_33 rfl ⟨_, fo_Mod_95⟩ sh_401 (by decide) (rf_401_40 ld) ?_
          refine g_iload_n (pc1 := 37) d_Mod_lawTells_36 rfl 2 rfl ?_
          refine g_iald (pc1 := 38) d_Mod_lawTells_37 rfl sh_427 (by decide) (by have r0 := (mt i_le.mpr h3961); have r1 := n3960; have r2 := h0.2.2.1; have r3 := h0.2.2.2.1; have r4 := (i_b (M 424 (p0 : Int32).toNatClampNeg)); have r5 := (i_b (M 425 (p0 : Int32).toNatClampNeg)); have r6 := (i_b (v3956)); exact vin_i (by omega) (by omega)) ?_
          refine Wp.vali (y := (M 427 (v3956 : Int32).toNatClampNeg)) (Kl.m k3959 rfl) ?_
          refine g_aload_n (pc1 := 39) d_Mod_lawTells_38 rfl 0 rfl ?_
          refine g_getr (pc1 := 42) d_Mod_lawTells_39 rfl ⟨_, fo_Mod_98⟩ sh_401 (by decide) (rf_401_41 ld) ?_
          refine g_iload_n (pc1 := 43) d_Mod_lawTells_42 rfl 2 rfl ?_
          refine g_iald (pc1 := 44) d_Mod_lawTells_43 rfl sh_428 (by decide) (by have r0 := (mt i_le.mpr h3961); have r1 := n3960; have r2 := h0.2.2.1; have r3 := h0.2.2.2.1; have r4 := (i_b (M 424 (p0 : Int32).toNatClampNeg)); have r5 := (i_b (M 425 (p0 : Int32).toNatClampNeg)); have r6 := (i_b (v3956)); exact vin_i (by omega) (by omega)) ?_
          refine Wp.vali (y := (M 428 (v3956 : Int32).toNatClampNeg)) (Kl.m k3959 rfl) ?_
          refine g_callV0 (pc1 := 47) (As := [.int (M 427 (v3956 : Int32).toNatClampNeg), .int (M 428 (v3956 : Int32).toNatClampNeg)]) (rest := []) d_Mod_lawTells_44 rfl mo_Mod_333 mi_Mod_termOf mv_Mod_termOf rfl sh_401 (by decide) (by decide) rfl rfl (Nat.le_of_ble_eq_true rfl) ?_
          refine t2_Mod_termOf hld _ _ ⟨(lawOk.at h0.2.2 (v := v3956) (by have r0 := (mt i_le.mpr h3961); have r1 := n3960; have r2 := h0.2.2.1; have r3 := h0.2.2.2.1; have r4 := (i_b (M 424 (p0 : Int32).toNatClampNeg)); have r5 := (i_b (M 425 (p0 : Int32).toNatClampNeg)); have r6 := (i_b (v3956)); omega) n3960 (by have r0 := (mt i_le.mpr h3961); have r1 := n3960; have r2 := h0.2.2.1; have r3 := h0.2.2.2.1; have r4 := (i_b (M 424 (p0 : Int32).toNatClampNeg)); have r5 := (i_b (M 425 (p0 : Int32).toNatClampNeg)); have r6 := (i_b (v3956)); omega)).1, ((lawOk.at h0.2.2 (v := v3956) (by have r0 := (mt i_le.mpr h3961); have r1 := n3960; have r2 := h0.2.2.1; have r3 := h0.2.2.2.1; have r4 := (i_b (M 424 (p0 : Int32).toNatClampNeg)); have r5 := (i_b (M 425 (p0 : Int32).toNatClampNeg)); have r6 := (i_b (v3956)); omega) n3960 (by have r0 := (mt i_le.mpr h3961); have r1 := n3960; have r2 := h0.2.2.1; have r3 := h0.2.2.2.1; have r4 := (i_b (M 424 (p0 : Int32).toNatClampNeg)); have r5 := (i_b (M 425 (p0 : Int32).toNatClampNeg)); have r6 := (i_b (v3956)); omega)).2.2.1 h3962).1, (segOk.keep (fun c j hc => Kl.m k3959 (inv_MS0 c j hc)) ((lawOk.at h0.2.2 (v := v3956) (by have r0 := (mt i_le.mpr h3961); have r1 := n3960; have r2 := h0.2.2.1; have r3 := h0.2.2.2.1; have r4 := (i_b (M 424 (p0 : Int32).toNatClampNeg)); have r5 := (i_b (M 425 (p0 : Int32).toNatClampNeg)); have r6 := (i_b (v3956)); omega) n3960 (by have r0 := (mt i_le.mpr h3961); have r1 := n3960; have r2 := h0.2.2.1; have r3 := h0.2.2.2.1; have r4 := (i_b (M 424 (p0 : Int32).toNatClampNeg)); have r5 := (i_b (M 425 (p0 : Int32).toNatClampNeg)); have r6 := (i_b (v3956)); omega)).2.2.1 h3962).2.1)⟩ (fun r3968 M3969 L3970 k3971 => ?_)
          refine g_istore_n (pc1 := 48) (lv' := [(0, .ref 401), (1, .int p0), (2, .int v3956), (3, .int r3968)]) d_Mod_lawTells_47 rfl rfl (by decide) [1, 2, 3, 0] rfl ?_
          refine g_aload_n (pc1 := 49) d_Mod_lawTells_48 rfl 0 rfl ?_
          refine g_aload_n (pc1 := 50) d_Mod_lawTells_49 rfl 0 rfl ?_
          refine g_getr (pc1 := 53) d_Mod_lawTells_50 rfl ⟨_, fo_Mod_98⟩ sh_401 (by decide) (rf_401_41 ld) ?_
          refine g_iload_n (pc1 := 54) d_Mod_lawTells_53 rfl 2 rfl ?_
          refine g_iald (pc1 := 55) d_Mod_lawTells_54 rfl sh_428 (by decide) (by have r0 := (mt i_le.mpr h3961); have r1 := n3960; have r2 := h0.2.2.1; have r3 := h0.2.2.2.1; have r4 := (i_b (M 424 (p0 : Int32).toNatClampNeg)); have r5 := (i_b (M 425 (p0 : Int32).toNatClampNeg)); have r6 := (i_b (v3956)); exact vin_i (by omega) (by omega)) ?_
          refine Wp.vali (y := (M 428 (v3956 : Int32).toNatClampNeg)) ((Kl.m k3971 rfl).trans (Kl.m k3959 rfl)) ?_
          refine g_aload_n (pc1 := 56) d_Mod_lawTells_55 rfl 0 rfl ?_
          refine g_getr (pc1 := 59) d_Mod_lawTells_56 rfl ⟨_, fo_Mod_101⟩ sh_401 (by decide) (rf_401_42 ld) ?_
          refine g_iload_n (pc1 := 60) d_Mod_lawTells_59 rfl 2 rfl ?_
          refine g_iald (pc1 := 61) d_Mod_lawTells_60 rfl sh_429 (by decide) (by have r0 := (mt i_le.mpr h3961); have r1 := n3960; have r2 := h0.2.2.1; have r3 := h0.2.2.2.1; have r4 := (i_b (M 424 (p0 : Int32).toNatClampNeg)); have r5 := (i_b (M 425 (p0 : Int32).toNatClampNeg)); have r6 := (i_b (v3956)); exact vin_i (by omega) (by omega)) ?_
          refine Wp.vali (y := (M 429 (v3956 : Int32).toNatClampNeg)) ((Kl.m k3971 rfl).trans (Kl.m k3959 rfl)) ?_
          refine g_callV0 (pc1 := 64) (As := [.int (M 428 (v3956 : Int32).toNatClampNeg), .int (M 429 (v3956 : Int32).toNatClampNeg)]) (rest := []) d_Mod_lawTells_61 rfl mo_Mod_333 mi_Mod_termOf mv_Mod_termOf rfl sh_401 (by decide) (by decide) rfl rfl (Nat.le_of_ble_eq_true rfl) ?_
          refine t2_Mod_termOf hld _ _ ⟨((lawOk.at h0.2.2 (v := v3956) (by have r0 := (mt i_le.mpr h3961); have r1 := n3960; have r2 := h0.2.2.1; have r3 := h0.2.2.2.1; have r4 := (i_b (M 424 (p0 : Int32).toNatClampNeg)); have r5 := (i_b (M 425 (p0 : Int32).toNatClampNeg)); have r6 := (i_b (v3956)); omega) n3960 (by have r0 := (mt i_le.mpr h3961); have r1 := n3960; have r2 := h0.2.2.1; have r3 := h0.2.2.2.1; have r4 := (i_b (M 424 (p0 : Int32).toNatClampNeg)); have r5 := (i_b (M 425 (p0 : Int32).toNatClampNeg)); have r6 := (i_b (v3956)); omega)).2.2.1 h3962).1, (lawOk.at h0.2.2 (v := v3956) (by have r0 := (mt i_le.mpr h3961); have r1 := n3960; have r2 := h0.2.2.1; have r3 := h0.2.2.2.1; have r4 := (i_b (M 424 (p0 : Int32).toNatClampNeg)); have r5 := (i_b (M 425 (p0 : Int32).toNatClampNeg)); have r6 := (i_b (v3956)); omega) n3960 (by have r0 := (mt i_le.mpr h3961); have r1 := n3960; have r2 := h0.2.2.1; have r3 := h0.2.2.2.1; have r4 := (i_b (M 424 (p0 : Int32).toNatClampNeg)); have r5 := (i_b (M 425 (p0 : Int32).toNatClampNeg)); have r6 := (i_b (v3956)); omega)).2.1, (segOk.keep (fun c j hc => Kl.m (Kl.trans k3959 k3971) (inv_MS0 c j hc)) ((lawOk.at h0.2.2 (v := v3956) (by have r0 := (mt i_le.mpr h3961); have r1 := n3960; have r2 := h0.2.2.1; have r3 := h0.2.2.2.1; have r4 := (i_b (M 424 (p0 : Int32).toNatClampNeg)); have r5 := (i_b (M 425 (p0 : Int32).toNatClampNeg)); have r6 := (i_b (v3956)); omega) n3960 (by have r0 := (mt i_le.mpr h3961); have r1 := n3960; have r2 := h0.2.2.1; have r3 := h0.2.2.2.1; have r4 := (i_b (M 424 (p0 : Int32).toNatClampNeg)); have r5 := (i_b (M 425 (p0 : Int32).toNatClampNeg)); have r6 := (i_b (v3956)); omega)).2.2.1 h3962).2.2)⟩ (fun r3972 M3973 L3974 k3975 => ?_)
          refine g_istore (pc1 := 66) (lv' := [(0, .ref 401), (1, .int p0), (2, .int v3956), (3, .int r3968), (4, .int r3972)]) d_Mod_lawTells_64 rfl (by decide) [1, 2, 3, 4, 0] rfl ?_
          refine g_aload_n (pc1 := 67) d_Mod_lawTells_66 rfl 0 rfl ?_
          refine g_getz (pc1 := 70) d_Mod_lawTells_67 rfl ⟨_, fo_Mod_312⟩ sh_401 (by decide) ?_
          refine g_if_eq (pc1 := 73) (tgt := 75) d_Mod_lawTells_70 (by decide) rfl (fun h3976 => ?_) (fun h3976 => ?_)
          · refine g_iload_n (pc1 := 76) d_Mod_lawTells_75 rfl 3 rfl ?_
            refine g_iload (pc1 := 78) d_Mod_lawTells_76 rfl 4 rfl ?_
            refine g_icmp_lt (pc1 := 81) (tgt := 84) d_Mod_lawTells_78 (by decide) rfl (fun h3977 => ?_) (fun h3977 => ?_)
            · refine g_aload_n (pc1 := 85) d_Mod_lawTells_84 rfl 0 rfl ?_
              refine g_aload_n (pc1 := 86) d_Mod_lawTells_85 rfl 0 rfl ?_
              refine g_getr (pc1 := 89) d_Mod_lawTells_86 rfl ⟨_, fo_Mod_101⟩ sh_401 (by decide) (rf_401_42 ld) ?_
              refine g_iload_n (pc1 := 90) d_Mod_lawTells_89 rfl 2 rfl ?_
              refine g_iald (pc1 := 91) d_Mod_lawTells_90 rfl sh_429 (by decide) (by have r0 := (mt i_le.mpr h3961); have r1 := n3960; have r2 := h0.2.2.1; have r3 := h0.2.2.2.1; have r4 := (i_b (M 424 (p0 : Int32).toNatClampNeg)); have r5 := (i_b (M 425 (p0 : Int32).toNatClampNeg)); have r6 := (i_b (v3956)); exact vin_i (by omega) (by omega)) ?_
              refine Wp.vali (y := (M 429 (v3956 : Int32).toNatClampNeg)) (((Kl.m k3975 rfl).trans (Kl.m k3971 rfl)).trans (Kl.m k3959 rfl)) ?_
              refine g_aload_n (pc1 := 92) d_Mod_lawTells_91 rfl 0 rfl ?_
              refine g_getr (pc1 := 95) d_Mod_lawTells_92 rfl ⟨_, fo_Mod_104⟩ sh_401 (by decide) (rf_401_43 ld) ?_
              refine g_iload_n (pc1 := 96) d_Mod_lawTells_95 rfl 2 rfl ?_
              refine g_iald (pc1 := 97) d_Mod_lawTells_96 rfl sh_430 (by decide) (by have r0 := (mt i_le.mpr h3961); have r1 := n3960; have r2 := h0.2.2.1; have r3 := h0.2.2.2.1; have r4 := (i_b (M 424 (p0 : Int32).toNatClampNeg)); have r5 := (i_b (M 425 (p0 : Int32).toNatClampNeg)); have r6 := (i_b (v3956)); exact vin_i (by omega) (by omega)) ?_
              refine Wp.vali (y := (M 430 (v3956 : Int32).toNatClampNeg)) (((Kl.m k3975 rfl).trans (Kl.m k3971 rfl)).trans (Kl.m k3959 rfl)) ?_
              refine g_callV0 (pc1 := 100) (As := [.int (M 429 (v3956 : Int32).toNatClampNeg), .int (M 430 (v3956 : Int32).toNatClampNeg)]) (rest := []) d_Mod_lawTells_97 rfl mo_Mod_333 mi_Mod_termOf mv_Mod_termOf rfl sh_401 (by decide) (by decide) rfl rfl (Nat.le_of_ble_eq_true rfl) ?_
              refine t2_Mod_termOf hld _ _ ⟨(lawOk.at h0.2.2 (v := v3956) (by have r0 := (mt i_le.mpr h3961); have r1 := n3960; have r2 := h0.2.2.1; have r3 := h0.2.2.2.1; have r4 := (i_b (M 424 (p0 : Int32).toNatClampNeg)); have r5 := (i_b (M 425 (p0 : Int32).toNatClampNeg)); have r6 := (i_b (v3956)); omega) n3960 (by have r0 := (mt i_le.mpr h3961); have r1 := n3960; have r2 := h0.2.2.1; have r3 := h0.2.2.2.1; have r4 := (i_b (M 424 (p0 : Int32).toNatClampNeg)); have r5 := (i_b (M 425 (p0 : Int32).toNatClampNeg)); have r6 := (i_b (v3956)); omega)).2.1, (lawOk.at h0.2.2 (v := v3956) (by have r0 := (mt i_le.mpr h3961); have r1 := n3960; have r2 := h0.2.2.1; have r3 := h0.2.2.2.1; have r4 := (i_b (M 424 (p0 : Int32).toNatClampNeg)); have r5 := (i_b (M 425 (p0 : Int32).toNatClampNeg)); have r6 := (i_b (v3956)); omega) n3960 (by have r0 := (mt i_le.mpr h3961); have r1 := n3960; have r2 := h0.2.2.1; have r3 := h0.2.2.2.1; have r4 := (i_b (M 424 (p0 : Int32).toNatClampNeg)); have r5 := (i_b (M 425 (p0 : Int32).toNatClampNeg)); have r6 := (i_b (v3956)); omega)).2.2.2.1, (segOk.keep (fun c j hc => Kl.m (Kl.trans (Kl.trans k3959 k3971) k3975) (inv_MS0 c j hc)) (lawOk.at h0.2.2 (v := v3956) (by have r0 := (mt i_le.mpr h3961); have r1 := n3960; have r2 := h0.2.2.1; have r3 := h0.2.2.2.1; have r4 := (i_b (M 424 (p0 : Int32).toNatClampNeg)); have r5 := (i_b (M 425 (p0 : Int32).toNatClampNeg)); have r6 := (i_b (v3956)); omega) n3960 (by have r0 := (mt i_le.mpr h3961); have r1 := n3960; have r2 := h0.2.2.1; have r3 := h0.2.2.2.1; have r4 := (i_b (M 424 (p0 : Int32).toNatClampNeg)); have r5 := (i_b (M 425 (p0 : Int32).toNatClampNeg)); have r6 := (i_b (v3956)); omega)).2.2.2.2)⟩ (fun r3978 M3979 L3980 k3981 => ?_)
              refine g_istore_n (pc1 := 101) (lv' := [(0, .ref 401), (1, .int p0), (2, .int v3956), (3, .int r3978), (4, .int r3972)]) d_Mod_lawTells_100 rfl rfl (by decide) [1, 2, 3, 0, 4] rfl ?_
              refine g_aload_n (pc1 := 102) d_Mod_lawTells_101 rfl 0 rfl ?_
              refine g_getz (pc1 := 105) d_Mod_lawTells_102 rfl ⟨_, fo_Mod_312⟩ sh_401 (by decide) ?_
              refine g_if_eq (pc1 := 108) (tgt := 112) d_Mod_lawTells_105 (by decide) rfl (fun h3982 => ?_) (fun h3982 => ?_)
              · refine g_iload_n (pc1 := 113) d_Mod_lawTells_112 rfl 3 rfl ?_
                refine g_ireturn (Or.inl rfl) d_Mod_lawTells_113 rfl ?_
                exact hQ _ _ _ (Kl.trans (Kl.trans (Kl.trans k3959 k3971) k3975) k3981)
              · refine g_iconst (pc1 := 109) (v := 0) d_Mod_lawTells_108 rfl (by decide) ?_
                refine g_goto (tgt := 113) d_Mod_lawTells_109 (by decide) ?_
                refine g_ireturn (Or.inl rfl) d_Mod_lawTells_113 rfl ?_
                exact hQ _ _ _ (Kl.trans (Kl.trans (Kl.trans k3959 k3971) k3975) k3981)
            · refine g_goto (tgt := 114) d_Mod_lawTells_81 (by decide) ?_
              obtain ⟨x3983, ex3983⟩ : ∃ y : Int32, y = v3956 + 1 := ⟨_, rfl⟩
              refine g_iinc (pc1 := 117) (v := x3983) (lv' := [(0, .ref 401), (1, .int p0), (2, .int x3983), (3, .int r3968), (4, .int r3972)]) d_Mod_lawTells_114 rfl 2 rfl (by rw [ex3983]; rfl) (by decide) [1, 2, 0, 3, 4] rfl ?_
              refine g_goto (tgt := 12) d_Mod_lawTells_117 (by decide) ?_
              refine Wp.loc (lv' := [(0, .ref 401), (1, .int p0), (2, .int x3983)]) [0, 1, 2] rfl ?_
              exact ih3953 x3983 M3973 L3974 (Kl.trans (Kl.trans k3959 k3971) k3975) (by have l0 : (1 : Int32).toInt = 1 := (by decide); have r0 := (mt i_le.mpr h3961); have r1 := n3960; have r2 := h0.2.2.1; have r3 := h0.2.2.2.1; have r4 := (i_b (M 424 (p0 : Int32).toNatClampNeg)); have r5 := (i_b (M 425 (p0 : Int32).toNatClampNeg)); have r6 := (i_b (v3956)); have r7 := (i_b (x3983)); have e1 : (v3956 + 1 : Int32).toInt = (v3956.toInt + 1) := i_addE rfl (by decide : (1 : Int32).toInt = 1) (by omega); have d2 : x3983.toInt = (v3956.toInt + 1) := (congrArg Int32.toInt ex3983).trans e1; omega) (by have l0 : (1 : Int32).toInt = 1 := (by decide); have r0 := (mt i_le.mpr h3961); have r1 := n3960; have r2 := hm3954; have r3 := h0.2.2.1; have r4 := h0.2.2.2.1; have r5 := (i_b (M 424 (p0 : Int32).toNatClampNeg)); have r6 := (i_b (M 425 (p0 : Int32).toNatClampNeg)); have r7 := (i_b (v3956)); have r8 := (i_b (x3983)); have e1 : (v3956 + 1 : Int32).toInt = (v3956.toInt + 1) := i_addE rfl (by decide : (1 : Int32).toInt = 1) (by omega); have d2 : x3983.toInt = (v3956.toInt + 1) := (congrArg Int32.toInt ex3983).trans e1; omega)
          · refine g_iconst (pc1 := 74) (v := 0) d_Mod_lawTells_73 rfl (by decide) ?_
            refine g_ireturn (Or.inl rfl) d_Mod_lawTells_74 rfl ?_
            exact hQ _ _ _ (Kl.trans (Kl.trans k3959 k3971) k3975)
  exact LP3955 _ x3951 M3950 L (Kl.wM Kl.rf rfl eM3950) (by rw [ex3951]; exact Int.le_refl _) (Nat.lt_succ_self _)
set_option maxHeartbeats 4000000 in
set_option maxRecDepth 20000 in
theorem t2_Mod_lotOf {l : Launch} {ld : Nat} (hld : isLa ld) {M : gM} {L : gL} {Q : Option Value → gM → gL → gR → Prop} (hI : Inv M) (p0 : Int32) (p1 : Int32) (h0 : 0 < (p1 : Int32).toInt) (hQ : ∀ (r : Int32), (0 ≤ r.toInt ∧ r.toInt < (p1 : Int32).toInt) → Q (some (.int r)) M L (rf ld)) : Tm l y_Mod_lotOf (0, 0, 447) 447 [.ref 401, .int p0, .int p1] M L (rf ld) Q := by
  refine Tm.of (by decide) (Nat.le_of_ble_eq_true rfl) ?_
  show Wp l y_Mod_lotOf (0, 0, 447) 447 0 0 0 [(0, .ref 401), (1, .int p0), (2, .int p1)] [] M L (rf ld) Q
  refine g_aload_n (pc1 := 1) d_Mod_lotOf_0 rfl 0 rfl ?_
  refine g_geti (pc1 := 4) d_Mod_lotOf_1 rfl ⟨_, fo_Mod_320⟩ sh_401 (by decide) ?_
  refine g_bipush (pc1 := 6) (v := 103) d_Mod_lotOf_4 rfl (by decide) ?_
  refine g_callS0 (pc1 := 9) (As := [.int (M 401 54), .int 103]) (rest := []) d_Mod_lotOf_6 rfl mo_Mod_324 ms_Mod_mixed (by decide) rfl rfl (Nat.le_of_ble_eq_true rfl) ?_
  refine t2_Mod_mixed hld _ _  (fun r3984 => ?_)
  refine g_iload_n (pc1 := 10) d_Mod_lotOf_9 rfl 1 rfl ?_
  refine g_callS0 (pc1 := 13) (As := [.int r3984, .int p0]) (rest := []) d_Mod_lotOf_10 rfl mo_Mod_324 ms_Mod_mixed (by decide) rfl rfl (Nat.le_of_ble_eq_true rfl) ?_
  refine t2_Mod_mixed hld _ _  (fun r3985 => ?_)
  refine g_iconst (pc1 := 14) (v := 1) d_Mod_lotOf_13 rfl (by decide) ?_
  refine g_iushr (pc1 := 15) d_Mod_lotOf_14 rfl ?_
  refine g_iload_n (pc1 := 16) d_Mod_lotOf_15 rfl 2 rfl ?_
  refine g_irem (pc1 := 17) d_Mod_lotOf_16 rfl (by have r0 := h0; have r1 := (i_b (p1)); intro q0; have q1 := congrArg Int32.toInt q0; have q2 : (0 : Int32).toInt = 0 := (by decide); omega) ?_
  refine g_ireturn (Or.inl rfl) d_Mod_lotOf_17 rfl ?_
  exact hQ _ (lot_rng h0)
set_option maxHeartbeats 4000000 in
set_option maxRecDepth 20000 in
theorem t2_Mod_word {l : Launch} {ld : Nat} (hld : isLa ld) {M : gM} {L : gL} {Q : Option Value → gM → gL → gR → Prop} (p0 : Int32) (p1 : Int32) (p2 : Int32) (p3 : Int32) (p4 : Int32) (p5 : Int32) (p6 : Int32)  (hQ : ∀ (r : Int64), Q (some (.long r)) M L (rf ld)) : Tm l y_Mod_word (0, 0, 447) 447 [.int p0, .int p1, .int p2, .int p3, .int p4, .int p5, .int p6] M L (rf ld) Q := by
  refine Tm.of (by decide) (Nat.le_of_ble_eq_true rfl) ?_
  show Wp l y_Mod_word (0, 0, 447) 447 0 0 0 [(0, .int p0), (1, .int p1), (2, .int p2), (3, .int p3), (4, .int p4), (5, .int p5), (6, .int p6)] [] M L (rf ld) Q
  refine g_lconst (pc1 := 1) (v := 0) d_Mod_word_0 rfl (by decide) ?_
  refine g_iload_n (pc1 := 2) d_Mod_word_1 rfl 0 rfl ?_
  refine g_callS0 (pc1 := 5) (As := [.long 0, .int p0]) (rest := []) d_Mod_word_2 rfl mo_Mod_180 ms_Mod_appends (by decide) rfl rfl (Nat.le_of_ble_eq_true rfl) ?_
  refine t2_Mod_appends hld _ _  (fun r3986 => ?_)
  refine g_iload_n (pc1 := 6) d_Mod_word_5 rfl 1 rfl ?_
  refine g_callS0 (pc1 := 9) (As := [.long r3986, .int p1]) (rest := []) d_Mod_word_6 rfl mo_Mod_180 ms_Mod_appends (by decide) rfl rfl (Nat.le_of_ble_eq_true rfl) ?_
  refine t2_Mod_appends hld _ _  (fun r3987 => ?_)
  refine g_iload_n (pc1 := 10) d_Mod_word_9 rfl 2 rfl ?_
  refine g_callS0 (pc1 := 13) (As := [.long r3987, .int p2]) (rest := []) d_Mod_word_10 rfl mo_Mod_180 ms_Mod_appends (by decide) rfl rfl (Nat.le_of_ble_eq_true rfl) ?_
  refine t2_Mod_appends hld _ _  (fun r3988 => ?_)
  refine g_iload_n (pc1 := 14) d_Mod_word_13 rfl 3 rfl ?_
  refine g_callS0 (pc1 := 17) (As := [.long r3988, .int p3]) (rest := []) d_Mod_word_14 rfl mo_Mod_180 ms_Mod_appends (by decide) rfl rfl (Nat.le_of_ble_eq_true rfl) ?_
  refine t2_Mod_appends hld _ _  (fun r3989 => ?_)
  refine g_iload (pc1 := 19) d_Mod_word_17 rfl 4 rfl ?_
  refine g_callS0 (pc1 := 22) (As := [.long r3989, .int p4]) (rest := []) d_Mod_word_19 rfl mo_Mod_180 ms_Mod_appends (by decide) rfl rfl (Nat.le_of_ble_eq_true rfl) ?_
  refine t2_Mod_appends hld _ _  (fun r3990 => ?_)
  refine g_iload (pc1 := 24) d_Mod_word_22 rfl 5 rfl ?_
  refine g_callS0 (pc1 := 27) (As := [.long r3990, .int p5]) (rest := []) d_Mod_word_24 rfl mo_Mod_180 ms_Mod_appends (by decide) rfl rfl (Nat.le_of_ble_eq_true rfl) ?_
  refine t2_Mod_appends hld _ _  (fun r3991 => ?_)
  refine g_iload (pc1 := 29) d_Mod_word_27 rfl 6 rfl ?_
  refine g_callS0 (pc1 := 32) (As := [.long r3991, .int p6]) (rest := []) d_Mod_word_29 rfl mo_Mod_180 ms_Mod_appends (by decide) rfl rfl (Nat.le_of_ble_eq_true rfl) ?_
  refine t2_Mod_appends hld _ _  (fun r3992 => ?_)
  refine g_lreturn rfl d_Mod_word_32 rfl ?_
  exact hQ _
set_option maxHeartbeats 4000000 in
set_option maxRecDepth 20000 in
theorem t2_Mod_amount {l : Launch} {ld : Nat} (hld : isLa ld) {M : gM} {L : gL} {Q : Option Value → gM → gL → gR → Prop} (hI : Inv M) (p0 : Int32) (p1 : Int32)  (hQ : ∀ (r : Int32), Q (some (.int r)) M L (rf ld)) : Tm l y_Mod_amount (0, 0, 447) 447 [.ref 401, .int p0, .int p1] M L (rf ld) Q := by
  refine Tm.of (by decide) (Nat.le_of_ble_eq_true rfl) ?_
  show Wp l y_Mod_amount (0, 0, 447) 447 0 0 0 [(0, .ref 401), (1, .int p0), (2, .int p1)] [] M L (rf ld) Q
  refine g_aload_n (pc1 := 1) d_Mod_amount_0 rfl 0 rfl ?_
  refine g_iload_n (pc1 := 2) d_Mod_amount_1 rfl 1 rfl ?_
  refine g_callV0 (pc1 := 5) (As := [.int p0]) (rest := []) d_Mod_amount_2 rfl mo_Mod_374 mi_Mod_isDish mv_Mod_isDish rfl sh_401 (by decide) (by decide) rfl rfl (Nat.le_of_ble_eq_true rfl) ?_
  refine t2_Mod_isDish hld hI _  (fun r3993 hbr3993 => ?_)
  refine g_if_eq (pc1 := 8) (tgt := 37) d_Mod_amount_5 (by decide) rfl (fun h3994 => ?_) (fun h3994 => ?_)
  · refine g_iconst (pc1 := 38) (v := (-1)) d_Mod_amount_37 rfl (by decide) ?_
    refine g_ireturn (Or.inl rfl) d_Mod_amount_38 rfl ?_
    exact hQ _
  · refine g_aload_n (pc1 := 9) d_Mod_amount_8 rfl 0 rfl ?_
    refine g_iload_n (pc1 := 10) d_Mod_amount_9 rfl 2 rfl ?_
    refine g_callV0 (pc1 := 13) (As := [.int p1]) (rest := []) d_Mod_amount_10 rfl mo_Mod_371 mi_Mod_isFood mv_Mod_isFood rfl sh_401 (by decide) (by decide) rfl rfl (Nat.le_of_ble_eq_true rfl) ?_
    refine t2_Mod_isFood hld hI _  (fun r3995 hbr3995 => ?_)
    refine g_if_eq (pc1 := 16) (tgt := 37) d_Mod_amount_13 (by decide) rfl (fun h3996 => ?_) (fun h3996 => ?_)
    · refine g_iconst (pc1 := 38) (v := (-1)) d_Mod_amount_37 rfl (by decide) ?_
      refine g_ireturn (Or.inl rfl) d_Mod_amount_38 rfl ?_
      exact hQ _
    · refine g_aload_n (pc1 := 17) d_Mod_amount_16 rfl 0 rfl ?_
      refine g_getr (pc1 := 20) d_Mod_amount_17 rfl ⟨_, fo_Mod_64⟩ sh_401 (by decide) (rf_401_29 ld) ?_
      refine g_bipush (pc1 := 22) (v := 6) d_Mod_amount_20 rfl (by decide) ?_
      refine g_iconst (pc1 := 23) (v := 5) d_Mod_amount_22 rfl (by decide) ?_
      refine g_aload_n (pc1 := 24) d_Mod_amount_23 rfl 0 rfl ?_
      refine g_geti (pc1 := 27) d_Mod_amount_24 rfl ⟨_, fo_Mod_236⟩ sh_401 (by decide) ?_
      refine g_imul (pc1 := 28) d_Mod_amount_27 rfl ?_
      refine g_iload_n (pc1 := 29) d_Mod_amount_28 rfl 1 rfl ?_
      refine g_iadd (pc1 := 30) d_Mod_amount_29 rfl ?_
      refine g_imul (pc1 := 31) d_Mod_amount_30 rfl ?_
      refine g_iload_n (pc1 := 32) d_Mod_amount_31 rfl 2 rfl ?_
      refine g_iadd (pc1 := 33) d_Mod_amount_32 rfl ?_
      refine g_iald (pc1 := 34) d_Mod_amount_33 rfl sh_417 (by decide) (by have l0 : (5 : Int32).toInt = 5 := (by decide); have l1 : (6 : Int32).toInt = 6 := (by decide); have r0 := (bp_t hbr3993 h3994); have r1 := (bp_t hbr3995 h3996); have r2 := hI.live; have r3 := (hI.dishes (M 401 18).toNatClampNeg); have r4 := (hI.foods (M 401 18).toNatClampNeg); have r5 := (i_b (M 401 18)); have r6 := (i_b (M 411 (M 401 18).toNatClampNeg)); have r7 := (i_b (M 415 (M 401 18).toNatClampNeg)); have r8 := (i_b (p0)); have r9 := (i_b (p1)); have e1 : (5 * (M 401 18) : Int32).toInt = (5 * ((M 401 18) : Int32).toInt) := i_mulE (by decide : (5 : Int32).toInt = 5) rfl (by omega); have e2 : ((5 * (M 401 18)) + p0 : Int32).toInt = ((5 * ((M 401 18) : Int32).toInt) + p0.toInt) := i_addE e1 rfl (by omega); have e3 : (6 * ((5 * (M 401 18)) + p0) : Int32).toInt = (6 * ((5 * ((M 401 18) : Int32).toInt) + p0.toInt)) := i_mulE (by decide : (6 : Int32).toInt = 6) e2 (by omega); have e4 : ((6 * ((5 * (M 401 18)) + p0)) + p1 : Int32).toInt = ((6 * ((5 * ((M 401 18) : Int32).toInt) + p0.toInt)) + p1.toInt) := i_addE e3 rfl (by omega); exact vin_i (by omega) (by omega)) ?_
      refine g_goto (tgt := 38) d_Mod_amount_34 (by decide) ?_
      refine g_ireturn (Or.inl rfl) d_Mod_amount_38 rfl ?_
      exact hQ _
set_option maxHeartbeats 4000000 in
set_option maxRecDepth 20000 in
theorem t2_Mod_asks {l : Launch} {ld : Nat} (hld : isLa ld) {M : gM} {L : gL} {Q : Option Value → gM → gL → gR → Prop} (hI : Inv M) (p0 : Int32) (p1 : Int32) (p2 : Int32) (p3 : Int32) (h0 : 0 ≤ (p0 : Int32).toInt ∧ (p0 : Int32).toInt ≤ 3) (h1 : (p2 : Int32).toInt ≤ (p3 : Int32).toInt) (hQ : ∀ (r : Int32) (M' : gM) (L' : gL), ((p2 : Int32).toInt ≤ r.toInt ∧ r.toInt ≤ (p3 : Int32).toInt) → Kl MS0 M L M' L' → Q (some (.int r)) M' L' (rf ld)) : Tm l y_Mod_asks (0, 0, 447) 447 [.ref 401, .int p0, .int p1, .int p2, .int p3] M L (rf ld) Q := by
  refine Tm.of (by decide) (Nat.le_of_ble_eq_true rfl) ?_
  show Wp l y_Mod_asks (0, 0, 447) 447 0 0 0 [(0, .ref 401), (1, .int p0), (2, .int p1), (3, .int p2), (4, .int p3)] [] M L (rf ld) Q
  refine g_iconst (pc1 := 1) (v := 4) d_Mod_asks_0 rfl (by decide) ?_
  refine g_aload_n (pc1 := 2) d_Mod_asks_1 rfl 0 rfl ?_
  refine g_geti (pc1 := 5) d_Mod_asks_2 rfl ⟨_, fo_Mod_236⟩ sh_401 (by decide) ?_
  refine g_imul (pc1 := 6) d_Mod_asks_5 rfl ?_
  refine g_iload_n (pc1 := 7) d_Mod_asks_6 rfl 1 rfl ?_
  refine g_iadd (pc1 := 8) d_Mod_asks_7 rfl ?_
  refine Wp.topi (fun x3997 ex3997 => ?_)
  refine g_istore (pc1 := 10) (lv' := [(0, .ref 401), (1, .int p0), (2, .int p1), (3, .int p2), (4, .int p3), (5, .int x3997)]) d_Mod_asks_8 rfl (by decide) [1, 2, 3, 4, 5, 0] rfl ?_
  refine g_iload_n (pc1 := 11) d_Mod_asks_10 rfl 2 rfl ?_
  refine g_istore (pc1 := 13) (lv' := [(0, .ref 401), (1, .int p0), (2, .int p1), (3, .int p2), (4, .int p3), (5, .int x3997), (6, .int p1)]) d_Mod_asks_11 rfl (by decide) [1, 2, 3, 4, 5, 6, 0] rfl ?_
  refine g_aload_n (pc1 := 14) d_Mod_asks_13 rfl 0 rfl ?_
  refine g_getr (pc1 := 17) d_Mod_asks_14 rfl ⟨_, fo_Mod_85⟩ sh_401 (by decide) (rf_401_36 ld) ?_
  refine g_iload (pc1 := 19) d_Mod_asks_17 rfl 5 rfl ?_
  refine g_iald (pc1 := 20) d_Mod_asks_19 rfl sh_424 (by decide) (by have l0 : (4 : Int32).toInt = 4 := (by decide); have r0 := h0; have r1 := hI.live; have r2 := (i_b (M 401 18)); have r3 := (i_b (p0)); have r4 := (i_b (x3997)); have e1 : (4 * (M 401 18) : Int32).toInt = (4 * ((M 401 18) : Int32).toInt) := i_mulE (by decide : (4 : Int32).toInt = 4) rfl (by omega); have e2 : ((4 * (M 401 18)) + p0 : Int32).toInt = ((4 * ((M 401 18) : Int32).toInt) + p0.toInt) := i_addE e1 rfl (by omega); have d3 : x3997.toInt = ((4 * ((M 401 18) : Int32).toInt) + p0.toInt) := (congrArg Int32.toInt ex3997).trans e2; exact vin_i (by omega) (by omega)) ?_
  refine g_aload_n (pc1 := 21) d_Mod_asks_20 rfl 0 rfl ?_
  refine g_getr (pc1 := 24) d_Mod_asks_21 rfl ⟨_, fo_Mod_88⟩ sh_401 (by decide) (rf_401_37 ld) ?_
  refine g_iload (pc1 := 26) d_Mod_asks_24 rfl 5 rfl ?_
  refine g_iald (pc1 := 27) d_Mod_asks_26 rfl sh_425 (by decide) (by have l0 : (4 : Int32).toInt = 4 := (by decide); have r0 := h0; have r1 := hI.live; have r2 := (i_b (M 401 18)); have r3 := (i_b (p0)); have r4 := (i_b (x3997)); have e1 : (4 * (M 401 18) : Int32).toInt = (4 * ((M 401 18) : Int32).toInt) := i_mulE (by decide : (4 : Int32).toInt = 4) rfl (by omega); have e2 : ((4 * (M 401 18)) + p0 : Int32).toInt = ((4 * ((M 401 18) : Int32).toInt) + p0.toInt) := i_addE e1 rfl (by omega); have d3 : x3997.toInt = ((4 * ((M 401 18) : Int32).toInt) + p0.toInt) := (congrArg Int32.toInt ex3997).trans e2; exact vin_i (by omega) (by omega)) ?_
  refine g_icmp_ge (pc1 := 30) (tgt := 38) d_Mod_asks_27 (by decide) rfl (fun h3998 => ?_) (fun h3998 => ?_)
  · refine g_iload (pc1 := 40) d_Mod_asks_38 rfl 6 rfl ?_
    refine g_iload_n (pc1 := 41) d_Mod_asks_40 rfl 3 rfl ?_
    refine g_iload (pc1 := 43) d_Mod_asks_41 rfl 4 rfl ?_
    refine g_callS0 (pc1 := 46) (As := [.int p1, .int p2, .int p3]) (rest := []) d_Mod_asks_43 rfl mo_Mod_330 ms_Mod_held (by decide) rfl rfl (Nat.le_of_ble_eq_true rfl) ?_
    refine t2_Mod_held hld _ _ _ (by have r0 := h1; have r1 := (i_b (p2)); have r2 := (i_b (p3)); omega) (fun r3999 hbr3999 => ?_)
    refine g_ireturn (Or.inl rfl) d_Mod_asks_46 rfl ?_
    exact hQ _ _ _ (by have r0 := h0; have r1 := h1; have r2 := hbr3999; have r3 := (i_b (p0)); have r4 := (i_b (p1)); have r5 := (i_b (p2)); have r6 := (i_b (p3)); have r7 := (i_b (r3999)); omega) Kl.rf
  · refine g_aload_n (pc1 := 31) d_Mod_asks_30 rfl 0 rfl ?_
    refine g_iload (pc1 := 33) d_Mod_asks_31 rfl 5 rfl ?_
    refine g_callV0 (pc1 := 36) (As := [.int x3997]) (rest := []) d_Mod_asks_33 rfl mo_Mod_327 mi_Mod_lawTells mv_Mod_lawTells rfl sh_401 (by decide) (by decide) rfl rfl (Nat.le_of_ble_eq_true rfl) ?_
    refine t2_Mod_lawTells hld hI _ ⟨(by have l0 : (4 : Int32).toInt = 4 := (by decide); have r0 := h0; have r1 := hI.live; have r2 := (i_b (M 401 18)); have r3 := (i_b (p0)); have r4 := (i_b (x3997)); have e1 : (4 * (M 401 18) : Int32).toInt = (4 * ((M 401 18) : Int32).toInt) := i_mulE (by decide : (4 : Int32).toInt = 4) rfl (by omega); have e2 : ((4 * (M 401 18)) + p0 : Int32).toInt = ((4 * ((M 401 18) : Int32).toInt) + p0.toInt) := i_addE e1 rfl (by omega); have d3 : x3997.toInt = ((4 * ((M 401 18) : Int32).toInt) + p0.toInt) := (congrArg Int32.toInt ex3997).trans e2; omega), (by have l0 : (4 : Int32).toInt = 4 := (by decide); have r0 := h0; have r1 := hI.live; have r2 := (i_b (M 401 18)); have r3 := (i_b (p0)); have r4 := (i_b (x3997)); have e1 : (4 * (M 401 18) : Int32).toInt = (4 * ((M 401 18) : Int32).toInt) := i_mulE (by decide : (4 : Int32).toInt = 4) rfl (by omega); have e2 : ((4 * (M 401 18)) + p0 : Int32).toInt = ((4 * ((M 401 18) : Int32).toInt) + p0.toInt) := i_addE e1 rfl (by omega); have d3 : x3997.toInt = ((4 * ((M 401 18) : Int32).toInt) + p0.toInt) := (congrArg Int32.toInt ex3997).trans e2; omega), (hI.law (i := x3997) (k := p0.toInt) (by have l0 : (4 : Int32).toInt = 4 := (by decide); have r0 := h0; have r1 := hI.live; have r2 := (i_b (M 401 18)); have r3 := (i_b (p0)); have r4 := (i_b (x3997)); have e1 : (4 * (M 401 18) : Int32).toInt = (4 * ((M 401 18) : Int32).toInt) := i_mulE (by decide : (4 : Int32).toInt = 4) rfl (by omega); have e2 : ((4 * (M 401 18)) + p0 : Int32).toInt = ((4 * ((M 401 18) : Int32).toInt) + p0.toInt) := i_addE e1 rfl (by omega); have d3 : x3997.toInt = ((4 * ((M 401 18) : Int32).toInt) + p0.toInt) := (congrArg Int32.toInt ex3997).trans e2; omega) h0.1 (by have l0 : (4 : Int32).toInt = 4 := (by decide); have r0 := h0; have r1 := hI.live; have r2 := (i_b (M 401 18)); have r3 := (i_b (p0)); have r4 := (i_b (x3997)); have e1 : (4 * (M 401 18) : Int32).toInt = (4 * ((M 401 18) : Int32).toInt) := i_mulE (by decide : (4 : Int32).toInt = 4) rfl (by omega); have e2 : ((4 * (M 401 18)) + p0 : Int32).toInt = ((4 * ((M 401 18) : Int32).toInt) + p0.toInt) := i_addE e1 rfl (by omega); have d3 : x3997.toInt = ((4 * ((M 401 18) : Int32).toInt) + p0.toInt) := (congrArg Int32.toInt ex3997).trans e2; omega))⟩ (fun r4000 M4001 L4002 k4003 => ?_)
    refine g_istore (pc1 := 38) (lv' := [(0, .ref 401), (1, .int p0), (2, .int p1), (3, .int p2), (4, .int p3), (5, .int x3997), (6, .int r4000)]) d_Mod_asks_36 rfl (by decide) [1, 2, 3, 4, 5, 6, 0] rfl ?_
    refine g_iload (pc1 := 40) d_Mod_asks_38 rfl 6 rfl ?_
    refine g_iload_n (pc1 := 41) d_Mod_asks_40 rfl 3 rfl ?_
    refine g_iload (pc1 := 43) d_Mod_asks_41 rfl 4 rfl ?_
    refine g_callS0 (pc1 := 46) (As := [.int r4000, .int p2, .int p3]) (rest := []) d_Mod_asks_43 rfl mo_Mod_330 ms_Mod_held (by decide) rfl rfl (Nat.le_of_ble_eq_true rfl) ?_
    refine t2_Mod_held hld _ _ _ (by have r0 := h1; have r1 := (i_b (p2)); have r2 := (i_b (p3)); omega) (fun r4004 hbr4004 => ?_)
    refine g_ireturn (Or.inl rfl) d_Mod_asks_46 rfl ?_
    exact hQ _ _ _ (by have r0 := h0; have r1 := h1; have r2 := hbr4004; have r3 := (i_b (p0)); have r4 := (i_b (p1)); have r5 := (i_b (p2)); have r6 := (i_b (p3)); have r7 := (i_b (r4000)); have r8 := (i_b (r4004)); omega) (Kl.trans Kl.rf k4003)
