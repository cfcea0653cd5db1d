set_option maxHeartbeats 4000000 in
set_option maxRecDepth 20000 in
theorem t2_Mod_menu {l : Launch} {ld : Nat} (hld : isLa ld) {M : gM} {L : gL} {Q : Option Value → gM → gL → gR → Prop} (hI : Inv M) (p0 : Int32) (p1 : Int32) (p2 : Int32) (p3 : Int32)  (hQ : ∀ (r : Int32) (M' : gM) (L' : gL), Kl MS1 M L M' L' → Q (some (.int r)) M' L' (rf ld)) : Tm l y_Mod_menu (0, 0, 447) 447 [.ref 401, .int p0, .int p1, .int p2, .int p3] M L (rf ld) Q := by
  refine Tm.of (by decide) (Nat.le_of_ble_eq_true rfl) ?_
  show Wp l y_Mod_menu (0, 0, 447) 447 0 0 0 [(0, .ref 401), (1, .int p0), (2, .int p1), (3, .int p2), (4, .int p3)] [] M L (rf ld) Q
  refine g_aload_n (pc1 := 1) d_Mod_menu_0 rfl 0 rfl ?_
  refine g_iload_n (pc1 := 2) d_Mod_menu_1 rfl 1 rfl ?_
  refine g_callV0 (pc1 := 5) (As := [.int p0]) (rest := []) d_Mod_menu_2 rfl mo_Mod_380 mi_Mod_isGuest mv_Mod_isGuest rfl sh_401 (by decide) (by decide) rfl rfl (Nat.le_of_ble_eq_true rfl) ?_
  refine t2_Mod_isGuest hld hI _  (fun r5050 hbr5050 => ?_)
  refine g_if_eq (pc1 := 8) (tgt := 50) d_Mod_menu_5 (by decide) rfl (fun h5051 => ?_) (fun h5051 => ?_)
  · refine g_iconst (pc1 := 51) (v := (-1)) d_Mod_menu_50 rfl (by decide) ?_
    refine g_ireturn (Or.inl rfl) d_Mod_menu_51 rfl ?_
    exact hQ _ _ _ Kl.rf
  · refine g_iload_n (pc1 := 9) d_Mod_menu_8 rfl 2 rfl ?_
    refine g_iconst (pc1 := 10) (v := 1) d_Mod_menu_9 rfl (by decide) ?_
    refine g_iconst (pc1 := 11) (v := 4) d_Mod_menu_10 rfl (by decide) ?_
    refine g_callS0 (pc1 := 14) (As := [.int p1, .int 1, .int 4]) (rest := []) d_Mod_menu_11 rfl mo_Mod_316 ms_Mod_in (by decide) rfl rfl (Nat.le_of_ble_eq_true rfl) ?_
    refine t2_Mod_in hld _ _ _  (fun r5052 hbr5052 => ?_)
    refine g_if_eq (pc1 := 17) (tgt := 50) d_Mod_menu_14 (by decide) rfl (fun h5053 => ?_) (fun h5053 => ?_)
    · refine g_iconst (pc1 := 51) (v := (-1)) d_Mod_menu_50 rfl (by decide) ?_
      refine g_ireturn (Or.inl rfl) d_Mod_menu_51 rfl ?_
      exact hQ _ _ _ Kl.rf
    · refine g_iload_n (pc1 := 18) d_Mod_menu_17 rfl 3 rfl ?_
      refine g_iconst (pc1 := 19) (v := 0) d_Mod_menu_18 rfl (by decide) ?_
      refine g_iconst (pc1 := 20) (v := 1) d_Mod_menu_19 rfl (by decide) ?_
      refine g_aload_n (pc1 := 21) d_Mod_menu_20 rfl 0 rfl ?_
      refine g_getr (pc1 := 24) d_Mod_menu_21 rfl ⟨_, fo_Mod_73⟩ sh_401 (by decide) (rf_401_32 ld) ?_
      refine g_aload_n (pc1 := 25) d_Mod_menu_24 rfl 0 rfl ?_
      refine g_geti (pc1 := 28) d_Mod_menu_25 rfl ⟨_, fo_Mod_236⟩ sh_401 (by decide) ?_
      refine g_iald (pc1 := 29) d_Mod_menu_28 rfl sh_420 (by decide) (by have r0 := hI.live; have r1 := (i_b (M 401 18)); exact vin_i (by omega) (by omega)) ?_
      refine g_ishl (pc1 := 30) d_Mod_menu_29 rfl ?_
      refine g_iconst (pc1 := 31) (v := 1) d_Mod_menu_30 rfl (by decide) ?_
      refine g_isub (pc1 := 32) d_Mod_menu_31 rfl ?_
      refine g_callS0 (pc1 := 35) (As := [.int p2, .int 0, .int ((1 <<< ((M 420 ((M 401 18) : Int32).toNatClampNeg) &&& 31)) - 1)]) (rest := []) d_Mod_menu_32 rfl mo_Mod_316 ms_Mod_in (by decide) rfl rfl (Nat.le_of_ble_eq_true rfl) ?_
      refine t2_Mod_in hld _ _ _  (fun r5054 hbr5054 => ?_)
      refine g_if_eq (pc1 := 38) (tgt := 50) d_Mod_menu_35 (by decide) rfl (fun h5055 => ?_) (fun h5055 => ?_)
      · refine g_iconst (pc1 := 51) (v := (-1)) d_Mod_menu_50 rfl (by decide) ?_
        refine g_ireturn (Or.inl rfl) d_Mod_menu_51 rfl ?_
        exact hQ _ _ _ Kl.rf
      · refine g_iload (pc1 := 40) d_Mod_menu_38 rfl 4 rfl ?_
        refine g_iconst (pc1 := 41) (v := (-1)) d_Mod_menu_40 rfl (by decide) ?_
        refine g_iload_n (pc1 := 42) d_Mod_menu_41 rfl 2 rfl ?_
        refine g_iconst (pc1 := 43) (v := 1) d_Mod_menu_42 rfl (by decide) ?_
        refine g_isub (pc1 := 44) d_Mod_menu_43 rfl ?_
        refine g_callS0 (pc1 := 47) (As := [.int p3, .int (-1), .int (p1 - 1)]) (rest := []) d_Mod_menu_44 rfl mo_Mod_316 ms_Mod_in (by decide) rfl rfl (Nat.le_of_ble_eq_true rfl) ?_
        refine t2_Mod_in hld _ _ _  (fun r5056 hbr5056 => ?_)
        refine g_if_ne (pc1 := 50) (tgt := 52) d_Mod_menu_47 (by decide) rfl (fun h5057 => ?_) (fun h5057 => ?_)
        · refine g_iconst (pc1 := 53) (v := (-1)) d_Mod_menu_52 rfl (by decide) ?_
          refine Wp.topi (fun x5058 ex5058 => ?_)
          refine g_istore (pc1 := 55) (lv' := [(0, .ref 401), (1, .int p0), (2, .int p1), (3, .int p2), (4, .int p3), (5, .int x5058)]) d_Mod_menu_53 rfl (by decide) [1, 2, 3, 4, 5, 0] rfl ?_
          refine g_iconst (pc1 := 56) (v := 0) d_Mod_menu_55 rfl (by decide) ?_
          refine g_istore (pc1 := 58) (lv' := [(0, .ref 401), (1, .int p0), (2, .int p1), (3, .int p2), (4, .int p3), (5, .int x5058), (6, .int 0)]) d_Mod_menu_56 rfl (by decide) [1, 2, 3, 4, 5, 6, 0] rfl ?_
          refine g_iconst (pc1 := 59) (v := 0) d_Mod_menu_58 rfl (by decide) ?_
          refine g_istore (pc1 := 61) (lv' := [(0, .ref 401), (1, .int p0), (2, .int p1), (3, .int p2), (4, .int p3), (5, .int x5058), (6, .int 0), (7, .int 0)]) d_Mod_menu_59 rfl (by decide) [1, 2, 3, 4, 5, 6, 7, 0] rfl ?_
          have LP5062 : ∀ (f5059 : Nat) (v5063 : Int32) (v5064 : Int32) (v5065 : Int32) (M5066 : gM) (L5067 : gL), Kl MS1 M L M5066 L5067 → (0 ≤ v5065.toInt) → ((((6 : Nat) : Int) ^ (p1 : Int32).toInt.toNat) - v5065.toInt).toNat < f5059 → Wp l y_Mod_menu (0, 0, 447) 447 0 0 61 [(0, .ref 401), (1, .int p0), (2, .int p1), (3, .int p2), (4, .int p3), (5, .int v5063), (6, .int v5064), (7, .int v5065)] [] M5066 L5067 (rf ld) Q := by
            intro f5059
            induction f5059 with
            | zero => intro v5063 v5064 v5065 M5066 L5067 _ _ hm5061; exact absurd hm5061 (Nat.not_lt_zero _)
            | succ f5059 ih5060 =>
              intro v5063 v5064 v5065 M5066 L5067 k5068 n5069 hm5061
              refine g_iload (pc1 := 63) d_Mod_menu_61 rfl 7 rfl ?_
              refine g_iload_n (pc1 := 64) d_Mod_menu_63 rfl 2 rfl ?_
              refine g_callS0 (pc1 := 67) (As := [.int p1]) (rest := [.int v5065]) d_Mod_menu_64 rfl mo_Mod_440 ms_Mod_sixes (by decide) rfl rfl (Nat.le_of_ble_eq_true rfl) ?_
              refine t2_Mod_sixes hld _ (by have l0 : (-1 : Int32).toInt = -1 := (by decide); have l1 : (1 : Int32).toInt = 1 := (by decide); have l2 : (4 : Int32).toInt = 4 := (by decide); have r0 := (bp_t hbr5052 h5053); have r1 := (bp_t hbr5056 h5057); have r2 := (pow6_4 (n := p1) (by have l0 : (-1 : Int32).toInt = -1 := (by decide); have l1 : (1 : Int32).toInt = 1 := (by decide); have l2 : (4 : Int32).toInt = 4 := (by decide); have r0 := (bp_t hbr5052 h5053); have r1 := (bp_t hbr5056 h5057); have r2 := (i_b (p1)); have r3 := (i_b (p3)); (try have e1 : (p1 - 1 : Int32).toInt = (p1.toInt - 1) := i_subE rfl (by decide : (1 : Int32).toInt = 1) (by omega)); omega)); have r3 := (i_b (p1)); have r4 := (i_b (p3)); (try have e1 : (p1 - 1 : Int32).toInt = (p1.toInt - 1) := i_subE rfl (by decide : (1 : Int32).toInt = 1) (by omega)); omega) (fun r5070 hbr5070 => ?_)
              refine g_icmp_ge (pc1 := 70) (tgt := 115) d_Mod_menu_67 (by decide) rfl (fun h5071 => ?_) (fun h5071 => ?_)
              · refine g_iload (pc1 := 117) d_Mod_menu_115 rfl 5 rfl ?_
                refine g_if_ge (pc1 := 120) (tgt := 134) d_Mod_menu_117 (by decide) rfl (fun h5072 => ?_) (fun h5072 => ?_)
                · refine g_iload (pc1 := 136) d_Mod_menu_134 rfl 4 rfl ?_
                  refine g_iconst (pc1 := 137) (v := (-1)) d_Mod_menu_136 rfl (by decide) ?_
                  refine g_icmp_ne (pc1 := 140) (tgt := 143) d_Mod_menu_137 (by decide) rfl (fun h5073 => ?_) (fun h5073 => ?_)
                  · refine g_iload (pc1 := 145) d_Mod_menu_143 rfl 5 rfl ?_
                    refine g_iload_n (pc1 := 146) d_Mod_menu_145 rfl 2 rfl ?_
                    refine g_iconst (pc1 := 147) (v := 1) d_Mod_menu_146 rfl (by decide) ?_
                    refine g_isub (pc1 := 148) d_Mod_menu_147 rfl ?_
                    refine g_iload (pc1 := 150) d_Mod_menu_148 rfl 4 rfl ?_
                    refine g_isub (pc1 := 151) d_Mod_menu_150 rfl ?_
                    refine g_callS0 (pc1 := 154) (As := [.int ((p1 - 1) - p3)]) (rest := [.int v5063]) d_Mod_menu_151 rfl mo_Mod_440 ms_Mod_sixes (by decide) rfl rfl (Nat.le_of_ble_eq_true rfl) ?_
                    refine t2_Mod_sixes hld _ (by have l0 : (-1 : Int32).toInt = -1 := (by decide); have l1 : (1 : Int32).toInt = 1 := (by decide); have l2 : (4 : Int32).toInt = 4 := (by decide); have r0 := (mt Int32.toInt_inj.mp h5073); have r1 := (bp_t hbr5052 h5053); have r2 := (bp_t hbr5056 h5057); have r3 := (pow6_4 (n := p1) (by have l0 : (-1 : Int32).toInt = -1 := (by decide); have l1 : (1 : Int32).toInt = 1 := (by decide); have l2 : (4 : Int32).toInt = 4 := (by decide); have r0 := (bp_t hbr5052 h5053); have r1 := (bp_t hbr5056 h5057); have r2 := (i_b (p1)); have r3 := (i_b (p3)); (try have e1 : (p1 - 1 : Int32).toInt = (p1.toInt - 1) := i_subE rfl (by decide : (1 : Int32).toInt = 1) (by omega)); omega)); have r4 := hbr5070; have r5 := (i_le.mp h5071); have r6 := n5069; have r7 := (i_b (p1)); have r8 := (i_b (p3)); have r9 := (i_b (r5070)); have r10 := (i_b (v5065)); (try have e1 : (p1 - 1 : Int32).toInt = (p1.toInt - 1) := i_subE rfl (by decide : (1 : Int32).toInt = 1) (by omega)); have e2 : ((p1 - 1) - p3 : Int32).toInt = ((p1.toInt - 1) - p3.toInt) := i_subE e1 rfl (by omega); omega) (fun r5074 hbr5074 => ?_)
                    refine g_idiv (pc1 := 155) d_Mod_menu_154 rfl (by have l0 : (-1 : Int32).toInt = -1 := (by decide); have l1 : (1 : Int32).toInt = 1 := (by decide); have l2 : (4 : Int32).toInt = 4 := (by decide); have r0 := hbr5074; have r1 := (mt Int32.toInt_inj.mp h5073); have r2 := (bp_t hbr5052 h5053); have r3 := (bp_t hbr5056 h5057); have r4 := (pow6_4 (n := p1) (by have l0 : (-1 : Int32).toInt = -1 := (by decide); have l1 : (1 : Int32).toInt = 1 := (by decide); have l2 : (4 : Int32).toInt = 4 := (by decide); have r0 := (bp_t hbr5052 h5053); have r1 := (bp_t hbr5056 h5057); have r2 := (i_b (p1)); have r3 := (i_b (p3)); (try have e1 : (p1 - 1 : Int32).toInt = (p1.toInt - 1) := i_subE rfl (by decide : (1 : Int32).toInt = 1) (by omega)); omega)); have r5 := hbr5070; have r6 := (i_le.mp h5071); have r7 := n5069; have r8 := (i_b (p1)); have r9 := (i_b (p3)); have r10 := (i_b (r5070)); have r11 := (i_b (r5074)); have r12 := (i_b (v5065)); (try have e1 : (p1 - 1 : Int32).toInt = (p1.toInt - 1) := i_subE rfl (by decide : (1 : Int32).toInt = 1) (by omega)); (try have e2 : ((p1 - 1) - p3 : Int32).toInt = ((p1.toInt - 1) - p3.toInt) := i_subE e1 rfl (by omega)); intro q0; have q1 := congrArg Int32.toInt q0; have q2 : (0 : Int32).toInt = 0 := (by decide); omega) ?_
                    refine g_bipush (pc1 := 157) (v := 6) d_Mod_menu_155 rfl (by decide) ?_
                    refine g_irem (pc1 := 158) d_Mod_menu_157 rfl (by decide) ?_
                    refine g_iconst (pc1 := 159) (v := 1) d_Mod_menu_158 rfl (by decide) ?_
                    refine g_isub (pc1 := 160) d_Mod_menu_159 rfl ?_
                    refine Wp.topi (fun x5075 ex5075 => ?_)
                    refine g_istore (pc1 := 162) (lv' := [(0, .ref 401), (1, .int p0), (2, .int p1), (3, .int p2), (4, .int p3), (5, .int v5063), (6, .int v5064), (7, .int x5075)]) d_Mod_menu_160 rfl (by decide) [1, 2, 3, 4, 5, 6, 7, 0] rfl ?_
                    refine g_iload (pc1 := 164) d_Mod_menu_162 rfl 7 rfl ?_
                    refine g_if_ge (pc1 := 167) (tgt := 172) d_Mod_menu_164 (by decide) rfl (fun h5076 => ?_) (fun h5076 => ?_)
                    · refine g_iload (pc1 := 174) d_Mod_menu_172 rfl 7 rfl ?_
                      refine g_ireturn (Or.inl rfl) d_Mod_menu_174 rfl ?_
                      exact hQ _ _ _ k5068
                    · refine g_bipush (pc1 := 169) (v := (-2)) d_Mod_menu_167 rfl (by decide) ?_
                      refine g_goto (tgt := 174) d_Mod_menu_169 (by decide) ?_
                      refine g_ireturn (Or.inl rfl) d_Mod_menu_174 rfl ?_
                      exact hQ _ _ _ k5068
                  · refine g_iload (pc1 := 142) d_Mod_menu_140 rfl 6 rfl ?_
                    refine g_ireturn (Or.inl rfl) d_Mod_menu_142 rfl ?_
                    exact hQ _ _ _ k5068
                · refine g_iload (pc1 := 122) d_Mod_menu_120 rfl 4 rfl ?_
                  refine g_iconst (pc1 := 123) (v := (-1)) d_Mod_menu_122 rfl (by decide) ?_
                  refine g_icmp_ne (pc1 := 126) (tgt := 131) d_Mod_menu_123 (by decide) rfl (fun h5077 => ?_) (fun h5077 => ?_)
                  · refine g_bipush (pc1 := 133) (v := (-3)) d_Mod_menu_131 rfl (by decide) ?_
                    refine g_ireturn (Or.inl rfl) d_Mod_menu_133 rfl ?_
                    exact hQ _ _ _ k5068
                  · refine g_bipush (pc1 := 128) (v := (-2)) d_Mod_menu_126 rfl (by decide) ?_
                    refine g_goto (tgt := 133) d_Mod_menu_128 (by decide) ?_
                    refine g_ireturn (Or.inl rfl) d_Mod_menu_133 rfl ?_
                    exact hQ _ _ _ k5068
              · refine g_aload_n (pc1 := 71) d_Mod_menu_70 rfl 0 rfl ?_
                refine g_iload (pc1 := 73) d_Mod_menu_71 rfl 7 rfl ?_
                refine g_iload_n (pc1 := 74) d_Mod_menu_73 rfl 1 rfl ?_
                refine g_iload_n (pc1 := 75) d_Mod_menu_74 rfl 2 rfl ?_
                refine g_iload_n (pc1 := 76) d_Mod_menu_75 rfl 3 rfl ?_
                refine g_callV0 (pc1 := 79) (As := [.int v5065, .int p0, .int p1, .int p2]) (rest := []) d_Mod_menu_76 rfl mo_Mod_443 mi_Mod_mealsBy mv_Mod_mealsBy rfl sh_401 (by decide) (by decide) rfl rfl (Nat.le_of_ble_eq_true rfl) ?_
                refine t2_Mod_mealsBy hld (Inv.keep hI inv_MS1 k5068) _ _ _ _ (by have l0 : (-1 : Int32).toInt = -1 := (by decide); have l1 : (1 : Int32).toInt = 1 := (by decide); have l2 : (4 : Int32).toInt = 4 := (by decide); have r0 := (mt i_le.mpr h5071); have r1 := n5069; have r2 := hbr5070; have r3 := (bp_t hbr5052 h5053); have r4 := (bp_t hbr5056 h5057); have r5 := (pow6_4 (n := p1) (by have l0 : (-1 : Int32).toInt = -1 := (by decide); have l1 : (1 : Int32).toInt = 1 := (by decide); have l2 : (4 : Int32).toInt = 4 := (by decide); have r0 := (bp_t hbr5052 h5053); have r1 := (bp_t hbr5056 h5057); have r2 := (i_b (p1)); have r3 := (i_b (p3)); (try have e1 : (p1 - 1 : Int32).toInt = (p1.toInt - 1) := i_subE rfl (by decide : (1 : Int32).toInt = 1) (by omega)); omega)); have r6 := (i_b (p1)); have r7 := (i_b (p3)); have r8 := (i_b (r5070)); have r9 := (i_b (v5065)); (try have e1 : (p1 - 1 : Int32).toInt = (p1.toInt - 1) := i_subE rfl (by decide : (1 : Int32).toInt = 1) (by omega)); omega) (by have r0 := (bp_t hbr5050 h5051); have r1 := (hI.guests (M 401 18).toNatClampNeg); have r2 := (i_b (M 418 (M 401 18).toNatClampNeg)); have r3 := (i_b (p0)); omega) (by have l0 : (-1 : Int32).toInt = -1 := (by decide); have l1 : (1 : Int32).toInt = 1 := (by decide); have l2 : (4 : Int32).toInt = 4 := (by decide); have r0 := (bp_t hbr5052 h5053); have r1 := (bp_t hbr5056 h5057); have r2 := (pow6_4 (n := p1) (by have l0 : (-1 : Int32).toInt = -1 := (by decide); have l1 : (1 : Int32).toInt = 1 := (by decide); have l2 : (4 : Int32).toInt = 4 := (by decide); have r0 := (bp_t hbr5052 h5053); have r1 := (bp_t hbr5056 h5057); have r2 := (i_b (p1)); have r3 := (i_b (p3)); (try have e1 : (p1 - 1 : Int32).toInt = (p1.toInt - 1) := i_subE rfl (by decide : (1 : Int32).toInt = 1) (by omega)); omega)); have r3 := hbr5070; have r4 := (mt i_le.mpr h5071); have r5 := n5069; have r6 := (i_b (p1)); have r7 := (i_b (p3)); have r8 := (i_b (r5070)); have r9 := (i_b (v5065)); (try have e1 : (p1 - 1 : Int32).toInt = (p1.toInt - 1) := i_subE rfl (by decide : (1 : Int32).toInt = 1) (by omega)); omega) (fun r5078 M5079 L5080 k5081 => ?_)
                refine g_istore (pc1 := 81) (lv' := [(0, .ref 401), (1, .int p0), (2, .int p1), (3, .int p2), (4, .int p3), (5, .int v5063), (6, .int v5064), (7, .int v5065), (8, .int r5078)]) d_Mod_menu_79 rfl (by decide) [1, 2, 3, 4, 5, 6, 7, 8, 0] rfl ?_
                refine g_iload (pc1 := 83) d_Mod_menu_81 rfl 8 rfl ?_
                refine g_if_lt (pc1 := 86) (tgt := 109) d_Mod_menu_83 (by decide) rfl (fun h5082 => ?_) (fun h5082 => ?_)
                · obtain ⟨x5083, ex5083⟩ : ∃ y : Int32, y = v5065 + 1 := ⟨_, rfl⟩
                  refine g_iinc (pc1 := 112) (v := x5083) (lv' := [(0, .ref 401), (1, .int p0), (2, .int p1), (3, .int p2), (4, .int p3), (5, .int v5063), (6, .int v5064), (7, .int x5083), (8, .int r5078)]) d_Mod_menu_109 rfl 7 rfl (by rw [ex5083]; rfl) (by decide) [1, 2, 3, 4, 5, 6, 7, 0, 8] rfl ?_
                  refine g_goto (tgt := 61) d_Mod_menu_112 (by decide) ?_
                  refine Wp.loc (lv' := [(0, .ref 401), (1, .int p0), (2, .int p1), (3, .int p2), (4, .int p3), (5, .int v5063), (6, .int v5064), (7, .int x5083)]) [0, 1, 2, 3, 4, 5, 6, 7] rfl ?_
                  exact ih5060 v5063 v5064 x5083 M5079 L5080 (Kl.trans k5068 k5081) (by have l0 : (-1 : Int32).toInt = -1 := (by decide); have l1 : (1 : Int32).toInt = 1 := (by decide); have l2 : (4 : Int32).toInt = 4 := (by decide); have r0 := (mt i_le.mpr h5071); have r1 := n5069; have r2 := hbr5070; have r3 := (bp_t hbr5052 h5053); have r4 := (bp_t hbr5056 h5057); have r5 := (pow6_4 (n := p1) (by have l0 : (-1 : Int32).toInt = -1 := (by decide); have l1 : (1 : Int32).toInt = 1 := (by decide); have l2 : (4 : Int32).toInt = 4 := (by decide); have r0 := (bp_t hbr5052 h5053); have r1 := (bp_t hbr5056 h5057); have r2 := (i_b (p1)); have r3 := (i_b (p3)); (try have e1 : (p1 - 1 : Int32).toInt = (p1.toInt - 1) := i_subE rfl (by decide : (1 : Int32).toInt = 1) (by omega)); omega)); have r6 := (i_b (p1)); have r7 := (i_b (p3)); have r8 := (i_b (r5070)); have r9 := (i_b (v5065)); have r10 := (i_b (x5083)); (try have e1 : (p1 - 1 : Int32).toInt = (p1.toInt - 1) := i_subE rfl (by decide : (1 : Int32).toInt = 1) (by omega)); have e2 : (v5065 + 1 : Int32).toInt = (v5065.toInt + 1) := i_addE rfl (by decide : (1 : Int32).toInt = 1) (by omega); have d3 : x5083.toInt = (v5065.toInt + 1) := (congrArg Int32.toInt ex5083).trans e2; omega) (by have l0 : (-1 : Int32).toInt = -1 := (by decide); have l1 : (1 : Int32).toInt = 1 := (by decide); have l2 : (4 : Int32).toInt = 4 := (by decide); have r0 := (mt i_le.mpr h5071); have r1 := n5069; have r2 := hm5061; have r3 := hbr5070; have r4 := (bp_t hbr5052 h5053); have r5 := (bp_t hbr5056 h5057); have r6 := (pow6_4 (n := p1) (by have l0 : (-1 : Int32).toInt = -1 := (by decide); have l1 : (1 : Int32).toInt = 1 := (by decide); have l2 : (4 : Int32).toInt = 4 := (by decide); have r0 := (bp_t hbr5052 h5053); have r1 := (bp_t hbr5056 h5057); have r2 := (i_b (p1)); have r3 := (i_b (p3)); (try have e1 : (p1 - 1 : Int32).toInt = (p1.toInt - 1) := i_subE rfl (by decide : (1 : Int32).toInt = 1) (by omega)); omega)); have r7 := (i_b (p1)); have r8 := (i_b (p3)); have r9 := (i_b (r5070)); have r10 := (i_b (v5065)); have r11 := (i_b (x5083)); (try have e1 : (p1 - 1 : Int32).toInt = (p1.toInt - 1) := i_subE rfl (by decide : (1 : Int32).toInt = 1) (by omega)); have e2 : (v5065 + 1 : Int32).toInt = (v5065.toInt + 1) := i_addE rfl (by decide : (1 : Int32).toInt = 1) (by omega); have d3 : x5083.toInt = (v5065.toInt + 1) := (congrArg Int32.toInt ex5083).trans e2; omega)
                · refine g_iload (pc1 := 88) d_Mod_menu_86 rfl 5 rfl ?_
                  refine g_if_lt (pc1 := 91) (tgt := 101) d_Mod_menu_88 (by decide) rfl (fun h5084 => ?_) (fun h5084 => ?_)
                  · refine g_iload (pc1 := 103) d_Mod_menu_101 rfl 7 rfl ?_
                    refine g_istore (pc1 := 105) (lv' := [(0, .ref 401), (1, .int p0), (2, .int p1), (3, .int p2), (4, .int p3), (5, .int v5065), (6, .int v5064), (7, .int v5065), (8, .int r5078)]) d_Mod_menu_103 rfl (by decide) [1, 2, 3, 4, 5, 0, 6, 7, 8] rfl ?_
                    refine g_iload (pc1 := 107) d_Mod_menu_105 rfl 8 rfl ?_
                    refine g_istore (pc1 := 109) (lv' := [(0, .ref 401), (1, .int p0), (2, .int p1), (3, .int p2), (4, .int p3), (5, .int v5065), (6, .int r5078), (7, .int v5065), (8, .int r5078)]) d_Mod_menu_107 rfl (by decide) [1, 2, 3, 4, 5, 6, 0, 7, 8] rfl ?_
                    obtain ⟨x5085, ex5085⟩ : ∃ y : Int32, y = v5065 + 1 := ⟨_, rfl⟩
                    refine g_iinc (pc1 := 112) (v := x5085) (lv' := [(0, .ref 401), (1, .int p0), (2, .int p1), (3, .int p2), (4, .int p3), (5, .int v5065), (6, .int r5078), (7, .int x5085), (8, .int r5078)]) d_Mod_menu_109 rfl 7 rfl (by rw [ex5085]; rfl) (by decide) [1, 2, 3, 4, 5, 6, 7, 0, 8] rfl ?_
                    refine g_goto (tgt := 61) d_Mod_menu_112 (by decide) ?_
                    refine Wp.loc (lv' := [(0, .ref 401), (1, .int p0), (2, .int p1), (3, .int p2), (4, .int p3), (5, .int v5065), (6, .int r5078), (7, .int x5085)]) [0, 1, 2, 3, 4, 5, 6, 7] rfl ?_
                    exact ih5060 v5065 r5078 x5085 M5079 L5080 (Kl.trans k5068 k5081) (by have l0 : (-1 : Int32).toInt = -1 := (by decide); have l1 : (1 : Int32).toInt = 1 := (by decide); have l2 : (4 : Int32).toInt = 4 := (by decide); have r0 := (mt i_le.mpr h5071); have r1 := n5069; have r2 := hbr5070; have r3 := (bp_t hbr5052 h5053); have r4 := (bp_t hbr5056 h5057); have r5 := (pow6_4 (n := p1) (by have l0 : (-1 : Int32).toInt = -1 := (by decide); have l1 : (1 : Int32).toInt = 1 := (by decide); have l2 : (4 : Int32).toInt = 4 := (by decide); have r0 := (bp_t hbr5052 h5053); have r1 := (bp_t hbr5056 h5057); have r2 := (i_b (p1)); have r3 := (i_b (p3)); (try have e1 : (p1 - 1 : Int32).toInt = (p1.toInt - 1) := i_subE rfl (by decide : (1 : Int32).toInt = 1) (by omega)); omega)); have r6 := (i_b (p1)); have r7 := (i_b (p3)); have r8 := (i_b (r5070)); have r9 := (i_b (v5065)); have r10 := (i_b (x5085)); (try have e1 : (p1 - 1 : Int32).toInt = (p1.toInt - 1) := i_subE rfl (by decide : (1 : Int32).toInt = 1) (by omega)); have e2 : (v5065 + 1 : Int32).toInt = (v5065.toInt + 1) := i_addE rfl (by decide : (1 : Int32).toInt = 1) (by omega); have d3 : x5085.toInt = (v5065.toInt + 1) := (congrArg Int32.toInt ex5085).trans e2; omega) (by have l0 : (-1 : Int32).toInt = -1 := (by decide); have l1 : (1 : Int32).toInt = 1 := (by decide); have l2 : (4 : Int32).toInt = 4 := (by decide); have r0 := (mt i_le.mpr h5071); have r1 := n5069; have r2 := hm5061; have r3 := hbr5070; have r4 := (bp_t hbr5052 h5053); have r5 := (bp_t hbr5056 h5057); have r6 := (pow6_4 (n := p1) (by have l0 : (-1 : Int32).toInt = -1 := (by decide); have l1 : (1 : Int32).toInt = 1 := (by decide); have l2 : (4 : Int32).toInt = 4 := (by decide); have r0 := (bp_t hbr5052 h5053); have r1 := (bp_t hbr5056 h5057); have r2 := (i_b (p1)); have r3 := (i_b (p3)); (try have e1 : (p1 - 1 : Int32).toInt = (p1.toInt - 1) := i_subE rfl (by decide : (1 : Int32).toInt = 1) (by omega)); omega)); have r7 := (i_b (p1)); have r8 := (i_b (p3)); have r9 := (i_b (r5070)); have r10 := (i_b (v5065)); have r11 := (i_b (x5085)); (try have e1 : (p1 - 1 : Int32).toInt = (p1.toInt - 1) := i_subE rfl (by decide : (1 : Int32).toInt = 1) (by omega)); have e2 : (v5065 + 1 : Int32).toInt = (v5065.toInt + 1) := i_addE rfl (by decide : (1 : Int32).toInt = 1) (by omega); have d3 : x5085.toInt = (v5065.toInt + 1) := (congrArg Int32.toInt ex5085).trans e2; omega)
                  · refine g_iload (pc1 := 93) d_Mod_menu_91 rfl 8 rfl ?_
                    refine g_iload (pc1 := 95) d_Mod_menu_93 rfl 6 rfl ?_
                    refine g_icmp_lt (pc1 := 98) (tgt := 101) d_Mod_menu_95 (by decide) rfl (fun h5086 => ?_) (fun h5086 => ?_)
                    · refine g_iload (pc1 := 103) d_Mod_menu_101 rfl 7 rfl ?_
                      refine g_istore (pc1 := 105) (lv' := [(0, .ref 401), (1, .int p0), (2, .int p1), (3, .int p2), (4, .int p3), (5, .int v5065), (6, .int v5064), (7, .int v5065), (8, .int r5078)]) d_Mod_menu_103 rfl (by decide) [1, 2, 3, 4, 5, 0, 6, 7, 8] rfl ?_
                      refine g_iload (pc1 := 107) d_Mod_menu_105 rfl 8 rfl ?_
                      refine g_istore (pc1 := 109) (lv' := [(0, .ref 401), (1, .int p0), (2, .int p1), (3, .int p2), (4, .int p3), (5, .int v5065), (6, .int r5078), (7, .int v5065), (8, .int r5078)]) d_Mod_menu_107 rfl (by decide) [1, 2, 3, 4, 5, 6, 0, 7, 8] rfl ?_
                      obtain ⟨x5087, ex5087⟩ : ∃ y : Int32, y = v5065 + 1 := ⟨_, rfl⟩
                      refine g_iinc (pc1 := 112) (v := x5087) (lv' := [(0, .ref 401), (1, .int p0), (2, .int p1), (3, .int p2), (4, .int p3), (5, .int v5065), (6, .int r5078), (7, .int x5087), (8, .int r5078)]) d_Mod_menu_109 rfl 7 rfl (by rw [ex5087]; rfl) (by decide) [1, 2, 3, 4, 5, 6, 7, 0, 8] rfl ?_
                      refine g_goto (tgt := 61) d_Mod_menu_112 (by decide) ?_
                      refine Wp.loc (lv' := [(0, .ref 401), (1, .int p0), (2, .int p1), (3, .int p2), (4, .int p3), (5, .int v5065), (6, .int r5078), (7, .int x5087)]) [0, 1, 2, 3, 4, 5, 6, 7] rfl ?_
                      exact ih5060 v5065 r5078 x5087 M5079 L5080 (Kl.trans k5068 k5081) (by have l0 : (-1 : Int32).toInt = -1 := (by decide); have l1 : (1 : Int32).toInt = 1 := (by decide); have l2 : (4 : Int32).toInt = 4 := (by decide); have r0 := (mt i_le.mpr h5071); have r1 := n5069; have r2 := hbr5070; have r3 := (bp_t hbr5052 h5053); have r4 := (bp_t hbr5056 h5057); have r5 := (pow6_4 (n := p1) (by have l0 : (-1 : Int32).toInt = -1 := (by decide); have l1 : (1 : Int32).toInt = 1 := (by decide); have l2 : (4 : Int32).toInt = 4 := (by decide); have r0 := (bp_t hbr5052 h5053); have r1 := (bp_t hbr5056 h5057); have r2 := (i_b (p1)); have r3 := (i_b (p3)); (try have e1 : (p1 - 1 : Int32).toInt = (p1.toInt - 1) := i_subE rfl (by decide : (1 : Int32).toInt = 1) (by omega)); omega)); have r6 := (i_b (p1)); have r7 := (i_b (p3)); have r8 := (i_b (r5070)); have r9 := (i_b (v5065)); have r10 := (i_b (x5087)); (try have e1 : (p1 - 1 : Int32).toInt = (p1.toInt - 1) := i_subE rfl (by decide : (1 : Int32).toInt = 1) (by omega)); have e2 : (v5065 + 1 : Int32).toInt = (v5065.toInt + 1) := i_addE rfl (by decide : (1 : Int32).toInt = 1) (by omega); have d3 : x5087.toInt = (v5065.toInt + 1) := (congrArg Int32.toInt ex5087).trans e2; omega) (by have l0 : (-1 : Int32).toInt = -1 := (by decide); have l1 : (1 : Int32).toInt = 1 := (by decide); have l2 : (4 : Int32).toInt = 4 := (by decide); have r0 := (mt i_le.mpr h5071); have r1 := n5069; have r2 := hm5061; have r3 := hbr5070; have r4 := (bp_t hbr5052 h5053); have r5 := (bp_t hbr5056 h5057); have r6 := (pow6_4 (n := p1) (by have l0 : (-1 : Int32).toInt = -1 := (by decide); have l1 : (1 : Int32).toInt = 1 := (by decide); have l2 : (4 : Int32).toInt = 4 := (by decide); have r0 := (bp_t hbr5052 h5053); have r1 := (bp_t hbr5056 h5057); have r2 := (i_b (p1)); have r3 := (i_b (p3)); (try have e1 : (p1 - 1 : Int32).toInt = (p1.toInt - 1) := i_subE rfl (by decide : (1 : Int32).toInt = 1) (by omega)); omega)); have r7 := (i_b (p1)); have r8 := (i_b (p3)); have r9 := (i_b (r5070)); have r10 := (i_b (v5065)); have r11 := (i_b (x5087)); (try have e1 : (p1 - 1 : Int32).toInt = (p1.toInt - 1) := i_subE rfl (by decide : (1 : Int32).toInt = 1) (by omega)); have e2 : (v5065 + 1 : Int32).toInt = (v5065.toInt + 1) := i_addE rfl (by decide : (1 : Int32).toInt = 1) (by omega); have d3 : x5087.toInt = (v5065.toInt + 1) := (congrArg Int32.toInt ex5087).trans e2; omega)
                    · refine g_goto (tgt := 109) d_Mod_menu_98 (by decide) ?_
                      obtain ⟨x5088, ex5088⟩ : ∃ y : Int32, y = v5065 + 1 := ⟨_, rfl⟩
                      refine g_iinc (pc1 := 112) (v := x5088) (lv' := [(0, .ref 401), (1, .int p0), (2, .int p1), (3, .int p2), (4, .int p3), (5, .int v5063), (6, .int v5064), (7, .int x5088), (8, .int r5078)]) d_Mod_menu_109 rfl 7 rfl (by rw [ex5088]; rfl) (by decide) [1, 2, 3, 4, 5, 6, 7, 0, 8] rfl ?_
                      refine g_goto (tgt := 61) d_Mod_menu_112 (by decide) ?_
                      refine Wp.loc (lv' := [(0, .ref 401), (1, .int p0), (2, .int p1), (3, .int p2), (4, .int p3), (5, .int v5063), (6, .int v5064), (7, .int x5088)]) [0, 1, 2, 3, 4, 5, 6, 7] rfl ?_
                      exact ih5060 v5063 v5064 x5088 M5079 L5080 (Kl.trans k5068 k5081) (by have l0 : (-1 : Int32).toInt = -1 := (by decide); have l1 : (1 : Int32).toInt = 1 := (by decide); have l2 : (4 : Int32).toInt = 4 := (by decide); have r0 := (mt i_le.mpr h5071); have r1 := n5069; have r2 := hbr5070; have r3 := (bp_t hbr5052 h5053); have r4 := (bp_t hbr5056 h5057); have r5 := (pow6_4 (n := p1) (by have l0 : (-1 : Int32).toInt = -1 := (by decide); have l1 : (1 : Int32).toInt = 1 := (by decide); have l2 : (4 : Int32).toInt = 4 := (by decide); have r0 := (bp_t hbr5052 h5053); have r1 := (bp_t hbr5056 h5057); have r2 := (i_b (p1)); have r3 := (i_b (p3)); (try have e1 : (p1 - 1 : Int32).toInt = (p1.toInt - 1) := i_subE rfl (by decide : (1 : Int32).toInt = 1) (by omega)); omega)); have r6 := (i_b (p1)); have r7 := (i_b (p3)); have r8 := (i_b (r5070)); have r9 := (i_b (v5065)); have r10 := (i_b (x5088)); (try have e1 : (p1 - 1 : Int32).toInt = (p1.toInt - 1) := i_subE rfl (by decide : (1 : Int32).toInt = 1) (by omega)); have e2 : (v5065 + 1 : Int32).toInt = (v5065.toInt + 1) := i_addE rfl (by decide : (1 : Int32).toInt = 1) (by omega); have d3 : x5088.toInt = (v5065.toInt + 1) := (congrArg Int32.toInt ex5088).trans e2; omega) (by have l0 : (-1 : Int32).toInt = -1 := (by decide); have l1 : (1 : Int32).toInt = 1 := (by decide); have l2 : (4 : Int32).toInt = 4 := (by decide); have r0 := (mt i_le.mpr h5071); have r1 := n5069; have r2 := hm5061; have r3 := hbr5070; have r4 := (bp_t hbr5052 h5053); have r5 := (bp_t hbr5056 h5057); have r6 := (pow6_4 (n := p1) (by have l0 : (-1 : Int32).toInt = -1 := (by decide); have l1 : (1 : Int32).toInt = 1 := (by decide); have l2 : (4 : Int32).toInt = 4 := (by decide); have r0 := (bp_t hbr5052 h5053); have r1 := (bp_t hbr5056 h5057); have r2 := (i_b (p1)); have r3 := (i_b (p3)); (try have e1 : (p1 - 1 : Int32).toInt = (p1.toInt - 1) := i_subE rfl (by decide : (1 : Int32).toInt = 1) (by omega)); omega)); have r7 := (i_b (p1)); have r8 := (i_b (p3)); have r9 := (i_b (r5070)); have r10 := (i_b (v5065)); have r11 := (i_b (x5088)); (try have e1 : (p1 - 1 : Int32).toInt = (p1.toInt - 1) := i_subE rfl (by decide : (1 : Int32).toInt = 1) (by omega)); have e2 : (v5065 + 1 : Int32).toInt = (v5065.toInt + 1) := i_addE rfl (by decide : (1 : Int32).toInt = 1) (by omega); have d3 : x5088.toInt = (v5065.toInt + 1) := (congrArg Int32.toInt ex5088).trans e2; omega)
          exact LP5062 _ x5058 0 0 M L Kl.rf (by decide) (Nat.lt_succ_self _)
        · refine g_iconst (pc1 := 51) (v := (-1)) d_Mod_menu_50 rfl (by decide) ?_
          refine g_ireturn (Or.inl rfl) d_Mod_menu_51 rfl ?_
          exact hQ _ _ _ Kl.rf
set_option maxHeartbeats 4000000 in
set_option maxRecDepth 20000 in
theorem t2_Mod_supper {l : Launch} {ld : Nat} (hld : isLa ld) {M : gM} {L : gL} {Q : Option Value → gM → gL → gR → Prop} (hI : Inv M)   (hQ : ∀ (r : Int32) (M' : gM) (L' : gL), Kl MS1 M L M' L' → Q (some (.int r)) M' L' (rf ld)) : Tm l y_Mod_supper (0, 0, 447) 447 [.ref 401] M L (rf ld) Q := by
  refine Tm.of (by decide) (Nat.le_of_ble_eq_true rfl) ?_
  show Wp l y_Mod_supper (0, 0, 447) 447 0 0 0 [(0, .ref 401)] [] M L (rf ld) Q
  refine g_iconst (pc1 := 1) (v := 0) d_Mod_supper_0 rfl (by decide) ?_
  refine g_istore_n (pc1 := 2) (lv' := [(0, .ref 401), (1, .int 0)]) d_Mod_supper_1 rfl rfl (by decide) [1, 0] rfl ?_
  refine g_iconst (pc1 := 3) (v := 0) d_Mod_supper_2 rfl (by decide) ?_
  refine g_istore_n (pc1 := 4) (lv' := [(0, .ref 401), (1, .int 0), (2, .int 0)]) d_Mod_supper_3 rfl rfl (by decide) [1, 2, 0] rfl ?_
  have LP5092 : ∀ (f5089 : Nat) (v5093 : Int32) (v5094 : Int32) (M5095 : gM) (L5096 : gL), Kl MS1 M L M5095 L5096 → (0 ≤ v5094.toInt) → (((M 418 ((M 401 18) : Int32).toNatClampNeg) : Int32).toInt - v5094.toInt).toNat < f5089 → Wp l y_Mod_supper (0, 0, 447) 447 0 0 4 [(0, .ref 401), (1, .int v5093), (2, .int v5094)] [] M5095 L5096 (rf ld) Q := by
    intro f5089
    induction f5089 with
    | zero => intro v5093 v5094 M5095 L5096 _ _ hm5091; exact absurd hm5091 (Nat.not_lt_zero _)
    | succ f5089 ih5090 =>
      intro v5093 v5094 M5095 L5096 k5097 n5098 hm5091
      refine g_iload_n (pc1 := 5) d_Mod_supper_4 rfl 2 rfl ?_
      refine g_aload_n (pc1 := 6) d_Mod_supper_5 rfl 0 rfl ?_
      refine g_getr (pc1 := 9) d_Mod_supper_6 rfl ⟨_, fo_Mod_67⟩ sh_401 (by decide) (rf_401_30 ld) ?_
      refine g_aload_n (pc1 := 10) d_Mod_supper_9 rfl 0 rfl ?_
      refine g_geti (pc1 := 13) d_Mod_supper_10 rfl ⟨_, fo_Mod_236⟩ sh_401 (by decide) ?_
      refine Wp.vali (y := (M 401 18)) (Kl.m k5097 rfl) ?_
      refine g_iald (pc1 := 14) d_Mod_supper_13 rfl sh_418 (by decide) (by have r0 := hI.live; have r1 := (i_b (M 401 18)); exact vin_i (by omega) (by omega)) ?_
      refine Wp.vali (y := (M 418 ((M 401 18) : Int32).toNatClampNeg)) (Kl.m k5097 rfl) ?_
      refine g_icmp_ge (pc1 := 17) (tgt := 48) d_Mod_supper_14 (by decide) rfl (fun h5099 => ?_) (fun h5099 => ?_)
      · refine g_iload_n (pc1 := 49) d_Mod_supper_48 rfl 1 rfl ?_
        refine g_ireturn (Or.inl rfl) d_Mod_supper_49 rfl ?_
        exact hQ _ _ _ k5097
      · refine g_aload_n (pc1 := 18) d_Mod_supper_17 rfl 0 rfl ?_
        refine g_getr (pc1 := 21) d_Mod_supper_18 rfl ⟨_, fo_Mod_58⟩ sh_401 (by decide) (rf_401_27 ld) ?_
        refine g_aload_n (pc1 := 22) d_Mod_supper_21 rfl 0 rfl ?_
        refine g_geti (pc1 := 25) d_Mod_supper_22 rfl ⟨_, fo_Mod_236⟩ sh_401 (by decide) ?_
        refine Wp.vali (y := (M 401 18)) (Kl.m k5097 rfl) ?_
        refine g_iald (pc1 := 26) d_Mod_supper_25 rfl sh_415 (by decide) (by have r0 := hI.live; have r1 := (i_b (M 401 18)); exact vin_i (by omega) (by omega)) ?_
        refine Wp.vali (y := (M 415 ((M 401 18) : Int32).toNatClampNeg)) (Kl.m k5097 rfl) ?_
        refine g_if_le (pc1 := 29) (tgt := 48) d_Mod_supper_26 (by decide) rfl (fun h5100 => ?_) (fun h5100 => ?_)
        · refine g_iload_n (pc1 := 49) d_Mod_supper_48 rfl 1 rfl ?_
          refine g_ireturn (Or.inl rfl) d_Mod_supper_49 rfl ?_
          exact hQ _ _ _ k5097
        · refine g_aload_n (pc1 := 30) d_Mod_supper_29 rfl 0 rfl ?_
          refine g_iload_n (pc1 := 31) d_Mod_supper_30 rfl 2 rfl ?_
          refine g_callV0 (pc1 := 34) (As := [.int v5094]) (rest := []) d_Mod_supper_31 rfl mo_Mod_437 mi_Mod_freestOf mv_Mod_freestOf rfl sh_401 (by decide) (by decide) rfl rfl (Nat.le_of_ble_eq_true rfl) ?_
          refine t2_Mod_freestOf hld (Inv.keep hI inv_MS1 k5097) _ (by have r0 := (mt i_le.mpr h5099); have r1 := n5098; have r2 := (hI.guests (((M 401 18) : Int32).toNatClampNeg)); have r3 := (i_b (M 418 (M 401 18).toNatClampNeg)); have r4 := (i_b (v5094)); omega) (fun r5101 M5102 L5103 k5104 => ?_)
          refine g_pop (pc1 := 35) d_Mod_supper_34 rfl rfl ?_
          refine g_iload_n (pc1 := 36) d_Mod_supper_35 rfl 1 rfl ?_
          refine g_aload_n (pc1 := 37) d_Mod_supper_36 rfl 0 rfl ?_
          refine g_geti (pc1 := 40) d_Mod_supper_37 rfl ⟨_, fo_Mod_428⟩ sh_401 (by decide) ?_
          refine g_iadd (pc1 := 41) d_Mod_supper_40 rfl ?_
          refine Wp.topi (fun x5105 ex5105 => ?_)
          refine g_istore_n (pc1 := 42) (lv' := [(0, .ref 401), (1, .int x5105), (2, .int v5094)]) d_Mod_supper_41 rfl rfl (by decide) [1, 0, 2] rfl ?_
          obtain ⟨x5106, ex5106⟩ : ∃ y : Int32, y = v5094 + 1 := ⟨_, rfl⟩
          refine g_iinc (pc1 := 45) (v := x5106) (lv' := [(0, .ref 401), (1, .int x5105), (2, .int x5106)]) d_Mod_supper_42 rfl 2 rfl (by rw [ex5106]; rfl) (by decide) [1, 2, 0] rfl ?_
          refine g_goto (tgt := 4) d_Mod_supper_45 (by decide) ?_
          exact ih5090 x5105 x5106 M5102 L5103 (Kl.trans k5097 k5104) (by have l0 : (1 : Int32).toInt = 1 := (by decide); have r0 := (mt i_le.mpr h5099); have r1 := n5098; have r2 := (hI.guests (((M 401 18) : Int32).toNatClampNeg)); have r3 := (i_b (M 418 (M 401 18).toNatClampNeg)); have r4 := (i_b (v5094)); have r5 := (i_b (x5106)); have e1 : (v5094 + 1 : Int32).toInt = (v5094.toInt + 1) := i_addE rfl (by decide : (1 : Int32).toInt = 1) (by omega); have d2 : x5106.toInt = (v5094.toInt + 1) := (congrArg Int32.toInt ex5106).trans e1; omega) (by have l0 : (1 : Int32).toInt = 1 := (by decide); have r0 := (mt i_le.mpr h5099); have r1 := n5098; have r2 := hm5091; have r3 := (hI.guests (((M 401 18) : Int32).toNatClampNeg)); have r4 := (i_b (M 418 (M 401 18).toNatClampNeg)); have r5 := (i_b (v5094)); have r6 := (i_b (x5106)); have e1 : (v5094 + 1 : Int32).toInt = (v5094.toInt + 1) := i_addE rfl (by decide : (1 : Int32).toInt = 1) (by omega); have d2 : x5106.toInt = (v5094.toInt + 1) := (congrArg Int32.toInt ex5106).trans e1; omega)
  exact LP5092 _ 0 0 M L Kl.rf (by decide) (Nat.lt_succ_self _)
