set_option maxHeartbeats 4000000 in
set_option maxRecDepth 20000 in
theorem t2_Mod_cooks {l : Launch} {ld : Nat} (hld : isLa ld) {M : gM} {L : gL} {Q : Option Value → gM → gL → gR → Prop} (hI : Inv M) (p0 : Int32) (h0 : 0 ≤ (p0 : Int32).toInt ∧ (p0 : Int32).toInt < (M 415 (M 401 18).toNatClampNeg).toInt) (hQ : ∀ (r : Int32) (M' : gM) (L' : gL), Kl MS1 M L M' L' → Q (some (.int r)) M' L' (rf ld)) : Tm l y_Mod_cooks (0, 0, 447) 447 [.ref 401, .int p0] M L (rf ld) Q := by
  refine Tm.of (by decide) (Nat.le_of_ble_eq_true rfl) ?_
  show Wp l y_Mod_cooks (0, 0, 447) 447 0 0 0 [(0, .ref 401), (1, .int p0)] [] M L (rf ld) Q
  refine g_aload_n (pc1 := 1) d_Mod_cooks_0 rfl 0 rfl ?_
  refine g_getr (pc1 := 4) d_Mod_cooks_1 rfl ⟨_, fo_Mod_61⟩ sh_401 (by decide) (rf_401_28 ld) ?_
  refine g_iconst (pc1 := 5) (v := 5) d_Mod_cooks_4 rfl (by decide) ?_
  refine g_aload_n (pc1 := 6) d_Mod_cooks_5 rfl 0 rfl ?_
  refine g_geti (pc1 := 9) d_Mod_cooks_6 rfl ⟨_, fo_Mod_236⟩ sh_401 (by decide) ?_
  refine g_imul (pc1 := 10) d_Mod_cooks_9 rfl ?_
  refine g_iload_n (pc1 := 11) d_Mod_cooks_10 rfl 1 rfl ?_
  refine g_iadd (pc1 := 12) d_Mod_cooks_11 rfl ?_
  refine g_iald (pc1 := 13) d_Mod_cooks_12 rfl sh_416 (by decide) (by have l0 : (5 : Int32).toInt = 5 := (by decide); have r0 := h0; have r1 := hI.live; have r2 := (hI.dishes (M 401 18).toNatClampNeg); have r3 := (i_b (M 401 18)); have r4 := (i_b (M 415 (M 401 18).toNatClampNeg)); have r5 := (i_b (p0)); have e1 : (5 * (M 401 18) : Int32).toInt = (5 * ((M 401 18) : Int32).toInt) := i_mulE (by decide : (5 : Int32).toInt = 5) rfl (by omega); have e2 : ((5 * (M 401 18)) + p0 : Int32).toInt = ((5 * ((M 401 18) : Int32).toInt) + p0.toInt) := i_addE e1 rfl (by omega); exact vin_i (by omega) (by omega)) ?_
  refine Wp.topi (fun x4122 ex4122 => ?_)
  refine g_istore_n (pc1 := 14) (lv' := [(0, .ref 401), (1, .int p0), (2, .int x4122)]) d_Mod_cooks_13 rfl rfl (by decide) [1, 2, 0] rfl ?_
  refine g_aload_n (pc1 := 15) d_Mod_cooks_14 rfl 0 rfl ?_
  refine g_iload_n (pc1 := 16) d_Mod_cooks_15 rfl 1 rfl ?_
  refine g_callV0 (pc1 := 19) (As := [.int p0]) (rest := []) d_Mod_cooks_16 rfl mo_Mod_356 mi_Mod_fillsPot mv_Mod_fillsPot rfl sh_401 (by decide) (by decide) rfl rfl (Nat.le_of_ble_eq_true rfl) ?_
  refine t2_Mod_fillsPot hld hI _ (by have r0 := h0; have r1 := (hI.dishes (M 401 18).toNatClampNeg); have r2 := (i_b (M 415 (M 401 18).toNatClampNeg)); have r3 := (i_b (p0)); omega) (fun  M4123 L4124 k4125 => ?_)
  refine g_iconst (pc1 := 20) (v := 0) d_Mod_cooks_19 rfl (by decide) ?_
  refine g_istore_n (pc1 := 21) (lv' := [(0, .ref 401), (1, .int p0), (2, .int x4122), (3, .int 0)]) d_Mod_cooks_20 rfl rfl (by decide) [1, 2, 3, 0] rfl ?_
  have LP4129 : ∀ (f4126 : Nat) (v4130 : Int32) (M4131 : gM) (L4132 : gL), Kl MS1 M L M4131 L4132 → (0 ≤ v4130.toInt) → (((M 411 ((M 401 18) : Int32).toNatClampNeg) : Int32).toInt - v4130.toInt).toNat < f4126 → Wp l y_Mod_cooks (0, 0, 447) 447 0 0 21 [(0, .ref 401), (1, .int p0), (2, .int x4122), (3, .int v4130)] [] M4131 L4132 (rf ld) Q := by
    intro f4126
    induction f4126 with
    | zero => intro v4130 M4131 L4132 _ _ hm4128; exact absurd hm4128 (Nat.not_lt_zero _)
    | succ f4126 ih4127 =>
      intro v4130 M4131 L4132 k4133 n4134 hm4128
      refine g_iload_n (pc1 := 22) d_Mod_cooks_21 rfl 3 rfl ?_
      refine g_aload_n (pc1 := 23) d_Mod_cooks_22 rfl 0 rfl ?_
      refine g_getr (pc1 := 26) d_Mod_cooks_23 rfl ⟨_, fo_Mod_46⟩ sh_401 (by decide) (rf_401_23 ld) ?_
      refine g_aload_n (pc1 := 27) d_Mod_cooks_26 rfl 0 rfl ?_
      refine g_geti (pc1 := 30) d_Mod_cooks_27 rfl ⟨_, fo_Mod_236⟩ sh_401 (by decide) ?_
      refine Wp.vali (y := (M 401 18)) (Kl.m k4133 rfl) ?_
      refine g_iald (pc1 := 31) d_Mod_cooks_30 rfl sh_411 (by decide) (by have r0 := hI.live; have r1 := (i_b (M 401 18)); exact vin_i (by omega) (by omega)) ?_
      refine Wp.vali (y := (M 411 ((M 401 18) : Int32).toNatClampNeg)) (Kl.m k4133 rfl) ?_
      refine g_icmp_ge (pc1 := 34) (tgt := 55) d_Mod_cooks_31 (by decide) rfl (fun h4135 => ?_) (fun h4135 => ?_)
      · refine g_aload_n (pc1 := 56) d_Mod_cooks_55 rfl 0 rfl ?_
        refine g_getr (pc1 := 59) d_Mod_cooks_56 rfl ⟨_, fo_Mod_125⟩ sh_401 (by decide) (rf_401_53 ld) ?_
        refine g_bipush (pc1 := 61) (v := 36) d_Mod_cooks_59 rfl (by decide) ?_
        refine g_dup2 (pc1 := 62) d_Mod_cooks_61 rfl rfl rfl ?_
        refine g_iald (pc1 := 63) d_Mod_cooks_62 rfl sh_437 (by decide) (vin_lit (x := 36) (by decide)) ?_
        refine g_aload_n (pc1 := 64) d_Mod_cooks_63 rfl 0 rfl ?_
        refine g_callV0 (pc1 := 67) (As := []) (rest := [.int (M4131 437 (36 : Int32).toNatClampNeg), .int 36, .ref 437]) d_Mod_cooks_64 rfl mo_Mod_362 mi_Mod_potPrice mv_Mod_potPrice rfl sh_401 (by decide) (by decide) rfl rfl (Nat.le_of_ble_eq_true rfl) ?_
        refine t2_Mod_potPrice hld (Inv.keep hI inv_MS1 k4133)   (fun r4136 => ?_)
        refine g_iadd (pc1 := 68) d_Mod_cooks_67 rfl ?_
        refine g_iast (pc1 := 69) d_Mod_cooks_68 rfl sh_437 (by decide) (vin_lit (x := 36) (by decide)) ?_
        refine Wp.topM (fun M4137 eM4137 => ?_)
        refine g_aload_n (pc1 := 70) d_Mod_cooks_69 rfl 0 rfl ?_
        refine g_callV0 (pc1 := 73) (As := []) (rest := []) d_Mod_cooks_70 rfl mo_Mod_336 mi_Mod_looks mv_Mod_looks rfl sh_401 (by decide) (by decide) rfl rfl (Nat.le_of_ble_eq_true rfl) ?_
        refine t2_Mod_looks hld (Inv.keep hI inv_MS1 (Kl.wM k4133 rfl eM4137))   (fun  M4138 L4139 k4140 => ?_)
        refine g_aload_n (pc1 := 74) d_Mod_cooks_73 rfl 0 rfl ?_
        refine g_getr (pc1 := 77) d_Mod_cooks_74 rfl ⟨_, fo_Mod_116⟩ sh_401 (by decide) (rf_401_49 ld) ?_
        refine g_iconst (pc1 := 78) (v := 1) d_Mod_cooks_77 rfl (by decide) ?_
        refine g_iload_n (pc1 := 79) d_Mod_cooks_78 rfl 2 rfl ?_
        refine g_iast (pc1 := 80) d_Mod_cooks_79 rfl sh_434 (by decide) (vin_lit (x := 1) (by decide)) ?_
        refine Wp.topM (fun M4141 eM4141 => ?_)
        refine g_aload_n (pc1 := 81) d_Mod_cooks_80 rfl 0 rfl ?_
        refine g_getr (pc1 := 84) d_Mod_cooks_81 rfl ⟨_, fo_Mod_116⟩ sh_401 (by decide) (rf_401_49 ld) ?_
        refine g_iconst (pc1 := 85) (v := 3) d_Mod_cooks_84 rfl (by decide) ?_
        refine g_aload_n (pc1 := 86) d_Mod_cooks_85 rfl 0 rfl ?_
        refine g_callV0 (pc1 := 89) (As := []) (rest := [.int 3, .ref 434]) d_Mod_cooks_86 rfl mo_Mod_339 mi_Mod_potMany mv_Mod_potMany rfl sh_401 (by decide) (by decide) rfl rfl (Nat.le_of_ble_eq_true rfl) ?_
        refine t2_Mod_potMany hld (Inv.keep hI inv_MS1 (Kl.wM (Kl.trans (Kl.wM k4133 rfl eM4137) (Kl.mono k4140 MS0_MS1)) rfl eM4141))   (fun r4142 => ?_)
        refine g_iast (pc1 := 90) d_Mod_cooks_89 rfl sh_434 (by decide) (vin_lit (x := 3) (by decide)) ?_
        refine Wp.topM (fun M4143 eM4143 => ?_)
        refine g_bipush (pc1 := 92) (v := (-2)) d_Mod_cooks_90 rfl (by decide) ?_
        refine Wp.topi (fun x4144 ex4144 => ?_)
        refine g_istore_n (pc1 := 93) (lv' := [(0, .ref 401), (1, .int p0), (2, .int x4122), (3, .int x4144)]) d_Mod_cooks_92 rfl rfl (by decide) [1, 2, 3, 0] rfl ?_
        refine g_aload_n (pc1 := 94) d_Mod_cooks_93 rfl 0 rfl ?_
        refine g_bipush (pc1 := 96) (v := 8) d_Mod_cooks_94 rfl (by decide) ?_
        refine g_aload_n (pc1 := 97) d_Mod_cooks_96 rfl 0 rfl ?_
        refine g_getr (pc1 := 100) d_Mod_cooks_97 rfl ⟨_, fo_Mod_125⟩ sh_401 (by decide) (rf_401_53 ld) ?_
        refine g_bipush (pc1 := 102) (v := 37) d_Mod_cooks_100 rfl (by decide) ?_
        refine g_iald (pc1 := 103) d_Mod_cooks_102 rfl sh_437 (by decide) (vin_lit (x := 37) (by decide)) ?_
        refine Wp.vali (y := (M4137 437 (37 : Int32).toNatClampNeg)) (((rd_ne eM4143 (fun q => absurd q.1 (by decide))).trans (rd_ne eM4141 (fun q => absurd q.1 (by decide)))).trans (Kl.m k4140 rfl)) ?_
        refine g_imul (pc1 := 104) d_Mod_cooks_103 rfl ?_
        refine g_bipush (pc1 := 106) (v := 100) d_Mod_cooks_104 rfl (by decide) ?_
        refine g_callV0 (pc1 := 109) (As := [.int (8 * (M4137 437 (37 : Int32).toNatClampNeg)), .int 100]) (rest := []) d_Mod_cooks_106 rfl mo_Mod_365 mi_Mod_lotOf mv_Mod_lotOf rfl sh_401 (by decide) (by decide) rfl rfl (Nat.le_of_ble_eq_true rfl) ?_
        refine t2_Mod_lotOf hld (Inv.keep hI inv_MS1 (Kl.wM (Kl.wM (Kl.trans (Kl.wM k4133 rfl eM4137) (Kl.mono k4140 MS0_MS1)) rfl eM4141) rfl eM4143)) _ _ (by have l0 : (100 : Int32).toInt = 100 := (by decide); omega) (fun r4145 hbr4145 => ?_)
        refine g_aload_n (pc1 := 110) d_Mod_cooks_109 rfl 0 rfl ?_
        refine g_iconst (pc1 := 111) (v := 3) d_Mod_cooks_110 rfl (by decide) ?_
        refine g_iconst (pc1 := 112) (v := 0) d_Mod_cooks_111 rfl (by decide) ?_
        refine g_iconst (pc1 := 113) (v := 0) d_Mod_cooks_112 rfl (by decide) ?_
        refine g_bipush (pc1 := 115) (v := 100) d_Mod_cooks_113 rfl (by decide) ?_
        refine g_callV0 (pc1 := 118) (As := [.int 3, .int 0, .int 0, .int 100]) (rest := [.int r4145]) d_Mod_cooks_115 rfl mo_Mod_342 mi_Mod_asks mv_Mod_asks rfl sh_401 (by decide) (by decide) rfl rfl (Nat.le_of_ble_eq_true rfl) ?_
        refine t2_Mod_asks hld (Inv.keep hI inv_MS1 (Kl.wM (Kl.wM (Kl.trans (Kl.wM k4133 rfl eM4137) (Kl.mono k4140 MS0_MS1)) rfl eM4141) rfl eM4143)) _ _ _ _ (by have l0 : (3 : Int32).toInt = 3 := (by decide); omega) (by have l0 : (0 : Int32).toInt = 0 := (by decide); have l1 : (100 : Int32).toInt = 100 := (by decide); omega) (fun r4146 M4147 L4148 hbr4146 k4149 => ?_)
        refine g_icmp_ge (pc1 := 121) (tgt := 147) d_Mod_cooks_118 (by decide) rfl (fun h4150 => ?_) (fun h4150 => ?_)
        · refine g_iload_n (pc1 := 148) d_Mod_cooks_147 rfl 3 rfl ?_
          refine g_if_lt (pc1 := 151) (tgt := 163) d_Mod_cooks_148 (by decide) rfl (fun h4151 => ?_) (fun h4151 => ?_)
          · refine g_iload_n (pc1 := 164) d_Mod_cooks_163 rfl 3 rfl ?_
            refine g_if_lt (pc1 := 167) (tgt := 187) d_Mod_cooks_164 (by decide) rfl (fun h4152 => ?_) (fun h4152 => ?_)
            · refine g_aload_n (pc1 := 188) d_Mod_cooks_187 rfl 0 rfl ?_
              refine g_getr (pc1 := 191) d_Mod_cooks_188 rfl ⟨_, fo_Mod_125⟩ sh_401 (by decide) (rf_401_53 ld) ?_
              refine g_bipush (pc1 := 193) (v := 11) d_Mod_cooks_191 rfl (by decide) ?_
              refine g_iload_n (pc1 := 194) d_Mod_cooks_193 rfl 1 rfl ?_
              refine g_iast (pc1 := 195) d_Mod_cooks_194 rfl sh_437 (by decide) (vin_lit (x := 11) (by decide)) ?_
              refine Wp.topM (fun M4153 eM4153 => ?_)
              refine g_iconst (pc1 := 196) (v := 0) d_Mod_cooks_195 rfl (by decide) ?_
              refine g_istore (pc1 := 198) (lv' := [(0, .ref 401), (1, .int p0), (2, .int x4122), (3, .int x4144), (4, .int 0)]) d_Mod_cooks_196 rfl (by decide) [1, 2, 3, 4, 0] rfl ?_
              have LP4157 : ∀ (f4154 : Nat) (v4158 : Int32) (M4159 : gM) (L4160 : gL), Kl MS1 M L M4159 L4160 → (0 ≤ v4158.toInt) → ((3 : Int32).toInt - v4158.toInt).toNat < f4154 → Wp l y_Mod_cooks (0, 0, 447) 447 0 0 198 [(0, .ref 401), (1, .int p0), (2, .int x4122), (3, .int x4144), (4, .int v4158)] [] M4159 L4160 (rf ld) Q := by
                intro f4154
                induction f4154 with
                | zero => intro v4158 M4159 L4160 _ _ hm4156; exact absurd hm4156 (Nat.not_lt_zero _)
                | succ f4154 ih4155 =>
                  intro v4158 M4159 L4160 k4161 n4162 hm4156
                  refine g_iload (pc1 := 200) d_Mod_cooks_198 rfl 4 rfl ?_
                  refine g_iconst (pc1 := 201) (v := 3) d_Mod_cooks_200 rfl (by decide) ?_
                  refine g_icmp_ge (pc1 := 204) (tgt := 227) d_Mod_cooks_201 (by decide) rfl (fun h4163 => ?_) (fun h4163 => ?_)
                  · refine g_aload_n (pc1 := 228) d_Mod_cooks_227 rfl 0 rfl ?_
                    refine g_getr (pc1 := 231) d_Mod_cooks_228 rfl ⟨_, fo_Mod_125⟩ sh_401 (by decide) (rf_401_53 ld) ?_
                    refine g_bipush (pc1 := 233) (v := 6) d_Mod_cooks_231 rfl (by decide) ?_
                    refine g_iload_n (pc1 := 234) d_Mod_cooks_233 rfl 1 rfl ?_
                    refine g_iadd (pc1 := 235) d_Mod_cooks_234 rfl ?_
                    refine g_dup2 (pc1 := 236) d_Mod_cooks_235 rfl rfl rfl ?_
                    refine g_iald (pc1 := 237) d_Mod_cooks_236 rfl sh_437 (by decide) (by have l0 : (6 : Int32).toInt = 6 := (by decide); have r0 := h0; have r1 := (hI.dishes (M 401 18).toNatClampNeg); have r2 := (i_b (M 415 (M 401 18).toNatClampNeg)); have r3 := (i_b (p0)); have e1 : (6 + p0 : Int32).toInt = (6 + p0.toInt) := i_addE (by decide : (6 : Int32).toInt = 6) rfl (by omega); exact vin_i (by omega) (by omega)) ?_
                    refine g_iconst (pc1 := 238) (v := 1) d_Mod_cooks_237 rfl (by decide) ?_
                    refine g_iadd (pc1 := 239) d_Mod_cooks_238 rfl ?_
                    refine g_iast (pc1 := 240) d_Mod_cooks_239 rfl sh_437 (by decide) (by have l0 : (6 : Int32).toInt = 6 := (by decide); have r0 := h0; have r1 := (hI.dishes (M 401 18).toNatClampNeg); have r2 := (i_b (M 415 (M 401 18).toNatClampNeg)); have r3 := (i_b (p0)); have e1 : (6 + p0 : Int32).toInt = (6 + p0.toInt) := i_addE (by decide : (6 : Int32).toInt = 6) rfl (by omega); exact vin_i (by omega) (by omega)) ?_
                    refine Wp.topM (fun M4164 eM4164 => ?_)
                    refine g_aload_n (pc1 := 241) d_Mod_cooks_240 rfl 0 rfl ?_
                    refine g_getr (pc1 := 244) d_Mod_cooks_241 rfl ⟨_, fo_Mod_125⟩ sh_401 (by decide) (rf_401_53 ld) ?_
                    refine g_bipush (pc1 := 246) (v := 37) d_Mod_cooks_244 rfl (by decide) ?_
                    refine g_dup2 (pc1 := 247) d_Mod_cooks_246 rfl rfl rfl ?_
                    refine g_iald (pc1 := 248) d_Mod_cooks_247 rfl sh_437 (by decide) (vin_lit (x := 37) (by decide)) ?_
                    refine g_iconst (pc1 := 249) (v := 1) d_Mod_cooks_248 rfl (by decide) ?_
                    refine g_iadd (pc1 := 250) d_Mod_cooks_249 rfl ?_
                    refine g_iast (pc1 := 251) d_Mod_cooks_250 rfl sh_437 (by decide) (vin_lit (x := 37) (by decide)) ?_
                    refine Wp.topM (fun M4165 eM4165 => ?_)
                    refine g_iload_n (pc1 := 252) d_Mod_cooks_251 rfl 3 rfl ?_
                    refine g_ireturn (Or.inl rfl) d_Mod_cooks_252 rfl ?_
                    exact hQ _ _ _ (Kl.wM (Kl.wM k4161 rfl eM4164) rfl eM4165)
                  · refine g_aload_n (pc1 := 205) d_Mod_cooks_204 rfl 0 rfl ?_
                    refine g_getr (pc1 := 208) d_Mod_cooks_205 rfl ⟨_, fo_Mod_125⟩ sh_401 (by decide) (rf_401_53 ld) ?_
                    refine g_bipush (pc1 := 210) (v := 12) d_Mod_cooks_208 rfl (by decide) ?_
                    refine g_iload (pc1 := 212) d_Mod_cooks_210 rfl 4 rfl ?_
                    refine g_iadd (pc1 := 213) d_Mod_cooks_212 rfl ?_
                    refine g_aload_n (pc1 := 214) d_Mod_cooks_213 rfl 0 rfl ?_
                    refine g_iload (pc1 := 216) d_Mod_cooks_214 rfl 4 rfl ?_
                    refine g_iload_n (pc1 := 217) d_Mod_cooks_216 rfl 2 rfl ?_
                    refine g_callV0 (pc1 := 220) (As := [.int v4158, .int x4122]) (rest := [.int (12 + v4158), .ref 437]) d_Mod_cooks_217 rfl mo_Mod_359 mi_Mod_forceBy mv_Mod_forceBy rfl sh_401 (by decide) (by decide) rfl rfl (Nat.le_of_ble_eq_true rfl) ?_
                    refine t2_Mod_forceBy hld (Inv.keep hI inv_MS1 k4161) _ _ (by have l0 : (3 : Int32).toInt = 3 := (by decide); have r0 := (mt i_le.mpr h4163); have r1 := n4162; have r2 := (i_b (v4158)); omega) (fun r4166 M4167 L4168 hbr4166 k4169 => ?_)
                    refine g_iast (pc1 := 221) d_Mod_cooks_220 rfl sh_437 (by decide) (by have l0 : (12 : Int32).toInt = 12 := (by decide); have l1 : (3 : Int32).toInt = 3 := (by decide); have r0 := (mt i_le.mpr h4163); have r1 := n4162; have r2 := hbr4166; have r3 := (i_b (M 416 (((5 * (M 401 18)) + p0) : Int32).toNatClampNeg)); have r4 := (i_b (r4166)); have r5 := (i_b (v4158)); have r6 := (i_b (x4122)); (try have d1 : x4122.toInt = ((M 416 (((5 * (M 401 18)) + p0) : Int32).toNatClampNeg) : Int32).toInt := (congrArg Int32.toInt ex4122).trans rfl); have e2 : (12 + v4158 : Int32).toInt = (12 + v4158.toInt) := i_addE (by decide : (12 : Int32).toInt = 12) rfl (by omega); exact vin_i (by omega) (by omega)) ?_
                    refine Wp.topM (fun M4170 eM4170 => ?_)
                    obtain ⟨x4171, ex4171⟩ : ∃ y : Int32, y = v4158 + 1 := ⟨_, rfl⟩
                    refine g_iinc (pc1 := 224) (v := x4171) (lv' := [(0, .ref 401), (1, .int p0), (2, .int x4122), (3, .int x4144), (4, .int x4171)]) d_Mod_cooks_221 rfl 4 rfl (by rw [ex4171]; rfl) (by decide) [1, 2, 3, 4, 0] rfl ?_
                    refine g_goto (tgt := 198) d_Mod_cooks_224 (by decide) ?_
                    exact ih4155 x4171 M4170 L4168 (Kl.wM (Kl.trans k4161 (Kl.mono k4169 MS0_MS1)) rfl eM4170) (by have l0 : (1 : Int32).toInt = 1 := (by decide); have l1 : (3 : Int32).toInt = 3 := (by decide); have r0 := (mt i_le.mpr h4163); have r1 := n4162; have r2 := hbr4166; have r3 := (i_b (M 416 (((5 * (M 401 18)) + p0) : Int32).toNatClampNeg)); have r4 := (i_b (r4166)); have r5 := (i_b (v4158)); have r6 := (i_b (x4122)); have r7 := (i_b (x4171)); (try have d1 : x4122.toInt = ((M 416 (((5 * (M 401 18)) + p0) : Int32).toNatClampNeg) : Int32).toInt := (congrArg Int32.toInt ex4122).trans rfl); have e2 : (v4158 + 1 : Int32).toInt = (v4158.toInt + 1) := i_addE rfl (by decide : (1 : Int32).toInt = 1) (by omega); have d3 : x4171.toInt = (v4158.toInt + 1) := (congrArg Int32.toInt ex4171).trans e2; omega) (by have l0 : (1 : Int32).toInt = 1 := (by decide); have l1 : (3 : Int32).toInt = 3 := (by decide); have r0 := (mt i_le.mpr h4163); have r1 := n4162; have r2 := hbr4166; have r3 := hm4156; have r4 := (i_b (M 416 (((5 * (M 401 18)) + p0) : Int32).toNatClampNeg)); have r5 := (i_b (r4166)); have r6 := (i_b (v4158)); have r7 := (i_b (x4122)); have r8 := (i_b (x4171)); (try have d1 : x4122.toInt = ((M 416 (((5 * (M 401 18)) + p0) : Int32).toNatClampNeg) : Int32).toInt := (congrArg Int32.toInt ex4122).trans rfl); have e2 : (v4158 + 1 : Int32).toInt = (v4158.toInt + 1) := i_addE rfl (by decide : (1 : Int32).toInt = 1) (by omega); have d3 : x4171.toInt = (v4158.toInt + 1) := (congrArg Int32.toInt ex4171).trans e2; omega)
              exact LP4157 _ 0 M4153 L4148 (Kl.wM (Kl.trans (Kl.wM (Kl.wM (Kl.trans (Kl.wM k4133 rfl eM4137) (Kl.mono k4140 MS0_MS1)) rfl eM4141) rfl eM4143) (Kl.mono k4149 MS0_MS1)) rfl eM4153) (by decide) (Nat.lt_succ_self _)
            · refine g_aload_n (pc1 := 168) d_Mod_cooks_167 rfl 0 rfl ?_
              refine g_getr (pc1 := 171) d_Mod_cooks_168 rfl ⟨_, fo_Mod_125⟩ sh_401 (by decide) (rf_401_53 ld) ?_
              refine g_iload_n (pc1 := 172) d_Mod_cooks_171 rfl 3 rfl ?_
              refine g_dup2 (pc1 := 173) d_Mod_cooks_172 rfl rfl rfl ?_
              refine g_iald (pc1 := 174) d_Mod_cooks_173 rfl sh_437 (by decide) (by have l0 : (-2 : Int32).toInt = -2 := (by decide); have l1 : (0 : Int32).toInt = 0 := (by decide); have r0 := (i_lt.mp h4151); have r1 := (mt i_lt.mpr h4152); have r2 := (i_b (x4144)); (try have d1 : x4144.toInt = (-2) := (congrArg Int32.toInt ex4144).trans (by decide : (-2 : Int32).toInt = -2)); exact vin_i (by omega) (by omega)) ?_
              refine Wp.vali (y := (M4137 437 (x4144 : Int32).toNatClampNeg)) ((((Kl.m k4149 rfl).trans (rd_ne eM4143 (fun q => absurd q.1 (by decide)))).trans (rd_ne eM4141 (fun q => absurd q.1 (by decide)))).trans (Kl.m k4140 rfl)) ?_
              refine g_iconst (pc1 := 175) (v := 1) d_Mod_cooks_174 rfl (by decide) ?_
              refine g_isub (pc1 := 176) d_Mod_cooks_175 rfl ?_
              refine g_iast (pc1 := 177) d_Mod_cooks_176 rfl sh_437 (by decide) (by have l0 : (-2 : Int32).toInt = -2 := (by decide); have l1 : (0 : Int32).toInt = 0 := (by decide); have r0 := (i_lt.mp h4151); have r1 := (mt i_lt.mpr h4152); have r2 := (i_b (x4144)); (try have d1 : x4144.toInt = (-2) := (congrArg Int32.toInt ex4144).trans (by decide : (-2 : Int32).toInt = -2)); exact vin_i (by omega) (by omega)) ?_
              refine Wp.topM (fun M4172 eM4172 => ?_)
              refine g_aload_n (pc1 := 178) d_Mod_cooks_177 rfl 0 rfl ?_
              refine g_getr (pc1 := 181) d_Mod_cooks_178 rfl ⟨_, fo_Mod_128⟩ sh_401 (by decide) (rf_401_55 ld) ?_
              refine g_iload_n (pc1 := 182) d_Mod_cooks_181 rfl 3 rfl ?_
              refine g_dup2 (pc1 := 183) d_Mod_cooks_182 rfl rfl rfl ?_
              refine g_iald (pc1 := 184) d_Mod_cooks_183 rfl sh_438 (by decide) (by have l0 : (-2 : Int32).toInt = -2 := (by decide); have l1 : (0 : Int32).toInt = 0 := (by decide); have r0 := (i_lt.mp h4151); have r1 := (mt i_lt.mpr h4152); have r2 := (i_b (x4144)); (try have d1 : x4144.toInt = (-2) := (congrArg Int32.toInt ex4144).trans (by decide : (-2 : Int32).toInt = -2)); exact vin_i (by omega) (by omega)) ?_
              refine Wp.vali (y := (M4131 438 (x4144 : Int32).toNatClampNeg)) ((((((rd_ne eM4172 (fun q => absurd q.1 (by decide))).trans (Kl.m k4149 rfl)).trans (rd_ne eM4143 (fun q => absurd q.1 (by decide)))).trans (rd_ne eM4141 (fun q => absurd q.1 (by decide)))).trans (Kl.m k4140 rfl)).trans (rd_ne eM4137 (fun q => absurd q.1 (by decide)))) ?_
              refine g_iconst (pc1 := 185) (v := 1) d_Mod_cooks_184 rfl (by decide) ?_
              refine g_iadd (pc1 := 186) d_Mod_cooks_185 rfl ?_
              refine g_iast (pc1 := 187) d_Mod_cooks_186 rfl sh_438 (by decide) (by have l0 : (-2 : Int32).toInt = -2 := (by decide); have l1 : (0 : Int32).toInt = 0 := (by decide); have r0 := (i_lt.mp h4151); have r1 := (mt i_lt.mpr h4152); have r2 := (i_b (x4144)); (try have d1 : x4144.toInt = (-2) := (congrArg Int32.toInt ex4144).trans (by decide : (-2 : Int32).toInt = -2)); exact vin_i (by omega) (by omega)) ?_
              refine Wp.topM (fun M4173 eM4173 => ?_)
              refine g_aload_n (pc1 := 188) d_Mod_cooks_187 rfl 0 rfl ?_
              refine g_getr (pc1 := 191) d_Mod_cooks_188 rfl ⟨_, fo_Mod_125⟩ sh_401 (by decide) (rf_401_53 ld) ?_
              refine g_bipush (pc1 := 193) (v := 11) d_Mod_cooks_191 rfl (by decide) ?_
              refine g_iload_n (pc1 := 194) d_Mod_cooks_193 rfl 1 rfl ?_
              refine g_iast (pc1 := 195) d_Mod_cooks_194 rfl sh_437 (by decide) (vin_lit (x := 11) (by decide)) ?_
              refine Wp.topM (fun M4174 eM4174 => ?_)
              refine g_iconst (pc1 := 196) (v := 0) d_Mod_cooks_195 rfl (by decide) ?_
              refine g_istore (pc1 := 198) (lv' := [(0, .ref 401), (1, .int p0), (2, .int x4122), (3, .int x4144), (4, .int 0)]) d_Mod_cooks_196 rfl (by decide) [1, 2, 3, 4, 0] rfl ?_
              have LP4178 : ∀ (f4175 : Nat) (v4179 : Int32) (M4180 : gM) (L4181 : gL), Kl MS1 M L M4180 L4181 → (0 ≤ v4179.toInt) → ((3 : Int32).toInt - v4179.toInt).toNat < f4175 → Wp l y_Mod_cooks (0, 0, 447) 447 0 0 198 [(0, .ref 401), (1, .int p0), (2, .int x4122), (3, .int x4144), (4, .int v4179)] [] M4180 L4181 (rf ld) Q := by
                intro f4175
                induction f4175 with
                | zero => intro v4179 M4180 L4181 _ _ hm4177; exact absurd hm4177 (Nat.not_lt_zero _)
                | succ f4175 ih4176 =>
                  intro v4179 M4180 L4181 k4182 n4183 hm4177
                  refine g_iload (pc1 := 200) d_Mod_cooks_198 rfl 4 rfl ?_
                  refine g_iconst (pc1 := 201) (v := 3) d_Mod_cooks_200 rfl (by decide) ?_
                  refine g_icmp_ge (pc1 := 204) (tgt := 227) d_Mod_cooks_201 (by decide) rfl (fun h4184 => ?_) (fun h4184 => ?_)
                  · refine g_aload_n (pc1 := 228) d_Mod_cooks_227 rfl 0 rfl ?_
                    refine g_getr (pc1 := 231) d_Mod_cooks_228 rfl ⟨_, fo_Mod_125⟩ sh_401 (by decide) (rf_401_53 ld) ?_
                    refine g_bipush (pc1 := 233) (v := 6) d_Mod_cooks_231 rfl (by decide) ?_
                    refine g_iload_n (pc1 := 234) d_Mod_cooks_233 rfl 1 rfl ?_
                    refine g_iadd (pc1 := 235) d_Mod_cooks_234 rfl ?_
                    refine g_dup2 (pc1 := 236) d_Mod_cooks_235 rfl rfl rfl ?_
                    refine g_iald (pc1 := 237) d_Mod_cooks_236 rfl sh_437 (by decide) (by have l0 : (6 : Int32).toInt = 6 := (by decide); have r0 := h0; have r1 := (hI.dishes (M 401 18).toNatClampNeg); have r2 := (i_b (M 415 (M 401 18).toNatClampNeg)); have r3 := (i_b (p0)); have e1 : (6 + p0 : Int32).toInt = (6 + p0.toInt) := i_addE (by decide : (6 : Int32).toInt = 6) rfl (by omega); exact vin_i (by omega) (by omega)) ?_
                    refine g_iconst (pc1 := 238) (v := 1) d_Mod_cooks_237 rfl (by decide) ?_
                    refine g_iadd (pc1 := 239) d_Mod_cooks_238 rfl ?_
                    refine g_iast (pc1 := 240) d_Mod_cooks_239 rfl sh_437 (by decide) (by have l0 : (6 : Int32).toInt = 6 := (by decide); have r0 := h0; have r1 := (hI.dishes (M 401 18).toNatClampNeg); have r2 := (i_b (M 415 (M 401 18).toNatClampNeg)); have r3 := (i_b (p0)); have e1 : (6 + p0 : Int32).toInt = (6 + p0.toInt) := i_addE (by decide : (6 : Int32).toInt = 6) rfl (by omega); exact vin_i (by omega) (by omega)) ?_
                    refine Wp.topM (fun M4185 eM4185 => ?_)
                    refine g_aload_n (pc1 := 241) d_Mod_cooks_240 rfl 0 rfl ?_
                    refine g_getr (pc1 := 244) d_Mod_cooks_241 rfl ⟨_, fo_Mod_125⟩ sh_401 (by decide) (rf_401_53 ld) ?_
                    refine g_bipush (pc1 := 246) (v := 37) d_Mod_cooks_244 rfl (by decide) ?_
                    refine g_dup2 (pc1 := 247) d_Mod_cooks_246 rfl rfl rfl ?_
                    refine g_iald (pc1 := 248) d_Mod_cooks_247 rfl sh_437 (by decide) (vin_lit (x := 37) (by decide)) ?_
                    refine g_iconst (pc1 := 249) (v := 1) d_Mod_cooks_248 rfl (by decide) ?_
                    refine g_iadd (pc1 := 250) d_Mod_cooks_249 rfl ?_
                    refine g_iast (pc1 := 251) d_Mod_cooks_250 rfl sh_437 (by decide) (vin_lit (x := 37) (by decide)) ?_
                    refine Wp.topM (fun M4186 eM4186 => ?_)
                    refine g_iload_n (pc1 := 252) d_Mod_cooks_251 rfl 3 rfl ?_
                    refine g_ireturn (Or.inl rfl) d_Mod_cooks_252 rfl ?_
                    exact hQ _ _ _ (Kl.wM (Kl.wM k4182 rfl eM4185) rfl eM4186)
                  · refine g_aload_n (pc1 := 205) d_Mod_cooks_204 rfl 0 rfl ?_
                    refine g_getr (pc1 := 208) d_Mod_cooks_205 rfl ⟨_, fo_Mod_125⟩ sh_401 (by decide) (rf_401_53 ld) ?_
                    refine g_bipush (pc1 := 210) (v := 12) d_Mod_cooks_208 rfl (by decide) ?_
                    refine g_iload (pc1 := 212) d_Mod_cooks_210 rfl 4 rfl ?_
                    refine g_iadd (pc1 := 213) d_Mod_cooks_212 rfl ?_
                    refine g_aload_n (pc1 := 214) d_Mod_cooks_213 rfl 0 rfl ?_
                    refine g_iload (pc1 := 216) d_Mod_cooks_214 rfl 4 rfl ?_
                    refine g_iload_n (pc1 := 217) d_Mod_cooks_216 rfl 2 rfl ?_
                    refine g_callV0 (pc1 := 220) (As := [.int v4179, .int x4122]) (rest := [.int (12 + v4179), .ref 437]) d_Mod_cooks_217 rfl mo_Mod_359 mi_Mod_forceBy mv_Mod_forceBy rfl sh_401 (by decide) (by decide) rfl rfl (Nat.le_of_ble_eq_true rfl) ?_
                    refine t2_Mod_forceBy hld (Inv.keep hI inv_MS1 k4182) _ _ (by have l0 : (3 : Int32).toInt = 3 := (by decide); have r0 := (mt i_le.mpr h4184); have r1 := n4183; have r2 := (i_b (v4179)); omega) (fun r4187 M4188 L4189 hbr4187 k4190 => ?_)
                    refine g_iast (pc1 := 221) d_Mod_cooks_220 rfl sh_437 (by decide) (by have l0 : (12 : Int32).toInt = 12 := (by decide); have l1 : (3 : Int32).toInt = 3 := (by decide); have r0 := (mt i_le.mpr h4184); have r1 := n4183; have r2 := hbr4187; have r3 := (i_b (M 416 (((5 * (M 401 18)) + p0) : Int32).toNatClampNeg)); have r4 := (i_b (r4187)); have r5 := (i_b (v4179)); have r6 := (i_b (x4122)); (try have d1 : x4122.toInt = ((M 416 (((5 * (M 401 18)) + p0) : Int32).toNatClampNeg) : Int32).toInt := (congrArg Int32.toInt ex4122).trans rfl); have e2 : (12 + v4179 : Int32).toInt = (12 + v4179.toInt) := i_addE (by decide : (12 : Int32).toInt = 12) rfl (by omega); exact vin_i (by omega) (by omega)) ?_
                    refine Wp.topM (fun M4191 eM4191 => ?_)
                    obtain ⟨x4192, ex4192⟩ : ∃ y : Int32, y = v4179 + 1 := ⟨_, rfl⟩
                    refine g_iinc (pc1 := 224) (v := x4192) (lv' := [(0, .ref 401), (1, .int p0), (2, .int x4122), (3, .int x4144), (4, .int x4192)]) d_Mod_cooks_221 rfl 4 rfl (by rw [ex4192]; rfl) (by decide) [1, 2, 3, 4, 0] rfl ?_
                    refine g_goto (tgt := 198) d_Mod_cooks_224 (by decide) ?_
                    exact ih4176 x4192 M4191 L4189 (Kl.wM (Kl.trans k4182 (Kl.mono k4190 MS0_MS1)) rfl eM4191) (by have l0 : (1 : Int32).toInt = 1 := (by decide); have l1 : (3 : Int32).toInt = 3 := (by decide); have r0 := (mt i_le.mpr h4184); have r1 := n4183; have r2 := hbr4187; have r3 := (i_b (M 416 (((5 * (M 401 18)) + p0) : Int32).toNatClampNeg)); have r4 := (i_b (r4187)); have r5 := (i_b (v4179)); have r6 := (i_b (x4122)); have r7 := (i_b (x4192)); (try have d1 : x4122.toInt = ((M 416 (((5 * (M 401 18)) + p0) : Int32).toNatClampNeg) : Int32).toInt := (congrArg Int32.toInt ex4122).trans rfl); have e2 : (v4179 + 1 : Int32).toInt = (v4179.toInt + 1) := i_addE rfl (by decide : (1 : Int32).toInt = 1) (by omega); have d3 : x4192.toInt = (v4179.toInt + 1) := (congrArg Int32.toInt ex4192).trans e2; omega) (by have l0 : (1 : Int32).toInt = 1 := (by decide); have l1 : (3 : Int32).toInt = 3 := (by decide); have r0 := (mt i_le.mpr h4184); have r1 := n4183; have r2 := hbr4187; have r3 := hm4177; have r4 := (i_b (M 416 (((5 * (M 401 18)) + p0) : Int32).toNatClampNeg)); have r5 := (i_b (r4187)); have r6 := (i_b (v4179)); have r7 := (i_b (x4122)); have r8 := (i_b (x4192)); (try have d1 : x4122.toInt = ((M 416 (((5 * (M 401 18)) + p0) : Int32).toNatClampNeg) : Int32).toInt := (congrArg Int32.toInt ex4122).trans rfl); have e2 : (v4179 + 1 : Int32).toInt = (v4179.toInt + 1) := i_addE rfl (by decide : (1 : Int32).toInt = 1) (by omega); have d3 : x4192.toInt = (v4179.toInt + 1) := (congrArg Int32.toInt ex4192).trans e2; omega)
              exact LP4178 _ 0 M4174 L4148 (Kl.wM (Kl.wM (Kl.wM (Kl.trans (Kl.wM (Kl.wM (Kl.trans (Kl.wM k4133 rfl eM4137) (Kl.mono k4140 MS0_MS1)) rfl eM4141) rfl eM4143) (Kl.mono k4149 MS0_MS1)) rfl eM4172) rfl eM4173) rfl eM4174) (by decide) (Nat.lt_succ_self _)
          · refine g_aload_n (pc1 := 152) d_Mod_cooks_151 rfl 0 rfl ?_
            refine g_getr (pc1 := 155) d_Mod_cooks_152 rfl ⟨_, fo_Mod_125⟩ sh_401 (by decide) (rf_401_53 ld) ?_
            refine g_iload_n (pc1 := 156) d_Mod_cooks_155 rfl 3 rfl ?_
            refine g_iald (pc1 := 157) d_Mod_cooks_156 rfl sh_437 (by decide) (by have l0 : (-2 : Int32).toInt = -2 := (by decide); have l1 : (0 : Int32).toInt = 0 := (by decide); have r0 := (mt i_lt.mpr h4151); have r1 := (i_b (x4144)); (try have d1 : x4144.toInt = (-2) := (congrArg Int32.toInt ex4144).trans (by decide : (-2 : Int32).toInt = -2)); exact vin_i (by omega) (by omega)) ?_
            refine Wp.vali (y := (M4137 437 (x4144 : Int32).toNatClampNeg)) ((((Kl.m k4149 rfl).trans (rd_ne eM4143 (fun q => absurd q.1 (by decide)))).trans (rd_ne eM4141 (fun q => absurd q.1 (by decide)))).trans (Kl.m k4140 rfl)) ?_
            refine g_if_ne (pc1 := 160) (tgt := 163) d_Mod_cooks_157 (by decide) rfl (fun h4193 => ?_) (fun h4193 => ?_)
            · refine g_iload_n (pc1 := 164) d_Mod_cooks_163 rfl 3 rfl ?_
              refine g_if_lt (pc1 := 167) (tgt := 187) d_Mod_cooks_164 (by decide) rfl (fun h4194 => ?_) (fun h4194 => ?_)
              · refine g_aload_n (pc1 := 188) d_Mod_cooks_187 rfl 0 rfl ?_
                refine g_getr (pc1 := 191) d_Mod_cooks_188 rfl ⟨_, fo_Mod_125⟩ sh_401 (by decide) (rf_401_53 ld) ?_
                refine g_bipush (pc1 := 193) (v := 11) d_Mod_cooks_191 rfl (by decide) ?_
                refine g_iload_n (pc1 := 194) d_Mod_cooks_193 rfl 1 rfl ?_
                refine g_iast (pc1 := 195) d_Mod_cooks_194 rfl sh_437 (by decide) (vin_lit (x := 11) (by decide)) ?_
                refine Wp.topM (fun M4195 eM4195 => ?_)
                refine g_iconst (pc1 := 196) (v := 0) d_Mod_cooks_195 rfl (by decide) ?_
                refine g_istore (pc1 := 198) (lv' := [(0, .ref 401), (1, .int p0), (2, .int x4122), (3, .int x4144), (4, .int 0)]) d_Mod_cooks_196 rfl (by decide) [1, 2, 3, 4, 0] rfl ?_
                have LP4199 : ∀ (f4196 : Nat) (v4200 : Int32) (M4201 : gM) (L4202 : gL), Kl MS1 M L M4201 L4202 → (0 ≤ v4200.toInt) → ((3 : Int32).toInt - v4200.toInt).toNat < f4196 → Wp l y_Mod_cooks (0, 0, 447) 447 0 0 198 [(0, .ref 401), (1, .int p0), (2, .int x4122), (3, .int x4144), (4, .int v4200)] [] M4201 L4202 (rf ld) Q := by
                  intro f4196
                  induction f4196 with
                  | zero => intro v4200 M4201 L4202 _ _ hm4198; exact absurd hm4198 (Nat.not_lt_zero _)
                  | succ f4196 ih4197 =>
                    intro v4200 M4201 L4202 k4203 n4204 hm4198
                    refine g_iload (pc1 := 200) d_Mod_cooks_198 rfl 4 rfl ?_
                    refine g_iconst (pc1 := 201) (v := 3) d_Mod_cooks_200 rfl (by decide) ?_
                    refine g_icmp_ge (pc1 := 204) (tgt := 227) d_Mod_cooks_201 (by decide) rfl (fun h4205 => ?_) (fun h4205 => ?_)
                    · refine g_aload_n (pc1 := 228) d_Mod_cooks_227 rfl 0 rfl ?_
                      refine g_getr (pc1 := 231) d_Mod_cooks_228 rfl ⟨_, fo_Mod_125⟩ sh_401 (by decide) (rf_401_53 ld) ?_
                      refine g_bipush (pc1 := 233) (v := 6) d_Mod_cooks_231 rfl (by decide) ?_
                      refine g_iload_n (pc1 := 234) d_Mod_cooks_233 rfl 1 rfl ?_
                      refine g_iadd (pc1 := 235) d_Mod_cooks_234 rfl ?_
                      refine g_dup2 (pc1 := 236) d_Mod_cooks_235 rfl rfl rfl ?_
                      refine g_iald (pc1 := 237) d_Mod_cooks_236 rfl sh_437 (by decide) (by have l0 : (6 : Int32).toInt = 6 := (by decide); have r0 := h0; have r1 := (hI.dishes (M 401 18).toNatClampNeg); have r2 := (i_b (M 415 (M 401 18).toNatClampNeg)); have r3 := (i_b (p0)); have e1 : (6 + p0 : Int32).toInt = (6 + p0.toInt) := i_addE (by decide : (6 : Int32).toInt = 6) rfl (by omega); exact vin_i (by omega) (by omega)) ?_
                      refine g_iconst (pc1 := 238) (v := 1) d_Mod_cooks_237 rfl (by decide) ?_
                      refine g_iadd (pc1 := 239) d_Mod_cooks_238 rfl ?_
                      refine g_iast (pc1 := 240) d_Mod_cooks_239 rfl sh_437 (by decide) (by have l0 : (6 : Int32).toInt = 6 := (by decide); have r0 := h0; have r1 := (hI.dishes (M 401 18).toNatClampNeg); have r2 := (i_b (M 415 (M 401 18).toNatClampNeg)); have r3 := (i_b (p0)); have e1 : (6 + p0 : Int32).toInt = (6 + p0.toInt) := i_addE (by decide : (6 : Int32).toInt = 6) rfl (by omega); exact vin_i (by omega) (by omega)) ?_
                      refine Wp.topM (fun M4206 eM4206 => ?_)
                      refine g_aload_n (pc1 := 241) d_Mod_cooks_240 rfl 0 rfl ?_
                      refine g_getr (pc1 := 244) d_Mod_cooks_241 rfl ⟨_, fo_Mod_125⟩ sh_401 (by decide) (rf_401_53 ld) ?_
                      refine g_bipush (pc1 := 246) (v := 37) d_Mod_cooks_244 rfl (by decide) ?_
                      refine g_dup2 (pc1 := 247) d_Mod_cooks_246 rfl rfl rfl ?_
                      refine g_iald (pc1 := 248) d_Mod_cooks_247 rfl sh_437 (by decide) (vin_lit (x := 37) (by decide)) ?_
                      refine g_iconst (pc1 := 249) (v := 1) d_Mod_cooks_248 rfl (by decide) ?_
                      refine g_iadd (pc1 := 250) d_Mod_cooks_249 rfl ?_
                      refine g_iast (pc1 := 251) d_Mod_cooks_250 rfl sh_437 (by decide) (vin_lit (x := 37) (by decide)) ?_
                      refine Wp.topM (fun M4207 eM4207 => ?_)
                      refine g_iload_n (pc1 := 252) d_Mod_cooks_251 rfl 3 rfl ?_
                      refine g_ireturn (Or.inl rfl) d_Mod_cooks_252 rfl ?_
                      exact hQ _ _ _ (Kl.wM (Kl.wM k4203 rfl eM4206) rfl eM4207)
                    · refine g_aload_n (pc1 := 205) d_Mod_cooks_204 rfl 0 rfl ?_
                      refine g_getr (pc1 := 208) d_Mod_cooks_205 rfl ⟨_, fo_Mod_125⟩ sh_401 (by decide) (rf_401_53 ld) ?_
                      refine g_bipush (pc1 := 210) (v := 12) d_Mod_cooks_208 rfl (by decide) ?_
                      refine g_iload (pc1 := 212) d_Mod_cooks_210 rfl 4 rfl ?_
                      refine g_iadd (pc1 := 213) d_Mod_cooks_212 rfl ?_
                      refine g_aload_n (pc1 := 214) d_Mod_cooks_213 rfl 0 rfl ?_
                      refine g_iload (pc1 := 216) d_Mod_cooks_214 rfl 4 rfl ?_
                      refine g_iload_n (pc1 := 217) d_Mod_cooks_216 rfl 2 rfl ?_
                      refine g_callV0 (pc1 := 220) (As := [.int v4200, .int x4122]) (rest := [.int (12 + v4200), .ref 437]) d_Mod_cooks_217 rfl mo_Mod_359 mi_Mod_forceBy mv_Mod_forceBy rfl sh_401 (by decide) (by decide) rfl rfl (Nat.le_of_ble_eq_true rfl) ?_
                      refine t2_Mod_forceBy hld (Inv.keep hI inv_MS1 k4203) _ _ (by have l0 : (3 : Int32).toInt = 3 := (by decide); have r0 := (mt i_le.mpr h4205); have r1 := n4204; have r2 := (i_b (v4200)); omega) (fun r4208 M4209 L4210 hbr4208 k4211 => ?_)
                      refine g_iast (pc1 := 221) d_Mod_cooks_220 rfl sh_437 (by decide) (by have l0 : (12 : Int32).toInt = 12 := (by decide); have l1 : (3 : Int32).toInt = 3 := (by decide); have r0 := (mt i_le.mpr h4205); have r1 := n4204; have r2 := hbr4208; have r3 := (i_b (M 416 (((5 * (M 401 18)) + p0) : Int32).toNatClampNeg)); have r4 := (i_b (r4208)); have r5 := (i_b (v4200)); have r6 := (i_b (x4122)); (try have d1 : x4122.toInt = ((M 416 (((5 * (M 401 18)) + p0) : Int32).toNatClampNeg) : Int32).toInt := (congrArg Int32.toInt ex4122).trans rfl); have e2 : (12 + v4200 : Int32).toInt = (12 + v4200.toInt) := i_addE (by decide : (12 : Int32).toInt = 12) rfl (by omega); exact vin_i (by omega) (by omega)) ?_
                      refine Wp.topM (fun M4212 eM4212 => ?_)
                      obtain ⟨x4213, ex4213⟩ : ∃ y : Int32, y = v4200 + 1 := ⟨_, rfl⟩
                      refine g_iinc (pc1 := 224) (v := x4213) (lv' := [(0, .ref 401), (1, .int p0), (2, .int x4122), (3, .int x4144), (4, .int x4213)]) d_Mod_cooks_221 rfl 4 rfl (by rw [ex4213]; rfl) (by decide) [1, 2, 3, 4, 0] rfl ?_
                      refine g_goto (tgt := 198) d_Mod_cooks_224 (by decide) ?_
                      exact ih4197 x4213 M4212 L4210 (Kl.wM (Kl.trans k4203 (Kl.mono k4211 MS0_MS1)) rfl eM4212) (by have l0 : (1 : Int32).toInt = 1 := (by decide); have l1 : (3 : Int32).toInt = 3 := (by decide); have r0 := (mt i_le.mpr h4205); have r1 := n4204; have r2 := hbr4208; have r3 := (i_b (M 416 (((5 * (M 401 18)) + p0) : Int32).toNatClampNeg)); have r4 := (i_b (r4208)); have r5 := (i_b (v4200)); have r6 := (i_b (x4122)); have r7 := (i_b (x4213)); (try have d1 : x4122.toInt = ((M 416 (((5 * (M 401 18)) + p0) : Int32).toNatClampNeg) : Int32).toInt := (congrArg Int32.toInt ex4122).trans rfl); have e2 : (v4200 + 1 : Int32).toInt = (v4200.toInt + 1) := i_addE rfl (by decide : (1 : Int32).toInt = 1) (by omega); have d3 : x4213.toInt = (v4200.toInt + 1) := (congrArg Int32.toInt ex4213).trans e2; omega) (by have l0 : (1 : Int32).toInt = 1 := (by decide); have l1 : (3 : Int32).toInt = 3 := (by decide); have r0 := (mt i_le.mpr h4205); have r1 := n4204; have r2 := hbr4208; have r3 := hm4198; have r4 := (i_b (M 416 (((5 * (M 401 18)) + p0) : Int32).toNatClampNeg)); have r5 := (i_b (r4208)); have r6 := (i_b (v4200)); have r7 := (i_b (x4122)); have r8 := (i_b (x4213)); (try have d1 : x4122.toInt = ((M 416 (((5 * (M 401 18)) + p0) : Int32).toNatClampNeg) : Int32).toInt := (congrArg Int32.toInt ex4122).trans rfl); have e2 : (v4200 + 1 : Int32).toInt = (v4200.toInt + 1) := i_addE rfl (by decide : (1 : Int32).toInt = 1) (by omega); have d3 : x4213.toInt = (v4200.toInt + 1) := (congrArg Int32.toInt ex4213).trans e2; omega)
                exact LP4199 _ 0 M4195 L4148 (Kl.wM (Kl.trans (Kl.wM (Kl.wM (Kl.trans (Kl.wM k4133 rfl eM4137) (Kl.mono k4140 MS0_MS1)) rfl eM4141) rfl eM4143) (Kl.mono k4149 MS0_MS1)) rfl eM4195) (by decide) (Nat.lt_succ_self _)
              · refine g_aload_n (pc1 := 168) d_Mod_cooks_167 rfl 0 rfl ?_
                refine g_getr (pc1 := 171) d_Mod_cooks_168 rfl ⟨_, fo_Mod_125⟩ sh_401 (by decide) (rf_401_53 ld) ?_
                refine g_iload_n (pc1 := 172) d_Mod_cooks_171 rfl 3 rfl ?_
                refine g_dup2 (pc1 := 173) d_Mod_cooks_172 rfl rfl rfl ?_
                refine g_iald (pc1 := 174) d_Mod_cooks_173 rfl sh_437 (by decide) (by have l0 : (-2 : Int32).toInt = -2 := (by decide); have l1 : (0 : Int32).toInt = 0 := (by decide); have r0 := (mt i_lt.mpr h4151); have r1 := (mt i_lt.mpr h4194); have r2 := (i_b (x4144)); (try have d1 : x4144.toInt = (-2) := (congrArg Int32.toInt ex4144).trans (by decide : (-2 : Int32).toInt = -2)); exact vin_i (by omega) (by omega)) ?_
                refine Wp.vali (y := (M4137 437 (x4144 : Int32).toNatClampNeg)) ((((Kl.m k4149 rfl).trans (rd_ne eM4143 (fun q => absurd q.1 (by decide)))).trans (rd_ne eM4141 (fun q => absurd q.1 (by decide)))).trans (Kl.m k4140 rfl)) ?_
                refine g_iconst (pc1 := 175) (v := 1) d_Mod_cooks_174 rfl (by decide) ?_
                refine g_isub (pc1 := 176) d_Mod_cooks_175 rfl ?_
                refine g_iast (pc1 := 177) d_Mod_cooks_176 rfl sh_437 (by decide) (by have l0 : (-2 : Int32).toInt = -2 := (by decide); have l1 : (0 : Int32).toInt = 0 := (by decide); have r0 := (mt i_lt.mpr h4151); have r1 := (mt i_lt.mpr h4194); have r2 := (i_b (x4144)); (try have d1 : x4144.toInt = (-2) := (congrArg Int32.toInt ex4144).trans (by decide : (-2 : Int32).toInt = -2)); exact vin_i (by omega) (by omega)) ?_
                refine Wp.topM (fun M4214 eM4214 => ?_)
                refine g_aload_n (pc1 := 178) d_Mod_cooks_177 rfl 0 rfl ?_
                refine g_getr (pc1 := 181) d_Mod_cooks_178 rfl ⟨_, fo_Mod_128⟩ sh_401 (by decide) (rf_401_55 ld) ?_
                refine g_iload_n (pc1 := 182) d_Mod_cooks_181 rfl 3 rfl ?_
                refine g_dup2 (pc1 := 183) d_Mod_cooks_182 rfl rfl rfl ?_
                refine g_iald (pc1 := 184) d_Mod_cooks_183 rfl sh_438 (by decide) (by have l0 : (-2 : Int32).toInt = -2 := (by decide); have l1 : (0 : Int32).toInt = 0 := (by decide); have r0 := (mt i_lt.mpr h4151); have r1 := (mt i_lt.mpr h4194); have r2 := (i_b (x4144)); (try have d1 : x4144.toInt = (-2) := (congrArg Int32.toInt ex4144).trans (by decide : (-2 : Int32).toInt = -2)); exact vin_i (by omega) (by omega)) ?_
                refine Wp.vali (y := (M4131 438 (x4144 : Int32).toNatClampNeg)) ((((((rd_ne eM4214 (fun q => absurd q.1 (by decide))).trans (Kl.m k4149 rfl)).trans (rd_ne eM4143 (fun q => absurd q.1 (by decide)))).trans (rd_ne eM4141 (fun q => absurd q.1 (by decide)))).trans (Kl.m k4140 rfl)).trans (rd_ne eM4137 (fun q => absurd q.1 (by decide)))) ?_
                refine g_iconst (pc1 := 185) (v := 1) d_Mod_cooks_184 rfl (by decide) ?_
                refine g_iadd (pc1 := 186) d_Mod_cooks_185 rfl ?_
                refine g_iast (pc1 := 187) d_Mod_cooks_186 rfl sh_438 (by decide) (by have l0 : (-2 : Int32).toInt = -2 := (by decide); have l1 : (0 : Int32).toInt = 0 := (by decide); have r0 := (mt i_lt.mpr h4151); have r1 := (mt i_lt.mpr h4194); have r2 := (i_b (x4144)); (try have d1 : x4144.toInt = (-2) := (congrArg Int32.toInt ex4144).trans (by decide : (-2 : Int32).toInt = -2)); exact vin_i (by omega) (by omega)) ?_
                refine Wp.topM (fun M4215 eM4215 => ?_)
                refine g_aload_n (pc1 := 188) d_Mod_cooks_187 rfl 0 rfl ?_
                refine g_getr (pc1 := 191) d_Mod_cooks_188 rfl ⟨_, fo_Mod_125⟩ sh_401 (by decide) (rf_401_53 ld) ?_
                refine g_bipush (pc1 := 193) (v := 11) d_Mod_cooks_191 rfl (by decide) ?_
                refine g_iload_n (pc1 := 194) d_Mod_cooks_193 rfl 1 rfl ?_
                refine g_iast (pc1 := 195) d_Mod_cooks_194 rfl sh_437 (by decide) (vin_lit (x := 11) (by decide)) ?_
                refine Wp.topM (fun M4216 eM4216 => ?_)
                refine g_iconst (pc1 := 196) (v := 0) d_Mod_cooks_195 rfl (by decide) ?_
                refine g_istore (pc1 := 198) (lv' := [(0, .ref 401), (1, .int p0), (2, .int x4122), (3, .int x4144), (4, .int 0)]) d_Mod_cooks_196 rfl (by decide) [1, 2, 3, 4, 0] rfl ?_
                have LP4220 : ∀ (f4217 : Nat) (v4221 : Int32) (M4222 : gM) (L4223 : gL), Kl MS1 M L M4222 L4223 → (0 ≤ v4221.toInt) → ((3 : Int32).toInt - v4221.toInt).toNat < f4217 → Wp l y_Mod_cooks (0, 0, 447) 447 0 0 198 [(0, .ref 401), (1, .int p0), (2, .int x4122), (3, .int x4144), (4, .int v4221)] [] M4222 L4223 (rf ld) Q := by
                  intro f4217
                  induction f4217 with
                  | zero => intro v4221 M4222 L4223 _ _ hm4219; exact absurd hm4219 (Nat.not_lt_zero _)
                  | succ f4217 ih4218 =>
                    intro v4221 M4222 L4223 k4224 n4225 hm4219
                    refine g_iload (pc1 := 200) d_Mod_cooks_198 rfl 4 rfl ?_
                    refine g_iconst (pc1 := 201) (v := 3) d_Mod_cooks_200 rfl (by decide) ?_
                    refine g_icmp_ge (pc1 := 204) (tgt := 227) d_Mod_cooks_201 (by decide) rfl (fun h4226 => ?_) (fun h4226 => ?_)
                    · refine g_aload_n (pc1 := 228) d_Mod_cooks_227 rfl 0 rfl ?_
                      refine g_getr (pc1 := 231) d_Mod_cooks_228 rfl ⟨_, fo_Mod_125⟩ sh_401 (by decide) (rf_401_53 ld) ?_
                      refine g_bipush (pc1 := 233) (v := 6) d_Mod_cooks_231 rfl (by decide) ?_
                      refine g_iload_n (pc1 := 234) d_Mod_cooks_233 rfl 1 rfl ?_
                      refine g_iadd (pc1 := 235) d_Mod_cooks_234 rfl ?_
                      refine g_dup2 (pc1 := 236) d_Mod_cooks_235 rfl rfl rfl ?_
                      refine g_iald (pc1 := 237) d_Mod_cooks_236 rfl sh_437 (by decide) (by have l0 : (6 : Int32).toInt = 6 := (by decide); have r0 := h0; have r1 := (hI.dishes (M 401 18).toNatClampNeg); have r2 := (i_b (M 415 (M 401 18).toNatClampNeg)); have r3 := (i_b (p0)); have e1 : (6 + p0 : Int32).toInt = (6 + p0.toInt) := i_addE (by decide : (6 : Int32).toInt = 6) rfl (by omega); exact vin_i (by omega) (by omega)) ?_
                      refine g_iconst (pc1 := 238) (v := 1) d_Mod_cooks_237 rfl (by decide) ?_
                      refine g_iadd (pc1 := 239) d_Mod_cooks_238 rfl ?_
                      refine g_iast (pc1 := 240) d_Mod_cooks_239 rfl sh_437 (by decide) (by have l0 : (6 : Int32).toInt = 6 := (by decide); have r0 := h0; have r1 := (hI.dishes (M 401 18).toNatClampNeg); have r2 := (i_b (M 415 (M 401 18).toNatClampNeg)); have r3 := (i_b (p0)); have e1 : (6 + p0 : Int32).toInt = (6 + p0.toInt) := i_addE (by decide : (6 : Int32).toInt = 6) rfl (by omega); exact vin_i (by omega) (by omega)) ?_
                      refine Wp.topM (fun M4227 eM4227 => ?_)
                      refine g_aload_n (pc1 := 241) d_Mod_cooks_240 rfl 0 rfl ?_
                      refine g_getr (pc1 := 244) d_Mod_cooks_241 rfl ⟨_, fo_Mod_125⟩ sh_401 (by decide) (rf_401_53 ld) ?_
                      refine g_bipush (pc1 := 246) (v := 37) d_Mod_cooks_244 rfl (by decide) ?_
                      refine g_dup2 (pc1 := 247) d_Mod_cooks_246 rfl rfl rfl ?_
                      refine g_iald (pc1 := 248) d_Mod_cooks_247 rfl sh_437 (by decide) (vin_lit (x := 37) (by decide)) ?_
                      refine g_iconst (pc1 := 249) (v := 1) d_Mod_cooks_248 rfl (by decide) ?_
                      refine g_iadd (pc1 := 250) d_Mod_cooks_249 rfl ?_
                      refine g_iast (pc1 := 251) d_Mod_cooks_250 rfl sh_437 (by decide) (vin_lit (x := 37) (by decide)) ?_
                      refine Wp.topM (fun M4228 eM4228 => ?_)
                      refine g_iload_n (pc1 := 252) d_Mod_cooks_251 rfl 3 rfl ?_
                      refine g_ireturn (Or.inl rfl) d_Mod_cooks_252 rfl ?_
                      exact hQ _ _ _ (Kl.wM (Kl.wM k4224 rfl eM4227) rfl eM4228)
                    · refine g_aload_n (pc1 := 205) d_Mod_cooks_204 rfl 0 rfl ?_
                      refine g_getr (pc1 := 208) d_Mod_cooks_205 rfl ⟨_, fo_Mod_125⟩ sh_401 (by decide) (rf_401_53 ld) ?_
                      refine g_bipush (pc1 := 210) (v := 12) d_Mod_cooks_208 rfl (by decide) ?_
                      refine g_iload (pc1 := 212) d_Mod_cooks_210 rfl 4 rfl ?_
                      refine g_iadd (pc1 := 213) d_Mod_cooks_212 rfl ?_
                      refine g_aload_n (pc1 := 214) d_Mod_cooks_213 rfl 0 rfl ?_
                      refine g_iload (pc1 := 216) d_Mod_cooks_214 rfl 4 rfl ?_
                      refine g_iload_n (pc1 := 217) d_Mod_cooks_216 rfl 2 rfl ?_
                      refine g_callV0 (pc1 := 220) (As := [.int v4221, .int x4122]) (rest := [.int (12 + v4221), .ref 437]) d_Mod_cooks_217 rfl mo_Mod_359 mi_Mod_forceBy mv_Mod_forceBy rfl sh_401 (by decide) (by decide) rfl rfl (Nat.le_of_ble_eq_true rfl) ?_
                      refine t2_Mod_forceBy hld (Inv.keep hI inv_MS1 k4224) _ _ (by have l0 : (3 : Int32).toInt = 3 := (by decide); have r0 := (mt i_le.mpr h4226); have r1 := n4225; have r2 := (i_b (v4221)); omega) (fun r4229 M4230 L4231 hbr4229 k4232 => ?_)
                      refine g_iast (pc1 := 221) d_Mod_cooks_220 rfl sh_437 (by decide) (by have l0 : (12 : Int32).toInt = 12 := (by decide); have l1 : (3 : Int32).toInt = 3 := (by decide); have r0 := (mt i_le.mpr h4226); have r1 := n4225; have r2 := hbr4229; have r3 := (i_b (M 416 (((5 * (M 401 18)) + p0) : Int32).toNatClampNeg)); have r4 := (i_b (r4229)); have r5 := (i_b (v4221)); have r6 := (i_b (x4122)); (try have d1 : x4122.toInt = ((M 416 (((5 * (M 401 18)) + p0) : Int32).toNatClampNeg) : Int32).toInt := (congrArg Int32.toInt ex4122).trans rfl); have e2 : (12 + v4221 : Int32).toInt = (12 + v4221.toInt) := i_addE (by decide : (12 : Int32).toInt = 12) rfl (by omega); exact vin_i (by omega) (by omega)) ?_
                      refine Wp.topM (fun M4233 eM4233 => ?_)
                      obtain ⟨x4234, ex4234⟩ : ∃ y : Int32, y = v4221 + 1 := ⟨_, rfl⟩
                      refine g_iinc (pc1 := 224) (v := x4234) (lv' := [(0, .ref 401), (1, .int p0), (2, .int x4122), (3, .int x4144), (4, .int x4234)]) d_Mod_cooks_221 rfl 4 rfl (by rw [ex4234]; rfl) (by decide) [1, 2, 3, 4, 0] rfl ?_
                      refine g_goto (tgt := 198) d_Mod_cooks_224 (by decide) ?_
                      exact ih4218 x4234 M4233 L4231 (Kl.wM (Kl.trans k4224 (Kl.mono k4232 MS0_MS1)) rfl eM4233) (by have l0 : (1 : Int32).toInt = 1 := (by decide); have l1 : (3 : Int32).toInt = 3 := (by decide); have r0 := (mt i_le.mpr h4226); have r1 := n4225; have r2 := hbr4229; have r3 := (i_b (M 416 (((5 * (M 401 18)) + p0) : Int32).toNatClampNeg)); have r4 := (i_b (r4229)); have r5 := (i_b (v4221)); have r6 := (i_b (x4122)); have r7 := (i_b (x4234)); (try have d1 : x4122.toInt = ((M 416 (((5 * (M 401 18)) + p0) : Int32).toNatClampNeg) : Int32).toInt := (congrArg Int32.toInt ex4122).trans rfl); have e2 : (v4221 + 1 : Int32).toInt = (v4221.toInt + 1) := i_addE rfl (by decide : (1 : Int32).toInt = 1) (by omega); have d3 : x4234.toInt = (v4221.toInt + 1) := (congrArg Int32.toInt ex4234).trans e2; omega) (by have l0 : (1 : Int32).toInt = 1 := (by decide); have l1 : (3 : Int32).toInt = 3 := (by decide); have r0 := (mt i_le.mpr h4226); have r1 := n4225; have r2 := hbr4229; have r3 := hm4219; have r4 := (i_b (M 416 (((5 * (M 401 18)) + p0) : Int32).toNatClampNeg)); have r5 := (i_b (r4229)); have r6 := (i_b (v4221)); have r7 := (i_b (x4122)); have r8 := (i_b (x4234)); (try have d1 : x4122.toInt = ((M 416 (((5 * (M 401 18)) + p0) : Int32).toNatClampNeg) : Int32).toInt := (congrArg Int32.toInt ex4122).trans rfl); have e2 : (v4221 + 1 : Int32).toInt = (v4221.toInt + 1) := i_addE rfl (by decide : (1 : Int32).toInt = 1) (by omega); have d3 : x4234.toInt = (v4221.toInt + 1) := (congrArg Int32.toInt ex4234).trans e2; omega)
                exact LP4220 _ 0 M4216 L4148 (Kl.wM (Kl.wM (Kl.wM (Kl.trans (Kl.wM (Kl.wM (Kl.trans (Kl.wM k4133 rfl eM4137) (Kl.mono k4140 MS0_MS1)) rfl eM4141) rfl eM4143) (Kl.mono k4149 MS0_MS1)) rfl eM4214) rfl eM4215) rfl eM4216) (by decide) (Nat.lt_succ_self _)
            · refine g_bipush (pc1 := 162) (v := (-2)) d_Mod_cooks_160 rfl (by decide) ?_
              refine Wp.topi (fun x4235 ex4235 => ?_)
              refine g_istore_n (pc1 := 163) (lv' := [(0, .ref 401), (1, .int p0), (2, .int x4122), (3, .int x4235)]) d_Mod_cooks_162 rfl rfl (by decide) [1, 2, 3, 0] rfl ?_
              refine g_iload_n (pc1 := 164) d_Mod_cooks_163 rfl 3 rfl ?_
              refine g_if_lt (pc1 := 167) (tgt := 187) d_Mod_cooks_164 (by decide) rfl (fun h4236 => ?_) (fun h4236 => ?_)
              · refine g_aload_n (pc1 := 188) d_Mod_cooks_187 rfl 0 rfl ?_
                refine g_getr (pc1 := 191) d_Mod_cooks_188 rfl ⟨_, fo_Mod_125⟩ sh_401 (by decide) (rf_401_53 ld) ?_
                refine g_bipush (pc1 := 193) (v := 11) d_Mod_cooks_191 rfl (by decide) ?_
                refine g_iload_n (pc1 := 194) d_Mod_cooks_193 rfl 1 rfl ?_
                refine g_iast (pc1 := 195) d_Mod_cooks_194 rfl sh_437 (by decide) (vin_lit (x := 11) (by decide)) ?_
                refine Wp.topM (fun M4237 eM4237 => ?_)
                refine g_iconst (pc1 := 196) (v := 0) d_Mod_cooks_195 rfl (by decide) ?_
                refine g_istore (pc1 := 198) (lv' := [(0, .ref 401), (1, .int p0), (2, .int x4122), (3, .int x4235), (4, .int 0)]) d_Mod_cooks_196 rfl (by decide) [1, 2, 3, 4, 0] rfl ?_
                have LP4241 : ∀ (f4238 : Nat) (v4242 : Int32) (M4243 : gM) (L4244 : gL), Kl MS1 M L M4243 L4244 → (0 ≤ v4242.toInt) → ((3 : Int32).toInt - v4242.toInt).toNat < f4238 → Wp l y_Mod_cooks (0, 0, 447) 447 0 0 198 [(0, .ref 401), (1, .int p0), (2, .int x4122), (3, .int x4235), (4, .int v4242)] [] M4243 L4244 (rf ld) Q := by
                  intro f4238
                  induction f4238 with
                  | zero => intro v4242 M4243 L4244 _ _ hm4240; exact absurd hm4240 (Nat.not_lt_zero _)
                  | succ f4238 ih4239 =>
                    intro v4242 M4243 L4244 k4245 n4246 hm4240
                    refine g_iload (pc1 := 200) d_Mod_cooks_198 rfl 4 rfl ?_
                    refine g_iconst (pc1 := 201) (v := 3) d_Mod_cooks_200 rfl (by decide) ?_
                    refine g_icmp_ge (pc1 := 204) (tgt := 227) d_Mod_cooks_201 (by decide) rfl (fun h4247 => ?_) (fun h4247 => ?_)
                    · refine g_aload_n (pc1 := 228) d_Mod_cooks_227 rfl 0 rfl ?_
                      refine g_getr (pc1 := 231) d_Mod_cooks_228 rfl ⟨_, fo_Mod_125⟩ sh_401 (by decide) (rf_401_53 ld) ?_
                      refine g_bipush (pc1 := 233) (v := 6) d_Mod_cooks_231 rfl (by decide) ?_
                      refine g_iload_n (pc1 := 234) d_Mod_cooks_233 rfl 1 rfl ?_
                      refine g_iadd (pc1 := 235) d_Mod_cooks_234 rfl ?_
                      refine g_dup2 (pc1 := 236) d_Mod_cooks_235 rfl rfl rfl ?_
                      refine g_iald (pc1 := 237) d_Mod_cooks_236 rfl sh_437 (by decide) (by have l0 : (6 : Int32).toInt = 6 := (by decide); have r0 := h0; have r1 := (hI.dishes (M 401 18).toNatClampNeg); have r2 := (i_b (M 415 (M 401 18).toNatClampNeg)); have r3 := (i_b (p0)); have e1 : (6 + p0 : Int32).toInt = (6 + p0.toInt) := i_addE (by decide : (6 : Int32).toInt = 6) rfl (by omega); exact vin_i (by omega) (by omega)) ?_
                      refine g_iconst (pc1 := 238) (v := 1) d_Mod_cooks_237 rfl (by decide) ?_
                      refine g_iadd (pc1 := 239) d_Mod_cooks_238 rfl ?_
                      refine g_iast (pc1 := 240) d_Mod_cooks_239 rfl sh_437 (by decide) (by have l0 : (6 : Int32).toInt = 6 := (by decide); have r0 := h0; have r1 := (hI.dishes (M 401 18).toNatClampNeg); have r2 := (i_b (M 415 (M 401 18).toNatClampNeg)); have r3 := (i_b (p0)); have e1 : (6 + p0 : Int32).toInt = (6 + p0.toInt) := i_addE (by decide : (6 : Int32).toInt = 6) rfl (by omega); exact vin_i (by omega) (by omega)) ?_
                      refine Wp.topM (fun M4248 eM4248 => ?_)
                      refine g_aload_n (pc1 := 241) d_Mod_cooks_240 rfl 0 rfl ?_
                      refine g_getr (pc1 := 244) d_Mod_cooks_241 rfl ⟨_, fo_Mod_125⟩ sh_401 (by decide) (rf_401_53 ld) ?_
                      refine g_bipush (pc1 := 246) (v := 37) d_Mod_cooks_244 rfl (by decide) ?_
                      refine g_dup2 (pc1 := 247) d_Mod_cooks_246 rfl rfl rfl ?_
                      refine g_iald (pc1 := 248) d_Mod_cooks_247 rfl sh_437 (by decide) (vin_lit (x := 37) (by decide)) ?_
                      refine g_iconst (pc1 := 249) (v := 1) d_Mod_cooks_248 rfl (by decide) ?_
                      refine g_iadd (pc1 := 250) d_Mod_cooks_249 rfl ?_
                      refine g_iast (pc1 := 251) d_Mod_cooks_250 rfl sh_437 (by decide) (vin_lit (x := 37) (by decide)) ?_
                      refine Wp.topM (fun M4249 eM4249 => ?_)
                      refine g_iload_n (pc1 := 252) d_Mod_cooks_251 rfl 3 rfl ?_
                      refine g_ireturn (Or.inl rfl) d_Mod_cooks_252 rfl ?_
                      exact hQ _ _ _ (Kl.wM (Kl.wM k4245 rfl eM4248) rfl eM4249)
                    · refine g_aload_n (pc1 := 205) d_Mod_cooks_204 rfl 0 rfl ?_
                      refine g_getr (pc1 := 208) d_Mod_cooks_205 rfl ⟨_, fo_Mod_125⟩ sh_401 (by decide) (rf_401_53 ld) ?_
                      refine g_bipush (pc1 := 210) (v := 12) d_Mod_cooks_208 rfl (by decide) ?_
                      refine g_iload (pc1 := 212) d_Mod_cooks_210 rfl 4 rfl ?_
                      refine g_iadd (pc1 := 213) d_Mod_cooks_212 rfl ?_
                      refine g_aload_n (pc1 := 214) d_Mod_cooks_213 rfl 0 rfl ?_
                      refine g_iload (pc1 := 216) d_Mod_cooks_214 rfl 4 rfl ?_
                      refine g_iload_n (pc1 := 217) d_Mod_cooks_216 rfl 2 rfl ?_
                      refine g_callV0 (pc1 := 220) (As := [.int v4242, .int x4122]) (rest := [.int (12 + v4242), .ref 437]) d_Mod_cooks_217 rfl mo_Mod_359 mi_Mod_forceBy mv_Mod_forceBy rfl sh_401 (by decide) (by decide) rfl rfl (Nat.le_of_ble_eq_true rfl) ?_
                      refine t2_Mod_forceBy hld (Inv.keep hI inv_MS1 k4245) _ _ (by have l0 : (3 : Int32).toInt = 3 := (by decide); have r0 := (mt i_le.mpr h4247); have r1 := n4246; have r2 := (i_b (v4242)); omega) (fun r4250 M4251 L4252 hbr4250 k4253 => ?_)
                      refine g_iast (pc1 := 221) d_Mod_cooks_220 rfl sh_437 (by decide) (by have l0 : (12 : Int32).toInt = 12 := (by decide); have l1 : (3 : Int32).toInt = 3 := (by decide); have r0 := (mt i_le.mpr h4247); have r1 := n4246; have r2 := hbr4250; have r3 := (i_b (M 416 (((5 * (M 401 18)) + p0) : Int32).toNatClampNeg)); have r4 := (i_b (r4250)); have r5 := (i_b (v4242)); have r6 := (i_b (x4122)); (try have d1 : x4122.toInt = ((M 416 (((5 * (M 401 18)) + p0) : Int32).toNatClampNeg) : Int32).toInt := (congrArg Int32.toInt ex4122).trans rfl); have e2 : (12 + v4242 : Int32).toInt = (12 + v4242.toInt) := i_addE (by decide : (12 : Int32).toInt = 12) rfl (by omega); exact vin_i (by omega) (by omega)) ?_
                      refine Wp.topM (fun M4254 eM4254 => ?_)
                      obtain ⟨x4255, ex4255⟩ : ∃ y : Int32, y = v4242 + 1 := ⟨_, rfl⟩
                      refine g_iinc (pc1 := 224) (v := x4255) (lv' := [(0, .ref 401), (1, .int p0), (2, .int x4122), (3, .int x4235), (4, .int x4255)]) d_Mod_cooks_221 rfl 4 rfl (by rw [ex4255]; rfl) (by decide) [1, 2, 3, 4, 0] rfl ?_
                      refine g_goto (tgt := 198) d_Mod_cooks_224 (by decide) ?_
                      exact ih4239 x4255 M4254 L4252 (Kl.wM (Kl.trans k4245 (Kl.mono k4253 MS0_MS1)) rfl eM4254) (by have l0 : (1 : Int32).toInt = 1 := (by decide); have l1 : (3 : Int32).toInt = 3 := (by decide); have r0 := (mt i_le.mpr h4247); have r1 := n4246; have r2 := hbr4250; have r3 := (i_b (M 416 (((5 * (M 401 18)) + p0) : Int32).toNatClampNeg)); have r4 := (i_b (r4250)); have r5 := (i_b (v4242)); have r6 := (i_b (x4122)); have r7 := (i_b (x4255)); (try have d1 : x4122.toInt = ((M 416 (((5 * (M 401 18)) + p0) : Int32).toNatClampNeg) : Int32).toInt := (congrArg Int32.toInt ex4122).trans rfl); have e2 : (v4242 + 1 : Int32).toInt = (v4242.toInt + 1) := i_addE rfl (by decide : (1 : Int32).toInt = 1) (by omega); have d3 : x4255.toInt = (v4242.toInt + 1) := (congrArg Int32.toInt ex4255).trans e2; omega) (by have l0 : (1 : Int32).toInt = 1 := (by decide); have l1 : (3 : Int32).toInt = 3 := (by decide); have r0 := (mt i_le.mpr h4247); have r1 := n4246; have r2 := hbr4250; have r3 := hm4240; have r4 := (i_b (M 416 (((5 * (M 401 18)) + p0) : Int32).toNatClampNeg)); have r5 := (i_b (r4250)); have r6 := (i_b (v4242)); have r7 := (i_b (x4122)); have r8 := (i_b (x4255)); (try have d1 : x4122.toInt = ((M 416 (((5 * (M 401 18)) + p0) : Int32).toNatClampNeg) : Int32).toInt := (congrArg Int32.toInt ex4122).trans rfl); have e2 : (v4242 + 1 : Int32).toInt = (v4242.toInt + 1) := i_addE rfl (by decide : (1 : Int32).toInt = 1) (by omega); have d3 : x4255.toInt = (v4242.toInt + 1) := (congrArg Int32.toInt ex4255).trans e2; omega)
                exact LP4241 _ 0 M4237 L4148 (Kl.wM (Kl.trans (Kl.wM (Kl.wM (Kl.trans (Kl.wM k4133 rfl eM4137) (Kl.mono k4140 MS0_MS1)) rfl eM4141) rfl eM4143) (Kl.mono k4149 MS0_MS1)) rfl eM4237) (by decide) (Nat.lt_succ_self _)
              · refine g_aload_n (pc1 := 168) d_Mod_cooks_167 rfl 0 rfl ?_
                refine g_getr (pc1 := 171) d_Mod_cooks_168 rfl ⟨_, fo_Mod_125⟩ sh_401 (by decide) (rf_401_53 ld) ?_
                refine g_iload_n (pc1 := 172) d_Mod_cooks_171 rfl 3 rfl ?_
                refine g_dup2 (pc1 := 173) d_Mod_cooks_172 rfl rfl rfl ?_
                refine g_iald (pc1 := 174) d_Mod_cooks_173 rfl sh_437 (by decide) (by have l0 : (-2 : Int32).toInt = -2 := (by decide); have l1 : (0 : Int32).toInt = 0 := (by decide); have r0 := (mt i_lt.mpr h4236); have r1 := (i_b (x4235)); (try have d1 : x4235.toInt = (-2) := (congrArg Int32.toInt ex4235).trans (by decide : (-2 : Int32).toInt = -2)); exact vin_i (by omega) (by omega)) ?_
                refine Wp.vali (y := (M4137 437 (x4235 : Int32).toNatClampNeg)) ((((Kl.m k4149 rfl).trans (rd_ne eM4143 (fun q => absurd q.1 (by decide)))).trans (rd_ne eM4141 (fun q => absurd q.1 (by decide)))).trans (Kl.m k4140 rfl)) ?_
                refine g_iconst (pc1 := 175) (v := 1) d_Mod_cooks_174 rfl (by decide) ?_
                refine g_isub (pc1 := 176) d_Mod_cooks_175 rfl ?_
                refine g_iast (pc1 := 177) d_Mod_cooks_176 rfl sh_437 (by decide) (by have l0 : (-2 : Int32).toInt = -2 := (by decide); have l1 : (0 : Int32).toInt = 0 := (by decide); have r0 := (mt i_lt.mpr h4236); have r1 := (i_b (x4235)); (try have d1 : x4235.toInt = (-2) := (congrArg Int32.toInt ex4235).trans (by decide : (-2 : Int32).toInt = -2)); exact vin_i (by omega) (by omega)) ?_
                refine Wp.topM (fun M4256 eM4256 => ?_)
                refine g_aload_n (pc1 := 178) d_Mod_cooks_177 rfl 0 rfl ?_
                refine g_getr (pc1 := 181) d_Mod_cooks_178 rfl ⟨_, fo_Mod_128⟩ sh_401 (by decide) (rf_401_55 ld) ?_
                refine g_iload_n (pc1 := 182) d_Mod_cooks_181 rfl 3 rfl ?_
                refine g_dup2 (pc1 := 183) d_Mod_cooks_182 rfl rfl rfl ?_
                refine g_iald (pc1 := 184) d_Mod_cooks_183 rfl sh_438 (by decide) (by have l0 : (-2 : Int32).toInt = -2 := (by decide); have l1 : (0 : Int32).toInt = 0 := (by decide); have r0 := (mt i_lt.mpr h4236); have r1 := (i_b (x4235)); (try have d1 : x4235.toInt = (-2) := (congrArg Int32.toInt ex4235).trans (by decide : (-2 : Int32).toInt = -2)); exact vin_i (by omega) (by omega)) ?_
                refine Wp.vali (y := (M4131 438 (x4235 : Int32).toNatClampNeg)) ((((((rd_ne eM4256 (fun q => absurd q.1 (by decide))).trans (Kl.m k4149 rfl)).trans (rd_ne eM4143 (fun q => absurd q.1 (by decide)))).trans (rd_ne eM4141 (fun q => absurd q.1 (by decide)))).trans (Kl.m k4140 rfl)).trans (rd_ne eM4137 (fun q => absurd q.1 (by decide)))) ?_
                refine g_iconst (pc1 := 185) (v := 1) d_Mod_cooks_184 rfl (by decide) ?_
                refine g_iadd (pc1 := 186) d_Mod_cooks_185 rfl ?_
                refine g_iast (pc1 := 187) d_Mod_cooks_186 rfl sh_438 (by decide) (by have l0 : (-2 : Int32).toInt = -2 := (by decide); have l1 : (0 : Int32).toInt = 0 := (by decide); have r0 := (mt i_lt.mpr h4236); have r1 := (i_b (x4235)); (try have d1 : x4235.toInt = (-2) := (congrArg Int32.toInt ex4235).trans (by decide : (-2 : Int32).toInt = -2)); exact vin_i (by omega) (by omega)) ?_
                refine Wp.topM (fun M4257 eM4257 => ?_)
                refine g_aload_n (pc1 := 188) d_Mod_cooks_187 rfl 0 rfl ?_
                refine g_getr (pc1 := 191) d_Mod_cooks_188 rfl ⟨_, fo_Mod_125⟩ sh_401 (by decide) (rf_401_53 ld) ?_
                refine g_bipush (pc1 := 193) (v := 11) d_Mod_cooks_191 rfl (by decide) ?_
                refine g_iload_n (pc1 := 194) d_Mod_cooks_193 rfl 1 rfl ?_
                refine g_iast (pc1 := 195) d_Mod_cooks_194 rfl sh_437 (by decide) (vin_lit (x := 11) (by decide)) ?_
                refine Wp.topM (fun M4258 eM4258 => ?_)
                refine g_iconst (pc1 := 196) (v := 0) d_Mod_cooks_195 rfl (by decide) ?_
                refine g_istore (pc1 := 198) (lv' := [(0, .ref 401), (1, .int p0), (2, .int x4122), (3, .int x4235), (4, .int 0)]) d_Mod_cooks_196 rfl (by decide) [1, 2, 3, 4, 0] rfl ?_
                have LP4262 : ∀ (f4259 : Nat) (v4263 : Int32) (M4264 : gM) (L4265 : gL), Kl MS1 M L M4264 L4265 → (0 ≤ v4263.toInt) → ((3 : Int32).toInt - v4263.toInt).toNat < f4259 → Wp l y_Mod_cooks (0, 0, 447) 447 0 0 198 [(0, .ref 401), (1, .int p0), (2, .int x4122), (3, .int x4235), (4, .int v4263)] [] M4264 L4265 (rf ld) Q := by
                  intro f4259
                  induction f4259 with
                  | zero => intro v4263 M4264 L4265 _ _ hm4261; exact absurd hm4261 (Nat.not_lt_zero _)
                  | succ f4259 ih4260 =>
                    intro v4263 M4264 L4265 k4266 n4267 hm4261
                    refine g_iload (pc1 := 200) d_Mod_cooks_198 rfl 4 rfl ?_
                    refine g_iconst (pc1 := 201) (v := 3) d_Mod_cooks_200 rfl (by decide) ?_
                    refine g_icmp_ge (pc1 := 204) (tgt := 227) d_Mod_cooks_201 (by decide) rfl (fun h4268 => ?_) (fun h4268 => ?_)
                    · refine g_aload_n (pc1 := 228) d_Mod_cooks_227 rfl 0 rfl ?_
                      refine g_getr (pc1 := 231) d_Mod_cooks_228 rfl ⟨_, fo_Mod_125⟩ sh_401 (by decide) (rf_401_53 ld) ?_
                      refine g_bipush (pc1 := 233) (v := 6) d_Mod_cooks_231 rfl (by decide) ?_
                      refine g_iload_n (pc1 := 234) d_Mod_cooks_233 rfl 1 rfl ?_
                      refine g_iadd (pc1 := 235) d_Mod_cooks_234 rfl ?_
                      refine g_dup2 (pc1 := 236) d_Mod_cooks_235 rfl rfl rfl ?_
                      refine g_iald (pc1 := 237) d_Mod_cooks_236 rfl sh_437 (by decide) (by have l0 : (6 : Int32).toInt = 6 := (by decide); have r0 := h0; have r1 := (hI.dishes (M 401 18).toNatClampNeg); have r2 := (i_b (M 415 (M 401 18).toNatClampNeg)); have r3 := (i_b (p0)); have e1 : (6 + p0 : Int32).toInt = (6 + p0.toInt) := i_addE (by decide : (6 : Int32).toInt = 6) rfl (by omega); exact vin_i (by omega) (by omega)) ?_
                      refine g_iconst (pc1 := 238) (v := 1) d_Mod_cooks_237 rfl (by decide) ?_
                      refine g_iadd (pc1 := 239) d_Mod_cooks_238 rfl ?_
                      refine g_iast (pc1 := 240) d_Mod_cooks_239 rfl sh_437 (by decide) (by have l0 : (6 : Int32).toInt = 6 := (by decide); have r0 := h0; have r1 := (hI.dishes (M 401 18).toNatClampNeg); have r2 := (i_b (M 415 (M 401 18).toNatClampNeg)); have r3 := (i_b (p0)); have e1 : (6 + p0 : Int32).toInt = (6 + p0.toInt) := i_addE (by decide : (6 : Int32).toInt = 6) rfl (by omega); exact vin_i (by omega) (by omega)) ?_
                      refine Wp.topM (fun M4269 eM4269 => ?_)
                      refine g_aload_n (pc1 := 241) d_Mod_cooks_240 rfl 0 rfl ?_
                      refine g_getr (pc1 := 244) d_Mod_cooks_241 rfl ⟨_, fo_Mod_125⟩ sh_401 (by decide) (rf_401_53 ld) ?_
                      refine g_bipush (pc1 := 246) (v := 37) d_Mod_cooks_244 rfl (by decide) ?_
                      refine g_dup2 (pc1 := 247) d_Mod_cooks_246 rfl rfl rfl ?_
                      refine g_iald (pc1 := 248) d_Mod_cooks_247 rfl sh_437 (by decide) (vin_lit (x := 37) (by decide)) ?_
                      refine g_iconst (pc1 := 249) (v := 1) d_Mod_cooks_248 rfl (by decide) ?_
                      refine g_iadd (pc1 := 250) d_Mod_cooks_249 rfl ?_
                      refine g_iast (pc1 := 251) d_Mod_cooks_250 rfl sh_437 (by decide) (vin_lit (x := 37) (by decide)) ?_
                      refine Wp.topM (fun M4270 eM4270 => ?_)
                      refine g_iload_n (pc1 := 252) d_Mod_cooks_251 rfl 3 rfl ?_
                      refine g_ireturn (Or.inl rfl) d_Mod_cooks_252 rfl ?_
                      exact hQ _ _ _ (Kl.wM (Kl.wM k4266 rfl eM4269) rfl eM4270)
                    · refine g_aload_n (pc1 := 205) d_Mod_cooks_204 rfl 0 rfl ?_
                      refine g_getr (pc1 := 208) d_Mod_cooks_205 rfl ⟨_, fo_Mod_125⟩ sh_401 (by decide) (rf_401_53 ld) ?_
                      refine g_bipush (pc1 := 210) (v := 12) d_Mod_cooks_208 rfl (by decide) ?_
                      refine g_iload (pc1 := 212) d_Mod_cooks_210 rfl 4 rfl ?_
                      refine g_iadd (pc1 := 213) d_Mod_cooks_212 rfl ?_
                      refine g_aload_n (pc1 := 214) d_Mod_cooks_213 rfl 0 rfl ?_
                      refine g_iload (pc1 := 216) d_Mod_cooks_214 rfl 4 rfl ?_
                      refine g_iload_n (pc1 := 217) d_Mod_cooks_216 rfl 2 rfl ?_
                      refine g_callV0 (pc1 := 220) (As := [.int v4263, .int x4122]) (rest := [.int (12 + v4263), .ref 437]) d_Mod_cooks_217 rfl mo_Mod_359 mi_Mod_forceBy mv_Mod_forceBy rfl sh_401 (by decide) (by decide) rfl rfl (Nat.le_of_ble_eq_true rfl) ?_
                      refine t2_Mod_forceBy hld (Inv.keep hI inv_MS1 k4266) _ _ (by have l0 : (3 : Int32).toInt = 3 := (by decide); have r0 := (mt i_le.mpr h4268); have r1 := n4267; have r2 := (i_b (v4263)); omega) (fun r4271 M4272 L4273 hbr4271 k4274 => ?_)
                      refine g_iast (pc1 := 221) d_Mod_cooks_220 rfl sh_437 (by decide) (by have l0 : (12 : Int32).toInt = 12 := (by decide); have l1 : (3 : Int32).toInt = 3 := (by decide); have r0 := (mt i_le.mpr h4268); have r1 := n4267; have r2 := hbr4271; have r3 := (i_b (M 416 (((5 * (M 401 18)) + p0) : Int32).toNatClampNeg)); have r4 := (i_b (r4271)); have r5 := (i_b (v4263)); have r6 := (i_b (x4122)); (try have d1 : x4122.toInt = ((M 416 (((5 * (M 401 18)) + p0) : Int32).toNatClampNeg) : Int32).toInt := (congrArg Int32.toInt ex4122).trans rfl); have e2 : (12 + v4263 : Int32).toInt = (12 + v4263.toInt) := i_addE (by decide : (12 : Int32).toInt = 12) rfl (by omega); exact vin_i (by omega) (by omega)) ?_
                      refine Wp.topM (fun M4275 eM4275 => ?_)
                      obtain ⟨x4276, ex4276⟩ : ∃ y : Int32, y = v4263 + 1 := ⟨_, rfl⟩
                      refine g_iinc (pc1 := 224) (v := x4276) (lv' := [(0, .ref 401), (1, .int p0), (2, .int x4122), (3, .int x4235), (4, .int x4276)]) d_Mod_cooks_221 rfl 4 rfl (by rw [ex4276]; rfl) (by decide) [1, 2, 3, 4, 0] rfl ?_
                      refine g_goto (tgt := 198) d_Mod_cooks_224 (by decide) ?_
                      exact ih4260 x4276 M4275 L4273 (Kl.wM (Kl.trans k4266 (Kl.mono k4274 MS0_MS1)) rfl eM4275) (by have l0 : (1 : Int32).toInt = 1 := (by decide); have l1 : (3 : Int32).toInt = 3 := (by decide); have r0 := (mt i_le.mpr h4268); have r1 := n4267; have r2 := hbr4271; have r3 := (i_b (M 416 (((5 * (M 401 18)) + p0) : Int32).toNatClampNeg)); have r4 := (i_b (r4271)); have r5 := (i_b (v4263)); have r6 := (i_b (x4122)); have r7 := (i_b (x4276)); (try have d1 : x4122.toInt = ((M 416 (((5 * (M 401 18)) + p0) : Int32).toNatClampNeg) : Int32).toInt := (congrArg Int32.toInt ex4122).trans rfl); have e2 : (v4263 + 1 : Int32).toInt = (v4263.toInt + 1) := i_addE rfl (by decide : (1 : Int32).toInt = 1) (by omega); have d3 : x4276.toInt = (v4263.toInt + 1) := (congrArg Int32.toInt ex4276).trans e2; omega) (by have l0 : (1 : Int32).toInt = 1 := (by decide); have l1 : (3 : Int32).toInt = 3 := (by decide); have r0 := (mt i_le.mpr h4268); have r1 := n4267; have r2 := hbr4271; have r3 := hm4261; have r4 := (i_b (M 416 (((5 * (M 401 18)) + p0) : Int32).toNatClampNeg)); have r5 := (i_b (r4271)); have r6 := (i_b (v4263)); have r7 := (i_b (x4122)); have r8 := (i_b (x4276)); (try have d1 : x4122.toInt = ((M 416 (((5 * (M 401 18)) + p0) : Int32).toNatClampNeg) : Int32).toInt := (congrArg Int32.toInt ex4122).trans rfl); have e2 : (v4263 + 1 : Int32).toInt = (v4263.toInt + 1) := i_addE rfl (by decide : (1 : Int32).toInt = 1) (by omega); have d3 : x4276.toInt = (v4263.toInt + 1) := (congrArg Int32.toInt ex4276).trans e2; omega)
                exact LP4262 _ 0 M4258 L4148 (Kl.wM (Kl.wM (Kl.wM (Kl.trans (Kl.wM (Kl.wM (Kl.trans (Kl.wM k4133 rfl eM4137) (Kl.mono k4140 MS0_MS1)) rfl eM4141) rfl eM4143) (Kl.mono k4149 MS0_MS1)) rfl eM4256) rfl eM4257) rfl eM4258) (by decide) (Nat.lt_succ_self _)
        · refine g_aload_n (pc1 := 122) d_Mod_cooks_121 rfl 0 rfl ?_
          refine g_bipush (pc1 := 124) (v := 8) d_Mod_cooks_122 rfl (by decide) ?_
          refine g_aload_n (pc1 := 125) d_Mod_cooks_124 rfl 0 rfl ?_
          refine g_getr (pc1 := 128) d_Mod_cooks_125 rfl ⟨_, fo_Mod_125⟩ sh_401 (by decide) (rf_401_53 ld) ?_
          refine g_bipush (pc1 := 130) (v := 37) d_Mod_cooks_128 rfl (by decide) ?_
          refine g_iald (pc1 := 131) d_Mod_cooks_130 rfl sh_437 (by decide) (vin_lit (x := 37) (by decide)) ?_
          refine Wp.vali (y := (M4137 437 (37 : Int32).toNatClampNeg)) ((((Kl.m k4149 rfl).trans (rd_ne eM4143 (fun q => absurd q.1 (by decide)))).trans (rd_ne eM4141 (fun q => absurd q.1 (by decide)))).trans (Kl.m k4140 rfl)) ?_
          refine g_imul (pc1 := 132) d_Mod_cooks_131 rfl ?_
          refine g_iconst (pc1 := 133) (v := 1) d_Mod_cooks_132 rfl (by decide) ?_
          refine g_iadd (pc1 := 134) d_Mod_cooks_133 rfl ?_
          refine g_aload_n (pc1 := 135) d_Mod_cooks_134 rfl 0 rfl ?_
          refine g_getr (pc1 := 138) d_Mod_cooks_135 rfl ⟨_, fo_Mod_46⟩ sh_401 (by decide) (rf_401_23 ld) ?_
          refine g_aload_n (pc1 := 139) d_Mod_cooks_138 rfl 0 rfl ?_
          refine g_geti (pc1 := 142) d_Mod_cooks_139 rfl ⟨_, fo_Mod_236⟩ sh_401 (by decide) ?_
          refine Wp.vali (y := (M 401 18)) ((((((Kl.m k4149 rfl).trans (rd_ne eM4143 (fun q => absurd q.1 (by decide)))).trans (rd_ne eM4141 (fun q => absurd q.1 (by decide)))).trans (Kl.m k4140 rfl)).trans (rd_ne eM4137 (fun q => absurd q.1 (by decide)))).trans (Kl.m k4133 rfl)) ?_
          refine g_iald (pc1 := 143) d_Mod_cooks_142 rfl sh_411 (by decide) (by have r0 := hI.live; have r1 := (i_b (M 401 18)); exact vin_i (by omega) (by omega)) ?_
          refine Wp.vali (y := (M 411 ((M 401 18) : Int32).toNatClampNeg)) ((((((Kl.m k4149 rfl).trans (rd_ne eM4143 (fun q => absurd q.1 (by decide)))).trans (rd_ne eM4141 (fun q => absurd q.1 (by decide)))).trans (Kl.m k4140 rfl)).trans (rd_ne eM4137 (fun q => absurd q.1 (by decide)))).trans (Kl.m k4133 rfl)) ?_
          refine g_callV0 (pc1 := 146) (As := [.int ((8 * (M4137 437 (37 : Int32).toNatClampNeg)) + 1), .int (M 411 ((M 401 18) : Int32).toNatClampNeg)]) (rest := []) d_Mod_cooks_143 rfl mo_Mod_365 mi_Mod_lotOf mv_Mod_lotOf rfl sh_401 (by decide) (by decide) rfl rfl (Nat.le_of_ble_eq_true rfl) ?_
          refine t2_Mod_lotOf hld (Inv.keep hI inv_MS1 (Kl.trans (Kl.wM (Kl.wM (Kl.trans (Kl.wM k4133 rfl eM4137) (Kl.mono k4140 MS0_MS1)) rfl eM4141) rfl eM4143) (Kl.mono k4149 MS0_MS1))) _ _ (by have r0 := (i_le.mp h4135); have r1 := (hI.some (by omega)); have r2 := (hI.foods (M 401 18).toNatClampNeg); have r3 := (hI.foods (((M 401 18) : Int32).toNatClampNeg)); have r4 := n4134; have r5 := (i_b (M 411 (M 401 18).toNatClampNeg)); have r6 := (i_b (v4130)); omega) (fun r4277 hbr4277 => ?_)
          refine g_istore_n (pc1 := 147) (lv' := [(0, .ref 401), (1, .int p0), (2, .int x4122), (3, .int r4277)]) d_Mod_cooks_146 rfl rfl (by decide) [1, 2, 3, 0] rfl ?_
          refine g_iload_n (pc1 := 148) d_Mod_cooks_147 rfl 3 rfl ?_
          refine g_if_lt (pc1 := 151) (tgt := 163) d_Mod_cooks_148 (by decide) rfl (fun h4278 => ?_) (fun h4278 => ?_)
          · refine g_iload_n (pc1 := 164) d_Mod_cooks_163 rfl 3 rfl ?_
            refine g_if_lt (pc1 := 167) (tgt := 187) d_Mod_cooks_164 (by decide) rfl (fun h4279 => ?_) (fun h4279 => ?_)
            · refine g_aload_n (pc1 := 188) d_Mod_cooks_187 rfl 0 rfl ?_
              refine g_getr (pc1 := 191) d_Mod_cooks_188 rfl ⟨_, fo_Mod_125⟩ sh_401 (by decide) (rf_401_53 ld) ?_
              refine g_bipush (pc1 := 193) (v := 11) d_Mod_cooks_191 rfl (by decide) ?_
              refine g_iload_n (pc1 := 194) d_Mod_cooks_193 rfl 1 rfl ?_
              refine g_iast (pc1 := 195) d_Mod_cooks_194 rfl sh_437 (by decide) (vin_lit (x := 11) (by decide)) ?_
              refine Wp.topM (fun M4280 eM4280 => ?_)
              refine g_iconst (pc1 := 196) (v := 0) d_Mod_cooks_195 rfl (by decide) ?_
              refine g_istore (pc1 := 198) (lv' := [(0, .ref 401), (1, .int p0), (2, .int x4122), (3, .int r4277), (4, .int 0)]) d_Mod_cooks_196 rfl (by decide) [1, 2, 3, 4, 0] rfl ?_
              have LP4284 : ∀ (f4281 : Nat) (v4285 : Int32) (M4286 : gM) (L4287 : gL), Kl MS1 M L M4286 L4287 → (0 ≤ v4285.toInt) → ((3 : Int32).toInt - v4285.toInt).toNat < f4281 → Wp l y_Mod_cooks (0, 0, 447) 447 0 0 198 [(0, .ref 401), (1, .int p0), (2, .int x4122), (3, .int r4277), (4, .int v4285)] [] M4286 L4287 (rf ld) Q := by
                intro f4281
                induction f4281 with
                | zero => intro v4285 M4286 L4287 _ _ hm4283; exact absurd hm4283 (Nat.not_lt_zero _)
                | succ f4281 ih4282 =>
                  intro v4285 M4286 L4287 k4288 n4289 hm4283
                  refine g_iload (pc1 := 200) d_Mod_cooks_198 rfl 4 rfl ?_
                  refine g_iconst (pc1 := 201) (v := 3) d_Mod_cooks_200 rfl (by decide) ?_
                  refine g_icmp_ge (pc1 := 204) (tgt := 227) d_Mod_cooks_201 (by decide) rfl (fun h4290 => ?_) (fun h4290 => ?_)
                  · refine g_aload_n (pc1 := 228) d_Mod_cooks_227 rfl 0 rfl ?_
                    refine g_getr (pc1 := 231) d_Mod_cooks_228 rfl ⟨_, fo_Mod_125⟩ sh_401 (by decide) (rf_401_53 ld) ?_
                    refine g_bipush (pc1 := 233) (v := 6) d_Mod_cooks_231 rfl (by decide) ?_
                    refine g_iload_n (pc1 := 234) d_Mod_cooks_233 rfl 1 rfl ?_
                    refine g_iadd (pc1 := 235) d_Mod_cooks_234 rfl ?_
                    refine g_dup2 (pc1 := 236) d_Mod_cooks_235 rfl rfl rfl ?_
                    refine g_iald (pc1 := 237) d_Mod_cooks_236 rfl sh_437 (by decide) (by have l0 : (6 : Int32).toInt = 6 := (by decide); have r0 := h0; have r1 := (hI.dishes (M 401 18).toNatClampNeg); have r2 := (i_b (M 415 (M 401 18).toNatClampNeg)); have r3 := (i_b (p0)); have e1 : (6 + p0 : Int32).toInt = (6 + p0.toInt) := i_addE (by decide : (6 : Int32).toInt = 6) rfl (by omega); exact vin_i (by omega) (by omega)) ?_
                    refine g_iconst (pc1 := 238) (v := 1) d_Mod_cooks_237 rfl (by decide) ?_
                    refine g_iadd (pc1 := 239) d_Mod_cooks_238 rfl ?_
                    refine g_iast (pc1 := 240) d_Mod_cooks_239 rfl sh_437 (by decide) (by have l0 : (6 : Int32).toInt = 6 := (by decide); have r0 := h0; have r1 := (hI.dishes (M 401 18).toNatClampNeg); have r2 := (i_b (M 415 (M 401 18).toNatClampNeg)); have r3 := (i_b (p0)); have e1 : (6 + p0 : Int32).toInt = (6 + p0.toInt) := i_addE (by decide : (6 : Int32).toInt = 6) rfl (by omega); exact vin_i (by omega) (by omega)) ?_
                    refine Wp.topM (fun M4291 eM4291 => ?_)
                    refine g_aload_n (pc1 := 241) d_Mod_cooks_240 rfl 0 rfl ?_
                    refine g_getr (pc1 := 244) d_Mod_cooks_241 rfl ⟨_, fo_Mod_125⟩ sh_401 (by decide) (rf_401_53 ld) ?_
                    refine g_bipush (pc1 := 246) (v := 37) d_Mod_cooks_244 rfl (by decide) ?_
                    refine g_dup2 (pc1 := 247) d_Mod_cooks_246 rfl rfl rfl ?_
                    refine g_iald (pc1 := 248) d_Mod_cooks_247 rfl sh_437 (by decide) (vin_lit (x := 37) (by decide)) ?_
                    refine g_iconst (pc1 := 249) (v := 1) d_Mod_cooks_248 rfl (by decide) ?_
                    refine g_iadd (pc1 := 250) d_Mod_cooks_249 rfl ?_
                    refine g_iast (pc1 := 251) d_Mod_cooks_250 rfl sh_437 (by decide) (vin_lit (x := 37) (by decide)) ?_
                    refine Wp.topM (fun M4292 eM4292 => ?_)
                    refine g_iload_n (pc1 := 252) d_Mod_cooks_251 rfl 3 rfl ?_
                    refine g_ireturn (Or.inl rfl) d_Mod_cooks_252 rfl ?_
                    exact hQ _ _ _ (Kl.wM (Kl.wM k4288 rfl eM4291) rfl eM4292)
                  · refine g_aload_n (pc1 := 205) d_Mod_cooks_204 rfl 0 rfl ?_
                    refine g_getr (pc1 := 208) d_Mod_cooks_205 rfl ⟨_, fo_Mod_125⟩ sh_401 (by decide) (rf_401_53 ld) ?_
                    refine g_bipush (pc1 := 210) (v := 12) d_Mod_cooks_208 rfl (by decide) ?_
                    refine g_iload (pc1 := 212) d_Mod_cooks_210 rfl 4 rfl ?_
                    refine g_iadd (pc1 := 213) d_Mod_cooks_212 rfl ?_
                    refine g_aload_n (pc1 := 214) d_Mod_cooks_213 rfl 0 rfl ?_
                    refine g_iload (pc1 := 216) d_Mod_cooks_214 rfl 4 rfl ?_
                    refine g_iload_n (pc1 := 217) d_Mod_cooks_216 rfl 2 rfl ?_
                    refine g_callV0 (pc1 := 220) (As := [.int v4285, .int x4122]) (rest := [.int (12 + v4285), .ref 437]) d_Mod_cooks_217 rfl mo_Mod_359 mi_Mod_forceBy mv_Mod_forceBy rfl sh_401 (by decide) (by decide) rfl rfl (Nat.le_of_ble_eq_true rfl) ?_
                    refine t2_Mod_forceBy hld (Inv.keep hI inv_MS1 k4288) _ _ (by have l0 : (3 : Int32).toInt = 3 := (by decide); have r0 := (mt i_le.mpr h4290); have r1 := n4289; have r2 := (i_b (v4285)); omega) (fun r4293 M4294 L4295 hbr4293 k4296 => ?_)
                    refine g_iast (pc1 := 221) d_Mod_cooks_220 rfl sh_437 (by decide) (by have l0 : (12 : Int32).toInt = 12 := (by decide); have l1 : (3 : Int32).toInt = 3 := (by decide); have r0 := (mt i_le.mpr h4290); have r1 := n4289; have r2 := hbr4293; have r3 := (i_b (M 416 (((5 * (M 401 18)) + p0) : Int32).toNatClampNeg)); have r4 := (i_b (r4293)); have r5 := (i_b (v4285)); have r6 := (i_b (x4122)); (try have d1 : x4122.toInt = ((M 416 (((5 * (M 401 18)) + p0) : Int32).toNatClampNeg) : Int32).toInt := (congrArg Int32.toInt ex4122).trans rfl); have e2 : (12 + v4285 : Int32).toInt = (12 + v4285.toInt) := i_addE (by decide : (12 : Int32).toInt = 12) rfl (by omega); exact vin_i (by omega) (by omega)) ?_
                    refine Wp.topM (fun M4297 eM4297 => ?_)
                    obtain ⟨x4298, ex4298⟩ : ∃ y : Int32, y = v4285 + 1 := ⟨_, rfl⟩
                    refine g_iinc (pc1 := 224) (v := x4298) (lv' := [(0, .ref 401), (1, .int p0), (2, .int x4122), (3, .int r4277), (4, .int x4298)]) d_Mod_cooks_221 rfl 4 rfl (by rw [ex4298]; rfl) (by decide) [1, 2, 3, 4, 0] rfl ?_
                    refine g_goto (tgt := 198) d_Mod_cooks_224 (by decide) ?_
                    exact ih4282 x4298 M4297 L4295 (Kl.wM (Kl.trans k4288 (Kl.mono k4296 MS0_MS1)) rfl eM4297) (by have l0 : (1 : Int32).toInt = 1 := (by decide); have l1 : (3 : Int32).toInt = 3 := (by decide); have r0 := (mt i_le.mpr h4290); have r1 := n4289; have r2 := hbr4293; have r3 := (i_b (M 416 (((5 * (M 401 18)) + p0) : Int32).toNatClampNeg)); have r4 := (i_b (r4293)); have r5 := (i_b (v4285)); have r6 := (i_b (x4122)); have r7 := (i_b (x4298)); (try have d1 : x4122.toInt = ((M 416 (((5 * (M 401 18)) + p0) : Int32).toNatClampNeg) : Int32).toInt := (congrArg Int32.toInt ex4122).trans rfl); have e2 : (v4285 + 1 : Int32).toInt = (v4285.toInt + 1) := i_addE rfl (by decide : (1 : Int32).toInt = 1) (by omega); have d3 : x4298.toInt = (v4285.toInt + 1) := (congrArg Int32.toInt ex4298).trans e2; omega) (by have l0 : (1 : Int32).toInt = 1 := (by decide); have l1 : (3 : Int32).toInt = 3 := (by decide); have r0 := (mt i_le.mpr h4290); have r1 := n4289; have r2 := hbr4293; have r3 := hm4283; have r4 := (i_b (M 416 (((5 * (M 401 18)) + p0) : Int32).toNatClampNeg)); have r5 := (i_b (r4293)); have r6 := (i_b (v4285)); have r7 := (i_b (x4122)); have r8 := (i_b (x4298)); (try have d1 : x4122.toInt = ((M 416 (((5 * (M 401 18)) + p0) : Int32).toNatClampNeg) : Int32).toInt := (congrArg Int32.toInt ex4122).trans rfl); have e2 : (v4285 + 1 : Int32).toInt = (v4285.toInt + 1) := i_addE rfl (by decide : (1 : Int32).toInt = 1) (by omega); have d3 : x4298.toInt = (v4285.toInt + 1) := (congrArg Int32.toInt ex4298).trans e2; omega)
              exact LP4284 _ 0 M4280 L4148 (Kl.wM (Kl.trans (Kl.wM (Kl.wM (Kl.trans (Kl.wM k4133 rfl eM4137) (Kl.mono k4140 MS0_MS1)) rfl eM4141) rfl eM4143) (Kl.mono k4149 MS0_MS1)) rfl eM4280) (by decide) (Nat.lt_succ_self _)
            · refine g_aload_n (pc1 := 168) d_Mod_cooks_167 rfl 0 rfl ?_
              refine g_getr (pc1 := 171) d_Mod_cooks_168 rfl ⟨_, fo_Mod_125⟩ sh_401 (by decide) (rf_401_53 ld) ?_
              refine g_iload_n (pc1 := 172) d_Mod_cooks_171 rfl 3 rfl ?_
              refine g_dup2 (pc1 := 173) d_Mod_cooks_172 rfl rfl rfl ?_
              refine g_iald (pc1 := 174) d_Mod_cooks_173 rfl sh_437 (by decide) (by have l0 : (0 : Int32).toInt = 0 := (by decide); have l1 : (1 : Int32).toInt = 1 := (by decide); have l2 : (100 : Int32).toInt = 100 := (by decide); have l3 : (3 : Int32).toInt = 3 := (by decide); have l4 : (8 : Int32).toInt = 8 := (by decide); have r0 := (i_lt.mp h4278); have r1 := (mt i_lt.mpr h4279); have r2 := hbr4277; have r3 := (i_le.mp h4135); have r4 := (hI.some (by omega)); have r5 := (hI.foods (M 401 18).toNatClampNeg); have r6 := (hI.foods (((M 401 18) : Int32).toNatClampNeg)); have r7 := hbr4145; have r8 := (mt i_le.mpr h4150); have r9 := n4134; have r10 := hbr4146; have r11 := (i_b (M 411 (M 401 18).toNatClampNeg)); have r12 := (i_b (M4137 437 (37 : Int32).toNatClampNeg)); have r13 := (i_b (r4145)); have r14 := (i_b (r4146)); have r15 := (i_b (r4277)); have r16 := (i_b (v4130)); (try have e1 : (8 * (M4137 437 (37 : Int32).toNatClampNeg) : Int32).toInt = (8 * ((M4137 437 (37 : Int32).toNatClampNeg) : Int32).toInt) := i_mulE (by decide : (8 : Int32).toInt = 8) rfl (by omega)); (try have e2 : ((8 * (M4137 437 (37 : Int32).toNatClampNeg)) + 1 : Int32).toInt = ((8 * ((M4137 437 (37 : Int32).toNatClampNeg) : Int32).toInt) + 1) := i_addE e1 (by decide : (1 : Int32).toInt = 1) (by omega)); exact vin_i (by omega) (by omega)) ?_
              refine Wp.vali (y := (M4137 437 (r4277 : Int32).toNatClampNeg)) ((((Kl.m k4149 rfl).trans (rd_ne eM4143 (fun q => absurd q.1 (by decide)))).trans (rd_ne eM4141 (fun q => absurd q.1 (by decide)))).trans (Kl.m k4140 rfl)) ?_
              refine g_iconst (pc1 := 175) (v := 1) d_Mod_cooks_174 rfl (by decide) ?_
              refine g_isub (pc1 := 176) d_Mod_cooks_175 rfl ?_
              refine g_iast (pc1 := 177) d_Mod_cooks_176 rfl sh_437 (by decide) (by have l0 : (0 : Int32).toInt = 0 := (by decide); have l1 : (1 : Int32).toInt = 1 := (by decide); have l2 : (100 : Int32).toInt = 100 := (by decide); have l3 : (3 : Int32).toInt = 3 := (by decide); have l4 : (8 : Int32).toInt = 8 := (by decide); have r0 := (i_lt.mp h4278); have r1 := (mt i_lt.mpr h4279); have r2 := hbr4277; have r3 := (i_le.mp h4135); have r4 := (hI.some (by omega)); have r5 := (hI.foods (M 401 18).toNatClampNeg); have r6 := (hI.foods (((M 401 18) : Int32).toNatClampNeg)); have r7 := hbr4145; have r8 := (mt i_le.mpr h4150); have r9 := n4134; have r10 := hbr4146; have r11 := (i_b (M 411 (M 401 18).toNatClampNeg)); have r12 := (i_b (M4137 437 (37 : Int32).toNatClampNeg)); have r13 := (i_b (r4145)); have r14 := (i_b (r4146)); have r15 := (i_b (r4277)); have r16 := (i_b (v4130)); (try have e1 : (8 * (M4137 437 (37 : Int32).toNatClampNeg) : Int32).toInt = (8 * ((M4137 437 (37 : Int32).toNatClampNeg) : Int32).toInt) := i_mulE (by decide : (8 : Int32).toInt = 8) rfl (by omega)); (try have e2 : ((8 * (M4137 437 (37 : Int32).toNatClampNeg)) + 1 : Int32).toInt = ((8 * ((M4137 437 (37 : Int32).toNatClampNeg) : Int32).toInt) + 1) := i_addE e1 (by decide : (1 : Int32).toInt = 1) (by omega)); exact vin_i (by omega) (by omega)) ?_
              refine Wp.topM (fun M4299 eM4299 => ?_)
              refine g_aload_n (pc1 := 178) d_Mod_cooks_177 rfl 0 rfl ?_
              refine g_getr (pc1 := 181) d_Mod_cooks_178 rfl ⟨_, fo_Mod_128⟩ sh_401 (by decide) (rf_401_55 ld) ?_
              refine g_iload_n (pc1 := 182) d_Mod_cooks_181 rfl 3 rfl ?_
              refine g_dup2 (pc1 := 183) d_Mod_cooks_182 rfl rfl rfl ?_
              refine g_iald (pc1 := 184) d_Mod_cooks_183 rfl sh_438 (by decide) (by have l0 : (0 : Int32).toInt = 0 := (by decide); have l1 : (1 : Int32).toInt = 1 := (by decide); have l2 : (100 : Int32).toInt = 100 := (by decide); have l3 : (3 : Int32).toInt = 3 := (by decide); have l4 : (8 : Int32).toInt = 8 := (by decide); have r0 := (i_lt.mp h4278); have r1 := (mt i_lt.mpr h4279); have r2 := hbr4277; have r3 := (i_le.mp h4135); have r4 := (hI.some (by omega)); have r5 := (hI.foods (M 401 18).toNatClampNeg); have r6 := (hI.foods (((M 401 18) : Int32).toNatClampNeg)); have r7 := hbr4145; have r8 := (mt i_le.mpr h4150); have r9 := n4134; have r10 := hbr4146; have r11 := (i_b (M 411 (M 401 18).toNatClampNeg)); have r12 := (i_b (M4137 437 (37 : Int32).toNatClampNeg)); have r13 := (i_b (r4145)); have r14 := (i_b (r4146)); have r15 := (i_b (r4277)); have r16 := (i_b (v4130)); (try have e1 : (8 * (M4137 437 (37 : Int32).toNatClampNeg) : Int32).toInt = (8 * ((M4137 437 (37 : Int32).toNatClampNeg) : Int32).toInt) := i_mulE (by decide : (8 : Int32).toInt = 8) rfl (by omega)); (try have e2 : ((8 * (M4137 437 (37 : Int32).toNatClampNeg)) + 1 : Int32).toInt = ((8 * ((M4137 437 (37 : Int32).toNatClampNeg) : Int32).toInt) + 1) := i_addE e1 (by decide : (1 : Int32).toInt = 1) (by omega)); exact vin_i (by omega) (by omega)) ?_
              refine Wp.vali (y := (M4131 438 (r4277 : Int32).toNatClampNeg)) ((((((rd_ne eM4299 (fun q => absurd q.1 (by decide))).trans (Kl.m k4149 rfl)).trans (rd_ne eM4143 (fun q => absurd q.1 (by decide)))).trans (rd_ne eM4141 (fun q => absurd q.1 (by decide)))).trans (Kl.m k4140 rfl)).trans (rd_ne eM4137 (fun q => absurd q.1 (by decide)))) ?_
              refine g_iconst (pc1 := 185) (v := 1) d_Mod_cooks_184 rfl (by decide) ?_
              refine g_iadd (pc1 := 186) d_Mod_cooks_185 rfl ?_
              refine g_iast (pc1 := 187) d_Mod_cooks_186 rfl sh_438 (by decide) (by have l0 : (0 : Int32).toInt = 0 := (by decide); have l1 : (1 : Int32).toInt = 1 := (by decide); have l2 : (100 : Int32).toInt = 100 := (by decide); have l3 : (3 : Int32).toInt = 3 := (by decide); have l4 : (8 : Int32).toInt = 8 := (by decide); have r0 := (i_lt.mp h4278); have r1 := (mt i_lt.mpr h4279); have r2 := hbr4277; have r3 := (i_le.mp h4135); have r4 := (hI.some (by omega)); have r5 := (hI.foods (M 401 18).toNatClampNeg); have r6 := (hI.foods (((M 401 18) : Int32).toNatClampNeg)); have r7 := hbr4145; have r8 := (mt i_le.mpr h4150); have r9 := n4134; have r10 := hbr4146; have r11 := (i_b (M 411 (M 401 18).toNatClampNeg)); have r12 := (i_b (M4137 437 (37 : Int32).toNatClampNeg)); have r13 := (i_b (r4145)); have r14 := (i_b (r4146)); have r15 := (i_b (r4277)); have r16 := (i_b (v4130)); (try have e1 : (8 * (M4137 437 (37 : Int32).toNatClampNeg) : Int32).toInt = (8 * ((M4137 437 (37 : Int32).toNatClampNeg) : Int32).toInt) := i_mulE (by decide : (8 : Int32).toInt = 8) rfl (by omega)); (try have e2 : ((8 * (M4137 437 (37 : Int32).toNatClampNeg)) + 1 : Int32).toInt = ((8 * ((M4137 437 (37 : Int32).toNatClampNeg) : Int32).toInt) + 1) := i_addE e1 (by decide : (1 : Int32).toInt = 1) (by omega)); exact vin_i (by omega) (by omega)) ?_
              refine Wp.topM (fun M4300 eM4300 => ?_)
              refine g_aload_n (pc1 := 188) d_Mod_cooks_187 rfl 0 rfl ?_
              refine g_getr (pc1 := 191) d_Mod_cooks_188 rfl ⟨_, fo_Mod_125⟩ sh_401 (by decide) (rf_401_53 ld) ?_
              refine g_bipush (pc1 := 193) (v := 11) d_Mod_cooks_191 rfl (by decide) ?_
              refine g_iload_n (pc1 := 194) d_Mod_cooks_193 rfl 1 rfl ?_
              refine g_iast (pc1 := 195) d_Mod_cooks_194 rfl sh_437 (by decide) (vin_lit (x := 11) (by decide)) ?_
              refine Wp.topM (fun M4301 eM4301 => ?_)
              refine g_iconst (pc1 := 196) (v := 0) d_Mod_cooks_195 rfl (by decide) ?_
              refine g_istore (pc1 := 198) (lv' := [(0, .ref 401), (1, .int p0), (2, .int x4122), (3, .int r4277), (4, .int 0)]) d_Mod_cooks_196 rfl (by decide) [1, 2, 3, 4, 0] rfl ?_
              have LP4305 : ∀ (f4302 : Nat) (v4306 : Int32) (M4307 : gM) (L4308 : gL), Kl MS1 M L M4307 L4308 → (0 ≤ v4306.toInt) → ((3 : Int32).toInt - v4306.toInt).toNat < f4302 → Wp l y_Mod_cooks (0, 0, 447) 447 0 0 198 [(0, .ref 401), (1, .int p0), (2, .int x4122), (3, .int r4277), (4, .int v4306)] [] M4307 L4308 (rf ld) Q := by
                intro f4302
                induction f4302 with
                | zero => intro v4306 M4307 L4308 _ _ hm4304; exact absurd hm4304 (Nat.not_lt_zero _)
                | succ f4302 ih4303 =>
                  intro v4306 M4307 L4308 k4309 n4310 hm4304
                  refine g_iload (pc1 := 200) d_Mod_cooks_198 rfl 4 rfl ?_
                  refine g_iconst (pc1 := 201) (v := 3) d_Mod_cooks_200 rfl (by decide) ?_
                  refine g_icmp_ge (pc1 := 204) (tgt := 227) d_Mod_cooks_201 (by decide) rfl (fun h4311 => ?_) (fun h4311 => ?_)
                  · refine g_aload_n (pc1 := 228) d_Mod_cooks_227 rfl 0 rfl ?_
                    refine g_getr (pc1 := 231) d_Mod_cooks_228 rfl ⟨_, fo_Mod_125⟩ sh_401 (by decide) (rf_401_53 ld) ?_
                    refine g_bipush (pc1 := 233) (v := 6) d_Mod_cooks_231 rfl (by decide) ?_
                    refine g_iload_n (pc1 := 234) d_Mod_cooks_233 rfl 1 rfl ?_
                    refine g_iadd (pc1 := 235) d_Mod_cooks_234 rfl ?_
                    refine g_dup2 (pc1 := 236) d_Mod_cooks_235 rfl rfl rfl ?_
                    refine g_iald (pc1 := 237) d_Mod_cooks_236 rfl sh_437 (by decide) (by have l0 : (6 : Int32).toInt = 6 := (by decide); have r0 := h0; have r1 := (hI.dishes (M 401 18).toNatClampNeg); have r2 := (i_b (M 415 (M 401 18).toNatClampNeg)); have r3 := (i_b (p0)); have e1 : (6 + p0 : Int32).toInt = (6 + p0.toInt) := i_addE (by decide : (6 : Int32).toInt = 6) rfl (by omega); exact vin_i (by omega) (by omega)) ?_
                    refine g_iconst (pc1 := 238) (v := 1) d_Mod_cooks_237 rfl (by decide) ?_
                    refine g_iadd (pc1 := 239) d_Mod_cooks_238 rfl ?_
                    refine g_iast (pc1 := 240) d_Mod_cooks_239 rfl sh_437 (by decide) (by have l0 : (6 : Int32).toInt = 6 := (by decide); have r0 := h0; have r1 := (hI.dishes (M 401 18).toNatClampNeg); have r2 := (i_b (M 415 (M 401 18).toNatClampNeg)); have r3 := (i_b (p0)); have e1 : (6 + p0 : Int32).toInt = (6 + p0.toInt) := i_addE (by decide : (6 : Int32).toInt = 6) rfl (by omega); exact vin_i (by omega) (by omega)) ?_
                    refine Wp.topM (fun M4312 eM4312 => ?_)
                    refine g_aload_n (pc1 := 241) d_Mod_cooks_240 rfl 0 rfl ?_
                    refine g_getr (pc1 := 244) d_Mod_cooks_241 rfl ⟨_, fo_Mod_125⟩ sh_401 (by decide) (rf_401_53 ld) ?_
                    refine g_bipush (pc1 := 246) (v := 37) d_Mod_cooks_244 rfl (by decide) ?_
                    refine g_dup2 (pc1 := 247) d_Mod_cooks_246 rfl rfl rfl ?_
                    refine g_iald (pc1 := 248) d_Mod_cooks_247 rfl sh_437 (by decide) (vin_lit (x := 37) (by decide)) ?_
                    refine g_iconst (pc1 := 249) (v := 1) d_Mod_cooks_248 rfl (by decide) ?_
                    refine g_iadd (pc1 := 250) d_Mod_cooks_249 rfl ?_
                    refine g_iast (pc1 := 251) d_Mod_cooks_250 rfl sh_437 (by decide) (vin_lit (x := 37) (by decide)) ?_
                    refine Wp.topM (fun M4313 eM4313 => ?_)
                    refine g_iload_n (pc1 := 252) d_Mod_cooks_251 rfl 3 rfl ?_
                    refine g_ireturn (Or.inl rfl) d_Mod_cooks_252 rfl ?_
                    exact hQ _ _ _ (Kl.wM (Kl.wM k4309 rfl eM4312) rfl eM4313)
                  · refine g_aload_n (pc1 := 205) d_Mod_cooks_204 rfl 0 rfl ?_
                    refine g_getr (pc1 := 208) d_Mod_cooks_205 rfl ⟨_, fo_Mod_125⟩ sh_401 (by decide) (rf_401_53 ld) ?_
                    refine g_bipush (pc1 := 210) (v := 12) d_Mod_cooks_208 rfl (by decide) ?_
                    refine g_iload (pc1 := 212) d_Mod_cooks_210 rfl 4 rfl ?_
                    refine g_iadd (pc1 := 213) d_Mod_cooks_212 rfl ?_
                    refine g_aload_n (pc1 := 214) d_Mod_cooks_213 rfl 0 rfl ?_
                    refine g_iload (pc1 := 216) d_Mod_cooks_214 rfl 4 rfl ?_
                    refine g_iload_n (pc1 := 217) d_Mod_cooks_216 rfl 2 rfl ?_
                    refine g_callV0 (pc1 := 220) (As := [.int v4306, .int x4122]) (rest := [.int (12 + v4306), .ref 437]) d_Mod_cooks_217 rfl mo_Mod_359 mi_Mod_forceBy mv_Mod_forceBy rfl sh_401 (by decide) (by decide) rfl rfl (Nat.le_of_ble_eq_true rfl) ?_
                    refine t2_Mod_forceBy hld (Inv.keep hI inv_MS1 k4309) _ _ (by have l0 : (3 : Int32).toInt = 3 := (by decide); have r0 := (mt i_le.mpr h4311); have r1 := n4310; have r2 := (i_b (v4306)); omega) (fun r4314 M4315 L4316 hbr4314 k4317 => ?_)
                    refine g_iast (pc1 := 221) d_Mod_cooks_220 rfl sh_437 (by decide) (by have l0 : (12 : Int32).toInt = 12 := (by decide); have l1 : (3 : Int32).toInt = 3 := (by decide); have r0 := (mt i_le.mpr h4311); have r1 := n4310; have r2 := hbr4314; have r3 := (i_b (M 416 (((5 * (M 401 18)) + p0) : Int32).toNatClampNeg)); have r4 := (i_b (r4314)); have r5 := (i_b (v4306)); have r6 := (i_b (x4122)); (try have d1 : x4122.toInt = ((M 416 (((5 * (M 401 18)) + p0) : Int32).toNatClampNeg) : Int32).toInt := (congrArg Int32.toInt ex4122).trans rfl); have e2 : (12 + v4306 : Int32).toInt = (12 + v4306.toInt) := i_addE (by decide : (12 : Int32).toInt = 12) rfl (by omega); exact vin_i (by omega) (by omega)) ?_
                    refine Wp.topM (fun M4318 eM4318 => ?_)
                    obtain ⟨x4319, ex4319⟩ : ∃ y : Int32, y = v4306 + 1 := ⟨_, rfl⟩
                    refine g_iinc (pc1 := 224) (v := x4319) (lv' := [(0, .ref 401), (1, .int p0), (2, .int x4122), (3, .int r4277), (4, .int x4319)]) d_Mod_cooks_221 rfl 4 rfl (by rw [ex4319]; rfl) (by decide) [1, 2, 3, 4, 0] rfl ?_
                    refine g_goto (tgt := 198) d_Mod_cooks_224 (by decide) ?_
                    exact ih4303 x4319 M4318 L4316 (Kl.wM (Kl.trans k4309 (Kl.mono k4317 MS0_MS1)) rfl eM4318) (by have l0 : (1 : Int32).toInt = 1 := (by decide); have l1 : (3 : Int32).toInt = 3 := (by decide); have r0 := (mt i_le.mpr h4311); have r1 := n4310; have r2 := hbr4314; have r3 := (i_b (M 416 (((5 * (M 401 18)) + p0) : Int32).toNatClampNeg)); have r4 := (i_b (r4314)); have r5 := (i_b (v4306)); have r6 := (i_b (x4122)); have r7 := (i_b (x4319)); (try have d1 : x4122.toInt = ((M 416 (((5 * (M 401 18)) + p0) : Int32).toNatClampNeg) : Int32).toInt := (congrArg Int32.toInt ex4122).trans rfl); have e2 : (v4306 + 1 : Int32).toInt = (v4306.toInt + 1) := i_addE rfl (by decide : (1 : Int32).toInt = 1) (by omega); have d3 : x4319.toInt = (v4306.toInt + 1) := (congrArg Int32.toInt ex4319).trans e2; omega) (by have l0 : (1 : Int32).toInt = 1 := (by decide); have l1 : (3 : Int32).toInt = 3 := (by decide); have r0 := (mt i_le.mpr h4311); have r1 := n4310; have r2 := hbr4314; have r3 := hm4304; have r4 := (i_b (M 416 (((5 * (M 401 18)) + p0) : Int32).toNatClampNeg)); have r5 := (i_b (r4314)); have r6 := (i_b (v4306)); have r7 := (i_b (x4122)); have r8 := (i_b (x4319)); (try have d1 : x4122.toInt = ((M 416 (((5 * (M 401 18)) + p0) : Int32).toNatClampNeg) : Int32).toInt := (congrArg Int32.toInt ex4122).trans rfl); have e2 : (v4306 + 1 : Int32).toInt = (v4306.toInt + 1) := i_addE rfl (by decide : (1 : Int32).toInt = 1) (by omega); have d3 : x4319.toInt = (v4306.toInt + 1) := (congrArg Int32.toInt ex4319).trans e2; omega)
              exact LP4305 _ 0 M4301 L4148 (Kl.wM (Kl.wM (Kl.wM (Kl.trans (Kl.wM (Kl.wM (Kl.trans (Kl.wM k4133 rfl eM4137) (Kl.mono k4140 MS0_MS1)) rfl eM4141) rfl eM4143) (Kl.mono k4149 MS0_MS1)) rfl eM4299) rfl eM4300) rfl eM4301) (by decide) (Nat.lt_succ_self _)
          · refine g_aload_n (pc1 := 152) d_Mod_cooks_151 rfl 0 rfl ?_
            refine g_getr (pc1 := 155) d_Mod_cooks_152 rfl ⟨_, fo_Mod_125⟩ sh_401 (by decide) (rf_401_53 ld) ?_
            refine g_iload_n (pc1 := 156) d_Mod_cooks_155 rfl 3 rfl ?_
            refine g_iald (pc1 := 157) d_Mod_cooks_156 rfl sh_437 (by decide) (by have l0 : (0 : Int32).toInt = 0 := (by decide); have l1 : (1 : Int32).toInt = 1 := (by decide); have l2 : (100 : Int32).toInt = 100 := (by decide); have l3 : (3 : Int32).toInt = 3 := (by decide); have l4 : (8 : Int32).toInt = 8 := (by decide); have r0 := (mt i_lt.mpr h4278); have r1 := hbr4277; have r2 := (i_le.mp h4135); have r3 := (hI.some (by omega)); have r4 := (hI.foods (M 401 18).toNatClampNeg); have r5 := (hI.foods (((M 401 18) : Int32).toNatClampNeg)); have r6 := hbr4145; have r7 := (mt i_le.mpr h4150); have r8 := n4134; have r9 := hbr4146; have r10 := (i_b (M 411 (M 401 18).toNatClampNeg)); have r11 := (i_b (M4137 437 (37 : Int32).toNatClampNeg)); have r12 := (i_b (r4145)); have r13 := (i_b (r4146)); have r14 := (i_b (r4277)); have r15 := (i_b (v4130)); (try have e1 : (8 * (M4137 437 (37 : Int32).toNatClampNeg) : Int32).toInt = (8 * ((M4137 437 (37 : Int32).toNatClampNeg) : Int32).toInt) := i_mulE (by decide : (8 : Int32).toInt = 8) rfl (by omega)); (try have e2 : ((8 * (M4137 437 (37 : Int32).toNatClampNeg)) + 1 : Int32).toInt = ((8 * ((M4137 437 (37 : Int32).toNatClampNeg) : Int32).toInt) + 1) := i_addE e1 (by decide : (1 : Int32).toInt = 1) (by omega)); exact vin_i (by omega) (by omega)) ?_
            refine Wp.vali (y := (M4137 437 (r4277 : Int32).toNatClampNeg)) ((((Kl.m k4149 rfl).trans (rd_ne eM4143 (fun q => absurd q.1 (by decide)))).trans (rd_ne eM4141 (fun q => absurd q.1 (by decide)))).trans (Kl.m k4140 rfl)) ?_
            refine g_if_ne (pc1 := 160) (tgt := 163) d_Mod_cooks_157 (by decide) rfl (fun h4320 => ?_) (fun h4320 => ?_)
            · refine g_iload_n (pc1 := 164) d_Mod_cooks_163 rfl 3 rfl ?_
              refine g_if_lt (pc1 := 167) (tgt := 187) d_Mod_cooks_164 (by decide) rfl (fun h4321 => ?_) (fun h4321 => ?_)
              · refine g_aload_n (pc1 := 188) d_Mod_cooks_187 rfl 0 rfl ?_
                refine g_getr (pc1 := 191) d_Mod_cooks_188 rfl ⟨_, fo_Mod_125⟩ sh_401 (by decide) (rf_401_53 ld) ?_
                refine g_bipush (pc1 := 193) (v := 11) d_Mod_cooks_191 rfl (by decide) ?_
                refine g_iload_n (pc1 := 194) d_Mod_cooks_193 rfl 1 rfl ?_
                refine g_iast (pc1 := 195) d_Mod_cooks_194 rfl sh_437 (by decide) (vin_lit (x := 11) (by decide)) ?_
                refine Wp.topM (fun M4322 eM4322 => ?_)
                refine g_iconst (pc1 := 196) (v := 0) d_Mod_cooks_195 rfl (by decide) ?_
                refine g_istore (pc1 := 198) (lv' := [(0, .ref 401), (1, .int p0), (2, .int x4122), (3, .int r4277), (4, .int 0)]) d_Mod_cooks_196 rfl (by decide) [1, 2, 3, 4, 0] rfl ?_
                have LP4326 : ∀ (f4323 : Nat) (v4327 : Int32) (M4328 : gM) (L4329 : gL), Kl MS1 M L M4328 L4329 → (0 ≤ v4327.toInt) → ((3 : Int32).toInt - v4327.toInt).toNat < f4323 → Wp l y_Mod_cooks (0, 0, 447) 447 0 0 198 [(0, .ref 401), (1, .int p0), (2, .int x4122), (3, .int r4277), (4, .int v4327)] [] M4328 L4329 (rf ld) Q := by
                  intro f4323
                  induction f4323 with
                  | zero => intro v4327 M4328 L4329 _ _ hm4325; exact absurd hm4325 (Nat.not_lt_zero _)
                  | succ f4323 ih4324 =>
                    intro v4327 M4328 L4329 k4330 n4331 hm4325
                    refine g_iload (pc1 := 200) d_Mod_cooks_198 rfl 4 rfl ?_
                    refine g_iconst (pc1 := 201) (v := 3) d_Mod_cooks_200 rfl (by decide) ?_
                    refine g_icmp_ge (pc1 := 204) (tgt := 227) d_Mod_cooks_201 (by decide) rfl (fun h4332 => ?_) (fun h4332 => ?_)
                    · refine g_aload_n (pc1 := 228) d_Mod_cooks_227 rfl 0 rfl ?_
                      refine g_getr (pc1 := 231) d_Mod_cooks_228 rfl ⟨_, fo_Mod_125⟩ sh_401 (by decide) (rf_401_53 ld) ?_
                      refine g_bipush (pc1 := 233) (v := 6) d_Mod_cooks_231 rfl (by decide) ?_
                      refine g_iload_n (pc1 := 234) d_Mod_cooks_233 rfl 1 rfl ?_
                      refine g_iadd (pc1 := 235) d_Mod_cooks_234 rfl ?_
                      refine g_dup2 (pc1 := 236) d_Mod_cooks_235 rfl rfl rfl ?_
                      refine g_iald (pc1 := 237) d_Mod_cooks_236 rfl sh_437 (by decide) (by have l0 : (6 : Int32).toInt = 6 := (by decide); have r0 := h0; have r1 := (hI.dishes (M 401 18).toNatClampNeg); have r2 := (i_b (M 415 (M 401 18).toNatClampNeg)); have r3 := (i_b (p0)); have e1 : (6 + p0 : Int32).toInt = (6 + p0.toInt) := i_addE (by decide : (6 : Int32).toInt = 6) rfl (by omega); exact vin_i (by omega) (by omega)) ?_
                      refine g_iconst (pc1 := 238) (v := 1) d_Mod_cooks_237 rfl (by decide) ?_
                      refine g_iadd (pc1 := 239) d_Mod_cooks_238 rfl ?_
                      refine g_iast (pc1 := 240) d_Mod_cooks_239 rfl sh_437 (by decide) (by have l0 : (6 : Int32).toInt = 6 := (by decide); have r0 := h0; have r1 := (hI.dishes (M 401 18).toNatClampNeg); have r2 := (i_b (M 415 (M 401 18).toNatClampNeg)); have r3 := (i_b (p0)); have e1 : (6 + p0 : Int32).toInt = (6 + p0.toInt) := i_addE (by decide : (6 : Int32).toInt = 6) rfl (by omega); exact vin_i (by omega) (by omega)) ?_
                      refine Wp.topM (fun M4333 eM4333 => ?_)
                      refine g_aload_n (pc1 := 241) d_Mod_cooks_240 rfl 0 rfl ?_
                      refine g_getr (pc1 := 244) d_Mod_cooks_241 rfl ⟨_, fo_Mod_125⟩ sh_401 (by decide) (rf_401_53 ld) ?_
                      refine g_bipush (pc1 := 246) (v := 37) d_Mod_cooks_244 rfl (by decide) ?_
                      refine g_dup2 (pc1 := 247) d_Mod_cooks_246 rfl rfl rfl ?_
                      refine g_iald (pc1 := 248) d_Mod_cooks_247 rfl sh_437 (by decide) (vin_lit (x := 37) (by decide)) ?_
                      refine g_iconst (pc1 := 249) (v := 1) d_Mod_cooks_248 rfl (by decide) ?_
                      refine g_iadd (pc1 := 250) d_Mod_cooks_249 rfl ?_
                      refine g_iast (pc1 := 251) d_Mod_cooks_250 rfl sh_437 (by decide) (vin_lit (x := 37) (by decide)) ?_
                      refine Wp.topM (fun M4334 eM4334 => ?_)
                      refine g_iload_n (pc1 := 252) d_Mod_cooks_251 rfl 3 rfl ?_
                      refine g_ireturn (Or.inl rfl) d_Mod_cooks_252 rfl ?_
                      exact hQ _ _ _ (Kl.wM (Kl.wM k4330 rfl eM4333) rfl eM4334)
                    · refine g_aload_n (pc1 := 205) d_Mod_cooks_204 rfl 0 rfl ?_
                      refine g_getr (pc1 := 208) d_Mod_cooks_205 rfl ⟨_, fo_Mod_125⟩ sh_401 (by decide) (rf_401_53 ld) ?_
                      refine g_bipush (pc1 := 210) (v := 12) d_Mod_cooks_208 rfl (by decide) ?_
                      refine g_iload (pc1 := 212) d_Mod_cooks_210 rfl 4 rfl ?_
                      refine g_iadd (pc1 := 213) d_Mod_cooks_212 rfl ?_
                      refine g_aload_n (pc1 := 214) d_Mod_cooks_213 rfl 0 rfl ?_
                      refine g_iload (pc1 := 216) d_Mod_cooks_214 rfl 4 rfl ?_
                      refine g_iload_n (pc1 := 217) d_Mod_cooks_216 rfl 2 rfl ?_
                      refine g_callV0 (pc1 := 220) (As := [.int v4327, .int x4122]) (rest := [.int (12 + v4327), .ref 437]) d_Mod_cooks_217 rfl mo_Mod_359 mi_Mod_forceBy mv_Mod_forceBy rfl sh_401 (by decide) (by decide) rfl rfl (Nat.le_of_ble_eq_true rfl) ?_
                      refine t2_Mod_forceBy hld (Inv.keep hI inv_MS1 k4330) _ _ (by have l0 : (3 : Int32).toInt = 3 := (by decide); have r0 := (mt i_le.mpr h4332); have r1 := n4331; have r2 := (i_b (v4327)); omega) (fun r4335 M4336 L4337 hbr4335 k4338 => ?_)
                      refine g_iast (pc1 := 221) d_Mod_cooks_220 rfl sh_437 (by decide) (by have l0 : (12 : Int32).toInt = 12 := (by decide); have l1 : (3 : Int32).toInt = 3 := (by decide); have r0 := (mt i_le.mpr h4332); have r1 := n4331; have r2 := hbr4335; have r3 := (i_b (M 416 (((5 * (M 401 18)) + p0) : Int32).toNatClampNeg)); have r4 := (i_b (r4335)); have r5 := (i_b (v4327)); have r6 := (i_b (x4122)); (try have d1 : x4122.toInt = ((M 416 (((5 * (M 401 18)) + p0) : Int32).toNatClampNeg) : Int32).toInt := (congrArg Int32.toInt ex4122).trans rfl); have e2 : (12 + v4327 : Int32).toInt = (12 + v4327.toInt) := i_addE (by decide : (12 : Int32).toInt = 12) rfl (by omega); exact vin_i (by omega) (by omega)) ?_
                      refine Wp.topM (fun M4339 eM4339 => ?_)
                      obtain ⟨x4340, ex4340⟩ : ∃ y : Int32, y = v4327 + 1 := ⟨_, rfl⟩
                      refine g_iinc (pc1 := 224) (v := x4340) (lv' := [(0, .ref 401), (1, .int p0), (2, .int x4122), (3, .int r4277), (4, .int x4340)]) d_Mod_cooks_221 rfl 4 rfl (by rw [ex4340]; rfl) (by decide) [1, 2, 3, 4, 0] rfl ?_
                      refine g_goto (tgt := 198) d_Mod_cooks_224 (by decide) ?_
                      exact ih4324 x4340 M4339 L4337 (Kl.wM (Kl.trans k4330 (Kl.mono k4338 MS0_MS1)) rfl eM4339) (by have l0 : (1 : Int32).toInt = 1 := (by decide); have l1 : (3 : Int32).toInt = 3 := (by decide); have r0 := (mt i_le.mpr h4332); have r1 := n4331; have r2 := hbr4335; have r3 := (i_b (M 416 (((5 * (M 401 18)) + p0) : Int32).toNatClampNeg)); have r4 := (i_b (r4335)); have r5 := (i_b (v4327)); have r6 := (i_b (x4122)); have r7 := (i_b (x4340)); (try have d1 : x4122.toInt = ((M 416 (((5 * (M 401 18)) + p0) : Int32).toNatClampNeg) : Int32).toInt := (congrArg Int32.toInt ex4122).trans rfl); have e2 : (v4327 + 1 : Int32).toInt = (v4327.toInt + 1) := i_addE rfl (by decide : (1 : Int32).toInt = 1) (by omega); have d3 : x4340.toInt = (v4327.toInt + 1) := (congrArg Int32.toInt ex4340).trans e2; omega) (by have l0 : (1 : Int32).toInt = 1 := (by decide); have l1 : (3 : Int32).toInt = 3 := (by decide); have r0 := (mt i_le.mpr h4332); have r1 := n4331; have r2 := hbr4335; have r3 := hm4325; have r4 := (i_b (M 416 (((5 * (M 401 18)) + p0) : Int32).toNatClampNeg)); have r5 := (i_b (r4335)); have r6 := (i_b (v4327)); have r7 := (i_b (x4122)); have r8 := (i_b (x4340)); (try have d1 : x4122.toInt = ((M 416 (((5 * (M 401 18)) + p0) : Int32).toNatClampNeg) : Int32).toInt := (congrArg Int32.toInt ex4122).trans rfl); have e2 : (v4327 + 1 : Int32).toInt = (v4327.toInt + 1) := i_addE rfl (by decide : (1 : Int32).toInt = 1) (by omega); have d3 : x4340.toInt = (v4327.toInt + 1) := (congrArg Int32.toInt ex4340).trans e2; omega)
                exact LP4326 _ 0 M4322 L4148 (Kl.wM (Kl.trans (Kl.wM (Kl.wM (Kl.trans (Kl.wM k4133 rfl eM4137) (Kl.mono k4140 MS0_MS1)) rfl eM4141) rfl eM4143) (Kl.mono k4149 MS0_MS1)) rfl eM4322) (by decide) (Nat.lt_succ_self _)
              · refine g_aload_n (pc1 := 168) d_Mod_cooks_167 rfl 0 rfl ?_
                refine g_getr (pc1 := 171) d_Mod_cooks_168 rfl ⟨_, fo_Mod_125⟩ sh_401 (by decide) (rf_401_53 ld) ?_
                refine g_iload_n (pc1 := 172) d_Mod_cooks_171 rfl 3 rfl ?_
                refine g_dup2 (pc1 := 173) d_Mod_cooks_172 rfl rfl rfl ?_
                refine g_iald (pc1 := 174) d_Mod_cooks_173 rfl sh_437 (by decide) (by have l0 : (0 : Int32).toInt = 0 := (by decide); have l1 : (1 : Int32).toInt = 1 := (by decide); have l2 : (100 : Int32).toInt = 100 := (by decide); have l3 : (3 : Int32).toInt = 3 := (by decide); have l4 : (8 : Int32).toInt = 8 := (by decide); have r0 := (mt i_lt.mpr h4278); have r1 := (mt i_lt.mpr h4321); have r2 := hbr4277; have r3 := (i_le.mp h4135); have r4 := (hI.some (by omega)); have r5 := (hI.foods (M 401 18).toNatClampNeg); have r6 := (hI.foods (((M 401 18) : Int32).toNatClampNeg)); have r7 := hbr4145; have r8 := (mt i_le.mpr h4150); have r9 := n4134; have r10 := hbr4146; have r11 := (i_b (M 411 (M 401 18).toNatClampNeg)); have r12 := (i_b (M4137 437 (37 : Int32).toNatClampNeg)); have r13 := (i_b (r4145)); have r14 := (i_b (r4146)); have r15 := (i_b (r4277)); have r16 := (i_b (v4130)); (try have e1 : (8 * (M4137 437 (37 : Int32).toNatClampNeg) : Int32).toInt = (8 * ((M4137 437 (37 : Int32).toNatClampNeg) : Int32).toInt) := i_mulE (by decide : (8 : Int32).toInt = 8) rfl (by omega)); (try have e2 : ((8 * (M4137 437 (37 : Int32).toNatClampNeg)) + 1 : Int32).toInt = ((8 * ((M4137 437 (37 : Int32).toNatClampNeg) : Int32).toInt) + 1) := i_addE e1 (by decide : (1 : Int32).toInt = 1) (by omega)); exact vin_i (by omega) (by omega)) ?_
                refine Wp.vali (y := (M4137 437 (r4277 : Int32).toNatClampNeg)) ((((Kl.m k4149 rfl).trans (rd_ne eM4143 (fun q => absurd q.1 (by decide)))).trans (rd_ne eM4141 (fun q => absurd q.1 (by decide)))).trans (Kl.m k4140 rfl)) ?_
                refine g_iconst (pc1 := 175) (v := 1) d_Mod_cooks_174 rfl (by decide) ?_
                refine g_isub (pc1 := 176) d_Mod_cooks_175 rfl ?_
                refine g_iast (pc1 := 177) d_Mod_cooks_176 rfl sh_437 (by decide) (by have l0 : (0 : Int32).toInt = 0 := (by decide); have l1 : (1 : Int32).toInt = 1 := (by decide); have l2 : (100 : Int32).toInt = 100 := (by decide); have l3 : (3 : Int32).toInt = 3 := (by decide); have l4 : (8 : Int32).toInt = 8 := (by decide); have r0 := (mt i_lt.mpr h4278); have r1 := (mt i_lt.mpr h4321); have r2 := hbr4277; have r3 := (i_le.mp h4135); have r4 := (hI.some (by omega)); have r5 := (hI.foods (M 401 18).toNatClampNeg); have r6 := (hI.foods (((M 401 18) : Int32).toNatClampNeg)); have r7 := hbr4145; have r8 := (mt i_le.mpr h4150); have r9 := n4134; have r10 := hbr4146; have r11 := (i_b (M 411 (M 401 18).toNatClampNeg)); have r12 := (i_b (M4137 437 (37 : Int32).toNatClampNeg)); have r13 := (i_b (r4145)); have r14 := (i_b (r4146)); have r15 := (i_b (r4277)); have r16 := (i_b (v4130)); (try have e1 : (8 * (M4137 437 (37 : Int32).toNatClampNeg) : Int32).toInt = (8 * ((M4137 437 (37 : Int32).toNatClampNeg) : Int32).toInt) := i_mulE (by decide : (8 : Int32).toInt = 8) rfl (by omega)); (try have e2 : ((8 * (M4137 437 (37 : Int32).toNatClampNeg)) + 1 : Int32).toInt = ((8 * ((M4137 437 (37 : Int32).toNatClampNeg) : Int32).toInt) + 1) := i_addE e1 (by decide : (1 : Int32).toInt = 1) (by omega)); exact vin_i (by omega) (by omega)) ?_
                refine Wp.topM (fun M4341 eM4341 => ?_)
                refine g_aload_n (pc1 := 178) d_Mod_cooks_177 rfl 0 rfl ?_
                refine g_getr (pc1 := 181) d_Mod_cooks_178 rfl ⟨_, fo_Mod_128⟩ sh_401 (by decide) (rf_401_55 ld) ?_
                refine g_iload_n (pc1 := 182) d_Mod_cooks_181 rfl 3 rfl ?_
                refine g_dup2 (pc1 := 183) d_Mod_cooks_182 rfl rfl rfl ?_
                refine g_iald (pc1 := 184) d_Mod_cooks_183 rfl sh_438 (by decide) (by have l0 : (0 : Int32).toInt = 0 := (by decide); have l1 : (1 : Int32).toInt = 1 := (by decide); have l2 : (100 : Int32).toInt = 100 := (by decide); have l3 : (3 : Int32).toInt = 3 := (by decide); have l4 : (8 : Int32).toInt = 8 := (by decide); have r0 := (mt i_lt.mpr h4278); have r1 := (mt i_lt.mpr h4321); have r2 := hbr4277; have r3 := (i_le.mp h4135); have r4 := (hI.some (by omega)); have r5 := (hI.foods (M 401 18).toNatClampNeg); have r6 := (hI.foods (((M 401 18) : Int32).toNatClampNeg)); have r7 := hbr4145; have r8 := (mt i_le.mpr h4150); have r9 := n4134; have r10 := hbr4146; have r11 := (i_b (M 411 (M 401 18).toNatClampNeg)); have r12 := (i_b (M4137 437 (37 : Int32).toNatClampNeg)); have r13 := (i_b (r4145)); have r14 := (i_b (r4146)); have r15 := (i_b (r4277)); have r16 := (i_b (v4130)); (try have e1 : (8 * (M4137 437 (37 : Int32).toNatClampNeg) : Int32).toInt = (8 * ((M4137 437 (37 : Int32).toNatClampNeg) : Int32).toInt) := i_mulE (by decide : (8 : Int32).toInt = 8) rfl (by omega)); (try have e2 : ((8 * (M4137 437 (37 : Int32).toNatClampNeg)) + 1 : Int32).toInt = ((8 * ((M4137 437 (37 : Int32).toNatClampNeg) : Int32).toInt) + 1) := i_addE e1 (by decide : (1 : Int32).toInt = 1) (by omega)); exact vin_i (by omega) (by omega)) ?_
                refine Wp.vali (y := (M4131 438 (r4277 : Int32).toNatClampNeg)) ((((((rd_ne eM4341 (fun q => absurd q.1 (by decide))).trans (Kl.m k4149 rfl)).trans (rd_ne eM4143 (fun q => absurd q.1 (by decide)))).trans (rd_ne eM4141 (fun q => absurd q.1 (by decide)))).trans (Kl.m k4140 rfl)).trans (rd_ne eM4137 (fun q => absurd q.1 (by decide)))) ?_
                refine g_iconst (pc1 := 185) (v := 1) d_Mod_cooks_184 rfl (by decide) ?_
                refine g_iadd (pc1 := 186) d_Mod_cooks_185 rfl ?_
                refine g_iast (pc1 := 187) d_Mod_cooks_186 rfl sh_438 (by decide) (by have l0 : (0 : Int32).toInt = 0 := (by decide); have l1 : (1 : Int32).toInt = 1 := (by decide); have l2 : (100 : Int32).toInt = 100 := (by decide); have l3 : (3 : Int32).toInt = 3 := (by decide); have l4 : (8 : Int32).toInt = 8 := (by decide); have r0 := (mt i_lt.mpr h4278); have r1 := (mt i_lt.mpr h4321); have r2 := hbr4277; have r3 := (i_le.mp h4135); have r4 := (hI.some (by omega)); have r5 := (hI.foods (M 401 18).toNatClampNeg); have r6 := (hI.foods (((M 401 18) : Int32).toNatClampNeg)); have r7 := hbr4145; have r8 := (mt i_le.mpr h4150); have r9 := n4134; have r10 := hbr4146; have r11 := (i_b (M 411 (M 401 18).toNatClampNeg)); have r12 := (i_b (M4137 437 (37 : Int32).toNatClampNeg)); have r13 := (i_b (r4145)); have r14 := (i_b (r4146)); have r15 := (i_b (r4277)); have r16 := (i_b (v4130)); (try have e1 : (8 * (M4137 437 (37 : Int32).toNatClampNeg) : Int32).toInt = (8 * ((M4137 437 (37 : Int32).toNatClampNeg) : Int32).toInt) := i_mulE (by decide : (8 : Int32).toInt = 8) rfl (by omega)); (try have e2 : ((8 * (M4137 437 (37 : Int32).toNatClampNeg)) + 1 : Int32).toInt = ((8 * ((M4137 437 (37 : Int32).toNatClampNeg) : Int32).toInt) + 1) := i_addE e1 (by decide : (1 : Int32).toInt = 1) (by omega)); exact vin_i (by omega) (by omega)) ?_
                refine Wp.topM (fun M4342 eM4342 => ?_)
                refine g_aload_n (pc1 := 188) d_Mod_cooks_187 rfl 0 rfl ?_
                refine g_getr (pc1 := 191) d_Mod_cooks_188 rfl ⟨_, fo_Mod_125⟩ sh_401 (by decide) (rf_401_53 ld) ?_
                refine g_bipush (pc1 := 193) (v := 11) d_Mod_cooks_191 rfl (by decide) ?_
                refine g_iload_n (pc1 := 194) d_Mod_cooks_193 rfl 1 rfl ?_
                refine g_iast (pc1 := 195) d_Mod_cooks_194 rfl sh_437 (by decide) (vin_lit (x := 11) (by decide)) ?_
                refine Wp.topM (fun M4343 eM4343 => ?_)
                refine g_iconst (pc1 := 196) (v := 0) d_Mod_cooks_195 rfl (by decide) ?_
                refine g_istore (pc1 := 198) (lv' := [(0, .ref 401), (1, .int p0), (2, .int x4122), (3, .int r4277), (4, .int 0)]) d_Mod_cooks_196 rfl (by decide) [1, 2, 3, 4, 0] rfl ?_
                have LP4347 : ∀ (f4344 : Nat) (v4348 : Int32) (M4349 : gM) (L4350 : gL), Kl MS1 M L M4349 L4350 → (0 ≤ v4348.toInt) → ((3 : Int32).toInt - v4348.toInt).toNat < f4344 → Wp l y_Mod_cooks (0, 0, 447) 447 0 0 198 [(0, .ref 401), (1, .int p0), (2, .int x4122), (3, .int r4277), (4, .int v4348)] [] M4349 L4350 (rf ld) Q := by
                  intro f4344
                  induction f4344 with
                  | zero => intro v4348 M4349 L4350 _ _ hm4346; exact absurd hm4346 (Nat.not_lt_zero _)
                  | succ f4344 ih4345 =>
                    intro v4348 M4349 L4350 k4351 n4352 hm4346
                    refine g_iload (pc1 := 200) d_Mod_cooks_198 rfl 4 rfl ?_
                    refine g_iconst (pc1 := 201) (v := 3) d_Mod_cooks_200 rfl (by decide) ?_
                    refine g_icmp_ge (pc1 := 204) (tgt := 227) d_Mod_cooks_201 (by decide) rfl (fun h4353 => ?_) (fun h4353 => ?_)
                    · refine g_aload_n (pc1 := 228) d_Mod_cooks_227 rfl 0 rfl ?_
                      refine g_getr (pc1 := 231) d_Mod_cooks_228 rfl ⟨_, fo_Mod_125⟩ sh_401 (by decide) (rf_401_53 ld) ?_
                      refine g_bipush (pc1 := 233) (v := 6) d_Mod_cooks_231 rfl (by decide) ?_
                      refine g_iload_n (pc1 := 234) d_Mod_cooks_233 rfl 1 rfl ?_
                      refine g_iadd (pc1 := 235) d_Mod_cooks_234 rfl ?_
                      refine g_dup2 (pc1 := 236) d_Mod_cooks_235 rfl rfl rfl ?_
                      refine g_iald (pc1 := 237) d_Mod_cooks_236 rfl sh_437 (by decide) (by have l0 : (6 : Int32).toInt = 6 := (by decide); have r0 := h0; have r1 := (hI.dishes (M 401 18).toNatClampNeg); have r2 := (i_b (M 415 (M 401 18).toNatClampNeg)); have r3 := (i_b (p0)); have e1 : (6 + p0 : Int32).toInt = (6 + p0.toInt) := i_addE (by decide : (6 : Int32).toInt = 6) rfl (by omega); exact vin_i (by omega) (by omega)) ?_
                      refine g_iconst (pc1 := 238) (v := 1) d_Mod_cooks_237 rfl (by decide) ?_
                      refine g_iadd (pc1 := 239) d_Mod_cooks_238 rfl ?_
                      refine g_iast (pc1 := 240) d_Mod_cooks_239 rfl sh_437 (by decide) (by have l0 : (6 : Int32).toInt = 6 := (by decide); have r0 := h0; have r1 := (hI.dishes (M 401 18).toNatClampNeg); have r2 := (i_b (M 415 (M 401 18).toNatClampNeg)); have r3 := (i_b (p0)); have e1 : (6 + p0 : Int32).toInt = (6 + p0.toInt) := i_addE (by decide : (6 : Int32).toInt = 6) rfl (by omega); exact vin_i (by omega) (by omega)) ?_
                      refine Wp.topM (fun M4354 eM4354 => ?_)
                      refine g_aload_n (pc1 := 241) d_Mod_cooks_240 rfl 0 rfl ?_
                      refine g_getr (pc1 := 244) d_Mod_cooks_241 rfl ⟨_, fo_Mod_125⟩ sh_401 (by decide) (rf_401_53 ld) ?_
                      refine g_bipush (pc1 := 246) (v := 37) d_Mod_cooks_244 rfl (by decide) ?_
                      refine g_dup2 (pc1 := 247) d_Mod_cooks_246 rfl rfl rfl ?_
                      refine g_iald (pc1 := 248) d_Mod_cooks_247 rfl sh_437 (by decide) (vin_lit (x := 37) (by decide)) ?_
                      refine g_iconst (pc1 := 249) (v := 1) d_Mod_cooks_248 rfl (by decide) ?_
                      refine g_iadd (pc1 := 250) d_Mod_cooks_249 rfl ?_
                      refine g_iast (pc1 := 251) d_Mod_cooks_250 rfl sh_437 (by decide) (vin_lit (x := 37) (by decide)) ?_
                      refine Wp.topM (fun M4355 eM4355 => ?_)
                      refine g_iload_n (pc1 := 252) d_Mod_cooks_251 rfl 3 rfl ?_
                      refine g_ireturn (Or.inl rfl) d_Mod_cooks_252 rfl ?_
                      exact hQ _ _ _ (Kl.wM (Kl.wM k4351 rfl eM4354) rfl eM4355)
                    · refine g_aload_n (pc1 := 205) d_Mod_cooks_204 rfl 0 rfl ?_
                      refine g_getr (pc1 := 208) d_Mod_cooks_205 rfl ⟨_, fo_Mod_125⟩ sh_401 (by decide) (rf_401_53 ld) ?_
                      refine g_bipush (pc1 := 210) (v := 12) d_Mod_cooks_208 rfl (by decide) ?_
                      refine g_iload (pc1 := 212) d_Mod_cooks_210 rfl 4 rfl ?_
                      refine g_iadd (pc1 := 213) d_Mod_cooks_212 rfl ?_
                      refine g_aload_n (pc1 := 214) d_Mod_cooks_213 rfl 0 rfl ?_
                      refine g_iload (pc1 := 216) d_Mod_cooks_214 rfl 4 rfl ?_
                      refine g_iload_n (pc1 := 217) d_Mod_cooks_216 rfl 2 rfl ?_
                      refine g_callV0 (pc1 := 220) (As := [.int v4348, .int x4122]) (rest := [.int (12 + v4348), .ref 437]) d_Mod_cooks_217 rfl mo_Mod_359 mi_Mod_forceBy mv_Mod_forceBy rfl sh_401 (by decide) (by decide) rfl rfl (Nat.le_of_ble_eq_true rfl) ?_
                      refine t2_Mod_forceBy hld (Inv.keep hI inv_MS1 k4351) _ _ (by have l0 : (3 : Int32).toInt = 3 := (by decide); have r0 := (mt i_le.mpr h4353); have r1 := n4352; have r2 := (i_b (v4348)); omega) (fun r4356 M4357 L4358 hbr4356 k4359 => ?_)
                      refine g_iast (pc1 := 221) d_Mod_cooks_220 rfl sh_437 (by decide) (by have l0 : (12 : Int32).toInt = 12 := (by decide); have l1 : (3 : Int32).toInt = 3 := (by decide); have r0 := (mt i_le.mpr h4353); have r1 := n4352; have r2 := hbr4356; have r3 := (i_b (M 416 (((5 * (M 401 18)) + p0) : Int32).toNatClampNeg)); have r4 := (i_b (r4356)); have r5 := (i_b (v4348)); have r6 := (i_b (x4122)); (try have d1 : x4122.toInt = ((M 416 (((5 * (M 401 18)) + p0) : Int32).toNatClampNeg) : Int32).toInt := (congrArg Int32.toInt ex4122).trans rfl); have e2 : (12 + v4348 : Int32).toInt = (12 + v4348.toInt) := i_addE (by decide : (12 : Int32).toInt = 12) rfl (by omega); exact vin_i (by omega) (by omega)) ?_
                      refine Wp.topM (fun M4360 eM4360 => ?_)
                      obtain ⟨x4361, ex4361⟩ : ∃ y : Int32, y = v4348 + 1 := ⟨_, rfl⟩
                      refine g_iinc (pc1 := 224) (v := x4361) (lv' := [(0, .ref 401), (1, .int p0), (2, .int x4122), (3, .int r4277), (4, .int x4361)]) d_Mod_cooks_221 rfl 4 rfl (by rw [ex4361]; rfl) (by decide) [1, 2, 3, 4, 0] rfl ?_
                      refine g_goto (tgt := 198) d_Mod_cooks_224 (by decide) ?_
                      exact ih4345 x4361 M4360 L4358 (Kl.wM (Kl.trans k4351 (Kl.mono k4359 MS0_MS1)) rfl eM4360) (by have l0 : (1 : Int32).toInt = 1 := (by decide); have l1 : (3 : Int32).toInt = 3 := (by decide); have r0 := (mt i_le.mpr h4353); have r1 := n4352; have r2 := hbr4356; have r3 := (i_b (M 416 (((5 * (M 401 18)) + p0) : Int32).toNatClampNeg)); have r4 := (i_b (r4356)); have r5 := (i_b (v4348)); have r6 := (i_b (x4122)); have r7 := (i_b (x4361)); (try have d1 : x4122.toInt = ((M 416 (((5 * (M 401 18)) + p0) : Int32).toNatClampNeg) : Int32).toInt := (congrArg Int32.toInt ex4122).trans rfl); have e2 : (v4348 + 1 : Int32).toInt = (v4348.toInt + 1) := i_addE rfl (by decide : (1 : Int32).toInt = 1) (by omega); have d3 : x4361.toInt = (v4348.toInt + 1) := (congrArg Int32.toInt ex4361).trans e2; omega) (by have l0 : (1 : Int32).toInt = 1 := (by decide); have l1 : (3 : Int32).toInt = 3 := (by decide); have r0 := (mt i_le.mpr h4353); have r1 := n4352; have r2 := hbr4356; have r3 := hm4346; have r4 := (i_b (M 416 (((5 * (M 401 18)) + p0) : Int32).toNatClampNeg)); have r5 := (i_b (r4356)); have r6 := (i_b (v4348)); have r7 := (i_b (x4122)); have r8 := (i_b (x4361)); (try have d1 : x4122.toInt = ((M 416 (((5 * (M 401 18)) + p0) : Int32).toNatClampNeg) : Int32).toInt := (congrArg Int32.toInt ex4122).trans rfl); have e2 : (v4348 + 1 : Int32).toInt = (v4348.toInt + 1) := i_addE rfl (by decide : (1 : Int32).toInt = 1) (by omega); have d3 : x4361.toInt = (v4348.toInt + 1) := (congrArg Int32.toInt ex4361).trans e2; omega)
                exact LP4347 _ 0 M4343 L4148 (Kl.wM (Kl.wM (Kl.wM (Kl.trans (Kl.wM (Kl.wM (Kl.trans (Kl.wM k4133 rfl eM4137) (Kl.mono k4140 MS0_MS1)) rfl eM4141) rfl eM4143) (Kl.mono k4149 MS0_MS1)) rfl eM4341) rfl eM4342) rfl eM4343) (by decide) (Nat.lt_succ_self _)
            · refine g_bipush (pc1 := 162) (v := (-2)) d_Mod_cooks_160 rfl (by decide) ?_
              refine Wp.topi (fun x4362 ex4362 => ?_)
              refine g_istore_n (pc1 := 163) (lv' := [(0, .ref 401), (1, .int p0), (2, .int x4122), (3, .int x4362)]) d_Mod_cooks_162 rfl rfl (by decide) [1, 2, 3, 0] rfl ?_
              refine g_iload_n (pc1 := 164) d_Mod_cooks_163 rfl 3 rfl ?_
              refine g_if_lt (pc1 := 167) (tgt := 187) d_Mod_cooks_164 (by decide) rfl (fun h4363 => ?_) (fun h4363 => ?_)
              · refine g_aload_n (pc1 := 188) d_Mod_cooks_187 rfl 0 rfl ?_
                refine g_getr (pc1 := 191) d_Mod_cooks_188 rfl ⟨_, fo_Mod_125⟩ sh_401 (by decide) (rf_401_53 ld) ?_
                refine g_bipush (pc1 := 193) (v := 11) d_Mod_cooks_191 rfl (by decide) ?_
                refine g_iload_n (pc1 := 194) d_Mod_cooks_193 rfl 1 rfl ?_
                refine g_iast (pc1 := 195) d_Mod_cooks_194 rfl sh_437 (by decide) (vin_lit (x := 11) (by decide)) ?_
                refine Wp.topM (fun M4364 eM4364 => ?_)
                refine g_iconst (pc1 := 196) (v := 0) d_Mod_cooks_195 rfl (by decide) ?_
                refine g_istore (pc1 := 198) (lv' := [(0, .ref 401), (1, .int p0), (2, .int x4122), (3, .int x4362), (4, .int 0)]) d_Mod_cooks_196 rfl (by decide) [1, 2, 3, 4, 0] rfl ?_
                have LP4368 : ∀ (f4365 : Nat) (v4369 : Int32) (M4370 : gM) (L4371 : gL), Kl MS1 M L M4370 L4371 → (0 ≤ v4369.toInt) → ((3 : Int32).toInt - v4369.toInt).toNat < f4365 → Wp l y_Mod_cooks (0, 0, 447) 447 0 0 198 [(0, .ref 401), (1, .int p0), (2, .int x4122), (3, .int x4362), (4, .int v4369)] [] M4370 L4371 (rf ld) Q := by
                  intro f4365
                  induction f4365 with
                  | zero => intro v4369 M4370 L4371 _ _ hm4367; exact absurd hm4367 (Nat.not_lt_zero _)
                  | succ f4365 ih4366 =>
                    intro v4369 M4370 L4371 k4372 n4373 hm4367
                    refine g_iload (pc1 := 200) d_Mod_cooks_198 rfl 4 rfl ?_
                    refine g_iconst (pc1 := 201) (v := 3) d_Mod_cooks_200 rfl (by decide) ?_
                    refine g_icmp_ge (pc1 := 204) (tgt := 227) d_Mod_cooks_201 (by decide) rfl (fun h4374 => ?_) (fun h4374 => ?_)
                    · refine g_aload_n (pc1 := 228) d_Mod_cooks_227 rfl 0 rfl ?_
                      refine g_getr (pc1 := 231) d_Mod_cooks_228 rfl ⟨_, fo_Mod_125⟩ sh_401 (by decide) (rf_401_53 ld) ?_
                      refine g_bipush (pc1 := 233) (v := 6) d_Mod_cooks_231 rfl (by decide) ?_
                      refine g_iload_n (pc1 := 234) d_Mod_cooks_233 rfl 1 rfl ?_
                      refine g_iadd (pc1 := 235) d_Mod_cooks_234 rfl ?_
                      refine g_dup2 (pc1 := 236) d_Mod_cooks_235 rfl rfl rfl ?_
                      refine g_iald (pc1 := 237) d_Mod_cooks_236 rfl sh_437 (by decide) (by have l0 : (6 : Int32).toInt = 6 := (by decide); have r0 := h0; have r1 := (hI.dishes (M 401 18).toNatClampNeg); have r2 := (i_b (M 415 (M 401 18).toNatClampNeg)); have r3 := (i_b (p0)); have e1 : (6 + p0 : Int32).toInt = (6 + p0.toInt) := i_addE (by decide : (6 : Int32).toInt = 6) rfl (by omega); exact vin_i (by omega) (by omega)) ?_
                      refine g_iconst (pc1 := 238) (v := 1) d_Mod_cooks_237 rfl (by decide) ?_
                      refine g_iadd (pc1 := 239) d_Mod_cooks_238 rfl ?_
                      refine g_iast (pc1 := 240) d_Mod_cooks_239 rfl sh_437 (by decide) (by have l0 : (6 : Int32).toInt = 6 := (by decide); have r0 := h0; have r1 := (hI.dishes (M 401 18).toNatClampNeg); have r2 := (i_b (M 415 (M 401 18).toNatClampNeg)); have r3 := (i_b (p0)); have e1 : (6 + p0 : Int32).toInt = (6 + p0.toInt) := i_addE (by decide : (6 : Int32).toInt = 6) rfl (by omega); exact vin_i (by omega) (by omega)) ?_
                      refine Wp.topM (fun M4375 eM4375 => ?_)
                      refine g_aload_n (pc1 := 241) d_Mod_cooks_240 rfl 0 rfl ?_
                      refine g_getr (pc1 := 244) d_Mod_cooks_241 rfl ⟨_, fo_Mod_125⟩ sh_401 (by decide) (rf_401_53 ld) ?_
                      refine g_bipush (pc1 := 246) (v := 37) d_Mod_cooks_244 rfl (by decide) ?_
                      refine g_dup2 (pc1 := 247) d_Mod_cooks_246 rfl rfl rfl ?_
                      refine g_iald (pc1 := 248) d_Mod_cooks_247 rfl sh_437 (by decide) (vin_lit (x := 37) (by decide)) ?_
                      refine g_iconst (pc1 := 249) (v := 1) d_Mod_cooks_248 rfl (by decide) ?_
                      refine g_iadd (pc1 := 250) d_Mod_cooks_249 rfl ?_
                      refine g_iast (pc1 := 251) d_Mod_cooks_250 rfl sh_437 (by decide) (vin_lit (x := 37) (by decide)) ?_
                      refine Wp.topM (fun M4376 eM4376 => ?_)
                      refine g_iload_n (pc1 := 252) d_Mod_cooks_251 rfl 3 rfl ?_
                      refine g_ireturn (Or.inl rfl) d_Mod_cooks_252 rfl ?_
                      exact hQ _ _ _ (Kl.wM (Kl.wM k4372 rfl eM4375) rfl eM4376)
                    · refine g_aload_n (pc1 := 205) d_Mod_cooks_204 rfl 0 rfl ?_
                      refine g_getr (pc1 := 208) d_Mod_cooks_205 rfl ⟨_, fo_Mod_125⟩ sh_401 (by decide) (rf_401_53 ld) ?_
                      refine g_bipush (pc1 := 210) (v := 12) d_Mod_cooks_208 rfl (by decide) ?_
                      refine g_iload (pc1 := 212) d_Mod_cooks_210 rfl 4 rfl ?_
                      refine g_iadd (pc1 := 213) d_Mod_cooks_212 rfl ?_
                      refine g_aload_n (pc1 := 214) d_Mod_cooks_213 rfl 0 rfl ?_
                      refine g_iload (pc1 := 216) d_Mod_cooks_214 rfl 4 rfl ?_
                      refine g_iload_n (pc1 := 217) d_Mod_cooks_216 rfl 2 rfl ?_
                      refine g_callV0 (pc1 := 220) (As := [.int v4369, .int x4122]) (rest := [.int (12 + v4369), .ref 437]) d_Mod_cooks_217 rfl mo_Mod_359 mi_Mod_forceBy mv_Mod_forceBy rfl sh_401 (by decide) (by decide) rfl rfl (Nat.le_of_ble_eq_true rfl) ?_
                      refine t2_Mod_forceBy hld (Inv.keep hI inv_MS1 k4372) _ _ (by have l0 : (3 : Int32).toInt = 3 := (by decide); have r0 := (mt i_le.mpr h4374); have r1 := n4373; have r2 := (i_b (v4369)); omega) (fun r4377 M4378 L4379 hbr4377 k4380 => ?_)
                      refine g_iast (pc1 := 221) d_Mod_cooks_220 rfl sh_437 (by decide) (by have l0 : (12 : Int32).toInt = 12 := (by decide); have l1 : (3 : Int32).toInt = 3 := (by decide); have r0 := (mt i_le.mpr h4374); have r1 := n4373; have r2 := hbr4377; have r3 := (i_b (M 416 (((5 * (M 401 18)) + p0) : Int32).toNatClampNeg)); have r4 := (i_b (r4377)); have r5 := (i_b (v4369)); have r6 := (i_b (x4122)); (try have d1 : x4122.toInt = ((M 416 (((5 * (M 401 18)) + p0) : Int32).toNatClampNeg) : Int32).toInt := (congrArg Int32.toInt ex4122).trans rfl); have e2 : (12 + v4369 : Int32).toInt = (12 + v4369.toInt) := i_addE (by decide : (12 : Int32).toInt = 12) rfl (by omega); exact vin_i (by omega) (by omega)) ?_
                      refine Wp.topM (fun M4381 eM4381 => ?_)
                      obtain ⟨x4382, ex4382⟩ : ∃ y : Int32, y = v4369 + 1 := ⟨_, rfl⟩
                      refine g_iinc (pc1 := 224) (v := x4382) (lv' := [(0, .ref 401), (1, .int p0), (2, .int x4122), (3, .int x4362), (4, .int x4382)]) d_Mod_cooks_221 rfl 4 rfl (by rw [ex4382]; rfl) (by decide) [1, 2, 3, 4, 0] rfl ?_
                      refine g_goto (tgt := 198) d_Mod_cooks_224 (by decide) ?_
                      exact ih4366 x4382 M4381 L4379 (Kl.wM (Kl.trans k4372 (Kl.mono k4380 MS0_MS1)) rfl eM4381) (by have l0 : (1 : Int32).toInt = 1 := (by decide); have l1 : (3 : Int32).toInt = 3 := (by decide); have r0 := (mt i_le.mpr h4374); have r1 := n4373; have r2 := hbr4377; have r3 := (i_b (M 416 (((5 * (M 401 18)) + p0) : Int32).toNatClampNeg)); have r4 := (i_b (r4377)); have r5 := (i_b (v4369)); have r6 := (i_b (x4122)); have r7 := (i_b (x4382)); (try have d1 : x4122.toInt = ((M 416 (((5 * (M 401 18)) + p0) : Int32).toNatClampNeg) : Int32).toInt := (congrArg Int32.toInt ex4122).trans rfl); have e2 : (v4369 + 1 : Int32).toInt = (v4369.toInt + 1) := i_addE rfl (by decide : (1 : Int32).toInt = 1) (by omega); have d3 : x4382.toInt = (v4369.toInt + 1) := (congrArg Int32.toInt ex4382).trans e2; omega) (by have l0 : (1 : Int32).toInt = 1 := (by decide); have l1 : (3 : Int32).toInt = 3 := (by decide); have r0 := (mt i_le.mpr h4374); have r1 := n4373; have r2 := hbr4377; have r3 := hm4367; have r4 := (i_b (M 416 (((5 * (M 401 18)) + p0) : Int32).toNatClampNeg)); have r5 := (i_b (r4377)); have r6 := (i_b (v4369)); have r7 := (i_b (x4122)); have r8 := (i_b (x4382)); (try have d1 : x4122.toInt = ((M 416 (((5 * (M 401 18)) + p0) : Int32).toNatClampNeg) : Int32).toInt := (congrArg Int32.toInt ex4122).trans rfl); have e2 : (v4369 + 1 : Int32).toInt = (v4369.toInt + 1) := i_addE rfl (by decide : (1 : Int32).toInt = 1) (by omega); have d3 : x4382.toInt = (v4369.toInt + 1) := (congrArg Int32.toInt ex4382).trans e2; omega)
                exact LP4368 _ 0 M4364 L4148 (Kl.wM (Kl.trans (Kl.wM (Kl.wM (Kl.trans (Kl.wM k4133 rfl eM4137) (Kl.mono k4140 MS0_MS1)) rfl eM4141) rfl eM4143) (Kl.mono k4149 MS0_MS1)) rfl eM4364) (by decide) (Nat.lt_succ_self _)
              · refine g_aload_n (pc1 := 168) d_Mod_cooks_167 rfl 0 rfl ?_
                refine g_getr (pc1 := 171) d_Mod_cooks_168 rfl ⟨_, fo_Mod_125⟩ sh_401 (by decide) (rf_401_53 ld) ?_
                refine g_iload_n (pc1 := 172) d_Mod_cooks_171 rfl 3 rfl ?_
                refine g_dup2 (pc1 := 173) d_Mod_cooks_172 rfl rfl rfl ?_
                refine g_iald (pc1 := 174) d_Mod_cooks_173 rfl sh_437 (by decide) (by have l0 : (-2 : Int32).toInt = -2 := (by decide); have l1 : (0 : Int32).toInt = 0 := (by decide); have r0 := (mt i_lt.mpr h4363); have r1 := (i_b (x4362)); (try have d1 : x4362.toInt = (-2) := (congrArg Int32.toInt ex4362).trans (by decide : (-2 : Int32).toInt = -2)); exact vin_i (by omega) (by omega)) ?_
                refine Wp.vali (y := (M4137 437 (x4362 : Int32).toNatClampNeg)) ((((Kl.m k4149 rfl).trans (rd_ne eM4143 (fun q => absurd q.1 (by decide)))).trans (rd_ne eM4141 (fun q => absurd q.1 (by decide)))).trans (Kl.m k4140 rfl)) ?_
                refine g_iconst (pc1 := 175) (v := 1) d_Mod_cooks_174 rfl (by decide) ?_
                refine g_isub (pc1 := 176) d_Mod_cooks_175 rfl ?_
                refine g_iast (pc1 := 177) d_Mod_cooks_176 rfl sh_437 (by decide) (by have l0 : (-2 : Int32).toInt = -2 := (by decide); have l1 : (0 : Int32).toInt = 0 := (by decide); have r0 := (mt i_lt.mpr h4363); have r1 := (i_b (x4362)); (try have d1 : x4362.toInt = (-2) := (congrArg Int32.toInt ex4362).trans (by decide : (-2 : Int32).toInt = -2)); exact vin_i (by omega) (by omega)) ?_
                refine Wp.topM (fun M4383 eM4383 => ?_)
                refine g_aload_n (pc1 := 178) d_Mod_cooks_177 rfl 0 rfl ?_
                refine g_getr (pc1 := 181) d_Mod_cooks_178 rfl ⟨_, fo_Mod_128⟩ sh_401 (by decide) (rf_401_55 ld) ?_
                refine g_iload_n (pc1 := 182) d_Mod_cooks_181 rfl 3 rfl ?_
                refine g_dup2 (pc1 := 183) d_Mod_cooks_182 rfl rfl rfl ?_
                refine g_iald (pc1 := 184) d_Mod_cooks_183 rfl sh_438 (by decide) (by have l0 : (-2 : Int32).toInt = -2 := (by decide); have l1 : (0 : Int32).toInt = 0 := (by decide); have r0 := (mt i_lt.mpr h4363); have r1 := (i_b (x4362)); (try have d1 : x4362.toInt = (-2) := (congrArg Int32.toInt ex4362).trans (by decide : (-2 : Int32).toInt = -2)); exact vin_i (by omega) (by omega)) ?_
                refine Wp.vali (y := (M4131 438 (x4362 : Int32).toNatClampNeg)) ((((((rd_ne eM4383 (fun q => absurd q.1 (by decide))).trans (Kl.m k4149 rfl)).trans (rd_ne eM4143 (fun q => absurd q.1 (by decide)))).trans (rd_ne eM4141 (fun q => absurd q.1 (by decide)))).trans (Kl.m k4140 rfl)).trans (rd_ne eM4137 (fun q => absurd q.1 (by decide)))) ?_
                refine g_iconst (pc1 := 185) (v := 1) d_Mod_cooks_184 rfl (by decide) ?_
                refine g_iadd (pc1 := 186) d_Mod_cooks_185 rfl ?_
                refine g_iast (pc1 := 187) d_Mod_cooks_186 rfl sh_438 (by decide) (by have l0 : (-2 : Int32).toInt = -2 := (by decide); have l1 : (0 : Int32).toInt = 0 := (by decide); have r0 := (mt i_lt.mpr h4363); have r1 := (i_b (x4362)); (try have d1 : x4362.toInt = (-2) := (congrArg Int32.toInt ex4362).trans (by decide : (-2 : Int32).toInt = -2)); exact vin_i (by omega) (by omega)) ?_
                refine Wp.topM (fun M4384 eM4384 => ?_)
                refine g_aload_n (pc1 := 188) d_Mod_cooks_187 rfl 0 rfl ?_
                refine g_getr (pc1 := 191) d_Mod_cooks_188 rfl ⟨_, fo_Mod_125⟩ sh_401 (by decide) (rf_401_53 ld) ?_
                refine g_bipush (pc1 := 193) (v := 11) d_Mod_cooks_191 rfl (by decide) ?_
                refine g_iload_n (pc1 := 194) d_Mod_cooks_193 rfl 1 rfl ?_
                refine g_iast (pc1 := 195) d_Mod_cooks_194 rfl sh_437 (by decide) (vin_lit (x := 11) (by decide)) ?_
                refine Wp.topM (fun M4385 eM4385 => ?_)
                refine g_iconst (pc1 := 196) (v := 0) d_Mod_cooks_195 rfl (by decide) ?_
                refine g_istore (pc1 := 198) (lv' := [(0, .ref 401), (1, .int p0), (2, .int x4122), (3, .int x4362), (4, .int 0)]) d_Mod_cooks_196 rfl (by decide) [1, 2, 3, 4, 0] rfl ?_
                have LP4389 : ∀ (f4386 : Nat) (v4390 : Int32) (M4391 : gM) (L4392 : gL), Kl MS1 M L M4391 L4392 → (0 ≤ v4390.toInt) → ((3 : Int32).toInt - v4390.toInt).toNat < f4386 → Wp l y_Mod_cooks (0, 0, 447) 447 0 0 198 [(0, .ref 401), (1, .int p0), (2, .int x4122), (3, .int x4362), (4, .int v4390)] [] M4391 L4392 (rf ld) Q := by
                  intro f4386
                  induction f4386 with
                  | zero => intro v4390 M4391 L4392 _ _ hm4388; exact absurd hm4388 (Nat.not_lt_zero _)
                  | succ f4386 ih4387 =>
                    intro v4390 M4391 L4392 k4393 n4394 hm4388
                    refine g_iload (pc1 := 200) d_Mod_cooks_198 rfl 4 rfl ?_
                    refine g_iconst (pc1 := 201) (v := 3) d_Mod_cooks_200 rfl (by decide) ?_
                    refine g_icmp_ge (pc1 := 204) (tgt := 227) d_Mod_cooks_201 (by decide) rfl (fun h4395 => ?_) (fun h4395 => ?_)
                    · refine g_aload_n (pc1 := 228) d_Mod_cooks_227 rfl 0 rfl ?_
                      refine g_getr (pc1 := 231) d_Mod_cooks_228 rfl ⟨_, fo_Mod_125⟩ sh_401 (by decide) (rf_401_53 ld) ?_
                      refine g_bipush (pc1 := 233) (v := 6) d_Mod_cooks_231 rfl (by decide) ?_
                      refine g_iload_n (pc1 := 234) d_Mod_cooks_233 rfl 1 rfl ?_
                      refine g_iadd (pc1 := 235) d_Mod_cooks_234 rfl ?_
                      refine g_dup2 (pc1 := 236) d_Mod_cooks_235 rfl rfl rfl ?_
                      refine g_iald (pc1 := 237) d_Mod_cooks_236 rfl sh_437 (by decide) (by have l0 : (6 : Int32).toInt = 6 := (by decide); have r0 := h0; have r1 := (hI.dishes (M 401 18).toNatClampNeg); have r2 := (i_b (M 415 (M 401 18).toNatClampNeg)); have r3 := (i_b (p0)); have e1 : (6 + p0 : Int32).toInt = (6 + p0.toInt) := i_addE (by decide : (6 : Int32).toInt = 6) rfl (by omega); exact vin_i (by omega) (by omega)) ?_
                      refine g_iconst (pc1 := 238) (v := 1) d_Mod_cooks_237 rfl (by decide) ?_
                      refine g_iadd (pc1 := 239) d_Mod_cooks_238 rfl ?_
                      refine g_iast (pc1 := 240) d_Mod_cooks_239 rfl sh_437 (by decide) (by have l0 : (6 : Int32).toInt = 6 := (by decide); have r0 := h0; have r1 := (hI.dishes (M 401 18).toNatClampNeg); have r2 := (i_b (M 415 (M 401 18).toNatClampNeg)); have r3 := (i_b (p0)); have e1 : (6 + p0 : Int32).toInt = (6 + p0.toInt) := i_addE (by decide : (6 : Int32).toInt = 6) rfl (by omega); exact vin_i (by omega) (by omega)) ?_
                      refine Wp.topM (fun M4396 eM4396 => ?_)
                      refine g_aload_n (pc1 := 241) d_Mod_cooks_240 rfl 0 rfl ?_
                      refine g_getr (pc1 := 244) d_Mod_cooks_241 rfl ⟨_, fo_Mod_125⟩ sh_401 (by decide) (rf_401_53 ld) ?_
                      refine g_bipush (pc1 := 246) (v := 37) d_Mod_cooks_244 rfl (by decide) ?_
                      refine g_dup2 (pc1 := 247) d_Mod_cooks_246 rfl rfl rfl ?_
                      refine g_iald (pc1 := 248) d_Mod_cooks_247 rfl sh_437 (by decide) (vin_lit (x := 37) (by decide)) ?_
                      refine g_iconst (pc1 := 249) (v := 1) d_Mod_cooks_248 rfl (by decide) ?_
                      refine g_iadd (pc1 := 250) d_Mod_cooks_249 rfl ?_
                      refine g_iast (pc1 := 251) d_Mod_cooks_250 rfl sh_437 (by decide) (vin_lit (x := 37) (by decide)) ?_
                      refine Wp.topM (fun M4397 eM4397 => ?_)
                      refine g_iload_n (pc1 := 252) d_Mod_cooks_251 rfl 3 rfl ?_
                      refine g_ireturn (Or.inl rfl) d_Mod_cooks_252 rfl ?_
                      exact hQ _ _ _ (Kl.wM (Kl.wM k4393 rfl eM4396) rfl eM4397)
                    · refine g_aload_n (pc1 := 205) d_Mod_cooks_204 rfl 0 rfl ?_
                      refine g_getr (pc1 := 208) d_Mod_cooks_205 rfl ⟨_, fo_Mod_125⟩ sh_401 (by decide) (rf_401_53 ld) ?_
                      refine g_bipush (pc1 := 210) (v := 12) d_Mod_cooks_208 rfl (by decide) ?_
                      refine g_iload (pc1 := 212) d_Mod_cooks_210 rfl 4 rfl ?_
                      refine g_iadd (pc1 := 213) d_Mod_cooks_212 rfl ?_
                      refine g_aload_n (pc1 := 214) d_Mod_cooks_213 rfl 0 rfl ?_
                      refine g_iload (pc1 := 216) d_Mod_cooks_214 rfl 4 rfl ?_
                      refine g_iload_n (pc1 := 217) d_Mod_cooks_216 rfl 2 rfl ?_
                      refine g_callV0 (pc1 := 220) (As := [.int v4390, .int x4122]) (rest := [.int (12 + v4390), .ref 437]) d_Mod_cooks_217 rfl mo_Mod_359 mi_Mod_forceBy mv_Mod_forceBy rfl sh_401 (by decide) (by decide) rfl rfl (Nat.le_of_ble_eq_true rfl) ?_
                      refine t2_Mod_forceBy hld (Inv.keep hI inv_MS1 k4393) _ _ (by have l0 : (3 : Int32).toInt = 3 := (by decide); have r0 := (mt i_le.mpr h4395); have r1 := n4394; have r2 := (i_b (v4390)); omega) (fun r4398 M4399 L4400 hbr4398 k4401 => ?_)
                      refine g_iast (pc1 := 221) d_Mod_cooks_220 rfl sh_437 (by decide) (by have l0 : (12 : Int32).toInt = 12 := (by decide); have l1 : (3 : Int32).toInt = 3 := (by decide); have r0 := (mt i_le.mpr h4395); have r1 := n4394; have r2 := hbr4398; have r3 := (i_b (M 416 (((5 * (M 401 18)) + p0) : Int32).toNatClampNeg)); have r4 := (i_b (r4398)); have r5 := (i_b (v4390)); have r6 := (i_b (x4122)); (try have d1 : x4122.toInt = ((M 416 (((5 * (M 401 18)) + p0) : Int32).toNatClampNeg) : Int32).toInt := (congrArg Int32.toInt ex4122).trans rfl); have e2 : (12 + v4390 : Int32).toInt = (12 + v4390.toInt) := i_addE (by decide : (12 : Int32).toInt = 12) rfl (by omega); exact vin_i (by omega) (by omega)) ?_
                      refine Wp.topM (fun M4402 eM4402 => ?_)
                      obtain ⟨x4403, ex4403⟩ : ∃ y : Int32, y = v4390 + 1 := ⟨_, rfl⟩
                      refine g_iinc (pc1 := 224) (v := x4403) (lv' := [(0, .ref 401), (1, .int p0), (2, .int x4122), (3, .int x4362), (4, .int x4403)]) d_Mod_cooks_221 rfl 4 rfl (by rw [ex4403]; rfl) (by decide) [1, 2, 3, 4, 0] rfl ?_
                      refine g_goto (tgt := 198) d_Mod_cooks_224 (by decide) ?_
                      exact ih4387 x4403 M4402 L4400 (Kl.wM (Kl.trans k4393 (Kl.mono k4401 MS0_MS1)) rfl eM4402) (by have l0 : (1 : Int32).toInt = 1 := (by decide); have l1 : (3 : Int32).toInt = 3 := (by decide); have r0 := (mt i_le.mpr h4395); have r1 := n4394; have r2 := hbr4398; have r3 := (i_b (M 416 (((5 * (M 401 18)) + p0) : Int32).toNatClampNeg)); have r4 := (i_b (r4398)); have r5 := (i_b (v4390)); have r6 := (i_b (x4122)); have r7 := (i_b (x4403)); (try have d1 : x4122.toInt = ((M 416 (((5 * (M 401 18)) + p0) : Int32).toNatClampNeg) : Int32).toInt := (congrArg Int32.toInt ex4122).trans rfl); have e2 : (v4390 + 1 : Int32).toInt = (v4390.toInt + 1) := i_addE rfl (by decide : (1 : Int32).toInt = 1) (by omega); have d3 : x4403.toInt = (v4390.toInt + 1) := (congrArg Int32.toInt ex4403).trans e2; omega) (by have l0 : (1 : Int32).toInt = 1 := (by decide); have l1 : (3 : Int32).toInt = 3 := (by decide); have r0 := (mt i_le.mpr h4395); have r1 := n4394; have r2 := hbr4398; have r3 := hm4388; have r4 := (i_b (M 416 (((5 * (M 401 18)) + p0) : Int32).toNatClampNeg)); have r5 := (i_b (r4398)); have r6 := (i_b (v4390)); have r7 := (i_b (x4122)); have r8 := (i_b (x4403)); (try have d1 : x4122.toInt = ((M 416 (((5 * (M 401 18)) + p0) : Int32).toNatClampNeg) : Int32).toInt := (congrArg Int32.toInt ex4122).trans rfl); have e2 : (v4390 + 1 : Int32).toInt = (v4390.toInt + 1) := i_addE rfl (by decide : (1 : Int32).toInt = 1) (by omega); have d3 : x4403.toInt = (v4390.toInt + 1) := (congrArg Int32.toInt ex4403).trans e2; omega)
                exact LP4389 _ 0 M4385 L4148 (Kl.wM (Kl.wM (Kl.wM (Kl.trans (Kl.wM (Kl.wM (Kl.trans (Kl.wM k4133 rfl eM4137) (Kl.mono k4140 MS0_MS1)) rfl eM4141) rfl eM4143) (Kl.mono k4149 MS0_MS1)) rfl eM4383) rfl eM4384) rfl eM4385) (by decide) (Nat.lt_succ_self _)
      · refine g_aload_n (pc1 := 35) d_Mod_cooks_34 rfl 0 rfl ?_
        refine g_getr (pc1 := 38) d_Mod_cooks_35 rfl ⟨_, fo_Mod_125⟩ sh_401 (by decide) (rf_401_53 ld) ?_
        refine g_iload_n (pc1 := 39) d_Mod_cooks_38 rfl 3 rfl ?_
        refine g_dup2 (pc1 := 40) d_Mod_cooks_39 rfl rfl rfl ?_
        refine g_iald (pc1 := 41) d_Mod_cooks_40 rfl sh_437 (by decide) (by have r0 := (mt i_le.mpr h4135); have r1 := n4134; have r2 := (hI.some (by omega)); have r3 := (hI.foods (M 401 18).toNatClampNeg); have r4 := (hI.foods (((M 401 18) : Int32).toNatClampNeg)); have r5 := (i_b (M 411 (M 401 18).toNatClampNeg)); have r6 := (i_b (v4130)); exact vin_i (by omega) (by omega)) ?_
        refine g_aload_n (pc1 := 42) d_Mod_cooks_41 rfl 0 rfl ?_
        refine g_getr (pc1 := 45) d_Mod_cooks_42 rfl ⟨_, fo_Mod_128⟩ sh_401 (by decide) (rf_401_55 ld) ?_
        refine g_iload_n (pc1 := 46) d_Mod_cooks_45 rfl 3 rfl ?_
        refine g_iald (pc1 := 47) d_Mod_cooks_46 rfl sh_438 (by decide) (by have r0 := (mt i_le.mpr h4135); have r1 := n4134; have r2 := (hI.some (by omega)); have r3 := (hI.foods (M 401 18).toNatClampNeg); have r4 := (hI.foods (((M 401 18) : Int32).toNatClampNeg)); have r5 := (i_b (M 411 (M 401 18).toNatClampNeg)); have r6 := (i_b (v4130)); exact vin_i (by omega) (by omega)) ?_
        refine g_isub (pc1 := 48) d_Mod_cooks_47 rfl ?_
        refine g_iast (pc1 := 49) d_Mod_cooks_48 rfl sh_437 (by decide) (by have r0 := (mt i_le.mpr h4135); have r1 := n4134; have r2 := (hI.some (by omega)); have r3 := (hI.foods (M 401 18).toNatClampNeg); have r4 := (hI.foods (((M 401 18) : Int32).toNatClampNeg)); have r5 := (i_b (M 411 (M 401 18).toNatClampNeg)); have r6 := (i_b (v4130)); exact vin_i (by omega) (by omega)) ?_
        refine Wp.topM (fun M4404 eM4404 => ?_)
        obtain ⟨x4405, ex4405⟩ : ∃ y : Int32, y = v4130 + 1 := ⟨_, rfl⟩
        refine g_iinc (pc1 := 52) (v := x4405) (lv' := [(0, .ref 401), (1, .int p0), (2, .int x4122), (3, .int x4405)]) d_Mod_cooks_49 rfl 3 rfl (by rw [ex4405]; rfl) (by decide) [1, 2, 3, 0] rfl ?_
        refine g_goto (tgt := 21) d_Mod_cooks_52 (by decide) ?_
        exact ih4127 x4405 M4404 L4132 (Kl.wM k4133 rfl eM4404) (by have l0 : (1 : Int32).toInt = 1 := (by decide); have r0 := (mt i_le.mpr h4135); have r1 := n4134; have r2 := (hI.some (by omega)); have r3 := (hI.foods (M 401 18).toNatClampNeg); have r4 := (hI.foods (((M 401 18) : Int32).toNatClampNeg)); have r5 := (i_b (M 411 (M 401 18).toNatClampNeg)); have r6 := (i_b (v4130)); have r7 := (i_b (x4405)); have e1 : (v4130 + 1 : Int32).toInt = (v4130.toInt + 1) := i_addE rfl (by decide : (1 : Int32).toInt = 1) (by omega); have d2 : x4405.toInt = (v4130.toInt + 1) := (congrArg Int32.toInt ex4405).trans e1; omega) (by have l0 : (1 : Int32).toInt = 1 := (by decide); have r0 := (mt i_le.mpr h4135); have r1 := n4134; have r2 := hm4128; have r3 := (hI.some (by omega)); have r4 := (hI.foods (M 401 18).toNatClampNeg); have r5 := (hI.foods (((M 401 18) : Int32).toNatClampNeg)); have r6 := (i_b (M 411 (M 401 18).toNatClampNeg)); have r7 := (i_b (v4130)); have r8 := (i_b (x4405)); have e1 : (v4130 + 1 : Int32).toInt = (v4130.toInt + 1) := i_addE rfl (by decide : (1 : Int32).toInt = 1) (by omega); have d2 : x4405.toInt = (v4130.toInt + 1) := (congrArg Int32.toInt ex4405).trans e1; omega)
  exact LP4129 _ 0 M4123 L4124 (Kl.trans Kl.rf k4125) (by decide) (Nat.lt_succ_self _)
set_option maxHeartbeats 4000000 in
set_option maxRecDepth 20000 in
theorem t2_Mod_dish {l : Launch} {ld : Nat} (hld : isLa ld) {M : gM} {L : gL} {Q : Option Value → gM → gL → gR → Prop} (hI : Inv M) (p0 : Int32) (p1 : Int32)  (hQ : ∀ (r : Int32) (M' : gM) (L' : gL), Kl MS1 M L M' L' → Q (some (.int r)) M' L' (rf ld)) : Tm l y_Mod_dish (0, 0, 447) 447 [.ref 401, .int p0, .int p1] M L (rf ld) Q := by
  refine Tm.of (by decide) (Nat.le_of_ble_eq_true rfl) ?_
  show Wp l y_Mod_dish (0, 0, 447) 447 0 0 0 [(0, .ref 401), (1, .int p0), (2, .int p1)] [] M L (rf ld) Q
  refine g_aload_n (pc1 := 1) d_Mod_dish_0 rfl 0 rfl ?_
  refine g_iload_n (pc1 := 2) d_Mod_dish_1 rfl 1 rfl ?_
  refine g_callV0 (pc1 := 5) (As := [.int p0]) (rest := []) d_Mod_dish_2 rfl mo_Mod_374 mi_Mod_isDish mv_Mod_isDish rfl sh_401 (by decide) (by decide) rfl rfl (Nat.le_of_ble_eq_true rfl) ?_
  refine t2_Mod_isDish hld hI _  (fun r4406 hbr4406 => ?_)
  refine g_if_ne (pc1 := 8) (tgt := 10) d_Mod_dish_5 (by decide) rfl (fun h4407 => ?_) (fun h4407 => ?_)
  · refine g_aload_n (pc1 := 11) d_Mod_dish_10 rfl 0 rfl ?_
    refine g_callV0 (pc1 := 14) (As := []) (rest := []) d_Mod_dish_11 rfl mo_Mod_377 mi_Mod_copies mv_Mod_copies rfl sh_401 (by decide) (by decide) rfl rfl (Nat.le_of_ble_eq_true rfl) ?_
    refine t2_Mod_copies hld hI   (fun  M4408 L4409 k4410 => ?_)
    refine g_aload_n (pc1 := 15) d_Mod_dish_14 rfl 0 rfl ?_
    refine g_iload_n (pc1 := 16) d_Mod_dish_15 rfl 1 rfl ?_
    refine g_callV0 (pc1 := 19) (As := [.int p0]) (rest := []) d_Mod_dish_16 rfl mo_Mod_356 mi_Mod_fillsPot mv_Mod_fillsPot rfl sh_401 (by decide) (by decide) rfl rfl (Nat.le_of_ble_eq_true rfl) ?_
    refine t2_Mod_fillsPot hld (Inv.keep hI inv_MS1 (Kl.trans Kl.rf k4410)) _ (by have r0 := (bp_t hbr4406 h4407); have r1 := (hI.dishes (M 401 18).toNatClampNeg); have r2 := (i_b (M 415 (M 401 18).toNatClampNeg)); have r3 := (i_b (p0)); omega) (fun  M4411 L4412 k4413 => ?_)
    refine g_iload_n (pc1 := 20) d_Mod_dish_19 rfl 2 rfl ?_
    by_cases h4414 : p1 = 0
    · refine g_tabK (tgt := 64) (off := 44) d_Mod_dish_20 h4414 (by decide) (by decide) (by decide) (by decide) ?_
      refine g_aload_n (pc1 := 65) d_Mod_dish_64 rfl 0 rfl ?_
      refine g_getr (pc1 := 68) d_Mod_dish_65 rfl ⟨_, fo_Mod_61⟩ sh_401 (by decide) (rf_401_28 ld) ?_
      refine g_iconst (pc1 := 69) (v := 5) d_Mod_dish_68 rfl (by decide) ?_
      refine g_aload_n (pc1 := 70) d_Mod_dish_69 rfl 0 rfl ?_
      refine g_geti (pc1 := 73) d_Mod_dish_70 rfl ⟨_, fo_Mod_236⟩ sh_401 (by decide) ?_
      refine Wp.vali (y := (M 401 18)) ((Kl.m k4413 rfl).trans (Kl.m k4410 rfl)) ?_
      refine g_imul (pc1 := 74) d_Mod_dish_73 rfl ?_
      refine g_iload_n (pc1 := 75) d_Mod_dish_74 rfl 1 rfl ?_
      refine g_iadd (pc1 := 76) d_Mod_dish_75 rfl ?_
      refine g_iald (pc1 := 77) d_Mod_dish_76 rfl sh_416 (by decide) (by have l0 : (5 : Int32).toInt = 5 := (by decide); have r0 := (bp_t hbr4406 h4407); have r1 := hI.live; have r2 := (hI.dishes (M 401 18).toNatClampNeg); have r3 := (i_b (M 401 18)); have r4 := (i_b (M 415 (M 401 18).toNatClampNeg)); have r5 := (i_b (p0)); have e1 : (5 * (M 401 18) : Int32).toInt = (5 * ((M 401 18) : Int32).toInt) := i_mulE (by decide : (5 : Int32).toInt = 5) rfl (by omega); have e2 : ((5 * (M 401 18)) + p0 : Int32).toInt = ((5 * ((M 401 18) : Int32).toInt) + p0.toInt) := i_addE e1 rfl (by omega); exact vin_i (by omega) (by omega)) ?_
      refine Wp.vali (y := (M 416 (((5 * (M 401 18)) + p0) : Int32).toNatClampNeg)) ((Kl.m k4413 rfl).trans (Kl.m k4410 rfl)) ?_
      refine g_ireturn (Or.inl rfl) d_Mod_dish_77 rfl ?_
      exact hQ _ _ _ (Kl.trans (Kl.trans Kl.rf k4410) k4413)
    by_cases h4415 : p1 = 1
    · refine g_tabK (tgt := 78) (off := 58) d_Mod_dish_20 h4415 (by decide) (by decide) (by decide) (by decide) ?_
      refine g_aload_n (pc1 := 79) d_Mod_dish_78 rfl 0 rfl ?_
      refine g_callV0 (pc1 := 82) (As := []) (rest := []) d_Mod_dish_79 rfl mo_Mod_339 mi_Mod_potMany mv_Mod_potMany rfl sh_401 (by decide) (by decide) rfl rfl (Nat.le_of_ble_eq_true rfl) ?_
      refine t2_Mod_potMany hld (Inv.keep hI inv_MS1 (Kl.trans (Kl.trans Kl.rf k4410) k4413))   (fun r4416 => ?_)
      refine g_ireturn (Or.inl rfl) d_Mod_dish_82 rfl ?_
      exact hQ _ _ _ (Kl.trans (Kl.trans Kl.rf k4410) k4413)
    by_cases h4417 : p1 = 2
    · refine g_tabK (tgt := 83) (off := 63) d_Mod_dish_20 h4417 (by decide) (by decide) (by decide) (by decide) ?_
      refine g_aload_n (pc1 := 84) d_Mod_dish_83 rfl 0 rfl ?_
      refine g_callV0 (pc1 := 87) (As := []) (rest := []) d_Mod_dish_84 rfl mo_Mod_362 mi_Mod_potPrice mv_Mod_potPrice rfl sh_401 (by decide) (by decide) rfl rfl (Nat.le_of_ble_eq_true rfl) ?_
      refine t2_Mod_potPrice hld (Inv.keep hI inv_MS1 (Kl.trans (Kl.trans Kl.rf k4410) k4413))   (fun r4418 => ?_)
      refine g_ireturn (Or.inl rfl) d_Mod_dish_87 rfl ?_
      exact hQ _ _ _ (Kl.trans (Kl.trans Kl.rf k4410) k4413)
    by_cases h4419 : p1 = 3
    · refine g_tabK (tgt := 88) (off := 68) d_Mod_dish_20 h4419 (by decide) (by decide) (by decide) (by decide) ?_
      refine g_aload_n (pc1 := 89) d_Mod_dish_88 rfl 0 rfl ?_
      refine g_iload_n (pc1 := 90) d_Mod_dish_89 rfl 2 rfl ?_
      refine g_iconst (pc1 := 91) (v := 3) d_Mod_dish_90 rfl (by decide) ?_
      refine g_isub (pc1 := 92) d_Mod_dish_91 rfl ?_
      refine g_aload_n (pc1 := 93) d_Mod_dish_92 rfl 0 rfl ?_
      refine g_getr (pc1 := 96) d_Mod_dish_93 rfl ⟨_, fo_Mod_61⟩ sh_401 (by decide) (rf_401_28 ld) ?_
      refine g_iconst (pc1 := 97) (v := 5) d_Mod_dish_96 rfl (by decide) ?_
      refine g_aload_n (pc1 := 98) d_Mod_dish_97 rfl 0 rfl ?_
      refine g_geti (pc1 := 101) d_Mod_dish_98 rfl ⟨_, fo_Mod_236⟩ sh_401 (by decide) ?_
      refine Wp.vali (y := (M 401 18)) ((Kl.m k4413 rfl).trans (Kl.m k4410 rfl)) ?_
      refine g_imul (pc1 := 102) d_Mod_dish_101 rfl ?_
      refine g_iload_n (pc1 := 103) d_Mod_dish_102 rfl 1 rfl ?_
      refine g_iadd (pc1 := 104) d_Mod_dish_103 rfl ?_
      refine g_iald (pc1 := 105) d_Mod_dish_104 rfl sh_416 (by decide) (by have l0 : (5 : Int32).toInt = 5 := (by decide); have r0 := (bp_t hbr4406 h4407); have r1 := hI.live; have r2 := (hI.dishes (M 401 18).toNatClampNeg); have r3 := (i_b (M 401 18)); have r4 := (i_b (M 415 (M 401 18).toNatClampNeg)); have r5 := (i_b (p0)); have e1 : (5 * (M 401 18) : Int32).toInt = (5 * ((M 401 18) : Int32).toInt) := i_mulE (by decide : (5 : Int32).toInt = 5) rfl (by omega); have e2 : ((5 * (M 401 18)) + p0 : Int32).toInt = ((5 * ((M 401 18) : Int32).toInt) + p0.toInt) := i_addE e1 rfl (by omega); exact vin_i (by omega) (by omega)) ?_
      refine Wp.vali (y := (M 416 (((5 * (M 401 18)) + p0) : Int32).toNatClampNeg)) ((Kl.m k4413 rfl).trans (Kl.m k4410 rfl)) ?_
      refine g_callV0 (pc1 := 108) (As := [.int (p1 - 3), .int (M 416 (((5 * (M 401 18)) + p0) : Int32).toNatClampNeg)]) (rest := []) d_Mod_dish_105 rfl mo_Mod_359 mi_Mod_forceBy mv_Mod_forceBy rfl sh_401 (by decide) (by decide) rfl rfl (Nat.le_of_ble_eq_true rfl) ?_
      refine t2_Mod_forceBy hld (Inv.keep hI inv_MS1 (Kl.trans (Kl.trans Kl.rf k4410) k4413)) _ _ (by have l0 : (0 : Int32).toInt = 0 := (by decide); have l1 : (1 : Int32).toInt = 1 := (by decide); have l2 : (2 : Int32).toInt = 2 := (by decide); have l3 : (3 : Int32).toInt = 3 := (by decide); have r0 := (mt Int32.toInt_inj.mp h4414); have r1 := (mt Int32.toInt_inj.mp h4415); have r2 := (mt Int32.toInt_inj.mp h4417); have r3 := (congrArg Int32.toInt h4419); have r4 := (i_b (p1)); have e1 : (p1 - 3 : Int32).toInt = (p1.toInt - 3) := i_subE rfl (by decide : (3 : Int32).toInt = 3) (by omega); omega) (fun r4420 M4421 L4422 hbr4420 k4423 => ?_)
      refine g_ireturn (Or.inl rfl) d_Mod_dish_108 rfl ?_
      exact hQ _ _ _ (Kl.trans (Kl.trans (Kl.trans Kl.rf k4410) k4413) (Kl.mono k4423 MS0_MS1))
    by_cases h4424 : p1 = 4
    · refine g_tabK (tgt := 88) (off := 68) d_Mod_dish_20 h4424 (by decide) (by decide) (by decide) (by decide) ?_
      refine g_aload_n (pc1 := 89) d_Mod_dish_88 rfl 0 rfl ?_
      refine g_iload_n (pc1 := 90) d_Mod_dish_89 rfl 2 rfl ?_
      refine g_iconst (pc1 := 91) (v := 3) d_Mod_dish_90 rfl (by decide) ?_
      refine g_isub (pc1 := 92) d_Mod_dish_91 rfl ?_
      refine g_aload_n (pc1 := 93) d_Mod_dish_92 rfl 0 rfl ?_
      refine g_getr (pc1 := 96) d_Mod_dish_93 rfl ⟨_, fo_Mod_61⟩ sh_401 (by decide) (rf_401_28 ld) ?_
      refine g_iconst (pc1 := 97) (v := 5) d_Mod_dish_96 rfl (by decide) ?_
      refine g_aload_n (pc1 := 98) d_Mod_dish_97 rfl 0 rfl ?_
      refine g_geti (pc1 := 101) d_Mod_dish_98 rfl ⟨_, fo_Mod_236⟩ sh_401 (by decide) ?_
      refine Wp.vali (y := (M 401 18)) ((Kl.m k4413 rfl).trans (Kl.m k4410 rfl)) ?_
      refine g_imul (pc1 := 102) d_Mod_dish_101 rfl ?_
      refine g_iload_n (pc1 := 103) d_Mod_dish_102 rfl 1 rfl ?_
      refine g_iadd (pc1 := 104) d_Mod_dish_103 rfl ?_
      refine g_iald (pc1 := 105) d_Mod_dish_104 rfl sh_416 (by decide) (by have l0 : (5 : Int32).toInt = 5 := (by decide); have r0 := (bp_t hbr4406 h4407); have r1 := hI.live; have r2 := (hI.dishes (M 401 18).toNatClampNeg); have r3 := (i_b (M 401 18)); have r4 := (i_b (M 415 (M 401 18).toNatClampNeg)); have r5 := (i_b (p0)); have e1 : (5 * (M 401 18) : Int32).toInt = (5 * ((M 401 18) : Int32).toInt) := i_mulE (by decide : (5 : Int32).toInt = 5) rfl (by omega); have e2 : ((5 * (M 401 18)) + p0 : Int32).toInt = ((5 * ((M 401 18) : Int32).toInt) + p0.toInt) := i_addE e1 rfl (by omega); exact vin_i (by omega) (by omega)) ?_
      refine Wp.vali (y := (M 416 (((5 * (M 401 18)) + p0) : Int32).toNatClampNeg)) ((Kl.m k4413 rfl).trans (Kl.m k4410 rfl)) ?_
      refine g_callV0 (pc1 := 108) (As := [.int (p1 - 3), .int (M 416 (((5 * (M 401 18)) + p0) : Int32).toNatClampNeg)]) (rest := []) d_Mod_dish_105 rfl mo_Mod_359 mi_Mod_forceBy mv_Mod_forceBy rfl sh_401 (by decide) (by decide) rfl rfl (Nat.le_of_ble_eq_true rfl) ?_
      refine t2_Mod_forceBy hld (Inv.keep hI inv_MS1 (Kl.trans (Kl.trans Kl.rf k4410) k4413)) _ _ (by have l0 : (0 : Int32).toInt = 0 := (by decide); have l1 : (1 : Int32).toInt = 1 := (by decide); have l2 : (2 : Int32).toInt = 2 := (by decide); have l3 : (3 : Int32).toInt = 3 := (by decide); have l4 : (4 : Int32).toInt = 4 := (by decide); have r0 := (mt Int32.toInt_inj.mp h4414); have r1 := (mt Int32.toInt_inj.mp h4415); have r2 := (mt Int32.toInt_inj.mp h4417); have r3 := (mt Int32.toInt_inj.mp h4419); have r4 := (congrArg Int32.toInt h4424); have r5 := (i_b (p1)); have e1 : (p1 - 3 : Int32).toInt = (p1.toInt - 3) := i_subE rfl (by decide : (3 : Int32).toInt = 3) (by omega); omega) (fun r4425 M4426 L4427 hbr4425 k4428 => ?_)
      refine g_ireturn (Or.inl rfl) d_Mod_dish_108 rfl ?_
      exact hQ _ _ _ (Kl.trans (Kl.trans (Kl.trans Kl.rf k4410) k4413) (Kl.mono k4428 MS0_MS1))
    by_cases h4429 : p1 = 5
    · refine g_tabK (tgt := 88) (off := 68) d_Mod_dish_20 h4429 (by decide) (by decide) (by decide) (by decide) ?_
      refine g_aload_n (pc1 := 89) d_Mod_dish_88 rfl 0 rfl ?_
      refine g_iload_n (pc1 := 90) d_Mod_dish_89 rfl 2 rfl ?_
      refine g_iconst (pc1 := 91) (v := 3) d_Mod_dish_90 rfl (by decide) ?_
      refine g_isub (pc1 := 92) d_Mod_dish_91 rfl ?_
      refine g_aload_n (pc1 := 93) d_Mod_dish_92 rfl 0 rfl ?_
      refine g_getr (pc1 := 96) d_Mod_dish_93 rfl ⟨_, fo_Mod_61⟩ sh_401 (by decide) (rf_401_28 ld) ?_
      refine g_iconst (pc1 := 97) (v := 5) d_Mod_dish_96 rfl (by decide) ?_
      refine g_aload_n (pc1 := 98) d_Mod_dish_97 rfl 0 rfl ?_
      refine g_geti (pc1 := 101) d_Mod_dish_98 rfl ⟨_, fo_Mod_236⟩ sh_401 (by decide) ?_
      refine Wp.vali (y := (M 401 18)) ((Kl.m k4413 rfl).trans (Kl.m k4410 rfl)) ?_
      refine g_imul (pc1 := 102) d_Mod_dish_101 rfl ?_
      refine g_iload_n (pc1 := 103) d_Mod_dish_102 rfl 1 rfl ?_
      refine g_iadd (pc1 := 104) d_Mod_dish_103 rfl ?_
      refine g_iald (pc1 := 105) d_Mod_dish_104 rfl sh_416 (by decide) (by have l0 : (5 : Int32).toInt = 5 := (by decide); have r0 := (bp_t hbr4406 h4407); have r1 := hI.live; have r2 := (hI.dishes (M 401 18).toNatClampNeg); have r3 := (i_b (M 401 18)); have r4 := (i_b (M 415 (M 401 18).toNatClampNeg)); have r5 := (i_b (p0)); have e1 : (5 * (M 401 18) : Int32).toInt = (5 * ((M 401 18) : Int32).toInt) := i_mulE (by decide : (5 : Int32).toInt = 5) rfl (by omega); have e2 : ((5 * (M 401 18)) + p0 : Int32).toInt = ((5 * ((M 401 18) : Int32).toInt) + p0.toInt) := i_addE e1 rfl (by omega); exact vin_i (by omega) (by omega)) ?_
      refine Wp.vali (y := (M 416 (((5 * (M 401 18)) + p0) : Int32).toNatClampNeg)) ((Kl.m k4413 rfl).trans (Kl.m k4410 rfl)) ?_
      refine g_callV0 (pc1 := 108) (As := [.int (p1 - 3), .int (M 416 (((5 * (M 401 18)) + p0) : Int32).toNatClampNeg)]) (rest := []) d_Mod_dish_105 rfl mo_Mod_359 mi_Mod_forceBy mv_Mod_forceBy rfl sh_401 (by decide) (by decide) rfl rfl (Nat.le_of_ble_eq_true rfl) ?_
      refine t2_Mod_forceBy hld (Inv.keep hI inv_MS1 (Kl.trans (Kl.trans Kl.rf k4410) k4413)) _ _ (by have l0 : (0 : Int32).toInt = 0 := (by decide); have l1 : (1 : Int32).toInt = 1 := (by decide); have l2 : (2 : Int32).toInt = 2 := (by decide); have l3 : (3 : Int32).toInt = 3 := (by decide); have l4 : (4 : Int32).toInt = 4 := (by decide); have l5 : (5 : Int32).toInt = 5 := (by decide); have r0 := (mt Int32.toInt_inj.mp h4414); have r1 := (mt Int32.toInt_inj.mp h4415); have r2 := (mt Int32.toInt_inj.mp h4417); have r3 := (mt Int32.toInt_inj.mp h4419); have r4 := (mt Int32.toInt_inj.mp h4424); have r5 := (congrArg Int32.toInt h4429); have r6 := (i_b (p1)); have e1 : (p1 - 3 : Int32).toInt = (p1.toInt - 3) := i_subE rfl (by decide : (3 : Int32).toInt = 3) (by omega); omega) (fun r4430 M4431 L4432 hbr4430 k4433 => ?_)
      refine g_ireturn (Or.inl rfl) d_Mod_dish_108 rfl ?_
      exact hQ _ _ _ (Kl.trans (Kl.trans (Kl.trans Kl.rf k4410) k4413) (Kl.mono k4433 MS0_MS1))
    by_cases h4434 : p1 = 6
    · refine g_tabK (tgt := 109) (off := 89) d_Mod_dish_20 h4434 (by decide) (by decide) (by decide) (by decide) ?_
      refine g_aload_n (pc1 := 110) d_Mod_dish_109 rfl 0 rfl ?_
      refine g_getr (pc1 := 113) d_Mod_dish_110 rfl ⟨_, fo_Mod_125⟩ sh_401 (by decide) (rf_401_53 ld) ?_
      refine g_bipush (pc1 := 115) (v := 6) d_Mod_dish_113 rfl (by decide) ?_
      refine g_iload_n (pc1 := 116) d_Mod_dish_115 rfl 1 rfl ?_
      refine g_iadd (pc1 := 117) d_Mod_dish_116 rfl ?_
      refine g_iald (pc1 := 118) d_Mod_dish_117 rfl sh_437 (by decide) (by have l0 : (6 : Int32).toInt = 6 := (by decide); have r0 := (bp_t hbr4406 h4407); have r1 := (hI.dishes (M 401 18).toNatClampNeg); have r2 := (i_b (M 415 (M 401 18).toNatClampNeg)); have r3 := (i_b (p0)); have e1 : (6 + p0 : Int32).toInt = (6 + p0.toInt) := i_addE (by decide : (6 : Int32).toInt = 6) rfl (by omega); exact vin_i (by omega) (by omega)) ?_
      refine g_ireturn (Or.inl rfl) d_Mod_dish_118 rfl ?_
      exact hQ _ _ _ (Kl.trans (Kl.trans Kl.rf k4410) k4413)
    refine g_tabOut (tgt := 119) d_Mod_dish_20 (by
      have nh4414 := neT (a := 0) h4414 (by decide)
      have nh4415 := neT (a := 1) h4415 (by decide)
      have nh4417 := neT (a := 2) h4417 (by decide)
      have nh4419 := neT (a := 3) h4419 (by decide)
      have nh4424 := neT (a := 4) h4424 (by decide)
      have nh4429 := neT (a := 5) h4429 (by decide)
      have nh4434 := neT (a := 6) h4434 (by decide)
      omega) (by decide) ?_
    refine g_iconst (pc1 := 120) (v := (-1)) d_Mod_dish_119 rfl (by decide) ?_
    refine g_ireturn (Or.inl rfl) d_Mod_dish_120 rfl ?_
    exact hQ _ _ _ (Kl.trans (Kl.trans Kl.rf k4410) k4413)
  · refine g_iconst (pc1 := 9) (v := (-1)) d_Mod_dish_8 rfl (by decide) ?_
    refine g_ireturn (Or.inl rfl) d_Mod_dish_9 rfl ?_
    exact hQ _ _ _ Kl.rf
set_option maxHeartbeats 4000000 in
set_option maxRecDepth 20000 in
theorem t2_Mod_eatsDish {l : Launch} {ld : Nat} (hld : isLa ld) {M : gM} {L : gL} {Q : Option Value → gM → gL → gR → Prop} (hI : Inv M) (p0 : Int32) (p1 : Int32) (h0 : 0 ≤ (p0 : Int32).toInt ∧ (p0 : Int32).toInt ≤ 3) (h1 : 0 ≤ (p1 : Int32).toInt ∧ (p1 : Int32).toInt ≤ 4) (hQ : ∀  (M' : gM) (L' : gL), Kl MS1 M L M' L' → Q none M' L' (rf ld)) : Tm l y_Mod_eatsDish (0, 0, 447) 447 [.ref 401, .int p0, .int p1] M L (rf ld) Q := by
  refine Tm.of (by decide) (Nat.le_of_ble_eq_true rfl) ?_
  show Wp l y_Mod_eatsDish (0, 0, 447) 447 0 0 0 [(0, .ref 401), (1, .int p0), (2, .int p1)] [] M L (rf ld) Q
  refine g_aload_n (pc1 := 1) d_Mod_eatsDish_0 rfl 0 rfl ?_
  refine g_iload_n (pc1 := 2) d_Mod_eatsDish_1 rfl 2 rfl ?_
  refine g_callV0 (pc1 := 5) (As := [.int p1]) (rest := []) d_Mod_eatsDish_2 rfl mo_Mod_356 mi_Mod_fillsPot mv_Mod_fillsPot rfl sh_401 (by decide) (by decide) rfl rfl (Nat.le_of_ble_eq_true rfl) ?_
  refine t2_Mod_fillsPot hld hI _ (by have r0 := h1; have r1 := (i_b (p1)); omega) (fun  M4435 L4436 k4437 => ?_)
  refine g_aload_n (pc1 := 6) d_Mod_eatsDish_5 rfl 0 rfl ?_
  refine g_getr (pc1 := 9) d_Mod_eatsDish_6 rfl ⟨_, fo_Mod_125⟩ sh_401 (by decide) (rf_401_53 ld) ?_
  refine g_bipush (pc1 := 11) (v := 15) d_Mod_eatsDish_9 rfl (by decide) ?_
  refine g_iload_n (pc1 := 12) d_Mod_eatsDish_11 rfl 1 rfl ?_
  refine g_iadd (pc1 := 13) d_Mod_eatsDish_12 rfl ?_
  refine g_aload_n (pc1 := 14) d_Mod_eatsDish_13 rfl 0 rfl ?_
  refine g_getr (pc1 := 17) d_Mod_eatsDish_14 rfl ⟨_, fo_Mod_125⟩ sh_401 (by decide) (rf_401_53 ld) ?_
  refine g_bipush (pc1 := 19) (v := 35) d_Mod_eatsDish_17 rfl (by decide) ?_
  refine g_iald (pc1 := 20) d_Mod_eatsDish_19 rfl sh_437 (by decide) (vin_lit (x := 35) (by decide)) ?_
  refine g_iast (pc1 := 21) d_Mod_eatsDish_20 rfl sh_437 (by decide) (by have l0 : (15 : Int32).toInt = 15 := (by decide); have r0 := h0; have r1 := (i_b (p0)); have e1 : (15 + p0 : Int32).toInt = (15 + p0.toInt) := i_addE (by decide : (15 : Int32).toInt = 15) rfl (by omega); exact vin_i (by omega) (by omega)) ?_
  refine Wp.topM (fun M4438 eM4438 => ?_)
  refine g_iconst (pc1 := 22) (v := 0) d_Mod_eatsDish_21 rfl (by decide) ?_
  refine g_istore_n (pc1 := 23) (lv' := [(0, .ref 401), (1, .int p0), (2, .int p1), (3, .int 0)]) d_Mod_eatsDish_22 rfl rfl (by decide) [1, 2, 3, 0] rfl ?_
  have LP4442 : ∀ (f4439 : Nat) (v4443 : Int32) (M4444 : gM) (L4445 : gL), Kl MS1 M L M4444 L4445 → (0 ≤ v4443.toInt) → ((3 : Int32).toInt - v4443.toInt).toNat < f4439 → Wp l y_Mod_eatsDish (0, 0, 447) 447 0 0 23 [(0, .ref 401), (1, .int p0), (2, .int p1), (3, .int v4443)] [] M4444 L4445 (rf ld) Q := by
    intro f4439
    induction f4439 with
    | zero => intro v4443 M4444 L4445 _ _ hm4441; exact absurd hm4441 (Nat.not_lt_zero _)
    | succ f4439 ih4440 =>
      intro v4443 M4444 L4445 k4446 n4447 hm4441
      refine g_iload_n (pc1 := 24) d_Mod_eatsDish_23 rfl 3 rfl ?_
      refine g_iconst (pc1 := 25) (v := 3) d_Mod_eatsDish_24 rfl (by decide) ?_
      refine g_icmp_ge (pc1 := 28) (tgt := 65) d_Mod_eatsDish_25 (by decide) rfl (fun h4448 => ?_) (fun h4448 => ?_)
      · refine g_return rfl d_Mod_eatsDish_65 rfl ?_
        exact hQ _ _ k4446
      · refine g_aload_n (pc1 := 29) d_Mod_eatsDish_28 rfl 0 rfl ?_
        refine g_getr (pc1 := 32) d_Mod_eatsDish_29 rfl ⟨_, fo_Mod_125⟩ sh_401 (by decide) (rf_401_53 ld) ?_
        refine g_bipush (pc1 := 34) (v := 19) d_Mod_eatsDish_32 rfl (by decide) ?_
        refine g_iconst (pc1 := 35) (v := 3) d_Mod_eatsDish_34 rfl (by decide) ?_
        refine g_iload_n (pc1 := 36) d_Mod_eatsDish_35 rfl 1 rfl ?_
        refine g_imul (pc1 := 37) d_Mod_eatsDish_36 rfl ?_
        refine g_iadd (pc1 := 38) d_Mod_eatsDish_37 rfl ?_
        refine g_iload_n (pc1 := 39) d_Mod_eatsDish_38 rfl 3 rfl ?_
        refine g_iadd (pc1 := 40) d_Mod_eatsDish_39 rfl ?_
        refine g_aload_n (pc1 := 41) d_Mod_eatsDish_40 rfl 0 rfl ?_
        refine g_iload_n (pc1 := 42) d_Mod_eatsDish_41 rfl 3 rfl ?_
        refine g_aload_n (pc1 := 43) d_Mod_eatsDish_42 rfl 0 rfl ?_
        refine g_getr (pc1 := 46) d_Mod_eatsDish_43 rfl ⟨_, fo_Mod_61⟩ sh_401 (by decide) (rf_401_28 ld) ?_
        refine g_iconst (pc1 := 47) (v := 5) d_Mod_eatsDish_46 rfl (by decide) ?_
        refine g_aload_n (pc1 := 48) d_Mod_eatsDish_47 rfl 0 rfl ?_
        refine g_geti (pc1 := 51) d_Mod_eatsDish_48 rfl ⟨_, fo_Mod_236⟩ sh_401 (by decide) ?_
        refine Wp.vali (y := (M 401 18)) (Kl.m k4446 rfl) ?_
        refine g_imul (pc1 := 52) d_Mod_eatsDish_51 rfl ?_
        refine g_iload_n (pc1 := 53) d_Mod_eatsDish_52 rfl 2 rfl ?_
        refine g_iadd (pc1 := 54) d_Mod_eatsDish_53 rfl ?_
        refine g_iald (pc1 := 55) d_Mod_eatsDish_54 rfl sh_416 (by decide) (by have l0 : (5 : Int32).toInt = 5 := (by decide); have r0 := h1; have r1 := hI.live; have r2 := (i_b (M 401 18)); have r3 := (i_b (p1)); have e1 : (5 * (M 401 18) : Int32).toInt = (5 * ((M 401 18) : Int32).toInt) := i_mulE (by decide : (5 : Int32).toInt = 5) rfl (by omega); have e2 : ((5 * (M 401 18)) + p1 : Int32).toInt = ((5 * ((M 401 18) : Int32).toInt) + p1.toInt) := i_addE e1 rfl (by omega); exact vin_i (by omega) (by omega)) ?_
        refine Wp.vali (y := (M 416 (((5 * (M 401 18)) + p1) : Int32).toNatClampNeg)) (Kl.m k4446 rfl) ?_
        refine g_callV0 (pc1 := 58) (As := [.int v4443, .int (M 416 (((5 * (M 401 18)) + p1) : Int32).toNatClampNeg)]) (rest := [.int ((19 + (3 * p0)) + v4443), .ref 437]) d_Mod_eatsDish_55 rfl mo_Mod_359 mi_Mod_forceBy mv_Mod_forceBy rfl sh_401 (by decide) (by decide) rfl rfl (Nat.le_of_ble_eq_true rfl) ?_
        refine t2_Mod_forceBy hld (Inv.keep hI inv_MS1 k4446) _ _ (by have l0 : (3 : Int32).toInt = 3 := (by decide); have r0 := (mt i_le.mpr h4448); have r1 := n4447; have r2 := (i_b (v4443)); omega) (fun r4449 M4450 L4451 hbr4449 k4452 => ?_)
        refine g_iast (pc1 := 59) d_Mod_eatsDish_58 rfl sh_437 (by decide) (by have l0 : (19 : Int32).toInt = 19 := (by decide); have l1 : (3 : Int32).toInt = 3 := (by decide); have r0 := (mt i_le.mpr h4448); have r1 := h0; have r2 := n4447; have r3 := hbr4449; have r4 := (i_b (M 416 (((5 * (M 401 18)) + p1) : Int32).toNatClampNeg)); have r5 := (i_b (p0)); have r6 := (i_b (r4449)); have r7 := (i_b (v4443)); have e1 : (3 * p0 : Int32).toInt = (3 * p0.toInt) := i_mulE (by decide : (3 : Int32).toInt = 3) rfl (by omega); have e2 : (19 + (3 * p0) : Int32).toInt = (19 + (3 * p0.toInt)) := i_addE (by decide : (19 : Int32).toInt = 19) e1 (by omega); have e3 : ((19 + (3 * p0)) + v4443 : Int32).toInt = ((19 + (3 * p0.toInt)) + v4443.toInt) := i_addE e2 rfl (by omega); exact vin_i (by omega) (by omega)) ?_
        refine Wp.topM (fun M4453 eM4453 => ?_)
        obtain ⟨x4454, ex4454⟩ : ∃ y : Int32, y = v4443 + 1 := ⟨_, rfl⟩
        refine g_iinc (pc1 := 62) (v := x4454) (lv' := [(0, .ref 401), (1, .int p0), (2, .int p1), (3, .int x4454)]) d_Mod_eatsDish_59 rfl 3 rfl (by rw [ex4454]; rfl) (by decide) [1, 2, 3, 0] rfl ?_
        refine g_goto (tgt := 23) d_Mod_eatsDish_62 (by decide) ?_
        exact ih4440 x4454 M4453 L4451 (Kl.wM (Kl.trans k4446 (Kl.mono k4452 MS0_MS1)) rfl eM4453) (by have l0 : (1 : Int32).toInt = 1 := (by decide); have l1 : (3 : Int32).toInt = 3 := (by decide); have r0 := (mt i_le.mpr h4448); have r1 := n4447; have r2 := hbr4449; have r3 := (i_b (M 416 (((5 * (M 401 18)) + p1) : Int32).toNatClampNeg)); have r4 := (i_b (r4449)); have r5 := (i_b (v4443)); have r6 := (i_b (x4454)); have e1 : (v4443 + 1 : Int32).toInt = (v4443.toInt + 1) := i_addE rfl (by decide : (1 : Int32).toInt = 1) (by omega); have d2 : x4454.toInt = (v4443.toInt + 1) := (congrArg Int32.toInt ex4454).trans e1; omega) (by have l0 : (1 : Int32).toInt = 1 := (by decide); have l1 : (3 : Int32).toInt = 3 := (by decide); have r0 := (mt i_le.mpr h4448); have r1 := n4447; have r2 := hbr4449; have r3 := hm4441; have r4 := (i_b (M 416 (((5 * (M 401 18)) + p1) : Int32).toNatClampNeg)); have r5 := (i_b (r4449)); have r6 := (i_b (v4443)); have r7 := (i_b (x4454)); have e1 : (v4443 + 1 : Int32).toInt = (v4443.toInt + 1) := i_addE rfl (by decide : (1 : Int32).toInt = 1) (by omega); have d2 : x4454.toInt = (v4443.toInt + 1) := (congrArg Int32.toInt ex4454).trans e1; omega)
  exact LP4442 _ 0 M4438 L4436 (Kl.wM (Kl.trans Kl.rf k4437) rfl eM4438) (by decide) (Nat.lt_succ_self _)
set_option maxHeartbeats 4000000 in
set_option maxRecDepth 20000 in
theorem t2_Mod_goes {l : Launch} {ld : Nat} (hld : isLa ld) {M : gM} {L : gL} {Q : Option Value → gM → gL → gR → Prop} (hI : Inv M) (p0 : Int32)  (hQ : ∀  (M' : gM) (L' : gL), Kl MS1 M L M' L' → Q none M' L' (rf ld)) : Tm l y_Mod_goes (0, 0, 447) 447 [.ref 401, .int p0] M L (rf ld) Q := by
  refine Tm.of (by decide) (Nat.le_of_ble_eq_true rfl) ?_
  show Wp l y_Mod_goes (0, 0, 447) 447 0 0 0 [(0, .ref 401), (1, .int p0)] [] M L (rf ld) Q
  refine g_iconst (pc1 := 1) (v := 0) d_Mod_goes_0 rfl (by decide) ?_
  refine g_istore_n (pc1 := 2) (lv' := [(0, .ref 401), (1, .int p0), (2, .int 0)]) d_Mod_goes_1 rfl rfl (by decide) [1, 2, 0] rfl ?_
  have LP4458 : ∀ (f4455 : Nat) (v4459 : Int32) (M4460 : gM) (L4461 : gL), Kl MS1 M L M4460 L4461 → (0 ≤ v4459.toInt) → (p0.toInt - v4459.toInt).toNat < f4455 → Wp l y_Mod_goes (0, 0, 447) 447 0 0 2 [(0, .ref 401), (1, .int p0), (2, .int v4459)] [] M4460 L4461 (rf ld) Q := by
    intro f4455
    induction f4455 with
    | zero => intro v4459 M4460 L4461 _ _ hm4457; exact absurd hm4457 (Nat.not_lt_zero _)
    | succ f4455 ih4456 =>
      intro v4459 M4460 L4461 k4462 n4463 hm4457
      refine g_iload_n (pc1 := 3) d_Mod_goes_2 rfl 2 rfl ?_
      refine g_iload_n (pc1 := 4) d_Mod_goes_3 rfl 1 rfl ?_
      refine g_icmp_ge (pc1 := 7) (tgt := 17) d_Mod_goes_4 (by decide) rfl (fun h4464 => ?_) (fun h4464 => ?_)
      · refine g_return rfl d_Mod_goes_17 rfl ?_
        exact hQ _ _ k4462
      · refine g_aload_n (pc1 := 8) d_Mod_goes_7 rfl 0 rfl ?_
        refine g_callV0 (pc1 := 11) (As := []) (rest := []) d_Mod_goes_8 rfl mo_Mod_368 mi_Mod_dayGoes mv_Mod_dayGoes rfl sh_401 (by decide) (by decide) rfl rfl (Nat.le_of_ble_eq_true rfl) ?_
        refine t2_Mod_dayGoes hld (Inv.keep hI inv_MS1 k4462)   (fun  M4465 L4466 k4467 => ?_)
        obtain ⟨x4468, ex4468⟩ : ∃ y : Int32, y = v4459 + 1 := ⟨_, rfl⟩
        refine g_iinc (pc1 := 14) (v := x4468) (lv' := [(0, .ref 401), (1, .int p0), (2, .int x4468)]) d_Mod_goes_11 rfl 2 rfl (by rw [ex4468]; rfl) (by decide) [1, 2, 0] rfl ?_
        refine g_goto (tgt := 2) d_Mod_goes_14 (by decide) ?_
        exact ih4456 x4468 M4465 L4466 (Kl.trans k4462 k4467) (by have l0 : (1 : Int32).toInt = 1 := (by decide); have r0 := (mt i_le.mpr h4464); have r1 := n4463; have r2 := (i_b (p0)); have r3 := (i_b (v4459)); have r4 := (i_b (x4468)); have e1 : (v4459 + 1 : Int32).toInt = (v4459.toInt + 1) := i_addE rfl (by decide : (1 : Int32).toInt = 1) (by omega); have d2 : x4468.toInt = (v4459.toInt + 1) := (congrArg Int32.toInt ex4468).trans e1; omega) (by have l0 : (1 : Int32).toInt = 1 := (by decide); have r0 := (mt i_le.mpr h4464); have r1 := n4463; have r2 := hm4457; have r3 := (i_b (p0)); have r4 := (i_b (v4459)); have r5 := (i_b (x4468)); have e1 : (v4459 + 1 : Int32).toInt = (v4459.toInt + 1) := i_addE rfl (by decide : (1 : Int32).toInt = 1) (by omega); have d2 : x4468.toInt = (v4459.toInt + 1) := (congrArg Int32.toInt ex4468).trans e1; omega)
  exact LP4458 _ 0 M L Kl.rf (by decide) (Nat.lt_succ_self _)
set_option maxHeartbeats 4000000 in
set_option maxRecDepth 20000 in
theorem t2_Mod_isAsKnown {l : Launch} {ld : Nat} (hld : isLa ld) {M : gM} {L : gL} {Q : Option Value → gM → gL → gR → Prop} (hI : Inv M) (p0 : Int32) (h0 : (p0 : Int32).toInt ≤ (M 401 64).toInt) (hQ : ∀ (r : Int32) (M' : gM) (L' : gL), (r = 0 ∨ r = 1) → Kl MS0 M L M' L' → Q (some (.int r)) M' L' (rf ld)) : Tm l y_Mod_isAsKnown (0, 0, 447) 447 [.ref 401, .int p0] M L (rf ld) Q := by
  refine Tm.of (by decide) (Nat.le_of_ble_eq_true rfl) ?_
  show Wp l y_Mod_isAsKnown (0, 0, 447) 447 0 0 0 [(0, .ref 401), (1, .int p0)] [] M L (rf ld) Q
  refine g_iconst (pc1 := 1) (v := 0) d_Mod_isAsKnown_0 rfl (by decide) ?_
  refine g_istore_n (pc1 := 2) (lv' := [(0, .ref 401), (1, .int p0), (2, .int 0)]) d_Mod_isAsKnown_1 rfl rfl (by decide) [1, 2, 0] rfl ?_
  have LP4472 : ∀ (f4469 : Nat) (v4473 : Int32) (M4474 : gM) (L4475 : gL), Kl MS0 M L M4474 L4475 → (0 ≤ v4473.toInt) → (p0.toInt - v4473.toInt).toNat < f4469 → Wp l y_Mod_isAsKnown (0, 0, 447) 447 0 0 2 [(0, .ref 401), (1, .int p0), (2, .int v4473)] [] M4474 L4475 (rf ld) Q := by
    intro f4469
    induction f4469 with
    | zero => intro v4473 M4474 L4475 _ _ hm4471; exact absurd hm4471 (Nat.not_lt_zero _)
    | succ f4469 ih4470 =>
      intro v4473 M4474 L4475 k4476 n4477 hm4471
      refine g_iload_n (pc1 := 3) d_Mod_isAsKnown_2 rfl 2 rfl ?_
      refine g_iload_n (pc1 := 4) d_Mod_isAsKnown_3 rfl 1 rfl ?_
      refine g_icmp_ge (pc1 := 7) (tgt := 40) d_Mod_isAsKnown_4 (by decide) rfl (fun h4478 => ?_) (fun h4478 => ?_)
      · refine g_iconst (pc1 := 41) (v := 1) d_Mod_isAsKnown_40 rfl (by decide) ?_
        refine g_ireturn (Or.inr ⟨rfl, rfl⟩) d_Mod_isAsKnown_41 rfl ?_
        exact hQ _ _ _ (Or.inr rfl) k4476
      · refine g_aload_n (pc1 := 8) d_Mod_isAsKnown_7 rfl 0 rfl ?_
        refine g_aload_n (pc1 := 9) d_Mod_isAsKnown_8 rfl 0 rfl ?_
        refine g_getr (pc1 := 12) d_Mod_isAsKnown_9 rfl ⟨_, fo_Mod_137⟩ sh_401 (by decide) (rf_401_65 ld) ?_
        refine g_iload_n (pc1 := 13) d_Mod_isAsKnown_12 rfl 2 rfl ?_
        refine g_iald (pc1 := 14) d_Mod_isAsKnown_13 rfl sh_441 (by decide) (by have r0 := (mt i_le.mpr h4478); have r1 := n4477; have r2 := h0; have r3 := hI.tolds; have r4 := (i_b (M 401 64)); have r5 := (i_b (p0)); have r6 := (i_b (v4473)); exact vin_i (by omega) (by omega)) ?_
        refine Wp.vali (y := (M 441 (v4473 : Int32).toNatClampNeg)) (Kl.m k4476 rfl) ?_
        refine g_aload_n (pc1 := 15) d_Mod_isAsKnown_14 rfl 0 rfl ?_
        refine g_getr (pc1 := 18) d_Mod_isAsKnown_15 rfl ⟨_, fo_Mod_140⟩ sh_401 (by decide) (rf_401_66 ld) ?_
        refine g_iload_n (pc1 := 19) d_Mod_isAsKnown_18 rfl 2 rfl ?_
        refine g_iald (pc1 := 20) d_Mod_isAsKnown_19 rfl sh_442 (by decide) (by have r0 := (mt i_le.mpr h4478); have r1 := n4477; have r2 := h0; have r3 := hI.tolds; have r4 := (i_b (M 401 64)); have r5 := (i_b (p0)); have r6 := (i_b (v4473)); exact vin_i (by omega) (by omega)) ?_
        refine Wp.vali (y := (M 442 (v4473 : Int32).toNatClampNeg)) (Kl.m k4476 rfl) ?_
        refine g_callV0 (pc1 := 23) (As := [.int (M 441 (v4473 : Int32).toNatClampNeg), .int (M 442 (v4473 : Int32).toNatClampNeg)]) (rest := []) d_Mod_isAsKnown_20 rfl mo_Mod_359 mi_Mod_forceBy mv_Mod_forceBy rfl sh_401 (by decide) (by decide) rfl rfl (Nat.le_of_ble_eq_true rfl) ?_
        refine t2_Mod_forceBy hld (Inv.keep hI inv_MS0 k4476) _ _ (by have r0 := (hI.told (i := v4473) (by have r0 := (mt i_le.mpr h4478); have r1 := n4477; have r2 := h0; have r3 := hI.tolds; have r4 := (i_b (M 401 64)); have r5 := (i_b (p0)); have r6 := (i_b (v4473)); omega) (by have r0 := (mt i_le.mpr h4478); have r1 := n4477; have r2 := h0; have r3 := hI.tolds; have r4 := (i_b (M 401 64)); have r5 := (i_b (p0)); have r6 := (i_b (v4473)); omega)); have r1 := (i_b (M 441 (v4473 : Int32).toNatClampNeg)); omega) (fun r4479 M4480 L4481 hbr4479 k4482 => ?_)
        refine g_aload_n (pc1 := 24) d_Mod_isAsKnown_23 rfl 0 rfl ?_
        refine g_getr (pc1 := 27) d_Mod_isAsKnown_24 rfl ⟨_, fo_Mod_143⟩ sh_401 (by decide) (rf_401_67 ld) ?_
        refine g_iload_n (pc1 := 28) d_Mod_isAsKnown_27 rfl 2 rfl ?_
        refine g_iald (pc1 := 29) d_Mod_isAsKnown_28 rfl sh_443 (by decide) (by have r0 := (mt i_le.mpr h4478); have r1 := n4477; have r2 := h0; have r3 := hI.tolds; have r4 := (i_b (M 401 64)); have r5 := (i_b (p0)); have r6 := (i_b (v4473)); exact vin_i (by omega) (by omega)) ?_
        refine Wp.vali (y := (M 443 (v4473 : Int32).toNatClampNeg)) ((Kl.m k4482 rfl).trans (Kl.m k4476 rfl)) ?_
        refine g_icmp_eq (pc1 := 32) (tgt := 34) d_Mod_isAsKnown_29 (by decide) rfl (fun h4483 => ?_) (fun h4483 => ?_)
        · obtain ⟨x4484, ex4484⟩ : ∃ y : Int32, y = v4473 + 1 := ⟨_, rfl⟩
          refine g_iinc (pc1 := 37) (v := x4484) (lv' := [(0, .ref 401), (1, .int p0), (2, .int x4484)]) d_Mod_isAsKnown_34 rfl 2 rfl (by rw [ex4484]; rfl) (by decide) [1, 2, 0] rfl ?_
          refine g_goto (tgt := 2) d_Mod_isAsKnown_37 (by decide) ?_
          exact ih4470 x4484 M4480 L4481 (Kl.trans k4476 k4482) (by have l0 : (1 : Int32).toInt = 1 := (by decide); have r0 := (mt i_le.mpr h4478); have r1 := n4477; have r2 := h0; have r3 := hI.tolds; have r4 := (i_b (M 401 64)); have r5 := (i_b (p0)); have r6 := (i_b (v4473)); have r7 := (i_b (x4484)); have e1 : (v4473 + 1 : Int32).toInt = (v4473.toInt + 1) := i_addE rfl (by decide : (1 : Int32).toInt = 1) (by omega); have d2 : x4484.toInt = (v4473.toInt + 1) := (congrArg Int32.toInt ex4484).trans e1; omega) (by have l0 : (1 : Int32).toInt = 1 := (by decide); have r0 := (mt i_le.mpr h4478); have r1 := n4477; have r2 := hm4471; have r3 := h0; have r4 := hI.tolds; have r5 := (i_b (M 401 64)); have r6 := (i_b (p0)); have r7 := (i_b (v4473)); have r8 := (i_b (x4484)); have e1 : (v4473 + 1 : Int32).toInt = (v4473.toInt + 1) := i_addE rfl (by decide : (1 : Int32).toInt = 1) (by omega); have d2 : x4484.toInt = (v4473.toInt + 1) := (congrArg Int32.toInt ex4484).trans e1; omega)
        · refine g_iconst (pc1 := 33) (v := 0) d_Mod_isAsKnown_32 rfl (by decide) ?_
          refine g_ireturn (Or.inr ⟨rfl, rfl⟩) d_Mod_isAsKnown_33 rfl ?_
          exact hQ _ _ _ (Or.inl rfl) (Kl.trans k4476 k4482)
  exact LP4472 _ 0 M L Kl.rf (by decide) (Nat.lt_succ_self _)
set_option maxHeartbeats 4000000 in
set_option maxRecDepth 20000 in
theorem t2_Mod_pinch {l : Launch} {ld : Nat} (hld : isLa ld) {M : gM} {L : gL} {Q : Option Value → gM → gL → gR → Prop} (hI : Inv M) (p0 : Int32) (p1 : Int32)  (hQ : ∀ (r : Int32) (M' : gM) (L' : gL), Kl MS1 M L M' L' → Q (some (.int r)) M' L' (rf ld)) : Tm l y_Mod_pinch (0, 0, 447) 447 [.ref 401, .int p0, .int p1] M L (rf ld) Q := by
  refine Tm.of (by decide) (Nat.le_of_ble_eq_true rfl) ?_
  show Wp l y_Mod_pinch (0, 0, 447) 447 0 0 0 [(0, .ref 401), (1, .int p0), (2, .int p1)] [] M L (rf ld) Q
  refine g_aload_n (pc1 := 1) d_Mod_pinch_0 rfl 0 rfl ?_
  refine g_iload_n (pc1 := 2) d_Mod_pinch_1 rfl 1 rfl ?_
  refine g_callV0 (pc1 := 5) (As := [.int p0]) (rest := []) d_Mod_pinch_2 rfl mo_Mod_374 mi_Mod_isDish mv_Mod_isDish rfl sh_401 (by decide) (by decide) rfl rfl (Nat.le_of_ble_eq_true rfl) ?_
  refine t2_Mod_isDish hld hI _  (fun r4485 hbr4485 => ?_)
  refine g_if_eq (pc1 := 8) (tgt := 17) d_Mod_pinch_5 (by decide) rfl (fun h4486 => ?_) (fun h4486 => ?_)
  · refine g_iconst (pc1 := 18) (v := (-1)) d_Mod_pinch_17 rfl (by decide) ?_
    refine g_ireturn (Or.inl rfl) d_Mod_pinch_18 rfl ?_
    exact hQ _ _ _ Kl.rf
  · refine g_iload_n (pc1 := 9) d_Mod_pinch_8 rfl 2 rfl ?_
    refine g_iconst (pc1 := 10) (v := 0) d_Mod_pinch_9 rfl (by decide) ?_
    refine g_iconst (pc1 := 11) (v := 1) d_Mod_pinch_10 rfl (by decide) ?_
    refine g_callS0 (pc1 := 14) (As := [.int p1, .int 0, .int 1]) (rest := []) d_Mod_pinch_11 rfl mo_Mod_316 ms_Mod_in (by decide) rfl rfl (Nat.le_of_ble_eq_true rfl) ?_
    refine t2_Mod_in hld _ _ _  (fun r4487 hbr4487 => ?_)
    refine g_if_ne (pc1 := 17) (tgt := 19) d_Mod_pinch_14 (by decide) rfl (fun h4488 => ?_) (fun h4488 => ?_)
    · refine g_aload_n (pc1 := 20) d_Mod_pinch_19 rfl 0 rfl ?_
      refine g_callV0 (pc1 := 23) (As := []) (rest := []) d_Mod_pinch_20 rfl mo_Mod_377 mi_Mod_copies mv_Mod_copies rfl sh_401 (by decide) (by decide) rfl rfl (Nat.le_of_ble_eq_true rfl) ?_
      refine t2_Mod_copies hld hI   (fun  M4489 L4490 k4491 => ?_)
      refine g_aload_n (pc1 := 24) d_Mod_pinch_23 rfl 0 rfl ?_
      refine g_getr (pc1 := 27) d_Mod_pinch_24 rfl ⟨_, fo_Mod_61⟩ sh_401 (by decide) (rf_401_28 ld) ?_
      refine g_iconst (pc1 := 28) (v := 5) d_Mod_pinch_27 rfl (by decide) ?_
      refine g_aload_n (pc1 := 29) d_Mod_pinch_28 rfl 0 rfl ?_
      refine g_geti (pc1 := 32) d_Mod_pinch_29 rfl ⟨_, fo_Mod_236⟩ sh_401 (by decide) ?_
      refine Wp.vali (y := (M 401 18)) (Kl.m k4491 rfl) ?_
      refine g_imul (pc1 := 33) d_Mod_pinch_32 rfl ?_
      refine g_iload_n (pc1 := 34) d_Mod_pinch_33 rfl 1 rfl ?_
      refine g_iadd (pc1 := 35) d_Mod_pinch_34 rfl ?_
      refine g_iald (pc1 := 36) d_Mod_pinch_35 rfl sh_416 (by decide) (by have l0 : (5 : Int32).toInt = 5 := (by decide); have r0 := (bp_t hbr4485 h4486); have r1 := hI.live; have r2 := (hI.dishes (M 401 18).toNatClampNeg); have r3 := (i_b (M 401 18)); have r4 := (i_b (M 415 (M 401 18).toNatClampNeg)); have r5 := (i_b (p0)); have e1 : (5 * (M 401 18) : Int32).toInt = (5 * ((M 401 18) : Int32).toInt) := i_mulE (by decide : (5 : Int32).toInt = 5) rfl (by omega); have e2 : ((5 * (M 401 18)) + p0 : Int32).toInt = ((5 * ((M 401 18) : Int32).toInt) + p0.toInt) := i_addE e1 rfl (by omega); exact vin_i (by omega) (by omega)) ?_
      refine Wp.vali (y := (M 416 (((5 * (M 401 18)) + p0) : Int32).toNatClampNeg)) (Kl.m k4491 rfl) ?_
      refine Wp.topi (fun x4492 ex4492 => ?_)
      refine g_istore_n (pc1 := 37) (lv' := [(0, .ref 401), (1, .int p0), (2, .int p1), (3, .int x4492)]) d_Mod_pinch_36 rfl rfl (by decide) [1, 2, 3, 0] rfl ?_
      refine g_iconst (pc1 := 38) (v := 0) d_Mod_pinch_37 rfl (by decide) ?_
      refine g_istore (pc1 := 40) (lv' := [(0, .ref 401), (1, .int p0), (2, .int p1), (3, .int x4492), (4, .int 0)]) d_Mod_pinch_38 rfl (by decide) [1, 2, 3, 4, 0] rfl ?_
      refine g_iconst (pc1 := 41) (v := (-1)) d_Mod_pinch_40 rfl (by decide) ?_
      refine Wp.topi (fun x4493 ex4493 => ?_)
      refine g_istore (pc1 := 43) (lv' := [(0, .ref 401), (1, .int p0), (2, .int p1), (3, .int x4492), (4, .int 0), (5, .int x4493)]) d_Mod_pinch_41 rfl (by decide) [1, 2, 3, 4, 5, 0] rfl ?_
      refine g_iconst (pc1 := 44) (v := 0) d_Mod_pinch_43 rfl (by decide) ?_
      refine g_istore (pc1 := 46) (lv' := [(0, .ref 401), (1, .int p0), (2, .int p1), (3, .int x4492), (4, .int 0), (5, .int x4493), (6, .int 0)]) d_Mod_pinch_44 rfl (by decide) [1, 2, 3, 4, 5, 6, 0] rfl ?_
      have LP4497 : ∀ (f4494 : Nat) (v4498 : Int32) (v4499 : Int32) (v4500 : Int32) (M4501 : gM) (L4502 : gL), Kl MS1 M L M4501 L4502 → (0 ≤ v4500.toInt) → (((M 411 ((M 401 18) : Int32).toNatClampNeg) : Int32).toInt - v4500.toInt).toNat < f4494 → Wp l y_Mod_pinch (0, 0, 447) 447 0 0 46 [(0, .ref 401), (1, .int p0), (2, .int p1), (3, .int x4492), (4, .int v4498), (5, .int v4499), (6, .int v4500)] [] M4501 L4502 (rf ld) Q := by
        intro f4494
        induction f4494 with
        | zero => intro v4498 v4499 v4500 M4501 L4502 _ _ hm4496; exact absurd hm4496 (Nat.not_lt_zero _)
        | succ f4494 ih4495 =>
          intro v4498 v4499 v4500 M4501 L4502 k4503 n4504 hm4496
          refine g_iload (pc1 := 48) d_Mod_pinch_46 rfl 6 rfl ?_
          refine g_aload_n (pc1 := 49) d_Mod_pinch_48 rfl 0 rfl ?_
          refine g_getr (pc1 := 52) d_Mod_pinch_49 rfl ⟨_, fo_Mod_46⟩ sh_401 (by decide) (rf_401_23 ld) ?_
          refine g_aload_n (pc1 := 53) d_Mod_pinch_52 rfl 0 rfl ?_
          refine g_geti (pc1 := 56) d_Mod_pinch_53 rfl ⟨_, fo_Mod_236⟩ sh_401 (by decide) ?_
          refine Wp.vali (y := (M 401 18)) (Kl.m k4503 rfl) ?_
          refine g_iald (pc1 := 57) d_Mod_pinch_56 rfl sh_411 (by decide) (by have r0 := hI.live; have r1 := (i_b (M 401 18)); exact vin_i (by omega) (by omega)) ?_
          refine Wp.vali (y := (M 411 ((M 401 18) : Int32).toNatClampNeg)) (Kl.m k4503 rfl) ?_
          refine g_icmp_ge (pc1 := 60) (tgt := 144) d_Mod_pinch_57 (by decide) rfl (fun h4505 => ?_) (fun h4505 => ?_)
          · refine g_iload_n (pc1 := 145) d_Mod_pinch_144 rfl 2 rfl ?_
            refine g_if_ne (pc1 := 148) (tgt := 153) d_Mod_pinch_145 (by decide) rfl (fun h4506 => ?_) (fun h4506 => ?_)
            · refine g_iload (pc1 := 155) d_Mod_pinch_153 rfl 5 rfl ?_
              refine g_ireturn (Or.inl rfl) d_Mod_pinch_155 rfl ?_
              exact hQ _ _ _ k4503
            · refine g_iload (pc1 := 150) d_Mod_pinch_148 rfl 4 rfl ?_
              refine g_goto (tgt := 155) d_Mod_pinch_150 (by decide) ?_
              refine g_ireturn (Or.inl rfl) d_Mod_pinch_155 rfl ?_
              exact hQ _ _ _ k4503
          · refine g_iconst (pc1 := 61) (v := 0) d_Mod_pinch_60 rfl (by decide) ?_
            refine g_istore (pc1 := 63) (lv' := [(0, .ref 401), (1, .int p0), (2, .int p1), (3, .int x4492), (4, .int v4498), (5, .int v4499), (6, .int v4500), (7, .int 0)]) d_Mod_pinch_61 rfl (by decide) [1, 2, 3, 4, 5, 6, 7, 0] rfl ?_
            refine g_iconst (pc1 := 64) (v := 0) d_Mod_pinch_63 rfl (by decide) ?_
            refine g_istore (pc1 := 66) (lv' := [(0, .ref 401), (1, .int p0), (2, .int p1), (3, .int x4492), (4, .int v4498), (5, .int v4499), (6, .int v4500), (7, .int 0), (8, .int 0)]) d_Mod_pinch_64 rfl (by decide) [1, 2, 3, 4, 5, 6, 7, 8, 0] rfl ?_
            have LP4510 : ∀ (f4507 : Nat) (v4511 : Int32) (v4512 : Int32) (M4513 : gM) (L4514 : gL), Kl MS1 M L M4513 L4514 → (0 ≤ v4512.toInt) → ((3 : Int32).toInt - v4512.toInt).toNat < f4507 → Wp l y_Mod_pinch (0, 0, 447) 447 0 0 66 [(0, .ref 401), (1, .int p0), (2, .int p1), (3, .int x4492), (4, .int v4498), (5, .int v4499), (6, .int v4500), (7, .int v4511), (8, .int v4512)] [] M4513 L4514 (rf ld) Q := by
              intro f4507
              induction f4507 with
              | zero => intro v4511 v4512 M4513 L4514 _ _ hm4509; exact absurd hm4509 (Nat.not_lt_zero _)
              | succ f4507 ih4508 =>
                intro v4511 v4512 M4513 L4514 k4515 n4516 hm4509
                refine g_iload (pc1 := 68) d_Mod_pinch_66 rfl 8 rfl ?_
                refine g_iconst (pc1 := 69) (v := 3) d_Mod_pinch_68 rfl (by decide) ?_
                refine g_icmp_ge (pc1 := 72) (tgt := 120) d_Mod_pinch_69 (by decide) rfl (fun h4517 => ?_) (fun h4517 => ?_)
                · refine g_iload (pc1 := 122) d_Mod_pinch_120 rfl 7 rfl ?_
                  refine g_iload (pc1 := 124) d_Mod_pinch_122 rfl 5 rfl ?_
                  refine g_icmp_gt (pc1 := 127) (tgt := 130) d_Mod_pinch_124 (by decide) rfl (fun h4518 => ?_) (fun h4518 => ?_)
                  · refine g_iload (pc1 := 132) d_Mod_pinch_130 rfl 6 rfl ?_
                    refine g_istore (pc1 := 134) (lv' := [(0, .ref 401), (1, .int p0), (2, .int p1), (3, .int x4492), (4, .int v4500), (5, .int v4499), (6, .int v4500), (7, .int v4511), (8, .int v4512)]) d_Mod_pinch_132 rfl (by decide) [1, 2, 3, 4, 0, 5, 6, 7, 8] rfl ?_
                    refine g_iload (pc1 := 136) d_Mod_pinch_134 rfl 7 rfl ?_
                    refine g_istore (pc1 := 138) (lv' := [(0, .ref 401), (1, .int p0), (2, .int p1), (3, .int x4492), (4, .int v4500), (5, .int v4511), (6, .int v4500), (7, .int v4511), (8, .int v4512)]) d_Mod_pinch_136 rfl (by decide) [1, 2, 3, 4, 5, 0, 6, 7, 8] rfl ?_
                    obtain ⟨x4519, ex4519⟩ : ∃ y : Int32, y = v4500 + 1 := ⟨_, rfl⟩
                    refine g_iinc (pc1 := 141) (v := x4519) (lv' := [(0, .ref 401), (1, .int p0), (2, .int p1), (3, .int x4492), (4, .int v4500), (5, .int v4511), (6, .int x4519), (7, .int v4511), (8, .int v4512)]) d_Mod_pinch_138 rfl 6 rfl (by rw [ex4519]; rfl) (by decide) [1, 2, 3, 4, 5, 6, 0, 7, 8] rfl ?_
                    refine g_goto (tgt := 46) d_Mod_pinch_141 (by decide) ?_
                    refine Wp.loc (lv' := [(0, .ref 401), (1, .int p0), (2, .int p1), (3, .int x4492), (4, .int v4500), (5, .int v4511), (6, .int x4519)]) [0, 1, 2, 3, 4, 5, 6] rfl ?_
                    exact ih4495 v4500 v4511 x4519 M4513 L4514 k4515 (by have l0 : (1 : Int32).toInt = 1 := (by decide); have r0 := (mt i_le.mpr h4505); have r1 := n4504; have r2 := (hI.foods (((M 401 18) : Int32).toNatClampNeg)); have r3 := (i_b (M 411 (M 401 18).toNatClampNeg)); have r4 := (i_b (v4500)); have r5 := (i_b (x4519)); have e1 : (v4500 + 1 : Int32).toInt = (v4500.toInt + 1) := i_addE rfl (by decide : (1 : Int32).toInt = 1) (by omega); have d2 : x4519.toInt = (v4500.toInt + 1) := (congrArg Int32.toInt ex4519).trans e1; omega) (by have l0 : (1 : Int32).toInt = 1 := (by decide); have r0 := (mt i_le.mpr h4505); have r1 := n4504; have r2 := hm4496; have r3 := (hI.foods (((M 401 18) : Int32).toNatClampNeg)); have r4 := (i_b (M 411 (M 401 18).toNatClampNeg)); have r5 := (i_b (v4500)); have r6 := (i_b (x4519)); have e1 : (v4500 + 1 : Int32).toInt = (v4500.toInt + 1) := i_addE rfl (by decide : (1 : Int32).toInt = 1) (by omega); have d2 : x4519.toInt = (v4500.toInt + 1) := (congrArg Int32.toInt ex4519).trans e1; omega)
                  · refine g_goto (tgt := 138) d_Mod_pinch_127 (by decide) ?_
                    obtain ⟨x4520, ex4520⟩ : ∃ y : Int32, y = v4500 + 1 := ⟨_, rfl⟩
                    refine g_iinc (pc1 := 141) (v := x4520) (lv' := [(0, .ref 401), (1, .int p0), (2, .int p1), (3, .int x4492), (4, .int v4498), (5, .int v4499), (6, .int x4520), (7, .int v4511), (8, .int v4512)]) d_Mod_pinch_138 rfl 6 rfl (by rw [ex4520]; rfl) (by decide) [1, 2, 3, 4, 5, 6, 0, 7, 8] rfl ?_
                    refine g_goto (tgt := 46) d_Mod_pinch_141 (by decide) ?_
                    refine Wp.loc (lv' := [(0, .ref 401), (1, .int p0), (2, .int p1), (3, .int x4492), (4, .int v4498), (5, .int v4499), (6, .int x4520)]) [0, 1, 2, 3, 4, 5, 6] rfl ?_
                    exact ih4495 v4498 v4499 x4520 M4513 L4514 k4515 (by have l0 : (1 : Int32).toInt = 1 := (by decide); have r0 := (mt i_le.mpr h4505); have r1 := n4504; have r2 := (hI.foods (((M 401 18) : Int32).toNatClampNeg)); have r3 := (i_b (M 411 (M 401 18).toNatClampNeg)); have r4 := (i_b (v4500)); have r5 := (i_b (x4520)); have e1 : (v4500 + 1 : Int32).toInt = (v4500.toInt + 1) := i_addE rfl (by decide : (1 : Int32).toInt = 1) (by omega); have d2 : x4520.toInt = (v4500.toInt + 1) := (congrArg Int32.toInt ex4520).trans e1; omega) (by have l0 : (1 : Int32).toInt = 1 := (by decide); have r0 := (mt i_le.mpr h4505); have r1 := n4504; have r2 := hm4496; have r3 := (hI.foods (((M 401 18) : Int32).toNatClampNeg)); have r4 := (i_b (M 411 (M 401 18).toNatClampNeg)); have r5 := (i_b (v4500)); have r6 := (i_b (x4520)); have e1 : (v4500 + 1 : Int32).toInt = (v4500.toInt + 1) := i_addE rfl (by decide : (1 : Int32).toInt = 1) (by omega); have d2 : x4520.toInt = (v4500.toInt + 1) := (congrArg Int32.toInt ex4520).trans e1; omega)
                · refine g_aload_n (pc1 := 73) d_Mod_pinch_72 rfl 0 rfl ?_
                  refine g_iload_n (pc1 := 74) d_Mod_pinch_73 rfl 1 rfl ?_
                  refine g_callV0 (pc1 := 77) (As := [.int p0]) (rest := []) d_Mod_pinch_74 rfl mo_Mod_356 mi_Mod_fillsPot mv_Mod_fillsPot rfl sh_401 (by decide) (by decide) rfl rfl (Nat.le_of_ble_eq_true rfl) ?_
                  refine t2_Mod_fillsPot hld (Inv.keep hI inv_MS1 k4515) _ (by have r0 := (bp_t hbr4485 h4486); have r1 := (hI.dishes (M 401 18).toNatClampNeg); have r2 := (i_b (M 415 (M 401 18).toNatClampNeg)); have r3 := (i_b (p0)); omega) (fun  M4521 L4522 k4523 => ?_)
                  refine g_aload_n (pc1 := 78) d_Mod_pinch_77 rfl 0 rfl ?_
                  refine g_iload (pc1 := 80) d_Mod_pinch_78 rfl 8 rfl ?_
                  refine g_iload_n (pc1 := 81) d_Mod_pinch_80 rfl 3 rfl ?_
                  refine g_callV0 (pc1 := 84) (As := [.int v4512, .int x4492]) (rest := []) d_Mod_pinch_81 rfl mo_Mod_359 mi_Mod_forceBy mv_Mod_forceBy rfl sh_401 (by decide) (by decide) rfl rfl (Nat.le_of_ble_eq_true rfl) ?_
                  refine t2_Mod_forceBy hld (Inv.keep hI inv_MS1 (Kl.trans k4515 k4523)) _ _ (by have l0 : (3 : Int32).toInt = 3 := (by decide); have r0 := (mt i_le.mpr h4517); have r1 := n4516; have r2 := (i_b (v4512)); omega) (fun r4524 M4525 L4526 hbr4524 k4527 => ?_)
                  refine g_istore (pc1 := 86) (lv' := [(0, .ref 401), (1, .int p0), (2, .int p1), (3, .int x4492), (4, .int v4498), (5, .int v4499), (6, .int v4500), (7, .int v4511), (8, .int v4512), (9, .int r4524)]) d_Mod_pinch_84 rfl (by decide) [1, 2, 3, 4, 5, 6, 7, 8, 9, 0] rfl ?_
                  refine g_aload_n (pc1 := 87) d_Mod_pinch_86 rfl 0 rfl ?_
                  refine g_getr (pc1 := 90) d_Mod_pinch_87 rfl ⟨_, fo_Mod_128⟩ sh_401 (by decide) (rf_401_55 ld) ?_
                  refine g_iload (pc1 := 92) d_Mod_pinch_90 rfl 6 rfl ?_
                  refine g_dup2 (pc1 := 93) d_Mod_pinch_92 rfl rfl rfl ?_
                  refine g_iald (pc1 := 94) d_Mod_pinch_93 rfl sh_438 (by decide) (by have r0 := (mt i_le.mpr h4505); have r1 := n4504; have r2 := (hI.foods (((M 401 18) : Int32).toNatClampNeg)); have r3 := (i_b (M 411 (M 401 18).toNatClampNeg)); have r4 := (i_b (v4500)); exact vin_i (by omega) (by omega)) ?_
                  refine Wp.vali (y := (M4521 438 (v4500 : Int32).toNatClampNeg)) (Kl.m k4527 rfl) ?_
                  refine g_iconst (pc1 := 95) (v := 1) d_Mod_pinch_94 rfl (by decide) ?_
                  refine g_iadd (pc1 := 96) d_Mod_pinch_95 rfl ?_
                  refine g_iast (pc1 := 97) d_Mod_pinch_96 rfl sh_438 (by decide) (by have r0 := (mt i_le.mpr h4505); have r1 := n4504; have r2 := (hI.foods (((M 401 18) : Int32).toNatClampNeg)); have r3 := (i_b (M 411 (M 401 18).toNatClampNeg)); have r4 := (i_b (v4500)); exact vin_i (by omega) (by omega)) ?_
                  refine Wp.topM (fun M4528 eM4528 => ?_)
                  refine g_iload (pc1 := 99) d_Mod_pinch_97 rfl 7 rfl ?_
                  refine g_iload (pc1 := 101) d_Mod_pinch_99 rfl 9 rfl ?_
                  refine g_aload_n (pc1 := 102) d_Mod_pinch_101 rfl 0 rfl ?_
                  refine g_iload (pc1 := 104) d_Mod_pinch_102 rfl 8 rfl ?_
                  refine g_iload_n (pc1 := 105) d_Mod_pinch_104 rfl 3 rfl ?_
                  refine g_callV0 (pc1 := 108) (As := [.int v4512, .int x4492]) (rest := [.int r4524, .int v4511]) d_Mod_pinch_105 rfl mo_Mod_359 mi_Mod_forceBy mv_Mod_forceBy rfl sh_401 (by decide) (by decide) rfl rfl (Nat.le_of_ble_eq_true rfl) ?_
                  refine t2_Mod_forceBy hld (Inv.keep hI inv_MS1 (Kl.wM (Kl.trans (Kl.trans k4515 k4523) (Kl.mono k4527 MS0_MS1)) rfl eM4528)) _ _ (by have l0 : (3 : Int32).toInt = 3 := (by decide); have r0 := (mt i_le.mpr h4517); have r1 := n4516; have r2 := hbr4524; have r3 := (i_b (M 416 (((5 * (M 401 18)) + p0) : Int32).toNatClampNeg)); have r4 := (i_b (r4524)); have r5 := (i_b (v4512)); have r6 := (i_b (x4492)); (try have d1 : x4492.toInt = ((M 416 (((5 * (M 401 18)) + p0) : Int32).toNatClampNeg) : Int32).toInt := (congrArg Int32.toInt ex4492).trans rfl); omega) (fun r4529 M4530 L4531 hbr4529 k4532 => ?_)
                  refine g_callS0 (pc1 := 111) (As := [.int r4524, .int r4529]) (rest := [.int v4511]) d_Mod_pinch_108 rfl mo_Mod_425 ms_Mod_off (by decide) rfl rfl (Nat.le_of_ble_eq_true rfl) ?_
                  refine t2_Mod_off hld _ _  (fun r4533 => ?_)
                  refine g_iadd (pc1 := 112) d_Mod_pinch_111 rfl ?_
                  refine Wp.topi (fun x4534 ex4534 => ?_)
                  refine g_istore (pc1 := 114) (lv' := [(0, .ref 401), (1, .int p0), (2, .int p1), (3, .int x4492), (4, .int v4498), (5, .int v4499), (6, .int v4500), (7, .int x4534), (8, .int v4512), (9, .int r4524)]) d_Mod_pinch_112 rfl (by decide) [1, 2, 3, 4, 5, 6, 7, 0, 8, 9] rfl ?_
                  obtain ⟨x4535, ex4535⟩ : ∃ y : Int32, y = v4512 + 1 := ⟨_, rfl⟩
                  refine g_iinc (pc1 := 117) (v := x4535) (lv' := [(0, .ref 401), (1, .int p0), (2, .int p1), (3, .int x4492), (4, .int v4498), (5, .int v4499), (6, .int v4500), (7, .int x4534), (8, .int x4535), (9, .int r4524)]) d_Mod_pinch_114 rfl 8 rfl (by rw [ex4535]; rfl) (by decide) [1, 2, 3, 4, 5, 6, 7, 8, 0, 9] rfl ?_
                  refine g_goto (tgt := 66) d_Mod_pinch_117 (by decide) ?_
                  refine Wp.loc (lv' := [(0, .ref 401), (1, .int p0), (2, .int p1), (3, .int x4492), (4, .int v4498), (5, .int v4499), (6, .int v4500), (7, .int x4534), (8, .int x4535)]) [0, 1, 2, 3, 4, 5, 6, 7, 8] rfl ?_
                  exact ih4508 x4534 x4535 M4530 L4531 (Kl.trans (Kl.wM (Kl.trans (Kl.trans k4515 k4523) (Kl.mono k4527 MS0_MS1)) rfl eM4528) (Kl.mono k4532 MS0_MS1)) (by have l0 : (1 : Int32).toInt = 1 := (by decide); have l1 : (3 : Int32).toInt = 3 := (by decide); have r0 := (mt i_le.mpr h4517); have r1 := n4516; have r2 := hbr4524; have r3 := hbr4529; have r4 := (i_b (M 416 (((5 * (M 401 18)) + p0) : Int32).toNatClampNeg)); have r5 := (i_b (r4524)); have r6 := (i_b (r4529)); have r7 := (i_b (v4512)); have r8 := (i_b (x4492)); have r9 := (i_b (x4535)); (try have d1 : x4492.toInt = ((M 416 (((5 * (M 401 18)) + p0) : Int32).toNatClampNeg) : Int32).toInt := (congrArg Int32.toInt ex4492).trans rfl); have e2 : (v4512 + 1 : Int32).toInt = (v4512.toInt + 1) := i_addE rfl (by decide : (1 : Int32).toInt = 1) (by omega); have d3 : x4535.toInt = (v4512.toInt + 1) := (congrArg Int32.toInt ex4535).trans e2; omega) (by have l0 : (1 : Int32).toInt = 1 := (by decide); have l1 : (3 : Int32).toInt = 3 := (by decide); have r0 := (mt i_le.mpr h4517); have r1 := n4516; have r2 := hbr4524; have r3 := hbr4529; have r4 := hm4509; have r5 := (i_b (M 416 (((5 * (M 401 18)) + p0) : Int32).toNatClampNeg)); have r6 := (i_b (r4524)); have r7 := (i_b (r4529)); have r8 := (i_b (v4512)); have r9 := (i_b (x4492)); have r10 := (i_b (x4535)); (try have d1 : x4492.toInt = ((M 416 (((5 * (M 401 18)) + p0) : Int32).toNatClampNeg) : Int32).toInt := (congrArg Int32.toInt ex4492).trans rfl); have e2 : (v4512 + 1 : Int32).toInt = (v4512.toInt + 1) := i_addE rfl (by decide : (1 : Int32).toInt = 1) (by omega); have d3 : x4535.toInt = (v4512.toInt + 1) := (congrArg Int32.toInt ex4535).trans e2; omega)
            exact LP4510 _ 0 0 M4501 L4502 k4503 (by decide) (Nat.lt_succ_self _)
      exact LP4497 _ 0 x4493 0 M4489 L4490 (Kl.trans Kl.rf k4491) (by decide) (Nat.lt_succ_self _)
    · refine g_iconst (pc1 := 18) (v := (-1)) d_Mod_pinch_17 rfl (by decide) ?_
      refine g_ireturn (Or.inl rfl) d_Mod_pinch_18 rfl ?_
      exact hQ _ _ _ Kl.rf
set_option maxHeartbeats 4000000 in
set_option maxRecDepth 20000 in
theorem t2_Mod_potAt {l : Launch} {ld : Nat} (hld : isLa ld) {M : gM} {L : gL} {Q : Option Value → gM → gL → gR → Prop} (hI : Inv M) (p0 : Int32) (p1 : Int32) (p2 : Int32)  (hQ : ∀ (r : Int32) (M' : gM) (L' : gL), Kl MS0 M L M' L' → Q (some (.int r)) M' L' (rf ld)) : Tm l y_Mod_potAt (0, 0, 447) 447 [.ref 401, .int p0, .int p1, .int p2] M L (rf ld) Q := by
  refine Tm.of (by decide) (Nat.le_of_ble_eq_true rfl) ?_
  show Wp l y_Mod_potAt (0, 0, 447) 447 0 0 0 [(0, .ref 401), (1, .int p0), (2, .int p1), (3, .int p2)] [] M L (rf ld) Q
  refine g_iconst (pc1 := 1) (v := 0) d_Mod_potAt_0 rfl (by decide) ?_
  refine g_istore (pc1 := 3) (lv' := [(0, .ref 401), (1, .int p0), (2, .int p1), (3, .int p2), (4, .int 0)]) d_Mod_potAt_1 rfl (by decide) [1, 2, 3, 4, 0] rfl ?_
  have LP4539 : ∀ (f4536 : Nat) (v4540 : Int32) (M4541 : gM) (L4542 : gL), Kl MS0 M L M4541 L4542 → (0 ≤ v4540.toInt) → ((9 : Int32).toInt + 1 - v4540.toInt).toNat < f4536 → Wp l y_Mod_potAt (0, 0, 447) 447 0 0 3 [(0, .ref 401), (1, .int p0), (2, .int p1), (3, .int p2), (4, .int v4540)] [] M4541 L4542 (rf ld) Q := by
    intro f4536
    induction f4536 with
    | zero => intro v4540 M4541 L4542 _ _ hm4538; exact absurd hm4538 (Nat.not_lt_zero _)
    | succ f4536 ih4537 =>
      intro v4540 M4541 L4542 k4543 n4544 hm4538
      refine g_iload (pc1 := 5) d_Mod_potAt_3 rfl 4 rfl ?_
      refine g_bipush (pc1 := 7) (v := 9) d_Mod_potAt_5 rfl (by decide) ?_
      refine g_icmp_gt (pc1 := 10) (tgt := 52) d_Mod_potAt_7 (by decide) rfl (fun h4545 => ?_) (fun h4545 => ?_)
      · refine g_iconst (pc1 := 53) (v := (-1)) d_Mod_potAt_52 rfl (by decide) ?_
        refine g_ireturn (Or.inl rfl) d_Mod_potAt_53 rfl ?_
        exact hQ _ _ _ k4543
      · refine g_aload_n (pc1 := 11) d_Mod_potAt_10 rfl 0 rfl ?_
        refine g_iconst (pc1 := 12) (v := 0) d_Mod_potAt_11 rfl (by decide) ?_
        refine g_iload (pc1 := 14) d_Mod_potAt_12 rfl 4 rfl ?_
        refine g_callV0 (pc1 := 17) (As := [.int 0, .int v4540]) (rest := []) d_Mod_potAt_14 rfl mo_Mod_359 mi_Mod_forceBy mv_Mod_forceBy rfl sh_401 (by decide) (by decide) rfl rfl (Nat.le_of_ble_eq_true rfl) ?_
        refine t2_Mod_forceBy hld (Inv.keep hI inv_MS0 k4543) _ _ (by have l0 : (0 : Int32).toInt = 0 := (by decide); omega) (fun r4546 M4547 L4548 hbr4546 k4549 => ?_)
        refine g_iload_n (pc1 := 18) d_Mod_potAt_17 rfl 1 rfl ?_
        refine g_icmp_lt (pc1 := 21) (tgt := 46) d_Mod_potAt_18 (by decide) rfl (fun h4550 => ?_) (fun h4550 => ?_)
        · obtain ⟨x4551, ex4551⟩ : ∃ y : Int32, y = v4540 + 1 := ⟨_, rfl⟩
          refine g_iinc (pc1 := 49) (v := x4551) (lv' := [(0, .ref 401), (1, .int p0), (2, .int p1), (3, .int p2), (4, .int x4551)]) d_Mod_potAt_46 rfl 4 rfl (by rw [ex4551]; rfl) (by decide) [1, 2, 3, 4, 0] rfl ?_
          refine g_goto (tgt := 3) d_Mod_potAt_49 (by decide) ?_
          exact ih4537 x4551 M4547 L4548 (Kl.trans k4543 k4549) (by have l0 : (0 : Int32).toInt = 0 := (by decide); have l1 : (1 : Int32).toInt = 1 := (by decide); have l2 : (9 : Int32).toInt = 9 := (by decide); have r0 := (mt i_lt.mpr h4545); have r1 := n4544; have r2 := hbr4546; have r3 := (i_lt.mp h4550); have r4 := (i_b (p0)); have r5 := (i_b (r4546)); have r6 := (i_b (v4540)); have r7 := (i_b (x4551)); have e1 : (v4540 + 1 : Int32).toInt = (v4540.toInt + 1) := i_addE rfl (by decide : (1 : Int32).toInt = 1) (by omega); have d2 : x4551.toInt = (v4540.toInt + 1) := (congrArg Int32.toInt ex4551).trans e1; omega) (by have l0 : (0 : Int32).toInt = 0 := (by decide); have l1 : (1 : Int32).toInt = 1 := (by decide); have l2 : (9 : Int32).toInt = 9 := (by decide); have r0 := (mt i_lt.mpr h4545); have r1 := n4544; have r2 := hbr4546; have r3 := hm4538; have r4 := (i_lt.mp h4550); have r5 := (i_b (p0)); have r6 := (i_b (r4546)); have r7 := (i_b (v4540)); have r8 := (i_b (x4551)); have e1 : (v4540 + 1 : Int32).toInt = (v4540.toInt + 1) := i_addE rfl (by decide : (1 : Int32).toInt = 1) (by omega); have d2 : x4551.toInt = (v4540.toInt + 1) := (congrArg Int32.toInt ex4551).trans e1; omega)
        · refine g_aload_n (pc1 := 22) d_Mod_potAt_21 rfl 0 rfl ?_
          refine g_iconst (pc1 := 23) (v := 1) d_Mod_potAt_22 rfl (by decide) ?_
          refine g_iload (pc1 := 25) d_Mod_potAt_23 rfl 4 rfl ?_
          refine g_callV0 (pc1 := 28) (As := [.int 1, .int v4540]) (rest := []) d_Mod_potAt_25 rfl mo_Mod_359 mi_Mod_forceBy mv_Mod_forceBy rfl sh_401 (by decide) (by decide) rfl rfl (Nat.le_of_ble_eq_true rfl) ?_
          refine t2_Mod_forceBy hld (Inv.keep hI inv_MS0 (Kl.trans k4543 k4549)) _ _ (by have l0 : (1 : Int32).toInt = 1 := (by decide); omega) (fun r4552 M4553 L4554 hbr4552 k4555 => ?_)
          refine g_iload_n (pc1 := 29) d_Mod_potAt_28 rfl 2 rfl ?_
          refine g_icmp_lt (pc1 := 32) (tgt := 46) d_Mod_potAt_29 (by decide) rfl (fun h4556 => ?_) (fun h4556 => ?_)
          · obtain ⟨x4557, ex4557⟩ : ∃ y : Int32, y = v4540 + 1 := ⟨_, rfl⟩
            refine g_iinc (pc1 := 49) (v := x4557) (lv' := [(0, .ref 401), (1, .int p0), (2, .int p1), (3, .int p2), (4, .int x4557)]) d_Mod_potAt_46 rfl 4 rfl (by rw [ex4557]; rfl) (by decide) [1, 2, 3, 4, 0] rfl ?_
            refine g_goto (tgt := 3) d_Mod_potAt_49 (by decide) ?_
            exact ih4537 x4557 M4553 L4554 (Kl.trans (Kl.trans k4543 k4549) k4555) (by have l0 : (0 : Int32).toInt = 0 := (by decide); have l1 : (1 : Int32).toInt = 1 := (by decide); have l2 : (9 : Int32).toInt = 9 := (by decide); have r0 := (mt i_lt.mpr h4545); have r1 := n4544; have r2 := hbr4546; have r3 := hbr4552; have r4 := (mt i_lt.mpr h4550); have r5 := (i_lt.mp h4556); have r6 := (i_b (p0)); have r7 := (i_b (p1)); have r8 := (i_b (r4546)); have r9 := (i_b (r4552)); have r10 := (i_b (v4540)); have r11 := (i_b (x4557)); have e1 : (v4540 + 1 : Int32).toInt = (v4540.toInt + 1) := i_addE rfl (by decide : (1 : Int32).toInt = 1) (by omega); have d2 : x4557.toInt = (v4540.toInt + 1) := (congrArg Int32.toInt ex4557).trans e1; omega) (by have l0 : (0 : Int32).toInt = 0 := (by decide); have l1 : (1 : Int32).toInt = 1 := (by decide); have l2 : (9 : Int32).toInt = 9 := (by decide); have r0 := (mt i_lt.mpr h4545); have r1 := n4544; have r2 := hbr4546; have r3 := hbr4552; have r4 := hm4538; have r5 := (mt i_lt.mpr h4550); have r6 := (i_lt.mp h4556); have r7 := (i_b (p0)); have r8 := (i_b (p1)); have r9 := (i_b (r4546)); have r10 := (i_b (r4552)); have r11 := (i_b (v4540)); have r12 := (i_b (x4557)); have e1 : (v4540 + 1 : Int32).toInt = (v4540.toInt + 1) := i_addE rfl (by decide : (1 : Int32).toInt = 1) (by omega); have d2 : x4557.toInt = (v4540.toInt + 1) := (congrArg Int32.toInt ex4557).trans e1; omega)
          · refine g_aload_n (pc1 := 33) d_Mod_potAt_32 rfl 0 rfl ?_
            refine g_iconst (pc1 := 34) (v := 2) d_Mod_potAt_33 rfl (by decide) ?_
            refine g_iload (pc1 := 36) d_Mod_potAt_34 rfl 4 rfl ?_
            refine g_callV0 (pc1 := 39) (As := [.int 2, .int v4540]) (rest := []) d_Mod_potAt_36 rfl mo_Mod_359 mi_Mod_forceBy mv_Mod_forceBy rfl sh_401 (by decide) (by decide) rfl rfl (Nat.le_of_ble_eq_true rfl) ?_
            refine t2_Mod_forceBy hld (Inv.keep hI inv_MS0 (Kl.trans (Kl.trans k4543 k4549) k4555)) _ _ (by have l0 : (2 : Int32).toInt = 2 := (by decide); omega) (fun r4558 M4559 L4560 hbr4558 k4561 => ?_)
            refine g_iload_n (pc1 := 40) d_Mod_potAt_39 rfl 3 rfl ?_
            refine g_icmp_lt (pc1 := 43) (tgt := 46) d_Mod_potAt_40 (by decide) rfl (fun h4562 => ?_) (fun h4562 => ?_)
            · obtain ⟨x4563, ex4563⟩ : ∃ y : Int32, y = v4540 + 1 := ⟨_, rfl⟩
              refine g_iinc (pc1 := 49) (v := x4563) (lv' := [(0, .ref 401), (1, .int p0), (2, .int p1), (3, .int p2), (4, .int x4563)]) d_Mod_potAt_46 rfl 4 rfl (by rw [ex4563]; rfl) (by decide) [1, 2, 3, 4, 0] rfl ?_
              refine g_goto (tgt := 3) d_Mod_potAt_49 (by decide) ?_
              exact ih4537 x4563 M4559 L4560 (Kl.trans (Kl.trans (Kl.trans k4543 k4549) k4555) k4561) (by have l0 : (0 : Int32).toInt = 0 := (by decide); have l1 : (1 : Int32).toInt = 1 := (by decide); have l2 : (2 : Int32).toInt = 2 := (by decide); have l3 : (9 : Int32).toInt = 9 := (by decide); have r0 := (mt i_lt.mpr h4545); have r1 := n4544; have r2 := hbr4546; have r3 := hbr4552; have r4 := hbr4558; have r5 := (mt i_lt.mpr h4550); have r6 := (mt i_lt.mpr h4556); have r7 := (i_lt.mp h4562); have r8 := (i_b (p0)); have r9 := (i_b (p1)); have r10 := (i_b (p2)); have r11 := (i_b (r4546)); have r12 := (i_b (r4552)); have r13 := (i_b (r4558)); have r14 := (i_b (v4540)); have r15 := (i_b (x4563)); have e1 : (v4540 + 1 : Int32).toInt = (v4540.toInt + 1) := i_addE rfl (by decide : (1 : Int32).toInt = 1) (by omega); have d2 : x4563.toInt = (v4540.toInt + 1) := (congrArg Int32.toInt ex4563).trans e1; omega) (by have l0 : (0 : Int32).toInt = 0 := (by decide); have l1 : (1 : Int32).toInt = 1 := (by decide); have l2 : (2 : Int32).toInt = 2 := (by decide); have l3 : (9 : Int32).toInt = 9 := (by decide); have r0 := (mt i_lt.mpr h4545); have r1 := n4544; have r2 := hbr4546; have r3 := hbr4552; have r4 := hbr4558; have r5 := hm4538; have r6 := (mt i_lt.mpr h4550); have r7 := (mt i_lt.mpr h4556); have r8 := (i_lt.mp h4562); have r9 := (i_b (p0)); have r10 := (i_b (p1)); have r11 := (i_b (p2)); have r12 := (i_b (r4546)); have r13 := (i_b (r4552)); have r14 := (i_b (r4558)); have r15 := (i_b (v4540)); have r16 := (i_b (x4563)); have e1 : (v4540 + 1 : Int32).toInt = (v4540.toInt + 1) := i_addE rfl (by decide : (1 : Int32).toInt = 1) (by omega); have d2 : x4563.toInt = (v4540.toInt + 1) := (congrArg Int32.toInt ex4563).trans e1; omega)
            · refine g_iload (pc1 := 45) d_Mod_potAt_43 rfl 4 rfl ?_
              refine g_ireturn (Or.inl rfl) d_Mod_potAt_45 rfl ?_
              exact hQ _ _ _ (Kl.trans (Kl.trans (Kl.trans k4543 k4549) k4555) k4561)
  exact LP4539 _ 0 M L Kl.rf (by decide) (Nat.lt_succ_self _)
set_option maxHeartbeats 4000000 in
set_option maxRecDepth 20000 in
theorem t2_Mod_boundIn {l : Launch} {ld : Nat} (hld : isLa ld) {M : gM} {L : gL} {Q : Option Value → gM → gL → gR → Prop} (hI : Inv M) (p0 : Int32) (p1 : Int32) (p2 : Int32)  (hQ : ∀ (r : Int32) (M' : gM) (L' : gL), Kl MS1 M L M' L' → Q (some (.int r)) M' L' (rf ld)) : Tm l y_Mod_boundIn (0, 0, 447) 447 [.ref 401, .int p0, .int p1, .int p2] M L (rf ld) Q := by
  refine Tm.of (by decide) (Nat.le_of_ble_eq_true rfl) ?_
  show Wp l y_Mod_boundIn (0, 0, 447) 447 0 0 0 [(0, .ref 401), (1, .int p0), (2, .int p1), (3, .int p2)] [] M L (rf ld) Q
  refine g_aload_n (pc1 := 1) d_Mod_boundIn_0 rfl 0 rfl ?_
  refine g_iload_n (pc1 := 2) d_Mod_boundIn_1 rfl 1 rfl ?_
  refine g_callV0 (pc1 := 5) (As := [.int p0]) (rest := []) d_Mod_boundIn_2 rfl mo_Mod_380 mi_Mod_isGuest mv_Mod_isGuest rfl sh_401 (by decide) (by decide) rfl rfl (Nat.le_of_ble_eq_true rfl) ?_
  refine t2_Mod_isGuest hld hI _  (fun r4564 hbr4564 => ?_)
  refine g_if_eq (pc1 := 8) (tgt := 24) d_Mod_boundIn_5 (by decide) rfl (fun h4565 => ?_) (fun h4565 => ?_)
  · refine g_iconst (pc1 := 25) (v := (-1)) d_Mod_boundIn_24 rfl (by decide) ?_
    refine g_ireturn (Or.inl rfl) d_Mod_boundIn_25 rfl ?_
    exact hQ _ _ _ Kl.rf
  · refine g_iload_n (pc1 := 9) d_Mod_boundIn_8 rfl 2 rfl ?_
    refine g_iconst (pc1 := 10) (v := 0) d_Mod_boundIn_9 rfl (by decide) ?_
    refine g_iconst (pc1 := 11) (v := 2) d_Mod_boundIn_10 rfl (by decide) ?_
    refine g_callS0 (pc1 := 14) (As := [.int p1, .int 0, .int 2]) (rest := []) d_Mod_boundIn_11 rfl mo_Mod_316 ms_Mod_in (by decide) rfl rfl (Nat.le_of_ble_eq_true rfl) ?_
    refine t2_Mod_in hld _ _ _  (fun r4566 hbr4566 => ?_)
    refine g_if_eq (pc1 := 17) (tgt := 24) d_Mod_boundIn_14 (by decide) rfl (fun h4567 => ?_) (fun h4567 => ?_)
    · refine g_iconst (pc1 := 25) (v := (-1)) d_Mod_boundIn_24 rfl (by decide) ?_
      refine g_ireturn (Or.inl rfl) d_Mod_boundIn_25 rfl ?_
      exact hQ _ _ _ Kl.rf
    · refine g_iload_n (pc1 := 18) d_Mod_boundIn_17 rfl 3 rfl ?_
      refine g_callS0 (pc1 := 21) (As := [.int p2]) (rest := []) d_Mod_boundIn_18 rfl mo_Mod_446 ms_Mod_isLong (by decide) rfl rfl (Nat.le_of_ble_eq_true rfl) ?_
      refine t2_Mod_isLong hld _  (fun r4568 hbr4568 => ?_)
      refine g_if_ne (pc1 := 24) (tgt := 26) d_Mod_boundIn_21 (by decide) rfl (fun h4569 => ?_) (fun h4569 => ?_)
      · refine g_aload_n (pc1 := 27) d_Mod_boundIn_26 rfl 0 rfl ?_
        refine g_callV0 (pc1 := 30) (As := []) (rest := []) d_Mod_boundIn_27 rfl mo_Mod_377 mi_Mod_copies mv_Mod_copies rfl sh_401 (by decide) (by decide) rfl rfl (Nat.le_of_ble_eq_true rfl) ?_
        refine t2_Mod_copies hld hI   (fun  M4570 L4571 k4572 => ?_)
        refine g_aload_n (pc1 := 31) d_Mod_boundIn_30 rfl 0 rfl ?_
        refine g_getr (pc1 := 34) d_Mod_boundIn_31 rfl ⟨_, fo_Mod_125⟩ sh_401 (by decide) (rf_401_53 ld) ?_
        refine g_bipush (pc1 := 36) (v := 35) d_Mod_boundIn_34 rfl (by decide) ?_
        refine g_dup2 (pc1 := 37) d_Mod_boundIn_36 rfl rfl rfl ?_
        refine g_iald (pc1 := 38) d_Mod_boundIn_37 rfl sh_437 (by decide) (vin_lit (x := 35) (by decide)) ?_
        refine g_iload_n (pc1 := 39) d_Mod_boundIn_38 rfl 3 rfl ?_
        refine g_iadd (pc1 := 40) d_Mod_boundIn_39 rfl ?_
        refine g_iast (pc1 := 41) d_Mod_boundIn_40 rfl sh_437 (by decide) (vin_lit (x := 35) (by decide)) ?_
        refine Wp.topM (fun M4573 eM4573 => ?_)
        refine g_aload_n (pc1 := 42) d_Mod_boundIn_41 rfl 0 rfl ?_
        refine g_iload_n (pc1 := 43) d_Mod_boundIn_42 rfl 1 rfl ?_
        refine g_iload_n (pc1 := 44) d_Mod_boundIn_43 rfl 2 rfl ?_
        refine g_callV0 (pc1 := 47) (As := [.int p0, .int p1]) (rest := []) d_Mod_boundIn_44 rfl mo_Mod_349 mi_Mod_boundNow mv_Mod_boundNow rfl sh_401 (by decide) (by decide) rfl rfl (Nat.le_of_ble_eq_true rfl) ?_
        refine t2_Mod_boundNow hld (Inv.keep hI inv_MS1 (Kl.wM (Kl.trans Kl.rf k4572) rfl eM4573)) _ _ (by have r0 := (bp_t hbr4564 h4565); have r1 := (hI.guests (M 401 18).toNatClampNeg); have r2 := (i_b (M 418 (M 401 18).toNatClampNeg)); have r3 := (i_b (p0)); omega) (by have l0 : (0 : Int32).toInt = 0 := (by decide); have l1 : (2 : Int32).toInt = 2 := (by decide); have r0 := (bp_t hbr4566 h4567); have r1 := (i_b (p1)); omega) (fun r4574 M4575 L4576 k4577 => ?_)
        refine g_ireturn (Or.inl rfl) d_Mod_boundIn_47 rfl ?_
        exact hQ _ _ _ (Kl.trans (Kl.wM (Kl.trans Kl.rf k4572) rfl eM4573) (Kl.mono k4577 MS0_MS1))
      · refine g_iconst (pc1 := 25) (v := (-1)) d_Mod_boundIn_24 rfl (by decide) ?_
        refine g_ireturn (Or.inl rfl) d_Mod_boundIn_25 rfl ?_
        exact hQ _ _ _ Kl.rf
