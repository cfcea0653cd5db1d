set_option maxHeartbeats 4000000 in
set_option maxRecDepth 20000 in
theorem t1_Told_lay {l : Launch} {ld : Nat} (hld : isLa ld) {M : gM} {L : gL} {Q : Option Value → gM → gL → gR → Prop} (Ld1 : Nat) (hLd1 : isLa Ld1) (p2 : Int32) (p3 : Int32) (hQ : ∀ (r : Int32) (M' : gM) (L' : gL), (r = 0 ∨ r = 1) → Kp S1 M L M' L' → Q (some (.int r)) M' L' (rf ld)) : Tm l y_Told_lay (0, 0, 447) 447 [.ref 383, .ref Ld1, .int p2, .int p3] M L (rf ld) Q := by
  refine Tm.of (by decide) (Nat.le_of_ble_eq_true rfl) ?_
  show Wp l y_Told_lay (0, 0, 447) 447 0 0 0 [(0, .ref 383), (1, .ref Ld1), (2, .int p2), (3, .int p3)] [] M L (rf ld) Q
  refine g_iload_n (pc1 := 1) d_Told_lay_0 rfl 3 rfl ?_
  refine g_if_ne (pc1 := 4) (tgt := 8) d_Told_lay_1 (by decide) rfl (fun h1196 => ?_) (fun h1196 => ?_)
  · refine g_iload_n (pc1 := 9) d_Told_lay_8 rfl 3 rfl ?_
    refine g_bipush (pc1 := 11) (v := 6) d_Told_lay_9 rfl (by decide) ?_
    refine g_icmp_gt (pc1 := 14) (tgt := 18) d_Told_lay_11 (by decide) rfl (fun h1197 => ?_) (fun h1197 => ?_)
    · refine g_iconst (pc1 := 19) (v := (-1)) d_Told_lay_18 rfl (by decide) ?_
      refine Wp.topi (fun x1198 ex1198 => ?_)
      refine g_istore (pc1 := 21) (lv' := [(0, .ref 383), (1, .ref Ld1), (2, .int p2), (3, .int p3), (4, .int x1198)]) d_Told_lay_19 rfl (by decide) [1, 2, 3, 4, 0] rfl ?_
      refine g_iload (pc1 := 23) d_Told_lay_21 rfl 4 rfl ?_
      refine g_if_le (pc1 := 26) (tgt := 32) d_Told_lay_23 (by decide) rfl (fun h1199 => ?_) (fun h1199 => ?_)
      · refine g_iload_n (pc1 := 33) d_Told_lay_32 rfl 3 rfl ?_
        refine g_iconst (pc1 := 34) (v := 1) d_Told_lay_33 rfl (by decide) ?_
        refine g_isub (pc1 := 35) d_Told_lay_34 rfl ?_
        refine g_bipush (pc1 := 37) (v := 6) d_Told_lay_35 rfl (by decide) ?_
        refine g_isub (pc1 := 38) d_Told_lay_37 rfl ?_
        refine Wp.topi (fun x1200 ex1200 => ?_)
        refine g_istore (pc1 := 40) (lv' := [(0, .ref 383), (1, .ref Ld1), (2, .int p2), (3, .int p3), (4, .int x1198), (5, .int x1200)]) d_Told_lay_38 rfl (by decide) [1, 2, 3, 4, 5, 0] rfl ?_
        refine g_aload_n (pc1 := 41) d_Told_lay_40 rfl 1 rfl ?_
        refine g_iload_n (pc1 := 42) d_Told_lay_41 rfl 2 rfl ?_
        refine g_callV0 (pc1 := 45) (As := [.int p2]) (rest := []) d_Told_lay_42 rfl mo_Told_56 mi_Land_manyIn mv_Land_manyIn rfl (shLa_0 hLd1) (ltLa_0 hLd1) (by decide) rfl rfl (Nat.le_of_ble_eq_true rfl) ?_
        refine t1_Land_manyIn hld Ld1 hLd1 _ (fun r1201 => ?_)
        refine g_iload (pc1 := 47) d_Told_lay_45 rfl 4 rfl ?_
        refine g_iadd (pc1 := 48) d_Told_lay_47 rfl ?_
        refine Wp.topi (fun x1202 ex1202 => ?_)
        refine g_istore (pc1 := 50) (lv' := [(0, .ref 383), (1, .ref Ld1), (2, .int p2), (3, .int p3), (4, .int x1198), (5, .int x1200), (6, .int x1202)]) d_Told_lay_48 rfl (by decide) [1, 2, 3, 4, 5, 6, 0] rfl ?_
        refine g_iload (pc1 := 52) d_Told_lay_50 rfl 4 rfl ?_
        refine g_if_eq (pc1 := 55) (tgt := 64) d_Told_lay_52 (by decide) rfl (fun h1203 => ?_) (fun h1203 => ?_)
        · refine g_iload (pc1 := 66) d_Told_lay_64 rfl 4 rfl ?_
          refine g_if_ge (pc1 := 69) (tgt := 79) d_Told_lay_66 (by decide) rfl (fun h1204 => ?_) (fun h1204 => ?_)
          · refine g_iload (pc1 := 81) d_Told_lay_79 rfl 6 rfl ?_
            refine g_iconst (pc1 := 82) (v := 1) d_Told_lay_81 rfl (by decide) ?_
            refine g_icmp_ge (pc1 := 85) (tgt := 87) d_Told_lay_82 (by decide) rfl (fun h1205 => ?_) (fun h1205 => ?_)
            · refine g_aload_n (pc1 := 88) d_Told_lay_87 rfl 0 rfl ?_
              refine g_getr (pc1 := 91) d_Told_lay_88 rfl ⟨_, fo_Told_21⟩ sh_383 (by decide) (rf_383_4 ld) ?_
              refine g_aload_n (pc1 := 92) d_Told_lay_91 rfl 0 rfl ?_
              refine g_geti (pc1 := 95) d_Told_lay_92 rfl ⟨_, fo_Told_41⟩ sh_383 (by decide) ?_
              refine g_iload_n (pc1 := 96) d_Told_lay_95 rfl 2 rfl ?_
              refine g_callS0 (pc1 := 99) (As := [.ref 387, .int (M 383 7), .int p2]) (rest := []) d_Told_lay_96 rfl mo_Told_37 ms_Main_put (by decide) rfl rfl (Nat.le_of_ble_eq_true rfl) ?_
              refine t1_Main_put hld 387 sh_387 (by decide) (by decide) _ _ (fun  M1206 L1207 k1208 => ?_)
              refine g_aload_n (pc1 := 100) d_Told_lay_99 rfl 0 rfl ?_
              refine g_getr (pc1 := 103) d_Told_lay_100 rfl ⟨_, fo_Told_24⟩ sh_383 (by decide) (rf_383_5 ld) ?_
              refine g_aload_n (pc1 := 104) d_Told_lay_103 rfl 0 rfl ?_
              refine g_geti (pc1 := 107) d_Told_lay_104 rfl ⟨_, fo_Told_41⟩ sh_383 (by decide) ?_
              refine g_iload (pc1 := 109) d_Told_lay_107 rfl 6 rfl ?_
              refine g_callS0 (pc1 := 112) (As := [.ref 388, .int (M1206 383 7), .int x1202]) (rest := []) d_Told_lay_109 rfl mo_Told_37 ms_Main_put (by decide) rfl rfl (Nat.le_of_ble_eq_true rfl) ?_
              refine t1_Main_put hld 388 sh_388 (by decide) (by decide) _ _ (fun  M1209 L1210 k1211 => ?_)
              refine g_iconst (pc1 := 113) (v := 0) d_Told_lay_112 rfl (by decide) ?_
              refine g_istore (pc1 := 115) (lv' := [(0, .ref 383), (1, .ref Ld1), (2, .int p2), (3, .int p3), (4, .int x1198), (5, .int x1200), (6, .int x1202), (7, .int 0)]) d_Told_lay_113 rfl (by decide) [1, 2, 3, 4, 5, 6, 7, 0] rfl ?_
              have LP1215 : ∀ (f1212 : Nat) (v1216 : Int32) (M1217 : gM) (L1218 : gL), Kp S1 M L M1217 L1218 → ¬ v1216 < 0 → ((3 : Int32).toInt - v1216.toInt).toNat < f1212 → Wp l y_Told_lay (0, 0, 447) 447 0 0 115 [(0, .ref 383), (1, .ref Ld1), (2, .int p2), (3, .int p3), (4, .int x1198), (5, .int x1200), (6, .int x1202), (7, .int v1216)] [] M1217 L1218 (rf ld) Q := by
                intro f1212
                induction f1212 with
                | zero => intro v1216 M1217 L1218 _ _ hm1214; exact absurd hm1214 (Nat.not_lt_zero _)
                | succ f1212 ih1213 =>
                  intro v1216 M1217 L1218 k1219 n1220 hm1214
                  refine g_iload (pc1 := 117) d_Told_lay_115 rfl 7 rfl ?_
                  refine g_iconst (pc1 := 118) (v := 3) d_Told_lay_117 rfl (by decide) ?_
                  refine g_icmp_ge (pc1 := 121) (tgt := 175) d_Told_lay_118 (by decide) rfl (fun h1221 => ?_) (fun h1221 => ?_)
                  · refine g_iconst (pc1 := 176) (v := 1) d_Told_lay_175 rfl (by decide) ?_
                    refine g_ireturn (Or.inr ⟨rfl, rfl⟩) d_Told_lay_176 rfl ?_
                    exact hQ _ _ _ (Or.inr rfl) k1219
                  · refine g_iload (pc1 := 123) d_Told_lay_121 rfl 4 rfl ?_
                    refine g_if_ne (pc1 := 126) (tgt := 130) d_Told_lay_123 (by decide) rfl (fun h1222 => ?_) (fun h1222 => ?_)
                    · refine g_iload (pc1 := 132) d_Told_lay_130 rfl 4 rfl ?_
                      refine g_aload_n (pc1 := 133) d_Told_lay_132 rfl 1 rfl ?_
                      refine g_iload (pc1 := 135) d_Told_lay_133 rfl 5 rfl ?_
                      refine g_iload (pc1 := 137) d_Told_lay_135 rfl 7 rfl ?_
                      refine g_callV0 (pc1 := 140) (As := [.int x1200, .int v1216]) (rest := [.int x1198]) d_Told_lay_137 rfl mo_Told_67 mi_Land_broughtBy mv_Land_broughtBy rfl (shLa_0 hLd1) (ltLa_0 hLd1) (by decide) rfl rfl (Nat.le_of_ble_eq_true rfl) ?_
                      refine t1_Land_broughtBy hld Ld1 hLd1 _ _ (fun r1223 => ?_)
                      refine g_imul (pc1 := 141) d_Told_lay_140 rfl ?_
                      refine Wp.topi (fun x1224 ex1224 => ?_)
                      refine g_istore (pc1 := 143) (lv' := [(0, .ref 383), (1, .ref Ld1), (2, .int p2), (3, .int p3), (4, .int x1198), (5, .int x1200), (6, .int x1202), (7, .int v1216), (8, .int x1224)]) d_Told_lay_141 rfl (by decide) [1, 2, 3, 4, 5, 6, 7, 8, 0] rfl ?_
                      refine g_aload_n (pc1 := 144) d_Told_lay_143 rfl 0 rfl ?_
                      refine g_getr (pc1 := 147) d_Told_lay_144 rfl ⟨_, fo_Told_27⟩ sh_383 (by decide) (rf_383_6 ld) ?_
                      refine g_aload_n (pc1 := 148) d_Told_lay_147 rfl 0 rfl ?_
                      refine g_geti (pc1 := 151) d_Told_lay_148 rfl ⟨_, fo_Told_41⟩ sh_383 (by decide) ?_
                      refine g_iconst (pc1 := 152) (v := 3) d_Told_lay_151 rfl (by decide) ?_
                      refine g_imul (pc1 := 153) d_Told_lay_152 rfl ?_
                      refine g_iload (pc1 := 155) d_Told_lay_153 rfl 7 rfl ?_
                      refine g_iadd (pc1 := 156) d_Told_lay_155 rfl ?_
                      refine g_aload_n (pc1 := 157) d_Told_lay_156 rfl 1 rfl ?_
                      refine g_iload_n (pc1 := 158) d_Told_lay_157 rfl 2 rfl ?_
                      refine g_iload (pc1 := 160) d_Told_lay_158 rfl 7 rfl ?_
                      refine g_callV0 (pc1 := 163) (As := [.int p2, .int v1216]) (rest := [.int (((M1217 383 7) * 3) + v1216), .ref 389]) d_Told_lay_160 rfl mo_Told_70 mi_Land_sumOf mv_Land_sumOf rfl (shLa_0 hLd1) (ltLa_0 hLd1) (by decide) rfl rfl (Nat.le_of_ble_eq_true rfl) ?_
                      refine t1_Land_sumOf hld Ld1 hLd1 _ _ (fun r1225 => ?_)
                      refine g_iload (pc1 := 165) d_Told_lay_163 rfl 8 rfl ?_
                      refine g_iadd (pc1 := 166) d_Told_lay_165 rfl ?_
                      refine g_callS0 (pc1 := 169) (As := [.ref 389, .int (((M1217 383 7) * 3) + v1216), .int (r1225 + x1224)]) (rest := []) d_Told_lay_166 rfl mo_Told_37 ms_Main_put (by decide) rfl rfl (Nat.le_of_ble_eq_true rfl) ?_
                      refine t1_Main_put hld 389 sh_389 (by decide) (by decide) _ _ (fun  M1226 L1227 k1228 => ?_)
                      obtain ⟨x1229, ex1229⟩ : ∃ y : Int32, y = v1216 + 1 := ⟨_, rfl⟩
                      refine g_iinc (pc1 := 172) (v := x1229) (lv' := [(0, .ref 383), (1, .ref Ld1), (2, .int p2), (3, .int p3), (4, .int x1198), (5, .int x1200), (6, .int x1202), (7, .int x1229), (8, .int x1224)]) d_Told_lay_169 rfl 7 rfl (by rw [ex1229]; rfl) (by decide) [1, 2, 3, 4, 5, 6, 7, 0, 8] rfl ?_
                      refine g_goto (tgt := 115) d_Told_lay_172 (by decide) ?_
                      refine Wp.loc (lv' := [(0, .ref 383), (1, .ref Ld1), (2, .int p2), (3, .int p3), (4, .int x1198), (5, .int x1200), (6, .int x1202), (7, .int x1229)]) [0, 1, 2, 3, 4, 5, 6, 7] rfl ?_
                      exact ih1213 x1229 M1226 L1227 (Kp.trans k1219 (Kp.mono k1228 (one_S rfl))) (nn_up (y := (3 : Int32)) h1221 ex1229 n1220) (md_up h1221 ex1229 hm1214)
                    · refine g_iconst (pc1 := 127) (v := 0) d_Told_lay_126 rfl (by decide) ?_
                      refine g_goto (tgt := 141) d_Told_lay_127 (by decide) ?_
                      refine g_istore (pc1 := 143) (lv' := [(0, .ref 383), (1, .ref Ld1), (2, .int p2), (3, .int p3), (4, .int x1198), (5, .int x1200), (6, .int x1202), (7, .int v1216), (8, .int 0)]) d_Told_lay_141 rfl (by decide) [1, 2, 3, 4, 5, 6, 7, 8, 0] rfl ?_
                      refine g_aload_n (pc1 := 144) d_Told_lay_143 rfl 0 rfl ?_
                      refine g_getr (pc1 := 147) d_Told_lay_144 rfl ⟨_, fo_Told_27⟩ sh_383 (by decide) (rf_383_6 ld) ?_
                      refine g_aload_n (pc1 := 148) d_Told_lay_147 rfl 0 rfl ?_
                      refine g_geti (pc1 := 151) d_Told_lay_148 rfl ⟨_, fo_Told_41⟩ sh_383 (by decide) ?_
                      refine g_iconst (pc1 := 152) (v := 3) d_Told_lay_151 rfl (by decide) ?_
                      refine g_imul (pc1 := 153) d_Told_lay_152 rfl ?_
                      refine g_iload (pc1 := 155) d_Told_lay_153 rfl 7 rfl ?_
                      refine g_iadd (pc1 := 156) d_Told_lay_155 rfl ?_
                      refine g_aload_n (pc1 := 157) d_Told_lay_156 rfl 1 rfl ?_
                      refine g_iload_n (pc1 := 158) d_Told_lay_157 rfl 2 rfl ?_
                      refine g_iload (pc1 := 160) d_Told_lay_158 rfl 7 rfl ?_
                      refine g_callV0 (pc1 := 163) (As := [.int p2, .int v1216]) (rest := [.int (((M1217 383 7) * 3) + v1216), .ref 389]) d_Told_lay_160 rfl mo_Told_70 mi_Land_sumOf mv_Land_sumOf rfl (shLa_0 hLd1) (ltLa_0 hLd1) (by decide) rfl rfl (Nat.le_of_ble_eq_true rfl) ?_
                      refine t1_Land_sumOf hld Ld1 hLd1 _ _ (fun r1230 => ?_)
                      refine g_iload (pc1 := 165) d_Told_lay_163 rfl 8 rfl ?_
                      refine g_iadd (pc1 := 166) d_Told_lay_165 rfl ?_
                      refine g_callS0 (pc1 := 169) (As := [.ref 389, .int (((M1217 383 7) * 3) + v1216), .int (r1230 + 0)]) (rest := []) d_Told_lay_166 rfl mo_Told_37 ms_Main_put (by decide) rfl rfl (Nat.le_of_ble_eq_true rfl) ?_
                      refine t1_Main_put hld 389 sh_389 (by decide) (by decide) _ _ (fun  M1231 L1232 k1233 => ?_)
                      obtain ⟨x1234, ex1234⟩ : ∃ y : Int32, y = v1216 + 1 := ⟨_, rfl⟩
                      refine g_iinc (pc1 := 172) (v := x1234) (lv' := [(0, .ref 383), (1, .ref Ld1), (2, .int p2), (3, .int p3), (4, .int x1198), (5, .int x1200), (6, .int x1202), (7, .int x1234), (8, .int 0)]) d_Told_lay_169 rfl 7 rfl (by rw [ex1234]; rfl) (by decide) [1, 2, 3, 4, 5, 6, 7, 0, 8] rfl ?_
                      refine g_goto (tgt := 115) d_Told_lay_172 (by decide) ?_
                      refine Wp.loc (lv' := [(0, .ref 383), (1, .ref Ld1), (2, .int p2), (3, .int p3), (4, .int x1198), (5, .int x1200), (6, .int x1202), (7, .int x1234)]) [0, 1, 2, 3, 4, 5, 6, 7] rfl ?_
                      exact ih1213 x1234 M1231 L1232 (Kp.trans k1219 (Kp.mono k1233 (one_S rfl))) (nn_up (y := (3 : Int32)) h1221 ex1234 n1220) (md_up h1221 ex1234 hm1214)
              exact LP1215 _ 0 M1209 L1210 (Kp.trans (Kp.trans Kp.rf (Kp.mono k1208 (one_S rfl))) (Kp.mono k1211 (one_S rfl))) (by decide) (Nat.lt_succ_self _)
            · refine g_iconst (pc1 := 86) (v := 0) d_Told_lay_85 rfl (by decide) ?_
              refine g_ireturn (Or.inr ⟨rfl, rfl⟩) d_Told_lay_86 rfl ?_
              exact hQ _ _ _ (Or.inl rfl) Kp.rf
          · refine g_aload_n (pc1 := 70) d_Told_lay_69 rfl 1 rfl ?_
            refine g_iload_n (pc1 := 71) d_Told_lay_70 rfl 2 rfl ?_
            refine g_iload (pc1 := 73) d_Told_lay_71 rfl 5 rfl ?_
            refine g_callV0 (pc1 := 76) (As := [.int p2, .int x1200]) (rest := []) d_Told_lay_73 rfl mo_Told_63 mi_Land_inDish mv_Land_inDish rfl (shLa_0 hLd1) (ltLa_0 hLd1) (by decide) rfl rfl (Nat.le_of_ble_eq_true rfl) ?_
            refine t1_Land_inDish hld Ld1 hLd1 _ _ (fun r1235 => ?_)
            refine g_if_eq (pc1 := 79) (tgt := 85) d_Told_lay_76 (by decide) rfl (fun h1236 => ?_) (fun h1236 => ?_)
            · refine g_iconst (pc1 := 86) (v := 0) d_Told_lay_85 rfl (by decide) ?_
              refine g_ireturn (Or.inr ⟨rfl, rfl⟩) d_Told_lay_86 rfl ?_
              exact hQ _ _ _ (Or.inl rfl) Kp.rf
            · refine g_iload (pc1 := 81) d_Told_lay_79 rfl 6 rfl ?_
              refine g_iconst (pc1 := 82) (v := 1) d_Told_lay_81 rfl (by decide) ?_
              refine g_icmp_ge (pc1 := 85) (tgt := 87) d_Told_lay_82 (by decide) rfl (fun h1237 => ?_) (fun h1237 => ?_)
              · refine g_aload_n (pc1 := 88) d_Told_lay_87 rfl 0 rfl ?_
                refine g_getr (pc1 := 91) d_Told_lay_88 rfl ⟨_, fo_Told_21⟩ sh_383 (by decide) (rf_383_4 ld) ?_
                refine g_aload_n (pc1 := 92) d_Told_lay_91 rfl 0 rfl ?_
                refine g_geti (pc1 := 95) d_Told_lay_92 rfl ⟨_, fo_Told_41⟩ sh_383 (by decide) ?_
                refine g_iload_n (pc1 := 96) d_Told_lay_95 rfl 2 rfl ?_
                refine g_callS0 (pc1 := 99) (As := [.ref 387, .int (M 383 7), .int p2]) (rest := []) d_Told_lay_96 rfl mo_Told_37 ms_Main_put (by decide) rfl rfl (Nat.le_of_ble_eq_true rfl) ?_
                refine t1_Main_put hld 387 sh_387 (by decide) (by decide) _ _ (fun  M1238 L1239 k1240 => ?_)
                refine g_aload_n (pc1 := 100) d_Told_lay_99 rfl 0 rfl ?_
                refine g_getr (pc1 := 103) d_Told_lay_100 rfl ⟨_, fo_Told_24⟩ sh_383 (by decide) (rf_383_5 ld) ?_
                refine g_aload_n (pc1 := 104) d_Told_lay_103 rfl 0 rfl ?_
                refine g_geti (pc1 := 107) d_Told_lay_104 rfl ⟨_, fo_Told_41⟩ sh_383 (by decide) ?_
                refine g_iload (pc1 := 109) d_Told_lay_107 rfl 6 rfl ?_
                refine g_callS0 (pc1 := 112) (As := [.ref 388, .int (M1238 383 7), .int x1202]) (rest := []) d_Told_lay_109 rfl mo_Told_37 ms_Main_put (by decide) rfl rfl (Nat.le_of_ble_eq_true rfl) ?_
                refine t1_Main_put hld 388 sh_388 (by decide) (by decide) _ _ (fun  M1241 L1242 k1243 => ?_)
                refine g_iconst (pc1 := 113) (v := 0) d_Told_lay_112 rfl (by decide) ?_
                refine g_istore (pc1 := 115) (lv' := [(0, .ref 383), (1, .ref Ld1), (2, .int p2), (3, .int p3), (4, .int x1198), (5, .int x1200), (6, .int x1202), (7, .int 0)]) d_Told_lay_113 rfl (by decide) [1, 2, 3, 4, 5, 6, 7, 0] rfl ?_
                have LP1247 : ∀ (f1244 : Nat) (v1248 : Int32) (M1249 : gM) (L1250 : gL), Kp S1 M L M1249 L1250 → ¬ v1248 < 0 → ((3 : Int32).toInt - v1248.toInt).toNat < f1244 → Wp l y_Told_lay (0, 0, 447) 447 0 0 115 [(0, .ref 383), (1, .ref Ld1), (2, .int p2), (3, .int p3), (4, .int x1198), (5, .int x1200), (6, .int x1202), (7, .int v1248)] [] M1249 L1250 (rf ld) Q := by
                  intro f1244
                  induction f1244 with
                  | zero => intro v1248 M1249 L1250 _ _ hm1246; exact absurd hm1246 (Nat.not_lt_zero _)
                  | succ f1244 ih1245 =>
                    intro v1248 M1249 L1250 k1251 n1252 hm1246
                    refine g_iload (pc1 := 117) d_Told_lay_115 rfl 7 rfl ?_
                    refine g_iconst (pc1 := 118) (v := 3) d_Told_lay_117 rfl (by decide) ?_
                    refine g_icmp_ge (pc1 := 121) (tgt := 175) d_Told_lay_118 (by decide) rfl (fun h1253 => ?_) (fun h1253 => ?_)
                    · refine g_iconst (pc1 := 176) (v := 1) d_Told_lay_175 rfl (by decide) ?_
                      refine g_ireturn (Or.inr ⟨rfl, rfl⟩) d_Told_lay_176 rfl ?_
                      exact hQ _ _ _ (Or.inr rfl) k1251
                    · refine g_iload (pc1 := 123) d_Told_lay_121 rfl 4 rfl ?_
                      refine g_if_ne (pc1 := 126) (tgt := 130) d_Told_lay_123 (by decide) rfl (fun h1254 => ?_) (fun h1254 => ?_)
                      · refine g_iload (pc1 := 132) d_Told_lay_130 rfl 4 rfl ?_
                        refine g_aload_n (pc1 := 133) d_Told_lay_132 rfl 1 rfl ?_
                        refine g_iload (pc1 := 135) d_Told_lay_133 rfl 5 rfl ?_
                        refine g_iload (pc1 := 137) d_Told_lay_135 rfl 7 rfl ?_
                        refine g_callV0 (pc1 := 140) (As := [.int x1200, .int v1248]) (rest := [.int x1198]) d_Told_lay_137 rfl mo_Told_67 mi_Land_broughtBy mv_Land_broughtBy rfl (shLa_0 hLd1) (ltLa_0 hLd1) (by decide) rfl rfl (Nat.le_of_ble_eq_true rfl) ?_
                        refine t1_Land_broughtBy hld Ld1 hLd1 _ _ (fun r1255 => ?_)
                        refine g_imul (pc1 := 141) d_Told_lay_140 rfl ?_
                        refine Wp.topi (fun x1256 ex1256 => ?_)
                        refine g_istore (pc1 := 143) (lv' := [(0, .ref 383), (1, .ref Ld1), (2, .int p2), (3, .int p3), (4, .int x1198), (5, .int x1200), (6, .int x1202), (7, .int v1248), (8, .int x1256)]) d_Told_lay_141 rfl (by decide) [1, 2, 3, 4, 5, 6, 7, 8, 0] rfl ?_
                        refine g_aload_n (pc1 := 144) d_Told_lay_143 rfl 0 rfl ?_
                        refine g_getr (pc1 := 147) d_Told_lay_144 rfl ⟨_, fo_Told_27⟩ sh_383 (by decide) (rf_383_6 ld) ?_
                        refine g_aload_n (pc1 := 148) d_Told_lay_147 rfl 0 rfl ?_
                        refine g_geti (pc1 := 151) d_Told_lay_148 rfl ⟨_, fo_Told_41⟩ sh_383 (by decide) ?_
                        refine g_iconst (pc1 := 152) (v := 3) d_Told_lay_151 rfl (by decide) ?_
                        refine g_imul (pc1 := 153) d_Told_lay_152 rfl ?_
                        refine g_iload (pc1 := 155) d_Told_lay_153 rfl 7 rfl ?_
                        refine g_iadd (pc1 := 156) d_Told_lay_155 rfl ?_
                        refine g_aload_n (pc1 := 157) d_Told_lay_156 rfl 1 rfl ?_
                        refine g_iload_n (pc1 := 158) d_Told_lay_157 rfl 2 rfl ?_
                        refine g_iload (pc1 := 160) d_Told_lay_158 rfl 7 rfl ?_
                        refine g_callV0 (pc1 := 163) (As := [.int p2, .int v1248]) (rest := [.int (((M1249 383 7) * 3) + v1248), .ref 389]) d_Told_lay_160 rfl mo_Told_70 mi_Land_sumOf mv_Land_sumOf rfl (shLa_0 hLd1) (ltLa_0 hLd1) (by decide) rfl rfl (Nat.le_of_ble_eq_true rfl) ?_
                        refine t1_Land_sumOf hld Ld1 hLd1 _ _ (fun r1257 => ?_)
                        refine g_iload (pc1 := 165) d_Told_lay_163 rfl 8 rfl ?_
                        refine g_iadd (pc1 := 166) d_Told_lay_165 rfl ?_
                        refine g_callS0 (pc1 := 169) (As := [.ref 389, .int (((M1249 383 7) * 3) + v1248), .int (r1257 + x1256)]) (rest := []) d_Told_lay_166 rfl mo_Told_37 ms_Main_put (by decide) rfl rfl (Nat.le_of_ble_eq_true rfl) ?_
                        refine t1_Main_put hld 389 sh_389 (by decide) (by decide) _ _ (fun  M1258 L1259 k1260 => ?_)
                        obtain ⟨x1261, ex1261⟩ : ∃ y : Int32, y = v1248 + 1 := ⟨_, rfl⟩
                        refine g_iinc (pc1 := 172) (v := x1261) (lv' := [(0, .ref 383), (1, .ref Ld1), (2, .int p2), (3, .int p3), (4, .int x1198), (5, .int x1200), (6, .int x1202), (7, .int x1261), (8, .int x1256)]) d_Told_lay_169 rfl 7 rfl (by rw [ex1261]; rfl) (by decide) [1, 2, 3, 4, 5, 6, 7, 0, 8] rfl ?_
                        refine g_goto (tgt := 115) d_Told_lay_172 (by decide) ?_
                        refine Wp.loc (lv' := [(0, .ref 383), (1, .ref Ld1), (2, .int p2), (3, .int p3), (4, .int x1198), (5, .int x1200), (6, .int x1202), (7, .int x1261)]) [0, 1, 2, 3, 4, 5, 6, 7] rfl ?_
                        exact ih1245 x1261 M1258 L1259 (Kp.trans k1251 (Kp.mono k1260 (one_S rfl))) (nn_up (y := (3 : Int32)) h1253 ex1261 n1252) (md_up h1253 ex1261 hm1246)
                      · refine g_iconst (pc1 := 127) (v := 0) d_Told_lay_126 rfl (by decide) ?_
                        refine g_goto (tgt := 141) d_Told_lay_127 (by decide) ?_
                        refine g_istore (pc1 := 143) (lv' := [(0, .ref 383), (1, .ref Ld1), (2, .int p2), (3, .int p3), (4, .int x1198), (5, .int x1200), (6, .int x1202), (7, .int v1248), (8, .int 0)]) d_Told_lay_141 rfl (by decide) [1, 2, 3, 4, 5, 6, 7, 8, 0] rfl ?_
                        refine g_aload_n (pc1 := 144) d_Told_lay_143 rfl 0 rfl ?_
                        refine g_getr (pc1 := 147) d_Told_lay_144 rfl ⟨_, fo_Told_27⟩ sh_383 (by decide) (rf_383_6 ld) ?_
                        refine g_aload_n (pc1 := 148) d_Told_lay_147 rfl 0 rfl ?_
                        refine g_geti (pc1 := 151) d_Told_lay_148 rfl ⟨_, fo_Told_41⟩ sh_383 (by decide) ?_
                        refine g_iconst (pc1 := 152) (v := 3) d_Told_lay_151 rfl (by decide) ?_
                        refine g_imul (pc1 := 153) d_Told_lay_152 rfl ?_
                        refine g_iload (pc1 := 155) d_Told_lay_153 rfl 7 rfl ?_
                        refine g_iadd (pc1 := 156) d_Told_lay_155 rfl ?_
                        refine g_aload_n (pc1 := 157) d_Told_lay_156 rfl 1 rfl ?_
                        refine g_iload_n (pc1 := 158) d_Told_lay_157 rfl 2 rfl ?_
                        refine g_iload (pc1 := 160) d_Told_lay_158 rfl 7 rfl ?_
                        refine g_callV0 (pc1 := 163) (As := [.int p2, .int v1248]) (rest := [.int (((M1249 383 7) * 3) + v1248), .ref 389]) d_Told_lay_160 rfl mo_Told_70 mi_Land_sumOf mv_Land_sumOf rfl (shLa_0 hLd1) (ltLa_0 hLd1) (by decide) rfl rfl (Nat.le_of_ble_eq_true rfl) ?_
                        refine t1_Land_sumOf hld Ld1 hLd1 _ _ (fun r1262 => ?_)
                        refine g_iload (pc1 := 165) d_Told_lay_163 rfl 8 rfl ?_
                        refine g_iadd (pc1 := 166) d_Told_lay_165 rfl ?_
                        refine g_callS0 (pc1 := 169) (As := [.ref 389, .int (((M1249 383 7) * 3) + v1248), .int (r1262 + 0)]) (rest := []) d_Told_lay_166 rfl mo_Told_37 ms_Main_put (by decide) rfl rfl (Nat.le_of_ble_eq_true rfl) ?_
                        refine t1_Main_put hld 389 sh_389 (by decide) (by decide) _ _ (fun  M1263 L1264 k1265 => ?_)
                        obtain ⟨x1266, ex1266⟩ : ∃ y : Int32, y = v1248 + 1 := ⟨_, rfl⟩
                        refine g_iinc (pc1 := 172) (v := x1266) (lv' := [(0, .ref 383), (1, .ref Ld1), (2, .int p2), (3, .int p3), (4, .int x1198), (5, .int x1200), (6, .int x1202), (7, .int x1266), (8, .int 0)]) d_Told_lay_169 rfl 7 rfl (by rw [ex1266]; rfl) (by decide) [1, 2, 3, 4, 5, 6, 7, 0, 8] rfl ?_
                        refine g_goto (tgt := 115) d_Told_lay_172 (by decide) ?_
                        refine Wp.loc (lv' := [(0, .ref 383), (1, .ref Ld1), (2, .int p2), (3, .int p3), (4, .int x1198), (5, .int x1200), (6, .int x1202), (7, .int x1266)]) [0, 1, 2, 3, 4, 5, 6, 7] rfl ?_
                        exact ih1245 x1266 M1263 L1264 (Kp.trans k1251 (Kp.mono k1265 (one_S rfl))) (nn_up (y := (3 : Int32)) h1253 ex1266 n1252) (md_up h1253 ex1266 hm1246)
                exact LP1247 _ 0 M1241 L1242 (Kp.trans (Kp.trans Kp.rf (Kp.mono k1240 (one_S rfl))) (Kp.mono k1243 (one_S rfl))) (by decide) (Nat.lt_succ_self _)
              · refine g_iconst (pc1 := 86) (v := 0) d_Told_lay_85 rfl (by decide) ?_
                refine g_ireturn (Or.inr ⟨rfl, rfl⟩) d_Told_lay_86 rfl ?_
                exact hQ _ _ _ (Or.inl rfl) Kp.rf
        · refine g_iload (pc1 := 57) d_Told_lay_55 rfl 5 rfl ?_
          refine g_aload_n (pc1 := 58) d_Told_lay_57 rfl 1 rfl ?_
          refine g_geti (pc1 := 61) d_Told_lay_58 rfl ⟨_, fo_Told_60⟩ (shLa_0 hLd1) (ltLa_0 hLd1) ?_
          refine g_icmp_ge (pc1 := 64) (tgt := 85) d_Told_lay_61 (by decide) rfl (fun h1267 => ?_) (fun h1267 => ?_)
          · refine g_iconst (pc1 := 86) (v := 0) d_Told_lay_85 rfl (by decide) ?_
            refine g_ireturn (Or.inr ⟨rfl, rfl⟩) d_Told_lay_86 rfl ?_
            exact hQ _ _ _ (Or.inl rfl) Kp.rf
          · refine g_iload (pc1 := 66) d_Told_lay_64 rfl 4 rfl ?_
            refine g_if_ge (pc1 := 69) (tgt := 79) d_Told_lay_66 (by decide) rfl (fun h1268 => ?_) (fun h1268 => ?_)
            · refine g_iload (pc1 := 81) d_Told_lay_79 rfl 6 rfl ?_
              refine g_iconst (pc1 := 82) (v := 1) d_Told_lay_81 rfl (by decide) ?_
              refine g_icmp_ge (pc1 := 85) (tgt := 87) d_Told_lay_82 (by decide) rfl (fun h1269 => ?_) (fun h1269 => ?_)
              · refine g_aload_n (pc1 := 88) d_Told_lay_87 rfl 0 rfl ?_
                refine g_getr (pc1 := 91) d_Told_lay_88 rfl ⟨_, fo_Told_21⟩ sh_383 (by decide) (rf_383_4 ld) ?_
                refine g_aload_n (pc1 := 92) d_Told_lay_91 rfl 0 rfl ?_
                refine g_geti (pc1 := 95) d_Told_lay_92 rfl ⟨_, fo_Told_41⟩ sh_383 (by decide) ?_
                refine g_iload_n (pc1 := 96) d_Told_lay_95 rfl 2 rfl ?_
                refine g_callS0 (pc1 := 99) (As := [.ref 387, .int (M 383 7), .int p2]) (rest := []) d_Told_lay_96 rfl mo_Told_37 ms_Main_put (by decide) rfl rfl (Nat.le_of_ble_eq_true rfl) ?_
                refine t1_Main_put hld 387 sh_387 (by decide) (by decide) _ _ (fun  M1270 L1271 k1272 => ?_)
                refine g_aload_n (pc1 := 100) d_Told_lay_99 rfl 0 rfl ?_
                refine g_getr (pc1 := 103) d_Told_lay_100 rfl ⟨_, fo_Told_24⟩ sh_383 (by decide) (rf_383_5 ld) ?_
                refine g_aload_n (pc1 := 104) d_Told_lay_103 rfl 0 rfl ?_
                refine g_geti (pc1 := 107) d_Told_lay_104 rfl ⟨_, fo_Told_41⟩ sh_383 (by decide) ?_
                refine g_iload (pc1 := 109) d_Told_lay_107 rfl 6 rfl ?_
                refine g_callS0 (pc1 := 112) (As := [.ref 388, .int (M1270 383 7), .int x1202]) (rest := []) d_Told_lay_109 rfl mo_Told_37 ms_Main_put (by decide) rfl rfl (Nat.le_of_ble_eq_true rfl) ?_
                refine t1_Main_put hld 388 sh_388 (by decide) (by decide) _ _ (fun  M1273 L1274 k1275 => ?_)
                refine g_iconst (pc1 := 113) (v := 0) d_Told_lay_112 rfl (by decide) ?_
                refine g_istore (pc1 := 115) (lv' := [(0, .ref 383), (1, .ref Ld1), (2, .int p2), (3, .int p3), (4, .int x1198), (5, .int x1200), (6, .int x1202), (7, .int 0)]) d_Told_lay_113 rfl (by decide) [1, 2, 3, 4, 5, 6, 7, 0] rfl ?_
                have LP1279 : ∀ (f1276 : Nat) (v1280 : Int32) (M1281 : gM) (L1282 : gL), Kp S1 M L M1281 L1282 → ¬ v1280 < 0 → ((3 : Int32).toInt - v1280.toInt).toNat < f1276 → Wp l y_Told_lay (0, 0, 447) 447 0 0 115 [(0, .ref 383), (1, .ref Ld1), (2, .int p2), (3, .int p3), (4, .int x1198), (5, .int x1200), (6, .int x1202), (7, .int v1280)] [] M1281 L1282 (rf ld) Q := by
                  intro f1276
                  induction f1276 with
                  | zero => intro v1280 M1281 L1282 _ _ hm1278; exact absurd hm1278 (Nat.not_lt_zero _)
                  | succ f1276 ih1277 =>
                    intro v1280 M1281 L1282 k1283 n1284 hm1278
                    refine g_iload (pc1 := 117) d_Told_lay_115 rfl 7 rfl ?_
                    refine g_iconst (pc1 := 118) (v := 3) d_Told_lay_117 rfl (by decide) ?_
                    refine g_icmp_ge (pc1 := 121) (tgt := 175) d_Told_lay_118 (by decide) rfl (fun h1285 => ?_) (fun h1285 => ?_)
                    · refine g_iconst (pc1 := 176) (v := 1) d_Told_lay_175 rfl (by decide) ?_
                      refine g_ireturn (Or.inr ⟨rfl, rfl⟩) d_Told_lay_176 rfl ?_
                      exact hQ _ _ _ (Or.inr rfl) k1283
                    · refine g_iload (pc1 := 123) d_Told_lay_121 rfl 4 rfl ?_
                      refine g_if_ne (pc1 := 126) (tgt := 130) d_Told_lay_123 (by decide) rfl (fun h1286 => ?_) (fun h1286 => ?_)
                      · refine g_iload (pc1 := 132) d_Told_lay_130 rfl 4 rfl ?_
                        refine g_aload_n (pc1 := 133) d_Told_lay_132 rfl 1 rfl ?_
                        refine g_iload (pc1 := 135) d_Told_lay_133 rfl 5 rfl ?_
                        refine g_iload (pc1 := 137) d_Told_lay_135 rfl 7 rfl ?_
                        refine g_callV0 (pc1 := 140) (As := [.int x1200, .int v1280]) (rest := [.int x1198]) d_Told_lay_137 rfl mo_Told_67 mi_Land_broughtBy mv_Land_broughtBy rfl (shLa_0 hLd1) (ltLa_0 hLd1) (by decide) rfl rfl (Nat.le_of_ble_eq_true rfl) ?_
                        refine t1_Land_broughtBy hld Ld1 hLd1 _ _ (fun r1287 => ?_)
                        refine g_imul (pc1 := 141) d_Told_lay_140 rfl ?_
                        refine Wp.topi (fun x1288 ex1288 => ?_)
                        refine g_istore (pc1 := 143) (lv' := [(0, .ref 383), (1, .ref Ld1), (2, .int p2), (3, .int p3), (4, .int x1198), (5, .int x1200), (6, .int x1202), (7, .int v1280), (8, .int x1288)]) d_Told_lay_141 rfl (by decide) [1, 2, 3, 4, 5, 6, 7, 8, 0] rfl ?_
                        refine g_aload_n (pc1 := 144) d_Told_lay_143 rfl 0 rfl ?_
                        refine g_getr (pc1 := 147) d_Told_lay_144 rfl ⟨_, fo_Told_27⟩ sh_383 (by decide) (rf_383_6 ld) ?_
                        refine g_aload_n (pc1 := 148) d_Told_lay_147 rfl 0 rfl ?_
                        refine g_geti (pc1 := 151) d_Told_lay_148 rfl ⟨_, fo_Told_41⟩ sh_383 (by decide) ?_
                        refine g_iconst (pc1 := 152) (v := 3) d_Told_lay_151 rfl (by decide) ?_
                        refine g_imul (pc1 := 153) d_Told_lay_152 rfl ?_
                        refine g_iload (pc1 := 155) d_Told_lay_153 rfl 7 rfl ?_
                        refine g_iadd (pc1 := 156) d_Told_lay_155 rfl ?_
                        refine g_aload_n (pc1 := 157) d_Told_lay_156 rfl 1 rfl ?_
                        refine g_iload_n (pc1 := 158) d_Told_lay_157 rfl 2 rfl ?_
                        refine g_iload (pc1 := 160) d_Told_lay_158 rfl 7 rfl ?_
                        refine g_callV0 (pc1 := 163) (As := [.int p2, .int v1280]) (rest := [.int (((M1281 383 7) * 3) + v1280), .ref 389]) d_Told_lay_160 rfl mo_Told_70 mi_Land_sumOf mv_Land_sumOf rfl (shLa_0 hLd1) (ltLa_0 hLd1) (by decide) rfl rfl (Nat.le_of_ble_eq_true rfl) ?_
                        refine t1_Land_sumOf hld Ld1 hLd1 _ _ (fun r1289 => ?_)
                        refine g_iload (pc1 := 165) d_Told_lay_163 rfl 8 rfl ?_
                        refine g_iadd (pc1 := 166) d_Told_lay_165 rfl ?_
                        refine g_callS0 (pc1 := 169) (As := [.ref 389, .int (((M1281 383 7) * 3) + v1280), .int (r1289 + x1288)]) (rest := []) d_Told_lay_166 rfl mo_Told_37 ms_Main_put (by decide) rfl rfl (Nat.le_of_ble_eq_true rfl) ?_
                        refine t1_Main_put hld 389 sh_389 (by decide) (by decide) _ _ (fun  M1290 L1291 k1292 => ?_)
                        obtain ⟨x1293, ex1293⟩ : ∃ y : Int32, y = v1280 + 1 := ⟨_, rfl⟩
                        refine g_iinc (pc1 := 172) (v := x1293) (lv' := [(0, .ref 383), (1, .ref Ld1), (2, .int p2), (3, .int p3), (4, .int x1198), (5, .int x1200), (6, .int x1202), (7, .int x1293), (8, .int x1288)]) d_Told_lay_169 rfl 7 rfl (by rw [ex1293]; rfl) (by decide) [1, 2, 3, 4, 5, 6, 7, 0, 8] rfl ?_
                        refine g_goto (tgt := 115) d_Told_lay_172 (by decide) ?_
                        refine Wp.loc (lv' := [(0, .ref 383), (1, .ref Ld1), (2, .int p2), (3, .int p3), (4, .int x1198), (5, .int x1200), (6, .int x1202), (7, .int x1293)]) [0, 1, 2, 3, 4, 5, 6, 7] rfl ?_
                        exact ih1277 x1293 M1290 L1291 (Kp.trans k1283 (Kp.mono k1292 (one_S rfl))) (nn_up (y := (3 : Int32)) h1285 ex1293 n1284) (md_up h1285 ex1293 hm1278)
                      · refine g_iconst (pc1 := 127) (v := 0) d_Told_lay_126 rfl (by decide) ?_
                        refine g_goto (tgt := 141) d_Told_lay_127 (by decide) ?_
                        refine g_istore (pc1 := 143) (lv' := [(0, .ref 383), (1, .ref Ld1), (2, .int p2), (3, .int p3), (4, .int x1198), (5, .int x1200), (6, .int x1202), (7, .int v1280), (8, .int 0)]) d_Told_lay_141 rfl (by decide) [1, 2, 3, 4, 5, 6, 7, 8, 0] rfl ?_
                        refine g_aload_n (pc1 := 144) d_Told_lay_143 rfl 0 rfl ?_
                        refine g_getr (pc1 := 147) d_Told_lay_144 rfl ⟨_, fo_Told_27⟩ sh_383 (by decide) (rf_383_6 ld) ?_
                        refine g_aload_n (pc1 := 148) d_Told_lay_147 rfl 0 rfl ?_
                        refine g_geti (pc1 := 151) d_Told_lay_148 rfl ⟨_, fo_Told_41⟩ sh_383 (by decide) ?_
                        refine g_iconst (pc1 := 152) (v := 3) d_Told_lay_151 rfl (by decide) ?_
                        refine g_imul (pc1 := 153) d_Told_lay_152 rfl ?_
                        refine g_iload (pc1 := 155) d_Told_lay_153 rfl 7 rfl ?_
                        refine g_iadd (pc1 := 156) d_Told_lay_155 rfl ?_
                        refine g_aload_n (pc1 := 157) d_Told_lay_156 rfl 1 rfl ?_
                        refine g_iload_n (pc1 := 158) d_Told_lay_157 rfl 2 rfl ?_
                        refine g_iload (pc1 := 160) d_Told_lay_158 rfl 7 rfl ?_
                        refine g_callV0 (pc1 := 163) (As := [.int p2, .int v1280]) (rest := [.int (((M1281 383 7) * 3) + v1280), .ref 389]) d_Told_lay_160 rfl mo_Told_70 mi_Land_sumOf mv_Land_sumOf rfl (shLa_0 hLd1) (ltLa_0 hLd1) (by decide) rfl rfl (Nat.le_of_ble_eq_true rfl) ?_
                        refine t1_Land_sumOf hld Ld1 hLd1 _ _ (fun r1294 => ?_)
                        refine g_iload (pc1 := 165) d_Told_lay_163 rfl 8 rfl ?_
                        refine g_iadd (pc1 := 166) d_Told_lay_165 rfl ?_
                        refine g_callS0 (pc1 := 169) (As := [.ref 389, .int (((M1281 383 7) * 3) + v1280), .int (r1294 + 0)]) (rest := []) d_Told_lay_166 rfl mo_Told_37 ms_Main_put (by decide) rfl rfl (Nat.le_of_ble_eq_true rfl) ?_
                        refine t1_Main_put hld 389 sh_389 (by decide) (by decide) _ _ (fun  M1295 L1296 k1297 => ?_)
                        obtain ⟨x1298, ex1298⟩ : ∃ y : Int32, y = v1280 + 1 := ⟨_, rfl⟩
                        refine g_iinc (pc1 := 172) (v := x1298) (lv' := [(0, .ref 383), (1, .ref Ld1), (2, .int p2), (3, .int p3), (4, .int x1198), (5, .int x1200), (6, .int x1202), (7, .int x1298), (8, .int 0)]) d_Told_lay_169 rfl 7 rfl (by rw [ex1298]; rfl) (by decide) [1, 2, 3, 4, 5, 6, 7, 0, 8] rfl ?_
                        refine g_goto (tgt := 115) d_Told_lay_172 (by decide) ?_
                        refine Wp.loc (lv' := [(0, .ref 383), (1, .ref Ld1), (2, .int p2), (3, .int p3), (4, .int x1198), (5, .int x1200), (6, .int x1202), (7, .int x1298)]) [0, 1, 2, 3, 4, 5, 6, 7] rfl ?_
                        exact ih1277 x1298 M1295 L1296 (Kp.trans k1283 (Kp.mono k1297 (one_S rfl))) (nn_up (y := (3 : Int32)) h1285 ex1298 n1284) (md_up h1285 ex1298 hm1278)
                exact LP1279 _ 0 M1273 L1274 (Kp.trans (Kp.trans Kp.rf (Kp.mono k1272 (one_S rfl))) (Kp.mono k1275 (one_S rfl))) (by decide) (Nat.lt_succ_self _)
              · refine g_iconst (pc1 := 86) (v := 0) d_Told_lay_85 rfl (by decide) ?_
                refine g_ireturn (Or.inr ⟨rfl, rfl⟩) d_Told_lay_86 rfl ?_
                exact hQ _ _ _ (Or.inl rfl) Kp.rf
            · refine g_aload_n (pc1 := 70) d_Told_lay_69 rfl 1 rfl ?_
              refine g_iload_n (pc1 := 71) d_Told_lay_70 rfl 2 rfl ?_
              refine g_iload (pc1 := 73) d_Told_lay_71 rfl 5 rfl ?_
              refine g_callV0 (pc1 := 76) (As := [.int p2, .int x1200]) (rest := []) d_Told_lay_73 rfl mo_Told_63 mi_Land_inDish mv_Land_inDish rfl (shLa_0 hLd1) (ltLa_0 hLd1) (by decide) rfl rfl (Nat.le_of_ble_eq_true rfl) ?_
              refine t1_Land_inDish hld Ld1 hLd1 _ _ (fun r1299 => ?_)
              refine g_if_eq (pc1 := 79) (tgt := 85) d_Told_lay_76 (by decide) rfl (fun h1300 => ?_) (fun h1300 => ?_)
              · refine g_iconst (pc1 := 86) (v := 0) d_Told_lay_85 rfl (by decide) ?_
                refine g_ireturn (Or.inr ⟨rfl, rfl⟩) d_Told_lay_86 rfl ?_
                exact hQ _ _ _ (Or.inl rfl) Kp.rf
              · refine g_iload (pc1 := 81) d_Told_lay_79 rfl 6 rfl ?_
                refine g_iconst (pc1 := 82) (v := 1) d_Told_lay_81 rfl (by decide) ?_
                refine g_icmp_ge (pc1 := 85) (tgt := 87) d_Told_lay_82 (by decide) rfl (fun h1301 => ?_) (fun h1301 => ?_)
                · refine g_aload_n (pc1 := 88) d_Told_lay_87 rfl 0 rfl ?_
                  refine g_getr (pc1 := 91) d_Told_lay_88 rfl ⟨_, fo_Told_21⟩ sh_383 (by decide) (rf_383_4 ld) ?_
                  refine g_aload_n (pc1 := 92) d_Told_lay_91 rfl 0 rfl ?_
                  refine g_geti (pc1 := 95) d_Told_lay_92 rfl ⟨_, fo_Told_41⟩ sh_383 (by decide) ?_
                  refine g_iload_n (pc1 := 96) d_Told_lay_95 rfl 2 rfl ?_
                  refine g_callS0 (pc1 := 99) (As := [.ref 387, .int (M 383 7), .int p2]) (rest := []) d_Told_lay_96 rfl mo_Told_37 ms_Main_put (by decide) rfl rfl (Nat.le_of_ble_eq_true rfl) ?_
                  refine t1_Main_put hld 387 sh_387 (by decide) (by decide) _ _ (fun  M1302 L1303 k1304 => ?_)
                  refine g_aload_n (pc1 := 100) d_Told_lay_99 rfl 0 rfl ?_
                  refine g_getr (pc1 := 103) d_Told_lay_100 rfl ⟨_, fo_Told_24⟩ sh_383 (by decide) (rf_383_5 ld) ?_
                  refine g_aload_n (pc1 := 104) d_Told_lay_103 rfl 0 rfl ?_
                  refine g_geti (pc1 := 107) d_Told_lay_104 rfl ⟨_, fo_Told_41⟩ sh_383 (by decide) ?_
                  refine g_iload (pc1 := 109) d_Told_lay_107 rfl 6 rfl ?_
                  refine g_callS0 (pc1 := 112) (As := [.ref 388, .int (M1302 383 7), .int x1202]) (rest := []) d_Told_lay_109 rfl mo_Told_37 ms_Main_put (by decide) rfl rfl (Nat.le_of_ble_eq_true rfl) ?_
                  refine t1_Main_put hld 388 sh_388 (by decide) (by decide) _ _ (fun  M1305 L1306 k1307 => ?_)
                  refine g_iconst (pc1 := 113) (v := 0) d_Told_lay_112 rfl (by decide) ?_
                  refine g_istore (pc1 := 115) (lv' := [(0, .ref 383), (1, .ref Ld1), (2, .int p2), (3, .int p3), (4, .int x1198), (5, .int x1200), (6, .int x1202), (7, .int 0)]) d_Told_lay_113 rfl (by decide) [1, 2, 3, 4, 5, 6, 7, 0] rfl ?_
                  have LP1311 : ∀ (f1308 : Nat) (v1312 : Int32) (M1313 : gM) (L1314 : gL), Kp S1 M L M1313 L1314 → ¬ v1312 < 0 → ((3 : Int32).toInt - v1312.toInt).toNat < f1308 → Wp l y_Told_lay (0, 0, 447) 447 0 0 115 [(0, .ref 383), (1, .ref Ld1), (2, .int p2), (3, .int p3), (4, .int x1198), (5, .int x1200), (6, .int x1202), (7, .int v1312)] [] M1313 L1314 (rf ld) Q := by
                    intro f1308
                    induction f1308 with
                    | zero => intro v1312 M1313 L1314 _ _ hm1310; exact absurd hm1310 (Nat.not_lt_zero _)
                    | succ f1308 ih1309 =>
                      intro v1312 M1313 L1314 k1315 n1316 hm1310
                      refine g_iload (pc1 := 117) d_Told_lay_115 rfl 7 rfl ?_
                      refine g_iconst (pc1 := 118) (v := 3) d_Told_lay_117 rfl (by decide) ?_
                      refine g_icmp_ge (pc1 := 121) (tgt := 175) d_Told_lay_118 (by decide) rfl (fun h1317 => ?_) (fun h1317 => ?_)
                      · refine g_iconst (pc1 := 176) (v := 1) d_Told_lay_175 rfl (by decide) ?_
                        refine g_ireturn (Or.inr ⟨rfl, rfl⟩) d_Told_lay_176 rfl ?_
                        exact hQ _ _ _ (Or.inr rfl) k1315
                      · refine g_iload (pc1 := 123) d_Told_lay_121 rfl 4 rfl ?_
                        refine g_if_ne (pc1 := 126) (tgt := 130) d_Told_lay_123 (by decide) rfl (fun h1318 => ?_) (fun h1318 => ?_)
                        · refine g_iload (pc1 := 132) d_Told_lay_130 rfl 4 rfl ?_
                          refine g_aload_n (pc1 := 133) d_Told_lay_132 rfl 1 rfl ?_
                          refine g_iload (pc1 := 135) d_Told_lay_133 rfl 5 rfl ?_
                          refine g_iload (pc1 := 137) d_Told_lay_135 rfl 7 rfl ?_
                          refine g_callV0 (pc1 := 140) (As := [.int x1200, .int v1312]) (rest := [.int x1198]) d_Told_lay_137 rfl mo_Told_67 mi_Land_broughtBy mv_Land_broughtBy rfl (shLa_0 hLd1) (ltLa_0 hLd1) (by decide) rfl rfl (Nat.le_of_ble_eq_true rfl) ?_
                          refine t1_Land_broughtBy hld Ld1 hLd1 _ _ (fun r1319 => ?_)
                          refine g_imul (pc1 := 141) d_Told_lay_140 rfl ?_
                          refine Wp.topi (fun x1320 ex1320 => ?_)
                          refine g_istore (pc1 := 143) (lv' := [(0, .ref 383), (1, .ref Ld1), (2, .int p2), (3, .int p3), (4, .int x1198), (5, .int x1200), (6, .int x1202), (7, .int v1312), (8, .int x1320)]) d_Told_lay_141 rfl (by decide) [1, 2, 3, 4, 5, 6, 7, 8, 0] rfl ?_
                          refine g_aload_n (pc1 := 144) d_Told_lay_143 rfl 0 rfl ?_
                          refine g_getr (pc1 := 147) d_Told_lay_144 rfl ⟨_, fo_Told_27⟩ sh_383 (by decide) (rf_383_6 ld) ?_
                          refine g_aload_n (pc1 := 148) d_Told_lay_147 rfl 0 rfl ?_
                          refine g_geti (pc1 := 151) d_Told_lay_148 rfl ⟨_, fo_Told_41⟩ sh_383 (by decide) ?_
                          refine g_iconst (pc1 := 152) (v := 3) d_Told_lay_151 rfl (by decide) ?_
                          refine g_imul (pc1 := 153) d_Told_lay_152 rfl ?_
                          refine g_iload (pc1 := 155) d_Told_lay_153 rfl 7 rfl ?_
                          refine g_iadd (pc1 := 156) d_Told_lay_155 rfl ?_
                          refine g_aload_n (pc1 := 157) d_Told_lay_156 rfl 1 rfl ?_
                          refine g_iload_n (pc1 := 158) d_Told_lay_157 rfl 2 rfl ?_
                          refine g_iload (pc1 := 160) d_Told_lay_158 rfl 7 rfl ?_
                          refine g_callV0 (pc1 := 163) (As := [.int p2, .int v1312]) (rest := [.int (((M1313 383 7) * 3) + v1312), .ref 389]) d_Told_lay_160 rfl mo_Told_70 mi_Land_sumOf mv_Land_sumOf rfl (shLa_0 hLd1) (ltLa_0 hLd1) (by decide) rfl rfl (Nat.le_of_ble_eq_true rfl) ?_
                          refine t1_Land_sumOf hld Ld1 hLd1 _ _ (fun r1321 => ?_)
                          refine g_iload (pc1 := 165) d_Told_lay_163 rfl 8 rfl ?_
                          refine g_iadd (pc1 := 166) d_Told_lay_165 rfl ?_
                          refine g_callS0 (pc1 := 169) (As := [.ref 389, .int (((M1313 383 7) * 3) + v1312), .int (r1321 + x1320)]) (rest := []) d_Told_lay_166 rfl mo_Told_37 ms_Main_put (by decide) rfl rfl (Nat.le_of_ble_eq_true rfl) ?_
                          refine t1_Main_put hld 389 sh_389 (by decide) (by decide) _ _ (fun  M1322 L1323 k1324 => ?_)
                          obtain ⟨x1325, ex1325⟩ : ∃ y : Int32, y = v1312 + 1 := ⟨_, rfl⟩
                          refine g_iinc (pc1 := 172) (v := x1325) (lv' := [(0, .ref 383), (1, .ref Ld1), (2, .int p2), (3, .int p3), (4, .int x1198), (5, .int x1200), (6, .int x1202), (7, .int x1325), (8, .int x1320)]) d_Told_lay_169 rfl 7 rfl (by rw [ex1325]; rfl) (by decide) [1, 2, 3, 4, 5, 6, 7, 0, 8] rfl ?_
                          refine g_goto (tgt := 115) d_Told_lay_172 (by decide) ?_
                          refine Wp.loc (lv' := [(0, .ref 383), (1, .ref Ld1), (2, .int p2), (3, .int p3), (4, .int x1198), (5, .int x1200), (6, .int x1202), (7, .int x1325)]) [0, 1, 2, 3, 4, 5, 6, 7] rfl ?_
                          exact ih1309 x1325 M1322 L1323 (Kp.trans k1315 (Kp.mono k1324 (one_S rfl))) (nn_up (y := (3 : Int32)) h1317 ex1325 n1316) (md_up h1317 ex1325 hm1310)
                        · refine g_iconst (pc1 := 127) (v := 0) d_Told_lay_126 rfl (by decide) ?_
                          refine g_goto (tgt := 141) d_Told_lay_127 (by decide) ?_
                          refine g_istore (pc1 := 143) (lv' := [(0, .ref 383), (1, .ref Ld1), (2, .int p2), (3, .int p3), (4, .int x1198), (5, .int x1200), (6, .int x1202), (7, .int v1312), (8, .int 0)]) d_Told_lay_141 rfl (by decide) [1, 2, 3, 4, 5, 6, 7, 8, 0] rfl ?_
                          refine g_aload_n (pc1 := 144) d_Told_lay_143 rfl 0 rfl ?_
                          refine g_getr (pc1 := 147) d_Told_lay_144 rfl ⟨_, fo_Told_27⟩ sh_383 (by decide) (rf_383_6 ld) ?_
                          refine g_aload_n (pc1 := 148) d_Told_lay_147 rfl 0 rfl ?_
                          refine g_geti (pc1 := 151) d_Told_lay_148 rfl ⟨_, fo_Told_41⟩ sh_383 (by decide) ?_
                          refine g_iconst (pc1 := 152) (v := 3) d_Told_lay_151 rfl (by decide) ?_
                          refine g_imul (pc1 := 153) d_Told_lay_152 rfl ?_
                          refine g_iload (pc1 := 155) d_Told_lay_153 rfl 7 rfl ?_
                          refine g_iadd (pc1 := 156) d_Told_lay_155 rfl ?_
                          refine g_aload_n (pc1 := 157) d_Told_lay_156 rfl 1 rfl ?_
                          refine g_iload_n (pc1 := 158) d_Told_lay_157 rfl 2 rfl ?_
                          refine g_iload (pc1 := 160) d_Told_lay_158 rfl 7 rfl ?_
                          refine g_callV0 (pc1 := 163) (As := [.int p2, .int v1312]) (rest := [.int (((M1313 383 7) * 3) + v1312), .ref 389]) d_Told_lay_160 rfl mo_Told_70 mi_Land_sumOf mv_Land_sumOf rfl (shLa_0 hLd1) (ltLa_0 hLd1) (by decide) rfl rfl (Nat.le_of_ble_eq_true rfl) ?_
                          refine t1_Land_sumOf hld Ld1 hLd1 _ _ (fun r1326 => ?_)
                          refine g_iload (pc1 := 165) d_Told_lay_163 rfl 8 rfl ?_
                          refine g_iadd (pc1 := 166) d_Told_lay_165 rfl ?_
                          refine g_callS0 (pc1 := 169) (As := [.ref 389, .int (((M1313 383 7) * 3) + v1312), .int (r1326 + 0)]) (rest := []) d_Told_lay_166 rfl mo_Told_37 ms_Main_put (by decide) rfl rfl (Nat.le_of_ble_eq_true rfl) ?_
                          refine t1_Main_put hld 389 sh_389 (by decide) (by decide) _ _ (fun  M1327 L1328 k1329 => ?_)
                          obtain ⟨x1330, ex1330⟩ : ∃ y : Int32, y = v1312 + 1 := ⟨_, rfl⟩
                          refine g_iinc (pc1 := 172) (v := x1330) (lv' := [(0, .ref 383), (1, .ref Ld1), (2, .int p2), (3, .int p3), (4, .int x1198), (5, .int x1200), (6, .int x1202), (7, .int x1330), (8, .int 0)]) d_Told_lay_169 rfl 7 rfl (by rw [ex1330]; rfl) (by decide) [1, 2, 3, 4, 5, 6, 7, 0, 8] rfl ?_
                          refine g_goto (tgt := 115) d_Told_lay_172 (by decide) ?_
                          refine Wp.loc (lv' := [(0, .ref 383), (1, .ref Ld1), (2, .int p2), (3, .int p3), (4, .int x1198), (5, .int x1200), (6, .int x1202), (7, .int x1330)]) [0, 1, 2, 3, 4, 5, 6, 7] rfl ?_
                          exact ih1309 x1330 M1327 L1328 (Kp.trans k1315 (Kp.mono k1329 (one_S rfl))) (nn_up (y := (3 : Int32)) h1317 ex1330 n1316) (md_up h1317 ex1330 hm1310)
                  exact LP1311 _ 0 M1305 L1306 (Kp.trans (Kp.trans Kp.rf (Kp.mono k1304 (one_S rfl))) (Kp.mono k1307 (one_S rfl))) (by decide) (Nat.lt_succ_self _)
                · refine g_iconst (pc1 := 86) (v := 0) d_Told_lay_85 rfl (by decide) ?_
                  refine g_ireturn (Or.inr ⟨rfl, rfl⟩) d_Told_lay_86 rfl ?_
                  exact hQ _ _ _ (Or.inl rfl) Kp.rf
      · refine g_iload_n (pc1 := 27) d_Told_lay_26 rfl 3 rfl ?_
        refine g_iconst (pc1 := 28) (v := 1) d_Told_lay_27 rfl (by decide) ?_
        refine g_isub (pc1 := 29) d_Told_lay_28 rfl ?_
        refine g_goto (tgt := 38) d_Told_lay_29 (by decide) ?_
        refine Wp.topi (fun x1331 ex1331 => ?_)
        refine g_istore (pc1 := 40) (lv' := [(0, .ref 383), (1, .ref Ld1), (2, .int p2), (3, .int p3), (4, .int x1198), (5, .int x1331)]) d_Told_lay_38 rfl (by decide) [1, 2, 3, 4, 5, 0] rfl ?_
        refine g_aload_n (pc1 := 41) d_Told_lay_40 rfl 1 rfl ?_
        refine g_iload_n (pc1 := 42) d_Told_lay_41 rfl 2 rfl ?_
        refine g_callV0 (pc1 := 45) (As := [.int p2]) (rest := []) d_Told_lay_42 rfl mo_Told_56 mi_Land_manyIn mv_Land_manyIn rfl (shLa_0 hLd1) (ltLa_0 hLd1) (by decide) rfl rfl (Nat.le_of_ble_eq_true rfl) ?_
        refine t1_Land_manyIn hld Ld1 hLd1 _ (fun r1332 => ?_)
        refine g_iload (pc1 := 47) d_Told_lay_45 rfl 4 rfl ?_
        refine g_iadd (pc1 := 48) d_Told_lay_47 rfl ?_
        refine Wp.topi (fun x1333 ex1333 => ?_)
        refine g_istore (pc1 := 50) (lv' := [(0, .ref 383), (1, .ref Ld1), (2, .int p2), (3, .int p3), (4, .int x1198), (5, .int x1331), (6, .int x1333)]) d_Told_lay_48 rfl (by decide) [1, 2, 3, 4, 5, 6, 0] rfl ?_
        refine g_iload (pc1 := 52) d_Told_lay_50 rfl 4 rfl ?_
        refine g_if_eq (pc1 := 55) (tgt := 64) d_Told_lay_52 (by decide) rfl (fun h1334 => ?_) (fun h1334 => ?_)
        · refine g_iload (pc1 := 66) d_Told_lay_64 rfl 4 rfl ?_
          refine g_if_ge (pc1 := 69) (tgt := 79) d_Told_lay_66 (by decide) rfl (fun h1335 => ?_) (fun h1335 => ?_)
          · refine g_iload (pc1 := 81) d_Told_lay_79 rfl 6 rfl ?_
            refine g_iconst (pc1 := 82) (v := 1) d_Told_lay_81 rfl (by decide) ?_
            refine g_icmp_ge (pc1 := 85) (tgt := 87) d_Told_lay_82 (by decide) rfl (fun h1336 => ?_) (fun h1336 => ?_)
            · refine g_aload_n (pc1 := 88) d_Told_lay_87 rfl 0 rfl ?_
              refine g_getr (pc1 := 91) d_Told_lay_88 rfl ⟨_, fo_Told_21⟩ sh_383 (by decide) (rf_383_4 ld) ?_
              refine g_aload_n (pc1 := 92) d_Told_lay_91 rfl 0 rfl ?_
              refine g_geti (pc1 := 95) d_Told_lay_92 rfl ⟨_, fo_Told_41⟩ sh_383 (by decide) ?_
              refine g_iload_n (pc1 := 96) d_Told_lay_95 rfl 2 rfl ?_
              refine g_callS0 (pc1 := 99) (As := [.ref 387, .int (M 383 7), .int p2]) (rest := []) d_Told_lay_96 rfl mo_Told_37 ms_Main_put (by decide) rfl rfl (Nat.le_of_ble_eq_true rfl) ?_
              refine t1_Main_put hld 387 sh_387 (by decide) (by decide) _ _ (fun  M1337 L1338 k1339 => ?_)
              refine g_aload_n (pc1 := 100) d_Told_lay_99 rfl 0 rfl ?_
              refine g_getr (pc1 := 103) d_Told_lay_100 rfl ⟨_, fo_Told_24⟩ sh_383 (by decide) (rf_383_5 ld) ?_
              refine g_aload_n (pc1 := 104) d_Told_lay_103 rfl 0 rfl ?_
              refine g_geti (pc1 := 107) d_Told_lay_104 rfl ⟨_, fo_Told_41⟩ sh_383 (by decide) ?_
              refine g_iload (pc1 := 109) d_Told_lay_107 rfl 6 rfl ?_
              refine g_callS0 (pc1 := 112) (As := [.ref 388, .int (M1337 383 7), .int x1333]) (rest := []) d_Told_lay_109 rfl mo_Told_37 ms_Main_put (by decide) rfl rfl (Nat.le_of_ble_eq_true rfl) ?_
              refine t1_Main_put hld 388 sh_388 (by decide) (by decide) _ _ (fun  M1340 L1341 k1342 => ?_)
              refine g_iconst (pc1 := 113) (v := 0) d_Told_lay_112 rfl (by decide) ?_
              refine g_istore (pc1 := 115) (lv' := [(0, .ref 383), (1, .ref Ld1), (2, .int p2), (3, .int p3), (4, .int x1198), (5, .int x1331), (6, .int x1333), (7, .int 0)]) d_Told_lay_113 rfl (by decide) [1, 2, 3, 4, 5, 6, 7, 0] rfl ?_
              have LP1346 : ∀ (f1343 : Nat) (v1347 : Int32) (M1348 : gM) (L1349 : gL), Kp S1 M L M1348 L1349 → ¬ v1347 < 0 → ((3 : Int32).toInt - v1347.toInt).toNat < f1343 → Wp l y_Told_lay (0, 0, 447) 447 0 0 115 [(0, .ref 383), (1, .ref Ld1), (2, .int p2), (3, .int p3), (4, .int x1198), (5, .int x1331), (6, .int x1333), (7, .int v1347)] [] M1348 L1349 (rf ld) Q := by
                intro f1343
                induction f1343 with
                | zero => intro v1347 M1348 L1349 _ _ hm1345; exact absurd hm1345 (Nat.not_lt_zero _)
                | succ f1343 ih1344 =>
                  intro v1347 M1348 L1349 k1350 n1351 hm1345
                  refine g_iload (pc1 := 117) d_Told_lay_115 rfl 7 rfl ?_
                  refine g_iconst (pc1 := 118) (v := 3) d_Told_lay_117 rfl (by decide) ?_
                  refine g_icmp_ge (pc1 := 121) (tgt := 175) d_Told_lay_118 (by decide) rfl (fun h1352 => ?_) (fun h1352 => ?_)
                  · refine g_iconst (pc1 := 176) (v := 1) d_Told_lay_175 rfl (by decide) ?_
                    refine g_ireturn (Or.inr ⟨rfl, rfl⟩) d_Told_lay_176 rfl ?_
                    exact hQ _ _ _ (Or.inr rfl) k1350
                  · refine g_iload (pc1 := 123) d_Told_lay_121 rfl 4 rfl ?_
                    refine g_if_ne (pc1 := 126) (tgt := 130) d_Told_lay_123 (by decide) rfl (fun h1353 => ?_) (fun h1353 => ?_)
                    · refine g_iload (pc1 := 132) d_Told_lay_130 rfl 4 rfl ?_
                      refine g_aload_n (pc1 := 133) d_Told_lay_132 rfl 1 rfl ?_
                      refine g_iload (pc1 := 135) d_Told_lay_133 rfl 5 rfl ?_
                      refine g_iload (pc1 := 137) d_Told_lay_135 rfl 7 rfl ?_
                      refine g_callV0 (pc1 := 140) (As := [.int x1331, .int v1347]) (rest := [.int x1198]) d_Told_lay_137 rfl mo_Told_67 mi_Land_broughtBy mv_Land_broughtBy rfl (shLa_0 hLd1) (ltLa_0 hLd1) (by decide) rfl rfl (Nat.le_of_ble_eq_true rfl) ?_
                      refine t1_Land_broughtBy hld Ld1 hLd1 _ _ (fun r1354 => ?_)
                      refine g_imul (pc1 := 141) d_Told_lay_140 rfl ?_
                      refine Wp.topi (fun x1355 ex1355 => ?_)
                      refine g_istore (pc1 := 143) (lv' := [(0, .ref 383), (1, .ref Ld1), (2, .int p2), (3, .int p3), (4, .int x1198), (5, .int x1331), (6, .int x1333), (7, .int v1347), (8, .int x1355)]) d_Told_lay_141 rfl (by decide) [1, 2, 3, 4, 5, 6, 7, 8, 0] rfl ?_
                      refine g_aload_n (pc1 := 144) d_Told_lay_143 rfl 0 rfl ?_
                      refine g_getr (pc1 := 147) d_Told_lay_144 rfl ⟨_, fo_Told_27⟩ sh_383 (by decide) (rf_383_6 ld) ?_
                      refine g_aload_n (pc1 := 148) d_Told_lay_147 rfl 0 rfl ?_
                      refine g_geti (pc1 := 151) d_Told_lay_148 rfl ⟨_, fo_Told_41⟩ sh_383 (by decide) ?_
                      refine g_iconst (pc1 := 152) (v := 3) d_Told_lay_151 rfl (by decide) ?_
                      refine g_imul (pc1 := 153) d_Told_lay_152 rfl ?_
                      refine g_iload (pc1 := 155) d_Told_lay_153 rfl 7 rfl ?_
                      refine g_iadd (pc1 := 156) d_Told_lay_155 rfl ?_
                      refine g_aload_n (pc1 := 157) d_Told_lay_156 rfl 1 rfl ?_
                      refine g_iload_n (pc1 := 158) d_Told_lay_157 rfl 2 rfl ?_
                      refine g_iload (pc1 := 160) d_Told_lay_158 rfl 7 rfl ?_
                      refine g_callV0 (pc1 := 163) (As := [.int p2, .int v1347]) (rest := [.int (((M1348 383 7) * 3) + v1347), .ref 389]) d_Told_lay_160 rfl mo_Told_70 mi_Land_sumOf mv_Land_sumOf rfl (shLa_0 hLd1) (ltLa_0 hLd1) (by decide) rfl rfl (Nat.le_of_ble_eq_true rfl) ?_
                      refine t1_Land_sumOf hld Ld1 hLd1 _ _ (fun r1356 => ?_)
                      refine g_iload (pc1 := 165) d_Told_lay_163 rfl 8 rfl ?_
                      refine g_iadd (pc1 := 166) d_Told_lay_165 rfl ?_
                      refine g_callS0 (pc1 := 169) (As := [.ref 389, .int (((M1348 383 7) * 3) + v1347), .int (r1356 + x1355)]) (rest := []) d_Told_lay_166 rfl mo_Told_37 ms_Main_put (by decide) rfl rfl (Nat.le_of_ble_eq_true rfl) ?_
                      refine t1_Main_put hld 389 sh_389 (by decide) (by decide) _ _ (fun  M1357 L1358 k1359 => ?_)
                      obtain ⟨x1360, ex1360⟩ : ∃ y : Int32, y = v1347 + 1 := ⟨_, rfl⟩
                      refine g_iinc (pc1 := 172) (v := x1360) (lv' := [(0, .ref 383), (1, .ref Ld1), (2, .int p2), (3, .int p3), (4, .int x1198), (5, .int x1331), (6, .int x1333), (7, .int x1360), (8, .int x1355)]) d_Told_lay_169 rfl 7 rfl (by rw [ex1360]; rfl) (by decide) [1, 2, 3, 4, 5, 6, 7, 0, 8] rfl ?_
                      refine g_goto (tgt := 115) d_Told_lay_172 (by decide) ?_
                      refine Wp.loc (lv' := [(0, .ref 383), (1, .ref Ld1), (2, .int p2), (3, .int p3), (4, .int x1198), (5, .int x1331), (6, .int x1333), (7, .int x1360)]) [0, 1, 2, 3, 4, 5, 6, 7] rfl ?_
                      exact ih1344 x1360 M1357 L1358 (Kp.trans k1350 (Kp.mono k1359 (one_S rfl))) (nn_up (y := (3 : Int32)) h1352 ex1360 n1351) (md_up h1352 ex1360 hm1345)
                    · refine g_iconst (pc1 := 127) (v := 0) d_Told_lay_126 rfl (by decide) ?_
                      refine g_goto (tgt := 141) d_Told_lay_127 (by decide) ?_
                      refine g_istore (pc1 := 143) (lv' := [(0, .ref 383), (1, .ref Ld1), (2, .int p2), (3, .int p3), (4, .int x1198), (5, .int x1331), (6, .int x1333), (7, .int v1347), (8, .int 0)]) d_Told_lay_141 rfl (by decide) [1, 2, 3, 4, 5, 6, 7, 8, 0] rfl ?_
                      refine g_aload_n (pc1 := 144) d_Told_lay_143 rfl 0 rfl ?_
                      refine g_getr (pc1 := 147) d_Told_lay_144 rfl ⟨_, fo_Told_27⟩ sh_383 (by decide) (rf_383_6 ld) ?_
                      refine g_aload_n (pc1 := 148) d_Told_lay_147 rfl 0 rfl ?_
                      refine g_geti (pc1 := 151) d_Told_lay_148 rfl ⟨_, fo_Told_41⟩ sh_383 (by decide) ?_
                      refine g_iconst (pc1 := 152) (v := 3) d_Told_lay_151 rfl (by decide) ?_
                      refine g_imul (pc1 := 153) d_Told_lay_152 rfl ?_
                      refine g_iload (pc1 := 155) d_Told_lay_153 rfl 7 rfl ?_
                      refine g_iadd (pc1 := 156) d_Told_lay_155 rfl ?_
                      refine g_aload_n (pc1 := 157) d_Told_lay_156 rfl 1 rfl ?_
                      refine g_iload_n (pc1 := 158) d_Told_lay_157 rfl 2 rfl ?_
                      refine g_iload (pc1 := 160) d_Told_lay_158 rfl 7 rfl ?_
                      refine g_callV0 (pc1 := 163) (As := [.int p2, .int v1347]) (rest := [.int (((M1348 383 7) * 3) + v1347), .ref 389]) d_Told_lay_160 rfl mo_Told_70 mi_Land_sumOf mv_Land_sumOf rfl (shLa_0 hLd1) (ltLa_0 hLd1) (by decide) rfl rfl (Nat.le_of_ble_eq_true rfl) ?_
                      refine t1_Land_sumOf hld Ld1 hLd1 _ _ (fun r1361 => ?_)
                      refine g_iload (pc1 := 165) d_Told_lay_163 rfl 8 rfl ?_
                      refine g_iadd (pc1 := 166) d_Told_lay_165 rfl ?_
                      refine g_callS0 (pc1 := 169) (As := [.ref 389, .int (((M1348 383 7) * 3) + v1347), .int (r1361 + 0)]) (rest := []) d_Told_lay_166 rfl mo_Told_37 ms_Main_put (by decide) rfl rfl (Nat.le_of_ble_eq_true rfl) ?_
                      refine t1_Main_put hld 389 sh_389 (by decide) (by decide) _ _ (fun  M1362 L1363 k1364 => ?_)
                      obtain ⟨x1365, ex1365⟩ : ∃ y : Int32, y = v1347 + 1 := ⟨_, rfl⟩
                      refine g_iinc (pc1 := 172) (v := x1365) (lv' := [(0, .ref 383), (1, .ref Ld1), (2, .int p2), (3, .int p3), (4, .int x1198), (5, .int x1331), (6, .int x1333), (7, .int x1365), (8, .int 0)]) d_Told_lay_169 rfl 7 rfl (by rw [ex1365]; rfl) (by decide) [1, 2, 3, 4, 5, 6, 7, 0, 8] rfl ?_
                      refine g_goto (tgt := 115) d_Told_lay_172 (by decide) ?_
                      refine Wp.loc (lv' := [(0, .ref 383), (1, .ref Ld1), (2, .int p2), (3, .int p3), (4, .int x1198), (5, .int x1331), (6, .int x1333), (7, .int x1365)]) [0, 1, 2, 3, 4, 5, 6, 7] rfl ?_
                      exact ih1344 x1365 M1362 L1363 (Kp.trans k1350 (Kp.mono k1364 (one_S rfl))) (nn_up (y := (3 : Int32)) h1352 ex1365 n1351) (md_up h1352 ex1365 hm1345)
              exact LP1346 _ 0 M1340 L1341 (Kp.trans (Kp.trans Kp.rf (Kp.mono k1339 (one_S rfl))) (Kp.mono k1342 (one_S rfl))) (by decide) (Nat.lt_succ_self _)
            · refine g_iconst (pc1 := 86) (v := 0) d_Told_lay_85 rfl (by decide) ?_
              refine g_ireturn (Or.inr ⟨rfl, rfl⟩) d_Told_lay_86 rfl ?_
              exact hQ _ _ _ (Or.inl rfl) Kp.rf
          · refine g_aload_n (pc1 := 70) d_Told_lay_69 rfl 1 rfl ?_
            refine g_iload_n (pc1 := 71) d_Told_lay_70 rfl 2 rfl ?_
            refine g_iload (pc1 := 73) d_Told_lay_71 rfl 5 rfl ?_
            refine g_callV0 (pc1 := 76) (As := [.int p2, .int x1331]) (rest := []) d_Told_lay_73 rfl mo_Told_63 mi_Land_inDish mv_Land_inDish rfl (shLa_0 hLd1) (ltLa_0 hLd1) (by decide) rfl rfl (Nat.le_of_ble_eq_true rfl) ?_
            refine t1_Land_inDish hld Ld1 hLd1 _ _ (fun r1366 => ?_)
            refine g_if_eq (pc1 := 79) (tgt := 85) d_Told_lay_76 (by decide) rfl (fun h1367 => ?_) (fun h1367 => ?_)
            · refine g_iconst (pc1 := 86) (v := 0) d_Told_lay_85 rfl (by decide) ?_
              refine g_ireturn (Or.inr ⟨rfl, rfl⟩) d_Told_lay_86 rfl ?_
              exact hQ _ _ _ (Or.inl rfl) Kp.rf
            · refine g_iload (pc1 := 81) d_Told_lay_79 rfl 6 rfl ?_
              refine g_iconst (pc1 := 82) (v := 1) d_Told_lay_81 rfl (by decide) ?_
              refine g_icmp_ge (pc1 := 85) (tgt := 87) d_Told_lay_82 (by decide) rfl (fun h1368 => ?_) (fun h1368 => ?_)
              · refine g_aload_n (pc1 := 88) d_Told_lay_87 rfl 0 rfl ?_
                refine g_getr (pc1 := 91) d_Told_lay_88 rfl ⟨_, fo_Told_21⟩ sh_383 (by decide) (rf_383_4 ld) ?_
                refine g_aload_n (pc1 := 92) d_Told_lay_91 rfl 0 rfl ?_
                refine g_geti (pc1 := 95) d_Told_lay_92 rfl ⟨_, fo_Told_41⟩ sh_383 (by decide) ?_
                refine g_iload_n (pc1 := 96) d_Told_lay_95 rfl 2 rfl ?_
                refine g_callS0 (pc1 := 99) (As := [.ref 387, .int (M 383 7), .int p2]) (rest := []) d_Told_lay_96 rfl mo_Told_37 ms_Main_put (by decide) rfl rfl (Nat.le_of_ble_eq_true rfl) ?_
                refine t1_Main_put hld 387 sh_387 (by decide) (by decide) _ _ (fun  M1369 L1370 k1371 => ?_)
                refine g_aload_n (pc1 := 100) d_Told_lay_99 rfl 0 rfl ?_
                refine g_getr (pc1 := 103) d_Told_lay_100 rfl ⟨_, fo_Told_24⟩ sh_383 (by decide) (rf_383_5 ld) ?_
                refine g_aload_n (pc1 := 104) d_Told_lay_103 rfl 0 rfl ?_
                refine g_geti (pc1 := 107) d_Told_lay_104 rfl ⟨_, fo_Told_41⟩ sh_383 (by decide) ?_
                refine g_iload (pc1 := 109) d_Told_lay_107 rfl 6 rfl ?_
                refine g_callS0 (pc1 := 112) (As := [.ref 388, .int (M1369 383 7), .int x1333]) (rest := []) d_Told_lay_109 rfl mo_Told_37 ms_Main_put (by decide) rfl rfl (Nat.le_of_ble_eq_true rfl) ?_
                refine t1_Main_put hld 388 sh_388 (by decide) (by decide) _ _ (fun  M1372 L1373 k1374 => ?_)
                refine g_iconst (pc1 := 113) (v := 0) d_Told_lay_112 rfl (by decide) ?_
                refine g_istore (pc1 := 115) (lv' := [(0, .ref 383), (1, .ref Ld1), (2, .int p2), (3, .int p3), (4, .int x1198), (5, .int x1331), (6, .int x1333), (7, .int 0)]) d_Told_lay_113 rfl (by decide) [1, 2, 3, 4, 5, 6, 7, 0] rfl ?_
                have LP1378 : ∀ (f1375 : Nat) (v1379 : Int32) (M1380 : gM) (L1381 : gL), Kp S1 M L M1380 L1381 → ¬ v1379 < 0 → ((3 : Int32).toInt - v1379.toInt).toNat < f1375 → Wp l y_Told_lay (0, 0, 447) 447 0 0 115 [(0, .ref 383), (1, .ref Ld1), (2, .int p2), (3, .int p3), (4, .int x1198), (5, .int x1331), (6, .int x1333), (7, .int v1379)] [] M1380 L1381 (rf ld) Q := by
                  intro f1375
                  induction f1375 with
                  | zero => intro v1379 M1380 L1381 _ _ hm1377; exact absurd hm1377 (Nat.not_lt_zero _)
                  | succ f1375 ih1376 =>
                    intro v1379 M1380 L1381 k1382 n1383 hm1377
                    refine g_iload (pc1 := 117) d_Told_lay_115 rfl 7 rfl ?_
                    refine g_iconst (pc1 := 118) (v := 3) d_Told_lay_117 rfl (by decide) ?_
                    refine g_icmp_ge (pc1 := 121) (tgt := 175) d_Told_lay_118 (by decide) rfl (fun h1384 => ?_) (fun h1384 => ?_)
                    · refine g_iconst (pc1 := 176) (v := 1) d_Told_lay_175 rfl (by decide) ?_
                      refine g_ireturn (Or.inr ⟨rfl, rfl⟩) d_Told_lay_176 rfl ?_
                      exact hQ _ _ _ (Or.inr rfl) k1382
                    · refine g_iload (pc1 := 123) d_Told_lay_121 rfl 4 rfl ?_
                      refine g_if_ne (pc1 := 126) (tgt := 130) d_Told_lay_123 (by decide) rfl (fun h1385 => ?_) (fun h1385 => ?_)
                      · refine g_iload (pc1 := 132) d_Told_lay_130 rfl 4 rfl ?_
                        refine g_aload_n (pc1 := 133) d_Told_lay_132 rfl 1 rfl ?_
                        refine g_iload (pc1 := 135) d_Told_lay_133 rfl 5 rfl ?_
                        refine g_iload (pc1 := 137) d_Told_lay_135 rfl 7 rfl ?_
                        refine g_callV0 (pc1 := 140) (As := [.int x1331, .int v1379]) (rest := [.int x1198]) d_Told_lay_137 rfl mo_Told_67 mi_Land_broughtBy mv_Land_broughtBy rfl (shLa_0 hLd1) (ltLa_0 hLd1) (by decide) rfl rfl (Nat.le_of_ble_eq_true rfl) ?_
                        refine t1_Land_broughtBy hld Ld1 hLd1 _ _ (fun r1386 => ?_)
                        refine g_imul (pc1 := 141) d_Told_lay_140 rfl ?_
                        refine Wp.topi (fun x1387 ex1387 => ?_)
                        refine g_istore (pc1 := 143) (lv' := [(0, .ref 383), (1, .ref Ld1), (2, .int p2), (3, .int p3), (4, .int x1198), (5, .int x1331), (6, .int x1333), (7, .int v1379), (8, .int x1387)]) d_Told_lay_141 rfl (by decide) [1, 2, 3, 4, 5, 6, 7, 8, 0] rfl ?_
                        refine g_aload_n (pc1 := 144) d_Told_lay_143 rfl 0 rfl ?_
                        refine g_getr (pc1 := 147) d_Told_lay_144 rfl ⟨_, fo_Told_27⟩ sh_383 (by decide) (rf_383_6 ld) ?_
                        refine g_aload_n (pc1 := 148) d_Told_lay_147 rfl 0 rfl ?_
                        refine g_geti (pc1 := 151) d_Told_lay_148 rfl ⟨_, fo_Told_41⟩ sh_383 (by decide) ?_
                        refine g_iconst (pc1 := 152) (v := 3) d_Told_lay_151 rfl (by decide) ?_
                        refine g_imul (pc1 := 153) d_Told_lay_152 rfl ?_
                        refine g_iload (pc1 := 155) d_Told_lay_153 rfl 7 rfl ?_
                        refine g_iadd (pc1 := 156) d_Told_lay_155 rfl ?_
                        refine g_aload_n (pc1 := 157) d_Told_lay_156 rfl 1 rfl ?_
                        refine g_iload_n (pc1 := 158) d_Told_lay_157 rfl 2 rfl ?_
                        refine g_iload (pc1 := 160) d_Told_lay_158 rfl 7 rfl ?_
                        refine g_callV0 (pc1 := 163) (As := [.int p2, .int v1379]) (rest := [.int (((M1380 383 7) * 3) + v1379), .ref 389]) d_Told_lay_160 rfl mo_Told_70 mi_Land_sumOf mv_Land_sumOf rfl (shLa_0 hLd1) (ltLa_0 hLd1) (by decide) rfl rfl (Nat.le_of_ble_eq_true rfl) ?_
                        refine t1_Land_sumOf hld Ld1 hLd1 _ _ (fun r1388 => ?_)
                        refine g_iload (pc1 := 165) d_Told_lay_163 rfl 8 rfl ?_
                        refine g_iadd (pc1 := 166) d_Told_lay_165 rfl ?_
                        refine g_callS0 (pc1 := 169) (As := [.ref 389, .int (((M1380 383 7) * 3) + v1379), .int (r1388 + x1387)]) (rest := []) d_Told_lay_166 rfl mo_Told_37 ms_Main_put (by decide) rfl rfl (Nat.le_of_ble_eq_true rfl) ?_
                        refine t1_Main_put hld 389 sh_389 (by decide) (by decide) _ _ (fun  M1389 L1390 k1391 => ?_)
                        obtain ⟨x1392, ex1392⟩ : ∃ y : Int32, y = v1379 + 1 := ⟨_, rfl⟩
                        refine g_iinc (pc1 := 172) (v := x1392) (lv' := [(0, .ref 383), (1, .ref Ld1), (2, .int p2), (3, .int p3), (4, .int x1198), (5, .int x1331), (6, .int x1333), (7, .int x1392), (8, .int x1387)]) d_Told_lay_169 rfl 7 rfl (by rw [ex1392]; rfl) (by decide) [1, 2, 3, 4, 5, 6, 7, 0, 8] rfl ?_
                        refine g_goto (tgt := 115) d_Told_lay_172 (by decide) ?_
                        refine Wp.loc (lv' := [(0, .ref 383), (1, .ref Ld1), (2, .int p2), (3, .int p3), (4, .int x1198), (5, .int x1331), (6, .int x1333), (7, .int x1392)]) [0, 1, 2, 3, 4, 5, 6, 7] rfl ?_
                        exact ih1376 x1392 M1389 L1390 (Kp.trans k1382 (Kp.mono k1391 (one_S rfl))) (nn_up (y := (3 : Int32)) h1384 ex1392 n1383) (md_up h1384 ex1392 hm1377)
                      · refine g_iconst (pc1 := 127) (v := 0) d_Told_lay_126 rfl (by decide) ?_
                        refine g_goto (tgt := 141) d_Told_lay_127 (by decide) ?_
                        refine g_istore (pc1 := 143) (lv' := [(0, .ref 383), (1, .ref Ld1), (2, .int p2), (3, .int p3), (4, .int x1198), (5, .int x1331), (6, .int x1333), (7, .int v1379), (8, .int 0)]) d_Told_lay_141 rfl (by decide) [1, 2, 3, 4, 5, 6, 7, 8, 0] rfl ?_
                        refine g_aload_n (pc1 := 144) d_Told_lay_143 rfl 0 rfl ?_
                        refine g_getr (pc1 := 147) d_Told_lay_144 rfl ⟨_, fo_Told_27⟩ sh_383 (by decide) (rf_383_6 ld) ?_
                        refine g_aload_n (pc1 := 148) d_Told_lay_147 rfl 0 rfl ?_
                        refine g_geti (pc1 := 151) d_Told_lay_148 rfl ⟨_, fo_Told_41⟩ sh_383 (by decide) ?_
                        refine g_iconst (pc1 := 152) (v := 3) d_Told_lay_151 rfl (by decide) ?_
                        refine g_imul (pc1 := 153) d_Told_lay_152 rfl ?_
                        refine g_iload (pc1 := 155) d_Told_lay_153 rfl 7 rfl ?_
                        refine g_iadd (pc1 := 156) d_Told_lay_155 rfl ?_
                        refine g_aload_n (pc1 := 157) d_Told_lay_156 rfl 1 rfl ?_
                        refine g_iload_n (pc1 := 158) d_Told_lay_157 rfl 2 rfl ?_
                        refine g_iload (pc1 := 160) d_Told_lay_158 rfl 7 rfl ?_
                        refine g_callV0 (pc1 := 163) (As := [.int p2, .int v1379]) (rest := [.int (((M1380 383 7) * 3) + v1379), .ref 389]) d_Told_lay_160 rfl mo_Told_70 mi_Land_sumOf mv_Land_sumOf rfl (shLa_0 hLd1) (ltLa_0 hLd1) (by decide) rfl rfl (Nat.le_of_ble_eq_true rfl) ?_
                        refine t1_Land_sumOf hld Ld1 hLd1 _ _ (fun r1393 => ?_)
                        refine g_iload (pc1 := 165) d_Told_lay_163 rfl 8 rfl ?_
                        refine g_iadd (pc1 := 166) d_Told_lay_165 rfl ?_
                        refine g_callS0 (pc1 := 169) (As := [.ref 389, .int (((M1380 383 7) * 3) + v1379), .int (r1393 + 0)]) (rest := []) d_Told_lay_166 rfl mo_Told_37 ms_Main_put (by decide) rfl rfl (Nat.le_of_ble_eq_true rfl) ?_
                        refine t1_Main_put hld 389 sh_389 (by decide) (by decide) _ _ (fun  M1394 L1395 k1396 => ?_)
                        obtain ⟨x1397, ex1397⟩ : ∃ y : Int32, y = v1379 + 1 := ⟨_, rfl⟩
                        refine g_iinc (pc1 := 172) (v := x1397) (lv' := [(0, .ref 383), (1, .ref Ld1), (2, .int p2), (3, .int p3), (4, .int x1198), (5, .int x1331), (6, .int x1333), (7, .int x1397), (8, .int 0)]) d_Told_lay_169 rfl 7 rfl (by rw [ex1397]; rfl) (by decide) [1, 2, 3, 4, 5, 6, 7, 0, 8] rfl ?_
                        refine g_goto (tgt := 115) d_Told_lay_172 (by decide) ?_
                        refine Wp.loc (lv' := [(0, .ref 383), (1, .ref Ld1), (2, .int p2), (3, .int p3), (4, .int x1198), (5, .int x1331), (6, .int x1333), (7, .int x1397)]) [0, 1, 2, 3, 4, 5, 6, 7] rfl ?_
                        exact ih1376 x1397 M1394 L1395 (Kp.trans k1382 (Kp.mono k1396 (one_S rfl))) (nn_up (y := (3 : Int32)) h1384 ex1397 n1383) (md_up h1384 ex1397 hm1377)
                exact LP1378 _ 0 M1372 L1373 (Kp.trans (Kp.trans Kp.rf (Kp.mono k1371 (one_S rfl))) (Kp.mono k1374 (one_S rfl))) (by decide) (Nat.lt_succ_self _)
              · refine g_iconst (pc1 := 86) (v := 0) d_Told_lay_85 rfl (by decide) ?_
                refine g_ireturn (Or.inr ⟨rfl, rfl⟩) d_Told_lay_86 rfl ?_
                exact hQ _ _ _ (Or.inl rfl) Kp.rf
        · refine g_iload (pc1 := 57) d_Told_lay_55 rfl 5 rfl ?_
          refine g_aload_n (pc1 := 58) d_Told_lay_57 rfl 1 rfl ?_
          refine g_geti (pc1 := 61) d_Told_lay_58 rfl ⟨_, fo_Told_60⟩ (shLa_0 hLd1) (ltLa_0 hLd1) ?_
          refine g_icmp_ge (pc1 := 64) (tgt := 85) d_Told_lay_61 (by decide) rfl (fun h1398 => ?_) (fun h1398 => ?_)
          · refine g_iconst (pc1 := 86) (v := 0) d_Told_lay_85 rfl (by decide) ?_
            refine g_ireturn (Or.inr ⟨rfl, rfl⟩) d_Told_lay_86 rfl ?_
            exact hQ _ _ _ (Or.inl rfl) Kp.rf
          · refine g_iload (pc1 := 66) d_Told_lay_64 rfl 4 rfl ?_
            refine g_if_ge (pc1 := 69) (tgt := 79) d_Told_lay_66 (by decide) rfl (fun h1399 => ?_) (fun h1399 => ?_)
            · refine g_iload (pc1 := 81) d_Told_lay_79 rfl 6 rfl ?_
              refine g_iconst (pc1 := 82) (v := 1) d_Told_lay_81 rfl (by decide) ?_
              refine g_icmp_ge (pc1 := 85) (tgt := 87) d_Told_lay_82 (by decide) rfl (fun h1400 => ?_) (fun h1400 => ?_)
              · refine g_aload_n (pc1 := 88) d_Told_lay_87 rfl 0 rfl ?_
                refine g_getr (pc1 := 91) d_Told_lay_88 rfl ⟨_, fo_Told_21⟩ sh_383 (by decide) (rf_383_4 ld) ?_
                refine g_aload_n (pc1 := 92) d_Told_lay_91 rfl 0 rfl ?_
                refine g_geti (pc1 := 95) d_Told_lay_92 rfl ⟨_, fo_Told_41⟩ sh_383 (by decide) ?_
                refine g_iload_n (pc1 := 96) d_Told_lay_95 rfl 2 rfl ?_
                refine g_callS0 (pc1 := 99) (As := [.ref 387, .int (M 383 7), .int p2]) (rest := []) d_Told_lay_96 rfl mo_Told_37 ms_Main_put (by decide) rfl rfl (Nat.le_of_ble_eq_true rfl) ?_
                refine t1_Main_put hld 387 sh_387 (by decide) (by decide) _ _ (fun  M1401 L1402 k1403 => ?_)
                refine g_aload_n (pc1 := 100) d_Told_lay_99 rfl 0 rfl ?_
                refine g_getr (pc1 := 103) d_Told_lay_100 rfl ⟨_, fo_Told_24⟩ sh_383 (by decide) (rf_383_5 ld) ?_
                refine g_aload_n (pc1 := 104) d_Told_lay_103 rfl 0 rfl ?_
                refine g_geti (pc1 := 107) d_Told_lay_104 rfl ⟨_, fo_Told_41⟩ sh_383 (by decide) ?_
                refine g_iload (pc1 := 109) d_Told_lay_107 rfl 6 rfl ?_
                refine g_callS0 (pc1 := 112) (As := [.ref 388, .int (M1401 383 7), .int x1333]) (rest := []) d_Told_lay_109 rfl mo_Told_37 ms_Main_put (by decide) rfl rfl (Nat.le_of_ble_eq_true rfl) ?_
                refine t1_Main_put hld 388 sh_388 (by decide) (by decide) _ _ (fun  M1404 L1405 k1406 => ?_)
                refine g_iconst (pc1 := 113) (v := 0) d_Told_lay_112 rfl (by decide) ?_
                refine g_istore (pc1 := 115) (lv' := [(0, .ref 383), (1, .ref Ld1), (2, .int p2), (3, .int p3), (4, .int x1198), (5, .int x1331), (6, .int x1333), (7, .int 0)]) d_Told_lay_113 rfl (by decide) [1, 2, 3, 4, 5, 6, 7, 0] rfl ?_
                have LP1410 : ∀ (f1407 : Nat) (v1411 : Int32) (M1412 : gM) (L1413 : gL), Kp S1 M L M1412 L1413 → ¬ v1411 < 0 → ((3 : Int32).toInt - v1411.toInt).toNat < f1407 → Wp l y_Told_lay (0, 0, 447) 447 0 0 115 [(0, .ref 383), (1, .ref Ld1), (2, .int p2), (3, .int p3), (4, .int x1198), (5, .int x1331), (6, .int x1333), (7, .int v1411)] [] M1412 L1413 (rf ld) Q := by
                  intro f1407
                  induction f1407 with
                  | zero => intro v1411 M1412 L1413 _ _ hm1409; exact absurd hm1409 (Nat.not_lt_zero _)
                  | succ f1407 ih1408 =>
                    intro v1411 M1412 L1413 k1414 n1415 hm1409
                    refine g_iload (pc1 := 117) d_Told_lay_115 rfl 7 rfl ?_
                    refine g_iconst (pc1 := 118) (v := 3) d_Told_lay_117 rfl (by decide) ?_
                    refine g_icmp_ge (pc1 := 121) (tgt := 175) d_Told_lay_118 (by decide) rfl (fun h1416 => ?_) (fun h1416 => ?_)
                    · refine g_iconst (pc1 := 176) (v := 1) d_Told_lay_175 rfl (by decide) ?_
                      refine g_ireturn (Or.inr ⟨rfl, rfl⟩) d_Told_lay_176 rfl ?_
                      exact hQ _ _ _ (Or.inr rfl) k1414
                    · refine g_iload (pc1 := 123) d_Told_lay_121 rfl 4 rfl ?_
                      refine g_if_ne (pc1 := 126) (tgt := 130) d_Told_lay_123 (by decide) rfl (fun h1417 => ?_) (fun h1417 => ?_)
                      · refine g_iload (pc1 := 132) d_Told_lay_130 rfl 4 rfl ?_
                        refine g_aload_n (pc1 := 133) d_Told_lay_132 rfl 1 rfl ?_
                        refine g_iload (pc1 := 135) d_Told_lay_133 rfl 5 rfl ?_
                        refine g_iload (pc1 := 137) d_Told_lay_135 rfl 7 rfl ?_
                        refine g_callV0 (pc1 := 140) (As := [.int x1331, .int v1411]) (rest := [.int x1198]) d_Told_lay_137 rfl mo_Told_67 mi_Land_broughtBy mv_Land_broughtBy rfl (shLa_0 hLd1) (ltLa_0 hLd1) (by decide) rfl rfl (Nat.le_of_ble_eq_true rfl) ?_
                        refine t1_Land_broughtBy hld Ld1 hLd1 _ _ (fun r1418 => ?_)
                        refine g_imul (pc1 := 141) d_Told_lay_140 rfl ?_
                        refine Wp.topi (fun x1419 ex1419 => ?_)
                        refine g_istore (pc1 := 143) (lv' := [(0, .ref 383), (1, .ref Ld1), (2, .int p2), (3, .int p3), (4, .int x1198), (5, .int x1331), (6, .int x1333), (7, .int v1411), (8, .int x1419)]) d_Told_lay_141 rfl (by decide) [1, 2, 3, 4, 5, 6, 7, 8, 0] rfl ?_
                        refine g_aload_n (pc1 := 144) d_Told_lay_143 rfl 0 rfl ?_
                        refine g_getr (pc1 := 147) d_Told_lay_144 rfl ⟨_, fo_Told_27⟩ sh_383 (by decide) (rf_383_6 ld) ?_
                        refine g_aload_n (pc1 := 148) d_Told_lay_147 rfl 0 rfl ?_
                        refine g_geti (pc1 := 151) d_Told_lay_148 rfl ⟨_, fo_Told_41⟩ sh_383 (by decide) ?_
                        refine g_iconst (pc1 := 152) (v := 3) d_Told_lay_151 rfl (by decide) ?_
                        refine g_imul (pc1 := 153) d_Told_lay_152 rfl ?_
                        refine g_iload (pc1 := 155) d_Told_lay_153 rfl 7 rfl ?_
                        refine g_iadd (pc1 := 156) d_Told_lay_155 rfl ?_
                        refine g_aload_n (pc1 := 157) d_Told_lay_156 rfl 1 rfl ?_
                        refine g_iload_n (pc1 := 158) d_Told_lay_157 rfl 2 rfl ?_
                        refine g_iload (pc1 := 160) d_Told_lay_158 rfl 7 rfl ?_
                        refine g_callV0 (pc1 := 163) (As := [.int p2, .int v1411]) (rest := [.int (((M1412 383 7) * 3) + v1411), .ref 389]) d_Told_lay_160 rfl mo_Told_70 mi_Land_sumOf mv_Land_sumOf rfl (shLa_0 hLd1) (ltLa_0 hLd1) (by decide) rfl rfl (Nat.le_of_ble_eq_true rfl) ?_
                        refine t1_Land_sumOf hld Ld1 hLd1 _ _ (fun r1420 => ?_)
                        refine g_iload (pc1 := 165) d_Told_lay_163 rfl 8 rfl ?_
                        refine g_iadd (pc1 := 166) d_Told_lay_165 rfl ?_
                        refine g_callS0 (pc1 := 169) (As := [.ref 389, .int (((M1412 383 7) * 3) + v1411), .int (r1420 + x1419)]) (rest := []) d_Told_lay_166 rfl mo_Told_37 ms_Main_put (by decide) rfl rfl (Nat.le_of_ble_eq_true rfl) ?_
                        refine t1_Main_put hld 389 sh_389 (by decide) (by decide) _ _ (fun  M1421 L1422 k1423 => ?_)
                        obtain ⟨x1424, ex1424⟩ : ∃ y : Int32, y = v1411 + 1 := ⟨_, rfl⟩
                        refine g_iinc (pc1 := 172) (v := x1424) (lv' := [(0, .ref 383), (1, .ref Ld1), (2, .int p2), (3, .int p3), (4, .int x1198), (5, .int x1331), (6, .int x1333), (7, .int x1424), (8, .int x1419)]) d_Told_lay_169 rfl 7 rfl (by rw [ex1424]; rfl) (by decide) [1, 2, 3, 4, 5, 6, 7, 0, 8] rfl ?_
                        refine g_goto (tgt := 115) d_Told_lay_172 (by decide) ?_
                        refine Wp.loc (lv' := [(0, .ref 383), (1, .ref Ld1), (2, .int p2), (3, .int p3), (4, .int x1198), (5, .int x1331), (6, .int x1333), (7, .int x1424)]) [0, 1, 2, 3, 4, 5, 6, 7] rfl ?_
                        exact ih1408 x1424 M1421 L1422 (Kp.trans k1414 (Kp.mono k1423 (one_S rfl))) (nn_up (y := (3 : Int32)) h1416 ex1424 n1415) (md_up h1416 ex1424 hm1409)
                      · refine g_iconst (pc1 := 127) (v := 0) d_Told_lay_126 rfl (by decide) ?_
                        refine g_goto (tgt := 141) d_Told_lay_127 (by decide) ?_
                        refine g_istore (pc1 := 143) (lv' := [(0, .ref 383), (1, .ref Ld1), (2, .int p2), (3, .int p3), (4, .int x1198), (5, .int x1331), (6, .int x1333), (7, .int v1411), (8, .int 0)]) d_Told_lay_141 rfl (by decide) [1, 2, 3, 4, 5, 6, 7, 8, 0] rfl ?_
                        refine g_aload_n (pc1 := 144) d_Told_lay_143 rfl 0 rfl ?_
                        refine g_getr (pc1 := 147) d_Told_lay_144 rfl ⟨_, fo_Told_27⟩ sh_383 (by decide) (rf_383_6 ld) ?_
                        refine g_aload_n (pc1 := 148) d_Told_lay_147 rfl 0 rfl ?_
                        refine g_geti (pc1 := 151) d_Told_lay_148 rfl ⟨_, fo_Told_41⟩ sh_383 (by decide) ?_
                        refine g_iconst (pc1 := 152) (v := 3) d_Told_lay_151 rfl (by decide) ?_
                        refine g_imul (pc1 := 153) d_Told_lay_152 rfl ?_
                        refine g_iload (pc1 := 155) d_Told_lay_153 rfl 7 rfl ?_
                        refine g_iadd (pc1 := 156) d_Told_lay_155 rfl ?_
                        refine g_aload_n (pc1 := 157) d_Told_lay_156 rfl 1 rfl ?_
                        refine g_iload_n (pc1 := 158) d_Told_lay_157 rfl 2 rfl ?_
                        refine g_iload (pc1 := 160) d_Told_lay_158 rfl 7 rfl ?_
                        refine g_callV0 (pc1 := 163) (As := [.int p2, .int v1411]) (rest := [.int (((M1412 383 7) * 3) + v1411), .ref 389]) d_Told_lay_160 rfl mo_Told_70 mi_Land_sumOf mv_Land_sumOf rfl (shLa_0 hLd1) (ltLa_0 hLd1) (by decide) rfl rfl (Nat.le_of_ble_eq_true rfl) ?_
                        refine t1_Land_sumOf hld Ld1 hLd1 _ _ (fun r1425 => ?_)
                        refine g_iload (pc1 := 165) d_Told_lay_163 rfl 8 rfl ?_
                        refine g_iadd (pc1 := 166) d_Told_lay_165 rfl ?_
                        refine g_callS0 (pc1 := 169) (As := [.ref 389, .int (((M1412 383 7) * 3) + v1411), .int (r1425 + 0)]) (rest := []) d_Told_lay_166 rfl mo_Told_37 ms_Main_put (by decide) rfl rfl (Nat.le_of_ble_eq_true rfl) ?_
                        refine t1_Main_put hld 389 sh_389 (by decide) (by decide) _ _ (fun  M1426 L1427 k1428 => ?_)
                        obtain ⟨x1429, ex1429⟩ : ∃ y : Int32, y = v1411 + 1 := ⟨_, rfl⟩
                        refine g_iinc (pc1 := 172) (v := x1429) (lv' := [(0, .ref 383), (1, .ref Ld1), (2, .int p2), (3, .int p3), (4, .int x1198), (5, .int x1331), (6, .int x1333), (7, .int x1429), (8, .int 0)]) d_Told_lay_169 rfl 7 rfl (by rw [ex1429]; rfl) (by decide) [1, 2, 3, 4, 5, 6, 7, 0, 8] rfl ?_
                        refine g_goto (tgt := 115) d_Told_lay_172 (by decide) ?_
                        refine Wp.loc (lv' := [(0, .ref 383), (1, .ref Ld1), (2, .int p2), (3, .int p3), (4, .int x1198), (5, .int x1331), (6, .int x1333), (7, .int x1429)]) [0, 1, 2, 3, 4, 5, 6, 7] rfl ?_
                        exact ih1408 x1429 M1426 L1427 (Kp.trans k1414 (Kp.mono k1428 (one_S rfl))) (nn_up (y := (3 : Int32)) h1416 ex1429 n1415) (md_up h1416 ex1429 hm1409)
                exact LP1410 _ 0 M1404 L1405 (Kp.trans (Kp.trans Kp.rf (Kp.mono k1403 (one_S rfl))) (Kp.mono k1406 (one_S rfl))) (by decide) (Nat.lt_succ_self _)
              · refine g_iconst (pc1 := 86) (v := 0) d_Told_lay_85 rfl (by decide) ?_
                refine g_ireturn (Or.inr ⟨rfl, rfl⟩) d_Told_lay_86 rfl ?_
                exact hQ _ _ _ (Or.inl rfl) Kp.rf
            · refine g_aload_n (pc1 := 70) d_Told_lay_69 rfl 1 rfl ?_
              refine g_iload_n (pc1 := 71) d_Told_lay_70 rfl 2 rfl ?_
              refine g_iload (pc1 := 73) d_Told_lay_71 rfl 5 rfl ?_
              refine g_callV0 (pc1 := 76) (As := [.int p2, .int x1331]) (rest := []) d_Told_lay_73 rfl mo_Told_63 mi_Land_inDish mv_Land_inDish rfl (shLa_0 hLd1) (ltLa_0 hLd1) (by decide) rfl rfl (Nat.le_of_ble_eq_true rfl) ?_
              refine t1_Land_inDish hld Ld1 hLd1 _ _ (fun r1430 => ?_)
              refine g_if_eq (pc1 := 79) (tgt := 85) d_Told_lay_76 (by decide) rfl (fun h1431 => ?_) (fun h1431 => ?_)
              · refine g_iconst (pc1 := 86) (v := 0) d_Told_lay_85 rfl (by decide) ?_
                refine g_ireturn (Or.inr ⟨rfl, rfl⟩) d_Told_lay_86 rfl ?_
                exact hQ _ _ _ (Or.inl rfl) Kp.rf
              · refine g_iload (pc1 := 81) d_Told_lay_79 rfl 6 rfl ?_
                refine g_iconst (pc1 := 82) (v := 1) d_Told_lay_81 rfl (by decide) ?_
                refine g_icmp_ge (pc1 := 85) (tgt := 87) d_Told_lay_82 (by decide) rfl (fun h1432 => ?_) (fun h1432 => ?_)
                · refine g_aload_n (pc1 := 88) d_Told_lay_87 rfl 0 rfl ?_
                  refine g_getr (pc1 := 91) d_Told_lay_88 rfl ⟨_, fo_Told_21⟩ sh_383 (by decide) (rf_383_4 ld) ?_
                  refine g_aload_n (pc1 := 92) d_Told_lay_91 rfl 0 rfl ?_
                  refine g_geti (pc1 := 95) d_Told_lay_92 rfl ⟨_, fo_Told_41⟩ sh_383 (by decide) ?_
                  refine g_iload_n (pc1 := 96) d_Told_lay_95 rfl 2 rfl ?_
                  refine g_callS0 (pc1 := 99) (As := [.ref 387, .int (M 383 7), .int p2]) (rest := []) d_Told_lay_96 rfl mo_Told_37 ms_Main_put (by decide) rfl rfl (Nat.le_of_ble_eq_true rfl) ?_
                  refine t1_Main_put hld 387 sh_387 (by decide) (by decide) _ _ (fun  M1433 L1434 k1435 => ?_)
                  refine g_aload_n (pc1 := 100) d_Told_lay_99 rfl 0 rfl ?_
                  refine g_getr (pc1 := 103) d_Told_lay_100 rfl ⟨_, fo_Told_24⟩ sh_383 (by decide) (rf_383_5 ld) ?_
                  refine g_aload_n (pc1 := 104) d_Told_lay_103 rfl 0 rfl ?_
                  refine g_geti (pc1 := 107) d_Told_lay_104 rfl ⟨_, fo_Told_41⟩ sh_383 (by decide) ?_
                  refine g_iload (pc1 := 109) d_Told_lay_107 rfl 6 rfl ?_
                  refine g_callS0 (pc1 := 112) (As := [.ref 388, .int (M1433 383 7), .int x1333]) (rest := []) d_Told_lay_109 rfl mo_Told_37 ms_Main_put (by decide) rfl rfl (Nat.le_of_ble_eq_true rfl) ?_
                  refine t1_Main_put hld 388 sh_388 (by decide) (by decide) _ _ (fun  M1436 L1437 k1438 => ?_)
                  refine g_iconst (pc1 := 113) (v := 0) d_Told_lay_112 rfl (by decide) ?_
                  refine g_istore (pc1 := 115) (lv' := [(0, .ref 383), (1, .ref Ld1), (2, .int p2), (3, .int p3), (4, .int x1198), (5, .int x1331), (6, .int x1333), (7, .int 0)]) d_Told_lay_113 rfl (by decide) [1, 2, 3, 4, 5, 6, 7, 0] rfl ?_
                  have LP1442 : ∀ (f1439 : Nat) (v1443 : Int32) (M1444 : gM) (L1445 : gL), Kp S1 M L M1444 L1445 → ¬ v1443 < 0 → ((3 : Int32).toInt - v1443.toInt).toNat < f1439 → Wp l y_Told_lay (0, 0, 447) 447 0 0 115 [(0, .ref 383), (1, .ref Ld1), (2, .int p2), (3, .int p3), (4, .int x1198), (5, .int x1331), (6, .int x1333), (7, .int v1443)] [] M1444 L1445 (rf ld) Q := by
                    intro f1439
                    induction f1439 with
                    | zero => intro v1443 M1444 L1445 _ _ hm1441; exact absurd hm1441 (Nat.not_lt_zero _)
                    | succ f1439 ih1440 =>
                      intro v1443 M1444 L1445 k1446 n1447 hm1441
                      refine g_iload (pc1 := 117) d_Told_lay_115 rfl 7 rfl ?_
                      refine g_iconst (pc1 := 118) (v := 3) d_Told_lay_117 rfl (by decide) ?_
                      refine g_icmp_ge (pc1 := 121) (tgt := 175) d_Told_lay_118 (by decide) rfl (fun h1448 => ?_) (fun h1448 => ?_)
                      · refine g_iconst (pc1 := 176) (v := 1) d_Told_lay_175 rfl (by decide) ?_
                        refine g_ireturn (Or.inr ⟨rfl, rfl⟩) d_Told_lay_176 rfl ?_
                        exact hQ _ _ _ (Or.inr rfl) k1446
                      · refine g_iload (pc1 := 123) d_Told_lay_121 rfl 4 rfl ?_
                        refine g_if_ne (pc1 := 126) (tgt := 130) d_Told_lay_123 (by decide) rfl (fun h1449 => ?_) (fun h1449 => ?_)
                        · refine g_iload (pc1 := 132) d_Told_lay_130 rfl 4 rfl ?_
                          refine g_aload_n (pc1 := 133) d_Told_lay_132 rfl 1 rfl ?_
                          refine g_iload (pc1 := 135) d_Told_lay_133 rfl 5 rfl ?_
                          refine g_iload (pc1 := 137) d_Told_lay_135 rfl 7 rfl ?_
                          refine g_callV0 (pc1 := 140) (As := [.int x1331, .int v1443]) (rest := [.int x1198]) d_Told_lay_137 rfl mo_Told_67 mi_Land_broughtBy mv_Land_broughtBy rfl (shLa_0 hLd1) (ltLa_0 hLd1) (by decide) rfl rfl (Nat.le_of_ble_eq_true rfl) ?_
                          refine t1_Land_broughtBy hld Ld1 hLd1 _ _ (fun r1450 => ?_)
                          refine g_imul (pc1 := 141) d_Told_lay_140 rfl ?_
                          refine Wp.topi (fun x1451 ex1451 => ?_)
                          refine g_istore (pc1 := 143) (lv' := [(0, .ref 383), (1, .ref Ld1), (2, .int p2), (3, .int p3), (4, .int x1198), (5, .int x1331), (6, .int x1333), (7, .int v1443), (8, .int x1451)]) d_Told_lay_141 rfl (by decide) [1, 2, 3, 4, 5, 6, 7, 8, 0] rfl ?_
                          refine g_aload_n (pc1 := 144) d_Told_lay_143 rfl 0 rfl ?_
                          refine g_getr (pc1 := 147) d_Told_lay_144 rfl ⟨_, fo_Told_27⟩ sh_383 (by decide) (rf_383_6 ld) ?_
                          refine g_aload_n (pc1 := 148) d_Told_lay_147 rfl 0 rfl ?_
                          refine g_geti (pc1 := 151) d_Told_lay_148 rfl ⟨_, fo_Told_41⟩ sh_383 (by decide) ?_
                          refine g_iconst (pc1 := 152) (v := 3) d_Told_lay_151 rfl (by decide) ?_
                          refine g_imul (pc1 := 153) d_Told_lay_152 rfl ?_
                          refine g_iload (pc1 := 155) d_Told_lay_153 rfl 7 rfl ?_
                          refine g_iadd (pc1 := 156) d_Told_lay_155 rfl ?_
                          refine g_aload_n (pc1 := 157) d_Told_lay_156 rfl 1 rfl ?_
                          refine g_iload_n (pc1 := 158) d_Told_lay_157 rfl 2 rfl ?_
                          refine g_iload (pc1 := 160) d_Told_lay_158 rfl 7 rfl ?_
                          refine g_callV0 (pc1 := 163) (As := [.int p2, .int v1443]) (rest := [.int (((M1444 383 7) * 3) + v1443), .ref 389]) d_Told_lay_160 rfl mo_Told_70 mi_Land_sumOf mv_Land_sumOf rfl (shLa_0 hLd1) (ltLa_0 hLd1) (by decide) rfl rfl (Nat.le_of_ble_eq_true rfl) ?_
                          refine t1_Land_sumOf hld Ld1 hLd1 _ _ (fun r1452 => ?_)
                          refine g_iload (pc1 := 165) d_Told_lay_163 rfl 8 rfl ?_
                          refine g_iadd (pc1 := 166) d_Told_lay_165 rfl ?_
                          refine g_callS0 (pc1 := 169) (As := [.ref 389, .int (((M1444 383 7) * 3) + v1443), .int (r1452 + x1451)]) (rest := []) d_Told_lay_166 rfl mo_Told_37 ms_Main_put (by decide) rfl rfl (Nat.le_of_ble_eq_true rfl) ?_
                          refine t1_Main_put hld 389 sh_389 (by decide) (by decide) _ _ (fun  M1453 L1454 k1455 => ?_)
                          obtain ⟨x1456, ex1456⟩ : ∃ y : Int32, y = v1443 + 1 := ⟨_, rfl⟩
                          refine g_iinc (pc1 := 172) (v := x1456) (lv' := [(0, .ref 383), (1, .ref Ld1), (2, .int p2), (3, .int p3), (4, .int x1198), (5, .int x1331), (6, .int x1333), (7, .int x1456), (8, .int x1451)]) d_Told_lay_169 rfl 7 rfl (by rw [ex1456]; rfl) (by decide) [1, 2, 3, 4, 5, 6, 7, 0, 8] rfl ?_
                          refine g_goto (tgt := 115) d_Told_lay_172 (by decide) ?_
                          refine Wp.loc (lv' := [(0, .ref 383), (1, .ref Ld1), (2, .int p2), (3, .int p3), (4, .int x1198), (5, .int x1331), (6, .int x1333), (7, .int x1456)]) [0, 1, 2, 3, 4, 5, 6, 7] rfl ?_
                          exact ih1440 x1456 M1453 L1454 (Kp.trans k1446 (Kp.mono k1455 (one_S rfl))) (nn_up (y := (3 : Int32)) h1448 ex1456 n1447) (md_up h1448 ex1456 hm1441)
                        · refine g_iconst (pc1 := 127) (v := 0) d_Told_lay_126 rfl (by decide) ?_
                          refine g_goto (tgt := 141) d_Told_lay_127 (by decide) ?_
                          refine g_istore (pc1 := 143) (lv' := [(0, .ref 383), (1, .ref Ld1), (2, .int p2), (3, .int p3), (4, .int x1198), (5, .int x1331), (6, .int x1333), (7, .int v1443), (8, .int 0)]) d_Told_lay_141 rfl (by decide) [1, 2, 3, 4, 5, 6, 7, 8, 0] rfl ?_
                          refine g_aload_n (pc1 := 144) d_Told_lay_143 rfl 0 rfl ?_
                          refine g_getr (pc1 := 147) d_Told_lay_144 rfl ⟨_, fo_Told_27⟩ sh_383 (by decide) (rf_383_6 ld) ?_
                          refine g_aload_n (pc1 := 148) d_Told_lay_147 rfl 0 rfl ?_
                          refine g_geti (pc1 := 151) d_Told_lay_148 rfl ⟨_, fo_Told_41⟩ sh_383 (by decide) ?_
                          refine g_iconst (pc1 := 152) (v := 3) d_Told_lay_151 rfl (by decide) ?_
                          refine g_imul (pc1 := 153) d_Told_lay_152 rfl ?_
                          refine g_iload (pc1 := 155) d_Told_lay_153 rfl 7 rfl ?_
                          refine g_iadd (pc1 := 156) d_Told_lay_155 rfl ?_
                          refine g_aload_n (pc1 := 157) d_Told_lay_156 rfl 1 rfl ?_
                          refine g_iload_n (pc1 := 158) d_Told_lay_157 rfl 2 rfl ?_
                          refine g_iload (pc1 := 160) d_Told_lay_158 rfl 7 rfl ?_
                          refine g_callV0 (pc1 := 163) (As := [.int p2, .int v1443]) (rest := [.int (((M1444 383 7) * 3) + v1443), .ref 389]) d_Told_lay_160 rfl mo_Told_70 mi_Land_sumOf mv_Land_sumOf rfl (shLa_0 hLd1) (ltLa_0 hLd1) (by decide) rfl rfl (Nat.le_of_ble_eq_true rfl) ?_
                          refine t1_Land_sumOf hld Ld1 hLd1 _ _ (fun r1457 => ?_)
                          refine g_iload (pc1 := 165) d_Told_lay_163 rfl 8 rfl ?_
                          refine g_iadd (pc1 := 166) d_Told_lay_165 rfl ?_
                          refine g_callS0 (pc1 := 169) (As := [.ref 389, .int (((M1444 383 7) * 3) + v1443), .int (r1457 + 0)]) (rest := []) d_Told_lay_166 rfl mo_Told_37 ms_Main_put (by decide) rfl rfl (Nat.le_of_ble_eq_true rfl) ?_
                          refine t1_Main_put hld 389 sh_389 (by decide) (by decide) _ _ (fun  M1458 L1459 k1460 => ?_)
                          obtain ⟨x1461, ex1461⟩ : ∃ y : Int32, y = v1443 + 1 := ⟨_, rfl⟩
                          refine g_iinc (pc1 := 172) (v := x1461) (lv' := [(0, .ref 383), (1, .ref Ld1), (2, .int p2), (3, .int p3), (4, .int x1198), (5, .int x1331), (6, .int x1333), (7, .int x1461), (8, .int 0)]) d_Told_lay_169 rfl 7 rfl (by rw [ex1461]; rfl) (by decide) [1, 2, 3, 4, 5, 6, 7, 0, 8] rfl ?_
                          refine g_goto (tgt := 115) d_Told_lay_172 (by decide) ?_
                          refine Wp.loc (lv' := [(0, .ref 383), (1, .ref Ld1), (2, .int p2), (3, .int p3), (4, .int x1198), (5, .int x1331), (6, .int x1333), (7, .int x1461)]) [0, 1, 2, 3, 4, 5, 6, 7] rfl ?_
                          exact ih1440 x1461 M1458 L1459 (Kp.trans k1446 (Kp.mono k1460 (one_S rfl))) (nn_up (y := (3 : Int32)) h1448 ex1461 n1447) (md_up h1448 ex1461 hm1441)
                  exact LP1442 _ 0 M1436 L1437 (Kp.trans (Kp.trans Kp.rf (Kp.mono k1435 (one_S rfl))) (Kp.mono k1438 (one_S rfl))) (by decide) (Nat.lt_succ_self _)
                · refine g_iconst (pc1 := 86) (v := 0) d_Told_lay_85 rfl (by decide) ?_
                  refine g_ireturn (Or.inr ⟨rfl, rfl⟩) d_Told_lay_86 rfl ?_
                  exact hQ _ _ _ (Or.inl rfl) Kp.rf
    · refine g_iconst (pc1 := 15) (v := 1) d_Told_lay_14 rfl (by decide) ?_
      refine g_goto (tgt := 19) d_Told_lay_15 (by decide) ?_
      refine g_istore (pc1 := 21) (lv' := [(0, .ref 383), (1, .ref Ld1), (2, .int p2), (3, .int p3), (4, .int 1)]) d_Told_lay_19 rfl (by decide) [1, 2, 3, 4, 0] rfl ?_
      refine g_iload (pc1 := 23) d_Told_lay_21 rfl 4 rfl ?_
      refine g_if_le (pc1 := 26) (tgt := 32) d_Told_lay_23 (by decide) rfl (fun h1462 => ?_) (fun h1462 => ?_)
      · refine g_iload_n (pc1 := 33) d_Told_lay_32 rfl 3 rfl ?_
        refine g_iconst (pc1 := 34) (v := 1) d_Told_lay_33 rfl (by decide) ?_
        refine g_isub (pc1 := 35) d_Told_lay_34 rfl ?_
        refine g_bipush (pc1 := 37) (v := 6) d_Told_lay_35 rfl (by decide) ?_
        refine g_isub (pc1 := 38) d_Told_lay_37 rfl ?_
        refine Wp.topi (fun x1463 ex1463 => ?_)
        refine g_istore (pc1 := 40) (lv' := [(0, .ref 383), (1, .ref Ld1), (2, .int p2), (3, .int p3), (4, .int 1), (5, .int x1463)]) d_Told_lay_38 rfl (by decide) [1, 2, 3, 4, 5, 0] rfl ?_
        refine g_aload_n (pc1 := 41) d_Told_lay_40 rfl 1 rfl ?_
        refine g_iload_n (pc1 := 42) d_Told_lay_41 rfl 2 rfl ?_
        refine g_callV0 (pc1 := 45) (As := [.int p2]) (rest := []) d_Told_lay_42 rfl mo_Told_56 mi_Land_manyIn mv_Land_manyIn rfl (shLa_0 hLd1) (ltLa_0 hLd1) (by decide) rfl rfl (Nat.le_of_ble_eq_true rfl) ?_
        refine t1_Land_manyIn hld Ld1 hLd1 _ (fun r1464 => ?_)
        refine g_iload (pc1 := 47) d_Told_lay_45 rfl 4 rfl ?_
        refine g_iadd (pc1 := 48) d_Told_lay_47 rfl ?_
        refine Wp.topi (fun x1465 ex1465 => ?_)
        refine g_istore (pc1 := 50) (lv' := [(0, .ref 383), (1, .ref Ld1), (2, .int p2), (3, .int p3), (4, .int 1), (5, .int x1463), (6, .int x1465)]) d_Told_lay_48 rfl (by decide) [1, 2, 3, 4, 5, 6, 0] rfl ?_
        refine g_iload (pc1 := 52) d_Told_lay_50 rfl 4 rfl ?_
        refine g_if_eq (pc1 := 55) (tgt := 64) d_Told_lay_52 (by decide) rfl (fun h1466 => ?_) (fun h1466 => ?_)
        · refine g_iload (pc1 := 66) d_Told_lay_64 rfl 4 rfl ?_
          refine g_if_ge (pc1 := 69) (tgt := 79) d_Told_lay_66 (by decide) rfl (fun h1467 => ?_) (fun h1467 => ?_)
          · refine g_iload (pc1 := 81) d_Told_lay_79 rfl 6 rfl ?_
            refine g_iconst (pc1 := 82) (v := 1) d_Told_lay_81 rfl (by decide) ?_
            refine g_icmp_ge (pc1 := 85) (tgt := 87) d_Told_lay_82 (by decide) rfl (fun h1468 => ?_) (fun h1468 => ?_)
            · refine g_aload_n (pc1 := 88) d_Told_lay_87 rfl 0 rfl ?_
              refine g_getr (pc1 := 91) d_Told_lay_88 rfl ⟨_, fo_Told_21⟩ sh_383 (by decide) (rf_383_4 ld) ?_
              refine g_aload_n (pc1 := 92) d_Told_lay_91 rfl 0 rfl ?_
              refine g_geti (pc1 := 95) d_Told_lay_92 rfl ⟨_, fo_Told_41⟩ sh_383 (by decide) ?_
              refine g_iload_n (pc1 := 96) d_Told_lay_95 rfl 2 rfl ?_
              refine g_callS0 (pc1 := 99) (As := [.ref 387, .int (M 383 7), .int p2]) (rest := []) d_Told_lay_96 rfl mo_Told_37 ms_Main_put (by decide) rfl rfl (Nat.le_of_ble_eq_true rfl) ?_
              refine t1_Main_put hld 387 sh_387 (by decide) (by decide) _ _ (fun  M1469 L1470 k1471 => ?_)
              refine g_aload_n (pc1 := 100) d_Told_lay_99 rfl 0 rfl ?_
              refine g_getr (pc1 := 103) d_Told_lay_100 rfl ⟨_, fo_Told_24⟩ sh_383 (by decide) (rf_383_5 ld) ?_
              refine g_aload_n (pc1 := 104) d_Told_lay_103 rfl 0 rfl ?_
              refine g_geti (pc1 := 107) d_Told_lay_104 rfl ⟨_, fo_Told_41⟩ sh_383 (by decide) ?_
              refine g_iload (pc1 := 109) d_Told_lay_107 rfl 6 rfl ?_
              refine g_callS0 (pc1 := 112) (As := [.ref 388, .int (M1469 383 7), .int x1465]) (rest := []) d_Told_lay_109 rfl mo_Told_37 ms_Main_put (by decide) rfl rfl (Nat.le_of_ble_eq_true rfl) ?_
              refine t1_Main_put hld 388 sh_388 (by decide) (by decide) _ _ (fun  M1472 L1473 k1474 => ?_)
              refine g_iconst (pc1 := 113) (v := 0) d_Told_lay_112 rfl (by decide) ?_
              refine g_istore (pc1 := 115) (lv' := [(0, .ref 383), (1, .ref Ld1), (2, .int p2), (3, .int p3), (4, .int 1), (5, .int x1463), (6, .int x1465), (7, .int 0)]) d_Told_lay_113 rfl (by decide) [1, 2, 3, 4, 5, 6, 7, 0] rfl ?_
              have LP1478 : ∀ (f1475 : Nat) (v1479 : Int32) (M1480 : gM) (L1481 : gL), Kp S1 M L M1480 L1481 → ¬ v1479 < 0 → ((3 : Int32).toInt - v1479.toInt).toNat < f1475 → Wp l y_Told_lay (0, 0, 447) 447 0 0 115 [(0, .ref 383), (1, .ref Ld1), (2, .int p2), (3, .int p3), (4, .int 1), (5, .int x1463), (6, .int x1465), (7, .int v1479)] [] M1480 L1481 (rf ld) Q := by
                intro f1475
                induction f1475 with
                | zero => intro v1479 M1480 L1481 _ _ hm1477; exact absurd hm1477 (Nat.not_lt_zero _)
                | succ f1475 ih1476 =>
                  intro v1479 M1480 L1481 k1482 n1483 hm1477
                  refine g_iload (pc1 := 117) d_Told_lay_115 rfl 7 rfl ?_
                  refine g_iconst (pc1 := 118) (v := 3) d_Told_lay_117 rfl (by decide) ?_
                  refine g_icmp_ge (pc1 := 121) (tgt := 175) d_Told_lay_118 (by decide) rfl (fun h1484 => ?_) (fun h1484 => ?_)
                  · refine g_iconst (pc1 := 176) (v := 1) d_Told_lay_175 rfl (by decide) ?_
                    refine g_ireturn (Or.inr ⟨rfl, rfl⟩) d_Told_lay_176 rfl ?_
                    exact hQ _ _ _ (Or.inr rfl) k1482
                  · refine g_iload (pc1 := 123) d_Told_lay_121 rfl 4 rfl ?_
                    refine g_if_ne (pc1 := 126) (tgt := 130) d_Told_lay_123 (by decide) rfl (fun h1485 => ?_) (fun h1485 => ?_)
                    · refine g_iload (pc1 := 132) d_Told_lay_130 rfl 4 rfl ?_
                      refine g_aload_n (pc1 := 133) d_Told_lay_132 rfl 1 rfl ?_
                      refine g_iload (pc1 := 135) d_Told_lay_133 rfl 5 rfl ?_
                      refine g_iload (pc1 := 137) d_Told_lay_135 rfl 7 rfl ?_
                      refine g_callV0 (pc1 := 140) (As := [.int x1463, .int v1479]) (rest := [.int 1]) d_Told_lay_137 rfl mo_Told_67 mi_Land_broughtBy mv_Land_broughtBy rfl (shLa_0 hLd1) (ltLa_0 hLd1) (by decide) rfl rfl (Nat.le_of_ble_eq_true rfl) ?_
                      refine t1_Land_broughtBy hld Ld1 hLd1 _ _ (fun r1486 => ?_)
                      refine g_imul (pc1 := 141) d_Told_lay_140 rfl ?_
                      refine Wp.topi (fun x1487 ex1487 => ?_)
                      refine g_istore (pc1 := 143) (lv' := [(0, .ref 383), (1, .ref Ld1), (2, .int p2), (3, .int p3), (4, .int 1), (5, .int x1463), (6, .int x1465), (7, .int v1479), (8, .int x1487)]) d_Told_lay_141 rfl (by decide) [1, 2, 3, 4, 5, 6, 7, 8, 0] rfl ?_
                      refine g_aload_n (pc1 := 144) d_Told_lay_143 rfl 0 rfl ?_
                      refine g_getr (pc1 := 147) d_Told_lay_144 rfl ⟨_, fo_Told_27⟩ sh_383 (by decide) (rf_383_6 ld) ?_
                      refine g_aload_n (pc1 := 148) d_Told_lay_147 rfl 0 rfl ?_
                      refine g_geti (pc1 := 151) d_Told_lay_148 rfl ⟨_, fo_Told_41⟩ sh_383 (by decide) ?_
                      refine g_iconst (pc1 := 152) (v := 3) d_Told_lay_151 rfl (by decide) ?_
                      refine g_imul (pc1 := 153) d_Told_lay_152 rfl ?_
                      refine g_iload (pc1 := 155) d_Told_lay_153 rfl 7 rfl ?_
                      refine g_iadd (pc1 := 156) d_Told_lay_155 rfl ?_
                      refine g_aload_n (pc1 := 157) d_Told_lay_156 rfl 1 rfl ?_
                      refine g_iload_n (pc1 := 158) d_Told_lay_157 rfl 2 rfl ?_
                      refine g_iload (pc1 := 160) d_Told_lay_158 rfl 7 rfl ?_
                      refine g_callV0 (pc1 := 163) (As := [.int p2, .int v1479]) (rest := [.int (((M1480 383 7) * 3) + v1479), .ref 389]) d_Told_lay_160 rfl mo_Told_70 mi_Land_sumOf mv_Land_sumOf rfl (shLa_0 hLd1) (ltLa_0 hLd1) (by decide) rfl rfl (Nat.le_of_ble_eq_true rfl) ?_
                      refine t1_Land_sumOf hld Ld1 hLd1 _ _ (fun r1488 => ?_)
                      refine g_iload (pc1 := 165) d_Told_lay_163 rfl 8 rfl ?_
                      refine g_iadd (pc1 := 166) d_Told_lay_165 rfl ?_
                      refine g_callS0 (pc1 := 169) (As := [.ref 389, .int (((M1480 383 7) * 3) + v1479), .int (r1488 + x1487)]) (rest := []) d_Told_lay_166 rfl mo_Told_37 ms_Main_put (by decide) rfl rfl (Nat.le_of_ble_eq_true rfl) ?_
                      refine t1_Main_put hld 389 sh_389 (by decide) (by decide) _ _ (fun  M1489 L1490 k1491 => ?_)
                      obtain ⟨x1492, ex1492⟩ : ∃ y : Int32, y = v1479 + 1 := ⟨_, rfl⟩
                      refine g_iinc (pc1 := 172) (v := x1492) (lv' := [(0, .ref 383), (1, .ref Ld1), (2, .int p2), (3, .int p3), (4, .int 1), (5, .int x1463), (6, .int x1465), (7, .int x1492), (8, .int x1487)]) d_Told_lay_169 rfl 7 rfl (by rw [ex1492]; rfl) (by decide) [1, 2, 3, 4, 5, 6, 7, 0, 8] rfl ?_
                      refine g_goto (tgt := 115) d_Told_lay_172 (by decide) ?_
                      refine Wp.loc (lv' := [(0, .ref 383), (1, .ref Ld1), (2, .int p2), (3, .int p3), (4, .int 1), (5, .int x1463), (6, .int x1465), (7, .int x1492)]) [0, 1, 2, 3, 4, 5, 6, 7] rfl ?_
                      exact ih1476 x1492 M1489 L1490 (Kp.trans k1482 (Kp.mono k1491 (one_S rfl))) (nn_up (y := (3 : Int32)) h1484 ex1492 n1483) (md_up h1484 ex1492 hm1477)
                    · refine g_iconst (pc1 := 127) (v := 0) d_Told_lay_126 rfl (by decide) ?_
                      refine g_goto (tgt := 141) d_Told_lay_127 (by decide) ?_
                      refine g_istore (pc1 := 143) (lv' := [(0, .ref 383), (1, .ref Ld1), (2, .int p2), (3, .int p3), (4, .int 1), (5, .int x1463), (6, .int x1465), (7, .int v1479), (8, .int 0)]) d_Told_lay_141 rfl (by decide) [1, 2, 3, 4, 5, 6, 7, 8, 0] rfl ?_
                      refine g_aload_n (pc1 := 144) d_Told_lay_143 rfl 0 rfl ?_
                      refine g_getr (pc1 := 147) d_Told_lay_144 rfl ⟨_, fo_Told_27⟩ sh_383 (by decide) (rf_383_6 ld) ?_
                      refine g_aload_n (pc1 := 148) d_Told_lay_147 rfl 0 rfl ?_
                      refine g_geti (pc1 := 151) d_Told_lay_148 rfl ⟨_, fo_Told_41⟩ sh_383 (by decide) ?_
                      refine g_iconst (pc1 := 152) (v := 3) d_Told_lay_151 rfl (by decide) ?_
                      refine g_imul (pc1 := 153) d_Told_lay_152 rfl ?_
                      refine g_iload (pc1 := 155) d_Told_lay_153 rfl 7 rfl ?_
                      refine g_iadd (pc1 := 156) d_Told_lay_155 rfl ?_
                      refine g_aload_n (pc1 := 157) d_Told_lay_156 rfl 1 rfl ?_
                      refine g_iload_n (pc1 := 158) d_Told_lay_157 rfl 2 rfl ?_
                      refine g_iload (pc1 := 160) d_Told_lay_158 rfl 7 rfl ?_
                      refine g_callV0 (pc1 := 163) (As := [.int p2, .int v1479]) (rest := [.int (((M1480 383 7) * 3) + v1479), .ref 389]) d_Told_lay_160 rfl mo_Told_70 mi_Land_sumOf mv_Land_sumOf rfl (shLa_0 hLd1) (ltLa_0 hLd1) (by decide) rfl rfl (Nat.le_of_ble_eq_true rfl) ?_
                      refine t1_Land_sumOf hld Ld1 hLd1 _ _ (fun r1493 => ?_)
                      refine g_iload (pc1 := 165) d_Told_lay_163 rfl 8 rfl ?_
                      refine g_iadd (pc1 := 166) d_Told_lay_165 rfl ?_
                      refine g_callS0 (pc1 := 169) (As := [.ref 389, .int (((M1480 383 7) * 3) + v1479), .int (r1493 + 0)]) (rest := []) d_Told_lay_166 rfl mo_Told_37 ms_Main_put (by decide) rfl rfl (Nat.le_of_ble_eq_true rfl) ?_
                      refine t1_Main_put hld 389 sh_389 (by decide) (by decide) _ _ (fun  M1494 L1495 k1496 => ?_)
                      obtain ⟨x1497, ex1497⟩ : ∃ y : Int32, y = v1479 + 1 := ⟨_, rfl⟩
                      refine g_iinc (pc1 := 172) (v := x1497) (lv' := [(0, .ref 383), (1, .ref Ld1), (2, .int p2), (3, .int p3), (4, .int 1), (5, .int x1463), (6, .int x1465), (7, .int x1497), (8, .int 0)]) d_Told_lay_169 rfl 7 rfl (by rw [ex1497]; rfl) (by decide) [1, 2, 3, 4, 5, 6, 7, 0, 8] rfl ?_
                      refine g_goto (tgt := 115) d_Told_lay_172 (by decide) ?_
                      refine Wp.loc (lv' := [(0, .ref 383), (1, .ref Ld1), (2, .int p2), (3, .int p3), (4, .int 1), (5, .int x1463), (6, .int x1465), (7, .int x1497)]) [0, 1, 2, 3, 4, 5, 6, 7] rfl ?_
                      exact ih1476 x1497 M1494 L1495 (Kp.trans k1482 (Kp.mono k1496 (one_S rfl))) (nn_up (y := (3 : Int32)) h1484 ex1497 n1483) (md_up h1484 ex1497 hm1477)
              exact LP1478 _ 0 M1472 L1473 (Kp.trans (Kp.trans Kp.rf (Kp.mono k1471 (one_S rfl))) (Kp.mono k1474 (one_S rfl))) (by decide) (Nat.lt_succ_self _)
            · refine g_iconst (pc1 := 86) (v := 0) d_Told_lay_85 rfl (by decide) ?_
              refine g_ireturn (Or.inr ⟨rfl, rfl⟩) d_Told_lay_86 rfl ?_
              exact hQ _ _ _ (Or.inl rfl) Kp.rf
          · refine g_aload_n (pc1 := 70) d_Told_lay_69 rfl 1 rfl ?_
            refine g_iload_n (pc1 := 71) d_Told_lay_70 rfl 2 rfl ?_
            refine g_iload (pc1 := 73) d_Told_lay_71 rfl 5 rfl ?_
            refine g_callV0 (pc1 := 76) (As := [.int p2, .int x1463]) (rest := []) d_Told_lay_73 rfl mo_Told_63 mi_Land_inDish mv_Land_inDish rfl (shLa_0 hLd1) (ltLa_0 hLd1) (by decide) rfl rfl (Nat.le_of_ble_eq_true rfl) ?_
            refine t1_Land_inDish hld Ld1 hLd1 _ _ (fun r1498 => ?_)
            refine g_if_eq (pc1 := 79) (tgt := 85) d_Told_lay_76 (by decide) rfl (fun h1499 => ?_) (fun h1499 => ?_)
            · refine g_iconst (pc1 := 86) (v := 0) d_Told_lay_85 rfl (by decide) ?_
              refine g_ireturn (Or.inr ⟨rfl, rfl⟩) d_Told_lay_86 rfl ?_
              exact hQ _ _ _ (Or.inl rfl) Kp.rf
            · refine g_iload (pc1 := 81) d_Told_lay_79 rfl 6 rfl ?_
              refine g_iconst (pc1 := 82) (v := 1) d_Told_lay_81 rfl (by decide) ?_
              refine g_icmp_ge (pc1 := 85) (tgt := 87) d_Told_lay_82 (by decide) rfl (fun h1500 => ?_) (fun h1500 => ?_)
              · refine g_aload_n (pc1 := 88) d_Told_lay_87 rfl 0 rfl ?_
                refine g_getr (pc1 := 91) d_Told_lay_88 rfl ⟨_, fo_Told_21⟩ sh_383 (by decide) (rf_383_4 ld) ?_
                refine g_aload_n (pc1 := 92) d_Told_lay_91 rfl 0 rfl ?_
                refine g_geti (pc1 := 95) d_Told_lay_92 rfl ⟨_, fo_Told_41⟩ sh_383 (by decide) ?_
                refine g_iload_n (pc1 := 96) d_Told_lay_95 rfl 2 rfl ?_
                refine g_callS0 (pc1 := 99) (As := [.ref 387, .int (M 383 7), .int p2]) (rest := []) d_Told_lay_96 rfl mo_Told_37 ms_Main_put (by decide) rfl rfl (Nat.le_of_ble_eq_true rfl) ?_
                refine t1_Main_put hld 387 sh_387 (by decide) (by decide) _ _ (fun  M1501 L1502 k1503 => ?_)
                refine g_aload_n (pc1 := 100) d_Told_lay_99 rfl 0 rfl ?_
                refine g_getr (pc1 := 103) d_Told_lay_100 rfl ⟨_, fo_Told_24⟩ sh_383 (by decide) (rf_383_5 ld) ?_
                refine g_aload_n (pc1 := 104) d_Told_lay_103 rfl 0 rfl ?_
                refine g_geti (pc1 := 107) d_Told_lay_104 rfl ⟨_, fo_Told_41⟩ sh_383 (by decide) ?_
                refine g_iload (pc1 := 109) d_Told_lay_107 rfl 6 rfl ?_
                refine g_callS0 (pc1 := 112) (As := [.ref 388, .int (M1501 383 7), .int x1465]) (rest := []) d_Told_lay_109 rfl mo_Told_37 ms_Main_put (by decide) rfl rfl (Nat.le_of_ble_eq_true rfl) ?_
                refine t1_Main_put hld 388 sh_388 (by decide) (by decide) _ _ (fun  M1504 L1505 k1506 => ?_)
                refine g_iconst (pc1 := 113) (v := 0) d_Told_lay_112 rfl (by decide) ?_
                refine g_istore (pc1 := 115) (lv' := [(0, .ref 383), (1, .ref Ld1), (2, .int p2), (3, .int p3), (4, .int 1), (5, .int x1463), (6, .int x1465), (7, .int 0)]) d_Told_lay_113 rfl (by decide) [1, 2, 3, 4, 5, 6, 7, 0] rfl ?_
                have LP1510 : ∀ (f1507 : Nat) (v1511 : Int32) (M1512 : gM) (L1513 : gL), Kp S1 M L M1512 L1513 → ¬ v1511 < 0 → ((3 : Int32).toInt - v1511.toInt).toNat < f1507 → Wp l y_Told_lay (0, 0, 447) 447 0 0 115 [(0, .ref 383), (1, .ref Ld1), (2, .int p2), (3, .int p3), (4, .int 1), (5, .int x1463), (6, .int x1465), (7, .int v1511)] [] M1512 L1513 (rf ld) Q := by
                  intro f1507
                  induction f1507 with
                  | zero => intro v1511 M1512 L1513 _ _ hm1509; exact absurd hm1509 (Nat.not_lt_zero _)
                  | succ f1507 ih1508 =>
                    intro v1511 M1512 L1513 k1514 n1515 hm1509
                    refine g_iload (pc1 := 117) d_Told_lay_115 rfl 7 rfl ?_
                    refine g_iconst (pc1 := 118) (v := 3) d_Told_lay_117 rfl (by decide) ?_
                    refine g_icmp_ge (pc1 := 121) (tgt := 175) d_Told_lay_118 (by decide) rfl (fun h1516 => ?_) (fun h1516 => ?_)
                    · refine g_iconst (pc1 := 176) (v := 1) d_Told_lay_175 rfl (by decide) ?_
                      refine g_ireturn (Or.inr ⟨rfl, rfl⟩) d_Told_lay_176 rfl ?_
                      exact hQ _ _ _ (Or.inr rfl) k1514
                    · refine g_iload (pc1 := 123) d_Told_lay_121 rfl 4 rfl ?_
                      refine g_if_ne (pc1 := 126) (tgt := 130) d_Told_lay_123 (by decide) rfl (fun h1517 => ?_) (fun h1517 => ?_)
                      · refine g_iload (pc1 := 132) d_Told_lay_130 rfl 4 rfl ?_
                        refine g_aload_n (pc1 := 133) d_Told_lay_132 rfl 1 rfl ?_
                        refine g_iload (pc1 := 135) d_Told_lay_133 rfl 5 rfl ?_
                        refine g_iload (pc1 := 137) d_Told_lay_135 rfl 7 rfl ?_
                        refine g_callV0 (pc1 := 140) (As := [.int x1463, .int v1511]) (rest := [.int 1]) d_Told_lay_137 rfl mo_Told_67 mi_Land_broughtBy mv_Land_broughtBy rfl (shLa_0 hLd1) (ltLa_0 hLd1) (by decide) rfl rfl (Nat.le_of_ble_eq_true rfl) ?_
                        refine t1_Land_broughtBy hld Ld1 hLd1 _ _ (fun r1518 => ?_)
                        refine g_imul (pc1 := 141) d_Told_lay_140 rfl ?_
                        refine Wp.topi (fun x1519 ex1519 => ?_)
                        refine g_istore (pc1 := 143) (lv' := [(0, .ref 383), (1, .ref Ld1), (2, .int p2), (3, .int p3), (4, .int 1), (5, .int x1463), (6, .int x1465), (7, .int v1511), (8, .int x1519)]) d_Told_lay_141 rfl (by decide) [1, 2, 3, 4, 5, 6, 7, 8, 0] rfl ?_
                        refine g_aload_n (pc1 := 144) d_Told_lay_143 rfl 0 rfl ?_
                        refine g_getr (pc1 := 147) d_Told_lay_144 rfl ⟨_, fo_Told_27⟩ sh_383 (by decide) (rf_383_6 ld) ?_
                        refine g_aload_n (pc1 := 148) d_Told_lay_147 rfl 0 rfl ?_
                        refine g_geti (pc1 := 151) d_Told_lay_148 rfl ⟨_, fo_Told_41⟩ sh_383 (by decide) ?_
                        refine g_iconst (pc1 := 152) (v := 3) d_Told_lay_151 rfl (by decide) ?_
                        refine g_imul (pc1 := 153) d_Told_lay_152 rfl ?_
                        refine g_iload (pc1 := 155) d_Told_lay_153 rfl 7 rfl ?_
                        refine g_iadd (pc1 := 156) d_Told_lay_155 rfl ?_
                        refine g_aload_n (pc1 := 157) d_Told_lay_156 rfl 1 rfl ?_
                        refine g_iload_n (pc1 := 158) d_Told_lay_157 rfl 2 rfl ?_
                        refine g_iload (pc1 := 160) d_Told_lay_158 rfl 7 rfl ?_
                        refine g_callV0 (pc1 := 163) (As := [.int p2, .int v1511]) (rest := [.int (((M1512 383 7) * 3) + v1511), .ref 389]) d_Told_lay_160 rfl mo_Told_70 mi_Land_sumOf mv_Land_sumOf rfl (shLa_0 hLd1) (ltLa_0 hLd1) (by decide) rfl rfl (Nat.le_of_ble_eq_true rfl) ?_
                        refine t1_Land_sumOf hld Ld1 hLd1 _ _ (fun r1520 => ?_)
                        refine g_iload (pc1 := 165) d_Told_lay_163 rfl 8 rfl ?_
                        refine g_iadd (pc1 := 166) d_Told_lay_165 rfl ?_
                        refine g_callS0 (pc1 := 169) (As := [.ref 389, .int (((M1512 383 7) * 3) + v1511), .int (r1520 + x1519)]) (rest := []) d_Told_lay_166 rfl mo_Told_37 ms_Main_put (by decide) rfl rfl (Nat.le_of_ble_eq_true rfl) ?_
                        refine t1_Main_put hld 389 sh_389 (by decide) (by decide) _ _ (fun  M1521 L1522 k1523 => ?_)
                        obtain ⟨x1524, ex1524⟩ : ∃ y : Int32, y = v1511 + 1 := ⟨_, rfl⟩
                        refine g_iinc (pc1 := 172) (v := x1524) (lv' := [(0, .ref 383), (1, .ref Ld1), (2, .int p2), (3, .int p3), (4, .int 1), (5, .int x1463), (6, .int x1465), (7, .int x1524), (8, .int x1519)]) d_Told_lay_169 rfl 7 rfl (by rw [ex1524]; rfl) (by decide) [1, 2, 3, 4, 5, 6, 7, 0, 8] rfl ?_
                        refine g_goto (tgt := 115) d_Told_lay_172 (by decide) ?_
                        refine Wp.loc (lv' := [(0, .ref 383), (1, .ref Ld1), (2, .int p2), (3, .int p3), (4, .int 1), (5, .int x1463), (6, .int x1465), (7, .int x1524)]) [0, 1, 2, 3, 4, 5, 6, 7] rfl ?_
                        exact ih1508 x1524 M1521 L1522 (Kp.trans k1514 (Kp.mono k1523 (one_S rfl))) (nn_up (y := (3 : Int32)) h1516 ex1524 n1515) (md_up h1516 ex1524 hm1509)
                      · refine g_iconst (pc1 := 127) (v := 0) d_Told_lay_126 rfl (by decide) ?_
                        refine g_goto (tgt := 141) d_Told_lay_127 (by decide) ?_
                        refine g_istore (pc1 := 143) (lv' := [(0, .ref 383), (1, .ref Ld1), (2, .int p2), (3, .int p3), (4, .int 1), (5, .int x1463), (6, .int x1465), (7, .int v1511), (8, .int 0)]) d_Told_lay_141 rfl (by decide) [1, 2, 3, 4, 5, 6, 7, 8, 0] rfl ?_
                        refine g_aload_n (pc1 := 144) d_Told_lay_143 rfl 0 rfl ?_
                        refine g_getr (pc1 := 147) d_Told_lay_144 rfl ⟨_, fo_Told_27⟩ sh_383 (by decide) (rf_383_6 ld) ?_
                        refine g_aload_n (pc1 := 148) d_Told_lay_147 rfl 0 rfl ?_
                        refine g_geti (pc1 := 151) d_Told_lay_148 rfl ⟨_, fo_Told_41⟩ sh_383 (by decide) ?_
                        refine g_iconst (pc1 := 152) (v := 3) d_Told_lay_151 rfl (by decide) ?_
                        refine g_imul (pc1 := 153) d_Told_lay_152 rfl ?_
                        refine g_iload (pc1 := 155) d_Told_lay_153 rfl 7 rfl ?_
                        refine g_iadd (pc1 := 156) d_Told_lay_155 rfl ?_
                        refine g_aload_n (pc1 := 157) d_Told_lay_156 rfl 1 rfl ?_
                        refine g_iload_n (pc1 := 158) d_Told_lay_157 rfl 2 rfl ?_
                        refine g_iload (pc1 := 160) d_Told_lay_158 rfl 7 rfl ?_
                        refine g_callV0 (pc1 := 163) (As := [.int p2, .int v1511]) (rest := [.int (((M1512 383 7) * 3) + v1511), .ref 389]) d_Told_lay_160 rfl mo_Told_70 mi_Land_sumOf mv_Land_sumOf rfl (shLa_0 hLd1) (ltLa_0 hLd1) (by decide) rfl rfl (Nat.le_of_ble_eq_true rfl) ?_
                        refine t1_Land_sumOf hld Ld1 hLd1 _ _ (fun r1525 => ?_)
                        refine g_iload (pc1 := 165) d_Told_lay_163 rfl 8 rfl ?_
                        refine g_iadd (pc1 := 166) d_Told_lay_165 rfl ?_
                        refine g_callS0 (pc1 := 169) (As := [.ref 389, .int (((M1512 383 7) * 3) + v1511), .int (r1525 + 0)]) (rest := []) d_Told_lay_166 rfl mo_Told_37 ms_Main_put (by decide) rfl rfl (Nat.le_of_ble_eq_true rfl) ?_
                        refine t1_Main_put hld 389 sh_389 (by decide) (by decide) _ _ (fun  M1526 L1527 k1528 => ?_)
                        obtain ⟨x1529, ex1529⟩ : ∃ y : Int32, y = v1511 + 1 := ⟨_, rfl⟩
                        refine g_iinc (pc1 := 172) (v := x1529) (lv' := [(0, .ref 383), (1, .ref Ld1), (2, .int p2), (3, .int p3), (4, .int 1), (5, .int x1463), (6, .int x1465), (7, .int x1529), (8, .int 0)]) d_Told_lay_169 rfl 7 rfl (by rw [ex1529]; rfl) (by decide) [1, 2, 3, 4, 5, 6, 7, 0, 8] rfl ?_
                        refine g_goto (tgt := 115) d_Told_lay_172 (by decide) ?_
                        refine Wp.loc (lv' := [(0, .ref 383), (1, .ref Ld1), (2, .int p2), (3, .int p3), (4, .int 1), (5, .int x1463), (6, .int x1465), (7, .int x1529)]) [0, 1, 2, 3, 4, 5, 6, 7] rfl ?_
                        exact ih1508 x1529 M1526 L1527 (Kp.trans k1514 (Kp.mono k1528 (one_S rfl))) (nn_up (y := (3 : Int32)) h1516 ex1529 n1515) (md_up h1516 ex1529 hm1509)
                exact LP1510 _ 0 M1504 L1505 (Kp.trans (Kp.trans Kp.rf (Kp.mono k1503 (one_S rfl))) (Kp.mono k1506 (one_S rfl))) (by decide) (Nat.lt_succ_self _)
              · refine g_iconst (pc1 := 86) (v := 0) d_Told_lay_85 rfl (by decide) ?_
                refine g_ireturn (Or.inr ⟨rfl, rfl⟩) d_Told_lay_86 rfl ?_
                exact hQ _ _ _ (Or.inl rfl) Kp.rf
        · refine g_iload (pc1 := 57) d_Told_lay_55 rfl 5 rfl ?_
          refine g_aload_n (pc1 := 58) d_Told_lay_57 rfl 1 rfl ?_
          refine g_geti (pc1 := 61) d_Told_lay_58 rfl ⟨_, fo_Told_60⟩ (shLa_0 hLd1) (ltLa_0 hLd1) ?_
          refine g_icmp_ge (pc1 := 64) (tgt := 85) d_Told_lay_61 (by decide) rfl (fun h1530 => ?_) (fun h1530 => ?_)
          · refine g_iconst (pc1 := 86) (v := 0) d_Told_lay_85 rfl (by decide) ?_
            refine g_ireturn (Or.inr ⟨rfl, rfl⟩) d_Told_lay_86 rfl ?_
            exact hQ _ _ _ (Or.inl rfl) Kp.rf
          · refine g_iload (pc1 := 66) d_Told_lay_64 rfl 4 rfl ?_
            refine g_if_ge (pc1 := 69) (tgt := 79) d_Told_lay_66 (by decide) rfl (fun h1531 => ?_) (fun h1531 => ?_)
            · refine g_iload (pc1 := 81) d_Told_lay_79 rfl 6 rfl ?_
              refine g_iconst (pc1 := 82) (v := 1) d_Told_lay_81 rfl (by decide) ?_
              refine g_icmp_ge (pc1 := 85) (tgt := 87) d_Told_lay_82 (by decide) rfl (fun h1532 => ?_) (fun h1532 => ?_)
              · refine g_aload_n (pc1 := 88) d_Told_lay_87 rfl 0 rfl ?_
                refine g_getr (pc1 := 91) d_Told_lay_88 rfl ⟨_, fo_Told_21⟩ sh_383 (by decide) (rf_383_4 ld) ?_
                refine g_aload_n (pc1 := 92) d_Told_lay_91 rfl 0 rfl ?_
                refine g_geti (pc1 := 95) d_Told_lay_92 rfl ⟨_, fo_Told_41⟩ sh_383 (by decide) ?_
                refine g_iload_n (pc1 := 96) d_Told_lay_95 rfl 2 rfl ?_
                refine g_callS0 (pc1 := 99) (As := [.ref 387, .int (M 383 7), .int p2]) (rest := []) d_Told_lay_96 rfl mo_Told_37 ms_Main_put (by decide) rfl rfl (Nat.le_of_ble_eq_true rfl) ?_
                refine t1_Main_put hld 387 sh_387 (by decide) (by decide) _ _ (fun  M1533 L1534 k1535 => ?_)
                refine g_aload_n (pc1 := 100) d_Told_lay_99 rfl 0 rfl ?_
                refine g_getr (pc1 := 103) d_Told_lay_100 rfl ⟨_, fo_Told_24⟩ sh_383 (by decide) (rf_383_5 ld) ?_
                refine g_aload_n (pc1 := 104) d_Told_lay_103 rfl 0 rfl ?_
                refine g_geti (pc1 := 107) d_Told_lay_104 rfl ⟨_, fo_Told_41⟩ sh_383 (by decide) ?_
                refine g_iload (pc1 := 109) d_Told_lay_107 rfl 6 rfl ?_
                refine g_callS0 (pc1 := 112) (As := [.ref 388, .int (M1533 383 7), .int x1465]) (rest := []) d_Told_lay_109 rfl mo_Told_37 ms_Main_put (by decide) rfl rfl (Nat.le_of_ble_eq_true rfl) ?_
                refine t1_Main_put hld 388 sh_388 (by decide) (by decide) _ _ (fun  M1536 L1537 k1538 => ?_)
                refine g_iconst (pc1 := 113) (v := 0) d_Told_lay_112 rfl (by decide) ?_
                refine g_istore (pc1 := 115) (lv' := [(0, .ref 383), (1, .ref Ld1), (2, .int p2), (3, .int p3), (4, .int 1), (5, .int x1463), (6, .int x1465), (7, .int 0)]) d_Told_lay_113 rfl (by decide) [1, 2, 3, 4, 5, 6, 7, 0] rfl ?_
                have LP1542 : ∀ (f1539 : Nat) (v1543 : Int32) (M1544 : gM) (L1545 : gL), Kp S1 M L M1544 L1545 → ¬ v1543 < 0 → ((3 : Int32).toInt - v1543.toInt).toNat < f1539 → Wp l y_Told_lay (0, 0, 447) 447 0 0 115 [(0, .ref 383), (1, .ref Ld1), (2, .int p2), (3, .int p3), (4, .int 1), (5, .int x1463), (6, .int x1465), (7, .int v1543)] [] M1544 L1545 (rf ld) Q := by
                  intro f1539
                  induction f1539 with
                  | zero => intro v1543 M1544 L1545 _ _ hm1541; exact absurd hm1541 (Nat.not_lt_zero _)
                  | succ f1539 ih1540 =>
                    intro v1543 M1544 L1545 k1546 n1547 hm1541
                    refine g_iload (pc1 := 117) d_Told_lay_115 rfl 7 rfl ?_
                    refine g_iconst (pc1 := 118) (v := 3) d_Told_lay_117 rfl (by decide) ?_
                    refine g_icmp_ge (pc1 := 121) (tgt := 175) d_Told_lay_118 (by decide) rfl (fun h1548 => ?_) (fun h1548 => ?_)
                    · refine g_iconst (pc1 := 176) (v := 1) d_Told_lay_175 rfl (by decide) ?_
                      refine g_ireturn (Or.inr ⟨rfl, rfl⟩) d_Told_lay_176 rfl ?_
                      exact hQ _ _ _ (Or.inr rfl) k1546
                    · refine g_iload (pc1 := 123) d_Told_lay_121 rfl 4 rfl ?_
                      refine g_if_ne (pc1 := 126) (tgt := 130) d_Told_lay_123 (by decide) rfl (fun h1549 => ?_) (fun h1549 => ?_)
                      · refine g_iload (pc1 := 132) d_Told_lay_130 rfl 4 rfl ?_
                        refine g_aload_n (pc1 := 133) d_Told_lay_132 rfl 1 rfl ?_
                        refine g_iload (pc1 := 135) d_Told_lay_133 rfl 5 rfl ?_
                        refine g_iload (pc1 := 137) d_Told_lay_135 rfl 7 rfl ?_
                        refine g_callV0 (pc1 := 140) (As := [.int x1463, .int v1543]) (rest := [.int 1]) d_Told_lay_137 rfl mo_Told_67 mi_Land_broughtBy mv_Land_broughtBy rfl (shLa_0 hLd1) (ltLa_0 hLd1) (by decide) rfl rfl (Nat.le_of_ble_eq_true rfl) ?_
                        refine t1_Land_broughtBy hld Ld1 hLd1 _ _ (fun r1550 => ?_)
                        refine g_imul (pc1 := 141) d_Told_lay_140 rfl ?_
                        refine Wp.topi (fun x1551 ex1551 => ?_)
                        refine g_istore (pc1 := 143) (lv' := [(0, .ref 383), (1, .ref Ld1), (2, .int p2), (3, .int p3), (4, .int 1), (5, .int x1463), (6, .int x1465), (7, .int v1543), (8, .int x1551)]) d_Told_lay_141 rfl (by decide) [1, 2, 3, 4, 5, 6, 7, 8, 0] rfl ?_
                        refine g_aload_n (pc1 := 144) d_Told_lay_143 rfl 0 rfl ?_
                        refine g_getr (pc1 := 147) d_Told_lay_144 rfl ⟨_, fo_Told_27⟩ sh_383 (by decide) (rf_383_6 ld) ?_
                        refine g_aload_n (pc1 := 148) d_Told_lay_147 rfl 0 rfl ?_
                        refine g_geti (pc1 := 151) d_Told_lay_148 rfl ⟨_, fo_Told_41⟩ sh_383 (by decide) ?_
                        refine g_iconst (pc1 := 152) (v := 3) d_Told_lay_151 rfl (by decide) ?_
                        refine g_imul (pc1 := 153) d_Told_lay_152 rfl ?_
                        refine g_iload (pc1 := 155) d_Told_lay_153 rfl 7 rfl ?_
                        refine g_iadd (pc1 := 156) d_Told_lay_155 rfl ?_
                        refine g_aload_n (pc1 := 157) d_Told_lay_156 rfl 1 rfl ?_
                        refine g_iload_n (pc1 := 158) d_Told_lay_157 rfl 2 rfl ?_
                        refine g_iload (pc1 := 160) d_Told_lay_158 rfl 7 rfl ?_
                        refine g_callV0 (pc1 := 163) (As := [.int p2, .int v1543]) (rest := [.int (((M1544 383 7) * 3) + v1543), .ref 389]) d_Told_lay_160 rfl mo_Told_70 mi_Land_sumOf mv_Land_sumOf rfl (shLa_0 hLd1) (ltLa_0 hLd1) (by decide) rfl rfl (Nat.le_of_ble_eq_true rfl) ?_
                        refine t1_Land_sumOf hld Ld1 hLd1 _ _ (fun r1552 => ?_)
                        refine g_iload (pc1 := 165) d_Told_lay_163 rfl 8 rfl ?_
                        refine g_iadd (pc1 := 166) d_Told_lay_165 rfl ?_
                        refine g_callS0 (pc1 := 169) (As := [.ref 389, .int (((M1544 383 7) * 3) + v1543), .int (r1552 + x1551)]) (rest := []) d_Told_lay_166 rfl mo_Told_37 ms_Main_put (by decide) rfl rfl (Nat.le_of_ble_eq_true rfl) ?_
                        refine t1_Main_put hld 389 sh_389 (by decide) (by decide) _ _ (fun  M1553 L1554 k1555 => ?_)
                        obtain ⟨x1556, ex1556⟩ : ∃ y : Int32, y = v1543 + 1 := ⟨_, rfl⟩
                        refine g_iinc (pc1 := 172) (v := x1556) (lv' := [(0, .ref 383), (1, .ref Ld1), (2, .int p2), (3, .int p3), (4, .int 1), (5, .int x1463), (6, .int x1465), (7, .int x1556), (8, .int x1551)]) d_Told_lay_169 rfl 7 rfl (by rw [ex1556]; rfl) (by decide) [1, 2, 3, 4, 5, 6, 7, 0, 8] rfl ?_
                        refine g_goto (tgt := 115) d_Told_lay_172 (by decide) ?_
                        refine Wp.loc (lv' := [(0, .ref 383), (1, .ref Ld1), (2, .int p2), (3, .int p3), (4, .int 1), (5, .int x1463), (6, .int x1465), (7, .int x1556)]) [0, 1, 2, 3, 4, 5, 6, 7] rfl ?_
                        exact ih1540 x1556 M1553 L1554 (Kp.trans k1546 (Kp.mono k1555 (one_S rfl))) (nn_up (y := (3 : Int32)) h1548 ex1556 n1547) (md_up h1548 ex1556 hm1541)
                      · refine g_iconst (pc1 := 127) (v := 0) d_Told_lay_126 rfl (by decide) ?_
                        refine g_goto (tgt := 141) d_Told_lay_127 (by decide) ?_
                        refine g_istore (pc1 := 143) (lv' := [(0, .ref 383), (1, .ref Ld1), (2, .int p2), (3, .int p3), (4, .int 1), (5, .int x1463), (6, .int x1465), (7, .int v1543), (8, .int 0)]) d_Told_lay_141 rfl (by decide) [1, 2, 3, 4, 5, 6, 7, 8, 0] rfl ?_
                        refine g_aload_n (pc1 := 144) d_Told_lay_143 rfl 0 rfl ?_
                        refine g_getr (pc1 := 147) d_Told_lay_144 rfl ⟨_, fo_Told_27⟩ sh_383 (by decide) (rf_383_6 ld) ?_
                        refine g_aload_n (pc1 := 148) d_Told_lay_147 rfl 0 rfl ?_
                        refine g_geti (pc1 := 151) d_Told_lay_148 rfl ⟨_, fo_Told_41⟩ sh_383 (by decide) ?_
                        refine g_iconst (pc1 := 152) (v := 3) d_Told_lay_151 rfl (by decide) ?_
                        refine g_imul (pc1 := 153) d_Told_lay_152 rfl ?_
                        refine g_iload (pc1 := 155) d_Told_lay_153 rfl 7 rfl ?_
                        refine g_iadd (pc1 := 156) d_Told_lay_155 rfl ?_
                        refine g_aload_n (pc1 := 157) d_Told_lay_156 rfl 1 rfl ?_
                        refine g_iload_n (pc1 := 158) d_Told_lay_157 rfl 2 rfl ?_
                        refine g_iload (pc1 := 160) d_Told_lay_158 rfl 7 rfl ?_
                        refine g_callV0 (pc1 := 163) (As := [.int p2, .int v1543]) (rest := [.int (((M1544 383 7) * 3) + v1543), .ref 389]) d_Told_lay_160 rfl mo_Told_70 mi_Land_sumOf mv_Land_sumOf rfl (shLa_0 hLd1) (ltLa_0 hLd1) (by decide) rfl rfl (Nat.le_of_ble_eq_true rfl) ?_
                        refine t1_Land_sumOf hld Ld1 hLd1 _ _ (fun r1557 => ?_)
                        refine g_iload (pc1 := 165) d_Told_lay_163 rfl 8 rfl ?_
                        refine g_iadd (pc1 := 166) d_Told_lay_165 rfl ?_
                        refine g_callS0 (pc1 := 169) (As := [.ref 389, .int (((M1544 383 7) * 3) + v1543), .int (r1557 + 0)]) (rest := []) d_Told_lay_166 rfl mo_Told_37 ms_Main_put (by decide) rfl rfl (Nat.le_of_ble_eq_true rfl) ?_
                        refine t1_Main_put hld 389 sh_389 (by decide) (by decide) _ _ (fun  M1558 L1559 k1560 => ?_)
                        obtain ⟨x1561, ex1561⟩ : ∃ y : Int32, y = v1543 + 1 := ⟨_, rfl⟩
                        refine g_iinc (pc1 := 172) (v := x1561) (lv' := [(0, .ref 383), (1, .ref Ld1), (2, .int p2), (3, .int p3), (4, .int 1), (5, .int x1463), (6, .int x1465), (7, .int x1561), (8, .int 0)]) d_Told_lay_169 rfl 7 rfl (by rw [ex1561]; rfl) (by decide) [1, 2, 3, 4, 5, 6, 7, 0, 8] rfl ?_
                        refine g_goto (tgt := 115) d_Told_lay_172 (by decide) ?_
                        refine Wp.loc (lv' := [(0, .ref 383), (1, .ref Ld1), (2, .int p2), (3, .int p3), (4, .int 1), (5, .int x1463), (6, .int x1465), (7, .int x1561)]) [0, 1, 2, 3, 4, 5, 6, 7] rfl ?_
                        exact ih1540 x1561 M1558 L1559 (Kp.trans k1546 (Kp.mono k1560 (one_S rfl))) (nn_up (y := (3 : Int32)) h1548 ex1561 n1547) (md_up h1548 ex1561 hm1541)
                exact LP1542 _ 0 M1536 L1537 (Kp.trans (Kp.trans Kp.rf (Kp.mono k1535 (one_S rfl))) (Kp.mono k1538 (one_S rfl))) (by decide) (Nat.lt_succ_self _)
              · refine g_iconst (pc1 := 86) (v := 0) d_Told_lay_85 rfl (by decide) ?_
                refine g_ireturn (Or.inr ⟨rfl, rfl⟩) d_Told_lay_86 rfl ?_
                exact hQ _ _ _ (Or.inl rfl) Kp.rf
            · refine g_aload_n (pc1 := 70) d_Told_lay_69 rfl 1 rfl ?_
              refine g_iload_n (pc1 := 71) d_Told_lay_70 rfl 2 rfl ?_
              refine g_iload (pc1 := 73) d_Told_lay_71 rfl 5 rfl ?_
              refine g_callV0 (pc1 := 76) (As := [.int p2, .int x1463]) (rest := []) d_Told_lay_73 rfl mo_Told_63 mi_Land_inDish mv_Land_inDish rfl (shLa_0 hLd1) (ltLa_0 hLd1) (by decide) rfl rfl (Nat.le_of_ble_eq_true rfl) ?_
              refine t1_Land_inDish hld Ld1 hLd1 _ _ (fun r1562 => ?_)
              refine g_if_eq (pc1 := 79) (tgt := 85) d_Told_lay_76 (by decide) rfl (fun h1563 => ?_) (fun h1563 => ?_)
              · refine g_iconst (pc1 := 86) (v := 0) d_Told_lay_85 rfl (by decide) ?_
                refine g_ireturn (Or.inr ⟨rfl, rfl⟩) d_Told_lay_86 rfl ?_
                exact hQ _ _ _ (Or.inl rfl) Kp.rf
              · refine g_iload (pc1 := 81) d_Told_lay_79 rfl 6 rfl ?_
                refine g_iconst (pc1 := 82) (v := 1) d_Told_lay_81 rfl (by decide) ?_
                refine g_icmp_ge (pc1 := 85) (tgt := 87) d_Told_lay_82 (by decide) rfl (fun h1564 => ?_) (fun h1564 => ?_)
                · refine g_aload_n (pc1 := 88) d_Told_lay_87 rfl 0 rfl ?_
                  refine g_getr (pc1 := 91) d_Told_lay_88 rfl ⟨_, fo_Told_21⟩ sh_383 (by decide) (rf_383_4 ld) ?_
                  refine g_aload_n (pc1 := 92) d_Told_lay_91 rfl 0 rfl ?_
                  refine g_geti (pc1 := 95) d_Told_lay_92 rfl ⟨_, fo_Told_41⟩ sh_383 (by decide) ?_
                  refine g_iload_n (pc1 := 96) d_Told_lay_95 rfl 2 rfl ?_
                  refine g_callS0 (pc1 := 99) (As := [.ref 387, .int (M 383 7), .int p2]) (rest := []) d_Told_lay_96 rfl mo_Told_37 ms_Main_put (by decide) rfl rfl (Nat.le_of_ble_eq_true rfl) ?_
                  refine t1_Main_put hld 387 sh_387 (by decide) (by decide) _ _ (fun  M1565 L1566 k1567 => ?_)
                  refine g_aload_n (pc1 := 100) d_Told_lay_99 rfl 0 rfl ?_
                  refine g_getr (pc1 := 103) d_Told_lay_100 rfl ⟨_, fo_Told_24⟩ sh_383 (by decide) (rf_383_5 ld) ?_
                  refine g_aload_n (pc1 := 104) d_Told_lay_103 rfl 0 rfl ?_
                  refine g_geti (pc1 := 107) d_Told_lay_104 rfl ⟨_, fo_Told_41⟩ sh_383 (by decide) ?_
                  refine g_iload (pc1 := 109) d_Told_lay_107 rfl 6 rfl ?_
                  refine g_callS0 (pc1 := 112) (As := [.ref 388, .int (M1565 383 7), .int x1465]) (rest := []) d_Told_lay_109 rfl mo_Told_37 ms_Main_put (by decide) rfl rfl (Nat.le_of_ble_eq_true rfl) ?_
                  refine t1_Main_put hld 388 sh_388 (by decide) (by decide) _ _ (fun  M1568 L1569 k1570 => ?_)
                  refine g_iconst (pc1 := 113) (v := 0) d_Told_lay_112 rfl (by decide) ?_
                  refine g_istore (pc1 := 115) (lv' := [(0, .ref 383), (1, .ref Ld1), (2, .int p2), (3, .int p3), (4, .int 1), (5, .int x1463), (6, .int x1465), (7, .int 0)]) d_Told_lay_113 rfl (by decide) [1, 2, 3, 4, 5, 6, 7, 0] rfl ?_
                  have LP1574 : ∀ (f1571 : Nat) (v1575 : Int32) (M1576 : gM) (L1577 : gL), Kp S1 M L M1576 L1577 → ¬ v1575 < 0 → ((3 : Int32).toInt - v1575.toInt).toNat < f1571 → Wp l y_Told_lay (0, 0, 447) 447 0 0 115 [(0, .ref 383), (1, .ref Ld1), (2, .int p2), (3, .int p3), (4, .int 1), (5, .int x1463), (6, .int x1465), (7, .int v1575)] [] M1576 L1577 (rf ld) Q := by
                    intro f1571
                    induction f1571 with
                    | zero => intro v1575 M1576 L1577 _ _ hm1573; exact absurd hm1573 (Nat.not_lt_zero _)
                    | succ f1571 ih1572 =>
                      intro v1575 M1576 L1577 k1578 n1579 hm1573
                      refine g_iload (pc1 := 117) d_Told_lay_115 rfl 7 rfl ?_
                      refine g_iconst (pc1 := 118) (v := 3) d_Told_lay_117 rfl (by decide) ?_
                      refine g_icmp_ge (pc1 := 121) (tgt := 175) d_Told_lay_118 (by decide) rfl (fun h1580 => ?_) (fun h1580 => ?_)
                      · refine g_iconst (pc1 := 176) (v := 1) d_Told_lay_175 rfl (by decide) ?_
                        refine g_ireturn (Or.inr ⟨rfl, rfl⟩) d_Told_lay_176 rfl ?_
                        exact hQ _ _ _ (Or.inr rfl) k1578
                      · refine g_iload (pc1 := 123) d_Told_lay_121 rfl 4 rfl ?_
                        refine g_if_ne (pc1 := 126) (tgt := 130) d_Told_lay_123 (by decide) rfl (fun h1581 => ?_) (fun h1581 => ?_)
                        · refine g_iload (pc1 := 132) d_Told_lay_130 rfl 4 rfl ?_
                          refine g_aload_n (pc1 := 133) d_Told_lay_132 rfl 1 rfl ?_
                          refine g_iload (pc1 := 135) d_Told_lay_133 rfl 5 rfl ?_
                          refine g_iload (pc1 := 137) d_Told_lay_135 rfl 7 rfl ?_
                          refine g_callV0 (pc1 := 140) (As := [.int x1463, .int v1575]) (rest := [.int 1]) d_Told_lay_137 rfl mo_Told_67 mi_Land_broughtBy mv_Land_broughtBy rfl (shLa_0 hLd1) (ltLa_0 hLd1) (by decide) rfl rfl (Nat.le_of_ble_eq_true rfl) ?_
                          refine t1_Land_broughtBy hld Ld1 hLd1 _ _ (fun r1582 => ?_)
                          refine g_imul (pc1 := 141) d_Told_lay_140 rfl ?_
                          refine Wp.topi (fun x1583 ex1583 => ?_)
                          refine g_istore (pc1 := 143) (lv' := [(0, .ref 383), (1, .ref Ld1), (2, .int p2), (3, .int p3), (4, .int 1), (5, .int x1463), (6, .int x1465), (7, .int v1575), (8, .int x1583)]) d_Told_lay_141 rfl (by decide) [1, 2, 3, 4, 5, 6, 7, 8, 0] rfl ?_
                          refine g_aload_n (pc1 := 144) d_Told_lay_143 rfl 0 rfl ?_
                          refine g_getr (pc1 := 147) d_Told_lay_144 rfl ⟨_, fo_Told_27⟩ sh_383 (by decide) (rf_383_6 ld) ?_
                          refine g_aload_n (pc1 := 148) d_Told_lay_147 rfl 0 rfl ?_
                          refine g_geti (pc1 := 151) d_Told_lay_148 rfl ⟨_, fo_Told_41⟩ sh_383 (by decide) ?_
                          refine g_iconst (pc1 := 152) (v := 3) d_Told_lay_151 rfl (by decide) ?_
                          refine g_imul (pc1 := 153) d_Told_lay_152 rfl ?_
                          refine g_iload (pc1 := 155) d_Told_lay_153 rfl 7 rfl ?_
                          refine g_iadd (pc1 := 156) d_Told_lay_155 rfl ?_
                          refine g_aload_n (pc1 := 157) d_Told_lay_156 rfl 1 rfl ?_
                          refine g_iload_n (pc1 := 158) d_Told_lay_157 rfl 2 rfl ?_
                          refine g_iload (pc1 := 160) d_Told_lay_158 rfl 7 rfl ?_
                          refine g_callV0 (pc1 := 163) (As := [.int p2, .int v1575]) (rest := [.int (((M1576 383 7) * 3) + v1575), .ref 389]) d_Told_lay_160 rfl mo_Told_70 mi_Land_sumOf mv_Land_sumOf rfl (shLa_0 hLd1) (ltLa_0 hLd1) (by decide) rfl rfl (Nat.le_of_ble_eq_true rfl) ?_
                          refine t1_Land_sumOf hld Ld1 hLd1 _ _ (fun r1584 => ?_)
                          refine g_iload (pc1 := 165) d_Told_lay_163 rfl 8 rfl ?_
                          refine g_iadd (pc1 := 166) d_Told_lay_165 rfl ?_
                          refine g_callS0 (pc1 := 169) (As := [.ref 389, .int (((M1576 383 7) * 3) + v1575), .int (r1584 + x1583)]) (rest := []) d_Told_lay_166 rfl mo_Told_37 ms_Main_put (by decide) rfl rfl (Nat.le_of_ble_eq_true rfl) ?_
                          refine t1_Main_put hld 389 sh_389 (by decide) (by decide) _ _ (fun  M1585 L1586 k1587 => ?_)
                          obtain ⟨x1588, ex1588⟩ : ∃ y : Int32, y = v1575 + 1 := ⟨_, rfl⟩
                          refine g_iinc (pc1 := 172) (v := x1588) (lv' := [(0, .ref 383), (1, .ref Ld1), (2, .int p2), (3, .int p3), (4, .int 1), (5, .int x1463), (6, .int x1465), (7, .int x1588), (8, .int x1583)]) d_Told_lay_169 rfl 7 rfl (by rw [ex1588]; rfl) (by decide) [1, 2, 3, 4, 5, 6, 7, 0, 8] rfl ?_
                          refine g_goto (tgt := 115) d_Told_lay_172 (by decide) ?_
                          refine Wp.loc (lv' := [(0, .ref 383), (1, .ref Ld1), (2, .int p2), (3, .int p3), (4, .int 1), (5, .int x1463), (6, .int x1465), (7, .int x1588)]) [0, 1, 2, 3, 4, 5, 6, 7] rfl ?_
                          exact ih1572 x1588 M1585 L1586 (Kp.trans k1578 (Kp.mono k1587 (one_S rfl))) (nn_up (y := (3 : Int32)) h1580 ex1588 n1579) (md_up h1580 ex1588 hm1573)
                        · refine g_iconst (pc1 := 127) (v := 0) d_Told_lay_126 rfl (by decide) ?_
                          refine g_goto (tgt := 141) d_Told_lay_127 (by decide) ?_
                          refine g_istore (pc1 := 143) (lv' := [(0, .ref 383), (1, .ref Ld1), (2, .int p2), (3, .int p3), (4, .int 1), (5, .int x1463), (6, .int x1465), (7, .int v1575), (8, .int 0)]) d_Told_lay_141 rfl (by decide) [1, 2, 3, 4, 5, 6, 7, 8, 0] rfl ?_
                          refine g_aload_n (pc1 := 144) d_Told_lay_143 rfl 0 rfl ?_
                          refine g_getr (pc1 := 147) d_Told_lay_144 rfl ⟨_, fo_Told_27⟩ sh_383 (by decide) (rf_383_6 ld) ?_
                          refine g_aload_n (pc1 := 148) d_Told_lay_147 rfl 0 rfl ?_
                          refine g_geti (pc1 := 151) d_Told_lay_148 rfl ⟨_, fo_Told_41⟩ sh_383 (by decide) ?_
                          refine g_iconst (pc1 := 152) (v := 3) d_Told_lay_151 rfl (by decide) ?_
                          refine g_imul (pc1 := 153) d_Told_lay_152 rfl ?_
                          refine g_iload (pc1 := 155) d_Told_lay_153 rfl 7 rfl ?_
                          refine g_iadd (pc1 := 156) d_Told_lay_155 rfl ?_
                          refine g_aload_n (pc1 := 157) d_Told_lay_156 rfl 1 rfl ?_
                          refine g_iload_n (pc1 := 158) d_Told_lay_157 rfl 2 rfl ?_
                          refine g_iload (pc1 := 160) d_Told_lay_158 rfl 7 rfl ?_
                          refine g_callV0 (pc1 := 163) (As := [.int p2, .int v1575]) (rest := [.int (((M1576 383 7) * 3) + v1575), .ref 389]) d_Told_lay_160 rfl mo_Told_70 mi_Land_sumOf mv_Land_sumOf rfl (shLa_0 hLd1) (ltLa_0 hLd1) (by decide) rfl rfl (Nat.le_of_ble_eq_true rfl) ?_
                          refine t1_Land_sumOf hld Ld1 hLd1 _ _ (fun r1589 => ?_)
                          refine g_iload (pc1 := 165) d_Told_lay_163 rfl 8 rfl ?_
                          refine g_iadd (pc1 := 166) d_Told_lay_165 rfl ?_
                          refine g_callS0 (pc1 := 169) (As := [.ref 389, .int (((M1576 383 7) * 3) + v1575), .int (r1589 + 0)]) (rest := []) d_Told_lay_166 rfl mo_Told_37 ms_Main_put (by decide) rfl rfl (Nat.le_of_ble_eq_true rfl) ?_
                          refine t1_Main_put hld 389 sh_389 (by decide) (by decide) _ _ (fun  M1590 L1591 k1592 => ?_)
                          obtain ⟨x1593, ex1593⟩ : ∃ y : Int32, y = v1575 + 1 := ⟨_, rfl⟩
                          refine g_iinc (pc1 := 172) (v := x1593) (lv' := [(0, .ref 383), (1, .ref Ld1), (2, .int p2), (3, .int p3), (4, .int 1), (5, .int x1463), (6, .int x1465), (7, .int x1593), (8, .int 0)]) d_Told_lay_169 rfl 7 rfl (by rw [ex1593]; rfl) (by decide) [1, 2, 3, 4, 5, 6, 7, 0, 8] rfl ?_
                          refine g_goto (tgt := 115) d_Told_lay_172 (by decide) ?_
                          refine Wp.loc (lv' := [(0, .ref 383), (1, .ref Ld1), (2, .int p2), (3, .int p3), (4, .int 1), (5, .int x1463), (6, .int x1465), (7, .int x1593)]) [0, 1, 2, 3, 4, 5, 6, 7] rfl ?_
                          exact ih1572 x1593 M1590 L1591 (Kp.trans k1578 (Kp.mono k1592 (one_S rfl))) (nn_up (y := (3 : Int32)) h1580 ex1593 n1579) (md_up h1580 ex1593 hm1573)
                  exact LP1574 _ 0 M1568 L1569 (Kp.trans (Kp.trans Kp.rf (Kp.mono k1567 (one_S rfl))) (Kp.mono k1570 (one_S rfl))) (by decide) (Nat.lt_succ_self _)
                · refine g_iconst (pc1 := 86) (v := 0) d_Told_lay_85 rfl (by decide) ?_
                  refine g_ireturn (Or.inr ⟨rfl, rfl⟩) d_Told_lay_86 rfl ?_
                  exact hQ _ _ _ (Or.inl rfl) Kp.rf
      · refine g_iload_n (pc1 := 27) d_Told_lay_26 rfl 3 rfl ?_
        refine g_iconst (pc1 := 28) (v := 1) d_Told_lay_27 rfl (by decide) ?_
        refine g_isub (pc1 := 29) d_Told_lay_28 rfl ?_
        refine g_goto (tgt := 38) d_Told_lay_29 (by decide) ?_
        refine Wp.topi (fun x1594 ex1594 => ?_)
        refine g_istore (pc1 := 40) (lv' := [(0, .ref 383), (1, .ref Ld1), (2, .int p2), (3, .int p3), (4, .int 1), (5, .int x1594)]) d_Told_lay_38 rfl (by decide) [1, 2, 3, 4, 5, 0] rfl ?_
        refine g_aload_n (pc1 := 41) d_Told_lay_40 rfl 1 rfl ?_
        refine g_iload_n (pc1 := 42) d_Told_lay_41 rfl 2 rfl ?_
        refine g_callV0 (pc1 := 45) (As := [.int p2]) (rest := []) d_Told_lay_42 rfl mo_Told_56 mi_Land_manyIn mv_Land_manyIn rfl (shLa_0 hLd1) (ltLa_0 hLd1) (by decide) rfl rfl (Nat.le_of_ble_eq_true rfl) ?_
        refine t1_Land_manyIn hld Ld1 hLd1 _ (fun r1595 => ?_)
        refine g_iload (pc1 := 47) d_Told_lay_45 rfl 4 rfl ?_
        refine g_iadd (pc1 := 48) d_Told_lay_47 rfl ?_
        refine Wp.topi (fun x1596 ex1596 => ?_)
        refine g_istore (pc1 := 50) (lv' := [(0, .ref 383), (1, .ref Ld1), (2, .int p2), (3, .int p3), (4, .int 1), (5, .int x1594), (6, .int x1596)]) d_Told_lay_48 rfl (by decide) [1, 2, 3, 4, 5, 6, 0] rfl ?_
        refine g_iload (pc1 := 52) d_Told_lay_50 rfl 4 rfl ?_
        refine g_if_eq (pc1 := 55) (tgt := 64) d_Told_lay_52 (by decide) rfl (fun h1597 => ?_) (fun h1597 => ?_)
        · refine g_iload (pc1 := 66) d_Told_lay_64 rfl 4 rfl ?_
          refine g_if_ge (pc1 := 69) (tgt := 79) d_Told_lay_66 (by decide) rfl (fun h1598 => ?_) (fun h1598 => ?_)
          · refine g_iload (pc1 := 81) d_Told_lay_79 rfl 6 rfl ?_
            refine g_iconst (pc1 := 82) (v := 1) d_Told_lay_81 rfl (by decide) ?_
            refine g_icmp_ge (pc1 := 85) (tgt := 87) d_Told_lay_82 (by decide) rfl (fun h1599 => ?_) (fun h1599 => ?_)
            · refine g_aload_n (pc1 := 88) d_Told_lay_87 rfl 0 rfl ?_
              refine g_getr (pc1 := 91) d_Told_lay_88 rfl ⟨_, fo_Told_21⟩ sh_383 (by decide) (rf_383_4 ld) ?_
              refine g_aload_n (pc1 := 92) d_Told_lay_91 rfl 0 rfl ?_
              refine g_geti (pc1 := 95) d_Told_lay_92 rfl ⟨_, fo_Told_41⟩ sh_383 (by decide) ?_
              refine g_iload_n (pc1 := 96) d_Told_lay_95 rfl 2 rfl ?_
              refine g_callS0 (pc1 := 99) (As := [.ref 387, .int (M 383 7), .int p2]) (rest := []) d_Told_lay_96 rfl mo_Told_37 ms_Main_put (by decide) rfl rfl (Nat.le_of_ble_eq_true rfl) ?_
              refine t1_Main_put hld 387 sh_387 (by decide) (by decide) _ _ (fun  M1600 L1601 k1602 => ?_)
              refine g_aload_n (pc1 := 100) d_Told_lay_99 rfl 0 rfl ?_
              refine g_getr (pc1 := 103) d_Told_lay_100 rfl ⟨_, fo_Told_24⟩ sh_383 (by decide) (rf_383_5 ld) ?_
              refine g_aload_n (pc1 := 104) d_Told_lay_103 rfl 0 rfl ?_
              refine g_geti (pc1 := 107) d_Told_lay_104 rfl ⟨_, fo_Told_41⟩ sh_383 (by decide) ?_
              refine g_iload (pc1 := 109) d_Told_lay_107 rfl 6 rfl ?_
              refine g_callS0 (pc1 := 112) (As := [.ref 388, .int (M1600 383 7), .int x1596]) (rest := []) d_Told_lay_109 rfl mo_Told_37 ms_Main_put (by decide) rfl rfl (Nat.le_of_ble_eq_true rfl) ?_
              refine t1_Main_put hld 388 sh_388 (by decide) (by decide) _ _ (fun  M1603 L1604 k1605 => ?_)
              refine g_iconst (pc1 := 113) (v := 0) d_Told_lay_112 rfl (by decide) ?_
              refine g_istore (pc1 := 115) (lv' := [(0, .ref 383), (1, .ref Ld1), (2, .int p2), (3, .int p3), (4, .int 1), (5, .int x1594), (6, .int x1596), (7, .int 0)]) d_Told_lay_113 rfl (by decide) [1, 2, 3, 4, 5, 6, 7, 0] rfl ?_
              have LP1609 : ∀ (f1606 : Nat) (v1610 : Int32) (M1611 : gM) (L1612 : gL), Kp S1 M L M1611 L1612 → ¬ v1610 < 0 → ((3 : Int32).toInt - v1610.toInt).toNat < f1606 → Wp l y_Told_lay (0, 0, 447) 447 0 0 115 [(0, .ref 383), (1, .ref Ld1), (2, .int p2), (3, .int p3), (4, .int 1), (5, .int x1594), (6, .int x1596), (7, .int v1610)] [] M1611 L1612 (rf ld) Q := by
                intro f1606
                induction f1606 with
                | zero => intro v1610 M1611 L1612 _ _ hm1608; exact absurd hm1608 (Nat.not_lt_zero _)
                | succ f1606 ih1607 =>
                  intro v1610 M1611 L1612 k1613 n1614 hm1608
                  refine g_iload (pc1 := 117) d_Told_lay_115 rfl 7 rfl ?_
                  refine g_iconst (pc1 := 118) (v := 3) d_Told_lay_117 rfl (by decide) ?_
                  refine g_icmp_ge (pc1 := 121) (tgt := 175) d_Told_lay_118 (by decide) rfl (fun h1615 => ?_) (fun h1615 => ?_)
                  · refine g_iconst (pc1 := 176) (v := 1) d_Told_lay_175 rfl (by decide) ?_
                    refine g_ireturn (Or.inr ⟨rfl, rfl⟩) d_Told_lay_176 rfl ?_
                    exact hQ _ _ _ (Or.inr rfl) k1613
                  · refine g_iload (pc1 := 123) d_Told_lay_121 rfl 4 rfl ?_
                    refine g_if_ne (pc1 := 126) (tgt := 130) d_Told_lay_123 (by decide) rfl (fun h1616 => ?_) (fun h1616 => ?_)
                    · refine g_iload (pc1 := 132) d_Told_lay_130 rfl 4 rfl ?_
                      refine g_aload_n (pc1 := 133) d_Told_lay_132 rfl 1 rfl ?_
                      refine g_iload (pc1 := 135) d_Told_lay_133 rfl 5 rfl ?_
                      refine g_iload (pc1 := 137) d_Told_lay_135 rfl 7 rfl ?_
                      refine g_callV0 (pc1 := 140) (As := [.int x1594, .int v1610]) (rest := [.int 1]) d_Told_lay_137 rfl mo_Told_67 mi_Land_broughtBy mv_Land_broughtBy rfl (shLa_0 hLd1) (ltLa_0 hLd1) (by decide) rfl rfl (Nat.le_of_ble_eq_true rfl) ?_
                      refine t1_Land_broughtBy hld Ld1 hLd1 _ _ (fun r1617 => ?_)
                      refine g_imul (pc1 := 141) d_Told_lay_140 rfl ?_
                      refine Wp.topi (fun x1618 ex1618 => ?_)
                      refine g_istore (pc1 := 143) (lv' := [(0, .ref 383), (1, .ref Ld1), (2, .int p2), (3, .int p3), (4, .int 1), (5, .int x1594), (6, .int x1596), (7, .int v1610), (8, .int x1618)]) d_Told_lay_141 rfl (by decide) [1, 2, 3, 4, 5, 6, 7, 8, 0] rfl ?_
                      refine g_aload_n (pc1 := 144) d_Told_lay_143 rfl 0 rfl ?_
                      refine g_getr (pc1 := 147) d_Told_lay_144 rfl ⟨_, fo_Told_27⟩ sh_383 (by decide) (rf_383_6 ld) ?_
                      refine g_aload_n (pc1 := 148) d_Told_lay_147 rfl 0 rfl ?_
                      refine g_geti (pc1 := 151) d_Told_lay_148 rfl ⟨_, fo_Told_41⟩ sh_383 (by decide) ?_
                      refine g_iconst (pc1 := 152) (v := 3) d_Told_lay_151 rfl (by decide) ?_
                      refine g_imul (pc1 := 153) d_Told_lay_152 rfl ?_
                      refine g_iload (pc1 := 155) d_Told_lay_153 rfl 7 rfl ?_
                      refine g_iadd (pc1 := 156) d_Told_lay_155 rfl ?_
                      refine g_aload_n (pc1 := 157) d_Told_lay_156 rfl 1 rfl ?_
                      refine g_iload_n (pc1 := 158) d_Told_lay_157 rfl 2 rfl ?_
                      refine g_iload (pc1 := 160) d_Told_lay_158 rfl 7 rfl ?_
                      refine g_callV0 (pc1 := 163) (As := [.int p2, .int v1610]) (rest := [.int (((M1611 383 7) * 3) + v1610), .ref 389]) d_Told_lay_160 rfl mo_Told_70 mi_Land_sumOf mv_Land_sumOf rfl (shLa_0 hLd1) (ltLa_0 hLd1) (by decide) rfl rfl (Nat.le_of_ble_eq_true rfl) ?_
                      refine t1_Land_sumOf hld Ld1 hLd1 _ _ (fun r1619 => ?_)
                      refine g_iload (pc1 := 165) d_Told_lay_163 rfl 8 rfl ?_
                      refine g_iadd (pc1 := 166) d_Told_lay_165 rfl ?_
                      refine g_callS0 (pc1 := 169) (As := [.ref 389, .int (((M1611 383 7) * 3) + v1610), .int (r1619 + x1618)]) (rest := []) d_Told_lay_166 rfl mo_Told_37 ms_Main_put (by decide) rfl rfl (Nat.le_of_ble_eq_true rfl) ?_
                      refine t1_Main_put hld 389 sh_389 (by decide) (by decide) _ _ (fun  M1620 L1621 k1622 => ?_)
                      obtain ⟨x1623, ex1623⟩ : ∃ y : Int32, y = v1610 + 1 := ⟨_, rfl⟩
                      refine g_iinc (pc1 := 172) (v := x1623) (lv' := [(0, .ref 383), (1, .ref Ld1), (2, .int p2), (3, .int p3), (4, .int 1), (5, .int x1594), (6, .int x1596), (7, .int x1623), (8, .int x1618)]) d_Told_lay_169 rfl 7 rfl (by rw [ex1623]; rfl) (by decide) [1, 2, 3, 4, 5, 6, 7, 0, 8] rfl ?_
                      refine g_goto (tgt := 115) d_Told_lay_172 (by decide) ?_
                      refine Wp.loc (lv' := [(0, .ref 383), (1, .ref Ld1), (2, .int p2), (3, .int p3), (4, .int 1), (5, .int x1594), (6, .int x1596), (7, .int x1623)]) [0, 1, 2, 3, 4, 5, 6, 7] rfl ?_
                      exact ih1607 x1623 M1620 L1621 (Kp.trans k1613 (Kp.mono k1622 (one_S rfl))) (nn_up (y := (3 : Int32)) h1615 ex1623 n1614) (md_up h1615 ex1623 hm1608)
                    · refine g_iconst (pc1 := 127) (v := 0) d_Told_lay_126 rfl (by decide) ?_
                      refine g_goto (tgt := 141) d_Told_lay_127 (by decide) ?_
                      refine g_istore (pc1 := 143) (lv' := [(0, .ref 383), (1, .ref Ld1), (2, .int p2), (3, .int p3), (4, .int 1), (5, .int x1594), (6, .int x1596), (7, .int v1610), (8, .int 0)]) d_Told_lay_141 rfl (by decide) [1, 2, 3, 4, 5, 6, 7, 8, 0] rfl ?_
                      refine g_aload_n (pc1 := 144) d_Told_lay_143 rfl 0 rfl ?_
                      refine g_getr (pc1 := 147) d_Told_lay_144 rfl ⟨_, fo_Told_27⟩ sh_383 (by decide) (rf_383_6 ld) ?_
                      refine g_aload_n (pc1 := 148) d_Told_lay_147 rfl 0 rfl ?_
                      refine g_geti (pc1 := 151) d_Told_lay_148 rfl ⟨_, fo_Told_41⟩ sh_383 (by decide) ?_
                      refine g_iconst (pc1 := 152) (v := 3) d_Told_lay_151 rfl (by decide) ?_
                      refine g_imul (pc1 := 153) d_Told_lay_152 rfl ?_
                      refine g_iload (pc1 := 155) d_Told_lay_153 rfl 7 rfl ?_
                      refine g_iadd (pc1 := 156) d_Told_lay_155 rfl ?_
                      refine g_aload_n (pc1 := 157) d_Told_lay_156 rfl 1 rfl ?_
                      refine g_iload_n (pc1 := 158) d_Told_lay_157 rfl 2 rfl ?_
                      refine g_iload (pc1 := 160) d_Told_lay_158 rfl 7 rfl ?_
                      refine g_callV0 (pc1 := 163) (As := [.int p2, .int v1610]) (rest := [.int (((M1611 383 7) * 3) + v1610), .ref 389]) d_Told_lay_160 rfl mo_Told_70 mi_Land_sumOf mv_Land_sumOf rfl (shLa_0 hLd1) (ltLa_0 hLd1) (by decide) rfl rfl (Nat.le_of_ble_eq_true rfl) ?_
                      refine t1_Land_sumOf hld Ld1 hLd1 _ _ (fun r1624 => ?_)
                      refine g_iload (pc1 := 165) d_Told_lay_163 rfl 8 rfl ?_
                      refine g_iadd (pc1 := 166) d_Told_lay_165 rfl ?_
                      refine g_callS0 (pc1 := 169) (As := [.ref 389, .int (((M1611 383 7) * 3) + v1610), .int (r1624 + 0)]) (rest := []) d_Told_lay_166 rfl mo_Told_37 ms_Main_put (by decide) rfl rfl (Nat.le_of_ble_eq_true rfl) ?_
                      refine t1_Main_put hld 389 sh_389 (by decide) (by decide) _ _ (fun  M1625 L1626 k1627 => ?_)
                      obtain ⟨x1628, ex1628⟩ : ∃ y : Int32, y = v1610 + 1 := ⟨_, rfl⟩
                      refine g_iinc (pc1 := 172) (v := x1628) (lv' := [(0, .ref 383), (1, .ref Ld1), (2, .int p2), (3, .int p3), (4, .int 1), (5, .int x1594), (6, .int x1596), (7, .int x1628), (8, .int 0)]) d_Told_lay_169 rfl 7 rfl (by rw [ex1628]; rfl) (by decide) [1, 2, 3, 4, 5, 6, 7, 0, 8] rfl ?_
                      refine g_goto (tgt := 115) d_Told_lay_172 (by decide) ?_
                      refine Wp.loc (lv' := [(0, .ref 383), (1, .ref Ld1), (2, .int p2), (3, .int p3), (4, .int 1), (5, .int x1594), (6, .int x1596), (7, .int x1628)]) [0, 1, 2, 3, 4, 5, 6, 7] rfl ?_
                      exact ih1607 x1628 M1625 L1626 (Kp.trans k1613 (Kp.mono k1627 (one_S rfl))) (nn_up (y := (3 : Int32)) h1615 ex1628 n1614) (md_up h1615 ex1628 hm1608)
              exact LP1609 _ 0 M1603 L1604 (Kp.trans (Kp.trans Kp.rf (Kp.mono k1602 (one_S rfl))) (Kp.mono k1605 (one_S rfl))) (by decide) (Nat.lt_succ_self _)
            · refine g_iconst (pc1 := 86) (v := 0) d_Told_lay_85 rfl (by decide) ?_
              refine g_ireturn (Or.inr ⟨rfl, rfl⟩) d_Told_lay_86 rfl ?_
              exact hQ _ _ _ (Or.inl rfl) Kp.rf
          · refine g_aload_n (pc1 := 70) d_Told_lay_69 rfl 1 rfl ?_
            refine g_iload_n (pc1 := 71) d_Told_lay_70 rfl 2 rfl ?_
            refine g_iload (pc1 := 73) d_Told_lay_71 rfl 5 rfl ?_
            refine g_callV0 (pc1 := 76) (As := [.int p2, .int x1594]) (rest := []) d_Told_lay_73 rfl mo_Told_63 mi_Land_inDish mv_Land_inDish rfl (shLa_0 hLd1) (ltLa_0 hLd1) (by decide) rfl rfl (Nat.le_of_ble_eq_true rfl) ?_
            refine t1_Land_inDish hld Ld1 hLd1 _ _ (fun r1629 => ?_)
            refine g_if_eq (pc1 := 79) (tgt := 85) d_Told_lay_76 (by decide) rfl (fun h1630 => ?_) (fun h1630 => ?_)
            · refine g_iconst (pc1 := 86) (v := 0) d_Told_lay_85 rfl (by decide) ?_
              refine g_ireturn (Or.inr ⟨rfl, rfl⟩) d_Told_lay_86 rfl ?_
              exact hQ _ _ _ (Or.inl rfl) Kp.rf
            · refine g_iload (pc1 := 81) d_Told_lay_79 rfl 6 rfl ?_
              refine g_iconst (pc1 := 82) (v := 1) d_Told_lay_81 rfl (by decide) ?_
              refine g_icmp_ge (pc1 := 85) (tgt := 87) d_Told_lay_82 (by decide) rfl (fun h1631 => ?_) (fun h1631 => ?_)
              · refine g_aload_n (pc1 := 88) d_Told_lay_87 rfl 0 rfl ?_
                refine g_getr (pc1 := 91) d_Told_lay_88 rfl ⟨_, fo_Told_21⟩ sh_383 (by decide) (rf_383_4 ld) ?_
                refine g_aload_n (pc1 := 92) d_Told_lay_91 rfl 0 rfl ?_
                refine g_geti (pc1 := 95) d_Told_lay_92 rfl ⟨_, fo_Told_41⟩ sh_383 (by decide) ?_
                refine g_iload_n (pc1 := 96) d_Told_lay_95 rfl 2 rfl ?_
                refine g_callS0 (pc1 := 99) (As := [.ref 387, .int (M 383 7), .int p2]) (rest := []) d_Told_lay_96 rfl mo_Told_37 ms_Main_put (by decide) rfl rfl (Nat.le_of_ble_eq_true rfl) ?_
                refine t1_Main_put hld 387 sh_387 (by decide) (by decide) _ _ (fun  M1632 L1633 k1634 => ?_)
                refine g_aload_n (pc1 := 100) d_Told_lay_99 rfl 0 rfl ?_
                refine g_getr (pc1 := 103) d_Told_lay_100 rfl ⟨_, fo_Told_24⟩ sh_383 (by decide) (rf_383_5 ld) ?_
                refine g_aload_n (pc1 := 104) d_Told_lay_103 rfl 0 rfl ?_
                refine g_geti (pc1 := 107) d_Told_lay_104 rfl ⟨_, fo_Told_41⟩ sh_383 (by decide) ?_
                refine g_iload (pc1 := 109) d_Told_lay_107 rfl 6 rfl ?_
                refine g_callS0 (pc1 := 112) (As := [.ref 388, .int (M1632 383 7), .int x1596]) (rest := []) d_Told_lay_109 rfl mo_Told_37 ms_Main_put (by decide) rfl rfl (Nat.le_of_ble_eq_true rfl) ?_
                refine t1_Main_put hld 388 sh_388 (by decide) (by decide) _ _ (fun  M1635 L1636 k1637 => ?_)
                refine g_iconst (pc1 := 113) (v := 0) d_Told_lay_112 rfl (by decide) ?_
                refine g_istore (pc1 := 115) (lv' := [(0, .ref 383), (1, .ref Ld1), (2, .int p2), (3, .int p3), (4, .int 1), (5, .int x1594), (6, .int x1596), (7, .int 0)]) d_Told_lay_113 rfl (by decide) [1, 2, 3, 4, 5, 6, 7, 0] rfl ?_
                have LP1641 : ∀ (f1638 : Nat) (v1642 : Int32) (M1643 : gM) (L1644 : gL), Kp S1 M L M1643 L1644 → ¬ v1642 < 0 → ((3 : Int32).toInt - v1642.toInt).toNat < f1638 → Wp l y_Told_lay (0, 0, 447) 447 0 0 115 [(0, .ref 383), (1, .ref Ld1), (2, .int p2), (3, .int p3), (4, .int 1), (5, .int x1594), (6, .int x1596), (7, .int v1642)] [] M1643 L1644 (rf ld) Q := by
                  intro f1638
                  induction f1638 with
                  | zero => intro v1642 M1643 L1644 _ _ hm1640; exact absurd hm1640 (Nat.not_lt_zero _)
                  | succ f1638 ih1639 =>
                    intro v1642 M1643 L1644 k1645 n1646 hm1640
                    refine g_iload (pc1 := 117) d_Told_lay_115 rfl 7 rfl ?_
                    refine g_iconst (pc1 := 118) (v := 3) d_Told_lay_117 rfl (by decide) ?_
                    refine g_icmp_ge (pc1 := 121) (tgt := 175) d_Told_lay_118 (by decide) rfl (fun h1647 => ?_) (fun h1647 => ?_)
                    · refine g_iconst (pc1 := 176) (v := 1) d_Told_lay_175 rfl (by decide) ?_
                      refine g_ireturn (Or.inr ⟨rfl, rfl⟩) d_Told_lay_176 rfl ?_
                      exact hQ _ _ _ (Or.inr rfl) k1645
                    · refine g_iload (pc1 := 123) d_Told_lay_121 rfl 4 rfl ?_
                      refine g_if_ne (pc1 := 126) (tgt := 130) d_Told_lay_123 (by decide) rfl (fun h1648 => ?_) (fun h1648 => ?_)
                      · refine g_iload (pc1 := 132) d_Told_lay_130 rfl 4 rfl ?_
                        refine g_aload_n (pc1 := 133) d_Told_lay_132 rfl 1 rfl ?_
                        refine g_iload (pc1 := 135) d_Told_lay_133 rfl 5 rfl ?_
                        refine g_iload (pc1 := 137) d_Told_lay_135 rfl 7 rfl ?_
                        refine g_callV0 (pc1 := 140) (As := [.int x1594, .int v1642]) (rest := [.int 1]) d_Told_lay_137 rfl mo_Told_67 mi_Land_broughtBy mv_Land_broughtBy rfl (shLa_0 hLd1) (ltLa_0 hLd1) (by decide) rfl rfl (Nat.le_of_ble_eq_true rfl) ?_
                        refine t1_Land_broughtBy hld Ld1 hLd1 _ _ (fun r1649 => ?_)
                        refine g_imul (pc1 := 141) d_Told_lay_140 rfl ?_
                        refine Wp.topi (fun x1650 ex1650 => ?_)
                        refine g_istore (pc1 := 143) (lv' := [(0, .ref 383), (1, .ref Ld1), (2, .int p2), (3, .int p3), (4, .int 1), (5, .int x1594), (6, .int x1596), (7, .int v1642), (8, .int x1650)]) d_Told_lay_141 rfl (by decide) [1, 2, 3, 4, 5, 6, 7, 8, 0] rfl ?_
                        refine g_aload_n (pc1 := 144) d_Told_lay_143 rfl 0 rfl ?_
                        refine g_getr (pc1 := 147) d_Told_lay_144 rfl ⟨_, fo_Told_27⟩ sh_383 (by decide) (rf_383_6 ld) ?_
                        refine g_aload_n (pc1 := 148) d_Told_lay_147 rfl 0 rfl ?_
                        refine g_geti (pc1 := 151) d_Told_lay_148 rfl ⟨_, fo_Told_41⟩ sh_383 (by decide) ?_
                        refine g_iconst (pc1 := 152) (v := 3) d_Told_lay_151 rfl (by decide) ?_
                        refine g_imul (pc1 := 153) d_Told_lay_152 rfl ?_
                        refine g_iload (pc1 := 155) d_Told_lay_153 rfl 7 rfl ?_
                        refine g_iadd (pc1 := 156) d_Told_lay_155 rfl ?_
                        refine g_aload_n (pc1 := 157) d_Told_lay_156 rfl 1 rfl ?_
                        refine g_iload_n (pc1 := 158) d_Told_lay_157 rfl 2 rfl ?_
                        refine g_iload (pc1 := 160) d_Told_lay_158 rfl 7 rfl ?_
                        refine g_callV0 (pc1 := 163) (As := [.int p2, .int v1642]) (rest := [.int (((M1643 383 7) * 3) + v1642), .ref 389]) d_Told_lay_160 rfl mo_Told_70 mi_Land_sumOf mv_Land_sumOf rfl (shLa_0 hLd1) (ltLa_0 hLd1) (by decide) rfl rfl (Nat.le_of_ble_eq_true rfl) ?_
                        refine t1_Land_sumOf hld Ld1 hLd1 _ _ (fun r1651 => ?_)
                        refine g_iload (pc1 := 165) d_Told_lay_163 rfl 8 rfl ?_
                        refine g_iadd (pc1 := 166) d_Told_lay_165 rfl ?_
                        refine g_callS0 (pc1 := 169) (As := [.ref 389, .int (((M1643 383 7) * 3) + v1642), .int (r1651 + x1650)]) (rest := []) d_Told_lay_166 rfl mo_Told_37 ms_Main_put (by decide) rfl rfl (Nat.le_of_ble_eq_true rfl) ?_
                        refine t1_Main_put hld 389 sh_389 (by decide) (by decide) _ _ (fun  M1652 L1653 k1654 => ?_)
                        obtain ⟨x1655, ex1655⟩ : ∃ y : Int32, y = v1642 + 1 := ⟨_, rfl⟩
                        refine g_iinc (pc1 := 172) (v := x1655) (lv' := [(0, .ref 383), (1, .ref Ld1), (2, .int p2), (3, .int p3), (4, .int 1), (5, .int x1594), (6, .int x1596), (7, .int x1655), (8, .int x1650)]) d_Told_lay_169 rfl 7 rfl (by rw [ex1655]; rfl) (by decide) [1, 2, 3, 4, 5, 6, 7, 0, 8] rfl ?_
                        refine g_goto (tgt := 115) d_Told_lay_172 (by decide) ?_
                        refine Wp.loc (lv' := [(0, .ref 383), (1, .ref Ld1), (2, .int p2), (3, .int p3), (4, .int 1), (5, .int x1594), (6, .int x1596), (7, .int x1655)]) [0, 1, 2, 3, 4, 5, 6, 7] rfl ?_
                        exact ih1639 x1655 M1652 L1653 (Kp.trans k1645 (Kp.mono k1654 (one_S rfl))) (nn_up (y := (3 : Int32)) h1647 ex1655 n1646) (md_up h1647 ex1655 hm1640)
                      · refine g_iconst (pc1 := 127) (v := 0) d_Told_lay_126 rfl (by decide) ?_
                        refine g_goto (tgt := 141) d_Told_lay_127 (by decide) ?_
                        refine g_istore (pc1 := 143) (lv' := [(0, .ref 383), (1, .ref Ld1), (2, .int p2), (3, .int p3), (4, .int 1), (5, .int x1594), (6, .int x1596), (7, .int v1642), (8, .int 0)]) d_Told_lay_141 rfl (by decide) [1, 2, 3, 4, 5, 6, 7, 8, 0] rfl ?_
                        refine g_aload_n (pc1 := 144) d_Told_lay_143 rfl 0 rfl ?_
                        refine g_getr (pc1 := 147) d_Told_lay_144 rfl ⟨_, fo_Told_27⟩ sh_383 (by decide) (rf_383_6 ld) ?_
                        refine g_aload_n (pc1 := 148) d_Told_lay_147 rfl 0 rfl ?_
                        refine g_geti (pc1 := 151) d_Told_lay_148 rfl ⟨_, fo_Told_41⟩ sh_383 (by decide) ?_
                        refine g_iconst (pc1 := 152) (v := 3) d_Told_lay_151 rfl (by decide) ?_
                        refine g_imul (pc1 := 153) d_Told_lay_152 rfl ?_
                        refine g_iload (pc1 := 155) d_Told_lay_153 rfl 7 rfl ?_
                        refine g_iadd (pc1 := 156) d_Told_lay_155 rfl ?_
                        refine g_aload_n (pc1 := 157) d_Told_lay_156 rfl 1 rfl ?_
                        refine g_iload_n (pc1 := 158) d_Told_lay_157 rfl 2 rfl ?_
                        refine g_iload (pc1 := 160) d_Told_lay_158 rfl 7 rfl ?_
                        refine g_callV0 (pc1 := 163) (As := [.int p2, .int v1642]) (rest := [.int (((M1643 383 7) * 3) + v1642), .ref 389]) d_Told_lay_160 rfl mo_Told_70 mi_Land_sumOf mv_Land_sumOf rfl (shLa_0 hLd1) (ltLa_0 hLd1) (by decide) rfl rfl (Nat.le_of_ble_eq_true rfl) ?_
                        refine t1_Land_sumOf hld Ld1 hLd1 _ _ (fun r1656 => ?_)
                        refine g_iload (pc1 := 165) d_Told_lay_163 rfl 8 rfl ?_
                        refine g_iadd (pc1 := 166) d_Told_lay_165 rfl ?_
                        refine g_callS0 (pc1 := 169) (As := [.ref 389, .int (((M1643 383 7) * 3) + v1642), .int (r1656 + 0)]) (rest := []) d_Told_lay_166 rfl mo_Told_37 ms_Main_put (by decide) rfl rfl (Nat.le_of_ble_eq_true rfl) ?_
                        refine t1_Main_put hld 389 sh_389 (by decide) (by decide) _ _ (fun  M1657 L1658 k1659 => ?_)
                        obtain ⟨x1660, ex1660⟩ : ∃ y : Int32, y = v1642 + 1 := ⟨_, rfl⟩
                        refine g_iinc (pc1 := 172) (v := x1660) (lv' := [(0, .ref 383), (1, .ref Ld1), (2, .int p2), (3, .int p3), (4, .int 1), (5, .int x1594), (6, .int x1596), (7, .int x1660), (8, .int 0)]) d_Told_lay_169 rfl 7 rfl (by rw [ex1660]; rfl) (by decide) [1, 2, 3, 4, 5, 6, 7, 0, 8] rfl ?_
                        refine g_goto (tgt := 115) d_Told_lay_172 (by decide) ?_
                        refine Wp.loc (lv' := [(0, .ref 383), (1, .ref Ld1), (2, .int p2), (3, .int p3), (4, .int 1), (5, .int x1594), (6, .int x1596), (7, .int x1660)]) [0, 1, 2, 3, 4, 5, 6, 7] rfl ?_
                        exact ih1639 x1660 M1657 L1658 (Kp.trans k1645 (Kp.mono k1659 (one_S rfl))) (nn_up (y := (3 : Int32)) h1647 ex1660 n1646) (md_up h1647 ex1660 hm1640)
                exact LP1641 _ 0 M1635 L1636 (Kp.trans (Kp.trans Kp.rf (Kp.mono k1634 (one_S rfl))) (Kp.mono k1637 (one_S rfl))) (by decide) (Nat.lt_succ_self _)
              · refine g_iconst (pc1 := 86) (v := 0) d_Told_lay_85 rfl (by decide) ?_
                refine g_ireturn (Or.inr ⟨rfl, rfl⟩) d_Told_lay_86 rfl ?_
                exact hQ _ _ _ (Or.inl rfl) Kp.rf
        · refine g_iload (pc1 := 57) d_Told_lay_55 rfl 5 rfl ?_
          refine g_aload_n (pc1 := 58) d_Told_lay_57 rfl 1 rfl ?_
          refine g_geti (pc1 := 61) d_Told_lay_58 rfl ⟨_, fo_Told_60⟩ (shLa_0 hLd1) (ltLa_0 hLd1) ?_
          refine g_icmp_ge (pc1 := 64) (tgt := 85) d_Told_lay_61 (by decide) rfl (fun h1661 => ?_) (fun h1661 => ?_)
          · refine g_iconst (pc1 := 86) (v := 0) d_Told_lay_85 rfl (by decide) ?_
            refine g_ireturn (Or.inr ⟨rfl, rfl⟩) d_Told_lay_86 rfl ?_
            exact hQ _ _ _ (Or.inl rfl) Kp.rf
          · refine g_iload (pc1 := 66) d_Told_lay_64 rfl 4 rfl ?_
            refine g_if_ge (pc1 := 69) (tgt := 79) d_Told_lay_66 (by decide) rfl (fun h1662 => ?_) (fun h1662 => ?_)
            · refine g_iload (pc1 := 81) d_Told_lay_79 rfl 6 rfl ?_
              refine g_iconst (pc1 := 82) (v := 1) d_Told_lay_81 rfl (by decide) ?_
              refine g_icmp_ge (pc1 := 85) (tgt := 87) d_Told_lay_82 (by decide) rfl (fun h1663 => ?_) (fun h1663 => ?_)
              · refine g_aload_n (pc1 := 88) d_Told_lay_87 rfl 0 rfl ?_
                refine g_getr (pc1 := 91) d_Told_lay_88 rfl ⟨_, fo_Told_21⟩ sh_383 (by decide) (rf_383_4 ld) ?_
                refine g_aload_n (pc1 := 92) d_Told_lay_91 rfl 0 rfl ?_
                refine g_geti (pc1 := 95) d_Told_lay_92 rfl ⟨_, fo_Told_41⟩ sh_383 (by decide) ?_
                refine g_iload_n (pc1 := 96) d_Told_lay_95 rfl 2 rfl ?_
                refine g_callS0 (pc1 := 99) (As := [.ref 387, .int (M 383 7), .int p2]) (rest := []) d_Told_lay_96 rfl mo_Told_37 ms_Main_put (by decide) rfl rfl (Nat.le_of_ble_eq_true rfl) ?_
                refine t1_Main_put hld 387 sh_387 (by decide) (by decide) _ _ (fun  M1664 L1665 k1666 => ?_)
                refine g_aload_n (pc1 := 100) d_Told_lay_99 rfl 0 rfl ?_
                refine g_getr (pc1 := 103) d_Told_lay_100 rfl ⟨_, fo_Told_24⟩ sh_383 (by decide) (rf_383_5 ld) ?_
                refine g_aload_n (pc1 := 104) d_Told_lay_103 rfl 0 rfl ?_
                refine g_geti (pc1 := 107) d_Told_lay_104 rfl ⟨_, fo_Told_41⟩ sh_383 (by decide) ?_
                refine g_iload (pc1 := 109) d_Told_lay_107 rfl 6 rfl ?_
                refine g_callS0 (pc1 := 112) (As := [.ref 388, .int (M1664 383 7), .int x1596]) (rest := []) d_Told_lay_109 rfl mo_Told_37 ms_Main_put (by decide) rfl rfl (Nat.le_of_ble_eq_true rfl) ?_
                refine t1_Main_put hld 388 sh_388 (by decide) (by decide) _ _ (fun  M1667 L1668 k1669 => ?_)
                refine g_iconst (pc1 := 113) (v := 0) d_Told_lay_112 rfl (by decide) ?_
                refine g_istore (pc1 := 115) (lv' := [(0, .ref 383), (1, .ref Ld1), (2, .int p2), (3, .int p3), (4, .int 1), (5, .int x1594), (6, .int x1596), (7, .int 0)]) d_Told_lay_113 rfl (by decide) [1, 2, 3, 4, 5, 6, 7, 0] rfl ?_
                have LP1673 : ∀ (f1670 : Nat) (v1674 : Int32) (M1675 : gM) (L1676 : gL), Kp S1 M L M1675 L1676 → ¬ v1674 < 0 → ((3 : Int32).toInt - v1674.toInt).toNat < f1670 → Wp l y_Told_lay (0, 0, 447) 447 0 0 115 [(0, .ref 383), (1, .ref Ld1), (2, .int p2), (3, .int p3), (4, .int 1), (5, .int x1594), (6, .int x1596), (7, .int v1674)] [] M1675 L1676 (rf ld) Q := by
                  intro f1670
                  induction f1670 with
                  | zero => intro v1674 M1675 L1676 _ _ hm1672; exact absurd hm1672 (Nat.not_lt_zero _)
                  | succ f1670 ih1671 =>
                    intro v1674 M1675 L1676 k1677 n1678 hm1672
                    refine g_iload (pc1 := 117) d_Told_lay_115 rfl 7 rfl ?_
                    refine g_iconst (pc1 := 118) (v := 3) d_Told_lay_117 rfl (by decide) ?_
                    refine g_icmp_ge (pc1 := 121) (tgt := 175) d_Told_lay_118 (by decide) rfl (fun h1679 => ?_) (fun h1679 => ?_)
                    · refine g_iconst (pc1 := 176) (v := 1) d_Told_lay_175 rfl (by decide) ?_
                      refine g_ireturn (Or.inr ⟨rfl, rfl⟩) d_Told_lay_176 rfl ?_
                      exact hQ _ _ _ (Or.inr rfl) k1677
                    · refine g_iload (pc1 := 123) d_Told_lay_121 rfl 4 rfl ?_
                      refine g_if_ne (pc1 := 126) (tgt := 130) d_Told_lay_123 (by decide) rfl (fun h1680 => ?_) (fun h1680 => ?_)
                      · refine g_iload (pc1 := 132) d_Told_lay_130 rfl 4 rfl ?_
                        refine g_aload_n (pc1 := 133) d_Told_lay_132 rfl 1 rfl ?_
                        refine g_iload (pc1 := 135) d_Told_lay_133 rfl 5 rfl ?_
                        refine g_iload (pc1 := 137) d_Told_lay_135 rfl 7 rfl ?_
                        refine g_callV0 (pc1 := 140) (As := [.int x1594, .int v1674]) (rest := [.int 1]) d_Told_lay_137 rfl mo_Told_67 mi_Land_broughtBy mv_Land_broughtBy rfl (shLa_0 hLd1) (ltLa_0 hLd1) (by decide) rfl rfl (Nat.le_of_ble_eq_true rfl) ?_
                        refine t1_Land_broughtBy hld Ld1 hLd1 _ _ (fun r1681 => ?_)
                        refine g_imul (pc1 := 141) d_Told_lay_140 rfl ?_
                        refine Wp.topi (fun x1682 ex1682 => ?_)
                        refine g_istore (pc1 := 143) (lv' := [(0, .ref 383), (1, .ref Ld1), (2, .int p2), (3, .int p3), (4, .int 1), (5, .int x1594), (6, .int x1596), (7, .int v1674), (8, .int x1682)]) d_Told_lay_141 rfl (by decide) [1, 2, 3, 4, 5, 6, 7, 8, 0] rfl ?_
                        refine g_aload_n (pc1 := 144) d_Told_lay_143 rfl 0 rfl ?_
                        refine g_getr (pc1 := 147) d_Told_lay_144 rfl ⟨_, fo_Told_27⟩ sh_383 (by decide) (rf_383_6 ld) ?_
                        refine g_aload_n (pc1 := 148) d_Told_lay_147 rfl 0 rfl ?_
                        refine g_geti (pc1 := 151) d_Told_lay_148 rfl ⟨_, fo_Told_41⟩ sh_383 (by decide) ?_
                        refine g_iconst (pc1 := 152) (v := 3) d_Told_lay_151 rfl (by decide) ?_
                        refine g_imul (pc1 := 153) d_Told_lay_152 rfl ?_
                        refine g_iload (pc1 := 155) d_Told_lay_153 rfl 7 rfl ?_
                        refine g_iadd (pc1 := 156) d_Told_lay_155 rfl ?_
                        refine g_aload_n (pc1 := 157) d_Told_lay_156 rfl 1 rfl ?_
                        refine g_iload_n (pc1 := 158) d_Told_lay_157 rfl 2 rfl ?_
                        refine g_iload (pc1 := 160) d_Told_lay_158 rfl 7 rfl ?_
                        refine g_callV0 (pc1 := 163) (As := [.int p2, .int v1674]) (rest := [.int (((M1675 383 7) * 3) + v1674), .ref 389]) d_Told_lay_160 rfl mo_Told_70 mi_Land_sumOf mv_Land_sumOf rfl (shLa_0 hLd1) (ltLa_0 hLd1) (by decide) rfl rfl (Nat.le_of_ble_eq_true rfl) ?_
                        refine t1_Land_sumOf hld Ld1 hLd1 _ _ (fun r1683 => ?_)
                        refine g_iload (pc1 := 165) d_Told_lay_163 rfl 8 rfl ?_
                        refine g_iadd (pc1 := 166) d_Told_lay_165 rfl ?_
                        refine g_callS0 (pc1 := 169) (As := [.ref 389, .int (((M1675 383 7) * 3) + v1674), .int (r1683 + x1682)]) (rest := []) d_Told_lay_166 rfl mo_Told_37 ms_Main_put (by decide) rfl rfl (Nat.le_of_ble_eq_true rfl) ?_
                        refine t1_Main_put hld 389 sh_389 (by decide) (by decide) _ _ (fun  M1684 L1685 k1686 => ?_)
                        obtain ⟨x1687, ex1687⟩ : ∃ y : Int32, y = v1674 + 1 := ⟨_, rfl⟩
                        refine g_iinc (pc1 := 172) (v := x1687) (lv' := [(0, .ref 383), (1, .ref Ld1), (2, .int p2), (3, .int p3), (4, .int 1), (5, .int x1594), (6, .int x1596), (7, .int x1687), (8, .int x1682)]) d_Told_lay_169 rfl 7 rfl (by rw [ex1687]; rfl) (by decide) [1, 2, 3, 4, 5, 6, 7, 0, 8] rfl ?_
                        refine g_goto (tgt := 115) d_Told_lay_172 (by decide) ?_
                        refine Wp.loc (lv' := [(0, .ref 383), (1, .ref Ld1), (2, .int p2), (3, .int p3), (4, .int 1), (5, .int x1594), (6, .int x1596), (7, .int x1687)]) [0, 1, 2, 3, 4, 5, 6, 7] rfl ?_
                        exact ih1671 x1687 M1684 L1685 (Kp.trans k1677 (Kp.mono k1686 (one_S rfl))) (nn_up (y := (3 : Int32)) h1679 ex1687 n1678) (md_up h1679 ex1687 hm1672)
                      · refine g_iconst (pc1 := 127) (v := 0) d_Told_lay_126 rfl (by decide) ?_
                        refine g_goto (tgt := 141) d_Told_lay_127 (by decide) ?_
                        refine g_istore (pc1 := 143) (lv' := [(0, .ref 383), (1, .ref Ld1), (2, .int p2), (3, .int p3), (4, .int 1), (5, .int x1594), (6, .int x1596), (7, .int v1674), (8, .int 0)]) d_Told_lay_141 rfl (by decide) [1, 2, 3, 4, 5, 6, 7, 8, 0] rfl ?_
                        refine g_aload_n (pc1 := 144) d_Told_lay_143 rfl 0 rfl ?_
                        refine g_getr (pc1 := 147) d_Told_lay_144 rfl ⟨_, fo_Told_27⟩ sh_383 (by decide) (rf_383_6 ld) ?_
                        refine g_aload_n (pc1 := 148) d_Told_lay_147 rfl 0 rfl ?_
                        refine g_geti (pc1 := 151) d_Told_lay_148 rfl ⟨_, fo_Told_41⟩ sh_383 (by decide) ?_
                        refine g_iconst (pc1 := 152) (v := 3) d_Told_lay_151 rfl (by decide) ?_
                        refine g_imul (pc1 := 153) d_Told_lay_152 rfl ?_
                        refine g_iload (pc1 := 155) d_Told_lay_153 rfl 7 rfl ?_
                        refine g_iadd (pc1 := 156) d_Told_lay_155 rfl ?_
                        refine g_aload_n (pc1 := 157) d_Told_lay_156 rfl 1 rfl ?_
                        refine g_iload_n (pc1 := 158) d_Told_lay_157 rfl 2 rfl ?_
                        refine g_iload (pc1 := 160) d_Told_lay_158 rfl 7 rfl ?_
                        refine g_callV0 (pc1 := 163) (As := [.int p2, .int v1674]) (rest := [.int (((M1675 383 7) * 3) + v1674), .ref 389]) d_Told_lay_160 rfl mo_Told_70 mi_Land_sumOf mv_Land_sumOf rfl (shLa_0 hLd1) (ltLa_0 hLd1) (by decide) rfl rfl (Nat.le_of_ble_eq_true rfl) ?_
                        refine t1_Land_sumOf hld Ld1 hLd1 _ _ (fun r1688 => ?_)
                        refine g_iload (pc1 := 165) d_Told_lay_163 rfl 8 rfl ?_
                        refine g_iadd (pc1 := 166) d_Told_lay_165 rfl ?_
                        refine g_callS0 (pc1 := 169) (As := [.ref 389, .int (((M1675 383 7) * 3) + v1674), .int (r1688 + 0)]) (rest := []) d_Told_lay_166 rfl mo_Told_37 ms_Main_put (by decide) rfl rfl (Nat.le_of_ble_eq_true rfl) ?_
                        refine t1_Main_put hld 389 sh_389 (by decide) (by decide) _ _ (fun  M1689 L1690 k1691 => ?_)
                        obtain ⟨x1692, ex1692⟩ : ∃ y : Int32, y = v1674 + 1 := ⟨_, rfl⟩
                        refine g_iinc (pc1 := 172) (v := x1692) (lv' := [(0, .ref 383), (1, .ref Ld1), (2, .int p2), (3, .int p3), (4, .int 1), (5, .int x1594), (6, .int x1596), (7, .int x1692), (8, .int 0)]) d_Told_lay_169 rfl 7 rfl (by rw [ex1692]; rfl) (by decide) [1, 2, 3, 4, 5, 6, 7, 0, 8] rfl ?_
                        refine g_goto (tgt := 115) d_Told_lay_172 (by decide) ?_
                        refine Wp.loc (lv' := [(0, .ref 383), (1, .ref Ld1), (2, .int p2), (3, .int p3), (4, .int 1), (5, .int x1594), (6, .int x1596), (7, .int x1692)]) [0, 1, 2, 3, 4, 5, 6, 7] rfl ?_
                        exact ih1671 x1692 M1689 L1690 (Kp.trans k1677 (Kp.mono k1691 (one_S rfl))) (nn_up (y := (3 : Int32)) h1679 ex1692 n1678) (md_up h1679 ex1692 hm1672)
                exact LP1673 _ 0 M1667 L1668 (Kp.trans (Kp.trans Kp.rf (Kp.mono k1666 (one_S rfl))) (Kp.mono k1669 (one_S rfl))) (by decide) (Nat.lt_succ_self _)
              · refine g_iconst (pc1 := 86) (v := 0) d_Told_lay_85 rfl (by decide) ?_
                refine g_ireturn (Or.inr ⟨rfl, rfl⟩) d_Told_lay_86 rfl ?_
                exact hQ _ _ _ (Or.inl rfl) Kp.rf
            · refine g_aload_n (pc1 := 70) d_Told_lay_69 rfl 1 rfl ?_
              refine g_iload_n (pc1 := 71) d_Told_lay_70 rfl 2 rfl ?_
              refine g_iload (pc1 := 73) d_Told_lay_71 rfl 5 rfl ?_
              refine g_callV0 (pc1 := 76) (As := [.int p2, .int x1594]) (rest := []) d_Told_lay_73 rfl mo_Told_63 mi_Land_inDish mv_Land_inDish rfl (shLa_0 hLd1) (ltLa_0 hLd1) (by decide) rfl rfl (Nat.le_of_ble_eq_true rfl) ?_
              refine t1_Land_inDish hld Ld1 hLd1 _ _ (fun r1693 => ?_)
              refine g_if_eq (pc1 := 79) (tgt := 85) d_Told_lay_76 (by decide) rfl (fun h1694 => ?_) (fun h1694 => ?_)
              · refine g_iconst (pc1 := 86) (v := 0) d_Told_lay_85 rfl (by decide) ?_
                refine g_ireturn (Or.inr ⟨rfl, rfl⟩) d_Told_lay_86 rfl ?_
                exact hQ _ _ _ (Or.inl rfl) Kp.rf
              · refine g_iload (pc1 := 81) d_Told_lay_79 rfl 6 rfl ?_
                refine g_iconst (pc1 := 82) (v := 1) d_Told_lay_81 rfl (by decide) ?_
                refine g_icmp_ge (pc1 := 85) (tgt := 87) d_Told_lay_82 (by decide) rfl (fun h1695 => ?_) (fun h1695 => ?_)
                · refine g_aload_n (pc1 := 88) d_Told_lay_87 rfl 0 rfl ?_
                  refine g_getr (pc1 := 91) d_Told_lay_88 rfl ⟨_, fo_Told_21⟩ sh_383 (by decide) (rf_383_4 ld) ?_
                  refine g_aload_n (pc1 := 92) d_Told_lay_91 rfl 0 rfl ?_
                  refine g_geti (pc1 := 95) d_Told_lay_92 rfl ⟨_, fo_Told_41⟩ sh_383 (by decide) ?_
                  refine g_iload_n (pc1 := 96) d_Told_lay_95 rfl 2 rfl ?_
                  refine g_callS0 (pc1 := 99) (As := [.ref 387, .int (M 383 7), .int p2]) (rest := []) d_Told_lay_96 rfl mo_Told_37 ms_Main_put (by decide) rfl rfl (Nat.le_of_ble_eq_true rfl) ?_
                  refine t1_Main_put hld 387 sh_387 (by decide) (by decide) _ _ (fun  M1696 L1697 k1698 => ?_)
                  refine g_aload_n (pc1 := 100) d_Told_lay_99 rfl 0 rfl ?_
                  refine g_getr (pc1 := 103) d_Told_lay_100 rfl ⟨_, fo_Told_24⟩ sh_383 (by decide) (rf_383_5 ld) ?_
                  refine g_aload_n (pc1 := 104) d_Told_lay_103 rfl 0 rfl ?_
                  refine g_geti (pc1 := 107) d_Told_lay_104 rfl ⟨_, fo_Told_41⟩ sh_383 (by decide) ?_
                  refine g_iload (pc1 := 109) d_Told_lay_107 rfl 6 rfl ?_
                  refine g_callS0 (pc1 := 112) (As := [.ref 388, .int (M1696 383 7), .int x1596]) (rest := []) d_Told_lay_109 rfl mo_Told_37 ms_Main_put (by decide) rfl rfl (Nat.le_of_ble_eq_true rfl) ?_
                  refine t1_Main_put hld 388 sh_388 (by decide) (by decide) _ _ (fun  M1699 L1700 k1701 => ?_)
                  refine g_iconst (pc1 := 113) (v := 0) d_Told_lay_112 rfl (by decide) ?_
                  refine g_istore (pc1 := 115) (lv' := [(0, .ref 383), (1, .ref Ld1), (2, .int p2), (3, .int p3), (4, .int 1), (5, .int x1594), (6, .int x1596), (7, .int 0)]) d_Told_lay_113 rfl (by decide) [1, 2, 3, 4, 5, 6, 7, 0] rfl ?_
                  have LP1705 : ∀ (f1702 : Nat) (v1706 : Int32) (M1707 : gM) (L1708 : gL), Kp S1 M L M1707 L1708 → ¬ v1706 < 0 → ((3 : Int32).toInt - v1706.toInt).toNat < f1702 → Wp l y_Told_lay (0, 0, 447) 447 0 0 115 [(0, .ref 383), (1, .ref Ld1), (2, .int p2), (3, .int p3), (4, .int 1), (5, .int x1594), (6, .int x1596), (7, .int v1706)] [] M1707 L1708 (rf ld) Q := by
                    intro f1702
                    induction f1702 with
                    | zero => intro v1706 M1707 L1708 _ _ hm1704; exact absurd hm1704 (Nat.not_lt_zero _)
                    | succ f1702 ih1703 =>
                      intro v1706 M1707 L1708 k1709 n1710 hm1704
                      refine g_iload (pc1 := 117) d_Told_lay_115 rfl 7 rfl ?_
                      refine g_iconst (pc1 := 118) (v := 3) d_Told_lay_117 rfl (by decide) ?_
                      refine g_icmp_ge (pc1 := 121) (tgt := 175) d_Told_lay_118 (by decide) rfl (fun h1711 => ?_) (fun h1711 => ?_)
                      · refine g_iconst (pc1 := 176) (v := 1) d_Told_lay_175 rfl (by decide) ?_
                        refine g_ireturn (Or.inr ⟨rfl, rfl⟩) d_Told_lay_176 rfl ?_
                        exact hQ _ _ _ (Or.inr rfl) k1709
                      · refine g_iload (pc1 := 123) d_Told_lay_121 rfl 4 rfl ?_
                        refine g_if_ne (pc1 := 126) (tgt := 130) d_Told_lay_123 (by decide) rfl (fun h1712 => ?_) (fun h1712 => ?_)
                        · refine g_iload (pc1 := 132) d_Told_lay_130 rfl 4 rfl ?_
                          refine g_aload_n (pc1 := 133) d_Told_lay_132 rfl 1 rfl ?_
                          refine g_iload (pc1 := 135) d_Told_lay_133 rfl 5 rfl ?_
                          refine g_iload (pc1 := 137) d_Told_lay_135 rfl 7 rfl ?_
                          refine g_callV0 (pc1 := 140) (As := [.int x1594, .int v1706]) (rest := [.int 1]) d_Told_lay_137 rfl mo_Told_67 mi_Land_broughtBy mv_Land_broughtBy rfl (shLa_0 hLd1) (ltLa_0 hLd1) (by decide) rfl rfl (Nat.le_of_ble_eq_true rfl) ?_
                          refine t1_Land_broughtBy hld Ld1 hLd1 _ _ (fun r1713 => ?_)
                          refine g_imul (pc1 := 141) d_Told_lay_140 rfl ?_
                          refine Wp.topi (fun x1714 ex1714 => ?_)
                          refine g_istore (pc1 := 143) (lv' := [(0, .ref 383), (1, .ref Ld1), (2, .int p2), (3, .int p3), (4, .int 1), (5, .int x1594), (6, .int x1596), (7, .int v1706), (8, .int x1714)]) d_Told_lay_141 rfl (by decide) [1, 2, 3, 4, 5, 6, 7, 8, 0] rfl ?_
                          refine g_aload_n (pc1 := 144) d_Told_lay_143 rfl 0 rfl ?_
                          refine g_getr (pc1 := 147) d_Told_lay_144 rfl ⟨_, fo_Told_27⟩ sh_383 (by decide) (rf_383_6 ld) ?_
                          refine g_aload_n (pc1 := 148) d_Told_lay_147 rfl 0 rfl ?_
                          refine g_geti (pc1 := 151) d_Told_lay_148 rfl ⟨_, fo_Told_41⟩ sh_383 (by decide) ?_
                          refine g_iconst (pc1 := 152) (v := 3) d_Told_lay_151 rfl (by decide) ?_
                          refine g_imul (pc1 := 153) d_Told_lay_152 rfl ?_
                          refine g_iload (pc1 := 155) d_Told_lay_153 rfl 7 rfl ?_
                          refine g_iadd (pc1 := 156) d_Told_lay_155 rfl ?_
                          refine g_aload_n (pc1 := 157) d_Told_lay_156 rfl 1 rfl ?_
                          refine g_iload_n (pc1 := 158) d_Told_lay_157 rfl 2 rfl ?_
                          refine g_iload (pc1 := 160) d_Told_lay_158 rfl 7 rfl ?_
                          refine g_callV0 (pc1 := 163) (As := [.int p2, .int v1706]) (rest := [.int (((M1707 383 7) * 3) + v1706), .ref 389]) d_Told_lay_160 rfl mo_Told_70 mi_Land_sumOf mv_Land_sumOf rfl (shLa_0 hLd1) (ltLa_0 hLd1) (by decide) rfl rfl (Nat.le_of_ble_eq_true rfl) ?_
                          refine t1_Land_sumOf hld Ld1 hLd1 _ _ (fun r1715 => ?_)
                          refine g_iload (pc1 := 165) d_Told_lay_163 rfl 8 rfl ?_
                          refine g_iadd (pc1 := 166) d_Told_lay_165 rfl ?_
                          refine g_callS0 (pc1 := 169) (As := [.ref 389, .int (((M1707 383 7) * 3) + v1706), .int (r1715 + x1714)]) (rest := []) d_Told_lay_166 rfl mo_Told_37 ms_Main_put (by decide) rfl rfl (Nat.le_of_ble_eq_true rfl) ?_
                          refine t1_Main_put hld 389 sh_389 (by decide) (by decide) _ _ (fun  M1716 L1717 k1718 => ?_)
                          obtain ⟨x1719, ex1719⟩ : ∃ y : Int32, y = v1706 + 1 := ⟨_, rfl⟩
                          refine g_iinc (pc1 := 172) (v := x1719) (lv' := [(0, .ref 383), (1, .ref Ld1), (2, .int p2), (3, .int p3), (4, .int 1), (5, .int x1594), (6, .int x1596), (7, .int x1719), (8, .int x1714)]) d_Told_lay_169 rfl 7 rfl (by rw [ex1719]; rfl) (by decide) [1, 2, 3, 4, 5, 6, 7, 0, 8] rfl ?_
                          refine g_goto (tgt := 115) d_Told_lay_172 (by decide) ?_
                          refine Wp.loc (lv' := [(0, .ref 383), (1, .ref Ld1), (2, .int p2), (3, .int p3), (4, .int 1), (5, .int x1594), (6, .int x1596), (7, .int x1719)]) [0, 1, 2, 3, 4, 5, 6, 7] rfl ?_
                          exact ih1703 x1719 M1716 L1717 (Kp.trans k1709 (Kp.mono k1718 (one_S rfl))) (nn_up (y := (3 : Int32)) h1711 ex1719 n1710) (md_up h1711 ex1719 hm1704)
                        · refine g_iconst (pc1 := 127) (v := 0) d_Told_lay_126 rfl (by decide) ?_
                          refine g_goto (tgt := 141) d_Told_lay_127 (by decide) ?_
                          refine g_istore (pc1 := 143) (lv' := [(0, .ref 383), (1, .ref Ld1), (2, .int p2), (3, .int p3), (4, .int 1), (5, .int x1594), (6, .int x1596), (7, .int v1706), (8, .int 0)]) d_Told_lay_141 rfl (by decide) [1, 2, 3, 4, 5, 6, 7, 8, 0] rfl ?_
                          refine g_aload_n (pc1 := 144) d_Told_lay_143 rfl 0 rfl ?_
                          refine g_getr (pc1 := 147) d_Told_lay_144 rfl ⟨_, fo_Told_27⟩ sh_383 (by decide) (rf_383_6 ld) ?_
                          refine g_aload_n (pc1 := 148) d_Told_lay_147 rfl 0 rfl ?_
                          refine g_geti (pc1 := 151) d_Told_lay_148 rfl ⟨_, fo_Told_41⟩ sh_383 (by decide) ?_
                          refine g_iconst (pc1 := 152) (v := 3) d_Told_lay_151 rfl (by decide) ?_
                          refine g_imul (pc1 := 153) d_Told_lay_152 rfl ?_
                          refine g_iload (pc1 := 155) d_Told_lay_153 rfl 7 rfl ?_
                          refine g_iadd (pc1 := 156) d_Told_lay_155 rfl ?_
                          refine g_aload_n (pc1 := 157) d_Told_lay_156 rfl 1 rfl ?_
                          refine g_iload_n (pc1 := 158) d_Told_lay_157 rfl 2 rfl ?_
                          refine g_iload (pc1 := 160) d_Told_lay_158 rfl 7 rfl ?_
                          refine g_callV0 (pc1 := 163) (As := [.int p2, .int v1706]) (rest := [.int (((M1707 383 7) * 3) + v1706), .ref 389]) d_Told_lay_160 rfl mo_Told_70 mi_Land_sumOf mv_Land_sumOf rfl (shLa_0 hLd1) (ltLa_0 hLd1) (by decide) rfl rfl (Nat.le_of_ble_eq_true rfl) ?_
                          refine t1_Land_sumOf hld Ld1 hLd1 _ _ (fun r1720 => ?_)
                          refine g_iload (pc1 := 165) d_Told_lay_163 rfl 8 rfl ?_
                          refine g_iadd (pc1 := 166) d_Told_lay_165 rfl ?_
                          refine g_callS0 (pc1 := 169) (As := [.ref 389, .int (((M1707 383 7) * 3) + v1706), .int (r1720 + 0)]) (rest := []) d_Told_lay_166 rfl mo_Told_37 ms_Main_put (by decide) rfl rfl (Nat.le_of_ble_eq_true rfl) ?_
                          refine t1_Main_put hld 389 sh_389 (by decide) (by decide) _ _ (fun  M1721 L1722 k1723 => ?_)
                          obtain ⟨x1724, ex1724⟩ : ∃ y : Int32, y = v1706 + 1 := ⟨_, rfl⟩
                          refine g_iinc (pc1 := 172) (v := x1724) (lv' := [(0, .ref 383), (1, .ref Ld1), (2, .int p2), (3, .int p3), (4, .int 1), (5, .int x1594), (6, .int x1596), (7, .int x1724), (8, .int 0)]) d_Told_lay_169 rfl 7 rfl (by rw [ex1724]; rfl) (by decide) [1, 2, 3, 4, 5, 6, 7, 0, 8] rfl ?_
                          refine g_goto (tgt := 115) d_Told_lay_172 (by decide) ?_
                          refine Wp.loc (lv' := [(0, .ref 383), (1, .ref Ld1), (2, .int p2), (3, .int p3), (4, .int 1), (5, .int x1594), (6, .int x1596), (7, .int x1724)]) [0, 1, 2, 3, 4, 5, 6, 7] rfl ?_
                          exact ih1703 x1724 M1721 L1722 (Kp.trans k1709 (Kp.mono k1723 (one_S rfl))) (nn_up (y := (3 : Int32)) h1711 ex1724 n1710) (md_up h1711 ex1724 hm1704)
                  exact LP1705 _ 0 M1699 L1700 (Kp.trans (Kp.trans Kp.rf (Kp.mono k1698 (one_S rfl))) (Kp.mono k1701 (one_S rfl))) (by decide) (Nat.lt_succ_self _)
                · refine g_iconst (pc1 := 86) (v := 0) d_Told_lay_85 rfl (by decide) ?_
                  refine g_ireturn (Or.inr ⟨rfl, rfl⟩) d_Told_lay_86 rfl ?_
                  exact hQ _ _ _ (Or.inl rfl) Kp.rf
  · refine g_iconst (pc1 := 5) (v := 0) d_Told_lay_4 rfl (by decide) ?_
    refine g_goto (tgt := 19) d_Told_lay_5 (by decide) ?_
    refine g_istore (pc1 := 21) (lv' := [(0, .ref 383), (1, .ref Ld1), (2, .int p2), (3, .int p3), (4, .int 0)]) d_Told_lay_19 rfl (by decide) [1, 2, 3, 4, 0] rfl ?_
    refine g_iload (pc1 := 23) d_Told_lay_21 rfl 4 rfl ?_
    refine g_if_le (pc1 := 26) (tgt := 32) d_Told_lay_23 (by decide) rfl (fun h1725 => ?_) (fun h1725 => ?_)
    · refine g_iload_n (pc1 := 33) d_Told_lay_32 rfl 3 rfl ?_
      refine g_iconst (pc1 := 34) (v := 1) d_Told_lay_33 rfl (by decide) ?_
      refine g_isub (pc1 := 35) d_Told_lay_34 rfl ?_
      refine g_bipush (pc1 := 37) (v := 6) d_Told_lay_35 rfl (by decide) ?_
      refine g_isub (pc1 := 38) d_Told_lay_37 rfl ?_
      refine Wp.topi (fun x1726 ex1726 => ?_)
      refine g_istore (pc1 := 40) (lv' := [(0, .ref 383), (1, .ref Ld1), (2, .int p2), (3, .int p3), (4, .int 0), (5, .int x1726)]) d_Told_lay_38 rfl (by decide) [1, 2, 3, 4, 5, 0] rfl ?_
      refine g_aload_n (pc1 := 41) d_Told_lay_40 rfl 1 rfl ?_
      refine g_iload_n (pc1 := 42) d_Told_lay_41 rfl 2 rfl ?_
      refine g_callV0 (pc1 := 45) (As := [.int p2]) (rest := []) d_Told_lay_42 rfl mo_Told_56 mi_Land_manyIn mv_Land_manyIn rfl (shLa_0 hLd1) (ltLa_0 hLd1) (by decide) rfl rfl (Nat.le_of_ble_eq_true rfl) ?_
      refine t1_Land_manyIn hld Ld1 hLd1 _ (fun r1727 => ?_)
      refine g_iload (pc1 := 47) d_Told_lay_45 rfl 4 rfl ?_
      refine g_iadd (pc1 := 48) d_Told_lay_47 rfl ?_
      refine Wp.topi (fun x1728 ex1728 => ?_)
      refine g_istore (pc1 := 50) (lv' := [(0, .ref 383), (1, .ref Ld1), (2, .int p2), (3, .int p3), (4, .int 0), (5, .int x1726), (6, .int x1728)]) d_Told_lay_48 rfl (by decide) [1, 2, 3, 4, 5, 6, 0] rfl ?_
      refine g_iload (pc1 := 52) d_Told_lay_50 rfl 4 rfl ?_
      refine g_if_eq (pc1 := 55) (tgt := 64) d_Told_lay_52 (by decide) rfl (fun h1729 => ?_) (fun h1729 => ?_)
      · refine g_iload (pc1 := 66) d_Told_lay_64 rfl 4 rfl ?_
        refine g_if_ge (pc1 := 69) (tgt := 79) d_Told_lay_66 (by decide) rfl (fun h1730 => ?_) (fun h1730 => ?_)
        · refine g_iload (pc1 := 81) d_Told_lay_79 rfl 6 rfl ?_
          refine g_iconst (pc1 := 82) (v := 1) d_Told_lay_81 rfl (by decide) ?_
          refine g_icmp_ge (pc1 := 85) (tgt := 87) d_Told_lay_82 (by decide) rfl (fun h1731 => ?_) (fun h1731 => ?_)
          · refine g_aload_n (pc1 := 88) d_Told_lay_87 rfl 0 rfl ?_
            refine g_getr (pc1 := 91) d_Told_lay_88 rfl ⟨_, fo_Told_21⟩ sh_383 (by decide) (rf_383_4 ld) ?_
            refine g_aload_n (pc1 := 92) d_Told_lay_91 rfl 0 rfl ?_
            refine g_geti (pc1 := 95) d_Told_lay_92 rfl ⟨_, fo_Told_41⟩ sh_383 (by decide) ?_
            refine g_iload_n (pc1 := 96) d_Told_lay_95 rfl 2 rfl ?_
            refine g_callS0 (pc1 := 99) (As := [.ref 387, .int (M 383 7), .int p2]) (rest := []) d_Told_lay_96 rfl mo_Told_37 ms_Main_put (by decide) rfl rfl (Nat.le_of_ble_eq_true rfl) ?_
            refine t1_Main_put hld 387 sh_387 (by decide) (by decide) _ _ (fun  M1732 L1733 k1734 => ?_)
            refine g_aload_n (pc1 := 100) d_Told_lay_99 rfl 0 rfl ?_
            refine g_getr (pc1 := 103) d_Told_lay_100 rfl ⟨_, fo_Told_24⟩ sh_383 (by decide) (rf_383_5 ld) ?_
            refine g_aload_n (pc1 := 104) d_Told_lay_103 rfl 0 rfl ?_
            refine g_geti (pc1 := 107) d_Told_lay_104 rfl ⟨_, fo_Told_41⟩ sh_383 (by decide) ?_
            refine g_iload (pc1 := 109) d_Told_lay_107 rfl 6 rfl ?_
            refine g_callS0 (pc1 := 112) (As := [.ref 388, .int (M1732 383 7), .int x1728]) (rest := []) d_Told_lay_109 rfl mo_Told_37 ms_Main_put (by decide) rfl rfl (Nat.le_of_ble_eq_true rfl) ?_
            refine t1_Main_put hld 388 sh_388 (by decide) (by decide) _ _ (fun  M1735 L1736 k1737 => ?_)
            refine g_iconst (pc1 := 113) (v := 0) d_Told_lay_112 rfl (by decide) ?_
            refine g_istore (pc1 := 115) (lv' := [(0, .ref 383), (1, .ref Ld1), (2, .int p2), (3, .int p3), (4, .int 0), (5, .int x1726), (6, .int x1728), (7, .int 0)]) d_Told_lay_113 rfl (by decide) [1, 2, 3, 4, 5, 6, 7, 0] rfl ?_
            have LP1741 : ∀ (f1738 : Nat) (v1742 : Int32) (M1743 : gM) (L1744 : gL), Kp S1 M L M1743 L1744 → ¬ v1742 < 0 → ((3 : Int32).toInt - v1742.toInt).toNat < f1738 → Wp l y_Told_lay (0, 0, 447) 447 0 0 115 [(0, .ref 383), (1, .ref Ld1), (2, .int p2), (3, .int p3), (4, .int 0), (5, .int x1726), (6, .int x1728), (7, .int v1742)] [] M1743 L1744 (rf ld) Q := by
              intro f1738
              induction f1738 with
              | zero => intro v1742 M1743 L1744 _ _ hm1740; exact absurd hm1740 (Nat.not_lt_zero _)
              | succ f1738 ih1739 =>
                intro v1742 M1743 L1744 k1745 n1746 hm1740
                refine g_iload (pc1 := 117) d_Told_lay_115 rfl 7 rfl ?_
                refine g_iconst (pc1 := 118) (v := 3) d_Told_lay_117 rfl (by decide) ?_
                refine g_icmp_ge (pc1 := 121) (tgt := 175) d_Told_lay_118 (by decide) rfl (fun h1747 => ?_) (fun h1747 => ?_)
                · refine g_iconst (pc1 := 176) (v := 1) d_Told_lay_175 rfl (by decide) ?_
                  refine g_ireturn (Or.inr ⟨rfl, rfl⟩) d_Told_lay_176 rfl ?_
                  exact hQ _ _ _ (Or.inr rfl) k1745
                · refine g_iload (pc1 := 123) d_Told_lay_121 rfl 4 rfl ?_
                  refine g_if_ne (pc1 := 126) (tgt := 130) d_Told_lay_123 (by decide) rfl (fun h1748 => ?_) (fun h1748 => ?_)
                  · refine g_iload (pc1 := 132) d_Told_lay_130 rfl 4 rfl ?_
                    refine g_aload_n (pc1 := 133) d_Told_lay_132 rfl 1 rfl ?_
                    refine g_iload (pc1 := 135) d_Told_lay_133 rfl 5 rfl ?_
                    refine g_iload (pc1 := 137) d_Told_lay_135 rfl 7 rfl ?_
                    refine g_callV0 (pc1 := 140) (As := [.int x1726, .int v1742]) (rest := [.int 0]) d_Told_lay_137 rfl mo_Told_67 mi_Land_broughtBy mv_Land_broughtBy rfl (shLa_0 hLd1) (ltLa_0 hLd1) (by decide) rfl rfl (Nat.le_of_ble_eq_true rfl) ?_
                    refine t1_Land_broughtBy hld Ld1 hLd1 _ _ (fun r1749 => ?_)
                    refine g_imul (pc1 := 141) d_Told_lay_140 rfl ?_
                    refine Wp.topi (fun x1750 ex1750 => ?_)
                    refine g_istore (pc1 := 143) (lv' := [(0, .ref 383), (1, .ref Ld1), (2, .int p2), (3, .int p3), (4, .int 0), (5, .int x1726), (6, .int x1728), (7, .int v1742), (8, .int x1750)]) d_Told_lay_141 rfl (by decide) [1, 2, 3, 4, 5, 6, 7, 8, 0] rfl ?_
                    refine g_aload_n (pc1 := 144) d_Told_lay_143 rfl 0 rfl ?_
                    refine g_getr (pc1 := 147) d_Told_lay_144 rfl ⟨_, fo_Told_27⟩ sh_383 (by decide) (rf_383_6 ld) ?_
                    refine g_aload_n (pc1 := 148) d_Told_lay_147 rfl 0 rfl ?_
                    refine g_geti (pc1 := 151) d_Told_lay_148 rfl ⟨_, fo_Told_41⟩ sh_383 (by decide) ?_
                    refine g_iconst (pc1 := 152) (v := 3) d_Told_lay_151 rfl (by decide) ?_
                    refine g_imul (pc1 := 153) d_Told_lay_152 rfl ?_
                    refine g_iload (pc1 := 155) d_Told_lay_153 rfl 7 rfl ?_
                    refine g_iadd (pc1 := 156) d_Told_lay_155 rfl ?_
                    refine g_aload_n (pc1 := 157) d_Told_lay_156 rfl 1 rfl ?_
                    refine g_iload_n (pc1 := 158) d_Told_lay_157 rfl 2 rfl ?_
                    refine g_iload (pc1 := 160) d_Told_lay_158 rfl 7 rfl ?_
                    refine g_callV0 (pc1 := 163) (As := [.int p2, .int v1742]) (rest := [.int (((M1743 383 7) * 3) + v1742), .ref 389]) d_Told_lay_160 rfl mo_Told_70 mi_Land_sumOf mv_Land_sumOf rfl (shLa_0 hLd1) (ltLa_0 hLd1) (by decide) rfl rfl (Nat.le_of_ble_eq_true rfl) ?_
                    refine t1_Land_sumOf hld Ld1 hLd1 _ _ (fun r1751 => ?_)
                    refine g_iload (pc1 := 165) d_Told_lay_163 rfl 8 rfl ?_
                    refine g_iadd (pc1 := 166) d_Told_lay_165 rfl ?_
                    refine g_callS0 (pc1 := 169) (As := [.ref 389, .int (((M1743 383 7) * 3) + v1742), .int (r1751 + x1750)]) (rest := []) d_Told_lay_166 rfl mo_Told_37 ms_Main_put (by decide) rfl rfl (Nat.le_of_ble_eq_true rfl) ?_
                    refine t1_Main_put hld 389 sh_389 (by decide) (by decide) _ _ (fun  M1752 L1753 k1754 => ?_)
                    obtain ⟨x1755, ex1755⟩ : ∃ y : Int32, y = v1742 + 1 := ⟨_, rfl⟩
                    refine g_iinc (pc1 := 172) (v := x1755) (lv' := [(0, .ref 383), (1, .ref Ld1), (2, .int p2), (3, .int p3), (4, .int 0), (5, .int x1726), (6, .int x1728), (7, .int x1755), (8, .int x1750)]) d_Told_lay_169 rfl 7 rfl (by rw [ex1755]; rfl) (by decide) [1, 2, 3, 4, 5, 6, 7, 0, 8] rfl ?_
                    refine g_goto (tgt := 115) d_Told_lay_172 (by decide) ?_
                    refine Wp.loc (lv' := [(0, .ref 383), (1, .ref Ld1), (2, .int p2), (3, .int p3), (4, .int 0), (5, .int x1726), (6, .int x1728), (7, .int x1755)]) [0, 1, 2, 3, 4, 5, 6, 7] rfl ?_
                    exact ih1739 x1755 M1752 L1753 (Kp.trans k1745 (Kp.mono k1754 (one_S rfl))) (nn_up (y := (3 : Int32)) h1747 ex1755 n1746) (md_up h1747 ex1755 hm1740)
                  · refine g_iconst (pc1 := 127) (v := 0) d_Told_lay_126 rfl (by decide) ?_
                    refine g_goto (tgt := 141) d_Told_lay_127 (by decide) ?_
                    refine g_istore (pc1 := 143) (lv' := [(0, .ref 383), (1, .ref Ld1), (2, .int p2), (3, .int p3), (4, .int 0), (5, .int x1726), (6, .int x1728), (7, .int v1742), (8, .int 0)]) d_Told_lay_141 rfl (by decide) [1, 2, 3, 4, 5, 6, 7, 8, 0] rfl ?_
                    refine g_aload_n (pc1 := 144) d_Told_lay_143 rfl 0 rfl ?_
                    refine g_getr (pc1 := 147) d_Told_lay_144 rfl ⟨_, fo_Told_27⟩ sh_383 (by decide) (rf_383_6 ld) ?_
                    refine g_aload_n (pc1 := 148) d_Told_lay_147 rfl 0 rfl ?_
                    refine g_geti (pc1 := 151) d_Told_lay_148 rfl ⟨_, fo_Told_41⟩ sh_383 (by decide) ?_
                    refine g_iconst (pc1 := 152) (v := 3) d_Told_lay_151 rfl (by decide) ?_
                    refine g_imul (pc1 := 153) d_Told_lay_152 rfl ?_
                    refine g_iload (pc1 := 155) d_Told_lay_153 rfl 7 rfl ?_
                    refine g_iadd (pc1 := 156) d_Told_lay_155 rfl ?_
                    refine g_aload_n (pc1 := 157) d_Told_lay_156 rfl 1 rfl ?_
                    refine g_iload_n (pc1 := 158) d_Told_lay_157 rfl 2 rfl ?_
                    refine g_iload (pc1 := 160) d_Told_lay_158 rfl 7 rfl ?_
                    refine g_callV0 (pc1 := 163) (As := [.int p2, .int v1742]) (rest := [.int (((M1743 383 7) * 3) + v1742), .ref 389]) d_Told_lay_160 rfl mo_Told_70 mi_Land_sumOf mv_Land_sumOf rfl (shLa_0 hLd1) (ltLa_0 hLd1) (by decide) rfl rfl (Nat.le_of_ble_eq_true rfl) ?_
                    refine t1_Land_sumOf hld Ld1 hLd1 _ _ (fun r1756 => ?_)
                    refine g_iload (pc1 := 165) d_Told_lay_163 rfl 8 rfl ?_
                    refine g_iadd (pc1 := 166) d_Told_lay_165 rfl ?_
                    refine g_callS0 (pc1 := 169) (As := [.ref 389, .int (((M1743 383 7) * 3) + v1742), .int (r1756 + 0)]) (rest := []) d_Told_lay_166 rfl mo_Told_37 ms_Main_put (by decide) rfl rfl (Nat.le_of_ble_eq_true rfl) ?_
                    refine t1_Main_put hld 389 sh_389 (by decide) (by decide) _ _ (fun  M1757 L1758 k1759 => ?_)
                    obtain ⟨x1760, ex1760⟩ : ∃ y : Int32, y = v1742 + 1 := ⟨_, rfl⟩
                    refine g_iinc (pc1 := 172) (v := x1760) (lv' := [(0, .ref 383), (1, .ref Ld1), (2, .int p2), (3, .int p3), (4, .int 0), (5, .int x1726), (6, .int x1728), (7, .int x1760), (8, .int 0)]) d_Told_lay_169 rfl 7 rfl (by rw [ex1760]; rfl) (by decide) [1, 2, 3, 4, 5, 6, 7, 0, 8] rfl ?_
                    refine g_goto (tgt := 115) d_Told_lay_172 (by decide) ?_
                    refine Wp.loc (lv' := [(0, .ref 383), (1, .ref Ld1), (2, .int p2), (3, .int p3), (4, .int 0), (5, .int x1726), (6, .int x1728), (7, .int x1760)]) [0, 1, 2, 3, 4, 5, 6, 7] rfl ?_
                    exact ih1739 x1760 M1757 L1758 (Kp.trans k1745 (Kp.mono k1759 (one_S rfl))) (nn_up (y := (3 : Int32)) h1747 ex1760 n1746) (md_up h1747 ex1760 hm1740)
            exact LP1741 _ 0 M1735 L1736 (Kp.trans (Kp.trans Kp.rf (Kp.mono k1734 (one_S rfl))) (Kp.mono k1737 (one_S rfl))) (by decide) (Nat.lt_succ_self _)
          · refine g_iconst (pc1 := 86) (v := 0) d_Told_lay_85 rfl (by decide) ?_
            refine g_ireturn (Or.inr ⟨rfl, rfl⟩) d_Told_lay_86 rfl ?_
            exact hQ _ _ _ (Or.inl rfl) Kp.rf
        · refine g_aload_n (pc1 := 70) d_Told_lay_69 rfl 1 rfl ?_
          refine g_iload_n (pc1 := 71) d_Told_lay_70 rfl 2 rfl ?_
          refine g_iload (pc1 := 73) d_Told_lay_71 rfl 5 rfl ?_
          refine g_callV0 (pc1 := 76) (As := [.int p2, .int x1726]) (rest := []) d_Told_lay_73 rfl mo_Told_63 mi_Land_inDish mv_Land_inDish rfl (shLa_0 hLd1) (ltLa_0 hLd1) (by decide) rfl rfl (Nat.le_of_ble_eq_true rfl) ?_
          refine t1_Land_inDish hld Ld1 hLd1 _ _ (fun r1761 => ?_)
          refine g_if_eq (pc1 := 79) (tgt := 85) d_Told_lay_76 (by decide) rfl (fun h1762 => ?_) (fun h1762 => ?_)
          · refine g_iconst (pc1 := 86) (v := 0) d_Told_lay_85 rfl (by decide) ?_
            refine g_ireturn (Or.inr ⟨rfl, rfl⟩) d_Told_lay_86 rfl ?_
            exact hQ _ _ _ (Or.inl rfl) Kp.rf
          · refine g_iload (pc1 := 81) d_Told_lay_79 rfl 6 rfl ?_
            refine g_iconst (pc1 := 82) (v := 1) d_Told_lay_81 rfl (by decide) ?_
            refine g_icmp_ge (pc1 := 85) (tgt := 87) d_Told_lay_82 (by decide) rfl (fun h1763 => ?_) (fun h1763 => ?_)
            · refine g_aload_n (pc1 := 88) d_Told_lay_87 rfl 0 rfl ?_
              refine g_getr (pc1 := 91) d_Told_lay_88 rfl ⟨_, fo_Told_21⟩ sh_383 (by decide) (rf_383_4 ld) ?_
              refine g_aload_n (pc1 := 92) d_Told_lay_91 rfl 0 rfl ?_
              refine g_geti (pc1 := 95) d_Told_lay_92 rfl ⟨_, fo_Told_41⟩ sh_383 (by decide) ?_
              refine g_iload_n (pc1 := 96) d_Told_lay_95 rfl 2 rfl ?_
              refine g_callS0 (pc1 := 99) (As := [.ref 387, .int (M 383 7), .int p2]) (rest := []) d_Told_lay_96 rfl mo_Told_37 ms_Main_put (by decide) rfl rfl (Nat.le_of_ble_eq_true rfl) ?_
              refine t1_Main_put hld 387 sh_387 (by decide) (by decide) _ _ (fun  M1764 L1765 k1766 => ?_)
              refine g_aload_n (pc1 := 100) d_Told_lay_99 rfl 0 rfl ?_
              refine g_getr (pc1 := 103) d_Told_lay_100 rfl ⟨_, fo_Told_24⟩ sh_383 (by decide) (rf_383_5 ld) ?_
              refine g_aload_n (pc1 := 104) d_Told_lay_103 rfl 0 rfl ?_
              refine g_geti (pc1 := 107) d_Told_lay_104 rfl ⟨_, fo_Told_41⟩ sh_383 (by decide) ?_
              refine g_iload (pc1 := 109) d_Told_lay_107 rfl 6 rfl ?_
              refine g_callS0 (pc1 := 112) (As := [.ref 388, .int (M1764 383 7), .int x1728]) (rest := []) d_Told_lay_109 rfl mo_Told_37 ms_Main_put (by decide) rfl rfl (Nat.le_of_ble_eq_true rfl) ?_
              refine t1_Main_put hld 388 sh_388 (by decide) (by decide) _ _ (fun  M1767 L1768 k1769 => ?_)
              refine g_iconst (pc1 := 113) (v := 0) d_Told_lay_112 rfl (by decide) ?_
              refine g_istore (pc1 := 115) (lv' := [(0, .ref 383), (1, .ref Ld1), (2, .int p2), (3, .int p3), (4, .int 0), (5, .int x1726), (6, .int x1728), (7, .int 0)]) d_Told_lay_113 rfl (by decide) [1, 2, 3, 4, 5, 6, 7, 0] rfl ?_
              have LP1773 : ∀ (f1770 : Nat) (v1774 : Int32) (M1775 : gM) (L1776 : gL), Kp S1 M L M1775 L1776 → ¬ v1774 < 0 → ((3 : Int32).toInt - v1774.toInt).toNat < f1770 → Wp l y_Told_lay (0, 0, 447) 447 0 0 115 [(0, .ref 383), (1, .ref Ld1), (2, .int p2), (3, .int p3), (4, .int 0), (5, .int x1726), (6, .int x1728), (7, .int v1774)] [] M1775 L1776 (rf ld) Q := by
                intro f1770
                induction f1770 with
                | zero => intro v1774 M1775 L1776 _ _ hm1772; exact absurd hm1772 (Nat.not_lt_zero _)
                | succ f1770 ih1771 =>
                  intro v1774 M1775 L1776 k1777 n1778 hm1772
                  refine g_iload (pc1 := 117) d_Told_lay_115 rfl 7 rfl ?_
                  refine g_iconst (pc1 := 118) (v := 3) d_Told_lay_117 rfl (by decide) ?_
                  refine g_icmp_ge (pc1 := 121) (tgt := 175) d_Told_lay_118 (by decide) rfl (fun h1779 => ?_) (fun h1779 => ?_)
                  · refine g_iconst (pc1 := 176) (v := 1) d_Told_lay_175 rfl (by decide) ?_
                    refine g_ireturn (Or.inr ⟨rfl, rfl⟩) d_Told_lay_176 rfl ?_
                    exact hQ _ _ _ (Or.inr rfl) k1777
                  · refine g_iload (pc1 := 123) d_Told_lay_121 rfl 4 rfl ?_
                    refine g_if_ne (pc1 := 126) (tgt := 130) d_Told_lay_123 (by decide) rfl (fun h1780 => ?_) (fun h1780 => ?_)
                    · refine g_iload (pc1 := 132) d_Told_lay_130 rfl 4 rfl ?_
                      refine g_aload_n (pc1 := 133) d_Told_lay_132 rfl 1 rfl ?_
                      refine g_iload (pc1 := 135) d_Told_lay_133 rfl 5 rfl ?_
                      refine g_iload (pc1 := 137) d_Told_lay_135 rfl 7 rfl ?_
                      refine g_callV0 (pc1 := 140) (As := [.int x1726, .int v1774]) (rest := [.int 0]) d_Told_lay_137 rfl mo_Told_67 mi_Land_broughtBy mv_Land_broughtBy rfl (shLa_0 hLd1) (ltLa_0 hLd1) (by decide) rfl rfl (Nat.le_of_ble_eq_true rfl) ?_
                      refine t1_Land_broughtBy hld Ld1 hLd1 _ _ (fun r1781 => ?_)
                      refine g_imul (pc1 := 141) d_Told_lay_140 rfl ?_
                      refine Wp.topi (fun x1782 ex1782 => ?_)
                      refine g_istore (pc1 := 143) (lv' := [(0, .ref 383), (1, .ref Ld1), (2, .int p2), (3, .int p3), (4, .int 0), (5, .int x1726), (6, .int x1728), (7, .int v1774), (8, .int x1782)]) d_Told_lay_141 rfl (by decide) [1, 2, 3, 4, 5, 6, 7, 8, 0] rfl ?_
                      refine g_aload_n (pc1 := 144) d_Told_lay_143 rfl 0 rfl ?_
                      refine g_getr (pc1 := 147) d_Told_lay_144 rfl ⟨_, fo_Told_27⟩ sh_383 (by decide) (rf_383_6 ld) ?_
                      refine g_aload_n (pc1 := 148) d_Told_lay_147 rfl 0 rfl ?_
                      refine g_geti (pc1 := 151) d_Told_lay_148 rfl ⟨_, fo_Told_41⟩ sh_383 (by decide) ?_
                      refine g_iconst (pc1 := 152) (v := 3) d_Told_lay_151 rfl (by decide) ?_
                      refine g_imul (pc1 := 153) d_Told_lay_152 rfl ?_
                      refine g_iload (pc1 := 155) d_Told_lay_153 rfl 7 rfl ?_
                      refine g_iadd (pc1 := 156) d_Told_lay_155 rfl ?_
                      refine g_aload_n (pc1 := 157) d_Told_lay_156 rfl 1 rfl ?_
                      refine g_iload_n (pc1 := 158) d_Told_lay_157 rfl 2 rfl ?_
                      refine g_iload (pc1 := 160) d_Told_lay_158 rfl 7 rfl ?_
                      refine g_callV0 (pc1 := 163) (As := [.int p2, .int v1774]) (rest := [.int (((M1775 383 7) * 3) + v1774), .ref 389]) d_Told_lay_160 rfl mo_Told_70 mi_Land_sumOf mv_Land_sumOf rfl (shLa_0 hLd1) (ltLa_0 hLd1) (by decide) rfl rfl (Nat.le_of_ble_eq_true rfl) ?_
                      refine t1_Land_sumOf hld Ld1 hLd1 _ _ (fun r1783 => ?_)
                      refine g_iload (pc1 := 165) d_Told_lay_163 rfl 8 rfl ?_
                      refine g_iadd (pc1 := 166) d_Told_lay_165 rfl ?_
                      refine g_callS0 (pc1 := 169) (As := [.ref 389, .int (((M1775 383 7) * 3) + v1774), .int (r1783 + x1782)]) (rest := []) d_Told_lay_166 rfl mo_Told_37 ms_Main_put (by decide) rfl rfl (Nat.le_of_ble_eq_true rfl) ?_
                      refine t1_Main_put hld 389 sh_389 (by decide) (by decide) _ _ (fun  M1784 L1785 k1786 => ?_)
                      obtain ⟨x1787, ex1787⟩ : ∃ y : Int32, y = v1774 + 1 := ⟨_, rfl⟩
                      refine g_iinc (pc1 := 172) (v := x1787) (lv' := [(0, .ref 383), (1, .ref Ld1), (2, .int p2), (3, .int p3), (4, .int 0), (5, .int x1726), (6, .int x1728), (7, .int x1787), (8, .int x1782)]) d_Told_lay_169 rfl 7 rfl (by rw [ex1787]; rfl) (by decide) [1, 2, 3, 4, 5, 6, 7, 0, 8] rfl ?_
                      refine g_goto (tgt := 115) d_Told_lay_172 (by decide) ?_
                      refine Wp.loc (lv' := [(0, .ref 383), (1, .ref Ld1), (2, .int p2), (3, .int p3), (4, .int 0), (5, .int x1726), (6, .int x1728), (7, .int x1787)]) [0, 1, 2, 3, 4, 5, 6, 7] rfl ?_
                      exact ih1771 x1787 M1784 L1785 (Kp.trans k1777 (Kp.mono k1786 (one_S rfl))) (nn_up (y := (3 : Int32)) h1779 ex1787 n1778) (md_up h1779 ex1787 hm1772)
                    · refine g_iconst (pc1 := 127) (v := 0) d_Told_lay_126 rfl (by decide) ?_
                      refine g_goto (tgt := 141) d_Told_lay_127 (by decide) ?_
                      refine g_istore (pc1 := 143) (lv' := [(0, .ref 383), (1, .ref Ld1), (2, .int p2), (3, .int p3), (4, .int 0), (5, .int x1726), (6, .int x1728), (7, .int v1774), (8, .int 0)]) d_Told_lay_141 rfl (by decide) [1, 2, 3, 4, 5, 6, 7, 8, 0] rfl ?_
                      refine g_aload_n (pc1 := 144) d_Told_lay_143 rfl 0 rfl ?_
                      refine g_getr (pc1 := 147) d_Told_lay_144 rfl ⟨_, fo_Told_27⟩ sh_383 (by decide) (rf_383_6 ld) ?_
                      refine g_aload_n (pc1 := 148) d_Told_lay_147 rfl 0 rfl ?_
                      refine g_geti (pc1 := 151) d_Told_lay_148 rfl ⟨_, fo_Told_41⟩ sh_383 (by decide) ?_
                      refine g_iconst (pc1 := 152) (v := 3) d_Told_lay_151 rfl (by decide) ?_
                      refine g_imul (pc1 := 153) d_Told_lay_152 rfl ?_
                      refine g_iload (pc1 := 155) d_Told_lay_153 rfl 7 rfl ?_
                      refine g_iadd (pc1 := 156) d_Told_lay_155 rfl ?_
                      refine g_aload_n (pc1 := 157) d_Told_lay_156 rfl 1 rfl ?_
                      refine g_iload_n (pc1 := 158) d_Told_lay_157 rfl 2 rfl ?_
                      refine g_iload (pc1 := 160) d_Told_lay_158 rfl 7 rfl ?_
                      refine g_callV0 (pc1 := 163) (As := [.int p2, .int v1774]) (rest := [.int (((M1775 383 7) * 3) + v1774), .ref 389]) d_Told_lay_160 rfl mo_Told_70 mi_Land_sumOf mv_Land_sumOf rfl (shLa_0 hLd1) (ltLa_0 hLd1) (by decide) rfl rfl (Nat.le_of_ble_eq_true rfl) ?_
                      refine t1_Land_sumOf hld Ld1 hLd1 _ _ (fun r1788 => ?_)
                      refine g_iload (pc1 := 165) d_Told_lay_163 rfl 8 rfl ?_
                      refine g_iadd (pc1 := 166) d_Told_lay_165 rfl ?_
                      refine g_callS0 (pc1 := 169) (As := [.ref 389, .int (((M1775 383 7) * 3) + v1774), .int (r1788 + 0)]) (rest := []) d_Told_lay_166 rfl mo_Told_37 ms_Main_put (by decide) rfl rfl (Nat.le_of_ble_eq_true rfl) ?_
                      refine t1_Main_put hld 389 sh_389 (by decide) (by decide) _ _ (fun  M1789 L1790 k1791 => ?_)
                      obtain ⟨x1792, ex1792⟩ : ∃ y : Int32, y = v1774 + 1 := ⟨_, rfl⟩
                      refine g_iinc (pc1 := 172) (v := x1792) (lv' := [(0, .ref 383), (1, .ref Ld1), (2, .int p2), (3, .int p3), (4, .int 0), (5, .int x1726), (6, .int x1728), (7, .int x1792), (8, .int 0)]) d_Told_lay_169 rfl 7 rfl (by rw [ex1792]; rfl) (by decide) [1, 2, 3, 4, 5, 6, 7, 0, 8] rfl ?_
                      refine g_goto (tgt := 115) d_Told_lay_172 (by decide) ?_
                      refine Wp.loc (lv' := [(0, .ref 383), (1, .ref Ld1), (2, .int p2), (3, .int p3), (4, .int 0), (5, .int x1726), (6, .int x1728), (7, .int x1792)]) [0, 1, 2, 3, 4, 5, 6, 7] rfl ?_
                      exact ih1771 x1792 M1789 L1790 (Kp.trans k1777 (Kp.mono k1791 (one_S rfl))) (nn_up (y := (3 : Int32)) h1779 ex1792 n1778) (md_up h1779 ex1792 hm1772)
              exact LP1773 _ 0 M1767 L1768 (Kp.trans (Kp.trans Kp.rf (Kp.mono k1766 (one_S rfl))) (Kp.mono k1769 (one_S rfl))) (by decide) (Nat.lt_succ_self _)
            · refine g_iconst (pc1 := 86) (v := 0) d_Told_lay_85 rfl (by decide) ?_
              refine g_ireturn (Or.inr ⟨rfl, rfl⟩) d_Told_lay_86 rfl ?_
              exact hQ _ _ _ (Or.inl rfl) Kp.rf
      · refine g_iload (pc1 := 57) d_Told_lay_55 rfl 5 rfl ?_
        refine g_aload_n (pc1 := 58) d_Told_lay_57 rfl 1 rfl ?_
        refine g_geti (pc1 := 61) d_Told_lay_58 rfl ⟨_, fo_Told_60⟩ (shLa_0 hLd1) (ltLa_0 hLd1) ?_
        refine g_icmp_ge (pc1 := 64) (tgt := 85) d_Told_lay_61 (by decide) rfl (fun h1793 => ?_) (fun h1793 => ?_)
        · refine g_iconst (pc1 := 86) (v := 0) d_Told_lay_85 rfl (by decide) ?_
          refine g_ireturn (Or.inr ⟨rfl, rfl⟩) d_Told_lay_86 rfl ?_
          exact hQ _ _ _ (Or.inl rfl) Kp.rf
        · refine g_iload (pc1 := 66) d_Told_lay_64 rfl 4 rfl ?_
          refine g_if_ge (pc1 := 69) (tgt := 79) d_Told_lay_66 (by decide) rfl (fun h1794 => ?_) (fun h1794 => ?_)
          · refine g_iload (pc1 := 81) d_Told_lay_79 rfl 6 rfl ?_
            refine g_iconst (pc1 := 82) (v := 1) d_Told_lay_81 rfl (by decide) ?_
            refine g_icmp_ge (pc1 := 85) (tgt := 87) d_Told_lay_82 (by decide) rfl (fun h1795 => ?_) (fun h1795 => ?_)
            · refine g_aload_n (pc1 := 88) d_Told_lay_87 rfl 0 rfl ?_
              refine g_getr (pc1 := 91) d_Told_lay_88 rfl ⟨_, fo_Told_21⟩ sh_383 (by decide) (rf_383_4 ld) ?_
              refine g_aload_n (pc1 := 92) d_Told_lay_91 rfl 0 rfl ?_
              refine g_geti (pc1 := 95) d_Told_lay_92 rfl ⟨_, fo_Told_41⟩ sh_383 (by decide) ?_
              refine g_iload_n (pc1 := 96) d_Told_lay_95 rfl 2 rfl ?_
              refine g_callS0 (pc1 := 99) (As := [.ref 387, .int (M 383 7), .int p2]) (rest := []) d_Told_lay_96 rfl mo_Told_37 ms_Main_put (by decide) rfl rfl (Nat.le_of_ble_eq_true rfl) ?_
              refine t1_Main_put hld 387 sh_387 (by decide) (by decide) _ _ (fun  M1796 L1797 k1798 => ?_)
              refine g_aload_n (pc1 := 100) d_Told_lay_99 rfl 0 rfl ?_
              refine g_getr (pc1 := 103) d_Told_lay_100 rfl ⟨_, fo_Told_24⟩ sh_383 (by decide) (rf_383_5 ld) ?_
              refine g_aload_n (pc1 := 104) d_Told_lay_103 rfl 0 rfl ?_
              refine g_geti (pc1 := 107) d_Told_lay_104 rfl ⟨_, fo_Told_41⟩ sh_383 (by decide) ?_
              refine g_iload (pc1 := 109) d_Told_lay_107 rfl 6 rfl ?_
              refine g_callS0 (pc1 := 112) (As := [.ref 388, .int (M1796 383 7), .int x1728]) (rest := []) d_Told_lay_109 rfl mo_Told_37 ms_Main_put (by decide) rfl rfl (Nat.le_of_ble_eq_true rfl) ?_
              refine t1_Main_put hld 388 sh_388 (by decide) (by decide) _ _ (fun  M1799 L1800 k1801 => ?_)
              refine g_iconst (pc1 := 113) (v := 0) d_Told_lay_112 rfl (by decide) ?_
              refine g_istore (pc1 := 115) (lv' := [(0, .ref 383), (1, .ref Ld1), (2, .int p2), (3, .int p3), (4, .int 0), (5, .int x1726), (6, .int x1728), (7, .int 0)]) d_Told_lay_113 rfl (by decide) [1, 2, 3, 4, 5, 6, 7, 0] rfl ?_
              have LP1805 : ∀ (f1802 : Nat) (v1806 : Int32) (M1807 : gM) (L1808 : gL), Kp S1 M L M1807 L1808 → ¬ v1806 < 0 → ((3 : Int32).toInt - v1806.toInt).toNat < f1802 → Wp l y_Told_lay (0, 0, 447) 447 0 0 115 [(0, .ref 383), (1, .ref Ld1), (2, .int p2), (3, .int p3), (4, .int 0), (5, .int x1726), (6, .int x1728), (7, .int v1806)] [] M1807 L1808 (rf ld) Q := by
                intro f1802
                induction f1802 with
                | zero => intro v1806 M1807 L1808 _ _ hm1804; exact absurd hm1804 (Nat.not_lt_zero _)
                | succ f1802 ih1803 =>
                  intro v1806 M1807 L1808 k1809 n1810 hm1804
                  refine g_iload (pc1 := 117) d_Told_lay_115 rfl 7 rfl ?_
                  refine g_iconst (pc1 := 118) (v := 3) d_Told_lay_117 rfl (by decide) ?_
                  refine g_icmp_ge (pc1 := 121) (tgt := 175) d_Told_lay_118 (by decide) rfl (fun h1811 => ?_) (fun h1811 => ?_)
                  · refine g_iconst (pc1 := 176) (v := 1) d_Told_lay_175 rfl (by decide) ?_
                    refine g_ireturn (Or.inr ⟨rfl, rfl⟩) d_Told_lay_176 rfl ?_
                    exact hQ _ _ _ (Or.inr rfl) k1809
                  · refine g_iload (pc1 := 123) d_Told_lay_121 rfl 4 rfl ?_
                    refine g_if_ne (pc1 := 126) (tgt := 130) d_Told_lay_123 (by decide) rfl (fun h1812 => ?_) (fun h1812 => ?_)
                    · refine g_iload (pc1 := 132) d_Told_lay_130 rfl 4 rfl ?_
                      refine g_aload_n (pc1 := 133) d_Told_lay_132 rfl 1 rfl ?_
                      refine g_iload (pc1 := 135) d_Told_lay_133 rfl 5 rfl ?_
                      refine g_iload (pc1 := 137) d_Told_lay_135 rfl 7 rfl ?_
                      refine g_callV0 (pc1 := 140) (As := [.int x1726, .int v1806]) (rest := [.int 0]) d_Told_lay_137 rfl mo_Told_67 mi_Land_broughtBy mv_Land_broughtBy rfl (shLa_0 hLd1) (ltLa_0 hLd1) (by decide) rfl rfl (Nat.le_of_ble_eq_true rfl) ?_
                      refine t1_Land_broughtBy hld Ld1 hLd1 _ _ (fun r1813 => ?_)
                      refine g_imul (pc1 := 141) d_Told_lay_140 rfl ?_
                      refine Wp.topi (fun x1814 ex1814 => ?_)
                      refine g_istore (pc1 := 143) (lv' := [(0, .ref 383), (1, .ref Ld1), (2, .int p2), (3, .int p3), (4, .int 0), (5, .int x1726), (6, .int x1728), (7, .int v1806), (8, .int x1814)]) d_Told_lay_141 rfl (by decide) [1, 2, 3, 4, 5, 6, 7, 8, 0] rfl ?_
                      refine g_aload_n (pc1 := 144) d_Told_lay_143 rfl 0 rfl ?_
                      refine g_getr (pc1 := 147) d_Told_lay_144 rfl ⟨_, fo_Told_27⟩ sh_383 (by decide) (rf_383_6 ld) ?_
                      refine g_aload_n (pc1 := 148) d_Told_lay_147 rfl 0 rfl ?_
                      refine g_geti (pc1 := 151) d_Told_lay_148 rfl ⟨_, fo_Told_41⟩ sh_383 (by decide) ?_
                      refine g_iconst (pc1 := 152) (v := 3) d_Told_lay_151 rfl (by decide) ?_
                      refine g_imul (pc1 := 153) d_Told_lay_152 rfl ?_
                      refine g_iload (pc1 := 155) d_Told_lay_153 rfl 7 rfl ?_
                      refine g_iadd (pc1 := 156) d_Told_lay_155 rfl ?_
                      refine g_aload_n (pc1 := 157) d_Told_lay_156 rfl 1 rfl ?_
                      refine g_iload_n (pc1 := 158) d_Told_lay_157 rfl 2 rfl ?_
                      refine g_iload (pc1 := 160) d_Told_lay_158 rfl 7 rfl ?_
                      refine g_callV0 (pc1 := 163) (As := [.int p2, .int v1806]) (rest := [.int (((M1807 383 7) * 3) + v1806), .ref 389]) d_Told_lay_160 rfl mo_Told_70 mi_Land_sumOf mv_Land_sumOf rfl (shLa_0 hLd1) (ltLa_0 hLd1) (by decide) rfl rfl (Nat.le_of_ble_eq_true rfl) ?_
                      refine t1_Land_sumOf hld Ld1 hLd1 _ _ (fun r1815 => ?_)
                      refine g_iload (pc1 := 165) d_Told_lay_163 rfl 8 rfl ?_
                      refine g_iadd (pc1 := 166) d_Told_lay_165 rfl ?_
                      refine g_callS0 (pc1 := 169) (As := [.ref 389, .int (((M1807 383 7) * 3) + v1806), .int (r1815 + x1814)]) (rest := []) d_Told_lay_166 rfl mo_Told_37 ms_Main_put (by decide) rfl rfl (Nat.le_of_ble_eq_true rfl) ?_
                      refine t1_Main_put hld 389 sh_389 (by decide) (by decide) _ _ (fun  M1816 L1817 k1818 => ?_)
                      obtain ⟨x1819, ex1819⟩ : ∃ y : Int32, y = v1806 + 1 := ⟨_, rfl⟩
                      refine g_iinc (pc1 := 172) (v := x1819) (lv' := [(0, .ref 383), (1, .ref Ld1), (2, .int p2), (3, .int p3), (4, .int 0), (5, .int x1726), (6, .int x1728), (7, .int x1819), (8, .int x1814)]) d_Told_lay_169 rfl 7 rfl (by rw [ex1819]; rfl) (by decide) [1, 2, 3, 4, 5, 6, 7, 0, 8] rfl ?_
                      refine g_goto (tgt := 115) d_Told_lay_172 (by decide) ?_
                      refine Wp.loc (lv' := [(0, .ref 383), (1, .ref Ld1), (2, .int p2), (3, .int p3), (4, .int 0), (5, .int x1726), (6, .int x1728), (7, .int x1819)]) [0, 1, 2, 3, 4, 5, 6, 7] rfl ?_
                      exact ih1803 x1819 M1816 L1817 (Kp.trans k1809 (Kp.mono k1818 (one_S rfl))) (nn_up (y := (3 : Int32)) h1811 ex1819 n1810) (md_up h1811 ex1819 hm1804)
                    · refine g_iconst (pc1 := 127) (v := 0) d_Told_lay_126 rfl (by decide) ?_
                      refine g_goto (tgt := 141) d_Told_lay_127 (by decide) ?_
                      refine g_istore (pc1 := 143) (lv' := [(0, .ref 383), (1, .ref Ld1), (2, .int p2), (3, .int p3), (4, .int 0), (5, .int x1726), (6, .int x1728), (7, .int v1806), (8, .int 0)]) d_Told_lay_141 rfl (by decide) [1, 2, 3, 4, 5, 6, 7, 8, 0] rfl ?_
                      refine g_aload_n (pc1 := 144) d_Told_lay_143 rfl 0 rfl ?_
                      refine g_getr (pc1 := 147) d_Told_lay_144 rfl ⟨_, fo_Told_27⟩ sh_383 (by decide) (rf_383_6 ld) ?_
                      refine g_aload_n (pc1 := 148) d_Told_lay_147 rfl 0 rfl ?_
                      refine g_geti (pc1 := 151) d_Told_lay_148 rfl ⟨_, fo_Told_41⟩ sh_383 (by decide) ?_
                      refine g_iconst (pc1 := 152) (v := 3) d_Told_lay_151 rfl (by decide) ?_
                      refine g_imul (pc1 := 153) d_Told_lay_152 rfl ?_
                      refine g_iload (pc1 := 155) d_Told_lay_153 rfl 7 rfl ?_
                      refine g_iadd (pc1 := 156) d_Told_lay_155 rfl ?_
                      refine g_aload_n (pc1 := 157) d_Told_lay_156 rfl 1 rfl ?_
                      refine g_iload_n (pc1 := 158) d_Told_lay_157 rfl 2 rfl ?_
                      refine g_iload (pc1 := 160) d_Told_lay_158 rfl 7 rfl ?_
                      refine g_callV0 (pc1 := 163) (As := [.int p2, .int v1806]) (rest := [.int (((M1807 383 7) * 3) + v1806), .ref 389]) d_Told_lay_160 rfl mo_Told_70 mi_Land_sumOf mv_Land_sumOf rfl (shLa_0 hLd1) (ltLa_0 hLd1) (by decide) rfl rfl (Nat.le_of_ble_eq_true rfl) ?_
                      refine t1_Land_sumOf hld Ld1 hLd1 _ _ (fun r1820 => ?_)
                      refine g_iload (pc1 := 165) d_Told_lay_163 rfl 8 rfl ?_
                      refine g_iadd (pc1 := 166) d_Told_lay_165 rfl ?_
                      refine g_callS0 (pc1 := 169) (As := [.ref 389, .int (((M1807 383 7) * 3) + v1806), .int (r1820 + 0)]) (rest := []) d_Told_lay_166 rfl mo_Told_37 ms_Main_put (by decide) rfl rfl (Nat.le_of_ble_eq_true rfl) ?_
                      refine t1_Main_put hld 389 sh_389 (by decide) (by decide) _ _ (fun  M1821 L1822 k1823 => ?_)
                      obtain ⟨x1824, ex1824⟩ : ∃ y : Int32, y = v1806 + 1 := ⟨_, rfl⟩
                      refine g_iinc (pc1 := 172) (v := x1824) (lv' := [(0, .ref 383), (1, .ref Ld1), (2, .int p2), (3, .int p3), (4, .int 0), (5, .int x1726), (6, .int x1728), (7, .int x1824), (8, .int 0)]) d_Told_lay_169 rfl 7 rfl (by rw [ex1824]; rfl) (by decide) [1, 2, 3, 4, 5, 6, 7, 0, 8] rfl ?_
                      refine g_goto (tgt := 115) d_Told_lay_172 (by decide) ?_
                      refine Wp.loc (lv' := [(0, .ref 383), (1, .ref Ld1), (2, .int p2), (3, .int p3), (4, .int 0), (5, .int x1726), (6, .int x1728), (7, .int x1824)]) [0, 1, 2, 3, 4, 5, 6, 7] rfl ?_
                      exact ih1803 x1824 M1821 L1822 (Kp.trans k1809 (Kp.mono k1823 (one_S rfl))) (nn_up (y := (3 : Int32)) h1811 ex1824 n1810) (md_up h1811 ex1824 hm1804)
              exact LP1805 _ 0 M1799 L1800 (Kp.trans (Kp.trans Kp.rf (Kp.mono k1798 (one_S rfl))) (Kp.mono k1801 (one_S rfl))) (by decide) (Nat.lt_succ_self _)
            · refine g_iconst (pc1 := 86) (v := 0) d_Told_lay_85 rfl (by decide) ?_
              refine g_ireturn (Or.inr ⟨rfl, rfl⟩) d_Told_lay_86 rfl ?_
              exact hQ _ _ _ (Or.inl rfl) Kp.rf
          · refine g_aload_n (pc1 := 70) d_Told_lay_69 rfl 1 rfl ?_
            refine g_iload_n (pc1 := 71) d_Told_lay_70 rfl 2 rfl ?_
            refine g_iload (pc1 := 73) d_Told_lay_71 rfl 5 rfl ?_
            refine g_callV0 (pc1 := 76) (As := [.int p2, .int x1726]) (rest := []) d_Told_lay_73 rfl mo_Told_63 mi_Land_inDish mv_Land_inDish rfl (shLa_0 hLd1) (ltLa_0 hLd1) (by decide) rfl rfl (Nat.le_of_ble_eq_true rfl) ?_
            refine t1_Land_inDish hld Ld1 hLd1 _ _ (fun r1825 => ?_)
            refine g_if_eq (pc1 := 79) (tgt := 85) d_Told_lay_76 (by decide) rfl (fun h1826 => ?_) (fun h1826 => ?_)
            · refine g_iconst (pc1 := 86) (v := 0) d_Told_lay_85 rfl (by decide) ?_
              refine g_ireturn (Or.inr ⟨rfl, rfl⟩) d_Told_lay_86 rfl ?_
              exact hQ _ _ _ (Or.inl rfl) Kp.rf
            · refine g_iload (pc1 := 81) d_Told_lay_79 rfl 6 rfl ?_
              refine g_iconst (pc1 := 82) (v := 1) d_Told_lay_81 rfl (by decide) ?_
              refine g_icmp_ge (pc1 := 85) (tgt := 87) d_Told_lay_82 (by decide) rfl (fun h1827 => ?_) (fun h1827 => ?_)
              · refine g_aload_n (pc1 := 88) d_Told_lay_87 rfl 0 rfl ?_
                refine g_getr (pc1 := 91) d_Told_lay_88 rfl ⟨_, fo_Told_21⟩ sh_383 (by decide) (rf_383_4 ld) ?_
                refine g_aload_n (pc1 := 92) d_Told_lay_91 rfl 0 rfl ?_
                refine g_geti (pc1 := 95) d_Told_lay_92 rfl ⟨_, fo_Told_41⟩ sh_383 (by decide) ?_
                refine g_iload_n (pc1 := 96) d_Told_lay_95 rfl 2 rfl ?_
                refine g_callS0 (pc1 := 99) (As := [.ref 387, .int (M 383 7), .int p2]) (rest := []) d_Told_lay_96 rfl mo_Told_37 ms_Main_put (by decide) rfl rfl (Nat.le_of_ble_eq_true rfl) ?_
                refine t1_Main_put hld 387 sh_387 (by decide) (by decide) _ _ (fun  M1828 L1829 k1830 => ?_)
                refine g_aload_n (pc1 := 100) d_Told_lay_99 rfl 0 rfl ?_
                refine g_getr (pc1 := 103) d_Told_lay_100 rfl ⟨_, fo_Told_24⟩ sh_383 (by decide) (rf_383_5 ld) ?_
                refine g_aload_n (pc1 := 104) d_Told_lay_103 rfl 0 rfl ?_
                refine g_geti (pc1 := 107) d_Told_lay_104 rfl ⟨_, fo_Told_41⟩ sh_383 (by decide) ?_
                refine g_iload (pc1 := 109) d_Told_lay_107 rfl 6 rfl ?_
                refine g_callS0 (pc1 := 112) (As := [.ref 388, .int (M1828 383 7), .int x1728]) (rest := []) d_Told_lay_109 rfl mo_Told_37 ms_Main_put (by decide) rfl rfl (Nat.le_of_ble_eq_true rfl) ?_
                refine t1_Main_put hld 388 sh_388 (by decide) (by decide) _ _ (fun  M1831 L1832 k1833 => ?_)
                refine g_iconst (pc1 := 113) (v := 0) d_Told_lay_112 rfl (by decide) ?_
                refine g_istore (pc1 := 115) (lv' := [(0, .ref 383), (1, .ref Ld1), (2, .int p2), (3, .int p3), (4, .int 0), (5, .int x1726), (6, .int x1728), (7, .int 0)]) d_Told_lay_113 rfl (by decide) [1, 2, 3, 4, 5, 6, 7, 0] rfl ?_
                have LP1837 : ∀ (f1834 : Nat) (v1838 : Int32) (M1839 : gM) (L1840 : gL), Kp S1 M L M1839 L1840 → ¬ v1838 < 0 → ((3 : Int32).toInt - v1838.toInt).toNat < f1834 → Wp l y_Told_lay (0, 0, 447) 447 0 0 115 [(0, .ref 383), (1, .ref Ld1), (2, .int p2), (3, .int p3), (4, .int 0), (5, .int x1726), (6, .int x1728), (7, .int v1838)] [] M1839 L1840 (rf ld) Q := by
                  intro f1834
                  induction f1834 with
                  | zero => intro v1838 M1839 L1840 _ _ hm1836; exact absurd hm1836 (Nat.not_lt_zero _)
                  | succ f1834 ih1835 =>
                    intro v1838 M1839 L1840 k1841 n1842 hm1836
                    refine g_iload (pc1 := 117) d_Told_lay_115 rfl 7 rfl ?_
                    refine g_iconst (pc1 := 118) (v := 3) d_Told_lay_117 rfl (by decide) ?_
                    refine g_icmp_ge (pc1 := 121) (tgt := 175) d_Told_lay_118 (by decide) rfl (fun h1843 => ?_) (fun h1843 => ?_)
                    · refine g_iconst (pc1 := 176) (v := 1) d_Told_lay_175 rfl (by decide) ?_
                      refine g_ireturn (Or.inr ⟨rfl, rfl⟩) d_Told_lay_176 rfl ?_
                      exact hQ _ _ _ (Or.inr rfl) k1841
                    · refine g_iload (pc1 := 123) d_Told_lay_121 rfl 4 rfl ?_
                      refine g_if_ne (pc1 := 126) (tgt := 130) d_Told_lay_123 (by decide) rfl (fun h1844 => ?_) (fun h1844 => ?_)
                      · refine g_iload (pc1 := 132) d_Told_lay_130 rfl 4 rfl ?_
                        refine g_aload_n (pc1 := 133) d_Told_lay_132 rfl 1 rfl ?_
                        refine g_iload (pc1 := 135) d_Told_lay_133 rfl 5 rfl ?_
                        refine g_iload (pc1 := 137) d_Told_lay_135 rfl 7 rfl ?_
                        refine g_callV0 (pc1 := 140) (As := [.int x1726, .int v1838]) (rest := [.int 0]) d_Told_lay_137 rfl mo_Told_67 mi_Land_broughtBy mv_Land_broughtBy rfl (shLa_0 hLd1) (ltLa_0 hLd1) (by decide) rfl rfl (Nat.le_of_ble_eq_true rfl) ?_
                        refine t1_Land_broughtBy hld Ld1 hLd1 _ _ (fun r1845 => ?_)
                        refine g_imul (pc1 := 141) d_Told_lay_140 rfl ?_
                        refine Wp.topi (fun x1846 ex1846 => ?_)
                        refine g_istore (pc1 := 143) (lv' := [(0, .ref 383), (1, .ref Ld1), (2, .int p2), (3, .int p3), (4, .int 0), (5, .int x1726), (6, .int x1728), (7, .int v1838), (8, .int x1846)]) d_Told_lay_141 rfl (by decide) [1, 2, 3, 4, 5, 6, 7, 8, 0] rfl ?_
                        refine g_aload_n (pc1 := 144) d_Told_lay_143 rfl 0 rfl ?_
                        refine g_getr (pc1 := 147) d_Told_lay_144 rfl ⟨_, fo_Told_27⟩ sh_383 (by decide) (rf_383_6 ld) ?_
                        refine g_aload_n (pc1 := 148) d_Told_lay_147 rfl 0 rfl ?_
                        refine g_geti (pc1 := 151) d_Told_lay_148 rfl ⟨_, fo_Told_41⟩ sh_383 (by decide) ?_
                        refine g_iconst (pc1 := 152) (v := 3) d_Told_lay_151 rfl (by decide) ?_
                        refine g_imul (pc1 := 153) d_Told_lay_152 rfl ?_
                        refine g_iload (pc1 := 155) d_Told_lay_153 rfl 7 rfl ?_
                        refine g_iadd (pc1 := 156) d_Told_lay_155 rfl ?_
                        refine g_aload_n (pc1 := 157) d_Told_lay_156 rfl 1 rfl ?_
                        refine g_iload_n (pc1 := 158) d_Told_lay_157 rfl 2 rfl ?_
                        refine g_iload (pc1 := 160) d_Told_lay_158 rfl 7 rfl ?_
                        refine g_callV0 (pc1 := 163) (As := [.int p2, .int v1838]) (rest := [.int (((M1839 383 7) * 3) + v1838), .ref 389]) d_Told_lay_160 rfl mo_Told_70 mi_Land_sumOf mv_Land_sumOf rfl (shLa_0 hLd1) (ltLa_0 hLd1) (by decide) rfl rfl (Nat.le_of_ble_eq_true rfl) ?_
                        refine t1_Land_sumOf hld Ld1 hLd1 _ _ (fun r1847 => ?_)
                        refine g_iload (pc1 := 165) d_Told_lay_163 rfl 8 rfl ?_
                        refine g_iadd (pc1 := 166) d_Told_lay_165 rfl ?_
                        refine g_callS0 (pc1 := 169) (As := [.ref 389, .int (((M1839 383 7) * 3) + v1838), .int (r1847 + x1846)]) (rest := []) d_Told_lay_166 rfl mo_Told_37 ms_Main_put (by decide) rfl rfl (Nat.le_of_ble_eq_true rfl) ?_
                        refine t1_Main_put hld 389 sh_389 (by decide) (by decide) _ _ (fun  M1848 L1849 k1850 => ?_)
                        obtain ⟨x1851, ex1851⟩ : ∃ y : Int32, y = v1838 + 1 := ⟨_, rfl⟩
                        refine g_iinc (pc1 := 172) (v := x1851) (lv' := [(0, .ref 383), (1, .ref Ld1), (2, .int p2), (3, .int p3), (4, .int 0), (5, .int x1726), (6, .int x1728), (7, .int x1851), (8, .int x1846)]) d_Told_lay_169 rfl 7 rfl (by rw [ex1851]; rfl) (by decide) [1, 2, 3, 4, 5, 6, 7, 0, 8] rfl ?_
                        refine g_goto (tgt := 115) d_Told_lay_172 (by decide) ?_
                        refine Wp.loc (lv' := [(0, .ref 383), (1, .ref Ld1), (2, .int p2), (3, .int p3), (4, .int 0), (5, .int x1726), (6, .int x1728), (7, .int x1851)]) [0, 1, 2, 3, 4, 5, 6, 7] rfl ?_
                        exact ih1835 x1851 M1848 L1849 (Kp.trans k1841 (Kp.mono k1850 (one_S rfl))) (nn_up (y := (3 : Int32)) h1843 ex1851 n1842) (md_up h1843 ex1851 hm1836)
                      · refine g_iconst (pc1 := 127) (v := 0) d_Told_lay_126 rfl (by decide) ?_
                        refine g_goto (tgt := 141) d_Told_lay_127 (by decide) ?_
                        refine g_istore (pc1 := 143) (lv' := [(0, .ref 383), (1, .ref Ld1), (2, .int p2), (3, .int p3), (4, .int 0), (5, .int x1726), (6, .int x1728), (7, .int v1838), (8, .int 0)]) d_Told_lay_141 rfl (by decide) [1, 2, 3, 4, 5, 6, 7, 8, 0] rfl ?_
                        refine g_aload_n (pc1 := 144) d_Told_lay_143 rfl 0 rfl ?_
                        refine g_getr (pc1 := 147) d_Told_lay_144 rfl ⟨_, fo_Told_27⟩ sh_383 (by decide) (rf_383_6 ld) ?_
                        refine g_aload_n (pc1 := 148) d_Told_lay_147 rfl 0 rfl ?_
                        refine g_geti (pc1 := 151) d_Told_lay_148 rfl ⟨_, fo_Told_41⟩ sh_383 (by decide) ?_
                        refine g_iconst (pc1 := 152) (v := 3) d_Told_lay_151 rfl (by decide) ?_
                        refine g_imul (pc1 := 153) d_Told_lay_152 rfl ?_
                        refine g_iload (pc1 := 155) d_Told_lay_153 rfl 7 rfl ?_
                        refine g_iadd (pc1 := 156) d_Told_lay_155 rfl ?_
                        refine g_aload_n (pc1 := 157) d_Told_lay_156 rfl 1 rfl ?_
                        refine g_iload_n (pc1 := 158) d_Told_lay_157 rfl 2 rfl ?_
                        refine g_iload (pc1 := 160) d_Told_lay_158 rfl 7 rfl ?_
                        refine g_callV0 (pc1 := 163) (As := [.int p2, .int v1838]) (rest := [.int (((M1839 383 7) * 3) + v1838), .ref 389]) d_Told_lay_160 rfl mo_Told_70 mi_Land_sumOf mv_Land_sumOf rfl (shLa_0 hLd1) (ltLa_0 hLd1) (by decide) rfl rfl (Nat.le_of_ble_eq_true rfl) ?_
                        refine t1_Land_sumOf hld Ld1 hLd1 _ _ (fun r1852 => ?_)
                        refine g_iload (pc1 := 165) d_Told_lay_163 rfl 8 rfl ?_
                        refine g_iadd (pc1 := 166) d_Told_lay_165 rfl ?_
                        refine g_callS0 (pc1 := 169) (As := [.ref 389, .int (((M1839 383 7) * 3) + v1838), .int (r1852 + 0)]) (rest := []) d_Told_lay_166 rfl mo_Told_37 ms_Main_put (by decide) rfl rfl (Nat.le_of_ble_eq_true rfl) ?_
                        refine t1_Main_put hld 389 sh_389 (by decide) (by decide) _ _ (fun  M1853 L1854 k1855 => ?_)
                        obtain ⟨x1856, ex1856⟩ : ∃ y : Int32, y = v1838 + 1 := ⟨_, rfl⟩
                        refine g_iinc (pc1 := 172) (v := x1856) (lv' := [(0, .ref 383), (1, .ref Ld1), (2, .int p2), (3, .int p3), (4, .int 0), (5, .int x1726), (6, .int x1728), (7, .int x1856), (8, .int 0)]) d_Told_lay_169 rfl 7 rfl (by rw [ex1856]; rfl) (by decide) [1, 2, 3, 4, 5, 6, 7, 0, 8] rfl ?_
                        refine g_goto (tgt := 115) d_Told_lay_172 (by decide) ?_
                        refine Wp.loc (lv' := [(0, .ref 383), (1, .ref Ld1), (2, .int p2), (3, .int p3), (4, .int 0), (5, .int x1726), (6, .int x1728), (7, .int x1856)]) [0, 1, 2, 3, 4, 5, 6, 7] rfl ?_
                        exact ih1835 x1856 M1853 L1854 (Kp.trans k1841 (Kp.mono k1855 (one_S rfl))) (nn_up (y := (3 : Int32)) h1843 ex1856 n1842) (md_up h1843 ex1856 hm1836)
                exact LP1837 _ 0 M1831 L1832 (Kp.trans (Kp.trans Kp.rf (Kp.mono k1830 (one_S rfl))) (Kp.mono k1833 (one_S rfl))) (by decide) (Nat.lt_succ_self _)
              · refine g_iconst (pc1 := 86) (v := 0) d_Told_lay_85 rfl (by decide) ?_
                refine g_ireturn (Or.inr ⟨rfl, rfl⟩) d_Told_lay_86 rfl ?_
                exact hQ _ _ _ (Or.inl rfl) Kp.rf
    · refine g_iload_n (pc1 := 27) d_Told_lay_26 rfl 3 rfl ?_
      refine g_iconst (pc1 := 28) (v := 1) d_Told_lay_27 rfl (by decide) ?_
      refine g_isub (pc1 := 29) d_Told_lay_28 rfl ?_
      refine g_goto (tgt := 38) d_Told_lay_29 (by decide) ?_
      refine Wp.topi (fun x1857 ex1857 => ?_)
      refine g_istore (pc1 := 40) (lv' := [(0, .ref 383), (1, .ref Ld1), (2, .int p2), (3, .int p3), (4, .int 0), (5, .int x1857)]) d_Told_lay_38 rfl (by decide) [1, 2, 3, 4, 5, 0] rfl ?_
      refine g_aload_n (pc1 := 41) d_Told_lay_40 rfl 1 rfl ?_
      refine g_iload_n (pc1 := 42) d_Told_lay_41 rfl 2 rfl ?_
      refine g_callV0 (pc1 := 45) (As := [.int p2]) (rest := []) d_Told_lay_42 rfl mo_Told_56 mi_Land_manyIn mv_Land_manyIn rfl (shLa_0 hLd1) (ltLa_0 hLd1) (by decide) rfl rfl (Nat.le_of_ble_eq_true rfl) ?_
      refine t1_Land_manyIn hld Ld1 hLd1 _ (fun r1858 => ?_)
      refine g_iload (pc1 := 47) d_Told_lay_45 rfl 4 rfl ?_
      refine g_iadd (pc1 := 48) d_Told_lay_47 rfl ?_
      refine Wp.topi (fun x1859 ex1859 => ?_)
      refine g_istore (pc1 := 50) (lv' := [(0, .ref 383), (1, .ref Ld1), (2, .int p2), (3, .int p3), (4, .int 0), (5, .int x1857), (6, .int x1859)]) d_Told_lay_48 rfl (by decide) [1, 2, 3, 4, 5, 6, 0] rfl ?_
      refine g_iload (pc1 := 52) d_Told_lay_50 rfl 4 rfl ?_
      refine g_if_eq (pc1 := 55) (tgt := 64) d_Told_lay_52 (by decide) rfl (fun h1860 => ?_) (fun h1860 => ?_)
      · refine g_iload (pc1 := 66) d_Told_lay_64 rfl 4 rfl ?_
        refine g_if_ge (pc1 := 69) (tgt := 79) d_Told_lay_66 (by decide) rfl (fun h1861 => ?_) (fun h1861 => ?_)
        · refine g_iload (pc1 := 81) d_Told_lay_79 rfl 6 rfl ?_
          refine g_iconst (pc1 := 82) (v := 1) d_Told_lay_81 rfl (by decide) ?_
          refine g_icmp_ge (pc1 := 85) (tgt := 87) d_Told_lay_82 (by decide) rfl (fun h1862 => ?_) (fun h1862 => ?_)
          · refine g_aload_n (pc1 := 88) d_Told_lay_87 rfl 0 rfl ?_
            refine g_getr (pc1 := 91) d_Told_lay_88 rfl ⟨_, fo_Told_21⟩ sh_383 (by decide) (rf_383_4 ld) ?_
            refine g_aload_n (pc1 := 92) d_Told_lay_91 rfl 0 rfl ?_
            refine g_geti (pc1 := 95) d_Told_lay_92 rfl ⟨_, fo_Told_41⟩ sh_383 (by decide) ?_
            refine g_iload_n (pc1 := 96) d_Told_lay_95 rfl 2 rfl ?_
            refine g_callS0 (pc1 := 99) (As := [.ref 387, .int (M 383 7), .int p2]) (rest := []) d_Told_lay_96 rfl mo_Told_37 ms_Main_put (by decide) rfl rfl (Nat.le_of_ble_eq_true rfl) ?_
            refine t1_Main_put hld 387 sh_387 (by decide) (by decide) _ _ (fun  M1863 L1864 k1865 => ?_)
            refine g_aload_n (pc1 := 100) d_Told_lay_99 rfl 0 rfl ?_
            refine g_getr (pc1 := 103) d_Told_lay_100 rfl ⟨_, fo_Told_24⟩ sh_383 (by decide) (rf_383_5 ld) ?_
            refine g_aload_n (pc1 := 104) d_Told_lay_103 rfl 0 rfl ?_
            refine g_geti (pc1 := 107) d_Told_lay_104 rfl ⟨_, fo_Told_41⟩ sh_383 (by decide) ?_
            refine g_iload (pc1 := 109) d_Told_lay_107 rfl 6 rfl ?_
            refine g_callS0 (pc1 := 112) (As := [.ref 388, .int (M1863 383 7), .int x1859]) (rest := []) d_Told_lay_109 rfl mo_Told_37 ms_Main_put (by decide) rfl rfl (Nat.le_of_ble_eq_true rfl) ?_
            refine t1_Main_put hld 388 sh_388 (by decide) (by decide) _ _ (fun  M1866 L1867 k1868 => ?_)
            refine g_iconst (pc1 := 113) (v := 0) d_Told_lay_112 rfl (by decide) ?_
            refine g_istore (pc1 := 115) (lv' := [(0, .ref 383), (1, .ref Ld1), (2, .int p2), (3, .int p3), (4, .int 0), (5, .int x1857), (6, .int x1859), (7, .int 0)]) d_Told_lay_113 rfl (by decide) [1, 2, 3, 4, 5, 6, 7, 0] rfl ?_
            have LP1872 : ∀ (f1869 : Nat) (v1873 : Int32) (M1874 : gM) (L1875 : gL), Kp S1 M L M1874 L1875 → ¬ v1873 < 0 → ((3 : Int32).toInt - v1873.toInt).toNat < f1869 → Wp l y_Told_lay (0, 0, 447) 447 0 0 115 [(0, .ref 383), (1, .ref Ld1), (2, .int p2), (3, .int p3), (4, .int 0), (5, .int x1857), (6, .int x1859), (7, .int v1873)] [] M1874 L1875 (rf ld) Q := by
              intro f1869
              induction f1869 with
              | zero => intro v1873 M1874 L1875 _ _ hm1871; exact absurd hm1871 (Nat.not_lt_zero _)
              | succ f1869 ih1870 =>
                intro v1873 M1874 L1875 k1876 n1877 hm1871
                refine g_iload (pc1 := 117) d_Told_lay_115 rfl 7 rfl ?_
                refine g_iconst (pc1 := 118) (v := 3) d_Told_lay_117 rfl (by decide) ?_
                refine g_icmp_ge (pc1 := 121) (tgt := 175) d_Told_lay_118 (by decide) rfl (fun h1878 => ?_) (fun h1878 => ?_)
                · refine g_iconst (pc1 := 176) (v := 1) d_Told_lay_175 rfl (by decide) ?_
                  refine g_ireturn (Or.inr ⟨rfl, rfl⟩) d_Told_lay_176 rfl ?_
                  exact hQ _ _ _ (Or.inr rfl) k1876
                · refine g_iload (pc1 := 123) d_Told_lay_121 rfl 4 rfl ?_
                  refine g_if_ne (pc1 := 126) (tgt := 130) d_Told_lay_123 (by decide) rfl (fun h1879 => ?_) (fun h1879 => ?_)
                  · refine g_iload (pc1 := 132) d_Told_lay_130 rfl 4 rfl ?_
                    refine g_aload_n (pc1 := 133) d_Told_lay_132 rfl 1 rfl ?_
                    refine g_iload (pc1 := 135) d_Told_lay_133 rfl 5 rfl ?_
                    refine g_iload (pc1 := 137) d_Told_lay_135 rfl 7 rfl ?_
                    refine g_callV0 (pc1 := 140) (As := [.int x1857, .int v1873]) (rest := [.int 0]) d_Told_lay_137 rfl mo_Told_67 mi_Land_broughtBy mv_Land_broughtBy rfl (shLa_0 hLd1) (ltLa_0 hLd1) (by decide) rfl rfl (Nat.le_of_ble_eq_true rfl) ?_
                    refine t1_Land_broughtBy hld Ld1 hLd1 _ _ (fun r1880 => ?_)
                    refine g_imul (pc1 := 141) d_Told_lay_140 rfl ?_
                    refine Wp.topi (fun x1881 ex1881 => ?_)
                    refine g_istore (pc1 := 143) (lv' := [(0, .ref 383), (1, .ref Ld1), (2, .int p2), (3, .int p3), (4, .int 0), (5, .int x1857), (6, .int x1859), (7, .int v1873), (8, .int x1881)]) d_Told_lay_141 rfl (by decide) [1, 2, 3, 4, 5, 6, 7, 8, 0] rfl ?_
                    refine g_aload_n (pc1 := 144) d_Told_lay_143 rfl 0 rfl ?_
                    refine g_getr (pc1 := 147) d_Told_lay_144 rfl ⟨_, fo_Told_27⟩ sh_383 (by decide) (rf_383_6 ld) ?_
                    refine g_aload_n (pc1 := 148) d_Told_lay_147 rfl 0 rfl ?_
                    refine g_geti (pc1 := 151) d_Told_lay_148 rfl ⟨_, fo_Told_41⟩ sh_383 (by decide) ?_
                    refine g_iconst (pc1 := 152) (v := 3) d_Told_lay_151 rfl (by decide) ?_
                    refine g_imul (pc1 := 153) d_Told_lay_152 rfl ?_
                    refine g_iload (pc1 := 155) d_Told_lay_153 rfl 7 rfl ?_
                    refine g_iadd (pc1 := 156) d_Told_lay_155 rfl ?_
                    refine g_aload_n (pc1 := 157) d_Told_lay_156 rfl 1 rfl ?_
                    refine g_iload_n (pc1 := 158) d_Told_lay_157 rfl 2 rfl ?_
                    refine g_iload (pc1 := 160) d_Told_lay_158 rfl 7 rfl ?_
                    refine g_callV0 (pc1 := 163) (As := [.int p2, .int v1873]) (rest := [.int (((M1874 383 7) * 3) + v1873), .ref 389]) d_Told_lay_160 rfl mo_Told_70 mi_Land_sumOf mv_Land_sumOf rfl (shLa_0 hLd1) (ltLa_0 hLd1) (by decide) rfl rfl (Nat.le_of_ble_eq_true rfl) ?_
                    refine t1_Land_sumOf hld Ld1 hLd1 _ _ (fun r1882 => ?_)
                    refine g_iload (pc1 := 165) d_Told_lay_163 rfl 8 rfl ?_
                    refine g_iadd (pc1 := 166) d_Told_lay_165 rfl ?_
                    refine g_callS0 (pc1 := 169) (As := [.ref 389, .int (((M1874 383 7) * 3) + v1873), .int (r1882 + x1881)]) (rest := []) d_Told_lay_166 rfl mo_Told_37 ms_Main_put (by decide) rfl rfl (Nat.le_of_ble_eq_true rfl) ?_
                    refine t1_Main_put hld 389 sh_389 (by decide) (by decide) _ _ (fun  M1883 L1884 k1885 => ?_)
                    obtain ⟨x1886, ex1886⟩ : ∃ y : Int32, y = v1873 + 1 := ⟨_, rfl⟩
                    refine g_iinc (pc1 := 172) (v := x1886) (lv' := [(0, .ref 383), (1, .ref Ld1), (2, .int p2), (3, .int p3), (4, .int 0), (5, .int x1857), (6, .int x1859), (7, .int x1886), (8, .int x1881)]) d_Told_lay_169 rfl 7 rfl (by rw [ex1886]; rfl) (by decide) [1, 2, 3, 4, 5, 6, 7, 0, 8] rfl ?_
                    refine g_goto (tgt := 115) d_Told_lay_172 (by decide) ?_
                    refine Wp.loc (lv' := [(0, .ref 383), (1, .ref Ld1), (2, .int p2), (3, .int p3), (4, .int 0), (5, .int x1857), (6, .int x1859), (7, .int x1886)]) [0, 1, 2, 3, 4, 5, 6, 7] rfl ?_
                    exact ih1870 x1886 M1883 L1884 (Kp.trans k1876 (Kp.mono k1885 (one_S rfl))) (nn_up (y := (3 : Int32)) h1878 ex1886 n1877) (md_up h1878 ex1886 hm1871)
                  · refine g_iconst (pc1 := 127) (v := 0) d_Told_lay_126 rfl (by decide) ?_
                    refine g_goto (tgt := 141) d_Told_lay_127 (by decide) ?_
                    refine g_istore (pc1 := 143) (lv' := [(0, .ref 383), (1, .ref Ld1), (2, .int p2), (3, .int p3), (4, .int 0), (5, .int x1857), (6, .int x1859), (7, .int v1873), (8, .int 0)]) d_Told_lay_141 rfl (by decide) [1, 2, 3, 4, 5, 6, 7, 8, 0] rfl ?_
                    refine g_aload_n (pc1 := 144) d_Told_lay_143 rfl 0 rfl ?_
                    refine g_getr (pc1 := 147) d_Told_lay_144 rfl ⟨_, fo_Told_27⟩ sh_383 (by decide) (rf_383_6 ld) ?_
                    refine g_aload_n (pc1 := 148) d_Told_lay_147 rfl 0 rfl ?_
                    refine g_geti (pc1 := 151) d_Told_lay_148 rfl ⟨_, fo_Told_41⟩ sh_383 (by decide) ?_
                    refine g_iconst (pc1 := 152) (v := 3) d_Told_lay_151 rfl (by decide) ?_
                    refine g_imul (pc1 := 153) d_Told_lay_152 rfl ?_
                    refine g_iload (pc1 := 155) d_Told_lay_153 rfl 7 rfl ?_
                    refine g_iadd (pc1 := 156) d_Told_lay_155 rfl ?_
                    refine g_aload_n (pc1 := 157) d_Told_lay_156 rfl 1 rfl ?_
                    refine g_iload_n (pc1 := 158) d_Told_lay_157 rfl 2 rfl ?_
                    refine g_iload (pc1 := 160) d_Told_lay_158 rfl 7 rfl ?_
                    refine g_callV0 (pc1 := 163) (As := [.int p2, .int v1873]) (rest := [.int (((M1874 383 7) * 3) + v1873), .ref 389]) d_Told_lay_160 rfl mo_Told_70 mi_Land_sumOf mv_Land_sumOf rfl (shLa_0 hLd1) (ltLa_0 hLd1) (by decide) rfl rfl (Nat.le_of_ble_eq_true rfl) ?_
                    refine t1_Land_sumOf hld Ld1 hLd1 _ _ (fun r1887 => ?_)
                    refine g_iload (pc1 := 165) d_Told_lay_163 rfl 8 rfl ?_
                    refine g_iadd (pc1 := 166) d_Told_lay_165 rfl ?_
                    refine g_callS0 (pc1 := 169) (As := [.ref 389, .int (((M1874 383 7) * 3) + v1873), .int (r1887 + 0)]) (rest := []) d_Told_lay_166 rfl mo_Told_37 ms_Main_put (by decide) rfl rfl (Nat.le_of_ble_eq_true rfl) ?_
                    refine t1_Main_put hld 389 sh_389 (by decide) (by decide) _ _ (fun  M1888 L1889 k1890 => ?_)
                    obtain ⟨x1891, ex1891⟩ : ∃ y : Int32, y = v1873 + 1 := ⟨_, rfl⟩
                    refine g_iinc (pc1 := 172) (v := x1891) (lv' := [(0, .ref 383), (1, .ref Ld1), (2, .int p2), (3, .int p3), (4, .int 0), (5, .int x1857), (6, .int x1859), (7, .int x1891), (8, .int 0)]) d_Told_lay_169 rfl 7 rfl (by rw [ex1891]; rfl) (by decide) [1, 2, 3, 4, 5, 6, 7, 0, 8] rfl ?_
                    refine g_goto (tgt := 115) d_Told_lay_172 (by decide) ?_
                    refine Wp.loc (lv' := [(0, .ref 383), (1, .ref Ld1), (2, .int p2), (3, .int p3), (4, .int 0), (5, .int x1857), (6, .int x1859), (7, .int x1891)]) [0, 1, 2, 3, 4, 5, 6, 7] rfl ?_
                    exact ih1870 x1891 M1888 L1889 (Kp.trans k1876 (Kp.mono k1890 (one_S rfl))) (nn_up (y := (3 : Int32)) h1878 ex1891 n1877) (md_up h1878 ex1891 hm1871)
            exact LP1872 _ 0 M1866 L1867 (Kp.trans (Kp.trans Kp.rf (Kp.mono k1865 (one_S rfl))) (Kp.mono k1868 (one_S rfl))) (by decide) (Nat.lt_succ_self _)
          · refine g_iconst (pc1 := 86) (v := 0) d_Told_lay_85 rfl (by decide) ?_
            refine g_ireturn (Or.inr ⟨rfl, rfl⟩) d_Told_lay_86 rfl ?_
            exact hQ _ _ _ (Or.inl rfl) Kp.rf
        · refine g_aload_n (pc1 := 70) d_Told_lay_69 rfl 1 rfl ?_
          refine g_iload_n (pc1 := 71) d_Told_lay_70 rfl 2 rfl ?_
          refine g_iload (pc1 := 73) d_Told_lay_71 rfl 5 rfl ?_
          refine g_callV0 (pc1 := 76) (As := [.int p2, .int x1857]) (rest := []) d_Told_lay_73 rfl mo_Told_63 mi_Land_inDish mv_Land_inDish rfl (shLa_0 hLd1) (ltLa_0 hLd1) (by decide) rfl rfl (Nat.le_of_ble_eq_true rfl) ?_
          refine t1_Land_inDish hld Ld1 hLd1 _ _ (fun r1892 => ?_)
          refine g_if_eq (pc1 := 79) (tgt := 85) d_Told_lay_76 (by decide) rfl (fun h1893 => ?_) (fun h1893 => ?_)
          · refine g_iconst (pc1 := 86) (v := 0) d_Told_lay_85 rfl (by decide) ?_
            refine g_ireturn (Or.inr ⟨rfl, rfl⟩) d_Told_lay_86 rfl ?_
            exact hQ _ _ _ (Or.inl rfl) Kp.rf
          · refine g_iload (pc1 := 81) d_Told_lay_79 rfl 6 rfl ?_
            refine g_iconst (pc1 := 82) (v := 1) d_Told_lay_81 rfl (by decide) ?_
            refine g_icmp_ge (pc1 := 85) (tgt := 87) d_Told_lay_82 (by decide) rfl (fun h1894 => ?_) (fun h1894 => ?_)
            · refine g_aload_n (pc1 := 88) d_Told_lay_87 rfl 0 rfl ?_
              refine g_getr (pc1 := 91) d_Told_lay_88 rfl ⟨_, fo_Told_21⟩ sh_383 (by decide) (rf_383_4 ld) ?_
              refine g_aload_n (pc1 := 92) d_Told_lay_91 rfl 0 rfl ?_
              refine g_geti (pc1 := 95) d_Told_lay_92 rfl ⟨_, fo_Told_41⟩ sh_383 (by decide) ?_
              refine g_iload_n (pc1 := 96) d_Told_lay_95 rfl 2 rfl ?_
              refine g_callS0 (pc1 := 99) (As := [.ref 387, .int (M 383 7), .int p2]) (rest := []) d_Told_lay_96 rfl mo_Told_37 ms_Main_put (by decide) rfl rfl (Nat.le_of_ble_eq_true rfl) ?_
              refine t1_Main_put hld 387 sh_387 (by decide) (by decide) _ _ (fun  M1895 L1896 k1897 => ?_)
              refine g_aload_n (pc1 := 100) d_Told_lay_99 rfl 0 rfl ?_
              refine g_getr (pc1 := 103) d_Told_lay_100 rfl ⟨_, fo_Told_24⟩ sh_383 (by decide) (rf_383_5 ld) ?_
              refine g_aload_n (pc1 := 104) d_Told_lay_103 rfl 0 rfl ?_
              refine g_geti (pc1 := 107) d_Told_lay_104 rfl ⟨_, fo_Told_41⟩ sh_383 (by decide) ?_
              refine g_iload (pc1 := 109) d_Told_lay_107 rfl 6 rfl ?_
              refine g_callS0 (pc1 := 112) (As := [.ref 388, .int (M1895 383 7), .int x1859]) (rest := []) d_Told_lay_109 rfl mo_Told_37 ms_Main_put (by decide) rfl rfl (Nat.le_of_ble_eq_true rfl) ?_
              refine t1_Main_put hld 388 sh_388 (by decide) (by decide) _ _ (fun  M1898 L1899 k1900 => ?_)
              refine g_iconst (pc1 := 113) (v := 0) d_Told_lay_112 rfl (by decide) ?_
              refine g_istore (pc1 := 115) (lv' := [(0, .ref 383), (1, .ref Ld1), (2, .int p2), (3, .int p3), (4, .int 0), (5, .int x1857), (6, .int x1859), (7, .int 0)]) d_Told_lay_113 rfl (by decide) [1, 2, 3, 4, 5, 6, 7, 0] rfl ?_
              have LP1904 : ∀ (f1901 : Nat) (v1905 : Int32) (M1906 : gM) (L1907 : gL), Kp S1 M L M1906 L1907 → ¬ v1905 < 0 → ((3 : Int32).toInt - v1905.toInt).toNat < f1901 → Wp l y_Told_lay (0, 0, 447) 447 0 0 115 [(0, .ref 383), (1, .ref Ld1), (2, .int p2), (3, .int p3), (4, .int 0), (5, .int x1857), (6, .int x1859), (7, .int v1905)] [] M1906 L1907 (rf ld) Q := by
                intro f1901
                induction f1901 with
                | zero => intro v1905 M1906 L1907 _ _ hm1903; exact absurd hm1903 (Nat.not_lt_zero _)
                | succ f1901 ih1902 =>
                  intro v1905 M1906 L1907 k1908 n1909 hm1903
                  refine g_iload (pc1 := 117) d_Told_lay_115 rfl 7 rfl ?_
                  refine g_iconst (pc1 := 118) (v := 3) d_Told_lay_117 rfl (by decide) ?_
                  refine g_icmp_ge (pc1 := 121) (tgt := 175) d_Told_lay_118 (by decide) rfl (fun h1910 => ?_) (fun h1910 => ?_)
                  · refine g_iconst (pc1 := 176) (v := 1) d_Told_lay_175 rfl (by decide) ?_
                    refine g_ireturn (Or.inr ⟨rfl, rfl⟩) d_Told_lay_176 rfl ?_
                    exact hQ _ _ _ (Or.inr rfl) k1908
                  · refine g_iload (pc1 := 123) d_Told_lay_121 rfl 4 rfl ?_
                    refine g_if_ne (pc1 := 126) (tgt := 130) d_Told_lay_123 (by decide) rfl (fun h1911 => ?_) (fun h1911 => ?_)
                    · refine g_iload (pc1 := 132) d_Told_lay_130 rfl 4 rfl ?_
                      refine g_aload_n (pc1 := 133) d_Told_lay_132 rfl 1 rfl ?_
                      refine g_iload (pc1 := 135) d_Told_lay_133 rfl 5 rfl ?_
                      refine g_iload (pc1 := 137) d_Told_lay_135 rfl 7 rfl ?_
                      refine g_callV0 (pc1 := 140) (As := [.int x1857, .int v1905]) (rest := [.int 0]) d_Told_lay_137 rfl mo_Told_67 mi_Land_broughtBy mv_Land_broughtBy rfl (shLa_0 hLd1) (ltLa_0 hLd1) (by decide) rfl rfl (Nat.le_of_ble_eq_true rfl) ?_
                      refine t1_Land_broughtBy hld Ld1 hLd1 _ _ (fun r1912 => ?_)
                      refine g_imul (pc1 := 141) d_Told_lay_140 rfl ?_
                      refine Wp.topi (fun x1913 ex1913 => ?_)
                      refine g_istore (pc1 := 143) (lv' := [(0, .ref 383), (1, .ref Ld1), (2, .int p2), (3, .int p3), (4, .int 0), (5, .int x1857), (6, .int x1859), (7, .int v1905), (8, .int x1913)]) d_Told_lay_141 rfl (by decide) [1, 2, 3, 4, 5, 6, 7, 8, 0] rfl ?_
                      refine g_aload_n (pc1 := 144) d_Told_lay_143 rfl 0 rfl ?_
                      refine g_getr (pc1 := 147) d_Told_lay_144 rfl ⟨_, fo_Told_27⟩ sh_383 (by decide) (rf_383_6 ld) ?_
                      refine g_aload_n (pc1 := 148) d_Told_lay_147 rfl 0 rfl ?_
                      refine g_geti (pc1 := 151) d_Told_lay_148 rfl ⟨_, fo_Told_41⟩ sh_383 (by decide) ?_
                      refine g_iconst (pc1 := 152) (v := 3) d_Told_lay_151 rfl (by decide) ?_
                      refine g_imul (pc1 := 153) d_Told_lay_152 rfl ?_
                      refine g_iload (pc1 := 155) d_Told_lay_153 rfl 7 rfl ?_
                      refine g_iadd (pc1 := 156) d_Told_lay_155 rfl ?_
                      refine g_aload_n (pc1 := 157) d_Told_lay_156 rfl 1 rfl ?_
                      refine g_iload_n (pc1 := 158) d_Told_lay_157 rfl 2 rfl ?_
                      refine g_iload (pc1 := 160) d_Told_lay_158 rfl 7 rfl ?_
                      refine g_callV0 (pc1 := 163) (As := [.int p2, .int v1905]) (rest := [.int (((M1906 383 7) * 3) + v1905), .ref 389]) d_Told_lay_160 rfl mo_Told_70 mi_Land_sumOf mv_Land_sumOf rfl (shLa_0 hLd1) (ltLa_0 hLd1) (by decide) rfl rfl (Nat.le_of_ble_eq_true rfl) ?_
                      refine t1_Land_sumOf hld Ld1 hLd1 _ _ (fun r1914 => ?_)
                      refine g_iload (pc1 := 165) d_Told_lay_163 rfl 8 rfl ?_
                      refine g_iadd (pc1 := 166) d_Told_lay_165 rfl ?_
                      refine g_callS0 (pc1 := 169) (As := [.ref 389, .int (((M1906 383 7) * 3) + v1905), .int (r1914 + x1913)]) (rest := []) d_Told_lay_166 rfl mo_Told_37 ms_Main_put (by decide) rfl rfl (Nat.le_of_ble_eq_true rfl) ?_
                      refine t1_Main_put hld 389 sh_389 (by decide) (by decide) _ _ (fun  M1915 L1916 k1917 => ?_)
                      obtain ⟨x1918, ex1918⟩ : ∃ y : Int32, y = v1905 + 1 := ⟨_, rfl⟩
                      refine g_iinc (pc1 := 172) (v := x1918) (lv' := [(0, .ref 383), (1, .ref Ld1), (2, .int p2), (3, .int p3), (4, .int 0), (5, .int x1857), (6, .int x1859), (7, .int x1918), (8, .int x1913)]) d_Told_lay_169 rfl 7 rfl (by rw [ex1918]; rfl) (by decide) [1, 2, 3, 4, 5, 6, 7, 0, 8] rfl ?_
                      refine g_goto (tgt := 115) d_Told_lay_172 (by decide) ?_
                      refine Wp.loc (lv' := [(0, .ref 383), (1, .ref Ld1), (2, .int p2), (3, .int p3), (4, .int 0), (5, .int x1857), (6, .int x1859), (7, .int x1918)]) [0, 1, 2, 3, 4, 5, 6, 7] rfl ?_
                      exact ih1902 x1918 M1915 L1916 (Kp.trans k1908 (Kp.mono k1917 (one_S rfl))) (nn_up (y := (3 : Int32)) h1910 ex1918 n1909) (md_up h1910 ex1918 hm1903)
                    · refine g_iconst (pc1 := 127) (v := 0) d_Told_lay_126 rfl (by decide) ?_
                      refine g_goto (tgt := 141) d_Told_lay_127 (by decide) ?_
                      refine g_istore (pc1 := 143) (lv' := [(0, .ref 383), (1, .ref Ld1), (2, .int p2), (3, .int p3), (4, .int 0), (5, .int x1857), (6, .int x1859), (7, .int v1905), (8, .int 0)]) d_Told_lay_141 rfl (by decide) [1, 2, 3, 4, 5, 6, 7, 8, 0] rfl ?_
                      refine g_aload_n (pc1 := 144) d_Told_lay_143 rfl 0 rfl ?_
                      refine g_getr (pc1 := 147) d_Told_lay_144 rfl ⟨_, fo_Told_27⟩ sh_383 (by decide) (rf_383_6 ld) ?_
                      refine g_aload_n (pc1 := 148) d_Told_lay_147 rfl 0 rfl ?_
                      refine g_geti (pc1 := 151) d_Told_lay_148 rfl ⟨_, fo_Told_41⟩ sh_383 (by decide) ?_
                      refine g_iconst (pc1 := 152) (v := 3) d_Told_lay_151 rfl (by decide) ?_
                      refine g_imul (pc1 := 153) d_Told_lay_152 rfl ?_
                      refine g_iload (pc1 := 155) d_Told_lay_153 rfl 7 rfl ?_
                      refine g_iadd (pc1 := 156) d_Told_lay_155 rfl ?_
                      refine g_aload_n (pc1 := 157) d_Told_lay_156 rfl 1 rfl ?_
                      refine g_iload_n (pc1 := 158) d_Told_lay_157 rfl 2 rfl ?_
                      refine g_iload (pc1 := 160) d_Told_lay_158 rfl 7 rfl ?_
                      refine g_callV0 (pc1 := 163) (As := [.int p2, .int v1905]) (rest := [.int (((M1906 383 7) * 3) + v1905), .ref 389]) d_Told_lay_160 rfl mo_Told_70 mi_Land_sumOf mv_Land_sumOf rfl (shLa_0 hLd1) (ltLa_0 hLd1) (by decide) rfl rfl (Nat.le_of_ble_eq_true rfl) ?_
                      refine t1_Land_sumOf hld Ld1 hLd1 _ _ (fun r1919 => ?_)
                      refine g_iload (pc1 := 165) d_Told_lay_163 rfl 8 rfl ?_
                      refine g_iadd (pc1 := 166) d_Told_lay_165 rfl ?_
                      refine g_callS0 (pc1 := 169) (As := [.ref 389, .int (((M1906 383 7) * 3) + v1905), .int (r1919 + 0)]) (rest := []) d_Told_lay_166 rfl mo_Told_37 ms_Main_put (by decide) rfl rfl (Nat.le_of_ble_eq_true rfl) ?_
                      refine t1_Main_put hld 389 sh_389 (by decide) (by decide) _ _ (fun  M1920 L1921 k1922 => ?_)
                      obtain ⟨x1923, ex1923⟩ : ∃ y : Int32, y = v1905 + 1 := ⟨_, rfl⟩
                      refine g_iinc (pc1 := 172) (v := x1923) (lv' := [(0, .ref 383), (1, .ref Ld1), (2, .int p2), (3, .int p3), (4, .int 0), (5, .int x1857), (6, .int x1859), (7, .int x1923), (8, .int 0)]) d_Told_lay_169 rfl 7 rfl (by rw [ex1923]; rfl) (by decide) [1, 2, 3, 4, 5, 6, 7, 0, 8] rfl ?_
                      refine g_goto (tgt := 115) d_Told_lay_172 (by decide) ?_
                      refine Wp.loc (lv' := [(0, .ref 383), (1, .ref Ld1), (2, .int p2), (3, .int p3), (4, .int 0), (5, .int x1857), (6, .int x1859), (7, .int x1923)]) [0, 1, 2, 3, 4, 5, 6, 7] rfl ?_
                      exact ih1902 x1923 M1920 L1921 (Kp.trans k1908 (Kp.mono k1922 (one_S rfl))) (nn_up (y := (3 : Int32)) h1910 ex1923 n1909) (md_up h1910 ex1923 hm1903)
              exact LP1904 _ 0 M1898 L1899 (Kp.trans (Kp.trans Kp.rf (Kp.mono k1897 (one_S rfl))) (Kp.mono k1900 (one_S rfl))) (by decide) (Nat.lt_succ_self _)
            · refine g_iconst (pc1 := 86) (v := 0) d_Told_lay_85 rfl (by decide) ?_
              refine g_ireturn (Or.inr ⟨rfl, rfl⟩) d_Told_lay_86 rfl ?_
              exact hQ _ _ _ (Or.inl rfl) Kp.rf
      · refine g_iload (pc1 := 57) d_Told_lay_55 rfl 5 rfl ?_
        refine g_aload_n (pc1 := 58) d_Told_lay_57 rfl 1 rfl ?_
        refine g_geti (pc1 := 61) d_Told_lay_58 rfl ⟨_, fo_Told_60⟩ (shLa_0 hLd1) (ltLa_0 hLd1) ?_
        refine g_icmp_ge (pc1 := 64) (tgt := 85) d_Told_lay_61 (by decide) rfl (fun h1924 => ?_) (fun h1924 => ?_)
        · refine g_iconst (pc1 := 86) (v := 0) d_Told_lay_85 rfl (by decide) ?_
          refine g_ireturn (Or.inr ⟨rfl, rfl⟩) d_Told_lay_86 rfl ?_
          exact hQ _ _ _ (Or.inl rfl) Kp.rf
        · refine g_iload (pc1 := 66) d_Told_lay_64 rfl 4 rfl ?_
          refine g_if_ge (pc1 := 69) (tgt := 79) d_Told_lay_66 (by decide) rfl (fun h1925 => ?_) (fun h1925 => ?_)
          · refine g_iload (pc1 := 81) d_Told_lay_79 rfl 6 rfl ?_
            refine g_iconst (pc1 := 82) (v := 1) d_Told_lay_81 rfl (by decide) ?_
            refine g_icmp_ge (pc1 := 85) (tgt := 87) d_Told_lay_82 (by decide) rfl (fun h1926 => ?_) (fun h1926 => ?_)
            · refine g_aload_n (pc1 := 88) d_Told_lay_87 rfl 0 rfl ?_
              refine g_getr (pc1 := 91) d_Told_lay_88 rfl ⟨_, fo_Told_21⟩ sh_383 (by decide) (rf_383_4 ld) ?_
              refine g_aload_n (pc1 := 92) d_Told_lay_91 rfl 0 rfl ?_
              refine g_geti (pc1 := 95) d_Told_lay_92 rfl ⟨_, fo_Told_41⟩ sh_383 (by decide) ?_
              refine g_iload_n (pc1 := 96) d_Told_lay_95 rfl 2 rfl ?_
              refine g_callS0 (pc1 := 99) (As := [.ref 387, .int (M 383 7), .int p2]) (rest := []) d_Told_lay_96 rfl mo_Told_37 ms_Main_put (by decide) rfl rfl (Nat.le_of_ble_eq_true rfl) ?_
              refine t1_Main_put hld 387 sh_387 (by decide) (by decide) _ _ (fun  M1927 L1928 k1929 => ?_)
              refine g_aload_n (pc1 := 100) d_Told_lay_99 rfl 0 rfl ?_
              refine g_getr (pc1 := 103) d_Told_lay_100 rfl ⟨_, fo_Told_24⟩ sh_383 (by decide) (rf_383_5 ld) ?_
              refine g_aload_n (pc1 := 104) d_Told_lay_103 rfl 0 rfl ?_
              refine g_geti (pc1 := 107) d_Told_lay_104 rfl ⟨_, fo_Told_41⟩ sh_383 (by decide) ?_
              refine g_iload (pc1 := 109) d_Told_lay_107 rfl 6 rfl ?_
              refine g_callS0 (pc1 := 112) (As := [.ref 388, .int (M1927 383 7), .int x1859]) (rest := []) d_Told_lay_109 rfl mo_Told_37 ms_Main_put (by decide) rfl rfl (Nat.le_of_ble_eq_true rfl) ?_
              refine t1_Main_put hld 388 sh_388 (by decide) (by decide) _ _ (fun  M1930 L1931 k1932 => ?_)
              refine g_iconst (pc1 := 113) (v := 0) d_Told_lay_112 rfl (by decide) ?_
              refine g_istore (pc1 := 115) (lv' := [(0, .ref 383), (1, .ref Ld1), (2, .int p2), (3, .int p3), (4, .int 0), (5, .int x1857), (6, .int x1859), (7, .int 0)]) d_Told_lay_113 rfl (by decide) [1, 2, 3, 4, 5, 6, 7, 0] rfl ?_
              have LP1936 : ∀ (f1933 : Nat) (v1937 : Int32) (M1938 : gM) (L1939 : gL), Kp S1 M L M1938 L1939 → ¬ v1937 < 0 → ((3 : Int32).toInt - v1937.toInt).toNat < f1933 → Wp l y_Told_lay (0, 0, 447) 447 0 0 115 [(0, .ref 383), (1, .ref Ld1), (2, .int p2), (3, .int p3), (4, .int 0), (5, .int x1857), (6, .int x1859), (7, .int v1937)] [] M1938 L1939 (rf ld) Q := by
                intro f1933
                induction f1933 with
                | zero => intro v1937 M1938 L1939 _ _ hm1935; exact absurd hm1935 (Nat.not_lt_zero _)
                | succ f1933 ih1934 =>
                  intro v1937 M1938 L1939 k1940 n1941 hm1935
                  refine g_iload (pc1 := 117) d_Told_lay_115 rfl 7 rfl ?_
                  refine g_iconst (pc1 := 118) (v := 3) d_Told_lay_117 rfl (by decide) ?_
                  refine g_icmp_ge (pc1 := 121) (tgt := 175) d_Told_lay_118 (by decide) rfl (fun h1942 => ?_) (fun h1942 => ?_)
                  · refine g_iconst (pc1 := 176) (v := 1) d_Told_lay_175 rfl (by decide) ?_
                    refine g_ireturn (Or.inr ⟨rfl, rfl⟩) d_Told_lay_176 rfl ?_
                    exact hQ _ _ _ (Or.inr rfl) k1940
                  · refine g_iload (pc1 := 123) d_Told_lay_121 rfl 4 rfl ?_
                    refine g_if_ne (pc1 := 126) (tgt := 130) d_Told_lay_123 (by decide) rfl (fun h1943 => ?_) (fun h1943 => ?_)
                    · refine g_iload (pc1 := 132) d_Told_lay_130 rfl 4 rfl ?_
                      refine g_aload_n (pc1 := 133) d_Told_lay_132 rfl 1 rfl ?_
                      refine g_iload (pc1 := 135) d_Told_lay_133 rfl 5 rfl ?_
                      refine g_iload (pc1 := 137) d_Told_lay_135 rfl 7 rfl ?_
                      refine g_callV0 (pc1 := 140) (As := [.int x1857, .int v1937]) (rest := [.int 0]) d_Told_lay_137 rfl mo_Told_67 mi_Land_broughtBy mv_Land_broughtBy rfl (shLa_0 hLd1) (ltLa_0 hLd1) (by decide) rfl rfl (Nat.le_of_ble_eq_true rfl) ?_
                      refine t1_Land_broughtBy hld Ld1 hLd1 _ _ (fun r1944 => ?_)
                      refine g_imul (pc1 := 141) d_Told_lay_140 rfl ?_
                      refine Wp.topi (fun x1945 ex1945 => ?_)
                      refine g_istore (pc1 := 143) (lv' := [(0, .ref 383), (1, .ref Ld1), (2, .int p2), (3, .int p3), (4, .int 0), (5, .int x1857), (6, .int x1859), (7, .int v1937), (8, .int x1945)]) d_Told_lay_141 rfl (by decide) [1, 2, 3, 4, 5, 6, 7, 8, 0] rfl ?_
                      refine g_aload_n (pc1 := 144) d_Told_lay_143 rfl 0 rfl ?_
                      refine g_getr (pc1 := 147) d_Told_lay_144 rfl ⟨_, fo_Told_27⟩ sh_383 (by decide) (rf_383_6 ld) ?_
                      refine g_aload_n (pc1 := 148) d_Told_lay_147 rfl 0 rfl ?_
                      refine g_geti (pc1 := 151) d_Told_lay_148 rfl ⟨_, fo_Told_41⟩ sh_383 (by decide) ?_
                      refine g_iconst (pc1 := 152) (v := 3) d_Told_lay_151 rfl (by decide) ?_
                      refine g_imul (pc1 := 153) d_Told_lay_152 rfl ?_
                      refine g_iload (pc1 := 155) d_Told_lay_153 rfl 7 rfl ?_
                      refine g_iadd (pc1 := 156) d_Told_lay_155 rfl ?_
                      refine g_aload_n (pc1 := 157) d_Told_lay_156 rfl 1 rfl ?_
                      refine g_iload_n (pc1 := 158) d_Told_lay_157 rfl 2 rfl ?_
                      refine g_iload (pc1 := 160) d_Told_lay_158 rfl 7 rfl ?_
                      refine g_callV0 (pc1 := 163) (As := [.int p2, .int v1937]) (rest := [.int (((M1938 383 7) * 3) + v1937), .ref 389]) d_Told_lay_160 rfl mo_Told_70 mi_Land_sumOf mv_Land_sumOf rfl (shLa_0 hLd1) (ltLa_0 hLd1) (by decide) rfl rfl (Nat.le_of_ble_eq_true rfl) ?_
                      refine t1_Land_sumOf hld Ld1 hLd1 _ _ (fun r1946 => ?_)
                      refine g_iload (pc1 := 165) d_Told_lay_163 rfl 8 rfl ?_
                      refine g_iadd (pc1 := 166) d_Told_lay_165 rfl ?_
                      refine g_callS0 (pc1 := 169) (As := [.ref 389, .int (((M1938 383 7) * 3) + v1937), .int (r1946 + x1945)]) (rest := []) d_Told_lay_166 rfl mo_Told_37 ms_Main_put (by decide) rfl rfl (Nat.le_of_ble_eq_true rfl) ?_
                      refine t1_Main_put hld 389 sh_389 (by decide) (by decide) _ _ (fun  M1947 L1948 k1949 => ?_)
                      obtain ⟨x1950, ex1950⟩ : ∃ y : Int32, y = v1937 + 1 := ⟨_, rfl⟩
                      refine g_iinc (pc1 := 172) (v := x1950) (lv' := [(0, .ref 383), (1, .ref Ld1), (2, .int p2), (3, .int p3), (4, .int 0), (5, .int x1857), (6, .int x1859), (7, .int x1950), (8, .int x1945)]) d_Told_lay_169 rfl 7 rfl (by rw [ex1950]; rfl) (by decide) [1, 2, 3, 4, 5, 6, 7, 0, 8] rfl ?_
                      refine g_goto (tgt := 115) d_Told_lay_172 (by decide) ?_
                      refine Wp.loc (lv' := [(0, .ref 383), (1, .ref Ld1), (2, .int p2), (3, .int p3), (4, .int 0), (5, .int x1857), (6, .int x1859), (7, .int x1950)]) [0, 1, 2, 3, 4, 5, 6, 7] rfl ?_
                      exact ih1934 x1950 M1947 L1948 (Kp.trans k1940 (Kp.mono k1949 (one_S rfl))) (nn_up (y := (3 : Int32)) h1942 ex1950 n1941) (md_up h1942 ex1950 hm1935)
                    · refine g_iconst (pc1 := 127) (v := 0) d_Told_lay_126 rfl (by decide) ?_
                      refine g_goto (tgt := 141) d_Told_lay_127 (by decide) ?_
                      refine g_istore (pc1 := 143) (lv' := [(0, .ref 383), (1, .ref Ld1), (2, .int p2), (3, .int p3), (4, .int 0), (5, .int x1857), (6, .int x1859), (7, .int v1937), (8, .int 0)]) d_Told_lay_141 rfl (by decide) [1, 2, 3, 4, 5, 6, 7, 8, 0] rfl ?_
                      refine g_aload_n (pc1 := 144) d_Told_lay_143 rfl 0 rfl ?_
                      refine g_getr (pc1 := 147) d_Told_lay_144 rfl ⟨_, fo_Told_27⟩ sh_383 (by decide) (rf_383_6 ld) ?_
                      refine g_aload_n (pc1 := 148) d_Told_lay_147 rfl 0 rfl ?_
                      refine g_geti (pc1 := 151) d_Told_lay_148 rfl ⟨_, fo_Told_41⟩ sh_383 (by decide) ?_
                      refine g_iconst (pc1 := 152) (v := 3) d_Told_lay_151 rfl (by decide) ?_
                      refine g_imul (pc1 := 153) d_Told_lay_152 rfl ?_
                      refine g_iload (pc1 := 155) d_Told_lay_153 rfl 7 rfl ?_
                      refine g_iadd (pc1 := 156) d_Told_lay_155 rfl ?_
                      refine g_aload_n (pc1 := 157) d_Told_lay_156 rfl 1 rfl ?_
                      refine g_iload_n (pc1 := 158) d_Told_lay_157 rfl 2 rfl ?_
                      refine g_iload (pc1 := 160) d_Told_lay_158 rfl 7 rfl ?_
                      refine g_callV0 (pc1 := 163) (As := [.int p2, .int v1937]) (rest := [.int (((M1938 383 7) * 3) + v1937), .ref 389]) d_Told_lay_160 rfl mo_Told_70 mi_Land_sumOf mv_Land_sumOf rfl (shLa_0 hLd1) (ltLa_0 hLd1) (by decide) rfl rfl (Nat.le_of_ble_eq_true rfl) ?_
                      refine t1_Land_sumOf hld Ld1 hLd1 _ _ (fun r1951 => ?_)
                      refine g_iload (pc1 := 165) d_Told_lay_163 rfl 8 rfl ?_
                      refine g_iadd (pc1 := 166) d_Told_lay_165 rfl ?_
                      refine g_callS0 (pc1 := 169) (As := [.ref 389, .int (((M1938 383 7) * 3) + v1937), .int (r1951 + 0)]) (rest := []) d_Told_lay_166 rfl mo_Told_37 ms_Main_put (by decide) rfl rfl (Nat.le_of_ble_eq_true rfl) ?_
                      refine t1_Main_put hld 389 sh_389 (by decide) (by decide) _ _ (fun  M1952 L1953 k1954 => ?_)
                      obtain ⟨x1955, ex1955⟩ : ∃ y : Int32, y = v1937 + 1 := ⟨_, rfl⟩
                      refine g_iinc (pc1 := 172) (v := x1955) (lv' := [(0, .ref 383), (1, .ref Ld1), (2, .int p2), (3, .int p3), (4, .int 0), (5, .int x1857), (6, .int x1859), (7, .int x1955), (8, .int 0)]) d_Told_lay_169 rfl 7 rfl (by rw [ex1955]; rfl) (by decide) [1, 2, 3, 4, 5, 6, 7, 0, 8] rfl ?_
                      refine g_goto (tgt := 115) d_Told_lay_172 (by decide) ?_
                      refine Wp.loc (lv' := [(0, .ref 383), (1, .ref Ld1), (2, .int p2), (3, .int p3), (4, .int 0), (5, .int x1857), (6, .int x1859), (7, .int x1955)]) [0, 1, 2, 3, 4, 5, 6, 7] rfl ?_
                      exact ih1934 x1955 M1952 L1953 (Kp.trans k1940 (Kp.mono k1954 (one_S rfl))) (nn_up (y := (3 : Int32)) h1942 ex1955 n1941) (md_up h1942 ex1955 hm1935)
              exact LP1936 _ 0 M1930 L1931 (Kp.trans (Kp.trans Kp.rf (Kp.mono k1929 (one_S rfl))) (Kp.mono k1932 (one_S rfl))) (by decide) (Nat.lt_succ_self _)
            · refine g_iconst (pc1 := 86) (v := 0) d_Told_lay_85 rfl (by decide) ?_
              refine g_ireturn (Or.inr ⟨rfl, rfl⟩) d_Told_lay_86 rfl ?_
              exact hQ _ _ _ (Or.inl rfl) Kp.rf
          · refine g_aload_n (pc1 := 70) d_Told_lay_69 rfl 1 rfl ?_
            refine g_iload_n (pc1 := 71) d_Told_lay_70 rfl 2 rfl ?_
            refine g_iload (pc1 := 73) d_Told_lay_71 rfl 5 rfl ?_
            refine g_callV0 (pc1 := 76) (As := [.int p2, .int x1857]) (rest := []) d_Told_lay_73 rfl mo_Told_63 mi_Land_inDish mv_Land_inDish rfl (shLa_0 hLd1) (ltLa_0 hLd1) (by decide) rfl rfl (Nat.le_of_ble_eq_true rfl) ?_
            refine t1_Land_inDish hld Ld1 hLd1 _ _ (fun r1956 => ?_)
            refine g_if_eq (pc1 := 79) (tgt := 85) d_Told_lay_76 (by decide) rfl (fun h1957 => ?_) (fun h1957 => ?_)
            · refine g_iconst (pc1 := 86) (v := 0) d_Told_lay_85 rfl (by decide) ?_
              refine g_ireturn (Or.inr ⟨rfl, rfl⟩) d_Told_lay_86 rfl ?_
              exact hQ _ _ _ (Or.inl rfl) Kp.rf
            · refine g_iload (pc1 := 81) d_Told_lay_79 rfl 6 rfl ?_
              refine g_iconst (pc1 := 82) (v := 1) d_Told_lay_81 rfl (by decide) ?_
              refine g_icmp_ge (pc1 := 85) (tgt := 87) d_Told_lay_82 (by decide) rfl (fun h1958 => ?_) (fun h1958 => ?_)
              · refine g_aload_n (pc1 := 88) d_Told_lay_87 rfl 0 rfl ?_
                refine g_getr (pc1 := 91) d_Told_lay_88 rfl ⟨_, fo_Told_21⟩ sh_383 (by decide) (rf_383_4 ld) ?_
                refine g_aload_n (pc1 := 92) d_Told_lay_91 rfl 0 rfl ?_
                refine g_geti (pc1 := 95) d_Told_lay_92 rfl ⟨_, fo_Told_41⟩ sh_383 (by decide) ?_
                refine g_iload_n (pc1 := 96) d_Told_lay_95 rfl 2 rfl ?_
                refine g_callS0 (pc1 := 99) (As := [.ref 387, .int (M 383 7), .int p2]) (rest := []) d_Told_lay_96 rfl mo_Told_37 ms_Main_put (by decide) rfl rfl (Nat.le_of_ble_eq_true rfl) ?_
                refine t1_Main_put hld 387 sh_387 (by decide) (by decide) _ _ (fun  M1959 L1960 k1961 => ?_)
                refine g_aload_n (pc1 := 100) d_Told_lay_99 rfl 0 rfl ?_
                refine g_getr (pc1 := 103) d_Told_lay_100 rfl ⟨_, fo_Told_24⟩ sh_383 (by decide) (rf_383_5 ld) ?_
                refine g_aload_n (pc1 := 104) d_Told_lay_103 rfl 0 rfl ?_
                refine g_geti (pc1 := 107) d_Told_lay_104 rfl ⟨_, fo_Told_41⟩ sh_383 (by decide) ?_
                refine g_iload (pc1 := 109) d_Told_lay_107 rfl 6 rfl ?_
                refine g_callS0 (pc1 := 112) (As := [.ref 388, .int (M1959 383 7), .int x1859]) (rest := []) d_Told_lay_109 rfl mo_Told_37 ms_Main_put (by decide) rfl rfl (Nat.le_of_ble_eq_true rfl) ?_
                refine t1_Main_put hld 388 sh_388 (by decide) (by decide) _ _ (fun  M1962 L1963 k1964 => ?_)
                refine g_iconst (pc1 := 113) (v := 0) d_Told_lay_112 rfl (by decide) ?_
                refine g_istore (pc1 := 115) (lv' := [(0, .ref 383), (1, .ref Ld1), (2, .int p2), (3, .int p3), (4, .int 0), (5, .int x1857), (6, .int x1859), (7, .int 0)]) d_Told_lay_113 rfl (by decide) [1, 2, 3, 4, 5, 6, 7, 0] rfl ?_
                have LP1968 : ∀ (f1965 : Nat) (v1969 : Int32) (M1970 : gM) (L1971 : gL), Kp S1 M L M1970 L1971 → ¬ v1969 < 0 → ((3 : Int32).toInt - v1969.toInt).toNat < f1965 → Wp l y_Told_lay (0, 0, 447) 447 0 0 115 [(0, .ref 383), (1, .ref Ld1), (2, .int p2), (3, .int p3), (4, .int 0), (5, .int x1857), (6, .int x1859), (7, .int v1969)] [] M1970 L1971 (rf ld) Q := by
                  intro f1965
                  induction f1965 with
                  | zero => intro v1969 M1970 L1971 _ _ hm1967; exact absurd hm1967 (Nat.not_lt_zero _)
                  | succ f1965 ih1966 =>
                    intro v1969 M1970 L1971 k1972 n1973 hm1967
                    refine g_iload (pc1 := 117) d_Told_lay_115 rfl 7 rfl ?_
                    refine g_iconst (pc1 := 118) (v := 3) d_Told_lay_117 rfl (by decide) ?_
                    refine g_icmp_ge (pc1 := 121) (tgt := 175) d_Told_lay_118 (by decide) rfl (fun h1974 => ?_) (fun h1974 => ?_)
                    · refine g_iconst (pc1 := 176) (v := 1) d_Told_lay_175 rfl (by decide) ?_
                      refine g_ireturn (Or.inr ⟨rfl, rfl⟩) d_Told_lay_176 rfl ?_
                      exact hQ _ _ _ (Or.inr rfl) k1972
                    · refine g_iload (pc1 := 123) d_Told_lay_121 rfl 4 rfl ?_
                      refine g_if_ne (pc1 := 126) (tgt := 130) d_Told_lay_123 (by decide) rfl (fun h1975 => ?_) (fun h1975 => ?_)
                      · refine g_iload (pc1 := 132) d_Told_lay_130 rfl 4 rfl ?_
                        refine g_aload_n (pc1 := 133) d_Told_lay_132 rfl 1 rfl ?_
                        refine g_iload (pc1 := 135) d_Told_lay_133 rfl 5 rfl ?_
                        refine g_iload (pc1 := 137) d_Told_lay_135 rfl 7 rfl ?_
                        refine g_callV0 (pc1 := 140) (As := [.int x1857, .int v1969]) (rest := [.int 0]) d_Told_lay_137 rfl mo_Told_67 mi_Land_broughtBy mv_Land_broughtBy rfl (shLa_0 hLd1) (ltLa_0 hLd1) (by decide) rfl rfl (Nat.le_of_ble_eq_true rfl) ?_
                        refine t1_Land_broughtBy hld Ld1 hLd1 _ _ (fun r1976 => ?_)
                        refine g_imul (pc1 := 141) d_Told_lay_140 rfl ?_
                        refine Wp.topi (fun x1977 ex1977 => ?_)
                        refine g_istore (pc1 := 143) (lv' := [(0, .ref 383), (1, .ref Ld1), (2, .int p2), (3, .int p3), (4, .int 0), (5, .int x1857), (6, .int x1859), (7, .int v1969), (8, .int x1977)]) d_Told_lay_141 rfl (by decide) [1, 2, 3, 4, 5, 6, 7, 8, 0] rfl ?_
                        refine g_aload_n (pc1 := 144) d_Told_lay_143 rfl 0 rfl ?_
                        refine g_getr (pc1 := 147) d_Told_lay_144 rfl ⟨_, fo_Told_27⟩ sh_383 (by decide) (rf_383_6 ld) ?_
                        refine g_aload_n (pc1 := 148) d_Told_lay_147 rfl 0 rfl ?_
                        refine g_geti (pc1 := 151) d_Told_lay_148 rfl ⟨_, fo_Told_41⟩ sh_383 (by decide) ?_
                        refine g_iconst (pc1 := 152) (v := 3) d_Told_lay_151 rfl (by decide) ?_
                        refine g_imul (pc1 := 153) d_Told_lay_152 rfl ?_
                        refine g_iload (pc1 := 155) d_Told_lay_153 rfl 7 rfl ?_
                        refine g_iadd (pc1 := 156) d_Told_lay_155 rfl ?_
                        refine g_aload_n (pc1 := 157) d_Told_lay_156 rfl 1 rfl ?_
                        refine g_iload_n (pc1 := 158) d_Told_lay_157 rfl 2 rfl ?_
                        refine g_iload (pc1 := 160) d_Told_lay_158 rfl 7 rfl ?_
                        refine g_callV0 (pc1 := 163) (As := [.int p2, .int v1969]) (rest := [.int (((M1970 383 7) * 3) + v1969), .ref 389]) d_Told_lay_160 rfl mo_Told_70 mi_Land_sumOf mv_Land_sumOf rfl (shLa_0 hLd1) (ltLa_0 hLd1) (by decide) rfl rfl (Nat.le_of_ble_eq_true rfl) ?_
                        refine t1_Land_sumOf hld Ld1 hLd1 _ _ (fun r1978 => ?_)
                        refine g_iload (pc1 := 165) d_Told_lay_163 rfl 8 rfl ?_
                        refine g_iadd (pc1 := 166) d_Told_lay_165 rfl ?_
                        refine g_callS0 (pc1 := 169) (As := [.ref 389, .int (((M1970 383 7) * 3) + v1969), .int (r1978 + x1977)]) (rest := []) d_Told_lay_166 rfl mo_Told_37 ms_Main_put (by decide) rfl rfl (Nat.le_of_ble_eq_true rfl) ?_
                        refine t1_Main_put hld 389 sh_389 (by decide) (by decide) _ _ (fun  M1979 L1980 k1981 => ?_)
                        obtain ⟨x1982, ex1982⟩ : ∃ y : Int32, y = v1969 + 1 := ⟨_, rfl⟩
                        refine g_iinc (pc1 := 172) (v := x1982) (lv' := [(0, .ref 383), (1, .ref Ld1), (2, .int p2), (3, .int p3), (4, .int 0), (5, .int x1857), (6, .int x1859), (7, .int x1982), (8, .int x1977)]) d_Told_lay_169 rfl 7 rfl (by rw [ex1982]; rfl) (by decide) [1, 2, 3, 4, 5, 6, 7, 0, 8] rfl ?_
                        refine g_goto (tgt := 115) d_Told_lay_172 (by decide) ?_
                        refine Wp.loc (lv' := [(0, .ref 383), (1, .ref Ld1), (2, .int p2), (3, .int p3), (4, .int 0), (5, .int x1857), (6, .int x1859), (7, .int x1982)]) [0, 1, 2, 3, 4, 5, 6, 7] rfl ?_
                        exact ih1966 x1982 M1979 L1980 (Kp.trans k1972 (Kp.mono k1981 (one_S rfl))) (nn_up (y := (3 : Int32)) h1974 ex1982 n1973) (md_up h1974 ex1982 hm1967)
                      · refine g_iconst (pc1 := 127) (v := 0) d_Told_lay_126 rfl (by decide) ?_
                        refine g_goto (tgt := 141) d_Told_lay_127 (by decide) ?_
                        refine g_istore (pc1 := 143) (lv' := [(0, .ref 383), (1, .ref Ld1), (2, .int p2), (3, .int p3), (4, .int 0), (5, .int x1857), (6, .int x1859), (7, .int v1969), (8, .int 0)]) d_Told_lay_141 rfl (by decide) [1, 2, 3, 4, 5, 6, 7, 8, 0] rfl ?_
                        refine g_aload_n (pc1 := 144) d_Told_lay_143 rfl 0 rfl ?_
                        refine g_getr (pc1 := 147) d_Told_lay_144 rfl ⟨_, fo_Told_27⟩ sh_383 (by decide) (rf_383_6 ld) ?_
                        refine g_aload_n (pc1 := 148) d_Told_lay_147 rfl 0 rfl ?_
                        refine g_geti (pc1 := 151) d_Told_lay_148 rfl ⟨_, fo_Told_41⟩ sh_383 (by decide) ?_
                        refine g_iconst (pc1 := 152) (v := 3) d_Told_lay_151 rfl (by decide) ?_
                        refine g_imul (pc1 := 153) d_Told_lay_152 rfl ?_
                        refine g_iload (pc1 := 155) d_Told_lay_153 rfl 7 rfl ?_
                        refine g_iadd (pc1 := 156) d_Told_lay_155 rfl ?_
                        refine g_aload_n (pc1 := 157) d_Told_lay_156 rfl 1 rfl ?_
                        refine g_iload_n (pc1 := 158) d_Told_lay_157 rfl 2 rfl ?_
                        refine g_iload (pc1 := 160) d_Told_lay_158 rfl 7 rfl ?_
                        refine g_callV0 (pc1 := 163) (As := [.int p2, .int v1969]) (rest := [.int (((M1970 383 7) * 3) + v1969), .ref 389]) d_Told_lay_160 rfl mo_Told_70 mi_Land_sumOf mv_Land_sumOf rfl (shLa_0 hLd1) (ltLa_0 hLd1) (by decide) rfl rfl (Nat.le_of_ble_eq_true rfl) ?_
                        refine t1_Land_sumOf hld Ld1 hLd1 _ _ (fun r1983 => ?_)
                        refine g_iload (pc1 := 165) d_Told_lay_163 rfl 8 rfl ?_
                        refine g_iadd (pc1 := 166) d_Told_lay_165 rfl ?_
                        refine g_callS0 (pc1 := 169) (As := [.ref 389, .int (((M1970 383 7) * 3) + v1969), .int (r1983 + 0)]) (rest := []) d_Told_lay_166 rfl mo_Told_37 ms_Main_put (by decide) rfl rfl (Nat.le_of_ble_eq_true rfl) ?_
                        refine t1_Main_put hld 389 sh_389 (by decide) (by decide) _ _ (fun  M1984 L1985 k1986 => ?_)
                        obtain ⟨x1987, ex1987⟩ : ∃ y : Int32, y = v1969 + 1 := ⟨_, rfl⟩
                        refine g_iinc (pc1 := 172) (v := x1987) (lv' := [(0, .ref 383), (1, .ref Ld1), (2, .int p2), (3, .int p3), (4, .int 0), (5, .int x1857), (6, .int x1859), (7, .int x1987), (8, .int 0)]) d_Told_lay_169 rfl 7 rfl (by rw [ex1987]; rfl) (by decide) [1, 2, 3, 4, 5, 6, 7, 0, 8] rfl ?_
                        refine g_goto (tgt := 115) d_Told_lay_172 (by decide) ?_
                        refine Wp.loc (lv' := [(0, .ref 383), (1, .ref Ld1), (2, .int p2), (3, .int p3), (4, .int 0), (5, .int x1857), (6, .int x1859), (7, .int x1987)]) [0, 1, 2, 3, 4, 5, 6, 7] rfl ?_
                        exact ih1966 x1987 M1984 L1985 (Kp.trans k1972 (Kp.mono k1986 (one_S rfl))) (nn_up (y := (3 : Int32)) h1974 ex1987 n1973) (md_up h1974 ex1987 hm1967)
                exact LP1968 _ 0 M1962 L1963 (Kp.trans (Kp.trans Kp.rf (Kp.mono k1961 (one_S rfl))) (Kp.mono k1964 (one_S rfl))) (by decide) (Nat.lt_succ_self _)
              · refine g_iconst (pc1 := 86) (v := 0) d_Told_lay_85 rfl (by decide) ?_
                refine g_ireturn (Or.inr ⟨rfl, rfl⟩) d_Told_lay_86 rfl ?_
                exact hQ _ _ _ (Or.inl rfl) Kp.rf
