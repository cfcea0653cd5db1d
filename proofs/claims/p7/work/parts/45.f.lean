def F_Main_pot (ld : Nat) (p1 : Int32) (p2 : Int32) (p3 : Int32) (p4 : Int32) (M : gM) : Option (Int32 × gM) :=
  bI (F_Main_isOne p1 100) (fun r2 => (if r2 = 0 then some ((-1), M) else bI (F_Main_isOne p2 100) (fun r5 => (if r5 = 0 then some ((-1), M) else bI (F_Main_isOne p3 100) (fun r8 => (if r8 = 0 then some ((-1), M) else bI (F_Main_isOne p4 8) (fun r11 => (if r11 = 0 then some ((-1), M) else bI2 (F_PotSearch_find ld 64 p1 p2 p3 M) (fun r14 M15 => (if r14 = 0 then some ((-2), M15) else (if p4 = 0 then some ((M15 391 6), M15) else (if p4 = 1 then some ((M15 391 8), M15) else bI (F_Main_at 395 6 (p4 - 2) M15) (fun r20 => some (r20, M15))))))))))))))
set_option maxHeartbeats 4000000 in
set_option maxRecDepth 20000 in
theorem f_Main_pot {l : Launch} {ld : Nat} {M : gM} {L : gL} {Q : Option Value → gM → gL → gR → Prop} (hld : isLa ld) {p1 : Int32} {p2 : Int32} {p3 : Int32} {p4 : Int32}  {q : Int32 × gM} (h : F_Main_pot ld p1 p2 p3 p4 M = some q) (hQ : Q (some (.int q.1)) q.2 L (rf ld)) : Tm l y_Main_pot (0, 0, 447) 447 [.ref 0, .int p1, .int p2, .int p3, .int p4] M L (rf ld) Q := by
  refine Tm.of (by decide) (Nat.le_of_ble_eq_true rfl) ?_
  show Wp l y_Main_pot (0, 0, 447) 447 0 0 0 [(0, .ref 0), (1, .int p1), (2, .int p2), (3, .int p3), (4, .int p4)] [] M L (rf ld) Q
  unfold F_Main_pot at h
  refine g_iload_n (pc1 := 1) d_Main_pot_0 rfl 1 rfl ?_
  refine g_bipush (pc1 := 3) (v := 100) d_Main_pot_1 rfl (by decide) ?_
  refine g_callS0 (pc1 := 6) (As := [.int p1, .int 100]) (rest := []) d_Main_pot_3 rfl mo_Main_112 ms_Main_isOne (by decide) rfl rfl (Nat.le_of_ble_eq_true rfl) ?_
  obtain ⟨r2, hq1, h⟩ := bnd h
  refine f_Main_isOne hld  hq1 ?_
  dsimp only [psh]
  refine g_if_eq (pc1 := 9) (tgt := 37) d_Main_pot_6 (by decide) rfl (fun c3 => ?_) (fun c3 => ?_)
  · replace h := itp h c3
    refine g_iconst (pc1 := 38) (v := (-1)) d_Main_pot_37 rfl (by decide) ?_
    refine g_ireturn (Or.inl rfl) d_Main_pot_38 rfl ?_
    cases h; exact hQ
  · replace h := itn h c3
    refine g_iload_n (pc1 := 10) d_Main_pot_9 rfl 2 rfl ?_
    refine g_bipush (pc1 := 12) (v := 100) d_Main_pot_10 rfl (by decide) ?_
    refine g_callS0 (pc1 := 15) (As := [.int p2, .int 100]) (rest := []) d_Main_pot_12 rfl mo_Main_112 ms_Main_isOne (by decide) rfl rfl (Nat.le_of_ble_eq_true rfl) ?_
    obtain ⟨r5, hq4, h⟩ := bnd h
    refine f_Main_isOne hld  hq4 ?_
    dsimp only [psh]
    refine g_if_eq (pc1 := 18) (tgt := 37) d_Main_pot_15 (by decide) rfl (fun c6 => ?_) (fun c6 => ?_)
    · replace h := itp h c6
      refine g_iconst (pc1 := 38) (v := (-1)) d_Main_pot_37 rfl (by decide) ?_
      refine g_ireturn (Or.inl rfl) d_Main_pot_38 rfl ?_
      cases h; exact hQ
    · replace h := itn h c6
      refine g_iload_n (pc1 := 19) d_Main_pot_18 rfl 3 rfl ?_
      refine g_bipush (pc1 := 21) (v := 100) d_Main_pot_19 rfl (by decide) ?_
      refine g_callS0 (pc1 := 24) (As := [.int p3, .int 100]) (rest := []) d_Main_pot_21 rfl mo_Main_112 ms_Main_isOne (by decide) rfl rfl (Nat.le_of_ble_eq_true rfl) ?_
      obtain ⟨r8, hq7, h⟩ := bnd h
      refine f_Main_isOne hld  hq7 ?_
      dsimp only [psh]
      refine g_if_eq (pc1 := 27) (tgt := 37) d_Main_pot_24 (by decide) rfl (fun c9 => ?_) (fun c9 => ?_)
      · replace h := itp h c9
        refine g_iconst (pc1 := 38) (v := (-1)) d_Main_pot_37 rfl (by decide) ?_
        refine g_ireturn (Or.inl rfl) d_Main_pot_38 rfl ?_
        cases h; exact hQ
      · replace h := itn h c9
        refine g_iload (pc1 := 29) d_Main_pot_27 rfl 4 rfl ?_
        refine g_bipush (pc1 := 31) (v := 8) d_Main_pot_29 rfl (by decide) ?_
        refine g_callS0 (pc1 := 34) (As := [.int p4, .int 8]) (rest := []) d_Main_pot_31 rfl mo_Main_112 ms_Main_isOne (by decide) rfl rfl (Nat.le_of_ble_eq_true rfl) ?_
        obtain ⟨r11, hq10, h⟩ := bnd h
        refine f_Main_isOne hld  hq10 ?_
        dsimp only [psh]
        refine g_if_ne (pc1 := 37) (tgt := 39) d_Main_pot_34 (by decide) rfl (fun c12 => ?_) (fun c12 => ?_)
        · replace h := itn h c12
          refine g_aload_n (pc1 := 40) d_Main_pot_39 rfl 0 rfl ?_
          refine g_getr (pc1 := 43) d_Main_pot_40 rfl ⟨_, fo_Main_67⟩ sh_0 (by decide) (rf_0_9 ld) ?_
          refine g_aload_n (pc1 := 44) d_Main_pot_43 rfl 0 rfl ?_
          refine g_getr (pc1 := 47) d_Main_pot_44 rfl ⟨_, fo_Main_26⟩ sh_0 (by decide) (rf_0_2 ld) ?_
          refine g_aload_n (pc1 := 48) d_Main_pot_47 rfl 0 rfl ?_
          refine g_getr (pc1 := 51) d_Main_pot_48 rfl ⟨_, fo_Main_36⟩ sh_0 (by decide) (rf_0_4 ld) ?_
          refine g_iload_n (pc1 := 52) d_Main_pot_51 rfl 1 rfl ?_
          refine g_iload_n (pc1 := 53) d_Main_pot_52 rfl 2 rfl ?_
          refine g_iload_n (pc1 := 54) d_Main_pot_53 rfl 3 rfl ?_
          refine g_callV0 (pc1 := 57) (As := [.ref ld, .ref 64, .int p1, .int p2, .int p3]) (rest := []) d_Main_pot_54 rfl mo_Main_222 mi_PotSearch_find mv_PotSearch_find rfl sh_391 (by decide) (by decide) rfl rfl (Nat.le_of_ble_eq_true rfl) ?_
          obtain ⟨r14, M15, hq13, h⟩ := bnd2 h
          refine f_PotSearch_find hld hld isSt_64 hq13 ?_
          dsimp only [psh]
          refine g_if_ne (pc1 := 60) (tgt := 63) d_Main_pot_57 (by decide) rfl (fun c16 => ?_) (fun c16 => ?_)
          · replace h := itn h c16
            refine g_iload (pc1 := 65) d_Main_pot_63 rfl 4 rfl ?_
            refine g_if_ne (pc1 := 68) (tgt := 76) d_Main_pot_65 (by decide) rfl (fun c17 => ?_) (fun c17 => ?_)
            · replace h := itn h c17
              refine g_iload (pc1 := 78) d_Main_pot_76 rfl 4 rfl ?_
              refine g_iconst (pc1 := 79) (v := 1) d_Main_pot_78 rfl (by decide) ?_
              refine g_icmp_ne (pc1 := 82) (tgt := 92) d_Main_pot_79 (by decide) rfl (fun c18 => ?_) (fun c18 => ?_)
              · replace h := itn h c18
                refine g_aload_n (pc1 := 93) d_Main_pot_92 rfl 0 rfl ?_
                refine g_getr (pc1 := 96) d_Main_pot_93 rfl ⟨_, fo_Main_67⟩ sh_0 (by decide) (rf_0_9 ld) ?_
                refine g_getr (pc1 := 99) d_Main_pot_96 rfl ⟨_, fo_Main_232⟩ sh_391 (by decide) (rf_391_5 ld) ?_
                refine g_iload (pc1 := 101) d_Main_pot_99 rfl 4 rfl ?_
                refine g_iconst (pc1 := 102) (v := 2) d_Main_pot_101 rfl (by decide) ?_
                refine g_isub (pc1 := 103) d_Main_pot_102 rfl ?_
                refine g_callS0 (pc1 := 106) (As := [.ref 395, .int (p4 - 2)]) (rest := []) d_Main_pot_103 rfl mo_Main_120 ms_Main_at (by decide) rfl rfl (Nat.le_of_ble_eq_true rfl) ?_
                obtain ⟨r20, hq19, h⟩ := bnd h
                refine f_Main_at hld sh_395 (by decide) (by decide) hq19 ?_
                dsimp only [psh]
                refine g_ireturn (Or.inl rfl) d_Main_pot_106 rfl ?_
                cases h; exact hQ
              · replace h := itp h c18
                refine g_aload_n (pc1 := 83) d_Main_pot_82 rfl 0 rfl ?_
                refine g_getr (pc1 := 86) d_Main_pot_83 rfl ⟨_, fo_Main_67⟩ sh_0 (by decide) (rf_0_9 ld) ?_
                refine g_geti (pc1 := 89) d_Main_pot_86 rfl ⟨_, fo_Main_229⟩ sh_391 (by decide) ?_
                refine g_goto (tgt := 106) d_Main_pot_89 (by decide) ?_
                refine g_ireturn (Or.inl rfl) d_Main_pot_106 rfl ?_
                cases h; exact hQ
            · replace h := itp h c17
              refine g_aload_n (pc1 := 69) d_Main_pot_68 rfl 0 rfl ?_
              refine g_getr (pc1 := 72) d_Main_pot_69 rfl ⟨_, fo_Main_67⟩ sh_0 (by decide) (rf_0_9 ld) ?_
              refine g_geti (pc1 := 75) d_Main_pot_72 rfl ⟨_, fo_Main_226⟩ sh_391 (by decide) ?_
              refine g_ireturn (Or.inl rfl) d_Main_pot_75 rfl ?_
              cases h; exact hQ
          · replace h := itp h c16
            refine g_bipush (pc1 := 62) (v := (-2)) d_Main_pot_60 rfl (by decide) ?_
            refine g_ireturn (Or.inl rfl) d_Main_pot_62 rfl ?_
            cases h; exact hQ
        · replace h := itp h c12
          refine g_iconst (pc1 := 38) (v := (-1)) d_Main_pot_37 rfl (by decide) ?_
          refine g_ireturn (Or.inl rfl) d_Main_pot_38 rfl ?_
          cases h; exact hQ

def F_Main_read (ld : Nat) (M : gM) (L : gL) : Option (Int32 × gM × gL × Nat) :=
  bI3 (F_Reader_parse (50 - ld) M L) (fun r2 M3 L4 => bI (F_Reader_placeOfFault M3) (fun r6 => nmM (uM M3 0 11 r6) (fun M7 => nmM (uM M7 1 1 0) (fun M8 => (if r2 = 0 then bI (F_Main_beginDraft ld M8) (fun M11 => some (r2, M11, L4, (50 - ld))) else some (r2, M8, L4, ld))))))
set_option maxHeartbeats 4000000 in
set_option maxRecDepth 20000 in
theorem f_Main_read {l : Launch} {ld : Nat} {M : gM} {L : gL} {Q : Option Value → gM → gL → gR → Prop} (hld : isLa ld)   {q : Int32 × gM × gL × Nat} (h : F_Main_read ld M L = some q) (hQ : isLa q.2.2.2 → Q (some (.int q.1)) q.2.1 q.2.2.1 (rf q.2.2.2)) : Tm l y_Main_read (0, 0, 447) 447 [.ref 0] M L (rf ld) Q := by
  refine Tm.of (by decide) (Nat.le_of_ble_eq_true rfl) ?_
  show Wp l y_Main_read (0, 0, 447) 447 0 0 0 [(0, .ref 0)] [] M L (rf ld) Q
  unfold F_Main_read at h
  refine g_aload_n (pc1 := 1) d_Main_read_0 rfl 0 rfl ?_
  refine g_getr (pc1 := 4) d_Main_read_1 rfl ⟨_, fo_Main_19⟩ sh_0 (by decide) (rf_0_1 ld) ?_
  refine g_aload_n (pc1 := 5) d_Main_read_4 rfl 0 rfl ?_
  refine g_getr (pc1 := 8) d_Main_read_5 rfl ⟨_, fo_Main_12⟩ sh_0 (by decide) (rf_0_0 ld) ?_
  refine g_aload_n (pc1 := 9) d_Main_read_8 rfl 0 rfl ?_
  refine g_getr (pc1 := 12) d_Main_read_9 rfl ⟨_, fo_Main_30⟩ sh_0 (by decide) (rf_0_3 ld) ?_
  refine g_callV0 (pc1 := 15) (As := [.ref 1, .ref (50 - ld)]) (rest := []) d_Main_read_12 rfl mo_Main_89 mi_Reader_parse mv_Reader_parse rfl sh_3 (by decide) (by decide) rfl rfl (Nat.le_of_ble_eq_true rfl) ?_
  obtain ⟨r2, M3, L4, hq1, h⟩ := bnd3 h
  refine f_Reader_parse hld (isLa_dr hld) hq1 ?_
  dsimp only [psh]
  refine g_istore_n (pc1 := 16) (lv' := [(0, .ref 0), (1, .int r2)]) d_Main_read_15 rfl rfl (by decide) [1, 0] rfl ?_
  refine g_aload_n (pc1 := 17) d_Main_read_16 rfl 0 rfl ?_
  refine g_aload_n (pc1 := 18) d_Main_read_17 rfl 0 rfl ?_
  refine g_getr (pc1 := 21) d_Main_read_18 rfl ⟨_, fo_Main_19⟩ sh_0 (by decide) (rf_0_1 ld) ?_
  refine g_callV0 (pc1 := 24) (As := []) (rest := [.ref 0]) d_Main_read_21 rfl mo_Main_93 mi_Reader_placeOfFault mv_Reader_placeOfFault rfl sh_3 (by decide) (by decide) rfl rfl (Nat.le_of_ble_eq_true rfl) ?_
  obtain ⟨r6, hq5, h⟩ := bnd h
  refine f_Reader_placeOfFault hld  hq5 ?_
  dsimp only [psh]
  refine g_puti (pc1 := 27) d_Main_read_24 rfl fo_Main_78 (po_0_11 _) sh_0 (by decide) ?_
  refine Wp.lM h (fun M7 h => ?_)
  refine g_aload_n (pc1 := 28) d_Main_read_27 rfl 0 rfl ?_
  refine g_getr (pc1 := 31) d_Main_read_28 rfl ⟨_, fo_Main_12⟩ sh_0 (by decide) (rf_0_0 ld) ?_
  refine g_iconst (pc1 := 32) (v := 0) d_Main_read_31 rfl (by decide) ?_
  refine g_puti (pc1 := 35) d_Main_read_32 rfl fo_Main_82 (po_1_1 _) sh_1 (by decide) ?_
  refine Wp.lM h (fun M8 h => ?_)
  refine g_iload_n (pc1 := 36) d_Main_read_35 rfl 1 rfl ?_
  refine g_if_ne (pc1 := 39) (tgt := 43) d_Main_read_36 (by decide) rfl (fun c9 => ?_) (fun c9 => ?_)
  · replace h := itn h c9
    refine g_iload_n (pc1 := 44) d_Main_read_43 rfl 1 rfl ?_
    refine g_ireturn (Or.inl rfl) d_Main_read_44 rfl ?_
    cases h; exact hQ hld
  · replace h := itp h c9
    refine g_aload_n (pc1 := 40) d_Main_read_39 rfl 0 rfl ?_
    refine g_callV0 (pc1 := 43) (As := []) (rest := []) d_Main_read_40 rfl mo_Main_97 mi_Main_beginDraft mv_Main_beginDraft rfl sh_0 (by decide) (by decide) rfl rfl (Nat.le_of_ble_eq_true rfl) ?_
    obtain ⟨M11, hq10, h⟩ := bnd h
    refine f_Main_beginDraft hld  hq10 ?_
    dsimp only [psh]
    refine g_iload_n (pc1 := 44) d_Main_read_43 rfl 1 rfl ?_
    refine g_ireturn (Or.inl rfl) d_Main_read_44 rfl ?_
    cases h; exact hQ (isLa_dr hld)

def F_Main_sure (ld : Nat) (p1 : Int32) (M : gM) : Option (Int32 × gM) :=
  bI (F_Main_isOne p1 ((M 383 3) + 1)) (fun r2 => (if r2 = 0 then some ((-1), M) else bI (F_Told_gather ld (M 64 0) p1 M) (fun M5 => bI (F_Told_onlyDish M5) (fun r7 => some (r7, M5)))))
set_option maxHeartbeats 4000000 in
set_option maxRecDepth 20000 in
theorem f_Main_sure {l : Launch} {ld : Nat} {M : gM} {L : gL} {Q : Option Value → gM → gL → gR → Prop} (hld : isLa ld) {p1 : Int32}  {q : Int32 × gM} (h : F_Main_sure ld p1 M = some q) (hQ : Q (some (.int q.1)) q.2 L (rf ld)) : Tm l y_Main_sure (0, 0, 447) 447 [.ref 0, .int p1] M L (rf ld) Q := by
  refine Tm.of (by decide) (Nat.le_of_ble_eq_true rfl) ?_
  show Wp l y_Main_sure (0, 0, 447) 447 0 0 0 [(0, .ref 0), (1, .int p1)] [] M L (rf ld) Q
  unfold F_Main_sure at h
  refine g_iload_n (pc1 := 1) d_Main_sure_0 rfl 1 rfl ?_
  refine g_aload_n (pc1 := 2) d_Main_sure_1 rfl 0 rfl ?_
  refine g_getr (pc1 := 5) d_Main_sure_2 rfl ⟨_, fo_Main_60⟩ sh_0 (by decide) (rf_0_8 ld) ?_
  refine g_geti (pc1 := 8) d_Main_sure_5 rfl ⟨_, fo_Main_275⟩ sh_383 (by decide) ?_
  refine g_iconst (pc1 := 9) (v := 1) d_Main_sure_8 rfl (by decide) ?_
  refine g_iadd (pc1 := 10) d_Main_sure_9 rfl ?_
  refine g_callS0 (pc1 := 13) (As := [.int p1, .int ((M 383 3) + 1)]) (rest := []) d_Main_sure_10 rfl mo_Main_112 ms_Main_isOne (by decide) rfl rfl (Nat.le_of_ble_eq_true rfl) ?_
  obtain ⟨r2, hq1, h⟩ := bnd h
  refine f_Main_isOne hld  hq1 ?_
  dsimp only [psh]
  refine g_if_ne (pc1 := 16) (tgt := 18) d_Main_sure_13 (by decide) rfl (fun c3 => ?_) (fun c3 => ?_)
  · replace h := itn h c3
    refine g_aload_n (pc1 := 19) d_Main_sure_18 rfl 0 rfl ?_
    refine g_getr (pc1 := 22) d_Main_sure_19 rfl ⟨_, fo_Main_60⟩ sh_0 (by decide) (rf_0_8 ld) ?_
    refine g_aload_n (pc1 := 23) d_Main_sure_22 rfl 0 rfl ?_
    refine g_getr (pc1 := 26) d_Main_sure_23 rfl ⟨_, fo_Main_26⟩ sh_0 (by decide) (rf_0_2 ld) ?_
    refine g_aload_n (pc1 := 27) d_Main_sure_26 rfl 0 rfl ?_
    refine g_getr (pc1 := 30) d_Main_sure_27 rfl ⟨_, fo_Main_36⟩ sh_0 (by decide) (rf_0_4 ld) ?_
    refine g_geti (pc1 := 33) d_Main_sure_30 rfl ⟨_, fo_Main_144⟩ (shSt_0 isSt_64) (ltSt_0 isSt_64) ?_
    refine g_iload_n (pc1 := 34) d_Main_sure_33 rfl 1 rfl ?_
    refine g_callV0 (pc1 := 37) (As := [.ref ld, .int (M 64 0), .int p1]) (rest := []) d_Main_sure_34 rfl mo_Main_278 mi_Told_gather mv_Told_gather rfl sh_383 (by decide) (by decide) rfl rfl (Nat.le_of_ble_eq_true rfl) ?_
    obtain ⟨M5, hq4, h⟩ := bnd h
    refine f_Told_gather hld hld hq4 ?_
    dsimp only [psh]
    refine g_aload_n (pc1 := 38) d_Main_sure_37 rfl 0 rfl ?_
    refine g_getr (pc1 := 41) d_Main_sure_38 rfl ⟨_, fo_Main_60⟩ sh_0 (by decide) (rf_0_8 ld) ?_
    refine g_callV0 (pc1 := 44) (As := []) (rest := []) d_Main_sure_41 rfl mo_Main_285 mi_Told_onlyDish mv_Told_onlyDish rfl sh_383 (by decide) (by decide) rfl rfl (Nat.le_of_ble_eq_true rfl) ?_
    obtain ⟨r7, hq6, h⟩ := bnd h
    refine f_Told_onlyDish hld  hq6 ?_
    dsimp only [psh]
    refine g_ireturn (Or.inl rfl) d_Main_sure_44 rfl ?_
    cases h; exact hQ
  · replace h := itp h c3
    refine g_iconst (pc1 := 17) (v := (-1)) d_Main_sure_16 rfl (by decide) ?_
    refine g_ireturn (Or.inl rfl) d_Main_sure_17 rfl ?_
    cases h; exact hQ

def F_Main_taste (ld : Nat) (p1 : Int32) (M : gM) : Option (Int32 × gM) :=
  bI (F_Main_isOne p1 ((M 383 3) + 1)) (fun r2 => (if r2 = 0 then some ((-1), M) else bI (F_Told_gather ld (M 64 0) p1 M) (fun M5 => bI2 (F_Told_nextTaste ld (M5 64 0) M5) (fun r7 M8 => some (r7, M8)))))
set_option maxHeartbeats 4000000 in
set_option maxRecDepth 20000 in
theorem f_Main_taste {l : Launch} {ld : Nat} {M : gM} {L : gL} {Q : Option Value → gM → gL → gR → Prop} (hld : isLa ld) {p1 : Int32}  {q : Int32 × gM} (h : F_Main_taste ld p1 M = some q) (hQ : Q (some (.int q.1)) q.2 L (rf ld)) : Tm l y_Main_taste (0, 0, 447) 447 [.ref 0, .int p1] M L (rf ld) Q := by
  refine Tm.of (by decide) (Nat.le_of_ble_eq_true rfl) ?_
  show Wp l y_Main_taste (0, 0, 447) 447 0 0 0 [(0, .ref 0), (1, .int p1)] [] M L (rf ld) Q
  unfold F_Main_taste at h
  refine g_iload_n (pc1 := 1) d_Main_taste_0 rfl 1 rfl ?_
  refine g_aload_n (pc1 := 2) d_Main_taste_1 rfl 0 rfl ?_
  refine g_getr (pc1 := 5) d_Main_taste_2 rfl ⟨_, fo_Main_60⟩ sh_0 (by decide) (rf_0_8 ld) ?_
  refine g_geti (pc1 := 8) d_Main_taste_5 rfl ⟨_, fo_Main_275⟩ sh_383 (by decide) ?_
  refine g_iconst (pc1 := 9) (v := 1) d_Main_taste_8 rfl (by decide) ?_
  refine g_iadd (pc1 := 10) d_Main_taste_9 rfl ?_
  refine g_callS0 (pc1 := 13) (As := [.int p1, .int ((M 383 3) + 1)]) (rest := []) d_Main_taste_10 rfl mo_Main_112 ms_Main_isOne (by decide) rfl rfl (Nat.le_of_ble_eq_true rfl) ?_
  obtain ⟨r2, hq1, h⟩ := bnd h
  refine f_Main_isOne hld  hq1 ?_
  dsimp only [psh]
  refine g_if_ne (pc1 := 16) (tgt := 18) d_Main_taste_13 (by decide) rfl (fun c3 => ?_) (fun c3 => ?_)
  · replace h := itn h c3
    refine g_aload_n (pc1 := 19) d_Main_taste_18 rfl 0 rfl ?_
    refine g_getr (pc1 := 22) d_Main_taste_19 rfl ⟨_, fo_Main_60⟩ sh_0 (by decide) (rf_0_8 ld) ?_
    refine g_aload_n (pc1 := 23) d_Main_taste_22 rfl 0 rfl ?_
    refine g_getr (pc1 := 26) d_Main_taste_23 rfl ⟨_, fo_Main_26⟩ sh_0 (by decide) (rf_0_2 ld) ?_
    refine g_aload_n (pc1 := 27) d_Main_taste_26 rfl 0 rfl ?_
    refine g_getr (pc1 := 30) d_Main_taste_27 rfl ⟨_, fo_Main_36⟩ sh_0 (by decide) (rf_0_4 ld) ?_
    refine g_geti (pc1 := 33) d_Main_taste_30 rfl ⟨_, fo_Main_144⟩ (shSt_0 isSt_64) (ltSt_0 isSt_64) ?_
    refine g_iload_n (pc1 := 34) d_Main_taste_33 rfl 1 rfl ?_
    refine g_callV0 (pc1 := 37) (As := [.ref ld, .int (M 64 0), .int p1]) (rest := []) d_Main_taste_34 rfl mo_Main_278 mi_Told_gather mv_Told_gather rfl sh_383 (by decide) (by decide) rfl rfl (Nat.le_of_ble_eq_true rfl) ?_
    obtain ⟨M5, hq4, h⟩ := bnd h
    refine f_Told_gather hld hld hq4 ?_
    dsimp only [psh]
    refine g_aload_n (pc1 := 38) d_Main_taste_37 rfl 0 rfl ?_
    refine g_getr (pc1 := 41) d_Main_taste_38 rfl ⟨_, fo_Main_60⟩ sh_0 (by decide) (rf_0_8 ld) ?_
    refine g_aload_n (pc1 := 42) d_Main_taste_41 rfl 0 rfl ?_
    refine g_getr (pc1 := 45) d_Main_taste_42 rfl ⟨_, fo_Main_26⟩ sh_0 (by decide) (rf_0_2 ld) ?_
    refine g_aload_n (pc1 := 46) d_Main_taste_45 rfl 0 rfl ?_
    refine g_getr (pc1 := 49) d_Main_taste_46 rfl ⟨_, fo_Main_36⟩ sh_0 (by decide) (rf_0_4 ld) ?_
    refine g_geti (pc1 := 52) d_Main_taste_49 rfl ⟨_, fo_Main_144⟩ (shSt_0 isSt_64) (ltSt_0 isSt_64) ?_
    refine g_callV0 (pc1 := 55) (As := [.ref ld, .int (M5 64 0)]) (rest := []) d_Main_taste_52 rfl mo_Main_288 mi_Told_nextTaste mv_Told_nextTaste rfl sh_383 (by decide) (by decide) rfl rfl (Nat.le_of_ble_eq_true rfl) ?_
    obtain ⟨r7, M8, hq6, h⟩ := bnd2 h
    refine f_Told_nextTaste hld hld hq6 ?_
    dsimp only [psh]
    refine g_ireturn (Or.inl rfl) d_Main_taste_55 rfl ?_
    cases h; exact hQ
  · replace h := itp h c3
    refine g_iconst (pc1 := 17) (v := (-1)) d_Main_taste_16 rfl (by decide) ?_
    refine g_ireturn (Or.inl rfl) d_Main_taste_17 rfl ?_
    cases h; exact hQ

def J_MenuSearch_find_107 (Ld1 : Nat) (X2 : Nat) (M : gM) : Option (Int32 × gM) :=
  (if 4 < (M 396 4) then some (0, M) else some (1, M))
set_option maxHeartbeats 4000000 in
set_option maxRecDepth 20000 in
theorem j_MenuSearch_find_107 {l : Launch} {ld : Nat} {Q : Option Value → gM → gL → gR → Prop} (hld : isLa ld) {Ld1 : Nat} {X2 : Nat} (hLd1 : isLa Ld1) (hX2 : isSt X2) {q : Int32 × gM} {M : gM} {L : gL} (hQ : Q (some (.int q.1)) q.2 L (rf ld))    (h : J_MenuSearch_find_107 Ld1 X2 M = some q) : Wp l y_MenuSearch_find (0, 0, 447) 447 0 0 107 [(0, .ref 396)] [] M L (rf ld) Q := by
  unfold J_MenuSearch_find_107 at h
  refine g_aload_n (pc1 := 108) d_MenuSearch_find_107 rfl 0 rfl ?_
  refine g_geti (pc1 := 111) d_MenuSearch_find_108 rfl ⟨_, fo_MenuSearch_43⟩ sh_396 (by decide) ?_
  refine g_iconst (pc1 := 112) (v := 4) d_MenuSearch_find_111 rfl (by decide) ?_
  refine g_icmp_gt (pc1 := 115) (tgt := 119) d_MenuSearch_find_112 (by decide) rfl (fun c9 => ?_) (fun c9 => ?_)
  · replace h := itp h c9
    refine g_iconst (pc1 := 120) (v := 0) d_MenuSearch_find_119 rfl (by decide) ?_
    refine g_ireturn (Or.inr ⟨rfl, rfl⟩) d_MenuSearch_find_120 rfl ?_
    cases h; exact hQ
  · replace h := itn h c9
    refine g_iconst (pc1 := 116) (v := 1) d_MenuSearch_find_115 rfl (by decide) ?_
    refine g_goto (tgt := 120) d_MenuSearch_find_116 (by decide) ?_
    refine g_ireturn (Or.inr ⟨rfl, rfl⟩) d_MenuSearch_find_120 rfl ?_
    cases h; exact hQ
def J_MenuSearch_find_98 (Ld1 : Nat) (X2 : Nat) (M : gM) : Option (Int32 × gM) :=
  J_MenuSearch_find_107 Ld1 X2 M
set_option maxHeartbeats 4000000 in
set_option maxRecDepth 20000 in
theorem j_MenuSearch_find_98 {l : Launch} {ld : Nat} {Q : Option Value → gM → gL → gR → Prop} (hld : isLa ld) {Ld1 : Nat} {X2 : Nat} (hLd1 : isLa Ld1) (hX2 : isSt X2) {q : Int32 × gM} {M : gM} {L : gL} (hQ : Q (some (.int q.1)) q.2 L (rf ld))    (h : J_MenuSearch_find_98 Ld1 X2 M = some q) : Wp l y_MenuSearch_find (0, 0, 447) 447 0 0 98 [(0, .ref 396)] [] M L (rf ld) Q := by
  unfold J_MenuSearch_find_98 at h
  refine g_goto (tgt := 107) d_MenuSearch_find_98 (by decide) ?_
  exact j_MenuSearch_find_107 hld hLd1 hX2 hQ  h
def J_MenuSearch_find_85 (Ld1 : Nat) (X2 : Nat) (K38 : Int32 → gM → Option (Int32 × gM)) (v4 : Int32) (v6 : Int32) (M : gM) : Option (Int32 × gM) :=
  bI2 (F_MenuSearch_step v4 (M Ld1 1) M) (fun r14 M15 => (if r14 = 0 then J_MenuSearch_find_98 Ld1 X2 M15 else nmI (v6 + 1) (fun x17 => K38 x17 M15)))
set_option maxHeartbeats 4000000 in
set_option maxRecDepth 20000 in
theorem j_MenuSearch_find_85 {l : Launch} {ld : Nat} {Q : Option Value → gM → gL → gR → Prop} (hld : isLa ld) {Ld1 : Nat} {X2 : Nat} (hLd1 : isLa Ld1) (hX2 : isSt X2) {q : Int32 × gM} {M : gM} {L : gL} (hQ : Q (some (.int q.1)) q.2 L (rf ld)) {K38 : Int32 → gM → Option (Int32 × gM)} {v4 : Int32} {v6 : Int32} (hK38 : ∀ (w6 : Int32) (M : gM), K38 w6 M = some q → Wp l y_MenuSearch_find (0, 0, 447) 447 0 0 38 [(0, .ref 396), (1, .ref Ld1), (4, .int v4), (6, .int w6)] [] M L (rf ld) Q) (h : J_MenuSearch_find_85 Ld1 X2 K38 v4 v6 M = some q) : Wp l y_MenuSearch_find (0, 0, 447) 447 0 0 85 [(0, .ref 396), (1, .ref Ld1), (4, .int v4), (6, .int v6)] [] M L (rf ld) Q := by
  unfold J_MenuSearch_find_85 at h
  refine g_aload_n (pc1 := 86) d_MenuSearch_find_85 rfl 0 rfl ?_
  refine g_iload (pc1 := 88) d_MenuSearch_find_86 rfl 2 rfl ?_
  refine g_aload_n (pc1 := 89) d_MenuSearch_find_88 rfl 1 rfl ?_
  refine g_geti (pc1 := 92) d_MenuSearch_find_89 rfl ⟨_, fo_MenuSearch_54⟩ (shLa_0 hLd1) (ltLa_0 hLd1) ?_
  refine g_callV0 (pc1 := 95) (As := [.int v4, .int (M Ld1 1)]) (rest := []) d_MenuSearch_find_92 rfl mo_MenuSearch_59 mi_MenuSearch_step mv_MenuSearch_step rfl sh_396 (by decide) (by decide) rfl rfl (Nat.le_of_ble_eq_true rfl) ?_
  obtain ⟨r14, M15, hq13, h⟩ := bnd2 h
  refine f_MenuSearch_step hld  hq13 ?_
  dsimp only [psh]
  refine g_if_ne (pc1 := 98) (tgt := 101) d_MenuSearch_find_95 (by decide) rfl (fun c16 => ?_) (fun c16 => ?_)
  · replace h := itn h c16
    obtain ⟨x17, ex17, h⟩ := ltI h
    refine g_iinc (pc1 := 104) (v := x17) (lv' := [(0, .ref 396), (1, .ref Ld1), (4, .int v4), (6, .int x17)]) d_MenuSearch_find_101 rfl 3 rfl (by rw [ex17]; rfl) (by decide) [1, 2, 3, 0] rfl ?_
    refine g_goto (tgt := 38) d_MenuSearch_find_104 (by decide) ?_
    exact hK38 x17 M15 h
  · replace h := itp h c16
    refine Wp.loc (lv' := [(0, .ref 396)]) [0] rfl ?_
    exact j_MenuSearch_find_98 hld hLd1 hX2 hQ  h
def B_MenuSearch_find_38 (Ld1 : Nat) (X2 : Nat) (v4 : Int32) (K38 : Int32 → gM → Option (Int32 × gM)) : Int32 → gM → Option (Int32 × gM) := fun v6 M =>
  (if 1296 ≤ v6 then J_MenuSearch_find_107 Ld1 X2 M else bI (F_MenuSearch_mealsIfAllFree v4 M) (fun r11 => (if r11 < 0 then J_MenuSearch_find_85 Ld1 X2 K38 v4 v6 M else (if (M 396 4) ≤ r11 then J_MenuSearch_find_85 Ld1 X2 K38 v4 v6 M else nmM (uM M 396 4 r11) (fun M19 => bI (F_Main_copyRow 399 4 400 4 M19) (fun M21 => J_MenuSearch_find_85 Ld1 X2 K38 v4 v6 M21))))))
def H_MenuSearch_find_38 (Ld1 : Nat) (X2 : Nat) (v4 : Int32) : Nat → Int32 → gM → Option (Int32 × gM) := lpK (B_MenuSearch_find_38 Ld1 X2 v4) (fun _ _ => none)
set_option maxHeartbeats 4000000 in
set_option maxRecDepth 20000 in
theorem h_MenuSearch_find_38 {l : Launch} {ld : Nat} {Q : Option Value → gM → gL → gR → Prop} (hld : isLa ld) {Ld1 : Nat} {X2 : Nat} (hLd1 : isLa Ld1) (hX2 : isSt X2) {q : Int32 × gM} {L : gL} (hQ : Q (some (.int q.1)) q.2 L (rf ld))  {v4 : Int32}  : ∀ (f : Nat) (v6 : Int32) (M : gM), H_MenuSearch_find_38 Ld1 X2 v4 f v6 M = some q → Wp l y_MenuSearch_find (0, 0, 447) 447 0 0 38 [(0, .ref 396), (1, .ref Ld1), (4, .int v4), (6, .int v6)] [] M L (rf ld) Q := by
  intro f
  induction f with
  | zero => intro v6 M h; cases h
  | succ f hK38 =>
    intro v6 M h
    replace h : B_MenuSearch_find_38 Ld1 X2 v4 (H_MenuSearch_find_38 Ld1 X2 v4 f) v6 M = some q := h
    unfold B_MenuSearch_find_38 at h
    refine g_iload (pc1 := 40) d_MenuSearch_find_38 rfl 3 rfl ?_
    refine g_sipush (pc1 := 43) (v := 1296) d_MenuSearch_find_40 rfl (by decide) ?_
    refine g_icmp_ge (pc1 := 46) (tgt := 107) d_MenuSearch_find_43 (by decide) rfl (fun c8 => ?_) (fun c8 => ?_)
    · replace h := itp h c8
      refine Wp.loc (lv' := [(0, .ref 396)]) [0] rfl ?_
      exact j_MenuSearch_find_107 hld hLd1 hX2 hQ  h
    · replace h := itn h c8
      refine g_aload_n (pc1 := 47) d_MenuSearch_find_46 rfl 0 rfl ?_
      refine g_iload (pc1 := 49) d_MenuSearch_find_47 rfl 2 rfl ?_
      refine g_callV0 (pc1 := 52) (As := [.int v4]) (rest := []) d_MenuSearch_find_49 rfl mo_MenuSearch_46 mi_MenuSearch_mealsIfAllFree mv_MenuSearch_mealsIfAllFree rfl sh_396 (by decide) (by decide) rfl rfl (Nat.le_of_ble_eq_true rfl) ?_
      obtain ⟨r11, hq10, h⟩ := bnd h
      refine f_MenuSearch_mealsIfAllFree hld  hq10 ?_
      dsimp only [psh]
      refine g_istore (pc1 := 54) (lv' := [(0, .ref 396), (1, .ref Ld1), (4, .int v4), (6, .int v6), (7, .int r11)]) d_MenuSearch_find_52 rfl (by decide) [1, 2, 3, 4, 0] rfl ?_
      refine g_iload (pc1 := 56) d_MenuSearch_find_54 rfl 4 rfl ?_
      refine g_if_lt (pc1 := 59) (tgt := 85) d_MenuSearch_find_56 (by decide) rfl (fun c12 => ?_) (fun c12 => ?_)
      · replace h := itp h c12
        refine Wp.loc (lv' := [(0, .ref 396), (1, .ref Ld1), (4, .int v4), (6, .int v6)]) [0, 1, 2, 3] rfl ?_
        exact j_MenuSearch_find_85 hld hLd1 hX2 hQ hK38 h
      · replace h := itn h c12
        refine g_iload (pc1 := 61) d_MenuSearch_find_59 rfl 4 rfl ?_
        refine g_aload_n (pc1 := 62) d_MenuSearch_find_61 rfl 0 rfl ?_
        refine g_geti (pc1 := 65) d_MenuSearch_find_62 rfl ⟨_, fo_MenuSearch_43⟩ sh_396 (by decide) ?_
        refine g_icmp_ge (pc1 := 68) (tgt := 85) d_MenuSearch_find_65 (by decide) rfl (fun c18 => ?_) (fun c18 => ?_)
        · replace h := itp h c18
          refine Wp.loc (lv' := [(0, .ref 396), (1, .ref Ld1), (4, .int v4), (6, .int v6)]) [0, 1, 2, 3] rfl ?_
          exact j_MenuSearch_find_85 hld hLd1 hX2 hQ hK38 h
        · replace h := itn h c18
          refine g_aload_n (pc1 := 69) d_MenuSearch_find_68 rfl 0 rfl ?_
          refine g_iload (pc1 := 71) d_MenuSearch_find_69 rfl 4 rfl ?_
          refine g_puti (pc1 := 74) d_MenuSearch_find_71 rfl fo_MenuSearch_43 (po_11_4 _) sh_396 (by decide) ?_
          refine Wp.lM h (fun M19 h => ?_)
          refine g_aload_n (pc1 := 75) d_MenuSearch_find_74 rfl 0 rfl ?_
          refine g_getr (pc1 := 78) d_MenuSearch_find_75 rfl ⟨_, fo_MenuSearch_18⟩ sh_396 (by decide) (rf_396_2 ld) ?_
          refine g_aload_n (pc1 := 79) d_MenuSearch_find_78 rfl 0 rfl ?_
          refine g_getr (pc1 := 82) d_MenuSearch_find_79 rfl ⟨_, fo_MenuSearch_22⟩ sh_396 (by decide) (rf_396_3 ld) ?_
          refine g_callS0 (pc1 := 85) (As := [.ref 399, .ref 400]) (rest := []) d_MenuSearch_find_82 rfl mo_MenuSearch_50 ms_Main_copyRow (by decide) rfl rfl (Nat.le_of_ble_eq_true rfl) ?_
          obtain ⟨M21, hq20, h⟩ := bnd h
          refine f_Main_copyRow hld sh_399 (by decide) (by decide) sh_400 (by decide) (by decide) hq20 ?_
          dsimp only [psh]
          refine Wp.loc (lv' := [(0, .ref 396), (1, .ref Ld1), (4, .int v4), (6, .int v6)]) [0, 1, 2, 3] rfl ?_
          exact j_MenuSearch_find_85 hld hLd1 hX2 hQ hK38 h
def F_MenuSearch_find (Ld1 : Nat) (X2 : Nat) (p3 : Int32) (p4 : Int32) (p5 : Int32) (M : gM) : Option (Int32 × gM) :=
  bI (F_MenuSearch_lookUnfed Ld1 X2 p3 p5 M) (fun M2 => bI (F_MenuSearch_lookFed Ld1 (M2 X2 0) p3 p4 p5 M2) (fun M4 => bI (F_Main_wipe 399 4 M4) (fun M6 => nmM (uM M6 396 4 5) (fun M7 => H_MenuSearch_find_38 Ld1 X2 p4 FU 0 M7))))
set_option maxHeartbeats 4000000 in
set_option maxRecDepth 20000 in
theorem f_MenuSearch_find {l : Launch} {ld : Nat} {M : gM} {L : gL} {Q : Option Value → gM → gL → gR → Prop} (hld : isLa ld) {Ld1 : Nat} {X2 : Nat} {p3 : Int32} {p4 : Int32} {p5 : Int32} (hLd1 : isLa Ld1) (hX2 : isSt X2) {q : Int32 × gM} (h : F_MenuSearch_find Ld1 X2 p3 p4 p5 M = some q) (hQ : Q (some (.int q.1)) q.2 L (rf ld)) : Tm l y_MenuSearch_find (0, 0, 447) 447 [.ref 396, .ref Ld1, .ref X2, .int p3, .int p4, .int p5] M L (rf ld) Q := by
  refine Tm.of (by decide) (Nat.le_of_ble_eq_true rfl) ?_
  show Wp l y_MenuSearch_find (0, 0, 447) 447 0 0 0 [(0, .ref 396), (1, .ref Ld1), (2, .ref X2), (3, .int p3), (4, .int p4), (5, .int p5)] [] M L (rf ld) Q
  unfold F_MenuSearch_find at h
  refine g_aload_n (pc1 := 1) d_MenuSearch_find_0 rfl 0 rfl ?_
  refine g_aload_n (pc1 := 2) d_MenuSearch_find_1 rfl 1 rfl ?_
  refine g_aload_n (pc1 := 3) d_MenuSearch_find_2 rfl 2 rfl ?_
  refine g_iload_n (pc1 := 4) d_MenuSearch_find_3 rfl 3 rfl ?_
  refine g_iload (pc1 := 6) d_MenuSearch_find_4 rfl 5 rfl ?_
  refine g_callV0 (pc1 := 9) (As := [.ref Ld1, .ref X2, .int p3, .int p5]) (rest := []) d_MenuSearch_find_6 rfl mo_MenuSearch_25 mi_MenuSearch_lookUnfed mv_MenuSearch_lookUnfed rfl sh_396 (by decide) (by decide) rfl rfl (Nat.le_of_ble_eq_true rfl) ?_
  obtain ⟨M2, hq1, h⟩ := bnd h
  refine f_MenuSearch_lookUnfed hld hLd1 hX2 hq1 ?_
  dsimp only [psh]
  refine g_aload_n (pc1 := 10) d_MenuSearch_find_9 rfl 0 rfl ?_
  refine g_aload_n (pc1 := 11) d_MenuSearch_find_10 rfl 1 rfl ?_
  refine g_aload_n (pc1 := 12) d_MenuSearch_find_11 rfl 2 rfl ?_
  refine g_geti (pc1 := 15) d_MenuSearch_find_12 rfl ⟨_, fo_MenuSearch_29⟩ (shSt_0 hX2) (ltSt_0 hX2) ?_
  refine g_iload_n (pc1 := 16) d_MenuSearch_find_15 rfl 3 rfl ?_
  refine g_iload (pc1 := 18) d_MenuSearch_find_16 rfl 4 rfl ?_
  refine g_iload (pc1 := 20) d_MenuSearch_find_18 rfl 5 rfl ?_
  refine g_callV0 (pc1 := 23) (As := [.ref Ld1, .int (M2 X2 0), .int p3, .int p4, .int p5]) (rest := []) d_MenuSearch_find_20 rfl mo_MenuSearch_35 mi_MenuSearch_lookFed mv_MenuSearch_lookFed rfl sh_396 (by decide) (by decide) rfl rfl (Nat.le_of_ble_eq_true rfl) ?_
  obtain ⟨M4, hq3, h⟩ := bnd h
  refine f_MenuSearch_lookFed hld hLd1 hq3 ?_
  dsimp only [psh]
  refine g_aload_n (pc1 := 24) d_MenuSearch_find_23 rfl 0 rfl ?_
  refine g_getr (pc1 := 27) d_MenuSearch_find_24 rfl ⟨_, fo_MenuSearch_18⟩ sh_396 (by decide) (rf_396_2 ld) ?_
  refine g_callS0 (pc1 := 30) (As := [.ref 399]) (rest := []) d_MenuSearch_find_27 rfl mo_MenuSearch_39 ms_Main_wipe (by decide) rfl rfl (Nat.le_of_ble_eq_true rfl) ?_
  obtain ⟨M6, hq5, h⟩ := bnd h
  refine f_Main_wipe hld sh_399 (by decide) (by decide) hq5 ?_
  dsimp only [psh]
  refine g_aload_n (pc1 := 31) d_MenuSearch_find_30 rfl 0 rfl ?_
  refine g_iconst (pc1 := 32) (v := 5) d_MenuSearch_find_31 rfl (by decide) ?_
  refine g_puti (pc1 := 35) d_MenuSearch_find_32 rfl fo_MenuSearch_43 (po_11_4 _) sh_396 (by decide) ?_
  refine Wp.lM h (fun M7 h => ?_)
  refine g_iconst (pc1 := 36) (v := 0) d_MenuSearch_find_35 rfl (by decide) ?_
  refine g_istore (pc1 := 38) (lv' := [(0, .ref 396), (1, .ref Ld1), (2, .ref X2), (3, .int p3), (4, .int p4), (5, .int p5), (6, .int 0)]) d_MenuSearch_find_36 rfl (by decide) [1, 2, 3, 4, 5, 6, 0] rfl ?_
  refine Wp.loc (lv' := [(0, .ref 396), (1, .ref Ld1), (4, .int p4), (6, .int 0)]) [0, 1, 4, 6] rfl ?_
  exact h_MenuSearch_find_38 hld hLd1 hX2 hQ  _ 0 M7 h

def F_Main_freest (ld : Nat) (p1 : Int32) (p2 : Int32) (M : gM) : Option (Int32 × gM) :=
  bI (F_Main_isOne p1 (M ld 2)) (fun r2 => (if r2 = 0 then some ((-1), M) else bI (F_Main_isOne p2 2) (fun r5 => (if r5 = 0 then some ((-1), M) else (if (M ld 1) = 0 then some ((-2), M) else bI2 (F_Main_freestDish ld p1 M) (fun r9 M10 => (if p2 = 0 then some (r9, M10) else bI2 (F_Main_freeBehind ld p1 r9 M10) (fun r13 M14 => bI (F_Int_bitCount r13) (fun r16 => some (r16, M14))))))))))
set_option maxHeartbeats 4000000 in
set_option maxRecDepth 20000 in
theorem f_Main_freest {l : Launch} {ld : Nat} {M : gM} {L : gL} {Q : Option Value → gM → gL → gR → Prop} (hld : isLa ld) {p1 : Int32} {p2 : Int32}  {q : Int32 × gM} (h : F_Main_freest ld p1 p2 M = some q) (hQ : Q (some (.int q.1)) q.2 L (rf ld)) : Tm l y_Main_freest (0, 0, 447) 447 [.ref 0, .int p1, .int p2] M L (rf ld) Q := by
  refine Tm.of (by decide) (Nat.le_of_ble_eq_true rfl) ?_
  show Wp l y_Main_freest (0, 0, 447) 447 0 0 0 [(0, .ref 0), (1, .int p1), (2, .int p2)] [] M L (rf ld) Q
  unfold F_Main_freest at h
  refine g_iload_n (pc1 := 1) d_Main_freest_0 rfl 1 rfl ?_
  refine g_aload_n (pc1 := 2) d_Main_freest_1 rfl 0 rfl ?_
  refine g_getr (pc1 := 5) d_Main_freest_2 rfl ⟨_, fo_Main_26⟩ sh_0 (by decide) (rf_0_2 ld) ?_
  refine g_geti (pc1 := 8) d_Main_freest_5 rfl ⟨_, fo_Main_157⟩ (shLa_0 hld) (ltLa_0 hld) ?_
  refine g_callS0 (pc1 := 11) (As := [.int p1, .int (M ld 2)]) (rest := []) d_Main_freest_8 rfl mo_Main_112 ms_Main_isOne (by decide) rfl rfl (Nat.le_of_ble_eq_true rfl) ?_
  obtain ⟨r2, hq1, h⟩ := bnd h
  refine f_Main_isOne hld  hq1 ?_
  dsimp only [psh]
  refine g_if_eq (pc1 := 14) (tgt := 22) d_Main_freest_11 (by decide) rfl (fun c3 => ?_) (fun c3 => ?_)
  · replace h := itp h c3
    refine g_iconst (pc1 := 23) (v := (-1)) d_Main_freest_22 rfl (by decide) ?_
    refine g_ireturn (Or.inl rfl) d_Main_freest_23 rfl ?_
    cases h; exact hQ
  · replace h := itn h c3
    refine g_iload_n (pc1 := 15) d_Main_freest_14 rfl 2 rfl ?_
    refine g_iconst (pc1 := 16) (v := 2) d_Main_freest_15 rfl (by decide) ?_
    refine g_callS0 (pc1 := 19) (As := [.int p2, .int 2]) (rest := []) d_Main_freest_16 rfl mo_Main_112 ms_Main_isOne (by decide) rfl rfl (Nat.le_of_ble_eq_true rfl) ?_
    obtain ⟨r5, hq4, h⟩ := bnd h
    refine f_Main_isOne hld  hq4 ?_
    dsimp only [psh]
    refine g_if_ne (pc1 := 22) (tgt := 24) d_Main_freest_19 (by decide) rfl (fun c6 => ?_) (fun c6 => ?_)
    · replace h := itn h c6
      refine g_aload_n (pc1 := 25) d_Main_freest_24 rfl 0 rfl ?_
      refine g_getr (pc1 := 28) d_Main_freest_25 rfl ⟨_, fo_Main_26⟩ sh_0 (by decide) (rf_0_2 ld) ?_
      refine g_geti (pc1 := 31) d_Main_freest_28 rfl ⟨_, fo_Main_131⟩ (shLa_0 hld) (ltLa_0 hld) ?_
      refine g_if_ne (pc1 := 34) (tgt := 37) d_Main_freest_31 (by decide) rfl (fun c7 => ?_) (fun c7 => ?_)
      · replace h := itn h c7
        refine g_aload_n (pc1 := 38) d_Main_freest_37 rfl 0 rfl ?_
        refine g_iload_n (pc1 := 39) d_Main_freest_38 rfl 1 rfl ?_
        refine g_callV0 (pc1 := 42) (As := [.int p1]) (rest := []) d_Main_freest_39 rfl mo_Main_243 mi_Main_freestDish mv_Main_freestDish rfl sh_0 (by decide) (by decide) rfl rfl (Nat.le_of_ble_eq_true rfl) ?_
        obtain ⟨r9, M10, hq8, h⟩ := bnd2 h
        refine f_Main_freestDish hld  hq8 ?_
        dsimp only [psh]
        refine g_istore_n (pc1 := 43) (lv' := [(0, .ref 0), (1, .int p1), (2, .int p2), (3, .int r9)]) d_Main_freest_42 rfl rfl (by decide) [1, 2, 3, 0] rfl ?_
        refine g_iload_n (pc1 := 44) d_Main_freest_43 rfl 2 rfl ?_
        refine g_if_ne (pc1 := 47) (tgt := 51) d_Main_freest_44 (by decide) rfl (fun c11 => ?_) (fun c11 => ?_)
        · replace h := itn h c11
          refine g_aload_n (pc1 := 52) d_Main_freest_51 rfl 0 rfl ?_
          refine g_iload_n (pc1 := 53) d_Main_freest_52 rfl 1 rfl ?_
          refine g_iload_n (pc1 := 54) d_Main_freest_53 rfl 3 rfl ?_
          refine g_callV0 (pc1 := 57) (As := [.int p1, .int r9]) (rest := []) d_Main_freest_54 rfl mo_Main_246 mi_Main_freeBehind mv_Main_freeBehind rfl sh_0 (by decide) (by decide) rfl rfl (Nat.le_of_ble_eq_true rfl) ?_
          obtain ⟨r13, M14, hq12, h⟩ := bnd2 h
          refine f_Main_freeBehind hld  hq12 ?_
          dsimp only [psh]
          refine g_callS0 (pc1 := 60) (As := [.int r13]) (rest := []) d_Main_freest_57 rfl mo_Main_249 ms_Int_bitCount (by decide) rfl rfl (Nat.le_of_ble_eq_true rfl) ?_
          obtain ⟨r16, hq15, h⟩ := bnd h
          refine f_Int_bitCount hld  hq15 ?_
          dsimp only [psh]
          refine g_ireturn (Or.inl rfl) d_Main_freest_60 rfl ?_
          cases h; exact hQ
        · replace h := itp h c11
          refine g_iload_n (pc1 := 48) d_Main_freest_47 rfl 3 rfl ?_
          refine g_goto (tgt := 60) d_Main_freest_48 (by decide) ?_
          refine g_ireturn (Or.inl rfl) d_Main_freest_60 rfl ?_
          cases h; exact hQ
      · replace h := itp h c7
        refine g_bipush (pc1 := 36) (v := (-2)) d_Main_freest_34 rfl (by decide) ?_
        refine g_ireturn (Or.inl rfl) d_Main_freest_36 rfl ?_
        cases h; exact hQ
    · replace h := itp h c6
      refine g_iconst (pc1 := 23) (v := (-1)) d_Main_freest_22 rfl (by decide) ?_
      refine g_ireturn (Or.inl rfl) d_Main_freest_23 rfl ?_
      cases h; exact hQ

def F_Main_menu (ld : Nat) (p1 : Int32) (p2 : Int32) (p3 : Int32) (p4 : Int32) (M : gM) : Option (Int32 × gM) :=
  bI (F_Main_isOne p1 (M ld 2)) (fun r2 => (if r2 = 0 then some ((-1), M) else (if p2 < 1 then some ((-1), M) else (if 4 < p2 then some ((-1), M) else bI (F_Main_isOne p3 (1 <<< ((M ld 3) &&& 31))) (fun r7 => (if r7 = 0 then some ((-1), M) else (if p4 < (-1) then some ((-1), M) else (if p4 < p2 then bI2 (F_MenuSearch_find ld 64 p1 p2 p3 M) (fun r12 M13 => (if r12 = 0 then (if p4 = (-1) then some ((-2), M13) else some ((-3), M13)) else (if p4 = (-1) then some ((M13 396 4), M13) else bI (F_Main_at 400 4 p4 M13) (fun r17 => (if r17 = 0 then some ((-2), M13) else some ((r17 - 1), M13)))))) else some ((-1), M)))))))))
set_option maxHeartbeats 4000000 in
set_option maxRecDepth 20000 in
theorem f_Main_menu {l : Launch} {ld : Nat} {M : gM} {L : gL} {Q : Option Value → gM → gL → gR → Prop} (hld : isLa ld) {p1 : Int32} {p2 : Int32} {p3 : Int32} {p4 : Int32}  {q : Int32 × gM} (h : F_Main_menu ld p1 p2 p3 p4 M = some q) (hQ : Q (some (.int q.1)) q.2 L (rf ld)) : Tm l y_Main_menu (0, 0, 447) 447 [.ref 0, .int p1, .int p2, .int p3, .int p4] M L (rf ld) Q := by
  refine Tm.of (by decide) (Nat.le_of_ble_eq_true rfl) ?_
  show Wp l y_Main_menu (0, 0, 447) 447 0 0 0 [(0, .ref 0), (1, .int p1), (2, .int p2), (3, .int p3), (4, .int p4)] [] M L (rf ld) Q
  unfold F_Main_menu at h
  refine g_iload_n (pc1 := 1) d_Main_menu_0 rfl 1 rfl ?_
  refine g_aload_n (pc1 := 2) d_Main_menu_1 rfl 0 rfl ?_
  refine g_getr (pc1 := 5) d_Main_menu_2 rfl ⟨_, fo_Main_26⟩ sh_0 (by decide) (rf_0_2 ld) ?_
  refine g_geti (pc1 := 8) d_Main_menu_5 rfl ⟨_, fo_Main_157⟩ (shLa_0 hld) (ltLa_0 hld) ?_
  refine g_callS0 (pc1 := 11) (As := [.int p1, .int (M ld 2)]) (rest := []) d_Main_menu_8 rfl mo_Main_112 ms_Main_isOne (by decide) rfl rfl (Nat.le_of_ble_eq_true rfl) ?_
  obtain ⟨r2, hq1, h⟩ := bnd h
  refine f_Main_isOne hld  hq1 ?_
  dsimp only [psh]
  refine g_if_eq (pc1 := 14) (tgt := 40) d_Main_menu_11 (by decide) rfl (fun c3 => ?_) (fun c3 => ?_)
  · replace h := itp h c3
    refine g_iconst (pc1 := 41) (v := (-1)) d_Main_menu_40 rfl (by decide) ?_
    refine g_ireturn (Or.inl rfl) d_Main_menu_41 rfl ?_
    cases h; exact hQ
  · replace h := itn h c3
    refine g_iload_n (pc1 := 15) d_Main_menu_14 rfl 2 rfl ?_
    refine g_iconst (pc1 := 16) (v := 1) d_Main_menu_15 rfl (by decide) ?_
    refine g_icmp_lt (pc1 := 19) (tgt := 40) d_Main_menu_16 (by decide) rfl (fun c4 => ?_) (fun c4 => ?_)
    · replace h := itp h c4
      refine g_iconst (pc1 := 41) (v := (-1)) d_Main_menu_40 rfl (by decide) ?_
      refine g_ireturn (Or.inl rfl) d_Main_menu_41 rfl ?_
      cases h; exact hQ
    · replace h := itn h c4
      refine g_iload_n (pc1 := 20) d_Main_menu_19 rfl 2 rfl ?_
      refine g_iconst (pc1 := 21) (v := 4) d_Main_menu_20 rfl (by decide) ?_
      refine g_icmp_gt (pc1 := 24) (tgt := 40) d_Main_menu_21 (by decide) rfl (fun c5 => ?_) (fun c5 => ?_)
      · replace h := itp h c5
        refine g_iconst (pc1 := 41) (v := (-1)) d_Main_menu_40 rfl (by decide) ?_
        refine g_ireturn (Or.inl rfl) d_Main_menu_41 rfl ?_
        cases h; exact hQ
      · replace h := itn h c5
        refine g_iload_n (pc1 := 25) d_Main_menu_24 rfl 3 rfl ?_
        refine g_iconst (pc1 := 26) (v := 1) d_Main_menu_25 rfl (by decide) ?_
        refine g_aload_n (pc1 := 27) d_Main_menu_26 rfl 0 rfl ?_
        refine g_getr (pc1 := 30) d_Main_menu_27 rfl ⟨_, fo_Main_26⟩ sh_0 (by decide) (rf_0_2 ld) ?_
        refine g_geti (pc1 := 33) d_Main_menu_30 rfl ⟨_, fo_Main_177⟩ (shLa_0 hld) (ltLa_0 hld) ?_
        refine g_ishl (pc1 := 34) d_Main_menu_33 rfl ?_
        refine g_callS0 (pc1 := 37) (As := [.int p3, .int (1 <<< ((M ld 3) &&& 31))]) (rest := []) d_Main_menu_34 rfl mo_Main_112 ms_Main_isOne (by decide) rfl rfl (Nat.le_of_ble_eq_true rfl) ?_
        obtain ⟨r7, hq6, h⟩ := bnd h
        refine f_Main_isOne hld  hq6 ?_
        dsimp only [psh]
        refine g_if_ne (pc1 := 40) (tgt := 42) d_Main_menu_37 (by decide) rfl (fun c8 => ?_) (fun c8 => ?_)
        · replace h := itn h c8
          refine g_iload (pc1 := 44) d_Main_menu_42 rfl 4 rfl ?_
          refine g_iconst (pc1 := 45) (v := (-1)) d_Main_menu_44 rfl (by decide) ?_
          refine g_icmp_lt (pc1 := 48) (tgt := 54) d_Main_menu_45 (by decide) rfl (fun c9 => ?_) (fun c9 => ?_)
          · replace h := itp h c9
            refine g_iconst (pc1 := 55) (v := (-1)) d_Main_menu_54 rfl (by decide) ?_
            refine g_ireturn (Or.inl rfl) d_Main_menu_55 rfl ?_
            cases h; exact hQ
          · replace h := itn h c9
            refine g_iload (pc1 := 50) d_Main_menu_48 rfl 4 rfl ?_
            refine g_iload_n (pc1 := 51) d_Main_menu_50 rfl 2 rfl ?_
            refine g_icmp_lt (pc1 := 54) (tgt := 56) d_Main_menu_51 (by decide) rfl (fun c10 => ?_) (fun c10 => ?_)
            · replace h := itp h c10
              refine g_aload_n (pc1 := 57) d_Main_menu_56 rfl 0 rfl ?_
              refine g_getr (pc1 := 60) d_Main_menu_57 rfl ⟨_, fo_Main_74⟩ sh_0 (by decide) (rf_0_10 ld) ?_
              refine g_aload_n (pc1 := 61) d_Main_menu_60 rfl 0 rfl ?_
              refine g_getr (pc1 := 64) d_Main_menu_61 rfl ⟨_, fo_Main_26⟩ sh_0 (by decide) (rf_0_2 ld) ?_
              refine g_aload_n (pc1 := 65) d_Main_menu_64 rfl 0 rfl ?_
              refine g_getr (pc1 := 68) d_Main_menu_65 rfl ⟨_, fo_Main_36⟩ sh_0 (by decide) (rf_0_4 ld) ?_
              refine g_iload_n (pc1 := 69) d_Main_menu_68 rfl 1 rfl ?_
              refine g_iload_n (pc1 := 70) d_Main_menu_69 rfl 2 rfl ?_
              refine g_iload_n (pc1 := 71) d_Main_menu_70 rfl 3 rfl ?_
              refine g_callV0 (pc1 := 74) (As := [.ref ld, .ref 64, .int p1, .int p2, .int p3]) (rest := []) d_Main_menu_71 rfl mo_Main_257 mi_MenuSearch_find mv_MenuSearch_find rfl sh_396 (by decide) (by decide) rfl rfl (Nat.le_of_ble_eq_true rfl) ?_
              obtain ⟨r12, M13, hq11, h⟩ := bnd2 h
              refine f_MenuSearch_find hld hld isSt_64 hq11 ?_
              dsimp only [psh]
              refine g_if_ne (pc1 := 77) (tgt := 91) d_Main_menu_74 (by decide) rfl (fun c14 => ?_) (fun c14 => ?_)
              · replace h := itn h c14
                refine g_iload (pc1 := 93) d_Main_menu_91 rfl 4 rfl ?_
                refine g_iconst (pc1 := 94) (v := (-1)) d_Main_menu_93 rfl (by decide) ?_
                refine g_icmp_ne (pc1 := 97) (tgt := 105) d_Main_menu_94 (by decide) rfl (fun c15 => ?_) (fun c15 => ?_)
                · replace h := itn h c15
                  refine g_aload_n (pc1 := 106) d_Main_menu_105 rfl 0 rfl ?_
                  refine g_getr (pc1 := 109) d_Main_menu_106 rfl ⟨_, fo_Main_74⟩ sh_0 (by decide) (rf_0_10 ld) ?_
                  refine g_getr (pc1 := 112) d_Main_menu_109 rfl ⟨_, fo_Main_261⟩ sh_396 (by decide) (rf_396_3 ld) ?_
                  refine g_iload (pc1 := 114) d_Main_menu_112 rfl 4 rfl ?_
                  refine g_callS0 (pc1 := 117) (As := [.ref 400, .int p4]) (rest := []) d_Main_menu_114 rfl mo_Main_120 ms_Main_at (by decide) rfl rfl (Nat.le_of_ble_eq_true rfl) ?_
                  obtain ⟨r17, hq16, h⟩ := bnd h
                  refine f_Main_at hld sh_400 (by decide) (by decide) hq16 ?_
                  dsimp only [psh]
                  refine g_istore (pc1 := 119) (lv' := [(0, .ref 0), (1, .int p1), (2, .int p2), (3, .int p3), (4, .int p4), (5, .int r17)]) d_Main_menu_117 rfl (by decide) [1, 2, 3, 4, 5, 0] rfl ?_
                  refine g_iload (pc1 := 121) d_Main_menu_119 rfl 5 rfl ?_
                  refine g_if_ne (pc1 := 124) (tgt := 129) d_Main_menu_121 (by decide) rfl (fun c18 => ?_) (fun c18 => ?_)
                  · replace h := itn h c18
                    refine g_iload (pc1 := 131) d_Main_menu_129 rfl 5 rfl ?_
                    refine g_iconst (pc1 := 132) (v := 1) d_Main_menu_131 rfl (by decide) ?_
                    refine g_isub (pc1 := 133) d_Main_menu_132 rfl ?_
                    refine g_ireturn (Or.inl rfl) d_Main_menu_133 rfl ?_
                    cases h; exact hQ
                  · replace h := itp h c18
                    refine g_bipush (pc1 := 126) (v := (-2)) d_Main_menu_124 rfl (by decide) ?_
                    refine g_goto (tgt := 133) d_Main_menu_126 (by decide) ?_
                    refine g_ireturn (Or.inl rfl) d_Main_menu_133 rfl ?_
                    cases h; exact hQ
                · replace h := itp h c15
                  refine g_aload_n (pc1 := 98) d_Main_menu_97 rfl 0 rfl ?_
                  refine g_getr (pc1 := 101) d_Main_menu_98 rfl ⟨_, fo_Main_74⟩ sh_0 (by decide) (rf_0_10 ld) ?_
                  refine g_geti (pc1 := 104) d_Main_menu_101 rfl ⟨_, fo_Main_258⟩ sh_396 (by decide) ?_
                  refine g_ireturn (Or.inl rfl) d_Main_menu_104 rfl ?_
                  cases h; exact hQ
              · replace h := itp h c14
                refine g_iload (pc1 := 79) d_Main_menu_77 rfl 4 rfl ?_
                refine g_iconst (pc1 := 80) (v := (-1)) d_Main_menu_79 rfl (by decide) ?_
                refine g_icmp_ne (pc1 := 83) (tgt := 88) d_Main_menu_80 (by decide) rfl (fun c19 => ?_) (fun c19 => ?_)
                · replace h := itn h c19
                  refine g_bipush (pc1 := 90) (v := (-3)) d_Main_menu_88 rfl (by decide) ?_
                  refine g_ireturn (Or.inl rfl) d_Main_menu_90 rfl ?_
                  cases h; exact hQ
                · replace h := itp h c19
                  refine g_bipush (pc1 := 85) (v := (-2)) d_Main_menu_83 rfl (by decide) ?_
                  refine g_goto (tgt := 90) d_Main_menu_85 (by decide) ?_
                  refine g_ireturn (Or.inl rfl) d_Main_menu_90 rfl ?_
                  cases h; exact hQ
            · replace h := itn h c10
              refine g_iconst (pc1 := 55) (v := (-1)) d_Main_menu_54 rfl (by decide) ?_
              refine g_ireturn (Or.inl rfl) d_Main_menu_55 rfl ?_
              cases h; exact hQ
        · replace h := itp h c8
          refine g_iconst (pc1 := 41) (v := (-1)) d_Main_menu_40 rfl (by decide) ?_
          refine g_ireturn (Or.inl rfl) d_Main_menu_41 rfl ?_
          cases h; exact hQ

def B_Main_supper_16 (ld : Nat) (K16 : Int32 → Int32 → gM → Option (Int32 × gM)) : Int32 → Int32 → gM → Option (Int32 × gM) := fun v1 v2 M =>
  (if (M ld 2) ≤ v2 then some (v1, M) else bI2 (F_Main_freestDish ld v2 M) (fun r4 M5 => bI2 (F_Main_freeBehind ld v2 r4 M5) (fun r7 M8 => bI (F_Int_bitCount r7) (fun r10 => nmI (v1 + r10) (fun x11 => nmI (v2 + 1) (fun x12 => K16 x11 x12 M8))))))
def H_Main_supper_16 (ld : Nat) : Nat → Int32 → Int32 → gM → Option (Int32 × gM) := lpK (B_Main_supper_16 ld) (fun _ _ _ => none)
set_option maxHeartbeats 4000000 in
set_option maxRecDepth 20000 in
theorem h_Main_supper_16 {l : Launch} {ld : Nat} {Q : Option Value → gM → gL → gR → Prop} (hld : isLa ld)   {q : Int32 × gM} {L : gL} (hQ : Q (some (.int q.1)) q.2 L (rf ld))    : ∀ (f : Nat) (v1 : Int32) (v2 : Int32) (M : gM), H_Main_supper_16 ld f v1 v2 M = some q → Wp l y_Main_supper (0, 0, 447) 447 0 0 16 [(0, .ref 0), (1, .int v1), (2, .int v2)] [] M L (rf ld) Q := by
  intro f
  induction f with
  | zero => intro v1 v2 M h; cases h
  | succ f hK16 =>
    intro v1 v2 M h
    replace h : B_Main_supper_16 ld (H_Main_supper_16 ld f) v1 v2 M = some q := h
    unfold B_Main_supper_16 at h
    refine g_iload_n (pc1 := 17) d_Main_supper_16 rfl 2 rfl ?_
    refine g_aload_n (pc1 := 18) d_Main_supper_17 rfl 0 rfl ?_
    refine g_getr (pc1 := 21) d_Main_supper_18 rfl ⟨_, fo_Main_26⟩ sh_0 (by decide) (rf_0_2 ld) ?_
    refine g_geti (pc1 := 24) d_Main_supper_21 rfl ⟨_, fo_Main_157⟩ (shLa_0 hld) (ltLa_0 hld) ?_
    refine g_icmp_ge (pc1 := 27) (tgt := 49) d_Main_supper_24 (by decide) rfl (fun c2 => ?_) (fun c2 => ?_)
    · replace h := itp h c2
      refine g_iload_n (pc1 := 50) d_Main_supper_49 rfl 1 rfl ?_
      refine g_ireturn (Or.inl rfl) d_Main_supper_50 rfl ?_
      cases h; exact hQ
    · replace h := itn h c2
      refine g_iload_n (pc1 := 28) d_Main_supper_27 rfl 1 rfl ?_
      refine g_aload_n (pc1 := 29) d_Main_supper_28 rfl 0 rfl ?_
      refine g_iload_n (pc1 := 30) d_Main_supper_29 rfl 2 rfl ?_
      refine g_aload_n (pc1 := 31) d_Main_supper_30 rfl 0 rfl ?_
      refine g_iload_n (pc1 := 32) d_Main_supper_31 rfl 2 rfl ?_
      refine g_callV0 (pc1 := 35) (As := [.int v2]) (rest := [.int v2, .ref 0, .int v1]) d_Main_supper_32 rfl mo_Main_243 mi_Main_freestDish mv_Main_freestDish rfl sh_0 (by decide) (by decide) rfl rfl (Nat.le_of_ble_eq_true rfl) ?_
      obtain ⟨r4, M5, hq3, h⟩ := bnd2 h
      refine f_Main_freestDish hld  hq3 ?_
      dsimp only [psh]
      refine g_callV0 (pc1 := 38) (As := [.int v2, .int r4]) (rest := [.int v1]) d_Main_supper_35 rfl mo_Main_246 mi_Main_freeBehind mv_Main_freeBehind rfl sh_0 (by decide) (by decide) rfl rfl (Nat.le_of_ble_eq_true rfl) ?_
      obtain ⟨r7, M8, hq6, h⟩ := bnd2 h
      refine f_Main_freeBehind hld  hq6 ?_
      dsimp only [psh]
      refine g_callS0 (pc1 := 41) (As := [.int r7]) (rest := [.int v1]) d_Main_supper_38 rfl mo_Main_249 ms_Int_bitCount (by decide) rfl rfl (Nat.le_of_ble_eq_true rfl) ?_
      obtain ⟨r10, hq9, h⟩ := bnd h
      refine f_Int_bitCount hld  hq9 ?_
      dsimp only [psh]
      refine g_iadd (pc1 := 42) d_Main_supper_41 rfl ?_
      refine Wp.lI h (fun x11 h => ?_)
      refine g_istore_n (pc1 := 43) (lv' := [(0, .ref 0), (1, .int x11), (2, .int v2)]) d_Main_supper_42 rfl rfl (by decide) [1, 0, 2] rfl ?_
      obtain ⟨x12, ex12, h⟩ := ltI h
      refine g_iinc (pc1 := 46) (v := x12) (lv' := [(0, .ref 0), (1, .int x11), (2, .int x12)]) d_Main_supper_43 rfl 2 rfl (by rw [ex12]; rfl) (by decide) [1, 2, 0] rfl ?_
      refine g_goto (tgt := 16) d_Main_supper_46 (by decide) ?_
      exact hK16 x11 x12 M8 h
def F_Main_supper (ld : Nat) (M : gM) : Option (Int32 × gM) :=
  (if (M ld 1) = 0 then some (0, M) else H_Main_supper_16 ld FU 0 0 M)
set_option maxHeartbeats 4000000 in
set_option maxRecDepth 20000 in
theorem f_Main_supper {l : Launch} {ld : Nat} {M : gM} {L : gL} {Q : Option Value → gM → gL → gR → Prop} (hld : isLa ld)   {q : Int32 × gM} (h : F_Main_supper ld M = some q) (hQ : Q (some (.int q.1)) q.2 L (rf ld)) : Tm l y_Main_supper (0, 0, 447) 447 [.ref 0] M L (rf ld) Q := by
  refine Tm.of (by decide) (Nat.le_of_ble_eq_true rfl) ?_
  show Wp l y_Main_supper (0, 0, 447) 447 0 0 0 [(0, .ref 0)] [] M L (rf ld) Q
  unfold F_Main_supper at h
  refine g_aload_n (pc1 := 1) d_Main_supper_0 rfl 0 rfl ?_
  refine g_getr (pc1 := 4) d_Main_supper_1 rfl ⟨_, fo_Main_26⟩ sh_0 (by decide) (rf_0_2 ld) ?_
  refine g_geti (pc1 := 7) d_Main_supper_4 rfl ⟨_, fo_Main_131⟩ (shLa_0 hld) (ltLa_0 hld) ?_
  refine g_if_ne (pc1 := 10) (tgt := 12) d_Main_supper_7 (by decide) rfl (fun c1 => ?_) (fun c1 => ?_)
  · replace h := itn h c1
    refine g_iconst (pc1 := 13) (v := 0) d_Main_supper_12 rfl (by decide) ?_
    refine g_istore_n (pc1 := 14) (lv' := [(0, .ref 0), (1, .int 0)]) d_Main_supper_13 rfl rfl (by decide) [1, 0] rfl ?_
    refine g_iconst (pc1 := 15) (v := 0) d_Main_supper_14 rfl (by decide) ?_
    refine g_istore_n (pc1 := 16) (lv' := [(0, .ref 0), (1, .int 0), (2, .int 0)]) d_Main_supper_15 rfl rfl (by decide) [1, 2, 0] rfl ?_
    exact h_Main_supper_16 hld  hQ  _ 0 0 M h
  · replace h := itp h c1
    refine g_iconst (pc1 := 11) (v := 0) d_Main_supper_10 rfl (by decide) ?_
    refine g_ireturn (Or.inl rfl) d_Main_supper_11 rfl ?_
    cases h; exact hQ

