set_option maxHeartbeats 4000000 in
set_option maxRecDepth 20000 in
theorem t1_Main_boundIn {l : Launch} {ld : Nat} (hld : isLa ld) {M : gM} {L : gL} {Q : Option Value → gM → gL → gR → Prop} (p1 : Int32) (p2 : Int32) (p3 : Int32) (hQ : ∀ (r : Int32) (M' : gM) (L' : gL), Kp S0 M L M' L' → Q (some (.int r)) M' L' (rf ld)) : Tm l y_Main_boundIn (0, 0, 447) 447 [.ref 0, .int p1, .int p2, .int p3] M L (rf ld) Q := by
  refine Tm.of (by decide) (Nat.le_of_ble_eq_true rfl) ?_
  show Wp l y_Main_boundIn (0, 0, 447) 447 0 0 0 [(0, .ref 0), (1, .int p1), (2, .int p2), (3, .int p3)] [] M L (rf ld) Q
  refine g_iload_n (pc1 := 1) d_Main_boundIn_0 rfl 1 rfl ?_
  refine g_aload_n (pc1 := 2) d_Main_boundIn_1 rfl 0 rfl ?_
  refine g_getr (pc1 := 5) d_Main_boundIn_2 rfl ⟨_, fo_Main_26⟩ sh_0 (by decide) (rf_0_2 ld) ?_
  refine g_geti (pc1 := 8) d_Main_boundIn_5 rfl ⟨_, fo_Main_157⟩ (shLa_0 hld) (ltLa_0 hld) ?_
  refine g_callS0 (pc1 := 11) (As := [.int p1, .int (M ld 2)]) (rest := []) d_Main_boundIn_8 rfl mo_Main_112 ms_Main_isOne (by decide) rfl rfl (Nat.le_of_ble_eq_true rfl) ?_
  refine t1_Main_isOne hld _ _ (fun r1988 hr1988 => ?_)
  refine g_if_eq (pc1 := 14) (tgt := 32) d_Main_boundIn_11 (by decide) rfl (fun h1989 => ?_) (fun h1989 => ?_)
  · refine g_iconst (pc1 := 33) (v := (-1)) d_Main_boundIn_32 rfl (by decide) ?_
    refine g_ireturn (Or.inl rfl) d_Main_boundIn_33 rfl ?_
    exact hQ _ _ _ Kp.rf
  · refine g_iload_n (pc1 := 15) d_Main_boundIn_14 rfl 2 rfl ?_
    refine g_iconst (pc1 := 16) (v := 3) d_Main_boundIn_15 rfl (by decide) ?_
    refine g_callS0 (pc1 := 19) (As := [.int p2, .int 3]) (rest := []) d_Main_boundIn_16 rfl mo_Main_112 ms_Main_isOne (by decide) rfl rfl (Nat.le_of_ble_eq_true rfl) ?_
    refine t1_Main_isOne hld _ _ (fun r1990 hr1990 => ?_)
    refine g_if_eq (pc1 := 22) (tgt := 32) d_Main_boundIn_19 (by decide) rfl (fun h1991 => ?_) (fun h1991 => ?_)
    · refine g_iconst (pc1 := 33) (v := (-1)) d_Main_boundIn_32 rfl (by decide) ?_
      refine g_ireturn (Or.inl rfl) d_Main_boundIn_33 rfl ?_
      exact hQ _ _ _ Kp.rf
    · refine g_iload_n (pc1 := 23) d_Main_boundIn_22 rfl 3 rfl ?_
      refine g_if_lt (pc1 := 26) (tgt := 32) d_Main_boundIn_23 (by decide) rfl (fun h1992 => ?_) (fun h1992 => ?_)
      · refine g_iconst (pc1 := 33) (v := (-1)) d_Main_boundIn_32 rfl (by decide) ?_
        refine g_ireturn (Or.inl rfl) d_Main_boundIn_33 rfl ?_
        exact hQ _ _ _ Kp.rf
      · refine g_iload_n (pc1 := 27) d_Main_boundIn_26 rfl 3 rfl ?_
        refine g_bipush (pc1 := 29) (v := 60) d_Main_boundIn_27 rfl (by decide) ?_
        refine g_icmp_le (pc1 := 32) (tgt := 34) d_Main_boundIn_29 (by decide) rfl (fun h1993 => ?_) (fun h1993 => ?_)
        · refine g_aload_n (pc1 := 35) d_Main_boundIn_34 rfl 0 rfl ?_
          refine g_getr (pc1 := 38) d_Main_boundIn_35 rfl ⟨_, fo_Main_36⟩ sh_0 (by decide) (rf_0_4 ld) ?_
          refine g_aload_n (pc1 := 39) d_Main_boundIn_38 rfl 0 rfl ?_
          refine g_getr (pc1 := 42) d_Main_boundIn_39 rfl ⟨_, fo_Main_26⟩ sh_0 (by decide) (rf_0_2 ld) ?_
          refine g_iload_n (pc1 := 43) d_Main_boundIn_42 rfl 1 rfl ?_
          refine g_iload_n (pc1 := 44) d_Main_boundIn_43 rfl 2 rfl ?_
          refine g_iload_n (pc1 := 45) d_Main_boundIn_44 rfl 3 rfl ?_
          refine g_callV0 (pc1 := 48) (As := [.ref ld, .int p1, .int p2, .int p3]) (rest := []) d_Main_boundIn_45 rfl mo_Main_173 mi_State_boundOf mv_State_boundOf rfl (shSt_0 isSt_64) (ltSt_0 isSt_64) (by decide) rfl rfl (Nat.le_of_ble_eq_true rfl) ?_
          refine t1_State_boundOf hld 64 isSt_64 ld hld _ _ _ (fun r1994 M1995 L1996 k1997 => ?_)
          refine g_ireturn (Or.inl rfl) d_Main_boundIn_48 rfl ?_
          exact hQ _ _ _ (Kp.trans Kp.rf k1997)
        · refine g_iconst (pc1 := 33) (v := (-1)) d_Main_boundIn_32 rfl (by decide) ?_
          refine g_ireturn (Or.inl rfl) d_Main_boundIn_33 rfl ?_
          exact hQ _ _ _ Kp.rf
set_option maxHeartbeats 4000000 in
set_option maxRecDepth 20000 in
theorem t1_Main_changeBy {l : Launch} {ld : Nat} (hld : isLa ld) {M : gM} {L : gL} {Q : Option Value → gM → gL → gR → Prop} (p1 : Int32) (p2 : Int32) (hQ : ∀ (r : Int32) (M' : gM) (L' : gL), Kp S0 M L M' L' → Q (some (.int r)) M' L' (rf ld)) : Tm l y_Main_changeBy (0, 0, 447) 447 [.ref 0, .int p1, .int p2] M L (rf ld) Q := by
  refine Tm.of (by decide) (Nat.le_of_ble_eq_true rfl) ?_
  show Wp l y_Main_changeBy (0, 0, 447) 447 0 0 0 [(0, .ref 0), (1, .int p1), (2, .int p2)] [] M L (rf ld) Q
  refine g_iconst (pc1 := 1) (v := 0) d_Main_changeBy_0 rfl (by decide) ?_
  refine g_istore_n (pc1 := 2) (lv' := [(0, .ref 0), (1, .int p1), (2, .int p2), (3, .int 0)]) d_Main_changeBy_1 rfl rfl (by decide) [1, 2, 3, 0] rfl ?_
  refine g_iconst (pc1 := 3) (v := 0) d_Main_changeBy_2 rfl (by decide) ?_
  refine g_istore (pc1 := 5) (lv' := [(0, .ref 0), (1, .int p1), (2, .int p2), (3, .int 0), (4, .int 0)]) d_Main_changeBy_3 rfl (by decide) [1, 2, 3, 4, 0] rfl ?_
  have LP2001 : ∀ (f1998 : Nat) (v2002 : Int32) (v2003 : Int32) (M2004 : gM) (L2005 : gL), Kp S0 M L M2004 L2005 → ¬ v2003 < 0 → ((3 : Int32).toInt - v2003.toInt).toNat < f1998 → Wp l y_Main_changeBy (0, 0, 447) 447 0 0 5 [(0, .ref 0), (1, .int p1), (2, .int p2), (3, .int v2002), (4, .int v2003)] [] M2004 L2005 (rf ld) Q := by
    intro f1998
    induction f1998 with
    | zero => intro v2002 v2003 M2004 L2005 _ _ hm2000; exact absurd hm2000 (Nat.not_lt_zero _)
    | succ f1998 ih1999 =>
      intro v2002 v2003 M2004 L2005 k2006 n2007 hm2000
      refine g_iload (pc1 := 7) d_Main_changeBy_5 rfl 4 rfl ?_
      refine g_iconst (pc1 := 8) (v := 3) d_Main_changeBy_7 rfl (by decide) ?_
      refine g_icmp_ge (pc1 := 11) (tgt := 69) d_Main_changeBy_8 (by decide) rfl (fun h2008 => ?_) (fun h2008 => ?_)
      · refine g_iload_n (pc1 := 70) d_Main_changeBy_69 rfl 3 rfl ?_
        refine g_ireturn (Or.inl rfl) d_Main_changeBy_70 rfl ?_
        exact hQ _ _ _ k2006
      · refine g_aload_n (pc1 := 12) d_Main_changeBy_11 rfl 0 rfl ?_
        refine g_getr (pc1 := 15) d_Main_changeBy_12 rfl ⟨_, fo_Main_26⟩ sh_0 (by decide) (rf_0_2 ld) ?_
        refine g_iload_n (pc1 := 16) d_Main_changeBy_15 rfl 1 rfl ?_
        refine g_iload_n (pc1 := 17) d_Main_changeBy_16 rfl 2 rfl ?_
        refine g_iload (pc1 := 19) d_Main_changeBy_17 rfl 4 rfl ?_
        refine g_aload_n (pc1 := 20) d_Main_changeBy_19 rfl 0 rfl ?_
        refine g_getr (pc1 := 23) d_Main_changeBy_20 rfl ⟨_, fo_Main_36⟩ sh_0 (by decide) (rf_0_4 ld) ?_
        refine g_geti (pc1 := 26) d_Main_changeBy_23 rfl ⟨_, fo_Main_144⟩ (shSt_0 isSt_64) (ltSt_0 isSt_64) ?_
        refine g_callV0 (pc1 := 29) (As := [.int p1, .int p2, .int v2003, .int (M2004 64 0)]) (rest := []) d_Main_changeBy_26 rfl mo_Main_147 mi_Land_dishForce mv_Land_dishForce rfl (shLa_0 hld) (ltLa_0 hld) (by decide) rfl rfl (Nat.le_of_ble_eq_true rfl) ?_
        refine t1_Land_dishForce hld ld hld _ _ _ _ (fun r2009 M2010 L2011 k2012 => ?_)
        refine g_istore (pc1 := 31) (lv' := [(0, .ref 0), (1, .int p1), (2, .int p2), (3, .int v2002), (4, .int v2003), (5, .int r2009)]) d_Main_changeBy_29 rfl (by decide) [1, 2, 3, 4, 5, 0] rfl ?_
        refine g_aload_n (pc1 := 32) d_Main_changeBy_31 rfl 0 rfl ?_
        refine g_getr (pc1 := 35) d_Main_changeBy_32 rfl ⟨_, fo_Main_26⟩ sh_0 (by decide) (rf_0_2 ld) ?_
        refine g_iload_n (pc1 := 36) d_Main_changeBy_35 rfl 1 rfl ?_
        refine g_bipush (pc1 := 38) (v := (-2)) d_Main_changeBy_36 rfl (by decide) ?_
        refine g_iload (pc1 := 40) d_Main_changeBy_38 rfl 4 rfl ?_
        refine g_aload_n (pc1 := 41) d_Main_changeBy_40 rfl 0 rfl ?_
        refine g_getr (pc1 := 44) d_Main_changeBy_41 rfl ⟨_, fo_Main_36⟩ sh_0 (by decide) (rf_0_4 ld) ?_
        refine g_geti (pc1 := 47) d_Main_changeBy_44 rfl ⟨_, fo_Main_144⟩ (shSt_0 isSt_64) (ltSt_0 isSt_64) ?_
        refine g_callV0 (pc1 := 50) (As := [.int p1, .int (-2), .int v2003, .int (M2010 64 0)]) (rest := []) d_Main_changeBy_47 rfl mo_Main_147 mi_Land_dishForce mv_Land_dishForce rfl (shLa_0 hld) (ltLa_0 hld) (by decide) rfl rfl (Nat.le_of_ble_eq_true rfl) ?_
        refine t1_Land_dishForce hld ld hld _ _ _ _ (fun r2013 M2014 L2015 k2016 => ?_)
        refine g_istore (pc1 := 52) (lv' := [(0, .ref 0), (1, .int p1), (2, .int p2), (3, .int v2002), (4, .int v2003), (5, .int r2009), (6, .int r2013)]) d_Main_changeBy_50 rfl (by decide) [1, 2, 3, 4, 5, 6, 0] rfl ?_
        refine g_iload_n (pc1 := 53) d_Main_changeBy_52 rfl 3 rfl ?_
        refine g_iload (pc1 := 55) d_Main_changeBy_53 rfl 5 rfl ?_
        refine g_iload (pc1 := 57) d_Main_changeBy_55 rfl 6 rfl ?_
        refine g_isub (pc1 := 58) d_Main_changeBy_57 rfl ?_
        refine g_mabs (pc1 := 61) d_Main_changeBy_58 rfl mm_Main_238 (by decide) ⟨Nat.le_refl 0, Nat.le_refl 0⟩ (Nat.le_of_ble_eq_true rfl) ?_
        refine g_iadd (pc1 := 62) d_Main_changeBy_61 rfl ?_
        refine Wp.topi (fun x2017 ex2017 => ?_)
        refine g_istore_n (pc1 := 63) (lv' := [(0, .ref 0), (1, .int p1), (2, .int p2), (3, .int x2017), (4, .int v2003), (5, .int r2009), (6, .int r2013)]) d_Main_changeBy_62 rfl rfl (by decide) [1, 2, 3, 0, 4, 5, 6] rfl ?_
        obtain ⟨x2018, ex2018⟩ : ∃ y : Int32, y = v2003 + 1 := ⟨_, rfl⟩
        refine g_iinc (pc1 := 66) (v := x2018) (lv' := [(0, .ref 0), (1, .int p1), (2, .int p2), (3, .int x2017), (4, .int x2018), (5, .int r2009), (6, .int r2013)]) d_Main_changeBy_63 rfl 4 rfl (by rw [ex2018]; rfl) (by decide) [1, 2, 3, 4, 0, 5, 6] rfl ?_
        refine g_goto (tgt := 5) d_Main_changeBy_66 (by decide) ?_
        refine Wp.loc (lv' := [(0, .ref 0), (1, .int p1), (2, .int p2), (3, .int x2017), (4, .int x2018)]) [0, 1, 2, 3, 4] rfl ?_
        exact ih1999 x2017 x2018 M2014 L2015 (Kp.trans (Kp.trans k2006 k2012) k2016) (nn_up (y := (3 : Int32)) h2008 ex2018 n2007) (md_up h2008 ex2018 hm2000)
  exact LP2001 _ 0 0 M L Kp.rf (by decide) (Nat.lt_succ_self _)
set_option maxHeartbeats 4000000 in
set_option maxRecDepth 20000 in
theorem t1_Main_days {l : Launch} {ld : Nat} (hld : isLa ld) {M : gM} {L : gL} {Q : Option Value → gM → gL → gR → Prop} (p1 : Int32) (hQ : ∀ (r : Int32) (M' : gM) (L' : gL), Kp S1 M L M' L' → Q (some (.int r)) M' L' (rf ld)) : Tm l y_Main_days (0, 0, 447) 447 [.ref 0, .int p1] M L (rf ld) Q := by
  refine Tm.of (by decide) (Nat.le_of_ble_eq_true rfl) ?_
  show Wp l y_Main_days (0, 0, 447) 447 0 0 0 [(0, .ref 0), (1, .int p1)] [] M L (rf ld) Q
  refine g_iload_n (pc1 := 1) d_Main_days_0 rfl 1 rfl ?_
  refine g_if_lt (pc1 := 4) (tgt := 10) d_Main_days_1 (by decide) rfl (fun h2019 => ?_) (fun h2019 => ?_)
  · refine g_iconst (pc1 := 11) (v := (-1)) d_Main_days_10 rfl (by decide) ?_
    refine g_ireturn (Or.inl rfl) d_Main_days_11 rfl ?_
    exact hQ _ _ _ Kp.rf
  · refine g_iload_n (pc1 := 5) d_Main_days_4 rfl 1 rfl ?_
    refine g_bipush (pc1 := 7) (v := 60) d_Main_days_5 rfl (by decide) ?_
    refine g_icmp_le (pc1 := 10) (tgt := 12) d_Main_days_7 (by decide) rfl (fun h2020 => ?_) (fun h2020 => ?_)
    · refine g_iload_n (pc1 := 13) d_Main_days_12 rfl 1 rfl ?_
      refine g_if_le (pc1 := 16) (tgt := 39) d_Main_days_13 (by decide) rfl (fun h2021 => ?_) (fun h2021 => ?_)
      · refine g_aload_n (pc1 := 40) d_Main_days_39 rfl 0 rfl ?_
        refine g_getr (pc1 := 43) d_Main_days_40 rfl ⟨_, fo_Main_36⟩ sh_0 (by decide) (rf_0_4 ld) ?_
        refine g_geti (pc1 := 46) d_Main_days_43 rfl ⟨_, fo_Main_144⟩ (shSt_0 isSt_64) (ltSt_0 isSt_64) ?_
        refine g_ireturn (Or.inl rfl) d_Main_days_46 rfl ?_
        exact hQ _ _ _ Kp.rf
      · refine g_aload_n (pc1 := 17) d_Main_days_16 rfl 0 rfl ?_
        refine g_getr (pc1 := 20) d_Main_days_17 rfl ⟨_, fo_Main_46⟩ sh_0 (by decide) (rf_0_6 ld) ?_
        refine g_aload_n (pc1 := 21) d_Main_days_20 rfl 0 rfl ?_
        refine g_getr (pc1 := 24) d_Main_days_21 rfl ⟨_, fo_Main_36⟩ sh_0 (by decide) (rf_0_4 ld) ?_
        refine g_callV0 (pc1 := 27) (As := [.ref 64]) (rest := []) d_Main_days_24 rfl mo_Main_200 mi_Past_keep mv_Past_keep rfl sh_78 (by decide) (by decide) rfl rfl (Nat.le_of_ble_eq_true rfl) ?_
        refine t1_Past_keep hld 64 isSt_64 (fun  M2022 L2023 k2024 => ?_)
        refine g_aload_n (pc1 := 28) d_Main_days_27 rfl 0 rfl ?_
        refine g_getr (pc1 := 31) d_Main_days_28 rfl ⟨_, fo_Main_36⟩ sh_0 (by decide) (rf_0_4 ld) ?_
        refine g_aload_n (pc1 := 32) d_Main_days_31 rfl 0 rfl ?_
        refine g_getr (pc1 := 35) d_Main_days_32 rfl ⟨_, fo_Main_26⟩ sh_0 (by decide) (rf_0_2 ld) ?_
        refine g_iload_n (pc1 := 36) d_Main_days_35 rfl 1 rfl ?_
        refine g_callV0 (pc1 := 39) (As := [.ref ld, .int p1]) (rest := []) d_Main_days_36 rfl mo_Main_214 mi_State_passDays mv_State_passDays rfl (shSt_0 isSt_64) (ltSt_0 isSt_64) (by decide) rfl rfl (Nat.le_of_ble_eq_true rfl) ?_
        refine t1_State_passDays hld 64 isSt_64 ld hld _ (fun  M2025 L2026 k2027 => ?_)
        refine g_aload_n (pc1 := 40) d_Main_days_39 rfl 0 rfl ?_
        refine g_getr (pc1 := 43) d_Main_days_40 rfl ⟨_, fo_Main_36⟩ sh_0 (by decide) (rf_0_4 ld) ?_
        refine g_geti (pc1 := 46) d_Main_days_43 rfl ⟨_, fo_Main_144⟩ (shSt_0 isSt_64) (ltSt_0 isSt_64) ?_
        refine g_ireturn (Or.inl rfl) d_Main_days_46 rfl ?_
        exact hQ _ _ _ (Kp.trans (Kp.trans Kp.rf k2024) k2027)
    · refine g_iconst (pc1 := 11) (v := (-1)) d_Main_days_10 rfl (by decide) ?_
      refine g_ireturn (Or.inl rfl) d_Main_days_11 rfl ?_
      exact hQ _ _ _ Kp.rf
set_option maxHeartbeats 4000000 in
set_option maxRecDepth 20000 in
theorem t1_Main_dish {l : Launch} {ld : Nat} (hld : isLa ld) {M : gM} {L : gL} {Q : Option Value → gM → gL → gR → Prop} (p1 : Int32) (p2 : Int32) (hQ : ∀ (r : Int32) (M' : gM) (L' : gL), Kp S0 M L M' L' → Q (some (.int r)) M' L' (rf ld)) : Tm l y_Main_dish (0, 0, 447) 447 [.ref 0, .int p1, .int p2] M L (rf ld) Q := by
  refine Tm.of (by decide) (Nat.le_of_ble_eq_true rfl) ?_
  show Wp l y_Main_dish (0, 0, 447) 447 0 0 0 [(0, .ref 0), (1, .int p1), (2, .int p2)] [] M L (rf ld) Q
  refine g_iload_n (pc1 := 1) d_Main_dish_0 rfl 1 rfl ?_
  refine g_aload_n (pc1 := 2) d_Main_dish_1 rfl 0 rfl ?_
  refine g_getr (pc1 := 5) d_Main_dish_2 rfl ⟨_, fo_Main_26⟩ sh_0 (by decide) (rf_0_2 ld) ?_
  refine g_geti (pc1 := 8) d_Main_dish_5 rfl ⟨_, fo_Main_131⟩ (shLa_0 hld) (ltLa_0 hld) ?_
  refine g_callS0 (pc1 := 11) (As := [.int p1, .int (M ld 1)]) (rest := []) d_Main_dish_8 rfl mo_Main_112 ms_Main_isOne (by decide) rfl rfl (Nat.le_of_ble_eq_true rfl) ?_
  refine t1_Main_isOne hld _ _ (fun r2028 hr2028 => ?_)
  refine g_if_ne (pc1 := 14) (tgt := 16) d_Main_dish_11 (by decide) rfl (fun h2029 => ?_) (fun h2029 => ?_)
  · refine g_iload_n (pc1 := 17) d_Main_dish_16 rfl 2 rfl ?_
    by_cases h2030 : p2 = 0
    · refine g_tabK (tgt := 60) (off := 43) d_Main_dish_17 h2030 (by decide) (by decide) (by decide) (by decide) ?_
      refine g_aload_n (pc1 := 61) d_Main_dish_60 rfl 0 rfl ?_
      refine g_getr (pc1 := 64) d_Main_dish_61 rfl ⟨_, fo_Main_26⟩ sh_0 (by decide) (rf_0_2 ld) ?_
      refine g_getr (pc1 := 67) d_Main_dish_64 rfl ⟨_, fo_Main_134⟩ (shLa_0 hld) (ltLa_0 hld) (rfLa_8 ld hld) ?_
      refine g_iload_n (pc1 := 68) d_Main_dish_67 rfl 1 rfl ?_
      refine g_callS0 (pc1 := 71) (As := [.ref (ld + 4), .int p1]) (rest := []) d_Main_dish_68 rfl mo_Main_120 ms_Main_at (by decide) rfl rfl (Nat.le_of_ble_eq_true rfl) ?_
      refine t1_Main_at hld (ld + 4) (shLa_4 hld) (ltLa_4 hld) (by decide) _ (fun r2031 => ?_)
      refine g_ireturn (Or.inl rfl) d_Main_dish_71 rfl ?_
      exact hQ _ _ _ Kp.rf
    by_cases h2032 : p2 = 1
    · refine g_tabK (tgt := 72) (off := 55) d_Main_dish_17 h2032 (by decide) (by decide) (by decide) (by decide) ?_
      refine g_aload_n (pc1 := 73) d_Main_dish_72 rfl 0 rfl ?_
      refine g_getr (pc1 := 76) d_Main_dish_73 rfl ⟨_, fo_Main_26⟩ sh_0 (by decide) (rf_0_2 ld) ?_
      refine g_iload_n (pc1 := 77) d_Main_dish_76 rfl 1 rfl ?_
      refine g_callV0 (pc1 := 80) (As := [.int p1]) (rest := []) d_Main_dish_77 rfl mo_Main_137 mi_Land_manyIn mv_Land_manyIn rfl (shLa_0 hld) (ltLa_0 hld) (by decide) rfl rfl (Nat.le_of_ble_eq_true rfl) ?_
      refine t1_Land_manyIn hld ld hld _ (fun r2033 => ?_)
      refine g_ireturn (Or.inl rfl) d_Main_dish_80 rfl ?_
      exact hQ _ _ _ Kp.rf
    by_cases h2034 : p2 = 2
    · refine g_tabK (tgt := 81) (off := 64) d_Main_dish_17 h2034 (by decide) (by decide) (by decide) (by decide) ?_
      refine g_aload_n (pc1 := 82) d_Main_dish_81 rfl 0 rfl ?_
      refine g_getr (pc1 := 85) d_Main_dish_82 rfl ⟨_, fo_Main_26⟩ sh_0 (by decide) (rf_0_2 ld) ?_
      refine g_iload_n (pc1 := 86) d_Main_dish_85 rfl 1 rfl ?_
      refine g_callV0 (pc1 := 89) (As := [.int p1]) (rest := []) d_Main_dish_86 rfl mo_Main_141 mi_Land_priceOf mv_Land_priceOf rfl (shLa_0 hld) (ltLa_0 hld) (by decide) rfl rfl (Nat.le_of_ble_eq_true rfl) ?_
      refine t1_Land_priceOf hld ld hld _ (fun r2035 => ?_)
      refine g_ireturn (Or.inl rfl) d_Main_dish_89 rfl ?_
      exact hQ _ _ _ Kp.rf
    by_cases h2036 : p2 = 3
    · refine g_tabK (tgt := 90) (off := 73) d_Main_dish_17 h2036 (by decide) (by decide) (by decide) (by decide) ?_
      refine g_aload_n (pc1 := 91) d_Main_dish_90 rfl 0 rfl ?_
      refine g_getr (pc1 := 94) d_Main_dish_91 rfl ⟨_, fo_Main_26⟩ sh_0 (by decide) (rf_0_2 ld) ?_
      refine g_iload_n (pc1 := 95) d_Main_dish_94 rfl 1 rfl ?_
      refine g_bipush (pc1 := 97) (v := (-2)) d_Main_dish_95 rfl (by decide) ?_
      refine g_iload_n (pc1 := 98) d_Main_dish_97 rfl 2 rfl ?_
      refine g_iconst (pc1 := 99) (v := 3) d_Main_dish_98 rfl (by decide) ?_
      refine g_isub (pc1 := 100) d_Main_dish_99 rfl ?_
      refine g_aload_n (pc1 := 101) d_Main_dish_100 rfl 0 rfl ?_
      refine g_getr (pc1 := 104) d_Main_dish_101 rfl ⟨_, fo_Main_36⟩ sh_0 (by decide) (rf_0_4 ld) ?_
      refine g_geti (pc1 := 107) d_Main_dish_104 rfl ⟨_, fo_Main_144⟩ (shSt_0 isSt_64) (ltSt_0 isSt_64) ?_
      refine g_callV0 (pc1 := 110) (As := [.int p1, .int (-2), .int (p2 - 3), .int (M 64 0)]) (rest := []) d_Main_dish_107 rfl mo_Main_147 mi_Land_dishForce mv_Land_dishForce rfl (shLa_0 hld) (ltLa_0 hld) (by decide) rfl rfl (Nat.le_of_ble_eq_true rfl) ?_
      refine t1_Land_dishForce hld ld hld _ _ _ _ (fun r2037 M2038 L2039 k2040 => ?_)
      refine g_ireturn (Or.inl rfl) d_Main_dish_110 rfl ?_
      exact hQ _ _ _ (Kp.trans Kp.rf k2040)
    by_cases h2041 : p2 = 4
    · refine g_tabK (tgt := 90) (off := 73) d_Main_dish_17 h2041 (by decide) (by decide) (by decide) (by decide) ?_
      refine g_aload_n (pc1 := 91) d_Main_dish_90 rfl 0 rfl ?_
      refine g_getr (pc1 := 94) d_Main_dish_91 rfl ⟨_, fo_Main_26⟩ sh_0 (by decide) (rf_0_2 ld) ?_
      refine g_iload_n (pc1 := 95) d_Main_dish_94 rfl 1 rfl ?_
      refine g_bipush (pc1 := 97) (v := (-2)) d_Main_dish_95 rfl (by decide) ?_
      refine g_iload_n (pc1 := 98) d_Main_dish_97 rfl 2 rfl ?_
      refine g_iconst (pc1 := 99) (v := 3) d_Main_dish_98 rfl (by decide) ?_
      refine g_isub (pc1 := 100) d_Main_dish_99 rfl ?_
      refine g_aload_n (pc1 := 101) d_Main_dish_100 rfl 0 rfl ?_
      refine g_getr (pc1 := 104) d_Main_dish_101 rfl ⟨_, fo_Main_36⟩ sh_0 (by decide) (rf_0_4 ld) ?_
      refine g_geti (pc1 := 107) d_Main_dish_104 rfl ⟨_, fo_Main_144⟩ (shSt_0 isSt_64) (ltSt_0 isSt_64) ?_
      refine g_callV0 (pc1 := 110) (As := [.int p1, .int (-2), .int (p2 - 3), .int (M 64 0)]) (rest := []) d_Main_dish_107 rfl mo_Main_147 mi_Land_dishForce mv_Land_dishForce rfl (shLa_0 hld) (ltLa_0 hld) (by decide) rfl rfl (Nat.le_of_ble_eq_true rfl) ?_
      refine t1_Land_dishForce hld ld hld _ _ _ _ (fun r2042 M2043 L2044 k2045 => ?_)
      refine g_ireturn (Or.inl rfl) d_Main_dish_110 rfl ?_
      exact hQ _ _ _ (Kp.trans Kp.rf k2045)
    by_cases h2046 : p2 = 5
    · refine g_tabK (tgt := 90) (off := 73) d_Main_dish_17 h2046 (by decide) (by decide) (by decide) (by decide) ?_
      refine g_aload_n (pc1 := 91) d_Main_dish_90 rfl 0 rfl ?_
      refine g_getr (pc1 := 94) d_Main_dish_91 rfl ⟨_, fo_Main_26⟩ sh_0 (by decide) (rf_0_2 ld) ?_
      refine g_iload_n (pc1 := 95) d_Main_dish_94 rfl 1 rfl ?_
      refine g_bipush (pc1 := 97) (v := (-2)) d_Main_dish_95 rfl (by decide) ?_
      refine g_iload_n (pc1 := 98) d_Main_dish_97 rfl 2 rfl ?_
      refine g_iconst (pc1 := 99) (v := 3) d_Main_dish_98 rfl (by decide) ?_
      refine g_isub (pc1 := 100) d_Main_dish_99 rfl ?_
      refine g_aload_n (pc1 := 101) d_Main_dish_100 rfl 0 rfl ?_
      refine g_getr (pc1 := 104) d_Main_dish_101 rfl ⟨_, fo_Main_36⟩ sh_0 (by decide) (rf_0_4 ld) ?_
      refine g_geti (pc1 := 107) d_Main_dish_104 rfl ⟨_, fo_Main_144⟩ (shSt_0 isSt_64) (ltSt_0 isSt_64) ?_
      refine g_callV0 (pc1 := 110) (As := [.int p1, .int (-2), .int (p2 - 3), .int (M 64 0)]) (rest := []) d_Main_dish_107 rfl mo_Main_147 mi_Land_dishForce mv_Land_dishForce rfl (shLa_0 hld) (ltLa_0 hld) (by decide) rfl rfl (Nat.le_of_ble_eq_true rfl) ?_
      refine t1_Land_dishForce hld ld hld _ _ _ _ (fun r2047 M2048 L2049 k2050 => ?_)
      refine g_ireturn (Or.inl rfl) d_Main_dish_110 rfl ?_
      exact hQ _ _ _ (Kp.trans Kp.rf k2050)
    by_cases h2051 : p2 = 6
    · refine g_tabK (tgt := 111) (off := 94) d_Main_dish_17 h2051 (by decide) (by decide) (by decide) (by decide) ?_
      refine g_aload_n (pc1 := 112) d_Main_dish_111 rfl 0 rfl ?_
      refine g_getr (pc1 := 115) d_Main_dish_112 rfl ⟨_, fo_Main_36⟩ sh_0 (by decide) (rf_0_4 ld) ?_
      refine g_getr (pc1 := 118) d_Main_dish_115 rfl ⟨_, fo_Main_151⟩ (shSt_0 isSt_64) (ltSt_0 isSt_64) (rfSt_6 ld isSt_64) ?_
      refine g_iload_n (pc1 := 119) d_Main_dish_118 rfl 1 rfl ?_
      refine g_callS0 (pc1 := 122) (As := [.ref (64 + 3), .int p1]) (rest := []) d_Main_dish_119 rfl mo_Main_120 ms_Main_at (by decide) rfl rfl (Nat.le_of_ble_eq_true rfl) ?_
      refine t1_Main_at hld (64 + 3) (shSt_3 isSt_64) (ltSt_3 isSt_64) (by decide) _ (fun r2052 => ?_)
      refine g_ireturn (Or.inl rfl) d_Main_dish_122 rfl ?_
      exact hQ _ _ _ Kp.rf
    refine g_tabOut (tgt := 123) d_Main_dish_17 (by
      have nh2030 := neT (a := 0) h2030 (by decide)
      have nh2032 := neT (a := 1) h2032 (by decide)
      have nh2034 := neT (a := 2) h2034 (by decide)
      have nh2036 := neT (a := 3) h2036 (by decide)
      have nh2041 := neT (a := 4) h2041 (by decide)
      have nh2046 := neT (a := 5) h2046 (by decide)
      have nh2051 := neT (a := 6) h2051 (by decide)
      omega) (by decide) ?_
    refine g_iconst (pc1 := 124) (v := (-1)) d_Main_dish_123 rfl (by decide) ?_
    refine g_ireturn (Or.inl rfl) d_Main_dish_124 rfl ?_
    exact hQ _ _ _ Kp.rf
  · refine g_iconst (pc1 := 15) (v := (-1)) d_Main_dish_14 rfl (by decide) ?_
    refine g_ireturn (Or.inl rfl) d_Main_dish_15 rfl ?_
    exact hQ _ _ _ Kp.rf
set_option maxHeartbeats 4000000 in
set_option maxRecDepth 20000 in
theorem t1_Main_guest {l : Launch} {ld : Nat} (hld : isLa ld) {M : gM} {L : gL} {Q : Option Value → gM → gL → gR → Prop} (p1 : Int32) (p2 : Int32) (hQ : ∀ (r : Int32) (M' : gM) (L' : gL), Kp S0 M L M' L' → Q (some (.int r)) M' L' (rf ld)) : Tm l y_Main_guest (0, 0, 447) 447 [.ref 0, .int p1, .int p2] M L (rf ld) Q := by
  refine Tm.of (by decide) (Nat.le_of_ble_eq_true rfl) ?_
  show Wp l y_Main_guest (0, 0, 447) 447 0 0 0 [(0, .ref 0), (1, .int p1), (2, .int p2)] [] M L (rf ld) Q
  refine g_iload_n (pc1 := 1) d_Main_guest_0 rfl 1 rfl ?_
  refine g_aload_n (pc1 := 2) d_Main_guest_1 rfl 0 rfl ?_
  refine g_getr (pc1 := 5) d_Main_guest_2 rfl ⟨_, fo_Main_26⟩ sh_0 (by decide) (rf_0_2 ld) ?_
  refine g_geti (pc1 := 8) d_Main_guest_5 rfl ⟨_, fo_Main_157⟩ (shLa_0 hld) (ltLa_0 hld) ?_
  refine g_callS0 (pc1 := 11) (As := [.int p1, .int (M ld 2)]) (rest := []) d_Main_guest_8 rfl mo_Main_112 ms_Main_isOne (by decide) rfl rfl (Nat.le_of_ble_eq_true rfl) ?_
  refine t1_Main_isOne hld _ _ (fun r2053 hr2053 => ?_)
  refine g_if_ne (pc1 := 14) (tgt := 16) d_Main_guest_11 (by decide) rfl (fun h2054 => ?_) (fun h2054 => ?_)
  · refine g_iload_n (pc1 := 17) d_Main_guest_16 rfl 2 rfl ?_
    by_cases h2055 : p2 = 0
    · refine g_tabK (tgt := 56) (off := 39) d_Main_guest_17 h2055 (by decide) (by decide) (by decide) (by decide) ?_
      refine g_aload_n (pc1 := 57) d_Main_guest_56 rfl 0 rfl ?_
      refine g_getr (pc1 := 60) d_Main_guest_57 rfl ⟨_, fo_Main_26⟩ sh_0 (by decide) (rf_0_2 ld) ?_
      refine g_getr (pc1 := 63) d_Main_guest_60 rfl ⟨_, fo_Main_160⟩ (shLa_0 hld) (ltLa_0 hld) (rfLa_10 ld hld) ?_
      refine g_iload_n (pc1 := 64) d_Main_guest_63 rfl 1 rfl ?_
      refine g_callS0 (pc1 := 67) (As := [.ref (ld + 6), .int p1]) (rest := []) d_Main_guest_64 rfl mo_Main_120 ms_Main_at (by decide) rfl rfl (Nat.le_of_ble_eq_true rfl) ?_
      refine t1_Main_at hld (ld + 6) (shLa_6 hld) (ltLa_6 hld) (by decide) _ (fun r2056 => ?_)
      refine g_ireturn (Or.inl rfl) d_Main_guest_67 rfl ?_
      exact hQ _ _ _ Kp.rf
    by_cases h2057 : p2 = 1
    · refine g_tabK (tgt := 68) (off := 51) d_Main_guest_17 h2057 (by decide) (by decide) (by decide) (by decide) ?_
      refine g_aload_n (pc1 := 69) d_Main_guest_68 rfl 0 rfl ?_
      refine g_getr (pc1 := 72) d_Main_guest_69 rfl ⟨_, fo_Main_36⟩ sh_0 (by decide) (rf_0_4 ld) ?_
      refine g_iload_n (pc1 := 73) d_Main_guest_72 rfl 1 rfl ?_
      refine g_callV0 (pc1 := 76) (As := [.int p1]) (rest := []) d_Main_guest_73 rfl mo_Main_163 mi_State_hasEaten mv_State_hasEaten rfl (shSt_0 isSt_64) (ltSt_0 isSt_64) (by decide) rfl rfl (Nat.le_of_ble_eq_true rfl) ?_
      refine t1_State_hasEaten hld 64 isSt_64 _ (fun r2058 hr2058 => ?_)
      refine g_if_eq (pc1 := 79) (tgt := 90) d_Main_guest_76 (by decide) rfl (fun h2059 => ?_) (fun h2059 => ?_)
      · refine g_bipush (pc1 := 92) (v := (-2)) d_Main_guest_90 rfl (by decide) ?_
        refine g_ireturn (Or.inl rfl) d_Main_guest_92 rfl ?_
        exact hQ _ _ _ Kp.rf
      · refine g_aload_n (pc1 := 80) d_Main_guest_79 rfl 0 rfl ?_
        refine g_getr (pc1 := 83) d_Main_guest_80 rfl ⟨_, fo_Main_36⟩ sh_0 (by decide) (rf_0_4 ld) ?_
        refine g_iload_n (pc1 := 84) d_Main_guest_83 rfl 1 rfl ?_
        refine g_callV0 (pc1 := 87) (As := [.int p1]) (rest := []) d_Main_guest_84 rfl mo_Main_167 mi_State_agoOf mv_State_agoOf rfl (shSt_0 isSt_64) (ltSt_0 isSt_64) (by decide) rfl rfl (Nat.le_of_ble_eq_true rfl) ?_
        refine t1_State_agoOf hld 64 isSt_64 _ (fun r2060 => ?_)
        refine g_goto (tgt := 92) d_Main_guest_87 (by decide) ?_
        refine g_ireturn (Or.inl rfl) d_Main_guest_92 rfl ?_
        exact hQ _ _ _ Kp.rf
    by_cases h2061 : p2 = 2
    · refine g_tabK (tgt := 93) (off := 76) d_Main_guest_17 h2061 (by decide) (by decide) (by decide) (by decide) ?_
      refine g_aload_n (pc1 := 94) d_Main_guest_93 rfl 0 rfl ?_
      refine g_getr (pc1 := 97) d_Main_guest_94 rfl ⟨_, fo_Main_36⟩ sh_0 (by decide) (rf_0_4 ld) ?_
      refine g_getr (pc1 := 100) d_Main_guest_97 rfl ⟨_, fo_Main_170⟩ (shSt_0 isSt_64) (ltSt_0 isSt_64) (rfSt_7 ld isSt_64) ?_
      refine g_iload_n (pc1 := 101) d_Main_guest_100 rfl 1 rfl ?_
      refine g_callS0 (pc1 := 104) (As := [.ref (64 + 4), .int p1]) (rest := []) d_Main_guest_101 rfl mo_Main_120 ms_Main_at (by decide) rfl rfl (Nat.le_of_ble_eq_true rfl) ?_
      refine t1_Main_at hld (64 + 4) (shSt_4 isSt_64) (ltSt_4 isSt_64) (by decide) _ (fun r2062 => ?_)
      refine g_ireturn (Or.inl rfl) d_Main_guest_104 rfl ?_
      exact hQ _ _ _ Kp.rf
    by_cases h2063 : p2 = 3
    · refine g_tabK (tgt := 105) (off := 88) d_Main_guest_17 h2063 (by decide) (by decide) (by decide) (by decide) ?_
      refine g_aload_n (pc1 := 106) d_Main_guest_105 rfl 0 rfl ?_
      refine g_getr (pc1 := 109) d_Main_guest_106 rfl ⟨_, fo_Main_36⟩ sh_0 (by decide) (rf_0_4 ld) ?_
      refine g_aload_n (pc1 := 110) d_Main_guest_109 rfl 0 rfl ?_
      refine g_getr (pc1 := 113) d_Main_guest_110 rfl ⟨_, fo_Main_26⟩ sh_0 (by decide) (rf_0_2 ld) ?_
      refine g_iload_n (pc1 := 114) d_Main_guest_113 rfl 1 rfl ?_
      refine g_iload_n (pc1 := 115) d_Main_guest_114 rfl 2 rfl ?_
      refine g_iconst (pc1 := 116) (v := 3) d_Main_guest_115 rfl (by decide) ?_
      refine g_isub (pc1 := 117) d_Main_guest_116 rfl ?_
      refine g_iconst (pc1 := 118) (v := 0) d_Main_guest_117 rfl (by decide) ?_
      refine g_callV0 (pc1 := 121) (As := [.ref ld, .int p1, .int (p2 - 3), .int 0]) (rest := []) d_Main_guest_118 rfl mo_Main_173 mi_State_boundOf mv_State_boundOf rfl (shSt_0 isSt_64) (ltSt_0 isSt_64) (by decide) rfl rfl (Nat.le_of_ble_eq_true rfl) ?_
      refine t1_State_boundOf hld 64 isSt_64 ld hld _ _ _ (fun r2064 M2065 L2066 k2067 => ?_)
      refine g_ireturn (Or.inl rfl) d_Main_guest_121 rfl ?_
      exact hQ _ _ _ (Kp.trans Kp.rf k2067)
    by_cases h2068 : p2 = 4
    · refine g_tabK (tgt := 105) (off := 88) d_Main_guest_17 h2068 (by decide) (by decide) (by decide) (by decide) ?_
      refine g_aload_n (pc1 := 106) d_Main_guest_105 rfl 0 rfl ?_
      refine g_getr (pc1 := 109) d_Main_guest_106 rfl ⟨_, fo_Main_36⟩ sh_0 (by decide) (rf_0_4 ld) ?_
      refine g_aload_n (pc1 := 110) d_Main_guest_109 rfl 0 rfl ?_
      refine g_getr (pc1 := 113) d_Main_guest_110 rfl ⟨_, fo_Main_26⟩ sh_0 (by decide) (rf_0_2 ld) ?_
      refine g_iload_n (pc1 := 114) d_Main_guest_113 rfl 1 rfl ?_
      refine g_iload_n (pc1 := 115) d_Main_guest_114 rfl 2 rfl ?_
      refine g_iconst (pc1 := 116) (v := 3) d_Main_guest_115 rfl (by decide) ?_
      refine g_isub (pc1 := 117) d_Main_guest_116 rfl ?_
      refine g_iconst (pc1 := 118) (v := 0) d_Main_guest_117 rfl (by decide) ?_
      refine g_callV0 (pc1 := 121) (As := [.ref ld, .int p1, .int (p2 - 3), .int 0]) (rest := []) d_Main_guest_118 rfl mo_Main_173 mi_State_boundOf mv_State_boundOf rfl (shSt_0 isSt_64) (ltSt_0 isSt_64) (by decide) rfl rfl (Nat.le_of_ble_eq_true rfl) ?_
      refine t1_State_boundOf hld 64 isSt_64 ld hld _ _ _ (fun r2069 M2070 L2071 k2072 => ?_)
      refine g_ireturn (Or.inl rfl) d_Main_guest_121 rfl ?_
      exact hQ _ _ _ (Kp.trans Kp.rf k2072)
    by_cases h2073 : p2 = 5
    · refine g_tabK (tgt := 105) (off := 88) d_Main_guest_17 h2073 (by decide) (by decide) (by decide) (by decide) ?_
      refine g_aload_n (pc1 := 106) d_Main_guest_105 rfl 0 rfl ?_
      refine g_getr (pc1 := 109) d_Main_guest_106 rfl ⟨_, fo_Main_36⟩ sh_0 (by decide) (rf_0_4 ld) ?_
      refine g_aload_n (pc1 := 110) d_Main_guest_109 rfl 0 rfl ?_
      refine g_getr (pc1 := 113) d_Main_guest_110 rfl ⟨_, fo_Main_26⟩ sh_0 (by decide) (rf_0_2 ld) ?_
      refine g_iload_n (pc1 := 114) d_Main_guest_113 rfl 1 rfl ?_
      refine g_iload_n (pc1 := 115) d_Main_guest_114 rfl 2 rfl ?_
      refine g_iconst (pc1 := 116) (v := 3) d_Main_guest_115 rfl (by decide) ?_
      refine g_isub (pc1 := 117) d_Main_guest_116 rfl ?_
      refine g_iconst (pc1 := 118) (v := 0) d_Main_guest_117 rfl (by decide) ?_
      refine g_callV0 (pc1 := 121) (As := [.ref ld, .int p1, .int (p2 - 3), .int 0]) (rest := []) d_Main_guest_118 rfl mo_Main_173 mi_State_boundOf mv_State_boundOf rfl (shSt_0 isSt_64) (ltSt_0 isSt_64) (by decide) rfl rfl (Nat.le_of_ble_eq_true rfl) ?_
      refine t1_State_boundOf hld 64 isSt_64 ld hld _ _ _ (fun r2074 M2075 L2076 k2077 => ?_)
      refine g_ireturn (Or.inl rfl) d_Main_guest_121 rfl ?_
      exact hQ _ _ _ (Kp.trans Kp.rf k2077)
    refine g_tabOut (tgt := 122) d_Main_guest_17 (by
      have nh2055 := neT (a := 0) h2055 (by decide)
      have nh2057 := neT (a := 1) h2057 (by decide)
      have nh2061 := neT (a := 2) h2061 (by decide)
      have nh2063 := neT (a := 3) h2063 (by decide)
      have nh2068 := neT (a := 4) h2068 (by decide)
      have nh2073 := neT (a := 5) h2073 (by decide)
      omega) (by decide) ?_
    refine g_iconst (pc1 := 123) (v := (-1)) d_Main_guest_122 rfl (by decide) ?_
    refine g_ireturn (Or.inl rfl) d_Main_guest_123 rfl ?_
    exact hQ _ _ _ Kp.rf
  · refine g_iconst (pc1 := 15) (v := (-1)) d_Main_guest_14 rfl (by decide) ?_
    refine g_ireturn (Or.inl rfl) d_Main_guest_15 rfl ?_
    exact hQ _ _ _ Kp.rf
set_option maxHeartbeats 4000000 in
set_option maxRecDepth 20000 in
theorem t1_Main_hunger {l : Launch} {ld : Nat} (hld : isLa ld) {M : gM} {L : gL} {Q : Option Value → gM → gL → gR → Prop} (p1 : Int32) (p2 : Int32) (hQ : ∀ (r : Int32) (M' : gM) (L' : gL), Kp S0 M L M' L' → Q (some (.int r)) M' L' (rf ld)) : Tm l y_Main_hunger (0, 0, 447) 447 [.ref 0, .int p1, .int p2] M L (rf ld) Q := by
  refine Tm.of (by decide) (Nat.le_of_ble_eq_true rfl) ?_
  show Wp l y_Main_hunger (0, 0, 447) 447 0 0 0 [(0, .ref 0), (1, .int p1), (2, .int p2)] [] M L (rf ld) Q
  refine g_iload_n (pc1 := 1) d_Main_hunger_0 rfl 1 rfl ?_
  refine g_aload_n (pc1 := 2) d_Main_hunger_1 rfl 0 rfl ?_
  refine g_getr (pc1 := 5) d_Main_hunger_2 rfl ⟨_, fo_Main_26⟩ sh_0 (by decide) (rf_0_2 ld) ?_
  refine g_geti (pc1 := 8) d_Main_hunger_5 rfl ⟨_, fo_Main_157⟩ (shLa_0 hld) (ltLa_0 hld) ?_
  refine g_callS0 (pc1 := 11) (As := [.int p1, .int (M ld 2)]) (rest := []) d_Main_hunger_8 rfl mo_Main_112 ms_Main_isOne (by decide) rfl rfl (Nat.le_of_ble_eq_true rfl) ?_
  refine t1_Main_isOne hld _ _ (fun r2078 hr2078 => ?_)
  refine g_if_eq (pc1 := 14) (tgt := 28) d_Main_hunger_11 (by decide) rfl (fun h2079 => ?_) (fun h2079 => ?_)
  · refine g_iconst (pc1 := 29) (v := (-1)) d_Main_hunger_28 rfl (by decide) ?_
    refine g_ireturn (Or.inl rfl) d_Main_hunger_29 rfl ?_
    exact hQ _ _ _ Kp.rf
  · refine g_iload_n (pc1 := 15) d_Main_hunger_14 rfl 2 rfl ?_
    refine g_aload_n (pc1 := 16) d_Main_hunger_15 rfl 0 rfl ?_
    refine g_getr (pc1 := 19) d_Main_hunger_16 rfl ⟨_, fo_Main_26⟩ sh_0 (by decide) (rf_0_2 ld) ?_
    refine g_geti (pc1 := 22) d_Main_hunger_19 rfl ⟨_, fo_Main_177⟩ (shLa_0 hld) (ltLa_0 hld) ?_
    refine g_callS0 (pc1 := 25) (As := [.int p2, .int (M ld 3)]) (rest := []) d_Main_hunger_22 rfl mo_Main_112 ms_Main_isOne (by decide) rfl rfl (Nat.le_of_ble_eq_true rfl) ?_
    refine t1_Main_isOne hld _ _ (fun r2080 hr2080 => ?_)
    refine g_if_ne (pc1 := 28) (tgt := 30) d_Main_hunger_25 (by decide) rfl (fun h2081 => ?_) (fun h2081 => ?_)
    · refine g_aload_n (pc1 := 31) d_Main_hunger_30 rfl 0 rfl ?_
      refine g_getr (pc1 := 34) d_Main_hunger_31 rfl ⟨_, fo_Main_26⟩ sh_0 (by decide) (rf_0_2 ld) ?_
      refine g_getr (pc1 := 37) d_Main_hunger_34 rfl ⟨_, fo_Main_180⟩ (shLa_0 hld) (ltLa_0 hld) (rfLa_11 ld hld) ?_
      refine g_iload_n (pc1 := 38) d_Main_hunger_37 rfl 2 rfl ?_
      refine g_callS0 (pc1 := 41) (As := [.ref (ld + 7), .int p2]) (rest := []) d_Main_hunger_38 rfl mo_Main_120 ms_Main_at (by decide) rfl rfl (Nat.le_of_ble_eq_true rfl) ?_
      refine t1_Main_at hld (ld + 7) (shLa_7 hld) (ltLa_7 hld) (by decide) _ (fun r2082 => ?_)
      refine g_istore_n (pc1 := 42) (lv' := [(0, .ref 0), (1, .int p1), (2, .int p2), (3, .int r2082)]) d_Main_hunger_41 rfl rfl (by decide) [1, 2, 3, 0] rfl ?_
      refine g_iconst (pc1 := 43) (v := 0) d_Main_hunger_42 rfl (by decide) ?_
      refine g_istore (pc1 := 45) (lv' := [(0, .ref 0), (1, .int p1), (2, .int p2), (3, .int r2082), (4, .int 0)]) d_Main_hunger_43 rfl (by decide) [1, 2, 3, 4, 0] rfl ?_
      have LP2086 : ∀ (f2083 : Nat) (v2087 : Int32) (M2088 : gM) (L2089 : gL), Kp S0 M L M2088 L2089 → ¬ v2087 < 0 → ((99 : Int32).toInt + 1 - v2087.toInt).toNat < f2083 → Wp l y_Main_hunger (0, 0, 447) 447 0 0 45 [(0, .ref 0), (1, .int p1), (2, .int p2), (3, .int r2082), (4, .int v2087)] [] M2088 L2089 (rf ld) Q := by
        intro f2083
        induction f2083 with
        | zero => intro v2087 M2088 L2089 _ _ hm2085; exact absurd hm2085 (Nat.not_lt_zero _)
        | succ f2083 ih2084 =>
          intro v2087 M2088 L2089 k2090 n2091 hm2085
          refine g_iload (pc1 := 47) d_Main_hunger_45 rfl 4 rfl ?_
          refine g_bipush (pc1 := 49) (v := 99) d_Main_hunger_47 rfl (by decide) ?_
          refine g_icmp_gt (pc1 := 52) (tgt := 90) d_Main_hunger_49 (by decide) rfl (fun h2092 => ?_) (fun h2092 => ?_)
          · refine g_bipush (pc1 := 92) (v := (-2)) d_Main_hunger_90 rfl (by decide) ?_
            refine g_ireturn (Or.inl rfl) d_Main_hunger_92 rfl ?_
            exact hQ _ _ _ k2090
          · refine g_aload_n (pc1 := 53) d_Main_hunger_52 rfl 0 rfl ?_
            refine g_getr (pc1 := 56) d_Main_hunger_53 rfl ⟨_, fo_Main_36⟩ sh_0 (by decide) (rf_0_4 ld) ?_
            refine g_aload_n (pc1 := 57) d_Main_hunger_56 rfl 0 rfl ?_
            refine g_getr (pc1 := 60) d_Main_hunger_57 rfl ⟨_, fo_Main_26⟩ sh_0 (by decide) (rf_0_2 ld) ?_
            refine g_iload_n (pc1 := 61) d_Main_hunger_60 rfl 1 rfl ?_
            refine g_iload_n (pc1 := 62) d_Main_hunger_61 rfl 3 rfl ?_
            refine g_iload (pc1 := 64) d_Main_hunger_62 rfl 4 rfl ?_
            refine g_callV0 (pc1 := 67) (As := [.ref ld, .int p1, .int r2082, .int v2087]) (rest := []) d_Main_hunger_64 rfl mo_Main_173 mi_State_boundOf mv_State_boundOf rfl (shSt_0 isSt_64) (ltSt_0 isSt_64) (by decide) rfl rfl (Nat.le_of_ble_eq_true rfl) ?_
            refine t1_State_boundOf hld 64 isSt_64 ld hld _ _ _ (fun r2093 M2094 L2095 k2096 => ?_)
            refine g_aload_n (pc1 := 68) d_Main_hunger_67 rfl 0 rfl ?_
            refine g_getr (pc1 := 71) d_Main_hunger_68 rfl ⟨_, fo_Main_26⟩ sh_0 (by decide) (rf_0_2 ld) ?_
            refine g_getr (pc1 := 74) d_Main_hunger_71 rfl ⟨_, fo_Main_183⟩ (shLa_0 hld) (ltLa_0 hld) (rfLa_12 ld hld) ?_
            refine g_iload_n (pc1 := 75) d_Main_hunger_74 rfl 2 rfl ?_
            refine g_callS0 (pc1 := 78) (As := [.ref (ld + 8), .int p2]) (rest := [.int r2093]) d_Main_hunger_75 rfl mo_Main_120 ms_Main_at (by decide) rfl rfl (Nat.le_of_ble_eq_true rfl) ?_
            refine t1_Main_at hld (ld + 8) (shLa_8 hld) (ltLa_8 hld) (by decide) _ (fun r2097 => ?_)
            refine g_icmp_ge (pc1 := 81) (tgt := 84) d_Main_hunger_78 (by decide) rfl (fun h2098 => ?_) (fun h2098 => ?_)
            · obtain ⟨x2099, ex2099⟩ : ∃ y : Int32, y = v2087 + 1 := ⟨_, rfl⟩
              refine g_iinc (pc1 := 87) (v := x2099) (lv' := [(0, .ref 0), (1, .int p1), (2, .int p2), (3, .int r2082), (4, .int x2099)]) d_Main_hunger_84 rfl 4 rfl (by rw [ex2099]; rfl) (by decide) [1, 2, 3, 4, 0] rfl ?_
              refine g_goto (tgt := 45) d_Main_hunger_87 (by decide) ?_
              exact ih2084 x2099 M2094 L2095 (Kp.trans k2090 k2096) (nn_upe (y := (99 : Int32)) h2092 (by decide) ex2099 n2091) (md_upe h2092 (by decide) ex2099 hm2085)
            · refine g_iload (pc1 := 83) d_Main_hunger_81 rfl 4 rfl ?_
              refine g_ireturn (Or.inl rfl) d_Main_hunger_83 rfl ?_
              exact hQ _ _ _ (Kp.trans k2090 k2096)
      exact LP2086 _ 0 M L Kp.rf (by decide) (Nat.lt_succ_self _)
    · refine g_iconst (pc1 := 29) (v := (-1)) d_Main_hunger_28 rfl (by decide) ?_
      refine g_ireturn (Or.inl rfl) d_Main_hunger_29 rfl ?_
      exact hQ _ _ _ Kp.rf
set_option maxHeartbeats 4000000 in
set_option maxRecDepth 20000 in
theorem t1_Main_stockIn {l : Launch} {ld : Nat} (hld : isLa ld) {M : gM} {L : gL} {Q : Option Value → gM → gL → gR → Prop} (p1 : Int32) (p2 : Int32) (hQ : ∀ (r : Int32) (M' : gM) (L' : gL), Kp S1 M L M' L' → Q (some (.int r)) M' L' (rf ld)) : Tm l y_Main_stockIn (0, 0, 447) 447 [.ref 0, .int p1, .int p2] M L (rf ld) Q := by
  refine Tm.of (by decide) (Nat.le_of_ble_eq_true rfl) ?_
  show Wp l y_Main_stockIn (0, 0, 447) 447 0 0 0 [(0, .ref 0), (1, .int p1), (2, .int p2)] [] M L (rf ld) Q
  refine g_iload_n (pc1 := 1) d_Main_stockIn_0 rfl 1 rfl ?_
  refine g_aload_n (pc1 := 2) d_Main_stockIn_1 rfl 0 rfl ?_
  refine g_getr (pc1 := 5) d_Main_stockIn_2 rfl ⟨_, fo_Main_26⟩ sh_0 (by decide) (rf_0_2 ld) ?_
  refine g_geti (pc1 := 8) d_Main_stockIn_5 rfl ⟨_, fo_Main_109⟩ (shLa_0 hld) (ltLa_0 hld) ?_
  refine g_callS0 (pc1 := 11) (As := [.int p1, .int (M ld 0)]) (rest := []) d_Main_stockIn_8 rfl mo_Main_112 ms_Main_isOne (by decide) rfl rfl (Nat.le_of_ble_eq_true rfl) ?_
  refine t1_Main_isOne hld _ _ (fun r2100 hr2100 => ?_)
  refine g_if_eq (pc1 := 14) (tgt := 24) d_Main_stockIn_11 (by decide) rfl (fun h2101 => ?_) (fun h2101 => ?_)
  · refine g_iconst (pc1 := 25) (v := (-1)) d_Main_stockIn_24 rfl (by decide) ?_
    refine g_ireturn (Or.inl rfl) d_Main_stockIn_25 rfl ?_
    exact hQ _ _ _ Kp.rf
  · refine g_iload_n (pc1 := 15) d_Main_stockIn_14 rfl 2 rfl ?_
    refine g_if_lt (pc1 := 18) (tgt := 24) d_Main_stockIn_15 (by decide) rfl (fun h2102 => ?_) (fun h2102 => ?_)
    · refine g_iconst (pc1 := 25) (v := (-1)) d_Main_stockIn_24 rfl (by decide) ?_
      refine g_ireturn (Or.inl rfl) d_Main_stockIn_25 rfl ?_
      exact hQ _ _ _ Kp.rf
    · refine g_iload_n (pc1 := 19) d_Main_stockIn_18 rfl 2 rfl ?_
      refine g_bipush (pc1 := 21) (v := 60) d_Main_stockIn_19 rfl (by decide) ?_
      refine g_icmp_le (pc1 := 24) (tgt := 26) d_Main_stockIn_21 (by decide) rfl (fun h2103 => ?_) (fun h2103 => ?_)
      · refine g_aload_n (pc1 := 27) d_Main_stockIn_26 rfl 0 rfl ?_
        refine g_getr (pc1 := 30) d_Main_stockIn_27 rfl ⟨_, fo_Main_40⟩ sh_0 (by decide) (rf_0_5 ld) ?_
        refine g_aload_n (pc1 := 31) d_Main_stockIn_30 rfl 0 rfl ?_
        refine g_getr (pc1 := 34) d_Main_stockIn_31 rfl ⟨_, fo_Main_36⟩ sh_0 (by decide) (rf_0_4 ld) ?_
        refine g_callV0 (pc1 := 37) (As := [.ref 64]) (rest := []) d_Main_stockIn_34 rfl mo_Main_262 mi_State_copyFrom mv_State_copyFrom rfl (shSt_0 isSt_71) (ltSt_0 isSt_71) (by decide) rfl rfl (Nat.le_of_ble_eq_true rfl) ?_
        refine t1_State_copyFrom hld 71 isSt_71 64 isSt_64 (fun  M2104 L2105 k2106 => ?_)
        refine g_aload_n (pc1 := 38) d_Main_stockIn_37 rfl 0 rfl ?_
        refine g_getr (pc1 := 41) d_Main_stockIn_38 rfl ⟨_, fo_Main_40⟩ sh_0 (by decide) (rf_0_5 ld) ?_
        refine g_aload_n (pc1 := 42) d_Main_stockIn_41 rfl 0 rfl ?_
        refine g_getr (pc1 := 45) d_Main_stockIn_42 rfl ⟨_, fo_Main_26⟩ sh_0 (by decide) (rf_0_2 ld) ?_
        refine g_iload_n (pc1 := 46) d_Main_stockIn_45 rfl 2 rfl ?_
        refine g_callV0 (pc1 := 49) (As := [.ref ld, .int p2]) (rest := []) d_Main_stockIn_46 rfl mo_Main_214 mi_State_passDays mv_State_passDays rfl (shSt_0 isSt_71) (ltSt_0 isSt_71) (by decide) rfl rfl (Nat.le_of_ble_eq_true rfl) ?_
        refine t1_State_passDays hld 71 isSt_71 ld hld _ (fun  M2107 L2108 k2109 => ?_)
        refine g_aload_n (pc1 := 50) d_Main_stockIn_49 rfl 0 rfl ?_
        refine g_getr (pc1 := 53) d_Main_stockIn_50 rfl ⟨_, fo_Main_40⟩ sh_0 (by decide) (rf_0_5 ld) ?_
        refine g_getr (pc1 := 56) d_Main_stockIn_53 rfl ⟨_, fo_Main_116⟩ (shSt_0 isSt_71) (ltSt_0 isSt_71) (rfSt_5 ld isSt_71) ?_
        refine g_iload_n (pc1 := 57) d_Main_stockIn_56 rfl 1 rfl ?_
        refine g_callS0 (pc1 := 60) (As := [.ref (71 + 2), .int p1]) (rest := []) d_Main_stockIn_57 rfl mo_Main_120 ms_Main_at (by decide) rfl rfl (Nat.le_of_ble_eq_true rfl) ?_
        refine t1_Main_at hld (71 + 2) (shSt_2 isSt_71) (ltSt_2 isSt_71) (by decide) _ (fun r2110 => ?_)
        refine g_ireturn (Or.inl rfl) d_Main_stockIn_60 rfl ?_
        exact hQ _ _ _ (Kp.trans (Kp.trans Kp.rf k2106) k2109)
      · refine g_iconst (pc1 := 25) (v := (-1)) d_Main_stockIn_24 rfl (by decide) ?_
        refine g_ireturn (Or.inl rfl) d_Main_stockIn_25 rfl ?_
        exact hQ _ _ _ Kp.rf
set_option maxHeartbeats 4000000 in
set_option maxRecDepth 20000 in
theorem t1_Land_freeByDish {l : Launch} {ld : Nat} (hld : isLa ld) {M : gM} {L : gL} {Q : Option Value → gM → gL → gR → Prop} (Ld0 : Nat) (hLd0 : isLa Ld0) (p1 : Int32) (p2 : Int32) (p3 : Int32) (p4 : Int32) (hQ : ∀ (r : Int32) (M' : gM) (L' : gL), Kp S0 M L M' L' → Q (some (.int r)) M' L' (rf ld)) : Tm l y_Land_freeByDish (0, 0, 447) 447 [.ref Ld0, .int p1, .int p2, .int p3, .int p4] M L (rf ld) Q := by
  refine Tm.of (by decide) (Nat.le_of_ble_eq_true rfl) ?_
  show Wp l y_Land_freeByDish (0, 0, 447) 447 0 0 0 [(0, .ref Ld0), (1, .int p1), (2, .int p2), (3, .int p3), (4, .int p4)] [] M L (rf ld) Q
  refine g_iconst (pc1 := 1) (v := 0) d_Land_freeByDish_0 rfl (by decide) ?_
  refine g_istore (pc1 := 3) (lv' := [(0, .ref Ld0), (1, .int p1), (2, .int p2), (3, .int p3), (4, .int p4), (5, .int 0)]) d_Land_freeByDish_1 rfl (by decide) [1, 2, 3, 4, 5, 0] rfl ?_
  have LP2114 : ∀ (f2111 : Nat) (v2115 : Int32) (M2116 : gM) (L2117 : gL), Kp S0 M L M2116 L2117 → ¬ v2115 < 0 → ((3 : Int32).toInt - v2115.toInt).toNat < f2111 → Wp l y_Land_freeByDish (0, 0, 447) 447 0 0 3 [(0, .ref Ld0), (1, .int p1), (2, .int p2), (3, .int p3), (4, .int p4), (5, .int v2115)] [] M2116 L2117 (rf ld) Q := by
    intro f2111
    induction f2111 with
    | zero => intro v2115 M2116 L2117 _ _ hm2113; exact absurd hm2113 (Nat.not_lt_zero _)
    | succ f2111 ih2112 =>
      intro v2115 M2116 L2117 k2118 n2119 hm2113
      refine g_iload (pc1 := 5) d_Land_freeByDish_3 rfl 5 rfl ?_
      refine g_iconst (pc1 := 6) (v := 3) d_Land_freeByDish_5 rfl (by decide) ?_
      refine g_icmp_ge (pc1 := 9) (tgt := 34) d_Land_freeByDish_6 (by decide) rfl (fun h2120 => ?_) (fun h2120 => ?_)
      · refine g_iconst (pc1 := 35) (v := 0) d_Land_freeByDish_34 rfl (by decide) ?_
        refine g_istore (pc1 := 37) (lv' := [(0, .ref Ld0), (1, .int p1), (2, .int p2), (3, .int p3), (4, .int p4), (5, .int 0)]) d_Land_freeByDish_35 rfl (by decide) [1, 2, 3, 4, 5, 0] rfl ?_
        refine g_iconst (pc1 := 38) (v := 0) d_Land_freeByDish_37 rfl (by decide) ?_
        refine g_istore (pc1 := 40) (lv' := [(0, .ref Ld0), (1, .int p1), (2, .int p2), (3, .int p3), (4, .int p4), (5, .int 0), (6, .int 0)]) d_Land_freeByDish_38 rfl (by decide) [1, 2, 3, 4, 5, 6, 0] rfl ?_
        have LP2124 : ∀ (f2121 : Nat) (v2125 : Int32) (v2126 : Int32) (M2127 : gM) (L2128 : gL), Kp S0 M L M2127 L2128 → ¬ v2126 < 0 → ((3 : Int32).toInt - v2126.toInt).toNat < f2121 → Wp l y_Land_freeByDish (0, 0, 447) 447 0 0 40 [(0, .ref Ld0), (1, .int p1), (2, .int p2), (3, .int p3), (4, .int p4), (5, .int v2125), (6, .int v2126)] [] M2127 L2128 (rf ld) Q := by
          intro f2121
          induction f2121 with
          | zero => intro v2125 v2126 M2127 L2128 _ _ hm2123; exact absurd hm2123 (Nat.not_lt_zero _)
          | succ f2121 ih2122 =>
            intro v2125 v2126 M2127 L2128 k2129 n2130 hm2123
            refine g_iload (pc1 := 42) d_Land_freeByDish_40 rfl 6 rfl ?_
            refine g_iconst (pc1 := 43) (v := 3) d_Land_freeByDish_42 rfl (by decide) ?_
            refine g_icmp_ge (pc1 := 46) (tgt := 85) d_Land_freeByDish_43 (by decide) rfl (fun h2131 => ?_) (fun h2131 => ?_)
            · refine g_iload (pc1 := 87) d_Land_freeByDish_85 rfl 5 rfl ?_
              refine g_ireturn (Or.inl rfl) d_Land_freeByDish_87 rfl ?_
              exact hQ _ _ _ k2129
            · refine g_iload (pc1 := 48) d_Land_freeByDish_46 rfl 5 rfl ?_
              refine g_aload_n (pc1 := 49) d_Land_freeByDish_48 rfl 0 rfl ?_
              refine g_iload (pc1 := 51) d_Land_freeByDish_49 rfl 6 rfl ?_
              refine g_aload_n (pc1 := 52) d_Land_freeByDish_51 rfl 0 rfl ?_
              refine g_iload_n (pc1 := 53) d_Land_freeByDish_52 rfl 1 rfl ?_
              refine g_iload (pc1 := 55) d_Land_freeByDish_53 rfl 6 rfl ?_
              refine g_aload_n (pc1 := 56) d_Land_freeByDish_55 rfl 0 rfl ?_
              refine g_getr (pc1 := 59) d_Land_freeByDish_56 rfl ⟨_, fo_Land_52⟩ (shLa_0 hLd0) (ltLa_0 hLd0) (rfLa_17 ld hLd0) ?_
              refine g_iload (pc1 := 61) d_Land_freeByDish_59 rfl 6 rfl ?_
              refine g_callS0 (pc1 := 64) (As := [.ref (Ld0 + 25), .int v2126]) (rest := [.int v2126, .int p1, .ref Ld0, .int v2126, .ref Ld0, .int v2125]) d_Land_freeByDish_61 rfl mo_Land_78 ms_Main_at (by decide) rfl rfl (Nat.le_of_ble_eq_true rfl) ?_
              refine t1_Main_at hld (Ld0 + 25) (shLa_25 hLd0) (ltLa_25 hLd0) (by decide) _ (fun r2132 => ?_)
              refine g_iload (pc1 := 66) d_Land_freeByDish_64 rfl 4 rfl ?_
              refine g_iload_n (pc1 := 67) d_Land_freeByDish_66 rfl 3 rfl ?_
              refine g_iload (pc1 := 69) d_Land_freeByDish_67 rfl 4 rfl ?_
              refine g_iadd (pc1 := 70) d_Land_freeByDish_69 rfl ?_
              refine g_callV0 (pc1 := 73) (As := [.int p1, .int v2126, .int r2132, .int p4, .int (p3 + p4)]) (rest := [.int v2126, .ref Ld0, .int v2125]) d_Land_freeByDish_70 rfl mo_Land_124 mi_Land_boundBy mv_Land_boundBy rfl (shLa_0 hLd0) (ltLa_0 hLd0) (by decide) rfl rfl (Nat.le_of_ble_eq_true rfl) ?_
              refine t1_Land_boundBy hld Ld0 hLd0 _ _ _ _ _ (fun r2133 M2134 L2135 k2136 => ?_)
              refine g_callV0 (pc1 := 76) (As := [.int v2126, .int r2133]) (rest := [.int v2125]) d_Land_freeByDish_73 rfl mo_Land_127 mi_Land_freeUnder mv_Land_freeUnder rfl (shLa_0 hLd0) (ltLa_0 hLd0) (by decide) rfl rfl (Nat.le_of_ble_eq_true rfl) ?_
              refine t1_Land_freeUnder hld Ld0 hLd0 _ _ (fun r2137 => ?_)
              refine g_ior (pc1 := 77) d_Land_freeByDish_76 rfl ?_
              refine Wp.topi (fun x2138 ex2138 => ?_)
              refine g_istore (pc1 := 79) (lv' := [(0, .ref Ld0), (1, .int p1), (2, .int p2), (3, .int p3), (4, .int p4), (5, .int x2138), (6, .int v2126)]) d_Land_freeByDish_77 rfl (by decide) [1, 2, 3, 4, 5, 0, 6] rfl ?_
              obtain ⟨x2139, ex2139⟩ : ∃ y : Int32, y = v2126 + 1 := ⟨_, rfl⟩
              refine g_iinc (pc1 := 82) (v := x2139) (lv' := [(0, .ref Ld0), (1, .int p1), (2, .int p2), (3, .int p3), (4, .int p4), (5, .int x2138), (6, .int x2139)]) d_Land_freeByDish_79 rfl 6 rfl (by rw [ex2139]; rfl) (by decide) [1, 2, 3, 4, 5, 6, 0] rfl ?_
              refine g_goto (tgt := 40) d_Land_freeByDish_82 (by decide) ?_
              exact ih2122 x2138 x2139 M2134 L2135 (Kp.trans k2129 k2136) (nn_up (y := (3 : Int32)) h2131 ex2139 n2130) (md_up h2131 ex2139 hm2123)
        exact LP2124 _ 0 0 M2116 L2117 k2118 (by decide) (Nat.lt_succ_self _)
      · refine g_aload_n (pc1 := 10) d_Land_freeByDish_9 rfl 0 rfl ?_
        refine g_getr (pc1 := 13) d_Land_freeByDish_10 rfl ⟨_, fo_Land_52⟩ (shLa_0 hLd0) (ltLa_0 hLd0) (rfLa_17 ld hLd0) ?_
        refine g_iload (pc1 := 15) d_Land_freeByDish_13 rfl 5 rfl ?_
        refine g_aload_n (pc1 := 16) d_Land_freeByDish_15 rfl 0 rfl ?_
        refine g_iload_n (pc1 := 17) d_Land_freeByDish_16 rfl 2 rfl ?_
        refine g_bipush (pc1 := 19) (v := (-2)) d_Land_freeByDish_17 rfl (by decide) ?_
        refine g_iload (pc1 := 21) d_Land_freeByDish_19 rfl 5 rfl ?_
        refine g_iload_n (pc1 := 22) d_Land_freeByDish_21 rfl 3 rfl ?_
        refine g_callV0 (pc1 := 25) (As := [.int p2, .int (-2), .int v2115, .int p3]) (rest := [.int v2115, .ref (Ld0 + 25)]) d_Land_freeByDish_22 rfl mo_Land_116 mi_Land_dishForce mv_Land_dishForce rfl (shLa_0 hLd0) (ltLa_0 hLd0) (by decide) rfl rfl (Nat.le_of_ble_eq_true rfl) ?_
        refine t1_Land_dishForce hld Ld0 hLd0 _ _ _ _ (fun r2140 M2141 L2142 k2143 => ?_)
        refine g_callS0 (pc1 := 28) (As := [.ref (Ld0 + 25), .int v2115, .int r2140]) (rest := []) d_Land_freeByDish_25 rfl mo_Land_120 ms_Main_put (by decide) rfl rfl (Nat.le_of_ble_eq_true rfl) ?_
        refine t1_Main_put hld (Ld0 + 25) (shLa_25 hLd0) (ltLa_25 hLd0) (by decide) _ _ (fun  M2144 L2145 k2146 => ?_)
        obtain ⟨x2147, ex2147⟩ : ∃ y : Int32, y = v2115 + 1 := ⟨_, rfl⟩
        refine g_iinc (pc1 := 31) (v := x2147) (lv' := [(0, .ref Ld0), (1, .int p1), (2, .int p2), (3, .int p3), (4, .int p4), (5, .int x2147)]) d_Land_freeByDish_28 rfl 5 rfl (by rw [ex2147]; rfl) (by decide) [1, 2, 3, 4, 5, 0] rfl ?_
        refine g_goto (tgt := 3) d_Land_freeByDish_31 (by decide) ?_
        exact ih2112 x2147 M2144 L2145 (Kp.trans (Kp.trans k2118 k2143) (Kp.mono k2146 (one_S (S0_La_25 hLd0)))) (nn_up (y := (3 : Int32)) h2120 ex2147 n2119) (md_up h2120 ex2147 hm2113)
  exact LP2114 _ 0 M L Kp.rf (by decide) (Nat.lt_succ_self _)
set_option maxHeartbeats 4000000 in
set_option maxRecDepth 20000 in
theorem t1_PotSearch_tryHeats {l : Launch} {ld : Nat} (hld : isLa ld) {M : gM} {L : gL} {Q : Option Value → gM → gL → gR → Prop} (Ld1 : Nat) (hLd1 : isLa Ld1) (p2 : Int32) (hQ : ∀ (M' : gM) (L' : gL), Kp S1 M L M' L' → Q none M' L' (rf ld)) : Tm l y_PotSearch_tryHeats (0, 0, 447) 447 [.ref 391, .ref Ld1, .int p2] M L (rf ld) Q := by
  refine Tm.of (by decide) (Nat.le_of_ble_eq_true rfl) ?_
  show Wp l y_PotSearch_tryHeats (0, 0, 447) 447 0 0 0 [(0, .ref 391), (1, .ref Ld1), (2, .int p2)] [] M L (rf ld) Q
  refine g_aload_n (pc1 := 1) d_PotSearch_tryHeats_0 rfl 0 rfl ?_
  refine g_getz (pc1 := 4) d_PotSearch_tryHeats_1 rfl ⟨_, fo_PotSearch_28⟩ sh_391 (by decide) ?_
  refine g_if_eq (pc1 := 7) (tgt := 41) d_PotSearch_tryHeats_4 (by decide) rfl (fun h2148 => ?_) (fun h2148 => ?_)
  · refine g_aload_n (pc1 := 42) d_PotSearch_tryHeats_41 rfl 0 rfl ?_
    refine g_getz (pc1 := 45) d_PotSearch_tryHeats_42 rfl ⟨_, fo_PotSearch_28⟩ sh_391 (by decide) ?_
    refine g_if_eq (pc1 := 48) (tgt := 74) d_PotSearch_tryHeats_45 (by decide) rfl (fun h2149 => ?_) (fun h2149 => ?_)
    · refine g_iconst (pc1 := 75) (v := 0) d_PotSearch_tryHeats_74 rfl (by decide) ?_
      refine g_istore_n (pc1 := 76) (lv' := [(0, .ref 391), (1, .ref Ld1), (2, .int p2), (3, .int 0)]) d_PotSearch_tryHeats_75 rfl rfl (by decide) [1, 2, 3, 0] rfl ?_
      refine g_iload_n (pc1 := 77) d_PotSearch_tryHeats_76 rfl 3 rfl ?_
      refine g_if_eq (pc1 := 80) (tgt := 94) d_PotSearch_tryHeats_77 (by decide) rfl (fun h2150 => ?_) (fun h2150 => ?_)
      · refine g_aload_n (pc1 := 95) d_PotSearch_tryHeats_94 rfl 0 rfl ?_
        refine g_geti (pc1 := 98) d_PotSearch_tryHeats_95 rfl ⟨_, fo_PotSearch_44⟩ sh_391 (by decide) ?_
        refine Wp.topi (fun x2151 ex2151 => ?_)
        refine g_istore (pc1 := 100) (lv' := [(0, .ref 391), (1, .ref Ld1), (2, .int p2), (3, .int 0), (4, .int x2151)]) d_PotSearch_tryHeats_98 rfl (by decide) [1, 2, 3, 4, 0] rfl ?_
        refine g_iconst (pc1 := 101) (v := 0) d_PotSearch_tryHeats_100 rfl (by decide) ?_
        refine g_istore (pc1 := 103) (lv' := [(0, .ref 391), (1, .ref Ld1), (2, .int p2), (3, .int 0), (4, .int x2151), (5, .int 0)]) d_PotSearch_tryHeats_101 rfl (by decide) [1, 2, 3, 4, 5, 0] rfl ?_
        have LP2155 : ∀ (f2152 : Nat) (v2156 : Int32) (M2157 : gM) (L2158 : gL), Kp S1 M L M2157 L2158 → ¬ v2156 < 0 → (x2151.toInt - v2156.toInt).toNat < f2152 → Wp l y_PotSearch_tryHeats (0, 0, 447) 447 0 0 103 [(0, .ref 391), (1, .ref Ld1), (2, .int p2), (3, .int 0), (4, .int x2151), (5, .int v2156)] [] M2157 L2158 (rf ld) Q := by
          intro f2152
          induction f2152 with
          | zero => intro v2156 M2157 L2158 _ _ hm2154; exact absurd hm2154 (Nat.not_lt_zero _)
          | succ f2152 ih2153 =>
            intro v2156 M2157 L2158 k2159 n2160 hm2154
            refine g_iload (pc1 := 105) d_PotSearch_tryHeats_103 rfl 5 rfl ?_
            refine g_iload (pc1 := 107) d_PotSearch_tryHeats_105 rfl 4 rfl ?_
            refine g_icmp_ge (pc1 := 110) (tgt := 166) d_PotSearch_tryHeats_107 (by decide) rfl (fun h2161 => ?_) (fun h2161 => ?_)
            · refine g_return rfl d_PotSearch_tryHeats_166 rfl ?_
              exact hQ _ _ k2159
            · refine g_aload_n (pc1 := 111) d_PotSearch_tryHeats_110 rfl 0 rfl ?_
              refine g_aload_n (pc1 := 112) d_PotSearch_tryHeats_111 rfl 1 rfl ?_
              refine g_iload (pc1 := 114) d_PotSearch_tryHeats_112 rfl 5 rfl ?_
              refine g_iload_n (pc1 := 115) d_PotSearch_tryHeats_114 rfl 2 rfl ?_
              refine g_callV0 (pc1 := 118) (As := [.ref Ld1, .int v2156, .int p2]) (rest := []) d_PotSearch_tryHeats_115 rfl mo_PotSearch_106 mi_PotSearch_isEnough mv_PotSearch_isEnough rfl sh_391 (by decide) (by decide) rfl rfl (Nat.le_of_ble_eq_true rfl) ?_
              refine t1_PotSearch_isEnough hld Ld1 hLd1 _ _ (fun r2162 M2163 L2164 hr2162 k2165 => ?_)
              refine g_if_eq (pc1 := 121) (tgt := 160) d_PotSearch_tryHeats_118 (by decide) rfl (fun h2166 => ?_) (fun h2166 => ?_)
              · obtain ⟨x2167, ex2167⟩ : ∃ y : Int32, y = v2156 + 1 := ⟨_, rfl⟩
                refine g_iinc (pc1 := 163) (v := x2167) (lv' := [(0, .ref 391), (1, .ref Ld1), (2, .int p2), (3, .int 0), (4, .int x2151), (5, .int x2167)]) d_PotSearch_tryHeats_160 rfl 5 rfl (by rw [ex2167]; rfl) (by decide) [1, 2, 3, 4, 5, 0] rfl ?_
                refine g_goto (tgt := 103) d_PotSearch_tryHeats_163 (by decide) ?_
                exact ih2153 x2167 M2163 L2164 (Kp.trans k2159 (Kp.mono k2165 S0_S1)) (nn_up (y := x2151) h2161 ex2167 n2160) (md_up h2161 ex2167 hm2154)
              · refine g_aload_n (pc1 := 122) d_PotSearch_tryHeats_121 rfl 0 rfl ?_
                refine g_iconst (pc1 := 123) (v := 1) d_PotSearch_tryHeats_122 rfl (by decide) ?_
                refine g_putz (pc1 := 126) d_PotSearch_tryHeats_123 rfl fo_PotSearch_28 po_10_9_1 rfl sh_391 (by decide) ?_
                refine Wp.topM (fun M2168 eM2168 => ?_)
                refine g_aload_n (pc1 := 127) d_PotSearch_tryHeats_126 rfl 0 rfl ?_
                refine g_aload_n (pc1 := 128) d_PotSearch_tryHeats_127 rfl 0 rfl ?_
                refine g_geti (pc1 := 131) d_PotSearch_tryHeats_128 rfl ⟨_, fo_PotSearch_89⟩ sh_391 (by decide) ?_
                refine g_puti (pc1 := 134) d_PotSearch_tryHeats_131 rfl fo_PotSearch_97 (po_10_6 _) sh_391 (by decide) ?_
                refine Wp.topM (fun M2169 eM2169 => ?_)
                refine g_aload_n (pc1 := 135) d_PotSearch_tryHeats_134 rfl 0 rfl ?_
                refine g_aload_n (pc1 := 136) d_PotSearch_tryHeats_135 rfl 0 rfl ?_
                refine g_geti (pc1 := 139) d_PotSearch_tryHeats_136 rfl ⟨_, fo_PotSearch_56⟩ sh_391 (by decide) ?_
                refine g_puti (pc1 := 142) d_PotSearch_tryHeats_139 rfl fo_PotSearch_100 (po_10_7 _) sh_391 (by decide) ?_
                refine Wp.topM (fun M2170 eM2170 => ?_)
                refine g_aload_n (pc1 := 143) d_PotSearch_tryHeats_142 rfl 0 rfl ?_
                refine g_iload (pc1 := 145) d_PotSearch_tryHeats_143 rfl 5 rfl ?_
                refine g_puti (pc1 := 148) d_PotSearch_tryHeats_145 rfl fo_PotSearch_103 (po_10_8 _) sh_391 (by decide) ?_
                refine Wp.topM (fun M2171 eM2171 => ?_)
                refine g_aload_n (pc1 := 149) d_PotSearch_tryHeats_148 rfl 0 rfl ?_
                refine g_getr (pc1 := 152) d_PotSearch_tryHeats_149 rfl ⟨_, fo_PotSearch_15⟩ sh_391 (by decide) (rf_391_1 ld) ?_
                refine g_aload_n (pc1 := 153) d_PotSearch_tryHeats_152 rfl 0 rfl ?_
                refine g_getr (pc1 := 156) d_PotSearch_tryHeats_153 rfl ⟨_, fo_PotSearch_21⟩ sh_391 (by decide) (rf_391_5 ld) ?_
                refine g_callS0 (pc1 := 159) (As := [.ref 393, .ref 395]) (rest := []) d_PotSearch_tryHeats_156 rfl mo_PotSearch_110 ms_Main_copyRow (by decide) rfl rfl (Nat.le_of_ble_eq_true rfl) ?_
                refine t1_Main_copyRow hld 393 sh_393 (by decide) (by decide) 395 sh_395 (by decide) (by decide) (fun  M2172 L2173 k2174 => ?_)
                refine g_return rfl d_PotSearch_tryHeats_159 rfl ?_
                exact hQ _ _ (Kp.trans (Kp.wM (Kp.wM (Kp.wM (Kp.wM (Kp.trans k2159 (Kp.mono k2165 S0_S1)) rfl eM2168) rfl eM2169) rfl eM2170) rfl eM2171) (Kp.mono k2174 (one_S rfl)))
        exact LP2155 _ 0 M L Kp.rf (by decide) (Nat.lt_succ_self _)
      · refine g_aload_n (pc1 := 81) d_PotSearch_tryHeats_80 rfl 0 rfl ?_
        refine g_geti (pc1 := 84) d_PotSearch_tryHeats_81 rfl ⟨_, fo_PotSearch_103⟩ sh_391 (by decide) ?_
        refine g_aload_n (pc1 := 85) d_PotSearch_tryHeats_84 rfl 0 rfl ?_
        refine g_geti (pc1 := 88) d_PotSearch_tryHeats_85 rfl ⟨_, fo_PotSearch_44⟩ sh_391 (by decide) ?_
        refine g_mmin (pc1 := 91) d_PotSearch_tryHeats_88 rfl mm_PotSearch_79 (by decide) ⟨Nat.le_refl 0, Nat.le_refl 0⟩ (Nat.le_of_ble_eq_true rfl) ?_
        refine g_goto (tgt := 98) d_PotSearch_tryHeats_91 (by decide) ?_
        refine Wp.topi (fun x2175 ex2175 => ?_)
        refine g_istore (pc1 := 100) (lv' := [(0, .ref 391), (1, .ref Ld1), (2, .int p2), (3, .int 0), (4, .int x2175)]) d_PotSearch_tryHeats_98 rfl (by decide) [1, 2, 3, 4, 0] rfl ?_
        refine g_iconst (pc1 := 101) (v := 0) d_PotSearch_tryHeats_100 rfl (by decide) ?_
        refine g_istore (pc1 := 103) (lv' := [(0, .ref 391), (1, .ref Ld1), (2, .int p2), (3, .int 0), (4, .int x2175), (5, .int 0)]) d_PotSearch_tryHeats_101 rfl (by decide) [1, 2, 3, 4, 5, 0] rfl ?_
        have LP2179 : ∀ (f2176 : Nat) (v2180 : Int32) (M2181 : gM) (L2182 : gL), Kp S1 M L M2181 L2182 → ¬ v2180 < 0 → (x2175.toInt - v2180.toInt).toNat < f2176 → Wp l y_PotSearch_tryHeats (0, 0, 447) 447 0 0 103 [(0, .ref 391), (1, .ref Ld1), (2, .int p2), (3, .int 0), (4, .int x2175), (5, .int v2180)] [] M2181 L2182 (rf ld) Q := by
          intro f2176
          induction f2176 with
          | zero => intro v2180 M2181 L2182 _ _ hm2178; exact absurd hm2178 (Nat.not_lt_zero _)
          | succ f2176 ih2177 =>
            intro v2180 M2181 L2182 k2183 n2184 hm2178
            refine g_iload (pc1 := 105) d_PotSearch_tryHeats_103 rfl 5 rfl ?_
            refine g_iload (pc1 := 107) d_PotSearch_tryHeats_105 rfl 4 rfl ?_
            refine g_icmp_ge (pc1 := 110) (tgt := 166) d_PotSearch_tryHeats_107 (by decide) rfl (fun h2185 => ?_) (fun h2185 => ?_)
            · refine g_return rfl d_PotSearch_tryHeats_166 rfl ?_
              exact hQ _ _ k2183
            · refine g_aload_n (pc1 := 111) d_PotSearch_tryHeats_110 rfl 0 rfl ?_
              refine g_aload_n (pc1 := 112) d_PotSearch_tryHeats_111 rfl 1 rfl ?_
              refine g_iload (pc1 := 114) d_PotSearch_tryHeats_112 rfl 5 rfl ?_
              refine g_iload_n (pc1 := 115) d_PotSearch_tryHeats_114 rfl 2 rfl ?_
              refine g_callV0 (pc1 := 118) (As := [.ref Ld1, .int v2180, .int p2]) (rest := []) d_PotSearch_tryHeats_115 rfl mo_PotSearch_106 mi_PotSearch_isEnough mv_PotSearch_isEnough rfl sh_391 (by decide) (by decide) rfl rfl (Nat.le_of_ble_eq_true rfl) ?_
              refine t1_PotSearch_isEnough hld Ld1 hLd1 _ _ (fun r2186 M2187 L2188 hr2186 k2189 => ?_)
              refine g_if_eq (pc1 := 121) (tgt := 160) d_PotSearch_tryHeats_118 (by decide) rfl (fun h2190 => ?_) (fun h2190 => ?_)
              · obtain ⟨x2191, ex2191⟩ : ∃ y : Int32, y = v2180 + 1 := ⟨_, rfl⟩
                refine g_iinc (pc1 := 163) (v := x2191) (lv' := [(0, .ref 391), (1, .ref Ld1), (2, .int p2), (3, .int 0), (4, .int x2175), (5, .int x2191)]) d_PotSearch_tryHeats_160 rfl 5 rfl (by rw [ex2191]; rfl) (by decide) [1, 2, 3, 4, 5, 0] rfl ?_
                refine g_goto (tgt := 103) d_PotSearch_tryHeats_163 (by decide) ?_
                exact ih2177 x2191 M2187 L2188 (Kp.trans k2183 (Kp.mono k2189 S0_S1)) (nn_up (y := x2175) h2185 ex2191 n2184) (md_up h2185 ex2191 hm2178)
              · refine g_aload_n (pc1 := 122) d_PotSearch_tryHeats_121 rfl 0 rfl ?_
                refine g_iconst (pc1 := 123) (v := 1) d_PotSearch_tryHeats_122 rfl (by decide) ?_
                refine g_putz (pc1 := 126) d_PotSearch_tryHeats_123 rfl fo_PotSearch_28 po_10_9_1 rfl sh_391 (by decide) ?_
                refine Wp.topM (fun M2192 eM2192 => ?_)
                refine g_aload_n (pc1 := 127) d_PotSearch_tryHeats_126 rfl 0 rfl ?_
                refine g_aload_n (pc1 := 128) d_PotSearch_tryHeats_127 rfl 0 rfl ?_
                refine g_geti (pc1 := 131) d_PotSearch_tryHeats_128 rfl ⟨_, fo_PotSearch_89⟩ sh_391 (by decide) ?_
                refine g_puti (pc1 := 134) d_PotSearch_tryHeats_131 rfl fo_PotSearch_97 (po_10_6 _) sh_391 (by decide) ?_
                refine Wp.topM (fun M2193 eM2193 => ?_)
                refine g_aload_n (pc1 := 135) d_PotSearch_tryHeats_134 rfl 0 rfl ?_
                refine g_aload_n (pc1 := 136) d_PotSearch_tryHeats_135 rfl 0 rfl ?_
                refine g_geti (pc1 := 139) d_PotSearch_tryHeats_136 rfl ⟨_, fo_PotSearch_56⟩ sh_391 (by decide) ?_
                refine g_puti (pc1 := 142) d_PotSearch_tryHeats_139 rfl fo_PotSearch_100 (po_10_7 _) sh_391 (by decide) ?_
                refine Wp.topM (fun M2194 eM2194 => ?_)
                refine g_aload_n (pc1 := 143) d_PotSearch_tryHeats_142 rfl 0 rfl ?_
                refine g_iload (pc1 := 145) d_PotSearch_tryHeats_143 rfl 5 rfl ?_
                refine g_puti (pc1 := 148) d_PotSearch_tryHeats_145 rfl fo_PotSearch_103 (po_10_8 _) sh_391 (by decide) ?_
                refine Wp.topM (fun M2195 eM2195 => ?_)
                refine g_aload_n (pc1 := 149) d_PotSearch_tryHeats_148 rfl 0 rfl ?_
                refine g_getr (pc1 := 152) d_PotSearch_tryHeats_149 rfl ⟨_, fo_PotSearch_15⟩ sh_391 (by decide) (rf_391_1 ld) ?_
                refine g_aload_n (pc1 := 153) d_PotSearch_tryHeats_152 rfl 0 rfl ?_
                refine g_getr (pc1 := 156) d_PotSearch_tryHeats_153 rfl ⟨_, fo_PotSearch_21⟩ sh_391 (by decide) (rf_391_5 ld) ?_
                refine g_callS0 (pc1 := 159) (As := [.ref 393, .ref 395]) (rest := []) d_PotSearch_tryHeats_156 rfl mo_PotSearch_110 ms_Main_copyRow (by decide) rfl rfl (Nat.le_of_ble_eq_true rfl) ?_
                refine t1_Main_copyRow hld 393 sh_393 (by decide) (by decide) 395 sh_395 (by decide) (by decide) (fun  M2196 L2197 k2198 => ?_)
                refine g_return rfl d_PotSearch_tryHeats_159 rfl ?_
                exact hQ _ _ (Kp.trans (Kp.wM (Kp.wM (Kp.wM (Kp.wM (Kp.trans k2183 (Kp.mono k2189 S0_S1)) rfl eM2192) rfl eM2193) rfl eM2194) rfl eM2195) (Kp.mono k2198 (one_S rfl)))
        exact LP2179 _ 0 M L Kp.rf (by decide) (Nat.lt_succ_self _)
    · refine g_aload_n (pc1 := 49) d_PotSearch_tryHeats_48 rfl 0 rfl ?_
      refine g_geti (pc1 := 52) d_PotSearch_tryHeats_49 rfl ⟨_, fo_PotSearch_89⟩ sh_391 (by decide) ?_
      refine g_aload_n (pc1 := 53) d_PotSearch_tryHeats_52 rfl 0 rfl ?_
      refine g_geti (pc1 := 56) d_PotSearch_tryHeats_53 rfl ⟨_, fo_PotSearch_97⟩ sh_391 (by decide) ?_
      refine g_icmp_ne (pc1 := 59) (tgt := 74) d_PotSearch_tryHeats_56 (by decide) rfl (fun h2199 => ?_) (fun h2199 => ?_)
      · refine g_iconst (pc1 := 75) (v := 0) d_PotSearch_tryHeats_74 rfl (by decide) ?_
        refine g_istore_n (pc1 := 76) (lv' := [(0, .ref 391), (1, .ref Ld1), (2, .int p2), (3, .int 0)]) d_PotSearch_tryHeats_75 rfl rfl (by decide) [1, 2, 3, 0] rfl ?_
        refine g_iload_n (pc1 := 77) d_PotSearch_tryHeats_76 rfl 3 rfl ?_
        refine g_if_eq (pc1 := 80) (tgt := 94) d_PotSearch_tryHeats_77 (by decide) rfl (fun h2200 => ?_) (fun h2200 => ?_)
        · refine g_aload_n (pc1 := 95) d_PotSearch_tryHeats_94 rfl 0 rfl ?_
          refine g_geti (pc1 := 98) d_PotSearch_tryHeats_95 rfl ⟨_, fo_PotSearch_44⟩ sh_391 (by decide) ?_
          refine Wp.topi (fun x2201 ex2201 => ?_)
          refine g_istore (pc1 := 100) (lv' := [(0, .ref 391), (1, .ref Ld1), (2, .int p2), (3, .int 0), (4, .int x2201)]) d_PotSearch_tryHeats_98 rfl (by decide) [1, 2, 3, 4, 0] rfl ?_
          refine g_iconst (pc1 := 101) (v := 0) d_PotSearch_tryHeats_100 rfl (by decide) ?_
          refine g_istore (pc1 := 103) (lv' := [(0, .ref 391), (1, .ref Ld1), (2, .int p2), (3, .int 0), (4, .int x2201), (5, .int 0)]) d_PotSearch_tryHeats_101 rfl (by decide) [1, 2, 3, 4, 5, 0] rfl ?_
          have LP2205 : ∀ (f2202 : Nat) (v2206 : Int32) (M2207 : gM) (L2208 : gL), Kp S1 M L M2207 L2208 → ¬ v2206 < 0 → (x2201.toInt - v2206.toInt).toNat < f2202 → Wp l y_PotSearch_tryHeats (0, 0, 447) 447 0 0 103 [(0, .ref 391), (1, .ref Ld1), (2, .int p2), (3, .int 0), (4, .int x2201), (5, .int v2206)] [] M2207 L2208 (rf ld) Q := by
            intro f2202
            induction f2202 with
            | zero => intro v2206 M2207 L2208 _ _ hm2204; exact absurd hm2204 (Nat.not_lt_zero _)
            | succ f2202 ih2203 =>
              intro v2206 M2207 L2208 k2209 n2210 hm2204
              refine g_iload (pc1 := 105) d_PotSearch_tryHeats_103 rfl 5 rfl ?_
              refine g_iload (pc1 := 107) d_PotSearch_tryHeats_105 rfl 4 rfl ?_
              refine g_icmp_ge (pc1 := 110) (tgt := 166) d_PotSearch_tryHeats_107 (by decide) rfl (fun h2211 => ?_) (fun h2211 => ?_)
              · refine g_return rfl d_PotSearch_tryHeats_166 rfl ?_
                exact hQ _ _ k2209
              · refine g_aload_n (pc1 := 111) d_PotSearch_tryHeats_110 rfl 0 rfl ?_
                refine g_aload_n (pc1 := 112) d_PotSearch_tryHeats_111 rfl 1 rfl ?_
                refine g_iload (pc1 := 114) d_PotSearch_tryHeats_112 rfl 5 rfl ?_
                refine g_iload_n (pc1 := 115) d_PotSearch_tryHeats_114 rfl 2 rfl ?_
                refine g_callV0 (pc1 := 118) (As := [.ref Ld1, .int v2206, .int p2]) (rest := []) d_PotSearch_tryHeats_115 rfl mo_PotSearch_106 mi_PotSearch_isEnough mv_PotSearch_isEnough rfl sh_391 (by decide) (by decide) rfl rfl (Nat.le_of_ble_eq_true rfl) ?_
                refine t1_PotSearch_isEnough hld Ld1 hLd1 _ _ (fun r2212 M2213 L2214 hr2212 k2215 => ?_)
                refine g_if_eq (pc1 := 121) (tgt := 160) d_PotSearch_tryHeats_118 (by decide) rfl (fun h2216 => ?_) (fun h2216 => ?_)
                · obtain ⟨x2217, ex2217⟩ : ∃ y : Int32, y = v2206 + 1 := ⟨_, rfl⟩
                  refine g_iinc (pc1 := 163) (v := x2217) (lv' := [(0, .ref 391), (1, .ref Ld1), (2, .int p2), (3, .int 0), (4, .int x2201), (5, .int x2217)]) d_PotSearch_tryHeats_160 rfl 5 rfl (by rw [ex2217]; rfl) (by decide) [1, 2, 3, 4, 5, 0] rfl ?_
                  refine g_goto (tgt := 103) d_PotSearch_tryHeats_163 (by decide) ?_
                  exact ih2203 x2217 M2213 L2214 (Kp.trans k2209 (Kp.mono k2215 S0_S1)) (nn_up (y := x2201) h2211 ex2217 n2210) (md_up h2211 ex2217 hm2204)
                · refine g_aload_n (pc1 := 122) d_PotSearch_tryHeats_121 rfl 0 rfl ?_
                  refine g_iconst (pc1 := 123) (v := 1) d_PotSearch_tryHeats_122 rfl (by decide) ?_
                  refine g_putz (pc1 := 126) d_PotSearch_tryHeats_123 rfl fo_PotSearch_28 po_10_9_1 rfl sh_391 (by decide) ?_
                  refine Wp.topM (fun M2218 eM2218 => ?_)
                  refine g_aload_n (pc1 := 127) d_PotSearch_tryHeats_126 rfl 0 rfl ?_
                  refine g_aload_n (pc1 := 128) d_PotSearch_tryHeats_127 rfl 0 rfl ?_
                  refine g_geti (pc1 := 131) d_PotSearch_tryHeats_128 rfl ⟨_, fo_PotSearch_89⟩ sh_391 (by decide) ?_
                  refine g_puti (pc1 := 134) d_PotSearch_tryHeats_131 rfl fo_PotSearch_97 (po_10_6 _) sh_391 (by decide) ?_
                  refine Wp.topM (fun M2219 eM2219 => ?_)
                  refine g_aload_n (pc1 := 135) d_PotSearch_tryHeats_134 rfl 0 rfl ?_
                  refine g_aload_n (pc1 := 136) d_PotSearch_tryHeats_135 rfl 0 rfl ?_
                  refine g_geti (pc1 := 139) d_PotSearch_tryHeats_136 rfl ⟨_, fo_PotSearch_56⟩ sh_391 (by decide) ?_
                  refine g_puti (pc1 := 142) d_PotSearch_tryHeats_139 rfl fo_PotSearch_100 (po_10_7 _) sh_391 (by decide) ?_
                  refine Wp.topM (fun M2220 eM2220 => ?_)
                  refine g_aload_n (pc1 := 143) d_PotSearch_tryHeats_142 rfl 0 rfl ?_
                  refine g_iload (pc1 := 145) d_PotSearch_tryHeats_143 rfl 5 rfl ?_
                  refine g_puti (pc1 := 148) d_PotSearch_tryHeats_145 rfl fo_PotSearch_103 (po_10_8 _) sh_391 (by decide) ?_
                  refine Wp.topM (fun M2221 eM2221 => ?_)
                  refine g_aload_n (pc1 := 149) d_PotSearch_tryHeats_148 rfl 0 rfl ?_
                  refine g_getr (pc1 := 152) d_PotSearch_tryHeats_149 rfl ⟨_, fo_PotSearch_15⟩ sh_391 (by decide) (rf_391_1 ld) ?_
                  refine g_aload_n (pc1 := 153) d_PotSearch_tryHeats_152 rfl 0 rfl ?_
                  refine g_getr (pc1 := 156) d_PotSearch_tryHeats_153 rfl ⟨_, fo_PotSearch_21⟩ sh_391 (by decide) (rf_391_5 ld) ?_
                  refine g_callS0 (pc1 := 159) (As := [.ref 393, .ref 395]) (rest := []) d_PotSearch_tryHeats_156 rfl mo_PotSearch_110 ms_Main_copyRow (by decide) rfl rfl (Nat.le_of_ble_eq_true rfl) ?_
                  refine t1_Main_copyRow hld 393 sh_393 (by decide) (by decide) 395 sh_395 (by decide) (by decide) (fun  M2222 L2223 k2224 => ?_)
                  refine g_return rfl d_PotSearch_tryHeats_159 rfl ?_
                  exact hQ _ _ (Kp.trans (Kp.wM (Kp.wM (Kp.wM (Kp.wM (Kp.trans k2209 (Kp.mono k2215 S0_S1)) rfl eM2218) rfl eM2219) rfl eM2220) rfl eM2221) (Kp.mono k2224 (one_S rfl)))
          exact LP2205 _ 0 M L Kp.rf (by decide) (Nat.lt_succ_self _)
        · refine g_aload_n (pc1 := 81) d_PotSearch_tryHeats_80 rfl 0 rfl ?_
          refine g_geti (pc1 := 84) d_PotSearch_tryHeats_81 rfl ⟨_, fo_PotSearch_103⟩ sh_391 (by decide) ?_
          refine g_aload_n (pc1 := 85) d_PotSearch_tryHeats_84 rfl 0 rfl ?_
          refine g_geti (pc1 := 88) d_PotSearch_tryHeats_85 rfl ⟨_, fo_PotSearch_44⟩ sh_391 (by decide) ?_
          refine g_mmin (pc1 := 91) d_PotSearch_tryHeats_88 rfl mm_PotSearch_79 (by decide) ⟨Nat.le_refl 0, Nat.le_refl 0⟩ (Nat.le_of_ble_eq_true rfl) ?_
          refine g_goto (tgt := 98) d_PotSearch_tryHeats_91 (by decide) ?_
          refine Wp.topi (fun x2225 ex2225 => ?_)
          refine g_istore (pc1 := 100) (lv' := [(0, .ref 391), (1, .ref Ld1), (2, .int p2), (3, .int 0), (4, .int x2225)]) d_PotSearch_tryHeats_98 rfl (by decide) [1, 2, 3, 4, 0] rfl ?_
          refine g_iconst (pc1 := 101) (v := 0) d_PotSearch_tryHeats_100 rfl (by decide) ?_
          refine g_istore (pc1 := 103) (lv' := [(0, .ref 391), (1, .ref Ld1), (2, .int p2), (3, .int 0), (4, .int x2225), (5, .int 0)]) d_PotSearch_tryHeats_101 rfl (by decide) [1, 2, 3, 4, 5, 0] rfl ?_
          have LP2229 : ∀ (f2226 : Nat) (v2230 : Int32) (M2231 : gM) (L2232 : gL), Kp S1 M L M2231 L2232 → ¬ v2230 < 0 → (x2225.toInt - v2230.toInt).toNat < f2226 → Wp l y_PotSearch_tryHeats (0, 0, 447) 447 0 0 103 [(0, .ref 391), (1, .ref Ld1), (2, .int p2), (3, .int 0), (4, .int x2225), (5, .int v2230)] [] M2231 L2232 (rf ld) Q := by
            intro f2226
            induction f2226 with
            | zero => intro v2230 M2231 L2232 _ _ hm2228; exact absurd hm2228 (Nat.not_lt_zero _)
            | succ f2226 ih2227 =>
              intro v2230 M2231 L2232 k2233 n2234 hm2228
              refine g_iload (pc1 := 105) d_PotSearch_tryHeats_103 rfl 5 rfl ?_
              refine g_iload (pc1 := 107) d_PotSearch_tryHeats_105 rfl 4 rfl ?_
              refine g_icmp_ge (pc1 := 110) (tgt := 166) d_PotSearch_tryHeats_107 (by decide) rfl (fun h2235 => ?_) (fun h2235 => ?_)
              · refine g_return rfl d_PotSearch_tryHeats_166 rfl ?_
                exact hQ _ _ k2233
              · refine g_aload_n (pc1 := 111) d_PotSearch_tryHeats_110 rfl 0 rfl ?_
                refine g_aload_n (pc1 := 112) d_PotSearch_tryHeats_111 rfl 1 rfl ?_
                refine g_iload (pc1 := 114) d_PotSearch_tryHeats_112 rfl 5 rfl ?_
                refine g_iload_n (pc1 := 115) d_PotSearch_tryHeats_114 rfl 2 rfl ?_
                refine g_callV0 (pc1 := 118) (As := [.ref Ld1, .int v2230, .int p2]) (rest := []) d_PotSearch_tryHeats_115 rfl mo_PotSearch_106 mi_PotSearch_isEnough mv_PotSearch_isEnough rfl sh_391 (by decide) (by decide) rfl rfl (Nat.le_of_ble_eq_true rfl) ?_
                refine t1_PotSearch_isEnough hld Ld1 hLd1 _ _ (fun r2236 M2237 L2238 hr2236 k2239 => ?_)
                refine g_if_eq (pc1 := 121) (tgt := 160) d_PotSearch_tryHeats_118 (by decide) rfl (fun h2240 => ?_) (fun h2240 => ?_)
                · obtain ⟨x2241, ex2241⟩ : ∃ y : Int32, y = v2230 + 1 := ⟨_, rfl⟩
                  refine g_iinc (pc1 := 163) (v := x2241) (lv' := [(0, .ref 391), (1, .ref Ld1), (2, .int p2), (3, .int 0), (4, .int x2225), (5, .int x2241)]) d_PotSearch_tryHeats_160 rfl 5 rfl (by rw [ex2241]; rfl) (by decide) [1, 2, 3, 4, 5, 0] rfl ?_
                  refine g_goto (tgt := 103) d_PotSearch_tryHeats_163 (by decide) ?_
                  exact ih2227 x2241 M2237 L2238 (Kp.trans k2233 (Kp.mono k2239 S0_S1)) (nn_up (y := x2225) h2235 ex2241 n2234) (md_up h2235 ex2241 hm2228)
                · refine g_aload_n (pc1 := 122) d_PotSearch_tryHeats_121 rfl 0 rfl ?_
                  refine g_iconst (pc1 := 123) (v := 1) d_PotSearch_tryHeats_122 rfl (by decide) ?_
                  refine g_putz (pc1 := 126) d_PotSearch_tryHeats_123 rfl fo_PotSearch_28 po_10_9_1 rfl sh_391 (by decide) ?_
                  refine Wp.topM (fun M2242 eM2242 => ?_)
                  refine g_aload_n (pc1 := 127) d_PotSearch_tryHeats_126 rfl 0 rfl ?_
                  refine g_aload_n (pc1 := 128) d_PotSearch_tryHeats_127 rfl 0 rfl ?_
                  refine g_geti (pc1 := 131) d_PotSearch_tryHeats_128 rfl ⟨_, fo_PotSearch_89⟩ sh_391 (by decide) ?_
                  refine g_puti (pc1 := 134) d_PotSearch_tryHeats_131 rfl fo_PotSearch_97 (po_10_6 _) sh_391 (by decide) ?_
                  refine Wp.topM (fun M2243 eM2243 => ?_)
                  refine g_aload_n (pc1 := 135) d_PotSearch_tryHeats_134 rfl 0 rfl ?_
                  refine g_aload_n (pc1 := 136) d_PotSearch_tryHeats_135 rfl 0 rfl ?_
                  refine g_geti (pc1 := 139) d_PotSearch_tryHeats_136 rfl ⟨_, fo_PotSearch_56⟩ sh_391 (by decide) ?_
                  refine g_puti (pc1 := 142) d_PotSearch_tryHeats_139 rfl fo_PotSearch_100 (po_10_7 _) sh_391 (by decide) ?_
                  refine Wp.topM (fun M2244 eM2244 => ?_)
                  refine g_aload_n (pc1 := 143) d_PotSearch_tryHeats_142 rfl 0 rfl ?_
                  refine g_iload (pc1 := 145) d_PotSearch_tryHeats_143 rfl 5 rfl ?_
                  refine g_puti (pc1 := 148) d_PotSearch_tryHeats_145 rfl fo_PotSearch_103 (po_10_8 _) sh_391 (by decide) ?_
                  refine Wp.topM (fun M2245 eM2245 => ?_)
                  refine g_aload_n (pc1 := 149) d_PotSearch_tryHeats_148 rfl 0 rfl ?_
                  refine g_getr (pc1 := 152) d_PotSearch_tryHeats_149 rfl ⟨_, fo_PotSearch_15⟩ sh_391 (by decide) (rf_391_1 ld) ?_
                  refine g_aload_n (pc1 := 153) d_PotSearch_tryHeats_152 rfl 0 rfl ?_
                  refine g_getr (pc1 := 156) d_PotSearch_tryHeats_153 rfl ⟨_, fo_PotSearch_21⟩ sh_391 (by decide) (rf_391_5 ld) ?_
                  refine g_callS0 (pc1 := 159) (As := [.ref 393, .ref 395]) (rest := []) d_PotSearch_tryHeats_156 rfl mo_PotSearch_110 ms_Main_copyRow (by decide) rfl rfl (Nat.le_of_ble_eq_true rfl) ?_
                  refine t1_Main_copyRow hld 393 sh_393 (by decide) (by decide) 395 sh_395 (by decide) (by decide) (fun  M2246 L2247 k2248 => ?_)
                  refine g_return rfl d_PotSearch_tryHeats_159 rfl ?_
                  exact hQ _ _ (Kp.trans (Kp.wM (Kp.wM (Kp.wM (Kp.wM (Kp.trans k2233 (Kp.mono k2239 S0_S1)) rfl eM2242) rfl eM2243) rfl eM2244) rfl eM2245) (Kp.mono k2248 (one_S rfl)))
          exact LP2229 _ 0 M L Kp.rf (by decide) (Nat.lt_succ_self _)
      · refine g_aload_n (pc1 := 60) d_PotSearch_tryHeats_59 rfl 0 rfl ?_
        refine g_geti (pc1 := 63) d_PotSearch_tryHeats_60 rfl ⟨_, fo_PotSearch_56⟩ sh_391 (by decide) ?_
        refine g_aload_n (pc1 := 64) d_PotSearch_tryHeats_63 rfl 0 rfl ?_
        refine g_geti (pc1 := 67) d_PotSearch_tryHeats_64 rfl ⟨_, fo_PotSearch_100⟩ sh_391 (by decide) ?_
        refine g_icmp_ne (pc1 := 70) (tgt := 74) d_PotSearch_tryHeats_67 (by decide) rfl (fun h2249 => ?_) (fun h2249 => ?_)
        · refine g_iconst (pc1 := 75) (v := 0) d_PotSearch_tryHeats_74 rfl (by decide) ?_
          refine g_istore_n (pc1 := 76) (lv' := [(0, .ref 391), (1, .ref Ld1), (2, .int p2), (3, .int 0)]) d_PotSearch_tryHeats_75 rfl rfl (by decide) [1, 2, 3, 0] rfl ?_
          refine g_iload_n (pc1 := 77) d_PotSearch_tryHeats_76 rfl 3 rfl ?_
          refine g_if_eq (pc1 := 80) (tgt := 94) d_PotSearch_tryHeats_77 (by decide) rfl (fun h2250 => ?_) (fun h2250 => ?_)
          · refine g_aload_n (pc1 := 95) d_PotSearch_tryHeats_94 rfl 0 rfl ?_
            refine g_geti (pc1 := 98) d_PotSearch_tryHeats_95 rfl ⟨_, fo_PotSearch_44⟩ sh_391 (by decide) ?_
            refine Wp.topi (fun x2251 ex2251 => ?_)
            refine g_istore (pc1 := 100) (lv' := [(0, .ref 391), (1, .ref Ld1), (2, .int p2), (3, .int 0), (4, .int x2251)]) d_PotSearch_tryHeats_98 rfl (by decide) [1, 2, 3, 4, 0] rfl ?_
            refine g_iconst (pc1 := 101) (v := 0) d_PotSearch_tryHeats_100 rfl (by decide) ?_
            refine g_istore (pc1 := 103) (lv' := [(0, .ref 391), (1, .ref Ld1), (2, .int p2), (3, .int 0), (4, .int x2251), (5, .int 0)]) d_PotSearch_tryHeats_101 rfl (by decide) [1, 2, 3, 4, 5, 0] rfl ?_
            have LP2255 : ∀ (f2252 : Nat) (v2256 : Int32) (M2257 : gM) (L2258 : gL), Kp S1 M L M2257 L2258 → ¬ v2256 < 0 → (x2251.toInt - v2256.toInt).toNat < f2252 → Wp l y_PotSearch_tryHeats (0, 0, 447) 447 0 0 103 [(0, .ref 391), (1, .ref Ld1), (2, .int p2), (3, .int 0), (4, .int x2251), (5, .int v2256)] [] M2257 L2258 (rf ld) Q := by
              intro f2252
              induction f2252 with
              | zero => intro v2256 M2257 L2258 _ _ hm2254; exact absurd hm2254 (Nat.not_lt_zero _)
              | succ f2252 ih2253 =>
                intro v2256 M2257 L2258 k2259 n2260 hm2254
                refine g_iload (pc1 := 105) d_PotSearch_tryHeats_103 rfl 5 rfl ?_
                refine g_iload (pc1 := 107) d_PotSearch_tryHeats_105 rfl 4 rfl ?_
                refine g_icmp_ge (pc1 := 110) (tgt := 166) d_PotSearch_tryHeats_107 (by decide) rfl (fun h2261 => ?_) (fun h2261 => ?_)
                · refine g_return rfl d_PotSearch_tryHeats_166 rfl ?_
                  exact hQ _ _ k2259
                · refine g_aload_n (pc1 := 111) d_PotSearch_tryHeats_110 rfl 0 rfl ?_
                  refine g_aload_n (pc1 := 112) d_PotSearch_tryHeats_111 rfl 1 rfl ?_
                  refine g_iload (pc1 := 114) d_PotSearch_tryHeats_112 rfl 5 rfl ?_
                  refine g_iload_n (pc1 := 115) d_PotSearch_tryHeats_114 rfl 2 rfl ?_
                  refine g_callV0 (pc1 := 118) (As := [.ref Ld1, .int v2256, .int p2]) (rest := []) d_PotSearch_tryHeats_115 rfl mo_PotSearch_106 mi_PotSearch_isEnough mv_PotSearch_isEnough rfl sh_391 (by decide) (by decide) rfl rfl (Nat.le_of_ble_eq_true rfl) ?_
                  refine t1_PotSearch_isEnough hld Ld1 hLd1 _ _ (fun r2262 M2263 L2264 hr2262 k2265 => ?_)
                  refine g_if_eq (pc1 := 121) (tgt := 160) d_PotSearch_tryHeats_118 (by decide) rfl (fun h2266 => ?_) (fun h2266 => ?_)
                  · obtain ⟨x2267, ex2267⟩ : ∃ y : Int32, y = v2256 + 1 := ⟨_, rfl⟩
                    refine g_iinc (pc1 := 163) (v := x2267) (lv' := [(0, .ref 391), (1, .ref Ld1), (2, .int p2), (3, .int 0), (4, .int x2251), (5, .int x2267)]) d_PotSearch_tryHeats_160 rfl 5 rfl (by rw [ex2267]; rfl) (by decide) [1, 2, 3, 4, 5, 0] rfl ?_
                    refine g_goto (tgt := 103) d_PotSearch_tryHeats_163 (by decide) ?_
                    exact ih2253 x2267 M2263 L2264 (Kp.trans k2259 (Kp.mono k2265 S0_S1)) (nn_up (y := x2251) h2261 ex2267 n2260) (md_up h2261 ex2267 hm2254)
                  · refine g_aload_n (pc1 := 122) d_PotSearch_tryHeats_121 rfl 0 rfl ?_
                    refine g_iconst (pc1 := 123) (v := 1) d_PotSearch_tryHeats_122 rfl (by decide) ?_
                    refine g_putz (pc1 := 126) d_PotSearch_tryHeats_123 rfl fo_PotSearch_28 po_10_9_1 rfl sh_391 (by decide) ?_
                    refine Wp.topM (fun M2268 eM2268 => ?_)
                    refine g_aload_n (pc1 := 127) d_PotSearch_tryHeats_126 rfl 0 rfl ?_
                    refine g_aload_n (pc1 := 128) d_PotSearch_tryHeats_127 rfl 0 rfl ?_
                    refine g_geti (pc1 := 131) d_PotSearch_tryHeats_128 rfl ⟨_, fo_PotSearch_89⟩ sh_391 (by decide) ?_
                    refine g_puti (pc1 := 134) d_PotSearch_tryHeats_131 rfl fo_PotSearch_97 (po_10_6 _) sh_391 (by decide) ?_
                    refine Wp.topM (fun M2269 eM2269 => ?_)
                    refine g_aload_n (pc1 := 135) d_PotSearch_tryHeats_134 rfl 0 rfl ?_
                    refine g_aload_n (pc1 := 136) d_PotSearch_tryHeats_135 rfl 0 rfl ?_
                    refine g_geti (pc1 := 139) d_PotSearch_tryHeats_136 rfl ⟨_, fo_PotSearch_56⟩ sh_391 (by decide) ?_
                    refine g_puti (pc1 := 142) d_PotSearch_tryHeats_139 rfl fo_PotSearch_100 (po_10_7 _) sh_391 (by decide) ?_
                    refine Wp.topM (fun M2270 eM2270 => ?_)
                    refine g_aload_n (pc1 := 143) d_PotSearch_tryHeats_142 rfl 0 rfl ?_
                    refine g_iload (pc1 := 145) d_PotSearch_tryHeats_143 rfl 5 rfl ?_
                    refine g_puti (pc1 := 148) d_PotSearch_tryHeats_145 rfl fo_PotSearch_103 (po_10_8 _) sh_391 (by decide) ?_
                    refine Wp.topM (fun M2271 eM2271 => ?_)
                    refine g_aload_n (pc1 := 149) d_PotSearch_tryHeats_148 rfl 0 rfl ?_
                    refine g_getr (pc1 := 152) d_PotSearch_tryHeats_149 rfl ⟨_, fo_PotSearch_15⟩ sh_391 (by decide) (rf_391_1 ld) ?_
                    refine g_aload_n (pc1 := 153) d_PotSearch_tryHeats_152 rfl 0 rfl ?_
                    refine g_getr (pc1 := 156) d_PotSearch_tryHeats_153 rfl ⟨_, fo_PotSearch_21⟩ sh_391 (by decide) (rf_391_5 ld) ?_
                    refine g_callS0 (pc1 := 159) (As := [.ref 393, .ref 395]) (rest := []) d_PotSearch_tryHeats_156 rfl mo_PotSearch_110 ms_Main_copyRow (by decide) rfl rfl (Nat.le_of_ble_eq_true rfl) ?_
                    refine t1_Main_copyRow hld 393 sh_393 (by decide) (by decide) 395 sh_395 (by decide) (by decide) (fun  M2272 L2273 k2274 => ?_)
                    refine g_return rfl d_PotSearch_tryHeats_159 rfl ?_
                    exact hQ _ _ (Kp.trans (Kp.wM (Kp.wM (Kp.wM (Kp.wM (Kp.trans k2259 (Kp.mono k2265 S0_S1)) rfl eM2268) rfl eM2269) rfl eM2270) rfl eM2271) (Kp.mono k2274 (one_S rfl)))
            exact LP2255 _ 0 M L Kp.rf (by decide) (Nat.lt_succ_self _)
          · refine g_aload_n (pc1 := 81) d_PotSearch_tryHeats_80 rfl 0 rfl ?_
            refine g_geti (pc1 := 84) d_PotSearch_tryHeats_81 rfl ⟨_, fo_PotSearch_103⟩ sh_391 (by decide) ?_
            refine g_aload_n (pc1 := 85) d_PotSearch_tryHeats_84 rfl 0 rfl ?_
            refine g_geti (pc1 := 88) d_PotSearch_tryHeats_85 rfl ⟨_, fo_PotSearch_44⟩ sh_391 (by decide) ?_
            refine g_mmin (pc1 := 91) d_PotSearch_tryHeats_88 rfl mm_PotSearch_79 (by decide) ⟨Nat.le_refl 0, Nat.le_refl 0⟩ (Nat.le_of_ble_eq_true rfl) ?_
            refine g_goto (tgt := 98) d_PotSearch_tryHeats_91 (by decide) ?_
            refine Wp.topi (fun x2275 ex2275 => ?_)
            refine g_istore (pc1 := 100) (lv' := [(0, .ref 391), (1, .ref Ld1), (2, .int p2), (3, .int 0), (4, .int x2275)]) d_PotSearch_tryHeats_98 rfl (by decide) [1, 2, 3, 4, 0] rfl ?_
            refine g_iconst (pc1 := 101) (v := 0) d_PotSearch_tryHeats_100 rfl (by decide) ?_
            refine g_istore (pc1 := 103) (lv' := [(0, .ref 391), (1, .ref Ld1), (2, .int p2), (3, .int 0), (4, .int x2275), (5, .int 0)]) d_PotSearch_tryHeats_101 rfl (by decide) [1, 2, 3, 4, 5, 0] rfl ?_
            have LP2279 : ∀ (f2276 : Nat) (v2280 : Int32) (M2281 : gM) (L2282 : gL), Kp S1 M L M2281 L2282 → ¬ v2280 < 0 → (x2275.toInt - v2280.toInt).toNat < f2276 → Wp l y_PotSearch_tryHeats (0, 0, 447) 447 0 0 103 [(0, .ref 391), (1, .ref Ld1), (2, .int p2), (3, .int 0), (4, .int x2275), (5, .int v2280)] [] M2281 L2282 (rf ld) Q := by
              intro f2276
              induction f2276 with
              | zero => intro v2280 M2281 L2282 _ _ hm2278; exact absurd hm2278 (Nat.not_lt_zero _)
              | succ f2276 ih2277 =>
                intro v2280 M2281 L2282 k2283 n2284 hm2278
                refine g_iload (pc1 := 105) d_PotSearch_tryHeats_103 rfl 5 rfl ?_
                refine g_iload (pc1 := 107) d_PotSearch_tryHeats_105 rfl 4 rfl ?_
                refine g_icmp_ge (pc1 := 110) (tgt := 166) d_PotSearch_tryHeats_107 (by decide) rfl (fun h2285 => ?_) (fun h2285 => ?_)
                · refine g_return rfl d_PotSearch_tryHeats_166 rfl ?_
                  exact hQ _ _ k2283
                · refine g_aload_n (pc1 := 111) d_PotSearch_tryHeats_110 rfl 0 rfl ?_
                  refine g_aload_n (pc1 := 112) d_PotSearch_tryHeats_111 rfl 1 rfl ?_
                  refine g_iload (pc1 := 114) d_PotSearch_tryHeats_112 rfl 5 rfl ?_
                  refine g_iload_n (pc1 := 115) d_PotSearch_tryHeats_114 rfl 2 rfl ?_
                  refine g_callV0 (pc1 := 118) (As := [.ref Ld1, .int v2280, .int p2]) (rest := []) d_PotSearch_tryHeats_115 rfl mo_PotSearch_106 mi_PotSearch_isEnough mv_PotSearch_isEnough rfl sh_391 (by decide) (by decide) rfl rfl (Nat.le_of_ble_eq_true rfl) ?_
                  refine t1_PotSearch_isEnough hld Ld1 hLd1 _ _ (fun r2286 M2287 L2288 hr2286 k2289 => ?_)
                  refine g_if_eq (pc1 := 121) (tgt := 160) d_PotSearch_tryHeats_118 (by decide) rfl (fun h2290 => ?_) (fun h2290 => ?_)
                  · obtain ⟨x2291, ex2291⟩ : ∃ y : Int32, y = v2280 + 1 := ⟨_, rfl⟩
                    refine g_iinc (pc1 := 163) (v := x2291) (lv' := [(0, .ref 391), (1, .ref Ld1), (2, .int p2), (3, .int 0), (4, .int x2275), (5, .int x2291)]) d_PotSearch_tryHeats_160 rfl 5 rfl (by rw [ex2291]; rfl) (by decide) [1, 2, 3, 4, 5, 0] rfl ?_
                    refine g_goto (tgt := 103) d_PotSearch_tryHeats_163 (by decide) ?_
                    exact ih2277 x2291 M2287 L2288 (Kp.trans k2283 (Kp.mono k2289 S0_S1)) (nn_up (y := x2275) h2285 ex2291 n2284) (md_up h2285 ex2291 hm2278)
                  · refine g_aload_n (pc1 := 122) d_PotSearch_tryHeats_121 rfl 0 rfl ?_
                    refine g_iconst (pc1 := 123) (v := 1) d_PotSearch_tryHeats_122 rfl (by decide) ?_
                    refine g_putz (pc1 := 126) d_PotSearch_tryHeats_123 rfl fo_PotSearch_28 po_10_9_1 rfl sh_391 (by decide) ?_
                    refine Wp.topM (fun M2292 eM2292 => ?_)
                    refine g_aload_n (pc1 := 127) d_PotSearch_tryHeats_126 rfl 0 rfl ?_
                    refine g_aload_n (pc1 := 128) d_PotSearch_tryHeats_127 rfl 0 rfl ?_
                    refine g_geti (pc1 := 131) d_PotSearch_tryHeats_128 rfl ⟨_, fo_PotSearch_89⟩ sh_391 (by decide) ?_
                    refine g_puti (pc1 := 134) d_PotSearch_tryHeats_131 rfl fo_PotSearch_97 (po_10_6 _) sh_391 (by decide) ?_
                    refine Wp.topM (fun M2293 eM2293 => ?_)
                    refine g_aload_n (pc1 := 135) d_PotSearch_tryHeats_134 rfl 0 rfl ?_
                    refine g_aload_n (pc1 := 136) d_PotSearch_tryHeats_135 rfl 0 rfl ?_
                    refine g_geti (pc1 := 139) d_PotSearch_tryHeats_136 rfl ⟨_, fo_PotSearch_56⟩ sh_391 (by decide) ?_
                    refine g_puti (pc1 := 142) d_PotSearch_tryHeats_139 rfl fo_PotSearch_100 (po_10_7 _) sh_391 (by decide) ?_
                    refine Wp.topM (fun M2294 eM2294 => ?_)
                    refine g_aload_n (pc1 := 143) d_PotSearch_tryHeats_142 rfl 0 rfl ?_
                    refine g_iload (pc1 := 145) d_PotSearch_tryHeats_143 rfl 5 rfl ?_
                    refine g_puti (pc1 := 148) d_PotSearch_tryHeats_145 rfl fo_PotSearch_103 (po_10_8 _) sh_391 (by decide) ?_
                    refine Wp.topM (fun M2295 eM2295 => ?_)
                    refine g_aload_n (pc1 := 149) d_PotSearch_tryHeats_148 rfl 0 rfl ?_
                    refine g_getr (pc1 := 152) d_PotSearch_tryHeats_149 rfl ⟨_, fo_PotSearch_15⟩ sh_391 (by decide) (rf_391_1 ld) ?_
                    refine g_aload_n (pc1 := 153) d_PotSearch_tryHeats_152 rfl 0 rfl ?_
                    refine g_getr (pc1 := 156) d_PotSearch_tryHeats_153 rfl ⟨_, fo_PotSearch_21⟩ sh_391 (by decide) (rf_391_5 ld) ?_
                    refine g_callS0 (pc1 := 159) (As := [.ref 393, .ref 395]) (rest := []) d_PotSearch_tryHeats_156 rfl mo_PotSearch_110 ms_Main_copyRow (by decide) rfl rfl (Nat.le_of_ble_eq_true rfl) ?_
                    refine t1_Main_copyRow hld 393 sh_393 (by decide) (by decide) 395 sh_395 (by decide) (by decide) (fun  M2296 L2297 k2298 => ?_)
                    refine g_return rfl d_PotSearch_tryHeats_159 rfl ?_
                    exact hQ _ _ (Kp.trans (Kp.wM (Kp.wM (Kp.wM (Kp.wM (Kp.trans k2283 (Kp.mono k2289 S0_S1)) rfl eM2292) rfl eM2293) rfl eM2294) rfl eM2295) (Kp.mono k2298 (one_S rfl)))
            exact LP2279 _ 0 M L Kp.rf (by decide) (Nat.lt_succ_self _)
        · refine g_iconst (pc1 := 71) (v := 1) d_PotSearch_tryHeats_70 rfl (by decide) ?_
          refine g_goto (tgt := 75) d_PotSearch_tryHeats_71 (by decide) ?_
          refine g_istore_n (pc1 := 76) (lv' := [(0, .ref 391), (1, .ref Ld1), (2, .int p2), (3, .int 1)]) d_PotSearch_tryHeats_75 rfl rfl (by decide) [1, 2, 3, 0] rfl ?_
          refine g_iload_n (pc1 := 77) d_PotSearch_tryHeats_76 rfl 3 rfl ?_
          refine g_if_eq (pc1 := 80) (tgt := 94) d_PotSearch_tryHeats_77 (by decide) rfl (fun h2299 => ?_) (fun h2299 => ?_)
          · refine g_aload_n (pc1 := 95) d_PotSearch_tryHeats_94 rfl 0 rfl ?_
            refine g_geti (pc1 := 98) d_PotSearch_tryHeats_95 rfl ⟨_, fo_PotSearch_44⟩ sh_391 (by decide) ?_
            refine Wp.topi (fun x2300 ex2300 => ?_)
            refine g_istore (pc1 := 100) (lv' := [(0, .ref 391), (1, .ref Ld1), (2, .int p2), (3, .int 1), (4, .int x2300)]) d_PotSearch_tryHeats_98 rfl (by decide) [1, 2, 3, 4, 0] rfl ?_
            refine g_iconst (pc1 := 101) (v := 0) d_PotSearch_tryHeats_100 rfl (by decide) ?_
            refine g_istore (pc1 := 103) (lv' := [(0, .ref 391), (1, .ref Ld1), (2, .int p2), (3, .int 1), (4, .int x2300), (5, .int 0)]) d_PotSearch_tryHeats_101 rfl (by decide) [1, 2, 3, 4, 5, 0] rfl ?_
            have LP2304 : ∀ (f2301 : Nat) (v2305 : Int32) (M2306 : gM) (L2307 : gL), Kp S1 M L M2306 L2307 → ¬ v2305 < 0 → (x2300.toInt - v2305.toInt).toNat < f2301 → Wp l y_PotSearch_tryHeats (0, 0, 447) 447 0 0 103 [(0, .ref 391), (1, .ref Ld1), (2, .int p2), (3, .int 1), (4, .int x2300), (5, .int v2305)] [] M2306 L2307 (rf ld) Q := by
              intro f2301
              induction f2301 with
              | zero => intro v2305 M2306 L2307 _ _ hm2303; exact absurd hm2303 (Nat.not_lt_zero _)
              | succ f2301 ih2302 =>
                intro v2305 M2306 L2307 k2308 n2309 hm2303
                refine g_iload (pc1 := 105) d_PotSearch_tryHeats_103 rfl 5 rfl ?_
                refine g_iload (pc1 := 107) d_PotSearch_tryHeats_105 rfl 4 rfl ?_
                refine g_icmp_ge (pc1 := 110) (tgt := 166) d_PotSearch_tryHeats_107 (by decide) rfl (fun h2310 => ?_) (fun h2310 => ?_)
                · refine g_return rfl d_PotSearch_tryHeats_166 rfl ?_
                  exact hQ _ _ k2308
                · refine g_aload_n (pc1 := 111) d_PotSearch_tryHeats_110 rfl 0 rfl ?_
                  refine g_aload_n (pc1 := 112) d_PotSearch_tryHeats_111 rfl 1 rfl ?_
                  refine g_iload (pc1 := 114) d_PotSearch_tryHeats_112 rfl 5 rfl ?_
                  refine g_iload_n (pc1 := 115) d_PotSearch_tryHeats_114 rfl 2 rfl ?_
                  refine g_callV0 (pc1 := 118) (As := [.ref Ld1, .int v2305, .int p2]) (rest := []) d_PotSearch_tryHeats_115 rfl mo_PotSearch_106 mi_PotSearch_isEnough mv_PotSearch_isEnough rfl sh_391 (by decide) (by decide) rfl rfl (Nat.le_of_ble_eq_true rfl) ?_
                  refine t1_PotSearch_isEnough hld Ld1 hLd1 _ _ (fun r2311 M2312 L2313 hr2311 k2314 => ?_)
                  refine g_if_eq (pc1 := 121) (tgt := 160) d_PotSearch_tryHeats_118 (by decide) rfl (fun h2315 => ?_) (fun h2315 => ?_)
                  · obtain ⟨x2316, ex2316⟩ : ∃ y : Int32, y = v2305 + 1 := ⟨_, rfl⟩
                    refine g_iinc (pc1 := 163) (v := x2316) (lv' := [(0, .ref 391), (1, .ref Ld1), (2, .int p2), (3, .int 1), (4, .int x2300), (5, .int x2316)]) d_PotSearch_tryHeats_160 rfl 5 rfl (by rw [ex2316]; rfl) (by decide) [1, 2, 3, 4, 5, 0] rfl ?_
                    refine g_goto (tgt := 103) d_PotSearch_tryHeats_163 (by decide) ?_
                    exact ih2302 x2316 M2312 L2313 (Kp.trans k2308 (Kp.mono k2314 S0_S1)) (nn_up (y := x2300) h2310 ex2316 n2309) (md_up h2310 ex2316 hm2303)
                  · refine g_aload_n (pc1 := 122) d_PotSearch_tryHeats_121 rfl 0 rfl ?_
                    refine g_iconst (pc1 := 123) (v := 1) d_PotSearch_tryHeats_122 rfl (by decide) ?_
                    refine g_putz (pc1 := 126) d_PotSearch_tryHeats_123 rfl fo_PotSearch_28 po_10_9_1 rfl sh_391 (by decide) ?_
                    refine Wp.topM (fun M2317 eM2317 => ?_)
                    refine g_aload_n (pc1 := 127) d_PotSearch_tryHeats_126 rfl 0 rfl ?_
                    refine g_aload_n (pc1 := 128) d_PotSearch_tryHeats_127 rfl 0 rfl ?_
                    refine g_geti (pc1 := 131) d_PotSearch_tryHeats_128 rfl ⟨_, fo_PotSearch_89⟩ sh_391 (by decide) ?_
                    refine g_puti (pc1 := 134) d_PotSearch_tryHeats_131 rfl fo_PotSearch_97 (po_10_6 _) sh_391 (by decide) ?_
                    refine Wp.topM (fun M2318 eM2318 => ?_)
                    refine g_aload_n (pc1 := 135) d_PotSearch_tryHeats_134 rfl 0 rfl ?_
                    refine g_aload_n (pc1 := 136) d_PotSearch_tryHeats_135 rfl 0 rfl ?_
                    refine g_geti (pc1 := 139) d_PotSearch_tryHeats_136 rfl ⟨_, fo_PotSearch_56⟩ sh_391 (by decide) ?_
                    refine g_puti (pc1 := 142) d_PotSearch_tryHeats_139 rfl fo_PotSearch_100 (po_10_7 _) sh_391 (by decide) ?_
                    refine Wp.topM (fun M2319 eM2319 => ?_)
                    refine g_aload_n (pc1 := 143) d_PotSearch_tryHeats_142 rfl 0 rfl ?_
                    refine g_iload (pc1 := 145) d_PotSearch_tryHeats_143 rfl 5 rfl ?_
                    refine g_puti (pc1 := 148) d_PotSearch_tryHeats_145 rfl fo_PotSearch_103 (po_10_8 _) sh_391 (by decide) ?_
                    refine Wp.topM (fun M2320 eM2320 => ?_)
                    refine g_aload_n (pc1 := 149) d_PotSearch_tryHeats_148 rfl 0 rfl ?_
                    refine g_getr (pc1 := 152) d_PotSearch_tryHeats_149 rfl ⟨_, fo_PotSearch_15⟩ sh_391 (by decide) (rf_391_1 ld) ?_
                    refine g_aload_n (pc1 := 153) d_PotSearch_tryHeats_152 rfl 0 rfl ?_
                    refine g_getr (pc1 := 156) d_PotSearch_tryHeats_153 rfl ⟨_, fo_PotSearch_21⟩ sh_391 (by decide) (rf_391_5 ld) ?_
                    refine g_callS0 (pc1 := 159) (As := [.ref 393, .ref 395]) (rest := []) d_PotSearch_tryHeats_156 rfl mo_PotSearch_110 ms_Main_copyRow (by decide) rfl rfl (Nat.le_of_ble_eq_true rfl) ?_
                    refine t1_Main_copyRow hld 393 sh_393 (by decide) (by decide) 395 sh_395 (by decide) (by decide) (fun  M2321 L2322 k2323 => ?_)
                    refine g_return rfl d_PotSearch_tryHeats_159 rfl ?_
                    exact hQ _ _ (Kp.trans (Kp.wM (Kp.wM (Kp.wM (Kp.wM (Kp.trans k2308 (Kp.mono k2314 S0_S1)) rfl eM2317) rfl eM2318) rfl eM2319) rfl eM2320) (Kp.mono k2323 (one_S rfl)))
            exact LP2304 _ 0 M L Kp.rf (by decide) (Nat.lt_succ_self _)
          · refine g_aload_n (pc1 := 81) d_PotSearch_tryHeats_80 rfl 0 rfl ?_
            refine g_geti (pc1 := 84) d_PotSearch_tryHeats_81 rfl ⟨_, fo_PotSearch_103⟩ sh_391 (by decide) ?_
            refine g_aload_n (pc1 := 85) d_PotSearch_tryHeats_84 rfl 0 rfl ?_
            refine g_geti (pc1 := 88) d_PotSearch_tryHeats_85 rfl ⟨_, fo_PotSearch_44⟩ sh_391 (by decide) ?_
            refine g_mmin (pc1 := 91) d_PotSearch_tryHeats_88 rfl mm_PotSearch_79 (by decide) ⟨Nat.le_refl 0, Nat.le_refl 0⟩ (Nat.le_of_ble_eq_true rfl) ?_
            refine g_goto (tgt := 98) d_PotSearch_tryHeats_91 (by decide) ?_
            refine Wp.topi (fun x2324 ex2324 => ?_)
            refine g_istore (pc1 := 100) (lv' := [(0, .ref 391), (1, .ref Ld1), (2, .int p2), (3, .int 1), (4, .int x2324)]) d_PotSearch_tryHeats_98 rfl (by decide) [1, 2, 3, 4, 0] rfl ?_
            refine g_iconst (pc1 := 101) (v := 0) d_PotSearch_tryHeats_100 rfl (by decide) ?_
            refine g_istore (pc1 := 103) (lv' := [(0, .ref 391), (1, .ref Ld1), (2, .int p2), (3, .int 1), (4, .int x2324), (5, .int 0)]) d_PotSearch_tryHeats_101 rfl (by decide) [1, 2, 3, 4, 5, 0] rfl ?_
            have LP2328 : ∀ (f2325 : Nat) (v2329 : Int32) (M2330 : gM) (L2331 : gL), Kp S1 M L M2330 L2331 → ¬ v2329 < 0 → (x2324.toInt - v2329.toInt).toNat < f2325 → Wp l y_PotSearch_tryHeats (0, 0, 447) 447 0 0 103 [(0, .ref 391), (1, .ref Ld1), (2, .int p2), (3, .int 1), (4, .int x2324), (5, .int v2329)] [] M2330 L2331 (rf ld) Q := by
              intro f2325
              induction f2325 with
              | zero => intro v2329 M2330 L2331 _ _ hm2327; exact absurd hm2327 (Nat.not_lt_zero _)
              | succ f2325 ih2326 =>
                intro v2329 M2330 L2331 k2332 n2333 hm2327
                refine g_iload (pc1 := 105) d_PotSearch_tryHeats_103 rfl 5 rfl ?_
                refine g_iload (pc1 := 107) d_PotSearch_tryHeats_105 rfl 4 rfl ?_
                refine g_icmp_ge (pc1 := 110) (tgt := 166) d_PotSearch_tryHeats_107 (by decide) rfl (fun h2334 => ?_) (fun h2334 => ?_)
                · refine g_return rfl d_PotSearch_tryHeats_166 rfl ?_
                  exact hQ _ _ k2332
                · refine g_aload_n (pc1 := 111) d_PotSearch_tryHeats_110 rfl 0 rfl ?_
                  refine g_aload_n (pc1 := 112) d_PotSearch_tryHeats_111 rfl 1 rfl ?_
                  refine g_iload (pc1 := 114) d_PotSearch_tryHeats_112 rfl 5 rfl ?_
                  refine g_iload_n (pc1 := 115) d_PotSearch_tryHeats_114 rfl 2 rfl ?_
                  refine g_callV0 (pc1 := 118) (As := [.ref Ld1, .int v2329, .int p2]) (rest := []) d_PotSearch_tryHeats_115 rfl mo_PotSearch_106 mi_PotSearch_isEnough mv_PotSearch_isEnough rfl sh_391 (by decide) (by decide) rfl rfl (Nat.le_of_ble_eq_true rfl) ?_
                  refine t1_PotSearch_isEnough hld Ld1 hLd1 _ _ (fun r2335 M2336 L2337 hr2335 k2338 => ?_)
                  refine g_if_eq (pc1 := 121) (tgt := 160) d_PotSearch_tryHeats_118 (by decide) rfl (fun h2339 => ?_) (fun h2339 => ?_)
                  · obtain ⟨x2340, ex2340⟩ : ∃ y : Int32, y = v2329 + 1 := ⟨_, rfl⟩
                    refine g_iinc (pc1 := 163) (v := x2340) (lv' := [(0, .ref 391), (1, .ref Ld1), (2, .int p2), (3, .int 1), (4, .int x2324), (5, .int x2340)]) d_PotSearch_tryHeats_160 rfl 5 rfl (by rw [ex2340]; rfl) (by decide) [1, 2, 3, 4, 5, 0] rfl ?_
                    refine g_goto (tgt := 103) d_PotSearch_tryHeats_163 (by decide) ?_
                    exact ih2326 x2340 M2336 L2337 (Kp.trans k2332 (Kp.mono k2338 S0_S1)) (nn_up (y := x2324) h2334 ex2340 n2333) (md_up h2334 ex2340 hm2327)
                  · refine g_aload_n (pc1 := 122) d_PotSearch_tryHeats_121 rfl 0 rfl ?_
                    refine g_iconst (pc1 := 123) (v := 1) d_PotSearch_tryHeats_122 rfl (by decide) ?_
                    refine g_putz (pc1 := 126) d_PotSearch_tryHeats_123 rfl fo_PotSearch_28 po_10_9_1 rfl sh_391 (by decide) ?_
                    refine Wp.topM (fun M2341 eM2341 => ?_)
                    refine g_aload_n (pc1 := 127) d_PotSearch_tryHeats_126 rfl 0 rfl ?_
                    refine g_aload_n (pc1 := 128) d_PotSearch_tryHeats_127 rfl 0 rfl ?_
                    refine g_geti (pc1 := 131) d_PotSearch_tryHeats_128 rfl ⟨_, fo_PotSearch_89⟩ sh_391 (by decide) ?_
                    refine g_puti (pc1 := 134) d_PotSearch_tryHeats_131 rfl fo_PotSearch_97 (po_10_6 _) sh_391 (by decide) ?_
                    refine Wp.topM (fun M2342 eM2342 => ?_)
                    refine g_aload_n (pc1 := 135) d_PotSearch_tryHeats_134 rfl 0 rfl ?_
                    refine g_aload_n (pc1 := 136) d_PotSearch_tryHeats_135 rfl 0 rfl ?_
                    refine g_geti (pc1 := 139) d_PotSearch_tryHeats_136 rfl ⟨_, fo_PotSearch_56⟩ sh_391 (by decide) ?_
                    refine g_puti (pc1 := 142) d_PotSearch_tryHeats_139 rfl fo_PotSearch_100 (po_10_7 _) sh_391 (by decide) ?_
                    refine Wp.topM (fun M2343 eM2343 => ?_)
                    refine g_aload_n (pc1 := 143) d_PotSearch_tryHeats_142 rfl 0 rfl ?_
                    refine g_iload (pc1 := 145) d_PotSearch_tryHeats_143 rfl 5 rfl ?_
                    refine g_puti (pc1 := 148) d_PotSearch_tryHeats_145 rfl fo_PotSearch_103 (po_10_8 _) sh_391 (by decide) ?_
                    refine Wp.topM (fun M2344 eM2344 => ?_)
                    refine g_aload_n (pc1 := 149) d_PotSearch_tryHeats_148 rfl 0 rfl ?_
                    refine g_getr (pc1 := 152) d_PotSearch_tryHeats_149 rfl ⟨_, fo_PotSearch_15⟩ sh_391 (by decide) (rf_391_1 ld) ?_
                    refine g_aload_n (pc1 := 153) d_PotSearch_tryHeats_152 rfl 0 rfl ?_
                    refine g_getr (pc1 := 156) d_PotSearch_tryHeats_153 rfl ⟨_, fo_PotSearch_21⟩ sh_391 (by decide) (rf_391_5 ld) ?_
                    refine g_callS0 (pc1 := 159) (As := [.ref 393, .ref 395]) (rest := []) d_PotSearch_tryHeats_156 rfl mo_PotSearch_110 ms_Main_copyRow (by decide) rfl rfl (Nat.le_of_ble_eq_true rfl) ?_
                    refine t1_Main_copyRow hld 393 sh_393 (by decide) (by decide) 395 sh_395 (by decide) (by decide) (fun  M2345 L2346 k2347 => ?_)
                    refine g_return rfl d_PotSearch_tryHeats_159 rfl ?_
                    exact hQ _ _ (Kp.trans (Kp.wM (Kp.wM (Kp.wM (Kp.wM (Kp.trans k2332 (Kp.mono k2338 S0_S1)) rfl eM2341) rfl eM2342) rfl eM2343) rfl eM2344) (Kp.mono k2347 (one_S rfl)))
            exact LP2328 _ 0 M L Kp.rf (by decide) (Nat.lt_succ_self _)
  · refine g_aload_n (pc1 := 8) d_PotSearch_tryHeats_7 rfl 0 rfl ?_
    refine g_geti (pc1 := 11) d_PotSearch_tryHeats_8 rfl ⟨_, fo_PotSearch_89⟩ sh_391 (by decide) ?_
    refine g_aload_n (pc1 := 12) d_PotSearch_tryHeats_11 rfl 0 rfl ?_
    refine g_geti (pc1 := 15) d_PotSearch_tryHeats_12 rfl ⟨_, fo_PotSearch_97⟩ sh_391 (by decide) ?_
    refine g_icmp_gt (pc1 := 18) (tgt := 40) d_PotSearch_tryHeats_15 (by decide) rfl (fun h2348 => ?_) (fun h2348 => ?_)
    · refine g_return rfl d_PotSearch_tryHeats_40 rfl ?_
      exact hQ _ _ Kp.rf
    · refine g_aload_n (pc1 := 19) d_PotSearch_tryHeats_18 rfl 0 rfl ?_
      refine g_geti (pc1 := 22) d_PotSearch_tryHeats_19 rfl ⟨_, fo_PotSearch_89⟩ sh_391 (by decide) ?_
      refine g_aload_n (pc1 := 23) d_PotSearch_tryHeats_22 rfl 0 rfl ?_
      refine g_geti (pc1 := 26) d_PotSearch_tryHeats_23 rfl ⟨_, fo_PotSearch_97⟩ sh_391 (by decide) ?_
      refine g_icmp_ne (pc1 := 29) (tgt := 41) d_PotSearch_tryHeats_26 (by decide) rfl (fun h2349 => ?_) (fun h2349 => ?_)
      · refine g_aload_n (pc1 := 42) d_PotSearch_tryHeats_41 rfl 0 rfl ?_
        refine g_getz (pc1 := 45) d_PotSearch_tryHeats_42 rfl ⟨_, fo_PotSearch_28⟩ sh_391 (by decide) ?_
        refine g_if_eq (pc1 := 48) (tgt := 74) d_PotSearch_tryHeats_45 (by decide) rfl (fun h2350 => ?_) (fun h2350 => ?_)
        · refine g_iconst (pc1 := 75) (v := 0) d_PotSearch_tryHeats_74 rfl (by decide) ?_
          refine g_istore_n (pc1 := 76) (lv' := [(0, .ref 391), (1, .ref Ld1), (2, .int p2), (3, .int 0)]) d_PotSearch_tryHeats_75 rfl rfl (by decide) [1, 2, 3, 0] rfl ?_
          refine g_iload_n (pc1 := 77) d_PotSearch_tryHeats_76 rfl 3 rfl ?_
          refine g_if_eq (pc1 := 80) (tgt := 94) d_PotSearch_tryHeats_77 (by decide) rfl (fun h2351 => ?_) (fun h2351 => ?_)
          · refine g_aload_n (pc1 := 95) d_PotSearch_tryHeats_94 rfl 0 rfl ?_
            refine g_geti (pc1 := 98) d_PotSearch_tryHeats_95 rfl ⟨_, fo_PotSearch_44⟩ sh_391 (by decide) ?_
            refine Wp.topi (fun x2352 ex2352 => ?_)
            refine g_istore (pc1 := 100) (lv' := [(0, .ref 391), (1, .ref Ld1), (2, .int p2), (3, .int 0), (4, .int x2352)]) d_PotSearch_tryHeats_98 rfl (by decide) [1, 2, 3, 4, 0] rfl ?_
            refine g_iconst (pc1 := 101) (v := 0) d_PotSearch_tryHeats_100 rfl (by decide) ?_
            refine g_istore (pc1 := 103) (lv' := [(0, .ref 391), (1, .ref Ld1), (2, .int p2), (3, .int 0), (4, .int x2352), (5, .int 0)]) d_PotSearch_tryHeats_101 rfl (by decide) [1, 2, 3, 4, 5, 0] rfl ?_
            have LP2356 : ∀ (f2353 : Nat) (v2357 : Int32) (M2358 : gM) (L2359 : gL), Kp S1 M L M2358 L2359 → ¬ v2357 < 0 → (x2352.toInt - v2357.toInt).toNat < f2353 → Wp l y_PotSearch_tryHeats (0, 0, 447) 447 0 0 103 [(0, .ref 391), (1, .ref Ld1), (2, .int p2), (3, .int 0), (4, .int x2352), (5, .int v2357)] [] M2358 L2359 (rf ld) Q := by
              intro f2353
              induction f2353 with
              | zero => intro v2357 M2358 L2359 _ _ hm2355; exact absurd hm2355 (Nat.not_lt_zero _)
              | succ f2353 ih2354 =>
                intro v2357 M2358 L2359 k2360 n2361 hm2355
                refine g_iload (pc1 := 105) d_PotSearch_tryHeats_103 rfl 5 rfl ?_
                refine g_iload (pc1 := 107) d_PotSearch_tryHeats_105 rfl 4 rfl ?_
                refine g_icmp_ge (pc1 := 110) (tgt := 166) d_PotSearch_tryHeats_107 (by decide) rfl (fun h2362 => ?_) (fun h2362 => ?_)
                · refine g_return rfl d_PotSearch_tryHeats_166 rfl ?_
                  exact hQ _ _ k2360
                · refine g_aload_n (pc1 := 111) d_PotSearch_tryHeats_110 rfl 0 rfl ?_
                  refine g_aload_n (pc1 := 112) d_PotSearch_tryHeats_111 rfl 1 rfl ?_
                  refine g_iload (pc1 := 114) d_PotSearch_tryHeats_112 rfl 5 rfl ?_
                  refine g_iload_n (pc1 := 115) d_PotSearch_tryHeats_114 rfl 2 rfl ?_
                  refine g_callV0 (pc1 := 118) (As := [.ref Ld1, .int v2357, .int p2]) (rest := []) d_PotSearch_tryHeats_115 rfl mo_PotSearch_106 mi_PotSearch_isEnough mv_PotSearch_isEnough rfl sh_391 (by decide) (by decide) rfl rfl (Nat.le_of_ble_eq_true rfl) ?_
                  refine t1_PotSearch_isEnough hld Ld1 hLd1 _ _ (fun r2363 M2364 L2365 hr2363 k2366 => ?_)
                  refine g_if_eq (pc1 := 121) (tgt := 160) d_PotSearch_tryHeats_118 (by decide) rfl (fun h2367 => ?_) (fun h2367 => ?_)
                  · obtain ⟨x2368, ex2368⟩ : ∃ y : Int32, y = v2357 + 1 := ⟨_, rfl⟩
                    refine g_iinc (pc1 := 163) (v := x2368) (lv' := [(0, .ref 391), (1, .ref Ld1), (2, .int p2), (3, .int 0), (4, .int x2352), (5, .int x2368)]) d_PotSearch_tryHeats_160 rfl 5 rfl (by rw [ex2368]; rfl) (by decide) [1, 2, 3, 4, 5, 0] rfl ?_
                    refine g_goto (tgt := 103) d_PotSearch_tryHeats_163 (by decide) ?_
                    exact ih2354 x2368 M2364 L2365 (Kp.trans k2360 (Kp.mono k2366 S0_S1)) (nn_up (y := x2352) h2362 ex2368 n2361) (md_up h2362 ex2368 hm2355)
                  · refine g_aload_n (pc1 := 122) d_PotSearch_tryHeats_121 rfl 0 rfl ?_
                    refine g_iconst (pc1 := 123) (v := 1) d_PotSearch_tryHeats_122 rfl (by decide) ?_
                    refine g_putz (pc1 := 126) d_PotSearch_tryHeats_123 rfl fo_PotSearch_28 po_10_9_1 rfl sh_391 (by decide) ?_
                    refine Wp.topM (fun M2369 eM2369 => ?_)
                    refine g_aload_n (pc1 := 127) d_PotSearch_tryHeats_126 rfl 0 rfl ?_
                    refine g_aload_n (pc1 := 128) d_PotSearch_tryHeats_127 rfl 0 rfl ?_
                    refine g_geti (pc1 := 131) d_PotSearch_tryHeats_128 rfl ⟨_, fo_PotSearch_89⟩ sh_391 (by decide) ?_
                    refine g_puti (pc1 := 134) d_PotSearch_tryHeats_131 rfl fo_PotSearch_97 (po_10_6 _) sh_391 (by decide) ?_
                    refine Wp.topM (fun M2370 eM2370 => ?_)
                    refine g_aload_n (pc1 := 135) d_PotSearch_tryHeats_134 rfl 0 rfl ?_
                    refine g_aload_n (pc1 := 136) d_PotSearch_tryHeats_135 rfl 0 rfl ?_
                    refine g_geti (pc1 := 139) d_PotSearch_tryHeats_136 rfl ⟨_, fo_PotSearch_56⟩ sh_391 (by decide) ?_
                    refine g_puti (pc1 := 142) d_PotSearch_tryHeats_139 rfl fo_PotSearch_100 (po_10_7 _) sh_391 (by decide) ?_
                    refine Wp.topM (fun M2371 eM2371 => ?_)
                    refine g_aload_n (pc1 := 143) d_PotSearch_tryHeats_142 rfl 0 rfl ?_
                    refine g_iload (pc1 := 145) d_PotSearch_tryHeats_143 rfl 5 rfl ?_
                    refine g_puti (pc1 := 148) d_PotSearch_tryHeats_145 rfl fo_PotSearch_103 (po_10_8 _) sh_391 (by decide) ?_
                    refine Wp.topM (fun M2372 eM2372 => ?_)
                    refine g_aload_n (pc1 := 149) d_PotSearch_tryHeats_148 rfl 0 rfl ?_
                    refine g_getr (pc1 := 152) d_PotSearch_tryHeats_149 rfl ⟨_, fo_PotSearch_15⟩ sh_391 (by decide) (rf_391_1 ld) ?_
                    refine g_aload_n (pc1 := 153) d_PotSearch_tryHeats_152 rfl 0 rfl ?_
                    refine g_getr (pc1 := 156) d_PotSearch_tryHeats_153 rfl ⟨_, fo_PotSearch_21⟩ sh_391 (by decide) (rf_391_5 ld) ?_
                    refine g_callS0 (pc1 := 159) (As := [.ref 393, .ref 395]) (rest := []) d_PotSearch_tryHeats_156 rfl mo_PotSearch_110 ms_Main_copyRow (by decide) rfl rfl (Nat.le_of_ble_eq_true rfl) ?_
                    refine t1_Main_copyRow hld 393 sh_393 (by decide) (by decide) 395 sh_395 (by decide) (by decide) (fun  M2373 L2374 k2375 => ?_)
                    refine g_return rfl d_PotSearch_tryHeats_159 rfl ?_
                    exact hQ _ _ (Kp.trans (Kp.wM (Kp.wM (Kp.wM (Kp.wM (Kp.trans k2360 (Kp.mono k2366 S0_S1)) rfl eM2369) rfl eM2370) rfl eM2371) rfl eM2372) (Kp.mono k2375 (one_S rfl)))
            exact LP2356 _ 0 M L Kp.rf (by decide) (Nat.lt_succ_self _)
          · refine g_aload_n (pc1 := 81) d_PotSearch_tryHeats_80 rfl 0 rfl ?_
            refine g_geti (pc1 := 84) d_PotSearch_tryHeats_81 rfl ⟨_, fo_PotSearch_103⟩ sh_391 (by decide) ?_
            refine g_aload_n (pc1 := 85) d_PotSearch_tryHeats_84 rfl 0 rfl ?_
            refine g_geti (pc1 := 88) d_PotSearch_tryHeats_85 rfl ⟨_, fo_PotSearch_44⟩ sh_391 (by decide) ?_
            refine g_mmin (pc1 := 91) d_PotSearch_tryHeats_88 rfl mm_PotSearch_79 (by decide) ⟨Nat.le_refl 0, Nat.le_refl 0⟩ (Nat.le_of_ble_eq_true rfl) ?_
            refine g_goto (tgt := 98) d_PotSearch_tryHeats_91 (by decide) ?_
            refine Wp.topi (fun x2376 ex2376 => ?_)
            refine g_istore (pc1 := 100) (lv' := [(0, .ref 391), (1, .ref Ld1), (2, .int p2), (3, .int 0), (4, .int x2376)]) d_PotSearch_tryHeats_98 rfl (by decide) [1, 2, 3, 4, 0] rfl ?_
            refine g_iconst (pc1 := 101) (v := 0) d_PotSearch_tryHeats_100 rfl (by decide) ?_
            refine g_istore (pc1 := 103) (lv' := [(0, .ref 391), (1, .ref Ld1), (2, .int p2), (3, .int 0), (4, .int x2376), (5, .int 0)]) d_PotSearch_tryHeats_101 rfl (by decide) [1, 2, 3, 4, 5, 0] rfl ?_
            have LP2380 : ∀ (f2377 : Nat) (v2381 : Int32) (M2382 : gM) (L2383 : gL), Kp S1 M L M2382 L2383 → ¬ v2381 < 0 → (x2376.toInt - v2381.toInt).toNat < f2377 → Wp l y_PotSearch_tryHeats (0, 0, 447) 447 0 0 103 [(0, .ref 391), (1, .ref Ld1), (2, .int p2), (3, .int 0), (4, .int x2376), (5, .int v2381)] [] M2382 L2383 (rf ld) Q := by
              intro f2377
              induction f2377 with
              | zero => intro v2381 M2382 L2383 _ _ hm2379; exact absurd hm2379 (Nat.not_lt_zero _)
              | succ f2377 ih2378 =>
                intro v2381 M2382 L2383 k2384 n2385 hm2379
                refine g_iload (pc1 := 105) d_PotSearch_tryHeats_103 rfl 5 rfl ?_
                refine g_iload (pc1 := 107) d_PotSearch_tryHeats_105 rfl 4 rfl ?_
                refine g_icmp_ge (pc1 := 110) (tgt := 166) d_PotSearch_tryHeats_107 (by decide) rfl (fun h2386 => ?_) (fun h2386 => ?_)
                · refine g_return rfl d_PotSearch_tryHeats_166 rfl ?_
                  exact hQ _ _ k2384
                · refine g_aload_n (pc1 := 111) d_PotSearch_tryHeats_110 rfl 0 rfl ?_
                  refine g_aload_n (pc1 := 112) d_PotSearch_tryHeats_111 rfl 1 rfl ?_
                  refine g_iload (pc1 := 114) d_PotSearch_tryHeats_112 rfl 5 rfl ?_
                  refine g_iload_n (pc1 := 115) d_PotSearch_tryHeats_114 rfl 2 rfl ?_
                  refine g_callV0 (pc1 := 118) (As := [.ref Ld1, .int v2381, .int p2]) (rest := []) d_PotSearch_tryHeats_115 rfl mo_PotSearch_106 mi_PotSearch_isEnough mv_PotSearch_isEnough rfl sh_391 (by decide) (by decide) rfl rfl (Nat.le_of_ble_eq_true rfl) ?_
                  refine t1_PotSearch_isEnough hld Ld1 hLd1 _ _ (fun r2387 M2388 L2389 hr2387 k2390 => ?_)
                  refine g_if_eq (pc1 := 121) (tgt := 160) d_PotSearch_tryHeats_118 (by decide) rfl (fun h2391 => ?_) (fun h2391 => ?_)
                  · obtain ⟨x2392, ex2392⟩ : ∃ y : Int32, y = v2381 + 1 := ⟨_, rfl⟩
                    refine g_iinc (pc1 := 163) (v := x2392) (lv' := [(0, .ref 391), (1, .ref Ld1), (2, .int p2), (3, .int 0), (4, .int x2376), (5, .int x2392)]) d_PotSearch_tryHeats_160 rfl 5 rfl (by rw [ex2392]; rfl) (by decide) [1, 2, 3, 4, 5, 0] rfl ?_
                    refine g_goto (tgt := 103) d_PotSearch_tryHeats_163 (by decide) ?_
                    exact ih2378 x2392 M2388 L2389 (Kp.trans k2384 (Kp.mono k2390 S0_S1)) (nn_up (y := x2376) h2386 ex2392 n2385) (md_up h2386 ex2392 hm2379)
                  · refine g_aload_n (pc1 := 122) d_PotSearch_tryHeats_121 rfl 0 rfl ?_
                    refine g_iconst (pc1 := 123) (v := 1) d_PotSearch_tryHeats_122 rfl (by decide) ?_
                    refine g_putz (pc1 := 126) d_PotSearch_tryHeats_123 rfl fo_PotSearch_28 po_10_9_1 rfl sh_391 (by decide) ?_
                    refine Wp.topM (fun M2393 eM2393 => ?_)
                    refine g_aload_n (pc1 := 127) d_PotSearch_tryHeats_126 rfl 0 rfl ?_
                    refine g_aload_n (pc1 := 128) d_PotSearch_tryHeats_127 rfl 0 rfl ?_
                    refine g_geti (pc1 := 131) d_PotSearch_tryHeats_128 rfl ⟨_, fo_PotSearch_89⟩ sh_391 (by decide) ?_
                    refine g_puti (pc1 := 134) d_PotSearch_tryHeats_131 rfl fo_PotSearch_97 (po_10_6 _) sh_391 (by decide) ?_
                    refine Wp.topM (fun M2394 eM2394 => ?_)
                    refine g_aload_n (pc1 := 135) d_PotSearch_tryHeats_134 rfl 0 rfl ?_
                    refine g_aload_n (pc1 := 136) d_PotSearch_tryHeats_135 rfl 0 rfl ?_
                    refine g_geti (pc1 := 139) d_PotSearch_tryHeats_136 rfl ⟨_, fo_PotSearch_56⟩ sh_391 (by decide) ?_
                    refine g_puti (pc1 := 142) d_PotSearch_tryHeats_139 rfl fo_PotSearch_100 (po_10_7 _) sh_391 (by decide) ?_
                    refine Wp.topM (fun M2395 eM2395 => ?_)
                    refine g_aload_n (pc1 := 143) d_PotSearch_tryHeats_142 rfl 0 rfl ?_
                    refine g_iload (pc1 := 145) d_PotSearch_tryHeats_143 rfl 5 rfl ?_
                    refine g_puti (pc1 := 148) d_PotSearch_tryHeats_145 rfl fo_PotSearch_103 (po_10_8 _) sh_391 (by decide) ?_
                    refine Wp.topM (fun M2396 eM2396 => ?_)
                    refine g_aload_n (pc1 := 149) d_PotSearch_tryHeats_148 rfl 0 rfl ?_
                    refine g_getr (pc1 := 152) d_PotSearch_tryHeats_149 rfl ⟨_, fo_PotSearch_15⟩ sh_391 (by decide) (rf_391_1 ld) ?_
                    refine g_aload_n (pc1 := 153) d_PotSearch_tryHeats_152 rfl 0 rfl ?_
                    refine g_getr (pc1 := 156) d_PotSearch_tryHeats_153 rfl ⟨_, fo_PotSearch_21⟩ sh_391 (by decide) (rf_391_5 ld) ?_
                    refine g_callS0 (pc1 := 159) (As := [.ref 393, .ref 395]) (rest := []) d_PotSearch_tryHeats_156 rfl mo_PotSearch_110 ms_Main_copyRow (by decide) rfl rfl (Nat.le_of_ble_eq_true rfl) ?_
                    refine t1_Main_copyRow hld 393 sh_393 (by decide) (by decide) 395 sh_395 (by decide) (by decide) (fun  M2397 L2398 k2399 => ?_)
                    refine g_return rfl d_PotSearch_tryHeats_159 rfl ?_
                    exact hQ _ _ (Kp.trans (Kp.wM (Kp.wM (Kp.wM (Kp.wM (Kp.trans k2384 (Kp.mono k2390 S0_S1)) rfl eM2393) rfl eM2394) rfl eM2395) rfl eM2396) (Kp.mono k2399 (one_S rfl)))
            exact LP2380 _ 0 M L Kp.rf (by decide) (Nat.lt_succ_self _)
        · refine g_aload_n (pc1 := 49) d_PotSearch_tryHeats_48 rfl 0 rfl ?_
          refine g_geti (pc1 := 52) d_PotSearch_tryHeats_49 rfl ⟨_, fo_PotSearch_89⟩ sh_391 (by decide) ?_
          refine g_aload_n (pc1 := 53) d_PotSearch_tryHeats_52 rfl 0 rfl ?_
          refine g_geti (pc1 := 56) d_PotSearch_tryHeats_53 rfl ⟨_, fo_PotSearch_97⟩ sh_391 (by decide) ?_
          refine g_icmp_ne (pc1 := 59) (tgt := 74) d_PotSearch_tryHeats_56 (by decide) rfl (fun h2400 => ?_) (fun h2400 => ?_)
          · refine g_iconst (pc1 := 75) (v := 0) d_PotSearch_tryHeats_74 rfl (by decide) ?_
            refine g_istore_n (pc1 := 76) (lv' := [(0, .ref 391), (1, .ref Ld1), (2, .int p2), (3, .int 0)]) d_PotSearch_tryHeats_75 rfl rfl (by decide) [1, 2, 3, 0] rfl ?_
            refine g_iload_n (pc1 := 77) d_PotSearch_tryHeats_76 rfl 3 rfl ?_
            refine g_if_eq (pc1 := 80) (tgt := 94) d_PotSearch_tryHeats_77 (by decide) rfl (fun h2401 => ?_) (fun h2401 => ?_)
            · refine g_aload_n (pc1 := 95) d_PotSearch_tryHeats_94 rfl 0 rfl ?_
              refine g_geti (pc1 := 98) d_PotSearch_tryHeats_95 rfl ⟨_, fo_PotSearch_44⟩ sh_391 (by decide) ?_
              refine Wp.topi (fun x2402 ex2402 => ?_)
              refine g_istore (pc1 := 100) (lv' := [(0, .ref 391), (1, .ref Ld1), (2, .int p2), (3, .int 0), (4, .int x2402)]) d_PotSearch_tryHeats_98 rfl (by decide) [1, 2, 3, 4, 0] rfl ?_
              refine g_iconst (pc1 := 101) (v := 0) d_PotSearch_tryHeats_100 rfl (by decide) ?_
              refine g_istore (pc1 := 103) (lv' := [(0, .ref 391), (1, .ref Ld1), (2, .int p2), (3, .int 0), (4, .int x2402), (5, .int 0)]) d_PotSearch_tryHeats_101 rfl (by decide) [1, 2, 3, 4, 5, 0] rfl ?_
              have LP2406 : ∀ (f2403 : Nat) (v2407 : Int32) (M2408 : gM) (L2409 : gL), Kp S1 M L M2408 L2409 → ¬ v2407 < 0 → (x2402.toInt - v2407.toInt).toNat < f2403 → Wp l y_PotSearch_tryHeats (0, 0, 447) 447 0 0 103 [(0, .ref 391), (1, .ref Ld1), (2, .int p2), (3, .int 0), (4, .int x2402), (5, .int v2407)] [] M2408 L2409 (rf ld) Q := by
                intro f2403
                induction f2403 with
                | zero => intro v2407 M2408 L2409 _ _ hm2405; exact absurd hm2405 (Nat.not_lt_zero _)
                | succ f2403 ih2404 =>
                  intro v2407 M2408 L2409 k2410 n2411 hm2405
                  refine g_iload (pc1 := 105) d_PotSearch_tryHeats_103 rfl 5 rfl ?_
                  refine g_iload (pc1 := 107) d_PotSearch_tryHeats_105 rfl 4 rfl ?_
                  refine g_icmp_ge (pc1 := 110) (tgt := 166) d_PotSearch_tryHeats_107 (by decide) rfl (fun h2412 => ?_) (fun h2412 => ?_)
                  · refine g_return rfl d_PotSearch_tryHeats_166 rfl ?_
                    exact hQ _ _ k2410
                  · refine g_aload_n (pc1 := 111) d_PotSearch_tryHeats_110 rfl 0 rfl ?_
                    refine g_aload_n (pc1 := 112) d_PotSearch_tryHeats_111 rfl 1 rfl ?_
                    refine g_iload (pc1 := 114) d_PotSearch_tryHeats_112 rfl 5 rfl ?_
                    refine g_iload_n (pc1 := 115) d_PotSearch_tryHeats_114 rfl 2 rfl ?_
                    refine g_callV0 (pc1 := 118) (As := [.ref Ld1, .int v2407, .int p2]) (rest := []) d_PotSearch_tryHeats_115 rfl mo_PotSearch_106 mi_PotSearch_isEnough mv_PotSearch_isEnough rfl sh_391 (by decide) (by decide) rfl rfl (Nat.le_of_ble_eq_true rfl) ?_
                    refine t1_PotSearch_isEnough hld Ld1 hLd1 _ _ (fun r2413 M2414 L2415 hr2413 k2416 => ?_)
                    refine g_if_eq (pc1 := 121) (tgt := 160) d_PotSearch_tryHeats_118 (by decide) rfl (fun h2417 => ?_) (fun h2417 => ?_)
                    · obtain ⟨x2418, ex2418⟩ : ∃ y : Int32, y = v2407 + 1 := ⟨_, rfl⟩
                      refine g_iinc (pc1 := 163) (v := x2418) (lv' := [(0, .ref 391), (1, .ref Ld1), (2, .int p2), (3, .int 0), (4, .int x2402), (5, .int x2418)]) d_PotSearch_tryHeats_160 rfl 5 rfl (by rw [ex2418]; rfl) (by decide) [1, 2, 3, 4, 5, 0] rfl ?_
                      refine g_goto (tgt := 103) d_PotSearch_tryHeats_163 (by decide) ?_
                      exact ih2404 x2418 M2414 L2415 (Kp.trans k2410 (Kp.mono k2416 S0_S1)) (nn_up (y := x2402) h2412 ex2418 n2411) (md_up h2412 ex2418 hm2405)
                    · refine g_aload_n (pc1 := 122) d_PotSearch_tryHeats_121 rfl 0 rfl ?_
                      refine g_iconst (pc1 := 123) (v := 1) d_PotSearch_tryHeats_122 rfl (by decide) ?_
                      refine g_putz (pc1 := 126) d_PotSearch_tryHeats_123 rfl fo_PotSearch_28 po_10_9_1 rfl sh_391 (by decide) ?_
                      refine Wp.topM (fun M2419 eM2419 => ?_)
                      refine g_aload_n (pc1 := 127) d_PotSearch_tryHeats_126 rfl 0 rfl ?_
                      refine g_aload_n (pc1 := 128) d_PotSearch_tryHeats_127 rfl 0 rfl ?_
                      refine g_geti (pc1 := 131) d_PotSearch_tryHeats_128 rfl ⟨_, fo_PotSearch_89⟩ sh_391 (by decide) ?_
                      refine g_puti (pc1 := 134) d_PotSearch_tryHeats_131 rfl fo_PotSearch_97 (po_10_6 _) sh_391 (by decide) ?_
                      refine Wp.topM (fun M2420 eM2420 => ?_)
                      refine g_aload_n (pc1 := 135) d_PotSearch_tryHeats_134 rfl 0 rfl ?_
                      refine g_aload_n (pc1 := 136) d_PotSearch_tryHeats_135 rfl 0 rfl ?_
                      refine g_geti (pc1 := 139) d_PotSearch_tryHeats_136 rfl ⟨_, fo_PotSearch_56⟩ sh_391 (by decide) ?_
                      refine g_puti (pc1 := 142) d_PotSearch_tryHeats_139 rfl fo_PotSearch_100 (po_10_7 _) sh_391 (by decide) ?_
                      refine Wp.topM (fun M2421 eM2421 => ?_)
                      refine g_aload_n (pc1 := 143) d_PotSearch_tryHeats_142 rfl 0 rfl ?_
                      refine g_iload (pc1 := 145) d_PotSearch_tryHeats_143 rfl 5 rfl ?_
                      refine g_puti (pc1 := 148) d_PotSearch_tryHeats_145 rfl fo_PotSearch_103 (po_10_8 _) sh_391 (by decide) ?_
                      refine Wp.topM (fun M2422 eM2422 => ?_)
                      refine g_aload_n (pc1 := 149) d_PotSearch_tryHeats_148 rfl 0 rfl ?_
                      refine g_getr (pc1 := 152) d_PotSearch_tryHeats_149 rfl ⟨_, fo_PotSearch_15⟩ sh_391 (by decide) (rf_391_1 ld) ?_
                      refine g_aload_n (pc1 := 153) d_PotSearch_tryHeats_152 rfl 0 rfl ?_
                      refine g_getr (pc1 := 156) d_PotSearch_tryHeats_153 rfl ⟨_, fo_PotSearch_21⟩ sh_391 (by decide) (rf_391_5 ld) ?_
                      refine g_callS0 (pc1 := 159) (As := [.ref 393, .ref 395]) (rest := []) d_PotSearch_tryHeats_156 rfl mo_PotSearch_110 ms_Main_copyRow (by decide) rfl rfl (Nat.le_of_ble_eq_true rfl) ?_
                      refine t1_Main_copyRow hld 393 sh_393 (by decide) (by decide) 395 sh_395 (by decide) (by decide) (fun  M2423 L2424 k2425 => ?_)
                      refine g_return rfl d_PotSearch_tryHeats_159 rfl ?_
                      exact hQ _ _ (Kp.trans (Kp.wM (Kp.wM (Kp.wM (Kp.wM (Kp.trans k2410 (Kp.mono k2416 S0_S1)) rfl eM2419) rfl eM2420) rfl eM2421) rfl eM2422) (Kp.mono k2425 (one_S rfl)))
              exact LP2406 _ 0 M L Kp.rf (by decide) (Nat.lt_succ_self _)
            · refine g_aload_n (pc1 := 81) d_PotSearch_tryHeats_80 rfl 0 rfl ?_
              refine g_geti (pc1 := 84) d_PotSearch_tryHeats_81 rfl ⟨_, fo_PotSearch_103⟩ sh_391 (by decide) ?_
              refine g_aload_n (pc1 := 85) d_PotSearch_tryHeats_84 rfl 0 rfl ?_
              refine g_geti (pc1 := 88) d_PotSearch_tryHeats_85 rfl ⟨_, fo_PotSearch_44⟩ sh_391 (by decide) ?_
              refine g_mmin (pc1 := 91) d_PotSearch_tryHeats_88 rfl mm_PotSearch_79 (by decide) ⟨Nat.le_refl 0, Nat.le_refl 0⟩ (Nat.le_of_ble_eq_true rfl) ?_
              refine g_goto (tgt := 98) d_PotSearch_tryHeats_91 (by decide) ?_
              refine Wp.topi (fun x2426 ex2426 => ?_)
              refine g_istore (pc1 := 100) (lv' := [(0, .ref 391), (1, .ref Ld1), (2, .int p2), (3, .int 0), (4, .int x2426)]) d_PotSearch_tryHeats_98 rfl (by decide) [1, 2, 3, 4, 0] rfl ?_
              refine g_iconst (pc1 := 101) (v := 0) d_PotSearch_tryHeats_100 rfl (by decide) ?_
              refine g_istore (pc1 := 103) (lv' := [(0, .ref 391), (1, .ref Ld1), (2, .int p2), (3, .int 0), (4, .int x2426), (5, .int 0)]) d_PotSearch_tryHeats_101 rfl (by decide) [1, 2, 3, 4, 5, 0] rfl ?_
              have LP2430 : ∀ (f2427 : Nat) (v2431 : Int32) (M2432 : gM) (L2433 : gL), Kp S1 M L M2432 L2433 → ¬ v2431 < 0 → (x2426.toInt - v2431.toInt).toNat < f2427 → Wp l y_PotSearch_tryHeats (0, 0, 447) 447 0 0 103 [(0, .ref 391), (1, .ref Ld1), (2, .int p2), (3, .int 0), (4, .int x2426), (5, .int v2431)] [] M2432 L2433 (rf ld) Q := by
                intro f2427
                induction f2427 with
                | zero => intro v2431 M2432 L2433 _ _ hm2429; exact absurd hm2429 (Nat.not_lt_zero _)
                | succ f2427 ih2428 =>
                  intro v2431 M2432 L2433 k2434 n2435 hm2429
                  refine g_iload (pc1 := 105) d_PotSearch_tryHeats_103 rfl 5 rfl ?_
                  refine g_iload (pc1 := 107) d_PotSearch_tryHeats_105 rfl 4 rfl ?_
                  refine g_icmp_ge (pc1 := 110) (tgt := 166) d_PotSearch_tryHeats_107 (by decide) rfl (fun h2436 => ?_) (fun h2436 => ?_)
                  · refine g_return rfl d_PotSearch_tryHeats_166 rfl ?_
                    exact hQ _ _ k2434
                  · refine g_aload_n (pc1 := 111) d_PotSearch_tryHeats_110 rfl 0 rfl ?_
                    refine g_aload_n (pc1 := 112) d_PotSearch_tryHeats_111 rfl 1 rfl ?_
                    refine g_iload (pc1 := 114) d_PotSearch_tryHeats_112 rfl 5 rfl ?_
                    refine g_iload_n (pc1 := 115) d_PotSearch_tryHeats_114 rfl 2 rfl ?_
                    refine g_callV0 (pc1 := 118) (As := [.ref Ld1, .int v2431, .int p2]) (rest := []) d_PotSearch_tryHeats_115 rfl mo_PotSearch_106 mi_PotSearch_isEnough mv_PotSearch_isEnough rfl sh_391 (by decide) (by decide) rfl rfl (Nat.le_of_ble_eq_true rfl) ?_
                    refine t1_PotSearch_isEnough hld Ld1 hLd1 _ _ (fun r2437 M2438 L2439 hr2437 k2440 => ?_)
                    refine g_if_eq (pc1 := 121) (tgt := 160) d_PotSearch_tryHeats_118 (by decide) rfl (fun h2441 => ?_) (fun h2441 => ?_)
                    · obtain ⟨x2442, ex2442⟩ : ∃ y : Int32, y = v2431 + 1 := ⟨_, rfl⟩
                      refine g_iinc (pc1 := 163) (v := x2442) (lv' := [(0, .ref 391), (1, .ref Ld1), (2, .int p2), (3, .int 0), (4, .int x2426), (5, .int x2442)]) d_PotSearch_tryHeats_160 rfl 5 rfl (by rw [ex2442]; rfl) (by decide) [1, 2, 3, 4, 5, 0] rfl ?_
                      refine g_goto (tgt := 103) d_PotSearch_tryHeats_163 (by decide) ?_
                      exact ih2428 x2442 M2438 L2439 (Kp.trans k2434 (Kp.mono k2440 S0_S1)) (nn_up (y := x2426) h2436 ex2442 n2435) (md_up h2436 ex2442 hm2429)
                    · refine g_aload_n (pc1 := 122) d_PotSearch_tryHeats_121 rfl 0 rfl ?_
                      refine g_iconst (pc1 := 123) (v := 1) d_PotSearch_tryHeats_122 rfl (by decide) ?_
                      refine g_putz (pc1 := 126) d_PotSearch_tryHeats_123 rfl fo_PotSearch_28 po_10_9_1 rfl sh_391 (by decide) ?_
                      refine Wp.topM (fun M2443 eM2443 => ?_)
                      refine g_aload_n (pc1 := 127) d_PotSearch_tryHeats_126 rfl 0 rfl ?_
                      refine g_aload_n (pc1 := 128) d_PotSearch_tryHeats_127 rfl 0 rfl ?_
                      refine g_geti (pc1 := 131) d_PotSearch_tryHeats_128 rfl ⟨_, fo_PotSearch_89⟩ sh_391 (by decide) ?_
                      refine g_puti (pc1 := 134) d_PotSearch_tryHeats_131 rfl fo_PotSearch_97 (po_10_6 _) sh_391 (by decide) ?_
                      refine Wp.topM (fun M2444 eM2444 => ?_)
                      refine g_aload_n (pc1 := 135) d_PotSearch_tryHeats_134 rfl 0 rfl ?_
                      refine g_aload_n (pc1 := 136) d_PotSearch_tryHeats_135 rfl 0 rfl ?_
                      refine g_geti (pc1 := 139) d_PotSearch_tryHeats_136 rfl ⟨_, fo_PotSearch_56⟩ sh_391 (by decide) ?_
                      refine g_puti (pc1 := 142) d_PotSearch_tryHeats_139 rfl fo_PotSearch_100 (po_10_7 _) sh_391 (by decide) ?_
                      refine Wp.topM (fun M2445 eM2445 => ?_)
                      refine g_aload_n (pc1 := 143) d_PotSearch_tryHeats_142 rfl 0 rfl ?_
                      refine g_iload (pc1 := 145) d_PotSearch_tryHeats_143 rfl 5 rfl ?_
                      refine g_puti (pc1 := 148) d_PotSearch_tryHeats_145 rfl fo_PotSearch_103 (po_10_8 _) sh_391 (by decide) ?_
                      refine Wp.topM (fun M2446 eM2446 => ?_)
                      refine g_aload_n (pc1 := 149) d_PotSearch_tryHeats_148 rfl 0 rfl ?_
                      refine g_getr (pc1 := 152) d_PotSearch_tryHeats_149 rfl ⟨_, fo_PotSearch_15⟩ sh_391 (by decide) (rf_391_1 ld) ?_
                      refine g_aload_n (pc1 := 153) d_PotSearch_tryHeats_152 rfl 0 rfl ?_
                      refine g_getr (pc1 := 156) d_PotSearch_tryHeats_153 rfl ⟨_, fo_PotSearch_21⟩ sh_391 (by decide) (rf_391_5 ld) ?_
                      refine g_callS0 (pc1 := 159) (As := [.ref 393, .ref 395]) (rest := []) d_PotSearch_tryHeats_156 rfl mo_PotSearch_110 ms_Main_copyRow (by decide) rfl rfl (Nat.le_of_ble_eq_true rfl) ?_
                      refine t1_Main_copyRow hld 393 sh_393 (by decide) (by decide) 395 sh_395 (by decide) (by decide) (fun  M2447 L2448 k2449 => ?_)
                      refine g_return rfl d_PotSearch_tryHeats_159 rfl ?_
                      exact hQ _ _ (Kp.trans (Kp.wM (Kp.wM (Kp.wM (Kp.wM (Kp.trans k2434 (Kp.mono k2440 S0_S1)) rfl eM2443) rfl eM2444) rfl eM2445) rfl eM2446) (Kp.mono k2449 (one_S rfl)))
              exact LP2430 _ 0 M L Kp.rf (by decide) (Nat.lt_succ_self _)
          · refine g_aload_n (pc1 := 60) d_PotSearch_tryHeats_59 rfl 0 rfl ?_
            refine g_geti (pc1 := 63) d_PotSearch_tryHeats_60 rfl ⟨_, fo_PotSearch_56⟩ sh_391 (by decide) ?_
            refine g_aload_n (pc1 := 64) d_PotSearch_tryHeats_63 rfl 0 rfl ?_
            refine g_geti (pc1 := 67) d_PotSearch_tryHeats_64 rfl ⟨_, fo_PotSearch_100⟩ sh_391 (by decide) ?_
            refine g_icmp_ne (pc1 := 70) (tgt := 74) d_PotSearch_tryHeats_67 (by decide) rfl (fun h2450 => ?_) (fun h2450 => ?_)
            · refine g_iconst (pc1 := 75) (v := 0) d_PotSearch_tryHeats_74 rfl (by decide) ?_
              refine g_istore_n (pc1 := 76) (lv' := [(0, .ref 391), (1, .ref Ld1), (2, .int p2), (3, .int 0)]) d_PotSearch_tryHeats_75 rfl rfl (by decide) [1, 2, 3, 0] rfl ?_
              refine g_iload_n (pc1 := 77) d_PotSearch_tryHeats_76 rfl 3 rfl ?_
              refine g_if_eq (pc1 := 80) (tgt := 94) d_PotSearch_tryHeats_77 (by decide) rfl (fun h2451 => ?_) (fun h2451 => ?_)
              · refine g_aload_n (pc1 := 95) d_PotSearch_tryHeats_94 rfl 0 rfl ?_
                refine g_geti (pc1 := 98) d_PotSearch_tryHeats_95 rfl ⟨_, fo_PotSearch_44⟩ sh_391 (by decide) ?_
                refine Wp.topi (fun x2452 ex2452 => ?_)
                refine g_istore (pc1 := 100) (lv' := [(0, .ref 391), (1, .ref Ld1), (2, .int p2), (3, .int 0), (4, .int x2452)]) d_PotSearch_tryHeats_98 rfl (by decide) [1, 2, 3, 4, 0] rfl ?_
                refine g_iconst (pc1 := 101) (v := 0) d_PotSearch_tryHeats_100 rfl (by decide) ?_
                refine g_istore (pc1 := 103) (lv' := [(0, .ref 391), (1, .ref Ld1), (2, .int p2), (3, .int 0), (4, .int x2452), (5, .int 0)]) d_PotSearch_tryHeats_101 rfl (by decide) [1, 2, 3, 4, 5, 0] rfl ?_
                have LP2456 : ∀ (f2453 : Nat) (v2457 : Int32) (M2458 : gM) (L2459 : gL), Kp S1 M L M2458 L2459 → ¬ v2457 < 0 → (x2452.toInt - v2457.toInt).toNat < f2453 → Wp l y_PotSearch_tryHeats (0, 0, 447) 447 0 0 103 [(0, .ref 391), (1, .ref Ld1), (2, .int p2), (3, .int 0), (4, .int x2452), (5, .int v2457)] [] M2458 L2459 (rf ld) Q := by
                  intro f2453
                  induction f2453 with
                  | zero => intro v2457 M2458 L2459 _ _ hm2455; exact absurd hm2455 (Nat.not_lt_zero _)
                  | succ f2453 ih2454 =>
                    intro v2457 M2458 L2459 k2460 n2461 hm2455
                    refine g_iload (pc1 := 105) d_PotSearch_tryHeats_103 rfl 5 rfl ?_
                    refine g_iload (pc1 := 107) d_PotSearch_tryHeats_105 rfl 4 rfl ?_
                    refine g_icmp_ge (pc1 := 110) (tgt := 166) d_PotSearch_tryHeats_107 (by decide) rfl (fun h2462 => ?_) (fun h2462 => ?_)
                    · refine g_return rfl d_PotSearch_tryHeats_166 rfl ?_
                      exact hQ _ _ k2460
                    · refine g_aload_n (pc1 := 111) d_PotSearch_tryHeats_110 rfl 0 rfl ?_
                      refine g_aload_n (pc1 := 112) d_PotSearch_tryHeats_111 rfl 1 rfl ?_
                      refine g_iload (pc1 := 114) d_PotSearch_tryHeats_112 rfl 5 rfl ?_
                      refine g_iload_n (pc1 := 115) d_PotSearch_tryHeats_114 rfl 2 rfl ?_
                      refine g_callV0 (pc1 := 118) (As := [.ref Ld1, .int v2457, .int p2]) (rest := []) d_PotSearch_tryHeats_115 rfl mo_PotSearch_106 mi_PotSearch_isEnough mv_PotSearch_isEnough rfl sh_391 (by decide) (by decide) rfl rfl (Nat.le_of_ble_eq_true rfl) ?_
                      refine t1_PotSearch_isEnough hld Ld1 hLd1 _ _ (fun r2463 M2464 L2465 hr2463 k2466 => ?_)
                      refine g_if_eq (pc1 := 121) (tgt := 160) d_PotSearch_tryHeats_118 (by decide) rfl (fun h2467 => ?_) (fun h2467 => ?_)
                      · obtain ⟨x2468, ex2468⟩ : ∃ y : Int32, y = v2457 + 1 := ⟨_, rfl⟩
                        refine g_iinc (pc1 := 163) (v := x2468) (lv' := [(0, .ref 391), (1, .ref Ld1), (2, .int p2), (3, .int 0), (4, .int x2452), (5, .int x2468)]) d_PotSearch_tryHeats_160 rfl 5 rfl (by rw [ex2468]; rfl) (by decide) [1, 2, 3, 4, 5, 0] rfl ?_
                        refine g_goto (tgt := 103) d_PotSearch_tryHeats_163 (by decide) ?_
                        exact ih2454 x2468 M2464 L2465 (Kp.trans k2460 (Kp.mono k2466 S0_S1)) (nn_up (y := x2452) h2462 ex2468 n2461) (md_up h2462 ex2468 hm2455)
                      · refine g_aload_n (pc1 := 122) d_PotSearch_tryHeats_121 rfl 0 rfl ?_
                        refine g_iconst (pc1 := 123) (v := 1) d_PotSearch_tryHeats_122 rfl (by decide) ?_
                        refine g_putz (pc1 := 126) d_PotSearch_tryHeats_123 rfl fo_PotSearch_28 po_10_9_1 rfl sh_391 (by decide) ?_
                        refine Wp.topM (fun M2469 eM2469 => ?_)
                        refine g_aload_n (pc1 := 127) d_PotSearch_tryHeats_126 rfl 0 rfl ?_
                        refine g_aload_n (pc1 := 128) d_PotSearch_tryHeats_127 rfl 0 rfl ?_
                        refine g_geti (pc1 := 131) d_PotSearch_tryHeats_128 rfl ⟨_, fo_PotSearch_89⟩ sh_391 (by decide) ?_
                        refine g_puti (pc1 := 134) d_PotSearch_tryHeats_131 rfl fo_PotSearch_97 (po_10_6 _) sh_391 (by decide) ?_
                        refine Wp.topM (fun M2470 eM2470 => ?_)
                        refine g_aload_n (pc1 := 135) d_PotSearch_tryHeats_134 rfl 0 rfl ?_
                        refine g_aload_n (pc1 := 136) d_PotSearch_tryHeats_135 rfl 0 rfl ?_
                        refine g_geti (pc1 := 139) d_PotSearch_tryHeats_136 rfl ⟨_, fo_PotSearch_56⟩ sh_391 (by decide) ?_
                        refine g_puti (pc1 := 142) d_PotSearch_tryHeats_139 rfl fo_PotSearch_100 (po_10_7 _) sh_391 (by decide) ?_
                        refine Wp.topM (fun M2471 eM2471 => ?_)
                        refine g_aload_n (pc1 := 143) d_PotSearch_tryHeats_142 rfl 0 rfl ?_
                        refine g_iload (pc1 := 145) d_PotSearch_tryHeats_143 rfl 5 rfl ?_
                        refine g_puti (pc1 := 148) d_PotSearch_tryHeats_145 rfl fo_PotSearch_103 (po_10_8 _) sh_391 (by decide) ?_
                        refine Wp.topM (fun M2472 eM2472 => ?_)
                        refine g_aload_n (pc1 := 149) d_PotSearch_tryHeats_148 rfl 0 rfl ?_
                        refine g_getr (pc1 := 152) d_PotSearch_tryHeats_149 rfl ⟨_, fo_PotSearch_15⟩ sh_391 (by decide) (rf_391_1 ld) ?_
                        refine g_aload_n (pc1 := 153) d_PotSearch_tryHeats_152 rfl 0 rfl ?_
                        refine g_getr (pc1 := 156) d_PotSearch_tryHeats_153 rfl ⟨_, fo_PotSearch_21⟩ sh_391 (by decide) (rf_391_5 ld) ?_
                        refine g_callS0 (pc1 := 159) (As := [.ref 393, .ref 395]) (rest := []) d_PotSearch_tryHeats_156 rfl mo_PotSearch_110 ms_Main_copyRow (by decide) rfl rfl (Nat.le_of_ble_eq_true rfl) ?_
                        refine t1_Main_copyRow hld 393 sh_393 (by decide) (by decide) 395 sh_395 (by decide) (by decide) (fun  M2473 L2474 k2475 => ?_)
                        refine g_return rfl d_PotSearch_tryHeats_159 rfl ?_
                        exact hQ _ _ (Kp.trans (Kp.wM (Kp.wM (Kp.wM (Kp.wM (Kp.trans k2460 (Kp.mono k2466 S0_S1)) rfl eM2469) rfl eM2470) rfl eM2471) rfl eM2472) (Kp.mono k2475 (one_S rfl)))
                exact LP2456 _ 0 M L Kp.rf (by decide) (Nat.lt_succ_self _)
              · refine g_aload_n (pc1 := 81) d_PotSearch_tryHeats_80 rfl 0 rfl ?_
                refine g_geti (pc1 := 84) d_PotSearch_tryHeats_81 rfl ⟨_, fo_PotSearch_103⟩ sh_391 (by decide) ?_
                refine g_aload_n (pc1 := 85) d_PotSearch_tryHeats_84 rfl 0 rfl ?_
                refine g_geti (pc1 := 88) d_PotSearch_tryHeats_85 rfl ⟨_, fo_PotSearch_44⟩ sh_391 (by decide) ?_
                refine g_mmin (pc1 := 91) d_PotSearch_tryHeats_88 rfl mm_PotSearch_79 (by decide) ⟨Nat.le_refl 0, Nat.le_refl 0⟩ (Nat.le_of_ble_eq_true rfl) ?_
                refine g_goto (tgt := 98) d_PotSearch_tryHeats_91 (by decide) ?_
                refine Wp.topi (fun x2476 ex2476 => ?_)
                refine g_istore (pc1 := 100) (lv' := [(0, .ref 391), (1, .ref Ld1), (2, .int p2), (3, .int 0), (4, .int x2476)]) d_PotSearch_tryHeats_98 rfl (by decide) [1, 2, 3, 4, 0] rfl ?_
                refine g_iconst (pc1 := 101) (v := 0) d_PotSearch_tryHeats_100 rfl (by decide) ?_
                refine g_istore (pc1 := 103) (lv' := [(0, .ref 391), (1, .ref Ld1), (2, .int p2), (3, .int 0), (4, .int x2476), (5, .int 0)]) d_PotSearch_tryHeats_101 rfl (by decide) [1, 2, 3, 4, 5, 0] rfl ?_
                have LP2480 : ∀ (f2477 : Nat) (v2481 : Int32) (M2482 : gM) (L2483 : gL), Kp S1 M L M2482 L2483 → ¬ v2481 < 0 → (x2476.toInt - v2481.toInt).toNat < f2477 → Wp l y_PotSearch_tryHeats (0, 0, 447) 447 0 0 103 [(0, .ref 391), (1, .ref Ld1), (2, .int p2), (3, .int 0), (4, .int x2476), (5, .int v2481)] [] M2482 L2483 (rf ld) Q := by
                  intro f2477
                  induction f2477 with
                  | zero => intro v2481 M2482 L2483 _ _ hm2479; exact absurd hm2479 (Nat.not_lt_zero _)
                  | succ f2477 ih2478 =>
                    intro v2481 M2482 L2483 k2484 n2485 hm2479
                    refine g_iload (pc1 := 105) d_PotSearch_tryHeats_103 rfl 5 rfl ?_
                    refine g_iload (pc1 := 107) d_PotSearch_tryHeats_105 rfl 4 rfl ?_
                    refine g_icmp_ge (pc1 := 110) (tgt := 166) d_PotSearch_tryHeats_107 (by decide) rfl (fun h2486 => ?_) (fun h2486 => ?_)
                    · refine g_return rfl d_PotSearch_tryHeats_166 rfl ?_
                      exact hQ _ _ k2484
                    · refine g_aload_n (pc1 := 111) d_PotSearch_tryHeats_110 rfl 0 rfl ?_
                      refine g_aload_n (pc1 := 112) d_PotSearch_tryHeats_111 rfl 1 rfl ?_
                      refine g_iload (pc1 := 114) d_PotSearch_tryHeats_112 rfl 5 rfl ?_
                      refine g_iload_n (pc1 := 115) d_PotSearch_tryHeats_114 rfl 2 rfl ?_
                      refine g_callV0 (pc1 := 118) (As := [.ref Ld1, .int v2481, .int p2]) (rest := []) d_PotSearch_tryHeats_115 rfl mo_PotSearch_106 mi_PotSearch_isEnough mv_PotSearch_isEnough rfl sh_391 (by decide) (by decide) rfl rfl (Nat.le_of_ble_eq_true rfl) ?_
                      refine t1_PotSearch_isEnough hld Ld1 hLd1 _ _ (fun r2487 M2488 L2489 hr2487 k2490 => ?_)
                      refine g_if_eq (pc1 := 121) (tgt := 160) d_PotSearch_tryHeats_118 (by decide) rfl (fun h2491 => ?_) (fun h2491 => ?_)
                      · obtain ⟨x2492, ex2492⟩ : ∃ y : Int32, y = v2481 + 1 := ⟨_, rfl⟩
                        refine g_iinc (pc1 := 163) (v := x2492) (lv' := [(0, .ref 391), (1, .ref Ld1), (2, .int p2), (3, .int 0), (4, .int x2476), (5, .int x2492)]) d_PotSearch_tryHeats_160 rfl 5 rfl (by rw [ex2492]; rfl) (by decide) [1, 2, 3, 4, 5, 0] rfl ?_
                        refine g_goto (tgt := 103) d_PotSearch_tryHeats_163 (by decide) ?_
                        exact ih2478 x2492 M2488 L2489 (Kp.trans k2484 (Kp.mono k2490 S0_S1)) (nn_up (y := x2476) h2486 ex2492 n2485) (md_up h2486 ex2492 hm2479)
                      · refine g_aload_n (pc1 := 122) d_PotSearch_tryHeats_121 rfl 0 rfl ?_
                        refine g_iconst (pc1 := 123) (v := 1) d_PotSearch_tryHeats_122 rfl (by decide) ?_
                        refine g_putz (pc1 := 126) d_PotSearch_tryHeats_123 rfl fo_PotSearch_28 po_10_9_1 rfl sh_391 (by decide) ?_
                        refine Wp.topM (fun M2493 eM2493 => ?_)
                        refine g_aload_n (pc1 := 127) d_PotSearch_tryHeats_126 rfl 0 rfl ?_
                        refine g_aload_n (pc1 := 128) d_PotSearch_tryHeats_127 rfl 0 rfl ?_
                        refine g_geti (pc1 := 131) d_PotSearch_tryHeats_128 rfl ⟨_, fo_PotSearch_89⟩ sh_391 (by decide) ?_
                        refine g_puti (pc1 := 134) d_PotSearch_tryHeats_131 rfl fo_PotSearch_97 (po_10_6 _) sh_391 (by decide) ?_
                        refine Wp.topM (fun M2494 eM2494 => ?_)
                        refine g_aload_n (pc1 := 135) d_PotSearch_tryHeats_134 rfl 0 rfl ?_
                        refine g_aload_n (pc1 := 136) d_PotSearch_tryHeats_135 rfl 0 rfl ?_
                        refine g_geti (pc1 := 139) d_PotSearch_tryHeats_136 rfl ⟨_, fo_PotSearch_56⟩ sh_391 (by decide) ?_
                        refine g_puti (pc1 := 142) d_PotSearch_tryHeats_139 rfl fo_PotSearch_100 (po_10_7 _) sh_391 (by decide) ?_
                        refine Wp.topM (fun M2495 eM2495 => ?_)
                        refine g_aload_n (pc1 := 143) d_PotSearch_tryHeats_142 rfl 0 rfl ?_
                        refine g_iload (pc1 := 145) d_PotSearch_tryHeats_143 rfl 5 rfl ?_
                        refine g_puti (pc1 := 148) d_PotSearch_tryHeats_145 rfl fo_PotSearch_103 (po_10_8 _) sh_391 (by decide) ?_
                        refine Wp.topM (fun M2496 eM2496 => ?_)
                        refine g_aload_n (pc1 := 149) d_PotSearch_tryHeats_148 rfl 0 rfl ?_
                        refine g_getr (pc1 := 152) d_PotSearch_tryHeats_149 rfl ⟨_, fo_PotSearch_15⟩ sh_391 (by decide) (rf_391_1 ld) ?_
                        refine g_aload_n (pc1 := 153) d_PotSearch_tryHeats_152 rfl 0 rfl ?_
                        refine g_getr (pc1 := 156) d_PotSearch_tryHeats_153 rfl ⟨_, fo_PotSearch_21⟩ sh_391 (by decide) (rf_391_5 ld) ?_
                        refine g_callS0 (pc1 := 159) (As := [.ref 393, .ref 395]) (rest := []) d_PotSearch_tryHeats_156 rfl mo_PotSearch_110 ms_Main_copyRow (by decide) rfl rfl (Nat.le_of_ble_eq_true rfl) ?_
                        refine t1_Main_copyRow hld 393 sh_393 (by decide) (by decide) 395 sh_395 (by decide) (by decide) (fun  M2497 L2498 k2499 => ?_)
                        refine g_return rfl d_PotSearch_tryHeats_159 rfl ?_
                        exact hQ _ _ (Kp.trans (Kp.wM (Kp.wM (Kp.wM (Kp.wM (Kp.trans k2484 (Kp.mono k2490 S0_S1)) rfl eM2493) rfl eM2494) rfl eM2495) rfl eM2496) (Kp.mono k2499 (one_S rfl)))
                exact LP2480 _ 0 M L Kp.rf (by decide) (Nat.lt_succ_self _)
            · refine g_iconst (pc1 := 71) (v := 1) d_PotSearch_tryHeats_70 rfl (by decide) ?_
              refine g_goto (tgt := 75) d_PotSearch_tryHeats_71 (by decide) ?_
              refine g_istore_n (pc1 := 76) (lv' := [(0, .ref 391), (1, .ref Ld1), (2, .int p2), (3, .int 1)]) d_PotSearch_tryHeats_75 rfl rfl (by decide) [1, 2, 3, 0] rfl ?_
              refine g_iload_n (pc1 := 77) d_PotSearch_tryHeats_76 rfl 3 rfl ?_
              refine g_if_eq (pc1 := 80) (tgt := 94) d_PotSearch_tryHeats_77 (by decide) rfl (fun h2500 => ?_) (fun h2500 => ?_)
              · refine g_aload_n (pc1 := 95) d_PotSearch_tryHeats_94 rfl 0 rfl ?_
                refine g_geti (pc1 := 98) d_PotSearch_tryHeats_95 rfl ⟨_, fo_PotSearch_44⟩ sh_391 (by decide) ?_
                refine Wp.topi (fun x2501 ex2501 => ?_)
                refine g_istore (pc1 := 100) (lv' := [(0, .ref 391), (1, .ref Ld1), (2, .int p2), (3, .int 1), (4, .int x2501)]) d_PotSearch_tryHeats_98 rfl (by decide) [1, 2, 3, 4, 0] rfl ?_
                refine g_iconst (pc1 := 101) (v := 0) d_PotSearch_tryHeats_100 rfl (by decide) ?_
                refine g_istore (pc1 := 103) (lv' := [(0, .ref 391), (1, .ref Ld1), (2, .int p2), (3, .int 1), (4, .int x2501), (5, .int 0)]) d_PotSearch_tryHeats_101 rfl (by decide) [1, 2, 3, 4, 5, 0] rfl ?_
                have LP2505 : ∀ (f2502 : Nat) (v2506 : Int32) (M2507 : gM) (L2508 : gL), Kp S1 M L M2507 L2508 → ¬ v2506 < 0 → (x2501.toInt - v2506.toInt).toNat < f2502 → Wp l y_PotSearch_tryHeats (0, 0, 447) 447 0 0 103 [(0, .ref 391), (1, .ref Ld1), (2, .int p2), (3, .int 1), (4, .int x2501), (5, .int v2506)] [] M2507 L2508 (rf ld) Q := by
                  intro f2502
                  induction f2502 with
                  | zero => intro v2506 M2507 L2508 _ _ hm2504; exact absurd hm2504 (Nat.not_lt_zero _)
                  | succ f2502 ih2503 =>
                    intro v2506 M2507 L2508 k2509 n2510 hm2504
                    refine g_iload (pc1 := 105) d_PotSearch_tryHeats_103 rfl 5 rfl ?_
                    refine g_iload (pc1 := 107) d_PotSearch_tryHeats_105 rfl 4 rfl ?_
                    refine g_icmp_ge (pc1 := 110) (tgt := 166) d_PotSearch_tryHeats_107 (by decide) rfl (fun h2511 => ?_) (fun h2511 => ?_)
                    · refine g_return rfl d_PotSearch_tryHeats_166 rfl ?_
                      exact hQ _ _ k2509
                    · refine g_aload_n (pc1 := 111) d_PotSearch_tryHeats_110 rfl 0 rfl ?_
                      refine g_aload_n (pc1 := 112) d_PotSearch_tryHeats_111 rfl 1 rfl ?_
                      refine g_iload (pc1 := 114) d_PotSearch_tryHeats_112 rfl 5 rfl ?_
                      refine g_iload_n (pc1 := 115) d_PotSearch_tryHeats_114 rfl 2 rfl ?_
                      refine g_callV0 (pc1 := 118) (As := [.ref Ld1, .int v2506, .int p2]) (rest := []) d_PotSearch_tryHeats_115 rfl mo_PotSearch_106 mi_PotSearch_isEnough mv_PotSearch_isEnough rfl sh_391 (by decide) (by decide) rfl rfl (Nat.le_of_ble_eq_true rfl) ?_
                      refine t1_PotSearch_isEnough hld Ld1 hLd1 _ _ (fun r2512 M2513 L2514 hr2512 k2515 => ?_)
                      refine g_if_eq (pc1 := 121) (tgt := 160) d_PotSearch_tryHeats_118 (by decide) rfl (fun h2516 => ?_) (fun h2516 => ?_)
                      · obtain ⟨x2517, ex2517⟩ : ∃ y : Int32, y = v2506 + 1 := ⟨_, rfl⟩
                        refine g_iinc (pc1 := 163) (v := x2517) (lv' := [(0, .ref 391), (1, .ref Ld1), (2, .int p2), (3, .int 1), (4, .int x2501), (5, .int x2517)]) d_PotSearch_tryHeats_160 rfl 5 rfl (by rw [ex2517]; rfl) (by decide) [1, 2, 3, 4, 5, 0] rfl ?_
                        refine g_goto (tgt := 103) d_PotSearch_tryHeats_163 (by decide) ?_
                        exact ih2503 x2517 M2513 L2514 (Kp.trans k2509 (Kp.mono k2515 S0_S1)) (nn_up (y := x2501) h2511 ex2517 n2510) (md_up h2511 ex2517 hm2504)
                      · refine g_aload_n (pc1 := 122) d_PotSearch_tryHeats_121 rfl 0 rfl ?_
                        refine g_iconst (pc1 := 123) (v := 1) d_PotSearch_tryHeats_122 rfl (by decide) ?_
                        refine g_putz (pc1 := 126) d_PotSearch_tryHeats_123 rfl fo_PotSearch_28 po_10_9_1 rfl sh_391 (by decide) ?_
                        refine Wp.topM (fun M2518 eM2518 => ?_)
                        refine g_aload_n (pc1 := 127) d_PotSearch_tryHeats_126 rfl 0 rfl ?_
                        refine g_aload_n (pc1 := 128) d_PotSearch_tryHeats_127 rfl 0 rfl ?_
                        refine g_geti (pc1 := 131) d_PotSearch_tryHeats_128 rfl ⟨_, fo_PotSearch_89⟩ sh_391 (by decide) ?_
                        refine g_puti (pc1 := 134) d_PotSearch_tryHeats_131 rfl fo_PotSearch_97 (po_10_6 _) sh_391 (by decide) ?_
                        refine Wp.topM (fun M2519 eM2519 => ?_)
                        refine g_aload_n (pc1 := 135) d_PotSearch_tryHeats_134 rfl 0 rfl ?_
                        refine g_aload_n (pc1 := 136) d_PotSearch_tryHeats_135 rfl 0 rfl ?_
                        refine g_geti (pc1 := 139) d_PotSearch_tryHeats_136 rfl ⟨_, fo_PotSearch_56⟩ sh_391 (by decide) ?_
                        refine g_puti (pc1 := 142) d_PotSearch_tryHeats_139 rfl fo_PotSearch_100 (po_10_7 _) sh_391 (by decide) ?_
                        refine Wp.topM (fun M2520 eM2520 => ?_)
                        refine g_aload_n (pc1 := 143) d_PotSearch_tryHeats_142 rfl 0 rfl ?_
                        refine g_iload (pc1 := 145) d_PotSearch_tryHeats_143 rfl 5 rfl ?_
                        refine g_puti (pc1 := 148) d_PotSearch_tryHeats_145 rfl fo_PotSearch_103 (po_10_8 _) sh_391 (by decide) ?_
                        refine Wp.topM (fun M2521 eM2521 => ?_)
                        refine g_aload_n (pc1 := 149) d_PotSearch_tryHeats_148 rfl 0 rfl ?_
                        refine g_getr (pc1 := 152) d_PotSearch_tryHeats_149 rfl ⟨_, fo_PotSearch_15⟩ sh_391 (by decide) (rf_391_1 ld) ?_
                        refine g_aload_n (pc1 := 153) d_PotSearch_tryHeats_152 rfl 0 rfl ?_
                        refine g_getr (pc1 := 156) d_PotSearch_tryHeats_153 rfl ⟨_, fo_PotSearch_21⟩ sh_391 (by decide) (rf_391_5 ld) ?_
                        refine g_callS0 (pc1 := 159) (As := [.ref 393, .ref 395]) (rest := []) d_PotSearch_tryHeats_156 rfl mo_PotSearch_110 ms_Main_copyRow (by decide) rfl rfl (Nat.le_of_ble_eq_true rfl) ?_
                        refine t1_Main_copyRow hld 393 sh_393 (by decide) (by decide) 395 sh_395 (by decide) (by decide) (fun  M2522 L2523 k2524 => ?_)
                        refine g_return rfl d_PotSearch_tryHeats_159 rfl ?_
                        exact hQ _ _ (Kp.trans (Kp.wM (Kp.wM (Kp.wM (Kp.wM (Kp.trans k2509 (Kp.mono k2515 S0_S1)) rfl eM2518) rfl eM2519) rfl eM2520) rfl eM2521) (Kp.mono k2524 (one_S rfl)))
                exact LP2505 _ 0 M L Kp.rf (by decide) (Nat.lt_succ_self _)
              · refine g_aload_n (pc1 := 81) d_PotSearch_tryHeats_80 rfl 0 rfl ?_
                refine g_geti (pc1 := 84) d_PotSearch_tryHeats_81 rfl ⟨_, fo_PotSearch_103⟩ sh_391 (by decide) ?_
                refine g_aload_n (pc1 := 85) d_PotSearch_tryHeats_84 rfl 0 rfl ?_
                refine g_geti (pc1 := 88) d_PotSearch_tryHeats_85 rfl ⟨_, fo_PotSearch_44⟩ sh_391 (by decide) ?_
                refine g_mmin (pc1 := 91) d_PotSearch_tryHeats_88 rfl mm_PotSearch_79 (by decide) ⟨Nat.le_refl 0, Nat.le_refl 0⟩ (Nat.le_of_ble_eq_true rfl) ?_
                refine g_goto (tgt := 98) d_PotSearch_tryHeats_91 (by decide) ?_
                refine Wp.topi (fun x2525 ex2525 => ?_)
                refine g_istore (pc1 := 100) (lv' := [(0, .ref 391), (1, .ref Ld1), (2, .int p2), (3, .int 1), (4, .int x2525)]) d_PotSearch_tryHeats_98 rfl (by decide) [1, 2, 3, 4, 0] rfl ?_
                refine g_iconst (pc1 := 101) (v := 0) d_PotSearch_tryHeats_100 rfl (by decide) ?_
                refine g_istore (pc1 := 103) (lv' := [(0, .ref 391), (1, .ref Ld1), (2, .int p2), (3, .int 1), (4, .int x2525), (5, .int 0)]) d_PotSearch_tryHeats_101 rfl (by decide) [1, 2, 3, 4, 5, 0] rfl ?_
                have LP2529 : ∀ (f2526 : Nat) (v2530 : Int32) (M2531 : gM) (L2532 : gL), Kp S1 M L M2531 L2532 → ¬ v2530 < 0 → (x2525.toInt - v2530.toInt).toNat < f2526 → Wp l y_PotSearch_tryHeats (0, 0, 447) 447 0 0 103 [(0, .ref 391), (1, .ref Ld1), (2, .int p2), (3, .int 1), (4, .int x2525), (5, .int v2530)] [] M2531 L2532 (rf ld) Q := by
                  intro f2526
                  induction f2526 with
                  | zero => intro v2530 M2531 L2532 _ _ hm2528; exact absurd hm2528 (Nat.not_lt_zero _)
                  | succ f2526 ih2527 =>
                    intro v2530 M2531 L2532 k2533 n2534 hm2528
                    refine g_iload (pc1 := 105) d_PotSearch_tryHeats_103 rfl 5 rfl ?_
                    refine g_iload (pc1 := 107) d_PotSearch_tryHeats_105 rfl 4 rfl ?_
                    refine g_icmp_ge (pc1 := 110) (tgt := 166) d_PotSearch_tryHeats_107 (by decide) rfl (fun h2535 => ?_) (fun h2535 => ?_)
                    · refine g_return rfl d_PotSearch_tryHeats_166 rfl ?_
                      exact hQ _ _ k2533
                    · refine g_aload_n (pc1 := 111) d_PotSearch_tryHeats_110 rfl 0 rfl ?_
                      refine g_aload_n (pc1 := 112) d_PotSearch_tryHeats_111 rfl 1 rfl ?_
                      refine g_iload (pc1 := 114) d_PotSearch_tryHeats_112 rfl 5 rfl ?_
                      refine g_iload_n (pc1 := 115) d_PotSearch_tryHeats_114 rfl 2 rfl ?_
                      refine g_callV0 (pc1 := 118) (As := [.ref Ld1, .int v2530, .int p2]) (rest := []) d_PotSearch_tryHeats_115 rfl mo_PotSearch_106 mi_PotSearch_isEnough mv_PotSearch_isEnough rfl sh_391 (by decide) (by decide) rfl rfl (Nat.le_of_ble_eq_true rfl) ?_
                      refine t1_PotSearch_isEnough hld Ld1 hLd1 _ _ (fun r2536 M2537 L2538 hr2536 k2539 => ?_)
                      refine g_if_eq (pc1 := 121) (tgt := 160) d_PotSearch_tryHeats_118 (by decide) rfl (fun h2540 => ?_) (fun h2540 => ?_)
                      · obtain ⟨x2541, ex2541⟩ : ∃ y : Int32, y = v2530 + 1 := ⟨_, rfl⟩
                        refine g_iinc (pc1 := 163) (v := x2541) (lv' := [(0, .ref 391), (1, .ref Ld1), (2, .int p2), (3, .int 1), (4, .int x2525), (5, .int x2541)]) d_PotSearch_tryHeats_160 rfl 5 rfl (by rw [ex2541]; rfl) (by decide) [1, 2, 3, 4, 5, 0] rfl ?_
                        refine g_goto (tgt := 103) d_PotSearch_tryHeats_163 (by decide) ?_
                        exact ih2527 x2541 M2537 L2538 (Kp.trans k2533 (Kp.mono k2539 S0_S1)) (nn_up (y := x2525) h2535 ex2541 n2534) (md_up h2535 ex2541 hm2528)
                      · refine g_aload_n (pc1 := 122) d_PotSearch_tryHeats_121 rfl 0 rfl ?_
                        refine g_iconst (pc1 := 123) (v := 1) d_PotSearch_tryHeats_122 rfl (by decide) ?_
                        refine g_putz (pc1 := 126) d_PotSearch_tryHeats_123 rfl fo_PotSearch_28 po_10_9_1 rfl sh_391 (by decide) ?_
                        refine Wp.topM (fun M2542 eM2542 => ?_)
                        refine g_aload_n (pc1 := 127) d_PotSearch_tryHeats_126 rfl 0 rfl ?_
                        refine g_aload_n (pc1 := 128) d_PotSearch_tryHeats_127 rfl 0 rfl ?_
                        refine g_geti (pc1 := 131) d_PotSearch_tryHeats_128 rfl ⟨_, fo_PotSearch_89⟩ sh_391 (by decide) ?_
                        refine g_puti (pc1 := 134) d_PotSearch_tryHeats_131 rfl fo_PotSearch_97 (po_10_6 _) sh_391 (by decide) ?_
                        refine Wp.topM (fun M2543 eM2543 => ?_)
                        refine g_aload_n (pc1 := 135) d_PotSearch_tryHeats_134 rfl 0 rfl ?_
                        refine g_aload_n (pc1 := 136) d_PotSearch_tryHeats_135 rfl 0 rfl ?_
                        refine g_geti (pc1 := 139) d_PotSearch_tryHeats_136 rfl ⟨_, fo_PotSearch_56⟩ sh_391 (by decide) ?_
                        refine g_puti (pc1 := 142) d_PotSearch_tryHeats_139 rfl fo_PotSearch_100 (po_10_7 _) sh_391 (by decide) ?_
                        refine Wp.topM (fun M2544 eM2544 => ?_)
                        refine g_aload_n (pc1 := 143) d_PotSearch_tryHeats_142 rfl 0 rfl ?_
                        refine g_iload (pc1 := 145) d_PotSearch_tryHeats_143 rfl 5 rfl ?_
                        refine g_puti (pc1 := 148) d_PotSearch_tryHeats_145 rfl fo_PotSearch_103 (po_10_8 _) sh_391 (by decide) ?_
                        refine Wp.topM (fun M2545 eM2545 => ?_)
                        refine g_aload_n (pc1 := 149) d_PotSearch_tryHeats_148 rfl 0 rfl ?_
                        refine g_getr (pc1 := 152) d_PotSearch_tryHeats_149 rfl ⟨_, fo_PotSearch_15⟩ sh_391 (by decide) (rf_391_1 ld) ?_
                        refine g_aload_n (pc1 := 153) d_PotSearch_tryHeats_152 rfl 0 rfl ?_
                        refine g_getr (pc1 := 156) d_PotSearch_tryHeats_153 rfl ⟨_, fo_PotSearch_21⟩ sh_391 (by decide) (rf_391_5 ld) ?_
                        refine g_callS0 (pc1 := 159) (As := [.ref 393, .ref 395]) (rest := []) d_PotSearch_tryHeats_156 rfl mo_PotSearch_110 ms_Main_copyRow (by decide) rfl rfl (Nat.le_of_ble_eq_true rfl) ?_
                        refine t1_Main_copyRow hld 393 sh_393 (by decide) (by decide) 395 sh_395 (by decide) (by decide) (fun  M2546 L2547 k2548 => ?_)
                        refine g_return rfl d_PotSearch_tryHeats_159 rfl ?_
                        exact hQ _ _ (Kp.trans (Kp.wM (Kp.wM (Kp.wM (Kp.wM (Kp.trans k2533 (Kp.mono k2539 S0_S1)) rfl eM2542) rfl eM2543) rfl eM2544) rfl eM2545) (Kp.mono k2548 (one_S rfl)))
                exact LP2529 _ 0 M L Kp.rf (by decide) (Nat.lt_succ_self _)
      · refine g_aload_n (pc1 := 30) d_PotSearch_tryHeats_29 rfl 0 rfl ?_
        refine g_geti (pc1 := 33) d_PotSearch_tryHeats_30 rfl ⟨_, fo_PotSearch_56⟩ sh_391 (by decide) ?_
        refine g_aload_n (pc1 := 34) d_PotSearch_tryHeats_33 rfl 0 rfl ?_
        refine g_geti (pc1 := 37) d_PotSearch_tryHeats_34 rfl ⟨_, fo_PotSearch_100⟩ sh_391 (by decide) ?_
        refine g_icmp_le (pc1 := 40) (tgt := 41) d_PotSearch_tryHeats_37 (by decide) rfl (fun h2549 => ?_) (fun h2549 => ?_)
        · refine g_aload_n (pc1 := 42) d_PotSearch_tryHeats_41 rfl 0 rfl ?_
          refine g_getz (pc1 := 45) d_PotSearch_tryHeats_42 rfl ⟨_, fo_PotSearch_28⟩ sh_391 (by decide) ?_
          refine g_if_eq (pc1 := 48) (tgt := 74) d_PotSearch_tryHeats_45 (by decide) rfl (fun h2550 => ?_) (fun h2550 => ?_)
          · refine g_iconst (pc1 := 75) (v := 0) d_PotSearch_tryHeats_74 rfl (by decide) ?_
            refine g_istore_n (pc1 := 76) (lv' := [(0, .ref 391), (1, .ref Ld1), (2, .int p2), (3, .int 0)]) d_PotSearch_tryHeats_75 rfl rfl (by decide) [1, 2, 3, 0] rfl ?_
            refine g_iload_n (pc1 := 77) d_PotSearch_tryHeats_76 rfl 3 rfl ?_
            refine g_if_eq (pc1 := 80) (tgt := 94) d_PotSearch_tryHeats_77 (by decide) rfl (fun h2551 => ?_) (fun h2551 => ?_)
            · refine g_aload_n (pc1 := 95) d_PotSearch_tryHeats_94 rfl 0 rfl ?_
              refine g_geti (pc1 := 98) d_PotSearch_tryHeats_95 rfl ⟨_, fo_PotSearch_44⟩ sh_391 (by decide) ?_
              refine Wp.topi (fun x2552 ex2552 => ?_)
              refine g_istore (pc1 := 100) (lv' := [(0, .ref 391), (1, .ref Ld1), (2, .int p2), (3, .int 0), (4, .int x2552)]) d_PotSearch_tryHeats_98 rfl (by decide) [1, 2, 3, 4, 0] rfl ?_
              refine g_iconst (pc1 := 101) (v := 0) d_PotSearch_tryHeats_100 rfl (by decide) ?_
              refine g_istore (pc1 := 103) (lv' := [(0, .ref 391), (1, .ref Ld1), (2, .int p2), (3, .int 0), (4, .int x2552), (5, .int 0)]) d_PotSearch_tryHeats_101 rfl (by decide) [1, 2, 3, 4, 5, 0] rfl ?_
              have LP2556 : ∀ (f2553 : Nat) (v2557 : Int32) (M2558 : gM) (L2559 : gL), Kp S1 M L M2558 L2559 → ¬ v2557 < 0 → (x2552.toInt - v2557.toInt).toNat < f2553 → Wp l y_PotSearch_tryHeats (0, 0, 447) 447 0 0 103 [(0, .ref 391), (1, .ref Ld1), (2, .int p2), (3, .int 0), (4, .int x2552), (5, .int v2557)] [] M2558 L2559 (rf ld) Q := by
                intro f2553
                induction f2553 with
                | zero => intro v2557 M2558 L2559 _ _ hm2555; exact absurd hm2555 (Nat.not_lt_zero _)
                | succ f2553 ih2554 =>
                  intro v2557 M2558 L2559 k2560 n2561 hm2555
                  refine g_iload (pc1 := 105) d_PotSearch_tryHeats_103 rfl 5 rfl ?_
                  refine g_iload (pc1 := 107) d_PotSearch_tryHeats_105 rfl 4 rfl ?_
                  refine g_icmp_ge (pc1 := 110) (tgt := 166) d_PotSearch_tryHeats_107 (by decide) rfl (fun h2562 => ?_) (fun h2562 => ?_)
                  · refine g_return rfl d_PotSearch_tryHeats_166 rfl ?_
                    exact hQ _ _ k2560
                  · refine g_aload_n (pc1 := 111) d_PotSearch_tryHeats_110 rfl 0 rfl ?_
                    refine g_aload_n (pc1 := 112) d_PotSearch_tryHeats_111 rfl 1 rfl ?_
                    refine g_iload (pc1 := 114) d_PotSearch_tryHeats_112 rfl 5 rfl ?_
                    refine g_iload_n (pc1 := 115) d_PotSearch_tryHeats_114 rfl 2 rfl ?_
                    refine g_callV0 (pc1 := 118) (As := [.ref Ld1, .int v2557, .int p2]) (rest := []) d_PotSearch_tryHeats_115 rfl mo_PotSearch_106 mi_PotSearch_isEnough mv_PotSearch_isEnough rfl sh_391 (by decide) (by decide) rfl rfl (Nat.le_of_ble_eq_true rfl) ?_
                    refine t1_PotSearch_isEnough hld Ld1 hLd1 _ _ (fun r2563 M2564 L2565 hr2563 k2566 => ?_)
                    refine g_if_eq (pc1 := 121) (tgt := 160) d_PotSearch_tryHeats_118 (by decide) rfl (fun h2567 => ?_) (fun h2567 => ?_)
                    · obtain ⟨x2568, ex2568⟩ : ∃ y : Int32, y = v2557 + 1 := ⟨_, rfl⟩
                      refine g_iinc (pc1 := 163) (v := x2568) (lv' := [(0, .ref 391), (1, .ref Ld1), (2, .int p2), (3, .int 0), (4, .int x2552), (5, .int x2568)]) d_PotSearch_tryHeats_160 rfl 5 rfl (by rw [ex2568]; rfl) (by decide) [1, 2, 3, 4, 5, 0] rfl ?_
                      refine g_goto (tgt := 103) d_PotSearch_tryHeats_163 (by decide) ?_
                      exact ih2554 x2568 M2564 L2565 (Kp.trans k2560 (Kp.mono k2566 S0_S1)) (nn_up (y := x2552) h2562 ex2568 n2561) (md_up h2562 ex2568 hm2555)
                    · refine g_aload_n (pc1 := 122) d_PotSearch_tryHeats_121 rfl 0 rfl ?_
                      refine g_iconst (pc1 := 123) (v := 1) d_PotSearch_tryHeats_122 rfl (by decide) ?_
                      refine g_putz (pc1 := 126) d_PotSearch_tryHeats_123 rfl fo_PotSearch_28 po_10_9_1 rfl sh_391 (by decide) ?_
                      refine Wp.topM (fun M2569 eM2569 => ?_)
                      refine g_aload_n (pc1 := 127) d_PotSearch_tryHeats_126 rfl 0 rfl ?_
                      refine g_aload_n (pc1 := 128) d_PotSearch_tryHeats_127 rfl 0 rfl ?_
                      refine g_geti (pc1 := 131) d_PotSearch_tryHeats_128 rfl ⟨_, fo_PotSearch_89⟩ sh_391 (by decide) ?_
                      refine g_puti (pc1 := 134) d_PotSearch_tryHeats_131 rfl fo_PotSearch_97 (po_10_6 _) sh_391 (by decide) ?_
                      refine Wp.topM (fun M2570 eM2570 => ?_)
                      refine g_aload_n (pc1 := 135) d_PotSearch_tryHeats_134 rfl 0 rfl ?_
                      refine g_aload_n (pc1 := 136) d_PotSearch_tryHeats_135 rfl 0 rfl ?_
                      refine g_geti (pc1 := 139) d_PotSearch_tryHeats_136 rfl ⟨_, fo_PotSearch_56⟩ sh_391 (by decide) ?_
                      refine g_puti (pc1 := 142) d_PotSearch_tryHeats_139 rfl fo_PotSearch_100 (po_10_7 _) sh_391 (by decide) ?_
                      refine Wp.topM (fun M2571 eM2571 => ?_)
                      refine g_aload_n (pc1 := 143) d_PotSearch_tryHeats_142 rfl 0 rfl ?_
                      refine g_iload (pc1 := 145) d_PotSearch_tryHeats_143 rfl 5 rfl ?_
                      refine g_puti (pc1 := 148) d_PotSearch_tryHeats_145 rfl fo_PotSearch_103 (po_10_8 _) sh_391 (by decide) ?_
                      refine Wp.topM (fun M2572 eM2572 => ?_)
                      refine g_aload_n (pc1 := 149) d_PotSearch_tryHeats_148 rfl 0 rfl ?_
                      refine g_getr (pc1 := 152) d_PotSearch_tryHeats_149 rfl ⟨_, fo_PotSearch_15⟩ sh_391 (by decide) (rf_391_1 ld) ?_
                      refine g_aload_n (pc1 := 153) d_PotSearch_tryHeats_152 rfl 0 rfl ?_
                      refine g_getr (pc1 := 156) d_PotSearch_tryHeats_153 rfl ⟨_, fo_PotSearch_21⟩ sh_391 (by decide) (rf_391_5 ld) ?_
                      refine g_callS0 (pc1 := 159) (As := [.ref 393, .ref 395]) (rest := []) d_PotSearch_tryHeats_156 rfl mo_PotSearch_110 ms_Main_copyRow (by decide) rfl rfl (Nat.le_of_ble_eq_true rfl) ?_
                      refine t1_Main_copyRow hld 393 sh_393 (by decide) (by decide) 395 sh_395 (by decide) (by decide) (fun  M2573 L2574 k2575 => ?_)
                      refine g_return rfl d_PotSearch_tryHeats_159 rfl ?_
                      exact hQ _ _ (Kp.trans (Kp.wM (Kp.wM (Kp.wM (Kp.wM (Kp.trans k2560 (Kp.mono k2566 S0_S1)) rfl eM2569) rfl eM2570) rfl eM2571) rfl eM2572) (Kp.mono k2575 (one_S rfl)))
              exact LP2556 _ 0 M L Kp.rf (by decide) (Nat.lt_succ_self _)
            · refine g_aload_n (pc1 := 81) d_PotSearch_tryHeats_80 rfl 0 rfl ?_
              refine g_geti (pc1 := 84) d_PotSearch_tryHeats_81 rfl ⟨_, fo_PotSearch_103⟩ sh_391 (by decide) ?_
              refine g_aload_n (pc1 := 85) d_PotSearch_tryHeats_84 rfl 0 rfl ?_
              refine g_geti (pc1 := 88) d_PotSearch_tryHeats_85 rfl ⟨_, fo_PotSearch_44⟩ sh_391 (by decide) ?_
              refine g_mmin (pc1 := 91) d_PotSearch_tryHeats_88 rfl mm_PotSearch_79 (by decide) ⟨Nat.le_refl 0, Nat.le_refl 0⟩ (Nat.le_of_ble_eq_true rfl) ?_
              refine g_goto (tgt := 98) d_PotSearch_tryHeats_91 (by decide) ?_
              refine Wp.topi (fun x2576 ex2576 => ?_)
              refine g_istore (pc1 := 100) (lv' := [(0, .ref 391), (1, .ref Ld1), (2, .int p2), (3, .int 0), (4, .int x2576)]) d_PotSearch_tryHeats_98 rfl (by decide) [1, 2, 3, 4, 0] rfl ?_
              refine g_iconst (pc1 := 101) (v := 0) d_PotSearch_tryHeats_100 rfl (by decide) ?_
              refine g_istore (pc1 := 103) (lv' := [(0, .ref 391), (1, .ref Ld1), (2, .int p2), (3, .int 0), (4, .int x2576), (5, .int 0)]) d_PotSearch_tryHeats_101 rfl (by decide) [1, 2, 3, 4, 5, 0] rfl ?_
              have LP2580 : ∀ (f2577 : Nat) (v2581 : Int32) (M2582 : gM) (L2583 : gL), Kp S1 M L M2582 L2583 → ¬ v2581 < 0 → (x2576.toInt - v2581.toInt).toNat < f2577 → Wp l y_PotSearch_tryHeats (0, 0, 447) 447 0 0 103 [(0, .ref 391), (1, .ref Ld1), (2, .int p2), (3, .int 0), (4, .int x2576), (5, .int v2581)] [] M2582 L2583 (rf ld) Q := by
                intro f2577
                induction f2577 with
                | zero => intro v2581 M2582 L2583 _ _ hm2579; exact absurd hm2579 (Nat.not_lt_zero _)
                | succ f2577 ih2578 =>
                  intro v2581 M2582 L2583 k2584 n2585 hm2579
                  refine g_iload (pc1 := 105) d_PotSearch_tryHeats_103 rfl 5 rfl ?_
                  refine g_iload (pc1 := 107) d_PotSearch_tryHeats_105 rfl 4 rfl ?_
                  refine g_icmp_ge (pc1 := 110) (tgt := 166) d_PotSearch_tryHeats_107 (by decide) rfl (fun h2586 => ?_) (fun h2586 => ?_)
                  · refine g_return rfl d_PotSearch_tryHeats_166 rfl ?_
                    exact hQ _ _ k2584
                  · refine g_aload_n (pc1 := 111) d_PotSearch_tryHeats_110 rfl 0 rfl ?_
                    refine g_aload_n (pc1 := 112) d_PotSearch_tryHeats_111 rfl 1 rfl ?_
                    refine g_iload (pc1 := 114) d_PotSearch_tryHeats_112 rfl 5 rfl ?_
                    refine g_iload_n (pc1 := 115) d_PotSearch_tryHeats_114 rfl 2 rfl ?_
                    refine g_callV0 (pc1 := 118) (As := [.ref Ld1, .int v2581, .int p2]) (rest := []) d_PotSearch_tryHeats_115 rfl mo_PotSearch_106 mi_PotSearch_isEnough mv_PotSearch_isEnough rfl sh_391 (by decide) (by decide) rfl rfl (Nat.le_of_ble_eq_true rfl) ?_
                    refine t1_PotSearch_isEnough hld Ld1 hLd1 _ _ (fun r2587 M2588 L2589 hr2587 k2590 => ?_)
                    refine g_if_eq (pc1 := 121) (tgt := 160) d_PotSearch_tryHeats_118 (by decide) rfl (fun h2591 => ?_) (fun h2591 => ?_)
                    · obtain ⟨x2592, ex2592⟩ : ∃ y : Int32, y = v2581 + 1 := ⟨_, rfl⟩
                      refine g_iinc (pc1 := 163) (v := x2592) (lv' := [(0, .ref 391), (1, .ref Ld1), (2, .int p2), (3, .int 0), (4, .int x2576), (5, .int x2592)]) d_PotSearch_tryHeats_160 rfl 5 rfl (by rw [ex2592]; rfl) (by decide) [1, 2, 3, 4, 5, 0] rfl ?_
                      refine g_goto (tgt := 103) d_PotSearch_tryHeats_163 (by decide) ?_
                      exact ih2578 x2592 M2588 L2589 (Kp.trans k2584 (Kp.mono k2590 S0_S1)) (nn_up (y := x2576) h2586 ex2592 n2585) (md_up h2586 ex2592 hm2579)
                    · refine g_aload_n (pc1 := 122) d_PotSearch_tryHeats_121 rfl 0 rfl ?_
                      refine g_iconst (pc1 := 123) (v := 1) d_PotSearch_tryHeats_122 rfl (by decide) ?_
                      refine g_putz (pc1 := 126) d_PotSearch_tryHeats_123 rfl fo_PotSearch_28 po_10_9_1 rfl sh_391 (by decide) ?_
                      refine Wp.topM (fun M2593 eM2593 => ?_)
                      refine g_aload_n (pc1 := 127) d_PotSearch_tryHeats_126 rfl 0 rfl ?_
                      refine g_aload_n (pc1 := 128) d_PotSearch_tryHeats_127 rfl 0 rfl ?_
                      refine g_geti (pc1 := 131) d_PotSearch_tryHeats_128 rfl ⟨_, fo_PotSearch_89⟩ sh_391 (by decide) ?_
                      refine g_puti (pc1 := 134) d_PotSearch_tryHeats_131 rfl fo_PotSearch_97 (po_10_6 _) sh_391 (by decide) ?_
                      refine Wp.topM (fun M2594 eM2594 => ?_)
                      refine g_aload_n (pc1 := 135) d_PotSearch_tryHeats_134 rfl 0 rfl ?_
                      refine g_aload_n (pc1 := 136) d_PotSearch_tryHeats_135 rfl 0 rfl ?_
                      refine g_geti (pc1 := 139) d_PotSearch_tryHeats_136 rfl ⟨_, fo_PotSearch_56⟩ sh_391 (by decide) ?_
                      refine g_puti (pc1 := 142) d_PotSearch_tryHeats_139 rfl fo_PotSearch_100 (po_10_7 _) sh_391 (by decide) ?_
                      refine Wp.topM (fun M2595 eM2595 => ?_)
                      refine g_aload_n (pc1 := 143) d_PotSearch_tryHeats_142 rfl 0 rfl ?_
                      refine g_iload (pc1 := 145) d_PotSearch_tryHeats_143 rfl 5 rfl ?_
                      refine g_puti (pc1 := 148) d_PotSearch_tryHeats_145 rfl fo_PotSearch_103 (po_10_8 _) sh_391 (by decide) ?_
                      refine Wp.topM (fun M2596 eM2596 => ?_)
                      refine g_aload_n (pc1 := 149) d_PotSearch_tryHeats_148 rfl 0 rfl ?_
                      refine g_getr (pc1 := 152) d_PotSearch_tryHeats_149 rfl ⟨_, fo_PotSearch_15⟩ sh_391 (by decide) (rf_391_1 ld) ?_
                      refine g_aload_n (pc1 := 153) d_PotSearch_tryHeats_152 rfl 0 rfl ?_
                      refine g_getr (pc1 := 156) d_PotSearch_tryHeats_153 rfl ⟨_, fo_PotSearch_21⟩ sh_391 (by decide) (rf_391_5 ld) ?_
                      refine g_callS0 (pc1 := 159) (As := [.ref 393, .ref 395]) (rest := []) d_PotSearch_tryHeats_156 rfl mo_PotSearch_110 ms_Main_copyRow (by decide) rfl rfl (Nat.le_of_ble_eq_true rfl) ?_
                      refine t1_Main_copyRow hld 393 sh_393 (by decide) (by decide) 395 sh_395 (by decide) (by decide) (fun  M2597 L2598 k2599 => ?_)
                      refine g_return rfl d_PotSearch_tryHeats_159 rfl ?_
                      exact hQ _ _ (Kp.trans (Kp.wM (Kp.wM (Kp.wM (Kp.wM (Kp.trans k2584 (Kp.mono k2590 S0_S1)) rfl eM2593) rfl eM2594) rfl eM2595) rfl eM2596) (Kp.mono k2599 (one_S rfl)))
              exact LP2580 _ 0 M L Kp.rf (by decide) (Nat.lt_succ_self _)
          · refine g_aload_n (pc1 := 49) d_PotSearch_tryHeats_48 rfl 0 rfl ?_
            refine g_geti (pc1 := 52) d_PotSearch_tryHeats_49 rfl ⟨_, fo_PotSearch_89⟩ sh_391 (by decide) ?_
            refine g_aload_n (pc1 := 53) d_PotSearch_tryHeats_52 rfl 0 rfl ?_
            refine g_geti (pc1 := 56) d_PotSearch_tryHeats_53 rfl ⟨_, fo_PotSearch_97⟩ sh_391 (by decide) ?_
            refine g_icmp_ne (pc1 := 59) (tgt := 74) d_PotSearch_tryHeats_56 (by decide) rfl (fun h2600 => ?_) (fun h2600 => ?_)
            · refine g_iconst (pc1 := 75) (v := 0) d_PotSearch_tryHeats_74 rfl (by decide) ?_
              refine g_istore_n (pc1 := 76) (lv' := [(0, .ref 391), (1, .ref Ld1), (2, .int p2), (3, .int 0)]) d_PotSearch_tryHeats_75 rfl rfl (by decide) [1, 2, 3, 0] rfl ?_
              refine g_iload_n (pc1 := 77) d_PotSearch_tryHeats_76 rfl 3 rfl ?_
              refine g_if_eq (pc1 := 80) (tgt := 94) d_PotSearch_tryHeats_77 (by decide) rfl (fun h2601 => ?_) (fun h2601 => ?_)
              · refine g_aload_n (pc1 := 95) d_PotSearch_tryHeats_94 rfl 0 rfl ?_
                refine g_geti (pc1 := 98) d_PotSearch_tryHeats_95 rfl ⟨_, fo_PotSearch_44⟩ sh_391 (by decide) ?_
                refine Wp.topi (fun x2602 ex2602 => ?_)
                refine g_istore (pc1 := 100) (lv' := [(0, .ref 391), (1, .ref Ld1), (2, .int p2), (3, .int 0), (4, .int x2602)]) d_PotSearch_tryHeats_98 rfl (by decide) [1, 2, 3, 4, 0] rfl ?_
                refine g_iconst (pc1 := 101) (v := 0) d_PotSearch_tryHeats_100 rfl (by decide) ?_
                refine g_istore (pc1 := 103) (lv' := [(0, .ref 391), (1, .ref Ld1), (2, .int p2), (3, .int 0), (4, .int x2602), (5, .int 0)]) d_PotSearch_tryHeats_101 rfl (by decide) [1, 2, 3, 4, 5, 0] rfl ?_
                have LP2606 : ∀ (f2603 : Nat) (v2607 : Int32) (M2608 : gM) (L2609 : gL), Kp S1 M L M2608 L2609 → ¬ v2607 < 0 → (x2602.toInt - v2607.toInt).toNat < f2603 → Wp l y_PotSearch_tryHeats (0, 0, 447) 447 0 0 103 [(0, .ref 391), (1, .ref Ld1), (2, .int p2), (3, .int 0), (4, .int x2602), (5, .int v2607)] [] M2608 L2609 (rf ld) Q := by
                  intro f2603
                  induction f2603 with
                  | zero => intro v2607 M2608 L2609 _ _ hm2605; exact absurd hm2605 (Nat.not_lt_zero _)
                  | succ f2603 ih2604 =>
                    intro v2607 M2608 L2609 k2610 n2611 hm2605
                    refine g_iload (pc1 := 105) d_PotSearch_tryHeats_103 rfl 5 rfl ?_
                    refine g_iload (pc1 := 107) d_PotSearch_tryHeats_105 rfl 4 rfl ?_
                    refine g_icmp_ge (pc1 := 110) (tgt := 166) d_PotSearch_tryHeats_107 (by decide) rfl (fun h2612 => ?_) (fun h2612 => ?_)
                    · refine g_return rfl d_PotSearch_tryHeats_166 rfl ?_
                      exact hQ _ _ k2610
                    · refine g_aload_n (pc1 := 111) d_PotSearch_tryHeats_110 rfl 0 rfl ?_
                      refine g_aload_n (pc1 := 112) d_PotSearch_tryHeats_111 rfl 1 rfl ?_
                      refine g_iload (pc1 := 114) d_PotSearch_tryHeats_112 rfl 5 rfl ?_
                      refine g_iload_n (pc1 := 115) d_PotSearch_tryHeats_114 rfl 2 rfl ?_
                      refine g_callV0 (pc1 := 118) (As := [.ref Ld1, .int v2607, .int p2]) (rest := []) d_PotSearch_tryHeats_115 rfl mo_PotSearch_106 mi_PotSearch_isEnough mv_PotSearch_isEnough rfl sh_391 (by decide) (by decide) rfl rfl (Nat.le_of_ble_eq_true rfl) ?_
                      refine t1_PotSearch_isEnough hld Ld1 hLd1 _ _ (fun r2613 M2614 L2615 hr2613 k2616 => ?_)
                      refine g_if_eq (pc1 := 121) (tgt := 160) d_PotSearch_tryHeats_118 (by decide) rfl (fun h2617 => ?_) (fun h2617 => ?_)
                      · obtain ⟨x2618, ex2618⟩ : ∃ y : Int32, y = v2607 + 1 := ⟨_, rfl⟩
                        refine g_iinc (pc1 := 163) (v := x2618) (lv' := [(0, .ref 391), (1, .ref Ld1), (2, .int p2), (3, .int 0), (4, .int x2602), (5, .int x2618)]) d_PotSearch_tryHeats_160 rfl 5 rfl (by rw [ex2618]; rfl) (by decide) [1, 2, 3, 4, 5, 0] rfl ?_
                        refine g_goto (tgt := 103) d_PotSearch_tryHeats_163 (by decide) ?_
                        exact ih2604 x2618 M2614 L2615 (Kp.trans k2610 (Kp.mono k2616 S0_S1)) (nn_up (y := x2602) h2612 ex2618 n2611) (md_up h2612 ex2618 hm2605)
                      · refine g_aload_n (pc1 := 122) d_PotSearch_tryHeats_121 rfl 0 rfl ?_
                        refine g_iconst (pc1 := 123) (v := 1) d_PotSearch_tryHeats_122 rfl (by decide) ?_
                        refine g_putz (pc1 := 126) d_PotSearch_tryHeats_123 rfl fo_PotSearch_28 po_10_9_1 rfl sh_391 (by decide) ?_
                        refine Wp.topM (fun M2619 eM2619 => ?_)
                        refine g_aload_n (pc1 := 127) d_PotSearch_tryHeats_126 rfl 0 rfl ?_
                        refine g_aload_n (pc1 := 128) d_PotSearch_tryHeats_127 rfl 0 rfl ?_
                        refine g_geti (pc1 := 131) d_PotSearch_tryHeats_128 rfl ⟨_, fo_PotSearch_89⟩ sh_391 (by decide) ?_
                        refine g_puti (pc1 := 134) d_PotSearch_tryHeats_131 rfl fo_PotSearch_97 (po_10_6 _) sh_391 (by decide) ?_
                        refine Wp.topM (fun M2620 eM2620 => ?_)
                        refine g_aload_n (pc1 := 135) d_PotSearch_tryHeats_134 rfl 0 rfl ?_
                        refine g_aload_n (pc1 := 136) d_PotSearch_tryHeats_135 rfl 0 rfl ?_
                        refine g_geti (pc1 := 139) d_PotSearch_tryHeats_136 rfl ⟨_, fo_PotSearch_56⟩ sh_391 (by decide) ?_
                        refine g_puti (pc1 := 142) d_PotSearch_tryHeats_139 rfl fo_PotSearch_100 (po_10_7 _) sh_391 (by decide) ?_
                        refine Wp.topM (fun M2621 eM2621 => ?_)
                        refine g_aload_n (pc1 := 143) d_PotSearch_tryHeats_142 rfl 0 rfl ?_
                        refine g_iload (pc1 := 145) d_PotSearch_tryHeats_143 rfl 5 rfl ?_
                        refine g_puti (pc1 := 148) d_PotSearch_tryHeats_145 rfl fo_PotSearch_103 (po_10_8 _) sh_391 (by decide) ?_
                        refine Wp.topM (fun M2622 eM2622 => ?_)
                        refine g_aload_n (pc1 := 149) d_PotSearch_tryHeats_148 rfl 0 rfl ?_
                        refine g_getr (pc1 := 152) d_PotSearch_tryHeats_149 rfl ⟨_, fo_PotSearch_15⟩ sh_391 (by decide) (rf_391_1 ld) ?_
                        refine g_aload_n (pc1 := 153) d_PotSearch_tryHeats_152 rfl 0 rfl ?_
                        refine g_getr (pc1 := 156) d_PotSearch_tryHeats_153 rfl ⟨_, fo_PotSearch_21⟩ sh_391 (by decide) (rf_391_5 ld) ?_
                        refine g_callS0 (pc1 := 159) (As := [.ref 393, .ref 395]) (rest := []) d_PotSearch_tryHeats_156 rfl mo_PotSearch_110 ms_Main_copyRow (by decide) rfl rfl (Nat.le_of_ble_eq_true rfl) ?_
                        refine t1_Main_copyRow hld 393 sh_393 (by decide) (by decide) 395 sh_395 (by decide) (by decide) (fun  M2623 L2624 k2625 => ?_)
                        refine g_return rfl d_PotSearch_tryHeats_159 rfl ?_
                        exact hQ _ _ (Kp.trans (Kp.wM (Kp.wM (Kp.wM (Kp.wM (Kp.trans k2610 (Kp.mono k2616 S0_S1)) rfl eM2619) rfl eM2620) rfl eM2621) rfl eM2622) (Kp.mono k2625 (one_S rfl)))
                exact LP2606 _ 0 M L Kp.rf (by decide) (Nat.lt_succ_self _)
              · refine g_aload_n (pc1 := 81) d_PotSearch_tryHeats_80 rfl 0 rfl ?_
                refine g_geti (pc1 := 84) d_PotSearch_tryHeats_81 rfl ⟨_, fo_PotSearch_103⟩ sh_391 (by decide) ?_
                refine g_aload_n (pc1 := 85) d_PotSearch_tryHeats_84 rfl 0 rfl ?_
                refine g_geti (pc1 := 88) d_PotSearch_tryHeats_85 rfl ⟨_, fo_PotSearch_44⟩ sh_391 (by decide) ?_
                refine g_mmin (pc1 := 91) d_PotSearch_tryHeats_88 rfl mm_PotSearch_79 (by decide) ⟨Nat.le_refl 0, Nat.le_refl 0⟩ (Nat.le_of_ble_eq_true rfl) ?_
                refine g_goto (tgt := 98) d_PotSearch_tryHeats_91 (by decide) ?_
                refine Wp.topi (fun x2626 ex2626 => ?_)
                refine g_istore (pc1 := 100) (lv' := [(0, .ref 391), (1, .ref Ld1), (2, .int p2), (3, .int 0), (4, .int x2626)]) d_PotSearch_tryHeats_98 rfl (by decide) [1, 2, 3, 4, 0] rfl ?_
                refine g_iconst (pc1 := 101) (v := 0) d_PotSearch_tryHeats_100 rfl (by decide) ?_
                refine g_istore (pc1 := 103) (lv' := [(0, .ref 391), (1, .ref Ld1), (2, .int p2), (3, .int 0), (4, .int x2626), (5, .int 0)]) d_PotSearch_tryHeats_101 rfl (by decide) [1, 2, 3, 4, 5, 0] rfl ?_
                have LP2630 : ∀ (f2627 : Nat) (v2631 : Int32) (M2632 : gM) (L2633 : gL), Kp S1 M L M2632 L2633 → ¬ v2631 < 0 → (x2626.toInt - v2631.toInt).toNat < f2627 → Wp l y_PotSearch_tryHeats (0, 0, 447) 447 0 0 103 [(0, .ref 391), (1, .ref Ld1), (2, .int p2), (3, .int 0), (4, .int x2626), (5, .int v2631)] [] M2632 L2633 (rf ld) Q := by
                  intro f2627
                  induction f2627 with
                  | zero => intro v2631 M2632 L2633 _ _ hm2629; exact absurd hm2629 (Nat.not_lt_zero _)
                  | succ f2627 ih2628 =>
                    intro v2631 M2632 L2633 k2634 n2635 hm2629
                    refine g_iload (pc1 := 105) d_PotSearch_tryHeats_103 rfl 5 rfl ?_
                    refine g_iload (pc1 := 107) d_PotSearch_tryHeats_105 rfl 4 rfl ?_
                    refine g_icmp_ge (pc1 := 110) (tgt := 166) d_PotSearch_tryHeats_107 (by decide) rfl (fun h2636 => ?_) (fun h2636 => ?_)
                    · refine g_return rfl d_PotSearch_tryHeats_166 rfl ?_
                      exact hQ _ _ k2634
                    · refine g_aload_n (pc1 := 111) d_PotSearch_tryHeats_110 rfl 0 rfl ?_
                      refine g_aload_n (pc1 := 112) d_PotSearch_tryHeats_111 rfl 1 rfl ?_
                      refine g_iload (pc1 := 114) d_PotSearch_tryHeats_112 rfl 5 rfl ?_
                      refine g_iload_n (pc1 := 115) d_PotSearch_tryHeats_114 rfl 2 rfl ?_
                      refine g_callV0 (pc1 := 118) (As := [.ref Ld1, .int v2631, .int p2]) (rest := []) d_PotSearch_tryHeats_115 rfl mo_PotSearch_106 mi_PotSearch_isEnough mv_PotSearch_isEnough rfl sh_391 (by decide) (by decide) rfl rfl (Nat.le_of_ble_eq_true rfl) ?_
                      refine t1_PotSearch_isEnough hld Ld1 hLd1 _ _ (fun r2637 M2638 L2639 hr2637 k2640 => ?_)
                      refine g_if_eq (pc1 := 121) (tgt := 160) d_PotSearch_tryHeats_118 (by decide) rfl (fun h2641 => ?_) (fun h2641 => ?_)
                      · obtain ⟨x2642, ex2642⟩ : ∃ y : Int32, y = v2631 + 1 := ⟨_, rfl⟩
                        refine g_iinc (pc1 := 163) (v := x2642) (lv' := [(0, .ref 391), (1, .ref Ld1), (2, .int p2), (3, .int 0), (4, .int x2626), (5, .int x2642)]) d_PotSearch_tryHeats_160 rfl 5 rfl (by rw [ex2642]; rfl) (by decide) [1, 2, 3, 4, 5, 0] rfl ?_
                        refine g_goto (tgt := 103) d_PotSearch_tryHeats_163 (by decide) ?_
                        exact ih2628 x2642 M2638 L2639 (Kp.trans k2634 (Kp.mono k2640 S0_S1)) (nn_up (y := x2626) h2636 ex2642 n2635) (md_up h2636 ex2642 hm2629)
                      · refine g_aload_n (pc1 := 122) d_PotSearch_tryHeats_121 rfl 0 rfl ?_
                        refine g_iconst (pc1 := 123) (v := 1) d_PotSearch_tryHeats_122 rfl (by decide) ?_
                        refine g_putz (pc1 := 126) d_PotSearch_tryHeats_123 rfl fo_PotSearch_28 po_10_9_1 rfl sh_391 (by decide) ?_
                        refine Wp.topM (fun M2643 eM2643 => ?_)
                        refine g_aload_n (pc1 := 127) d_PotSearch_tryHeats_126 rfl 0 rfl ?_
                        refine g_aload_n (pc1 := 128) d_PotSearch_tryHeats_127 rfl 0 rfl ?_
                        refine g_geti (pc1 := 131) d_PotSearch_tryHeats_128 rfl ⟨_, fo_PotSearch_89⟩ sh_391 (by decide) ?_
                        refine g_puti (pc1 := 134) d_PotSearch_tryHeats_131 rfl fo_PotSearch_97 (po_10_6 _) sh_391 (by decide) ?_
                        refine Wp.topM (fun M2644 eM2644 => ?_)
                        refine g_aload_n (pc1 := 135) d_PotSearch_tryHeats_134 rfl 0 rfl ?_
                        refine g_aload_n (pc1 := 136) d_PotSearch_tryHeats_135 rfl 0 rfl ?_
                        refine g_geti (pc1 := 139) d_PotSearch_tryHeats_136 rfl ⟨_, fo_PotSearch_56⟩ sh_391 (by decide) ?_
                        refine g_puti (pc1 := 142) d_PotSearch_tryHeats_139 rfl fo_PotSearch_100 (po_10_7 _) sh_391 (by decide) ?_
                        refine Wp.topM (fun M2645 eM2645 => ?_)
                        refine g_aload_n (pc1 := 143) d_PotSearch_tryHeats_142 rfl 0 rfl ?_
                        refine g_iload (pc1 := 145) d_PotSearch_tryHeats_143 rfl 5 rfl ?_
                        refine g_puti (pc1 := 148) d_PotSearch_tryHeats_145 rfl fo_PotSearch_103 (po_10_8 _) sh_391 (by decide) ?_
                        refine Wp.topM (fun M2646 eM2646 => ?_)
                        refine g_aload_n (pc1 := 149) d_PotSearch_tryHeats_148 rfl 0 rfl ?_
                        refine g_getr (pc1 := 152) d_PotSearch_tryHeats_149 rfl ⟨_, fo_PotSearch_15⟩ sh_391 (by decide) (rf_391_1 ld) ?_
                        refine g_aload_n (pc1 := 153) d_PotSearch_tryHeats_152 rfl 0 rfl ?_
                        refine g_getr (pc1 := 156) d_PotSearch_tryHeats_153 rfl ⟨_, fo_PotSearch_21⟩ sh_391 (by decide) (rf_391_5 ld) ?_
                        refine g_callS0 (pc1 := 159) (As := [.ref 393, .ref 395]) (rest := []) d_PotSearch_tryHeats_156 rfl mo_PotSearch_110 ms_Main_copyRow (by decide) rfl rfl (Nat.le_of_ble_eq_true rfl) ?_
                        refine t1_Main_copyRow hld 393 sh_393 (by decide) (by decide) 395 sh_395 (by decide) (by decide) (fun  M2647 L2648 k2649 => ?_)
                        refine g_return rfl d_PotSearch_tryHeats_159 rfl ?_
                        exact hQ _ _ (Kp.trans (Kp.wM (Kp.wM (Kp.wM (Kp.wM (Kp.trans k2634 (Kp.mono k2640 S0_S1)) rfl eM2643) rfl eM2644) rfl eM2645) rfl eM2646) (Kp.mono k2649 (one_S rfl)))
                exact LP2630 _ 0 M L Kp.rf (by decide) (Nat.lt_succ_self _)
            · refine g_aload_n (pc1 := 60) d_PotSearch_tryHeats_59 rfl 0 rfl ?_
              refine g_geti (pc1 := 63) d_PotSearch_tryHeats_60 rfl ⟨_, fo_PotSearch_56⟩ sh_391 (by decide) ?_
              refine g_aload_n (pc1 := 64) d_PotSearch_tryHeats_63 rfl 0 rfl ?_
              refine g_geti (pc1 := 67) d_PotSearch_tryHeats_64 rfl ⟨_, fo_PotSearch_100⟩ sh_391 (by decide) ?_
              refine g_icmp_ne (pc1 := 70) (tgt := 74) d_PotSearch_tryHeats_67 (by decide) rfl (fun h2650 => ?_) (fun h2650 => ?_)
              · refine g_iconst (pc1 := 75) (v := 0) d_PotSearch_tryHeats_74 rfl (by decide) ?_
                refine g_istore_n (pc1 := 76) (lv' := [(0, .ref 391), (1, .ref Ld1), (2, .int p2), (3, .int 0)]) d_PotSearch_tryHeats_75 rfl rfl (by decide) [1, 2, 3, 0] rfl ?_
                refine g_iload_n (pc1 := 77) d_PotSearch_tryHeats_76 rfl 3 rfl ?_
                refine g_if_eq (pc1 := 80) (tgt := 94) d_PotSearch_tryHeats_77 (by decide) rfl (fun h2651 => ?_) (fun h2651 => ?_)
                · refine g_aload_n (pc1 := 95) d_PotSearch_tryHeats_94 rfl 0 rfl ?_
                  refine g_geti (pc1 := 98) d_PotSearch_tryHeats_95 rfl ⟨_, fo_PotSearch_44⟩ sh_391 (by decide) ?_
                  refine Wp.topi (fun x2652 ex2652 => ?_)
                  refine g_istore (pc1 := 100) (lv' := [(0, .ref 391), (1, .ref Ld1), (2, .int p2), (3, .int 0), (4, .int x2652)]) d_PotSearch_tryHeats_98 rfl (by decide) [1, 2, 3, 4, 0] rfl ?_
                  refine g_iconst (pc1 := 101) (v := 0) d_PotSearch_tryHeats_100 rfl (by decide) ?_
                  refine g_istore (pc1 := 103) (lv' := [(0, .ref 391), (1, .ref Ld1), (2, .int p2), (3, .int 0), (4, .int x2652), (5, .int 0)]) d_PotSearch_tryHeats_101 rfl (by decide) [1, 2, 3, 4, 5, 0] rfl ?_
                  have LP2656 : ∀ (f2653 : Nat) (v2657 : Int32) (M2658 : gM) (L2659 : gL), Kp S1 M L M2658 L2659 → ¬ v2657 < 0 → (x2652.toInt - v2657.toInt).toNat < f2653 → Wp l y_PotSearch_tryHeats (0, 0, 447) 447 0 0 103 [(0, .ref 391), (1, .ref Ld1), (2, .int p2), (3, .int 0), (4, .int x2652), (5, .int v2657)] [] M2658 L2659 (rf ld) Q := by
                    intro f2653
                    induction f2653 with
                    | zero => intro v2657 M2658 L2659 _ _ hm2655; exact absurd hm2655 (Nat.not_lt_zero _)
                    | succ f2653 ih2654 =>
                      intro v2657 M2658 L2659 k2660 n2661 hm2655
                      refine g_iload (pc1 := 105) d_PotSearch_tryHeats_103 rfl 5 rfl ?_
                      refine g_iload (pc1 := 107) d_PotSearch_tryHeats_105 rfl 4 rfl ?_
                      refine g_icmp_ge (pc1 := 110) (tgt := 166) d_PotSearch_tryHeats_107 (by decide) rfl (fun h2662 => ?_) (fun h2662 => ?_)
                      · refine g_return rfl d_PotSearch_tryHeats_166 rfl ?_
                        exact hQ _ _ k2660
                      · refine g_aload_n (pc1 := 111) d_PotSearch_tryHeats_110 rfl 0 rfl ?_
                        refine g_aload_n (pc1 := 112) d_PotSearch_tryHeats_111 rfl 1 rfl ?_
                        refine g_iload (pc1 := 114) d_PotSearch_tryHeats_112 rfl 5 rfl ?_
                        refine g_iload_n (pc1 := 115) d_PotSearch_tryHeats_114 rfl 2 rfl ?_
                        refine g_callV0 (pc1 := 118) (As := [.ref Ld1, .int v2657, .int p2]) (rest := []) d_PotSearch_tryHeats_115 rfl mo_PotSearch_106 mi_PotSearch_isEnough mv_PotSearch_isEnough rfl sh_391 (by decide) (by decide) rfl rfl (Nat.le_of_ble_eq_true rfl) ?_
                        refine t1_PotSearch_isEnough hld Ld1 hLd1 _ _ (fun r2663 M2664 L2665 hr2663 k2666 => ?_)
                        refine g_if_eq (pc1 := 121) (tgt := 160) d_PotSearch_tryHeats_118 (by decide) rfl (fun h2667 => ?_) (fun h2667 => ?_)
                        · obtain ⟨x2668, ex2668⟩ : ∃ y : Int32, y = v2657 + 1 := ⟨_, rfl⟩
                          refine g_iinc (pc1 := 163) (v := x2668) (lv' := [(0, .ref 391), (1, .ref Ld1), (2, .int p2), (3, .int 0), (4, .int x2652), (5, .int x2668)]) d_PotSearch_tryHeats_160 rfl 5 rfl (by rw [ex2668]; rfl) (by decide) [1, 2, 3, 4, 5, 0] rfl ?_
                          refine g_goto (tgt := 103) d_PotSearch_tryHeats_163 (by decide) ?_
                          exact ih2654 x2668 M2664 L2665 (Kp.trans k2660 (Kp.mono k2666 S0_S1)) (nn_up (y := x2652) h2662 ex2668 n2661) (md_up h2662 ex2668 hm2655)
                        · refine g_aload_n (pc1 := 122) d_PotSearch_tryHeats_121 rfl 0 rfl ?_
                          refine g_iconst (pc1 := 123) (v := 1) d_PotSearch_tryHeats_122 rfl (by decide) ?_
                          refine g_putz (pc1 := 126) d_PotSearch_tryHeats_123 rfl fo_PotSearch_28 po_10_9_1 rfl sh_391 (by decide) ?_
                          refine Wp.topM (fun M2669 eM2669 => ?_)
                          refine g_aload_n (pc1 := 127) d_PotSearch_tryHeats_126 rfl 0 rfl ?_
                          refine g_aload_n (pc1 := 128) d_PotSearch_tryHeats_127 rfl 0 rfl ?_
                          refine g_geti (pc1 := 131) d_PotSearch_tryHeats_128 rfl ⟨_, fo_PotSearch_89⟩ sh_391 (by decide) ?_
                          refine g_puti (pc1 := 134) d_PotSearch_tryHeats_131 rfl fo_PotSearch_97 (po_10_6 _) sh_391 (by decide) ?_
                          refine Wp.topM (fun M2670 eM2670 => ?_)
                          refine g_aload_n (pc1 := 135) d_PotSearch_tryHeats_134 rfl 0 rfl ?_
                          refine g_aload_n (pc1 := 136) d_PotSearch_tryHeats_135 rfl 0 rfl ?_
                          refine g_geti (pc1 := 139) d_PotSearch_tryHeats_136 rfl ⟨_, fo_PotSearch_56⟩ sh_391 (by decide) ?_
                          refine g_puti (pc1 := 142) d_PotSearch_tryHeats_139 rfl fo_PotSearch_100 (po_10_7 _) sh_391 (by decide) ?_
                          refine Wp.topM (fun M2671 eM2671 => ?_)
                          refine g_aload_n (pc1 := 143) d_PotSearch_tryHeats_142 rfl 0 rfl ?_
                          refine g_iload (pc1 := 145) d_PotSearch_tryHeats_143 rfl 5 rfl ?_
                          refine g_puti (pc1 := 148) d_PotSearch_tryHeats_145 rfl fo_PotSearch_103 (po_10_8 _) sh_391 (by decide) ?_
                          refine Wp.topM (fun M2672 eM2672 => ?_)
                          refine g_aload_n (pc1 := 149) d_PotSearch_tryHeats_148 rfl 0 rfl ?_
                          refine g_getr (pc1 := 152) d_PotSearch_tryHeats_149 rfl ⟨_, fo_PotSearch_15⟩ sh_391 (by decide) (rf_391_1 ld) ?_
                          refine g_aload_n (pc1 := 153) d_PotSearch_tryHeats_152 rfl 0 rfl ?_
                          refine g_getr (pc1 := 156) d_PotSearch_tryHeats_153 rfl ⟨_, fo_PotSearch_21⟩ sh_391 (by decide) (rf_391_5 ld) ?_
                          refine g_callS0 (pc1 := 159) (As := [.ref 393, .ref 395]) (rest := []) d_PotSearch_tryHeats_156 rfl mo_PotSearch_110 ms_Main_copyRow (by decide) rfl rfl (Nat.le_of_ble_eq_true rfl) ?_
                          refine t1_Main_copyRow hld 393 sh_393 (by decide) (by decide) 395 sh_395 (by decide) (by decide) (fun  M2673 L2674 k2675 => ?_)
                          refine g_return rfl d_PotSearch_tryHeats_159 rfl ?_
                          exact hQ _ _ (Kp.trans (Kp.wM (Kp.wM (Kp.wM (Kp.wM (Kp.trans k2660 (Kp.mono k2666 S0_S1)) rfl eM2669) rfl eM2670) rfl eM2671) rfl eM2672) (Kp.mono k2675 (one_S rfl)))
                  exact LP2656 _ 0 M L Kp.rf (by decide) (Nat.lt_succ_self _)
                · refine g_aload_n (pc1 := 81) d_PotSearch_tryHeats_80 rfl 0 rfl ?_
                  refine g_geti (pc1 := 84) d_PotSearch_tryHeats_81 rfl ⟨_, fo_PotSearch_103⟩ sh_391 (by decide) ?_
                  refine g_aload_n (pc1 := 85) d_PotSearch_tryHeats_84 rfl 0 rfl ?_
                  refine g_geti (pc1 := 88) d_PotSearch_tryHeats_85 rfl ⟨_, fo_PotSearch_44⟩ sh_391 (by decide) ?_
                  refine g_mmin (pc1 := 91) d_PotSearch_tryHeats_88 rfl mm_PotSearch_79 (by decide) ⟨Nat.le_refl 0, Nat.le_refl 0⟩ (Nat.le_of_ble_eq_true rfl) ?_
                  refine g_goto (tgt := 98) d_PotSearch_tryHeats_91 (by decide) ?_
                  refine Wp.topi (fun x2676 ex2676 => ?_)
                  refine g_istore (pc1 := 100) (lv' := [(0, .ref 391), (1, .ref Ld1), (2, .int p2), (3, .int 0), (4, .int x2676)]) d_PotSearch_tryHeats_98 rfl (by decide) [1, 2, 3, 4, 0] rfl ?_
                  refine g_iconst (pc1 := 101) (v := 0) d_PotSearch_tryHeats_100 rfl (by decide) ?_
                  refine g_istore (pc1 := 103) (lv' := [(0, .ref 391), (1, .ref Ld1), (2, .int p2), (3, .int 0), (4, .int x2676), (5, .int 0)]) d_PotSearch_tryHeats_101 rfl (by decide) [1, 2, 3, 4, 5, 0] rfl ?_
                  have LP2680 : ∀ (f2677 : Nat) (v2681 : Int32) (M2682 : gM) (L2683 : gL), Kp S1 M L M2682 L2683 → ¬ v2681 < 0 → (x2676.toInt - v2681.toInt).toNat < f2677 → Wp l y_PotSearch_tryHeats (0, 0, 447) 447 0 0 103 [(0, .ref 391), (1, .ref Ld1), (2, .int p2), (3, .int 0), (4, .int x2676), (5, .int v2681)] [] M2682 L2683 (rf ld) Q := by
                    intro f2677
                    induction f2677 with
                    | zero => intro v2681 M2682 L2683 _ _ hm2679; exact absurd hm2679 (Nat.not_lt_zero _)
                    | succ f2677 ih2678 =>
                      intro v2681 M2682 L2683 k2684 n2685 hm2679
                      refine g_iload (pc1 := 105) d_PotSearch_tryHeats_103 rfl 5 rfl ?_
                      refine g_iload (pc1 := 107) d_PotSearch_tryHeats_105 rfl 4 rfl ?_
                      refine g_icmp_ge (pc1 := 110) (tgt := 166) d_PotSearch_tryHeats_107 (by decide) rfl (fun h2686 => ?_) (fun h2686 => ?_)
                      · refine g_return rfl d_PotSearch_tryHeats_166 rfl ?_
                        exact hQ _ _ k2684
                      · refine g_aload_n (pc1 := 111) d_PotSearch_tryHeats_110 rfl 0 rfl ?_
                        refine g_aload_n (pc1 := 112) d_PotSearch_tryHeats_111 rfl 1 rfl ?_
                        refine g_iload (pc1 := 114) d_PotSearch_tryHeats_112 rfl 5 rfl ?_
                        refine g_iload_n (pc1 := 115) d_PotSearch_tryHeats_114 rfl 2 rfl ?_
                        refine g_callV0 (pc1 := 118) (As := [.ref Ld1, .int v2681, .int p2]) (rest := []) d_PotSearch_tryHeats_115 rfl mo_PotSearch_106 mi_PotSearch_isEnough mv_PotSearch_isEnough rfl sh_391 (by decide) (by decide) rfl rfl (Nat.le_of_ble_eq_true rfl) ?_
                        refine t1_PotSearch_isEnough hld Ld1 hLd1 _ _ (fun r2687 M2688 L2689 hr2687 k2690 => ?_)
                        refine g_if_eq (pc1 := 121) (tgt := 160) d_PotSearch_tryHeats_118 (by decide) rfl (fun h2691 => ?_) (fun h2691 => ?_)
                        · obtain ⟨x2692, ex2692⟩ : ∃ y : Int32, y = v2681 + 1 := ⟨_, rfl⟩
                          refine g_iinc (pc1 := 163) (v := x2692) (lv' := [(0, .ref 391), (1, .ref Ld1), (2, .int p2), (3, .int 0), (4, .int x2676), (5, .int x2692)]) d_PotSearch_tryHeats_160 rfl 5 rfl (by rw [ex2692]; rfl) (by decide) [1, 2, 3, 4, 5, 0] rfl ?_
                          refine g_goto (tgt := 103) d_PotSearch_tryHeats_163 (by decide) ?_
                          exact ih2678 x2692 M2688 L2689 (Kp.trans k2684 (Kp.mono k2690 S0_S1)) (nn_up (y := x2676) h2686 ex2692 n2685) (md_up h2686 ex2692 hm2679)
                        · refine g_aload_n (pc1 := 122) d_PotSearch_tryHeats_121 rfl 0 rfl ?_
                          refine g_iconst (pc1 := 123) (v := 1) d_PotSearch_tryHeats_122 rfl (by decide) ?_
                          refine g_putz (pc1 := 126) d_PotSearch_tryHeats_123 rfl fo_PotSearch_28 po_10_9_1 rfl sh_391 (by decide) ?_
                          refine Wp.topM (fun M2693 eM2693 => ?_)
                          refine g_aload_n (pc1 := 127) d_PotSearch_tryHeats_126 rfl 0 rfl ?_
                          refine g_aload_n (pc1 := 128) d_PotSearch_tryHeats_127 rfl 0 rfl ?_
                          refine g_geti (pc1 := 131) d_PotSearch_tryHeats_128 rfl ⟨_, fo_PotSearch_89⟩ sh_391 (by decide) ?_
                          refine g_puti (pc1 := 134) d_PotSearch_tryHeats_131 rfl fo_PotSearch_97 (po_10_6 _) sh_391 (by decide) ?_
                          refine Wp.topM (fun M2694 eM2694 => ?_)
                          refine g_aload_n (pc1 := 135) d_PotSearch_tryHeats_134 rfl 0 rfl ?_
                          refine g_aload_n (pc1 := 136) d_PotSearch_tryHeats_135 rfl 0 rfl ?_
                          refine g_geti (pc1 := 139) d_PotSearch_tryHeats_136 rfl ⟨_, fo_PotSearch_56⟩ sh_391 (by decide) ?_
                          refine g_puti (pc1 := 142) d_PotSearch_tryHeats_139 rfl fo_PotSearch_100 (po_10_7 _) sh_391 (by decide) ?_
                          refine Wp.topM (fun M2695 eM2695 => ?_)
                          refine g_aload_n (pc1 := 143) d_PotSearch_tryHeats_142 rfl 0 rfl ?_
                          refine g_iload (pc1 := 145) d_PotSearch_tryHeats_143 rfl 5 rfl ?_
                          refine g_puti (pc1 := 148) d_PotSearch_tryHeats_145 rfl fo_PotSearch_103 (po_10_8 _) sh_391 (by decide) ?_
                          refine Wp.topM (fun M2696 eM2696 => ?_)
                          refine g_aload_n (pc1 := 149) d_PotSearch_tryHeats_148 rfl 0 rfl ?_
                          refine g_getr (pc1 := 152) d_PotSearch_tryHeats_149 rfl ⟨_, fo_PotSearch_15⟩ sh_391 (by decide) (rf_391_1 ld) ?_
                          refine g_aload_n (pc1 := 153) d_PotSearch_tryHeats_152 rfl 0 rfl ?_
                          refine g_getr (pc1 := 156) d_PotSearch_tryHeats_153 rfl ⟨_, fo_PotSearch_21⟩ sh_391 (by decide) (rf_391_5 ld) ?_
                          refine g_callS0 (pc1 := 159) (As := [.ref 393, .ref 395]) (rest := []) d_PotSearch_tryHeats_156 rfl mo_PotSearch_110 ms_Main_copyRow (by decide) rfl rfl (Nat.le_of_ble_eq_true rfl) ?_
                          refine t1_Main_copyRow hld 393 sh_393 (by decide) (by decide) 395 sh_395 (by decide) (by decide) (fun  M2697 L2698 k2699 => ?_)
                          refine g_return rfl d_PotSearch_tryHeats_159 rfl ?_
                          exact hQ _ _ (Kp.trans (Kp.wM (Kp.wM (Kp.wM (Kp.wM (Kp.trans k2684 (Kp.mono k2690 S0_S1)) rfl eM2693) rfl eM2694) rfl eM2695) rfl eM2696) (Kp.mono k2699 (one_S rfl)))
                  exact LP2680 _ 0 M L Kp.rf (by decide) (Nat.lt_succ_self _)
              · refine g_iconst (pc1 := 71) (v := 1) d_PotSearch_tryHeats_70 rfl (by decide) ?_
                refine g_goto (tgt := 75) d_PotSearch_tryHeats_71 (by decide) ?_
                refine g_istore_n (pc1 := 76) (lv' := [(0, .ref 391), (1, .ref Ld1), (2, .int p2), (3, .int 1)]) d_PotSearch_tryHeats_75 rfl rfl (by decide) [1, 2, 3, 0] rfl ?_
                refine g_iload_n (pc1 := 77) d_PotSearch_tryHeats_76 rfl 3 rfl ?_
                refine g_if_eq (pc1 := 80) (tgt := 94) d_PotSearch_tryHeats_77 (by decide) rfl (fun h2700 => ?_) (fun h2700 => ?_)
                · refine g_aload_n (pc1 := 95) d_PotSearch_tryHeats_94 rfl 0 rfl ?_
                  refine g_geti (pc1 := 98) d_PotSearch_tryHeats_95 rfl ⟨_, fo_PotSearch_44⟩ sh_391 (by decide) ?_
                  refine Wp.topi (fun x2701 ex2701 => ?_)
                  refine g_istore (pc1 := 100) (lv' := [(0, .ref 391), (1, .ref Ld1), (2, .int p2), (3, .int 1), (4, .int x2701)]) d_PotSearch_tryHeats_98 rfl (by decide) [1, 2, 3, 4, 0] rfl ?_
                  refine g_iconst (pc1 := 101) (v := 0) d_PotSearch_tryHeats_100 rfl (by decide) ?_
                  refine g_istore (pc1 := 103) (lv' := [(0, .ref 391), (1, .ref Ld1), (2, .int p2), (3, .int 1), (4, .int x2701), (5, .int 0)]) d_PotSearch_tryHeats_101 rfl (by decide) [1, 2, 3, 4, 5, 0] rfl ?_
                  have LP2705 : ∀ (f2702 : Nat) (v2706 : Int32) (M2707 : gM) (L2708 : gL), Kp S1 M L M2707 L2708 → ¬ v2706 < 0 → (x2701.toInt - v2706.toInt).toNat < f2702 → Wp l y_PotSearch_tryHeats (0, 0, 447) 447 0 0 103 [(0, .ref 391), (1, .ref Ld1), (2, .int p2), (3, .int 1), (4, .int x2701), (5, .int v2706)] [] M2707 L2708 (rf ld) Q := by
                    intro f2702
                    induction f2702 with
                    | zero => intro v2706 M2707 L2708 _ _ hm2704; exact absurd hm2704 (Nat.not_lt_zero _)
                    | succ f2702 ih2703 =>
                      intro v2706 M2707 L2708 k2709 n2710 hm2704
                      refine g_iload (pc1 := 105) d_PotSearch_tryHeats_103 rfl 5 rfl ?_
                      refine g_iload (pc1 := 107) d_PotSearch_tryHeats_105 rfl 4 rfl ?_
                      refine g_icmp_ge (pc1 := 110) (tgt := 166) d_PotSearch_tryHeats_107 (by decide) rfl (fun h2711 => ?_) (fun h2711 => ?_)
                      · refine g_return rfl d_PotSearch_tryHeats_166 rfl ?_
                        exact hQ _ _ k2709
                      · refine g_aload_n (pc1 := 111) d_PotSearch_tryHeats_110 rfl 0 rfl ?_
                        refine g_aload_n (pc1 := 112) d_PotSearch_tryHeats_111 rfl 1 rfl ?_
                        refine g_iload (pc1 := 114) d_PotSearch_tryHeats_112 rfl 5 rfl ?_
                        refine g_iload_n (pc1 := 115) d_PotSearch_tryHeats_114 rfl 2 rfl ?_
                        refine g_callV0 (pc1 := 118) (As := [.ref Ld1, .int v2706, .int p2]) (rest := []) d_PotSearch_tryHeats_115 rfl mo_PotSearch_106 mi_PotSearch_isEnough mv_PotSearch_isEnough rfl sh_391 (by decide) (by decide) rfl rfl (Nat.le_of_ble_eq_true rfl) ?_
                        refine t1_PotSearch_isEnough hld Ld1 hLd1 _ _ (fun r2712 M2713 L2714 hr2712 k2715 => ?_)
                        refine g_if_eq (pc1 := 121) (tgt := 160) d_PotSearch_tryHeats_118 (by decide) rfl (fun h2716 => ?_) (fun h2716 => ?_)
                        · obtain ⟨x2717, ex2717⟩ : ∃ y : Int32, y = v2706 + 1 := ⟨_, rfl⟩
                          refine g_iinc (pc1 := 163) (v := x2717) (lv' := [(0, .ref 391), (1, .ref Ld1), (2, .int p2), (3, .int 1), (4, .int x2701), (5, .int x2717)]) d_PotSearch_tryHeats_160 rfl 5 rfl (by rw [ex2717]; rfl) (by decide) [1, 2, 3, 4, 5, 0] rfl ?_
                          refine g_goto (tgt := 103) d_PotSearch_tryHeats_163 (by decide) ?_
                          exact ih2703 x2717 M2713 L2714 (Kp.trans k2709 (Kp.mono k2715 S0_S1)) (nn_up (y := x2701) h2711 ex2717 n2710) (md_up h2711 ex2717 hm2704)
                        · refine g_aload_n (pc1 := 122) d_PotSearch_tryHeats_121 rfl 0 rfl ?_
                          refine g_iconst (pc1 := 123) (v := 1) d_PotSearch_tryHeats_122 rfl (by decide) ?_
                          refine g_putz (pc1 := 126) d_PotSearch_tryHeats_123 rfl fo_PotSearch_28 po_10_9_1 rfl sh_391 (by decide) ?_
                          refine Wp.topM (fun M2718 eM2718 => ?_)
                          refine g_aload_n (pc1 := 127) d_PotSearch_tryHeats_126 rfl 0 rfl ?_
                          refine g_aload_n (pc1 := 128) d_PotSearch_tryHeats_127 rfl 0 rfl ?_
                          refine g_geti (pc1 := 131) d_PotSearch_tryHeats_128 rfl ⟨_, fo_PotSearch_89⟩ sh_391 (by decide) ?_
                          refine g_puti (pc1 := 134) d_PotSearch_tryHeats_131 rfl fo_PotSearch_97 (po_10_6 _) sh_391 (by decide) ?_
                          refine Wp.topM (fun M2719 eM2719 => ?_)
                          refine g_aload_n (pc1 := 135) d_PotSearch_tryHeats_134 rfl 0 rfl ?_
                          refine g_aload_n (pc1 := 136) d_PotSearch_tryHeats_135 rfl 0 rfl ?_
                          refine g_geti (pc1 := 139) d_PotSearch_tryHeats_136 rfl ⟨_, fo_PotSearch_56⟩ sh_391 (by decide) ?_
                          refine g_puti (pc1 := 142) d_PotSearch_tryHeats_139 rfl fo_PotSearch_100 (po_10_7 _) sh_391 (by decide) ?_
                          refine Wp.topM (fun M2720 eM2720 => ?_)
                          refine g_aload_n (pc1 := 143) d_PotSearch_tryHeats_142 rfl 0 rfl ?_
                          refine g_iload (pc1 := 145) d_PotSearch_tryHeats_143 rfl 5 rfl ?_
                          refine g_puti (pc1 := 148) d_PotSearch_tryHeats_145 rfl fo_PotSearch_103 (po_10_8 _) sh_391 (by decide) ?_
                          refine Wp.topM (fun M2721 eM2721 => ?_)
                          refine g_aload_n (pc1 := 149) d_PotSearch_tryHeats_148 rfl 0 rfl ?_
                          refine g_getr (pc1 := 152) d_PotSearch_tryHeats_149 rfl ⟨_, fo_PotSearch_15⟩ sh_391 (by decide) (rf_391_1 ld) ?_
                          refine g_aload_n (pc1 := 153) d_PotSearch_tryHeats_152 rfl 0 rfl ?_
                          refine g_getr (pc1 := 156) d_PotSearch_tryHeats_153 rfl ⟨_, fo_PotSearch_21⟩ sh_391 (by decide) (rf_391_5 ld) ?_
                          refine g_callS0 (pc1 := 159) (As := [.ref 393, .ref 395]) (rest := []) d_PotSearch_tryHeats_156 rfl mo_PotSearch_110 ms_Main_copyRow (by decide) rfl rfl (Nat.le_of_ble_eq_true rfl) ?_
                          refine t1_Main_copyRow hld 393 sh_393 (by decide) (by decide) 395 sh_395 (by decide) (by decide) (fun  M2722 L2723 k2724 => ?_)
                          refine g_return rfl d_PotSearch_tryHeats_159 rfl ?_
                          exact hQ _ _ (Kp.trans (Kp.wM (Kp.wM (Kp.wM (Kp.wM (Kp.trans k2709 (Kp.mono k2715 S0_S1)) rfl eM2718) rfl eM2719) rfl eM2720) rfl eM2721) (Kp.mono k2724 (one_S rfl)))
                  exact LP2705 _ 0 M L Kp.rf (by decide) (Nat.lt_succ_self _)
                · refine g_aload_n (pc1 := 81) d_PotSearch_tryHeats_80 rfl 0 rfl ?_
                  refine g_geti (pc1 := 84) d_PotSearch_tryHeats_81 rfl ⟨_, fo_PotSearch_103⟩ sh_391 (by decide) ?_
                  refine g_aload_n (pc1 := 85) d_PotSearch_tryHeats_84 rfl 0 rfl ?_
                  refine g_geti (pc1 := 88) d_PotSearch_tryHeats_85 rfl ⟨_, fo_PotSearch_44⟩ sh_391 (by decide) ?_
                  refine g_mmin (pc1 := 91) d_PotSearch_tryHeats_88 rfl mm_PotSearch_79 (by decide) ⟨Nat.le_refl 0, Nat.le_refl 0⟩ (Nat.le_of_ble_eq_true rfl) ?_
                  refine g_goto (tgt := 98) d_PotSearch_tryHeats_91 (by decide) ?_
                  refine Wp.topi (fun x2725 ex2725 => ?_)
                  refine g_istore (pc1 := 100) (lv' := [(0, .ref 391), (1, .ref Ld1), (2, .int p2), (3, .int 1), (4, .int x2725)]) d_PotSearch_tryHeats_98 rfl (by decide) [1, 2, 3, 4, 0] rfl ?_
                  refine g_iconst (pc1 := 101) (v := 0) d_PotSearch_tryHeats_100 rfl (by decide) ?_
                  refine g_istore (pc1 := 103) (lv' := [(0, .ref 391), (1, .ref Ld1), (2, .int p2), (3, .int 1), (4, .int x2725), (5, .int 0)]) d_PotSearch_tryHeats_101 rfl (by decide) [1, 2, 3, 4, 5, 0] rfl ?_
                  have LP2729 : ∀ (f2726 : Nat) (v2730 : Int32) (M2731 : gM) (L2732 : gL), Kp S1 M L M2731 L2732 → ¬ v2730 < 0 → (x2725.toInt - v2730.toInt).toNat < f2726 → Wp l y_PotSearch_tryHeats (0, 0, 447) 447 0 0 103 [(0, .ref 391), (1, .ref Ld1), (2, .int p2), (3, .int 1), (4, .int x2725), (5, .int v2730)] [] M2731 L2732 (rf ld) Q := by
                    intro f2726
                    induction f2726 with
                    | zero => intro v2730 M2731 L2732 _ _ hm2728; exact absurd hm2728 (Nat.not_lt_zero _)
                    | succ f2726 ih2727 =>
                      intro v2730 M2731 L2732 k2733 n2734 hm2728
                      refine g_iload (pc1 := 105) d_PotSearch_tryHeats_103 rfl 5 rfl ?_
                      refine g_iload (pc1 := 107) d_PotSearch_tryHeats_105 rfl 4 rfl ?_
                      refine g_icmp_ge (pc1 := 110) (tgt := 166) d_PotSearch_tryHeats_107 (by decide) rfl (fun h2735 => ?_) (fun h2735 => ?_)
                      · refine g_return rfl d_PotSearch_tryHeats_166 rfl ?_
                        exact hQ _ _ k2733
                      · refine g_aload_n (pc1 := 111) d_PotSearch_tryHeats_110 rfl 0 rfl ?_
                        refine g_aload_n (pc1 := 112) d_PotSearch_tryHeats_111 rfl 1 rfl ?_
                        refine g_iload (pc1 := 114) d_PotSearch_tryHeats_112 rfl 5 rfl ?_
                        refine g_iload_n (pc1 := 115) d_PotSearch_tryHeats_114 rfl 2 rfl ?_
                        refine g_callV0 (pc1 := 118) (As := [.ref Ld1, .int v2730, .int p2]) (rest := []) d_PotSearch_tryHeats_115 rfl mo_PotSearch_106 mi_PotSearch_isEnough mv_PotSearch_isEnough rfl sh_391 (by decide) (by decide) rfl rfl (Nat.le_of_ble_eq_true rfl) ?_
                        refine t1_PotSearch_isEnough hld Ld1 hLd1 _ _ (fun r2736 M2737 L2738 hr2736 k2739 => ?_)
                        refine g_if_eq (pc1 := 121) (tgt := 160) d_PotSearch_tryHeats_118 (by decide) rfl (fun h2740 => ?_) (fun h2740 => ?_)
                        · obtain ⟨x2741, ex2741⟩ : ∃ y : Int32, y = v2730 + 1 := ⟨_, rfl⟩
                          refine g_iinc (pc1 := 163) (v := x2741) (lv' := [(0, .ref 391), (1, .ref Ld1), (2, .int p2), (3, .int 1), (4, .int x2725), (5, .int x2741)]) d_PotSearch_tryHeats_160 rfl 5 rfl (by rw [ex2741]; rfl) (by decide) [1, 2, 3, 4, 5, 0] rfl ?_
                          refine g_goto (tgt := 103) d_PotSearch_tryHeats_163 (by decide) ?_
                          exact ih2727 x2741 M2737 L2738 (Kp.trans k2733 (Kp.mono k2739 S0_S1)) (nn_up (y := x2725) h2735 ex2741 n2734) (md_up h2735 ex2741 hm2728)
                        · refine g_aload_n (pc1 := 122) d_PotSearch_tryHeats_121 rfl 0 rfl ?_
                          refine g_iconst (pc1 := 123) (v := 1) d_PotSearch_tryHeats_122 rfl (by decide) ?_
                          refine g_putz (pc1 := 126) d_PotSearch_tryHeats_123 rfl fo_PotSearch_28 po_10_9_1 rfl sh_391 (by decide) ?_
                          refine Wp.topM (fun M2742 eM2742 => ?_)
                          refine g_aload_n (pc1 := 127) d_PotSearch_tryHeats_126 rfl 0 rfl ?_
                          refine g_aload_n (pc1 := 128) d_PotSearch_tryHeats_127 rfl 0 rfl ?_
                          refine g_geti (pc1 := 131) d_PotSearch_tryHeats_128 rfl ⟨_, fo_PotSearch_89⟩ sh_391 (by decide) ?_
                          refine g_puti (pc1 := 134) d_PotSearch_tryHeats_131 rfl fo_PotSearch_97 (po_10_6 _) sh_391 (by decide) ?_
                          refine Wp.topM (fun M2743 eM2743 => ?_)
                          refine g_aload_n (pc1 := 135) d_PotSearch_tryHeats_134 rfl 0 rfl ?_
                          refine g_aload_n (pc1 := 136) d_PotSearch_tryHeats_135 rfl 0 rfl ?_
                          refine g_geti (pc1 := 139) d_PotSearch_tryHeats_136 rfl ⟨_, fo_PotSearch_56⟩ sh_391 (by decide) ?_
                          refine g_puti (pc1 := 142) d_PotSearch_tryHeats_139 rfl fo_PotSearch_100 (po_10_7 _) sh_391 (by decide) ?_
                          refine Wp.topM (fun M2744 eM2744 => ?_)
                          refine g_aload_n (pc1 := 143) d_PotSearch_tryHeats_142 rfl 0 rfl ?_
                          refine g_iload (pc1 := 145) d_PotSearch_tryHeats_143 rfl 5 rfl ?_
                          refine g_puti (pc1 := 148) d_PotSearch_tryHeats_145 rfl fo_PotSearch_103 (po_10_8 _) sh_391 (by decide) ?_
                          refine Wp.topM (fun M2745 eM2745 => ?_)
                          refine g_aload_n (pc1 := 149) d_PotSearch_tryHeats_148 rfl 0 rfl ?_
                          refine g_getr (pc1 := 152) d_PotSearch_tryHeats_149 rfl ⟨_, fo_PotSearch_15⟩ sh_391 (by decide) (rf_391_1 ld) ?_
                          refine g_aload_n (pc1 := 153) d_PotSearch_tryHeats_152 rfl 0 rfl ?_
                          refine g_getr (pc1 := 156) d_PotSearch_tryHeats_153 rfl ⟨_, fo_PotSearch_21⟩ sh_391 (by decide) (rf_391_5 ld) ?_
                          refine g_callS0 (pc1 := 159) (As := [.ref 393, .ref 395]) (rest := []) d_PotSearch_tryHeats_156 rfl mo_PotSearch_110 ms_Main_copyRow (by decide) rfl rfl (Nat.le_of_ble_eq_true rfl) ?_
                          refine t1_Main_copyRow hld 393 sh_393 (by decide) (by decide) 395 sh_395 (by decide) (by decide) (fun  M2746 L2747 k2748 => ?_)
                          refine g_return rfl d_PotSearch_tryHeats_159 rfl ?_
                          exact hQ _ _ (Kp.trans (Kp.wM (Kp.wM (Kp.wM (Kp.wM (Kp.trans k2733 (Kp.mono k2739 S0_S1)) rfl eM2742) rfl eM2743) rfl eM2744) rfl eM2745) (Kp.mono k2748 (one_S rfl)))
                  exact LP2729 _ 0 M L Kp.rf (by decide) (Nat.lt_succ_self _)
        · refine g_return rfl d_PotSearch_tryHeats_40 rfl ?_
          exact hQ _ _ Kp.rf
set_option maxHeartbeats 4000000 in
set_option maxRecDepth 20000 in
theorem t1_Reader_takeDeed {l : Launch} {ld : Nat} (hld : isLa ld) {M : gM} {L : gL} {Q : Option Value → gM → gL → gR → Prop} (Ld1 : Nat) (hLd1 : isLa Ld1) (hQ : ∀ (M' : gM) (L' : gL), Kp S2 M L M' L' → Q none M' L' (rf ld)) : Tm l y_Reader_takeDeed (0, 0, 447) 447 [.ref 3, .ref Ld1] M L (rf ld) Q := by
  refine Tm.of (by decide) (Nat.le_of_ble_eq_true rfl) ?_
  show Wp l y_Reader_takeDeed (0, 0, 447) 447 0 0 0 [(0, .ref 3), (1, .ref Ld1)] [] M L (rf ld) Q
  refine g_aload_n (pc1 := 1) d_Reader_takeDeed_0 rfl 1 rfl ?_
  refine g_geti (pc1 := 4) d_Reader_takeDeed_1 rfl ⟨_, fo_Reader_171⟩ (shLa_0 hLd1) (ltLa_0 hLd1) ?_
  refine Wp.topi (fun x2749 ex2749 => ?_)
  refine g_istore_n (pc1 := 5) (lv' := [(0, .ref 3), (1, .ref Ld1), (2, .int x2749)]) d_Reader_takeDeed_4 rfl rfl (by decide) [1, 2, 0] rfl ?_
  refine g_iload_n (pc1 := 6) d_Reader_takeDeed_5 rfl 2 rfl ?_
  refine g_bipush (pc1 := 8) (v := 6) d_Reader_takeDeed_6 rfl (by decide) ?_
  refine g_icmp_lt (pc1 := 11) (tgt := 17) d_Reader_takeDeed_8 (by decide) rfl (fun h2750 => ?_) (fun h2750 => ?_)
  · refine g_aload_n (pc1 := 18) d_Reader_takeDeed_17 rfl 0 rfl ?_
    refine g_callV0 (pc1 := 21) (As := []) (rest := []) d_Reader_takeDeed_18 rfl mo_Reader_108 mi_Reader_take mv_Reader_take rfl sh_3 (by decide) (by decide) rfl rfl (Nat.le_of_ble_eq_true rfl) ?_
    refine t1_Reader_take hld  (fun  M2751 L2752 k2753 => ?_)
    refine g_aload_n (pc1 := 22) d_Reader_takeDeed_21 rfl 0 rfl ?_
    refine g_iconst (pc1 := 23) (v := (-1)) d_Reader_takeDeed_22 rfl (by decide) ?_
    refine g_callV0 (pc1 := 26) (As := [.int (-1)]) (rest := []) d_Reader_takeDeed_23 rfl mo_Reader_128 mi_Reader_takeNewName mv_Reader_takeNewName rfl sh_3 (by decide) (by decide) rfl rfl (Nat.le_of_ble_eq_true rfl) ?_
    refine t1_Reader_takeNewName hld _ (fun  M2754 L2755 k2756 => ?_)
    refine g_aload_n (pc1 := 27) d_Reader_takeDeed_26 rfl 1 rfl ?_
    refine g_getr (pc1 := 30) d_Reader_takeDeed_27 rfl ⟨_, fo_Reader_174⟩ (shLa_0 hLd1) (ltLa_0 hLd1) (rfLa_11 ld hLd1) ?_
    refine g_iload_n (pc1 := 31) d_Reader_takeDeed_30 rfl 2 rfl ?_
    refine g_aload_n (pc1 := 32) d_Reader_takeDeed_31 rfl 0 rfl ?_
    refine g_iconst (pc1 := 33) (v := 2) d_Reader_takeDeed_32 rfl (by decide) ?_
    refine g_callV0 (pc1 := 36) (As := [.int 2]) (rest := [.int x2749, .ref (Ld1 + 7)]) d_Reader_takeDeed_33 rfl mo_Reader_134 mi_Reader_takeInt mv_Reader_takeInt rfl sh_3 (by decide) (by decide) rfl rfl (Nat.le_of_ble_eq_true rfl) ?_
    refine t1_Reader_takeInt hld _ (fun r2757 M2758 L2759 k2760 => ?_)
    refine g_callS0 (pc1 := 39) (As := [.ref (Ld1 + 7), .int x2749, .int r2757]) (rest := []) d_Reader_takeDeed_36 rfl mo_Reader_138 ms_Main_put (by decide) rfl rfl (Nat.le_of_ble_eq_true rfl) ?_
    refine t1_Main_put hld (Ld1 + 7) (shLa_7 hLd1) (ltLa_7 hLd1) (by decide) _ _ (fun  M2761 L2762 k2763 => ?_)
    refine g_aload_n (pc1 := 40) d_Reader_takeDeed_39 rfl 1 rfl ?_
    refine g_getr (pc1 := 43) d_Reader_takeDeed_40 rfl ⟨_, fo_Reader_177⟩ (shLa_0 hLd1) (ltLa_0 hLd1) (rfLa_12 ld hLd1) ?_
    refine g_iload_n (pc1 := 44) d_Reader_takeDeed_43 rfl 2 rfl ?_
    refine g_aload_n (pc1 := 45) d_Reader_takeDeed_44 rfl 0 rfl ?_
    refine g_bipush (pc1 := 47) (v := 99) d_Reader_takeDeed_45 rfl (by decide) ?_
    refine g_callV0 (pc1 := 50) (As := [.int 99]) (rest := [.int x2749, .ref (Ld1 + 8)]) d_Reader_takeDeed_47 rfl mo_Reader_134 mi_Reader_takeInt mv_Reader_takeInt rfl sh_3 (by decide) (by decide) rfl rfl (Nat.le_of_ble_eq_true rfl) ?_
    refine t1_Reader_takeInt hld _ (fun r2764 M2765 L2766 k2767 => ?_)
    refine g_callS0 (pc1 := 53) (As := [.ref (Ld1 + 8), .int x2749, .int r2764]) (rest := []) d_Reader_takeDeed_50 rfl mo_Reader_138 ms_Main_put (by decide) rfl rfl (Nat.le_of_ble_eq_true rfl) ?_
    refine t1_Main_put hld (Ld1 + 8) (shLa_8 hLd1) (ltLa_8 hLd1) (by decide) _ _ (fun  M2768 L2769 k2770 => ?_)
    refine g_aload_n (pc1 := 54) d_Reader_takeDeed_53 rfl 0 rfl ?_
    refine g_bipush (pc1 := 56) (v := 59) d_Reader_takeDeed_54 rfl (by decide) ?_
    refine g_callV0 (pc1 := 59) (As := [.int 59]) (rest := []) d_Reader_takeDeed_56 rfl mo_Reader_118 mi_Reader_need mv_Reader_need rfl sh_3 (by decide) (by decide) rfl rfl (Nat.le_of_ble_eq_true rfl) ?_
    refine t1_Reader_need hld _ (fun  M2771 L2772 k2773 => ?_)
    refine g_aload_n (pc1 := 60) d_Reader_takeDeed_59 rfl 1 rfl ?_
    refine g_iload_n (pc1 := 61) d_Reader_takeDeed_60 rfl 2 rfl ?_
    refine g_iconst (pc1 := 62) (v := 1) d_Reader_takeDeed_61 rfl (by decide) ?_
    refine g_iadd (pc1 := 63) d_Reader_takeDeed_62 rfl ?_
    refine g_puti (pc1 := 66) d_Reader_takeDeed_63 rfl fo_Reader_171 (po_4_3 _) (shLa_0 hLd1) (ltLa_0 hLd1) ?_
    refine Wp.topM (fun M2774 eM2774 => ?_)
    refine g_return rfl d_Reader_takeDeed_66 rfl ?_
    exact hQ _ _ (Kp.wM (Kp.trans (Kp.trans (Kp.trans (Kp.trans (Kp.trans (Kp.trans (Kp.trans Kp.rf k2753) k2756) k2760) (Kp.mono k2763 (one_S (S2_La_7 hLd1)))) k2767) (Kp.mono k2770 (one_S (S2_La_8 hLd1)))) k2773) (S2_La_0 hLd1) eM2774)
  · refine g_aload_n (pc1 := 12) d_Reader_takeDeed_11 rfl 0 rfl ?_
    refine g_iconst (pc1 := 13) (v := 2) d_Reader_takeDeed_12 rfl (by decide) ?_
    refine g_callV0 (pc1 := 16) (As := [.int 2]) (rest := []) d_Reader_takeDeed_13 rfl mo_Reader_95 mi_Reader_stop mv_Reader_stop rfl sh_3 (by decide) (by decide) rfl rfl (Nat.le_of_ble_eq_true rfl) ?_
    refine t1_Reader_stop hld _ (fun  M2775 L2776 k2777 => ?_)
    refine g_return rfl d_Reader_takeDeed_16 rfl ?_
    exact hQ _ _ (Kp.trans Kp.rf k2777)
set_option maxHeartbeats 4000000 in
set_option maxRecDepth 20000 in
theorem t1_Reader_takeDish {l : Launch} {ld : Nat} (hld : isLa ld) {M : gM} {L : gL} {Q : Option Value → gM → gL → gR → Prop} (Ld1 : Nat) (hLd1 : isLa Ld1) (hQ : ∀ (M' : gM) (L' : gL), Kp S2 M L M' L' → Q none M' L' (rf ld)) : Tm l y_Reader_takeDish (0, 0, 447) 447 [.ref 3, .ref Ld1] M L (rf ld) Q := by
  refine Tm.of (by decide) (Nat.le_of_ble_eq_true rfl) ?_
  show Wp l y_Reader_takeDish (0, 0, 447) 447 0 0 0 [(0, .ref 3), (1, .ref Ld1)] [] M L (rf ld) Q
  refine g_aload_n (pc1 := 1) d_Reader_takeDish_0 rfl 1 rfl ?_
  refine g_geti (pc1 := 4) d_Reader_takeDish_1 rfl ⟨_, fo_Reader_148⟩ (shLa_0 hLd1) (ltLa_0 hLd1) ?_
  refine Wp.topi (fun x2778 ex2778 => ?_)
  refine g_istore_n (pc1 := 5) (lv' := [(0, .ref 3), (1, .ref Ld1), (2, .int x2778)]) d_Reader_takeDish_4 rfl rfl (by decide) [1, 2, 0] rfl ?_
  refine g_iload_n (pc1 := 6) d_Reader_takeDish_5 rfl 2 rfl ?_
  refine g_iconst (pc1 := 7) (v := 5) d_Reader_takeDish_6 rfl (by decide) ?_
  refine g_icmp_lt (pc1 := 10) (tgt := 16) d_Reader_takeDish_7 (by decide) rfl (fun h2779 => ?_) (fun h2779 => ?_)
  · refine g_aload_n (pc1 := 17) d_Reader_takeDish_16 rfl 0 rfl ?_
    refine g_callV0 (pc1 := 20) (As := []) (rest := []) d_Reader_takeDish_17 rfl mo_Reader_108 mi_Reader_take mv_Reader_take rfl sh_3 (by decide) (by decide) rfl rfl (Nat.le_of_ble_eq_true rfl) ?_
    refine t1_Reader_take hld  (fun  M2780 L2781 k2782 => ?_)
    refine g_aload_n (pc1 := 21) d_Reader_takeDish_20 rfl 0 rfl ?_
    refine g_iconst (pc1 := 22) (v := (-1)) d_Reader_takeDish_21 rfl (by decide) ?_
    refine g_callV0 (pc1 := 25) (As := [.int (-1)]) (rest := []) d_Reader_takeDish_22 rfl mo_Reader_128 mi_Reader_takeNewName mv_Reader_takeNewName rfl sh_3 (by decide) (by decide) rfl rfl (Nat.le_of_ble_eq_true rfl) ?_
    refine t1_Reader_takeNewName hld _ (fun  M2783 L2784 k2785 => ?_)
    refine g_aload_n (pc1 := 26) d_Reader_takeDish_25 rfl 1 rfl ?_
    refine g_getr (pc1 := 29) d_Reader_takeDish_26 rfl ⟨_, fo_Reader_151⟩ (shLa_0 hLd1) (ltLa_0 hLd1) (rfLa_8 ld hLd1) ?_
    refine g_iload_n (pc1 := 30) d_Reader_takeDish_29 rfl 2 rfl ?_
    refine g_aload_n (pc1 := 31) d_Reader_takeDish_30 rfl 0 rfl ?_
    refine g_bipush (pc1 := 33) (v := 9) d_Reader_takeDish_31 rfl (by decide) ?_
    refine g_callV0 (pc1 := 36) (As := [.int 9]) (rest := [.int x2778, .ref (Ld1 + 4)]) d_Reader_takeDish_33 rfl mo_Reader_134 mi_Reader_takeInt mv_Reader_takeInt rfl sh_3 (by decide) (by decide) rfl rfl (Nat.le_of_ble_eq_true rfl) ?_
    refine t1_Reader_takeInt hld _ (fun r2786 M2787 L2788 k2789 => ?_)
    refine g_callS0 (pc1 := 39) (As := [.ref (Ld1 + 4), .int x2778, .int r2786]) (rest := []) d_Reader_takeDish_36 rfl mo_Reader_138 ms_Main_put (by decide) rfl rfl (Nat.le_of_ble_eq_true rfl) ?_
    refine t1_Main_put hld (Ld1 + 4) (shLa_4 hLd1) (ltLa_4 hLd1) (by decide) _ _ (fun  M2790 L2791 k2792 => ?_)
    refine g_aload_n (pc1 := 40) d_Reader_takeDish_39 rfl 0 rfl ?_
    refine g_aload_n (pc1 := 41) d_Reader_takeDish_40 rfl 1 rfl ?_
    refine g_iload_n (pc1 := 42) d_Reader_takeDish_41 rfl 2 rfl ?_
    refine g_callV0 (pc1 := 45) (As := [.ref Ld1, .int x2778]) (rest := []) d_Reader_takeDish_42 rfl mo_Reader_154 mi_Reader_takeIngredient mv_Reader_takeIngredient rfl sh_3 (by decide) (by decide) rfl rfl (Nat.le_of_ble_eq_true rfl) ?_
    refine t1_Reader_takeIngredient hld Ld1 hLd1 _ (fun  M2793 L2794 k2795 => ?_)
    refine g_iconst (pc1 := 46) (v := 1) d_Reader_takeDish_45 rfl (by decide) ?_
    refine g_istore_n (pc1 := 47) (lv' := [(0, .ref 3), (1, .ref Ld1), (2, .int x2778), (3, .int 1)]) d_Reader_takeDish_46 rfl rfl (by decide) [1, 2, 3, 0] rfl ?_
    have LP2799 : ∀ (f2796 : Nat) (v2800 : Int32) (M2801 : gM) (L2802 : gL), Kp S2 M L M2801 L2802 → ¬ v2800 < 0 → ((6 : Int32).toInt + 1 - v2800.toInt).toNat < f2796 → Wp l y_Reader_takeDish (0, 0, 447) 447 0 0 47 [(0, .ref 3), (1, .ref Ld1), (2, .int x2778), (3, .int v2800)] [] M2801 L2802 (rf ld) Q := by
      intro f2796
      induction f2796 with
      | zero => intro v2800 M2801 L2802 _ _ hm2798; exact absurd hm2798 (Nat.not_lt_zero _)
      | succ f2796 ih2797 =>
        intro v2800 M2801 L2802 k2803 n2804 hm2798
        refine g_iload_n (pc1 := 48) d_Reader_takeDish_47 rfl 3 rfl ?_
        refine g_bipush (pc1 := 50) (v := 6) d_Reader_takeDish_48 rfl (by decide) ?_
        refine g_icmp_gt (pc1 := 53) (tgt := 94) d_Reader_takeDish_50 (by decide) rfl (fun h2805 => ?_) (fun h2805 => ?_)
        · refine g_aload_n (pc1 := 95) d_Reader_takeDish_94 rfl 0 rfl ?_
          refine g_bipush (pc1 := 97) (v := 59) d_Reader_takeDish_95 rfl (by decide) ?_
          refine g_callV0 (pc1 := 100) (As := [.int 59]) (rest := []) d_Reader_takeDish_97 rfl mo_Reader_118 mi_Reader_need mv_Reader_need rfl sh_3 (by decide) (by decide) rfl rfl (Nat.le_of_ble_eq_true rfl) ?_
          refine t1_Reader_need hld _ (fun  M2806 L2807 k2808 => ?_)
          refine g_aload_n (pc1 := 101) d_Reader_takeDish_100 rfl 1 rfl ?_
          refine g_iload_n (pc1 := 102) d_Reader_takeDish_101 rfl 2 rfl ?_
          refine g_iconst (pc1 := 103) (v := 1) d_Reader_takeDish_102 rfl (by decide) ?_
          refine g_iadd (pc1 := 104) d_Reader_takeDish_103 rfl ?_
          refine g_puti (pc1 := 107) d_Reader_takeDish_104 rfl fo_Reader_148 (po_4_1 _) (shLa_0 hLd1) (ltLa_0 hLd1) ?_
          refine Wp.topM (fun M2809 eM2809 => ?_)
          refine g_return rfl d_Reader_takeDish_107 rfl ?_
          exact hQ _ _ (Kp.wM (Kp.trans k2803 k2808) (S2_La_0 hLd1) eM2809)
        · refine g_aload_n (pc1 := 54) d_Reader_takeDish_53 rfl 0 rfl ?_
          refine g_geti (pc1 := 57) d_Reader_takeDish_54 rfl ⟨_, fo_Reader_42⟩ sh_3 (by decide) ?_
          refine g_if_ne (pc1 := 60) (tgt := 94) d_Reader_takeDish_57 (by decide) rfl (fun h2810 => ?_) (fun h2810 => ?_)
          · refine g_aload_n (pc1 := 95) d_Reader_takeDish_94 rfl 0 rfl ?_
            refine g_bipush (pc1 := 97) (v := 59) d_Reader_takeDish_95 rfl (by decide) ?_
            refine g_callV0 (pc1 := 100) (As := [.int 59]) (rest := []) d_Reader_takeDish_97 rfl mo_Reader_118 mi_Reader_need mv_Reader_need rfl sh_3 (by decide) (by decide) rfl rfl (Nat.le_of_ble_eq_true rfl) ?_
            refine t1_Reader_need hld _ (fun  M2811 L2812 k2813 => ?_)
            refine g_aload_n (pc1 := 101) d_Reader_takeDish_100 rfl 1 rfl ?_
            refine g_iload_n (pc1 := 102) d_Reader_takeDish_101 rfl 2 rfl ?_
            refine g_iconst (pc1 := 103) (v := 1) d_Reader_takeDish_102 rfl (by decide) ?_
            refine g_iadd (pc1 := 104) d_Reader_takeDish_103 rfl ?_
            refine g_puti (pc1 := 107) d_Reader_takeDish_104 rfl fo_Reader_148 (po_4_1 _) (shLa_0 hLd1) (ltLa_0 hLd1) ?_
            refine Wp.topM (fun M2814 eM2814 => ?_)
            refine g_return rfl d_Reader_takeDish_107 rfl ?_
            exact hQ _ _ (Kp.wM (Kp.trans k2803 k2813) (S2_La_0 hLd1) eM2814)
          · refine g_aload_n (pc1 := 61) d_Reader_takeDish_60 rfl 0 rfl ?_
            refine g_iconst (pc1 := 62) (v := 2) d_Reader_takeDish_61 rfl (by decide) ?_
            refine g_callV0 (pc1 := 65) (As := [.int 2]) (rest := []) d_Reader_takeDish_62 rfl mo_Reader_51 mi_Reader_is mv_Reader_is rfl sh_3 (by decide) (by decide) rfl rfl (Nat.le_of_ble_eq_true rfl) ?_
            refine t1_Reader_is hld _ (fun r2815 hr2815 => ?_)
            refine g_if_eq (pc1 := 68) (tgt := 94) d_Reader_takeDish_65 (by decide) rfl (fun h2816 => ?_) (fun h2816 => ?_)
            · refine g_aload_n (pc1 := 95) d_Reader_takeDish_94 rfl 0 rfl ?_
              refine g_bipush (pc1 := 97) (v := 59) d_Reader_takeDish_95 rfl (by decide) ?_
              refine g_callV0 (pc1 := 100) (As := [.int 59]) (rest := []) d_Reader_takeDish_97 rfl mo_Reader_118 mi_Reader_need mv_Reader_need rfl sh_3 (by decide) (by decide) rfl rfl (Nat.le_of_ble_eq_true rfl) ?_
              refine t1_Reader_need hld _ (fun  M2817 L2818 k2819 => ?_)
              refine g_aload_n (pc1 := 101) d_Reader_takeDish_100 rfl 1 rfl ?_
              refine g_iload_n (pc1 := 102) d_Reader_takeDish_101 rfl 2 rfl ?_
              refine g_iconst (pc1 := 103) (v := 1) d_Reader_takeDish_102 rfl (by decide) ?_
              refine g_iadd (pc1 := 104) d_Reader_takeDish_103 rfl ?_
              refine g_puti (pc1 := 107) d_Reader_takeDish_104 rfl fo_Reader_148 (po_4_1 _) (shLa_0 hLd1) (ltLa_0 hLd1) ?_
              refine Wp.topM (fun M2820 eM2820 => ?_)
              refine g_return rfl d_Reader_takeDish_107 rfl ?_
              exact hQ _ _ (Kp.wM (Kp.trans k2803 k2819) (S2_La_0 hLd1) eM2820)
            · refine g_iload_n (pc1 := 69) d_Reader_takeDish_68 rfl 3 rfl ?_
              refine g_bipush (pc1 := 71) (v := 6) d_Reader_takeDish_69 rfl (by decide) ?_
              refine g_icmp_ne (pc1 := 74) (tgt := 82) d_Reader_takeDish_71 (by decide) rfl (fun h2821 => ?_) (fun h2821 => ?_)
              · refine g_aload_n (pc1 := 83) d_Reader_takeDish_82 rfl 0 rfl ?_
                refine g_aload_n (pc1 := 84) d_Reader_takeDish_83 rfl 1 rfl ?_
                refine g_iload_n (pc1 := 85) d_Reader_takeDish_84 rfl 2 rfl ?_
                refine g_callV0 (pc1 := 88) (As := [.ref Ld1, .int x2778]) (rest := []) d_Reader_takeDish_85 rfl mo_Reader_154 mi_Reader_takeIngredient mv_Reader_takeIngredient rfl sh_3 (by decide) (by decide) rfl rfl (Nat.le_of_ble_eq_true rfl) ?_
                refine t1_Reader_takeIngredient hld Ld1 hLd1 _ (fun  M2822 L2823 k2824 => ?_)
                obtain ⟨x2825, ex2825⟩ : ∃ y : Int32, y = v2800 + 1 := ⟨_, rfl⟩
                refine g_iinc (pc1 := 91) (v := x2825) (lv' := [(0, .ref 3), (1, .ref Ld1), (2, .int x2778), (3, .int x2825)]) d_Reader_takeDish_88 rfl 3 rfl (by rw [ex2825]; rfl) (by decide) [1, 2, 3, 0] rfl ?_
                refine g_goto (tgt := 47) d_Reader_takeDish_91 (by decide) ?_
                exact ih2797 x2825 M2822 L2823 (Kp.trans k2803 k2824) (nn_upe (y := (6 : Int32)) h2805 (by decide) ex2825 n2804) (md_upe h2805 (by decide) ex2825 hm2798)
              · refine g_aload_n (pc1 := 75) d_Reader_takeDish_74 rfl 0 rfl ?_
                refine g_iconst (pc1 := 76) (v := 2) d_Reader_takeDish_75 rfl (by decide) ?_
                refine g_callV0 (pc1 := 79) (As := [.int 2]) (rest := []) d_Reader_takeDish_76 rfl mo_Reader_95 mi_Reader_stop mv_Reader_stop rfl sh_3 (by decide) (by decide) rfl rfl (Nat.le_of_ble_eq_true rfl) ?_
                refine t1_Reader_stop hld _ (fun  M2826 L2827 k2828 => ?_)
                refine g_goto (tgt := 88) d_Reader_takeDish_79 (by decide) ?_
                obtain ⟨x2829, ex2829⟩ : ∃ y : Int32, y = v2800 + 1 := ⟨_, rfl⟩
                refine g_iinc (pc1 := 91) (v := x2829) (lv' := [(0, .ref 3), (1, .ref Ld1), (2, .int x2778), (3, .int x2829)]) d_Reader_takeDish_88 rfl 3 rfl (by rw [ex2829]; rfl) (by decide) [1, 2, 3, 0] rfl ?_
                refine g_goto (tgt := 47) d_Reader_takeDish_91 (by decide) ?_
                exact ih2797 x2829 M2826 L2827 (Kp.trans k2803 k2828) (nn_upe (y := (6 : Int32)) h2805 (by decide) ex2829 n2804) (md_upe h2805 (by decide) ex2829 hm2798)
    exact LP2799 _ 1 M2793 L2794 (Kp.trans (Kp.trans (Kp.trans (Kp.trans (Kp.trans Kp.rf k2782) k2785) k2789) (Kp.mono k2792 (one_S (S2_La_4 hLd1)))) k2795) (by decide) (Nat.lt_succ_self _)
  · refine g_aload_n (pc1 := 11) d_Reader_takeDish_10 rfl 0 rfl ?_
    refine g_iconst (pc1 := 12) (v := 2) d_Reader_takeDish_11 rfl (by decide) ?_
    refine g_callV0 (pc1 := 15) (As := [.int 2]) (rest := []) d_Reader_takeDish_12 rfl mo_Reader_95 mi_Reader_stop mv_Reader_stop rfl sh_3 (by decide) (by decide) rfl rfl (Nat.le_of_ble_eq_true rfl) ?_
    refine t1_Reader_stop hld _ (fun  M2830 L2831 k2832 => ?_)
    refine g_return rfl d_Reader_takeDish_15 rfl ?_
    exact hQ _ _ (Kp.trans Kp.rf k2832)
set_option maxHeartbeats 4000000 in
set_option maxRecDepth 20000 in
theorem t1_Reader_takeFood {l : Launch} {ld : Nat} (hld : isLa ld) {M : gM} {L : gL} {Q : Option Value → gM → gL → gR → Prop} (Ld1 : Nat) (hLd1 : isLa Ld1) (hQ : ∀ (M' : gM) (L' : gL), Kp S2 M L M' L' → Q none M' L' (rf ld)) : Tm l y_Reader_takeFood (0, 0, 447) 447 [.ref 3, .ref Ld1] M L (rf ld) Q := by
  refine Tm.of (by decide) (Nat.le_of_ble_eq_true rfl) ?_
  show Wp l y_Reader_takeFood (0, 0, 447) 447 0 0 0 [(0, .ref 3), (1, .ref Ld1)] [] M L (rf ld) Q
  refine g_aload_n (pc1 := 1) d_Reader_takeFood_0 rfl 1 rfl ?_
  refine g_geti (pc1 := 4) d_Reader_takeFood_1 rfl ⟨_, fo_Reader_125⟩ (shLa_0 hLd1) (ltLa_0 hLd1) ?_
  refine Wp.topi (fun x2833 ex2833 => ?_)
  refine g_istore_n (pc1 := 5) (lv' := [(0, .ref 3), (1, .ref Ld1), (2, .int x2833)]) d_Reader_takeFood_4 rfl rfl (by decide) [1, 2, 0] rfl ?_
  refine g_iload_n (pc1 := 6) d_Reader_takeFood_5 rfl 2 rfl ?_
  refine g_bipush (pc1 := 8) (v := 6) d_Reader_takeFood_6 rfl (by decide) ?_
  refine g_icmp_lt (pc1 := 11) (tgt := 17) d_Reader_takeFood_8 (by decide) rfl (fun h2834 => ?_) (fun h2834 => ?_)
  · refine g_aload_n (pc1 := 18) d_Reader_takeFood_17 rfl 0 rfl ?_
    refine g_callV0 (pc1 := 21) (As := []) (rest := []) d_Reader_takeFood_18 rfl mo_Reader_108 mi_Reader_take mv_Reader_take rfl sh_3 (by decide) (by decide) rfl rfl (Nat.le_of_ble_eq_true rfl) ?_
    refine t1_Reader_take hld  (fun  M2835 L2836 k2837 => ?_)
    refine g_aload_n (pc1 := 22) d_Reader_takeFood_21 rfl 0 rfl ?_
    refine g_iload_n (pc1 := 23) d_Reader_takeFood_22 rfl 2 rfl ?_
    refine g_callV0 (pc1 := 26) (As := [.int x2833]) (rest := []) d_Reader_takeFood_23 rfl mo_Reader_128 mi_Reader_takeNewName mv_Reader_takeNewName rfl sh_3 (by decide) (by decide) rfl rfl (Nat.le_of_ble_eq_true rfl) ?_
    refine t1_Reader_takeNewName hld _ (fun  M2838 L2839 k2840 => ?_)
    refine g_aload_n (pc1 := 27) d_Reader_takeFood_26 rfl 1 rfl ?_
    refine g_getr (pc1 := 30) d_Reader_takeFood_27 rfl ⟨_, fo_Reader_131⟩ (shLa_0 hLd1) (ltLa_0 hLd1) (rfLa_5 ld hLd1) ?_
    refine g_iload_n (pc1 := 31) d_Reader_takeFood_30 rfl 2 rfl ?_
    refine g_aload_n (pc1 := 32) d_Reader_takeFood_31 rfl 0 rfl ?_
    refine g_bipush (pc1 := 34) (v := 99) d_Reader_takeFood_32 rfl (by decide) ?_
    refine g_callV0 (pc1 := 37) (As := [.int 99]) (rest := [.int x2833, .ref (Ld1 + 1)]) d_Reader_takeFood_34 rfl mo_Reader_134 mi_Reader_takeInt mv_Reader_takeInt rfl sh_3 (by decide) (by decide) rfl rfl (Nat.le_of_ble_eq_true rfl) ?_
    refine t1_Reader_takeInt hld _ (fun r2841 M2842 L2843 k2844 => ?_)
    refine g_callS0 (pc1 := 40) (As := [.ref (Ld1 + 1), .int x2833, .int r2841]) (rest := []) d_Reader_takeFood_37 rfl mo_Reader_138 ms_Main_put (by decide) rfl rfl (Nat.le_of_ble_eq_true rfl) ?_
    refine t1_Main_put hld (Ld1 + 1) (shLa_1 hLd1) (ltLa_1 hLd1) (by decide) _ _ (fun  M2845 L2846 k2847 => ?_)
    refine g_aload_n (pc1 := 41) d_Reader_takeFood_40 rfl 1 rfl ?_
    refine g_getr (pc1 := 44) d_Reader_takeFood_41 rfl ⟨_, fo_Reader_142⟩ (shLa_0 hLd1) (ltLa_0 hLd1) (rfLa_6 ld hLd1) ?_
    refine g_iload_n (pc1 := 45) d_Reader_takeFood_44 rfl 2 rfl ?_
    refine g_aload_n (pc1 := 46) d_Reader_takeFood_45 rfl 0 rfl ?_
    refine g_bipush (pc1 := 48) (v := 9) d_Reader_takeFood_46 rfl (by decide) ?_
    refine g_callV0 (pc1 := 51) (As := [.int 9]) (rest := [.int x2833, .ref (Ld1 + 2)]) d_Reader_takeFood_48 rfl mo_Reader_134 mi_Reader_takeInt mv_Reader_takeInt rfl sh_3 (by decide) (by decide) rfl rfl (Nat.le_of_ble_eq_true rfl) ?_
    refine t1_Reader_takeInt hld _ (fun r2848 M2849 L2850 k2851 => ?_)
    refine g_callS0 (pc1 := 54) (As := [.ref (Ld1 + 2), .int x2833, .int r2848]) (rest := []) d_Reader_takeFood_51 rfl mo_Reader_138 ms_Main_put (by decide) rfl rfl (Nat.le_of_ble_eq_true rfl) ?_
    refine t1_Main_put hld (Ld1 + 2) (shLa_2 hLd1) (ltLa_2 hLd1) (by decide) _ _ (fun  M2852 L2853 k2854 => ?_)
    refine g_iconst (pc1 := 55) (v := 0) d_Reader_takeFood_54 rfl (by decide) ?_
    refine g_istore_n (pc1 := 56) (lv' := [(0, .ref 3), (1, .ref Ld1), (2, .int x2833), (3, .int 0)]) d_Reader_takeFood_55 rfl rfl (by decide) [1, 2, 3, 0] rfl ?_
    have LP2858 : ∀ (f2855 : Nat) (v2859 : Int32) (M2860 : gM) (L2861 : gL), Kp S2 M L M2860 L2861 → ¬ v2859 < 0 → ((3 : Int32).toInt - v2859.toInt).toNat < f2855 → Wp l y_Reader_takeFood (0, 0, 447) 447 0 0 56 [(0, .ref 3), (1, .ref Ld1), (2, .int x2833), (3, .int v2859)] [] M2860 L2861 (rf ld) Q := by
      intro f2855
      induction f2855 with
      | zero => intro v2859 M2860 L2861 _ _ hm2857; exact absurd hm2857 (Nat.not_lt_zero _)
      | succ f2855 ih2856 =>
        intro v2859 M2860 L2861 k2862 n2863 hm2857
        refine g_iload_n (pc1 := 57) d_Reader_takeFood_56 rfl 3 rfl ?_
        refine g_iconst (pc1 := 58) (v := 3) d_Reader_takeFood_57 rfl (by decide) ?_
        refine g_icmp_ge (pc1 := 61) (tgt := 85) d_Reader_takeFood_58 (by decide) rfl (fun h2864 => ?_) (fun h2864 => ?_)
        · refine g_aload_n (pc1 := 86) d_Reader_takeFood_85 rfl 0 rfl ?_
          refine g_bipush (pc1 := 88) (v := 59) d_Reader_takeFood_86 rfl (by decide) ?_
          refine g_callV0 (pc1 := 91) (As := [.int 59]) (rest := []) d_Reader_takeFood_88 rfl mo_Reader_118 mi_Reader_need mv_Reader_need rfl sh_3 (by decide) (by decide) rfl rfl (Nat.le_of_ble_eq_true rfl) ?_
          refine t1_Reader_need hld _ (fun  M2865 L2866 k2867 => ?_)
          refine g_aload_n (pc1 := 92) d_Reader_takeFood_91 rfl 1 rfl ?_
          refine g_iload_n (pc1 := 93) d_Reader_takeFood_92 rfl 2 rfl ?_
          refine g_iconst (pc1 := 94) (v := 1) d_Reader_takeFood_93 rfl (by decide) ?_
          refine g_iadd (pc1 := 95) d_Reader_takeFood_94 rfl ?_
          refine g_puti (pc1 := 98) d_Reader_takeFood_95 rfl fo_Reader_125 (po_4_0 _) (shLa_0 hLd1) (ltLa_0 hLd1) ?_
          refine Wp.topM (fun M2868 eM2868 => ?_)
          refine g_return rfl d_Reader_takeFood_98 rfl ?_
          exact hQ _ _ (Kp.wM (Kp.trans k2862 k2867) (S2_La_0 hLd1) eM2868)
        · refine g_aload_n (pc1 := 62) d_Reader_takeFood_61 rfl 1 rfl ?_
          refine g_getr (pc1 := 65) d_Reader_takeFood_62 rfl ⟨_, fo_Reader_145⟩ (shLa_0 hLd1) (ltLa_0 hLd1) (rfLa_7 ld hLd1) ?_
          refine g_iload_n (pc1 := 66) d_Reader_takeFood_65 rfl 2 rfl ?_
          refine g_iconst (pc1 := 67) (v := 3) d_Reader_takeFood_66 rfl (by decide) ?_
          refine g_imul (pc1 := 68) d_Reader_takeFood_67 rfl ?_
          refine g_iload_n (pc1 := 69) d_Reader_takeFood_68 rfl 3 rfl ?_
          refine g_iadd (pc1 := 70) d_Reader_takeFood_69 rfl ?_
          refine g_aload_n (pc1 := 71) d_Reader_takeFood_70 rfl 0 rfl ?_
          refine g_bipush (pc1 := 73) (v := 9) d_Reader_takeFood_71 rfl (by decide) ?_
          refine g_callV0 (pc1 := 76) (As := [.int 9]) (rest := [.int ((x2833 * 3) + v2859), .ref (Ld1 + 3)]) d_Reader_takeFood_73 rfl mo_Reader_134 mi_Reader_takeInt mv_Reader_takeInt rfl sh_3 (by decide) (by decide) rfl rfl (Nat.le_of_ble_eq_true rfl) ?_
          refine t1_Reader_takeInt hld _ (fun r2869 M2870 L2871 k2872 => ?_)
          refine g_callS0 (pc1 := 79) (As := [.ref (Ld1 + 3), .int ((x2833 * 3) + v2859), .int r2869]) (rest := []) d_Reader_takeFood_76 rfl mo_Reader_138 ms_Main_put (by decide) rfl rfl (Nat.le_of_ble_eq_true rfl) ?_
          refine t1_Main_put hld (Ld1 + 3) (shLa_3 hLd1) (ltLa_3 hLd1) (by decide) _ _ (fun  M2873 L2874 k2875 => ?_)
          obtain ⟨x2876, ex2876⟩ : ∃ y : Int32, y = v2859 + 1 := ⟨_, rfl⟩
          refine g_iinc (pc1 := 82) (v := x2876) (lv' := [(0, .ref 3), (1, .ref Ld1), (2, .int x2833), (3, .int x2876)]) d_Reader_takeFood_79 rfl 3 rfl (by rw [ex2876]; rfl) (by decide) [1, 2, 3, 0] rfl ?_
          refine g_goto (tgt := 56) d_Reader_takeFood_82 (by decide) ?_
          exact ih2856 x2876 M2873 L2874 (Kp.trans (Kp.trans k2862 k2872) (Kp.mono k2875 (one_S (S2_La_3 hLd1)))) (nn_up (y := (3 : Int32)) h2864 ex2876 n2863) (md_up h2864 ex2876 hm2857)
    exact LP2858 _ 0 M2852 L2853 (Kp.trans (Kp.trans (Kp.trans (Kp.trans (Kp.trans (Kp.trans Kp.rf k2837) k2840) k2844) (Kp.mono k2847 (one_S (S2_La_1 hLd1)))) k2851) (Kp.mono k2854 (one_S (S2_La_2 hLd1)))) (by decide) (Nat.lt_succ_self _)
  · refine g_aload_n (pc1 := 12) d_Reader_takeFood_11 rfl 0 rfl ?_
    refine g_iconst (pc1 := 13) (v := 2) d_Reader_takeFood_12 rfl (by decide) ?_
    refine g_callV0 (pc1 := 16) (As := [.int 2]) (rest := []) d_Reader_takeFood_13 rfl mo_Reader_95 mi_Reader_stop mv_Reader_stop rfl sh_3 (by decide) (by decide) rfl rfl (Nat.le_of_ble_eq_true rfl) ?_
    refine t1_Reader_stop hld _ (fun  M2877 L2878 k2879 => ?_)
    refine g_return rfl d_Reader_takeFood_16 rfl ?_
    exact hQ _ _ (Kp.trans Kp.rf k2879)
set_option maxHeartbeats 4000000 in
set_option maxRecDepth 20000 in
theorem t1_Reader_takeGuest {l : Launch} {ld : Nat} (hld : isLa ld) {M : gM} {L : gL} {Q : Option Value → gM → gL → gR → Prop} (Ld1 : Nat) (hLd1 : isLa Ld1) (hQ : ∀ (M' : gM) (L' : gL), Kp S2 M L M' L' → Q none M' L' (rf ld)) : Tm l y_Reader_takeGuest (0, 0, 447) 447 [.ref 3, .ref Ld1] M L (rf ld) Q := by
  refine Tm.of (by decide) (Nat.le_of_ble_eq_true rfl) ?_
  show Wp l y_Reader_takeGuest (0, 0, 447) 447 0 0 0 [(0, .ref 3), (1, .ref Ld1)] [] M L (rf ld) Q
  refine g_aload_n (pc1 := 1) d_Reader_takeGuest_0 rfl 1 rfl ?_
  refine g_geti (pc1 := 4) d_Reader_takeGuest_1 rfl ⟨_, fo_Reader_165⟩ (shLa_0 hLd1) (ltLa_0 hLd1) ?_
  refine Wp.topi (fun x2880 ex2880 => ?_)
  refine g_istore_n (pc1 := 5) (lv' := [(0, .ref 3), (1, .ref Ld1), (2, .int x2880)]) d_Reader_takeGuest_4 rfl rfl (by decide) [1, 2, 0] rfl ?_
  refine g_iload_n (pc1 := 6) d_Reader_takeGuest_5 rfl 2 rfl ?_
  refine g_iconst (pc1 := 7) (v := 4) d_Reader_takeGuest_6 rfl (by decide) ?_
  refine g_icmp_lt (pc1 := 10) (tgt := 16) d_Reader_takeGuest_7 (by decide) rfl (fun h2881 => ?_) (fun h2881 => ?_)
  · refine g_aload_n (pc1 := 17) d_Reader_takeGuest_16 rfl 0 rfl ?_
    refine g_callV0 (pc1 := 20) (As := []) (rest := []) d_Reader_takeGuest_17 rfl mo_Reader_108 mi_Reader_take mv_Reader_take rfl sh_3 (by decide) (by decide) rfl rfl (Nat.le_of_ble_eq_true rfl) ?_
    refine t1_Reader_take hld  (fun  M2882 L2883 k2884 => ?_)
    refine g_aload_n (pc1 := 21) d_Reader_takeGuest_20 rfl 0 rfl ?_
    refine g_iconst (pc1 := 22) (v := (-1)) d_Reader_takeGuest_21 rfl (by decide) ?_
    refine g_callV0 (pc1 := 25) (As := [.int (-1)]) (rest := []) d_Reader_takeGuest_22 rfl mo_Reader_128 mi_Reader_takeNewName mv_Reader_takeNewName rfl sh_3 (by decide) (by decide) rfl rfl (Nat.le_of_ble_eq_true rfl) ?_
    refine t1_Reader_takeNewName hld _ (fun  M2885 L2886 k2887 => ?_)
    refine g_aload_n (pc1 := 26) d_Reader_takeGuest_25 rfl 1 rfl ?_
    refine g_getr (pc1 := 29) d_Reader_takeGuest_26 rfl ⟨_, fo_Reader_168⟩ (shLa_0 hLd1) (ltLa_0 hLd1) (rfLa_10 ld hLd1) ?_
    refine g_iload_n (pc1 := 30) d_Reader_takeGuest_29 rfl 2 rfl ?_
    refine g_aload_n (pc1 := 31) d_Reader_takeGuest_30 rfl 0 rfl ?_
    refine g_bipush (pc1 := 33) (v := 9) d_Reader_takeGuest_31 rfl (by decide) ?_
    refine g_callV0 (pc1 := 36) (As := [.int 9]) (rest := [.int x2880, .ref (Ld1 + 6)]) d_Reader_takeGuest_33 rfl mo_Reader_134 mi_Reader_takeInt mv_Reader_takeInt rfl sh_3 (by decide) (by decide) rfl rfl (Nat.le_of_ble_eq_true rfl) ?_
    refine t1_Reader_takeInt hld _ (fun r2888 M2889 L2890 k2891 => ?_)
    refine g_callS0 (pc1 := 39) (As := [.ref (Ld1 + 6), .int x2880, .int r2888]) (rest := []) d_Reader_takeGuest_36 rfl mo_Reader_138 ms_Main_put (by decide) rfl rfl (Nat.le_of_ble_eq_true rfl) ?_
    refine t1_Main_put hld (Ld1 + 6) (shLa_6 hLd1) (ltLa_6 hLd1) (by decide) _ _ (fun  M2892 L2893 k2894 => ?_)
    refine g_aload_n (pc1 := 40) d_Reader_takeGuest_39 rfl 0 rfl ?_
    refine g_bipush (pc1 := 42) (v := 59) d_Reader_takeGuest_40 rfl (by decide) ?_
    refine g_callV0 (pc1 := 45) (As := [.int 59]) (rest := []) d_Reader_takeGuest_42 rfl mo_Reader_118 mi_Reader_need mv_Reader_need rfl sh_3 (by decide) (by decide) rfl rfl (Nat.le_of_ble_eq_true rfl) ?_
    refine t1_Reader_need hld _ (fun  M2895 L2896 k2897 => ?_)
    refine g_aload_n (pc1 := 46) d_Reader_takeGuest_45 rfl 1 rfl ?_
    refine g_iload_n (pc1 := 47) d_Reader_takeGuest_46 rfl 2 rfl ?_
    refine g_iconst (pc1 := 48) (v := 1) d_Reader_takeGuest_47 rfl (by decide) ?_
    refine g_iadd (pc1 := 49) d_Reader_takeGuest_48 rfl ?_
    refine g_puti (pc1 := 52) d_Reader_takeGuest_49 rfl fo_Reader_165 (po_4_2 _) (shLa_0 hLd1) (ltLa_0 hLd1) ?_
    refine Wp.topM (fun M2898 eM2898 => ?_)
    refine g_return rfl d_Reader_takeGuest_52 rfl ?_
    exact hQ _ _ (Kp.wM (Kp.trans (Kp.trans (Kp.trans (Kp.trans (Kp.trans Kp.rf k2884) k2887) k2891) (Kp.mono k2894 (one_S (S2_La_6 hLd1)))) k2897) (S2_La_0 hLd1) eM2898)
  · refine g_aload_n (pc1 := 11) d_Reader_takeGuest_10 rfl 0 rfl ?_
    refine g_iconst (pc1 := 12) (v := 2) d_Reader_takeGuest_11 rfl (by decide) ?_
    refine g_callV0 (pc1 := 15) (As := [.int 2]) (rest := []) d_Reader_takeGuest_12 rfl mo_Reader_95 mi_Reader_stop mv_Reader_stop rfl sh_3 (by decide) (by decide) rfl rfl (Nat.le_of_ble_eq_true rfl) ?_
    refine t1_Reader_stop hld _ (fun  M2899 L2900 k2901 => ?_)
    refine g_return rfl d_Reader_takeGuest_15 rfl ?_
    exact hQ _ _ (Kp.trans Kp.rf k2901)
set_option maxHeartbeats 4000000 in
set_option maxRecDepth 20000 in
theorem t1_Reader_takeLaw {l : Launch} {ld : Nat} (hld : isLa ld) {M : gM} {L : gL} {Q : Option Value → gM → gL → gR → Prop} (Wl1 : Nat) (hWl1 : isLw Wl1) (hQ : ∀ (M' : gM) (L' : gL), Kp S2 M L M' L' → Q none M' L' (rf ld)) : Tm l y_Reader_takeLaw (0, 0, 447) 447 [.ref 3, .ref Wl1] M L (rf ld) Q := by
  refine Tm.of (by decide) (Nat.le_of_ble_eq_true rfl) ?_
  show Wp l y_Reader_takeLaw (0, 0, 447) 447 0 0 0 [(0, .ref 3), (1, .ref Wl1)] [] M L (rf ld) Q
  refine g_aload_n (pc1 := 1) d_Reader_takeLaw_0 rfl 1 rfl ?_
  refine g_callV0 (pc1 := 4) (As := []) (rest := []) d_Reader_takeLaw_1 rfl mo_Reader_183 mi_Law_clear mv_Law_clear rfl (shLw_0 hWl1) (ltLw_0 hWl1) (by decide) rfl rfl (Nat.le_of_ble_eq_true rfl) ?_
  refine t1_Law_clear hld Wl1 hWl1 (fun  M2902 L2903 k2904 => ?_)
  refine g_aload_n (pc1 := 5) d_Reader_takeLaw_4 rfl 0 rfl ?_
  refine g_callV0 (pc1 := 8) (As := []) (rest := []) d_Reader_takeLaw_5 rfl mo_Reader_108 mi_Reader_take mv_Reader_take rfl sh_3 (by decide) (by decide) rfl rfl (Nat.le_of_ble_eq_true rfl) ?_
  refine t1_Reader_take hld  (fun  M2905 L2906 k2907 => ?_)
  refine g_aload_n (pc1 := 9) d_Reader_takeLaw_8 rfl 0 rfl ?_
  refine g_bipush (pc1 := 11) (v := 61) d_Reader_takeLaw_9 rfl (by decide) ?_
  refine g_callV0 (pc1 := 14) (As := [.int 61]) (rest := []) d_Reader_takeLaw_11 rfl mo_Reader_118 mi_Reader_need mv_Reader_need rfl sh_3 (by decide) (by decide) rfl rfl (Nat.le_of_ble_eq_true rfl) ?_
  refine t1_Reader_need hld _ (fun  M2908 L2909 k2910 => ?_)
  refine g_iconst (pc1 := 15) (v := 0) d_Reader_takeLaw_14 rfl (by decide) ?_
  refine g_istore_n (pc1 := 16) (lv' := [(0, .ref 3), (1, .ref Wl1), (2, .int 0)]) d_Reader_takeLaw_15 rfl rfl (by decide) [1, 2, 0] rfl ?_
  have LP2914 : ∀ (f2911 : Nat) (v2915 : Int32) (M2916 : gM) (L2917 : gL), Kp S2 M L M2916 L2917 → ¬ v2915 < 0 → ((4 : Int32).toInt + 1 - v2915.toInt).toNat < f2911 → Wp l y_Reader_takeLaw (0, 0, 447) 447 0 0 16 [(0, .ref 3), (1, .ref Wl1), (2, .int v2915)] [] M2916 L2917 (rf ld) Q := by
    intro f2911
    induction f2911 with
    | zero => intro v2915 M2916 L2917 _ _ hm2913; exact absurd hm2913 (Nat.not_lt_zero _)
    | succ f2911 ih2912 =>
      intro v2915 M2916 L2917 k2918 n2919 hm2913
      refine g_iload_n (pc1 := 17) d_Reader_takeLaw_16 rfl 2 rfl ?_
      refine g_iconst (pc1 := 18) (v := 4) d_Reader_takeLaw_17 rfl (by decide) ?_
      refine g_icmp_gt (pc1 := 21) (tgt := 106) d_Reader_takeLaw_18 (by decide) rfl (fun h2920 => ?_) (fun h2920 => ?_)
      · refine g_aload_n (pc1 := 107) d_Reader_takeLaw_106 rfl 0 rfl ?_
        refine g_aload_n (pc1 := 108) d_Reader_takeLaw_107 rfl 1 rfl ?_
        refine g_callV0 (pc1 := 111) (As := [.ref Wl1]) (rest := []) d_Reader_takeLaw_108 rfl mo_Reader_186 mi_Reader_takeSum mv_Reader_takeSum rfl sh_3 (by decide) (by decide) rfl rfl (Nat.le_of_ble_eq_true rfl) ?_
        refine t1_Reader_takeSum hld Wl1 hWl1 (fun  M2921 L2922 k2923 => ?_)
        refine g_aload_n (pc1 := 112) d_Reader_takeLaw_111 rfl 0 rfl ?_
        refine g_bipush (pc1 := 114) (v := 59) d_Reader_takeLaw_112 rfl (by decide) ?_
        refine g_callV0 (pc1 := 117) (As := [.int 59]) (rest := []) d_Reader_takeLaw_114 rfl mo_Reader_118 mi_Reader_need mv_Reader_need rfl sh_3 (by decide) (by decide) rfl rfl (Nat.le_of_ble_eq_true rfl) ?_
        refine t1_Reader_need hld _ (fun  M2924 L2925 k2926 => ?_)
        refine g_return rfl d_Reader_takeLaw_117 rfl ?_
        exact hQ _ _ (Kp.trans (Kp.trans k2918 k2923) k2926)
      · refine g_aload_n (pc1 := 22) d_Reader_takeLaw_21 rfl 0 rfl ?_
        refine g_geti (pc1 := 25) d_Reader_takeLaw_22 rfl ⟨_, fo_Reader_42⟩ sh_3 (by decide) ?_
        refine g_if_ne (pc1 := 28) (tgt := 106) d_Reader_takeLaw_25 (by decide) rfl (fun h2927 => ?_) (fun h2927 => ?_)
        · refine g_aload_n (pc1 := 107) d_Reader_takeLaw_106 rfl 0 rfl ?_
          refine g_aload_n (pc1 := 108) d_Reader_takeLaw_107 rfl 1 rfl ?_
          refine g_callV0 (pc1 := 111) (As := [.ref Wl1]) (rest := []) d_Reader_takeLaw_108 rfl mo_Reader_186 mi_Reader_takeSum mv_Reader_takeSum rfl sh_3 (by decide) (by decide) rfl rfl (Nat.le_of_ble_eq_true rfl) ?_
          refine t1_Reader_takeSum hld Wl1 hWl1 (fun  M2928 L2929 k2930 => ?_)
          refine g_aload_n (pc1 := 112) d_Reader_takeLaw_111 rfl 0 rfl ?_
          refine g_bipush (pc1 := 114) (v := 59) d_Reader_takeLaw_112 rfl (by decide) ?_
          refine g_callV0 (pc1 := 117) (As := [.int 59]) (rest := []) d_Reader_takeLaw_114 rfl mo_Reader_118 mi_Reader_need mv_Reader_need rfl sh_3 (by decide) (by decide) rfl rfl (Nat.le_of_ble_eq_true rfl) ?_
          refine t1_Reader_need hld _ (fun  M2931 L2932 k2933 => ?_)
          refine g_return rfl d_Reader_takeLaw_117 rfl ?_
          exact hQ _ _ (Kp.trans (Kp.trans k2918 k2930) k2933)
        · refine g_aload_n (pc1 := 29) d_Reader_takeLaw_28 rfl 0 rfl ?_
          refine g_sipush (pc1 := 32) (v := 137) d_Reader_takeLaw_29 rfl (by decide) ?_
          refine g_callV0 (pc1 := 35) (As := [.int 137]) (rest := []) d_Reader_takeLaw_32 rfl mo_Reader_51 mi_Reader_is mv_Reader_is rfl sh_3 (by decide) (by decide) rfl rfl (Nat.le_of_ble_eq_true rfl) ?_
          refine t1_Reader_is hld _ (fun r2934 hr2934 => ?_)
          refine g_if_eq (pc1 := 38) (tgt := 106) d_Reader_takeLaw_35 (by decide) rfl (fun h2935 => ?_) (fun h2935 => ?_)
          · refine g_aload_n (pc1 := 107) d_Reader_takeLaw_106 rfl 0 rfl ?_
            refine g_aload_n (pc1 := 108) d_Reader_takeLaw_107 rfl 1 rfl ?_
            refine g_callV0 (pc1 := 111) (As := [.ref Wl1]) (rest := []) d_Reader_takeLaw_108 rfl mo_Reader_186 mi_Reader_takeSum mv_Reader_takeSum rfl sh_3 (by decide) (by decide) rfl rfl (Nat.le_of_ble_eq_true rfl) ?_
            refine t1_Reader_takeSum hld Wl1 hWl1 (fun  M2936 L2937 k2938 => ?_)
            refine g_aload_n (pc1 := 112) d_Reader_takeLaw_111 rfl 0 rfl ?_
            refine g_bipush (pc1 := 114) (v := 59) d_Reader_takeLaw_112 rfl (by decide) ?_
            refine g_callV0 (pc1 := 117) (As := [.int 59]) (rest := []) d_Reader_takeLaw_114 rfl mo_Reader_118 mi_Reader_need mv_Reader_need rfl sh_3 (by decide) (by decide) rfl rfl (Nat.le_of_ble_eq_true rfl) ?_
            refine t1_Reader_need hld _ (fun  M2939 L2940 k2941 => ?_)
            refine g_return rfl d_Reader_takeLaw_117 rfl ?_
            exact hQ _ _ (Kp.trans (Kp.trans k2918 k2938) k2941)
          · refine g_iload_n (pc1 := 39) d_Reader_takeLaw_38 rfl 2 rfl ?_
            refine g_iconst (pc1 := 40) (v := 4) d_Reader_takeLaw_39 rfl (by decide) ?_
            refine g_icmp_ne (pc1 := 43) (tgt := 51) d_Reader_takeLaw_40 (by decide) rfl (fun h2942 => ?_) (fun h2942 => ?_)
            · refine g_aload_n (pc1 := 52) d_Reader_takeLaw_51 rfl 0 rfl ?_
              refine g_callV0 (pc1 := 55) (As := []) (rest := []) d_Reader_takeLaw_52 rfl mo_Reader_108 mi_Reader_take mv_Reader_take rfl sh_3 (by decide) (by decide) rfl rfl (Nat.le_of_ble_eq_true rfl) ?_
              refine t1_Reader_take hld  (fun  M2943 L2944 k2945 => ?_)
              refine g_aload_n (pc1 := 56) d_Reader_takeLaw_55 rfl 0 rfl ?_
              refine g_aload_n (pc1 := 57) d_Reader_takeLaw_56 rfl 1 rfl ?_
              refine g_callV0 (pc1 := 60) (As := [.ref Wl1]) (rest := []) d_Reader_takeLaw_57 rfl mo_Reader_186 mi_Reader_takeSum mv_Reader_takeSum rfl sh_3 (by decide) (by decide) rfl rfl (Nat.le_of_ble_eq_true rfl) ?_
              refine t1_Reader_takeSum hld Wl1 hWl1 (fun  M2946 L2947 k2948 => ?_)
              refine g_aload_n (pc1 := 61) d_Reader_takeLaw_60 rfl 0 rfl ?_
              refine g_bipush (pc1 := 63) (v := 60) d_Reader_takeLaw_61 rfl (by decide) ?_
              refine g_callV0 (pc1 := 66) (As := [.int 60]) (rest := []) d_Reader_takeLaw_63 rfl mo_Reader_118 mi_Reader_need mv_Reader_need rfl sh_3 (by decide) (by decide) rfl rfl (Nat.le_of_ble_eq_true rfl) ?_
              refine t1_Reader_need hld _ (fun  M2949 L2950 k2951 => ?_)
              refine g_aload_n (pc1 := 67) d_Reader_takeLaw_66 rfl 0 rfl ?_
              refine g_aload_n (pc1 := 68) d_Reader_takeLaw_67 rfl 1 rfl ?_
              refine g_callV0 (pc1 := 71) (As := [.ref Wl1]) (rest := []) d_Reader_takeLaw_68 rfl mo_Reader_186 mi_Reader_takeSum mv_Reader_takeSum rfl sh_3 (by decide) (by decide) rfl rfl (Nat.le_of_ble_eq_true rfl) ?_
              refine t1_Reader_takeSum hld Wl1 hWl1 (fun  M2952 L2953 k2954 => ?_)
              refine g_aload_n (pc1 := 72) d_Reader_takeLaw_71 rfl 0 rfl ?_
              refine g_sipush (pc1 := 75) (v := 138) d_Reader_takeLaw_72 rfl (by decide) ?_
              refine g_callV0 (pc1 := 78) (As := [.int 138]) (rest := []) d_Reader_takeLaw_75 rfl mo_Reader_118 mi_Reader_need mv_Reader_need rfl sh_3 (by decide) (by decide) rfl rfl (Nat.le_of_ble_eq_true rfl) ?_
              refine t1_Reader_need hld _ (fun  M2955 L2956 k2957 => ?_)
              refine g_aload_n (pc1 := 79) d_Reader_takeLaw_78 rfl 1 rfl ?_
              refine g_callV0 (pc1 := 82) (As := []) (rest := []) d_Reader_takeLaw_79 rfl mo_Reader_189 mi_Law_openIf mv_Law_openIf rfl (shLw_0 hWl1) (ltLw_0 hWl1) (by decide) rfl rfl (Nat.le_of_ble_eq_true rfl) ?_
              refine t1_Law_openIf hld Wl1 hWl1 (fun r2958 M2959 L2960 k2961 => ?_)
              refine g_istore_n (pc1 := 83) (lv' := [(0, .ref 3), (1, .ref Wl1), (2, .int v2915), (3, .int r2958)]) d_Reader_takeLaw_82 rfl rfl (by decide) [1, 2, 3, 0] rfl ?_
              refine g_aload_n (pc1 := 84) d_Reader_takeLaw_83 rfl 0 rfl ?_
              refine g_aload_n (pc1 := 85) d_Reader_takeLaw_84 rfl 1 rfl ?_
              refine g_callV0 (pc1 := 88) (As := [.ref Wl1]) (rest := []) d_Reader_takeLaw_85 rfl mo_Reader_186 mi_Reader_takeSum mv_Reader_takeSum rfl sh_3 (by decide) (by decide) rfl rfl (Nat.le_of_ble_eq_true rfl) ?_
              refine t1_Reader_takeSum hld Wl1 hWl1 (fun  M2962 L2963 k2964 => ?_)
              refine g_aload_n (pc1 := 89) d_Reader_takeLaw_88 rfl 0 rfl ?_
              refine g_sipush (pc1 := 92) (v := 139) d_Reader_takeLaw_89 rfl (by decide) ?_
              refine g_callV0 (pc1 := 95) (As := [.int 139]) (rest := []) d_Reader_takeLaw_92 rfl mo_Reader_118 mi_Reader_need mv_Reader_need rfl sh_3 (by decide) (by decide) rfl rfl (Nat.le_of_ble_eq_true rfl) ?_
              refine t1_Reader_need hld _ (fun  M2965 L2966 k2967 => ?_)
              refine g_aload_n (pc1 := 96) d_Reader_takeLaw_95 rfl 1 rfl ?_
              refine g_iload_n (pc1 := 97) d_Reader_takeLaw_96 rfl 3 rfl ?_
              refine g_callV0 (pc1 := 100) (As := [.int r2958]) (rest := []) d_Reader_takeLaw_97 rfl mo_Reader_193 mi_Law_closeIf mv_Law_closeIf rfl (shLw_0 hWl1) (ltLw_0 hWl1) (by decide) rfl rfl (Nat.le_of_ble_eq_true rfl) ?_
              refine t1_Law_closeIf hld Wl1 hWl1 _ (fun  M2968 L2969 k2970 => ?_)
              obtain ⟨x2971, ex2971⟩ : ∃ y : Int32, y = v2915 + 1 := ⟨_, rfl⟩
              refine g_iinc (pc1 := 103) (v := x2971) (lv' := [(0, .ref 3), (1, .ref Wl1), (2, .int x2971), (3, .int r2958)]) d_Reader_takeLaw_100 rfl 2 rfl (by rw [ex2971]; rfl) (by decide) [1, 2, 0, 3] rfl ?_
              refine g_goto (tgt := 16) d_Reader_takeLaw_103 (by decide) ?_
              refine Wp.loc (lv' := [(0, .ref 3), (1, .ref Wl1), (2, .int x2971)]) [0, 1, 2] rfl ?_
              exact ih2912 x2971 M2968 L2969 (Kp.trans (Kp.trans (Kp.trans (Kp.trans (Kp.trans (Kp.trans (Kp.trans (Kp.trans (Kp.trans k2918 k2945) k2948) k2951) k2954) k2957) (Kp.mono k2961 SL_S2)) k2964) k2967) (Kp.mono k2970 SL_S2)) (nn_upe (y := (4 : Int32)) h2920 (by decide) ex2971 n2919) (md_upe h2920 (by decide) ex2971 hm2913)
            · refine g_aload_n (pc1 := 44) d_Reader_takeLaw_43 rfl 0 rfl ?_
              refine g_iconst (pc1 := 45) (v := 2) d_Reader_takeLaw_44 rfl (by decide) ?_
              refine g_callV0 (pc1 := 48) (As := [.int 2]) (rest := []) d_Reader_takeLaw_45 rfl mo_Reader_95 mi_Reader_stop mv_Reader_stop rfl sh_3 (by decide) (by decide) rfl rfl (Nat.le_of_ble_eq_true rfl) ?_
              refine t1_Reader_stop hld _ (fun  M2972 L2973 k2974 => ?_)
              refine g_goto (tgt := 106) d_Reader_takeLaw_48 (by decide) ?_
              refine g_aload_n (pc1 := 107) d_Reader_takeLaw_106 rfl 0 rfl ?_
              refine g_aload_n (pc1 := 108) d_Reader_takeLaw_107 rfl 1 rfl ?_
              refine g_callV0 (pc1 := 111) (As := [.ref Wl1]) (rest := []) d_Reader_takeLaw_108 rfl mo_Reader_186 mi_Reader_takeSum mv_Reader_takeSum rfl sh_3 (by decide) (by decide) rfl rfl (Nat.le_of_ble_eq_true rfl) ?_
              refine t1_Reader_takeSum hld Wl1 hWl1 (fun  M2975 L2976 k2977 => ?_)
              refine g_aload_n (pc1 := 112) d_Reader_takeLaw_111 rfl 0 rfl ?_
              refine g_bipush (pc1 := 114) (v := 59) d_Reader_takeLaw_112 rfl (by decide) ?_
              refine g_callV0 (pc1 := 117) (As := [.int 59]) (rest := []) d_Reader_takeLaw_114 rfl mo_Reader_118 mi_Reader_need mv_Reader_need rfl sh_3 (by decide) (by decide) rfl rfl (Nat.le_of_ble_eq_true rfl) ?_
              refine t1_Reader_need hld _ (fun  M2978 L2979 k2980 => ?_)
              refine g_return rfl d_Reader_takeLaw_117 rfl ?_
              exact hQ _ _ (Kp.trans (Kp.trans (Kp.trans k2918 k2974) k2977) k2980)
  exact LP2914 _ 0 M2908 L2909 (Kp.trans (Kp.trans (Kp.trans Kp.rf (Kp.mono k2904 SL_S2)) k2907) k2910) (by decide) (Nat.lt_succ_self _)
set_option maxHeartbeats 4000000 in
set_option maxRecDepth 20000 in
theorem t1_Reader_takeSeed {l : Launch} {ld : Nat} (hld : isLa ld) {M : gM} {L : gL} {Q : Option Value → gM → gL → gR → Prop} (Ld1 : Nat) (hLd1 : isLa Ld1) (hQ : ∀ (M' : gM) (L' : gL), Kp S2 M L M' L' → Q none M' L' (rf ld)) : Tm l y_Reader_takeSeed (0, 0, 447) 447 [.ref 3, .ref Ld1] M L (rf ld) Q := by
  refine Tm.of (by decide) (Nat.le_of_ble_eq_true rfl) ?_
  show Wp l y_Reader_takeSeed (0, 0, 447) 447 0 0 0 [(0, .ref 3), (1, .ref Ld1)] [] M L (rf ld) Q
  refine g_aload_n (pc1 := 1) d_Reader_takeSeed_0 rfl 0 rfl ?_
  refine g_callV0 (pc1 := 4) (As := []) (rest := []) d_Reader_takeSeed_1 rfl mo_Reader_108 mi_Reader_take mv_Reader_take rfl sh_3 (by decide) (by decide) rfl rfl (Nat.le_of_ble_eq_true rfl) ?_
  refine t1_Reader_take hld  (fun  M2981 L2982 k2983 => ?_)
  refine g_aload_n (pc1 := 5) d_Reader_takeSeed_4 rfl 1 rfl ?_
  refine g_aload_n (pc1 := 6) d_Reader_takeSeed_5 rfl 0 rfl ?_
  refine g_sipush (pc1 := 9) (v := 9999) d_Reader_takeSeed_6 rfl (by decide) ?_
  refine g_callV0 (pc1 := 12) (As := [.int 9999]) (rest := [.ref Ld1]) d_Reader_takeSeed_9 rfl mo_Reader_134 mi_Reader_takeInt mv_Reader_takeInt rfl sh_3 (by decide) (by decide) rfl rfl (Nat.le_of_ble_eq_true rfl) ?_
  refine t1_Reader_takeInt hld _ (fun r2984 M2985 L2986 k2987 => ?_)
  refine g_puti (pc1 := 15) d_Reader_takeSeed_12 rfl fo_Reader_180 (po_4_4 _) (shLa_0 hLd1) (ltLa_0 hLd1) ?_
  refine Wp.topM (fun M2988 eM2988 => ?_)
  refine g_aload_n (pc1 := 16) d_Reader_takeSeed_15 rfl 0 rfl ?_
  refine g_bipush (pc1 := 18) (v := 59) d_Reader_takeSeed_16 rfl (by decide) ?_
  refine g_callV0 (pc1 := 21) (As := [.int 59]) (rest := []) d_Reader_takeSeed_18 rfl mo_Reader_118 mi_Reader_need mv_Reader_need rfl sh_3 (by decide) (by decide) rfl rfl (Nat.le_of_ble_eq_true rfl) ?_
  refine t1_Reader_need hld _ (fun  M2989 L2990 k2991 => ?_)
  refine g_return rfl d_Reader_takeSeed_21 rfl ?_
  exact hQ _ _ (Kp.trans (Kp.wM (Kp.trans (Kp.trans Kp.rf k2983) k2987) (S2_La_0 hLd1) eM2988) k2991)
