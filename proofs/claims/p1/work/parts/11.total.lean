set_option maxHeartbeats 4000000 in
set_option maxRecDepth 20000 in
theorem t1_Land_boundBy {l : Launch} {ld : Nat} (hld : isLa ld) {M : gM} {L : gL} {Q : Option Value → gM → gL → gR → Prop} (Ld0 : Nat) (hLd0 : isLa Ld0) (p1 : Int32) (p2 : Int32) (p3 : Int32) (p4 : Int32) (p5 : Int32) (hQ : ∀ (r : Int32) (M' : gM) (L' : gL), Kp S0 M L M' L' → Q (some (.int r)) M' L' (rf ld)) : Tm l y_Land_boundBy (0, 0, 447) 447 [.ref Ld0, .int p1, .int p2, .int p3, .int p4, .int p5] M L (rf ld) Q := by
  refine Tm.of (by decide) (Nat.le_of_ble_eq_true rfl) ?_
  show Wp l y_Land_boundBy (0, 0, 447) 447 0 0 0 [(0, .ref Ld0), (1, .int p1), (2, .int p2), (3, .int p3), (4, .int p4), (5, .int p5)] [] M L (rf ld) Q
  refine g_aload_n (pc1 := 1) d_Land_boundBy_0 rfl 0 rfl ?_
  refine g_getr (pc1 := 4) d_Land_boundBy_1 rfl ⟨_, fo_Land_43⟩ (shLa_0 hLd0) (ltLa_0 hLd0) (rfLa_14 ld hLd0) ?_
  refine g_callV0 (pc1 := 7) (As := []) (rest := []) d_Land_boundBy_4 rfl mo_Land_89 mi_Law_isTold mv_Law_isTold rfl (shLw_0 (isLw_13 hLd0)) (ltLw_0 (isLw_13 hLd0)) (by decide) rfl rfl (Nat.le_of_ble_eq_true rfl) ?_
  refine t1_Law_isTold hld (Ld0 + 13) (isLw_13 hLd0) (fun r560 hr560 => ?_)
  refine g_if_ne (pc1 := 10) (tgt := 21) d_Land_boundBy_7 (by decide) rfl (fun h561 => ?_) (fun h561 => ?_)
  · refine g_aload_n (pc1 := 22) d_Land_boundBy_21 rfl 0 rfl ?_
    refine g_getr (pc1 := 25) d_Land_boundBy_22 rfl ⟨_, fo_Land_43⟩ (shLa_0 hLd0) (ltLa_0 hLd0) (rfLa_14 ld hLd0) ?_
    refine g_iconst (pc1 := 26) (v := 0) d_Land_boundBy_25 rfl (by decide) ?_
    refine g_iload_n (pc1 := 27) d_Land_boundBy_26 rfl 3 rfl ?_
    refine g_callV0 (pc1 := 30) (As := [.int 0, .int p3]) (rest := []) d_Land_boundBy_27 rfl mo_Land_97 mi_Law_let mv_Law_let rfl (shLw_0 (isLw_13 hLd0)) (ltLw_0 (isLw_13 hLd0)) (by decide) rfl rfl (Nat.le_of_ble_eq_true rfl) ?_
    refine t1_Law_let hld (Ld0 + 13) (isLw_13 hLd0) _ _ (fun  M562 L563 k564 => ?_)
    refine g_aload_n (pc1 := 31) d_Land_boundBy_30 rfl 0 rfl ?_
    refine g_getr (pc1 := 34) d_Land_boundBy_31 rfl ⟨_, fo_Land_43⟩ (shLa_0 hLd0) (ltLa_0 hLd0) (rfLa_14 ld hLd0) ?_
    refine g_iconst (pc1 := 35) (v := 2) d_Land_boundBy_34 rfl (by decide) ?_
    refine g_iload_n (pc1 := 36) d_Land_boundBy_35 rfl 2 rfl ?_
    refine g_callV0 (pc1 := 39) (As := [.int 2, .int p2]) (rest := []) d_Land_boundBy_36 rfl mo_Land_97 mi_Law_let mv_Law_let rfl (shLw_0 (isLw_13 hLd0)) (ltLw_0 (isLw_13 hLd0)) (by decide) rfl rfl (Nat.le_of_ble_eq_true rfl) ?_
    refine t1_Law_let hld (Ld0 + 13) (isLw_13 hLd0) _ _ (fun  M565 L566 k567 => ?_)
    refine g_aload_n (pc1 := 40) d_Land_boundBy_39 rfl 0 rfl ?_
    refine g_getr (pc1 := 43) d_Land_boundBy_40 rfl ⟨_, fo_Land_43⟩ (shLa_0 hLd0) (ltLa_0 hLd0) (rfLa_14 ld hLd0) ?_
    refine g_iconst (pc1 := 44) (v := 5) d_Land_boundBy_43 rfl (by decide) ?_
    refine g_aload_n (pc1 := 45) d_Land_boundBy_44 rfl 0 rfl ?_
    refine g_getr (pc1 := 48) d_Land_boundBy_45 rfl ⟨_, fo_Land_27⟩ (shLa_0 hLd0) (ltLa_0 hLd0) (rfLa_10 ld hLd0) ?_
    refine g_iload_n (pc1 := 49) d_Land_boundBy_48 rfl 1 rfl ?_
    refine g_callS0 (pc1 := 52) (As := [.ref (Ld0 + 6), .int p1]) (rest := [.int 5, .ref (Ld0 + 13)]) d_Land_boundBy_49 rfl mo_Land_78 ms_Main_at (by decide) rfl rfl (Nat.le_of_ble_eq_true rfl) ?_
    refine t1_Main_at hld (Ld0 + 6) (shLa_6 hLd0) (ltLa_6 hLd0) (by decide) _ (fun r568 => ?_)
    refine g_callV0 (pc1 := 55) (As := [.int 5, .int r568]) (rest := []) d_Land_boundBy_52 rfl mo_Land_97 mi_Law_let mv_Law_let rfl (shLw_0 (isLw_13 hLd0)) (ltLw_0 (isLw_13 hLd0)) (by decide) rfl rfl (Nat.le_of_ble_eq_true rfl) ?_
    refine t1_Law_let hld (Ld0 + 13) (isLw_13 hLd0) _ _ (fun  M569 L570 k571 => ?_)
    refine g_aload_n (pc1 := 56) d_Land_boundBy_55 rfl 0 rfl ?_
    refine g_getr (pc1 := 59) d_Land_boundBy_56 rfl ⟨_, fo_Land_43⟩ (shLa_0 hLd0) (ltLa_0 hLd0) (rfLa_14 ld hLd0) ?_
    refine g_bipush (pc1 := 61) (v := 6) d_Land_boundBy_59 rfl (by decide) ?_
    refine g_iload (pc1 := 63) d_Land_boundBy_61 rfl 4 rfl ?_
    refine g_callV0 (pc1 := 66) (As := [.int 6, .int p4]) (rest := []) d_Land_boundBy_63 rfl mo_Land_97 mi_Law_let mv_Law_let rfl (shLw_0 (isLw_13 hLd0)) (ltLw_0 (isLw_13 hLd0)) (by decide) rfl rfl (Nat.le_of_ble_eq_true rfl) ?_
    refine t1_Law_let hld (Ld0 + 13) (isLw_13 hLd0) _ _ (fun  M572 L573 k574 => ?_)
    refine g_aload_n (pc1 := 67) d_Land_boundBy_66 rfl 0 rfl ?_
    refine g_getr (pc1 := 70) d_Land_boundBy_67 rfl ⟨_, fo_Land_43⟩ (shLa_0 hLd0) (ltLa_0 hLd0) (rfLa_14 ld hLd0) ?_
    refine g_iconst (pc1 := 71) (v := 4) d_Land_boundBy_70 rfl (by decide) ?_
    refine g_iload (pc1 := 73) d_Land_boundBy_71 rfl 5 rfl ?_
    refine g_callV0 (pc1 := 76) (As := [.int 4, .int p5]) (rest := []) d_Land_boundBy_73 rfl mo_Land_97 mi_Law_let mv_Law_let rfl (shLw_0 (isLw_13 hLd0)) (ltLw_0 (isLw_13 hLd0)) (by decide) rfl rfl (Nat.le_of_ble_eq_true rfl) ?_
    refine t1_Law_let hld (Ld0 + 13) (isLw_13 hLd0) _ _ (fun  M575 L576 k577 => ?_)
    refine g_aload_n (pc1 := 77) d_Land_boundBy_76 rfl 0 rfl ?_
    refine g_getr (pc1 := 80) d_Land_boundBy_77 rfl ⟨_, fo_Land_43⟩ (shLa_0 hLd0) (ltLa_0 hLd0) (rfLa_14 ld hLd0) ?_
    refine g_callV0 (pc1 := 83) (As := []) (rest := []) d_Land_boundBy_80 rfl mo_Land_101 mi_Law_value mv_Law_value rfl (shLw_0 (isLw_13 hLd0)) (ltLw_0 (isLw_13 hLd0)) (by decide) rfl rfl (Nat.le_of_ble_eq_true rfl) ?_
    refine t1_Law_value hld (Ld0 + 13) (isLw_13 hLd0) (fun r578 M579 L580 k581 => ?_)
    refine g_iconst (pc1 := 84) (v := 0) d_Land_boundBy_83 rfl (by decide) ?_
    refine g_bipush (pc1 := 86) (v := 99) d_Land_boundBy_84 rfl (by decide) ?_
    refine g_callS0 (pc1 := 89) (As := [.int r578, .int 0, .int 99]) (rest := []) d_Land_boundBy_86 rfl mo_Land_93 ms_Main_within (by decide) rfl rfl (Nat.le_of_ble_eq_true rfl) ?_
    refine t1_Main_within hld _ _ _ (fun r582 => ?_)
    refine g_ireturn (Or.inl rfl) d_Land_boundBy_89 rfl ?_
    exact hQ _ _ _ (Kp.trans (Kp.trans (Kp.trans (Kp.trans (Kp.trans (Kp.trans Kp.rf k564) k567) k571) k574) k577) k581)
  · refine g_iload_n (pc1 := 11) d_Land_boundBy_10 rfl 3 rfl ?_
    refine g_iload (pc1 := 13) d_Land_boundBy_11 rfl 4 rfl ?_
    refine g_isub (pc1 := 14) d_Land_boundBy_13 rfl ?_
    refine g_iconst (pc1 := 15) (v := 0) d_Land_boundBy_14 rfl (by decide) ?_
    refine g_bipush (pc1 := 17) (v := 99) d_Land_boundBy_15 rfl (by decide) ?_
    refine g_callS0 (pc1 := 20) (As := [.int (p3 - p4), .int 0, .int 99]) (rest := []) d_Land_boundBy_17 rfl mo_Land_93 ms_Main_within (by decide) rfl rfl (Nat.le_of_ble_eq_true rfl) ?_
    refine t1_Main_within hld _ _ _ (fun r583 => ?_)
    refine g_ireturn (Or.inl rfl) d_Land_boundBy_20 rfl ?_
    exact hQ _ _ _ Kp.rf
set_option maxHeartbeats 4000000 in
set_option maxRecDepth 20000 in
theorem t1_Land_fillOf {l : Launch} {ld : Nat} (hld : isLa ld) {M : gM} {L : gL} {Q : Option Value → gM → gL → gR → Prop} (Ld0 : Nat) (hLd0 : isLa Ld0) (p1 : Int32) (p2 : Int32) (p3 : Int32) (hQ : ∀ (r : Int32) (M' : gM) (L' : gL), Kp S0 M L M' L' → Q (some (.int r)) M' L' (rf ld)) : Tm l y_Land_fillOf (0, 0, 447) 447 [.ref Ld0, .int p1, .int p2, .int p3] M L (rf ld) Q := by
  refine Tm.of (by decide) (Nat.le_of_ble_eq_true rfl) ?_
  show Wp l y_Land_fillOf (0, 0, 447) 447 0 0 0 [(0, .ref Ld0), (1, .int p1), (2, .int p2), (3, .int p3)] [] M L (rf ld) Q
  refine g_aload_n (pc1 := 1) d_Land_fillOf_0 rfl 0 rfl ?_
  refine g_getr (pc1 := 4) d_Land_fillOf_1 rfl ⟨_, fo_Land_46⟩ (shLa_0 hLd0) (ltLa_0 hLd0) (rfLa_15 ld hLd0) ?_
  refine g_callV0 (pc1 := 7) (As := []) (rest := []) d_Land_fillOf_4 rfl mo_Land_89 mi_Law_isTold mv_Law_isTold rfl (shLw_0 (isLw_17 hLd0)) (ltLw_0 (isLw_17 hLd0)) (by decide) rfl rfl (Nat.le_of_ble_eq_true rfl) ?_
  refine t1_Law_isTold hld (Ld0 + 17) (isLw_17 hLd0) (fun r584 hr584 => ?_)
  refine g_if_ne (pc1 := 10) (tgt := 12) d_Land_fillOf_7 (by decide) rfl (fun h585 => ?_) (fun h585 => ?_)
  · refine g_aload_n (pc1 := 13) d_Land_fillOf_12 rfl 0 rfl ?_
    refine g_getr (pc1 := 16) d_Land_fillOf_13 rfl ⟨_, fo_Land_46⟩ (shLa_0 hLd0) (ltLa_0 hLd0) (rfLa_15 ld hLd0) ?_
    refine g_bipush (pc1 := 18) (v := 7) d_Land_fillOf_16 rfl (by decide) ?_
    refine g_iload_n (pc1 := 19) d_Land_fillOf_18 rfl 2 rfl ?_
    refine g_callV0 (pc1 := 22) (As := [.int 7, .int p2]) (rest := []) d_Land_fillOf_19 rfl mo_Land_97 mi_Law_let mv_Law_let rfl (shLw_0 (isLw_17 hLd0)) (ltLw_0 (isLw_17 hLd0)) (by decide) rfl rfl (Nat.le_of_ble_eq_true rfl) ?_
    refine t1_Law_let hld (Ld0 + 17) (isLw_17 hLd0) _ _ (fun  M586 L587 k588 => ?_)
    refine g_aload_n (pc1 := 23) d_Land_fillOf_22 rfl 0 rfl ?_
    refine g_getr (pc1 := 26) d_Land_fillOf_23 rfl ⟨_, fo_Land_46⟩ (shLa_0 hLd0) (ltLa_0 hLd0) (rfLa_15 ld hLd0) ?_
    refine g_bipush (pc1 := 28) (v := 8) d_Land_fillOf_26 rfl (by decide) ?_
    refine g_aload_n (pc1 := 29) d_Land_fillOf_28 rfl 0 rfl ?_
    refine g_getr (pc1 := 32) d_Land_fillOf_29 rfl ⟨_, fo_Land_15⟩ (shLa_0 hLd0) (ltLa_0 hLd0) (rfLa_6 ld hLd0) ?_
    refine g_iload_n (pc1 := 33) d_Land_fillOf_32 rfl 1 rfl ?_
    refine g_callS0 (pc1 := 36) (As := [.ref (Ld0 + 2), .int p1]) (rest := [.int 8, .ref (Ld0 + 17)]) d_Land_fillOf_33 rfl mo_Land_78 ms_Main_at (by decide) rfl rfl (Nat.le_of_ble_eq_true rfl) ?_
    refine t1_Main_at hld (Ld0 + 2) (shLa_2 hLd0) (ltLa_2 hLd0) (by decide) _ (fun r589 => ?_)
    refine g_callV0 (pc1 := 39) (As := [.int 8, .int r589]) (rest := []) d_Land_fillOf_36 rfl mo_Land_97 mi_Law_let mv_Law_let rfl (shLw_0 (isLw_17 hLd0)) (ltLw_0 (isLw_17 hLd0)) (by decide) rfl rfl (Nat.le_of_ble_eq_true rfl) ?_
    refine t1_Law_let hld (Ld0 + 17) (isLw_17 hLd0) _ _ (fun  M590 L591 k592 => ?_)
    refine g_aload_n (pc1 := 40) d_Land_fillOf_39 rfl 0 rfl ?_
    refine g_getr (pc1 := 43) d_Land_fillOf_40 rfl ⟨_, fo_Land_46⟩ (shLa_0 hLd0) (ltLa_0 hLd0) (rfLa_15 ld hLd0) ?_
    refine g_iconst (pc1 := 44) (v := 2) d_Land_fillOf_43 rfl (by decide) ?_
    refine g_iload_n (pc1 := 45) d_Land_fillOf_44 rfl 1 rfl ?_
    refine g_callV0 (pc1 := 48) (As := [.int 2, .int p1]) (rest := []) d_Land_fillOf_45 rfl mo_Land_97 mi_Law_let mv_Law_let rfl (shLw_0 (isLw_17 hLd0)) (ltLw_0 (isLw_17 hLd0)) (by decide) rfl rfl (Nat.le_of_ble_eq_true rfl) ?_
    refine t1_Law_let hld (Ld0 + 17) (isLw_17 hLd0) _ _ (fun  M593 L594 k595 => ?_)
    refine g_aload_n (pc1 := 49) d_Land_fillOf_48 rfl 0 rfl ?_
    refine g_getr (pc1 := 52) d_Land_fillOf_49 rfl ⟨_, fo_Land_46⟩ (shLa_0 hLd0) (ltLa_0 hLd0) (rfLa_15 ld hLd0) ?_
    refine g_iconst (pc1 := 53) (v := 4) d_Land_fillOf_52 rfl (by decide) ?_
    refine g_iload_n (pc1 := 54) d_Land_fillOf_53 rfl 3 rfl ?_
    refine g_callV0 (pc1 := 57) (As := [.int 4, .int p3]) (rest := []) d_Land_fillOf_54 rfl mo_Land_97 mi_Law_let mv_Law_let rfl (shLw_0 (isLw_17 hLd0)) (ltLw_0 (isLw_17 hLd0)) (by decide) rfl rfl (Nat.le_of_ble_eq_true rfl) ?_
    refine t1_Law_let hld (Ld0 + 17) (isLw_17 hLd0) _ _ (fun  M596 L597 k598 => ?_)
    refine g_aload_n (pc1 := 58) d_Land_fillOf_57 rfl 0 rfl ?_
    refine g_getr (pc1 := 61) d_Land_fillOf_58 rfl ⟨_, fo_Land_46⟩ (shLa_0 hLd0) (ltLa_0 hLd0) (rfLa_15 ld hLd0) ?_
    refine g_callV0 (pc1 := 64) (As := []) (rest := []) d_Land_fillOf_61 rfl mo_Land_101 mi_Law_value mv_Law_value rfl (shLw_0 (isLw_17 hLd0)) (ltLw_0 (isLw_17 hLd0)) (by decide) rfl rfl (Nat.le_of_ble_eq_true rfl) ?_
    refine t1_Law_value hld (Ld0 + 17) (isLw_17 hLd0) (fun r599 M600 L601 k602 => ?_)
    refine g_bipush (pc1 := 66) (v := (-9)) d_Land_fillOf_64 rfl (by decide) ?_
    refine g_bipush (pc1 := 68) (v := 9) d_Land_fillOf_66 rfl (by decide) ?_
    refine g_callS0 (pc1 := 71) (As := [.int r599, .int (-9), .int 9]) (rest := []) d_Land_fillOf_68 rfl mo_Land_93 ms_Main_within (by decide) rfl rfl (Nat.le_of_ble_eq_true rfl) ?_
    refine t1_Main_within hld _ _ _ (fun r603 => ?_)
    refine g_ireturn (Or.inl rfl) d_Land_fillOf_71 rfl ?_
    exact hQ _ _ _ (Kp.trans (Kp.trans (Kp.trans (Kp.trans (Kp.trans Kp.rf k588) k592) k595) k598) k602)
  · refine g_iconst (pc1 := 11) (v := 0) d_Land_fillOf_10 rfl (by decide) ?_
    refine g_ireturn (Or.inl rfl) d_Land_fillOf_11 rfl ?_
    exact hQ _ _ _ Kp.rf
set_option maxHeartbeats 4000000 in
set_option maxRecDepth 20000 in
theorem t1_Land_manyIn {l : Launch} {ld : Nat} (hld : isLa ld) {M : gM} {L : gL} {Q : Option Value → gM → gL → gR → Prop} (Ld0 : Nat) (hLd0 : isLa Ld0) (p1 : Int32) (hQ : ∀ (r : Int32) , Q (some (.int r)) M L (rf ld)) : Tm l y_Land_manyIn (0, 0, 447) 447 [.ref Ld0, .int p1] M L (rf ld) Q := by
  refine Tm.of (by decide) (Nat.le_of_ble_eq_true rfl) ?_
  show Wp l y_Land_manyIn (0, 0, 447) 447 0 0 0 [(0, .ref Ld0), (1, .int p1)] [] M L (rf ld) Q
  refine g_iconst (pc1 := 1) (v := 0) d_Land_manyIn_0 rfl (by decide) ?_
  refine g_istore_n (pc1 := 2) (lv' := [(0, .ref Ld0), (1, .int p1), (2, .int 0)]) d_Land_manyIn_1 rfl rfl (by decide) [1, 2, 0] rfl ?_
  refine g_iconst (pc1 := 3) (v := 0) d_Land_manyIn_2 rfl (by decide) ?_
  refine g_istore_n (pc1 := 4) (lv' := [(0, .ref Ld0), (1, .int p1), (2, .int 0), (3, .int 0)]) d_Land_manyIn_3 rfl rfl (by decide) [1, 2, 3, 0] rfl ?_
  have LP607 : ∀ (f604 : Nat) (v608 : Int32) (v609 : Int32), ¬ v609 < 0 → ((M Ld0 0).toInt - v609.toInt).toNat < f604 → Wp l y_Land_manyIn (0, 0, 447) 447 0 0 4 [(0, .ref Ld0), (1, .int p1), (2, .int v608), (3, .int v609)] [] M L (rf ld) Q := by
    intro f604
    induction f604 with
    | zero => intro v608 v609 _ hm606; exact absurd hm606 (Nat.not_lt_zero _)
    | succ f604 ih605 =>
      intro v608 v609 n610 hm606
      refine g_iload_n (pc1 := 5) d_Land_manyIn_4 rfl 3 rfl ?_
      refine g_aload_n (pc1 := 6) d_Land_manyIn_5 rfl 0 rfl ?_
      refine g_geti (pc1 := 9) d_Land_manyIn_6 rfl ⟨_, fo_Land_55⟩ (shLa_0 hLd0) (ltLa_0 hLd0) ?_
      refine g_icmp_ge (pc1 := 12) (tgt := 27) d_Land_manyIn_9 (by decide) rfl (fun h611 => ?_) (fun h611 => ?_)
      · refine g_iload_n (pc1 := 28) d_Land_manyIn_27 rfl 2 rfl ?_
        refine g_ireturn (Or.inl rfl) d_Land_manyIn_28 rfl ?_
        exact hQ _
      · refine g_iload_n (pc1 := 13) d_Land_manyIn_12 rfl 2 rfl ?_
        refine g_aload_n (pc1 := 14) d_Land_manyIn_13 rfl 0 rfl ?_
        refine g_iload_n (pc1 := 15) d_Land_manyIn_14 rfl 1 rfl ?_
        refine g_iload_n (pc1 := 16) d_Land_manyIn_15 rfl 3 rfl ?_
        refine g_callV0 (pc1 := 19) (As := [.int p1, .int v609]) (rest := [.int v608]) d_Land_manyIn_16 rfl mo_Land_82 mi_Land_inDish mv_Land_inDish rfl (shLa_0 hLd0) (ltLa_0 hLd0) (by decide) rfl rfl (Nat.le_of_ble_eq_true rfl) ?_
        refine t1_Land_inDish hld Ld0 hLd0 _ _ (fun r612 => ?_)
        refine g_iadd (pc1 := 20) d_Land_manyIn_19 rfl ?_
        refine Wp.topi (fun x613 ex613 => ?_)
        refine g_istore_n (pc1 := 21) (lv' := [(0, .ref Ld0), (1, .int p1), (2, .int x613), (3, .int v609)]) d_Land_manyIn_20 rfl rfl (by decide) [1, 2, 0, 3] rfl ?_
        obtain ⟨x614, ex614⟩ : ∃ y : Int32, y = v609 + 1 := ⟨_, rfl⟩
        refine g_iinc (pc1 := 24) (v := x614) (lv' := [(0, .ref Ld0), (1, .int p1), (2, .int x613), (3, .int x614)]) d_Land_manyIn_21 rfl 3 rfl (by rw [ex614]; rfl) (by decide) [1, 2, 3, 0] rfl ?_
        refine g_goto (tgt := 4) d_Land_manyIn_24 (by decide) ?_
        exact ih605 x613 x614 (nn_up (y := (M Ld0 0)) h611 ex614 n610) (md_up h611 ex614 hm606)
  exact LP607 _ 0 0 (by decide) (Nat.lt_succ_self _)
set_option maxHeartbeats 4000000 in
set_option maxRecDepth 20000 in
theorem t1_Land_potForce {l : Launch} {ld : Nat} (hld : isLa ld) {M : gM} {L : gL} {Q : Option Value → gM → gL → gR → Prop} (Ld0 : Nat) (hLd0 : isLa Ld0) (p1 : Int32) (p2 : Int32) (p3 : Int32) (p4 : Int32) (p5 : Int32) (hQ : ∀ (r : Int32) (M' : gM) (L' : gL), Kp S0 M L M' L' → Q (some (.int r)) M' L' (rf ld)) : Tm l y_Land_potForce (0, 0, 447) 447 [.ref Ld0, .int p1, .int p2, .int p3, .int p4, .int p5] M L (rf ld) Q := by
  refine Tm.of (by decide) (Nat.le_of_ble_eq_true rfl) ?_
  show Wp l y_Land_potForce (0, 0, 447) 447 0 0 0 [(0, .ref Ld0), (1, .int p1), (2, .int p2), (3, .int p3), (4, .int p4), (5, .int p5)] [] M L (rf ld) Q
  refine g_aload_n (pc1 := 1) d_Land_potForce_0 rfl 0 rfl ?_
  refine g_getr (pc1 := 4) d_Land_potForce_1 rfl ⟨_, fo_Land_39⟩ (shLa_0 hLd0) (ltLa_0 hLd0) (rfLa_13 ld hLd0) ?_
  refine g_callV0 (pc1 := 7) (As := []) (rest := []) d_Land_potForce_4 rfl mo_Land_89 mi_Law_isTold mv_Law_isTold rfl (shLw_0 (isLw_9 hLd0)) (ltLw_0 (isLw_9 hLd0)) (by decide) rfl rfl (Nat.le_of_ble_eq_true rfl) ?_
  refine t1_Law_isTold hld (Ld0 + 9) (isLw_9 hLd0) (fun r615 hr615 => ?_)
  refine g_if_ne (pc1 := 10) (tgt := 18) d_Land_potForce_7 (by decide) rfl (fun h616 => ?_) (fun h616 => ?_)
  · refine g_aload_n (pc1 := 19) d_Land_potForce_18 rfl 0 rfl ?_
    refine g_getr (pc1 := 22) d_Land_potForce_19 rfl ⟨_, fo_Land_39⟩ (shLa_0 hLd0) (ltLa_0 hLd0) (rfLa_13 ld hLd0) ?_
    refine g_iconst (pc1 := 23) (v := 0) d_Land_potForce_22 rfl (by decide) ?_
    refine g_iload_n (pc1 := 24) d_Land_potForce_23 rfl 2 rfl ?_
    refine g_callV0 (pc1 := 27) (As := [.int 0, .int p2]) (rest := []) d_Land_potForce_24 rfl mo_Land_97 mi_Law_let mv_Law_let rfl (shLw_0 (isLw_9 hLd0)) (ltLw_0 (isLw_9 hLd0)) (by decide) rfl rfl (Nat.le_of_ble_eq_true rfl) ?_
    refine t1_Law_let hld (Ld0 + 9) (isLw_9 hLd0) _ _ (fun  M617 L618 k619 => ?_)
    refine g_aload_n (pc1 := 28) d_Land_potForce_27 rfl 0 rfl ?_
    refine g_getr (pc1 := 31) d_Land_potForce_28 rfl ⟨_, fo_Land_39⟩ (shLa_0 hLd0) (ltLa_0 hLd0) (rfLa_13 ld hLd0) ?_
    refine g_iconst (pc1 := 32) (v := 1) d_Land_potForce_31 rfl (by decide) ?_
    refine g_iload_n (pc1 := 33) d_Land_potForce_32 rfl 3 rfl ?_
    refine g_callV0 (pc1 := 36) (As := [.int 1, .int p3]) (rest := []) d_Land_potForce_33 rfl mo_Land_97 mi_Law_let mv_Law_let rfl (shLw_0 (isLw_9 hLd0)) (ltLw_0 (isLw_9 hLd0)) (by decide) rfl rfl (Nat.le_of_ble_eq_true rfl) ?_
    refine t1_Law_let hld (Ld0 + 9) (isLw_9 hLd0) _ _ (fun  M620 L621 k622 => ?_)
    refine g_aload_n (pc1 := 37) d_Land_potForce_36 rfl 0 rfl ?_
    refine g_getr (pc1 := 40) d_Land_potForce_37 rfl ⟨_, fo_Land_39⟩ (shLa_0 hLd0) (ltLa_0 hLd0) (rfLa_13 ld hLd0) ?_
    refine g_iconst (pc1 := 41) (v := 2) d_Land_potForce_40 rfl (by decide) ?_
    refine g_iload_n (pc1 := 42) d_Land_potForce_41 rfl 1 rfl ?_
    refine g_callV0 (pc1 := 45) (As := [.int 2, .int p1]) (rest := []) d_Land_potForce_42 rfl mo_Land_97 mi_Law_let mv_Law_let rfl (shLw_0 (isLw_9 hLd0)) (ltLw_0 (isLw_9 hLd0)) (by decide) rfl rfl (Nat.le_of_ble_eq_true rfl) ?_
    refine t1_Law_let hld (Ld0 + 9) (isLw_9 hLd0) _ _ (fun  M623 L624 k625 => ?_)
    refine g_aload_n (pc1 := 46) d_Land_potForce_45 rfl 0 rfl ?_
    refine g_getr (pc1 := 49) d_Land_potForce_46 rfl ⟨_, fo_Land_39⟩ (shLa_0 hLd0) (ltLa_0 hLd0) (rfLa_13 ld hLd0) ?_
    refine g_iconst (pc1 := 50) (v := 3) d_Land_potForce_49 rfl (by decide) ?_
    refine g_iload (pc1 := 52) d_Land_potForce_50 rfl 4 rfl ?_
    refine g_callV0 (pc1 := 55) (As := [.int 3, .int p4]) (rest := []) d_Land_potForce_52 rfl mo_Land_97 mi_Law_let mv_Law_let rfl (shLw_0 (isLw_9 hLd0)) (ltLw_0 (isLw_9 hLd0)) (by decide) rfl rfl (Nat.le_of_ble_eq_true rfl) ?_
    refine t1_Law_let hld (Ld0 + 9) (isLw_9 hLd0) _ _ (fun  M626 L627 k628 => ?_)
    refine g_aload_n (pc1 := 56) d_Land_potForce_55 rfl 0 rfl ?_
    refine g_getr (pc1 := 59) d_Land_potForce_56 rfl ⟨_, fo_Land_39⟩ (shLa_0 hLd0) (ltLa_0 hLd0) (rfLa_13 ld hLd0) ?_
    refine g_iconst (pc1 := 60) (v := 4) d_Land_potForce_59 rfl (by decide) ?_
    refine g_iload (pc1 := 62) d_Land_potForce_60 rfl 5 rfl ?_
    refine g_callV0 (pc1 := 65) (As := [.int 4, .int p5]) (rest := []) d_Land_potForce_62 rfl mo_Land_97 mi_Law_let mv_Law_let rfl (shLw_0 (isLw_9 hLd0)) (ltLw_0 (isLw_9 hLd0)) (by decide) rfl rfl (Nat.le_of_ble_eq_true rfl) ?_
    refine t1_Law_let hld (Ld0 + 9) (isLw_9 hLd0) _ _ (fun  M629 L630 k631 => ?_)
    refine g_aload_n (pc1 := 66) d_Land_potForce_65 rfl 0 rfl ?_
    refine g_getr (pc1 := 69) d_Land_potForce_66 rfl ⟨_, fo_Land_39⟩ (shLa_0 hLd0) (ltLa_0 hLd0) (rfLa_13 ld hLd0) ?_
    refine g_callV0 (pc1 := 72) (As := []) (rest := []) d_Land_potForce_69 rfl mo_Land_101 mi_Law_value mv_Law_value rfl (shLw_0 (isLw_9 hLd0)) (ltLw_0 (isLw_9 hLd0)) (by decide) rfl rfl (Nat.le_of_ble_eq_true rfl) ?_
    refine t1_Law_value hld (Ld0 + 9) (isLw_9 hLd0) (fun r632 M633 L634 k635 => ?_)
    refine g_iconst (pc1 := 73) (v := 0) d_Land_potForce_72 rfl (by decide) ?_
    refine g_bipush (pc1 := 75) (v := 99) d_Land_potForce_73 rfl (by decide) ?_
    refine g_callS0 (pc1 := 78) (As := [.int r632, .int 0, .int 99]) (rest := []) d_Land_potForce_75 rfl mo_Land_93 ms_Main_within (by decide) rfl rfl (Nat.le_of_ble_eq_true rfl) ?_
    refine t1_Main_within hld _ _ _ (fun r636 => ?_)
    refine g_ireturn (Or.inl rfl) d_Land_potForce_78 rfl ?_
    exact hQ _ _ _ (Kp.trans (Kp.trans (Kp.trans (Kp.trans (Kp.trans (Kp.trans Kp.rf k619) k622) k625) k628) k631) k635)
  · refine g_iload_n (pc1 := 11) d_Land_potForce_10 rfl 2 rfl ?_
    refine g_iconst (pc1 := 12) (v := 0) d_Land_potForce_11 rfl (by decide) ?_
    refine g_bipush (pc1 := 14) (v := 99) d_Land_potForce_12 rfl (by decide) ?_
    refine g_callS0 (pc1 := 17) (As := [.int p2, .int 0, .int 99]) (rest := []) d_Land_potForce_14 rfl mo_Land_93 ms_Main_within (by decide) rfl rfl (Nat.le_of_ble_eq_true rfl) ?_
    refine t1_Main_within hld _ _ _ (fun r637 => ?_)
    refine g_ireturn (Or.inl rfl) d_Land_potForce_17 rfl ?_
    exact hQ _ _ _ Kp.rf
set_option maxHeartbeats 4000000 in
set_option maxRecDepth 20000 in
theorem t1_Land_priceOf {l : Launch} {ld : Nat} (hld : isLa ld) {M : gM} {L : gL} {Q : Option Value → gM → gL → gR → Prop} (Ld0 : Nat) (hLd0 : isLa Ld0) (p1 : Int32) (hQ : ∀ (r : Int32) , Q (some (.int r)) M L (rf ld)) : Tm l y_Land_priceOf (0, 0, 447) 447 [.ref Ld0, .int p1] M L (rf ld) Q := by
  refine Tm.of (by decide) (Nat.le_of_ble_eq_true rfl) ?_
  show Wp l y_Land_priceOf (0, 0, 447) 447 0 0 0 [(0, .ref Ld0), (1, .int p1)] [] M L (rf ld) Q
  refine g_iconst (pc1 := 1) (v := 0) d_Land_priceOf_0 rfl (by decide) ?_
  refine g_istore_n (pc1 := 2) (lv' := [(0, .ref Ld0), (1, .int p1), (2, .int 0)]) d_Land_priceOf_1 rfl rfl (by decide) [1, 2, 0] rfl ?_
  refine g_iconst (pc1 := 3) (v := 0) d_Land_priceOf_2 rfl (by decide) ?_
  refine g_istore_n (pc1 := 4) (lv' := [(0, .ref Ld0), (1, .int p1), (2, .int 0), (3, .int 0)]) d_Land_priceOf_3 rfl rfl (by decide) [1, 2, 3, 0] rfl ?_
  have LP641 : ∀ (f638 : Nat) (v642 : Int32) (v643 : Int32), ¬ v643 < 0 → ((M Ld0 0).toInt - v643.toInt).toNat < f638 → Wp l y_Land_priceOf (0, 0, 447) 447 0 0 4 [(0, .ref Ld0), (1, .int p1), (2, .int v642), (3, .int v643)] [] M L (rf ld) Q := by
    intro f638
    induction f638 with
    | zero => intro v642 v643 _ hm640; exact absurd hm640 (Nat.not_lt_zero _)
    | succ f638 ih639 =>
      intro v642 v643 n644 hm640
      refine g_iload_n (pc1 := 5) d_Land_priceOf_4 rfl 3 rfl ?_
      refine g_aload_n (pc1 := 6) d_Land_priceOf_5 rfl 0 rfl ?_
      refine g_geti (pc1 := 9) d_Land_priceOf_6 rfl ⟨_, fo_Land_55⟩ (shLa_0 hLd0) (ltLa_0 hLd0) ?_
      refine g_icmp_ge (pc1 := 12) (tgt := 36) d_Land_priceOf_9 (by decide) rfl (fun h645 => ?_) (fun h645 => ?_)
      · refine g_iload_n (pc1 := 37) d_Land_priceOf_36 rfl 2 rfl ?_
        refine g_ireturn (Or.inl rfl) d_Land_priceOf_37 rfl ?_
        exact hQ _
      · refine g_iload_n (pc1 := 13) d_Land_priceOf_12 rfl 2 rfl ?_
        refine g_aload_n (pc1 := 14) d_Land_priceOf_13 rfl 0 rfl ?_
        refine g_iload_n (pc1 := 15) d_Land_priceOf_14 rfl 1 rfl ?_
        refine g_iload_n (pc1 := 16) d_Land_priceOf_15 rfl 3 rfl ?_
        refine g_callV0 (pc1 := 19) (As := [.int p1, .int v643]) (rest := [.int v642]) d_Land_priceOf_16 rfl mo_Land_82 mi_Land_inDish mv_Land_inDish rfl (shLa_0 hLd0) (ltLa_0 hLd0) (by decide) rfl rfl (Nat.le_of_ble_eq_true rfl) ?_
        refine t1_Land_inDish hld Ld0 hLd0 _ _ (fun r646 => ?_)
        refine g_aload_n (pc1 := 20) d_Land_priceOf_19 rfl 0 rfl ?_
        refine g_getr (pc1 := 23) d_Land_priceOf_20 rfl ⟨_, fo_Land_15⟩ (shLa_0 hLd0) (ltLa_0 hLd0) (rfLa_6 ld hLd0) ?_
        refine g_iload_n (pc1 := 24) d_Land_priceOf_23 rfl 3 rfl ?_
        refine g_callS0 (pc1 := 27) (As := [.ref (Ld0 + 2), .int v643]) (rest := [.int r646, .int v642]) d_Land_priceOf_24 rfl mo_Land_78 ms_Main_at (by decide) rfl rfl (Nat.le_of_ble_eq_true rfl) ?_
        refine t1_Main_at hld (Ld0 + 2) (shLa_2 hLd0) (ltLa_2 hLd0) (by decide) _ (fun r647 => ?_)
        refine g_imul (pc1 := 28) d_Land_priceOf_27 rfl ?_
        refine g_iadd (pc1 := 29) d_Land_priceOf_28 rfl ?_
        refine Wp.topi (fun x648 ex648 => ?_)
        refine g_istore_n (pc1 := 30) (lv' := [(0, .ref Ld0), (1, .int p1), (2, .int x648), (3, .int v643)]) d_Land_priceOf_29 rfl rfl (by decide) [1, 2, 0, 3] rfl ?_
        obtain ⟨x649, ex649⟩ : ∃ y : Int32, y = v643 + 1 := ⟨_, rfl⟩
        refine g_iinc (pc1 := 33) (v := x649) (lv' := [(0, .ref Ld0), (1, .int p1), (2, .int x648), (3, .int x649)]) d_Land_priceOf_30 rfl 3 rfl (by rw [ex649]; rfl) (by decide) [1, 2, 3, 0] rfl ?_
        refine g_goto (tgt := 4) d_Land_priceOf_33 (by decide) ?_
        exact ih639 x648 x649 (nn_up (y := (M Ld0 0)) h645 ex649 n644) (md_up h645 ex649 hm640)
  exact LP641 _ 0 0 (by decide) (Nat.lt_succ_self _)
set_option maxHeartbeats 4000000 in
set_option maxRecDepth 20000 in
theorem t1_Land_sumOf {l : Launch} {ld : Nat} (hld : isLa ld) {M : gM} {L : gL} {Q : Option Value → gM → gL → gR → Prop} (Ld0 : Nat) (hLd0 : isLa Ld0) (p1 : Int32) (p2 : Int32) (hQ : ∀ (r : Int32) , Q (some (.int r)) M L (rf ld)) : Tm l y_Land_sumOf (0, 0, 447) 447 [.ref Ld0, .int p1, .int p2] M L (rf ld) Q := by
  refine Tm.of (by decide) (Nat.le_of_ble_eq_true rfl) ?_
  show Wp l y_Land_sumOf (0, 0, 447) 447 0 0 0 [(0, .ref Ld0), (1, .int p1), (2, .int p2)] [] M L (rf ld) Q
  refine g_iconst (pc1 := 1) (v := 0) d_Land_sumOf_0 rfl (by decide) ?_
  refine g_istore_n (pc1 := 2) (lv' := [(0, .ref Ld0), (1, .int p1), (2, .int p2), (3, .int 0)]) d_Land_sumOf_1 rfl rfl (by decide) [1, 2, 3, 0] rfl ?_
  refine g_iconst (pc1 := 3) (v := 0) d_Land_sumOf_2 rfl (by decide) ?_
  refine g_istore (pc1 := 5) (lv' := [(0, .ref Ld0), (1, .int p1), (2, .int p2), (3, .int 0), (4, .int 0)]) d_Land_sumOf_3 rfl (by decide) [1, 2, 3, 4, 0] rfl ?_
  have LP653 : ∀ (f650 : Nat) (v654 : Int32) (v655 : Int32), ¬ v655 < 0 → ((M Ld0 0).toInt - v655.toInt).toNat < f650 → Wp l y_Land_sumOf (0, 0, 447) 447 0 0 5 [(0, .ref Ld0), (1, .int p1), (2, .int p2), (3, .int v654), (4, .int v655)] [] M L (rf ld) Q := by
    intro f650
    induction f650 with
    | zero => intro v654 v655 _ hm652; exact absurd hm652 (Nat.not_lt_zero _)
    | succ f650 ih651 =>
      intro v654 v655 n656 hm652
      refine g_iload (pc1 := 7) d_Land_sumOf_5 rfl 4 rfl ?_
      refine g_aload_n (pc1 := 8) d_Land_sumOf_7 rfl 0 rfl ?_
      refine g_geti (pc1 := 11) d_Land_sumOf_8 rfl ⟨_, fo_Land_55⟩ (shLa_0 hLd0) (ltLa_0 hLd0) ?_
      refine g_icmp_ge (pc1 := 14) (tgt := 38) d_Land_sumOf_11 (by decide) rfl (fun h657 => ?_) (fun h657 => ?_)
      · refine g_iload_n (pc1 := 39) d_Land_sumOf_38 rfl 3 rfl ?_
        refine g_ireturn (Or.inl rfl) d_Land_sumOf_39 rfl ?_
        exact hQ _
      · refine g_iload_n (pc1 := 15) d_Land_sumOf_14 rfl 3 rfl ?_
        refine g_aload_n (pc1 := 16) d_Land_sumOf_15 rfl 0 rfl ?_
        refine g_iload_n (pc1 := 17) d_Land_sumOf_16 rfl 1 rfl ?_
        refine g_iload (pc1 := 19) d_Land_sumOf_17 rfl 4 rfl ?_
        refine g_callV0 (pc1 := 22) (As := [.int p1, .int v655]) (rest := [.int v654]) d_Land_sumOf_19 rfl mo_Land_82 mi_Land_inDish mv_Land_inDish rfl (shLa_0 hLd0) (ltLa_0 hLd0) (by decide) rfl rfl (Nat.le_of_ble_eq_true rfl) ?_
        refine t1_Land_inDish hld Ld0 hLd0 _ _ (fun r658 => ?_)
        refine g_aload_n (pc1 := 23) d_Land_sumOf_22 rfl 0 rfl ?_
        refine g_iload (pc1 := 25) d_Land_sumOf_23 rfl 4 rfl ?_
        refine g_iload_n (pc1 := 26) d_Land_sumOf_25 rfl 2 rfl ?_
        refine g_callV0 (pc1 := 29) (As := [.int v655, .int p2]) (rest := [.int r658, .int v654]) d_Land_sumOf_26 rfl mo_Land_86 mi_Land_broughtBy mv_Land_broughtBy rfl (shLa_0 hLd0) (ltLa_0 hLd0) (by decide) rfl rfl (Nat.le_of_ble_eq_true rfl) ?_
        refine t1_Land_broughtBy hld Ld0 hLd0 _ _ (fun r659 => ?_)
        refine g_imul (pc1 := 30) d_Land_sumOf_29 rfl ?_
        refine g_iadd (pc1 := 31) d_Land_sumOf_30 rfl ?_
        refine Wp.topi (fun x660 ex660 => ?_)
        refine g_istore_n (pc1 := 32) (lv' := [(0, .ref Ld0), (1, .int p1), (2, .int p2), (3, .int x660), (4, .int v655)]) d_Land_sumOf_31 rfl rfl (by decide) [1, 2, 3, 0, 4] rfl ?_
        obtain ⟨x661, ex661⟩ : ∃ y : Int32, y = v655 + 1 := ⟨_, rfl⟩
        refine g_iinc (pc1 := 35) (v := x661) (lv' := [(0, .ref Ld0), (1, .int p1), (2, .int p2), (3, .int x660), (4, .int x661)]) d_Land_sumOf_32 rfl 4 rfl (by rw [ex661]; rfl) (by decide) [1, 2, 3, 4, 0] rfl ?_
        refine g_goto (tgt := 5) d_Land_sumOf_35 (by decide) ?_
        exact ih651 x660 x661 (nn_up (y := (M Ld0 0)) h657 ex661 n656) (md_up h657 ex661 hm652)
  exact LP653 _ 0 0 (by decide) (Nat.lt_succ_self _)
set_option maxHeartbeats 4000000 in
set_option maxRecDepth 20000 in
theorem t1_MenuSearch_mealsIfAllFree {l : Launch} {ld : Nat} (hld : isLa ld) {M : gM} {L : gL} {Q : Option Value → gM → gL → gR → Prop} (p1 : Int32) (hQ : ∀ (r : Int32) , Q (some (.int r)) M L (rf ld)) : Tm l y_MenuSearch_mealsIfAllFree (0, 0, 447) 447 [.ref 396, .int p1] M L (rf ld) Q := by
  refine Tm.of (by decide) (Nat.le_of_ble_eq_true rfl) ?_
  show Wp l y_MenuSearch_mealsIfAllFree (0, 0, 447) 447 0 0 0 [(0, .ref 396), (1, .int p1)] [] M L (rf ld) Q
  refine g_iconst (pc1 := 1) (v := 0) d_MenuSearch_mealsIfAllFree_0 rfl (by decide) ?_
  refine g_istore_n (pc1 := 2) (lv' := [(0, .ref 396), (1, .int p1), (2, .int 0)]) d_MenuSearch_mealsIfAllFree_1 rfl rfl (by decide) [1, 2, 0] rfl ?_
  refine g_iconst (pc1 := 3) (v := 0) d_MenuSearch_mealsIfAllFree_2 rfl (by decide) ?_
  refine g_istore_n (pc1 := 4) (lv' := [(0, .ref 396), (1, .int p1), (2, .int 0), (3, .int 0)]) d_MenuSearch_mealsIfAllFree_3 rfl rfl (by decide) [1, 2, 3, 0] rfl ?_
  refine g_iconst (pc1 := 5) (v := (-1)) d_MenuSearch_mealsIfAllFree_4 rfl (by decide) ?_
  refine Wp.topi (fun x662 ex662 => ?_)
  refine g_istore (pc1 := 7) (lv' := [(0, .ref 396), (1, .int p1), (2, .int 0), (3, .int 0), (4, .int x662)]) d_MenuSearch_mealsIfAllFree_5 rfl (by decide) [1, 2, 3, 4, 0] rfl ?_
  refine g_iconst (pc1 := 8) (v := 0) d_MenuSearch_mealsIfAllFree_7 rfl (by decide) ?_
  refine g_istore (pc1 := 10) (lv' := [(0, .ref 396), (1, .int p1), (2, .int 0), (3, .int 0), (4, .int x662), (5, .int 0)]) d_MenuSearch_mealsIfAllFree_8 rfl (by decide) [1, 2, 3, 4, 5, 0] rfl ?_
  have LP666 : ∀ (f663 : Nat) (v667 : Int32) (v668 : Int32) (v669 : Int32) (v670 : Int32), ¬ v670 < 0 → (p1.toInt - v670.toInt).toNat < f663 → Wp l y_MenuSearch_mealsIfAllFree (0, 0, 447) 447 0 0 10 [(0, .ref 396), (1, .int p1), (2, .int v667), (3, .int v668), (4, .int v669), (5, .int v670)] [] M L (rf ld) Q := by
    intro f663
    induction f663 with
    | zero => intro v667 v668 v669 v670 _ hm665; exact absurd hm665 (Nat.not_lt_zero _)
    | succ f663 ih664 =>
      intro v667 v668 v669 v670 n671 hm665
      refine g_iload (pc1 := 12) d_MenuSearch_mealsIfAllFree_10 rfl 5 rfl ?_
      refine g_iload_n (pc1 := 13) d_MenuSearch_mealsIfAllFree_12 rfl 1 rfl ?_
      refine g_icmp_ge (pc1 := 16) (tgt := 64) d_MenuSearch_mealsIfAllFree_13 (by decide) rfl (fun h672 => ?_) (fun h672 => ?_)
      · refine g_iload_n (pc1 := 65) d_MenuSearch_mealsIfAllFree_64 rfl 2 rfl ?_
        refine g_ireturn (Or.inl rfl) d_MenuSearch_mealsIfAllFree_65 rfl ?_
        exact hQ _
      · refine g_aload_n (pc1 := 17) d_MenuSearch_mealsIfAllFree_16 rfl 0 rfl ?_
        refine g_getr (pc1 := 20) d_MenuSearch_mealsIfAllFree_17 rfl ⟨_, fo_MenuSearch_18⟩ sh_396 (by decide) (rf_396_2 ld) ?_
        refine g_iload (pc1 := 22) d_MenuSearch_mealsIfAllFree_20 rfl 5 rfl ?_
        refine g_callS0 (pc1 := 25) (As := [.ref 399, .int v670]) (rest := []) d_MenuSearch_mealsIfAllFree_22 rfl mo_MenuSearch_75 ms_Main_at (by decide) rfl rfl (Nat.le_of_ble_eq_true rfl) ?_
        refine t1_Main_at hld 399 sh_399 (by decide) (by decide) _ (fun r673 => ?_)
        refine g_istore (pc1 := 27) (lv' := [(0, .ref 396), (1, .int p1), (2, .int v667), (3, .int v668), (4, .int v669), (5, .int v670), (6, .int r673)]) d_MenuSearch_mealsIfAllFree_25 rfl (by decide) [1, 2, 3, 4, 5, 6, 0] rfl ?_
        refine g_iload (pc1 := 29) d_MenuSearch_mealsIfAllFree_27 rfl 6 rfl ?_
        refine g_if_le (pc1 := 32) (tgt := 44) d_MenuSearch_mealsIfAllFree_29 (by decide) rfl (fun h674 => ?_) (fun h674 => ?_)
        · refine g_aload_n (pc1 := 45) d_MenuSearch_mealsIfAllFree_44 rfl 0 rfl ?_
          refine g_iload (pc1 := 47) d_MenuSearch_mealsIfAllFree_45 rfl 5 rfl ?_
          refine g_iload_n (pc1 := 48) d_MenuSearch_mealsIfAllFree_47 rfl 3 rfl ?_
          refine g_iload (pc1 := 50) d_MenuSearch_mealsIfAllFree_48 rfl 4 rfl ?_
          refine g_callV0 (pc1 := 53) (As := [.int v670, .int v668, .int v669]) (rest := []) d_MenuSearch_mealsIfAllFree_50 rfl mo_MenuSearch_79 mi_MenuSearch_isFree mv_MenuSearch_isFree rfl sh_396 (by decide) (by decide) rfl rfl (Nat.le_of_ble_eq_true rfl) ?_
          refine t1_MenuSearch_isFree hld _ _ _ (fun r675 hr675 => ?_)
          refine g_if_ne (pc1 := 56) (tgt := 58) d_MenuSearch_mealsIfAllFree_53 (by decide) rfl (fun h676 => ?_) (fun h676 => ?_)
          · obtain ⟨x677, ex677⟩ : ∃ y : Int32, y = v670 + 1 := ⟨_, rfl⟩
            refine g_iinc (pc1 := 61) (v := x677) (lv' := [(0, .ref 396), (1, .int p1), (2, .int v667), (3, .int v668), (4, .int v669), (5, .int x677), (6, .int r673)]) d_MenuSearch_mealsIfAllFree_58 rfl 5 rfl (by rw [ex677]; rfl) (by decide) [1, 2, 3, 4, 5, 0, 6] rfl ?_
            refine g_goto (tgt := 10) d_MenuSearch_mealsIfAllFree_61 (by decide) ?_
            refine Wp.loc (lv' := [(0, .ref 396), (1, .int p1), (2, .int v667), (3, .int v668), (4, .int v669), (5, .int x677)]) [0, 1, 2, 3, 4, 5] rfl ?_
            exact ih664 v667 v668 v669 x677 (nn_up (y := p1) h672 ex677 n671) (md_up h672 ex677 hm665)
          · refine g_iconst (pc1 := 57) (v := (-1)) d_MenuSearch_mealsIfAllFree_56 rfl (by decide) ?_
            refine g_ireturn (Or.inl rfl) d_MenuSearch_mealsIfAllFree_57 rfl ?_
            exact hQ _
        · obtain ⟨x678, ex678⟩ : ∃ y : Int32, y = v667 + 1 := ⟨_, rfl⟩
          refine g_iinc (pc1 := 35) (v := x678) (lv' := [(0, .ref 396), (1, .int p1), (2, .int x678), (3, .int v668), (4, .int v669), (5, .int v670), (6, .int r673)]) d_MenuSearch_mealsIfAllFree_32 rfl 2 rfl (by rw [ex678]; rfl) (by decide) [1, 2, 0, 3, 4, 5, 6] rfl ?_
          refine g_iload (pc1 := 37) d_MenuSearch_mealsIfAllFree_35 rfl 5 rfl ?_
          refine g_istore_n (pc1 := 38) (lv' := [(0, .ref 396), (1, .int p1), (2, .int x678), (3, .int v670), (4, .int v669), (5, .int v670), (6, .int r673)]) d_MenuSearch_mealsIfAllFree_37 rfl rfl (by decide) [1, 2, 3, 0, 4, 5, 6] rfl ?_
          refine g_iload (pc1 := 40) d_MenuSearch_mealsIfAllFree_38 rfl 6 rfl ?_
          refine g_iconst (pc1 := 41) (v := 1) d_MenuSearch_mealsIfAllFree_40 rfl (by decide) ?_
          refine g_isub (pc1 := 42) d_MenuSearch_mealsIfAllFree_41 rfl ?_
          refine Wp.topi (fun x679 ex679 => ?_)
          refine g_istore (pc1 := 44) (lv' := [(0, .ref 396), (1, .int p1), (2, .int x678), (3, .int v670), (4, .int x679), (5, .int v670), (6, .int r673)]) d_MenuSearch_mealsIfAllFree_42 rfl (by decide) [1, 2, 3, 4, 0, 5, 6] rfl ?_
          refine g_aload_n (pc1 := 45) d_MenuSearch_mealsIfAllFree_44 rfl 0 rfl ?_
          refine g_iload (pc1 := 47) d_MenuSearch_mealsIfAllFree_45 rfl 5 rfl ?_
          refine g_iload_n (pc1 := 48) d_MenuSearch_mealsIfAllFree_47 rfl 3 rfl ?_
          refine g_iload (pc1 := 50) d_MenuSearch_mealsIfAllFree_48 rfl 4 rfl ?_
          refine g_callV0 (pc1 := 53) (As := [.int v670, .int v670, .int x679]) (rest := []) d_MenuSearch_mealsIfAllFree_50 rfl mo_MenuSearch_79 mi_MenuSearch_isFree mv_MenuSearch_isFree rfl sh_396 (by decide) (by decide) rfl rfl (Nat.le_of_ble_eq_true rfl) ?_
          refine t1_MenuSearch_isFree hld _ _ _ (fun r680 hr680 => ?_)
          refine g_if_ne (pc1 := 56) (tgt := 58) d_MenuSearch_mealsIfAllFree_53 (by decide) rfl (fun h681 => ?_) (fun h681 => ?_)
          · obtain ⟨x682, ex682⟩ : ∃ y : Int32, y = v670 + 1 := ⟨_, rfl⟩
            refine g_iinc (pc1 := 61) (v := x682) (lv' := [(0, .ref 396), (1, .int p1), (2, .int x678), (3, .int v670), (4, .int x679), (5, .int x682), (6, .int r673)]) d_MenuSearch_mealsIfAllFree_58 rfl 5 rfl (by rw [ex682]; rfl) (by decide) [1, 2, 3, 4, 5, 0, 6] rfl ?_
            refine g_goto (tgt := 10) d_MenuSearch_mealsIfAllFree_61 (by decide) ?_
            refine Wp.loc (lv' := [(0, .ref 396), (1, .int p1), (2, .int x678), (3, .int v670), (4, .int x679), (5, .int x682)]) [0, 1, 2, 3, 4, 5] rfl ?_
            exact ih664 x678 v670 x679 x682 (nn_up (y := p1) h672 ex682 n671) (md_up h672 ex682 hm665)
          · refine g_iconst (pc1 := 57) (v := (-1)) d_MenuSearch_mealsIfAllFree_56 rfl (by decide) ?_
            refine g_ireturn (Or.inl rfl) d_MenuSearch_mealsIfAllFree_57 rfl ?_
            exact hQ _
  exact LP666 _ 0 0 x662 0 (by decide) (Nat.lt_succ_self _)
set_option maxHeartbeats 4000000 in
set_option maxRecDepth 20000 in
theorem t1_Past_keep {l : Launch} {ld : Nat} (hld : isLa ld) {M : gM} {L : gL} {Q : Option Value → gM → gL → gR → Prop} (X1 : Nat) (hX1 : isSt X1) (hQ : ∀ (M' : gM) (L' : gL), Kp S1 M L M' L' → Q none M' L' (rf ld)) : Tm l y_Past_keep (0, 0, 447) 447 [.ref 78, .ref X1] M L (rf ld) Q := by
  refine Tm.of (by decide) (Nat.le_of_ble_eq_true rfl) ?_
  show Wp l y_Past_keep (0, 0, 447) 447 0 0 0 [(0, .ref 78), (1, .ref X1)] [] M L (rf ld) Q
  refine g_aload_n (pc1 := 1) d_Past_keep_0 rfl 0 rfl ?_
  refine g_geti (pc1 := 4) d_Past_keep_1 rfl ⟨_, fo_Past_18⟩ sh_78 (by decide) ?_
  refine g_if_lt (pc1 := 7) (tgt := 31) d_Past_keep_4 (by decide) rfl (fun h683 => ?_) (fun h683 => ?_)
  · refine g_return rfl d_Past_keep_31 rfl ?_
    exact hQ _ _ Kp.rf
  · refine g_aload_n (pc1 := 8) d_Past_keep_7 rfl 0 rfl ?_
    refine g_geti (pc1 := 11) d_Past_keep_8 rfl ⟨_, fo_Past_18⟩ sh_78 (by decide) ?_
    refine g_aload_n (pc1 := 12) d_Past_keep_11 rfl 0 rfl ?_
    refine g_getr (pc1 := 15) d_Past_keep_12 rfl ⟨_, fo_Past_11⟩ sh_78 (by decide) (rf_78_0 ld) ?_
    refine g_alen (pc1 := 16) (v := 40) d_Past_keep_15 rfl sh_79 (by decide) (by decide) (by decide) (by decide) ?_
    refine g_icmp_ge (pc1 := 19) (tgt := 31) d_Past_keep_16 (by decide) rfl (fun h684 => ?_) (fun h684 => ?_)
    · refine g_return rfl d_Past_keep_31 rfl ?_
      exact hQ _ _ Kp.rf
    · refine g_aload_n (pc1 := 20) d_Past_keep_19 rfl 0 rfl ?_
      refine g_getr (pc1 := 23) d_Past_keep_20 rfl ⟨_, fo_Past_11⟩ sh_78 (by decide) (rf_78_0 ld) ?_
      refine g_aload_n (pc1 := 24) d_Past_keep_23 rfl 0 rfl ?_
      refine g_geti (pc1 := 27) d_Past_keep_24 rfl ⟨_, fo_Past_18⟩ sh_78 (by decide) ?_
      obtain ⟨X685, hX685, rX685⟩ := rfArr_79 ld (vin_of h683 h684 (by decide))
      refine g_aald (pc1 := 28) d_Past_keep_27 rfl sh_79 (by decide) (vin_of h683 h684 (by decide)) rX685 ?_
      refine g_nonnull (tgt := 32) d_Past_keep_28 (by decide) ?_
      refine g_aload_n (pc1 := 33) d_Past_keep_32 rfl 0 rfl ?_
      refine g_getr (pc1 := 36) d_Past_keep_33 rfl ⟨_, fo_Past_11⟩ sh_78 (by decide) (rf_78_0 ld) ?_
      refine g_aload_n (pc1 := 37) d_Past_keep_36 rfl 0 rfl ?_
      refine g_geti (pc1 := 40) d_Past_keep_37 rfl ⟨_, fo_Past_18⟩ sh_78 (by decide) ?_
      obtain ⟨X686, hX686, rX686⟩ := rfArr_79 ld (vin_of h683 h684 (by decide))
      refine g_aald (pc1 := 41) d_Past_keep_40 rfl sh_79 (by decide) (vin_of h683 h684 (by decide)) rX686 ?_
      refine g_aload_n (pc1 := 42) d_Past_keep_41 rfl 1 rfl ?_
      refine g_callV0 (pc1 := 45) (As := [.ref X1]) (rest := []) d_Past_keep_42 rfl mo_Past_25 mi_State_copyFrom mv_State_copyFrom rfl (shSt_0 hX686) (ltSt_0 hX686) (by decide) rfl rfl (Nat.le_of_ble_eq_true rfl) ?_
      refine t1_State_copyFrom hld X686 hX686 X1 hX1 (fun  M687 L688 k689 => ?_)
      refine g_aload_n (pc1 := 46) d_Past_keep_45 rfl 0 rfl ?_
      refine g_aload_n (pc1 := 47) d_Past_keep_46 rfl 0 rfl ?_
      refine g_geti (pc1 := 50) d_Past_keep_47 rfl ⟨_, fo_Past_18⟩ sh_78 (by decide) ?_
      refine g_iconst (pc1 := 51) (v := 1) d_Past_keep_50 rfl (by decide) ?_
      refine g_iadd (pc1 := 52) d_Past_keep_51 rfl ?_
      refine g_bipush (pc1 := 54) (v := 40) d_Past_keep_52 rfl (by decide) ?_
      refine g_icmp_ge (pc1 := 57) (tgt := 66) d_Past_keep_54 (by decide) rfl (fun h690 => ?_) (fun h690 => ?_)
      · refine g_iconst (pc1 := 67) (v := 0) d_Past_keep_66 rfl (by decide) ?_
        refine g_puti (pc1 := 70) d_Past_keep_67 rfl fo_Past_18 (po_7_1 _) sh_78 (by decide) ?_
        refine Wp.topM (fun M691 eM691 => ?_)
        refine g_aload_n (pc1 := 71) d_Past_keep_70 rfl 0 rfl ?_
        refine g_bipush (pc1 := 73) (v := 40) d_Past_keep_71 rfl (by decide) ?_
        refine g_aload_n (pc1 := 74) d_Past_keep_73 rfl 0 rfl ?_
        refine g_geti (pc1 := 77) d_Past_keep_74 rfl ⟨_, fo_Past_22⟩ sh_78 (by decide) ?_
        refine g_iconst (pc1 := 78) (v := 1) d_Past_keep_77 rfl (by decide) ?_
        refine g_iadd (pc1 := 79) d_Past_keep_78 rfl ?_
        refine g_mmin (pc1 := 82) d_Past_keep_79 rfl mm_Past_29 (by decide) ⟨Nat.le_refl 0, Nat.le_refl 0⟩ (Nat.le_of_ble_eq_true rfl) ?_
        refine g_puti (pc1 := 85) d_Past_keep_82 rfl fo_Past_22 (po_7_2 _) sh_78 (by decide) ?_
        refine Wp.topM (fun M692 eM692 => ?_)
        refine g_return rfl d_Past_keep_85 rfl ?_
        exact hQ _ _ (Kp.wM (Kp.wM (Kp.trans Kp.rf k689) rfl eM691) rfl eM692)
      · refine g_aload_n (pc1 := 58) d_Past_keep_57 rfl 0 rfl ?_
        refine g_geti (pc1 := 61) d_Past_keep_58 rfl ⟨_, fo_Past_18⟩ sh_78 (by decide) ?_
        refine g_iconst (pc1 := 62) (v := 1) d_Past_keep_61 rfl (by decide) ?_
        refine g_iadd (pc1 := 63) d_Past_keep_62 rfl ?_
        refine g_goto (tgt := 67) d_Past_keep_63 (by decide) ?_
        refine g_puti (pc1 := 70) d_Past_keep_67 rfl fo_Past_18 (po_7_1 _) sh_78 (by decide) ?_
        refine Wp.topM (fun M693 eM693 => ?_)
        refine g_aload_n (pc1 := 71) d_Past_keep_70 rfl 0 rfl ?_
        refine g_bipush (pc1 := 73) (v := 40) d_Past_keep_71 rfl (by decide) ?_
        refine g_aload_n (pc1 := 74) d_Past_keep_73 rfl 0 rfl ?_
        refine g_geti (pc1 := 77) d_Past_keep_74 rfl ⟨_, fo_Past_22⟩ sh_78 (by decide) ?_
        refine g_iconst (pc1 := 78) (v := 1) d_Past_keep_77 rfl (by decide) ?_
        refine g_iadd (pc1 := 79) d_Past_keep_78 rfl ?_
        refine g_mmin (pc1 := 82) d_Past_keep_79 rfl mm_Past_29 (by decide) ⟨Nat.le_refl 0, Nat.le_refl 0⟩ (Nat.le_of_ble_eq_true rfl) ?_
        refine g_puti (pc1 := 85) d_Past_keep_82 rfl fo_Past_22 (po_7_2 _) sh_78 (by decide) ?_
        refine Wp.topM (fun M694 eM694 => ?_)
        refine g_return rfl d_Past_keep_85 rfl ?_
        exact hQ _ _ (Kp.wM (Kp.wM (Kp.trans Kp.rf k689) rfl eM693) rfl eM694)
set_option maxHeartbeats 4000000 in
set_option maxRecDepth 20000 in
theorem t1_Past_takeBack {l : Launch} {ld : Nat} (hld : isLa ld) {M : gM} {L : gL} {Q : Option Value → gM → gL → gR → Prop} (X1 : Nat) (hX1 : isSt X1) (hQ : ∀ (r : Int32) (M' : gM) (L' : gL), (r = 0 ∨ r = 1) → Kp S1 M L M' L' → Q (some (.int r)) M' L' (rf ld)) : Tm l y_Past_takeBack (0, 0, 447) 447 [.ref 78, .ref X1] M L (rf ld) Q := by
  refine Tm.of (by decide) (Nat.le_of_ble_eq_true rfl) ?_
  show Wp l y_Past_takeBack (0, 0, 447) 447 0 0 0 [(0, .ref 78), (1, .ref X1)] [] M L (rf ld) Q
  refine g_aload_n (pc1 := 1) d_Past_takeBack_0 rfl 0 rfl ?_
  refine g_geti (pc1 := 4) d_Past_takeBack_1 rfl ⟨_, fo_Past_18⟩ sh_78 (by decide) ?_
  refine g_if_le (pc1 := 7) (tgt := 16) d_Past_takeBack_4 (by decide) rfl (fun h695 => ?_) (fun h695 => ?_)
  · refine g_bipush (pc1 := 18) (v := 39) d_Past_takeBack_16 rfl (by decide) ?_
    refine g_istore_n (pc1 := 19) (lv' := [(0, .ref 78), (1, .ref X1), (2, .int 39)]) d_Past_takeBack_18 rfl rfl (by decide) [1, 2, 0] rfl ?_
    refine g_aload_n (pc1 := 20) d_Past_takeBack_19 rfl 0 rfl ?_
    refine g_geti (pc1 := 23) d_Past_takeBack_20 rfl ⟨_, fo_Past_22⟩ sh_78 (by decide) ?_
    refine g_if_eq (pc1 := 26) (tgt := 44) d_Past_takeBack_23 (by decide) rfl (fun h696 => ?_) (fun h696 => ?_)
    · refine g_iconst (pc1 := 45) (v := 0) d_Past_takeBack_44 rfl (by decide) ?_
      refine g_ireturn (Or.inr ⟨rfl, rfl⟩) d_Past_takeBack_45 rfl ?_
      exact hQ _ _ _ (Or.inl rfl) Kp.rf
    · refine g_iload_n (pc1 := 27) d_Past_takeBack_26 rfl 2 rfl ?_
      refine g_aload_n (pc1 := 28) d_Past_takeBack_27 rfl 0 rfl ?_
      refine g_getr (pc1 := 31) d_Past_takeBack_28 rfl ⟨_, fo_Past_11⟩ sh_78 (by decide) (rf_78_0 ld) ?_
      refine g_alen (pc1 := 32) (v := 40) d_Past_takeBack_31 rfl sh_79 (by decide) (by decide) (by decide) (by decide) ?_
      refine g_icmp_ge (pc1 := 35) (tgt := 44) d_Past_takeBack_32 (by decide) rfl (fun h697 => ?_) (fun h697 => ?_)
      · refine g_iconst (pc1 := 45) (v := 0) d_Past_takeBack_44 rfl (by decide) ?_
        refine g_ireturn (Or.inr ⟨rfl, rfl⟩) d_Past_takeBack_45 rfl ?_
        exact hQ _ _ _ (Or.inl rfl) Kp.rf
      · refine g_aload_n (pc1 := 36) d_Past_takeBack_35 rfl 0 rfl ?_
        refine g_getr (pc1 := 39) d_Past_takeBack_36 rfl ⟨_, fo_Past_11⟩ sh_78 (by decide) (rf_78_0 ld) ?_
        refine g_iload_n (pc1 := 40) d_Past_takeBack_39 rfl 2 rfl ?_
        obtain ⟨X698, hX698, rX698⟩ := rfArr_79 ld (vin_lit (x := 39) (by decide))
        refine g_aald (pc1 := 41) d_Past_takeBack_40 rfl sh_79 (by decide) (vin_lit (x := 39) (by decide)) rX698 ?_
        refine g_nonnull (tgt := 46) d_Past_takeBack_41 (by decide) ?_
        refine g_aload_n (pc1 := 47) d_Past_takeBack_46 rfl 1 rfl ?_
        refine g_aload_n (pc1 := 48) d_Past_takeBack_47 rfl 0 rfl ?_
        refine g_getr (pc1 := 51) d_Past_takeBack_48 rfl ⟨_, fo_Past_11⟩ sh_78 (by decide) (rf_78_0 ld) ?_
        refine g_iload_n (pc1 := 52) d_Past_takeBack_51 rfl 2 rfl ?_
        obtain ⟨X699, hX699, rX699⟩ := rfArr_79 ld (vin_lit (x := 39) (by decide))
        refine g_aald (pc1 := 53) d_Past_takeBack_52 rfl sh_79 (by decide) (vin_lit (x := 39) (by decide)) rX699 ?_
        refine g_callV0 (pc1 := 56) (As := [.ref X699]) (rest := []) d_Past_takeBack_53 rfl mo_Past_25 mi_State_copyFrom mv_State_copyFrom rfl (shSt_0 hX1) (ltSt_0 hX1) (by decide) rfl rfl (Nat.le_of_ble_eq_true rfl) ?_
        refine t1_State_copyFrom hld X1 hX1 X699 hX699 (fun  M700 L701 k702 => ?_)
        refine g_aload_n (pc1 := 57) d_Past_takeBack_56 rfl 0 rfl ?_
        refine g_iload_n (pc1 := 58) d_Past_takeBack_57 rfl 2 rfl ?_
        refine g_puti (pc1 := 61) d_Past_takeBack_58 rfl fo_Past_18 (po_7_1 _) sh_78 (by decide) ?_
        refine Wp.topM (fun M703 eM703 => ?_)
        refine g_aload_n (pc1 := 62) d_Past_takeBack_61 rfl 0 rfl ?_
        refine g_dup (pc1 := 63) d_Past_takeBack_62 rfl rfl ?_
        refine g_geti (pc1 := 66) d_Past_takeBack_63 rfl ⟨_, fo_Past_22⟩ sh_78 (by decide) ?_
        refine g_iconst (pc1 := 67) (v := 1) d_Past_takeBack_66 rfl (by decide) ?_
        refine g_isub (pc1 := 68) d_Past_takeBack_67 rfl ?_
        refine g_puti (pc1 := 71) d_Past_takeBack_68 rfl fo_Past_22 (po_7_2 _) sh_78 (by decide) ?_
        refine Wp.topM (fun M704 eM704 => ?_)
        refine g_iconst (pc1 := 72) (v := 1) d_Past_takeBack_71 rfl (by decide) ?_
        refine g_ireturn (Or.inr ⟨rfl, rfl⟩) d_Past_takeBack_72 rfl ?_
        exact hQ _ _ _ (Or.inr rfl) (Kp.wM (Kp.wM (Kp.trans Kp.rf k702) rfl eM703) rfl eM704)
  · refine g_aload_n (pc1 := 8) d_Past_takeBack_7 rfl 0 rfl ?_
    refine g_geti (pc1 := 11) d_Past_takeBack_8 rfl ⟨_, fo_Past_18⟩ sh_78 (by decide) ?_
    refine g_iconst (pc1 := 12) (v := 1) d_Past_takeBack_11 rfl (by decide) ?_
    refine g_isub (pc1 := 13) d_Past_takeBack_12 rfl ?_
    refine g_goto (tgt := 18) d_Past_takeBack_13 (by decide) ?_
    refine Wp.topi (fun x705 ex705 => ?_)
    refine g_istore_n (pc1 := 19) (lv' := [(0, .ref 78), (1, .ref X1), (2, .int x705)]) d_Past_takeBack_18 rfl rfl (by decide) [1, 2, 0] rfl ?_
    refine g_aload_n (pc1 := 20) d_Past_takeBack_19 rfl 0 rfl ?_
    refine g_geti (pc1 := 23) d_Past_takeBack_20 rfl ⟨_, fo_Past_22⟩ sh_78 (by decide) ?_
    refine g_if_eq (pc1 := 26) (tgt := 44) d_Past_takeBack_23 (by decide) rfl (fun h706 => ?_) (fun h706 => ?_)
    · refine g_iconst (pc1 := 45) (v := 0) d_Past_takeBack_44 rfl (by decide) ?_
      refine g_ireturn (Or.inr ⟨rfl, rfl⟩) d_Past_takeBack_45 rfl ?_
      exact hQ _ _ _ (Or.inl rfl) Kp.rf
    · refine g_iload_n (pc1 := 27) d_Past_takeBack_26 rfl 2 rfl ?_
      refine g_aload_n (pc1 := 28) d_Past_takeBack_27 rfl 0 rfl ?_
      refine g_getr (pc1 := 31) d_Past_takeBack_28 rfl ⟨_, fo_Past_11⟩ sh_78 (by decide) (rf_78_0 ld) ?_
      refine g_alen (pc1 := 32) (v := 40) d_Past_takeBack_31 rfl sh_79 (by decide) (by decide) (by decide) (by decide) ?_
      refine g_icmp_ge (pc1 := 35) (tgt := 44) d_Past_takeBack_32 (by decide) rfl (fun h707 => ?_) (fun h707 => ?_)
      · refine g_iconst (pc1 := 45) (v := 0) d_Past_takeBack_44 rfl (by decide) ?_
        refine g_ireturn (Or.inr ⟨rfl, rfl⟩) d_Past_takeBack_45 rfl ?_
        exact hQ _ _ _ (Or.inl rfl) Kp.rf
      · refine g_aload_n (pc1 := 36) d_Past_takeBack_35 rfl 0 rfl ?_
        refine g_getr (pc1 := 39) d_Past_takeBack_36 rfl ⟨_, fo_Past_11⟩ sh_78 (by decide) (rf_78_0 ld) ?_
        refine g_iload_n (pc1 := 40) d_Past_takeBack_39 rfl 2 rfl ?_
        obtain ⟨X708, hX708, rX708⟩ := rfArr_79 ld (vin_of (by rw [ex705]; exact nn_sub1 h695) h707 (by decide))
        refine g_aald (pc1 := 41) d_Past_takeBack_40 rfl sh_79 (by decide) (vin_of (by rw [ex705]; exact nn_sub1 h695) h707 (by decide)) rX708 ?_
        refine g_nonnull (tgt := 46) d_Past_takeBack_41 (by decide) ?_
        refine g_aload_n (pc1 := 47) d_Past_takeBack_46 rfl 1 rfl ?_
        refine g_aload_n (pc1 := 48) d_Past_takeBack_47 rfl 0 rfl ?_
        refine g_getr (pc1 := 51) d_Past_takeBack_48 rfl ⟨_, fo_Past_11⟩ sh_78 (by decide) (rf_78_0 ld) ?_
        refine g_iload_n (pc1 := 52) d_Past_takeBack_51 rfl 2 rfl ?_
        obtain ⟨X709, hX709, rX709⟩ := rfArr_79 ld (vin_of (by rw [ex705]; exact nn_sub1 h695) h707 (by decide))
        refine g_aald (pc1 := 53) d_Past_takeBack_52 rfl sh_79 (by decide) (vin_of (by rw [ex705]; exact nn_sub1 h695) h707 (by decide)) rX709 ?_
        refine g_callV0 (pc1 := 56) (As := [.ref X709]) (rest := []) d_Past_takeBack_53 rfl mo_Past_25 mi_State_copyFrom mv_State_copyFrom rfl (shSt_0 hX1) (ltSt_0 hX1) (by decide) rfl rfl (Nat.le_of_ble_eq_true rfl) ?_
        refine t1_State_copyFrom hld X1 hX1 X709 hX709 (fun  M710 L711 k712 => ?_)
        refine g_aload_n (pc1 := 57) d_Past_takeBack_56 rfl 0 rfl ?_
        refine g_iload_n (pc1 := 58) d_Past_takeBack_57 rfl 2 rfl ?_
        refine g_puti (pc1 := 61) d_Past_takeBack_58 rfl fo_Past_18 (po_7_1 _) sh_78 (by decide) ?_
        refine Wp.topM (fun M713 eM713 => ?_)
        refine g_aload_n (pc1 := 62) d_Past_takeBack_61 rfl 0 rfl ?_
        refine g_dup (pc1 := 63) d_Past_takeBack_62 rfl rfl ?_
        refine g_geti (pc1 := 66) d_Past_takeBack_63 rfl ⟨_, fo_Past_22⟩ sh_78 (by decide) ?_
        refine g_iconst (pc1 := 67) (v := 1) d_Past_takeBack_66 rfl (by decide) ?_
        refine g_isub (pc1 := 68) d_Past_takeBack_67 rfl ?_
        refine g_puti (pc1 := 71) d_Past_takeBack_68 rfl fo_Past_22 (po_7_2 _) sh_78 (by decide) ?_
        refine Wp.topM (fun M714 eM714 => ?_)
        refine g_iconst (pc1 := 72) (v := 1) d_Past_takeBack_71 rfl (by decide) ?_
        refine g_ireturn (Or.inr ⟨rfl, rfl⟩) d_Past_takeBack_72 rfl ?_
        exact hQ _ _ _ (Or.inr rfl) (Kp.wM (Kp.wM (Kp.trans Kp.rf k712) rfl eM713) rfl eM714)
set_option maxHeartbeats 4000000 in
set_option maxRecDepth 20000 in
theorem t1_PotSearch_stepDown {l : Launch} {ld : Nat} (hld : isLa ld) {M : gM} {L : gL} {Q : Option Value → gM → gL → gR → Prop} (X1 : Nat) (hX1 : isSt X1) (hQ : ∀ (M' : gM) (L' : gL), Kp S1 M L M' L' → Q none M' L' (rf ld)) : Tm l y_PotSearch_stepDown (0, 0, 447) 447 [.ref 391, .ref X1] M L (rf ld) Q := by
  refine Tm.of (by decide) (Nat.le_of_ble_eq_true rfl) ?_
  show Wp l y_PotSearch_stepDown (0, 0, 447) 447 0 0 0 [(0, .ref 391), (1, .ref X1)] [] M L (rf ld) Q
  refine g_iconst (pc1 := 1) (v := 5) d_PotSearch_stepDown_0 rfl (by decide) ?_
  refine g_istore_n (pc1 := 2) (lv' := [(0, .ref 391), (1, .ref X1), (2, .int 5)]) d_PotSearch_stepDown_1 rfl rfl (by decide) [1, 2, 0] rfl ?_
  have LP718 : ∀ (f715 : Nat) (v719 : Int32) (M720 : gM) (L721 : gL), Kp S1 M L M720 L721 → (v719.toInt + 1).toNat < f715 → Wp l y_PotSearch_stepDown (0, 0, 447) 447 0 0 2 [(0, .ref 391), (1, .ref X1), (2, .int v719)] [] M720 L721 (rf ld) Q := by
    intro f715
    induction f715 with
    | zero => intro v719 M720 L721 _ hm717; exact absurd hm717 (Nat.not_lt_zero _)
    | succ f715 ih716 =>
      intro v719 M720 L721 k722 hm717
      refine g_iload_n (pc1 := 3) d_PotSearch_stepDown_2 rfl 2 rfl ?_
      refine g_if_lt (pc1 := 6) (tgt := 54) d_PotSearch_stepDown_3 (by decide) rfl (fun h723 => ?_) (fun h723 => ?_)
      · refine g_return rfl d_PotSearch_stepDown_54 rfl ?_
        exact hQ _ _ k722
      · refine g_aload_n (pc1 := 7) d_PotSearch_stepDown_6 rfl 0 rfl ?_
        refine g_getr (pc1 := 10) d_PotSearch_stepDown_7 rfl ⟨_, fo_PotSearch_15⟩ sh_391 (by decide) (rf_391_1 ld) ?_
        refine g_iload_n (pc1 := 11) d_PotSearch_stepDown_10 rfl 2 rfl ?_
        refine g_callS0 (pc1 := 14) (As := [.ref 393, .int v719]) (rest := []) d_PotSearch_stepDown_11 rfl mo_PotSearch_75 ms_Main_at (by decide) rfl rfl (Nat.le_of_ble_eq_true rfl) ?_
        refine t1_Main_at hld 393 sh_393 (by decide) (by decide) _ (fun r724 => ?_)
        refine g_istore_n (pc1 := 15) (lv' := [(0, .ref 391), (1, .ref X1), (2, .int v719), (3, .int r724)]) d_PotSearch_stepDown_14 rfl rfl (by decide) [1, 2, 3, 0] rfl ?_
        refine g_iload_n (pc1 := 16) d_PotSearch_stepDown_15 rfl 3 rfl ?_
        refine g_if_le (pc1 := 19) (tgt := 48) d_PotSearch_stepDown_16 (by decide) rfl (fun h725 => ?_) (fun h725 => ?_)
        · obtain ⟨x726, ex726⟩ : ∃ y : Int32, y = v719 + (-1) := ⟨_, rfl⟩
          refine g_iinc (pc1 := 51) (v := x726) (lv' := [(0, .ref 391), (1, .ref X1), (2, .int x726), (3, .int r724)]) d_PotSearch_stepDown_48 rfl 2 rfl (by rw [ex726]; rfl) (by decide) [1, 2, 0, 3] rfl ?_
          refine g_goto (tgt := 2) d_PotSearch_stepDown_51 (by decide) ?_
          refine Wp.loc (lv' := [(0, .ref 391), (1, .ref X1), (2, .int x726)]) [0, 1, 2] rfl ?_
          exact ih716 x726 M720 L721 k722 (md_dn h723 ex726 hm717)
        · refine g_aload_n (pc1 := 20) d_PotSearch_stepDown_19 rfl 0 rfl ?_
          refine g_getr (pc1 := 23) d_PotSearch_stepDown_20 rfl ⟨_, fo_PotSearch_15⟩ sh_391 (by decide) (rf_391_1 ld) ?_
          refine g_iload_n (pc1 := 24) d_PotSearch_stepDown_23 rfl 2 rfl ?_
          refine g_iload_n (pc1 := 25) d_PotSearch_stepDown_24 rfl 3 rfl ?_
          refine g_iconst (pc1 := 26) (v := 1) d_PotSearch_stepDown_25 rfl (by decide) ?_
          refine g_isub (pc1 := 27) d_PotSearch_stepDown_26 rfl ?_
          refine g_callS0 (pc1 := 30) (As := [.ref 393, .int v719, .int (r724 - 1)]) (rest := []) d_PotSearch_stepDown_27 rfl mo_PotSearch_24 ms_Main_put (by decide) rfl rfl (Nat.le_of_ble_eq_true rfl) ?_
          refine t1_Main_put hld 393 sh_393 (by decide) (by decide) _ _ (fun  M727 L728 k729 => ?_)
          refine g_aload_n (pc1 := 31) d_PotSearch_stepDown_30 rfl 0 rfl ?_
          refine g_aload_n (pc1 := 32) d_PotSearch_stepDown_31 rfl 1 rfl ?_
          refine g_iload_n (pc1 := 33) d_PotSearch_stepDown_32 rfl 2 rfl ?_
          refine g_iconst (pc1 := 34) (v := 1) d_PotSearch_stepDown_33 rfl (by decide) ?_
          refine g_iadd (pc1 := 35) d_PotSearch_stepDown_34 rfl ?_
          refine g_bipush (pc1 := 37) (v := 6) d_PotSearch_stepDown_35 rfl (by decide) ?_
          refine g_aload_n (pc1 := 38) d_PotSearch_stepDown_37 rfl 0 rfl ?_
          refine g_geti (pc1 := 41) d_PotSearch_stepDown_38 rfl ⟨_, fo_PotSearch_56⟩ sh_391 (by decide) ?_
          refine g_isub (pc1 := 42) d_PotSearch_stepDown_41 rfl ?_
          refine g_iconst (pc1 := 43) (v := 1) d_PotSearch_stepDown_42 rfl (by decide) ?_
          refine g_iadd (pc1 := 44) d_PotSearch_stepDown_43 rfl ?_
          refine g_callV0 (pc1 := 47) (As := [.ref X1, .int (v719 + 1), .int ((6 - (M727 391 3)) + 1)]) (rest := []) d_PotSearch_stepDown_44 rfl mo_PotSearch_48 mi_PotSearch_fillFrom mv_PotSearch_fillFrom rfl sh_391 (by decide) (by decide) rfl rfl (Nat.le_of_ble_eq_true rfl) ?_
          refine t1_PotSearch_fillFrom hld X1 hX1 _ _ (fun  M730 L731 k732 => ?_)
          refine g_return rfl d_PotSearch_stepDown_47 rfl ?_
          exact hQ _ _ (Kp.trans (Kp.trans k722 (Kp.mono k729 (one_S rfl))) k732)
  exact LP718 _ 5 M L Kp.rf (Nat.lt_succ_self _)
set_option maxHeartbeats 4000000 in
set_option maxRecDepth 20000 in
theorem t1_PotSearch_weigh {l : Launch} {ld : Nat} (hld : isLa ld) {M : gM} {L : gL} {Q : Option Value → gM → gL → gR → Prop} (Ld1 : Nat) (hLd1 : isLa Ld1) (hQ : ∀ (M' : gM) (L' : gL), Kp S1 M L M' L' → Q none M' L' (rf ld)) : Tm l y_PotSearch_weigh (0, 0, 447) 447 [.ref 391, .ref Ld1] M L (rf ld) Q := by
  refine Tm.of (by decide) (Nat.le_of_ble_eq_true rfl) ?_
  show Wp l y_PotSearch_weigh (0, 0, 447) 447 0 0 0 [(0, .ref 391), (1, .ref Ld1)] [] M L (rf ld) Q
  refine g_aload_n (pc1 := 1) d_PotSearch_weigh_0 rfl 0 rfl ?_
  refine g_getr (pc1 := 4) d_PotSearch_weigh_1 rfl ⟨_, fo_PotSearch_18⟩ sh_391 (by decide) (rf_391_2 ld) ?_
  refine g_callS0 (pc1 := 7) (As := [.ref 394]) (rest := []) d_PotSearch_weigh_4 rfl mo_PotSearch_85 ms_Main_wipe (by decide) rfl rfl (Nat.le_of_ble_eq_true rfl) ?_
  refine t1_Main_wipe hld 394 sh_394 (by decide) (by decide) (fun  M733 L734 k735 => ?_)
  refine g_aload_n (pc1 := 8) d_PotSearch_weigh_7 rfl 0 rfl ?_
  refine g_iconst (pc1 := 9) (v := 0) d_PotSearch_weigh_8 rfl (by decide) ?_
  refine g_puti (pc1 := 12) d_PotSearch_weigh_9 rfl fo_PotSearch_56 (po_10_3 _) sh_391 (by decide) ?_
  refine Wp.topM (fun M736 eM736 => ?_)
  refine g_aload_n (pc1 := 13) d_PotSearch_weigh_12 rfl 0 rfl ?_
  refine g_iconst (pc1 := 14) (v := 0) d_PotSearch_weigh_13 rfl (by decide) ?_
  refine g_puti (pc1 := 17) d_PotSearch_weigh_14 rfl fo_PotSearch_89 (po_10_4 _) sh_391 (by decide) ?_
  refine Wp.topM (fun M737 eM737 => ?_)
  refine g_iconst (pc1 := 18) (v := 0) d_PotSearch_weigh_17 rfl (by decide) ?_
  refine g_istore_n (pc1 := 19) (lv' := [(0, .ref 391), (1, .ref Ld1), (2, .int 0)]) d_PotSearch_weigh_18 rfl rfl (by decide) [1, 2, 0] rfl ?_
  have LP741 : ∀ (f738 : Nat) (v742 : Int32) (M743 : gM) (L744 : gL), Kp S1 M L M743 L744 → ¬ v742 < 0 → ((6 : Int32).toInt - v742.toInt).toNat < f738 → Wp l y_PotSearch_weigh (0, 0, 447) 447 0 0 19 [(0, .ref 391), (1, .ref Ld1), (2, .int v742)] [] M743 L744 (rf ld) Q := by
    intro f738
    induction f738 with
    | zero => intro v742 M743 L744 _ _ hm740; exact absurd hm740 (Nat.not_lt_zero _)
    | succ f738 ih739 =>
      intro v742 M743 L744 k745 n746 hm740
      refine g_iload_n (pc1 := 20) d_PotSearch_weigh_19 rfl 2 rfl ?_
      refine g_bipush (pc1 := 22) (v := 6) d_PotSearch_weigh_20 rfl (by decide) ?_
      refine g_icmp_ge (pc1 := 25) (tgt := 116) d_PotSearch_weigh_22 (by decide) rfl (fun h747 => ?_) (fun h747 => ?_)
      · refine g_return rfl d_PotSearch_weigh_116 rfl ?_
        exact hQ _ _ k745
      · refine g_aload_n (pc1 := 26) d_PotSearch_weigh_25 rfl 0 rfl ?_
        refine g_getr (pc1 := 29) d_PotSearch_weigh_26 rfl ⟨_, fo_PotSearch_15⟩ sh_391 (by decide) (rf_391_1 ld) ?_
        refine g_iload_n (pc1 := 30) d_PotSearch_weigh_29 rfl 2 rfl ?_
        refine g_callS0 (pc1 := 33) (As := [.ref 393, .int v742]) (rest := []) d_PotSearch_weigh_30 rfl mo_PotSearch_75 ms_Main_at (by decide) rfl rfl (Nat.le_of_ble_eq_true rfl) ?_
        refine t1_Main_at hld 393 sh_393 (by decide) (by decide) _ (fun r748 => ?_)
        refine g_istore_n (pc1 := 34) (lv' := [(0, .ref 391), (1, .ref Ld1), (2, .int v742), (3, .int r748)]) d_PotSearch_weigh_33 rfl rfl (by decide) [1, 2, 3, 0] rfl ?_
        refine g_iload_n (pc1 := 35) d_PotSearch_weigh_34 rfl 3 rfl ?_
        refine g_if_le (pc1 := 38) (tgt := 110) d_PotSearch_weigh_35 (by decide) rfl (fun h749 => ?_) (fun h749 => ?_)
        · obtain ⟨x750, ex750⟩ : ∃ y : Int32, y = v742 + 1 := ⟨_, rfl⟩
          refine g_iinc (pc1 := 113) (v := x750) (lv' := [(0, .ref 391), (1, .ref Ld1), (2, .int x750), (3, .int r748)]) d_PotSearch_weigh_110 rfl 2 rfl (by rw [ex750]; rfl) (by decide) [1, 2, 0, 3] rfl ?_
          refine g_goto (tgt := 19) d_PotSearch_weigh_113 (by decide) ?_
          refine Wp.loc (lv' := [(0, .ref 391), (1, .ref Ld1), (2, .int x750)]) [0, 1, 2] rfl ?_
          exact ih739 x750 M743 L744 k745 (nn_up (y := (6 : Int32)) h747 ex750 n746) (md_up h747 ex750 hm740)
        · refine g_aload_n (pc1 := 39) d_PotSearch_weigh_38 rfl 0 rfl ?_
          refine g_dup (pc1 := 40) d_PotSearch_weigh_39 rfl rfl ?_
          refine g_geti (pc1 := 43) d_PotSearch_weigh_40 rfl ⟨_, fo_PotSearch_56⟩ sh_391 (by decide) ?_
          refine g_iload_n (pc1 := 44) d_PotSearch_weigh_43 rfl 3 rfl ?_
          refine g_iadd (pc1 := 45) d_PotSearch_weigh_44 rfl ?_
          refine g_puti (pc1 := 48) d_PotSearch_weigh_45 rfl fo_PotSearch_56 (po_10_3 _) sh_391 (by decide) ?_
          refine Wp.topM (fun M751 eM751 => ?_)
          refine g_aload_n (pc1 := 49) d_PotSearch_weigh_48 rfl 0 rfl ?_
          refine g_dup (pc1 := 50) d_PotSearch_weigh_49 rfl rfl ?_
          refine g_geti (pc1 := 53) d_PotSearch_weigh_50 rfl ⟨_, fo_PotSearch_89⟩ sh_391 (by decide) ?_
          refine g_iload_n (pc1 := 54) d_PotSearch_weigh_53 rfl 3 rfl ?_
          refine g_aload_n (pc1 := 55) d_PotSearch_weigh_54 rfl 1 rfl ?_
          refine g_getr (pc1 := 58) d_PotSearch_weigh_55 rfl ⟨_, fo_PotSearch_92⟩ (shLa_0 hLd1) (ltLa_0 hLd1) (rfLa_6 ld hLd1) ?_
          refine g_iload_n (pc1 := 59) d_PotSearch_weigh_58 rfl 2 rfl ?_
          refine g_callS0 (pc1 := 62) (As := [.ref (Ld1 + 2), .int v742]) (rest := [.int r748, .int (M751 391 4), .ref 391]) d_PotSearch_weigh_59 rfl mo_PotSearch_75 ms_Main_at (by decide) rfl rfl (Nat.le_of_ble_eq_true rfl) ?_
          refine t1_Main_at hld (Ld1 + 2) (shLa_2 hLd1) (ltLa_2 hLd1) (by decide) _ (fun r752 => ?_)
          refine g_imul (pc1 := 63) d_PotSearch_weigh_62 rfl ?_
          refine g_iadd (pc1 := 64) d_PotSearch_weigh_63 rfl ?_
          refine g_puti (pc1 := 67) d_PotSearch_weigh_64 rfl fo_PotSearch_89 (po_10_4 _) sh_391 (by decide) ?_
          refine Wp.topM (fun M753 eM753 => ?_)
          refine g_iconst (pc1 := 68) (v := 0) d_PotSearch_weigh_67 rfl (by decide) ?_
          refine g_istore (pc1 := 70) (lv' := [(0, .ref 391), (1, .ref Ld1), (2, .int v742), (3, .int r748), (4, .int 0)]) d_PotSearch_weigh_68 rfl (by decide) [1, 2, 3, 4, 0] rfl ?_
          have LP757 : ∀ (f754 : Nat) (v758 : Int32) (M759 : gM) (L760 : gL), Kp S1 M L M759 L760 → ¬ v758 < 0 → ((3 : Int32).toInt - v758.toInt).toNat < f754 → Wp l y_PotSearch_weigh (0, 0, 447) 447 0 0 70 [(0, .ref 391), (1, .ref Ld1), (2, .int v742), (3, .int r748), (4, .int v758)] [] M759 L760 (rf ld) Q := by
            intro f754
            induction f754 with
            | zero => intro v758 M759 L760 _ _ hm756; exact absurd hm756 (Nat.not_lt_zero _)
            | succ f754 ih755 =>
              intro v758 M759 L760 k761 n762 hm756
              refine g_iload (pc1 := 72) d_PotSearch_weigh_70 rfl 4 rfl ?_
              refine g_iconst (pc1 := 73) (v := 3) d_PotSearch_weigh_72 rfl (by decide) ?_
              refine g_icmp_ge (pc1 := 76) (tgt := 110) d_PotSearch_weigh_73 (by decide) rfl (fun h763 => ?_) (fun h763 => ?_)
              · obtain ⟨x764, ex764⟩ : ∃ y : Int32, y = v742 + 1 := ⟨_, rfl⟩
                refine g_iinc (pc1 := 113) (v := x764) (lv' := [(0, .ref 391), (1, .ref Ld1), (2, .int x764), (3, .int r748), (4, .int v758)]) d_PotSearch_weigh_110 rfl 2 rfl (by rw [ex764]; rfl) (by decide) [1, 2, 0, 3, 4] rfl ?_
                refine g_goto (tgt := 19) d_PotSearch_weigh_113 (by decide) ?_
                refine Wp.loc (lv' := [(0, .ref 391), (1, .ref Ld1), (2, .int x764)]) [0, 1, 2] rfl ?_
                exact ih739 x764 M759 L760 k761 (nn_up (y := (6 : Int32)) h747 ex764 n746) (md_up h747 ex764 hm740)
              · refine g_aload_n (pc1 := 77) d_PotSearch_weigh_76 rfl 0 rfl ?_
                refine g_getr (pc1 := 80) d_PotSearch_weigh_77 rfl ⟨_, fo_PotSearch_18⟩ sh_391 (by decide) (rf_391_2 ld) ?_
                refine g_iload (pc1 := 82) d_PotSearch_weigh_80 rfl 4 rfl ?_
                refine g_aload_n (pc1 := 83) d_PotSearch_weigh_82 rfl 0 rfl ?_
                refine g_getr (pc1 := 86) d_PotSearch_weigh_83 rfl ⟨_, fo_PotSearch_18⟩ sh_391 (by decide) (rf_391_2 ld) ?_
                refine g_iload (pc1 := 88) d_PotSearch_weigh_86 rfl 4 rfl ?_
                refine g_callS0 (pc1 := 91) (As := [.ref 394, .int v758]) (rest := [.int v758, .ref 394]) d_PotSearch_weigh_88 rfl mo_PotSearch_75 ms_Main_at (by decide) rfl rfl (Nat.le_of_ble_eq_true rfl) ?_
                refine t1_Main_at hld 394 sh_394 (by decide) (by decide) _ (fun r765 => ?_)
                refine g_iload_n (pc1 := 92) d_PotSearch_weigh_91 rfl 3 rfl ?_
                refine g_aload_n (pc1 := 93) d_PotSearch_weigh_92 rfl 1 rfl ?_
                refine g_iload_n (pc1 := 94) d_PotSearch_weigh_93 rfl 2 rfl ?_
                refine g_iload (pc1 := 96) d_PotSearch_weigh_94 rfl 4 rfl ?_
                refine g_callV0 (pc1 := 99) (As := [.int v742, .int v758]) (rest := [.int r748, .int r765, .int v758, .ref 394]) d_PotSearch_weigh_96 rfl mo_PotSearch_94 mi_Land_broughtBy mv_Land_broughtBy rfl (shLa_0 hLd1) (ltLa_0 hLd1) (by decide) rfl rfl (Nat.le_of_ble_eq_true rfl) ?_
                refine t1_Land_broughtBy hld Ld1 hLd1 _ _ (fun r766 => ?_)
                refine g_imul (pc1 := 100) d_PotSearch_weigh_99 rfl ?_
                refine g_iadd (pc1 := 101) d_PotSearch_weigh_100 rfl ?_
                refine g_callS0 (pc1 := 104) (As := [.ref 394, .int v758, .int (r765 + (r748 * r766))]) (rest := []) d_PotSearch_weigh_101 rfl mo_PotSearch_24 ms_Main_put (by decide) rfl rfl (Nat.le_of_ble_eq_true rfl) ?_
                refine t1_Main_put hld 394 sh_394 (by decide) (by decide) _ _ (fun  M767 L768 k769 => ?_)
                obtain ⟨x770, ex770⟩ : ∃ y : Int32, y = v758 + 1 := ⟨_, rfl⟩
                refine g_iinc (pc1 := 107) (v := x770) (lv' := [(0, .ref 391), (1, .ref Ld1), (2, .int v742), (3, .int r748), (4, .int x770)]) d_PotSearch_weigh_104 rfl 4 rfl (by rw [ex770]; rfl) (by decide) [1, 2, 3, 4, 0] rfl ?_
                refine g_goto (tgt := 70) d_PotSearch_weigh_107 (by decide) ?_
                exact ih755 x770 M767 L768 (Kp.trans k761 (Kp.mono k769 (one_S rfl))) (nn_up (y := (3 : Int32)) h763 ex770 n762) (md_up h763 ex770 hm756)
          exact LP757 _ 0 M753 L744 (Kp.wM (Kp.wM k745 rfl eM751) rfl eM753) (by decide) (Nat.lt_succ_self _)
  exact LP741 _ 0 M737 L734 (Kp.wM (Kp.wM (Kp.trans Kp.rf (Kp.mono k735 (one_S rfl))) rfl eM736) rfl eM737) (by decide) (Nat.lt_succ_self _)
set_option maxHeartbeats 4000000 in
set_option maxRecDepth 20000 in
theorem t1_Reader_need {l : Launch} {ld : Nat} (hld : isLa ld) {M : gM} {L : gL} {Q : Option Value → gM → gL → gR → Prop} (p1 : Int32) (hQ : ∀ (M' : gM) (L' : gL), Kp S2 M L M' L' → Q none M' L' (rf ld)) : Tm l y_Reader_need (0, 0, 447) 447 [.ref 3, .int p1] M L (rf ld) Q := by
  refine Tm.of (by decide) (Nat.le_of_ble_eq_true rfl) ?_
  show Wp l y_Reader_need (0, 0, 447) 447 0 0 0 [(0, .ref 3), (1, .int p1)] [] M L (rf ld) Q
  refine g_aload_n (pc1 := 1) d_Reader_need_0 rfl 0 rfl ?_
  refine g_iload_n (pc1 := 2) d_Reader_need_1 rfl 1 rfl ?_
  refine g_callV0 (pc1 := 5) (As := [.int p1]) (rest := []) d_Reader_need_2 rfl mo_Reader_51 mi_Reader_is mv_Reader_is rfl sh_3 (by decide) (by decide) rfl rfl (Nat.le_of_ble_eq_true rfl) ?_
  refine t1_Reader_is hld _ (fun r771 hr771 => ?_)
  refine g_if_eq (pc1 := 8) (tgt := 15) d_Reader_need_5 (by decide) rfl (fun h772 => ?_) (fun h772 => ?_)
  · refine g_aload_n (pc1 := 16) d_Reader_need_15 rfl 0 rfl ?_
    refine g_iconst (pc1 := 17) (v := 1) d_Reader_need_16 rfl (by decide) ?_
    refine g_callV0 (pc1 := 20) (As := [.int 1]) (rest := []) d_Reader_need_17 rfl mo_Reader_95 mi_Reader_stop mv_Reader_stop rfl sh_3 (by decide) (by decide) rfl rfl (Nat.le_of_ble_eq_true rfl) ?_
    refine t1_Reader_stop hld _ (fun  M773 L774 k775 => ?_)
    refine g_return rfl d_Reader_need_20 rfl ?_
    exact hQ _ _ (Kp.trans Kp.rf k775)
  · refine g_aload_n (pc1 := 9) d_Reader_need_8 rfl 0 rfl ?_
    refine g_callV0 (pc1 := 12) (As := []) (rest := []) d_Reader_need_9 rfl mo_Reader_108 mi_Reader_take mv_Reader_take rfl sh_3 (by decide) (by decide) rfl rfl (Nat.le_of_ble_eq_true rfl) ?_
    refine t1_Reader_take hld  (fun  M776 L777 k778 => ?_)
    refine g_goto (tgt := 20) d_Reader_need_12 (by decide) ?_
    refine g_return rfl d_Reader_need_20 rfl ?_
    exact hQ _ _ (Kp.trans Kp.rf k778)
set_option maxHeartbeats 4000000 in
set_option maxRecDepth 20000 in
theorem t1_Reader_takeClose {l : Launch} {ld : Nat} (hld : isLa ld) {M : gM} {L : gL} {Q : Option Value → gM → gL → gR → Prop} (Wl1 : Nat) (hWl1 : isLw Wl1) (hQ : ∀ (M' : gM) (L' : gL), Kp S2 M L M' L' → Q none M' L' (rf ld)) : Tm l y_Reader_takeClose (0, 0, 447) 447 [.ref 3, .ref Wl1] M L (rf ld) Q := by
  refine Tm.of (by decide) (Nat.le_of_ble_eq_true rfl) ?_
  show Wp l y_Reader_takeClose (0, 0, 447) 447 0 0 0 [(0, .ref 3), (1, .ref Wl1)] [] M L (rf ld) Q
  refine g_aload_n (pc1 := 1) d_Reader_takeClose_0 rfl 0 rfl ?_
  refine g_bipush (pc1 := 3) (v := 41) d_Reader_takeClose_1 rfl (by decide) ?_
  refine g_callV0 (pc1 := 6) (As := [.int 41]) (rest := []) d_Reader_takeClose_3 rfl mo_Reader_51 mi_Reader_is mv_Reader_is rfl sh_3 (by decide) (by decide) rfl rfl (Nat.le_of_ble_eq_true rfl) ?_
  refine t1_Reader_is hld _ (fun r779 hr779 => ?_)
  refine g_if_ne (pc1 := 9) (tgt := 15) d_Reader_takeClose_6 (by decide) rfl (fun h780 => ?_) (fun h780 => ?_)
  · refine g_aload_n (pc1 := 16) d_Reader_takeClose_15 rfl 0 rfl ?_
    refine g_aload_n (pc1 := 17) d_Reader_takeClose_16 rfl 1 rfl ?_
    refine g_iconst (pc1 := 18) (v := 1) d_Reader_takeClose_17 rfl (by decide) ?_
    refine g_callV0 (pc1 := 21) (As := [.ref Wl1, .int 1]) (rest := []) d_Reader_takeClose_18 rfl mo_Reader_215 mi_Reader_layHeld mv_Reader_layHeld rfl sh_3 (by decide) (by decide) rfl rfl (Nat.le_of_ble_eq_true rfl) ?_
    refine t1_Reader_layHeld hld Wl1 hWl1 _ (fun  M781 L782 k783 => ?_)
    refine g_aload_n (pc1 := 22) d_Reader_takeClose_21 rfl 0 rfl ?_
    refine g_dup (pc1 := 23) d_Reader_takeClose_22 rfl rfl ?_
    refine g_geti (pc1 := 26) d_Reader_takeClose_23 rfl ⟨_, fo_Reader_199⟩ sh_3 (by decide) ?_
    refine g_iconst (pc1 := 27) (v := 1) d_Reader_takeClose_26 rfl (by decide) ?_
    refine g_isub (pc1 := 28) d_Reader_takeClose_27 rfl ?_
    refine g_puti (pc1 := 31) d_Reader_takeClose_28 rfl fo_Reader_199 (po_2_10 _) sh_3 (by decide) ?_
    refine Wp.topM (fun M784 eM784 => ?_)
    refine g_aload_n (pc1 := 32) d_Reader_takeClose_31 rfl 0 rfl ?_
    refine g_dup (pc1 := 33) d_Reader_takeClose_32 rfl rfl ?_
    refine g_geti (pc1 := 36) d_Reader_takeClose_33 rfl ⟨_, fo_Reader_196⟩ sh_3 (by decide) ?_
    refine g_iconst (pc1 := 37) (v := 1) d_Reader_takeClose_36 rfl (by decide) ?_
    refine g_isub (pc1 := 38) d_Reader_takeClose_37 rfl ?_
    refine g_puti (pc1 := 41) d_Reader_takeClose_38 rfl fo_Reader_196 (po_2_11 _) sh_3 (by decide) ?_
    refine Wp.topM (fun M785 eM785 => ?_)
    refine g_aload_n (pc1 := 42) d_Reader_takeClose_41 rfl 0 rfl ?_
    refine g_callV0 (pc1 := 45) (As := []) (rest := []) d_Reader_takeClose_42 rfl mo_Reader_108 mi_Reader_take mv_Reader_take rfl sh_3 (by decide) (by decide) rfl rfl (Nat.le_of_ble_eq_true rfl) ?_
    refine t1_Reader_take hld  (fun  M786 L787 k788 => ?_)
    refine g_return rfl d_Reader_takeClose_45 rfl ?_
    exact hQ _ _ (Kp.trans (Kp.wM (Kp.wM (Kp.trans Kp.rf k783) rfl eM784) rfl eM785) k788)
  · refine g_aload_n (pc1 := 10) d_Reader_takeClose_9 rfl 0 rfl ?_
    refine g_iconst (pc1 := 11) (v := 1) d_Reader_takeClose_10 rfl (by decide) ?_
    refine g_callV0 (pc1 := 14) (As := [.int 1]) (rest := []) d_Reader_takeClose_11 rfl mo_Reader_95 mi_Reader_stop mv_Reader_stop rfl sh_3 (by decide) (by decide) rfl rfl (Nat.le_of_ble_eq_true rfl) ?_
    refine t1_Reader_stop hld _ (fun  M789 L790 k791 => ?_)
    refine g_return rfl d_Reader_takeClose_14 rfl ?_
    exact hQ _ _ (Kp.trans Kp.rf k791)
set_option maxHeartbeats 4000000 in
set_option maxRecDepth 20000 in
theorem t1_Reader_takeSign {l : Launch} {ld : Nat} (hld : isLa ld) {M : gM} {L : gL} {Q : Option Value → gM → gL → gR → Prop} (Wl1 : Nat) (hWl1 : isLw Wl1) (hQ : ∀ (M' : gM) (L' : gL), Kp S2 M L M' L' → Q none M' L' (rf ld)) : Tm l y_Reader_takeSign (0, 0, 447) 447 [.ref 3, .ref Wl1] M L (rf ld) Q := by
  refine Tm.of (by decide) (Nat.le_of_ble_eq_true rfl) ?_
  show Wp l y_Reader_takeSign (0, 0, 447) 447 0 0 0 [(0, .ref 3), (1, .ref Wl1)] [] M L (rf ld) Q
  refine g_aload_n (pc1 := 1) d_Reader_takeSign_0 rfl 0 rfl ?_
  refine g_getr (pc1 := 4) d_Reader_takeSign_1 rfl ⟨_, fo_Reader_12⟩ sh_3 (by decide) (rf_3_0 ld) ?_
  refine g_getr (pc1 := 7) d_Reader_takeSign_4 rfl ⟨_, fo_Reader_55⟩ sh_4 (by decide) (rf_4_1 ld) ?_
  refine g_aload_n (pc1 := 8) d_Reader_takeSign_7 rfl 0 rfl ?_
  refine g_geti (pc1 := 11) d_Reader_takeSign_8 rfl ⟨_, fo_Reader_38⟩ sh_3 (by decide) ?_
  refine g_callS0 (pc1 := 14) (As := [.ref 6, .int (M 3 1)]) (rest := []) d_Reader_takeSign_11 rfl mo_Reader_58 ms_Main_at (by decide) rfl rfl (Nat.le_of_ble_eq_true rfl) ?_
  refine t1_Main_at hld 6 sh_6 (by decide) (by decide) _ (fun r792 => ?_)
  refine g_istore_n (pc1 := 15) (lv' := [(0, .ref 3), (1, .ref Wl1), (2, .int r792)]) d_Reader_takeSign_14 rfl rfl (by decide) [1, 2, 0] rfl ?_
  refine g_aload_n (pc1 := 16) d_Reader_takeSign_15 rfl 0 rfl ?_
  refine g_aload_n (pc1 := 17) d_Reader_takeSign_16 rfl 1 rfl ?_
  refine g_iload_n (pc1 := 18) d_Reader_takeSign_17 rfl 2 rfl ?_
  refine g_callS0 (pc1 := 21) (As := [.int r792]) (rest := [.ref Wl1, .ref 3]) d_Reader_takeSign_18 rfl mo_Reader_206 ms_Reader_rank (by decide) rfl rfl (Nat.le_of_ble_eq_true rfl) ?_
  refine t1_Reader_rank hld _ (fun r793 => ?_)
  refine g_callV0 (pc1 := 24) (As := [.ref Wl1, .int r793]) (rest := []) d_Reader_takeSign_21 rfl mo_Reader_215 mi_Reader_layHeld mv_Reader_layHeld rfl sh_3 (by decide) (by decide) rfl rfl (Nat.le_of_ble_eq_true rfl) ?_
  refine t1_Reader_layHeld hld Wl1 hWl1 _ (fun  M794 L795 k796 => ?_)
  refine g_aload_n (pc1 := 25) d_Reader_takeSign_24 rfl 0 rfl ?_
  refine g_iload_n (pc1 := 26) d_Reader_takeSign_25 rfl 2 rfl ?_
  refine g_callV0 (pc1 := 29) (As := [.int r792]) (rest := []) d_Reader_takeSign_26 rfl mo_Reader_219 mi_Reader_holdSign mv_Reader_holdSign rfl sh_3 (by decide) (by decide) rfl rfl (Nat.le_of_ble_eq_true rfl) ?_
  refine t1_Reader_holdSign hld _ (fun  M797 L798 k799 => ?_)
  refine g_aload_n (pc1 := 30) d_Reader_takeSign_29 rfl 0 rfl ?_
  refine g_callV0 (pc1 := 33) (As := []) (rest := []) d_Reader_takeSign_30 rfl mo_Reader_108 mi_Reader_take mv_Reader_take rfl sh_3 (by decide) (by decide) rfl rfl (Nat.le_of_ble_eq_true rfl) ?_
  refine t1_Reader_take hld  (fun  M800 L801 k802 => ?_)
  refine g_return rfl d_Reader_takeSign_33 rfl ?_
  exact hQ _ _ (Kp.trans (Kp.trans (Kp.trans Kp.rf k796) k799) k802)
set_option maxHeartbeats 4000000 in
set_option maxRecDepth 20000 in
theorem t1_Reader_takeUnit {l : Launch} {ld : Nat} (hld : isLa ld) {M : gM} {L : gL} {Q : Option Value → gM → gL → gR → Prop} (Wl1 : Nat) (hWl1 : isLw Wl1) (hQ : ∀ (r : Int32) (M' : gM) (L' : gL), (r = 0 ∨ r = 1) → Kp S2 M L M' L' → Q (some (.int r)) M' L' (rf ld)) : Tm l y_Reader_takeUnit (0, 0, 447) 447 [.ref 3, .ref Wl1] M L (rf ld) Q := by
  refine Tm.of (by decide) (Nat.le_of_ble_eq_true rfl) ?_
  show Wp l y_Reader_takeUnit (0, 0, 447) 447 0 0 0 [(0, .ref 3), (1, .ref Wl1)] [] M L (rf ld) Q
  refine g_aload_n (pc1 := 1) d_Reader_takeUnit_0 rfl 0 rfl ?_
  refine g_getr (pc1 := 4) d_Reader_takeUnit_1 rfl ⟨_, fo_Reader_12⟩ sh_3 (by decide) (rf_3_0 ld) ?_
  refine g_getr (pc1 := 7) d_Reader_takeUnit_4 rfl ⟨_, fo_Reader_55⟩ sh_4 (by decide) (rf_4_1 ld) ?_
  refine g_aload_n (pc1 := 8) d_Reader_takeUnit_7 rfl 0 rfl ?_
  refine g_geti (pc1 := 11) d_Reader_takeUnit_8 rfl ⟨_, fo_Reader_38⟩ sh_3 (by decide) ?_
  refine g_callS0 (pc1 := 14) (As := [.ref 6, .int (M 3 1)]) (rest := []) d_Reader_takeUnit_11 rfl mo_Reader_58 ms_Main_at (by decide) rfl rfl (Nat.le_of_ble_eq_true rfl) ?_
  refine t1_Main_at hld 6 sh_6 (by decide) (by decide) _ (fun r803 => ?_)
  refine g_istore_n (pc1 := 15) (lv' := [(0, .ref 3), (1, .ref Wl1), (2, .int r803)]) d_Reader_takeUnit_14 rfl rfl (by decide) [1, 2, 0] rfl ?_
  refine g_iload_n (pc1 := 16) d_Reader_takeUnit_15 rfl 2 rfl ?_
  refine g_bipush (pc1 := 18) (v := 40) d_Reader_takeUnit_16 rfl (by decide) ?_
  refine g_icmp_ne (pc1 := 21) (tgt := 59) d_Reader_takeUnit_18 (by decide) rfl (fun h804 => ?_) (fun h804 => ?_)
  · refine g_iload_n (pc1 := 60) d_Reader_takeUnit_59 rfl 2 rfl ?_
    refine g_iconst (pc1 := 61) (v := 3) d_Reader_takeUnit_60 rfl (by decide) ?_
    refine g_icmp_ne (pc1 := 64) (tgt := 87) d_Reader_takeUnit_61 (by decide) rfl (fun h805 => ?_) (fun h805 => ?_)
    · refine g_iload_n (pc1 := 88) d_Reader_takeUnit_87 rfl 2 rfl ?_
      refine g_sipush (pc1 := 91) (v := 140) d_Reader_takeUnit_88 rfl (by decide) ?_
      refine g_isub (pc1 := 92) d_Reader_takeUnit_91 rfl ?_
      refine g_bipush (pc1 := 94) (v := 9) d_Reader_takeUnit_92 rfl (by decide) ?_
      refine g_callS0 (pc1 := 97) (As := [.int (r803 - 140), .int 9]) (rest := []) d_Reader_takeUnit_94 rfl mo_Reader_225 ms_Main_isOne (by decide) rfl rfl (Nat.le_of_ble_eq_true rfl) ?_
      refine t1_Main_isOne hld _ _ (fun r806 hr806 => ?_)
      refine g_if_eq (pc1 := 100) (tgt := 120) d_Reader_takeUnit_97 (by decide) rfl (fun h807 => ?_) (fun h807 => ?_)
      · refine g_aload_n (pc1 := 121) d_Reader_takeUnit_120 rfl 0 rfl ?_
        refine g_iconst (pc1 := 122) (v := 1) d_Reader_takeUnit_121 rfl (by decide) ?_
        refine g_callV0 (pc1 := 125) (As := [.int 1]) (rest := []) d_Reader_takeUnit_122 rfl mo_Reader_95 mi_Reader_stop mv_Reader_stop rfl sh_3 (by decide) (by decide) rfl rfl (Nat.le_of_ble_eq_true rfl) ?_
        refine t1_Reader_stop hld _ (fun  M808 L809 k810 => ?_)
        refine g_iconst (pc1 := 126) (v := 0) d_Reader_takeUnit_125 rfl (by decide) ?_
        refine g_ireturn (Or.inr ⟨rfl, rfl⟩) d_Reader_takeUnit_126 rfl ?_
        exact hQ _ _ _ (Or.inl rfl) (Kp.trans Kp.rf k810)
      · refine g_aload_n (pc1 := 101) d_Reader_takeUnit_100 rfl 1 rfl ?_
        refine g_sipush (pc1 := 104) (v := 10000) d_Reader_takeUnit_101 rfl (by decide) ?_
        refine g_iload_n (pc1 := 105) d_Reader_takeUnit_104 rfl 2 rfl ?_
        refine g_iadd (pc1 := 106) d_Reader_takeUnit_105 rfl ?_
        refine g_sipush (pc1 := 109) (v := 140) d_Reader_takeUnit_106 rfl (by decide) ?_
        refine g_isub (pc1 := 110) d_Reader_takeUnit_109 rfl ?_
        refine g_callV0 (pc1 := 113) (As := [.int ((10000 + r803) - 140)]) (rest := []) d_Reader_takeUnit_110 rfl mo_Reader_222 mi_Law_add mv_Law_add rfl (shLw_0 hWl1) (ltLw_0 hWl1) (by decide) rfl rfl (Nat.le_of_ble_eq_true rfl) ?_
        refine t1_Law_add hld Wl1 hWl1 _ (fun  M811 L812 k813 => ?_)
        refine g_aload_n (pc1 := 114) d_Reader_takeUnit_113 rfl 0 rfl ?_
        refine g_callV0 (pc1 := 117) (As := []) (rest := []) d_Reader_takeUnit_114 rfl mo_Reader_108 mi_Reader_take mv_Reader_take rfl sh_3 (by decide) (by decide) rfl rfl (Nat.le_of_ble_eq_true rfl) ?_
        refine t1_Reader_take hld  (fun  M814 L815 k816 => ?_)
        refine g_goto (tgt := 125) d_Reader_takeUnit_117 (by decide) ?_
        refine g_iconst (pc1 := 126) (v := 0) d_Reader_takeUnit_125 rfl (by decide) ?_
        refine g_ireturn (Or.inr ⟨rfl, rfl⟩) d_Reader_takeUnit_126 rfl ?_
        exact hQ _ _ _ (Or.inl rfl) (Kp.trans (Kp.trans Kp.rf (Kp.mono k813 SL_S2)) k816)
    · refine g_aload_n (pc1 := 65) d_Reader_takeUnit_64 rfl 1 rfl ?_
      refine g_aload_n (pc1 := 66) d_Reader_takeUnit_65 rfl 0 rfl ?_
      refine g_getr (pc1 := 69) d_Reader_takeUnit_66 rfl ⟨_, fo_Reader_12⟩ sh_3 (by decide) (rf_3_0 ld) ?_
      refine g_aload_n (pc1 := 70) d_Reader_takeUnit_69 rfl 0 rfl ?_
      refine g_geti (pc1 := 73) d_Reader_takeUnit_70 rfl ⟨_, fo_Reader_38⟩ sh_3 (by decide) ?_
      refine g_callV0 (pc1 := 76) (As := [.int (M 3 1)]) (rest := [.ref Wl1]) d_Reader_takeUnit_73 rfl mo_Reader_111 mi_Tokens_valueAt mv_Tokens_valueAt rfl sh_4 (by decide) (by decide) rfl rfl (Nat.le_of_ble_eq_true rfl) ?_
      refine t1_Tokens_valueAt hld _ (fun r817 => ?_)
      refine g_l2i (pc1 := 77) d_Reader_takeUnit_76 rfl ?_
      refine g_callV0 (pc1 := 80) (As := [.int (r817 : Int64).toInt32]) (rest := []) d_Reader_takeUnit_77 rfl mo_Reader_222 mi_Law_add mv_Law_add rfl (shLw_0 hWl1) (ltLw_0 hWl1) (by decide) rfl rfl (Nat.le_of_ble_eq_true rfl) ?_
      refine t1_Law_add hld Wl1 hWl1 _ (fun  M818 L819 k820 => ?_)
      refine g_aload_n (pc1 := 81) d_Reader_takeUnit_80 rfl 0 rfl ?_
      refine g_callV0 (pc1 := 84) (As := []) (rest := []) d_Reader_takeUnit_81 rfl mo_Reader_108 mi_Reader_take mv_Reader_take rfl sh_3 (by decide) (by decide) rfl rfl (Nat.le_of_ble_eq_true rfl) ?_
      refine t1_Reader_take hld  (fun  M821 L822 k823 => ?_)
      refine g_goto (tgt := 125) d_Reader_takeUnit_84 (by decide) ?_
      refine g_iconst (pc1 := 126) (v := 0) d_Reader_takeUnit_125 rfl (by decide) ?_
      refine g_ireturn (Or.inr ⟨rfl, rfl⟩) d_Reader_takeUnit_126 rfl ?_
      exact hQ _ _ _ (Or.inl rfl) (Kp.trans (Kp.trans Kp.rf (Kp.mono k820 SL_S2)) k823)
  · refine g_aload_n (pc1 := 22) d_Reader_takeUnit_21 rfl 0 rfl ?_
    refine g_geti (pc1 := 25) d_Reader_takeUnit_22 rfl ⟨_, fo_Reader_196⟩ sh_3 (by decide) ?_
    refine g_bipush (pc1 := 27) (v := 6) d_Reader_takeUnit_25 rfl (by decide) ?_
    refine g_icmp_lt (pc1 := 30) (tgt := 37) d_Reader_takeUnit_27 (by decide) rfl (fun h824 => ?_) (fun h824 => ?_)
    · refine g_aload_n (pc1 := 38) d_Reader_takeUnit_37 rfl 0 rfl ?_
      refine g_dup (pc1 := 39) d_Reader_takeUnit_38 rfl rfl ?_
      refine g_geti (pc1 := 42) d_Reader_takeUnit_39 rfl ⟨_, fo_Reader_196⟩ sh_3 (by decide) ?_
      refine g_iconst (pc1 := 43) (v := 1) d_Reader_takeUnit_42 rfl (by decide) ?_
      refine g_iadd (pc1 := 44) d_Reader_takeUnit_43 rfl ?_
      refine g_puti (pc1 := 47) d_Reader_takeUnit_44 rfl fo_Reader_196 (po_2_11 _) sh_3 (by decide) ?_
      refine Wp.topM (fun M825 eM825 => ?_)
      refine g_aload_n (pc1 := 48) d_Reader_takeUnit_47 rfl 0 rfl ?_
      refine g_bipush (pc1 := 50) (v := 40) d_Reader_takeUnit_48 rfl (by decide) ?_
      refine g_callV0 (pc1 := 53) (As := [.int 40]) (rest := []) d_Reader_takeUnit_50 rfl mo_Reader_219 mi_Reader_holdSign mv_Reader_holdSign rfl sh_3 (by decide) (by decide) rfl rfl (Nat.le_of_ble_eq_true rfl) ?_
      refine t1_Reader_holdSign hld _ (fun  M826 L827 k828 => ?_)
      refine g_aload_n (pc1 := 54) d_Reader_takeUnit_53 rfl 0 rfl ?_
      refine g_callV0 (pc1 := 57) (As := []) (rest := []) d_Reader_takeUnit_54 rfl mo_Reader_108 mi_Reader_take mv_Reader_take rfl sh_3 (by decide) (by decide) rfl rfl (Nat.le_of_ble_eq_true rfl) ?_
      refine t1_Reader_take hld  (fun  M829 L830 k831 => ?_)
      refine g_iconst (pc1 := 58) (v := 1) d_Reader_takeUnit_57 rfl (by decide) ?_
      refine g_ireturn (Or.inr ⟨rfl, rfl⟩) d_Reader_takeUnit_58 rfl ?_
      exact hQ _ _ _ (Or.inr rfl) (Kp.trans (Kp.trans (Kp.wM Kp.rf rfl eM825) k828) k831)
    · refine g_aload_n (pc1 := 31) d_Reader_takeUnit_30 rfl 0 rfl ?_
      refine g_iconst (pc1 := 32) (v := 2) d_Reader_takeUnit_31 rfl (by decide) ?_
      refine g_callV0 (pc1 := 35) (As := [.int 2]) (rest := []) d_Reader_takeUnit_32 rfl mo_Reader_95 mi_Reader_stop mv_Reader_stop rfl sh_3 (by decide) (by decide) rfl rfl (Nat.le_of_ble_eq_true rfl) ?_
      refine t1_Reader_stop hld _ (fun  M832 L833 k834 => ?_)
      refine g_iconst (pc1 := 36) (v := 1) d_Reader_takeUnit_35 rfl (by decide) ?_
      refine g_ireturn (Or.inr ⟨rfl, rfl⟩) d_Reader_takeUnit_36 rfl ?_
      exact hQ _ _ _ (Or.inr rfl) (Kp.trans Kp.rf k834)
set_option maxHeartbeats 4000000 in
set_option maxRecDepth 20000 in
theorem t1_Slots_bring {l : Launch} {ld : Nat} (hld : isLa ld) {M : gM} {L : gL} {Q : Option Value → gM → gL → gR → Prop} (p1 : Int32) (X2 : Nat) (hX2 : isSt X2) (hQ : ∀ (r : Int32) (M' : gM) (L' : gL), (r = 0 ∨ r = 1) → Kp S1 M L M' L' → Q (some (.int r)) M' L' (rf ld)) : Tm l y_Slots_bring (0, 0, 447) 447 [.ref 360, .int p1, .ref X2] M L (rf ld) Q := by
  refine Tm.of (by decide) (Nat.le_of_ble_eq_true rfl) ?_
  show Wp l y_Slots_bring (0, 0, 447) 447 0 0 0 [(0, .ref 360), (1, .int p1), (2, .ref X2)] [] M L (rf ld) Q
  refine g_iload_n (pc1 := 1) d_Slots_bring_0 rfl 1 rfl ?_
  refine g_if_lt (pc1 := 4) (tgt := 33) d_Slots_bring_1 (by decide) rfl (fun h835 => ?_) (fun h835 => ?_)
  · refine g_iconst (pc1 := 34) (v := 0) d_Slots_bring_33 rfl (by decide) ?_
    refine g_ireturn (Or.inr ⟨rfl, rfl⟩) d_Slots_bring_34 rfl ?_
    exact hQ _ _ _ (Or.inl rfl) Kp.rf
  · refine g_iload_n (pc1 := 5) d_Slots_bring_4 rfl 1 rfl ?_
    refine g_aload_n (pc1 := 6) d_Slots_bring_5 rfl 0 rfl ?_
    refine g_getr (pc1 := 9) d_Slots_bring_6 rfl ⟨_, fo_Slots_11⟩ sh_360 (by decide) (rf_360_0 ld) ?_
    refine g_alen (pc1 := 10) (v := 3) d_Slots_bring_9 rfl sh_361 (by decide) (by decide) (by decide) (by decide) ?_
    refine g_icmp_ge (pc1 := 13) (tgt := 33) d_Slots_bring_10 (by decide) rfl (fun h836 => ?_) (fun h836 => ?_)
    · refine g_iconst (pc1 := 34) (v := 0) d_Slots_bring_33 rfl (by decide) ?_
      refine g_ireturn (Or.inr ⟨rfl, rfl⟩) d_Slots_bring_34 rfl ?_
      exact hQ _ _ _ (Or.inl rfl) Kp.rf
    · refine g_aload_n (pc1 := 14) d_Slots_bring_13 rfl 0 rfl ?_
      refine g_getr (pc1 := 17) d_Slots_bring_14 rfl ⟨_, fo_Slots_11⟩ sh_360 (by decide) (rf_360_0 ld) ?_
      refine g_iload_n (pc1 := 18) d_Slots_bring_17 rfl 1 rfl ?_
      obtain ⟨X837, hX837, rX837⟩ := rfArr_361 ld (vin_of h835 h836 (by decide))
      refine g_aald (pc1 := 19) d_Slots_bring_18 rfl sh_361 (by decide) (vin_of h835 h836 (by decide)) rX837 ?_
      refine g_null (pc1 := 22) d_Slots_bring_19 rfl ?_
      refine g_aload_n (pc1 := 23) d_Slots_bring_22 rfl 0 rfl ?_
      refine g_geti (pc1 := 26) d_Slots_bring_23 rfl ⟨_, fo_Slots_18⟩ sh_360 (by decide) ?_
      refine g_iload_n (pc1 := 27) d_Slots_bring_26 rfl 1 rfl ?_
      refine g_callS0 (pc1 := 30) (As := [.int (M 360 1), .int p1]) (rest := []) d_Slots_bring_27 rfl mo_Slots_26 ms_Main_hasBit (by decide) rfl rfl (Nat.le_of_ble_eq_true rfl) ?_
      refine t1_Main_hasBit hld _ _ (fun r838 hr838 => ?_)
      refine g_if_ne (pc1 := 33) (tgt := 35) d_Slots_bring_30 (by decide) rfl (fun h839 => ?_) (fun h839 => ?_)
      · refine g_aload_n (pc1 := 36) d_Slots_bring_35 rfl 2 rfl ?_
        refine g_aload_n (pc1 := 37) d_Slots_bring_36 rfl 0 rfl ?_
        refine g_getr (pc1 := 40) d_Slots_bring_37 rfl ⟨_, fo_Slots_11⟩ sh_360 (by decide) (rf_360_0 ld) ?_
        refine g_iload_n (pc1 := 41) d_Slots_bring_40 rfl 1 rfl ?_
        obtain ⟨X840, hX840, rX840⟩ := rfArr_361 ld (vin_of h835 h836 (by decide))
        refine g_aald (pc1 := 42) d_Slots_bring_41 rfl sh_361 (by decide) (vin_of h835 h836 (by decide)) rX840 ?_
        refine g_callV0 (pc1 := 45) (As := [.ref X840]) (rest := []) d_Slots_bring_42 rfl mo_Slots_22 mi_State_copyFrom mv_State_copyFrom rfl (shSt_0 hX2) (ltSt_0 hX2) (by decide) rfl rfl (Nat.le_of_ble_eq_true rfl) ?_
        refine t1_State_copyFrom hld X2 hX2 X840 hX840 (fun  M841 L842 k843 => ?_)
        refine g_iconst (pc1 := 46) (v := 1) d_Slots_bring_45 rfl (by decide) ?_
        refine g_ireturn (Or.inr ⟨rfl, rfl⟩) d_Slots_bring_46 rfl ?_
        exact hQ _ _ _ (Or.inr rfl) (Kp.trans Kp.rf k843)
      · refine g_iconst (pc1 := 34) (v := 0) d_Slots_bring_33 rfl (by decide) ?_
        refine g_ireturn (Or.inr ⟨rfl, rfl⟩) d_Slots_bring_34 rfl ?_
        exact hQ _ _ _ (Or.inl rfl) Kp.rf
set_option maxHeartbeats 4000000 in
set_option maxRecDepth 20000 in
theorem t1_Slots_keep {l : Launch} {ld : Nat} (hld : isLa ld) {M : gM} {L : gL} {Q : Option Value → gM → gL → gR → Prop} (p1 : Int32) (X2 : Nat) (hX2 : isSt X2) (hQ : ∀ (r : Int32) (M' : gM) (L' : gL), (r = 0 ∨ r = 1) → Kp S1 M L M' L' → Q (some (.int r)) M' L' (rf ld)) : Tm l y_Slots_keep (0, 0, 447) 447 [.ref 360, .int p1, .ref X2] M L (rf ld) Q := by
  refine Tm.of (by decide) (Nat.le_of_ble_eq_true rfl) ?_
  show Wp l y_Slots_keep (0, 0, 447) 447 0 0 0 [(0, .ref 360), (1, .int p1), (2, .ref X2)] [] M L (rf ld) Q
  refine g_iload_n (pc1 := 1) d_Slots_keep_0 rfl 1 rfl ?_
  refine g_if_lt (pc1 := 4) (tgt := 22) d_Slots_keep_1 (by decide) rfl (fun h844 => ?_) (fun h844 => ?_)
  · refine g_iconst (pc1 := 23) (v := 0) d_Slots_keep_22 rfl (by decide) ?_
    refine g_ireturn (Or.inr ⟨rfl, rfl⟩) d_Slots_keep_23 rfl ?_
    exact hQ _ _ _ (Or.inl rfl) Kp.rf
  · refine g_iload_n (pc1 := 5) d_Slots_keep_4 rfl 1 rfl ?_
    refine g_aload_n (pc1 := 6) d_Slots_keep_5 rfl 0 rfl ?_
    refine g_getr (pc1 := 9) d_Slots_keep_6 rfl ⟨_, fo_Slots_11⟩ sh_360 (by decide) (rf_360_0 ld) ?_
    refine g_alen (pc1 := 10) (v := 3) d_Slots_keep_9 rfl sh_361 (by decide) (by decide) (by decide) (by decide) ?_
    refine g_icmp_ge (pc1 := 13) (tgt := 22) d_Slots_keep_10 (by decide) rfl (fun h845 => ?_) (fun h845 => ?_)
    · refine g_iconst (pc1 := 23) (v := 0) d_Slots_keep_22 rfl (by decide) ?_
      refine g_ireturn (Or.inr ⟨rfl, rfl⟩) d_Slots_keep_23 rfl ?_
      exact hQ _ _ _ (Or.inl rfl) Kp.rf
    · refine g_aload_n (pc1 := 14) d_Slots_keep_13 rfl 0 rfl ?_
      refine g_getr (pc1 := 17) d_Slots_keep_14 rfl ⟨_, fo_Slots_11⟩ sh_360 (by decide) (rf_360_0 ld) ?_
      refine g_iload_n (pc1 := 18) d_Slots_keep_17 rfl 1 rfl ?_
      obtain ⟨X846, hX846, rX846⟩ := rfArr_361 ld (vin_of h844 h845 (by decide))
      refine g_aald (pc1 := 19) d_Slots_keep_18 rfl sh_361 (by decide) (vin_of h844 h845 (by decide)) rX846 ?_
      refine g_nonnull (tgt := 24) d_Slots_keep_19 (by decide) ?_
      refine g_aload_n (pc1 := 25) d_Slots_keep_24 rfl 0 rfl ?_
      refine g_getr (pc1 := 28) d_Slots_keep_25 rfl ⟨_, fo_Slots_11⟩ sh_360 (by decide) (rf_360_0 ld) ?_
      refine g_iload_n (pc1 := 29) d_Slots_keep_28 rfl 1 rfl ?_
      obtain ⟨X847, hX847, rX847⟩ := rfArr_361 ld (vin_of h844 h845 (by decide))
      refine g_aald (pc1 := 30) d_Slots_keep_29 rfl sh_361 (by decide) (vin_of h844 h845 (by decide)) rX847 ?_
      refine g_aload_n (pc1 := 31) d_Slots_keep_30 rfl 2 rfl ?_
      refine g_callV0 (pc1 := 34) (As := [.ref X2]) (rest := []) d_Slots_keep_31 rfl mo_Slots_22 mi_State_copyFrom mv_State_copyFrom rfl (shSt_0 hX847) (ltSt_0 hX847) (by decide) rfl rfl (Nat.le_of_ble_eq_true rfl) ?_
      refine t1_State_copyFrom hld X847 hX847 X2 hX2 (fun  M848 L849 k850 => ?_)
      refine g_aload_n (pc1 := 35) d_Slots_keep_34 rfl 0 rfl ?_
      refine g_dup (pc1 := 36) d_Slots_keep_35 rfl rfl ?_
      refine g_geti (pc1 := 39) d_Slots_keep_36 rfl ⟨_, fo_Slots_18⟩ sh_360 (by decide) ?_
      refine g_iconst (pc1 := 40) (v := 1) d_Slots_keep_39 rfl (by decide) ?_
      refine g_iload_n (pc1 := 41) d_Slots_keep_40 rfl 1 rfl ?_
      refine g_ishl (pc1 := 42) d_Slots_keep_41 rfl ?_
      refine g_ior (pc1 := 43) d_Slots_keep_42 rfl ?_
      refine g_puti (pc1 := 46) d_Slots_keep_43 rfl fo_Slots_18 (po_8_1 _) sh_360 (by decide) ?_
      refine Wp.topM (fun M851 eM851 => ?_)
      refine g_iconst (pc1 := 47) (v := 1) d_Slots_keep_46 rfl (by decide) ?_
      refine g_ireturn (Or.inr ⟨rfl, rfl⟩) d_Slots_keep_47 rfl ?_
      exact hQ _ _ _ (Or.inr rfl) (Kp.wM (Kp.trans Kp.rf k850) rfl eM851)
set_option maxHeartbeats 4000000 in
set_option maxRecDepth 20000 in
theorem t1_State_inStore {l : Launch} {ld : Nat} (hld : isLa ld) {M : gM} {L : gL} {Q : Option Value → gM → gL → gR → Prop} (X0 : Nat) (hX0 : isSt X0) (Ld1 : Nat) (hLd1 : isLa Ld1) (p2 : Int32) (hQ : ∀ (r : Int32) , (r = 0 ∨ r = 1) → Q (some (.int r)) M L (rf ld)) : Tm l y_State_inStore (0, 0, 447) 447 [.ref X0, .ref Ld1, .int p2] M L (rf ld) Q := by
  refine Tm.of (by decide) (Nat.le_of_ble_eq_true rfl) ?_
  show Wp l y_State_inStore (0, 0, 447) 447 0 0 0 [(0, .ref X0), (1, .ref Ld1), (2, .int p2)] [] M L (rf ld) Q
  refine g_iconst (pc1 := 1) (v := 0) d_State_inStore_0 rfl (by decide) ?_
  refine g_istore_n (pc1 := 2) (lv' := [(0, .ref X0), (1, .ref Ld1), (2, .int p2), (3, .int 0)]) d_State_inStore_1 rfl rfl (by decide) [1, 2, 3, 0] rfl ?_
  have LP855 : ∀ (f852 : Nat) (v856 : Int32), ¬ v856 < 0 → ((M Ld1 0).toInt - v856.toInt).toNat < f852 → Wp l y_State_inStore (0, 0, 447) 447 0 0 2 [(0, .ref X0), (1, .ref Ld1), (2, .int p2), (3, .int v856)] [] M L (rf ld) Q := by
    intro f852
    induction f852 with
    | zero => intro v856 _ hm854; exact absurd hm854 (Nat.not_lt_zero _)
    | succ f852 ih853 =>
      intro v856 n857 hm854
      refine g_iload_n (pc1 := 3) d_State_inStore_2 rfl 3 rfl ?_
      refine g_aload_n (pc1 := 4) d_State_inStore_3 rfl 1 rfl ?_
      refine g_geti (pc1 := 7) d_State_inStore_4 rfl ⟨_, fo_State_47⟩ (shLa_0 hLd1) (ltLa_0 hLd1) ?_
      refine g_icmp_ge (pc1 := 10) (tgt := 35) d_State_inStore_7 (by decide) rfl (fun h858 => ?_) (fun h858 => ?_)
      · refine g_iconst (pc1 := 36) (v := 1) d_State_inStore_35 rfl (by decide) ?_
        refine g_ireturn (Or.inr ⟨rfl, rfl⟩) d_State_inStore_36 rfl ?_
        exact hQ _ (Or.inr rfl)
      · refine g_aload_n (pc1 := 11) d_State_inStore_10 rfl 0 rfl ?_
        refine g_getr (pc1 := 14) d_State_inStore_11 rfl ⟨_, fo_State_19⟩ (shSt_0 hX0) (ltSt_0 hX0) (rfSt_5 ld hX0) ?_
        refine g_iload_n (pc1 := 15) d_State_inStore_14 rfl 3 rfl ?_
        refine g_callS0 (pc1 := 18) (As := [.ref (X0 + 2), .int v856]) (rest := []) d_State_inStore_15 rfl mo_State_53 ms_Main_at (by decide) rfl rfl (Nat.le_of_ble_eq_true rfl) ?_
        refine t1_Main_at hld (X0 + 2) (shSt_2 hX0) (ltSt_2 hX0) (by decide) _ (fun r859 => ?_)
        refine g_aload_n (pc1 := 19) d_State_inStore_18 rfl 1 rfl ?_
        refine g_iload_n (pc1 := 20) d_State_inStore_19 rfl 2 rfl ?_
        refine g_iload_n (pc1 := 21) d_State_inStore_20 rfl 3 rfl ?_
        refine g_callV0 (pc1 := 24) (As := [.int p2, .int v856]) (rest := [.int r859]) d_State_inStore_21 rfl mo_State_65 mi_Land_inDish mv_Land_inDish rfl (shLa_0 hLd1) (ltLa_0 hLd1) (by decide) rfl rfl (Nat.le_of_ble_eq_true rfl) ?_
        refine t1_Land_inDish hld Ld1 hLd1 _ _ (fun r860 => ?_)
        refine g_icmp_ge (pc1 := 27) (tgt := 29) d_State_inStore_24 (by decide) rfl (fun h861 => ?_) (fun h861 => ?_)
        · obtain ⟨x862, ex862⟩ : ∃ y : Int32, y = v856 + 1 := ⟨_, rfl⟩
          refine g_iinc (pc1 := 32) (v := x862) (lv' := [(0, .ref X0), (1, .ref Ld1), (2, .int p2), (3, .int x862)]) d_State_inStore_29 rfl 3 rfl (by rw [ex862]; rfl) (by decide) [1, 2, 3, 0] rfl ?_
          refine g_goto (tgt := 2) d_State_inStore_32 (by decide) ?_
          exact ih853 x862 (nn_up (y := (M Ld1 0)) h858 ex862 n857) (md_up h858 ex862 hm854)
        · refine g_iconst (pc1 := 28) (v := 0) d_State_inStore_27 rfl (by decide) ?_
          refine g_ireturn (Or.inr ⟨rfl, rfl⟩) d_State_inStore_28 rfl ?_
          exact hQ _ (Or.inl rfl)
  exact LP855 _ 0 (by decide) (Nat.lt_succ_self _)
set_option maxHeartbeats 4000000 in
set_option maxRecDepth 20000 in
theorem t1_Tokens_cutOne {l : Launch} {ld : Nat} (hld : isLa ld) {M : gM} {L : gL} {Q : Option Value → gM → gL → gR → Prop} (p2 : Int32) (p3 : Int32) (hQ : ∀ (r : Int32) (M' : gM) (L' : gL), Kp S2 M L M' L' → Q (some (.int r)) M' L' (rf ld)) : Tm l y_Tokens_cutOne (0, 0, 447) 447 [.ref 4, .ref 1, .int p2, .int p3] M L (rf ld) Q := by
  refine Tm.of (by decide) (Nat.le_of_ble_eq_true rfl) ?_
  show Wp l y_Tokens_cutOne (0, 0, 447) 447 0 0 0 [(0, .ref 4), (1, .ref 1), (2, .int p2), (3, .int p3)] [] M L (rf ld) Q
  refine g_aload_n (pc1 := 1) d_Tokens_cutOne_0 rfl 1 rfl ?_
  refine g_iload_n (pc1 := 2) d_Tokens_cutOne_1 rfl 2 rfl ?_
  refine g_callV0 (pc1 := 5) (As := [.int p2]) (rest := []) d_Tokens_cutOne_2 rfl mo_Tokens_60 mi_Tape_byteAt mv_Tape_byteAt rfl sh_1 (by decide) (by decide) rfl rfl (Nat.le_of_ble_eq_true rfl) ?_
  refine t1_Tape_byteAt hld _ (fun r863 => ?_)
  refine g_istore (pc1 := 7) (lv' := [(0, .ref 4), (1, .ref 1), (2, .int p2), (3, .int p3), (4, .int r863)]) d_Tokens_cutOne_5 rfl (by decide) [1, 2, 3, 4, 0] rfl ?_
  refine g_iload (pc1 := 9) d_Tokens_cutOne_7 rfl 4 rfl ?_
  refine g_bipush (pc1 := 11) (v := 97) d_Tokens_cutOne_9 rfl (by decide) ?_
  refine g_icmp_lt (pc1 := 14) (tgt := 29) d_Tokens_cutOne_11 (by decide) rfl (fun h864 => ?_) (fun h864 => ?_)
  · refine g_iload (pc1 := 31) d_Tokens_cutOne_29 rfl 4 rfl ?_
    refine g_bipush (pc1 := 33) (v := 48) d_Tokens_cutOne_31 rfl (by decide) ?_
    refine g_icmp_lt (pc1 := 36) (tgt := 51) d_Tokens_cutOne_33 (by decide) rfl (fun h865 => ?_) (fun h865 => ?_)
    · refine g_iload (pc1 := 53) d_Tokens_cutOne_51 rfl 4 rfl ?_
      refine g_if_ge (pc1 := 56) (tgt := 66) d_Tokens_cutOne_53 (by decide) rfl (fun h866 => ?_) (fun h866 => ?_)
      · refine g_aload_n (pc1 := 67) d_Tokens_cutOne_66 rfl 0 rfl ?_
        refine g_iload_n (pc1 := 68) d_Tokens_cutOne_67 rfl 3 rfl ?_
        refine g_iload (pc1 := 70) d_Tokens_cutOne_68 rfl 4 rfl ?_
        refine g_callS0 (pc1 := 73) (As := [.int r863]) (rest := [.int p3, .ref 4]) d_Tokens_cutOne_70 rfl mo_Tokens_78 ms_Tokens_isSign (by decide) rfl rfl (Nat.le_of_ble_eq_true rfl) ?_
        refine t1_Tokens_isSign hld _ (fun r867 hr867 => ?_)
        refine g_if_eq (pc1 := 76) (tgt := 81) d_Tokens_cutOne_73 (by decide) rfl (fun h868 => ?_) (fun h868 => ?_)
        · refine g_iconst (pc1 := 82) (v := 1) d_Tokens_cutOne_81 rfl (by decide) ?_
          refine g_lconst (pc1 := 83) (v := 0) d_Tokens_cutOne_82 rfl (by decide) ?_
          refine g_callV0 (pc1 := 86) (As := [.int p3, .int 1, .long 0]) (rest := []) d_Tokens_cutOne_83 rfl mo_Tokens_74 mi_Tokens_set mv_Tokens_set rfl sh_4 (by decide) (by decide) rfl rfl (Nat.le_of_ble_eq_true rfl) ?_
          refine t1_Tokens_set hld _ _ _ (fun  M869 L870 k871 => ?_)
          refine g_iload_n (pc1 := 87) d_Tokens_cutOne_86 rfl 2 rfl ?_
          refine g_iconst (pc1 := 88) (v := 1) d_Tokens_cutOne_87 rfl (by decide) ?_
          refine g_iadd (pc1 := 89) d_Tokens_cutOne_88 rfl ?_
          refine g_ireturn (Or.inl rfl) d_Tokens_cutOne_89 rfl ?_
          exact hQ _ _ _ (Kp.trans Kp.rf k871)
        · refine g_iload (pc1 := 78) d_Tokens_cutOne_76 rfl 4 rfl ?_
          refine g_goto (tgt := 82) d_Tokens_cutOne_78 (by decide) ?_
          refine g_lconst (pc1 := 83) (v := 0) d_Tokens_cutOne_82 rfl (by decide) ?_
          refine g_callV0 (pc1 := 86) (As := [.int p3, .int r863, .long 0]) (rest := []) d_Tokens_cutOne_83 rfl mo_Tokens_74 mi_Tokens_set mv_Tokens_set rfl sh_4 (by decide) (by decide) rfl rfl (Nat.le_of_ble_eq_true rfl) ?_
          refine t1_Tokens_set hld _ _ _ (fun  M872 L873 k874 => ?_)
          refine g_iload_n (pc1 := 87) d_Tokens_cutOne_86 rfl 2 rfl ?_
          refine g_iconst (pc1 := 88) (v := 1) d_Tokens_cutOne_87 rfl (by decide) ?_
          refine g_iadd (pc1 := 89) d_Tokens_cutOne_88 rfl ?_
          refine g_ireturn (Or.inl rfl) d_Tokens_cutOne_89 rfl ?_
          exact hQ _ _ _ (Kp.trans Kp.rf k874)
      · refine g_aload_n (pc1 := 57) d_Tokens_cutOne_56 rfl 0 rfl ?_
        refine g_iload_n (pc1 := 58) d_Tokens_cutOne_57 rfl 3 rfl ?_
        refine g_iconst (pc1 := 59) (v := 0) d_Tokens_cutOne_58 rfl (by decide) ?_
        refine g_lconst (pc1 := 60) (v := 0) d_Tokens_cutOne_59 rfl (by decide) ?_
        refine g_callV0 (pc1 := 63) (As := [.int p3, .int 0, .long 0]) (rest := []) d_Tokens_cutOne_60 rfl mo_Tokens_74 mi_Tokens_set mv_Tokens_set rfl sh_4 (by decide) (by decide) rfl rfl (Nat.le_of_ble_eq_true rfl) ?_
        refine t1_Tokens_set hld _ _ _ (fun  M875 L876 k877 => ?_)
        refine g_goto (tgt := 86) d_Tokens_cutOne_63 (by decide) ?_
        refine g_iload_n (pc1 := 87) d_Tokens_cutOne_86 rfl 2 rfl ?_
        refine g_iconst (pc1 := 88) (v := 1) d_Tokens_cutOne_87 rfl (by decide) ?_
        refine g_iadd (pc1 := 89) d_Tokens_cutOne_88 rfl ?_
        refine g_ireturn (Or.inl rfl) d_Tokens_cutOne_89 rfl ?_
        exact hQ _ _ _ (Kp.trans Kp.rf k877)
    · refine g_iload (pc1 := 38) d_Tokens_cutOne_36 rfl 4 rfl ?_
      refine g_bipush (pc1 := 40) (v := 57) d_Tokens_cutOne_38 rfl (by decide) ?_
      refine g_icmp_gt (pc1 := 43) (tgt := 51) d_Tokens_cutOne_40 (by decide) rfl (fun h878 => ?_) (fun h878 => ?_)
      · refine g_iload (pc1 := 53) d_Tokens_cutOne_51 rfl 4 rfl ?_
        refine g_if_ge (pc1 := 56) (tgt := 66) d_Tokens_cutOne_53 (by decide) rfl (fun h879 => ?_) (fun h879 => ?_)
        · refine g_aload_n (pc1 := 67) d_Tokens_cutOne_66 rfl 0 rfl ?_
          refine g_iload_n (pc1 := 68) d_Tokens_cutOne_67 rfl 3 rfl ?_
          refine g_iload (pc1 := 70) d_Tokens_cutOne_68 rfl 4 rfl ?_
          refine g_callS0 (pc1 := 73) (As := [.int r863]) (rest := [.int p3, .ref 4]) d_Tokens_cutOne_70 rfl mo_Tokens_78 ms_Tokens_isSign (by decide) rfl rfl (Nat.le_of_ble_eq_true rfl) ?_
          refine t1_Tokens_isSign hld _ (fun r880 hr880 => ?_)
          refine g_if_eq (pc1 := 76) (tgt := 81) d_Tokens_cutOne_73 (by decide) rfl (fun h881 => ?_) (fun h881 => ?_)
          · refine g_iconst (pc1 := 82) (v := 1) d_Tokens_cutOne_81 rfl (by decide) ?_
            refine g_lconst (pc1 := 83) (v := 0) d_Tokens_cutOne_82 rfl (by decide) ?_
            refine g_callV0 (pc1 := 86) (As := [.int p3, .int 1, .long 0]) (rest := []) d_Tokens_cutOne_83 rfl mo_Tokens_74 mi_Tokens_set mv_Tokens_set rfl sh_4 (by decide) (by decide) rfl rfl (Nat.le_of_ble_eq_true rfl) ?_
            refine t1_Tokens_set hld _ _ _ (fun  M882 L883 k884 => ?_)
            refine g_iload_n (pc1 := 87) d_Tokens_cutOne_86 rfl 2 rfl ?_
            refine g_iconst (pc1 := 88) (v := 1) d_Tokens_cutOne_87 rfl (by decide) ?_
            refine g_iadd (pc1 := 89) d_Tokens_cutOne_88 rfl ?_
            refine g_ireturn (Or.inl rfl) d_Tokens_cutOne_89 rfl ?_
            exact hQ _ _ _ (Kp.trans Kp.rf k884)
          · refine g_iload (pc1 := 78) d_Tokens_cutOne_76 rfl 4 rfl ?_
            refine g_goto (tgt := 82) d_Tokens_cutOne_78 (by decide) ?_
            refine g_lconst (pc1 := 83) (v := 0) d_Tokens_cutOne_82 rfl (by decide) ?_
            refine g_callV0 (pc1 := 86) (As := [.int p3, .int r863, .long 0]) (rest := []) d_Tokens_cutOne_83 rfl mo_Tokens_74 mi_Tokens_set mv_Tokens_set rfl sh_4 (by decide) (by decide) rfl rfl (Nat.le_of_ble_eq_true rfl) ?_
            refine t1_Tokens_set hld _ _ _ (fun  M885 L886 k887 => ?_)
            refine g_iload_n (pc1 := 87) d_Tokens_cutOne_86 rfl 2 rfl ?_
            refine g_iconst (pc1 := 88) (v := 1) d_Tokens_cutOne_87 rfl (by decide) ?_
            refine g_iadd (pc1 := 89) d_Tokens_cutOne_88 rfl ?_
            refine g_ireturn (Or.inl rfl) d_Tokens_cutOne_89 rfl ?_
            exact hQ _ _ _ (Kp.trans Kp.rf k887)
        · refine g_aload_n (pc1 := 57) d_Tokens_cutOne_56 rfl 0 rfl ?_
          refine g_iload_n (pc1 := 58) d_Tokens_cutOne_57 rfl 3 rfl ?_
          refine g_iconst (pc1 := 59) (v := 0) d_Tokens_cutOne_58 rfl (by decide) ?_
          refine g_lconst (pc1 := 60) (v := 0) d_Tokens_cutOne_59 rfl (by decide) ?_
          refine g_callV0 (pc1 := 63) (As := [.int p3, .int 0, .long 0]) (rest := []) d_Tokens_cutOne_60 rfl mo_Tokens_74 mi_Tokens_set mv_Tokens_set rfl sh_4 (by decide) (by decide) rfl rfl (Nat.le_of_ble_eq_true rfl) ?_
          refine t1_Tokens_set hld _ _ _ (fun  M888 L889 k890 => ?_)
          refine g_goto (tgt := 86) d_Tokens_cutOne_63 (by decide) ?_
          refine g_iload_n (pc1 := 87) d_Tokens_cutOne_86 rfl 2 rfl ?_
          refine g_iconst (pc1 := 88) (v := 1) d_Tokens_cutOne_87 rfl (by decide) ?_
          refine g_iadd (pc1 := 89) d_Tokens_cutOne_88 rfl ?_
          refine g_ireturn (Or.inl rfl) d_Tokens_cutOne_89 rfl ?_
          exact hQ _ _ _ (Kp.trans Kp.rf k890)
      · refine g_aload_n (pc1 := 44) d_Tokens_cutOne_43 rfl 0 rfl ?_
        refine g_aload_n (pc1 := 45) d_Tokens_cutOne_44 rfl 1 rfl ?_
        refine g_iload_n (pc1 := 46) d_Tokens_cutOne_45 rfl 2 rfl ?_
        refine g_iload_n (pc1 := 47) d_Tokens_cutOne_46 rfl 3 rfl ?_
        refine g_callV0 (pc1 := 50) (As := [.ref 1, .int p2, .int p3]) (rest := []) d_Tokens_cutOne_47 rfl mo_Tokens_71 mi_Tokens_cutDigits mv_Tokens_cutDigits rfl sh_4 (by decide) (by decide) rfl rfl (Nat.le_of_ble_eq_true rfl) ?_
        refine t1_Tokens_cutDigits hld _ _ (fun r891 M892 L893 k894 => ?_)
        refine g_ireturn (Or.inl rfl) d_Tokens_cutOne_50 rfl ?_
        exact hQ _ _ _ (Kp.trans Kp.rf k894)
  · refine g_iload (pc1 := 16) d_Tokens_cutOne_14 rfl 4 rfl ?_
    refine g_bipush (pc1 := 18) (v := 122) d_Tokens_cutOne_16 rfl (by decide) ?_
    refine g_icmp_gt (pc1 := 21) (tgt := 29) d_Tokens_cutOne_18 (by decide) rfl (fun h895 => ?_) (fun h895 => ?_)
    · refine g_iload (pc1 := 31) d_Tokens_cutOne_29 rfl 4 rfl ?_
      refine g_bipush (pc1 := 33) (v := 48) d_Tokens_cutOne_31 rfl (by decide) ?_
      refine g_icmp_lt (pc1 := 36) (tgt := 51) d_Tokens_cutOne_33 (by decide) rfl (fun h896 => ?_) (fun h896 => ?_)
      · refine g_iload (pc1 := 53) d_Tokens_cutOne_51 rfl 4 rfl ?_
        refine g_if_ge (pc1 := 56) (tgt := 66) d_Tokens_cutOne_53 (by decide) rfl (fun h897 => ?_) (fun h897 => ?_)
        · refine g_aload_n (pc1 := 67) d_Tokens_cutOne_66 rfl 0 rfl ?_
          refine g_iload_n (pc1 := 68) d_Tokens_cutOne_67 rfl 3 rfl ?_
          refine g_iload (pc1 := 70) d_Tokens_cutOne_68 rfl 4 rfl ?_
          refine g_callS0 (pc1 := 73) (As := [.int r863]) (rest := [.int p3, .ref 4]) d_Tokens_cutOne_70 rfl mo_Tokens_78 ms_Tokens_isSign (by decide) rfl rfl (Nat.le_of_ble_eq_true rfl) ?_
          refine t1_Tokens_isSign hld _ (fun r898 hr898 => ?_)
          refine g_if_eq (pc1 := 76) (tgt := 81) d_Tokens_cutOne_73 (by decide) rfl (fun h899 => ?_) (fun h899 => ?_)
          · refine g_iconst (pc1 := 82) (v := 1) d_Tokens_cutOne_81 rfl (by decide) ?_
            refine g_lconst (pc1 := 83) (v := 0) d_Tokens_cutOne_82 rfl (by decide) ?_
            refine g_callV0 (pc1 := 86) (As := [.int p3, .int 1, .long 0]) (rest := []) d_Tokens_cutOne_83 rfl mo_Tokens_74 mi_Tokens_set mv_Tokens_set rfl sh_4 (by decide) (by decide) rfl rfl (Nat.le_of_ble_eq_true rfl) ?_
            refine t1_Tokens_set hld _ _ _ (fun  M900 L901 k902 => ?_)
            refine g_iload_n (pc1 := 87) d_Tokens_cutOne_86 rfl 2 rfl ?_
            refine g_iconst (pc1 := 88) (v := 1) d_Tokens_cutOne_87 rfl (by decide) ?_
            refine g_iadd (pc1 := 89) d_Tokens_cutOne_88 rfl ?_
            refine g_ireturn (Or.inl rfl) d_Tokens_cutOne_89 rfl ?_
            exact hQ _ _ _ (Kp.trans Kp.rf k902)
          · refine g_iload (pc1 := 78) d_Tokens_cutOne_76 rfl 4 rfl ?_
            refine g_goto (tgt := 82) d_Tokens_cutOne_78 (by decide) ?_
            refine g_lconst (pc1 := 83) (v := 0) d_Tokens_cutOne_82 rfl (by decide) ?_
            refine g_callV0 (pc1 := 86) (As := [.int p3, .int r863, .long 0]) (rest := []) d_Tokens_cutOne_83 rfl mo_Tokens_74 mi_Tokens_set mv_Tokens_set rfl sh_4 (by decide) (by decide) rfl rfl (Nat.le_of_ble_eq_true rfl) ?_
            refine t1_Tokens_set hld _ _ _ (fun  M903 L904 k905 => ?_)
            refine g_iload_n (pc1 := 87) d_Tokens_cutOne_86 rfl 2 rfl ?_
            refine g_iconst (pc1 := 88) (v := 1) d_Tokens_cutOne_87 rfl (by decide) ?_
            refine g_iadd (pc1 := 89) d_Tokens_cutOne_88 rfl ?_
            refine g_ireturn (Or.inl rfl) d_Tokens_cutOne_89 rfl ?_
            exact hQ _ _ _ (Kp.trans Kp.rf k905)
        · refine g_aload_n (pc1 := 57) d_Tokens_cutOne_56 rfl 0 rfl ?_
          refine g_iload_n (pc1 := 58) d_Tokens_cutOne_57 rfl 3 rfl ?_
          refine g_iconst (pc1 := 59) (v := 0) d_Tokens_cutOne_58 rfl (by decide) ?_
          refine g_lconst (pc1 := 60) (v := 0) d_Tokens_cutOne_59 rfl (by decide) ?_
          refine g_callV0 (pc1 := 63) (As := [.int p3, .int 0, .long 0]) (rest := []) d_Tokens_cutOne_60 rfl mo_Tokens_74 mi_Tokens_set mv_Tokens_set rfl sh_4 (by decide) (by decide) rfl rfl (Nat.le_of_ble_eq_true rfl) ?_
          refine t1_Tokens_set hld _ _ _ (fun  M906 L907 k908 => ?_)
          refine g_goto (tgt := 86) d_Tokens_cutOne_63 (by decide) ?_
          refine g_iload_n (pc1 := 87) d_Tokens_cutOne_86 rfl 2 rfl ?_
          refine g_iconst (pc1 := 88) (v := 1) d_Tokens_cutOne_87 rfl (by decide) ?_
          refine g_iadd (pc1 := 89) d_Tokens_cutOne_88 rfl ?_
          refine g_ireturn (Or.inl rfl) d_Tokens_cutOne_89 rfl ?_
          exact hQ _ _ _ (Kp.trans Kp.rf k908)
      · refine g_iload (pc1 := 38) d_Tokens_cutOne_36 rfl 4 rfl ?_
        refine g_bipush (pc1 := 40) (v := 57) d_Tokens_cutOne_38 rfl (by decide) ?_
        refine g_icmp_gt (pc1 := 43) (tgt := 51) d_Tokens_cutOne_40 (by decide) rfl (fun h909 => ?_) (fun h909 => ?_)
        · refine g_iload (pc1 := 53) d_Tokens_cutOne_51 rfl 4 rfl ?_
          refine g_if_ge (pc1 := 56) (tgt := 66) d_Tokens_cutOne_53 (by decide) rfl (fun h910 => ?_) (fun h910 => ?_)
          · refine g_aload_n (pc1 := 67) d_Tokens_cutOne_66 rfl 0 rfl ?_
            refine g_iload_n (pc1 := 68) d_Tokens_cutOne_67 rfl 3 rfl ?_
            refine g_iload (pc1 := 70) d_Tokens_cutOne_68 rfl 4 rfl ?_
            refine g_callS0 (pc1 := 73) (As := [.int r863]) (rest := [.int p3, .ref 4]) d_Tokens_cutOne_70 rfl mo_Tokens_78 ms_Tokens_isSign (by decide) rfl rfl (Nat.le_of_ble_eq_true rfl) ?_
            refine t1_Tokens_isSign hld _ (fun r911 hr911 => ?_)
            refine g_if_eq (pc1 := 76) (tgt := 81) d_Tokens_cutOne_73 (by decide) rfl (fun h912 => ?_) (fun h912 => ?_)
            · refine g_iconst (pc1 := 82) (v := 1) d_Tokens_cutOne_81 rfl (by decide) ?_
              refine g_lconst (pc1 := 83) (v := 0) d_Tokens_cutOne_82 rfl (by decide) ?_
              refine g_callV0 (pc1 := 86) (As := [.int p3, .int 1, .long 0]) (rest := []) d_Tokens_cutOne_83 rfl mo_Tokens_74 mi_Tokens_set mv_Tokens_set rfl sh_4 (by decide) (by decide) rfl rfl (Nat.le_of_ble_eq_true rfl) ?_
              refine t1_Tokens_set hld _ _ _ (fun  M913 L914 k915 => ?_)
              refine g_iload_n (pc1 := 87) d_Tokens_cutOne_86 rfl 2 rfl ?_
              refine g_iconst (pc1 := 88) (v := 1) d_Tokens_cutOne_87 rfl (by decide) ?_
              refine g_iadd (pc1 := 89) d_Tokens_cutOne_88 rfl ?_
              refine g_ireturn (Or.inl rfl) d_Tokens_cutOne_89 rfl ?_
              exact hQ _ _ _ (Kp.trans Kp.rf k915)
            · refine g_iload (pc1 := 78) d_Tokens_cutOne_76 rfl 4 rfl ?_
              refine g_goto (tgt := 82) d_Tokens_cutOne_78 (by decide) ?_
              refine g_lconst (pc1 := 83) (v := 0) d_Tokens_cutOne_82 rfl (by decide) ?_
              refine g_callV0 (pc1 := 86) (As := [.int p3, .int r863, .long 0]) (rest := []) d_Tokens_cutOne_83 rfl mo_Tokens_74 mi_Tokens_set mv_Tokens_set rfl sh_4 (by decide) (by decide) rfl rfl (Nat.le_of_ble_eq_true rfl) ?_
              refine t1_Tokens_set hld _ _ _ (fun  M916 L917 k918 => ?_)
              refine g_iload_n (pc1 := 87) d_Tokens_cutOne_86 rfl 2 rfl ?_
              refine g_iconst (pc1 := 88) (v := 1) d_Tokens_cutOne_87 rfl (by decide) ?_
              refine g_iadd (pc1 := 89) d_Tokens_cutOne_88 rfl ?_
              refine g_ireturn (Or.inl rfl) d_Tokens_cutOne_89 rfl ?_
              exact hQ _ _ _ (Kp.trans Kp.rf k918)
          · refine g_aload_n (pc1 := 57) d_Tokens_cutOne_56 rfl 0 rfl ?_
            refine g_iload_n (pc1 := 58) d_Tokens_cutOne_57 rfl 3 rfl ?_
            refine g_iconst (pc1 := 59) (v := 0) d_Tokens_cutOne_58 rfl (by decide) ?_
            refine g_lconst (pc1 := 60) (v := 0) d_Tokens_cutOne_59 rfl (by decide) ?_
            refine g_callV0 (pc1 := 63) (As := [.int p3, .int 0, .long 0]) (rest := []) d_Tokens_cutOne_60 rfl mo_Tokens_74 mi_Tokens_set mv_Tokens_set rfl sh_4 (by decide) (by decide) rfl rfl (Nat.le_of_ble_eq_true rfl) ?_
            refine t1_Tokens_set hld _ _ _ (fun  M919 L920 k921 => ?_)
            refine g_goto (tgt := 86) d_Tokens_cutOne_63 (by decide) ?_
            refine g_iload_n (pc1 := 87) d_Tokens_cutOne_86 rfl 2 rfl ?_
            refine g_iconst (pc1 := 88) (v := 1) d_Tokens_cutOne_87 rfl (by decide) ?_
            refine g_iadd (pc1 := 89) d_Tokens_cutOne_88 rfl ?_
            refine g_ireturn (Or.inl rfl) d_Tokens_cutOne_89 rfl ?_
            exact hQ _ _ _ (Kp.trans Kp.rf k921)
        · refine g_aload_n (pc1 := 44) d_Tokens_cutOne_43 rfl 0 rfl ?_
          refine g_aload_n (pc1 := 45) d_Tokens_cutOne_44 rfl 1 rfl ?_
          refine g_iload_n (pc1 := 46) d_Tokens_cutOne_45 rfl 2 rfl ?_
          refine g_iload_n (pc1 := 47) d_Tokens_cutOne_46 rfl 3 rfl ?_
          refine g_callV0 (pc1 := 50) (As := [.ref 1, .int p2, .int p3]) (rest := []) d_Tokens_cutOne_47 rfl mo_Tokens_71 mi_Tokens_cutDigits mv_Tokens_cutDigits rfl sh_4 (by decide) (by decide) rfl rfl (Nat.le_of_ble_eq_true rfl) ?_
          refine t1_Tokens_cutDigits hld _ _ (fun r922 M923 L924 k925 => ?_)
          refine g_ireturn (Or.inl rfl) d_Tokens_cutOne_50 rfl ?_
          exact hQ _ _ _ (Kp.trans Kp.rf k925)
    · refine g_aload_n (pc1 := 22) d_Tokens_cutOne_21 rfl 0 rfl ?_
      refine g_aload_n (pc1 := 23) d_Tokens_cutOne_22 rfl 1 rfl ?_
      refine g_iload_n (pc1 := 24) d_Tokens_cutOne_23 rfl 2 rfl ?_
      refine g_iload_n (pc1 := 25) d_Tokens_cutOne_24 rfl 3 rfl ?_
      refine g_callV0 (pc1 := 28) (As := [.ref 1, .int p2, .int p3]) (rest := []) d_Tokens_cutOne_25 rfl mo_Tokens_68 mi_Tokens_cutLetters mv_Tokens_cutLetters rfl sh_4 (by decide) (by decide) rfl rfl (Nat.le_of_ble_eq_true rfl) ?_
      refine t1_Tokens_cutLetters hld _ _ (fun r926 M927 L928 k929 => ?_)
      refine g_ireturn (Or.inl rfl) d_Tokens_cutOne_28 rfl ?_
      exact hQ _ _ _ (Kp.trans Kp.rf k929)
set_option maxHeartbeats 4000000 in
set_option maxRecDepth 20000 in
theorem t1_Main_hold {l : Launch} {ld : Nat} (hld : isLa ld) {M : gM} {L : gL} {Q : Option Value → gM → gL → gR → Prop} (p1 : Int32) (hQ : ∀ (r : Int32) (M' : gM) (L' : gL), (r = 0 ∨ r = 1) → Kp S1 M L M' L' → Q (some (.int r)) M' L' (rf ld)) : Tm l y_Main_hold (0, 0, 447) 447 [.ref 0, .int p1] M L (rf ld) Q := by
  refine Tm.of (by decide) (Nat.le_of_ble_eq_true rfl) ?_
  show Wp l y_Main_hold (0, 0, 447) 447 0 0 0 [(0, .ref 0), (1, .int p1)] [] M L (rf ld) Q
  refine g_aload_n (pc1 := 1) d_Main_hold_0 rfl 0 rfl ?_
  refine g_getr (pc1 := 4) d_Main_hold_1 rfl ⟨_, fo_Main_53⟩ sh_0 (by decide) (rf_0_7 ld) ?_
  refine g_iload_n (pc1 := 5) d_Main_hold_4 rfl 1 rfl ?_
  refine g_aload_n (pc1 := 6) d_Main_hold_5 rfl 0 rfl ?_
  refine g_getr (pc1 := 9) d_Main_hold_6 rfl ⟨_, fo_Main_36⟩ sh_0 (by decide) (rf_0_4 ld) ?_
  refine g_callV0 (pc1 := 12) (As := [.int p1, .ref 64]) (rest := []) d_Main_hold_9 rfl mo_Main_291 mi_Slots_keep mv_Slots_keep rfl sh_360 (by decide) (by decide) rfl rfl (Nat.le_of_ble_eq_true rfl) ?_
  refine t1_Slots_keep hld _ 64 isSt_64 (fun r930 M931 L932 hr930 k933 => ?_)
  refine g_ireturn (Or.inr ⟨rfl, nar01 hr930⟩) d_Main_hold_12 rfl ?_
  exact hQ _ _ _ hr930 (Kp.trans Kp.rf k933)
set_option maxHeartbeats 4000000 in
set_option maxRecDepth 20000 in
theorem t1_Main_restore {l : Launch} {ld : Nat} (hld : isLa ld) {M : gM} {L : gL} {Q : Option Value → gM → gL → gR → Prop} (p1 : Int32) (hQ : ∀ (r : Int32) (M' : gM) (L' : gL), (r = 0 ∨ r = 1) → Kp S1 M L M' L' → Q (some (.int r)) M' L' (rf ld)) : Tm l y_Main_restore (0, 0, 447) 447 [.ref 0, .int p1] M L (rf ld) Q := by
  refine Tm.of (by decide) (Nat.le_of_ble_eq_true rfl) ?_
  show Wp l y_Main_restore (0, 0, 447) 447 0 0 0 [(0, .ref 0), (1, .int p1)] [] M L (rf ld) Q
  refine g_aload_n (pc1 := 1) d_Main_restore_0 rfl 0 rfl ?_
  refine g_getr (pc1 := 4) d_Main_restore_1 rfl ⟨_, fo_Main_53⟩ sh_0 (by decide) (rf_0_7 ld) ?_
  refine g_iload_n (pc1 := 5) d_Main_restore_4 rfl 1 rfl ?_
  refine g_aload_n (pc1 := 6) d_Main_restore_5 rfl 0 rfl ?_
  refine g_getr (pc1 := 9) d_Main_restore_6 rfl ⟨_, fo_Main_36⟩ sh_0 (by decide) (rf_0_4 ld) ?_
  refine g_callV0 (pc1 := 12) (As := [.int p1, .ref 64]) (rest := []) d_Main_restore_9 rfl mo_Main_294 mi_Slots_bring mv_Slots_bring rfl sh_360 (by decide) (by decide) rfl rfl (Nat.le_of_ble_eq_true rfl) ?_
  refine t1_Slots_bring hld _ 64 isSt_64 (fun r934 M935 L936 hr934 k937 => ?_)
  refine g_if_ne (pc1 := 15) (tgt := 17) d_Main_restore_12 (by decide) rfl (fun h938 => ?_) (fun h938 => ?_)
  · refine g_aload_n (pc1 := 18) d_Main_restore_17 rfl 0 rfl ?_
    refine g_getr (pc1 := 21) d_Main_restore_18 rfl ⟨_, fo_Main_46⟩ sh_0 (by decide) (rf_0_6 ld) ?_
    refine g_callV0 (pc1 := 24) (As := []) (rest := []) d_Main_restore_21 rfl mo_Main_104 mi_Past_clear mv_Past_clear rfl sh_78 (by decide) (by decide) rfl rfl (Nat.le_of_ble_eq_true rfl) ?_
    refine t1_Past_clear hld  (fun  M939 L940 k941 => ?_)
    refine g_iconst (pc1 := 25) (v := 1) d_Main_restore_24 rfl (by decide) ?_
    refine g_ireturn (Or.inr ⟨rfl, rfl⟩) d_Main_restore_25 rfl ?_
    exact hQ _ _ _ (Or.inr rfl) (Kp.trans (Kp.trans Kp.rf k937) k941)
  · refine g_iconst (pc1 := 16) (v := 0) d_Main_restore_15 rfl (by decide) ?_
    refine g_ireturn (Or.inr ⟨rfl, rfl⟩) d_Main_restore_16 rfl ?_
    exact hQ _ _ _ (Or.inl rfl) (Kp.trans Kp.rf k937)
set_option maxHeartbeats 4000000 in
set_option maxRecDepth 20000 in
theorem t1_Main_undo {l : Launch} {ld : Nat} (hld : isLa ld) {M : gM} {L : gL} {Q : Option Value → gM → gL → gR → Prop}  (hQ : ∀ (r : Int32) (M' : gM) (L' : gL), (r = 0 ∨ r = 1) → Kp S1 M L M' L' → Q (some (.int r)) M' L' (rf ld)) : Tm l y_Main_undo (0, 0, 447) 447 [.ref 0] M L (rf ld) Q := by
  refine Tm.of (by decide) (Nat.le_of_ble_eq_true rfl) ?_
  show Wp l y_Main_undo (0, 0, 447) 447 0 0 0 [(0, .ref 0)] [] M L (rf ld) Q
  refine g_aload_n (pc1 := 1) d_Main_undo_0 rfl 0 rfl ?_
  refine g_getr (pc1 := 4) d_Main_undo_1 rfl ⟨_, fo_Main_46⟩ sh_0 (by decide) (rf_0_6 ld) ?_
  refine g_aload_n (pc1 := 5) d_Main_undo_4 rfl 0 rfl ?_
  refine g_getr (pc1 := 8) d_Main_undo_5 rfl ⟨_, fo_Main_36⟩ sh_0 (by decide) (rf_0_4 ld) ?_
  refine g_callV0 (pc1 := 11) (As := [.ref 64]) (rest := []) d_Main_undo_8 rfl mo_Main_218 mi_Past_takeBack mv_Past_takeBack rfl sh_78 (by decide) (by decide) rfl rfl (Nat.le_of_ble_eq_true rfl) ?_
  refine t1_Past_takeBack hld 64 isSt_64 (fun r942 M943 L944 hr942 k945 => ?_)
  refine g_ireturn (Or.inr ⟨rfl, nar01 hr942⟩) d_Main_undo_11 rfl ?_
  exact hQ _ _ _ hr942 (Kp.trans Kp.rf k945)
set_option maxHeartbeats 4000000 in
set_option maxRecDepth 20000 in
theorem t1_Land_dishForce {l : Launch} {ld : Nat} (hld : isLa ld) {M : gM} {L : gL} {Q : Option Value → gM → gL → gR → Prop} (Ld0 : Nat) (hLd0 : isLa Ld0) (p1 : Int32) (p2 : Int32) (p3 : Int32) (p4 : Int32) (hQ : ∀ (r : Int32) (M' : gM) (L' : gL), Kp S0 M L M' L' → Q (some (.int r)) M' L' (rf ld)) : Tm l y_Land_dishForce (0, 0, 447) 447 [.ref Ld0, .int p1, .int p2, .int p3, .int p4] M L (rf ld) Q := by
  refine Tm.of (by decide) (Nat.le_of_ble_eq_true rfl) ?_
  show Wp l y_Land_dishForce (0, 0, 447) 447 0 0 0 [(0, .ref Ld0), (1, .int p1), (2, .int p2), (3, .int p3), (4, .int p4)] [] M L (rf ld) Q
  refine g_aload_n (pc1 := 1) d_Land_dishForce_0 rfl 0 rfl ?_
  refine g_iload_n (pc1 := 2) d_Land_dishForce_1 rfl 1 rfl ?_
  refine g_iload_n (pc1 := 3) d_Land_dishForce_2 rfl 3 rfl ?_
  refine g_callV0 (pc1 := 6) (As := [.int p1, .int p3]) (rest := []) d_Land_dishForce_3 rfl mo_Land_105 mi_Land_sumOf mv_Land_sumOf rfl (shLa_0 hLd0) (ltLa_0 hLd0) (by decide) rfl rfl (Nat.le_of_ble_eq_true rfl) ?_
  refine t1_Land_sumOf hld Ld0 hLd0 _ _ (fun r946 => ?_)
  refine g_istore (pc1 := 8) (lv' := [(0, .ref Ld0), (1, .int p1), (2, .int p2), (3, .int p3), (4, .int p4), (5, .int r946)]) d_Land_dishForce_6 rfl (by decide) [1, 2, 3, 4, 5, 0] rfl ?_
  refine g_aload_n (pc1 := 9) d_Land_dishForce_8 rfl 0 rfl ?_
  refine g_iload_n (pc1 := 10) d_Land_dishForce_9 rfl 1 rfl ?_
  refine g_callV0 (pc1 := 13) (As := [.int p1]) (rest := []) d_Land_dishForce_10 rfl mo_Land_108 mi_Land_manyIn mv_Land_manyIn rfl (shLa_0 hLd0) (ltLa_0 hLd0) (by decide) rfl rfl (Nat.le_of_ble_eq_true rfl) ?_
  refine t1_Land_manyIn hld Ld0 hLd0 _ (fun r947 => ?_)
  refine g_istore (pc1 := 15) (lv' := [(0, .ref Ld0), (1, .int p1), (2, .int p2), (3, .int p3), (4, .int p4), (5, .int r946), (6, .int r947)]) d_Land_dishForce_13 rfl (by decide) [1, 2, 3, 4, 5, 6, 0] rfl ?_
  refine g_iload_n (pc1 := 16) d_Land_dishForce_15 rfl 2 rfl ?_
  refine g_if_lt (pc1 := 19) (tgt := 33) d_Land_dishForce_16 (by decide) rfl (fun h948 => ?_) (fun h948 => ?_)
  · refine g_aload_n (pc1 := 34) d_Land_dishForce_33 rfl 0 rfl ?_
    refine g_iload_n (pc1 := 35) d_Land_dishForce_34 rfl 3 rfl ?_
    refine g_iload (pc1 := 37) d_Land_dishForce_35 rfl 5 rfl ?_
    refine g_aload_n (pc1 := 38) d_Land_dishForce_37 rfl 0 rfl ?_
    refine g_getr (pc1 := 41) d_Land_dishForce_38 rfl ⟨_, fo_Land_21⟩ (shLa_0 hLd0) (ltLa_0 hLd0) (rfLa_8 ld hLd0) ?_
    refine g_iload_n (pc1 := 42) d_Land_dishForce_41 rfl 1 rfl ?_
    refine g_callS0 (pc1 := 45) (As := [.ref (Ld0 + 4), .int p1]) (rest := [.int r946, .int p3, .ref Ld0]) d_Land_dishForce_42 rfl mo_Land_78 ms_Main_at (by decide) rfl rfl (Nat.le_of_ble_eq_true rfl) ?_
    refine t1_Main_at hld (Ld0 + 4) (shLa_4 hLd0) (ltLa_4 hLd0) (by decide) _ (fun r949 => ?_)
    refine g_iload (pc1 := 47) d_Land_dishForce_45 rfl 6 rfl ?_
    refine g_iload (pc1 := 49) d_Land_dishForce_47 rfl 4 rfl ?_
    refine g_callV0 (pc1 := 52) (As := [.int p3, .int r946, .int r949, .int r947, .int p4]) (rest := []) d_Land_dishForce_49 rfl mo_Land_112 mi_Land_potForce mv_Land_potForce rfl (shLa_0 hLd0) (ltLa_0 hLd0) (by decide) rfl rfl (Nat.le_of_ble_eq_true rfl) ?_
    refine t1_Land_potForce hld Ld0 hLd0 _ _ _ _ _ (fun r950 M951 L952 k953 => ?_)
    refine g_ireturn (Or.inl rfl) d_Land_dishForce_52 rfl ?_
    exact hQ _ _ _ (Kp.trans Kp.rf k953)
  · refine g_iload (pc1 := 21) d_Land_dishForce_19 rfl 5 rfl ?_
    refine g_aload_n (pc1 := 22) d_Land_dishForce_21 rfl 0 rfl ?_
    refine g_iload_n (pc1 := 23) d_Land_dishForce_22 rfl 2 rfl ?_
    refine g_iload_n (pc1 := 24) d_Land_dishForce_23 rfl 3 rfl ?_
    refine g_callV0 (pc1 := 27) (As := [.int p2, .int p3]) (rest := [.int r946]) d_Land_dishForce_24 rfl mo_Land_86 mi_Land_broughtBy mv_Land_broughtBy rfl (shLa_0 hLd0) (ltLa_0 hLd0) (by decide) rfl rfl (Nat.le_of_ble_eq_true rfl) ?_
    refine t1_Land_broughtBy hld Ld0 hLd0 _ _ (fun r954 => ?_)
    refine g_iadd (pc1 := 28) d_Land_dishForce_27 rfl ?_
    refine Wp.topi (fun x955 ex955 => ?_)
    refine g_istore (pc1 := 30) (lv' := [(0, .ref Ld0), (1, .int p1), (2, .int p2), (3, .int p3), (4, .int p4), (5, .int x955), (6, .int r947)]) d_Land_dishForce_28 rfl (by decide) [1, 2, 3, 4, 5, 0, 6] rfl ?_
    obtain ⟨x956, ex956⟩ : ∃ y : Int32, y = r947 + 1 := ⟨_, rfl⟩
    refine g_iinc (pc1 := 33) (v := x956) (lv' := [(0, .ref Ld0), (1, .int p1), (2, .int p2), (3, .int p3), (4, .int p4), (5, .int x955), (6, .int x956)]) d_Land_dishForce_30 rfl 6 rfl (by rw [ex956]; rfl) (by decide) [1, 2, 3, 4, 5, 6, 0] rfl ?_
    refine g_aload_n (pc1 := 34) d_Land_dishForce_33 rfl 0 rfl ?_
    refine g_iload_n (pc1 := 35) d_Land_dishForce_34 rfl 3 rfl ?_
    refine g_iload (pc1 := 37) d_Land_dishForce_35 rfl 5 rfl ?_
    refine g_aload_n (pc1 := 38) d_Land_dishForce_37 rfl 0 rfl ?_
    refine g_getr (pc1 := 41) d_Land_dishForce_38 rfl ⟨_, fo_Land_21⟩ (shLa_0 hLd0) (ltLa_0 hLd0) (rfLa_8 ld hLd0) ?_
    refine g_iload_n (pc1 := 42) d_Land_dishForce_41 rfl 1 rfl ?_
    refine g_callS0 (pc1 := 45) (As := [.ref (Ld0 + 4), .int p1]) (rest := [.int x955, .int p3, .ref Ld0]) d_Land_dishForce_42 rfl mo_Land_78 ms_Main_at (by decide) rfl rfl (Nat.le_of_ble_eq_true rfl) ?_
    refine t1_Main_at hld (Ld0 + 4) (shLa_4 hLd0) (ltLa_4 hLd0) (by decide) _ (fun r957 => ?_)
    refine g_iload (pc1 := 47) d_Land_dishForce_45 rfl 6 rfl ?_
    refine g_iload (pc1 := 49) d_Land_dishForce_47 rfl 4 rfl ?_
    refine g_callV0 (pc1 := 52) (As := [.int p3, .int x955, .int r957, .int x956, .int p4]) (rest := []) d_Land_dishForce_49 rfl mo_Land_112 mi_Land_potForce mv_Land_potForce rfl (shLa_0 hLd0) (ltLa_0 hLd0) (by decide) rfl rfl (Nat.le_of_ble_eq_true rfl) ?_
    refine t1_Land_potForce hld Ld0 hLd0 _ _ _ _ _ (fun r958 M959 L960 k961 => ?_)
    refine g_ireturn (Or.inl rfl) d_Land_dishForce_52 rfl ?_
    exact hQ _ _ _ (Kp.trans Kp.rf k961)
set_option maxHeartbeats 4000000 in
set_option maxRecDepth 20000 in
theorem t1_Land_slipsOf {l : Launch} {ld : Nat} (hld : isLa ld) {M : gM} {L : gL} {Q : Option Value → gM → gL → gR → Prop} (Ld0 : Nat) (hLd0 : isLa Ld0) (p1 : Int32) (p2 : Int32) (hQ : ∀ (r : Int32) (M' : gM) (L' : gL), Kp S0 M L M' L' → Q (some (.int r)) M' L' (rf ld)) : Tm l y_Land_slipsOf (0, 0, 447) 447 [.ref Ld0, .int p1, .int p2] M L (rf ld) Q := by
  refine Tm.of (by decide) (Nat.le_of_ble_eq_true rfl) ?_
  show Wp l y_Land_slipsOf (0, 0, 447) 447 0 0 0 [(0, .ref Ld0), (1, .int p1), (2, .int p2)] [] M L (rf ld) Q
  refine g_aload_n (pc1 := 1) d_Land_slipsOf_0 rfl 0 rfl ?_
  refine g_getr (pc1 := 4) d_Land_slipsOf_1 rfl ⟨_, fo_Land_49⟩ (shLa_0 hLd0) (ltLa_0 hLd0) (rfLa_16 ld hLd0) ?_
  refine g_callV0 (pc1 := 7) (As := []) (rest := []) d_Land_slipsOf_4 rfl mo_Land_89 mi_Law_isTold mv_Law_isTold rfl (shLw_0 (isLw_21 hLd0)) (ltLw_0 (isLw_21 hLd0)) (by decide) rfl rfl (Nat.le_of_ble_eq_true rfl) ?_
  refine t1_Law_isTold hld (Ld0 + 21) (isLw_21 hLd0) (fun r962 hr962 => ?_)
  refine g_if_ne (pc1 := 10) (tgt := 12) d_Land_slipsOf_7 (by decide) rfl (fun h963 => ?_) (fun h963 => ?_)
  · refine g_aload_n (pc1 := 13) d_Land_slipsOf_12 rfl 0 rfl ?_
    refine g_getr (pc1 := 16) d_Land_slipsOf_13 rfl ⟨_, fo_Land_49⟩ (shLa_0 hLd0) (ltLa_0 hLd0) (rfLa_16 ld hLd0) ?_
    refine g_iconst (pc1 := 17) (v := 1) d_Land_slipsOf_16 rfl (by decide) ?_
    refine g_aload_n (pc1 := 18) d_Land_slipsOf_17 rfl 0 rfl ?_
    refine g_getr (pc1 := 21) d_Land_slipsOf_18 rfl ⟨_, fo_Land_21⟩ (shLa_0 hLd0) (ltLa_0 hLd0) (rfLa_8 ld hLd0) ?_
    refine g_iload_n (pc1 := 22) d_Land_slipsOf_21 rfl 1 rfl ?_
    refine g_callS0 (pc1 := 25) (As := [.ref (Ld0 + 4), .int p1]) (rest := [.int 1, .ref (Ld0 + 21)]) d_Land_slipsOf_22 rfl mo_Land_78 ms_Main_at (by decide) rfl rfl (Nat.le_of_ble_eq_true rfl) ?_
    refine t1_Main_at hld (Ld0 + 4) (shLa_4 hLd0) (ltLa_4 hLd0) (by decide) _ (fun r964 => ?_)
    refine g_callV0 (pc1 := 28) (As := [.int 1, .int r964]) (rest := []) d_Land_slipsOf_25 rfl mo_Land_97 mi_Law_let mv_Law_let rfl (shLw_0 (isLw_21 hLd0)) (ltLw_0 (isLw_21 hLd0)) (by decide) rfl rfl (Nat.le_of_ble_eq_true rfl) ?_
    refine t1_Law_let hld (Ld0 + 21) (isLw_21 hLd0) _ _ (fun  M965 L966 k967 => ?_)
    refine g_aload_n (pc1 := 29) d_Land_slipsOf_28 rfl 0 rfl ?_
    refine g_getr (pc1 := 32) d_Land_slipsOf_29 rfl ⟨_, fo_Land_49⟩ (shLa_0 hLd0) (ltLa_0 hLd0) (rfLa_16 ld hLd0) ?_
    refine g_iconst (pc1 := 33) (v := 3) d_Land_slipsOf_32 rfl (by decide) ?_
    refine g_aload_n (pc1 := 34) d_Land_slipsOf_33 rfl 0 rfl ?_
    refine g_iload_n (pc1 := 35) d_Land_slipsOf_34 rfl 1 rfl ?_
    refine g_callV0 (pc1 := 38) (As := [.int p1]) (rest := [.int 3, .ref (Ld0 + 21)]) d_Land_slipsOf_35 rfl mo_Land_108 mi_Land_manyIn mv_Land_manyIn rfl (shLa_0 hLd0) (ltLa_0 hLd0) (by decide) rfl rfl (Nat.le_of_ble_eq_true rfl) ?_
    refine t1_Land_manyIn hld Ld0 hLd0 _ (fun r968 => ?_)
    refine g_callV0 (pc1 := 41) (As := [.int 3, .int r968]) (rest := []) d_Land_slipsOf_38 rfl mo_Land_97 mi_Law_let mv_Law_let rfl (shLw_0 (isLw_21 hLd0)) (ltLw_0 (isLw_21 hLd0)) (by decide) rfl rfl (Nat.le_of_ble_eq_true rfl) ?_
    refine t1_Law_let hld (Ld0 + 21) (isLw_21 hLd0) _ _ (fun  M969 L970 k971 => ?_)
    refine g_aload_n (pc1 := 42) d_Land_slipsOf_41 rfl 0 rfl ?_
    refine g_getr (pc1 := 45) d_Land_slipsOf_42 rfl ⟨_, fo_Land_49⟩ (shLa_0 hLd0) (ltLa_0 hLd0) (rfLa_16 ld hLd0) ?_
    refine g_iconst (pc1 := 46) (v := 4) d_Land_slipsOf_45 rfl (by decide) ?_
    refine g_iload_n (pc1 := 47) d_Land_slipsOf_46 rfl 2 rfl ?_
    refine g_callV0 (pc1 := 50) (As := [.int 4, .int p2]) (rest := []) d_Land_slipsOf_47 rfl mo_Land_97 mi_Law_let mv_Law_let rfl (shLw_0 (isLw_21 hLd0)) (ltLw_0 (isLw_21 hLd0)) (by decide) rfl rfl (Nat.le_of_ble_eq_true rfl) ?_
    refine t1_Law_let hld (Ld0 + 21) (isLw_21 hLd0) _ _ (fun  M972 L973 k974 => ?_)
    refine g_aload_n (pc1 := 51) d_Land_slipsOf_50 rfl 0 rfl ?_
    refine g_getr (pc1 := 54) d_Land_slipsOf_51 rfl ⟨_, fo_Land_49⟩ (shLa_0 hLd0) (ltLa_0 hLd0) (rfLa_16 ld hLd0) ?_
    refine g_callV0 (pc1 := 57) (As := []) (rest := []) d_Land_slipsOf_54 rfl mo_Land_101 mi_Law_value mv_Law_value rfl (shLw_0 (isLw_21 hLd0)) (ltLw_0 (isLw_21 hLd0)) (by decide) rfl rfl (Nat.le_of_ble_eq_true rfl) ?_
    refine t1_Law_value hld (Ld0 + 21) (isLw_21 hLd0) (fun r975 M976 L977 k978 => ?_)
    refine g_iconst (pc1 := 58) (v := 0) d_Land_slipsOf_57 rfl (by decide) ?_
    refine g_bipush (pc1 := 60) (v := 100) d_Land_slipsOf_58 rfl (by decide) ?_
    refine g_callS0 (pc1 := 63) (As := [.int r975, .int 0, .int 100]) (rest := []) d_Land_slipsOf_60 rfl mo_Land_93 ms_Main_within (by decide) rfl rfl (Nat.le_of_ble_eq_true rfl) ?_
    refine t1_Main_within hld _ _ _ (fun r979 => ?_)
    refine g_ireturn (Or.inl rfl) d_Land_slipsOf_63 rfl ?_
    exact hQ _ _ _ (Kp.trans (Kp.trans (Kp.trans (Kp.trans Kp.rf k967) k971) k974) k978)
  · refine g_iconst (pc1 := 11) (v := 0) d_Land_slipsOf_10 rfl (by decide) ?_
    refine g_ireturn (Or.inl rfl) d_Land_slipsOf_11 rfl ?_
    exact hQ _ _ _ Kp.rf
set_option maxHeartbeats 4000000 in
set_option maxRecDepth 20000 in
theorem t1_PotSearch_isEnough {l : Launch} {ld : Nat} (hld : isLa ld) {M : gM} {L : gL} {Q : Option Value → gM → gL → gR → Prop} (Ld1 : Nat) (hLd1 : isLa Ld1) (p2 : Int32) (p3 : Int32) (hQ : ∀ (r : Int32) (M' : gM) (L' : gL), (r = 0 ∨ r = 1) → Kp S0 M L M' L' → Q (some (.int r)) M' L' (rf ld)) : Tm l y_PotSearch_isEnough (0, 0, 447) 447 [.ref 391, .ref Ld1, .int p2, .int p3] M L (rf ld) Q := by
  refine Tm.of (by decide) (Nat.le_of_ble_eq_true rfl) ?_
  show Wp l y_PotSearch_isEnough (0, 0, 447) 447 0 0 0 [(0, .ref 391), (1, .ref Ld1), (2, .int p2), (3, .int p3)] [] M L (rf ld) Q
  refine g_iconst (pc1 := 1) (v := 0) d_PotSearch_isEnough_0 rfl (by decide) ?_
  refine g_istore (pc1 := 3) (lv' := [(0, .ref 391), (1, .ref Ld1), (2, .int p2), (3, .int p3), (4, .int 0)]) d_PotSearch_isEnough_1 rfl (by decide) [1, 2, 3, 4, 0] rfl ?_
  have LP983 : ∀ (f980 : Nat) (v984 : Int32) (M985 : gM) (L986 : gL), Kp S0 M L M985 L986 → ¬ v984 < 0 → ((3 : Int32).toInt - v984.toInt).toNat < f980 → Wp l y_PotSearch_isEnough (0, 0, 447) 447 0 0 3 [(0, .ref 391), (1, .ref Ld1), (2, .int p2), (3, .int p3), (4, .int v984)] [] M985 L986 (rf ld) Q := by
    intro f980
    induction f980 with
    | zero => intro v984 M985 L986 _ _ hm982; exact absurd hm982 (Nat.not_lt_zero _)
    | succ f980 ih981 =>
      intro v984 M985 L986 k987 n988 hm982
      refine g_iload (pc1 := 5) d_PotSearch_isEnough_3 rfl 4 rfl ?_
      refine g_iconst (pc1 := 6) (v := 3) d_PotSearch_isEnough_5 rfl (by decide) ?_
      refine g_icmp_ge (pc1 := 9) (tgt := 59) d_PotSearch_isEnough_6 (by decide) rfl (fun h989 => ?_) (fun h989 => ?_)
      · refine g_iconst (pc1 := 60) (v := 1) d_PotSearch_isEnough_59 rfl (by decide) ?_
        refine g_ireturn (Or.inr ⟨rfl, rfl⟩) d_PotSearch_isEnough_60 rfl ?_
        exact hQ _ _ _ (Or.inr rfl) k987
      · refine g_aload_n (pc1 := 10) d_PotSearch_isEnough_9 rfl 0 rfl ?_
        refine g_getr (pc1 := 13) d_PotSearch_isEnough_10 rfl ⟨_, fo_PotSearch_9⟩ sh_391 (by decide) (rf_391_0 ld) ?_
        refine g_iload (pc1 := 15) d_PotSearch_isEnough_13 rfl 4 rfl ?_
        refine g_callS0 (pc1 := 18) (As := [.ref 392, .int v984]) (rest := []) d_PotSearch_isEnough_15 rfl mo_PotSearch_75 ms_Main_at (by decide) rfl rfl (Nat.le_of_ble_eq_true rfl) ?_
        refine t1_Main_at hld 392 sh_392 (by decide) (by decide) _ (fun r990 => ?_)
        refine g_istore (pc1 := 20) (lv' := [(0, .ref 391), (1, .ref Ld1), (2, .int p2), (3, .int p3), (4, .int v984), (5, .int r990)]) d_PotSearch_isEnough_18 rfl (by decide) [1, 2, 3, 4, 5, 0] rfl ?_
        refine g_iload (pc1 := 22) d_PotSearch_isEnough_20 rfl 5 rfl ?_
        refine g_if_le (pc1 := 25) (tgt := 53) d_PotSearch_isEnough_22 (by decide) rfl (fun h991 => ?_) (fun h991 => ?_)
        · obtain ⟨x992, ex992⟩ : ∃ y : Int32, y = v984 + 1 := ⟨_, rfl⟩
          refine g_iinc (pc1 := 56) (v := x992) (lv' := [(0, .ref 391), (1, .ref Ld1), (2, .int p2), (3, .int p3), (4, .int x992), (5, .int r990)]) d_PotSearch_isEnough_53 rfl 4 rfl (by rw [ex992]; rfl) (by decide) [1, 2, 3, 4, 0, 5] rfl ?_
          refine g_goto (tgt := 3) d_PotSearch_isEnough_56 (by decide) ?_
          refine Wp.loc (lv' := [(0, .ref 391), (1, .ref Ld1), (2, .int p2), (3, .int p3), (4, .int x992)]) [0, 1, 2, 3, 4] rfl ?_
          exact ih981 x992 M985 L986 k987 (nn_up (y := (3 : Int32)) h989 ex992 n988) (md_up h989 ex992 hm982)
        · refine g_aload_n (pc1 := 26) d_PotSearch_isEnough_25 rfl 1 rfl ?_
          refine g_iload (pc1 := 28) d_PotSearch_isEnough_26 rfl 4 rfl ?_
          refine g_aload_n (pc1 := 29) d_PotSearch_isEnough_28 rfl 0 rfl ?_
          refine g_getr (pc1 := 32) d_PotSearch_isEnough_29 rfl ⟨_, fo_PotSearch_18⟩ sh_391 (by decide) (rf_391_2 ld) ?_
          refine g_iload (pc1 := 34) d_PotSearch_isEnough_32 rfl 4 rfl ?_
          refine g_callS0 (pc1 := 37) (As := [.ref 394, .int v984]) (rest := [.int v984, .ref Ld1]) d_PotSearch_isEnough_34 rfl mo_PotSearch_75 ms_Main_at (by decide) rfl rfl (Nat.le_of_ble_eq_true rfl) ?_
          refine t1_Main_at hld 394 sh_394 (by decide) (by decide) _ (fun r993 => ?_)
          refine g_iload_n (pc1 := 38) d_PotSearch_isEnough_37 rfl 2 rfl ?_
          refine g_aload_n (pc1 := 39) d_PotSearch_isEnough_38 rfl 0 rfl ?_
          refine g_geti (pc1 := 42) d_PotSearch_isEnough_39 rfl ⟨_, fo_PotSearch_56⟩ sh_391 (by decide) ?_
          refine g_iload_n (pc1 := 43) d_PotSearch_isEnough_42 rfl 3 rfl ?_
          refine g_callV0 (pc1 := 46) (As := [.int v984, .int r993, .int p2, .int (M985 391 3), .int p3]) (rest := []) d_PotSearch_isEnough_43 rfl mo_PotSearch_114 mi_Land_potForce mv_Land_potForce rfl (shLa_0 hLd1) (ltLa_0 hLd1) (by decide) rfl rfl (Nat.le_of_ble_eq_true rfl) ?_
          refine t1_Land_potForce hld Ld1 hLd1 _ _ _ _ _ (fun r994 M995 L996 k997 => ?_)
          refine g_iload (pc1 := 48) d_PotSearch_isEnough_46 rfl 5 rfl ?_
          refine g_icmp_ge (pc1 := 51) (tgt := 53) d_PotSearch_isEnough_48 (by decide) rfl (fun h998 => ?_) (fun h998 => ?_)
          · obtain ⟨x999, ex999⟩ : ∃ y : Int32, y = v984 + 1 := ⟨_, rfl⟩
            refine g_iinc (pc1 := 56) (v := x999) (lv' := [(0, .ref 391), (1, .ref Ld1), (2, .int p2), (3, .int p3), (4, .int x999), (5, .int r990)]) d_PotSearch_isEnough_53 rfl 4 rfl (by rw [ex999]; rfl) (by decide) [1, 2, 3, 4, 0, 5] rfl ?_
            refine g_goto (tgt := 3) d_PotSearch_isEnough_56 (by decide) ?_
            refine Wp.loc (lv' := [(0, .ref 391), (1, .ref Ld1), (2, .int p2), (3, .int p3), (4, .int x999)]) [0, 1, 2, 3, 4] rfl ?_
            exact ih981 x999 M995 L996 (Kp.trans k987 k997) (nn_up (y := (3 : Int32)) h989 ex999 n988) (md_up h989 ex999 hm982)
          · refine g_iconst (pc1 := 52) (v := 0) d_PotSearch_isEnough_51 rfl (by decide) ?_
            refine g_ireturn (Or.inr ⟨rfl, rfl⟩) d_PotSearch_isEnough_52 rfl ?_
            exact hQ _ _ _ (Or.inl rfl) (Kp.trans k987 k997)
  exact LP983 _ 0 M L Kp.rf (by decide) (Nat.lt_succ_self _)
set_option maxHeartbeats 4000000 in
set_option maxRecDepth 20000 in
theorem t1_Reader_takeIngredient {l : Launch} {ld : Nat} (hld : isLa ld) {M : gM} {L : gL} {Q : Option Value → gM → gL → gR → Prop} (Ld1 : Nat) (hLd1 : isLa Ld1) (p2 : Int32) (hQ : ∀ (M' : gM) (L' : gL), Kp S2 M L M' L' → Q none M' L' (rf ld)) : Tm l y_Reader_takeIngredient (0, 0, 447) 447 [.ref 3, .ref Ld1, .int p2] M L (rf ld) Q := by
  refine Tm.of (by decide) (Nat.le_of_ble_eq_true rfl) ?_
  show Wp l y_Reader_takeIngredient (0, 0, 447) 447 0 0 0 [(0, .ref 3), (1, .ref Ld1), (2, .int p2)] [] M L (rf ld) Q
  refine g_aload_n (pc1 := 1) d_Reader_takeIngredient_0 rfl 0 rfl ?_
  refine g_iconst (pc1 := 2) (v := 2) d_Reader_takeIngredient_1 rfl (by decide) ?_
  refine g_callV0 (pc1 := 5) (As := [.int 2]) (rest := []) d_Reader_takeIngredient_2 rfl mo_Reader_51 mi_Reader_is mv_Reader_is rfl sh_3 (by decide) (by decide) rfl rfl (Nat.le_of_ble_eq_true rfl) ?_
  refine t1_Reader_is hld _ (fun r1000 hr1000 => ?_)
  refine g_if_eq (pc1 := 8) (tgt := 78) d_Reader_takeIngredient_5 (by decide) rfl (fun h1001 => ?_) (fun h1001 => ?_)
  · refine g_aload_n (pc1 := 79) d_Reader_takeIngredient_78 rfl 0 rfl ?_
    refine g_iconst (pc1 := 80) (v := 2) d_Reader_takeIngredient_79 rfl (by decide) ?_
    refine g_callV0 (pc1 := 83) (As := [.int 2]) (rest := []) d_Reader_takeIngredient_80 rfl mo_Reader_118 mi_Reader_need mv_Reader_need rfl sh_3 (by decide) (by decide) rfl rfl (Nat.le_of_ble_eq_true rfl) ?_
    refine t1_Reader_need hld _ (fun  M1002 L1003 k1004 => ?_)
    refine g_return rfl d_Reader_takeIngredient_83 rfl ?_
    exact hQ _ _ (Kp.trans Kp.rf k1004)
  · refine g_aload_n (pc1 := 9) d_Reader_takeIngredient_8 rfl 0 rfl ?_
    refine g_aload_n (pc1 := 10) d_Reader_takeIngredient_9 rfl 0 rfl ?_
    refine g_getr (pc1 := 13) d_Reader_takeIngredient_10 rfl ⟨_, fo_Reader_12⟩ sh_3 (by decide) (rf_3_0 ld) ?_
    refine g_aload_n (pc1 := 14) d_Reader_takeIngredient_13 rfl 0 rfl ?_
    refine g_geti (pc1 := 17) d_Reader_takeIngredient_14 rfl ⟨_, fo_Reader_38⟩ sh_3 (by decide) ?_
    refine g_callV0 (pc1 := 20) (As := [.int (M 3 1)]) (rest := [.ref 3]) d_Reader_takeIngredient_17 rfl mo_Reader_111 mi_Tokens_valueAt mv_Tokens_valueAt rfl sh_4 (by decide) (by decide) rfl rfl (Nat.le_of_ble_eq_true rfl) ?_
    refine t1_Tokens_valueAt hld _ (fun r1005 => ?_)
    refine g_callV0 (pc1 := 23) (As := [.long r1005]) (rest := []) d_Reader_takeIngredient_20 rfl mo_Reader_121 mi_Reader_indexOf mv_Reader_indexOf rfl sh_3 (by decide) (by decide) rfl rfl (Nat.le_of_ble_eq_true rfl) ?_
    refine t1_Reader_indexOf hld _ (fun r1006 => ?_)
    refine g_istore_n (pc1 := 24) (lv' := [(0, .ref 3), (1, .ref Ld1), (2, .int p2), (3, .int r1006)]) d_Reader_takeIngredient_23 rfl rfl (by decide) [1, 2, 3, 0] rfl ?_
    refine g_iload_n (pc1 := 25) d_Reader_takeIngredient_24 rfl 3 rfl ?_
    refine g_if_ge (pc1 := 28) (tgt := 32) d_Reader_takeIngredient_25 (by decide) rfl (fun h1007 => ?_) (fun h1007 => ?_)
    · refine g_aload_n (pc1 := 33) d_Reader_takeIngredient_32 rfl 0 rfl ?_
      refine g_getr (pc1 := 36) d_Reader_takeIngredient_33 rfl ⟨_, fo_Reader_22⟩ sh_3 (by decide) (rf_3_7 ld) ?_
      refine g_iload_n (pc1 := 37) d_Reader_takeIngredient_36 rfl 3 rfl ?_
      refine g_callS0 (pc1 := 40) (As := [.ref 10, .int r1006]) (rest := []) d_Reader_takeIngredient_37 rfl mo_Reader_58 ms_Main_at (by decide) rfl rfl (Nat.le_of_ble_eq_true rfl) ?_
      refine t1_Main_at hld 10 sh_10 (by decide) (by decide) _ (fun r1008 => ?_)
      refine g_istore (pc1 := 42) (lv' := [(0, .ref 3), (1, .ref Ld1), (2, .int p2), (3, .int r1006), (4, .int r1008)]) d_Reader_takeIngredient_40 rfl (by decide) [1, 2, 3, 4, 0] rfl ?_
      refine g_iload (pc1 := 44) d_Reader_takeIngredient_42 rfl 4 rfl ?_
      refine g_if_ge (pc1 := 47) (tgt := 55) d_Reader_takeIngredient_44 (by decide) rfl (fun h1009 => ?_) (fun h1009 => ?_)
      · refine g_aload_n (pc1 := 56) d_Reader_takeIngredient_55 rfl 1 rfl ?_
        refine g_getr (pc1 := 59) d_Reader_takeIngredient_56 rfl ⟨_, fo_Reader_158⟩ (shLa_0 hLd1) (ltLa_0 hLd1) (rfLa_9 ld hLd1) ?_
        refine g_iload_n (pc1 := 60) d_Reader_takeIngredient_59 rfl 2 rfl ?_
        refine g_bipush (pc1 := 62) (v := 6) d_Reader_takeIngredient_60 rfl (by decide) ?_
        refine g_imul (pc1 := 63) d_Reader_takeIngredient_62 rfl ?_
        refine g_iload (pc1 := 65) d_Reader_takeIngredient_63 rfl 4 rfl ?_
        refine g_iadd (pc1 := 66) d_Reader_takeIngredient_65 rfl ?_
        refine g_aload_n (pc1 := 67) d_Reader_takeIngredient_66 rfl 1 rfl ?_
        refine g_iload_n (pc1 := 68) d_Reader_takeIngredient_67 rfl 2 rfl ?_
        refine g_iload (pc1 := 70) d_Reader_takeIngredient_68 rfl 4 rfl ?_
        refine g_callV0 (pc1 := 73) (As := [.int p2, .int r1008]) (rest := [.int ((p2 * 6) + r1008), .ref (Ld1 + 5)]) d_Reader_takeIngredient_70 rfl mo_Reader_161 mi_Land_inDish mv_Land_inDish rfl (shLa_0 hLd1) (ltLa_0 hLd1) (by decide) rfl rfl (Nat.le_of_ble_eq_true rfl) ?_
        refine t1_Land_inDish hld Ld1 hLd1 _ _ (fun r1010 => ?_)
        refine g_iconst (pc1 := 74) (v := 1) d_Reader_takeIngredient_73 rfl (by decide) ?_
        refine g_iadd (pc1 := 75) d_Reader_takeIngredient_74 rfl ?_
        refine g_callS0 (pc1 := 78) (As := [.ref (Ld1 + 5), .int ((p2 * 6) + r1008), .int (r1010 + 1)]) (rest := []) d_Reader_takeIngredient_75 rfl mo_Reader_138 ms_Main_put (by decide) rfl rfl (Nat.le_of_ble_eq_true rfl) ?_
        refine t1_Main_put hld (Ld1 + 5) (shLa_5 hLd1) (ltLa_5 hLd1) (by decide) _ _ (fun  M1011 L1012 k1013 => ?_)
        refine g_aload_n (pc1 := 79) d_Reader_takeIngredient_78 rfl 0 rfl ?_
        refine g_iconst (pc1 := 80) (v := 2) d_Reader_takeIngredient_79 rfl (by decide) ?_
        refine g_callV0 (pc1 := 83) (As := [.int 2]) (rest := []) d_Reader_takeIngredient_80 rfl mo_Reader_118 mi_Reader_need mv_Reader_need rfl sh_3 (by decide) (by decide) rfl rfl (Nat.le_of_ble_eq_true rfl) ?_
        refine t1_Reader_need hld _ (fun  M1014 L1015 k1016 => ?_)
        refine g_return rfl d_Reader_takeIngredient_83 rfl ?_
        exact hQ _ _ (Kp.trans (Kp.trans Kp.rf (Kp.mono k1013 (one_S (S2_La_5 hLd1)))) k1016)
      · refine g_aload_n (pc1 := 48) d_Reader_takeIngredient_47 rfl 0 rfl ?_
        refine g_iconst (pc1 := 49) (v := 4) d_Reader_takeIngredient_48 rfl (by decide) ?_
        refine g_callV0 (pc1 := 52) (As := [.int 4]) (rest := []) d_Reader_takeIngredient_49 rfl mo_Reader_115 mi_Reader_stopLate mv_Reader_stopLate rfl sh_3 (by decide) (by decide) rfl rfl (Nat.le_of_ble_eq_true rfl) ?_
        refine t1_Reader_stopLate hld _ (fun  M1017 L1018 k1019 => ?_)
        refine g_goto (tgt := 78) d_Reader_takeIngredient_52 (by decide) ?_
        refine g_aload_n (pc1 := 79) d_Reader_takeIngredient_78 rfl 0 rfl ?_
        refine g_iconst (pc1 := 80) (v := 2) d_Reader_takeIngredient_79 rfl (by decide) ?_
        refine g_callV0 (pc1 := 83) (As := [.int 2]) (rest := []) d_Reader_takeIngredient_80 rfl mo_Reader_118 mi_Reader_need mv_Reader_need rfl sh_3 (by decide) (by decide) rfl rfl (Nat.le_of_ble_eq_true rfl) ?_
        refine t1_Reader_need hld _ (fun  M1020 L1021 k1022 => ?_)
        refine g_return rfl d_Reader_takeIngredient_83 rfl ?_
        exact hQ _ _ (Kp.trans (Kp.trans Kp.rf k1019) k1022)
    · refine g_iconst (pc1 := 29) (v := (-1)) d_Reader_takeIngredient_28 rfl (by decide) ?_
      refine g_goto (tgt := 40) d_Reader_takeIngredient_29 (by decide) ?_
      refine Wp.topi (fun x1023 ex1023 => ?_)
      refine g_istore (pc1 := 42) (lv' := [(0, .ref 3), (1, .ref Ld1), (2, .int p2), (3, .int r1006), (4, .int x1023)]) d_Reader_takeIngredient_40 rfl (by decide) [1, 2, 3, 4, 0] rfl ?_
      refine g_iload (pc1 := 44) d_Reader_takeIngredient_42 rfl 4 rfl ?_
      refine g_if_ge (pc1 := 47) (tgt := 55) d_Reader_takeIngredient_44 (by decide) rfl (fun h1024 => ?_) (fun h1024 => ?_)
      · refine g_aload_n (pc1 := 56) d_Reader_takeIngredient_55 rfl 1 rfl ?_
        refine g_getr (pc1 := 59) d_Reader_takeIngredient_56 rfl ⟨_, fo_Reader_158⟩ (shLa_0 hLd1) (ltLa_0 hLd1) (rfLa_9 ld hLd1) ?_
        refine g_iload_n (pc1 := 60) d_Reader_takeIngredient_59 rfl 2 rfl ?_
        refine g_bipush (pc1 := 62) (v := 6) d_Reader_takeIngredient_60 rfl (by decide) ?_
        refine g_imul (pc1 := 63) d_Reader_takeIngredient_62 rfl ?_
        refine g_iload (pc1 := 65) d_Reader_takeIngredient_63 rfl 4 rfl ?_
        refine g_iadd (pc1 := 66) d_Reader_takeIngredient_65 rfl ?_
        refine g_aload_n (pc1 := 67) d_Reader_takeIngredient_66 rfl 1 rfl ?_
        refine g_iload_n (pc1 := 68) d_Reader_takeIngredient_67 rfl 2 rfl ?_
        refine g_iload (pc1 := 70) d_Reader_takeIngredient_68 rfl 4 rfl ?_
        refine g_callV0 (pc1 := 73) (As := [.int p2, .int x1023]) (rest := [.int ((p2 * 6) + x1023), .ref (Ld1 + 5)]) d_Reader_takeIngredient_70 rfl mo_Reader_161 mi_Land_inDish mv_Land_inDish rfl (shLa_0 hLd1) (ltLa_0 hLd1) (by decide) rfl rfl (Nat.le_of_ble_eq_true rfl) ?_
        refine t1_Land_inDish hld Ld1 hLd1 _ _ (fun r1025 => ?_)
        refine g_iconst (pc1 := 74) (v := 1) d_Reader_takeIngredient_73 rfl (by decide) ?_
        refine g_iadd (pc1 := 75) d_Reader_takeIngredient_74 rfl ?_
        refine g_callS0 (pc1 := 78) (As := [.ref (Ld1 + 5), .int ((p2 * 6) + x1023), .int (r1025 + 1)]) (rest := []) d_Reader_takeIngredient_75 rfl mo_Reader_138 ms_Main_put (by decide) rfl rfl (Nat.le_of_ble_eq_true rfl) ?_
        refine t1_Main_put hld (Ld1 + 5) (shLa_5 hLd1) (ltLa_5 hLd1) (by decide) _ _ (fun  M1026 L1027 k1028 => ?_)
        refine g_aload_n (pc1 := 79) d_Reader_takeIngredient_78 rfl 0 rfl ?_
        refine g_iconst (pc1 := 80) (v := 2) d_Reader_takeIngredient_79 rfl (by decide) ?_
        refine g_callV0 (pc1 := 83) (As := [.int 2]) (rest := []) d_Reader_takeIngredient_80 rfl mo_Reader_118 mi_Reader_need mv_Reader_need rfl sh_3 (by decide) (by decide) rfl rfl (Nat.le_of_ble_eq_true rfl) ?_
        refine t1_Reader_need hld _ (fun  M1029 L1030 k1031 => ?_)
        refine g_return rfl d_Reader_takeIngredient_83 rfl ?_
        exact hQ _ _ (Kp.trans (Kp.trans Kp.rf (Kp.mono k1028 (one_S (S2_La_5 hLd1)))) k1031)
      · refine g_aload_n (pc1 := 48) d_Reader_takeIngredient_47 rfl 0 rfl ?_
        refine g_iconst (pc1 := 49) (v := 4) d_Reader_takeIngredient_48 rfl (by decide) ?_
        refine g_callV0 (pc1 := 52) (As := [.int 4]) (rest := []) d_Reader_takeIngredient_49 rfl mo_Reader_115 mi_Reader_stopLate mv_Reader_stopLate rfl sh_3 (by decide) (by decide) rfl rfl (Nat.le_of_ble_eq_true rfl) ?_
        refine t1_Reader_stopLate hld _ (fun  M1032 L1033 k1034 => ?_)
        refine g_goto (tgt := 78) d_Reader_takeIngredient_52 (by decide) ?_
        refine g_aload_n (pc1 := 79) d_Reader_takeIngredient_78 rfl 0 rfl ?_
        refine g_iconst (pc1 := 80) (v := 2) d_Reader_takeIngredient_79 rfl (by decide) ?_
        refine g_callV0 (pc1 := 83) (As := [.int 2]) (rest := []) d_Reader_takeIngredient_80 rfl mo_Reader_118 mi_Reader_need mv_Reader_need rfl sh_3 (by decide) (by decide) rfl rfl (Nat.le_of_ble_eq_true rfl) ?_
        refine t1_Reader_need hld _ (fun  M1035 L1036 k1037 => ?_)
        refine g_return rfl d_Reader_takeIngredient_83 rfl ?_
        exact hQ _ _ (Kp.trans (Kp.trans Kp.rf k1034) k1037)
set_option maxHeartbeats 4000000 in
set_option maxRecDepth 20000 in
theorem t1_Reader_takeInt {l : Launch} {ld : Nat} (hld : isLa ld) {M : gM} {L : gL} {Q : Option Value → gM → gL → gR → Prop} (p1 : Int32) (hQ : ∀ (r : Int32) (M' : gM) (L' : gL), Kp S2 M L M' L' → Q (some (.int r)) M' L' (rf ld)) : Tm l y_Reader_takeInt (0, 0, 447) 447 [.ref 3, .int p1] M L (rf ld) Q := by
  refine Tm.of (by decide) (Nat.le_of_ble_eq_true rfl) ?_
  show Wp l y_Reader_takeInt (0, 0, 447) 447 0 0 0 [(0, .ref 3), (1, .int p1)] [] M L (rf ld) Q
  refine g_aload_n (pc1 := 1) d_Reader_takeInt_0 rfl 0 rfl ?_
  refine g_getr (pc1 := 4) d_Reader_takeInt_1 rfl ⟨_, fo_Reader_12⟩ sh_3 (by decide) (rf_3_0 ld) ?_
  refine g_aload_n (pc1 := 5) d_Reader_takeInt_4 rfl 0 rfl ?_
  refine g_geti (pc1 := 8) d_Reader_takeInt_5 rfl ⟨_, fo_Reader_38⟩ sh_3 (by decide) ?_
  refine g_callV0 (pc1 := 11) (As := [.int (M 3 1)]) (rest := []) d_Reader_takeInt_8 rfl mo_Reader_111 mi_Tokens_valueAt mv_Tokens_valueAt rfl sh_4 (by decide) (by decide) rfl rfl (Nat.le_of_ble_eq_true rfl) ?_
  refine t1_Tokens_valueAt hld _ (fun r1038 => ?_)
  refine g_l2i (pc1 := 12) d_Reader_takeInt_11 rfl ?_
  refine Wp.topi (fun x1039 ex1039 => ?_)
  refine g_istore_n (pc1 := 13) (lv' := [(0, .ref 3), (1, .int p1), (2, .int x1039)]) d_Reader_takeInt_12 rfl rfl (by decide) [1, 2, 0] rfl ?_
  refine g_aload_n (pc1 := 14) d_Reader_takeInt_13 rfl 0 rfl ?_
  refine g_iconst (pc1 := 15) (v := 3) d_Reader_takeInt_14 rfl (by decide) ?_
  refine g_callV0 (pc1 := 18) (As := [.int 3]) (rest := []) d_Reader_takeInt_15 rfl mo_Reader_51 mi_Reader_is mv_Reader_is rfl sh_3 (by decide) (by decide) rfl rfl (Nat.le_of_ble_eq_true rfl) ?_
  refine t1_Reader_is hld _ (fun r1040 hr1040 => ?_)
  refine g_if_eq (pc1 := 21) (tgt := 31) d_Reader_takeInt_18 (by decide) rfl (fun h1041 => ?_) (fun h1041 => ?_)
  · refine g_aload_n (pc1 := 32) d_Reader_takeInt_31 rfl 0 rfl ?_
    refine g_iconst (pc1 := 33) (v := 3) d_Reader_takeInt_32 rfl (by decide) ?_
    refine g_callV0 (pc1 := 36) (As := [.int 3]) (rest := []) d_Reader_takeInt_33 rfl mo_Reader_118 mi_Reader_need mv_Reader_need rfl sh_3 (by decide) (by decide) rfl rfl (Nat.le_of_ble_eq_true rfl) ?_
    refine t1_Reader_need hld _ (fun  M1042 L1043 k1044 => ?_)
    refine g_iload_n (pc1 := 37) d_Reader_takeInt_36 rfl 2 rfl ?_
    refine g_ireturn (Or.inl rfl) d_Reader_takeInt_37 rfl ?_
    exact hQ _ _ _ (Kp.trans Kp.rf k1044)
  · refine g_iload_n (pc1 := 22) d_Reader_takeInt_21 rfl 2 rfl ?_
    refine g_iload_n (pc1 := 23) d_Reader_takeInt_22 rfl 1 rfl ?_
    refine g_icmp_le (pc1 := 26) (tgt := 31) d_Reader_takeInt_23 (by decide) rfl (fun h1045 => ?_) (fun h1045 => ?_)
    · refine g_aload_n (pc1 := 32) d_Reader_takeInt_31 rfl 0 rfl ?_
      refine g_iconst (pc1 := 33) (v := 3) d_Reader_takeInt_32 rfl (by decide) ?_
      refine g_callV0 (pc1 := 36) (As := [.int 3]) (rest := []) d_Reader_takeInt_33 rfl mo_Reader_118 mi_Reader_need mv_Reader_need rfl sh_3 (by decide) (by decide) rfl rfl (Nat.le_of_ble_eq_true rfl) ?_
      refine t1_Reader_need hld _ (fun  M1046 L1047 k1048 => ?_)
      refine g_iload_n (pc1 := 37) d_Reader_takeInt_36 rfl 2 rfl ?_
      refine g_ireturn (Or.inl rfl) d_Reader_takeInt_37 rfl ?_
      exact hQ _ _ _ (Kp.trans Kp.rf k1048)
    · refine g_aload_n (pc1 := 27) d_Reader_takeInt_26 rfl 0 rfl ?_
      refine g_iconst (pc1 := 28) (v := 5) d_Reader_takeInt_27 rfl (by decide) ?_
      refine g_callV0 (pc1 := 31) (As := [.int 5]) (rest := []) d_Reader_takeInt_28 rfl mo_Reader_115 mi_Reader_stopLate mv_Reader_stopLate rfl sh_3 (by decide) (by decide) rfl rfl (Nat.le_of_ble_eq_true rfl) ?_
      refine t1_Reader_stopLate hld _ (fun  M1049 L1050 k1051 => ?_)
      refine g_aload_n (pc1 := 32) d_Reader_takeInt_31 rfl 0 rfl ?_
      refine g_iconst (pc1 := 33) (v := 3) d_Reader_takeInt_32 rfl (by decide) ?_
      refine g_callV0 (pc1 := 36) (As := [.int 3]) (rest := []) d_Reader_takeInt_33 rfl mo_Reader_118 mi_Reader_need mv_Reader_need rfl sh_3 (by decide) (by decide) rfl rfl (Nat.le_of_ble_eq_true rfl) ?_
      refine t1_Reader_need hld _ (fun  M1052 L1053 k1054 => ?_)
      refine g_iload_n (pc1 := 37) d_Reader_takeInt_36 rfl 2 rfl ?_
      refine g_ireturn (Or.inl rfl) d_Reader_takeInt_37 rfl ?_
      exact hQ _ _ _ (Kp.trans (Kp.trans Kp.rf k1051) k1054)
set_option maxHeartbeats 4000000 in
set_option maxRecDepth 20000 in
theorem t1_Reader_takeNewName {l : Launch} {ld : Nat} (hld : isLa ld) {M : gM} {L : gL} {Q : Option Value → gM → gL → gR → Prop} (p1 : Int32) (hQ : ∀ (M' : gM) (L' : gL), Kp S2 M L M' L' → Q none M' L' (rf ld)) : Tm l y_Reader_takeNewName (0, 0, 447) 447 [.ref 3, .int p1] M L (rf ld) Q := by
  refine Tm.of (by decide) (Nat.le_of_ble_eq_true rfl) ?_
  show Wp l y_Reader_takeNewName (0, 0, 447) 447 0 0 0 [(0, .ref 3), (1, .int p1)] [] M L (rf ld) Q
  refine g_aload_n (pc1 := 1) d_Reader_takeNewName_0 rfl 0 rfl ?_
  refine g_iconst (pc1 := 2) (v := 2) d_Reader_takeNewName_1 rfl (by decide) ?_
  refine g_callV0 (pc1 := 5) (As := [.int 2]) (rest := []) d_Reader_takeNewName_2 rfl mo_Reader_51 mi_Reader_is mv_Reader_is rfl sh_3 (by decide) (by decide) rfl rfl (Nat.le_of_ble_eq_true rfl) ?_
  refine t1_Reader_is hld _ (fun r1055 hr1055 => ?_)
  refine g_if_eq (pc1 := 8) (tgt := 97) d_Reader_takeNewName_5 (by decide) rfl (fun h1056 => ?_) (fun h1056 => ?_)
  · refine g_aload_n (pc1 := 98) d_Reader_takeNewName_97 rfl 0 rfl ?_
    refine g_iconst (pc1 := 99) (v := 2) d_Reader_takeNewName_98 rfl (by decide) ?_
    refine g_callV0 (pc1 := 102) (As := [.int 2]) (rest := []) d_Reader_takeNewName_99 rfl mo_Reader_118 mi_Reader_need mv_Reader_need rfl sh_3 (by decide) (by decide) rfl rfl (Nat.le_of_ble_eq_true rfl) ?_
    refine t1_Reader_need hld _ (fun  M1057 L1058 k1059 => ?_)
    refine g_return rfl d_Reader_takeNewName_102 rfl ?_
    exact hQ _ _ (Kp.trans Kp.rf k1059)
  · refine g_aload_n (pc1 := 9) d_Reader_takeNewName_8 rfl 0 rfl ?_
    refine g_getr (pc1 := 12) d_Reader_takeNewName_9 rfl ⟨_, fo_Reader_12⟩ sh_3 (by decide) (rf_3_0 ld) ?_
    refine g_aload_n (pc1 := 13) d_Reader_takeNewName_12 rfl 0 rfl ?_
    refine g_geti (pc1 := 16) d_Reader_takeNewName_13 rfl ⟨_, fo_Reader_38⟩ sh_3 (by decide) ?_
    refine g_callV0 (pc1 := 19) (As := [.int (M 3 1)]) (rest := []) d_Reader_takeNewName_16 rfl mo_Reader_111 mi_Tokens_valueAt mv_Tokens_valueAt rfl sh_4 (by decide) (by decide) rfl rfl (Nat.le_of_ble_eq_true rfl) ?_
    refine t1_Tokens_valueAt hld _ (fun r1060 => ?_)
    refine g_lstore_n (pc1 := 20) (lv' := [(0, .ref 3), (1, .int p1), (2, .long r1060)]) d_Reader_takeNewName_19 rfl rfl (by decide) [1, 2, 0] rfl ?_
    refine g_aload_n (pc1 := 21) d_Reader_takeNewName_20 rfl 0 rfl ?_
    refine g_lload_n (pc1 := 22) d_Reader_takeNewName_21 rfl 2 rfl ?_
    refine g_callV0 (pc1 := 25) (As := [.long r1060]) (rest := []) d_Reader_takeNewName_22 rfl mo_Reader_121 mi_Reader_indexOf mv_Reader_indexOf rfl sh_3 (by decide) (by decide) rfl rfl (Nat.le_of_ble_eq_true rfl) ?_
    refine t1_Reader_indexOf hld _ (fun r1061 => ?_)
    refine g_if_lt (pc1 := 28) (tgt := 36) d_Reader_takeNewName_25 (by decide) rfl (fun h1062 => ?_) (fun h1062 => ?_)
    · refine g_aload_n (pc1 := 37) d_Reader_takeNewName_36 rfl 0 rfl ?_
      refine g_geti (pc1 := 40) d_Reader_takeNewName_37 rfl ⟨_, fo_Reader_48⟩ sh_3 (by decide) ?_
      refine g_if_lt (pc1 := 43) (tgt := 97) d_Reader_takeNewName_40 (by decide) rfl (fun h1063 => ?_) (fun h1063 => ?_)
      · refine g_aload_n (pc1 := 98) d_Reader_takeNewName_97 rfl 0 rfl ?_
        refine g_iconst (pc1 := 99) (v := 2) d_Reader_takeNewName_98 rfl (by decide) ?_
        refine g_callV0 (pc1 := 102) (As := [.int 2]) (rest := []) d_Reader_takeNewName_99 rfl mo_Reader_118 mi_Reader_need mv_Reader_need rfl sh_3 (by decide) (by decide) rfl rfl (Nat.le_of_ble_eq_true rfl) ?_
        refine t1_Reader_need hld _ (fun  M1064 L1065 k1066 => ?_)
        refine g_return rfl d_Reader_takeNewName_102 rfl ?_
        exact hQ _ _ (Kp.trans Kp.rf k1066)
      · refine g_aload_n (pc1 := 44) d_Reader_takeNewName_43 rfl 0 rfl ?_
        refine g_geti (pc1 := 47) d_Reader_takeNewName_44 rfl ⟨_, fo_Reader_48⟩ sh_3 (by decide) ?_
        refine g_aload_n (pc1 := 48) d_Reader_takeNewName_47 rfl 0 rfl ?_
        refine g_getr (pc1 := 51) d_Reader_takeNewName_48 rfl ⟨_, fo_Reader_18⟩ sh_3 (by decide) (rf_3_6 ld) ?_
        refine g_alen (pc1 := 52) (v := 21) d_Reader_takeNewName_51 rfl sh_9 (by decide) (by decide) (by decide) (by decide) ?_
        refine g_icmp_ge (pc1 := 55) (tgt := 97) d_Reader_takeNewName_52 (by decide) rfl (fun h1067 => ?_) (fun h1067 => ?_)
        · refine g_aload_n (pc1 := 98) d_Reader_takeNewName_97 rfl 0 rfl ?_
          refine g_iconst (pc1 := 99) (v := 2) d_Reader_takeNewName_98 rfl (by decide) ?_
          refine g_callV0 (pc1 := 102) (As := [.int 2]) (rest := []) d_Reader_takeNewName_99 rfl mo_Reader_118 mi_Reader_need mv_Reader_need rfl sh_3 (by decide) (by decide) rfl rfl (Nat.le_of_ble_eq_true rfl) ?_
          refine t1_Reader_need hld _ (fun  M1068 L1069 k1070 => ?_)
          refine g_return rfl d_Reader_takeNewName_102 rfl ?_
          exact hQ _ _ (Kp.trans Kp.rf k1070)
        · refine g_aload_n (pc1 := 56) d_Reader_takeNewName_55 rfl 0 rfl ?_
          refine g_geti (pc1 := 59) d_Reader_takeNewName_56 rfl ⟨_, fo_Reader_48⟩ sh_3 (by decide) ?_
          refine g_aload_n (pc1 := 60) d_Reader_takeNewName_59 rfl 0 rfl ?_
          refine g_getr (pc1 := 63) d_Reader_takeNewName_60 rfl ⟨_, fo_Reader_22⟩ sh_3 (by decide) (rf_3_7 ld) ?_
          refine g_alen (pc1 := 64) (v := 21) d_Reader_takeNewName_63 rfl sh_10 (by decide) (by decide) (by decide) (by decide) ?_
          refine g_icmp_ge (pc1 := 67) (tgt := 97) d_Reader_takeNewName_64 (by decide) rfl (fun h1071 => ?_) (fun h1071 => ?_)
          · refine g_aload_n (pc1 := 98) d_Reader_takeNewName_97 rfl 0 rfl ?_
            refine g_iconst (pc1 := 99) (v := 2) d_Reader_takeNewName_98 rfl (by decide) ?_
            refine g_callV0 (pc1 := 102) (As := [.int 2]) (rest := []) d_Reader_takeNewName_99 rfl mo_Reader_118 mi_Reader_need mv_Reader_need rfl sh_3 (by decide) (by decide) rfl rfl (Nat.le_of_ble_eq_true rfl) ?_
            refine t1_Reader_need hld _ (fun  M1072 L1073 k1074 => ?_)
            refine g_return rfl d_Reader_takeNewName_102 rfl ?_
            exact hQ _ _ (Kp.trans Kp.rf k1074)
          · refine g_aload_n (pc1 := 68) d_Reader_takeNewName_67 rfl 0 rfl ?_
            refine g_getr (pc1 := 71) d_Reader_takeNewName_68 rfl ⟨_, fo_Reader_18⟩ sh_3 (by decide) (rf_3_6 ld) ?_
            refine g_aload_n (pc1 := 72) d_Reader_takeNewName_71 rfl 0 rfl ?_
            refine g_geti (pc1 := 75) d_Reader_takeNewName_72 rfl ⟨_, fo_Reader_48⟩ sh_3 (by decide) ?_
            refine g_lload_n (pc1 := 76) d_Reader_takeNewName_75 rfl 2 rfl ?_
            refine g_last (pc1 := 77) d_Reader_takeNewName_76 rfl sh_9 (by decide) (vin_of h1063 h1071 (by decide)) ?_
            refine Wp.topL (fun L1075 eL1075 => ?_)
            refine g_aload_n (pc1 := 78) d_Reader_takeNewName_77 rfl 0 rfl ?_
            refine g_getr (pc1 := 81) d_Reader_takeNewName_78 rfl ⟨_, fo_Reader_22⟩ sh_3 (by decide) (rf_3_7 ld) ?_
            refine g_aload_n (pc1 := 82) d_Reader_takeNewName_81 rfl 0 rfl ?_
            refine g_geti (pc1 := 85) d_Reader_takeNewName_82 rfl ⟨_, fo_Reader_48⟩ sh_3 (by decide) ?_
            refine g_iload_n (pc1 := 86) d_Reader_takeNewName_85 rfl 1 rfl ?_
            refine g_iast (pc1 := 87) d_Reader_takeNewName_86 rfl sh_10 (by decide) (vin_of h1063 h1071 (by decide)) ?_
            refine Wp.topM (fun M1076 eM1076 => ?_)
            refine g_aload_n (pc1 := 88) d_Reader_takeNewName_87 rfl 0 rfl ?_
            refine g_dup (pc1 := 89) d_Reader_takeNewName_88 rfl rfl ?_
            refine g_geti (pc1 := 92) d_Reader_takeNewName_89 rfl ⟨_, fo_Reader_48⟩ sh_3 (by decide) ?_
            refine g_iconst (pc1 := 93) (v := 1) d_Reader_takeNewName_92 rfl (by decide) ?_
            refine g_iadd (pc1 := 94) d_Reader_takeNewName_93 rfl ?_
            refine g_puti (pc1 := 97) d_Reader_takeNewName_94 rfl fo_Reader_48 (po_2_8 _) sh_3 (by decide) ?_
            refine Wp.topM (fun M1077 eM1077 => ?_)
            refine g_aload_n (pc1 := 98) d_Reader_takeNewName_97 rfl 0 rfl ?_
            refine g_iconst (pc1 := 99) (v := 2) d_Reader_takeNewName_98 rfl (by decide) ?_
            refine g_callV0 (pc1 := 102) (As := [.int 2]) (rest := []) d_Reader_takeNewName_99 rfl mo_Reader_118 mi_Reader_need mv_Reader_need rfl sh_3 (by decide) (by decide) rfl rfl (Nat.le_of_ble_eq_true rfl) ?_
            refine t1_Reader_need hld _ (fun  M1078 L1079 k1080 => ?_)
            refine g_return rfl d_Reader_takeNewName_102 rfl ?_
            exact hQ _ _ (Kp.trans (Kp.wM (Kp.wM (Kp.wL Kp.rf rfl eL1075) rfl eM1076) rfl eM1077) k1080)
    · refine g_aload_n (pc1 := 29) d_Reader_takeNewName_28 rfl 0 rfl ?_
      refine g_iconst (pc1 := 30) (v := 3) d_Reader_takeNewName_29 rfl (by decide) ?_
      refine g_callV0 (pc1 := 33) (As := [.int 3]) (rest := []) d_Reader_takeNewName_30 rfl mo_Reader_115 mi_Reader_stopLate mv_Reader_stopLate rfl sh_3 (by decide) (by decide) rfl rfl (Nat.le_of_ble_eq_true rfl) ?_
      refine t1_Reader_stopLate hld _ (fun  M1081 L1082 k1083 => ?_)
      refine g_goto (tgt := 97) d_Reader_takeNewName_33 (by decide) ?_
      refine g_aload_n (pc1 := 98) d_Reader_takeNewName_97 rfl 0 rfl ?_
      refine g_iconst (pc1 := 99) (v := 2) d_Reader_takeNewName_98 rfl (by decide) ?_
      refine g_callV0 (pc1 := 102) (As := [.int 2]) (rest := []) d_Reader_takeNewName_99 rfl mo_Reader_118 mi_Reader_need mv_Reader_need rfl sh_3 (by decide) (by decide) rfl rfl (Nat.le_of_ble_eq_true rfl) ?_
      refine t1_Reader_need hld _ (fun  M1084 L1085 k1086 => ?_)
      refine g_return rfl d_Reader_takeNewName_102 rfl ?_
      exact hQ _ _ (Kp.trans (Kp.trans Kp.rf k1083) k1086)
set_option maxHeartbeats 4000000 in
set_option maxRecDepth 20000 in
theorem t1_Reader_takeSum {l : Launch} {ld : Nat} (hld : isLa ld) {M : gM} {L : gL} {Q : Option Value → gM → gL → gR → Prop} (Wl1 : Nat) (hWl1 : isLw Wl1) (hQ : ∀ (M' : gM) (L' : gL), Kp S2 M L M' L' → Q none M' L' (rf ld)) : Tm l y_Reader_takeSum (0, 0, 447) 447 [.ref 3, .ref Wl1] M L (rf ld) Q := by
  refine Tm.of (by decide) (Nat.le_of_ble_eq_true rfl) ?_
  show Wp l y_Reader_takeSum (0, 0, 447) 447 0 0 0 [(0, .ref 3), (1, .ref Wl1)] [] M L (rf ld) Q
  refine g_aload_n (pc1 := 1) d_Reader_takeSum_0 rfl 0 rfl ?_
  refine g_iconst (pc1 := 2) (v := 0) d_Reader_takeSum_1 rfl (by decide) ?_
  refine g_puti (pc1 := 5) d_Reader_takeSum_2 rfl fo_Reader_196 (po_2_11 _) sh_3 (by decide) ?_
  refine Wp.topM (fun M1087 eM1087 => ?_)
  refine g_aload_n (pc1 := 6) d_Reader_takeSum_5 rfl 0 rfl ?_
  refine g_iconst (pc1 := 7) (v := 0) d_Reader_takeSum_6 rfl (by decide) ?_
  refine g_puti (pc1 := 10) d_Reader_takeSum_7 rfl fo_Reader_199 (po_2_10 _) sh_3 (by decide) ?_
  refine Wp.topM (fun M1088 eM1088 => ?_)
  refine g_iconst (pc1 := 11) (v := 1) d_Reader_takeSum_10 rfl (by decide) ?_
  refine g_istore_n (pc1 := 12) (lv' := [(0, .ref 3), (1, .ref Wl1), (2, .int 1)]) d_Reader_takeSum_11 rfl rfl (by decide) [1, 2, 0] rfl ?_
  refine g_iconst (pc1 := 13) (v := 0) d_Reader_takeSum_12 rfl (by decide) ?_
  refine g_istore_n (pc1 := 14) (lv' := [(0, .ref 3), (1, .ref Wl1), (2, .int 1), (3, .int 0)]) d_Reader_takeSum_13 rfl rfl (by decide) [1, 2, 3, 0] rfl ?_
  have LP1092 : ∀ (f1089 : Nat) (v1093 : Int32) (v1094 : Int32) (M1095 : gM) (L1096 : gL), Kp S2 M L M1095 L1096 → ¬ v1094 < 0 → ((400 : Int32).toInt + 1 - v1094.toInt).toNat < f1089 → Wp l y_Reader_takeSum (0, 0, 447) 447 0 0 14 [(0, .ref 3), (1, .ref Wl1), (2, .int v1093), (3, .int v1094)] [] M1095 L1096 (rf ld) Q := by
    intro f1089
    induction f1089 with
    | zero => intro v1093 v1094 M1095 L1096 _ _ hm1091; exact absurd hm1091 (Nat.not_lt_zero _)
    | succ f1089 ih1090 =>
      intro v1093 v1094 M1095 L1096 k1097 n1098 hm1091
      refine g_iload_n (pc1 := 15) d_Reader_takeSum_14 rfl 3 rfl ?_
      refine g_sipush (pc1 := 18) (v := 400) d_Reader_takeSum_15 rfl (by decide) ?_
      refine g_icmp_gt (pc1 := 21) (tgt := 89) d_Reader_takeSum_18 (by decide) rfl (fun h1099 => ?_) (fun h1099 => ?_)
      · refine g_aload_n (pc1 := 90) d_Reader_takeSum_89 rfl 0 rfl ?_
        refine g_aload_n (pc1 := 91) d_Reader_takeSum_90 rfl 1 rfl ?_
        refine g_iconst (pc1 := 92) (v := 1) d_Reader_takeSum_91 rfl (by decide) ?_
        refine g_callV0 (pc1 := 95) (As := [.ref Wl1, .int 1]) (rest := []) d_Reader_takeSum_92 rfl mo_Reader_215 mi_Reader_layHeld mv_Reader_layHeld rfl sh_3 (by decide) (by decide) rfl rfl (Nat.le_of_ble_eq_true rfl) ?_
        refine t1_Reader_layHeld hld Wl1 hWl1 _ (fun  M1100 L1101 k1102 => ?_)
        refine g_return rfl d_Reader_takeSum_95 rfl ?_
        exact hQ _ _ (Kp.trans k1097 k1102)
      · refine g_aload_n (pc1 := 22) d_Reader_takeSum_21 rfl 0 rfl ?_
        refine g_geti (pc1 := 25) d_Reader_takeSum_22 rfl ⟨_, fo_Reader_42⟩ sh_3 (by decide) ?_
        refine g_if_ne (pc1 := 28) (tgt := 89) d_Reader_takeSum_25 (by decide) rfl (fun h1103 => ?_) (fun h1103 => ?_)
        · refine g_aload_n (pc1 := 90) d_Reader_takeSum_89 rfl 0 rfl ?_
          refine g_aload_n (pc1 := 91) d_Reader_takeSum_90 rfl 1 rfl ?_
          refine g_iconst (pc1 := 92) (v := 1) d_Reader_takeSum_91 rfl (by decide) ?_
          refine g_callV0 (pc1 := 95) (As := [.ref Wl1, .int 1]) (rest := []) d_Reader_takeSum_92 rfl mo_Reader_215 mi_Reader_layHeld mv_Reader_layHeld rfl sh_3 (by decide) (by decide) rfl rfl (Nat.le_of_ble_eq_true rfl) ?_
          refine t1_Reader_layHeld hld Wl1 hWl1 _ (fun  M1104 L1105 k1106 => ?_)
          refine g_return rfl d_Reader_takeSum_95 rfl ?_
          exact hQ _ _ (Kp.trans k1097 k1106)
        · refine g_iload_n (pc1 := 29) d_Reader_takeSum_28 rfl 2 rfl ?_
          refine g_if_eq (pc1 := 32) (tgt := 41) d_Reader_takeSum_29 (by decide) rfl (fun h1107 => ?_) (fun h1107 => ?_)
          · refine g_aload_n (pc1 := 42) d_Reader_takeSum_41 rfl 0 rfl ?_
            refine g_getr (pc1 := 45) d_Reader_takeSum_42 rfl ⟨_, fo_Reader_12⟩ sh_3 (by decide) (rf_3_0 ld) ?_
            refine g_getr (pc1 := 48) d_Reader_takeSum_45 rfl ⟨_, fo_Reader_55⟩ sh_4 (by decide) (rf_4_1 ld) ?_
            refine g_aload_n (pc1 := 49) d_Reader_takeSum_48 rfl 0 rfl ?_
            refine g_geti (pc1 := 52) d_Reader_takeSum_49 rfl ⟨_, fo_Reader_38⟩ sh_3 (by decide) ?_
            refine g_callS0 (pc1 := 55) (As := [.ref 6, .int (M1095 3 1)]) (rest := []) d_Reader_takeSum_52 rfl mo_Reader_58 ms_Main_at (by decide) rfl rfl (Nat.le_of_ble_eq_true rfl) ?_
            refine t1_Main_at hld 6 sh_6 (by decide) (by decide) _ (fun r1108 => ?_)
            refine g_callS0 (pc1 := 58) (As := [.int r1108]) (rest := []) d_Reader_takeSum_55 rfl mo_Reader_206 ms_Reader_rank (by decide) rfl rfl (Nat.le_of_ble_eq_true rfl) ?_
            refine t1_Reader_rank hld _ (fun r1109 => ?_)
            refine g_if_le (pc1 := 61) (tgt := 71) d_Reader_takeSum_58 (by decide) rfl (fun h1110 => ?_) (fun h1110 => ?_)
            · refine g_aload_n (pc1 := 72) d_Reader_takeSum_71 rfl 0 rfl ?_
              refine g_geti (pc1 := 75) d_Reader_takeSum_72 rfl ⟨_, fo_Reader_196⟩ sh_3 (by decide) ?_
              refine g_if_le (pc1 := 78) (tgt := 89) d_Reader_takeSum_75 (by decide) rfl (fun h1111 => ?_) (fun h1111 => ?_)
              · refine g_aload_n (pc1 := 90) d_Reader_takeSum_89 rfl 0 rfl ?_
                refine g_aload_n (pc1 := 91) d_Reader_takeSum_90 rfl 1 rfl ?_
                refine g_iconst (pc1 := 92) (v := 1) d_Reader_takeSum_91 rfl (by decide) ?_
                refine g_callV0 (pc1 := 95) (As := [.ref Wl1, .int 1]) (rest := []) d_Reader_takeSum_92 rfl mo_Reader_215 mi_Reader_layHeld mv_Reader_layHeld rfl sh_3 (by decide) (by decide) rfl rfl (Nat.le_of_ble_eq_true rfl) ?_
                refine t1_Reader_layHeld hld Wl1 hWl1 _ (fun  M1112 L1113 k1114 => ?_)
                refine g_return rfl d_Reader_takeSum_95 rfl ?_
                exact hQ _ _ (Kp.trans k1097 k1114)
              · refine g_aload_n (pc1 := 79) d_Reader_takeSum_78 rfl 0 rfl ?_
                refine g_aload_n (pc1 := 80) d_Reader_takeSum_79 rfl 1 rfl ?_
                refine g_callV0 (pc1 := 83) (As := [.ref Wl1]) (rest := []) d_Reader_takeSum_80 rfl mo_Reader_212 mi_Reader_takeClose mv_Reader_takeClose rfl sh_3 (by decide) (by decide) rfl rfl (Nat.le_of_ble_eq_true rfl) ?_
                refine t1_Reader_takeClose hld Wl1 hWl1 (fun  M1115 L1116 k1117 => ?_)
                obtain ⟨x1118, ex1118⟩ : ∃ y : Int32, y = v1094 + 1 := ⟨_, rfl⟩
                refine g_iinc (pc1 := 86) (v := x1118) (lv' := [(0, .ref 3), (1, .ref Wl1), (2, .int v1093), (3, .int x1118)]) d_Reader_takeSum_83 rfl 3 rfl (by rw [ex1118]; rfl) (by decide) [1, 2, 3, 0] rfl ?_
                refine g_goto (tgt := 14) d_Reader_takeSum_86 (by decide) ?_
                exact ih1090 v1093 x1118 M1115 L1116 (Kp.trans k1097 k1117) (nn_upe (y := (400 : Int32)) h1099 (by decide) ex1118 n1098) (md_upe h1099 (by decide) ex1118 hm1091)
            · refine g_aload_n (pc1 := 62) d_Reader_takeSum_61 rfl 0 rfl ?_
              refine g_aload_n (pc1 := 63) d_Reader_takeSum_62 rfl 1 rfl ?_
              refine g_callV0 (pc1 := 66) (As := [.ref Wl1]) (rest := []) d_Reader_takeSum_63 rfl mo_Reader_209 mi_Reader_takeSign mv_Reader_takeSign rfl sh_3 (by decide) (by decide) rfl rfl (Nat.le_of_ble_eq_true rfl) ?_
              refine t1_Reader_takeSign hld Wl1 hWl1 (fun  M1119 L1120 k1121 => ?_)
              refine g_iconst (pc1 := 67) (v := 1) d_Reader_takeSum_66 rfl (by decide) ?_
              refine g_istore_n (pc1 := 68) (lv' := [(0, .ref 3), (1, .ref Wl1), (2, .int 1), (3, .int v1094)]) d_Reader_takeSum_67 rfl rfl (by decide) [1, 2, 0, 3] rfl ?_
              refine g_goto (tgt := 83) d_Reader_takeSum_68 (by decide) ?_
              obtain ⟨x1122, ex1122⟩ : ∃ y : Int32, y = v1094 + 1 := ⟨_, rfl⟩
              refine g_iinc (pc1 := 86) (v := x1122) (lv' := [(0, .ref 3), (1, .ref Wl1), (2, .int 1), (3, .int x1122)]) d_Reader_takeSum_83 rfl 3 rfl (by rw [ex1122]; rfl) (by decide) [1, 2, 3, 0] rfl ?_
              refine g_goto (tgt := 14) d_Reader_takeSum_86 (by decide) ?_
              exact ih1090 1 x1122 M1119 L1120 (Kp.trans k1097 k1121) (nn_upe (y := (400 : Int32)) h1099 (by decide) ex1122 n1098) (md_upe h1099 (by decide) ex1122 hm1091)
          · refine g_aload_n (pc1 := 33) d_Reader_takeSum_32 rfl 0 rfl ?_
            refine g_aload_n (pc1 := 34) d_Reader_takeSum_33 rfl 1 rfl ?_
            refine g_callV0 (pc1 := 37) (As := [.ref Wl1]) (rest := []) d_Reader_takeSum_34 rfl mo_Reader_202 mi_Reader_takeUnit mv_Reader_takeUnit rfl sh_3 (by decide) (by decide) rfl rfl (Nat.le_of_ble_eq_true rfl) ?_
            refine t1_Reader_takeUnit hld Wl1 hWl1 (fun r1123 M1124 L1125 hr1123 k1126 => ?_)
            refine g_istore_n (pc1 := 38) (lv' := [(0, .ref 3), (1, .ref Wl1), (2, .int r1123), (3, .int v1094)]) d_Reader_takeSum_37 rfl rfl (by decide) [1, 2, 0, 3] rfl ?_
            refine g_goto (tgt := 83) d_Reader_takeSum_38 (by decide) ?_
            obtain ⟨x1127, ex1127⟩ : ∃ y : Int32, y = v1094 + 1 := ⟨_, rfl⟩
            refine g_iinc (pc1 := 86) (v := x1127) (lv' := [(0, .ref 3), (1, .ref Wl1), (2, .int r1123), (3, .int x1127)]) d_Reader_takeSum_83 rfl 3 rfl (by rw [ex1127]; rfl) (by decide) [1, 2, 3, 0] rfl ?_
            refine g_goto (tgt := 14) d_Reader_takeSum_86 (by decide) ?_
            exact ih1090 r1123 x1127 M1124 L1125 (Kp.trans k1097 k1126) (nn_upe (y := (400 : Int32)) h1099 (by decide) ex1127 n1098) (md_upe h1099 (by decide) ex1127 hm1091)
  exact LP1092 _ 1 0 M1088 L (Kp.wM (Kp.wM Kp.rf rfl eM1087) rfl eM1088) (by decide) (Nat.lt_succ_self _)
set_option maxHeartbeats 4000000 in
set_option maxRecDepth 20000 in
theorem t1_State_boundOf {l : Launch} {ld : Nat} (hld : isLa ld) {M : gM} {L : gL} {Q : Option Value → gM → gL → gR → Prop} (X0 : Nat) (hX0 : isSt X0) (Ld1 : Nat) (hLd1 : isLa Ld1) (p2 : Int32) (p3 : Int32) (p4 : Int32) (hQ : ∀ (r : Int32) (M' : gM) (L' : gL), Kp S0 M L M' L' → Q (some (.int r)) M' L' (rf ld)) : Tm l y_State_boundOf (0, 0, 447) 447 [.ref X0, .ref Ld1, .int p2, .int p3, .int p4] M L (rf ld) Q := by
  refine Tm.of (by decide) (Nat.le_of_ble_eq_true rfl) ?_
  show Wp l y_State_boundOf (0, 0, 447) 447 0 0 0 [(0, .ref X0), (1, .ref Ld1), (2, .int p2), (3, .int p3), (4, .int p4)] [] M L (rf ld) Q
  refine g_aload_n (pc1 := 1) d_State_boundOf_0 rfl 0 rfl ?_
  refine g_iload_n (pc1 := 2) d_State_boundOf_1 rfl 2 rfl ?_
  refine g_callV0 (pc1 := 5) (As := [.int p2]) (rest := []) d_State_boundOf_2 rfl mo_State_97 mi_State_hasEaten mv_State_hasEaten rfl (shSt_0 hX0) (ltSt_0 hX0) (by decide) rfl rfl (Nat.le_of_ble_eq_true rfl) ?_
  refine t1_State_hasEaten hld X0 hX0 _ (fun r1128 hr1128 => ?_)
  refine g_if_ne (pc1 := 8) (tgt := 10) d_State_boundOf_5 (by decide) rfl (fun h1129 => ?_) (fun h1129 => ?_)
  · refine g_aload_n (pc1 := 11) d_State_boundOf_10 rfl 1 rfl ?_
    refine g_iload_n (pc1 := 12) d_State_boundOf_11 rfl 2 rfl ?_
    refine g_iload_n (pc1 := 13) d_State_boundOf_12 rfl 3 rfl ?_
    refine g_aload_n (pc1 := 14) d_State_boundOf_13 rfl 0 rfl ?_
    refine g_getr (pc1 := 17) d_State_boundOf_14 rfl ⟨_, fo_State_31⟩ (shSt_0 hX0) (ltSt_0 hX0) (rfSt_9 ld hX0) ?_
    refine g_iload_n (pc1 := 18) d_State_boundOf_17 rfl 2 rfl ?_
    refine g_iconst (pc1 := 19) (v := 3) d_State_boundOf_18 rfl (by decide) ?_
    refine g_imul (pc1 := 20) d_State_boundOf_19 rfl ?_
    refine g_iload_n (pc1 := 21) d_State_boundOf_20 rfl 3 rfl ?_
    refine g_iadd (pc1 := 22) d_State_boundOf_21 rfl ?_
    refine g_callS0 (pc1 := 25) (As := [.ref (X0 + 6), .int ((p2 * 3) + p3)]) (rest := [.int p3, .int p2, .ref Ld1]) d_State_boundOf_22 rfl mo_State_53 ms_Main_at (by decide) rfl rfl (Nat.le_of_ble_eq_true rfl) ?_
    refine t1_Main_at hld (X0 + 6) (shSt_6 hX0) (ltSt_6 hX0) (by decide) _ (fun r1130 => ?_)
    refine g_aload_n (pc1 := 26) d_State_boundOf_25 rfl 0 rfl ?_
    refine g_iload_n (pc1 := 27) d_State_boundOf_26 rfl 2 rfl ?_
    refine g_callV0 (pc1 := 30) (As := [.int p2]) (rest := [.int r1130, .int p3, .int p2, .ref Ld1]) d_State_boundOf_27 rfl mo_State_101 mi_State_agoOf mv_State_agoOf rfl (shSt_0 hX0) (ltSt_0 hX0) (by decide) rfl rfl (Nat.le_of_ble_eq_true rfl) ?_
    refine t1_State_agoOf hld X0 hX0 _ (fun r1131 => ?_)
    refine g_iload (pc1 := 32) d_State_boundOf_30 rfl 4 rfl ?_
    refine g_iadd (pc1 := 33) d_State_boundOf_32 rfl ?_
    refine g_aload_n (pc1 := 34) d_State_boundOf_33 rfl 0 rfl ?_
    refine g_geti (pc1 := 37) d_State_boundOf_34 rfl ⟨_, fo_State_34⟩ (shSt_0 hX0) (ltSt_0 hX0) ?_
    refine g_iload (pc1 := 39) d_State_boundOf_37 rfl 4 rfl ?_
    refine g_iadd (pc1 := 40) d_State_boundOf_39 rfl ?_
    refine g_callV0 (pc1 := 43) (As := [.int p2, .int p3, .int r1130, .int (r1131 + p4), .int ((M X0 0) + p4)]) (rest := []) d_State_boundOf_40 rfl mo_State_104 mi_Land_boundBy mv_Land_boundBy rfl (shLa_0 hLd1) (ltLa_0 hLd1) (by decide) rfl rfl (Nat.le_of_ble_eq_true rfl) ?_
    refine t1_Land_boundBy hld Ld1 hLd1 _ _ _ _ _ (fun r1132 M1133 L1134 k1135 => ?_)
    refine g_ireturn (Or.inl rfl) d_State_boundOf_43 rfl ?_
    exact hQ _ _ _ (Kp.trans Kp.rf k1135)
  · refine g_iconst (pc1 := 9) (v := 0) d_State_boundOf_8 rfl (by decide) ?_
    refine g_ireturn (Or.inl rfl) d_State_boundOf_9 rfl ?_
    exact hQ _ _ _ Kp.rf
set_option maxHeartbeats 4000000 in
set_option maxRecDepth 20000 in
theorem t1_State_passDays {l : Launch} {ld : Nat} (hld : isLa ld) {M : gM} {L : gL} {Q : Option Value → gM → gL → gR → Prop} (X0 : Nat) (hX0 : isSt X0) (Ld1 : Nat) (hLd1 : isLa Ld1) (p2 : Int32) (hQ : ∀ (M' : gM) (L' : gL), Kp S1 M L M' L' → Q none M' L' (rf ld)) : Tm l y_State_passDays (0, 0, 447) 447 [.ref X0, .ref Ld1, .int p2] M L (rf ld) Q := by
  refine Tm.of (by decide) (Nat.le_of_ble_eq_true rfl) ?_
  show Wp l y_State_passDays (0, 0, 447) 447 0 0 0 [(0, .ref X0), (1, .ref Ld1), (2, .int p2)] [] M L (rf ld) Q
  refine g_iconst (pc1 := 1) (v := 0) d_State_passDays_0 rfl (by decide) ?_
  refine g_istore_n (pc1 := 2) (lv' := [(0, .ref X0), (1, .ref Ld1), (2, .int p2), (3, .int 0)]) d_State_passDays_1 rfl rfl (by decide) [1, 2, 3, 0] rfl ?_
  have LP1139 : ∀ (f1136 : Nat) (v1140 : Int32) (M1141 : gM) (L1142 : gL), Kp S1 M L M1141 L1142 → ¬ v1140 < 0 → (p2.toInt - v1140.toInt).toNat < f1136 → Wp l y_State_passDays (0, 0, 447) 447 0 0 2 [(0, .ref X0), (1, .ref Ld1), (2, .int p2), (3, .int v1140)] [] M1141 L1142 (rf ld) Q := by
    intro f1136
    induction f1136 with
    | zero => intro v1140 M1141 L1142 _ _ hm1138; exact absurd hm1138 (Nat.not_lt_zero _)
    | succ f1136 ih1137 =>
      intro v1140 M1141 L1142 k1143 n1144 hm1138
      refine g_iload_n (pc1 := 3) d_State_passDays_2 rfl 3 rfl ?_
      refine g_iload_n (pc1 := 4) d_State_passDays_3 rfl 2 rfl ?_
      refine g_icmp_ge (pc1 := 7) (tgt := 82) d_State_passDays_4 (by decide) rfl (fun h1145 => ?_) (fun h1145 => ?_)
      · refine g_return rfl d_State_passDays_82 rfl ?_
        exact hQ _ _ k1143
      · refine g_iconst (pc1 := 8) (v := 0) d_State_passDays_7 rfl (by decide) ?_
        refine g_istore (pc1 := 10) (lv' := [(0, .ref X0), (1, .ref Ld1), (2, .int p2), (3, .int v1140), (4, .int 0)]) d_State_passDays_8 rfl (by decide) [1, 2, 3, 4, 0] rfl ?_
        have LP1149 : ∀ (f1146 : Nat) (v1150 : Int32) (M1151 : gM) (L1152 : gL), Kp S1 M L M1151 L1152 → ¬ v1150 < 0 → ((M Ld1 0).toInt - v1150.toInt).toNat < f1146 → Wp l y_State_passDays (0, 0, 447) 447 0 0 10 [(0, .ref X0), (1, .ref Ld1), (2, .int p2), (3, .int v1140), (4, .int v1150)] [] M1151 L1152 (rf ld) Q := by
          intro f1146
          induction f1146 with
          | zero => intro v1150 M1151 L1152 _ _ hm1148; exact absurd hm1148 (Nat.not_lt_zero _)
          | succ f1146 ih1147 =>
            intro v1150 M1151 L1152 k1153 n1154 hm1148
            refine g_iload (pc1 := 12) d_State_passDays_10 rfl 4 rfl ?_
            refine g_aload_n (pc1 := 13) d_State_passDays_12 rfl 1 rfl ?_
            refine g_geti (pc1 := 16) d_State_passDays_13 rfl ⟨_, fo_State_47⟩ (shLa_0 hLd1) (ltLa_0 hLd1) ?_
            refine g_icmp_ge (pc1 := 19) (tgt := 66) d_State_passDays_16 (by decide) rfl (fun h1155 => ?_) (fun h1155 => ?_)
            · refine g_aload_n (pc1 := 67) d_State_passDays_66 rfl 0 rfl ?_
              refine g_dup (pc1 := 68) d_State_passDays_67 rfl rfl ?_
              refine g_geti (pc1 := 71) d_State_passDays_68 rfl ⟨_, fo_State_34⟩ (shSt_0 hX0) (ltSt_0 hX0) ?_
              refine g_iconst (pc1 := 72) (v := 1) d_State_passDays_71 rfl (by decide) ?_
              refine g_iadd (pc1 := 73) d_State_passDays_72 rfl ?_
              refine g_puti (pc1 := 76) d_State_passDays_73 rfl fo_State_34 (po_6_0 _) (shSt_0 hX0) (ltSt_0 hX0) ?_
              refine Wp.topM (fun M1156 eM1156 => ?_)
              obtain ⟨x1157, ex1157⟩ : ∃ y : Int32, y = v1140 + 1 := ⟨_, rfl⟩
              refine g_iinc (pc1 := 79) (v := x1157) (lv' := [(0, .ref X0), (1, .ref Ld1), (2, .int p2), (3, .int x1157), (4, .int v1150)]) d_State_passDays_76 rfl 3 rfl (by rw [ex1157]; rfl) (by decide) [1, 2, 3, 0, 4] rfl ?_
              refine g_goto (tgt := 2) d_State_passDays_79 (by decide) ?_
              refine Wp.loc (lv' := [(0, .ref X0), (1, .ref Ld1), (2, .int p2), (3, .int x1157)]) [0, 1, 2, 3] rfl ?_
              exact ih1137 x1157 M1156 L1152 (Kp.wM k1153 (S1_St_0 hX0) eM1156) (nn_up (y := p2) h1145 ex1157 n1144) (md_up h1145 ex1157 hm1138)
            · refine g_aload_n (pc1 := 20) d_State_passDays_19 rfl 0 rfl ?_
              refine g_getr (pc1 := 23) d_State_passDays_20 rfl ⟨_, fo_State_19⟩ (shSt_0 hX0) (ltSt_0 hX0) (rfSt_5 ld hX0) ?_
              refine g_iload (pc1 := 25) d_State_passDays_23 rfl 4 rfl ?_
              refine g_callS0 (pc1 := 28) (As := [.ref (X0 + 2), .int v1150]) (rest := []) d_State_passDays_25 rfl mo_State_53 ms_Main_at (by decide) rfl rfl (Nat.le_of_ble_eq_true rfl) ?_
              refine t1_Main_at hld (X0 + 2) (shSt_2 hX0) (ltSt_2 hX0) (by decide) _ (fun r1158 => ?_)
              refine g_istore (pc1 := 30) (lv' := [(0, .ref X0), (1, .ref Ld1), (2, .int p2), (3, .int v1140), (4, .int v1150), (5, .int r1158)]) d_State_passDays_28 rfl (by decide) [1, 2, 3, 4, 5, 0] rfl ?_
              refine g_aload_n (pc1 := 31) d_State_passDays_30 rfl 0 rfl ?_
              refine g_getr (pc1 := 34) d_State_passDays_31 rfl ⟨_, fo_State_19⟩ (shSt_0 hX0) (ltSt_0 hX0) (rfSt_5 ld hX0) ?_
              refine g_iload (pc1 := 36) d_State_passDays_34 rfl 4 rfl ?_
              refine g_iload (pc1 := 38) d_State_passDays_36 rfl 5 rfl ?_
              refine g_aload_n (pc1 := 39) d_State_passDays_38 rfl 1 rfl ?_
              refine g_iload (pc1 := 41) d_State_passDays_39 rfl 4 rfl ?_
              refine g_iload (pc1 := 43) d_State_passDays_41 rfl 5 rfl ?_
              refine g_aload_n (pc1 := 44) d_State_passDays_43 rfl 0 rfl ?_
              refine g_geti (pc1 := 47) d_State_passDays_44 rfl ⟨_, fo_State_34⟩ (shSt_0 hX0) (ltSt_0 hX0) ?_
              refine g_callV0 (pc1 := 50) (As := [.int v1150, .int r1158, .int (M1151 X0 0)]) (rest := [.int r1158, .int v1150, .ref (X0 + 2)]) d_State_passDays_47 rfl mo_State_91 mi_Land_fillOf mv_Land_fillOf rfl (shLa_0 hLd1) (ltLa_0 hLd1) (by decide) rfl rfl (Nat.le_of_ble_eq_true rfl) ?_
              refine t1_Land_fillOf hld Ld1 hLd1 _ _ _ (fun r1159 M1160 L1161 k1162 => ?_)
              refine g_iadd (pc1 := 51) d_State_passDays_50 rfl ?_
              refine g_iconst (pc1 := 52) (v := 0) d_State_passDays_51 rfl (by decide) ?_
              refine g_bipush (pc1 := 54) (v := 99) d_State_passDays_52 rfl (by decide) ?_
              refine g_callS0 (pc1 := 57) (As := [.int (r1158 + r1159), .int 0, .int 99]) (rest := [.int v1150, .ref (X0 + 2)]) d_State_passDays_54 rfl mo_State_94 ms_Main_within (by decide) rfl rfl (Nat.le_of_ble_eq_true rfl) ?_
              refine t1_Main_within hld _ _ _ (fun r1163 => ?_)
              refine g_callS0 (pc1 := 60) (As := [.ref (X0 + 2), .int v1150, .int r1163]) (rest := []) d_State_passDays_57 rfl mo_State_57 ms_Main_put (by decide) rfl rfl (Nat.le_of_ble_eq_true rfl) ?_
              refine t1_Main_put hld (X0 + 2) (shSt_2 hX0) (ltSt_2 hX0) (by decide) _ _ (fun  M1164 L1165 k1166 => ?_)
              obtain ⟨x1167, ex1167⟩ : ∃ y : Int32, y = v1150 + 1 := ⟨_, rfl⟩
              refine g_iinc (pc1 := 63) (v := x1167) (lv' := [(0, .ref X0), (1, .ref Ld1), (2, .int p2), (3, .int v1140), (4, .int x1167), (5, .int r1158)]) d_State_passDays_60 rfl 4 rfl (by rw [ex1167]; rfl) (by decide) [1, 2, 3, 4, 0, 5] rfl ?_
              refine g_goto (tgt := 10) d_State_passDays_63 (by decide) ?_
              refine Wp.loc (lv' := [(0, .ref X0), (1, .ref Ld1), (2, .int p2), (3, .int v1140), (4, .int x1167)]) [0, 1, 2, 3, 4] rfl ?_
              exact ih1147 x1167 M1164 L1165 (Kp.trans (Kp.trans k1153 (Kp.mono k1162 S0_S1)) (Kp.mono k1166 (one_S (S1_St_2 hX0)))) (nn_up (y := (M Ld1 0)) (by rw [← k1153.m (S1_La_0f hLd1) 0]; exact h1155) ex1167 n1154) (md_up (by rw [← k1153.m (S1_La_0f hLd1) 0]; exact h1155) ex1167 hm1148)
        exact LP1149 _ 0 M1141 L1142 k1143 (by decide) (Nat.lt_succ_self _)
  exact LP1139 _ 0 M L Kp.rf (by decide) (Nat.lt_succ_self _)
set_option maxHeartbeats 4000000 in
set_option maxRecDepth 20000 in
theorem t1_Tokens_cut {l : Launch} {ld : Nat} (hld : isLa ld) {M : gM} {L : gL} {Q : Option Value → gM → gL → gR → Prop}  (hQ : ∀ (M' : gM) (L' : gL), Kp S2 M L M' L' → Q none M' L' (rf ld)) : Tm l y_Tokens_cut (0, 0, 447) 447 [.ref 4, .ref 1] M L (rf ld) Q := by
  refine Tm.of (by decide) (Nat.le_of_ble_eq_true rfl) ?_
  show Wp l y_Tokens_cut (0, 0, 447) 447 0 0 0 [(0, .ref 4), (1, .ref 1)] [] M L (rf ld) Q
  refine g_iconst (pc1 := 1) (v := 0) d_Tokens_cut_0 rfl (by decide) ?_
  refine g_istore_n (pc1 := 2) (lv' := [(0, .ref 4), (1, .ref 1), (2, .int 0)]) d_Tokens_cut_1 rfl rfl (by decide) [1, 2, 0] rfl ?_
  refine g_iconst (pc1 := 3) (v := 0) d_Tokens_cut_2 rfl (by decide) ?_
  refine g_istore_n (pc1 := 4) (lv' := [(0, .ref 4), (1, .ref 1), (2, .int 0), (3, .int 0)]) d_Tokens_cut_3 rfl rfl (by decide) [1, 2, 3, 0] rfl ?_
  have LP1171 : ∀ (f1168 : Nat) (v1172 : Int32) (v1173 : Int32) (M1174 : gM) (L1175 : gL), Kp S2 M L M1174 L1175 → ¬ v1173 < 0 → ((401 : Int32).toInt - v1173.toInt).toNat < f1168 → Wp l y_Tokens_cut (0, 0, 447) 447 0 0 4 [(0, .ref 4), (1, .ref 1), (2, .int v1172), (3, .int v1173)] [] M1174 L1175 (rf ld) Q := by
    intro f1168
    induction f1168 with
    | zero => intro v1172 v1173 M1174 L1175 _ _ hm1170; exact absurd hm1170 (Nat.not_lt_zero _)
    | succ f1168 ih1169 =>
      intro v1172 v1173 M1174 L1175 k1176 n1177 hm1170
      refine g_iload_n (pc1 := 5) d_Tokens_cut_4 rfl 3 rfl ?_
      refine g_aload_n (pc1 := 6) d_Tokens_cut_5 rfl 0 rfl ?_
      refine g_getr (pc1 := 9) d_Tokens_cut_6 rfl ⟨_, fo_Tokens_15⟩ sh_4 (by decide) (rf_4_1 ld) ?_
      refine g_alen (pc1 := 10) (v := 401) d_Tokens_cut_9 rfl sh_6 (by decide) (by decide) (by decide) (by decide) ?_
      refine g_icmp_ge (pc1 := 13) (tgt := 67) d_Tokens_cut_10 (by decide) rfl (fun h1178 => ?_) (fun h1178 => ?_)
      · refine g_return rfl d_Tokens_cut_67 rfl ?_
        exact hQ _ _ k1176
      · refine g_aload_n (pc1 := 14) d_Tokens_cut_13 rfl 1 rfl ?_
        refine g_iload_n (pc1 := 15) d_Tokens_cut_14 rfl 2 rfl ?_
        refine g_callS0 (pc1 := 18) (As := [.ref 1, .int v1172]) (rest := []) d_Tokens_cut_15 rfl mo_Tokens_43 ms_Tokens_behindBlanks (by decide) rfl rfl (Nat.le_of_ble_eq_true rfl) ?_
        refine t1_Tokens_behindBlanks hld _ (fun r1179 => ?_)
        refine g_istore (pc1 := 20) (lv' := [(0, .ref 4), (1, .ref 1), (2, .int v1172), (3, .int v1173), (4, .int r1179)]) d_Tokens_cut_18 rfl (by decide) [1, 2, 3, 4, 0] rfl ?_
        refine g_aload_n (pc1 := 21) d_Tokens_cut_20 rfl 0 rfl ?_
        refine g_aload_n (pc1 := 22) d_Tokens_cut_21 rfl 1 rfl ?_
        refine g_iload (pc1 := 24) d_Tokens_cut_22 rfl 4 rfl ?_
        refine g_iload_n (pc1 := 25) d_Tokens_cut_24 rfl 3 rfl ?_
        refine g_callV0 (pc1 := 28) (As := [.ref 1, .int r1179, .int v1173]) (rest := []) d_Tokens_cut_25 rfl mo_Tokens_47 mi_Tokens_cutOne mv_Tokens_cutOne rfl sh_4 (by decide) (by decide) rfl rfl (Nat.le_of_ble_eq_true rfl) ?_
        refine t1_Tokens_cutOne hld _ _ (fun r1180 M1181 L1182 k1183 => ?_)
        refine g_istore_n (pc1 := 29) (lv' := [(0, .ref 4), (1, .ref 1), (2, .int r1180), (3, .int v1173), (4, .int r1179)]) d_Tokens_cut_28 rfl rfl (by decide) [1, 2, 0, 3, 4] rfl ?_
        refine g_aload_n (pc1 := 30) d_Tokens_cut_29 rfl 0 rfl ?_
        refine g_getr (pc1 := 33) d_Tokens_cut_30 rfl ⟨_, fo_Tokens_19⟩ sh_4 (by decide) (rf_4_2 ld) ?_
        refine g_iload_n (pc1 := 34) d_Tokens_cut_33 rfl 3 rfl ?_
        refine g_iload (pc1 := 36) d_Tokens_cut_34 rfl 4 rfl ?_
        refine g_callS0 (pc1 := 39) (As := [.ref 7, .int v1173, .int r1179]) (rest := []) d_Tokens_cut_36 rfl mo_Tokens_51 ms_Main_put (by decide) rfl rfl (Nat.le_of_ble_eq_true rfl) ?_
        refine t1_Main_put hld 7 sh_7 (by decide) (by decide) _ _ (fun  M1184 L1185 k1186 => ?_)
        refine g_aload_n (pc1 := 40) d_Tokens_cut_39 rfl 0 rfl ?_
        refine g_getr (pc1 := 43) d_Tokens_cut_40 rfl ⟨_, fo_Tokens_15⟩ sh_4 (by decide) (rf_4_1 ld) ?_
        refine g_iload_n (pc1 := 44) d_Tokens_cut_43 rfl 3 rfl ?_
        refine g_iald (pc1 := 45) d_Tokens_cut_44 rfl sh_6 (by decide) (vin_of n1177 h1178 (by decide)) ?_
        refine g_if_eq (pc1 := 48) (tgt := 67) d_Tokens_cut_45 (by decide) rfl (fun h1187 => ?_) (fun h1187 => ?_)
        · refine g_return rfl d_Tokens_cut_67 rfl ?_
          exact hQ _ _ (Kp.trans (Kp.trans k1176 k1183) (Kp.mono k1186 (one_S rfl)))
        · refine g_aload_n (pc1 := 49) d_Tokens_cut_48 rfl 0 rfl ?_
          refine g_getr (pc1 := 52) d_Tokens_cut_49 rfl ⟨_, fo_Tokens_15⟩ sh_4 (by decide) (rf_4_1 ld) ?_
          refine g_iload_n (pc1 := 53) d_Tokens_cut_52 rfl 3 rfl ?_
          refine g_iald (pc1 := 54) d_Tokens_cut_53 rfl sh_6 (by decide) (vin_of n1177 h1178 (by decide)) ?_
          refine g_iconst (pc1 := 55) (v := 1) d_Tokens_cut_54 rfl (by decide) ?_
          refine g_icmp_ne (pc1 := 58) (tgt := 61) d_Tokens_cut_55 (by decide) rfl (fun h1188 => ?_) (fun h1188 => ?_)
          · obtain ⟨x1189, ex1189⟩ : ∃ y : Int32, y = v1173 + 1 := ⟨_, rfl⟩
            refine g_iinc (pc1 := 64) (v := x1189) (lv' := [(0, .ref 4), (1, .ref 1), (2, .int r1180), (3, .int x1189), (4, .int r1179)]) d_Tokens_cut_61 rfl 3 rfl (by rw [ex1189]; rfl) (by decide) [1, 2, 3, 0, 4] rfl ?_
            refine g_goto (tgt := 4) d_Tokens_cut_64 (by decide) ?_
            refine Wp.loc (lv' := [(0, .ref 4), (1, .ref 1), (2, .int r1180), (3, .int x1189)]) [0, 1, 2, 3] rfl ?_
            exact ih1169 r1180 x1189 M1184 L1185 (Kp.trans (Kp.trans k1176 k1183) (Kp.mono k1186 (one_S rfl))) (nn_up (y := (401 : Int32)) h1178 ex1189 n1177) (md_up h1178 ex1189 hm1170)
          · refine g_goto (tgt := 67) d_Tokens_cut_58 (by decide) ?_
            refine g_return rfl d_Tokens_cut_67 rfl ?_
            exact hQ _ _ (Kp.trans (Kp.trans k1176 k1183) (Kp.mono k1186 (one_S rfl)))
  exact LP1171 _ 0 0 M L Kp.rf (by decide) (Nat.lt_succ_self _)
set_option maxHeartbeats 4000000 in
set_option maxRecDepth 20000 in
theorem t1_Told_forceOf {l : Launch} {ld : Nat} (hld : isLa ld) {M : gM} {L : gL} {Q : Option Value → gM → gL → gR → Prop} (Ld1 : Nat) (hLd1 : isLa Ld1) (p2 : Int32) (p3 : Int32) (p4 : Int32) (p5 : Int32) (hQ : ∀ (r : Int32) (M' : gM) (L' : gL), Kp S0 M L M' L' → Q (some (.int r)) M' L' (rf ld)) : Tm l y_Told_forceOf (0, 0, 447) 447 [.ref 383, .ref Ld1, .int p2, .int p3, .int p4, .int p5] M L (rf ld) Q := by
  refine Tm.of (by decide) (Nat.le_of_ble_eq_true rfl) ?_
  show Wp l y_Told_forceOf (0, 0, 447) 447 0 0 0 [(0, .ref 383), (1, .ref Ld1), (2, .int p2), (3, .int p3), (4, .int p4), (5, .int p5)] [] M L (rf ld) Q
  refine g_aload_n (pc1 := 1) d_Told_forceOf_0 rfl 1 rfl ?_
  refine g_iload (pc1 := 3) d_Told_forceOf_1 rfl 4 rfl ?_
  refine g_aload_n (pc1 := 4) d_Told_forceOf_3 rfl 0 rfl ?_
  refine g_getr (pc1 := 7) d_Told_forceOf_4 rfl ⟨_, fo_Told_27⟩ sh_383 (by decide) (rf_383_6 ld) ?_
  refine g_iload_n (pc1 := 8) d_Told_forceOf_7 rfl 3 rfl ?_
  refine g_iconst (pc1 := 9) (v := 3) d_Told_forceOf_8 rfl (by decide) ?_
  refine g_imul (pc1 := 10) d_Told_forceOf_9 rfl ?_
  refine g_iload (pc1 := 12) d_Told_forceOf_10 rfl 4 rfl ?_
  refine g_iadd (pc1 := 13) d_Told_forceOf_12 rfl ?_
  refine g_callS0 (pc1 := 16) (As := [.ref 389, .int ((p3 * 3) + p4)]) (rest := [.int p4, .ref Ld1]) d_Told_forceOf_13 rfl mo_Told_73 ms_Main_at (by decide) rfl rfl (Nat.le_of_ble_eq_true rfl) ?_
  refine t1_Main_at hld 389 sh_389 (by decide) (by decide) _ (fun r1190 => ?_)
  refine g_iload (pc1 := 18) d_Told_forceOf_16 rfl 5 rfl ?_
  refine g_aload_n (pc1 := 19) d_Told_forceOf_18 rfl 0 rfl ?_
  refine g_getr (pc1 := 22) d_Told_forceOf_19 rfl ⟨_, fo_Told_24⟩ sh_383 (by decide) (rf_383_5 ld) ?_
  refine g_iload_n (pc1 := 23) d_Told_forceOf_22 rfl 3 rfl ?_
  refine g_callS0 (pc1 := 26) (As := [.ref 388, .int p3]) (rest := [.int p5, .int r1190, .int p4, .ref Ld1]) d_Told_forceOf_23 rfl mo_Told_73 ms_Main_at (by decide) rfl rfl (Nat.le_of_ble_eq_true rfl) ?_
  refine t1_Main_at hld 388 sh_388 (by decide) (by decide) _ (fun r1191 => ?_)
  refine g_iload_n (pc1 := 27) d_Told_forceOf_26 rfl 2 rfl ?_
  refine g_callV0 (pc1 := 30) (As := [.int p4, .int r1190, .int p5, .int r1191, .int p2]) (rest := []) d_Told_forceOf_27 rfl mo_Told_81 mi_Land_potForce mv_Land_potForce rfl (shLa_0 hLd1) (ltLa_0 hLd1) (by decide) rfl rfl (Nat.le_of_ble_eq_true rfl) ?_
  refine t1_Land_potForce hld Ld1 hLd1 _ _ _ _ _ (fun r1192 M1193 L1194 k1195 => ?_)
  refine g_ireturn (Or.inl rfl) d_Told_forceOf_30 rfl ?_
  exact hQ _ _ _ (Kp.trans Kp.rf k1195)
