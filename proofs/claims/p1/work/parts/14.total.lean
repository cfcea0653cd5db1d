set_option maxHeartbeats 4000000 in
set_option maxRecDepth 20000 in
theorem t1_State_freeOf {l : Launch} {ld : Nat} (hld : isLa ld) {M : gM} {L : gL} {Q : Option Value → gM → gL → gR → Prop} (X0 : Nat) (hX0 : isSt X0) (Ld1 : Nat) (hLd1 : isLa Ld1) (p2 : Int32) (p3 : Int32) (hQ : ∀ (r : Int32) (M' : gM) (L' : gL), Kp S0 M L M' L' → Q (some (.int r)) M' L' (rf ld)) : Tm l y_State_freeOf (0, 0, 447) 447 [.ref X0, .ref Ld1, .int p2, .int p3] M L (rf ld) Q := by
  refine Tm.of (by decide) (Nat.le_of_ble_eq_true rfl) ?_
  show Wp l y_State_freeOf (0, 0, 447) 447 0 0 0 [(0, .ref X0), (1, .ref Ld1), (2, .int p2), (3, .int p3)] [] M L (rf ld) Q
  refine g_iconst (pc1 := 1) (v := 0) d_State_freeOf_0 rfl (by decide) ?_
  refine g_istore (pc1 := 3) (lv' := [(0, .ref X0), (1, .ref Ld1), (2, .int p2), (3, .int p3), (4, .int 0)]) d_State_freeOf_1 rfl (by decide) [1, 2, 3, 4, 0] rfl ?_
  refine g_iconst (pc1 := 4) (v := 0) d_State_freeOf_3 rfl (by decide) ?_
  refine g_istore (pc1 := 6) (lv' := [(0, .ref X0), (1, .ref Ld1), (2, .int p2), (3, .int p3), (4, .int 0), (5, .int 0)]) d_State_freeOf_4 rfl (by decide) [1, 2, 3, 4, 5, 0] rfl ?_
  have LP2995 : ∀ (f2992 : Nat) (v2996 : Int32) (v2997 : Int32) (M2998 : gM) (L2999 : gL), Kp S0 M L M2998 L2999 → ¬ v2997 < 0 → ((3 : Int32).toInt - v2997.toInt).toNat < f2992 → Wp l y_State_freeOf (0, 0, 447) 447 0 0 6 [(0, .ref X0), (1, .ref Ld1), (2, .int p2), (3, .int p3), (4, .int v2996), (5, .int v2997)] [] M2998 L2999 (rf ld) Q := by
    intro f2992
    induction f2992 with
    | zero => intro v2996 v2997 M2998 L2999 _ _ hm2994; exact absurd hm2994 (Nat.not_lt_zero _)
    | succ f2992 ih2993 =>
      intro v2996 v2997 M2998 L2999 k3000 n3001 hm2994
      refine g_iload (pc1 := 8) d_State_freeOf_6 rfl 5 rfl ?_
      refine g_iconst (pc1 := 9) (v := 3) d_State_freeOf_8 rfl (by decide) ?_
      refine g_icmp_ge (pc1 := 12) (tgt := 38) d_State_freeOf_9 (by decide) rfl (fun h3002 => ?_) (fun h3002 => ?_)
      · refine g_iload (pc1 := 40) d_State_freeOf_38 rfl 4 rfl ?_
        refine g_ireturn (Or.inl rfl) d_State_freeOf_40 rfl ?_
        exact hQ _ _ _ k3000
      · refine g_iload (pc1 := 14) d_State_freeOf_12 rfl 4 rfl ?_
        refine g_aload_n (pc1 := 15) d_State_freeOf_14 rfl 1 rfl ?_
        refine g_iload (pc1 := 17) d_State_freeOf_15 rfl 5 rfl ?_
        refine g_aload_n (pc1 := 18) d_State_freeOf_17 rfl 0 rfl ?_
        refine g_aload_n (pc1 := 19) d_State_freeOf_18 rfl 1 rfl ?_
        refine g_iload_n (pc1 := 20) d_State_freeOf_19 rfl 2 rfl ?_
        refine g_iload (pc1 := 22) d_State_freeOf_20 rfl 5 rfl ?_
        refine g_iload_n (pc1 := 23) d_State_freeOf_22 rfl 3 rfl ?_
        refine g_callV0 (pc1 := 26) (As := [.ref Ld1, .int p2, .int v2997, .int p3]) (rest := [.int v2997, .ref Ld1, .int v2996]) d_State_freeOf_23 rfl mo_State_108 mi_State_boundOf mv_State_boundOf rfl (shSt_0 hX0) (ltSt_0 hX0) (by decide) rfl rfl (Nat.le_of_ble_eq_true rfl) ?_
        refine t1_State_boundOf hld X0 hX0 Ld1 hLd1 _ _ _ (fun r3003 M3004 L3005 k3006 => ?_)
        refine g_callV0 (pc1 := 29) (As := [.int v2997, .int r3003]) (rest := [.int v2996]) d_State_freeOf_26 rfl mo_State_112 mi_Land_freeUnder mv_Land_freeUnder rfl (shLa_0 hLd1) (ltLa_0 hLd1) (by decide) rfl rfl (Nat.le_of_ble_eq_true rfl) ?_
        refine t1_Land_freeUnder hld Ld1 hLd1 _ _ (fun r3007 => ?_)
        refine g_ior (pc1 := 30) d_State_freeOf_29 rfl ?_
        refine Wp.topi (fun x3008 ex3008 => ?_)
        refine g_istore (pc1 := 32) (lv' := [(0, .ref X0), (1, .ref Ld1), (2, .int p2), (3, .int p3), (4, .int x3008), (5, .int v2997)]) d_State_freeOf_30 rfl (by decide) [1, 2, 3, 4, 0, 5] rfl ?_
        obtain ⟨x3009, ex3009⟩ : ∃ y : Int32, y = v2997 + 1 := ⟨_, rfl⟩
        refine g_iinc (pc1 := 35) (v := x3009) (lv' := [(0, .ref X0), (1, .ref Ld1), (2, .int p2), (3, .int p3), (4, .int x3008), (5, .int x3009)]) d_State_freeOf_32 rfl 5 rfl (by rw [ex3009]; rfl) (by decide) [1, 2, 3, 4, 5, 0] rfl ?_
        refine g_goto (tgt := 6) d_State_freeOf_35 (by decide) ?_
        exact ih2993 x3008 x3009 M3004 L3005 (Kp.trans k3000 k3006) (nn_up (y := (3 : Int32)) h3002 ex3009 n3001) (md_up h3002 ex3009 hm2994)
  exact LP2995 _ 0 0 M L Kp.rf (by decide) (Nat.lt_succ_self _)
set_option maxHeartbeats 4000000 in
set_option maxRecDepth 20000 in
theorem t1_State_slipInto {l : Launch} {ld : Nat} (hld : isLa ld) {M : gM} {L : gL} {Q : Option Value → gM → gL → gR → Prop} (X0 : Nat) (hX0 : isSt X0) (Ld1 : Nat) (hLd1 : isLa Ld1) (p2 : Int32) (p3 : Int32) (hQ : ∀ (r : Int32) (M' : gM) (L' : gL), Kp S0 M L M' L' → Q (some (.int r)) M' L' (rf ld)) : Tm l y_State_slipInto (0, 0, 447) 447 [.ref X0, .ref Ld1, .int p2, .int p3] M L (rf ld) Q := by
  refine Tm.of (by decide) (Nat.le_of_ble_eq_true rfl) ?_
  show Wp l y_State_slipInto (0, 0, 447) 447 0 0 0 [(0, .ref X0), (1, .ref Ld1), (2, .int p2), (3, .int p3)] [] M L (rf ld) Q
  refine g_bipush (pc1 := 2) (v := 8) d_State_slipInto_0 rfl (by decide) ?_
  refine g_aload_n (pc1 := 3) d_State_slipInto_2 rfl 0 rfl ?_
  refine g_geti (pc1 := 6) d_State_slipInto_3 rfl ⟨_, fo_State_40⟩ (shSt_0 hX0) (ltSt_0 hX0) ?_
  refine g_imul (pc1 := 7) d_State_slipInto_6 rfl ?_
  refine Wp.topi (fun x3010 ex3010 => ?_)
  refine g_istore (pc1 := 9) (lv' := [(0, .ref X0), (1, .ref Ld1), (2, .int p2), (3, .int p3), (4, .int x3010)]) d_State_slipInto_7 rfl (by decide) [1, 2, 3, 4, 0] rfl ?_
  refine g_bipush (pc1 := 11) (v := 100) d_State_slipInto_9 rfl (by decide) ?_
  refine g_iload_n (pc1 := 12) d_State_slipInto_11 rfl 3 rfl ?_
  refine g_iload (pc1 := 14) d_State_slipInto_12 rfl 4 rfl ?_
  refine g_callS0 (pc1 := 17) (As := [.int 100, .int p3, .int x3010]) (rest := []) d_State_slipInto_14 rfl mo_State_69 ms_Land_lot (by decide) rfl rfl (Nat.le_of_ble_eq_true rfl) ?_
  refine t1_Land_lot hld _ _ _ (fun r3011 => ?_)
  refine g_aload_n (pc1 := 18) d_State_slipInto_17 rfl 1 rfl ?_
  refine g_iload_n (pc1 := 19) d_State_slipInto_18 rfl 2 rfl ?_
  refine g_aload_n (pc1 := 20) d_State_slipInto_19 rfl 0 rfl ?_
  refine g_geti (pc1 := 23) d_State_slipInto_20 rfl ⟨_, fo_State_34⟩ (shSt_0 hX0) (ltSt_0 hX0) ?_
  refine g_callV0 (pc1 := 26) (As := [.int p2, .int (M X0 0)]) (rest := [.int r3011]) d_State_slipInto_23 rfl mo_State_73 mi_Land_slipsOf mv_Land_slipsOf rfl (shLa_0 hLd1) (ltLa_0 hLd1) (by decide) rfl rfl (Nat.le_of_ble_eq_true rfl) ?_
  refine t1_Land_slipsOf hld Ld1 hLd1 _ _ (fun r3012 M3013 L3014 k3015 => ?_)
  refine g_icmp_lt (pc1 := 29) (tgt := 32) d_State_slipInto_26 (by decide) rfl (fun h3016 => ?_) (fun h3016 => ?_)
  · refine g_aload_n (pc1 := 33) d_State_slipInto_32 rfl 1 rfl ?_
    refine g_geti (pc1 := 36) d_State_slipInto_33 rfl ⟨_, fo_State_47⟩ (shLa_0 hLd1) (ltLa_0 hLd1) ?_
    refine g_iload_n (pc1 := 37) d_State_slipInto_36 rfl 3 rfl ?_
    refine g_iload (pc1 := 39) d_State_slipInto_37 rfl 4 rfl ?_
    refine g_iconst (pc1 := 40) (v := 1) d_State_slipInto_39 rfl (by decide) ?_
    refine g_iadd (pc1 := 41) d_State_slipInto_40 rfl ?_
    refine g_callS0 (pc1 := 44) (As := [.int (M3013 Ld1 0), .int p3, .int (x3010 + 1)]) (rest := []) d_State_slipInto_41 rfl mo_State_69 ms_Land_lot (by decide) rfl rfl (Nat.le_of_ble_eq_true rfl) ?_
    refine t1_Land_lot hld _ _ _ (fun r3017 => ?_)
    refine g_istore (pc1 := 46) (lv' := [(0, .ref X0), (1, .ref Ld1), (2, .int p2), (3, .int p3), (4, .int x3010), (5, .int r3017)]) d_State_slipInto_44 rfl (by decide) [1, 2, 3, 4, 5, 0] rfl ?_
    refine g_aload_n (pc1 := 47) d_State_slipInto_46 rfl 0 rfl ?_
    refine g_getr (pc1 := 50) d_State_slipInto_47 rfl ⟨_, fo_State_19⟩ (shSt_0 hX0) (ltSt_0 hX0) (rfSt_5 ld hX0) ?_
    refine g_iload (pc1 := 52) d_State_slipInto_50 rfl 5 rfl ?_
    refine g_callS0 (pc1 := 55) (As := [.ref (X0 + 2), .int r3017]) (rest := []) d_State_slipInto_52 rfl mo_State_53 ms_Main_at (by decide) rfl rfl (Nat.le_of_ble_eq_true rfl) ?_
    refine t1_Main_at hld (X0 + 2) (shSt_2 hX0) (ltSt_2 hX0) (by decide) _ (fun r3018 => ?_)
    refine g_aload_n (pc1 := 56) d_State_slipInto_55 rfl 1 rfl ?_
    refine g_iload_n (pc1 := 57) d_State_slipInto_56 rfl 2 rfl ?_
    refine g_iload (pc1 := 59) d_State_slipInto_57 rfl 5 rfl ?_
    refine g_callV0 (pc1 := 62) (As := [.int p2, .int r3017]) (rest := [.int r3018]) d_State_slipInto_59 rfl mo_State_65 mi_Land_inDish mv_Land_inDish rfl (shLa_0 hLd1) (ltLa_0 hLd1) (by decide) rfl rfl (Nat.le_of_ble_eq_true rfl) ?_
    refine t1_Land_inDish hld Ld1 hLd1 _ _ (fun r3019 => ?_)
    refine g_icmp_le (pc1 := 65) (tgt := 70) d_State_slipInto_62 (by decide) rfl (fun h3020 => ?_) (fun h3020 => ?_)
    · refine g_bipush (pc1 := 72) (v := (-2)) d_State_slipInto_70 rfl (by decide) ?_
      refine g_ireturn (Or.inl rfl) d_State_slipInto_72 rfl ?_
      exact hQ _ _ _ (Kp.trans Kp.rf k3015)
    · refine g_iload (pc1 := 67) d_State_slipInto_65 rfl 5 rfl ?_
      refine g_goto (tgt := 72) d_State_slipInto_67 (by decide) ?_
      refine g_ireturn (Or.inl rfl) d_State_slipInto_72 rfl ?_
      exact hQ _ _ _ (Kp.trans Kp.rf k3015)
  · refine g_bipush (pc1 := 31) (v := (-2)) d_State_slipInto_29 rfl (by decide) ?_
    refine g_ireturn (Or.inl rfl) d_State_slipInto_31 rfl ?_
    exact hQ _ _ _ (Kp.trans Kp.rf k3015)
set_option maxHeartbeats 4000000 in
set_option maxRecDepth 20000 in
theorem t1_Told_isAsKnown {l : Launch} {ld : Nat} (hld : isLa ld) {M : gM} {L : gL} {Q : Option Value → gM → gL → gR → Prop} (Ld1 : Nat) (hLd1 : isLa Ld1) (p2 : Int32) (p3 : Int32) (hQ : ∀ (r : Int32) (M' : gM) (L' : gL), (r = 0 ∨ r = 1) → Kp S0 M L M' L' → Q (some (.int r)) M' L' (rf ld)) : Tm l y_Told_isAsKnown (0, 0, 447) 447 [.ref 383, .ref Ld1, .int p2, .int p3] M L (rf ld) Q := by
  refine Tm.of (by decide) (Nat.le_of_ble_eq_true rfl) ?_
  show Wp l y_Told_isAsKnown (0, 0, 447) 447 0 0 0 [(0, .ref 383), (1, .ref Ld1), (2, .int p2), (3, .int p3)] [] M L (rf ld) Q
  refine g_iconst (pc1 := 1) (v := 0) d_Told_isAsKnown_0 rfl (by decide) ?_
  refine g_istore (pc1 := 3) (lv' := [(0, .ref 383), (1, .ref Ld1), (2, .int p2), (3, .int p3), (4, .int 0)]) d_Told_isAsKnown_1 rfl (by decide) [1, 2, 3, 4, 0] rfl ?_
  have LP3024 : ∀ (f3021 : Nat) (v3025 : Int32) (M3026 : gM) (L3027 : gL), Kp S0 M L M3026 L3027 → ¬ v3025 < 0 → (p3.toInt - v3025.toInt).toNat < f3021 → Wp l y_Told_isAsKnown (0, 0, 447) 447 0 0 3 [(0, .ref 383), (1, .ref Ld1), (2, .int p2), (3, .int p3), (4, .int v3025)] [] M3026 L3027 (rf ld) Q := by
    intro f3021
    induction f3021 with
    | zero => intro v3025 M3026 L3027 _ _ hm3023; exact absurd hm3023 (Nat.not_lt_zero _)
    | succ f3021 ih3022 =>
      intro v3025 M3026 L3027 k3028 n3029 hm3023
      refine g_iload (pc1 := 5) d_Told_isAsKnown_3 rfl 4 rfl ?_
      refine g_iload_n (pc1 := 6) d_Told_isAsKnown_5 rfl 3 rfl ?_
      refine g_icmp_ge (pc1 := 9) (tgt := 57) d_Told_isAsKnown_6 (by decide) rfl (fun h3030 => ?_) (fun h3030 => ?_)
      · refine g_iconst (pc1 := 58) (v := 1) d_Told_isAsKnown_57 rfl (by decide) ?_
        refine g_ireturn (Or.inr ⟨rfl, rfl⟩) d_Told_isAsKnown_58 rfl ?_
        exact hQ _ _ _ (Or.inr rfl) k3028
      · refine g_aload_n (pc1 := 10) d_Told_isAsKnown_9 rfl 0 rfl ?_
        refine g_aload_n (pc1 := 11) d_Told_isAsKnown_10 rfl 1 rfl ?_
        refine g_iload_n (pc1 := 12) d_Told_isAsKnown_11 rfl 2 rfl ?_
        refine g_aload_n (pc1 := 13) d_Told_isAsKnown_12 rfl 0 rfl ?_
        refine g_geti (pc1 := 16) d_Told_isAsKnown_13 rfl ⟨_, fo_Told_41⟩ sh_383 (by decide) ?_
        refine g_aload_n (pc1 := 17) d_Told_isAsKnown_16 rfl 0 rfl ?_
        refine g_getr (pc1 := 20) d_Told_isAsKnown_17 rfl ⟨_, fo_Told_11⟩ sh_383 (by decide) (rf_383_0 ld) ?_
        refine g_iload (pc1 := 22) d_Told_isAsKnown_20 rfl 4 rfl ?_
        refine g_callS0 (pc1 := 25) (As := [.ref 384, .int v3025]) (rest := [.int (M3026 383 7), .int p2, .ref Ld1, .ref 383]) d_Told_isAsKnown_22 rfl mo_Told_73 ms_Main_at (by decide) rfl rfl (Nat.le_of_ble_eq_true rfl) ?_
        refine t1_Main_at hld 384 sh_384 (by decide) (by decide) _ (fun r3031 => ?_)
        refine g_aload_n (pc1 := 26) d_Told_isAsKnown_25 rfl 0 rfl ?_
        refine g_getr (pc1 := 29) d_Told_isAsKnown_26 rfl ⟨_, fo_Told_15⟩ sh_383 (by decide) (rf_383_1 ld) ?_
        refine g_iload (pc1 := 31) d_Told_isAsKnown_29 rfl 4 rfl ?_
        refine g_callS0 (pc1 := 34) (As := [.ref 385, .int v3025]) (rest := [.int r3031, .int (M3026 383 7), .int p2, .ref Ld1, .ref 383]) d_Told_isAsKnown_31 rfl mo_Told_73 ms_Main_at (by decide) rfl rfl (Nat.le_of_ble_eq_true rfl) ?_
        refine t1_Main_at hld 385 sh_385 (by decide) (by decide) _ (fun r3032 => ?_)
        refine g_callV0 (pc1 := 37) (As := [.ref Ld1, .int p2, .int (M3026 383 7), .int r3031, .int r3032]) (rest := []) d_Told_isAsKnown_34 rfl mo_Told_77 mi_Told_forceOf mv_Told_forceOf rfl sh_383 (by decide) (by decide) rfl rfl (Nat.le_of_ble_eq_true rfl) ?_
        refine t1_Told_forceOf hld Ld1 hLd1 _ _ _ _ (fun r3033 M3034 L3035 k3036 => ?_)
        refine g_aload_n (pc1 := 38) d_Told_isAsKnown_37 rfl 0 rfl ?_
        refine g_getr (pc1 := 41) d_Told_isAsKnown_38 rfl ⟨_, fo_Told_18⟩ sh_383 (by decide) (rf_383_2 ld) ?_
        refine g_iload (pc1 := 43) d_Told_isAsKnown_41 rfl 4 rfl ?_
        refine g_callS0 (pc1 := 46) (As := [.ref 386, .int v3025]) (rest := [.int r3033]) d_Told_isAsKnown_43 rfl mo_Told_73 ms_Main_at (by decide) rfl rfl (Nat.le_of_ble_eq_true rfl) ?_
        refine t1_Main_at hld 386 sh_386 (by decide) (by decide) _ (fun r3037 => ?_)
        refine g_icmp_eq (pc1 := 49) (tgt := 51) d_Told_isAsKnown_46 (by decide) rfl (fun h3038 => ?_) (fun h3038 => ?_)
        · obtain ⟨x3039, ex3039⟩ : ∃ y : Int32, y = v3025 + 1 := ⟨_, rfl⟩
          refine g_iinc (pc1 := 54) (v := x3039) (lv' := [(0, .ref 383), (1, .ref Ld1), (2, .int p2), (3, .int p3), (4, .int x3039)]) d_Told_isAsKnown_51 rfl 4 rfl (by rw [ex3039]; rfl) (by decide) [1, 2, 3, 4, 0] rfl ?_
          refine g_goto (tgt := 3) d_Told_isAsKnown_54 (by decide) ?_
          exact ih3022 x3039 M3034 L3035 (Kp.trans k3028 k3036) (nn_up (y := p3) h3030 ex3039 n3029) (md_up h3030 ex3039 hm3023)
        · refine g_iconst (pc1 := 50) (v := 0) d_Told_isAsKnown_49 rfl (by decide) ?_
          refine g_ireturn (Or.inr ⟨rfl, rfl⟩) d_Told_isAsKnown_50 rfl ?_
          exact hQ _ _ _ (Or.inl rfl) (Kp.trans k3028 k3036)
  exact LP3024 _ 0 M L Kp.rf (by decide) (Nat.lt_succ_self _)
set_option maxHeartbeats 4000000 in
set_option maxRecDepth 20000 in
theorem t1_Told_mostAlike {l : Launch} {ld : Nat} (hld : isLa ld) {M : gM} {L : gL} {Q : Option Value → gM → gL → gR → Prop} (Ld1 : Nat) (hLd1 : isLa Ld1) (p2 : Int32) (p3 : Int32) (p4 : Int32) (hQ : ∀ (r : Int32) (M' : gM) (L' : gL), Kp S0 M L M' L' → Q (some (.int r)) M' L' (rf ld)) : Tm l y_Told_mostAlike (0, 0, 447) 447 [.ref 383, .ref Ld1, .int p2, .int p3, .int p4] M L (rf ld) Q := by
  refine Tm.of (by decide) (Nat.le_of_ble_eq_true rfl) ?_
  show Wp l y_Told_mostAlike (0, 0, 447) 447 0 0 0 [(0, .ref 383), (1, .ref Ld1), (2, .int p2), (3, .int p3), (4, .int p4)] [] M L (rf ld) Q
  refine g_aload_n (pc1 := 1) d_Told_mostAlike_0 rfl 0 rfl ?_
  refine g_getr (pc1 := 4) d_Told_mostAlike_1 rfl ⟨_, fo_Told_30⟩ sh_383 (by decide) (rf_383_8 ld) ?_
  refine g_callS0 (pc1 := 7) (As := [.ref 390]) (rest := []) d_Told_mostAlike_4 rfl mo_Told_89 ms_Main_wipe (by decide) rfl rfl (Nat.le_of_ble_eq_true rfl) ?_
  refine t1_Main_wipe hld 390 sh_390 (by decide) (by decide) (fun  M3040 L3041 k3042 => ?_)
  refine g_iconst (pc1 := 8) (v := 0) d_Told_mostAlike_7 rfl (by decide) ?_
  refine g_istore (pc1 := 10) (lv' := [(0, .ref 383), (1, .ref Ld1), (2, .int p2), (3, .int p3), (4, .int p4), (5, .int 0)]) d_Told_mostAlike_8 rfl (by decide) [1, 2, 3, 4, 5, 0] rfl ?_
  refine g_iconst (pc1 := 11) (v := 0) d_Told_mostAlike_10 rfl (by decide) ?_
  refine g_istore (pc1 := 13) (lv' := [(0, .ref 383), (1, .ref Ld1), (2, .int p2), (3, .int p3), (4, .int p4), (5, .int 0), (6, .int 0)]) d_Told_mostAlike_11 rfl (by decide) [1, 2, 3, 4, 5, 6, 0] rfl ?_
  have LP3046 : ∀ (f3043 : Nat) (v3047 : Int32) (v3048 : Int32) (M3049 : gM) (L3050 : gL), Kp S0 M L M3049 L3050 → ¬ v3048 < 0 → ((M 383 7).toInt - v3048.toInt).toNat < f3043 → Wp l y_Told_mostAlike (0, 0, 447) 447 0 0 13 [(0, .ref 383), (1, .ref Ld1), (2, .int p2), (3, .int p3), (4, .int p4), (5, .int v3047), (6, .int v3048)] [] M3049 L3050 (rf ld) Q := by
    intro f3043
    induction f3043 with
    | zero => intro v3047 v3048 M3049 L3050 _ _ hm3045; exact absurd hm3045 (Nat.not_lt_zero _)
    | succ f3043 ih3044 =>
      intro v3047 v3048 M3049 L3050 k3051 n3052 hm3045
      refine g_iload (pc1 := 15) d_Told_mostAlike_13 rfl 6 rfl ?_
      refine g_aload_n (pc1 := 16) d_Told_mostAlike_15 rfl 0 rfl ?_
      refine g_geti (pc1 := 19) d_Told_mostAlike_16 rfl ⟨_, fo_Told_41⟩ sh_383 (by decide) ?_
      refine g_icmp_ge (pc1 := 22) (tgt := 74) d_Told_mostAlike_19 (by decide) rfl (fun h3053 => ?_) (fun h3053 => ?_)
      · refine g_iload (pc1 := 76) d_Told_mostAlike_74 rfl 5 rfl ?_
        refine g_ireturn (Or.inl rfl) d_Told_mostAlike_76 rfl ?_
        exact hQ _ _ _ k3051
      · refine g_aload_n (pc1 := 23) d_Told_mostAlike_22 rfl 0 rfl ?_
        refine g_aload_n (pc1 := 24) d_Told_mostAlike_23 rfl 1 rfl ?_
        refine g_iload_n (pc1 := 25) d_Told_mostAlike_24 rfl 2 rfl ?_
        refine g_iload (pc1 := 27) d_Told_mostAlike_25 rfl 6 rfl ?_
        refine g_iload_n (pc1 := 28) d_Told_mostAlike_27 rfl 3 rfl ?_
        refine g_iload (pc1 := 30) d_Told_mostAlike_28 rfl 4 rfl ?_
        refine g_callV0 (pc1 := 33) (As := [.ref Ld1, .int p2, .int v3048, .int p3, .int p4]) (rest := []) d_Told_mostAlike_30 rfl mo_Told_77 mi_Told_forceOf mv_Told_forceOf rfl sh_383 (by decide) (by decide) rfl rfl (Nat.le_of_ble_eq_true rfl) ?_
        refine t1_Told_forceOf hld Ld1 hLd1 _ _ _ _ (fun r3054 M3055 L3056 k3057 => ?_)
        refine g_istore (pc1 := 35) (lv' := [(0, .ref 383), (1, .ref Ld1), (2, .int p2), (3, .int p3), (4, .int p4), (5, .int v3047), (6, .int v3048), (7, .int r3054)]) d_Told_mostAlike_33 rfl (by decide) [1, 2, 3, 4, 5, 6, 7, 0] rfl ?_
        refine g_aload_n (pc1 := 36) d_Told_mostAlike_35 rfl 0 rfl ?_
        refine g_getr (pc1 := 39) d_Told_mostAlike_36 rfl ⟨_, fo_Told_30⟩ sh_383 (by decide) (rf_383_8 ld) ?_
        refine g_iload (pc1 := 41) d_Told_mostAlike_39 rfl 7 rfl ?_
        refine g_callS0 (pc1 := 44) (As := [.ref 390, .int r3054]) (rest := []) d_Told_mostAlike_41 rfl mo_Told_73 ms_Main_at (by decide) rfl rfl (Nat.le_of_ble_eq_true rfl) ?_
        refine t1_Main_at hld 390 sh_390 (by decide) (by decide) _ (fun r3058 => ?_)
        refine g_iconst (pc1 := 45) (v := 1) d_Told_mostAlike_44 rfl (by decide) ?_
        refine g_iadd (pc1 := 46) d_Told_mostAlike_45 rfl ?_
        refine Wp.topi (fun x3059 ex3059 => ?_)
        refine g_istore (pc1 := 48) (lv' := [(0, .ref 383), (1, .ref Ld1), (2, .int p2), (3, .int p3), (4, .int p4), (5, .int v3047), (6, .int v3048), (7, .int r3054), (8, .int x3059)]) d_Told_mostAlike_46 rfl (by decide) [1, 2, 3, 4, 5, 6, 7, 8, 0] rfl ?_
        refine g_aload_n (pc1 := 49) d_Told_mostAlike_48 rfl 0 rfl ?_
        refine g_getr (pc1 := 52) d_Told_mostAlike_49 rfl ⟨_, fo_Told_30⟩ sh_383 (by decide) (rf_383_8 ld) ?_
        refine g_iload (pc1 := 54) d_Told_mostAlike_52 rfl 7 rfl ?_
        refine g_iload (pc1 := 56) d_Told_mostAlike_54 rfl 8 rfl ?_
        refine g_callS0 (pc1 := 59) (As := [.ref 390, .int r3054, .int x3059]) (rest := []) d_Told_mostAlike_56 rfl mo_Told_37 ms_Main_put (by decide) rfl rfl (Nat.le_of_ble_eq_true rfl) ?_
        refine t1_Main_put hld 390 sh_390 (by decide) (by decide) _ _ (fun  M3060 L3061 k3062 => ?_)
        refine g_iload (pc1 := 61) d_Told_mostAlike_59 rfl 5 rfl ?_
        refine g_iload (pc1 := 63) d_Told_mostAlike_61 rfl 8 rfl ?_
        refine g_mmax (pc1 := 66) d_Told_mostAlike_63 rfl mm_Told_93 (by decide) ⟨Nat.le_refl 0, Nat.le_refl 0⟩ (Nat.le_of_ble_eq_true rfl) ?_
        refine Wp.topi (fun x3063 ex3063 => ?_)
        refine g_istore (pc1 := 68) (lv' := [(0, .ref 383), (1, .ref Ld1), (2, .int p2), (3, .int p3), (4, .int p4), (5, .int x3063), (6, .int v3048), (7, .int r3054), (8, .int x3059)]) d_Told_mostAlike_66 rfl (by decide) [1, 2, 3, 4, 5, 0, 6, 7, 8] rfl ?_
        obtain ⟨x3064, ex3064⟩ : ∃ y : Int32, y = v3048 + 1 := ⟨_, rfl⟩
        refine g_iinc (pc1 := 71) (v := x3064) (lv' := [(0, .ref 383), (1, .ref Ld1), (2, .int p2), (3, .int p3), (4, .int p4), (5, .int x3063), (6, .int x3064), (7, .int r3054), (8, .int x3059)]) d_Told_mostAlike_68 rfl 6 rfl (by rw [ex3064]; rfl) (by decide) [1, 2, 3, 4, 5, 6, 0, 7, 8] rfl ?_
        refine g_goto (tgt := 13) d_Told_mostAlike_71 (by decide) ?_
        refine Wp.loc (lv' := [(0, .ref 383), (1, .ref Ld1), (2, .int p2), (3, .int p3), (4, .int p4), (5, .int x3063), (6, .int x3064)]) [0, 1, 2, 3, 4, 5, 6] rfl ?_
        exact ih3044 x3063 x3064 M3060 L3061 (Kp.trans (Kp.trans k3051 k3057) (Kp.mono k3062 (one_S rfl))) (nn_up (y := (M 383 7)) (by rw [← k3051.m rfl 7]; exact h3053) ex3064 n3052) (md_up (by rw [← k3051.m rfl 7]; exact h3053) ex3064 hm3045)
  exact LP3046 _ 0 0 M3040 L3041 (Kp.trans Kp.rf (Kp.mono k3042 (one_S rfl))) (by decide) (Nat.lt_succ_self _)
set_option maxHeartbeats 4000000 in
set_option maxRecDepth 20000 in
theorem t1_Main_eat {l : Launch} {ld : Nat} (hld : isLa ld) {M : gM} {L : gL} {Q : Option Value → gM → gL → gR → Prop} (p1 : Int32) (hQ : ∀ (r : Int32) (M' : gM) (L' : gL), Kp S1 M L M' L' → Q (some (.int r)) M' L' (rf ld)) : Tm l y_Main_eat (0, 0, 447) 447 [.ref 0, .int p1] M L (rf ld) Q := by
  refine Tm.of (by decide) (Nat.le_of_ble_eq_true rfl) ?_
  show Wp l y_Main_eat (0, 0, 447) 447 0 0 0 [(0, .ref 0), (1, .int p1)] [] M L (rf ld) Q
  refine g_iload_n (pc1 := 1) d_Main_eat_0 rfl 1 rfl ?_
  refine g_aload_n (pc1 := 2) d_Main_eat_1 rfl 0 rfl ?_
  refine g_getr (pc1 := 5) d_Main_eat_2 rfl ⟨_, fo_Main_26⟩ sh_0 (by decide) (rf_0_2 ld) ?_
  refine g_geti (pc1 := 8) d_Main_eat_5 rfl ⟨_, fo_Main_157⟩ (shLa_0 hld) (ltLa_0 hld) ?_
  refine g_callS0 (pc1 := 11) (As := [.int p1, .int (M ld 2)]) (rest := []) d_Main_eat_8 rfl mo_Main_112 ms_Main_isOne (by decide) rfl rfl (Nat.le_of_ble_eq_true rfl) ?_
  refine t1_Main_isOne hld _ _ (fun r3065 hr3065 => ?_)
  refine g_if_ne (pc1 := 14) (tgt := 16) d_Main_eat_11 (by decide) rfl (fun h3066 => ?_) (fun h3066 => ?_)
  · refine g_aload_n (pc1 := 17) d_Main_eat_16 rfl 0 rfl ?_
    refine g_getr (pc1 := 20) d_Main_eat_17 rfl ⟨_, fo_Main_36⟩ sh_0 (by decide) (rf_0_4 ld) ?_
    refine g_geti (pc1 := 23) d_Main_eat_20 rfl ⟨_, fo_Main_208⟩ (shSt_0 isSt_64) (ltSt_0 isSt_64) ?_
    refine g_if_ge (pc1 := 26) (tgt := 29) d_Main_eat_23 (by decide) rfl (fun h3067 => ?_) (fun h3067 => ?_)
    · refine g_aload_n (pc1 := 30) d_Main_eat_29 rfl 0 rfl ?_
      refine g_getr (pc1 := 33) d_Main_eat_30 rfl ⟨_, fo_Main_46⟩ sh_0 (by decide) (rf_0_6 ld) ?_
      refine g_aload_n (pc1 := 34) d_Main_eat_33 rfl 0 rfl ?_
      refine g_getr (pc1 := 37) d_Main_eat_34 rfl ⟨_, fo_Main_36⟩ sh_0 (by decide) (rf_0_4 ld) ?_
      refine g_callV0 (pc1 := 40) (As := [.ref 64]) (rest := []) d_Main_eat_37 rfl mo_Main_200 mi_Past_keep mv_Past_keep rfl sh_78 (by decide) (by decide) rfl rfl (Nat.le_of_ble_eq_true rfl) ?_
      refine t1_Past_keep hld 64 isSt_64 (fun  M3068 L3069 k3070 => ?_)
      refine g_aload_n (pc1 := 41) d_Main_eat_40 rfl 0 rfl ?_
      refine g_getr (pc1 := 44) d_Main_eat_41 rfl ⟨_, fo_Main_36⟩ sh_0 (by decide) (rf_0_4 ld) ?_
      refine g_iload_n (pc1 := 45) d_Main_eat_44 rfl 1 rfl ?_
      refine g_callV0 (pc1 := 48) (As := [.int p1]) (rest := []) d_Main_eat_45 rfl mo_Main_211 mi_State_eatServed mv_State_eatServed rfl (shSt_0 isSt_64) (ltSt_0 isSt_64) (by decide) rfl rfl (Nat.le_of_ble_eq_true rfl) ?_
      refine t1_State_eatServed hld 64 isSt_64 _ (fun  M3071 L3072 k3073 => ?_)
      refine g_aload_n (pc1 := 49) d_Main_eat_48 rfl 0 rfl ?_
      refine g_getr (pc1 := 52) d_Main_eat_49 rfl ⟨_, fo_Main_36⟩ sh_0 (by decide) (rf_0_4 ld) ?_
      refine g_aload_n (pc1 := 53) d_Main_eat_52 rfl 0 rfl ?_
      refine g_getr (pc1 := 56) d_Main_eat_53 rfl ⟨_, fo_Main_26⟩ sh_0 (by decide) (rf_0_2 ld) ?_
      refine g_iload_n (pc1 := 57) d_Main_eat_56 rfl 1 rfl ?_
      refine g_iconst (pc1 := 58) (v := 0) d_Main_eat_57 rfl (by decide) ?_
      refine g_callV0 (pc1 := 61) (As := [.ref ld, .int p1, .int 0]) (rest := []) d_Main_eat_58 rfl mo_Main_189 mi_State_freeOf mv_State_freeOf rfl (shSt_0 isSt_64) (ltSt_0 isSt_64) (by decide) rfl rfl (Nat.le_of_ble_eq_true rfl) ?_
      refine t1_State_freeOf hld 64 isSt_64 ld hld _ _ (fun r3074 M3075 L3076 k3077 => ?_)
      refine g_ireturn (Or.inl rfl) d_Main_eat_61 rfl ?_
      exact hQ _ _ _ (Kp.trans (Kp.trans (Kp.trans Kp.rf k3070) k3073) (Kp.mono k3077 S0_S1))
    · refine g_bipush (pc1 := 28) (v := (-2)) d_Main_eat_26 rfl (by decide) ?_
      refine g_ireturn (Or.inl rfl) d_Main_eat_28 rfl ?_
      exact hQ _ _ _ Kp.rf
  · refine g_iconst (pc1 := 15) (v := (-1)) d_Main_eat_14 rfl (by decide) ?_
    refine g_ireturn (Or.inl rfl) d_Main_eat_15 rfl ?_
    exact hQ _ _ _ Kp.rf
set_option maxHeartbeats 4000000 in
set_option maxRecDepth 20000 in
theorem t1_Main_freeBehind {l : Launch} {ld : Nat} (hld : isLa ld) {M : gM} {L : gL} {Q : Option Value → gM → gL → gR → Prop} (p1 : Int32) (p2 : Int32) (hQ : ∀ (r : Int32) (M' : gM) (L' : gL), Kp S0 M L M' L' → Q (some (.int r)) M' L' (rf ld)) : Tm l y_Main_freeBehind (0, 0, 447) 447 [.ref 0, .int p1, .int p2] M L (rf ld) Q := by
  refine Tm.of (by decide) (Nat.le_of_ble_eq_true rfl) ?_
  show Wp l y_Main_freeBehind (0, 0, 447) 447 0 0 0 [(0, .ref 0), (1, .int p1), (2, .int p2)] [] M L (rf ld) Q
  refine g_aload_n (pc1 := 1) d_Main_freeBehind_0 rfl 0 rfl ?_
  refine g_getr (pc1 := 4) d_Main_freeBehind_1 rfl ⟨_, fo_Main_26⟩ sh_0 (by decide) (rf_0_2 ld) ?_
  refine g_iload_n (pc1 := 5) d_Main_freeBehind_4 rfl 1 rfl ?_
  refine g_iload_n (pc1 := 6) d_Main_freeBehind_5 rfl 2 rfl ?_
  refine g_aload_n (pc1 := 7) d_Main_freeBehind_6 rfl 0 rfl ?_
  refine g_getr (pc1 := 10) d_Main_freeBehind_7 rfl ⟨_, fo_Main_36⟩ sh_0 (by decide) (rf_0_4 ld) ?_
  refine g_geti (pc1 := 13) d_Main_freeBehind_10 rfl ⟨_, fo_Main_144⟩ (shSt_0 isSt_64) (ltSt_0 isSt_64) ?_
  refine g_iconst (pc1 := 14) (v := 0) d_Main_freeBehind_13 rfl (by decide) ?_
  refine g_callV0 (pc1 := 17) (As := [.int p1, .int p2, .int (M 64 0), .int 0]) (rest := []) d_Main_freeBehind_14 rfl mo_Main_254 mi_Land_freeByDish mv_Land_freeByDish rfl (shLa_0 hld) (ltLa_0 hld) (by decide) rfl rfl (Nat.le_of_ble_eq_true rfl) ?_
  refine t1_Land_freeByDish hld ld hld _ _ _ _ (fun r3078 M3079 L3080 k3081 => ?_)
  refine g_ireturn (Or.inl rfl) d_Main_freeBehind_17 rfl ?_
  exact hQ _ _ _ (Kp.trans Kp.rf k3081)
set_option maxHeartbeats 4000000 in
set_option maxRecDepth 20000 in
theorem t1_Main_guestsFreeTo {l : Launch} {ld : Nat} (hld : isLa ld) {M : gM} {L : gL} {Q : Option Value → gM → gL → gR → Prop} (p1 : Int32) (hQ : ∀ (r : Int32) (M' : gM) (L' : gL), Kp S0 M L M' L' → Q (some (.int r)) M' L' (rf ld)) : Tm l y_Main_guestsFreeTo (0, 0, 447) 447 [.ref 0, .int p1] M L (rf ld) Q := by
  refine Tm.of (by decide) (Nat.le_of_ble_eq_true rfl) ?_
  show Wp l y_Main_guestsFreeTo (0, 0, 447) 447 0 0 0 [(0, .ref 0), (1, .int p1)] [] M L (rf ld) Q
  refine g_iconst (pc1 := 1) (v := 0) d_Main_guestsFreeTo_0 rfl (by decide) ?_
  refine g_istore_n (pc1 := 2) (lv' := [(0, .ref 0), (1, .int p1), (2, .int 0)]) d_Main_guestsFreeTo_1 rfl rfl (by decide) [1, 2, 0] rfl ?_
  refine g_iconst (pc1 := 3) (v := 0) d_Main_guestsFreeTo_2 rfl (by decide) ?_
  refine g_istore_n (pc1 := 4) (lv' := [(0, .ref 0), (1, .int p1), (2, .int 0), (3, .int 0)]) d_Main_guestsFreeTo_3 rfl rfl (by decide) [1, 2, 3, 0] rfl ?_
  have LP3085 : ∀ (f3082 : Nat) (v3086 : Int32) (v3087 : Int32) (M3088 : gM) (L3089 : gL), Kp S0 M L M3088 L3089 → ¬ v3087 < 0 → ((M ld 2).toInt - v3087.toInt).toNat < f3082 → Wp l y_Main_guestsFreeTo (0, 0, 447) 447 0 0 4 [(0, .ref 0), (1, .int p1), (2, .int v3086), (3, .int v3087)] [] M3088 L3089 (rf ld) Q := by
    intro f3082
    induction f3082 with
    | zero => intro v3086 v3087 M3088 L3089 _ _ hm3084; exact absurd hm3084 (Nat.not_lt_zero _)
    | succ f3082 ih3083 =>
      intro v3086 v3087 M3088 L3089 k3090 n3091 hm3084
      refine g_iload_n (pc1 := 5) d_Main_guestsFreeTo_4 rfl 3 rfl ?_
      refine g_aload_n (pc1 := 6) d_Main_guestsFreeTo_5 rfl 0 rfl ?_
      refine g_getr (pc1 := 9) d_Main_guestsFreeTo_6 rfl ⟨_, fo_Main_26⟩ sh_0 (by decide) (rf_0_2 ld) ?_
      refine g_geti (pc1 := 12) d_Main_guestsFreeTo_9 rfl ⟨_, fo_Main_157⟩ (shLa_0 hld) (ltLa_0 hld) ?_
      refine g_icmp_ge (pc1 := 15) (tgt := 47) d_Main_guestsFreeTo_12 (by decide) rfl (fun h3092 => ?_) (fun h3092 => ?_)
      · refine g_iload_n (pc1 := 48) d_Main_guestsFreeTo_47 rfl 2 rfl ?_
        refine g_ireturn (Or.inl rfl) d_Main_guestsFreeTo_48 rfl ?_
        exact hQ _ _ _ k3090
      · refine g_aload_n (pc1 := 16) d_Main_guestsFreeTo_15 rfl 0 rfl ?_
        refine g_getr (pc1 := 19) d_Main_guestsFreeTo_16 rfl ⟨_, fo_Main_36⟩ sh_0 (by decide) (rf_0_4 ld) ?_
        refine g_aload_n (pc1 := 20) d_Main_guestsFreeTo_19 rfl 0 rfl ?_
        refine g_getr (pc1 := 23) d_Main_guestsFreeTo_20 rfl ⟨_, fo_Main_26⟩ sh_0 (by decide) (rf_0_2 ld) ?_
        refine g_iload_n (pc1 := 24) d_Main_guestsFreeTo_23 rfl 3 rfl ?_
        refine g_iconst (pc1 := 25) (v := 0) d_Main_guestsFreeTo_24 rfl (by decide) ?_
        refine g_callV0 (pc1 := 28) (As := [.ref ld, .int v3087, .int 0]) (rest := []) d_Main_guestsFreeTo_25 rfl mo_Main_189 mi_State_freeOf mv_State_freeOf rfl (shSt_0 isSt_64) (ltSt_0 isSt_64) (by decide) rfl rfl (Nat.le_of_ble_eq_true rfl) ?_
        refine t1_State_freeOf hld 64 isSt_64 ld hld _ _ (fun r3093 M3094 L3095 k3096 => ?_)
        refine g_iload_n (pc1 := 29) d_Main_guestsFreeTo_28 rfl 1 rfl ?_
        refine g_callS0 (pc1 := 32) (As := [.int r3093, .int p1]) (rest := []) d_Main_guestsFreeTo_29 rfl mo_Main_193 ms_Main_hasBit (by decide) rfl rfl (Nat.le_of_ble_eq_true rfl) ?_
        refine t1_Main_hasBit hld _ _ (fun r3097 hr3097 => ?_)
        refine g_if_eq (pc1 := 35) (tgt := 41) d_Main_guestsFreeTo_32 (by decide) rfl (fun h3098 => ?_) (fun h3098 => ?_)
        · obtain ⟨x3099, ex3099⟩ : ∃ y : Int32, y = v3087 + 1 := ⟨_, rfl⟩
          refine g_iinc (pc1 := 44) (v := x3099) (lv' := [(0, .ref 0), (1, .int p1), (2, .int v3086), (3, .int x3099)]) d_Main_guestsFreeTo_41 rfl 3 rfl (by rw [ex3099]; rfl) (by decide) [1, 2, 3, 0] rfl ?_
          refine g_goto (tgt := 4) d_Main_guestsFreeTo_44 (by decide) ?_
          exact ih3083 v3086 x3099 M3094 L3095 (Kp.trans k3090 k3096) (nn_up (y := (M ld 2)) (by rw [← k3090.m (S0_La_0f hld) 2]; exact h3092) ex3099 n3091) (md_up (by rw [← k3090.m (S0_La_0f hld) 2]; exact h3092) ex3099 hm3084)
        · refine g_iload_n (pc1 := 36) d_Main_guestsFreeTo_35 rfl 2 rfl ?_
          refine g_iconst (pc1 := 37) (v := 1) d_Main_guestsFreeTo_36 rfl (by decide) ?_
          refine g_iload_n (pc1 := 38) d_Main_guestsFreeTo_37 rfl 3 rfl ?_
          refine g_ishl (pc1 := 39) d_Main_guestsFreeTo_38 rfl ?_
          refine g_ior (pc1 := 40) d_Main_guestsFreeTo_39 rfl ?_
          refine Wp.topi (fun x3100 ex3100 => ?_)
          refine g_istore_n (pc1 := 41) (lv' := [(0, .ref 0), (1, .int p1), (2, .int x3100), (3, .int v3087)]) d_Main_guestsFreeTo_40 rfl rfl (by decide) [1, 2, 0, 3] rfl ?_
          obtain ⟨x3101, ex3101⟩ : ∃ y : Int32, y = v3087 + 1 := ⟨_, rfl⟩
          refine g_iinc (pc1 := 44) (v := x3101) (lv' := [(0, .ref 0), (1, .int p1), (2, .int x3100), (3, .int x3101)]) d_Main_guestsFreeTo_41 rfl 3 rfl (by rw [ex3101]; rfl) (by decide) [1, 2, 3, 0] rfl ?_
          refine g_goto (tgt := 4) d_Main_guestsFreeTo_44 (by decide) ?_
          exact ih3083 x3100 x3101 M3094 L3095 (Kp.trans k3090 k3096) (nn_up (y := (M ld 2)) (by rw [← k3090.m (S0_La_0f hld) 2]; exact h3092) ex3101 n3091) (md_up (by rw [← k3090.m (S0_La_0f hld) 2]; exact h3092) ex3101 hm3084)
  exact LP3085 _ 0 0 M L Kp.rf (by decide) (Nat.lt_succ_self _)
set_option maxHeartbeats 4000000 in
set_option maxRecDepth 20000 in
theorem t1_Main_pinch {l : Launch} {ld : Nat} (hld : isLa ld) {M : gM} {L : gL} {Q : Option Value → gM → gL → gR → Prop} (p1 : Int32) (p2 : Int32) (hQ : ∀ (r : Int32) (M' : gM) (L' : gL), Kp S0 M L M' L' → Q (some (.int r)) M' L' (rf ld)) : Tm l y_Main_pinch (0, 0, 447) 447 [.ref 0, .int p1, .int p2] M L (rf ld) Q := by
  refine Tm.of (by decide) (Nat.le_of_ble_eq_true rfl) ?_
  show Wp l y_Main_pinch (0, 0, 447) 447 0 0 0 [(0, .ref 0), (1, .int p1), (2, .int p2)] [] M L (rf ld) Q
  refine g_iload_n (pc1 := 1) d_Main_pinch_0 rfl 1 rfl ?_
  refine g_aload_n (pc1 := 2) d_Main_pinch_1 rfl 0 rfl ?_
  refine g_getr (pc1 := 5) d_Main_pinch_2 rfl ⟨_, fo_Main_26⟩ sh_0 (by decide) (rf_0_2 ld) ?_
  refine g_geti (pc1 := 8) d_Main_pinch_5 rfl ⟨_, fo_Main_131⟩ (shLa_0 hld) (ltLa_0 hld) ?_
  refine g_callS0 (pc1 := 11) (As := [.int p1, .int (M ld 1)]) (rest := []) d_Main_pinch_8 rfl mo_Main_112 ms_Main_isOne (by decide) rfl rfl (Nat.le_of_ble_eq_true rfl) ?_
  refine t1_Main_isOne hld _ _ (fun r3102 hr3102 => ?_)
  refine g_if_eq (pc1 := 14) (tgt := 22) d_Main_pinch_11 (by decide) rfl (fun h3103 => ?_) (fun h3103 => ?_)
  · refine g_iconst (pc1 := 23) (v := (-1)) d_Main_pinch_22 rfl (by decide) ?_
    refine g_ireturn (Or.inl rfl) d_Main_pinch_23 rfl ?_
    exact hQ _ _ _ Kp.rf
  · refine g_iload_n (pc1 := 15) d_Main_pinch_14 rfl 2 rfl ?_
    refine g_iconst (pc1 := 16) (v := 2) d_Main_pinch_15 rfl (by decide) ?_
    refine g_callS0 (pc1 := 19) (As := [.int p2, .int 2]) (rest := []) d_Main_pinch_16 rfl mo_Main_112 ms_Main_isOne (by decide) rfl rfl (Nat.le_of_ble_eq_true rfl) ?_
    refine t1_Main_isOne hld _ _ (fun r3104 hr3104 => ?_)
    refine g_if_ne (pc1 := 22) (tgt := 24) d_Main_pinch_19 (by decide) rfl (fun h3105 => ?_) (fun h3105 => ?_)
    · refine g_iconst (pc1 := 25) (v := (-1)) d_Main_pinch_24 rfl (by decide) ?_
      refine Wp.topi (fun x3106 ex3106 => ?_)
      refine g_istore_n (pc1 := 26) (lv' := [(0, .ref 0), (1, .int p1), (2, .int p2), (3, .int x3106)]) d_Main_pinch_25 rfl rfl (by decide) [1, 2, 3, 0] rfl ?_
      refine g_iconst (pc1 := 27) (v := (-1)) d_Main_pinch_26 rfl (by decide) ?_
      refine Wp.topi (fun x3107 ex3107 => ?_)
      refine g_istore (pc1 := 29) (lv' := [(0, .ref 0), (1, .int p1), (2, .int p2), (3, .int x3106), (4, .int x3107)]) d_Main_pinch_27 rfl (by decide) [1, 2, 3, 4, 0] rfl ?_
      refine g_iconst (pc1 := 30) (v := 0) d_Main_pinch_29 rfl (by decide) ?_
      refine g_istore (pc1 := 32) (lv' := [(0, .ref 0), (1, .int p1), (2, .int p2), (3, .int x3106), (4, .int x3107), (5, .int 0)]) d_Main_pinch_30 rfl (by decide) [1, 2, 3, 4, 5, 0] rfl ?_
      have LP3111 : ∀ (f3108 : Nat) (v3112 : Int32) (v3113 : Int32) (v3114 : Int32) (M3115 : gM) (L3116 : gL), Kp S0 M L M3115 L3116 → ¬ v3114 < 0 → ((M ld 0).toInt - v3114.toInt).toNat < f3108 → Wp l y_Main_pinch (0, 0, 447) 447 0 0 32 [(0, .ref 0), (1, .int p1), (2, .int p2), (3, .int v3112), (4, .int v3113), (5, .int v3114)] [] M3115 L3116 (rf ld) Q := by
        intro f3108
        induction f3108 with
        | zero => intro v3112 v3113 v3114 M3115 L3116 _ _ hm3110; exact absurd hm3110 (Nat.not_lt_zero _)
        | succ f3108 ih3109 =>
          intro v3112 v3113 v3114 M3115 L3116 k3117 n3118 hm3110
          refine g_iload (pc1 := 34) d_Main_pinch_32 rfl 5 rfl ?_
          refine g_aload_n (pc1 := 35) d_Main_pinch_34 rfl 0 rfl ?_
          refine g_getr (pc1 := 38) d_Main_pinch_35 rfl ⟨_, fo_Main_26⟩ sh_0 (by decide) (rf_0_2 ld) ?_
          refine g_geti (pc1 := 41) d_Main_pinch_38 rfl ⟨_, fo_Main_109⟩ (shLa_0 hld) (ltLa_0 hld) ?_
          refine g_icmp_ge (pc1 := 44) (tgt := 72) d_Main_pinch_41 (by decide) rfl (fun h3119 => ?_) (fun h3119 => ?_)
          · refine g_iload_n (pc1 := 73) d_Main_pinch_72 rfl 2 rfl ?_
            refine g_if_ne (pc1 := 76) (tgt := 81) d_Main_pinch_73 (by decide) rfl (fun h3120 => ?_) (fun h3120 => ?_)
            · refine g_iload_n (pc1 := 82) d_Main_pinch_81 rfl 3 rfl ?_
              refine g_ireturn (Or.inl rfl) d_Main_pinch_82 rfl ?_
              exact hQ _ _ _ k3117
            · refine g_iload (pc1 := 78) d_Main_pinch_76 rfl 4 rfl ?_
              refine g_goto (tgt := 82) d_Main_pinch_78 (by decide) ?_
              refine g_ireturn (Or.inl rfl) d_Main_pinch_82 rfl ?_
              exact hQ _ _ _ k3117
          · refine g_aload_n (pc1 := 45) d_Main_pinch_44 rfl 0 rfl ?_
            refine g_iload_n (pc1 := 46) d_Main_pinch_45 rfl 1 rfl ?_
            refine g_iload (pc1 := 48) d_Main_pinch_46 rfl 5 rfl ?_
            refine g_callV0 (pc1 := 51) (As := [.int p1, .int v3114]) (rest := []) d_Main_pinch_48 rfl mo_Main_235 mi_Main_changeBy mv_Main_changeBy rfl sh_0 (by decide) (by decide) rfl rfl (Nat.le_of_ble_eq_true rfl) ?_
            refine t1_Main_changeBy hld _ _ (fun r3121 M3122 L3123 k3124 => ?_)
            refine g_istore (pc1 := 53) (lv' := [(0, .ref 0), (1, .int p1), (2, .int p2), (3, .int v3112), (4, .int v3113), (5, .int v3114), (6, .int r3121)]) d_Main_pinch_51 rfl (by decide) [1, 2, 3, 4, 5, 6, 0] rfl ?_
            refine g_iload (pc1 := 55) d_Main_pinch_53 rfl 6 rfl ?_
            refine g_iload_n (pc1 := 56) d_Main_pinch_55 rfl 3 rfl ?_
            refine g_icmp_le (pc1 := 59) (tgt := 66) d_Main_pinch_56 (by decide) rfl (fun h3125 => ?_) (fun h3125 => ?_)
            · obtain ⟨x3126, ex3126⟩ : ∃ y : Int32, y = v3114 + 1 := ⟨_, rfl⟩
              refine g_iinc (pc1 := 69) (v := x3126) (lv' := [(0, .ref 0), (1, .int p1), (2, .int p2), (3, .int v3112), (4, .int v3113), (5, .int x3126), (6, .int r3121)]) d_Main_pinch_66 rfl 5 rfl (by rw [ex3126]; rfl) (by decide) [1, 2, 3, 4, 5, 0, 6] rfl ?_
              refine g_goto (tgt := 32) d_Main_pinch_69 (by decide) ?_
              refine Wp.loc (lv' := [(0, .ref 0), (1, .int p1), (2, .int p2), (3, .int v3112), (4, .int v3113), (5, .int x3126)]) [0, 1, 2, 3, 4, 5] rfl ?_
              exact ih3109 v3112 v3113 x3126 M3122 L3123 (Kp.trans k3117 k3124) (nn_up (y := (M ld 0)) (by rw [← k3117.m (S0_La_0f hld) 0]; exact h3119) ex3126 n3118) (md_up (by rw [← k3117.m (S0_La_0f hld) 0]; exact h3119) ex3126 hm3110)
            · refine g_iload (pc1 := 61) d_Main_pinch_59 rfl 6 rfl ?_
              refine g_istore_n (pc1 := 62) (lv' := [(0, .ref 0), (1, .int p1), (2, .int p2), (3, .int r3121), (4, .int v3113), (5, .int v3114), (6, .int r3121)]) d_Main_pinch_61 rfl rfl (by decide) [1, 2, 3, 0, 4, 5, 6] rfl ?_
              refine g_iload (pc1 := 64) d_Main_pinch_62 rfl 5 rfl ?_
              refine g_istore (pc1 := 66) (lv' := [(0, .ref 0), (1, .int p1), (2, .int p2), (3, .int r3121), (4, .int v3114), (5, .int v3114), (6, .int r3121)]) d_Main_pinch_64 rfl (by decide) [1, 2, 3, 4, 0, 5, 6] rfl ?_
              obtain ⟨x3127, ex3127⟩ : ∃ y : Int32, y = v3114 + 1 := ⟨_, rfl⟩
              refine g_iinc (pc1 := 69) (v := x3127) (lv' := [(0, .ref 0), (1, .int p1), (2, .int p2), (3, .int r3121), (4, .int v3114), (5, .int x3127), (6, .int r3121)]) d_Main_pinch_66 rfl 5 rfl (by rw [ex3127]; rfl) (by decide) [1, 2, 3, 4, 5, 0, 6] rfl ?_
              refine g_goto (tgt := 32) d_Main_pinch_69 (by decide) ?_
              refine Wp.loc (lv' := [(0, .ref 0), (1, .int p1), (2, .int p2), (3, .int r3121), (4, .int v3114), (5, .int x3127)]) [0, 1, 2, 3, 4, 5] rfl ?_
              exact ih3109 r3121 v3114 x3127 M3122 L3123 (Kp.trans k3117 k3124) (nn_up (y := (M ld 0)) (by rw [← k3117.m (S0_La_0f hld) 0]; exact h3119) ex3127 n3118) (md_up (by rw [← k3117.m (S0_La_0f hld) 0]; exact h3119) ex3127 hm3110)
      exact LP3111 _ x3106 x3107 0 M L Kp.rf (by decide) (Nat.lt_succ_self _)
    · refine g_iconst (pc1 := 23) (v := (-1)) d_Main_pinch_22 rfl (by decide) ?_
      refine g_ireturn (Or.inl rfl) d_Main_pinch_23 rfl ?_
      exact hQ _ _ _ Kp.rf
set_option maxHeartbeats 4000000 in
set_option maxRecDepth 20000 in
theorem t1_Main_year {l : Launch} {ld : Nat} (hld : isLa ld) {M : gM} {L : gL} {Q : Option Value → gM → gL → gR → Prop} (p1 : Int32) (p2 : Int32) (p3 : Int32) (p4 : Int32) (hQ : ∀ (r : Int32) (M' : gM) (L' : gL), Kp S0 M L M' L' → Q (some (.int r)) M' L' (rf ld)) : Tm l y_Main_year (0, 0, 447) 447 [.ref 0, .int p1, .int p2, .int p3, .int p4] M L (rf ld) Q := by
  refine Tm.of (by decide) (Nat.le_of_ble_eq_true rfl) ?_
  show Wp l y_Main_year (0, 0, 447) 447 0 0 0 [(0, .ref 0), (1, .int p1), (2, .int p2), (3, .int p3), (4, .int p4)] [] M L (rf ld) Q
  refine g_iload_n (pc1 := 1) d_Main_year_0 rfl 1 rfl ?_
  refine g_aload_n (pc1 := 2) d_Main_year_1 rfl 0 rfl ?_
  refine g_getr (pc1 := 5) d_Main_year_2 rfl ⟨_, fo_Main_26⟩ sh_0 (by decide) (rf_0_2 ld) ?_
  refine g_geti (pc1 := 8) d_Main_year_5 rfl ⟨_, fo_Main_131⟩ (shLa_0 hld) (ltLa_0 hld) ?_
  refine g_callS0 (pc1 := 11) (As := [.int p1, .int (M ld 1)]) (rest := []) d_Main_year_8 rfl mo_Main_112 ms_Main_isOne (by decide) rfl rfl (Nat.le_of_ble_eq_true rfl) ?_
  refine t1_Main_isOne hld _ _ (fun r3128 hr3128 => ?_)
  refine g_if_eq (pc1 := 14) (tgt := 44) d_Main_year_11 (by decide) rfl (fun h3129 => ?_) (fun h3129 => ?_)
  · refine g_iconst (pc1 := 45) (v := (-1)) d_Main_year_44 rfl (by decide) ?_
    refine g_ireturn (Or.inl rfl) d_Main_year_45 rfl ?_
    exact hQ _ _ _ Kp.rf
  · refine g_iload_n (pc1 := 15) d_Main_year_14 rfl 2 rfl ?_
    refine g_iconst (pc1 := 16) (v := 3) d_Main_year_15 rfl (by decide) ?_
    refine g_callS0 (pc1 := 19) (As := [.int p2, .int 3]) (rest := []) d_Main_year_16 rfl mo_Main_112 ms_Main_isOne (by decide) rfl rfl (Nat.le_of_ble_eq_true rfl) ?_
    refine t1_Main_isOne hld _ _ (fun r3130 hr3130 => ?_)
    refine g_if_eq (pc1 := 22) (tgt := 44) d_Main_year_19 (by decide) rfl (fun h3131 => ?_) (fun h3131 => ?_)
    · refine g_iconst (pc1 := 45) (v := (-1)) d_Main_year_44 rfl (by decide) ?_
      refine g_ireturn (Or.inl rfl) d_Main_year_45 rfl ?_
      exact hQ _ _ _ Kp.rf
    · refine g_iload_n (pc1 := 23) d_Main_year_22 rfl 3 rfl ?_
      refine g_bipush (pc1 := 25) (v := 100) d_Main_year_23 rfl (by decide) ?_
      refine g_callS0 (pc1 := 28) (As := [.int p3, .int 100]) (rest := []) d_Main_year_25 rfl mo_Main_112 ms_Main_isOne (by decide) rfl rfl (Nat.le_of_ble_eq_true rfl) ?_
      refine t1_Main_isOne hld _ _ (fun r3132 hr3132 => ?_)
      refine g_if_eq (pc1 := 31) (tgt := 44) d_Main_year_28 (by decide) rfl (fun h3133 => ?_) (fun h3133 => ?_)
      · refine g_iconst (pc1 := 45) (v := (-1)) d_Main_year_44 rfl (by decide) ?_
        refine g_ireturn (Or.inl rfl) d_Main_year_45 rfl ?_
        exact hQ _ _ _ Kp.rf
      · refine g_iload (pc1 := 33) d_Main_year_31 rfl 4 rfl ?_
        refine g_iconst (pc1 := 34) (v := 1) d_Main_year_33 rfl (by decide) ?_
        refine g_icmp_lt (pc1 := 37) (tgt := 44) d_Main_year_34 (by decide) rfl (fun h3134 => ?_) (fun h3134 => ?_)
        · refine g_iconst (pc1 := 45) (v := (-1)) d_Main_year_44 rfl (by decide) ?_
          refine g_ireturn (Or.inl rfl) d_Main_year_45 rfl ?_
          exact hQ _ _ _ Kp.rf
        · refine g_iload (pc1 := 39) d_Main_year_37 rfl 4 rfl ?_
          refine g_bipush (pc1 := 41) (v := 20) d_Main_year_39 rfl (by decide) ?_
          refine g_icmp_le (pc1 := 44) (tgt := 46) d_Main_year_41 (by decide) rfl (fun h3135 => ?_) (fun h3135 => ?_)
          · refine g_aload_n (pc1 := 47) d_Main_year_46 rfl 0 rfl ?_
            refine g_getr (pc1 := 50) d_Main_year_47 rfl ⟨_, fo_Main_36⟩ sh_0 (by decide) (rf_0_4 ld) ?_
            refine g_aload_n (pc1 := 51) d_Main_year_50 rfl 0 rfl ?_
            refine g_getr (pc1 := 54) d_Main_year_51 rfl ⟨_, fo_Main_26⟩ sh_0 (by decide) (rf_0_2 ld) ?_
            refine g_iload_n (pc1 := 55) d_Main_year_54 rfl 1 rfl ?_
            refine g_callV0 (pc1 := 58) (As := [.ref ld, .int p1]) (rest := []) d_Main_year_55 rfl mo_Main_196 mi_State_inStore mv_State_inStore rfl (shSt_0 isSt_64) (ltSt_0 isSt_64) (by decide) rfl rfl (Nat.le_of_ble_eq_true rfl) ?_
            refine t1_State_inStore hld 64 isSt_64 ld hld _ (fun r3136 hr3136 => ?_)
            refine g_if_ne (pc1 := 61) (tgt := 64) d_Main_year_58 (by decide) rfl (fun h3137 => ?_) (fun h3137 => ?_)
            · refine g_iconst (pc1 := 65) (v := 0) d_Main_year_64 rfl (by decide) ?_
              refine g_istore (pc1 := 67) (lv' := [(0, .ref 0), (1, .int p1), (2, .int p2), (3, .int p3), (4, .int p4), (5, .int 0)]) d_Main_year_65 rfl (by decide) [1, 2, 3, 4, 5, 0] rfl ?_
              refine g_iconst (pc1 := 68) (v := 0) d_Main_year_67 rfl (by decide) ?_
              refine g_istore (pc1 := 70) (lv' := [(0, .ref 0), (1, .int p1), (2, .int p2), (3, .int p3), (4, .int p4), (5, .int 0), (6, .int 0)]) d_Main_year_68 rfl (by decide) [1, 2, 3, 4, 5, 6, 0] rfl ?_
              have LP3141 : ∀ (f3138 : Nat) (v3142 : Int32) (v3143 : Int32) (M3144 : gM) (L3145 : gL), Kp S0 M L M3144 L3145 → ¬ v3143 < 0 → (p4.toInt - v3143.toInt).toNat < f3138 → Wp l y_Main_year (0, 0, 447) 447 0 0 70 [(0, .ref 0), (1, .int p1), (2, .int p2), (3, .int p3), (4, .int p4), (5, .int v3142), (6, .int v3143)] [] M3144 L3145 (rf ld) Q := by
                intro f3138
                induction f3138 with
                | zero => intro v3142 v3143 M3144 L3145 _ _ hm3140; exact absurd hm3140 (Nat.not_lt_zero _)
                | succ f3138 ih3139 =>
                  intro v3142 v3143 M3144 L3145 k3146 n3147 hm3140
                  refine g_iload (pc1 := 72) d_Main_year_70 rfl 6 rfl ?_
                  refine g_iload (pc1 := 74) d_Main_year_72 rfl 4 rfl ?_
                  refine g_icmp_ge (pc1 := 77) (tgt := 132) d_Main_year_74 (by decide) rfl (fun h3148 => ?_) (fun h3148 => ?_)
                  · refine g_iload (pc1 := 134) d_Main_year_132 rfl 5 rfl ?_
                    refine g_ireturn (Or.inl rfl) d_Main_year_134 rfl ?_
                    exact hQ _ _ _ k3146
                  · refine g_aload_n (pc1 := 78) d_Main_year_77 rfl 0 rfl ?_
                    refine g_getr (pc1 := 81) d_Main_year_78 rfl ⟨_, fo_Main_36⟩ sh_0 (by decide) (rf_0_4 ld) ?_
                    refine g_aload_n (pc1 := 82) d_Main_year_81 rfl 0 rfl ?_
                    refine g_getr (pc1 := 85) d_Main_year_82 rfl ⟨_, fo_Main_26⟩ sh_0 (by decide) (rf_0_2 ld) ?_
                    refine g_iload_n (pc1 := 86) d_Main_year_85 rfl 1 rfl ?_
                    refine g_aload_n (pc1 := 87) d_Main_year_86 rfl 0 rfl ?_
                    refine g_getr (pc1 := 90) d_Main_year_87 rfl ⟨_, fo_Main_26⟩ sh_0 (by decide) (rf_0_2 ld) ?_
                    refine g_geti (pc1 := 93) d_Main_year_90 rfl ⟨_, fo_Main_265⟩ (shLa_0 hld) (ltLa_0 hld) ?_
                    refine g_iload (pc1 := 95) d_Main_year_93 rfl 6 rfl ?_
                    refine g_iadd (pc1 := 96) d_Main_year_95 rfl ?_
                    refine g_callV0 (pc1 := 99) (As := [.ref ld, .int p1, .int ((M3144 ld 4) + v3143)]) (rest := []) d_Main_year_96 rfl mo_Main_268 mi_State_slipInto mv_State_slipInto rfl (shSt_0 isSt_64) (ltSt_0 isSt_64) (by decide) rfl rfl (Nat.le_of_ble_eq_true rfl) ?_
                    refine t1_State_slipInto hld 64 isSt_64 ld hld _ _ (fun r3149 M3150 L3151 k3152 => ?_)
                    refine g_istore (pc1 := 101) (lv' := [(0, .ref 0), (1, .int p1), (2, .int p2), (3, .int p3), (4, .int p4), (5, .int v3142), (6, .int v3143), (7, .int r3149)]) d_Main_year_99 rfl (by decide) [1, 2, 3, 4, 5, 6, 7, 0] rfl ?_
                    refine g_aload_n (pc1 := 102) d_Main_year_101 rfl 0 rfl ?_
                    refine g_getr (pc1 := 105) d_Main_year_102 rfl ⟨_, fo_Main_26⟩ sh_0 (by decide) (rf_0_2 ld) ?_
                    refine g_iload_n (pc1 := 106) d_Main_year_105 rfl 1 rfl ?_
                    refine g_iload (pc1 := 108) d_Main_year_106 rfl 7 rfl ?_
                    refine g_iload_n (pc1 := 109) d_Main_year_108 rfl 2 rfl ?_
                    refine g_aload_n (pc1 := 110) d_Main_year_109 rfl 0 rfl ?_
                    refine g_getr (pc1 := 113) d_Main_year_110 rfl ⟨_, fo_Main_36⟩ sh_0 (by decide) (rf_0_4 ld) ?_
                    refine g_geti (pc1 := 116) d_Main_year_113 rfl ⟨_, fo_Main_144⟩ (shSt_0 isSt_64) (ltSt_0 isSt_64) ?_
                    refine g_callV0 (pc1 := 119) (As := [.int p1, .int r3149, .int p2, .int (M3150 64 0)]) (rest := []) d_Main_year_116 rfl mo_Main_147 mi_Land_dishForce mv_Land_dishForce rfl (shLa_0 hld) (ltLa_0 hld) (by decide) rfl rfl (Nat.le_of_ble_eq_true rfl) ?_
                    refine t1_Land_dishForce hld ld hld _ _ _ _ (fun r3153 M3154 L3155 k3156 => ?_)
                    refine g_iload_n (pc1 := 120) d_Main_year_119 rfl 3 rfl ?_
                    refine g_icmp_lt (pc1 := 123) (tgt := 126) d_Main_year_120 (by decide) rfl (fun h3157 => ?_) (fun h3157 => ?_)
                    · obtain ⟨x3158, ex3158⟩ : ∃ y : Int32, y = v3143 + 1 := ⟨_, rfl⟩
                      refine g_iinc (pc1 := 129) (v := x3158) (lv' := [(0, .ref 0), (1, .int p1), (2, .int p2), (3, .int p3), (4, .int p4), (5, .int v3142), (6, .int x3158), (7, .int r3149)]) d_Main_year_126 rfl 6 rfl (by rw [ex3158]; rfl) (by decide) [1, 2, 3, 4, 5, 6, 0, 7] rfl ?_
                      refine g_goto (tgt := 70) d_Main_year_129 (by decide) ?_
                      refine Wp.loc (lv' := [(0, .ref 0), (1, .int p1), (2, .int p2), (3, .int p3), (4, .int p4), (5, .int v3142), (6, .int x3158)]) [0, 1, 2, 3, 4, 5, 6] rfl ?_
                      exact ih3139 v3142 x3158 M3154 L3155 (Kp.trans (Kp.trans k3146 k3152) k3156) (nn_up (y := p4) h3148 ex3158 n3147) (md_up h3148 ex3158 hm3140)
                    · obtain ⟨x3159, ex3159⟩ : ∃ y : Int32, y = v3142 + 1 := ⟨_, rfl⟩
                      refine g_iinc (pc1 := 126) (v := x3159) (lv' := [(0, .ref 0), (1, .int p1), (2, .int p2), (3, .int p3), (4, .int p4), (5, .int x3159), (6, .int v3143), (7, .int r3149)]) d_Main_year_123 rfl 5 rfl (by rw [ex3159]; rfl) (by decide) [1, 2, 3, 4, 5, 0, 6, 7] rfl ?_
                      obtain ⟨x3160, ex3160⟩ : ∃ y : Int32, y = v3143 + 1 := ⟨_, rfl⟩
                      refine g_iinc (pc1 := 129) (v := x3160) (lv' := [(0, .ref 0), (1, .int p1), (2, .int p2), (3, .int p3), (4, .int p4), (5, .int x3159), (6, .int x3160), (7, .int r3149)]) d_Main_year_126 rfl 6 rfl (by rw [ex3160]; rfl) (by decide) [1, 2, 3, 4, 5, 6, 0, 7] rfl ?_
                      refine g_goto (tgt := 70) d_Main_year_129 (by decide) ?_
                      refine Wp.loc (lv' := [(0, .ref 0), (1, .int p1), (2, .int p2), (3, .int p3), (4, .int p4), (5, .int x3159), (6, .int x3160)]) [0, 1, 2, 3, 4, 5, 6] rfl ?_
                      exact ih3139 x3159 x3160 M3154 L3155 (Kp.trans (Kp.trans k3146 k3152) k3156) (nn_up (y := p4) h3148 ex3160 n3147) (md_up h3148 ex3160 hm3140)
              exact LP3141 _ 0 0 M L Kp.rf (by decide) (Nat.lt_succ_self _)
            · refine g_bipush (pc1 := 63) (v := (-2)) d_Main_year_61 rfl (by decide) ?_
              refine g_ireturn (Or.inl rfl) d_Main_year_63 rfl ?_
              exact hQ _ _ _ Kp.rf
          · refine g_iconst (pc1 := 45) (v := (-1)) d_Main_year_44 rfl (by decide) ?_
            refine g_ireturn (Or.inl rfl) d_Main_year_45 rfl ?_
            exact hQ _ _ _ Kp.rf
set_option maxHeartbeats 4000000 in
set_option maxRecDepth 20000 in
theorem t1_MenuSearch_lookFed {l : Launch} {ld : Nat} (hld : isLa ld) {M : gM} {L : gL} {Q : Option Value → gM → gL → gR → Prop} (Ld1 : Nat) (hLd1 : isLa Ld1) (p2 : Int32) (p3 : Int32) (p4 : Int32) (p5 : Int32) (hQ : ∀ (M' : gM) (L' : gL), Kp S1 M L M' L' → Q none M' L' (rf ld)) : Tm l y_MenuSearch_lookFed (0, 0, 447) 447 [.ref 396, .ref Ld1, .int p2, .int p3, .int p4, .int p5] M L (rf ld) Q := by
  refine Tm.of (by decide) (Nat.le_of_ble_eq_true rfl) ?_
  show Wp l y_MenuSearch_lookFed (0, 0, 447) 447 0 0 0 [(0, .ref 396), (1, .ref Ld1), (2, .int p2), (3, .int p3), (4, .int p4), (5, .int p5)] [] M L (rf ld) Q
  refine g_iconst (pc1 := 1) (v := 0) d_MenuSearch_lookFed_0 rfl (by decide) ?_
  refine g_istore (pc1 := 3) (lv' := [(0, .ref 396), (1, .ref Ld1), (2, .int p2), (3, .int p3), (4, .int p4), (5, .int p5), (6, .int 0)]) d_MenuSearch_lookFed_1 rfl (by decide) [1, 2, 3, 4, 5, 6, 0] rfl ?_
  have LP3164 : ∀ (f3161 : Nat) (v3165 : Int32) (M3166 : gM) (L3167 : gL), Kp S1 M L M3166 L3167 → ¬ v3165 < 0 → (p4.toInt - v3165.toInt).toNat < f3161 → Wp l y_MenuSearch_lookFed (0, 0, 447) 447 0 0 3 [(0, .ref 396), (1, .ref Ld1), (2, .int p2), (3, .int p3), (4, .int p4), (5, .int p5), (6, .int v3165)] [] M3166 L3167 (rf ld) Q := by
    intro f3161
    induction f3161 with
    | zero => intro v3165 M3166 L3167 _ _ hm3163; exact absurd hm3163 (Nat.not_lt_zero _)
    | succ f3161 ih3162 =>
      intro v3165 M3166 L3167 k3168 n3169 hm3163
      refine g_iload (pc1 := 5) d_MenuSearch_lookFed_3 rfl 6 rfl ?_
      refine g_iload (pc1 := 7) d_MenuSearch_lookFed_5 rfl 4 rfl ?_
      refine g_icmp_ge (pc1 := 10) (tgt := 117) d_MenuSearch_lookFed_7 (by decide) rfl (fun h3170 => ?_) (fun h3170 => ?_)
      · refine g_return rfl d_MenuSearch_lookFed_117 rfl ?_
        exact hQ _ _ k3168
      · refine g_iconst (pc1 := 11) (v := 0) d_MenuSearch_lookFed_10 rfl (by decide) ?_
        refine g_istore (pc1 := 13) (lv' := [(0, .ref 396), (1, .ref Ld1), (2, .int p2), (3, .int p3), (4, .int p4), (5, .int p5), (6, .int v3165), (7, .int 0)]) d_MenuSearch_lookFed_11 rfl (by decide) [1, 2, 3, 4, 5, 6, 7, 0] rfl ?_
        have LP3174 : ∀ (f3171 : Nat) (v3175 : Int32) (M3176 : gM) (L3177 : gL), Kp S1 M L M3176 L3177 → ¬ v3175 < 0 → ((M Ld1 1).toInt - v3175.toInt).toNat < f3171 → Wp l y_MenuSearch_lookFed (0, 0, 447) 447 0 0 13 [(0, .ref 396), (1, .ref Ld1), (2, .int p2), (3, .int p3), (4, .int p4), (5, .int p5), (6, .int v3165), (7, .int v3175)] [] M3176 L3177 (rf ld) Q := by
          intro f3171
          induction f3171 with
          | zero => intro v3175 M3176 L3177 _ _ hm3173; exact absurd hm3173 (Nat.not_lt_zero _)
          | succ f3171 ih3172 =>
            intro v3175 M3176 L3177 k3178 n3179 hm3173
            refine g_iload (pc1 := 15) d_MenuSearch_lookFed_13 rfl 7 rfl ?_
            refine g_aload_n (pc1 := 16) d_MenuSearch_lookFed_15 rfl 1 rfl ?_
            refine g_geti (pc1 := 19) d_MenuSearch_lookFed_16 rfl ⟨_, fo_MenuSearch_54⟩ (shLa_0 hLd1) (ltLa_0 hLd1) ?_
            refine g_icmp_ge (pc1 := 22) (tgt := 111) d_MenuSearch_lookFed_19 (by decide) rfl (fun h3180 => ?_) (fun h3180 => ?_)
            · obtain ⟨x3181, ex3181⟩ : ∃ y : Int32, y = v3165 + 1 := ⟨_, rfl⟩
              refine g_iinc (pc1 := 114) (v := x3181) (lv' := [(0, .ref 396), (1, .ref Ld1), (2, .int p2), (3, .int p3), (4, .int p4), (5, .int p5), (6, .int x3181), (7, .int v3175)]) d_MenuSearch_lookFed_111 rfl 6 rfl (by rw [ex3181]; rfl) (by decide) [1, 2, 3, 4, 5, 6, 0, 7] rfl ?_
              refine g_goto (tgt := 3) d_MenuSearch_lookFed_114 (by decide) ?_
              refine Wp.loc (lv' := [(0, .ref 396), (1, .ref Ld1), (2, .int p2), (3, .int p3), (4, .int p4), (5, .int p5), (6, .int x3181)]) [0, 1, 2, 3, 4, 5, 6] rfl ?_
              exact ih3162 x3181 M3176 L3177 k3178 (nn_up (y := p4) h3170 ex3181 n3169) (md_up h3170 ex3181 hm3163)
            · refine g_iload (pc1 := 24) d_MenuSearch_lookFed_22 rfl 6 rfl ?_
              refine g_istore (pc1 := 26) (lv' := [(0, .ref 396), (1, .ref Ld1), (2, .int p2), (3, .int p3), (4, .int p4), (5, .int p5), (6, .int v3165), (7, .int v3175), (8, .int v3165)]) d_MenuSearch_lookFed_24 rfl (by decide) [1, 2, 3, 4, 5, 6, 7, 8, 0] rfl ?_
              have LP3185 : ∀ (f3182 : Nat) (v3186 : Int32) (M3187 : gM) (L3188 : gL), Kp S1 M L M3187 L3188 → (p4.toInt - v3186.toInt).toNat < f3182 → Wp l y_MenuSearch_lookFed (0, 0, 447) 447 0 0 26 [(0, .ref 396), (1, .ref Ld1), (2, .int p2), (3, .int p3), (4, .int p4), (5, .int p5), (6, .int v3165), (7, .int v3175), (8, .int v3186)] [] M3187 L3188 (rf ld) Q := by
                intro f3182
                induction f3182 with
                | zero => intro v3186 M3187 L3188 _ hm3184; exact absurd hm3184 (Nat.not_lt_zero _)
                | succ f3182 ih3183 =>
                  intro v3186 M3187 L3188 k3189 hm3184
                  refine g_iload (pc1 := 28) d_MenuSearch_lookFed_26 rfl 8 rfl ?_
                  refine g_iload (pc1 := 30) d_MenuSearch_lookFed_28 rfl 4 rfl ?_
                  refine g_icmp_ge (pc1 := 33) (tgt := 105) d_MenuSearch_lookFed_30 (by decide) rfl (fun h3190 => ?_) (fun h3190 => ?_)
                  · obtain ⟨x3191, ex3191⟩ : ∃ y : Int32, y = v3175 + 1 := ⟨_, rfl⟩
                    refine g_iinc (pc1 := 108) (v := x3191) (lv' := [(0, .ref 396), (1, .ref Ld1), (2, .int p2), (3, .int p3), (4, .int p4), (5, .int p5), (6, .int v3165), (7, .int x3191), (8, .int v3186)]) d_MenuSearch_lookFed_105 rfl 7 rfl (by rw [ex3191]; rfl) (by decide) [1, 2, 3, 4, 5, 6, 7, 0, 8] rfl ?_
                    refine g_goto (tgt := 13) d_MenuSearch_lookFed_108 (by decide) ?_
                    refine Wp.loc (lv' := [(0, .ref 396), (1, .ref Ld1), (2, .int p2), (3, .int p3), (4, .int p4), (5, .int p5), (6, .int v3165), (7, .int x3191)]) [0, 1, 2, 3, 4, 5, 6, 7] rfl ?_
                    exact ih3172 x3191 M3187 L3188 k3189 (nn_up (y := (M Ld1 1)) (by rw [← k3178.m (S1_La_0f hLd1) 1]; exact h3180) ex3191 n3179) (md_up (by rw [← k3178.m (S1_La_0f hLd1) 1]; exact h3180) ex3191 hm3173)
                  · refine g_aload_n (pc1 := 34) d_MenuSearch_lookFed_33 rfl 1 rfl ?_
                    refine g_iload_n (pc1 := 35) d_MenuSearch_lookFed_34 rfl 3 rfl ?_
                    refine g_iload (pc1 := 37) d_MenuSearch_lookFed_35 rfl 7 rfl ?_
                    refine g_iload_n (pc1 := 38) d_MenuSearch_lookFed_37 rfl 2 rfl ?_
                    refine g_iload (pc1 := 40) d_MenuSearch_lookFed_38 rfl 6 rfl ?_
                    refine g_iadd (pc1 := 41) d_MenuSearch_lookFed_40 rfl ?_
                    refine g_iload (pc1 := 43) d_MenuSearch_lookFed_41 rfl 8 rfl ?_
                    refine g_iload (pc1 := 45) d_MenuSearch_lookFed_43 rfl 6 rfl ?_
                    refine g_isub (pc1 := 46) d_MenuSearch_lookFed_45 rfl ?_
                    refine g_callV0 (pc1 := 49) (As := [.int p3, .int v3175, .int (p2 + v3165), .int (v3186 - v3165)]) (rest := []) d_MenuSearch_lookFed_46 rfl mo_MenuSearch_67 mi_Land_freeByDish mv_Land_freeByDish rfl (shLa_0 hLd1) (ltLa_0 hLd1) (by decide) rfl rfl (Nat.le_of_ble_eq_true rfl) ?_
                    refine t1_Land_freeByDish hld Ld1 hLd1 _ _ _ _ (fun r3192 M3193 L3194 k3195 => ?_)
                    refine g_istore (pc1 := 51) (lv' := [(0, .ref 396), (1, .ref Ld1), (2, .int p2), (3, .int p3), (4, .int p4), (5, .int p5), (6, .int v3165), (7, .int v3175), (8, .int v3186), (9, .int r3192)]) d_MenuSearch_lookFed_49 rfl (by decide) [1, 2, 3, 4, 5, 6, 7, 8, 9, 0] rfl ?_
                    refine g_iload (pc1 := 53) d_MenuSearch_lookFed_51 rfl 8 rfl ?_
                    refine g_iload (pc1 := 55) d_MenuSearch_lookFed_53 rfl 6 rfl ?_
                    refine g_iload (pc1 := 57) d_MenuSearch_lookFed_55 rfl 7 rfl ?_
                    refine g_callS0 (pc1 := 60) (As := [.int v3186, .int v3165, .int v3175]) (rest := []) d_MenuSearch_lookFed_57 rfl mo_MenuSearch_71 ms_MenuSearch_indexOf (by decide) rfl rfl (Nat.le_of_ble_eq_true rfl) ?_
                    refine t1_MenuSearch_indexOf hld _ _ _ (fun r3196 => ?_)
                    refine g_istore (pc1 := 62) (lv' := [(0, .ref 396), (1, .ref Ld1), (2, .int p2), (3, .int p3), (4, .int p4), (5, .int p5), (6, .int v3165), (7, .int v3175), (8, .int v3186), (9, .int r3192), (10, .int r3196)]) d_MenuSearch_lookFed_60 rfl (by decide) [1, 2, 3, 4, 5, 6, 7, 8, 9, 10, 0] rfl ?_
                    refine g_iload (pc1 := 64) d_MenuSearch_lookFed_62 rfl 10 rfl ?_
                    refine g_if_lt (pc1 := 67) (tgt := 99) d_MenuSearch_lookFed_64 (by decide) rfl (fun h3197 => ?_) (fun h3197 => ?_)
                    · obtain ⟨x3198, ex3198⟩ : ∃ y : Int32, y = v3186 + 1 := ⟨_, rfl⟩
                      refine g_iinc (pc1 := 102) (v := x3198) (lv' := [(0, .ref 396), (1, .ref Ld1), (2, .int p2), (3, .int p3), (4, .int p4), (5, .int p5), (6, .int v3165), (7, .int v3175), (8, .int x3198), (9, .int r3192), (10, .int r3196)]) d_MenuSearch_lookFed_99 rfl 8 rfl (by rw [ex3198]; rfl) (by decide) [1, 2, 3, 4, 5, 6, 7, 8, 0, 9, 10] rfl ?_
                      refine g_goto (tgt := 26) d_MenuSearch_lookFed_102 (by decide) ?_
                      refine Wp.loc (lv' := [(0, .ref 396), (1, .ref Ld1), (2, .int p2), (3, .int p3), (4, .int p4), (5, .int p5), (6, .int v3165), (7, .int v3175), (8, .int x3198)]) [0, 1, 2, 3, 4, 5, 6, 7, 8] rfl ?_
                      exact ih3183 x3198 M3193 L3194 (Kp.trans k3189 (Kp.mono k3195 S0_S1)) (md_up h3190 ex3198 hm3184)
                    · refine g_iload (pc1 := 69) d_MenuSearch_lookFed_67 rfl 10 rfl ?_
                      refine g_aload_n (pc1 := 70) d_MenuSearch_lookFed_69 rfl 0 rfl ?_
                      refine g_getr (pc1 := 73) d_MenuSearch_lookFed_70 rfl ⟨_, fo_MenuSearch_15⟩ sh_396 (by decide) (rf_396_1 ld) ?_
                      refine g_alen (pc1 := 74) (v := 80) d_MenuSearch_lookFed_73 rfl sh_398 (by decide) (by decide) (by decide) (by decide) ?_
                      refine g_icmp_ge (pc1 := 77) (tgt := 99) d_MenuSearch_lookFed_74 (by decide) rfl (fun h3199 => ?_) (fun h3199 => ?_)
                      · obtain ⟨x3200, ex3200⟩ : ∃ y : Int32, y = v3186 + 1 := ⟨_, rfl⟩
                        refine g_iinc (pc1 := 102) (v := x3200) (lv' := [(0, .ref 396), (1, .ref Ld1), (2, .int p2), (3, .int p3), (4, .int p4), (5, .int p5), (6, .int v3165), (7, .int v3175), (8, .int x3200), (9, .int r3192), (10, .int r3196)]) d_MenuSearch_lookFed_99 rfl 8 rfl (by rw [ex3200]; rfl) (by decide) [1, 2, 3, 4, 5, 6, 7, 8, 0, 9, 10] rfl ?_
                        refine g_goto (tgt := 26) d_MenuSearch_lookFed_102 (by decide) ?_
                        refine Wp.loc (lv' := [(0, .ref 396), (1, .ref Ld1), (2, .int p2), (3, .int p3), (4, .int p4), (5, .int p5), (6, .int v3165), (7, .int v3175), (8, .int x3200)]) [0, 1, 2, 3, 4, 5, 6, 7, 8] rfl ?_
                        exact ih3183 x3200 M3193 L3194 (Kp.trans k3189 (Kp.mono k3195 S0_S1)) (md_up h3190 ex3200 hm3184)
                      · refine g_aload_n (pc1 := 78) d_MenuSearch_lookFed_77 rfl 0 rfl ?_
                        refine g_getr (pc1 := 81) d_MenuSearch_lookFed_78 rfl ⟨_, fo_MenuSearch_15⟩ sh_396 (by decide) (rf_396_1 ld) ?_
                        refine g_iload (pc1 := 83) d_MenuSearch_lookFed_81 rfl 10 rfl ?_
                        refine g_iload (pc1 := 85) d_MenuSearch_lookFed_83 rfl 9 rfl ?_
                        refine g_iload (pc1 := 87) d_MenuSearch_lookFed_85 rfl 5 rfl ?_
                        refine g_iand (pc1 := 88) d_MenuSearch_lookFed_87 rfl ?_
                        refine g_iload (pc1 := 90) d_MenuSearch_lookFed_88 rfl 5 rfl ?_
                        refine g_icmp_ne (pc1 := 93) (tgt := 97) d_MenuSearch_lookFed_90 (by decide) rfl (fun h3201 => ?_) (fun h3201 => ?_)
                        · refine g_iconst (pc1 := 98) (v := 0) d_MenuSearch_lookFed_97 rfl (by decide) ?_
                          refine g_zast (pc1 := 99) d_MenuSearch_lookFed_98 rfl sh_398 (by decide) (vin_of h3197 h3199 (by decide)) ?_
                          refine Wp.topM (fun M3202 eM3202 => ?_)
                          obtain ⟨x3203, ex3203⟩ : ∃ y : Int32, y = v3186 + 1 := ⟨_, rfl⟩
                          refine g_iinc (pc1 := 102) (v := x3203) (lv' := [(0, .ref 396), (1, .ref Ld1), (2, .int p2), (3, .int p3), (4, .int p4), (5, .int p5), (6, .int v3165), (7, .int v3175), (8, .int x3203), (9, .int r3192), (10, .int r3196)]) d_MenuSearch_lookFed_99 rfl 8 rfl (by rw [ex3203]; rfl) (by decide) [1, 2, 3, 4, 5, 6, 7, 8, 0, 9, 10] rfl ?_
                          refine g_goto (tgt := 26) d_MenuSearch_lookFed_102 (by decide) ?_
                          refine Wp.loc (lv' := [(0, .ref 396), (1, .ref Ld1), (2, .int p2), (3, .int p3), (4, .int p4), (5, .int p5), (6, .int v3165), (7, .int v3175), (8, .int x3203)]) [0, 1, 2, 3, 4, 5, 6, 7, 8] rfl ?_
                          exact ih3183 x3203 M3202 L3194 (Kp.wM (Kp.trans k3189 (Kp.mono k3195 S0_S1)) rfl eM3202) (md_up h3190 ex3203 hm3184)
                        · refine g_iconst (pc1 := 94) (v := 1) d_MenuSearch_lookFed_93 rfl (by decide) ?_
                          refine g_goto (tgt := 98) d_MenuSearch_lookFed_94 (by decide) ?_
                          refine g_zast (pc1 := 99) d_MenuSearch_lookFed_98 rfl sh_398 (by decide) (vin_of h3197 h3199 (by decide)) ?_
                          refine Wp.topM (fun M3204 eM3204 => ?_)
                          obtain ⟨x3205, ex3205⟩ : ∃ y : Int32, y = v3186 + 1 := ⟨_, rfl⟩
                          refine g_iinc (pc1 := 102) (v := x3205) (lv' := [(0, .ref 396), (1, .ref Ld1), (2, .int p2), (3, .int p3), (4, .int p4), (5, .int p5), (6, .int v3165), (7, .int v3175), (8, .int x3205), (9, .int r3192), (10, .int r3196)]) d_MenuSearch_lookFed_99 rfl 8 rfl (by rw [ex3205]; rfl) (by decide) [1, 2, 3, 4, 5, 6, 7, 8, 0, 9, 10] rfl ?_
                          refine g_goto (tgt := 26) d_MenuSearch_lookFed_102 (by decide) ?_
                          refine Wp.loc (lv' := [(0, .ref 396), (1, .ref Ld1), (2, .int p2), (3, .int p3), (4, .int p4), (5, .int p5), (6, .int v3165), (7, .int v3175), (8, .int x3205)]) [0, 1, 2, 3, 4, 5, 6, 7, 8] rfl ?_
                          exact ih3183 x3205 M3204 L3194 (Kp.wM (Kp.trans k3189 (Kp.mono k3195 S0_S1)) rfl eM3204) (md_up h3190 ex3205 hm3184)
              exact LP3185 _ v3165 M3176 L3177 k3178 (Nat.lt_succ_self _)
        exact LP3174 _ 0 M3166 L3167 k3168 (by decide) (Nat.lt_succ_self _)
  exact LP3164 _ 0 M L Kp.rf (by decide) (Nat.lt_succ_self _)
set_option maxHeartbeats 4000000 in
set_option maxRecDepth 20000 in
theorem t1_MenuSearch_lookUnfed {l : Launch} {ld : Nat} (hld : isLa ld) {M : gM} {L : gL} {Q : Option Value → gM → gL → gR → Prop} (Ld1 : Nat) (hLd1 : isLa Ld1) (X2 : Nat) (hX2 : isSt X2) (p3 : Int32) (p4 : Int32) (hQ : ∀ (M' : gM) (L' : gL), Kp S1 M L M' L' → Q none M' L' (rf ld)) : Tm l y_MenuSearch_lookUnfed (0, 0, 447) 447 [.ref 396, .ref Ld1, .ref X2, .int p3, .int p4] M L (rf ld) Q := by
  refine Tm.of (by decide) (Nat.le_of_ble_eq_true rfl) ?_
  show Wp l y_MenuSearch_lookUnfed (0, 0, 447) 447 0 0 0 [(0, .ref 396), (1, .ref Ld1), (2, .ref X2), (3, .int p3), (4, .int p4)] [] M L (rf ld) Q
  refine g_iconst (pc1 := 1) (v := 0) d_MenuSearch_lookUnfed_0 rfl (by decide) ?_
  refine g_istore (pc1 := 3) (lv' := [(0, .ref 396), (1, .ref Ld1), (2, .ref X2), (3, .int p3), (4, .int p4), (5, .int 0)]) d_MenuSearch_lookUnfed_1 rfl (by decide) [1, 2, 3, 4, 5, 0] rfl ?_
  have LP3209 : ∀ (f3206 : Nat) (v3210 : Int32) (M3211 : gM) (L3212 : gL), Kp S1 M L M3211 L3212 → ¬ v3210 < 0 → ((4 : Int32).toInt - v3210.toInt).toNat < f3206 → Wp l y_MenuSearch_lookUnfed (0, 0, 447) 447 0 0 3 [(0, .ref 396), (1, .ref Ld1), (2, .ref X2), (3, .int p3), (4, .int p4), (5, .int v3210)] [] M3211 L3212 (rf ld) Q := by
    intro f3206
    induction f3206 with
    | zero => intro v3210 M3211 L3212 _ _ hm3208; exact absurd hm3208 (Nat.not_lt_zero _)
    | succ f3206 ih3207 =>
      intro v3210 M3211 L3212 k3213 n3214 hm3208
      refine g_iload (pc1 := 5) d_MenuSearch_lookUnfed_3 rfl 5 rfl ?_
      refine g_aload_n (pc1 := 6) d_MenuSearch_lookUnfed_5 rfl 0 rfl ?_
      refine g_getr (pc1 := 9) d_MenuSearch_lookUnfed_6 rfl ⟨_, fo_MenuSearch_9⟩ sh_396 (by decide) (rf_396_0 ld) ?_
      refine g_alen (pc1 := 10) (v := 4) d_MenuSearch_lookUnfed_9 rfl sh_397 (by decide) (by decide) (by decide) (by decide) ?_
      refine g_icmp_ge (pc1 := 13) (tgt := 47) d_MenuSearch_lookUnfed_10 (by decide) rfl (fun h3215 => ?_) (fun h3215 => ?_)
      · refine g_return rfl d_MenuSearch_lookUnfed_47 rfl ?_
        exact hQ _ _ k3213
      · refine g_aload_n (pc1 := 14) d_MenuSearch_lookUnfed_13 rfl 0 rfl ?_
        refine g_getr (pc1 := 17) d_MenuSearch_lookUnfed_14 rfl ⟨_, fo_MenuSearch_9⟩ sh_396 (by decide) (rf_396_0 ld) ?_
        refine g_iload (pc1 := 19) d_MenuSearch_lookUnfed_17 rfl 5 rfl ?_
        refine g_aload_n (pc1 := 20) d_MenuSearch_lookUnfed_19 rfl 2 rfl ?_
        refine g_aload_n (pc1 := 21) d_MenuSearch_lookUnfed_20 rfl 1 rfl ?_
        refine g_iload_n (pc1 := 22) d_MenuSearch_lookUnfed_21 rfl 3 rfl ?_
        refine g_iload (pc1 := 24) d_MenuSearch_lookUnfed_22 rfl 5 rfl ?_
        refine g_callV0 (pc1 := 27) (As := [.ref Ld1, .int p3, .int v3210]) (rest := [.int v3210, .ref 397]) d_MenuSearch_lookUnfed_24 rfl mo_MenuSearch_63 mi_State_freeOf mv_State_freeOf rfl (shSt_0 hX2) (ltSt_0 hX2) (by decide) rfl rfl (Nat.le_of_ble_eq_true rfl) ?_
        refine t1_State_freeOf hld X2 hX2 Ld1 hLd1 _ _ (fun r3216 M3217 L3218 k3219 => ?_)
        refine g_iload (pc1 := 29) d_MenuSearch_lookUnfed_27 rfl 4 rfl ?_
        refine g_iand (pc1 := 30) d_MenuSearch_lookUnfed_29 rfl ?_
        refine g_iload (pc1 := 32) d_MenuSearch_lookUnfed_30 rfl 4 rfl ?_
        refine g_icmp_ne (pc1 := 35) (tgt := 39) d_MenuSearch_lookUnfed_32 (by decide) rfl (fun h3220 => ?_) (fun h3220 => ?_)
        · refine g_iconst (pc1 := 40) (v := 0) d_MenuSearch_lookUnfed_39 rfl (by decide) ?_
          refine g_zast (pc1 := 41) d_MenuSearch_lookUnfed_40 rfl sh_397 (by decide) (vin_of n3214 h3215 (by decide)) ?_
          refine Wp.topM (fun M3221 eM3221 => ?_)
          obtain ⟨x3222, ex3222⟩ : ∃ y : Int32, y = v3210 + 1 := ⟨_, rfl⟩
          refine g_iinc (pc1 := 44) (v := x3222) (lv' := [(0, .ref 396), (1, .ref Ld1), (2, .ref X2), (3, .int p3), (4, .int p4), (5, .int x3222)]) d_MenuSearch_lookUnfed_41 rfl 5 rfl (by rw [ex3222]; rfl) (by decide) [1, 2, 3, 4, 5, 0] rfl ?_
          refine g_goto (tgt := 3) d_MenuSearch_lookUnfed_44 (by decide) ?_
          exact ih3207 x3222 M3221 L3218 (Kp.wM (Kp.trans k3213 (Kp.mono k3219 S0_S1)) rfl eM3221) (nn_up (y := (4 : Int32)) h3215 ex3222 n3214) (md_up h3215 ex3222 hm3208)
        · refine g_iconst (pc1 := 36) (v := 1) d_MenuSearch_lookUnfed_35 rfl (by decide) ?_
          refine g_goto (tgt := 40) d_MenuSearch_lookUnfed_36 (by decide) ?_
          refine g_zast (pc1 := 41) d_MenuSearch_lookUnfed_40 rfl sh_397 (by decide) (vin_of n3214 h3215 (by decide)) ?_
          refine Wp.topM (fun M3223 eM3223 => ?_)
          obtain ⟨x3224, ex3224⟩ : ∃ y : Int32, y = v3210 + 1 := ⟨_, rfl⟩
          refine g_iinc (pc1 := 44) (v := x3224) (lv' := [(0, .ref 396), (1, .ref Ld1), (2, .ref X2), (3, .int p3), (4, .int p4), (5, .int x3224)]) d_MenuSearch_lookUnfed_41 rfl 5 rfl (by rw [ex3224]; rfl) (by decide) [1, 2, 3, 4, 5, 0] rfl ?_
          refine g_goto (tgt := 3) d_MenuSearch_lookUnfed_44 (by decide) ?_
          exact ih3207 x3224 M3223 L3218 (Kp.wM (Kp.trans k3213 (Kp.mono k3219 S0_S1)) rfl eM3223) (nn_up (y := (4 : Int32)) h3215 ex3224 n3214) (md_up h3215 ex3224 hm3208)
  exact LP3209 _ 0 M L Kp.rf (by decide) (Nat.lt_succ_self _)
set_option maxHeartbeats 4000000 in
set_option maxRecDepth 20000 in
theorem t1_PotSearch_find {l : Launch} {ld : Nat} (hld : isLa ld) {M : gM} {L : gL} {Q : Option Value → gM → gL → gR → Prop} (Ld1 : Nat) (hLd1 : isLa Ld1) (X2 : Nat) (hX2 : isSt X2) (p3 : Int32) (p4 : Int32) (p5 : Int32) (hQ : ∀ (r : Int32) (M' : gM) (L' : gL), (r = 0 ∨ r = 1) → Kp S1 M L M' L' → Q (some (.int r)) M' L' (rf ld)) : Tm l y_PotSearch_find (0, 0, 447) 447 [.ref 391, .ref Ld1, .ref X2, .int p3, .int p4, .int p5] M L (rf ld) Q := by
  refine Tm.of (by decide) (Nat.le_of_ble_eq_true rfl) ?_
  show Wp l y_PotSearch_find (0, 0, 447) 447 0 0 0 [(0, .ref 391), (1, .ref Ld1), (2, .ref X2), (3, .int p3), (4, .int p4), (5, .int p5)] [] M L (rf ld) Q
  refine g_aload_n (pc1 := 1) d_PotSearch_find_0 rfl 0 rfl ?_
  refine g_getr (pc1 := 4) d_PotSearch_find_1 rfl ⟨_, fo_PotSearch_9⟩ sh_391 (by decide) (rf_391_0 ld) ?_
  refine g_iconst (pc1 := 5) (v := 0) d_PotSearch_find_4 rfl (by decide) ?_
  refine g_iload_n (pc1 := 6) d_PotSearch_find_5 rfl 3 rfl ?_
  refine g_callS0 (pc1 := 9) (As := [.ref 392, .int 0, .int p3]) (rest := []) d_PotSearch_find_6 rfl mo_PotSearch_24 ms_Main_put (by decide) rfl rfl (Nat.le_of_ble_eq_true rfl) ?_
  refine t1_Main_put hld 392 sh_392 (by decide) (by decide) _ _ (fun  M3225 L3226 k3227 => ?_)
  refine g_aload_n (pc1 := 10) d_PotSearch_find_9 rfl 0 rfl ?_
  refine g_getr (pc1 := 13) d_PotSearch_find_10 rfl ⟨_, fo_PotSearch_9⟩ sh_391 (by decide) (rf_391_0 ld) ?_
  refine g_iconst (pc1 := 14) (v := 1) d_PotSearch_find_13 rfl (by decide) ?_
  refine g_iload (pc1 := 16) d_PotSearch_find_14 rfl 4 rfl ?_
  refine g_callS0 (pc1 := 19) (As := [.ref 392, .int 1, .int p4]) (rest := []) d_PotSearch_find_16 rfl mo_PotSearch_24 ms_Main_put (by decide) rfl rfl (Nat.le_of_ble_eq_true rfl) ?_
  refine t1_Main_put hld 392 sh_392 (by decide) (by decide) _ _ (fun  M3228 L3229 k3230 => ?_)
  refine g_aload_n (pc1 := 20) d_PotSearch_find_19 rfl 0 rfl ?_
  refine g_getr (pc1 := 23) d_PotSearch_find_20 rfl ⟨_, fo_PotSearch_9⟩ sh_391 (by decide) (rf_391_0 ld) ?_
  refine g_iconst (pc1 := 24) (v := 2) d_PotSearch_find_23 rfl (by decide) ?_
  refine g_iload (pc1 := 26) d_PotSearch_find_24 rfl 5 rfl ?_
  refine g_callS0 (pc1 := 29) (As := [.ref 392, .int 2, .int p5]) (rest := []) d_PotSearch_find_26 rfl mo_PotSearch_24 ms_Main_put (by decide) rfl rfl (Nat.le_of_ble_eq_true rfl) ?_
  refine t1_Main_put hld 392 sh_392 (by decide) (by decide) _ _ (fun  M3231 L3232 k3233 => ?_)
  refine g_aload_n (pc1 := 30) d_PotSearch_find_29 rfl 0 rfl ?_
  refine g_iconst (pc1 := 31) (v := 0) d_PotSearch_find_30 rfl (by decide) ?_
  refine g_putz (pc1 := 34) d_PotSearch_find_31 rfl fo_PotSearch_28 po_10_9_0 rfl sh_391 (by decide) ?_
  refine Wp.topM (fun M3234 eM3234 => ?_)
  refine g_aload_n (pc1 := 35) d_PotSearch_find_34 rfl 0 rfl ?_
  refine g_aload_n (pc1 := 36) d_PotSearch_find_35 rfl 1 rfl ?_
  refine g_getr (pc1 := 39) d_PotSearch_find_36 rfl ⟨_, fo_PotSearch_32⟩ (shLa_0 hLd1) (ltLa_0 hLd1) (rfLa_13 ld hLd1) ?_
  refine g_iconst (pc1 := 40) (v := 1) d_PotSearch_find_39 rfl (by decide) ?_
  refine g_callV0 (pc1 := 43) (As := [.int 1]) (rest := [.ref 391]) d_PotSearch_find_40 rfl mo_PotSearch_38 mi_Law_looksAt mv_Law_looksAt rfl (shLw_0 (isLw_9 hLd1)) (ltLw_0 (isLw_9 hLd1)) (by decide) rfl rfl (Nat.le_of_ble_eq_true rfl) ?_
  refine t1_Law_looksAt hld (Ld1 + 9) (isLw_9 hLd1) _ (fun r3235 hr3235 => ?_)
  refine g_if_eq (pc1 := 46) (tgt := 51) d_PotSearch_find_43 (by decide) rfl (fun h3236 => ?_) (fun h3236 => ?_)
  · refine g_iconst (pc1 := 52) (v := 1) d_PotSearch_find_51 rfl (by decide) ?_
    refine g_puti (pc1 := 55) d_PotSearch_find_52 rfl fo_PotSearch_44 (po_10_10 _) sh_391 (by decide) ?_
    refine Wp.topM (fun M3237 eM3237 => ?_)
    refine g_aload_n (pc1 := 56) d_PotSearch_find_55 rfl 0 rfl ?_
    refine g_aload_n (pc1 := 57) d_PotSearch_find_56 rfl 2 rfl ?_
    refine g_iconst (pc1 := 58) (v := 0) d_PotSearch_find_57 rfl (by decide) ?_
    refine g_bipush (pc1 := 60) (v := 6) d_PotSearch_find_58 rfl (by decide) ?_
    refine g_callV0 (pc1 := 63) (As := [.ref X2, .int 0, .int 6]) (rest := []) d_PotSearch_find_60 rfl mo_PotSearch_48 mi_PotSearch_fillFrom mv_PotSearch_fillFrom rfl sh_391 (by decide) (by decide) rfl rfl (Nat.le_of_ble_eq_true rfl) ?_
    refine t1_PotSearch_fillFrom hld X2 hX2 _ _ (fun  M3238 L3239 k3240 => ?_)
    refine g_iconst (pc1 := 64) (v := 0) d_PotSearch_find_63 rfl (by decide) ?_
    refine g_istore (pc1 := 66) (lv' := [(0, .ref 391), (1, .ref Ld1), (2, .ref X2), (3, .int p3), (4, .int p4), (5, .int p5), (6, .int 0)]) d_PotSearch_find_64 rfl (by decide) [1, 2, 3, 4, 5, 6, 0] rfl ?_
    have LP3244 : ∀ (f3241 : Nat) (v3245 : Int32) (M3246 : gM) (L3247 : gL), Kp S1 M L M3246 L3247 → ¬ v3245 < 0 → ((924 : Int32).toInt - v3245.toInt).toNat < f3241 → Wp l y_PotSearch_find (0, 0, 447) 447 0 0 66 [(0, .ref 391), (1, .ref Ld1), (2, .ref X2), (3, .int p3), (4, .int p4), (5, .int p5), (6, .int v3245)] [] M3246 L3247 (rf ld) Q := by
      intro f3241
      induction f3241 with
      | zero => intro v3245 M3246 L3247 _ _ hm3243; exact absurd hm3243 (Nat.not_lt_zero _)
      | succ f3241 ih3242 =>
        intro v3245 M3246 L3247 k3248 n3249 hm3243
        refine g_iload (pc1 := 68) d_PotSearch_find_66 rfl 6 rfl ?_
        refine g_sipush (pc1 := 71) (v := 924) d_PotSearch_find_68 rfl (by decide) ?_
        refine g_icmp_ge (pc1 := 74) (tgt := 109) d_PotSearch_find_71 (by decide) rfl (fun h3250 => ?_) (fun h3250 => ?_)
        · refine g_aload_n (pc1 := 110) d_PotSearch_find_109 rfl 0 rfl ?_
          refine g_getz (pc1 := 113) d_PotSearch_find_110 rfl ⟨_, fo_PotSearch_28⟩ sh_391 (by decide) ?_
          refine g_ireturn (Or.inr ⟨rfl, nar01 (b01_01 _)⟩) d_PotSearch_find_113 rfl ?_
          exact hQ _ _ _ (b01_01 _) k3248
        · refine g_aload_n (pc1 := 75) d_PotSearch_find_74 rfl 0 rfl ?_
          refine g_aload_n (pc1 := 76) d_PotSearch_find_75 rfl 1 rfl ?_
          refine g_callV0 (pc1 := 79) (As := [.ref Ld1]) (rest := []) d_PotSearch_find_76 rfl mo_PotSearch_52 mi_PotSearch_weigh mv_PotSearch_weigh rfl sh_391 (by decide) (by decide) rfl rfl (Nat.le_of_ble_eq_true rfl) ?_
          refine t1_PotSearch_weigh hld Ld1 hLd1 (fun  M3251 L3252 k3253 => ?_)
          refine g_aload_n (pc1 := 80) d_PotSearch_find_79 rfl 0 rfl ?_
          refine g_geti (pc1 := 83) d_PotSearch_find_80 rfl ⟨_, fo_PotSearch_56⟩ sh_391 (by decide) ?_
          refine g_if_ne (pc1 := 86) (tgt := 89) d_PotSearch_find_83 (by decide) rfl (fun h3254 => ?_) (fun h3254 => ?_)
          · refine g_aload_n (pc1 := 90) d_PotSearch_find_89 rfl 0 rfl ?_
            refine g_aload_n (pc1 := 91) d_PotSearch_find_90 rfl 1 rfl ?_
            refine g_aload_n (pc1 := 92) d_PotSearch_find_91 rfl 2 rfl ?_
            refine g_geti (pc1 := 95) d_PotSearch_find_92 rfl ⟨_, fo_PotSearch_59⟩ (shSt_0 hX2) (ltSt_0 hX2) ?_
            refine g_callV0 (pc1 := 98) (As := [.ref Ld1, .int (M3251 X2 0)]) (rest := []) d_PotSearch_find_95 rfl mo_PotSearch_64 mi_PotSearch_tryHeats mv_PotSearch_tryHeats rfl sh_391 (by decide) (by decide) rfl rfl (Nat.le_of_ble_eq_true rfl) ?_
            refine t1_PotSearch_tryHeats hld Ld1 hLd1 _ (fun  M3255 L3256 k3257 => ?_)
            refine g_aload_n (pc1 := 99) d_PotSearch_find_98 rfl 0 rfl ?_
            refine g_aload_n (pc1 := 100) d_PotSearch_find_99 rfl 2 rfl ?_
            refine g_callV0 (pc1 := 103) (As := [.ref X2]) (rest := []) d_PotSearch_find_100 rfl mo_PotSearch_68 mi_PotSearch_stepDown mv_PotSearch_stepDown rfl sh_391 (by decide) (by decide) rfl rfl (Nat.le_of_ble_eq_true rfl) ?_
            refine t1_PotSearch_stepDown hld X2 hX2 (fun  M3258 L3259 k3260 => ?_)
            obtain ⟨x3261, ex3261⟩ : ∃ y : Int32, y = v3245 + 1 := ⟨_, rfl⟩
            refine g_iinc (pc1 := 106) (v := x3261) (lv' := [(0, .ref 391), (1, .ref Ld1), (2, .ref X2), (3, .int p3), (4, .int p4), (5, .int p5), (6, .int x3261)]) d_PotSearch_find_103 rfl 6 rfl (by rw [ex3261]; rfl) (by decide) [1, 2, 3, 4, 5, 6, 0] rfl ?_
            refine g_goto (tgt := 66) d_PotSearch_find_106 (by decide) ?_
            exact ih3242 x3261 M3258 L3259 (Kp.trans (Kp.trans (Kp.trans k3248 k3253) k3257) k3260) (nn_up (y := (924 : Int32)) h3250 ex3261 n3249) (md_up h3250 ex3261 hm3243)
          · refine g_goto (tgt := 109) d_PotSearch_find_86 (by decide) ?_
            refine g_aload_n (pc1 := 110) d_PotSearch_find_109 rfl 0 rfl ?_
            refine g_getz (pc1 := 113) d_PotSearch_find_110 rfl ⟨_, fo_PotSearch_28⟩ sh_391 (by decide) ?_
            refine g_ireturn (Or.inr ⟨rfl, nar01 (b01_01 _)⟩) d_PotSearch_find_113 rfl ?_
            exact hQ _ _ _ (b01_01 _) (Kp.trans k3248 k3253)
    exact LP3244 _ 0 M3238 L3239 (Kp.trans (Kp.wM (Kp.wM (Kp.trans (Kp.trans (Kp.trans Kp.rf (Kp.mono k3227 (one_S rfl))) (Kp.mono k3230 (one_S rfl))) (Kp.mono k3233 (one_S rfl))) rfl eM3234) rfl eM3237) k3240) (by decide) (Nat.lt_succ_self _)
  · refine g_bipush (pc1 := 48) (v := 10) d_PotSearch_find_46 rfl (by decide) ?_
    refine g_goto (tgt := 52) d_PotSearch_find_48 (by decide) ?_
    refine g_puti (pc1 := 55) d_PotSearch_find_52 rfl fo_PotSearch_44 (po_10_10 _) sh_391 (by decide) ?_
    refine Wp.topM (fun M3262 eM3262 => ?_)
    refine g_aload_n (pc1 := 56) d_PotSearch_find_55 rfl 0 rfl ?_
    refine g_aload_n (pc1 := 57) d_PotSearch_find_56 rfl 2 rfl ?_
    refine g_iconst (pc1 := 58) (v := 0) d_PotSearch_find_57 rfl (by decide) ?_
    refine g_bipush (pc1 := 60) (v := 6) d_PotSearch_find_58 rfl (by decide) ?_
    refine g_callV0 (pc1 := 63) (As := [.ref X2, .int 0, .int 6]) (rest := []) d_PotSearch_find_60 rfl mo_PotSearch_48 mi_PotSearch_fillFrom mv_PotSearch_fillFrom rfl sh_391 (by decide) (by decide) rfl rfl (Nat.le_of_ble_eq_true rfl) ?_
    refine t1_PotSearch_fillFrom hld X2 hX2 _ _ (fun  M3263 L3264 k3265 => ?_)
    refine g_iconst (pc1 := 64) (v := 0) d_PotSearch_find_63 rfl (by decide) ?_
    refine g_istore (pc1 := 66) (lv' := [(0, .ref 391), (1, .ref Ld1), (2, .ref X2), (3, .int p3), (4, .int p4), (5, .int p5), (6, .int 0)]) d_PotSearch_find_64 rfl (by decide) [1, 2, 3, 4, 5, 6, 0] rfl ?_
    have LP3269 : ∀ (f3266 : Nat) (v3270 : Int32) (M3271 : gM) (L3272 : gL), Kp S1 M L M3271 L3272 → ¬ v3270 < 0 → ((924 : Int32).toInt - v3270.toInt).toNat < f3266 → Wp l y_PotSearch_find (0, 0, 447) 447 0 0 66 [(0, .ref 391), (1, .ref Ld1), (2, .ref X2), (3, .int p3), (4, .int p4), (5, .int p5), (6, .int v3270)] [] M3271 L3272 (rf ld) Q := by
      intro f3266
      induction f3266 with
      | zero => intro v3270 M3271 L3272 _ _ hm3268; exact absurd hm3268 (Nat.not_lt_zero _)
      | succ f3266 ih3267 =>
        intro v3270 M3271 L3272 k3273 n3274 hm3268
        refine g_iload (pc1 := 68) d_PotSearch_find_66 rfl 6 rfl ?_
        refine g_sipush (pc1 := 71) (v := 924) d_PotSearch_find_68 rfl (by decide) ?_
        refine g_icmp_ge (pc1 := 74) (tgt := 109) d_PotSearch_find_71 (by decide) rfl (fun h3275 => ?_) (fun h3275 => ?_)
        · refine g_aload_n (pc1 := 110) d_PotSearch_find_109 rfl 0 rfl ?_
          refine g_getz (pc1 := 113) d_PotSearch_find_110 rfl ⟨_, fo_PotSearch_28⟩ sh_391 (by decide) ?_
          refine g_ireturn (Or.inr ⟨rfl, nar01 (b01_01 _)⟩) d_PotSearch_find_113 rfl ?_
          exact hQ _ _ _ (b01_01 _) k3273
        · refine g_aload_n (pc1 := 75) d_PotSearch_find_74 rfl 0 rfl ?_
          refine g_aload_n (pc1 := 76) d_PotSearch_find_75 rfl 1 rfl ?_
          refine g_callV0 (pc1 := 79) (As := [.ref Ld1]) (rest := []) d_PotSearch_find_76 rfl mo_PotSearch_52 mi_PotSearch_weigh mv_PotSearch_weigh rfl sh_391 (by decide) (by decide) rfl rfl (Nat.le_of_ble_eq_true rfl) ?_
          refine t1_PotSearch_weigh hld Ld1 hLd1 (fun  M3276 L3277 k3278 => ?_)
          refine g_aload_n (pc1 := 80) d_PotSearch_find_79 rfl 0 rfl ?_
          refine g_geti (pc1 := 83) d_PotSearch_find_80 rfl ⟨_, fo_PotSearch_56⟩ sh_391 (by decide) ?_
          refine g_if_ne (pc1 := 86) (tgt := 89) d_PotSearch_find_83 (by decide) rfl (fun h3279 => ?_) (fun h3279 => ?_)
          · refine g_aload_n (pc1 := 90) d_PotSearch_find_89 rfl 0 rfl ?_
            refine g_aload_n (pc1 := 91) d_PotSearch_find_90 rfl 1 rfl ?_
            refine g_aload_n (pc1 := 92) d_PotSearch_find_91 rfl 2 rfl ?_
            refine g_geti (pc1 := 95) d_PotSearch_find_92 rfl ⟨_, fo_PotSearch_59⟩ (shSt_0 hX2) (ltSt_0 hX2) ?_
            refine g_callV0 (pc1 := 98) (As := [.ref Ld1, .int (M3276 X2 0)]) (rest := []) d_PotSearch_find_95 rfl mo_PotSearch_64 mi_PotSearch_tryHeats mv_PotSearch_tryHeats rfl sh_391 (by decide) (by decide) rfl rfl (Nat.le_of_ble_eq_true rfl) ?_
            refine t1_PotSearch_tryHeats hld Ld1 hLd1 _ (fun  M3280 L3281 k3282 => ?_)
            refine g_aload_n (pc1 := 99) d_PotSearch_find_98 rfl 0 rfl ?_
            refine g_aload_n (pc1 := 100) d_PotSearch_find_99 rfl 2 rfl ?_
            refine g_callV0 (pc1 := 103) (As := [.ref X2]) (rest := []) d_PotSearch_find_100 rfl mo_PotSearch_68 mi_PotSearch_stepDown mv_PotSearch_stepDown rfl sh_391 (by decide) (by decide) rfl rfl (Nat.le_of_ble_eq_true rfl) ?_
            refine t1_PotSearch_stepDown hld X2 hX2 (fun  M3283 L3284 k3285 => ?_)
            obtain ⟨x3286, ex3286⟩ : ∃ y : Int32, y = v3270 + 1 := ⟨_, rfl⟩
            refine g_iinc (pc1 := 106) (v := x3286) (lv' := [(0, .ref 391), (1, .ref Ld1), (2, .ref X2), (3, .int p3), (4, .int p4), (5, .int p5), (6, .int x3286)]) d_PotSearch_find_103 rfl 6 rfl (by rw [ex3286]; rfl) (by decide) [1, 2, 3, 4, 5, 6, 0] rfl ?_
            refine g_goto (tgt := 66) d_PotSearch_find_106 (by decide) ?_
            exact ih3267 x3286 M3283 L3284 (Kp.trans (Kp.trans (Kp.trans k3273 k3278) k3282) k3285) (nn_up (y := (924 : Int32)) h3275 ex3286 n3274) (md_up h3275 ex3286 hm3268)
          · refine g_goto (tgt := 109) d_PotSearch_find_86 (by decide) ?_
            refine g_aload_n (pc1 := 110) d_PotSearch_find_109 rfl 0 rfl ?_
            refine g_getz (pc1 := 113) d_PotSearch_find_110 rfl ⟨_, fo_PotSearch_28⟩ sh_391 (by decide) ?_
            refine g_ireturn (Or.inr ⟨rfl, nar01 (b01_01 _)⟩) d_PotSearch_find_113 rfl ?_
            exact hQ _ _ _ (b01_01 _) (Kp.trans k3273 k3278)
    exact LP3269 _ 0 M3263 L3264 (Kp.trans (Kp.wM (Kp.wM (Kp.trans (Kp.trans (Kp.trans Kp.rf (Kp.mono k3227 (one_S rfl))) (Kp.mono k3230 (one_S rfl))) (Kp.mono k3233 (one_S rfl))) rfl eM3234) rfl eM3262) k3265) (by decide) (Nat.lt_succ_self _)
set_option maxHeartbeats 4000000 in
set_option maxRecDepth 20000 in
theorem t1_Reader_parse {l : Launch} {ld : Nat} (hld : isLa ld) {M : gM} {L : gL} {Q : Option Value → gM → gL → gR → Prop} (Ld2 : Nat) (hLd2 : isLa Ld2) (hQ : ∀ (r : Int32) (M' : gM) (L' : gL), Kp S2 M L M' L' → Q (some (.int r)) M' L' (rf ld)) : Tm l y_Reader_parse (0, 0, 447) 447 [.ref 3, .ref 1, .ref Ld2] M L (rf ld) Q := by
  refine Tm.of (by decide) (Nat.le_of_ble_eq_true rfl) ?_
  show Wp l y_Reader_parse (0, 0, 447) 447 0 0 0 [(0, .ref 3), (1, .ref 1), (2, .ref Ld2)] [] M L (rf ld) Q
  refine g_aload_n (pc1 := 1) d_Reader_parse_0 rfl 0 rfl ?_
  refine g_getr (pc1 := 4) d_Reader_parse_1 rfl ⟨_, fo_Reader_12⟩ sh_3 (by decide) (rf_3_0 ld) ?_
  refine g_aload_n (pc1 := 5) d_Reader_parse_4 rfl 1 rfl ?_
  refine g_callV0 (pc1 := 8) (As := [.ref 1]) (rest := []) d_Reader_parse_5 rfl mo_Reader_29 mi_Tokens_cut mv_Tokens_cut rfl sh_4 (by decide) (by decide) rfl rfl (Nat.le_of_ble_eq_true rfl) ?_
  refine t1_Tokens_cut hld  (fun  M3287 L3288 k3289 => ?_)
  refine g_aload_n (pc1 := 9) d_Reader_parse_8 rfl 2 rfl ?_
  refine g_callV0 (pc1 := 12) (As := []) (rest := []) d_Reader_parse_9 rfl mo_Reader_33 mi_Land_clear mv_Land_clear rfl (shLa_0 hLd2) (ltLa_0 hLd2) (by decide) rfl rfl (Nat.le_of_ble_eq_true rfl) ?_
  refine t1_Land_clear hld Ld2 hLd2 (fun  M3290 L3291 k3292 => ?_)
  refine g_aload_n (pc1 := 13) d_Reader_parse_12 rfl 0 rfl ?_
  refine g_iconst (pc1 := 14) (v := 0) d_Reader_parse_13 rfl (by decide) ?_
  refine g_puti (pc1 := 17) d_Reader_parse_14 rfl fo_Reader_38 (po_2_1 _) sh_3 (by decide) ?_
  refine Wp.topM (fun M3293 eM3293 => ?_)
  refine g_aload_n (pc1 := 18) d_Reader_parse_17 rfl 0 rfl ?_
  refine g_iconst (pc1 := 19) (v := 0) d_Reader_parse_18 rfl (by decide) ?_
  refine g_puti (pc1 := 22) d_Reader_parse_19 rfl fo_Reader_42 (po_2_2 _) sh_3 (by decide) ?_
  refine Wp.topM (fun M3294 eM3294 => ?_)
  refine g_aload_n (pc1 := 23) d_Reader_parse_22 rfl 0 rfl ?_
  refine g_iconst (pc1 := 24) (v := 0) d_Reader_parse_23 rfl (by decide) ?_
  refine g_puti (pc1 := 27) d_Reader_parse_24 rfl fo_Reader_45 (po_2_4 _) sh_3 (by decide) ?_
  refine Wp.topM (fun M3295 eM3295 => ?_)
  refine g_aload_n (pc1 := 28) d_Reader_parse_27 rfl 0 rfl ?_
  refine g_iconst (pc1 := 29) (v := 0) d_Reader_parse_28 rfl (by decide) ?_
  refine g_puti (pc1 := 32) d_Reader_parse_29 rfl fo_Reader_48 (po_2_8 _) sh_3 (by decide) ?_
  refine Wp.topM (fun M3296 eM3296 => ?_)
  refine g_iconst (pc1 := 33) (v := 0) d_Reader_parse_32 rfl (by decide) ?_
  refine g_istore_n (pc1 := 34) (lv' := [(0, .ref 3), (1, .ref 1), (2, .ref Ld2), (3, .int 0)]) d_Reader_parse_33 rfl rfl (by decide) [1, 2, 3, 0] rfl ?_
  have LP3300 : ∀ (f3297 : Nat) (v3301 : Int32) (M3302 : gM) (L3303 : gL), Kp S2 M L M3302 L3303 → ¬ v3301 < 0 → ((400 : Int32).toInt + 1 - v3301.toInt).toNat < f3297 → Wp l y_Reader_parse (0, 0, 447) 447 0 0 34 [(0, .ref 3), (1, .ref 1), (2, .ref Ld2), (3, .int v3301)] [] M3302 L3303 (rf ld) Q := by
    intro f3297
    induction f3297 with
    | zero => intro v3301 M3302 L3303 _ _ hm3299; exact absurd hm3299 (Nat.not_lt_zero _)
    | succ f3297 ih3298 =>
      intro v3301 M3302 L3303 k3304 n3305 hm3299
      refine g_iload_n (pc1 := 35) d_Reader_parse_34 rfl 3 rfl ?_
      refine g_sipush (pc1 := 38) (v := 400) d_Reader_parse_35 rfl (by decide) ?_
      refine g_icmp_gt (pc1 := 41) (tgt := 215) d_Reader_parse_38 (by decide) rfl (fun h3306 => ?_) (fun h3306 => ?_)
      · refine g_aload_n (pc1 := 216) d_Reader_parse_215 rfl 0 rfl ?_
        refine g_geti (pc1 := 219) d_Reader_parse_216 rfl ⟨_, fo_Reader_42⟩ sh_3 (by decide) ?_
        refine g_if_ne (pc1 := 222) (tgt := 238) d_Reader_parse_219 (by decide) rfl (fun h3307 => ?_) (fun h3307 => ?_)
        · refine g_aload_n (pc1 := 239) d_Reader_parse_238 rfl 0 rfl ?_
          refine g_geti (pc1 := 242) d_Reader_parse_239 rfl ⟨_, fo_Reader_42⟩ sh_3 (by decide) ?_
          refine g_ireturn (Or.inl rfl) d_Reader_parse_242 rfl ?_
          exact hQ _ _ _ k3304
        · refine g_aload_n (pc1 := 223) d_Reader_parse_222 rfl 0 rfl ?_
          refine g_aload_n (pc1 := 224) d_Reader_parse_223 rfl 0 rfl ?_
          refine g_geti (pc1 := 227) d_Reader_parse_224 rfl ⟨_, fo_Reader_45⟩ sh_3 (by decide) ?_
          refine g_puti (pc1 := 230) d_Reader_parse_227 rfl fo_Reader_42 (po_2_2 _) sh_3 (by decide) ?_
          refine Wp.topM (fun M3308 eM3308 => ?_)
          refine g_aload_n (pc1 := 231) d_Reader_parse_230 rfl 0 rfl ?_
          refine g_aload_n (pc1 := 232) d_Reader_parse_231 rfl 0 rfl ?_
          refine g_geti (pc1 := 235) d_Reader_parse_232 rfl ⟨_, fo_Reader_99⟩ sh_3 (by decide) ?_
          refine g_puti (pc1 := 238) d_Reader_parse_235 rfl fo_Reader_102 (po_2_3 _) sh_3 (by decide) ?_
          refine Wp.topM (fun M3309 eM3309 => ?_)
          refine g_aload_n (pc1 := 239) d_Reader_parse_238 rfl 0 rfl ?_
          refine g_geti (pc1 := 242) d_Reader_parse_239 rfl ⟨_, fo_Reader_42⟩ sh_3 (by decide) ?_
          refine g_ireturn (Or.inl rfl) d_Reader_parse_242 rfl ?_
          exact hQ _ _ _ (Kp.wM (Kp.wM k3304 rfl eM3308) rfl eM3309)
      · refine g_aload_n (pc1 := 42) d_Reader_parse_41 rfl 0 rfl ?_
        refine g_geti (pc1 := 45) d_Reader_parse_42 rfl ⟨_, fo_Reader_42⟩ sh_3 (by decide) ?_
        refine g_if_ne (pc1 := 48) (tgt := 215) d_Reader_parse_45 (by decide) rfl (fun h3310 => ?_) (fun h3310 => ?_)
        · refine g_aload_n (pc1 := 216) d_Reader_parse_215 rfl 0 rfl ?_
          refine g_geti (pc1 := 219) d_Reader_parse_216 rfl ⟨_, fo_Reader_42⟩ sh_3 (by decide) ?_
          refine g_if_ne (pc1 := 222) (tgt := 238) d_Reader_parse_219 (by decide) rfl (fun h3311 => ?_) (fun h3311 => ?_)
          · refine g_aload_n (pc1 := 239) d_Reader_parse_238 rfl 0 rfl ?_
            refine g_geti (pc1 := 242) d_Reader_parse_239 rfl ⟨_, fo_Reader_42⟩ sh_3 (by decide) ?_
            refine g_ireturn (Or.inl rfl) d_Reader_parse_242 rfl ?_
            exact hQ _ _ _ k3304
          · refine g_aload_n (pc1 := 223) d_Reader_parse_222 rfl 0 rfl ?_
            refine g_aload_n (pc1 := 224) d_Reader_parse_223 rfl 0 rfl ?_
            refine g_geti (pc1 := 227) d_Reader_parse_224 rfl ⟨_, fo_Reader_45⟩ sh_3 (by decide) ?_
            refine g_puti (pc1 := 230) d_Reader_parse_227 rfl fo_Reader_42 (po_2_2 _) sh_3 (by decide) ?_
            refine Wp.topM (fun M3312 eM3312 => ?_)
            refine g_aload_n (pc1 := 231) d_Reader_parse_230 rfl 0 rfl ?_
            refine g_aload_n (pc1 := 232) d_Reader_parse_231 rfl 0 rfl ?_
            refine g_geti (pc1 := 235) d_Reader_parse_232 rfl ⟨_, fo_Reader_99⟩ sh_3 (by decide) ?_
            refine g_puti (pc1 := 238) d_Reader_parse_235 rfl fo_Reader_102 (po_2_3 _) sh_3 (by decide) ?_
            refine Wp.topM (fun M3313 eM3313 => ?_)
            refine g_aload_n (pc1 := 239) d_Reader_parse_238 rfl 0 rfl ?_
            refine g_geti (pc1 := 242) d_Reader_parse_239 rfl ⟨_, fo_Reader_42⟩ sh_3 (by decide) ?_
            refine g_ireturn (Or.inl rfl) d_Reader_parse_242 rfl ?_
            exact hQ _ _ _ (Kp.wM (Kp.wM k3304 rfl eM3312) rfl eM3313)
        · refine g_aload_n (pc1 := 49) d_Reader_parse_48 rfl 0 rfl ?_
          refine g_iconst (pc1 := 50) (v := 0) d_Reader_parse_49 rfl (by decide) ?_
          refine g_callV0 (pc1 := 53) (As := [.int 0]) (rest := []) d_Reader_parse_50 rfl mo_Reader_51 mi_Reader_is mv_Reader_is rfl sh_3 (by decide) (by decide) rfl rfl (Nat.le_of_ble_eq_true rfl) ?_
          refine t1_Reader_is hld _ (fun r3314 hr3314 => ?_)
          refine g_if_ne (pc1 := 56) (tgt := 215) d_Reader_parse_53 (by decide) rfl (fun h3315 => ?_) (fun h3315 => ?_)
          · refine g_aload_n (pc1 := 216) d_Reader_parse_215 rfl 0 rfl ?_
            refine g_geti (pc1 := 219) d_Reader_parse_216 rfl ⟨_, fo_Reader_42⟩ sh_3 (by decide) ?_
            refine g_if_ne (pc1 := 222) (tgt := 238) d_Reader_parse_219 (by decide) rfl (fun h3316 => ?_) (fun h3316 => ?_)
            · refine g_aload_n (pc1 := 239) d_Reader_parse_238 rfl 0 rfl ?_
              refine g_geti (pc1 := 242) d_Reader_parse_239 rfl ⟨_, fo_Reader_42⟩ sh_3 (by decide) ?_
              refine g_ireturn (Or.inl rfl) d_Reader_parse_242 rfl ?_
              exact hQ _ _ _ k3304
            · refine g_aload_n (pc1 := 223) d_Reader_parse_222 rfl 0 rfl ?_
              refine g_aload_n (pc1 := 224) d_Reader_parse_223 rfl 0 rfl ?_
              refine g_geti (pc1 := 227) d_Reader_parse_224 rfl ⟨_, fo_Reader_45⟩ sh_3 (by decide) ?_
              refine g_puti (pc1 := 230) d_Reader_parse_227 rfl fo_Reader_42 (po_2_2 _) sh_3 (by decide) ?_
              refine Wp.topM (fun M3317 eM3317 => ?_)
              refine g_aload_n (pc1 := 231) d_Reader_parse_230 rfl 0 rfl ?_
              refine g_aload_n (pc1 := 232) d_Reader_parse_231 rfl 0 rfl ?_
              refine g_geti (pc1 := 235) d_Reader_parse_232 rfl ⟨_, fo_Reader_99⟩ sh_3 (by decide) ?_
              refine g_puti (pc1 := 238) d_Reader_parse_235 rfl fo_Reader_102 (po_2_3 _) sh_3 (by decide) ?_
              refine Wp.topM (fun M3318 eM3318 => ?_)
              refine g_aload_n (pc1 := 239) d_Reader_parse_238 rfl 0 rfl ?_
              refine g_geti (pc1 := 242) d_Reader_parse_239 rfl ⟨_, fo_Reader_42⟩ sh_3 (by decide) ?_
              refine g_ireturn (Or.inl rfl) d_Reader_parse_242 rfl ?_
              exact hQ _ _ _ (Kp.wM (Kp.wM k3304 rfl eM3317) rfl eM3318)
          · refine g_aload_n (pc1 := 57) d_Reader_parse_56 rfl 0 rfl ?_
            refine g_getr (pc1 := 60) d_Reader_parse_57 rfl ⟨_, fo_Reader_12⟩ sh_3 (by decide) (rf_3_0 ld) ?_
            refine g_getr (pc1 := 63) d_Reader_parse_60 rfl ⟨_, fo_Reader_55⟩ sh_4 (by decide) (rf_4_1 ld) ?_
            refine g_aload_n (pc1 := 64) d_Reader_parse_63 rfl 0 rfl ?_
            refine g_geti (pc1 := 67) d_Reader_parse_64 rfl ⟨_, fo_Reader_38⟩ sh_3 (by decide) ?_
            refine g_callS0 (pc1 := 70) (As := [.ref 6, .int (M3302 3 1)]) (rest := []) d_Reader_parse_67 rfl mo_Reader_58 ms_Main_at (by decide) rfl rfl (Nat.le_of_ble_eq_true rfl) ?_
            refine t1_Main_at hld 6 sh_6 (by decide) (by decide) _ (fun r3319 => ?_)
            by_cases h3320 : r3319 = 128
            · refine g_tabK (tgt := 120) (off := 50) d_Reader_parse_70 h3320 (by decide) (by decide) (by decide) (by decide) ?_
              refine g_aload_n (pc1 := 121) d_Reader_parse_120 rfl 0 rfl ?_
              refine g_aload_n (pc1 := 122) d_Reader_parse_121 rfl 2 rfl ?_
              refine g_callV0 (pc1 := 125) (As := [.ref Ld2]) (rest := []) d_Reader_parse_122 rfl mo_Reader_62 mi_Reader_takeFood mv_Reader_takeFood rfl sh_3 (by decide) (by decide) rfl rfl (Nat.le_of_ble_eq_true rfl) ?_
              refine t1_Reader_takeFood hld Ld2 hLd2 (fun  M3321 L3322 k3323 => ?_)
              refine g_goto (tgt := 209) d_Reader_parse_125 (by decide) ?_
              obtain ⟨x3324, ex3324⟩ : ∃ y : Int32, y = v3301 + 1 := ⟨_, rfl⟩
              refine g_iinc (pc1 := 212) (v := x3324) (lv' := [(0, .ref 3), (1, .ref 1), (2, .ref Ld2), (3, .int x3324)]) d_Reader_parse_209 rfl 3 rfl (by rw [ex3324]; rfl) (by decide) [1, 2, 3, 0] rfl ?_
              refine g_goto (tgt := 34) d_Reader_parse_212 (by decide) ?_
              exact ih3298 x3324 M3321 L3322 (Kp.trans k3304 k3323) (nn_upe (y := (400 : Int32)) h3306 (by decide) ex3324 n3305) (md_upe h3306 (by decide) ex3324 hm3299)
            by_cases h3325 : r3319 = 129
            · refine g_tabK (tgt := 128) (off := 58) d_Reader_parse_70 h3325 (by decide) (by decide) (by decide) (by decide) ?_
              refine g_aload_n (pc1 := 129) d_Reader_parse_128 rfl 0 rfl ?_
              refine g_aload_n (pc1 := 130) d_Reader_parse_129 rfl 2 rfl ?_
              refine g_callV0 (pc1 := 133) (As := [.ref Ld2]) (rest := []) d_Reader_parse_130 rfl mo_Reader_66 mi_Reader_takeDish mv_Reader_takeDish rfl sh_3 (by decide) (by decide) rfl rfl (Nat.le_of_ble_eq_true rfl) ?_
              refine t1_Reader_takeDish hld Ld2 hLd2 (fun  M3326 L3327 k3328 => ?_)
              refine g_goto (tgt := 209) d_Reader_parse_133 (by decide) ?_
              obtain ⟨x3329, ex3329⟩ : ∃ y : Int32, y = v3301 + 1 := ⟨_, rfl⟩
              refine g_iinc (pc1 := 212) (v := x3329) (lv' := [(0, .ref 3), (1, .ref 1), (2, .ref Ld2), (3, .int x3329)]) d_Reader_parse_209 rfl 3 rfl (by rw [ex3329]; rfl) (by decide) [1, 2, 3, 0] rfl ?_
              refine g_goto (tgt := 34) d_Reader_parse_212 (by decide) ?_
              exact ih3298 x3329 M3326 L3327 (Kp.trans k3304 k3328) (nn_upe (y := (400 : Int32)) h3306 (by decide) ex3329 n3305) (md_upe h3306 (by decide) ex3329 hm3299)
            by_cases h3330 : r3319 = 130
            · refine g_tabK (tgt := 136) (off := 66) d_Reader_parse_70 h3330 (by decide) (by decide) (by decide) (by decide) ?_
              refine g_aload_n (pc1 := 137) d_Reader_parse_136 rfl 0 rfl ?_
              refine g_aload_n (pc1 := 138) d_Reader_parse_137 rfl 2 rfl ?_
              refine g_callV0 (pc1 := 141) (As := [.ref Ld2]) (rest := []) d_Reader_parse_138 rfl mo_Reader_69 mi_Reader_takeGuest mv_Reader_takeGuest rfl sh_3 (by decide) (by decide) rfl rfl (Nat.le_of_ble_eq_true rfl) ?_
              refine t1_Reader_takeGuest hld Ld2 hLd2 (fun  M3331 L3332 k3333 => ?_)
              refine g_goto (tgt := 209) d_Reader_parse_141 (by decide) ?_
              obtain ⟨x3334, ex3334⟩ : ∃ y : Int32, y = v3301 + 1 := ⟨_, rfl⟩
              refine g_iinc (pc1 := 212) (v := x3334) (lv' := [(0, .ref 3), (1, .ref 1), (2, .ref Ld2), (3, .int x3334)]) d_Reader_parse_209 rfl 3 rfl (by rw [ex3334]; rfl) (by decide) [1, 2, 3, 0] rfl ?_
              refine g_goto (tgt := 34) d_Reader_parse_212 (by decide) ?_
              exact ih3298 x3334 M3331 L3332 (Kp.trans k3304 k3333) (nn_upe (y := (400 : Int32)) h3306 (by decide) ex3334 n3305) (md_upe h3306 (by decide) ex3334 hm3299)
            by_cases h3335 : r3319 = 131
            · refine g_tabK (tgt := 144) (off := 74) d_Reader_parse_70 h3335 (by decide) (by decide) (by decide) (by decide) ?_
              refine g_aload_n (pc1 := 145) d_Reader_parse_144 rfl 0 rfl ?_
              refine g_aload_n (pc1 := 146) d_Reader_parse_145 rfl 2 rfl ?_
              refine g_callV0 (pc1 := 149) (As := [.ref Ld2]) (rest := []) d_Reader_parse_146 rfl mo_Reader_72 mi_Reader_takeDeed mv_Reader_takeDeed rfl sh_3 (by decide) (by decide) rfl rfl (Nat.le_of_ble_eq_true rfl) ?_
              refine t1_Reader_takeDeed hld Ld2 hLd2 (fun  M3336 L3337 k3338 => ?_)
              refine g_goto (tgt := 209) d_Reader_parse_149 (by decide) ?_
              obtain ⟨x3339, ex3339⟩ : ∃ y : Int32, y = v3301 + 1 := ⟨_, rfl⟩
              refine g_iinc (pc1 := 212) (v := x3339) (lv' := [(0, .ref 3), (1, .ref 1), (2, .ref Ld2), (3, .int x3339)]) d_Reader_parse_209 rfl 3 rfl (by rw [ex3339]; rfl) (by decide) [1, 2, 3, 0] rfl ?_
              refine g_goto (tgt := 34) d_Reader_parse_212 (by decide) ?_
              exact ih3298 x3339 M3336 L3337 (Kp.trans k3304 k3338) (nn_upe (y := (400 : Int32)) h3306 (by decide) ex3339 n3305) (md_upe h3306 (by decide) ex3339 hm3299)
            by_cases h3340 : r3319 = 132
            · refine g_tabK (tgt := 152) (off := 82) d_Reader_parse_70 h3340 (by decide) (by decide) (by decide) (by decide) ?_
              refine g_aload_n (pc1 := 153) d_Reader_parse_152 rfl 0 rfl ?_
              refine g_aload_n (pc1 := 154) d_Reader_parse_153 rfl 2 rfl ?_
              refine g_getr (pc1 := 157) d_Reader_parse_154 rfl ⟨_, fo_Reader_75⟩ (shLa_0 hLd2) (ltLa_0 hLd2) (rfLa_13 ld hLd2) ?_
              refine g_callV0 (pc1 := 160) (As := [.ref (Ld2 + 9)]) (rest := []) d_Reader_parse_157 rfl mo_Reader_79 mi_Reader_takeLaw mv_Reader_takeLaw rfl sh_3 (by decide) (by decide) rfl rfl (Nat.le_of_ble_eq_true rfl) ?_
              refine t1_Reader_takeLaw hld (Ld2 + 9) (isLw_9 hLd2) (fun  M3341 L3342 k3343 => ?_)
              refine g_goto (tgt := 209) d_Reader_parse_160 (by decide) ?_
              obtain ⟨x3344, ex3344⟩ : ∃ y : Int32, y = v3301 + 1 := ⟨_, rfl⟩
              refine g_iinc (pc1 := 212) (v := x3344) (lv' := [(0, .ref 3), (1, .ref 1), (2, .ref Ld2), (3, .int x3344)]) d_Reader_parse_209 rfl 3 rfl (by rw [ex3344]; rfl) (by decide) [1, 2, 3, 0] rfl ?_
              refine g_goto (tgt := 34) d_Reader_parse_212 (by decide) ?_
              exact ih3298 x3344 M3341 L3342 (Kp.trans k3304 k3343) (nn_upe (y := (400 : Int32)) h3306 (by decide) ex3344 n3305) (md_upe h3306 (by decide) ex3344 hm3299)
            by_cases h3345 : r3319 = 133
            · refine g_tabK (tgt := 163) (off := 93) d_Reader_parse_70 h3345 (by decide) (by decide) (by decide) (by decide) ?_
              refine g_aload_n (pc1 := 164) d_Reader_parse_163 rfl 0 rfl ?_
              refine g_aload_n (pc1 := 165) d_Reader_parse_164 rfl 2 rfl ?_
              refine g_getr (pc1 := 168) d_Reader_parse_165 rfl ⟨_, fo_Reader_83⟩ (shLa_0 hLd2) (ltLa_0 hLd2) (rfLa_14 ld hLd2) ?_
              refine g_callV0 (pc1 := 171) (As := [.ref (Ld2 + 13)]) (rest := []) d_Reader_parse_168 rfl mo_Reader_79 mi_Reader_takeLaw mv_Reader_takeLaw rfl sh_3 (by decide) (by decide) rfl rfl (Nat.le_of_ble_eq_true rfl) ?_
              refine t1_Reader_takeLaw hld (Ld2 + 13) (isLw_13 hLd2) (fun  M3346 L3347 k3348 => ?_)
              refine g_goto (tgt := 209) d_Reader_parse_171 (by decide) ?_
              obtain ⟨x3349, ex3349⟩ : ∃ y : Int32, y = v3301 + 1 := ⟨_, rfl⟩
              refine g_iinc (pc1 := 212) (v := x3349) (lv' := [(0, .ref 3), (1, .ref 1), (2, .ref Ld2), (3, .int x3349)]) d_Reader_parse_209 rfl 3 rfl (by rw [ex3349]; rfl) (by decide) [1, 2, 3, 0] rfl ?_
              refine g_goto (tgt := 34) d_Reader_parse_212 (by decide) ?_
              exact ih3298 x3349 M3346 L3347 (Kp.trans k3304 k3348) (nn_upe (y := (400 : Int32)) h3306 (by decide) ex3349 n3305) (md_upe h3306 (by decide) ex3349 hm3299)
            by_cases h3350 : r3319 = 134
            · refine g_tabK (tgt := 174) (off := 104) d_Reader_parse_70 h3350 (by decide) (by decide) (by decide) (by decide) ?_
              refine g_aload_n (pc1 := 175) d_Reader_parse_174 rfl 0 rfl ?_
              refine g_aload_n (pc1 := 176) d_Reader_parse_175 rfl 2 rfl ?_
              refine g_getr (pc1 := 179) d_Reader_parse_176 rfl ⟨_, fo_Reader_86⟩ (shLa_0 hLd2) (ltLa_0 hLd2) (rfLa_15 ld hLd2) ?_
              refine g_callV0 (pc1 := 182) (As := [.ref (Ld2 + 17)]) (rest := []) d_Reader_parse_179 rfl mo_Reader_79 mi_Reader_takeLaw mv_Reader_takeLaw rfl sh_3 (by decide) (by decide) rfl rfl (Nat.le_of_ble_eq_true rfl) ?_
              refine t1_Reader_takeLaw hld (Ld2 + 17) (isLw_17 hLd2) (fun  M3351 L3352 k3353 => ?_)
              refine g_goto (tgt := 209) d_Reader_parse_182 (by decide) ?_
              obtain ⟨x3354, ex3354⟩ : ∃ y : Int32, y = v3301 + 1 := ⟨_, rfl⟩
              refine g_iinc (pc1 := 212) (v := x3354) (lv' := [(0, .ref 3), (1, .ref 1), (2, .ref Ld2), (3, .int x3354)]) d_Reader_parse_209 rfl 3 rfl (by rw [ex3354]; rfl) (by decide) [1, 2, 3, 0] rfl ?_
              refine g_goto (tgt := 34) d_Reader_parse_212 (by decide) ?_
              exact ih3298 x3354 M3351 L3352 (Kp.trans k3304 k3353) (nn_upe (y := (400 : Int32)) h3306 (by decide) ex3354 n3305) (md_upe h3306 (by decide) ex3354 hm3299)
            by_cases h3355 : r3319 = 135
            · refine g_tabK (tgt := 185) (off := 115) d_Reader_parse_70 h3355 (by decide) (by decide) (by decide) (by decide) ?_
              refine g_aload_n (pc1 := 186) d_Reader_parse_185 rfl 0 rfl ?_
              refine g_aload_n (pc1 := 187) d_Reader_parse_186 rfl 2 rfl ?_
              refine g_getr (pc1 := 190) d_Reader_parse_187 rfl ⟨_, fo_Reader_89⟩ (shLa_0 hLd2) (ltLa_0 hLd2) (rfLa_16 ld hLd2) ?_
              refine g_callV0 (pc1 := 193) (As := [.ref (Ld2 + 21)]) (rest := []) d_Reader_parse_190 rfl mo_Reader_79 mi_Reader_takeLaw mv_Reader_takeLaw rfl sh_3 (by decide) (by decide) rfl rfl (Nat.le_of_ble_eq_true rfl) ?_
              refine t1_Reader_takeLaw hld (Ld2 + 21) (isLw_21 hLd2) (fun  M3356 L3357 k3358 => ?_)
              refine g_goto (tgt := 209) d_Reader_parse_193 (by decide) ?_
              obtain ⟨x3359, ex3359⟩ : ∃ y : Int32, y = v3301 + 1 := ⟨_, rfl⟩
              refine g_iinc (pc1 := 212) (v := x3359) (lv' := [(0, .ref 3), (1, .ref 1), (2, .ref Ld2), (3, .int x3359)]) d_Reader_parse_209 rfl 3 rfl (by rw [ex3359]; rfl) (by decide) [1, 2, 3, 0] rfl ?_
              refine g_goto (tgt := 34) d_Reader_parse_212 (by decide) ?_
              exact ih3298 x3359 M3356 L3357 (Kp.trans k3304 k3358) (nn_upe (y := (400 : Int32)) h3306 (by decide) ex3359 n3305) (md_upe h3306 (by decide) ex3359 hm3299)
            by_cases h3360 : r3319 = 136
            · refine g_tabK (tgt := 196) (off := 126) d_Reader_parse_70 h3360 (by decide) (by decide) (by decide) (by decide) ?_
              refine g_aload_n (pc1 := 197) d_Reader_parse_196 rfl 0 rfl ?_
              refine g_aload_n (pc1 := 198) d_Reader_parse_197 rfl 2 rfl ?_
              refine g_callV0 (pc1 := 201) (As := [.ref Ld2]) (rest := []) d_Reader_parse_198 rfl mo_Reader_92 mi_Reader_takeSeed mv_Reader_takeSeed rfl sh_3 (by decide) (by decide) rfl rfl (Nat.le_of_ble_eq_true rfl) ?_
              refine t1_Reader_takeSeed hld Ld2 hLd2 (fun  M3361 L3362 k3363 => ?_)
              refine g_goto (tgt := 209) d_Reader_parse_201 (by decide) ?_
              obtain ⟨x3364, ex3364⟩ : ∃ y : Int32, y = v3301 + 1 := ⟨_, rfl⟩
              refine g_iinc (pc1 := 212) (v := x3364) (lv' := [(0, .ref 3), (1, .ref 1), (2, .ref Ld2), (3, .int x3364)]) d_Reader_parse_209 rfl 3 rfl (by rw [ex3364]; rfl) (by decide) [1, 2, 3, 0] rfl ?_
              refine g_goto (tgt := 34) d_Reader_parse_212 (by decide) ?_
              exact ih3298 x3364 M3361 L3362 (Kp.trans k3304 k3363) (nn_upe (y := (400 : Int32)) h3306 (by decide) ex3364 n3305) (md_upe h3306 (by decide) ex3364 hm3299)
            refine g_tabOut (tgt := 204) d_Reader_parse_70 (by
              have nh3320 := neT (a := 128) h3320 (by decide)
              have nh3325 := neT (a := 129) h3325 (by decide)
              have nh3330 := neT (a := 130) h3330 (by decide)
              have nh3335 := neT (a := 131) h3335 (by decide)
              have nh3340 := neT (a := 132) h3340 (by decide)
              have nh3345 := neT (a := 133) h3345 (by decide)
              have nh3350 := neT (a := 134) h3350 (by decide)
              have nh3355 := neT (a := 135) h3355 (by decide)
              have nh3360 := neT (a := 136) h3360 (by decide)
              omega) (by decide) ?_
            refine g_aload_n (pc1 := 205) d_Reader_parse_204 rfl 0 rfl ?_
            refine g_iconst (pc1 := 206) (v := 1) d_Reader_parse_205 rfl (by decide) ?_
            refine g_callV0 (pc1 := 209) (As := [.int 1]) (rest := []) d_Reader_parse_206 rfl mo_Reader_95 mi_Reader_stop mv_Reader_stop rfl sh_3 (by decide) (by decide) rfl rfl (Nat.le_of_ble_eq_true rfl) ?_
            refine t1_Reader_stop hld _ (fun  M3365 L3366 k3367 => ?_)
            obtain ⟨x3368, ex3368⟩ : ∃ y : Int32, y = v3301 + 1 := ⟨_, rfl⟩
            refine g_iinc (pc1 := 212) (v := x3368) (lv' := [(0, .ref 3), (1, .ref 1), (2, .ref Ld2), (3, .int x3368)]) d_Reader_parse_209 rfl 3 rfl (by rw [ex3368]; rfl) (by decide) [1, 2, 3, 0] rfl ?_
            refine g_goto (tgt := 34) d_Reader_parse_212 (by decide) ?_
            exact ih3298 x3368 M3365 L3366 (Kp.trans k3304 k3367) (nn_upe (y := (400 : Int32)) h3306 (by decide) ex3368 n3305) (md_upe h3306 (by decide) ex3368 hm3299)
  exact LP3300 _ 0 M3296 L3291 (Kp.wM (Kp.wM (Kp.wM (Kp.wM (Kp.trans (Kp.trans Kp.rf k3289) k3292) rfl eM3293) rfl eM3294) rfl eM3295) rfl eM3296) (by decide) (Nat.lt_succ_self _)
set_option maxHeartbeats 4000000 in
set_option maxRecDepth 20000 in
theorem t1_State_cookOne {l : Launch} {ld : Nat} (hld : isLa ld) {M : gM} {L : gL} {Q : Option Value → gM → gL → gR → Prop} (X0 : Nat) (hX0 : isSt X0) (Ld1 : Nat) (hLd1 : isLa Ld1) (p2 : Int32) (hQ : ∀ (r : Int32) (M' : gM) (L' : gL), Kp S1 M L M' L' → Q (some (.int r)) M' L' (rf ld)) : Tm l y_State_cookOne (0, 0, 447) 447 [.ref X0, .ref Ld1, .int p2] M L (rf ld) Q := by
  refine Tm.of (by decide) (Nat.le_of_ble_eq_true rfl) ?_
  show Wp l y_State_cookOne (0, 0, 447) 447 0 0 0 [(0, .ref X0), (1, .ref Ld1), (2, .int p2)] [] M L (rf ld) Q
  refine g_aload_n (pc1 := 1) d_State_cookOne_0 rfl 0 rfl ?_
  refine g_aload_n (pc1 := 2) d_State_cookOne_1 rfl 1 rfl ?_
  refine g_iload_n (pc1 := 3) d_State_cookOne_2 rfl 2 rfl ?_
  refine g_aload_n (pc1 := 4) d_State_cookOne_3 rfl 1 rfl ?_
  refine g_geti (pc1 := 7) d_State_cookOne_4 rfl ⟨_, fo_State_76⟩ (shLa_0 hLd1) (ltLa_0 hLd1) ?_
  refine g_callV0 (pc1 := 10) (As := [.ref Ld1, .int p2, .int (M Ld1 4)]) (rest := []) d_State_cookOne_7 rfl mo_State_79 mi_State_slipInto mv_State_slipInto rfl (shSt_0 hX0) (ltSt_0 hX0) (by decide) rfl rfl (Nat.le_of_ble_eq_true rfl) ?_
  refine t1_State_slipInto hld X0 hX0 Ld1 hLd1 _ _ (fun r3369 M3370 L3371 k3372 => ?_)
  refine g_istore_n (pc1 := 11) (lv' := [(0, .ref X0), (1, .ref Ld1), (2, .int p2), (3, .int r3369)]) d_State_cookOne_10 rfl rfl (by decide) [1, 2, 3, 0] rfl ?_
  refine g_iconst (pc1 := 12) (v := 0) d_State_cookOne_11 rfl (by decide) ?_
  refine g_istore (pc1 := 14) (lv' := [(0, .ref X0), (1, .ref Ld1), (2, .int p2), (3, .int r3369), (4, .int 0)]) d_State_cookOne_12 rfl (by decide) [1, 2, 3, 4, 0] rfl ?_
  have LP3376 : ∀ (f3373 : Nat) (v3377 : Int32) (M3378 : gM) (L3379 : gL), Kp S1 M L M3378 L3379 → ¬ v3377 < 0 → ((M Ld1 0).toInt - v3377.toInt).toNat < f3373 → Wp l y_State_cookOne (0, 0, 447) 447 0 0 14 [(0, .ref X0), (1, .ref Ld1), (2, .int p2), (3, .int r3369), (4, .int v3377)] [] M3378 L3379 (rf ld) Q := by
    intro f3373
    induction f3373 with
    | zero => intro v3377 M3378 L3379 _ _ hm3375; exact absurd hm3375 (Nat.not_lt_zero _)
    | succ f3373 ih3374 =>
      intro v3377 M3378 L3379 k3380 n3381 hm3375
      refine g_iload (pc1 := 16) d_State_cookOne_14 rfl 4 rfl ?_
      refine g_aload_n (pc1 := 17) d_State_cookOne_16 rfl 1 rfl ?_
      refine g_geti (pc1 := 20) d_State_cookOne_17 rfl ⟨_, fo_State_47⟩ (shLa_0 hLd1) (ltLa_0 hLd1) ?_
      refine g_icmp_ge (pc1 := 23) (tgt := 71) d_State_cookOne_20 (by decide) rfl (fun h3382 => ?_) (fun h3382 => ?_)
      · refine g_iconst (pc1 := 72) (v := 0) d_State_cookOne_71 rfl (by decide) ?_
        refine g_istore (pc1 := 74) (lv' := [(0, .ref X0), (1, .ref Ld1), (2, .int p2), (3, .int r3369), (4, .int 0)]) d_State_cookOne_72 rfl (by decide) [1, 2, 3, 4, 0] rfl ?_
        have LP3386 : ∀ (f3383 : Nat) (v3387 : Int32) (M3388 : gM) (L3389 : gL), Kp S1 M L M3388 L3389 → ¬ v3387 < 0 → ((3 : Int32).toInt - v3387.toInt).toNat < f3383 → Wp l y_State_cookOne (0, 0, 447) 447 0 0 74 [(0, .ref X0), (1, .ref Ld1), (2, .int p2), (3, .int r3369), (4, .int v3387)] [] M3388 L3389 (rf ld) Q := by
          intro f3383
          induction f3383 with
          | zero => intro v3387 M3388 L3389 _ _ hm3385; exact absurd hm3385 (Nat.not_lt_zero _)
          | succ f3383 ih3384 =>
            intro v3387 M3388 L3389 k3390 n3391 hm3385
            refine g_iload (pc1 := 76) d_State_cookOne_74 rfl 4 rfl ?_
            refine g_iconst (pc1 := 77) (v := 3) d_State_cookOne_76 rfl (by decide) ?_
            refine g_icmp_ge (pc1 := 80) (tgt := 107) d_State_cookOne_77 (by decide) rfl (fun h3392 => ?_) (fun h3392 => ?_)
            · refine g_aload_n (pc1 := 108) d_State_cookOne_107 rfl 0 rfl ?_
              refine g_dup (pc1 := 109) d_State_cookOne_108 rfl rfl ?_
              refine g_geti (pc1 := 112) d_State_cookOne_109 rfl ⟨_, fo_State_37⟩ (shSt_0 hX0) (ltSt_0 hX0) ?_
              refine g_aload_n (pc1 := 113) d_State_cookOne_112 rfl 1 rfl ?_
              refine g_iload_n (pc1 := 114) d_State_cookOne_113 rfl 2 rfl ?_
              refine g_callV0 (pc1 := 117) (As := [.int p2]) (rest := [.int (M3388 X0 1), .ref X0]) d_State_cookOne_114 rfl mo_State_87 mi_Land_priceOf mv_Land_priceOf rfl (shLa_0 hLd1) (ltLa_0 hLd1) (by decide) rfl rfl (Nat.le_of_ble_eq_true rfl) ?_
              refine t1_Land_priceOf hld Ld1 hLd1 _ (fun r3393 => ?_)
              refine g_iadd (pc1 := 118) d_State_cookOne_117 rfl ?_
              refine g_puti (pc1 := 121) d_State_cookOne_118 rfl fo_State_37 (po_6_1 _) (shSt_0 hX0) (ltSt_0 hX0) ?_
              refine Wp.topM (fun M3394 eM3394 => ?_)
              refine g_aload_n (pc1 := 122) d_State_cookOne_121 rfl 0 rfl ?_
              refine g_iload_n (pc1 := 123) d_State_cookOne_122 rfl 2 rfl ?_
              refine g_puti (pc1 := 126) d_State_cookOne_123 rfl fo_State_9 (po_6_3 _) (shSt_0 hX0) (ltSt_0 hX0) ?_
              refine Wp.topM (fun M3395 eM3395 => ?_)
              refine g_aload_n (pc1 := 127) d_State_cookOne_126 rfl 0 rfl ?_
              refine g_dup (pc1 := 128) d_State_cookOne_127 rfl rfl ?_
              refine g_geti (pc1 := 131) d_State_cookOne_128 rfl ⟨_, fo_State_40⟩ (shSt_0 hX0) (ltSt_0 hX0) ?_
              refine g_iconst (pc1 := 132) (v := 1) d_State_cookOne_131 rfl (by decide) ?_
              refine g_iadd (pc1 := 133) d_State_cookOne_132 rfl ?_
              refine g_puti (pc1 := 136) d_State_cookOne_133 rfl fo_State_40 (po_6_2 _) (shSt_0 hX0) (ltSt_0 hX0) ?_
              refine Wp.topM (fun M3396 eM3396 => ?_)
              refine g_aload_n (pc1 := 137) d_State_cookOne_136 rfl 0 rfl ?_
              refine g_getr (pc1 := 140) d_State_cookOne_137 rfl ⟨_, fo_State_22⟩ (shSt_0 hX0) (ltSt_0 hX0) (rfSt_6 ld hX0) ?_
              refine g_iload_n (pc1 := 141) d_State_cookOne_140 rfl 2 rfl ?_
              refine g_aload_n (pc1 := 142) d_State_cookOne_141 rfl 0 rfl ?_
              refine g_getr (pc1 := 145) d_State_cookOne_142 rfl ⟨_, fo_State_22⟩ (shSt_0 hX0) (ltSt_0 hX0) (rfSt_6 ld hX0) ?_
              refine g_iload_n (pc1 := 146) d_State_cookOne_145 rfl 2 rfl ?_
              refine g_callS0 (pc1 := 149) (As := [.ref (X0 + 3), .int p2]) (rest := [.int p2, .ref (X0 + 3)]) d_State_cookOne_146 rfl mo_State_53 ms_Main_at (by decide) rfl rfl (Nat.le_of_ble_eq_true rfl) ?_
              refine t1_Main_at hld (X0 + 3) (shSt_3 hX0) (ltSt_3 hX0) (by decide) _ (fun r3397 => ?_)
              refine g_iconst (pc1 := 150) (v := 1) d_State_cookOne_149 rfl (by decide) ?_
              refine g_iadd (pc1 := 151) d_State_cookOne_150 rfl ?_
              refine g_callS0 (pc1 := 154) (As := [.ref (X0 + 3), .int p2, .int (r3397 + 1)]) (rest := []) d_State_cookOne_151 rfl mo_State_57 ms_Main_put (by decide) rfl rfl (Nat.le_of_ble_eq_true rfl) ?_
              refine t1_Main_put hld (X0 + 3) (shSt_3 hX0) (ltSt_3 hX0) (by decide) _ _ (fun  M3398 L3399 k3400 => ?_)
              refine g_iload_n (pc1 := 155) d_State_cookOne_154 rfl 3 rfl ?_
              refine g_ireturn (Or.inl rfl) d_State_cookOne_155 rfl ?_
              exact hQ _ _ _ (Kp.trans (Kp.wM (Kp.wM (Kp.wM k3390 (S1_St_0 hX0) eM3394) (S1_St_0 hX0) eM3395) (S1_St_0 hX0) eM3396) (Kp.mono k3400 (one_S (S1_St_3 hX0))))
            · refine g_aload_n (pc1 := 81) d_State_cookOne_80 rfl 0 rfl ?_
              refine g_getr (pc1 := 84) d_State_cookOne_81 rfl ⟨_, fo_State_15⟩ (shSt_0 hX0) (ltSt_0 hX0) (rfSt_4 ld hX0) ?_
              refine g_iload (pc1 := 86) d_State_cookOne_84 rfl 4 rfl ?_
              refine g_aload_n (pc1 := 87) d_State_cookOne_86 rfl 1 rfl ?_
              refine g_iload_n (pc1 := 88) d_State_cookOne_87 rfl 2 rfl ?_
              refine g_iload_n (pc1 := 89) d_State_cookOne_88 rfl 3 rfl ?_
              refine g_iload (pc1 := 91) d_State_cookOne_89 rfl 4 rfl ?_
              refine g_aload_n (pc1 := 92) d_State_cookOne_91 rfl 0 rfl ?_
              refine g_geti (pc1 := 95) d_State_cookOne_92 rfl ⟨_, fo_State_34⟩ (shSt_0 hX0) (ltSt_0 hX0) ?_
              refine g_callV0 (pc1 := 98) (As := [.int p2, .int r3369, .int v3387, .int (M3388 X0 0)]) (rest := [.int v3387, .ref (X0 + 1)]) d_State_cookOne_95 rfl mo_State_83 mi_Land_dishForce mv_Land_dishForce rfl (shLa_0 hLd1) (ltLa_0 hLd1) (by decide) rfl rfl (Nat.le_of_ble_eq_true rfl) ?_
              refine t1_Land_dishForce hld Ld1 hLd1 _ _ _ _ (fun r3401 M3402 L3403 k3404 => ?_)
              refine g_callS0 (pc1 := 101) (As := [.ref (X0 + 1), .int v3387, .int r3401]) (rest := []) d_State_cookOne_98 rfl mo_State_57 ms_Main_put (by decide) rfl rfl (Nat.le_of_ble_eq_true rfl) ?_
              refine t1_Main_put hld (X0 + 1) (shSt_1 hX0) (ltSt_1 hX0) (by decide) _ _ (fun  M3405 L3406 k3407 => ?_)
              obtain ⟨x3408, ex3408⟩ : ∃ y : Int32, y = v3387 + 1 := ⟨_, rfl⟩
              refine g_iinc (pc1 := 104) (v := x3408) (lv' := [(0, .ref X0), (1, .ref Ld1), (2, .int p2), (3, .int r3369), (4, .int x3408)]) d_State_cookOne_101 rfl 4 rfl (by rw [ex3408]; rfl) (by decide) [1, 2, 3, 4, 0] rfl ?_
              refine g_goto (tgt := 74) d_State_cookOne_104 (by decide) ?_
              exact ih3384 x3408 M3405 L3406 (Kp.trans (Kp.trans k3390 (Kp.mono k3404 S0_S1)) (Kp.mono k3407 (one_S (S1_St_1 hX0)))) (nn_up (y := (3 : Int32)) h3392 ex3408 n3391) (md_up h3392 ex3408 hm3385)
        exact LP3386 _ 0 M3378 L3379 k3380 (by decide) (Nat.lt_succ_self _)
      · refine g_aload_n (pc1 := 24) d_State_cookOne_23 rfl 1 rfl ?_
        refine g_iload_n (pc1 := 25) d_State_cookOne_24 rfl 2 rfl ?_
        refine g_iload (pc1 := 27) d_State_cookOne_25 rfl 4 rfl ?_
        refine g_callV0 (pc1 := 30) (As := [.int p2, .int v3377]) (rest := []) d_State_cookOne_27 rfl mo_State_65 mi_Land_inDish mv_Land_inDish rfl (shLa_0 hLd1) (ltLa_0 hLd1) (by decide) rfl rfl (Nat.le_of_ble_eq_true rfl) ?_
        refine t1_Land_inDish hld Ld1 hLd1 _ _ (fun r3409 => ?_)
        refine g_iload (pc1 := 32) d_State_cookOne_30 rfl 4 rfl ?_
        refine g_iload_n (pc1 := 33) d_State_cookOne_32 rfl 3 rfl ?_
        refine g_icmp_ne (pc1 := 36) (tgt := 40) d_State_cookOne_33 (by decide) rfl (fun h3410 => ?_) (fun h3410 => ?_)
        · refine g_iconst (pc1 := 41) (v := 0) d_State_cookOne_40 rfl (by decide) ?_
          refine g_iadd (pc1 := 42) d_State_cookOne_41 rfl ?_
          refine Wp.topi (fun x3411 ex3411 => ?_)
          refine g_istore (pc1 := 44) (lv' := [(0, .ref X0), (1, .ref Ld1), (2, .int p2), (3, .int r3369), (4, .int v3377), (5, .int x3411)]) d_State_cookOne_42 rfl (by decide) [1, 2, 3, 4, 5, 0] rfl ?_
          refine g_aload_n (pc1 := 45) d_State_cookOne_44 rfl 0 rfl ?_
          refine g_getr (pc1 := 48) d_State_cookOne_45 rfl ⟨_, fo_State_19⟩ (shSt_0 hX0) (ltSt_0 hX0) (rfSt_5 ld hX0) ?_
          refine g_iload (pc1 := 50) d_State_cookOne_48 rfl 4 rfl ?_
          refine g_aload_n (pc1 := 51) d_State_cookOne_50 rfl 0 rfl ?_
          refine g_getr (pc1 := 54) d_State_cookOne_51 rfl ⟨_, fo_State_19⟩ (shSt_0 hX0) (ltSt_0 hX0) (rfSt_5 ld hX0) ?_
          refine g_iload (pc1 := 56) d_State_cookOne_54 rfl 4 rfl ?_
          refine g_callS0 (pc1 := 59) (As := [.ref (X0 + 2), .int v3377]) (rest := [.int v3377, .ref (X0 + 2)]) d_State_cookOne_56 rfl mo_State_53 ms_Main_at (by decide) rfl rfl (Nat.le_of_ble_eq_true rfl) ?_
          refine t1_Main_at hld (X0 + 2) (shSt_2 hX0) (ltSt_2 hX0) (by decide) _ (fun r3412 => ?_)
          refine g_iload (pc1 := 61) d_State_cookOne_59 rfl 5 rfl ?_
          refine g_isub (pc1 := 62) d_State_cookOne_61 rfl ?_
          refine g_callS0 (pc1 := 65) (As := [.ref (X0 + 2), .int v3377, .int (r3412 - x3411)]) (rest := []) d_State_cookOne_62 rfl mo_State_57 ms_Main_put (by decide) rfl rfl (Nat.le_of_ble_eq_true rfl) ?_
          refine t1_Main_put hld (X0 + 2) (shSt_2 hX0) (ltSt_2 hX0) (by decide) _ _ (fun  M3413 L3414 k3415 => ?_)
          obtain ⟨x3416, ex3416⟩ : ∃ y : Int32, y = v3377 + 1 := ⟨_, rfl⟩
          refine g_iinc (pc1 := 68) (v := x3416) (lv' := [(0, .ref X0), (1, .ref Ld1), (2, .int p2), (3, .int r3369), (4, .int x3416), (5, .int x3411)]) d_State_cookOne_65 rfl 4 rfl (by rw [ex3416]; rfl) (by decide) [1, 2, 3, 4, 0, 5] rfl ?_
          refine g_goto (tgt := 14) d_State_cookOne_68 (by decide) ?_
          refine Wp.loc (lv' := [(0, .ref X0), (1, .ref Ld1), (2, .int p2), (3, .int r3369), (4, .int x3416)]) [0, 1, 2, 3, 4] rfl ?_
          exact ih3374 x3416 M3413 L3414 (Kp.trans k3380 (Kp.mono k3415 (one_S (S1_St_2 hX0)))) (nn_up (y := (M Ld1 0)) (by rw [← k3380.m (S1_La_0f hLd1) 0]; exact h3382) ex3416 n3381) (md_up (by rw [← k3380.m (S1_La_0f hLd1) 0]; exact h3382) ex3416 hm3375)
        · refine g_iconst (pc1 := 37) (v := 1) d_State_cookOne_36 rfl (by decide) ?_
          refine g_goto (tgt := 41) d_State_cookOne_37 (by decide) ?_
          refine g_iadd (pc1 := 42) d_State_cookOne_41 rfl ?_
          refine Wp.topi (fun x3417 ex3417 => ?_)
          refine g_istore (pc1 := 44) (lv' := [(0, .ref X0), (1, .ref Ld1), (2, .int p2), (3, .int r3369), (4, .int v3377), (5, .int x3417)]) d_State_cookOne_42 rfl (by decide) [1, 2, 3, 4, 5, 0] rfl ?_
          refine g_aload_n (pc1 := 45) d_State_cookOne_44 rfl 0 rfl ?_
          refine g_getr (pc1 := 48) d_State_cookOne_45 rfl ⟨_, fo_State_19⟩ (shSt_0 hX0) (ltSt_0 hX0) (rfSt_5 ld hX0) ?_
          refine g_iload (pc1 := 50) d_State_cookOne_48 rfl 4 rfl ?_
          refine g_aload_n (pc1 := 51) d_State_cookOne_50 rfl 0 rfl ?_
          refine g_getr (pc1 := 54) d_State_cookOne_51 rfl ⟨_, fo_State_19⟩ (shSt_0 hX0) (ltSt_0 hX0) (rfSt_5 ld hX0) ?_
          refine g_iload (pc1 := 56) d_State_cookOne_54 rfl 4 rfl ?_
          refine g_callS0 (pc1 := 59) (As := [.ref (X0 + 2), .int v3377]) (rest := [.int v3377, .ref (X0 + 2)]) d_State_cookOne_56 rfl mo_State_53 ms_Main_at (by decide) rfl rfl (Nat.le_of_ble_eq_true rfl) ?_
          refine t1_Main_at hld (X0 + 2) (shSt_2 hX0) (ltSt_2 hX0) (by decide) _ (fun r3418 => ?_)
          refine g_iload (pc1 := 61) d_State_cookOne_59 rfl 5 rfl ?_
          refine g_isub (pc1 := 62) d_State_cookOne_61 rfl ?_
          refine g_callS0 (pc1 := 65) (As := [.ref (X0 + 2), .int v3377, .int (r3418 - x3417)]) (rest := []) d_State_cookOne_62 rfl mo_State_57 ms_Main_put (by decide) rfl rfl (Nat.le_of_ble_eq_true rfl) ?_
          refine t1_Main_put hld (X0 + 2) (shSt_2 hX0) (ltSt_2 hX0) (by decide) _ _ (fun  M3419 L3420 k3421 => ?_)
          obtain ⟨x3422, ex3422⟩ : ∃ y : Int32, y = v3377 + 1 := ⟨_, rfl⟩
          refine g_iinc (pc1 := 68) (v := x3422) (lv' := [(0, .ref X0), (1, .ref Ld1), (2, .int p2), (3, .int r3369), (4, .int x3422), (5, .int x3417)]) d_State_cookOne_65 rfl 4 rfl (by rw [ex3422]; rfl) (by decide) [1, 2, 3, 4, 0, 5] rfl ?_
          refine g_goto (tgt := 14) d_State_cookOne_68 (by decide) ?_
          refine Wp.loc (lv' := [(0, .ref X0), (1, .ref Ld1), (2, .int p2), (3, .int r3369), (4, .int x3422)]) [0, 1, 2, 3, 4] rfl ?_
          exact ih3374 x3422 M3419 L3420 (Kp.trans k3380 (Kp.mono k3421 (one_S (S1_St_2 hX0)))) (nn_up (y := (M Ld1 0)) (by rw [← k3380.m (S1_La_0f hLd1) 0]; exact h3382) ex3422 n3381) (md_up (by rw [← k3380.m (S1_La_0f hLd1) 0]; exact h3382) ex3422 hm3375)
  exact LP3376 _ 0 M3370 L3371 (Kp.trans Kp.rf (Kp.mono k3372 S0_S1)) (by decide) (Nat.lt_succ_self _)
set_option maxHeartbeats 4000000 in
set_option maxRecDepth 20000 in
theorem t1_Told_gather {l : Launch} {ld : Nat} (hld : isLa ld) {M : gM} {L : gL} {Q : Option Value → gM → gL → gR → Prop} (Ld1 : Nat) (hLd1 : isLa Ld1) (p2 : Int32) (p3 : Int32) (hQ : ∀ (M' : gM) (L' : gL), Kp S1 M L M' L' → Q none M' L' (rf ld)) : Tm l y_Told_gather (0, 0, 447) 447 [.ref 383, .ref Ld1, .int p2, .int p3] M L (rf ld) Q := by
  refine Tm.of (by decide) (Nat.le_of_ble_eq_true rfl) ?_
  show Wp l y_Told_gather (0, 0, 447) 447 0 0 0 [(0, .ref 383), (1, .ref Ld1), (2, .int p2), (3, .int p3)] [] M L (rf ld) Q
  refine g_aload_n (pc1 := 1) d_Told_gather_0 rfl 0 rfl ?_
  refine g_iconst (pc1 := 2) (v := 0) d_Told_gather_1 rfl (by decide) ?_
  refine g_puti (pc1 := 5) d_Told_gather_2 rfl fo_Told_41 (po_9_7 _) sh_383 (by decide) ?_
  refine Wp.topM (fun M3423 eM3423 => ?_)
  refine g_iconst (pc1 := 6) (v := 0) d_Told_gather_5 rfl (by decide) ?_
  refine g_istore (pc1 := 8) (lv' := [(0, .ref 383), (1, .ref Ld1), (2, .int p2), (3, .int p3), (4, .int 0)]) d_Told_gather_6 rfl (by decide) [1, 2, 3, 4, 0] rfl ?_
  have LP3427 : ∀ (f3424 : Nat) (v3428 : Int32) (M3429 : gM) (L3430 : gL), Kp S1 M L M3429 L3430 → ¬ v3428 < 0 → ((M Ld1 1).toInt - v3428.toInt).toNat < f3424 → Wp l y_Told_gather (0, 0, 447) 447 0 0 8 [(0, .ref 383), (1, .ref Ld1), (2, .int p2), (3, .int p3), (4, .int v3428)] [] M3429 L3430 (rf ld) Q := by
    intro f3424
    induction f3424 with
    | zero => intro v3428 M3429 L3430 _ _ hm3426; exact absurd hm3426 (Nat.not_lt_zero _)
    | succ f3424 ih3425 =>
      intro v3428 M3429 L3430 k3431 n3432 hm3426
      refine g_iload (pc1 := 10) d_Told_gather_8 rfl 4 rfl ?_
      refine g_aload_n (pc1 := 11) d_Told_gather_10 rfl 1 rfl ?_
      refine g_geti (pc1 := 14) d_Told_gather_11 rfl ⟨_, fo_Told_44⟩ (shLa_0 hLd1) (ltLa_0 hLd1) ?_
      refine g_icmp_ge (pc1 := 17) (tgt := 71) d_Told_gather_14 (by decide) rfl (fun h3433 => ?_) (fun h3433 => ?_)
      · refine g_return rfl d_Told_gather_71 rfl ?_
        exact hQ _ _ k3431
      · refine g_iconst (pc1 := 18) (v := 0) d_Told_gather_17 rfl (by decide) ?_
        refine g_istore (pc1 := 20) (lv' := [(0, .ref 383), (1, .ref Ld1), (2, .int p2), (3, .int p3), (4, .int v3428), (5, .int 0)]) d_Told_gather_18 rfl (by decide) [1, 2, 3, 4, 5, 0] rfl ?_
        have LP3437 : ∀ (f3434 : Nat) (v3438 : Int32) (M3439 : gM) (L3440 : gL), Kp S1 M L M3439 L3440 → ¬ v3438 < 0 → ((13 : Int32).toInt - v3438.toInt).toNat < f3434 → Wp l y_Told_gather (0, 0, 447) 447 0 0 20 [(0, .ref 383), (1, .ref Ld1), (2, .int p2), (3, .int p3), (4, .int v3428), (5, .int v3438)] [] M3439 L3440 (rf ld) Q := by
          intro f3434
          induction f3434 with
          | zero => intro v3438 M3439 L3440 _ _ hm3436; exact absurd hm3436 (Nat.not_lt_zero _)
          | succ f3434 ih3435 =>
            intro v3438 M3439 L3440 k3441 n3442 hm3436
            refine g_iload (pc1 := 22) d_Told_gather_20 rfl 5 rfl ?_
            refine g_bipush (pc1 := 24) (v := 13) d_Told_gather_22 rfl (by decide) ?_
            refine g_icmp_ge (pc1 := 27) (tgt := 65) d_Told_gather_24 (by decide) rfl (fun h3443 => ?_) (fun h3443 => ?_)
            · obtain ⟨x3444, ex3444⟩ : ∃ y : Int32, y = v3428 + 1 := ⟨_, rfl⟩
              refine g_iinc (pc1 := 68) (v := x3444) (lv' := [(0, .ref 383), (1, .ref Ld1), (2, .int p2), (3, .int p3), (4, .int x3444), (5, .int v3438)]) d_Told_gather_65 rfl 4 rfl (by rw [ex3444]; rfl) (by decide) [1, 2, 3, 4, 0, 5] rfl ?_
              refine g_goto (tgt := 8) d_Told_gather_68 (by decide) ?_
              refine Wp.loc (lv' := [(0, .ref 383), (1, .ref Ld1), (2, .int p2), (3, .int p3), (4, .int x3444)]) [0, 1, 2, 3, 4] rfl ?_
              exact ih3425 x3444 M3439 L3440 k3441 (nn_up (y := (M Ld1 1)) (by rw [← k3431.m (S1_La_0f hLd1) 1]; exact h3433) ex3444 n3432) (md_up (by rw [← k3431.m (S1_La_0f hLd1) 1]; exact h3433) ex3444 hm3426)
            · refine g_aload_n (pc1 := 28) d_Told_gather_27 rfl 0 rfl ?_
              refine g_aload_n (pc1 := 29) d_Told_gather_28 rfl 1 rfl ?_
              refine g_iload (pc1 := 31) d_Told_gather_29 rfl 4 rfl ?_
              refine g_iload (pc1 := 33) d_Told_gather_31 rfl 5 rfl ?_
              refine g_callV0 (pc1 := 36) (As := [.ref Ld1, .int v3428, .int v3438]) (rest := []) d_Told_gather_33 rfl mo_Told_49 mi_Told_lay mv_Told_lay rfl sh_383 (by decide) (by decide) rfl rfl (Nat.le_of_ble_eq_true rfl) ?_
              refine t1_Told_lay hld Ld1 hLd1 _ _ (fun r3445 M3446 L3447 hr3445 k3448 => ?_)
              refine g_if_eq (pc1 := 39) (tgt := 59) d_Told_gather_36 (by decide) rfl (fun h3449 => ?_) (fun h3449 => ?_)
              · obtain ⟨x3450, ex3450⟩ : ∃ y : Int32, y = v3438 + 1 := ⟨_, rfl⟩
                refine g_iinc (pc1 := 62) (v := x3450) (lv' := [(0, .ref 383), (1, .ref Ld1), (2, .int p2), (3, .int p3), (4, .int v3428), (5, .int x3450)]) d_Told_gather_59 rfl 5 rfl (by rw [ex3450]; rfl) (by decide) [1, 2, 3, 4, 5, 0] rfl ?_
                refine g_goto (tgt := 20) d_Told_gather_62 (by decide) ?_
                exact ih3435 x3450 M3446 L3447 (Kp.trans k3441 k3448) (nn_up (y := (13 : Int32)) h3443 ex3450 n3442) (md_up h3443 ex3450 hm3436)
              · refine g_aload_n (pc1 := 40) d_Told_gather_39 rfl 0 rfl ?_
                refine g_aload_n (pc1 := 41) d_Told_gather_40 rfl 1 rfl ?_
                refine g_iload_n (pc1 := 42) d_Told_gather_41 rfl 2 rfl ?_
                refine g_iload_n (pc1 := 43) d_Told_gather_42 rfl 3 rfl ?_
                refine g_callV0 (pc1 := 46) (As := [.ref Ld1, .int p2, .int p3]) (rest := []) d_Told_gather_43 rfl mo_Told_53 mi_Told_isAsKnown mv_Told_isAsKnown rfl sh_383 (by decide) (by decide) rfl rfl (Nat.le_of_ble_eq_true rfl) ?_
                refine t1_Told_isAsKnown hld Ld1 hLd1 _ _ (fun r3451 M3452 L3453 hr3451 k3454 => ?_)
                refine g_if_eq (pc1 := 49) (tgt := 59) d_Told_gather_46 (by decide) rfl (fun h3455 => ?_) (fun h3455 => ?_)
                · obtain ⟨x3456, ex3456⟩ : ∃ y : Int32, y = v3438 + 1 := ⟨_, rfl⟩
                  refine g_iinc (pc1 := 62) (v := x3456) (lv' := [(0, .ref 383), (1, .ref Ld1), (2, .int p2), (3, .int p3), (4, .int v3428), (5, .int x3456)]) d_Told_gather_59 rfl 5 rfl (by rw [ex3456]; rfl) (by decide) [1, 2, 3, 4, 5, 0] rfl ?_
                  refine g_goto (tgt := 20) d_Told_gather_62 (by decide) ?_
                  exact ih3435 x3456 M3452 L3453 (Kp.trans (Kp.trans k3441 k3448) (Kp.mono k3454 S0_S1)) (nn_up (y := (13 : Int32)) h3443 ex3456 n3442) (md_up h3443 ex3456 hm3436)
                · refine g_aload_n (pc1 := 50) d_Told_gather_49 rfl 0 rfl ?_
                  refine g_dup (pc1 := 51) d_Told_gather_50 rfl rfl ?_
                  refine g_geti (pc1 := 54) d_Told_gather_51 rfl ⟨_, fo_Told_41⟩ sh_383 (by decide) ?_
                  refine g_iconst (pc1 := 55) (v := 1) d_Told_gather_54 rfl (by decide) ?_
                  refine g_iadd (pc1 := 56) d_Told_gather_55 rfl ?_
                  refine g_puti (pc1 := 59) d_Told_gather_56 rfl fo_Told_41 (po_9_7 _) sh_383 (by decide) ?_
                  refine Wp.topM (fun M3457 eM3457 => ?_)
                  obtain ⟨x3458, ex3458⟩ : ∃ y : Int32, y = v3438 + 1 := ⟨_, rfl⟩
                  refine g_iinc (pc1 := 62) (v := x3458) (lv' := [(0, .ref 383), (1, .ref Ld1), (2, .int p2), (3, .int p3), (4, .int v3428), (5, .int x3458)]) d_Told_gather_59 rfl 5 rfl (by rw [ex3458]; rfl) (by decide) [1, 2, 3, 4, 5, 0] rfl ?_
                  refine g_goto (tgt := 20) d_Told_gather_62 (by decide) ?_
                  exact ih3435 x3458 M3457 L3453 (Kp.wM (Kp.trans (Kp.trans k3441 k3448) (Kp.mono k3454 S0_S1)) rfl eM3457) (nn_up (y := (13 : Int32)) h3443 ex3458 n3442) (md_up h3443 ex3458 hm3436)
        exact LP3437 _ 0 M3429 L3430 k3431 (by decide) (Nat.lt_succ_self _)
  exact LP3427 _ 0 M3423 L (Kp.wM Kp.rf rfl eM3423) (by decide) (Nat.lt_succ_self _)
set_option maxHeartbeats 4000000 in
set_option maxRecDepth 20000 in
theorem t1_Told_nextTaste {l : Launch} {ld : Nat} (hld : isLa ld) {M : gM} {L : gL} {Q : Option Value → gM → gL → gR → Prop} (Ld1 : Nat) (hLd1 : isLa Ld1) (p2 : Int32) (hQ : ∀ (r : Int32) (M' : gM) (L' : gL), Kp S0 M L M' L' → Q (some (.int r)) M' L' (rf ld)) : Tm l y_Told_nextTaste (0, 0, 447) 447 [.ref 383, .ref Ld1, .int p2] M L (rf ld) Q := by
  refine Tm.of (by decide) (Nat.le_of_ble_eq_true rfl) ?_
  show Wp l y_Told_nextTaste (0, 0, 447) 447 0 0 0 [(0, .ref 383), (1, .ref Ld1), (2, .int p2)] [] M L (rf ld) Q
  refine g_aload_n (pc1 := 1) d_Told_nextTaste_0 rfl 0 rfl ?_
  refine g_geti (pc1 := 4) d_Told_nextTaste_1 rfl ⟨_, fo_Told_41⟩ sh_383 (by decide) ?_
  refine g_iconst (pc1 := 5) (v := 1) d_Told_nextTaste_4 rfl (by decide) ?_
  refine g_iadd (pc1 := 6) d_Told_nextTaste_5 rfl ?_
  refine Wp.topi (fun x3459 ex3459 => ?_)
  refine g_istore_n (pc1 := 7) (lv' := [(0, .ref 383), (1, .ref Ld1), (2, .int p2), (3, .int x3459)]) d_Told_nextTaste_6 rfl rfl (by decide) [1, 2, 3, 0] rfl ?_
  refine g_bipush (pc1 := 9) (v := (-2)) d_Told_nextTaste_7 rfl (by decide) ?_
  refine Wp.topi (fun x3460 ex3460 => ?_)
  refine g_istore (pc1 := 11) (lv' := [(0, .ref 383), (1, .ref Ld1), (2, .int p2), (3, .int x3459), (4, .int x3460)]) d_Told_nextTaste_9 rfl (by decide) [1, 2, 3, 4, 0] rfl ?_
  refine g_iconst (pc1 := 12) (v := 0) d_Told_nextTaste_11 rfl (by decide) ?_
  refine g_istore (pc1 := 14) (lv' := [(0, .ref 383), (1, .ref Ld1), (2, .int p2), (3, .int x3459), (4, .int x3460), (5, .int 0)]) d_Told_nextTaste_12 rfl (by decide) [1, 2, 3, 4, 5, 0] rfl ?_
  have LP3464 : ∀ (f3461 : Nat) (v3465 : Int32) (v3466 : Int32) (v3467 : Int32) (M3468 : gM) (L3469 : gL), Kp S0 M L M3468 L3469 → ¬ v3467 < 0 → ((3 : Int32).toInt - v3467.toInt).toNat < f3461 → Wp l y_Told_nextTaste (0, 0, 447) 447 0 0 14 [(0, .ref 383), (1, .ref Ld1), (2, .int p2), (3, .int v3465), (4, .int v3466), (5, .int v3467)] [] M3468 L3469 (rf ld) Q := by
    intro f3461
    induction f3461 with
    | zero => intro v3465 v3466 v3467 M3468 L3469 _ _ hm3463; exact absurd hm3463 (Nat.not_lt_zero _)
    | succ f3461 ih3462 =>
      intro v3465 v3466 v3467 M3468 L3469 k3470 n3471 hm3463
      refine g_aload_n (pc1 := 15) d_Told_nextTaste_14 rfl 0 rfl ?_
      refine g_geti (pc1 := 18) d_Told_nextTaste_15 rfl ⟨_, fo_Told_41⟩ sh_383 (by decide) ?_
      refine g_if_le (pc1 := 21) (tgt := 80) d_Told_nextTaste_18 (by decide) rfl (fun h3472 => ?_) (fun h3472 => ?_)
      · refine g_iload (pc1 := 82) d_Told_nextTaste_80 rfl 4 rfl ?_
        refine g_ireturn (Or.inl rfl) d_Told_nextTaste_82 rfl ?_
        exact hQ _ _ _ k3470
      · refine g_iload (pc1 := 23) d_Told_nextTaste_21 rfl 5 rfl ?_
        refine g_iconst (pc1 := 24) (v := 3) d_Told_nextTaste_23 rfl (by decide) ?_
        refine g_icmp_ge (pc1 := 27) (tgt := 80) d_Told_nextTaste_24 (by decide) rfl (fun h3473 => ?_) (fun h3473 => ?_)
        · refine g_iload (pc1 := 82) d_Told_nextTaste_80 rfl 4 rfl ?_
          refine g_ireturn (Or.inl rfl) d_Told_nextTaste_82 rfl ?_
          exact hQ _ _ _ k3470
        · refine g_iconst (pc1 := 28) (v := 0) d_Told_nextTaste_27 rfl (by decide) ?_
          refine g_istore (pc1 := 30) (lv' := [(0, .ref 383), (1, .ref Ld1), (2, .int p2), (3, .int v3465), (4, .int v3466), (5, .int v3467), (6, .int 0)]) d_Told_nextTaste_28 rfl (by decide) [1, 2, 3, 4, 5, 6, 0] rfl ?_
          have LP3477 : ∀ (f3474 : Nat) (v3478 : Int32) (v3479 : Int32) (v3480 : Int32) (M3481 : gM) (L3482 : gL), Kp S0 M L M3481 L3482 → ¬ v3480 < 0 → ((10 : Int32).toInt - v3480.toInt).toNat < f3474 → Wp l y_Told_nextTaste (0, 0, 447) 447 0 0 30 [(0, .ref 383), (1, .ref Ld1), (2, .int p2), (3, .int v3478), (4, .int v3479), (5, .int v3467), (6, .int v3480)] [] M3481 L3482 (rf ld) Q := by
            intro f3474
            induction f3474 with
            | zero => intro v3478 v3479 v3480 M3481 L3482 _ _ hm3476; exact absurd hm3476 (Nat.not_lt_zero _)
            | succ f3474 ih3475 =>
              intro v3478 v3479 v3480 M3481 L3482 k3483 n3484 hm3476
              refine g_iload (pc1 := 32) d_Told_nextTaste_30 rfl 6 rfl ?_
              refine g_bipush (pc1 := 34) (v := 10) d_Told_nextTaste_32 rfl (by decide) ?_
              refine g_icmp_ge (pc1 := 37) (tgt := 74) d_Told_nextTaste_34 (by decide) rfl (fun h3485 => ?_) (fun h3485 => ?_)
              · obtain ⟨x3486, ex3486⟩ : ∃ y : Int32, y = v3467 + 1 := ⟨_, rfl⟩
                refine g_iinc (pc1 := 77) (v := x3486) (lv' := [(0, .ref 383), (1, .ref Ld1), (2, .int p2), (3, .int v3478), (4, .int v3479), (5, .int x3486), (6, .int v3480)]) d_Told_nextTaste_74 rfl 5 rfl (by rw [ex3486]; rfl) (by decide) [1, 2, 3, 4, 5, 0, 6] rfl ?_
                refine g_goto (tgt := 14) d_Told_nextTaste_77 (by decide) ?_
                refine Wp.loc (lv' := [(0, .ref 383), (1, .ref Ld1), (2, .int p2), (3, .int v3478), (4, .int v3479), (5, .int x3486)]) [0, 1, 2, 3, 4, 5] rfl ?_
                exact ih3462 v3478 v3479 x3486 M3481 L3482 k3483 (nn_up (y := (3 : Int32)) h3473 ex3486 n3471) (md_up h3473 ex3486 hm3463)
              · refine g_aload_n (pc1 := 38) d_Told_nextTaste_37 rfl 0 rfl ?_
                refine g_aload_n (pc1 := 39) d_Told_nextTaste_38 rfl 1 rfl ?_
                refine g_iload_n (pc1 := 40) d_Told_nextTaste_39 rfl 2 rfl ?_
                refine g_iload (pc1 := 42) d_Told_nextTaste_40 rfl 5 rfl ?_
                refine g_iload (pc1 := 44) d_Told_nextTaste_42 rfl 6 rfl ?_
                refine g_callV0 (pc1 := 47) (As := [.ref Ld1, .int p2, .int v3467, .int v3480]) (rest := []) d_Told_nextTaste_44 rfl mo_Told_85 mi_Told_mostAlike mv_Told_mostAlike rfl sh_383 (by decide) (by decide) rfl rfl (Nat.le_of_ble_eq_true rfl) ?_
                refine t1_Told_mostAlike hld Ld1 hLd1 _ _ _ (fun r3487 M3488 L3489 k3490 => ?_)
                refine g_istore (pc1 := 49) (lv' := [(0, .ref 383), (1, .ref Ld1), (2, .int p2), (3, .int v3478), (4, .int v3479), (5, .int v3467), (6, .int v3480), (7, .int r3487)]) d_Told_nextTaste_47 rfl (by decide) [1, 2, 3, 4, 5, 6, 7, 0] rfl ?_
                refine g_iload (pc1 := 51) d_Told_nextTaste_49 rfl 7 rfl ?_
                refine g_iload_n (pc1 := 52) d_Told_nextTaste_51 rfl 3 rfl ?_
                refine g_icmp_ge (pc1 := 55) (tgt := 68) d_Told_nextTaste_52 (by decide) rfl (fun h3491 => ?_) (fun h3491 => ?_)
                · obtain ⟨x3492, ex3492⟩ : ∃ y : Int32, y = v3480 + 1 := ⟨_, rfl⟩
                  refine g_iinc (pc1 := 71) (v := x3492) (lv' := [(0, .ref 383), (1, .ref Ld1), (2, .int p2), (3, .int v3478), (4, .int v3479), (5, .int v3467), (6, .int x3492), (7, .int r3487)]) d_Told_nextTaste_68 rfl 6 rfl (by rw [ex3492]; rfl) (by decide) [1, 2, 3, 4, 5, 6, 0, 7] rfl ?_
                  refine g_goto (tgt := 30) d_Told_nextTaste_71 (by decide) ?_
                  refine Wp.loc (lv' := [(0, .ref 383), (1, .ref Ld1), (2, .int p2), (3, .int v3478), (4, .int v3479), (5, .int v3467), (6, .int x3492)]) [0, 1, 2, 3, 4, 5, 6] rfl ?_
                  exact ih3475 v3478 v3479 x3492 M3488 L3489 (Kp.trans k3483 k3490) (nn_up (y := (10 : Int32)) h3485 ex3492 n3484) (md_up h3485 ex3492 hm3476)
                · refine g_iload (pc1 := 57) d_Told_nextTaste_55 rfl 7 rfl ?_
                  refine g_istore_n (pc1 := 58) (lv' := [(0, .ref 383), (1, .ref Ld1), (2, .int p2), (3, .int r3487), (4, .int v3479), (5, .int v3467), (6, .int v3480), (7, .int r3487)]) d_Told_nextTaste_57 rfl rfl (by decide) [1, 2, 3, 0, 4, 5, 6, 7] rfl ?_
                  refine g_bipush (pc1 := 60) (v := 10) d_Told_nextTaste_58 rfl (by decide) ?_
                  refine g_iload (pc1 := 62) d_Told_nextTaste_60 rfl 5 rfl ?_
                  refine g_imul (pc1 := 63) d_Told_nextTaste_62 rfl ?_
                  refine g_iload (pc1 := 65) d_Told_nextTaste_63 rfl 6 rfl ?_
                  refine g_iadd (pc1 := 66) d_Told_nextTaste_65 rfl ?_
                  refine Wp.topi (fun x3493 ex3493 => ?_)
                  refine g_istore (pc1 := 68) (lv' := [(0, .ref 383), (1, .ref Ld1), (2, .int p2), (3, .int r3487), (4, .int x3493), (5, .int v3467), (6, .int v3480), (7, .int r3487)]) d_Told_nextTaste_66 rfl (by decide) [1, 2, 3, 4, 0, 5, 6, 7] rfl ?_
                  obtain ⟨x3494, ex3494⟩ : ∃ y : Int32, y = v3480 + 1 := ⟨_, rfl⟩
                  refine g_iinc (pc1 := 71) (v := x3494) (lv' := [(0, .ref 383), (1, .ref Ld1), (2, .int p2), (3, .int r3487), (4, .int x3493), (5, .int v3467), (6, .int x3494), (7, .int r3487)]) d_Told_nextTaste_68 rfl 6 rfl (by rw [ex3494]; rfl) (by decide) [1, 2, 3, 4, 5, 6, 0, 7] rfl ?_
                  refine g_goto (tgt := 30) d_Told_nextTaste_71 (by decide) ?_
                  refine Wp.loc (lv' := [(0, .ref 383), (1, .ref Ld1), (2, .int p2), (3, .int r3487), (4, .int x3493), (5, .int v3467), (6, .int x3494)]) [0, 1, 2, 3, 4, 5, 6] rfl ?_
                  exact ih3475 r3487 x3493 x3494 M3488 L3489 (Kp.trans k3483 k3490) (nn_up (y := (10 : Int32)) h3485 ex3494 n3484) (md_up h3485 ex3494 hm3476)
          exact LP3477 _ v3465 v3466 0 M3468 L3469 k3470 (by decide) (Nat.lt_succ_self _)
  exact LP3464 _ x3459 x3460 0 M L Kp.rf (by decide) (Nat.lt_succ_self _)
set_option maxHeartbeats 4000000 in
set_option maxRecDepth 20000 in
theorem t1_Main_blame {l : Launch} {ld : Nat} (hld : isLa ld) {M : gM} {L : gL} {Q : Option Value → gM → gL → gR → Prop} (p1 : Int32) (hQ : ∀ (r : Int32) (M' : gM) (L' : gL), Kp S1 M L M' L' → Q (some (.int r)) M' L' (rf ld)) : Tm l y_Main_blame (0, 0, 447) 447 [.ref 0, .int p1] M L (rf ld) Q := by
  refine Tm.of (by decide) (Nat.le_of_ble_eq_true rfl) ?_
  show Wp l y_Main_blame (0, 0, 447) 447 0 0 0 [(0, .ref 0), (1, .int p1)] [] M L (rf ld) Q
  refine g_iload_n (pc1 := 1) d_Main_blame_0 rfl 1 rfl ?_
  refine g_aload_n (pc1 := 2) d_Main_blame_1 rfl 0 rfl ?_
  refine g_getr (pc1 := 5) d_Main_blame_2 rfl ⟨_, fo_Main_60⟩ sh_0 (by decide) (rf_0_8 ld) ?_
  refine g_geti (pc1 := 8) d_Main_blame_5 rfl ⟨_, fo_Main_275⟩ sh_383 (by decide) ?_
  refine g_iconst (pc1 := 9) (v := 1) d_Main_blame_8 rfl (by decide) ?_
  refine g_iadd (pc1 := 10) d_Main_blame_9 rfl ?_
  refine g_callS0 (pc1 := 13) (As := [.int p1, .int ((M 383 3) + 1)]) (rest := []) d_Main_blame_10 rfl mo_Main_112 ms_Main_isOne (by decide) rfl rfl (Nat.le_of_ble_eq_true rfl) ?_
  refine t1_Main_isOne hld _ _ (fun r3495 hr3495 => ?_)
  refine g_if_ne (pc1 := 16) (tgt := 18) d_Main_blame_13 (by decide) rfl (fun h3496 => ?_) (fun h3496 => ?_)
  · refine g_aload_n (pc1 := 19) d_Main_blame_18 rfl 0 rfl ?_
    refine g_getr (pc1 := 22) d_Main_blame_19 rfl ⟨_, fo_Main_60⟩ sh_0 (by decide) (rf_0_8 ld) ?_
    refine g_aload_n (pc1 := 23) d_Main_blame_22 rfl 0 rfl ?_
    refine g_getr (pc1 := 26) d_Main_blame_23 rfl ⟨_, fo_Main_26⟩ sh_0 (by decide) (rf_0_2 ld) ?_
    refine g_aload_n (pc1 := 27) d_Main_blame_26 rfl 0 rfl ?_
    refine g_getr (pc1 := 30) d_Main_blame_27 rfl ⟨_, fo_Main_36⟩ sh_0 (by decide) (rf_0_4 ld) ?_
    refine g_geti (pc1 := 33) d_Main_blame_30 rfl ⟨_, fo_Main_144⟩ (shSt_0 isSt_64) (ltSt_0 isSt_64) ?_
    refine g_iload_n (pc1 := 34) d_Main_blame_33 rfl 1 rfl ?_
    refine g_callV0 (pc1 := 37) (As := [.ref ld, .int (M 64 0), .int p1]) (rest := []) d_Main_blame_34 rfl mo_Main_278 mi_Told_gather mv_Told_gather rfl sh_383 (by decide) (by decide) rfl rfl (Nat.le_of_ble_eq_true rfl) ?_
    refine t1_Told_gather hld ld hld _ _ (fun  M3497 L3498 k3499 => ?_)
    refine g_aload_n (pc1 := 38) d_Main_blame_37 rfl 0 rfl ?_
    refine g_getr (pc1 := 41) d_Main_blame_38 rfl ⟨_, fo_Main_60⟩ sh_0 (by decide) (rf_0_8 ld) ?_
    refine g_geti (pc1 := 44) d_Main_blame_41 rfl ⟨_, fo_Main_282⟩ sh_383 (by decide) ?_
    refine g_ireturn (Or.inl rfl) d_Main_blame_44 rfl ?_
    exact hQ _ _ _ (Kp.trans Kp.rf k3499)
  · refine g_iconst (pc1 := 17) (v := (-1)) d_Main_blame_16 rfl (by decide) ?_
    refine g_ireturn (Or.inl rfl) d_Main_blame_17 rfl ?_
    exact hQ _ _ _ Kp.rf
set_option maxHeartbeats 4000000 in
set_option maxRecDepth 20000 in
theorem t1_Main_cook {l : Launch} {ld : Nat} (hld : isLa ld) {M : gM} {L : gL} {Q : Option Value → gM → gL → gR → Prop} (p1 : Int32) (hQ : ∀ (r : Int32) (M' : gM) (L' : gL), Kp S1 M L M' L' → Q (some (.int r)) M' L' (rf ld)) : Tm l y_Main_cook (0, 0, 447) 447 [.ref 0, .int p1] M L (rf ld) Q := by
  refine Tm.of (by decide) (Nat.le_of_ble_eq_true rfl) ?_
  show Wp l y_Main_cook (0, 0, 447) 447 0 0 0 [(0, .ref 0), (1, .int p1)] [] M L (rf ld) Q
  refine g_iload_n (pc1 := 1) d_Main_cook_0 rfl 1 rfl ?_
  refine g_aload_n (pc1 := 2) d_Main_cook_1 rfl 0 rfl ?_
  refine g_getr (pc1 := 5) d_Main_cook_2 rfl ⟨_, fo_Main_26⟩ sh_0 (by decide) (rf_0_2 ld) ?_
  refine g_geti (pc1 := 8) d_Main_cook_5 rfl ⟨_, fo_Main_131⟩ (shLa_0 hld) (ltLa_0 hld) ?_
  refine g_callS0 (pc1 := 11) (As := [.int p1, .int (M ld 1)]) (rest := []) d_Main_cook_8 rfl mo_Main_112 ms_Main_isOne (by decide) rfl rfl (Nat.le_of_ble_eq_true rfl) ?_
  refine t1_Main_isOne hld _ _ (fun r3500 hr3500 => ?_)
  refine g_if_ne (pc1 := 14) (tgt := 16) d_Main_cook_11 (by decide) rfl (fun h3501 => ?_) (fun h3501 => ?_)
  · refine g_aload_n (pc1 := 17) d_Main_cook_16 rfl 0 rfl ?_
    refine g_getr (pc1 := 20) d_Main_cook_17 rfl ⟨_, fo_Main_36⟩ sh_0 (by decide) (rf_0_4 ld) ?_
    refine g_aload_n (pc1 := 21) d_Main_cook_20 rfl 0 rfl ?_
    refine g_getr (pc1 := 24) d_Main_cook_21 rfl ⟨_, fo_Main_26⟩ sh_0 (by decide) (rf_0_2 ld) ?_
    refine g_iload_n (pc1 := 25) d_Main_cook_24 rfl 1 rfl ?_
    refine g_callV0 (pc1 := 28) (As := [.ref ld, .int p1]) (rest := []) d_Main_cook_25 rfl mo_Main_196 mi_State_inStore mv_State_inStore rfl (shSt_0 isSt_64) (ltSt_0 isSt_64) (by decide) rfl rfl (Nat.le_of_ble_eq_true rfl) ?_
    refine t1_State_inStore hld 64 isSt_64 ld hld _ (fun r3502 hr3502 => ?_)
    refine g_if_ne (pc1 := 31) (tgt := 34) d_Main_cook_28 (by decide) rfl (fun h3503 => ?_) (fun h3503 => ?_)
    · refine g_aload_n (pc1 := 35) d_Main_cook_34 rfl 0 rfl ?_
      refine g_getr (pc1 := 38) d_Main_cook_35 rfl ⟨_, fo_Main_46⟩ sh_0 (by decide) (rf_0_6 ld) ?_
      refine g_aload_n (pc1 := 39) d_Main_cook_38 rfl 0 rfl ?_
      refine g_getr (pc1 := 42) d_Main_cook_39 rfl ⟨_, fo_Main_36⟩ sh_0 (by decide) (rf_0_4 ld) ?_
      refine g_callV0 (pc1 := 45) (As := [.ref 64]) (rest := []) d_Main_cook_42 rfl mo_Main_200 mi_Past_keep mv_Past_keep rfl sh_78 (by decide) (by decide) rfl rfl (Nat.le_of_ble_eq_true rfl) ?_
      refine t1_Past_keep hld 64 isSt_64 (fun  M3504 L3505 k3506 => ?_)
      refine g_aload_n (pc1 := 46) d_Main_cook_45 rfl 0 rfl ?_
      refine g_getr (pc1 := 49) d_Main_cook_46 rfl ⟨_, fo_Main_36⟩ sh_0 (by decide) (rf_0_4 ld) ?_
      refine g_aload_n (pc1 := 50) d_Main_cook_49 rfl 0 rfl ?_
      refine g_getr (pc1 := 53) d_Main_cook_50 rfl ⟨_, fo_Main_26⟩ sh_0 (by decide) (rf_0_2 ld) ?_
      refine g_iload_n (pc1 := 54) d_Main_cook_53 rfl 1 rfl ?_
      refine g_callV0 (pc1 := 57) (As := [.ref ld, .int p1]) (rest := []) d_Main_cook_54 rfl mo_Main_204 mi_State_cookOne mv_State_cookOne rfl (shSt_0 isSt_64) (ltSt_0 isSt_64) (by decide) rfl rfl (Nat.le_of_ble_eq_true rfl) ?_
      refine t1_State_cookOne hld 64 isSt_64 ld hld _ (fun r3507 M3508 L3509 k3510 => ?_)
      refine g_ireturn (Or.inl rfl) d_Main_cook_57 rfl ?_
      exact hQ _ _ _ (Kp.trans (Kp.trans Kp.rf k3506) k3510)
    · refine g_bipush (pc1 := 33) (v := (-3)) d_Main_cook_31 rfl (by decide) ?_
      refine g_ireturn (Or.inl rfl) d_Main_cook_33 rfl ?_
      exact hQ _ _ _ Kp.rf
  · refine g_iconst (pc1 := 15) (v := (-1)) d_Main_cook_14 rfl (by decide) ?_
    refine g_ireturn (Or.inl rfl) d_Main_cook_15 rfl ?_
    exact hQ _ _ _ Kp.rf
set_option maxHeartbeats 4000000 in
set_option maxRecDepth 20000 in
theorem t1_Main_deed {l : Launch} {ld : Nat} (hld : isLa ld) {M : gM} {L : gL} {Q : Option Value → gM → gL → gR → Prop} (p1 : Int32) (p2 : Int32) (hQ : ∀ (r : Int32) (M' : gM) (L' : gL), Kp S0 M L M' L' → Q (some (.int r)) M' L' (rf ld)) : Tm l y_Main_deed (0, 0, 447) 447 [.ref 0, .int p1, .int p2] M L (rf ld) Q := by
  refine Tm.of (by decide) (Nat.le_of_ble_eq_true rfl) ?_
  show Wp l y_Main_deed (0, 0, 447) 447 0 0 0 [(0, .ref 0), (1, .int p1), (2, .int p2)] [] M L (rf ld) Q
  refine g_iload_n (pc1 := 1) d_Main_deed_0 rfl 1 rfl ?_
  refine g_aload_n (pc1 := 2) d_Main_deed_1 rfl 0 rfl ?_
  refine g_getr (pc1 := 5) d_Main_deed_2 rfl ⟨_, fo_Main_26⟩ sh_0 (by decide) (rf_0_2 ld) ?_
  refine g_geti (pc1 := 8) d_Main_deed_5 rfl ⟨_, fo_Main_177⟩ (shLa_0 hld) (ltLa_0 hld) ?_
  refine g_callS0 (pc1 := 11) (As := [.int p1, .int (M ld 3)]) (rest := []) d_Main_deed_8 rfl mo_Main_112 ms_Main_isOne (by decide) rfl rfl (Nat.le_of_ble_eq_true rfl) ?_
  refine t1_Main_isOne hld _ _ (fun r3511 hr3511 => ?_)
  refine g_if_ne (pc1 := 14) (tgt := 16) d_Main_deed_11 (by decide) rfl (fun h3512 => ?_) (fun h3512 => ?_)
  · refine g_iload_n (pc1 := 17) d_Main_deed_16 rfl 2 rfl ?_
    by_cases h3513 : p2 = 0
    · refine g_tabK (tgt := 44) (off := 27) d_Main_deed_17 h3513 (by decide) (by decide) (by decide) (by decide) ?_
      refine g_aload_n (pc1 := 45) d_Main_deed_44 rfl 0 rfl ?_
      refine g_getr (pc1 := 48) d_Main_deed_45 rfl ⟨_, fo_Main_26⟩ sh_0 (by decide) (rf_0_2 ld) ?_
      refine g_getr (pc1 := 51) d_Main_deed_48 rfl ⟨_, fo_Main_180⟩ (shLa_0 hld) (ltLa_0 hld) (rfLa_11 ld hld) ?_
      refine g_iload_n (pc1 := 52) d_Main_deed_51 rfl 1 rfl ?_
      refine g_callS0 (pc1 := 55) (As := [.ref (ld + 7), .int p1]) (rest := []) d_Main_deed_52 rfl mo_Main_120 ms_Main_at (by decide) rfl rfl (Nat.le_of_ble_eq_true rfl) ?_
      refine t1_Main_at hld (ld + 7) (shLa_7 hld) (ltLa_7 hld) (by decide) _ (fun r3514 => ?_)
      refine g_ireturn (Or.inl rfl) d_Main_deed_55 rfl ?_
      exact hQ _ _ _ Kp.rf
    by_cases h3515 : p2 = 1
    · refine g_tabK (tgt := 56) (off := 39) d_Main_deed_17 h3515 (by decide) (by decide) (by decide) (by decide) ?_
      refine g_aload_n (pc1 := 57) d_Main_deed_56 rfl 0 rfl ?_
      refine g_getr (pc1 := 60) d_Main_deed_57 rfl ⟨_, fo_Main_26⟩ sh_0 (by decide) (rf_0_2 ld) ?_
      refine g_getr (pc1 := 63) d_Main_deed_60 rfl ⟨_, fo_Main_183⟩ (shLa_0 hld) (ltLa_0 hld) (rfLa_12 ld hld) ?_
      refine g_iload_n (pc1 := 64) d_Main_deed_63 rfl 1 rfl ?_
      refine g_callS0 (pc1 := 67) (As := [.ref (ld + 8), .int p1]) (rest := []) d_Main_deed_64 rfl mo_Main_120 ms_Main_at (by decide) rfl rfl (Nat.le_of_ble_eq_true rfl) ?_
      refine t1_Main_at hld (ld + 8) (shLa_8 hld) (ltLa_8 hld) (by decide) _ (fun r3516 => ?_)
      refine g_ireturn (Or.inl rfl) d_Main_deed_67 rfl ?_
      exact hQ _ _ _ Kp.rf
    by_cases h3517 : p2 = 2
    · refine g_tabK (tgt := 68) (off := 51) d_Main_deed_17 h3517 (by decide) (by decide) (by decide) (by decide) ?_
      refine g_aload_n (pc1 := 69) d_Main_deed_68 rfl 0 rfl ?_
      refine g_iload_n (pc1 := 70) d_Main_deed_69 rfl 1 rfl ?_
      refine g_callV0 (pc1 := 73) (As := [.int p1]) (rest := []) d_Main_deed_70 rfl mo_Main_186 mi_Main_guestsFreeTo mv_Main_guestsFreeTo rfl sh_0 (by decide) (by decide) rfl rfl (Nat.le_of_ble_eq_true rfl) ?_
      refine t1_Main_guestsFreeTo hld _ (fun r3518 M3519 L3520 k3521 => ?_)
      refine g_ireturn (Or.inl rfl) d_Main_deed_73 rfl ?_
      exact hQ _ _ _ (Kp.trans Kp.rf k3521)
    refine g_tabOut (tgt := 74) d_Main_deed_17 (by
      have nh3513 := neT (a := 0) h3513 (by decide)
      have nh3515 := neT (a := 1) h3515 (by decide)
      have nh3517 := neT (a := 2) h3517 (by decide)
      omega) (by decide) ?_
    refine g_iconst (pc1 := 75) (v := (-1)) d_Main_deed_74 rfl (by decide) ?_
    refine g_ireturn (Or.inl rfl) d_Main_deed_75 rfl ?_
    exact hQ _ _ _ Kp.rf
  · refine g_iconst (pc1 := 15) (v := (-1)) d_Main_deed_14 rfl (by decide) ?_
    refine g_ireturn (Or.inl rfl) d_Main_deed_15 rfl ?_
    exact hQ _ _ _ Kp.rf
set_option maxHeartbeats 4000000 in
set_option maxRecDepth 20000 in
theorem t1_Main_feud {l : Launch} {ld : Nat} (hld : isLa ld) {M : gM} {L : gL} {Q : Option Value → gM → gL → gR → Prop} (p1 : Int32) (p2 : Int32) (p3 : Int32) (hQ : ∀ (r : Int32) (M' : gM) (L' : gL), Kp S0 M L M' L' → Q (some (.int r)) M' L' (rf ld)) : Tm l y_Main_feud (0, 0, 447) 447 [.ref 0, .int p1, .int p2, .int p3] M L (rf ld) Q := by
  refine Tm.of (by decide) (Nat.le_of_ble_eq_true rfl) ?_
  show Wp l y_Main_feud (0, 0, 447) 447 0 0 0 [(0, .ref 0), (1, .int p1), (2, .int p2), (3, .int p3)] [] M L (rf ld) Q
  refine g_iload_n (pc1 := 1) d_Main_feud_0 rfl 1 rfl ?_
  refine g_aload_n (pc1 := 2) d_Main_feud_1 rfl 0 rfl ?_
  refine g_getr (pc1 := 5) d_Main_feud_2 rfl ⟨_, fo_Main_26⟩ sh_0 (by decide) (rf_0_2 ld) ?_
  refine g_geti (pc1 := 8) d_Main_feud_5 rfl ⟨_, fo_Main_157⟩ (shLa_0 hld) (ltLa_0 hld) ?_
  refine g_callS0 (pc1 := 11) (As := [.int p1, .int (M ld 2)]) (rest := []) d_Main_feud_8 rfl mo_Main_112 ms_Main_isOne (by decide) rfl rfl (Nat.le_of_ble_eq_true rfl) ?_
  refine t1_Main_isOne hld _ _ (fun r3522 hr3522 => ?_)
  refine g_if_eq (pc1 := 14) (tgt := 47) d_Main_feud_11 (by decide) rfl (fun h3523 => ?_) (fun h3523 => ?_)
  · refine g_iconst (pc1 := 48) (v := (-1)) d_Main_feud_47 rfl (by decide) ?_
    refine g_ireturn (Or.inl rfl) d_Main_feud_48 rfl ?_
    exact hQ _ _ _ Kp.rf
  · refine g_iload_n (pc1 := 15) d_Main_feud_14 rfl 2 rfl ?_
    refine g_aload_n (pc1 := 16) d_Main_feud_15 rfl 0 rfl ?_
    refine g_getr (pc1 := 19) d_Main_feud_16 rfl ⟨_, fo_Main_26⟩ sh_0 (by decide) (rf_0_2 ld) ?_
    refine g_geti (pc1 := 22) d_Main_feud_19 rfl ⟨_, fo_Main_177⟩ (shLa_0 hld) (ltLa_0 hld) ?_
    refine g_callS0 (pc1 := 25) (As := [.int p2, .int (M ld 3)]) (rest := []) d_Main_feud_22 rfl mo_Main_112 ms_Main_isOne (by decide) rfl rfl (Nat.le_of_ble_eq_true rfl) ?_
    refine t1_Main_isOne hld _ _ (fun r3524 hr3524 => ?_)
    refine g_if_eq (pc1 := 28) (tgt := 47) d_Main_feud_25 (by decide) rfl (fun h3525 => ?_) (fun h3525 => ?_)
    · refine g_iconst (pc1 := 48) (v := (-1)) d_Main_feud_47 rfl (by decide) ?_
      refine g_ireturn (Or.inl rfl) d_Main_feud_48 rfl ?_
      exact hQ _ _ _ Kp.rf
    · refine g_iload_n (pc1 := 29) d_Main_feud_28 rfl 3 rfl ?_
      refine g_aload_n (pc1 := 30) d_Main_feud_29 rfl 0 rfl ?_
      refine g_getr (pc1 := 33) d_Main_feud_30 rfl ⟨_, fo_Main_26⟩ sh_0 (by decide) (rf_0_2 ld) ?_
      refine g_geti (pc1 := 36) d_Main_feud_33 rfl ⟨_, fo_Main_177⟩ (shLa_0 hld) (ltLa_0 hld) ?_
      refine g_callS0 (pc1 := 39) (As := [.int p3, .int (M ld 3)]) (rest := []) d_Main_feud_36 rfl mo_Main_112 ms_Main_isOne (by decide) rfl rfl (Nat.le_of_ble_eq_true rfl) ?_
      refine t1_Main_isOne hld _ _ (fun r3526 hr3526 => ?_)
      refine g_if_eq (pc1 := 42) (tgt := 47) d_Main_feud_39 (by decide) rfl (fun h3527 => ?_) (fun h3527 => ?_)
      · refine g_iconst (pc1 := 48) (v := (-1)) d_Main_feud_47 rfl (by decide) ?_
        refine g_ireturn (Or.inl rfl) d_Main_feud_48 rfl ?_
        exact hQ _ _ _ Kp.rf
      · refine g_iload_n (pc1 := 43) d_Main_feud_42 rfl 2 rfl ?_
        refine g_iload_n (pc1 := 44) d_Main_feud_43 rfl 3 rfl ?_
        refine g_icmp_ne (pc1 := 47) (tgt := 49) d_Main_feud_44 (by decide) rfl (fun h3528 => ?_) (fun h3528 => ?_)
        · refine g_iconst (pc1 := 50) (v := 0) d_Main_feud_49 rfl (by decide) ?_
          refine g_istore (pc1 := 52) (lv' := [(0, .ref 0), (1, .int p1), (2, .int p2), (3, .int p3), (4, .int 0)]) d_Main_feud_50 rfl (by decide) [1, 2, 3, 4, 0] rfl ?_
          refine g_iconst (pc1 := 53) (v := 0) d_Main_feud_52 rfl (by decide) ?_
          refine g_istore (pc1 := 55) (lv' := [(0, .ref 0), (1, .int p1), (2, .int p2), (3, .int p3), (4, .int 0), (5, .int 0)]) d_Main_feud_53 rfl (by decide) [1, 2, 3, 4, 5, 0] rfl ?_
          have LP3532 : ∀ (f3529 : Nat) (v3533 : Int32) (v3534 : Int32) (M3535 : gM) (L3536 : gL), Kp S0 M L M3535 L3536 → ¬ v3534 < 0 → ((M ld 1).toInt - v3534.toInt).toNat < f3529 → Wp l y_Main_feud (0, 0, 447) 447 0 0 55 [(0, .ref 0), (1, .int p1), (2, .int p2), (3, .int p3), (4, .int v3533), (5, .int v3534)] [] M3535 L3536 (rf ld) Q := by
            intro f3529
            induction f3529 with
            | zero => intro v3533 v3534 M3535 L3536 _ _ hm3531; exact absurd hm3531 (Nat.not_lt_zero _)
            | succ f3529 ih3530 =>
              intro v3533 v3534 M3535 L3536 k3537 n3538 hm3531
              refine g_iload (pc1 := 57) d_Main_feud_55 rfl 5 rfl ?_
              refine g_aload_n (pc1 := 58) d_Main_feud_57 rfl 0 rfl ?_
              refine g_getr (pc1 := 61) d_Main_feud_58 rfl ⟨_, fo_Main_26⟩ sh_0 (by decide) (rf_0_2 ld) ?_
              refine g_geti (pc1 := 64) d_Main_feud_61 rfl ⟨_, fo_Main_131⟩ (shLa_0 hld) (ltLa_0 hld) ?_
              refine g_icmp_ge (pc1 := 67) (tgt := 106) d_Main_feud_64 (by decide) rfl (fun h3539 => ?_) (fun h3539 => ?_)
              · refine g_iload (pc1 := 108) d_Main_feud_106 rfl 4 rfl ?_
                refine g_ireturn (Or.inl rfl) d_Main_feud_108 rfl ?_
                exact hQ _ _ _ k3537
              · refine g_aload_n (pc1 := 68) d_Main_feud_67 rfl 0 rfl ?_
                refine g_iload_n (pc1 := 69) d_Main_feud_68 rfl 1 rfl ?_
                refine g_iload (pc1 := 71) d_Main_feud_69 rfl 5 rfl ?_
                refine g_callV0 (pc1 := 74) (As := [.int p1, .int v3534]) (rest := []) d_Main_feud_71 rfl mo_Main_246 mi_Main_freeBehind mv_Main_freeBehind rfl sh_0 (by decide) (by decide) rfl rfl (Nat.le_of_ble_eq_true rfl) ?_
                refine t1_Main_freeBehind hld _ _ (fun r3540 M3541 L3542 k3543 => ?_)
                refine g_istore (pc1 := 76) (lv' := [(0, .ref 0), (1, .int p1), (2, .int p2), (3, .int p3), (4, .int v3533), (5, .int v3534), (6, .int r3540)]) d_Main_feud_74 rfl (by decide) [1, 2, 3, 4, 5, 6, 0] rfl ?_
                refine g_iload (pc1 := 78) d_Main_feud_76 rfl 6 rfl ?_
                refine g_iload_n (pc1 := 79) d_Main_feud_78 rfl 2 rfl ?_
                refine g_callS0 (pc1 := 82) (As := [.int r3540, .int p2]) (rest := []) d_Main_feud_79 rfl mo_Main_193 ms_Main_hasBit (by decide) rfl rfl (Nat.le_of_ble_eq_true rfl) ?_
                refine t1_Main_hasBit hld _ _ (fun r3544 hr3544 => ?_)
                refine g_iload (pc1 := 84) d_Main_feud_82 rfl 6 rfl ?_
                refine g_iload_n (pc1 := 85) d_Main_feud_84 rfl 3 rfl ?_
                refine g_callS0 (pc1 := 88) (As := [.int r3540, .int p3]) (rest := [.int r3544]) d_Main_feud_85 rfl mo_Main_193 ms_Main_hasBit (by decide) rfl rfl (Nat.le_of_ble_eq_true rfl) ?_
                refine t1_Main_hasBit hld _ _ (fun r3545 hr3545 => ?_)
                refine g_icmp_eq (pc1 := 91) (tgt := 100) d_Main_feud_88 (by decide) rfl (fun h3546 => ?_) (fun h3546 => ?_)
                · obtain ⟨x3547, ex3547⟩ : ∃ y : Int32, y = v3534 + 1 := ⟨_, rfl⟩
                  refine g_iinc (pc1 := 103) (v := x3547) (lv' := [(0, .ref 0), (1, .int p1), (2, .int p2), (3, .int p3), (4, .int v3533), (5, .int x3547), (6, .int r3540)]) d_Main_feud_100 rfl 5 rfl (by rw [ex3547]; rfl) (by decide) [1, 2, 3, 4, 5, 0, 6] rfl ?_
                  refine g_goto (tgt := 55) d_Main_feud_103 (by decide) ?_
                  refine Wp.loc (lv' := [(0, .ref 0), (1, .int p1), (2, .int p2), (3, .int p3), (4, .int v3533), (5, .int x3547)]) [0, 1, 2, 3, 4, 5] rfl ?_
                  exact ih3530 v3533 x3547 M3541 L3542 (Kp.trans k3537 k3543) (nn_up (y := (M ld 1)) (by rw [← k3537.m (S0_La_0f hld) 1]; exact h3539) ex3547 n3538) (md_up (by rw [← k3537.m (S0_La_0f hld) 1]; exact h3539) ex3547 hm3531)
                · refine g_iload (pc1 := 93) d_Main_feud_91 rfl 4 rfl ?_
                  refine g_iconst (pc1 := 94) (v := 1) d_Main_feud_93 rfl (by decide) ?_
                  refine g_iload (pc1 := 96) d_Main_feud_94 rfl 5 rfl ?_
                  refine g_ishl (pc1 := 97) d_Main_feud_96 rfl ?_
                  refine g_ior (pc1 := 98) d_Main_feud_97 rfl ?_
                  refine Wp.topi (fun x3548 ex3548 => ?_)
                  refine g_istore (pc1 := 100) (lv' := [(0, .ref 0), (1, .int p1), (2, .int p2), (3, .int p3), (4, .int x3548), (5, .int v3534), (6, .int r3540)]) d_Main_feud_98 rfl (by decide) [1, 2, 3, 4, 0, 5, 6] rfl ?_
                  obtain ⟨x3549, ex3549⟩ : ∃ y : Int32, y = v3534 + 1 := ⟨_, rfl⟩
                  refine g_iinc (pc1 := 103) (v := x3549) (lv' := [(0, .ref 0), (1, .int p1), (2, .int p2), (3, .int p3), (4, .int x3548), (5, .int x3549), (6, .int r3540)]) d_Main_feud_100 rfl 5 rfl (by rw [ex3549]; rfl) (by decide) [1, 2, 3, 4, 5, 0, 6] rfl ?_
                  refine g_goto (tgt := 55) d_Main_feud_103 (by decide) ?_
                  refine Wp.loc (lv' := [(0, .ref 0), (1, .int p1), (2, .int p2), (3, .int p3), (4, .int x3548), (5, .int x3549)]) [0, 1, 2, 3, 4, 5] rfl ?_
                  exact ih3530 x3548 x3549 M3541 L3542 (Kp.trans k3537 k3543) (nn_up (y := (M ld 1)) (by rw [← k3537.m (S0_La_0f hld) 1]; exact h3539) ex3549 n3538) (md_up (by rw [← k3537.m (S0_La_0f hld) 1]; exact h3539) ex3549 hm3531)
          exact LP3532 _ 0 0 M L Kp.rf (by decide) (Nat.lt_succ_self _)
        · refine g_iconst (pc1 := 48) (v := (-1)) d_Main_feud_47 rfl (by decide) ?_
          refine g_ireturn (Or.inl rfl) d_Main_feud_48 rfl ?_
          exact hQ _ _ _ Kp.rf
set_option maxHeartbeats 4000000 in
set_option maxRecDepth 20000 in
theorem t1_Main_freestDish {l : Launch} {ld : Nat} (hld : isLa ld) {M : gM} {L : gL} {Q : Option Value → gM → gL → gR → Prop} (p1 : Int32) (hQ : ∀ (r : Int32) (M' : gM) (L' : gL), Kp S0 M L M' L' → Q (some (.int r)) M' L' (rf ld)) : Tm l y_Main_freestDish (0, 0, 447) 447 [.ref 0, .int p1] M L (rf ld) Q := by
  refine Tm.of (by decide) (Nat.le_of_ble_eq_true rfl) ?_
  show Wp l y_Main_freestDish (0, 0, 447) 447 0 0 0 [(0, .ref 0), (1, .int p1)] [] M L (rf ld) Q
  refine g_iconst (pc1 := 1) (v := (-1)) d_Main_freestDish_0 rfl (by decide) ?_
  refine Wp.topi (fun x3550 ex3550 => ?_)
  refine g_istore_n (pc1 := 2) (lv' := [(0, .ref 0), (1, .int p1), (2, .int x3550)]) d_Main_freestDish_1 rfl rfl (by decide) [1, 2, 0] rfl ?_
  refine g_iconst (pc1 := 3) (v := (-1)) d_Main_freestDish_2 rfl (by decide) ?_
  refine Wp.topi (fun x3551 ex3551 => ?_)
  refine g_istore_n (pc1 := 4) (lv' := [(0, .ref 0), (1, .int p1), (2, .int x3550), (3, .int x3551)]) d_Main_freestDish_3 rfl rfl (by decide) [1, 2, 3, 0] rfl ?_
  refine g_iconst (pc1 := 5) (v := 0) d_Main_freestDish_4 rfl (by decide) ?_
  refine g_istore (pc1 := 7) (lv' := [(0, .ref 0), (1, .int p1), (2, .int x3550), (3, .int x3551), (4, .int 0)]) d_Main_freestDish_5 rfl (by decide) [1, 2, 3, 4, 0] rfl ?_
  have LP3555 : ∀ (f3552 : Nat) (v3556 : Int32) (v3557 : Int32) (v3558 : Int32) (M3559 : gM) (L3560 : gL), Kp S0 M L M3559 L3560 → ¬ v3558 < 0 → ((M ld 1).toInt - v3558.toInt).toNat < f3552 → Wp l y_Main_freestDish (0, 0, 447) 447 0 0 7 [(0, .ref 0), (1, .int p1), (2, .int v3556), (3, .int v3557), (4, .int v3558)] [] M3559 L3560 (rf ld) Q := by
    intro f3552
    induction f3552 with
    | zero => intro v3556 v3557 v3558 M3559 L3560 _ _ hm3554; exact absurd hm3554 (Nat.not_lt_zero _)
    | succ f3552 ih3553 =>
      intro v3556 v3557 v3558 M3559 L3560 k3561 n3562 hm3554
      refine g_iload (pc1 := 9) d_Main_freestDish_7 rfl 4 rfl ?_
      refine g_aload_n (pc1 := 10) d_Main_freestDish_9 rfl 0 rfl ?_
      refine g_getr (pc1 := 13) d_Main_freestDish_10 rfl ⟨_, fo_Main_26⟩ sh_0 (by decide) (rf_0_2 ld) ?_
      refine g_geti (pc1 := 16) d_Main_freestDish_13 rfl ⟨_, fo_Main_131⟩ (shLa_0 hld) (ltLa_0 hld) ?_
      refine g_icmp_ge (pc1 := 19) (tgt := 49) d_Main_freestDish_16 (by decide) rfl (fun h3563 => ?_) (fun h3563 => ?_)
      · refine g_iload_n (pc1 := 50) d_Main_freestDish_49 rfl 3 rfl ?_
        refine g_ireturn (Or.inl rfl) d_Main_freestDish_50 rfl ?_
        exact hQ _ _ _ k3561
      · refine g_aload_n (pc1 := 20) d_Main_freestDish_19 rfl 0 rfl ?_
        refine g_iload_n (pc1 := 21) d_Main_freestDish_20 rfl 1 rfl ?_
        refine g_iload (pc1 := 23) d_Main_freestDish_21 rfl 4 rfl ?_
        refine g_callV0 (pc1 := 26) (As := [.int p1, .int v3558]) (rest := []) d_Main_freestDish_23 rfl mo_Main_246 mi_Main_freeBehind mv_Main_freeBehind rfl sh_0 (by decide) (by decide) rfl rfl (Nat.le_of_ble_eq_true rfl) ?_
        refine t1_Main_freeBehind hld _ _ (fun r3564 M3565 L3566 k3567 => ?_)
        refine g_callS0 (pc1 := 29) (As := [.int r3564]) (rest := []) d_Main_freestDish_26 rfl mo_Main_249 ms_Int_bitCount (by decide) rfl rfl (Nat.le_of_ble_eq_true rfl) ?_
        refine t1_Int_bitCount hld _ (fun r3568 => ?_)
        refine g_istore (pc1 := 31) (lv' := [(0, .ref 0), (1, .int p1), (2, .int v3556), (3, .int v3557), (4, .int v3558), (5, .int r3568)]) d_Main_freestDish_29 rfl (by decide) [1, 2, 3, 4, 5, 0] rfl ?_
        refine g_iload (pc1 := 33) d_Main_freestDish_31 rfl 5 rfl ?_
        refine g_iload_n (pc1 := 34) d_Main_freestDish_33 rfl 2 rfl ?_
        refine g_icmp_le (pc1 := 37) (tgt := 43) d_Main_freestDish_34 (by decide) rfl (fun h3569 => ?_) (fun h3569 => ?_)
        · obtain ⟨x3570, ex3570⟩ : ∃ y : Int32, y = v3558 + 1 := ⟨_, rfl⟩
          refine g_iinc (pc1 := 46) (v := x3570) (lv' := [(0, .ref 0), (1, .int p1), (2, .int v3556), (3, .int v3557), (4, .int x3570), (5, .int r3568)]) d_Main_freestDish_43 rfl 4 rfl (by rw [ex3570]; rfl) (by decide) [1, 2, 3, 4, 0, 5] rfl ?_
          refine g_goto (tgt := 7) d_Main_freestDish_46 (by decide) ?_
          refine Wp.loc (lv' := [(0, .ref 0), (1, .int p1), (2, .int v3556), (3, .int v3557), (4, .int x3570)]) [0, 1, 2, 3, 4] rfl ?_
          exact ih3553 v3556 v3557 x3570 M3565 L3566 (Kp.trans k3561 k3567) (nn_up (y := (M ld 1)) (by rw [← k3561.m (S0_La_0f hld) 1]; exact h3563) ex3570 n3562) (md_up (by rw [← k3561.m (S0_La_0f hld) 1]; exact h3563) ex3570 hm3554)
        · refine g_iload (pc1 := 39) d_Main_freestDish_37 rfl 5 rfl ?_
          refine g_istore_n (pc1 := 40) (lv' := [(0, .ref 0), (1, .int p1), (2, .int r3568), (3, .int v3557), (4, .int v3558), (5, .int r3568)]) d_Main_freestDish_39 rfl rfl (by decide) [1, 2, 0, 3, 4, 5] rfl ?_
          refine g_iload (pc1 := 42) d_Main_freestDish_40 rfl 4 rfl ?_
          refine g_istore_n (pc1 := 43) (lv' := [(0, .ref 0), (1, .int p1), (2, .int r3568), (3, .int v3558), (4, .int v3558), (5, .int r3568)]) d_Main_freestDish_42 rfl rfl (by decide) [1, 2, 3, 0, 4, 5] rfl ?_
          obtain ⟨x3571, ex3571⟩ : ∃ y : Int32, y = v3558 + 1 := ⟨_, rfl⟩
          refine g_iinc (pc1 := 46) (v := x3571) (lv' := [(0, .ref 0), (1, .int p1), (2, .int r3568), (3, .int v3558), (4, .int x3571), (5, .int r3568)]) d_Main_freestDish_43 rfl 4 rfl (by rw [ex3571]; rfl) (by decide) [1, 2, 3, 4, 0, 5] rfl ?_
          refine g_goto (tgt := 7) d_Main_freestDish_46 (by decide) ?_
          refine Wp.loc (lv' := [(0, .ref 0), (1, .int p1), (2, .int r3568), (3, .int v3558), (4, .int x3571)]) [0, 1, 2, 3, 4] rfl ?_
          exact ih3553 r3568 v3558 x3571 M3565 L3566 (Kp.trans k3561 k3567) (nn_up (y := (M ld 1)) (by rw [← k3561.m (S0_La_0f hld) 1]; exact h3563) ex3571 n3562) (md_up (by rw [← k3561.m (S0_La_0f hld) 1]; exact h3563) ex3571 hm3554)
  exact LP3555 _ x3550 x3551 0 M L Kp.rf (by decide) (Nat.lt_succ_self _)
set_option maxHeartbeats 4000000 in
set_option maxRecDepth 20000 in
theorem t1_Main_often {l : Launch} {ld : Nat} (hld : isLa ld) {M : gM} {L : gL} {Q : Option Value → gM → gL → gR → Prop} (p1 : Int32) (hQ : ∀ (r : Int32) (M' : gM) (L' : gL), Kp S1 M L M' L' → Q (some (.int r)) M' L' (rf ld)) : Tm l y_Main_often (0, 0, 447) 447 [.ref 0, .int p1] M L (rf ld) Q := by
  refine Tm.of (by decide) (Nat.le_of_ble_eq_true rfl) ?_
  show Wp l y_Main_often (0, 0, 447) 447 0 0 0 [(0, .ref 0), (1, .int p1)] [] M L (rf ld) Q
  refine g_iload_n (pc1 := 1) d_Main_often_0 rfl 1 rfl ?_
  refine g_aload_n (pc1 := 2) d_Main_often_1 rfl 0 rfl ?_
  refine g_getr (pc1 := 5) d_Main_often_2 rfl ⟨_, fo_Main_26⟩ sh_0 (by decide) (rf_0_2 ld) ?_
  refine g_geti (pc1 := 8) d_Main_often_5 rfl ⟨_, fo_Main_131⟩ (shLa_0 hld) (ltLa_0 hld) ?_
  refine g_callS0 (pc1 := 11) (As := [.int p1, .int (M ld 1)]) (rest := []) d_Main_often_8 rfl mo_Main_112 ms_Main_isOne (by decide) rfl rfl (Nat.le_of_ble_eq_true rfl) ?_
  refine t1_Main_isOne hld _ _ (fun r3572 hr3572 => ?_)
  refine g_if_ne (pc1 := 14) (tgt := 16) d_Main_often_11 (by decide) rfl (fun h3573 => ?_) (fun h3573 => ?_)
  · refine g_aload_n (pc1 := 17) d_Main_often_16 rfl 0 rfl ?_
    refine g_getr (pc1 := 20) d_Main_often_17 rfl ⟨_, fo_Main_40⟩ sh_0 (by decide) (rf_0_5 ld) ?_
    refine g_aload_n (pc1 := 21) d_Main_often_20 rfl 0 rfl ?_
    refine g_getr (pc1 := 24) d_Main_often_21 rfl ⟨_, fo_Main_36⟩ sh_0 (by decide) (rf_0_4 ld) ?_
    refine g_callV0 (pc1 := 27) (As := [.ref 64]) (rest := []) d_Main_often_24 rfl mo_Main_262 mi_State_copyFrom mv_State_copyFrom rfl (shSt_0 isSt_71) (ltSt_0 isSt_71) (by decide) rfl rfl (Nat.le_of_ble_eq_true rfl) ?_
    refine t1_State_copyFrom hld 71 isSt_71 64 isSt_64 (fun  M3574 L3575 k3576 => ?_)
    refine g_iconst (pc1 := 28) (v := 0) d_Main_often_27 rfl (by decide) ?_
    refine g_istore_n (pc1 := 29) (lv' := [(0, .ref 0), (1, .int p1), (2, .int 0)]) d_Main_often_28 rfl rfl (by decide) [1, 2, 0] rfl ?_
    have LP3580 : ∀ (f3577 : Nat) (v3581 : Int32) (M3582 : gM) (L3583 : gL), Kp S1 M L M3582 L3583 → ¬ v3581 < 0 → ((99 : Int32).toInt + 1 - v3581.toInt).toNat < f3577 → Wp l y_Main_often (0, 0, 447) 447 0 0 29 [(0, .ref 0), (1, .int p1), (2, .int v3581)] [] M3582 L3583 (rf ld) Q := by
      intro f3577
      induction f3577 with
      | zero => intro v3581 M3582 L3583 _ _ hm3579; exact absurd hm3579 (Nat.not_lt_zero _)
      | succ f3577 ih3578 =>
        intro v3581 M3582 L3583 k3584 n3585 hm3579
        refine g_iload_n (pc1 := 30) d_Main_often_29 rfl 2 rfl ?_
        refine g_bipush (pc1 := 32) (v := 99) d_Main_often_30 rfl (by decide) ?_
        refine g_icmp_gt (pc1 := 35) (tgt := 69) d_Main_often_32 (by decide) rfl (fun h3586 => ?_) (fun h3586 => ?_)
        · refine g_iload_n (pc1 := 70) d_Main_often_69 rfl 2 rfl ?_
          refine g_ireturn (Or.inl rfl) d_Main_often_70 rfl ?_
          exact hQ _ _ _ k3584
        · refine g_aload_n (pc1 := 36) d_Main_often_35 rfl 0 rfl ?_
          refine g_getr (pc1 := 39) d_Main_often_36 rfl ⟨_, fo_Main_40⟩ sh_0 (by decide) (rf_0_5 ld) ?_
          refine g_aload_n (pc1 := 40) d_Main_often_39 rfl 0 rfl ?_
          refine g_getr (pc1 := 43) d_Main_often_40 rfl ⟨_, fo_Main_26⟩ sh_0 (by decide) (rf_0_2 ld) ?_
          refine g_iload_n (pc1 := 44) d_Main_often_43 rfl 1 rfl ?_
          refine g_callV0 (pc1 := 47) (As := [.ref ld, .int p1]) (rest := []) d_Main_often_44 rfl mo_Main_196 mi_State_inStore mv_State_inStore rfl (shSt_0 isSt_71) (ltSt_0 isSt_71) (by decide) rfl rfl (Nat.le_of_ble_eq_true rfl) ?_
          refine t1_State_inStore hld 71 isSt_71 ld hld _ (fun r3587 hr3587 => ?_)
          refine g_if_eq (pc1 := 50) (tgt := 69) d_Main_often_47 (by decide) rfl (fun h3588 => ?_) (fun h3588 => ?_)
          · refine g_iload_n (pc1 := 70) d_Main_often_69 rfl 2 rfl ?_
            refine g_ireturn (Or.inl rfl) d_Main_often_70 rfl ?_
            exact hQ _ _ _ k3584
          · refine g_aload_n (pc1 := 51) d_Main_often_50 rfl 0 rfl ?_
            refine g_getr (pc1 := 54) d_Main_often_51 rfl ⟨_, fo_Main_40⟩ sh_0 (by decide) (rf_0_5 ld) ?_
            refine g_aload_n (pc1 := 55) d_Main_often_54 rfl 0 rfl ?_
            refine g_getr (pc1 := 58) d_Main_often_55 rfl ⟨_, fo_Main_26⟩ sh_0 (by decide) (rf_0_2 ld) ?_
            refine g_iload_n (pc1 := 59) d_Main_often_58 rfl 1 rfl ?_
            refine g_callV0 (pc1 := 62) (As := [.ref ld, .int p1]) (rest := []) d_Main_often_59 rfl mo_Main_204 mi_State_cookOne mv_State_cookOne rfl (shSt_0 isSt_71) (ltSt_0 isSt_71) (by decide) rfl rfl (Nat.le_of_ble_eq_true rfl) ?_
            refine t1_State_cookOne hld 71 isSt_71 ld hld _ (fun r3589 M3590 L3591 k3592 => ?_)
            refine g_pop (pc1 := 63) d_Main_often_62 rfl rfl ?_
            obtain ⟨x3593, ex3593⟩ : ∃ y : Int32, y = v3581 + 1 := ⟨_, rfl⟩
            refine g_iinc (pc1 := 66) (v := x3593) (lv' := [(0, .ref 0), (1, .int p1), (2, .int x3593)]) d_Main_often_63 rfl 2 rfl (by rw [ex3593]; rfl) (by decide) [1, 2, 0] rfl ?_
            refine g_goto (tgt := 29) d_Main_often_66 (by decide) ?_
            exact ih3578 x3593 M3590 L3591 (Kp.trans k3584 k3592) (nn_upe (y := (99 : Int32)) h3586 (by decide) ex3593 n3585) (md_upe h3586 (by decide) ex3593 hm3579)
    exact LP3580 _ 0 M3574 L3575 (Kp.trans Kp.rf k3576) (by decide) (Nat.lt_succ_self _)
  · refine g_iconst (pc1 := 15) (v := (-1)) d_Main_often_14 rfl (by decide) ?_
    refine g_ireturn (Or.inl rfl) d_Main_often_15 rfl ?_
    exact hQ _ _ _ Kp.rf
set_option maxHeartbeats 4000000 in
set_option maxRecDepth 20000 in
theorem t1_Main_pot {l : Launch} {ld : Nat} (hld : isLa ld) {M : gM} {L : gL} {Q : Option Value → gM → gL → gR → Prop} (p1 : Int32) (p2 : Int32) (p3 : Int32) (p4 : Int32) (hQ : ∀ (r : Int32) (M' : gM) (L' : gL), Kp S1 M L M' L' → Q (some (.int r)) M' L' (rf ld)) : Tm l y_Main_pot (0, 0, 447) 447 [.ref 0, .int p1, .int p2, .int p3, .int p4] M L (rf ld) Q := by
  refine Tm.of (by decide) (Nat.le_of_ble_eq_true rfl) ?_
  show Wp l y_Main_pot (0, 0, 447) 447 0 0 0 [(0, .ref 0), (1, .int p1), (2, .int p2), (3, .int p3), (4, .int p4)] [] M L (rf ld) Q
  refine g_iload_n (pc1 := 1) d_Main_pot_0 rfl 1 rfl ?_
  refine g_bipush (pc1 := 3) (v := 100) d_Main_pot_1 rfl (by decide) ?_
  refine g_callS0 (pc1 := 6) (As := [.int p1, .int 100]) (rest := []) d_Main_pot_3 rfl mo_Main_112 ms_Main_isOne (by decide) rfl rfl (Nat.le_of_ble_eq_true rfl) ?_
  refine t1_Main_isOne hld _ _ (fun r3594 hr3594 => ?_)
  refine g_if_eq (pc1 := 9) (tgt := 37) d_Main_pot_6 (by decide) rfl (fun h3595 => ?_) (fun h3595 => ?_)
  · refine g_iconst (pc1 := 38) (v := (-1)) d_Main_pot_37 rfl (by decide) ?_
    refine g_ireturn (Or.inl rfl) d_Main_pot_38 rfl ?_
    exact hQ _ _ _ Kp.rf
  · refine g_iload_n (pc1 := 10) d_Main_pot_9 rfl 2 rfl ?_
    refine g_bipush (pc1 := 12) (v := 100) d_Main_pot_10 rfl (by decide) ?_
    refine g_callS0 (pc1 := 15) (As := [.int p2, .int 100]) (rest := []) d_Main_pot_12 rfl mo_Main_112 ms_Main_isOne (by decide) rfl rfl (Nat.le_of_ble_eq_true rfl) ?_
    refine t1_Main_isOne hld _ _ (fun r3596 hr3596 => ?_)
    refine g_if_eq (pc1 := 18) (tgt := 37) d_Main_pot_15 (by decide) rfl (fun h3597 => ?_) (fun h3597 => ?_)
    · refine g_iconst (pc1 := 38) (v := (-1)) d_Main_pot_37 rfl (by decide) ?_
      refine g_ireturn (Or.inl rfl) d_Main_pot_38 rfl ?_
      exact hQ _ _ _ Kp.rf
    · refine g_iload_n (pc1 := 19) d_Main_pot_18 rfl 3 rfl ?_
      refine g_bipush (pc1 := 21) (v := 100) d_Main_pot_19 rfl (by decide) ?_
      refine g_callS0 (pc1 := 24) (As := [.int p3, .int 100]) (rest := []) d_Main_pot_21 rfl mo_Main_112 ms_Main_isOne (by decide) rfl rfl (Nat.le_of_ble_eq_true rfl) ?_
      refine t1_Main_isOne hld _ _ (fun r3598 hr3598 => ?_)
      refine g_if_eq (pc1 := 27) (tgt := 37) d_Main_pot_24 (by decide) rfl (fun h3599 => ?_) (fun h3599 => ?_)
      · refine g_iconst (pc1 := 38) (v := (-1)) d_Main_pot_37 rfl (by decide) ?_
        refine g_ireturn (Or.inl rfl) d_Main_pot_38 rfl ?_
        exact hQ _ _ _ Kp.rf
      · refine g_iload (pc1 := 29) d_Main_pot_27 rfl 4 rfl ?_
        refine g_bipush (pc1 := 31) (v := 8) d_Main_pot_29 rfl (by decide) ?_
        refine g_callS0 (pc1 := 34) (As := [.int p4, .int 8]) (rest := []) d_Main_pot_31 rfl mo_Main_112 ms_Main_isOne (by decide) rfl rfl (Nat.le_of_ble_eq_true rfl) ?_
        refine t1_Main_isOne hld _ _ (fun r3600 hr3600 => ?_)
        refine g_if_ne (pc1 := 37) (tgt := 39) d_Main_pot_34 (by decide) rfl (fun h3601 => ?_) (fun h3601 => ?_)
        · refine g_aload_n (pc1 := 40) d_Main_pot_39 rfl 0 rfl ?_
          refine g_getr (pc1 := 43) d_Main_pot_40 rfl ⟨_, fo_Main_67⟩ sh_0 (by decide) (rf_0_9 ld) ?_
          refine g_aload_n (pc1 := 44) d_Main_pot_43 rfl 0 rfl ?_
          refine g_getr (pc1 := 47) d_Main_pot_44 rfl ⟨_, fo_Main_26⟩ sh_0 (by decide) (rf_0_2 ld) ?_
          refine g_aload_n (pc1 := 48) d_Main_pot_47 rfl 0 rfl ?_
          refine g_getr (pc1 := 51) d_Main_pot_48 rfl ⟨_, fo_Main_36⟩ sh_0 (by decide) (rf_0_4 ld) ?_
          refine g_iload_n (pc1 := 52) d_Main_pot_51 rfl 1 rfl ?_
          refine g_iload_n (pc1 := 53) d_Main_pot_52 rfl 2 rfl ?_
          refine g_iload_n (pc1 := 54) d_Main_pot_53 rfl 3 rfl ?_
          refine g_callV0 (pc1 := 57) (As := [.ref ld, .ref 64, .int p1, .int p2, .int p3]) (rest := []) d_Main_pot_54 rfl mo_Main_222 mi_PotSearch_find mv_PotSearch_find rfl sh_391 (by decide) (by decide) rfl rfl (Nat.le_of_ble_eq_true rfl) ?_
          refine t1_PotSearch_find hld ld hld 64 isSt_64 _ _ _ (fun r3602 M3603 L3604 hr3602 k3605 => ?_)
          refine g_if_ne (pc1 := 60) (tgt := 63) d_Main_pot_57 (by decide) rfl (fun h3606 => ?_) (fun h3606 => ?_)
          · refine g_iload (pc1 := 65) d_Main_pot_63 rfl 4 rfl ?_
            refine g_if_ne (pc1 := 68) (tgt := 76) d_Main_pot_65 (by decide) rfl (fun h3607 => ?_) (fun h3607 => ?_)
            · refine g_iload (pc1 := 78) d_Main_pot_76 rfl 4 rfl ?_
              refine g_iconst (pc1 := 79) (v := 1) d_Main_pot_78 rfl (by decide) ?_
              refine g_icmp_ne (pc1 := 82) (tgt := 92) d_Main_pot_79 (by decide) rfl (fun h3608 => ?_) (fun h3608 => ?_)
              · refine g_aload_n (pc1 := 93) d_Main_pot_92 rfl 0 rfl ?_
                refine g_getr (pc1 := 96) d_Main_pot_93 rfl ⟨_, fo_Main_67⟩ sh_0 (by decide) (rf_0_9 ld) ?_
                refine g_getr (pc1 := 99) d_Main_pot_96 rfl ⟨_, fo_Main_232⟩ sh_391 (by decide) (rf_391_5 ld) ?_
                refine g_iload (pc1 := 101) d_Main_pot_99 rfl 4 rfl ?_
                refine g_iconst (pc1 := 102) (v := 2) d_Main_pot_101 rfl (by decide) ?_
                refine g_isub (pc1 := 103) d_Main_pot_102 rfl ?_
                refine g_callS0 (pc1 := 106) (As := [.ref 395, .int (p4 - 2)]) (rest := []) d_Main_pot_103 rfl mo_Main_120 ms_Main_at (by decide) rfl rfl (Nat.le_of_ble_eq_true rfl) ?_
                refine t1_Main_at hld 395 sh_395 (by decide) (by decide) _ (fun r3609 => ?_)
                refine g_ireturn (Or.inl rfl) d_Main_pot_106 rfl ?_
                exact hQ _ _ _ (Kp.trans Kp.rf k3605)
              · refine g_aload_n (pc1 := 83) d_Main_pot_82 rfl 0 rfl ?_
                refine g_getr (pc1 := 86) d_Main_pot_83 rfl ⟨_, fo_Main_67⟩ sh_0 (by decide) (rf_0_9 ld) ?_
                refine g_geti (pc1 := 89) d_Main_pot_86 rfl ⟨_, fo_Main_229⟩ sh_391 (by decide) ?_
                refine g_goto (tgt := 106) d_Main_pot_89 (by decide) ?_
                refine g_ireturn (Or.inl rfl) d_Main_pot_106 rfl ?_
                exact hQ _ _ _ (Kp.trans Kp.rf k3605)
            · refine g_aload_n (pc1 := 69) d_Main_pot_68 rfl 0 rfl ?_
              refine g_getr (pc1 := 72) d_Main_pot_69 rfl ⟨_, fo_Main_67⟩ sh_0 (by decide) (rf_0_9 ld) ?_
              refine g_geti (pc1 := 75) d_Main_pot_72 rfl ⟨_, fo_Main_226⟩ sh_391 (by decide) ?_
              refine g_ireturn (Or.inl rfl) d_Main_pot_75 rfl ?_
              exact hQ _ _ _ (Kp.trans Kp.rf k3605)
          · refine g_bipush (pc1 := 62) (v := (-2)) d_Main_pot_60 rfl (by decide) ?_
            refine g_ireturn (Or.inl rfl) d_Main_pot_62 rfl ?_
            exact hQ _ _ _ (Kp.trans Kp.rf k3605)
        · refine g_iconst (pc1 := 38) (v := (-1)) d_Main_pot_37 rfl (by decide) ?_
          refine g_ireturn (Or.inl rfl) d_Main_pot_38 rfl ?_
          exact hQ _ _ _ Kp.rf
set_option maxHeartbeats 4000000 in
set_option maxRecDepth 20000 in
theorem t1_Main_sure {l : Launch} {ld : Nat} (hld : isLa ld) {M : gM} {L : gL} {Q : Option Value → gM → gL → gR → Prop} (p1 : Int32) (hQ : ∀ (r : Int32) (M' : gM) (L' : gL), Kp S1 M L M' L' → Q (some (.int r)) M' L' (rf ld)) : Tm l y_Main_sure (0, 0, 447) 447 [.ref 0, .int p1] M L (rf ld) Q := by
  refine Tm.of (by decide) (Nat.le_of_ble_eq_true rfl) ?_
  show Wp l y_Main_sure (0, 0, 447) 447 0 0 0 [(0, .ref 0), (1, .int p1)] [] M L (rf ld) Q
  refine g_iload_n (pc1 := 1) d_Main_sure_0 rfl 1 rfl ?_
  refine g_aload_n (pc1 := 2) d_Main_sure_1 rfl 0 rfl ?_
  refine g_getr (pc1 := 5) d_Main_sure_2 rfl ⟨_, fo_Main_60⟩ sh_0 (by decide) (rf_0_8 ld) ?_
  refine g_geti (pc1 := 8) d_Main_sure_5 rfl ⟨_, fo_Main_275⟩ sh_383 (by decide) ?_
  refine g_iconst (pc1 := 9) (v := 1) d_Main_sure_8 rfl (by decide) ?_
  refine g_iadd (pc1 := 10) d_Main_sure_9 rfl ?_
  refine g_callS0 (pc1 := 13) (As := [.int p1, .int ((M 383 3) + 1)]) (rest := []) d_Main_sure_10 rfl mo_Main_112 ms_Main_isOne (by decide) rfl rfl (Nat.le_of_ble_eq_true rfl) ?_
  refine t1_Main_isOne hld _ _ (fun r3610 hr3610 => ?_)
  refine g_if_ne (pc1 := 16) (tgt := 18) d_Main_sure_13 (by decide) rfl (fun h3611 => ?_) (fun h3611 => ?_)
  · refine g_aload_n (pc1 := 19) d_Main_sure_18 rfl 0 rfl ?_
    refine g_getr (pc1 := 22) d_Main_sure_19 rfl ⟨_, fo_Main_60⟩ sh_0 (by decide) (rf_0_8 ld) ?_
    refine g_aload_n (pc1 := 23) d_Main_sure_22 rfl 0 rfl ?_
    refine g_getr (pc1 := 26) d_Main_sure_23 rfl ⟨_, fo_Main_26⟩ sh_0 (by decide) (rf_0_2 ld) ?_
    refine g_aload_n (pc1 := 27) d_Main_sure_26 rfl 0 rfl ?_
    refine g_getr (pc1 := 30) d_Main_sure_27 rfl ⟨_, fo_Main_36⟩ sh_0 (by decide) (rf_0_4 ld) ?_
    refine g_geti (pc1 := 33) d_Main_sure_30 rfl ⟨_, fo_Main_144⟩ (shSt_0 isSt_64) (ltSt_0 isSt_64) ?_
    refine g_iload_n (pc1 := 34) d_Main_sure_33 rfl 1 rfl ?_
    refine g_callV0 (pc1 := 37) (As := [.ref ld, .int (M 64 0), .int p1]) (rest := []) d_Main_sure_34 rfl mo_Main_278 mi_Told_gather mv_Told_gather rfl sh_383 (by decide) (by decide) rfl rfl (Nat.le_of_ble_eq_true rfl) ?_
    refine t1_Told_gather hld ld hld _ _ (fun  M3612 L3613 k3614 => ?_)
    refine g_aload_n (pc1 := 38) d_Main_sure_37 rfl 0 rfl ?_
    refine g_getr (pc1 := 41) d_Main_sure_38 rfl ⟨_, fo_Main_60⟩ sh_0 (by decide) (rf_0_8 ld) ?_
    refine g_callV0 (pc1 := 44) (As := []) (rest := []) d_Main_sure_41 rfl mo_Main_285 mi_Told_onlyDish mv_Told_onlyDish rfl sh_383 (by decide) (by decide) rfl rfl (Nat.le_of_ble_eq_true rfl) ?_
    refine t1_Told_onlyDish hld  (fun r3615 => ?_)
    refine g_ireturn (Or.inl rfl) d_Main_sure_44 rfl ?_
    exact hQ _ _ _ (Kp.trans Kp.rf k3614)
  · refine g_iconst (pc1 := 17) (v := (-1)) d_Main_sure_16 rfl (by decide) ?_
    refine g_ireturn (Or.inl rfl) d_Main_sure_17 rfl ?_
    exact hQ _ _ _ Kp.rf
set_option maxHeartbeats 4000000 in
set_option maxRecDepth 20000 in
theorem t1_Main_taste {l : Launch} {ld : Nat} (hld : isLa ld) {M : gM} {L : gL} {Q : Option Value → gM → gL → gR → Prop} (p1 : Int32) (hQ : ∀ (r : Int32) (M' : gM) (L' : gL), Kp S1 M L M' L' → Q (some (.int r)) M' L' (rf ld)) : Tm l y_Main_taste (0, 0, 447) 447 [.ref 0, .int p1] M L (rf ld) Q := by
  refine Tm.of (by decide) (Nat.le_of_ble_eq_true rfl) ?_
  show Wp l y_Main_taste (0, 0, 447) 447 0 0 0 [(0, .ref 0), (1, .int p1)] [] M L (rf ld) Q
  refine g_iload_n (pc1 := 1) d_Main_taste_0 rfl 1 rfl ?_
  refine g_aload_n (pc1 := 2) d_Main_taste_1 rfl 0 rfl ?_
  refine g_getr (pc1 := 5) d_Main_taste_2 rfl ⟨_, fo_Main_60⟩ sh_0 (by decide) (rf_0_8 ld) ?_
  refine g_geti (pc1 := 8) d_Main_taste_5 rfl ⟨_, fo_Main_275⟩ sh_383 (by decide) ?_
  refine g_iconst (pc1 := 9) (v := 1) d_Main_taste_8 rfl (by decide) ?_
  refine g_iadd (pc1 := 10) d_Main_taste_9 rfl ?_
  refine g_callS0 (pc1 := 13) (As := [.int p1, .int ((M 383 3) + 1)]) (rest := []) d_Main_taste_10 rfl mo_Main_112 ms_Main_isOne (by decide) rfl rfl (Nat.le_of_ble_eq_true rfl) ?_
  refine t1_Main_isOne hld _ _ (fun r3616 hr3616 => ?_)
  refine g_if_ne (pc1 := 16) (tgt := 18) d_Main_taste_13 (by decide) rfl (fun h3617 => ?_) (fun h3617 => ?_)
  · refine g_aload_n (pc1 := 19) d_Main_taste_18 rfl 0 rfl ?_
    refine g_getr (pc1 := 22) d_Main_taste_19 rfl ⟨_, fo_Main_60⟩ sh_0 (by decide) (rf_0_8 ld) ?_
    refine g_aload_n (pc1 := 23) d_Main_taste_22 rfl 0 rfl ?_
    refine g_getr (pc1 := 26) d_Main_taste_23 rfl ⟨_, fo_Main_26⟩ sh_0 (by decide) (rf_0_2 ld) ?_
    refine g_aload_n (pc1 := 27) d_Main_taste_26 rfl 0 rfl ?_
    refine g_getr (pc1 := 30) d_Main_taste_27 rfl ⟨_, fo_Main_36⟩ sh_0 (by decide) (rf_0_4 ld) ?_
    refine g_geti (pc1 := 33) d_Main_taste_30 rfl ⟨_, fo_Main_144⟩ (shSt_0 isSt_64) (ltSt_0 isSt_64) ?_
    refine g_iload_n (pc1 := 34) d_Main_taste_33 rfl 1 rfl ?_
    refine g_callV0 (pc1 := 37) (As := [.ref ld, .int (M 64 0), .int p1]) (rest := []) d_Main_taste_34 rfl mo_Main_278 mi_Told_gather mv_Told_gather rfl sh_383 (by decide) (by decide) rfl rfl (Nat.le_of_ble_eq_true rfl) ?_
    refine t1_Told_gather hld ld hld _ _ (fun  M3618 L3619 k3620 => ?_)
    refine g_aload_n (pc1 := 38) d_Main_taste_37 rfl 0 rfl ?_
    refine g_getr (pc1 := 41) d_Main_taste_38 rfl ⟨_, fo_Main_60⟩ sh_0 (by decide) (rf_0_8 ld) ?_
    refine g_aload_n (pc1 := 42) d_Main_taste_41 rfl 0 rfl ?_
    refine g_getr (pc1 := 45) d_Main_taste_42 rfl ⟨_, fo_Main_26⟩ sh_0 (by decide) (rf_0_2 ld) ?_
    refine g_aload_n (pc1 := 46) d_Main_taste_45 rfl 0 rfl ?_
    refine g_getr (pc1 := 49) d_Main_taste_46 rfl ⟨_, fo_Main_36⟩ sh_0 (by decide) (rf_0_4 ld) ?_
    refine g_geti (pc1 := 52) d_Main_taste_49 rfl ⟨_, fo_Main_144⟩ (shSt_0 isSt_64) (ltSt_0 isSt_64) ?_
    refine g_callV0 (pc1 := 55) (As := [.ref ld, .int (M3618 64 0)]) (rest := []) d_Main_taste_52 rfl mo_Main_288 mi_Told_nextTaste mv_Told_nextTaste rfl sh_383 (by decide) (by decide) rfl rfl (Nat.le_of_ble_eq_true rfl) ?_
    refine t1_Told_nextTaste hld ld hld _ (fun r3621 M3622 L3623 k3624 => ?_)
    refine g_ireturn (Or.inl rfl) d_Main_taste_55 rfl ?_
    exact hQ _ _ _ (Kp.trans (Kp.trans Kp.rf k3620) (Kp.mono k3624 S0_S1))
  · refine g_iconst (pc1 := 17) (v := (-1)) d_Main_taste_16 rfl (by decide) ?_
    refine g_ireturn (Or.inl rfl) d_Main_taste_17 rfl ?_
    exact hQ _ _ _ Kp.rf
set_option maxHeartbeats 4000000 in
set_option maxRecDepth 20000 in
theorem t1_MenuSearch_find {l : Launch} {ld : Nat} (hld : isLa ld) {M : gM} {L : gL} {Q : Option Value → gM → gL → gR → Prop} (Ld1 : Nat) (hLd1 : isLa Ld1) (X2 : Nat) (hX2 : isSt X2) (p3 : Int32) (p4 : Int32) (p5 : Int32) (hQ : ∀ (r : Int32) (M' : gM) (L' : gL), (r = 0 ∨ r = 1) → Kp S1 M L M' L' → Q (some (.int r)) M' L' (rf ld)) : Tm l y_MenuSearch_find (0, 0, 447) 447 [.ref 396, .ref Ld1, .ref X2, .int p3, .int p4, .int p5] M L (rf ld) Q := by
  refine Tm.of (by decide) (Nat.le_of_ble_eq_true rfl) ?_
  show Wp l y_MenuSearch_find (0, 0, 447) 447 0 0 0 [(0, .ref 396), (1, .ref Ld1), (2, .ref X2), (3, .int p3), (4, .int p4), (5, .int p5)] [] M L (rf ld) Q
  refine g_aload_n (pc1 := 1) d_MenuSearch_find_0 rfl 0 rfl ?_
  refine g_aload_n (pc1 := 2) d_MenuSearch_find_1 rfl 1 rfl ?_
  refine g_aload_n (pc1 := 3) d_MenuSearch_find_2 rfl 2 rfl ?_
  refine g_iload_n (pc1 := 4) d_MenuSearch_find_3 rfl 3 rfl ?_
  refine g_iload (pc1 := 6) d_MenuSearch_find_4 rfl 5 rfl ?_
  refine g_callV0 (pc1 := 9) (As := [.ref Ld1, .ref X2, .int p3, .int p5]) (rest := []) d_MenuSearch_find_6 rfl mo_MenuSearch_25 mi_MenuSearch_lookUnfed mv_MenuSearch_lookUnfed rfl sh_396 (by decide) (by decide) rfl rfl (Nat.le_of_ble_eq_true rfl) ?_
  refine t1_MenuSearch_lookUnfed hld Ld1 hLd1 X2 hX2 _ _ (fun  M3625 L3626 k3627 => ?_)
  refine g_aload_n (pc1 := 10) d_MenuSearch_find_9 rfl 0 rfl ?_
  refine g_aload_n (pc1 := 11) d_MenuSearch_find_10 rfl 1 rfl ?_
  refine g_aload_n (pc1 := 12) d_MenuSearch_find_11 rfl 2 rfl ?_
  refine g_geti (pc1 := 15) d_MenuSearch_find_12 rfl ⟨_, fo_MenuSearch_29⟩ (shSt_0 hX2) (ltSt_0 hX2) ?_
  refine g_iload_n (pc1 := 16) d_MenuSearch_find_15 rfl 3 rfl ?_
  refine g_iload (pc1 := 18) d_MenuSearch_find_16 rfl 4 rfl ?_
  refine g_iload (pc1 := 20) d_MenuSearch_find_18 rfl 5 rfl ?_
  refine g_callV0 (pc1 := 23) (As := [.ref Ld1, .int (M3625 X2 0), .int p3, .int p4, .int p5]) (rest := []) d_MenuSearch_find_20 rfl mo_MenuSearch_35 mi_MenuSearch_lookFed mv_MenuSearch_lookFed rfl sh_396 (by decide) (by decide) rfl rfl (Nat.le_of_ble_eq_true rfl) ?_
  refine t1_MenuSearch_lookFed hld Ld1 hLd1 _ _ _ _ (fun  M3628 L3629 k3630 => ?_)
  refine g_aload_n (pc1 := 24) d_MenuSearch_find_23 rfl 0 rfl ?_
  refine g_getr (pc1 := 27) d_MenuSearch_find_24 rfl ⟨_, fo_MenuSearch_18⟩ sh_396 (by decide) (rf_396_2 ld) ?_
  refine g_callS0 (pc1 := 30) (As := [.ref 399]) (rest := []) d_MenuSearch_find_27 rfl mo_MenuSearch_39 ms_Main_wipe (by decide) rfl rfl (Nat.le_of_ble_eq_true rfl) ?_
  refine t1_Main_wipe hld 399 sh_399 (by decide) (by decide) (fun  M3631 L3632 k3633 => ?_)
  refine g_aload_n (pc1 := 31) d_MenuSearch_find_30 rfl 0 rfl ?_
  refine g_iconst (pc1 := 32) (v := 5) d_MenuSearch_find_31 rfl (by decide) ?_
  refine g_puti (pc1 := 35) d_MenuSearch_find_32 rfl fo_MenuSearch_43 (po_11_4 _) sh_396 (by decide) ?_
  refine Wp.topM (fun M3634 eM3634 => ?_)
  refine g_iconst (pc1 := 36) (v := 0) d_MenuSearch_find_35 rfl (by decide) ?_
  refine g_istore (pc1 := 38) (lv' := [(0, .ref 396), (1, .ref Ld1), (2, .ref X2), (3, .int p3), (4, .int p4), (5, .int p5), (6, .int 0)]) d_MenuSearch_find_36 rfl (by decide) [1, 2, 3, 4, 5, 6, 0] rfl ?_
  have LP3638 : ∀ (f3635 : Nat) (v3639 : Int32) (M3640 : gM) (L3641 : gL), Kp S1 M L M3640 L3641 → ¬ v3639 < 0 → ((1296 : Int32).toInt - v3639.toInt).toNat < f3635 → Wp l y_MenuSearch_find (0, 0, 447) 447 0 0 38 [(0, .ref 396), (1, .ref Ld1), (2, .ref X2), (3, .int p3), (4, .int p4), (5, .int p5), (6, .int v3639)] [] M3640 L3641 (rf ld) Q := by
    intro f3635
    induction f3635 with
    | zero => intro v3639 M3640 L3641 _ _ hm3637; exact absurd hm3637 (Nat.not_lt_zero _)
    | succ f3635 ih3636 =>
      intro v3639 M3640 L3641 k3642 n3643 hm3637
      refine g_iload (pc1 := 40) d_MenuSearch_find_38 rfl 6 rfl ?_
      refine g_sipush (pc1 := 43) (v := 1296) d_MenuSearch_find_40 rfl (by decide) ?_
      refine g_icmp_ge (pc1 := 46) (tgt := 107) d_MenuSearch_find_43 (by decide) rfl (fun h3644 => ?_) (fun h3644 => ?_)
      · refine g_aload_n (pc1 := 108) d_MenuSearch_find_107 rfl 0 rfl ?_
        refine g_geti (pc1 := 111) d_MenuSearch_find_108 rfl ⟨_, fo_MenuSearch_43⟩ sh_396 (by decide) ?_
        refine g_iconst (pc1 := 112) (v := 4) d_MenuSearch_find_111 rfl (by decide) ?_
        refine g_icmp_gt (pc1 := 115) (tgt := 119) d_MenuSearch_find_112 (by decide) rfl (fun h3645 => ?_) (fun h3645 => ?_)
        · refine g_iconst (pc1 := 120) (v := 0) d_MenuSearch_find_119 rfl (by decide) ?_
          refine g_ireturn (Or.inr ⟨rfl, rfl⟩) d_MenuSearch_find_120 rfl ?_
          exact hQ _ _ _ (Or.inl rfl) k3642
        · refine g_iconst (pc1 := 116) (v := 1) d_MenuSearch_find_115 rfl (by decide) ?_
          refine g_goto (tgt := 120) d_MenuSearch_find_116 (by decide) ?_
          refine g_ireturn (Or.inr ⟨rfl, rfl⟩) d_MenuSearch_find_120 rfl ?_
          exact hQ _ _ _ (Or.inr rfl) k3642
      · refine g_aload_n (pc1 := 47) d_MenuSearch_find_46 rfl 0 rfl ?_
        refine g_iload (pc1 := 49) d_MenuSearch_find_47 rfl 4 rfl ?_
        refine g_callV0 (pc1 := 52) (As := [.int p4]) (rest := []) d_MenuSearch_find_49 rfl mo_MenuSearch_46 mi_MenuSearch_mealsIfAllFree mv_MenuSearch_mealsIfAllFree rfl sh_396 (by decide) (by decide) rfl rfl (Nat.le_of_ble_eq_true rfl) ?_
        refine t1_MenuSearch_mealsIfAllFree hld _ (fun r3646 => ?_)
        refine g_istore (pc1 := 54) (lv' := [(0, .ref 396), (1, .ref Ld1), (2, .ref X2), (3, .int p3), (4, .int p4), (5, .int p5), (6, .int v3639), (7, .int r3646)]) d_MenuSearch_find_52 rfl (by decide) [1, 2, 3, 4, 5, 6, 7, 0] rfl ?_
        refine g_iload (pc1 := 56) d_MenuSearch_find_54 rfl 7 rfl ?_
        refine g_if_lt (pc1 := 59) (tgt := 85) d_MenuSearch_find_56 (by decide) rfl (fun h3647 => ?_) (fun h3647 => ?_)
        · refine g_aload_n (pc1 := 86) d_MenuSearch_find_85 rfl 0 rfl ?_
          refine g_iload (pc1 := 88) d_MenuSearch_find_86 rfl 4 rfl ?_
          refine g_aload_n (pc1 := 89) d_MenuSearch_find_88 rfl 1 rfl ?_
          refine g_geti (pc1 := 92) d_MenuSearch_find_89 rfl ⟨_, fo_MenuSearch_54⟩ (shLa_0 hLd1) (ltLa_0 hLd1) ?_
          refine g_callV0 (pc1 := 95) (As := [.int p4, .int (M3640 Ld1 1)]) (rest := []) d_MenuSearch_find_92 rfl mo_MenuSearch_59 mi_MenuSearch_step mv_MenuSearch_step rfl sh_396 (by decide) (by decide) rfl rfl (Nat.le_of_ble_eq_true rfl) ?_
          refine t1_MenuSearch_step hld _ _ (fun r3648 M3649 L3650 hr3648 k3651 => ?_)
          refine g_if_ne (pc1 := 98) (tgt := 101) d_MenuSearch_find_95 (by decide) rfl (fun h3652 => ?_) (fun h3652 => ?_)
          · obtain ⟨x3653, ex3653⟩ : ∃ y : Int32, y = v3639 + 1 := ⟨_, rfl⟩
            refine g_iinc (pc1 := 104) (v := x3653) (lv' := [(0, .ref 396), (1, .ref Ld1), (2, .ref X2), (3, .int p3), (4, .int p4), (5, .int p5), (6, .int x3653), (7, .int r3646)]) d_MenuSearch_find_101 rfl 6 rfl (by rw [ex3653]; rfl) (by decide) [1, 2, 3, 4, 5, 6, 0, 7] rfl ?_
            refine g_goto (tgt := 38) d_MenuSearch_find_104 (by decide) ?_
            refine Wp.loc (lv' := [(0, .ref 396), (1, .ref Ld1), (2, .ref X2), (3, .int p3), (4, .int p4), (5, .int p5), (6, .int x3653)]) [0, 1, 2, 3, 4, 5, 6] rfl ?_
            exact ih3636 x3653 M3649 L3650 (Kp.trans k3642 k3651) (nn_up (y := (1296 : Int32)) h3644 ex3653 n3643) (md_up h3644 ex3653 hm3637)
          · refine g_goto (tgt := 107) d_MenuSearch_find_98 (by decide) ?_
            refine g_aload_n (pc1 := 108) d_MenuSearch_find_107 rfl 0 rfl ?_
            refine g_geti (pc1 := 111) d_MenuSearch_find_108 rfl ⟨_, fo_MenuSearch_43⟩ sh_396 (by decide) ?_
            refine g_iconst (pc1 := 112) (v := 4) d_MenuSearch_find_111 rfl (by decide) ?_
            refine g_icmp_gt (pc1 := 115) (tgt := 119) d_MenuSearch_find_112 (by decide) rfl (fun h3654 => ?_) (fun h3654 => ?_)
            · refine g_iconst (pc1 := 120) (v := 0) d_MenuSearch_find_119 rfl (by decide) ?_
              refine g_ireturn (Or.inr ⟨rfl, rfl⟩) d_MenuSearch_find_120 rfl ?_
              exact hQ _ _ _ (Or.inl rfl) (Kp.trans k3642 k3651)
            · refine g_iconst (pc1 := 116) (v := 1) d_MenuSearch_find_115 rfl (by decide) ?_
              refine g_goto (tgt := 120) d_MenuSearch_find_116 (by decide) ?_
              refine g_ireturn (Or.inr ⟨rfl, rfl⟩) d_MenuSearch_find_120 rfl ?_
              exact hQ _ _ _ (Or.inr rfl) (Kp.trans k3642 k3651)
        · refine g_iload (pc1 := 61) d_MenuSearch_find_59 rfl 7 rfl ?_
          refine g_aload_n (pc1 := 62) d_MenuSearch_find_61 rfl 0 rfl ?_
          refine g_geti (pc1 := 65) d_MenuSearch_find_62 rfl ⟨_, fo_MenuSearch_43⟩ sh_396 (by decide) ?_
          refine g_icmp_ge (pc1 := 68) (tgt := 85) d_MenuSearch_find_65 (by decide) rfl (fun h3655 => ?_) (fun h3655 => ?_)
          · refine g_aload_n (pc1 := 86) d_MenuSearch_find_85 rfl 0 rfl ?_
            refine g_iload (pc1 := 88) d_MenuSearch_find_86 rfl 4 rfl ?_
            refine g_aload_n (pc1 := 89) d_MenuSearch_find_88 rfl 1 rfl ?_
            refine g_geti (pc1 := 92) d_MenuSearch_find_89 rfl ⟨_, fo_MenuSearch_54⟩ (shLa_0 hLd1) (ltLa_0 hLd1) ?_
            refine g_callV0 (pc1 := 95) (As := [.int p4, .int (M3640 Ld1 1)]) (rest := []) d_MenuSearch_find_92 rfl mo_MenuSearch_59 mi_MenuSearch_step mv_MenuSearch_step rfl sh_396 (by decide) (by decide) rfl rfl (Nat.le_of_ble_eq_true rfl) ?_
            refine t1_MenuSearch_step hld _ _ (fun r3656 M3657 L3658 hr3656 k3659 => ?_)
            refine g_if_ne (pc1 := 98) (tgt := 101) d_MenuSearch_find_95 (by decide) rfl (fun h3660 => ?_) (fun h3660 => ?_)
            · obtain ⟨x3661, ex3661⟩ : ∃ y : Int32, y = v3639 + 1 := ⟨_, rfl⟩
              refine g_iinc (pc1 := 104) (v := x3661) (lv' := [(0, .ref 396), (1, .ref Ld1), (2, .ref X2), (3, .int p3), (4, .int p4), (5, .int p5), (6, .int x3661), (7, .int r3646)]) d_MenuSearch_find_101 rfl 6 rfl (by rw [ex3661]; rfl) (by decide) [1, 2, 3, 4, 5, 6, 0, 7] rfl ?_
              refine g_goto (tgt := 38) d_MenuSearch_find_104 (by decide) ?_
              refine Wp.loc (lv' := [(0, .ref 396), (1, .ref Ld1), (2, .ref X2), (3, .int p3), (4, .int p4), (5, .int p5), (6, .int x3661)]) [0, 1, 2, 3, 4, 5, 6] rfl ?_
              exact ih3636 x3661 M3657 L3658 (Kp.trans k3642 k3659) (nn_up (y := (1296 : Int32)) h3644 ex3661 n3643) (md_up h3644 ex3661 hm3637)
            · refine g_goto (tgt := 107) d_MenuSearch_find_98 (by decide) ?_
              refine g_aload_n (pc1 := 108) d_MenuSearch_find_107 rfl 0 rfl ?_
              refine g_geti (pc1 := 111) d_MenuSearch_find_108 rfl ⟨_, fo_MenuSearch_43⟩ sh_396 (by decide) ?_
              refine g_iconst (pc1 := 112) (v := 4) d_MenuSearch_find_111 rfl (by decide) ?_
              refine g_icmp_gt (pc1 := 115) (tgt := 119) d_MenuSearch_find_112 (by decide) rfl (fun h3662 => ?_) (fun h3662 => ?_)
              · refine g_iconst (pc1 := 120) (v := 0) d_MenuSearch_find_119 rfl (by decide) ?_
                refine g_ireturn (Or.inr ⟨rfl, rfl⟩) d_MenuSearch_find_120 rfl ?_
                exact hQ _ _ _ (Or.inl rfl) (Kp.trans k3642 k3659)
              · refine g_iconst (pc1 := 116) (v := 1) d_MenuSearch_find_115 rfl (by decide) ?_
                refine g_goto (tgt := 120) d_MenuSearch_find_116 (by decide) ?_
                refine g_ireturn (Or.inr ⟨rfl, rfl⟩) d_MenuSearch_find_120 rfl ?_
                exact hQ _ _ _ (Or.inr rfl) (Kp.trans k3642 k3659)
          · refine g_aload_n (pc1 := 69) d_MenuSearch_find_68 rfl 0 rfl ?_
            refine g_iload (pc1 := 71) d_MenuSearch_find_69 rfl 7 rfl ?_
            refine g_puti (pc1 := 74) d_MenuSearch_find_71 rfl fo_MenuSearch_43 (po_11_4 _) sh_396 (by decide) ?_
            refine Wp.topM (fun M3663 eM3663 => ?_)
            refine g_aload_n (pc1 := 75) d_MenuSearch_find_74 rfl 0 rfl ?_
            refine g_getr (pc1 := 78) d_MenuSearch_find_75 rfl ⟨_, fo_MenuSearch_18⟩ sh_396 (by decide) (rf_396_2 ld) ?_
            refine g_aload_n (pc1 := 79) d_MenuSearch_find_78 rfl 0 rfl ?_
            refine g_getr (pc1 := 82) d_MenuSearch_find_79 rfl ⟨_, fo_MenuSearch_22⟩ sh_396 (by decide) (rf_396_3 ld) ?_
            refine g_callS0 (pc1 := 85) (As := [.ref 399, .ref 400]) (rest := []) d_MenuSearch_find_82 rfl mo_MenuSearch_50 ms_Main_copyRow (by decide) rfl rfl (Nat.le_of_ble_eq_true rfl) ?_
            refine t1_Main_copyRow hld 399 sh_399 (by decide) (by decide) 400 sh_400 (by decide) (by decide) (fun  M3664 L3665 k3666 => ?_)
            refine g_aload_n (pc1 := 86) d_MenuSearch_find_85 rfl 0 rfl ?_
            refine g_iload (pc1 := 88) d_MenuSearch_find_86 rfl 4 rfl ?_
            refine g_aload_n (pc1 := 89) d_MenuSearch_find_88 rfl 1 rfl ?_
            refine g_geti (pc1 := 92) d_MenuSearch_find_89 rfl ⟨_, fo_MenuSearch_54⟩ (shLa_0 hLd1) (ltLa_0 hLd1) ?_
            refine g_callV0 (pc1 := 95) (As := [.int p4, .int (M3664 Ld1 1)]) (rest := []) d_MenuSearch_find_92 rfl mo_MenuSearch_59 mi_MenuSearch_step mv_MenuSearch_step rfl sh_396 (by decide) (by decide) rfl rfl (Nat.le_of_ble_eq_true rfl) ?_
            refine t1_MenuSearch_step hld _ _ (fun r3667 M3668 L3669 hr3667 k3670 => ?_)
            refine g_if_ne (pc1 := 98) (tgt := 101) d_MenuSearch_find_95 (by decide) rfl (fun h3671 => ?_) (fun h3671 => ?_)
            · obtain ⟨x3672, ex3672⟩ : ∃ y : Int32, y = v3639 + 1 := ⟨_, rfl⟩
              refine g_iinc (pc1 := 104) (v := x3672) (lv' := [(0, .ref 396), (1, .ref Ld1), (2, .ref X2), (3, .int p3), (4, .int p4), (5, .int p5), (6, .int x3672), (7, .int r3646)]) d_MenuSearch_find_101 rfl 6 rfl (by rw [ex3672]; rfl) (by decide) [1, 2, 3, 4, 5, 6, 0, 7] rfl ?_
              refine g_goto (tgt := 38) d_MenuSearch_find_104 (by decide) ?_
              refine Wp.loc (lv' := [(0, .ref 396), (1, .ref Ld1), (2, .ref X2), (3, .int p3), (4, .int p4), (5, .int p5), (6, .int x3672)]) [0, 1, 2, 3, 4, 5, 6] rfl ?_
              exact ih3636 x3672 M3668 L3669 (Kp.trans (Kp.trans (Kp.wM k3642 rfl eM3663) (Kp.mono k3666 (one_S rfl))) k3670) (nn_up (y := (1296 : Int32)) h3644 ex3672 n3643) (md_up h3644 ex3672 hm3637)
            · refine g_goto (tgt := 107) d_MenuSearch_find_98 (by decide) ?_
              refine g_aload_n (pc1 := 108) d_MenuSearch_find_107 rfl 0 rfl ?_
              refine g_geti (pc1 := 111) d_MenuSearch_find_108 rfl ⟨_, fo_MenuSearch_43⟩ sh_396 (by decide) ?_
              refine g_iconst (pc1 := 112) (v := 4) d_MenuSearch_find_111 rfl (by decide) ?_
              refine g_icmp_gt (pc1 := 115) (tgt := 119) d_MenuSearch_find_112 (by decide) rfl (fun h3673 => ?_) (fun h3673 => ?_)
              · refine g_iconst (pc1 := 120) (v := 0) d_MenuSearch_find_119 rfl (by decide) ?_
                refine g_ireturn (Or.inr ⟨rfl, rfl⟩) d_MenuSearch_find_120 rfl ?_
                exact hQ _ _ _ (Or.inl rfl) (Kp.trans (Kp.trans (Kp.wM k3642 rfl eM3663) (Kp.mono k3666 (one_S rfl))) k3670)
              · refine g_iconst (pc1 := 116) (v := 1) d_MenuSearch_find_115 rfl (by decide) ?_
                refine g_goto (tgt := 120) d_MenuSearch_find_116 (by decide) ?_
                refine g_ireturn (Or.inr ⟨rfl, rfl⟩) d_MenuSearch_find_120 rfl ?_
                exact hQ _ _ _ (Or.inr rfl) (Kp.trans (Kp.trans (Kp.wM k3642 rfl eM3663) (Kp.mono k3666 (one_S rfl))) k3670)
  exact LP3638 _ 0 M3634 L3632 (Kp.wM (Kp.trans (Kp.trans (Kp.trans Kp.rf k3627) k3630) (Kp.mono k3633 (one_S rfl))) rfl eM3634) (by decide) (Nat.lt_succ_self _)
set_option maxHeartbeats 4000000 in
set_option maxRecDepth 20000 in
theorem t1_Main_freest {l : Launch} {ld : Nat} (hld : isLa ld) {M : gM} {L : gL} {Q : Option Value → gM → gL → gR → Prop} (p1 : Int32) (p2 : Int32) (hQ : ∀ (r : Int32) (M' : gM) (L' : gL), Kp S0 M L M' L' → Q (some (.int r)) M' L' (rf ld)) : Tm l y_Main_freest (0, 0, 447) 447 [.ref 0, .int p1, .int p2] M L (rf ld) Q := by
  refine Tm.of (by decide) (Nat.le_of_ble_eq_true rfl) ?_
  show Wp l y_Main_freest (0, 0, 447) 447 0 0 0 [(0, .ref 0), (1, .int p1), (2, .int p2)] [] M L (rf ld) Q
  refine g_iload_n (pc1 := 1) d_Main_freest_0 rfl 1 rfl ?_
  refine g_aload_n (pc1 := 2) d_Main_freest_1 rfl 0 rfl ?_
  refine g_getr (pc1 := 5) d_Main_freest_2 rfl ⟨_, fo_Main_26⟩ sh_0 (by decide) (rf_0_2 ld) ?_
  refine g_geti (pc1 := 8) d_Main_freest_5 rfl ⟨_, fo_Main_157⟩ (shLa_0 hld) (ltLa_0 hld) ?_
  refine g_callS0 (pc1 := 11) (As := [.int p1, .int (M ld 2)]) (rest := []) d_Main_freest_8 rfl mo_Main_112 ms_Main_isOne (by decide) rfl rfl (Nat.le_of_ble_eq_true rfl) ?_
  refine t1_Main_isOne hld _ _ (fun r3674 hr3674 => ?_)
  refine g_if_eq (pc1 := 14) (tgt := 22) d_Main_freest_11 (by decide) rfl (fun h3675 => ?_) (fun h3675 => ?_)
  · refine g_iconst (pc1 := 23) (v := (-1)) d_Main_freest_22 rfl (by decide) ?_
    refine g_ireturn (Or.inl rfl) d_Main_freest_23 rfl ?_
    exact hQ _ _ _ Kp.rf
  · refine g_iload_n (pc1 := 15) d_Main_freest_14 rfl 2 rfl ?_
    refine g_iconst (pc1 := 16) (v := 2) d_Main_freest_15 rfl (by decide) ?_
    refine g_callS0 (pc1 := 19) (As := [.int p2, .int 2]) (rest := []) d_Main_freest_16 rfl mo_Main_112 ms_Main_isOne (by decide) rfl rfl (Nat.le_of_ble_eq_true rfl) ?_
    refine t1_Main_isOne hld _ _ (fun r3676 hr3676 => ?_)
    refine g_if_ne (pc1 := 22) (tgt := 24) d_Main_freest_19 (by decide) rfl (fun h3677 => ?_) (fun h3677 => ?_)
    · refine g_aload_n (pc1 := 25) d_Main_freest_24 rfl 0 rfl ?_
      refine g_getr (pc1 := 28) d_Main_freest_25 rfl ⟨_, fo_Main_26⟩ sh_0 (by decide) (rf_0_2 ld) ?_
      refine g_geti (pc1 := 31) d_Main_freest_28 rfl ⟨_, fo_Main_131⟩ (shLa_0 hld) (ltLa_0 hld) ?_
      refine g_if_ne (pc1 := 34) (tgt := 37) d_Main_freest_31 (by decide) rfl (fun h3678 => ?_) (fun h3678 => ?_)
      · refine g_aload_n (pc1 := 38) d_Main_freest_37 rfl 0 rfl ?_
        refine g_iload_n (pc1 := 39) d_Main_freest_38 rfl 1 rfl ?_
        refine g_callV0 (pc1 := 42) (As := [.int p1]) (rest := []) d_Main_freest_39 rfl mo_Main_243 mi_Main_freestDish mv_Main_freestDish rfl sh_0 (by decide) (by decide) rfl rfl (Nat.le_of_ble_eq_true rfl) ?_
        refine t1_Main_freestDish hld _ (fun r3679 M3680 L3681 k3682 => ?_)
        refine g_istore_n (pc1 := 43) (lv' := [(0, .ref 0), (1, .int p1), (2, .int p2), (3, .int r3679)]) d_Main_freest_42 rfl rfl (by decide) [1, 2, 3, 0] rfl ?_
        refine g_iload_n (pc1 := 44) d_Main_freest_43 rfl 2 rfl ?_
        refine g_if_ne (pc1 := 47) (tgt := 51) d_Main_freest_44 (by decide) rfl (fun h3683 => ?_) (fun h3683 => ?_)
        · refine g_aload_n (pc1 := 52) d_Main_freest_51 rfl 0 rfl ?_
          refine g_iload_n (pc1 := 53) d_Main_freest_52 rfl 1 rfl ?_
          refine g_iload_n (pc1 := 54) d_Main_freest_53 rfl 3 rfl ?_
          refine g_callV0 (pc1 := 57) (As := [.int p1, .int r3679]) (rest := []) d_Main_freest_54 rfl mo_Main_246 mi_Main_freeBehind mv_Main_freeBehind rfl sh_0 (by decide) (by decide) rfl rfl (Nat.le_of_ble_eq_true rfl) ?_
          refine t1_Main_freeBehind hld _ _ (fun r3684 M3685 L3686 k3687 => ?_)
          refine g_callS0 (pc1 := 60) (As := [.int r3684]) (rest := []) d_Main_freest_57 rfl mo_Main_249 ms_Int_bitCount (by decide) rfl rfl (Nat.le_of_ble_eq_true rfl) ?_
          refine t1_Int_bitCount hld _ (fun r3688 => ?_)
          refine g_ireturn (Or.inl rfl) d_Main_freest_60 rfl ?_
          exact hQ _ _ _ (Kp.trans (Kp.trans Kp.rf k3682) k3687)
        · refine g_iload_n (pc1 := 48) d_Main_freest_47 rfl 3 rfl ?_
          refine g_goto (tgt := 60) d_Main_freest_48 (by decide) ?_
          refine g_ireturn (Or.inl rfl) d_Main_freest_60 rfl ?_
          exact hQ _ _ _ (Kp.trans Kp.rf k3682)
      · refine g_bipush (pc1 := 36) (v := (-2)) d_Main_freest_34 rfl (by decide) ?_
        refine g_ireturn (Or.inl rfl) d_Main_freest_36 rfl ?_
        exact hQ _ _ _ Kp.rf
    · refine g_iconst (pc1 := 23) (v := (-1)) d_Main_freest_22 rfl (by decide) ?_
      refine g_ireturn (Or.inl rfl) d_Main_freest_23 rfl ?_
      exact hQ _ _ _ Kp.rf
set_option maxHeartbeats 4000000 in
set_option maxRecDepth 20000 in
theorem t1_Main_menu {l : Launch} {ld : Nat} (hld : isLa ld) {M : gM} {L : gL} {Q : Option Value → gM → gL → gR → Prop} (p1 : Int32) (p2 : Int32) (p3 : Int32) (p4 : Int32) (hQ : ∀ (r : Int32) (M' : gM) (L' : gL), Kp S1 M L M' L' → Q (some (.int r)) M' L' (rf ld)) : Tm l y_Main_menu (0, 0, 447) 447 [.ref 0, .int p1, .int p2, .int p3, .int p4] M L (rf ld) Q := by
  refine Tm.of (by decide) (Nat.le_of_ble_eq_true rfl) ?_
  show Wp l y_Main_menu (0, 0, 447) 447 0 0 0 [(0, .ref 0), (1, .int p1), (2, .int p2), (3, .int p3), (4, .int p4)] [] M L (rf ld) Q
  refine g_iload_n (pc1 := 1) d_Main_menu_0 rfl 1 rfl ?_
  refine g_aload_n (pc1 := 2) d_Main_menu_1 rfl 0 rfl ?_
  refine g_getr (pc1 := 5) d_Main_menu_2 rfl ⟨_, fo_Main_26⟩ sh_0 (by decide) (rf_0_2 ld) ?_
  refine g_geti (pc1 := 8) d_Main_menu_5 rfl ⟨_, fo_Main_157⟩ (shLa_0 hld) (ltLa_0 hld) ?_
  refine g_callS0 (pc1 := 11) (As := [.int p1, .int (M ld 2)]) (rest := []) d_Main_menu_8 rfl mo_Main_112 ms_Main_isOne (by decide) rfl rfl (Nat.le_of_ble_eq_true rfl) ?_
  refine t1_Main_isOne hld _ _ (fun r3689 hr3689 => ?_)
  refine g_if_eq (pc1 := 14) (tgt := 40) d_Main_menu_11 (by decide) rfl (fun h3690 => ?_) (fun h3690 => ?_)
  · refine g_iconst (pc1 := 41) (v := (-1)) d_Main_menu_40 rfl (by decide) ?_
    refine g_ireturn (Or.inl rfl) d_Main_menu_41 rfl ?_
    exact hQ _ _ _ Kp.rf
  · refine g_iload_n (pc1 := 15) d_Main_menu_14 rfl 2 rfl ?_
    refine g_iconst (pc1 := 16) (v := 1) d_Main_menu_15 rfl (by decide) ?_
    refine g_icmp_lt (pc1 := 19) (tgt := 40) d_Main_menu_16 (by decide) rfl (fun h3691 => ?_) (fun h3691 => ?_)
    · refine g_iconst (pc1 := 41) (v := (-1)) d_Main_menu_40 rfl (by decide) ?_
      refine g_ireturn (Or.inl rfl) d_Main_menu_41 rfl ?_
      exact hQ _ _ _ Kp.rf
    · refine g_iload_n (pc1 := 20) d_Main_menu_19 rfl 2 rfl ?_
      refine g_iconst (pc1 := 21) (v := 4) d_Main_menu_20 rfl (by decide) ?_
      refine g_icmp_gt (pc1 := 24) (tgt := 40) d_Main_menu_21 (by decide) rfl (fun h3692 => ?_) (fun h3692 => ?_)
      · refine g_iconst (pc1 := 41) (v := (-1)) d_Main_menu_40 rfl (by decide) ?_
        refine g_ireturn (Or.inl rfl) d_Main_menu_41 rfl ?_
        exact hQ _ _ _ Kp.rf
      · refine g_iload_n (pc1 := 25) d_Main_menu_24 rfl 3 rfl ?_
        refine g_iconst (pc1 := 26) (v := 1) d_Main_menu_25 rfl (by decide) ?_
        refine g_aload_n (pc1 := 27) d_Main_menu_26 rfl 0 rfl ?_
        refine g_getr (pc1 := 30) d_Main_menu_27 rfl ⟨_, fo_Main_26⟩ sh_0 (by decide) (rf_0_2 ld) ?_
        refine g_geti (pc1 := 33) d_Main_menu_30 rfl ⟨_, fo_Main_177⟩ (shLa_0 hld) (ltLa_0 hld) ?_
        refine g_ishl (pc1 := 34) d_Main_menu_33 rfl ?_
        refine g_callS0 (pc1 := 37) (As := [.int p3, .int (1 <<< ((M ld 3) &&& 31))]) (rest := []) d_Main_menu_34 rfl mo_Main_112 ms_Main_isOne (by decide) rfl rfl (Nat.le_of_ble_eq_true rfl) ?_
        refine t1_Main_isOne hld _ _ (fun r3693 hr3693 => ?_)
        refine g_if_ne (pc1 := 40) (tgt := 42) d_Main_menu_37 (by decide) rfl (fun h3694 => ?_) (fun h3694 => ?_)
        · refine g_iload (pc1 := 44) d_Main_menu_42 rfl 4 rfl ?_
          refine g_iconst (pc1 := 45) (v := (-1)) d_Main_menu_44 rfl (by decide) ?_
          refine g_icmp_lt (pc1 := 48) (tgt := 54) d_Main_menu_45 (by decide) rfl (fun h3695 => ?_) (fun h3695 => ?_)
          · refine g_iconst (pc1 := 55) (v := (-1)) d_Main_menu_54 rfl (by decide) ?_
            refine g_ireturn (Or.inl rfl) d_Main_menu_55 rfl ?_
            exact hQ _ _ _ Kp.rf
          · refine g_iload (pc1 := 50) d_Main_menu_48 rfl 4 rfl ?_
            refine g_iload_n (pc1 := 51) d_Main_menu_50 rfl 2 rfl ?_
            refine g_icmp_lt (pc1 := 54) (tgt := 56) d_Main_menu_51 (by decide) rfl (fun h3696 => ?_) (fun h3696 => ?_)
            · refine g_aload_n (pc1 := 57) d_Main_menu_56 rfl 0 rfl ?_
              refine g_getr (pc1 := 60) d_Main_menu_57 rfl ⟨_, fo_Main_74⟩ sh_0 (by decide) (rf_0_10 ld) ?_
              refine g_aload_n (pc1 := 61) d_Main_menu_60 rfl 0 rfl ?_
              refine g_getr (pc1 := 64) d_Main_menu_61 rfl ⟨_, fo_Main_26⟩ sh_0 (by decide) (rf_0_2 ld) ?_
              refine g_aload_n (pc1 := 65) d_Main_menu_64 rfl 0 rfl ?_
              refine g_getr (pc1 := 68) d_Main_menu_65 rfl ⟨_, fo_Main_36⟩ sh_0 (by decide) (rf_0_4 ld) ?_
              refine g_iload_n (pc1 := 69) d_Main_menu_68 rfl 1 rfl ?_
              refine g_iload_n (pc1 := 70) d_Main_menu_69 rfl 2 rfl ?_
              refine g_iload_n (pc1 := 71) d_Main_menu_70 rfl 3 rfl ?_
              refine g_callV0 (pc1 := 74) (As := [.ref ld, .ref 64, .int p1, .int p2, .int p3]) (rest := []) d_Main_menu_71 rfl mo_Main_257 mi_MenuSearch_find mv_MenuSearch_find rfl sh_396 (by decide) (by decide) rfl rfl (Nat.le_of_ble_eq_true rfl) ?_
              refine t1_MenuSearch_find hld ld hld 64 isSt_64 _ _ _ (fun r3697 M3698 L3699 hr3697 k3700 => ?_)
              refine g_if_ne (pc1 := 77) (tgt := 91) d_Main_menu_74 (by decide) rfl (fun h3701 => ?_) (fun h3701 => ?_)
              · refine g_iload (pc1 := 93) d_Main_menu_91 rfl 4 rfl ?_
                refine g_iconst (pc1 := 94) (v := (-1)) d_Main_menu_93 rfl (by decide) ?_
                refine g_icmp_ne (pc1 := 97) (tgt := 105) d_Main_menu_94 (by decide) rfl (fun h3702 => ?_) (fun h3702 => ?_)
                · refine g_aload_n (pc1 := 106) d_Main_menu_105 rfl 0 rfl ?_
                  refine g_getr (pc1 := 109) d_Main_menu_106 rfl ⟨_, fo_Main_74⟩ sh_0 (by decide) (rf_0_10 ld) ?_
                  refine g_getr (pc1 := 112) d_Main_menu_109 rfl ⟨_, fo_Main_261⟩ sh_396 (by decide) (rf_396_3 ld) ?_
                  refine g_iload (pc1 := 114) d_Main_menu_112 rfl 4 rfl ?_
                  refine g_callS0 (pc1 := 117) (As := [.ref 400, .int p4]) (rest := []) d_Main_menu_114 rfl mo_Main_120 ms_Main_at (by decide) rfl rfl (Nat.le_of_ble_eq_true rfl) ?_
                  refine t1_Main_at hld 400 sh_400 (by decide) (by decide) _ (fun r3703 => ?_)
                  refine g_istore (pc1 := 119) (lv' := [(0, .ref 0), (1, .int p1), (2, .int p2), (3, .int p3), (4, .int p4), (5, .int r3703)]) d_Main_menu_117 rfl (by decide) [1, 2, 3, 4, 5, 0] rfl ?_
                  refine g_iload (pc1 := 121) d_Main_menu_119 rfl 5 rfl ?_
                  refine g_if_ne (pc1 := 124) (tgt := 129) d_Main_menu_121 (by decide) rfl (fun h3704 => ?_) (fun h3704 => ?_)
                  · refine g_iload (pc1 := 131) d_Main_menu_129 rfl 5 rfl ?_
                    refine g_iconst (pc1 := 132) (v := 1) d_Main_menu_131 rfl (by decide) ?_
                    refine g_isub (pc1 := 133) d_Main_menu_132 rfl ?_
                    refine g_ireturn (Or.inl rfl) d_Main_menu_133 rfl ?_
                    exact hQ _ _ _ (Kp.trans Kp.rf k3700)
                  · refine g_bipush (pc1 := 126) (v := (-2)) d_Main_menu_124 rfl (by decide) ?_
                    refine g_goto (tgt := 133) d_Main_menu_126 (by decide) ?_
                    refine g_ireturn (Or.inl rfl) d_Main_menu_133 rfl ?_
                    exact hQ _ _ _ (Kp.trans Kp.rf k3700)
                · refine g_aload_n (pc1 := 98) d_Main_menu_97 rfl 0 rfl ?_
                  refine g_getr (pc1 := 101) d_Main_menu_98 rfl ⟨_, fo_Main_74⟩ sh_0 (by decide) (rf_0_10 ld) ?_
                  refine g_geti (pc1 := 104) d_Main_menu_101 rfl ⟨_, fo_Main_258⟩ sh_396 (by decide) ?_
                  refine g_ireturn (Or.inl rfl) d_Main_menu_104 rfl ?_
                  exact hQ _ _ _ (Kp.trans Kp.rf k3700)
              · refine g_iload (pc1 := 79) d_Main_menu_77 rfl 4 rfl ?_
                refine g_iconst (pc1 := 80) (v := (-1)) d_Main_menu_79 rfl (by decide) ?_
                refine g_icmp_ne (pc1 := 83) (tgt := 88) d_Main_menu_80 (by decide) rfl (fun h3705 => ?_) (fun h3705 => ?_)
                · refine g_bipush (pc1 := 90) (v := (-3)) d_Main_menu_88 rfl (by decide) ?_
                  refine g_ireturn (Or.inl rfl) d_Main_menu_90 rfl ?_
                  exact hQ _ _ _ (Kp.trans Kp.rf k3700)
                · refine g_bipush (pc1 := 85) (v := (-2)) d_Main_menu_83 rfl (by decide) ?_
                  refine g_goto (tgt := 90) d_Main_menu_85 (by decide) ?_
                  refine g_ireturn (Or.inl rfl) d_Main_menu_90 rfl ?_
                  exact hQ _ _ _ (Kp.trans Kp.rf k3700)
            · refine g_iconst (pc1 := 55) (v := (-1)) d_Main_menu_54 rfl (by decide) ?_
              refine g_ireturn (Or.inl rfl) d_Main_menu_55 rfl ?_
              exact hQ _ _ _ Kp.rf
        · refine g_iconst (pc1 := 41) (v := (-1)) d_Main_menu_40 rfl (by decide) ?_
          refine g_ireturn (Or.inl rfl) d_Main_menu_41 rfl ?_
          exact hQ _ _ _ Kp.rf
set_option maxHeartbeats 4000000 in
set_option maxRecDepth 20000 in
theorem t1_Main_supper {l : Launch} {ld : Nat} (hld : isLa ld) {M : gM} {L : gL} {Q : Option Value → gM → gL → gR → Prop}  (hQ : ∀ (r : Int32) (M' : gM) (L' : gL), Kp S0 M L M' L' → Q (some (.int r)) M' L' (rf ld)) : Tm l y_Main_supper (0, 0, 447) 447 [.ref 0] M L (rf ld) Q := by
  refine Tm.of (by decide) (Nat.le_of_ble_eq_true rfl) ?_
  show Wp l y_Main_supper (0, 0, 447) 447 0 0 0 [(0, .ref 0)] [] M L (rf ld) Q
  refine g_aload_n (pc1 := 1) d_Main_supper_0 rfl 0 rfl ?_
  refine g_getr (pc1 := 4) d_Main_supper_1 rfl ⟨_, fo_Main_26⟩ sh_0 (by decide) (rf_0_2 ld) ?_
  refine g_geti (pc1 := 7) d_Main_supper_4 rfl ⟨_, fo_Main_131⟩ (shLa_0 hld) (ltLa_0 hld) ?_
  refine g_if_ne (pc1 := 10) (tgt := 12) d_Main_supper_7 (by decide) rfl (fun h3706 => ?_) (fun h3706 => ?_)
  · refine g_iconst (pc1 := 13) (v := 0) d_Main_supper_12 rfl (by decide) ?_
    refine g_istore_n (pc1 := 14) (lv' := [(0, .ref 0), (1, .int 0)]) d_Main_supper_13 rfl rfl (by decide) [1, 0] rfl ?_
    refine g_iconst (pc1 := 15) (v := 0) d_Main_supper_14 rfl (by decide) ?_
    refine g_istore_n (pc1 := 16) (lv' := [(0, .ref 0), (1, .int 0), (2, .int 0)]) d_Main_supper_15 rfl rfl (by decide) [1, 2, 0] rfl ?_
    have LP3710 : ∀ (f3707 : Nat) (v3711 : Int32) (v3712 : Int32) (M3713 : gM) (L3714 : gL), Kp S0 M L M3713 L3714 → ¬ v3712 < 0 → ((M ld 2).toInt - v3712.toInt).toNat < f3707 → Wp l y_Main_supper (0, 0, 447) 447 0 0 16 [(0, .ref 0), (1, .int v3711), (2, .int v3712)] [] M3713 L3714 (rf ld) Q := by
      intro f3707
      induction f3707 with
      | zero => intro v3711 v3712 M3713 L3714 _ _ hm3709; exact absurd hm3709 (Nat.not_lt_zero _)
      | succ f3707 ih3708 =>
        intro v3711 v3712 M3713 L3714 k3715 n3716 hm3709
        refine g_iload_n (pc1 := 17) d_Main_supper_16 rfl 2 rfl ?_
        refine g_aload_n (pc1 := 18) d_Main_supper_17 rfl 0 rfl ?_
        refine g_getr (pc1 := 21) d_Main_supper_18 rfl ⟨_, fo_Main_26⟩ sh_0 (by decide) (rf_0_2 ld) ?_
        refine g_geti (pc1 := 24) d_Main_supper_21 rfl ⟨_, fo_Main_157⟩ (shLa_0 hld) (ltLa_0 hld) ?_
        refine g_icmp_ge (pc1 := 27) (tgt := 49) d_Main_supper_24 (by decide) rfl (fun h3717 => ?_) (fun h3717 => ?_)
        · refine g_iload_n (pc1 := 50) d_Main_supper_49 rfl 1 rfl ?_
          refine g_ireturn (Or.inl rfl) d_Main_supper_50 rfl ?_
          exact hQ _ _ _ k3715
        · refine g_iload_n (pc1 := 28) d_Main_supper_27 rfl 1 rfl ?_
          refine g_aload_n (pc1 := 29) d_Main_supper_28 rfl 0 rfl ?_
          refine g_iload_n (pc1 := 30) d_Main_supper_29 rfl 2 rfl ?_
          refine g_aload_n (pc1 := 31) d_Main_supper_30 rfl 0 rfl ?_
          refine g_iload_n (pc1 := 32) d_Main_supper_31 rfl 2 rfl ?_
          refine g_callV0 (pc1 := 35) (As := [.int v3712]) (rest := [.int v3712, .ref 0, .int v3711]) d_Main_supper_32 rfl mo_Main_243 mi_Main_freestDish mv_Main_freestDish rfl sh_0 (by decide) (by decide) rfl rfl (Nat.le_of_ble_eq_true rfl) ?_
          refine t1_Main_freestDish hld _ (fun r3718 M3719 L3720 k3721 => ?_)
          refine g_callV0 (pc1 := 38) (As := [.int v3712, .int r3718]) (rest := [.int v3711]) d_Main_supper_35 rfl mo_Main_246 mi_Main_freeBehind mv_Main_freeBehind rfl sh_0 (by decide) (by decide) rfl rfl (Nat.le_of_ble_eq_true rfl) ?_
          refine t1_Main_freeBehind hld _ _ (fun r3722 M3723 L3724 k3725 => ?_)
          refine g_callS0 (pc1 := 41) (As := [.int r3722]) (rest := [.int v3711]) d_Main_supper_38 rfl mo_Main_249 ms_Int_bitCount (by decide) rfl rfl (Nat.le_of_ble_eq_true rfl) ?_
          refine t1_Int_bitCount hld _ (fun r3726 => ?_)
          refine g_iadd (pc1 := 42) d_Main_supper_41 rfl ?_
          refine Wp.topi (fun x3727 ex3727 => ?_)
          refine g_istore_n (pc1 := 43) (lv' := [(0, .ref 0), (1, .int x3727), (2, .int v3712)]) d_Main_supper_42 rfl rfl (by decide) [1, 0, 2] rfl ?_
          obtain ⟨x3728, ex3728⟩ : ∃ y : Int32, y = v3712 + 1 := ⟨_, rfl⟩
          refine g_iinc (pc1 := 46) (v := x3728) (lv' := [(0, .ref 0), (1, .int x3727), (2, .int x3728)]) d_Main_supper_43 rfl 2 rfl (by rw [ex3728]; rfl) (by decide) [1, 2, 0] rfl ?_
          refine g_goto (tgt := 16) d_Main_supper_46 (by decide) ?_
          exact ih3708 x3727 x3728 M3723 L3724 (Kp.trans (Kp.trans k3715 k3721) k3725) (nn_up (y := (M ld 2)) (by rw [← k3715.m (S0_La_0f hld) 2]; exact h3717) ex3728 n3716) (md_up (by rw [← k3715.m (S0_La_0f hld) 2]; exact h3717) ex3728 hm3709)
    exact LP3710 _ 0 0 M L Kp.rf (by decide) (Nat.lt_succ_self _)
  · refine g_iconst (pc1 := 11) (v := 0) d_Main_supper_10 rfl (by decide) ?_
    refine g_ireturn (Or.inl rfl) d_Main_supper_11 rfl ?_
    exact hQ _ _ _ Kp.rf
